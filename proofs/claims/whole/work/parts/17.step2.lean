section PMP
variable {p : Program} {l : Launch} {e : Env} {R : Room} {s : State} {m : MethodId} {args : Array Value} {below : List Frame} {meth : Method} {c : Code} {H : Heap} {locs : List Loc} {Q : State → Prop} {D : va_G} {G : pm_G} {ad : Nat → Nat} {sa sv k i : Nat} {L st : List pV} {h : pH} {ls : Array Slot}
set_option maxHeartbeats 4000000 in
/-- ONE STEP: no call, no return -/
theorem pm_one (hx : p.tables.exec = Jvm.exec) (hb : c.code = (pm_mt k).2.1) (hml : c.maxLocals = (pm_inf k).2.2.1) (hown : s.vm.findClass (pm_rn (pm_mt k).2.2.2.1) = some m.cls) (hts : ∀ w ∈ pm_TB, w.before args s = true) (hK : va_K D vwCl (pm_tys G) s) (hi : pm_inj ad) (hst : pm_St sa sv (pm_A ad s.heap.size) s s.heap) (hR : (pm_inf k).2.2.2 ≤ R.frames ∧ 33 * (pm_inf k).2.2.2 ≤ R.locals) (h1d : 1 ≤ (pm_inf k).2.2.2)
    {q : pI} (hck : pm_chkAt k i q = true) (h7 : ∀ idx zs, q = (.invokevirtual idx, [], zs) → 7 ≤ (pm_inf k).2.2.2) (hcall : pm_call q = none) (hret : pm_retK q = none) (hin : (pm_step q (i, L, st, h)).2.1 = i + 1 → i + 1 < (pm_mt k).2.2.2.2.length) (hr : pm_Rel D G ad sa (pm_inf k).2.2.1 s (i, L, st, h) H locs ls) (h1 : (pm_step q (i, L, st, h)).1)
    (kk : ∀ H' locs' ls', pm_Rel D G ad sa (pm_inf k).2.2.1 s (pm_step q (i, L, st, h)).2 H' locs' ls' → pm_Go p l e R s m args below meth c Q ad sa (pm_mt k).2.2.2.2 (pm_step q (i, L, st, h)).2 H' locs' ls') :
    pm_Go p l e R s m args below meth c Q ad sa (pm_mt k).2.2.2.2 (i, L, st, h) H locs ls := by
  obtain ⟨len, hd, hlen, hnx, hc⟩ := pm_chkAt_spec hck
  have hnx' : i + 1 < (pm_mt k).2.2.2.2.length → (pm_mt k).2.2.2.2.getD (i + 1) 0 = (pm_mt k).2.2.2.2.getD i 0 + len := fun q => by rw [pm_getD_ind (b := (pm_mt k).2.2.2.2.getD i 0 + len) q, hnx]
  have hsn := pm_seq_next q (i, L, st, h)
  have hR1 : 1 ≤ R.frames ∧ 33 ≤ R.locals := ⟨by omega, by omega⟩
  obtain ⟨ins, ns, zs⟩ := q
  cases ins with
  | iconst z =>
    rcases hlen with q | rfl
    · cases q
    have hn := hnx' (hin (hsn rfl h1))
    simp only [pm_chkI, Bool.and_eq_true, decide_eq_true_eq] at hc
    have hv : pm_i32 (zs.getD 0 0) := by have := hc.2; simp only [pm_in32, Bool.and_eq_true, decide_eq_true_eq] at this; exact this
    exact pm_r_push (v := (0, zs.getD 0 0)) hr rfl hn hv (fun hk => lv_iconst hx hb hd hc.1 hk) kk
  | bipush z =>
    rcases hlen with q | rfl
    · cases q
    have hn := hnx' (hin (hsn rfl h1))
    simp only [pm_chkI, Bool.and_eq_true, decide_eq_true_eq] at hc
    have hv : pm_i32 (zs.getD 0 0) := by have := hc.2; simp only [pm_in32, Bool.and_eq_true, decide_eq_true_eq] at this; exact this
    exact pm_r_push (v := (0, zs.getD 0 0)) hr rfl hn hv (fun hk => lv_bipush hx hb hd hc.1 hk) kk
  | sipush z =>
    rcases hlen with q | rfl
    · cases q
    have hn := hnx' (hin (hsn rfl h1))
    simp only [pm_chkI, Bool.and_eq_true, decide_eq_true_eq] at hc
    have hv : pm_i32 (zs.getD 0 0) := by have := hc.2; simp only [pm_in32, Bool.and_eq_true, decide_eq_true_eq] at this; exact this
    exact pm_r_push (v := (0, zs.getD 0 0)) hr rfl hn hv (fun hk => lv_sipush hx hb hd hc.1 hk) kk
  | lconst z =>
    rcases hlen with q | rfl
    · cases q
    have hn := hnx' (hin (hsn rfl h1))
    simp only [pm_chkI, Bool.and_eq_true, decide_eq_true_eq] at hc
    have hv : pm_i64 (zs.getD 0 0) := by
      have := hc.2
      simp only [pm_in32, Bool.and_eq_true, decide_eq_true_eq] at this
      exact ⟨by omega, by omega⟩
    exact pm_r_push (v := (1, zs.getD 0 0)) hr rfl hn hv (fun hk => lv_lconst hx hb hd hc.1 hk) kk
  | ldc idx =>
    rcases hlen with q | rfl
    · cases q
    have hn := hnx' (hin (hsn rfl h1))
    simp only [pm_chkI] at hc
    by_cases h0 : ns.getD 0 0 = 0
    · rw [if_pos h0] at hc
      have hw := pm_cn (Or.inl rfl) hc
      rw [if_pos rfl] at hw
      have e : pm_step (.ldc idx, ns, zs) (i, L, st, h) = pm_push (0, zs.getD 0 0) (i, L, st, h) := by
        show pm_push (ns.getD 0 0, zs.getD 0 0) (i, L, st, h) = _
        rw [h0]
      rw [e] at kk
      exact pm_r_push (v := (0, zs.getD 0 0)) hr rfl hn hw.2 (fun hk => lv_ldc hx hb hown (hts _ hw.1) hd hk) kk
    · rw [if_neg h0] at hc
      simp only [Bool.and_eq_true, beq_iff_eq] at hc
      obtain ⟨⟨h4, h9⟩, h93⟩ := hc
      have e : pm_step (.ldc idx, ns, zs) (i, L, st, h) = pm_push (4000000, zs.getD 0 0) (i, L, st, h) := by
        show pm_push (ns.getD 0 0, zs.getD 0 0) (i, L, st, h) = _
        rw [h4]
      rw [e] at kk
      subst h93
      rw [h9] at hown
      exact pm_r_push (v := (4000000, zs.getD 0 0)) hr rfl hn trivial (fun hk => va_ldcS hx hb hown hst.1 hd hk) kk
  | ldc_w idx =>
    rcases hlen with q | rfl
    · cases q
    have hn := hnx' (hin (hsn rfl h1))
    simp only [pm_chkI] at hc
    have hw := pm_cn (Or.inl rfl) hc
    rw [if_pos rfl] at hw
    exact pm_r_push (v := (0, zs.getD 0 0)) hr rfl hn hw.2 (fun hk => lv_ldcw hx hb hown (hts _ hw.1) hd hk) kk
  | ldc2_w idx =>
    rcases hlen with q | rfl
    · cases q
    have hn := hnx' (hin (hsn rfl h1))
    simp only [pm_chkI] at hc
    have hw := pm_cn (Or.inr rfl) hc
    rw [if_neg (by decide)] at hw
    exact pm_r_push (v := (1, zs.getD 0 0)) hr rfl hn hw.2 (fun hk => lv_ldc2 hx hb hown (hts _ hw.1) hd hk) kk
  | iload j =>
    rcases hlen with q | rfl
    · cases q
    have hn := hnx' (hin (hsn rfl h1))
    exact pm_r_load (j := j) (t := 0) hr rfl hn h1 (by decide) (fun v hv hl hk => by obtain ⟨t, x⟩ := v; cases hv; exact lv_iload hx hb hd hl hk) kk
  | iload_n j =>
    rcases hlen with q | rfl
    · cases q
    have hn := hnx' (hin (hsn rfl h1))
    exact pm_r_load (j := j) (t := 0) hr rfl hn h1 (by decide) (fun v hv hl hk => by obtain ⟨t, x⟩ := v; cases hv; exact lv_iload_n hx hb hd rfl hl hk) kk
  | lload j =>
    rcases hlen with q | rfl
    · cases q
    have hn := hnx' (hin (hsn rfl h1))
    exact pm_r_load (j := j) (t := 1) hr rfl hn h1 (by decide) (fun v hv hl hk => by obtain ⟨t, x⟩ := v; cases hv; exact lv_lload hx hb hd hl hk) kk
  | lload_n j =>
    rcases hlen with q | rfl
    · cases q
    have hn := hnx' (hin (hsn rfl h1))
    exact pm_r_load (j := j) (t := 1) hr rfl hn h1 (by decide) (fun v hv hl hk => by obtain ⟨t, x⟩ := v; cases hv; exact lv_lload_n hx hb hd rfl hl hk) kk
  | aload j =>
    rcases hlen with q | rfl
    · cases q
    have hn := hnx' (hin (hsn rfl h1))
    have hR' : pm_isR (L.getD j pU).1 := h1
    exact pm_r_load (j := j) (t := (L.getD j pU).1) hr rfl hn rfl (by have := hR'.2; omega) (fun v hv hl hk => by
      obtain ⟨a, ha⟩ := pm_emb_isref (ad := ad) (sa := sa) (v := v) (by rw [hv]; exact hR')
      rw [ha] at hl hk
      exact lv_aload hx hb hd hl hk) kk
  | aload_n j =>
    rcases hlen with q | rfl
    · cases q
    have hn := hnx' (hin (hsn rfl h1))
    have hR' : pm_isR (L.getD j pU).1 := h1
    exact pm_r_load (j := j) (t := (L.getD j pU).1) hr rfl hn rfl (by have := hR'.2; omega) (fun v hv hl hk => by
      obtain ⟨a, ha⟩ := pm_emb_isref (ad := ad) (sa := sa) (v := v) (by rw [hv]; exact hR')
      rw [ha] at hl hk
      exact lv_aload_n hx hb hd rfl hl hk) kk
  | istore j =>
    rcases hlen with q | rfl
    · cases q
    have hn := hnx' (hin (hsn rfl h1))
    simp only [pm_chkI, decide_eq_true_eq] at hc
    rcases st with _ | ⟨⟨t, x⟩, st⟩
    · exact h1.elim
    · have e1 : t = 0 := h1
      subst e1
      exact pm_r_store1 (j := j) (v := (0, x)) hr rfl hn (show (0 : Nat) ≠ 1 by decide) (fun row => lv_istore hx hb hd (pm_LR_has hr.2.2.2.2.2) hc rfl row) kk
  | istore_n j =>
    rcases hlen with q | rfl
    · cases q
    have hn := hnx' (hin (hsn rfl h1))
    simp only [pm_chkI, decide_eq_true_eq] at hc
    rcases st with _ | ⟨⟨t, x⟩, st⟩
    · exact h1.elim
    · have e1 : t = 0 := h1
      subst e1
      exact pm_r_store1 (j := j) (v := (0, x)) hr rfl hn (show (0 : Nat) ≠ 1 by decide) (fun row => lv_istore_n hx hb hd rfl (pm_LR_has hr.2.2.2.2.2) hc rfl row) kk
  | lstore j =>
    rcases hlen with q | rfl
    · cases q
    have hn := hnx' (hin (hsn rfl h1))
    simp only [pm_chkI, decide_eq_true_eq] at hc
    rcases st with _ | ⟨⟨t, x⟩, st⟩
    · exact h1.elim
    · have e1 : t = 1 := h1
      subst e1
      exact pm_r_store2 (j := j) (v := (1, x)) hr rfl hn rfl (fun row => lv_lstore hx hb hd (pm_LR_has hr.2.2.2.2.2) hc rfl row) kk
  | lstore_n j =>
    rcases hlen with q | rfl
    · cases q
    have hn := hnx' (hin (hsn rfl h1))
    simp only [pm_chkI, decide_eq_true_eq] at hc
    rcases st with _ | ⟨⟨t, x⟩, st⟩
    · exact h1.elim
    · have e1 : t = 1 := h1
      subst e1
      exact pm_r_store2 (j := j) (v := (1, x)) hr rfl hn rfl (fun row => lv_lstore_n hx hb hd rfl (pm_LR_has hr.2.2.2.2.2) hc rfl row) kk
  | astore j =>
    rcases hlen with q | rfl
    · cases q
    have hn := hnx' (hin (hsn rfl h1))
    simp only [pm_chkI, decide_eq_true_eq] at hc
    rcases st with _ | ⟨v, st⟩
    · exact h1.elim
    · have hR' : pm_isR v.1 := h1
      obtain ⟨a, ha⟩ := pm_emb_isref (ad := ad) (sa := sa) hR'
      exact pm_r_store1 (j := j) (v := v) hr rfl hn (by have := hR'.1; omega) (fun row => by rw [ha] at row ⊢; exact lv_astore hx hb hd (pm_LR_has hr.2.2.2.2.2) hc rfl row) kk
  | astore_n j =>
    rcases hlen with q | rfl
    · cases q
    have hn := hnx' (hin (hsn rfl h1))
    simp only [pm_chkI, decide_eq_true_eq] at hc
    rcases st with _ | ⟨v, st⟩
    · exact h1.elim
    · have hR' : pm_isR v.1 := h1
      obtain ⟨a, ha⟩ := pm_emb_isref (ad := ad) (sa := sa) hR'
      exact pm_r_store1 (j := j) (v := v) hr rfl hn (by have := hR'.1; omega) (fun row => by rw [ha] at row ⊢; exact lv_astore_n hx hb hd rfl (pm_LR_has hr.2.2.2.2.2) hc rfl row) kk
  | iinc j z =>
    rcases hlen with q | rfl
    · cases q
    have hn := hnx' (hin (hsn rfl h1))
    simp only [pm_chkI, Bool.and_eq_true, decide_eq_true_eq] at hc
    have hj : j < L.length := by rw [hr.2.2.2.2.2.1]; exact hc.1.1
    have hg := pm_getD_some (d := pU) hj
    have ht : (L.getD j pU).1 = 0 := h1
    have hv := (hr.2.1 _ (List.mem_of_getElem? hg)).resolve_left (by rw [ht]; decide)
    have hkk : ∀ H' locs' ls', pm_Rel D G ad sa (pm_inf k).2.2.1 s (i + 1, pm_lset L j (0, pm_w ((L.getD j pU).2 + z)), st, h) H' locs' ls' → pm_Go p l e R s m args below meth c Q ad sa (pm_mt k).2.2.2.2 (i + 1, pm_lset L j (0, pm_w ((L.getD j pU).2 + z)), st, h) H' locs' ls' := kk
    generalize L.getD j pU = v at hg ht hv hkk
    obtain ⟨t, x⟩ := v
    cases ht
    obtain ⟨kx, hkx⟩ := List.getElem?_of_mem (pm_lv_mem (ad := ad) (sa := sa) (q := (j, .int (Int32.ofInt x))) |>.mpr ⟨(0, x), hg, show (0 : Nat) ≠ 5000000 by decide, rfl⟩)
    have hX : pm_i32 x := hv
    have hZ : pm_i32 z := ⟨by omega, by omega⟩
    unfold pm_Go
    refine lv_iinc (v := Int32.ofInt (pm_w (x + z))) hx hb hd (pm_LR_has hr.2.2.2.2.2) hkx (pm_add hX hZ) hc.1.1 rfl (fun ls' hl => ?_)
    have hk := hkk H locs ls' ⟨hr.1, fun u hu => (pm_lset_mem hu).elim Or.inl (fun q => q.elim (fun e => Or.inr (e ▸ pm_w_ok _)) (hr.2.1 u)), hr.2.2.1, hr.2.2.2.1, hr.2.2.2.2.1, pm_LR_set1 (v := (0, pm_w (x + z))) hr.2.2.2.2.2 (show (0 : Nat) ≠ 1 by decide) hl⟩
    unfold pm_Go at hk
    rw [show ((i + 1, pm_lset L j (0, pm_w (x + z)), st, h) : pS).1 = i + 1 from rfl, hn] at hk
    exact hk
  | iadd =>
    rcases hlen with q | rfl
    · cases q
    have hn := hnx' (hin (hsn rfl h1))
    refine pm_r_bin (f := fun x y => pm_w (x + y)) hr rfl hn h1 (fun x y _ _ => pm_w_ok _) (fun x y rest a b hk _ => ?_) kk
    refine lv_iadd hx hb hd ?_
    rw [pm_add a b]
    exact hk
  | isub =>
    rcases hlen with q | rfl
    · cases q
    have hn := hnx' (hin (hsn rfl h1))
    refine pm_r_bin (f := fun x y => pm_w (x - y)) hr rfl hn h1 (fun x y _ _ => pm_w_ok _) (fun x y rest a b hk _ => ?_) kk
    refine lv_isub hx hb hd ?_
    rw [pm_sub a b]
    exact hk
  | imul =>
    rcases hlen with q | rfl
    · cases q
    have hn := hnx' (hin (hsn rfl h1))
    refine pm_r_bin (f := fun x y => pm_w (x * y)) hr rfl hn h1 (fun x y _ _ => pm_w_ok _) (fun x y rest a b hk _ => ?_) kk
    refine lv_imul hx hb hd ?_
    rw [pm_mul a b]
    exact hk
  | ladd =>
    rcases hlen with q | rfl
    · cases q
    have hn := hnx' (hin (hsn rfl h1))
    refine pm_r_bin (f := fun x y => pm_wl (x + y)) hr rfl hn h1 (fun x y _ _ => pm_wl_ok _) (fun x y rest a b hk _ => ?_) kk
    refine lv_ladd hx hb hd ?_
    rw [pm_addL a b]
    exact hk
  | lsub =>
    rcases hlen with q | rfl
    · cases q
    have hn := hnx' (hin (hsn rfl h1))
    refine pm_r_bin (f := fun x y => pm_wl (x - y)) hr rfl hn h1 (fun x y _ _ => pm_wl_ok _) (fun x y rest a b hk _ => ?_) kk
    refine lv_lsub hx hb hd ?_
    rw [pm_subL a b]
    exact hk
  | lmul =>
    rcases hlen with q | rfl
    · cases q
    have hn := hnx' (hin (hsn rfl h1))
    refine pm_r_bin (f := fun x y => pm_wl (x * y)) hr rfl hn h1 (fun x y _ _ => pm_wl_ok _) (fun x y rest a b hk _ => ?_) kk
    refine lv_lmul hx hb hd ?_
    rw [pm_mulL a b]
    exact hk
  | idiv =>
    rcases hlen with q | rfl
    · cases q
    have hn := hnx' (hin (hsn rfl h1))
    refine pm_r_binz (f := fun x y => pm_w (x.tdiv y)) hr rfl hn h1 (fun x y _ _ _ => pm_w_ok _) (fun x y rest a b h0 hk => ?_) kk
    refine lv_idiv hx hb hd (fun q => h0 ((pm_eqI b ⟨by decide, by decide⟩).mp q)) ?_
    rw [pm_div a b]
    exact hk
  | ldiv =>
    rcases hlen with q | rfl
    · cases q
    have hn := hnx' (hin (hsn rfl h1))
    refine pm_r_binz (f := fun x y => pm_wl (x.tdiv y)) hr rfl hn h1 (fun x y _ _ _ => pm_wl_ok _) (fun x y rest a b h0 hk => ?_) kk
    refine lv_ldiv hx hb hd (fun q => h0 ((pm_eqL b ⟨by decide, by decide⟩).mp q)) ?_
    rw [pm_divL a b]
    exact hk
  | irem =>
    rcases hlen with q | rfl
    · cases q
    have hn := hnx' (hin (hsn rfl h1))
    refine pm_r_binz (f := fun x y => x.tmod y) hr rfl hn h1 (fun x y a _ _ => pm_tmod_ok a) (fun x y rest a b h0 hk => ?_) kk
    refine lv_irem hx hb hd (fun q => h0 ((pm_eqI b ⟨by decide, by decide⟩).mp q)) ?_
    rw [pm_rem a b h0]
    exact hk
  | lrem =>
    rcases hlen with q | rfl
    · cases q
    have hn := hnx' (hin (hsn rfl h1))
    refine pm_r_binz (f := fun x y => x.tmod y) hr rfl hn h1 (fun x y a _ _ => pm_tmod_ok64 a) (fun x y rest a b h0 hk => ?_) kk
    refine lv_lrem hx hb hd (fun q => h0 ((pm_eqL b ⟨by decide, by decide⟩).mp q)) ?_
    rw [pm_remL a b h0]
    exact hk
  | iand =>
    rcases hlen with q | rfl
    · cases q
    have hn := hnx' (hin (hsn rfl h1))
    refine pm_r_bin (f := pm_and) hr rfl hn h1 (fun x y _ _ => pm_rI _) (fun x y rest a b hk _ => ?_) kk
    refine lv_iand hx hb hd ?_
    rw [pm_emb_int, pm_and, Int32.ofInt_toInt] at hk
    exact hk
  | ior =>
    rcases hlen with q | rfl
    · cases q
    have hn := hnx' (hin (hsn rfl h1))
    refine pm_r_bin (f := pm_or) hr rfl hn h1 (fun x y _ _ => pm_rI _) (fun x y rest a b hk _ => ?_) kk
    refine lv_ior hx hb hd ?_
    rw [pm_emb_int, pm_or, Int32.ofInt_toInt] at hk
    exact hk
  | ixor =>
    rcases hlen with q | rfl
    · cases q
    have hn := hnx' (hin (hsn rfl h1))
    refine pm_r_bin (f := pm_xor) hr rfl hn h1 (fun x y _ _ => pm_rI _) (fun x y rest a b hk _ => ?_) kk
    refine lv_ixor hx hb hd ?_
    rw [pm_emb_int, pm_xor, Int32.ofInt_toInt] at hk
    exact hk
  | ishl =>
    rcases hlen with q | rfl
    · cases q
    have hn := hnx' (hin (hsn rfl h1))
    refine pm_r_bin (f := pm_shl) hr rfl hn h1 (fun x y _ _ => pm_rI _) (fun x y rest a b hk _ => ?_) kk
    refine lv_ishl hx hb hd ?_
    rw [pm_emb_int, pm_shl, Int32.ofInt_toInt] at hk
    exact hk
  | ishr =>
    rcases hlen with q | rfl
    · cases q
    have hn := hnx' (hin (hsn rfl h1))
    refine pm_r_bin (f := pm_shr) hr rfl hn h1 (fun x y _ _ => pm_rI _) (fun x y rest a b hk _ => ?_) kk
    refine lv_ishr hx hb hd ?_
    rw [pm_emb_int, pm_shr, Int32.ofInt_toInt] at hk
    exact hk
  | iushr =>
    rcases hlen with q | rfl
    · cases q
    have hn := hnx' (hin (hsn rfl h1))
    refine pm_r_bin (f := pm_ushr) hr rfl hn h1 (fun x y _ _ => pm_rI _) (fun x y rest a b hk _ => ?_) kk
    refine lv_iushr hx hb hd rfl ?_
    rw [pm_emb_int, pm_ushr, Int32.ofInt_toInt] at hk
    exact hk
  | land =>
    rcases hlen with q | rfl
    · cases q
    have hn := hnx' (hin (hsn rfl h1))
    refine pm_r_bin (f := pm_landl) hr rfl hn h1 (fun x y _ _ => pm_rL _) (fun x y rest a b hk _ => ?_) kk
    refine lv_land hx hb hd ?_
    rw [pm_emb_long, pm_landl, Int64.ofInt_toInt] at hk
    exact hk
  | lor =>
    rcases hlen with q | rfl
    · cases q
    have hn := hnx' (hin (hsn rfl h1))
    refine pm_r_bin (f := pm_lorl) hr rfl hn h1 (fun x y _ _ => pm_rL _) (fun x y rest a b hk _ => ?_) kk
    refine lv_lor hx hb hd ?_
    rw [pm_emb_long, pm_lorl, Int64.ofInt_toInt] at hk
    exact hk
  | lshl =>
    rcases hlen with q | rfl
    · cases q
    have hn := hnx' (hin (hsn rfl h1))
    refine pm_r_bin (f := pm_lshl) hr rfl hn h1 (fun x y _ _ => pm_rL _) (fun x y rest a b hk _ => ?_) kk
    refine lv_lshl hx hb hd rfl ?_
    rw [pm_emb_long, pm_lshl, Int64.ofInt_toInt] at hk
    exact hk
  | lushr =>
    rcases hlen with q | rfl
    · cases q
    have hn := hnx' (hin (hsn rfl h1))
    refine pm_r_bin (f := pm_lushr) hr rfl hn h1 (fun x y _ _ => pm_rL _) (fun x y rest a b hk _ => ?_) kk
    refine lv_lushr hx hb hd rfl ?_
    rw [pm_emb_long, pm_lushr, Int64.ofInt_toInt] at hk
    exact hk
  | lcmp =>
    rcases hlen with q | rfl
    · cases q
    have hn := hnx' (hin (hsn rfl h1))
    refine pm_r_bin (f := pm_lcmp) hr rfl hn h1 (fun x y _ _ => pm_lcmp_ok _ _) (fun x y rest a b hk _ => ?_) kk
    refine W.lcmp hx hb hd ?_
    rw [pm_cmpL a b]
    exact hk
  | ineg =>
    rcases hlen with q | rfl
    · cases q
    have hn := hnx' (hin (hsn rfl h1))
    refine pm_r_un (f := fun x => pm_w (-x)) hr rfl hn h1 (fun x _ => pm_w_ok _) (fun x rest a hk => ?_) kk
    refine lv_ineg hx hb hd ?_
    rw [pm_neg a]
    exact hk
  | lneg =>
    rcases hlen with q | rfl
    · cases q
    have hn := hnx' (hin (hsn rfl h1))
    refine pm_r_un (f := fun x => pm_wl (-x)) hr rfl hn h1 (fun x _ => pm_wl_ok _) (fun x rest a hk => ?_) kk
    refine lv_lneg hx hb hd ?_
    rw [pm_negL a]
    exact hk
  | i2l =>
    rcases hlen with q | rfl
    · cases q
    have hn := hnx' (hin (hsn rfl h1))
    refine pm_r_un (f := fun x => x) hr rfl hn h1 (fun x a => ⟨by have := a.1; omega, by have := a.2; omega⟩) (fun x rest a hk => ?_) kk
    exact lv_i2l hx hb hd (pm_i2l a) hk
  | l2i =>
    rcases hlen with q | rfl
    · cases q
    have hn := hnx' (hin (hsn rfl h1))
    refine pm_r_un (f := pm_w) hr rfl hn h1 (fun x _ => pm_w_ok _) (fun x rest a hk => ?_) kk
    exact lv_l2i hx hb hd (pm_l2i a) hk
  | i2c =>
    rcases hlen with q | rfl
    · cases q
    have hn := hnx' (hin (hsn rfl h1))
    refine pm_r_un (f := pm_i2c) hr rfl hn h1 (fun x _ => pm_rI _) (fun x rest a hk => ?_) kk
    refine lv_i2c hx hb hd rfl ?_
    rw [pm_emb_int, pm_i2c, Int32.ofInt_toInt] at hk
    exact hk
  | dup =>
    rcases hlen with q | rfl
    · cases q
    have hn := hnx' (hin (hsn rfl h1))
    rcases st with _ | ⟨v, st⟩
    · exact h1.elim
    · have hv : v.1 ≠ 1 := h1
      refine pm_r_stk (i' := i + 1) (st' := v :: v :: st) hr rfl hn (fun u hu => hr.1 u (by simp only [List.mem_cons] at hu ⊢; rcases hu with q | q | q <;> simp [q])) (fun hk => ?_) kk
      exact lv_dup hx hb hd (by rw [pm_emb_cat, pm_cat, if_neg hv]) hk
  | pop =>
    rcases hlen with q | rfl
    · cases q
    have hn := hnx' (hin (hsn rfl h1))
    rcases st with _ | ⟨v, st⟩
    · exact h1.elim
    · have hv : v.1 ≠ 1 := h1
      refine pm_r_stk (i' := i + 1) (st' := st) hr rfl hn (fun u hu => hr.1 u (List.mem_cons_of_mem _ hu)) (fun hk => ?_) kk
      exact lv_pop hx hb hd (by rw [pm_emb_cat, pm_cat, if_neg hv]) hk
  | dup2 =>
    rcases hlen with q | rfl
    · cases q
    have hn := hnx' (hin (hsn rfl h1))
    rcases st with _ | ⟨v, st⟩
    · exact h1.elim
    · by_cases hv : v.1 = 1
      · have e1 : pm_step (.dup2, ns, zs) (i, L, v :: st, h) = (True, (i + 1, L, v :: v :: st, h)) := by
          show pm_dup2 (i, L, v :: st, h) = _
          unfold pm_dup2
          simp only [hv, if_true]
        rw [e1] at kk
        refine pm_r_stk (i' := i + 1) (st' := v :: v :: st) hr rfl hn (fun u hu => hr.1 u (by simp only [List.mem_cons] at hu ⊢; rcases hu with q | q | q <;> simp [q])) (fun hk => ?_) kk
        exact lv_dup2_2 hx hb hd (by rw [pm_emb_cat, pm_cat, if_pos hv]) hk
      · rcases st with _ | ⟨w, st⟩
        · have e1 : pm_step (.dup2, ns, zs) (i, L, [v], h) = (False, (i, L, [v], h)) := by
            show pm_dup2 (i, L, [v], h) = _
            unfold pm_dup2
            simp only [hv, if_false]
          rw [e1] at h1
          exact h1.elim
        · have e1 : pm_step (.dup2, ns, zs) (i, L, v :: w :: st, h) = (w.1 ≠ 1, (i + 1, L, v :: w :: v :: w :: st, h)) := by
            show pm_dup2 (i, L, v :: w :: st, h) = _
            unfold pm_dup2
            simp only [hv, if_false]
          rw [e1] at kk h1
          have hw : w.1 ≠ 1 := h1
          refine pm_r_stk (i' := i + 1) (st' := v :: w :: v :: w :: st) hr rfl hn (fun u hu => hr.1 u (by simp only [List.mem_cons] at hu ⊢; rcases hu with q | q | q | q | q <;> simp [q])) (fun hk => ?_) kk
          exact lv_dup2_11 hx hb hd (by rw [pm_emb_cat, pm_cat, if_neg hv]) (by rw [pm_emb_cat, pm_cat, if_neg hw]) hk
  | ifCond cd off =>
    rcases hlen with q | rfl
    · cases q
    simp only [pm_chkI, decide_eq_true_eq] at hc
    exact pm_r_if1 hx hb hr rfl hd hc h1 (fun q => hnx' (hin q)) kk
  | if_icmp cd off =>
    rcases hlen with q | rfl
    · cases q
    simp only [pm_chkI, decide_eq_true_eq] at hc
    exact pm_r_if2 hx hb hr rfl hd hc h1 (fun q => hnx' (hin q)) kk
  | goto off =>
    rcases hlen with q | rfl
    · cases q
    simp only [pm_chkI, decide_eq_true_eq] at hc
    exact pm_r_stk (i' := ns.getD 0 0) (st' := st) hr rfl rfl hr.1 (fun hk => lv_goto hx hb hd hc hk) kk
  | tableswitch d lo hi offs =>
    simp only [pm_chkI, Bool.and_eq_true, decide_eq_true_eq] at hc
    exact pm_r_sw hx hb hr rfl hd hc.1.1.1 hc.1.1.2 hc.1.2 hc.2 h1 kk
  | lookupswitch d ps =>
    simp only [pm_chkI, Bool.and_eq_true, decide_eq_true_eq] at hc
    exact pm_r_lsw hx hb hr rfl hd hc.1.1 hc.1.2 hc.2 h1 kk
  | iaload =>
    rcases hlen with q | rfl
    · cases q
    have hn := hnx' (hin (hsn rfl h1))
    exact pm_r_iald hx hb hK hr rfl hn hd h1 kk
  | laload =>
    rcases hlen with q | rfl
    · cases q
    have hn := hnx' (hin (hsn rfl h1))
    exact pm_r_lald hx hb hK hr rfl hn hd h1 kk
  | baload =>
    rcases hlen with q | rfl
    · cases q
    have hn := hnx' (hin (hsn rfl h1))
    exact pm_r_zald hx hb hK hr rfl hn hd h1 kk
  | aaload =>
    rcases hlen with q | rfl
    · cases q
    have hn := hnx' (hin (hsn rfl h1))
    exact pm_r_aald hx hb hK hr rfl hn hd h1 kk
  | arraylength =>
    rcases hlen with q | rfl
    · cases q
    have hn := hnx' (hin (hsn rfl h1))
    exact pm_r_alen hx hb hK hr rfl hn hd h1 kk
  | iastore =>
    rcases hlen with q | rfl
    · cases q
    have hn := hnx' (hin (hsn rfl h1))
    exact pm_r_iast hx hb hK hi hr rfl hn hd h1 kk
  | lastore =>
    rcases hlen with q | rfl
    · cases q
    have hn := hnx' (hin (hsn rfl h1))
    exact pm_r_last hx hb hK hi hr rfl hn hd h1 kk
  | bastore =>
    rcases hlen with q | rfl
    · cases q
    have hn := hnx' (hin (hsn rfl h1))
    exact pm_r_zast hx hb hK hi hr rfl hn hd h1 kk
  | getfield idx =>
    rcases hlen with q | rfl
    · cases q
    have hn := hnx' (hin (hsn rfl h1))
    simp only [pm_chkI, Bool.and_eq_true] at hc
    exact pm_r_getf hx hb hts hown hK hr rfl hn hd hc.1 hc.2 h1 kk
  | putfield idx =>
    rcases hlen with q | rfl
    · cases q
    have hn := hnx' (hin (hsn rfl h1))
    simp only [pm_chkI] at hc
    rw [Bool.and_eq_true, Bool.and_eq_true, Bool.and_eq_true] at hc
    obtain ⟨⟨⟨c1, c2⟩, c3⟩, c4⟩ := hc
    exact pm_r_putf hx hb hts hown hK hi hr rfl hn hd c1 c2 (by simpa using c3) c4 h1 kk
  | invokestatic idx =>
    rcases ns with _ | ⟨t0, ns⟩
    · rcases hlen with q | rfl
      · cases q
      have hn := hnx' (hin (hsn rfl h1))
      simp only [pm_chkI, Bool.and_eq_true, decide_eq_true_eq] at hc
      obtain ⟨⟨c1, c2⟩, c3⟩ := hc
      exact pm_r_stl hx hb hml hts hown hK hi hR1 hr rfl hn hd c1 c2 (pm_mlL c3 c1) h1.1 h1.2 kk
    · cases hcall
  | invokevirtual idx =>
    rcases ns with _ | ⟨t0, ns⟩
    · rcases hlen with q | rfl
      · cases q
      have hn := hnx' (hin (hsn rfl h1))
      simp only [pm_chkI, Bool.and_eq_true, beq_iff_eq] at hc
      obtain ⟨c1, c2⟩ := hc
      subst c2
      rw [c1] at hown
      have hd7 := h7 _ _ rfl
      rcases st with _ | ⟨⟨t1, x⟩, _ | ⟨⟨t2, a⟩, st⟩⟩
      · exact h1.elim
      · exact h1.elim
      · obtain ⟨e1, e2, e3⟩ := (show t1 = 0 ∧ t2 = 4000000 ∧ (st.map pm_cat).sum ≤ 8 from h1)
        subst e1; subst e2
        have hX : pm_i32 x := hr.1 (0, x) (by simp)
        have hk0 : ∀ H' locs' ls', pm_Rel D G ad sa (pm_inf k).2.2.1 s (i + 1, L, (0, pm_ix x) :: st, h) H' locs' ls' → pm_Go p l e R s m args below meth c Q ad sa (pm_mt k).2.2.2.2 (i + 1, L, (0, pm_ix x) :: st, h) H' locs' ls' := kk
        unfold pm_Go
        refine pm_W_ix hx hb (hml.trans hr.2.2.2.2.2.2.1.symm) hts hown hst hr.2.2.2.2.1 ⟨by omega, by omega⟩ hX (by rw [List.map_map, show (fun v : Value => v.category) ∘ pm_emb ad sa = pm_cat from funext (pm_emb_cat ad sa)]; exact e3) hd (fun H1 locs1 hsame hS1 => ?_)
        have hk := hk0 H1 locs1 ls ⟨fun u hu => (List.mem_cons.mp hu).elim (fun e => e ▸ pm_ix_ok x) (fun hu => hr.1 u (by simp [hu])), hr.2.1, hr.2.2.1, fun kq q hq => ((hr.2.2.2.1 kq q hq).kept (hsame q.1 (hr.2.2.2.1 kq q hq).lt)), hS1, hr.2.2.2.2.2⟩
        unfold pm_Go at hk
        rw [show ((i + 1, L, (0, pm_ix x) :: st, h) : pS).1 = i + 1 from rfl, hn] at hk
        exact hk
    · cases hcall
  | _ => first | exact h1.elim | cases hret
end PMP
