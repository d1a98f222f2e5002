/-! words of the library members that the program calls -/
theorem pm_lw_native : Jvm.Cond.native arraycopyName ∈ pm_TB := pm_TB_in (j := 949) (by decide +kernel) (by first | rfl | decide +kernel)
theorem pm_lw_static : Jvm.Cond.static arraycopyName ∈ pm_TB := pm_TB_in (j := 948) (by decide +kernel) (by first | rfl | decide +kernel)
theorem pm_lw_iniS : Jvm.Cond.initialized "java/lang/System" ∈ pm_TB := pm_TB_in (j := 97) (by decide +kernel) (by first | rfl | decide +kernel)
theorem pm_lw_iniM : Jvm.Cond.initialized "java/lang/Math" ∈ pm_TB := pm_TB_in (j := 93) (by decide +kernel) (by first | rfl | decide +kernel)
theorem pm_lw_max_s : Jvm.Cond.static Lib.Math.max.name ∈ pm_TB := pm_TB_in (j := 727) (by decide +kernel) (by first | rfl | decide +kernel)
theorem pm_lw_max_c : Jvm.Cond.code Lib.Math.max.name Lib.Math.max.code 2 (some .int) ∈ pm_TB := pm_TB_in (j := 728) (by decide +kernel) (by first | rfl | decide +kernel)
theorem pm_lw_min_s : Jvm.Cond.static Lib.Math.min.name ∈ pm_TB := pm_TB_in (j := 730) (by decide +kernel) (by first | rfl | decide +kernel)
theorem pm_lw_min_c : Jvm.Cond.code Lib.Math.min.name Lib.Math.min.code 2 (some .int) ∈ pm_TB := pm_TB_in (j := 731) (by decide +kernel) (by first | rfl | decide +kernel)
theorem pm_lw_maxl_s : Jvm.Cond.static Lib.MathLoose.max_long.x ∈ pm_TB := pm_TB_in (j := 864) (by decide +kernel) (by first | rfl | decide +kernel)
theorem pm_lw_maxl_c : Jvm.Cond.code Lib.MathLoose.max_long.x Lib.MathLoose.max_long.code 4 (some .long) ∈ pm_TB := pm_TB_in (j := 865) (by decide +kernel) (by first | rfl | decide +kernel)
theorem pm_lw_minl_s : Jvm.Cond.static Lib.MathLoose.min_long.x ∈ pm_TB := pm_TB_in (j := 861) (by decide +kernel) (by first | rfl | decide +kernel)
theorem pm_lw_minl_c : Jvm.Cond.code Lib.MathLoose.min_long.x Lib.MathLoose.min_long.code 4 (some .long) ∈ pm_TB := pm_TB_in (j := 862) (by decide +kernel) (by first | rfl | decide +kernel)
theorem pm_lw_fmod_s : Jvm.Cond.static yJ9_floorMod_7cf53 ∈ pm_TB := pm_TB_in (j := 842) (by decide +kernel) (by first | rfl | decide +kernel)
theorem pm_lw_fmod_c : Jvm.Cond.code yJ9_floorMod_7cf53 cJ9_floorMod_7cf53 3 (some .int) ∈ pm_TB := pm_TB_in (j := 843) (by decide +kernel) (by first | rfl | decide +kernel)
theorem pm_ly_names : pm_ly 3 = Lib.MathLoose.max_long.x ∧ pm_ly 4 = Lib.MathLoose.min_long.x := by decide +kernel
theorem pm_hok_cpy {h : pH} {src sp dst dp n : Int} (hh : pm_hok h) (g1 : 0 ≤ src) (g2 : src.toNat < 274) (g3 : 1000 ≤ pm_lay src.toNat) (g4 : (pm_lay src.toNat - 1000) % 4 = 0) (k1 : 0 ≤ dst) (k3 : 1000 ≤ pm_lay dst.toNat) (k4 : (pm_lay dst.toNat - 1000) % 4 = 0) (h0 : 0 ≤ sp) : pm_hok (pm_cpy h src sp dst dp n) := by
  intro j hj
  obtain ⟨q1, q2, q3⟩ := hh j hj
  have hs := (hh src.toNat g2).1 g3 (Or.inl g4)
  rw [Int.toNat_of_nonneg g1] at hs
  by_cases hja : (j : Int) = dst
  · have e : j = dst.toNat := by omega
    refine ⟨fun u1 u2 k => ?_, fun u1 u2 k => ?_, fun u1 => ?_⟩
    · unfold pm_cpy
      split
      · next hc =>
        have := hs (sp + ((k : Int) - dp)).toNat
        rwa [Int.toNat_of_nonneg (by omega)] at this
      · exact q1 u1 u2 k
    · rw [e] at u2; omega
    · rw [e] at u1; omega
  · have e : ∀ k : Int, pm_cpy h src sp dst dp n j k = h j k := fun k => by unfold pm_cpy; rw [if_neg (fun z => hja z.1)]
    refine ⟨fun u1 u2 k => by rw [e]; exact q1 u1 u2 k, fun u1 u2 k => by rw [e]; exact q2 u1 u2 k, fun u1 k q hq => by rw [e]; exact q3 u1 k q hq⟩
section PML
variable {p : Program} {l : Launch} {e : Env} {R : Room} {s : State} {m : MethodId} {args : Array Value} {below : List Frame} {meth : Method} {c : Code} {H : Heap} {locs : List Loc} {Q : State → Prop} {D : va_G} {G : pm_G} {ad : Nat → Nat} {sa n : Nat} {pcs : List Nat} {i pc : Nat} {L st : List pV} {h : pH} {ls : Array Slot} {cc : ByteArray}
theorem pm_r_acopy {own idx : Nat} (hx : p.tables.exec = Jvm.exec) (hb : c.code = cc) (hml : c.maxLocals = n) (hts : ∀ w ∈ pm_TB, w.before args s = true) (hown : s.vm.findClass (pm_rn own) = some m.cls) (hK : va_K D vwCl (pm_tys G) s) (hi : pm_inj ad) (hR : 1 ≤ R.frames ∧ 33 ≤ R.locals) (hr : pm_Rel D G ad sa n s (i, L, st, h) H locs ls) (hp : pcs.getD i 0 = pc) (hn : pcs.getD (i + 1) 0 = pc + 3) (hd : decode cc pc = .ok (.invokestatic idx, 3))
    (hlink : Jvm.Cond.methodLink (pm_rn own) idx arraycopyName ∈ pm_TB) (h1 : (pm_acopy (i, L, st, h)).1) (hst : (st.map pm_cat).sum ≤ 16)
    (kk : ∀ H' locs' ls', pm_Rel D G ad sa n s (pm_acopy (i, L, st, h)).2 H' locs' ls' → pm_Go p l e R s m args below meth c Q ad sa pcs (pm_acopy (i, L, st, h)).2 H' locs' ls') :
    pm_Go p l e R s m args below meth c Q ad sa pcs (i, L, st, h) H locs ls := by
  rcases st with _ | ⟨⟨t1, nn⟩, _ | ⟨⟨t2, dp⟩, _ | ⟨⟨t3, d⟩, _ | ⟨⟨t4, sp⟩, _ | ⟨⟨t5, a⟩, st⟩⟩⟩⟩⟩
  · exact h1.elim
  · exact h1.elim
  · exact h1.elim
  · exact h1.elim
  · exact h1.elim
  · obtain ⟨e1, e2, e4, hA3, hA5, b1, b2, b3, b4, b5⟩ := (show t1 = 0 ∧ t2 = 0 ∧ t4 = 0 ∧ pm_isA 0 t3 ∧ pm_isA 0 t5 ∧ 0 ≤ nn ∧ 0 ≤ dp ∧ 0 ≤ sp ∧ dp + nn ≤ pm_len t3 ∧ sp + nn ≤ pm_len t5 from h1)
    subst e1; subst e2; subst e4
    have m1 : pm_i32 nn := hr.1 (0, nn) (by simp)
    have m2 : pm_i32 dp := hr.1 (0, dp) (by simp)
    have m3 := hr.1 (t3, d) (by simp)
    have m4 : pm_i32 sp := hr.1 (0, sp) (by simp)
    have m5 := hr.1 (t5, a) (by simp)
    obtain ⟨g1, g2, g3, g4, g5, g6⟩ := pm_arr hA3 m3
    obtain ⟨k1, k2, k3, k4, k5, k6⟩ := pm_arr hA5 m5
    rw [g5] at b4
    rw [k5] at b5
    have z0 : pm_i32 0 := ⟨by decide, by decide⟩
    refine pm_r_heap (st' := st) (h' := pm_cpy h a sp d dp nn) hr hp hn (fun u hu => hr.1 u (by simp [hu])) (pm_hok_cpy hr.2.2.1 k1 k2 k3 k4 g1 g3 g4 b3) (fun hk => ?_) kk
    simp only [List.map_cons]
    rw [pm_emb_ref (t := t3) ⟨by have := hA3.1; omega, by have := hA3.2.2; omega⟩ (by have := hA3.2.2; omega), pm_emb_ref (t := t5) ⟨by have := hA5.1; omega, by have := hA5.2.2; omega⟩ (by have := hA5.2.2; omega)]
    refine va_copyi hx hb (hml.trans hr.2.2.2.2.2.2.1.symm) hown (hts _ hlink) (hts _ pm_lw_native) (hts _ pm_lw_static) (hts _ pm_lw_iniS) hK hr.2.2.2.1 (pm_D hi) hr.2.2.2.2.1 a.toNat d.toNat 0 0 (by rw [pm_ws_get k2, pm_cell_i k3 k4]) (by rw [pm_ws_get g2, pm_cell_i g3 g4]) (ty := .int) rfl rfl rfl (sp := Int32.ofInt sp) (dp := Int32.ofInt dp) (n := Int32.ofInt nn)
      (fun q => by have := (pm_ltI m4 z0).mp q; omega) (fun q => by have := (pm_ltI m2 z0).mp q; omega) (fun q => by have := (pm_ltI m1 z0).mp q; omega) (by rw [pm_clamp m4, pm_clamp m1]; omega) (by rw [pm_clamp m2, pm_clamp m1]; omega) (fun _ _ => rfl) hR.1 ?_ hd (fun H1 locs1 hP hD' hS => ?_)
    · rw [List.map_map, show (fun v : Value => v.category) ∘ pm_emb ad sa = pm_cat from funext (pm_emb_cat ad sa), show nativeFrameWords "java/lang/System" "arraycopy" 5 = 7 by decide +kernel]
      simp only [List.map_cons, List.sum_cons] at hst
      have := hR.2
      have hc : ∀ v : pV, 1 ≤ pm_cat v := fun v => by unfold pm_cat; split <;> omega
      have c1 := hc (0, nn)
      have c2 := hc (0, dp)
      omega
    · rw [pm_clamp m4, pm_clamp m2, pm_clamp m1, pm_ws_set (h' := pm_cpy h a sp d dp nn) ?_ ?_] at hP
      · exact hk H1 locs1 hP hS
      · rw [pm_cell_i g3 g4]
        refine congrArg (fun f => Sum.inl (G.1, (pm_lay d.toNat - 1000) / 4, Sum.inl f)) ?_
        funext j
        unfold va_cpy pm_cpy
        by_cases hc : dp.toNat ≤ j ∧ j < dp.toNat + nn.toNat
        · rw [if_pos hc, if_pos ⟨by omega, by omega, by omega⟩]
          rw [Int.toNat_of_nonneg k1, show sp + ((j : Int) - dp) = ((sp.toNat + (j - dp.toNat) : Nat) : Int) by omega]
        · rw [if_neg hc, if_neg (fun z => hc (by omega))]
      · intro j hj hjd
        funext k
        unfold pm_cpy
        rw [if_neg (fun z => hjd (by omega))]
theorem pm_restle {x y : pV} {rest : List pV} {k : Nat} (h : ((x :: y :: rest).map pm_cat).sum ≤ k) : (((rest.map (pm_emb ad sa)).map fun v => v.category).sum) + 2 ≤ k := by
  rw [List.map_map, show (fun v : Value => v.category) ∘ pm_emb ad sa = pm_cat from funext (pm_emb_cat ad sa)]
  simp only [List.map_cons, List.sum_cons] at h
  have hc : ∀ v : pV, 1 ≤ pm_cat v := fun v => by unfold pm_cat; split <;> omega
  have c1 := hc x
  have c2 := hc y
  omega
theorem pm_ite_i {x y : Int} (hX : pm_i32 x) (hY : pm_i32 y) : (if Int32.ofInt x < Int32.ofInt y then Int32.ofInt y else Int32.ofInt x) = Int32.ofInt (if x < y then y else x) := by
  by_cases hc : x < y
  · rw [if_pos ((pm_ltI hX hY).mpr hc), if_pos hc]
  · rw [if_neg (fun q => hc ((pm_ltI hX hY).mp q)), if_neg hc]
end PML

