/-! The law: its loop, and what holds at its entry. -/
theorem dL_law_0 : decode cL_law 0 = .ok (.new 7, 3) := by decide +kernel
theorem dL_law_3 : decode cL_law 3 = .ok (.dup, 1) := by decide +kernel
theorem dL_law_4 : decode cL_law 4 = .ok (.invokespecial 9, 3) := by decide +kernel
theorem dL_law_7 : decode cL_law 7 = .ok (.astore_n 1, 1) := by decide +kernel
theorem dL_law_8 : decode cL_law 8 = .ok (.new 10, 3) := by decide +kernel
theorem dL_law_11 : decode cL_law 11 = .ok (.dup, 1) := by decide +kernel
theorem dL_law_12 : decode cL_law 12 = .ok (.invokespecial 12, 3) := by decide +kernel
theorem dL_law_15 : decode cL_law 15 = .ok (.astore_n 2, 1) := by decide +kernel
theorem dL_law_16 : decode cL_law 16 = .ok (.iconst 0, 1) := by decide +kernel
theorem dL_law_17 : decode cL_law 17 = .ok (.istore_n 3, 1) := by decide +kernel
theorem dL_law_18 : decode cL_law 18 = .ok (.iload_n 3, 1) := by decide +kernel
theorem dL_law_19 : decode cL_law 19 = .ok (.aload_n 0, 1) := by decide +kernel
theorem dL_law_20 : decode cL_law 20 = .ok (.arraylength, 1) := by decide +kernel
theorem dL_law_21 : decode cL_law 21 = .ok (.bipush 6, 2) := by decide +kernel
theorem dL_law_23 : decode cL_law 23 = .ok (.isub, 1) := by decide +kernel
theorem dL_law_24 : decode cL_law 24 = .ok (.if_icmp .gt 1326, 3) := by decide +kernel
theorem dL_law_27 : decode cL_law 27 = .ok (.aload_n 0, 1) := by decide +kernel
theorem dL_law_28 : decode cL_law 28 = .ok (.iload_n 3, 1) := by decide +kernel
theorem dL_law_29 : decode cL_law 29 = .ok (.iaload, 1) := by decide +kernel
theorem dL_law_30 : decode cL_law 30 = .ok (.bipush 63, 2) := by decide +kernel
theorem dL_law_32 : decode cL_law 32 = .ok (.iand, 1) := by decide +kernel
theorem dL_law_33 : decode cL_law 33 = .ok (.tableswitch 1311 0 35 #[159, 202, 235, 278, 341, 374, 397, 430, 473, 496, 539, 592, 645, 708, 731, 744, 757, 780, 813, 846, 879, 903, 926, 949, 1003, 1016, 1069, 1092, 1115, 1128, 1152, 1215, 1228, 1251, 1274, 1297], 159) := by decide +kernel
theorem dL_law_1344 : decode cL_law 1344 = .ok (.iinc 3 6, 3) := by decide +kernel
theorem dL_law_1347 : decode cL_law 1347 = .ok (.goto (-1329), 3) := by decide +kernel
theorem dL_law_1350 : decode cL_law 1350 = .ok (.iconst 1, 1) := by decide +kernel
theorem dL_law_1351 : decode cL_law 1351 = .ok (.ireturn, 1) := by decide +kernel
theorem lw_inst {ci : Nat} {r : vw_C} (h : vwCl[ci]? = some r) : Jvm.Cond.instantiable r.1 r.2.2 ∈ lw_tbl := by
  match ci, h with
  | 0, h => cases h; exact List.mem_of_getElem? (i := 114) (by decide +kernel)
  | 1, h => cases h; exact List.mem_of_getElem? (i := 470) (by decide +kernel)
  | 2, h => cases h; exact List.mem_of_getElem? (i := 450) (by decide +kernel)
  | 3, h => cases h; exact List.mem_of_getElem? (i := 522) (by decide +kernel)
  | 4, h => cases h; exact List.mem_of_getElem? (i := 108) (by decide +kernel)
  | 5, h => cases h; exact List.mem_of_getElem? (i := 379) (by decide +kernel)
  | 6, h => cases h; exact List.mem_of_getElem? (i := 163) (by decide +kernel)
  | 7, h => cases h; exact List.mem_of_getElem? (i := 494) (by decide +kernel)
  | 8, h => cases h; exact List.mem_of_getElem? (i := 215) (by decide +kernel)
  | 9, h => cases h; exact List.mem_of_getElem? (i := 329) (by decide +kernel)
  | 10, h => cases h; exact List.mem_of_getElem? (i := 265) (by decide +kernel)
  | 11, h => cases h; exact List.mem_of_getElem? (i := 100) (by decide +kernel)
  | 12, h => cases h; exact List.mem_of_getElem? (i := 1261) (by decide +kernel)
  | ci + 13, h => simp [vwCl] at h
theorem lw_D {s : State} {args : Array Value} (hts : ∀ w ∈ lw_tbl, w.before args s = true) : ∃ D : va_G, ∀ (ci : Nat) (q : vw_C), vwCl[ci]? = some q → u_Kn s q.1 q.2.1 q.2.2 (D.1 ci) (D.2 ci) := by
  have h : ∀ ci : Nat, ∃ q : ClassId × (Nat → Nat), ∀ r : vw_C, vwCl[ci]? = some r → u_Kn s r.1 r.2.1 r.2.2 q.1 q.2 := by
    intro ci
    cases hr : vwCl[ci]? with
    | none => exact ⟨(0, fun _ => 0), fun r h => by cases h⟩
    | some r =>
      obtain ⟨cC, iS, hk⟩ := u_known hts (pm_uw hr).1 (hts _ (lw_inst hr))
      exact ⟨(cC, iS), fun r' h => by cases h; exact hk⟩
  exact ⟨(fun ci => (Classical.choose (h ci)).1, fun ci => (Classical.choose (h ci)).2), fun ci q hq => Classical.choose_spec (h ci) q hq⟩
theorem lw_arr {s : State} {cA : ClassId} {kA : Class} {comp : ClassId} {ty : FieldType} (h2 : s.vm.classes[cA]? = some kA) (h3 : kA.kind = .array comp ty) : ArrOfT s cA ty := fun n z => ⟨fun k h => (by cases h), kA, h2, comp, h3⟩
theorem lw_K {s : State} {args : Array Value} (hts : ∀ w ∈ lw_tbl, w.before args s = true) : ∃ (D : va_G) (G : pm_G), va_K D vwCl (pm_tys G) s := by
  obtain ⟨D, hD⟩ := lw_D hts
  obtain ⟨cI, kI, qI, i1, i2, i3⟩ := Cond.arrayClass_spec (hts (Jvm.Cond.arrayClass .int) (List.mem_of_getElem? (i := 161) (by decide +kernel)))
  obtain ⟨cJ, kJ, qJ, j1, j2, j3⟩ := Cond.arrayClass_spec (hts (Jvm.Cond.arrayClass .long) (List.mem_of_getElem? (i := 377) (by decide +kernel)))
  obtain ⟨cZ, kZ, qZ, z1, z2, z3⟩ := Cond.arrayClass_spec (hts (Jvm.Cond.arrayClass .boolean) (List.mem_of_getElem? (i := 468) (by decide +kernel)))
  obtain ⟨qH, cH, kH, h1, -, h2, h3, h4⟩ := Cond.arrayOver_spec (hts (Jvm.Cond.arrayOver (.object "HotHall$Hall")) (List.mem_of_getElem? (i := 448) (by decide +kernel)))
  refine ⟨D, (cI, cJ, cZ, cH), hD, fun k q hq => ?_⟩
  match k, hq with
  | 0, hq => cases hq; exact ⟨lw_arr i2 i3, i1⟩
  | 1, hq => cases hq; exact ⟨lw_arr j2 j3, j1⟩
  | 2, hq => cases hq; exact ⟨lw_arr z2 z3, z1⟩
  | 3, hq => cases hq; exact ⟨lw_arr h2 h3, kH, qH, h2, h3, h1, h4⟩
  | k + 4, hq => simp [pm_tys] at hq
theorem lw_St {s : State} {b : Addr} (hts : ∀ w ∈ lw_tbl, w.before #[Value.ref b] s = true) (hgv : (Jvm.Cond.and given_1 narrow_1).before #[Value.ref b] s = true) : ∃ sa sv : Nat, pm_St sa sv (cs_A s.heap.size) s s.heap := by
  have hs := flat_of_before _ hgv
  have hA : ∀ a : Nat, a < s.heap.size → ¬ cs_A s.heap.size a := fun a h z => absurd (show s.heap.size ≤ a from z) (by omega)
  obtain ⟨adK, adV, h1, h2⟩ := vk_Sof (args := #[Value.ref b]) (s := s) (N := 1) (tm := fun _ => Jvm.Term.string "HotHall$Rules" 93) (len := [6]) (byt := [[103, 112, 115, 119, 109, 102]]) (A := cs_A s.heap.size)
    (fun i hi => by rw [show i = 0 by omega]; decide) (fun i hi => hs _ (by decide +kernel)) (fun i hi => hs _ (by decide +kernel)) (fun i hi => hs _ (by decide +kernel))
    (fun i hi => by rw [show i = 0 by omega]; exact hs _ (by decide +kernel))
    (fun i hi j hj => by
      have e : i = 0 := by omega
      subst e
      have hj : j < 6 := hj
      match j, hj with
      | 0, _ => exact hs _ (by decide +kernel)
      | 1, _ => exact hs _ (by decide +kernel)
      | 2, _ => exact hs _ (by decide +kernel)
      | 3, _ => exact hs _ (by decide +kernel)
      | 4, _ => exact hs _ (by decide +kernel)
      | 5, _ => exact hs _ (by decide +kernel)
      | j + 6, h => exact absurd h (by omega))
    (fun i j hi hj hne => absurd (show i = j by omega) hne) hA
  refine ⟨adK 0, adV 0, vk_R.of (A := #[Value.ref b]) (hts _ (List.mem_of_getElem? (i := 697) (by decide +kernel))) (h2 0 (by decide)), ⟨fun i hi => ?_, fun i j hi hj _ => by omega⟩, va_Zof (hts _ (List.mem_of_getElem? (i := 711) (by decide +kernel))) (hts _ (List.mem_of_getElem? (i := 91) (by decide +kernel))) (va_eqi (hs _ (by decide +kernel))) hA⟩
  have e : i = 0 := by omega
  subst e
  exact h1.1 0 hi
section LWL
variable {p : Program} {l : Launch} {e : Env} {s : State} {m : MethodId} {below : List Frame} {meth : Method} {c : Code} {cells slots : Nat} {Q : State → Prop} {D : va_G} {G : pm_G} {b L sa sv : Nat} {xs : Nat → Int32}
set_option maxHeartbeats 4000000 in
set_option maxRecDepth 100000 in
/-- the law's loop, from its head -/
theorem law_loop (C : lw_C p s m c b L xs D G sa sv) (hcs : cells ≤ 600000 ∧ slots ≤ 7302250) (done : ∀ (H : Heap) (locs : List Loc) (ls : Array Slot), va_S (cs_A s.heap.size) s.heap H locs → W p l e room_1 s m #[Value.ref b] below meth c H locs cells slots Q (F0 m 1350 ls [])) :
    ∀ (n i : Nat), i ≤ L → L + 6 ≤ i + n → ∀ (j : pH) (H : Heap) (locs : List Loc) (ls : Array Slot), lw_I D G s j H locs → lv_has ls 4 (lw_L s b i) → W p l e room_1 s m #[Value.ref b] below meth c H locs cells slots Q (F0 m 18 ls []) := by
  obtain ⟨hx, hb, hml, hown, hts, hX, hbl, -, -, -, hL3⟩ := id C
  intro n
  induction n with
  | zero => intro i h1 h2; omega
  | succ n ih =>
    intro i hiL hin j H locs ls I hl
    have hS := I.2.2.2.2
    have hbA : ¬ cs_A s.heap.size b := fun z => absurd (show s.heap.size ≤ b from z) (by omega)
    refine lv_iload_n hx hb dL_law_18 rfl (lv_at hl 0 rfl) ?_
    refine lv_aload_n hx hb dL_law_19 rfl (lv_at hl 1 rfl) ?_
    refine va_slen hx hb hX hbl hbA hS dL_law_20 ?_
    refine lv_bipush (v := nI 6) hx hb dL_law_21 (by decide) ?_
    refine lv_isub hx hb dL_law_23 ?_
    have hcmp : (nI L - nI 6 < nI i) ↔ L < i + 6 := by
      rw [Int32.lt_iff_toInt_lt, pk_sub_toInt (by omega) (by decide), nI_toInt (by omega)]
      omega
    refine lv_icmp_gt (tgt := 1350) hx hb dL_law_24 (by decide) (fun _ => done H locs ls hS) (fun c9 => ?_)
    have hlt : i + 6 ≤ L := Nat.le_of_not_lt (fun h => c9 (hcmp.mpr h))
    refine lv_aload_n hx hb dL_law_27 rfl (lv_at hl 1 rfl) ?_
    refine lv_iload_n hx hb dL_law_28 rfl (lv_at hl 0 rfl) ?_
    refine va_sld hx hb hX hbl hbA hS (vp_in_nI (show i < L by omega) (by omega)) dL_law_29 ?_
    refine lv_bipush (v := nI 63) hx hb dL_law_30 (by decide) ?_
    refine lv_iand hx hb dL_law_32 ?_
    obtain ⟨t, ht, et⟩ := pk_andE (xs (nI i).toNatClampNeg) (m := nI 63) 6 (by decide)
    rw [et]
    have next : ∀ (j1 : pH) (H1 : Heap) (locs1 : List Loc), lw_I D G s j1 H1 locs1 → W p l e room_1 s m #[Value.ref b] below meth c H1 locs1 cells slots Q (F0 m 1344 ls []) := by
      intro j1 H1 locs1 I1
      refine lv_iinc (v := nI (i + 6)) (lv' := lw_L s b (i + 6)) hx hb dL_law_1344 hl (k := 0) rfl (nI_add i 6) (by decide) rfl (fun ls hl => ?_)
      refine lv_goto (tgt := 18) hx hb dL_law_1347 (by decide) ?_
      exact ih (i + 6) hlt (by omega) j1 H1 locs1 ls I1 hl
    have hT : (nI t).toInt = (t : Int) := nI_toInt (by omega)
    by_cases hbig : 36 ≤ t
    · exact lv_tableOut (tgt := 1344) hx hb dL_law_33 (Or.inr (by rw [hT]; omega)) (by decide) (next j H locs I)
    · rcases (show t = 0 ∨ t = 1 ∨ t = 2 ∨ t = 3 ∨ t = 4 ∨ t = 5 ∨ t = 6 ∨ t = 7 ∨ t = 8 ∨ t = 9 ∨ t = 10 ∨ t = 11 ∨ t = 12 ∨ t = 13 ∨ t = 14 ∨ t = 15 ∨ t = 16 ∨ t = 17 ∨ t = 18 ∨ t = 19 ∨ t = 20 ∨ t = 21 ∨ t = 22 ∨ t = 23 ∨ t = 24 ∨ t = 25 ∨ t = 26 ∨ t = 27 ∨ t = 28 ∨ t = 29 ∨ t = 30 ∨ t = 31 ∨ t = 32 ∨ t = 33 ∨ t = 34 ∨ t = 35 by omega) with rfl | rfl | rfl | rfl | rfl | rfl | rfl | rfl | rfl | rfl | rfl | rfl | rfl | rfl | rfl | rfl | rfl | rfl | rfl | rfl | rfl | rfl | rfl | rfl | rfl | rfl | rfl | rfl | rfl | rfl | rfl | rfl | rfl | rfl | rfl | rfl
      · exact lv_tableIn (off := 159) (tgt := 192) hx hb dL_law_33 (by decide) (by decide) (by first | rfl | decide) (by decide) (law_c0 C hlt hl I hcs next)
      · exact lv_tableIn (off := 202) (tgt := 235) hx hb dL_law_33 (by decide) (by decide) (by first | rfl | decide) (by decide) (law_c1 C hlt hl I hcs next)
      · exact lv_tableIn (off := 235) (tgt := 268) hx hb dL_law_33 (by decide) (by decide) (by first | rfl | decide) (by decide) (law_c2 C hlt hl I hcs next)
      · exact lv_tableIn (off := 278) (tgt := 311) hx hb dL_law_33 (by decide) (by decide) (by first | rfl | decide) (by decide) (law_c3 C hlt hl I hcs next)
      · exact lv_tableIn (off := 341) (tgt := 374) hx hb dL_law_33 (by decide) (by decide) (by first | rfl | decide) (by decide) (law_c4 C hlt hl I hcs next)
      · exact lv_tableIn (off := 374) (tgt := 407) hx hb dL_law_33 (by decide) (by decide) (by first | rfl | decide) (by decide) (law_c5 C hlt hl I hcs next)
      · exact lv_tableIn (off := 397) (tgt := 430) hx hb dL_law_33 (by decide) (by decide) (by first | rfl | decide) (by decide) (law_c6 C hlt hl I hcs next)
      · exact lv_tableIn (off := 430) (tgt := 463) hx hb dL_law_33 (by decide) (by decide) (by first | rfl | decide) (by decide) (law_c7 C hlt hl I hcs next)
      · exact lv_tableIn (off := 473) (tgt := 506) hx hb dL_law_33 (by decide) (by decide) (by first | rfl | decide) (by decide) (law_c8 C hlt hl I hcs next)
      · exact lv_tableIn (off := 496) (tgt := 529) hx hb dL_law_33 (by decide) (by decide) (by first | rfl | decide) (by decide) (law_c9 C hlt hl I hcs next)
      · exact lv_tableIn (off := 539) (tgt := 572) hx hb dL_law_33 (by decide) (by decide) (by first | rfl | decide) (by decide) (law_c10 C hlt hl I hcs next)
      · exact lv_tableIn (off := 592) (tgt := 625) hx hb dL_law_33 (by decide) (by decide) (by first | rfl | decide) (by decide) (law_c11 C hlt hl I hcs next)
      · exact lv_tableIn (off := 645) (tgt := 678) hx hb dL_law_33 (by decide) (by decide) (by first | rfl | decide) (by decide) (law_c12 C hlt hl I hcs next)
      · exact lv_tableIn (off := 708) (tgt := 741) hx hb dL_law_33 (by decide) (by decide) (by first | rfl | decide) (by decide) (law_c13 C hlt hl I hcs next)
      · exact lv_tableIn (off := 731) (tgt := 764) hx hb dL_law_33 (by decide) (by decide) (by first | rfl | decide) (by decide) (law_c14 C hlt hl I hcs next)
      · exact lv_tableIn (off := 744) (tgt := 777) hx hb dL_law_33 (by decide) (by decide) (by first | rfl | decide) (by decide) (law_c15 C hlt hl I hcs next)
      · exact lv_tableIn (off := 757) (tgt := 790) hx hb dL_law_33 (by decide) (by decide) (by first | rfl | decide) (by decide) (law_c16 C hlt hl I hcs next)
      · exact lv_tableIn (off := 780) (tgt := 813) hx hb dL_law_33 (by decide) (by decide) (by first | rfl | decide) (by decide) (law_c17 C hlt hl I hcs next)
      · exact lv_tableIn (off := 813) (tgt := 846) hx hb dL_law_33 (by decide) (by decide) (by first | rfl | decide) (by decide) (law_c18 C hlt hl I hcs next)
      · exact lv_tableIn (off := 846) (tgt := 879) hx hb dL_law_33 (by decide) (by decide) (by first | rfl | decide) (by decide) (law_c19 C hlt hl I hcs next)
      · exact lv_tableIn (off := 879) (tgt := 912) hx hb dL_law_33 (by decide) (by decide) (by first | rfl | decide) (by decide) (law_c20 C hlt hl I hcs next)
      · exact lv_tableIn (off := 903) (tgt := 936) hx hb dL_law_33 (by decide) (by decide) (by first | rfl | decide) (by decide) (law_c21 C hlt hl I hcs next)
      · exact lv_tableIn (off := 926) (tgt := 959) hx hb dL_law_33 (by decide) (by decide) (by first | rfl | decide) (by decide) (law_c22 C hlt hl I hcs next)
      · exact lv_tableIn (off := 949) (tgt := 982) hx hb dL_law_33 (by decide) (by decide) (by first | rfl | decide) (by decide) (law_c23 C hlt hl I hcs next)
      · exact lv_tableIn (off := 1003) (tgt := 1036) hx hb dL_law_33 (by decide) (by decide) (by first | rfl | decide) (by decide) (law_c24 C hlt hl I hcs next)
      · exact lv_tableIn (off := 1016) (tgt := 1049) hx hb dL_law_33 (by decide) (by decide) (by first | rfl | decide) (by decide) (law_c25 C hlt hl I hcs next)
      · exact lv_tableIn (off := 1069) (tgt := 1102) hx hb dL_law_33 (by decide) (by decide) (by first | rfl | decide) (by decide) (law_c26 C hlt hl I hcs next)
      · exact lv_tableIn (off := 1092) (tgt := 1125) hx hb dL_law_33 (by decide) (by decide) (by first | rfl | decide) (by decide) (law_c27 C hlt hl I hcs next)
      · exact lv_tableIn (off := 1115) (tgt := 1148) hx hb dL_law_33 (by decide) (by decide) (by first | rfl | decide) (by decide) (law_c28 C hlt hl I hcs next)
      · exact lv_tableIn (off := 1128) (tgt := 1161) hx hb dL_law_33 (by decide) (by decide) (by first | rfl | decide) (by decide) (law_c29 C hlt hl I hcs next)
      · exact lv_tableIn (off := 1152) (tgt := 1185) hx hb dL_law_33 (by decide) (by decide) (by first | rfl | decide) (by decide) (law_c30 C hlt hl I hcs next)
      · exact lv_tableIn (off := 1215) (tgt := 1248) hx hb dL_law_33 (by decide) (by decide) (by first | rfl | decide) (by decide) (law_c31 C hlt hl I hcs next)
      · exact lv_tableIn (off := 1228) (tgt := 1261) hx hb dL_law_33 (by decide) (by decide) (by first | rfl | decide) (by decide) (law_c32 C hlt hl I hcs next)
      · exact lv_tableIn (off := 1251) (tgt := 1284) hx hb dL_law_33 (by decide) (by decide) (by first | rfl | decide) (by decide) (law_c33 C hlt hl I hcs next)
      · exact lv_tableIn (off := 1274) (tgt := 1307) hx hb dL_law_33 (by decide) (by decide) (by first | rfl | decide) (by decide) (law_c34 C hlt hl I hcs next)
      · exact lv_tableIn (off := 1297) (tgt := 1330) hx hb dL_law_33 (by decide) (by decide) (by first | rfl | decide) (by decide) (law_c35 C hlt hl I hcs next)
end LWL
/-! The first heap. -/
def j0b (f : Int → Int) : Prop := ∀ k, 0 ≤ f k ∧ f k ≤ 100000
theorem j0h_in (r : Int) : j0b (j0h r) := by
  unfold j0h
  repeat' split
  all_goals (intro k; dsimp only; repeat' split)
  all_goals first | decide | omega
theorem zf_in : j0b zf := by
  intro k
  unfold zf
  repeat' split
  all_goals first | decide | omega
theorem j0_all (a : Int) : j0b (j0 a) := by
  unfold j0
  repeat' split
  all_goals first | exact j0h_in _ | exact zf_in | (intro k; dsimp only; (repeat' split); all_goals first | decide | omega)
theorem j0_in (a k : Int) : 0 ≤ j0 a k ∧ j0 a k ≤ 100000 := j0_all a k
set_option maxRecDepth 100000 in
theorem j0_kinds : ((List.range 274).all fun i => decide (1000 ≤ pm_lay i) || (pm_fks.getD (pm_lay i - 2) []).zipIdx.all (fun q => decide (q.1.1 < 4) || (i == 153 && decide (q.2 < 2) && q.1.2.2 == 1053))) = true := by decide +kernel
theorem j0_ok : pm_hok j0 := by
  intro i hi
  refine ⟨fun _ _ k => ?_, fun _ _ k => ?_, fun hl k q hq => ⟨fun _ => ?_, fun _ => ?_, fun h4 => ?_⟩⟩
  · have := j0_in i k
    exact ⟨by omega, by omega⟩
  · have := j0_in i k
    exact ⟨by omega, by omega⟩
  · have := j0_in i k
    exact ⟨by omega, by omega⟩
  · have := j0_in i k
    exact ⟨by omega, by omega⟩
  · have h := List.all_eq_true.mp j0_kinds i (List.mem_range.mpr hi)
    rw [Bool.or_eq_true] at h
    rcases h with h | h
    · exact absurd (of_decide_eq_true h) (by omega)
    · have h := List.all_eq_true.mp h (q, k) (List.mem_zipIdx_iff_getElem?.mpr (by simpa using hq))
      rw [Bool.or_eq_true] at h
      rcases h with h | h
      · exact absurd (of_decide_eq_true h) (by show ¬ q.1 < 4; omega)
      · simp only [Bool.and_eq_true, beq_iff_eq, decide_eq_true_eq] at h
        obtain ⟨⟨h1, h2⟩, h3⟩ := h
        subst h1
        rw [show q.2.2 = 1053 from h3]
        have h2 : k < 2 := h2
        match k, h2 with
        | 0, _ => decide
        | 1, _ => decide
        | k + 2, h => exact absurd h (by omega)
theorem j0_FIT : FIT j0 := Or.inl ⟨by decide, by decide⟩
theorem j0_hall : new_hall 1 j0 := by
  refine ⟨⟨rfl, rfl, rfl, rfl⟩, fun c _ _ => ⟨rfl, rfl, rfl⟩, fun k _ _ => rfl, rfl, ⟨rfl, rfl, rfl, rfl, rfl, rfl, rfl⟩, fun f _ _ => rfl, fun k _ _ => rfl, rfl, fun k _ _ => ⟨rfl, rfl, rfl⟩, ⟨rfl, rfl, rfl, rfl⟩, fun k _ _ => ⟨rfl, rfl⟩, ⟨rfl, rfl, rfl⟩, rfl, rfl⟩
theorem j0_AL : AL j0 j0 := by
  refine AL_first j0_hall (fun k _ _ => rfl) (fun i _ _ => ⟨rfl, rfl⟩) ⟨rfl, rfl, rfl, rfl⟩ (fun d _ _ => ⟨rfl, rfl⟩)
set_option maxRecDepth 100000 in
theorem cs_model (G : pm_G) (a : Nat) : ∀ i, i < 26 → cs_B 248 G (a + 248) i = pm_cell (fun j => a + j) G (248 + i) (j0 ((248 + i : Nat) : Int)) := by
  intro i hi
  match i, hi with
  | 0, _ => exact Eq.trans (cs_B12 G (a + 248)) (Eq.trans (b := .inr (12, [.ref (a + 249), .ref (a + 250), .ref (a + 251), .ref (a + 252), .ref (a + 253), .ref (a + 254), .ref (a + 255), .ref (a + 256), .int (Int32.ofInt 0), .int (Int32.ofInt 0), .ref (a + 257), .long (Int64.ofInt 0), .int (Int32.ofInt 0), .ref (a + 258), .ref (a + 259), .ref (a + 260), .ref (a + 261), .ref (a + 262), .ref (a + 263), .ref (a + 264), .int (Int32.ofInt 0), .int (Int32.ofInt 0), .ref (a + 265), .ref (a + 266), .ref (a + 267), .ref (a + 268), .ref (a + 269), .ref (a + 270), .ref (a + 271), .ref (a + 272), .ref (a + 273)])) rfl (Eq.trans (cs_f12 (fun j => a + j) G (j0 248)) rfl).symm)
  | 1, _ => exact Eq.trans (b := .inl (G.2.1, 620, .inr (.inl (fun j => Int64.ofInt (zf (j : Int)))))) rfl rfl
  | 2, _ => exact Eq.trans (b := .inl (G.2.1, 620, .inr (.inl (fun _ => Int64.ofInt 0)))) rfl rfl
  | 3, _ => exact Eq.trans (b := .inl (G.2.1, 620, .inr (.inl (fun _ => Int64.ofInt 0)))) rfl rfl
  | 4, _ => exact Eq.trans (b := .inl (G.2.1, 620, .inr (.inl (fun _ => Int64.ofInt 0)))) rfl rfl
  | 5, _ => exact Eq.trans (b := .inl (G.2.1, 620, .inr (.inl (fun _ => Int64.ofInt 0)))) rfl rfl
  | 6, _ => exact Eq.trans (b := .inl (G.2.2.1, 2, .inl (fun _ => Int32.ofInt 0))) rfl rfl
  | 7, _ => exact Eq.trans (b := .inl (G.2.1, 130, .inr (.inl (fun _ => Int64.ofInt 0)))) rfl rfl
  | 8, _ => exact Eq.trans (b := .inl (G.1, 130, .inl (fun _ => Int32.ofInt 0))) rfl rfl
  | 9, _ => exact Eq.trans (b := .inl (G.2.2.1, 12, .inl (fun _ => Int32.ofInt 0))) rfl rfl
  | 10, _ => exact Eq.trans (b := .inl (G.1, 16, .inl (fun _ => Int32.ofInt 0))) rfl rfl
  | 11, _ => exact Eq.trans (b := .inl (G.1, 16, .inl (fun _ => Int32.ofInt 0))) rfl rfl
  | 12, _ => exact Eq.trans (b := .inl (G.2.1, 12, .inr (.inl (fun _ => Int64.ofInt 0)))) rfl rfl
  | 13, _ => exact Eq.trans (b := .inl (G.2.1, 12, .inr (.inl (fun _ => Int64.ofInt 0)))) rfl rfl
  | 14, _ => exact Eq.trans (b := .inl (G.2.1, 12, .inr (.inl (fun _ => Int64.ofInt 0)))) rfl rfl
  | 15, _ => exact Eq.trans (b := .inl (G.2.2.1, 16, .inl (fun _ => Int32.ofInt 0))) rfl rfl
  | 16, _ => exact Eq.trans (b := .inl (G.2.1, 40, .inr (.inl (fun _ => Int64.ofInt 0)))) rfl rfl
  | 17, _ => exact Eq.trans (b := .inl (G.1, 9216, .inl (fun _ => Int32.ofInt 0))) rfl rfl
  | 18, _ => exact Eq.trans (b := .inl (G.2.1, 9216, .inr (.inl (fun _ => Int64.ofInt 0)))) rfl rfl
  | 19, _ => exact Eq.trans (b := .inl (G.1, 16, .inl (fun _ => Int32.ofInt 0))) rfl rfl
  | 20, _ => exact Eq.trans (b := .inl (G.2.1, 24, .inr (.inl (fun _ => Int64.ofInt 0)))) rfl rfl
  | 21, _ => exact Eq.trans (b := .inl (G.2.1, 24, .inr (.inl (fun _ => Int64.ofInt 0)))) rfl rfl
  | 22, _ => exact Eq.trans (b := .inl (G.2.2.1, 4, .inl (fun _ => Int32.ofInt 0))) rfl rfl
  | 23, _ => exact Eq.trans (b := .inl (G.1, 4, .inl (fun _ => Int32.ofInt 0))) rfl rfl
  | 24, _ => exact Eq.trans (b := .inl (G.1, 4, .inl (fun _ => Int32.ofInt 0))) rfl rfl
  | 25, _ => exact Eq.trans (b := .inl (G.1, 4, .inl (fun _ => Int32.ofInt 0))) rfl rfl
  | k + 26, h => exact absurd h (by omega)
theorem cs_done {D : va_G} {G : pm_G} {s : State} {E : Nat → va_E} {H : Heap} (h : cs_P D s.heap.size 274 E H) (h1 : ∀ i, i < 248 → E i = cs_B 0 G (s.heap.size + 0) i) (h2 : ∀ i, 248 ≤ i → E i = cs_B 248 G (s.heap.size + 248) (i - 248)) : va_P D vwCl (pm_ws (lw_ad s) G j0) H := by
  intro k q hq
  rcases Nat.lt_or_ge k 274 with hk | hk
  · rw [pm_ws_get hk] at hq
    cases hq
    have h0 := h.2 k hk
    rcases Nat.lt_or_ge k 248 with h3 | h3
    · rw [h1 k h3] at h0
      have e : cs_B 0 G (s.heap.size + 0) k = pm_cell (lw_ad s) G k (j0 (k : Int)) := by
        unfold cs_B
        rw [Nat.zero_add, Nat.add_zero]
        rfl
      rw [e] at h0
      exact h0
    · rw [h2 k h3, cs_model G s.heap.size (k - 248) (by omega), show 248 + (k - 248) = k by omega] at h0
      exact h0
  · rw [List.getElem?_eq_none (by unfold pm_ws; rw [List.length_map, List.length_range]; exact hk)] at hq
    cases hq
