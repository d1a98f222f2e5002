/-! The text constant's indexOf: StringLatin1. -/
theorem pix_ini1 : Jvm.Cond.initialized "java/lang/StringLatin1" ∈ pm_TB := pm_TB_in (j := 92) (by decide +kernel) (by first | rfl | decide +kernel)
theorem pix_l88 : Jvm.Cond.methodLink "java/lang/StringLatin1" 88 yJ1_canEncode_9a6ad ∈ pm_TB := pm_TB_in (j := 723) (by decide +kernel) (by first | rfl | decide +kernel)
theorem pix_s88 : Jvm.Cond.static yJ1_canEncode_9a6ad ∈ pm_TB := pm_TB_in (j := 724) (by decide +kernel) (by first | rfl | decide +kernel)
theorem pix_b88 : Jvm.Cond.code yJ1_canEncode_9a6ad cJ1_canEncode_9a6ad 1 (some .boolean) ∈ pm_TB := pm_TB_in (j := 725) (by decide +kernel) (by first | rfl | decide +kernel)
theorem pix_l92 : Jvm.Cond.methodLink "java/lang/StringLatin1" 92 Lib.Math.max.name ∈ pm_TB := pm_TB_in (j := 726) (by decide +kernel) (by first | rfl | decide +kernel)
theorem pix_l38 : Jvm.Cond.methodLink "java/lang/StringLatin1" 38 Lib.Math.min.name ∈ pm_TB := pm_TB_in (j := 729) (by decide +kernel) (by first | rfl | decide +kernel)
theorem pix_l95 : Jvm.Cond.methodLink "java/lang/StringLatin1" 95 yJ1_indexOfChar_4cfef ∈ pm_TB := pm_TB_in (j := 732) (by decide +kernel) (by first | rfl | decide +kernel)
theorem pix_s95 : Jvm.Cond.static yJ1_indexOfChar_4cfef ∈ pm_TB := pm_TB_in (j := 733) (by decide +kernel) (by first | rfl | decide +kernel)
theorem pix_b95 : Jvm.Cond.code yJ1_indexOfChar_4cfef cJ1_indexOfChar_4cfef 6 (some .int) ∈ pm_TB := pm_TB_in (j := 734) (by decide +kernel) (by first | rfl | decide +kernel)
theorem pix_n0 : decode cJ1_indexOf_4cfef 0 = .ok (.iload_n 1, 1) := by decide +kernel
theorem pix_n1 : decode cJ1_indexOf_4cfef 1 = .ok (.invokestatic 88, 3) := by decide +kernel
theorem pix_n4 : decode cJ1_indexOf_4cfef 4 = .ok (.ifCond .ne 5, 3) := by decide +kernel
theorem pix_n7 : decode cJ1_indexOf_4cfef 7 = .ok (.iconst (-1), 1) := by decide +kernel
theorem pix_n8 : decode cJ1_indexOf_4cfef 8 = .ok (.ireturn, 1) := by decide +kernel
theorem pix_n9 : decode cJ1_indexOf_4cfef 9 = .ok (.iload_n 2, 1) := by decide +kernel
theorem pix_n10 : decode cJ1_indexOf_4cfef 10 = .ok (.iconst 0, 1) := by decide +kernel
theorem pix_n11 : decode cJ1_indexOf_4cfef 11 = .ok (.invokestatic 92, 3) := by decide +kernel
theorem pix_n14 : decode cJ1_indexOf_4cfef 14 = .ok (.istore_n 2, 1) := by decide +kernel
theorem pix_n15 : decode cJ1_indexOf_4cfef 15 = .ok (.iload_n 3, 1) := by decide +kernel
theorem pix_n16 : decode cJ1_indexOf_4cfef 16 = .ok (.aload_n 0, 1) := by decide +kernel
theorem pix_n17 : decode cJ1_indexOf_4cfef 17 = .ok (.arraylength, 1) := by decide +kernel
theorem pix_n18 : decode cJ1_indexOf_4cfef 18 = .ok (.invokestatic 38, 3) := by decide +kernel
theorem pix_n21 : decode cJ1_indexOf_4cfef 21 = .ok (.istore_n 3, 1) := by decide +kernel
theorem pix_n22 : decode cJ1_indexOf_4cfef 22 = .ok (.iload_n 2, 1) := by decide +kernel
theorem pix_n23 : decode cJ1_indexOf_4cfef 23 = .ok (.iload_n 3, 1) := by decide +kernel
theorem pix_n24 : decode cJ1_indexOf_4cfef 24 = .ok (.if_icmp .lt 5, 3) := by decide +kernel
theorem pix_n29 : decode cJ1_indexOf_4cfef 29 = .ok (.aload_n 0, 1) := by decide +kernel
theorem pix_n30 : decode cJ1_indexOf_4cfef 30 = .ok (.iload_n 1, 1) := by decide +kernel
theorem pix_n31 : decode cJ1_indexOf_4cfef 31 = .ok (.iload_n 2, 1) := by decide +kernel
theorem pix_n32 : decode cJ1_indexOf_4cfef 32 = .ok (.iload_n 3, 1) := by decide +kernel
theorem pix_n33 : decode cJ1_indexOf_4cfef 33 = .ok (.invokestatic 95, 3) := by decide +kernel
theorem pix_n36 : decode cJ1_indexOf_4cfef 36 = .ok (.ireturn, 1) := by decide +kernel
abbrev pix_L (sv : Nat) (X : Int32) : List (Nat × Value) := [(0, .ref sv), (1, .int X), (2, .int 0), (3, .int 6)]
theorem pix_has4 (sv : Nat) (X : Int32) : lv_has #[Slot.val (.ref sv), .val (.int X), .val (.int 0), .val (.int 6)] 4 (pix_L sv X) := by
  refine ⟨rfl, ⟨fun i v h hc => ?_, fun i h => ?_⟩, fun q hq => ?_⟩
  · match i, h with
    | 0, h => cases h; cases hc
    | 1, h => cases h; cases hc
    | 2, h => cases h; cases hc
    | 3, h => cases h; cases hc
    | i + 4, h => cases h
  · match i, h with
    | 0, h => cases h
    | 1, h => cases h
    | 2, h => cases h
    | 3, h => cases h
    | i + 4, h => cases h
  · simp only [List.mem_cons, List.not_mem_nil, or_false] at hq
    rcases hq with rfl | rfl | rfl | rfl <;> rfl
def pix_v (X : Int32) : Int32 := if pix_ce X = 0 then -1 else pix_at X.toInt8.toInt32 6
theorem pix_blT {P : Array Value → Prop} {sv : Nat} : FrameBlind (fun a U => P a ∧ va_T .byte sv 6 pix_f (fun _ => False) U U.heap) := by
  intro a U g mk h
  exact ⟨h.1, va_T.moved (u := U) (U := U.calling g mk a) (Vm.Alike.refl U.vm) h.2⟩
theorem pix_latin (l : Launch) (sv : Nat) (X : Int32) : pix_M l yJ1_indexOf_4cfef cJ1_indexOf_4cfef 4 (some .int) 1 (fun a U => a = #[.ref sv, .int X, .int 0, .int 6] ∧ va_T .byte sv 6 pix_f (fun _ => False) U U.heap) (.int (pix_v X)) := by
  refine pix_of (by decide +kernel) ?_
  intro p e s m args below meth c hx hb hr hk hml hown hts hv
  obtain ⟨hv, hT⟩ := hv
  subst hv
  have hA : va_S (fun _ : Nat => False) s.heap s.heap [] := va_S.rf
  have he : entryFrame m #[Value.ref sv, .int X, .int 0, .int 6] 4 = F0 m 0 #[.val (.ref sv), .val (.int X), .val (.int 0), .val (.int 6)] [] := (lg_entry_eq m [.ref sv, .int X, .int 0, .int 6] 4).trans rfl
  rw [he]
  have l0 := pix_has4 sv X
  have hR : 0 + 1 ≤ (headSpec (Jvm.Cond.code yJ1_indexOf_4cfef cJ1_indexOf_4cfef 4 (some .int) :: pm_TB) (pix_rm 1)).room.frames := Nat.le_refl _
  have hR2 : (headSpec (Jvm.Cond.code yJ1_indexOf_4cfef cJ1_indexOf_4cfef 4 (some .int) :: pm_TB) (pix_rm 1)).room.locals = 33 := rfl
  refine lv_iload_n hx hb pix_n0 rfl rfl ?_
  refine pix_S (pix_can l X) (fun _ _ _ _ h => h) hx hb (hml.trans l0.1.symm) hts hown pix_l88 pix_s88 pix_ini1 pix_b88 ⟨by decide +kernel, by decide +kernel⟩ (As := [.int X]) (rest := []) (fun sig hs => by
      have h : parseMethodDescriptor "(I)Z" = some { parameters := [.int], returnType := some .boolean } := by decide +kernel
      rw [show yJ1_canEncode_9a6ad.desc = "(I)Z" from rfl, h] at hs
      rw [← Option.some.inj hs]; rfl) ⟨hR, by rw [hR2]; decide⟩ (fun _ _ _ => rfl) (by decide) pix_n1 rfl ?_
  refine lv_if_ne hx hb (tgt := 9) pix_n4 rfl (fun hc => ?_) (fun hc => ?_)
  · refine lv_iload_n hx hb pix_n9 rfl (lv_at l0 2 rfl) ?_
    refine lv_iconst hx hb pix_n10 (v := 0) rfl ?_
    refine va_mmax hx hb (hml.trans l0.1.symm) hown (hts _ pix_l92) (hts _ pm_lw_max_s) (hts _ pm_lw_iniM) (hts _ pm_lw_max_c) hR (by rw [hR2]; decide) (Nat.zero_le _) (Nat.zero_le _) pix_n11 ?_
    rw [if_neg (show ¬ (0 : Int32) < 0 by decide)]
    refine lv_istore_n hx hb pix_n14 rfl l0 (by decide) (lv' := [(2, .int 0), (0, .ref sv), (1, .int X), (3, .int 6)]) rfl (fun ls1 l1 => ?_)
    refine lv_iload_n hx hb pix_n15 rfl (lv_at l1 3 rfl) ?_
    refine lv_aload_n hx hb pix_n16 rfl (lv_at l1 1 rfl) ?_
    refine va_tlen hx hb hT hA (v := 6) rfl pix_n17 ?_
    refine va_mmin hx hb (hml.trans l1.1.symm) hown (hts _ pix_l38) (hts _ pm_lw_min_s) (hts _ pm_lw_iniM) (hts _ pm_lw_min_c) hR (by rw [hR2]; decide) (Nat.zero_le _) (Nat.zero_le _) pix_n18 ?_
    rw [if_neg (show ¬ (6 : Int32) < 6 by decide)]
    refine lv_istore_n hx hb pix_n21 rfl l1 (by decide) (lv' := [(3, .int 6), (2, .int 0), (0, .ref sv), (1, .int X)]) rfl (fun ls2 l2 => ?_)
    refine lv_iload_n hx hb pix_n22 rfl (lv_at l2 1 rfl) ?_
    refine lv_iload_n hx hb pix_n23 rfl (lv_at l2 0 rfl) ?_
    refine lv_icmp_lt hx hb (tgt := 29) pix_n24 rfl (fun _ => ?_) (fun hg => absurd (show (0 : Int32) < 6 by decide) hg)
    refine lv_aload_n hx hb pix_n29 rfl (lv_at l2 2 rfl) ?_
    refine lv_iload_n hx hb pix_n30 rfl (lv_at l2 3 rfl) ?_
    refine lv_iload_n hx hb pix_n31 rfl (lv_at l2 1 rfl) ?_
    refine lv_iload_n hx hb pix_n32 rfl (lv_at l2 0 rfl) ?_
    refine pix_S (pix_char l sv X) pix_blT hx hb (hml.trans l2.1.symm) hts hown pix_l95 pix_s95 pix_ini1 pix_b95 ⟨by decide +kernel, by decide +kernel⟩ (As := [.ref sv, .int X, .int 0, .int 6]) (rest := []) (fun sig hs => by
      have h : parseMethodDescriptor "([BIII)I" = some { parameters := [.array .byte, .int, .int, .int], returnType := some .int } := by decide +kernel
      rw [show yJ1_indexOfChar_4cfef.desc = "([BIII)I" from rfl, h] at hs
      rw [← Option.some.inj hs]; rfl) ⟨hR, by rw [hR2]; decide⟩ (fun U hU hW => ⟨rfl, by rw [hU]; exact va_T.moved hW.alike hT⟩) (by decide) pix_n33 rfl ?_
    exact W.iret hx hb hr (fun t ht _ => ⟨by unfold pix_v; rw [if_neg hc], ht⟩) (fun q hq => absurd hq List.not_mem_nil) pix_n36 hk
  · have hc' : pix_ce X = 0 := hc
    refine lv_iconst hx hb pix_n7 (v := -1) rfl ?_
    exact W.iret hx hb hr (fun t ht _ => ⟨by unfold pix_v; rw [if_pos hc'], ht⟩) (fun q hq => absurd hq List.not_mem_nil) pix_n8 hk
