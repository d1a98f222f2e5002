/-! The text constant's indexOf: coder, length, isLatin1, indexOf. -/
theorem pix_l335 : Jvm.Cond.methodLink "java/lang/String" 335 ⟨"java/lang/String", "coder", "()B"⟩ ∈ pm_TB := pm_TB_in (j := 716) (by decide +kernel) (by first | rfl | decide +kernel)
theorem pix_m335 : Jvm.Cond.instanceMethod ⟨"java/lang/String", "coder", "()B"⟩ ∈ pm_TB := pm_TB_in (j := 717) (by decide +kernel) (by first | rfl | decide +kernel)
theorem pix_e335 : Jvm.Cond.selects "java/lang/String" ⟨"java/lang/String", "coder", "()B"⟩ ⟨"java/lang/String", "coder", "()B"⟩ ∈ pm_TB := pm_TB_in (j := 718) (by decide +kernel) (by first | rfl | decide +kernel)
theorem pix_b335 : Jvm.Cond.code ⟨"java/lang/String", "coder", "()B"⟩ prog_18_method_152_code 1 (some .byte) ∈ pm_TB := pm_TB_in (j := 719) (by decide +kernel) (by first | rfl | decide +kernel)
theorem pix_l505 : Jvm.Cond.methodLink "java/lang/String" 505 ⟨"java/lang/String", "length", "()I"⟩ ∈ pm_TB := pm_TB_in (j := 712) (by decide +kernel) (by first | rfl | decide +kernel)
theorem pix_m505 : Jvm.Cond.instanceMethod ⟨"java/lang/String", "length", "()I"⟩ ∈ pm_TB := pm_TB_in (j := 713) (by decide +kernel) (by first | rfl | decide +kernel)
theorem pix_e505 : Jvm.Cond.selects "java/lang/String" ⟨"java/lang/String", "length", "()I"⟩ ⟨"java/lang/String", "length", "()I"⟩ ∈ pm_TB := pm_TB_in (j := 714) (by decide +kernel) (by first | rfl | decide +kernel)
theorem pix_b505 : Jvm.Cond.code ⟨"java/lang/String", "length", "()I"⟩ prog_18_method_54_code 1 (some .int) ∈ pm_TB := pm_TB_in (j := 715) (by decide +kernel) (by first | rfl | decide +kernel)
theorem pix_l492 : Jvm.Cond.methodLink "java/lang/String" 492 yJ0_isLatin1_aae02 ∈ pm_TB := pm_TB_in (j := 706) (by decide +kernel) (by first | rfl | decide +kernel)
theorem pix_m492 : Jvm.Cond.instanceMethod yJ0_isLatin1_aae02 ∈ pm_TB := pm_TB_in (j := 707) (by decide +kernel) (by first | rfl | decide +kernel)
theorem pix_e492 : Jvm.Cond.selects "java/lang/String" yJ0_isLatin1_aae02 yJ0_isLatin1_aae02 ∈ pm_TB := pm_TB_in (j := 708) (by decide +kernel) (by first | rfl | decide +kernel)
theorem pix_b492 : Jvm.Cond.code yJ0_isLatin1_aae02 cJ0_isLatin1_aae02 1 (some .boolean) ∈ pm_TB := pm_TB_in (j := 709) (by decide +kernel) (by first | rfl | decide +kernel)
theorem pix_l633 : Jvm.Cond.methodLink "java/lang/String" 633 yJ0_indexOf_7cf53 ∈ pm_TB := pm_TB_in (j := 702) (by decide +kernel) (by first | rfl | decide +kernel)
theorem pix_m633 : Jvm.Cond.instanceMethod yJ0_indexOf_7cf53 ∈ pm_TB := pm_TB_in (j := 703) (by decide +kernel) (by first | rfl | decide +kernel)
theorem pix_e633 : Jvm.Cond.selects "java/lang/String" yJ0_indexOf_7cf53 yJ0_indexOf_7cf53 ∈ pm_TB := pm_TB_in (j := 704) (by decide +kernel) (by first | rfl | decide +kernel)
theorem pix_b633 : Jvm.Cond.code yJ0_indexOf_7cf53 cJ0_indexOf_7cf53 3 (some .int) ∈ pm_TB := pm_TB_in (j := 705) (by decide +kernel) (by first | rfl | decide +kernel)
theorem pix_l95r : Jvm.Cond.methodLink "HotHall$Rules" 95 yJ0_indexOf_0f7a4 ∈ pm_TB := pm_TB_in (j := 698) (by decide +kernel) (by first | rfl | decide +kernel)
theorem pix_m95r : Jvm.Cond.instanceMethod yJ0_indexOf_0f7a4 ∈ pm_TB := pm_TB_in (j := 699) (by decide +kernel) (by first | rfl | decide +kernel)
theorem pix_e95r : Jvm.Cond.selects "java/lang/String" yJ0_indexOf_0f7a4 yJ0_indexOf_0f7a4 ∈ pm_TB := pm_TB_in (j := 700) (by decide +kernel) (by first | rfl | decide +kernel)
theorem pix_b95r : Jvm.Cond.code yJ0_indexOf_0f7a4 cJ0_indexOf_0f7a4 2 (some .int) ∈ pm_TB := pm_TB_in (j := 701) (by decide +kernel) (by first | rfl | decide +kernel)
theorem pix_l637 : Jvm.Cond.methodLink "java/lang/String" 637 yJ1_indexOf_4cfef ∈ pm_TB := pm_TB_in (j := 720) (by decide +kernel) (by first | rfl | decide +kernel)
theorem pix_s637 : Jvm.Cond.static yJ1_indexOf_4cfef ∈ pm_TB := pm_TB_in (j := 721) (by decide +kernel) (by first | rfl | decide +kernel)
theorem pix_b637 : Jvm.Cond.code yJ1_indexOf_4cfef cJ1_indexOf_4cfef 4 (some .int) ∈ pm_TB := pm_TB_in (j := 722) (by decide +kernel) (by first | rfl | decide +kernel)
section PP
variable {sa sv : Nat} {s : State}
theorem pix_cod (h : pix_T sa sv s) : va_OF "java/lang/String" "coder" "B" (.int 0) sa (fun _ => False) s s.heap := (h.1.1 0 (by decide)).2.1
theorem pix_val (h : pix_T sa sv s) : va_OF "java/lang/String" "value" "[B" (.ref sv) sa (fun _ => False) s s.heap := (h.1.1 0 (by decide)).2.2.1
theorem pix_arr (h : pix_T sa sv s) : va_T .byte sv 6 pix_f (fun _ => False) s s.heap := (h.1.1 0 (by decide)).2.2.2
theorem pix_rcv (h : pix_T sa sv s) : ∃ cellB : Cell, s.heap[sa]? = some cellB ∧ cellB.vm.isStatics = false ∧ s.vm.findClass "java/lang/String" = some cellB.cls := by
  obtain ⟨cell, h1, h2, h3, -⟩ := (h.1.1 0 (by decide)).1
  exact ⟨cell, h1, h2, h3⟩
end PP
theorem pix_g0 : decode prog_18_method_152_code 0 = .ok (.getstatic 38, 3) := by decide +kernel
theorem pix_g3 : decode prog_18_method_152_code 3 = .ok (.ifCond .eq 10, 3) := by decide +kernel
theorem pix_g6 : decode prog_18_method_152_code 6 = .ok (.aload_n 0, 1) := by decide +kernel
theorem pix_g7 : decode prog_18_method_152_code 7 = .ok (.getfield 15, 3) := by decide +kernel
theorem pix_g10 : decode prog_18_method_152_code 10 = .ok (.goto 4, 3) := by decide +kernel
theorem pix_g14 : decode prog_18_method_152_code 14 = .ok (.ireturn, 1) := by decide +kernel
theorem pix_coder (l : Launch) (sa sv : Nat) : pix_M l ⟨"java/lang/String", "coder", "()B"⟩ prog_18_method_152_code 1 (some .byte) 0 (fun a U => a = #[.ref sa] ∧ pix_T sa sv U) (.int 0) := by
  refine pix_of (by decide +kernel) ?_
  intro p e s m args below meth c hx hb hr hk hml hown hts hv
  obtain ⟨hv, hT⟩ := hv
  subst hv
  have hA : va_S (fun _ : Nat => False) s.heap s.heap [] := va_S.rf
  have he : entryFrame m #[Value.ref sa] 1 = F0 m 0 #[.val (.ref sa)] [] := (lg_entry_eq m [.ref sa] 1).trans rfl
  rw [he]
  refine va_gets hx hb hT.2 hA hown (hts _ pix_f38) (fun _ h => h) pix_g0 ?_
  refine lv_if_eq hx hb (tgt := 13) pix_g3 rfl (fun hc => absurd hc (by decide)) (fun _ => ?_)
  refine lv_aload_n hx hb pix_g6 rfl rfl ?_
  refine vk_getf hx hb (pix_cod hT) hA hown (hts _ pix_f15) (fun _ h => h) pix_g7 ?_
  refine lv_goto hx hb (tgt := 14) pix_g10 rfl ?_
  exact W.zret hx hb hr (by decide +kernel) (fun t ht _ => ⟨rfl, ht⟩) (fun q hq => absurd hq List.not_mem_nil) pix_g14 hk
theorem pix_h0 : decode prog_18_method_54_code 0 = .ok (.aload_n 0, 1) := by decide +kernel
theorem pix_h1 : decode prog_18_method_54_code 1 = .ok (.getfield 9, 3) := by decide +kernel
theorem pix_h4 : decode prog_18_method_54_code 4 = .ok (.arraylength, 1) := by decide +kernel
theorem pix_h5 : decode prog_18_method_54_code 5 = .ok (.aload_n 0, 1) := by decide +kernel
theorem pix_h6 : decode prog_18_method_54_code 6 = .ok (.invokevirtual 335, 3) := by decide +kernel
theorem pix_h9 : decode prog_18_method_54_code 9 = .ok (.ishr, 1) := by decide +kernel
theorem pix_h10 : decode prog_18_method_54_code 10 = .ok (.ireturn, 1) := by decide +kernel
theorem pix_len (l : Launch) (sa sv : Nat) : pix_M l ⟨"java/lang/String", "length", "()I"⟩ prog_18_method_54_code 1 (some .int) 1 (fun a U => a = #[.ref sa] ∧ pix_T sa sv U) (.int 6) := by
  refine pix_of (by decide +kernel) ?_
  intro p e s m args below meth c hx hb hr hk hml hown hts hv
  obtain ⟨hv, hT⟩ := hv
  subst hv
  have hA : va_S (fun _ : Nat => False) s.heap s.heap [] := va_S.rf
  have he : entryFrame m #[Value.ref sa] 1 = F0 m 0 #[.val (.ref sa)] [] := (lg_entry_eq m [.ref sa] 1).trans rfl
  rw [he]
  refine lv_aload_n hx hb pix_h0 rfl rfl ?_
  refine vk_getf hx hb (pix_val hT) hA hown (hts _ pix_f9) (fun _ h => h) pix_h1 ?_
  refine va_tlen hx hb (pix_arr hT) hA (v := 6) rfl pix_h4 ?_
  refine lv_aload_n hx hb pix_h5 rfl rfl ?_
  refine pix_V (pix_coder l sa sv) pix_bl hx hb (hml.trans (show 1 = (#[Slot.val (.ref sa)] : Array Slot).size from rfl)) hts hown pix_l335 pix_m335 pix_e335 pix_ini0 pix_b335 ⟨by decide +kernel, by decide +kernel⟩ (b := sa) (As := []) (rest := [.int 6]) (fun sig hs => by
      have h : parseMethodDescriptor "()B" = some { parameters := [], returnType := some .byte } := by decide +kernel
      rw [show (⟨"java/lang/String", "coder", "()B"⟩ : MethodName).desc = "()B" from rfl, h] at hs
      rw [← Option.some.inj hs]; rfl) ⟨Nat.le_refl _, by show 8 + (1 + 11) + 33 * 0 ≤ 33; decide⟩ (fun U hU hW => ⟨rfl, pix_go hT hU hW⟩) (pix_rcv hT) (by decide) pix_h6 rfl ?_
  refine lv_ishr hx hb pix_h9 ?_
  exact W.iret hx hb hr (fun t ht _ => ⟨by rw [show (6 : Int32) >>> ((0 : Int32) &&& 31) = 6 by decide], ht⟩) (fun q hq => absurd hq List.not_mem_nil) pix_h10 hk
theorem pix_a0 : decode cJ0_isLatin1_aae02 0 = .ok (.getstatic 38, 3) := by decide +kernel
theorem pix_a3 : decode cJ0_isLatin1_aae02 3 = .ok (.ifCond .eq 14, 3) := by decide +kernel
theorem pix_a6 : decode cJ0_isLatin1_aae02 6 = .ok (.aload_n 0, 1) := by decide +kernel
theorem pix_a7 : decode cJ0_isLatin1_aae02 7 = .ok (.getfield 15, 3) := by decide +kernel
theorem pix_a10 : decode cJ0_isLatin1_aae02 10 = .ok (.ifCond .ne 7, 3) := by decide +kernel
theorem pix_a13 : decode cJ0_isLatin1_aae02 13 = .ok (.iconst 1, 1) := by decide +kernel
theorem pix_a14 : decode cJ0_isLatin1_aae02 14 = .ok (.goto 4, 3) := by decide +kernel
theorem pix_a18 : decode cJ0_isLatin1_aae02 18 = .ok (.ireturn, 1) := by decide +kernel
theorem pix_isl (l : Launch) (sa sv : Nat) : pix_M l yJ0_isLatin1_aae02 cJ0_isLatin1_aae02 1 (some .boolean) 0 (fun a U => a = #[.ref sa] ∧ pix_T sa sv U) (.int 1) := by
  refine pix_of (by decide +kernel) ?_
  intro p e s m args below meth c hx hb hr hk hml hown hts hv
  obtain ⟨hv, hT⟩ := hv
  subst hv
  have hA : va_S (fun _ : Nat => False) s.heap s.heap [] := va_S.rf
  have he : entryFrame m #[Value.ref sa] 1 = F0 m 0 #[.val (.ref sa)] [] := (lg_entry_eq m [.ref sa] 1).trans rfl
  rw [he]
  refine va_gets hx hb hT.2 hA hown (hts _ pix_f38) (fun _ h => h) pix_a0 ?_
  refine lv_if_eq hx hb (tgt := 17) pix_a3 rfl (fun hc => absurd hc (by decide)) (fun _ => ?_)
  refine lv_aload_n hx hb pix_a6 rfl rfl ?_
  refine vk_getf hx hb (pix_cod hT) hA hown (hts _ pix_f15) (fun _ h => h) pix_a7 ?_
  refine lv_if_ne hx hb (tgt := 17) pix_a10 rfl (fun hc => absurd rfl hc) (fun _ => ?_)
  refine lv_iconst hx hb pix_a13 (v := 1) rfl ?_
  refine lv_goto hx hb (tgt := 18) pix_a14 rfl ?_
  exact W.zret hx hb hr (by decide +kernel) (fun t ht _ => ⟨rfl, ht⟩) (fun q hq => absurd hq List.not_mem_nil) pix_a18 hk
theorem pix_j0 : decode cJ0_indexOf_7cf53 0 = .ok (.aload_n 0, 1) := by decide +kernel
theorem pix_j1 : decode cJ0_indexOf_7cf53 1 = .ok (.invokevirtual 492, 3) := by decide +kernel
theorem pix_j4 : decode cJ0_indexOf_7cf53 4 = .ok (.ifCond .eq 19, 3) := by decide +kernel
theorem pix_j7 : decode cJ0_indexOf_7cf53 7 = .ok (.aload_n 0, 1) := by decide +kernel
theorem pix_j8 : decode cJ0_indexOf_7cf53 8 = .ok (.getfield 9, 3) := by decide +kernel
theorem pix_j11 : decode cJ0_indexOf_7cf53 11 = .ok (.iload_n 1, 1) := by decide +kernel
theorem pix_j12 : decode cJ0_indexOf_7cf53 12 = .ok (.iload_n 2, 1) := by decide +kernel
theorem pix_j13 : decode cJ0_indexOf_7cf53 13 = .ok (.aload_n 0, 1) := by decide +kernel
theorem pix_j14 : decode cJ0_indexOf_7cf53 14 = .ok (.invokevirtual 505, 3) := by decide +kernel
theorem pix_j17 : decode cJ0_indexOf_7cf53 17 = .ok (.invokestatic 637, 3) := by decide +kernel
theorem pix_j20 : decode cJ0_indexOf_7cf53 20 = .ok (.goto 16, 3) := by decide +kernel
theorem pix_j36 : decode cJ0_indexOf_7cf53 36 = .ok (.ireturn, 1) := by decide +kernel
theorem pix_ind2 (l : Launch) (sa sv : Nat) (X : Int32) : pix_M l yJ0_indexOf_7cf53 cJ0_indexOf_7cf53 3 (some .int) 2 (fun a U => a = #[.ref sa, .int X, .int 0] ∧ pix_T sa sv U) (.int (pix_v X)) := by
  refine pix_of (by decide +kernel) ?_
  intro p e s m args below meth c hx hb hr hk hml hown hts hv
  obtain ⟨hv, hT⟩ := hv
  subst hv
  have hA : va_S (fun _ : Nat => False) s.heap s.heap [] := va_S.rf
  have he : entryFrame m #[Value.ref sa, .int X, .int 0] 3 = F0 m 0 #[.val (.ref sa), .val (.int X), .val (.int 0)] [] := (lg_entry_eq m [.ref sa, .int X, .int 0] 3).trans rfl
  rw [he]
  refine lv_aload_n hx hb pix_j0 rfl rfl ?_
  refine pix_V (pix_isl l sa sv) pix_bl hx hb (hml.trans (show 3 = (#[Slot.val (.ref sa), .val (.int X), .val (.int 0)] : Array Slot).size from rfl)) hts hown pix_l492 pix_m492 pix_e492 pix_ini0 pix_b492 ⟨by decide +kernel, by decide +kernel⟩ (b := sa) (As := []) (rest := []) (fun sig hs => by
      have h : parseMethodDescriptor "()Z" = some { parameters := [], returnType := some .boolean } := by decide +kernel
      rw [show yJ0_isLatin1_aae02.desc = "()Z" from rfl, h] at hs
      rw [← Option.some.inj hs]; rfl) ⟨by show 0 + 1 ≤ 2; decide, by show 8 + (1 + 11) + 33 * 0 ≤ 66; decide⟩ (fun U hU hW => ⟨rfl, pix_go hT hU hW⟩) (pix_rcv hT) (by decide) pix_j1 rfl ?_
  refine lv_if_eq hx hb (tgt := 23) pix_j4 rfl (fun hc => absurd hc (by decide)) (fun _ => ?_)
  refine lv_aload_n hx hb pix_j7 rfl rfl ?_
  refine vk_getf hx hb (pix_val hT) hA hown (hts _ pix_f9) (fun _ h => h) pix_j8 ?_
  refine lv_iload_n hx hb pix_j11 rfl rfl ?_
  refine lv_iload_n hx hb pix_j12 rfl rfl ?_
  refine lv_aload_n hx hb pix_j13 rfl rfl ?_
  refine pix_V (pix_len l sa sv) pix_bl hx hb (hml.trans (show 3 = (#[Slot.val (.ref sa), .val (.int X), .val (.int 0)] : Array Slot).size from rfl)) hts hown pix_l505 pix_m505 pix_e505 pix_ini0 pix_b505 ⟨by decide +kernel, by decide +kernel⟩ (b := sa) (As := []) (rest := [.int 0, .int X, .ref sv]) (fun sig hs => by
      have h : parseMethodDescriptor "()I" = some { parameters := [], returnType := some .int } := by decide +kernel
      rw [show (⟨"java/lang/String", "length", "()I"⟩ : MethodName).desc = "()I" from rfl, h] at hs
      rw [← Option.some.inj hs]; rfl) ⟨by show 1 + 1 ≤ 2; decide, by show 8 + (1 + 11) + 33 * 1 ≤ 66; decide⟩ (fun U hU hW => ⟨rfl, pix_go hT hU hW⟩) (pix_rcv hT) (by show 1 + (1 + (1 + 0)) ≤ 8; decide) pix_j14 rfl ?_
  refine pix_S (pix_latin l sv X) pix_blT hx hb (hml.trans (show 3 = (#[Slot.val (.ref sa), .val (.int X), .val (.int 0)] : Array Slot).size from rfl)) hts hown pix_l637 pix_s637 pix_ini1 pix_b637 ⟨by decide +kernel, by decide +kernel⟩ (As := [.ref sv, .int X, .int 0, .int 6]) (rest := []) (fun sig hs => by
      have h : parseMethodDescriptor "([BIII)I" = some { parameters := [.array .byte, .int, .int, .int], returnType := some .int } := by decide +kernel
      rw [show yJ1_indexOf_4cfef.desc = "([BIII)I" from rfl, h] at hs
      rw [← Option.some.inj hs]; rfl) ⟨by show 1 + 1 ≤ 2; decide, by show 8 + (4 + 11) + 33 * 1 ≤ 66; decide⟩ (fun U hU hW => ⟨rfl, by rw [hU]; exact va_T.moved hW.alike (pix_arr hT)⟩) (by decide) pix_j17 rfl ?_
  refine lv_goto hx hb (tgt := 36) pix_j20 rfl ?_
  exact W.iret hx hb hr (fun t ht _ => ⟨rfl, ht⟩) (fun q hq => absurd hq List.not_mem_nil) pix_j36 hk
theorem pix_o0 : decode cJ0_indexOf_0f7a4 0 = .ok (.aload_n 0, 1) := by decide +kernel
theorem pix_o1 : decode cJ0_indexOf_0f7a4 1 = .ok (.iload_n 1, 1) := by decide +kernel
theorem pix_o2 : decode cJ0_indexOf_0f7a4 2 = .ok (.iconst 0, 1) := by decide +kernel
theorem pix_o3 : decode cJ0_indexOf_0f7a4 3 = .ok (.invokevirtual 633, 3) := by decide +kernel
theorem pix_o6 : decode cJ0_indexOf_0f7a4 6 = .ok (.ireturn, 1) := by decide +kernel
theorem pix_ind1 (l : Launch) (sa sv : Nat) (X : Int32) : pix_M l yJ0_indexOf_0f7a4 cJ0_indexOf_0f7a4 2 (some .int) 3 (fun a U => a = #[.ref sa, .int X] ∧ pix_T sa sv U) (.int (pix_v X)) := by
  refine pix_of (by decide +kernel) ?_
  intro p e s m args below meth c hx hb hr hk hml hown hts hv
  obtain ⟨hv, hT⟩ := hv
  subst hv
  have he : entryFrame m #[Value.ref sa, .int X] 2 = F0 m 0 #[.val (.ref sa), .val (.int X)] [] := (lg_entry_eq m [.ref sa, .int X] 2).trans rfl
  rw [he]
  refine lv_aload_n hx hb pix_o0 rfl rfl ?_
  refine lv_iload_n hx hb pix_o1 rfl rfl ?_
  refine lv_iconst hx hb pix_o2 (v := 0) rfl ?_
  refine pix_V (pix_ind2 l sa sv X) pix_bl hx hb (hml.trans (show 2 = (#[Slot.val (.ref sa), .val (.int X)] : Array Slot).size from rfl)) hts hown pix_l633 pix_m633 pix_e633 pix_ini0 pix_b633 ⟨by decide +kernel, by decide +kernel⟩ (b := sa) (As := [.int X, .int 0]) (rest := []) (fun sig hs => by
      have h : parseMethodDescriptor "(II)I" = some { parameters := [.int, .int], returnType := some .int } := by decide +kernel
      rw [show yJ0_indexOf_7cf53.desc = "(II)I" from rfl, h] at hs
      rw [← Option.some.inj hs]; rfl) ⟨by show 2 + 1 ≤ 3; decide, by show 8 + (3 + 11) + 33 * 2 ≤ 99; decide⟩ (fun U hU hW => ⟨rfl, pix_go hT hU hW⟩) (pix_rcv hT) (by decide) pix_o3 rfl ?_
  exact W.iret hx hb hr (fun t ht _ => ⟨rfl, ht⟩) (fun q hq => absurd hq List.not_mem_nil) pix_o6 hk
