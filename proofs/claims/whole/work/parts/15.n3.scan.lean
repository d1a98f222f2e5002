/-! The text constant's indexOf: the scan of its bytes. -/
theorem pix_i0 : decode cJ1_indexOfChar_4cfef 0 = .ok (.iload_n 1, 1) := by decide +kernel
theorem pix_i1 : decode cJ1_indexOfChar_4cfef 1 = .ok (.i2b, 1) := by decide +kernel
theorem pix_i2 : decode cJ1_indexOfChar_4cfef 2 = .ok (.istore 4, 2) := by decide +kernel
theorem pix_i4 : decode cJ1_indexOfChar_4cfef 4 = .ok (.iload_n 2, 1) := by decide +kernel
theorem pix_i5 : decode cJ1_indexOfChar_4cfef 5 = .ok (.istore 5, 2) := by decide +kernel
theorem pix_i7 : decode cJ1_indexOfChar_4cfef 7 = .ok (.iload 5, 2) := by decide +kernel
theorem pix_i9 : decode cJ1_indexOfChar_4cfef 9 = .ok (.iload_n 3, 1) := by decide +kernel
theorem pix_i10 : decode cJ1_indexOfChar_4cfef 10 = .ok (.if_icmp .ge 21, 3) := by decide +kernel
theorem pix_i13 : decode cJ1_indexOfChar_4cfef 13 = .ok (.aload_n 0, 1) := by decide +kernel
theorem pix_i14 : decode cJ1_indexOfChar_4cfef 14 = .ok (.iload 5, 2) := by decide +kernel
theorem pix_i16 : decode cJ1_indexOfChar_4cfef 16 = .ok (.baload, 1) := by decide +kernel
theorem pix_i17 : decode cJ1_indexOfChar_4cfef 17 = .ok (.iload 4, 2) := by decide +kernel
theorem pix_i19 : decode cJ1_indexOfChar_4cfef 19 = .ok (.if_icmp .ne 6, 3) := by decide +kernel
theorem pix_i22 : decode cJ1_indexOfChar_4cfef 22 = .ok (.iload 5, 2) := by decide +kernel
theorem pix_i24 : decode cJ1_indexOfChar_4cfef 24 = .ok (.ireturn, 1) := by decide +kernel
theorem pix_i25 : decode cJ1_indexOfChar_4cfef 25 = .ok (.iinc 5 1, 3) := by decide +kernel
theorem pix_i28 : decode cJ1_indexOfChar_4cfef 28 = .ok (.goto (-21), 3) := by decide +kernel
theorem pix_i31 : decode cJ1_indexOfChar_4cfef 31 = .ok (.iconst (-1), 1) := by decide +kernel
theorem pix_i32 : decode cJ1_indexOfChar_4cfef 32 = .ok (.ireturn, 1) := by decide +kernel
def pix_bs : List Int32 := [103, 112, 115, 119, 109, 102]
def pix_f (j : Nat) : Value := .int (pix_bs.getD j 0)
/-- where a byte stands among the last k -/
def pix_at (b : Int32) : Nat → Int32
  | 0 => -1
  | k + 1 => if pix_bs.getD (5 - k) 0 = b then Int32.ofNat (5 - k) else pix_at b k
theorem pix_k : ∀ k : Fin 6, ¬ (6 : Int32) ≤ Int32.ofNat (5 - k.val) ∧ ¬ Int32.ofNat (5 - k.val) < 0 ∧ (Int32.ofNat (5 - k.val)).toNatClampNeg = 5 - k.val ∧ Int32.ofNat (5 - k.val) + Int32.ofInt 1 = Int32.ofNat (6 - k.val) := by decide +kernel
abbrev pix_lv (sv : Nat) (X b i : Int32) : List (Nat × Value) := [(5, .int i), (4, .int b), (0, .ref sv), (1, .int X), (2, .int 0), (3, .int 6)]
theorem pix_has (sv : Nat) (X : Int32) : lv_has #[Slot.val (.ref sv), .val (.int X), .val (.int 0), .val (.int 6), .unset, .unset] 6 [(0, .ref sv), (1, .int X), (2, .int 0), (3, .int 6)] := by
  refine ⟨rfl, ⟨fun i v h hc => ?_, fun i h => ?_⟩, fun q hq => ?_⟩
  · match i, h with
    | 0, h => cases h; cases hc
    | 1, h => cases h; cases hc
    | 2, h => cases h; cases hc
    | 3, h => cases h; cases hc
    | 4, h => cases h
    | 5, h => cases h
    | i + 6, h => cases h
  · match i, h with
    | 0, h => cases h
    | 1, h => cases h
    | 2, h => cases h
    | 3, h => cases h
    | 4, h => cases h
    | 5, h => cases h
    | i + 6, h => cases h
  · simp only [List.mem_cons, List.not_mem_nil, or_false] at hq
    rcases hq with rfl | rfl | rfl | rfl <;> rfl
section PY
variable {p : Program} {l : Launch} {e : Env} {R : Room} {s : State} {m : MethodId} {args : Array Value} {below : List Frame} {meth : Method} {c : Code} {Q : State → Prop}
theorem pix_loop {sv : Nat} {X b w : Int32} (hx : p.tables.exec = Jvm.exec) (hb : c.code = cJ1_indexOfChar_4cfef) (hr : meth.sig.returnType = some .int) (hk : meth.locks = false) (hT : va_T .byte sv 6 pix_f (fun _ => False) s s.heap) : ∀ (k : Nat), k ≤ 6 → ∀ ls : Array Slot, lv_has ls 6 (pix_lv sv X b (Int32.ofNat (6 - k))) → pix_at b k = w →
    W p l e R s m args below meth c s.heap [] 0 0 (MQ below (pix_Q (.int w)) args s 0 0 (fun _ => False)) (F0 m 7 ls [])
  | 0, _, ls, hl, hw => by
    subst hw
    refine lv_iload hx hb pix_i7 (lv_at hl 0 rfl) ?_
    refine lv_iload_n hx hb pix_i9 rfl (lv_at hl 5 rfl) ?_
    refine lv_icmp_ge hx hb (tgt := 31) pix_i10 rfl (fun hg => ?_) (fun hg => absurd (show (6 : Int32) ≤ Int32.ofNat 6 by decide) hg)
    refine lv_iconst hx hb pix_i31 (v := -1) rfl ?_
    exact W.iret hx hb hr (fun t ht _ => ⟨rfl, ht⟩) (fun q hq => absurd hq List.not_mem_nil) pix_i32 hk
  | k + 1, h6, ls, hl, hw => by
    have hk' := pix_k ⟨k, by omega⟩
    simp only at hk'
    obtain ⟨k1, k2, k3, k4⟩ := hk'
    rw [show 6 - (k + 1) = 5 - k by omega] at hl
    have hA : va_S (fun _ : Nat => False) s.heap s.heap [] := va_S.rf
    refine lv_iload hx hb pix_i7 (lv_at hl 0 rfl) ?_
    refine lv_iload_n hx hb pix_i9 rfl (lv_at hl 5 rfl) ?_
    refine lv_icmp_ge hx hb (tgt := 31) pix_i10 rfl (fun hg => absurd hg k1) (fun _ => ?_)
    refine lv_aload_n hx hb pix_i13 rfl (lv_at hl 2 rfl) ?_
    refine lv_iload hx hb pix_i14 (lv_at hl 0 rfl) ?_
    refine va_tb hx hb hT hA (fun q => ?_) (v := .int (pix_bs.getD (5 - k) 0)) (by rw [k3]; rfl) pix_i16 ?_
    · rcases q with q | q
      · exact k2 q
      · rw [k3] at q; omega
    · refine lv_iload hx hb pix_i17 (lv_at hl 1 rfl) ?_
      refine lv_icmp_ne hx hb (tgt := 25) pix_i19 rfl (fun hn => ?_) (fun hn => ?_)
      · refine lv_iinc hx hb pix_i25 hl (k := 0) rfl k4 (by decide) (lv' := pix_lv sv X b (Int32.ofNat (6 - k))) rfl (fun ls' hl' => ?_)
        refine lv_goto hx hb (tgt := 7) pix_i28 rfl ?_
        refine pix_loop hx hb hr hk hT k (by omega) ls' hl' ?_
        rw [← hw]
        exact (if_neg hn).symm
      · refine lv_iload hx hb pix_i22 (lv_at hl 0 rfl) ?_
        have hn' : pix_bs.getD (5 - k) 0 = b := hn
        have e : w = Int32.ofNat (5 - k) := by rw [← hw]; exact if_pos hn'
        subst e
        exact W.iret hx hb hr (fun t ht _ => ⟨rfl, ht⟩) (fun q hq => absurd hq List.not_mem_nil) pix_i24 hk
end PY
theorem pix_char (l : Launch) (sv : Nat) (X : Int32) : pix_M l yJ1_indexOfChar_4cfef cJ1_indexOfChar_4cfef 6 (some .int) 0 (fun a U => a = #[.ref sv, .int X, .int 0, .int 6] ∧ va_T .byte sv 6 pix_f (fun _ => False) U U.heap) (.int (pix_at X.toInt8.toInt32 6)) := by
  refine pix_of (by decide +kernel) ?_
  intro p e s m args below meth c hx hb hr hk hml hown hts hv
  obtain ⟨hv, hT⟩ := hv
  subst hv
  have he : entryFrame m #[Value.ref sv, .int X, .int 0, .int 6] 6 = F0 m 0 #[.val (.ref sv), .val (.int X), .val (.int 0), .val (.int 6), .unset, .unset] [] := (lg_entry_eq m [.ref sv, .int X, .int 0, .int 6] 6).trans rfl
  rw [he]
  refine lv_iload_n hx hb pix_i0 rfl rfl ?_
  refine lv_i2b hx hb pix_i1 rfl ?_
  refine lv_istore hx hb pix_i2 (pix_has sv X) (by decide) (lv' := [(4, .int X.toInt8.toInt32), (0, .ref sv), (1, .int X), (2, .int 0), (3, .int 6)]) rfl (fun ls hl => ?_)
  refine lv_iload_n hx hb pix_i4 rfl (lv_at hl 3 rfl) ?_
  refine lv_istore hx hb pix_i5 hl (by decide) (lv' := pix_lv sv X X.toInt8.toInt32 0) rfl (fun ls' hl' => ?_)
  exact pix_loop hx hb hr hk hT 6 (Nat.le_refl _) ls' hl' rfl
