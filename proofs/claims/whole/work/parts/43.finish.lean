/-! A minute's end: works are finished, trips run down, gauges shift. -/
def zfr (g : pH) (w : Int) : Int := if g 249 (344 + w) = -1 then 0 else if g 259 w = 0 then g 249 (164 + g 249 (344 + w)) else 0
def zfd' (g : pH) (w : Int) : Int := if g 249 (200 + w) = 0 then g 249 (296 + w) + zfr g w else if zfr g w = g 249 (232 + w) then g 249 (296 + w) + 1 else g 249 (296 + w)
def zfm (g : pH) (w : Int) : Int := if g 249 (200 + w) = 0 then g 249 (360 + w) else if zfr g w = g 249 (232 + w) then g 249 (360 + w) else if g 249 (360 + w) = 0 then 1 else g 249 (360 + w)
def zfc (g : pH) (w : Int) : Int := if g 249 (200 + w) = 0 then (if g 259 w = 0 then (if 3 ≤ zfr g w then g 249 (312 + w) else 6) else g 259 w) else if zfr g w = g 249 (232 + w) then g 249 (312 + w) else if g 249 (360 + w) = 0 then (if g 259 w = 0 then 6 else g 259 w) else g 249 (312 + w)
def zfo (g : pH) (w : Int) : Int := if g 249 (200 + w) = 0 then (if g 249 (232 + w) ≤ zfd' g w then 2 else if g 249 15 = g 249 (264 + w) then 3 else 0) else if g 249 (264 + w) ≤ g 249 15 then (if zfm g w = 0 then 2 else 3) else 0
def zfa (g : pH) (w : Int) : Int := if g 249 (344 + w) = -1 then -1 else if g 249 (164 + g 249 (344 + w)) ≤ 0 then -1 else g 249 (344 + w)
set_option maxHeartbeats 4000000 in
theorem finish_M (w : Int) (g : pH) (hw : 0 ≤ w ∧ w < 16) (hA : -1 ≤ g 249 (344 + w) ∧ g 249 (344 + w) < 10) (hc : 0 ≤ g 259 w ∧ g 259 w ≤ 5) (hR : g 249 (344 + w) ≠ -1 → 0 ≤ g 249 (164 + g 249 (344 + w)) ∧ g 249 (164 + g 249 (344 + w)) ≤ 3) (hD : 0 ≤ g 249 (296 + w) ∧ g 249 (296 + w) ≤ 1000000) :
    P_X12_finish w g ∧ (∀ a, a ≠ 249 → H_X12_finish w g a = g a) ∧ (∀ k : Int, k ≠ 296 + w → k ≠ 312 + w → k ≠ 328 + w → k ≠ 344 + w → k ≠ 360 + w → H_X12_finish w g 249 k = g 249 k) ∧
    H_X12_finish w g 249 (296 + w) = zfd' g w ∧ H_X12_finish w g 249 (312 + w) = zfc g w ∧ H_X12_finish w g 249 (328 + w) = zfo g w ∧ H_X12_finish w g 249 (344 + w) = zfa g w ∧ H_X12_finish w g 249 (360 + w) = zfm g w := by
  have e1 : s_X12_finish_1 w g = zfr g w := rfl
  have rb : 0 ≤ zfr g w ∧ zfr g w ≤ 3 := by unfold zfr; split <;> (try split) <;> omega
  -- a batch
  have c2 : ∀ a, a ≠ 249 → s_X12_finish_2 w g a = g a := fun a ha => by unfold s_X12_finish_2; rw [up_cell _ ha]
  have k2 : ∀ k, k ≠ 296 + w → s_X12_finish_2 w g 249 k = g 249 k := fun k hk => by unfold s_X12_finish_2; rw [up_pl _ hk]
  have v2 : s_X12_finish_2 w g 249 (296 + w) = g 249 (296 + w) + zfr g w := by unfold s_X12_finish_2; rw [up_eq, e1]
  have e3 : s_X12_finish_3 w g = if g 259 w = 0 then (if 3 ≤ zfr g w then 0 else 6) else g 259 w := by unfold s_X12_finish_3; rw [c2 259 (by omega), e1]
  have e4 : s_X12_finish_4 w g = if g 259 w = 0 then (if 3 ≤ zfr g w then g 249 (312 + w) else 6) else g 259 w := by
    unfold s_X12_finish_4
    rw [e3, k2 (312 + w) (by omega)]
    grind
  have k5 : ∀ k, k ≠ 296 + w → k ≠ 312 + w → s_X12_finish_5 w g 249 k = g 249 k := fun k a1 a2 => by unfold s_X12_finish_5; rw [up_pl _ a2, k2 k a1]
  have v5 : s_X12_finish_5 w g 249 (296 + w) = g 249 (296 + w) + zfr g w := by unfold s_X12_finish_5; rw [up_pl _ (by omega), v2]
  have v5c : s_X12_finish_5 w g 249 (312 + w) = s_X12_finish_4 w g := by unfold s_X12_finish_5; rw [up_eq]
  have e6 : s_X12_finish_6 w g = if g 249 (232 + w) ≤ g 249 (296 + w) + zfr g w then 2 else if g 249 15 = g 249 (264 + w) then 3 else 0 := by
    unfold s_X12_finish_6
    rw [k5 (232 + w) (by omega) (by omega), v5, k5 15 (by omega) (by omega), k5 (264 + w) (by omega) (by omega)]
  -- a steady one
  have e8 : s_X12_finish_8 w g = if zfr g w = g 249 (232 + w) then 1 else 0 := by unfold s_X12_finish_8; rw [e1]
  have k9 : ∀ k, k ≠ 296 + w → s_X12_finish_9 w g 249 k = g 249 k := fun k hk => by unfold s_X12_finish_9; rw [up_pl _ hk]
  have c9 : ∀ a, a ≠ 249 → s_X12_finish_9 w g a = g a := fun a ha => by unfold s_X12_finish_9; rw [up_cell _ ha]
  have v9 : s_X12_finish_9 w g 249 (296 + w) = if zfr g w = g 249 (232 + w) then g 249 (296 + w) + 1 else g 249 (296 + w) := by unfold s_X12_finish_9; rw [up_eq, e8]; split <;> omega
  have e10 : s_X12_finish_10 w g = if g 259 w = 0 then 6 else g 259 w := by unfold s_X12_finish_10; rw [up_cell _ (show (259 : Int) ≠ 249 by omega), c9 259 (by omega)]
  have h11 : s_X12_finish_11 w g = pm_upd (pm_upd (s_X12_finish_9 w g) 249 (360 + w) 1) 249 (312 + w) (if g 259 w = 0 then 6 else g 259 w) := by unfold s_X12_finish_11; rw [e10]
  have h12 : s_X12_finish_12 w g = if zfr g w = g 249 (232 + w) then s_X12_finish_9 w g else if g 249 (360 + w) = 0 then s_X12_finish_11 w g else s_X12_finish_9 w g := by unfold s_X12_finish_12; rw [e1, k9 (360 + w) (by omega)]
  have k12 : ∀ k, k ≠ 296 + w → k ≠ 312 + w → k ≠ 360 + w → s_X12_finish_12 w g 249 k = g 249 k := fun k a1 a2 a3 => by
    rw [h12, h11]
    split
    · exact k9 k a1
    · split
      · rw [up_pl _ a2, up_pl _ a3]; exact k9 k a1
      · exact k9 k a1
  have v12d : s_X12_finish_12 w g 249 (296 + w) = if zfr g w = g 249 (232 + w) then g 249 (296 + w) + 1 else g 249 (296 + w) := by
    rw [h12, h11]
    split
    · next c => rw [v9, if_pos c]
    · next c =>
      split
      · rw [up_pl _ (by omega), up_pl _ (by omega), v9, if_neg c]
      · rw [v9, if_neg c]
  have v12c : s_X12_finish_12 w g 249 (312 + w) = if zfr g w = g 249 (232 + w) then g 249 (312 + w) else if g 249 (360 + w) = 0 then (if g 259 w = 0 then 6 else g 259 w) else g 249 (312 + w) := by
    rw [h12, h11]
    split
    · exact k9 _ (by omega)
    · split
      · rw [up_eq]
      · exact k9 _ (by omega)
  have v12m : s_X12_finish_12 w g 249 (360 + w) = if zfr g w = g 249 (232 + w) then g 249 (360 + w) else if g 249 (360 + w) = 0 then 1 else g 249 (360 + w) := by
    rw [h12, h11]
    split
    · exact k9 _ (by omega)
    · split
      · rw [up_pl _ (by omega), up_eq]
      · exact k9 _ (by omega)
  have e13 : s_X12_finish_13 w g = if g 249 (264 + w) ≤ g 249 15 then (if (if zfr g w = g 249 (232 + w) then g 249 (360 + w) else if g 249 (360 + w) = 0 then 1 else g 249 (360 + w)) = 0 then 2 else 3) else 0 := by
    unfold s_X12_finish_13
    rw [k12 (264 + w) (by omega) (by omega) (by omega), k12 15 (by omega) (by omega) (by omega), v12m]
  have h15 : s_X12_finish_15 w g = if g 249 (200 + w) = 0 then s_X12_finish_7 w g else s_X12_finish_14 w g := rfl
  have k15 : ∀ k, k ≠ 296 + w → k ≠ 312 + w → k ≠ 328 + w → k ≠ 360 + w → s_X12_finish_15 w g 249 k = g 249 k := fun k a1 a2 a3 a4 => by
    rw [h15]
    split
    · unfold s_X12_finish_7; rw [up_pl _ a3, k5 k a1 a2]
    · unfold s_X12_finish_14; rw [up_pl _ a3, k12 k a1 a2 a4]
  have e16 : s_X12_finish_16 w g = zfa g w := by
    unfold s_X12_finish_16 zfa
    by_cases c : g 249 (344 + w) = -1
    · rw [if_pos c, if_pos c]
    · rw [if_neg c, if_neg c, k15 _ (by omega) (by omega) (by omega) (by omega)]
  have h17 : ∀ k, k ≠ 344 + w → H_X12_finish w g 249 k = s_X12_finish_15 w g 249 k := fun k hk => by
    show s_X12_finish_17 w g 249 k = _
    unfold s_X12_finish_17; rw [up_pl _ hk]
  have cc : ∀ a, a ≠ 249 → H_X12_finish w g a = g a := fun a ha => by
    show s_X12_finish_17 w g a = _
    unfold s_X12_finish_17
    rw [up_cell _ ha, h15]
    split
    · unfold s_X12_finish_7 s_X12_finish_5; rw [up_cell _ ha, up_cell _ ha, c2 a ha]
    · unfold s_X12_finish_14
      rw [up_cell _ ha, h12, h11]
      split
      · exact c9 a ha
      · split
        · rw [up_cell _ ha, up_cell _ ha]; exact c9 a ha
        · exact c9 a ha
  refine ⟨?_, cc, fun k a1 a2 a3 a4 a5 => by rw [h17 k a4, k15 k a1 a2 a3 a5], ?_, ?_, ?_, ?_, ?_⟩
  · unfold P_X12_finish P_X12_at fx_i fx_l
    rw [e1, e8, k5 (232 + w) (by omega) (by omega), v5, k9 (360 + w) (by omega), k12 (264 + w) (by omega) (by omega) (by omega), k12 15 (by omega) (by omega) (by omega)]
    refine ⟨by omega, by omega, fun _ => ⟨by omega, fun _ => ⟨by omega, by omega⟩⟩, by omega, by omega, ⟨fun _ => ⟨by omega, by omega, by omega, by omega, by omega, fun _ => by omega, by omega, by omega, by omega, by omega, fun _ => ⟨by omega, by omega⟩, by omega⟩, fun _ => ⟨by omega, by omega, by omega, by omega, by split <;> omega, fun _ => ⟨by omega, by omega, fun _ => ⟨by omega, by omega, by omega⟩⟩, by omega, by omega, by omega, fun _ => ⟨by omega, by omega⟩, by omega⟩⟩, ?_⟩
    first
      | exact ⟨fun _ => ⟨by omega, by omega⟩, by omega⟩
      | exact ⟨fun _ => ⟨by omega, by omega, fun _ => by omega⟩, by omega⟩
      | grind
  · rw [h17 _ (by omega), h15]
    unfold zfd'
    split
    · unfold s_X12_finish_7; rw [up_pl _ (by omega), v5]
    · unfold s_X12_finish_14; rw [up_pl _ (by omega), v12d]
  · rw [h17 _ (by omega), h15]
    unfold zfc
    split
    · unfold s_X12_finish_7; rw [up_pl _ (by omega), v5c, e4]
    · unfold s_X12_finish_14; rw [up_pl _ (by omega), v12c]
  · rw [h17 _ (by omega), h15]
    unfold zfo
    split
    · next c => unfold s_X12_finish_7 zfd'; rw [up_eq, e6, if_pos c]
    · next c => unfold s_X12_finish_14 zfm; rw [up_eq, e13, if_neg c]
  · show s_X12_finish_17 w g 249 _ = _
    unfold s_X12_finish_17
    rw [up_eq, e16]
  · rw [h17 _ (by omega), h15]
    unfold zfm
    split
    · unfold s_X12_finish_7; rw [up_pl _ (by omega), k5 _ (by omega) (by omega)]
    · unfold s_X12_finish_14; rw [up_pl _ (by omega), v12m]
