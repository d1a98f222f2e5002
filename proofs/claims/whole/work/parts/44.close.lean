/-! A minute's end: all works, all trips, all gauges; closing. -/
theorem fins_M (g : pH) (nw : Nat) (gw : g 249 13 = nw) (h16 : nw ≤ 16) (hW : ∀ w : Int, 0 ≤ w → w < nw → -1 ≤ g 249 (344 + w) ∧ g 249 (344 + w) < 10 ∧ 0 ≤ g 259 w ∧ g 259 w ≤ 5 ∧ 0 ≤ g 249 (296 + w) ∧ g 249 (296 + w) ≤ 1000000) (hR : ∀ m : Int, 0 ≤ m → m < 10 → (∃ w : Int, 0 ≤ w ∧ w < nw ∧ g 249 (344 + w) = m) → 0 ≤ g 249 (164 + m) ∧ g 249 (164 + m) ≤ 3) :
    O_X12_minute_226 0 g ∧ (∀ a, a ≠ 249 → (L_X12_minute_226 0 g).2 a = g a) ∧ (∀ k : Int, k < 296 ∨ 376 ≤ k → (L_X12_minute_226 0 g).2 249 k = g 249 k) ∧
    ∀ w : Int, 0 ≤ w → w < nw → (L_X12_minute_226 0 g).2 249 (296 + w) = (if g 263 w = 0 then g 249 (296 + w) else zfd' g w) ∧ (L_X12_minute_226 0 g).2 249 (312 + w) = (if g 263 w = 0 then g 249 (312 + w) else zfc g w) ∧ (L_X12_minute_226 0 g).2 249 (328 + w) = (if g 263 w = 0 then g 249 (328 + w) else zfo g w) ∧ (L_X12_minute_226 0 g).2 249 (344 + w) = (if g 263 w = 0 then g 249 (344 + w) else zfa g w) ∧ (L_X12_minute_226 0 g).2 249 (360 + w) = (if g 263 w = 0 then g 249 (360 + w) else zfm g w) := by
  have key := fx_rule (σ := Int × pH) (c := (fun s => C_X12_minute_226 s.1 s.2)) (f := (fun s => B_X12_minute_226 s.1 s.2)) (P := (fun s => P_X12_minute_226 s.1 s.2)) (s0 := (0, g)) nw (fun i s => s.1 = i ∧ i ≤ nw ∧ (∀ a, a ≠ 249 → s.2 a = g a) ∧ (∀ k : Int, k < 296 ∨ 376 ≤ k → s.2 249 k = g 249 k) ∧
    (∀ w : Int, i ≤ w → w < 16 → s.2 249 (296 + w) = g 249 (296 + w) ∧ s.2 249 (312 + w) = g 249 (312 + w) ∧ s.2 249 (328 + w) = g 249 (328 + w) ∧ s.2 249 (344 + w) = g 249 (344 + w) ∧ s.2 249 (360 + w) = g 249 (360 + w)) ∧
    ∀ w : Int, 0 ≤ w → w < i → s.2 249 (296 + w) = (if g 263 w = 0 then g 249 (296 + w) else zfd' g w) ∧ s.2 249 (312 + w) = (if g 263 w = 0 then g 249 (312 + w) else zfc g w) ∧ s.2 249 (328 + w) = (if g 263 w = 0 then g 249 (328 + w) else zfo g w) ∧ s.2 249 (344 + w) = (if g 263 w = 0 then g 249 (344 + w) else zfa g w) ∧ s.2 249 (360 + w) = (if g 263 w = 0 then g 249 (360 + w) else zfm g w))
    ⟨rfl, by omega, fun _ _ => rfl, fun _ _ => rfl, fun w a1 a2 => ⟨rfl, rfl, rfl, rfl, rfl⟩, fun w a1 a2 => by omega⟩ ?_ ?_
  · exact ⟨key.1, key.2.2.2.1, key.2.2.2.2.1, key.2.2.2.2.2.2⟩
  · rintro i ⟨x, g'⟩ hi ⟨hx, hi2, f1, f2, fo, fn⟩
    simp only at hx f1 f2 fo fn
    subst hx
    have o := fo i (by omega) (by omega)
    have q := hW i (by omega) (by omega)
    have e63 : g' 263 = g 263 := f1 _ (by omega)
    have e59 : g' 259 = g 259 := f1 _ (by omega)
    have k13 : g' 249 13 = nw := by rw [f2 _ (by omega)]; exact gw
    by_cases c : g 263 i = 0
    · simp only [P_X12_minute_226, C_X12_minute_226, B_X12_minute_226, e63, c, if_true, k13, fx_i]
      refine ⟨fun _ => ⟨by omega, fun z => absurd trivial z, by omega⟩, by omega, by omega, by omega, f1, f2, fun w a1 a2 => fo w (by omega) a2, fun w a1 a2 => ?_⟩
      by_cases e : w = i
      · rw [e]; simp only [c, if_true]; exact o
      · exact fn w a1 (by omega)
    · have fm := finish_M i g' (by omega) (by rw [o.2.2.2.1]; omega) (by rw [e59]; omega) (fun z => by
        rw [o.2.2.2.1] at z ⊢
        rw [f2 (164 + g 249 (344 + i)) (by omega)]
        exact hR _ (by omega) (by omega) ⟨i, by omega, by omega, rfl⟩) (by rw [o.1]; omega)
      obtain ⟨p1, p2, p3, p4, p5, p6, p7, p8⟩ := fm
      have r : zfr g' i = zfr g i := by
        unfold zfr
        rw [o.2.2.2.1, e59]
        split
        · rfl
        · rw [f2 (164 + g 249 (344 + i)) (by omega)]
      have rd : zfd' g' i = zfd' g i := by unfold zfd'; rw [r, o.1, f2 (200 + i) (by omega), f2 (232 + i) (by omega)]
      have rm : zfm g' i = zfm g i := by unfold zfm; rw [r, o.2.2.2.2, f2 (200 + i) (by omega), f2 (232 + i) (by omega)]
      have rc : zfc g' i = zfc g i := by unfold zfc; rw [r, o.2.2.2.2, o.2.1, e59, f2 (200 + i) (by omega), f2 (232 + i) (by omega)]
      have ro : zfo g' i = zfo g i := by unfold zfo; rw [rd, rm, f2 (200 + i) (by omega), f2 (232 + i) (by omega), f2 15 (by omega), f2 (264 + i) (by omega)]
      have ra : zfa g' i = zfa g i := by
        unfold zfa
        rw [o.2.2.2.1]
        split
        · rfl
        · rw [f2 (164 + g 249 (344 + i)) (by omega)]
      rw [rd] at p4; rw [rc] at p5; rw [ro] at p6; rw [ra] at p7; rw [rm] at p8
      simp only [P_X12_minute_226, C_X12_minute_226, B_X12_minute_226, e63, c, if_false, k13, fx_i]
      refine ⟨fun _ => ⟨by omega, fun _ => p1, by omega⟩, by omega, by omega, by omega, fun a a1 => (p2 a a1).trans (f1 a a1), fun k a1 => (p3 k (by omega) (by omega) (by omega) (by omega) (by omega)).trans (f2 k a1), fun w a1 a2 => ?_, fun w a1 a2 => ?_⟩
      · rw [p3 (296 + w) (by omega) (by omega) (by omega) (by omega) (by omega), p3 (312 + w) (by omega) (by omega) (by omega) (by omega) (by omega), p3 (328 + w) (by omega) (by omega) (by omega) (by omega) (by omega), p3 (344 + w) (by omega) (by omega) (by omega) (by omega) (by omega), p3 (360 + w) (by omega) (by omega) (by omega) (by omega) (by omega)]
        exact fo w (by omega) a2
      · by_cases e : w = i
        · rw [e]; simp only [c, if_false]; exact ⟨p4, p5, p6, p7, p8⟩
        · rw [p3 (296 + w) (by omega) (by omega) (by omega) (by omega) (by omega), p3 (312 + w) (by omega) (by omega) (by omega) (by omega) (by omega), p3 (328 + w) (by omega) (by omega) (by omega) (by omega) (by omega), p3 (344 + w) (by omega) (by omega) (by omega) (by omega) (by omega), p3 (360 + w) (by omega) (by omega) (by omega) (by omega) (by omega)]
          exact fn w a1 (by omega)
  · rintro ⟨x, g'⟩ ⟨hx, hi2, f1, f2, -⟩
    simp only at hx f2
    subst hx
    have k13 : g' 249 13 = nw := by rw [f2 _ (by omega)]; exact gw
    simp only [P_X12_minute_226, C_X12_minute_226, B_X12_minute_226, k13]
    omega
/-- what a work did (class) -/
def xwk (b : Int) (h : pH) (w : Int) : Int := if h (b + 34) w = 0 then (if h (b + 35) w = -1 then 0 else h (b + 16) (h (b + 35) w)) else 0
def xdn (b : Int) (h : pH) (w : Int) : Int := if h (b + 25) w = 1 then (if xwk b h w = h (b + 27) w then h (b + 31) w + 1 else h (b + 31) w) else h (b + 31) w + xwk b h w
def xca (b : Int) (h : pH) (w : Int) : Int := if h (b + 25) w = 1 then (if xwk b h w = h (b + 27) w then h (b + 33) w else if h (b + 33) w = 0 then (if h (b + 34) w = 0 then 6 else h (b + 34) w) else h (b + 33) w) else (if xwk b h w = 3 then h (b + 33) w else (if h (b + 34) w = 0 then 6 else h (b + 34) w))
theorem fins_X (b : Int) (h : pH) (nm nw : Nat) (hw : h (b + 21) 15 = nw) (h16 : nw ≤ 16) (h10 : nm ≤ 10) (hW : ∀ w : Int, 0 ≤ w → w < nw → (h (b + 35) w = -1 ∨ (0 ≤ h (b + 35) w ∧ h (b + 35) w < nm)) ∧ 0 ≤ h (b + 31) w ∧ h (b + 31) w ≤ 1000000) (hR : ∀ m : Int, 0 ≤ m → m < nm → 0 ≤ h (b + 16) m ∧ h (b + 16) m ≤ 3) :
    P_X4_finishWorks b h ∧ (∀ a, a ≠ b + 31 → a ≠ b + 33 → H_X4_finishWorks b h a = h a) ∧ ∀ w : Int, 0 ≤ w → w < nw → H_X4_finishWorks b h (b + 31) w = (if h (b + 32) w = 1 then xdn b h w else h (b + 31) w) ∧ H_X4_finishWorks b h (b + 33) w = (if h (b + 32) w = 1 then xca b h w else h (b + 33) w) := by
  have key := fx_rule (σ := Int × pH) (c := (fun s => C_X4_finishWorks_2 b s.1 s.2)) (f := (fun s => B_X4_finishWorks_2 b s.1 s.2)) (P := (fun s => P_X4_finishWorks_2 b s.1 s.2)) (s0 := (0, h)) nw (fun i s => s.1 = i ∧ i ≤ nw ∧ (∀ a, a ≠ b + 31 → a ≠ b + 33 → s.2 a = h a) ∧ (∀ w : Int, i ≤ w → w < 16 → s.2 (b + 31) w = h (b + 31) w ∧ s.2 (b + 33) w = h (b + 33) w) ∧
    ∀ w : Int, 0 ≤ w → w < i → s.2 (b + 31) w = (if h (b + 32) w = 1 then xdn b h w else h (b + 31) w) ∧ s.2 (b + 33) w = (if h (b + 32) w = 1 then xca b h w else h (b + 33) w))
    ⟨rfl, by omega, fun _ _ _ => rfl, fun w a1 a2 => ⟨rfl, rfl⟩, fun w a1 a2 => by omega⟩ ?_ ?_
  · exact ⟨key.1, key.2.2.2.1, key.2.2.2.2.2⟩
  · rintro i ⟨x, h'⟩ hi ⟨hx, hi2, f1, fo, fn⟩
    simp only at hx f1 fo fn
    subst hx
    have o := fo i (by omega) (by omega)
    have q := hW i (by omega) (by omega)
    have e21 : h' (b + 21) 15 = nw := by rw [f1 _ (by omega) (by omega)]; exact hw
    have e32 : h' (b + 32) i = h (b + 32) i := by rw [f1 _ (by omega) (by omega)]
    have e35 : h' (b + 35) i = h (b + 35) i := by rw [f1 _ (by omega) (by omega)]
    have e16 : h' (b + 16) = h (b + 16) := f1 _ (by omega) (by omega)
    by_cases c : h (b + 32) i = 1
    · have e34 : h' (b + 21 + 13) i = h (b + 34) i := by rw [show b + 21 + 13 = b + 34 by omega, f1 _ (by omega) (by omega)]
      have e25 : h' (b + 21 + 4) i = h (b + 25) i := by rw [show b + 21 + 4 = b + 25 by omega, f1 _ (by omega) (by omega)]
      have e27 : h' (b + 21 + 6) i = h (b + 27) i := by rw [show b + 21 + 6 = b + 27 by omega, f1 _ (by omega) (by omega)]
      have e31 : h' (b + 21 + 10) i = h (b + 31) i := by rw [show b + 21 + 10 = b + 31 by omega]; exact o.1
      have e33 : h' (b + 21 + 12) i = h (b + 33) i := by rw [show b + 21 + 12 = b + 33 by omega]; exact o.2
      have s1 : s_X4_finishWorks_1 b i h' = if h (b + 35) i = -1 then 0 else h (b + 16) (h (b + 35) i) := by unfold s_X4_finishWorks_1; rw [e35, e16]
      have f_1 : s_X10_finish_1 (b + 21) i (s_X4_finishWorks_1 b i h') h' = xwk b h i := by unfold s_X10_finish_1 xwk; rw [e34, s1]
      have f_2 : s_X10_finish_2 (b + 21) i h' = if h (b + 34) i = 0 then 6 else h (b + 34) i := by unfold s_X10_finish_2; rw [e34]
      have wb : 0 ≤ xwk b h i ∧ xwk b h i ≤ 3 := by
        unfold xwk
        split
        · split
          · omega
          · have := hR (h (b + 35) i) (by omega) (by omega); omega
        · omega
      have hF : H_X10_finish (b + 21) i (s_X4_finishWorks_1 b i h') h' = if h (b + 25) i = 1 then (if xwk b h i = h (b + 27) i then pm_upd h' (b + 31) i (h (b + 31) i + 1) else if h (b + 33) i = 0 then pm_upd h' (b + 33) i (if h (b + 34) i = 0 then 6 else h (b + 34) i) else h') else pm_upd (pm_upd h' (b + 31) i (h (b + 31) i + xwk b h i)) (b + 33) i (if xwk b h i = 3 then h (b + 33) i else (if h (b + 34) i = 0 then 6 else h (b + 34) i)) := by
        show s_X10_finish_7 _ _ _ _ = _
        unfold s_X10_finish_7 s_X10_finish_3 s_X10_finish_6 s_X10_finish_5 s_X10_finish_4 H_X10_finishSteady s_X10_finishSteady_1
        rw [f_1, f_2, e25, e27, e31, e33, up_cell _ (show b + 21 + 12 ≠ b + 21 + 10 by omega), e33, show b + 21 + 10 = b + 31 by omega, show b + 21 + 12 = b + 33 by omega]
      have v31 : H_X10_finish (b + 21) i (s_X4_finishWorks_1 b i h') h' (b + 31) i = xdn b h i := by
        rw [hF]; unfold xdn
        split
        · split
          · rw [up_eq]
          · split
            · rw [up_cell _ (by omega)]; exact o.1
            · exact o.1
        · rw [up_cell _ (by omega), up_eq]
      have v33 : H_X10_finish (b + 21) i (s_X4_finishWorks_1 b i h') h' (b + 33) i = xca b h i := by
        rw [hF]; unfold xca
        split
        · split
          · rw [up_cell _ (by omega)]; exact o.2
          · split
            · rw [up_eq]
            · exact o.2
        · rw [up_eq]
      have vk : ∀ w : Int, w ≠ i → H_X10_finish (b + 21) i (s_X4_finishWorks_1 b i h') h' (b + 31) w = h' (b + 31) w ∧ H_X10_finish (b + 21) i (s_X4_finishWorks_1 b i h') h' (b + 33) w = h' (b + 33) w := by
        intro w hne
        rw [hF]
        split
        · split
          · rw [up_pl _ hne, up_cell _ (by omega)]; exact ⟨rfl, rfl⟩
          · split
            · rw [up_pl _ hne, up_cell _ (by omega)]; exact ⟨rfl, rfl⟩
            · exact ⟨rfl, rfl⟩
        · rw [up_cell _ (show b + 31 ≠ b + 33 by omega), up_pl _ hne, up_pl _ hne, up_cell _ (by omega)]; exact ⟨rfl, rfl⟩
      have vc : ∀ a, a ≠ b + 31 → a ≠ b + 33 → H_X10_finish (b + 21) i (s_X4_finishWorks_1 b i h') h' a = h' a := by
        intro a a1 a2
        rw [hF]
        split
        · split
          · rw [up_cell _ a1]
          · split
            · rw [up_cell _ a2]
            · rfl
        · rw [up_cell _ a2, up_cell _ a1]
      have pF : P_X10_finish (b + 21) i (s_X4_finishWorks_1 b i h') h' := by
        unfold P_X10_finish P_X10_finishSteady fx_i
        rw [f_1, e31]
        exact ⟨by omega, fun _ => ⟨by omega, fun _ => by omega⟩, fun _ => by omega⟩
      simp only [P_X4_finishWorks_2, C_X4_finishWorks_2, B_X4_finishWorks_2, s_X4_finishWorks_2, e32, c, if_true, e21, e35, fx_i]
      refine ⟨fun _ => ⟨by omega, fun _ => ⟨fun z => by omega, pF⟩, by omega⟩, by omega, by omega, by omega, fun a a1 a2 => (vc a a1 a2).trans (f1 a a1 a2), fun w a1 a2 => ?_, fun w a1 a2 => ?_⟩
      · have := vk w (by omega); rw [this.1, this.2]; exact fo w (by omega) a2
      · by_cases e : w = i
        · rw [e, v31, v33, if_pos c, if_pos c]; exact ⟨rfl, rfl⟩
        · have := vk w e; rw [this.1, this.2]; exact fn w a1 (by omega)
    · simp only [P_X4_finishWorks_2, C_X4_finishWorks_2, B_X4_finishWorks_2, s_X4_finishWorks_2, e32, c, if_false, e21, fx_i]
      refine ⟨fun _ => ⟨by omega, fun z => z.elim, by omega⟩, by omega, by omega, by omega, f1, fun w a1 a2 => fo w (by omega) a2, fun w a1 a2 => ?_⟩
      by_cases e : w = i
      · rw [e, if_neg c, if_neg c]; exact o
      · exact fn w a1 (by omega)
  · rintro ⟨x, h'⟩ ⟨hx, hi2, f1, -⟩
    simp only at hx f1
    subst hx
    have e21 : h' (b + 21) 15 = nw := by rw [f1 _ (by omega) (by omega)]; exact hw
    simp only [P_X4_finishWorks_2, C_X4_finishWorks_2, B_X4_finishWorks_2, e21]
    omega
/-- trips run down -/
theorem ends_rel (b : Int) (h g : pH) (nm : Nat) (hn : h (b + 7) 10 = nm) (gn : g 249 12 = nm) (h10 : nm ≤ 10) (ht : ∀ m : Int, 0 ≤ m → m < nm → h (b + 13) m = g 249 (134 + m) ∧ 0 ≤ g 249 (134 + m) ∧ g 249 (134 + m) ≤ 3) :
    P_X6_endTrips (b + 7) h ∧ O_X12_minute_246 0 g ∧ (∀ a, a ≠ b + 13 → H_X6_endTrips (b + 7) h a = h a) ∧ (∀ a, a ≠ 249 → (L_X12_minute_246 0 g).2 a = g a) ∧ (∀ k : Int, k < 134 ∨ 144 ≤ k → (L_X12_minute_246 0 g).2 249 k = g 249 k) ∧
    ∀ m : Int, 0 ≤ m → m < nm → H_X6_endTrips (b + 7) h (b + 13) m = (L_X12_minute_246 0 g).2 249 (134 + m) ∧ 0 ≤ (L_X12_minute_246 0 g).2 249 (134 + m) ∧ (L_X12_minute_246 0 g).2 249 (134 + m) ≤ 3 := by
  have key := fx_rel (σ := Int × pH) (c := (fun s => C_X6_endTrips_2 (b + 7) s.1 s.2)) (f := (fun s => B_X6_endTrips_2 (b + 7) s.1 s.2)) (P := (fun s => P_X6_endTrips_2 (b + 7) s.1 s.2)) (s0 := (0, h)) (τ := Int × pH) (d := (fun s => C_X12_minute_246 s.1 s.2)) (g := (fun s => B_X12_minute_246 s.1 s.2)) (P' := (fun s => P_X12_minute_246 s.1 s.2)) (t0 := (0, g)) nm (fun i s t => s.1 = i ∧ t.1 = i ∧ i ≤ nm ∧ (∀ a, a ≠ b + 13 → s.2 a = h a) ∧ (∀ a, a ≠ 249 → t.2 a = g a) ∧ (∀ k : Int, k < 134 ∨ 144 ≤ k → t.2 249 k = g 249 k) ∧
    ∀ m : Int, 0 ≤ m → m < nm → s.2 (b + 13) m = t.2 249 (134 + m) ∧ 0 ≤ t.2 249 (134 + m) ∧ t.2 249 (134 + m) ≤ 3)
    ⟨rfl, rfl, by omega, fun _ _ => rfl, fun _ _ => rfl, fun _ _ => rfl, ht⟩ ?_ ?_
  · obtain ⟨k1, k2, k3, k4, k5, k6⟩ := key
    exact ⟨k1, k2, k6⟩
  · rintro i ⟨x, h'⟩ ⟨y, g'⟩ hi ⟨hx, hy, hi2, f1, f2, f3, ft⟩
    simp only at hx hy f1 f2 f3 ft
    subst hx; subst hy
    have t := ft i (by omega) (by omega)
    have e13 : b + 7 + 6 = b + 13 := by omega
    have e7 : h' (b + 7) 10 = nm := by rw [f1 _ (by omega)]; exact hn
    have k12 : g' 249 12 = nm := by rw [f3 _ (by omega)]; exact gn
    have mx := fx_max_le 0 (g' 249 (134 + i) - 1)
    have s23 : g' 249 (134 + i) - s_X12_minute_23 i g' = fx_max 0 (g' 249 (134 + i) - 1) := by unfold s_X12_minute_23; split <;> omega
    simp only [P_X6_endTrips_2, C_X6_endTrips_2, B_X6_endTrips_2, P_X12_minute_246, C_X12_minute_246, B_X12_minute_246, s_X12_minute_24, s23, e13, t.1, e7, k12, fx_i, fx_l]
    refine ⟨⟨fun _ => by omega, by omega⟩, ⟨fun _ => by omega, by omega⟩, by omega, by omega, by omega, fun a a1 => ?_, fun a a1 => ?_, fun k a1 => ?_, fun m a1 a2 => ?_⟩
    · rw [up_cell _ a1]; exact f1 a a1
    · rw [up_cell _ a1]; exact f2 a a1
    · rw [up_pl _ (by omega)]; exact f3 k a1
    · by_cases e : m = i
      · rw [e, up_eq, up_eq]; omega
      · rw [up_pl _ e, up_pl _ (by omega)]; exact ft m a1 a2
  · rintro ⟨x, h'⟩ ⟨y, g'⟩ ⟨hx, hy, hi2, f1, f2, f3, -⟩
    simp only at hx hy f1 f3
    subst hx; subst hy
    have e7 : h' (b + 7) 10 = nm := by rw [f1 _ (by omega)]; exact hn
    have k12 : g' 249 12 = nm := by rw [f3 _ (by omega)]; exact gn
    simp only [P_X6_endTrips_2, C_X6_endTrips_2, B_X6_endTrips_2, P_X12_minute_246, C_X12_minute_246, B_X12_minute_246, e7, k12]
    omega
/-- gauges shift (model) -/
theorem shift_M (g : pH) : O_X12_minute_279 59 g ∧ (∀ a, a ≠ 249 → (L_X12_minute_279 59 g).2 a = g a) ∧ ∀ k : Int, (L_X12_minute_279 59 g).2 249 k = if 452 ≤ k ∧ k < 500 then g 249 (k - 12) else g 249 k := by
  have key := fx_rule (σ := Int × pH) (c := (fun s => C_X12_minute_279 s.1 s.2)) (f := (fun s => B_X12_minute_279 s.1 s.2)) (P := (fun s => P_X12_minute_279 s.1 s.2)) (s0 := (59, g)) 48 (fun i s => s.1 = 59 - i ∧ i ≤ 48 ∧ (∀ a, a ≠ 249 → s.2 a = g a) ∧ ∀ k : Int, s.2 249 k = if 500 - (i : Int) ≤ k ∧ k < 500 then g 249 (k - 12) else g 249 k)
    ⟨rfl, by omega, fun _ _ => rfl, fun k => by simp only; rw [if_neg (by omega)]⟩ ?_ ?_
  · exact ⟨key.1, key.2.2.2.1, key.2.2.2.2⟩
  · rintro i ⟨x, g'⟩ hi ⟨hx, hi2, f1, fk⟩
    simp only at hx f1 fk
    subst hx
    simp only [P_X12_minute_279, C_X12_minute_279, B_X12_minute_279, fx_i]
    refine ⟨fun _ => by omega, by omega, by omega, by omega, fun a a1 => ?_, fun k => ?_⟩
    · rw [up_cell _ a1]; exact f1 a a1
    · rw [up_app, fk k, fk]
      by_cases e : k = 440 + (59 - i)
      · rw [if_pos ⟨rfl, e⟩, if_neg (by omega), if_pos (by omega), e]
      · rw [if_neg (fun z => e z.2)]
        by_cases c : 500 - (i : Int) ≤ k ∧ k < 500
        · rw [if_pos c, if_pos (by omega)]
        · rw [if_neg c, if_neg (by omega)]
  · rintro ⟨x, g'⟩ ⟨hx, hi2, -⟩
    simp only at hx
    subst hx
    simp only [P_X12_minute_279, C_X12_minute_279, B_X12_minute_279]
    omega
theorem began_M (g : pH) : O_X12_minute_300 0 g ∧ (∀ a, a ≠ 249 → (L_X12_minute_300 0 g).2 a = g a) ∧ ∀ k : Int, (L_X12_minute_300 0 g).2 249 k = if 440 ≤ k ∧ k < 452 then g 260 (k - 440) else g 249 k := by
  have key := fx_rule (σ := Int × pH) (c := (fun s => C_X12_minute_300 s.1 s.2)) (f := (fun s => B_X12_minute_300 s.1 s.2)) (P := (fun s => P_X12_minute_300 s.1 s.2)) (s0 := (0, g)) 12 (fun i s => s.1 = i ∧ i ≤ 12 ∧ (∀ a, a ≠ 249 → s.2 a = g a) ∧ ∀ k : Int, s.2 249 k = if 440 ≤ k ∧ k < 440 + (i : Int) then g 260 (k - 440) else g 249 k)
    ⟨rfl, by omega, fun _ _ => rfl, fun k => by simp only; rw [if_neg (by omega)]⟩ ?_ ?_
  · exact ⟨key.1, key.2.2.2.1, key.2.2.2.2⟩
  · rintro i ⟨x, g'⟩ hi ⟨hx, hi2, f1, fk⟩
    simp only at hx f1 fk
    subst hx
    simp only [P_X12_minute_300, C_X12_minute_300, B_X12_minute_300, f1 260 (by omega), fx_i]
    refine ⟨fun _ => by omega, by omega, by omega, by omega, fun a a1 => ?_, fun k => ?_⟩
    · rw [up_cell _ a1]; exact f1 a a1
    · rw [up_app, fk k]
      by_cases e : k = 440 + i
      · rw [if_pos ⟨rfl, e⟩, if_pos (by omega), e, show 440 + (i : Int) - 440 = i by omega]
      · rw [if_neg (fun z => e z.2)]
        by_cases c : 440 ≤ k ∧ k < 440 + (i : Int)
        · rw [if_pos c, if_pos (by omega)]
        · rw [if_neg c, if_neg (by omega)]
  · rintro ⟨x, g'⟩ ⟨hx, hi2, -⟩
    simp only at hx
    subst hx
    simp only [P_X12_minute_300, C_X12_minute_300, B_X12_minute_300]
    omega
/-- closing (class): each work's state as the new minute comes, and how many broke -/
theorem close_X (b t : Int) (h : pH) (nw : Nat) (hw : h (b + 21) 15 = nw) (h16 : nw ≤ 16) (hW : ∀ w : Int, 0 ≤ w → w < nw → 0 ≤ h (b + 28) w ∧ h (b + 28) w ≤ 10000 ∧ 0 ≤ h (b + 29) w ∧ h (b + 29) w ≤ 10000) :
    P_X10_close (b + 21) t h ∧ (∀ a, a ≠ b + 32 → H_X10_close (b + 21) t h a = h a) ∧ (∀ w : Int, 0 ≤ w → w < nw → H_X10_close (b + 21) t h (b + 32) w = if h (b + 32) w = 0 ∨ h (b + 32) w = 1 then F_X10_stateAt (b + 21) w t h else h (b + 32) w) ∧
    F_X10_close (b + 21) t h = zs (fun w => if (h (b + 32) w = 0 ∨ h (b + 32) w = 1) ∧ F_X10_stateAt (b + 21) w t h = 3 then 1 else 0) nw := by
  have e11 : b + 21 + 11 = b + 32 := by omega
  have key := fx_rule (σ := Int × Int × pH) (c := (fun s => C_X10_close_4 (b + 21) t s.1 s.2.1 s.2.2)) (f := (fun s => B_X10_close_4 (b + 21) t s.1 s.2.1 s.2.2)) (P := (fun s => P_X10_close_4 (b + 21) t s.1 s.2.1 s.2.2)) (s0 := (0, 0, h)) nw (fun i s => s.1 = zs (fun w => if (h (b + 32) w = 0 ∨ h (b + 32) w = 1) ∧ F_X10_stateAt (b + 21) w t h = 3 then 1 else 0) i ∧ s.2.1 = i ∧ i ≤ nw ∧ (∀ a, a ≠ b + 32 → s.2.2 a = h a) ∧ (∀ w : Int, i ≤ w → s.2.2 (b + 32) w = h (b + 32) w) ∧
    ∀ w : Int, 0 ≤ w → w < i → s.2.2 (b + 32) w = if h (b + 32) w = 0 ∨ h (b + 32) w = 1 then F_X10_stateAt (b + 21) w t h else h (b + 32) w)
    ⟨rfl, rfl, by omega, fun _ _ => rfl, fun _ _ => rfl, fun w a1 a2 => by omega⟩ ?_ ?_
  · exact ⟨key.1, key.2.2.2.2.1, key.2.2.2.2.2.2, key.2.1⟩
  · rintro i ⟨r, x, h'⟩ hi ⟨hr, hx, hi2, f1, fo, fn⟩
    simp only at hr hx f1 fo fn
    subst hr; subst hx
    have o := fo i (by omega)
    have q := hW i (by omega) (by omega)
    have e21 : h' (b + 21) 15 = nw := by rw [f1 _ (by omega)]; exact hw
    have sA : F_X10_stateAt (b + 21) i t h' = F_X10_stateAt (b + 21) i t h := by
      unfold F_X10_stateAt s_X10_stateAt_1
      rw [f1 (b + 21 + 4) (by omega), f1 (b + 21 + 6) (by omega), f1 (b + 21 + 7) (by omega), f1 (b + 21 + 8) (by omega), f1 (b + 21 + 10) (by omega)]
    have pA : P_X10_stateAt (b + 21) i t h' := by
      unfold P_X10_stateAt fx_i
      rw [show b + 21 + 8 = b + 29 by omega, show b + 21 + 7 = b + 28 by omega, f1 (b + 29) (by omega), f1 (b + 28) (by omega)]
      exact ⟨by omega, fun _ => by omega⟩
    have zb := zs_bd (f := fun w => if (h (b + 32) w = 0 ∨ h (b + 32) w = 1) ∧ F_X10_stateAt (b + 21) w t h = 3 then 1 else 0) (n := i) (lo := 0) (hi := 1) (fun c _ _ => by grind)
    simp only [P_X10_close_4, C_X10_close_4, B_X10_close_4, s_X10_close_1, s_X10_close_2, e11, o, sA, up_eq, e21, fx_i, zs]
    refine ⟨fun _ => ⟨by omega, ⟨fun _ => ⟨pA, fun _ => by omega⟩, fun _ _ => ⟨pA, fun _ => by omega⟩⟩, by omega⟩, by omega, ?_, by omega, by omega, fun a a1 => ?_, fun w a1 => ?_, fun w a1 a2 => ?_⟩
    · clear zb fo fn f1
      grind
    · split
      · rw [up_cell _ a1]; exact f1 a a1
      · split
        · rw [up_cell _ a1]; exact f1 a a1
        · exact f1 a a1
    · split
      · rw [up_pl _ (by omega)]; exact fo w (by omega)
      · split
        · rw [up_pl _ (by omega)]; exact fo w (by omega)
        · exact fo w (by omega)
    · by_cases e : w = i
      · rw [e]
        by_cases c0 : h (b + 32) i = 0
        · rw [if_pos c0, up_eq, if_pos (Or.inl c0)]
        · rw [if_neg c0]
          by_cases c1 : h (b + 32) i = 1
          · rw [if_pos c1, up_eq, if_pos (Or.inr c1)]
          · rw [if_neg c1, if_neg (by omega)]; exact o
      · have := fn w a1 (by omega)
        split
        · rw [up_pl _ e]; exact this
        · split
          · rw [up_pl _ e]; exact this
          · exact this
  · rintro ⟨r, x, h'⟩ ⟨hr, hx, hi2, f1, -⟩
    simp only at hr hx f1
    subst hr; subst hx
    have e21 : h' (b + 21) 15 = nw := by rw [f1 _ (by omega)]; exact hw
    simp only [P_X10_close_4, C_X10_close_4, B_X10_close_4, e21]
    omega
