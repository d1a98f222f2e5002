/-! Trips of one feed, then of all four. -/
theorem zrun_congr {b : Int} {h g h' g' : pH} {nm nw : Nat} (hz : zrun b h g nm nw) (h10 : nm ≤ 10) (h16 : nw ≤ 16) (hh : ∀ a, (a = b + 15 ∨ a = b + 16 ∨ a = b + 34 ∨ a = b + 35) → h' a = h a) (hg : ∀ a, (a = 259 ∨ a = 263) → g' a = g a) (hk : ∀ k : Int, (154 ≤ k ∧ k < 174) ∨ (344 ≤ k ∧ k < 360) → g' 249 k = g 249 k) : zrun b h' g' nm nw := by
  obtain ⟨z1, z2⟩ := hz
  refine ⟨fun m a1 a2 => ?_, fun w a1 a2 => ?_⟩
  · have q := z1 m a1 a2
    rw [hh (b + 15) (by omega), hh (b + 16) (by omega), hk (154 + m) (by omega), hk (164 + m) (by omega), hg 259 (by omega)]
    refine ⟨q.1, q.2.1, q.2.2.1, q.2.2.2.1, ?_⟩
    rcases q.2.2.2.2 with y | ⟨y1, y2, y3, y4⟩
    · exact Or.inl y
    · rw [hk (344 + g 249 (154 + m)) (by omega)]; exact Or.inr ⟨y1, y2, y3, y4⟩
  · have q := z2 w a1 a2
    rw [hh (b + 34) (by omega), hh (b + 35) (by omega), hk (344 + w) (by omega), hg 259 (by omega), hg 263 (by omega)]
    refine ⟨q.1, q.2.1, q.2.2.1, q.2.2.2.1, ?_, q.2.2.2.2.2⟩
    rcases q.2.2.2.2.1 with y | ⟨y1, y2, y3⟩
    · exact Or.inl y
    · rw [hk (154 + g 249 (344 + w)) (by omega)]; exact Or.inr ⟨y1, y2, y3⟩
/-- while feeds trip -/
def ztrip (b : Int) (h0 g0 h' g' : pH) (nm nw : Nat) : Prop :=
  (∀ a, a ≠ b + 13 → a ≠ b + 16 → a ≠ b + 34 → a ≠ b + 35 → h' a = h0 a) ∧ (∀ a, a ≠ 249 → a ≠ 259 → g' a = g0 a) ∧ (∀ k : Int, (k < 134 ∨ 144 ≤ k) → (k < 164 ∨ 174 ≤ k) → g' 249 k = g0 249 k) ∧ zrun b h' g' nm nw ∧ ∀ m : Int, 0 ≤ m → m < nm → h' (b + 13) m = g' 249 (134 + m) ∧ 0 ≤ g' 249 (134 + m) ∧ g' 249 (134 + m) ≤ 3
/-- of the machines: what they draw, their feeds -/
def zdraws (b : Int) (h g : pH) (nm : Nat) : Prop := ∀ m : Int, 0 ≤ m → m < nm → h (b + 10) m = g 249 (104 + m) ∧ 0 ≤ g 249 (104 + m) ∧ g 249 (104 + m) ≤ 500 ∧ h (b + 12) m = g 249 (124 + m)
set_option maxHeartbeats 2000000 in
theorem trip_sim (b f : Int) (h0 g0 : pH) (nm nw : Nat) (hn : h0 (b + 7) 10 = nm) (gn : g0 249 12 = nm) (h10 : nm ≤ 10) (h16 : nw ≤ 16) (hd : zdraws b h0 g0 nm) (hf : 0 ≤ f ∧ f < 4) (hF : h0 (b + 19) f = g0 249 (56 + f) ∧ 0 ≤ g0 249 (56 + f) ∧ g0 249 (56 + f) ≤ 10000) :
    ∀ (j : Nat), j ≤ nm → ∀ (h' g' : pH), ztrip b h0 g0 h' g' nm nw → (∀ k : Int, (j : Int) ≤ k → k < nm → zfd (g' 249) f k ≤ 0) →
    O_X4_tripFeeds_16 b f (zs (zfd (g' 249) f) nm) ((j : Int) - 1) h' ∧ O_X12_trip_2 f 1 g' ∧ ztrip b h0 g0 (L_X4_tripFeeds_16 b f (zs (zfd (g' 249) f) nm) ((j : Int) - 1) h').2.2 (L_X12_trip_2 f 1 g').2 nm nw := by
  -- what one state gives
  have pre : ∀ (h' g' : pH), ztrip b h0 g0 h' g' nm nw → (∀ m : Int, 0 ≤ m → m < nm → 0 ≤ g' 249 (164 + m) ∧ g' 249 (164 + m) ≤ 3 ∧ 0 ≤ g' 249 (104 + m) ∧ g' 249 (104 + m) ≤ 500 ∧ h' (b + 16) m = g' 249 (164 + m) ∧ h' (b + 10) m = g' 249 (104 + m) ∧ h' (b + 12) m = g' 249 (124 + m)) ∧ h' (b + 19) f = g' 249 (56 + f) ∧ 0 ≤ g' 249 (56 + f) ∧ g' 249 (56 + f) ≤ 10000 ∧ g' 249 12 = nm := by
    intro h' g' ⟨f1, f2, f3, z, t⟩
    refine ⟨fun m a1 a2 => ?_, ?_⟩
    · have q := z.1 m a1 a2
      have y := hd m a1 a2
      rw [f3 (104 + m) (by omega) (by omega), f3 (124 + m) (by omega) (by omega), f1 (b + 10) (by omega) (by omega) (by omega) (by omega), f1 (b + 12) (by omega) (by omega) (by omega) (by omega)]
      exact ⟨q.2.2.1, q.2.2.2.1, y.2.1, y.2.2.1, q.2.1, y.1, y.2.2.2⟩
    · rw [f3 (56 + f) (by omega) (by omega), f3 12 (by omega) (by omega), f1 (b + 19) (by omega) (by omega) (by omega) (by omega)]
      exact ⟨hF.1, hF.2.1, hF.2.2, gn⟩
  -- the model ends
  have mend : ∀ (h' g' : pH), ztrip b h0 g0 h' g' nm nw → zs (zfd (g' 249) f) nm ≤ g' 249 (56 + f) → O_X12_trip_2 f 1 g' ∧ (L_X12_trip_2 f 1 g').2 = g' := by
    intro h' g' hz hle
    obtain ⟨p1, p2, p3, p4, p5⟩ := pre h' g' hz
    have t10 := trip10_M f g' nm p5 h10 (fun m a1 a2 => by have := p1 m a1 a2; exact ⟨this.1, this.2.1, this.2.2.1, this.2.2.2.1⟩)
    have hB : B_X12_trip_2 f 1 g' = (0, g') := by
      unfold B_X12_trip_2 s_X12_trip_7
      rw [t10.2.1, if_neg (by omega), if_neg (by omega)]
    have u0 := fx_un_f (c := (fun s => C_X12_trip_2 f s.1 s.2)) (f := (fun s => B_X12_trip_2 f s.1 s.2)) (P := (fun s => P_X12_trip_2 f s.1 s.2)) (s := (0, g')) (by simp only [P_X12_trip_2, C_X12_trip_2, B_X12_trip_2]; exact fun q => absurd trivial q) (by simp only [P_X12_trip_2, C_X12_trip_2, B_X12_trip_2]; exact fun q => q trivial)
    have u1 := fx_un_t (c := (fun s => C_X12_trip_2 f s.1 s.2)) (f := (fun s => B_X12_trip_2 f s.1 s.2)) (P := (fun s => P_X12_trip_2 f s.1 s.2)) (s := (1, g')) (by
      simp only [P_X12_trip_2, C_X12_trip_2, B_X12_trip_2, t10.2.1, fx_i]
      exact fun _ => ⟨t10.1, by omega, by omega, fun q => by omega⟩) (by simp only [P_X12_trip_2, C_X12_trip_2, B_X12_trip_2]; omega) (by
      show fx_ok _ _ _ (B_X12_trip_2 f 1 g')
      rw [hB]; exact u0.1)
    refine ⟨u1.1, ?_⟩
    have e : L_X12_trip_2 f 1 g' = fx_wh (fun s => C_X12_trip_2 f s.1 s.2) (fun s => B_X12_trip_2 f s.1 s.2) (B_X12_trip_2 f 1 g') := u1.2
    rw [e, hB]
    exact congrArg Prod.snd u0.2
  intro j
  induction j with
  | zero =>
    intro hj h' g' hz hk
    obtain ⟨p1, p2, p3, p4, p5⟩ := pre h' g' hz
    have s0 : zs (zfd (g' 249) f) nm = 0 := zs_zero (fun i a1 a2 => by
      have q := hk i (by omega) a2
      have y := p1 i a1 a2
      have := prod_bd y.1 y.2.1 y.2.2.1 y.2.2.2.1
      unfold zfd at q ⊢
      split <;> omega)
    have m := mend h' g' hz (by omega)
    have u := fx_un_f (c := (fun s => C_X4_tripFeeds_16 b f s.1 s.2.1 s.2.2)) (f := (fun s => B_X4_tripFeeds_16 b f s.1 s.2.1 s.2.2)) (P := (fun s => P_X4_tripFeeds_16 b f s.1 s.2.1 s.2.2)) (s := (zs (zfd (g' 249) f) nm, ((0 : Nat) : Int) - 1, h')) (by simp only [P_X4_tripFeeds_16, C_X4_tripFeeds_16, B_X4_tripFeeds_16]; exact ⟨fun q => by omega, fun q => by omega⟩) (by simp only [P_X4_tripFeeds_16, C_X4_tripFeeds_16, B_X4_tripFeeds_16]; omega)
    refine ⟨u.1, m.1, ?_⟩
    have e : L_X4_tripFeeds_16 b f (zs (zfd (g' 249) f) nm) (((0 : Nat) : Int) - 1) h' = (zs (zfd (g' 249) f) nm, ((0 : Nat) : Int) - 1, h') := u.2
    rw [e, m.2]
    exact hz
  | succ x ih =>
    intro hj h' g' hz hk
    have ex : ((x + 1 : Nat) : Int) - 1 = x := by omega
    rw [ex]
    obtain ⟨p1, p2, p3, p4, p5⟩ := pre h' g' hz
    have bds : ∀ i : Int, 0 ≤ i → i < nm → 0 ≤ zfd (g' 249) f i ∧ zfd (g' 249) f i ≤ 1500 := fun i a1 a2 => by
      have y := p1 i a1 a2
      have := prod_bd y.1 y.2.1 y.2.2.1 y.2.2.2.1
      unfold zfd
      split <;> omega
    have zb := zs_bd (f := zfd (g' 249) f) (n := nm) (lo := 0) (hi := 1500) bds
    by_cases hle : zs (zfd (g' 249) f) nm ≤ g' 249 (56 + f)
    · have m := mend h' g' hz hle
      have u := fx_un_f (c := (fun s => C_X4_tripFeeds_16 b f s.1 s.2.1 s.2.2)) (f := (fun s => B_X4_tripFeeds_16 b f s.1 s.2.1 s.2.2)) (P := (fun s => P_X4_tripFeeds_16 b f s.1 s.2.1 s.2.2)) (s := (zs (zfd (g' 249) f) nm, (x : Int), h')) (by simp only [P_X4_tripFeeds_16, C_X4_tripFeeds_16, B_X4_tripFeeds_16, p2]; exact ⟨fun q => hf, fun q => by omega⟩) (by simp only [P_X4_tripFeeds_16, C_X4_tripFeeds_16, B_X4_tripFeeds_16, p2]; omega)
      refine ⟨u.1, m.1, ?_⟩
      have e : L_X4_tripFeeds_16 b f (zs (zfd (g' 249) f) nm) (x : Int) h' = (zs (zfd (g' 249) f) nm, (x : Int), h') := u.2
      rw [e, m.2]
      exact hz
    · have yx := p1 x (by omega) (by omega)
      have pb := prod_bd yx.1 yx.2.1 yx.2.2.1 yx.2.2.2.1
      have bx := bds x (by omega) (by omega)
      have e712 : h' (b + 7 + 9) x = g' 249 (164 + x) := by rw [show b + 7 + 9 = b + 16 by omega]; exact yx.2.2.2.2.1
      have e710 : h' (b + 7 + 3) x = g' 249 (104 + x) := by rw [show b + 7 + 3 = b + 10 by omega]; exact yx.2.2.2.2.2.1
      have hdo : F_X6_drawOf (b + 7) x h' = g' 249 (164 + x) * g' 249 (104 + x) := by unfold F_X6_drawOf; rw [e712, e710]
      have hPdo : P_X6_drawOf (b + 7) x h' := by unfold P_X6_drawOf fx_i; rw [e712, e710]; omega
      have hzx : zfd (g' 249) f x = if g' 249 (124 + x) = f then g' 249 (164 + x) * g' 249 (104 + x) else 0 := rfl
      by_cases hdr : 0 < zfd (g' 249) f x
      · -- it trips
        have hfx : g' 249 (124 + x) = f := by
          rw [hzx] at hdr
          by_cases c : g' 249 (124 + x) = f
          · exact c
          · rw [if_neg c] at hdr; omega
        rw [if_pos hfx] at hzx
        have hrun : 0 < g' 249 (164 + x) := by
          rcases Int.lt_or_le 0 (g' 249 (164 + x)) with q | q
          · exact q
          · have : g' 249 (164 + x) = 0 := by omega
            have := pb.2.2 this
            omega
        have t10 := trip10_M f g' nm p5 h10 (fun m a1 a2 => by have := p1 m a1 a2; exact ⟨this.1, this.2.1, this.2.2.1, this.2.2.2.1⟩)
        have hgr : s_X12_trip_4 f g' = x := by
          rw [t10.2.2]
          exact zlast_is (by omega) (by omega) hdr (fun k a1 a2 => by have := hk k (by omega) a2; omega)
        -- the two heaps with the trip
        obtain ⟨hA, hhA⟩ : ∃ q, q = pm_upd h' (b + 13) x 3 := ⟨_, rfl⟩
        obtain ⟨gA, hgA⟩ : ∃ q, q = pm_upd g' 249 (134 + x) 3 := ⟨_, rfl⟩
        have gA1 : ∀ k : Int, k ≠ 134 + x → gA 249 k = g' 249 k := fun k a1 => by rw [hgA, up_pl _ a1]
        have zA : zrun b hA gA nm nw := zrun_congr hz.2.2.2.1 h10 h16 (fun a q => by rw [hhA, up_cell _ (by omega)]) (fun a q => by rw [hgA, up_cell _ (by omega)]) (fun k q => gA1 k (by omega))
        have st := stop_rel b x 3 hA gA nm nw h10 h16 zA (by omega) (by rw [gA1 _ (by omega)]; exact hrun) (by omega)
        obtain ⟨s1, s2, s3, s4, s5, s6, s7⟩ := st
        have hz' : ztrip b h0 g0 (H_X4_stop b x 3 hA) (H_X12_still x 3 gA) nm nw := by
          obtain ⟨f1, f2, f3, z, t⟩ := hz
          refine ⟨fun a a1 a2 a3 a4 => ?_, fun a a1 a2 => ?_, fun k a1 a2 => ?_, s7, fun m a1 a2 => ?_⟩
          · rw [s3 a a2 a3 a4, hhA, up_cell _ a1]; exact f1 a a1 a2 a3 a4
          · rw [s4 a a1 a2, hgA, up_cell _ a1]; exact f2 a a1 a2
          · rw [s5 k (by omega), gA1 k (by omega)]; exact f3 k a1 a2
          · have q := t m a1 a2
            rw [s3 (b + 13) (by omega) (by omega) (by omega), s5 (134 + m) (by omega)]
            by_cases e : m = x
            · rw [e, hhA, hgA, up_eq, up_eq]; omega
            · rw [hhA, hgA, up_pl _ e, up_pl _ (by omega)]; exact q
        have zf' : ∀ k : Int, k ≠ x → 0 ≤ k → k < nm → zfd (H_X12_still x 3 gA 249) f k = zfd (g' 249) f k := fun k a1 a2 a3 => by
          unfold zfd
          rw [s5 (124 + k) (by omega), s5 (164 + k) (by omega), s5 (104 + k) (by omega), gA1 _ (by omega), gA1 _ (by omega), gA1 _ (by omega)]
        have zfx : zfd (H_X12_still x 3 gA 249) f x = 0 := by
          unfold zfd
          rw [s6]
          split <;> omega
        have hsum : zs (zfd (H_X12_still x 3 gA 249) f) nm = zs (zfd (g' 249) f) nm - zfd (g' 249) f x := by
          rw [zs_upd (f := zfd (g' 249) f) (j := x) (by omega) (by omega) (fun i a1 a2 a3 => zf' i a3 a1 a2), zfx]
          omega
        have IH := ih (by omega) (H_X4_stop b x 3 hA) (H_X12_still x 3 gA) hz' (fun k a1 a2 => by
          by_cases e : k = x
          · rw [e, zfx]; omega
          · rw [zf' k e (by omega) a2]; exact hk k (by omega) a2)
        rw [hsum] at IH
        have hBx : B_X4_tripFeeds_16 b f (zs (zfd (g' 249) f) nm) x h' = (zs (zfd (g' 249) f) nm - zfd (g' 249) f x, (x : Int) - 1, H_X4_stop b x 3 hA) := by
          unfold B_X4_tripFeeds_16 s_X4_tripFeeds_1 s_X4_tripFeeds_2
          rw [yx.2.2.2.2.2.2, if_pos hfx, hdo, ← hzx, if_neg (by omega), if_pos hfx, if_neg (by omega), hhA]
          rfl
        have hBm : B_X12_trip_2 f 1 g' = (1, H_X12_still x 3 gA) := by
          unfold B_X12_trip_2 s_X12_trip_7 s_X12_trip_6
          rw [t10.2.1, if_pos (by omega), if_pos (by omega), hgr, hgA]
        have uc := fx_un_t (c := (fun s => C_X4_tripFeeds_16 b f s.1 s.2.1 s.2.2)) (f := (fun s => B_X4_tripFeeds_16 b f s.1 s.2.1 s.2.2)) (P := (fun s => P_X4_tripFeeds_16 b f s.1 s.2.1 s.2.2)) (s := (zs (zfd (g' 249) f) nm, (x : Int), h')) (by
            simp only [P_X4_tripFeeds_16, C_X4_tripFeeds_16, B_X4_tripFeeds_16, hdo, ← hzx, fx_i]
            rw [← hhA]
            exact ⟨fun q => hf, fun q => ⟨hf, hPdo, by omega, fun _ _ => ⟨by omega, s1⟩, by omega⟩⟩) (by simp only [P_X4_tripFeeds_16, C_X4_tripFeeds_16, B_X4_tripFeeds_16, p2]; omega) (by
            show fx_ok _ _ _ (B_X4_tripFeeds_16 b f (zs (zfd (g' 249) f) nm) x h')
            rw [hBx]; exact IH.1)
        have um := fx_un_t (c := (fun s => C_X12_trip_2 f s.1 s.2)) (f := (fun s => B_X12_trip_2 f s.1 s.2)) (P := (fun s => P_X12_trip_2 f s.1 s.2)) (s := (1, g')) (by
            simp only [P_X12_trip_2, C_X12_trip_2, B_X12_trip_2, hgr, fx_i]
            rw [← hgA]
            exact fun _ => ⟨t10.1, by omega, by omega, fun _ => ⟨by omega, by omega, s2⟩⟩) (by simp only [P_X12_trip_2, C_X12_trip_2, B_X12_trip_2]; omega) (by
            show fx_ok _ _ _ (B_X12_trip_2 f 1 g')
            rw [hBm]; exact IH.2.1)
        refine ⟨uc.1, um.1, ?_⟩
        have e1 : L_X4_tripFeeds_16 b f (zs (zfd (g' 249) f) nm) x h' = L_X4_tripFeeds_16 b f (zs (zfd (g' 249) f) nm - zfd (g' 249) f x) ((x : Int) - 1) (H_X4_stop b x 3 hA) := by
          refine uc.2.trans ?_
          show fx_wh _ _ (B_X4_tripFeeds_16 b f (zs (zfd (g' 249) f) nm) x h') = _
          rw [hBx]; rfl
        have e2 : L_X12_trip_2 f 1 g' = L_X12_trip_2 f 1 (H_X12_still x 3 gA) := by
          refine um.2.trans ?_
          show fx_wh _ _ (B_X12_trip_2 f 1 g') = _
          rw [hBm]; rfl
        rw [e1, e2]
        exact IH.2.2
      · -- it doesn't
        have hz0 : zfd (g' 249) f x = 0 := by omega
        have IH := ih (by omega) h' g' hz (fun k a1 a2 => by
          by_cases e : k = x
          · rw [e]; omega
          · exact hk k (by omega) a2)
        have hBx : B_X4_tripFeeds_16 b f (zs (zfd (g' 249) f) nm) x h' = (zs (zfd (g' 249) f) nm, (x : Int) - 1, h') := by
          unfold B_X4_tripFeeds_16 s_X4_tripFeeds_1 s_X4_tripFeeds_2
          rw [yx.2.2.2.2.2.2, hdo]
          by_cases c : g' 249 (124 + x) = f
          · rw [if_pos c] at hzx
            rw [if_pos c, if_pos c, if_pos (by omega), if_pos (by omega)]
            rfl
          · rw [if_neg c, if_neg c]; rfl
        have uc := fx_un_t (c := (fun s => C_X4_tripFeeds_16 b f s.1 s.2.1 s.2.2)) (f := (fun s => B_X4_tripFeeds_16 b f s.1 s.2.1 s.2.2)) (P := (fun s => P_X4_tripFeeds_16 b f s.1 s.2.1 s.2.2)) (s := (zs (zfd (g' 249) f) nm, (x : Int), h')) (by
            simp only [P_X4_tripFeeds_16, C_X4_tripFeeds_16, B_X4_tripFeeds_16, hdo, fx_i]
            refine ⟨fun q => hf, fun q => ⟨hf, hPdo, by omega, fun q1 q2 => ?_, by omega⟩⟩
            rw [yx.2.2.2.2.2.2] at q1
            rw [if_pos q1] at hzx
            omega) (by simp only [P_X4_tripFeeds_16, C_X4_tripFeeds_16, B_X4_tripFeeds_16, p2]; omega) (by
            show fx_ok _ _ _ (B_X4_tripFeeds_16 b f (zs (zfd (g' 249) f) nm) x h')
            rw [hBx]; exact IH.1)
        refine ⟨uc.1, IH.2.1, ?_⟩
        have e1 : L_X4_tripFeeds_16 b f (zs (zfd (g' 249) f) nm) x h' = L_X4_tripFeeds_16 b f (zs (zfd (g' 249) f) nm) ((x : Int) - 1) h' := by
          refine uc.2.trans ?_
          show fx_wh _ _ (B_X4_tripFeeds_16 b f (zs (zfd (g' 249) f) nm) x h') = _
          rw [hBx]; rfl
        rw [e1]
        exact IH.2.2
theorem trips_rel (b : Int) (h0 g0 : pH) (nm nw : Nat) (hn : h0 (b + 7) 10 = nm) (gn : g0 249 12 = nm) (h10 : nm ≤ 10) (h16 : nw ≤ 16) (hd : zdraws b h0 g0 nm) (hF : ∀ f : Int, 0 ≤ f → f < 4 → h0 (b + 19) f = g0 249 (56 + f) ∧ 0 ≤ g0 249 (56 + f) ∧ g0 249 (56 + f) ≤ 10000)
    (hz : ztrip b h0 g0 h0 g0 nm nw) : P_X4_tripFeeds b h0 ∧ O_X12_minute_210 0 g0 ∧ ztrip b h0 g0 (H_X4_tripFeeds b h0) (L_X12_minute_210 0 g0).2 nm nw := by
  have key := fx_rel (σ := Int × pH) (c := (fun s => C_X4_tripFeeds_2 b s.1 s.2)) (f := (fun s => B_X4_tripFeeds_2 b s.1 s.2)) (P := (fun s => P_X4_tripFeeds_2 b s.1 s.2)) (s0 := (0, h0)) (τ := Int × pH) (d := (fun s => C_X12_minute_210 s.1 s.2)) (g := (fun s => B_X12_minute_210 s.1 s.2)) (P' := (fun s => P_X12_minute_210 s.1 s.2)) (t0 := (0, g0)) 4 (fun i s t => s.1 = i ∧ t.1 = i ∧ i ≤ 4 ∧ ztrip b h0 g0 s.2 t.2 nm nw) ⟨rfl, rfl, by omega, hz⟩ ?_ ?_
  · obtain ⟨k1, k2, k3, k4, k5, k6⟩ := key
    exact ⟨k1, k2, k6⟩
  · rintro i ⟨x, h'⟩ ⟨y, g'⟩ hi ⟨hx, hy, hi2, zt⟩
    simp only at hx hy zt
    subst hx; subst hy
    have e7 : h' (b + 7) = h0 (b + 7) := zt.1 _ (by omega) (by omega) (by omega) (by omega)
    have sim := trip_sim b i h0 g0 nm nw hn gn h10 h16 hd (by omega) (hF i (by omega) (by omega)) nm (Nat.le_refl _) h' g' zt (fun k a1 a2 => by omega)
    have dX := drawn_X b i h' g' nm (by rw [e7]; exact hn) h10 (fun m a1 a2 => by
      have q := zt.2.2.2.1.1 m a1 a2
      have y := hd m a1 a2
      rw [zt.2.2.1 (104 + m) (by omega) (by omega), zt.2.2.1 (124 + m) (by omega) (by omega), zt.1 (b + 10) (by omega) (by omega) (by omega) (by omega), zt.1 (b + 12) (by omega) (by omega) (by omega) (by omega)]
      exact ⟨q.2.1, q.2.2.1, q.2.2.2.1, y.1, y.2.1, y.2.2.1, y.2.2.2⟩)
    simp only [P_X4_tripFeeds_2, C_X4_tripFeeds_2, B_X4_tripFeeds_2, P_X12_minute_210, C_X12_minute_210, B_X12_minute_210, s_X4_tripFeeds_5, dX.2, e7, hn, fx_i]
    exact ⟨⟨fun _ => ⟨dX.1, by omega, sim.1, by omega⟩, by omega⟩, ⟨fun _ => ⟨sim.2.1, by omega⟩, by omega⟩, by omega, by omega, by omega, sim.2.2⟩
  · rintro ⟨x, h'⟩ ⟨y, g'⟩ ⟨hx, hy, hi2, -⟩
    simp only at hx hy
    subst hx; subst hy
    simp only [P_X4_tripFeeds_2, C_X4_tripFeeds_2, B_X4_tripFeeds_2, P_X12_minute_210, C_X12_minute_210, B_X12_minute_210]
    omega
