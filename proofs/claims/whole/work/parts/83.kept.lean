/-! Works left out, on trial. -/
/-- the model's row with a set of works left out -/
noncomputable def mrk (z : Int → Int) (s : Int) (nw : Nat) (k : Int) : Int := if (328 ≤ k ∧ k < 328 + nw) ∧ bt s (k - 328).toNat = true then 9 else z k
theorem mrk_n {z : Int → Int} {s : Int} {nw : Nat} {k : Int} (h : k < 328 ∨ 328 + nw ≤ k) : mrk z s nw k = z k := if_neg fun q => by omega
theorem mrk_w {z : Int → Int} {s : Int} {nw : Nat} {w : Nat} (h : w < nw) : mrk z s nw (328 + w) = if bt s w = true then 9 else z (328 + w) := by
  unfold mrk
  rw [show ((328 : Int) + w - 328).toNat = w by omega]
  by_cases c : bt s w = true
  · rw [if_pos ⟨⟨by omega, by omega⟩, c⟩, if_pos c]
  · rw [if_neg (fun q => c q.2), if_neg c]
theorem leave_out {b : Int} {h : pH} {z : Int → Int} {nm nw : Nat} {T : Int} (q : hl b h z nm nw T) (s : Int) :
    P_X10_leaveOut (b + 21) s h ∧ (∀ a, a ≠ b + 32 → H_X10_leaveOut (b + 21) s h a = h a) ∧ hl b (H_X10_leaveOut (b + 21) s h) (mrk z s nw) nm nw T := by
  have W := q.2.2.2.1
  obtain ⟨⟨wn, wh, ww, wo⟩, dn, d16, dh, dw⟩ := id W
  have key := fx_rule (σ := Int × pH) (c := fun t => C_X10_leaveOut_2 (b + 21) s t.1 t.2) (f := fun t => B_X10_leaveOut_2 (b + 21) s t.1 t.2) (P := fun t => P_X10_leaveOut_2 (b + 21) s t.1 t.2) (s0 := (0, h)) nw
    (fun i t => t.1 = i ∧ i ≤ nw ∧ (∀ a, a ≠ b + 32 → t.2 a = h a) ∧ ∀ w : Nat, w < nw → t.2 (b + 32) w = if w < i ∧ bt s w = true then 4 else h (b + 32) w)
    ⟨rfl, by omega, fun _ _ => rfl, fun w hw => by rw [if_neg (fun y => by omega)]⟩ ?_ ?_
  · obtain ⟨k1, k2, k3, k4, k5⟩ := key
    refine ⟨k1, k4, ?_⟩
    have k4' : ∀ a, a ≠ b + 32 → H_X10_leaveOut (b + 21) s h a = h a := k4
    have k5' : ∀ w : Nat, w < nw → H_X10_leaveOut (b + 21) s h (b + 32) w = if w < nw ∧ bt s w = true then 4 else h (b + 32) w := k5
    generalize H_X10_leaveOut (b + 21) s h = h' at *
    refine hl_W q ⟨⟨?_, fun k e1 e2 => ?_, fun w e1 e2 => ?_, fun k e1 e2 => ?_⟩, ?_, d16, fun k e1 e2 => ?_, fun w e1 e2 => ?_⟩ (Nat.le_refl _) (fun a e => k4' a (by omega)) (fun k e => mrk_n (by omega))
    · rw [k4' _ (by omega)]; exact wn
    · rw [k4' _ (by omega), k4' _ (by omega), k4' _ (by omega), mrk_n (by omega), mrk_n (by omega), mrk_n (by omega)]
      exact wh k e1 e2
    · obtain ⟨w', hw'⟩ : ∃ w' : Nat, w = w' := ⟨w.toNat, by omega⟩
      subst hw'
      obtain ⟨x1, x2, x3, x4, x5, x6, x7, x8, x9, x10⟩ := ww w' e1 e2
      rw [k4' _ (by omega), k4' _ (by omega), k4' _ (by omega), k4' _ (by omega), k4' _ (by omega), k4' _ (by omega), k4' _ (by omega), k4' (b + 33) (by omega), k4' (b + 35) (by omega), mrk_n (by omega), mrk_n (by omega), mrk_n (by omega), mrk_n (by omega), mrk_n (by omega), mrk_n (by omega), mrk_n (by omega), mrk_n (by omega), mrk_n (k := 344 + w') (by omega)]
      refine ⟨x1, x2, x3, x4, x5, x6, x7, ?_, x9, x10⟩
      rw [k5' w' (by omega)]
      unfold zst
      rw [mrk_w (by omega), mrk_n (by omega), mrk_n (by omega), mrk_n (by omega)]
      by_cases c : bt s w' = true
      · rw [if_pos ⟨by omega, c⟩, if_pos c]
        unfold nst
        rw [if_pos rfl]
      · rw [if_neg (fun y => c y.2), if_neg c]; exact x8
    · rw [k4' _ (by omega), wo k e1 e2]
      have hz : ∀ w : Int, 0 ≤ w → w < nw → zkey z w = zkey (mrk z s nw) w := fun w y1 y2 => by
        have y3 := (dw w y1 y2).2.1
        unfold zkey
        rw [mrk_n (k := 216 + w) (by omega), mrk_n (k := 174 + z (216 + w)) (by omega)]
      rw [zins_congr hz nw (Nat.le_refl _)]
    · rw [mrk_n (by omega)]; exact dn
    · rw [mrk_n (by omega), mrk_n (by omega), mrk_n (by omega)]; exact dh k e1 e2
    · obtain ⟨w', hw'⟩ : ∃ w' : Nat, w = w' := ⟨w.toNat, by omega⟩
      subst hw'
      obtain ⟨y1, y2, y3, y4⟩ := dw w' e1 e2
      rw [mrk_n (k := 216 + w') (by omega), mrk_n (k := 280 + w') (by omega), mrk_n (k := 344 + w') (by omega)]
      refine ⟨?_, y2, y3, y4⟩
      unfold zwk at y1 ⊢
      rw [mrk_w (by omega), mrk_n (k := 200 + w') (by omega), mrk_n (k := 232 + w') (by omega), mrk_n (k := 248 + w') (by omega), mrk_n (k := 264 + w') (by omega), mrk_n (k := 296 + w') (by omega), mrk_n (k := 312 + w') (by omega), mrk_n (k := 360 + w') (by omega), mrk_n (k := 15) (by omega)]
      by_cases c : bt s w' = true
      · rw [if_pos c]
        obtain ⟨f1, f2, f3, f4, f5, f6, f7, f8, f9, f10, f11, f12, f13, f14, f15, f16, f17⟩ := y1
        exact ⟨f1, f2, f3, f4, f5, f6, f7, f8, f9, f10, f11, f12, f13, f14, Or.inr (Or.inr (Or.inr rfl)), f16, fun y => absurd y (by omega)⟩
      · rw [if_neg c]; exact y1
  · rintro i ⟨x, h'⟩ hi ⟨hx, hi2, hf, hv⟩
    simp only at hx hf hv
    subst hx
    have e21 := hf (b + 21) (by omega)
    have bit := bt_test (x := s) (m := i) (by omega)
    refine ⟨?_, ?_, ?_, by omega, ?_, ?_⟩
    · simp only
      unfold P_X10_leaveOut_2 fx_i
      intro y
      exact ⟨fun _ => by omega, by omega⟩
    · show (i : Int) < h' (b + 21) 15
      rw [e21]; omega
    · show (i : Int) + 1 = ((i + 1 : Nat) : Int)
      omega
    · intro a ha
      show s_X10_leaveOut_1 (b + 21) s i h' a = h a
      unfold s_X10_leaveOut_1
      rw [show b + 21 + 11 = b + 32 by omega]
      split
      · rw [up_cell _ ha]; exact hf a ha
      · exact hf a ha
    · intro w hw
      show s_X10_leaveOut_1 (b + 21) s i h' (b + 32) w = _
      unfold s_X10_leaveOut_1
      rw [show b + 21 + 11 = b + 32 by omega, bit]
      have v := hv w hw
      by_cases c : bt s i = true
      · rw [if_pos c, if_pos rfl]
        by_cases y : w = i
        · subst y
          rw [up_eq, if_pos ⟨by omega, c⟩]
        · rw [up_pl _ (show (w : Int) ≠ i by omega), v]
          exact ite_iff _ _ _ _ ⟨fun r => ⟨by omega, r.2⟩, fun r => ⟨by omega, r.2⟩⟩
      · rw [if_neg c, if_neg (show ¬ (0 : Int) = 1 by omega), v]
        refine ite_iff _ _ _ _ ⟨fun r => ⟨by omega, r.2⟩, fun r => ⟨?_, r.2⟩⟩
        by_cases y : w = i
        · subst y; exact absurd r.2 c
        · omega
  · rintro ⟨x, h'⟩ ⟨hx, hi2, hf, -⟩
    simp only at hx hf
    subst hx
    have e21 := hf (b + 21) (by omega)
    refine ⟨?_, ?_⟩
    · show P_X10_leaveOut_2 (b + 21) s nw h'
      unfold P_X10_leaveOut_2
      rw [e21]
      intro y; omega
    · show ¬ (nw : Int) < h' (b + 21) 15
      rw [e21]; omega
theorem zs_mono {f g : Int → Int} : ∀ {n : Nat}, (∀ i : Int, 0 ≤ i → i < n → f i ≤ g i) → zs f n ≤ zs g n
  | 0, _ => Int.le_refl _
  | n + 1, h => by
    have ih := zs_mono (f := f) (g := g) (n := n) (fun i e1 e2 => h i e1 (by omega))
    have := h n (by omega) (by omega)
    show zs f n + f n ≤ zs g n + g n
    omega
theorem nbr_up {b : Int} {h g : pH} {nm nw : Nat} {T : Int} (q : hl b h (g 249) nm nw T) (i : Nat) (hT : T + i ≤ 90000) : ∀ d : Nat, d ≤ 100 → nbr (mit i g 249) nw ≤ nbr (mit (i + d) g 249) nw
  | 0, _ => Int.le_refl _
  | d + 1, hd => by
    have ih := nbr_up q i hT d (by omega)
    obtain ⟨i1, -⟩ := its q (i + d) (by omega)
    obtain ⟨-, -, -, -, -, -, -, -, s9⟩ := hl_step i1 (by omega)
    refine Int.le_trans ih (zs_mono (fun w e1 e2 => ?_))
    have := (s9 w e1 e2).2
    show (if mit (i + d) g 249 (328 + w) = 3 then (1 : Int) else 0) ≤ (if H_X12_minute (mit (i + d) g) 249 (328 + w) = 3 then (1 : Int) else 0)
    by_cases c : mit (i + d) g 249 (328 + w) = 3
    · rw [if_pos c, if_pos (this c)]; omega
    · rw [if_neg c]; split <;> omega
theorem kept_X {h : pH} {z : Int → Int} {nm nw : Nat} {T s : Int} (q : hl 1 h z nm nw T) (hT : T ≤ 20000) (hs : ∀ w : Nat, w < nw → bt s w = true → z (328 + w) = 0) (n : Nat) (n30 : n ≤ 60) {g : pH} (eg : ∀ k : Int, 0 ≤ k → k < 620 → g 249 k = mrk z s nw k) :
    P_X11_allKeptWithout s n h ∧ (F_X11_allKeptWithout s n h = 1 ↔ nbr (mit n g 249) nw = nbr z nw) ∧ ∀ a, (a < 47 ∨ 93 ≤ a) → H_X11_allKeptWithout s n h a = h a := by
  obtain ⟨c1, c2⟩ := hl_copy (d := 47) (s := 1) (by omega) q (fun _ _ _ => rfl)
  obtain ⟨l1, l2, l3⟩ := leave_out c1 s
  have q2 : hl 47 (H_X10_leaveOut 68 s (H_X4_copyFrom 47 1 h)) (g 249) nm nw T := hl_cg l3 (fun _ _ _ => rfl) eg
  have l2' : ∀ a, (a < 47 ∨ 93 ≤ a) → H_X10_leaveOut 68 s (H_X4_copyFrom 47 1 h) a = h a := fun a e => (l2 a (by omega)).trans (c2 a (by omega))
  have d16 := q.2.2.2.1.2.2.1
  have n0 : nbr (g 249) nw = nbr z nw := zs_congr (fun w e1 e2 => by
    obtain ⟨w', hw'⟩ : ∃ w' : Nat, w = w' := ⟨w.toNat, by omega⟩
    subst hw'
    rw [eg _ (by omega) (by omega), mrk_w (by omega)]
    by_cases c : bt s w' = true
    · rw [if_pos c, hs w' (by omega) c]; rfl
    · rw [if_neg c])
  generalize hh2 : H_X10_leaveOut 68 s (H_X4_copyFrom 47 1 h) = h2 at *
  have key := fx_ruleM (σ := Int × Int × pH) (c := fun t => t.1 = 0) (f := fun t => B_X11_allKeptWithout_12 n t.2.1 t.2.2) (P := fun t => t.1 = 0 → P_X11_allKeptWithout_12 n t.2.1 t.2.2)
    (fun t => (∃ j : Nat, j ≤ 60 ∧ t.2.2 = xit 47 j h2) ∧ ((t.1 = 0 ∧ ∃ i : Nat, i ≤ n ∧ t.2.1 = i ∧ t.2.2 = xit 47 i h2 ∧ nbr (mit i g 249) nw = nbr z nw) ∨ (t.1 = 1 ∧ nbr (mit n g 249) nw = nbr z nw) ∨ (t.1 = 2 ∧ nbr (mit n g 249) nw ≠ nbr z nw)))
    (fun t => if t.1 = 0 then (n + 1 - t.2.1.toNat) else 0) (by
      rintro ⟨t, x, h'⟩ ⟨-, hc⟩
      simp only at hc ⊢
      refine ⟨fun ht => ?_, fun ht => ?_⟩
      · subst ht
        obtain ⟨-, i, i1, i2, i3, i4⟩ := hc.resolve_right (fun y => by omega)
        subst i2 i3
        obtain ⟨s1, s2, s3⟩ := it_step q2 i (by omega)
        unfold P_X11_allKeptWithout_12 fx_i
        intro y
        exact ⟨s1, fun _ => by omega⟩
      · subst ht
        obtain ⟨-, i, i1, i2, i3, i4⟩ := hc.resolve_right (fun y => by omega)
        subst i2 i3
        obtain ⟨s1, s2, s3⟩ := it_step q2 i (by omega)
        unfold B_X11_allKeptWithout_12
        by_cases c : (n : Int) ≤ i
        · rw [if_pos c]
          have : i = n := by omega
          subst this
          refine ⟨⟨⟨i, by omega, rfl⟩, Or.inr (Or.inl ⟨rfl, i4⟩)⟩, ?_⟩
          rw [if_pos rfl, if_neg (show ¬ (1 : Int) = 0 by omega)]
          omega
        · rw [if_neg c]
          have up1 := nbr_up q2 i (by omega) 1 (by omega)
          have up2 := nbr_up q2 (i + 1) (by omega) (n - (i + 1)) (by omega)
          rw [show i + 1 + (n - (i + 1)) = n by omega] at up2
          by_cases c2 : F_X4_step 47 (xit 47 i h2) ≤ 0
          · rw [if_pos c2]
            refine ⟨⟨⟨i + 1, by omega, rfl⟩, Or.inl ⟨rfl, i + 1, by omega, by simp only; omega, rfl, by omega⟩⟩, ?_⟩
            rw [if_pos rfl, if_pos rfl]
            show n + 1 - ((i : Int) + 1).toNat < n + 1 - (i : Int).toNat
            omega
          · rw [if_neg c2]
            refine ⟨⟨⟨i + 1, by omega, rfl⟩, Or.inr (Or.inr ⟨rfl, by omega⟩)⟩, ?_⟩
            rw [if_pos rfl, if_neg (show ¬ (2 : Int) = 0 by omega)]
            omega)
    (0, 0, h2) ⟨⟨0, by omega, rfl⟩, Or.inl ⟨rfl, 0, by omega, rfl, rfl, n0⟩⟩
  obtain ⟨k1, ⟨⟨j, j1, j2⟩, k2⟩, k3⟩ := key
  have eL : fx_wh (fun t : Int × Int × pH => t.1 = 0) (fun t => B_X11_allKeptWithout_12 n t.2.1 t.2.2) (0, 0, h2) = L_X11_allKeptWithout_12 n 0 (H_X10_leaveOut 68 s (H_X4_copyFrom 47 1 h)) := by rw [hh2]; rfl
  rw [eL] at j2 k2 k3
  refine ⟨⟨by rw [show (68 : Int) = 47 + 21 by omega]; exact l1, by rw [hh2]; exact k1⟩, ?_, fun a e => ?_⟩
  · unfold F_X11_allKeptWithout s_X11_allKeptWithout_3
    generalize L_X11_allKeptWithout_12 n 0 (H_X10_leaveOut 68 s (H_X4_copyFrom 47 1 h)) = t at *
    rcases k2 with k2 | ⟨k2, k4⟩ | ⟨k2, k4⟩
    · exact absurd k2.1 k3
    · rw [if_pos k2]; exact ⟨fun _ => k4, fun _ => rfl⟩
    · rw [if_neg (by omega)]; exact ⟨fun y => absurd y (by omega), fun y => absurd y k4⟩
  · unfold H_X11_allKeptWithout s_X11_allKeptWithout_2
    rw [j2, (its q2 j (by omega)).2.1 a (by omega)]
    exact l2' a e
