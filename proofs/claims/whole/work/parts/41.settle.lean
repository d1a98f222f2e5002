/-! Heat goes through air and walls, coolers take: both sides. -/
theorem settleA (a : Int) (h0 g0 : pH) (hq : zheat a h0 g0) : O_X0_settle_2 a 0 h0 ∧ O_X12_warm_40 0 g0 ∧ zexch a h0 g0 (L_X0_settle_2 a 0 h0).2 (L_X12_warm_40 0 g0).2 (fun _ => 0) := by
  obtain ⟨q5, q6, q7, o1, o2, w1, w2, v1, v2, qc⟩ := hq
  have key := fx_rel (σ := Int × pH) (c := (fun s => C_X0_settle_2 a s.1 s.2)) (f := (fun s => B_X0_settle_2 a s.1 s.2)) (P := (fun s => P_X0_settle_2 a s.1 s.2)) (s0 := (0, h0)) (τ := Int × pH) (d := (fun s => C_X12_warm_40 s.1 s.2)) (g := (fun s => B_X12_warm_40 s.1 s.2)) (P' := (fun s => P_X12_warm_40 s.1 s.2)) (t0 := (0, g0)) 12 (fun i s t => s.1 = i ∧ t.1 = i ∧ i ≤ 12 ∧ (∀ q, q ≠ a + 5 → s.2 q = h0 q) ∧ (∀ q, q ≠ 262 → t.2 q = g0 q) ∧
    ∀ c : Int, 0 ≤ c → c < i → s.2 (a + 5) c = g0 249 (20 + c) + t.2 262 c ∧ t.2 262 c = -Int.tdiv ((g0 249 (20 + c) - g0 249 0) * g0 249 1) 1000)
    ⟨rfl, rfl, by omega, fun _ _ => rfl, fun _ _ => rfl, fun c a1 a2 => by omega⟩ ?_ ?_
  · obtain ⟨k1, k2, k3, k4, k5, k6, k7, k8⟩ := key
    refine ⟨k1, k2, k6, k7, fun c a1 a2 => ?_⟩
    have q := k8 c a1 a2
    have q2 : (L_X12_warm_40 0 g0).2 262 c = -Int.tdiv ((g0 249 (20 + c) - g0 249 0) * g0 249 1) 1000 := q.2
    have q1 : (L_X0_settle_2 a 0 h0).2 (a + 5) c = g0 249 (20 + c) + (L_X12_warm_40 0 g0).2 262 c := q.1
    refine ⟨q1, ?_, ?_⟩ <;> simp only [q2, Int.zero_mul] <;> omega
  · rintro i ⟨x, h'⟩ ⟨y, g'⟩ hi ⟨hx, hy, hi2, f1, f2, fc⟩
    simp only at hx hy f1 f2 fc
    subst hx; subst hy
    have t := qc i (by omega) (by omega)
    have e1 : h' (a + 1) = h0 (a + 1) := f1 _ (by omega)
    have ea : h' a = h0 a := f1 _ (by omega)
    have e9 : g' 249 = g0 249 := f2 _ (by omega)
    have p5 := part_bd5 (x := g0 249 (20 + i) - g0 249 0) w1 w2 (by omega)
    simp only [P_X0_settle_2, C_X0_settle_2, B_X0_settle_2, P_X12_warm_40, C_X12_warm_40, B_X12_warm_40, s_X0_settle_1, s_X12_warm_2, P_X0_part, e1, ea, e9, t.1, q5, q6, fx_i, fx_l]
    obtain ⟨P, hP⟩ : ∃ P, P = Int.tdiv ((g0 249 (20 + i) - g0 249 0) * g0 249 1) 1000 := ⟨_, rfl⟩
    rw [← hP] at p5 ⊢
    refine ⟨⟨fun _ => ⟨by omega, by omega, ⟨by omega, by omega, by omega⟩, by omega, by omega⟩, by omega⟩, ⟨fun _ => ⟨by omega, by omega, by omega, by omega, by omega, by omega, by omega, by omega⟩, by omega⟩, by omega, by omega, by omega, fun q a1 => ?_, fun q a1 => ?_, fun c a1 a2 => ?_⟩
    · rw [up_cell _ a1]; exact f1 q a1
    · rw [up_cell _ a1]; exact f2 q a1
    · by_cases e : c = i
      · rw [e, up_eq, up_eq, ← hP]; omega
      · rw [up_pl _ e, up_pl _ e]; exact fc c a1 (by omega)
  · rintro ⟨x, h'⟩ ⟨y, g'⟩ ⟨hx, hy, hi2, -⟩
    simp only at hx hy
    subst hx; subst hy
    simp only [P_X0_settle_2, C_X0_settle_2, B_X0_settle_2, P_X12_warm_40, C_X12_warm_40, B_X12_warm_40]
    omega
/-- how often cell c has exchanged when the cells below i are through -/
def zcnt (i : Nat) (c : Int) : Int := (if c < i ∧ c % 4 < 3 then 1 else 0) + (if c < i ∧ c < 8 then 1 else 0) + (if 1 ≤ c ∧ c - 1 < i ∧ (c - 1) % 4 < 3 then 1 else 0) + (if 4 ≤ c ∧ c - 4 < i then 1 else 0)
theorem zcnt_bd (i : Nat) (c : Int) : 0 ≤ zcnt i c ∧ zcnt i c ≤ 4 := by
  unfold zcnt
  (repeat' split) <;> omega
theorem zexch_congr {a : Int} {h0 g0 h g : pH} {n n' : Int → Int} (hz : zexch a h0 g0 h g n) (e : ∀ c : Int, 0 ≤ c → c < 12 → n c = n' c) : zexch a h0 g0 h g n' := ⟨hz.1, hz.2.1, fun c a1 a2 => by rw [← e c a1 a2]; exact hz.2.2 c a1 a2⟩
theorem settleB (a : Int) (h0 g0 h1 g1 : pH) (hq : zheat a h0 g0) (hz : zexch a h0 g0 h1 g1 (fun _ => 0)) : O_X0_settle_28 a 0 h1 ∧ O_X12_warm_70 0 g1 ∧ zexch a h0 g0 (L_X0_settle_28 a 0 h1).2 (L_X12_warm_70 0 g1).2 (zcnt 12) := by
  have key := fx_rel (σ := Int × pH) (c := (fun s => C_X0_settle_28 a s.1 s.2)) (f := (fun s => B_X0_settle_28 a s.1 s.2)) (P := (fun s => P_X0_settle_28 a s.1 s.2)) (s0 := (0, h1)) (τ := Int × pH) (d := (fun s => C_X12_warm_70 s.1 s.2)) (g := (fun s => B_X12_warm_70 s.1 s.2)) (P' := (fun s => P_X12_warm_70 s.1 s.2)) (t0 := (0, g1)) 12 (fun i s t => s.1 = i ∧ t.1 = i ∧ i ≤ 12 ∧ zexch a h0 g0 s.2 t.2 (zcnt i))
    ⟨rfl, rfl, by omega, zexch_congr hz (fun c a1 a2 => by unfold zcnt; (repeat' split) <;> omega)⟩ ?_ ?_
  · obtain ⟨k1, k2, k3, k4, k5, k6⟩ := key
    exact ⟨k1, k2, k6⟩
  · rintro i ⟨x, h'⟩ ⟨y, g'⟩ hi ⟨hx, hy, hi2, zt⟩
    simp only at hx hy zt
    subst hx; subst hy
    have tm := Int.tmod_eq_emod_of_nonneg (b := 4) (show (0 : Int) ≤ i by omega)
    -- the first exchange
    have first : (Int.tmod i 4 < 3 → P_X0_exchange a i (i + 1) h') ∧ P_X12_exchange i (s_X12_warm_5 i) g' ∧ zexch a h0 g0 (s_X0_settle_2 a i h') (H_X12_exchange i (s_X12_warm_5 i) g') (fun c => if (i : Int) % 4 < 3 ∧ (c = i ∨ c = i + 1) then zcnt i c + 1 else zcnt i c) := by
      unfold s_X0_settle_2 s_X12_warm_5
      rw [tm]
      by_cases c : (i : Int) % 4 < 3
      · have ex := exch_rel a i (i + 1) h0 g0 h' g' (zcnt i) hq zt (by omega) (by omega) (by omega) (fun c _ _ => zcnt_bd i c)
        rw [if_neg (by omega), if_neg (by omega)]
        exact ⟨fun _ => ex.1, ex.2.1, zexch_congr ex.2.2 (fun v a1 a2 => by simp only [c, true_and])⟩
      · rw [if_pos (by omega), if_pos (by omega)]
        refine ⟨fun q => absurd q c, ?_, ?_⟩
        · unfold P_X12_exchange; exact fun q => absurd rfl q
        · have : H_X12_exchange i (-1) g' = g' := by unfold H_X12_exchange; rw [if_pos rfl]
          rw [this]
          exact zexch_congr zt (fun v a1 a2 => by simp only [c, false_and, if_false])
    obtain ⟨n1, hn1⟩ : ∃ q : Int → Int, q = (fun (c : Int) => if (i : Int) % 4 < 3 ∧ (c = i ∨ c = i + 1) then zcnt i c + 1 else zcnt i c) := ⟨_, rfl⟩
    rw [← hn1] at first
    obtain ⟨fi1, fi2, fi3⟩ := first
    have n1b : ∀ c : Int, 0 ≤ c → c < 12 → 0 ≤ n1 c ∧ n1 c ≤ 4 := by
      intro c a1 a2
      have := zcnt_bd i c
      have e : zcnt i c = zcnt i c := rfl
      rw [hn1]
      simp only
      unfold zcnt at e this ⊢
      clear e
      (repeat' split) <;> omega
    have second : ((i : Int) + 4 < 12 → P_X0_exchange a i (i + 4) (s_X0_settle_2 a i h')) ∧ P_X12_exchange i (s_X12_warm_6 i) (H_X12_exchange i (s_X12_warm_5 i) g') ∧ zexch a h0 g0 (s_X0_settle_3 a i h') (s_X12_warm_7 i g') (fun c => if (i : Int) < 8 ∧ (c = i ∨ c = i + 4) then n1 c + 1 else n1 c) := by
      unfold s_X0_settle_3 s_X12_warm_7 s_X12_warm_6
      by_cases c : (i : Int) < 8
      · have ex := exch_rel a i (i + 4) h0 g0 (s_X0_settle_2 a i h') (H_X12_exchange i (s_X12_warm_5 i) g') n1 hq fi3 (by omega) (by omega) (by omega) n1b
        rw [if_neg (by omega), if_neg (by omega)]
        exact ⟨fun _ => ex.1, ex.2.1, zexch_congr ex.2.2 (fun v a1 a2 => by simp only [c, true_and])⟩
      · rw [if_pos (by omega), if_pos (by omega)]
        refine ⟨fun q => by omega, ?_, ?_⟩
        · unfold P_X12_exchange; exact fun q => absurd rfl q
        · have : H_X12_exchange i (-1) (H_X12_exchange i (s_X12_warm_5 i) g') = H_X12_exchange i (s_X12_warm_5 i) g' := by unfold H_X12_exchange; rw [if_pos rfl]
          rw [this]
          exact zexch_congr fi3 (fun v a1 a2 => by simp only [c, false_and, if_false])
    obtain ⟨se1, se2, se3⟩ := second
    have fin := zexch_congr se3 (n' := zcnt (i + 1)) (fun c a1 a2 => by
      rw [hn1]
      simp only
      unfold zcnt
      (repeat' split) <;> omega)
    simp only [P_X0_settle_28, C_X0_settle_28, B_X0_settle_28, P_X12_warm_70, C_X12_warm_70, B_X12_warm_70, fx_i]
    exact ⟨⟨fun _ => ⟨fun q => ⟨by omega, fi1 q⟩, by omega, fun q => se1 q, by omega⟩, by omega⟩, ⟨fun _ => ⟨fun q => by omega, fi2, by omega, se2, by omega⟩, by omega⟩, by omega, by omega, by omega, fin⟩
  · rintro ⟨x, h'⟩ ⟨y, g'⟩ ⟨hx, hy, hi2, -⟩
    simp only at hx hy
    subst hx; subst hy
    simp only [P_X0_settle_28, C_X0_settle_28, B_X0_settle_28, P_X12_warm_70, C_X12_warm_70, B_X12_warm_70]
    omega
/-- the coolers -/
theorem settleC (a : Int) (h0 g0 h g : pH) (hq : zheat a h0 g0) (hz : zexch a h0 g0 h g (zcnt 12)) (ht : ∀ c : Int, 0 ≤ c → c < 12 → h0 (a + 2) c = g0 249 (32 + c) ∧ 0 ≤ g0 249 (32 + c) ∧ g0 249 (32 + c) ≤ 10000 ∧ h0 (a + 3) c = g0 249 (44 + c) ∧ 0 ≤ g0 249 (44 + c) ∧ g0 249 (44 + c) ≤ 5000) :
    O_X0_settle_57 a 0 h ∧ O_X12_warm_103 0 g ∧ (∀ q, q ≠ a + 1 → q ≠ a + 5 → (L_X0_settle_57 a 0 h).2 q = h0 q) ∧ (∀ q, q ≠ 249 → q ≠ 262 → (L_X12_warm_103 0 g).2 q = g0 q) ∧ (∀ k : Int, k < 20 ∨ 32 ≤ k → (L_X12_warm_103 0 g).2 249 k = g0 249 k) ∧
    ∀ c : Int, 0 ≤ c → c < 12 → (L_X0_settle_57 a 0 h).2 (a + 1) c = (L_X12_warm_103 0 g).2 249 (20 + c) ∧ -150022500 ≤ (L_X12_warm_103 0 g).2 249 (20 + c) ∧ (L_X12_warm_103 0 g).2 249 (20 + c) ≤ 100000000 := by
  obtain ⟨q5, q6, q7, o1, o2, w1, w2, v1, v2, qc⟩ := hq
  obtain ⟨z1, z2, zc⟩ := hz
  have e9 : g 249 = g0 249 := z2 _ (by omega)
  have key := fx_rel (σ := Int × pH) (c := (fun s => C_X0_settle_57 a s.1 s.2)) (f := (fun s => B_X0_settle_57 a s.1 s.2)) (P := (fun s => P_X0_settle_57 a s.1 s.2)) (s0 := (0, h)) (τ := Int × pH) (d := (fun s => C_X12_warm_103 s.1 s.2)) (g := (fun s => B_X12_warm_103 s.1 s.2)) (P' := (fun s => P_X12_warm_103 s.1 s.2)) (t0 := (0, g)) 12 (fun i s t => s.1 = i ∧ t.1 = i ∧ i ≤ 12 ∧ (∀ q, q ≠ a + 1 → s.2 q = h q) ∧ (∀ q, q ≠ 249 → t.2 q = g q) ∧ (∀ k : Int, k < 20 ∨ 20 + (i : Int) ≤ k → t.2 249 k = g 249 k) ∧
    ∀ c : Int, 0 ≤ c → c < i → s.2 (a + 1) c = t.2 249 (20 + c) ∧ -150022500 ≤ t.2 249 (20 + c) ∧ t.2 249 (20 + c) ≤ 100000000)
    ⟨rfl, rfl, by omega, fun _ _ => rfl, fun _ _ => rfl, fun _ _ => rfl, fun c a1 a2 => by omega⟩ ?_ ?_
  · obtain ⟨k1, k2, k3, k4, k5, k6, k7, k8, k9⟩ := key
    exact ⟨k1, k2, fun q a1 a2 => (k6 q a1).trans (z1 q a2), fun q a1 a2 => (k7 q a1).trans (z2 q a2), fun k a1 => (k8 k (by omega)).trans (by rw [e9]), k9⟩
  · rintro i ⟨x, h'⟩ ⟨y, g'⟩ hi ⟨hx, hy, hi2, f1, f2, f3, fc⟩
    simp only at hx hy f1 f2 f3 fc
    subst hx; subst hy
    have t := qc i (by omega) (by omega)
    have y := zc i (by omega) (by omega)
    have tt := ht i (by omega) (by omega)
    have nb := zcnt_bd 12 i
    have m1 := mul_four nb.1 nb.2 (show 0 ≤ g0 249 (20 + i) + 150022500 by omega)
    have m2 := mul_four nb.1 nb.2 (show 0 ≤ 100015000 - g0 249 (20 + i) by omega)
    have p5 := part_bd5 (x := g0 249 (20 + i) - g0 249 0) w1 w2 (by omega)
    have e2 : h' (a + 2) i = g0 249 (32 + i) := by rw [f1 _ (by omega), z1 _ (by omega)]; exact tt.1
    have e3 : h' (a + 3) i = g0 249 (44 + i) := by rw [f1 _ (by omega), z1 _ (by omega)]; exact tt.2.2.2.1
    have e5 : h' (a + 5) i = g0 249 (20 + i) + g 262 i := by rw [f1 _ (by omega)]; exact y.1
    have k20 : g' 249 (20 + i) = g0 249 (20 + i) := by rw [f3 _ (by omega), e9]
    have k44 : g' 249 (44 + i) = g0 249 (44 + i) := by rw [f3 _ (by omega), e9]
    have k32 : g' 249 (32 + i) = g0 249 (32 + i) := by rw [f3 _ (by omega), e9]
    have k62 : g' 262 i = g 262 i := by rw [f2 _ (by omega)]
    obtain ⟨N, hN⟩ : ∃ N, N = g0 249 (20 + i) + g 262 i := ⟨_, rfl⟩
    have Nb : -150022500 ≤ N ∧ N ≤ 500000000 := by
      generalize Int.tdiv ((g0 249 (20 + i) - g0 249 0) * g0 249 1) 1000 = P at *
      omega
    rw [← hN] at e5
    have ut : ∀ v k : Int, k ≠ 20 + i → pm_upd g' 249 (20 + i) v 249 k = g' 249 k := fun v k hk => up_pl _ hk
    obtain ⟨T, hT⟩ : ∃ T, T = fx_min 100000000 (N - fx_max 0 (fx_min (g0 249 (32 + i)) (N - g0 249 (44 + i)))) := ⟨_, rfl⟩
    have x6 : s_X0_settle_6 a i h' = T := by unfold s_X0_settle_6; rw [e5, e2, e3, hT]
    have b1 := fx_min_le (g0 249 (32 + i)) (N - g0 249 (44 + i))
    have b2 := fx_max_le 0 (fx_min (g0 249 (32 + i)) (N - g0 249 (44 + i)))
    have b3 := fx_min_le 100000000 (N - fx_max 0 (fx_min (g0 249 (32 + i)) (N - g0 249 (44 + i))))
    have Tb : -150022500 ≤ T ∧ T ≤ 100000000 := by rw [hT]; omega
    have u1 : pm_upd g' 249 (20 + i) (g' 249 (20 + i) + g' 262 i) 249 (20 + i) = N := by rw [up_eq, k20, k62, hN]
    have w10 : s_X12_warm_10 i g' = N - g0 249 (44 + i) := by unfold s_X12_warm_10; rw [u1, ut _ _ (by omega), k44]
    have w11 : s_X12_warm_11 i g' = fx_min (g0 249 (32 + i)) (N - g0 249 (44 + i)) := by unfold s_X12_warm_11; rw [less_min, w10, ut _ _ (by omega), k32]
    have w12 : s_X12_warm_12 i g' = fx_max 0 (fx_min (g0 249 (32 + i)) (N - g0 249 (44 + i))) := by
      unfold s_X12_warm_12
      rw [w10, w11]
      split <;> omega
    have w13 : s_X12_warm_13 i g' = pm_upd (pm_upd g' 249 (20 + i) N) 249 (20 + i) (N - fx_max 0 (fx_min (g0 249 (32 + i)) (N - g0 249 (44 + i)))) := by
      unfold s_X12_warm_13
      rw [w12, u1, k20, k62, ← hN]
    have w14 : s_X12_warm_14 i g' = pm_upd (s_X12_warm_13 i g') 249 (20 + i) T := by
      unfold s_X12_warm_14
      rw [less_min]
      congr 1
      rw [w13, up_eq, hT]
      have c1 := fx_min_le (N - fx_max 0 (fx_min (g0 249 (32 + i)) (N - g0 249 (44 + i)))) 100000000
      omega
    simp only [P_X0_settle_57, C_X0_settle_57, B_X0_settle_57, P_X12_warm_103, C_X12_warm_103, B_X12_warm_103, x6, w14, up_eq, ut _ (44 + i) (by omega), w10, w12, e5, e2, e3, k20, k44, k62, ← hN, fx_i, fx_l]
    refine ⟨⟨fun _ => ⟨by omega, by omega, by omega, by omega⟩, by omega⟩, ⟨fun _ => ⟨by omega, by omega, by omega, by omega, by omega, by omega, by omega, fun _ => by omega, by omega, by omega⟩, by omega⟩, by omega, by omega, by omega, fun q a1 => ?_, fun q a1 => ?_, fun k a1 => ?_, fun c a1 a2 => ?_⟩
    · rw [up_cell _ a1]; exact f1 q a1
    · rw [w13, up_cell _ a1, up_cell _ a1, up_cell _ a1]; exact f2 q a1
    · rw [w13, up_pl _ (by omega), up_pl _ (by omega), up_pl _ (by omega)]; exact f3 k (by omega)
    · by_cases e : c = i
      · rw [e, up_eq, up_eq]; exact ⟨rfl, Tb.1, Tb.2⟩
      · rw [up_pl _ e, w13, up_pl _ (by omega), up_pl _ (by omega), up_pl _ (by omega)]; exact fc c a1 (by omega)
  · rintro ⟨x, h'⟩ ⟨y, g'⟩ ⟨hx, hy, hi2, -⟩
    simp only at hx hy
    subst hx; subst hy
    simp only [P_X0_settle_57, C_X0_settle_57, B_X0_settle_57, P_X12_warm_103, C_X12_warm_103, B_X12_warm_103]
    omega
