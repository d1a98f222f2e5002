/-! ODDS FITTED: both. -/
theorem pow_loop {cnd : Int × pH → Prop} {f : Int × pH → Int × pH} {P : Int × pH → Prop} {hh : pH} {c y v : Int} {u m : Nat} (n : Nat) (t : TRW hh c u v) (h1 : hh 153 1 = c) (h2 : hh 153 2 = u) (hc : c ≠ 153) (mb : MB v m) (hm : m + n ≤ 60) (hy : 1 ≤ y ∧ y ≤ 1000)
    (c1 : ∀ (i : Nat) (h' : pH), i < n → (∀ a, a ≠ 153 → a ≠ c → h' a = hh a) → cnd ((i : Int), h')) (c2 : ∀ (h' : pH), (∀ a, a ≠ 153 → a ≠ c → h' a = hh a) → ¬ cnd ((n : Int), h')) (hf : ∀ (i : Nat) (h' : pH), f ((i : Int), h') = ((i : Int) + 1, H_X3_multiply y h'))
    (hP : ∀ (i : Nat) (h' : pH), i ≤ n → (∀ a, a ≠ 153 → a ≠ c → h' a = hh a) → (i < n → P_X3_multiply y h') → P ((i : Int), h')) :
    fx_ok cnd f P (0, hh) ∧ ∃ u' : Nat, TRW (fx_wh cnd f (0, hh)).2 c u' (v * pwI y n) ∧ (fx_wh cnd f (0, hh)).2 153 2 = u' ∧ (∀ a, a ≠ 153 → a ≠ c → (fx_wh cnd f (0, hh)).2 a = hh a) ∧ (∀ k : Int, k ≠ 2 → (fx_wh cnd f (0, hh)).2 153 k = hh 153 k) ∧ MB (v * pwI y n) (m + n) := by
  have key := fx_rule (c := cnd) (f := f) (P := P) (s0 := (0, hh)) n
    (fun i s => i ≤ n ∧ s.1 = (i : Int) ∧ (∃ u' : Nat, TRW s.2 c u' (v * pwI y i) ∧ s.2 153 2 = u') ∧ (∀ a, a ≠ 153 → a ≠ c → s.2 a = hh a) ∧ (∀ k : Int, k ≠ 2 → s.2 153 k = hh 153 k) ∧ MB (v * pwI y i) (m + i))
    ⟨by omega, rfl, ⟨u, by show TRW hh c u (v * 1); rw [Int.mul_one]; exact t, h2⟩, fun _ _ _ => rfl, fun _ _ => rfl, by show MB (v * 1) m; rw [Int.mul_one]; exact mb⟩
    (by
      rintro i ⟨x, h'⟩ hi ⟨i0, e1, ⟨u', e2, e3⟩, e4, e5, e6⟩
      dsimp only at e1 e2 e3 e4 e5 e6
      subst e1
      have M := MB_mul e6 hy
      have X := mult_X (a := y) e2 (by rw [e5 1 (by omega)]; exact h1) e3 hc hy (MB_60 M (by omega)).1
      obtain ⟨x1, u2, x2, x3, x4, x5⟩ := X
      refine ⟨hP i h' (by omega) e4 (fun _ => x1), c1 i h' hi e4, by omega, ?_⟩
      rw [hf i h']
      refine ⟨by show (i : Int) + 1 = _; omega, ⟨u2, ?_, x3⟩, fun a a1 a2 => by show H_X3_multiply y h' a = _; rw [x4 a a1 a2]; exact e4 a a1 a2, fun k k1 => by show H_X3_multiply y h' 153 k = _; rw [x5 k k1]; exact e5 k k1, ?_⟩
      · show TRW (H_X3_multiply y h') c u2 (v * (pwI y i * y))
        rw [← Int.mul_assoc]; exact x2
      · show MB (v * (pwI y i * y)) (m + (i + 1))
        rw [← Int.mul_assoc]; exact M)
    (by
      rintro ⟨x, h'⟩ ⟨i0, e1, -, e4, -, -⟩
      dsimp only at e1 e4
      subst e1
      exact ⟨hP n h' (Nat.le_refl _) e4 (fun z => absurd z (Nat.lt_irrefl n)), c2 h' e4⟩)
  obtain ⟨o, k0, k1, ⟨u', k2, k3⟩, k4, k5, k6⟩ := key
  exact ⟨o, u', k2, k3, k4, k5, k6⟩
theorem fA_rng {a b k : Int} (ha : 1 ≤ a ∧ a ≤ 20) (hb : 0 ≤ b ∧ b ≤ 9) (hk : 0 ≤ k ∧ k ≤ 9) : (0 ≤ b * k ∧ b * k ≤ 81) ∧ 1 ≤ a + b * k ∧ a + b * k ≤ 101 := by
  have h1 : 0 ≤ b * k := Int.mul_nonneg hb.1 hk.1
  have h2 : b * k ≤ 9 * 9 := Int.mul_le_mul hb.2 hk.2 hk.1 (by omega)
  omega
theorem mall_X {h : pH} {z : Int → Int} {a b c : Int} {n : Nat} (h1 : h 153 1 = c) (hc : c = 154 ∨ c = 155) (ha : 1 ≤ a ∧ a ≤ 20) (hb : 0 ≤ b ∧ b ≤ 9) (n60 : n ≤ 60) (hz : ∀ i : Int, 0 ≤ i → i < n → 0 ≤ z (500 + i) ∧ z (500 + i) ≤ 9) (l1 : ∀ k : Int, 0 ≤ k → k < 10 → h 44 k = (cF z k n : Int) ∧ h 45 k = (cS z k n : Int)) :
    P_X3_multiplyAll 43 a b h ∧ (∃ u : Nat, TRW (H_X3_multiplyAll 43 a b h) c u (PM z a b n)) ∧ (∀ a', a' ≠ 153 → a' ≠ c → H_X3_multiplyAll 43 a b h a' = h a') ∧ (∀ k : Int, k ≠ 2 → H_X3_multiplyAll 43 a b h 153 k = h 153 k) ∧ MB (PM z a b n) 60 := by
  obtain ⟨hi, ehi⟩ : ∃ x, x = pm_upd (s_X3_multiplyAll_1 h) 153 2 1 := ⟨_, rfl⟩
  have hc3 : c ≠ 153 := by omega
  have e1 : hi = pm_upd (pm_upd (fx_fill h c 13 0) c 0 1) 153 2 1 := by
    rw [ehi]; unfold s_X3_multiplyAll_1
    rw [h1, fl_cell _ (fun y => hc3 y.symm), h1]
  have T0 : TRW hi c 1 1 := by
    refine ⟨by omega, by omega, fun i i1 i2 => ?_, fun i i1 i2 => ?_, ?_⟩
    · rw [e1, up_cell _ hc3, show i = 0 by omega, up_eq]; omega
    · rw [e1, up_cell _ hc3, up_pl _ (by omega), fl_app, if_pos (by omega)]
    · show 0 + hi c ((0 : Nat) : Int) * 1 = 1
      rw [e1, up_cell _ hc3, show ((0 : Nat) : Int) = 0 from rfl, up_eq]; omega
  have f0 : ∀ a', a' ≠ 153 → a' ≠ c → hi a' = h a' := fun a' q1 q2 => by rw [e1, up_cell _ q1, up_cell _ q2, fl_cell _ q2]
  have f1 : ∀ k : Int, k ≠ 2 → hi 153 k = h 153 k := fun k q => by rw [e1, up_pl _ q, up_cell _ (fun y => hc3 y.symm), fl_cell _ (fun y => hc3 y.symm)]
  have tl : ∀ K : Nat, K ≤ 10 → tot z n K ≤ 60 := fun K hK => by have := tot_le z K n (fun i i1 i2 => (hz i i1 i2).1); omega
  have key := fx_rule (σ := Int × pH) (c := fun s => C_X3_multiplyAll_14 43 a b s.1 s.2) (f := fun s => B_X3_multiplyAll_14 43 a b s.1 s.2) (P := fun s => P_X3_multiplyAll_14 43 a b s.1 s.2) (s0 := (0, hi)) 10
    (fun K s => K ≤ 10 ∧ s.1 = (K : Int) ∧ (∃ u : Nat, TRW s.2 c u (PXK z a b n K) ∧ s.2 153 2 = u) ∧ (∀ a', a' ≠ 153 → a' ≠ c → s.2 a' = h a') ∧ (∀ k : Int, k ≠ 2 → s.2 153 k = h 153 k) ∧ MB (PXK z a b n K) (tot z n K))
    ⟨by omega, rfl, ⟨1, T0, by show hi 153 2 = _; rw [e1, up_eq]; rfl⟩, f0, f1, ⟨Int.le_refl _, Int.le_refl _⟩⟩
    (by
      rintro K ⟨x, h'⟩ hK ⟨i0, e1, ⟨u, e2, e3⟩, e4, e5, e6⟩
      dsimp only at e1 e2 e3 e4 e5 e6
      subst e1
      have r := fA_rng ha hb (show 0 ≤ (K : Int) ∧ (K : Int) ≤ 9 by omega)
      have lk := l1 K (by omega) (by omega)
      have t1 := tl (K + 1) (by omega)
      have t2 : tot z n (K + 1) = tot z n K + cF z K n + cS z K n := rfl
      have hF : ∀ h2 : pH, (∀ a', a' ≠ 153 → a' ≠ c → h2 a' = h' a') → h2 (43 + 1) (K : Int) = (cF z K n : Int) := fun h2 q => by
        rw [q (43 + 1) (by omega) (by omega), e4 _ (by omega) (by omega)]; exact lk.1
      have hS : ∀ h2 : pH, (∀ a', a' ≠ 153 → a' ≠ c → h2 a' = h' a') → h2 (43 + 2) (K : Int) = (cS z K n : Int) := fun h2 q => by
        rw [q (43 + 2) (by omega) (by omega), e4 _ (by omega) (by omega)]; exact lk.2
      have A := pow_loop (cnd := fun s => C_X3_multiplyAll_25 43 a b K (a + b * K) s.1 s.2) (f := fun s => B_X3_multiplyAll_25 43 a b K (a + b * K) s.1 s.2) (P := fun s => P_X3_multiplyAll_25 43 a b K (a + b * K) s.1 s.2) (hh := h') (y := a + b * K) (cF z K n) e2 (by rw [e5 1 (by omega)]; exact h1) e3 hc3 e6 (by omega) (by omega)
        (fun i h2 i1 q => by show (i : Int) < h2 (43 + 1) K; rw [hF h2 q]; omega) (fun h2 q => by show ¬ ((cF z K n : Int) < h2 (43 + 1) K); rw [hF h2 q]; omega) (fun i h2 => rfl)
        (fun i h2 i1 q p => ⟨by omega, fun w => by
          have w' : (i : Int) < h2 (43 + 1) K := w
          rw [hF h2 q] at w'
          exact ⟨p (by omega), by show fx_i ((i : Int) + 1); unfold fx_i; omega⟩⟩)
      obtain ⟨A1, u2, A2, A3, A4, A5, A6⟩ := A
      have eS3 : (L_X3_multiplyAll_25 43 a b K (a + b * K) 0 h').2 = s_X3_multiplyAll_3 43 a b K h' := rfl
      have A2 : TRW (s_X3_multiplyAll_3 43 a b K h') c u2 (PXK z a b n K * pwI (a + b * K) (cF z K n)) := A2
      have A3 : s_X3_multiplyAll_3 43 a b K h' 153 2 = u2 := A3
      have A4 : ∀ a', a' ≠ 153 → a' ≠ c → s_X3_multiplyAll_3 43 a b K h' a' = h' a' := A4
      have A5 : ∀ k : Int, k ≠ 2 → s_X3_multiplyAll_3 43 a b K h' 153 k = h' 153 k := A5
      have Bq := pow_loop (cnd := fun s => C_X3_multiplyAll_38 43 a b K (a + b * K) s.1 s.2) (f := fun s => B_X3_multiplyAll_38 43 a b K (a + b * K) s.1 s.2) (P := fun s => P_X3_multiplyAll_38 43 a b K (a + b * K) s.1 s.2) (hh := s_X3_multiplyAll_3 43 a b K h') (y := 1000 - (a + b * K)) (cS z K n) A2 (by rw [A5 1 (by omega), e5 1 (by omega)]; exact h1) A3 hc3 A6 (by omega) (by omega)
        (fun i h2 i1 q => by show (i : Int) < h2 (43 + 2) K; rw [hS h2 (fun a' q1 q2 => by rw [q a' q1 q2, A4 a' q1 q2])]; omega) (fun h2 q => by show ¬ ((cS z K n : Int) < h2 (43 + 2) K); rw [hS h2 (fun a' q1 q2 => by rw [q a' q1 q2, A4 a' q1 q2])]; omega) (fun i h2 => rfl)
        (fun i h2 i1 q p => ⟨by omega, fun w => by
          have w' : (i : Int) < h2 (43 + 2) K := w
          rw [hS h2 (fun a' q1 q2 => by rw [q a' q1 q2, A4 a' q1 q2])] at w'
          exact ⟨by unfold fx_i; omega, p (by omega), by show fx_i ((i : Int) + 1); unfold fx_i; omega⟩⟩)
      obtain ⟨B1, u3, B2, B3, B4, B5, B6⟩ := Bq
      refine ⟨fun _ => ⟨by show fx_i (b * K); unfold fx_i; omega, by show fx_i (a + b * K); unfold fx_i; omega, A1, B1, by show fx_i ((K : Int) + 1); unfold fx_i; omega⟩, by show (K : Int) < 10; omega, by omega, by show (K : Int) + 1 = _; omega, ⟨u3, B2, B3⟩, fun a' q1 q2 => ?_, fun k q => ?_, ?_⟩
      · show s_X3_multiplyAll_5 43 a b K h' a' = _
        have := B4 a' q1 q2
        rw [show s_X3_multiplyAll_5 43 a b K h' a' = s_X3_multiplyAll_3 43 a b K h' a' from this, A4 a' q1 q2]; exact e4 a' q1 q2
      · show s_X3_multiplyAll_5 43 a b K h' 153 k = _
        rw [show s_X3_multiplyAll_5 43 a b K h' 153 k = s_X3_multiplyAll_3 43 a b K h' 153 k from B5 k q, A5 k q]; exact e5 k q
      · rw [t2]; exact B6)
    (by
      rintro ⟨x, h'⟩ ⟨i0, e1, -⟩
      dsimp only at e1
      subst e1
      exact ⟨fun w => by have w' : ((10 : Nat) : Int) < 10 := w; omega, by show ¬ (((10 : Nat) : Int) < 10); omega⟩)
  obtain ⟨o, k0, k1, ⟨u, k2, k3⟩, k4, k5, k6⟩ := key
  rw [PXK_PM z a b n hz] at k2 k6
  have eH : H_X3_multiplyAll 43 a b h = (L_X3_multiplyAll_14 43 a b 0 hi).2 := by rw [ehi]; rfl
  rw [eH]
  refine ⟨?_, ⟨u, k2⟩, k4, k5, ⟨k6.1, ?_⟩⟩
  · show O_X3_multiplyAll_14 43 a b 0 (pm_upd (s_X3_multiplyAll_1 h) 153 2 1)
    rw [← ehi]; exact o
  · have := bp_mono (tot z n 10) 60 (tl 10 (by omega))
    have := k6.2
    omega
theorem TRW_13 {h : pH} {c v : Int} {u : Nat} (t : TRW h c u v) : (∀ i : Int, 0 ≤ i → i < 13 → 0 ≤ h c i ∧ h c i < 1125899906842624) ∧ vl 1125899906842624 (h c) 13 = v := by
  obtain ⟨t1, t2, t3, t4, t5⟩ := t
  refine ⟨fun i i1 i2 => ?_, ?_⟩
  · by_cases y : i < u
    · exact t3 i i1 y
    · rw [t4 i (by omega) i2]; omega
  · have E : ∀ m : Nat, u + m ≤ 13 → vl 1125899906842624 (h c) (u + m) = v := fun m => by
      induction m with
      | zero => intro _; exact t5
      | succ m ih =>
        intro hm
        show vl 1125899906842624 (h c) (u + m) + h c ((u + m : Nat) : Int) * bp 1125899906842624 (u + m) = v
        rw [ih (by omega), t4 _ (by omega) (by omega), Int.zero_mul]; omega
    have := E (13 - u) (by omega)
    rw [show u + (13 - u) = 13 by omega] at this
    exact this
/-- the model: a row set to 1, and all multiplied -/
theorem mall_M {g : pH} {a b x1 : Int} {n : Nat} (gn : g 249 19 = n) (ha : 1 ≤ a ∧ a ≤ 20) (hb : 0 ≤ b ∧ b ≤ 9) (n60 : n ≤ 60) (hz : ∀ i : Int, 0 ≤ i → i < n → 0 ≤ g 249 (500 + i) ∧ g 249 (500 + i) ≤ 9) :
    O_X12_fitted_21 a x1 b 0 g ∧ O_X12_fitted_37 a x1 b 0 (s_X12_fitted_3 a x1 b g) ∧ WRW (s_X12_fitted_6 a x1 b g) 268 (PM (g 249) a b n) ∧ (∀ a', a' ≠ 268 → s_X12_fitted_6 a x1 b g a' = g a') := by
  have K1 := fx_rule (σ := Int × pH) (c := fun s => C_X12_fitted_21 a x1 b s.1 s.2) (f := fun s => B_X12_fitted_21 a x1 b s.1 s.2) (P := fun s => P_X12_fitted_21 a x1 b s.1 s.2) (s0 := (0, g)) 24
    (fun i s => i ≤ 24 ∧ s.1 = (i : Int) ∧ (∀ a', a' ≠ 268 → s.2 a' = g a') ∧ ∀ k : Int, 0 ≤ k → k < i → s.2 268 k = if k = 0 then 1 else 0)
    ⟨by omega, rfl, fun _ _ => rfl, fun k k1 k2 => by omega⟩
    (by
      rintro i ⟨x, h'⟩ hi ⟨i0, e1, e2, e3⟩
      dsimp only at e1 e2 e3
      subst e1
      refine ⟨fun _ => ⟨by show 0 ≤ (i : Int) ∧ (i : Int) < 24; omega, by show fx_i ((i : Int) + 1); unfold fx_i; omega⟩, by show (i : Int) < 24; omega, by omega, by show (i : Int) + 1 = _; omega, fun a' q => ?_, fun k k1 k2 => ?_⟩
      · show pm_upd h' 268 (i : Int) _ a' = _
        rw [up_cell _ q]; exact e2 a' q
      · show pm_upd h' 268 (i : Int) (s_X12_fitted_1 i) 268 k = _
        by_cases y : k = i
        · rw [y, up_eq]; rfl
        · rw [up_pl _ y]; exact e3 k k1 (by omega))
    (by
      rintro ⟨x, h'⟩ ⟨i0, e1, -⟩
      dsimp only at e1
      subst e1
      exact ⟨fun w => by have w' : ((24 : Nat) : Int) < 24 := w; omega, by show ¬ (((24 : Nat) : Int) < 24); omega⟩)
  obtain ⟨o1, -, -, w2, w3⟩ := K1
  obtain ⟨g3, eg3⟩ : ∃ x, x = s_X12_fitted_3 a x1 b g := ⟨_, rfl⟩
  have w2 : ∀ a', a' ≠ 268 → g3 a' = g a' := by rw [eg3]; exact w2
  have w3 : ∀ k : Int, 0 ≤ k → k < ((24 : Nat) : Int) → g3 268 k = if k = 0 then 1 else 0 := by rw [eg3]; exact w3
  have W0 : WRW g3 268 1 := by
    refine ⟨fun i i1 i2 => by rw [w3 i i1 (by omega)]; split <;> omega, ?_⟩
    have E : ∀ m : Nat, m ≤ 23 → vl 1000000000 (g3 268) (m + 1) = 1 := fun m => by
      induction m with
      | zero =>
        intro _
        show 0 + g3 268 ((0 : Nat) : Int) * 1 = 1
        rw [w3 _ (by omega) (by omega), if_pos (by omega)]; omega
      | succ m ih =>
        intro hm
        show vl 1000000000 (g3 268) (m + 1) + g3 268 ((m + 1 : Nat) : Int) * bp 1000000000 (m + 1) = 1
        rw [ih (by omega), w3 _ (by omega) (by omega), if_neg (by omega), Int.zero_mul]; omega
    exact E 23 (by omega)
  have fr : ∀ i : Int, 0 ≤ i → i < n → 1 ≤ fac (g 249) a b i ∧ fac (g 249) a b i ≤ 1000 ∧ (0 ≤ b * g 249 (500 + i) ∧ b * g 249 (500 + i) ≤ 81) := fun i i1 i2 => by
    have r := fA_rng ha hb (hz i i1 i2)
    unfold fac
    split <;> omega
  have K2 := fx_rule (σ := Int × pH) (c := fun s => C_X12_fitted_37 a x1 b s.1 s.2) (f := fun s => B_X12_fitted_37 a x1 b s.1 s.2) (P := fun s => P_X12_fitted_37 a x1 b s.1 s.2) (s0 := (0, g3)) n
    (fun i s => i ≤ n ∧ s.1 = (i : Int) ∧ WRW s.2 268 (PM (g 249) a b i) ∧ (∀ a', a' ≠ 268 → s.2 a' = g a') ∧ MB (PM (g 249) a b i) i)
    ⟨by omega, rfl, W0, w2, ⟨Int.le_refl _, Int.le_refl _⟩⟩
    (by
      rintro i ⟨x, h'⟩ hi ⟨i0, e1, e2, e3, e4⟩
      dsimp only at e1 e2 e3 e4
      subst e1
      have r := fr i (by omega) (by omega)
      have r0 := fA_rng ha hb (hz i (by omega) (by omega))
      have M := MB_mul e4 ⟨r.1, r.2.1⟩
      have eF : s_X12_fitted_4 a b i h' = fac (g 249) a b i := by
        unfold s_X12_fitted_4 fac
        rw [e3 249 (by omega)]
      obtain ⟨T1, T2, T3⟩ := times_M e2 ⟨r.1, r.2.1⟩ (MB_60 M (by omega)).2
      refine ⟨fun _ => ?_, ?_, by omega, by show (i : Int) + 1 = _; omega, ?_, fun a' q => ?_, M⟩
      · show (fx_i (500 + (i : Int))) ∧ (0 ≤ 500 + (i : Int) ∧ 500 + (i : Int) < 620) ∧ (fx_l (b * (h' 249 (500 + i)))) ∧ (fx_l (a + (b * (h' 249 (500 + i))))) ∧ (fx_i (560 + (i : Int))) ∧ (0 ≤ 560 + (i : Int) ∧ 560 + (i : Int) < 620) ∧ (((¬ h' 249 (560 + i) = 1) → ((fx_l (1000 - (a + (b * (h' 249 (500 + i))))))))) ∧ (P_X12_times (s_X12_fitted_4 a b i h') h') ∧ (fx_i ((i : Int) + 1))
        rw [eF, e3 249 (by omega)]
        refine ⟨by unfold fx_i; omega, by omega, by unfold fx_l; omega, by unfold fx_l; omega, by unfold fx_i; omega, by omega, fun _ => by unfold fx_l; omega, T1, by unfold fx_i; omega⟩
      · show (i : Int) < h' 249 19
        rw [e3 249 (by omega), gn]; omega
      · show WRW (H_X12_times (s_X12_fitted_4 a b i h') h') 268 _
        rw [eF]; exact T2
      · show H_X12_times (s_X12_fitted_4 a b i h') h' a' = _
        rw [eF, T3 a' q]; exact e3 a' q)
    (by
      rintro ⟨x, h'⟩ ⟨i0, e1, e2, e3, e4⟩
      dsimp only at e1 e3
      subst e1
      have z0 : ¬ ((n : Int) < h' 249 19) := by rw [e3 249 (by omega), gn]; omega
      exact ⟨fun w => absurd w z0, z0⟩)
  obtain ⟨o2, -, -, v2, v3, -⟩ := K2
  refine ⟨o1, by rw [← eg3]; exact o2, ?_, ?_⟩
  · unfold s_X12_fitted_6
    rw [← eg3]; exact v2
  · unfold s_X12_fitted_6
    rw [← eg3]; exact v3
/-- the model's best row kept -/
theorem keep_M (a b y1 : Int) (g : pH) : O_X12_fitted_90 a b y1 0 g ∧ (∀ a', a' ≠ 269 → (L_X12_fitted_90 a b y1 0 g).2 a' = g a') ∧ ∀ k : Int, 0 ≤ k → k < 24 → (L_X12_fitted_90 a b y1 0 g).2 269 k = g 268 k := by
  have K1 := fx_rule (σ := Int × pH) (c := fun s => C_X12_fitted_90 a b y1 s.1 s.2) (f := fun s => B_X12_fitted_90 a b y1 s.1 s.2) (P := fun s => P_X12_fitted_90 a b y1 s.1 s.2) (s0 := (0, g)) 24
    (fun i s => i ≤ 24 ∧ s.1 = (i : Int) ∧ (∀ a', a' ≠ 269 → s.2 a' = g a') ∧ ∀ k : Int, 0 ≤ k → k < i → s.2 269 k = g 268 k)
    ⟨by omega, rfl, fun _ _ => rfl, fun k k1 k2 => by omega⟩
    (by
      rintro i ⟨x, h'⟩ hi ⟨i0, e1, e2, e3⟩
      dsimp only at e1 e2 e3
      subst e1
      refine ⟨fun _ => ⟨by show 0 ≤ (i : Int) ∧ (i : Int) < 24; omega, by show fx_i ((i : Int) + 1); unfold fx_i; omega⟩, by show (i : Int) < 24; omega, by omega, by show (i : Int) + 1 = _; omega, fun a' q => ?_, fun k k1 k2 => ?_⟩
      · show pm_upd h' 269 (i : Int) _ a' = _
        rw [up_cell _ q]; exact e2 a' q
      · show pm_upd h' 269 (i : Int) (h' 268 i) 269 k = _
        by_cases y : k = i
        · rw [y, up_eq, e2 268 (by omega)]
        · rw [up_pl _ y]; exact e3 k k1 (by omega))
    (by
      rintro ⟨x, h'⟩ ⟨i0, e1, -⟩
      dsimp only at e1
      subst e1
      exact ⟨fun w => by have w' : ((24 : Nat) : Int) < 24 := w; omega, by show ¬ (((24 : Nat) : Int) < 24); omega⟩)
  exact ⟨K1.1, K1.2.2.2.1, fun k k1 k2 => K1.2.2.2.2 k k1 (by omega)⟩
noncomputable def FIT (h : pH) : Prop := (h 153 0 = 154 ∧ h 153 1 = 155) ∨ (h 153 0 = 155 ∧ h 153 1 = 154)
/-- while the likeliest are sought -/
noncomputable def JJ (h g : pH) (ans : Int) (hh : pH) (best : Int) (gg : pH) : Prop := ans = best ∧ FIT hh ∧ (∀ a, (a < 153 ∨ 155 < a) → hh a = h a) ∧ (∀ a, a ≠ 268 → a ≠ 269 → gg a = g a) ∧ (∀ i : Int, 0 ≤ i → i < 13 → 0 ≤ hh (hh 153 0) i ∧ hh (hh 153 0) i < 1125899906842624) ∧
  ((ans = -1 ∧ vl 1125899906842624 (hh (hh 153 0)) 13 = 0) ∨ (100 ≤ ans ∧ (∀ i : Int, 0 ≤ i → i < 24 → 0 ≤ gg 269 i ∧ gg 269 i < 1000000000) ∧ vl 1125899906842624 (hh (hh 153 0)) 13 = vl 1000000000 (gg 269) 24))
theorem fit_step {h g : pH} {n : Nat} (gn : g 249 19 = n) (n60 : n ≤ 60) (hz : ∀ i : Int, 0 ≤ i → i < n → 0 ≤ g 249 (500 + i) ∧ g 249 (500 + i) ≤ 9) (l1 : ∀ k : Int, 0 ≤ k → k < 10 → h 44 k = (cF (g 249) k n : Int) ∧ h 45 k = (cS (g 249) k n : Int))
    {a b x2 x1 : Int} {hh gg : pH} (ha : 1 ≤ a ∧ a ≤ 20) (hb : 0 ≤ b ∧ b ≤ 9) (j : JJ h g x2 hh x1 gg) :
    P_X3_likeliest_13 43 a x2 b hh ∧ P_X12_fitted_16 a x1 b gg ∧ JJ h g (s_X3_likeliest_4 43 a x2 b hh) (s_X3_likeliest_3 43 a b hh) (s_X12_fitted_10 a x1 b gg) (s_X12_fitted_9 a x1 b gg) := by
  obtain ⟨j1, j2, j3, j4, j5, j6⟩ := j
  subst j1
  obtain ⟨c, d, e0, e1, hc, hd, hcd⟩ : ∃ c d, hh 153 0 = d ∧ hh 153 1 = c ∧ (c = 154 ∨ c = 155) ∧ (d = 154 ∨ d = 155) ∧ c ≠ d := by
    rcases j2 with ⟨q1, q2⟩ | ⟨q1, q2⟩
    · exact ⟨155, 154, q1, q2, Or.inr rfl, Or.inl rfl, by omega⟩
    · exact ⟨154, 155, q1, q2, Or.inl rfl, Or.inr rfl, by omega⟩
  rw [e0] at j5 j6
  obtain ⟨X1, ⟨u, X2⟩, X3, X4, X5⟩ := mall_X (h := hh) (z := g 249) (a := a) (b := b) (n := n) e1 hc ha hb n60 hz (fun k k1 k2 => by rw [j3 44 (by omega), j3 45 (by omega)]; exact l1 k k1 k2)
  obtain ⟨M1, M2, M3, M4⟩ := mall_M (g := gg) (a := a) (b := b) (x1 := x2) (n := n) (by rw [j4 249 (by omega) (by omega)]; exact gn) ha hb n60 (fun i i1 i2 => by rw [j4 249 (by omega) (by omega)]; exact hz i i1 i2)
  rw [j4 249 (by omega) (by omega)] at M3
  obtain ⟨V, eV⟩ : ∃ V, V = PM (g 249) a b n := ⟨_, rfl⟩
  rw [← eV] at X2 X5 M3
  obtain ⟨h3, eh3⟩ : ∃ x, x = H_X3_multiplyAll 43 a b hh := ⟨_, rfl⟩
  obtain ⟨g6, eg6⟩ : ∃ x, x = s_X12_fitted_6 a x2 b gg := ⟨_, rfl⟩
  rw [← eh3] at X2 X3 X4
  rw [← eg6] at M3 M4
  obtain ⟨T1, T2⟩ := TRW_13 X2
  have k0 : h3 153 0 = d := by rw [X4 0 (by omega)]; exact e0
  have k1 : h3 153 1 = c := by rw [X4 1 (by omega)]; exact e1
  have kd : h3 d = hh d := X3 d (by omega) (fun y => hcd y.symm)
  obtain ⟨C1, C2⟩ := cmp_X k0 k1 T1 (by rw [kd]; exact j5)
  rw [kd, T2] at C2
  obtain ⟨K1, K2, K3⟩ := keep_M a b (100 * a + b) g6
  have ab : fx_i (100 * a) ∧ fx_i (100 * a + b) := ⟨by unfold fx_i; omega, by unfold fx_i; omega⟩
  have V1 := X5.1
  -- a better one
  have BET : vl 1125899906842624 (hh d) 13 < V → JJ h g (100 * a + b) (s_X3_likeliest_2 43 a b hh) (100 * a + b) (s_X12_fitted_8 a x2 b gg) := by
    intro hlt
    have eS : s_X3_likeliest_2 43 a b hh = pm_upd (pm_upd h3 153 0 c) 153 1 d := by
      unfold s_X3_likeliest_2 s_X3_likeliest_1
      rw [← eh3, k0, k1]
    have s0 : s_X3_likeliest_2 43 a b hh 153 0 = c := by rw [eS, up_pl _ (by omega), up_eq]
    have s1 : s_X3_likeliest_2 43 a b hh 153 1 = d := by rw [eS, up_eq]
    have sc : ∀ a', a' ≠ 153 → s_X3_likeliest_2 43 a b hh a' = h3 a' := fun a' q => by rw [eS, up_cell _ q, up_cell _ q]
    have e8 : s_X12_fitted_8 a x2 b gg = (L_X12_fitted_90 a b (100 * a + b) 0 g6).2 := by unfold s_X12_fitted_8; rw [← eg6]
    refine ⟨rfl, ?_, fun a' q => ?_, fun a' q1 q2 => ?_, ?_, Or.inr ⟨by omega, ?_, ?_⟩⟩
    · unfold FIT; rw [s0, s1]; omega
    · rw [sc a' (by omega), X3 a' (by omega) (by omega)]; exact j3 a' q
    · rw [e8, K2 a' q2, M4 a' q1]; exact j4 a' q1 q2
    · rw [s0, sc c (by omega)]; exact T1
    · rw [e8]; exact fun i i1 i2 => by rw [K3 i i1 i2]; exact M3.1 i i1 i2
    · rw [s0, sc c (by omega), T2, e8, vl_cg 24 (fun i i1 i2 => K3 i i1 i2)]; exact M3.2.symm
  -- none better
  have NOT : ¬ vl 1125899906842624 (hh d) 13 < V → ¬ x2 = -1 → JJ h g x2 h3 x2 g6 := by
    intro hge hx
    have j7 : 100 ≤ x2 ∧ (∀ i : Int, 0 ≤ i → i < 24 → 0 ≤ gg 269 i ∧ gg 269 i < 1000000000) ∧ vl 1125899906842624 (hh d) 13 = vl 1000000000 (gg 269) 24 := by
      rcases j6 with q | q
      · exact absurd q.1 hx
      · exact q
    refine ⟨rfl, ?_, fun a' q => ?_, fun a' q1 q2 => ?_, ?_, Or.inr ⟨j7.1, ?_, ?_⟩⟩
    · unfold FIT; rw [k0, k1]; omega
    · rw [X3 a' (by omega) (by omega)]; exact j3 a' q
    · rw [M4 a' q1]; exact j4 a' q1 q2
    · rw [k0, kd]; exact j5
    · rw [M4 269 (by omega)]; exact j7.2.1
    · rw [k0, kd, M4 269 (by omega)]; exact j7.2.2
  have PX : P_X3_likeliest_13 43 a x2 b hh := fun _ => ⟨X1, by rw [← eh3]; exact C1, fun _ => ab, by unfold fx_i; omega⟩
  by_cases n1 : x2 = -1
  · have v0 : vl 1125899906842624 (hh d) 13 = 0 := by
      rcases j6 with q | q
      · exact q.2
      · omega
    have hlt : vl 1125899906842624 (hh d) 13 < V := by omega
    have c1 : F_X3_isTriedGreater (H_X3_multiplyAll 43 a b hh) = 1 := by rw [← eh3, C2, if_pos hlt]
    refine ⟨PX, fun _ => ⟨M1, M2, ⟨fun _ => ⟨ab.1, ab.2, by rw [← eg6]; exact K1⟩, fun y => absurd n1 y⟩, by unfold fx_i; omega⟩, ?_⟩
    unfold s_X3_likeliest_4 s_X3_likeliest_3 s_X12_fitted_10 s_X12_fitted_9
    rw [c1, if_neg (by omega), if_neg (by omega), if_pos n1, if_pos n1]
    exact BET hlt
  · have j7 : 100 ≤ x2 ∧ (∀ i : Int, 0 ≤ i → i < 24 → 0 ≤ gg 269 i ∧ gg 269 i < 1000000000) ∧ vl 1125899906842624 (hh d) 13 = vl 1000000000 (gg 269) 24 := by
      rcases j6 with q | q
      · exact absurd q.1 n1
      · exact q
    obtain ⟨D1, D2⟩ := cmp_M (g := g6) M3.1 (by rw [M4 269 (by omega)]; exact j7.2.1)
    rw [M3.2, M4 269 (by omega), ← j7.2.2] at D2
    have PMo : P_X12_fitted_16 a x2 b gg := fun _ => ⟨M1, M2, ⟨fun y => absurd y n1, fun _ => ⟨by rw [← eg6]; exact D1, fun _ => ⟨ab.1, ab.2, by rw [← eg6]; exact K1⟩⟩⟩, by unfold fx_i; omega⟩
    refine ⟨PX, PMo, ?_⟩
    unfold s_X3_likeliest_4 s_X3_likeliest_3 s_X12_fitted_10 s_X12_fitted_9
    rw [← eh3, C2, ← eg6, D2]
    by_cases hlt : vl 1125899906842624 (hh d) 13 < V
    · rw [if_pos hlt, if_neg (show ¬ (1 : Int) = 0 by omega), if_neg (show ¬ (1 : Int) = 0 by omega), if_neg n1, if_neg (show ¬ (1 : Int) = 0 by omega), if_neg n1]
      exact BET hlt
    · rw [if_neg hlt, if_pos rfl, if_pos rfl, if_neg n1, if_pos rfl, if_neg n1]
      exact NOT hlt n1
theorem m_fitted {h g : pH} (al : AL h g) (ft : FIT h) : P_X11_fitted h ∧ P_X12_fitted g ∧ F_X11_fitted h = F_X12_fitted g ∧ AL (H_X11_fitted h) (H_X12_fitted g) ∧ FIT (H_X11_fitted h) ∧ (∀ a, 248 ≤ a → H_X11_fitted h a = h a) ∧ (∀ a, a < 248 → H_X12_fitted g a = g a) := by
  obtain ⟨⟨nm, nw, q, n9⟩, ai, ab, ad⟩ := id al
  obtain ⟨⟨l0, l1, l2, l3, lk⟩, y1, y2, y3, y4, y5, y6, y7, y8⟩ := id q.2.2.2.2.1
  have l3 : h 43 3 = g 249 19 := l3
  obtain ⟨n, en⟩ : ∃ n : Nat, g 249 19 = n := ⟨(g 249 19).toNat, by omega⟩
  have hn : (g 249 19).toNat = n := by omega
  have L1 : ∀ k : Int, 0 ≤ k → k < 10 → h 44 k = (cF (g 249) k n : Int) ∧ h 45 k = (cS (g 249) k n : Int) := fun k k1 k2 => by
    have w := lk k k1 k2
    rw [hn, cF_zs, cS_zs] at w
    exact w
  have hz : ∀ i : Int, 0 ≤ i → i < n → 0 ≤ g 249 (500 + i) ∧ g 249 (500 + i) ≤ 9 := fun i i1 i2 => by have := y8 i i1 (by omega); exact ⟨this.1, this.2.1⟩
  unfold P_X11_fitted F_X11_fitted s_X11_fitted_1 H_X11_fitted
  by_cases n0 : g 249 19 = 0
  · -- nothing told
    have U := fx_un_f (σ := Int × Int × pH) (c := fun s => C_X12_fitted_4 s.1 s.2.1 s.2.2) (f := fun s => B_X12_fitted_4 s.1 s.2.1 s.2.2) (P := fun s => P_X12_fitted_4 s.1 s.2.1 s.2.2) (s := (-1, 1, g)) (fun w => by have w' : 0 < g 249 19 := w.2; omega) (fun w => by have w' : 0 < g 249 19 := w.2; omega)
    have e : L_X12_fitted_4 (-1) 1 g = (-1, 1, g) := U.2
    have eF : F_X12_fitted g = -1 := by unfold F_X12_fitted; rw [e]
    have eH : H_X12_fitted g = g := by unfold H_X12_fitted; rw [e]
    rw [l3, if_pos n0, if_pos n0, eF, eH]
    exact ⟨fun y => absurd n0 y, U.1, rfl, al, ft, fun _ _ => rfl, fun _ _ => rfl⟩
  · rw [l3, if_neg n0, if_neg n0]
    obtain ⟨d, ed⟩ : ∃ d, d = h 153 0 := ⟨_, rfl⟩
    have hd : d = 154 ∨ d = 155 := by unfold FIT at ft; omega
    obtain ⟨h0, eh0⟩ : ∃ x, x = fx_fill h (h 153 0) 13 0 := ⟨_, rfl⟩
    have f0 : ∀ a, a ≠ d → h0 a = h a := fun a w => by rw [eh0, ← ed, fl_cell _ w]
    have zr : ∀ i : Int, 0 ≤ i → i < 13 → h0 d i = 0 := fun i i1 i2 => by rw [eh0, ← ed, fl_app, if_pos ⟨rfl, i1, i2⟩]
    have h00 : h0 153 0 = d := by rw [f0 153 (by omega)]; exact ed.symm
    have J0 : JJ h g (-1) h0 (-1) g := by
      refine ⟨rfl, ?_, fun a w => f0 a (by omega), fun _ _ _ => rfl, ?_, Or.inl ⟨rfl, ?_⟩⟩
      · unfold FIT at ft ⊢
        rw [f0 153 (by omega)]; exact ft
      · rw [h00]; exact fun i i1 i2 => by rw [zr i i1 i2]; omega
      · rw [h00]
        have E : ∀ m : Nat, m ≤ 13 → vl 1125899906842624 (h0 d) m = 0 := fun m => by
          induction m with
          | zero => intro _; rfl
          | succ m ih =>
            intro hm
            show vl 1125899906842624 (h0 d) m + h0 d (m : Int) * bp 1125899906842624 m = 0
            rw [ih (by omega), zr _ (by omega) (by omega), Int.zero_mul]; rfl
        exact E 13 (Nat.le_refl _)
    -- one A
    have INN : ∀ (a x : Int) (hh gg : pH), 1 ≤ a ∧ a ≤ 20 → JJ h g x hh x gg → O_X3_likeliest_13 43 a x 0 hh ∧ O_X12_fitted_16 a x 0 gg ∧ JJ h g (L_X3_likeliest_13 43 a x 0 hh).1 (L_X3_likeliest_13 43 a x 0 hh).2.2 (L_X12_fitted_16 a x 0 gg).1 (L_X12_fitted_16 a x 0 gg).2.2 := by
      intro a x hh gg ha j
      have R := fx_rel (σ := Int × Int × pH) (τ := Int × Int × pH) (c := fun s => C_X3_likeliest_13 43 a s.1 s.2.1 s.2.2) (f := fun s => B_X3_likeliest_13 43 a s.1 s.2.1 s.2.2) (P := fun s => P_X3_likeliest_13 43 a s.1 s.2.1 s.2.2) (s0 := (x, 0, hh))
        (d := fun s => C_X12_fitted_16 a s.1 s.2.1 s.2.2) (g := fun s => B_X12_fitted_16 a s.1 s.2.1 s.2.2) (P' := fun s => P_X12_fitted_16 a s.1 s.2.1 s.2.2) (t0 := (x, 0, gg)) 10
        (fun i s t => i ≤ 10 ∧ s.2.1 = (i : Int) ∧ t.2.1 = (i : Int) ∧ JJ h g s.1 s.2.2 t.1 t.2.2) ⟨by omega, rfl, rfl, j⟩
        (by
          rintro i ⟨x2, b, h'⟩ ⟨x1, b', g'⟩ hi ⟨i0, e1, e2, e3⟩
          dsimp only at e1 e2 e3
          subst e1 e2
          obtain ⟨S1, S2, S3⟩ := fit_step en (by omega) hz L1 ha (show 0 ≤ (i : Int) ∧ (i : Int) ≤ 9 by omega) e3
          exact ⟨⟨S1, by show (i : Int) ≤ 9; omega⟩, ⟨S2, by show (i : Int) < 10; omega⟩, by omega, by show (i : Int) + 1 = _; omega, by show (i : Int) + 1 = _; omega, S3⟩)
        (by
          rintro ⟨x2, b, h'⟩ ⟨x1, b', g'⟩ ⟨i0, e1, e2, e3⟩
          dsimp only at e1 e2
          subst e1 e2
          exact ⟨⟨fun w => by have w' : ((10 : Nat) : Int) ≤ 9 := w; omega, by show ¬ (((10 : Nat) : Int) ≤ 9); omega⟩, ⟨fun w => by have w' : ((10 : Nat) : Int) < 10 := w; omega, by show ¬ (((10 : Nat) : Int) < 10); omega⟩⟩)
      exact ⟨R.1, R.2.1, R.2.2.2.2.2⟩
    have R := fx_rel (σ := Int × Int × pH) (τ := Int × Int × pH) (c := fun s => C_X3_likeliest_8 43 s.1 s.2.1 s.2.2) (f := fun s => B_X3_likeliest_8 43 s.1 s.2.1 s.2.2) (P := fun s => P_X3_likeliest_8 43 s.1 s.2.1 s.2.2) (s0 := (-1, 1, h0))
      (d := fun s => C_X12_fitted_4 s.1 s.2.1 s.2.2) (g := fun s => B_X12_fitted_4 s.1 s.2.1 s.2.2) (P' := fun s => P_X12_fitted_4 s.1 s.2.1 s.2.2) (t0 := (-1, 1, g)) 20
      (fun i s t => i ≤ 20 ∧ s.2.1 = (i : Int) + 1 ∧ t.2.1 = (i : Int) + 1 ∧ JJ h g s.1 s.2.2 t.1 t.2.2) ⟨by omega, rfl, rfl, J0⟩
      (by
        rintro i ⟨x2, a, h'⟩ ⟨x1, a', g'⟩ hi ⟨i0, e1, e2, e3⟩
        dsimp only at e1 e2 e3
        subst e1 e2
        have ex : x2 = x1 := e3.1
        subst ex
        have tg : g' 249 19 = g 249 19 := by rw [e3.2.2.2.1 249 (by omega) (by omega)]
        obtain ⟨S1, S2, S3⟩ := INN ((i : Int) + 1) x2 h' g' (by omega) e3
        exact ⟨⟨fun _ => ⟨S1, by show fx_i ((i : Int) + 1 + 1); unfold fx_i; omega⟩, by show (i : Int) + 1 ≤ 20; omega⟩, ⟨fun _ => ⟨S2, by show fx_i ((i : Int) + 1 + 1); unfold fx_i; omega⟩, by show (i : Int) + 1 ≤ 20 ∧ 0 < g' 249 19; rw [tg]; omega⟩, by omega, by show (i : Int) + 1 + 1 = _; omega, by show (i : Int) + 1 + 1 = _; omega, S3⟩)
      (by
        rintro ⟨x2, a, h'⟩ ⟨x1, a', g'⟩ ⟨i0, e1, e2, e3⟩
        dsimp only at e1 e2
        subst e1 e2
        exact ⟨⟨fun w => by have w' : ((20 : Nat) : Int) + 1 ≤ 20 := w; omega, by show ¬ (((20 : Nat) : Int) + 1 ≤ 20); omega⟩, ⟨fun w => by have w' : ((20 : Nat) : Int) + 1 ≤ 20 := w.1; omega, fun w => by have w' : ((20 : Nat) : Int) + 1 ≤ 20 := w.1; omega⟩⟩)
    obtain ⟨r1, r2, -, -, -, j1, j2, j3, j4, -⟩ := R
    have eHX : H_X3_likeliest 43 h = (L_X3_likeliest_8 43 (-1) 1 h0).2.2 := by rw [eh0]; rfl
    have eHM : H_X12_fitted g = (L_X12_fitted_4 (-1) 1 g).2.2 := rfl
    have j1 : (L_X3_likeliest_8 43 (-1) 1 h0).1 = (L_X12_fitted_4 (-1) 1 g).1 := j1
    have j2 : FIT (H_X3_likeliest 43 h) := by rw [eHX]; exact j2
    have j3 : ∀ a, (a < 153 ∨ 155 < a) → H_X3_likeliest 43 h a = h a := by rw [eHX]; exact j3
    have j4 : ∀ a, a ≠ 268 → a ≠ 269 → H_X12_fitted g a = g a := j4
    refine ⟨fun _ => ?_, r2, ?_, ⟨?_, fun i i1 i2 => ?_, ?_, fun dd d1 d2 => ?_⟩, j2, fun a w => j3 a (by omega), fun a w => j4 a (by omega) (by omega)⟩
    · show O_X3_likeliest_8 43 (-1) 1 (fx_fill h (h 153 0) 13 0)
      rw [← eh0]; exact r1
    · show (L_X3_likeliest_8 43 (-1) 1 (fx_fill h (h 153 0) 13 0)).1 = _
      rw [← eh0]; exact j1
    · rw [j4 249 (by omega) (by omega)]
      exact hal_cg al.1 (fun a e1 e2 => j3 a (by omega)) (fun _ _ _ => rfl)
    · rw [j3 94 (by omega), j4 254 (by omega) (by omega), j4 _ (by omega) (by omega)]
      obtain ⟨p1, p2, p3⟩ := ai i i1 i2
      exact ⟨p1, p2, fun w => hal_cg (p3 w) (fun a e1 e2 => j3 a (by omega)) (fun _ _ _ => rfl)⟩
    · unfold BOK
      rw [j3 99 (by omega), j3 146 (by omega), j4 248 (by omega) (by omega), j4 253 (by omega) (by omega), j4 264 (by omega) (by omega)]
      obtain ⟨b1, b2, b3, b4, b5, b6, b7, b8⟩ := id ab
      exact ⟨b1, b2, b3, b4, b5, b6, fun w => hal_cg (b7 w) (fun a e1 e2 => j3 a (by omega)) (fun _ _ _ => rfl), b8⟩
    · rw [j3 96 (by omega), j3 97 (by omega), j3 98 (by omega), j4 270 (by omega) (by omega), j4 271 (by omega) (by omega), j4 272 (by omega) (by omega), j4 273 (by omega) (by omega)]
      exact ad dd d1 d2
