/-! ODDS FITTED. -/
theorem cmp_loop (f g : Int → Int) (B : Int → Int × Int) (Pp : Int → Prop) (N : Nat) (hB : ∀ x : Int, B x = if x < 0 then (1, x) else if f x = g x then (0, x + (-1)) else (2, x)) (hP : ∀ x : Int, -1 ≤ x → x < N → Pp x) : ∀ k : Nat, k ≤ N → (∀ i : Int, k ≤ i → i < N → f i = g i) →
    fx_ok (σ := Int × Int) (fun s => s.1 = 0) (fun s => B s.2) (fun s => s.1 = 0 → Pp s.2) (0, (k : Int) - 1) ∧
    (((fx_wh (σ := Int × Int) (fun s => s.1 = 0) (fun s => B s.2) (0, (k : Int) - 1)).1 = 1 ∧ ∀ i : Int, 0 ≤ i → i < N → f i = g i) ∨
     ((fx_wh (σ := Int × Int) (fun s => s.1 = 0) (fun s => B s.2) (0, (k : Int) - 1)).1 = 2 ∧ ∃ j : Nat, (fx_wh (σ := Int × Int) (fun s => s.1 = 0) (fun s => B s.2) (0, (k : Int) - 1)).2 = (j : Int) ∧ j < N ∧ f j ≠ g j ∧ ∀ i : Int, j < i → i < N → f i = g i))
  | 0, _, h => by
    have eB : B (((0 : Nat) : Int) - 1) = (1, ((0 : Nat) : Int) - 1) := by rw [hB, if_pos (by omega)]
    have U := fx_un_f (σ := Int × Int) (c := fun s => s.1 = 0) (f := fun s => B s.2) (P := fun s => s.1 = 0 → Pp s.2) (s := (1, ((0 : Nat) : Int) - 1)) (fun z => absurd z (show ¬ (1 : Int) = 0 by decide)) (show ¬ (1 : Int) = 0 by decide)
    have F := fx_un_t (σ := Int × Int) (c := fun s => s.1 = 0) (f := fun s => B s.2) (P := fun s => s.1 = 0 → Pp s.2) (s := (0, ((0 : Nat) : Int) - 1)) (fun _ => hP _ (by show -1 ≤ ((0 : Nat) : Int) - 1; omega) (by show ((0 : Nat) : Int) - 1 < N; omega)) rfl (by
      show fx_ok _ _ _ (B (((0 : Nat) : Int) - 1))
      rw [eB]; exact U.1)
    have e : fx_wh (σ := Int × Int) (fun s => s.1 = 0) (fun s => B s.2) (0, ((0 : Nat) : Int) - 1) = (1, ((0 : Nat) : Int) - 1) := by
      have := F.2
      dsimp only at this
      rw [eB] at this
      exact this.trans U.2
    rw [e]
    exact ⟨F.1, Or.inl ⟨rfl, fun i i1 i2 => h i (by omega) i2⟩⟩
  | k + 1, hk, h => by
    have ek : (((k + 1 : Nat) : Int) - 1) = (k : Int) := by omega
    rw [ek]
    by_cases c : f k = g k
    · have ih := cmp_loop f g B Pp N hB hP k (by omega) (fun i i1 i2 => by
        by_cases y : i = k
        · rw [y]; exact c
        · exact h i (by omega) i2)
      have eB : B (k : Int) = (0, (k : Int) - 1) := by
        rw [hB, if_neg (by omega), if_pos c]
        rfl
      have F := fx_un_t (σ := Int × Int) (c := fun s => s.1 = 0) (f := fun s => B s.2) (P := fun s => s.1 = 0 → Pp s.2) (s := (0, (k : Int))) (fun _ => hP _ (by show -1 ≤ (k : Int); omega) (by show (k : Int) < N; omega)) rfl (by
        show fx_ok _ _ _ (B (k : Int))
        rw [eB]; exact ih.1)
      have e := F.2
      dsimp only at e
      rw [eB] at e
      rw [e]
      exact ⟨F.1, ih.2⟩
    · have eB : B (k : Int) = (2, (k : Int)) := by rw [hB, if_neg (by omega), if_neg c]
      have U := fx_un_f (σ := Int × Int) (c := fun s => s.1 = 0) (f := fun s => B s.2) (P := fun s => s.1 = 0 → Pp s.2) (s := (2, (k : Int))) (fun z => absurd z (show ¬ (2 : Int) = 0 by decide)) (show ¬ (2 : Int) = 0 by decide)
      have F := fx_un_t (σ := Int × Int) (c := fun s => s.1 = 0) (f := fun s => B s.2) (P := fun s => s.1 = 0 → Pp s.2) (s := (0, (k : Int))) (fun _ => hP _ (by show -1 ≤ (k : Int); omega) (by show (k : Int) < N; omega)) rfl (by
        show fx_ok _ _ _ (B (k : Int))
        rw [eB]; exact U.1)
      have e : fx_wh (σ := Int × Int) (fun s => s.1 = 0) (fun s => B s.2) (0, (k : Int)) = (2, (k : Int)) := by
        have := F.2
        dsimp only at this
        rw [eB] at this
        exact this.trans U.2
      rw [e]
      exact ⟨F.1, Or.inr ⟨rfl, k, rfl, by omega, c, fun i i1 i2 => h i (by omega) i2⟩⟩
theorem cmp_val {p : Int} (hp : 1 ≤ p) (f g : Int → Int) (N : Nat) (hf : ∀ i : Int, 0 ≤ i → i < N → 0 ≤ f i ∧ f i < p) (hg : ∀ i : Int, 0 ≤ i → i < N → 0 ≤ g i ∧ g i < p) (r : Int × Int) (h : (r.1 = 1 ∧ ∀ i : Int, 0 ≤ i → i < N → f i = g i) ∨ (r.1 = 2 ∧ ∃ j : Nat, r.2 = (j : Int) ∧ j < N ∧ f j ≠ g j ∧ ∀ i : Int, j < i → i < N → f i = g i)) :
    (if r.1 = 1 then (0 : Int) else if g r.2 < f r.2 then 1 else 0) = if vl p g N < vl p f N then 1 else 0 := by
  rcases h with ⟨h1, h2⟩ | ⟨h1, j, h2, h3, h4, h5⟩
  · rw [if_pos h1, vl_cg N h2, if_neg (by omega)]
  · rw [if_neg (by omega), h2]
    by_cases c : g j < f j
    · rw [if_pos c, if_pos (vl_lt hp j c N h3 hg hf (fun i i1 i2 => (h5 i i1 i2).symm))]
    · have := vl_lt hp j (show f j < g j by omega) N h3 hf hg h5
      rw [if_neg c, if_neg (by omega)]
theorem cmp_X {h : pH} {c d : Int} (h0 : h 153 0 = d) (h1 : h 153 1 = c) (hc : ∀ i : Int, 0 ≤ i → i < 13 → 0 ≤ h c i ∧ h c i < 1125899906842624) (hd : ∀ i : Int, 0 ≤ i → i < 13 → 0 ≤ h d i ∧ h d i < 1125899906842624) :
    P_X3_isTriedGreater h ∧ F_X3_isTriedGreater h = if vl 1125899906842624 (h d) 13 < vl 1125899906842624 (h c) 13 then 1 else 0 := by
  have L := cmp_loop (h c) (h d) (fun x => B_X3_isTriedGreater_2 h x) (fun x => P_X3_isTriedGreater_2 h x) 13 (fun x => by unfold B_X3_isTriedGreater_2; rw [h0, h1]) (fun x x1 x2 z => ⟨by omega, fun _ => by unfold fx_i; omega⟩) 13 (Nat.le_refl _) (fun i i1 i2 => by omega)
  have e12 : (((13 : Nat) : Int) - 1) = 12 := by decide
  rw [e12] at L
  have V := cmp_val (p := 1125899906842624) (by omega) (h c) (h d) 13 hc hd (L_X3_isTriedGreater_2 h 12) L.2
  refine ⟨⟨L.1, fun z => ?_⟩, ?_⟩
  · rcases L.2 with ⟨y1, -⟩ | ⟨y1, j, y2, y3, -⟩
    · exact absurd y1 z
    · have y2 : (L_X3_isTriedGreater_2 h 12).2 = (j : Int) := y2
      rw [y2]; omega
  · unfold F_X3_isTriedGreater
    rw [h0, h1]
    exact V
theorem cmp_M {g : pH} (hc : ∀ i : Int, 0 ≤ i → i < 24 → 0 ≤ g 268 i ∧ g 268 i < 1000000000) (hd : ∀ i : Int, 0 ≤ i → i < 24 → 0 ≤ g 269 i ∧ g 269 i < 1000000000) :
    P_X12_isWider g ∧ F_X12_isWider g = if vl 1000000000 (g 269) 24 < vl 1000000000 (g 268) 24 then 1 else 0 := by
  have L := cmp_loop (g 268) (g 269) (fun x => B_X12_isWider_2 g x) (fun x => P_X12_isWider_2 g x) 24 (fun x => rfl) (fun x x1 x2 z => ⟨by omega, fun _ => by unfold fx_i; omega⟩) 24 (Nat.le_refl _) (fun i i1 i2 => by omega)
  have e12 : (((24 : Nat) : Int) - 1) = 23 := by decide
  rw [e12] at L
  have V := cmp_val (p := 1000000000) (by omega) (g 268) (g 269) 24 hc hd (L_X12_isWider_2 g 23) L.2
  refine ⟨⟨L.1, fun z => ?_⟩, ?_⟩
  · rcases L.2 with ⟨y1, -⟩ | ⟨y1, j, y2, y3, -⟩
    · exact absurd y1 z
    · have y2 : (L_X12_isWider_2 g 23).2 = (j : Int) := y2
      rw [y2]; omega
  · unfold F_X12_isWider
    exact V
/-- powers, and what is told -/
noncomputable def pwI (x : Int) : Nat → Int
  | 0 => 1
  | n + 1 => pwI x n * x
noncomputable def cF (z : Int → Int) (k : Int) : Nat → Nat
  | 0 => 0
  | n + 1 => cF z k n + (if z (500 + n) = k ∧ z (560 + n) = 1 then 1 else 0)
noncomputable def cS (z : Int → Int) (k : Int) : Nat → Nat
  | 0 => 0
  | n + 1 => cS z k n + (if z (500 + n) = k ∧ ¬ z (560 + n) = 1 then 1 else 0)
theorem cF_zs (z : Int → Int) (k : Int) : ∀ n : Nat, zs (fun i => if z (500 + i) = k ∧ z (560 + i) = 1 then 1 else 0) n = (cF z k n : Int)
  | 0 => rfl
  | n + 1 => by
    show zs _ n + (if z (500 + (n : Int)) = k ∧ z (560 + (n : Int)) = 1 then (1 : Int) else 0) = ((cF z k n + (if z (500 + n) = k ∧ z (560 + n) = 1 then 1 else 0) : Nat) : Int)
    rw [cF_zs z k n]
    split <;> omega
theorem cS_zs (z : Int → Int) (k : Int) : ∀ n : Nat, zs (fun i => if z (500 + i) = k ∧ ¬ z (560 + i) = 1 then 1 else 0) n = (cS z k n : Int)
  | 0 => rfl
  | n + 1 => by
    show zs _ n + (if z (500 + (n : Int)) = k ∧ ¬ z (560 + (n : Int)) = 1 then (1 : Int) else 0) = ((cS z k n + (if z (500 + n) = k ∧ ¬ z (560 + n) = 1 then 1 else 0) : Nat) : Int)
    rw [cS_zs z k n]
    split <;> omega
noncomputable def fac (z : Int → Int) (a b i : Int) : Int := if z (560 + i) = 1 then a + b * z (500 + i) else 1000 - (a + b * z (500 + i))
noncomputable def PM (z : Int → Int) (a b : Int) : Nat → Int
  | 0 => 1
  | n + 1 => PM z a b n * fac z a b n
noncomputable def PXK (z : Int → Int) (a b : Int) (n : Nat) : Nat → Int
  | 0 => 1
  | K + 1 => PXK z a b n K * pwI (a + b * K) (cF z K n) * pwI (1000 - (a + b * K)) (cS z K n)
noncomputable def tot (z : Int → Int) (n : Nat) : Nat → Nat
  | 0 => 0
  | K + 1 => tot z n K + cF z K n + cS z K n
theorem PXK_z (z : Int → Int) (a b : Int) : ∀ K : Nat, PXK z a b 0 K = 1
  | 0 => rfl
  | K + 1 => by
    show PXK z a b 0 K * 1 * 1 = 1
    rw [PXK_z z a b K]; rfl
theorem PXK_s (z : Int → Int) (a b : Int) (n : Nat) (h0 : 0 ≤ z (500 + n)) : ∀ K : Nat, PXK z a b (n + 1) K = PXK z a b n K * (if z (500 + n) < K then fac z a b n else 1)
  | 0 => by
    rw [if_neg (by omega)]; rfl
  | K + 1 => by
    have ih := PXK_s z a b n h0 K
    show PXK z a b (n + 1) K * pwI (a + b * K) (cF z K n + (if z (500 + n) = K ∧ z (560 + n) = 1 then 1 else 0)) * pwI (1000 - (a + b * K)) (cS z K n + (if z (500 + n) = K ∧ ¬ z (560 + n) = 1 then 1 else 0)) = PXK z a b n K * pwI (a + b * K) (cF z K n) * pwI (1000 - (a + b * K)) (cS z K n) * _
    rw [ih]
    by_cases c1 : z (500 + n) < K
    · rw [if_pos c1, if_neg (by omega), if_neg (by omega), if_pos (by omega)]
      ac_rfl
    · by_cases c2 : z (500 + n) = K
      · rw [if_neg c1, if_pos (show z (500 + n) < ((K + 1 : Nat) : Int) by omega)]
        unfold fac
        by_cases c3 : z (560 + n) = 1
        · rw [if_pos ⟨c2, c3⟩, if_neg (fun y => y.2 c3), if_pos c3, c2]
          show PXK z a b n K * 1 * (pwI (a + b * K) (cF z K n) * (a + b * K)) * pwI (1000 - (a + b * K)) (cS z K n) = _
          rw [Int.mul_one]
          ac_rfl
        · rw [if_neg (fun y => c3 y.2), if_pos ⟨c2, c3⟩, if_neg c3, c2]
          show PXK z a b n K * 1 * pwI (a + b * K) (cF z K n) * (pwI (1000 - (a + b * K)) (cS z K n) * (1000 - (a + b * K))) = _
          rw [Int.mul_one]
          ac_rfl
      · rw [if_neg c1, if_neg (fun y => c2 y.1), if_neg (fun y => c2 y.1), if_neg (by omega)]
        ac_rfl
theorem PXK_PM (z : Int → Int) (a b : Int) : ∀ n : Nat, (∀ i : Int, 0 ≤ i → i < n → 0 ≤ z (500 + i) ∧ z (500 + i) ≤ 9) → PXK z a b n 10 = PM z a b n
  | 0, _ => PXK_z z a b 10
  | n + 1, h => by
    have hn := h n (by omega) (by omega)
    rw [PXK_s z a b n hn.1, if_pos (by omega), PXK_PM z a b n (fun i i1 i2 => h i i1 (by omega))]
    rfl
theorem tot_s (z : Int → Int) (n : Nat) (h0 : 0 ≤ z (500 + n)) : ∀ K : Nat, tot z (n + 1) K = tot z n K + (if z (500 + n) < K then 1 else 0)
  | 0 => by
    rw [if_neg (by omega)]; rfl
  | K + 1 => by
    have ih := tot_s z n h0 K
    show tot z (n + 1) K + (cF z K n + (if z (500 + n) = K ∧ z (560 + n) = 1 then 1 else 0)) + (cS z K n + (if z (500 + n) = K ∧ ¬ z (560 + n) = 1 then 1 else 0)) = tot z n K + cF z K n + cS z K n + _
    rw [ih]
    by_cases c1 : z (500 + n) < K
    · rw [if_pos c1, if_neg (by omega), if_neg (by omega), if_pos (by omega)]; omega
    · by_cases c2 : z (500 + n) = K
      · rw [if_neg c1, if_pos (show z (500 + n) < ((K + 1 : Nat) : Int) by omega)]
        by_cases c3 : z (560 + n) = 1
        · rw [if_pos ⟨c2, c3⟩, if_neg (fun y => y.2 c3)]; omega
        · rw [if_neg (fun y => c3 y.2), if_pos ⟨c2, c3⟩]; omega
      · rw [if_neg c1, if_neg (fun y => c2 y.1), if_neg (fun y => c2 y.1), if_neg (by omega)]; omega
theorem tot_le (z : Int → Int) (K : Nat) : ∀ n : Nat, (∀ i : Int, 0 ≤ i → i < n → 0 ≤ z (500 + i)) → tot z n K ≤ n
  | 0, _ => by
    have : ∀ K : Nat, tot z 0 K = 0 := fun K => by
      induction K with
      | zero => rfl
      | succ K ih => show tot z 0 K + 0 + 0 = 0; omega
    rw [this]; omega
  | n + 1, h => by
    have ih := tot_le z K n (fun i i1 i2 => h i i1 (by omega))
    rw [tot_s z n (h n (by omega) (by omega))]
    split <;> omega
theorem tot_mono (z : Int → Int) (n : Nat) : ∀ (K K' : Nat), K ≤ K' → tot z n K ≤ tot z n K'
  | K, 0, h => by have : K = 0 := by omega
                  subst this; exact Nat.le_refl _
  | K, K' + 1, h => by
    by_cases c : K = K' + 1
    · subst c; exact Nat.le_refl _
    · have := tot_mono z n K K' (by omega)
      show _ ≤ tot z n K' + cF z K' n + cS z K' n
      omega
/-- how large -/
noncomputable def MB (v : Int) (m : Nat) : Prop := 1 ≤ v ∧ v ≤ bp 1000 m
theorem bp_mono : ∀ (m n : Nat), m ≤ n → bp 1000 m ≤ bp 1000 n
  | m, 0, h => by have : m = 0 := by omega
                  subst this; exact Int.le_refl _
  | m, n + 1, h => by
    by_cases c : m = n + 1
    · subst c; exact Int.le_refl _
    · have := bp_mono m n (by omega)
      have := bp_pos (p := 1000) (by omega) n
      show _ ≤ 1000 * bp 1000 n
      omega
theorem MB_mul {v y : Int} {m : Nat} (h : MB v m) (hy : 1 ≤ y ∧ y ≤ 1000) : MB (v * y) (m + 1) := by
  have h1 : 1 * 1 ≤ v * y := Int.mul_le_mul h.1 hy.1 (by omega) (by have := h.1; omega)
  have h2 : v * y ≤ bp 1000 m * 1000 := Int.mul_le_mul h.2 hy.2 (by omega) (by have := bp_pos (p := 1000) (by omega) m; omega)
  refine ⟨by omega, ?_⟩
  show v * y ≤ 1000 * bp 1000 m
  omega
theorem big_X : bp 1000 60 < bp 1125899906842624 13 := by decide +kernel
theorem big_M : bp 1000 60 < bp 1000000000 24 := by decide +kernel
theorem MB_60 {v : Int} {m : Nat} (h : MB v m) (hm : m ≤ 60) : v < bp 1125899906842624 13 ∧ v < bp 1000000000 24 := by
  have := bp_mono m 60 hm
  have := h.2
  have := big_X
  have := big_M
  omega
