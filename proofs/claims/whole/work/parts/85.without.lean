/-! Without: the smallest set, class by size and model by code. -/
noncomputable def KK (h : pH) (n B i : Nat) : Prop := F_X11_allKeptWithout (pd 16 B i) n h = 1
noncomputable def BST (h : pH) (n B : Nat) (v : Int) (M : Nat) : Prop := (v = -1 ∧ ∀ j : Nat, j < M → ¬ KK h n B j) ∨
  ∃ i : Nat, i < M ∧ v = pd 16 B i ∧ KK h n B i ∧ ∀ j : Nat, j < M → KK h n B j → rk (pd 16 B i) 16 < rk (pd 16 B j) 16 ∨ (rk (pd 16 B i) 16 = rk (pd 16 B j) 16 ∧ i ≤ j)
theorem BST_one {h : pH} {n B M : Nat} {v v' : Int} (a : BST h n B v M) (b : BST h n B v' M) : v = v' := by
  rcases a with ⟨a1, a2⟩ | ⟨i, a1, a2, a3, a4⟩ <;> rcases b with ⟨b1, b2⟩ | ⟨j, b1, b2, b3, b4⟩
  · omega
  · exact absurd b3 (a2 j b1)
  · exact absurd a3 (b2 i a1)
  · have x := a4 j b1 b3
    have y := b4 i a1 a3
    have : i = j := by omega
    rw [a2, b2, this]
section WO
variable {h : pH} {z : Int → Int} {nm nw n B : Nat}
/-- the trial at any heap with the same hall -/
theorem kept_at (q : hl 1 h z nm nw 9999) (n30 : n ≤ 30) {i : Nat} (hs : ∀ w : Nat, w < nw → bt (pd 16 B i) w = true → z (328 + w) = 0) {hh : pH} (e : ∀ a, (a < 47 ∨ 93 ≤ a) → hh a = h a) :
    P_X11_allKeptWithout (pd 16 B i) n hh ∧ (F_X11_allKeptWithout (pd 16 B i) n hh = 0 ↔ ¬ KK h n B i) ∧ ∀ a, (a < 47 ∨ 93 ≤ a) → H_X11_allKeptWithout (pd 16 B i) n hh a = h a := by
  have q' : hl 1 hh z nm nw 9999 := hl_cg q (fun a e1 e2 => e a (by omega)) (fun _ _ _ => rfl)
  have k0 := kept_X q (by omega) hs n (by omega) (g := fun _ k => mrk z (pd 16 B i) nw k) (fun _ _ _ => rfl)
  have k1 := kept_X q' (by omega) hs n (by omega) (g := fun _ k => mrk z (pd 16 B i) nw k) (fun _ _ _ => rfl)
  refine ⟨k1.1, ?_, fun a ha => (k1.2.2 a ha).trans (e a ha)⟩
  unfold KK
  rw [k0.2.1, ← k1.2.1]
  unfold F_X11_allKeptWithout
  split
  · exact ⟨fun y => by omega, fun y => absurd rfl y⟩
  · exact ⟨fun _ => by omega, fun _ => rfl⟩
theorem size_loop (q : hl 1 h z nm nw 9999) (n30 : n ≤ 30) (hB : B < 65536) {N : Nat} (hN : N ≤ 8) (rB : rk B 16 = N) (hs : ∀ i w : Nat, w < nw → bt (pd 16 B i) w = true → z (328 + w) = 0) (size : Int) {hh : pH} (e : ∀ a, (a < 47 ∨ 93 ≤ a) → hh a = h a) :
    O_X11_without_29 n B N size 0 0 hh ∧ (∀ a, (a < 47 ∨ 93 ≤ a) → s_X11_without_3 n B N size hh a = h a) ∧
    ((s_X11_without_4 n B N size hh = 1 ∧ ∀ j : Nat, j < 2 ^ N → (rk (pd 16 B j) 16 : Int) = size → ¬ KK h n B j) ∨
     (s_X11_without_4 n B N size hh = 2 ∧ ∃ i : Nat, i < 2 ^ N ∧ s_X11_without_1 n B N size hh = pd 16 B i ∧ (rk (pd 16 B i) 16 : Int) = size ∧ KK h n B i ∧ ∀ j : Nat, j < i → (rk (pd 16 B j) 16 : Int) = size → ¬ KK h n B j)) := by
  have eM : pm_shl 1 (N : Int) = ((2 ^ N : Nat) : Int) := shl_2 ⟨N, by omega⟩
  have hM : (2 : Nat) ^ N ≤ 2 ^ 8 := Nat.pow_le_pow_right (by omega) hN
  have key := fx_ruleM (σ := Int × Int × Int × pH) (c := fun t => t.1 = 0) (f := fun t => B_X11_without_29 n B N size t.2.1 t.2.2.1 t.2.2.2) (P := fun t => t.1 = 0 → P_X11_without_29 n B N size t.2.1 t.2.2.1 t.2.2.2)
    (fun t => (∀ a, (a < 47 ∨ 93 ≤ a) → t.2.2.2 a = h a) ∧ ((t.1 = 0 ∧ ∃ i : Nat, i ≤ 2 ^ N ∧ t.2.2.1 = i ∧ (i < 2 ^ N → t.2.1 = pd 16 B i) ∧ ∀ j : Nat, j < i → (rk (pd 16 B j) 16 : Int) = size → ¬ KK h n B j) ∨
      (t.1 = 1 ∧ ∀ j : Nat, j < 2 ^ N → (rk (pd 16 B j) 16 : Int) = size → ¬ KK h n B j) ∨
      (t.1 = 2 ∧ ∃ i : Nat, i < 2 ^ N ∧ t.2.1 = pd 16 B i ∧ (rk (pd 16 B i) 16 : Int) = size ∧ KK h n B i ∧ ∀ j : Nat, j < i → (rk (pd 16 B j) 16 : Int) = size → ¬ KK h n B j)))
    (fun t => if t.1 = 0 then (2 ^ N + 1 - t.2.2.1.toNat) else 0) (by
      rintro ⟨t, x5, x6, h'⟩ ⟨hf, hc⟩
      simp only at hf hc ⊢
      refine ⟨fun ht => ?_, fun ht => ?_⟩
      · subst ht
        obtain ⟨-, i, i1, i2, i3, i4⟩ := hc.resolve_right (fun y => by omega)
        subst i2
        unfold P_X11_without_29 P_X11_nextSet fx_i
        rw [eM]
        intro y
        have pl := pd_le 16 B i
        rw [i3 (by omega)]
        have bc := bit_count (x := pd 16 B i) (by omega) h'
        have ka := kept_at q n30 (hs i) hf
        exact ⟨bc.1, fun _ => ⟨ka.1, fun _ => ⟨by omega, by omega⟩⟩, fun _ => ⟨by omega, by omega⟩⟩
      · subst ht
        obtain ⟨-, i, i1, i2, i3, i4⟩ := hc.resolve_right (fun y => by omega)
        subst i2
        unfold B_X11_without_29
        rw [eM]
        by_cases c : ((2 ^ N : Nat) : Int) ≤ i
        · rw [if_pos c]
          refine ⟨⟨hf, Or.inr (Or.inl ⟨rfl, fun j hj => i4 j (by omega)⟩)⟩, ?_⟩
          rw [if_pos rfl, if_neg (show ¬ (1 : Int) = 0 by omega)]
          omega
        · rw [if_neg c]
          have pl := pd_le 16 B i
          have bc := bit_count (x := pd 16 B i) (by omega) h'
          have ka := kept_at q n30 (hs i) hf
          have e5 := i3 (by omega)
          subst e5
          have nx : i + 1 < 2 ^ N → pm_and ((pd 16 B i : Int) - B) B = ((pd 16 B (i + 1) : Nat) : Int) := fun y => next_set hB (by rw [rB]; exact y)
          have mu : (if (0 : Int) = 0 then 2 ^ N + 1 - ((i : Int) + 1).toNat else 0) < (if (0 : Int) = 0 then 2 ^ N + 1 - (i : Int).toNat else 0) := by
            rw [if_pos rfl, if_pos rfl]; omega
          rw [bc.2]
          by_cases c2 : (rk (pd 16 B i) 16 : Int) = size
          · rw [if_pos c2]
            by_cases c3 : F_X11_allKeptWithout (pd 16 B i) n h' = 0
            · rw [if_pos c3]
              refine ⟨⟨ka.2.2, Or.inl ⟨rfl, i + 1, by omega, by simp only; omega, nx, fun j hj => ?_⟩⟩, mu⟩
              by_cases y : j = i
              · rw [y]; exact fun _ => ka.2.1.mp c3
              · exact i4 j (by omega)
            · rw [if_neg c3]
              refine ⟨⟨ka.2.2, Or.inr (Or.inr ⟨rfl, i, by omega, rfl, c2, Classical.not_not.mp (fun y => c3 (ka.2.1.mpr y)), i4⟩)⟩, ?_⟩
              rw [if_pos rfl, if_neg (show ¬ (2 : Int) = 0 by omega)]
              omega
          · rw [if_neg c2]
            refine ⟨⟨hf, Or.inl ⟨rfl, i + 1, by omega, by simp only; omega, nx, fun j hj => ?_⟩⟩, mu⟩
            by_cases y : j = i
            · rw [y]; exact fun w => absurd w c2
            · exact i4 j (by omega))
    (0, 0, 0, hh) ⟨e, Or.inl ⟨rfl, 0, Nat.zero_le _, rfl, fun _ => by
      have : pd 16 B 0 = 0 := by
        have z0 : ∀ W B : Nat, pd W B 0 = 0 := by
          intro W
          induction W with
          | zero => intro _; rfl
          | succ W ih =>
            intro B
            unfold pd
            rw [Nat.zero_div, ih]
            simp
        exact z0 16 B
      rw [this]; rfl, fun j hj => by omega⟩⟩
  obtain ⟨k1, ⟨k2, k3⟩, k4⟩ := key
  exact ⟨k1, k2, k3.resolve_left (fun y => k4 y.1)⟩
theorem without_X (q : hl 1 h z nm nw 9999) (n30 : n ≤ 30) (hB : B < 65536) {N : Nat} (hN : N ≤ 8) (rB : rk B 16 = N) (hs : ∀ i w : Nat, w < nw → bt (pd 16 B i) w = true → z (328 + w) = 0) :
    O_X11_without_22 n B N 0 0 h ∧ (∀ a, (a < 47 ∨ 93 ≤ a) → (L_X11_without_22 n B N 0 0 h).2.2.2 a = h a) ∧
    BST h n B (if (L_X11_without_22 n B N 0 0 h).1 = 1 then (-1) else (L_X11_without_22 n B N 0 0 h).2.2.1) (2 ^ N) := by
  have cle : ∀ j : Nat, rk (pd 16 B j) 16 ≤ N := fun j => by
    rw [← rB]
    refine rk_le 16 _ _ (fun m hm y => ?_)
    rw [pd_bit 16 B j m hm] at y
    exact ((Bool.and_eq_true _ _).mp y).1
  have key := fx_ruleM (σ := Int × Int × Int × pH) (c := fun t => t.1 = 0) (f := fun t => B_X11_without_22 n B N t.2.1 t.2.2.1 t.2.2.2) (P := fun t => t.1 = 0 → P_X11_without_22 n B N t.2.1 t.2.2.1 t.2.2.2)
    (fun t => (∀ a, (a < 47 ∨ 93 ≤ a) → t.2.2.2 a = h a) ∧ ((t.1 = 0 ∧ 0 ≤ t.2.1 ∧ t.2.1 ≤ (N : Int) + 1 ∧ ∀ j : Nat, j < 2 ^ N → KK h n B j → t.2.1 ≤ rk (pd 16 B j) 16) ∨
      (t.1 = 1 ∧ ∀ j : Nat, j < 2 ^ N → ¬ KK h n B j) ∨
      (t.1 = 2 ∧ ∃ i : Nat, i < 2 ^ N ∧ t.2.2.1 = pd 16 B i ∧ KK h n B i ∧ ∀ j : Nat, j < 2 ^ N → KK h n B j → rk (pd 16 B i) 16 < rk (pd 16 B j) 16 ∨ (rk (pd 16 B i) 16 = rk (pd 16 B j) 16 ∧ i ≤ j))))
    (fun t => if t.1 = 0 then (N + 2 - t.2.1.toNat) else 0) (by
      rintro ⟨t, x4, x5, h'⟩ ⟨hf, hc⟩
      simp only at hf hc ⊢
      have sl := size_loop q n30 hB hN rB hs x4 hf
      refine ⟨fun ht => ?_, fun ht => ?_⟩
      · subst ht
        obtain ⟨-, i1, i2, i3⟩ := hc.resolve_right (fun y => by omega)
        unfold P_X11_without_22 fx_i
        intro y
        exact ⟨sl.1, fun _ => by omega⟩
      · subst ht
        obtain ⟨-, i1, i2, i3⟩ := hc.resolve_right (fun y => by omega)
        unfold B_X11_without_22
        by_cases c : (N : Int) < x4
        · rw [if_pos c]
          refine ⟨⟨hf, Or.inr (Or.inl ⟨rfl, fun j hj y => ?_⟩)⟩, ?_⟩
          · have := i3 j hj y
            have := cle j
            omega
          · rw [if_pos rfl, if_neg (show ¬ (1 : Int) = 0 by omega)]
            omega
        · rw [if_neg c]
          rcases sl.2.2 with ⟨s1, s2⟩ | ⟨s1, i, s2, s3, s4, s5, s6⟩
          · rw [if_pos s1]
            refine ⟨⟨sl.2.1, Or.inl ⟨rfl, by simp only; omega, by simp only; omega, fun j hj y => ?_⟩⟩, ?_⟩
            · have y1 := i3 j hj y
              have y2 : ¬ (rk (pd 16 B j) 16 : Int) = x4 := fun w => s2 j hj w y
              simp only
              omega
            · rw [if_pos rfl, if_pos rfl]
              show N + 2 - (x4 + 1).toNat < N + 2 - x4.toNat
              omega
          · rw [if_neg (by omega)]
            refine ⟨⟨sl.2.1, Or.inr (Or.inr ⟨rfl, i, s2, s3, s5, fun j hj y => ?_⟩)⟩, ?_⟩
            · have y1 := i3 j hj y
              by_cases w : (rk (pd 16 B j) 16 : Int) = x4
              · right
                refine ⟨by omega, ?_⟩
                rcases Nat.lt_or_ge j i with v | v
                · exact absurd y (s6 j v w)
                · exact v
              · left; omega
            · rw [if_pos rfl, if_neg (show ¬ (2 : Int) = 0 by omega)]
              omega)
    (0, 0, 0, h) ⟨fun _ _ => rfl, Or.inl ⟨rfl, by simp only; omega, by simp only; omega, fun j _ _ => by simp only; omega⟩⟩
  obtain ⟨k1, ⟨k2, k3⟩, k4⟩ := key
  refine ⟨k1, k2, ?_⟩
  have k3' := k3.resolve_left (fun y => k4 y.1)
  change ((L_X11_without_22 n B N 0 0 h).1 = 1 ∧ _) ∨ ((L_X11_without_22 n B N 0 0 h).1 = 2 ∧ ∃ i : Nat, i < 2 ^ N ∧ (L_X11_without_22 n B N 0 0 h).2.2.1 = pd 16 B i ∧ _) at k3'
  generalize L_X11_without_22 n B N 0 0 h = t at *
  rcases k3' with ⟨y1, y2⟩ | ⟨y1, i, y2, y3, y4, y5⟩
  · rw [if_pos y1]; exact Or.inl ⟨rfl, y2⟩
  · rw [if_neg (by omega)]; exact Or.inr ⟨i, y2, y3, y4, y5⟩
end WO
