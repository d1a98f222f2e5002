/-! Stage B: facts about heaps and loops. -/
theorem up_app (h : pH) (a k v a' k' : Int) : pm_upd h a k v a' k' = if a' = a ∧ k' = k then v else h a' k' := rfl
theorem up_eq (h : pH) (a k v : Int) : pm_upd h a k v a k = v := if_pos ⟨rfl, rfl⟩
theorem up_cell (h : pH) {a k v a' : Int} (ne : a' ≠ a) : pm_upd h a k v a' = h a' := funext fun _ => if_neg fun q => ne q.1
theorem up_pl (h : pH) {a k v k' : Int} (ne : k' ≠ k) : pm_upd h a k v a k' = h a k' := if_neg fun q => ne q.2
theorem cp_app (h : pH) (s sp d dp n a k : Int) : pm_cpy h s sp d dp n a k = if a = d ∧ dp ≤ k ∧ k < dp + n then h s (sp + (k - dp)) else h a k := rfl
theorem cp_cell (h : pH) {s sp d dp n a : Int} (ne : a ≠ d) : pm_cpy h s sp d dp n a = h a := funext fun _ => if_neg fun q => ne q.1
theorem fl_app (h : pH) (a n v a' k : Int) : fx_fill h a n v a' k = if a' = a ∧ 0 ≤ k ∧ k < n then v else h a' k := rfl
theorem fl_cell (h : pH) {a n v a' : Int} (ne : a' ≠ a) : fx_fill h a n v a' = h a' := funext fun _ => if_neg fun q => ne q.1
/-- two loops side by side -/
theorem fx_rel {σ τ : Type} {c : σ → Prop} {f : σ → σ} {P : σ → Prop} {d : τ → Prop} {g : τ → τ} {P' : τ → Prop} {s0 : σ} {t0 : τ} (N : Nat) (R : Nat → σ → τ → Prop) (h0 : R 0 s0 t0)
    (hs : ∀ i s t, i < N → R i s t → (P s ∧ c s) ∧ (P' t ∧ d t) ∧ R (i + 1) (f s) (g t)) (he : ∀ s t, R N s t → (P s ∧ ¬ c s) ∧ (P' t ∧ ¬ d t)) : fx_ok c f P s0 ∧ fx_ok d g P' t0 ∧ R N (fx_wh c f s0) (fx_wh d g t0) := by
  have key : ∀ i, i ≤ N → R i (fx_it f i s0) (fx_it g i t0) := by
    intro i
    induction i with
    | zero => intro _; exact h0
    | succ i ih =>
      intro hi
      rw [fx_it_succ, fx_it_succ]
      exact (hs i _ _ (by omega) (ih (by omega))).2.2
  have a1 := fx_rule (c := c) (f := f) (P := P) (s0 := s0) N (fun i s => i ≤ N ∧ s = fx_it f i s0 ∧ R i s (fx_it g i t0)) ⟨Nat.zero_le _, rfl, h0⟩
    (fun i s hi hh => by
      obtain ⟨-, rfl, hr⟩ := hh
      have q := hs i _ _ hi hr
      exact ⟨q.1.1, q.1.2, by omega, (fx_it_succ f i s0).symm, by rw [← fx_it_succ f]; exact key (i + 1) (by omega)⟩)
    (fun s hh => (he _ _ hh.2.2).1)
  have a2 := fx_rule (c := d) (f := g) (P := P') (s0 := t0) N (fun i t => i ≤ N ∧ t = fx_it g i t0 ∧ R i (fx_it f i s0) t) ⟨Nat.zero_le _, rfl, h0⟩
    (fun i s hi hh => by
      obtain ⟨-, rfl, hr⟩ := hh
      have q := hs i _ _ hi hr
      exact ⟨q.2.1.1, q.2.1.2, by omega, (fx_it_succ g i t0).symm, by rw [← fx_it_succ g]; exact key (i + 1) (by omega)⟩)
    (fun s hh => (he _ _ hh.2.2).2)
  refine ⟨a1.1, a2.1, ?_⟩
  rw [a1.2.2.1, a2.2.2.1]
  exact key N (Nat.le_refl N)
theorem fx_ii {x : Int} (h1 : -2147483648 ≤ x) (h2 : x ≤ 2147483647) : fx_i x := ⟨h1, h2⟩
theorem fx_b0 (p : Prop) [Decidable p] : ((if p then (1 : Int) else 0) = 0) ↔ ¬ p := by
  by_cases h : p
  · simp [h]
  · simp [h]
theorem fx_b1 (p : Prop) [Decidable p] : ((if p then (1 : Int) else 0) = 1) ↔ p := by
  by_cases h : p
  · simp [h]
  · simp [h]
/-- a loop, one round at a time -/
theorem fx_un_f {σ : Type} {c : σ → Prop} {f : σ → σ} {P : σ → Prop} {s : σ} (h : P s) (hc : ¬ c s) : fx_ok c f P s ∧ fx_wh c f s = s := by
  have hN : fx_N c f s 0 := ⟨fun i hi => absurd hi (Nat.not_lt_zero i), hc⟩
  refine ⟨⟨0, hN, fun i hi => ?_⟩, fx_wh_eq hN⟩
  have : i = 0 := by omega
  subst this
  exact h
theorem fx_un_t {σ : Type} {c : σ → Prop} {f : σ → σ} {P : σ → Prop} {s : σ} (h : P s) (hc : c s) (h2 : fx_ok c f P (f s)) : fx_ok c f P s ∧ fx_wh c f s = fx_wh c f (f s) := by
  obtain ⟨n, hn, hP⟩ := h2
  have hN : fx_N c f s (n + 1) := by
    refine ⟨fun i hi => ?_, hn.2⟩
    cases i with
    | zero => exact hc
    | succ i => exact hn.1 i (by omega)
  refine ⟨⟨n + 1, hN, fun i hi => ?_⟩, ?_⟩
  · cases i with
    | zero => exact h
    | succ i => exact hP i (by omega)
  · rw [fx_wh_eq hN, fx_wh_eq hn]; rfl
