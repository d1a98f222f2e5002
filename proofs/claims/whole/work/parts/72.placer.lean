/-! The class's Placer: lists, bits of the free machines. -/
/-- the last r of n values -/
noncomputable def lst (f : Int → Int) (n : Nat) : Nat → List Int
  | 0 => []
  | r + 1 => f ((n : Int) - 1 - r) :: lst f n r
theorem mem_lst {f : Int → Int} {n : Nat} {x : Int} : ∀ {r : Nat}, x ∈ lst f n r ↔ ∃ k : Int, (n : Int) - r ≤ k ∧ k < n ∧ f k = x
  | 0 => by
    unfold lst
    refine ⟨fun q => absurd q (List.not_mem_nil), fun ⟨k, k1, k2, _⟩ => by omega⟩
  | r + 1 => by
    unfold lst
    rw [List.mem_cons, mem_lst (r := r)]
    constructor
    · rintro (q | ⟨k, k1, k2, k3⟩)
      · exact ⟨(n : Int) - 1 - r, by omega, by omega, q.symm⟩
      · exact ⟨k, by omega, k2, k3⟩
    · rintro ⟨k, k1, k2, k3⟩
      by_cases e : k = (n : Int) - 1 - r
      · left; rw [← k3, e]
      · exact Or.inr ⟨k, by omega, k2, k3⟩
theorem nodup_lst {f : Int → Int} {n : Nat} (hi : ∀ j k : Int, 0 ≤ j → j < n → 0 ≤ k → k < n → f j = f k → j = k) : ∀ {r : Nat}, r ≤ n → (lst f n r).Nodup
  | 0, _ => List.nodup_nil
  | r + 1, hr => by
    unfold lst
    rw [List.nodup_cons]
    refine ⟨fun q => ?_, nodup_lst hi (by omega)⟩
    obtain ⟨k, k1, k2, k3⟩ := mem_lst.mp q
    have := hi k ((n : Int) - 1 - r) (by omega) k2 (by omega) (by omega) k3
    omega
theorem srt_lst {f w : Int → Int} {n : Nat} (hs : ∀ j k : Int, 0 ≤ j → j < k → k < n → w (f k) ≤ w (f j)) : ∀ {r : Nat}, r ≤ n → srt w (lst f n r)
  | 0, _ => trivial
  | r + 1, hr => by
    refine ⟨fun x q => ?_, srt_lst hs (by omega)⟩
    obtain ⟨k, k1, k2, k3⟩ := mem_lst.mp q
    rw [← k3]
    exact hs _ k (by omega) (by omega) k2
/-- the coolest first -/
theorem zins_key (key : Int → Int) : ∀ (i : Nat) (j k : Int), 0 ≤ j → j < k → k < i → key (zins key i j) ≤ key (zins key i k)
  | 0, _, _, _, _, _ => by omega
  | i + 1, j, k, a1, a2, a3 => by
    have ih := zins_key key i
    have hp := zpos_le key (zins key i) i i
    have below : ∀ p : Nat, p ≤ i → ∀ q : Int, (zpos key (zins key i) i p : Int) ≤ q → q < p → key i < key (zins key i q) := by
      intro p
      induction p with
      | zero => intro _ q q1 q2; unfold zpos at q1; omega
      | succ p ihp =>
        intro hp q q1 q2
        unfold zpos at q1
        by_cases c : key i < key (zins key i p)
        · rw [if_pos c] at q1
          by_cases e : q = p
          · rw [e]; exact c
          · exact ihp (by omega) q q1 (by omega)
        · rw [if_neg c] at q1; omega
    have above : ∀ p : Nat, p ≤ i → ∀ q : Int, 0 ≤ q → q < (zpos key (zins key i) i p : Int) → key (zins key i q) ≤ key i := by
      intro p
      induction p with
      | zero => intro _ q q1 q2; unfold zpos at q2; omega
      | succ p ihp =>
        intro hp q q1 q2
        unfold zpos at q2
        by_cases c : key i < key (zins key i p)
        · rw [if_pos c] at q2
          exact ihp (by omega) q q1 q2
        · rw [if_neg c] at q2
          by_cases e : q = p
          · rw [e]; omega
          · have := ih q p q1 (by omega) (by omega)
            omega
    have b1 := below i (by omega)
    have b2 := above i (by omega)
    unfold zins
    generalize zpos key (zins key i) i i = z at *
    by_cases c1 : j < z
    · rw [if_pos c1]
      by_cases c2 : k < z
      · rw [if_pos c2]; exact ih j k a1 a2 (by omega)
      · rw [if_neg c2]
        by_cases c3 : k = z
        · rw [if_pos c3]; exact b2 j a1 c1
        · rw [if_neg c3]
          by_cases c4 : j = k - 1
          · rw [c4]; exact Int.le_refl _
          · exact ih j (k - 1) a1 (by omega) (by omega)
    · rw [if_neg c1, if_neg (show ¬ k < z by omega)]
      by_cases c3 : j = z
      · rw [if_pos c3, if_neg (show ¬ k = z by omega)]
        have := b1 (k - 1) (by omega) (by omega)
        omega
      · rw [if_neg c3, if_neg (show ¬ k = z by omega)]
        exact ih (j - 1) (k - 1) (by omega) (by omega) (by omega)
/-- the set of machines that a number's bits name -/
noncomputable def fb (n : Nat) (x : Int) : Int → Bool := fun q => decide (0 ≤ q ∧ q < n) && bt x q.toNat
theorem fb_in {n : Nat} {x q : Int} (h : fb n x q = true) : 0 ≤ q ∧ q < n := by
  unfold fb at h
  exact of_decide_eq_true ((Bool.and_eq_true _ _).mp h).1
theorem fb_at {n : Nat} {x : Int} {m : Nat} (h : m < n) : fb n x m = bt x m := by
  unfold fb
  rw [show decide (0 ≤ (m : Int) ∧ (m : Int) < n) = true from decide_eq_true (by omega), Bool.true_and, Int.toNat_natCast]
theorem fb_off {n : Nat} (h10 : n ≤ 10) {x : Int} {j : Nat} (hj : j < n) : fb n (pm_and x (pm_xor (pm_shl 1 j) (-1))) = offF (fb n x) j := by
  funext q
  show (decide (0 ≤ q ∧ q < n) && bt (pm_and x (pm_xor (pm_shl 1 j) (-1))) q.toNat) = ((decide (0 ≤ q ∧ q < n) && bt x q.toNat) && ! decide (q = j))
  by_cases c : 0 ≤ q ∧ q < n
  · rw [decide_eq_true c, Bool.true_and, Bool.true_and, bt_off (by omega) (by omega)]
    congr 2
    exact decide_eq_decide.mpr (by omega)
  · rw [decide_eq_false c, Bool.false_and, Bool.false_and, Bool.false_and]
/-- first loop of bestFrom: what the works from one on claim -/
theorem best_1 (h : pH) (N nm : Nat) (a2 : Int) (h5 : h 147 5 = N) (hN : N ≤ 8) (hm : nm ≤ 10) (hp : ∀ j : Int, 0 ≤ j → j < N → h 149 j = -1 ∨ (0 ≤ h 149 j ∧ h 149 j < nm)) : ∀ (r : Nat), r ≤ N → ∀ (x3 x4 x5 : Int), x5 = (N : Int) - r → 0 ≤ x4 → x4 ≤ (N : Int) - r →
    O_X7_bestFrom_6 a2 h x3 x4 x5 ∧ (L_X7_bestFrom_6 a2 h x3 x4 x5).2.1 = x4 + lose (h 149) N r ∧ ∀ m : Nat, m < nm → bt (L_X7_bestFrom_6 a2 h x3 x4 x5).1 m = (bt x3 m || clm (h 149) (fb nm a2) N r m)
  | 0, _, x3, x4, x5, e5, h4, h4' => by
    have k := fx_un_f (σ := Int × Int × Int) (c := fun s => C_X7_bestFrom_6 a2 h s.1 s.2.1 s.2.2) (f := fun s => B_X7_bestFrom_6 a2 h s.1 s.2.1 s.2.2) (P := fun s => P_X7_bestFrom_6 a2 h s.1 s.2.1 s.2.2) (s := (x3, x4, x5)) (by
      show P_X7_bestFrom_6 a2 h x3 x4 x5
      unfold P_X7_bestFrom_6
      intro q
      omega) (by
      show ¬ x5 < h 147 5
      omega)
    have e : L_X7_bestFrom_6 a2 h x3 x4 x5 = (x3, x4, x5) := k.2
    refine ⟨k.1, by rw [e]; unfold lose; simp, fun m _ => by rw [e]; unfold clm; simp⟩
  | r + 1, hr, x3, x4, x5, e5, h4, h4' => by
    have hpin := hp x5 (by omega) (by omega)
    have e51 : x5 = (N : Int) - 1 - r := by omega
    have ih := best_1 h N nm a2 h5 hN hm hp r (by omega) (s_X7_bestFrom_1 a2 x3 x5 h) (s_X7_bestFrom_2 x4 x5 h) (x5 + 1) (by omega) (by unfold s_X7_bestFrom_2; split <;> omega) (by unfold s_X7_bestFrom_2; split <;> omega)
    have k := fx_un_t (σ := Int × Int × Int) (c := fun s => C_X7_bestFrom_6 a2 h s.1 s.2.1 s.2.2) (f := fun s => B_X7_bestFrom_6 a2 h s.1 s.2.1 s.2.2) (P := fun s => P_X7_bestFrom_6 a2 h s.1 s.2.1 s.2.2) (s := (x3, x4, x5)) (by
      show P_X7_bestFrom_6 a2 h x3 x4 x5
      unfold P_X7_bestFrom_6 fx_i
      intro q
      omega) (by
      show x5 < h 147 5
      omega) ih.1
    have e : L_X7_bestFrom_6 a2 h x3 x4 x5 = L_X7_bestFrom_6 a2 h (s_X7_bestFrom_1 a2 x3 x5 h) (s_X7_bestFrom_2 x4 x5 h) (x5 + 1) := k.2
    refine ⟨k.1, ?_, fun m hm' => ?_⟩
    · have el : lose (h 149) N (r + 1) = lose (h 149) N r + (if h 149 ((N : Int) - 1 - r) = -1 then 1 else 0) := rfl
      rw [e, ih.2.1, el, ← e51]
      unfold s_X7_bestFrom_2
      by_cases c : h 149 x5 = -1
      · rw [if_pos c, if_pos c]; omega
      · rw [if_neg c, if_neg c]; omega
    · rw [e, ih.2.2 m hm']
      show _ = (bt x3 m || (clm (h 149) (fb nm a2) N r m || (decide (h 149 ((N : Int) - 1 - r) = m ∧ h 149 ((N : Int) - 1 - r) ≠ -1) && fb nm a2 m)))
      unfold s_X7_bestFrom_1
      rw [← e51]
      by_cases c : h 149 x5 = -1
      · rw [if_pos c, show decide (h 149 x5 = m ∧ h 149 x5 ≠ -1) = false from decide_eq_false (fun q => q.2 c), Bool.false_and, Bool.or_false]
      · rw [if_neg c]
        have hpin' : 0 ≤ h 149 x5 ∧ h 149 x5 < nm := by omega
        obtain ⟨j, hj⟩ : ∃ j : Nat, h 149 x5 = j := ⟨(h 149 x5).toNat, by omega⟩
        rw [hj] at hpin' ⊢
        rw [bt_or, bt_and, bt_shl (by omega) (by omega), fb_at hm', show decide ((j : Int) = m ∧ (j : Int) ≠ -1) = decide (m = j) from decide_eq_decide.mpr (by omega)]
        cases bt x3 m <;> cases clm (h 149) (fb nm a2) N r m <;> cases decide (m = j) <;> cases bt a2 m <;> rfl
/-- second loop: the coolest first -/
theorem best_2 (h : pH) (nm : Nat) (a2 y3 : Int) (h6 : h 147 6 = nm) (hm : nm ≤ 10) (hk : ∀ k : Int, 0 ≤ k → k < nm → 0 ≤ h 152 k ∧ h 152 k < nm) (hg : ∀ m : Int, 0 ≤ m → m < nm → -1000000000 ≤ h 151 m ∧ h 151 m ≤ 1000000000) : ∀ (r : Nat), r ≤ nm → ∀ (n : Nat) (x5 x7 : Int), n ≤ 8 → x7 = (nm : Int) - r → 0 ≤ x5 → x5 ≤ ((nm : Int) - r) * 2199023255552 →
    O_X7_bestFrom_35 a2 y3 h n x5 x7 ∧ (L_X7_bestFrom_35 a2 y3 h n x5 x7).2.1 = x5 + scan (fun m => 1099511627776 - h 151 m) (fb nm y3) (fb nm a2) (lst (h 152) nm r) n
  | 0, _, n, x5, x7, hn, e7, h5, h5' => by
    have k := fx_un_f (σ := Int × Int × Int) (c := fun s => C_X7_bestFrom_35 a2 y3 h s.1 s.2.1 s.2.2) (f := fun s => B_X7_bestFrom_35 a2 y3 h s.1 s.2.1 s.2.2) (P := fun s => P_X7_bestFrom_35 a2 y3 h s.1 s.2.1 s.2.2) (s := ((n : Int), x5, x7)) (by
      show P_X7_bestFrom_35 a2 y3 h n x5 x7
      unfold P_X7_bestFrom_35
      intro q
      omega) (by
      show ¬ x7 < h 147 6
      omega)
    have e : L_X7_bestFrom_35 a2 y3 h n x5 x7 = ((n : Int), x5, x7) := k.2
    refine ⟨k.1, by rw [e]; unfold lst scan; simp⟩
  | r + 1, hr, n, x5, x7, hn, e7, h5, h5' => by
    have hk7 := hk x7 (by omega) (by omega)
    have hg7 := hg (h 152 x7) hk7.1 hk7.2
    have e71 : (nm : Int) - 1 - r = x7 := by omega
    obtain ⟨j, hj⟩ : ∃ j : Nat, h 152 x7 = j := ⟨(h 152 x7).toNat, by omega⟩
    have hjn : j < nm := by omega
    have t1 := bt_test (x := y3) (m := j) (by omega)
    have t2 := bt_test (x := a2) (m := j) (by omega)
    have hP : P_X7_bestFrom_35 a2 y3 h n x5 x7 := by
      unfold P_X7_bestFrom_35 P_X7_worth fx_i fx_l
      intro q
      have hb : ((nm : Int) - ((r + 1 : Nat) : Int)) * 2199023255552 ≤ 10 * 2199023255552 := Int.mul_le_mul_of_nonneg_right (by omega) (by omega)
      refine ⟨⟨by omega, by omega⟩, ⟨fun _ => ⟨⟨by omega, by omega⟩, by omega⟩, fun _ _ _ => ⟨⟨⟨by omega, by omega⟩, by omega⟩, by omega, by omega⟩⟩, by omega⟩
    have hC : C_X7_bestFrom_35 a2 y3 h n x5 x7 := by show x7 < h 147 6; omega
    have el : lst (h 152) nm (r + 1) = (j : Int) :: lst (h 152) nm r := by
      show h 152 ((nm : Int) - 1 - r) :: lst (h 152) nm r = _
      rw [e71, hj]
    have un : ∀ (n' : Nat) (x5' : Int), B_X7_bestFrom_35 a2 y3 h n x5 x7 = ((n' : Int), x5', x7 + 1) → O_X7_bestFrom_35 a2 y3 h n' x5' (x7 + 1) → O_X7_bestFrom_35 a2 y3 h n x5 x7 ∧ L_X7_bestFrom_35 a2 y3 h n x5 x7 = L_X7_bestFrom_35 a2 y3 h n' x5' (x7 + 1) := by
      intro n' x5' eB hO
      have k := fx_un_t (σ := Int × Int × Int) (c := fun s => C_X7_bestFrom_35 a2 y3 h s.1 s.2.1 s.2.2) (f := fun s => B_X7_bestFrom_35 a2 y3 h s.1 s.2.1 s.2.2) (P := fun s => P_X7_bestFrom_35 a2 y3 h s.1 s.2.1 s.2.2) (s := ((n : Int), x5, x7)) hP hC (by
        show fx_ok _ _ _ (B_X7_bestFrom_35 a2 y3 h n x5 x7)
        rw [eB]; exact hO)
      refine ⟨k.1, k.2.trans ?_⟩
      show fx_wh _ _ (B_X7_bestFrom_35 a2 y3 h n x5 x7) = _
      rw [eB]; rfl
    have ih := fun (n' : Nat) (x5' : Int) => best_2 h nm a2 y3 h6 hm hk hg r (by omega) n' x5' (x7 + 1)
    by_cases c1 : bt y3 j = true
    · have eB : B_X7_bestFrom_35 a2 y3 h n x5 x7 = ((n : Int), x5 + (1099511627776 - h 151 (h 152 x7)), x7 + 1) := by
        unfold B_X7_bestFrom_35 s_X7_bestFrom_6 s_X7_bestFrom_7
        rw [hj, t1, if_pos c1, if_pos rfl, if_pos rfl]
      have i := ih n (x5 + (1099511627776 - h 151 (h 152 x7))) hn (by omega) (by omega) (by omega)
      have u := un _ _ eB i.1
      refine ⟨u.1, ?_⟩
      rw [u.2, i.2, el, scan_c n (by rw [fb_at hjn]; exact c1), hj]
      omega
    · cases n with
      | zero =>
        have eB : B_X7_bestFrom_35 a2 y3 h (0 : Nat) x5 x7 = (((0 : Nat) : Int), x5, x7 + 1) := by
          unfold B_X7_bestFrom_35 s_X7_bestFrom_6 s_X7_bestFrom_7
          rw [hj, t1, if_neg c1, if_neg (by omega), if_pos (by omega), if_neg (by omega), if_pos (by omega)]
        have i := ih 0 x5 (by omega) (by omega) (by omega) (by omega)
        have u := un _ _ eB i.1
        refine ⟨u.1, ?_⟩
        rw [u.2, i.2, el, scan_0 (by rw [fb_at hjn]; exact c1)]
      | succ n =>
        by_cases c2 : bt a2 j = true
        · have eB : B_X7_bestFrom_35 a2 y3 h (n + 1 : Nat) x5 x7 = ((n : Int), x5 + (1099511627776 - h 151 (h 152 x7)), x7 + 1) := by
            unfold B_X7_bestFrom_35 s_X7_bestFrom_6 s_X7_bestFrom_7
            rw [hj, t1, t2, if_neg c1, if_pos c2, if_neg (show ¬ (0 : Int) = 1 by omega), if_neg (show ¬ ((n + 1 : Nat) : Int) ≤ 0 by omega), if_pos rfl, if_neg (show ¬ (0 : Int) = 1 by omega), if_neg (show ¬ ((n + 1 : Nat) : Int) ≤ 0 by omega), if_pos rfl, show ((n + 1 : Nat) : Int) + (-1) = n by omega]
          have i := ih n (x5 + (1099511627776 - h 151 (h 152 x7))) (by omega) (by omega) (by omega) (by omega)
          have u := un _ _ eB i.1
          refine ⟨u.1, ?_⟩
          rw [u.2, i.2, el, scan_t n (by rw [fb_at hjn]; exact c1) (by rw [fb_at hjn]; exact c2), hj]
          omega
        · have eB : B_X7_bestFrom_35 a2 y3 h (n + 1 : Nat) x5 x7 = (((n + 1 : Nat) : Int), x5, x7 + 1) := by
            unfold B_X7_bestFrom_35 s_X7_bestFrom_6 s_X7_bestFrom_7
            rw [hj, t1, t2, if_neg c1, if_neg c2, if_neg (show ¬ (0 : Int) = 1 by omega), if_neg (show ¬ ((n + 1 : Nat) : Int) ≤ 0 by omega), if_neg (show ¬ (0 : Int) = 1 by omega), if_neg (show ¬ (0 : Int) = 1 by omega), if_neg (show ¬ ((n + 1 : Nat) : Int) ≤ 0 by omega), if_neg (show ¬ (0 : Int) = 1 by omega)]
          have i := ih (n + 1) x5 (by omega) (by omega) (by omega) (by omega)
          have u := un _ _ eB i.1
          refine ⟨u.1, ?_⟩
          rw [u.2, i.2, el, scan_s (n + 1) (by rw [fb_at hjn]; exact c1) (by rw [fb_at hjn]; exact c2)]
