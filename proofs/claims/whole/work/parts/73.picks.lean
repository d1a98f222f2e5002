/-! The class's Placer: which machine each work gets. -/
theorem lose_cg {p p' : Int → Int} {N : Nat} : ∀ {r : Nat}, r ≤ N → (∀ j : Int, 0 ≤ j → j < N → p j = p' j) → lose p N r = lose p' N r
  | 0, _, _ => rfl
  | r + 1, hr, h => by
    show lose p N r + (if p ((N : Int) - 1 - r) = -1 then 1 else 0) = lose p' N r + (if p' ((N : Int) - 1 - r) = -1 then 1 else 0)
    rw [lose_cg (by omega) h, h _ (by omega) (by omega)]
theorem clm_cg {p p' : Int → Int} {F : Int → Bool} {N : Nat} {x : Int} : ∀ {r : Nat}, r ≤ N → (∀ j : Int, 0 ≤ j → j < N → p j = p' j) → clm p F N r x = clm p' F N r x
  | 0, _, _ => rfl
  | r + 1, hr, h => by
    show (clm p F N r x || (decide (p ((N : Int) - 1 - r) = x ∧ p ((N : Int) - 1 - r) ≠ -1) && F x)) = (clm p' F N r x || (decide (p' ((N : Int) - 1 - r) = x ∧ p' ((N : Int) - 1 - r) ≠ -1) && F x))
    rw [clm_cg (by omega) h, h _ (by omega) (by omega)]
theorem lst_cg {f f' : Int → Int} {n : Nat} : ∀ {r : Nat}, r ≤ n → (∀ j : Int, 0 ≤ j → j < n → f j = f' j) → lst f n r = lst f' n r
  | 0, _, _ => rfl
  | r + 1, hr, h => by
    show f ((n : Int) - 1 - r) :: lst f n r = f' ((n : Int) - 1 - r) :: lst f' n r
    rw [lst_cg (by omega) h, h _ (by omega) (by omega)]
theorem scan_w {w w' : Int → Int} {c F : Int → Bool} : ∀ (L : List Int) (n : Nat), (∀ m, m ∈ L → w m = w' m) → scan w c F L n = scan w' c F L n
  | [], _, _ => rfl
  | m :: L, n, h => by
    have hm := h m (List.mem_cons_self ..)
    have ih := fun n => scan_w L n (c := c) (F := F) (fun x hx => h x (List.mem_cons_of_mem _ hx))
    by_cases a : c m = true
    · rw [scan_c n a, scan_c n a, ih, hm]
    · cases n with
      | zero => rw [scan_0 a, scan_0 a, ih]
      | succ n =>
        by_cases f : F m = true
        · rw [scan_t n a f, scan_t n a f, ih, hm]
        · rw [scan_s _ a f, scan_s _ a f, ih]
theorem scan_bd {w : Int → Int} {c F : Int → Bool} {B : Int} (hw : ∀ m, 0 ≤ w m ∧ w m ≤ B) : ∀ (L : List Int) (n : Nat), 0 ≤ scan w c F L n ∧ scan w c F L n ≤ (L.length : Int) * B
  | [], n => by unfold scan; simp
  | m :: L, n => by
    have ih := scan_bd (c := c) (F := F) hw L
    have := hw m
    have el : ((m :: L).length : Int) * B = (L.length : Int) * B + B := by
      rw [List.length_cons, show ((L.length + 1 : Nat) : Int) = (L.length : Int) + 1 by omega, Int.add_mul, Int.one_mul]
    rw [el]
    by_cases a : c m = true
    · rw [scan_c n a]; have := ih n; omega
    · cases n with
      | zero => rw [scan_0 a]; have := ih 0; omega
      | succ n =>
        by_cases f : F m = true
        · rw [scan_t n a f]; have := ih n; omega
        · rw [scan_s _ a f]; have := ih (n + 1); omega
theorem scan_no {w : Int → Int} {c F : Int → Bool} : ∀ (L : List Int), (∀ m, m ∈ L → ¬ c m = true) → scan w c F L 0 = 0
  | [], _ => rfl
  | m :: L, h => by
    rw [scan_0 (h m (List.mem_cons_self ..))]
    exact scan_no L (fun x hx => h x (List.mem_cons_of_mem _ hx))
theorem len_lst {f : Int → Int} {n : Nat} : ∀ {r : Nat}, (lst f n r).length = r
  | 0 => rfl
  | r + 1 => by
    show (f ((n : Int) - 1 - r) :: lst f n r).length = r + 1
    rw [List.length_cons, len_lst]
/-- works' pins, machines' gauges, machines in the order of gauges -/
noncomputable def OKP (pin gm ks : Int → Int) (N nm : Nat) : Prop := N ≤ 8 ∧ nm ≤ 10 ∧ (∀ j : Int, 0 ≤ j → j < N → pin j = -1 ∨ (0 ≤ pin j ∧ pin j < nm)) ∧ (∀ m : Int, -150022500 ≤ gm m ∧ gm m ≤ 100000000) ∧ (∀ k : Int, 0 ≤ k → k < nm → 0 ≤ ks k ∧ ks k < nm) ∧
  (∀ j k : Int, 0 ≤ j → j < nm → 0 ≤ k → k < nm → ks j = ks k → j = k) ∧ (∀ m : Int, 0 ≤ m → m < nm → ∃ k : Int, 0 ≤ k ∧ k < nm ∧ ks k = m) ∧ ∀ j k : Int, 0 ≤ j → j < k → k < nm → gm (ks j) ≤ gm (ks k)
noncomputable def SETP (h : pH) (pin gm ks : Int → Int) (N nm : Nat) : Prop := h 147 5 = N ∧ h 147 6 = nm ∧ (∀ j : Int, 0 ≤ j → j < N → h 149 j = pin j) ∧ (∀ m : Int, 0 ≤ m → m < nm → h 151 m = gm m) ∧ ∀ k : Int, 0 ≤ k → k < nm → h 152 k = ks k
/-- the best of the last r works with the machines F -/
noncomputable def VV (pin gm ks : Int → Int) (N nm r : Nat) (F : Int → Bool) : Int := opt (fun m => 1099511627776 - gm m) pin (lst ks nm nm) N r F
section PK
variable {pin gm ks : Int → Int} {N nm : Nat}
theorem VV_bd (ok : OKP pin gm ks N nm) (r : Nat) (F : Int → Bool) : 0 ≤ VV pin gm ks N nm r F ∧ VV pin gm ks N nm r F ≤ 10 * 2199023255552 := by
  obtain ⟨hN, hm, hp, hg, hk, hi, hs, ho⟩ := ok
  have := scan_bd (w := fun m => 1099511627776 - gm m) (c := clm pin F N r) (F := F) (B := 2199023255552) (fun m => by have := hg m; omega) (lst ks nm nm) (lose pin N r)
  rw [len_lst] at this
  have h2 : (nm : Int) * 2199023255552 ≤ 10 * 2199023255552 := Int.mul_le_mul_of_nonneg_right (by omega) (by omega)
  unfold VV opt
  omega
theorem VV_0 (F : Int → Bool) : VV pin gm ks N nm 0 F = 0 := by
  unfold VV opt
  exact scan_no _ (fun m _ => by unfold clm; simp)
theorem VV_max (ok : OKP pin gm ks N nm) {r : Nat} {F : Int → Bool} (hF : ∀ m, F m = true → 0 ≤ m ∧ m < nm) :
    VV pin gm ks N nm r F ≤ VV pin gm ks N nm (r + 1) F ∧ (∀ q, F q = true → (pin ((N : Int) - 1 - r) = -1 ∨ pin ((N : Int) - 1 - r) = q) → (1099511627776 - gm q) + VV pin gm ks N nm r (offF F q) ≤ VV pin gm ks N nm (r + 1) F) ∧
    (VV pin gm ks N nm (r + 1) F = VV pin gm ks N nm r F ∨ ∃ q, F q = true ∧ (pin ((N : Int) - 1 - r) = -1 ∨ pin ((N : Int) - 1 - r) = q) ∧ VV pin gm ks N nm (r + 1) F = (1099511627776 - gm q) + VV pin gm ks N nm r (offF F q)) := by
  obtain ⟨hN, hm, hp, hg, hk, hi, hs, ho⟩ := ok
  exact opt_max (w := fun m => 1099511627776 - gm m) (fun m => by have := hg m; omega) (nodup_lst hi (Nat.le_refl _)) (srt_lst (fun j k a1 a2 a3 => by have := ho j k a1 a2 a3; omega) (Nat.le_refl _)) (fun m q => by
    obtain ⟨b1, b2⟩ := hF m q
    obtain ⟨k, k1, k2, k3⟩ := hs m b1 b2
    exact mem_lst.mpr ⟨k, by omega, k2, k3⟩) (fun m q => by
    obtain ⟨k, k1, k2, k3⟩ := mem_lst.mp q
    have := hk k (by omega) k2
    omega)
theorem best_from {h : pH} (ok : OKP pin gm ks N nm) (se : SETP h pin gm ks N nm) {r : Nat} (hr : r ≤ N) {i : Int} (hi : i = (N : Int) - r) (a2 : Int) :
    P_X7_bestFrom i a2 h ∧ F_X7_bestFrom i a2 h = VV pin gm ks N nm r (fb nm a2) := by
  obtain ⟨hN, hm, hp, hg, hk, hj, hs, ho⟩ := ok
  obtain ⟨s5, s6, sp, sg, sk⟩ := se
  have b1 := best_1 h N nm a2 s5 hN hm (fun j j1 j2 => by rw [sp j j1 j2]; exact hp j j1 j2) r hr 0 0 i hi (by omega) (by omega)
  obtain ⟨o1, l1, c1⟩ := b1
  have hlose : ∀ r : Nat, lose (h 149) N r ≤ r := by
    intro r
    induction r with
    | zero => exact Nat.le_refl 0
    | succ r ih =>
      show lose (h 149) N r + (if h 149 ((N : Int) - 1 - r) = -1 then 1 else 0) ≤ r + 1
      split <;> omega
  have b2 := best_2 h nm a2 (s_X7_bestFrom_3 i a2 h) s6 hm (fun k k1 k2 => by rw [sk k k1 k2]; exact hk k k1 k2) (fun m m1 m2 => by rw [sg m m1 m2]; have := hg m; omega) nm (Nat.le_refl _) (lose (h 149) N r) 0 0 (by have := hlose r; omega) (by omega) (by omega) (by omega)
  have e4 : s_X7_bestFrom_4 i a2 h = ((lose (h 149) N r : Nat) : Int) := by
    show (L_X7_bestFrom_6 a2 h 0 0 i).2.1 = _
    rw [l1]; omega
  refine ⟨⟨o1, by rw [e4]; exact b2.1⟩, ?_⟩
  show (L_X7_bestFrom_35 a2 (s_X7_bestFrom_3 i a2 h) h (s_X7_bestFrom_4 i a2 h) 0 0).2.1 = _
  rw [e4, b2.2, Int.zero_add]
  unfold VV opt
  rw [lose_cg hr sp, lst_cg (Nat.le_refl _) sk, scan_w (w' := fun m => 1099511627776 - gm m) _ _ (fun m q => by
    obtain ⟨k, k1, k2, k3⟩ := mem_lst.mp q
    have := hk k (by omega) k2
    rw [sg m (by omega) (by omega)])]
  refine scan_cg _ _ (fun m q => ⟨?_, rfl⟩)
  obtain ⟨k, k1, k2, k3⟩ := mem_lst.mp q
  have hm' := hk k (by omega) k2
  obtain ⟨n, hn⟩ : ∃ n : Nat, m = n := ⟨m.toNat, by omega⟩
  subst hn
  rw [fb_at (by omega)]
  show bt (L_X7_bestFrom_6 a2 h 0 0 i).1 n = _
  rw [c1 n (by omega), clm_cg hr sp]
  have : bt 0 n = false := by unfold bt bv; simp
  rw [this, Bool.false_or]
/-- a machine that fits and leaves the best for those behind -/
noncomputable def GOOD (pin gm ks : Int → Int) (N nm r : Nat) (F : Int → Bool) (q : Int) : Prop := F q = true ∧ (pin ((N : Int) - 1 - r) = -1 ∨ pin ((N : Int) - 1 - r) = q) ∧ (1099511627776 - gm q) + VV pin gm ks N nm r (offF F q) = VV pin gm ks N nm (r + 1) F
noncomputable def PICK (pin gm ks : Int → Int) (N nm r : Nat) (F : Int → Bool) (q : Int) : Prop := (VV pin gm ks N nm r F = VV pin gm ks N nm (r + 1) F ∧ q = -1) ∨
  (VV pin gm ks N nm r F ≠ VV pin gm ks N nm (r + 1) F ∧ 0 ≤ q ∧ q < nm ∧ GOOD pin gm ks N nm r F q ∧ ∀ m : Int, 0 ≤ m → m < q → ¬ GOOD pin gm ks N nm r F m)
theorem PICK_one {r : Nat} {F : Int → Bool} {q q' : Int} (h : PICK pin gm ks N nm r F q) (h' : PICK pin gm ks N nm r F q') : q = q' := by
  rcases h with ⟨a, b⟩ | ⟨a, b1, b2, b3, b4⟩ <;> rcases h' with ⟨a', b'⟩ | ⟨a', b1', b2', b3', b4'⟩
  · omega
  · exact absurd a a'
  · exact absurd a' a
  · rcases Int.lt_trichotomy q q' with y | y | y
    · exact absurd b3 (b4' q b1 y)
    · exact y
    · exact absurd b3' (b4 q' b1' y)
theorem first_choice {h : pH} (ok : OKP pin gm ks N nm) (se : SETP h pin gm ks N nm) {r : Nat} (hr : r < N) {i a2 a3 : Int} (hi : i = (N : Int) - 1 - r) (h3 : a3 = VV pin gm ks N nm (r + 1) (fb nm a2)) :
    P_X7_firstChoice i a2 a3 h ∧ PICK pin gm ks N nm r (fb nm a2) (F_X7_firstChoice i a2 a3 h) := by
  have bf := fun a2 => best_from ok se (r := r) (by omega) (i := i + 1) (by omega) a2
  have hmax := VV_max ok (r := r) (F := fb nm a2) (fun m q => fb_in q)
  have vb := fun F => VV_bd ok r F
  obtain ⟨hN, hm, hp, hg, hk, hj, hs, ho⟩ := ok
  obtain ⟨s5, s6, sp, sg, sk⟩ := se
  by_cases c0 : VV pin gm ks N nm r (fb nm a2) = a3
  · have e0 : F_X7_bestFrom (i + 1) a2 h = a3 := by rw [(bf a2).2]; exact c0
    refine ⟨⟨by unfold fx_i; omega, (bf a2).1, fun q => absurd e0 q⟩, Or.inl ⟨by rw [c0, h3], ?_⟩⟩
    unfold F_X7_firstChoice
    rw [if_pos e0]
  · have e0 : ¬ F_X7_bestFrom (i + 1) a2 h = a3 := by rw [(bf a2).2]; exact c0
    have key := fx_ruleM (σ := Int × Int) (c := fun s => s.1 = 0) (f := fun s => B_X7_firstChoice_13 i a2 a3 h s.2) (P := fun s => s.1 = 0 → P_X7_firstChoice_13 i a2 a3 h s.2)
      (fun s => (∀ m : Int, 0 ≤ m → m < s.2 → ¬ GOOD pin gm ks N nm r (fb nm a2) m) ∧ ((s.1 = 0 ∧ 0 ≤ s.2 ∧ s.2 ≤ nm) ∨ (s.1 = 1 ∧ s.2 = nm) ∨ (s.1 = 2 ∧ 0 ≤ s.2 ∧ s.2 < nm ∧ GOOD pin gm ks N nm r (fb nm a2) s.2)))
      (fun s => if s.1 = 0 then (nm + 1 - s.2.toNat) else 0) (by
        rintro ⟨t, x⟩ ⟨hng, hc⟩
        simp only at hng hc ⊢
        refine ⟨fun ht => ?_, fun ht => ?_⟩
        · unfold P_X7_firstChoice_13 P_X7_worth fx_i fx_l
          intro q
          have hx : 0 ≤ x := by omega
          have g1 := sg x hx (by omega)
          have g2 := hg x
          have b := bf (pm_and a2 (pm_xor (pm_shl 1 x) (-1)))
          have v := vb (fb nm (pm_and a2 (pm_xor (pm_shl 1 x) (-1))))
          refine ⟨fun _ => by omega, fun _ => ⟨by omega, b.1, ⟨by omega, by omega⟩, by rw [b.2]; omega, fun _ => by omega⟩, fun _ => by omega⟩
        · subst ht
          have hx : 0 ≤ x ∧ x ≤ nm := by omega
          clear hc
          unfold B_X7_firstChoice_13
          by_cases c1 : h 147 6 ≤ x
          · rw [if_pos c1]
            refine ⟨⟨hng, Or.inr (Or.inl ⟨rfl, by simp only; omega⟩)⟩, ?_⟩
            rw [if_pos rfl, if_neg (show ¬ (1 : Int) = 0 by omega)]
            omega
          · rw [if_neg c1]
            obtain ⟨j, hj'⟩ : ∃ j : Nat, x = j := ⟨x.toNat, by omega⟩
            subst hj'
            have hjn : j < nm := by omega
            have et := bt_test (x := a2) (m := j) (by omega)
            have ef : fb nm a2 j = bt a2 j := fb_at hjn
            have eb := (bf (pm_and a2 (pm_xor (pm_shl 1 j) (-1)))).2
            rw [fb_off hm hjn] at eb
            have ep : h 149 i = pin ((N : Int) - 1 - r) := by rw [sp i (by omega) (by omega), hi]
            have eg := sg j (by omega) (by omega)
            have step : ¬ GOOD pin gm ks N nm r (fb nm a2) j → ((∀ m : Int, 0 ≤ m → m < (j : Int) + 1 → ¬ GOOD pin gm ks N nm r (fb nm a2) m) ∧ (((0 : Int) = 0 ∧ 0 ≤ (j : Int) + 1 ∧ (j : Int) + 1 ≤ nm) ∨ ((0 : Int) = 1 ∧ (j : Int) + 1 = nm) ∨ ((0 : Int) = 2 ∧ 0 ≤ (j : Int) + 1 ∧ (j : Int) + 1 < nm ∧ GOOD pin gm ks N nm r (fb nm a2) ((j : Int) + 1)))) ∧ (if (0 : Int) = 0 then (nm + 1 - ((j : Int) + 1).toNat) else 0) < (if (0 : Int) = 0 then (nm + 1 - (j : Int).toNat) else 0) := by
              intro ng
              refine ⟨⟨fun m m1 m2 => ?_, Or.inl ⟨rfl, by omega, by omega⟩⟩, ?_⟩
              · by_cases e : m = j
                · rw [e]; exact ng
                · exact hng m m1 (by omega)
              · rw [if_pos rfl, if_pos rfl]; omega
            by_cases c2 : pm_and (pm_shr a2 j) 1 = 1 ∧ (h 149 i = -1 ∨ h 149 i = j)
            · rw [if_pos c2]
              have fj : fb nm a2 j = true := by
                rw [ef]
                by_cases y : bt a2 j = true
                · exact y
                · rw [et, if_neg y] at c2; omega
              by_cases c3 : F_X7_bestFrom (i + 1) (pm_and a2 (pm_xor (pm_shl 1 j) (-1))) h + (1099511627776 - h 151 j) = a3
              · rw [if_pos c3]
                refine ⟨⟨hng, Or.inr (Or.inr ⟨rfl, by simp only; omega, by simp only; omega, fj, ?_, ?_⟩)⟩, ?_⟩
                · rw [← ep]; exact c2.2
                · simp only; rw [← h3, ← c3, eb, eg]; omega
                · rw [if_pos rfl, if_neg (show ¬ (2 : Int) = 0 by omega)]; omega
              · rw [if_neg c3]
                exact step (fun g => c3 (by rw [eb, eg, h3, ← g.2.2]; omega))
            · rw [if_neg c2]
              refine step (fun g => c2 ⟨?_, by rw [ep]; exact g.2.1⟩)
              have := g.1
              rw [ef] at this
              rw [et, if_pos this])
      (0, 0) ⟨fun m m1 m2 => by simp only at m2; omega, Or.inl ⟨rfl, by simp only; omega, by simp only; omega⟩⟩
    obtain ⟨k1, ⟨k2, k3⟩, k4⟩ := key
    refine ⟨⟨by unfold fx_i; omega, (bf a2).1, fun _ => k1⟩, ?_⟩
    unfold F_X7_firstChoice s_X7_firstChoice_1 s_X7_firstChoice_2
    rw [if_neg e0]
    change ∀ m : Int, 0 ≤ m → m < (L_X7_firstChoice_13 i a2 a3 h 0).2 → _ at k2
    change ((L_X7_firstChoice_13 i a2 a3 h 0).1 = 0 ∧ _) ∨ ((L_X7_firstChoice_13 i a2 a3 h 0).1 = 1 ∧ (L_X7_firstChoice_13 i a2 a3 h 0).2 = nm) ∨ ((L_X7_firstChoice_13 i a2 a3 h 0).1 = 2 ∧ 0 ≤ (L_X7_firstChoice_13 i a2 a3 h 0).2 ∧ (L_X7_firstChoice_13 i a2 a3 h 0).2 < nm ∧ GOOD pin gm ks N nm r (fb nm a2) (L_X7_firstChoice_13 i a2 a3 h 0).2) at k3
    change ¬ (L_X7_firstChoice_13 i a2 a3 h 0).1 = 0 at k4
    generalize L_X7_firstChoice_13 i a2 a3 h 0 = s at *
    rw [h3] at c0
    rcases k3 with k3 | ⟨k3, k5⟩ | ⟨k3, k5, k6, k7⟩
    · exact absurd k3.1 k4
    · exfalso
      rcases hmax.2.2 with y | ⟨q, q1, q2, q3⟩
      · exact c0 y.symm
      · have := fb_in q1
        exact k2 q this.1 (by omega) ⟨q1, q2, q3.symm⟩
    · rw [if_neg (by omega)]
      exact Or.inr ⟨c0, k5, k6, k7, k2⟩
end PK
