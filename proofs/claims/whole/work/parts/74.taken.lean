/-! The class's Placer: what it takes from the hall. -/
/-- how many of the first n works are open, and the one that comes k-th -/
noncomputable def opn (z : Int → Int) : Nat → Nat
  | 0 => 0
  | n + 1 => if zopen z n then opn z n + 1 else opn z n
noncomputable def opc (z : Int → Int) : Nat → Int → Int
  | 0 => fun _ => -1
  | n + 1 => fun k => if zopen z n ∧ k = opn z n then n else opc z n k
section OP
variable {z : Int → Int}
theorem opn_t {n : Nat} (h : zopen z n) : opn z (n + 1) = opn z n + 1 := if_pos h
theorem opn_f {n : Nat} (h : ¬ zopen z n) : opn z (n + 1) = opn z n := if_neg h
theorem opc_f {n : Nat} (h : ¬ zopen z n) : opc z (n + 1) = opc z n := funext fun _ => if_neg fun q => h q.1
theorem opc_t {n : Nat} (h : zopen z n) (k : Int) : opc z (n + 1) k = if k = opn z n then (n : Int) else opc z n k := by
  show (if zopen z n ∧ k = opn z n then (n : Int) else opc z n k) = _
  by_cases c : k = opn z n
  · rw [if_pos c, if_pos ⟨h, c⟩]
  · rw [if_neg c, if_neg fun q => c q.2]
theorem opn_le : ∀ n : Nat, opn z n ≤ n
  | 0 => Nat.le_refl 0
  | n + 1 => by
    have := opn_le n
    by_cases c : zopen z n
    · rw [opn_t c]; omega
    · rw [opn_f c]; omega
theorem opc_rng : ∀ (n : Nat) (k : Int), 0 ≤ k → k < opn z n → 0 ≤ opc z n k ∧ opc z n k < n ∧ zopen z (opc z n k)
  | 0, k, h1, h2 => by unfold opn at h2; omega
  | n + 1, k, h1, h2 => by
    have ih := opc_rng n k h1
    by_cases c : zopen z n
    · rw [opn_t c] at h2
      rw [opc_t c]
      by_cases e : k = opn z n
      · rw [if_pos e]; exact ⟨by omega, by omega, c⟩
      · rw [if_neg e]
        obtain ⟨i1, i2, i3⟩ := ih (by omega)
        exact ⟨i1, by omega, i3⟩
    · rw [opn_f c] at h2
      rw [opc_f c]
      obtain ⟨i1, i2, i3⟩ := ih h2
      exact ⟨i1, by omega, i3⟩
theorem opc_lt : ∀ (n : Nat) (j k : Int), 0 ≤ j → j < k → k < opn z n → opc z n j < opc z n k
  | 0, j, k, h1, h2, h3 => by unfold opn at h3; omega
  | n + 1, j, k, h1, h2, h3 => by
    have ih := opc_lt n j k h1 h2
    by_cases c : zopen z n
    · rw [opn_t c] at h3
      rw [opc_t c, opc_t c, if_neg (show ¬ j = opn z n by omega)]
      by_cases e : k = opn z n
      · rw [if_pos e]; exact (opc_rng n j h1 (by omega)).2.1
      · rw [if_neg e]; exact ih (by omega)
    · rw [opn_f c] at h3
      rw [opc_f c]
      exact ih h3
theorem opc_sur : ∀ (n : Nat) (w : Int), 0 ≤ w → w < n → zopen z w → ∃ k : Int, 0 ≤ k ∧ k < opn z n ∧ opc z n k = w
  | 0, w, h1, h2, _ => by omega
  | n + 1, w, h1, h2, h3 => by
    by_cases e : w = n
    · subst e
      exact ⟨opn z n, by omega, by rw [opn_t h3]; omega, by rw [opc_t h3, if_pos rfl]⟩
    · obtain ⟨k, k1, k2, k3⟩ := opc_sur n w h1 (by omega) h3
      by_cases c : zopen z n
      · exact ⟨k, k1, by rw [opn_t c]; omega, by rw [opc_t c, if_neg (by omega)]; exact k3⟩
      · exact ⟨k, k1, by rw [opn_f c]; exact k2, by rw [opc_f c]; exact k3⟩
theorem opn_mono (n : Nat) : ∀ d : Nat, opn z n ≤ opn z (n + d) ∧ (opn z n = opn z (n + d) → opc z (n + d) = opc z n)
  | 0 => ⟨Nat.le_refl _, fun _ => rfl⟩
  | d + 1 => by
    have ih := opn_mono n d
    rw [show n + (d + 1) = n + d + 1 by omega]
    by_cases c : zopen z ((n + d : Nat) : Int)
    · rw [opn_t c]; exact ⟨by omega, fun q => by omega⟩
    · rw [opn_f c, opc_f c]; exact ih
theorem opn_zs : ∀ n : Nat, zs (fun w => if zopen z w then 1 else 0) n = opn z n
  | 0 => rfl
  | n + 1 => by
    show zs (fun w => if zopen z w then 1 else 0) n + (if zopen z n then 1 else 0) = _
    rw [opn_zs n]
    by_cases c : zopen z n
    · rw [if_pos c, opn_t c]; omega
    · rw [if_neg c, opn_f c]; omega
/-- the Placer takes the open works -/
theorem take_works {h : pH} {nw : Nat} (hw : h 22 15 = nw) (h16 : nw ≤ 16) (ho : ∀ w : Int, 0 ≤ w → w < nw → (h 33 w = 1 ↔ zopen z w)) (h8 : opn z nw ≤ 8) :
    P_X7_takeWorks 22 h ∧ (∀ a, a ≠ 147 → a ≠ 148 → a ≠ 149 → H_X7_takeWorks 22 h a = h a) ∧ (∀ k : Int, k ≠ 5 → H_X7_takeWorks 22 h 147 k = h 147 k) ∧ H_X7_takeWorks 22 h 147 5 = opn z nw ∧
    ∀ k : Int, 0 ≤ k → k < opn z nw → H_X7_takeWorks 22 h 148 k = opc z nw k ∧ H_X7_takeWorks 22 h 149 k = h 31 (opc z nw k) := by
  have key := fx_ruleM (σ := Int × pH) (c := fun s => C_X7_takeWorks_5 22 s.1 s.2) (f := fun s => B_X7_takeWorks_5 22 s.1 s.2) (P := fun s => P_X7_takeWorks_5 22 s.1 s.2)
    (fun s => ∃ n : Nat, s.1 = n ∧ n ≤ nw ∧ s.2 147 5 = opn z n ∧ (∀ a, a ≠ 147 → a ≠ 148 → a ≠ 149 → s.2 a = h a) ∧ (∀ k : Int, k ≠ 5 → s.2 147 k = h 147 k) ∧ ∀ k : Int, 0 ≤ k → k < opn z n → s.2 148 k = opc z n k ∧ s.2 149 k = h 31 (opc z n k))
    (fun s => nw - s.1.toNat) (by
      rintro ⟨x, h'⟩ ⟨n, hx, hn, e5, hf, hk, hv⟩
      simp only at hx e5 hf hk hv
      subst hx
      have e22 := hf 22 (by omega) (by omega) (by omega)
      have e33 := hf 33 (by omega) (by omega) (by omega)
      have e31 := hf 31 (by omega) (by omega) (by omega)
      have s1 : s_X7_takeWorks_1 22 n h' = pm_upd (pm_upd h' 148 (opn z n) n) 149 (opn z n) (h 31 n) := by
        unfold s_X7_takeWorks_1
        rw [up_cell h' (show (147 : Int) ≠ 148 by omega), e5, show (22 : Int) + 9 = 31 by omega, up_cell h' (show (31 : Int) ≠ 148 by omega), e31]
      have s15 : s_X7_takeWorks_1 22 n h' 147 5 = opn z n := by
        rw [s1, up_cell _ (show (147 : Int) ≠ 149 by omega), up_cell _ (show (147 : Int) ≠ 148 by omega), e5]
      refine ⟨?_, fun hc => ?_⟩
      · simp only
        unfold P_X7_takeWorks_5 fx_i
        intro q
        rw [up_cell h' (show (147 : Int) ≠ 148 by omega), s15, e5]
        rw [e22, hw, e5] at q
        exact ⟨by omega, fun _ => ⟨by omega, by omega, by omega⟩, by omega⟩
      · have hc' : (n : Int) < h' 22 15 ∧ h' 147 5 < 8 := hc
        rw [e22, hw, e5] at hc'
        have hon := ho n (by omega) (by omega)
        unfold B_X7_takeWorks_5
        simp only
        rw [show (22 : Int) + 11 = 33 by omega, e33]
        refine ⟨⟨n + 1, by omega, by omega, ?_⟩, by omega⟩
        by_cases c : zopen z n
        · rw [if_pos (hon.mpr c)]
          have s2 : s_X7_takeWorks_2 22 n h' = pm_upd (pm_upd (pm_upd h' 148 (opn z n) n) 149 (opn z n) (h 31 n)) 147 5 ((opn z n : Int) + 1) := by
            unfold s_X7_takeWorks_2
            rw [s15, s1]
          rw [s2, opn_t c]
          refine ⟨by rw [up_eq]; omega, fun a a1 a2 a3 => ?_, fun k hk' => ?_, fun k k1 k2 => ?_⟩
          · rw [up_cell _ a1, up_cell _ a3, up_cell _ a2]; exact hf a a1 a2 a3
          · rw [up_pl _ hk', up_cell _ (show (147 : Int) ≠ 149 by omega), up_cell _ (show (147 : Int) ≠ 148 by omega)]; exact hk k hk'
          · rw [up_cell _ (show (148 : Int) ≠ 147 by omega), up_cell _ (show (149 : Int) ≠ 147 by omega), up_cell _ (show (148 : Int) ≠ 149 by omega), opc_t c]
            by_cases e : k = opn z n
            · rw [if_pos e, e, up_eq, up_eq]; exact ⟨rfl, rfl⟩
            · rw [if_neg e, up_pl _ e, up_pl _ e, up_cell _ (show (149 : Int) ≠ 148 by omega)]
              exact hv k k1 (by omega)
        · rw [if_neg (fun q => c (hon.mp q)), opn_f c, opc_f c]
          exact ⟨e5, hf, hk, hv⟩)
    (0, pm_upd h 147 5 0) ⟨0, rfl, by omega, by simp only; rw [up_eq]; rfl, fun a a1 a2 a3 => up_cell h a1, fun k hk => up_pl h hk, fun k k1 k2 => by unfold opn at k2; omega⟩
  obtain ⟨k1, ⟨n, n1, n2, n3, n4, n5, n6⟩, k3⟩ := key
  refine ⟨k1, n4, n5, ?_⟩
  have e22 := n4 22 (by omega) (by omega) (by omega)
  have k3' : ¬ ((n : Int) < (H_X7_takeWorks 22 h) 22 15 ∧ (H_X7_takeWorks 22 h) 147 5 < 8) := by
    intro q
    refine k3 ⟨?_, q.2⟩
    rw [n1]
    exact q.1
  have n3' : H_X7_takeWorks 22 h 147 5 = opn z n := n3
  have e22' : H_X7_takeWorks 22 h 22 = h 22 := e22
  rw [e22', hw, n3'] at k3'
  have mo := opn_mono (z := z) n (nw - n)
  rw [show n + (nw - n) = nw by omega] at mo
  have e : opn z n = opn z nw := by
    by_cases c : n = nw
    · rw [c]
    · omega
  rw [n3', mo.2 e, ← e]
  exact ⟨rfl, n6⟩
end OP
/-- the machines' gauges by the model's row -/
noncomputable def gmz (z : Int → Int) (nm : Nat) (m : Int) : Int := if 0 ≤ m ∧ m < nm then zgauge z (z (84 + m)) else 0
noncomputable def fitz (z : Int → Int) (m : Int) : Prop := z (134 + m) = 0 ∧ z (144 + m) = 0
theorem take_machines {h : pH} {z : Int → Int} {nm : Nat} (h8n : h 8 10 = nm) (h10 : nm ≤ 10) (h8 : 0 ≤ h 2 8 ∧ h 2 8 ≤ 5) (hc : ∀ m : Int, 0 ≤ m → m < nm → 0 ≤ h 9 m ∧ h 9 m < 12 ∧ s_X0_gauge_1 2 (h 9 m) h = zgauge z (z (84 + m)) ∧ h 14 m = z (134 + m) ∧ h 15 m = z (144 + m)) :
    P_X7_takeMachines 1 h ∧ (∀ a, a ≠ 147 → a ≠ 151 → a ≠ 152 → H_X7_takeMachines 1 h a = h a) ∧ (∀ k : Int, k ≠ 6 → H_X7_takeMachines 1 h 147 k = h 147 k) ∧ H_X7_takeMachines 1 h 147 6 = nm ∧
    (∀ m : Int, 0 ≤ m → m < nm → H_X7_takeMachines 1 h 151 m = gmz z nm m ∧ H_X7_takeMachines 1 h 152 m = zins (gmz z nm) nm m) ∧ ∀ m : Nat, m < nm → (bt (F_X7_takeMachines 1 h) m = true ↔ fitz z m) := by
  have key := fx_rule (σ := Int × Int × pH) (c := fun s => C_X7_takeMachines_9 1 s.1 s.2.1 s.2.2) (f := fun s => B_X7_takeMachines_9 1 s.1 s.2.1 s.2.2) (P := fun s => P_X7_takeMachines_9 1 s.1 s.2.1 s.2.2) (s0 := (0, 0, pm_upd h 147 6 (h (1 + 7) 10))) nm
    (fun i s => s.2.1 = i ∧ i ≤ nm ∧ (∀ a, a ≠ 151 → a ≠ 152 → s.2.2 a = pm_upd h 147 6 nm a) ∧ (∀ m : Int, 0 ≤ m → m < i → s.2.2 151 m = gmz z nm m ∧ s.2.2 152 m = zins (gmz z nm) i m) ∧ ∀ m : Nat, m < nm → (bt s.1 m = true ↔ (m < i ∧ fitz z m)))
    ⟨rfl, by omega, fun a _ _ => by simp only; rw [show (1 : Int) + 7 = 8 by omega, h8n], fun m m1 m2 => by omega, fun m hm => by
      simp only
      have : bt 0 m = false := by unfold bt bv; simp
      rw [this]
      exact ⟨fun q => absurd q (by simp), fun q => absurd q.1 (by omega)⟩⟩ ?_ ?_
  · obtain ⟨k1, k2, k3, k4, k5, k6⟩ := key
    refine ⟨k1, fun a a1 a2 a3 => ?_, fun k hk => ?_, ?_, k5, fun m hm => ?_⟩
    · exact (k4 a a2 a3).trans (up_cell h a1)
    · exact (congrFun (k4 147 (by omega) (by omega)) k).trans (up_pl h hk)
    · exact (congrFun (k4 147 (by omega) (by omega)) 6).trans (up_eq h _ _ _)
    · exact (k6 m hm).trans ⟨fun q => q.2, fun q => ⟨hm, q⟩⟩
  · rintro i ⟨x2, x, h'⟩ hi ⟨hx, hi2, hf, hv, hb⟩
    simp only at hx hf hv hb
    subst hx
    have ff : ∀ a, a ≠ 147 → a ≠ 151 → a ≠ 152 → h' a = h a := fun a a1 a2 a3 => (hf a a2 a3).trans (up_cell h a1)
    have e6 : h' 147 6 = nm := (congrFun (hf 147 (by omega) (by omega)) 6).trans (up_eq h _ _ _)
    have e2 := ff 2 (by omega) (by omega) (by omega)
    have e3 := ff 3 (by omega) (by omega) (by omega)
    have e6' := ff 6 (by omega) (by omega) (by omega)
    have e9 := ff 9 (by omega) (by omega) (by omega)
    have e14 := ff 14 (by omega) (by omega) (by omega)
    have e15 := ff 15 (by omega) (by omega) (by omega)
    obtain ⟨c1, c2, c3, c4, c5⟩ := hc i (by omega) (by omega)
    have eg : s_X0_gauge_1 (1 + 1) (h' (1 + 8) i) h' = gmz z nm i := by
      have e : gmz z nm i = zgauge z (z (84 + i)) := if_pos ⟨by omega, by omega⟩
      rw [e, ← c3, show (1 : Int) + 8 = 9 by omega, show (1 : Int) + 1 = 2 by omega, e9]
      unfold s_X0_gauge_1
      rw [show (2 : Int) + 1 = 3 by omega, show (2 : Int) + 4 = 6 by omega, e2, e3, e6']
    have hgp : P_X0_gauge (1 + 1) (h' (1 + 8) i) h' := by
      unfold P_X0_gauge fx_i
      rw [show (1 : Int) + 8 = 9 by omega, show (1 : Int) + 1 = 2 by omega, e9, e2]
      generalize h 9 i = u at *
      generalize h 2 8 = v at *
      clear hc hf hv hb ff c3 c4 c5
      omega
    generalize hk : gmz z nm = ky at *
    have v51 : ∀ m : Int, 0 ≤ m → m < i + 1 → pm_upd h' 151 i (ky i) 151 m = ky m := fun m m1 m2 => by
      by_cases e : m = i
      · rw [e, up_eq]
      · rw [up_pl _ e]; exact (hv m m1 (by omega)).1
    have lp := ins_loop (c := fun s => C_X7_takeMachines_27 1 x2 i s.1 s.2) (f := fun s => B_X7_takeMachines_27 1 x2 i s.1 s.2) (P := fun s => P_X7_takeMachines_27 1 x2 i s.1 s.2) 152 (pm_upd h' 151 i (ky i)) i ky (fun _ _ => rfl) ?_
    · obtain ⟨l1, l2, l3, l4⟩ := lp
      rw [up_cell h' (show (152 : Int) ≠ 151 by omega)] at l2 l4
      have hp := zpos_le ky (h' 152) i i
      have e1 : s_X7_takeMachines_1 1 x2 i h' = zpos ky (h' 152) i i := by
        unfold s_X7_takeMachines_1
        rw [eg]; exact l2
      have e2' : s_X7_takeMachines_2 1 x2 i h' = (fx_wh (fun s => C_X7_takeMachines_27 1 x2 i s.1 s.2) (fun s => B_X7_takeMachines_27 1 x2 i s.1 s.2) ((i : Int), pm_upd h' 151 i (ky i))).2 := by
        unfold s_X7_takeMachines_2
        rw [eg]; rfl
      rw [← e2'] at l3 l4
      have hz : zpos ky (zins ky i) i i = zpos ky (h' 152) i i := zpos_congr rfl (fun q a b => by rw [(hv q a b).2])
      have f3 : ∀ a, a ≠ 151 → a ≠ 152 → s_X7_takeMachines_3 1 x2 i h' a = h' a := fun a a1 a2 => by
        unfold s_X7_takeMachines_3
        rw [up_cell _ a2, l3 a a2, up_cell _ a1]
      have hfit : F_X6_isFit (1 + 7) i (s_X7_takeMachines_3 1 x2 i h') = if z (134 + i) = 0 ∧ z (144 + i) = 0 then 1 else 0 := by
        unfold F_X6_isFit
        rw [f3 _ (by omega) (by omega), f3 _ (by omega) (by omega), show (1 : Int) + 7 + 6 = 14 by omega, show (1 : Int) + 7 + 7 = 15 by omega, e14, e15, c4, c5]
      refine ⟨?_, ?_, ?_, by omega, ?_, ?_, ?_⟩
      · simp only
        unfold P_X7_takeMachines_9 P_X6_isFit fx_i
        intro q
        refine ⟨by omega, hgp, ?_, by rw [e1]; omega, by omega, by omega⟩
        rw [eg]; exact l1
      · show (i : Int) < h' 147 6
        omega
      · show (i : Int) + 1 = ((i + 1 : Nat) : Int)
        omega
      · intro a a1 a2
        exact (f3 a a1 a2).trans (hf a a1 a2)
      · intro m m1 m2
        show s_X7_takeMachines_3 1 x2 i h' 151 m = _ ∧ s_X7_takeMachines_3 1 x2 i h' 152 m = _
        unfold s_X7_takeMachines_3
        rw [up_cell _ (show (151 : Int) ≠ 152 by omega), l3 151 (by omega)]
        refine ⟨v51 m m1 (by omega), ?_⟩
        rw [up_app, e1, l4 m]
        unfold zins
        rw [hz]
        have v1 := hv m
        have v2 := hv (m - 1)
        clear hc hb
        grind
      · intro m hm
        show bt (s_X7_takeMachines_4 1 x2 i h') m = true ↔ _
        unfold s_X7_takeMachines_4
        rw [hfit]
        by_cases c : z (134 + i) = 0 ∧ z (144 + i) = 0
        · rw [if_pos c, if_neg (by omega), bt_on (by omega) (by omega), Bool.or_eq_true, hb m hm, decide_eq_true_iff]
          constructor
          · rintro (q | q)
            · exact ⟨by omega, q.2⟩
            · rw [q]; exact ⟨by omega, c⟩
          · rintro ⟨q1, q2⟩
            by_cases e : m = i
            · exact Or.inr e
            · exact Or.inl ⟨by omega, q2⟩
        · rw [if_neg c, if_pos rfl, hb m hm]
          constructor
          · rintro ⟨q1, q2⟩; exact ⟨by omega, q2⟩
          · rintro ⟨q1, q2⟩
            by_cases e : m = i
            · rw [e] at q2; exact absurd q2 c
            · exact ⟨by omega, q2⟩
    · intro x h2 x1 x2' hf' hv'
      have g51 : h2 151 = pm_upd h' 151 i (ky i) 151 := hf' 151 (by omega)
      have gi := v51 i (by omega) (by omega)
      rw [up_cell h' (show (152 : Int) ≠ 151 by omega)] at hv' ⊢
      rcases Int.lt_or_le 0 x with q | q
      · have hw := zins_rng ky i (x - 1) (by omega) (by omega)
        rw [← (hv (x - 1) (by omega) (by omega)).2] at hw
        have hq := hv' q
        have gj := v51 (h' 152 (x - 1)) hw.1 (by omega)
        simp only
        unfold P_X7_takeMachines_27 C_X7_takeMachines_27 fx_i
        rw [hq, g51, gi, gj]
        generalize h' 152 (x - 1) = u at *
        clear hv hf hf' hv' hc hb v51 ff
        exact ⟨⟨fun _ => by omega, fun _ => by omega⟩, Iff.rfl⟩
      · simp only
        unfold P_X7_takeMachines_27 C_X7_takeMachines_27
        exact ⟨⟨fun y => by omega, fun y => by omega⟩, ⟨fun y => by omega, fun y => by omega⟩⟩
  · rintro ⟨x2, x, h'⟩ ⟨hx, hi2, hf, hv, hb⟩
    simp only at hx hf
    subst hx
    have e6 : h' 147 6 = nm := (congrFun (hf 147 (by omega) (by omega)) 6).trans (up_eq h _ _ _)
    refine ⟨?_, ?_⟩
    · show P_X7_takeMachines_9 1 x2 nm h'
      unfold P_X7_takeMachines_9
      intro q; omega
    · show ¬ (nm : Int) < h' 147 6
      omega
