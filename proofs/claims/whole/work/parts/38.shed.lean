/-! Shedding, and what the store and the net give. -/
def zad (z : Int → Int) (m : Int) : Int := z (164 + m) * z (104 + m)
theorem drawnAll_X (b : Int) (h g : pH) (nm : Nat) (hn : h (b + 7) 10 = nm) (h10 : nm ≤ 10) (hr : ∀ m : Int, 0 ≤ m → m < nm → h (b + 16) m = g 249 (164 + m) ∧ 0 ≤ g 249 (164 + m) ∧ g 249 (164 + m) ≤ 3 ∧ h (b + 10) m = g 249 (104 + m) ∧ 0 ≤ g 249 (104 + m) ∧ g 249 (104 + m) ≤ 500) :
    P_X6_drawn (b + 7) h ∧ F_X6_drawn (b + 7) h = zs (zad (g 249)) nm := by
  have key := fx_rule (σ := Int × Int) (c := (fun s => C_X6_drawn_4 (b + 7) h s.1 s.2)) (f := (fun s => B_X6_drawn_4 (b + 7) h s.1 s.2)) (P := (fun s => P_X6_drawn_4 (b + 7) h s.1 s.2)) (s0 := (0, 0)) nm (fun i s => s = (zs (zad (g 249)) i, (i : Int)) ∧ i ≤ nm) ⟨rfl, by omega⟩ ?_ ?_
  · exact ⟨key.1, congrArg Prod.fst key.2.1⟩
  · rintro i s hi ⟨rfl, hi2⟩
    have hb := zs_bd (f := zad (g 249)) (n := i) (lo := 0) (hi := 1500) (fun c h1 h2 => by
      have q := hr c h1 (by omega)
      have := prod_bd q.2.1 q.2.2.1 q.2.2.2.2.1 q.2.2.2.2.2
      unfold zad; omega)
    have q := hr i (by omega) (by omega)
    have pb := prod_bd q.2.1 q.2.2.1 q.2.2.2.2.1 q.2.2.2.2.2
    have e2 : h (b + 7 + 9) = h (b + 16) := by rw [show b + 7 + 9 = b + 16 by omega]
    have e3 : h (b + 7 + 3) = h (b + 10) := by rw [show b + 7 + 3 = b + 10 by omega]
    simp only [P_X6_drawn_4, C_X6_drawn_4, B_X6_drawn_4, P_X6_drawOf, e2, e3, q.1, q.2.2.2.1, fx_i, zs, zad, hn]
    generalize g 249 (164 + i) * g 249 (104 + i) = p at *
    exact ⟨fun _ => ⟨by omega, by omega, by omega⟩, by omega, rfl, by omega⟩
  · rintro s ⟨rfl, hi2⟩
    simp only [P_X6_drawn_4, C_X6_drawn_4, B_X6_drawn_4]
    omega
theorem drawnAll_M (g : pH) (nm : Nat) (gn : g 249 12 = nm) (h10 : nm ≤ 10) (hr : ∀ m : Int, 0 ≤ m → m < nm → 0 ≤ g 249 (164 + m) ∧ g 249 (164 + m) ≤ 3 ∧ 0 ≤ g 249 (104 + m) ∧ g 249 (104 + m) ≤ 500) :
    P_X12_allDrawn g ∧ F_X12_allDrawn g = zs (zad (g 249)) nm ∧ 0 ≤ zs (zad (g 249)) nm ∧ zs (zad (g 249)) nm ≤ 15000 := by
  have bd : ∀ c : Int, 0 ≤ c → c < nm → 0 ≤ zad (g 249) c ∧ zad (g 249) c ≤ 1500 := fun c h1 h2 => by
      have q := hr c h1 h2
      have := prod_bd q.1 q.2.1 q.2.2.1 q.2.2.2
      unfold zad; omega
  have key := fx_rule (σ := Int × Int) (c := (fun s => C_X12_allDrawn_4 g s.1 s.2)) (f := (fun s => B_X12_allDrawn_4 g s.1 s.2)) (P := (fun s => P_X12_allDrawn_4 g s.1 s.2)) (s0 := (0, 0)) nm (fun i s => s = (zs (zad (g 249)) i, (i : Int)) ∧ i ≤ nm) ⟨rfl, by omega⟩ ?_ ?_
  · have hb := zs_bd (f := zad (g 249)) (n := nm) (lo := 0) (hi := 1500) bd
    exact ⟨key.1, congrArg Prod.fst key.2.1, by omega, by omega⟩
  · rintro i s hi ⟨rfl, hi2⟩
    have hb := zs_bd (f := zad (g 249)) (n := i) (lo := 0) (hi := 1500) (fun c h1 h2 => bd c h1 (by omega))
    have q := hr i (by omega) (by omega)
    have pb := prod_bd q.1 q.2.1 q.2.2.1 q.2.2.2
    simp only [P_X12_allDrawn_4, C_X12_allDrawn_4, B_X12_allDrawn_4, P_X12_drawn, fx_i, fx_l, zs, zad, gn]
    generalize g 249 (164 + i) * g 249 (104 + i) = p at *
    exact ⟨fun _ => ⟨⟨by omega, by omega, by omega, by omega, by omega⟩, by omega, by omega⟩, by omega, rfl, by omega⟩
  · rintro s ⟨rfl, hi2⟩
    simp only [P_X12_allDrawn_4, C_X12_allDrawn_4, B_X12_allDrawn_4]
    omega
/-- the value of the greatest with p, or -1 -/
noncomputable def zlv (p : Int → Prop) (v : Int → Int) : Nat → Int
  | 0 => -1
  | n + 1 => @ite _ (p n) (Classical.propDecidable _) (v n) (zlv p v n)
theorem zlv_t {p : Int → Prop} {v : Int → Int} {n : Nat} (h : p n) : zlv p v (n + 1) = v n := by unfold zlv; exact if_pos h
theorem zlv_f {p : Int → Prop} {v : Int → Int} {n : Nat} (h : ¬ p n) : zlv p v (n + 1) = zlv p v n := by rw [zlv]; exact if_neg h
theorem zlv_is {p : Int → Prop} {v : Int → Int} {x : Int} : ∀ {n : Nat}, 0 ≤ x → x < n → p x → (∀ k : Int, x < k → k < n → ¬ p k) → zlv p v n = v x
  | 0, h1, h2, _, _ => by omega
  | n + 1, h1, h2, h3, h4 => by
    by_cases e : x = n
    · subst e; exact zlv_t h3
    · rw [zlv_f (h4 n (by omega) (by omega))]
      exact zlv_is h1 (by omega) h3 (fun k a1 a2 => h4 k a1 (by omega))
/-- while works are shed -/
def zshed (b : Int) (h0 g0 h' g' : pH) (nm nw : Nat) : Prop :=
  (∀ a, a ≠ b + 16 → a ≠ b + 34 → a ≠ b + 35 → h' a = h0 a) ∧ (∀ a, a ≠ 249 → a ≠ 259 → g' a = g0 a) ∧ (∀ k : Int, (k < 164 ∨ 174 ≤ k) → g' 249 k = g0 249 k) ∧ zrun b h' g' nm nw
/-- the order of works, as a row -/
def zline (b : Int) (h g : pH) (L : Int → Int) (nw : Nat) : Prop := (∀ k : Int, 0 ≤ k → k < nw → h (b + 36) k = L k ∧ g 258 k = L k ∧ 0 ≤ L k ∧ L k < nw) ∧ (∀ w : Int, 0 ≤ w → w < nw → ∃ k : Int, 0 ≤ k ∧ k < nw ∧ L k = w)
theorem last_M (y1 : Int) (g : pH) (L : Int → Int) (nm nw : Nat) (gw : g 249 13 = nw) (h10 : nm ≤ 10) (h16 : nw ≤ 16) (hL : ∀ k : Int, 0 ≤ k → k < nw → g 258 k = L k ∧ 0 ≤ L k ∧ L k < nw ∧ (g 249 (344 + L k) = -1 ∨ (0 ≤ g 249 (344 + L k) ∧ g 249 (344 + L k) < nm))) :
    O_X12_supply_30 y1 g (-1) 0 ∧ s_X12_supply_2 y1 g = zlv (fun k => g 249 (344 + L k) ≠ -1 ∧ 0 < g 249 (164 + g 249 (344 + L k))) (fun k => g 249 (344 + L k)) nw := by
  have key := fx_rule (σ := Int × Int) (c := (fun s => C_X12_supply_30 y1 g s.1 s.2)) (f := (fun s => B_X12_supply_30 y1 g s.1 s.2)) (P := (fun s => P_X12_supply_30 y1 g s.1 s.2)) (s0 := ((-1), 0)) nw (fun i s => s = (zlv (fun k => g 249 (344 + L k) ≠ -1 ∧ 0 < g 249 (164 + g 249 (344 + L k))) (fun k => g 249 (344 + L k)) i, (i : Int)) ∧ i ≤ nw) ⟨rfl, by omega⟩ ?_ ?_
  · exact ⟨key.1, congrArg Prod.fst key.2.1⟩
  · rintro i s hi ⟨rfl, hi2⟩
    have q := hL i (by omega) (by omega)
    have hl : zlv (fun k => g 249 (344 + L k) ≠ -1 ∧ 0 < g 249 (164 + g 249 (344 + L k))) (fun k => g 249 (344 + L k)) (i + 1) = if g 249 (344 + L i) = -1 then zlv (fun k => g 249 (344 + L k) ≠ -1 ∧ 0 < g 249 (164 + g 249 (344 + L k))) (fun k => g 249 (344 + L k)) i else if g 249 (164 + g 249 (344 + L i)) ≤ 0 then zlv (fun k => g 249 (344 + L k) ≠ -1 ∧ 0 < g 249 (164 + g 249 (344 + L k))) (fun k => g 249 (344 + L k)) i else g 249 (344 + L i) := by
      by_cases c1 : g 249 (344 + L i) = -1
      · rw [if_pos c1, zlv_f (fun q => q.1 c1)]
      · rw [if_neg c1]
        by_cases c2 : g 249 (164 + g 249 (344 + L i)) ≤ 0
        · rw [if_pos c2, zlv_f (fun q => by omega)]
        · rw [if_neg c2, zlv_t ⟨c1, by omega⟩]
    simp only [P_X12_supply_30, C_X12_supply_30, B_X12_supply_30, s_X12_supply_1, P_X12_at, fx_i, q.1, hl, gw]
    exact ⟨fun _ => ⟨by omega, by omega, ⟨by omega, by omega⟩, fun _ => by omega, by omega⟩, by omega, rfl, by omega⟩
  · rintro s ⟨rfl, hi2⟩
    simp only [P_X12_supply_30, C_X12_supply_30, B_X12_supply_30]
    omega
set_option maxHeartbeats 2000000 in
theorem shed_sim (b y1 : Int) (L : Int → Int) (h0 g0 : pH) (nm nw : Nat) (hn : h0 (b + 7) 10 = nm) (gn : g0 249 12 = nm) (gw : g0 249 13 = nw) (h10 : nm ≤ 10) (h16 : nw ≤ 16) (hL : zline b h0 g0 L nw) (hd : ∀ m : Int, 0 ≤ m → m < nm → h0 (b + 10) m = g0 249 (104 + m) ∧ 0 ≤ g0 249 (104 + m) ∧ g0 249 (104 + m) ≤ 500) (h3 : 0 ≤ g0 249 3 ∧ g0 249 3 ≤ 100000) (hy : 0 ≤ y1 ∧ y1 ≤ 10000) :
    ∀ (j : Nat), j ≤ nw → ∀ (h' g' : pH), zshed b h0 g0 h' g' nm nw → (∀ k : Int, (j : Int) ≤ k → k < nw → h' (b + 35) (L k) = -1) →
    O_X4_shedWorks_18 b (g0 249 3 + y1) (zs (zad (g' 249)) nm) ((j : Int) - 1) h' ∧ O_X12_supply_24 y1 (if g0 249 3 + y1 < zs (zad (g' 249)) nm then 1 else 0) g' ∧
    zshed b h0 g0 (L_X4_shedWorks_18 b (g0 249 3 + y1) (zs (zad (g' 249)) nm) ((j : Int) - 1) h').2.2 (L_X12_supply_24 y1 (if g0 249 3 + y1 < zs (zad (g' 249)) nm then 1 else 0) g').2 nm nw ∧
    (L_X4_shedWorks_18 b (g0 249 3 + y1) (zs (zad (g' 249)) nm) ((j : Int) - 1) h').1 = zs (zad ((L_X12_supply_24 y1 (if g0 249 3 + y1 < zs (zad (g' 249)) nm then 1 else 0) g').2 249)) nm ∧ zs (zad ((L_X12_supply_24 y1 (if g0 249 3 + y1 < zs (zad (g' 249)) nm then 1 else 0) g').2 249)) nm ≤ g0 249 3 + y1 := by
  have pre : ∀ (h' g' : pH), zshed b h0 g0 h' g' nm nw → (∀ m : Int, 0 ≤ m → m < nm → 0 ≤ g' 249 (164 + m) ∧ g' 249 (164 + m) ≤ 3 ∧ 0 ≤ g' 249 (104 + m) ∧ g' 249 (104 + m) ≤ 500 ∧ h' (b + 16) m = g' 249 (164 + m) ∧ h' (b + 10) m = g' 249 (104 + m)) ∧ g' 249 12 = nm ∧ g' 249 13 = nw ∧ g' 249 3 = g0 249 3 ∧ (∀ k : Int, 0 ≤ k → k < nw → h' (b + 36) k = L k ∧ g' 258 k = L k) := by
    intro h' g' ⟨f1, f2, f3, z⟩
    refine ⟨fun m a1 a2 => ?_, ?_⟩
    · have q := z.1 m a1 a2
      have y := hd m a1 a2
      rw [f3 (104 + m) (by omega), f1 (b + 10) (by omega) (by omega) (by omega)]
      exact ⟨q.2.2.1, q.2.2.2.1, y.2.1, y.2.2, q.2.1, y.1⟩
    · rw [f3 12 (by omega), f3 13 (by omega), f3 3 (by omega), f1 (b + 36) (by omega) (by omega) (by omega), f2 258 (by omega) (by omega)]
      exact ⟨gn, gw, rfl, fun k a1 a2 => ⟨(hL.1 k a1 a2).1, (hL.1 k a1 a2).2.1⟩⟩
  have mend : ∀ (g' : pH), O_X12_supply_24 y1 0 g' ∧ (L_X12_supply_24 y1 0 g').2 = g' := by
    intro g'
    have u0 := fx_un_f (c := (fun s => C_X12_supply_24 y1 s.1 s.2)) (f := (fun s => B_X12_supply_24 y1 s.1 s.2)) (P := (fun s => P_X12_supply_24 y1 s.1 s.2)) (s := (0, g')) (by simp only [P_X12_supply_24, C_X12_supply_24, B_X12_supply_24]; exact fun q => absurd trivial q) (by simp only [P_X12_supply_24, C_X12_supply_24, B_X12_supply_24]; exact fun q => q trivial)
    exact ⟨u0.1, congrArg Prod.snd u0.2⟩
  intro j
  induction j with
  | zero =>
    intro hj h' g' hz hk
    obtain ⟨p1, p2, p3, p4, p5⟩ := pre h' g' hz
    have s0 : zs (zad (g' 249)) nm = 0 := zs_zero (fun i a1 a2 => by
      have q := hz.2.2.2.1 i a1 a2
      have pb := prod_bd (p1 i a1 a2).1 (p1 i a1 a2).2.1 (p1 i a1 a2).2.2.1 (p1 i a1 a2).2.2.2.1
      have hr : g' 249 (164 + i) = 0 := by
        rcases q.2.2.2.2 with y | ⟨y2, y3, y4, y5⟩
        · exact y.2
        · obtain ⟨k, k1, k2, k3⟩ := hL.2 _ y2 y3
          have w1 := hk k (by omega) k2
          have w2 := (hz.2.2.2.2 _ y2 y3).2.1
          rw [k3] at w1
          rw [w1] at w2
          have w4 := q.2.2.1
          by_cases c : g' 259 (g' 249 (154 + i)) = 0
          · rw [if_pos c, y4] at w2; omega
          · have : ¬ 0 < g' 249 (164 + i) := fun q => c (y5.mp q)
            omega
      exact pb.2.2 hr)
    rw [s0, if_neg (by omega)]
    have m := mend g'
    have u := fx_un_f (c := (fun s => C_X4_shedWorks_18 b (g0 249 3 + y1) s.1 s.2.1 s.2.2)) (f := (fun s => B_X4_shedWorks_18 b (g0 249 3 + y1) s.1 s.2.1 s.2.2)) (P := (fun s => P_X4_shedWorks_18 b (g0 249 3 + y1) s.1 s.2.1 s.2.2)) (s := (0, ((0 : Nat) : Int) - 1, h')) (by simp only [P_X4_shedWorks_18, C_X4_shedWorks_18, B_X4_shedWorks_18]; exact fun q => by omega) (by simp only [P_X4_shedWorks_18, C_X4_shedWorks_18, B_X4_shedWorks_18]; omega)
    have e : L_X4_shedWorks_18 b (g0 249 3 + y1) 0 (((0 : Nat) : Int) - 1) h' = (0, ((0 : Nat) : Int) - 1, h') := u.2
    rw [e, m.2, s0]
    exact ⟨u.1, m.1, hz, rfl, by omega⟩
  | succ x ih =>
    intro hj h' g' hz hk
    have ex : ((x + 1 : Nat) : Int) - 1 = x := by omega
    rw [ex]
    obtain ⟨p1, p2, p3, p4, p5⟩ := pre h' g' hz
    have da := drawnAll_M g' nm p2 h10 (fun m a1 a2 => ⟨(p1 m a1 a2).1, (p1 m a1 a2).2.1, (p1 m a1 a2).2.2.1, (p1 m a1 a2).2.2.2.1⟩)
    by_cases hle : zs (zad (g' 249)) nm ≤ g0 249 3 + y1
    · rw [if_neg (by omega)]
      have m := mend g'
      have u := fx_un_f (c := (fun s => C_X4_shedWorks_18 b (g0 249 3 + y1) s.1 s.2.1 s.2.2)) (f := (fun s => B_X4_shedWorks_18 b (g0 249 3 + y1) s.1 s.2.1 s.2.2)) (P := (fun s => P_X4_shedWorks_18 b (g0 249 3 + y1) s.1 s.2.1 s.2.2)) (s := (zs (zad (g' 249)) nm, (x : Int), h')) (by simp only [P_X4_shedWorks_18, C_X4_shedWorks_18, B_X4_shedWorks_18]; exact fun q => by omega) (by simp only [P_X4_shedWorks_18, C_X4_shedWorks_18, B_X4_shedWorks_18]; omega)
      have e : L_X4_shedWorks_18 b (g0 249 3 + y1) (zs (zad (g' 249)) nm) (x : Int) h' = (zs (zad (g' 249)) nm, (x : Int), h') := u.2
      rw [e, m.2]
      exact ⟨u.1, m.1, hz, rfl, hle⟩
    · obtain ⟨l1, l2, l3, l4⟩ := hL.1 x (by omega) (by omega)
      have px := p5 x (by omega) (by omega)
      have wx := hz.2.2.2.2 (L x) l3 l4
      by_cases hnr : h' (b + 35) (L x) = -1
      · -- it doesn't run
        have IH := ih (by omega) h' g' hz (fun k a1 a2 => by
          by_cases e : k = x
          · rw [e]; exact hnr
          · exact hk k (by omega) a2)
        have hBx : B_X4_shedWorks_18 b (g0 249 3 + y1) (zs (zad (g' 249)) nm) x h' = (zs (zad (g' 249)) nm, (x : Int) - 1, h') := by
          unfold B_X4_shedWorks_18 s_X4_shedWorks_1 s_X4_shedWorks_2
          rw [px.1, hnr, if_pos rfl, if_pos rfl]
          rfl
        have uc := fx_un_t (c := (fun s => C_X4_shedWorks_18 b (g0 249 3 + y1) s.1 s.2.1 s.2.2)) (f := (fun s => B_X4_shedWorks_18 b (g0 249 3 + y1) s.1 s.2.1 s.2.2)) (P := (fun s => P_X4_shedWorks_18 b (g0 249 3 + y1) s.1 s.2.1 s.2.2)) (s := (zs (zad (g' 249)) nm, (x : Int), h')) (by
            simp only [P_X4_shedWorks_18, C_X4_shedWorks_18, B_X4_shedWorks_18, px.1, hnr, fx_i]
            exact fun q => ⟨by omega, by omega, fun q => absurd trivial q, by omega⟩) (by simp only [P_X4_shedWorks_18, C_X4_shedWorks_18, B_X4_shedWorks_18]; omega) (by
            show fx_ok _ _ _ (B_X4_shedWorks_18 b (g0 249 3 + y1) (zs (zad (g' 249)) nm) x h')
            rw [hBx]; exact IH.1)
        have e1 : L_X4_shedWorks_18 b (g0 249 3 + y1) (zs (zad (g' 249)) nm) x h' = L_X4_shedWorks_18 b (g0 249 3 + y1) (zs (zad (g' 249)) nm) ((x : Int) - 1) h' := by
          refine uc.2.trans ?_
          show fx_wh _ _ (B_X4_shedWorks_18 b (g0 249 3 + y1) (zs (zad (g' 249)) nm) x h') = _
          rw [hBx]; rfl
        rw [e1]
        exact ⟨uc.1, IH.2⟩
      · -- it is shed
        have hc0 : g' 259 (L x) = 0 := by
          by_cases c : g' 259 (L x) = 0
          · exact c
          · have := wx.2.1; rw [if_neg c] at this; exact absurd this hnr
        obtain ⟨m, hm⟩ : ∃ m, m = g' 249 (344 + L x) := ⟨_, rfl⟩
        have hrb : h' (b + 35) (L x) = m := by rw [wx.2.1, if_pos hc0, hm]
        have hm2 : 0 ≤ m ∧ m < nm ∧ g' 249 (154 + m) = L x := by
          rcases wx.2.2.2.2.1 with y | y
          · rw [hrb, hm] at hnr; exact absurd y hnr
          · rw [hm]; exact y
        have zm := hz.2.2.2.1 m hm2.1 hm2.2.1
        have hrun : 0 < g' 249 (164 + m) := by
          rcases zm.2.2.2.2 with y | ⟨y2, y3, y4, y5⟩
          · omega
          · rw [hm2.2.2] at y5; exact y5.mpr hc0
        have ym := p1 m hm2.1 hm2.2.1
        have pb := prod_bd ym.1 ym.2.1 ym.2.2.1 ym.2.2.2.1
        have lm := last_M y1 g' L nm nw p3 h10 h16 (fun k a1 a2 => by
          have q1 := hL.1 k a1 a2
          have q2 := (hz.2.2.2.2 _ q1.2.2.1 q1.2.2.2).2.2.2.2.1
          exact ⟨(p5 k a1 a2).2, q1.2.2.1, q1.2.2.2, q2.imp id (fun y => ⟨y.1, y.2.1⟩)⟩)
        have hlast : s_X12_supply_2 y1 g' = m := by
          rw [lm.2, zlv_is (x := x) (by omega) (by omega) ⟨by rw [← hm]; omega, by rw [← hm]; exact hrun⟩ (fun k a1 a2 => ?_), hm]
          have q1 := hL.1 k (by omega) a2
          have q2 := hz.2.2.2.2 _ q1.2.2.1 q1.2.2.2
          have q3 := hk k (by omega) a2
          rintro ⟨c1, c2⟩
          rcases q2.2.2.2.2.1 with y | ⟨y1, y2, y3⟩
          · exact c1 y
          · have q4 := hz.2.2.2.1 _ y1 y2
            rcases q4.2.2.2.2 with u | ⟨u2, u3, u4, u5⟩
            · omega
            · rw [y3] at u5
              have q5 := q2.2.1
              rw [if_pos (u5.mp c2), q3] at q5
              omega
        have st := stop_rel b m 4 h' g' nm nw h10 h16 hz.2.2.2 ⟨hm2.1, hm2.2.1⟩ hrun (by omega)
        obtain ⟨s1, s2, s3, s4, s5, s6, s7⟩ := st
        have hz' : zshed b h0 g0 (H_X4_stop b m 4 h') (H_X12_still m 4 g') nm nw := by
          obtain ⟨f1, f2, f3, z⟩ := hz
          exact ⟨fun a a1 a2 a3 => by rw [s3 a a1 a2 a3]; exact f1 a a1 a2 a3, fun a a1 a2 => by rw [s4 a a1 a2]; exact f2 a a1 a2, fun k a1 => by rw [s5 k (by omega)]; exact f3 k a1, s7⟩
        have zf' : ∀ k : Int, k ≠ m → 0 ≤ k → k < nm → zad (H_X12_still m 4 g' 249) k = zad (g' 249) k := fun k a1 a2 a3 => by
          unfold zad
          rw [s5 (164 + k) (by omega), s5 (104 + k) (by omega)]
        have zfx : zad (H_X12_still m 4 g' 249) m = 0 := by unfold zad; rw [s6]; omega
        have hsum : zs (zad (H_X12_still m 4 g' 249)) nm = zs (zad (g' 249)) nm - zad (g' 249) m := by
          rw [zs_upd (f := zad (g' 249)) (j := m) hm2.1 hm2.2.1 (fun i a1 a2 a3 => zf' i a3 a1 a2), zfx]
          omega
        have IH := ih (by omega) (H_X4_stop b m 4 h') (H_X12_still m 4 g') hz' (fun k a1 a2 => by
          have q1 := hL.1 k (by omega) a2
          have q2 := s7.2 _ q1.2.2.1 q1.2.2.2
          have q6 := hz.2.2.2.2 _ q1.2.2.1 q1.2.2.2
          by_cases e : L k = L x
          · rw [e] at q2 ⊢
            have q3 := s7.1 m hm2.1 hm2.2.1
            rw [s5 (154 + m) (by omega), hm2.2.2, s6, s5 (344 + L x) (by omega)] at q3
            rw [q2.2.1, if_neg]
            rcases q3.2.2.2.2 with y | ⟨y2, y3, y4, y5⟩
            · omega
            · intro q5; have := y5.mpr q5; omega
          · have q3 := hk k (by
              rcases Int.lt_or_le x k with q | q
              · omega
              · have : k = x := by omega
                rw [this] at e; exact absurd rfl e) a2
            rw [q2.2.1, s5 (344 + L k) (by omega)]
            by_cases c : H_X12_still m 4 g' 259 (L k) = 0
            · rw [if_pos c]
              -- it wasn't running, and its cause is as it was
              have hG : H_X12_still m 4 g' 259 (L k) = g' 259 (L k) := by
                unfold H_X12_still s_X12_still_1
                rw [up_pl _ (show 154 + m ≠ 164 + m by omega), hm2.2.2, up_pl _ e, up_cell _ (by omega)]
              rw [hG] at c
              have q5 := q6.2.1
              rw [if_pos c, q3] at q5
              exact q5.symm
            · rw [if_neg c])
        rw [hsum] at IH
        have hPdo : P_X6_drawOf (b + 7) m h' ∧ F_X6_drawOf (b + 7) m h' = zad (g' 249) m := by
          have e1 : h' (b + 7 + 9) m = g' 249 (164 + m) := by rw [show b + 7 + 9 = b + 16 by omega]; exact ym.2.2.2.2.1
          have e2 : h' (b + 7 + 3) m = g' 249 (104 + m) := by rw [show b + 7 + 3 = b + 10 by omega]; exact ym.2.2.2.2.2
          unfold P_X6_drawOf F_X6_drawOf fx_i zad
          rw [e1, e2]
          exact ⟨by omega, rfl⟩
        have pbz : 0 ≤ zad (g' 249) m ∧ zad (g' 249) m ≤ 1500 := by unfold zad; omega
        have hBx : B_X4_shedWorks_18 b (g0 249 3 + y1) (zs (zad (g' 249)) nm) x h' = (zs (zad (g' 249)) nm - zad (g' 249) m, (x : Int) - 1, H_X4_stop b m 4 h') := by
          unfold B_X4_shedWorks_18 s_X4_shedWorks_1 s_X4_shedWorks_2
          rw [px.1, hrb, if_neg (by omega), if_neg (by omega), hPdo.2]
          rfl
        have da' := drawnAll_M (H_X12_still m 4 g') nm (by rw [s5 12 (by omega)]; exact p2) h10 (fun k a1 a2 => by
          have q := (pre _ _ hz').1 k a1 a2
          exact ⟨q.1, q.2.1, q.2.2.1, q.2.2.2.1⟩)
        have hBm : B_X12_supply_24 y1 1 g' = (if g0 249 3 + y1 < zs (zad (g' 249)) nm - zad (g' 249) m then 1 else 0, H_X12_still m 4 g') := by
          unfold B_X12_supply_24
          rw [hlast, da'.2.1, hsum, s5 3 (by omega), p4]
        have uc := fx_un_t (c := (fun s => C_X4_shedWorks_18 b (g0 249 3 + y1) s.1 s.2.1 s.2.2)) (f := (fun s => B_X4_shedWorks_18 b (g0 249 3 + y1) s.1 s.2.1 s.2.2)) (P := (fun s => P_X4_shedWorks_18 b (g0 249 3 + y1) s.1 s.2.1 s.2.2)) (s := (zs (zad (g' 249)) nm, (x : Int), h')) (by
            simp only [P_X4_shedWorks_18, C_X4_shedWorks_18, B_X4_shedWorks_18, px.1, hrb, hPdo.2, fx_i]
            exact fun q => ⟨by omega, by omega, fun _ => ⟨hPdo.1, by omega, s1⟩, by omega⟩) (by simp only [P_X4_shedWorks_18, C_X4_shedWorks_18, B_X4_shedWorks_18]; omega) (by
            show fx_ok _ _ _ (B_X4_shedWorks_18 b (g0 249 3 + y1) (zs (zad (g' 249)) nm) x h')
            rw [hBx]; exact IH.1)
        have um := fx_un_t (c := (fun s => C_X12_supply_24 y1 s.1 s.2)) (f := (fun s => B_X12_supply_24 y1 s.1 s.2)) (P := (fun s => P_X12_supply_24 y1 s.1 s.2)) (s := (1, g')) (by
            simp only [P_X12_supply_24, C_X12_supply_24, B_X12_supply_24, hlast, fx_l]
            rw [s5 3 (by omega), p4]
            exact fun _ => ⟨lm.1, s2, da'.1, by omega, by omega⟩) (by simp only [P_X12_supply_24, C_X12_supply_24, B_X12_supply_24]; omega) (by
            show fx_ok _ _ _ (B_X12_supply_24 y1 1 g')
            rw [hBm]; exact IH.2.1)
        have e1 : L_X4_shedWorks_18 b (g0 249 3 + y1) (zs (zad (g' 249)) nm) x h' = L_X4_shedWorks_18 b (g0 249 3 + y1) (zs (zad (g' 249)) nm - zad (g' 249) m) ((x : Int) - 1) (H_X4_stop b m 4 h') := by
          refine uc.2.trans ?_
          show fx_wh _ _ (B_X4_shedWorks_18 b (g0 249 3 + y1) (zs (zad (g' 249)) nm) x h') = _
          rw [hBx]; rfl
        have e2 : L_X12_supply_24 y1 1 g' = L_X12_supply_24 y1 (if g0 249 3 + y1 < zs (zad (g' 249)) nm - zad (g' 249) m then 1 else 0) (H_X12_still m 4 g') := by
          refine um.2.trans ?_
          show fx_wh _ _ (B_X12_supply_24 y1 1 g') = _
          rw [hBm]; rfl
        rw [if_pos (by omega), e1, e2]
        exact ⟨uc.1, um.1, IH.2.2⟩
