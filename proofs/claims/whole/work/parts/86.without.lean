/-! Without: the model, and both. -/
theorem without_M {h g0 : pH} {z : Int → Int} {nm nw n B : Nat} (q : hl 1 h z nm nw 9999) (n30 : n ≤ 30) (h16 : nw ≤ 16) (hB : B < 65536) (hN : opn z nw ≤ 8) (rB : rk B 16 = opn z nw)
    (tb : ∀ m : Nat, m < 16 → (B.testBit m = true ↔ m < nw ∧ zopen z m)) (r : ∀ m : Nat, m ≤ nw → rk B m = opn z m) (hs : ∀ i w : Nat, w < nw → bt (pd 16 B i) w = true → z (328 + w) = 0)
    (e67 : ∀ k : Int, 0 ≤ k → k < opn z nw → g0 267 k = opc z nw k) (ez : ∀ k : Int, 0 ≤ k → k < 620 → g0 249 k = z k ∧ g0 250 k = z k) :
    O_X12_without_28 n (opn z nw) (nbr z nw) (-1) 0 g0 ∧ BST h n B (L_X12_without_28 n (opn z nw) (nbr z nw) (-1) 0 g0).1 (2 ^ opn z nw) ∧
    (∀ a, (a < 248 ∨ (251 ≤ a ∧ a ≤ 254) ∨ 264 ≤ a) → (L_X12_without_28 n (opn z nw) (nbr z nw) (-1) 0 g0).2.2 a = g0 a) ∧ (∀ k : Int, 0 ≤ k → k < 620 → (L_X12_without_28 n (opn z nw) (nbr z nw) (-1) 0 g0).2.2 249 k = z k) ∧
    ∀ k : Int, (k = 20 ∨ k = 21) → (L_X12_without_28 n (opn z nw) (nbr z nw) (-1) 0 g0).2.2 248 k = g0 248 k := by
  have eM : pm_shl 1 (opn z nw : Int) = ((2 ^ opn z nw : Nat) : Int) := shl_2 ⟨opn z nw, by omega⟩
  have hM : (2 : Nat) ^ opn z nw ≤ 2 ^ 8 := Nat.pow_le_pow_right (by omega) hN
  have key := fx_rule (σ := Int × Int × pH) (c := fun t => C_X12_without_28 n (opn z nw) (nbr z nw) t.1 t.2.1 t.2.2) (f := fun t => B_X12_without_28 n (opn z nw) (nbr z nw) t.1 t.2.1 t.2.2) (P := fun t => P_X12_without_28 n (opn z nw) (nbr z nw) t.1 t.2.1 t.2.2) (s0 := (-1, 0, g0)) (2 ^ opn z nw)
    (fun c t => t.2.1 = c ∧ c ≤ 2 ^ opn z nw ∧ BST h n B t.1 c ∧ (∀ a, (a < 248 ∨ (251 ≤ a ∧ a ≤ 254) ∨ 264 ≤ a) → t.2.2 a = g0 a) ∧ (∀ k : Int, 0 ≤ k → k < 620 → t.2.2 249 k = z k ∧ t.2.2 250 k = z k) ∧ ∀ k : Int, (k = 20 ∨ k = 21) → t.2.2 248 k = g0 248 k)
    ⟨rfl, Nat.zero_le _, Or.inl ⟨rfl, fun j hj => by omega⟩, fun _ _ => rfl, ez, fun _ _ => rfl⟩ ?_ ?_
  · obtain ⟨k1, k2, k3, k4, k5, k6, k7⟩ := key
    exact ⟨k1, k4, k5, fun k e1 e2 => (k6 k e1 e2).1, k7⟩
  · rintro c ⟨x4, x5, gg⟩ hc ⟨hx, hc2, hb, hf, hz, h8⟩
    simp only at hx hb hf hz h8
    subst hx
    have cs := code_set (g := gg) h16 hB tb r (fun k e1 e2 => by rw [hf 267 (by omega)]; exact e67 k e1 e2) n (nbr z nw) x4 (c := c) (by omega)
    have pl := pd_le 16 B c
    have e13 : gg 249 13 = nw := by rw [(hz 13 (by omega) (by omega)).1]; exact q.2.2.2.1.2.1
    have ms := mark_set (g := gg) e13 h16 n (opn z nw) (nbr z nw) x4 c (pd 16 B c)
    have e5 : s_X12_without_5 n (opn z nw) (nbr z nw) x4 c gg = (L_X12_without_79 n (opn z nw) (nbr z nw) x4 c (pd 16 B c) 0 gg).2 := by
      unfold s_X12_without_5
      rw [cs.2]
    rw [← e5] at ms
    obtain ⟨ms1, ms2, ms3⟩ := ms
    have eg5 : ∀ k : Int, 0 ≤ k → k < 620 → s_X12_without_5 n (opn z nw) (nbr z nw) x4 c gg 249 k = mrk z (pd 16 B c) nw k := fun k e1 e2 => by
      rw [ms3]
      unfold mrk
      rw [(hz k e1 e2).1]
    have kx := (kept_X q (by omega) (hs c) n (by omega) eg5).2.1
    obtain ⟨h2, q2⟩ := trial_rel q eg5
    have e7 : s_X12_without_7 n (opn z nw) (nbr z nw) x4 c gg = (L_X12_without_112 n (opn z nw) (nbr z nw) x4 c (pd 16 B c) 0 (s_X12_without_5 n (opn z nw) (nbr z nw) x4 c gg)).2 := by
      unfold s_X12_without_7
      rw [cs.2]
    obtain ⟨g5, hg5⟩ : ∃ x, x = s_X12_without_5 n (opn z nw) (nbr z nw) x4 c gg := ⟨_, rfl⟩
    rw [← hg5] at ms2 ms3 eg5 kx q2 e7
    have ml := mloop (c := fun t => C_X12_without_112 n (opn z nw) (nbr z nw) x4 c (pd 16 B c) t.1 t.2) (f := fun t => B_X12_without_112 n (opn z nw) (nbr z nw) x4 c (pd 16 B c) t.1 t.2) (P := fun t => P_X12_without_112 n (opn z nw) (nbr z nw) x4 c (pd 16 B c) t.1 t.2) n n g5 rfl (fun _ _ y => y) (fun i hi => by show (i : Int) < n; omega) (fun i hi => rfl) (fun i hi => by
      simp only
      unfold P_X12_without_112 fx_i
      intro y
      exact ⟨(it_step q2 i (by omega)).2.1, by omega⟩)
    have e7' : s_X12_without_7 n (opn z nw) (nbr z nw) x4 c gg = mit n g5 := e7.trans (congrArg Prod.snd ml.2)
    obtain ⟨i1, i2, i3, i4, i5, i6⟩ := its q2 n (by omega)
    have bn := broken_nbr i1
    have e8 : s_X12_without_8 n (opn z nw) (nbr z nw) x4 c gg = if nbr (mit n g5 249) nw = nbr z nw then (pd 16 B c : Int) else x4 := by
      unfold s_X12_without_8
      rw [e7', cs.2, bn.2]
    obtain ⟨p1, p2, p3⟩ := copy_M 250 249 (mit n g5) (by omega)
    have bc := bits_in (x := pd 16 B c) (by omega) gg
    have e9 : s_X12_without_9 n (opn z nw) (nbr z nw) x4 c gg = if x4 = (-1) ∨ (F_X12_bitsIn (pd 16 B c) gg < F_X12_bitsIn x4 gg ∨ (F_X12_bitsIn (pd 16 B c) gg = F_X12_bitsIn x4 gg ∧ (pd 16 B c : Int) < x4)) then H_X12_copy 250 249 (mit n g5) else gg := by
      unfold s_X12_without_9
      rw [e7', cs.2]
    have e10 : s_X12_without_10 n (opn z nw) (nbr z nw) x4 c gg = if x4 = (-1) ∨ (F_X12_bitsIn (pd 16 B c) gg < F_X12_bitsIn x4 gg ∨ (F_X12_bitsIn (pd 16 B c) gg = F_X12_bitsIn x4 gg ∧ (pd 16 B c : Int) < x4)) then (if nbr (mit n g5 249) nw = nbr z nw then (pd 16 B c : Int) else x4) else x4 := by
      unfold s_X12_without_10
      rw [e8, cs.2]
    have px4 : ¬ x4 = -1 → P_X12_bitsIn x4 gg := fun y => by
      rcases hb with ⟨b1, -⟩ | ⟨i, b1, b2, -⟩
      · exact absurd b1 y
      · have pi := pd_le 16 B i
        rw [b2]
        exact (bits_in (x := pd 16 B i) (by omega) gg).1
    refine ⟨?_, ?_, ?_, by omega, ?_, ?_, ?_, ?_⟩
    · simp only
      unfold P_X12_without_28
      intro y
      rw [← hg5, e7', cs.2]
      refine ⟨cs.1, fun w => ⟨bc.1, px4 w⟩, fun _ => ⟨ms1, ml.1, bn.1, p1⟩, by unfold fx_i; omega⟩
    · show (c : Int) < pm_shl 1 (opn z nw)
      rw [eM]; omega
    · show (c : Int) + 1 = ((c + 1 : Nat) : Int)
      omega
    · show BST h n B (s_X12_without_10 n (opn z nw) (nbr z nw) x4 c gg) (c + 1)
      rw [e10]
      have kk : KK h n B c ↔ nbr (mit n g5 249) nw = nbr z nw := kx
      have lift : ¬ KK h n B c → BST h n B x4 (c + 1) := fun nk => by
        rcases hb with ⟨b1, b2⟩ | ⟨i, b1, b2, b3, b4⟩
        · refine Or.inl ⟨b1, fun j hj => ?_⟩
          by_cases y : j = c
          · rw [y]; exact nk
          · exact b2 j (by omega)
        · refine Or.inr ⟨i, by omega, b2, b3, fun j hj w => ?_⟩
          by_cases y : j = c
          · rw [y] at w; exact absurd w nk
          · exact b4 j (by omega) w
      by_cases cd : x4 = (-1) ∨ (F_X12_bitsIn (pd 16 B c) gg < F_X12_bitsIn x4 gg ∨ (F_X12_bitsIn (pd 16 B c) gg = F_X12_bitsIn x4 gg ∧ (pd 16 B c : Int) < x4))
      · rw [if_pos cd]
        by_cases ck : nbr (mit n g5 249) nw = nbr z nw
        · rw [if_pos ck]
          refine Or.inr ⟨c, by omega, rfl, kk.mpr ck, fun j hj w => ?_⟩
          by_cases y : j = c
          · rw [y]; exact Or.inr ⟨rfl, Nat.le_refl _⟩
          · rcases hb with ⟨b1, b2⟩ | ⟨i, b1, b2, b3, b4⟩
            · exact absurd w (b2 j (by omega))
            · have pi := pd_le 16 B i
              have bi := (bits_in (x := pd 16 B i) (by omega) gg).2
              have lt := pd_lt 16 B i c b1 (by rw [rB]; exact hc)
              have := b4 j (by omega) w
              rw [b2, bi, bc.2] at cd
              left
              omega
        · rw [if_neg ck]
          exact lift (fun w => ck (kk.mp w))
      · rw [if_neg cd]
        rcases hb with ⟨b1, b2⟩ | ⟨i, b1, b2, b3, b4⟩
        · exact absurd (Or.inl b1) cd
        · refine Or.inr ⟨i, by omega, b2, b3, fun j hj w => ?_⟩
          by_cases y : j = c
          · rw [y]
            have pi := pd_le 16 B i
            have bi := (bits_in (x := pd 16 B i) (by omega) gg).2
            rw [b2, bi, bc.2] at cd
            omega
          · exact b4 j (by omega) w
    · intro a ha
      show s_X12_without_9 n (opn z nw) (nbr z nw) x4 c gg a = g0 a
      rw [e9]
      split
      · rw [p2 a (by omega), i3 a (by omega), ms2 a (by omega)]; exact hf a ha
      · exact hf a ha
    · intro k k1 k2
      show s_X12_without_9 n (opn z nw) (nbr z nw) x4 c gg 249 k = z k ∧ s_X12_without_9 n (opn z nw) (nbr z nw) x4 c gg 250 k = z k
      rw [e9]
      split
      · rw [p3 k k1 k2, p2 250 (by omega), i3 250 (by omega), ms2 250 (by omega)]
        exact ⟨(hz k k1 k2).2, (hz k k1 k2).2⟩
      · exact hz k k1 k2
    · intro k hk
      show s_X12_without_9 n (opn z nw) (nbr z nw) x4 c gg 248 k = g0 248 k
      rw [e9]
      split
      · rw [p2 248 (by omega), i4 k (by omega) (by omega) (by omega) (by omega), ms2 248 (by omega)]; exact h8 k hk
      · exact h8 k hk
  · rintro ⟨x4, x5, gg⟩ ⟨hx, -⟩
    simp only at hx
    subst hx
    refine ⟨?_, ?_⟩
    · show P_X12_without_28 n (opn z nw) (nbr z nw) x4 ((2 ^ opn z nw : Nat) : Int) gg
      unfold P_X12_without_28
      rw [eM]
      intro y; omega
    · show ¬ ((2 ^ opn z nw : Nat) : Int) < pm_shl 1 (opn z nw)
      rw [eM]; omega
theorem m_without {h g : pH} (al : AL h g) (a1 : Int) : P_X11_without a1 h ∧ P_X12_without a1 g ∧ F_X11_without a1 h = F_X12_without a1 g ∧ RET h g (H_X11_without a1 h) (H_X12_without a1 g) := by
  refine (Decidable.em (1 ≤ a1 ∧ a1 ≤ 30)).elim (fun c1 => ?_) (fun c1 => ?_)
  · obtain ⟨n, hn⟩ : ∃ n : Nat, a1 = n := ⟨a1.toNat, by omega⟩
    subst hn
    obtain ⟨nm, nw, q, n9⟩ := id al.1
    obtain ⟨⟨w15, -, wk, -⟩, w13, w16, -, wy⟩ := id q.2.2.2.1
    have w15' : h 22 15 = nw := w15
    obtain ⟨o1, o2, o3, o4⟩ := find_open (g := g) w13 w16
    have hop : ∀ w : Int, 0 ≤ w → w < nw → (h 33 w = 1 ↔ zopen (g 249) w) := fun w w1 w2 => by
      have := (wk w w1 w2).2.2.2.2.2.2.2.1
      rw [show (1 : Int) + 32 = 33 by omega] at this
      rw [this]
      exact zst_open (wy w w1 w2).1
    obtain ⟨b1, B, b2, b3, tb, b5, rB⟩ := open_bits w15' w16 hop
    have bc := bit_count b2 h
    have rOpen : RET h g h (H_X12_findOpen g) := ret_hall al (fun _ _ => rfl) (fun a e => o3 a (by omega)) (by rw [o3 248 (by omega)]) (by rw [o3 248 (by omega)]) (by rw [o3 249 (by omega)]; exact al.1)
    by_cases h8 : opn (g 249) nw ≤ 8
    · have hs : ∀ i w : Nat, w < nw → bt (pd 16 B i) w = true → g 249 (328 + w) = 0 := fun i w hw y => by
        have pl := pd_le 16 B i
        rw [bt_nat (by omega), pd_bit 16 B i w (by omega)] at y
        exact ((tb w (by omega)).mp ((Bool.and_eq_true _ _).mp y).1).2.1
      obtain ⟨x1, x2, x3⟩ := without_X q (n := n) (by omega) b2 h8 rB hs
      obtain ⟨p1, p2, p3⟩ := copy_M 249 250 (H_X12_findOpen g) (by omega)
      have bn : P_X12_broken (H_X12_copy 249 250 (H_X12_findOpen g)) ∧ F_X12_broken (H_X12_copy 249 250 (H_X12_findOpen g)) = nbr (g 249) nw := by
        have := broken_M (H_X12_copy 249 250 (H_X12_findOpen g)) nw (by rw [p2 249 (by omega), o3 249 (by omega)]; exact w13) w16
        rw [p2 249 (by omega), o3 249 (by omega)] at this
        exact this
      obtain ⟨m1, m2, m3, m4, m5⟩ := without_M (g0 := H_X12_copy 249 250 (H_X12_findOpen g)) q (n := n) (by omega) w16 b2 h8 rB tb b5 hs (fun k e1 e2 => by rw [p2 267 (by omega)]; exact o4 k e1 e2) (fun k e1 e2 => by
        rw [p3 k e1 e2, p2 249 (by omega), o3 249 (by omega)]
        exact ⟨rfl, rfl⟩)
      have cF : F_J6_bitCount_0f7a4 (F_X10_openBits 22 h) h = opn (g 249) nw := by rw [b3, bc.2, rB]
      have one := BST_one x3 m2
      refine ⟨fun _ => ⟨b1, by rw [b3]; exact bc.1, fun _ => ?_⟩, fun _ => ⟨o1, fun _ => ⟨p1, bn.1, ?_⟩⟩, ?_, ?_⟩
      · rw [cF, b3]; exact x1
      · rw [o2, bn.2]; exact m1
      · unfold F_X11_without F_X12_without s_X11_without_8 s_X11_without_6 s_X12_without_11
        rw [if_pos c1, if_pos c1, cF, b3, if_pos (show (opn (g 249) nw : Int) ≤ 8 by omega), o2, if_pos (show (opn (g 249) nw : Int) ≤ 8 by omega), bn.2]
        exact one
      · unfold H_X11_without H_X12_without s_X11_without_7 s_X12_without_13
        rw [if_pos c1, if_pos c1, cF, b3, if_pos (show (opn (g 249) nw : Int) ≤ 8 by omega), o2, if_pos (show (opn (g 249) nw : Int) ≤ 8 by omega), bn.2]
        refine ret_hall al (fun a e => x2 a (by omega)) (fun a e => ?_) ?_ ?_ ?_
        · rw [m3 a (by omega), p2 a (by omega), o3 a (by omega)]
        · rw [m5 20 (by omega), p2 248 (by omega), o3 248 (by omega)]
        · rw [m5 21 (by omega), p2 248 (by omega), o3 248 (by omega)]
        · exact hal_cg al.1 (fun a e1 e2 => x2 a (by omega)) (fun k e1 e2 => m4 k e1 e2)
    · have cF : F_J6_bitCount_0f7a4 (F_X10_openBits 22 h) h = opn (g 249) nw := by rw [b3, bc.2, rB]
      refine ⟨fun _ => ⟨b1, by rw [b3]; exact bc.1, fun y => by omega⟩, fun _ => ⟨o1, fun y => by omega⟩, ?_, ?_⟩
      · unfold F_X11_without F_X12_without
        rw [if_pos c1, if_pos c1, cF, if_neg (show ¬ (opn (g 249) nw : Int) ≤ 8 by omega), o2, if_neg (show ¬ (opn (g 249) nw : Int) ≤ 8 by omega)]
      · unfold H_X11_without H_X12_without
        rw [if_pos c1, if_pos c1, cF, if_neg (show ¬ (opn (g 249) nw : Int) ≤ 8 by omega), o2, if_neg (show ¬ (opn (g 249) nw : Int) ≤ 8 by omega)]
        exact rOpen
  · refine ⟨fun y => absurd y c1, fun y => absurd y c1, ?_, ?_⟩
    · unfold F_X11_without F_X12_without
      rw [if_neg c1, if_neg c1]
    · unfold H_X11_without H_X12_without
      rw [if_neg c1, if_neg c1]
      exact RET.refl al
