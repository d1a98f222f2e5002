/-! Bits, and the best placing of works that are all alike. -/
noncomputable def bv (x : Int) : BitVec 32 := BitVec.ofInt 32 x
noncomputable def bt (x : Int) (m : Nat) : Bool := (bv x).getLsbD m
theorem bv_and (x y : Int) : bv (pm_and x y) = bv x &&& bv y := by
  show BitVec.ofInt 32 ((Int32.ofInt x &&& Int32.ofInt y).toBitVec.toInt) = _
  rw [BitVec.ofInt_toInt]
  rfl
theorem bv_or (x y : Int) : bv (pm_or x y) = bv x ||| bv y := by
  show BitVec.ofInt 32 ((Int32.ofInt x ||| Int32.ofInt y).toBitVec.toInt) = _
  rw [BitVec.ofInt_toInt]
  rfl
theorem bv_xor (x y : Int) : bv (pm_xor x y) = bv x ^^^ bv y := by
  show BitVec.ofInt 32 ((Int32.ofInt x ^^^ Int32.ofInt y).toBitVec.toInt) = _
  rw [BitVec.ofInt_toInt]
  rfl
theorem shl_all : ∀ j : Fin 16, ∀ m : Fin 16, (BitVec.ofInt 32 (pm_shl 1 ((j.val : Nat) : Int))).getLsbD m.val = decide (m.val = j.val) := by decide +kernel
theorem neg_all : ∀ m : Fin 16, (BitVec.ofInt 32 (-1)).getLsbD m.val = true := by decide +kernel
theorem bt_shl {j m : Nat} (hj : j < 16) (hm : m < 16) : bt (pm_shl 1 j) m = decide (m = j) := shl_all ⟨j, hj⟩ ⟨m, hm⟩
theorem bt_and (x y : Int) (m : Nat) : bt (pm_and x y) m = (bt x m && bt y m) := by unfold bt; rw [bv_and, BitVec.getLsbD_and]
theorem bt_or (x y : Int) (m : Nat) : bt (pm_or x y) m = (bt x m || bt y m) := by unfold bt; rw [bv_or, BitVec.getLsbD_or]
theorem bt_off {x : Int} {j m : Nat} (hj : j < 16) (hm : m < 16) : bt (pm_and x (pm_xor (pm_shl 1 j) (-1))) m = (bt x m && ! decide (m = j)) := by
  rw [bt_and]
  have e : bt (pm_xor (pm_shl 1 j) (-1)) m = ! decide (m = j) := by
    unfold bt
    rw [bv_xor, BitVec.getLsbD_xor]
    have h1 : (bv (pm_shl 1 j)).getLsbD m = decide (m = j) := bt_shl hj hm
    have h2 : (bv (-1)).getLsbD m = true := neg_all ⟨m, hm⟩
    rw [h1, h2, Bool.xor_true]
  rw [e]
theorem bt_on {x : Int} {j m : Nat} (hj : j < 16) (hm : m < 16) : bt (pm_or x (pm_shl 1 j)) m = (bt x m || decide (m = j)) := by
  rw [bt_or, bt_shl hj hm]
theorem amt_all : ∀ m : Fin 16, ((Int32.ofInt ((m.val : Nat) : Int) &&& 31).toBitVec.smod 32).toNat = m.val := by decide +kernel
theorem one_and (v : BitVec 32) : (v &&& 1#32) = if v.getLsbD 0 then 1#32 else 0#32 := by
  apply BitVec.eq_of_getLsbD_eq
  intro i hi
  rw [BitVec.getLsbD_and, BitVec.getLsbD_one]
  by_cases h0 : i = 0
  · subst h0
    by_cases c : v.getLsbD 0
    · rw [if_pos c, c]; rfl
    · rw [if_neg c]
      have : v.getLsbD 0 = false := Bool.eq_false_iff.mpr c
      rw [this]; rfl
  · by_cases c : v.getLsbD 0
    · rw [if_pos c, BitVec.getLsbD_one]; simp [h0]
    · rw [if_neg c]; simp [h0]
theorem bt_test {x : Int} {m : Nat} (hm : m < 16) : pm_and (pm_shr x m) 1 = if bt x m then 1 else 0 := by
  have e1 : bv (pm_shr x m) = (bv x).sshiftRight m := by
    show BitVec.ofInt 32 ((Int32.ofInt x >>> (Int32.ofInt ((m : Nat) : Int) &&& 31)).toBitVec.toInt) = _
    rw [BitVec.ofInt_toInt, Int32.toBitVec_shiftRight, BitVec.sshiftRight_eq']
    have := amt_all ⟨m, hm⟩
    dsimp only at this
    rw [this]
    rfl
  have e2 : pm_and (pm_shr x m) 1 = (bv (pm_shr x m) &&& 1#32).toInt := rfl
  rw [e2, one_and, e1, BitVec.getLsbD_sshiftRight]
  have e3 : (decide (32 ≤ 0)) = false := rfl
  have e4 : m + 0 < 32 := by omega
  have e5 : (! decide (32 ≤ 0) && if m + 0 < 32 then (bv x).getLsbD (m + 0) else (bv x).msb) = bt x m := by
    rw [if_pos e4, Nat.add_zero]; rfl
  rw [e5]
  by_cases c : bt x m
  · rw [if_pos c, if_pos c]; decide
  · rw [if_neg c, if_neg c]; decide
/-- machines in a row, the dearest first: those that are claimed, and n more of the free ones -/
noncomputable def scan (w : Int → Int) (c F : Int → Bool) : List Int → Nat → Int
  | [], _ => 0
  | m :: L, n => if c m = true then w m + scan w c F L n else match n with
    | 0 => scan w c F L 0
    | n' + 1 => if F m = true then w m + scan w c F L n' else scan w c F L (n' + 1)
section SC
variable {w : Int → Int} {c c' F F' : Int → Bool}
theorem scan_c {m : Int} {L : List Int} (n : Nat) (h : c m = true) : scan w c F (m :: L) n = w m + scan w c F L n := if_pos h
theorem scan_0 {m : Int} {L : List Int} (h : ¬ c m = true) : scan w c F (m :: L) 0 = scan w c F L 0 := if_neg h
theorem scan_t {m : Int} {L : List Int} (n : Nat) (h : ¬ c m = true) (f : F m = true) : scan w c F (m :: L) (n + 1) = w m + scan w c F L n := by
  show (if c m = true then _ else (if F m = true then w m + scan w c F L n else scan w c F L (n + 1))) = _
  rw [if_neg h, if_pos f]
theorem scan_s {m : Int} {L : List Int} (n : Nat) (h : ¬ c m = true) (f : ¬ F m = true) : scan w c F (m :: L) n = scan w c F L n := by
  cases n with
  | zero => exact scan_0 h
  | succ n =>
    show (if c m = true then _ else (if F m = true then w m + scan w c F L n else scan w c F L (n + 1))) = _
    rw [if_neg h, if_neg f]
theorem scan_cg : ∀ (L : List Int) (n : Nat), (∀ m, m ∈ L → c m = c' m ∧ F m = F' m) → scan w c F L n = scan w c' F' L n
  | [], _, _ => rfl
  | m :: L, n, h => by
    have hm := h m (List.mem_cons_self ..)
    have ih : ∀ n, scan w c F L n = scan w c' F' L n := fun n => scan_cg L n (fun x hx => h x (List.mem_cons_of_mem _ hx))
    by_cases a : c m = true
    · rw [scan_c n a, scan_c n (by rw [← hm.1]; exact a), ih]
    · have a' : ¬ c' m = true := by rw [← hm.1]; exact a
      cases n with
      | zero => rw [scan_0 a, scan_0 a', ih]
      | succ n =>
        by_cases f : F m = true
        · rw [scan_t n a f, scan_t n a' (by rw [← hm.2]; exact f), ih]
        · rw [scan_s _ a f, scan_s _ a' (by rw [← hm.2]; exact f), ih]
/-- none more: free ones don't count -/
theorem scan_z : ∀ (L : List Int), (∀ m, m ∈ L → c m = c' m) → scan w c F L 0 = scan w c' F' L 0
  | [], _ => rfl
  | m :: L, h => by
    have hm := h m (List.mem_cons_self ..)
    have ih := scan_z L (fun x hx => h x (List.mem_cons_of_mem _ hx))
    by_cases a : c m = true
    · rw [scan_c 0 a, scan_c 0 (by rw [← hm]; exact a), ih]
    · rw [scan_0 a, scan_0 (by rw [← hm]; exact a), ih]
theorem scan_mono (hw : ∀ m, 0 ≤ w m) : ∀ (L : List Int) (n : Nat), scan w c F L n ≤ scan w c F L (n + 1)
  | [], _ => Int.le_refl _
  | m :: L, n => by
    have ih := scan_mono hw L
    by_cases a : c m = true
    · rw [scan_c n a, scan_c (n + 1) a]; have := ih n; omega
    · by_cases f : F m = true
      · rw [scan_t n a f]
        have := hw m
        cases n with
        | zero => rw [scan_0 a]; omega
        | succ n => rw [scan_t n a f]; have := ih n; omega
      · rw [scan_s n a f, scan_s (n + 1) a f]; exact ih n
noncomputable def offF (F : Int → Bool) (q : Int) : Int → Bool := fun x => F x && ! decide (x = q)
theorem offF_q (F : Int → Bool) (q : Int) : ¬ offF F q q = true := by unfold offF; simp
theorem offF_n {F : Int → Bool} {q x : Int} (h : x ≠ q) : offF F q x = F x := by unfold offF; simp [h]
/-- a claimed one taken out -/
theorem scan_pin {q : Int} (hq : c q = true) (h' : ¬ c' q = true) (hc : ∀ x, x ≠ q → c' x = c x) : ∀ (L : List Int) (n : Nat), L.Nodup → q ∈ L → scan w c F L n = w q + scan w c' (offF F q) L n
  | [], _, _, h => absurd h List.not_mem_nil
  | m :: L, n, hn, h => by
    have hn' := List.nodup_cons.mp hn
    by_cases e : m = q
    · subst e
      rw [scan_c n hq, scan_s n h' (offF_q F m)]
      rw [scan_cg (c := c') (c' := c) (F := offF F m) (F' := F) L n (fun x hx => by
        have : x ≠ m := fun y => hn'.1 (by rw [← y]; exact hx)
        exact ⟨hc x this, offF_n this⟩)]
    · have hL : q ∈ L := by
        rcases List.mem_cons.mp h with y | y
        · exact absurd y.symm e
        · exact y
      have ih := fun n => scan_pin hq h' hc L n hn'.2 hL
      by_cases a : c m = true
      · rw [scan_c n a, scan_c n (by rw [hc m e]; exact a), ih]; omega
      · have a' : ¬ c' m = true := by rw [hc m e]; exact a
        cases n with
        | zero => rw [scan_0 a, scan_0 a', ih]
        | succ n =>
          by_cases f : F m = true
          · rw [scan_t n a f, scan_t n a' (by rw [offF_n e]; exact f), ih]; omega
          · rw [scan_s _ a f, scan_s _ a' (by rw [offF_n e]; exact f), ih]
/-- a free one taken out: never worth more than itself -/
theorem scan_out (hw : ∀ m, 0 ≤ w m) {q : Int} (hq : ¬ c q = true) : ∀ (L : List Int) (n : Nat), L.Nodup → q ∈ L → scan w c F L n ≤ w q + scan w c (offF F q) L n
  | [], _, _, h => absurd h List.not_mem_nil
  | m :: L, n, hn, h => by
    have hn' := List.nodup_cons.mp hn
    by_cases e : m = q
    · subst e
      have cg : ∀ n, scan w c (offF F m) L n = scan w c F L n := fun n => scan_cg L n (fun x hx => by
        have : x ≠ m := fun y => hn'.1 (by rw [← y]; exact hx)
        exact ⟨rfl, offF_n this⟩)
      rw [scan_s n hq (offF_q F m), cg]
      have := hw m
      by_cases f : F m = true
      · cases n with
        | zero => rw [scan_0 hq]; omega
        | succ n => rw [scan_t n hq f]; have := scan_mono hw (c := c) (F := F) L n; omega
      · rw [scan_s n hq f]; omega
    · have hL : q ∈ L := by
        rcases List.mem_cons.mp h with y | y
        · exact absurd y.symm e
        · exact y
      have ih := fun n => scan_out hw hq L n hn'.2 hL
      by_cases a : c m = true
      · rw [scan_c n a, scan_c n a]; have := ih n; omega
      · cases n with
        | zero => rw [scan_0 a, scan_0 a]; exact ih 0
        | succ n =>
          by_cases f : F m = true
          · rw [scan_t n a f, scan_t n a (by rw [offF_n e]; exact f)]; have := ih n; omega
          · rw [scan_s _ a f, scan_s _ a (by rw [offF_n e]; exact f)]; exact ih (n + 1)
/-- the dearest first -/
noncomputable def srt (w : Int → Int) : List Int → Prop
  | [] => True
  | m :: L => (∀ x, x ∈ L → w x ≤ w m) ∧ srt w L
/-- a free one taken: never more than the best -/
theorem scan_ub {q : Int} (hq : ¬ c q = true) (fq : F q = true) : ∀ (L : List Int) (n : Nat), L.Nodup → srt w L → q ∈ L → w q + scan w c (offF F q) L n ≤ scan w c F L (n + 1)
  | [], _, _, _, h => absurd h List.not_mem_nil
  | m :: L, n, hn, hs, h => by
    have hn' := List.nodup_cons.mp hn
    by_cases e : m = q
    · subst e
      rw [scan_s n hq (offF_q F m), scan_t n hq fq, scan_cg (c := c) (c' := c) (F := offF F m) (F' := F) L n (fun x hx => by
        have : x ≠ m := fun y => hn'.1 (by rw [← y]; exact hx)
        exact ⟨rfl, offF_n this⟩)]
      omega
    · have hL : q ∈ L := by
        rcases List.mem_cons.mp h with y | y
        · exact absurd y.symm e
        · exact y
      have ih := fun n => scan_ub hq fq L n hn'.2 hs.2 hL
      by_cases a : c m = true
      · rw [scan_c n a, scan_c (n + 1) a]; have := ih n; omega
      · by_cases f : F m = true
        · rw [scan_t n a f]
          cases n with
          | zero =>
            have := hs.1 q hL
            rw [scan_0 a, scan_z (F := offF F q) (F' := F) L (fun _ _ => rfl)]
            omega
          | succ n => rw [scan_t n a (by rw [offF_n e]; exact f)]; have := ih n; omega
        · rw [scan_s n a (by rw [offF_n e]; exact f), scan_s (n + 1) a f]; exact ih n
/-- the best is taken, or none is left -/
theorem scan_att : ∀ (L : List Int) (n : Nat), L.Nodup → (∃ q, q ∈ L ∧ ¬ c q = true ∧ F q = true ∧ scan w c F L (n + 1) = w q + scan w c (offF F q) L n) ∨ scan w c F L (n + 1) = scan w c F L n
  | [], _, _ => Or.inr rfl
  | m :: L, n, hn => by
    have hn' := List.nodup_cons.mp hn
    have lift : ∀ q, q ∈ L → q ≠ m := fun q hq y => hn'.1 (by rw [← y]; exact hq)
    by_cases a : c m = true
    · rcases scan_att L n hn'.2 with ⟨q, q1, q2, q3, q4⟩ | q
      · left
        refine ⟨q, List.mem_cons_of_mem _ q1, q2, q3, ?_⟩
        rw [scan_c (n + 1) a, scan_c n a, q4]; omega
      · right
        rw [scan_c (n + 1) a, scan_c n a, q]
    · by_cases f : F m = true
      · left
        refine ⟨m, List.mem_cons_self .., a, f, ?_⟩
        rw [scan_t n a f, scan_s n a (offF_q F m), scan_cg (c := c) (c' := c) (F := offF F m) (F' := F) L n (fun x hx => ⟨rfl, offF_n (lift x hx)⟩)]
      · rcases scan_att L n hn'.2 with ⟨q, q1, q2, q3, q4⟩ | q
        · left
          refine ⟨q, List.mem_cons_of_mem _ q1, q2, q3, ?_⟩
          rw [scan_s (n + 1) a f, scan_s n a (by rw [offF_n (fun y => lift q q1 y.symm)]; exact f), q4]
        · right
          rw [scan_s (n + 1) a f, scan_s n a f, q]
end SC
/-- pins of works from one on: how many are loose, which machines are claimed -/
noncomputable def lose (pin : Int → Int) (N : Nat) : Nat → Nat
  | 0 => 0
  | r + 1 => lose pin N r + (if pin ((N : Int) - 1 - r) = -1 then 1 else 0)
noncomputable def clm (pin : Int → Int) (F : Int → Bool) (N : Nat) : Nat → Int → Bool
  | 0, _ => false
  | r + 1, x => clm pin F N r x || (decide (pin ((N : Int) - 1 - r) = x ∧ pin ((N : Int) - 1 - r) ≠ -1) && F x)
/-- the best of the last r works -/
noncomputable def opt (w : Int → Int) (pin : Int → Int) (L : List Int) (N r : Nat) (F : Int → Bool) : Int := scan w (clm pin F N r) F L (lose pin N r)
theorem clm_F {pin : Int → Int} {F : Int → Bool} {N : Nat} {x : Int} : ∀ r, clm pin F N r x = true → F x = true
  | 0, h => absurd h (by unfold clm; simp)
  | r + 1, h => by
    unfold clm at h
    rcases (Bool.or_eq_true _ _).mp h with y | y
    · exact clm_F r y
    · exact ((Bool.and_eq_true _ _).mp y).2
theorem clm_off {pin : Int → Int} {F : Int → Bool} {N : Nat} {q x : Int} (h : x ≠ q) : ∀ r, clm pin (offF F q) N r x = clm pin F N r x
  | 0 => rfl
  | r + 1 => by
    unfold clm
    rw [clm_off h r, offF_n h]
theorem opt_max {w : Int → Int} {pin : Int → Int} {L : List Int} {N r : Nat} {F : Int → Bool} (hw : ∀ m, 0 ≤ w m) (hL : L.Nodup) (hs : srt w L) (hF : ∀ m, F m = true → m ∈ L) (hm1 : ∀ m, m ∈ L → m ≠ -1) :
    opt w pin L N r F ≤ opt w pin L N (r + 1) F ∧ (∀ q, F q = true → (pin ((N : Int) - 1 - r) = -1 ∨ pin ((N : Int) - 1 - r) = q) → w q + opt w pin L N r (offF F q) ≤ opt w pin L N (r + 1) F) ∧
    (opt w pin L N (r + 1) F = opt w pin L N r F ∨ ∃ q, F q = true ∧ (pin ((N : Int) - 1 - r) = -1 ∨ pin ((N : Int) - 1 - r) = q) ∧ opt w pin L N (r + 1) F = w q + opt w pin L N r (offF F q)) := by
  obtain ⟨p, ep⟩ : ∃ p, p = pin ((N : Int) - 1 - r) := ⟨_, rfl⟩
  rw [← ep]
  by_cases hp : p = -1
  · -- a loose one
    have el : lose pin N (r + 1) = lose pin N r + 1 := by
      show lose pin N r + (if pin ((N : Int) - 1 - r) = -1 then 1 else 0) = _
      rw [← ep, if_pos hp]
    have ec : ∀ F x, clm pin F N (r + 1) x = clm pin F N r x := fun F x => by
      show (clm pin F N r x || (decide (pin ((N : Int) - 1 - r) = x ∧ pin ((N : Int) - 1 - r) ≠ -1) && F x)) = _
      rw [← ep, show decide (p = x ∧ p ≠ -1) = false from decide_eq_false (fun y => y.2 hp)]
      simp
    have e1 : opt w pin L N (r + 1) F = scan w (clm pin F N r) F L (lose pin N r + 1) := by
      unfold opt
      rw [el]
      exact scan_cg L _ (fun m _ => ⟨ec F m, rfl⟩)
    have eo : ∀ q, F q = true → opt w pin L N r (offF F q) = scan w (clm pin (offF F q) N r) (offF F q) L (lose pin N r) := fun q _ => rfl
    have hoff : ∀ q, ¬ clm pin (offF F q) N r q = true := fun q y => offF_q F q (clm_F r y)
    rw [e1]
    refine ⟨scan_mono hw L _, fun q fq _ => ?_, ?_⟩
    · rw [eo q fq]
      by_cases cq : clm pin F N r q = true
      · have := scan_pin (w := w) (F := F) (c := clm pin F N r) (c' := clm pin (offF F q) N r) cq (hoff q) (fun x hx => clm_off hx r) L (lose pin N r) hL (hF q fq)
        have := scan_mono hw (c := clm pin F N r) (F := F) L (lose pin N r)
        omega
      · have e := scan_cg (w := w) (c := clm pin (offF F q) N r) (c' := clm pin F N r) (F := offF F q) (F' := offF F q) L (lose pin N r) (fun m _ => by
          by_cases y : m = q
          · subst y
            refine ⟨?_, rfl⟩
            rw [Bool.eq_false_iff.mpr (hoff m), Bool.eq_false_iff.mpr cq]
          · exact ⟨clm_off y r, rfl⟩)
        rw [e]
        exact scan_ub cq fq L _ hL hs (hF q fq)
    · rcases scan_att (w := w) (c := clm pin F N r) (F := F) L (lose pin N r) hL with ⟨q, q1, q2, q3, q4⟩ | q
      · right
        refine ⟨q, q3, Or.inl hp, ?_⟩
        rw [q4, eo q q3]
        have e := scan_cg (w := w) (c := clm pin F N r) (c' := clm pin (offF F q) N r) (F := offF F q) (F' := offF F q) L (lose pin N r) (fun m _ => by
          by_cases y : m = q
          · subst y
            refine ⟨?_, rfl⟩
            rw [Bool.eq_false_iff.mpr (hoff m), Bool.eq_false_iff.mpr q2]
          · exact ⟨(clm_off y r).symm, rfl⟩)
        rw [e]
      · left
        rw [q]; rfl
  · -- a pinned one
    have el : lose pin N (r + 1) = lose pin N r := by
      show lose pin N r + (if pin ((N : Int) - 1 - r) = -1 then 1 else 0) = _
      rw [← ep, if_neg hp]; rfl
    have ec : ∀ F x, clm pin F N (r + 1) x = (clm pin F N r x || (decide (p = x) && F x)) := fun F x => by
      show (clm pin F N r x || (decide (pin ((N : Int) - 1 - r) = x ∧ pin ((N : Int) - 1 - r) ≠ -1) && F x)) = _
      rw [← ep]
      congr 2
      exact decide_eq_decide.mpr ⟨fun y => y.1, fun y => ⟨y, hp⟩⟩
    by_cases fp : F p = true
    · have cp : clm pin F N (r + 1) p = true := by rw [ec]; simp [fp]
      have hoff : ¬ clm pin (offF F p) N r p = true := fun y => offF_q F p (clm_F r y)
      have E : opt w pin L N (r + 1) F = w p + opt w pin L N r (offF F p) := by
        unfold opt
        rw [el]
        exact scan_pin cp hoff (fun x hx => by rw [clm_off hx, ec, show decide (p = x) = false from decide_eq_false (fun y => hx y.symm)]; simp) L _ hL (hF p fp)
      refine ⟨?_, fun q fq hq => ?_, Or.inr ⟨p, fp, Or.inr rfl, E⟩⟩
      · rw [E]
        by_cases cq : clm pin F N r p = true
        · have := scan_pin (w := w) (F := F) (c := clm pin F N r) (c' := clm pin (offF F p) N r) cq hoff (fun x hx => clm_off hx r) L (lose pin N r) hL (hF p fp)
          unfold opt
          omega
        · have := scan_out (F := F) hw cq L (lose pin N r) hL (hF p fp)
          have e := scan_cg (w := w) (c := clm pin F N r) (c' := clm pin (offF F p) N r) (F := offF F p) (F' := offF F p) L (lose pin N r) (fun m _ => by
            by_cases y : m = p
            · subst y
              refine ⟨?_, rfl⟩
              rw [Bool.eq_false_iff.mpr hoff, Bool.eq_false_iff.mpr cq]
            · exact ⟨(clm_off y r).symm, rfl⟩)
          rw [e] at this
          exact this
      · rcases hq with hq | hq
        · exact absurd hq hp
        · subst hq; rw [E]; exact Int.le_refl _
    · have E : opt w pin L N (r + 1) F = opt w pin L N r F := by
        unfold opt
        rw [el]
        refine scan_cg L _ (fun m _ => ⟨?_, rfl⟩)
        rw [ec]
        by_cases y : p = m
        · subst y; simp [Bool.eq_false_iff.mpr fp]
        · rw [decide_eq_false y]; simp
      refine ⟨by rw [E]; exact Int.le_refl _, fun q fq hq => ?_, Or.inl E⟩
      rcases hq with hq | hq
      · exact absurd hq hp
      · subst hq; exact absurd fq fp
