/-! Rules for the pure machine. -/
theorem WP.blk {k : Nat} {Q : Option pV → pH → Prop} (i n : Nat) {L st : List pV} {h : pH} (hs : (((pm_CODE k).drop i).take n).all pm_seq = true) (hp : (pm_run (((pm_CODE k).drop i).take n) (i, L, st, h)).1) (hw : WP k (pm_run (((pm_CODE k).drop i).take n) (i, L, st, h)).2 Q) : WP k (i, L, st, h) Q :=
  WP.run _ (((pm_CODE k).drop i).drop n) i L st h (List.take_append_drop n _).symm hs hp hw
section WPR
variable {k i : Nat} {Q : Option pV → pH → Prop} {L st : List pV} {h : pH} {off : Int} {tg : Nat} {ns : List Nat} {zs : List Int} {x y : Int}
theorem WP.goto (hq : (pm_CODE k)[i]? = some (.goto off, [tg], [])) (kk : WP k (tg, L, st, h) Q) : WP k (i, L, st, h) Q := WP.step _ hq rfl rfl trivial kk
theorem WP.if2 {c : ClassFile.Cond} (hq : (pm_CODE k)[i]? = some (.if_icmp c off, [tg], [])) (kt : pm_cnd c x y = true → WP k (tg, L, st, h) Q) (kf : ¬ pm_cnd c x y = true → WP k (i + 1, L, st, h) Q) : WP k (i, L, (0, y) :: (0, x) :: st, h) Q := by
  refine WP.step _ hq rfl rfl ⟨rfl, rfl⟩ ?_
  show WP k (if pm_cnd c x y = true then tg else i + 1, L, st, h) Q
  by_cases hc : pm_cnd c x y = true
  · rw [if_pos hc]; exact kt hc
  · rw [if_neg hc]; exact kf hc
theorem WP.if1 {c : ClassFile.Cond} (hq : (pm_CODE k)[i]? = some (.ifCond c off, [tg], [])) (kt : pm_cnd c x 0 = true → WP k (tg, L, st, h) Q) (kf : ¬ pm_cnd c x 0 = true → WP k (i + 1, L, st, h) Q) : WP k (i, L, (0, x) :: st, h) Q := by
  refine WP.step _ hq rfl rfl rfl ?_
  show WP k (if pm_cnd c x 0 = true then tg else i + 1, L, st, h) Q
  by_cases hc : pm_cnd c x 0 = true
  · rw [if_pos hc]; exact kt hc
  · rw [if_neg hc]; exact kf hc
theorem WP.i_eq (hq : (pm_CODE k)[i]? = some (.if_icmp .eq off, [tg], [])) (kt : x = y → WP k (tg, L, st, h) Q) (kf : ¬ x = y → WP k (i + 1, L, st, h) Q) : WP k (i, L, (0, y) :: (0, x) :: st, h) Q := WP.if2 hq (fun c => kt (of_decide_eq_true c)) (fun c => kf (fun q => c (decide_eq_true q)))
theorem WP.i_ne (hq : (pm_CODE k)[i]? = some (.if_icmp .ne off, [tg], [])) (kt : ¬ x = y → WP k (tg, L, st, h) Q) (kf : x = y → WP k (i + 1, L, st, h) Q) : WP k (i, L, (0, y) :: (0, x) :: st, h) Q := WP.if2 hq (fun c => kt (of_decide_eq_true c)) (fun c => kf (Decidable.byContradiction (fun q => c (decide_eq_true (p := ¬ x = y) q))))
theorem WP.i_lt (hq : (pm_CODE k)[i]? = some (.if_icmp .lt off, [tg], [])) (kt : x < y → WP k (tg, L, st, h) Q) (kf : ¬ x < y → WP k (i + 1, L, st, h) Q) : WP k (i, L, (0, y) :: (0, x) :: st, h) Q := WP.if2 hq (fun c => kt (of_decide_eq_true c)) (fun c => kf (fun q => c (decide_eq_true q)))
theorem WP.i_ge (hq : (pm_CODE k)[i]? = some (.if_icmp .ge off, [tg], [])) (kt : y ≤ x → WP k (tg, L, st, h) Q) (kf : ¬ y ≤ x → WP k (i + 1, L, st, h) Q) : WP k (i, L, (0, y) :: (0, x) :: st, h) Q := WP.if2 hq (fun c => kt (of_decide_eq_true c)) (fun c => kf (fun q => c (decide_eq_true q)))
theorem WP.i_gt (hq : (pm_CODE k)[i]? = some (.if_icmp .gt off, [tg], [])) (kt : y < x → WP k (tg, L, st, h) Q) (kf : ¬ y < x → WP k (i + 1, L, st, h) Q) : WP k (i, L, (0, y) :: (0, x) :: st, h) Q := WP.if2 hq (fun c => kt (of_decide_eq_true c)) (fun c => kf (fun q => c (decide_eq_true q)))
theorem WP.i_le (hq : (pm_CODE k)[i]? = some (.if_icmp .le off, [tg], [])) (kt : x ≤ y → WP k (tg, L, st, h) Q) (kf : ¬ x ≤ y → WP k (i + 1, L, st, h) Q) : WP k (i, L, (0, y) :: (0, x) :: st, h) Q := WP.if2 hq (fun c => kt (of_decide_eq_true c)) (fun c => kf (fun q => c (decide_eq_true q)))
theorem WP.z_eq (hq : (pm_CODE k)[i]? = some (.ifCond .eq off, [tg], [])) (kt : x = 0 → WP k (tg, L, st, h) Q) (kf : ¬ x = 0 → WP k (i + 1, L, st, h) Q) : WP k (i, L, (0, x) :: st, h) Q := WP.if1 hq (fun c => kt (of_decide_eq_true c)) (fun c => kf (fun q => c (decide_eq_true q)))
theorem WP.z_ne (hq : (pm_CODE k)[i]? = some (.ifCond .ne off, [tg], [])) (kt : ¬ x = 0 → WP k (tg, L, st, h) Q) (kf : x = 0 → WP k (i + 1, L, st, h) Q) : WP k (i, L, (0, x) :: st, h) Q := WP.if1 hq (fun c => kt (of_decide_eq_true c)) (fun c => kf (Decidable.byContradiction (fun q => c (decide_eq_true (p := ¬ x = 0) q))))
theorem WP.z_lt (hq : (pm_CODE k)[i]? = some (.ifCond .lt off, [tg], [])) (kt : x < 0 → WP k (tg, L, st, h) Q) (kf : ¬ x < 0 → WP k (i + 1, L, st, h) Q) : WP k (i, L, (0, x) :: st, h) Q := WP.if1 hq (fun c => kt (of_decide_eq_true c)) (fun c => kf (fun q => c (decide_eq_true q)))
theorem WP.z_ge (hq : (pm_CODE k)[i]? = some (.ifCond .ge off, [tg], [])) (kt : 0 ≤ x → WP k (tg, L, st, h) Q) (kf : ¬ 0 ≤ x → WP k (i + 1, L, st, h) Q) : WP k (i, L, (0, x) :: st, h) Q := WP.if1 hq (fun c => kt (of_decide_eq_true c)) (fun c => kf (fun q => c (decide_eq_true q)))
theorem WP.z_gt (hq : (pm_CODE k)[i]? = some (.ifCond .gt off, [tg], [])) (kt : 0 < x → WP k (tg, L, st, h) Q) (kf : ¬ 0 < x → WP k (i + 1, L, st, h) Q) : WP k (i, L, (0, x) :: st, h) Q := WP.if1 hq (fun c => kt (of_decide_eq_true c)) (fun c => kf (fun q => c (decide_eq_true q)))
theorem WP.z_le (hq : (pm_CODE k)[i]? = some (.ifCond .le off, [tg], [])) (kt : x ≤ 0 → WP k (tg, L, st, h) Q) (kf : ¬ x ≤ 0 → WP k (i + 1, L, st, h) Q) : WP k (i, L, (0, x) :: st, h) Q := WP.if1 hq (fun c => kt (of_decide_eq_true c)) (fun c => kf (fun q => c (decide_eq_true q)))
theorem pm_lcmp_eq : pm_lcmp x y = 0 ↔ x = y := by unfold pm_lcmp; split <;> (try split) <;> omega
theorem pm_lcmp_lt : pm_lcmp x y < 0 ↔ x < y := by unfold pm_lcmp; split <;> (try split) <;> omega
theorem pm_lcmp_ge : 0 ≤ pm_lcmp x y ↔ y ≤ x := by unfold pm_lcmp; split <;> (try split) <;> omega
theorem pm_lcmp_gt : 0 < pm_lcmp x y ↔ y < x := by unfold pm_lcmp; split <;> (try split) <;> omega
theorem pm_lcmp_le : pm_lcmp x y ≤ 0 ↔ x ≤ y := by unfold pm_lcmp; split <;> (try split) <;> omega
theorem WP.l_eq (hq : (pm_CODE k)[i]? = some (.ifCond .eq off, [tg], [])) (kt : x = y → WP k (tg, L, st, h) Q) (kf : ¬ x = y → WP k (i + 1, L, st, h) Q) : WP k (i, L, (0, pm_lcmp x y) :: st, h) Q := WP.z_eq hq (fun c => kt (pm_lcmp_eq.mp c)) (fun c => kf (fun q => c (pm_lcmp_eq.mpr q)))
theorem WP.l_ne (hq : (pm_CODE k)[i]? = some (.ifCond .ne off, [tg], [])) (kt : ¬ x = y → WP k (tg, L, st, h) Q) (kf : x = y → WP k (i + 1, L, st, h) Q) : WP k (i, L, (0, pm_lcmp x y) :: st, h) Q := WP.z_ne hq (fun c => kt (fun q => c (pm_lcmp_eq.mpr q))) (fun c => kf (pm_lcmp_eq.mp c))
theorem WP.l_lt (hq : (pm_CODE k)[i]? = some (.ifCond .lt off, [tg], [])) (kt : x < y → WP k (tg, L, st, h) Q) (kf : ¬ x < y → WP k (i + 1, L, st, h) Q) : WP k (i, L, (0, pm_lcmp x y) :: st, h) Q := WP.z_lt hq (fun c => kt (pm_lcmp_lt.mp c)) (fun c => kf (fun q => c (pm_lcmp_lt.mpr q)))
theorem WP.l_ge (hq : (pm_CODE k)[i]? = some (.ifCond .ge off, [tg], [])) (kt : y ≤ x → WP k (tg, L, st, h) Q) (kf : ¬ y ≤ x → WP k (i + 1, L, st, h) Q) : WP k (i, L, (0, pm_lcmp x y) :: st, h) Q := WP.z_ge hq (fun c => kt (pm_lcmp_ge.mp c)) (fun c => kf (fun q => c (pm_lcmp_ge.mpr q)))
theorem WP.l_gt (hq : (pm_CODE k)[i]? = some (.ifCond .gt off, [tg], [])) (kt : y < x → WP k (tg, L, st, h) Q) (kf : ¬ y < x → WP k (i + 1, L, st, h) Q) : WP k (i, L, (0, pm_lcmp x y) :: st, h) Q := WP.z_gt hq (fun c => kt (pm_lcmp_gt.mp c)) (fun c => kf (fun q => c (pm_lcmp_gt.mpr q)))
theorem WP.l_le (hq : (pm_CODE k)[i]? = some (.ifCond .le off, [tg], [])) (kt : x ≤ y → WP k (tg, L, st, h) Q) (kf : ¬ x ≤ y → WP k (i + 1, L, st, h) Q) : WP k (i, L, (0, pm_lcmp x y) :: st, h) Q := WP.z_le hq (fun c => kt (pm_lcmp_le.mp c)) (fun c => kf (fun q => c (pm_lcmp_le.mpr q)))
theorem WP.reti (hq : (pm_CODE k)[i]? = some (.ireturn, [1], [])) (h2 : Q (some (0, x)) h) : WP k (i, L, [(0, x)], h) Q := WP.ret _ 1 hq rfl rfl rfl h2
theorem WP.retz (hq : (pm_CODE k)[i]? = some (.ireturn, [2], [])) (hz : x = 0 ∨ x = 1) (h2 : Q (some (0, x)) h) : WP k (i, L, [(0, x)], h) Q := WP.ret _ 2 hq rfl rfl ⟨rfl, hz⟩ h2
theorem WP.retl (hq : (pm_CODE k)[i]? = some (.lreturn, [], [])) (h2 : Q (some (1, x)) h) : WP k (i, L, [(1, x)], h) Q := WP.ret _ 3 hq rfl rfl rfl h2
theorem WP.retv (hq : (pm_CODE k)[i]? = some (.return_, [], [])) (h2 : Q none h) : WP k (i, L, [], h) Q := WP.ret _ 0 hq rfl rfl trivial h2
/-- a call whose answer and heap are known -/
theorem WP.callF {q : pI} {m : Nat} {args rest : List pV} {r : Option pV} {h' : pH} (hc : CP m args h (fun a b => a = r ∧ b = h')) (hq : (pm_CODE k)[i]? = some q) (hm : pm_call q = some m) (h1 : pm_callOk m st) (ha : (st.take (pm_inf m).1.length).reverse = args) (hr : st.drop (pm_inf m).1.length = rest)
    (kk : WP k (i + 1, L, r.toList ++ rest, h') Q) : WP k (i, L, st, h) Q :=
  WP.call q m args rest hq hm h1 ha hr (WP.mono hc (fun a b hab => by obtain ⟨rfl, rfl⟩ := hab; exact kk))
theorem WP.tsw {d lo hi : Int} {offs : Array Int} (hq : (pm_CODE k)[i]? = some (.tableswitch d lo hi offs, ns, zs)) (hd : (x < lo ∨ hi < x) → WP k (ns.getD 0 0, L, st, h) Q) (hc : ∀ j : Nat, x = lo + j → j ≤ (hi - lo).toNat → WP k (ns.getD (j + 1) 0, L, st, h) Q) : WP k (i, L, (0, x) :: st, h) Q := by
  refine WP.step _ hq rfl rfl rfl ?_
  show WP k (if x < lo ∨ hi < x then ns.getD 0 0 else ns.getD ((x - lo).toNat + 1) 0, L, st, h) Q
  by_cases hx : x < lo ∨ hi < x
  · rw [if_pos hx]; exact hd hx
  · rw [if_neg hx]; exact hc (x - lo).toNat (by omega) (by omega)
theorem WP.lsw {d : Int} {ps : Array (Int × Int)} (hq : (pm_CODE k)[i]? = some (.lookupswitch d ps, ns, zs)) (kk : WP k (pm_look (zs.zip (ns.drop 1)) (ns.getD 0 0) x, L, st, h) Q) : WP k (i, L, (0, x) :: st, h) Q := WP.step _ hq rfl rfl rfl kk
theorem WP.lk {q : Int × Nat} {r : List (Int × Nat)} {d : Nat} (kt : x = q.1 → WP k (q.2, L, st, h) Q) (kf : ¬ x = q.1 → WP k (pm_look r d x, L, st, h) Q) : WP k (pm_look (q :: r) d x, L, st, h) Q := by
  unfold pm_look
  by_cases hx : x = q.1
  · rw [if_pos hx]; exact kt hx
  · rw [if_neg hx]; exact kf hx
end WPR
/-- a loop that counts: the states at its head -/
theorem WP.for {m : Nat} {Q : Option pV → pH → Prop} (N : Nat) (S : Nat → pS) (hs : ∀ n, n < N → WP m (S (n + 1)) Q → WP m (S n) Q) (he : WP m (S N) Q) : WP m (S 0) Q := by
  induction N with
  | zero => exact he
  | succ N ih => exact ih (fun n hn => hs n (by omega)) (hs N (by omega) he)
theorem pm_cok {m : Nat} {st : List pV} (h1 : Nat.ble (pm_inf m).1.length st.length = true) (h2 : (st.take (pm_inf m).1.length).reverse.map pm_cat = (pm_inf m).1) (h3 : (pm_inf m).2.1 = 0 ∨ ∃ a r, (st.take (pm_inf m).1.length).reverse = ((pm_inf m).2.1, a) :: r) (h4 : (st.take (pm_inf m).1.length).all (fun v => Nat.ble (v.1 + 1) 4000000) = true) (h5 : Nat.ble ((st.drop (pm_inf m).1.length).map pm_cat).sum 8 = true) : pm_callOk m st :=
  ⟨Nat.le_of_ble_eq_true h1, h2, h3, fun v hv => Nat.le_of_ble_eq_true (List.all_eq_true.mp h4 v hv), Nat.le_of_ble_eq_true h5⟩

section WPI
variable {k i j : Nat} {Q : Option pV → pH → Prop} {L st : List pV} {h : pH} {x y v a : Int} {t t2 ci tg idx : Nat} {z off n sp dp d : Int} {u w : pV}
theorem WP.iconst (hq : (pm_CODE k)[i]? = some (.iconst n, [], [v]))  (kk : WP k (i + 1, L, (0, v) :: st, h) Q) : WP k (i, L, st, h) Q := WP.step _ hq rfl rfl trivial kk
theorem WP.bipush (hq : (pm_CODE k)[i]? = some (.bipush n, [], [v]))  (kk : WP k (i + 1, L, (0, v) :: st, h) Q) : WP k (i, L, st, h) Q := WP.step _ hq rfl rfl trivial kk
theorem WP.sipush (hq : (pm_CODE k)[i]? = some (.sipush n, [], [v]))  (kk : WP k (i + 1, L, (0, v) :: st, h) Q) : WP k (i, L, st, h) Q := WP.step _ hq rfl rfl trivial kk
theorem WP.ldc (hq : (pm_CODE k)[i]? = some (.ldc idx, [0], [v]))  (kk : WP k (i + 1, L, (0, v) :: st, h) Q) : WP k (i, L, st, h) Q := WP.step _ hq rfl rfl trivial kk
theorem WP.ldcS (hq : (pm_CODE k)[i]? = some (.ldc idx, [4000000], [v]))  (kk : WP k (i + 1, L, (4000000, v) :: st, h) Q) : WP k (i, L, st, h) Q := WP.step _ hq rfl rfl trivial kk
theorem WP.ldc_w (hq : (pm_CODE k)[i]? = some (.ldc_w idx, [], [v]))  (kk : WP k (i + 1, L, (0, v) :: st, h) Q) : WP k (i, L, st, h) Q := WP.step _ hq rfl rfl trivial kk
theorem WP.ldc2_w (hq : (pm_CODE k)[i]? = some (.ldc2_w idx, [], [v]))  (kk : WP k (i + 1, L, (1, v) :: st, h) Q) : WP k (i, L, st, h) Q := WP.step _ hq rfl rfl trivial kk
theorem WP.lconst {f : Fin 2} (hq : (pm_CODE k)[i]? = some (.lconst f, [], [v])) (kk : WP k (i + 1, L, (1, v) :: st, h) Q) : WP k (i, L, st, h) Q := WP.step _ hq rfl rfl trivial kk
theorem WP.iload (hq : (pm_CODE k)[i]? = some (.iload j, [], [])) (hl : L.getD j pU = (0, x)) (kk : WP k (i + 1, L, (0, x) :: st, h) Q) : WP k (i, L, st, h) Q := WP.step _ hq rfl rfl (by show (L.getD j pU).1 = 0; rw [hl]) (by show WP k (i + 1, L, L.getD j pU :: st, h) Q; rw [hl]; exact kk)
theorem WP.iload_n {f : Fin 4} (hq : (pm_CODE k)[i]? = some (.iload_n f, [], [])) (hl : L.getD f pU = (0, x)) (kk : WP k (i + 1, L, (0, x) :: st, h) Q) : WP k (i, L, st, h) Q := WP.step _ hq rfl rfl (by show (L.getD f pU).1 = 0; rw [hl]) (by show WP k (i + 1, L, L.getD f pU :: st, h) Q; rw [hl]; exact kk)
theorem WP.lload (hq : (pm_CODE k)[i]? = some (.lload j, [], [])) (hl : L.getD j pU = (1, x)) (kk : WP k (i + 1, L, (1, x) :: st, h) Q) : WP k (i, L, st, h) Q := WP.step _ hq rfl rfl (by show (L.getD j pU).1 = 1; rw [hl]) (by show WP k (i + 1, L, L.getD j pU :: st, h) Q; rw [hl]; exact kk)
theorem WP.lload_n {f : Fin 4} (hq : (pm_CODE k)[i]? = some (.lload_n f, [], [])) (hl : L.getD f pU = (1, x)) (kk : WP k (i + 1, L, (1, x) :: st, h) Q) : WP k (i, L, st, h) Q := WP.step _ hq rfl rfl (by show (L.getD f pU).1 = 1; rw [hl]) (by show WP k (i + 1, L, L.getD f pU :: st, h) Q; rw [hl]; exact kk)
theorem WP.aload (hq : (pm_CODE k)[i]? = some (.aload j, [], [])) (hl : L.getD j pU = (t, x)) (hR : pm_isR t) (kk : WP k (i + 1, L, (t, x) :: st, h) Q) : WP k (i, L, st, h) Q := WP.step _ hq rfl rfl (by show pm_isR (L.getD j pU).1; rw [hl]; exact hR) (by show WP k (i + 1, L, L.getD j pU :: st, h) Q; rw [hl]; exact kk)
theorem WP.aload_n {f : Fin 4} (hq : (pm_CODE k)[i]? = some (.aload_n f, [], [])) (hl : L.getD f pU = (t, x)) (hR : pm_isR t) (kk : WP k (i + 1, L, (t, x) :: st, h) Q) : WP k (i, L, st, h) Q := WP.step _ hq rfl rfl (by show pm_isR (L.getD f pU).1; rw [hl]; exact hR) (by show WP k (i + 1, L, L.getD f pU :: st, h) Q; rw [hl]; exact kk)
theorem WP.istore {L' : List pV} (hq : (pm_CODE k)[i]? = some (.istore j, [], [])) (hl : pm_lset L j (0, x) = L') (kk : WP k (i + 1, L', st, h) Q) : WP k (i, L, (0, x) :: st, h) Q := WP.step _ hq rfl rfl rfl (by show WP k (i + 1, pm_lset L j (0, x), st, h) Q; rw [hl]; exact kk)
theorem WP.istore_n {L' : List pV} {f : Fin 4} (hq : (pm_CODE k)[i]? = some (.istore_n f, [], [])) (hl : pm_lset L f (0, x) = L') (kk : WP k (i + 1, L', st, h) Q) : WP k (i, L, (0, x) :: st, h) Q := WP.step _ hq rfl rfl rfl (by show WP k (i + 1, pm_lset L f (0, x), st, h) Q; rw [hl]; exact kk)
theorem WP.lstore {L' : List pV} (hq : (pm_CODE k)[i]? = some (.lstore j, [], [])) (hl : pm_lset L j (1, x) = L') (kk : WP k (i + 1, L', st, h) Q) : WP k (i, L, (1, x) :: st, h) Q := WP.step _ hq rfl rfl rfl (by show WP k (i + 1, pm_lset L j (1, x), st, h) Q; rw [hl]; exact kk)
theorem WP.lstore_n {L' : List pV} {f : Fin 4} (hq : (pm_CODE k)[i]? = some (.lstore_n f, [], [])) (hl : pm_lset L f (1, x) = L') (kk : WP k (i + 1, L', st, h) Q) : WP k (i, L, (1, x) :: st, h) Q := WP.step _ hq rfl rfl rfl (by show WP k (i + 1, pm_lset L f (1, x), st, h) Q; rw [hl]; exact kk)
theorem WP.astore {L' : List pV} (hq : (pm_CODE k)[i]? = some (.astore j, [], [])) (hR : pm_isR t) (hl : pm_lset L j (t, x) = L') (kk : WP k (i + 1, L', st, h) Q) : WP k (i, L, (t, x) :: st, h) Q := WP.step _ hq rfl rfl hR (by show WP k (i + 1, pm_lset L j (t, x), st, h) Q; rw [hl]; exact kk)
theorem WP.astore_n {L' : List pV} {f : Fin 4} (hq : (pm_CODE k)[i]? = some (.astore_n f, [], [])) (hR : pm_isR t) (hl : pm_lset L f (t, x) = L') (kk : WP k (i + 1, L', st, h) Q) : WP k (i, L, (t, x) :: st, h) Q := WP.step _ hq rfl rfl hR (by show WP k (i + 1, pm_lset L f (t, x), st, h) Q; rw [hl]; exact kk)
theorem WP.iinc {L' : List pV} (hq : (pm_CODE k)[i]? = some (.iinc j n, [], [])) (hg : L.getD j pU = (0, x)) (hl : pm_lset L j (0, pm_w (x + n)) = L') (kk : WP k (i + 1, L', st, h) Q) : WP k (i, L, st, h) Q := WP.step _ hq rfl rfl (by show (L.getD j pU).1 = 0; rw [hg]) (by show WP k (i + 1, pm_lset L j (0, pm_w ((L.getD j pU).2 + n)), st, h) Q; rw [hg, hl]; exact kk)
theorem WP.iadd (hq : (pm_CODE k)[i]? = some (.iadd, [], []))  (kk : WP k (i + 1, L, (0, pm_w (x + y)) :: st, h) Q) : WP k (i, L, (0, y) :: (0, x) :: st, h) Q := WP.step _ hq rfl rfl ⟨rfl, rfl⟩ kk
theorem WP.isub (hq : (pm_CODE k)[i]? = some (.isub, [], []))  (kk : WP k (i + 1, L, (0, pm_w (x - y)) :: st, h) Q) : WP k (i, L, (0, y) :: (0, x) :: st, h) Q := WP.step _ hq rfl rfl ⟨rfl, rfl⟩ kk
theorem WP.imul (hq : (pm_CODE k)[i]? = some (.imul, [], []))  (kk : WP k (i + 1, L, (0, pm_w (x * y)) :: st, h) Q) : WP k (i, L, (0, y) :: (0, x) :: st, h) Q := WP.step _ hq rfl rfl ⟨rfl, rfl⟩ kk
theorem WP.iand (hq : (pm_CODE k)[i]? = some (.iand, [], []))  (kk : WP k (i + 1, L, (0, pm_and x y) :: st, h) Q) : WP k (i, L, (0, y) :: (0, x) :: st, h) Q := WP.step _ hq rfl rfl ⟨rfl, rfl⟩ kk
theorem WP.ior (hq : (pm_CODE k)[i]? = some (.ior, [], []))  (kk : WP k (i + 1, L, (0, pm_or x y) :: st, h) Q) : WP k (i, L, (0, y) :: (0, x) :: st, h) Q := WP.step _ hq rfl rfl ⟨rfl, rfl⟩ kk
theorem WP.ixor (hq : (pm_CODE k)[i]? = some (.ixor, [], []))  (kk : WP k (i + 1, L, (0, pm_xor x y) :: st, h) Q) : WP k (i, L, (0, y) :: (0, x) :: st, h) Q := WP.step _ hq rfl rfl ⟨rfl, rfl⟩ kk
theorem WP.ishl (hq : (pm_CODE k)[i]? = some (.ishl, [], []))  (kk : WP k (i + 1, L, (0, pm_shl x y) :: st, h) Q) : WP k (i, L, (0, y) :: (0, x) :: st, h) Q := WP.step _ hq rfl rfl ⟨rfl, rfl⟩ kk
theorem WP.ishr (hq : (pm_CODE k)[i]? = some (.ishr, [], []))  (kk : WP k (i + 1, L, (0, pm_shr x y) :: st, h) Q) : WP k (i, L, (0, y) :: (0, x) :: st, h) Q := WP.step _ hq rfl rfl ⟨rfl, rfl⟩ kk
theorem WP.iushr (hq : (pm_CODE k)[i]? = some (.iushr, [], []))  (kk : WP k (i + 1, L, (0, pm_ushr x y) :: st, h) Q) : WP k (i, L, (0, y) :: (0, x) :: st, h) Q := WP.step _ hq rfl rfl ⟨rfl, rfl⟩ kk
theorem WP.ladd (hq : (pm_CODE k)[i]? = some (.ladd, [], []))  (kk : WP k (i + 1, L, (1, pm_wl (x + y)) :: st, h) Q) : WP k (i, L, (1, y) :: (1, x) :: st, h) Q := WP.step _ hq rfl rfl ⟨rfl, rfl⟩ kk
theorem WP.lsub (hq : (pm_CODE k)[i]? = some (.lsub, [], []))  (kk : WP k (i + 1, L, (1, pm_wl (x - y)) :: st, h) Q) : WP k (i, L, (1, y) :: (1, x) :: st, h) Q := WP.step _ hq rfl rfl ⟨rfl, rfl⟩ kk
theorem WP.lmul (hq : (pm_CODE k)[i]? = some (.lmul, [], []))  (kk : WP k (i + 1, L, (1, pm_wl (x * y)) :: st, h) Q) : WP k (i, L, (1, y) :: (1, x) :: st, h) Q := WP.step _ hq rfl rfl ⟨rfl, rfl⟩ kk
theorem WP.land (hq : (pm_CODE k)[i]? = some (.land, [], []))  (kk : WP k (i + 1, L, (1, pm_landl x y) :: st, h) Q) : WP k (i, L, (1, y) :: (1, x) :: st, h) Q := WP.step _ hq rfl rfl ⟨rfl, rfl⟩ kk
theorem WP.lor (hq : (pm_CODE k)[i]? = some (.lor, [], []))  (kk : WP k (i + 1, L, (1, pm_lorl x y) :: st, h) Q) : WP k (i, L, (1, y) :: (1, x) :: st, h) Q := WP.step _ hq rfl rfl ⟨rfl, rfl⟩ kk
theorem WP.lshl (hq : (pm_CODE k)[i]? = some (.lshl, [], []))  (kk : WP k (i + 1, L, (1, pm_lshl x y) :: st, h) Q) : WP k (i, L, (0, y) :: (1, x) :: st, h) Q := WP.step _ hq rfl rfl ⟨rfl, rfl⟩ kk
theorem WP.lushr (hq : (pm_CODE k)[i]? = some (.lushr, [], []))  (kk : WP k (i + 1, L, (1, pm_lushr x y) :: st, h) Q) : WP k (i, L, (0, y) :: (1, x) :: st, h) Q := WP.step _ hq rfl rfl ⟨rfl, rfl⟩ kk
theorem WP.lcmp (hq : (pm_CODE k)[i]? = some (.lcmp, [], []))  (kk : WP k (i + 1, L, (0, pm_lcmp x y) :: st, h) Q) : WP k (i, L, (1, y) :: (1, x) :: st, h) Q := WP.step _ hq rfl rfl ⟨rfl, rfl⟩ kk
theorem WP.idiv (hq : (pm_CODE k)[i]? = some (.idiv, [], [])) (h0 : y ≠ 0) (kk : WP k (i + 1, L, (0, pm_w (x.tdiv y)) :: st, h) Q) : WP k (i, L, (0, y) :: (0, x) :: st, h) Q := WP.step _ hq rfl rfl ⟨rfl, rfl, h0⟩ kk
theorem WP.irem (hq : (pm_CODE k)[i]? = some (.irem, [], [])) (h0 : y ≠ 0) (kk : WP k (i + 1, L, (0, x.tmod y) :: st, h) Q) : WP k (i, L, (0, y) :: (0, x) :: st, h) Q := WP.step _ hq rfl rfl ⟨rfl, rfl, h0⟩ kk
theorem WP.ldiv (hq : (pm_CODE k)[i]? = some (.ldiv, [], [])) (h0 : y ≠ 0) (kk : WP k (i + 1, L, (1, pm_wl (x.tdiv y)) :: st, h) Q) : WP k (i, L, (1, y) :: (1, x) :: st, h) Q := WP.step _ hq rfl rfl ⟨rfl, rfl, h0⟩ kk
theorem WP.lrem (hq : (pm_CODE k)[i]? = some (.lrem, [], [])) (h0 : y ≠ 0) (kk : WP k (i + 1, L, (1, x.tmod y) :: st, h) Q) : WP k (i, L, (1, y) :: (1, x) :: st, h) Q := WP.step _ hq rfl rfl ⟨rfl, rfl, h0⟩ kk
theorem WP.ineg (hq : (pm_CODE k)[i]? = some (.ineg, [], []))  (kk : WP k (i + 1, L, (0, pm_w (-x)) :: st, h) Q) : WP k (i, L, (0, x) :: st, h) Q := WP.step _ hq rfl rfl rfl kk
theorem WP.lneg (hq : (pm_CODE k)[i]? = some (.lneg, [], []))  (kk : WP k (i + 1, L, (1, pm_wl (-x)) :: st, h) Q) : WP k (i, L, (1, x) :: st, h) Q := WP.step _ hq rfl rfl rfl kk
theorem WP.i2l (hq : (pm_CODE k)[i]? = some (.i2l, [], []))  (kk : WP k (i + 1, L, (1, x) :: st, h) Q) : WP k (i, L, (0, x) :: st, h) Q := WP.step _ hq rfl rfl rfl kk
theorem WP.l2i (hq : (pm_CODE k)[i]? = some (.l2i, [], []))  (kk : WP k (i + 1, L, (0, pm_w x) :: st, h) Q) : WP k (i, L, (1, x) :: st, h) Q := WP.step _ hq rfl rfl rfl kk
theorem WP.i2c (hq : (pm_CODE k)[i]? = some (.i2c, [], []))  (kk : WP k (i + 1, L, (0, pm_i2c x) :: st, h) Q) : WP k (i, L, (0, x) :: st, h) Q := WP.step _ hq rfl rfl rfl kk
theorem WP.dup (hq : (pm_CODE k)[i]? = some (.dup, [], [])) (h1 : t ≠ 1) (kk : WP k (i + 1, L, (t, x) :: (t, x) :: st, h) Q) : WP k (i, L, (t, x) :: st, h) Q := WP.step _ hq rfl rfl h1 kk
theorem WP.pop (hq : (pm_CODE k)[i]? = some (.pop, [], [])) (h1 : t ≠ 1) (kk : WP k (i + 1, L, st, h) Q) : WP k (i, L, (t, x) :: st, h) Q := WP.step _ hq rfl rfl h1 kk
theorem WP.dup2L (hq : (pm_CODE k)[i]? = some (.dup2, [], [])) (kk : WP k (i + 1, L, (1, x) :: (1, x) :: st, h) Q) : WP k (i, L, (1, x) :: st, h) Q := WP.step _ hq rfl rfl trivial kk
theorem WP.dup2 (hq : (pm_CODE k)[i]? = some (.dup2, [], [])) (h1 : t ≠ 1) (h2 : t2 ≠ 1) (kk : WP k (i + 1, L, (t, x) :: (t2, y) :: (t, x) :: (t2, y) :: st, h) Q) : WP k (i, L, (t, x) :: (t2, y) :: st, h) Q := by
  have e : pm_dup2 (i, L, (t, x) :: (t2, y) :: st, h) = (t2 ≠ 1, (i + 1, L, (t, x) :: (t2, y) :: (t, x) :: (t2, y) :: st, h)) := by
    unfold pm_dup2
    simp only [h1, if_false]
  exact WP.step _ hq rfl rfl (show (pm_dup2 (i, L, (t, x) :: (t2, y) :: st, h)).1 by rw [e]; exact h2) (show WP k (pm_dup2 (i, L, (t, x) :: (t2, y) :: st, h)).2 Q by rw [e]; exact kk)
theorem WP.iaload (hq : (pm_CODE k)[i]? = some (.iaload, [], [])) (hA : pm_isA 0 t) (hb : 0 ≤ x ∧ x < pm_len t) (kk : WP k (i + 1, L, (0, h a x) :: st, h) Q) : WP k (i, L, (0, x) :: (t, a) :: st, h) Q := WP.step _ hq rfl rfl ⟨rfl, hA, hb.1, hb.2⟩ kk
theorem WP.laload (hq : (pm_CODE k)[i]? = some (.laload, [], [])) (hA : pm_isA 1 t) (hb : 0 ≤ x ∧ x < pm_len t) (kk : WP k (i + 1, L, (1, h a x) :: st, h) Q) : WP k (i, L, (0, x) :: (t, a) :: st, h) Q := WP.step _ hq rfl rfl ⟨rfl, hA, hb.1, hb.2⟩ kk
theorem WP.baload (hq : (pm_CODE k)[i]? = some (.baload, [], [])) (hA : pm_isA 2 t) (hb : 0 ≤ x ∧ x < pm_len t) (kk : WP k (i + 1, L, (0, h a x) :: st, h) Q) : WP k (i, L, (0, x) :: (t, a) :: st, h) Q := WP.step _ hq rfl rfl ⟨rfl, hA, hb.1, hb.2⟩ kk
theorem WP.aaload (hq : (pm_CODE k)[i]? = some (.aaload, [], [])) (hA : pm_isA 3 t) (hb : 0 ≤ x ∧ x < pm_len t) (kk : WP k (i + 1, L, (6, 156 + 46 * x) :: st, h) Q) : WP k (i, L, (0, x) :: (t, a) :: st, h) Q := WP.step _ hq rfl rfl ⟨rfl, hA, hb.1, hb.2⟩ kk
theorem WP.iastore (hq : (pm_CODE k)[i]? = some (.iastore, [], [])) (hA : pm_isA 0 t) (hb : 0 ≤ x ∧ x < pm_len t) (kk : WP k (i + 1, L, st, pm_upd h a x v) Q) : WP k (i, L, (0, v) :: (0, x) :: (t, a) :: st, h) Q := WP.step _ hq rfl rfl ⟨rfl, rfl, hA, hb.1, hb.2, fun q => absurd q (by decide)⟩ kk
theorem WP.lastore (hq : (pm_CODE k)[i]? = some (.lastore, [], [])) (hA : pm_isA 1 t) (hb : 0 ≤ x ∧ x < pm_len t) (kk : WP k (i + 1, L, st, pm_upd h a x v) Q) : WP k (i, L, (1, v) :: (0, x) :: (t, a) :: st, h) Q := WP.step _ hq rfl rfl ⟨rfl, rfl, hA, hb.1, hb.2, fun q => absurd q (by decide)⟩ kk
theorem WP.bastore (hq : (pm_CODE k)[i]? = some (.bastore, [], [])) (hA : pm_isA 2 t) (hb : 0 ≤ x ∧ x < pm_len t) (hz : v = 0 ∨ v = 1) (kk : WP k (i + 1, L, st, pm_upd h a x v) Q) : WP k (i, L, (0, v) :: (0, x) :: (t, a) :: st, h) Q := WP.step _ hq rfl rfl ⟨rfl, rfl, hA, hb.1, hb.2, fun _ => hz⟩ kk
theorem WP.alen (hq : (pm_CODE k)[i]? = some (.arraylength, [], [])) (hA : 1000 ≤ t ∧ t < 900000) (kk : WP k (i + 1, L, (0, pm_len t) :: st, h) Q) : WP k (i, L, (t, a) :: st, h) Q := WP.step _ hq rfl rfl hA kk
theorem WP.getI (hq : (pm_CODE k)[i]? = some (.getfield idx, [ci, 0, tg], [z, off])) (ht : t = 2 + ci) (kk : WP k (i + 1, L, (0, h a z) :: st, h) Q) : WP k (i, L, (t, a) :: st, h) Q := WP.step _ hq rfl rfl ht kk
theorem WP.getJ (hq : (pm_CODE k)[i]? = some (.getfield idx, [ci, 1, tg], [z, off])) (ht : t = 2 + ci) (kk : WP k (i + 1, L, (1, h a z) :: st, h) Q) : WP k (i, L, (t, a) :: st, h) Q := WP.step _ hq rfl rfl ht kk
theorem WP.getZ (hq : (pm_CODE k)[i]? = some (.getfield idx, [ci, 2, tg], [z, off])) (ht : t = 2 + ci) (kk : WP k (i + 1, L, (0, h a z) :: st, h) Q) : WP k (i, L, (t, a) :: st, h) Q := WP.step _ hq rfl rfl ht kk
theorem WP.getR (hq : (pm_CODE k)[i]? = some (.getfield idx, [ci, 3, tg], [z, off])) (ht : t = 2 + ci) (kk : WP k (i + 1, L, (tg, a + off) :: st, h) Q) : WP k (i, L, (t, a) :: st, h) Q := WP.step _ hq rfl rfl ht kk
theorem WP.getD (hq : (pm_CODE k)[i]? = some (.getfield idx, [ci, 4, tg], [z, off])) (ht : t = 2 + ci) (kk : WP k (i + 1, L, (tg, h a z) :: st, h) Q) : WP k (i, L, (t, a) :: st, h) Q := WP.step _ hq rfl rfl ht kk
theorem WP.putI (hq : (pm_CODE k)[i]? = some (.putfield idx, [ci, 0, tg], [z, off])) (ht : t = 2 + ci) (kk : WP k (i + 1, L, st, pm_upd h a z v) Q) : WP k (i, L, (0, v) :: (t, a) :: st, h) Q := WP.step _ hq rfl rfl ⟨rfl, ht⟩ kk
theorem WP.putJ (hq : (pm_CODE k)[i]? = some (.putfield idx, [ci, 1, tg], [z, off])) (ht : t = 2 + ci) (kk : WP k (i + 1, L, st, pm_upd h a z v) Q) : WP k (i, L, (1, v) :: (t, a) :: st, h) Q := WP.step _ hq rfl rfl ⟨rfl, ht⟩ kk
theorem WP.putZ (hq : (pm_CODE k)[i]? = some (.putfield idx, [ci, 2, tg], [z, off])) (ht : t = 2 + ci) (hz : v = 0 ∨ v = 1) (kk : WP k (i + 1, L, st, pm_upd h a z v) Q) : WP k (i, L, (0, v) :: (t, a) :: st, h) Q := WP.step _ hq rfl rfl ⟨⟨rfl, hz⟩, ht⟩ kk
theorem WP.putD (hq : (pm_CODE k)[i]? = some (.putfield idx, [ci, 4, tg], [z, off])) (ht : t = 2 + ci) (kk : WP k (i + 1, L, st, pm_upd h a z v) Q) : WP k (i, L, (tg, v) :: (t, a) :: st, h) Q := WP.step _ hq rfl rfl ⟨rfl, ht⟩ kk
theorem WP.maxI (hq : (pm_CODE k)[i]? = some (.invokestatic idx, [], [1])) (hs : Nat.ble ((((0, y) :: (0, x) :: st : List pV).map pm_cat).sum) 16 = true) (kk : WP k (i + 1, L, (0, if x < y then y else x) :: st, h) Q) : WP k (i, L, (0, y) :: (0, x) :: st, h) Q := WP.step _ hq rfl rfl ⟨⟨rfl, rfl⟩, Nat.le_of_ble_eq_true hs⟩ kk
theorem WP.minI (hq : (pm_CODE k)[i]? = some (.invokestatic idx, [], [2])) (hs : Nat.ble ((((0, y) :: (0, x) :: st : List pV).map pm_cat).sum) 16 = true) (kk : WP k (i + 1, L, (0, if x < y then x else y) :: st, h) Q) : WP k (i, L, (0, y) :: (0, x) :: st, h) Q := WP.step _ hq rfl rfl ⟨⟨rfl, rfl⟩, Nat.le_of_ble_eq_true hs⟩ kk
theorem WP.maxJ (hq : (pm_CODE k)[i]? = some (.invokestatic idx, [], [3])) (hs : Nat.ble ((((1, y) :: (1, x) :: st : List pV).map pm_cat).sum) 16 = true) (kk : WP k (i + 1, L, (1, if x < y then y else x) :: st, h) Q) : WP k (i, L, (1, y) :: (1, x) :: st, h) Q := WP.step _ hq rfl rfl ⟨⟨rfl, rfl⟩, Nat.le_of_ble_eq_true hs⟩ kk
theorem WP.minJ (hq : (pm_CODE k)[i]? = some (.invokestatic idx, [], [4])) (hs : Nat.ble ((((1, y) :: (1, x) :: st : List pV).map pm_cat).sum) 16 = true) (kk : WP k (i + 1, L, (1, if x < y then x else y) :: st, h) Q) : WP k (i, L, (1, y) :: (1, x) :: st, h) Q := WP.step _ hq rfl rfl ⟨⟨rfl, rfl⟩, Nat.le_of_ble_eq_true hs⟩ kk
theorem WP.fmod (hq : (pm_CODE k)[i]? = some (.invokestatic idx, [], [5])) (hs : Nat.ble ((((0, y) :: (0, x) :: st : List pV).map pm_cat).sum) 16 = true) (h0 : y ≠ 0) (kk : WP k (i + 1, L, (0, x.fmod y) :: st, h) Q) : WP k (i, L, (0, y) :: (0, x) :: st, h) Q := WP.step _ hq rfl rfl ⟨⟨rfl, rfl, h0⟩, Nat.le_of_ble_eq_true hs⟩ kk
theorem WP.acopy (hq : (pm_CODE k)[i]? = some (.invokestatic idx, [], [0])) (hs : Nat.ble ((((0, n) :: (0, dp) :: (t, d) :: (0, sp) :: (t2, a) :: st : List pV).map pm_cat).sum) 16 = true) (hA : pm_isA 0 t) (hB : pm_isA 0 t2) (hn : 0 ≤ n ∧ 0 ≤ dp ∧ 0 ≤ sp ∧ dp + n ≤ pm_len t ∧ sp + n ≤ pm_len t2) (kk : WP k (i + 1, L, st, pm_cpy h a sp d dp n) Q) : WP k (i, L, (0, n) :: (0, dp) :: (t, d) :: (0, sp) :: (t2, a) :: st, h) Q := WP.step _ hq rfl rfl ⟨⟨rfl, rfl, rfl, hA, hB, hn.1, hn.2.1, hn.2.2.1, hn.2.2.2.1, hn.2.2.2.2⟩, Nat.le_of_ble_eq_true hs⟩ kk
theorem WP.ixOf (hq : (pm_CODE k)[i]? = some (.invokevirtual idx, [], [0])) (hs : Nat.ble (st.map pm_cat).sum 8 = true) (kk : WP k (i + 1, L, (0, pm_ix x) :: st, h) Q) : WP k (i, L, (0, x) :: (4000000, a) :: st, h) Q := WP.step _ hq rfl rfl ⟨rfl, rfl, Nat.le_of_ble_eq_true hs⟩ kk
end WPI
