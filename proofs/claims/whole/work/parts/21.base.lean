/-! Exact arithmetic, branches with plain conditions, loops as functions. -/
def fx_i (x : Int) : Prop := -2147483648 ≤ x ∧ x ≤ 2147483647
def fx_l (x : Int) : Prop := -9223372036854775808 ≤ x ∧ x ≤ 9223372036854775807
theorem fx_wi {x : Int} (h : fx_i x) : pm_w x = x := by
  unfold pm_w; unfold fx_i at h; rw [Int.bmod_def]; split <;> omega
theorem fx_wl {x : Int} (h : fx_l x) : pm_wl x = x := by
  unfold pm_wl; unfold fx_l at h; rw [Int.bmod_def]; split <;> omega
def fx_max (x y : Int) : Int := if x < y then y else x
def fx_min (x y : Int) : Int := if x < y then x else y
section FXR
variable {k i j : Nat} {Q : Option pV → pH → Prop} {L st : List pV} {h : pH} {off : Int} {tg : Nat} {ns : List Nat} {zs : List Int} {x y a : Int} {t ci idx : Nat} {z n : Int}
theorem WP.iaddE (hq : (pm_CODE k)[i]? = some (.iadd, [], [])) (o : fx_i (x + y)) (kk : WP k (i + 1, L, (0, x + y) :: st, h) Q) : WP k (i, L, (0, y) :: (0, x) :: st, h) Q := WP.iadd hq (by rw [fx_wi o]; exact kk)
theorem WP.isubE (hq : (pm_CODE k)[i]? = some (.isub, [], [])) (o : fx_i (x - y)) (kk : WP k (i + 1, L, (0, x - y) :: st, h) Q) : WP k (i, L, (0, y) :: (0, x) :: st, h) Q := WP.isub hq (by rw [fx_wi o]; exact kk)
theorem WP.imulE (hq : (pm_CODE k)[i]? = some (.imul, [], [])) (o : fx_i (x * y)) (kk : WP k (i + 1, L, (0, x * y) :: st, h) Q) : WP k (i, L, (0, y) :: (0, x) :: st, h) Q := WP.imul hq (by rw [fx_wi o]; exact kk)
theorem WP.inegE (hq : (pm_CODE k)[i]? = some (.ineg, [], [])) (o : fx_i (-x)) (kk : WP k (i + 1, L, (0, -x) :: st, h) Q) : WP k (i, L, (0, x) :: st, h) Q := WP.ineg hq (by rw [fx_wi o]; exact kk)
theorem WP.laddE (hq : (pm_CODE k)[i]? = some (.ladd, [], [])) (o : fx_l (x + y)) (kk : WP k (i + 1, L, (1, x + y) :: st, h) Q) : WP k (i, L, (1, y) :: (1, x) :: st, h) Q := WP.ladd hq (by rw [fx_wl o]; exact kk)
theorem WP.lsubE (hq : (pm_CODE k)[i]? = some (.lsub, [], [])) (o : fx_l (x - y)) (kk : WP k (i + 1, L, (1, x - y) :: st, h) Q) : WP k (i, L, (1, y) :: (1, x) :: st, h) Q := WP.lsub hq (by rw [fx_wl o]; exact kk)
theorem WP.lmulE (hq : (pm_CODE k)[i]? = some (.lmul, [], [])) (o : fx_l (x * y)) (kk : WP k (i + 1, L, (1, x * y) :: st, h) Q) : WP k (i, L, (1, y) :: (1, x) :: st, h) Q := WP.lmul hq (by rw [fx_wl o]; exact kk)
theorem WP.lnegE (hq : (pm_CODE k)[i]? = some (.lneg, [], [])) (o : fx_l (-x)) (kk : WP k (i + 1, L, (1, -x) :: st, h) Q) : WP k (i, L, (1, x) :: st, h) Q := WP.lneg hq (by rw [fx_wl o]; exact kk)
theorem WP.idivE (hq : (pm_CODE k)[i]? = some (.idiv, [], [])) (h0 : y ≠ 0) (o : fx_i (x.tdiv y)) (kk : WP k (i + 1, L, (0, x.tdiv y) :: st, h) Q) : WP k (i, L, (0, y) :: (0, x) :: st, h) Q := WP.idiv hq h0 (by rw [fx_wi o]; exact kk)
theorem WP.ldivE (hq : (pm_CODE k)[i]? = some (.ldiv, [], [])) (h0 : y ≠ 0) (o : fx_l (x.tdiv y)) (kk : WP k (i + 1, L, (1, x.tdiv y) :: st, h) Q) : WP k (i, L, (1, y) :: (1, x) :: st, h) Q := WP.ldiv hq h0 (by rw [fx_wl o]; exact kk)
theorem WP.l2iE (hq : (pm_CODE k)[i]? = some (.l2i, [], [])) (o : fx_i x) (kk : WP k (i + 1, L, (0, x) :: st, h) Q) : WP k (i, L, (1, x) :: st, h) Q := WP.l2i hq (by rw [fx_wi o]; exact kk)
theorem WP.iincE {L' : List pV} (hq : (pm_CODE k)[i]? = some (.iinc j n, [], [])) (hg : L.getD j pU = (0, x)) (o : fx_i (x + n)) (hl : pm_lset L j (0, x + n) = L') (kk : WP k (i + 1, L', st, h) Q) : WP k (i, L, st, h) Q := WP.iinc hq hg (by rw [fx_wi o]; exact hl) kk
theorem WP.getRF {b : Int} (hq : (pm_CODE k)[i]? = some (.getfield idx, [ci, 3, tg], [z, off])) (ht : t = 2 + ci) (e : a + off = b) (kk : WP k (i + 1, L, (tg, b) :: st, h) Q) : WP k (i, L, (t, a) :: st, h) Q := WP.getR hq ht (by rw [e]; exact kk)
theorem WP.aaloadF {b : Int} (hq : (pm_CODE k)[i]? = some (.aaload, [], [])) (hA : pm_isA 3 t) (hb : 0 ≤ x ∧ x < pm_len t) (e : 156 + 46 * x = b) (kk : WP k (i + 1, L, (6, b) :: st, h) Q) : WP k (i, L, (0, x) :: (t, a) :: st, h) Q := WP.aaload hq hA hb (by rw [e]; exact kk)
theorem WP.ni_lt (hq : (pm_CODE k)[i]? = some (.if_icmp .lt off, [tg], [])) (kt : x < y → WP k (tg, L, st, h) Q) (kf : y ≤ x → WP k (i + 1, L, st, h) Q) : WP k (i, L, (0, y) :: (0, x) :: st, h) Q := WP.i_lt hq kt (fun c => kf (Int.not_lt.mp c))
theorem WP.ni_ge (hq : (pm_CODE k)[i]? = some (.if_icmp .ge off, [tg], [])) (kt : y ≤ x → WP k (tg, L, st, h) Q) (kf : x < y → WP k (i + 1, L, st, h) Q) : WP k (i, L, (0, y) :: (0, x) :: st, h) Q := WP.i_ge hq kt (fun c => kf (Int.not_le.mp c))
theorem WP.ni_gt (hq : (pm_CODE k)[i]? = some (.if_icmp .gt off, [tg], [])) (kt : y < x → WP k (tg, L, st, h) Q) (kf : x ≤ y → WP k (i + 1, L, st, h) Q) : WP k (i, L, (0, y) :: (0, x) :: st, h) Q := WP.i_gt hq kt (fun c => kf (Int.not_lt.mp c))
theorem WP.ni_le (hq : (pm_CODE k)[i]? = some (.if_icmp .le off, [tg], [])) (kt : x ≤ y → WP k (tg, L, st, h) Q) (kf : y < x → WP k (i + 1, L, st, h) Q) : WP k (i, L, (0, y) :: (0, x) :: st, h) Q := WP.i_le hq kt (fun c => kf (Int.not_le.mp c))
theorem WP.ni_eq (hq : (pm_CODE k)[i]? = some (.if_icmp .eq off, [tg], [])) (kt : x = y → WP k (tg, L, st, h) Q) (kf : ¬ x = y → WP k (i + 1, L, st, h) Q) : WP k (i, L, (0, y) :: (0, x) :: st, h) Q := WP.i_eq hq kt kf
theorem WP.ni_ne (hq : (pm_CODE k)[i]? = some (.if_icmp .ne off, [tg], [])) (kt : ¬ x = y → WP k (tg, L, st, h) Q) (kf : x = y → WP k (i + 1, L, st, h) Q) : WP k (i, L, (0, y) :: (0, x) :: st, h) Q := WP.i_ne hq kt kf
theorem WP.nz_lt (hq : (pm_CODE k)[i]? = some (.ifCond .lt off, [tg], [])) (kt : x < 0 → WP k (tg, L, st, h) Q) (kf : 0 ≤ x → WP k (i + 1, L, st, h) Q) : WP k (i, L, (0, x) :: st, h) Q := WP.z_lt hq kt (fun c => kf (Int.not_lt.mp c))
theorem WP.nz_ge (hq : (pm_CODE k)[i]? = some (.ifCond .ge off, [tg], [])) (kt : 0 ≤ x → WP k (tg, L, st, h) Q) (kf : x < 0 → WP k (i + 1, L, st, h) Q) : WP k (i, L, (0, x) :: st, h) Q := WP.z_ge hq kt (fun c => kf (Int.not_le.mp c))
theorem WP.nz_gt (hq : (pm_CODE k)[i]? = some (.ifCond .gt off, [tg], [])) (kt : 0 < x → WP k (tg, L, st, h) Q) (kf : x ≤ 0 → WP k (i + 1, L, st, h) Q) : WP k (i, L, (0, x) :: st, h) Q := WP.z_gt hq kt (fun c => kf (Int.not_lt.mp c))
theorem WP.nz_le (hq : (pm_CODE k)[i]? = some (.ifCond .le off, [tg], [])) (kt : x ≤ 0 → WP k (tg, L, st, h) Q) (kf : 0 < x → WP k (i + 1, L, st, h) Q) : WP k (i, L, (0, x) :: st, h) Q := WP.z_le hq kt (fun c => kf (Int.not_le.mp c))
theorem WP.nz_eq (hq : (pm_CODE k)[i]? = some (.ifCond .eq off, [tg], [])) (kt : x = 0 → WP k (tg, L, st, h) Q) (kf : ¬ x = 0 → WP k (i + 1, L, st, h) Q) : WP k (i, L, (0, x) :: st, h) Q := WP.z_eq hq kt kf
theorem WP.nz_ne (hq : (pm_CODE k)[i]? = some (.ifCond .ne off, [tg], [])) (kt : ¬ x = 0 → WP k (tg, L, st, h) Q) (kf : x = 0 → WP k (i + 1, L, st, h) Q) : WP k (i, L, (0, x) :: st, h) Q := WP.z_ne hq kt kf
theorem WP.nl_lt (hq : (pm_CODE k)[i]? = some (.ifCond .lt off, [tg], [])) (kt : x < y → WP k (tg, L, st, h) Q) (kf : y ≤ x → WP k (i + 1, L, st, h) Q) : WP k (i, L, (0, pm_lcmp x y) :: st, h) Q := WP.l_lt hq kt (fun c => kf (Int.not_lt.mp c))
theorem WP.nl_ge (hq : (pm_CODE k)[i]? = some (.ifCond .ge off, [tg], [])) (kt : y ≤ x → WP k (tg, L, st, h) Q) (kf : x < y → WP k (i + 1, L, st, h) Q) : WP k (i, L, (0, pm_lcmp x y) :: st, h) Q := WP.l_ge hq kt (fun c => kf (Int.not_le.mp c))
theorem WP.nl_gt (hq : (pm_CODE k)[i]? = some (.ifCond .gt off, [tg], [])) (kt : y < x → WP k (tg, L, st, h) Q) (kf : x ≤ y → WP k (i + 1, L, st, h) Q) : WP k (i, L, (0, pm_lcmp x y) :: st, h) Q := WP.l_gt hq kt (fun c => kf (Int.not_lt.mp c))
theorem WP.nl_le (hq : (pm_CODE k)[i]? = some (.ifCond .le off, [tg], [])) (kt : x ≤ y → WP k (tg, L, st, h) Q) (kf : y < x → WP k (i + 1, L, st, h) Q) : WP k (i, L, (0, pm_lcmp x y) :: st, h) Q := WP.l_le hq kt (fun c => kf (Int.not_le.mp c))
theorem WP.nl_eq (hq : (pm_CODE k)[i]? = some (.ifCond .eq off, [tg], [])) (kt : x = y → WP k (tg, L, st, h) Q) (kf : ¬ x = y → WP k (i + 1, L, st, h) Q) : WP k (i, L, (0, pm_lcmp x y) :: st, h) Q := WP.l_eq hq kt kf
theorem WP.nl_ne (hq : (pm_CODE k)[i]? = some (.ifCond .ne off, [tg], [])) (kt : ¬ x = y → WP k (tg, L, st, h) Q) (kf : x = y → WP k (i + 1, L, st, h) Q) : WP k (i, L, (0, pm_lcmp x y) :: st, h) Q := WP.l_ne hq kt kf
theorem WP.nb_eq {B : Prop} [Decidable B] (hq : (pm_CODE k)[i]? = some (.ifCond .eq off, [tg], [])) (kt : ¬ B → WP k (tg, L, st, h) Q) (kf : B → WP k (i + 1, L, st, h) Q) : WP k (i, L, (0, if B then 1 else 0) :: st, h) Q := WP.z_eq hq (fun c => kt (fun b => by rw [if_pos b] at c; exact absurd c (by decide))) (fun c => kf (Decidable.byContradiction (fun b => c (if_neg b))))
theorem WP.nb_ne {B : Prop} [Decidable B] (hq : (pm_CODE k)[i]? = some (.ifCond .ne off, [tg], [])) (kt : B → WP k (tg, L, st, h) Q) (kf : ¬ B → WP k (i + 1, L, st, h) Q) : WP k (i, L, (0, if B then 1 else 0) :: st, h) Q := WP.z_ne hq (fun c => kt (Decidable.byContradiction (fun b => c (if_neg b)))) (fun c => kf (fun b => by rw [if_pos b] at c; exact absurd c (by decide)))
def fx_sw (lo : Int) : List Nat → Nat → Int → Nat
  | [], d, _ => d
  | t :: r, d, x => if x = lo then t else fx_sw (lo + 1) r d x
theorem fx_sw_lt : ∀ (r : List Nat) (lo : Int) (d : Nat) (x : Int), x < lo → fx_sw lo r d x = d
  | [], _, _, _, _ => rfl
  | _ :: r, lo, d, x, h => by
    unfold fx_sw
    rw [if_neg (by omega)]
    exact fx_sw_lt r (lo + 1) d x (by omega)
theorem fx_sw_eq : ∀ (r : List Nat) (lo : Int) (d : Nat) (x : Int), fx_sw lo r d x = if x < lo ∨ lo + r.length ≤ x then d else r.getD (x - lo).toNat 0
  | [], lo, d, x => by
    have : x < lo ∨ lo + ([] : List Nat).length ≤ x := by simp only [List.length_nil]; omega
    rw [if_pos this]; rfl
  | t :: r, lo, d, x => by
    unfold fx_sw
    by_cases e : x = lo
    · subst e
      rw [if_pos rfl, if_neg (by simp only [List.length_cons]; omega)]
      simp
    · rw [if_neg e, fx_sw_eq r (lo + 1) d x]
      by_cases c : x < lo ∨ lo + (t :: r).length ≤ x
      · rw [if_pos c, if_pos (by simp only [List.length_cons] at c; omega)]
      · rw [if_neg c, if_neg (by simp only [List.length_cons] at c; omega)]
        have : (x - lo).toNat = (x - (lo + 1)).toNat + 1 := by omega
        rw [this, List.getD_cons_succ]
theorem WP.ntsw {d lo hi : Int} {offs : Array Int} {t0 : Nat} {ts : List Nat} (hq : (pm_CODE k)[i]? = some (.tableswitch d lo hi offs, t0 :: ts, zs)) (hn : hi + 1 = lo + ts.length) (kk : WP k (fx_sw lo ts t0 x, L, st, h) Q) : WP k (i, L, (0, x) :: st, h) Q := by
  refine WP.step _ hq rfl rfl rfl ?_
  show WP k (if x < lo ∨ hi < x then (t0 :: ts).getD 0 0 else (t0 :: ts).getD ((x - lo).toNat + 1) 0, L, st, h) Q
  rw [fx_sw_eq] at kk
  by_cases c : x < lo ∨ hi < x
  · rw [if_pos (show x < lo ∨ lo + ↑ts.length ≤ x by omega)] at kk
    rw [if_pos c]; exact kk
  · rw [if_neg (show ¬ (x < lo ∨ lo + ↑ts.length ≤ x) by omega)] at kk
    rw [if_neg c, List.getD_cons_succ]; exact kk
theorem WP.nsl {lo lo' : Int} {t0 d : Nat} {r : List Nat} (e : lo + 1 = lo') (kt : x = lo → WP k (t0, L, st, h) Q) (kf : ¬ x = lo → WP k (fx_sw lo' r d x, L, st, h) Q) : WP k (fx_sw lo (t0 :: r) d x, L, st, h) Q := by
  unfold fx_sw
  subst e
  by_cases c : x = lo
  · rw [if_pos c]; exact kt c
  · rw [if_neg c]; exact kf c
end FXR
section FXL
variable {σ : Type}
def fx_it (f : σ → σ) : Nat → σ → σ
  | 0, s => s
  | n + 1, s => fx_it f n (f s)
theorem fx_it_succ (f : σ → σ) : ∀ (n : Nat) (s : σ), fx_it f (n + 1) s = f (fx_it f n s)
  | 0, _ => rfl
  | n + 1, s => fx_it_succ f n (f s)
def fx_N (c : σ → Prop) (f : σ → σ) (s : σ) (n : Nat) : Prop := (∀ i, i < n → c (fx_it f i s)) ∧ ¬ c (fx_it f n s)
theorem fx_N_uniq {c : σ → Prop} {f : σ → σ} {s : σ} {n m : Nat} (h : fx_N c f s n) (h' : fx_N c f s m) : n = m := by
  rcases Nat.lt_trichotomy n m with q | q | q
  · exact absurd (h'.1 n q) h.2
  · exact q
  · exact absurd (h.1 m q) h'.2
/-- while c: s becomes f s -/
noncomputable def fx_wh (c : σ → Prop) (f : σ → σ) (s : σ) : σ := fx_it f (Classical.epsilon (fx_N c f s)) s
theorem fx_wh_eq {c : σ → Prop} {f : σ → σ} {s : σ} {n : Nat} (h : fx_N c f s n) : fx_wh c f s = fx_it f n s := by
  unfold fx_wh
  rw [fx_N_uniq (Classical.epsilon_spec ⟨n, h⟩ : fx_N c f s (Classical.epsilon (fx_N c f s))) h]
/-- it ends, and P holds at its head each time -/
def fx_ok (c : σ → Prop) (f : σ → σ) (P : σ → Prop) (s : σ) : Prop := ∃ n, fx_N c f s n ∧ ∀ i, i ≤ n → P (fx_it f i s)
theorem fx_ok_fin {c : σ → Prop} {f : σ → σ} {P : σ → Prop} {s : σ} (h : fx_ok c f P s) : P (fx_wh c f s) ∧ ¬ c (fx_wh c f s) := by
  obtain ⟨n, hn, hP⟩ := h
  rw [fx_wh_eq hn]
  exact ⟨hP n (Nat.le_refl n), hn.2⟩
theorem WP.wh {k : Nat} {Q : Option pV → pH → Prop} (c : σ → Prop) (f : σ → σ) (P : σ → Prop) (S : σ → List pV → pS) (s0 : σ) (hp : fx_ok c f P s0)
    (hs : ∀ s us, P s → c s → (∀ us', WP k (S (f s) us') Q) → WP k (S s us) Q)
    (kk : P (fx_wh c f s0) → ¬ c (fx_wh c f s0) → ∀ us, WP k (S (fx_wh c f s0) us) Q) : ∀ us, WP k (S s0 us) Q := by
  have hfin := fx_ok_fin hp
  have kk := kk hfin.1 hfin.2
  obtain ⟨n, hn, hP⟩ := hp
  rw [fx_wh_eq hn] at kk
  have key : ∀ j, j ≤ n → ∀ us, WP k (S (fx_it f (n - j) s0) us) Q := by
    intro j
    induction j with
    | zero => intro _; exact kk
    | succ j ih =>
      intro hj us
      have h1 := ih (by omega)
      rw [show n - j = (n - (j + 1)) + 1 by omega, fx_it_succ] at h1
      exact hs _ us (hP _ (by omega)) (hn.1 _ (by omega)) h1
  have := key n (Nat.le_refl n)
  rw [Nat.sub_self] at this
  exact this
/-- how a loop is told: I n at its n-th head, N times -/
theorem fx_rule {c : σ → Prop} {f : σ → σ} {P : σ → Prop} {s0 : σ} (N : Nat) (I : Nat → σ → Prop) (h0 : I 0 s0)
    (hs : ∀ i s, i < N → I i s → P s ∧ c s ∧ I (i + 1) (f s)) (he : ∀ s, I N s → P s ∧ ¬ c s) : fx_ok c f P s0 ∧ I N (fx_wh c f s0) := by
  have key : ∀ i, i ≤ N → I i (fx_it f i s0) := by
    intro i
    induction i with
    | zero => intro _; exact h0
    | succ i ih =>
      intro hi
      rw [fx_it_succ]
      exact (hs i _ (by omega) (ih (by omega))).2.2
  have hN : fx_N c f s0 N := ⟨fun i hi => (hs i _ hi (key i (by omega))).2.1, (he _ (key N (Nat.le_refl N))).2⟩
  refine ⟨⟨N, hN, fun i hi => ?_⟩, ?_⟩
  · rcases Nat.lt_or_ge i N with q | q
    · exact (hs i _ q (key i hi)).1
    · have : i = N := by omega
      subst this
      exact (he _ (key i hi)).1
  · rw [fx_wh_eq hN]; exact key N (Nat.le_refl N)
/-- a loop whose number of rounds is not known ahead: a measure falls -/
theorem fx_ruleM {c : σ → Prop} {f : σ → σ} {P : σ → Prop} (I : σ → Prop) (μ : σ → Nat) (hs : ∀ s, I s → P s ∧ (c s → I (f s) ∧ μ (f s) < μ s)) : ∀ s0, I s0 → fx_ok c f P s0 ∧ I (fx_wh c f s0) ∧ ¬ c (fx_wh c f s0) := by
  have key : ∀ n s0, μ s0 ≤ n → I s0 → ∃ m, fx_N c f s0 m ∧ (∀ i, i ≤ m → P (fx_it f i s0)) ∧ I (fx_it f m s0) := by
    intro n
    induction n with
    | zero =>
      intro s0 hn h
      refine ⟨0, ⟨fun i hi => absurd hi (Nat.not_lt_zero i), fun hc => ?_⟩, fun i hi => ?_, h⟩
      · have := ((hs s0 h).2 hc).2
        omega
      · have : i = 0 := by omega
        subst this
        exact (hs s0 h).1
    | succ n ih =>
      intro s0 hn h
      by_cases hc : c s0
      · obtain ⟨hI, hm⟩ := (hs s0 h).2 hc
        obtain ⟨m, h1, h2, h3⟩ := ih (f s0) (by omega) hI
        refine ⟨m + 1, ⟨fun i hi => ?_, h1.2⟩, fun i hi => ?_, h3⟩
        · cases i with
          | zero => exact hc
          | succ i => exact h1.1 i (by omega)
        · cases i with
          | zero => exact (hs s0 h).1
          | succ i => exact h2 i (by omega)
      · refine ⟨0, ⟨fun i hi => absurd hi (Nat.not_lt_zero i), hc⟩, fun i hi => ?_, h⟩
        have : i = 0 := by omega
        subst this
        exact (hs s0 h).1
  intro s0 h
  obtain ⟨m, h1, h2, h3⟩ := key (μ s0) s0 (Nat.le_refl _) h
  refine ⟨⟨m, h1, h2⟩, ?_⟩
  rw [fx_wh_eq h1]
  exact ⟨h3, h1.2⟩
end FXL
theorem fx_ad {a m n p : Int} (h : m + n = p) : a + m + n = a + p := by omega
theorem fx_01 (B : Prop) [Decidable B] : (if B then (1 : Int) else 0) = 0 ∨ (if B then (1 : Int) else 0) = 1 := by
  by_cases h : B
  · rw [if_pos h]; exact Or.inr rfl
  · rw [if_neg h]; exact Or.inl rfl
section FXM
variable {k i : Nat} {Q : Option pV → pH → Prop} {L st : List pV} {h : pH} {x y : Int} {idx : Nat}
theorem WP.maxIF (hq : (pm_CODE k)[i]? = some (.invokestatic idx, [], [1])) (hs : Nat.ble ((((0, y) :: (0, x) :: st : List pV).map pm_cat).sum) 16 = true) (kk : WP k (i + 1, L, (0, fx_max x y) :: st, h) Q) : WP k (i, L, (0, y) :: (0, x) :: st, h) Q := WP.maxI hq hs kk
theorem WP.minIF (hq : (pm_CODE k)[i]? = some (.invokestatic idx, [], [2])) (hs : Nat.ble ((((0, y) :: (0, x) :: st : List pV).map pm_cat).sum) 16 = true) (kk : WP k (i + 1, L, (0, fx_min x y) :: st, h) Q) : WP k (i, L, (0, y) :: (0, x) :: st, h) Q := WP.minI hq hs kk
theorem WP.maxJF (hq : (pm_CODE k)[i]? = some (.invokestatic idx, [], [3])) (hs : Nat.ble ((((1, y) :: (1, x) :: st : List pV).map pm_cat).sum) 16 = true) (kk : WP k (i + 1, L, (1, fx_max x y) :: st, h) Q) : WP k (i, L, (1, y) :: (1, x) :: st, h) Q := WP.maxJ hq hs kk
theorem WP.minJF (hq : (pm_CODE k)[i]? = some (.invokestatic idx, [], [4])) (hs : Nat.ble ((((1, y) :: (1, x) :: st : List pV).map pm_cat).sum) 16 = true) (kk : WP k (i + 1, L, (1, fx_min x y) :: st, h) Q) : WP k (i, L, (1, y) :: (1, x) :: st, h) Q := WP.minJ hq hs kk
end FXM
