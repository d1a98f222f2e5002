/-- what a call needs: enough on the stack, of the right widths, its own object, little enough below -/
def pm_callOk (m : Nat) (st : List pV) : Prop :=
  (pm_inf m).1.length ≤ st.length ∧ ((st.take (pm_inf m).1.length).reverse.map pm_cat = (pm_inf m).1) ∧ ((pm_inf m).2.1 = 0 ∨ ∃ a r, (st.take (pm_inf m).1.length).reverse = ((pm_inf m).2.1, a) :: r) ∧ (∀ v ∈ st.take (pm_inf m).1.length, v.1 < 4000000) ∧ ((st.drop (pm_inf m).1.length).map pm_cat).sum ≤ 8
def pm_in (m : Nat) (args : List pV) (h : pH) : pS := (0, pm_pad (pm_inf m).2.2.1 (pm_args args), [], h)
/-- the machine, from a state, with so many steps: it returns, and then Q -/
def pm_Ev : Nat → Nat → pS → (Option pV → pH → Prop) → Prop
  | 0, _, _, _ => False
  | n + 1, k, s, Q => match (pm_CODE k)[s.1]? with
    | none => False
    | some q => match pm_call q with
      | some m => pm_callOk m s.2.2.1 ∧ pm_Ev n m (pm_in m (s.2.2.1.take (pm_inf m).1.length).reverse s.2.2.2) (fun r h1 => pm_Ev n k (s.1 + 1, s.2.1, r.toList ++ s.2.2.1.drop (pm_inf m).1.length, h1) Q)
      | none => match pm_retK q with
        | some t => pm_retOk t s.2.2.1 ∧ Q s.2.2.1.head? s.2.2.2
        | none => (pm_step q s).1 ∧ pm_Ev n k (pm_step q s).2 Q
theorem pm_Ev_mono : ∀ (n : Nat) (k : Nat) (s : pS) (Q Q' : Option pV → pH → Prop) (n' : Nat), n ≤ n' → (∀ r h, Q r h → Q' r h) → pm_Ev n k s Q → pm_Ev n' k s Q' := by
  intro n
  induction n with
  | zero => intro k s Q Q' n' _ _ h; exact h.elim
  | succ n ih =>
    intro k s Q Q' n' hn hQ h
    obtain ⟨n'', rfl⟩ : ∃ n'', n' = n'' + 1 := ⟨n' - 1, by omega⟩
    unfold pm_Ev at h ⊢
    cases hq : (pm_CODE k)[s.1]? with
    | none => rw [hq] at h; exact h.elim
    | some q =>
      rw [hq] at h
      dsimp only at h ⊢
      cases hc : pm_call q with
      | some m =>
        rw [hc] at h
        dsimp only at h ⊢
        exact ⟨h.1, ih _ _ _ _ _ (by omega) (fun r h1 hx => ih _ _ _ _ _ (by omega) hQ hx) h.2⟩
      | none =>
        rw [hc] at h
        dsimp only at h ⊢
        cases hr : pm_retK q with
        | some t => rw [hr] at h; exact ⟨h.1, hQ _ _ h.2⟩
        | none => rw [hr] at h; exact ⟨h.1, ih _ _ _ _ _ (by omega) hQ h.2⟩
theorem pm_Ev_det : ∀ (n : Nat) (k : Nat) (s : pS) (Q : Option pV → pH → Prop), pm_Ev n k s Q → ∃ r h, Q r h ∧ pm_Ev n k s (fun a b => a = r ∧ b = h) := by
  intro n
  induction n with
  | zero => intro k s Q h; exact h.elim
  | succ n ih =>
    intro k s Q h
    unfold pm_Ev at h
    cases hq : (pm_CODE k)[s.1]? with
    | none => rw [hq] at h; exact h.elim
    | some q =>
      rw [hq] at h
      dsimp only at h
      cases hc : pm_call q with
      | some m =>
        rw [hc] at h
        dsimp only at h
        obtain ⟨r, h1, hx, hy⟩ := ih _ _ _ h.2
        obtain ⟨r2, h2, hx2, hy2⟩ := ih _ _ _ hx
        refine ⟨r2, h2, hx2, ?_⟩
        unfold pm_Ev
        rw [hq]
        dsimp only
        rw [hc]
        refine ⟨h.1, pm_Ev_mono _ _ _ _ _ _ (Nat.le_refl _) (fun a b hab => ?_) hy⟩
        obtain ⟨rfl, rfl⟩ := hab
        exact hy2
      | none =>
        rw [hc] at h
        dsimp only at h
        cases hr : pm_retK q with
        | some t =>
          rw [hr] at h
          refine ⟨_, _, h.2, ?_⟩
          unfold pm_Ev
          rw [hq]
          dsimp only
          rw [hc]
          dsimp only
          rw [hr]
          exact ⟨h.1, rfl, rfl⟩
        | none =>
          rw [hr] at h
          obtain ⟨r, h1, hx, hy⟩ := ih _ _ _ h.2
          refine ⟨r, h1, hx, ?_⟩
          unfold pm_Ev
          rw [hq]
          dsimp only
          rw [hc]
          dsimp only
          rw [hr]
          exact ⟨h.1, hy⟩
/-- from a state of method k: it returns, and then Q -/
def WP (k : Nat) (s : pS) (Q : Option pV → pH → Prop) : Prop := ∃ n, pm_Ev n k s Q
/-- a call: of method m on these arguments -/
def CP (m : Nat) (args : List pV) (h : pH) (Q : Option pV → pH → Prop) : Prop := WP m (pm_in m args h) Q
theorem WP.mono {k : Nat} {s : pS} {Q Q' : Option pV → pH → Prop} (h : WP k s Q) (hQ : ∀ r h, Q r h → Q' r h) : WP k s Q' := by
  obtain ⟨n, hn⟩ := h
  exact ⟨n, pm_Ev_mono _ _ _ _ _ _ (Nat.le_refl _) hQ hn⟩
theorem WP.step {k i : Nat} {L st : List pV} {h : pH} {Q : Option pV → pH → Prop} (q : pI) (hq : (pm_CODE k)[i]? = some q) (hc : pm_call q = none) (hr : pm_retK q = none) (h1 : (pm_step q (i, L, st, h)).1) (h2 : WP k (pm_step q (i, L, st, h)).2 Q) : WP k (i, L, st, h) Q := by
  obtain ⟨n, hn⟩ := h2
  refine ⟨n + 1, ?_⟩
  unfold pm_Ev
  rw [show (i, L, st, h).1 = i from rfl, hq]
  dsimp only
  rw [hc]
  dsimp only
  rw [hr]
  exact ⟨h1, hn⟩
theorem WP.ret {k i : Nat} {L st : List pV} {h : pH} {Q : Option pV → pH → Prop} (q : pI) (t : Nat) (hq : (pm_CODE k)[i]? = some q) (hc : pm_call q = none) (hr : pm_retK q = some t) (h1 : pm_retOk t st) (h2 : Q st.head? h) : WP k (i, L, st, h) Q := by
  refine ⟨1, ?_⟩
  unfold pm_Ev
  rw [show (i, L, st, h).1 = i from rfl, hq]
  dsimp only
  rw [hc]
  dsimp only
  rw [hr]
  exact ⟨h1, h2⟩
theorem WP.call {k i : Nat} {L st : List pV} {h : pH} {Q : Option pV → pH → Prop} (q : pI) (m : Nat) (args rest : List pV) (hq : (pm_CODE k)[i]? = some q) (hc : pm_call q = some m) (h1 : pm_callOk m st) (ha : (st.take (pm_inf m).1.length).reverse = args) (hr : st.drop (pm_inf m).1.length = rest)
    (h2 : CP m args h (fun r h1 => WP k (i + 1, L, r.toList ++ rest, h1) Q)) : WP k (i, L, st, h) Q := by
  subst ha; subst hr
  obtain ⟨n, hn⟩ := h2
  obtain ⟨r, h3, ⟨n2, hx⟩, hy⟩ := pm_Ev_det _ _ _ _ hn
  refine ⟨max n n2 + 1, ?_⟩
  unfold pm_Ev
  rw [show (i, L, st, h).1 = i from rfl, hq]
  dsimp only
  rw [hc]
  refine ⟨h1, pm_Ev_mono _ _ _ _ _ _ (Nat.le_max_left _ _) (fun a b hab => ?_) hy⟩
  obtain ⟨rfl, rfl⟩ := hab
  exact pm_Ev_mono _ _ _ _ _ _ (Nat.le_max_right _ _) (fun _ _ x => x) hx
/-- a straight stretch -/
def pm_seq (q : pI) : Bool := match q.1 with
  | .ifCond _ _ => false
  | .if_icmp _ _ => false
  | .goto _ => false
  | .tableswitch _ _ _ _ => false
  | .lookupswitch _ _ => false
  | _ => (pm_call q).isNone && (pm_retK q).isNone
def pm_run : List pI → pS → Prop × pS
  | [], s => (True, s)
  | q :: r, s => ((pm_step q s).1 ∧ (pm_run r (pm_step q s).2).1, (pm_run r (pm_step q s).2).2)
theorem pm_getD_cons {α : Type} (l : List α) (i : Nat) (q : α) (r : List α) (h : l.drop i = q :: r) : l[i]? = some q ∧ l.drop (i + 1) = r := by
  have h1 := List.getElem?_drop (xs := l) (i := i) (j := 0)
  rw [h] at h1
  refine ⟨by simpa using h1.symm, ?_⟩
  have h2 := List.drop_drop (i := 1) (j := i) (l := l)
  rw [h] at h2
  simpa using h2.symm
theorem pm_bin_next {a b c : Nat} {f : Int → Int → Int} {s : pS} (h : (pm_bin a b c f s).1) : (pm_bin a b c f s).2.1 = s.1 + 1 := by
  obtain ⟨i, L, st, hp⟩ := s
  rcases st with _ | ⟨v, _ | ⟨w, st⟩⟩ <;> first | rfl | (exact h.elim)
theorem pm_stl_next {z : Int} {s : pS} (h : (pm_stl z s).1) : (pm_stl z s).2.1 = s.1 + 1 := by
  unfold pm_stl at h ⊢
  split at h
  · obtain ⟨i, L, st, hp⟩ := s
    rw [if_pos (by assumption)]
    rcases st with _ | ⟨v, _ | ⟨w, _ | ⟨u, _ | ⟨x, _ | ⟨y, st⟩⟩⟩⟩⟩ <;> first | rfl | (exact h.elim)
  · rw [if_neg (by assumption)]
    split at h
    · rw [if_pos (by assumption)]; exact pm_bin_next h
    · rw [if_neg (by assumption)]
      split at h
      · rw [if_pos (by assumption)]; exact pm_bin_next h
      · rw [if_neg (by assumption)]
        split at h
        · rw [if_pos (by assumption)]; exact pm_bin_next h
        · rw [if_neg (by assumption)]
          split at h
          · rw [if_pos (by assumption)]; exact pm_bin_next h
          · rw [if_neg (by assumption)]
            obtain ⟨i, L, st, hp⟩ := s
            rcases st with _ | ⟨v, _ | ⟨w, st⟩⟩ <;> first | rfl | (exact h.elim)
theorem pm_sta_next {z : Int} {s : pS} (h : (pm_sta z s).1) : (pm_sta z s).2.1 = s.1 + 1 := pm_stl_next h.1
theorem pm_seq_next (q : pI) (s : pS) (h : pm_seq q = true) (h1 : (pm_step q s).1) : (pm_step q s).2.1 = s.1 + 1 := by
  obtain ⟨ins, ns, zs⟩ := q
  obtain ⟨i, L, st, hp⟩ := s
  cases ins <;> first
    | rfl
    | exact pm_sta_next h1
    | exact Bool.noConfusion (show false = true from h)
    | (exact h1.elim)
    | (rcases st with _ | ⟨v, _ | ⟨w, _ | ⟨u, _ | ⟨x, _ | ⟨y, st⟩⟩⟩⟩⟩ <;> first | rfl | (exact h1.elim))
    | (rcases st with _ | ⟨v, _ | ⟨w, st⟩⟩
       · exact h1.elim
       · simp only [pm_step, pm_dup2] at h1 ⊢
         split <;> simp_all
       · simp only [pm_step, pm_dup2] at h1 ⊢
         split <;> simp_all)
theorem WP.run {k : Nat} {Q : Option pV → pH → Prop} : ∀ (l : List pI) (r : List pI) (i : Nat) (L st : List pV) (h : pH), (pm_CODE k).drop i = l ++ r → l.all pm_seq = true → (pm_run l (i, L, st, h)).1 → WP k (pm_run l (i, L, st, h)).2 Q → WP k (i, L, st, h) Q := by
  intro l
  induction l with
  | nil => intro r i L st h _ _ _ hw; exact hw
  | cons q l ih =>
    intro r i L st h hd hs h1 hw
    obtain ⟨hq, hd2⟩ := pm_getD_cons _ _ _ _ hd
    simp only [List.all_cons, Bool.and_eq_true] at hs
    have hn := pm_seq_next q (i, L, st, h) hs.1 h1.1
    have hcr : pm_call q = none ∧ pm_retK q = none := by
      have := hs.1
      obtain ⟨ins, ns, zs⟩ := q
      cases ins <;> simp_all [pm_seq, pm_call, pm_retK]
    refine WP.step q hq hcr.1 hcr.2 h1.1 ?_
    have h2 := h1.2
    change WP k (pm_run l (pm_step q (i, L, st, h)).2).2 Q at hw
    generalize pm_step q (i, L, st, h) = t at hn h2 hw ⊢
    obtain ⟨tp, ti, tL, ts, th⟩ := t
    dsimp only at hn h2 hw ⊢
    subst hn
    exact ih r _ _ _ _ hd2 hs.2 h2 hw
