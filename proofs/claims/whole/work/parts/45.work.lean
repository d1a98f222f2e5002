/-! One work as a minute ends: numbers alone. -/
def nst (O K F t : Int) : Int := if O = 9 then 4 else if ¬ O = 0 then O else if K = 0 ∨ F ≤ t then 1 else 0
def nat_ (K N F T D t : Int) : Int := if D < (if K = 1 then T - F + 1 else N) then (if T < t then 3 else if F ≤ t then 1 else 0) else if T < t then 2 else if K = 1 then (if F ≤ t then 1 else 0) else 2
/-- what holds of a work's numbers at minute t -/
def nwk (K N F T D C O S t : Int) : Prop := (K = 0 ∨ K = 1) ∧ 1 ≤ N ∧ N ≤ 1000 ∧ (K = 1 → N ≤ 3) ∧ 0 ≤ F ∧ F ≤ 9999 ∧ 0 ≤ T ∧ T ≤ 9999 ∧ (K = 0 → F = 0) ∧ (K = 1 → F ≤ T) ∧ 0 ≤ D ∧ D ≤ 20000 ∧ 0 ≤ C ∧ C ≤ 6 ∧ (O = 0 ∨ O = 2 ∨ O = 3 ∨ O = 9) ∧ (S = 0 ∨ S = 1) ∧
  (O = 0 → t ≤ T ∧ (K = 0 → D < N) ∧ (K = 1 → (t < F → D = 0 ∧ S = 0) ∧ (F ≤ t → D ≤ t - F ∧ (S = 0 ↔ D = t - F)) ∧ (S = 0 ↔ C = 0)))
def nD (K N D r : Int) : Int := if K = 0 then D + r else if r = N then D + 1 else D
def nS (K N S r : Int) : Int := if K = 0 then S else if r = N then S else if S = 0 then 1 else S
def nC (K N C S q r : Int) : Int := if K = 0 then (if q = 0 then (if 3 ≤ r then C else 6) else q) else if r = N then C else if S = 0 then (if q = 0 then 6 else q) else C
def nO (K N T D' S' t : Int) : Int := if K = 0 then (if N ≤ D' then 2 else if t = T then 3 else 0) else if T ≤ t then (if S' = 0 then 2 else 3) else 0
def xD (K N D r : Int) : Int := if K = 1 then (if r = N then D + 1 else D) else D + r
def xC (K N C q r : Int) : Int := if K = 1 then (if r = N then C else if C = 0 then (if q = 0 then 6 else q) else C) else (if r = 3 then C else (if q = 0 then 6 else q))
/-- an open work -/
theorem close_open {K N F T D C O S t q r : Int} (h : nwk K N F T D C O S t) (ht : 0 ≤ t) (hO : O = 0) (ho : K = 0 ∨ (F ≤ t ∧ t ≤ T)) (hr : 0 ≤ r ∧ r ≤ 3) (hq : 0 ≤ q ∧ q ≤ 5) (hqr : q ≠ 0 → r = 0) :
    nst O K F t = 1 ∧ xD K N D r = nD K N D r ∧ xC K N C q r = nC K N C S q r ∧ nat_ K N F T (nD K N D r) (t + 1) = nst (nO K N T (nD K N D r) (nS K N S r) t) K F (t + 1) ∧
    nwk K N F T (nD K N D r) (nC K N C S q r) (nO K N T (nD K N D r) (nS K N S r) t) (nS K N S r) (t + 1) ∧ (nat_ K N F T (nD K N D r) (t + 1) = 3 ↔ nO K N T (nD K N D r) (nS K N S r) t = 3) := by
  obtain ⟨hK, hN1, hN2, hN3, hF1, hF2, hT1, hT2, hKF, hFT, hD1, hD2, hC1, hC2, -, hS, h0⟩ := h
  obtain ⟨h1, h2, h3⟩ := h0 hO
  subst hO
  rcases hK with rfl | rfl
  · -- a batch
    have hF := hKF rfl
    subst hF
    have h2 := h2 rfl
    have e1 : nD 0 N D r = D + r := by unfold nD; rfl
    have e2 : nS 0 N S r = S := by unfold nS; rfl
    have e3 : nC 0 N C S q r = if q = 0 then (if 3 ≤ r then C else 6) else q := by unfold nC; rfl
    have e4 : nO 0 N T (D + r) S t = if N ≤ D + r then 2 else if t = T then 3 else 0 := by unfold nO; rfl
    rw [e1, e2, e3, e4]
    unfold nst xD xC nat_ nwk
    refine ⟨by grind, by grind, by grind, by grind, ⟨by grind, by grind, by grind, by grind, by grind, by grind, by grind, by grind, by grind, by grind, by grind, by grind, by grind, by grind, by grind, by grind, fun z => ⟨by grind, by grind, by grind⟩⟩, by grind⟩
  · -- a steady one
    have h3 := h3 rfl
    have ho : F ≤ t ∧ t ≤ T := by omega
    have e1 : nD 1 N D r = if r = N then D + 1 else D := by unfold nD; rfl
    have e2 : nS 1 N S r = if r = N then S else if S = 0 then 1 else S := by unfold nS; rfl
    have e3 : nC 1 N C S q r = if r = N then C else if S = 0 then (if q = 0 then 6 else q) else C := by unfold nC; rfl
    have e4 : ∀ D' S' : Int, nO 1 N T D' S' t = if T ≤ t then (if S' = 0 then 2 else 3) else 0 := fun D' S' => by unfold nO; rfl
    rw [e4, e1, e2, e3]
    have hFT := hFT rfl
    have hN3 := hN3 rfl
    unfold nst xD xC nat_ nwk
    by_cases c : r = N
    · simp only [c, if_true]
      refine ⟨by grind, by grind, by grind, by grind, ⟨by grind, by grind, by grind, by grind, by grind, by grind, by grind, by grind, by grind, by grind, by grind, by grind, by grind, by grind, by grind, by grind, fun z => ⟨by grind, by grind, by grind⟩⟩, by grind⟩
    · simp only [c, if_false]
      refine ⟨by grind, by grind, by grind, by grind, ⟨by grind, by grind, by grind, by grind, by grind, by grind, by grind, by grind, by grind, by grind, by grind, by grind, by grind, by grind, by grind, by grind, fun z => ⟨by grind, by grind, by grind⟩⟩, by grind⟩
/-- a work that isn't open -/
theorem close_shut {K N F T D C O S t : Int} (h : nwk K N F T D C O S t) (ht : 0 ≤ t) (ho : ¬ (O = 0 ∧ (K = 0 ∨ (F ≤ t ∧ t ≤ T)))) :
    nst O K F t ≠ 1 ∧ (nst O K F t = 0 → nat_ K N F T D (t + 1) = nst O K F (t + 1) ∧ nat_ K N F T D (t + 1) ≠ 3) ∧ (nst O K F t ≠ 0 → nst O K F (t + 1) = nst O K F t) ∧ nwk K N F T D C O S (t + 1) := by
  obtain ⟨hK, hN1, hN2, hN3, hF1, hF2, hT1, hT2, hKF, hFT, hD1, hD2, hC1, hC2, hO, hS, h0⟩ := h
  by_cases e : O = 0
  · subst e
    obtain ⟨h1, h2, h3⟩ := h0 rfl
    have hK1 : K = 1 := by omega
    subst hK1
    have h3 := h3 rfl
    have hlt : t < F := by omega
    have hFT := hFT rfl
    have hN3 := hN3 rfl
    unfold nst nat_ nwk
    refine ⟨by grind, by grind, by grind, ⟨by grind, by grind, by grind, by grind, by grind, by grind, by grind, by grind, by grind, by grind, by grind, by grind, by grind, by grind, by grind, by grind, fun z => ⟨by grind, by grind, by grind⟩⟩⟩
  · unfold nst nwk
    refine ⟨by grind, by grind, by grind, hK, hN1, hN2, hN3, hF1, hF2, hT1, hT2, hKF, hFT, hD1, hD2, hC1, hC2, hO, hS, fun z => absurd z e⟩
