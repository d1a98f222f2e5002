/-! The pure machine's heap as cells of the real one. -/
def pm_i32 (x : Int) : Prop := -2147483648 ≤ x ∧ x < 2147483648
def pm_i64 (x : Int) : Prop := -9223372036854775808 ≤ x ∧ x < 9223372036854775808
def pm_emb (ad : Nat → Nat) (sa : Nat) (v : pV) : Value := if v.1 = 0 then .int (Int32.ofInt v.2) else if v.1 = 1 then .long (Int64.ofInt v.2) else if v.1 = 4000000 then .ref sa else .ref (ad v.2.toNat)
def pm_okv (v : pV) : Prop := if v.1 = 0 then pm_i32 v.2 else if v.1 = 1 then pm_i64 v.2 else if v.1 = 4000000 then True else 0 ≤ v.2 ∧ v.2.toNat < 274 ∧ pm_lay v.2.toNat = v.1
def pm_fv (ad : Nat → Nat) (i : Nat) (f : Int → Int) (k : Nat) (q : Nat × Int × Nat) : Value := match q.1 with
  | 0 => .int (Int32.ofInt (f k))
  | 1 => .long (Int64.ofInt (f k))
  | 2 => .int (Int32.ofInt (f k))
  | 3 => .ref (ad ((i : Int) + q.2.1).toNat)
  | _ => .ref (ad (f k).toNat)
def pm_fields (ad : Nat → Nat) (i : Nat) (f : Int → Int) (ci : Nat) : List Value := (pm_fks.getD ci []).mapIdx (fun k q => pm_fv ad i f k q)
abbrev pm_G : Type := ClassId × ClassId × ClassId × ClassId
def pm_cell (ad : Nat → Nat) (G : pm_G) (i : Nat) (f : Int → Int) : va_E :=
  if pm_lay i < 1000 then .inr (pm_lay i - 2, pm_fields ad i f (pm_lay i - 2))
  else match (pm_lay i - 1000) % 4 with
    | 0 => .inl (G.1, (pm_lay i - 1000) / 4, .inl (fun j => Int32.ofInt (f j)))
    | 1 => .inl (G.2.1, (pm_lay i - 1000) / 4, .inr (.inl (fun j => Int64.ofInt (f j))))
    | 2 => .inl (G.2.2.1, (pm_lay i - 1000) / 4, .inl (fun j => Int32.ofInt (f j)))
    | _ => .inl (G.2.2.2, (pm_lay i - 1000) / 4, .inr (.inr (.inr (.inr (fun j => some (ad (156 + 46 * j)))))))
def pm_tys (G : pm_G) : List (ClassId × FieldType) := [(G.1, .int), (G.2.1, .long), (G.2.2.1, .boolean), (G.2.2.2, .object "HotHall$Hall")]
def pm_ws (ad : Nat → Nat) (G : pm_G) (h : pH) : va_W := (List.range 274).map (fun i => (ad i, pm_cell ad G i (h i)))
theorem pm_ws_get {ad : Nat → Nat} {G : pm_G} {h : pH} {i : Nat} (hi : i < 274) : (pm_ws ad G h)[i]? = some (ad i, pm_cell ad G i (h i)) := by
  unfold pm_ws
  rw [List.getElem?_map, List.getElem?_range hi]
  rfl
theorem pm_ws_set {ad : Nat → Nat} {G : pm_G} {h h' : pH} {i : Nat} {e : va_E} (he : pm_cell ad G i (h' i) = e) (ho : ∀ j : Nat, j < 274 → j ≠ i → h' j = h j) : (pm_ws ad G h).set i (ad i, e) = pm_ws ad G h' := by
  subst he
  apply List.ext_getElem?
  intro j
  rw [List.getElem?_set]
  rcases Nat.lt_or_ge j 274 with hj | hj
  · by_cases hij : i = j
    · subst hij
      rw [if_pos rfl, if_pos (by unfold pm_ws; rw [List.length_map, List.length_range]; exact hj), pm_ws_get hj]
    · rw [if_neg hij, pm_ws_get hj, pm_ws_get hj, ho j hj (fun q => hij q.symm)]
  · have e1 : (pm_ws ad G h)[j]? = none := List.getElem?_eq_none (by unfold pm_ws; rw [List.length_map, List.length_range]; exact hj)
    have e2 : (pm_ws ad G h')[j]? = none := List.getElem?_eq_none (by unfold pm_ws; rw [List.length_map, List.length_range]; exact hj)
    by_cases hij : i = j
    · subst hij
      rw [if_pos rfl, if_neg (by unfold pm_ws; rw [List.length_map, List.length_range]; omega), e2]
    · rw [if_neg hij, e1, e2]
/-- what the heap may hold -/
def pm_hok (h : pH) : Prop := ∀ i : Nat, i < 274 →
  (1000 ≤ pm_lay i → (pm_lay i - 1000) % 4 = 0 ∨ (pm_lay i - 1000) % 4 = 2 → ∀ k : Nat, pm_i32 (h i k)) ∧ (1000 ≤ pm_lay i → (pm_lay i - 1000) % 4 = 1 → ∀ k : Nat, pm_i64 (h i k)) ∧
  (pm_lay i < 1000 → ∀ (k : Nat) (q : Nat × Int × Nat), (pm_fks.getD (pm_lay i - 2) [])[k]? = some q → ((q.1 = 0 ∨ q.1 = 2) → pm_i32 (h i k)) ∧ (q.1 = 1 → pm_i64 (h i k)) ∧ (4 ≤ q.1 → 0 ≤ h i k ∧ (h i k).toNat < 274 ∧ pm_lay (h i k).toNat = q.2.2))
def pm_A (ad : Nat → Nat) (sz : Nat) : Nat → Prop := fun q => (∃ i, i < 274 ∧ q = ad i) ∨ sz ≤ q
def pm_inj (ad : Nat → Nat) : Prop := ∀ i j : Nat, i < 274 → j < 274 → ad i = ad j → i = j
theorem pm_D {ad : Nat → Nat} {G : pm_G} {h : pH} {sz : Nat} (hi : pm_inj ad) : va_D (pm_A ad sz) (pm_ws ad G h) := by
  have key : ∀ (k : Nat) (q : Nat × va_E), (pm_ws ad G h)[k]? = some q → k < 274 ∧ q.1 = ad k := by
    intro k q hq
    rcases Nat.lt_or_ge k 274 with hk | hk
    · rw [pm_ws_get hk] at hq
      cases hq
      exact ⟨hk, rfl⟩
    · rw [List.getElem?_eq_none (by unfold pm_ws; rw [List.length_map, List.length_range]; exact hk)] at hq
      cases hq
  refine ⟨fun i j p q hp hq e => ?_, fun k q hq => ?_⟩
  · obtain ⟨h1, e1⟩ := key i p hp
    obtain ⟨h2, e2⟩ := key j q hq
    exact hi i j h1 h2 (by rw [← e1, ← e2, e])
  · obtain ⟨h1, e1⟩ := key k q hq
    exact Or.inl ⟨k, h1, e1⟩
/-- locals -/
def pm_LR (ad : Nat → Nat) (sa : Nat) (n : Nat) (L : List pV) (ls : Array Slot) : Prop := L.length = n ∧ ls.size = n ∧ lv_wf ls ∧ ∀ (i : Nat) (v : pV), L[i]? = some v → v.1 ≠ 5000000 → ls[i]? = some (.val (pm_emb ad sa v))
