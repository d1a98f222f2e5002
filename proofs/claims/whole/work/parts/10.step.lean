/-! One instruction of the pure machine is one of the real machine. -/
noncomputable def pm_TB : List Jvm.Cond := lw_tbl.filter goodWord
theorem pm_TB_in {w : Jvm.Cond} {j : Nat} (h : lw_tbl[j]? = some w) (hg : goodWord w = true) : w ∈ pm_TB := List.mem_filter.mpr ⟨List.mem_of_getElem? h, hg⟩
theorem pm_TB_good : GoodIn pm_TB pm_TB := fun w hw => ⟨hw, good_of_word (List.mem_filter.mp hw).2⟩
theorem pm_uwB {ci : Nat} {r : vw_C} (h : vwCl[ci]? = some r) : ∀ w ∈ u_ws r.1 r.2.1 r.2.2, w ∈ pm_TB := by
  intro w hw
  refine List.mem_filter.mpr ⟨(pm_uw h).1 w hw, ?_⟩
  unfold u_ws at hw
  obtain ⟨k, -, hk⟩ := List.mem_map.mp hw
  rw [← hk]
  unfold u_lay
  split <;> rfl
theorem pm_fl {own i ci : Nat} {z : Int} (h : pm_FL.any (fun t => t.2.1 == i && t.1 == own && t.2.2.1 == ci && ((t.2.2.2.1 : Nat) : Int) == z) = true) :
    ∃ (k : Nat) (r : vw_C), z = (k : Int) ∧ vwCl[ci]? = some r ∧ k < r.2.2 ∧ Jvm.Cond.fieldLink (pm_rn own) i (r.2.1 k).1 (r.2.1 k).2.1 (r.2.1 k).2.2.1 ∈ pm_TB := by
  obtain ⟨t, ht, hc⟩ := List.any_eq_true.mp h
  simp only [Bool.and_eq_true, beq_iff_eq] at hc
  obtain ⟨⟨⟨h1, h2⟩, h3⟩, h4⟩ := hc
  have h5 := List.all_eq_true.mp pm_FL_ok t ht
  unfold pm_FLc at h5
  rw [h1, h2, h3] at h5
  cases hr : vwCl[ci]? with
  | none => rw [hr] at h5; cases h5
  | some r =>
    rw [hr] at h5
    simp only [Bool.and_eq_true, decide_eq_true_eq] at h5
    exact ⟨t.2.2.2.1, r, h4.symm, rfl, h5.1, pm_TB_in h5.2 rfl⟩
theorem pm_cn {own i f : Nat} {v : Int} (hf : f = 0 ∨ f = 1) (h : pm_CN.any (fun t => t.2.1 == i && t.1 == own && t.2.2.1 == v && t.2.2.2.1 == f) = true) :
    if f = 0 then (Jvm.Cond.constant (pm_rn own) i (Int32.ofInt v) ∈ pm_TB ∧ pm_i32 v) else (Jvm.Cond.constantLong (pm_rn own) i (Int64.ofInt v) ∈ pm_TB ∧ pm_i64 v) := by
  obtain ⟨t, ht, hc⟩ := List.any_eq_true.mp h
  simp only [Bool.and_eq_true, beq_iff_eq] at hc
  obtain ⟨⟨⟨h1, h2⟩, h3⟩, h4⟩ := hc
  have h5 := List.all_eq_true.mp pm_CN_ok t ht
  unfold pm_CNc at h5
  rw [h1, h2, h3, h4] at h5
  rcases hf with rfl | rfl
  · rw [if_pos rfl] at h5 ⊢
    simp only [Bool.and_eq_true, decide_eq_true_eq] at h5
    exact ⟨pm_TB_in h5.1.1 rfl, h5.1.2, h5.2⟩
  · rw [if_neg (by decide)] at h5 ⊢
    simp only [Bool.and_eq_true, decide_eq_true_eq] at h5
    exact ⟨pm_TB_in h5.1.1 rfl, h5.1.2, h5.2⟩
theorem pm_ml {own i t0 : Nat} (h : pm_ML.any (fun t => t.2.1 == i && t.1 == own && t.2.2.1 == t0) = true) (ht0 : t0 < 1000) : Jvm.Cond.methodLink (pm_rn own) i (pm_mt t0).1 ∈ pm_TB ∨ Jvm.Cond.methodLinkNest (pm_rn own) i (pm_mt t0).1 "HotHall" ∈ lw_tbl := by
  obtain ⟨t, ht, hc⟩ := List.any_eq_true.mp h
  simp only [Bool.and_eq_true, beq_iff_eq] at hc
  obtain ⟨⟨h1, h2⟩, h3⟩ := hc
  have h5 := List.all_eq_true.mp pm_ML_ok t ht
  unfold pm_MLc at h5
  rw [h1, h2, h3, if_neg (by omega)] at h5
  split at h5
  · exact Or.inl (pm_TB_in (of_decide_eq_true h5) rfl)
  · exact Or.inr (List.mem_of_getElem? (of_decide_eq_true h5))
theorem pm_ml0 {own i t0 : Nat} (h : pm_ML.any (fun t => t.2.1 == i && t.1 == own && t.2.2.1 == t0 && t.2.2.2.1 == 0) = true) (ht0 : t0 < 1000) : Jvm.Cond.methodLink (pm_rn own) i (pm_mt t0).1 ∈ pm_TB := by
  obtain ⟨t, ht, hc⟩ := List.any_eq_true.mp h
  simp only [Bool.and_eq_true, beq_iff_eq] at hc
  obtain ⟨⟨⟨h1, h2⟩, h3⟩, h4⟩ := hc
  have h5 := List.all_eq_true.mp pm_ML_ok t ht
  unfold pm_MLc at h5
  rw [h1, h2, h3, h4, if_neg (by omega), if_pos rfl] at h5
  exact pm_TB_in (of_decide_eq_true h5) rfl
theorem pm_mlL {own i : Nat} {z : Int} (h : pm_ML.any (fun t => t.2.1 == i && t.1 == own && ((t.2.2.1 : Nat) : Int) == 1000 + z) = true) (hz : 0 ≤ z) : Jvm.Cond.methodLink (pm_rn own) i (pm_ly z.toNat) ∈ pm_TB := by
  obtain ⟨t, ht, hc⟩ := List.any_eq_true.mp h
  simp only [Bool.and_eq_true, beq_iff_eq] at hc
  obtain ⟨⟨h1, h2⟩, h3⟩ := hc
  have h5 := List.all_eq_true.mp pm_ML_ok t ht
  unfold pm_MLc at h5
  rw [h1, h2, if_pos (by omega), show t.2.2.1 - 1000 = z.toNat by omega] at h5
  exact pm_TB_in (of_decide_eq_true h5) rfl
theorem pm_lays_len : pm_lays.length = 274 := by decide +kernel
theorem pm_fkq {ci k kind tag : Nat} {off : Int} {r : vw_C} (hr : vwCl[ci]? = some r) (hk : k < r.2.2) (h : pm_fk ci k kind tag off = true) : (pm_fks.getD ci [])[k]? = some (kind, off, tag) ∧ ci < 13 ∧
    (kind = 0 → (r.2.1 k).2.2.1 = "I") ∧ (kind = 1 → (r.2.1 k).2.2.1 = "J") ∧ (kind = 2 → (r.2.1 k).2.2.1 = "Z") ∧ (4 ≤ kind → (r.2.1 k).2.2.1 = "[J" ∧ tag = 1053) ∧
    (kind = 3 → 2 ≤ tag ∧ tag < 900000 ∧ ∀ i : Nat, i < 274 → pm_lay i = 2 + ci → 0 ≤ (i : Int) + off ∧ ((i : Int) + off).toNat < 274 ∧ pm_lay ((i : Int) + off).toNat = tag) := by
  have hci : ci < 13 := (List.getElem?_eq_some_iff.mp hr).1
  have h5 := List.all_eq_true.mp pm_fk_ok ci (List.mem_range.mpr hci)
  unfold pm_fkc at h5
  rw [hr] at h5
  simp only [Bool.and_eq_true, decide_eq_true_eq] at h5
  obtain ⟨hlen, hall⟩ := h5
  have hg := pm_getD_some (d := (9, 0, 0)) (show k < (pm_fks.getD ci []).length by rw [hlen]; exact hk)
  unfold pm_fk at h
  rw [of_decide_eq_true h] at hg
  have h6 := List.all_eq_true.mp hall ((kind, off, tag), k) (List.mem_zipIdx_iff_getElem?.mpr (by simpa using hg))
  refine ⟨hg, hci, ?_⟩
  match kind, h6 with
  | 0, h6 => exact ⟨fun _ => by simpa using h6, by omega, by omega, by omega, by omega⟩
  | 1, h6 => exact ⟨by omega, fun _ => by simpa using h6, by omega, by omega, by omega⟩
  | 2, h6 => exact ⟨by omega, by omega, fun _ => by simpa using h6, by omega, by omega⟩
  | 3, h6 =>
    simp only [Bool.and_eq_true, decide_eq_true_eq] at h6
    obtain ⟨⟨⟨-, h7⟩, h8⟩, h9⟩ := h6
    refine ⟨by omega, by omega, by omega, by omega, fun _ => ⟨h7, h8, fun i hi hl => ?_⟩⟩
    have hm : (2 + ci, i) ∈ pm_lays.zipIdx := by
      refine List.mem_zipIdx_iff_getElem?.mpr ?_
      have := pm_getD_some (l := pm_lays) (d := 0) (i := i) (by rw [pm_lays_len]; exact hi)
      rw [show pm_lays.getD i 0 = 2 + ci from hl] at this
      simpa using this
    have h10 := List.all_eq_true.mp h9 _ hm
    simp only [bne_self_eq_false, Bool.false_or, Bool.and_eq_true, decide_eq_true_eq, beq_iff_eq] at h10
    exact ⟨h10.1.1, h10.1.2, h10.2⟩
  | kind + 4, h6 =>
    simp only [Bool.and_eq_true, beq_iff_eq] at h6
    exact ⟨by omega, by omega, by omega, fun _ => ⟨h6.1.2, h6.2⟩, by omega⟩
theorem pm_cell_obj {ad : Nat → Nat} {G : pm_G} {i ci : Nat} {f : Int → Int} (hci : ci < 13) (hl : pm_lay i = 2 + ci) : pm_cell ad G i f = .inr (ci, pm_fields ad i f ci) := by
  unfold pm_cell
  rw [hl, if_pos (by omega), show 2 + ci - 2 = ci by omega]
theorem pm_cell_i {ad : Nat → Nat} {G : pm_G} {i : Nat} {f : Int → Int} (hl : 1000 ≤ pm_lay i) (h0 : (pm_lay i - 1000) % 4 = 0) : pm_cell ad G i f = .inl (G.1, (pm_lay i - 1000) / 4, .inl (fun j => Int32.ofInt (f j))) := by
  unfold pm_cell
  rw [if_neg (by omega), h0]
  rfl
theorem pm_cell_l {ad : Nat → Nat} {G : pm_G} {i : Nat} {f : Int → Int} (hl : 1000 ≤ pm_lay i) (h0 : (pm_lay i - 1000) % 4 = 1) : pm_cell ad G i f = .inl (G.2.1, (pm_lay i - 1000) / 4, .inr (.inl (fun j => Int64.ofInt (f j)))) := by
  unfold pm_cell
  rw [if_neg (by omega), h0]
  rfl
theorem pm_cell_z {ad : Nat → Nat} {G : pm_G} {i : Nat} {f : Int → Int} (hl : 1000 ≤ pm_lay i) (h0 : (pm_lay i - 1000) % 4 = 2) : pm_cell ad G i f = .inl (G.2.2.1, (pm_lay i - 1000) / 4, .inl (fun j => Int32.ofInt (f j))) := by
  unfold pm_cell
  rw [if_neg (by omega), h0]
  rfl
theorem pm_cell_r {ad : Nat → Nat} {G : pm_G} {i : Nat} {f : Int → Int} (hl : 1000 ≤ pm_lay i) (h0 : (pm_lay i - 1000) % 4 = 3) : pm_cell ad G i f = .inl (G.2.2.2, (pm_lay i - 1000) / 4, .inr (.inr (.inr (.inr (fun j => some (ad (156 + 46 * j))))))) := by
  unfold pm_cell
  rw [if_neg (by omega), h0]
  rfl
theorem pm_fields_get {ad : Nat → Nat} {i ci k : Nat} {f : Int → Int} {q : Nat × Int × Nat} (h : (pm_fks.getD ci [])[k]? = some q) : (pm_fields ad i f ci)[k]? = some (pm_fv ad i f k q) := by
  unfold pm_fields
  rw [List.getElem?_mapIdx, h]; rfl
theorem pm_fields_set {ad : Nat → Nat} {i ci k : Nat} {f f' : Int → Int} {q : Nat × Int × Nat} {V : Value} (h : (pm_fks.getD ci [])[k]? = some q) (hV : pm_fv ad i f' k q = V) (ho : ∀ j : Nat, j ≠ k → f' j = f j) : (pm_fields ad i f ci).set k V = pm_fields ad i f' ci := by
  subst hV
  apply List.ext_getElem?
  intro j
  unfold pm_fields
  rw [List.getElem?_set]
  by_cases hj : k = j
  · subst hj
    have hlt := (List.getElem?_eq_some_iff.mp h).1
    rw [if_pos rfl, if_pos (by rw [List.length_mapIdx]; exact hlt), List.getElem?_mapIdx, h]; rfl
  · rw [if_neg hj, List.getElem?_mapIdx, List.getElem?_mapIdx]
    cases (pm_fks.getD ci [])[j]? with
    | none => rfl
    | some u =>
      show some (pm_fv ad i f j u) = some (pm_fv ad i f' j u)
      unfold pm_fv
      rw [ho j (fun q => hj q.symm)]
