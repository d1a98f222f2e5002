/-! Constructors: rows over the cells that are made one behind the other, from the address a0 on. -/
def cs_P (D : va_G) (a0 n : Nat) (E : Nat → va_E) (H : Heap) : Prop := H.size = a0 + n ∧ ∀ i : Nat, i < n → va_at D vwCl (a0 + i, E i) H
def cs_A (a0 : Nat) : Nat → Prop := fun q => a0 ≤ q
def cs_x (E : Nat → va_E) (i : Nat) (e : va_E) : Nat → va_E := fun j => if j = i then e else E j
def cs_y (E : Nat → va_E) (n : Nat) (B : Nat → va_E) : Nat → va_E := fun j => if j < n then E j else B (j - n)
theorem cs_cg {D : va_G} {a0 n : Nat} {E E' : Nat → va_E} {H : Heap} (h : cs_P D a0 n E H) (he : ∀ i, i < n → E i = E' i) : cs_P D a0 n E' H := ⟨h.1, fun i hi => by rw [← he i hi]; exact h.2 i hi⟩
theorem cs_set {D : va_G} {a0 n i : Nat} {E : Nat → va_E} {e : va_E} {H H1 : Heap} (h : cs_P D a0 n E H) (he : va_at D vwCl (a0 + i, e) H1) (z : H1.size = H.size) (oq : ∀ q : Nat, q ≠ a0 + i → H1[q]? = H[q]?) : cs_P D a0 n (cs_x E i e) H1 := by
  refine ⟨z.trans h.1, fun j hj => ?_⟩
  by_cases e1 : j = i
  · subst e1
    rw [show cs_x E j e j = e from if_pos rfl]
    exact he
  · rw [show cs_x E i e j = E j from if_neg e1]
    exact (h.2 j hj).kept (oq _ (show a0 + j ≠ a0 + i by omega))
theorem cs_push {D : va_G} {a0 n : Nat} {E : Nat → va_E} {e : va_E} {H H1 : Heap} (h : cs_P D a0 n E H) (he : va_at D vwCl (a0 + n, e) H1) (z : H1.size = a0 + n + 1) (oq : ∀ q : Nat, q < a0 + n → H1[q]? = H[q]?) : cs_P D a0 (n + 1) (cs_x E n e) H1 := by
  refine ⟨z, fun j hj => ?_⟩
  by_cases e1 : j = n
  · subst e1
    rw [show cs_x E j e j = e from if_pos rfl]
    exact he
  · rw [show cs_x E n e j = E j from if_neg e1]
    exact (h.2 j (by omega)).kept (oq _ (show a0 + j < a0 + n by omega))
theorem cs_S {a0 n : Nat} {H0 H H1 : Heap} {locs : List Loc} (hS : va_S (cs_A a0) H0 H locs) (hz : H.size = a0 + n) (z : H1.size = a0 + n + 1) (oq : ∀ q : Nat, q < a0 + n → H1[q]? = H[q]?) : va_S (cs_A a0) H0 H1 locs :=
  ⟨Nat.le_trans hS.1 (by omega), fun q h1 h2 => (oq q (by have := hS.1; omega)).trans (hS.2.1 q h1 h2), hS.2.2⟩
theorem cs_arrV {cA : ClassId} {N : Nat} {f g : Nat → Value} (h : ∀ j, j < N → f j = g j) : arrV cA N f = arrV cA N g := by
  unfold arrV
  congr 1
  apply Array.ext
  · simp
  · intro j h1 h2
    simp only [Array.getElem_ofFn]
    exact h j (by simpa using h1)
section CSR
variable {p : Program} {l : Launch} {e : Env} {R : Room} {s : State} {m : MethodId} {args : Array Value} {below : List Frame} {meth : Method} {c : Code} {H : Heap} {locs : List Loc} {cells slots : Nat} {Q : State → Prop} {cc : ByteArray} {pc : Nat} {ls : Array Slot} {rest : List Value} {D : va_G} {G : pm_G} {H0 : Heap} {a0 n : Nat} {E : Nat → va_E} {Ts : List Jvm.Cond} {tys : List (ClassId × FieldType)}
theorem cs_new (hexec : p.tables.exec = Jvm.exec) (hb : c.code = cc) {own C : String} {T : u_T} {N ci index : Nat} (hts : ∀ w ∈ Ts, w.before args s = true) (hin : ∀ w ∈ u_ws C T N, w ∈ Ts) (ty : Nat → FieldType) (hty : ∀ k, k < N → parseFieldDescriptor (T k).2.2.1 = some (ty k)) (hown : s.vm.findClass own = some m.cls) (hcl : (Jvm.Cond.classLink own index C).before args s = true) (hinst : (Jvm.Cond.instantiable C N).before args s = true) (hini : (Jvm.Cond.initialized C).before args s = true)
    (hK : va_K D vwCl tys s) (hP : cs_P D a0 n E H) (hS : va_S (cs_A a0) H0 H locs) (hc : vwCl[ci]? = some (C, T, N)) {fs : List Value} (hfs : ∀ j, j < N → defaultValue (ty j) = vp_V fs j) (hcells : cells + 1 ≤ R.cells) (hslots : slots + N ≤ R.slots) (hdg : decode cc pc = .ok (.new index, 3))
    (kk : ∀ (H1 : Heap), cs_P D a0 (n + 1) (cs_x E n (.inr (ci, fs))) H1 → va_S (cs_A a0) H0 H1 locs → W p l e R s m args below meth c H1 locs (cells + 1) (slots + N) Q (F0 m (pc + 3) ls (.ref (a0 + n) :: rest))) : W p l e R s m args below meth c H locs cells slots Q (F0 m pc ls rest) := by
  have hKn := hK.1 ci _ hc
  refine W.newcK hexec hb hown hcl hinst hini rfl hdg hcells hslots hKn.2.1 hP.1 fun H1 kC hkC e1 z1 o1 => ?_
  exact kk H1 (cs_push hP ⟨_, hc, (u_born ty hts hin hKn hkC e1 hty).to hfs⟩ z1 o1) (cs_S hS hP.1 z1 o1)
theorem cs_newa (hexec : p.tables.exec = Jvm.exec) (hb : c.code = cc) {atype : ArrayType} (harr : (Jvm.Cond.arrayClass (newarray.typeOf atype)).before args s = true) (t0 : Nat) {cA : ClassId} {ty : FieldType} (hty : newarray.typeOf atype = ty) (ht : tys[t0]? = some (cA, ty)) (hK : va_K D vwCl tys s) (hP : cs_P D a0 n E H) (hS : va_S (cs_A a0) H0 H locs)
    {v : Int32} {N' : Nat} {x : vp_A} (ha : ∀ cA : ClassId, vp_cell cA x = arrV cA N' (fun _ => defaultValue ty)) (hn : ¬ v < 0) (hN : v.toNatClampNeg = N') (hbytes : N' * componentBytes ty ≤ 536870912) (hcells : cells + 1 ≤ R.cells) (hslots : slots + N' ≤ R.slots) (hdg : decode cc pc = .ok (.newarray atype, 2))
    (kk : ∀ (H1 : Heap), cs_P D a0 (n + 1) (cs_x E n (.inl (cA, x))) H1 → va_S (cs_A a0) H0 H1 locs → W p l e R s m args below meth c H1 locs (cells + 1) (slots + N') Q (F0 m (pc + 2) ls (.ref (a0 + n) :: rest))) : W p l e R s m args below meth c H locs cells slots Q (F0 m pc ls (.int v :: rest)) := by
  subst hty
  refine va_newaK hexec hb harr rfl hdg rfl hn hN hbytes hcells hslots hP.1 fun H1 cA' e1 z1 o1 hAr hNm => ?_
  have h2 := (hK.2 t0 _ ht).2
  have hcA : cA' = cA := by
    refine Option.some.inj (hNm.symm.trans ?_)
    cases atype <;> exact h2
  subst hcA
  refine kk H1 (cs_push hP ?_ z1 o1) (cs_S hS hP.1 z1 o1)
  show H1[a0 + n]? = some (vp_cell _ _)
  rw [ha]
  exact e1
theorem cs_anew (hexec : p.tables.exec = Jvm.exec) (hb : c.code = cc) {own C : String} {index : Nat} (hown : s.vm.findClass own = some m.cls) (hclink : (Jvm.Cond.classLink own index C).before args s = true) (hover : (Jvm.Cond.arrayOver (.object C)).before args s = true) (t0 : Nat) {cA : ClassId} (ht : tys[t0]? = some (cA, .object C)) (hK : va_K D vwCl tys s) (hP : cs_P D a0 n E H) (hS : va_S (cs_A a0) H0 H locs)
    {v : Int32} {N' : Nat} (hn : ¬ v < 0) (hN : v.toNatClampNeg = N') (hbytes : N' * 4 ≤ 536870912) (hcells : cells + 1 ≤ R.cells) (hslots : slots + N' ≤ R.slots) (hdg : decode cc pc = .ok (.anewarray index, 3))
    (kk : ∀ (H1 : Heap), cs_P D a0 (n + 1) (cs_x E n (.inl (cA, N', .inr (.inr (.inr (.inr (fun _ => none))))))) H1 → va_S (cs_A a0) H0 H1 locs → W p l e R s m args below meth c H1 locs (cells + 1) (slots + N') Q (F0 m (pc + 3) ls (.ref (a0 + n) :: rest))) : W p l e R s m args below meth c H locs cells slots Q (F0 m pc ls (.int v :: rest)) := by
  subst hN
  refine W.anew hexec hb hown hclink hover rfl hdg rfl hn hbytes hcells hslots fun cA' kA comp h1 h2 h3 h4 => ?_
  obtain ⟨-, -, -, -, -, h9⟩ := (hK.2 t0 _ ht).2
  have hcA : cA' = cA := Option.some.inj (h1.symm.trans h9)
  subst hcA
  have hz : (H.push { cls := cA', slots := Array.replicate v.toNatClampNeg .null, vm := .none }).size = a0 + n + 1 := by rw [Array.size_push, hP.1]
  have ho : ∀ q : Nat, q < a0 + n → (H.push { cls := cA', slots := Array.replicate v.toNatClampNeg .null, vm := .none })[q]? = H[q]? := fun q hq => by
    rw [Array.getElem?_push, if_neg (by rw [hP.1]; omega)]
  rw [hP.1]
  refine kk _ (cs_push hP ?_ hz ho) (cs_S hS hP.1 hz ho)
  show (H.push _)[a0 + n]? = some (vp_cell _ _)
  rw [vp_cell_q, ← hP.1, arrV_new]
  simp [va_rf]
theorem cs_put (hexec : p.tables.exec = Jvm.exec) (hb : c.code = cc) {own ref C : String} {T : u_T} {N ci index : Nat} (hts : ∀ w ∈ Ts, w.before args s = true) (hin : ∀ w ∈ u_ws C T N, w ∈ Ts) (ty0 : Nat → FieldType) (hty : ∀ k, k < N → parseFieldDescriptor (T k).2.2.1 = some (ty0 k)) (hnm : ∀ a, a < N → ∀ b, b < N → a ≠ b → (T a).2.1 ≠ (T b).2.1) (hown : s.vm.findClass own = some m.cls) (hK : va_K D vwCl tys s) (hP : cs_P D a0 n E H) (hS0 : va_S (cs_A a0) H0 H locs) (i : Nat) (hi0 : i < n) {fs : List Value} (he : E i = .inr (ci, fs)) (hc : vwCl[ci]? = some (C, T, N)) (k : Nat) (hk : k < N) (hlink : (Jvm.Cond.fieldLink own index ref (T k).2.1 (T k).2.2.1).before args s = true) (hsame : ∀ x, s.fieldFound? (T k).1 (T k).2.1 (T k).2.2.1 = some x → s.fieldFound? ref (T k).2.1 (T k).2.2.1 = some x) (hfin : (T k).2.2.2 = false) {ty : FieldType} {v : Value} (hd : parseFieldDescriptor (T k).2.2.1 = some ty) (hn : narrow ty v = v) (hfit : fits ty v = true) (hl : k < fs.length)
    (hdg : decode cc pc = .ok (.putfield index, 3)) (kk : ∀ (H1 : Heap) (locs1 : List Loc), cs_P D a0 n (cs_x E i (.inr (ci, fs.set k v))) H1 → va_S (cs_A a0) H0 H1 locs1 → W p l e R s m args below meth c H1 locs1 cells slots Q (F0 m (pc + 3) ls rest)) : W p l e R s m args below meth c H locs cells slots Q (F0 m pc ls (v :: .ref (a0 + i) :: rest)) := by
  have hap := va_apart (own := own) hts hin ty0 hty hnm hK hc
  have h0 := hP.2 i hi0
  rw [he] at h0
  obtain ⟨r, h1, cell, q1, q2, q3, q4⟩ := h0
  have hr : r = (C, T, N) := Option.some.inj (h1.symm.trans hc)
  subst hr
  obtain ⟨hS, hfc, kC, hkC, hkind⟩ := hK.1 ci _ hc
  obtain ⟨cf, kf, fi, f, hi, hsl⟩ := hS k hk
  have hlay := hts _ (hin _ (u_in_lay hk))
  unfold u_lay at hlay
  rw [if_neg (by rw [hfin]; decide)] at hlay
  have hst := (u_facts hfc hkC (u_lays hts hin hk) hi).1
  have h6 := u_store hfc hkC hkind hlay hi hd hn hfit
  refine W.putK hexec hb (f := f) ⟨hown, hlink, ⟨_, _, _, hsame _ hi⟩, hst⟩ (by rw [q2]; exact h6) q1 q3 (by rw [hsl]; exact k2_hasslot (q4 k hk)) rfl rfl hdg fun H' e1 e2 e3 => ?_
  rw [hsl] at e1 ⊢
  exact kk H' _ (cs_set hP ⟨_, hc, t_OB.to (V := updV (vp_V fs) k v) ⟨_, e1, q2, q3, t_set q4 hap hk v⟩ (fun j _ => vp_updV_set hl v j)⟩ e2 e3) (hS0.put e2 e3 (show a0 ≤ a0 + i by omega))
theorem cs_putF (hexec : p.tables.exec = Jvm.exec) (hb : c.code = cc) {own ref C : String} {T : u_T} {N ci index : Nat} (hts : ∀ w ∈ Ts, w.before args s = true) (hin : ∀ w ∈ u_ws C T N, w ∈ Ts) (ty0 : Nat → FieldType) (hty : ∀ k, k < N → parseFieldDescriptor (T k).2.2.1 = some (ty0 k)) (hnm : ∀ a, a < N → ∀ b, b < N → a ≠ b → (T a).2.1 ≠ (T b).2.1) (hown : s.vm.findClass own = some m.cls) (hK : va_K D vwCl tys s) (hP : cs_P D a0 n E H) (hS0 : va_S (cs_A a0) H0 H locs) (i : Nat) (hi0 : i < n) {fs : List Value} (he : E i = .inr (ci, fs)) (hc : vwCl[ci]? = some (C, T, N)) (k : Nat) (hk : k < N) (hlink : (Jvm.Cond.fieldLink own index ref (T k).2.1 (T k).2.2.1).before args s = true) (hsame : ∀ x, s.fieldFound? (T k).1 (T k).2.1 (T k).2.2.1 = some x → s.fieldFound? ref (T k).2.1 (T k).2.2.1 = some x) (hfin : (T k).2.2.2 = true) (hin2 : meth.name = "<init>") (hdecl : (T k).1 = own) {ty : FieldType} {v : Value} (hd : parseFieldDescriptor (T k).2.2.1 = some ty) (hn : narrow ty v = v) (hfit : fits ty v = true) (hl : k < fs.length)
    (hdg : decode cc pc = .ok (.putfield index, 3)) (kk : ∀ (H1 : Heap) (locs1 : List Loc), cs_P D a0 n (cs_x E i (.inr (ci, fs.set k v))) H1 → va_S (cs_A a0) H0 H1 locs1 → W p l e R s m args below meth c H1 locs1 cells slots Q (F0 m (pc + 3) ls rest)) : W p l e R s m args below meth c H locs cells slots Q (F0 m pc ls (v :: .ref (a0 + i) :: rest)) := by
  have hap := va_apart (own := own) hts hin ty0 hty hnm hK hc
  have h0 := hP.2 i hi0
  rw [he] at h0
  obtain ⟨r, h1, cell, q1, q2, q3, q4⟩ := h0
  have hr : r = (C, T, N) := Option.some.inj (h1.symm.trans hc)
  subst hr
  obtain ⟨hS, hfc, kC, hkC, hkind⟩ := hK.1 ci _ hc
  obtain ⟨cf, kf, fi, f, hi, hsl⟩ := hS k hk
  have hlay := hts _ (hin _ (u_in_lay hk))
  unfold u_lay at hlay
  rw [if_pos hfin] at hlay
  have hst := (u_facts hfc hkC (u_lays hts hin hk) hi).1
  have hcf : m.cls = cf := by
    obtain ⟨_, _, c', _, _, _, -, -, hf', -, -, -, hown2, -⟩ := Cond.laysFinal_spec hlay
    have e1 : c' = cf := by have := hi.symm.trans hf'; simp at this; exact this.1.symm
    rw [hdecl] at hown2
    rw [← e1]; exact Option.some.inj (hown.symm.trans hown2)
  have h6 := u_fits hfc hkC hkind (Or.inr hlay) hi hd hn hfit
  refine W.putFinK hexec hb hown hlink (hsame _ hi) hst hcf hin2 (by rw [q2]; exact h6) q1 q3 (by rw [hsl]; exact k2_hasslot (q4 k hk)) rfl rfl hdg fun H' e1 e2 e3 => ?_
  rw [hsl] at e1 ⊢
  exact kk H' _ (cs_set hP ⟨_, hc, t_OB.to (V := updV (vp_V fs) k v) ⟨_, e1, q2, q3, t_set q4 hap hk v⟩ (fun j _ => vp_updV_set hl v j)⟩ e2 e3) (hS0.put e2 e3 (show a0 ≤ a0 + i by omega))
theorem cs_one (hP : cs_P D a0 n E H) {i : Nat} (hi : i < n) {x : va_E} (he : E i = x) : va_P D vwCl [(a0 + i, x)] H := by
  intro k q hq
  match k, hq with
  | 0, hq => cases hq; rw [← he]; exact hP.2 i hi
  | k + 1, hq => simp at hq
theorem cs_get (hexec : p.tables.exec = Jvm.exec) (hb : c.code = cc) {own ref C : String} {T : u_T} {N ci index : Nat} (hts : ∀ w ∈ Ts, w.before args s = true) (hin : ∀ w ∈ u_ws C T N, w ∈ Ts) (hown : s.vm.findClass own = some m.cls) (hK : va_K D vwCl tys s) (hP : cs_P D a0 n E H) (i : Nat) (hi0 : i < n) {fs : List Value} (he : E i = .inr (ci, fs)) (hc : vwCl[ci]? = some (C, T, N)) (k : Nat) (hk : k < N) (hlink : (Jvm.Cond.fieldLink own index ref (T k).2.1 (T k).2.2.1).before args s = true) (hsame : ∀ x, s.fieldFound? (T k).1 (T k).2.1 (T k).2.2.1 = some x → s.fieldFound? ref (T k).2.1 (T k).2.2.1 = some x) {v : Value} (hv : fs[k]? = some v) (hdg : decode cc pc = .ok (.getfield index, 3))
    (kk : W p l e R s m args below meth c H locs cells slots Q (F0 m (pc + 3) ls (v :: rest))) : W p l e R s m args below meth c H locs cells slots Q (F0 m pc ls (.ref (a0 + i) :: rest)) :=
  va_get hexec hb hts hin hown hK (cs_one hP hi0 he) 0 rfl hc k hk hlink hsame hv hdg kk
theorem cs_last (hexec : p.tables.exec = Jvm.exec) (hb : c.code = cc) (hK : va_K D vwCl tys s) (hP : cs_P D a0 n E H) (hS : va_S (cs_A a0) H0 H locs) (i t0 : Nat) (hi0 : i < n) {cA : ClassId} {N : Nat} {f : Nat → Int64} (he : E i = .inl (cA, N, .inr (.inl f))) (ht : tys[t0]? = some (cA, .long)) {j : Int32} {x : Int64} (hin : vp_in j N) (hdg : decode cc pc = .ok (.lastore, 1))
    (kk : ∀ (H1 : Heap) (locs1 : List Loc), cs_P D a0 n (cs_x E i (.inl (cA, N, .inr (.inl (vp_updL f j.toNatClampNeg x))))) H1 → va_S (cs_A a0) H0 H1 locs1 → W p l e R s m args below meth c H1 locs1 cells slots Q (F0 m (pc + 1) ls rest)) : W p l e R s m args below meth c H locs cells slots Q (F0 m pc ls (.long x :: .int j :: .ref (a0 + i) :: rest)) := by
  have h0 := hP.2 i hi0
  rw [he] at h0
  refine W.last hexec hb h0 ((hK.2 t0 _ ht).1 N (fun j => .long (f j))) (fun q => by cases q) (by show ¬ (j < 0 ∨ (arrV _ _ _).slots.size ≤ _); rw [arrV_size]; exact hin) rfl rfl hdg fun H1 e z oq => ?_
  refine kk H1 _ (cs_set hP ?_ z oq) (hS.put z oq (show a0 ≤ a0 + i by omega))
  show H1[a0 + i]? = some (vp_cell _ _)
  rw [e]
  rw [vp_cell_l, vp_cell_l, arrV_store]
  congr 2
  funext q
  by_cases hq : q = j.toNatClampNeg
  · subst hq
    simp [updV, vp_updL]
  · simp [updV, vp_updL, hq]
theorem cs_aast (hexec : p.tables.exec = Jvm.exec) (hb : c.code = cc) (hK : va_K D vwCl tys s) (hP : cs_P D a0 n E H) (hS : va_S (cs_A a0) H0 H locs) (i t0 k ci : Nat) (hi0 : i < n) (hk0 : k < n) {cA : ClassId} {r : vw_C} {N : Nat} {vs : List Value} {f : Nat → Option Nat} (he : E i = .inl (cA, N, .inr (.inr (.inr (.inr f))))) (ht : tys[t0]? = some (cA, .object r.1)) (hv : E k = .inr (ci, vs)) (hc : vwCl[ci]? = some r) {j : Int32} (hin : vp_in j N) (hdg : decode cc pc = .ok (.aastore, 1))
    (kk : ∀ (H1 : Heap) (locs1 : List Loc), cs_P D a0 n (cs_x E i (.inl (cA, N, .inr (.inr (.inr (.inr (va_up f j.toNatClampNeg (some (a0 + k))))))))) H1 → va_S (cs_A a0) H0 H1 locs1 → W p l e R s m args below meth c H1 locs1 cells slots Q (F0 m (pc + 1) ls rest)) : W p l e R s m args below meth c H locs cells slots Q (F0 m pc ls (.ref (a0 + k) :: .int j :: .ref (a0 + i) :: rest)) := by
  have hlt : j.toNatClampNeg < N := Nat.not_le.mp fun q => hin (Or.inr q)
  have hj0 : ¬ j < 0 := fun q => hin (Or.inl q)
  have h0 := hP.2 i hi0
  rw [he] at h0
  have h1 := hP.2 k hk0
  rw [hv] at h1
  obtain ⟨r', hr', cellV, g1, g2, g3, -⟩ := h1
  have hcls := (hK.1 ci r hc).2
  obtain ⟨kA, comp, k1, k2, k3, -⟩ := (hK.2 t0 _ ht).2
  have hcomp : comp = D.1 ci := Option.some.inj (k3.symm.trans hcls.1)
  subst hcomp
  obtain ⟨kC, hkC, -⟩ := hcls.2
  refine W.aast hexec hb h0 (fun q h => by cases h) (fun h => by cases h) k1 k2 rfl hkC ⟨hj0, by show _ < (arrV _ _ _).slots.size; rw [arrV_size]; exact hlt⟩ g1 (fun q h => by rw [g3] at h; cases h) (by rw [g2]; exact hkC) (by rw [g2]; exact va_asg _ _) rfl rfl hdg fun H1 e z oq => ?_
  refine kk H1 _ (cs_set hP ?_ z oq) (hS.put z oq (show a0 ≤ a0 + i by omega))
  show H1[a0 + i]? = some (vp_cell _ _)
  rw [e]
  rw [vp_cell_q, vp_cell_q, arrV_store]
  congr 2
  funext q
  by_cases hq : q = j.toNatClampNeg
  · subst hq
    simp [updV, va_up, va_rf]
  · simp [updV, va_up, hq]
/-- a constructor's contract: its object's cell comes last, its parts behind it -/
def cs_Pc (D : va_G) (G : pm_G) (ci : Nat) (fs : List Value) (a : Nat) : Array Value → State → Prop := fun v U => v = #[Value.ref a] ∧ U.heap.size = a + 1 ∧ va_at D vwCl (a, .inr (ci, fs)) U.heap ∧ va_K D vwCl (pm_tys G) U ∧ pm_NW U ∧ va_AO "HotHall$Hall" U
def cs_Qc (D : va_G) (nb : Nat) (B : Nat → va_E) (a : Nat) : Array Value → State → Outcome → State → Prop := fun _ st o t => o = .returned none ∧ cs_P D a nb B t.heap ∧ va_F (cs_A a) st t
theorem cs_blind {ci a : Nat} {fs : List Value} : FrameBlind (cs_Pc D G ci fs a) := by
  intro v U g mk h
  obtain ⟨h1, h2, h3, h4, h5⟩ := h
  exact ⟨h1, h2, h3, va_K.moved (u := U) (U := U.calling g mk v) (Vm.Alike.refl U.vm) h4, fun q i x hm => va_Nw.same rfl (u := U) (U := U.calling g mk v) rfl (h5.1 q i x hm), va_AO.moved (u := U) (U := U.calling g mk v) (Vm.Alike.refl U.vm) h5.2⟩
theorem cs_back {mc ms nb : Nat} {B : Nat → va_E} {av : Array Value} {st0 : List Value} (hr : va_Run p l e R s m args below meth c H locs cells slots mc ms (F0 m pc ls st0) rest (cs_Qc D nb B (a0 + n) av) (cs_A (a0 + n))) (hP : cs_P D a0 (n + 1) E H) (hS : va_S (cs_A a0) H0 H locs)
    (kk : ∀ (H1 : Heap) (locs1 : List Loc), cs_P D a0 (n + nb) (cs_y E n B) H1 → va_S (cs_A a0) H0 H1 locs1 → W p l e R s m args below meth c H1 locs1 (cells + mc) (slots + ms) Q (F0 m (pc + 3) ls rest)) : W p l e R s m args below meth c H locs cells slots Q (F0 m pc ls st0) := by
  intro T hT X
  obtain ⟨v, st₀, t, T', L, h0, X', hL, e1, e2, ⟨hv, hp, hz, hk⟩, st⟩ := hr T hT X
  cases hv
  rw [h0] at hz hk
  have hbl : ∀ q : Nat, q < a0 + n → t.heap[q]? = H[q]? := fun q hq => hk q (by rw [hP.1]; omega) (fun z => by have : a0 + n ≤ q := z; omega)
  obtain ⟨t2, a1, b1⟩ := kk T'.heap (locs ++ L) ⟨by rw [e1, hp.1]; omega, fun i hi => by
      rw [e1]
      by_cases h1 : i < n
      · rw [show cs_y E n B i = E i from if_pos h1]
        exact (hP.2 i (by omega)).kept (hbl _ (show a0 + i < a0 + n by omega))
      · rw [show cs_y E n B i = B (i - n) from if_neg h1]
        have h2 := hp.2 (i - n) (by omega)
        rwa [show a0 + n + (i - n) = a0 + i by omega] at h2⟩
    ⟨Nat.le_trans hS.1 (by rw [e1]; exact hz), fun q h1 h2 => by
      rw [e1, hbl q (by have : ¬ a0 ≤ q := h2; omega)]
      exact hS.2.1 q h1 h2, fun q hq => by
      rcases List.mem_append.mp hq with h | h
      · exact hS.2.2 q h
      · have : a0 + n ≤ q.base := hL q h
        show a0 ≤ q.base
        omega⟩ T' rfl X'
  exact ⟨t2, st t2 a1, b1⟩
theorem cs_call {own : String} {index ci nL ms nb maxL : Nat} {fs : List Value} {y : MethodName} {bytes : ByteArray} {rm : Room} {B : Nat → va_E} (S : CallFix p m c cc nL s args pm_TB own) (hNW : pm_NW s ∧ va_AO "HotHall$Hall" s) (hK : va_K D vwCl (pm_tys G) s) (hP : cs_P D a0 (n + 1) E H) (hS : va_S (cs_A a0) H0 H locs) (he : E n = .inr (ci, fs))
    (hM : Met l y (Jvm.Cond.code y bytes maxL none :: pm_TB) rm (cs_Pc D G ci fs (a0 + n)) (cs_Qc D nb B (a0 + n)) (nb - 1) ms (cs_A (a0 + n))) (hcode : Jvm.Cond.code y bytes maxL none ∈ pm_TB) (hini : Jvm.Cond.initialized y.cls ∈ pm_TB) (hl : Jvm.Cond.methodLink own index y ∈ pm_TB ∨ Jvm.Cond.methodLinkNest own index y "HotHall" ∈ lw_tbl) (hin : Jvm.Cond.instanceMethod y ∈ pm_TB) (hy1 : y.name = "<init>")
    (hd : y.cls ≠ "java/lang/invoke/MethodHandle" ∧ y.cls ≠ "java/lang/invoke/VarHandle" ∧ (parseMethodDescriptor y.desc).map (fun d => d.parameters.length) = some 0) (hR : rm.frames + 1 ≤ R.frames ∧ 8 + (maxL + 11) + rm.locals ≤ R.locals) (hrc : rm.cells = nb - 1) (hrs : rm.slots = ms) (hsize : ls.size = nL) (hrest : (rest.map fun v => v.category).sum ≤ 8) (hdg : decode cc pc = .ok (.invokespecial index, 3)) (hf : cells + (nb - 1) ≤ R.cells ∧ slots + ms ≤ R.slots)
    (kk : ∀ (H1 : Heap) (locs1 : List Loc), cs_P D a0 (n + nb) (cs_y E n B) H1 → va_S (cs_A a0) H0 H1 locs1 → W p l e R s m args below meth c H1 locs1 (cells + (nb - 1)) (slots + ms) Q (F0 m (pc + 3) ls rest)) : W p l e R s m args below meth c H locs cells slots Q (F0 m pc ls (.ref (a0 + n) :: rest)) := by
  have hts := S.2.2.2.2
  have hG : GoodIn pm_TB (Jvm.Cond.code y bytes maxL none :: pm_TB) := fun w hw => (List.mem_cons.mp hw).elim (fun e => e ▸ pm_TB_good _ hcode) (pm_TB_good w)
  have h0 := hP.2 n (by omega)
  rw [he] at h0
  have hpre : PreS s H (cs_Pc D G ci fs (a0 + n)) [Value.ref (a0 + n)] := ⟨cs_blind, fun U hU hW => ⟨rfl, by rw [hU, hP.1]; omega, by rw [hU]; exact h0, va_K.moved hW.alike hK, pm_NW_go hNW.1 hW, va_AO.moved hW.alike hNW.2⟩⟩
  rcases hl with hl | hl
  · exact cs_back (va_runI (As := []) (rest := rest) S hM (cwI 0 hts hG rfl hrc hrs (hts _ hini) (hts _ hl) (hts _ hin) hy1 hd hR) hpre rfl rfl hsize rfl (lv_room hrest) hdg hf) hP hS kk
  · exact cs_back (va_runIN (As := []) (rest := rest) S hM ⟨va_cnB 0 hts hG rfl hrc hrs (hNW.1 _ _ _ hl) (hts _ hini) hd hR, hy1, hts _ hin⟩ hpre rfl rfl hsize rfl (lv_room hrest) hdg hf) hP hS kk
end CSR
