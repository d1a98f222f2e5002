/-! A pure machine over Ints: values are (tag, number): tag 0 int, 1 long, 2 + class number: an object, 1000 + 4 length + kind: an array (kind 0 int, 1 long, 2 boolean, 3 of halls), 4000000 the text constant, 5000000 nothing. A heap is (cell, place) to number. -/
abbrev pV : Type := Nat × Int
abbrev pH : Type := Int → Int → Int
abbrev pS : Type := Nat × List pV × List pV × pH
abbrev pI : Type := Instr × List Nat × List Int
abbrev pU : pV := (5000000, 0)
def pm_cat (v : pV) : Nat := if v.1 = 1 then 2 else 1
def pm_w (z : Int) : Int := Int.bmod z 4294967296
def pm_wl (z : Int) : Int := Int.bmod z 18446744073709551616
def pm_upd (h : pH) (a k v : Int) : pH := fun a' k' => if a' = a ∧ k' = k then v else h a' k'
def pm_lset : List pV → Nat → pV → List pV
  | [], _, _ => []
  | _ :: xs, 0, v => v :: (if v.1 = 1 then (match xs with
    | [] => []
    | _ :: ys => pU :: ys) else xs)
  | x :: xs, i + 1, v => (if i = 0 then (if x.1 = 1 then pU else x) else x) :: pm_lset xs i v
def pm_cnd (c : ClassFile.Cond) (x y : Int) : Bool := match c with
  | .eq => decide (x = y)
  | .ne => decide (¬ x = y)
  | .lt => decide (x < y)
  | .ge => decide (y ≤ x)
  | .gt => decide (y < x)
  | .le => decide (x ≤ y)
def pm_lcmp (x y : Int) : Int := if x < y then -1 else if x = y then 0 else 1
def pm_and (x y : Int) : Int := (Int32.ofInt x &&& Int32.ofInt y).toInt
def pm_or (x y : Int) : Int := (Int32.ofInt x ||| Int32.ofInt y).toInt
def pm_xor (x y : Int) : Int := (Int32.ofInt x ^^^ Int32.ofInt y).toInt
def pm_shl (x y : Int) : Int := (Int32.ofInt x <<< (Int32.ofInt y &&& 31)).toInt
def pm_shr (x y : Int) : Int := (Int32.ofInt x >>> (Int32.ofInt y &&& 31)).toInt
def pm_ushr (x y : Int) : Int := ((Int32.ofInt x).toUInt32 >>> ((Int32.ofInt y).toUInt32 &&& Int32.toUInt32 31)).toInt32.toInt
def pm_landl (x y : Int) : Int := (Int64.ofInt x &&& Int64.ofInt y).toInt
def pm_lorl (x y : Int) : Int := (Int64.ofInt x ||| Int64.ofInt y).toInt
def pm_lshl (x y : Int) : Int := (Int64.ofInt x <<< ((Int32.ofInt y).toInt64 &&& 63)).toInt
def pm_lushr (x y : Int) : Int := ((Int64.ofInt x).toUInt64 >>> ((Int32.ofInt y).toInt64.toUInt64 &&& Int64.toUInt64 63)).toInt64.toInt
def pm_i2c (x : Int) : Int := ((Int32.ofInt x).toUInt32 % 65536).toInt32.toInt
/-- where a character stands in the text constant gpswmf -/
def pm_ix (c : Int) : Int := if c = 103 then 0 else if c = 112 then 1 else if c = 115 then 2 else if c = 119 then 3 else if c = 109 then 4 else if c = 102 then 5 else -1
def pm_isA (kind t : Nat) : Prop := 1000 ≤ t ∧ (t - 1000) % 4 = kind ∧ t < 900000
def pm_len (t : Nat) : Int := ((t - 1000) / 4 : Nat)
def pm_push (v : pV) (s : pS) : Prop × pS := (True, (s.1 + 1, s.2.1, v :: s.2.2.1, s.2.2.2))
def pm_load (t j : Nat) (s : pS) : Prop × pS := ((s.2.1.getD j pU).1 = t, (s.1 + 1, s.2.1, s.2.1.getD j pU :: s.2.2.1, s.2.2.2))
def pm_isR (t : Nat) : Prop := 2 ≤ t ∧ t < 5000000
def pm_loadR (j : Nat) (s : pS) : Prop × pS := (pm_isR (s.2.1.getD j pU).1, (s.1 + 1, s.2.1, s.2.1.getD j pU :: s.2.2.1, s.2.2.2))
def pm_store (t j : Nat) (s : pS) : Prop × pS := match s.2.2.1 with
  | v :: st => (v.1 = t, (s.1 + 1, pm_lset s.2.1 j v, st, s.2.2.2))
  | _ => (False, s)
def pm_storeR (j : Nat) (s : pS) : Prop × pS := match s.2.2.1 with
  | v :: st => (pm_isR v.1, (s.1 + 1, pm_lset s.2.1 j v, st, s.2.2.2))
  | _ => (False, s)
def pm_inc (j : Nat) (n : Int) (s : pS) : Prop × pS := ((s.2.1.getD j pU).1 = 0, (s.1 + 1, pm_lset s.2.1 j (0, pm_w ((s.2.1.getD j pU).2 + n)), s.2.2.1, s.2.2.2))
def pm_un (t t' : Nat) (f : Int → Int) (s : pS) : Prop × pS := match s.2.2.1 with
  | v :: st => (v.1 = t, (s.1 + 1, s.2.1, (t', f v.2) :: st, s.2.2.2))
  | _ => (False, s)
def pm_bin (ty tx t' : Nat) (f : Int → Int → Int) (s : pS) : Prop × pS := match s.2.2.1 with
  | y :: x :: st => (y.1 = ty ∧ x.1 = tx, (s.1 + 1, s.2.1, (t', f x.2 y.2) :: st, s.2.2.2))
  | _ => (False, s)
def pm_binz (t : Nat) (f : Int → Int → Int) (s : pS) : Prop × pS := match s.2.2.1 with
  | y :: x :: st => (y.1 = t ∧ x.1 = t ∧ y.2 ≠ 0, (s.1 + 1, s.2.1, (t, f x.2 y.2) :: st, s.2.2.2))
  | _ => (False, s)
def pm_dup (s : pS) : Prop × pS := match s.2.2.1 with
  | v :: st => (v.1 ≠ 1, (s.1 + 1, s.2.1, v :: v :: st, s.2.2.2))
  | _ => (False, s)
def pm_pop (s : pS) : Prop × pS := match s.2.2.1 with
  | v :: st => (v.1 ≠ 1, (s.1 + 1, s.2.1, st, s.2.2.2))
  | _ => (False, s)
def pm_dup2 (s : pS) : Prop × pS := match s.2.2.1 with
  | v :: st => if v.1 = 1 then (True, (s.1 + 1, s.2.1, v :: v :: st, s.2.2.2)) else (match st with
    | w :: st' => (w.1 ≠ 1, (s.1 + 1, s.2.1, v :: w :: v :: w :: st', s.2.2.2))
    | _ => (False, s))
  | _ => (False, s)
def pm_if1 (c : ClassFile.Cond) (tgt : Nat) (s : pS) : Prop × pS := match s.2.2.1 with
  | x :: st => (x.1 = 0, (if pm_cnd c x.2 0 = true then tgt else s.1 + 1, s.2.1, st, s.2.2.2))
  | _ => (False, s)
def pm_if2 (c : ClassFile.Cond) (tgt : Nat) (s : pS) : Prop × pS := match s.2.2.1 with
  | y :: x :: st => (y.1 = 0 ∧ x.1 = 0, (if pm_cnd c x.2 y.2 = true then tgt else s.1 + 1, s.2.1, st, s.2.2.2))
  | _ => (False, s)
def pm_look : List (Int × Nat) → Nat → Int → Nat
  | [], d, _ => d
  | q :: r, d, x => if x = q.1 then q.2 else pm_look r d x
def pm_sw (lo hi : Int) (tgts : List Nat) (s : pS) : Prop × pS := match s.2.2.1 with
  | x :: st => (x.1 = 0, (if x.2 < lo ∨ hi < x.2 then tgts.getD 0 0 else tgts.getD ((x.2 - lo).toNat + 1) 0, s.2.1, st, s.2.2.2))
  | _ => (False, s)
def pm_lsw (tgts : List Nat) (keys : List Int) (s : pS) : Prop × pS := match s.2.2.1 with
  | x :: st => (x.1 = 0, (pm_look (keys.zip (tgts.drop 1)) (tgts.getD 0 0) x.2, s.2.1, st, s.2.2.2))
  | _ => (False, s)
def pm_ald (kind t' : Nat) (s : pS) : Prop × pS := match s.2.2.1 with
  | x :: a :: st => (x.1 = 0 ∧ pm_isA kind a.1 ∧ 0 ≤ x.2 ∧ x.2 < pm_len a.1, (s.1 + 1, s.2.1, (t', s.2.2.2 a.2 x.2) :: st, s.2.2.2))
  | _ => (False, s)
def pm_aldR (s : pS) : Prop × pS := match s.2.2.1 with
  | x :: a :: st => (x.1 = 0 ∧ pm_isA 3 a.1 ∧ 0 ≤ x.2 ∧ x.2 < pm_len a.1, (s.1 + 1, s.2.1, (6, 156 + 46 * x.2) :: st, s.2.2.2))
  | _ => (False, s)
def pm_ast (kind t : Nat) (s : pS) : Prop × pS := match s.2.2.1 with
  | v :: x :: a :: st => (v.1 = t ∧ x.1 = 0 ∧ pm_isA kind a.1 ∧ 0 ≤ x.2 ∧ x.2 < pm_len a.1 ∧ (kind = 2 → v.2 = 0 ∨ v.2 = 1), (s.1 + 1, s.2.1, st, pm_upd s.2.2.2 a.2 x.2 v.2))
  | _ => (False, s)
def pm_alen (s : pS) : Prop × pS := match s.2.2.1 with
  | a :: st => (1000 ≤ a.1 ∧ a.1 < 900000, (s.1 + 1, s.2.1, (0, pm_len a.1) :: st, s.2.2.2))
  | _ => (False, s)
/-- a field: nats [class, kind, tag], ints [place, offset]; kind 0 int, 1 long, 2 boolean, 3 a reference at a fixed offset, 4 a reference that the heap holds -/
def pm_getf (ns : List Nat) (zs : List Int) (s : pS) : Prop × pS := match s.2.2.1 with
  | o :: st => (o.1 = 2 + ns.getD 0 0, (s.1 + 1, s.2.1, (match ns.getD 1 0 with
      | 0 => (0, s.2.2.2 o.2 (zs.getD 0 0))
      | 1 => (1, s.2.2.2 o.2 (zs.getD 0 0))
      | 2 => (0, s.2.2.2 o.2 (zs.getD 0 0))
      | 3 => (ns.getD 2 0, o.2 + zs.getD 1 0)
      | _ => (ns.getD 2 0, s.2.2.2 o.2 (zs.getD 0 0))) :: st, s.2.2.2))
  | _ => (False, s)
def pm_putf (ns : List Nat) (zs : List Int) (s : pS) : Prop × pS := match s.2.2.1 with
  | v :: o :: st => ((match ns.getD 1 0 with
      | 0 => v.1 = 0
      | 1 => v.1 = 1
      | 2 => v.1 = 0 ∧ (v.2 = 0 ∨ v.2 = 1)
      | 3 => False
      | _ => v.1 = ns.getD 2 0) ∧ o.1 = 2 + ns.getD 0 0, (s.1 + 1, s.2.1, st, pm_upd s.2.2.2 o.2 (zs.getD 0 0) v.2))
  | _ => (False, s)
def pm_cpy (h : pH) (src sp dst dp n : Int) : pH := fun a k => if a = dst ∧ dp ≤ k ∧ k < dp + n then h src (sp + (k - dp)) else h a k
def pm_acopy (s : pS) : Prop × pS := match s.2.2.1 with
  | n :: dp :: d :: sp :: a :: st => (n.1 = 0 ∧ dp.1 = 0 ∧ sp.1 = 0 ∧ pm_isA 0 d.1 ∧ pm_isA 0 a.1 ∧ 0 ≤ n.2 ∧ 0 ≤ dp.2 ∧ 0 ≤ sp.2 ∧ dp.2 + n.2 ≤ pm_len d.1 ∧ sp.2 + n.2 ≤ pm_len a.1, (s.1 + 1, s.2.1, st, pm_cpy s.2.2.2 a.2 sp.2 d.2 dp.2 n.2))
  | _ => (False, s)
def pm_ixOf (s : pS) : Prop × pS := match s.2.2.1 with
  | c :: a :: st => (c.1 = 0 ∧ a.1 = 4000000 ∧ (st.map pm_cat).sum ≤ 8, (s.1 + 1, s.2.1, (0, pm_ix c.2) :: st, s.2.2.2))
  | _ => (False, s)
/-- library members: 0 System.arraycopy, 1 and 2 Math.max and min of ints, 3 and 4 of longs, 5 Math.floorMod -/
def pm_stl (z : Int) (s : pS) : Prop × pS :=
  if z = 0 then pm_acopy s else if z = 1 then pm_bin 0 0 0 (fun x y => if x < y then y else x) s else if z = 2 then pm_bin 0 0 0 (fun x y => if x < y then x else y) s
  else if z = 3 then pm_bin 1 1 1 (fun x y => if x < y then y else x) s else if z = 4 then pm_bin 1 1 1 (fun x y => if x < y then x else y) s else pm_binz 0 (fun x y => x.fmod y) s
def pm_sta (z : Int) (s : pS) : Prop × pS := ((pm_stl z s).1 ∧ (s.2.2.1.map pm_cat).sum ≤ 16, (pm_stl z s).2)
/-- one instruction that is no call and no return: what must hold, and the state behind it -/
def pm_step (q : pI) (s : pS) : Prop × pS := match q.1 with
  | .iconst _ => pm_push (0, q.2.2.getD 0 0) s
  | .bipush _ => pm_push (0, q.2.2.getD 0 0) s
  | .sipush _ => pm_push (0, q.2.2.getD 0 0) s
  | .ldc _ => pm_push (q.2.1.getD 0 0, q.2.2.getD 0 0) s
  | .ldc_w _ => pm_push (0, q.2.2.getD 0 0) s
  | .lconst _ => pm_push (1, q.2.2.getD 0 0) s
  | .ldc2_w _ => pm_push (1, q.2.2.getD 0 0) s
  | .iload j => pm_load 0 j s
  | .iload_n j => pm_load 0 j s
  | .lload j => pm_load 1 j s
  | .lload_n j => pm_load 1 j s
  | .aload j => pm_loadR j s
  | .aload_n j => pm_loadR j s
  | .istore j => pm_store 0 j s
  | .istore_n j => pm_store 0 j s
  | .lstore j => pm_store 1 j s
  | .lstore_n j => pm_store 1 j s
  | .astore j => pm_storeR j s
  | .astore_n j => pm_storeR j s
  | .iinc j n => pm_inc j n s
  | .iadd => pm_bin 0 0 0 (fun x y => pm_w (x + y)) s
  | .isub => pm_bin 0 0 0 (fun x y => pm_w (x - y)) s
  | .imul => pm_bin 0 0 0 (fun x y => pm_w (x * y)) s
  | .idiv => pm_binz 0 (fun x y => pm_w (x.tdiv y)) s
  | .irem => pm_binz 0 (fun x y => x.tmod y) s
  | .ineg => pm_un 0 0 (fun x => pm_w (-x)) s
  | .iand => pm_bin 0 0 0 pm_and s
  | .ior => pm_bin 0 0 0 pm_or s
  | .ixor => pm_bin 0 0 0 pm_xor s
  | .ishl => pm_bin 0 0 0 pm_shl s
  | .ishr => pm_bin 0 0 0 pm_shr s
  | .iushr => pm_bin 0 0 0 pm_ushr s
  | .ladd => pm_bin 1 1 1 (fun x y => pm_wl (x + y)) s
  | .lsub => pm_bin 1 1 1 (fun x y => pm_wl (x - y)) s
  | .lmul => pm_bin 1 1 1 (fun x y => pm_wl (x * y)) s
  | .ldiv => pm_binz 1 (fun x y => pm_wl (x.tdiv y)) s
  | .lrem => pm_binz 1 (fun x y => x.tmod y) s
  | .lneg => pm_un 1 1 (fun x => pm_wl (-x)) s
  | .land => pm_bin 1 1 1 pm_landl s
  | .lor => pm_bin 1 1 1 pm_lorl s
  | .lshl => pm_bin 0 1 1 pm_lshl s
  | .lushr => pm_bin 0 1 1 pm_lushr s
  | .lcmp => pm_bin 1 1 0 pm_lcmp s
  | .i2l => pm_un 0 1 (fun x => x) s
  | .l2i => pm_un 1 0 pm_w s
  | .i2c => pm_un 0 0 pm_i2c s
  | .dup => pm_dup s
  | .pop => pm_pop s
  | .dup2 => pm_dup2 s
  | .ifCond c _ => pm_if1 c (q.2.1.getD 0 0) s
  | .if_icmp c _ => pm_if2 c (q.2.1.getD 0 0) s
  | .goto _ => (True, (q.2.1.getD 0 0, s.2.1, s.2.2.1, s.2.2.2))
  | .tableswitch _ lo hi _ => pm_sw lo hi q.2.1 s
  | .lookupswitch _ _ => pm_lsw q.2.1 q.2.2 s
  | .iaload => pm_ald 0 0 s
  | .laload => pm_ald 1 1 s
  | .baload => pm_ald 2 0 s
  | .aaload => pm_aldR s
  | .iastore => pm_ast 0 0 s
  | .lastore => pm_ast 1 1 s
  | .bastore => pm_ast 2 0 s
  | .arraylength => pm_alen s
  | .getfield _ => pm_getf q.2.1 q.2.2 s
  | .putfield _ => pm_putf q.2.1 q.2.2 s
  | .invokestatic _ => pm_sta (q.2.2.getD 0 0) s
  | .invokevirtual _ => pm_ixOf s
  | _ => (False, s)
/-- a call's method (nats [number]) -/
def pm_call (q : pI) : Option Nat := match q.1 with
  | .invokestatic _ => q.2.1.head?
  | .invokevirtual _ => q.2.1.head?
  | _ => none
/-- a return: 0 void, 1 int, 2 boolean, 3 long -/
def pm_retK (q : pI) : Option Nat := match q.1 with
  | .return_ => some 0
  | .ireturn => some (q.2.1.getD 0 1)
  | .lreturn => some 3
  | _ => none
def pm_args : List pV → List pV
  | [] => []
  | v :: r => if v.1 = 1 then v :: pU :: pm_args r else v :: pm_args r
def pm_pad (n : Nat) (l : List pV) : List pV := l ++ List.replicate (n - l.length) pU
def pm_retOk (k : Nat) (st : List pV) : Prop := match k, st with
  | 0, [] => True
  | 1, [v] => v.1 = 0
  | 2, [v] => v.1 = 0 ∧ (v.2 = 0 ∨ v.2 = 1)
  | 3, [v] => v.1 = 1
  | _, _ => False
