/-! THE SMALL MACHINE: a run of the tables' code over a memory of numbered cells, by fuel. Values: an int, a long, a cell's number or null, a thing outside (0 the script, 1+2j the text j, 2+2j its bytes, 1000 a value that is passed on alone). -/
abbrev am_V : Type := Int ⊕ (Int ⊕ (Option Nat ⊕ Nat))
/-- kinds and sizes of the cells, their ints, longs, references. Kinds: 0 .. 12 an object of that number, 20 int[], 21 long[], 22 boolean[], 23 int[][], 24 members -/
abbrev am_M : Type := List (Nat × Nat) × (Nat → Nat → Int) × (Nat → Nat → Int) × (Nat → Nat → Option Nat)
abbrev am_R : Type := Option am_V × am_M
abbrev am_K : Type := Nat → Nat → Nat → List (Nat × am_V) → List am_V → am_M → Option am_R
def am_ins (mid pc : Nat) : Option am_I := (am_code.getD mid []).getD pc none
def am_y (mid : Nat) : MethodName := (am_ms.getD mid (objectInit, object_method_1_code, 1, none)).1
def am_b (mid : Nat) : ByteArray := (am_ms.getD mid (objectInit, object_method_1_code, 1, none)).2.1
def am_l (mid : Nat) : Nat := (am_ms.getD mid (objectInit, object_method_1_code, 1, none)).2.2.1
def am_r (mid : Nat) : Option FieldType := (am_ms.getD mid (objectInit, object_method_1_code, 1, none)).2.2.2
def am_F (x c : Nat) : Option Nat := match am_fl[x]? with
  | some q => q.2.2.2.lookup c
  | none => none
def am_N (x : Nat) : Nat := match am_cl[x]? with
  | some q => q.2.2.1
  | none => 0
def am_T (x c : Nat) : Option Nat := match am_cl[x]? with
  | some q => q.2.2.2.lookup c
  | none => none
def am_ft (c f : Nat) : Nat := (am_fts.getD c []).getD f 9
def am_nf (c : Nat) : Nat := (am_fts.getD c []).length
def am_w (z : Int) : Int := (Int32.ofInt z).toInt
def am_cat (v : am_V) : Nat := match v with
  | .inr (.inl _) => 2
  | _ => 1
def am_st1 (lv : List (Nat × am_V)) (i : Nat) (v : am_V) : List (Nat × am_V) := (i, v) :: lv.filter (fun q => !(q.1 == i) && !(q.1 + 1 == i && am_cat q.2 == 2))
def am_st2 (lv : List (Nat × am_V)) (i : Nat) (v : am_V) : List (Nat × am_V) := (i, v) :: lv.filter (fun q => !(q.1 == i) && (!(q.1 == i + 1) && !(q.1 + 1 == i && am_cat q.2 == 2)))
def am_ldi (lv : List (Nat × am_V)) (i : Nat) : Option Int := match lv.lookup i with
  | some (.inl v) => some v
  | _ => none
def am_ldj (lv : List (Nat × am_V)) (i : Nat) : Option Int := match lv.lookup i with
  | some (.inr (.inl v)) => some v
  | _ => none
def am_lda (lv : List (Nat × am_V)) (i : Nat) : Option (Option Nat ⊕ Nat) := match lv.lookup i with
  | some (.inr (.inr v)) => some v
  | _ => none
def am_args : Nat → List am_V → List (Nat × am_V)
  | _, [] => []
  | i, v :: vs => (i, v) :: am_args (if am_cat v = 2 then i + 2 else i + 1) vs
def am_cats (st : List am_V) : Nat := (st.map am_cat).sum
def am_gf (M : am_M) (c k f : Nat) : am_V := match am_ft c f with
  | 0 => .inl (M.2.1 k f)
  | 3 => .inl (M.2.1 k f)
  | 1 => .inr (.inl (M.2.2.1 k f))
  | _ => .inr (.inr (.inl (M.2.2.2 k f)))
def am_up {α : Type} (f : Nat → Nat → α) (k i : Nat) (v : α) : Nat → Nat → α := fun k' i' => if k' = k ∧ i' = i then v else f k' i'
def am_z {α : Type} (f : Nat → Nat → α) (k : Nat) (v : α) : Nat → Nat → α := fun k' i' => if k' = k then v else f k' i'
def am_pI (M : am_M) (k i : Nat) (v : Int) : am_M := (M.1, am_up M.2.1 k i v, M.2.2.1, M.2.2.2)
def am_pJ (M : am_M) (k i : Nat) (v : Int) : am_M := (M.1, M.2.1, am_up M.2.2.1 k i v, M.2.2.2)
def am_pR (M : am_M) (k i : Nat) (v : Option Nat) : am_M := (M.1, M.2.1, M.2.2.1, am_up M.2.2.2 k i v)
/-- a value into a field of a kind: what the memory is then -/
def am_pf (M : am_M) (c k f : Nat) (v : am_V) : Option am_M := match am_ft c f, v with
  | 0, .inl z => some (am_pI M k f z)
  | 3, .inl z => if z = 0 ∨ z = 1 then some (am_pI M k f z) else none
  | 2, .inr (.inr (.inl r)) => some (am_pR M k f r)
  | _, _ => none
/-- a new cell behind all others -/
def am_nw (M : am_M) (s : Nat × Nat) : am_M := (M.1 ++ [s], am_z M.2.1 M.1.length 0, am_z M.2.2.1 M.1.length 0, am_z M.2.2.2 M.1.length none)
/-- n rows of k ints under one cell of n references -/
def am_mna (M : am_M) (n k : Nat) : am_M := (M.1 ++ (23, n) :: List.replicate n (20, k),
  (fun q i => if M.1.length ≤ q ∧ q < M.1.length + 1 + n then 0 else M.2.1 q i),
  (fun q i => if M.1.length ≤ q ∧ q < M.1.length + 1 + n then 0 else M.2.2.1 q i),
  (fun q i => if M.1.length ≤ q ∧ q < M.1.length + 1 + n then (if q = M.1.length ∧ i < n then some (M.1.length + 1 + i) else none) else M.2.2.2 q i))
def am_in (j : Int) (n : Nat) : Prop := 0 ≤ j ∧ j < n ∧ j < 10000
theorem am_in_dec (j : Int) (n : Nat) : am_in j n ↔ (decide (0 ≤ j) && (decide (j < n) && decide (j < 10000))) = true := by
  unfold am_in; simp
def am_inb (j : Int) (n : Nat) : Bool := decide (0 ≤ j) && (decide (j < n) && decide (j < 10000))
def am_cd (c : ClassFile.Cond) (a b : Int) : Bool := match c with
  | .eq => decide (a = b)
  | .ne => decide (¬ a = b)
  | .lt => decide (a < b)
  | .ge => decide (b ≤ a)
  | .gt => decide (b < a)
  | .le => decide (a ≤ b)
def am_i2 (K : am_K) (d mid pc : Nat) (lv : List (Nat × am_V)) (st : List am_V) (M : am_M) (f : Int → Int → Option Int) : Option am_R := match st with
  | .inl y :: .inl z :: st => match f z y with
    | some v => K d mid pc lv (.inl v :: st) M
    | none => none
  | _ => none
def am_j2 (K : am_K) (d mid pc : Nat) (lv : List (Nat × am_V)) (st : List am_V) (M : am_M) (f : Int → Int → Option Int) : Option am_R := match st with
  | .inr (.inl y) :: .inr (.inl z) :: st => match f z y with
    | some v => K d mid pc lv (.inr (.inl v) :: st) M
    | none => none
  | _ => none
def am_call (K : am_K) (d mid pc : Nat) (lv : List (Nat × am_V)) (rest : List am_V) (M : am_M) (mid' : Nat) (as : List am_V) : Option am_R := match d with
  | 0 => none
  | d + 1 => if am_cats rest ≤ 8 ∧ am_cats as ≤ am_l mid' then match K d mid' 0 (am_args 0 as) [] M with
      | some r => K (d + 1) mid pc lv (r.1.toList ++ rest) r.2
      | none => none
    else none
/-- what a method of that type may hand back -/
def am_rok (mid : Nat) (v : Option am_V) : Bool := match am_r mid, v with
  | none, none => true
  | some .int, some (.inl _) => true
  | some .boolean, some (.inl z) => decide (z = 0) || decide (z = 1)
  | some .char, some (.inl z) => decide (0 ≤ z) && decide (z < 65536)
  | some .byte, some (.inl z) => decide (-128 ≤ z) && decide (z < 128)
  | some .long, some (.inr (.inl _)) => true
  | some (.object _), some (.inr (.inr _)) => true
  | _, _ => false
def am_ret (mid : Nat) (v : Option am_V) (M : am_M) : Option am_R := if am_rok mid v = true then some (v, M) else none
def am_op (i : Instr) : Option (Int → Int → Option Int) := match i with
  | .iadd => some fun z y => some (z + y)
  | .isub => some fun z y => some (z - y)
  | .imul => some fun z y => some (z * y)
  | .iand => some fun z y => some (Int32.ofInt z &&& Int32.ofInt y).toInt
  | .ior => some fun z y => some (Int32.ofInt z ||| Int32.ofInt y).toInt
  | .ixor => some fun z y => some (Int32.ofInt z ^^^ Int32.ofInt y).toInt
  | .ishl => some fun z y => some (Int32.ofInt z <<< (Int32.ofInt y &&& 31)).toInt
  | .ishr => some fun z y => some (Int32.ofInt z >>> (Int32.ofInt y &&& 31)).toInt
  | .iushr => some fun z y => some ((Int32.ofInt z).toUInt32 >>> ((Int32.ofInt y).toUInt32 &&& Int32.toUInt32 31)).toInt32.toInt
  | .idiv => some fun z y => if Int32.ofInt y = 0 then none else some (Int32.ofInt z / Int32.ofInt y).toInt
  | .irem => some fun z y => if Int32.ofInt y = 0 then none else some (Int32.ofInt z - Int32.ofInt z / Int32.ofInt y * Int32.ofInt y).toInt
  | _ => none
def am_opj (i : Instr) : Option (Int → Int → Option Int) := match i with
  | .ladd => some fun z y => some (z + y)
  | .lmul => some fun z y => some (z * y)
  | .ldiv => some fun z y => if Int64.ofInt y = 0 then none else some (Int64.ofInt z / Int64.ofInt y).toInt
  | .lrem => some fun z y => if Int64.ofInt y = 0 then none else some (Int64.ofInt z - Int64.ofInt z / Int64.ofInt y * Int64.ofInt y).toInt
  | _ => none
def am_kd (M : am_M) (v : am_V) : Option Nat := match v with
  | .inr (.inr (.inl (some k))) => match M.1[k]? with
    | some s => if s.1 < 13 then some s.1 else none
    | none => none
  | .inr (.inr (.inr e)) => if e % 2 = 1 ∧ e < 21 then some 13 else none
  | _ => none
/-- which of the own kinds a value of kind c may be taken for: by the words of the launch -/
def am_io (x c : Nat) : Option Bool := match x with
  | 5 => some (c == 5 || c == 2)
  | 6 => some (c == 6 || c == 9)
  | 8 => some (c == 8 || c == 0)
  | _ => none
def am_mem (c : Nat) : Bool := c == 0 || c == 2 || c == 4 || c == 5 || c == 6 || c == 8 || c == 9
/-- the instructions that make one step: the next place, locals, stack, memory -/
def am_s (X : Nat × (Nat → Int)) (pc : Nat) (lv : List (Nat × am_V)) (st : List am_V) (M : am_M) (i : Instr) (n x : Nat) : Option (Nat × List (Nat × am_V) × List am_V × am_M) :=
  match i with
  | .iconst v => some (pc + n, lv, .inl v :: st, M)
  | .bipush v => some (pc + n, lv, .inl v :: st, M)
  | .sipush v => some (pc + n, lv, .inl v :: st, M)
  | .lconst v => some (pc + n, lv, .inr (.inl ((v : Nat) : Int)) :: st, M)
  | .iload_n k => (am_ldi lv k).map fun v => (pc + n, lv, .inl v :: st, M)
  | .iload k => (am_ldi lv k).map fun v => (pc + n, lv, .inl v :: st, M)
  | .lload_n k => (am_ldj lv k).map fun v => (pc + n, lv, .inr (.inl v) :: st, M)
  | .lload k => (am_ldj lv k).map fun v => (pc + n, lv, .inr (.inl v) :: st, M)
  | .aload_n k => (am_lda lv k).map fun v => (pc + n, lv, .inr (.inr v) :: st, M)
  | .aload k => (am_lda lv k).map fun v => (pc + n, lv, .inr (.inr v) :: st, M)
  | .istore_n k => match st with
    | .inl v :: st => some (pc + n, am_st1 lv k (.inl v), st, M)
    | _ => none
  | .istore k => match st with
    | .inl v :: st => some (pc + n, am_st1 lv k (.inl v), st, M)
    | _ => none
  | .lstore_n k => match st with
    | .inr (.inl v) :: st => some (pc + n, am_st2 lv k (.inr (.inl v)), st, M)
    | _ => none
  | .lstore k => match st with
    | .inr (.inl v) :: st => some (pc + n, am_st2 lv k (.inr (.inl v)), st, M)
    | _ => none
  | .astore_n k => match st with
    | .inr (.inr (.inl (some v))) :: st => some (pc + n, am_st1 lv k (.inr (.inr (.inl (some v)))), st, M)
    | _ => none
  | .astore k => match st with
    | .inr (.inr (.inl (some v))) :: st => some (pc + n, am_st1 lv k (.inr (.inr (.inl (some v)))), st, M)
    | _ => none
  | .iinc k v => (am_ldi lv k).map fun z => (pc + n, am_st1 lv k (.inl (z + v)), st, M)
  | .ineg => match st with
    | .inl z :: st => some (pc + n, lv, .inl (-z) :: st, M)
    | _ => none
  | .i2l => match st with
    | .inl z :: st => some (pc + n, lv, .inr (.inl (am_w z)) :: st, M)
    | _ => none
  | .i2c => match st with
    | .inl z :: st => some (pc + n, lv, .inl ((Int32.ofInt z).toUInt32 % 65536).toInt32.toInt :: st, M)
    | _ => none
  | .lcmp => match st with
    | .inr (.inl y) :: .inr (.inl z) :: st => some (pc + n, lv, .inl (lg_cmp (Int64.ofInt z) (Int64.ofInt y)).toInt :: st, M)
    | _ => none
  | .dup => match st with
    | v :: st => if am_cat v = 1 then some (pc + n, lv, v :: v :: st, M) else none
    | _ => none
  | .dup2 => match st with
    | v :: w :: st => if am_cat v = 1 ∧ am_cat w = 1 then some (pc + n, lv, v :: w :: v :: w :: st, M) else none
    | _ => none
  | .pop => match st with
    | v :: st => if am_cat v = 1 then some (pc + n, lv, st, M) else none
    | _ => none
  | .goto _ => some (x, lv, st, M)
  | .ifCond c _ => match st with
    | .inl z :: st => if am_cd c (am_w z) 0 = true then some (x, lv, st, M) else some (pc + n, lv, st, M)
    | _ => none
  | .if_icmp c _ => match st with
    | .inl y :: .inl z :: st => if am_cd c (am_w z) (am_w y) = true then some (x, lv, st, M) else some (pc + n, lv, st, M)
    | _ => none
  | .tableswitch dflt lo hi offs => match st with
    | .inl z :: st => if am_w z < lo ∨ hi < am_w z then some (((pc : Int) + dflt).toNat, lv, st, M) else match offs[(am_w z - lo).toNat]? with
      | some off => some (((pc : Int) + off).toNat, lv, st, M)
      | none => none
    | _ => none
  | .lookupswitch dflt ps => match st with
    | .inl z :: st => some (((pc : Int) + Op.lookupswitch.offset ps.toList dflt (am_w z)).toNat, lv, st, M)
    | _ => none
  | .ldc _ => some (pc + n, lv, .inr (.inr (.inr x)) :: st, M)
  | .ldc_w _ => some (pc + n, lv, .inl x :: st, M)
  | .ldc2_w _ => some (pc + n, lv, .inr (.inl (am_lcs.getD x 0)) :: st, M)
  | .getstatic _ => match x with
    | 0 => some (pc + n, lv, .inl 1 :: st, M)
    | _ => some (pc + n, lv, .inr (.inr (.inr 1000)) :: st, M)
  | .getfield _ => match st with
    | .inr (.inr (.inl (some k))) :: st => match M.1[k]? with
      | some s => match am_F x s.1 with
        | some f => if s.1 < 13 ∧ f < s.2 then some (pc + n, lv, am_gf M s.1 k f :: st, M) else none
        | none => none
      | none => none
    | .inr (.inr (.inr e)) :: st => if e % 2 = 1 ∧ e < 21 then match am_F x 13 with
        | some 0 => some (pc + n, lv, .inr (.inr (.inr (e + 1))) :: st, M)
        | some 1 => some (pc + n, lv, .inl 0 :: st, M)
        | _ => none
      else none
    | _ => none
  | .putfield _ => match st with
    | v :: .inr (.inr (.inl (some k))) :: st => match M.1[k]? with
      | some s => match am_F x s.1 with
        | some f => if s.1 < 13 ∧ f < s.2 then (am_pf M s.1 k f v).map fun M' => (pc + n, lv, st, M') else none
        | none => none
      | none => none
    | _ => none
  | .arraylength => match st with
    | .inr (.inr (.inl (some k))) :: st => match M.1[k]? with
      | some s => if 20 ≤ s.1 ∧ s.1 < 25 then some (pc + n, lv, .inl s.2 :: st, M) else none
      | none => none
    | .inr (.inr (.inr e)) :: st => if e = 0 then some (pc + n, lv, .inl X.1 :: st, M) else if e % 2 = 0 ∧ e < 22 then some (pc + n, lv, .inl (am_strs.getD (e / 2 - 1) []).length :: st, M) else none
    | _ => none
  | .iaload => match st with
    | .inl j :: .inr (.inr (.inl (some k))) :: st => match M.1[k]? with
      | some s => if s.1 = 20 ∧ am_inb j s.2 = true then some (pc + n, lv, .inl (M.2.1 k j.toNat) :: st, M) else none
      | none => none
    | .inl j :: .inr (.inr (.inr e)) :: st => if e = 0 ∧ am_inb j X.1 = true then some (pc + n, lv, .inl (X.2 j.toNat) :: st, M) else none
    | _ => none
  | .baload => match st with
    | .inl j :: .inr (.inr (.inl (some k))) :: st => match M.1[k]? with
      | some s => if s.1 = 22 ∧ am_inb j s.2 = true then some (pc + n, lv, .inl (M.2.1 k j.toNat) :: st, M) else none
      | none => none
    | .inl j :: .inr (.inr (.inr e)) :: st => if e % 2 = 0 ∧ 0 < e ∧ e < 22 ∧ am_inb j (am_strs.getD (e / 2 - 1) []).length = true then some (pc + n, lv, .inl ((am_strs.getD (e / 2 - 1) []).getD j.toNat 0) :: st, M) else none
    | _ => none
  | .laload => match st with
    | .inl j :: .inr (.inr (.inl (some k))) :: st => match M.1[k]? with
      | some s => if s.1 = 21 ∧ am_inb j s.2 = true then some (pc + n, lv, .inr (.inl (M.2.2.1 k j.toNat)) :: st, M) else none
      | none => none
    | _ => none
  | .aaload => match st with
    | .inl j :: .inr (.inr (.inl (some k))) :: st => match M.1[k]? with
      | some s => if (s.1 = 23 ∨ s.1 = 24) ∧ am_inb j s.2 = true then some (pc + n, lv, .inr (.inr (.inl (M.2.2.2 k j.toNat))) :: st, M) else none
      | none => none
    | _ => none
  | .iastore => match st with
    | .inl v :: .inl j :: .inr (.inr (.inl (some k))) :: st => match M.1[k]? with
      | some s => if s.1 = 20 ∧ am_inb j s.2 = true then some (pc + n, lv, st, am_pI M k j.toNat v) else none
      | none => none
    | _ => none
  | .bastore => match st with
    | .inl v :: .inl j :: .inr (.inr (.inl (some k))) :: st => match M.1[k]? with
      | some s => if s.1 = 22 ∧ am_inb j s.2 = true ∧ (v = 0 ∨ v = 1) then some (pc + n, lv, st, am_pI M k j.toNat v) else none
      | none => none
    | _ => none
  | .lastore => match st with
    | .inr (.inl v) :: .inl j :: .inr (.inr (.inl (some k))) :: st => match M.1[k]? with
      | some s => if s.1 = 21 ∧ am_inb j s.2 = true then some (pc + n, lv, st, am_pJ M k j.toNat v) else none
      | none => none
    | _ => none
  | .aastore => match st with
    | .inr (.inr (.inl (some v))) :: .inl j :: .inr (.inr (.inl (some k))) :: st => match M.1[k]?, M.1[v]? with
      | some s, some sv => if s.1 = 24 ∧ am_inb j s.2 = true ∧ am_mem sv.1 = true then some (pc + n, lv, st, am_pR M k j.toNat (some v)) else none
      | _, _ => none
    | _ => none
  | .new _ => if x < 13 then some (pc + n, lv, .inr (.inr (.inl (some M.1.length))) :: st, am_nw M (x, am_nf x)) else none
  | .newarray t => match st with
    | .inl k :: st => if 0 ≤ k ∧ k ≤ 10000 then match t with
        | .int => some (pc + n, lv, .inr (.inr (.inl (some M.1.length))) :: st, am_nw M (20, k.toNat))
        | .long => some (pc + n, lv, .inr (.inr (.inl (some M.1.length))) :: st, am_nw M (21, k.toNat))
        | .boolean => some (pc + n, lv, .inr (.inr (.inl (some M.1.length))) :: st, am_nw M (22, k.toNat))
        | _ => none
      else none
    | _ => none
  | .anewarray _ => match st with
    | .inl k :: st => if 0 ≤ k ∧ k ≤ 10000 then some (pc + n, lv, .inr (.inr (.inl (some M.1.length))) :: st, am_nw M (24, k.toNat)) else none
    | _ => none
  | .multianewarray _ _ => match st with
    | .inl k :: .inl q :: st => if 0 ≤ k ∧ k ≤ 10000 ∧ 0 ≤ q ∧ q ≤ 10000 then some (pc + n, lv, .inr (.inr (.inl (some M.1.length))) :: st, am_mna M q.toNat k.toNat) else none
    | _ => none
  | .instanceof _ => match st with
    | .inr (.inr (.inl (some k))) :: st => match M.1[k]? with
      | some s => if am_mem s.1 = true then (am_io x s.1).map fun b => (pc + n, lv, .inl (if b then 1 else 0) :: st, M) else none
      | none => none
    | _ => none
  | i => match am_op i with
    | some f => match st with
      | .inl y :: .inl z :: st => (f z y).map fun v => (pc + n, lv, .inl v :: st, M)
      | _ => none
    | none => match am_opj i with
      | some f => match st with
        | .inr (.inl y) :: .inr (.inl z) :: st => (f z y).map fun v => (pc + n, lv, .inr (.inl v) :: st, M)
        | _ => none
      | none => none
/-- System.arraycopy over rows of ints -/
def am_cp (M : am_M) (st : List am_V) : Option (List am_V × am_M) := match st with
  | .inl n :: .inl dp :: .inr (.inr (.inl (some k))) :: .inl sp :: .inr (.inr (.inl (some q))) :: st => match M.1[k]?, M.1[q]? with
    | some s, some t => if s.1 = 20 ∧ t.1 = 20 ∧ 0 ≤ n ∧ 0 ≤ dp ∧ 0 ≤ sp ∧ sp + n ≤ t.2 ∧ dp + n ≤ s.2 ∧ sp + n ≤ 10000 ∧ dp + n ≤ 10000 ∧ am_cats st ≤ 8 then
        some (st, (M.1, (fun c i => if c = k ∧ (dp.toNat ≤ i ∧ i < dp.toNat + n.toNat) then M.2.1 q (sp.toNat + (i - dp.toNat)) else M.2.1 c i), M.2.2.1, M.2.2.2))
      else none
    | _, _ => none
  | _ => none
/-- one instruction, what comes behind it by K -/
def am_x (X : Nat × (Nat → Int)) (K : am_K) (d mid pc : Nat) (lv : List (Nat × am_V)) (st : List am_V) (M : am_M) (i : Instr) (n x : Nat) : Option am_R :=
  match i with
  | .ireturn => match st with
    | [.inl v] => am_ret mid (some (.inl v)) M
    | _ => none
  | .lreturn => match st with
    | [.inr (.inl v)] => am_ret mid (some (.inr (.inl v))) M
    | _ => none
  | .areturn => match st with
    | [.inr (.inr v)] => am_ret mid (some (.inr (.inr v))) M
    | _ => none
  | .return_ => match st with
    | [] => am_ret mid none M
    | _ => none
  | .invokestatic _ => match am_T x 0 with
    | some t => if am_N x ≤ st.length then am_call K d mid (pc + n) lv (st.drop (am_N x)) M t (st.take (am_N x)).reverse else none
    | none => match am_N x with
      | 5 => match d with
        | 0 => none
        | d + 1 => match am_cp M st with
          | some q => K (d + 1) mid (pc + n) lv q.1 q.2
          | none => none
      | _ => none
  | .invokespecial _ => match st.drop (am_N x) with
    | v :: rest => match am_kd M v with
      | some _ => match am_T x 0 with
        | some t => if t = am_oi then (match d with
            | 0 => none
            | d + 1 => if am_cats rest ≤ 8 ∧ am_N x = 0 then K (d + 1) mid (pc + n) lv rest M else none)
          else if am_N x ≤ st.length then am_call K d mid (pc + n) lv rest M t (v :: (st.take (am_N x)).reverse) else none
        | none => none
      | none => none
    | [] => none
  | .invokevirtual _ => match st.drop (am_N x) with
    | v :: rest => match am_kd M v with
      | some c => match am_T x c with
        | some t => if am_N x ≤ st.length then am_call K d mid (pc + n) lv rest M t (v :: (st.take (am_N x)).reverse) else none
        | none => none
      | none => none
    | [] => none
  | i => match am_s X pc lv st M i n x with
    | some q => K d mid q.1 q.2.1 q.2.2.1 q.2.2.2
    | none => none
def am_step (X : Nat × (Nat → Int)) (K : am_K) : am_K := fun d mid pc lv st M => match am_ins mid pc with
  | some q => am_x X K d mid pc lv st M q.1 q.2.1 q.2.2
  | none => none
/-- the run by fuel -/
def am_run (X : Nat × (Nat → Int)) : Nat → am_K := fun n => Nat.rec (fun _ _ _ _ _ _ => none) (fun _ K => am_step X K) n
theorem am_run_succ (X : Nat × (Nat → Int)) (n : Nat) : am_run X (n + 1) = am_step X (am_run X n) := rfl
