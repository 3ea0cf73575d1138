/-! ===== the small machine: its memory, its values, one instruction at a time ===== -/
/-- memory: the cells' shapes (a class below 13 and its slots, or the tag of an array and its length), ints, longs, references -/
abbrev mM : Type := List (Nat × Nat) × (Nat → Nat → Int32) × (Nat → Nat → Int64) × (Nat → Nat → Option Nat)
/-- a frame: where it is, its locals, its stack, the memory -/
abbrev mF : Type := Nat × List (Nat × Value) × List Value × mM
def m2 {α : Type} (f : Nat → Nat → α) (p i : Nat) (v : α) : Nat → Nat → α := fun q => if q = p then va_up (f q) i v else f q
def msI (M : mM) (p i : Nat) (v : Int32) : mM := (M.1, m2 M.2.1 p i v, M.2.2.1, M.2.2.2)
def msL (M : mM) (p i : Nat) (v : Int64) : mM := (M.1, M.2.1, m2 M.2.2.1 p i v, M.2.2.2)
def msR (M : mM) (p i : Nat) (v : Option Nat) : mM := (M.1, M.2.1, M.2.2.1, m2 M.2.2.2 p i v)
def mcpy (M : mM) (p q sp dp n : Nat) : mM := (M.1, (fun r => if r = q then va_cpy (M.2.1 p) (M.2.1 q) sp dp n else M.2.1 r), M.2.2.1, M.2.2.2)
def mnew (M : mM) (t n : Nat) : mM := (M.1 ++ [(t, n)], (fun q => if q = M.1.length then fun _ => 0 else M.2.1 q), (fun q => if q = M.1.length then fun _ => 0 else M.2.2.1 q), fun q => if q = M.1.length then fun _ => none else M.2.2.2 q)
def mSz (M : mM) : Nat := (M.1.map (fun s => s.2)).sum
def mget : List (Nat × Value) → Nat → Option Value
  | [], _ => none
  | q :: r, i => if q.1 = i then some q.2 else mget r i
def mput1 (l : List (Nat × Value)) (i : Nat) (v : Value) : List (Nat × Value) := (i, v) :: l.filter (fun q => !(q.1 == i) && !(q.1 + 1 == i && q.2.category == 2))
def mput2 (l : List (Nat × Value)) (i : Nat) (v : Value) : List (Nat × Value) := (i, v) :: l.filter (fun q => !(q.1 == i) && (!(q.1 == i + 1) && !(q.1 + 1 == i && q.2.category == 2)))
/-- what kind of value: int 0, long 1, reference 2 -/
def mkv : Value → Nat
  | .int _ => 0
  | .long _ => 1
  | .ref _ => 2
  | .null => 2
  | _ => 9
/-- what kind of field -/
def mkf : FieldType → Nat
  | .long => 1
  | .object _ => 2
  | .array _ => 2
  | _ => 0
/-- the fields of a class: how many -/
def mm_N (t : Nat) : Nat := match mm_cls[t]? with
  | some q => q.2.2
  | none => 0
/-- the arrays' tags -/
def mm_aty (t : Nat) : Option FieldType := match t with
  | 20 => some .int
  | 21 => some .byte
  | 22 => some .boolean
  | 23 => some .long
  | 24 => some (.object "GraveRails$Rule")
  | 25 => some (.object "GraveRails$World")
  | 26 => some (.object "GraveRails$State")
  | _ => none
/-- the class whose objects an array of references holds -/
def mm_ac (t : Nat) : Nat := match t with
  | 24 => 3
  | 25 => 9
  | _ => 7
def mscr : Nat := 1000000
def mstr : Nat := 2000000
def mbo (ty : FieldType) (x : Int32) : Bool := match ty with
  | .boolean => x == 0 || x == 1
  | .int => true
  | _ => false
def mVp (M : mM) (p : Nat) (ty : FieldType) (k : Nat) : Value := match mkf ty with
  | 0 => .int (M.2.1 p k)
  | 1 => .long (M.2.2.1 p k)
  | _ => va_rf (M.2.2.2 p k)
def mcond (c : ClassFile.Cond) (x y : Int32) : Bool := match c with
  | .eq => decide (x = y)
  | .ne => decide (¬ x = y)
  | .lt => decide (x < y)
  | .ge => decide (y ≤ x)
  | .gt => decide (y < x)
  | .le => decide (x ≤ y)
def mxin (i : Int32) (n : Nat) : Bool := decide (¬ (i < 0 ∨ n ≤ i.toNatClampNeg))
-- pieces of instructions
def mq_push (nx : Nat) (v : Value) (f : mF) : Option mF := some (nx, f.2.1, v :: f.2.2.1, f.2.2.2)
def mq_ld (kd i nx : Nat) (f : mF) : Option mF := match mget f.2.1 i with
  | some v => if mkv v = kd then some (nx, f.2.1, v :: f.2.2.1, f.2.2.2) else none
  | none => none
def mq_st (kd i nx : Nat) (f : mF) : Option mF := match f.2.2.1 with
  | v :: r => if mkv v = kd then some (nx, (if kd = 1 then mput2 f.2.1 i v else mput1 f.2.1 i v), r, f.2.2.2) else none
  | [] => none
def mq_b (g : Int32 → Int32 → Int32) (nx : Nat) (f : mF) : Option mF := match f.2.2.1 with
  | .int y :: .int x :: r => some (nx, f.2.1, .int (g x y) :: r, f.2.2.2)
  | _ => none
def mq_bz (g : Int32 → Int32 → Int32) (nx : Nat) (f : mF) : Option mF := match f.2.2.1 with
  | .int y :: .int x :: r => if y = 0 then none else some (nx, f.2.1, .int (g x y) :: r, f.2.2.2)
  | _ => none
def mq_l (g : Int64 → Int64 → Int64) (nx : Nat) (f : mF) : Option mF := match f.2.2.1 with
  | .long y :: .long x :: r => some (nx, f.2.1, .long (g x y) :: r, f.2.2.2)
  | _ => none
def mq_lz (g : Int64 → Int64 → Int64) (nx : Nat) (f : mF) : Option mF := match f.2.2.1 with
  | .long y :: .long x :: r => if y = 0 then none else some (nx, f.2.1, .long (g x y) :: r, f.2.2.2)
  | _ => none
def mq_lcmp (nx : Nat) (f : mF) : Option mF := match f.2.2.1 with
  | .long y :: .long x :: r => some (nx, f.2.1, .int (lg_cmp x y) :: r, f.2.2.2)
  | _ => none
def mq_lshl (nx : Nat) (f : mF) : Option mF := match f.2.2.1 with
  | .int y :: .long x :: r => some (nx, f.2.1, .long (x <<< (y.toInt64 &&& 63)) :: r, f.2.2.2)
  | _ => none
def mq_i2l (nx : Nat) (f : mF) : Option mF := match f.2.2.1 with
  | .int x :: r => some (nx, f.2.1, .long x.toInt64 :: r, f.2.2.2)
  | _ => none
def mq_l2i (nx : Nat) (f : mF) : Option mF := match f.2.2.1 with
  | .long x :: r => some (nx, f.2.1, .int x.toInt32 :: r, f.2.2.2)
  | _ => none
def mq_i2b (nx : Nat) (f : mF) : Option mF := match f.2.2.1 with
  | .int x :: r => some (nx, f.2.1, .int x.toInt8.toInt32 :: r, f.2.2.2)
  | _ => none
def mq_iinc (i : Nat) (n : Int) (nx : Nat) (f : mF) : Option mF := match mget f.2.1 i with
  | some (.int x) => some (nx, mput1 f.2.1 i (.int (x + Int32.ofInt n)), f.2.2.1, f.2.2.2)
  | _ => none
def mq_if (c : ClassFile.Cond) (nx a : Nat) (f : mF) : Option mF := match f.2.2.1 with
  | .int x :: r => if mcond c x 0 then some (a, f.2.1, r, f.2.2.2) else some (nx, f.2.1, r, f.2.2.2)
  | _ => none
def mq_icmp (c : ClassFile.Cond) (nx a : Nat) (f : mF) : Option mF := match f.2.2.1 with
  | .int y :: .int x :: r => if mcond c x y then some (a, f.2.1, r, f.2.2.2) else some (nx, f.2.1, r, f.2.2.2)
  | _ => none
def mq_null (nn : Bool) (nx a : Nat) (f : mF) : Option mF := match f.2.2.1 with
  | .null :: r => some ((if nn then nx else a), f.2.1, r, f.2.2.2)
  | .ref _ :: r => some ((if nn then a else nx), f.2.1, r, f.2.2.2)
  | _ => none
def mq_dup (nx : Nat) (f : mF) : Option mF := match f.2.2.1 with
  | v :: r => if v.category = 1 then some (nx, f.2.1, v :: v :: r, f.2.2.2) else none
  | _ => none
def mq_dup2 (nx : Nat) (f : mF) : Option mF := match f.2.2.1 with
  | v :: w :: r => if v.category = 1 ∧ w.category = 1 then some (nx, f.2.1, v :: w :: v :: w :: r, f.2.2.2) else none
  | _ => none
def mq_pop (nx : Nat) (f : mF) : Option mF := match f.2.2.1 with
  | v :: r => if v.category = 1 then some (nx, f.2.1, r, f.2.2.2) else none
  | _ => none
def mq_get (nx a : Nat) (f : mF) : Option mF := match f.2.2.1 with
  | .ref p :: r => match f.2.2.2.1[p]? with
    | some s => if s.1 = a / 100 then some (nx, f.2.1, mVp f.2.2.2 p (mm_ty (a / 100) (a % 100)) (a % 100) :: r, f.2.2.2) else none
    | none => none
  | _ => none
def mq_putv (M : mM) (p : Nat) (ty : FieldType) (k : Nat) (v : Value) : Option mM := match mkf ty, v with
  | 0, .int x => if mbo ty x then some (msI M p k x) else none
  | 1, .long x => some (msL M p k x)
  | 2, .ref q => some (msR M p k (some q))
  | 2, .null => some (msR M p k none)
  | _, _ => none
def mq_put (nx a : Nat) (f : mF) : Option mF := match f.2.2.1 with
  | v :: .ref p :: r => match f.2.2.2.1[p]? with
    | some s => if s.1 = a / 100 then (mq_putv f.2.2.2 p (mm_ty (a / 100) (a % 100)) (a % 100) v).map (fun M' => (nx, f.2.1, r, M')) else none
    | none => none
  | _ => none
def mq_iald (X : Nat × (Nat → Int32)) (nx : Nat) (f : mF) : Option mF := match f.2.2.1 with
  | .int i :: .ref p :: r => if p = mscr then (if mxin i X.1 then some (nx, f.2.1, .int (X.2 i.toNatClampNeg) :: r, f.2.2.2) else none) else match f.2.2.2.1[p]? with
    | some s => if s.1 = 20 ∧ mxin i s.2 = true then some (nx, f.2.1, .int (f.2.2.2.2.1 p i.toNatClampNeg) :: r, f.2.2.2) else none
    | none => none
  | _ => none
def mq_bald (nx : Nat) (f : mF) : Option mF := match f.2.2.1 with
  | .int i :: .ref p :: r => match f.2.2.2.1[p]? with
    | some s => if (s.1 = 21 ∨ s.1 = 22) ∧ mxin i s.2 = true then some (nx, f.2.1, .int (f.2.2.2.2.1 p i.toNatClampNeg) :: r, f.2.2.2) else none
    | none => none
  | _ => none
def mq_lald (nx : Nat) (f : mF) : Option mF := match f.2.2.1 with
  | .int i :: .ref p :: r => match f.2.2.2.1[p]? with
    | some s => if s.1 = 23 ∧ mxin i s.2 = true then some (nx, f.2.1, .long (f.2.2.2.2.2.1 p i.toNatClampNeg) :: r, f.2.2.2) else none
    | none => none
  | _ => none
def mq_aald (nx : Nat) (f : mF) : Option mF := match f.2.2.1 with
  | .int i :: .ref p :: r => match f.2.2.2.1[p]? with
    | some s => if (24 ≤ s.1 ∧ s.1 ≤ 26) ∧ mxin i s.2 = true then some (nx, f.2.1, va_rf (f.2.2.2.2.2.2 p i.toNatClampNeg) :: r, f.2.2.2) else none
    | none => none
  | _ => none
def mq_iast (nx : Nat) (f : mF) : Option mF := match f.2.2.1 with
  | .int x :: .int i :: .ref p :: r => match f.2.2.2.1[p]? with
    | some s => if s.1 = 20 ∧ mxin i s.2 = true then some (nx, f.2.1, r, msI f.2.2.2 p i.toNatClampNeg x) else none
    | none => none
  | _ => none
def mq_bast (nx : Nat) (f : mF) : Option mF := match f.2.2.1 with
  | .int x :: .int i :: .ref p :: r => match f.2.2.2.1[p]? with
    | some s => if mxin i s.2 = true then (if s.1 = 21 then some (nx, f.2.1, r, msI f.2.2.2 p i.toNatClampNeg (vp_nar .byte x)) else if s.1 = 22 then some (nx, f.2.1, r, msI f.2.2.2 p i.toNatClampNeg (vp_nar .boolean x)) else none) else none
    | none => none
  | _ => none
def mq_last (nx : Nat) (f : mF) : Option mF := match f.2.2.1 with
  | .long x :: .int i :: .ref p :: r => match f.2.2.2.1[p]? with
    | some s => if s.1 = 23 ∧ mxin i s.2 = true then some (nx, f.2.1, r, msL f.2.2.2 p i.toNatClampNeg x) else none
    | none => none
  | _ => none
def mq_aast (nx : Nat) (f : mF) : Option mF := match f.2.2.1 with
  | .ref v :: .int i :: .ref p :: r => match f.2.2.2.1[p]?, f.2.2.2.1[v]? with
    | some s, some s2 => if (24 ≤ s.1 ∧ s.1 ≤ 26) ∧ mxin i s.2 = true ∧ s2.1 = mm_ac s.1 then some (nx, f.2.1, r, msR f.2.2.2 p i.toNatClampNeg (some v)) else none
    | _, _ => none
  | _ => none
def mq_alen (X : Nat × (Nat → Int32)) (nx : Nat) (f : mF) : Option mF := match f.2.2.1 with
  | .ref p :: r => if p = mscr then some (nx, f.2.1, .int (Int32.ofNat X.1) :: r, f.2.2.2) else match f.2.2.2.1[p]? with
    | some s => if 20 ≤ s.1 ∧ s.1 ≤ 26 then some (nx, f.2.1, .int (Int32.ofNat s.2) :: r, f.2.2.2) else none
    | none => none
  | _ => none
def mq_ts (d lo hi : Int) (os : Array Int) (pc a : Nat) (f : mF) : Option mF := match f.2.2.1 with
  | .int x :: r => if x.toInt < lo ∨ hi < x.toInt then some (a, f.2.1, r, f.2.2.2) else match os[(x.toInt - lo).toNat]? with
    | some o => if 0 ≤ (pc : Int) + o then some (((pc : Int) + o).toNat, f.2.1, r, f.2.2.2) else none
    | none => none
  | _ => none
def mq_ls (d : Int) (ps : Array (Int × Int)) (pc : Nat) (f : mF) : Option mF := match f.2.2.1 with
  | .int x :: r => if 0 ≤ (pc : Int) + Op.lookupswitch.offset ps.toList d x.toInt then some (((pc : Int) + Op.lookupswitch.offset ps.toList d x.toInt).toNat, f.2.1, r, f.2.2.2) else none
  | _ => none
def mq_oi (nx : Nat) (f : mF) : Option mF := match f.2.2.1 with
  | .ref _ :: r => if r.length ≤ 4 then some (nx, f.2.1, r, f.2.2.2) else none
  | _ => none
def mq_ac (nx : Nat) (f : mF) : Option mF := match f.2.2.1 with
  | .int n :: .int dp :: .ref q :: .int sp :: .ref p :: r => match f.2.2.2.1[p]?, f.2.2.2.1[q]? with
    | some s, some t => if s.1 = 20 ∧ t.1 = 20 ∧ ¬ sp < 0 ∧ ¬ dp < 0 ∧ ¬ n < 0 ∧ sp.toNatClampNeg + n.toNatClampNeg ≤ s.2 ∧ dp.toNatClampNeg + n.toNatClampNeg ≤ t.2 ∧ r.length ≤ 4 then
        some (nx, f.2.1, r, mcpy f.2.2.2 p q sp.toNatClampNeg dp.toNatClampNeg n.toNatClampNeg) else none
    | _, _ => none
  | _ => none
def mq_m2 (g : Int32 → Int32 → Int32) (nx : Nat) (f : mF) : Option mF := match f.2.2.1 with
  | .int y :: .int x :: r => if r.length ≤ 4 then some (nx, f.2.1, .int (g x y) :: r, f.2.2.2) else none
  | _ => none
def mq_m2l (g : Int64 → Int64 → Int64) (nx : Nat) (f : mF) : Option mF := match f.2.2.1 with
  | .long y :: .long x :: r => if r.length ≤ 4 then some (nx, f.2.1, .long (g x y) :: r, f.2.2.2) else none
  | _ => none
/-- an instruction that goes on in its frame and makes no cell -/
def mCo (X : Nat × (Nat → Int32)) (i : Instr) (pc nx a : Nat) (f : mF) : Option mF := match i with
  | .aconst_null => mq_push nx .null f
  | .iconst n => mq_push nx (.int (Int32.ofInt n)) f
  | .bipush n => mq_push nx (.int (Int8.ofInt n).toInt32) f
  | .sipush n => mq_push nx (.int (Int16.ofInt n).toInt32) f
  | .lconst n => mq_push nx (.long (Int64.ofNat (n : Nat))) f
  | .ldc _ => if a < 100 then mq_push nx (.ref (mstr + a)) f else mq_push nx (.int (Int32.ofNat (a - 100))) f
  | .ldc2_w _ => mq_push nx (.long (Int64.ofNat a)) f
  | .iload_n n => mq_ld 0 n nx f
  | .iload n => mq_ld 0 n nx f
  | .lload_n n => mq_ld 1 n nx f
  | .lload n => mq_ld 1 n nx f
  | .aload_n n => mq_ld 2 n nx f
  | .aload n => mq_ld 2 n nx f
  | .istore_n n => mq_st 0 n nx f
  | .istore n => mq_st 0 n nx f
  | .lstore_n n => mq_st 1 n nx f
  | .lstore n => mq_st 1 n nx f
  | .astore_n n => mq_st 2 n nx f
  | .astore n => mq_st 2 n nx f
  | .iinc n c => mq_iinc n c nx f
  | .iadd => mq_b (fun x y => x + y) nx f
  | .isub => mq_b (fun x y => x - y) nx f
  | .imul => mq_b (fun x y => x * y) nx f
  | .iand => mq_b (fun x y => x &&& y) nx f
  | .ior => mq_b (fun x y => x ||| y) nx f
  | .ixor => mq_b (fun x y => x ^^^ y) nx f
  | .ishl => mq_b (fun x y => x <<< (y &&& 31)) nx f
  | .ishr => mq_b (fun x y => x >>> (y &&& 31)) nx f
  | .idiv => mq_bz (fun x y => x / y) nx f
  | .irem => mq_bz (fun x y => x - x / y * y) nx f
  | .ladd => mq_l (fun x y => x + y) nx f
  | .lsub => mq_l (fun x y => x - y) nx f
  | .lmul => mq_l (fun x y => x * y) nx f
  | .land => mq_l (fun x y => x &&& y) nx f
  | .lor => mq_l (fun x y => x ||| y) nx f
  | .ldiv => mq_lz (fun x y => x / y) nx f
  | .lrem => mq_lz (fun x y => x - x / y * y) nx f
  | .lcmp => mq_lcmp nx f
  | .lshl => mq_lshl nx f
  | .i2l => mq_i2l nx f
  | .l2i => mq_l2i nx f
  | .i2b => mq_i2b nx f
  | .ifCond c _ => mq_if c nx a f
  | .if_icmp c _ => mq_icmp c nx a f
  | .ifnull _ => mq_null false nx a f
  | .ifnonnull _ => mq_null true nx a f
  | .goto _ => some (a, f.2.1, f.2.2.1, f.2.2.2)
  | .dup => mq_dup nx f
  | .dup2 => mq_dup2 nx f
  | .pop => mq_pop nx f
  | .getfield _ => mq_get nx a f
  | .putfield _ => mq_put nx a f
  | .iaload => mq_iald X nx f
  | .baload => mq_bald nx f
  | .laload => mq_lald nx f
  | .aaload => mq_aald nx f
  | .iastore => mq_iast nx f
  | .bastore => mq_bast nx f
  | .lastore => mq_last nx f
  | .aastore => mq_aast nx f
  | .arraylength => mq_alen X nx f
  | .tableswitch d lo hi os => mq_ts d lo hi os pc a f
  | .lookupswitch d ps => mq_ls d ps pc f
  | .invokespecial _ => if a = 9000 then mq_oi nx f else none
  | .invokestatic _ => match a with
    | 9001 => mq_ac nx f
    | 9002 => mq_m2 (fun x y => if x < y then y else x) nx f
    | 9003 => mq_m2 (fun x y => if y < x then y else x) nx f
    | 9004 => mq_m2l (fun x y => if y < x then x else y) nx f
    | 9005 => mq_m2l (fun x y => if y < x then y else x) nx f
    | _ => none
  | _ => none
/-- an instruction that makes a cell -/
def mAl (i : Instr) (nx a : Nat) (f : mF) : Option mF := match i with
  | .new _ => if f.2.2.2.1.length < 100000 then some (nx, f.2.1, .ref f.2.2.2.1.length :: f.2.2.1, mnew f.2.2.2 a (mm_N a)) else none
  | .newarray _ => match f.2.2.1 with
    | .int n :: r => if f.2.2.2.1.length < 100000 ∧ ¬ n < 0 ∧ n.toNatClampNeg ≤ 60000000 then some (nx, f.2.1, .ref f.2.2.2.1.length :: r, mnew f.2.2.2 a n.toNatClampNeg) else none
    | _ => none
  | .anewarray _ => match f.2.2.1 with
    | .int n :: r => if f.2.2.2.1.length < 100000 ∧ ¬ n < 0 ∧ n.toNatClampNeg ≤ 60000000 then some (nx, f.2.1, .ref f.2.2.2.1.length :: r, mnew f.2.2.2 a n.toNatClampNeg) else none
    | _ => none
  | _ => none
/-- an instruction that ends the method -/
def mRe (k : Nat) (i : Instr) (f : mF) : Option (Option Value × mM) := match i with
  | .ireturn => match f.2.2.1 with
    | [.int v] => if mm_rk k = 1 ∨ (mm_rk k = 2 ∧ (v = 0 ∨ v = 1)) then some (some (.int v), f.2.2.2) else none
    | _ => none
  | .lreturn => match f.2.2.1 with
    | [.long v] => if mm_rk k = 3 then some (some (.long v), f.2.2.2) else none
    | _ => none
  | .areturn => match f.2.2.1 with
    | [.ref v] => if mm_rk k = 4 ∨ mm_rk k = 6 ∨ mm_rk k = 7 then some (some (.ref v), f.2.2.2) else none
    | [.null] => if mm_rk k = 4 ∨ mm_rk k = 6 ∨ mm_rk k = 7 then some (some .null, f.2.2.2) else none
    | _ => none
  | .return_ => match f.2.2.1 with
    | [] => if mm_rk k = 0 then some (none, f.2.2.2) else none
    | _ => none
  | _ => none
/-- a call: the method, its arguments, the frame behind it (the answer still to be laid on its stack) -/
def mCa (i : Instr) (nx a : Nat) (f : mF) : Option (Nat × List Value × mF) := match i with
  | .invokevirtual _ => match f.2.2.1.drop (mm_np a) with
    | .ref b :: r => if r.length ≤ 4 ∧ (mstr ≤ b ∧ b < mstr + 8 ∧ (a = 248 ∨ a = 249) ∨ (a < 248 ∧ (f.2.2.2.1[b]?).map (fun s => s.1) = some (mm_ow a))) then some (a, .ref b :: (f.2.2.1.take (mm_np a)).reverse, (nx, f.2.1, r, f.2.2.2)) else none
    | _ => none
  | .invokespecial _ => if a < 9000 then match f.2.2.1.drop (mm_np a) with
    | .ref b :: r => if r.length ≤ 4 then some (a, .ref b :: (f.2.2.1.take (mm_np a)).reverse, (nx, f.2.1, r, f.2.2.2)) else none
    | _ => none else none
  | .invokestatic _ => if a < 9000 then (if mm_np a ≤ f.2.2.1.length ∧ (f.2.2.1.drop (mm_np a)).length ≤ 4 then some (a, (f.2.2.1.take (mm_np a)).reverse, (nx, f.2.1, f.2.2.1.drop (mm_np a), f.2.2.2)) else none) else none
  | _ => none
/-- how long an instruction is (a switch: as told) -/
def mln (i : Instr) (n : Nat) : Nat := match i with
  | .bipush _ => 2 | .sipush _ => 3 | .ldc _ => 2 | .ldc2_w _ => 3 | .iload _ => 2 | .lload _ => 2 | .aload _ => 2 | .istore _ => 2 | .lstore _ => 2 | .astore _ => 2
  | .iinc _ _ => 3 | .ifCond _ _ => 3 | .if_icmp _ _ => 3 | .ifnull _ => 3 | .ifnonnull _ => 3 | .goto _ => 3 | .getfield _ => 3 | .putfield _ => 3 | .new _ => 3 | .newarray _ => 2 | .anewarray _ => 3
  | .invokevirtual _ => 3 | .invokespecial _ => 3 | .invokestatic _ => 3 | .tableswitch _ _ _ _ => n | .lookupswitch _ _ => n
  | _ => 1
def mmem (l : List (Nat × Nat)) (x y : Nat) : Bool := l.any (fun q => q.1 == x && q.2 == y)
theorem mmem_of {l : List (Nat × Nat)} {x y : Nat} (h : mmem l x y = true) : (x, y) ∈ l := by
  obtain ⟨q, hq, h1⟩ := List.any_eq_true.mp h
  simp only [Bool.and_eq_true, beq_iff_eq] at h1
  obtain ⟨q1, q2⟩ := q
  obtain ⟨rfl, rfl⟩ := h1
  exact hq
/-- what an instruction's own place in its class must be -/
def mLk (k : Nat) (pc : Nat) (i : Instr) (a : Nat) : Bool := match i with
  | .istore_n n => decide ((n : Nat) < mm_ml k)
  | .istore n => decide (n < mm_ml k)
  | .lstore_n n => decide ((n : Nat) + 1 < mm_ml k)
  | .lstore n => decide (n + 1 < mm_ml k)
  | .astore_n n => decide ((n : Nat) < mm_ml k)
  | .astore n => decide (n < mm_ml k)
  | .iinc n _ => decide (n < mm_ml k)
  | .ldc x => if a < 100 then (mmem (mm_ks (mm_ow k)) x a && decide (a < 8)) else mmem (mm_ki (mm_ow k)) x a
  | .ldc2_w x => mmem (mm_kl (mm_ow k)) x a
  | .ifCond _ o => decide ((pc : Int) + o = (a : Int))
  | .if_icmp _ o => decide ((pc : Int) + o = (a : Int))
  | .ifnull o => decide ((pc : Int) + o = (a : Int))
  | .ifnonnull o => decide ((pc : Int) + o = (a : Int))
  | .goto o => decide ((pc : Int) + o = (a : Int))
  | .tableswitch d _ _ _ => decide ((pc : Int) + d = (a : Int))
  | .lookupswitch _ ps => (ps.toList.zip (ps.toList.drop 1)).all (fun (a, next) => a.1 < next.1)
  | .getfield x => mmem (mm_fl (mm_ow k)) x a && (decide (a / 100 < 13) && decide (a % 100 < mm_N (a / 100)))
  | .putfield x => mmem (mm_fl (mm_ow k)) x a && (decide (a / 100 < 13) && (decide (a % 100 < mm_N (a / 100)) && (!(mm_f a).2.2.2 || (decide (mm_st k = 2) && decide (mm_ow k = a / 100)))))
  | .new x => mmem (mm_cl (mm_ow k)) x a && decide (a < 13)
  | .newarray t => decide (a < 24) && decide (mm_aty a = some (Op.newarray.typeOf t))
  | .anewarray x => mmem (mm_cl (mm_ow k)) x (mm_ac a) && (decide (24 ≤ a) && decide (a ≤ 26))
  | .invokevirtual x => mmem (mm_mk (mm_ow k)) x a && (decide (a < 250) && decide (mm_st a = 0))
  | .invokespecial x => if a = 9000 then mmem (mm_xl (mm_ow k)) x a else (decide (a < 248) && decide (mm_st a = 2)) && (mmem (mm_mk (mm_ow k)) x a || mmem (mm_nl (mm_ow k)) x a)
  | .invokestatic x => if a < 9000 then mmem (mm_mk (mm_ow k)) x a && (decide (a < 248) && decide (mm_st a = 1)) else mmem (mm_xl (mm_ow k)) x a && decide (9001 ≤ a)
  | _ => true
