/-! THE PURE MACHINE: the bytecode's own steps over numbers: a cell is a place in a list of shapes, its contents a function -/
abbrev qW : Type := Nat → Nat → Int32
abbrev qL : Type := List (Option Value)
/-- a cell's shape: a row of numbers (kind, length); a row of cells (kind, which); an object (class, its fields: a cell, or a number) -/
abbrev qS : Type := (Nat × Nat) ⊕ ((Nat × List Nat) ⊕ (Nat × List (Option Nat)))
/-- a method: name, bytes, locals, answer, class number, frames, locals' room -/
abbrev qI : Type := MethodName × ByteArray × Nat × Option FieldType × Nat × Nat × Nat
abbrev mY (I : qI) : MethodName := I.1
abbrev mB (I : qI) : ByteArray := I.2.1
abbrev mL (I : qI) : Nat := I.2.2.1
abbrev mR (I : qI) : Option FieldType := I.2.2.2.1
abbrev mC (I : qI) : Nat := I.2.2.2.2.1
abbrev mF (I : qI) : Nat := I.2.2.2.2.2.1
abbrev mK (I : qI) : Nat := I.2.2.2.2.2.2
abbrev qO : Type := (Nat × qL × List Value × qW) ⊕ ((Option Value × qW) ⊕ (qI × List Value × Nat × qL × List Value × qW))
abbrev qX : Type := Option (Nat × (Nat → Int32))
/-- the tables of a run: what a call, a field, a constant of a class is -/
abbrev qT : Type := (Nat → Nat → Option (Nat × qI × Nat)) × (Nat → Nat → Option (Nat × Nat × Nat)) × (Nat → Nat → Option Int32) × (Nat → Nat → Option Int64) × (Nat → Nat → Bool)
def q_scr : Nat := 47
def q_up (w : qW) (k j : Nat) (v : Int32) : qW := fun a => if a = k then upd (w a) j v else w a
/-- a row of a cell, whole -/
def q_row (w : qW) (k : Nat) (f : Nat → Int32) : qW := fun a => if a = k then f else w a
def q_ic (n : Int) : Int32 := match n with
  | .ofNat k => Int32.ofNat k
  | .negSucc k => -(Int32.ofNat (k + 1))
def q_go (pc : Nat) (L : qL) (S : List Value) (w : qW) : Option qO := some (.inl (pc, L, S, w))
def q_fr (L : qL) (i : Nat) : Bool := match i with
  | 0 => true
  | j + 1 => match L[j]? with
    | some (some u) => u.category == 1
    | _ => true
def q_st (L : qL) (i : Nat) (v : Value) : Option qL := if i < L.length ∧ q_fr L i = true then some (L.set i (some v)) else none
def q_st2 (L : qL) (i : Nat) (v : Value) : Option qL := if i + 1 < L.length ∧ q_fr L i = true then some ((L.set i (some v)).set (i + 1) none) else none
def q_to (pc : Nat) (off : Int) : Option Nat := match (pc : Int) + off with
  | .ofNat t => some t
  | .negSucc _ => none
def q_if (c : Jvm.ClassFile.Cond) (x y : Int32) (a b : Option qO) : Option qO := match c with
  | .eq => if x = y then a else b
  | .ne => if ¬ x = y then a else b
  | .lt => if x < y then a else b
  | .ge => if y ≤ x then a else b
  | .gt => if y < x then a else b
  | .le => if x ≤ y then a else b
def q_cat (r : List Value) : Nat := (r.map fun v => v.category).sum
def q_get (sh : List qS) (k ci j : Nat) (w : qW) : Option Value := match sh[k]? with
  | some (.inr (.inr (c', fs))) => if c' = ci then (match fs[j]? with
    | some none => some (.int (w k j))
    | some (some r) => some (.ref r)
    | none => none) else none
  | _ => none
def q_isint (sh : List qS) (k ci j : Nat) : Bool := match sh[k]? with
  | some (.inr (.inr (c', fs))) => c' == ci && (match fs[j]? with
    | some none => true
    | _ => false)
  | _ => false
def q_isobj (sh : List qS) (k ci : Nat) : Bool := match sh[k]? with
  | some (.inr (.inr (c', _))) => c' == ci
  | _ => false
def q_b1 (len pc : Nat) (L : qL) (S : List Value) (w : qW) (f : Int32 → Int32 → Int32) : Option qO := match len, S with
  | 1, .int y :: .int x :: r => q_go (pc + 1) L (.int (f x y) :: r) w
  | _, _ => none
def q_u1 (len pc : Nat) (L : qL) (S : List Value) (w : qW) (f : Int32 → Value) : Option qO := match len, S with
  | 1, .int x :: r => q_go (pc + 1) L (f x :: r) w
  | _, _ => none
def q_ld (len len0 pc : Nat) (L : qL) (i : Nat) (S : List Value) (w : qW) (ok : Value → Bool) : Option qO := if len = len0 then (match L[i]? with
  | some (some v) => if ok v = true then q_go (pc + len0) L (v :: S) w else none
  | _ => none) else none
def q_sv (len len0 pc : Nat) (L : qL) (i : Nat) (S : List Value) (w : qW) (ok : Value → Bool) : Option qO := if len = len0 then (match S with
  | v :: r => if ok v = true then (match q_st L i v with
    | some L' => q_go (pc + len0) L' r w
    | none => none) else none
  | _ => none) else none
def q_vi : Value → Bool
  | .int _ => true
  | _ => false
def q_vl : Value → Bool
  | .long _ => true
  | _ => false
def q_va : Value → Bool
  | .ref _ => true
  | .null => true
  | _ => false
/-- a load out of a row: of kind t -/
def q_al (sh : List qS) (sc : qX) (t len pc : Nat) (L : qL) (S : List Value) (w : qW) : Option qO := match len, S with
  | 1, .int i :: .ref k :: r => match sh[k]? with
    | some (.inl (t', n)) => if t' = t then (if i < 0 ∨ n ≤ i.toNatClampNeg then none else q_go (pc + 1) L (.int (w k i.toNatClampNeg) :: r) w) else none
    | some _ => none
    | none => if k = q_scr ∧ t = 0 then (match sc with
      | some (n, xs) => if i < 0 ∨ n ≤ i.toNatClampNeg then none else q_go (pc + 1) L (.int (xs i.toNatClampNeg) :: r) w
      | none => none) else none
  | _, _ => none
def q_as (sh : List qS) (t len pc : Nat) (L : qL) (S : List Value) (w : qW) (f : Int32 → Int32) : Option qO := match len, S with
  | 1, .int x :: .int i :: .ref k :: r => match sh[k]? with
    | some (.inl (t', n)) => if t' = t then (if i < 0 ∨ n ≤ i.toNatClampNeg then none else q_go (pc + 1) L r (q_up w k i.toNatClampNeg (f x))) else none
    | _ => none
  | _, _ => none
def q_ac (sh : List qS) (I : qI) (pc : Nat) (L : qL) (S : List Value) (w : qW) : Option qO := match S with
  | .int n :: .int dp :: .ref kd :: .int sp :: .ref ks :: r => match sh[ks]?, sh[kd]? with
    | some (.inl (0, n0)), some (.inl (0, n1)) => if sp < 0 ∨ dp < 0 ∨ n < 0 ∨ ¬ (sp.toNatClampNeg + n.toNatClampNeg ≤ n0) ∨ ¬ (dp.toNatClampNeg + n.toNatClampNeg ≤ n1) then none
      else if 1 ≤ mF I ∧ q_cat r + (nativeFrameWords "java/lang/System" "arraycopy" 5 + 11) ≤ mK I then q_go (pc + 3) L r (q_row w kd (va_cpy (w ks) (w kd) sp.toNatClampNeg dp.toNatClampNeg n.toNatClampNeg)) else none
    | _, _ => none
  | _ => none
def q_mn (I : qI) (pc : Nat) (L : qL) (S : List Value) (w : qW) : Option qO := match S with
  | .int y :: .int x :: r => if 1 ≤ mF I ∧ q_cat r + 13 ≤ mK I then q_go (pc + 3) L (.int (if y < x then y else x) :: r) w else none
  | _ => none
def q_cl1 (I I' : qI) (r : List Value) : Bool := decide (mF I' + 1 ≤ mF I ∧ 8 + (mL I' + 11) + mK I' ≤ mK I ∧ q_cat r ≤ 8)
def q_step (tb : qT) (sh : List qS) (sc : qX) (I : qI) (pc len : Nat) (ins : Instr) (L : qL) (S : List Value) (w : qW) : Option qO := match ins with
  | .iconst n => if len = 1 then q_go (pc + 1) L (.int (q_ic n) :: S) w else none
  | .bipush n => if len = 2 ∧ -128 ≤ n ∧ n < 128 then q_go (pc + 2) L (.int (q_ic n) :: S) w else none
  | .sipush n => if len = 3 ∧ (Int16.ofInt n).toInt32 = q_ic n then q_go (pc + 3) L (.int (q_ic n) :: S) w else none
  | .aconst_null => if len = 1 then q_go (pc + 1) L (.null :: S) w else none
  | .ldc i => if len = 2 then (match tb.2.2.1 (mC I) i with
    | some v => q_go (pc + 2) L (.int v :: S) w
    | none => none) else none
  | .ldc_w i => if len = 3 then (match tb.2.2.1 (mC I) i with
    | some v => q_go (pc + 3) L (.int v :: S) w
    | none => none) else none
  | .ldc2_w i => if len = 3 then (match tb.2.2.2.1 (mC I) i with
    | some v => q_go (pc + 3) L (.long v :: S) w
    | none => none) else none
  | .iload_n k => q_ld len 1 pc L k.val S w q_vi
  | .iload k => q_ld len 2 pc L k S w q_vi
  | .lload_n k => q_ld len 1 pc L k.val S w q_vl
  | .aload_n k => q_ld len 1 pc L k.val S w q_va
  | .aload k => q_ld len 2 pc L k S w q_va
  | .istore_n k => q_sv len 1 pc L k.val S w q_vi
  | .istore k => q_sv len 2 pc L k S w q_vi
  | .astore_n k => q_sv len 1 pc L k.val S w q_va
  | .astore k => q_sv len 2 pc L k S w q_va
  | .lstore_n k => match len, S with
    | 1, .long x :: r => (match q_st2 L k.val (.long x) with
      | some L' => q_go (pc + 1) L' r w
      | none => none)
    | _, _ => none
  | .iinc i n => if len = 3 then (match L[i]? with
    | some (some (.int x)) => (match q_st L i (.int (x + q_ic n)) with
      | some L' => q_go (pc + 3) L' S w
      | none => none)
    | _ => none) else none
  | .dup => match len, S with
    | 1, v :: r => if v.category = 1 then q_go (pc + 1) L (v :: v :: r) w else none
    | _, _ => none
  | .dup2 => match len, S with
    | 1, a :: b :: r => if a.category = 1 ∧ b.category = 1 then q_go (pc + 1) L (a :: b :: a :: b :: r) w else none
    | _, _ => none
  | .iadd => q_b1 len pc L S w (fun x y => x + y)
  | .isub => q_b1 len pc L S w (fun x y => x - y)
  | .imul => q_b1 len pc L S w (fun x y => x * y)
  | .iand => q_b1 len pc L S w (fun x y => x &&& y)
  | .ior => q_b1 len pc L S w (fun x y => x ||| y)
  | .ixor => q_b1 len pc L S w (fun x y => x ^^^ y)
  | .ishl => q_b1 len pc L S w (fun x y => x <<< (y &&& 31))
  | .ishr => q_b1 len pc L S w (fun x y => x >>> (y &&& 31))
  | .iushr => q_b1 len pc L S w (fun x y => (x.toUInt32 >>> (y.toUInt32 &&& Int32.toUInt32 31)).toInt32)
  | .idiv => match len, S with
    | 1, .int y :: .int x :: r => if y = 0 then none else q_go (pc + 1) L (.int (x / y) :: r) w
    | _, _ => none
  | .irem => match len, S with
    | 1, .int y :: .int x :: r => if y = 0 then none else q_go (pc + 1) L (.int (x - x / y * y) :: r) w
    | _, _ => none
  | .i2l => q_u1 len pc L S w (fun x => .long x.toInt64)
  | .i2b => q_u1 len pc L S w (fun x => .int x.toInt8.toInt32)
  | .i2s => q_u1 len pc L S w (fun x => .int x.toInt16.toInt32)
  | .ladd => match len, S with
    | 1, .long y :: .long x :: r => q_go (pc + 1) L (.long (x + y) :: r) w
    | _, _ => none
  | .lmul => match len, S with
    | 1, .long y :: .long x :: r => q_go (pc + 1) L (.long (x * y) :: r) w
    | _, _ => none
  | .lcmp => match len, S with
    | 1, .long y :: .long x :: r => q_go (pc + 1) L (.int (lg_cmp x y) :: r) w
    | _, _ => none
  | .ifCond c off => match len, S with
    | 3, .int x :: r => (match q_to pc off with
      | some t => q_if c x 0 (q_go t L r w) (q_go (pc + 3) L r w)
      | none => none)
    | _, _ => none
  | .if_icmp c off => match len, S with
    | 3, .int y :: .int x :: r => (match q_to pc off with
      | some t => q_if c x y (q_go t L r w) (q_go (pc + 3) L r w)
      | none => none)
    | _, _ => none
  | .ifnull off => match len, S with
    | 3, .null :: r => (match q_to pc off with
      | some t => q_go t L r w
      | none => none)
    | 3, .ref _ :: r => q_go (pc + 3) L r w
    | _, _ => none
  | .ifnonnull off => match len, S with
    | 3, .ref _ :: r => (match q_to pc off with
      | some t => q_go t L r w
      | none => none)
    | 3, .null :: r => q_go (pc + 3) L r w
    | _, _ => none
  | .goto off => if len = 3 then (match q_to pc off with
    | some t => q_go t L S w
    | none => none) else none
  | .tableswitch d lo hi offs => match S with
    | .int x :: r => if x.toInt < lo ∨ hi < x.toInt then (match q_to pc d with
        | some t => q_go t L r w
        | none => none) else (match offs[(x.toInt - lo).toNat]? with
        | some o => (match q_to pc o with
          | some t => q_go t L r w
          | none => none)
        | none => none)
    | _ => none
  | .getfield i => match len, S with
    | 3, .ref k :: r => (match tb.2.1 (mC I) i with
      | some (_, ci, j) => (match q_get sh k ci j w with
        | some v => q_go (pc + 3) L (v :: r) w
        | none => none)
      | none => none)
    | _, _ => none
  | .putfield i => match len, S with
    | 3, .int v :: .ref k :: r => (match tb.2.1 (mC I) i with
      | some (_, ci, j) => if q_isint sh k ci j = true ∧ tb.2.2.2.2 ci j = true then q_go (pc + 3) L r (q_up w k j v) else none
      | none => none)
    | _, _ => none
  | .arraylength => match len, S with
    | 1, .ref k :: r => (match sh[k]? with
      | some (.inl (_, n)) => q_go (pc + 1) L (.int (Int32.ofNat n) :: r) w
      | some (.inr (.inl (_, ks))) => q_go (pc + 1) L (.int (Int32.ofNat ks.length) :: r) w
      | some (.inr (.inr _)) => none
      | none => if k = q_scr then (match sc with
        | some (n, _) => q_go (pc + 1) L (.int (Int32.ofNat n) :: r) w
        | none => none) else none)
    | _, _ => none
  | .iaload => q_al sh sc 0 len pc L S w
  | .baload => q_al sh none 1 len pc L S w
  | .iastore => q_as sh 0 len pc L S w (fun x => x)
  | .bastore => q_as sh 1 len pc L S w (vp_nar .boolean)
  | .aaload => match len, S with
    | 1, .int i :: .ref k :: r => (match sh[k]? with
      | some (.inr (.inl (2, ks))) => if i < 0 ∨ ks.length ≤ i.toNatClampNeg then none else q_go (pc + 1) L (va_rf ks[i.toNatClampNeg]? :: r) w
      | _ => none)
    | _, _ => none
  | .invokestatic i => if len = 3 then (if mC I = 4 ∧ i = 242 then q_ac sh I pc L S w else if mC I = 4 ∧ i = 248 then q_mn I pc L S w else (match tb.1 (mC I) i with
    | some (k, I', n) => if k ≤ 1 ∧ n ≤ S.length ∧ q_cl1 I I' (S.drop n) = true then some (.inr (.inr (I', (S.take n).reverse, pc + 3, L, S.drop n, w))) else none
    | none => none)) else none
  | .invokevirtual i => if len = 3 then (match tb.1 (mC I) i with
    | some (k, I', n) => (match S.drop n with
      | .ref b :: r => if 2 ≤ k ∧ n ≤ S.length ∧ q_cl1 I I' r = true ∧ q_isobj sh b (mC I') = true then some (.inr (.inr (I', .ref b :: (S.take n).reverse, pc + 3, L, r, w))) else none
      | _ => none)
    | none => none) else none
  | .ireturn => match len, S, mR I with
    | 1, [.int v], some .int => some (.inr (.inl (some (.int v), w)))
    | 1, [.int v], some .boolean => if narrow .boolean (.int v) = .int v then some (.inr (.inl (some (.int v), w))) else none
    | _, _, _ => none
  | .lreturn => match len, S, mR I with
    | 1, [.long v], some .long => some (.inr (.inl (some (.long v), w)))
    | _, _, _ => none
  | .areturn => match len, S, mR I with
    | 1, [v], some (.object _) => if q_va v = true then some (.inr (.inl (some v, w))) else none
    | _, _, _ => none
  | .return_ => match len, S, mR I with
    | 1, [], none => some (.inr (.inl (none, w)))
    | _, _, _ => none
  | _ => none
/-- a call's locals -/
def q_en : List Value → qL
  | [] => []
  | v :: r => if v.category = 2 then some v :: none :: q_en r else some v :: q_en r
def q_ent (n : Nat) (as : List Value) : Option qL := if (q_en as).length ≤ n then some (q_en as ++ List.replicate (n - (q_en as).length) none) else none
def q_ex (tb : qT) (sh : List qS) : Nat → qX → qI → Nat → qL → List Value → qW → Option (Option Value × qW)
  | 0, _, _, _, _, _, _ => none
  | f + 1, sc, I, pc, L, S, w => match decode (mB I) pc with
    | .error _ => none
    | .ok (ins, len) => match q_step tb sh sc I pc len ins L S w with
      | none => none
      | some (.inl (pc', L', S', w')) => q_ex tb sh f sc I pc' L' S' w'
      | some (.inr (.inl r)) => some r
      | some (.inr (.inr (I', as, pc', L', S', w'))) => match q_ent (mL I') as with
        | none => none
        | some L0 => match q_ex tb sh f none I' 0 L0 [] w' with
          | none => none
          | some (v, w2) => q_ex tb sh f sc I pc' L' (v.toList ++ S') w2
