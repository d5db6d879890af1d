/-! THE PURE MACHINE: a method's run as a function over a heap of cells that are numbered by their making; part 06 shows that the JVM does what it does -/
abbrev mj_E : Type := (Nat × vp_A) ⊕ (Nat × List Value)
abbrev mj_Hp : Type := Nat → mj_E
abbrev mj_Res : Type := Option Value × mj_Hp × Nat × Nat
abbrev mj_Cfg : Type := Nat × List Value × List Value × mj_Hp × Nat × Nat
abbrev mj_Row : Type := Nat × Instr × Nat × Nat × Nat
/-- own class, name, code, locals, answer, where longs lie among the locals, parameters, rows -/
abbrev mj_Inf : Type := Nat × MethodName × ByteArray × Nat × Option FieldType × List Nat × Nat × List mj_Row
def mj_find : List mj_Row → Nat → Option (Instr × Nat × Nat × Nat)
  | [], _ => none
  | r :: q, pc => match Nat.beq r.1 pc with
    | true => some r.2
    | false => mj_find q pc
abbrev mj_U : Value := .retAddr 0
def mj_set (hp : mj_Hp) (a : Nat) (x : mj_E) : mj_Hp := fun k => if k = a then x else hp k
def mj_pop : Nat → List Value → List Value → Option (List Value × List Value)
  | 0, acc, st => some (acc, st)
  | _ + 1, _, [] => none
  | n + 1, acc, v :: st => mj_pop n (v :: acc) st
def mj_flat : List Value → List Value
  | [] => []
  | .long x :: r => .long x :: mj_U :: mj_flat r
  | .double x :: r => .double x :: mj_U :: mj_flat r
  | v :: r => v :: mj_flat r
def mj_lc (As : List Value) (n : Nat) : List Value := mj_flat As ++ List.replicate (n - (mj_flat As).length) mj_U
def mj_isU (v : Value) : Bool := match v with | .retAddr _ => true | _ => false
def mj_lok (lg : List Nat) : Nat → List Value → Bool
  | _, [] => true
  | i, v :: r => (Nat.beq v.category 1 || lg.contains i) && (mj_isU v || !(lg.any (fun j => Nat.beq (j + 1) i))) && mj_lok lg (i + 1) r
def mj_ty (ci : Nat) : Nat → FieldType := [tyX0, tyX1, tyX2, tyX3, tyX4, tyX5, tyX6, tyX7, tyX8, tyX9, tyX10, tyX11].getD ci (fun _ => .int)
def mj_N (ci : Nat) : Nat := (mj_Cl.map (fun q => q.2.2)).getD ci 0
abbrev mj_nx (pc : Nat) (ls st : List Value) (hp : mj_Hp) (sz sl : Nat) : Option (mj_Cfg ⊕ mj_Res) := some (.inl (pc, ls, st, hp, sz, sl))
abbrev mj_rt (v : Option Value) (hp : mj_Hp) (sz sl : Nat) : Option (mj_Cfg ⊕ mj_Res) := some (.inr (v, hp, sz, sl))
/-- constants, locals, the stack -/
def mj_stA (i : Instr) (a : Nat) (pc : Nat) (ls st : List Value) (hp : mj_Hp) (sz sl : Nat) : Option (mj_Cfg ⊕ mj_Res) := match i with
  | .iconst n => mj_nx (pc + 1) ls (.int (Int32.ofInt n) :: st) hp sz sl
  | .bipush n => mj_nx (pc + 2) ls (.int (Int32.ofInt n) :: st) hp sz sl
  | .sipush n => mj_nx (pc + 3) ls (.int (Int32.ofInt n) :: st) hp sz sl
  | .ldc _ => mj_nx (pc + 2) ls (.int (Int32.ofInt (a : Int)) :: st) hp sz sl
  | .ldc_w _ => mj_nx (pc + 3) ls (.int (Int32.ofInt (a : Int)) :: st) hp sz sl
  | .ldc2_w _ => mj_nx (pc + 3) ls (.long (Int64.ofInt (a : Int)) :: st) hp sz sl
  | .lconst n => mj_nx (pc + 1) ls (.long (Int64.ofNat n.val) :: st) hp sz sl
  | .aconst_null => mj_nx (pc + 1) ls (.null :: st) hp sz sl
  | .iload_n k => (match ls[k.val]? with
    | some (.int x) => mj_nx (pc + 1) ls (.int x :: st) hp sz sl
    | _ => none)
  | .iload k => (match ls[k]? with
    | some (.int x) => mj_nx (pc + 2) ls (.int x :: st) hp sz sl
    | _ => none)
  | .lload_n k => (match ls[k.val]? with
    | some (.long x) => mj_nx (pc + 1) ls (.long x :: st) hp sz sl
    | _ => none)
  | .lload k => (match ls[k]? with
    | some (.long x) => mj_nx (pc + 2) ls (.long x :: st) hp sz sl
    | _ => none)
  | .aload_n k => (match ls[k.val]? with
    | some (.ref x) => mj_nx (pc + 1) ls (.ref x :: st) hp sz sl
    | some .null => mj_nx (pc + 1) ls (.null :: st) hp sz sl
    | _ => none)
  | .aload k => (match ls[k]? with
    | some (.ref x) => mj_nx (pc + 2) ls (.ref x :: st) hp sz sl
    | some .null => mj_nx (pc + 2) ls (.null :: st) hp sz sl
    | _ => none)
  | .istore_n k => (match st with
    | .int x :: st => mj_nx (pc + 1) (ls.set k.val (.int x)) st hp sz sl
    | _ => none)
  | .istore k => (match st with
    | .int x :: st => mj_nx (pc + 2) (ls.set k (.int x)) st hp sz sl
    | _ => none)
  | .lstore_n k => (match st with
    | .long x :: st => mj_nx (pc + 1) (ls.set k.val (.long x)) st hp sz sl
    | _ => none)
  | .lstore k => (match st with
    | .long x :: st => mj_nx (pc + 2) (ls.set k (.long x)) st hp sz sl
    | _ => none)
  | .astore_n k => (match st with
    | .ref x :: st => mj_nx (pc + 1) (ls.set k.val (.ref x)) st hp sz sl
    | .null :: st => mj_nx (pc + 1) (ls.set k.val .null) st hp sz sl
    | _ => none)
  | .astore k => (match st with
    | .ref x :: st => mj_nx (pc + 2) (ls.set k (.ref x)) st hp sz sl
    | .null :: st => mj_nx (pc + 2) (ls.set k .null) st hp sz sl
    | _ => none)
  | .iinc k n => (match ls[k]? with
    | some (.int x) => mj_nx (pc + 3) (ls.set k (.int (x + Int32.ofInt n))) st hp sz sl
    | _ => none)
  | .dup => (match st with
    | v :: st => (match Nat.beq v.category 1 with
      | true => mj_nx (pc + 1) ls (v :: v :: st) hp sz sl
      | false => none)
    | _ => none)
  | .dup2 => (match st with
    | v :: w :: st => (match Nat.beq v.category 1 && Nat.beq w.category 1 with
      | true => mj_nx (pc + 1) ls (v :: w :: v :: w :: st) hp sz sl
      | false => none)
    | _ => none)
  | .pop => (match st with
    | v :: st => (match Nat.beq v.category 1 with
      | true => mj_nx (pc + 1) ls st hp sz sl
      | false => none)
    | _ => none)
  | _ => none
/-- numbers -/
def mj_stB (i : Instr) (pc : Nat) (ls st : List Value) (hp : mj_Hp) (sz sl : Nat) : Option (mj_Cfg ⊕ mj_Res) := match i, st with
  | .iadd, .int y :: .int x :: st => mj_nx (pc + 1) ls (.int (x + y) :: st) hp sz sl
  | .isub, .int y :: .int x :: st => mj_nx (pc + 1) ls (.int (x - y) :: st) hp sz sl
  | .imul, .int y :: .int x :: st => mj_nx (pc + 1) ls (.int (x * y) :: st) hp sz sl
  | .iand, .int y :: .int x :: st => mj_nx (pc + 1) ls (.int (x &&& y) :: st) hp sz sl
  | .ior, .int y :: .int x :: st => mj_nx (pc + 1) ls (.int (x ||| y) :: st) hp sz sl
  | .ixor, .int y :: .int x :: st => mj_nx (pc + 1) ls (.int (x ^^^ y) :: st) hp sz sl
  | .idiv, .int y :: .int x :: st => if y = 0 then none else mj_nx (pc + 1) ls (.int (x / y) :: st) hp sz sl
  | .irem, .int y :: .int x :: st => if y = 0 then none else mj_nx (pc + 1) ls (.int (x - x / y * y) :: st) hp sz sl
  | .ineg, .int x :: st => mj_nx (pc + 1) ls (.int (-x) :: st) hp sz sl
  | .ishl, .int y :: .int x :: st => mj_nx (pc + 1) ls (.int (x <<< (y &&& 31)) :: st) hp sz sl
  | .ishr, .int y :: .int x :: st => mj_nx (pc + 1) ls (.int (x >>> (y &&& 31)) :: st) hp sz sl
  | .iushr, .int y :: .int x :: st => mj_nx (pc + 1) ls (.int (x.toUInt32 >>> (y.toUInt32 &&& Int32.toUInt32 31)).toInt32 :: st) hp sz sl
  | .ladd, .long y :: .long x :: st => mj_nx (pc + 1) ls (.long (x + y) :: st) hp sz sl
  | .lsub, .long y :: .long x :: st => mj_nx (pc + 1) ls (.long (x - y) :: st) hp sz sl
  | .lmul, .long y :: .long x :: st => mj_nx (pc + 1) ls (.long (x * y) :: st) hp sz sl
  | .land, .long y :: .long x :: st => mj_nx (pc + 1) ls (.long (x &&& y) :: st) hp sz sl
  | .lor, .long y :: .long x :: st => mj_nx (pc + 1) ls (.long (x ||| y) :: st) hp sz sl
  | .ldiv, .long y :: .long x :: st => if y = 0 then none else mj_nx (pc + 1) ls (.long (x / y) :: st) hp sz sl
  | .lrem, .long y :: .long x :: st => if y = 0 then none else mj_nx (pc + 1) ls (.long (x - x / y * y) :: st) hp sz sl
  | .lshl, .int y :: .long x :: st => mj_nx (pc + 1) ls (.long (x <<< (y.toInt64 &&& 63)) :: st) hp sz sl
  | .lushr, .int y :: .long x :: st => mj_nx (pc + 1) ls (.long (x.toUInt64 >>> (y.toInt64.toUInt64 &&& Int64.toUInt64 63)).toInt64 :: st) hp sz sl
  | .lcmp, .long y :: .long x :: st => mj_nx (pc + 1) ls (.int (lg_cmp x y) :: st) hp sz sl
  | .i2l, .int x :: st => mj_nx (pc + 1) ls (.long x.toInt64 :: st) hp sz sl
  | .l2i, .long x :: st => mj_nx (pc + 1) ls (.int x.toInt32 :: st) hp sz sl
  | _, _ => none
/-- jumps and ends -/
def mj_stC (i : Instr) (ret : Option FieldType) (a : Nat) (pc : Nat) (ls st : List Value) (hp : mj_Hp) (sz sl : Nat) : Option (mj_Cfg ⊕ mj_Res) := match i, st with
  | .goto _, st => mj_nx a ls st hp sz sl
  | .ifCond .eq _, .int x :: st => if x = 0 then mj_nx a ls st hp sz sl else mj_nx (pc + 3) ls st hp sz sl
  | .ifCond .ne _, .int x :: st => if x = 0 then mj_nx (pc + 3) ls st hp sz sl else mj_nx a ls st hp sz sl
  | .ifCond .lt _, .int x :: st => if x < 0 then mj_nx a ls st hp sz sl else mj_nx (pc + 3) ls st hp sz sl
  | .ifCond .ge _, .int x :: st => if 0 ≤ x then mj_nx a ls st hp sz sl else mj_nx (pc + 3) ls st hp sz sl
  | .ifCond .gt _, .int x :: st => if 0 < x then mj_nx a ls st hp sz sl else mj_nx (pc + 3) ls st hp sz sl
  | .ifCond .le _, .int x :: st => if x ≤ 0 then mj_nx a ls st hp sz sl else mj_nx (pc + 3) ls st hp sz sl
  | .if_icmp .eq _, .int y :: .int x :: st => if x = y then mj_nx a ls st hp sz sl else mj_nx (pc + 3) ls st hp sz sl
  | .if_icmp .ne _, .int y :: .int x :: st => if x = y then mj_nx (pc + 3) ls st hp sz sl else mj_nx a ls st hp sz sl
  | .if_icmp .lt _, .int y :: .int x :: st => if x < y then mj_nx a ls st hp sz sl else mj_nx (pc + 3) ls st hp sz sl
  | .if_icmp .ge _, .int y :: .int x :: st => if y ≤ x then mj_nx a ls st hp sz sl else mj_nx (pc + 3) ls st hp sz sl
  | .if_icmp .gt _, .int y :: .int x :: st => if y < x then mj_nx a ls st hp sz sl else mj_nx (pc + 3) ls st hp sz sl
  | .if_icmp .le _, .int y :: .int x :: st => if x ≤ y then mj_nx a ls st hp sz sl else mj_nx (pc + 3) ls st hp sz sl
  | .ifnull _, .null :: st => mj_nx a ls st hp sz sl
  | .ifnull _, .ref _ :: st => mj_nx (pc + 3) ls st hp sz sl
  | .ifnonnull _, .null :: st => mj_nx (pc + 3) ls st hp sz sl
  | .ifnonnull _, .ref _ :: st => mj_nx a ls st hp sz sl
  | .tableswitch d lo hi offs, .int x :: st => if x.toInt < lo ∨ hi < x.toInt then mj_nx ((pc : Int) + d).toNat ls st hp sz sl else (match offs[(x.toInt - lo).toNat]? with
    | some o => mj_nx ((pc : Int) + o).toNat ls st hp sz sl
    | none => none)
  | .lookupswitch d ps, .int x :: st => mj_nx ((pc : Int) + Op.lookupswitch.offset ps.toList d x.toInt).toNat ls st hp sz sl
  | .ireturn, [.int x] => (match ret with
    | some .int => mj_rt (some (.int x)) hp sz sl
    | some .boolean => if x = 0 ∨ x = 1 then mj_rt (some (.int x)) hp sz sl else none
    | _ => none)
  | .lreturn, [.long x] => (match ret with
    | some .long => mj_rt (some (.long x)) hp sz sl
    | _ => none)
  | .return_, [] => (match ret with
    | none => mj_rt none hp sz sl
    | _ => none)
  | _, _ => none
/-- the heap -/
def mj_stD (al : Bool) (i : Instr) (a b : Nat) (pc : Nat) (ls st : List Value) (hp : mj_Hp) (sz sl : Nat) : Option (mj_Cfg ⊕ mj_Res) := match i, st with
  | .getfield _, .ref r :: st => (match hp r with
    | .inr (ci, fs) => (match Nat.beq ci a, fs[b]? with
      | true, some v => mj_nx (pc + 3) ls (v :: st) hp sz sl
      | _, _ => none)
    | _ => none)
  | .putfield _, v :: .ref r :: st => (match hp r with
    | .inr (ci, fs) => (match Nat.beq ci a && Nat.ble (b + 1) fs.length && fits (mj_ty a b) v with
      | true => mj_nx (pc + 3) ls st (mj_set hp r (.inr (ci, fs.set b v))) sz sl
      | false => none)
    | _ => none)
  | .getstatic _, st => mj_nx (pc + 3) ls (.ref 999999 :: st) hp sz sl
  | .iaload, .int i :: .ref r :: st => (match hp r with
    | .inl (t, n, .inl f) => if (t = 0 ∨ t = 3 ∧ r = 999999) ∧ ¬ (i < 0 ∨ n ≤ i.toNatClampNeg) then mj_nx (pc + 1) ls (.int (f i.toNatClampNeg) :: st) hp sz sl else none
    | _ => none)
  | .baload, .int i :: .ref r :: st => (match hp r with
    | .inl (t, n, .inl f) => if t = 2 ∧ ¬ (i < 0 ∨ n ≤ i.toNatClampNeg) then mj_nx (pc + 1) ls (.int (f i.toNatClampNeg) :: st) hp sz sl else none
    | _ => none)
  | .laload, .int i :: .ref r :: st => (match hp r with
    | .inl (t, n, .inr (.inl f)) => if t = 1 ∧ ¬ (i < 0 ∨ n ≤ i.toNatClampNeg) then mj_nx (pc + 1) ls (.long (f i.toNatClampNeg) :: st) hp sz sl else none
    | _ => none)
  | .iastore, .int x :: .int i :: .ref r :: st => (match hp r with
    | .inl (t, n, .inl f) => if t = 0 ∧ ¬ (i < 0 ∨ n ≤ i.toNatClampNeg) then mj_nx (pc + 1) ls st (mj_set hp r (.inl (t, n, .inl (upd f i.toNatClampNeg x)))) sz sl else none
    | _ => none)
  | .bastore, .int x :: .int i :: .ref r :: st => (match hp r with
    | .inl (t, n, .inl f) => if t = 2 ∧ ¬ (i < 0 ∨ n ≤ i.toNatClampNeg) then mj_nx (pc + 1) ls st (mj_set hp r (.inl (t, n, .inl (upd f i.toNatClampNeg (vp_nar .boolean x))))) sz sl else none
    | _ => none)
  | .lastore, .long x :: .int i :: .ref r :: st => (match hp r with
    | .inl (t, n, .inr (.inl f)) => if t = 1 ∧ ¬ (i < 0 ∨ n ≤ i.toNatClampNeg) then mj_nx (pc + 1) ls st (mj_set hp r (.inl (t, n, .inr (.inl (vp_updL f i.toNatClampNeg x))))) sz sl else none
    | _ => none)
  | .arraylength, .ref r :: st => (match hp r with
    | .inl (t, x) => if t < 3 then mj_nx (pc + 1) ls (.int (Int32.ofNat x.1) :: st) hp sz sl else none
    | _ => none)
  | .new _, st => (match al && Nat.ble sz 91 with
    | true => mj_nx (pc + 3) ls (.ref sz :: st) (mj_set hp sz (.inr (a, (List.range (mj_N a)).map (fun k => defaultValue (mj_ty a k))))) (sz + 1) (sl + mj_N a)
    | false => none)
  | .newarray _, .int x :: st => (match al && Nat.ble sz 91 with
    | true => if x < 0 ∨ 100000 < x.toNatClampNeg then none else mj_nx (pc + 2) ls (.ref sz :: st) (mj_set hp sz (.inl (a, x.toNatClampNeg, if a = 1 then .inr (.inl fun _ => 0) else .inl fun _ => 0))) (sz + 1) (sl + x.toNatClampNeg)
    | false => none)
  | _, _ => none
/-- calls: b is the kind of the call, a the callee's place among the methods, C its class, n its parameters, d: how many frames it may have -/
def mj_stE (call : Nat → List Value → mj_Hp → Nat → Nat → Option mj_Res) (d : Nat) (C n a b : Nat) (pc : Nat) (ls st : List Value) (hp : mj_Hp) (sz sl : Nat) : Option (mj_Cfg ⊕ mj_Res) := match b with
  | 5 => (match d, st with
    | _ + 1, .ref _ :: st => if (st.map Value.category).sum ≤ 8 then mj_nx (pc + 3) ls st hp sz sl else none
    | _, _ => none)
  | 6 => (match d, st with
    | _ + 1, .int m :: .int dp :: .ref r1 :: .int sp :: .ref r0 :: st => (match hp r0, hp r1 with
      | .inl (t0, n0, .inl f), .inl (t1, n1, .inl g) => if t0 = 0 ∧ t1 = 0 ∧ ¬ sp < 0 ∧ ¬ dp < 0 ∧ ¬ m < 0 ∧ sp.toNatClampNeg + m.toNatClampNeg ≤ n0 ∧ dp.toNatClampNeg + m.toNatClampNeg ≤ n1 ∧ (st.map Value.category).sum ≤ 8 then mj_nx (pc + 3) ls st (mj_set hp r1 (.inl (t1, n1, .inl (va_cpy f g sp.toNatClampNeg dp.toNatClampNeg m.toNatClampNeg)))) sz sl else none
      | _, _ => none)
    | _, _ => none)
  | 7 => (match d, st with
    | _ + 1, .int m :: .int dp :: .ref r1 :: .int sp :: .ref r0 :: st => (match hp r0, hp r1 with
      | .inl (t0, n0, .inr (.inl f)), .inl (t1, n1, .inr (.inl g)) => if t0 = 1 ∧ t1 = 1 ∧ ¬ sp < 0 ∧ ¬ dp < 0 ∧ ¬ m < 0 ∧ sp.toNatClampNeg + m.toNatClampNeg ≤ n0 ∧ dp.toNatClampNeg + m.toNatClampNeg ≤ n1 ∧ (st.map Value.category).sum ≤ 8 then mj_nx (pc + 3) ls st (mj_set hp r1 (.inl (t1, n1, .inr (.inl (va_cpy f g sp.toNatClampNeg dp.toNatClampNeg m.toNatClampNeg))))) sz sl else none
      | _, _ => none)
    | _, _ => none)
  | 8 => (match d, st with
    | _ + 1, .int y :: .int x :: st => if (st.map Value.category).sum ≤ 8 then mj_nx (pc + 3) ls (.int (if x < y then y else x) :: st) hp sz sl else none
    | _, _ => none)
  | 9 => (match d, st with
    | _ + 1, .int y :: .int x :: st => if (st.map Value.category).sum ≤ 8 then mj_nx (pc + 3) ls (.int (if y < x then y else x) :: st) hp sz sl else none
    | _, _ => none)
  | 0 => (match mj_pop n [] st with
    | some (As, .ref r :: st) => (match hp r with
      | .inr (ci, _) => if ci = C ∧ (st.map Value.category).sum ≤ 8 then (match call a (.ref r :: As) hp sz sl with
        | some (v, hp, sz, sl) => mj_nx (pc + 3) ls (v.toList ++ st) hp sz sl
        | none => none) else none
      | _ => none)
    | _ => none)
  | 1 => (match mj_pop n [] st with
    | some (As, st) => if (st.map Value.category).sum ≤ 8 then (match call a As hp sz sl with
      | some (v, hp, sz, sl) => mj_nx (pc + 3) ls (v.toList ++ st) hp sz sl
      | none => none) else none
    | _ => none)
  | 2 => (match mj_pop n [] st with
    | some (As, st) => if (st.map Value.category).sum ≤ 8 then (match call a As hp sz sl with
      | some (v, hp, sz, sl) => mj_nx (pc + 3) ls (v.toList ++ st) hp sz sl
      | none => none) else none
    | _ => none)
  | 3 => (match mj_pop n [] st with
    | some (As, .ref r :: st) => if (st.map Value.category).sum ≤ 8 then (match call a (.ref r :: As) hp sz sl with
      | some (v, hp, sz, sl) => mj_nx (pc + 3) ls (v.toList ++ st) hp sz sl
      | none => none) else none
    | _ => none)
  | 4 => (match mj_pop n [] st with
    | some (As, .ref r :: st) => if (st.map Value.category).sum ≤ 8 then (match call a (.ref r :: As) hp sz sl with
      | some (v, hp, sz, sl) => mj_nx (pc + 3) ls (v.toList ++ st) hp sz sl
      | none => none) else none
    | _ => none)
  | _ => none
/-- which of the five an instruction is -/
def mj_grp (i : Instr) : Nat := match i with
  | .iadd => 1 | .isub => 1 | .imul => 1 | .iand => 1 | .ior => 1 | .ixor => 1 | .idiv => 1 | .irem => 1 | .ineg => 1 | .ishl => 1 | .ishr => 1 | .iushr => 1
  | .ladd => 1 | .lsub => 1 | .lmul => 1 | .land => 1 | .lor => 1 | .ldiv => 1 | .lrem => 1 | .lshl => 1 | .lushr => 1 | .lcmp => 1 | .i2l => 1 | .l2i => 1
  | .goto _ => 2 | .ifCond _ _ => 2 | .if_icmp _ _ => 2 | .ifnull _ => 2 | .ifnonnull _ => 2 | .tableswitch _ _ _ _ => 2 | .lookupswitch _ _ => 2 | .ireturn => 2 | .lreturn => 2 | .return_ => 2
  | .getfield _ => 3 | .putfield _ => 3 | .getstatic _ => 3 | .iaload => 3 | .baload => 3 | .laload => 3 | .iastore => 3 | .bastore => 3 | .lastore => 3 | .arraylength => 3 | .new _ => 3 | .newarray _ => 3
  | .invokevirtual _ => 4 | .invokestatic _ => 4 | .invokespecial _ => 4
  | _ => 0
def mj_run (al : Bool) (ms : List mj_Inf) : Nat → Nat → mj_Inf → mj_Cfg → Option mj_Res
  | 0, _, _, _ => none
  | k + 1, d, M, (pc, ls, st, hp, sz, sl) => match mj_find M.2.2.2.2.2.2.2 pc with
    | none => none
    | some (i, a, b, _) => match (match mj_grp i with
        | 0 => mj_stA i a pc ls st hp sz sl
        | 1 => mj_stB i pc ls st hp sz sl
        | 2 => mj_stC i M.2.2.2.2.1 a pc ls st hp sz sl
        | 3 => mj_stD al i a b pc ls st hp sz sl
        | _ => mj_stE (fun y As hp sz sl => match d with
          | 0 => none
          | d + 1 => match ms[y]? with
            | none => none
            | some M1 => if (mj_flat As).length ≤ M1.2.2.2.1 ∧ mj_lok M1.2.2.2.2.2.1 0 (mj_flat As) = true then mj_run al ms k d M1 (0, mj_lc As M1.2.2.2.1, [], hp, sz, sl) else none) d (match ms[a]? with | some M1 => M1.1 | none => 0) (match ms[a]? with | some M1 => M1.2.2.2.2.2.2.1 | none => 0) a b pc ls st hp sz sl) with
      | none => none
      | some (.inr r) => some r
      | some (.inl c) => mj_run al ms k d M c
