def mj_tb : Nat → List Jvm.Cond := fun j => [k2_sels lw_privs, tables_1_1, tables_1_2, tables_1_3, tables_1_4, tables_1_5, tables_1_6, tables_1_7].getD j []
def mj_w (p : Nat) (w : Jvm.Cond) : Bool := decide ((mj_tb (p / 1000))[p % 1000]? = some w)
def mj_T (ci : Nat) : u_T := (mj_Cl.map (fun q => q.2.1)).getD ci TX0
def mj_len (i : Instr) (b : Nat) : Nat := match i with
  | .iload _ => 2 | .istore _ => 2 | .lload _ => 2 | .lstore _ => 2 | .aload _ => 2 | .astore _ => 2 | .bipush _ => 2 | .ldc _ => 2 | .newarray _ => 2
  | .sipush _ => 3 | .ldc_w _ => 3 | .ldc2_w _ => 3 | .iinc _ _ => 3 | .goto _ => 3 | .ifCond _ _ => 3 | .if_icmp _ _ => 3 | .ifnull _ => 3 | .ifnonnull _ => 3
  | .getfield _ => 3 | .putfield _ => 3 | .getstatic _ => 3 | .new _ => 3 | .invokevirtual _ => 3 | .invokestatic _ => 3 | .invokespecial _ => 3
  | .tableswitch _ _ _ _ => b | .lookupswitch _ _ => b
  | _ => 1
def mj_y (k : Nat) : MethodName := match mj_ms[k]? with | some M => M.2.1 | none => objectInit
def mj_flk (q : Nat × Nat × Nat × Nat × Nat) : Bool := mj_w q.2.2.2.2 (.fieldLink (mj_cn q.1) q.2.1 (mj_T q.2.2.1 q.2.2.2.1).1 (mj_T q.2.2.1 q.2.2.2.1).2.1 (mj_T q.2.2.1 q.2.2.2.1).2.2.1) && Nat.ble (q.2.2.2.1 + 1) (mj_N q.2.2.1) && Nat.ble (q.2.2.1 + 1) 12
def mj_mlk (q : Nat × Nat × Nat × Nat × Nat) : Bool := match q.2.2.2.1 with
  | 0 => mj_w q.2.2.2.2 (.methodLink (mj_cn q.1) q.2.1 (mj_y q.2.2.1))
  | 1 => mj_w q.2.2.2.2 (.methodLink (mj_cn q.1) q.2.1 (mj_y q.2.2.1))
  | 2 => mj_w q.2.2.2.2 (.methodLinkNest (mj_cn q.1) q.2.1 (mj_y q.2.2.1) RX11)
  | 3 => mj_w q.2.2.2.2 (.methodLink (mj_cn q.1) q.2.1 (mj_y q.2.2.1))
  | 4 => mj_w q.2.2.2.2 (.methodLinkNest (mj_cn q.1) q.2.1 (mj_y q.2.2.1) RX11)
  | 5 => mj_w q.2.2.2.2 (.methodLink (mj_cn q.1) q.2.1 objectInit)
  | 6 => mj_w q.2.2.2.2 (.methodLink (mj_cn q.1) q.2.1 arraycopyName)
  | 8 => mj_w q.2.2.2.2 (.methodLink (mj_cn q.1) q.2.1 Lib.Math.max.name)
  | 9 => mj_w q.2.2.2.2 (.methodLink (mj_cn q.1) q.2.1 Lib.Math.min.name)
  | _ => false
def mj_stk (M : mj_Inf) (k : Nat) : Bool := Nat.ble (k + 1) M.2.2.2.1 && !(M.2.2.2.2.2.1.contains k) && !(M.2.2.2.2.2.1.any (fun j => Nat.beq (j + 1) k))
def mj_ltk (M : mj_Inf) (k : Nat) : Bool := Nat.ble (k + 2) M.2.2.2.1 && M.2.2.2.2.2.1.contains k && !(M.2.2.2.2.2.1.any (fun j => Nat.beq (j + 1) k))
/-- what a row must be, beside its decoding -/
def mj_rk (M : mj_Inf) (r : mj_Row) : Bool := match r with
  | (pc, i, a, b, e) => match i with
    | .bipush n => decide ((Int8.ofInt n).toInt32 = Int32.ofInt n)
    | .sipush n => decide ((Int16.ofInt n).toInt32 = Int32.ofInt n)
    | .ldc ix => mj_w e (.constant (mj_cn M.1) ix (Int32.ofInt (a : Int)))
    | .ldc_w ix => mj_w e (.constant (mj_cn M.1) ix (Int32.ofInt (a : Int)))
    | .ldc2_w ix => mj_w e (.constantLong (mj_cn M.1) ix (Int64.ofInt (a : Int)))
    | .istore_n k => mj_stk M k.val
    | .astore_n k => mj_stk M k.val
    | .istore k => mj_stk M k
    | .astore k => mj_stk M k
    | .iinc k _ => mj_stk M k
    | .lstore_n k => mj_ltk M k.val
    | .lstore k => mj_ltk M k
    | .goto o => decide ((pc : Int) + o = (a : Int))
    | .ifCond _ o => decide ((pc : Int) + o = (a : Int))
    | .if_icmp _ o => decide ((pc : Int) + o = (a : Int))
    | .ifnull o => decide ((pc : Int) + o = (a : Int))
    | .ifnonnull o => decide ((pc : Int) + o = (a : Int))
    | .tableswitch d _ _ offs => decide (0 ≤ (pc : Int) + d) && offs.toList.all (fun o => decide (0 ≤ (pc : Int) + o))
    | .lookupswitch d ps => decide (0 ≤ (pc : Int) + d) && ps.toList.all (fun o => decide (0 ≤ (pc : Int) + o.2)) && ((ps.toList.zip (ps.toList.drop 1)).all (fun (a, next) => a.1 < next.1))
    | .getfield ix => (match mj_fl[e]? with | some q => Nat.beq q.1 M.1 && Nat.beq q.2.1 ix && Nat.beq q.2.2.1 a && Nat.beq q.2.2.2.1 b | none => false)
    | .putfield ix => (match mj_fl[e]? with | some q => Nat.beq q.1 M.1 && Nat.beq q.2.1 ix && Nat.beq q.2.2.1 a && Nat.beq q.2.2.2.1 b && (!(mj_T a b).2.2.2 || (decide (M.2.1.name = "<init>") && decide ((mj_T a b).1 = mj_cn M.1))) | none => false)
    | .getstatic ix => mj_w e (.fieldLink (mj_cn M.1) ix RX10 "PLACES_OF_LENGTHS" "[I")
    | .new ix => mj_w e (.classLink (mj_cn M.1) ix (mj_cn a)) && Nat.ble (a + 1) 12
    | .newarray t => decide (t = .int ∧ a = 0 ∨ t = .long ∧ a = 1 ∨ t = .boolean ∧ a = 2)
    | .invokevirtual ix => (match mj_ml[e]? with | some q => Nat.beq q.1 M.1 && Nat.beq q.2.1 ix && Nat.beq q.2.2.1 a && Nat.beq q.2.2.2.1 b && Nat.beq b 0 | none => false)
    | .invokestatic ix => (match mj_ml[e]? with | some q => Nat.beq q.1 M.1 && Nat.beq q.2.1 ix && Nat.beq q.2.2.1 a && (Nat.beq q.2.2.2.1 b && (Nat.beq b 1 || Nat.beq b 2 || Nat.beq b 8 || Nat.beq b 9) || Nat.beq q.2.2.2.1 6 && (Nat.beq b 6 || Nat.beq b 7)) | none => false)
    | .invokespecial ix => (match mj_ml[e]? with | some q => Nat.beq q.1 M.1 && Nat.beq q.2.1 ix && Nat.beq q.2.2.1 a && Nat.beq q.2.2.2.1 b && (Nat.beq b 3 || Nat.beq b 4 || Nat.beq b 5) | none => false)
    | _ => true
def mj_dk (M : mj_Inf) (r : mj_Row) : Bool := decide (decode M.2.2.1 r.1 = .ok (r.2.1, mj_len r.2.1 r.2.2.2.1))
/-- a method's own words, and that its kind fits -/
def mj_mk (M : mj_Inf) (q : Nat × Nat × Nat × Nat) : Bool :=
  mj_w q.2.1 (.initialized M.2.1.cls) && plainName M.2.1.cls && decide (mj_cn M.1 = M.2.1.cls) && Nat.ble M.2.2.2.1 20 &&
  decide (M.2.1.cls ≠ "java/lang/invoke/MethodHandle") && decide (M.2.1.cls ≠ "java/lang/invoke/VarHandle") && decide ((parseMethodDescriptor M.2.1.desc).map (fun d => d.parameters.length) = some M.2.2.2.2.2.2.1) &&
  (decide (M.2.2.2.2.1 = none) || decide (M.2.2.2.2.1 = some .int) || decide (M.2.2.2.2.1 = some .boolean) || decide (M.2.2.2.2.1 = some .long))
/-- how a method may be called -/
def mj_kk (q : Nat × Nat × Nat × Nat × Nat) : Bool := match q.2.2.2.1 with
  | 5 => true
  | 6 => true
  | 8 => true
  | 9 => true
  | k => (match mj_ms[q.2.2.1]?, mj_mp[q.2.2.1]? with
    | some M, some p => if k = 1 ∨ k = 2 then mj_w p.2.2.1 (.static M.2.1) else if k = 0 then mj_w p.2.2.1 (.instanceMethod M.2.1) && mj_w p.2.2.2 (.selects M.2.1.cls M.2.1 M.2.1) && Nat.ble (M.1 + 1) 12 else mj_w p.2.2.1 (.instanceMethod M.2.1) && decide (M.2.1.name = "<init>") && decide (M.2.2.2.2.1 = none)
    | _, _ => false)

theorem mj_fl_ok : mj_fl.all mj_flk = true := by decide +kernel
theorem mj_ml_ok0 : mj_ml0.all mj_mlk = true := by decide +kernel
theorem mj_kk_ok0 : mj_ml0.all mj_kk = true := by decide +kernel
theorem mj_ml_ok1 : mj_ml1.all mj_mlk = true := by decide +kernel
theorem mj_kk_ok1 : mj_ml1.all mj_kk = true := by decide +kernel
theorem mj_ml_ok2 : mj_ml2.all mj_mlk = true := by decide +kernel
theorem mj_kk_ok2 : mj_ml2.all mj_kk = true := by decide +kernel
theorem mj_ml_ok3 : mj_ml3.all mj_mlk = true := by decide +kernel
theorem mj_kk_ok3 : mj_ml3.all mj_kk = true := by decide +kernel
theorem mj_ml_ok4 : mj_ml4.all mj_mlk = true := by decide +kernel
theorem mj_kk_ok4 : mj_ml4.all mj_kk = true := by decide +kernel
theorem mj_ml_ok5 : mj_ml5.all mj_mlk = true := by decide +kernel
theorem mj_kk_ok5 : mj_ml5.all mj_kk = true := by decide +kernel
theorem mj_ml_ok6 : mj_ml6.all mj_mlk = true := by decide +kernel
theorem mj_kk_ok6 : mj_ml6.all mj_kk = true := by decide +kernel
theorem mj_ml_ok7 : mj_ml7.all mj_mlk = true := by decide +kernel
theorem mj_kk_ok7 : mj_ml7.all mj_kk = true := by decide +kernel
theorem mj_ml_ok8 : mj_ml8.all mj_mlk = true := by decide +kernel
theorem mj_kk_ok8 : mj_ml8.all mj_kk = true := by decide +kernel
set_option maxRecDepth 100000 in
theorem mj_cd_X0g0 : mj_mpX0g0.map (fun q => (mj_tb (q.1 / 1000))[q.1 % 1000]?) = mj_msX0g0.map (fun M => some (Jvm.Cond.code M.2.1 M.2.2.1 M.2.2.2.1 M.2.2.2.2.1)) := rfl
set_option maxRecDepth 100000 in
theorem mj_cd_X1g1 : mj_mpX1g1.map (fun q => (mj_tb (q.1 / 1000))[q.1 % 1000]?) = mj_msX1g1.map (fun M => some (Jvm.Cond.code M.2.1 M.2.2.1 M.2.2.2.1 M.2.2.2.2.1)) := rfl
set_option maxRecDepth 100000 in
theorem mj_cd_X2g2 : mj_mpX2g2.map (fun q => (mj_tb (q.1 / 1000))[q.1 % 1000]?) = mj_msX2g2.map (fun M => some (Jvm.Cond.code M.2.1 M.2.2.1 M.2.2.2.1 M.2.2.2.2.1)) := rfl
set_option maxRecDepth 100000 in
theorem mj_cd_X3g3 : mj_mpX3g3.map (fun q => (mj_tb (q.1 / 1000))[q.1 % 1000]?) = mj_msX3g3.map (fun M => some (Jvm.Cond.code M.2.1 M.2.2.1 M.2.2.2.1 M.2.2.2.2.1)) := rfl
set_option maxRecDepth 100000 in
theorem mj_cd_X4g4 : mj_mpX4g4.map (fun q => (mj_tb (q.1 / 1000))[q.1 % 1000]?) = mj_msX4g4.map (fun M => some (Jvm.Cond.code M.2.1 M.2.2.1 M.2.2.2.1 M.2.2.2.2.1)) := rfl
set_option maxRecDepth 100000 in
theorem mj_cd_X5g5 : mj_mpX5g5.map (fun q => (mj_tb (q.1 / 1000))[q.1 % 1000]?) = mj_msX5g5.map (fun M => some (Jvm.Cond.code M.2.1 M.2.2.1 M.2.2.2.1 M.2.2.2.2.1)) := rfl
set_option maxRecDepth 100000 in
theorem mj_cd_X6g6 : mj_mpX6g6.map (fun q => (mj_tb (q.1 / 1000))[q.1 % 1000]?) = mj_msX6g6.map (fun M => some (Jvm.Cond.code M.2.1 M.2.2.1 M.2.2.2.1 M.2.2.2.2.1)) := rfl
set_option maxRecDepth 100000 in
theorem mj_cd_X7g7 : mj_mpX7g7.map (fun q => (mj_tb (q.1 / 1000))[q.1 % 1000]?) = mj_msX7g7.map (fun M => some (Jvm.Cond.code M.2.1 M.2.2.1 M.2.2.2.1 M.2.2.2.2.1)) := rfl
set_option maxRecDepth 100000 in
theorem mj_cd_X8g8 : mj_mpX8g8.map (fun q => (mj_tb (q.1 / 1000))[q.1 % 1000]?) = mj_msX8g8.map (fun M => some (Jvm.Cond.code M.2.1 M.2.2.1 M.2.2.2.1 M.2.2.2.2.1)) := rfl
set_option maxRecDepth 100000 in
theorem mj_cd_X9g9 : mj_mpX9g9.map (fun q => (mj_tb (q.1 / 1000))[q.1 % 1000]?) = mj_msX9g9.map (fun M => some (Jvm.Cond.code M.2.1 M.2.2.1 M.2.2.2.1 M.2.2.2.2.1)) := rfl
set_option maxRecDepth 100000 in
theorem mj_cd_X10g10 : mj_mpX10g10.map (fun q => (mj_tb (q.1 / 1000))[q.1 % 1000]?) = mj_msX10g10.map (fun M => some (Jvm.Cond.code M.2.1 M.2.2.1 M.2.2.2.1 M.2.2.2.2.1)) := rfl
set_option maxRecDepth 100000 in
theorem mj_cd_X11g11 : mj_mpX11g11.map (fun q => (mj_tb (q.1 / 1000))[q.1 % 1000]?) = mj_msX11g11.map (fun M => some (Jvm.Cond.code M.2.1 M.2.2.1 M.2.2.2.1 M.2.2.2.2.1)) := rfl
set_option maxRecDepth 100000 in
theorem mj_cd_Jg12 : mj_mpJg12.map (fun q => (mj_tb (q.1 / 1000))[q.1 % 1000]?) = mj_msJg12.map (fun M => some (Jvm.Cond.code M.2.1 M.2.2.1 M.2.2.2.1 M.2.2.2.2.1)) := rfl
set_option maxRecDepth 100000 in
theorem mj_cd_X11g13 : mj_mpX11g13.map (fun q => (mj_tb (q.1 / 1000))[q.1 % 1000]?) = mj_msX11g13.map (fun M => some (Jvm.Cond.code M.2.1 M.2.2.1 M.2.2.2.1 M.2.2.2.2.1)) := rfl
theorem mj_mk_X0g0 : (mj_msX0g0.zip mj_mpX0g0).all (fun q => mj_mk q.1 q.2) = true := by decide +kernel
theorem mj_mk_X1g1 : (mj_msX1g1.zip mj_mpX1g1).all (fun q => mj_mk q.1 q.2) = true := by decide +kernel
theorem mj_mk_X2g2 : (mj_msX2g2.zip mj_mpX2g2).all (fun q => mj_mk q.1 q.2) = true := by decide +kernel
theorem mj_mk_X3g3 : (mj_msX3g3.zip mj_mpX3g3).all (fun q => mj_mk q.1 q.2) = true := by decide +kernel
theorem mj_mk_X4g4 : (mj_msX4g4.zip mj_mpX4g4).all (fun q => mj_mk q.1 q.2) = true := by decide +kernel
theorem mj_mk_X5g5 : (mj_msX5g5.zip mj_mpX5g5).all (fun q => mj_mk q.1 q.2) = true := by decide +kernel
theorem mj_mk_X6g6 : (mj_msX6g6.zip mj_mpX6g6).all (fun q => mj_mk q.1 q.2) = true := by decide +kernel
theorem mj_mk_X7g7 : (mj_msX7g7.zip mj_mpX7g7).all (fun q => mj_mk q.1 q.2) = true := by decide +kernel
theorem mj_mk_X8g8 : (mj_msX8g8.zip mj_mpX8g8).all (fun q => mj_mk q.1 q.2) = true := by decide +kernel
theorem mj_mk_X9g9 : (mj_msX9g9.zip mj_mpX9g9).all (fun q => mj_mk q.1 q.2) = true := by decide +kernel
theorem mj_mk_X10g10 : (mj_msX10g10.zip mj_mpX10g10).all (fun q => mj_mk q.1 q.2) = true := by decide +kernel
theorem mj_mk_X11g11 : (mj_msX11g11.zip mj_mpX11g11).all (fun q => mj_mk q.1 q.2) = true := by decide +kernel
theorem mj_mk_Jg12 : (mj_msJg12.zip mj_mpJg12).all (fun q => mj_mk q.1 q.2) = true := by decide +kernel
theorem mj_mk_X11g13 : (mj_msX11g13.zip mj_mpX11g13).all (fun q => mj_mk q.1 q.2) = true := by decide +kernel
theorem mj_rk_X0g0 : mj_msX0g0.all (fun M => M.2.2.2.2.2.2.2.all (mj_rk M)) = true := by decide +kernel
theorem mj_rk_X1g1 : mj_msX1g1.all (fun M => M.2.2.2.2.2.2.2.all (mj_rk M)) = true := by decide +kernel
theorem mj_rk_X2g2 : mj_msX2g2.all (fun M => M.2.2.2.2.2.2.2.all (mj_rk M)) = true := by decide +kernel
theorem mj_rk_X3g3 : mj_msX3g3.all (fun M => M.2.2.2.2.2.2.2.all (mj_rk M)) = true := by decide +kernel
theorem mj_rk_X4g4 : mj_msX4g4.all (fun M => M.2.2.2.2.2.2.2.all (mj_rk M)) = true := by decide +kernel
theorem mj_rk_X5g5 : mj_msX5g5.all (fun M => M.2.2.2.2.2.2.2.all (mj_rk M)) = true := by decide +kernel
theorem mj_rk_X6g6 : mj_msX6g6.all (fun M => M.2.2.2.2.2.2.2.all (mj_rk M)) = true := by decide +kernel
theorem mj_rk_X7g7 : mj_msX7g7.all (fun M => M.2.2.2.2.2.2.2.all (mj_rk M)) = true := by decide +kernel
theorem mj_rk_X8g8 : mj_msX8g8.all (fun M => M.2.2.2.2.2.2.2.all (mj_rk M)) = true := by decide +kernel
theorem mj_rk_X9g9 : mj_msX9g9.all (fun M => M.2.2.2.2.2.2.2.all (mj_rk M)) = true := by decide +kernel
theorem mj_rk_X10g10 : mj_msX10g10.all (fun M => M.2.2.2.2.2.2.2.all (mj_rk M)) = true := by decide +kernel
theorem mj_rk_X11g11 : mj_msX11g11.all (fun M => M.2.2.2.2.2.2.2.all (mj_rk M)) = true := by decide +kernel
theorem mj_rk_Jg12 : mj_msJg12.all (fun M => M.2.2.2.2.2.2.2.all (mj_rk M)) = true := by decide +kernel
theorem mj_rk_X11g13 : mj_msX11g13.all (fun M => M.2.2.2.2.2.2.2.all (mj_rk M)) = true := by decide +kernel
