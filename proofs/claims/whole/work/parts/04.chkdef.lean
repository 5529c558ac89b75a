/-! what a code list must be -/
def tgt (C : List Ent) (t : Nat) : Nat := match C[t]? with
  | some e => e.1
  | none => 0
def pcA (n k : Nat) : Nat := tgt (cd n) k
def ilen (i : Instr) : Nat := match i with
  | .iload _ | .aload _ | .lload _ | .istore _ | .astore _ | .bipush _ | .ldc _ => 2
  | .sipush _ | .iinc _ _ | .ldc_w _ | .ldc2_w _ => 3
  | _ => 1
def rel (C : List Ent) (pc : Nat) (t : Int) : Int := (tgt C t.toNat : Int) - (pc : Int)
def okOp (oc : Nat) (ret : Option FieldType) (C : List Ent) (e : Ent) : Bool := match e.2.2.2.1 with
  | .nop => true
  | .goto _ => decide (e.2.1 = .goto (rel C e.1 e.2.2.2.2.1) ∧ e.2.2.1 = 3)
  | .ifCond c _ => decide (e.2.1 = .ifCond c (rel C e.1 e.2.2.2.2.1) ∧ e.2.2.1 = 3)
  | .if_icmp c _ => decide (e.2.1 = .if_icmp c (rel C e.1 e.2.2.2.2.1) ∧ e.2.2.1 = 3)
  | .ifnull _ => decide (e.2.1 = .ifnull (rel C e.1 e.2.2.2.2.1) ∧ e.2.2.1 = 3)
  | .ifnonnull _ => decide (e.2.1 = .ifnonnull (rel C e.1 e.2.2.2.2.1) ∧ e.2.2.1 = 3)
  | .tableswitch D lo hi ts => decide (e.2.1 = .tableswitch (rel C e.1 D) lo hi (ts.map (rel C e.1)) ∧ hi + 1 = lo + ts.size)
  | .lookupswitch D ps => decide (e.2.1 = .lookupswitch (rel C e.1 D) (ps.map (fun q => (q.1, rel C e.1 q.2))) ∧ ((ps.map (fun q => (q.1, rel C e.1 q.2))).toList.zip ((ps.map (fun q => (q.1, rel C e.1 q.2))).toList.drop 1)).all (fun (a, next) => a.1 < next.1) = true)
  | .getfield f => decide (f < 64 ∧ e.2.1 = .getfield (e.2.2.2.2.1 % 65536) ∧ e.2.2.1 = 3 ∧ (oc, e.2.2.2.2.1 % 65536, 64 * (e.2.2.2.2.1 / 65536) + f) ∈ flQ)
  | .putfield f => decide (f < 64 ∧ e.2.1 = .putfield (e.2.2.2.2.1 % 65536) ∧ e.2.2.1 = 3 ∧ (oc, e.2.2.2.2.1 % 65536, 64 * (e.2.2.2.2.1 / 65536) + f) ∈ flQ ∧ 64 * (e.2.2.2.2.1 / 65536) + f ∈ piQ)
  | .putstatic f => decide (f < 64 ∧ e.2.1 = .putfield (e.2.2.2.2.1 % 65536) ∧ e.2.2.1 = 3 ∧ (oc, e.2.2.2.2.1 % 65536, 64 * (e.2.2.2.2.1 / 65536) + f) ∈ flQ ∧ 64 * (e.2.2.2.2.1 / 65536) + f ∈ pzQ)
  | .getstatic j => decide (e.2.1 = .getstatic e.2.2.2.2.1 ∧ e.2.2.1 = 3 ∧ (oc, e.2.2.2.2.1, j) ∈ stQ)
  | .invokevirtual q => decide (e.2.1 = .invokevirtual e.2.2.2.2.1 ∧ e.2.2.1 = 3 ∧ (oc, e.2.2.2.2.1, q) ∈ cvQ)
  | .invokestatic q => decide (e.2.1 = .invokestatic e.2.2.2.2.1 ∧ e.2.2.1 = 3 ∧ (oc, e.2.2.2.2.1, q) ∈ csQ)
  | .invokespecial q => decide (e.2.1 = .invokestatic e.2.2.2.2.1 ∧ e.2.2.1 = 3 ∧ (oc, e.2.2.2.2.1, q) ∈ cnQ)
  | .fadd => decide (e.2.1 = .invokestatic e.2.2.2.2.1 ∧ e.2.2.1 = 3 ∧ (oc, e.2.2.2.2.1) ∈ maxQ)
  | .fsub => decide (e.2.1 = .invokestatic e.2.2.2.2.1 ∧ e.2.2.1 = 3 ∧ (oc, e.2.2.2.2.1) ∈ minQ)
  | .freturn => decide (e.2.1 = .ireturn ∧ e.2.2.1 = 1 ∧ ret = some .boolean)
  | .ireturn => decide (e.2.1 = .ireturn ∧ e.2.2.1 = 1 ∧ ret = some .int)
  | .areturn => decide (e.2.1 = .areturn ∧ e.2.2.1 = 1) && (match ret with
    | some (.object _) => true
    | _ => false)
  | .return_ => decide (e.2.1 = .return_ ∧ e.2.2.1 = 1 ∧ ret = none)
  | .iconst v => decide (e.2.1 = .iconst v ∧ e.2.2.1 = 1 ∧ e.2.2.2.2.2 = Int32.ofInt v)
  | .bipush v => decide (e.2.1 = .bipush v ∧ e.2.2.1 = 2 ∧ e.2.2.2.2.2 = (Int8.ofInt v).toInt32)
  | .sipush v => decide (e.2.1 = .sipush v ∧ e.2.2.1 = 3 ∧ e.2.2.2.2.2 = (Int16.ofInt v).toInt32)
  | .iinc i v => decide (e.2.1 = .iinc i v ∧ e.2.2.1 = 3 ∧ e.2.2.2.2.2 = Int32.ofInt v)
  | .ldc i => decide (e.2.1 = .ldc i ∧ e.2.2.1 = 2 ∧ (oc, i, e.2.2.2.2.2) ∈ cstQ)
  | .ldc_w i => decide (e.2.1 = .ldc_w i ∧ e.2.2.1 = 3 ∧ (oc, i, e.2.2.2.2.2) ∈ cstQ)
  | .ldc2_w i => decide (e.2.1 = .ldc2_w i ∧ e.2.2.1 = 3 ∧ (oc, i, e.2.2.2.2.2) ∈ cst2Q)
  | op => decide (e.2.1 = op ∧ e.2.2.1 = ilen op)
def adj : List Ent → Bool
  | a :: b :: r => decide (b.1 = a.1 + a.2.2.1) && adj (b :: r)
  | _ => true
def isSt (i : Instr) : Bool := match i with
  | .istore _ | .astore _ | .istore_n _ | .astore_n _ | .iinc _ _ => true
  | _ => false
def sidx (i : Instr) : Nat := match i with
  | .istore i | .astore i => i
  | .istore_n i | .astore_n i => i
  | .iinc i _ => i
  | _ => 0
def chk (n : Nat) : Bool := (cd n).all (fun e => decide (decode (mB n) e.1 = .ok (e.2.1, e.2.2.1)) && (okOp (mO n) (mR n) (cd n) e && decide (sidx e.2.2.2.1 < mL n + 1 ∧ (isSt e.2.2.2.1 = true → sidx e.2.2.2.1 < mL n)))) && adj (cd n) && decide (cnm (mO n) = (mY n).cls) && Nat.beq (tgt (cd n) 0) 0
