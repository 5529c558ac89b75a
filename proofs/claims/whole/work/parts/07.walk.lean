/-! the walk of a code list as one Prop that computes -/
/-- P, and Q behind it; not an And, so that no row takes a post for it -/
abbrev ckA (P Q : Prop) : Prop := Nonempty (PLift (P ∧ Q))
theorem ckA.out {P Q : Prop} (h : ckA P Q) : P ∧ Q := h.elim fun x => x.down
theorem ckI {P Q : Prop} (p : P) (q : Q) : ckA P Q := ⟨⟨p, q⟩⟩
def bin (f : Int32 → Int32 → Int32) (st : List Value) (nx : List Value → Prop) : Prop := match st with
  | .int y :: .int x :: r => nx (.int (f x y) :: r)
  | _ => False
def binl (f : Int64 → Int64 → Int64) (st : List Value) (nx : List Value → Prop) : Prop := match st with
  | .long y :: .long x :: r => nx (.long (f x y) :: r)
  | _ => False
def brc (c : ClassFile.Cond) (x y : Int32) (j nx : Prop) : Prop := match c with
  | .eq => (x = y → j) ∧ (¬ x = y → nx)
  | .ne => (¬ x = y → j) ∧ (x = y → nx)
  | .lt => (x < y → j) ∧ (¬ x < y → nx)
  | .ge => (y ≤ x → j) ∧ (¬ y ≤ x → nx)
  | .gt => (y < x → j) ∧ (¬ y < x → nx)
  | .le => (x ≤ y → j) ∧ (¬ x ≤ y → nx)
def swc (x : Int32) (j : Nat → Prop) (D : Nat) : List (Int × Int) → Prop
  | [] => j D
  | (a, t) :: r => (x.toInt = a → j t.toNat) ∧ (¬ x.toInt = a → swc x j D r)
def swt (lo : Int) : List Int → List (Int × Int)
  | [] => []
  | t :: r => (lo, t) :: swt (lo + 1) r
def gfc (i c f : Nat) (μ : Mem) (nx : Value → Prop) : Prop := match shL[i]? with
  | some (.inl (ci, fs)) => cond (Nat.beq ci c) (match fs[f]? with
    | some (some r) => nx (.ref r)
    | some none => nx (.int (μ i f))
    | none => False) False
  | _ => False
def pfc (i c f : Nat) (μ : Mem) (x : Int32) (nx : Mem → Prop) : Prop := match shL[i]? with
  | some (.inl (ci, fs)) => cond (Nat.beq ci c) (match fs[f]? with
    | some none => nx (wr μ i f x)
    | _ => False) False
  | _ => False
/-- an array's read: of the world, a static one, or the script -/
def aldc (X : Cx) (ty : FieldType) (i : Nat) (x : Int32) (μ : Mem) (nx : Int32 → Prop) : Prop := match shL[i]? with
  | some (.inr (.inl (t, n))) => cond (decide (t = ty)) (ckA (vp_in x n) (nx (μ i x.toNatClampNeg))) False
  | some _ => False
  | none => match stL[i - 1000]? with
    | some (_, _, _, t, vs) => cond (decide (t = ty) && Nat.ble 1000 i) (ckA (vp_in x vs.length) (nx (vs.getD x.toNatClampNeg 0))) False
    | none => match xsc X with
      | some (L, xs) => cond (decide (ty = .int) && Nat.beq i 2000) (ckA (vp_in x L) (nx (xs x.toNatClampNeg))) False
      | none => False
def alnc (X : Cx) (i : Nat) (nx : Int32 → Prop) : Prop := match shL[i]? with
  | some (.inr (.inl (_, n))) => nx (Int32.ofNat n)
  | some (.inr (.inr (_, ids))) => nx (Int32.ofNat ids.length)
  | some _ => False
  | none => match stL[i - 1000]? with
    | some (_, _, _, _, vs) => cond (Nat.ble 1000 i) (nx (Int32.ofNat vs.length)) False
    | none => match xsc X with
      | some (L, _) => cond (Nat.beq i 2000) (nx (Int32.ofNat L)) False
      | none => False
def astc (ty : FieldType) (i : Nat) (x v : Int32) (μ : Mem) (nx : Mem → Prop) : Prop := match shL[i]? with
  | some (.inr (.inl (t, n))) => cond (decide (t = ty)) (ckA (vp_in x n) (nx (wr μ i x.toNatClampNeg v))) False
  | _ => False
def aaldc (i : Nat) (x : Int32) (nx : Value → Prop) : Prop := match shL[i]? with
  | some (.inr (.inr (_, ids))) => ckA (vp_in x ids.length) (∀ r, ids[x.toNatClampNeg]? = some r → nx (.ref r))
  | _ => False
def csum (st : List Value) : Nat := (st.map fun v => v.category).sum
/-- what stands on top of the stack, bottom first: n values -/
def popN : Nat → List Value → List Value → Option (List Value × List Value)
  | 0, acc, st => some (acc, st)
  | n + 1, acc, v :: st => popN n (v :: acc) st
  | _ + 1, _, [] => none
def rcv (i m : Nat) : Prop := ∃ fs, shL[i]? = some (.inl (mO m, fs))
def retv (r : Option Value) (m : Nat) : Prop := match mR m with
  | none => r = none
  | some (.object _) => ∃ v, r = some v
  | some _ => ∃ x : Int32, r = some (.int x)
/-- a call: a contract of fewer frames, and what follows for every answer -/
def clc0 (X : Cx) (d m : Nat) (as rest : List Value) (μ : Mem) (nx : List Value → Mem → Prop) : Prop :=
  cond (Nat.ble (csum rest) 8) (∃ (d' : Nat) (post : Option Value → Mem → Prop), d' < d ∧ Mt X m d' as μ post ∧ ∀ r μ', post r μ' → nx (r.toList ++ rest) μ') False
abbrev clc (X : Cx) (d m : Nat) (as rest : List Value) (μ : Mem) (nx : List Value → Mem → Prop) : Prop := Nonempty (PLift (clc0 X d m as rest μ nx))
theorem cl_i {X : Cx} {d m d' : Nat} {as rest : List Value} {μ : Mem} {nx : List Value → Mem → Prop} {post : Option Value → Mem → Prop} (hc : Nat.ble (csum rest) 8 = true) (hd : d' < d) (hM : Mt X m d' as μ post) (k : ∀ r μ', post r μ' → nx (r.toList ++ rest) μ') : clc X d m as rest μ nx := by
  refine ⟨⟨?_⟩⟩
  unfold clc0
  rw [hc]
  exact ⟨d', post, hd, hM, k⟩
def lcat (v : Value) : Bool := match v with
  | .long _ | .double _ => false
  | _ => true
def stp (X : Cx) (d : Nat) (K : Option Value → Mem → Prop) (J : Nat → Lc → List Value → Mem → Prop) (e : Ent) (nx : Lc → List Value → Mem → Prop) (L : Lc) (st : List Value) (μ : Mem) : Prop :=
  match e.2.2.2.1 with
  | .iload i => (match L[i]? with
    | some (some (.int x)) => nx L (.int x :: st) μ
    | _ => False)
  | .iload_n i => (match L[(i : Nat)]? with
    | some (some (.int x)) => nx L (.int x :: st) μ
    | _ => False)
  | .lload_n i => (match L[(i : Nat)]? with
    | some (some (.long x)) => nx L (.long x :: st) μ
    | _ => False)
  | .aload i => (match L[i]? with
    | some (some (.ref x)) => nx L (.ref x :: st) μ
    | some (some .null) => nx L (.null :: st) μ
    | _ => False)
  | .aload_n i => (match L[(i : Nat)]? with
    | some (some (.ref x)) => nx L (.ref x :: st) μ
    | some (some .null) => nx L (.null :: st) μ
    | _ => False)
  | .istore i => (match st with
    | .int x :: r => cond (stok L i) (nx (L.set i (some (.int x))) r μ) False
    | _ => False)
  | .istore_n i => (match st with
    | .int x :: r => cond (stok L i) (nx (L.set i (some (.int x))) r μ) False
    | _ => False)
  | .astore i => (match st with
    | .ref x :: r => cond (stok L i) (nx (L.set i (some (.ref x))) r μ) False
    | .null :: r => cond (stok L i) (nx (L.set i (some .null)) r μ) False
    | _ => False)
  | .astore_n i => (match st with
    | .ref x :: r => cond (stok L i) (nx (L.set i (some (.ref x))) r μ) False
    | .null :: r => cond (stok L i) (nx (L.set i (some .null)) r μ) False
    | _ => False)
  | .iinc i _ => (match L[i]? with
    | some (some (.int x)) => cond (stok L i) (nx (L.set i (some (.int (x + e.2.2.2.2.2)))) st μ) False
    | _ => False)
  | .iconst _ => nx L (.int e.2.2.2.2.2 :: st) μ
  | .bipush _ => nx L (.int e.2.2.2.2.2 :: st) μ
  | .sipush _ => nx L (.int e.2.2.2.2.2 :: st) μ
  | .ldc _ => nx L (.int e.2.2.2.2.2 :: st) μ
  | .ldc_w _ => nx L (.int e.2.2.2.2.2 :: st) μ
  | .ldc2_w _ => nx L (.long (l2v e.2.2.2.2.2) :: st) μ
  | .aconst_null => nx L (.null :: st) μ
  | .iadd => bin (fun x y => x + y) st (fun s => nx L s μ)
  | .isub => bin (fun x y => x - y) st (fun s => nx L s μ)
  | .imul => bin (fun x y => x * y) st (fun s => nx L s μ)
  | .iand => bin (fun x y => x &&& y) st (fun s => nx L s μ)
  | .ior => bin (fun x y => x ||| y) st (fun s => nx L s μ)
  | .ixor => bin (fun x y => x ^^^ y) st (fun s => nx L s μ)
  | .ishl => bin (fun x y => x <<< (y &&& 31)) st (fun s => nx L s μ)
  | .ishr => bin (fun x y => x >>> (y &&& 31)) st (fun s => nx L s μ)
  | .iushr => bin (fun x y => (x.toUInt32 >>> (y.toUInt32 &&& Int32.toUInt32 31)).toInt32) st (fun s => nx L s μ)
  | .idiv => (match st with
    | .int y :: .int x :: r => ckA (¬ y = 0) (nx L (.int (x / y) :: r) μ)
    | _ => False)
  | .irem => (match st with
    | .int y :: .int x :: r => ckA (¬ y = 0) (nx L (.int (x - x / y * y) :: r) μ)
    | _ => False)
  | .ineg => (match st with
    | .int x :: r => nx L (.int (-x) :: r) μ
    | _ => False)
  | .i2l => (match st with
    | .int x :: r => nx L (.long x.toInt64 :: r) μ
    | _ => False)
  | .l2i => (match st with
    | .long x :: r => nx L (.int x.toInt32 :: r) μ
    | _ => False)
  | .i2b => (match st with
    | .int x :: r => nx L (.int x.toInt8.toInt32 :: r) μ
    | _ => False)
  | .i2s => (match st with
    | .int x :: r => nx L (.int x.toInt16.toInt32 :: r) μ
    | _ => False)
  | .ladd => binl (fun x y => x + y) st (fun s => nx L s μ)
  | .land => binl (fun x y => x &&& y) st (fun s => nx L s μ)
  | .lor => binl (fun x y => x ||| y) st (fun s => nx L s μ)
  | .lcmp => (match st with
    | .long y :: .long x :: r => nx L (.int (lg_cmp x y) :: r) μ
    | _ => False)
  | .lshl => (match st with
    | .int y :: .long x :: r => nx L (.long (x <<< (y.toInt64 &&& 63)) :: r) μ
    | _ => False)
  | .lshr => (match st with
    | .int y :: .long x :: r => nx L (.long (x >>> (y.toInt64 &&& 63)) :: r) μ
    | _ => False)
  | .lushr => (match st with
    | .int y :: .long x :: r => nx L (.long ((x.toUInt64 >>> (y.toInt64.toUInt64 &&& Int64.toUInt64 63)).toInt64) :: r) μ
    | _ => False)
  | .dup => (match st with
    | v :: r => cond (lcat v) (nx L (v :: v :: r) μ) False
    | _ => False)
  | .dup2 => (match st with
    | v :: w :: r => cond (lcat v && lcat w) (nx L (v :: w :: v :: w :: r) μ) False
    | _ => False)
  | .pop => (match st with
    | v :: r => cond (lcat v) (nx L r μ) False
    | _ => False)
  | .goto _ => J e.2.2.2.2.1 L st μ
  | .ifCond c _ => (match st with
    | .int x :: r => brc c x 0 (J e.2.2.2.2.1 L r μ) (nx L r μ)
    | _ => False)
  | .if_icmp c _ => (match st with
    | .int y :: .int x :: r => brc c x y (J e.2.2.2.2.1 L r μ) (nx L r μ)
    | _ => False)
  | .ifnull _ => (match st with
    | .null :: r => J e.2.2.2.2.1 L r μ
    | .ref _ :: r => nx L r μ
    | _ => False)
  | .ifnonnull _ => (match st with
    | .null :: r => nx L r μ
    | .ref _ :: r => J e.2.2.2.2.1 L r μ
    | _ => False)
  | .tableswitch D lo _ ts => (match st with
    | .int x :: r => swc x (fun t => J t L r μ) D.toNat (swt lo ts.toList)
    | _ => False)
  | .lookupswitch D ps => (match st with
    | .int x :: r => swc x (fun t => J t L r μ) D.toNat ps.toList
    | _ => False)
  | .getfield f => (match st with
    | .ref i :: r => gfc i (e.2.2.2.2.1 / 65536) f μ (fun v => nx L (v :: r) μ)
    | _ => False)
  | .putfield f => (match st with
    | .int x :: .ref i :: r => pfc i (e.2.2.2.2.1 / 65536) f μ x (fun μ => nx L r μ)
    | _ => False)
  | .putstatic f => (match st with
    | .int x :: .ref i :: r => ckA (x = 0 ∨ x = 1) (pfc i (e.2.2.2.2.1 / 65536) f μ x (fun μ => nx L r μ))
    | _ => False)
  | .getstatic j => nx L (.ref (1000 + j) :: st) μ
  | .iaload => (match st with
    | .int x :: .ref i :: r => aldc X .int i x μ (fun v => nx L (.int v :: r) μ)
    | _ => False)
  | .baload => (match st with
    | .int x :: .ref i :: r => aldc X .boolean i x μ (fun v => nx L (.int v :: r) μ)
    | _ => False)
  | .caload => (match st with
    | .int x :: .ref i :: r => aldc X .char i x μ (fun v => nx L (.int v :: r) μ)
    | _ => False)
  | .iastore => (match st with
    | .int v :: .int x :: .ref i :: r => astc .int i x v μ (fun μ => nx L r μ)
    | _ => False)
  | .bastore => (match st with
    | .int v :: .int x :: .ref i :: r => ckA (v = 0 ∨ v = 1) (astc .boolean i x v μ (fun μ => nx L r μ))
    | _ => False)
  | .aaload => (match st with
    | .int x :: .ref i :: r => aaldc i x (fun v => nx L (v :: r) μ)
    | _ => False)
  | .arraylength => (match st with
    | .ref i :: r => alnc X i (fun v => nx L (.int v :: r) μ)
    | _ => False)
  | .fadd => (match st with
    | .int y :: .int x :: r => cond (Nat.ble 1 d && Nat.ble (csum r) 8) (nx L (.int (if x < y then y else x) :: r) μ) False
    | _ => False)
  | .fsub => (match st with
    | .int y :: .int x :: r => cond (Nat.ble 1 d && Nat.ble (csum r) 8) (nx L (.int (if y < x then y else x) :: r) μ) False
    | _ => False)
  | .invokevirtual m => (match popN (mN m) [] st with
    | some (as, .ref i :: r) => ckA (rcv i m) (clc X d m (.ref i :: as) r μ (fun s μ => nx L s μ))
    | _ => False)
  | .invokestatic m => (match popN (mN m) [] st with
    | some (as, r) => clc X d m as r μ (fun s μ => nx L s μ)
    | _ => False)
  | .invokespecial m => (match popN (mN m) [] st with
    | some (as, r) => clc X d m as r μ (fun s μ => nx L s μ)
    | _ => False)
  | .ireturn => (match st with
    | [.int x] => K (some (.int x)) μ
    | _ => False)
  | .freturn => (match st with
    | [.int x] => ckA (x = 0 ∨ x = 1) (K (some (.int x)) μ)
    | _ => False)
  | .areturn => (match st with
    | [.ref x] => K (some (.ref x)) μ
    | [.null] => K (some .null) μ
    | _ => False)
  | .return_ => (match st with
    | [] => K none μ
    | _ => False)
  | _ => False
def cut (k : Nat) : List Nat → Bool
  | [] => false
  | a :: r => Nat.beq a k || cut k r
def wpp (X : Cx) (d : Nat) (K : Option Value → Mem → Prop) (J : Nat → Lc → List Value → Mem → Prop) (cuts : List Nat) : List Ent → Nat → Lc → List Value → Mem → Prop
  | [], _, _, _, _ => False
  | e :: cs, k, L, st, μ => stp X d K J e (fun L st μ => cond (cut (k + 1) cuts && !cs.isEmpty) (J (k + 1) L st μ) (wpp X d K J cuts cs (k + 1) L st μ)) L st μ
/-- what stays of an invocation of method n -/
def Fx (X : Cx) (n d : Nat) (p : Program) (R : Room) (s : State) (m : MethodId) (args : Array Value) (meth : Method) (c : Code) (cells slots : Nat) (A : Nat → Prop) : Prop :=
  p.tables.exec = Jvm.exec ∧ c.code = mB n ∧ c.maxLocals = mL n ∧ s.vm.findClass (cnm (mO n)) = some m.cls ∧ (∀ w ∈ gt, w.before args s = true) ∧ Ex X A s ∧ (∀ q, wA X q → A q) ∧ d ≤ R.frames ∧ 40 * d ≤ R.locals ∧ cells ≤ R.cells ∧ slots ≤ R.slots
def RetOk (X : Cx) (n : Nat) (i : Instr) (r : Option Value) (stk : List Value) : Prop :=
  (i = .ireturn ∧ ∃ v ty, mR n = some ty ∧ r = some (.int v) ∧ stk = [.int v] ∧ narrow ty (.int v) = .int v) ∨ (i = .return_ ∧ mR n = none ∧ r = none ∧ stk = []) ∨ (i = .areturn ∧ ∃ v C, mR n = some (.object C) ∧ r = some v ∧ stk = [tv (xad X) v] ∧ (v = .null ∨ ∃ a, v = .ref a))
/-- what a return must meet -/
def Rt (X : Cx) (n : Nat) (p : Program) (e : Env) (R : Room) (s : State) (m : MethodId) (args : Array Value) (below : List Frame) (meth : Method) (c : Code) (cells slots : Nat) (A : Nat → Prop) (K : Option Value → Mem → Prop) (Q : State → Prop) : Prop :=
  ∀ (r : Option Value) (μ : Mem) (H : Heap) (locs : List Loc) (pc : Nat) (i : Instr) (ls : Array Slot) (stk : List Value), K r μ → va_P (xG X) vwCl (wld X μ) H → va_S A s.heap H locs → decode (mB n) pc = .ok (i, 1) → RetOk X n i r stk → W p (xL X) e R s m args below meth c H locs cells slots Q (F0 m pc ls stk)
/-- from instruction k of method n, with locals, stack and memory so, the machine comes to a return that K allows -/
def VV (X : Cx) (n d : Nat) (K : Option Value → Mem → Prop) (k : Nat) (L : Lc) (st : List Value) (μ : Mem) : Prop :=
  ∀ (p : Program) (e : Env) (R : Room) (s : State) (m : MethodId) (args : Array Value) (below : List Frame) (meth : Method) (c : Code) (H : Heap) (locs : List Loc) (cells slots : Nat) (A : Nat → Prop) (Q : State → Prop) (ls : Array Slot),
    Fx X n d p R s m args meth c cells slots A → va_P (xG X) vwCl (wld X μ) H → va_S A s.heap H locs → LH X ls (mL n) L → Rt X n p e R s m args below meth c cells slots A K Q →
    W p (xL X) e R s m args below meth c H locs cells slots Q (F0 m (pcA n k) ls (st.map (tv (xad X))))
