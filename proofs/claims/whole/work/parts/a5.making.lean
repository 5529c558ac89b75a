/-! making the objects: contracts of the constructors -/
def Kx (X : Cx) (A : Nat → Prop) (U : State) : Prop := va_K (xG X) vwCl (tys X) U ∧ (∀ w ∈ nsW, va_Nw w U) ∧ vk_S 2 [3, 3] [[98, 121, 112], [98, 100, 109]] (fun k => xad X (1003 + k)) (fun k => xad X (1005 + k)) A U U.heap ∧ vk_R "BelievedByYardModel" 21 "byp" (xad X 1003) U ∧ vk_R "BelievedByYardModel" 23 "bdm" (xad X 1004) U ∧ ∀ C ∈ ["BelievedByYard$Tale", "BelievedByYard$Sheet", "java/lang/String"], va_AO C U
theorem Kx.down {X : Cx} {A B : Nat → Prop} {s U : State} {H : Heap} {locs : List Loc} (h : Kx X A s) (hS : va_S A s.heap H locs) (hU : U.heap = H) (hW : s.WarmedH U.vm) (hBA : ∀ q, B q → A q) : Kx X B U := by
  obtain ⟨hK, hn, hk, hr, hr2, ho⟩ := h
  refine ⟨va_K.moved hW.alike hK, fun w hw => nsW_warm hW hw (hn w hw), ?_, hr.warm hW, hr2.warm hW, fun C hC => va_AO.moved hW.alike (ho C hC)⟩
  rw [hU]
  exact ((hk.kept hS.2.1).moved hW.alike).narrow hBA
theorem Kx.blind {X : Cx} {A : Nat → Prop} {U : State} {g : JFrame} {mk : MethodId} {a : Array Value} (h : Kx X A U) : Kx X A (U.calling g mk a) := by
  obtain ⟨hK, hn, hk, hr, hr2, ho⟩ := h
  have hal : U.vm.Alike (U.calling g mk a).vm := Vm.Alike.refl U.vm
  exact ⟨va_K.moved hal hK, fun w hw => nsW_same (u := U) (U := U.calling g mk a) rfl hw (hn w hw), hk.moved hal, hr.same rfl, hr2.same rfl, fun C hC => va_AO.moved hal (ho C hC)⟩
abbrev rmC (fr cs ss : Nat) : Room := { frames := fr, cells := cs, slots := ss, locals := 40 * fr }
def Ct (X : Cx) (y : MethodName) (b : ByteArray) (nL fr cs ss : Nat) (as : List Value) (w0 : va_W) (post : va_W → Prop) : Prop := ∀ sz : Nat, Met (xL X) y (.code y b nL none :: gt) (rmC fr cs ss) (va_Pc as (fun U => U.heap.size = sz ∧ va_P (xG X) vwCl w0 U.heap ∧ Kx X (va_A w0 sz) U ∧ va_D (fun _ => True) w0)) (va_Qv (fun _ : Unit => True) (fun _ t => ∃ w1, post w1 ∧ va_P (xG X) vwCl w1 t.heap ∧ va_D (va_A w0 sz) w1) (va_A w0 sz)) cs ss (va_A w0 sz)
def Cs (X : Cx) (y : MethodName) (b : ByteArray) (nL fr cs ss : Nat) (as : List Value) (w0 : va_W) (post : va_W → Prop) : Prop :=
  ∀ (p : Program) (e : Env) (s : State) (m : MethodId) (args : Array Value) (below : List Frame) (meth : Method) (c : Code) (A : Nat → Prop) (Q : State → Prop) (ls : Array Slot), p.tables.exec = Jvm.exec → c.code = b → c.maxLocals = nL → meth.name = "<init>" → s.vm.findClass y.cls = some m.cls → (∀ w ∈ gt, w.before args s = true) → Kx X A s → (∀ q : Nat, s.heap.size ≤ q → A q) → va_P (xG X) vwCl w0 s.heap → va_D A w0 → lv_has ls nL (lv_args 0 as) →
    (∀ (H : Heap) (locs : List Loc) (pc : Nat) (ls : Array Slot) (w1 : va_W), post w1 → va_P (xG X) vwCl w1 H → va_D A w1 → va_S A s.heap H locs → decode b pc = .ok (.return_, 1) → W p (xL X) e (rmC fr cs ss) s m args below meth c H locs cs ss Q (F0 m pc ls [])) →
    W p (xL X) e (rmC fr cs ss) s m args below meth c s.heap [] 0 0 Q (F0 m 0 ls [])
theorem Ct_of {X : Cx} {y : MethodName} {b : ByteArray} {nL fr cs ss : Nat} {as : List Value} {w0 : va_W} {post : va_W → Prop} (hy : plainName y.cls = true) (hyn : y.name = "<init>") (hlen : Nat.ble ((lg_sl as).length) nL = true) (h : Cs X y b nL fr cs ss as w0 post) : Ct X y b nL fr cs ss as w0 post := by
  intro sz
  refine Met.ofW (cc := b) (maxL := nL) (ret := none) hy rfl ?_
  intro p e s m args below meth c s₁ B hml hv
  obtain ⟨rfl, hsz, hP, hKx, hD0⟩ := hv
  subst hsz
  have hts : ∀ w ∈ gt, w.before as.toArray s = true := fun w hw => atoms_spec (ws := .code y b nL none :: gt) B.pre w (List.mem_cons_of_mem _ hw)
  have hown : s.vm.findClass y.cls = some m.cls := findClass_of_methodNamed B.named
  have hin : meth.name = "<init>" := (name_of_methodNamed B.named B.method).1.trans hyn
  have hl := lv_entry as (n := nL) (Nat.le_of_ble_eq_true hlen)
  rw [lg_entry_eq]
  refine h p e s m _ below meth c (va_A w0 s.heap.size) _ _ B.exec B.bytes hml hin hown hts hKx (fun q h => Or.inr h) hP (hD0.self) hl ?_
  intro H locs pc ls w1 hp hP1 hD1 hS1 hdg
  exact W.vret B.exec B.bytes B.returns (fun t ht hW => ⟨⟨(), rfl, trivial, w1, hp, by rw [ht]; exact hP1, hD1⟩, hS1.F ht⟩) hS1.2.2 hdg
theorem fm_of {ws w0 : va_W} {is : List Nat} (h : is.map (fun i => ws[i]?) = w0.map some) : is.filterMap (fun i => ws[i]?) = w0 := by
  have h2 : (is.map (fun i => ws[i]?)).filterMap id = w0 := by
    rw [h, List.filterMap_map]
    exact List.filterMap_some
  rw [List.filterMap_map] at h2
  exact h2
theorem Ct_call {X : Cx} {y : MethodName} {b : ByteArray} {nL fr cs ss h0 : Nat} {As : List Value} {w0 : va_W} {post : va_W → Prop} {own : String} {ix : Nat} (hM : Ct X y b nL fr cs ss (.ref h0 :: As) w0 post) (hl : Jvm.Cond.methodLink own ix y ∈ gt ∨ ∃ host, Jvm.Cond.methodLinkNest own ix y host ∈ nsW) (him : Jvm.Cond.instanceMethod y ∈ gt) (hini : Jvm.Cond.initialized y.cls ∈ gt) (hco : Jvm.Cond.code y b nL none ∈ gt) (hyn : y.name = "<init>")
    (hyd : y.cls ≠ "java/lang/invoke/MethodHandle" ∧ y.cls ≠ "java/lang/invoke/VarHandle" ∧ (parseMethodDescriptor y.desc).map (fun d => d.parameters.length) = some As.length) {p : Program} {e : Env} {R : Room} {s : State} {m : MethodId} {args : Array Value} {below : List Frame} {meth : Method} {c : Code} {H : Heap} {locs : List Loc} {cells slots : Nat} {Q : State → Prop} {A : Nat → Prop} {pc : Nat} {ls : Array Slot} {rest : List Value} {cc : ByteArray} {nS : Nat} {ws wr : va_W}
    (hx : p.tables.exec = Jvm.exec) (hb : c.code = cc) (hml : c.maxLocals = nS) (hown : s.vm.findClass own = some m.cls) (hts : ∀ w ∈ gt, w.before args s = true) (hK : Kx X A s) (hA : ∀ q, s.heap.size ≤ q → A q) (hP : va_P (xG X) vwCl ws H) (hD : va_D A ws) (hS : va_S A s.heap H locs) (isC isR : List Nat) (hC : isC.map (fun i => ws[i]?) = w0.map some) (hR0 : isR.map (fun i => ws[i]?) = wr.map some) (hn1 : va_nd isC = true) (hn2 : va_nd isR = true) (hdis : ∀ i ∈ isR, i ∉ isC)
    (hR : fr + 1 ≤ R.frames ∧ 8 + (nL + 11) + 40 * fr ≤ R.locals) (hc : cells + cs ≤ R.cells ∧ slots + ss ≤ R.slots) (hsz : ls.size = nS) (hroom : 2 * (F0 m pc ls (As.reverse ++ .ref h0 :: rest)).monitorRoom + (rest.map fun v => v.category).sum ≤ 8) (hdg : decode cc pc = .ok (.invokespecial ix, 3))
    (kk : ∀ (w1 : va_W) (H1 : Heap) (locs1 : List Loc), post w1 → va_P (xG X) vwCl (wr ++ w1) H1 → va_D A (wr ++ w1) → va_S A s.heap H1 locs1 → W p (xL X) e R s m args below meth c H1 locs1 (cells + cs) (slots + ss) Q (F0 m (pc + 3) ls rest)) :
    W p (xL X) e R s m args below meth c H locs cells slots Q (F0 m pc ls (As.reverse ++ .ref h0 :: rest)) := by
  have hws : GoodIn gt (.code y b nL none :: gt) := gi (fun w hw => by
    rcases List.mem_cons.mp hw with rfl | hw
    · exact hco
    · exact hw)
  have hPc := hP.sub (ws' := w0) isC (fm_of hC)
  have hDc := hD.sub (ws' := w0) isC hn1 hC
  have hFc := va_free (wc := w0) hD hS hA isC hC
  have hpre : FrameBlind (va_Pc (.ref h0 :: As) (fun U => U.heap.size = H.size ∧ va_P (xG X) vwCl w0 U.heap ∧ Kx X (va_A w0 H.size) U ∧ va_D (fun _ => True) w0)) := fun a U g mk q => ⟨q.1, q.2.1, q.2.2.1, q.2.2.2.1.blind, q.2.2.2.2⟩
  have hpu : ∀ U : State, U.heap = H → s.WarmedH U.vm → va_Pc (.ref h0 :: As) (fun U => U.heap.size = H.size ∧ va_P (xG X) vwCl w0 U.heap ∧ Kx X (va_A w0 H.size) U ∧ va_D (fun _ => True) w0) (Value.ref h0 :: As).toArray U := fun U hU hW => ⟨rfl, by rw [hU], by rw [hU]; exact hPc, hK.down hS hU hW hFc, hDc.weaken (fun _ _ _ _ => trivial)⟩
  have key : va_Run p (xL X) e R s m args below meth c H locs cells slots cs ss (F0 m pc ls (As.reverse ++ .ref h0 :: rest)) rest (va_Qv (fun _ : Unit => True) (fun _ t => ∃ w1, post w1 ∧ va_P (xG X) vwCl w1 t.heap ∧ va_D (va_A w0 H.size) w1) (va_A w0 H.size) (Value.ref h0 :: As).toArray) (va_A w0 H.size) := by
    rcases hl with hl | ⟨host, hl⟩
    · exact va_runI (As := As) (rest := rest) ⟨hx, hb, hml, hown, hts⟩ (hM H.size) (cwI As.length hts hws rfl rfl rfl (hts _ hini) (hts _ hl) (hts _ him) hyn hyd hR) ⟨hpre, hpu⟩ rfl rfl hsz rfl hroom hdg hc
    · exact va_runIN (As := As) (rest := rest) ⟨hx, hb, hml, hown, hts⟩ (hM H.size) ⟨va_cnB As.length hts hws rfl rfl rfl (hK.2.1 _ hl) (hts _ hini) hyd hR, hyn, hts _ him⟩ ⟨hpre, hpu⟩ rfl rfl hsz rfl hroom hdg hc
  refine va_callv key hS (fun q _ h => hFc q h) hFc (fun u t H1 locs1 ht hvm _ hB hz1 hk1 hS1 => ?_)
  obtain ⟨w1, hp, hP1, hD1⟩ := hB
  rw [ht] at hP1
  obtain ⟨hP2, hD2⟩ := va_join (wr := wr) (w1 := w1) hP hD isC isR hC hR0 hn2 hdis hk1 hFc hP1 hD1
  exact kk w1 H1 locs1 hp hP2 hD2 hS1
/-- one class for the arrays of a type -/
theorem ty_u {s : State} {cA cB : ClassId} {ty : FieldType} (h : ty ∈ tysL) (hA : va_RA s cA ty) (hB : va_RA s cB ty) : cA = cB := by
  unfold tysL at h
  simp only [List.mem_cons, List.not_mem_nil, or_false] at h
  rcases h with rfl | rfl | rfl | rfl | rfl
  · exact Option.some.inj ((va_nm_int hA).symm.trans (va_nm_int hB))
  · exact Option.some.inj ((va_nm_boolean hA).symm.trans (va_nm_boolean hB))
  all_goals
    obtain ⟨_, _, _, _, _, a⟩ := hA
    obtain ⟨_, _, _, _, _, b⟩ := hB
    exact Option.some.inj (a.symm.trans b)
theorem tys_ty {X : Cx} {s : State} (hK : va_K (xG X) vwCl (tys X) s) {cA : ClassId} {ty : FieldType} (h : ty ∈ tysL) (hA : va_RA s cA ty) : cA = xA X ty := by
  obtain ⟨j, hj⟩ := List.getElem?_of_mem h
  have h2 : (tys X)[j]? = some (xA X ty, ty) := by
    unfold tys
    rw [List.getElem?_map, hj]
    rfl
  exact ty_u h hA (hK.2 j _ h2).2
section MK
variable {X : Cx} {p : Program} {e : Env} {R : Room} {s : State} {m : MethodId} {args : Array Value} {below : List Frame} {meth : Method} {c : Code} {H : Heap} {locs : List Loc} {cells slots : Nat} {Q : State → Prop} {A : Nat → Prop} {pc : Nat} {ls : Array Slot} {rest : List Value} {cc : ByteArray} {ws : va_W}
theorem k_last {cA : ClassId} {ty : FieldType} (hK : va_K (xG X) vwCl (tys X) s) (h : ty ∈ tysL) (h2 : va_K (xG X) vwCl (tys X ++ [(cA, ty)]) s) : cA = xA X ty :=
  tys_ty hK h (h2.2 (tys X).length (cA, ty) (by rw [List.getElem?_append_right (Nat.le_refl _)]; simp)).2
theorem mk_newa (hx : p.tables.exec = Jvm.exec) (hb : c.code = cc) {atype : ArrayType} (harr : (Cond.arrayClass (newarray.typeOf atype)).before args s = true) {ty : FieldType} (hty : newarray.typeOf atype = ty) (hm : ty ∈ tysL) (hd0 : defaultValue ty = .int 0) (hK : Kx X A s) (hP : va_P (xG X) vwCl ws H) (hD : va_D A ws) (hS : va_S A s.heap H locs) (hA : ∀ q : Nat, s.heap.size ≤ q → A q)
    {n : Int32} {N : Nat} (hn : ¬ n < 0) (hN : n.toNatClampNeg = N) (hby : N * componentBytes ty ≤ 536870912) (hcells : cells + 1 ≤ R.cells) (hslots : slots + N ≤ R.slots) (hdg : decode cc pc = .ok (.newarray atype, 2))
    (kk : ∀ (q : Nat) (H1 : Heap), va_P (xG X) vwCl (ws ++ [(q, .inl (xA X ty, N, .inl (fun _ => 0)))]) H1 → va_D A (ws ++ [(q, .inl (xA X ty, N, .inl (fun _ => 0)))]) → va_S A s.heap H1 locs → W p (xL X) e R s m args below meth c H1 locs (cells + 1) (slots + N) Q (F0 m (pc + 2) ls (.ref q :: rest))) :
    W p (xL X) e R s m args below meth c H locs cells slots Q (F0 m pc ls (.int n :: rest)) := by
  refine va_newa (atype := atype) hx hb harr hty hK.1 hP hD hS hA (a0 := (N, .inl (fun _ => 0))) (fun cA => ?_) hn hN hby hcells hslots hdg fun q cA H1 h1 h2 h3 h4 => ?_
  · rw [hd0]; rfl
  · obtain rfl := k_last hK.1 hm h1
    exact kk q H1 h2 h3 h4
theorem mk_newq (hx : p.tables.exec = Jvm.exec) (hb : c.code = cc) {own C : String} {index : Nat} (hown : s.vm.findClass own = some m.cls) (hcl : (Cond.classLink own index C).before args s = true) (hover : va_AO C s) (hm : FieldType.object C ∈ tysL) (hK : Kx X A s) (hP : va_P (xG X) vwCl ws H) (hD : va_D A ws) (hS : va_S A s.heap H locs) (hA : ∀ q : Nat, s.heap.size ≤ q → A q)
    {n : Int32} {N : Nat} (hn : ¬ n < 0) (hN : n.toNatClampNeg = N) (hby : N * 4 ≤ 536870912) (hcells : cells + 1 ≤ R.cells) (hslots : slots + N ≤ R.slots) (hdg : decode cc pc = .ok (.anewarray index, 3))
    (kk : ∀ (q : Nat) (H1 : Heap), va_P (xG X) vwCl (ws ++ [(q, .inl (xA X (.object C), N, .inr (.inr (.inr (.inr (fun _ => none))))))]) H1 → va_D A (ws ++ [(q, .inl (xA X (.object C), N, .inr (.inr (.inr (.inr (fun _ => none))))))]) → va_S A s.heap H1 locs → W p (xL X) e R s m args below meth c H1 locs (cells + 1) (slots + N) Q (F0 m (pc + 3) ls (.ref q :: rest))) :
    W p (xL X) e R s m args below meth c H locs cells slots Q (F0 m pc ls (.int n :: rest)) := by
  refine va_newq hx hb hown hcl hover hK.1 hP hD hS hA hn hN hby hcells hslots hdg fun q cA H1 h1 h2 h3 h4 => ?_
  obtain rfl := k_last hK.1 hm h1
  exact kk q H1 h2 h3 h4
end MK
