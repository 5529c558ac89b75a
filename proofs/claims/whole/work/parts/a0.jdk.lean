abbrev Jt (X : Cx) (y : MethodName) (b : ByteArray) (nL : Nat) (ret : Option FieldType) (d : Nat) (as : List Value) (μ : Mem) (K : Option Value → Mem → Prop) : Prop := Met (xL X) y (.code y b nL ret :: gt) (rmD d) (va_Pc as (fun U => va_P (xG X) vwCl (wld X μ) U.heap ∧ Ex X (wA X) U)) (Qm X K) 0 0 (wA X)
/-- the start of a method of the JDK's -/
def Js (X : Cx) (y : MethodName) (b : ByteArray) (nL : Nat) (ret : Option FieldType) (d : Nat) (as : List Value) (μ : Mem) (K : Option Value → Mem → Prop) : Prop :=
  ∀ (p : Program) (e : Env) (s : State) (m : MethodId) (args : Array Value) (below : List Frame) (meth : Method) (c : Code) (Q : State → Prop) (ls : Array Slot), p.tables.exec = Jvm.exec → c.code = b → c.maxLocals = nL → s.vm.findClass y.cls = some m.cls → (∀ w ∈ gt, w.before args s = true) → Ex X (wA X) s → va_P (xG X) vwCl (wld X μ) s.heap → lv_has ls nL (lv_args 0 as) →
    (∀ (v : Int32) (ty : FieldType) (H : Heap) (locs : List Loc) (pc : Nat) (ls : Array Slot) (μ' : Mem), K (some (.int v)) μ' → va_P (xG X) vwCl (wld X μ') H → va_S (wA X) s.heap H locs → decode b pc = .ok (.ireturn, 1) → ret = some ty → narrow ty (.int v) = .int v → W p (xL X) e (rmD d) s m args below meth c H locs 0 0 Q (F0 m pc ls [.int v])) →
    (∀ (H : Heap) (locs : List Loc) (pc : Nat) (ls : Array Slot) (μ' : Mem), K none μ' → va_P (xG X) vwCl (wld X μ') H → va_S (wA X) s.heap H locs → decode b pc = .ok (.return_, 1) → ret = none → W p (xL X) e (rmD d) s m args below meth c H locs 0 0 Q (F0 m pc ls [])) →
    W p (xL X) e (rmD d) s m args below meth c s.heap [] 0 0 Q (F0 m 0 ls [])
theorem Jt_of {X : Cx} {y : MethodName} {b : ByteArray} {nL : Nat} {ret : Option FieldType} {d : Nat} {as : List Value} {μ : Mem} {K : Option Value → Mem → Prop} (hy : plainName y.cls = true) (hlen : Nat.ble ((lg_sl as).length) nL = true) (h : Js X y b nL ret d as μ K) : Jt X y b nL ret d as μ K := by
  refine Met.ofW (cc := b) (maxL := nL) (ret := ret) hy rfl ?_
  intro p e s m args below meth c s₁ B hml hv
  obtain ⟨rfl, hP, hE⟩ := hv
  have hts : ∀ w ∈ gt, w.before as.toArray s = true := fun w hw => atoms_spec (ws := .code y b nL ret :: gt) B.pre w (List.mem_cons_of_mem _ hw)
  have hown : s.vm.findClass y.cls = some m.cls := findClass_of_methodNamed B.named
  have hl := lv_entry as (n := nL) (Nat.le_of_ble_eq_true hlen)
  rw [lg_entry_eq]
  refine h p e s m _ below meth c (MQ below (Qm X K) as.toArray s 0 0 (wA X)) _ B.exec B.bytes hml hown hts hE hP hl ?_ ?_
  · intro v ty H locs pc ls μ' hk hP' hS hdg hret hn
    exact W.zret B.exec B.bytes (B.returns.trans hret) hn (fun t ht _ => ⟨⟨some (.int v), μ', rfl, hk, by rw [ht]; exact hP'⟩, hS.F ht⟩) hS.2.2 hdg
  · intro H locs pc ls μ' hk hP' hS hdg hret
    exact W.vret B.exec B.bytes (B.returns.trans hret) (fun t ht _ => ⟨⟨none, μ', rfl, hk, by rw [ht]; exact hP'⟩, hS.F ht⟩) hS.2.2 hdg
/-- a call of one of them -/
theorem Jt_virt {X : Cx} {y : MethodName} {b : ByteArray} {nL : Nat} {ret : Option FieldType} {d : Nat} {as : List Value} {μ : Mem} {post : Option Value → Mem → Prop} {own : String} {ix : Nat} {b0 : Nat} (hM : Jt X y b nL ret d (.ref b0 :: as) μ post) (hl : Jvm.Cond.methodLink own ix y ∈ gt) (hin : Jvm.Cond.instanceMethod y ∈ gt) (hse : Jvm.Cond.selects y.cls y y ∈ gt) (hini : Jvm.Cond.initialized y.cls ∈ gt) (hco : Jvm.Cond.code y b nL ret ∈ gt)
    (hyn : y.cls ≠ "java/lang/invoke/MethodHandle" ∧ y.cls ≠ "java/lang/invoke/VarHandle" ∧ (parseMethodDescriptor y.desc).map (fun d => d.parameters.length) = some as.length) {p : Program} {e : Env} {R : Room} {s : State} {m : MethodId} {args : Array Value} {below : List Frame} {meth : Method} {c : Code} {H : Heap} {locs : List Loc} {cells slots : Nat} {Q : State → Prop} {A : Nat → Prop} {pc : Nat} {ls : Array Slot} {rest : List Value} {cc : ByteArray} {nS : Nat}
    (hx : p.tables.exec = Jvm.exec) (hb : c.code = cc) (hml : c.maxLocals = nS) (hown : s.vm.findClass own = some m.cls) (hts : ∀ w ∈ gt, w.before args s = true) (hE : Ex X A s) (hA : ∀ q, wA X q → A q) (hP : va_P (xG X) vwCl (wld X μ) H) (hS : va_S A s.heap H locs) (hrecv : ∃ cell : Cell, H[b0]? = some cell ∧ cell.vm.isStatics = false ∧ s.vm.findClass y.cls = some cell.cls)
    (hR : d + 1 ≤ R.frames ∧ 8 + (nL + 11) + 40 * d ≤ R.locals) (hc : cells ≤ R.cells ∧ slots ≤ R.slots) (hsz : ls.size = nS) (hroom : 2 * (F0 m pc ls (as.reverse ++ .ref (b0) :: rest)).monitorRoom + (rest.map fun v => v.category).sum ≤ 8) (hdg : decode cc pc = .ok (.invokevirtual ix, 3))
    (kk : ∀ (r : Option Value) (μ' : Mem) (H1 : Heap) (locs1 : List Loc), post r μ' → va_P (xG X) vwCl (wld X μ') H1 → va_S A s.heap H1 locs1 → W p (xL X) e R s m args below meth c H1 locs1 cells slots Q (F0 m (pc + 3) ls ((r.map (tv (xad X))).toList ++ rest))) :
    W p (xL X) e R s m args below meth c H locs cells slots Q (F0 m pc ls (as.reverse ++ .ref (b0) :: rest)) := by
  have hws : GoodIn gt (wsV own ix y.cls y (.code y b nL ret :: gt)) := gi (fun w hw => by
    unfold wsV at hw
    rcases List.mem_append.mp hw with hw | hw
    · simp only [List.mem_cons, List.not_mem_nil, or_false] at hw
      rcases hw with rfl | rfl | rfl | rfl
      · exact hl
      · exact hin
      · exact hse
      · exact hini
    · rcases List.mem_cons.mp hw with rfl | hw
      · exact hco
      · exact hw)
  refine call_go (va_runV (As := as) (rest := rest) (b := b0) ⟨hx, hb, hml, hown, hts⟩ hM (cwV as.length hts hws rfl rfl rfl ⟨rfl, hyn⟩ hR) ⟨fun _ _ _ _ h => ⟨h.1, h.2.1, h.2.2.blind⟩, hrecv, fun U hU hW => ⟨rfl, by rw [hU]; exact hP, hE.down hS hU hW hA⟩⟩ rfl rfl hsz rfl hroom hdg hc) hS hA kk
theorem Jt_stat {X : Cx} {y : MethodName} {b : ByteArray} {nL : Nat} {ret : Option FieldType} {d : Nat} {as : List Value} {μ : Mem} {post : Option Value → Mem → Prop} {own : String} {ix : Nat} (hM : Jt X y b nL ret d as μ post) (hl : Jvm.Cond.methodLink own ix y ∈ gt) (hst : Jvm.Cond.static y ∈ gt) (hini : Jvm.Cond.initialized y.cls ∈ gt) (hco : Jvm.Cond.code y b nL ret ∈ gt)
    (hyn : y.cls ≠ "java/lang/invoke/MethodHandle" ∧ y.cls ≠ "java/lang/invoke/VarHandle" ∧ (parseMethodDescriptor y.desc).map (fun d => d.parameters.length) = some as.length) {p : Program} {e : Env} {R : Room} {s : State} {m : MethodId} {args : Array Value} {below : List Frame} {meth : Method} {c : Code} {H : Heap} {locs : List Loc} {cells slots : Nat} {Q : State → Prop} {A : Nat → Prop} {pc : Nat} {ls : Array Slot} {rest : List Value} {cc : ByteArray} {nS : Nat}
    (hx : p.tables.exec = Jvm.exec) (hb : c.code = cc) (hml : c.maxLocals = nS) (hown : s.vm.findClass own = some m.cls) (hts : ∀ w ∈ gt, w.before args s = true) (hE : Ex X A s) (hA : ∀ q, wA X q → A q) (hP : va_P (xG X) vwCl (wld X μ) H) (hS : va_S A s.heap H locs)
    (hR : d + 1 ≤ R.frames ∧ 8 + (nL + 11) + 40 * d ≤ R.locals) (hc : cells ≤ R.cells ∧ slots ≤ R.slots) (hsz : ls.size = nS) (hroom : 2 * (F0 m pc ls (as.reverse ++ rest)).monitorRoom + (rest.map fun v => v.category).sum ≤ 8) (hdg : decode cc pc = .ok (.invokestatic ix, 3))
    (kk : ∀ (r : Option Value) (μ' : Mem) (H1 : Heap) (locs1 : List Loc), post r μ' → va_P (xG X) vwCl (wld X μ') H1 → va_S A s.heap H1 locs1 → W p (xL X) e R s m args below meth c H1 locs1 cells slots Q (F0 m (pc + 3) ls ((r.map (tv (xad X))).toList ++ rest))) :
    W p (xL X) e R s m args below meth c H locs cells slots Q (F0 m pc ls (as.reverse ++ rest)) := by
  have hws : GoodIn gt (va_wsS own ix y (.code y b nL ret :: gt)) := gi (fun w hw => by
    unfold va_wsS at hw
    rcases List.mem_append.mp hw with hw | hw
    · simp only [List.mem_cons, List.not_mem_nil, or_false] at hw
      rcases hw with rfl | rfl | rfl
      · exact hl
      · exact hst
      · exact hini
    · rcases List.mem_cons.mp hw with rfl | hw
      · exact hco
      · exact hw)
  refine call_go (va_runS (As := as) (rest := rest) ⟨hx, hb, hml, hown, hts⟩ hM (va_cwS as.length hts hws rfl rfl rfl hyn hR) ⟨fun _ _ _ _ h => ⟨h.1, h.2.1, h.2.2.blind⟩, fun U hU hW => ⟨rfl, by rw [hU]; exact hP, hE.down hS hU hW hA⟩⟩ rfl rfl hsz rfl hroom hdg hc) hS hA kk
theorem j_coder (X : Cx) (μ : Mem) (d i : Nat) (hi : i < 2) : Jt X yJ0_coder_7d493 cJ0_coder_7d493 1 (some .byte) d [.ref (xad X (1003 + i))] μ (fun r μ' => r = some (.int 0) ∧ μ' = μ) := by
  refine Jt_of (by decide) rfl ?_
  intro p e s m args below meth c Q ls hx hb hml hown hts hE hP hl hri hrv
  have hS : va_S (wA X) s.heap s.heap [] := va_S.rf
  have hK := hE.2.2.2.2.2.1
  obtain ⟨hstr, hst2⟩ := id hK
  have hcs := hE.2.2.2.2.2.2.1
  refine va_gets hx hb hcs hS hown (hts (.fieldLink RJ0 38 "java/lang/String" "COMPACT_STRINGS" "Z") (gm5 41 rfl (by decide +kernel))) (fun _ h => h) (show decode cJ0_coder_7d493 0 = .ok (.getstatic 38, 3) by decide +kernel) ?_
  refine lv_if_eq (tgt := 13) hx hb (show decode cJ0_coder_7d493 3 = .ok (.ifCond .eq 10, 3) by decide +kernel) (by decide) (fun h => absurd h (by decide)) fun _ => ?_
  refine lv_aload_n hx hb (show decode cJ0_coder_7d493 6 = .ok (.aload_n 0, 1) by decide +kernel) rfl (hl.2.2 (0, _) List.mem_cons_self) ?_
  refine vk_getf hx hb (hstr i hi).2.1 hS hown (hts (.fieldLink RJ0 15 "java/lang/String" "coder" "B") (gm6 173 rfl (by decide +kernel))) (fun _ h => h) (show decode cJ0_coder_7d493 7 = .ok (.getfield 15, 3) by decide +kernel) ?_
  refine lv_goto (tgt := 14) hx hb (show decode cJ0_coder_7d493 10 = .ok (.goto 4, 3) by decide +kernel) (by decide) ?_
  exact hri 0 .byte _ _ _ _ μ ⟨rfl, rfl⟩ hP hS (show decode cJ0_coder_7d493 14 = .ok (.ireturn, 1) by decide +kernel) rfl (by decide)
theorem j_length (X : Cx) (μ : Mem) (d i : Nat) (hi : i < 2) : Jt X yJ0_length_8abf5 cJ0_length_8abf5 1 (some .int) (d + 1) [.ref (xad X (1003 + i))] μ (fun r μ' => r = some (.int 3) ∧ μ' = μ) := by
  refine Jt_of (by decide) rfl ?_
  intro p e s m args below meth c Q ls hx hb hml hown hts hE hP hl hri hrv
  have hS : va_S (wA X) s.heap s.heap [] := va_S.rf
  have hK := hE.2.2.2.2.2.1
  obtain ⟨hstr, hst2⟩ := id hK
  have hcs := hE.2.2.2.2.2.2.1
  have hlen : ([3, 3] : List Nat).getD i 0 = 3 := by
    rcases i with _ | _ | i
    · rfl
    · rfl
    · omega
  refine lv_aload_n hx hb (show decode cJ0_length_8abf5 0 = .ok (.aload_n 0, 1) by decide +kernel) rfl (hl.2.2 (0, _) List.mem_cons_self) ?_
  refine vk_getf hx hb (hstr i hi).2.2.1 hS hown (hts (.fieldLink RJ0 9 "java/lang/String" "value" "[B") (gm6 172 rfl (by decide +kernel))) (fun _ h => h) (show decode cJ0_length_8abf5 1 = .ok (.getfield 9, 3) by decide +kernel) ?_
  refine va_tlen hx hb (hstr i hi).2.2.2 hS (v := 3) (by rw [hlen]; rfl) (show decode cJ0_length_8abf5 4 = .ok (.arraylength, 1) by decide +kernel) ?_
  refine lv_aload_n hx hb (show decode cJ0_length_8abf5 5 = .ok (.aload_n 0, 1) by decide +kernel) rfl (hl.2.2 (0, _) List.mem_cons_self) ?_
  refine Jt_virt (as := []) (b0 := xad X (1003 + i)) (own := RJ0) (rest := [.int 3]) (j_coder X μ d i hi) (gm5 37 rfl (by decide +kernel)) (gm5 38 rfl (by decide +kernel)) (gm5 39 rfl (by decide +kernel)) (gm1 12 rfl (by decide +kernel)) (gm5 40 rfl (by decide +kernel)) ⟨by decide, by decide, (show _ = some 0 by decide)⟩ hx hb hml hown hts hE (fun _ h => h) hP hS (vk_recv (adK := fun k => xad X (1003 + k)) (i := i) hK hi hS) ⟨Nat.le_refl _, by show 8 + (1 + 11) + 40 * (d) ≤ 40 * (d + 1); omega⟩ ⟨Nat.le_refl _, Nat.le_refl _⟩ hl.1 (lv_room (by decide)) (show decode cJ0_length_8abf5 6 = .ok (.invokevirtual 335, 3) by decide +kernel) ?_
  intro r μ' H1 locs1 hp hP1 hS1
  obtain ⟨rfl, rfl⟩ := hp
  refine lv_ishr hx hb (show decode cJ0_length_8abf5 9 = .ok (.ishr, 1) by decide +kernel) ?_
  exact hri 3 .int _ _ _ _ μ' ⟨rfl, rfl⟩ hP1 hS1 (show decode cJ0_length_8abf5 10 = .ok (.ireturn, 1) by decide +kernel) rfl rfl
theorem j_isLatin1 (X : Cx) (μ : Mem) (d i : Nat) (hi : i < 2) : Jt X yJ0_isLatin1_aae02 cJ0_isLatin1_aae02 1 (some .boolean) d [.ref (xad X (1003 + i))] μ (fun r μ' => r = some (.int 1) ∧ μ' = μ) := by
  refine Jt_of (by decide) rfl ?_
  intro p e s m args below meth c Q ls hx hb hml hown hts hE hP hl hri hrv
  have hS : va_S (wA X) s.heap s.heap [] := va_S.rf
  have hK := hE.2.2.2.2.2.1
  obtain ⟨hstr, hst2⟩ := id hK
  have hcs := hE.2.2.2.2.2.2.1
  refine va_gets hx hb hcs hS hown (hts (.fieldLink RJ0 38 "java/lang/String" "COMPACT_STRINGS" "Z") (gm5 41 rfl (by decide +kernel))) (fun _ h => h) (show decode cJ0_isLatin1_aae02 0 = .ok (.getstatic 38, 3) by decide +kernel) ?_
  refine lv_if_eq (tgt := 17) hx hb (show decode cJ0_isLatin1_aae02 3 = .ok (.ifCond .eq 14, 3) by decide +kernel) (by decide) (fun h => absurd h (by decide)) fun _ => ?_
  refine lv_aload_n hx hb (show decode cJ0_isLatin1_aae02 6 = .ok (.aload_n 0, 1) by decide +kernel) rfl (hl.2.2 (0, _) List.mem_cons_self) ?_
  refine vk_getf hx hb (hstr i hi).2.1 hS hown (hts (.fieldLink RJ0 15 "java/lang/String" "coder" "B") (gm6 173 rfl (by decide +kernel))) (fun _ h => h) (show decode cJ0_isLatin1_aae02 7 = .ok (.getfield 15, 3) by decide +kernel) ?_
  refine lv_if_ne (tgt := 17) hx hb (show decode cJ0_isLatin1_aae02 10 = .ok (.ifCond .ne 7, 3) by decide +kernel) (by decide) (fun h => absurd rfl h) fun _ => ?_
  refine lv_iconst (v := 1) hx hb (show decode cJ0_isLatin1_aae02 13 = .ok (.iconst 1, 1) by decide +kernel) (by decide) ?_
  refine lv_goto (tgt := 18) hx hb (show decode cJ0_isLatin1_aae02 14 = .ok (.goto 4, 3) by decide +kernel) (by decide) ?_
  exact hri 1 .boolean _ _ _ _ μ ⟨rfl, rfl⟩ hP hS (show decode cJ0_isLatin1_aae02 18 = .ok (.ireturn, 1) by decide +kernel) rfl (by decide)
theorem j_pre (X : Cx) (μ : Mem) (d : Nat) (x n : Int32) (v : Value) (hv : v = .null ∨ ∃ a, v = .ref a) (h0 : ¬ x < 0) (h1 : x < n) : Jt X yJ3_checkIndex_8e157 cJ3_checkIndex_8e157 3 (some .int) d [.int x, .int n, v] μ (fun r μ' => r = some (.int x) ∧ μ' = μ) := by
  have hcat : v.category = 1 := by rcases hv with rfl | ⟨a, rfl⟩ <;> rfl
  refine Jt_of (by decide) (by rcases hv with rfl | ⟨a, rfl⟩ <;> rfl) ?_
  intro p e s m args below meth c Q ls hx hb hml hown hts hE hP hl hri hrv
  have hS : va_S (wA X) s.heap s.heap [] := va_S.rf
  have hK := hE.2.2.2.2.2.1
  obtain ⟨hstr, hst2⟩ := id hK
  have hcs := hE.2.2.2.2.2.2.1
  refine lv_iload_n hx hb (show decode cJ3_checkIndex_8e157 0 = .ok (.iload_n 0, 1) by decide +kernel) rfl (hl.2.2 (0, _) List.mem_cons_self) ?_
  refine lv_if_lt (tgt := 9) hx hb (show decode cJ3_checkIndex_8e157 1 = .ok (.ifCond .lt 8, 3) by decide +kernel) (by decide) (fun h => absurd h h0) fun _ => ?_
  refine lv_iload_n hx hb (show decode cJ3_checkIndex_8e157 4 = .ok (.iload_n 0, 1) by decide +kernel) rfl (hl.2.2 (0, _) List.mem_cons_self) ?_
  refine lv_iload_n hx hb (show decode cJ3_checkIndex_8e157 5 = .ok (.iload_n 1, 1) by decide +kernel) rfl (hl.2.2 (1, _) (List.mem_cons_of_mem _ List.mem_cons_self)) ?_
  refine lv_icmp_lt (tgt := 16) hx hb (show decode cJ3_checkIndex_8e157 6 = .ok (.if_icmp .lt 10, 3) by decide +kernel) (by decide) (fun _ => ?_) (fun h => absurd h1 h)
  refine lv_iload_n hx hb (show decode cJ3_checkIndex_8e157 16 = .ok (.iload_n 0, 1) by decide +kernel) rfl (hl.2.2 (0, _) List.mem_cons_self) ?_
  exact hri x .int _ _ _ _ μ ⟨rfl, rfl⟩ hP hS (show decode cJ3_checkIndex_8e157 17 = .ok (.ireturn, 1) by decide +kernel) rfl rfl
theorem j_check (X : Cx) (μ : Mem) (d : Nat) (x n : Int32) (h0 : ¬ x < 0) (h1 : x < n) : Jt X yJ0_checkIndex_df160 cJ0_checkIndex_df160 2 none (d + 1) [.int x, .int n] μ (fun r μ' => r = none ∧ μ' = μ) := by
  refine Jt_of (by decide) rfl ?_
  intro p e s m args below meth c Q ls hx hb hml hown hts hE hP hl hri hrv
  have hS : va_S (wA X) s.heap s.heap [] := va_S.rf
  have hK := hE.2.2.2.2.2.1
  obtain ⟨hstr, hst2⟩ := id hK
  have hcs := hE.2.2.2.2.2.2.1
  obtain ⟨v, hv, hz⟩ := hE.2.2.2.2.2.2.2
  have hcat : v.category = 1 := by rcases hv with rfl | ⟨a, rfl⟩ <;> rfl
  refine lv_iload_n hx hb (show decode cJ0_checkIndex_df160 0 = .ok (.iload_n 0, 1) by decide +kernel) rfl (hl.2.2 (0, _) List.mem_cons_self) ?_
  refine lv_iload_n hx hb (show decode cJ0_checkIndex_df160 1 = .ok (.iload_n 1, 1) by decide +kernel) rfl (hl.2.2 (1, _) (List.mem_cons_of_mem _ List.mem_cons_self)) ?_
  refine va_gets hx hb hz hS hown (hts (.fieldLink RJ0 1053 "jdk/internal/util/Preconditions" "SIOOBE_FORMATTER" "Ljava/util/function/BiFunction;") (gm5 57 rfl (by decide +kernel))) (fun _ h => h) (show decode cJ0_checkIndex_df160 2 = .ok (.getstatic 1053, 3) by decide +kernel) ?_
  refine Jt_stat (as := [.int x, .int n, v]) (own := RJ0) (rest := []) (j_pre X μ d x n v hv h0 h1) (gm5 59 rfl (by decide +kernel)) (gm5 60 rfl (by decide +kernel)) (gm1 14 rfl (by decide +kernel)) (gm5 61 rfl (by decide +kernel)) ⟨by decide, by decide, (show _ = some 3 by decide)⟩ hx hb hml hown hts hE (fun _ h => h) hP hS ⟨Nat.le_refl _, by show 8 + (3 + 11) + 40 * (d) ≤ 40 * (d + 1); omega⟩ ⟨Nat.le_refl _, Nat.le_refl _⟩ hl.1 (lv_room (by rcases hv with rfl | ⟨a, rfl⟩ <;> decide)) (show decode cJ0_checkIndex_df160 5 = .ok (.invokestatic 1059, 3) by decide +kernel) ?_
  intro r μ' H1 locs1 hp hP1 hS1
  obtain ⟨rfl, rfl⟩ := hp
  refine lv_pop hx hb (show decode cJ0_checkIndex_df160 8 = .ok (.pop, 1) by decide +kernel) rfl ?_
  exact hrv _ _ _ _ μ' ⟨rfl, rfl⟩ hP1 hS1 (show decode cJ0_checkIndex_df160 9 = .ok (.return_, 1) by decide +kernel) rfl
theorem j_latin (X : Cx) (μ : Mem) (d i k : Nat) (hi : i < 2) (hk : k < 3) : Jt X yJ1_charAt_3b067 cJ1_charAt_3b067 2 (some .char) (d + 2) [.ref (xad X (1005 + i)), .int (nI k)] μ (fun r μ' => r = some (.int ((([[98, 121, 112], [98, 100, 109]] : List (List Int32)).getD i []).getD k 0)) ∧ μ' = μ) := by
  refine Jt_of (by decide) rfl ?_
  intro p e s m args below meth c Q ls hx hb hml hown hts hE hP hl hri hrv
  have hS : va_S (wA X) s.heap s.heap [] := va_S.rf
  have hK := hE.2.2.2.2.2.1
  obtain ⟨hstr, hst2⟩ := id hK
  have hcs := hE.2.2.2.2.2.2.1
  have hlen : ([3, 3] : List Nat).getD i 0 = 3 := by
    rcases i with _ | _ | i
    · rfl
    · rfl
    · omega
  have hby : ((((([[98, 121, 112], [98, 100, 109]] : List (List Int32)).getD i []).getD k 0) &&& 255).toUInt32 % 65536).toInt32 = (([[98, 121, 112], [98, 100, 109]] : List (List Int32)).getD i []).getD k 0 ∧ narrow .char (.int ((([[98, 121, 112], [98, 100, 109]] : List (List Int32)).getD i []).getD k 0)) = .int ((([[98, 121, 112], [98, 100, 109]] : List (List Int32)).getD i []).getD k 0) := by
    have hi2 : i = 0 ∨ i = 1 := by omega
    have hk2 : k = 0 ∨ k = 1 ∨ k = 2 := by omega
    rcases hi2 with rfl | rfl <;> rcases hk2 with rfl | rfl | rfl <;> exact ⟨by decide, by decide⟩
  obtain ⟨hby, hnr⟩ := hby
  have h0 : ¬ nI k < 0 := nI_pos (by omega)
  have h1 : nI k < 3 := nI_lt (b := 3) (by omega) (by decide)
  have hin : vp_in (nI k) (([3, 3] : List Nat).getD i 0) := by rw [hlen]; exact vp_in_nI hk (by decide)
  refine lv_iload_n hx hb (show decode cJ1_charAt_3b067 0 = .ok (.iload_n 1, 1) by decide +kernel) rfl (hl.2.2 (1, _) (List.mem_cons_of_mem _ List.mem_cons_self)) ?_
  refine lv_aload_n hx hb (show decode cJ1_charAt_3b067 1 = .ok (.aload_n 0, 1) by decide +kernel) rfl (hl.2.2 (0, _) List.mem_cons_self) ?_
  refine va_tlen hx hb (hstr i hi).2.2.2 hS (v := 3) (by rw [hlen]; rfl) (show decode cJ1_charAt_3b067 2 = .ok (.arraylength, 1) by decide +kernel) ?_
  refine Jt_stat (as := [.int (nI k), .int 3]) (own := RJ1) (rest := []) (j_check X μ d (nI k) 3 h0 h1) (gm5 54 rfl (by decide +kernel)) (gm5 55 rfl (by decide +kernel)) (gm1 12 rfl (by decide +kernel)) (gm5 56 rfl (by decide +kernel)) ⟨by decide, by decide, (show _ = some 2 by decide)⟩ hx hb hml hown hts hE (fun _ h => h) hP hS ⟨Nat.le_refl _, by show 8 + (2 + 11) + 40 * (d + 1) ≤ 40 * (d + 1 + 1); omega⟩ ⟨Nat.le_refl _, Nat.le_refl _⟩ hl.1 (lv_room (by decide)) (show decode cJ1_charAt_3b067 3 = .ok (.invokestatic 9, 3) by decide +kernel) ?_
  intro r μ' H1 locs1 hp hP1 hS1
  obtain ⟨rfl, rfl⟩ := hp
  refine lv_aload_n hx hb (show decode cJ1_charAt_3b067 6 = .ok (.aload_n 0, 1) by decide +kernel) rfl (hl.2.2 (0, _) List.mem_cons_self) ?_
  refine lv_iload_n hx hb (show decode cJ1_charAt_3b067 7 = .ok (.iload_n 1, 1) by decide +kernel) rfl (hl.2.2 (1, _) (List.mem_cons_of_mem _ List.mem_cons_self)) ?_
  refine va_tb hx hb (hstr i hi).2.2.2 hS1 hin (v := .int ((([[98, 121, 112], [98, 100, 109]] : List (List Int32)).getD i []).getD k 0)) (by rw [nI_clamp (by omega)]) (show decode cJ1_charAt_3b067 8 = .ok (.baload, 1) by decide +kernel) ?_
  refine lv_sipush (v := 255) hx hb (show decode cJ1_charAt_3b067 9 = .ok (.sipush 255, 3) by decide +kernel) (by decide) ?_
  refine lv_iand hx hb (show decode cJ1_charAt_3b067 12 = .ok (.iand, 1) by decide +kernel) ?_
  refine lv_i2c (v := (([[98, 121, 112], [98, 100, 109]] : List (List Int32)).getD i []).getD k 0) hx hb (show decode cJ1_charAt_3b067 13 = .ok (.i2c, 1) by decide +kernel) hby ?_
  exact hri _ .char _ _ _ _ μ' ⟨rfl, rfl⟩ hP1 hS1 (show decode cJ1_charAt_3b067 14 = .ok (.ireturn, 1) by decide +kernel) rfl hnr
theorem j_charAt (X : Cx) (μ : Mem) (d i k : Nat) (hi : i < 2) (hk : k < 3) : Jt X yJ0_charAt_5068e cJ0_charAt_5068e 2 (some .char) (d + 3) [.ref (xad X (1003 + i)), .int (nI k)] μ (fun r μ' => r = some (.int ((([[98, 121, 112], [98, 100, 109]] : List (List Int32)).getD i []).getD k 0)) ∧ μ' = μ) := by
  refine Jt_of (by decide) rfl ?_
  intro p e s m args below meth c Q ls hx hb hml hown hts hE hP hl hri hrv
  have hS : va_S (wA X) s.heap s.heap [] := va_S.rf
  have hK := hE.2.2.2.2.2.1
  obtain ⟨hstr, hst2⟩ := id hK
  have hcs := hE.2.2.2.2.2.2.1
  have hnr : narrow .char (.int ((([[98, 121, 112], [98, 100, 109]] : List (List Int32)).getD i []).getD k 0)) = .int ((([[98, 121, 112], [98, 100, 109]] : List (List Int32)).getD i []).getD k 0) := by
    have hi2 : i = 0 ∨ i = 1 := by omega
    have hk2 : k = 0 ∨ k = 1 ∨ k = 2 := by omega
    rcases hi2 with rfl | rfl <;> rcases hk2 with rfl | rfl | rfl <;> decide
  refine lv_aload_n hx hb (show decode cJ0_charAt_5068e 0 = .ok (.aload_n 0, 1) by decide +kernel) rfl (hl.2.2 (0, _) List.mem_cons_self) ?_
  refine Jt_virt (as := []) (b0 := xad X (1003 + i)) (own := RJ0) (rest := []) (j_isLatin1 X μ (d + 2) i hi) (gm5 47 rfl (by decide +kernel)) (gm5 48 rfl (by decide +kernel)) (gm5 49 rfl (by decide +kernel)) (gm1 12 rfl (by decide +kernel)) (gm5 50 rfl (by decide +kernel)) ⟨by decide, by decide, (show _ = some 0 by decide)⟩ hx hb hml hown hts hE (fun _ h => h) hP hS (vk_recv (adK := fun k => xad X (1003 + k)) (i := i) hK hi hS) ⟨Nat.le_refl _, by show 8 + (1 + 11) + 40 * (d + 2) ≤ 40 * (d + 2 + 1); omega⟩ ⟨Nat.le_refl _, Nat.le_refl _⟩ hl.1 (lv_room (by decide)) (show decode cJ0_charAt_5068e 1 = .ok (.invokevirtual 492, 3) by decide +kernel) ?_
  intro r μ' H1 locs1 hp hP1 hS1
  obtain ⟨rfl, rfl⟩ := hp
  refine lv_if_eq (tgt := 16) hx hb (show decode cJ0_charAt_5068e 4 = .ok (.ifCond .eq 12, 3) by decide +kernel) (by decide) (fun h => absurd h (by decide)) fun _ => ?_
  refine lv_aload_n hx hb (show decode cJ0_charAt_5068e 7 = .ok (.aload_n 0, 1) by decide +kernel) rfl (hl.2.2 (0, _) List.mem_cons_self) ?_
  refine vk_getf hx hb (hstr i hi).2.2.1 hS1 hown (hts (.fieldLink RJ0 9 "java/lang/String" "value" "[B") (gm6 172 rfl (by decide +kernel))) (fun _ h => h) (show decode cJ0_charAt_5068e 8 = .ok (.getfield 9, 3) by decide +kernel) ?_
  refine lv_iload_n hx hb (show decode cJ0_charAt_5068e 11 = .ok (.iload_n 1, 1) by decide +kernel) rfl (hl.2.2 (1, _) (List.mem_cons_of_mem _ List.mem_cons_self)) ?_
  refine Jt_stat (as := [.ref (xad X (1005 + i)), .int (nI k)]) (own := RJ0) (rest := []) (j_latin X μ' d i k hi hk) (gm5 51 rfl (by decide +kernel)) (gm5 52 rfl (by decide +kernel)) (gm1 13 rfl (by decide +kernel)) (gm5 53 rfl (by decide +kernel)) ⟨by decide, by decide, (show _ = some 2 by decide)⟩ hx hb hml hown hts hE (fun _ h => h) hP1 hS1 ⟨Nat.le_refl _, by show 8 + (2 + 11) + 40 * (d + 2) ≤ 40 * (d + 2 + 1); omega⟩ ⟨Nat.le_refl _, Nat.le_refl _⟩ hl.1 (lv_room (by decide)) (show decode cJ0_charAt_5068e 12 = .ok (.invokestatic 495, 3) by decide +kernel) ?_
  intro r μ'' H2 locs2 hp hP2 hS2
  obtain ⟨rfl, rfl⟩ := hp
  exact hri _ .char _ _ _ _ μ'' ⟨rfl, rfl⟩ hP2 hS2 (show decode cJ0_charAt_5068e 15 = .ok (.ireturn, 1) by decide +kernel) rfl hnr
theorem VW_len {X : Cx} {n d a : Nat} {K : Option Value → Mem → Prop} {L : Lc} {r : List Value} {μ : Mem} {i : Nat} (hi : i < 2) (hl : Jvm.Cond.methodLink (cnm (mO n)) 120 yJ0_length_8abf5 ∈ gt) (hd : 4 ≤ d) (hc : csum r ≤ 8)
    (D : decode (mB n) (pcA n a) = .ok (.invokevirtual 120, 3)) (hpc : pcA n (a + 1) = pcA n a + 3) (h : VW X n d K (a + 1) L (.int (3) :: r) μ) : VW X n d K a L (.ref (1003 + i) :: r) μ := by
  obtain ⟨⟨g1⟩⟩ := h
  refine ⟨⟨?_⟩⟩
  intro p e R s m args below meth cd H locs cells slots A Q ls F hP hS hl2 hR
  obtain ⟨hx, hb, hml, hown, hts, hE, hA, hr1, hr2, hr3, hr4⟩ := id F
  refine Jt_virt (as := []) (b0 := xad X (1003 + i)) (own := cnm (mO n)) (rest := r.map (tv (xad X))) (j_length X μ 0 i hi) hl (gm5 34 rfl (by decide +kernel)) (gm5 35 rfl (by decide +kernel)) (gm1 12 rfl (by decide +kernel)) (gm5 36 rfl (by decide +kernel)) ⟨by decide, by decide, (show _ = some 0 by decide)⟩ hx hb hml hown hts hE hA hP hS (vk_recv (adK := fun k => xad X (1003 + k)) (i := i) hE.2.2.2.2.2.1 hi hS) ⟨?_, ?_⟩ ⟨?_, ?_⟩ ?_ ?_ D ?_
  · omega
  · omega
  · omega
  · omega
  · exact hl2.1
  · exact lv_room (by rw [csum_map]; exact hc)
  · intro r1 μ' H1 locs1 hp hP1 hS1
    obtain ⟨rfl, rfl⟩ := hp
    have h9 := g1 p e R s m args below meth cd H1 locs1 cells slots A Q ls F hP1 hS1 hl2 hR
    rw [hpc] at h9
    exact h9
theorem VW_chr {X : Cx} {n d a : Nat} {K : Option Value → Mem → Prop} {L : Lc} {r : List Value} {μ : Mem} {i : Nat} (hi : i < 2) (k : Nat) (hk : k < 3) (hl : Jvm.Cond.methodLink (cnm (mO n)) 123 yJ0_charAt_5068e ∈ gt) (hd : 4 ≤ d) (hc : csum r ≤ 8)
    (D : decode (mB n) (pcA n a) = .ok (.invokevirtual 123, 3)) (hpc : pcA n (a + 1) = pcA n a + 3) (h : VW X n d K (a + 1) L (.int ((([[98, 121, 112], [98, 100, 109]] : List (List Int32)).getD i []).getD k 0) :: r) μ) : VW X n d K a L (.int (nI k) :: .ref (1003 + i) :: r) μ := by
  obtain ⟨⟨g1⟩⟩ := h
  refine ⟨⟨?_⟩⟩
  intro p e R s m args below meth cd H locs cells slots A Q ls F hP hS hl2 hR
  obtain ⟨hx, hb, hml, hown, hts, hE, hA, hr1, hr2, hr3, hr4⟩ := id F
  refine Jt_virt (as := [.int (nI k)]) (b0 := xad X (1003 + i)) (own := cnm (mO n)) (rest := r.map (tv (xad X))) (j_charAt X μ 0 i k hi hk) hl (gm5 44 rfl (by decide +kernel)) (gm5 45 rfl (by decide +kernel)) (gm1 12 rfl (by decide +kernel)) (gm5 46 rfl (by decide +kernel)) ⟨by decide, by decide, (show _ = some 1 by decide)⟩ hx hb hml hown hts hE hA hP hS (vk_recv (adK := fun k => xad X (1003 + k)) (i := i) hE.2.2.2.2.2.1 hi hS) ⟨?_, ?_⟩ ⟨?_, ?_⟩ ?_ ?_ D ?_
  · omega
  · omega
  · omega
  · omega
  · exact hl2.1
  · exact lv_room (by rw [csum_map]; exact hc)
  · intro r1 μ' H1 locs1 hp hP1 hS1
    obtain ⟨rfl, rfl⟩ := hp
    have h9 := g1 p e R s m args below meth cd H1 locs1 cells slots A Q ls F hP1 hS1 hl2 hR
    rw [hpc] at h9
    exact h9
