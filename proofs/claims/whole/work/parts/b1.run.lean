/-! from the law's entry to its end -/
theorem vk_S_congr {N : Nat} {len : List Nat} {byt : List (List Int32)} {adK adV bK bV : Nat → Nat} {A : Nat → Prop} {U : State} {H : Heap} (h : vk_S N len byt adK adV A U H) (e1 : ∀ i, i < N → bK i = adK i) (e2 : ∀ i, i < N → bV i = adV i) : vk_S N len byt bK bV A U H :=
  ⟨fun i hi => by rw [e1 i hi, e2 i hi]; exact h.1 i hi, fun i j hi hj hh => h.2 i j hi hj (by rw [← e1 i hi, ← e1 j hj]; exact hh)⟩
theorem adOf_K (Q : List Nat) (t0 t1 t2 b : Nat) (aK aV : Nat → Nat) (i : Nat) (hi : i < 2) : adOf Q t0 t1 t2 b aK aV (1003 + i) = aK i := by
  unfold adOf
  rw [if_neg (by omega), if_neg (by omega), if_pos (by omega), Nat.add_sub_cancel_left]
theorem adOf_V (Q : List Nat) (t0 t1 t2 b : Nat) (aK aV : Nat → Nat) (i : Nat) (hi : i < 2) : adOf Q t0 t1 t2 b aK aV (1005 + i) = aV i := by
  unfold adOf
  rw [if_neg (by omega), if_neg (by omega), if_neg (by omega), if_pos (by omega), Nat.add_sub_cancel_left]
theorem Kx_0 {X : Cx} {A : Nat → Prop} {s : State} {args : Array Value} {aK aV : Nat → Nat} (hts : ∀ w ∈ lw_tbl, w.before args s = true)
    (hC : ∀ (k : Nat) (q : vw_C), vwCl[k]? = some q → u_Kn s q.1 q.2.1 q.2.2 ((xG X).1 k) ((xG X).2 k)) (hT : ∀ ty, ty ∈ tysL → ArrOfT s (xA X ty) ty ∧ va_RA s (xA X ty) ty)
    (hS : vk_S 2 [3, 3] [[98, 121, 112], [98, 100, 109]] aK aV A s s.heap) (hev : ∀ i : Nat, i < 2 → (stm i).eval args s none [] s = some (.ref (aK i))) (eK : ∀ i, i < 2 → xad X (1003 + i) = aK i) (eV : ∀ i, i < 2 → xad X (1005 + i) = aV i) : Kx X A s := by
  refine ⟨⟨hC, fun k q hk => ?_⟩, st_nw hts, vk_S_congr hS eK eV, ?_, ?_, st_ao hts⟩
  · unfold tys at hk
    rw [List.getElem?_map] at hk
    obtain ⟨ty, hty, rfl⟩ := Option.map_eq_some_iff.mp hk
    exact hT ty (List.mem_of_getElem? hty)
  · have e : xad X 1003 = aK 0 := eK 0 (by decide)
    rw [e]
    exact vk_R.of (hts (.stringRef "BelievedByYardModel" 21 "byp") (tl4 125 rfl)) (hev 0 (by decide))
  · have e : xad X 1004 = aK 1 := eK 1 (by decide)
    rw [e]
    exact vk_R.of (hts (.stringRef "BelievedByYardModel" 23 "bdm") (tl4 126 rfl)) (hev 1 (by decide))
theorem Ex_0 {X0 X : Cx} {A : Nat → Prop} {s : State} {L : Nat} {xs : Nat → Int32} {μ : Mem} (hG : xG X = xG X0) (hA : xA X = xA X0) (hs : xsc X = some (L, xs)) (had : ∀ i, 84 ≤ i → xad X i = xad X0 i) (hK : Kx X0 A s) (hD : va_D A (wld X μ))
    (hst : ∀ (j : Nat) (C n d : String) (ty : FieldType) (vs : List Int32), stL[j]? = some (C, n, d, ty, vs) → va_Z C n d (.ref (xad X0 (1000 + j))) A s s.heap ∧ va_T ty (xad X0 (1000 + j)) vs.length (fun i => .int (vs.getD i 0)) A s s.heap)
    (hsc : va_X (xad X0 2000) L xs s s.heap ∧ xad X0 2000 < s.heap.size ∧ ¬ A (xad X0 2000)) (hcs : va_Z "java/lang/String" "COMPACT_STRINGS" "Z" (.int 1) A s s.heap) (hsi : ∃ v : Value, (v = .null ∨ ∃ a, v = .ref a) ∧ va_Z "jdk/internal/util/Preconditions" "SIOOBE_FORMATTER" "Ljava/util/function/BiFunction;" v A s s.heap) : Ex X A s := by
  refine ⟨?_, ?_, fun j C n d ty vs hj => ?_, fun L' xs' h => ?_, hK.2.1, ?_, hcs, hsi⟩
  · have e : tys X = tys X0 := by
      unfold tys
      rw [hA]
    rw [hG, e]
    exact hK.1
  · intro i j hi hj h
    exact hD.1 i j _ _ (wld_at (List.getElem?_eq_getElem hi)) (wld_at (List.getElem?_eq_getElem hj)) h
  · rw [had (1000 + j) (by omega)]
    exact hst j C n d ty vs hj
  · rw [hs] at h
    cases h
    rw [had 2000 (by omega)]
    exact hsc
  · have e1 : (fun k => xad X (1003 + k)) = fun k => xad X0 (1003 + k) := funext fun k => had _ (by omega)
    have e2 : (fun k => xad X (1005 + k)) = fun k => xad X0 (1005 + k) := funext fun k => had _ (by omega)
    rw [e1, e2]
    exact hK.2.2.1
theorem wA_0 {X : Cx} {A : Nat → Prop} {μ : Mem} (hD : va_D A (wld X μ)) : ∀ q, wA X q → A q := by
  intro q h
  obtain ⟨i, hi, rfl⟩ := h
  exact hD.2 i _ (wld_at (List.getElem?_eq_getElem hi))
theorem st_all {s : State} {A : Nat → Prop} {f : Nat → Nat} (h0 : va_Z "BelievedByYard" "ABOVE" "[I" (.ref (f 0)) A s s.heap ∧ va_T .int (f 0) 7 (fun i => .int (([-1, 0, 0, 0, 1, 2, 3] : List Int32).getD i 0)) A s s.heap)
    (h1 : va_Z "BelievedByYard$Voices" "BODIES" "[I" (.ref (f 1)) A s s.heap ∧ va_T .int (f 1) 28 (fun i => .int (([10, 11, 12, 13, 20, 0, 0, 0, 0, 30, 0, 0, 0, 0, 40, 0, 0, 0, 0, 50, 0, 60, 0, 0, 0, 0, 70, 71] : List Int32).getD i 0)) A s s.heap)
    (h2 : va_Z "BelievedByYard$Reader" "NAMES" "[C" (.ref (f 2)) A s s.heap ∧ va_T .char (f 2) 6 (fun i => .int (([98, 121, 112, 98, 100, 109] : List Int32).getD i 0)) A s s.heap) :
    ∀ (j : Nat) (C n d : String) (ty : FieldType) (vs : List Int32), stL[j]? = some (C, n, d, ty, vs) → va_Z C n d (.ref (f j)) A s s.heap ∧ va_T ty (f j) vs.length (fun i => .int (vs.getD i 0)) A s s.heap := by
  intro j C n d ty vs hj
  match j with
  | 0 => cases hj; exact h0
  | 1 => cases hj; exact h1
  | 2 => cases hj; exact h2
  | j + 3 => simp [stL] at hj
/-- the law's loop over the machine -/
theorem law_run (X : Cx) {p : Program} {e : Env} {s : State} {m : MethodId} {b : Nat} {below : List Frame} {meth : Method} {c : Code} {A : Nat → Prop} {L : Nat} {xs : Nat → Int32} {Q : State → Prop} {H : Heap} {locs : List Loc} {ls : Array Slot} (hL : L ≤ 3072) (hx : p.tables.exec = Jvm.exec) (hb : c.code = cL_law) (hml : c.maxLocals = 4) (hown : s.vm.findClass RL = some m.cls) (hgt : ∀ w ∈ gt, w.before #[Value.ref b] s = true)
    (es : xsc X = some (L, xs)) (hE : Ex X A s) (hw : ∀ q, wA X q → A q) (hA : ∀ q, A q → s.heap.size ≤ q) (hP : va_P (xG X) vwCl (wld X mu0) H) (hS : va_S A s.heap H locs) (hl : lv_has ls 4 [(0, .ref (xad X 2000)), (1, .ref (xad X 0)), (2, .ref (xad X 70)), (3, .int (nI 0))])
    (hret : ∀ (H : Heap) (pc : Nat) (ls : Array Slot), decode code pc = .ok (.ireturn, 1) → W p (xL X) e room_1 s m #[Value.ref b] below meth c H [] 600000 7302250 Q (F0 m pc ls [.int 1])) :
    W p (xL X) e room_1 s m #[Value.ref b] below meth c H locs 84 2580 Q (F0 m 18 ls []) := by
  obtain ⟨⟨hV⟩⟩ := law_loop X L xs es hL (fun r _ => r = some (.int 1)) (fun _ => rfl) (L + 1) 0 (by omega) (by omega) mu0 Inv_0 (nI 0) rfl
  have hF : Fx X m_L_law 120 p room_1 s m #[Value.ref b] meth c 84 2580 A := ⟨hx, hb, hml, hown, hgt, hE, hw, Nat.le_of_ble_eq_true rfl, Nat.le_of_ble_eq_true rfl, Nat.le_of_ble_eq_true rfl, Nat.le_of_ble_eq_true rfl⟩
  have hR : Rt X m_L_law p e room_1 s m #[Value.ref b] below meth c 84 2580 A (fun r _ => r = some (.int 1)) Q := by
    intro r μ H' locs' pc i ls' stk hr hP' hS' hdg hro
    have hr : r = some (.int 1) := hr
    rcases hro with ⟨rfl, v, ty, h1, h2, rfl, h3⟩ | ⟨rfl, h1, h2, rfl⟩ | ⟨rfl, v, C, h1, h2, rfl, h3⟩
    · rw [hr] at h2
      cases h2
      refine va_forget (fun q hq => hA _ (hS'.2.2 q hq)) ?_
      refine W.widen (k := 600000) (n := 7302250) (Nat.le_of_ble_eq_true rfl) (Nat.le_of_ble_eq_true rfl) ?_
      exact hret H' pc ls' hdg
    · rw [hr] at h2
      cases h2
    · rw [hr] at h2
      cases h2
      rcases h3 with h3 | ⟨a, h3⟩ <;> cases h3
  have h := hV p e room_1 s m #[Value.ref b] below meth c H locs 84 2580 A Q ls hF hP hS hl hR
  have e1 : pcA m_L_law 10 = 18 := by decide +kernel
  rw [e1] at h
  exact h
theorem whole_go {p : Program} {e : Env} {s : State} {m : MethodId} {below : List Frame} {meth : Method} {c : Code} (l : Launch) {b L : Nat} {xs : Nat → Int32} {Q : State → Prop} (hL : L ≤ 3072) (hx : p.tables.exec = Jvm.exec) (hb : c.code = cL_law) (hml : c.maxLocals = 4) (hown : s.vm.findClass RL = some m.cls) (hts : ∀ w ∈ lw_tbl, w.before #[Value.ref b] s = true) (hX : va_X b L xs s s.heap) (hbl : b < s.heap.size) (hgv : (Jvm.Cond.and given_1 narrow_1).before #[Value.ref b] s = true)
    (hret : ∀ (H : Heap) (pc : Nat) (ls : Array Slot), decode code pc = .ok (.ireturn, 1) → W p l e room_1 s m #[Value.ref b] below meth c H [] 600000 7302250 Q (F0 m pc ls [.int 1])) :
    W p l e room_1 s m #[Value.ref b] below meth c s.heap [] 0 0 Q (entryFrame m ([Value.ref b] : List Value).toArray 4) := by
  have hgt : ∀ w ∈ gt, w.before #[Value.ref b] s = true := fun w hw => hts w (List.mem_filter.mp hw).1
  obtain ⟨A, hAd⟩ : ∃ A : Nat → Prop, A = fun q => s.heap.size ≤ q := ⟨_, rfl⟩
  have hA1 : ∀ q, s.heap.size ≤ q → A q := fun q h => by rw [hAd]; exact h
  have hA2 : ∀ q, A q → s.heap.size ≤ q := fun q h => by rw [hAd] at h; exact h
  have hnA : ∀ a : Nat, a < s.heap.size → ¬ A a := fun a h z => absurd (hA2 a z) (Nat.not_le.mpr h)
  clear hAd
  obtain ⟨dC, dI, hC⟩ := st_cls hts
  obtain ⟨aA, hT⟩ := st_ty hts
  obtain ⟨t0, z0⟩ := st_0 (A := A) hts hgv hnA
  obtain ⟨t1, z1⟩ := st_1 (A := A) hts hgv hnA
  obtain ⟨t2, z2⟩ := st_2 (A := A) hts hgv hnA
  obtain ⟨aK, aV, hS2, hev⟩ := st_str (A := A) hts hgv hnA
  have hcs := st_cs (A := A) hts hgv hnA
  have hsi := st_si (A := A) hts hgv hnA
  obtain ⟨X0, hX0⟩ : ∃ X0 : Cx, X0 = (l, (dC, dI), aA, adOf [] t0 t1 t2 b aK aV, none) := ⟨_, rfl⟩
  have eL0 : xL X0 = l := by subst hX0; rfl
  have eK : ∀ i, i < 2 → xad X0 (1003 + i) = aK i := fun i hi => by subst hX0; exact adOf_K [] t0 t1 t2 b aK aV i hi
  have eV : ∀ i, i < 2 → xad X0 (1005 + i) = aV i := fun i hi => by subst hX0; exact adOf_V [] t0 t1 t2 b aK aV i hi
  have e20 : xad X0 2000 = b := by subst hX0; rfl
  have e0 : xad X0 (1000 + 0) = t0 := by subst hX0; rfl
  have e1 : xad X0 (1000 + 1) = t1 := by subst hX0; rfl
  have e2 : xad X0 (1000 + 2) = t2 := by subst hX0; rfl
  have hC' : ∀ (k : Nat) (q : vw_C), vwCl[k]? = some q → u_Kn s q.1 q.2.1 q.2.2 ((xG X0).1 k) ((xG X0).2 k) := by subst hX0; exact hC
  have hT' : ∀ ty, ty ∈ tysL → ArrOfT s (xA X0 ty) ty ∧ va_RA s (xA X0 ty) ty := by subst hX0; exact hT
  clear hX0 hC hT
  have hK0 : Kx X0 A s := Kx_0 hts hC' hT' hS2 hev eK eV
  rw [← e0] at z0
  rw [← e1] at z1
  rw [← e2] at z2
  have hst := st_all (f := fun j => xad X0 (1000 + j)) z0 z1 z2
  have hsc : va_X (xad X0 2000) L xs s s.heap ∧ xad X0 2000 < s.heap.size ∧ ¬ A (xad X0 2000) := by
    rw [e20]
    exact ⟨hX, hbl, hnA b hbl⟩
  rw [← eL0] at hret
  rw [← eL0]
  have hl0 := lv_entry [Value.ref b] (n := 4) (Nat.le_of_ble_eq_true rfl)
  rw [lg_entry_eq]
  refine law_make X0 hx hb hml hown hgt hK0 hA1 hl0 (fun q1 q2 q3 q4 q5 q6 q7 q8 q9 q10 q11 q12 q13 q14 q15 q16 q17 q18 q19 q20 q21 q22 q23 q24 q25 q26 q27 q28 q29 q30 q31 q32 q33 q34 q35 q36 q37 q38 q39 q40 q41 q42 q43 q44 q45 q46 q47 q48 q49 q50 q51 q52 q53 q54 q55 q56 q57 q58 q59 q60 q61 q62 q63 q64 q65 q66 q67 q68 q69 q70 q71 q72 q73 q74 q75 q76 q77 q78 q79 q80 q81 q82 q83 q84 H locs ls hP hD hS hl => ?_)
  obtain ⟨X, eL, eG, eA, es, had, ex0, ex70, hP, hD⟩ := wld_ex X0 L xs q1 q2 q3 q4 q5 q6 q7 q8 q9 q10 q11 q12 q13 q14 q15 q16 q17 q18 q19 q20 q21 q22 q23 q24 q25 q26 q27 q28 q29 q30 q31 q32 q33 q34 q35 q36 q37 q38 q39 q40 q41 q42 q43 q44 q45 q46 q47 q48 q49 q50 q51 q52 q53 q54 q55 q56 q57 q58 q59 q60 q61 q62 q63 q64 q65 q66 q67 q68 q69 q70 q71 q72 q73 q74 q75 q76 q77 q78 q79 q80 q81 q82 q83 q84 hP hD
  have hl2 : lv_has ls 4 [(0, .ref (xad X 2000)), (1, .ref (xad X 0)), (2, .ref (xad X 70)), (3, .int (nI 0))] := by
    rw [ex0, ex70, had 2000 (by decide), e20]
    exact lv_sub hl [3, 2, 1, 0] rfl
  have hE : Ex X A s := Ex_0 eG eA es had hK0 hD hst hsc hcs hsi
  rw [← eL] at hret
  rw [← eL]
  exact law_run X hL hx hb hml hown hgt es hE (wA_0 hD) hA2 hP hS hl2 hret
