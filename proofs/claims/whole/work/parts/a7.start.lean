theorem tl1 {w : Jvm.Cond} (i : Nat) (h : tables_1_1[i]? = some w) : w ∈ lw_tbl := List.mem_append_right _ (List.mem_append_left _ (List.mem_of_getElem? h))
theorem tl2 {w : Jvm.Cond} (i : Nat) (h : tables_1_2[i]? = some w) : w ∈ lw_tbl := List.mem_append_right _ (List.mem_append_right _ (List.mem_append_left _ (List.mem_of_getElem? h)))
theorem tl3 {w : Jvm.Cond} (i : Nat) (h : tables_1_3[i]? = some w) : w ∈ lw_tbl := List.mem_append_right _ (List.mem_append_right _ (List.mem_append_right _ (List.mem_append_left _ (List.mem_of_getElem? h))))
theorem tl4 {w : Jvm.Cond} (i : Nat) (h : tables_1_4[i]? = some w) : w ∈ lw_tbl := List.mem_append_right _ (List.mem_append_right _ (List.mem_append_right _ (List.mem_append_right _ (List.mem_append_left _ (List.mem_of_getElem? h)))))
theorem tl5 {w : Jvm.Cond} (i : Nat) (h : tables_1_5[i]? = some w) : w ∈ lw_tbl := List.mem_append_right _ (List.mem_append_right _ (List.mem_append_right _ (List.mem_append_right _ (List.mem_append_right _ (List.mem_append_left _ (List.mem_of_getElem? h))))))
theorem tl6 {w : Jvm.Cond} (i : Nat) (h : tables_1_6[i]? = some w) : w ∈ lw_tbl := List.mem_append_right _ (List.mem_append_right _ (List.mem_append_right _ (List.mem_append_right _ (List.mem_append_right _ (List.mem_append_right _ (List.mem_of_getElem? h))))))
section ST
variable {s : State} {args : Array Value}
theorem st_any (hts : ∀ w ∈ lw_tbl, w.before args s = true) : ∃ c : ClassId, s.vm.findClass "[I" = some c := by
  obtain ⟨c, k, comp, h, _⟩ := Cond.arrayClass_spec (hts (.arrayClass .int) (tl1 60 rfl))
  exact ⟨c, h⟩
theorem st_cls (hts : ∀ w ∈ lw_tbl, w.before args s = true) : ∃ (dC : Nat → ClassId) (dI : Nat → Nat → Nat), ∀ (k : Nat) (q : vw_C), vwCl[k]? = some q → u_Kn s q.1 q.2.1 q.2.2 (dC k) (dI k) := by
  have h : ∀ k : Nat, ∃ z : ClassId × (Nat → Nat), ∀ q : vw_C, vwCl[k]? = some q → u_Kn s q.1 q.2.1 q.2.2 z.1 z.2 := by
    intro k
    match k with
    | 0 =>
      obtain ⟨c, i, h⟩ := u_known (C := RX0) (T := TX0) (N := 4) (n := 4) hts inX0 (hts (.instantiable RX0 4) (tl1 189 rfl))
      exact ⟨(c, i), fun q hq => by cases hq; exact h⟩
    | 1 =>
      obtain ⟨c, i, h⟩ := u_known (C := RX1) (T := TX1) (N := 2) (n := 2) hts inX1 (hts (.instantiable RX1 2) (tl1 41 rfl))
      exact ⟨(c, i), fun q hq => by cases hq; exact h⟩
    | 2 =>
      obtain ⟨c, i, h⟩ := u_known (C := RX2) (T := TX2) (N := 3) (n := 3) hts inX2 (hts (.instantiable RX2 3) (tl1 235 rfl))
      exact ⟨(c, i), fun q hq => by cases hq; exact h⟩
    | 3 =>
      obtain ⟨c, i, h⟩ := u_known (C := RX3) (T := TX3) (N := 6) (n := 6) hts inX3 (hts (.instantiable RX3 6) (tl1 71 rfl))
      exact ⟨(c, i), fun q hq => by cases hq; exact h⟩
    | 4 =>
      obtain ⟨c, i, h⟩ := u_known (C := RX4) (T := TX4) (N := 2) (n := 2) hts inX4 (hts (.instantiable RX4 2) (tl1 35 rfl))
      exact ⟨(c, i), fun q hq => by cases hq; exact h⟩
    | 5 =>
      obtain ⟨c, i, h⟩ := u_known (C := RX5) (T := TX5) (N := 7) (n := 7) hts inX5 (hts (.instantiable RX5 7) (tl1 157 rfl))
      exact ⟨(c, i), fun q hq => by cases hq; exact h⟩
    | 6 =>
      obtain ⟨c, i, h⟩ := u_known (C := RX6) (T := TX6) (N := 4) (n := 4) hts inX6 (hts (.instantiable RX6 4) (tl1 212 rfl))
      exact ⟨(c, i), fun q hq => by cases hq; exact h⟩
    | 7 =>
      obtain ⟨c, i, h⟩ := u_known (C := RX7) (T := TX7) (N := 12) (n := 12) hts inX7 (hts (.instantiable RX7 12) (tl1 27 rfl))
      exact ⟨(c, i), fun q hq => by cases hq; exact h⟩
    | 8 =>
      obtain ⟨c, i, h⟩ := u_known (C := RX8) (T := TX8) (N := 8) (n := 8) hts inX8 (hts (.instantiable RX8 8) (tl1 19 rfl))
      exact ⟨(c, i), fun q hq => by cases hq; exact h⟩
    | 9 =>
      obtain ⟨c, i, h⟩ := u_known (C := RX9) (T := TX9) (N := 28) (n := 28) hts inX9 (hts (.instantiable RX9 28) (tl4 118 rfl))
      exact ⟨(c, i), fun q hq => by cases hq; exact h⟩
    | k + 10 =>
      obtain ⟨c, _⟩ := st_any hts
      exact ⟨(c, fun _ => 0), fun q hq => by simp [vwCl] at hq⟩
  obtain ⟨f, hf⟩ := Classical.axiomOfChoice h
  exact ⟨fun k => (f k).1, fun k => (f k).2, hf⟩
theorem st_arr {ty : FieldType} (h : (Cond.arrayClass ty).before args s = true) (hp : ∀ c, s.vm.findClass ("[" ++ ty.toString) = some c → va_RA s c ty) : ∃ cA, ArrOfT s cA ty ∧ va_RA s cA ty := by
  obtain ⟨c, k, comp, h1, h2, h3⟩ := Cond.arrayClass_spec h
  exact ⟨c, fun n z => ⟨fun k h => (by cases h), k, h2, comp, h3⟩, hp c h1⟩
theorem st_arrO {C : String} (h : (Cond.arrayOver (.object C)).before args s = true) : ∃ cA, ArrOfT s cA (.object C) ∧ va_RA s cA (.object C) := by
  obtain ⟨comp, c, k, h1, h2, h3, h4, h5⟩ := Cond.arrayOver_spec h
  exact ⟨c, fun n z => ⟨fun k h => (by cases h), k, h3, comp, h4⟩, k, comp, h3, h4, h1, h5⟩
theorem st_ty (hts : ∀ w ∈ lw_tbl, w.before args s = true) : ∃ aA : FieldType → ClassId, ∀ ty, ty ∈ tysL → ArrOfT s (aA ty) ty ∧ va_RA s (aA ty) ty := by
  have h : ∀ ty : FieldType, ∃ cA : ClassId, ty ∈ tysL → ArrOfT s cA ty ∧ va_RA s cA ty := by
    intro ty
    by_cases hm : ty ∈ tysL
    · have hm2 := hm
      unfold tysL at hm2
      simp only [List.mem_cons, List.not_mem_nil, or_false] at hm2
      rcases hm2 with rfl | rfl | rfl | rfl | rfl
      · obtain ⟨c, h⟩ := st_arr (hts (.arrayClass .int) (tl1 60 rfl)) (fun c h => h)
        exact ⟨c, fun _ => h⟩
      · obtain ⟨c, h⟩ := st_arr (hts (.arrayClass .boolean) (tl4 213 rfl)) (fun c h => h)
        exact ⟨c, fun _ => h⟩
      · obtain ⟨c, h⟩ := st_arrO (hts (.arrayOver (.object "BelievedByYard$Tale")) (tl1 33 rfl))
        exact ⟨c, fun _ => h⟩
      · obtain ⟨c, h⟩ := st_arrO (hts (.arrayOver (.object "BelievedByYard$Sheet")) (tl1 234 rfl))
        exact ⟨c, fun _ => h⟩
      · obtain ⟨c, h⟩ := st_arrO (hts (.arrayOver (.object "java/lang/String")) (tl4 124 rfl))
        exact ⟨c, fun _ => h⟩
    · obtain ⟨c, _⟩ := st_any hts
      exact ⟨c, fun z => absurd z hm⟩
  exact Classical.axiomOfChoice h
theorem st_nw (hts : ∀ w ∈ lw_tbl, w.before args s = true) : ∀ w ∈ nsW, va_Nw w s := by
  intro w hw
  have h := hts w (List.mem_filter.mp hw).1
  rcases nsW_form hw with ⟨a, i, b, n, d, q, rfl⟩ | ⟨a, i, x, q, rfl⟩
  · exact h
  · exact h
theorem st_ao (hts : ∀ w ∈ lw_tbl, w.before args s = true) : ∀ C ∈ ["BelievedByYard$Tale", "BelievedByYard$Sheet", "java/lang/String"], va_AO C s := by
  intro C hC
  simp only [List.mem_cons, List.not_mem_nil, or_false] at hC
  rcases hC with rfl | rfl | rfl
  · exact va_AO.of (hts _ (tl1 33 rfl))
  · exact va_AO.of (hts _ (tl1 234 rfl))
  · exact va_AO.of (hts _ (tl4 124 rfl))
set_option maxRecDepth 100000 in
theorem st_0 {A : Nat → Prop} (hts : ∀ w ∈ lw_tbl, w.before args s = true) (hgv : (Jvm.Cond.and given_1 narrow_1).before args s = true) (hA : ∀ a : Nat, a < s.heap.size → ¬ A a) : ∃ t : Nat, va_Z "BelievedByYard" "ABOVE" "[I" (.ref t) A s s.heap ∧ va_T .int t 7 (fun i => .int (([-1, 0, 0, 0, 1, 2, 3] : List Int32).getD i 0)) A s s.heap := by
  have hs := flat_of_before _ hgv
  have hel : ∀ j : Nat, j < 7 → (Term.elem (.static "BelievedByYard" "ABOVE" "[I") (.int (Int32.ofNat j))).eval args s none [] s = some (.int (([-1, 0, 0, 0, 1, 2, 3] : List Int32).getD j 0)) := by
    intro j hj
    have hj2 : j = 0 ∨ j = 1 ∨ j = 2 ∨ j = 3 ∨ j = 4 ∨ j = 5 ∨ j = 6 := by omega
    rcases hj2 with rfl | rfl | rfl | rfl | rfl | rfl | rfl
    · exact va_eqt (hs (.eq (.elem (.static "BelievedByYard" "ABOVE" "[I") (.int 0)) (.int (-1))) (by decide +kernel))
    · exact va_eqt (hs (.eq (.elem (.static "BelievedByYard" "ABOVE" "[I") (.int 1)) (.int (0))) (by decide +kernel))
    · exact va_eqt (hs (.eq (.elem (.static "BelievedByYard" "ABOVE" "[I") (.int 2)) (.int (0))) (by decide +kernel))
    · exact va_eqt (hs (.eq (.elem (.static "BelievedByYard" "ABOVE" "[I") (.int 3)) (.int (0))) (by decide +kernel))
    · exact va_eqt (hs (.eq (.elem (.static "BelievedByYard" "ABOVE" "[I") (.int 4)) (.int (1))) (by decide +kernel))
    · exact va_eqt (hs (.eq (.elem (.static "BelievedByYard" "ABOVE" "[I") (.int 5)) (.int (2))) (by decide +kernel))
    · exact va_eqt (hs (.eq (.elem (.static "BelievedByYard" "ABOVE" "[I") (.int 6)) (.int (3))) (by decide +kernel))
  obtain ⟨t, ht, hT⟩ := va_Tof (tm := .static "BelievedByYard" "ABOVE" "[I") (ty := .int) (N := 7) (f := fun i => .int (([-1, 0, 0, 0, 1, 2, 3] : List Int32).getD i 0)) (A := A) (by decide) (hs _ (by decide +kernel)) (va_eqt (hs (.eq (.length (.static "BelievedByYard" "ABOVE" "[I")) (.int 7)) (by decide +kernel))) hel hA
  exact ⟨t, va_Zref (hts _ (tl2 188 rfl)) (hts _ (tl1 1 rfl)) ht hA, hT⟩
set_option maxRecDepth 100000 in
theorem st_1 {A : Nat → Prop} (hts : ∀ w ∈ lw_tbl, w.before args s = true) (hgv : (Jvm.Cond.and given_1 narrow_1).before args s = true) (hA : ∀ a : Nat, a < s.heap.size → ¬ A a) : ∃ t : Nat, va_Z "BelievedByYard$Voices" "BODIES" "[I" (.ref t) A s s.heap ∧ va_T .int t 28 (fun i => .int (([10, 11, 12, 13, 20, 0, 0, 0, 0, 30, 0, 0, 0, 0, 40, 0, 0, 0, 0, 50, 0, 60, 0, 0, 0, 0, 70, 71] : List Int32).getD i 0)) A s s.heap := by
  have hs := flat_of_before _ hgv
  have hel : ∀ j : Nat, j < 28 → (Term.elem (.static "BelievedByYard$Voices" "BODIES" "[I") (.int (Int32.ofNat j))).eval args s none [] s = some (.int (([10, 11, 12, 13, 20, 0, 0, 0, 0, 30, 0, 0, 0, 0, 40, 0, 0, 0, 0, 50, 0, 60, 0, 0, 0, 0, 70, 71] : List Int32).getD j 0)) := by
    intro j hj
    have hj2 : j = 0 ∨ j = 1 ∨ j = 2 ∨ j = 3 ∨ j = 4 ∨ j = 5 ∨ j = 6 ∨ j = 7 ∨ j = 8 ∨ j = 9 ∨ j = 10 ∨ j = 11 ∨ j = 12 ∨ j = 13 ∨ j = 14 ∨ j = 15 ∨ j = 16 ∨ j = 17 ∨ j = 18 ∨ j = 19 ∨ j = 20 ∨ j = 21 ∨ j = 22 ∨ j = 23 ∨ j = 24 ∨ j = 25 ∨ j = 26 ∨ j = 27 := by omega
    rcases hj2 with rfl | rfl | rfl | rfl | rfl | rfl | rfl | rfl | rfl | rfl | rfl | rfl | rfl | rfl | rfl | rfl | rfl | rfl | rfl | rfl | rfl | rfl | rfl | rfl | rfl | rfl | rfl | rfl
    · exact va_eqt (hs (.eq (.elem (.static "BelievedByYard$Voices" "BODIES" "[I") (.int 0)) (.int (10))) (by decide +kernel))
    · exact va_eqt (hs (.eq (.elem (.static "BelievedByYard$Voices" "BODIES" "[I") (.int 1)) (.int (11))) (by decide +kernel))
    · exact va_eqt (hs (.eq (.elem (.static "BelievedByYard$Voices" "BODIES" "[I") (.int 2)) (.int (12))) (by decide +kernel))
    · exact va_eqt (hs (.eq (.elem (.static "BelievedByYard$Voices" "BODIES" "[I") (.int 3)) (.int (13))) (by decide +kernel))
    · exact va_eqt (hs (.eq (.elem (.static "BelievedByYard$Voices" "BODIES" "[I") (.int 4)) (.int (20))) (by decide +kernel))
    · exact va_eqt (hs (.eq (.elem (.static "BelievedByYard$Voices" "BODIES" "[I") (.int 5)) (.int (0))) (by decide +kernel))
    · exact va_eqt (hs (.eq (.elem (.static "BelievedByYard$Voices" "BODIES" "[I") (.int 6)) (.int (0))) (by decide +kernel))
    · exact va_eqt (hs (.eq (.elem (.static "BelievedByYard$Voices" "BODIES" "[I") (.int 7)) (.int (0))) (by decide +kernel))
    · exact va_eqt (hs (.eq (.elem (.static "BelievedByYard$Voices" "BODIES" "[I") (.int 8)) (.int (0))) (by decide +kernel))
    · exact va_eqt (hs (.eq (.elem (.static "BelievedByYard$Voices" "BODIES" "[I") (.int 9)) (.int (30))) (by decide +kernel))
    · exact va_eqt (hs (.eq (.elem (.static "BelievedByYard$Voices" "BODIES" "[I") (.int 10)) (.int (0))) (by decide +kernel))
    · exact va_eqt (hs (.eq (.elem (.static "BelievedByYard$Voices" "BODIES" "[I") (.int 11)) (.int (0))) (by decide +kernel))
    · exact va_eqt (hs (.eq (.elem (.static "BelievedByYard$Voices" "BODIES" "[I") (.int 12)) (.int (0))) (by decide +kernel))
    · exact va_eqt (hs (.eq (.elem (.static "BelievedByYard$Voices" "BODIES" "[I") (.int 13)) (.int (0))) (by decide +kernel))
    · exact va_eqt (hs (.eq (.elem (.static "BelievedByYard$Voices" "BODIES" "[I") (.int 14)) (.int (40))) (by decide +kernel))
    · exact va_eqt (hs (.eq (.elem (.static "BelievedByYard$Voices" "BODIES" "[I") (.int 15)) (.int (0))) (by decide +kernel))
    · exact va_eqt (hs (.eq (.elem (.static "BelievedByYard$Voices" "BODIES" "[I") (.int 16)) (.int (0))) (by decide +kernel))
    · exact va_eqt (hs (.eq (.elem (.static "BelievedByYard$Voices" "BODIES" "[I") (.int 17)) (.int (0))) (by decide +kernel))
    · exact va_eqt (hs (.eq (.elem (.static "BelievedByYard$Voices" "BODIES" "[I") (.int 18)) (.int (0))) (by decide +kernel))
    · exact va_eqt (hs (.eq (.elem (.static "BelievedByYard$Voices" "BODIES" "[I") (.int 19)) (.int (50))) (by decide +kernel))
    · exact va_eqt (hs (.eq (.elem (.static "BelievedByYard$Voices" "BODIES" "[I") (.int 20)) (.int (0))) (by decide +kernel))
    · exact va_eqt (hs (.eq (.elem (.static "BelievedByYard$Voices" "BODIES" "[I") (.int 21)) (.int (60))) (by decide +kernel))
    · exact va_eqt (hs (.eq (.elem (.static "BelievedByYard$Voices" "BODIES" "[I") (.int 22)) (.int (0))) (by decide +kernel))
    · exact va_eqt (hs (.eq (.elem (.static "BelievedByYard$Voices" "BODIES" "[I") (.int 23)) (.int (0))) (by decide +kernel))
    · exact va_eqt (hs (.eq (.elem (.static "BelievedByYard$Voices" "BODIES" "[I") (.int 24)) (.int (0))) (by decide +kernel))
    · exact va_eqt (hs (.eq (.elem (.static "BelievedByYard$Voices" "BODIES" "[I") (.int 25)) (.int (0))) (by decide +kernel))
    · exact va_eqt (hs (.eq (.elem (.static "BelievedByYard$Voices" "BODIES" "[I") (.int 26)) (.int (70))) (by decide +kernel))
    · exact va_eqt (hs (.eq (.elem (.static "BelievedByYard$Voices" "BODIES" "[I") (.int 27)) (.int (71))) (by decide +kernel))
  obtain ⟨t, ht, hT⟩ := va_Tof (tm := .static "BelievedByYard$Voices" "BODIES" "[I") (ty := .int) (N := 28) (f := fun i => .int (([10, 11, 12, 13, 20, 0, 0, 0, 0, 30, 0, 0, 0, 0, 40, 0, 0, 0, 0, 50, 0, 60, 0, 0, 0, 0, 70, 71] : List Int32).getD i 0)) (A := A) (by decide) (hs _ (by decide +kernel)) (va_eqt (hs (.eq (.length (.static "BelievedByYard$Voices" "BODIES" "[I")) (.int 28)) (by decide +kernel))) hel hA
  exact ⟨t, va_Zref (hts _ (tl4 3 rfl)) (hts _ (tl1 9 rfl)) ht hA, hT⟩
set_option maxRecDepth 100000 in
theorem st_2 {A : Nat → Prop} (hts : ∀ w ∈ lw_tbl, w.before args s = true) (hgv : (Jvm.Cond.and given_1 narrow_1).before args s = true) (hA : ∀ a : Nat, a < s.heap.size → ¬ A a) : ∃ t : Nat, va_Z "BelievedByYard$Reader" "NAMES" "[C" (.ref t) A s s.heap ∧ va_T .char t 6 (fun i => .int (([98, 121, 112, 98, 100, 109] : List Int32).getD i 0)) A s s.heap := by
  have hs := flat_of_before _ hgv
  have hel : ∀ j : Nat, j < 6 → (Term.elem (.static "BelievedByYard$Reader" "NAMES" "[C") (.int (Int32.ofNat j))).eval args s none [] s = some (.int (([98, 121, 112, 98, 100, 109] : List Int32).getD j 0)) := by
    intro j hj
    have hj2 : j = 0 ∨ j = 1 ∨ j = 2 ∨ j = 3 ∨ j = 4 ∨ j = 5 := by omega
    rcases hj2 with rfl | rfl | rfl | rfl | rfl | rfl
    · exact va_eqt (hs (.eq (.elem (.static "BelievedByYard$Reader" "NAMES" "[C") (.int 0)) (.int (98))) (by decide +kernel))
    · exact va_eqt (hs (.eq (.elem (.static "BelievedByYard$Reader" "NAMES" "[C") (.int 1)) (.int (121))) (by decide +kernel))
    · exact va_eqt (hs (.eq (.elem (.static "BelievedByYard$Reader" "NAMES" "[C") (.int 2)) (.int (112))) (by decide +kernel))
    · exact va_eqt (hs (.eq (.elem (.static "BelievedByYard$Reader" "NAMES" "[C") (.int 3)) (.int (98))) (by decide +kernel))
    · exact va_eqt (hs (.eq (.elem (.static "BelievedByYard$Reader" "NAMES" "[C") (.int 4)) (.int (100))) (by decide +kernel))
    · exact va_eqt (hs (.eq (.elem (.static "BelievedByYard$Reader" "NAMES" "[C") (.int 5)) (.int (109))) (by decide +kernel))
  obtain ⟨t, ht, hT⟩ := va_Tof (tm := .static "BelievedByYard$Reader" "NAMES" "[C") (ty := .char) (N := 6) (f := fun i => .int (([98, 121, 112, 98, 100, 109] : List Int32).getD i 0)) (A := A) (by decide) (hs _ (by decide +kernel)) (va_eqt (hs (.eq (.length (.static "BelievedByYard$Reader" "NAMES" "[C")) (.int 6)) (by decide +kernel))) hel hA
  exact ⟨t, va_Zref (hts _ (tl3 9 rfl)) (hts _ (tl1 8 rfl)) ht hA, hT⟩
def stm (i : Nat) : Term := if i = 0 then .string "BelievedByYardModel" 21 else .string "BelievedByYardModel" 23
set_option maxRecDepth 100000 in
theorem st_str {A : Nat → Prop} (hts : ∀ w ∈ lw_tbl, w.before args s = true) (hgv : (Jvm.Cond.and given_1 narrow_1).before args s = true) (hA : ∀ a : Nat, a < s.heap.size → ¬ A a) : ∃ adK adV : Nat → Nat, vk_S 2 [3, 3] [[98, 121, 112], [98, 100, 109]] adK adV A s s.heap ∧ ∀ i : Nat, i < 2 → (stm i).eval args s none [] s = some (.ref (adK i)) := by
  have hs := flat_of_before _ hgv
  have h2 : ∀ i : Nat, i < 2 → i = 0 ∨ i = 1 := fun i hi => by omega
  refine vk_Sof (args := args) (tm := stm) (fun i hi => ?_) (fun i hi => ?_) (fun i hi => ?_) (fun i hi => ?_) (fun i hi => ?_) (fun i hi j hj => ?_) (fun i j hi hj hne => ?_) hA
  · rcases h2 i hi with rfl | rfl <;> decide
  · rcases h2 i hi with rfl | rfl
    · exact hs (.exactly (.string "BelievedByYardModel" 21) "java/lang/String") (by decide +kernel)
    · exact hs (.exactly (.string "BelievedByYardModel" 23) "java/lang/String") (by decide +kernel)
  · rcases h2 i hi with rfl | rfl
    · exact hs (.eq (.field (.string "BelievedByYardModel" 21) "java/lang/String" "coder" "B") (.int 0)) (by decide +kernel)
    · exact hs (.eq (.field (.string "BelievedByYardModel" 23) "java/lang/String" "coder" "B") (.int 0)) (by decide +kernel)
  · rcases h2 i hi with rfl | rfl
    · exact hs (.arrayOf (.field (.string "BelievedByYardModel" 21) "java/lang/String" "value" "[B") .byte) (by decide +kernel)
    · exact hs (.arrayOf (.field (.string "BelievedByYardModel" 23) "java/lang/String" "value" "[B") .byte) (by decide +kernel)
  · rcases h2 i hi with rfl | rfl
    · exact hs (.eq (.length (.field (.string "BelievedByYardModel" 21) "java/lang/String" "value" "[B")) (.int 3)) (by decide +kernel)
    · exact hs (.eq (.length (.field (.string "BelievedByYardModel" 23) "java/lang/String" "value" "[B")) (.int 3)) (by decide +kernel)
  · rcases h2 i hi with rfl | rfl
    · have hj3 : j = 0 ∨ j = 1 ∨ j = 2 := by have : j < 3 := hj; omega
      rcases hj3 with rfl | rfl | rfl
      · exact hs (.eq (.elem (.field (.string "BelievedByYardModel" 21) "java/lang/String" "value" "[B") (.int 0)) (.int 98)) (by decide +kernel)
      · exact hs (.eq (.elem (.field (.string "BelievedByYardModel" 21) "java/lang/String" "value" "[B") (.int 1)) (.int 121)) (by decide +kernel)
      · exact hs (.eq (.elem (.field (.string "BelievedByYardModel" 21) "java/lang/String" "value" "[B") (.int 2)) (.int 112)) (by decide +kernel)
    · have hj3 : j = 0 ∨ j = 1 ∨ j = 2 := by have : j < 3 := hj; omega
      rcases hj3 with rfl | rfl | rfl
      · exact hs (.eq (.elem (.field (.string "BelievedByYardModel" 23) "java/lang/String" "value" "[B") (.int 0)) (.int 98)) (by decide +kernel)
      · exact hs (.eq (.elem (.field (.string "BelievedByYardModel" 23) "java/lang/String" "value" "[B") (.int 1)) (.int 100)) (by decide +kernel)
      · exact hs (.eq (.elem (.field (.string "BelievedByYardModel" 23) "java/lang/String" "value" "[B") (.int 2)) (.int 109)) (by decide +kernel)
  · rcases h2 i hi with rfl | rfl <;> rcases h2 j hj with rfl | rfl
    · exact absurd rfl hne
    · exact Or.inl (hs (.not (.eq (.string "BelievedByYardModel" 21) (.string "BelievedByYardModel" 23))) (by decide +kernel))
    · exact Or.inr (hs (.not (.eq (.string "BelievedByYardModel" 21) (.string "BelievedByYardModel" 23))) (by decide +kernel))
    · exact absurd rfl hne
theorem st_cs {A : Nat → Prop} (hts : ∀ w ∈ lw_tbl, w.before args s = true) (hgv : (Jvm.Cond.and given_1 narrow_1).before args s = true) (hA : ∀ a : Nat, a < s.heap.size → ¬ A a) : va_Z "java/lang/String" "COMPACT_STRINGS" "Z" (.int 1) A s s.heap := by
  have hs := flat_of_before _ hgv
  exact va_Zof (hts _ (tl5 42 rfl)) (hts _ (tl1 12 rfl)) (va_eqt (hs (.eq (.static "java/lang/String" "COMPACT_STRINGS" "Z") (.int 1)) (by decide +kernel))) hA
theorem st_si {A : Nat → Prop} (hts : ∀ w ∈ lw_tbl, w.before args s = true) (hgv : (Jvm.Cond.and given_1 narrow_1).before args s = true) (hA : ∀ a : Nat, a < s.heap.size → ¬ A a) : ∃ v : Value, (v = .null ∨ ∃ a, v = .ref a) ∧ va_Z "jdk/internal/util/Preconditions" "SIOOBE_FORMATTER" "Ljava/util/function/BiFunction;" v A s s.heap := by
  have hs := flat_of_before _ hgv
  rcases va_Zqof (hts _ (tl5 58 rfl)) (hts _ (tl1 14 rfl)) (hs (.isRef (.static "jdk/internal/util/Preconditions" "SIOOBE_FORMATTER" "Ljava/util/function/BiFunction;")) (by decide +kernel)) hA with h | ⟨t, h⟩
  · exact ⟨.null, Or.inl rfl, h⟩
  · exact ⟨.ref t, Or.inr ⟨t, rfl⟩, h⟩
end ST
