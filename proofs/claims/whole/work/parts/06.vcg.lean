/-! A checked way from conditions to walks: a method's code as data, its walk as one Prop that computes, sound over the machine once and for all. -/
abbrev Mem : Type := Nat → Nat → Int32
abbrev Lc : Type := List (Option Value)
def wr (μ : Mem) (i j : Nat) (x : Int32) : Mem := fun a => if a = i then upd (μ i) j x else μ a
abbrev Cx : Type := Launch × va_G × (FieldType → ClassId) × (Nat → Nat) × Option (Nat × (Nat → Int32))
abbrev xL (X : Cx) : Launch := X.1
abbrev xG (X : Cx) : va_G := X.2.1
abbrev xA (X : Cx) : FieldType → ClassId := X.2.2.1
abbrev xad (X : Cx) : Nat → Nat := X.2.2.2.1
abbrev xsc (X : Cx) : Option (Nat × (Nat → Int32)) := X.2.2.2.2
def tv (ad : Nat → Nat) (v : Value) : Value := match v with
  | .ref i => .ref (ad i)
  | v => v
theorem tv_cat (ad : Nat → Nat) (v : Value) : (tv ad v).category = v.category := by cases v <;> rfl
def fld (ad : Nat → Nat) (μ : Mem) (i k : Nat) (f : Option Nat) : Value := match f with
  | some r => .ref (ad r)
  | none => .int (μ i k)
def ent (X : Cx) (μ : Mem) (i : Nat) (s : Sh) : va_E := match s with
  | .inl (ci, fs) => .inr (ci, fs.mapIdx (fld (xad X) μ i))
  | .inr (.inl (ty, n)) => .inl (xA X ty, n, .inl (μ i))
  | .inr (.inr (C, ids)) => .inl (xA X (.object C), ids.length, .inr (.inr (.inr (.inr (fun j => (ids[j]?).map (xad X))))))
def wld (X : Cx) (μ : Mem) : va_W := shL.mapIdx (fun i s => (xad X i, ent X μ i s))
theorem wld_at {X : Cx} {μ : Mem} {i : Nat} {s : Sh} (h : shL[i]? = some s) : (wld X μ)[i]? = some (xad X i, ent X μ i s) := by
  simp [wld, h]
theorem wld_wr {X : Cx} {μ : Mem} {i j : Nat} {x : Int32} {s : Sh} {e : va_E} (h : shL[i]? = some s) (he : ent X (wr μ i j x) i s = e) : (wld X μ).set i (xad X i, e) = wld X (wr μ i j x) := by
  apply List.ext_getElem?
  intro k
  by_cases hk : k = i
  · subst hk
    rw [wld_at h, he, List.getElem?_set_self]
    simp [wld]
    exact (List.getElem?_eq_some_iff.mp h).1
  · rw [List.getElem?_set_ne (Ne.symm hk)]
    cases hs : shL[k]? with
    | none => simp [wld, hs]
    | some t =>
      rw [wld_at hs, wld_at hs]
      have e1 : ent X (wr μ i j x) k t = ent X μ k t := by
        have e2 : wr μ i j x k = μ k := by simp [wr, hk]
        rcases t with ⟨ci, fs⟩ | ⟨ty, n⟩ | ⟨C, ids⟩
        · simp only [ent]
          have e3 : fld (xad X) (wr μ i j x) k = fld (xad X) μ k := by
            funext a f
            cases f with
            | none => simp only [fld]; rw [e2]
            | some r => rfl
          rw [e3]
        · simp only [ent]; rw [e2]
        · rfl
      rw [e1]
def tysL : List FieldType := [.int, .boolean, .object "BelievedByYard$Tale", .object "BelievedByYard$Sheet", .object "java/lang/String"]
def tys (X : Cx) : List (ClassId × FieldType) := tysL.map (fun t => (xA X t, t))
def wA (X : Cx) : Nat → Prop := fun q => ∃ i, i < shL.length ∧ q = xad X i
def Inj (X : Cx) : Prop := ∀ i j, i < shL.length → j < shL.length → xad X i = xad X j → i = j
/-- what stays as it was at the start: tables, static arrays, the script, strings, words on nest mates -/
def Ex (X : Cx) (A : Nat → Prop) (s : State) : Prop :=
  va_K (xG X) vwCl (tys X) s ∧ Inj X ∧
  (∀ (j : Nat) (C n d : String) (ty : FieldType) (vs : List Int32), stL[j]? = some (C, n, d, ty, vs) → va_Z C n d (.ref (xad X (1000 + j))) A s s.heap ∧ va_T ty (xad X (1000 + j)) vs.length (fun i => .int (vs.getD i 0)) A s s.heap) ∧
  (∀ (L : Nat) (xs : Nat → Int32), xsc X = some (L, xs) → va_X (xad X 2000) L xs s s.heap ∧ xad X 2000 < s.heap.size ∧ ¬ A (xad X 2000)) ∧
  (∀ w ∈ nsW, va_Nw w s) ∧
  vk_S 2 [3, 3] [[98, 121, 112], [98, 100, 109]] (fun k => xad X (1003 + k)) (fun k => xad X (1005 + k)) A s s.heap ∧
  va_Z "java/lang/String" "COMPACT_STRINGS" "Z" (.int 1) A s s.heap ∧
  (∃ v : Value, (v = .null ∨ ∃ a, v = .ref a) ∧ va_Z "jdk/internal/util/Preconditions" "SIOOBE_FORMATTER" "Ljava/util/function/BiFunction;" v A s s.heap)
theorem nsW_form {w : Jvm.Cond} (h : w ∈ nsW) : (∃ a i b n d q, w = .fieldLinkNest a i b n d q) ∨ ∃ a i x q, w = .methodLinkNest a i x q := by
  have h2 := (List.mem_filter.mp h).2
  cases w <;> first | (exact Or.inl ⟨_, _, _, _, _, _, rfl⟩) | (exact Or.inr ⟨_, _, _, _, rfl⟩) | (simp [isNs] at h2)
theorem nsW_warm {s U : State} (hW : s.WarmedH U.vm) {w : Jvm.Cond} (hw : w ∈ nsW) (h : va_Nw w s) : va_Nw w U := by
  rcases nsW_form hw with ⟨a, i, b, n, d, q, rfl⟩ | ⟨a, i, x, q, rfl⟩
  · exact va_Nw.warmF hW h
  · exact va_Nw.warmM hW h
theorem nsW_same {u U : State} (hv : u.vm = U.vm) {w : Jvm.Cond} (hw : w ∈ nsW) (h : va_Nw w u) : va_Nw w U := by
  rcases nsW_form hw with ⟨a, i, b, n, d, q, rfl⟩ | ⟨a, i, x, q, rfl⟩
  · exact va_Nw.same rfl hv h
  · exact va_Nw.same rfl hv h
/-- from the caller's start to a callee's -/
theorem Ex.down {X : Cx} {A B : Nat → Prop} {s U : State} {H : Heap} {locs : List Loc} (h : Ex X A s) (hS : va_S A s.heap H locs) (hU : U.heap = H) (hW : s.WarmedH U.vm) (hBA : ∀ q, B q → A q) : Ex X B U := by
  obtain ⟨hK, hI, hs, hx, hn, hk, hc, v, hv, hz⟩ := h
  refine ⟨va_K.moved hW.alike hK, hI, fun j C n d ty vs hj => ?_, fun L xs hl => ?_, fun w hw => nsW_warm hW hw (hn w hw), ?_, ?_, v, hv, ?_⟩
  · obtain ⟨h1, h2⟩ := hs j C n d ty vs hj
    rw [hU]
    exact ⟨((h1.kept hS.2.1).moved hW.alike).narrow hBA, ((h2.kept hS.2.1).moved hW.alike).narrow hBA⟩
  · obtain ⟨h1, h2, h3⟩ := hx L xs hl
    rw [hU]
    exact ⟨(h1.kept (hS.2.1 _ h2 h3)).moved hW.alike, Nat.lt_of_lt_of_le h2 hS.1, fun z => h3 (hBA _ z)⟩
  · rw [hU]; exact ((hk.kept hS.2.1).moved hW.alike).narrow hBA
  · rw [hU]; exact ((hc.kept hS.2.1).moved hW.alike).narrow hBA
  · rw [hU]; exact ((hz.kept hS.2.1).moved hW.alike).narrow hBA
theorem Ex.blind {X : Cx} {A : Nat → Prop} {U : State} {g : JFrame} {mk : MethodId} {a : Array Value} (h : Ex X A U) : Ex X A (U.calling g mk a) := by
  obtain ⟨hK, hI, hs, hx, hn, hk, hc, v, hv, hz⟩ := h
  have hal : U.vm.Alike (U.calling g mk a).vm := Vm.Alike.refl U.vm
  refine ⟨va_K.moved hal hK, hI, fun j C n d ty vs hj => ?_, fun L xs hl => ?_, fun w hw => nsW_same (u := U) (U := U.calling g mk a) rfl hw (hn w hw), ?_, ?_, v, hv, ?_⟩
  · obtain ⟨h1, h2⟩ := hs j C n d ty vs hj
    exact ⟨h1.moved hal, h2.moved hal⟩
  · obtain ⟨h1, h2, h3⟩ := hx L xs hl
    exact ⟨h1.moved hal, h2, h3⟩
  · exact hk.moved hal
  · exact hc.moved hal
  · exact hz.moved hal
theorem wld_D {X : Cx} {μ : Mem} {A : Nat → Prop} (hI : Inj X) (hA : ∀ q, wA X q → A q) : va_D A (wld X μ) := by
  have key : ∀ (k : Nat) (q : Nat × va_E), (wld X μ)[k]? = some q → k < shL.length ∧ q.1 = xad X k := by
    intro k q h
    have hl := (List.getElem?_eq_some_iff.mp h).1
    have hl2 : k < shL.length := by simpa [wld] using hl
    refine ⟨hl2, ?_⟩
    rw [wld_at (List.getElem?_eq_getElem hl2)] at h
    cases h
    rfl
  refine ⟨fun i j p q hi hj hpq => ?_, fun k q hk => ?_⟩
  · obtain ⟨a1, a2⟩ := key i p hi
    obtain ⟨b1, b2⟩ := key j q hj
    exact hI i j a1 b1 (by rw [← a2, ← b2]; exact hpq)
  · obtain ⟨a1, a2⟩ := key k q hk
    exact hA _ ⟨k, a1, a2⟩
def rmD (d : Nat) : Room := { frames := d, cells := 0, slots := 0, locals := 40 * d }
def Pm (X : Cx) (as : List Value) (μ : Mem) : Array Value → State → Prop := va_Pc (as.map (tv (xad X))) (fun U => va_P (xG X) vwCl (wld X μ) U.heap ∧ Ex X (wA X) U)
def Qm (X : Cx) (K : Option Value → Mem → Prop) : Array Value → State → Outcome → State → Prop := fun _ st oc t => (∃ (r : Option Value) (μ : Mem), oc = .returned (r.map (tv (xad X))) ∧ K r μ ∧ va_P (xG X) vwCl (wld X μ) t.heap) ∧ va_F (wA X) st t
/-- a method's contract: n the method, d the frames below it, as its arguments, μ the memory -/
def Mt (X : Cx) (n d : Nat) (as : List Value) (μ : Mem) (K : Option Value → Mem → Prop) : Prop :=
  Met (xL X) (mY n) (.code (mY n) (mB n) (mL n) (mR n) :: gt) (rmD d) (Pm X as μ) (Qm X K) 0 0 (wA X)
theorem Pm.blind {X : Cx} {as : List Value} {μ : Mem} : FrameBlind (Pm X as μ) := fun _ _ _ _ h => ⟨h.1, h.2.1, h.2.2.blind⟩
def toLv (ad : Nat → Nat) : Nat → Lc → List (Nat × Value)
  | _, [] => []
  | i, none :: r => toLv ad (i + 1) r
  | i, some v :: r => (i, tv ad v) :: toLv ad (i + 1) r
theorem toLv_mem {ad : Nat → Nat} : ∀ (L : Lc) (i j : Nat) (w : Value), (j, w) ∈ toLv ad i L ↔ ∃ k v, L[k]? = some (some v) ∧ j = i + k ∧ w = tv ad v := by
  intro L
  induction L with
  | nil => intro i j w; simp [toLv]
  | cons a r ih =>
    intro i j w
    cases a with
    | none =>
      rw [toLv, ih]
      constructor
      · rintro ⟨k, v, h1, h2, h3⟩
        exact ⟨k + 1, v, by simpa using h1, by omega, h3⟩
      · rintro ⟨k, v, h1, h2, h3⟩
        cases k with
        | zero => simp at h1
        | succ k => exact ⟨k, v, by simpa using h1, by omega, h3⟩
    | some u =>
      rw [toLv, List.mem_cons, ih]
      constructor
      · rintro (h | ⟨k, v, h1, h2, h3⟩)
        · cases h; exact ⟨0, u, rfl, rfl, rfl⟩
        · exact ⟨k + 1, v, by simpa using h1, by omega, h3⟩
      · rintro ⟨k, v, h1, h2, h3⟩
        cases k with
        | zero =>
          left
          simp at h1
          subst h1
          rw [h2, h3]; rfl
        | succ k => right; exact ⟨k, v, by simpa using h1, by omega, h3⟩
abbrev LH (X : Cx) (ls : Array Slot) (nL : Nat) (L : Lc) : Prop := lv_has ls nL (toLv (xad X) 0 L)
theorem LH.at {X : Cx} {ls : Array Slot} {nL : Nat} {L : Lc} (h : LH X ls nL L) {i : Nat} {v : Value} (hi : L[i]? = some (some v)) : ls[i]? = some (.val (tv (xad X) v)) :=
  h.2.2 (i, tv (xad X) v) ((toLv_mem L 0 i _).mpr ⟨i, v, hi, by omega, rfl⟩)
def stok (L : Lc) (i : Nat) : Bool := match i with
  | 0 => true
  | j + 1 => match L[j]? with
    | some (some (.long _)) => false
    | some (some (.double _)) => false
    | _ => true
theorem stok_cat {L : Lc} {j : Nat} (h : stok L (j + 1) = true) {v : Value} (hv : L[j]? = some (some v)) : v.category = 1 := by
  unfold stok at h
  simp only [hv] at h
  cases v <;> first | rfl | (simp at h)
theorem LH.set {X : Cx} {ls' : Array Slot} {nL i : Nat} {L : Lc} {v : Value} (hok : stok L i = true) (h : lv_has ls' nL ((i, tv (xad X) v) :: (toLv (xad X) 0 L).filter (fun q => !(q.1 == i) && !(q.1 + 1 == i && q.2.category == 2)))) : LH X ls' nL (L.set i (some v)) := by
  refine ⟨h.1, h.2.1, fun q hq => ?_⟩
  obtain ⟨j, w⟩ := q
  obtain ⟨k, u, h1, h2, h3⟩ := (toLv_mem _ 0 j w).mp hq
  have hjk : j = k := by omega
  subst hjk
  by_cases hji : i = j
  · subst hji
    rw [List.getElem?_set] at h1
    simp only [if_true] at h1
    split at h1
    · cases h1
      rw [h3]
      exact h.2.2 _ List.mem_cons_self
    · cases h1
  · rw [List.getElem?_set_ne hji] at h1
    refine h.2.2 (j, w) (List.mem_cons_of_mem _ (List.mem_filter.mpr ⟨(toLv_mem L 0 j w).mpr ⟨j, u, h1, by omega, h3⟩, ?_⟩))
    have e1 : (j == i) = false := by simp; omega
    simp only [e1, Bool.not_false, Bool.true_and]
    by_cases hj1 : j + 1 = i
    · subst hj1
      have hc := stok_cat hok h1
      rw [h3, tv_cat, hc]
      simp
    · simp [hj1]
/-- the locals of a call: a long takes two -/
def argL : List Value → Lc
  | [] => []
  | .long x :: r => some (.long x) :: none :: argL r
  | .double x :: r => some (.double x) :: none :: argL r
  | v :: r => some v :: argL r
def padL (n : Nat) (L : Lc) : Lc := L ++ List.replicate (n - L.length) none
theorem toLv_none {ad : Nat → Nat} : ∀ (k i : Nat), toLv ad i (List.replicate k none) = [] := by
  intro k
  induction k with
  | zero => intro i; rfl
  | succ k ih => intro i; rw [List.replicate_succ, toLv]; exact ih _
theorem toLv_app {ad : Nat → Nat} : ∀ (L : Lc) (M : Lc) (i : Nat), toLv ad i (L ++ M) = toLv ad i L ++ toLv ad (i + L.length) M := by
  intro L
  induction L with
  | nil => intro M i; simp [toLv]
  | cons a r ih =>
    intro M i
    cases a with
    | none => simp only [List.cons_append, toLv, ih, List.length_cons]; congr 2; omega
    | some v => simp only [List.cons_append, toLv, ih, List.length_cons]; congr 3; omega
theorem toLv_args {ad : Nat → Nat} : ∀ (as : List Value) (i : Nat), toLv ad i (argL as) = lv_args i (as.map (tv ad)) := by
  intro as
  induction as with
  | nil => intro i; rfl
  | cons v r ih => intro i; cases v <;> simp [argL, toLv, lv_args, tv, Value.category, ih]
theorem toLv_pad {ad : Nat → Nat} (n : Nat) (L : Lc) : toLv ad 0 (padL n L) = toLv ad 0 L := by
  rw [padL, toLv_app, toLv_none, List.append_nil]
