/-! texts worked out by a pile: how many lie on it, and what lies where -/
def rs (nm : Nat → Int32) (is : Int32) (s : Nat × (Nat → Int32)) : Nat × (Nat → Int32) :=
  if is < 20000 then (s.1 + 1, upd s.2 s.1 (if is < 10000 then is else nm (is - 10000).toInt.toNat))
  else if is = 20010 then (s.1, upd s.2 (s.1 - 1) (b2 (s.2 (s.1 - 1) = 0)))
  else (s.1 - 1, upd s.2 (s.1 - 2) (dn is (s.2 (s.1 - 2)) (s.2 (s.1 - 1))))
def rr (nm c : Nat → Int32) : Nat → Nat × (Nat → Int32)
  | 0 => (0, fun _ => 0)
  | j + 1 => rs nm (c j) (rr nm c j)
theorem rr_dep (nm c : Nat → Int32) : ∀ j, (rr nm c j).1 = dep c j := by
  intro j
  induction j with
  | zero => rfl
  | succ j ih =>
    show (rs nm (c j) (rr nm c j)).1 = itD (c j) (dep c j)
    rw [← ih]
    unfold rs itD
    split
    · rfl
    · split <;> rfl
theorem dep_le (c : Nat → Int32) : ∀ j, dep c j ≤ j := by
  intro j
  induction j with
  | zero => exact Nat.le_refl _
  | succ j ih =>
    show itD (c j) (dep c j) ≤ j + 1
    unfold itD
    split
    · omega
    · split <;> omega
theorem dep_pos {c : Nat → Int32} {n : Nat} (h : codeOk c n) {j : Nat} (hj : j < n) : 1 ≤ dep c (j + 1) := by
  show 1 ≤ itD (c j) (dep c j)
  have := h j hj
  unfold itOk at this
  unfold itD
  simp only [Int32.lt_iff_toInt_lt, ← Int32.toInt_inj, Int32.reduceToInt] at this ⊢
  split
  · omega
  · split <;> omega
theorem rs_num {nm : Nat → Int32} {v : Int32} {s : Nat × (Nat → Int32)} (h : v.toInt < 10000) : rs nm v s = (s.1 + 1, upd s.2 s.1 v) := by
  unfold rs
  rw [if_pos (by simp only [Int32.lt_iff_toInt_lt, Int32.reduceToInt]; omega), if_pos (by simp only [Int32.lt_iff_toInt_lt, Int32.reduceToInt]; omega)]
theorem rs_nam {nm : Nat → Int32} {v : Int32} {s : Nat × (Nat → Int32)} (h : 10000 ≤ v.toInt) (h2 : v.toInt < 20000) : rs nm v s = (s.1 + 1, upd s.2 s.1 (nm (v - 10000).toInt.toNat)) := by
  unfold rs
  rw [if_pos (by simp only [Int32.lt_iff_toInt_lt, Int32.reduceToInt]; omega), if_neg (by simp only [Int32.lt_iff_toInt_lt, Int32.reduceToInt]; omega)]
theorem rs_not {nm : Nat → Int32} {s : Nat × (Nat → Int32)} : rs nm 20010 s = (s.1, upd s.2 (s.1 - 1) (b2 (s.2 (s.1 - 1) = 0))) := by
  unfold rs
  rw [if_neg (by decide), if_pos rfl]
theorem rs_op {nm : Nat → Int32} {v : Int32} {s : Nat × (Nat → Int32)} (h : 20000 ≤ v.toInt) (h2 : v.toInt < 20010) : rs nm v s = (s.1 - 1, upd s.2 (s.1 - 2) (dn v (s.2 (s.1 - 2)) (s.2 (s.1 - 1)))) := by
  unfold rs
  rw [if_neg (by simp only [Int32.lt_iff_toInt_lt, Int32.reduceToInt]; omega), if_neg (by simp only [← Int32.toInt_inj, Int32.reduceToInt]; omega)]
/-- what a text of n items from place fr on gives -/
def tg (N : Nat → Int32) (fr : Nat) (a b c : Int32) : Int32 := (rr (nmf a b c) (fun j => N (fr + j)) (N (fr - 1)).toInt.toNat).2 0
/-- what a use gives -/
def gV (N : Nat → Int32) (u : Nat) (a b c : Int32) : Int32 :=
  if u = 0 then (if 0 < N 223 then tg N 224 a b c else a + b) else mx 0 (mn 1 (if 0 < N 275 then tg N 276 a b c else 1))
def gR (N : Nat → Int32) (t : Nat) (mk y fr : Int32) : Int32 :=
  if tf N t 0 = 3 then mk else if tf N t 0 = 6 then mk &&& (-2) else if tf N t 0 = 1 then (gV N 0 mk y fr &&& 255) ||| 1 else if tf N t 0 = 4 then (gV N 0 mk y fr &&& 255) ||| 129
  else if tf N t 0 = 2 then (gV N 0 mk y fr &&& 255) ^^^ ((1 : Int32) <<< ((y - y / 8 * 8) &&& 31)) else if tf N t 0 = 5 then ((gV N 0 mk y fr &&& 255) ^^^ ((1 : Int32) <<< ((y - y / 8 * 8) &&& 31))) ^^^ 255 else gV N 0 mk y fr &&& 255
abbrev bL (N : Nat → Int32) (t p : Nat) (mk yards : Int32) : Prop := N (6 + p) ≤ yards ∧ ¬ gV N 1 mk (N (6 + p)) (tf N t 1) = 0
abbrev nB (N : Nat → Int32) (t p : Nat) : Prop := bL N t p (tf N t 2) (tf N t 3)
def sp_law (S : Mem) (u a b c : Int32) : Sp := if 0 ≤ u ∧ u ≤ 1 then (gV (S 1) u.toInt.toNat a b c, S) else (BE, er S 1)
/-- the reference's scratch: named and pile -/
abbrev sc (μ : Mem) (f g : Nat → Int32) : Mem := sf (sf μ 76 f) 77 g
theorem sc_sc {μ : Mem} {f g f' g' : Nat → Int32} : sc (sc μ f g) f' g' = sc μ f' g' := by
  funext a
  simp only [sc, sf]
  by_cases h : a = 77
  · simp [h]
  · by_cases h2 : a = 76 <;> simp [h, h2]
theorem cl_s {X : Cx} {d m d' : Nat} {as rest : List Value} {μ : Mem} {nx : List Value → Mem → Prop} {E : Value} (hc : Nat.ble (csum rest) 8 = true) (hd : d' < d) (hM : Mt X m d' as μ (fun r μ' => ∃ f g, r = some E ∧ μ' = sc μ f g)) (k : ∀ f g, nx (E :: rest) (sc μ f g)) : clc X d m as rest μ nx :=
  cl_i hc hd hM (fun r μ' h => by obtain ⟨f, g, h1, h2⟩ := h; rw [h1, h2]; exact k f g)
theorem cl_w {X : Cx} {d m d' : Nat} {as rest : List Value} {μ : Mem} {nx : List Value → Mem → Prop} {E : Value} (hc : Nat.ble (csum rest) 8 = true) (hd : d' < d) (hM : Mt X m d' as μ (fun r μ' => ∃ g, r = some E ∧ μ' = sf μ 77 g)) (k : ∀ g, nx (E :: rest) (sf μ 77 g)) : clc X d m as rest μ nx :=
  cl_i hc hd hM (fun r μ' h => by obtain ⟨g, h1, h2⟩ := h; rw [h1, h2]; exact k g)
theorem wr3 {μ : Mem} {a b c : Int32} : wr (wr (wr μ 76 0 a) 76 1 b) 76 2 c = sf μ 76 (upd (upd (upd (μ 76) 0 a) 1 b) 2 c) := by
  funext i
  by_cases h : i = 76
  · subst h; rfl
  · simp [wr, sf, h]
theorem sc_76 {μ : Mem} {f : Nat → Int32} : sf μ 76 f = sc μ f (μ 77) := (sf_self (S := sf μ 76 f) (i := 77)).symm
theorem nmf3 {f : Nat → Int32} {a b c : Int32} : ∀ i, i < 3 → upd (upd (upd f 0 a) 1 b) 2 c i = nmf a b c i := by
  intro i hi
  rcases i with _ | _ | _ | i
  · rfl
  · rfl
  · rfl
  · omega
