/-! what the calls answer, said of the reference's part S of the memory: S 1 now, S 2 kept, S 3 errors, S 9 trace, S 10 widths, S 11 sizes, S 12 numbers, S 0 2 images, S 0 20 traced -/
abbrev BE : Int32 := -1000000001
abbrev NO : Int32 := -1000000002
abbrev ST : Int32 := -1000000003
abbrev FU : Int32 := -1000000004
abbrev KI : Int32 := -1000000005
def er (S : Mem) (k : Nat) : Mem := wr S 3 k (S 3 k + 1)
abbrev Sp : Type := Int32 × Mem
abbrev isP (N : Nat → Int32) (v : Int32) : Prop := 0 ≤ v ∧ v ≤ N 1 - 1
abbrev isT (N : Nat → Int32) (v : Int32) : Prop := 0 ≤ v ∧ v ≤ N 2 - 1
def nP (N : Nat → Int32) : Nat := (N 1).toInt.toNat
def nT (N : Nat → Int32) : Nat := (N 2).toInt.toNat
def tf (N : Nat → Int32) (t f : Nat) : Int32 := N (111 + 6 * t + f)
def yd (N : Nat → Int32) (a b : Nat) : Int32 := N (13 + 7 * a + b)
def tl (N : Nat → Int32) (a b : Nat) : Int32 := N (62 + 7 * a + b)
def upto (x : Int32) (a b : Int) : Prop := a ≤ x.toInt ∧ x.toInt ≤ b
def nmf (a b c : Int32) (k : Nat) : Int32 := if k = 0 then a else if k = 1 then b else c
def dn (op a b : Int32) : Int32 :=
  if op = 20000 then b2 (¬ a = 0 ∨ ¬ b = 0) else if op = 20001 then b2 (¬ a = 0 ∧ ¬ b = 0) else if op = 20002 then b2 (a < b) else if op = 20003 then b2 (a = b) else if op = 20004 then b2 (b < a)
  else if op = 20005 then a + b else if op = 20006 then a - b else if op = 20007 then a * b else if op = 20008 then (if b = 0 then 0 else a / b) else (if b = 0 then 0 else a - a / b * b)
/-- one item of a text's row of items, by a pile, its top first -/
def rst (nm : Nat → Int32) (is : Int32) (st : List Int32) : List Int32 :=
  if is < 20000 then (if is < 10000 then is else nm (is - 10000).toInt.toNat) :: st
  else if is = 20010 then (match st with
    | x :: r => b2 (x = 0) :: r
    | [] => [])
  else (match st with
    | y :: x :: r => dn is x y :: r
    | _ => [])
def rrun (nm c : Nat → Int32) : Nat → List Int32
  | 0 => []
  | j + 1 => rst nm (c j) (rrun nm c j)
/-- an item that may stand behind a pile of k -/
def itOk (is : Int32) (k : Nat) : Prop := (0 ≤ is.toInt ∧ is.toInt < 10003) ∨ (is = 20010 ∧ 1 ≤ k) ∨ (20000 ≤ is.toInt ∧ is.toInt < 20010 ∧ 2 ≤ k)
def itD (is : Int32) (k : Nat) : Nat := if is < 20000 then k + 1 else if is = 20010 then k else k - 1
def dep (c : Nat → Int32) : Nat → Nat
  | 0 => 0
  | j + 1 => itD (c j) (dep c j)
def codeOk (c : Nat → Int32) (n : Nat) : Prop := ∀ j, j < n → itOk (c j) (dep c j)
/-- what a use gives -/
def gv (N : Nat → Int32) (u : Nat) (a b c : Int32) : Int32 :=
  if u = 0 then (if 0 < N 223 then (rrun (nmf a b c) (fun j => N (224 + j)) (N 223).toInt.toNat).headD 0 else a + b)
  else mx 0 (mn 1 (if 0 < N 275 then (rrun (nmf a b c) (fun j => N (276 + j)) (N 275).toInt.toNat).headD 0 else 1))
def grw (N : Nat → Int32) (t : Nat) (mk y fr : Int32) : Int32 :=
  if tf N t 0 = 3 then mk else if tf N t 0 = 6 then mk &&& (-2) else if tf N t 0 = 1 then (gv N 0 mk y fr &&& 255) ||| 1 else if tf N t 0 = 4 then (gv N 0 mk y fr &&& 255) ||| 129
  else if tf N t 0 = 2 then (gv N 0 mk y fr &&& 255) ^^^ ((1 : Int32) <<< ((y - y / 8 * 8) &&& 31)) else if tf N t 0 = 5 then ((gv N 0 mk y fr &&& 255) ^^^ ((1 : Int32) <<< ((y - y / 8 * 8) &&& 31))) ^^^ 255 else gv N 0 mk y fr &&& 255
def wlk (N : Nat → Int32) (t : Nat) (y : Int32) : Int32 :=
  if tf N t 0 = 1 then mx 1 (y / 2) else if tf N t 0 = 4 then 2 * mx 1 (y / 2) else if tf N t 0 = 2 then 3 * y else if tf N t 0 = 5 then 3 * y + tf N t 1 else if tf N t 0 = 6 then mx 0 (y - tf N t 1) else y
abbrev bel (N : Nat → Int32) (t p : Nat) (mk yards : Int32) : Prop := N (6 + p) ≤ yards ∧ ¬ gv N 1 mk (N (6 + p)) (tf N t 1) = 0
abbrev nbel (N : Nat → Int32) (t p : Nat) : Prop := bel N t p (tf N t 2) (tf N t 3)
/-- what holds of now and of kept -/
def WN (N : Nat → Int32) : Prop :=
  upto (N 0) 0 9999 ∧ upto (N 1) 0 7 ∧ upto (N 2) 0 7 ∧ upto (N 4) 0 50 ∧ upto (N 5) 0 20 ∧ (∀ j, j < 7 → upto (N (6 + j)) 0 99) ∧ (∀ j, j < 49 → upto (N (13 + j)) 0 99) ∧ (∀ j, j < 49 → upto (N (62 + j)) 0 9) ∧
  (∀ t, t < 7 → upto (tf N t 0) 0 6 ∧ upto (tf N t 1) 0 9 ∧ upto (tf N t 2) 0 255 ∧ upto (tf N t 3) 0 9999 ∧ upto (tf N t 4) 0 6 ∧ upto (tf N t 5) 0 9999) ∧ (∀ t, t < nT N → (tf N t 4).toInt < (N 1).toInt) ∧
  (∀ j, j < 50 → upto (N (153 + j)) 0 255) ∧ (upto (N 223) 0 50 ∧ codeOk (fun j => N (224 + j)) (N 223).toInt.toNat) ∧ (upto (N 275) 0 50 ∧ codeOk (fun j => N (276 + j)) (N 275).toInt.toNat)
def WFS (S : Mem) : Prop := WN (S 1) ∧ WN (S 2) ∧ upto (S 0 20) 0 40 ∧ (∀ s, s < 4 → (S 10 s = 0 ∨ S 10 s = 8 ∨ S 10 s = 16 ∨ S 10 s = 32) ∧ upto (S 11 s) 0 40 ∧ (S 10 s = 0 → S 11 s = 0))
def EqS (S S' : Mem) : Prop := S' 1 = S 1 ∧ S' 2 = S 2 ∧ S' 3 = S 3 ∧ S' 9 = S 9 ∧ S' 10 = S 10 ∧ S' 11 = S 11 ∧ S' 12 = S 12 ∧ S' 0 2 = S 0 2 ∧ S' 0 20 = S 0 20
/-- the reference's end: the answer and the part of the memory that p says; the class's part as it was -/
def Pm90 (μ : Mem) (p : Sp) (r : Option Value) (μ' : Mem) : Prop := r = some (.int p.1) ∧ EqS p.2 (mp μ') ∧ ∀ i, i < 70 → μ' i = μ i
abbrev Pm9 (μ : Mem) (p : Sp) (r : Option Value) (μ' : Mem) : Prop := Nonempty (PLift (Pm90 μ p r μ'))
theorem EqS.rf {S : Mem} : EqS S S := ⟨rfl, rfl, rfl, rfl, rfl, rfl, rfl, rfl, rfl⟩
theorem Pm9.of {μ μ' : Mem} {p : Sp} {x : Int32} (hp : p = (x, mp μ')) (hl : ∀ i, i < 70 → μ' i = μ i) : Pm9 μ p (some (.int x)) μ' := by
  subst hp
  exact ⟨⟨rfl, EqS.rf, hl⟩⟩
theorem lo_wr {μ : Mem} {i a j : Nat} {x : Int32} (h : i < 70) (ha : 70 ≤ a) : wr μ a j x i = μ i := by
  have : i ≠ a := by omega
  simp [wr, this]
theorem mf_lo {a i : Nat} (h : i < 70) (ha : 70 ≤ a) : (i = a) = False := eq_false (by omega)
theorem mpa_0 {μ : Mem} : mp μ 0 = μ 70 := rfl
theorem mpa_1 {μ : Mem} : mp μ 1 = μ 71 := rfl
theorem mpa_2 {μ : Mem} : mp μ 2 = μ 72 := rfl
theorem mpa_3 {μ : Mem} : mp μ 3 = μ 73 := rfl
theorem mpa_9 {μ : Mem} : mp μ 9 = μ 79 := rfl
theorem mpa_10 {μ : Mem} : mp μ 10 = μ 80 := rfl
theorem mpa_11 {μ : Mem} : mp μ 11 = μ 81 := rfl
theorem mpa_12 {μ : Mem} : mp μ 12 = μ 82 := rfl
theorem mp71 {μ : Mem} {j : Nat} {x : Int32} : mp (wr μ 71 j x) = wr (mp μ) 1 j x := mp_wr (i := 1)
theorem mp72 {μ : Mem} {j : Nat} {x : Int32} : mp (wr μ 72 j x) = wr (mp μ) 2 j x := mp_wr (i := 2)
theorem mp73 {μ : Mem} {j : Nat} {x : Int32} : mp (wr μ 73 j x) = wr (mp μ) 3 j x := mp_wr (i := 3)
theorem mp79 {μ : Mem} {j : Nat} {x : Int32} : mp (wr μ 79 j x) = wr (mp μ) 9 j x := mp_wr (i := 9)
theorem mp80 {μ : Mem} {j : Nat} {x : Int32} : mp (wr μ 80 j x) = wr (mp μ) 10 j x := mp_wr (i := 10)
theorem mp81 {μ : Mem} {j : Nat} {x : Int32} : mp (wr μ 81 j x) = wr (mp μ) 11 j x := mp_wr (i := 11)
theorem mp82 {μ : Mem} {j : Nat} {x : Int32} : mp (wr μ 82 j x) = wr (mp μ) 12 j x := mp_wr (i := 12)
theorem mp70 {μ : Mem} {j : Nat} {x : Int32} : mp (wr μ 70 j x) = wr (mp μ) 0 j x := mp_wr (i := 0)
theorem in_P {N : Nat → Int32} (h : WN N) {v : Int32} (hv : isP N v) : ∃ k, k < 7 ∧ v = nI k ∧ k < nP N := by
  obtain ⟨-, ⟨h1, h2⟩, -⟩ := h
  obtain ⟨h3, h4⟩ := hv
  simp only [Int32.le_iff_toInt_le, Int32.toInt_sub, Int.bmod_def, Int32.reduceToInt] at h3 h4
  obtain ⟨k, hk, hk2⟩ := of_i (x := v) (n := (N 1).toInt.toNat) (by omega) (by omega) (by omega)
  exact ⟨k, by omega, hk2, hk⟩
theorem in_T {N : Nat → Int32} (h : WN N) {v : Int32} (hv : isT N v) : ∃ k, k < 7 ∧ v = nI k ∧ k < nT N := by
  obtain ⟨-, -, ⟨h1, h2⟩, -⟩ := h
  obtain ⟨h3, h4⟩ := hv
  simp only [Int32.le_iff_toInt_le, Int32.toInt_sub, Int.bmod_def, Int32.reduceToInt] at h3 h4
  obtain ⟨k, hk, hk2⟩ := of_i (x := v) (n := (N 2).toInt.toNat) (by omega) (by omega) (by omega)
  exact ⟨k, by omega, hk2, hk⟩
theorem in_2 {v : Int32} {n : Nat} (h0 : (0 : Int32) ≤ v) (h : v.toInt < n) (hn : n ≤ 2147483648) : ∃ k, k < n ∧ v = nI k :=
  of_i (by simpa [Int32.le_iff_toInt_le] using h0) h hn
def taIx (t : Int32) (f : Nat) : Nat := 111 + 6 * t.toInt.toNat + f
def sp_tale (S : Mem) (km mk p : Int32) : Sp := if 0 ≤ km ∧ km ≤ 69 then (if 0 ≤ mk ∧ mk ≤ 255 then (if isP (S 1) p then (if S 1 2 = 7 then (FU, er S 4) else
  (S 1 2, wr (wr (wr (wr (wr (wr (wr S 1 (taIx (S 1 2) 0) (km / 10)) 1 (taIx (S 1 2) 1) (km - km / 10 * 10)) 1 (taIx (S 1 2) 2) mk) 1 (taIx (S 1 2) 3) 0) 1 (taIx (S 1 2) 4) p) 1 (taIx (S 1 2) 5) 0) 1 2 (S 1 2 + 1))) else (BE, er S 1)) else (BE, er S 1)) else (BE, er S 1)
def sp_change (S : Mem) (t w v : Int32) : Sp := if isT (S 1) t then (if w = 0 then (if 0 ≤ v ∧ v ≤ 255 then (S 1 (taIx t 2), wr S 1 (taIx t 2) v) else (BE, er S 1)) else if w = 2 then (if isP (S 1) v then (S 1 (taIx t 4), wr S 1 (taIx t 4) v) else (BE, er S 1))
  else if 1 ≤ w ∧ w ≤ 3 then (if 0 ≤ v ∧ v ≤ 9999 then (if w = 1 then (S 1 (taIx t 3), wr S 1 (taIx t 3) v) else (S 1 (taIx t 5), wr S 1 (taIx t 5) v)) else (BE, er S 1)) else (BE, er S 1)) else (BE, er S 1)
def sp_become (S : Mem) (t km : Int32) : Sp := if isT (S 1) t then (if 0 ≤ km ∧ km ≤ 69 then (S 1 (taIx t 0), wr (wr S 1 (taIx t 1) (km - km / 10 * 10)) 1 (taIx t 0) (km / 10)) else (BE, er S 1)) else (BE, er S 1)
def sp_place (S : Mem) (v : Int32) : Sp := if 0 ≤ v ∧ v ≤ 99 then (if S 1 1 = 7 then (FU, er S 4) else (S 1 1, wr (wr S 1 (6 + nP (S 1)) v) 1 1 (S 1 1 + 1))) else (BE, er S 1)
def sp_doubt (S : Mem) (p v : Int32) : Sp := if isP (S 1) p then (if 0 ≤ v ∧ v ≤ 99 then (S 1 (6 + p.toInt.toNat), wr S 1 (6 + p.toInt.toNat) v) else (BE, er S 1)) else (BE, er S 1)
abbrev two (N : Nat → Int32) (a b : Int32) : Prop := (isP N a ∧ isP N b) ∧ ¬ a = b
def sp_road (S : Mem) (a b w v : Int32) : Sp := if two (S 1) a b then (if 0 ≤ w ∧ w ≤ 1 then (if w = 0 then (if 0 ≤ v ∧ v ≤ 99 then (yd (S 1) a.toInt.toNat b.toInt.toNat, wr (wr S 1 (13 + 7 * b.toInt.toNat + a.toInt.toNat) v) 1 (13 + 7 * a.toInt.toNat + b.toInt.toNat) v) else (BE, er S 1))
  else (if 0 ≤ v ∧ v ≤ 9 then (tl (S 1) a.toInt.toNat b.toInt.toNat, wr (wr S 1 (62 + 7 * b.toInt.toNat + a.toInt.toNat) v) 1 (62 + 7 * a.toInt.toNat + b.toInt.toNat) v) else (BE, er S 1))) else (BE, er S 1)) else (BE, er S 1)
def sp_between (S : Mem) (a b w : Int32) : Sp := if two (S 1) a b then (if 0 ≤ w ∧ w ≤ 1 then (if w = 0 then (yd (S 1) a.toInt.toNat b.toInt.toNat, S) else (tl (S 1) a.toInt.toNat b.toInt.toNat, S)) else (BE, er S 1)) else (BE, er S 1)
def sp_seed (S : Mem) (v : Int32) : Sp := (S 1 3, wr S 1 3 v)
def sp_tell (S : Mem) (v : Int32) : Sp := if S 1 5 = 20 then (FU, er S 4) else (S 1 5 + 1, wr (wr S 1 (203 + (S 1 5).toInt.toNat) v) 1 5 (S 1 5 + 1))
def sp_told (S : Mem) (k : Int32) : Sp := if 1 ≤ k ∧ k ≤ 5 then (S 3 k.toInt.toNat, S) else (BE, er S 1)
def sp_trace (S : Mem) (i : Int32) : Sp := if 0 ≤ i ∧ i ≤ S 0 20 - 1 then (S 9 i.toInt.toNat, S) else (NO, er S 2)
theorem tnc (x : Int32) : x.toNatClampNeg = x.toInt.toNat := rfl
theorem t_add {x y : Int32} (h1 : -2147483648 ≤ x.toInt + y.toInt) (h2 : x.toInt + y.toInt < 2147483648) : (x + y).toInt = x.toInt + y.toInt := by
  simp only [Int32.toInt_add, Int.bmod_def]
  omega
theorem wr_wr {μ : Mem} {i j k : Nat} {x : Int32} (h : k ≠ j) : wr μ i j x i k = μ i k := by simp [wr, upd, h]
def sp_put (S : Mem) (s i v : Int32) : Sp := if 0 ≤ s ∧ s ≤ 3 then (if S 10 s.toInt.toNat = 0 then (NO, er S 2) else if 0 ≤ i ∧ i ≤ S 11 s.toInt.toNat - 1 then (if S 10 s.toInt.toNat = 8 then (1, wr S 12 (40 * s.toInt.toNat + i.toInt.toNat) v.toInt8.toInt32) else if S 10 s.toInt.toNat = 16 then (1, wr S 12 (40 * s.toInt.toNat + i.toInt.toNat) v.toInt16.toInt32) else (1, wr S 12 (40 * s.toInt.toNat + i.toInt.toNat) v)) else (BE, er S 1)) else (BE, er S 1)
def lat (N : Nat → Int32) (t : Nat) : Int32 := mx 0 (N (6 + (tf N t 4).toInt.toNat) - tf N t 3)
def sp_late (S : Mem) (t : Int32) : Sp := if isT (S 1) t then (lat (S 1) t.toInt.toNat, S) else (BE, er S 1)
theorem in_3 {s : Int32} (h : 0 ≤ s ∧ s ≤ 3) : ∃ k, k < 4 ∧ s = nI k := by
  simp only [Int32.le_iff_toInt_le, Int32.reduceToInt] at h
  exact of_i (by omega) (by omega) (by decide)
theorem ix_40 (s i : Nat) : (40 : Int32) * nI s + nI i = nI (40 * s + i) := by
  rw [show (40 : Int32) = nI 40 from rfl, pk_mul, nI_add]
/-- a row of numbers put whole -/
def sf (S : Mem) (i : Nat) (f : Nat → Int32) : Mem := fun a => if a = i then f else S a
theorem sf_at {S : Mem} {i : Nat} {f : Nat → Int32} : sf S i f i = f := by simp [sf]
theorem sf_ne {S : Mem} {i a : Nat} {f : Nat → Int32} (h : a ≠ i) : sf S i f a = S a := by simp [sf, h]
theorem sf_self {S : Mem} {i : Nat} : sf S i (S i) = S := by funext a; by_cases h : a = i <;> simp [sf, h]
theorem wr_sf {S : Mem} {i j : Nat} {x : Int32} {f : Nat → Int32} : wr (sf S i f) i j x = sf S i (upd f j x) := by
  funext a
  by_cases h : a = i <;> simp [sf, wr, h]
theorem lo_sf {μ : Mem} {i a : Nat} {f : Nat → Int32} (h : i < 70) (ha : 70 ≤ a) : sf μ a f i = μ i := sf_ne (by omega)
theorem mp_sf {μ : Mem} {i : Nat} {f : Nat → Int32} : mp (sf μ (70 + i) f) = sf (mp μ) i f := by
  funext a
  by_cases h : a = i
  · subst h; simp [mp, sf]
  · simp [mp, sf, h]
/-- downwards from the end of a loop -/
theorem dn_ind {n : Nat} {P : Nat → Prop} (hn : P n) (hs : ∀ k, k < n → P (k + 1) → P k) : ∀ k, k ≤ n → P k := by
  have h : ∀ j k, n - k = j → k ≤ n → P k := by
    intro j
    induction j with
    | zero => intro k h1 h2; have : k = n := by omega
              rw [this]; exact hn
    | succ j ih => intro k h1 h2; exact hs k (by omega) (ih (k + 1) (by omega) (by omega))
  exact fun k hk => h (n - k) k rfl hk
theorem in_S {S : Mem} (h : WFS S) {k : Nat} (hk : k < 4) {i : Int32} (hi : 0 ≤ i ∧ i ≤ S 11 (nI k).toInt.toNat - 1) : ∃ j, j < 40 ∧ i = nI j := by
  have h1 := (h.2.2.2 k hk).2.1
  rw [nI_toInt (by omega), Int.toNat_natCast] at hi
  obtain ⟨h2, h3⟩ := h1
  simp only [Int32.le_iff_toInt_le, Int32.toInt_sub, Int.bmod_def, Int32.reduceToInt] at hi
  exact of_i (by omega) (by omega) (by decide)
def cpf (f g : Nat → Int32) (k : Nat) : Nat → Int32 := fun j => if j < k then f j else g j
theorem cpf_0 (f g : Nat → Int32) : cpf f g 0 = g := by funext j; simp [cpf]
theorem cpf_s (f g : Nat → Int32) (k : Nat) : upd (cpf f g k) k (f k) = cpf f g (k + 1) := by
  funext j
  simp only [upd, cpf]
  by_cases h : j = k
  · subst h; simp
  · simp only [h, if_false]
    by_cases h2 : j < k
    · have h3 : j < k + 1 := by omega
      simp [h2, h3]
    · have h3 : ¬ j < k + 1 := by omega
      simp [h2, h3]
def sp_image (S : Mem) : Sp := (S 0 2 + 1, wr (sf S 2 (cpf (S 1) (S 2) 327)) 0 2 (S 0 2 + 1))
def sp_restore (S : Mem) : Sp := if S 0 2 = 0 then (NO, er S 2) else (cpf (S 2) (S 1) 327 0, sf S 1 (cpf (S 2) (S 1) 327))
theorem mp_sf71 {μ : Mem} {f : Nat → Int32} : mp (sf μ 71 f) = sf (mp μ) 1 f := mp_sf (i := 1)
theorem mp_sf72 {μ : Mem} {f : Nat → Int32} : mp (sf μ 72 f) = sf (mp μ) 2 f := mp_sf (i := 2)
theorem mp_sf82 {μ : Mem} {f : Nat → Int32} : mp (sf μ 82 f) = sf (mp μ) 12 f := mp_sf (i := 12)
/-- the first place from k on, within j more, at which p fails -/
def fsn (p : Nat → Prop) [DecidablePred p] : Nat → Nat → Nat
  | 0, k => k
  | j + 1, k => if p k then fsn p j (k + 1) else k
theorem fsn_le (p : Nat → Prop) [DecidablePred p] : ∀ j k, k ≤ fsn p j k ∧ fsn p j k ≤ k + j := by
  intro j
  induction j with
  | zero => intro k; exact ⟨Nat.le_refl _, Nat.le_refl _⟩
  | succ j ih =>
    intro k
    unfold fsn
    split
    · have := ih (k + 1); omega
    · omega
abbrev ckp (N : Nat → Int32) (k : Nat) : Prop := isT N (nI k) ∧ N (203 + k) = lat N k
def sp_check (S : Mem) : Sp := ((if fsn (ckp (S 1)) (S 1 5).toInt.toNat 0 = (S 1 5).toInt.toNat then 0 else 1 + nI (fsn (ckp (S 1)) (S 1 5).toInt.toNat 0)), wr S 1 5 0)
theorem fsn_t {p : Nat → Prop} [DecidablePred p] {j k : Nat} (h : p k) : fsn p (j + 1) k = fsn p j (k + 1) := by simp only [fsn]; rw [if_pos h]
theorem fsn_f {p : Nat → Prop} [DecidablePred p] {j k : Nat} (h : ¬ p k) : fsn p (j + 1) k = k := by simp only [fsn]; rw [if_neg h]
