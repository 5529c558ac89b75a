/-! more of what the calls answer -/
def fol {α : Type} (f : Nat → α → α) : Nat → α → α
  | 0, a => a
  | k + 1, a => f k (fol f k a)
theorem fol_c {α : Type} {f g : Nat → α → α} {a : α} : ∀ n, (∀ k, k < n → ∀ x, f k x = g k x) → fol f n a = fol g n a := by
  intro n
  induction n with
  | zero => intro _; rfl
  | succ n ih => intro h; show f n (fol f n a) = g n (fol g n a); rw [ih (fun k hk => h k (by omega)), h n (by omega)]
def HdP (P : Prop) : Prop := P
theorem at_h {X : Cx} {n d : Nat} {K : Option Value → Mem → Prop} (k : Nat) {L : Lc} {st : List Value} {μ : Mem} (h : HdP (VW X n d K k L st μ)) : VW X n d K k L st μ := h
theorem b2_t {c : Prop} [Decidable c] (h : c) : b2 c = 1 := by unfold b2; rw [if_pos h]
theorem b2_f {c : Prop} [Decidable c] (h : ¬ c) : b2 c = 0 := by unfold b2; rw [if_neg h]
abbrev sh1 (k : Nat) : Int32 := (1 : Int32) <<< (nI k &&& 31)
def zf (f : Nat → Int32) (a k : Nat) : Nat → Int32 := fun j => if a ≤ j ∧ j < a + k then 0 else f j
theorem zf_0 (f : Nat → Int32) (a : Nat) : zf f a 0 = f := by
  funext j
  have : ¬ (a ≤ j ∧ j < a + 0) := by omega
  simp [zf]; omega
theorem zf_s (f : Nat → Int32) (a k : Nat) : upd (zf f a k) (a + k) 0 = zf f a (k + 1) := by
  funext j
  simp only [upd, zf]
  by_cases h : j = a + k
  · subst h
    rw [if_pos rfl, if_pos (by omega)]
  · rw [if_neg h]
    by_cases h2 : a ≤ j ∧ j < a + k
    · rw [if_pos h2, if_pos (by omega)]
    · rw [if_neg h2, if_neg (by omega)]
def shz (S : Mem) (s : Nat) (b n : Int32) : Mem := sf (wr (wr S 10 s b) 11 s n) 12 (zf (S 12) (40 * s) 40)
def sp_sheet (S : Mem) (s b n : Int32) : Sp :=
  if 0 ≤ s ∧ s ≤ 3 then (if b = 0 then (1, shz S s.toInt.toNat 0 0) else if b = 8 ∨ b = 16 ∨ b = 32 then (if n < 0 then (ST, er S 3) else if 40 < n then (BE, er S 1) else (1, shz S s.toInt.toNat b n)) else (BE, er S 1)) else (BE, er S 1)
/-- whether a kind stands under another -/
abbrev und (k o : Int32) : Prop := o = k ∨ o = 0 ∨ (k = 4 ∧ o = 1) ∨ (k = 5 ∧ o = 2) ∨ (k = 6 ∧ o = 3)
def sp_as (S : Mem) (t k : Int32) : Sp :=
  if isT (S 1) t then (if 0 ≤ k ∧ k ≤ 6 then (if und (tf (S 1) t.toInt.toNat 0) k then (tf (S 1) t.toInt.toNat 1, S) else (KI, er S 5)) else (BE, er S 1)) else (BE, er S 1)
def atp (N : Nat → Int32) (p : Int32) : Int32 := fol (fun k a => a ||| (if tf N k 4 = p then sh1 k else 0)) (nT N) 0
def smf (N : Nat → Int32) (f : Nat) : Int32 := fol (fun k a => a + tf N k f) (nT N) 0
/-- the bits of a small number, counted one after another -/
def bts : Nat → Int32 → Int32 → Int32
  | 0, _, n => n
  | j + 1, l, n => if l = 0 then n else bts j (l &&& (l - 1)) (n + 1)
def btzb : Nat → Int32 → Bool
  | 0, l => l == 0
  | j + 1, l => l == 0 || btzb j (l &&& (l - 1))
theorem btz_8 : ∀ k, k < 256 → btzb 8 (nI k) = true := by decide +kernel
def ownf (N : Nat → Int32) (t : Int32) : Int32 := fol (fun k a => a ||| (if ¬ nI k = t ∧ bts 8 (tf N k 2 ^^^ tf N t.toInt.toNat 2) 0 < 3 then sh1 k else 0)) (nT N) 0
def sp_own (S : Mem) (t : Int32) : Sp := if isT (S 1) t then (ownf (S 1) t, S) else (BE, er S 1)
