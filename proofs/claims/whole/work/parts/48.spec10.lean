/-! rows of steps -/
def anyp (c : Nat → Bool) : Nat → Bool
  | 0 => false
  | k + 1 => anyp c k || c k
theorem anyp_mono {c : Nat → Bool} {k : Nat} (h : anyp c k = true) : ∀ n, k ≤ n → anyp c n = true := by
  intro n
  induction n with
  | zero => intro hk; obtain rfl : k = 0 := by omega
            exact h
  | succ n ih =>
    intro hk
    rcases Nat.eq_or_lt_of_le hk with rfl | hk
    · exact h
    · show (anyp c n || c n) = true
      rw [ih (by omega)]; rfl
theorem anyp_s {c : Nat → Bool} {k : Nat} (h : ¬ anyp c k = true) : anyp c (k + 1) = c k := by
  show (anyp c k || c k) = c k
  cases h2 : anyp c k
  · rfl
  · exact absurd h2 h
theorem band_t {p : Prop} [Decidable p] {q : Bool} (h : p) (h2 : q = true) : (decide p && q) = true := by simp [h, h2]
theorem band_1 {p : Prop} [Decidable p] {q : Bool} (h : ¬ p) : ¬ (decide p && q) = true := by simp [h]
theorem band_2 {p : Prop} [Decidable p] {q : Bool} (h : ¬ q = true) : ¬ (decide p && q) = true := by simp [h]
def crr (N : Nat → Int32) (t : Nat) : Nat → Nat → Int32 → Bool
  | 0, a, m => decide (nI a = tf N t 4 ∧ m = tf N t 2)
  | l + 1, a, m => anyp (fun q => decide (0 < yd N a q) && crr N t l q (gR N t m (yd N a q) (nI a))) (nP N)
abbrev nrr (N : Nat → Int32) (t : Nat) (j : Nat) : Prop := ¬ crr N t (j + 1) (tf N t 4).toInt.toNat (tf N t 2) = true
def sp_round (S : Mem) (t : Int32) : Sp := if isT (S 1) t then (if fsn (nrr (S 1) t.toInt.toNat) 5 0 = 5 then (NO, er S 2) else (nI (fsn (nrr (S 1) t.toInt.toNat) 5 0 + 1), S)) else (BE, er S 1)
