/-! the first row of steps that comes so far -/
def frs {β : Type} (c : Nat → Option β) : Nat → Option (Nat × β)
  | 0 => none
  | k + 1 => match frs c k with
    | some x => some x
    | none => (c k).map fun x => (k, x)
theorem frs_s {β : Type} {c : Nat → Option β} {k : Nat} (h : frs c k = none) : frs c (k + 1) = (c k).map fun x => (k, x) := by
  show (match frs c k with
    | some x => some x
    | none => (c k).map fun x => (k, x)) = _
  rw [h]
theorem frs_mono {β : Type} {c : Nat → Option β} {k : Nat} {x : Nat × β} (h : frs c k = some x) : ∀ n, k ≤ n → frs c n = some x := by
  intro n
  induction n with
  | zero => intro hk; obtain rfl : k = 0 := by omega
            exact h
  | succ n ih =>
    intro hk
    rcases Nat.eq_or_lt_of_le hk with rfl | hk
    · exact h
    · show (match frs c n with
        | some x => some x
        | none => (c n).map fun x => (n, x)) = _
      rw [ih (by omega)]
def ctr (N : Nat → Int32) (t pl : Nat) : Nat → Nat → Int32 → Int32 → Option (Nat × Int32)
  | 0, a, m, y => if a = pl ∧ bL N t a m y then some (a, m) else none
  | l + 1, a, m, y => (frs (fun q => if 0 < yd N a q then ctr N t pl l q (gR N t m (yd N a q) (nI a)) (mn 9999 (y + wlk N t (yd N a q))) else none) (nP N)).map fun r => (r.1, r.2.2)
abbrev S70 (μ : Mem) (f g h : Nat → Int32) : Mem := sc (sf μ 70 h) f g
def Q13 (μ : Mem) (h : Nat → Int32) : Prop := ∀ i, i ≠ 13 → i ≠ 14 → h i = μ 70 i
theorem sw70 {μ : Mem} {f g h : Nat → Int32} {j : Nat} {x : Int32} : wr (S70 μ f g h) 70 j x = S70 μ f g (upd h j x) := by
  funext a
  simp only [S70, sc, sf, wr]
  by_cases h1 : a = 77
  · subst h1; simp
  · by_cases h2 : a = 76
    · subst h2; simp
    · by_cases h3 : a = 70
      · subst h3; simp
      · simp [h1, h2, h3]
theorem S70_id {μ : Mem} : μ = S70 μ (μ 76) (μ 77) (μ 70) := by
  funext a
  simp only [S70, sc, sf]
  by_cases h1 : a = 77
  · subst h1; simp
  · by_cases h2 : a = 76
    · subst h2; simp
    · by_cases h3 : a = 70
      · subst h3; simp
      · simp [h1, h2, h3]
theorem Q13.up {μ : Mem} {h : Nat → Int32} (q : Q13 μ h) {j : Nat} {x : Int32} (hj : j = 13 ∨ j = 14) : Q13 μ (upd h j x) := by
  intro i h1 h2
  rw [upd_ne (by omega)]
  exact q i h1 h2
theorem onone {β : Type} {o : Option β} (h : ¬ o.isSome = true) : o = none := by
  cases o with
  | none => rfl
  | some x => exact absurd rfl h
theorem osome {β : Type} {o : Option β} (h : o.isSome = true) : ∃ x, o = some x := by
  cases o with
  | none => exact absurd h (by simp)
  | some x => exact ⟨x, rfl⟩
abbrev nct (N : Nat → Int32) (t pl : Nat) (j : Nat) : Prop := ¬ (ctr N t pl j (tf N t 4).toInt.toNat (tf N t 2) (tf N t 3)).isSome = true
def sp_reach (S : Mem) (t v w : Int32) : Sp := if isT (S 1) t then (if isP (S 1) v then (if 0 ≤ w ∧ w ≤ 2 then (if fsn (nct (S 1) t.toInt.toNat v.toInt.toNat) 6 0 = 6 then (NO, er S 2) else
  (if w = 0 then nI (fsn (nct (S 1) t.toInt.toNat v.toInt.toNat) 6 0) else if w = 1 then nI ((ctr (S 1) t.toInt.toNat v.toInt.toNat (fsn (nct (S 1) t.toInt.toNat v.toInt.toNat) 6 0) (tf (S 1) t.toInt.toNat 4).toInt.toNat (tf (S 1) t.toInt.toNat 2) (tf (S 1) t.toInt.toNat 3)).getD (0, 0)).1
   else ((ctr (S 1) t.toInt.toNat v.toInt.toNat (fsn (nct (S 1) t.toInt.toNat v.toInt.toNat) 6 0) (tf (S 1) t.toInt.toNat 4).toInt.toNat (tf (S 1) t.toInt.toNat 2) (tf (S 1) t.toInt.toNat 3)).getD (0, 0)).2, S)) else (BE, er S 1)) else (BE, er S 1)) else (BE, er S 1)
