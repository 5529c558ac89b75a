/-! whose own -/
theorem shn : ∀ t, t < 7 → ∀ k, k < 7 → sh1 k &&& ((1 : Int32) <<< (nI t &&& 31) ^^^ (-1)) = if k = t then 0 else sh1 k := by decide +kernel
theorem z_and (x : Int32) : 0 &&& x = 0 := by
  apply Int32.toBitVec_inj.1
  rw [Int32.toBitVec_and]
  exact BitVec.zero_and
theorem own_eq {P : Nat → Prop} [DecidablePred P] {t : Nat} (ht : t < 7) : ∀ n, n ≤ 7 → fol (fun k a => a ||| (if P k then sh1 k else 0)) n 0 &&& ((1 : Int32) <<< (nI t &&& 31) ^^^ (-1)) = fol (fun k a => a ||| (if ¬ nI k = nI t ∧ P k then sh1 k else 0)) n 0 := by
  intro n
  induction n with
  | zero => intro _; exact z_and _
  | succ n ih =>
    intro hn
    show (fol (fun k a => a ||| (if P k then sh1 k else 0)) n 0 ||| (if P n then sh1 n else 0)) &&& _ = fol (fun k a => a ||| (if ¬ nI k = nI t ∧ P k then sh1 k else 0)) n 0 ||| (if ¬ nI n = nI t ∧ P n then sh1 n else 0)
    rw [and_or32, ih (by omega)]
    congr 1
    by_cases hp : P n
    · rw [if_pos hp, shn t ht n (by omega)]
      by_cases hk : n = t
      · subst hk
        rw [if_pos rfl, if_neg (fun h => h.1 rfl)]
      · rw [if_neg hk, if_pos ⟨fun h => hk ((nI_eq (by omega) (by omega)).mp h), hp⟩]
    · rw [if_neg hp, if_neg (fun h => hp h.2)]
      exact z_and _
/-- the greatest number up to i that divides both -/
def cdv (a b : Nat) : Nat → Nat
  | 0 => 1
  | i + 1 => if i + 1 ≤ 1 then 1 else if a % (i + 1) = 0 ∧ b % (i + 1) = 0 then i + 1 else cdv a b i
theorem cdv_gcd : ∀ b, b < 8 → 0 < b → ∀ a, a < 8 → cdv a b b = Nat.gcd b a := by decide +kernel
