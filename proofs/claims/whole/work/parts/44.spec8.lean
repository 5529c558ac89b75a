theorem lg_v {i n z : Int32} : (i.toInt64 + n.toInt64).toInt = i.toInt + n.toInt ∧ z.toInt64.toInt = z.toInt := by
  have := i.toInt_lt
  have := i.le_toInt
  have := n.toInt_lt
  have := n.le_toInt
  refine ⟨?_, Int32.toInt_toInt64 z⟩
  rw [Int64.toInt_add, Int32.toInt_toInt64, Int32.toInt_toInt64, Int.bmod_def]
  omega
theorem lg0 {i n z : Int32} : (0 < lg_cmp (i.toInt64 + n.toInt64) z.toInt64) ↔ z.toInt < i.toInt + n.toInt := by
  obtain ⟨h1, h2⟩ := @lg_v i n z
  unfold lg_cmp
  rw [← h1, ← h2, ← Int64.lt_iff_toInt_lt]
  by_cases h : z.toInt64 < i.toInt64 + n.toInt64
  · rw [if_pos h]
    exact ⟨fun _ => h, fun _ => by decide⟩
  · rw [if_neg h]
    refine ⟨fun q => ?_, fun q => absurd q h⟩
    split at q
    · exact absurd q (by decide)
    · exact absurd q (by decide)
theorem lg1 {i n z : Int32} : (lg_cmp (i.toInt64 + n.toInt64) z.toInt64 ≤ 0) ↔ i.toInt + n.toInt ≤ z.toInt := by
  have h := @lg0 i n z
  simp only [Int32.lt_iff_toInt_lt, Int32.le_iff_toInt_le, Int32.reduceToInt] at *
  omega
def mvf (Q : Nat → Int32) (a b k : Nat) : Nat → Int32 := fun q => if b ≤ q ∧ q < b + k then Q (a + (q - b)) else Q q
theorem mvf_0 (Q : Nat → Int32) (a b : Nat) : mvf Q a b 0 = Q := by
  funext q
  unfold mvf
  rw [if_neg (by omega)]
theorem mvf_s (Q : Nat → Int32) (a b k : Nat) : upd (mvf Q a b k) (b + k) (Q (a + k)) = mvf Q a b (k + 1) := by
  funext q
  simp only [upd, mvf]
  by_cases h : q = b + k
  · subst h
    rw [if_pos rfl, if_pos (by omega)]
    congr 1
    omega
  · rw [if_neg h]
    by_cases h2 : b ≤ q ∧ q < b + k
    · rw [if_pos h2, if_pos (by omega)]
    · rw [if_neg h2, if_neg (by omega)]
def sp_move (S : Mem) (s i o j n : Int32) : Sp :=
  if (0 ≤ s ∧ s ≤ 3) ∧ (0 ≤ o ∧ o ≤ 3) then (if S 10 s.toInt.toNat = 0 ∨ S 10 o.toInt.toNat = 0 then (NO, er S 2) else if S 10 s.toInt.toNat = S 10 o.toInt.toNat then
    (if ((0 ≤ n ∧ 0 ≤ i) ∧ 0 ≤ j) ∧ (i.toInt + n.toInt ≤ (S 11 s.toInt.toNat).toInt ∧ j.toInt + n.toInt ≤ (S 11 o.toInt.toNat).toInt) then (n, sf S 12 (mvf (S 12) (40 * s.toInt.toNat + i.toInt.toNat) (40 * o.toInt.toNat + j.toInt.toNat) n.toInt.toNat)) else (BE, er S 1)) else (KI, er S 5)) else (BE, er S 1)
abbrev byt (w : Int64) (k : Nat) : Int32 := ((w >>> ((8 * nI k : Int32).toInt64 &&& 63)) &&& 255).toInt32
def fdf (N : Nat → Int32) (w : Int64) (k : Nat) : Nat → Int32 := fol (fun j M => upd (upd M (153 + (N 4).toInt.toNat + j) (byt w j)) 4 (nI ((N 4).toInt.toNat + j + 1))) k N
def sp_feed (S : Mem) (w : Int64) (n : Int32) : Sp := if 1 ≤ n ∧ n ≤ 8 then (if 50 < S 1 4 + n then (FU, er S 4) else (nI ((S 1 4).toInt.toNat + n.toInt.toNat), sf S 1 (fdf (S 1) w n.toInt.toNat))) else (BE, er S 1)
theorem fdf_4 {N : Nat → Int32} {w : Int64} (h0 : 0 ≤ (N 4).toInt) : ∀ k, fdf N w k 4 = nI ((N 4).toInt.toNat + k) := by
  intro k
  cases k with
  | zero => exact (i_nat h0).symm
  | succ k =>
    show upd (upd (fdf N w k) (153 + (N 4).toInt.toNat + k) (byt w k)) 4 (nI ((N 4).toInt.toNat + k + 1)) 4 = _
    rw [upd_eq rfl]
    rfl
