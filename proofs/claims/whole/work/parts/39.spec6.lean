/-! answers that count -/
/-- the place that believes most, among the first j + 1 -/
def bsk (N : Nat → Int32) : Nat → Nat
  | 0 => 0
  | j + 1 => if bA N (bsk N j) < bA N (j + 1) then j + 1 else bsk N j
theorem bsk_le (N : Nat → Int32) : ∀ j, bsk N j ≤ j := by
  intro j
  induction j with
  | zero => exact Nat.le_refl _
  | succ j ih =>
    unfold bsk
    split <;> omega
def sp_best (S : Mem) (w : Int32) : Sp := if 0 ≤ w ∧ w ≤ 1 then (if S 1 1 = 0 then (NO, er S 2) else if w = 0 then (nI (bsk (S 1) (nP (S 1) - 1)), S) else (bA (S 1) (bsk (S 1) (nP (S 1) - 1)), S)) else (BE, er S 1)
/-- in how many places a tale is believed -/
def bP (N : Nat → Int32) (t : Nat) : Nat := fol (fun k a => if nB N t k then a + 1 else a) (nP N) 0
theorem fol_le (c : Nat → Prop) [DecidablePred c] : ∀ n, fol (fun k a => if c k then a + 1 else a) n 0 ≤ n := by
  intro n
  induction n with
  | zero => exact Nat.le_refl _
  | succ n ih =>
    show (if c n then fol (fun k a => if c k then a + 1 else a) n 0 + 1 else fol (fun k a => if c k then a + 1 else a) n 0) ≤ n + 1
    split <;> omega
def sp_odds (S : Mem) (t w : Int32) : Sp := if isT (S 1) t then (if 0 ≤ w ∧ w ≤ 1 then (if w = 0 then (nI (bP (S 1) t.toInt.toNat / Nat.gcd (nP (S 1)) (bP (S 1) t.toInt.toNat)), S) else (nI (nP (S 1) / Nat.gcd (nP (S 1)) (bP (S 1) t.toInt.toNat)), S)) else (BE, er S 1)) else (BE, er S 1)
def sp_count (S : Mem) (w : Int32) : Sp :=
  if w = 0 then (S 1 1, S) else if w = 1 then (S 1 2, S) else if w = 2 then (S 1 0, S) else if w = 3 then (smf (S 1) 3, S) else if w = 4 then (smf (S 1) 5, S) else if w = 5 then (bAll (S 1), S)
  else if w = 6 then (S 1 4, S) else if w = 7 then (S 1 5, S) else if w = 8 then (S 0 20, S) else if w = 9 then (S 1 3, S) else (BE, er S 1)
theorem i_nat {x : Int32} (h : 0 ≤ x.toInt) : nI x.toInt.toNat = x := by
  rw [← Int32.toInt_inj, nI_toInt (by have := x.toInt_lt; omega)]
  omega
theorem i_le {a b : Int32} (h : a ≤ b) : ¬ b < a := by
  simp only [Int32.lt_iff_toInt_lt, Int32.le_iff_toInt_le] at *; omega
theorem nx_and (a b : Nat) : nI a &&& nI b = nI (a &&& b) := by
  apply Int32.toBitVec_inj.1
  show BitVec.ofNat 32 a &&& BitVec.ofNat 32 b = BitVec.ofNat 32 (a &&& b)
  apply BitVec.eq_of_getLsbD_eq
  intro i hi
  simp [hi]
theorem nx_or (a b : Nat) : nI a ||| nI b = nI (a ||| b) := by
  apply Int32.toBitVec_inj.1
  show BitVec.ofNat 32 a ||| BitVec.ofNat 32 b = BitVec.ofNat 32 (a ||| b)
  apply BitVec.eq_of_getLsbD_eq
  intro i hi
  simp [hi]
theorem nx_xor (a b : Nat) : nI a ^^^ nI b = nI (a ^^^ b) := by
  apply Int32.toBitVec_inj.1
  show BitVec.ofNat 32 a ^^^ BitVec.ofNat 32 b = BitVec.ofNat 32 (a ^^^ b)
  apply BitVec.eq_of_getLsbD_eq
  intro i hi
  simp [hi]
theorem mk_k {N : Nat → Int32} (h : WN N) {t : Nat} (ht : t < 7) : ∃ k, k < 256 ∧ tf N t 2 = nI k := by
  obtain ⟨k, hk, e⟩ := of_upto (n := 255) (h.2.2.2.2.2.2.2.2.1 t ht).2.2.1 (by decide)
  exact ⟨k, by omega, e⟩
