/-! sheets and tales -/
abbrev mkp (N Q : Nat → Int32) (s k : Nat) : Prop := isT N (nI k) ∧ (0 ≤ Q (40 * s + k) ∧ Q (40 * s + k) ≤ 255)
def mkf (N Q : Nat → Int32) (s : Nat) (k : Nat) : Nat → Int32 := fol (fun j M => upd M (111 + 6 * j + 2) (Q (40 * s + j))) k N
theorem mkf_lo {N Q : Nat → Int32} {s i : Nat} (h : i < 111) : ∀ k, mkf N Q s k i = N i := by
  intro k
  induction k with
  | zero => rfl
  | succ k ih =>
    show upd (mkf N Q s k) (111 + 6 * k + 2) (Q (40 * s + k)) i = N i
    rw [upd_ne (by omega), ih]
def sp_marks (S : Mem) (s : Int32) : Sp := if 0 ≤ s ∧ s ≤ 3 then (if S 10 s.toInt.toNat = 0 then (NO, er S 2) else
  (nI (fsn (mkp (S 1) (S 12) s.toInt.toNat) (S 11 s.toInt.toNat).toInt.toNat 0), sf S 1 (mkf (S 1) (S 12) s.toInt.toNat (fsn (mkp (S 1) (S 12) s.toInt.toNat) (S 11 s.toInt.toNat).toInt.toNat 0)))) else (BE, er S 1)
abbrev jdp (N Q : Nat → Int32) (s k : Nat) : Prop := isT N (nI k) ∧ Q (40 * s + k) = tf N k 3
def sp_judge (S : Mem) (s : Int32) : Sp := if 0 ≤ s ∧ s ≤ 3 then (if S 10 s.toInt.toNat = 0 then (NO, er S 2) else
  if nI (fsn (jdp (S 1) (S 12) s.toInt.toNat) (S 11 s.toInt.toNat).toInt.toNat 0) = S 11 s.toInt.toNat ∧ nI (fsn (jdp (S 1) (S 12) s.toInt.toNat) (S 11 s.toInt.toNat).toInt.toNat 0) = S 1 2 then (-1, S) else (nI (fsn (jdp (S 1) (S 12) s.toInt.toNat) (S 11 s.toInt.toNat).toInt.toNat 0), S)) else (BE, er S 1)
theorem isT_7 {N : Nat → Int32} (h : WN N) {k : Nat} (hk : k < 2147483648) (hT : isT N (nI k)) : k < 7 := by
  obtain ⟨k', hk7, hkk, -⟩ := in_T h hT
  have := congrArg Int32.toInt hkk
  rw [nI_toInt (by omega), nI_toInt (by omega)] at this
  omega
