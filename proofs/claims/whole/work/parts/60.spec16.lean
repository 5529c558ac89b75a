/-! voices -/
def apd (r : Nat → Int32) (tr : Nat) : List Int32 → Nat → Int32
  | [] => r
  | b :: L => apd (upd r tr b) (tr + 1) L
def wL (k : Nat) : List Int32 := if k = 1 ∨ k = 4 then [20, 10] else [10]
def lL (k : Nat) : List Int32 := if k = 6 then [70, 40, 12] else if k = 3 then [40, 12] else [12]
def gL (k : Nat) : List Int32 := if k = 5 then [60, 30, 11, 10, 12] else if k = 2 then [30, 11, 10, 12] else 11 :: wL k
def pL (k : Nat) : List Int32 := 13 :: (gL k ++ lL k)
def vL (k act : Nat) : List Int32 := if act = 0 then wL k else if act = 1 then gL k else if act = 2 then lL k else if k = 6 then 71 :: (gL k ++ pL k) else if k = 4 then 50 :: (pL k ++ wL k) else pL k
def wV (k : Nat) (n x : Int32) : Int32 := if k = 1 ∨ k = 4 then (x + n) * 3 else x + n
def lV (k : Nat) (n m x : Int32) : Int32 := if k = 6 then -(x - m) ^^^ n else if k = 3 then -(x - m) else x - m
def gVv (k : Nat) (n m x : Int32) : Int32 := if k = 5 then wV k n (x + 1) * 2 - lV k n m 1 else if k = 2 then wV k n x * 2 - lV k n m 1 else wV k n x * 2
def pV (k : Nat) (n m x : Int32) : Int32 := gVv k n m x ^^^ lV k n m x
def vV (k act : Nat) (n m x : Int32) : Int32 := if act = 0 then wV k n x else if act = 1 then gVv k n m x else if act = 2 then lV k n m x else if k = 6 then gVv k n m x - pV k n m x else if k = 4 then pV k n m x - wV k n 2 else pV k n m x
def sp_voice (S : Mem) (t act x : Int32) : Sp := if isT (S 1) t then (if 0 ≤ act ∧ act ≤ 3 then
  (vV (tf (S 1) t.toInt.toNat 0).toInt.toNat act.toInt.toNat t (tf (S 1) t.toInt.toNat 1) x, sf (wr S 0 20 (nI (vL (tf (S 1) t.toInt.toNat 0).toInt.toNat act.toInt.toNat).length)) 9 (apd (S 9) 0 (vL (tf (S 1) t.toInt.toNat 0).toInt.toNat act.toInt.toNat))) else (BE, er S 1)) else (BE, er S 1)
abbrev TV (μ : Mem) (h r : Nat → Int32) (tr : Nat) : Mem := sf (sf μ 70 (upd h 20 (nI tr))) 79 r
theorem tvw {μ : Mem} {h r : Nat → Int32} {tr : Nat} {b : Int32} : wr (wr (TV μ h r tr) 79 tr b) 70 20 (nI (tr + 1)) = TV μ h (upd r tr b) (tr + 1) := by
  funext a
  by_cases h1 : a = 70
  · subst h1
    exact upd_upd (f := h) (j := 20) (x := nI tr) (y := nI (tr + 1))
  · by_cases h2 : a = 79
    · subst h2; simp [TV, wr, sf]
    · simp [TV, wr, sf, h1, h2]
theorem tv0 {μ : Mem} {k n m : Int32} : wr (wr (wr (wr μ 70 20 0) 70 21 k) 70 22 n) 70 23 m = TV μ (upd (upd (upd (μ 70) 21 k) 22 n) 23 m) (μ 79) 0 := by
  funext a
  by_cases h1 : a = 70
  · subst h1
    show upd (upd (upd (upd (μ 70) 20 0) 21 k) 22 n) 23 m = upd (upd (upd (upd (μ 70) 21 k) 22 n) 23 m) 20 (nI 0)
    funext j
    simp only [upd]
    by_cases h3 : j = 20
    · subst h3; rfl
    · simp [h3]
  · by_cases h2 : a = 79
    · subst h2; simp [wr, sf]
    · simp [wr, sf, h1, h2]
