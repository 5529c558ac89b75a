/-! where a tale can be, and what would be -/
abbrev hb (s : Int32) (k : Nat) : Prop := (s >>> (nI k &&& 31)) &&& 1 = 1
def bsd1 (N : Nat → Int32) (s : Int32) (a : Nat) (n : Nat) (acc : Int32) : Int32 := fol (fun b acc => acc ||| (if hb s a ∧ 0 < yd N a b then sh1 b else 0)) n acc
def bsd (N : Nat → Int32) (s : Int32) : Int32 := fol (fun a acc => bsd1 N s a (nP N) acc) (nP N) 0
def canf (N : Nat → Int32) (s : Int32) (n : Nat) : Int32 := fol (fun _ s => bsd N s) n s
def sp_can (S : Mem) (t n : Int32) : Sp := if isT (S 1) t then (if 0 ≤ n ∧ n ≤ 60 then (canf (S 1) (sh1 (tf (S 1) t.toInt.toNat 4).toInt.toNat) n.toInt.toNat, S) else (BE, er S 1)) else (BE, er S 1)
