/-! all ways to a place -/
def gw (N : Nat → Int32) (to : Nat) : Nat → Nat → Nat → Int32 → Int32 → Int32 × Int32 → Int32 × Int32
  | 0, a, _, t, y, c => if a = to then (if (c.1 < 0 ∨ t < c.1) ∨ (t = c.1 ∧ y < c.2) then (t, y) else c) else c
  | j + 1, a, p, t, y, c => if a = to then (if (c.1 < 0 ∨ t < c.1) ∨ (t = c.1 ∧ y < c.2) then (t, y) else c) else
    fol (fun q c => if 0 < yd N a q ∧ ¬ hb (nI p) q then gw N to j q (nI p ||| sh1 q).toInt.toNat (t + tl N a q) (y + yd N a q) c else c) (nP N) c
theorem gw_to {N : Nat → Int32} {to j p : Nat} {t y : Int32} {c : Int32 × Int32} : gw N to j to p t y c = if (c.1 < 0 ∨ t < c.1) ∨ (t = c.1 ∧ y < c.2) then (t, y) else c := by
  cases j with
  | zero => exact if_pos rfl
  | succ j => exact if_pos rfl
theorem gw_0 {N : Nat → Int32} {to a p : Nat} {t y : Int32} {c : Int32 × Int32} (h : ¬ a = to) : gw N to 0 a p t y c = c := if_neg h
theorem gw_s {N : Nat → Int32} {to j a p : Nat} {t y : Int32} {c : Int32 × Int32} (h : ¬ a = to) : gw N to (j + 1) a p t y c = fol (fun q c => if 0 < yd N a q ∧ ¬ hb (nI p) q then gw N to j q (nI p ||| sh1 q).toInt.toNat (t + tl N a q) (y + yd N a q) c else c) (nP N) c := if_neg h
def un (p : Nat) : Nat := fol (fun k a => if hb (nI p) k then a else a + 1) 7 0
theorem un_s : ∀ q, q < 7 → ∀ p, p < 128 → ¬ hb (nI p) q → (0 ≤ (nI p ||| sh1 q).toInt ∧ (nI p ||| sh1 q).toInt < 128 ∧ un (nI p ||| sh1 q).toInt.toNat < un p) := by decide +kernel
theorem un_1 : ∀ a, a < 7 → 0 ≤ (sh1 a).toInt ∧ (sh1 a).toInt < 128 ∧ un (sh1 a).toInt.toNat ≤ 6 := by decide +kernel
theorem un_0 : ∀ q, q < 7 → ∀ p, p < 128 → un p = 0 → hb (nI p) q := by decide +kernel
abbrev S15 (μ : Mem) (c : Int32 × Int32) : Mem := sf μ 70 (upd (upd (μ 70) 15 c.1) 16 c.2)
theorem sw15 {μ : Mem} {c : Int32 × Int32} {x : Int32} : wr (S15 μ c) 70 15 x = S15 μ (x, c.2) := by
  show wr (sf μ 70 (upd (upd (μ 70) 15 c.1) 16 c.2)) 70 15 x = sf μ 70 (upd (upd (μ 70) 15 x) 16 c.2)
  rw [wr_sf]
  congr 1
  funext i
  simp only [upd]
  by_cases h : i = 15
  · subst h; rfl
  · simp [h]
theorem sw16 {μ : Mem} {c : Int32 × Int32} {x : Int32} : wr (S15 μ c) 70 16 x = S15 μ (c.1, x) := by
  show wr (sf μ 70 (upd (upd (μ 70) 15 c.1) 16 c.2)) 70 16 x = sf μ 70 (upd (upd (μ 70) 15 c.1) 16 x)
  rw [wr_sf, upd_upd]
theorem w1516 {μ : Mem} {x y : Int32} : wr (wr μ 70 15 x) 70 16 y = S15 μ (x, y) := by
  funext a
  by_cases h : a = 70
  · subst h; simp [wr, sf]
  · simp [wr, sf, h]
def sp_cheap (S : Mem) (t v w : Int32) : Sp := if isT (S 1) t then (if isP (S 1) v then (if 0 ≤ w ∧ w ≤ 1 then
  (if (gw (S 1) v.toInt.toNat 6 (tf (S 1) t.toInt.toNat 4).toInt.toNat (sh1 (tf (S 1) t.toInt.toNat 4).toInt.toNat).toInt.toNat 0 0 (-1, -1)).1 < 0 then (NO, er S 2) else if w = 0 then ((gw (S 1) v.toInt.toNat 6 (tf (S 1) t.toInt.toNat 4).toInt.toNat (sh1 (tf (S 1) t.toInt.toNat 4).toInt.toNat).toInt.toNat 0 0 (-1, -1)).1, S)
   else ((gw (S 1) v.toInt.toNat 6 (tf (S 1) t.toInt.toNat 4).toInt.toNat (sh1 (tf (S 1) t.toInt.toNat 4).toInt.toNat).toInt.toNat 0 0 (-1, -1)).2, S)) else (BE, er S 1)) else (BE, er S 1)) else (BE, er S 1)
