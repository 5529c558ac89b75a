/-! the reference's reader: its memory -/
abbrev hM (h : Nat → Int32) (a o w tr : Int32) : Nat → Int32 := upd (upd (upd (upd h 5 a) 6 o) 8 w) 10 tr
abbrev PM (μ : Mem) (a o w tr : Int32) (r : Nat → Int32) : Mem := sf (sf μ 70 (hM (μ 70) a o w tr)) 75 r
theorem pmw {μ : Mem} {a o w tr x : Int32} {r : Nat → Int32} {j : Nat} {h : Nat → Int32} (e : upd (hM (μ 70) a o w tr) j x = h) : wr (PM μ a o w tr r) 70 j x = sf (sf μ 70 h) 75 r := by
  funext b
  by_cases h1 : b = 70
  · subst h1
    exact e
  · simp [PM, wr, sf, h1]
theorem pmw5 {μ : Mem} {a o w tr x : Int32} {r : Nat → Int32} : wr (PM μ a o w tr r) 70 5 x = PM μ x o w tr r := by
  refine pmw ?_
  funext i
  simp only [hM, upd]
  repeat' split
  all_goals first | rfl | omega
theorem pmw6 {μ : Mem} {a o w tr x : Int32} {r : Nat → Int32} : wr (PM μ a o w tr r) 70 6 x = PM μ a x w tr r := by
  refine pmw ?_
  funext i
  simp only [hM, upd]
  repeat' split
  all_goals first | rfl | omega
theorem pmw8 {μ : Mem} {a o w tr x : Int32} {r : Nat → Int32} : wr (PM μ a o w tr r) 70 8 x = PM μ a o x tr r := by
  refine pmw ?_
  funext i
  simp only [hM, upd]
  repeat' split
  all_goals first | rfl | omega
theorem pmw10 {μ : Mem} {a o w tr x : Int32} {r : Nat → Int32} : wr (PM μ a o w tr r) 70 10 x = PM μ a o w x r := by
  refine pmw ?_
  funext i
  simp only [hM, upd]
  repeat' split
  all_goals first | rfl | omega
theorem pmc {μ : Mem} {a o w tr x v : Int32} {r : Nat → Int32} {j : Nat} : wr (wr (PM μ a o w tr r) 75 j v) 70 10 x = PM μ a o w x (upd r j v) := by
  have h : wr (PM μ a o w tr r) 75 j v = PM μ a o w tr (upd r j v) := by
    funext b
    by_cases h1 : b = 75
    · subst h1; simp [PM, wr, sf]
    · simp [PM, wr, sf, h1]
  rw [h, pmw10]
def bw (b : Bool) : Int32 := if b = true then 0 else 1
theorem bw_t {b : Bool} (h : b = true) : bw b = 0 := if_pos h
theorem bw_f {b : Bool} (h : ¬ b = true) : bw b = 1 := if_neg h
theorem lev_is0 {c : Int32} : lev c = 0 → c = 124 := by
  intro h
  unfold lev at h
  repeat' split at h
  all_goals first | assumption | omega
theorem lev_is1 {c : Int32} : lev c = 1 → c = 38 := by
  intro h
  unfold lev at h
  repeat' split at h
  all_goals first | assumption | omega
theorem lev_is2 {c : Int32} : lev c = 2 → c = 60 ∨ c = 61 ∨ c = 62 := by
  intro h
  unfold lev at h
  repeat' split at h
  all_goals first | assumption | omega
theorem lev_is3 {c : Int32} : lev c = 3 → c = 43 ∨ c = 45 := by
  intro h
  unfold lev at h
  repeat' split at h
  all_goals first | assumption | omega
theorem lev_is4 {c : Int32} : lev c = 4 → c = 42 ∨ c = 47 ∨ c = 37 := by
  intro h
  unfold lev at h
  repeat' split at h
  all_goals first | assumption | omega
theorem pLp_no {N : Nat → Int32} {s : Nat → PR} {l i a : Nat} (h : ¬ lev (pkk N a) = l) : pLp N s l i a = (true, a, []) := by
  cases i with
  | zero => rfl
  | succ i => exact if_neg h
theorem opc_pos (c : Int32) : ¬ opc c ≤ 0 := by
  have := (opc_rng c).1
  simp only [Int32.le_iff_toInt_le, Int32.reduceToInt]
  omega
def nmv (u : Nat) (c : Int32) : Int32 := if nmi u c < 3 then nI (nmi u c) else -1
