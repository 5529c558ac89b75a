theorem zt_1 (a b : Int32) (h : 0 ≤ a.toInt) (h2 : a.toInt < 7) (h3 : 0 ≤ b.toInt) (h4 : b.toInt < 7) : (13 + 7 * a + b).toInt = 13 + 7 * a.toInt + b.toInt := by
  have e1 : (13 : Int32).toInt = 13 := rfl
  have e2 : (7 : Int32).toInt = 7 := rfl
  simp only [Int32.toInt_add, Int32.toInt_mul, e1, e2, Int.bmod_def]
  omega
theorem zt_2 (a b : Int32) (h : ¬ a < b) (h2 : ¬ b < a) : a = b := by
  rw [← Int32.toInt_inj]
  simp only [Int32.lt_iff_toInt_lt] at *
  omega
abbrev b2 (c : Prop) [Decidable c] : Int32 := if c then 1 else 0
theorem c_within (X : Cx) (μ : Mem) (v a b : Int32) : Mt X m_X9_within 0 [.int v, .int a, .int b] μ (fun r μ' => r = some (.int (b2 (a ≤ v ∧ v ≤ b))) ∧ μ' = μ) := by
  refine Mt_of ck_X9_within mf_127 rfl ?_
  repeat' first | refine go ck_X9_within _ [] ?_ | refine br_c (fun _ => ?_) (fun _ => ?_) | refine And.intro (Or.inl rfl) ?_ | refine And.intro (Or.inr rfl) ?_
  all_goals trace_state
  all_goals sorry
theorem c_finding (X : Cx) (μ : Mem) (v : Int32) (k : Nat) (hk : 1 ≤ k) (hk2 : k ≤ 5) (hv : v = -1000000000 - nI k) : Mt X m_X9_finding 0 [.ref 70, .int v] μ (fun r μ' => r = some (.int v) ∧ μ' = wr μ 73 k (μ 73 k + 1)) := by
  refine Mt_of ck_X9_finding mf_126 rfl ?_
  refine go ck_X9_finding _ [] ?_
  refine And.intro ?_ ?_
  · trace_state
    sorry
  · refine And.intro ?_ ?_
    · sorry
    · trace_state
      sorry
