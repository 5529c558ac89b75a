/-! the reference: reads -/
theorem c9_within (X : Cx) (μ : Mem) (v a b : Int32) : Mt X m_X9_within 0 [.int v, .int a, .int b] μ (fun r μ' => r = some (.int (b2 (a ≤ v ∧ v ≤ b))) ∧ μ' = μ) := by
  refine Mt_of ck_X9_within mf_127 rfl ?_
  repeat' first
    | refine go ck_X9_within _ [] ?_
    | refine br_c (fun _ => ?_) (fun _ => ?_)
    | refine br_n (fun _ => ?_) (fun _ => ?_)
    | refine ckI (Or.inl rfl) ?_
    | refine ckI (Or.inr rfl) ?_
    | refine ckI (b2_01 _) ?_
    | refine ckI ⟨_, rfl⟩ ?_
    | refine ckI (vp_c rfl) ?_
    | refine ckI ?_ ?_
    | fail
  all_goals refine mk_int ?_
  all_goals dsimp only [ev, ew, e1, b2]
  all_goals split
  all_goals first
    | rfl
    | (exfalso; simp only [b2_0, b2_1, Int32.lt_iff_toInt_lt, Int32.le_iff_toInt_le, ← Int32.toInt_inj, Int32.reduceToInt] at *; omega)
theorem c9_held (X : Cx) (μ : Mem) (v a b : Int32) : Mt X m_X9_held 1 [.int v, .int a, .int b] μ (fun r μ' => r = some (.int (mx a (mn b v))) ∧ μ' = μ) := by
  refine Mt_of ck_X9_held mf_128 rfl ?_
  repeat' first
    | refine go ck_X9_held _ [] ?_
    | refine br_c (fun _ => ?_) (fun _ => ?_)
    | refine br_n (fun _ => ?_) (fun _ => ?_)
    | refine ckI (Or.inl rfl) ?_
    | refine ckI (Or.inr rfl) ?_
    | refine ckI (b2_01 _) ?_
    | refine ckI ⟨_, rfl⟩ ?_
    | refine ckI (vp_c rfl) ?_
    | refine ckI ?_ ?_
    | fail
  exact mk_int rfl
theorem c9_isFar (X : Cx) (μ : Mem) (v : Int32) : Mt X m_X9_isFar 1 [.int v] μ (fun r μ' => r = some (.int (b2 (0 ≤ v ∧ v ≤ 99))) ∧ μ' = μ) := by
  refine Mt_of ck_X9_isFar mf_152 rfl ?_
  repeat' first
    | refine go ck_X9_isFar _ [] ?_
    | refine br_c (fun _ => ?_) (fun _ => ?_)
    | refine br_n (fun _ => ?_) (fun _ => ?_)
    | refine ckI (Or.inl rfl) ?_
    | refine ckI (Or.inr rfl) ?_
    | refine ckI (b2_01 _) ?_
    | refine ckI ⟨_, rfl⟩ ?_
    | refine ckI (vp_c rfl) ?_
    | (apply cl_p; (case hM => exact c9_within _ _ _ _ _); (case hc => exact rfl); (case hd => decide))
    | refine ckI ?_ ?_
    | fail
  exact mk_int rfl
theorem c9_isKindM (X : Cx) (μ : Mem) (v : Int32) : Mt X m_X9_isKindM 1 [.int v] μ (fun r μ' => r = some (.int (b2 (0 ≤ v ∧ v ≤ 69))) ∧ μ' = μ) := by
  refine Mt_of ck_X9_isKindM mf_162 rfl ?_
  repeat' first
    | refine go ck_X9_isKindM _ [] ?_
    | refine br_c (fun _ => ?_) (fun _ => ?_)
    | refine br_n (fun _ => ?_) (fun _ => ?_)
    | refine ckI (Or.inl rfl) ?_
    | refine ckI (Or.inr rfl) ?_
    | refine ckI (b2_01 _) ?_
    | refine ckI ⟨_, rfl⟩ ?_
    | refine ckI (vp_c rfl) ?_
    | (apply cl_p; (case hM => exact c9_within _ _ _ _ _); (case hc => exact rfl); (case hd => decide))
    | refine ckI ?_ ?_
    | fail
  exact mk_int rfl
theorem c9_isMarks (X : Cx) (μ : Mem) (v : Int32) : Mt X m_X9_isMarks 1 [.int v] μ (fun r μ' => r = some (.int (b2 (0 ≤ v ∧ v ≤ 255))) ∧ μ' = μ) := by
  refine Mt_of ck_X9_isMarks mf_163 rfl ?_
  repeat' first
    | refine go ck_X9_isMarks _ [] ?_
    | refine br_c (fun _ => ?_) (fun _ => ?_)
    | refine br_n (fun _ => ?_) (fun _ => ?_)
    | refine ckI (Or.inl rfl) ?_
    | refine ckI (Or.inr rfl) ?_
    | refine ckI (b2_01 _) ?_
    | refine ckI ⟨_, rfl⟩ ?_
    | refine ckI (vp_c rfl) ?_
    | (apply cl_p; (case hM => exact c9_within _ _ _ _ _); (case hc => exact rfl); (case hd => decide))
    | refine ckI ?_ ?_
    | fail
  exact mk_int rfl
theorem c9_isSheet (X : Cx) (μ : Mem) (v : Int32) : Mt X m_X9_isSheet 1 [.int v] μ (fun r μ' => r = some (.int (b2 (0 ≤ v ∧ v ≤ 3))) ∧ μ' = μ) := by
  refine Mt_of ck_X9_isSheet mf_211 rfl ?_
  repeat' first
    | refine go ck_X9_isSheet _ [] ?_
    | refine br_c (fun _ => ?_) (fun _ => ?_)
    | refine br_n (fun _ => ?_) (fun _ => ?_)
    | refine ckI (Or.inl rfl) ?_
    | refine ckI (Or.inr rfl) ?_
    | refine ckI (b2_01 _) ?_
    | refine ckI ⟨_, rfl⟩ ?_
    | refine ckI (vp_c rfl) ?_
    | (apply cl_p; (case hM => exact c9_within _ _ _ _ _); (case hc => exact rfl); (case hd => decide))
    | refine ckI ?_ ?_
    | fail
  exact mk_int rfl
theorem c9_isPlace (X : Cx) (μ : Mem) (v : Int32) : Mt X m_X9_isPlace 1 [.ref 70, .int v] μ (fun r μ' => r = some (.int (b2 (0 ≤ v ∧ v ≤ μ 71 1 - 1))) ∧ μ' = μ) := by
  refine Mt_of ck_X9_isPlace mf_150 rfl ?_
  repeat' first
    | refine go ck_X9_isPlace _ [] ?_
    | refine br_c (fun _ => ?_) (fun _ => ?_)
    | refine br_n (fun _ => ?_) (fun _ => ?_)
    | refine ckI (Or.inl rfl) ?_
    | refine ckI (Or.inr rfl) ?_
    | refine ckI (b2_01 _) ?_
    | refine ckI ⟨_, rfl⟩ ?_
    | refine ckI (vp_c rfl) ?_
    | (apply cl_p; (case hM => exact c9_within _ _ _ _ _); (case hc => exact rfl); (case hd => decide))
    | refine ckI ?_ ?_
    | fail
  exact mk_int rfl
theorem c9_isTale (X : Cx) (μ : Mem) (v : Int32) : Mt X m_X9_isTale 1 [.ref 70, .int v] μ (fun r μ' => r = some (.int (b2 (0 ≤ v ∧ v ≤ μ 71 2 - 1))) ∧ μ' = μ) := by
  refine Mt_of ck_X9_isTale mf_151 rfl ?_
  repeat' first
    | refine go ck_X9_isTale _ [] ?_
    | refine br_c (fun _ => ?_) (fun _ => ?_)
    | refine br_n (fun _ => ?_) (fun _ => ?_)
    | refine ckI (Or.inl rfl) ?_
    | refine ckI (Or.inr rfl) ?_
    | refine ckI (b2_01 _) ?_
    | refine ckI ⟨_, rfl⟩ ?_
    | refine ckI (vp_c rfl) ?_
    | (apply cl_p; (case hM => exact c9_within _ _ _ _ _); (case hc => exact rfl); (case hd => decide))
    | refine ckI ?_ ?_
    | fail
  exact mk_int rfl
theorem c9_taleAt (X : Cx) (μ : Mem) (t f : Int32) : Mt X m_X9_taleAt 0 [.int t, .int f] μ (fun r μ' => r = some (.int (111 + 6 * t + f)) ∧ μ' = μ) := by
  refine Mt_of ck_X9_taleAt mf_160 rfl ?_
  repeat' first
    | refine go ck_X9_taleAt _ [] ?_
    | refine br_c (fun _ => ?_) (fun _ => ?_)
    | refine br_n (fun _ => ?_) (fun _ => ?_)
    | refine ckI (Or.inl rfl) ?_
    | refine ckI (Or.inr rfl) ?_
    | refine ckI (b2_01 _) ?_
    | refine ckI ⟨_, rfl⟩ ?_
    | refine ckI (vp_c rfl) ?_
    | refine ckI ?_ ?_
    | fail
  exact mk_int rfl
