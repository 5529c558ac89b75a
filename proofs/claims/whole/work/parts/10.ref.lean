/-! the reference: reads -/
theorem c9_within (X : Cx) (μ : Mem) (v a b : Int32) : Mt X m_X9_within 0 [.int v, .int a, .int b] μ (fun r μ' => r = some (.int (b2 (a ≤ v ∧ v ≤ b))) ∧ μ' = μ) := by
  refine Mt_of ck_X9_within mf_127 rfl ?_
  repeat' first
    | ((with_reducible refine gow ck_X9_within _ [] ?_); conv => whnf)
    | ((with_reducible refine bn_t ?_ ?_); (· first | assumption | decide); conv => whnf)
    | ((with_reducible refine bn_f ?_ ?_); (· first | assumption | decide); conv => whnf)
    | ((with_reducible refine bc_t ?_ ?_); (· first | assumption | decide); conv => whnf)
    | ((with_reducible refine bc_f ?_ ?_); (· first | assumption | decide); conv => whnf)
    | ((with_reducible refine br_t ?_ ?_); (· first | assumption | decide); conv => whnf)
    | ((with_reducible refine br_f ?_ ?_); (· first | assumption | decide); conv => whnf)
    | ((with_reducible refine br_nt ?_ ?_); (· first | assumption | decide); conv => whnf)
    | ((with_reducible refine br_nf ?_ ?_); (· first | assumption | decide); conv => whnf)
    | ((with_reducible refine bn_c (fun _ => ?_) (fun _ => ?_)) <;> conv => whnf)
    | ((with_reducible refine bc_c (fun _ => ?_) (fun _ => ?_)) <;> conv => whnf)
    | ((with_reducible refine br_c (fun _ => ?_) (fun _ => ?_)) <;> conv => whnf)
    | ((with_reducible refine br_n (fun _ => ?_) (fun _ => ?_)) <;> conv => whnf)
    | ((with_reducible refine ckI ?_ ?_); (· first | ((with_reducible refine vp_in_nI ?_ ?_); (· omega); (· decide)) | exact vp_c (by decide) | exact ⟨_, rfl⟩ | exact Or.inl rfl | exact Or.inr rfl | exact b2_01 _); conv => whnf)
    | ((with_reducible refine ckJ ?_ ?_); conv => whnf)
    | fail
  all_goals refine mk_int ?_
  all_goals dsimp only [ev, ew, e1, b2]
  all_goals split
  all_goals first
    | rfl
    | (exfalso; (try simp only [b2_0, b2_1] at *); (try simp only [Int32.lt_iff_toInt_lt, Int32.le_iff_toInt_le, ← Int32.toInt_inj, Int32.reduceToInt] at *); omega)
theorem c9_held (X : Cx) (μ : Mem) (v a b : Int32) : Mt X m_X9_held 1 [.int v, .int a, .int b] μ (fun r μ' => r = some (.int (mx a (mn b v))) ∧ μ' = μ) := by
  refine Mt_of ck_X9_held mf_128 rfl ?_
  repeat' first
    | ((with_reducible refine gow ck_X9_held _ [] ?_); conv => whnf)
    | ((with_reducible refine bn_t ?_ ?_); (· first | assumption | decide); conv => whnf)
    | ((with_reducible refine bn_f ?_ ?_); (· first | assumption | decide); conv => whnf)
    | ((with_reducible refine bc_t ?_ ?_); (· first | assumption | decide); conv => whnf)
    | ((with_reducible refine bc_f ?_ ?_); (· first | assumption | decide); conv => whnf)
    | ((with_reducible refine br_t ?_ ?_); (· first | assumption | decide); conv => whnf)
    | ((with_reducible refine br_f ?_ ?_); (· first | assumption | decide); conv => whnf)
    | ((with_reducible refine br_nt ?_ ?_); (· first | assumption | decide); conv => whnf)
    | ((with_reducible refine br_nf ?_ ?_); (· first | assumption | decide); conv => whnf)
    | ((with_reducible refine bn_c (fun _ => ?_) (fun _ => ?_)) <;> conv => whnf)
    | ((with_reducible refine bc_c (fun _ => ?_) (fun _ => ?_)) <;> conv => whnf)
    | ((with_reducible refine br_c (fun _ => ?_) (fun _ => ?_)) <;> conv => whnf)
    | ((with_reducible refine br_n (fun _ => ?_) (fun _ => ?_)) <;> conv => whnf)
    | ((with_reducible refine ckI ?_ ?_); (· first | ((with_reducible refine vp_in_nI ?_ ?_); (· omega); (· decide)) | exact vp_c (by decide) | exact ⟨_, rfl⟩ | exact Or.inl rfl | exact Or.inr rfl | exact b2_01 _); conv => whnf)
    | ((with_reducible refine ckJ ?_ ?_); conv => whnf)
    | fail
  exact mk_int rfl
theorem c9_isFar (X : Cx) (μ : Mem) (v : Int32) : Mt X m_X9_isFar 1 [.int v] μ (fun r μ' => r = some (.int (b2 (0 ≤ v ∧ v ≤ 99))) ∧ μ' = μ) := by
  refine Mt_of ck_X9_isFar mf_152 rfl ?_
  repeat' first
    | ((with_reducible refine gow ck_X9_isFar _ [] ?_); conv => whnf)
    | ((with_reducible refine bn_t ?_ ?_); (· first | assumption | decide); conv => whnf)
    | ((with_reducible refine bn_f ?_ ?_); (· first | assumption | decide); conv => whnf)
    | ((with_reducible refine bc_t ?_ ?_); (· first | assumption | decide); conv => whnf)
    | ((with_reducible refine bc_f ?_ ?_); (· first | assumption | decide); conv => whnf)
    | ((with_reducible refine br_t ?_ ?_); (· first | assumption | decide); conv => whnf)
    | ((with_reducible refine br_f ?_ ?_); (· first | assumption | decide); conv => whnf)
    | ((with_reducible refine br_nt ?_ ?_); (· first | assumption | decide); conv => whnf)
    | ((with_reducible refine br_nf ?_ ?_); (· first | assumption | decide); conv => whnf)
    | ((with_reducible refine bn_c (fun _ => ?_) (fun _ => ?_)) <;> conv => whnf)
    | ((with_reducible refine bc_c (fun _ => ?_) (fun _ => ?_)) <;> conv => whnf)
    | ((with_reducible refine br_c (fun _ => ?_) (fun _ => ?_)) <;> conv => whnf)
    | ((with_reducible refine br_n (fun _ => ?_) (fun _ => ?_)) <;> conv => whnf)
    | ((with_reducible refine ckI ?_ ?_); (· first | ((with_reducible refine vp_in_nI ?_ ?_); (· omega); (· decide)) | exact vp_c (by decide) | exact ⟨_, rfl⟩ | exact Or.inl rfl | exact Or.inr rfl | exact b2_01 _); conv => whnf)
    | ((with_reducible apply cl_p); (case hM => with_reducible exact c9_within _ _ _ _ _); (case hc => exact rfl); (case hd => decide); conv => whnf)
    | ((with_reducible refine ckJ ?_ ?_); conv => whnf)
    | fail
  exact mk_int rfl
theorem c9_isKindM (X : Cx) (μ : Mem) (v : Int32) : Mt X m_X9_isKindM 1 [.int v] μ (fun r μ' => r = some (.int (b2 (0 ≤ v ∧ v ≤ 69))) ∧ μ' = μ) := by
  refine Mt_of ck_X9_isKindM mf_162 rfl ?_
  repeat' first
    | ((with_reducible refine gow ck_X9_isKindM _ [] ?_); conv => whnf)
    | ((with_reducible refine bn_t ?_ ?_); (· first | assumption | decide); conv => whnf)
    | ((with_reducible refine bn_f ?_ ?_); (· first | assumption | decide); conv => whnf)
    | ((with_reducible refine bc_t ?_ ?_); (· first | assumption | decide); conv => whnf)
    | ((with_reducible refine bc_f ?_ ?_); (· first | assumption | decide); conv => whnf)
    | ((with_reducible refine br_t ?_ ?_); (· first | assumption | decide); conv => whnf)
    | ((with_reducible refine br_f ?_ ?_); (· first | assumption | decide); conv => whnf)
    | ((with_reducible refine br_nt ?_ ?_); (· first | assumption | decide); conv => whnf)
    | ((with_reducible refine br_nf ?_ ?_); (· first | assumption | decide); conv => whnf)
    | ((with_reducible refine bn_c (fun _ => ?_) (fun _ => ?_)) <;> conv => whnf)
    | ((with_reducible refine bc_c (fun _ => ?_) (fun _ => ?_)) <;> conv => whnf)
    | ((with_reducible refine br_c (fun _ => ?_) (fun _ => ?_)) <;> conv => whnf)
    | ((with_reducible refine br_n (fun _ => ?_) (fun _ => ?_)) <;> conv => whnf)
    | ((with_reducible refine ckI ?_ ?_); (· first | ((with_reducible refine vp_in_nI ?_ ?_); (· omega); (· decide)) | exact vp_c (by decide) | exact ⟨_, rfl⟩ | exact Or.inl rfl | exact Or.inr rfl | exact b2_01 _); conv => whnf)
    | ((with_reducible apply cl_p); (case hM => with_reducible exact c9_within _ _ _ _ _); (case hc => exact rfl); (case hd => decide); conv => whnf)
    | ((with_reducible refine ckJ ?_ ?_); conv => whnf)
    | fail
  exact mk_int rfl
theorem c9_isMarks (X : Cx) (μ : Mem) (v : Int32) : Mt X m_X9_isMarks 1 [.int v] μ (fun r μ' => r = some (.int (b2 (0 ≤ v ∧ v ≤ 255))) ∧ μ' = μ) := by
  refine Mt_of ck_X9_isMarks mf_163 rfl ?_
  repeat' first
    | ((with_reducible refine gow ck_X9_isMarks _ [] ?_); conv => whnf)
    | ((with_reducible refine bn_t ?_ ?_); (· first | assumption | decide); conv => whnf)
    | ((with_reducible refine bn_f ?_ ?_); (· first | assumption | decide); conv => whnf)
    | ((with_reducible refine bc_t ?_ ?_); (· first | assumption | decide); conv => whnf)
    | ((with_reducible refine bc_f ?_ ?_); (· first | assumption | decide); conv => whnf)
    | ((with_reducible refine br_t ?_ ?_); (· first | assumption | decide); conv => whnf)
    | ((with_reducible refine br_f ?_ ?_); (· first | assumption | decide); conv => whnf)
    | ((with_reducible refine br_nt ?_ ?_); (· first | assumption | decide); conv => whnf)
    | ((with_reducible refine br_nf ?_ ?_); (· first | assumption | decide); conv => whnf)
    | ((with_reducible refine bn_c (fun _ => ?_) (fun _ => ?_)) <;> conv => whnf)
    | ((with_reducible refine bc_c (fun _ => ?_) (fun _ => ?_)) <;> conv => whnf)
    | ((with_reducible refine br_c (fun _ => ?_) (fun _ => ?_)) <;> conv => whnf)
    | ((with_reducible refine br_n (fun _ => ?_) (fun _ => ?_)) <;> conv => whnf)
    | ((with_reducible refine ckI ?_ ?_); (· first | ((with_reducible refine vp_in_nI ?_ ?_); (· omega); (· decide)) | exact vp_c (by decide) | exact ⟨_, rfl⟩ | exact Or.inl rfl | exact Or.inr rfl | exact b2_01 _); conv => whnf)
    | ((with_reducible apply cl_p); (case hM => with_reducible exact c9_within _ _ _ _ _); (case hc => exact rfl); (case hd => decide); conv => whnf)
    | ((with_reducible refine ckJ ?_ ?_); conv => whnf)
    | fail
  exact mk_int rfl
theorem c9_isSheet (X : Cx) (μ : Mem) (v : Int32) : Mt X m_X9_isSheet 1 [.int v] μ (fun r μ' => r = some (.int (b2 (0 ≤ v ∧ v ≤ 3))) ∧ μ' = μ) := by
  refine Mt_of ck_X9_isSheet mf_211 rfl ?_
  repeat' first
    | ((with_reducible refine gow ck_X9_isSheet _ [] ?_); conv => whnf)
    | ((with_reducible refine bn_t ?_ ?_); (· first | assumption | decide); conv => whnf)
    | ((with_reducible refine bn_f ?_ ?_); (· first | assumption | decide); conv => whnf)
    | ((with_reducible refine bc_t ?_ ?_); (· first | assumption | decide); conv => whnf)
    | ((with_reducible refine bc_f ?_ ?_); (· first | assumption | decide); conv => whnf)
    | ((with_reducible refine br_t ?_ ?_); (· first | assumption | decide); conv => whnf)
    | ((with_reducible refine br_f ?_ ?_); (· first | assumption | decide); conv => whnf)
    | ((with_reducible refine br_nt ?_ ?_); (· first | assumption | decide); conv => whnf)
    | ((with_reducible refine br_nf ?_ ?_); (· first | assumption | decide); conv => whnf)
    | ((with_reducible refine bn_c (fun _ => ?_) (fun _ => ?_)) <;> conv => whnf)
    | ((with_reducible refine bc_c (fun _ => ?_) (fun _ => ?_)) <;> conv => whnf)
    | ((with_reducible refine br_c (fun _ => ?_) (fun _ => ?_)) <;> conv => whnf)
    | ((with_reducible refine br_n (fun _ => ?_) (fun _ => ?_)) <;> conv => whnf)
    | ((with_reducible refine ckI ?_ ?_); (· first | ((with_reducible refine vp_in_nI ?_ ?_); (· omega); (· decide)) | exact vp_c (by decide) | exact ⟨_, rfl⟩ | exact Or.inl rfl | exact Or.inr rfl | exact b2_01 _); conv => whnf)
    | ((with_reducible apply cl_p); (case hM => with_reducible exact c9_within _ _ _ _ _); (case hc => exact rfl); (case hd => decide); conv => whnf)
    | ((with_reducible refine ckJ ?_ ?_); conv => whnf)
    | fail
  exact mk_int rfl
theorem c9_isPlace (X : Cx) (μ : Mem) (v : Int32) : Mt X m_X9_isPlace 1 [.ref 70, .int v] μ (fun r μ' => r = some (.int (b2 (0 ≤ v ∧ v ≤ μ 71 1 - 1))) ∧ μ' = μ) := by
  refine Mt_of ck_X9_isPlace mf_150 rfl ?_
  repeat' first
    | ((with_reducible refine gow ck_X9_isPlace _ [] ?_); conv => whnf)
    | ((with_reducible refine bn_t ?_ ?_); (· first | assumption | decide); conv => whnf)
    | ((with_reducible refine bn_f ?_ ?_); (· first | assumption | decide); conv => whnf)
    | ((with_reducible refine bc_t ?_ ?_); (· first | assumption | decide); conv => whnf)
    | ((with_reducible refine bc_f ?_ ?_); (· first | assumption | decide); conv => whnf)
    | ((with_reducible refine br_t ?_ ?_); (· first | assumption | decide); conv => whnf)
    | ((with_reducible refine br_f ?_ ?_); (· first | assumption | decide); conv => whnf)
    | ((with_reducible refine br_nt ?_ ?_); (· first | assumption | decide); conv => whnf)
    | ((with_reducible refine br_nf ?_ ?_); (· first | assumption | decide); conv => whnf)
    | ((with_reducible refine bn_c (fun _ => ?_) (fun _ => ?_)) <;> conv => whnf)
    | ((with_reducible refine bc_c (fun _ => ?_) (fun _ => ?_)) <;> conv => whnf)
    | ((with_reducible refine br_c (fun _ => ?_) (fun _ => ?_)) <;> conv => whnf)
    | ((with_reducible refine br_n (fun _ => ?_) (fun _ => ?_)) <;> conv => whnf)
    | ((with_reducible refine ckI ?_ ?_); (· first | ((with_reducible refine vp_in_nI ?_ ?_); (· omega); (· decide)) | exact vp_c (by decide) | exact ⟨_, rfl⟩ | exact Or.inl rfl | exact Or.inr rfl | exact b2_01 _); conv => whnf)
    | ((with_reducible apply cl_p); (case hM => with_reducible exact c9_within _ _ _ _ _); (case hc => exact rfl); (case hd => decide); conv => whnf)
    | ((with_reducible refine ckJ ?_ ?_); conv => whnf)
    | fail
  exact mk_int rfl
theorem c9_isTale (X : Cx) (μ : Mem) (v : Int32) : Mt X m_X9_isTale 1 [.ref 70, .int v] μ (fun r μ' => r = some (.int (b2 (0 ≤ v ∧ v ≤ μ 71 2 - 1))) ∧ μ' = μ) := by
  refine Mt_of ck_X9_isTale mf_151 rfl ?_
  repeat' first
    | ((with_reducible refine gow ck_X9_isTale _ [] ?_); conv => whnf)
    | ((with_reducible refine bn_t ?_ ?_); (· first | assumption | decide); conv => whnf)
    | ((with_reducible refine bn_f ?_ ?_); (· first | assumption | decide); conv => whnf)
    | ((with_reducible refine bc_t ?_ ?_); (· first | assumption | decide); conv => whnf)
    | ((with_reducible refine bc_f ?_ ?_); (· first | assumption | decide); conv => whnf)
    | ((with_reducible refine br_t ?_ ?_); (· first | assumption | decide); conv => whnf)
    | ((with_reducible refine br_f ?_ ?_); (· first | assumption | decide); conv => whnf)
    | ((with_reducible refine br_nt ?_ ?_); (· first | assumption | decide); conv => whnf)
    | ((with_reducible refine br_nf ?_ ?_); (· first | assumption | decide); conv => whnf)
    | ((with_reducible refine bn_c (fun _ => ?_) (fun _ => ?_)) <;> conv => whnf)
    | ((with_reducible refine bc_c (fun _ => ?_) (fun _ => ?_)) <;> conv => whnf)
    | ((with_reducible refine br_c (fun _ => ?_) (fun _ => ?_)) <;> conv => whnf)
    | ((with_reducible refine br_n (fun _ => ?_) (fun _ => ?_)) <;> conv => whnf)
    | ((with_reducible refine ckI ?_ ?_); (· first | ((with_reducible refine vp_in_nI ?_ ?_); (· omega); (· decide)) | exact vp_c (by decide) | exact ⟨_, rfl⟩ | exact Or.inl rfl | exact Or.inr rfl | exact b2_01 _); conv => whnf)
    | ((with_reducible apply cl_p); (case hM => with_reducible exact c9_within _ _ _ _ _); (case hc => exact rfl); (case hd => decide); conv => whnf)
    | ((with_reducible refine ckJ ?_ ?_); conv => whnf)
    | fail
  exact mk_int rfl
theorem c9_taleAt (X : Cx) (μ : Mem) (t f : Int32) : Mt X m_X9_taleAt 0 [.int t, .int f] μ (fun r μ' => r = some (.int (111 + 6 * t + f)) ∧ μ' = μ) := by
  refine Mt_of ck_X9_taleAt mf_160 rfl ?_
  repeat' first
    | ((with_reducible refine gow ck_X9_taleAt _ [] ?_); conv => whnf)
    | ((with_reducible refine bn_t ?_ ?_); (· first | assumption | decide); conv => whnf)
    | ((with_reducible refine bn_f ?_ ?_); (· first | assumption | decide); conv => whnf)
    | ((with_reducible refine bc_t ?_ ?_); (· first | assumption | decide); conv => whnf)
    | ((with_reducible refine bc_f ?_ ?_); (· first | assumption | decide); conv => whnf)
    | ((with_reducible refine br_t ?_ ?_); (· first | assumption | decide); conv => whnf)
    | ((with_reducible refine br_f ?_ ?_); (· first | assumption | decide); conv => whnf)
    | ((with_reducible refine br_nt ?_ ?_); (· first | assumption | decide); conv => whnf)
    | ((with_reducible refine br_nf ?_ ?_); (· first | assumption | decide); conv => whnf)
    | ((with_reducible refine bn_c (fun _ => ?_) (fun _ => ?_)) <;> conv => whnf)
    | ((with_reducible refine bc_c (fun _ => ?_) (fun _ => ?_)) <;> conv => whnf)
    | ((with_reducible refine br_c (fun _ => ?_) (fun _ => ?_)) <;> conv => whnf)
    | ((with_reducible refine br_n (fun _ => ?_) (fun _ => ?_)) <;> conv => whnf)
    | ((with_reducible refine ckI ?_ ?_); (· first | ((with_reducible refine vp_in_nI ?_ ?_); (· omega); (· decide)) | exact vp_c (by decide) | exact ⟨_, rfl⟩ | exact Or.inl rfl | exact Or.inr rfl | exact b2_01 _); conv => whnf)
    | ((with_reducible refine ckJ ?_ ?_); conv => whnf)
    | fail
  exact mk_int rfl
theorem ix_t (t f : Nat) : (111 : Int32) + 6 * nI t + nI f = nI (111 + 6 * t + f) := by
  rw [show (111 : Int32) = nI 111 from rfl, show (6 : Int32) = nI 6 from rfl, pk_mul, nI_add, nI_add]
theorem ix_r (a b : Nat) : (13 : Int32) + 7 * nI a + nI b = nI (13 + 7 * a + b) := by
  rw [show (13 : Int32) = nI 13 from rfl, show (7 : Int32) = nI 7 from rfl, pk_mul, nI_add, nI_add]
theorem ix_l (a b : Nat) : (62 : Int32) + 7 * nI a + nI b = nI (62 + 7 * a + b) := by
  rw [show (62 : Int32) = nI 62 from rfl, show (7 : Int32) = nI 7 from rfl, pk_mul, nI_add, nI_add]
theorem ta_cl {x : Int32} (h0 : 0 ≤ x.toInt) (h : x.toInt < 7) (f : Nat) (hf : f < 6) : (111 + 6 * x + nI f).toNatClampNeg = 111 + 6 * x.toInt.toNat + f ∧ vp_in (111 + 6 * x + nI f) 327 := by
  obtain ⟨k, hk, rfl⟩ := of_i (n := 7) h0 h (by decide)
  rw [ix_t, nI_clamp (by omega), nI_toInt (by omega)]
  exact ⟨rfl, vp_in_nI (by omega) (by decide)⟩
theorem c9_taleAt0 (X : Cx) (μ : Mem) (t : Nat) : Mt X m_X9_taleAt 0 [.int (nI t), .int 0] μ (fun r μ' => r = some (.int (nI (111 + 6 * t + 0))) ∧ μ' = μ) := by
  have h := c9_taleAt X μ (nI t) 0
  rw [show (0 : Int32) = nI 0 from rfl, ix_t] at h
  exact h
theorem c9_taleAt1 (X : Cx) (μ : Mem) (t : Nat) : Mt X m_X9_taleAt 0 [.int (nI t), .int 1] μ (fun r μ' => r = some (.int (nI (111 + 6 * t + 1))) ∧ μ' = μ) := by
  have h := c9_taleAt X μ (nI t) 1
  rw [show (1 : Int32) = nI 1 from rfl, ix_t] at h
  exact h
theorem c9_taleAt2 (X : Cx) (μ : Mem) (t : Nat) : Mt X m_X9_taleAt 0 [.int (nI t), .int 2] μ (fun r μ' => r = some (.int (nI (111 + 6 * t + 2))) ∧ μ' = μ) := by
  have h := c9_taleAt X μ (nI t) 2
  rw [show (2 : Int32) = nI 2 from rfl, ix_t] at h
  exact h
theorem c9_taleAt3 (X : Cx) (μ : Mem) (t : Nat) : Mt X m_X9_taleAt 0 [.int (nI t), .int 3] μ (fun r μ' => r = some (.int (nI (111 + 6 * t + 3))) ∧ μ' = μ) := by
  have h := c9_taleAt X μ (nI t) 3
  rw [show (3 : Int32) = nI 3 from rfl, ix_t] at h
  exact h
theorem c9_taleAt4 (X : Cx) (μ : Mem) (t : Nat) : Mt X m_X9_taleAt 0 [.int (nI t), .int 4] μ (fun r μ' => r = some (.int (nI (111 + 6 * t + 4))) ∧ μ' = μ) := by
  have h := c9_taleAt X μ (nI t) 4
  rw [show (4 : Int32) = nI 4 from rfl, ix_t] at h
  exact h
theorem c9_taleAt5 (X : Cx) (μ : Mem) (t : Nat) : Mt X m_X9_taleAt 0 [.int (nI t), .int 5] μ (fun r μ' => r = some (.int (nI (111 + 6 * t + 5))) ∧ μ' = μ) := by
  have h := c9_taleAt X μ (nI t) 5
  rw [show (5 : Int32) = nI 5 from rfl, ix_t] at h
  exact h
theorem c9_taleIs (X : Cx) (μ : Mem) (t f : Nat) (ht : t < 7) (hf : f < 6) : Mt X m_X9_taleIs 1 [.ref 70, .int (nI t), .int (nI f)] μ (fun r μ' => r = some (.int (μ 71 (111 + 6 * t + f))) ∧ μ' = μ) := by
  refine Mt_of ck_X9_taleIs mf_161 rfl ?_
  repeat' first
    | ((with_reducible refine gow ck_X9_taleIs _ [] ?_); conv => whnf)
    | ((with_reducible refine bn_t ?_ ?_); (· first | assumption | decide); conv => whnf)
    | ((with_reducible refine bn_f ?_ ?_); (· first | assumption | decide); conv => whnf)
    | ((with_reducible refine bc_t ?_ ?_); (· first | assumption | decide); conv => whnf)
    | ((with_reducible refine bc_f ?_ ?_); (· first | assumption | decide); conv => whnf)
    | ((with_reducible refine br_t ?_ ?_); (· first | assumption | decide); conv => whnf)
    | ((with_reducible refine br_f ?_ ?_); (· first | assumption | decide); conv => whnf)
    | ((with_reducible refine br_nt ?_ ?_); (· first | assumption | decide); conv => whnf)
    | ((with_reducible refine br_nf ?_ ?_); (· first | assumption | decide); conv => whnf)
    | ((with_reducible refine bn_c (fun _ => ?_) (fun _ => ?_)) <;> conv => whnf)
    | ((with_reducible refine bc_c (fun _ => ?_) (fun _ => ?_)) <;> conv => whnf)
    | ((with_reducible refine br_c (fun _ => ?_) (fun _ => ?_)) <;> conv => whnf)
    | ((with_reducible refine br_n (fun _ => ?_) (fun _ => ?_)) <;> conv => whnf)
    | ((with_reducible refine ckI ?_ ?_); (· first | ((with_reducible refine vp_in_nI ?_ ?_); (· omega); (· decide)) | exact vp_c (by decide) | exact ⟨_, rfl⟩ | exact Or.inl rfl | exact Or.inr rfl | exact b2_01 _); conv => whnf)
    | ((with_reducible apply cl_p); (case hM => with_reducible exact c9_taleAt _ _ _ _); (case hc => exact rfl); (case hd => decide); conv => whnf)
    | ((with_reducible refine ckJ ?_ ?_); conv => whnf)
    | fail
  · exact mk_int (congrArg (μ 71) (cl_k _ (ix_t t f) (by omega)))
  · exact vp_k _ (ix_t t f) (by omega) (by decide)
theorem c9_taleIs0 (X : Cx) (μ : Mem) (t : Nat) (ht : t < 7) : Mt X m_X9_taleIs 1 [.ref 70, .int (nI t), .int 0] μ (fun r μ' => r = some (.int (μ 71 (111 + 6 * t + 0))) ∧ μ' = μ) := c9_taleIs X μ t 0 ht (by decide)
theorem c9_taleIs1 (X : Cx) (μ : Mem) (t : Nat) (ht : t < 7) : Mt X m_X9_taleIs 1 [.ref 70, .int (nI t), .int 1] μ (fun r μ' => r = some (.int (μ 71 (111 + 6 * t + 1))) ∧ μ' = μ) := c9_taleIs X μ t 1 ht (by decide)
theorem c9_taleIs2 (X : Cx) (μ : Mem) (t : Nat) (ht : t < 7) : Mt X m_X9_taleIs 1 [.ref 70, .int (nI t), .int 2] μ (fun r μ' => r = some (.int (μ 71 (111 + 6 * t + 2))) ∧ μ' = μ) := c9_taleIs X μ t 2 ht (by decide)
theorem c9_taleIs3 (X : Cx) (μ : Mem) (t : Nat) (ht : t < 7) : Mt X m_X9_taleIs 1 [.ref 70, .int (nI t), .int 3] μ (fun r μ' => r = some (.int (μ 71 (111 + 6 * t + 3))) ∧ μ' = μ) := c9_taleIs X μ t 3 ht (by decide)
theorem c9_taleIs4 (X : Cx) (μ : Mem) (t : Nat) (ht : t < 7) : Mt X m_X9_taleIs 1 [.ref 70, .int (nI t), .int 4] μ (fun r μ' => r = some (.int (μ 71 (111 + 6 * t + 4))) ∧ μ' = μ) := c9_taleIs X μ t 4 ht (by decide)
theorem c9_taleIs5 (X : Cx) (μ : Mem) (t : Nat) (ht : t < 7) : Mt X m_X9_taleIs 1 [.ref 70, .int (nI t), .int 5] μ (fun r μ' => r = some (.int (μ 71 (111 + 6 * t + 5))) ∧ μ' = μ) := c9_taleIs X μ t 5 ht (by decide)
theorem c9_yardsOf (X : Cx) (μ : Mem) (a b : Nat) (ha : a < 7) (hb : b < 7) : Mt X m_X9_yardsOf 0 [.ref 70, .int (nI a), .int (nI b)] μ (fun r μ' => r = some (.int (μ 71 (13 + 7 * a + b))) ∧ μ' = μ) := by
  refine Mt_of ck_X9_yardsOf mf_155 rfl ?_
  repeat' first
    | ((with_reducible refine gow ck_X9_yardsOf _ [] ?_); conv => whnf)
    | ((with_reducible refine bn_t ?_ ?_); (· first | assumption | decide); conv => whnf)
    | ((with_reducible refine bn_f ?_ ?_); (· first | assumption | decide); conv => whnf)
    | ((with_reducible refine bc_t ?_ ?_); (· first | assumption | decide); conv => whnf)
    | ((with_reducible refine bc_f ?_ ?_); (· first | assumption | decide); conv => whnf)
    | ((with_reducible refine br_t ?_ ?_); (· first | assumption | decide); conv => whnf)
    | ((with_reducible refine br_f ?_ ?_); (· first | assumption | decide); conv => whnf)
    | ((with_reducible refine br_nt ?_ ?_); (· first | assumption | decide); conv => whnf)
    | ((with_reducible refine br_nf ?_ ?_); (· first | assumption | decide); conv => whnf)
    | ((with_reducible refine bn_c (fun _ => ?_) (fun _ => ?_)) <;> conv => whnf)
    | ((with_reducible refine bc_c (fun _ => ?_) (fun _ => ?_)) <;> conv => whnf)
    | ((with_reducible refine br_c (fun _ => ?_) (fun _ => ?_)) <;> conv => whnf)
    | ((with_reducible refine br_n (fun _ => ?_) (fun _ => ?_)) <;> conv => whnf)
    | ((with_reducible refine ckI ?_ ?_); (· first | ((with_reducible refine vp_in_nI ?_ ?_); (· omega); (· decide)) | exact vp_c (by decide) | exact ⟨_, rfl⟩ | exact Or.inl rfl | exact Or.inr rfl | exact b2_01 _); conv => whnf)
    | ((with_reducible refine ckJ ?_ ?_); conv => whnf)
    | fail
  · exact mk_int (congrArg (μ 71) (cl_k _ (ix_r a b) (by omega)))
  · exact vp_k _ (ix_r a b) (by omega) (by decide)
theorem c9_tollOf (X : Cx) (μ : Mem) (a b : Nat) (ha : a < 7) (hb : b < 7) : Mt X m_X9_tollOf 0 [.ref 70, .int (nI a), .int (nI b)] μ (fun r μ' => r = some (.int (μ 71 (62 + 7 * a + b))) ∧ μ' = μ) := by
  refine Mt_of ck_X9_tollOf mf_156 rfl ?_
  repeat' first
    | ((with_reducible refine gow ck_X9_tollOf _ [] ?_); conv => whnf)
    | ((with_reducible refine bn_t ?_ ?_); (· first | assumption | decide); conv => whnf)
    | ((with_reducible refine bn_f ?_ ?_); (· first | assumption | decide); conv => whnf)
    | ((with_reducible refine bc_t ?_ ?_); (· first | assumption | decide); conv => whnf)
    | ((with_reducible refine bc_f ?_ ?_); (· first | assumption | decide); conv => whnf)
    | ((with_reducible refine br_t ?_ ?_); (· first | assumption | decide); conv => whnf)
    | ((with_reducible refine br_f ?_ ?_); (· first | assumption | decide); conv => whnf)
    | ((with_reducible refine br_nt ?_ ?_); (· first | assumption | decide); conv => whnf)
    | ((with_reducible refine br_nf ?_ ?_); (· first | assumption | decide); conv => whnf)
    | ((with_reducible refine bn_c (fun _ => ?_) (fun _ => ?_)) <;> conv => whnf)
    | ((with_reducible refine bc_c (fun _ => ?_) (fun _ => ?_)) <;> conv => whnf)
    | ((with_reducible refine br_c (fun _ => ?_) (fun _ => ?_)) <;> conv => whnf)
    | ((with_reducible refine br_n (fun _ => ?_) (fun _ => ?_)) <;> conv => whnf)
    | ((with_reducible refine ckI ?_ ?_); (· first | ((with_reducible refine vp_in_nI ?_ ?_); (· omega); (· decide)) | exact vp_c (by decide) | exact ⟨_, rfl⟩ | exact Or.inl rfl | exact Or.inr rfl | exact b2_01 _); conv => whnf)
    | ((with_reducible refine ckJ ?_ ?_); conv => whnf)
    | fail
  · exact mk_int (congrArg (μ 71) (cl_k _ (ix_l a b) (by omega)))
  · exact vp_k _ (ix_l a b) (by omega) (by decide)
theorem c9_finding1 (X : Cx) (μ : Mem) : Mt X m_X9_finding 0 [.ref 70, .int (-1000000001)] μ (fun r μ' => r = some (.int (-1000000001)) ∧ μ' = wr μ 73 1 (μ 73 1 + 1)) := by
  refine Mt_of ck_X9_finding mf_126 rfl ?_
  repeat' first
    | ((with_reducible refine gow ck_X9_finding _ [] ?_); conv => whnf)
    | ((with_reducible refine bn_t ?_ ?_); (· first | assumption | decide); conv => whnf)
    | ((with_reducible refine bn_f ?_ ?_); (· first | assumption | decide); conv => whnf)
    | ((with_reducible refine bc_t ?_ ?_); (· first | assumption | decide); conv => whnf)
    | ((with_reducible refine bc_f ?_ ?_); (· first | assumption | decide); conv => whnf)
    | ((with_reducible refine br_t ?_ ?_); (· first | assumption | decide); conv => whnf)
    | ((with_reducible refine br_f ?_ ?_); (· first | assumption | decide); conv => whnf)
    | ((with_reducible refine br_nt ?_ ?_); (· first | assumption | decide); conv => whnf)
    | ((with_reducible refine br_nf ?_ ?_); (· first | assumption | decide); conv => whnf)
    | ((with_reducible refine bn_c (fun _ => ?_) (fun _ => ?_)) <;> conv => whnf)
    | ((with_reducible refine bc_c (fun _ => ?_) (fun _ => ?_)) <;> conv => whnf)
    | ((with_reducible refine br_c (fun _ => ?_) (fun _ => ?_)) <;> conv => whnf)
    | ((with_reducible refine br_n (fun _ => ?_) (fun _ => ?_)) <;> conv => whnf)
    | ((with_reducible refine ckI ?_ ?_); (· first | ((with_reducible refine vp_in_nI ?_ ?_); (· omega); (· decide)) | exact vp_c (by decide) | exact ⟨_, rfl⟩ | exact Or.inl rfl | exact Or.inr rfl | exact b2_01 _); conv => whnf)
    | ((with_reducible refine ckJ ?_ ?_); conv => whnf)
    | fail
  exact ⟨rfl, rfl⟩
theorem c9_finding2 (X : Cx) (μ : Mem) : Mt X m_X9_finding 0 [.ref 70, .int (-1000000002)] μ (fun r μ' => r = some (.int (-1000000002)) ∧ μ' = wr μ 73 2 (μ 73 2 + 1)) := by
  refine Mt_of ck_X9_finding mf_126 rfl ?_
  repeat' first
    | ((with_reducible refine gow ck_X9_finding _ [] ?_); conv => whnf)
    | ((with_reducible refine bn_t ?_ ?_); (· first | assumption | decide); conv => whnf)
    | ((with_reducible refine bn_f ?_ ?_); (· first | assumption | decide); conv => whnf)
    | ((with_reducible refine bc_t ?_ ?_); (· first | assumption | decide); conv => whnf)
    | ((with_reducible refine bc_f ?_ ?_); (· first | assumption | decide); conv => whnf)
    | ((with_reducible refine br_t ?_ ?_); (· first | assumption | decide); conv => whnf)
    | ((with_reducible refine br_f ?_ ?_); (· first | assumption | decide); conv => whnf)
    | ((with_reducible refine br_nt ?_ ?_); (· first | assumption | decide); conv => whnf)
    | ((with_reducible refine br_nf ?_ ?_); (· first | assumption | decide); conv => whnf)
    | ((with_reducible refine bn_c (fun _ => ?_) (fun _ => ?_)) <;> conv => whnf)
    | ((with_reducible refine bc_c (fun _ => ?_) (fun _ => ?_)) <;> conv => whnf)
    | ((with_reducible refine br_c (fun _ => ?_) (fun _ => ?_)) <;> conv => whnf)
    | ((with_reducible refine br_n (fun _ => ?_) (fun _ => ?_)) <;> conv => whnf)
    | ((with_reducible refine ckI ?_ ?_); (· first | ((with_reducible refine vp_in_nI ?_ ?_); (· omega); (· decide)) | exact vp_c (by decide) | exact ⟨_, rfl⟩ | exact Or.inl rfl | exact Or.inr rfl | exact b2_01 _); conv => whnf)
    | ((with_reducible refine ckJ ?_ ?_); conv => whnf)
    | fail
  exact ⟨rfl, rfl⟩
theorem c9_finding3 (X : Cx) (μ : Mem) : Mt X m_X9_finding 0 [.ref 70, .int (-1000000003)] μ (fun r μ' => r = some (.int (-1000000003)) ∧ μ' = wr μ 73 3 (μ 73 3 + 1)) := by
  refine Mt_of ck_X9_finding mf_126 rfl ?_
  repeat' first
    | ((with_reducible refine gow ck_X9_finding _ [] ?_); conv => whnf)
    | ((with_reducible refine bn_t ?_ ?_); (· first | assumption | decide); conv => whnf)
    | ((with_reducible refine bn_f ?_ ?_); (· first | assumption | decide); conv => whnf)
    | ((with_reducible refine bc_t ?_ ?_); (· first | assumption | decide); conv => whnf)
    | ((with_reducible refine bc_f ?_ ?_); (· first | assumption | decide); conv => whnf)
    | ((with_reducible refine br_t ?_ ?_); (· first | assumption | decide); conv => whnf)
    | ((with_reducible refine br_f ?_ ?_); (· first | assumption | decide); conv => whnf)
    | ((with_reducible refine br_nt ?_ ?_); (· first | assumption | decide); conv => whnf)
    | ((with_reducible refine br_nf ?_ ?_); (· first | assumption | decide); conv => whnf)
    | ((with_reducible refine bn_c (fun _ => ?_) (fun _ => ?_)) <;> conv => whnf)
    | ((with_reducible refine bc_c (fun _ => ?_) (fun _ => ?_)) <;> conv => whnf)
    | ((with_reducible refine br_c (fun _ => ?_) (fun _ => ?_)) <;> conv => whnf)
    | ((with_reducible refine br_n (fun _ => ?_) (fun _ => ?_)) <;> conv => whnf)
    | ((with_reducible refine ckI ?_ ?_); (· first | ((with_reducible refine vp_in_nI ?_ ?_); (· omega); (· decide)) | exact vp_c (by decide) | exact ⟨_, rfl⟩ | exact Or.inl rfl | exact Or.inr rfl | exact b2_01 _); conv => whnf)
    | ((with_reducible refine ckJ ?_ ?_); conv => whnf)
    | fail
  exact ⟨rfl, rfl⟩
theorem c9_finding4 (X : Cx) (μ : Mem) : Mt X m_X9_finding 0 [.ref 70, .int (-1000000004)] μ (fun r μ' => r = some (.int (-1000000004)) ∧ μ' = wr μ 73 4 (μ 73 4 + 1)) := by
  refine Mt_of ck_X9_finding mf_126 rfl ?_
  repeat' first
    | ((with_reducible refine gow ck_X9_finding _ [] ?_); conv => whnf)
    | ((with_reducible refine bn_t ?_ ?_); (· first | assumption | decide); conv => whnf)
    | ((with_reducible refine bn_f ?_ ?_); (· first | assumption | decide); conv => whnf)
    | ((with_reducible refine bc_t ?_ ?_); (· first | assumption | decide); conv => whnf)
    | ((with_reducible refine bc_f ?_ ?_); (· first | assumption | decide); conv => whnf)
    | ((with_reducible refine br_t ?_ ?_); (· first | assumption | decide); conv => whnf)
    | ((with_reducible refine br_f ?_ ?_); (· first | assumption | decide); conv => whnf)
    | ((with_reducible refine br_nt ?_ ?_); (· first | assumption | decide); conv => whnf)
    | ((with_reducible refine br_nf ?_ ?_); (· first | assumption | decide); conv => whnf)
    | ((with_reducible refine bn_c (fun _ => ?_) (fun _ => ?_)) <;> conv => whnf)
    | ((with_reducible refine bc_c (fun _ => ?_) (fun _ => ?_)) <;> conv => whnf)
    | ((with_reducible refine br_c (fun _ => ?_) (fun _ => ?_)) <;> conv => whnf)
    | ((with_reducible refine br_n (fun _ => ?_) (fun _ => ?_)) <;> conv => whnf)
    | ((with_reducible refine ckI ?_ ?_); (· first | ((with_reducible refine vp_in_nI ?_ ?_); (· omega); (· decide)) | exact vp_c (by decide) | exact ⟨_, rfl⟩ | exact Or.inl rfl | exact Or.inr rfl | exact b2_01 _); conv => whnf)
    | ((with_reducible refine ckJ ?_ ?_); conv => whnf)
    | fail
  exact ⟨rfl, rfl⟩
theorem c9_finding5 (X : Cx) (μ : Mem) : Mt X m_X9_finding 0 [.ref 70, .int (-1000000005)] μ (fun r μ' => r = some (.int (-1000000005)) ∧ μ' = wr μ 73 5 (μ 73 5 + 1)) := by
  refine Mt_of ck_X9_finding mf_126 rfl ?_
  repeat' first
    | ((with_reducible refine gow ck_X9_finding _ [] ?_); conv => whnf)
    | ((with_reducible refine bn_t ?_ ?_); (· first | assumption | decide); conv => whnf)
    | ((with_reducible refine bn_f ?_ ?_); (· first | assumption | decide); conv => whnf)
    | ((with_reducible refine bc_t ?_ ?_); (· first | assumption | decide); conv => whnf)
    | ((with_reducible refine bc_f ?_ ?_); (· first | assumption | decide); conv => whnf)
    | ((with_reducible refine br_t ?_ ?_); (· first | assumption | decide); conv => whnf)
    | ((with_reducible refine br_f ?_ ?_); (· first | assumption | decide); conv => whnf)
    | ((with_reducible refine br_nt ?_ ?_); (· first | assumption | decide); conv => whnf)
    | ((with_reducible refine br_nf ?_ ?_); (· first | assumption | decide); conv => whnf)
    | ((with_reducible refine bn_c (fun _ => ?_) (fun _ => ?_)) <;> conv => whnf)
    | ((with_reducible refine bc_c (fun _ => ?_) (fun _ => ?_)) <;> conv => whnf)
    | ((with_reducible refine br_c (fun _ => ?_) (fun _ => ?_)) <;> conv => whnf)
    | ((with_reducible refine br_n (fun _ => ?_) (fun _ => ?_)) <;> conv => whnf)
    | ((with_reducible refine ckI ?_ ?_); (· first | ((with_reducible refine vp_in_nI ?_ ?_); (· omega); (· decide)) | exact vp_c (by decide) | exact ⟨_, rfl⟩ | exact Or.inl rfl | exact Or.inr rfl | exact b2_01 _); conv => whnf)
    | ((with_reducible refine ckJ ?_ ?_); conv => whnf)
    | fail
  exact ⟨rfl, rfl⟩
theorem c9_turn (X : Cx) (μ : Mem) (x v : Int32) (k : Nat) (hx : x = nI k) (hk : k < 327) : Mt X m_X9_turn 0 [.ref 70, .int x, .int v] μ (fun r μ' => r = some (.int (μ 71 k)) ∧ μ' = wr μ 71 k v) := by
  refine Mt_of ck_X9_turn mf_130 rfl ?_
  repeat' first
    | ((with_reducible refine gow ck_X9_turn _ [] ?_); conv => whnf)
    | ((with_reducible refine bn_t ?_ ?_); (· first | assumption | decide); conv => whnf)
    | ((with_reducible refine bn_f ?_ ?_); (· first | assumption | decide); conv => whnf)
    | ((with_reducible refine bc_t ?_ ?_); (· first | assumption | decide); conv => whnf)
    | ((with_reducible refine bc_f ?_ ?_); (· first | assumption | decide); conv => whnf)
    | ((with_reducible refine br_t ?_ ?_); (· first | assumption | decide); conv => whnf)
    | ((with_reducible refine br_f ?_ ?_); (· first | assumption | decide); conv => whnf)
    | ((with_reducible refine br_nt ?_ ?_); (· first | assumption | decide); conv => whnf)
    | ((with_reducible refine br_nf ?_ ?_); (· first | assumption | decide); conv => whnf)
    | ((with_reducible refine bn_c (fun _ => ?_) (fun _ => ?_)) <;> conv => whnf)
    | ((with_reducible refine bc_c (fun _ => ?_) (fun _ => ?_)) <;> conv => whnf)
    | ((with_reducible refine br_c (fun _ => ?_) (fun _ => ?_)) <;> conv => whnf)
    | ((with_reducible refine br_n (fun _ => ?_) (fun _ => ?_)) <;> conv => whnf)
    | ((with_reducible refine ckI ?_ ?_); (· first | ((with_reducible refine vp_in_nI ?_ ?_); (· omega); (· decide)) | exact vp_c (by decide) | exact ⟨_, rfl⟩ | exact Or.inl rfl | exact Or.inr rfl | exact b2_01 _); conv => whnf)
    | ((with_reducible refine ckJ ?_ ?_); conv => whnf)
    | fail
  · exact ⟨congrArg (fun j => some (Value.int (μ 71 j))) (cl_k k hx (by omega)), congrArg (fun j => wr μ 71 j v) (cl_k k hx (by omega))⟩
  · exact vp_k k hx hk (by decide)
  · exact vp_k k hx hk (by decide)
theorem c9_turnN (X : Cx) (μ : Mem) (v : Int32) (k : Nat) (hk : k < 327) : Mt X m_X9_turn 0 [.ref 70, .int (nI k), .int v] μ (fun r μ' => r = some (.int (μ 71 k)) ∧ μ' = wr μ 71 k v) := c9_turn X μ (nI k) v k rfl hk
theorem c9_areTwo (X : Cx) (μ : Mem) (a b : Int32) : Mt X m_X9_areTwo 2 [.ref 70, .int a, .int b] μ (fun r μ' => r = some (.int (b2 (((0 ≤ a ∧ a ≤ μ 71 1 - 1) ∧ (0 ≤ b ∧ b ≤ μ 71 1 - 1)) ∧ ¬ a = b))) ∧ μ' = μ) := by
  refine Mt_of ck_X9_areTwo mf_157 rfl ?_
  repeat' first
    | ((with_reducible refine gow ck_X9_areTwo _ [] ?_); conv => whnf)
    | ((with_reducible refine bn_t ?_ ?_); (· first | assumption | decide); conv => whnf)
    | ((with_reducible refine bn_f ?_ ?_); (· first | assumption | decide); conv => whnf)
    | ((with_reducible refine bc_t ?_ ?_); (· first | assumption | decide); conv => whnf)
    | ((with_reducible refine bc_f ?_ ?_); (· first | assumption | decide); conv => whnf)
    | ((with_reducible refine br_t ?_ ?_); (· first | assumption | decide); conv => whnf)
    | ((with_reducible refine br_f ?_ ?_); (· first | assumption | decide); conv => whnf)
    | ((with_reducible refine br_nt ?_ ?_); (· first | assumption | decide); conv => whnf)
    | ((with_reducible refine br_nf ?_ ?_); (· first | assumption | decide); conv => whnf)
    | ((with_reducible refine bn_c (fun _ => ?_) (fun _ => ?_)) <;> conv => whnf)
    | ((with_reducible refine bc_c (fun _ => ?_) (fun _ => ?_)) <;> conv => whnf)
    | ((with_reducible refine br_c (fun _ => ?_) (fun _ => ?_)) <;> conv => whnf)
    | ((with_reducible refine br_n (fun _ => ?_) (fun _ => ?_)) <;> conv => whnf)
    | ((with_reducible refine ckI ?_ ?_); (· first | ((with_reducible refine vp_in_nI ?_ ?_); (· omega); (· decide)) | exact vp_c (by decide) | exact ⟨_, rfl⟩ | exact Or.inl rfl | exact Or.inr rfl | exact b2_01 _); conv => whnf)
    | ((with_reducible apply cl_p); (case hM => with_reducible exact c9_isPlace _ _ _); (case hc => exact rfl); (case hd => decide); conv => whnf)
    | ((with_reducible refine ckJ ?_ ?_); conv => whnf)
    | fail
  all_goals refine mk_int ?_
  all_goals dsimp only [ev, ew, e1, b2]
  all_goals split
  all_goals first
    | rfl
    | (exfalso; (try simp only [b2_0, b2_1] at *); (try simp only [Int32.lt_iff_toInt_lt, Int32.le_iff_toInt_le, ← Int32.toInt_inj, Int32.reduceToInt] at *); omega)
