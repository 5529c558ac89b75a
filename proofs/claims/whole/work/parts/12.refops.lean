theorem r_place (X : Cx) (μ : Mem) (v : Int32) (hW : WFS (mp μ)) : Mt X m_X9_place 2 [.ref 70, .int v] μ (Pm9 μ (sp_place (mp μ) v)) := by
  have hN : WN (mp μ 1) := hW.1
  have w1 : 0 ≤ (μ 71 1).toInt ∧ (μ 71 1).toInt ≤ 7 := hN.2.1
  unfold sp_place
  (repeat' split)
  · refine Mt_of ck_X9_place mf_153 rfl ?_
    clear hW hN
    repeat' first
      | ((with_reducible refine gow ck_X9_place _ [] ?_); conv => whnf)
      | ((with_reducible refine bn_t ?_ ?_); (· assumption); conv => whnf)
      | ((with_reducible refine bn_f ?_ ?_); (· assumption); conv => whnf)
      | ((with_reducible refine bc_t ?_ ?_); (· assumption); conv => whnf)
      | ((with_reducible refine bc_f ?_ ?_); (· assumption); conv => whnf)
      | ((with_reducible refine br_t ?_ ?_); (· assumption); conv => whnf)
      | ((with_reducible refine br_f ?_ ?_); (· assumption); conv => whnf)
      | ((with_reducible refine br_nt ?_ ?_); (· assumption); conv => whnf)
      | ((with_reducible refine br_nf ?_ ?_); (· assumption); conv => whnf)
      | ((with_reducible refine ckI ?_ ?_); (· first | exact vp_c rfl | exact ⟨_, rfl⟩ | exact Or.inl rfl | exact Or.inr rfl | exact b2_01 _); conv => whnf)
      | ((with_reducible apply cl_p); (case hM => with_reducible exact c9_finding1 _ _); (case hc => exact rfl); (case hd => decide); conv => whnf)
      | ((with_reducible apply cl_p); (case hM => with_reducible exact c9_finding2 _ _); (case hc => exact rfl); (case hd => decide); conv => whnf)
      | ((with_reducible apply cl_p); (case hM => with_reducible exact c9_finding3 _ _); (case hc => exact rfl); (case hd => decide); conv => whnf)
      | ((with_reducible apply cl_p); (case hM => with_reducible exact c9_finding4 _ _); (case hc => exact rfl); (case hd => decide); conv => whnf)
      | ((with_reducible apply cl_p); (case hM => with_reducible exact c9_finding5 _ _); (case hc => exact rfl); (case hd => decide); conv => whnf)
      | ((with_reducible apply cl_p); (case hM => with_reducible exact c9_isFar _ _ _); (case hc => exact rfl); (case hd => decide); conv => whnf)
      | with_reducible refine Pm9.of ?_ ?_
      | ((with_reducible refine ckJ ?_ ?_); conv => whnf)
      | fail
    · exact congrArg (Prod.mk _) mp73.symm
    · (intro i hi; repeat rw [lo_wr hi (by decide)])
  · refine Mt_of ck_X9_place mf_153 rfl ?_
    clear hW hN
    repeat' first
      | ((with_reducible refine gow ck_X9_place _ [] ?_); conv => whnf)
      | ((with_reducible refine bn_t ?_ ?_); (· assumption); conv => whnf)
      | ((with_reducible refine bn_f ?_ ?_); (· assumption); conv => whnf)
      | ((with_reducible refine bc_t ?_ ?_); (· assumption); conv => whnf)
      | ((with_reducible refine bc_f ?_ ?_); (· assumption); conv => whnf)
      | ((with_reducible refine br_t ?_ ?_); (· assumption); conv => whnf)
      | ((with_reducible refine br_f ?_ ?_); (· assumption); conv => whnf)
      | ((with_reducible refine br_nt ?_ ?_); (· assumption); conv => whnf)
      | ((with_reducible refine br_nf ?_ ?_); (· assumption); conv => whnf)
      | ((with_reducible refine ckI ?_ ?_); (· first | exact vp_c rfl | exact ⟨_, rfl⟩ | exact Or.inl rfl | exact Or.inr rfl | exact b2_01 _); conv => whnf)
      | ((with_reducible apply cl_p); (case hM => with_reducible exact c9_finding1 _ _); (case hc => exact rfl); (case hd => decide); conv => whnf)
      | ((with_reducible apply cl_p); (case hM => with_reducible exact c9_finding2 _ _); (case hc => exact rfl); (case hd => decide); conv => whnf)
      | ((with_reducible apply cl_p); (case hM => with_reducible exact c9_finding3 _ _); (case hc => exact rfl); (case hd => decide); conv => whnf)
      | ((with_reducible apply cl_p); (case hM => with_reducible exact c9_finding4 _ _); (case hc => exact rfl); (case hd => decide); conv => whnf)
      | ((with_reducible apply cl_p); (case hM => with_reducible exact c9_finding5 _ _); (case hc => exact rfl); (case hd => decide); conv => whnf)
      | ((with_reducible apply cl_p); (case hM => with_reducible exact c9_isFar _ _ _); (case hc => exact rfl); (case hd => decide); conv => whnf)
      | with_reducible refine Pm9.of ?_ ?_
      | ((with_reducible refine ckJ ?_ ?_); conv => whnf)
      | fail
    all_goals trace_state
    all_goals sorry
  · refine Mt_of ck_X9_place mf_153 rfl ?_
    clear hW hN
    repeat' first
      | ((with_reducible refine gow ck_X9_place _ [] ?_); conv => whnf)
      | ((with_reducible refine bn_t ?_ ?_); (· assumption); conv => whnf)
      | ((with_reducible refine bn_f ?_ ?_); (· assumption); conv => whnf)
      | ((with_reducible refine bc_t ?_ ?_); (· assumption); conv => whnf)
      | ((with_reducible refine bc_f ?_ ?_); (· assumption); conv => whnf)
      | ((with_reducible refine br_t ?_ ?_); (· assumption); conv => whnf)
      | ((with_reducible refine br_f ?_ ?_); (· assumption); conv => whnf)
      | ((with_reducible refine br_nt ?_ ?_); (· assumption); conv => whnf)
      | ((with_reducible refine br_nf ?_ ?_); (· assumption); conv => whnf)
      | ((with_reducible refine ckI ?_ ?_); (· first | exact vp_c rfl | exact ⟨_, rfl⟩ | exact Or.inl rfl | exact Or.inr rfl | exact b2_01 _); conv => whnf)
      | ((with_reducible apply cl_p); (case hM => with_reducible exact c9_finding1 _ _); (case hc => exact rfl); (case hd => decide); conv => whnf)
      | ((with_reducible apply cl_p); (case hM => with_reducible exact c9_finding2 _ _); (case hc => exact rfl); (case hd => decide); conv => whnf)
      | ((with_reducible apply cl_p); (case hM => with_reducible exact c9_finding3 _ _); (case hc => exact rfl); (case hd => decide); conv => whnf)
      | ((with_reducible apply cl_p); (case hM => with_reducible exact c9_finding4 _ _); (case hc => exact rfl); (case hd => decide); conv => whnf)
      | ((with_reducible apply cl_p); (case hM => with_reducible exact c9_finding5 _ _); (case hc => exact rfl); (case hd => decide); conv => whnf)
      | ((with_reducible apply cl_p); (case hM => with_reducible exact c9_isFar _ _ _); (case hc => exact rfl); (case hd => decide); conv => whnf)
      | with_reducible refine Pm9.of ?_ ?_
      | ((with_reducible refine ckJ ?_ ?_); conv => whnf)
      | fail
    · exact congrArg (Prod.mk _) mp73.symm
    · (intro i hi; repeat rw [lo_wr hi (by decide)])
theorem r_doubt (X : Cx) (μ : Mem) (p v : Int32) (hW : WFS (mp μ)) : Mt X m_X9_doubt 2 [.ref 70, .int p, .int v] μ (Pm9 μ (sp_doubt (mp μ) p v)) := by
  have hN : WN (mp μ 1) := hW.1
  unfold sp_doubt
  (repeat' split)
  · obtain ⟨k, hk, rfl, hk2⟩ := in_P hN ‹isP (mp μ 1) p›
    refine Mt_of ck_X9_doubt mf_154 rfl ?_
    clear hW hN
    repeat' first
      | ((with_reducible refine gow ck_X9_doubt _ [] ?_); conv => whnf)
      | ((with_reducible refine bn_t ?_ ?_); (· assumption); conv => whnf)
      | ((with_reducible refine bn_f ?_ ?_); (· assumption); conv => whnf)
      | ((with_reducible refine bc_t ?_ ?_); (· assumption); conv => whnf)
      | ((with_reducible refine bc_f ?_ ?_); (· assumption); conv => whnf)
      | ((with_reducible refine br_t ?_ ?_); (· assumption); conv => whnf)
      | ((with_reducible refine br_f ?_ ?_); (· assumption); conv => whnf)
      | ((with_reducible refine br_nt ?_ ?_); (· assumption); conv => whnf)
      | ((with_reducible refine br_nf ?_ ?_); (· assumption); conv => whnf)
      | ((with_reducible refine ckI ?_ ?_); (· first | exact vp_c rfl | exact ⟨_, rfl⟩ | exact Or.inl rfl | exact Or.inr rfl | exact b2_01 _); conv => whnf)
      | ((with_reducible apply cl_p); (case hM => with_reducible exact c9_finding1 _ _); (case hc => exact rfl); (case hd => decide); conv => whnf)
      | ((with_reducible apply cl_p); (case hM => with_reducible exact c9_finding2 _ _); (case hc => exact rfl); (case hd => decide); conv => whnf)
      | ((with_reducible apply cl_p); (case hM => with_reducible exact c9_finding3 _ _); (case hc => exact rfl); (case hd => decide); conv => whnf)
      | ((with_reducible apply cl_p); (case hM => with_reducible exact c9_finding4 _ _); (case hc => exact rfl); (case hd => decide); conv => whnf)
      | ((with_reducible apply cl_p); (case hM => with_reducible exact c9_finding5 _ _); (case hc => exact rfl); (case hd => decide); conv => whnf)
      | ((with_reducible apply cl_p); (case hM => with_reducible exact c9_isPlace _ _ _); (case hc => exact rfl); (case hd => decide); conv => whnf)
      | ((with_reducible apply cl_p); (case hM => with_reducible exact c9_isFar _ _ _); (case hc => exact rfl); (case hd => decide); conv => whnf)
      | ((with_reducible apply cl_p); (case hM => with_reducible exact c9_turn _ _ _ _ (6 + k) (nI_add 6 k) (by omega)); (case hc => exact rfl); (case hd => decide); conv => whnf)
      | with_reducible refine Pm9.of ?_ ?_
      | ((with_reducible refine ckJ ?_ ?_); conv => whnf)
      | fail
    all_goals trace_state
    all_goals sorry
  · obtain ⟨k, hk, rfl, hk2⟩ := in_P hN ‹isP (mp μ 1) p›
    refine Mt_of ck_X9_doubt mf_154 rfl ?_
    clear hW hN
    repeat' first
      | ((with_reducible refine gow ck_X9_doubt _ [] ?_); conv => whnf)
      | ((with_reducible refine bn_t ?_ ?_); (· assumption); conv => whnf)
      | ((with_reducible refine bn_f ?_ ?_); (· assumption); conv => whnf)
      | ((with_reducible refine bc_t ?_ ?_); (· assumption); conv => whnf)
      | ((with_reducible refine bc_f ?_ ?_); (· assumption); conv => whnf)
      | ((with_reducible refine br_t ?_ ?_); (· assumption); conv => whnf)
      | ((with_reducible refine br_f ?_ ?_); (· assumption); conv => whnf)
      | ((with_reducible refine br_nt ?_ ?_); (· assumption); conv => whnf)
      | ((with_reducible refine br_nf ?_ ?_); (· assumption); conv => whnf)
      | ((with_reducible refine ckI ?_ ?_); (· first | exact vp_c rfl | exact ⟨_, rfl⟩ | exact Or.inl rfl | exact Or.inr rfl | exact b2_01 _); conv => whnf)
      | ((with_reducible apply cl_p); (case hM => with_reducible exact c9_finding1 _ _); (case hc => exact rfl); (case hd => decide); conv => whnf)
      | ((with_reducible apply cl_p); (case hM => with_reducible exact c9_finding2 _ _); (case hc => exact rfl); (case hd => decide); conv => whnf)
      | ((with_reducible apply cl_p); (case hM => with_reducible exact c9_finding3 _ _); (case hc => exact rfl); (case hd => decide); conv => whnf)
      | ((with_reducible apply cl_p); (case hM => with_reducible exact c9_finding4 _ _); (case hc => exact rfl); (case hd => decide); conv => whnf)
      | ((with_reducible apply cl_p); (case hM => with_reducible exact c9_finding5 _ _); (case hc => exact rfl); (case hd => decide); conv => whnf)
      | ((with_reducible apply cl_p); (case hM => with_reducible exact c9_isPlace _ _ _); (case hc => exact rfl); (case hd => decide); conv => whnf)
      | ((with_reducible apply cl_p); (case hM => with_reducible exact c9_isFar _ _ _); (case hc => exact rfl); (case hd => decide); conv => whnf)
      | ((with_reducible apply cl_p); (case hM => with_reducible exact c9_turn _ _ _ _ (6 + k) (nI_add 6 k) (by omega)); (case hc => exact rfl); (case hd => decide); conv => whnf)
      | with_reducible refine Pm9.of ?_ ?_
      | ((with_reducible refine ckJ ?_ ?_); conv => whnf)
      | fail
    · exact congrArg (Prod.mk _) mp73.symm
    · (intro i hi; repeat rw [lo_wr hi (by decide)])
  · refine Mt_of ck_X9_doubt mf_154 rfl ?_
    clear hW hN
    repeat' first
      | ((with_reducible refine gow ck_X9_doubt _ [] ?_); conv => whnf)
      | ((with_reducible refine bn_t ?_ ?_); (· assumption); conv => whnf)
      | ((with_reducible refine bn_f ?_ ?_); (· assumption); conv => whnf)
      | ((with_reducible refine bc_t ?_ ?_); (· assumption); conv => whnf)
      | ((with_reducible refine bc_f ?_ ?_); (· assumption); conv => whnf)
      | ((with_reducible refine br_t ?_ ?_); (· assumption); conv => whnf)
      | ((with_reducible refine br_f ?_ ?_); (· assumption); conv => whnf)
      | ((with_reducible refine br_nt ?_ ?_); (· assumption); conv => whnf)
      | ((with_reducible refine br_nf ?_ ?_); (· assumption); conv => whnf)
      | ((with_reducible refine ckI ?_ ?_); (· first | exact vp_c rfl | exact ⟨_, rfl⟩ | exact Or.inl rfl | exact Or.inr rfl | exact b2_01 _); conv => whnf)
      | ((with_reducible apply cl_p); (case hM => with_reducible exact c9_finding1 _ _); (case hc => exact rfl); (case hd => decide); conv => whnf)
      | ((with_reducible apply cl_p); (case hM => with_reducible exact c9_finding2 _ _); (case hc => exact rfl); (case hd => decide); conv => whnf)
      | ((with_reducible apply cl_p); (case hM => with_reducible exact c9_finding3 _ _); (case hc => exact rfl); (case hd => decide); conv => whnf)
      | ((with_reducible apply cl_p); (case hM => with_reducible exact c9_finding4 _ _); (case hc => exact rfl); (case hd => decide); conv => whnf)
      | ((with_reducible apply cl_p); (case hM => with_reducible exact c9_finding5 _ _); (case hc => exact rfl); (case hd => decide); conv => whnf)
      | ((with_reducible apply cl_p); (case hM => with_reducible exact c9_isPlace _ _ _); (case hc => exact rfl); (case hd => decide); conv => whnf)
      | ((with_reducible apply cl_p); (case hM => with_reducible exact c9_isFar _ _ _); (case hc => exact rfl); (case hd => decide); conv => whnf)
      | ((with_reducible apply cl_p); (case hM => with_reducible exact c9_turn _ _ _ _ (6 + k) (nI_add 6 k) (by omega)); (case hc => exact rfl); (case hd => decide); conv => whnf)
      | with_reducible refine Pm9.of ?_ ?_
      | ((with_reducible refine ckJ ?_ ?_); conv => whnf)
      | fail
    · exact congrArg (Prod.mk _) mp73.symm
    · (intro i hi; repeat rw [lo_wr hi (by decide)])
theorem r_seed (X : Cx) (μ : Mem) (v : Int32) (hW : WFS (mp μ)) : Mt X m_X9_seed 1 [.ref 70, .int v] μ (Pm9 μ (sp_seed (mp μ) v)) := by
  have hN : WN (mp μ 1) := hW.1
  unfold sp_seed
  (repeat' split)
  · refine Mt_of ck_X9_seed mf_202 rfl ?_
    clear hW hN
    repeat' first
      | ((with_reducible refine gow ck_X9_seed _ [] ?_); conv => whnf)
      | ((with_reducible refine bn_t ?_ ?_); (· assumption); conv => whnf)
      | ((with_reducible refine bn_f ?_ ?_); (· assumption); conv => whnf)
      | ((with_reducible refine bc_t ?_ ?_); (· assumption); conv => whnf)
      | ((with_reducible refine bc_f ?_ ?_); (· assumption); conv => whnf)
      | ((with_reducible refine br_t ?_ ?_); (· assumption); conv => whnf)
      | ((with_reducible refine br_f ?_ ?_); (· assumption); conv => whnf)
      | ((with_reducible refine br_nt ?_ ?_); (· assumption); conv => whnf)
      | ((with_reducible refine br_nf ?_ ?_); (· assumption); conv => whnf)
      | ((with_reducible refine ckI ?_ ?_); (· first | exact vp_c rfl | exact ⟨_, rfl⟩ | exact Or.inl rfl | exact Or.inr rfl | exact b2_01 _); conv => whnf)
      | ((with_reducible apply cl_p); (case hM => with_reducible exact c9_finding1 _ _); (case hc => exact rfl); (case hd => decide); conv => whnf)
      | ((with_reducible apply cl_p); (case hM => with_reducible exact c9_finding2 _ _); (case hc => exact rfl); (case hd => decide); conv => whnf)
      | ((with_reducible apply cl_p); (case hM => with_reducible exact c9_finding3 _ _); (case hc => exact rfl); (case hd => decide); conv => whnf)
      | ((with_reducible apply cl_p); (case hM => with_reducible exact c9_finding4 _ _); (case hc => exact rfl); (case hd => decide); conv => whnf)
      | ((with_reducible apply cl_p); (case hM => with_reducible exact c9_finding5 _ _); (case hc => exact rfl); (case hd => decide); conv => whnf)
      | ((with_reducible apply cl_p); (case hM => with_reducible exact c9_turn _ _ _ _ 3 rfl (by decide)); (case hc => exact rfl); (case hd => decide); conv => whnf)
      | with_reducible refine Pm9.of ?_ ?_
      | ((with_reducible refine ckJ ?_ ?_); conv => whnf)
      | fail
    all_goals trace_state
    all_goals sorry
theorem r_tell (X : Cx) (μ : Mem) (v : Int32) (hW : WFS (mp μ)) : Mt X m_X9_tell 1 [.ref 70, .int v] μ (Pm9 μ (sp_tell (mp μ) v)) := by
  have hN : WN (mp μ 1) := hW.1
  have w5 : 0 ≤ (μ 71 5).toInt ∧ (μ 71 5).toInt ≤ 20 := hN.2.2.2.2.1
  unfold sp_tell
  (repeat' split)
  · refine Mt_of ck_X9_tell mf_219 rfl ?_
    clear hW hN
    repeat' first
      | ((with_reducible refine gow ck_X9_tell _ [] ?_); conv => whnf)
      | ((with_reducible refine bn_t ?_ ?_); (· assumption); conv => whnf)
      | ((with_reducible refine bn_f ?_ ?_); (· assumption); conv => whnf)
      | ((with_reducible refine bc_t ?_ ?_); (· assumption); conv => whnf)
      | ((with_reducible refine bc_f ?_ ?_); (· assumption); conv => whnf)
      | ((with_reducible refine br_t ?_ ?_); (· assumption); conv => whnf)
      | ((with_reducible refine br_f ?_ ?_); (· assumption); conv => whnf)
      | ((with_reducible refine br_nt ?_ ?_); (· assumption); conv => whnf)
      | ((with_reducible refine br_nf ?_ ?_); (· assumption); conv => whnf)
      | ((with_reducible refine ckI ?_ ?_); (· first | exact vp_c rfl | exact ⟨_, rfl⟩ | exact Or.inl rfl | exact Or.inr rfl | exact b2_01 _); conv => whnf)
      | ((with_reducible apply cl_p); (case hM => with_reducible exact c9_finding1 _ _); (case hc => exact rfl); (case hd => decide); conv => whnf)
      | ((with_reducible apply cl_p); (case hM => with_reducible exact c9_finding2 _ _); (case hc => exact rfl); (case hd => decide); conv => whnf)
      | ((with_reducible apply cl_p); (case hM => with_reducible exact c9_finding3 _ _); (case hc => exact rfl); (case hd => decide); conv => whnf)
      | ((with_reducible apply cl_p); (case hM => with_reducible exact c9_finding4 _ _); (case hc => exact rfl); (case hd => decide); conv => whnf)
      | ((with_reducible apply cl_p); (case hM => with_reducible exact c9_finding5 _ _); (case hc => exact rfl); (case hd => decide); conv => whnf)
      | with_reducible refine Pm9.of ?_ ?_
      | ((with_reducible refine ckJ ?_ ?_); conv => whnf)
      | fail
    · exact congrArg (Prod.mk _) mp73.symm
    · (intro i hi; repeat rw [lo_wr hi (by decide)])
  · refine Mt_of ck_X9_tell mf_219 rfl ?_
    clear hW hN
    repeat' first
      | ((with_reducible refine gow ck_X9_tell _ [] ?_); conv => whnf)
      | ((with_reducible refine bn_t ?_ ?_); (· assumption); conv => whnf)
      | ((with_reducible refine bn_f ?_ ?_); (· assumption); conv => whnf)
      | ((with_reducible refine bc_t ?_ ?_); (· assumption); conv => whnf)
      | ((with_reducible refine bc_f ?_ ?_); (· assumption); conv => whnf)
      | ((with_reducible refine br_t ?_ ?_); (· assumption); conv => whnf)
      | ((with_reducible refine br_f ?_ ?_); (· assumption); conv => whnf)
      | ((with_reducible refine br_nt ?_ ?_); (· assumption); conv => whnf)
      | ((with_reducible refine br_nf ?_ ?_); (· assumption); conv => whnf)
      | ((with_reducible refine ckI ?_ ?_); (· first | exact vp_c rfl | exact ⟨_, rfl⟩ | exact Or.inl rfl | exact Or.inr rfl | exact b2_01 _); conv => whnf)
      | ((with_reducible apply cl_p); (case hM => with_reducible exact c9_finding1 _ _); (case hc => exact rfl); (case hd => decide); conv => whnf)
      | ((with_reducible apply cl_p); (case hM => with_reducible exact c9_finding2 _ _); (case hc => exact rfl); (case hd => decide); conv => whnf)
      | ((with_reducible apply cl_p); (case hM => with_reducible exact c9_finding3 _ _); (case hc => exact rfl); (case hd => decide); conv => whnf)
      | ((with_reducible apply cl_p); (case hM => with_reducible exact c9_finding4 _ _); (case hc => exact rfl); (case hd => decide); conv => whnf)
      | ((with_reducible apply cl_p); (case hM => with_reducible exact c9_finding5 _ _); (case hc => exact rfl); (case hd => decide); conv => whnf)
      | with_reducible refine Pm9.of ?_ ?_
      | ((with_reducible refine ckJ ?_ ?_); conv => whnf)
      | fail
    all_goals trace_state
    all_goals sorry
theorem r_told (X : Cx) (μ : Mem) (k : Int32) (hW : WFS (mp μ)) : Mt X m_X9_told 1 [.ref 70, .int k] μ (Pm9 μ (sp_told (mp μ) k)) := by
  have hN : WN (mp μ 1) := hW.1
  unfold sp_told
  (repeat' split)
  · refine Mt_of ck_X9_told mf_223 rfl ?_
    clear hW hN
    repeat' first
      | ((with_reducible refine gow ck_X9_told _ [] ?_); conv => whnf)
      | ((with_reducible refine bn_t ?_ ?_); (· assumption); conv => whnf)
      | ((with_reducible refine bn_f ?_ ?_); (· assumption); conv => whnf)
      | ((with_reducible refine bc_t ?_ ?_); (· assumption); conv => whnf)
      | ((with_reducible refine bc_f ?_ ?_); (· assumption); conv => whnf)
      | ((with_reducible refine br_t ?_ ?_); (· assumption); conv => whnf)
      | ((with_reducible refine br_f ?_ ?_); (· assumption); conv => whnf)
      | ((with_reducible refine br_nt ?_ ?_); (· assumption); conv => whnf)
      | ((with_reducible refine br_nf ?_ ?_); (· assumption); conv => whnf)
      | ((with_reducible refine ckI ?_ ?_); (· first | exact vp_c rfl | exact ⟨_, rfl⟩ | exact Or.inl rfl | exact Or.inr rfl | exact b2_01 _); conv => whnf)
      | ((with_reducible apply cl_p); (case hM => with_reducible exact c9_finding1 _ _); (case hc => exact rfl); (case hd => decide); conv => whnf)
      | ((with_reducible apply cl_p); (case hM => with_reducible exact c9_finding2 _ _); (case hc => exact rfl); (case hd => decide); conv => whnf)
      | ((with_reducible apply cl_p); (case hM => with_reducible exact c9_finding3 _ _); (case hc => exact rfl); (case hd => decide); conv => whnf)
      | ((with_reducible apply cl_p); (case hM => with_reducible exact c9_finding4 _ _); (case hc => exact rfl); (case hd => decide); conv => whnf)
      | ((with_reducible apply cl_p); (case hM => with_reducible exact c9_finding5 _ _); (case hc => exact rfl); (case hd => decide); conv => whnf)
      | ((with_reducible apply cl_p); (case hM => with_reducible exact c9_within _ _ _ _ _); (case hc => exact rfl); (case hd => decide); conv => whnf)
      | with_reducible refine Pm9.of ?_ ?_
      | ((with_reducible refine ckJ ?_ ?_); conv => whnf)
      | fail
    all_goals trace_state
    all_goals sorry
  · refine Mt_of ck_X9_told mf_223 rfl ?_
    clear hW hN
    repeat' first
      | ((with_reducible refine gow ck_X9_told _ [] ?_); conv => whnf)
      | ((with_reducible refine bn_t ?_ ?_); (· assumption); conv => whnf)
      | ((with_reducible refine bn_f ?_ ?_); (· assumption); conv => whnf)
      | ((with_reducible refine bc_t ?_ ?_); (· assumption); conv => whnf)
      | ((with_reducible refine bc_f ?_ ?_); (· assumption); conv => whnf)
      | ((with_reducible refine br_t ?_ ?_); (· assumption); conv => whnf)
      | ((with_reducible refine br_f ?_ ?_); (· assumption); conv => whnf)
      | ((with_reducible refine br_nt ?_ ?_); (· assumption); conv => whnf)
      | ((with_reducible refine br_nf ?_ ?_); (· assumption); conv => whnf)
      | ((with_reducible refine ckI ?_ ?_); (· first | exact vp_c rfl | exact ⟨_, rfl⟩ | exact Or.inl rfl | exact Or.inr rfl | exact b2_01 _); conv => whnf)
      | ((with_reducible apply cl_p); (case hM => with_reducible exact c9_finding1 _ _); (case hc => exact rfl); (case hd => decide); conv => whnf)
      | ((with_reducible apply cl_p); (case hM => with_reducible exact c9_finding2 _ _); (case hc => exact rfl); (case hd => decide); conv => whnf)
      | ((with_reducible apply cl_p); (case hM => with_reducible exact c9_finding3 _ _); (case hc => exact rfl); (case hd => decide); conv => whnf)
      | ((with_reducible apply cl_p); (case hM => with_reducible exact c9_finding4 _ _); (case hc => exact rfl); (case hd => decide); conv => whnf)
      | ((with_reducible apply cl_p); (case hM => with_reducible exact c9_finding5 _ _); (case hc => exact rfl); (case hd => decide); conv => whnf)
      | ((with_reducible apply cl_p); (case hM => with_reducible exact c9_within _ _ _ _ _); (case hc => exact rfl); (case hd => decide); conv => whnf)
      | with_reducible refine Pm9.of ?_ ?_
      | ((with_reducible refine ckJ ?_ ?_); conv => whnf)
      | fail
    · exact congrArg (Prod.mk _) mp73.symm
    · (intro i hi; repeat rw [lo_wr hi (by decide)])
theorem r_trace (X : Cx) (μ : Mem) (i : Int32) (hW : WFS (mp μ)) : Mt X m_X9_trace 1 [.ref 70, .int i] μ (Pm9 μ (sp_trace (mp μ) i)) := by
  have hN : WN (mp μ 1) := hW.1
  unfold sp_trace
  (repeat' split)
  · refine Mt_of ck_X9_trace mf_210 rfl ?_
    clear hW hN
    repeat' first
      | ((with_reducible refine gow ck_X9_trace _ [] ?_); conv => whnf)
      | ((with_reducible refine bn_t ?_ ?_); (· assumption); conv => whnf)
      | ((with_reducible refine bn_f ?_ ?_); (· assumption); conv => whnf)
      | ((with_reducible refine bc_t ?_ ?_); (· assumption); conv => whnf)
      | ((with_reducible refine bc_f ?_ ?_); (· assumption); conv => whnf)
      | ((with_reducible refine br_t ?_ ?_); (· assumption); conv => whnf)
      | ((with_reducible refine br_f ?_ ?_); (· assumption); conv => whnf)
      | ((with_reducible refine br_nt ?_ ?_); (· assumption); conv => whnf)
      | ((with_reducible refine br_nf ?_ ?_); (· assumption); conv => whnf)
      | ((with_reducible refine ckI ?_ ?_); (· first | exact vp_c rfl | exact ⟨_, rfl⟩ | exact Or.inl rfl | exact Or.inr rfl | exact b2_01 _); conv => whnf)
      | ((with_reducible apply cl_p); (case hM => with_reducible exact c9_finding1 _ _); (case hc => exact rfl); (case hd => decide); conv => whnf)
      | ((with_reducible apply cl_p); (case hM => with_reducible exact c9_finding2 _ _); (case hc => exact rfl); (case hd => decide); conv => whnf)
      | ((with_reducible apply cl_p); (case hM => with_reducible exact c9_finding3 _ _); (case hc => exact rfl); (case hd => decide); conv => whnf)
      | ((with_reducible apply cl_p); (case hM => with_reducible exact c9_finding4 _ _); (case hc => exact rfl); (case hd => decide); conv => whnf)
      | ((with_reducible apply cl_p); (case hM => with_reducible exact c9_finding5 _ _); (case hc => exact rfl); (case hd => decide); conv => whnf)
      | ((with_reducible apply cl_p); (case hM => with_reducible exact c9_within _ _ _ _ _); (case hc => exact rfl); (case hd => decide); conv => whnf)
      | with_reducible refine Pm9.of ?_ ?_
      | ((with_reducible refine ckJ ?_ ?_); conv => whnf)
      | fail
    all_goals trace_state
    all_goals sorry
  · refine Mt_of ck_X9_trace mf_210 rfl ?_
    clear hW hN
    repeat' first
      | ((with_reducible refine gow ck_X9_trace _ [] ?_); conv => whnf)
      | ((with_reducible refine bn_t ?_ ?_); (· assumption); conv => whnf)
      | ((with_reducible refine bn_f ?_ ?_); (· assumption); conv => whnf)
      | ((with_reducible refine bc_t ?_ ?_); (· assumption); conv => whnf)
      | ((with_reducible refine bc_f ?_ ?_); (· assumption); conv => whnf)
      | ((with_reducible refine br_t ?_ ?_); (· assumption); conv => whnf)
      | ((with_reducible refine br_f ?_ ?_); (· assumption); conv => whnf)
      | ((with_reducible refine br_nt ?_ ?_); (· assumption); conv => whnf)
      | ((with_reducible refine br_nf ?_ ?_); (· assumption); conv => whnf)
      | ((with_reducible refine ckI ?_ ?_); (· first | exact vp_c rfl | exact ⟨_, rfl⟩ | exact Or.inl rfl | exact Or.inr rfl | exact b2_01 _); conv => whnf)
      | ((with_reducible apply cl_p); (case hM => with_reducible exact c9_finding1 _ _); (case hc => exact rfl); (case hd => decide); conv => whnf)
      | ((with_reducible apply cl_p); (case hM => with_reducible exact c9_finding2 _ _); (case hc => exact rfl); (case hd => decide); conv => whnf)
      | ((with_reducible apply cl_p); (case hM => with_reducible exact c9_finding3 _ _); (case hc => exact rfl); (case hd => decide); conv => whnf)
      | ((with_reducible apply cl_p); (case hM => with_reducible exact c9_finding4 _ _); (case hc => exact rfl); (case hd => decide); conv => whnf)
      | ((with_reducible apply cl_p); (case hM => with_reducible exact c9_finding5 _ _); (case hc => exact rfl); (case hd => decide); conv => whnf)
      | ((with_reducible apply cl_p); (case hM => with_reducible exact c9_within _ _ _ _ _); (case hc => exact rfl); (case hd => decide); conv => whnf)
      | with_reducible refine Pm9.of ?_ ?_
      | ((with_reducible refine ckJ ?_ ?_); conv => whnf)
      | fail
    · exact congrArg (Prod.mk _) mp73.symm
    · (intro i hi; repeat rw [lo_wr hi (by decide)])
