theorem r_place (X : Cx) (μ : Mem) (v : Int32) (hW : WFS (mp μ)) : Mt X m_X9_place 2 [.ref 70, .int v] μ (Pm9 μ (sp_place (mp μ) v)) := by
  have hN : WN (mp μ 1) := hW.1
  have w1 : 0 ≤ (μ 71 1).toInt ∧ (μ 71 1).toInt ≤ 7 := hN.2.1
  unfold sp_place
  (repeat' split)
  · refine Mt_of ck_X9_place mf_153 rfl ?_
    clear hW hN
    repeat' first
      | ((with_reducible refine gow ck_X9_place _ [] ?_); conv => whnf)
      | ((with_reducible refine bn_t ?_ ?_); (· first | assumption | decide); conv => whnf)
      | ((with_reducible refine bn_f ?_ ?_); (· first | assumption | decide); conv => whnf)
      | ((with_reducible refine bc_t ?_ ?_); (· first | assumption | decide); conv => whnf)
      | ((with_reducible refine bc_f ?_ ?_); (· first | assumption | decide); conv => whnf)
      | ((with_reducible refine br_t ?_ ?_); (· first | assumption | decide); conv => whnf)
      | ((with_reducible refine br_f ?_ ?_); (· first | assumption | decide); conv => whnf)
      | ((with_reducible refine br_nt ?_ ?_); (· first | assumption | decide); conv => whnf)
      | ((with_reducible refine br_nf ?_ ?_); (· first | assumption | decide); conv => whnf)
      | ((with_reducible refine ckI ?_ ?_); (· first | ((with_reducible refine vp_in_nI ?_ ?_); (· omega); (· decide)) | exact vp_c (by decide) | exact ⟨_, rfl⟩ | exact Or.inl rfl | exact Or.inr rfl | exact b2_01 _); conv => whnf)
      | ((with_reducible apply cl_p); (case hM => with_reducible exact c9_finding1 _ _); (case hc => exact rfl); (case hd => decide); conv => whnf)
      | ((with_reducible apply cl_p); (case hM => with_reducible exact c9_finding2 _ _); (case hc => exact rfl); (case hd => decide); conv => whnf)
      | ((with_reducible apply cl_p); (case hM => with_reducible exact c9_finding3 _ _); (case hc => exact rfl); (case hd => decide); conv => whnf)
      | ((with_reducible apply cl_p); (case hM => with_reducible exact c9_finding4 _ _); (case hc => exact rfl); (case hd => decide); conv => whnf)
      | ((with_reducible apply cl_p); (case hM => with_reducible exact c9_finding5 _ _); (case hc => exact rfl); (case hd => decide); conv => whnf)
      | ((with_reducible apply cl_p); (case hM => with_reducible exact c9_isFar _ _ _); (case hc => exact rfl); (case hd => decide); conv => whnf)
      | with_reducible refine Pm9.of ?_ ?_
      | ((with_reducible refine ckJ ?_ ?_); conv => whnf)
      | fail
    all_goals try simp (disch := omega) only [ev, ew, e1, e2, e3, nI_clamp, Int32.reduceToNatClampNeg]
    all_goals first | with_reducible rfl | with_reducible assumption | (simp (disch := omega) only [er, taIx, nI_toInt, Int.toNat_natCast, nI_clamp, mpa_0, mpa_1, mpa_2, mpa_3, mpa_9, mpa_10, mpa_11, mpa_12, mp70, mp71, mp72, mp73, mp79, mp80, mp81, mp82, wr_wr, wr_same, Int32.reduceToNatClampNeg, Int32.reduceToInt, Int.reduceToNat]; done) | (simp (disch := omega) only [er, taIx, nI_toInt, Int.toNat_natCast, nI_clamp, mpa_0, mpa_1, mpa_2, mpa_3, mpa_9, mpa_10, mpa_11, mpa_12, mp70, mp71, mp72, mp73, mp79, mp80, mp81, mp82, wr_wr, wr_same, Int32.reduceToNatClampNeg, Int32.reduceToInt, Int.reduceToNat]; with_reducible rfl) | (intro i hi; first | rfl | (simp (disch := omega) only [lo_wr, lo_sf]; done)) | decide | (refine vp_t ?_ ?_ <;> ((try simp (disch := omega) only [er, Int32.toInt_add, Int32.toInt_mul, Int32.toInt_sub, Int.bmod_def, Int32.reduceToInt, nI_toInt, Int32.reduceToNatClampNeg, ev, ew] at *); omega)) | rfl
  · have c1 : (6 + μ 71 1).toNatClampNeg = 6 + nP (mp μ 1) := by simp only [tnc, nP, Int32.toInt_add, Int32.toInt_mul, Int.bmod_def, Int32.reduceToInt, mp, Nat.reduceAdd]; omega
    refine Mt_of ck_X9_place mf_153 rfl ?_
    clear hW hN
    repeat' first
      | ((with_reducible refine gow ck_X9_place _ [] ?_); conv => whnf)
      | ((with_reducible refine bn_t ?_ ?_); (· first | assumption | decide); conv => whnf)
      | ((with_reducible refine bn_f ?_ ?_); (· first | assumption | decide); conv => whnf)
      | ((with_reducible refine bc_t ?_ ?_); (· first | assumption | decide); conv => whnf)
      | ((with_reducible refine bc_f ?_ ?_); (· first | assumption | decide); conv => whnf)
      | ((with_reducible refine br_t ?_ ?_); (· first | assumption | decide); conv => whnf)
      | ((with_reducible refine br_f ?_ ?_); (· first | assumption | decide); conv => whnf)
      | ((with_reducible refine br_nt ?_ ?_); (· first | assumption | decide); conv => whnf)
      | ((with_reducible refine br_nf ?_ ?_); (· first | assumption | decide); conv => whnf)
      | ((with_reducible refine ckI ?_ ?_); (· first | ((with_reducible refine vp_in_nI ?_ ?_); (· omega); (· decide)) | exact vp_c (by decide) | exact ⟨_, rfl⟩ | exact Or.inl rfl | exact Or.inr rfl | exact b2_01 _); conv => whnf)
      | ((with_reducible apply cl_p); (case hM => with_reducible exact c9_finding1 _ _); (case hc => exact rfl); (case hd => decide); conv => whnf)
      | ((with_reducible apply cl_p); (case hM => with_reducible exact c9_finding2 _ _); (case hc => exact rfl); (case hd => decide); conv => whnf)
      | ((with_reducible apply cl_p); (case hM => with_reducible exact c9_finding3 _ _); (case hc => exact rfl); (case hd => decide); conv => whnf)
      | ((with_reducible apply cl_p); (case hM => with_reducible exact c9_finding4 _ _); (case hc => exact rfl); (case hd => decide); conv => whnf)
      | ((with_reducible apply cl_p); (case hM => with_reducible exact c9_finding5 _ _); (case hc => exact rfl); (case hd => decide); conv => whnf)
      | ((with_reducible apply cl_p); (case hM => with_reducible exact c9_isFar _ _ _); (case hc => exact rfl); (case hd => decide); conv => whnf)
      | with_reducible refine Pm9.of ?_ ?_
      | ((with_reducible refine ckJ ?_ ?_); conv => whnf)
      | fail
    all_goals try simp (disch := omega) only [ev, ew, e1, e2, e3, nI_clamp, Int32.reduceToNatClampNeg]
    all_goals first | with_reducible rfl | with_reducible assumption | (simp (disch := omega) only [c1, er, taIx, nI_toInt, Int.toNat_natCast, nI_clamp, mpa_0, mpa_1, mpa_2, mpa_3, mpa_9, mpa_10, mpa_11, mpa_12, mp70, mp71, mp72, mp73, mp79, mp80, mp81, mp82, wr_wr, wr_same, Int32.reduceToNatClampNeg, Int32.reduceToInt, Int.reduceToNat]; done) | (simp (disch := omega) only [c1, er, taIx, nI_toInt, Int.toNat_natCast, nI_clamp, mpa_0, mpa_1, mpa_2, mpa_3, mpa_9, mpa_10, mpa_11, mpa_12, mp70, mp71, mp72, mp73, mp79, mp80, mp81, mp82, wr_wr, wr_same, Int32.reduceToNatClampNeg, Int32.reduceToInt, Int.reduceToNat]; with_reducible rfl) | (intro i hi; first | rfl | (simp (disch := omega) only [lo_wr, lo_sf]; done)) | decide | (refine vp_t ?_ ?_ <;> ((try simp (disch := omega) only [c1, er, Int32.toInt_add, Int32.toInt_mul, Int32.toInt_sub, Int.bmod_def, Int32.reduceToInt, nI_toInt, Int32.reduceToNatClampNeg, ev, ew] at *); omega)) | rfl
  · refine Mt_of ck_X9_place mf_153 rfl ?_
    clear hW hN
    repeat' first
      | ((with_reducible refine gow ck_X9_place _ [] ?_); conv => whnf)
      | ((with_reducible refine bn_t ?_ ?_); (· first | assumption | decide); conv => whnf)
      | ((with_reducible refine bn_f ?_ ?_); (· first | assumption | decide); conv => whnf)
      | ((with_reducible refine bc_t ?_ ?_); (· first | assumption | decide); conv => whnf)
      | ((with_reducible refine bc_f ?_ ?_); (· first | assumption | decide); conv => whnf)
      | ((with_reducible refine br_t ?_ ?_); (· first | assumption | decide); conv => whnf)
      | ((with_reducible refine br_f ?_ ?_); (· first | assumption | decide); conv => whnf)
      | ((with_reducible refine br_nt ?_ ?_); (· first | assumption | decide); conv => whnf)
      | ((with_reducible refine br_nf ?_ ?_); (· first | assumption | decide); conv => whnf)
      | ((with_reducible refine ckI ?_ ?_); (· first | ((with_reducible refine vp_in_nI ?_ ?_); (· omega); (· decide)) | exact vp_c (by decide) | exact ⟨_, rfl⟩ | exact Or.inl rfl | exact Or.inr rfl | exact b2_01 _); conv => whnf)
      | ((with_reducible apply cl_p); (case hM => with_reducible exact c9_finding1 _ _); (case hc => exact rfl); (case hd => decide); conv => whnf)
      | ((with_reducible apply cl_p); (case hM => with_reducible exact c9_finding2 _ _); (case hc => exact rfl); (case hd => decide); conv => whnf)
      | ((with_reducible apply cl_p); (case hM => with_reducible exact c9_finding3 _ _); (case hc => exact rfl); (case hd => decide); conv => whnf)
      | ((with_reducible apply cl_p); (case hM => with_reducible exact c9_finding4 _ _); (case hc => exact rfl); (case hd => decide); conv => whnf)
      | ((with_reducible apply cl_p); (case hM => with_reducible exact c9_finding5 _ _); (case hc => exact rfl); (case hd => decide); conv => whnf)
      | ((with_reducible apply cl_p); (case hM => with_reducible exact c9_isFar _ _ _); (case hc => exact rfl); (case hd => decide); conv => whnf)
      | with_reducible refine Pm9.of ?_ ?_
      | ((with_reducible refine ckJ ?_ ?_); conv => whnf)
      | fail
    all_goals try simp (disch := omega) only [ev, ew, e1, e2, e3, nI_clamp, Int32.reduceToNatClampNeg]
    all_goals first | with_reducible rfl | with_reducible assumption | (simp (disch := omega) only [er, taIx, nI_toInt, Int.toNat_natCast, nI_clamp, mpa_0, mpa_1, mpa_2, mpa_3, mpa_9, mpa_10, mpa_11, mpa_12, mp70, mp71, mp72, mp73, mp79, mp80, mp81, mp82, wr_wr, wr_same, Int32.reduceToNatClampNeg, Int32.reduceToInt, Int.reduceToNat]; done) | (simp (disch := omega) only [er, taIx, nI_toInt, Int.toNat_natCast, nI_clamp, mpa_0, mpa_1, mpa_2, mpa_3, mpa_9, mpa_10, mpa_11, mpa_12, mp70, mp71, mp72, mp73, mp79, mp80, mp81, mp82, wr_wr, wr_same, Int32.reduceToNatClampNeg, Int32.reduceToInt, Int.reduceToNat]; with_reducible rfl) | (intro i hi; first | rfl | (simp (disch := omega) only [lo_wr, lo_sf]; done)) | decide | (refine vp_t ?_ ?_ <;> ((try simp (disch := omega) only [er, Int32.toInt_add, Int32.toInt_mul, Int32.toInt_sub, Int.bmod_def, Int32.reduceToInt, nI_toInt, Int32.reduceToNatClampNeg, ev, ew] at *); omega)) | rfl
theorem r_doubt (X : Cx) (μ : Mem) (p v : Int32) (hW : WFS (mp μ)) : Mt X m_X9_doubt 2 [.ref 70, .int p, .int v] μ (Pm9 μ (sp_doubt (mp μ) p v)) := by
  have hN : WN (mp μ 1) := hW.1
  unfold sp_doubt
  (repeat' split)
  · obtain ⟨k, hk, rfl, hk2⟩ := in_P hN ‹isP (mp μ 1) p›
    refine Mt_of ck_X9_doubt mf_154 rfl ?_
    clear hW hN
    repeat' first
      | ((with_reducible refine gow ck_X9_doubt _ [] ?_); conv => whnf)
      | ((with_reducible refine bn_t ?_ ?_); (· first | assumption | decide); conv => whnf)
      | ((with_reducible refine bn_f ?_ ?_); (· first | assumption | decide); conv => whnf)
      | ((with_reducible refine bc_t ?_ ?_); (· first | assumption | decide); conv => whnf)
      | ((with_reducible refine bc_f ?_ ?_); (· first | assumption | decide); conv => whnf)
      | ((with_reducible refine br_t ?_ ?_); (· first | assumption | decide); conv => whnf)
      | ((with_reducible refine br_f ?_ ?_); (· first | assumption | decide); conv => whnf)
      | ((with_reducible refine br_nt ?_ ?_); (· first | assumption | decide); conv => whnf)
      | ((with_reducible refine br_nf ?_ ?_); (· first | assumption | decide); conv => whnf)
      | ((with_reducible refine ckI ?_ ?_); (· first | ((with_reducible refine vp_in_nI ?_ ?_); (· omega); (· decide)) | exact vp_c (by decide) | exact ⟨_, rfl⟩ | exact Or.inl rfl | exact Or.inr rfl | exact b2_01 _); conv => whnf)
      | ((with_reducible apply cl_p); (case hM => with_reducible exact c9_finding1 _ _); (case hc => exact rfl); (case hd => decide); conv => whnf)
      | ((with_reducible apply cl_p); (case hM => with_reducible exact c9_finding2 _ _); (case hc => exact rfl); (case hd => decide); conv => whnf)
      | ((with_reducible apply cl_p); (case hM => with_reducible exact c9_finding3 _ _); (case hc => exact rfl); (case hd => decide); conv => whnf)
      | ((with_reducible apply cl_p); (case hM => with_reducible exact c9_finding4 _ _); (case hc => exact rfl); (case hd => decide); conv => whnf)
      | ((with_reducible apply cl_p); (case hM => with_reducible exact c9_finding5 _ _); (case hc => exact rfl); (case hd => decide); conv => whnf)
      | ((with_reducible apply cl_p); (case hM => with_reducible exact c9_isPlace _ _ _); (case hc => exact rfl); (case hd => decide); conv => whnf)
      | ((with_reducible apply cl_p); (case hM => with_reducible exact c9_isFar _ _ _); (case hc => exact rfl); (case hd => decide); conv => whnf)
      | ((with_reducible apply cl_p); (case hM => exact c9_turn _ _ _ _ (6 + k) (nI_add 6 k) (by omega)); (case hc => exact rfl); (case hd => decide); conv => whnf)
      | with_reducible refine Pm9.of ?_ ?_
      | ((with_reducible refine ckJ ?_ ?_); conv => whnf)
      | fail
    all_goals try simp (disch := omega) only [ev, ew, e1, e2, e3, nI_clamp, Int32.reduceToNatClampNeg]
    all_goals first | with_reducible rfl | with_reducible assumption | (simp (disch := omega) only [er, taIx, nI_toInt, Int.toNat_natCast, nI_clamp, mpa_0, mpa_1, mpa_2, mpa_3, mpa_9, mpa_10, mpa_11, mpa_12, mp70, mp71, mp72, mp73, mp79, mp80, mp81, mp82, wr_wr, wr_same, Int32.reduceToNatClampNeg, Int32.reduceToInt, Int.reduceToNat]; done) | (simp (disch := omega) only [er, taIx, nI_toInt, Int.toNat_natCast, nI_clamp, mpa_0, mpa_1, mpa_2, mpa_3, mpa_9, mpa_10, mpa_11, mpa_12, mp70, mp71, mp72, mp73, mp79, mp80, mp81, mp82, wr_wr, wr_same, Int32.reduceToNatClampNeg, Int32.reduceToInt, Int.reduceToNat]; with_reducible rfl) | (intro i hi; first | rfl | (simp (disch := omega) only [lo_wr, lo_sf]; done)) | decide | (refine vp_t ?_ ?_ <;> ((try simp (disch := omega) only [er, Int32.toInt_add, Int32.toInt_mul, Int32.toInt_sub, Int.bmod_def, Int32.reduceToInt, nI_toInt, Int32.reduceToNatClampNeg, ev, ew] at *); omega)) | rfl
  · obtain ⟨k, hk, rfl, hk2⟩ := in_P hN ‹isP (mp μ 1) p›
    refine Mt_of ck_X9_doubt mf_154 rfl ?_
    clear hW hN
    repeat' first
      | ((with_reducible refine gow ck_X9_doubt _ [] ?_); conv => whnf)
      | ((with_reducible refine bn_t ?_ ?_); (· first | assumption | decide); conv => whnf)
      | ((with_reducible refine bn_f ?_ ?_); (· first | assumption | decide); conv => whnf)
      | ((with_reducible refine bc_t ?_ ?_); (· first | assumption | decide); conv => whnf)
      | ((with_reducible refine bc_f ?_ ?_); (· first | assumption | decide); conv => whnf)
      | ((with_reducible refine br_t ?_ ?_); (· first | assumption | decide); conv => whnf)
      | ((with_reducible refine br_f ?_ ?_); (· first | assumption | decide); conv => whnf)
      | ((with_reducible refine br_nt ?_ ?_); (· first | assumption | decide); conv => whnf)
      | ((with_reducible refine br_nf ?_ ?_); (· first | assumption | decide); conv => whnf)
      | ((with_reducible refine ckI ?_ ?_); (· first | ((with_reducible refine vp_in_nI ?_ ?_); (· omega); (· decide)) | exact vp_c (by decide) | exact ⟨_, rfl⟩ | exact Or.inl rfl | exact Or.inr rfl | exact b2_01 _); conv => whnf)
      | ((with_reducible apply cl_p); (case hM => with_reducible exact c9_finding1 _ _); (case hc => exact rfl); (case hd => decide); conv => whnf)
      | ((with_reducible apply cl_p); (case hM => with_reducible exact c9_finding2 _ _); (case hc => exact rfl); (case hd => decide); conv => whnf)
      | ((with_reducible apply cl_p); (case hM => with_reducible exact c9_finding3 _ _); (case hc => exact rfl); (case hd => decide); conv => whnf)
      | ((with_reducible apply cl_p); (case hM => with_reducible exact c9_finding4 _ _); (case hc => exact rfl); (case hd => decide); conv => whnf)
      | ((with_reducible apply cl_p); (case hM => with_reducible exact c9_finding5 _ _); (case hc => exact rfl); (case hd => decide); conv => whnf)
      | ((with_reducible apply cl_p); (case hM => with_reducible exact c9_isPlace _ _ _); (case hc => exact rfl); (case hd => decide); conv => whnf)
      | ((with_reducible apply cl_p); (case hM => with_reducible exact c9_isFar _ _ _); (case hc => exact rfl); (case hd => decide); conv => whnf)
      | ((with_reducible apply cl_p); (case hM => exact c9_turn _ _ _ _ (6 + k) (nI_add 6 k) (by omega)); (case hc => exact rfl); (case hd => decide); conv => whnf)
      | with_reducible refine Pm9.of ?_ ?_
      | ((with_reducible refine ckJ ?_ ?_); conv => whnf)
      | fail
    all_goals try simp (disch := omega) only [ev, ew, e1, e2, e3, nI_clamp, Int32.reduceToNatClampNeg]
    all_goals first | with_reducible rfl | with_reducible assumption | (simp (disch := omega) only [er, taIx, nI_toInt, Int.toNat_natCast, nI_clamp, mpa_0, mpa_1, mpa_2, mpa_3, mpa_9, mpa_10, mpa_11, mpa_12, mp70, mp71, mp72, mp73, mp79, mp80, mp81, mp82, wr_wr, wr_same, Int32.reduceToNatClampNeg, Int32.reduceToInt, Int.reduceToNat]; done) | (simp (disch := omega) only [er, taIx, nI_toInt, Int.toNat_natCast, nI_clamp, mpa_0, mpa_1, mpa_2, mpa_3, mpa_9, mpa_10, mpa_11, mpa_12, mp70, mp71, mp72, mp73, mp79, mp80, mp81, mp82, wr_wr, wr_same, Int32.reduceToNatClampNeg, Int32.reduceToInt, Int.reduceToNat]; with_reducible rfl) | (intro i hi; first | rfl | (simp (disch := omega) only [lo_wr, lo_sf]; done)) | decide | (refine vp_t ?_ ?_ <;> ((try simp (disch := omega) only [er, Int32.toInt_add, Int32.toInt_mul, Int32.toInt_sub, Int.bmod_def, Int32.reduceToInt, nI_toInt, Int32.reduceToNatClampNeg, ev, ew] at *); omega)) | rfl
  · refine Mt_of ck_X9_doubt mf_154 rfl ?_
    clear hW hN
    repeat' first
      | ((with_reducible refine gow ck_X9_doubt _ [] ?_); conv => whnf)
      | ((with_reducible refine bn_t ?_ ?_); (· first | assumption | decide); conv => whnf)
      | ((with_reducible refine bn_f ?_ ?_); (· first | assumption | decide); conv => whnf)
      | ((with_reducible refine bc_t ?_ ?_); (· first | assumption | decide); conv => whnf)
      | ((with_reducible refine bc_f ?_ ?_); (· first | assumption | decide); conv => whnf)
      | ((with_reducible refine br_t ?_ ?_); (· first | assumption | decide); conv => whnf)
      | ((with_reducible refine br_f ?_ ?_); (· first | assumption | decide); conv => whnf)
      | ((with_reducible refine br_nt ?_ ?_); (· first | assumption | decide); conv => whnf)
      | ((with_reducible refine br_nf ?_ ?_); (· first | assumption | decide); conv => whnf)
      | ((with_reducible refine ckI ?_ ?_); (· first | ((with_reducible refine vp_in_nI ?_ ?_); (· omega); (· decide)) | exact vp_c (by decide) | exact ⟨_, rfl⟩ | exact Or.inl rfl | exact Or.inr rfl | exact b2_01 _); conv => whnf)
      | ((with_reducible apply cl_p); (case hM => with_reducible exact c9_finding1 _ _); (case hc => exact rfl); (case hd => decide); conv => whnf)
      | ((with_reducible apply cl_p); (case hM => with_reducible exact c9_finding2 _ _); (case hc => exact rfl); (case hd => decide); conv => whnf)
      | ((with_reducible apply cl_p); (case hM => with_reducible exact c9_finding3 _ _); (case hc => exact rfl); (case hd => decide); conv => whnf)
      | ((with_reducible apply cl_p); (case hM => with_reducible exact c9_finding4 _ _); (case hc => exact rfl); (case hd => decide); conv => whnf)
      | ((with_reducible apply cl_p); (case hM => with_reducible exact c9_finding5 _ _); (case hc => exact rfl); (case hd => decide); conv => whnf)
      | ((with_reducible apply cl_p); (case hM => with_reducible exact c9_isPlace _ _ _); (case hc => exact rfl); (case hd => decide); conv => whnf)
      | ((with_reducible apply cl_p); (case hM => with_reducible exact c9_isFar _ _ _); (case hc => exact rfl); (case hd => decide); conv => whnf)
      | ((with_reducible apply cl_p); (case hM => exact c9_turn _ _ _ _ (6 + k) (nI_add 6 k) (by omega)); (case hc => exact rfl); (case hd => decide); conv => whnf)
      | with_reducible refine Pm9.of ?_ ?_
      | ((with_reducible refine ckJ ?_ ?_); conv => whnf)
      | fail
    all_goals try simp (disch := omega) only [ev, ew, e1, e2, e3, nI_clamp, Int32.reduceToNatClampNeg]
    all_goals first | with_reducible rfl | with_reducible assumption | (simp (disch := omega) only [er, taIx, nI_toInt, Int.toNat_natCast, nI_clamp, mpa_0, mpa_1, mpa_2, mpa_3, mpa_9, mpa_10, mpa_11, mpa_12, mp70, mp71, mp72, mp73, mp79, mp80, mp81, mp82, wr_wr, wr_same, Int32.reduceToNatClampNeg, Int32.reduceToInt, Int.reduceToNat]; done) | (simp (disch := omega) only [er, taIx, nI_toInt, Int.toNat_natCast, nI_clamp, mpa_0, mpa_1, mpa_2, mpa_3, mpa_9, mpa_10, mpa_11, mpa_12, mp70, mp71, mp72, mp73, mp79, mp80, mp81, mp82, wr_wr, wr_same, Int32.reduceToNatClampNeg, Int32.reduceToInt, Int.reduceToNat]; with_reducible rfl) | (intro i hi; first | rfl | (simp (disch := omega) only [lo_wr, lo_sf]; done)) | decide | (refine vp_t ?_ ?_ <;> ((try simp (disch := omega) only [er, Int32.toInt_add, Int32.toInt_mul, Int32.toInt_sub, Int.bmod_def, Int32.reduceToInt, nI_toInt, Int32.reduceToNatClampNeg, ev, ew] at *); omega)) | rfl
theorem r_seed (X : Cx) (μ : Mem) (v : Int32) (hW : WFS (mp μ)) : Mt X m_X9_seed 1 [.ref 70, .int v] μ (Pm9 μ (sp_seed (mp μ) v)) := by
  have hN : WN (mp μ 1) := hW.1
  unfold sp_seed
  (repeat' split)
  · refine Mt_of ck_X9_seed mf_202 rfl ?_
    clear hW hN
    repeat' first
      | ((with_reducible refine gow ck_X9_seed _ [] ?_); conv => whnf)
      | ((with_reducible refine bn_t ?_ ?_); (· first | assumption | decide); conv => whnf)
      | ((with_reducible refine bn_f ?_ ?_); (· first | assumption | decide); conv => whnf)
      | ((with_reducible refine bc_t ?_ ?_); (· first | assumption | decide); conv => whnf)
      | ((with_reducible refine bc_f ?_ ?_); (· first | assumption | decide); conv => whnf)
      | ((with_reducible refine br_t ?_ ?_); (· first | assumption | decide); conv => whnf)
      | ((with_reducible refine br_f ?_ ?_); (· first | assumption | decide); conv => whnf)
      | ((with_reducible refine br_nt ?_ ?_); (· first | assumption | decide); conv => whnf)
      | ((with_reducible refine br_nf ?_ ?_); (· first | assumption | decide); conv => whnf)
      | ((with_reducible refine ckI ?_ ?_); (· first | ((with_reducible refine vp_in_nI ?_ ?_); (· omega); (· decide)) | exact vp_c (by decide) | exact ⟨_, rfl⟩ | exact Or.inl rfl | exact Or.inr rfl | exact b2_01 _); conv => whnf)
      | ((with_reducible apply cl_p); (case hM => with_reducible exact c9_finding1 _ _); (case hc => exact rfl); (case hd => decide); conv => whnf)
      | ((with_reducible apply cl_p); (case hM => with_reducible exact c9_finding2 _ _); (case hc => exact rfl); (case hd => decide); conv => whnf)
      | ((with_reducible apply cl_p); (case hM => with_reducible exact c9_finding3 _ _); (case hc => exact rfl); (case hd => decide); conv => whnf)
      | ((with_reducible apply cl_p); (case hM => with_reducible exact c9_finding4 _ _); (case hc => exact rfl); (case hd => decide); conv => whnf)
      | ((with_reducible apply cl_p); (case hM => with_reducible exact c9_finding5 _ _); (case hc => exact rfl); (case hd => decide); conv => whnf)
      | ((with_reducible apply cl_p); (case hM => exact c9_turn _ _ _ _ 3 rfl (by decide)); (case hc => exact rfl); (case hd => decide); conv => whnf)
      | with_reducible refine Pm9.of ?_ ?_
      | ((with_reducible refine ckJ ?_ ?_); conv => whnf)
      | fail
    all_goals try simp (disch := omega) only [ev, ew, e1, e2, e3, nI_clamp, Int32.reduceToNatClampNeg]
    all_goals first | with_reducible rfl | with_reducible assumption | (simp (disch := omega) only [er, taIx, nI_toInt, Int.toNat_natCast, nI_clamp, mpa_0, mpa_1, mpa_2, mpa_3, mpa_9, mpa_10, mpa_11, mpa_12, mp70, mp71, mp72, mp73, mp79, mp80, mp81, mp82, wr_wr, wr_same, Int32.reduceToNatClampNeg, Int32.reduceToInt, Int.reduceToNat]; done) | (simp (disch := omega) only [er, taIx, nI_toInt, Int.toNat_natCast, nI_clamp, mpa_0, mpa_1, mpa_2, mpa_3, mpa_9, mpa_10, mpa_11, mpa_12, mp70, mp71, mp72, mp73, mp79, mp80, mp81, mp82, wr_wr, wr_same, Int32.reduceToNatClampNeg, Int32.reduceToInt, Int.reduceToNat]; with_reducible rfl) | (intro i hi; first | rfl | (simp (disch := omega) only [lo_wr, lo_sf]; done)) | decide | (refine vp_t ?_ ?_ <;> ((try simp (disch := omega) only [er, Int32.toInt_add, Int32.toInt_mul, Int32.toInt_sub, Int.bmod_def, Int32.reduceToInt, nI_toInt, Int32.reduceToNatClampNeg, ev, ew] at *); omega)) | rfl
theorem r_tell (X : Cx) (μ : Mem) (v : Int32) (hW : WFS (mp μ)) : Mt X m_X9_tell 1 [.ref 70, .int v] μ (Pm9 μ (sp_tell (mp μ) v)) := by
  have hN : WN (mp μ 1) := hW.1
  have w5 : 0 ≤ (μ 71 5).toInt ∧ (μ 71 5).toInt ≤ 20 := hN.2.2.2.2.1
  unfold sp_tell
  (repeat' split)
  · refine Mt_of ck_X9_tell mf_219 rfl ?_
    clear hW hN
    repeat' first
      | ((with_reducible refine gow ck_X9_tell _ [] ?_); conv => whnf)
      | ((with_reducible refine bn_t ?_ ?_); (· first | assumption | decide); conv => whnf)
      | ((with_reducible refine bn_f ?_ ?_); (· first | assumption | decide); conv => whnf)
      | ((with_reducible refine bc_t ?_ ?_); (· first | assumption | decide); conv => whnf)
      | ((with_reducible refine bc_f ?_ ?_); (· first | assumption | decide); conv => whnf)
      | ((with_reducible refine br_t ?_ ?_); (· first | assumption | decide); conv => whnf)
      | ((with_reducible refine br_f ?_ ?_); (· first | assumption | decide); conv => whnf)
      | ((with_reducible refine br_nt ?_ ?_); (· first | assumption | decide); conv => whnf)
      | ((with_reducible refine br_nf ?_ ?_); (· first | assumption | decide); conv => whnf)
      | ((with_reducible refine ckI ?_ ?_); (· first | ((with_reducible refine vp_in_nI ?_ ?_); (· omega); (· decide)) | exact vp_c (by decide) | exact ⟨_, rfl⟩ | exact Or.inl rfl | exact Or.inr rfl | exact b2_01 _); conv => whnf)
      | ((with_reducible apply cl_p); (case hM => with_reducible exact c9_finding1 _ _); (case hc => exact rfl); (case hd => decide); conv => whnf)
      | ((with_reducible apply cl_p); (case hM => with_reducible exact c9_finding2 _ _); (case hc => exact rfl); (case hd => decide); conv => whnf)
      | ((with_reducible apply cl_p); (case hM => with_reducible exact c9_finding3 _ _); (case hc => exact rfl); (case hd => decide); conv => whnf)
      | ((with_reducible apply cl_p); (case hM => with_reducible exact c9_finding4 _ _); (case hc => exact rfl); (case hd => decide); conv => whnf)
      | ((with_reducible apply cl_p); (case hM => with_reducible exact c9_finding5 _ _); (case hc => exact rfl); (case hd => decide); conv => whnf)
      | with_reducible refine Pm9.of ?_ ?_
      | ((with_reducible refine ckJ ?_ ?_); conv => whnf)
      | fail
    all_goals try simp (disch := omega) only [ev, ew, e1, e2, e3, nI_clamp, Int32.reduceToNatClampNeg]
    all_goals first | with_reducible rfl | with_reducible assumption | (simp (disch := omega) only [er, taIx, nI_toInt, Int.toNat_natCast, nI_clamp, mpa_0, mpa_1, mpa_2, mpa_3, mpa_9, mpa_10, mpa_11, mpa_12, mp70, mp71, mp72, mp73, mp79, mp80, mp81, mp82, wr_wr, wr_same, Int32.reduceToNatClampNeg, Int32.reduceToInt, Int.reduceToNat]; done) | (simp (disch := omega) only [er, taIx, nI_toInt, Int.toNat_natCast, nI_clamp, mpa_0, mpa_1, mpa_2, mpa_3, mpa_9, mpa_10, mpa_11, mpa_12, mp70, mp71, mp72, mp73, mp79, mp80, mp81, mp82, wr_wr, wr_same, Int32.reduceToNatClampNeg, Int32.reduceToInt, Int.reduceToNat]; with_reducible rfl) | (intro i hi; first | rfl | (simp (disch := omega) only [lo_wr, lo_sf]; done)) | decide | (refine vp_t ?_ ?_ <;> ((try simp (disch := omega) only [er, Int32.toInt_add, Int32.toInt_mul, Int32.toInt_sub, Int.bmod_def, Int32.reduceToInt, nI_toInt, Int32.reduceToNatClampNeg, ev, ew] at *); omega)) | rfl
  · have c1 : (203 + μ 71 5).toNatClampNeg = 203 + (mp μ 1 5).toInt.toNat := by simp only [tnc, nP, Int32.toInt_add, Int32.toInt_mul, Int.bmod_def, Int32.reduceToInt, mp, Nat.reduceAdd]; omega
    refine Mt_of ck_X9_tell mf_219 rfl ?_
    clear hW hN
    repeat' first
      | ((with_reducible refine gow ck_X9_tell _ [] ?_); conv => whnf)
      | ((with_reducible refine bn_t ?_ ?_); (· first | assumption | decide); conv => whnf)
      | ((with_reducible refine bn_f ?_ ?_); (· first | assumption | decide); conv => whnf)
      | ((with_reducible refine bc_t ?_ ?_); (· first | assumption | decide); conv => whnf)
      | ((with_reducible refine bc_f ?_ ?_); (· first | assumption | decide); conv => whnf)
      | ((with_reducible refine br_t ?_ ?_); (· first | assumption | decide); conv => whnf)
      | ((with_reducible refine br_f ?_ ?_); (· first | assumption | decide); conv => whnf)
      | ((with_reducible refine br_nt ?_ ?_); (· first | assumption | decide); conv => whnf)
      | ((with_reducible refine br_nf ?_ ?_); (· first | assumption | decide); conv => whnf)
      | ((with_reducible refine ckI ?_ ?_); (· first | ((with_reducible refine vp_in_nI ?_ ?_); (· omega); (· decide)) | exact vp_c (by decide) | exact ⟨_, rfl⟩ | exact Or.inl rfl | exact Or.inr rfl | exact b2_01 _); conv => whnf)
      | ((with_reducible apply cl_p); (case hM => with_reducible exact c9_finding1 _ _); (case hc => exact rfl); (case hd => decide); conv => whnf)
      | ((with_reducible apply cl_p); (case hM => with_reducible exact c9_finding2 _ _); (case hc => exact rfl); (case hd => decide); conv => whnf)
      | ((with_reducible apply cl_p); (case hM => with_reducible exact c9_finding3 _ _); (case hc => exact rfl); (case hd => decide); conv => whnf)
      | ((with_reducible apply cl_p); (case hM => with_reducible exact c9_finding4 _ _); (case hc => exact rfl); (case hd => decide); conv => whnf)
      | ((with_reducible apply cl_p); (case hM => with_reducible exact c9_finding5 _ _); (case hc => exact rfl); (case hd => decide); conv => whnf)
      | with_reducible refine Pm9.of ?_ ?_
      | ((with_reducible refine ckJ ?_ ?_); conv => whnf)
      | fail
    all_goals try simp (disch := omega) only [ev, ew, e1, e2, e3, nI_clamp, Int32.reduceToNatClampNeg]
    all_goals first | with_reducible rfl | with_reducible assumption | (simp (disch := omega) only [c1, er, taIx, nI_toInt, Int.toNat_natCast, nI_clamp, mpa_0, mpa_1, mpa_2, mpa_3, mpa_9, mpa_10, mpa_11, mpa_12, mp70, mp71, mp72, mp73, mp79, mp80, mp81, mp82, wr_wr, wr_same, Int32.reduceToNatClampNeg, Int32.reduceToInt, Int.reduceToNat]; done) | (simp (disch := omega) only [c1, er, taIx, nI_toInt, Int.toNat_natCast, nI_clamp, mpa_0, mpa_1, mpa_2, mpa_3, mpa_9, mpa_10, mpa_11, mpa_12, mp70, mp71, mp72, mp73, mp79, mp80, mp81, mp82, wr_wr, wr_same, Int32.reduceToNatClampNeg, Int32.reduceToInt, Int.reduceToNat]; with_reducible rfl) | (intro i hi; first | rfl | (simp (disch := omega) only [lo_wr, lo_sf]; done)) | decide | (refine vp_t ?_ ?_ <;> ((try simp (disch := omega) only [c1, er, Int32.toInt_add, Int32.toInt_mul, Int32.toInt_sub, Int.bmod_def, Int32.reduceToInt, nI_toInt, Int32.reduceToNatClampNeg, ev, ew] at *); omega)) | rfl
theorem r_told (X : Cx) (μ : Mem) (k : Int32) (hW : WFS (mp μ)) : Mt X m_X9_told 1 [.ref 70, .int k] μ (Pm9 μ (sp_told (mp μ) k)) := by
  have hN : WN (mp μ 1) := hW.1
  unfold sp_told
  (repeat' split)
  · have h : 1 ≤ k ∧ k ≤ 5 := by assumption
    simp only [Int32.le_iff_toInt_le, Int32.reduceToInt] at h
    refine Mt_of ck_X9_told mf_223 rfl ?_
    clear hW hN
    repeat' first
      | ((with_reducible refine gow ck_X9_told _ [] ?_); conv => whnf)
      | ((with_reducible refine bn_t ?_ ?_); (· first | assumption | decide); conv => whnf)
      | ((with_reducible refine bn_f ?_ ?_); (· first | assumption | decide); conv => whnf)
      | ((with_reducible refine bc_t ?_ ?_); (· first | assumption | decide); conv => whnf)
      | ((with_reducible refine bc_f ?_ ?_); (· first | assumption | decide); conv => whnf)
      | ((with_reducible refine br_t ?_ ?_); (· first | assumption | decide); conv => whnf)
      | ((with_reducible refine br_f ?_ ?_); (· first | assumption | decide); conv => whnf)
      | ((with_reducible refine br_nt ?_ ?_); (· first | assumption | decide); conv => whnf)
      | ((with_reducible refine br_nf ?_ ?_); (· first | assumption | decide); conv => whnf)
      | ((with_reducible refine ckI ?_ ?_); (· first | ((with_reducible refine vp_in_nI ?_ ?_); (· omega); (· decide)) | exact vp_c (by decide) | exact ⟨_, rfl⟩ | exact Or.inl rfl | exact Or.inr rfl | exact b2_01 _); conv => whnf)
      | ((with_reducible apply cl_p); (case hM => with_reducible exact c9_finding1 _ _); (case hc => exact rfl); (case hd => decide); conv => whnf)
      | ((with_reducible apply cl_p); (case hM => with_reducible exact c9_finding2 _ _); (case hc => exact rfl); (case hd => decide); conv => whnf)
      | ((with_reducible apply cl_p); (case hM => with_reducible exact c9_finding3 _ _); (case hc => exact rfl); (case hd => decide); conv => whnf)
      | ((with_reducible apply cl_p); (case hM => with_reducible exact c9_finding4 _ _); (case hc => exact rfl); (case hd => decide); conv => whnf)
      | ((with_reducible apply cl_p); (case hM => with_reducible exact c9_finding5 _ _); (case hc => exact rfl); (case hd => decide); conv => whnf)
      | ((with_reducible apply cl_p); (case hM => with_reducible exact c9_within _ _ _ _ _); (case hc => exact rfl); (case hd => decide); conv => whnf)
      | with_reducible refine Pm9.of ?_ ?_
      | ((with_reducible refine ckJ ?_ ?_); conv => whnf)
      | fail
    all_goals try simp (disch := omega) only [ev, ew, e1, e2, e3, nI_clamp, Int32.reduceToNatClampNeg]
    all_goals first | with_reducible rfl | with_reducible assumption | (simp (disch := omega) only [er, taIx, nI_toInt, Int.toNat_natCast, nI_clamp, mpa_0, mpa_1, mpa_2, mpa_3, mpa_9, mpa_10, mpa_11, mpa_12, mp70, mp71, mp72, mp73, mp79, mp80, mp81, mp82, wr_wr, wr_same, Int32.reduceToNatClampNeg, Int32.reduceToInt, Int.reduceToNat]; done) | (simp (disch := omega) only [er, taIx, nI_toInt, Int.toNat_natCast, nI_clamp, mpa_0, mpa_1, mpa_2, mpa_3, mpa_9, mpa_10, mpa_11, mpa_12, mp70, mp71, mp72, mp73, mp79, mp80, mp81, mp82, wr_wr, wr_same, Int32.reduceToNatClampNeg, Int32.reduceToInt, Int.reduceToNat]; with_reducible rfl) | (intro i hi; first | rfl | (simp (disch := omega) only [lo_wr, lo_sf]; done)) | decide | (refine vp_t ?_ ?_ <;> ((try simp (disch := omega) only [er, Int32.toInt_add, Int32.toInt_mul, Int32.toInt_sub, Int.bmod_def, Int32.reduceToInt, nI_toInt, Int32.reduceToNatClampNeg, ev, ew] at *); omega)) | rfl
  · refine Mt_of ck_X9_told mf_223 rfl ?_
    clear hW hN
    repeat' first
      | ((with_reducible refine gow ck_X9_told _ [] ?_); conv => whnf)
      | ((with_reducible refine bn_t ?_ ?_); (· first | assumption | decide); conv => whnf)
      | ((with_reducible refine bn_f ?_ ?_); (· first | assumption | decide); conv => whnf)
      | ((with_reducible refine bc_t ?_ ?_); (· first | assumption | decide); conv => whnf)
      | ((with_reducible refine bc_f ?_ ?_); (· first | assumption | decide); conv => whnf)
      | ((with_reducible refine br_t ?_ ?_); (· first | assumption | decide); conv => whnf)
      | ((with_reducible refine br_f ?_ ?_); (· first | assumption | decide); conv => whnf)
      | ((with_reducible refine br_nt ?_ ?_); (· first | assumption | decide); conv => whnf)
      | ((with_reducible refine br_nf ?_ ?_); (· first | assumption | decide); conv => whnf)
      | ((with_reducible refine ckI ?_ ?_); (· first | ((with_reducible refine vp_in_nI ?_ ?_); (· omega); (· decide)) | exact vp_c (by decide) | exact ⟨_, rfl⟩ | exact Or.inl rfl | exact Or.inr rfl | exact b2_01 _); conv => whnf)
      | ((with_reducible apply cl_p); (case hM => with_reducible exact c9_finding1 _ _); (case hc => exact rfl); (case hd => decide); conv => whnf)
      | ((with_reducible apply cl_p); (case hM => with_reducible exact c9_finding2 _ _); (case hc => exact rfl); (case hd => decide); conv => whnf)
      | ((with_reducible apply cl_p); (case hM => with_reducible exact c9_finding3 _ _); (case hc => exact rfl); (case hd => decide); conv => whnf)
      | ((with_reducible apply cl_p); (case hM => with_reducible exact c9_finding4 _ _); (case hc => exact rfl); (case hd => decide); conv => whnf)
      | ((with_reducible apply cl_p); (case hM => with_reducible exact c9_finding5 _ _); (case hc => exact rfl); (case hd => decide); conv => whnf)
      | ((with_reducible apply cl_p); (case hM => with_reducible exact c9_within _ _ _ _ _); (case hc => exact rfl); (case hd => decide); conv => whnf)
      | with_reducible refine Pm9.of ?_ ?_
      | ((with_reducible refine ckJ ?_ ?_); conv => whnf)
      | fail
    all_goals try simp (disch := omega) only [ev, ew, e1, e2, e3, nI_clamp, Int32.reduceToNatClampNeg]
    all_goals first | with_reducible rfl | with_reducible assumption | (simp (disch := omega) only [er, taIx, nI_toInt, Int.toNat_natCast, nI_clamp, mpa_0, mpa_1, mpa_2, mpa_3, mpa_9, mpa_10, mpa_11, mpa_12, mp70, mp71, mp72, mp73, mp79, mp80, mp81, mp82, wr_wr, wr_same, Int32.reduceToNatClampNeg, Int32.reduceToInt, Int.reduceToNat]; done) | (simp (disch := omega) only [er, taIx, nI_toInt, Int.toNat_natCast, nI_clamp, mpa_0, mpa_1, mpa_2, mpa_3, mpa_9, mpa_10, mpa_11, mpa_12, mp70, mp71, mp72, mp73, mp79, mp80, mp81, mp82, wr_wr, wr_same, Int32.reduceToNatClampNeg, Int32.reduceToInt, Int.reduceToNat]; with_reducible rfl) | (intro i hi; first | rfl | (simp (disch := omega) only [lo_wr, lo_sf]; done)) | decide | (refine vp_t ?_ ?_ <;> ((try simp (disch := omega) only [er, Int32.toInt_add, Int32.toInt_mul, Int32.toInt_sub, Int.bmod_def, Int32.reduceToInt, nI_toInt, Int32.reduceToNatClampNeg, ev, ew] at *); omega)) | rfl
theorem r_trace (X : Cx) (μ : Mem) (i : Int32) (hW : WFS (mp μ)) : Mt X m_X9_trace 1 [.ref 70, .int i] μ (Pm9 μ (sp_trace (mp μ) i)) := by
  have hN : WN (mp μ 1) := hW.1
  have w20 : 0 ≤ (μ 70 20).toInt ∧ (μ 70 20).toInt ≤ 40 := hW.2.2.1
  unfold sp_trace
  (repeat' split)
  · have h : 0 ≤ i ∧ i ≤ μ 70 20 - 1 := by assumption
    simp only [Int32.le_iff_toInt_le, Int32.toInt_sub, Int.bmod_def, Int32.reduceToInt] at h
    refine Mt_of ck_X9_trace mf_210 rfl ?_
    clear hW hN
    repeat' first
      | ((with_reducible refine gow ck_X9_trace _ [] ?_); conv => whnf)
      | ((with_reducible refine bn_t ?_ ?_); (· first | assumption | decide); conv => whnf)
      | ((with_reducible refine bn_f ?_ ?_); (· first | assumption | decide); conv => whnf)
      | ((with_reducible refine bc_t ?_ ?_); (· first | assumption | decide); conv => whnf)
      | ((with_reducible refine bc_f ?_ ?_); (· first | assumption | decide); conv => whnf)
      | ((with_reducible refine br_t ?_ ?_); (· first | assumption | decide); conv => whnf)
      | ((with_reducible refine br_f ?_ ?_); (· first | assumption | decide); conv => whnf)
      | ((with_reducible refine br_nt ?_ ?_); (· first | assumption | decide); conv => whnf)
      | ((with_reducible refine br_nf ?_ ?_); (· first | assumption | decide); conv => whnf)
      | ((with_reducible refine ckI ?_ ?_); (· first | ((with_reducible refine vp_in_nI ?_ ?_); (· omega); (· decide)) | exact vp_c (by decide) | exact ⟨_, rfl⟩ | exact Or.inl rfl | exact Or.inr rfl | exact b2_01 _); conv => whnf)
      | ((with_reducible apply cl_p); (case hM => with_reducible exact c9_finding1 _ _); (case hc => exact rfl); (case hd => decide); conv => whnf)
      | ((with_reducible apply cl_p); (case hM => with_reducible exact c9_finding2 _ _); (case hc => exact rfl); (case hd => decide); conv => whnf)
      | ((with_reducible apply cl_p); (case hM => with_reducible exact c9_finding3 _ _); (case hc => exact rfl); (case hd => decide); conv => whnf)
      | ((with_reducible apply cl_p); (case hM => with_reducible exact c9_finding4 _ _); (case hc => exact rfl); (case hd => decide); conv => whnf)
      | ((with_reducible apply cl_p); (case hM => with_reducible exact c9_finding5 _ _); (case hc => exact rfl); (case hd => decide); conv => whnf)
      | ((with_reducible apply cl_p); (case hM => with_reducible exact c9_within _ _ _ _ _); (case hc => exact rfl); (case hd => decide); conv => whnf)
      | with_reducible refine Pm9.of ?_ ?_
      | ((with_reducible refine ckJ ?_ ?_); conv => whnf)
      | fail
    all_goals try simp (disch := omega) only [ev, ew, e1, e2, e3, nI_clamp, Int32.reduceToNatClampNeg]
    all_goals first | with_reducible rfl | with_reducible assumption | (simp (disch := omega) only [er, taIx, nI_toInt, Int.toNat_natCast, nI_clamp, mpa_0, mpa_1, mpa_2, mpa_3, mpa_9, mpa_10, mpa_11, mpa_12, mp70, mp71, mp72, mp73, mp79, mp80, mp81, mp82, wr_wr, wr_same, Int32.reduceToNatClampNeg, Int32.reduceToInt, Int.reduceToNat]; done) | (simp (disch := omega) only [er, taIx, nI_toInt, Int.toNat_natCast, nI_clamp, mpa_0, mpa_1, mpa_2, mpa_3, mpa_9, mpa_10, mpa_11, mpa_12, mp70, mp71, mp72, mp73, mp79, mp80, mp81, mp82, wr_wr, wr_same, Int32.reduceToNatClampNeg, Int32.reduceToInt, Int.reduceToNat]; with_reducible rfl) | (intro i hi; first | rfl | (simp (disch := omega) only [lo_wr, lo_sf]; done)) | decide | (refine vp_t ?_ ?_ <;> ((try simp (disch := omega) only [er, Int32.toInt_add, Int32.toInt_mul, Int32.toInt_sub, Int.bmod_def, Int32.reduceToInt, nI_toInt, Int32.reduceToNatClampNeg, ev, ew] at *); omega)) | rfl
  · refine Mt_of ck_X9_trace mf_210 rfl ?_
    clear hW hN
    repeat' first
      | ((with_reducible refine gow ck_X9_trace _ [] ?_); conv => whnf)
      | ((with_reducible refine bn_t ?_ ?_); (· first | assumption | decide); conv => whnf)
      | ((with_reducible refine bn_f ?_ ?_); (· first | assumption | decide); conv => whnf)
      | ((with_reducible refine bc_t ?_ ?_); (· first | assumption | decide); conv => whnf)
      | ((with_reducible refine bc_f ?_ ?_); (· first | assumption | decide); conv => whnf)
      | ((with_reducible refine br_t ?_ ?_); (· first | assumption | decide); conv => whnf)
      | ((with_reducible refine br_f ?_ ?_); (· first | assumption | decide); conv => whnf)
      | ((with_reducible refine br_nt ?_ ?_); (· first | assumption | decide); conv => whnf)
      | ((with_reducible refine br_nf ?_ ?_); (· first | assumption | decide); conv => whnf)
      | ((with_reducible refine ckI ?_ ?_); (· first | ((with_reducible refine vp_in_nI ?_ ?_); (· omega); (· decide)) | exact vp_c (by decide) | exact ⟨_, rfl⟩ | exact Or.inl rfl | exact Or.inr rfl | exact b2_01 _); conv => whnf)
      | ((with_reducible apply cl_p); (case hM => with_reducible exact c9_finding1 _ _); (case hc => exact rfl); (case hd => decide); conv => whnf)
      | ((with_reducible apply cl_p); (case hM => with_reducible exact c9_finding2 _ _); (case hc => exact rfl); (case hd => decide); conv => whnf)
      | ((with_reducible apply cl_p); (case hM => with_reducible exact c9_finding3 _ _); (case hc => exact rfl); (case hd => decide); conv => whnf)
      | ((with_reducible apply cl_p); (case hM => with_reducible exact c9_finding4 _ _); (case hc => exact rfl); (case hd => decide); conv => whnf)
      | ((with_reducible apply cl_p); (case hM => with_reducible exact c9_finding5 _ _); (case hc => exact rfl); (case hd => decide); conv => whnf)
      | ((with_reducible apply cl_p); (case hM => with_reducible exact c9_within _ _ _ _ _); (case hc => exact rfl); (case hd => decide); conv => whnf)
      | with_reducible refine Pm9.of ?_ ?_
      | ((with_reducible refine ckJ ?_ ?_); conv => whnf)
      | fail
    all_goals try simp (disch := omega) only [ev, ew, e1, e2, e3, nI_clamp, Int32.reduceToNatClampNeg]
    all_goals first | with_reducible rfl | with_reducible assumption | (simp (disch := omega) only [er, taIx, nI_toInt, Int.toNat_natCast, nI_clamp, mpa_0, mpa_1, mpa_2, mpa_3, mpa_9, mpa_10, mpa_11, mpa_12, mp70, mp71, mp72, mp73, mp79, mp80, mp81, mp82, wr_wr, wr_same, Int32.reduceToNatClampNeg, Int32.reduceToInt, Int.reduceToNat]; done) | (simp (disch := omega) only [er, taIx, nI_toInt, Int.toNat_natCast, nI_clamp, mpa_0, mpa_1, mpa_2, mpa_3, mpa_9, mpa_10, mpa_11, mpa_12, mp70, mp71, mp72, mp73, mp79, mp80, mp81, mp82, wr_wr, wr_same, Int32.reduceToNatClampNeg, Int32.reduceToInt, Int.reduceToNat]; with_reducible rfl) | (intro i hi; first | rfl | (simp (disch := omega) only [lo_wr, lo_sf]; done)) | decide | (refine vp_t ?_ ?_ <;> ((try simp (disch := omega) only [er, Int32.toInt_add, Int32.toInt_mul, Int32.toInt_sub, Int.bmod_def, Int32.reduceToInt, nI_toInt, Int32.reduceToNatClampNeg, ev, ew] at *); omega)) | rfl
theorem r_become (X : Cx) (μ : Mem) (t km : Int32) (hW : WFS (mp μ)) : Mt X m_X9_become 2 [.ref 70, .int t, .int km] μ (Pm9 μ (sp_become (mp μ) t km)) := by
  have hN : WN (mp μ 1) := hW.1
  unfold sp_become
  (repeat' split)
  · obtain ⟨k, hk, rfl, hk2⟩ := in_T hN ‹isT (mp μ 1) t›
    refine Mt_of ck_X9_become mf_178 rfl ?_
    clear hW hN
    repeat' first
      | ((with_reducible refine gow ck_X9_become _ [] ?_); conv => whnf)
      | ((with_reducible refine bn_t ?_ ?_); (· first | assumption | decide); conv => whnf)
      | ((with_reducible refine bn_f ?_ ?_); (· first | assumption | decide); conv => whnf)
      | ((with_reducible refine bc_t ?_ ?_); (· first | assumption | decide); conv => whnf)
      | ((with_reducible refine bc_f ?_ ?_); (· first | assumption | decide); conv => whnf)
      | ((with_reducible refine br_t ?_ ?_); (· first | assumption | decide); conv => whnf)
      | ((with_reducible refine br_f ?_ ?_); (· first | assumption | decide); conv => whnf)
      | ((with_reducible refine br_nt ?_ ?_); (· first | assumption | decide); conv => whnf)
      | ((with_reducible refine br_nf ?_ ?_); (· first | assumption | decide); conv => whnf)
      | ((with_reducible refine ckI ?_ ?_); (· first | ((with_reducible refine vp_in_nI ?_ ?_); (· omega); (· decide)) | exact vp_c (by decide) | exact ⟨_, rfl⟩ | exact Or.inl rfl | exact Or.inr rfl | exact b2_01 _); conv => whnf)
      | ((with_reducible apply cl_p); (case hM => with_reducible exact c9_finding1 _ _); (case hc => exact rfl); (case hd => decide); conv => whnf)
      | ((with_reducible apply cl_p); (case hM => with_reducible exact c9_finding2 _ _); (case hc => exact rfl); (case hd => decide); conv => whnf)
      | ((with_reducible apply cl_p); (case hM => with_reducible exact c9_finding3 _ _); (case hc => exact rfl); (case hd => decide); conv => whnf)
      | ((with_reducible apply cl_p); (case hM => with_reducible exact c9_finding4 _ _); (case hc => exact rfl); (case hd => decide); conv => whnf)
      | ((with_reducible apply cl_p); (case hM => with_reducible exact c9_finding5 _ _); (case hc => exact rfl); (case hd => decide); conv => whnf)
      | ((with_reducible apply cl_p); (case hM => with_reducible exact c9_isTale _ _ _); (case hc => exact rfl); (case hd => decide); conv => whnf)
      | ((with_reducible apply cl_p); (case hM => with_reducible exact c9_isKindM _ _ _); (case hc => exact rfl); (case hd => decide); conv => whnf)
      | ((with_reducible apply cl_p); (case hM => with_reducible exact c9_turnN _ _ _ _ (by omega)); (case hc => exact rfl); (case hd => decide); conv => whnf)
      | ((with_reducible apply cl_p); (case hM => with_reducible exact c9_taleAt0 _ _ _); (case hc => exact rfl); (case hd => decide); conv => whnf)
      | ((with_reducible apply cl_p); (case hM => with_reducible exact c9_taleAt1 _ _ _); (case hc => exact rfl); (case hd => decide); conv => whnf)
      | ((with_reducible apply cl_p); (case hM => with_reducible exact c9_taleAt2 _ _ _); (case hc => exact rfl); (case hd => decide); conv => whnf)
      | ((with_reducible apply cl_p); (case hM => with_reducible exact c9_taleAt3 _ _ _); (case hc => exact rfl); (case hd => decide); conv => whnf)
      | ((with_reducible apply cl_p); (case hM => with_reducible exact c9_taleAt4 _ _ _); (case hc => exact rfl); (case hd => decide); conv => whnf)
      | ((with_reducible apply cl_p); (case hM => with_reducible exact c9_taleAt5 _ _ _); (case hc => exact rfl); (case hd => decide); conv => whnf)
      | with_reducible refine Pm9.of ?_ ?_
      | ((with_reducible refine ckJ ?_ ?_); conv => whnf)
      | fail
    all_goals try simp (disch := omega) only [ev, ew, e1, e2, e3, nI_clamp, Int32.reduceToNatClampNeg]
    all_goals first | with_reducible rfl | with_reducible assumption | (simp (disch := omega) only [er, taIx, nI_toInt, Int.toNat_natCast, nI_clamp, mpa_0, mpa_1, mpa_2, mpa_3, mpa_9, mpa_10, mpa_11, mpa_12, mp70, mp71, mp72, mp73, mp79, mp80, mp81, mp82, wr_wr, wr_same, Int32.reduceToNatClampNeg, Int32.reduceToInt, Int.reduceToNat]; done) | (simp (disch := omega) only [er, taIx, nI_toInt, Int.toNat_natCast, nI_clamp, mpa_0, mpa_1, mpa_2, mpa_3, mpa_9, mpa_10, mpa_11, mpa_12, mp70, mp71, mp72, mp73, mp79, mp80, mp81, mp82, wr_wr, wr_same, Int32.reduceToNatClampNeg, Int32.reduceToInt, Int.reduceToNat]; with_reducible rfl) | (intro i hi; first | rfl | (simp (disch := omega) only [lo_wr, lo_sf]; done)) | decide | (refine vp_t ?_ ?_ <;> ((try simp (disch := omega) only [er, Int32.toInt_add, Int32.toInt_mul, Int32.toInt_sub, Int.bmod_def, Int32.reduceToInt, nI_toInt, Int32.reduceToNatClampNeg, ev, ew] at *); omega)) | rfl
  · obtain ⟨k, hk, rfl, hk2⟩ := in_T hN ‹isT (mp μ 1) t›
    refine Mt_of ck_X9_become mf_178 rfl ?_
    clear hW hN
    repeat' first
      | ((with_reducible refine gow ck_X9_become _ [] ?_); conv => whnf)
      | ((with_reducible refine bn_t ?_ ?_); (· first | assumption | decide); conv => whnf)
      | ((with_reducible refine bn_f ?_ ?_); (· first | assumption | decide); conv => whnf)
      | ((with_reducible refine bc_t ?_ ?_); (· first | assumption | decide); conv => whnf)
      | ((with_reducible refine bc_f ?_ ?_); (· first | assumption | decide); conv => whnf)
      | ((with_reducible refine br_t ?_ ?_); (· first | assumption | decide); conv => whnf)
      | ((with_reducible refine br_f ?_ ?_); (· first | assumption | decide); conv => whnf)
      | ((with_reducible refine br_nt ?_ ?_); (· first | assumption | decide); conv => whnf)
      | ((with_reducible refine br_nf ?_ ?_); (· first | assumption | decide); conv => whnf)
      | ((with_reducible refine ckI ?_ ?_); (· first | ((with_reducible refine vp_in_nI ?_ ?_); (· omega); (· decide)) | exact vp_c (by decide) | exact ⟨_, rfl⟩ | exact Or.inl rfl | exact Or.inr rfl | exact b2_01 _); conv => whnf)
      | ((with_reducible apply cl_p); (case hM => with_reducible exact c9_finding1 _ _); (case hc => exact rfl); (case hd => decide); conv => whnf)
      | ((with_reducible apply cl_p); (case hM => with_reducible exact c9_finding2 _ _); (case hc => exact rfl); (case hd => decide); conv => whnf)
      | ((with_reducible apply cl_p); (case hM => with_reducible exact c9_finding3 _ _); (case hc => exact rfl); (case hd => decide); conv => whnf)
      | ((with_reducible apply cl_p); (case hM => with_reducible exact c9_finding4 _ _); (case hc => exact rfl); (case hd => decide); conv => whnf)
      | ((with_reducible apply cl_p); (case hM => with_reducible exact c9_finding5 _ _); (case hc => exact rfl); (case hd => decide); conv => whnf)
      | ((with_reducible apply cl_p); (case hM => with_reducible exact c9_isTale _ _ _); (case hc => exact rfl); (case hd => decide); conv => whnf)
      | ((with_reducible apply cl_p); (case hM => with_reducible exact c9_isKindM _ _ _); (case hc => exact rfl); (case hd => decide); conv => whnf)
      | ((with_reducible apply cl_p); (case hM => with_reducible exact c9_turnN _ _ _ _ (by omega)); (case hc => exact rfl); (case hd => decide); conv => whnf)
      | ((with_reducible apply cl_p); (case hM => with_reducible exact c9_taleAt0 _ _ _); (case hc => exact rfl); (case hd => decide); conv => whnf)
      | ((with_reducible apply cl_p); (case hM => with_reducible exact c9_taleAt1 _ _ _); (case hc => exact rfl); (case hd => decide); conv => whnf)
      | ((with_reducible apply cl_p); (case hM => with_reducible exact c9_taleAt2 _ _ _); (case hc => exact rfl); (case hd => decide); conv => whnf)
      | ((with_reducible apply cl_p); (case hM => with_reducible exact c9_taleAt3 _ _ _); (case hc => exact rfl); (case hd => decide); conv => whnf)
      | ((with_reducible apply cl_p); (case hM => with_reducible exact c9_taleAt4 _ _ _); (case hc => exact rfl); (case hd => decide); conv => whnf)
      | ((with_reducible apply cl_p); (case hM => with_reducible exact c9_taleAt5 _ _ _); (case hc => exact rfl); (case hd => decide); conv => whnf)
      | with_reducible refine Pm9.of ?_ ?_
      | ((with_reducible refine ckJ ?_ ?_); conv => whnf)
      | fail
    all_goals try simp (disch := omega) only [ev, ew, e1, e2, e3, nI_clamp, Int32.reduceToNatClampNeg]
    all_goals first | with_reducible rfl | with_reducible assumption | (simp (disch := omega) only [er, taIx, nI_toInt, Int.toNat_natCast, nI_clamp, mpa_0, mpa_1, mpa_2, mpa_3, mpa_9, mpa_10, mpa_11, mpa_12, mp70, mp71, mp72, mp73, mp79, mp80, mp81, mp82, wr_wr, wr_same, Int32.reduceToNatClampNeg, Int32.reduceToInt, Int.reduceToNat]; done) | (simp (disch := omega) only [er, taIx, nI_toInt, Int.toNat_natCast, nI_clamp, mpa_0, mpa_1, mpa_2, mpa_3, mpa_9, mpa_10, mpa_11, mpa_12, mp70, mp71, mp72, mp73, mp79, mp80, mp81, mp82, wr_wr, wr_same, Int32.reduceToNatClampNeg, Int32.reduceToInt, Int.reduceToNat]; with_reducible rfl) | (intro i hi; first | rfl | (simp (disch := omega) only [lo_wr, lo_sf]; done)) | decide | (refine vp_t ?_ ?_ <;> ((try simp (disch := omega) only [er, Int32.toInt_add, Int32.toInt_mul, Int32.toInt_sub, Int.bmod_def, Int32.reduceToInt, nI_toInt, Int32.reduceToNatClampNeg, ev, ew] at *); omega)) | rfl
  · refine Mt_of ck_X9_become mf_178 rfl ?_
    clear hW hN
    repeat' first
      | ((with_reducible refine gow ck_X9_become _ [] ?_); conv => whnf)
      | ((with_reducible refine bn_t ?_ ?_); (· first | assumption | decide); conv => whnf)
      | ((with_reducible refine bn_f ?_ ?_); (· first | assumption | decide); conv => whnf)
      | ((with_reducible refine bc_t ?_ ?_); (· first | assumption | decide); conv => whnf)
      | ((with_reducible refine bc_f ?_ ?_); (· first | assumption | decide); conv => whnf)
      | ((with_reducible refine br_t ?_ ?_); (· first | assumption | decide); conv => whnf)
      | ((with_reducible refine br_f ?_ ?_); (· first | assumption | decide); conv => whnf)
      | ((with_reducible refine br_nt ?_ ?_); (· first | assumption | decide); conv => whnf)
      | ((with_reducible refine br_nf ?_ ?_); (· first | assumption | decide); conv => whnf)
      | ((with_reducible refine ckI ?_ ?_); (· first | ((with_reducible refine vp_in_nI ?_ ?_); (· omega); (· decide)) | exact vp_c (by decide) | exact ⟨_, rfl⟩ | exact Or.inl rfl | exact Or.inr rfl | exact b2_01 _); conv => whnf)
      | ((with_reducible apply cl_p); (case hM => with_reducible exact c9_finding1 _ _); (case hc => exact rfl); (case hd => decide); conv => whnf)
      | ((with_reducible apply cl_p); (case hM => with_reducible exact c9_finding2 _ _); (case hc => exact rfl); (case hd => decide); conv => whnf)
      | ((with_reducible apply cl_p); (case hM => with_reducible exact c9_finding3 _ _); (case hc => exact rfl); (case hd => decide); conv => whnf)
      | ((with_reducible apply cl_p); (case hM => with_reducible exact c9_finding4 _ _); (case hc => exact rfl); (case hd => decide); conv => whnf)
      | ((with_reducible apply cl_p); (case hM => with_reducible exact c9_finding5 _ _); (case hc => exact rfl); (case hd => decide); conv => whnf)
      | ((with_reducible apply cl_p); (case hM => with_reducible exact c9_isTale _ _ _); (case hc => exact rfl); (case hd => decide); conv => whnf)
      | ((with_reducible apply cl_p); (case hM => with_reducible exact c9_isKindM _ _ _); (case hc => exact rfl); (case hd => decide); conv => whnf)
      | ((with_reducible apply cl_p); (case hM => with_reducible exact c9_turnN _ _ _ _ (by omega)); (case hc => exact rfl); (case hd => decide); conv => whnf)
      | ((with_reducible apply cl_p); (case hM => with_reducible exact c9_taleAt0 _ _ _); (case hc => exact rfl); (case hd => decide); conv => whnf)
      | ((with_reducible apply cl_p); (case hM => with_reducible exact c9_taleAt1 _ _ _); (case hc => exact rfl); (case hd => decide); conv => whnf)
      | ((with_reducible apply cl_p); (case hM => with_reducible exact c9_taleAt2 _ _ _); (case hc => exact rfl); (case hd => decide); conv => whnf)
      | ((with_reducible apply cl_p); (case hM => with_reducible exact c9_taleAt3 _ _ _); (case hc => exact rfl); (case hd => decide); conv => whnf)
      | ((with_reducible apply cl_p); (case hM => with_reducible exact c9_taleAt4 _ _ _); (case hc => exact rfl); (case hd => decide); conv => whnf)
      | ((with_reducible apply cl_p); (case hM => with_reducible exact c9_taleAt5 _ _ _); (case hc => exact rfl); (case hd => decide); conv => whnf)
      | with_reducible refine Pm9.of ?_ ?_
      | ((with_reducible refine ckJ ?_ ?_); conv => whnf)
      | fail
    all_goals try simp (disch := omega) only [ev, ew, e1, e2, e3, nI_clamp, Int32.reduceToNatClampNeg]
    all_goals first | with_reducible rfl | with_reducible assumption | (simp (disch := omega) only [er, taIx, nI_toInt, Int.toNat_natCast, nI_clamp, mpa_0, mpa_1, mpa_2, mpa_3, mpa_9, mpa_10, mpa_11, mpa_12, mp70, mp71, mp72, mp73, mp79, mp80, mp81, mp82, wr_wr, wr_same, Int32.reduceToNatClampNeg, Int32.reduceToInt, Int.reduceToNat]; done) | (simp (disch := omega) only [er, taIx, nI_toInt, Int.toNat_natCast, nI_clamp, mpa_0, mpa_1, mpa_2, mpa_3, mpa_9, mpa_10, mpa_11, mpa_12, mp70, mp71, mp72, mp73, mp79, mp80, mp81, mp82, wr_wr, wr_same, Int32.reduceToNatClampNeg, Int32.reduceToInt, Int.reduceToNat]; with_reducible rfl) | (intro i hi; first | rfl | (simp (disch := omega) only [lo_wr, lo_sf]; done)) | decide | (refine vp_t ?_ ?_ <;> ((try simp (disch := omega) only [er, Int32.toInt_add, Int32.toInt_mul, Int32.toInt_sub, Int.bmod_def, Int32.reduceToInt, nI_toInt, Int32.reduceToNatClampNeg, ev, ew] at *); omega)) | rfl
theorem r_change (X : Cx) (μ : Mem) (t w v : Int32) (hW : WFS (mp μ)) : Mt X m_X9_change 2 [.ref 70, .int t, .int w, .int v] μ (Pm9 μ (sp_change (mp μ) t w v)) := by
  have hN : WN (mp μ 1) := hW.1
  unfold sp_change
  (repeat' split)
  · obtain ⟨k, hk, rfl, hk2⟩ := in_T hN ‹isT (mp μ 1) t›
    subst w
    refine Mt_of ck_X9_change mf_177 rfl ?_
    clear hW hN
    repeat' first
      | ((with_reducible refine gow ck_X9_change _ [] ?_); conv => whnf)
      | ((with_reducible refine bn_t ?_ ?_); (· first | assumption | decide); conv => whnf)
      | ((with_reducible refine bn_f ?_ ?_); (· first | assumption | decide); conv => whnf)
      | ((with_reducible refine bc_t ?_ ?_); (· first | assumption | decide); conv => whnf)
      | ((with_reducible refine bc_f ?_ ?_); (· first | assumption | decide); conv => whnf)
      | ((with_reducible refine br_t ?_ ?_); (· first | assumption | decide); conv => whnf)
      | ((with_reducible refine br_f ?_ ?_); (· first | assumption | decide); conv => whnf)
      | ((with_reducible refine br_nt ?_ ?_); (· first | assumption | decide); conv => whnf)
      | ((with_reducible refine br_nf ?_ ?_); (· first | assumption | decide); conv => whnf)
      | ((with_reducible refine ckI ?_ ?_); (· first | ((with_reducible refine vp_in_nI ?_ ?_); (· omega); (· decide)) | exact vp_c (by decide) | exact ⟨_, rfl⟩ | exact Or.inl rfl | exact Or.inr rfl | exact b2_01 _); conv => whnf)
      | ((with_reducible apply cl_p); (case hM => with_reducible exact c9_finding1 _ _); (case hc => exact rfl); (case hd => decide); conv => whnf)
      | ((with_reducible apply cl_p); (case hM => with_reducible exact c9_finding2 _ _); (case hc => exact rfl); (case hd => decide); conv => whnf)
      | ((with_reducible apply cl_p); (case hM => with_reducible exact c9_finding3 _ _); (case hc => exact rfl); (case hd => decide); conv => whnf)
      | ((with_reducible apply cl_p); (case hM => with_reducible exact c9_finding4 _ _); (case hc => exact rfl); (case hd => decide); conv => whnf)
      | ((with_reducible apply cl_p); (case hM => with_reducible exact c9_finding5 _ _); (case hc => exact rfl); (case hd => decide); conv => whnf)
      | ((with_reducible apply cl_p); (case hM => with_reducible exact c9_isTale _ _ _); (case hc => exact rfl); (case hd => decide); conv => whnf)
      | ((with_reducible apply cl_p); (case hM => with_reducible exact c9_isMarks _ _ _); (case hc => exact rfl); (case hd => decide); conv => whnf)
      | ((with_reducible apply cl_p); (case hM => with_reducible exact c9_isPlace _ _ _); (case hc => exact rfl); (case hd => decide); conv => whnf)
      | ((with_reducible apply cl_p); (case hM => with_reducible exact c9_within _ _ _ _ _); (case hc => exact rfl); (case hd => decide); conv => whnf)
      | ((with_reducible apply cl_p); (case hM => with_reducible exact c9_turnN _ _ _ _ (by omega)); (case hc => exact rfl); (case hd => decide); conv => whnf)
      | ((with_reducible apply cl_p); (case hM => exact (c9_taleAt2 X _ k)); (case hc => exact rfl); (case hd => decide); conv => whnf)
      | ((with_reducible apply cl_p); (case hM => exact (c9_taleAt3 X _ k)); (case hc => exact rfl); (case hd => decide); conv => whnf)
      | ((with_reducible apply cl_p); (case hM => exact (c9_taleAt4 X _ k)); (case hc => exact rfl); (case hd => decide); conv => whnf)
      | ((with_reducible apply cl_p); (case hM => exact (c9_taleAt5 X _ k)); (case hc => exact rfl); (case hd => decide); conv => whnf)
      | with_reducible refine Pm9.of ?_ ?_
      | ((with_reducible refine ckJ ?_ ?_); conv => whnf)
      | fail
    all_goals try simp (disch := omega) only [ev, ew, e1, e2, e3, nI_clamp, Int32.reduceToNatClampNeg]
    all_goals first | with_reducible rfl | with_reducible assumption | (simp (disch := omega) only [er, taIx, nI_toInt, Int.toNat_natCast, nI_clamp, mpa_0, mpa_1, mpa_2, mpa_3, mpa_9, mpa_10, mpa_11, mpa_12, mp70, mp71, mp72, mp73, mp79, mp80, mp81, mp82, wr_wr, wr_same, Int32.reduceToNatClampNeg, Int32.reduceToInt, Int.reduceToNat]; done) | (simp (disch := omega) only [er, taIx, nI_toInt, Int.toNat_natCast, nI_clamp, mpa_0, mpa_1, mpa_2, mpa_3, mpa_9, mpa_10, mpa_11, mpa_12, mp70, mp71, mp72, mp73, mp79, mp80, mp81, mp82, wr_wr, wr_same, Int32.reduceToNatClampNeg, Int32.reduceToInt, Int.reduceToNat]; with_reducible rfl) | (intro i hi; first | rfl | (simp (disch := omega) only [lo_wr, lo_sf]; done)) | decide | (refine vp_t ?_ ?_ <;> ((try simp (disch := omega) only [er, Int32.toInt_add, Int32.toInt_mul, Int32.toInt_sub, Int.bmod_def, Int32.reduceToInt, nI_toInt, Int32.reduceToNatClampNeg, ev, ew] at *); omega)) | rfl
  · obtain ⟨k, hk, rfl, hk2⟩ := in_T hN ‹isT (mp μ 1) t›
    subst w
    refine Mt_of ck_X9_change mf_177 rfl ?_
    clear hW hN
    repeat' first
      | ((with_reducible refine gow ck_X9_change _ [] ?_); conv => whnf)
      | ((with_reducible refine bn_t ?_ ?_); (· first | assumption | decide); conv => whnf)
      | ((with_reducible refine bn_f ?_ ?_); (· first | assumption | decide); conv => whnf)
      | ((with_reducible refine bc_t ?_ ?_); (· first | assumption | decide); conv => whnf)
      | ((with_reducible refine bc_f ?_ ?_); (· first | assumption | decide); conv => whnf)
      | ((with_reducible refine br_t ?_ ?_); (· first | assumption | decide); conv => whnf)
      | ((with_reducible refine br_f ?_ ?_); (· first | assumption | decide); conv => whnf)
      | ((with_reducible refine br_nt ?_ ?_); (· first | assumption | decide); conv => whnf)
      | ((with_reducible refine br_nf ?_ ?_); (· first | assumption | decide); conv => whnf)
      | ((with_reducible refine ckI ?_ ?_); (· first | ((with_reducible refine vp_in_nI ?_ ?_); (· omega); (· decide)) | exact vp_c (by decide) | exact ⟨_, rfl⟩ | exact Or.inl rfl | exact Or.inr rfl | exact b2_01 _); conv => whnf)
      | ((with_reducible apply cl_p); (case hM => with_reducible exact c9_finding1 _ _); (case hc => exact rfl); (case hd => decide); conv => whnf)
      | ((with_reducible apply cl_p); (case hM => with_reducible exact c9_finding2 _ _); (case hc => exact rfl); (case hd => decide); conv => whnf)
      | ((with_reducible apply cl_p); (case hM => with_reducible exact c9_finding3 _ _); (case hc => exact rfl); (case hd => decide); conv => whnf)
      | ((with_reducible apply cl_p); (case hM => with_reducible exact c9_finding4 _ _); (case hc => exact rfl); (case hd => decide); conv => whnf)
      | ((with_reducible apply cl_p); (case hM => with_reducible exact c9_finding5 _ _); (case hc => exact rfl); (case hd => decide); conv => whnf)
      | ((with_reducible apply cl_p); (case hM => with_reducible exact c9_isTale _ _ _); (case hc => exact rfl); (case hd => decide); conv => whnf)
      | ((with_reducible apply cl_p); (case hM => with_reducible exact c9_isMarks _ _ _); (case hc => exact rfl); (case hd => decide); conv => whnf)
      | ((with_reducible apply cl_p); (case hM => with_reducible exact c9_isPlace _ _ _); (case hc => exact rfl); (case hd => decide); conv => whnf)
      | ((with_reducible apply cl_p); (case hM => with_reducible exact c9_within _ _ _ _ _); (case hc => exact rfl); (case hd => decide); conv => whnf)
      | ((with_reducible apply cl_p); (case hM => with_reducible exact c9_turnN _ _ _ _ (by omega)); (case hc => exact rfl); (case hd => decide); conv => whnf)
      | ((with_reducible apply cl_p); (case hM => exact (c9_taleAt2 X _ k)); (case hc => exact rfl); (case hd => decide); conv => whnf)
      | ((with_reducible apply cl_p); (case hM => exact (c9_taleAt3 X _ k)); (case hc => exact rfl); (case hd => decide); conv => whnf)
      | ((with_reducible apply cl_p); (case hM => exact (c9_taleAt4 X _ k)); (case hc => exact rfl); (case hd => decide); conv => whnf)
      | ((with_reducible apply cl_p); (case hM => exact (c9_taleAt5 X _ k)); (case hc => exact rfl); (case hd => decide); conv => whnf)
      | with_reducible refine Pm9.of ?_ ?_
      | ((with_reducible refine ckJ ?_ ?_); conv => whnf)
      | fail
    all_goals try simp (disch := omega) only [ev, ew, e1, e2, e3, nI_clamp, Int32.reduceToNatClampNeg]
    all_goals first | with_reducible rfl | with_reducible assumption | (simp (disch := omega) only [er, taIx, nI_toInt, Int.toNat_natCast, nI_clamp, mpa_0, mpa_1, mpa_2, mpa_3, mpa_9, mpa_10, mpa_11, mpa_12, mp70, mp71, mp72, mp73, mp79, mp80, mp81, mp82, wr_wr, wr_same, Int32.reduceToNatClampNeg, Int32.reduceToInt, Int.reduceToNat]; done) | (simp (disch := omega) only [er, taIx, nI_toInt, Int.toNat_natCast, nI_clamp, mpa_0, mpa_1, mpa_2, mpa_3, mpa_9, mpa_10, mpa_11, mpa_12, mp70, mp71, mp72, mp73, mp79, mp80, mp81, mp82, wr_wr, wr_same, Int32.reduceToNatClampNeg, Int32.reduceToInt, Int.reduceToNat]; with_reducible rfl) | (intro i hi; first | rfl | (simp (disch := omega) only [lo_wr, lo_sf]; done)) | decide | (refine vp_t ?_ ?_ <;> ((try simp (disch := omega) only [er, Int32.toInt_add, Int32.toInt_mul, Int32.toInt_sub, Int.bmod_def, Int32.reduceToInt, nI_toInt, Int32.reduceToNatClampNeg, ev, ew] at *); omega)) | rfl
  · obtain ⟨k, hk, rfl, hk2⟩ := in_T hN ‹isT (mp μ 1) t›
    subst w
    refine Mt_of ck_X9_change mf_177 rfl ?_
    clear hW hN
    repeat' first
      | ((with_reducible refine gow ck_X9_change _ [] ?_); conv => whnf)
      | ((with_reducible refine bn_t ?_ ?_); (· first | assumption | decide); conv => whnf)
      | ((with_reducible refine bn_f ?_ ?_); (· first | assumption | decide); conv => whnf)
      | ((with_reducible refine bc_t ?_ ?_); (· first | assumption | decide); conv => whnf)
      | ((with_reducible refine bc_f ?_ ?_); (· first | assumption | decide); conv => whnf)
      | ((with_reducible refine br_t ?_ ?_); (· first | assumption | decide); conv => whnf)
      | ((with_reducible refine br_f ?_ ?_); (· first | assumption | decide); conv => whnf)
      | ((with_reducible refine br_nt ?_ ?_); (· first | assumption | decide); conv => whnf)
      | ((with_reducible refine br_nf ?_ ?_); (· first | assumption | decide); conv => whnf)
      | ((with_reducible refine ckI ?_ ?_); (· first | ((with_reducible refine vp_in_nI ?_ ?_); (· omega); (· decide)) | exact vp_c (by decide) | exact ⟨_, rfl⟩ | exact Or.inl rfl | exact Or.inr rfl | exact b2_01 _); conv => whnf)
      | ((with_reducible apply cl_p); (case hM => with_reducible exact c9_finding1 _ _); (case hc => exact rfl); (case hd => decide); conv => whnf)
      | ((with_reducible apply cl_p); (case hM => with_reducible exact c9_finding2 _ _); (case hc => exact rfl); (case hd => decide); conv => whnf)
      | ((with_reducible apply cl_p); (case hM => with_reducible exact c9_finding3 _ _); (case hc => exact rfl); (case hd => decide); conv => whnf)
      | ((with_reducible apply cl_p); (case hM => with_reducible exact c9_finding4 _ _); (case hc => exact rfl); (case hd => decide); conv => whnf)
      | ((with_reducible apply cl_p); (case hM => with_reducible exact c9_finding5 _ _); (case hc => exact rfl); (case hd => decide); conv => whnf)
      | ((with_reducible apply cl_p); (case hM => with_reducible exact c9_isTale _ _ _); (case hc => exact rfl); (case hd => decide); conv => whnf)
      | ((with_reducible apply cl_p); (case hM => with_reducible exact c9_isMarks _ _ _); (case hc => exact rfl); (case hd => decide); conv => whnf)
      | ((with_reducible apply cl_p); (case hM => with_reducible exact c9_isPlace _ _ _); (case hc => exact rfl); (case hd => decide); conv => whnf)
      | ((with_reducible apply cl_p); (case hM => with_reducible exact c9_within _ _ _ _ _); (case hc => exact rfl); (case hd => decide); conv => whnf)
      | ((with_reducible apply cl_p); (case hM => with_reducible exact c9_turnN _ _ _ _ (by omega)); (case hc => exact rfl); (case hd => decide); conv => whnf)
      | ((with_reducible apply cl_p); (case hM => exact (c9_taleAt2 X _ k)); (case hc => exact rfl); (case hd => decide); conv => whnf)
      | ((with_reducible apply cl_p); (case hM => exact (c9_taleAt3 X _ k)); (case hc => exact rfl); (case hd => decide); conv => whnf)
      | ((with_reducible apply cl_p); (case hM => exact (c9_taleAt4 X _ k)); (case hc => exact rfl); (case hd => decide); conv => whnf)
      | ((with_reducible apply cl_p); (case hM => exact (c9_taleAt5 X _ k)); (case hc => exact rfl); (case hd => decide); conv => whnf)
      | with_reducible refine Pm9.of ?_ ?_
      | ((with_reducible refine ckJ ?_ ?_); conv => whnf)
      | fail
    all_goals try simp (disch := omega) only [ev, ew, e1, e2, e3, nI_clamp, Int32.reduceToNatClampNeg]
    all_goals first | with_reducible rfl | with_reducible assumption | (simp (disch := omega) only [er, taIx, nI_toInt, Int.toNat_natCast, nI_clamp, mpa_0, mpa_1, mpa_2, mpa_3, mpa_9, mpa_10, mpa_11, mpa_12, mp70, mp71, mp72, mp73, mp79, mp80, mp81, mp82, wr_wr, wr_same, Int32.reduceToNatClampNeg, Int32.reduceToInt, Int.reduceToNat]; done) | (simp (disch := omega) only [er, taIx, nI_toInt, Int.toNat_natCast, nI_clamp, mpa_0, mpa_1, mpa_2, mpa_3, mpa_9, mpa_10, mpa_11, mpa_12, mp70, mp71, mp72, mp73, mp79, mp80, mp81, mp82, wr_wr, wr_same, Int32.reduceToNatClampNeg, Int32.reduceToInt, Int.reduceToNat]; with_reducible rfl) | (intro i hi; first | rfl | (simp (disch := omega) only [lo_wr, lo_sf]; done)) | decide | (refine vp_t ?_ ?_ <;> ((try simp (disch := omega) only [er, Int32.toInt_add, Int32.toInt_mul, Int32.toInt_sub, Int.bmod_def, Int32.reduceToInt, nI_toInt, Int32.reduceToNatClampNeg, ev, ew] at *); omega)) | rfl
  · obtain ⟨k, hk, rfl, hk2⟩ := in_T hN ‹isT (mp μ 1) t›
    subst w
    refine Mt_of ck_X9_change mf_177 rfl ?_
    clear hW hN
    repeat' first
      | ((with_reducible refine gow ck_X9_change _ [] ?_); conv => whnf)
      | ((with_reducible refine bn_t ?_ ?_); (· first | assumption | decide); conv => whnf)
      | ((with_reducible refine bn_f ?_ ?_); (· first | assumption | decide); conv => whnf)
      | ((with_reducible refine bc_t ?_ ?_); (· first | assumption | decide); conv => whnf)
      | ((with_reducible refine bc_f ?_ ?_); (· first | assumption | decide); conv => whnf)
      | ((with_reducible refine br_t ?_ ?_); (· first | assumption | decide); conv => whnf)
      | ((with_reducible refine br_f ?_ ?_); (· first | assumption | decide); conv => whnf)
      | ((with_reducible refine br_nt ?_ ?_); (· first | assumption | decide); conv => whnf)
      | ((with_reducible refine br_nf ?_ ?_); (· first | assumption | decide); conv => whnf)
      | ((with_reducible refine ckI ?_ ?_); (· first | ((with_reducible refine vp_in_nI ?_ ?_); (· omega); (· decide)) | exact vp_c (by decide) | exact ⟨_, rfl⟩ | exact Or.inl rfl | exact Or.inr rfl | exact b2_01 _); conv => whnf)
      | ((with_reducible apply cl_p); (case hM => with_reducible exact c9_finding1 _ _); (case hc => exact rfl); (case hd => decide); conv => whnf)
      | ((with_reducible apply cl_p); (case hM => with_reducible exact c9_finding2 _ _); (case hc => exact rfl); (case hd => decide); conv => whnf)
      | ((with_reducible apply cl_p); (case hM => with_reducible exact c9_finding3 _ _); (case hc => exact rfl); (case hd => decide); conv => whnf)
      | ((with_reducible apply cl_p); (case hM => with_reducible exact c9_finding4 _ _); (case hc => exact rfl); (case hd => decide); conv => whnf)
      | ((with_reducible apply cl_p); (case hM => with_reducible exact c9_finding5 _ _); (case hc => exact rfl); (case hd => decide); conv => whnf)
      | ((with_reducible apply cl_p); (case hM => with_reducible exact c9_isTale _ _ _); (case hc => exact rfl); (case hd => decide); conv => whnf)
      | ((with_reducible apply cl_p); (case hM => with_reducible exact c9_isMarks _ _ _); (case hc => exact rfl); (case hd => decide); conv => whnf)
      | ((with_reducible apply cl_p); (case hM => with_reducible exact c9_isPlace _ _ _); (case hc => exact rfl); (case hd => decide); conv => whnf)
      | ((with_reducible apply cl_p); (case hM => with_reducible exact c9_within _ _ _ _ _); (case hc => exact rfl); (case hd => decide); conv => whnf)
      | ((with_reducible apply cl_p); (case hM => with_reducible exact c9_turnN _ _ _ _ (by omega)); (case hc => exact rfl); (case hd => decide); conv => whnf)
      | ((with_reducible apply cl_p); (case hM => exact (c9_taleAt2 X _ k)); (case hc => exact rfl); (case hd => decide); conv => whnf)
      | ((with_reducible apply cl_p); (case hM => exact (c9_taleAt3 X _ k)); (case hc => exact rfl); (case hd => decide); conv => whnf)
      | ((with_reducible apply cl_p); (case hM => exact (c9_taleAt4 X _ k)); (case hc => exact rfl); (case hd => decide); conv => whnf)
      | ((with_reducible apply cl_p); (case hM => exact (c9_taleAt5 X _ k)); (case hc => exact rfl); (case hd => decide); conv => whnf)
      | with_reducible refine Pm9.of ?_ ?_
      | ((with_reducible refine ckJ ?_ ?_); conv => whnf)
      | fail
    all_goals try simp (disch := omega) only [ev, ew, e1, e2, e3, nI_clamp, Int32.reduceToNatClampNeg]
    all_goals first | with_reducible rfl | with_reducible assumption | (simp (disch := omega) only [er, taIx, nI_toInt, Int.toNat_natCast, nI_clamp, mpa_0, mpa_1, mpa_2, mpa_3, mpa_9, mpa_10, mpa_11, mpa_12, mp70, mp71, mp72, mp73, mp79, mp80, mp81, mp82, wr_wr, wr_same, Int32.reduceToNatClampNeg, Int32.reduceToInt, Int.reduceToNat]; done) | (simp (disch := omega) only [er, taIx, nI_toInt, Int.toNat_natCast, nI_clamp, mpa_0, mpa_1, mpa_2, mpa_3, mpa_9, mpa_10, mpa_11, mpa_12, mp70, mp71, mp72, mp73, mp79, mp80, mp81, mp82, wr_wr, wr_same, Int32.reduceToNatClampNeg, Int32.reduceToInt, Int.reduceToNat]; with_reducible rfl) | (intro i hi; first | rfl | (simp (disch := omega) only [lo_wr, lo_sf]; done)) | decide | (refine vp_t ?_ ?_ <;> ((try simp (disch := omega) only [er, Int32.toInt_add, Int32.toInt_mul, Int32.toInt_sub, Int.bmod_def, Int32.reduceToInt, nI_toInt, Int32.reduceToNatClampNeg, ev, ew] at *); omega)) | rfl
  · obtain ⟨k, hk, rfl, hk2⟩ := in_T hN ‹isT (mp μ 1) t›
    subst w
    refine Mt_of ck_X9_change mf_177 rfl ?_
    clear hW hN
    repeat' first
      | ((with_reducible refine gow ck_X9_change _ [] ?_); conv => whnf)
      | ((with_reducible refine bn_t ?_ ?_); (· first | assumption | decide); conv => whnf)
      | ((with_reducible refine bn_f ?_ ?_); (· first | assumption | decide); conv => whnf)
      | ((with_reducible refine bc_t ?_ ?_); (· first | assumption | decide); conv => whnf)
      | ((with_reducible refine bc_f ?_ ?_); (· first | assumption | decide); conv => whnf)
      | ((with_reducible refine br_t ?_ ?_); (· first | assumption | decide); conv => whnf)
      | ((with_reducible refine br_f ?_ ?_); (· first | assumption | decide); conv => whnf)
      | ((with_reducible refine br_nt ?_ ?_); (· first | assumption | decide); conv => whnf)
      | ((with_reducible refine br_nf ?_ ?_); (· first | assumption | decide); conv => whnf)
      | ((with_reducible refine ckI ?_ ?_); (· first | ((with_reducible refine vp_in_nI ?_ ?_); (· omega); (· decide)) | exact vp_c (by decide) | exact ⟨_, rfl⟩ | exact Or.inl rfl | exact Or.inr rfl | exact b2_01 _); conv => whnf)
      | ((with_reducible apply cl_p); (case hM => with_reducible exact c9_finding1 _ _); (case hc => exact rfl); (case hd => decide); conv => whnf)
      | ((with_reducible apply cl_p); (case hM => with_reducible exact c9_finding2 _ _); (case hc => exact rfl); (case hd => decide); conv => whnf)
      | ((with_reducible apply cl_p); (case hM => with_reducible exact c9_finding3 _ _); (case hc => exact rfl); (case hd => decide); conv => whnf)
      | ((with_reducible apply cl_p); (case hM => with_reducible exact c9_finding4 _ _); (case hc => exact rfl); (case hd => decide); conv => whnf)
      | ((with_reducible apply cl_p); (case hM => with_reducible exact c9_finding5 _ _); (case hc => exact rfl); (case hd => decide); conv => whnf)
      | ((with_reducible apply cl_p); (case hM => with_reducible exact c9_isTale _ _ _); (case hc => exact rfl); (case hd => decide); conv => whnf)
      | ((with_reducible apply cl_p); (case hM => with_reducible exact c9_isMarks _ _ _); (case hc => exact rfl); (case hd => decide); conv => whnf)
      | ((with_reducible apply cl_p); (case hM => with_reducible exact c9_isPlace _ _ _); (case hc => exact rfl); (case hd => decide); conv => whnf)
      | ((with_reducible apply cl_p); (case hM => with_reducible exact c9_within _ _ _ _ _); (case hc => exact rfl); (case hd => decide); conv => whnf)
      | ((with_reducible apply cl_p); (case hM => with_reducible exact c9_turnN _ _ _ _ (by omega)); (case hc => exact rfl); (case hd => decide); conv => whnf)
      | ((with_reducible apply cl_p); (case hM => exact (c9_taleAt2 X _ k)); (case hc => exact rfl); (case hd => decide); conv => whnf)
      | ((with_reducible apply cl_p); (case hM => exact (c9_taleAt3 X _ k)); (case hc => exact rfl); (case hd => decide); conv => whnf)
      | ((with_reducible apply cl_p); (case hM => exact (c9_taleAt4 X _ k)); (case hc => exact rfl); (case hd => decide); conv => whnf)
      | ((with_reducible apply cl_p); (case hM => exact (c9_taleAt5 X _ k)); (case hc => exact rfl); (case hd => decide); conv => whnf)
      | with_reducible refine Pm9.of ?_ ?_
      | ((with_reducible refine ckJ ?_ ?_); conv => whnf)
      | fail
    all_goals try simp (disch := omega) only [ev, ew, e1, e2, e3, nI_clamp, Int32.reduceToNatClampNeg]
    all_goals first | with_reducible rfl | with_reducible assumption | (simp (disch := omega) only [er, taIx, nI_toInt, Int.toNat_natCast, nI_clamp, mpa_0, mpa_1, mpa_2, mpa_3, mpa_9, mpa_10, mpa_11, mpa_12, mp70, mp71, mp72, mp73, mp79, mp80, mp81, mp82, wr_wr, wr_same, Int32.reduceToNatClampNeg, Int32.reduceToInt, Int.reduceToNat]; done) | (simp (disch := omega) only [er, taIx, nI_toInt, Int.toNat_natCast, nI_clamp, mpa_0, mpa_1, mpa_2, mpa_3, mpa_9, mpa_10, mpa_11, mpa_12, mp70, mp71, mp72, mp73, mp79, mp80, mp81, mp82, wr_wr, wr_same, Int32.reduceToNatClampNeg, Int32.reduceToInt, Int.reduceToNat]; with_reducible rfl) | (intro i hi; first | rfl | (simp (disch := omega) only [lo_wr, lo_sf]; done)) | decide | (refine vp_t ?_ ?_ <;> ((try simp (disch := omega) only [er, Int32.toInt_add, Int32.toInt_mul, Int32.toInt_sub, Int.bmod_def, Int32.reduceToInt, nI_toInt, Int32.reduceToNatClampNeg, ev, ew] at *); omega)) | rfl
  · obtain ⟨k, hk, rfl, hk2⟩ := in_T hN ‹isT (mp μ 1) t›
    obtain rfl : w = 3 := by
      clear hW hN
      rw [← Int32.toInt_inj]
      simp only [Int32.le_iff_toInt_le, ← Int32.toInt_inj, Int32.reduceToInt] at *
      omega
    refine Mt_of ck_X9_change mf_177 rfl ?_
    clear hW hN
    repeat' first
      | ((with_reducible refine gow ck_X9_change _ [] ?_); conv => whnf)
      | ((with_reducible refine bn_t ?_ ?_); (· first | assumption | decide); conv => whnf)
      | ((with_reducible refine bn_f ?_ ?_); (· first | assumption | decide); conv => whnf)
      | ((with_reducible refine bc_t ?_ ?_); (· first | assumption | decide); conv => whnf)
      | ((with_reducible refine bc_f ?_ ?_); (· first | assumption | decide); conv => whnf)
      | ((with_reducible refine br_t ?_ ?_); (· first | assumption | decide); conv => whnf)
      | ((with_reducible refine br_f ?_ ?_); (· first | assumption | decide); conv => whnf)
      | ((with_reducible refine br_nt ?_ ?_); (· first | assumption | decide); conv => whnf)
      | ((with_reducible refine br_nf ?_ ?_); (· first | assumption | decide); conv => whnf)
      | ((with_reducible refine ckI ?_ ?_); (· first | ((with_reducible refine vp_in_nI ?_ ?_); (· omega); (· decide)) | exact vp_c (by decide) | exact ⟨_, rfl⟩ | exact Or.inl rfl | exact Or.inr rfl | exact b2_01 _); conv => whnf)
      | ((with_reducible apply cl_p); (case hM => with_reducible exact c9_finding1 _ _); (case hc => exact rfl); (case hd => decide); conv => whnf)
      | ((with_reducible apply cl_p); (case hM => with_reducible exact c9_finding2 _ _); (case hc => exact rfl); (case hd => decide); conv => whnf)
      | ((with_reducible apply cl_p); (case hM => with_reducible exact c9_finding3 _ _); (case hc => exact rfl); (case hd => decide); conv => whnf)
      | ((with_reducible apply cl_p); (case hM => with_reducible exact c9_finding4 _ _); (case hc => exact rfl); (case hd => decide); conv => whnf)
      | ((with_reducible apply cl_p); (case hM => with_reducible exact c9_finding5 _ _); (case hc => exact rfl); (case hd => decide); conv => whnf)
      | ((with_reducible apply cl_p); (case hM => with_reducible exact c9_isTale _ _ _); (case hc => exact rfl); (case hd => decide); conv => whnf)
      | ((with_reducible apply cl_p); (case hM => with_reducible exact c9_isMarks _ _ _); (case hc => exact rfl); (case hd => decide); conv => whnf)
      | ((with_reducible apply cl_p); (case hM => with_reducible exact c9_isPlace _ _ _); (case hc => exact rfl); (case hd => decide); conv => whnf)
      | ((with_reducible apply cl_p); (case hM => with_reducible exact c9_within _ _ _ _ _); (case hc => exact rfl); (case hd => decide); conv => whnf)
      | ((with_reducible apply cl_p); (case hM => with_reducible exact c9_turnN _ _ _ _ (by omega)); (case hc => exact rfl); (case hd => decide); conv => whnf)
      | ((with_reducible apply cl_p); (case hM => exact (c9_taleAt2 X _ k)); (case hc => exact rfl); (case hd => decide); conv => whnf)
      | ((with_reducible apply cl_p); (case hM => exact (c9_taleAt3 X _ k)); (case hc => exact rfl); (case hd => decide); conv => whnf)
      | ((with_reducible apply cl_p); (case hM => exact (c9_taleAt4 X _ k)); (case hc => exact rfl); (case hd => decide); conv => whnf)
      | ((with_reducible apply cl_p); (case hM => exact (c9_taleAt5 X _ k)); (case hc => exact rfl); (case hd => decide); conv => whnf)
      | with_reducible refine Pm9.of ?_ ?_
      | ((with_reducible refine ckJ ?_ ?_); conv => whnf)
      | fail
    all_goals try simp (disch := omega) only [ev, ew, e1, e2, e3, nI_clamp, Int32.reduceToNatClampNeg]
    all_goals first | with_reducible rfl | with_reducible assumption | (simp (disch := omega) only [er, taIx, nI_toInt, Int.toNat_natCast, nI_clamp, mpa_0, mpa_1, mpa_2, mpa_3, mpa_9, mpa_10, mpa_11, mpa_12, mp70, mp71, mp72, mp73, mp79, mp80, mp81, mp82, wr_wr, wr_same, Int32.reduceToNatClampNeg, Int32.reduceToInt, Int.reduceToNat]; done) | (simp (disch := omega) only [er, taIx, nI_toInt, Int.toNat_natCast, nI_clamp, mpa_0, mpa_1, mpa_2, mpa_3, mpa_9, mpa_10, mpa_11, mpa_12, mp70, mp71, mp72, mp73, mp79, mp80, mp81, mp82, wr_wr, wr_same, Int32.reduceToNatClampNeg, Int32.reduceToInt, Int.reduceToNat]; with_reducible rfl) | (intro i hi; first | rfl | (simp (disch := omega) only [lo_wr, lo_sf]; done)) | decide | (refine vp_t ?_ ?_ <;> ((try simp (disch := omega) only [er, Int32.toInt_add, Int32.toInt_mul, Int32.toInt_sub, Int.bmod_def, Int32.reduceToInt, nI_toInt, Int32.reduceToNatClampNeg, ev, ew] at *); omega)) | rfl
  · obtain ⟨k, hk, rfl, hk2⟩ := in_T hN ‹isT (mp μ 1) t›
    refine Mt_of ck_X9_change mf_177 rfl ?_
    clear hW hN
    repeat' first
      | ((with_reducible refine gow ck_X9_change _ [] ?_); conv => whnf)
      | ((with_reducible refine bn_t ?_ ?_); (· first | assumption | decide); conv => whnf)
      | ((with_reducible refine bn_f ?_ ?_); (· first | assumption | decide); conv => whnf)
      | ((with_reducible refine bc_t ?_ ?_); (· first | assumption | decide); conv => whnf)
      | ((with_reducible refine bc_f ?_ ?_); (· first | assumption | decide); conv => whnf)
      | ((with_reducible refine br_t ?_ ?_); (· first | assumption | decide); conv => whnf)
      | ((with_reducible refine br_f ?_ ?_); (· first | assumption | decide); conv => whnf)
      | ((with_reducible refine br_nt ?_ ?_); (· first | assumption | decide); conv => whnf)
      | ((with_reducible refine br_nf ?_ ?_); (· first | assumption | decide); conv => whnf)
      | ((with_reducible refine ckI ?_ ?_); (· first | ((with_reducible refine vp_in_nI ?_ ?_); (· omega); (· decide)) | exact vp_c (by decide) | exact ⟨_, rfl⟩ | exact Or.inl rfl | exact Or.inr rfl | exact b2_01 _); conv => whnf)
      | ((with_reducible apply cl_p); (case hM => with_reducible exact c9_finding1 _ _); (case hc => exact rfl); (case hd => decide); conv => whnf)
      | ((with_reducible apply cl_p); (case hM => with_reducible exact c9_finding2 _ _); (case hc => exact rfl); (case hd => decide); conv => whnf)
      | ((with_reducible apply cl_p); (case hM => with_reducible exact c9_finding3 _ _); (case hc => exact rfl); (case hd => decide); conv => whnf)
      | ((with_reducible apply cl_p); (case hM => with_reducible exact c9_finding4 _ _); (case hc => exact rfl); (case hd => decide); conv => whnf)
      | ((with_reducible apply cl_p); (case hM => with_reducible exact c9_finding5 _ _); (case hc => exact rfl); (case hd => decide); conv => whnf)
      | ((with_reducible apply cl_p); (case hM => with_reducible exact c9_isTale _ _ _); (case hc => exact rfl); (case hd => decide); conv => whnf)
      | ((with_reducible apply cl_p); (case hM => with_reducible exact c9_isMarks _ _ _); (case hc => exact rfl); (case hd => decide); conv => whnf)
      | ((with_reducible apply cl_p); (case hM => with_reducible exact c9_isPlace _ _ _); (case hc => exact rfl); (case hd => decide); conv => whnf)
      | ((with_reducible apply cl_p); (case hM => with_reducible exact c9_within _ _ _ _ _); (case hc => exact rfl); (case hd => decide); conv => whnf)
      | ((with_reducible apply cl_p); (case hM => with_reducible exact c9_turnN _ _ _ _ (by omega)); (case hc => exact rfl); (case hd => decide); conv => whnf)
      | ((with_reducible apply cl_p); (case hM => exact (c9_taleAt2 X _ k)); (case hc => exact rfl); (case hd => decide); conv => whnf)
      | ((with_reducible apply cl_p); (case hM => exact (c9_taleAt3 X _ k)); (case hc => exact rfl); (case hd => decide); conv => whnf)
      | ((with_reducible apply cl_p); (case hM => exact (c9_taleAt4 X _ k)); (case hc => exact rfl); (case hd => decide); conv => whnf)
      | ((with_reducible apply cl_p); (case hM => exact (c9_taleAt5 X _ k)); (case hc => exact rfl); (case hd => decide); conv => whnf)
      | with_reducible refine Pm9.of ?_ ?_
      | ((with_reducible refine ckJ ?_ ?_); conv => whnf)
      | fail
    all_goals try simp (disch := omega) only [ev, ew, e1, e2, e3, nI_clamp, Int32.reduceToNatClampNeg]
    all_goals first | with_reducible rfl | with_reducible assumption | (simp (disch := omega) only [er, taIx, nI_toInt, Int.toNat_natCast, nI_clamp, mpa_0, mpa_1, mpa_2, mpa_3, mpa_9, mpa_10, mpa_11, mpa_12, mp70, mp71, mp72, mp73, mp79, mp80, mp81, mp82, wr_wr, wr_same, Int32.reduceToNatClampNeg, Int32.reduceToInt, Int.reduceToNat]; done) | (simp (disch := omega) only [er, taIx, nI_toInt, Int.toNat_natCast, nI_clamp, mpa_0, mpa_1, mpa_2, mpa_3, mpa_9, mpa_10, mpa_11, mpa_12, mp70, mp71, mp72, mp73, mp79, mp80, mp81, mp82, wr_wr, wr_same, Int32.reduceToNatClampNeg, Int32.reduceToInt, Int.reduceToNat]; with_reducible rfl) | (intro i hi; first | rfl | (simp (disch := omega) only [lo_wr, lo_sf]; done)) | decide | (refine vp_t ?_ ?_ <;> ((try simp (disch := omega) only [er, Int32.toInt_add, Int32.toInt_mul, Int32.toInt_sub, Int.bmod_def, Int32.reduceToInt, nI_toInt, Int32.reduceToNatClampNeg, ev, ew] at *); omega)) | rfl
  · obtain ⟨k, hk, rfl, hk2⟩ := in_T hN ‹isT (mp μ 1) t›
    refine Mt_of ck_X9_change mf_177 rfl ?_
    clear hW hN
    repeat' first
      | ((with_reducible refine gow ck_X9_change _ [] ?_); conv => whnf)
      | ((with_reducible refine bn_t ?_ ?_); (· first | assumption | decide); conv => whnf)
      | ((with_reducible refine bn_f ?_ ?_); (· first | assumption | decide); conv => whnf)
      | ((with_reducible refine bc_t ?_ ?_); (· first | assumption | decide); conv => whnf)
      | ((with_reducible refine bc_f ?_ ?_); (· first | assumption | decide); conv => whnf)
      | ((with_reducible refine br_t ?_ ?_); (· first | assumption | decide); conv => whnf)
      | ((with_reducible refine br_f ?_ ?_); (· first | assumption | decide); conv => whnf)
      | ((with_reducible refine br_nt ?_ ?_); (· first | assumption | decide); conv => whnf)
      | ((with_reducible refine br_nf ?_ ?_); (· first | assumption | decide); conv => whnf)
      | ((with_reducible refine ckI ?_ ?_); (· first | ((with_reducible refine vp_in_nI ?_ ?_); (· omega); (· decide)) | exact vp_c (by decide) | exact ⟨_, rfl⟩ | exact Or.inl rfl | exact Or.inr rfl | exact b2_01 _); conv => whnf)
      | ((with_reducible apply cl_p); (case hM => with_reducible exact c9_finding1 _ _); (case hc => exact rfl); (case hd => decide); conv => whnf)
      | ((with_reducible apply cl_p); (case hM => with_reducible exact c9_finding2 _ _); (case hc => exact rfl); (case hd => decide); conv => whnf)
      | ((with_reducible apply cl_p); (case hM => with_reducible exact c9_finding3 _ _); (case hc => exact rfl); (case hd => decide); conv => whnf)
      | ((with_reducible apply cl_p); (case hM => with_reducible exact c9_finding4 _ _); (case hc => exact rfl); (case hd => decide); conv => whnf)
      | ((with_reducible apply cl_p); (case hM => with_reducible exact c9_finding5 _ _); (case hc => exact rfl); (case hd => decide); conv => whnf)
      | ((with_reducible apply cl_p); (case hM => with_reducible exact c9_isTale _ _ _); (case hc => exact rfl); (case hd => decide); conv => whnf)
      | ((with_reducible apply cl_p); (case hM => with_reducible exact c9_isMarks _ _ _); (case hc => exact rfl); (case hd => decide); conv => whnf)
      | ((with_reducible apply cl_p); (case hM => with_reducible exact c9_isPlace _ _ _); (case hc => exact rfl); (case hd => decide); conv => whnf)
      | ((with_reducible apply cl_p); (case hM => with_reducible exact c9_within _ _ _ _ _); (case hc => exact rfl); (case hd => decide); conv => whnf)
      | ((with_reducible apply cl_p); (case hM => with_reducible exact c9_turnN _ _ _ _ (by omega)); (case hc => exact rfl); (case hd => decide); conv => whnf)
      | ((with_reducible apply cl_p); (case hM => exact (c9_taleAt2 X _ k)); (case hc => exact rfl); (case hd => decide); conv => whnf)
      | ((with_reducible apply cl_p); (case hM => exact (c9_taleAt3 X _ k)); (case hc => exact rfl); (case hd => decide); conv => whnf)
      | ((with_reducible apply cl_p); (case hM => exact (c9_taleAt4 X _ k)); (case hc => exact rfl); (case hd => decide); conv => whnf)
      | ((with_reducible apply cl_p); (case hM => exact (c9_taleAt5 X _ k)); (case hc => exact rfl); (case hd => decide); conv => whnf)
      | with_reducible refine Pm9.of ?_ ?_
      | ((with_reducible refine ckJ ?_ ?_); conv => whnf)
      | fail
    all_goals try simp (disch := omega) only [ev, ew, e1, e2, e3, nI_clamp, Int32.reduceToNatClampNeg]
    all_goals first | with_reducible rfl | with_reducible assumption | (simp (disch := omega) only [er, taIx, nI_toInt, Int.toNat_natCast, nI_clamp, mpa_0, mpa_1, mpa_2, mpa_3, mpa_9, mpa_10, mpa_11, mpa_12, mp70, mp71, mp72, mp73, mp79, mp80, mp81, mp82, wr_wr, wr_same, Int32.reduceToNatClampNeg, Int32.reduceToInt, Int.reduceToNat]; done) | (simp (disch := omega) only [er, taIx, nI_toInt, Int.toNat_natCast, nI_clamp, mpa_0, mpa_1, mpa_2, mpa_3, mpa_9, mpa_10, mpa_11, mpa_12, mp70, mp71, mp72, mp73, mp79, mp80, mp81, mp82, wr_wr, wr_same, Int32.reduceToNatClampNeg, Int32.reduceToInt, Int.reduceToNat]; with_reducible rfl) | (intro i hi; first | rfl | (simp (disch := omega) only [lo_wr, lo_sf]; done)) | decide | (refine vp_t ?_ ?_ <;> ((try simp (disch := omega) only [er, Int32.toInt_add, Int32.toInt_mul, Int32.toInt_sub, Int.bmod_def, Int32.reduceToInt, nI_toInt, Int32.reduceToNatClampNeg, ev, ew] at *); omega)) | rfl
  · refine Mt_of ck_X9_change mf_177 rfl ?_
    clear hW hN
    repeat' first
      | ((with_reducible refine gow ck_X9_change _ [] ?_); conv => whnf)
      | ((with_reducible refine bn_t ?_ ?_); (· first | assumption | decide); conv => whnf)
      | ((with_reducible refine bn_f ?_ ?_); (· first | assumption | decide); conv => whnf)
      | ((with_reducible refine bc_t ?_ ?_); (· first | assumption | decide); conv => whnf)
      | ((with_reducible refine bc_f ?_ ?_); (· first | assumption | decide); conv => whnf)
      | ((with_reducible refine br_t ?_ ?_); (· first | assumption | decide); conv => whnf)
      | ((with_reducible refine br_f ?_ ?_); (· first | assumption | decide); conv => whnf)
      | ((with_reducible refine br_nt ?_ ?_); (· first | assumption | decide); conv => whnf)
      | ((with_reducible refine br_nf ?_ ?_); (· first | assumption | decide); conv => whnf)
      | ((with_reducible refine bn_c (fun _ => ?_) (fun _ => ?_)) <;> conv => whnf)
      | ((with_reducible refine bc_c (fun _ => ?_) (fun _ => ?_)) <;> conv => whnf)
      | ((with_reducible refine br_c (fun _ => ?_) (fun _ => ?_)) <;> conv => whnf)
      | ((with_reducible refine br_n (fun _ => ?_) (fun _ => ?_)) <;> conv => whnf)
      | ((with_reducible refine ckI ?_ ?_); (· first | ((with_reducible refine vp_in_nI ?_ ?_); (· omega); (· decide)) | exact vp_c (by decide) | exact ⟨_, rfl⟩ | exact Or.inl rfl | exact Or.inr rfl | exact b2_01 _); conv => whnf)
      | ((with_reducible apply cl_p); (case hM => with_reducible exact c9_finding1 _ _); (case hc => exact rfl); (case hd => decide); conv => whnf)
      | ((with_reducible apply cl_p); (case hM => with_reducible exact c9_finding2 _ _); (case hc => exact rfl); (case hd => decide); conv => whnf)
      | ((with_reducible apply cl_p); (case hM => with_reducible exact c9_finding3 _ _); (case hc => exact rfl); (case hd => decide); conv => whnf)
      | ((with_reducible apply cl_p); (case hM => with_reducible exact c9_finding4 _ _); (case hc => exact rfl); (case hd => decide); conv => whnf)
      | ((with_reducible apply cl_p); (case hM => with_reducible exact c9_finding5 _ _); (case hc => exact rfl); (case hd => decide); conv => whnf)
      | ((with_reducible apply cl_p); (case hM => with_reducible exact c9_isTale _ _ _); (case hc => exact rfl); (case hd => decide); conv => whnf)
      | ((with_reducible apply cl_p); (case hM => with_reducible exact c9_isMarks _ _ _); (case hc => exact rfl); (case hd => decide); conv => whnf)
      | ((with_reducible apply cl_p); (case hM => with_reducible exact c9_isPlace _ _ _); (case hc => exact rfl); (case hd => decide); conv => whnf)
      | ((with_reducible apply cl_p); (case hM => with_reducible exact c9_within _ _ _ _ _); (case hc => exact rfl); (case hd => decide); conv => whnf)
      | ((with_reducible apply cl_p); (case hM => with_reducible exact c9_turnN _ _ _ _ (by omega)); (case hc => exact rfl); (case hd => decide); conv => whnf)
      | ((with_reducible apply cl_p); (case hM => exact (c9_taleAt2 X _ k)); (case hc => exact rfl); (case hd => decide); conv => whnf)
      | ((with_reducible apply cl_p); (case hM => exact (c9_taleAt3 X _ k)); (case hc => exact rfl); (case hd => decide); conv => whnf)
      | ((with_reducible apply cl_p); (case hM => exact (c9_taleAt4 X _ k)); (case hc => exact rfl); (case hd => decide); conv => whnf)
      | ((with_reducible apply cl_p); (case hM => exact (c9_taleAt5 X _ k)); (case hc => exact rfl); (case hd => decide); conv => whnf)
      | with_reducible refine Pm9.of ?_ ?_
      | ((with_reducible refine ckJ ?_ ?_); conv => whnf)
      | fail
    all_goals try simp (disch := omega) only [ev, ew, e1, e2, e3, nI_clamp, Int32.reduceToNatClampNeg]
    all_goals first | with_reducible rfl | with_reducible assumption | (simp (disch := omega) only [er, taIx, nI_toInt, Int.toNat_natCast, nI_clamp, mpa_0, mpa_1, mpa_2, mpa_3, mpa_9, mpa_10, mpa_11, mpa_12, mp70, mp71, mp72, mp73, mp79, mp80, mp81, mp82, wr_wr, wr_same, Int32.reduceToNatClampNeg, Int32.reduceToInt, Int.reduceToNat]; done) | (simp (disch := omega) only [er, taIx, nI_toInt, Int.toNat_natCast, nI_clamp, mpa_0, mpa_1, mpa_2, mpa_3, mpa_9, mpa_10, mpa_11, mpa_12, mp70, mp71, mp72, mp73, mp79, mp80, mp81, mp82, wr_wr, wr_same, Int32.reduceToNatClampNeg, Int32.reduceToInt, Int.reduceToNat]; with_reducible rfl) | (intro i hi; first | rfl | (simp (disch := omega) only [lo_wr, lo_sf]; done)) | decide | (refine vp_t ?_ ?_ <;> ((try simp (disch := omega) only [er, Int32.toInt_add, Int32.toInt_mul, Int32.toInt_sub, Int.bmod_def, Int32.reduceToInt, nI_toInt, Int32.reduceToNatClampNeg, ev, ew] at *); omega)) | rfl
theorem c9_taleComes (X : Cx) (μ : Mem) (km mk p : Int32) (w2 : 0 ≤ (μ 71 2).toInt ∧ (μ 71 2).toInt < 7) : Mt X m_X9_taleComes 1 [.ref 70, .int km, .int mk, .int p] μ (fun r μ' => r = some (.int (μ 71 2)) ∧ μ' = wr (wr (wr (wr (wr (wr (wr μ 71 (111 + 6 * (μ 71 2).toInt.toNat + 0) (km / 10)) 71 (111 + 6 * (μ 71 2).toInt.toNat + 1) (km - km / 10 * 10)) 71 (111 + 6 * (μ 71 2).toInt.toNat + 2) mk) 71 (111 + 6 * (μ 71 2).toInt.toNat + 3) 0) 71 (111 + 6 * (μ 71 2).toInt.toNat + 4) p) 71 (111 + 6 * (μ 71 2).toInt.toNat + 5) 0) 71 2 (μ 71 2 + 1)) := by
  have c0 : (111 + 6 * μ 71 2 + 0).toNatClampNeg = 111 + 6 * (μ 71 2).toInt.toNat + 0 := (ta_cl w2.1 w2.2 0 (by decide)).1
  have v0 : vp_in (111 + 6 * μ 71 2 + 0) 327 := (ta_cl w2.1 w2.2 0 (by decide)).2
  have c1 : (111 + 6 * μ 71 2 + 1).toNatClampNeg = 111 + 6 * (μ 71 2).toInt.toNat + 1 := (ta_cl w2.1 w2.2 1 (by decide)).1
  have v1 : vp_in (111 + 6 * μ 71 2 + 1) 327 := (ta_cl w2.1 w2.2 1 (by decide)).2
  have c2 : (111 + 6 * μ 71 2 + 2).toNatClampNeg = 111 + 6 * (μ 71 2).toInt.toNat + 2 := (ta_cl w2.1 w2.2 2 (by decide)).1
  have v2 : vp_in (111 + 6 * μ 71 2 + 2) 327 := (ta_cl w2.1 w2.2 2 (by decide)).2
  have c3 : (111 + 6 * μ 71 2 + 3).toNatClampNeg = 111 + 6 * (μ 71 2).toInt.toNat + 3 := (ta_cl w2.1 w2.2 3 (by decide)).1
  have v3 : vp_in (111 + 6 * μ 71 2 + 3) 327 := (ta_cl w2.1 w2.2 3 (by decide)).2
  have c4 : (111 + 6 * μ 71 2 + 4).toNatClampNeg = 111 + 6 * (μ 71 2).toInt.toNat + 4 := (ta_cl w2.1 w2.2 4 (by decide)).1
  have v4 : vp_in (111 + 6 * μ 71 2 + 4) 327 := (ta_cl w2.1 w2.2 4 (by decide)).2
  have c5 : (111 + 6 * μ 71 2 + 5).toNatClampNeg = 111 + 6 * (μ 71 2).toInt.toNat + 5 := (ta_cl w2.1 w2.2 5 (by decide)).1
  have v5 : vp_in (111 + 6 * μ 71 2 + 5) 327 := (ta_cl w2.1 w2.2 5 (by decide)).2
  refine Mt_of ck_X9_taleComes mf_164 rfl ?_
  repeat' first
    | ((with_reducible refine gow ck_X9_taleComes _ [] ?_); conv => whnf)
    | ((with_reducible refine bn_t ?_ ?_); (· first | assumption | decide); conv => whnf)
    | ((with_reducible refine bn_f ?_ ?_); (· first | assumption | decide); conv => whnf)
    | ((with_reducible refine bc_t ?_ ?_); (· first | assumption | decide); conv => whnf)
    | ((with_reducible refine bc_f ?_ ?_); (· first | assumption | decide); conv => whnf)
    | ((with_reducible refine br_t ?_ ?_); (· first | assumption | decide); conv => whnf)
    | ((with_reducible refine br_f ?_ ?_); (· first | assumption | decide); conv => whnf)
    | ((with_reducible refine br_nt ?_ ?_); (· first | assumption | decide); conv => whnf)
    | ((with_reducible refine br_nf ?_ ?_); (· first | assumption | decide); conv => whnf)
    | ((with_reducible refine bn_c (fun _ => ?_) (fun _ => ?_)) <;> conv => whnf)
    | ((with_reducible refine bc_c (fun _ => ?_) (fun _ => ?_)) <;> conv => whnf)
    | ((with_reducible refine br_c (fun _ => ?_) (fun _ => ?_)) <;> conv => whnf)
    | ((with_reducible refine br_n (fun _ => ?_) (fun _ => ?_)) <;> conv => whnf)
    | ((with_reducible refine ckI ?_ ?_); (· first | ((with_reducible refine vp_in_nI ?_ ?_); (· omega); (· decide)) | exact vp_c (by decide) | exact ⟨_, rfl⟩ | exact Or.inl rfl | exact Or.inr rfl | exact b2_01 _); conv => whnf)
    | ((with_reducible apply cl_p); (case hM => with_reducible exact c9_taleAt _ _ _ _); (case hc => exact rfl); (case hd => decide); conv => whnf)
    | ((with_reducible refine ckJ ?_ ?_); conv => whnf)
    | fail
  all_goals try simp (disch := omega) only [ev, ew, e1, e2, e3, nI_clamp, Int32.reduceToNatClampNeg]
  all_goals first | with_reducible rfl | (simp (disch := omega) only [c0, c1, c2, c3, c4, c5, wr_wr, true_and, and_self]; done) | with_reducible assumption | (simp (disch := omega) only [c0, c1, c2, c3, c4, c5, taIx, nI_toInt, Int.toNat_natCast, nI_clamp, mpa_0, mpa_1, mpa_2, mpa_3, mpa_9, mpa_10, mpa_11, mpa_12, mp70, mp71, mp72, mp73, mp79, mp80, mp81, mp82, wr_wr, wr_same, Int32.reduceToNatClampNeg, Int32.reduceToInt, Int.reduceToNat]; done) | (simp (disch := omega) only [c0, c1, c2, c3, c4, c5, taIx, nI_toInt, Int.toNat_natCast, nI_clamp, mpa_0, mpa_1, mpa_2, mpa_3, mpa_9, mpa_10, mpa_11, mpa_12, mp70, mp71, mp72, mp73, mp79, mp80, mp81, mp82, wr_wr, wr_same, Int32.reduceToNatClampNeg, Int32.reduceToInt, Int.reduceToNat]; with_reducible rfl) | (intro i hi; first | rfl | (simp (disch := omega) only [lo_wr, lo_sf]; done)) | decide | (refine vp_t ?_ ?_ <;> ((try simp (disch := omega) only [c0, c1, c2, c3, c4, c5, Int32.toInt_add, Int32.toInt_mul, Int32.toInt_sub, Int.bmod_def, Int32.reduceToInt, nI_toInt, Int32.reduceToNatClampNeg, ev, ew] at *); omega)) | rfl
theorem r_tale (X : Cx) (μ : Mem) (km mk p : Int32) (hW : WFS (mp μ)) : Mt X m_X9_tale 4 [.ref 70, .int km, .int mk, .int p] μ (Pm9 μ (sp_tale (mp μ) km mk p)) := by
  have hN : WN (mp μ 1) := hW.1
  have w2 : 0 ≤ (μ 71 2).toInt ∧ (μ 71 2).toInt ≤ 7 := hN.2.2.1
  unfold sp_tale
  (repeat' split)
  · refine Mt_of ck_X9_tale mf_165 rfl ?_
    clear hW hN
    repeat' first
      | ((with_reducible refine gow ck_X9_tale _ [] ?_); conv => whnf)
      | ((with_reducible refine bn_t ?_ ?_); (· first | assumption | decide); conv => whnf)
      | ((with_reducible refine bn_f ?_ ?_); (· first | assumption | decide); conv => whnf)
      | ((with_reducible refine bc_t ?_ ?_); (· first | assumption | decide); conv => whnf)
      | ((with_reducible refine bc_f ?_ ?_); (· first | assumption | decide); conv => whnf)
      | ((with_reducible refine br_t ?_ ?_); (· first | assumption | decide); conv => whnf)
      | ((with_reducible refine br_f ?_ ?_); (· first | assumption | decide); conv => whnf)
      | ((with_reducible refine br_nt ?_ ?_); (· first | assumption | decide); conv => whnf)
      | ((with_reducible refine br_nf ?_ ?_); (· first | assumption | decide); conv => whnf)
      | ((with_reducible refine ckI ?_ ?_); (· first | ((with_reducible refine vp_in_nI ?_ ?_); (· omega); (· decide)) | exact vp_c (by decide) | exact ⟨_, rfl⟩ | exact Or.inl rfl | exact Or.inr rfl | exact b2_01 _); conv => whnf)
      | ((with_reducible apply cl_p); (case hM => with_reducible exact c9_finding1 _ _); (case hc => exact rfl); (case hd => decide); conv => whnf)
      | ((with_reducible apply cl_p); (case hM => with_reducible exact c9_finding2 _ _); (case hc => exact rfl); (case hd => decide); conv => whnf)
      | ((with_reducible apply cl_p); (case hM => with_reducible exact c9_finding3 _ _); (case hc => exact rfl); (case hd => decide); conv => whnf)
      | ((with_reducible apply cl_p); (case hM => with_reducible exact c9_finding4 _ _); (case hc => exact rfl); (case hd => decide); conv => whnf)
      | ((with_reducible apply cl_p); (case hM => with_reducible exact c9_finding5 _ _); (case hc => exact rfl); (case hd => decide); conv => whnf)
      | ((with_reducible apply cl_p); (case hM => with_reducible exact c9_isKindM _ _ _); (case hc => exact rfl); (case hd => decide); conv => whnf)
      | ((with_reducible apply cl_p); (case hM => with_reducible exact c9_isMarks _ _ _); (case hc => exact rfl); (case hd => decide); conv => whnf)
      | ((with_reducible apply cl_p); (case hM => with_reducible exact c9_isPlace _ _ _); (case hc => exact rfl); (case hd => decide); conv => whnf)
      | ((with_reducible apply cl_p); (case hM => exact c9_taleComes _ _ _ _ _ w2); (case hc => exact rfl); (case hd => decide); conv => whnf)
      | with_reducible refine Pm9.of ?_ ?_
      | ((with_reducible refine ckJ ?_ ?_); conv => whnf)
      | fail
    all_goals try simp (disch := omega) only [ev, ew, e1, e2, e3, nI_clamp, Int32.reduceToNatClampNeg]
    all_goals first | with_reducible rfl | with_reducible assumption | (simp (disch := omega) only [er, taIx, nI_toInt, Int.toNat_natCast, nI_clamp, mpa_0, mpa_1, mpa_2, mpa_3, mpa_9, mpa_10, mpa_11, mpa_12, mp70, mp71, mp72, mp73, mp79, mp80, mp81, mp82, wr_wr, wr_same, Int32.reduceToNatClampNeg, Int32.reduceToInt, Int.reduceToNat]; done) | (simp (disch := omega) only [er, taIx, nI_toInt, Int.toNat_natCast, nI_clamp, mpa_0, mpa_1, mpa_2, mpa_3, mpa_9, mpa_10, mpa_11, mpa_12, mp70, mp71, mp72, mp73, mp79, mp80, mp81, mp82, wr_wr, wr_same, Int32.reduceToNatClampNeg, Int32.reduceToInt, Int.reduceToNat]; with_reducible rfl) | (intro i hi; first | rfl | (simp (disch := omega) only [lo_wr, lo_sf]; done)) | decide | (refine vp_t ?_ ?_ <;> ((try simp (disch := omega) only [er, Int32.toInt_add, Int32.toInt_mul, Int32.toInt_sub, Int.bmod_def, Int32.reduceToInt, nI_toInt, Int32.reduceToNatClampNeg, ev, ew] at *); omega)) | rfl
  · obtain ⟨w2, w3⟩ := w2
    have w2 : 0 ≤ (μ 71 2).toInt ∧ (μ 71 2).toInt < 7 := by
      have h : ¬ μ 71 2 = 7 := by assumption
      simp only [← Int32.toInt_inj, Int32.reduceToInt] at h
      omega
    refine Mt_of ck_X9_tale mf_165 rfl ?_
    clear hW hN
    repeat' first
      | ((with_reducible refine gow ck_X9_tale _ [] ?_); conv => whnf)
      | ((with_reducible refine bn_t ?_ ?_); (· first | assumption | decide); conv => whnf)
      | ((with_reducible refine bn_f ?_ ?_); (· first | assumption | decide); conv => whnf)
      | ((with_reducible refine bc_t ?_ ?_); (· first | assumption | decide); conv => whnf)
      | ((with_reducible refine bc_f ?_ ?_); (· first | assumption | decide); conv => whnf)
      | ((with_reducible refine br_t ?_ ?_); (· first | assumption | decide); conv => whnf)
      | ((with_reducible refine br_f ?_ ?_); (· first | assumption | decide); conv => whnf)
      | ((with_reducible refine br_nt ?_ ?_); (· first | assumption | decide); conv => whnf)
      | ((with_reducible refine br_nf ?_ ?_); (· first | assumption | decide); conv => whnf)
      | ((with_reducible refine ckI ?_ ?_); (· first | ((with_reducible refine vp_in_nI ?_ ?_); (· omega); (· decide)) | exact vp_c (by decide) | exact ⟨_, rfl⟩ | exact Or.inl rfl | exact Or.inr rfl | exact b2_01 _); conv => whnf)
      | ((with_reducible apply cl_p); (case hM => with_reducible exact c9_finding1 _ _); (case hc => exact rfl); (case hd => decide); conv => whnf)
      | ((with_reducible apply cl_p); (case hM => with_reducible exact c9_finding2 _ _); (case hc => exact rfl); (case hd => decide); conv => whnf)
      | ((with_reducible apply cl_p); (case hM => with_reducible exact c9_finding3 _ _); (case hc => exact rfl); (case hd => decide); conv => whnf)
      | ((with_reducible apply cl_p); (case hM => with_reducible exact c9_finding4 _ _); (case hc => exact rfl); (case hd => decide); conv => whnf)
      | ((with_reducible apply cl_p); (case hM => with_reducible exact c9_finding5 _ _); (case hc => exact rfl); (case hd => decide); conv => whnf)
      | ((with_reducible apply cl_p); (case hM => with_reducible exact c9_isKindM _ _ _); (case hc => exact rfl); (case hd => decide); conv => whnf)
      | ((with_reducible apply cl_p); (case hM => with_reducible exact c9_isMarks _ _ _); (case hc => exact rfl); (case hd => decide); conv => whnf)
      | ((with_reducible apply cl_p); (case hM => with_reducible exact c9_isPlace _ _ _); (case hc => exact rfl); (case hd => decide); conv => whnf)
      | ((with_reducible apply cl_p); (case hM => exact c9_taleComes _ _ _ _ _ w2); (case hc => exact rfl); (case hd => decide); conv => whnf)
      | with_reducible refine Pm9.of ?_ ?_
      | ((with_reducible refine ckJ ?_ ?_); conv => whnf)
      | fail
    all_goals try simp (disch := omega) only [ev, ew, e1, e2, e3, nI_clamp, Int32.reduceToNatClampNeg]
    all_goals first | with_reducible rfl | with_reducible assumption | (simp (disch := omega) only [er, taIx, nI_toInt, Int.toNat_natCast, nI_clamp, mpa_0, mpa_1, mpa_2, mpa_3, mpa_9, mpa_10, mpa_11, mpa_12, mp70, mp71, mp72, mp73, mp79, mp80, mp81, mp82, wr_wr, wr_same, Int32.reduceToNatClampNeg, Int32.reduceToInt, Int.reduceToNat]; done) | (simp (disch := omega) only [er, taIx, nI_toInt, Int.toNat_natCast, nI_clamp, mpa_0, mpa_1, mpa_2, mpa_3, mpa_9, mpa_10, mpa_11, mpa_12, mp70, mp71, mp72, mp73, mp79, mp80, mp81, mp82, wr_wr, wr_same, Int32.reduceToNatClampNeg, Int32.reduceToInt, Int.reduceToNat]; with_reducible rfl) | (intro i hi; first | rfl | (simp (disch := omega) only [lo_wr, lo_sf]; done)) | decide | (refine vp_t ?_ ?_ <;> ((try simp (disch := omega) only [er, Int32.toInt_add, Int32.toInt_mul, Int32.toInt_sub, Int.bmod_def, Int32.reduceToInt, nI_toInt, Int32.reduceToNatClampNeg, ev, ew] at *); omega)) | rfl
  · refine Mt_of ck_X9_tale mf_165 rfl ?_
    clear hW hN
    repeat' first
      | ((with_reducible refine gow ck_X9_tale _ [] ?_); conv => whnf)
      | ((with_reducible refine bn_t ?_ ?_); (· first | assumption | decide); conv => whnf)
      | ((with_reducible refine bn_f ?_ ?_); (· first | assumption | decide); conv => whnf)
      | ((with_reducible refine bc_t ?_ ?_); (· first | assumption | decide); conv => whnf)
      | ((with_reducible refine bc_f ?_ ?_); (· first | assumption | decide); conv => whnf)
      | ((with_reducible refine br_t ?_ ?_); (· first | assumption | decide); conv => whnf)
      | ((with_reducible refine br_f ?_ ?_); (· first | assumption | decide); conv => whnf)
      | ((with_reducible refine br_nt ?_ ?_); (· first | assumption | decide); conv => whnf)
      | ((with_reducible refine br_nf ?_ ?_); (· first | assumption | decide); conv => whnf)
      | ((with_reducible refine ckI ?_ ?_); (· first | ((with_reducible refine vp_in_nI ?_ ?_); (· omega); (· decide)) | exact vp_c (by decide) | exact ⟨_, rfl⟩ | exact Or.inl rfl | exact Or.inr rfl | exact b2_01 _); conv => whnf)
      | ((with_reducible apply cl_p); (case hM => with_reducible exact c9_finding1 _ _); (case hc => exact rfl); (case hd => decide); conv => whnf)
      | ((with_reducible apply cl_p); (case hM => with_reducible exact c9_finding2 _ _); (case hc => exact rfl); (case hd => decide); conv => whnf)
      | ((with_reducible apply cl_p); (case hM => with_reducible exact c9_finding3 _ _); (case hc => exact rfl); (case hd => decide); conv => whnf)
      | ((with_reducible apply cl_p); (case hM => with_reducible exact c9_finding4 _ _); (case hc => exact rfl); (case hd => decide); conv => whnf)
      | ((with_reducible apply cl_p); (case hM => with_reducible exact c9_finding5 _ _); (case hc => exact rfl); (case hd => decide); conv => whnf)
      | ((with_reducible apply cl_p); (case hM => with_reducible exact c9_isKindM _ _ _); (case hc => exact rfl); (case hd => decide); conv => whnf)
      | ((with_reducible apply cl_p); (case hM => with_reducible exact c9_isMarks _ _ _); (case hc => exact rfl); (case hd => decide); conv => whnf)
      | ((with_reducible apply cl_p); (case hM => with_reducible exact c9_isPlace _ _ _); (case hc => exact rfl); (case hd => decide); conv => whnf)
      | ((with_reducible apply cl_p); (case hM => exact c9_taleComes _ _ _ _ _ w2); (case hc => exact rfl); (case hd => decide); conv => whnf)
      | with_reducible refine Pm9.of ?_ ?_
      | ((with_reducible refine ckJ ?_ ?_); conv => whnf)
      | fail
    all_goals try simp (disch := omega) only [ev, ew, e1, e2, e3, nI_clamp, Int32.reduceToNatClampNeg]
    all_goals first | with_reducible rfl | with_reducible assumption | (simp (disch := omega) only [er, taIx, nI_toInt, Int.toNat_natCast, nI_clamp, mpa_0, mpa_1, mpa_2, mpa_3, mpa_9, mpa_10, mpa_11, mpa_12, mp70, mp71, mp72, mp73, mp79, mp80, mp81, mp82, wr_wr, wr_same, Int32.reduceToNatClampNeg, Int32.reduceToInt, Int.reduceToNat]; done) | (simp (disch := omega) only [er, taIx, nI_toInt, Int.toNat_natCast, nI_clamp, mpa_0, mpa_1, mpa_2, mpa_3, mpa_9, mpa_10, mpa_11, mpa_12, mp70, mp71, mp72, mp73, mp79, mp80, mp81, mp82, wr_wr, wr_same, Int32.reduceToNatClampNeg, Int32.reduceToInt, Int.reduceToNat]; with_reducible rfl) | (intro i hi; first | rfl | (simp (disch := omega) only [lo_wr, lo_sf]; done)) | decide | (refine vp_t ?_ ?_ <;> ((try simp (disch := omega) only [er, Int32.toInt_add, Int32.toInt_mul, Int32.toInt_sub, Int.bmod_def, Int32.reduceToInt, nI_toInt, Int32.reduceToNatClampNeg, ev, ew] at *); omega)) | rfl
  · refine Mt_of ck_X9_tale mf_165 rfl ?_
    clear hW hN
    repeat' first
      | ((with_reducible refine gow ck_X9_tale _ [] ?_); conv => whnf)
      | ((with_reducible refine bn_t ?_ ?_); (· first | assumption | decide); conv => whnf)
      | ((with_reducible refine bn_f ?_ ?_); (· first | assumption | decide); conv => whnf)
      | ((with_reducible refine bc_t ?_ ?_); (· first | assumption | decide); conv => whnf)
      | ((with_reducible refine bc_f ?_ ?_); (· first | assumption | decide); conv => whnf)
      | ((with_reducible refine br_t ?_ ?_); (· first | assumption | decide); conv => whnf)
      | ((with_reducible refine br_f ?_ ?_); (· first | assumption | decide); conv => whnf)
      | ((with_reducible refine br_nt ?_ ?_); (· first | assumption | decide); conv => whnf)
      | ((with_reducible refine br_nf ?_ ?_); (· first | assumption | decide); conv => whnf)
      | ((with_reducible refine ckI ?_ ?_); (· first | ((with_reducible refine vp_in_nI ?_ ?_); (· omega); (· decide)) | exact vp_c (by decide) | exact ⟨_, rfl⟩ | exact Or.inl rfl | exact Or.inr rfl | exact b2_01 _); conv => whnf)
      | ((with_reducible apply cl_p); (case hM => with_reducible exact c9_finding1 _ _); (case hc => exact rfl); (case hd => decide); conv => whnf)
      | ((with_reducible apply cl_p); (case hM => with_reducible exact c9_finding2 _ _); (case hc => exact rfl); (case hd => decide); conv => whnf)
      | ((with_reducible apply cl_p); (case hM => with_reducible exact c9_finding3 _ _); (case hc => exact rfl); (case hd => decide); conv => whnf)
      | ((with_reducible apply cl_p); (case hM => with_reducible exact c9_finding4 _ _); (case hc => exact rfl); (case hd => decide); conv => whnf)
      | ((with_reducible apply cl_p); (case hM => with_reducible exact c9_finding5 _ _); (case hc => exact rfl); (case hd => decide); conv => whnf)
      | ((with_reducible apply cl_p); (case hM => with_reducible exact c9_isKindM _ _ _); (case hc => exact rfl); (case hd => decide); conv => whnf)
      | ((with_reducible apply cl_p); (case hM => with_reducible exact c9_isMarks _ _ _); (case hc => exact rfl); (case hd => decide); conv => whnf)
      | ((with_reducible apply cl_p); (case hM => with_reducible exact c9_isPlace _ _ _); (case hc => exact rfl); (case hd => decide); conv => whnf)
      | ((with_reducible apply cl_p); (case hM => exact c9_taleComes _ _ _ _ _ w2); (case hc => exact rfl); (case hd => decide); conv => whnf)
      | with_reducible refine Pm9.of ?_ ?_
      | ((with_reducible refine ckJ ?_ ?_); conv => whnf)
      | fail
    all_goals try simp (disch := omega) only [ev, ew, e1, e2, e3, nI_clamp, Int32.reduceToNatClampNeg]
    all_goals first | with_reducible rfl | with_reducible assumption | (simp (disch := omega) only [er, taIx, nI_toInt, Int.toNat_natCast, nI_clamp, mpa_0, mpa_1, mpa_2, mpa_3, mpa_9, mpa_10, mpa_11, mpa_12, mp70, mp71, mp72, mp73, mp79, mp80, mp81, mp82, wr_wr, wr_same, Int32.reduceToNatClampNeg, Int32.reduceToInt, Int.reduceToNat]; done) | (simp (disch := omega) only [er, taIx, nI_toInt, Int.toNat_natCast, nI_clamp, mpa_0, mpa_1, mpa_2, mpa_3, mpa_9, mpa_10, mpa_11, mpa_12, mp70, mp71, mp72, mp73, mp79, mp80, mp81, mp82, wr_wr, wr_same, Int32.reduceToNatClampNeg, Int32.reduceToInt, Int.reduceToNat]; with_reducible rfl) | (intro i hi; first | rfl | (simp (disch := omega) only [lo_wr, lo_sf]; done)) | decide | (refine vp_t ?_ ?_ <;> ((try simp (disch := omega) only [er, Int32.toInt_add, Int32.toInt_mul, Int32.toInt_sub, Int.bmod_def, Int32.reduceToInt, nI_toInt, Int32.reduceToNatClampNeg, ev, ew] at *); omega)) | rfl
  · refine Mt_of ck_X9_tale mf_165 rfl ?_
    clear hW hN
    repeat' first
      | ((with_reducible refine gow ck_X9_tale _ [] ?_); conv => whnf)
      | ((with_reducible refine bn_t ?_ ?_); (· first | assumption | decide); conv => whnf)
      | ((with_reducible refine bn_f ?_ ?_); (· first | assumption | decide); conv => whnf)
      | ((with_reducible refine bc_t ?_ ?_); (· first | assumption | decide); conv => whnf)
      | ((with_reducible refine bc_f ?_ ?_); (· first | assumption | decide); conv => whnf)
      | ((with_reducible refine br_t ?_ ?_); (· first | assumption | decide); conv => whnf)
      | ((with_reducible refine br_f ?_ ?_); (· first | assumption | decide); conv => whnf)
      | ((with_reducible refine br_nt ?_ ?_); (· first | assumption | decide); conv => whnf)
      | ((with_reducible refine br_nf ?_ ?_); (· first | assumption | decide); conv => whnf)
      | ((with_reducible refine ckI ?_ ?_); (· first | ((with_reducible refine vp_in_nI ?_ ?_); (· omega); (· decide)) | exact vp_c (by decide) | exact ⟨_, rfl⟩ | exact Or.inl rfl | exact Or.inr rfl | exact b2_01 _); conv => whnf)
      | ((with_reducible apply cl_p); (case hM => with_reducible exact c9_finding1 _ _); (case hc => exact rfl); (case hd => decide); conv => whnf)
      | ((with_reducible apply cl_p); (case hM => with_reducible exact c9_finding2 _ _); (case hc => exact rfl); (case hd => decide); conv => whnf)
      | ((with_reducible apply cl_p); (case hM => with_reducible exact c9_finding3 _ _); (case hc => exact rfl); (case hd => decide); conv => whnf)
      | ((with_reducible apply cl_p); (case hM => with_reducible exact c9_finding4 _ _); (case hc => exact rfl); (case hd => decide); conv => whnf)
      | ((with_reducible apply cl_p); (case hM => with_reducible exact c9_finding5 _ _); (case hc => exact rfl); (case hd => decide); conv => whnf)
      | ((with_reducible apply cl_p); (case hM => with_reducible exact c9_isKindM _ _ _); (case hc => exact rfl); (case hd => decide); conv => whnf)
      | ((with_reducible apply cl_p); (case hM => with_reducible exact c9_isMarks _ _ _); (case hc => exact rfl); (case hd => decide); conv => whnf)
      | ((with_reducible apply cl_p); (case hM => with_reducible exact c9_isPlace _ _ _); (case hc => exact rfl); (case hd => decide); conv => whnf)
      | ((with_reducible apply cl_p); (case hM => exact c9_taleComes _ _ _ _ _ w2); (case hc => exact rfl); (case hd => decide); conv => whnf)
      | with_reducible refine Pm9.of ?_ ?_
      | ((with_reducible refine ckJ ?_ ?_); conv => whnf)
      | fail
    all_goals try simp (disch := omega) only [ev, ew, e1, e2, e3, nI_clamp, Int32.reduceToNatClampNeg]
    all_goals first | with_reducible rfl | with_reducible assumption | (simp (disch := omega) only [er, taIx, nI_toInt, Int.toNat_natCast, nI_clamp, mpa_0, mpa_1, mpa_2, mpa_3, mpa_9, mpa_10, mpa_11, mpa_12, mp70, mp71, mp72, mp73, mp79, mp80, mp81, mp82, wr_wr, wr_same, Int32.reduceToNatClampNeg, Int32.reduceToInt, Int.reduceToNat]; done) | (simp (disch := omega) only [er, taIx, nI_toInt, Int.toNat_natCast, nI_clamp, mpa_0, mpa_1, mpa_2, mpa_3, mpa_9, mpa_10, mpa_11, mpa_12, mp70, mp71, mp72, mp73, mp79, mp80, mp81, mp82, wr_wr, wr_same, Int32.reduceToNatClampNeg, Int32.reduceToInt, Int.reduceToNat]; with_reducible rfl) | (intro i hi; first | rfl | (simp (disch := omega) only [lo_wr, lo_sf]; done)) | decide | (refine vp_t ?_ ?_ <;> ((try simp (disch := omega) only [er, Int32.toInt_add, Int32.toInt_mul, Int32.toInt_sub, Int.bmod_def, Int32.reduceToInt, nI_toInt, Int32.reduceToNatClampNeg, ev, ew] at *); omega)) | rfl
