theorem r_between (X : Cx) (μ : Mem) (a b w : Int32) (hW : WFS (mp μ)) : Mt X m_X9_between 4 [.ref 70, .int a, .int b, .int w] μ (Pm9 μ (sp_between (mp μ) a b w)) := by
  have hN : WN (mp μ 1) := hW.1
  unfold sp_between
  (repeat' split)
  · obtain ⟨⟨ha, hb⟩, hab⟩ := ‹two (mp μ 1) a b›
    have htwo : two (μ 71) a b := ⟨⟨ha, hb⟩, hab⟩
    obtain ⟨i, hi, rfl, -⟩ := in_P hN ha
    obtain ⟨j, hj, rfl, -⟩ := in_P hN hb
    refine Mt_of ck_X9_between mf_159 rfl ?_
    clear hW hN
    repeat' first
      | ((with_reducible refine gow ck_X9_between _ [] ?_); conv => whnf)
      | ((with_reducible refine bn_t ?_ ?_); (· first | assumption | decide); conv => whnf)
      | ((with_reducible refine bn_f ?_ ?_); (· first | assumption | decide); conv => whnf)
      | ((with_reducible refine bc_t ?_ ?_); (· first | assumption | decide); conv => whnf)
      | ((with_reducible refine bc_f ?_ ?_); (· first | assumption | decide); conv => whnf)
      | ((with_reducible refine br_t ?_ ?_); (· first | assumption | decide); conv => whnf)
      | ((with_reducible refine br_f ?_ ?_); (· first | assumption | decide); conv => whnf)
      | ((with_reducible refine br_nt ?_ ?_); (· first | assumption | decide); conv => whnf)
      | ((with_reducible refine br_nf ?_ ?_); (· first | assumption | decide); conv => whnf)
      | ((with_reducible refine ckI ?_ ?_); (· first | ((with_reducible refine vp_in_nI ?_ ?_); (· omega); (· decide)) | exact vp_c (by decide) | exact ⟨_, rfl⟩ | exact Or.inl rfl | exact Or.inr rfl | exact b2_01 _); conv => whnf)
      | ((with_reducible apply cl_p); (case hM => with_reducible exact c9_finding1 _ _); (case hc => exact rfl); (case hd => decide); conv => whnf)
      | ((with_reducible apply cl_p); (case hM => with_reducible exact c9_finding2 _ _); (case hc => exact rfl); (case hd => decide); conv => whnf)
      | ((with_reducible apply cl_p); (case hM => with_reducible exact c9_finding3 _ _); (case hc => exact rfl); (case hd => decide); conv => whnf)
      | ((with_reducible apply cl_p); (case hM => with_reducible exact c9_finding4 _ _); (case hc => exact rfl); (case hd => decide); conv => whnf)
      | ((with_reducible apply cl_p); (case hM => with_reducible exact c9_finding5 _ _); (case hc => exact rfl); (case hd => decide); conv => whnf)
      | ((with_reducible apply cl_p); (case hM => with_reducible exact c9_areTwo _ _ _ _); (case hc => exact rfl); (case hd => decide); conv => whnf)
      | ((with_reducible apply cl_p); (case hM => with_reducible exact c9_within _ _ _ _ _); (case hc => exact rfl); (case hd => decide); conv => whnf)
      | ((with_reducible apply cl_p); (case hM => with_reducible exact c9_yardsOf _ _ _ _ (by omega) (by omega)); (case hc => exact rfl); (case hd => decide); conv => whnf)
      | ((with_reducible apply cl_p); (case hM => with_reducible exact c9_tollOf _ _ _ _ (by omega) (by omega)); (case hc => exact rfl); (case hd => decide); conv => whnf)
      | with_reducible refine Pm9.of ?_ ?_
      | ((with_reducible refine ckJ ?_ ?_); conv => whnf)
      | fail
    all_goals try simp (disch := omega) only [ev, ew, e1, e2, e3, nI_clamp, Int32.reduceToNatClampNeg]
    all_goals first | with_reducible rfl | with_reducible assumption | (simp (disch := omega) only [yd, tl, er, taIx, nI_toInt, Int.toNat_natCast, nI_clamp, mpa_0, mpa_1, mpa_2, mpa_3, mpa_9, mpa_10, mpa_11, mpa_12, mp70, mp71, mp72, mp73, mp79, mp80, mp81, mp82, wr_wr, wr_same, Int32.reduceToNatClampNeg, Int32.reduceToInt, Int.reduceToNat]; done) | (simp (disch := omega) only [yd, tl, er, taIx, nI_toInt, Int.toNat_natCast, nI_clamp, mpa_0, mpa_1, mpa_2, mpa_3, mpa_9, mpa_10, mpa_11, mpa_12, mp70, mp71, mp72, mp73, mp79, mp80, mp81, mp82, wr_wr, wr_same, Int32.reduceToNatClampNeg, Int32.reduceToInt, Int.reduceToNat]; with_reducible rfl) | (intro i hi; first | rfl | (simp (disch := omega) only [lo_wr, mf_lo])) | decide | (refine vp_t ?_ ?_ <;> ((try simp (disch := omega) only [yd, tl, er, Int32.toInt_add, Int32.toInt_mul, Int32.toInt_sub, Int.bmod_def, Int32.reduceToInt, nI_toInt, Int32.reduceToNatClampNeg, ev, ew] at *); omega)) | rfl
  · obtain ⟨⟨ha, hb⟩, hab⟩ := ‹two (mp μ 1) a b›
    have htwo : two (μ 71) a b := ⟨⟨ha, hb⟩, hab⟩
    obtain ⟨i, hi, rfl, -⟩ := in_P hN ha
    obtain ⟨j, hj, rfl, -⟩ := in_P hN hb
    refine Mt_of ck_X9_between mf_159 rfl ?_
    clear hW hN
    repeat' first
      | ((with_reducible refine gow ck_X9_between _ [] ?_); conv => whnf)
      | ((with_reducible refine bn_t ?_ ?_); (· first | assumption | decide); conv => whnf)
      | ((with_reducible refine bn_f ?_ ?_); (· first | assumption | decide); conv => whnf)
      | ((with_reducible refine bc_t ?_ ?_); (· first | assumption | decide); conv => whnf)
      | ((with_reducible refine bc_f ?_ ?_); (· first | assumption | decide); conv => whnf)
      | ((with_reducible refine br_t ?_ ?_); (· first | assumption | decide); conv => whnf)
      | ((with_reducible refine br_f ?_ ?_); (· first | assumption | decide); conv => whnf)
      | ((with_reducible refine br_nt ?_ ?_); (· first | assumption | decide); conv => whnf)
      | ((with_reducible refine br_nf ?_ ?_); (· first | assumption | decide); conv => whnf)
      | ((with_reducible refine ckI ?_ ?_); (· first | ((with_reducible refine vp_in_nI ?_ ?_); (· omega); (· decide)) | exact vp_c (by decide) | exact ⟨_, rfl⟩ | exact Or.inl rfl | exact Or.inr rfl | exact b2_01 _); conv => whnf)
      | ((with_reducible apply cl_p); (case hM => with_reducible exact c9_finding1 _ _); (case hc => exact rfl); (case hd => decide); conv => whnf)
      | ((with_reducible apply cl_p); (case hM => with_reducible exact c9_finding2 _ _); (case hc => exact rfl); (case hd => decide); conv => whnf)
      | ((with_reducible apply cl_p); (case hM => with_reducible exact c9_finding3 _ _); (case hc => exact rfl); (case hd => decide); conv => whnf)
      | ((with_reducible apply cl_p); (case hM => with_reducible exact c9_finding4 _ _); (case hc => exact rfl); (case hd => decide); conv => whnf)
      | ((with_reducible apply cl_p); (case hM => with_reducible exact c9_finding5 _ _); (case hc => exact rfl); (case hd => decide); conv => whnf)
      | ((with_reducible apply cl_p); (case hM => with_reducible exact c9_areTwo _ _ _ _); (case hc => exact rfl); (case hd => decide); conv => whnf)
      | ((with_reducible apply cl_p); (case hM => with_reducible exact c9_within _ _ _ _ _); (case hc => exact rfl); (case hd => decide); conv => whnf)
      | ((with_reducible apply cl_p); (case hM => with_reducible exact c9_yardsOf _ _ _ _ (by omega) (by omega)); (case hc => exact rfl); (case hd => decide); conv => whnf)
      | ((with_reducible apply cl_p); (case hM => with_reducible exact c9_tollOf _ _ _ _ (by omega) (by omega)); (case hc => exact rfl); (case hd => decide); conv => whnf)
      | with_reducible refine Pm9.of ?_ ?_
      | ((with_reducible refine ckJ ?_ ?_); conv => whnf)
      | fail
    all_goals try simp (disch := omega) only [ev, ew, e1, e2, e3, nI_clamp, Int32.reduceToNatClampNeg]
    all_goals first | with_reducible rfl | with_reducible assumption | (simp (disch := omega) only [yd, tl, er, taIx, nI_toInt, Int.toNat_natCast, nI_clamp, mpa_0, mpa_1, mpa_2, mpa_3, mpa_9, mpa_10, mpa_11, mpa_12, mp70, mp71, mp72, mp73, mp79, mp80, mp81, mp82, wr_wr, wr_same, Int32.reduceToNatClampNeg, Int32.reduceToInt, Int.reduceToNat]; done) | (simp (disch := omega) only [yd, tl, er, taIx, nI_toInt, Int.toNat_natCast, nI_clamp, mpa_0, mpa_1, mpa_2, mpa_3, mpa_9, mpa_10, mpa_11, mpa_12, mp70, mp71, mp72, mp73, mp79, mp80, mp81, mp82, wr_wr, wr_same, Int32.reduceToNatClampNeg, Int32.reduceToInt, Int.reduceToNat]; with_reducible rfl) | (intro i hi; first | rfl | (simp (disch := omega) only [lo_wr, mf_lo])) | decide | (refine vp_t ?_ ?_ <;> ((try simp (disch := omega) only [yd, tl, er, Int32.toInt_add, Int32.toInt_mul, Int32.toInt_sub, Int.bmod_def, Int32.reduceToInt, nI_toInt, Int32.reduceToNatClampNeg, ev, ew] at *); omega)) | rfl
  · refine Mt_of ck_X9_between mf_159 rfl ?_
    clear hW hN
    repeat' first
      | ((with_reducible refine gow ck_X9_between _ [] ?_); conv => whnf)
      | ((with_reducible refine bn_t ?_ ?_); (· first | assumption | decide); conv => whnf)
      | ((with_reducible refine bn_f ?_ ?_); (· first | assumption | decide); conv => whnf)
      | ((with_reducible refine bc_t ?_ ?_); (· first | assumption | decide); conv => whnf)
      | ((with_reducible refine bc_f ?_ ?_); (· first | assumption | decide); conv => whnf)
      | ((with_reducible refine br_t ?_ ?_); (· first | assumption | decide); conv => whnf)
      | ((with_reducible refine br_f ?_ ?_); (· first | assumption | decide); conv => whnf)
      | ((with_reducible refine br_nt ?_ ?_); (· first | assumption | decide); conv => whnf)
      | ((with_reducible refine br_nf ?_ ?_); (· first | assumption | decide); conv => whnf)
      | ((with_reducible refine ckI ?_ ?_); (· first | ((with_reducible refine vp_in_nI ?_ ?_); (· omega); (· decide)) | exact vp_c (by decide) | exact ⟨_, rfl⟩ | exact Or.inl rfl | exact Or.inr rfl | exact b2_01 _); conv => whnf)
      | ((with_reducible apply cl_p); (case hM => with_reducible exact c9_finding1 _ _); (case hc => exact rfl); (case hd => decide); conv => whnf)
      | ((with_reducible apply cl_p); (case hM => with_reducible exact c9_finding2 _ _); (case hc => exact rfl); (case hd => decide); conv => whnf)
      | ((with_reducible apply cl_p); (case hM => with_reducible exact c9_finding3 _ _); (case hc => exact rfl); (case hd => decide); conv => whnf)
      | ((with_reducible apply cl_p); (case hM => with_reducible exact c9_finding4 _ _); (case hc => exact rfl); (case hd => decide); conv => whnf)
      | ((with_reducible apply cl_p); (case hM => with_reducible exact c9_finding5 _ _); (case hc => exact rfl); (case hd => decide); conv => whnf)
      | ((with_reducible apply cl_p); (case hM => with_reducible exact c9_areTwo _ _ _ _); (case hc => exact rfl); (case hd => decide); conv => whnf)
      | ((with_reducible apply cl_p); (case hM => with_reducible exact c9_within _ _ _ _ _); (case hc => exact rfl); (case hd => decide); conv => whnf)
      | ((with_reducible apply cl_p); (case hM => with_reducible exact c9_yardsOf _ _ _ _ (by omega) (by omega)); (case hc => exact rfl); (case hd => decide); conv => whnf)
      | ((with_reducible apply cl_p); (case hM => with_reducible exact c9_tollOf _ _ _ _ (by omega) (by omega)); (case hc => exact rfl); (case hd => decide); conv => whnf)
      | with_reducible refine Pm9.of ?_ ?_
      | ((with_reducible refine ckJ ?_ ?_); conv => whnf)
      | fail
    all_goals try simp (disch := omega) only [ev, ew, e1, e2, e3, nI_clamp, Int32.reduceToNatClampNeg]
    all_goals first | with_reducible rfl | with_reducible assumption | (simp (disch := omega) only [yd, tl, er, taIx, nI_toInt, Int.toNat_natCast, nI_clamp, mpa_0, mpa_1, mpa_2, mpa_3, mpa_9, mpa_10, mpa_11, mpa_12, mp70, mp71, mp72, mp73, mp79, mp80, mp81, mp82, wr_wr, wr_same, Int32.reduceToNatClampNeg, Int32.reduceToInt, Int.reduceToNat]; done) | (simp (disch := omega) only [yd, tl, er, taIx, nI_toInt, Int.toNat_natCast, nI_clamp, mpa_0, mpa_1, mpa_2, mpa_3, mpa_9, mpa_10, mpa_11, mpa_12, mp70, mp71, mp72, mp73, mp79, mp80, mp81, mp82, wr_wr, wr_same, Int32.reduceToNatClampNeg, Int32.reduceToInt, Int.reduceToNat]; with_reducible rfl) | (intro i hi; first | rfl | (simp (disch := omega) only [lo_wr, mf_lo])) | decide | (refine vp_t ?_ ?_ <;> ((try simp (disch := omega) only [yd, tl, er, Int32.toInt_add, Int32.toInt_mul, Int32.toInt_sub, Int.bmod_def, Int32.reduceToInt, nI_toInt, Int32.reduceToNatClampNeg, ev, ew] at *); omega)) | rfl
  · refine Mt_of ck_X9_between mf_159 rfl ?_
    clear hW hN
    repeat' first
      | ((with_reducible refine gow ck_X9_between _ [] ?_); conv => whnf)
      | ((with_reducible refine bn_t ?_ ?_); (· first | assumption | decide); conv => whnf)
      | ((with_reducible refine bn_f ?_ ?_); (· first | assumption | decide); conv => whnf)
      | ((with_reducible refine bc_t ?_ ?_); (· first | assumption | decide); conv => whnf)
      | ((with_reducible refine bc_f ?_ ?_); (· first | assumption | decide); conv => whnf)
      | ((with_reducible refine br_t ?_ ?_); (· first | assumption | decide); conv => whnf)
      | ((with_reducible refine br_f ?_ ?_); (· first | assumption | decide); conv => whnf)
      | ((with_reducible refine br_nt ?_ ?_); (· first | assumption | decide); conv => whnf)
      | ((with_reducible refine br_nf ?_ ?_); (· first | assumption | decide); conv => whnf)
      | ((with_reducible refine ckI ?_ ?_); (· first | ((with_reducible refine vp_in_nI ?_ ?_); (· omega); (· decide)) | exact vp_c (by decide) | exact ⟨_, rfl⟩ | exact Or.inl rfl | exact Or.inr rfl | exact b2_01 _); conv => whnf)
      | ((with_reducible apply cl_p); (case hM => with_reducible exact c9_finding1 _ _); (case hc => exact rfl); (case hd => decide); conv => whnf)
      | ((with_reducible apply cl_p); (case hM => with_reducible exact c9_finding2 _ _); (case hc => exact rfl); (case hd => decide); conv => whnf)
      | ((with_reducible apply cl_p); (case hM => with_reducible exact c9_finding3 _ _); (case hc => exact rfl); (case hd => decide); conv => whnf)
      | ((with_reducible apply cl_p); (case hM => with_reducible exact c9_finding4 _ _); (case hc => exact rfl); (case hd => decide); conv => whnf)
      | ((with_reducible apply cl_p); (case hM => with_reducible exact c9_finding5 _ _); (case hc => exact rfl); (case hd => decide); conv => whnf)
      | ((with_reducible apply cl_p); (case hM => with_reducible exact c9_areTwo _ _ _ _); (case hc => exact rfl); (case hd => decide); conv => whnf)
      | ((with_reducible apply cl_p); (case hM => with_reducible exact c9_within _ _ _ _ _); (case hc => exact rfl); (case hd => decide); conv => whnf)
      | ((with_reducible apply cl_p); (case hM => with_reducible exact c9_yardsOf _ _ _ _ (by omega) (by omega)); (case hc => exact rfl); (case hd => decide); conv => whnf)
      | ((with_reducible apply cl_p); (case hM => with_reducible exact c9_tollOf _ _ _ _ (by omega) (by omega)); (case hc => exact rfl); (case hd => decide); conv => whnf)
      | with_reducible refine Pm9.of ?_ ?_
      | ((with_reducible refine ckJ ?_ ?_); conv => whnf)
      | fail
    all_goals try simp (disch := omega) only [ev, ew, e1, e2, e3, nI_clamp, Int32.reduceToNatClampNeg]
    all_goals first | with_reducible rfl | with_reducible assumption | (simp (disch := omega) only [yd, tl, er, taIx, nI_toInt, Int.toNat_natCast, nI_clamp, mpa_0, mpa_1, mpa_2, mpa_3, mpa_9, mpa_10, mpa_11, mpa_12, mp70, mp71, mp72, mp73, mp79, mp80, mp81, mp82, wr_wr, wr_same, Int32.reduceToNatClampNeg, Int32.reduceToInt, Int.reduceToNat]; done) | (simp (disch := omega) only [yd, tl, er, taIx, nI_toInt, Int.toNat_natCast, nI_clamp, mpa_0, mpa_1, mpa_2, mpa_3, mpa_9, mpa_10, mpa_11, mpa_12, mp70, mp71, mp72, mp73, mp79, mp80, mp81, mp82, wr_wr, wr_same, Int32.reduceToNatClampNeg, Int32.reduceToInt, Int.reduceToNat]; with_reducible rfl) | (intro i hi; first | rfl | (simp (disch := omega) only [lo_wr, mf_lo])) | decide | (refine vp_t ?_ ?_ <;> ((try simp (disch := omega) only [yd, tl, er, Int32.toInt_add, Int32.toInt_mul, Int32.toInt_sub, Int.bmod_def, Int32.reduceToInt, nI_toInt, Int32.reduceToNatClampNeg, ev, ew] at *); omega)) | rfl
theorem r_road (X : Cx) (μ : Mem) (a b w v : Int32) (hW : WFS (mp μ)) : Mt X m_X9_road 4 [.ref 70, .int a, .int b, .int w, .int v] μ (Pm9 μ (sp_road (mp μ) a b w v)) := by
  have hN : WN (mp μ 1) := hW.1
  unfold sp_road
  (repeat' split)
  · obtain ⟨⟨ha, hb⟩, hab⟩ := ‹two (mp μ 1) a b›
    have htwo : two (μ 71) a b := ⟨⟨ha, hb⟩, hab⟩
    obtain ⟨i, hi, rfl, -⟩ := in_P hN ha
    obtain ⟨j, hj, rfl, -⟩ := in_P hN hb
    have c1 : (13 + 7 * nI j + nI i : Int32) = nI (13 + 7 * j + i) := ix_r j i
    have c2 : (62 + 7 * nI j + nI i : Int32) = nI (62 + 7 * j + i) := ix_l j i
    have v1 : vp_in (13 + 7 * nI j + nI i) 327 := by rw [c1]; exact vp_in_nI (by omega) (by decide)
    have v2 : vp_in (62 + 7 * nI j + nI i) 327 := by rw [c2]; exact vp_in_nI (by omega) (by decide)
    have tr : ∀ {μ : Mem} {v : Int32}, Mt X m_X9_turn 0 [.ref 70, .int (13 + 7 * nI i + nI j), .int v] μ (fun r μ' => r = some (.int (μ 71 (13 + 7 * i + j))) ∧ μ' = wr μ 71 (13 + 7 * i + j) v) := c9_turn X _ _ _ _ (ix_r i j) (by omega)
    have tt : ∀ {μ : Mem} {v : Int32}, Mt X m_X9_turn 0 [.ref 70, .int (62 + 7 * nI i + nI j), .int v] μ (fun r μ' => r = some (.int (μ 71 (62 + 7 * i + j))) ∧ μ' = wr μ 71 (62 + 7 * i + j) v) := c9_turn X _ _ _ _ (ix_l i j) (by omega)
    have hij : i ≠ j := fun e => hab (by rw [e])
    subst w
    refine Mt_of ck_X9_road mf_158 rfl ?_
    clear hW hN
    repeat' first
      | ((with_reducible refine gow ck_X9_road _ [] ?_); conv => whnf)
      | ((with_reducible refine bn_t ?_ ?_); (· first | assumption | decide); conv => whnf)
      | ((with_reducible refine bn_f ?_ ?_); (· first | assumption | decide); conv => whnf)
      | ((with_reducible refine bc_t ?_ ?_); (· first | assumption | decide); conv => whnf)
      | ((with_reducible refine bc_f ?_ ?_); (· first | assumption | decide); conv => whnf)
      | ((with_reducible refine br_t ?_ ?_); (· first | assumption | decide); conv => whnf)
      | ((with_reducible refine br_f ?_ ?_); (· first | assumption | decide); conv => whnf)
      | ((with_reducible refine br_nt ?_ ?_); (· first | assumption | decide); conv => whnf)
      | ((with_reducible refine br_nf ?_ ?_); (· first | assumption | decide); conv => whnf)
      | ((with_reducible refine ckI ?_ ?_); (· first | ((with_reducible refine vp_in_nI ?_ ?_); (· omega); (· decide)) | exact vp_c (by decide) | exact ⟨_, rfl⟩ | exact Or.inl rfl | exact Or.inr rfl | exact b2_01 _); conv => whnf)
      | ((with_reducible apply cl_p); (case hM => with_reducible exact c9_finding1 _ _); (case hc => exact rfl); (case hd => decide); conv => whnf)
      | ((with_reducible apply cl_p); (case hM => with_reducible exact c9_finding2 _ _); (case hc => exact rfl); (case hd => decide); conv => whnf)
      | ((with_reducible apply cl_p); (case hM => with_reducible exact c9_finding3 _ _); (case hc => exact rfl); (case hd => decide); conv => whnf)
      | ((with_reducible apply cl_p); (case hM => with_reducible exact c9_finding4 _ _); (case hc => exact rfl); (case hd => decide); conv => whnf)
      | ((with_reducible apply cl_p); (case hM => with_reducible exact c9_finding5 _ _); (case hc => exact rfl); (case hd => decide); conv => whnf)
      | ((with_reducible apply cl_p); (case hM => with_reducible exact c9_areTwo _ _ _ _); (case hc => exact rfl); (case hd => decide); conv => whnf)
      | ((with_reducible apply cl_p); (case hM => with_reducible exact c9_within _ _ _ _ _); (case hc => exact rfl); (case hd => decide); conv => whnf)
      | ((with_reducible apply cl_p); (case hM => exact tr); (case hc => exact rfl); (case hd => decide); conv => whnf)
      | ((with_reducible apply cl_p); (case hM => exact tt); (case hc => exact rfl); (case hd => decide); conv => whnf)
      | with_reducible refine Pm9.of ?_ ?_
      | ((with_reducible refine ckJ ?_ ?_); conv => whnf)
      | fail
    all_goals try simp (disch := omega) only [ev, ew, e1, e2, e3, nI_clamp, Int32.reduceToNatClampNeg]
    all_goals first | with_reducible rfl | with_reducible assumption | (simp (disch := omega) only [c1, c2, yd, tl, er, taIx, nI_toInt, Int.toNat_natCast, nI_clamp, mpa_0, mpa_1, mpa_2, mpa_3, mpa_9, mpa_10, mpa_11, mpa_12, mp70, mp71, mp72, mp73, mp79, mp80, mp81, mp82, wr_wr, wr_same, Int32.reduceToNatClampNeg, Int32.reduceToInt, Int.reduceToNat]; done) | (simp (disch := omega) only [c1, c2, yd, tl, er, taIx, nI_toInt, Int.toNat_natCast, nI_clamp, mpa_0, mpa_1, mpa_2, mpa_3, mpa_9, mpa_10, mpa_11, mpa_12, mp70, mp71, mp72, mp73, mp79, mp80, mp81, mp82, wr_wr, wr_same, Int32.reduceToNatClampNeg, Int32.reduceToInt, Int.reduceToNat]; with_reducible rfl) | (intro i hi; first | rfl | (simp (disch := omega) only [lo_wr, mf_lo])) | decide | (refine vp_t ?_ ?_ <;> ((try simp (disch := omega) only [c1, c2, yd, tl, er, Int32.toInt_add, Int32.toInt_mul, Int32.toInt_sub, Int.bmod_def, Int32.reduceToInt, nI_toInt, Int32.reduceToNatClampNeg, ev, ew] at *); omega)) | rfl
  · subst w
    refine Mt_of ck_X9_road mf_158 rfl ?_
    clear hW hN
    repeat' first
      | ((with_reducible refine gow ck_X9_road _ [] ?_); conv => whnf)
      | ((with_reducible refine bn_t ?_ ?_); (· first | assumption | decide); conv => whnf)
      | ((with_reducible refine bn_f ?_ ?_); (· first | assumption | decide); conv => whnf)
      | ((with_reducible refine bc_t ?_ ?_); (· first | assumption | decide); conv => whnf)
      | ((with_reducible refine bc_f ?_ ?_); (· first | assumption | decide); conv => whnf)
      | ((with_reducible refine br_t ?_ ?_); (· first | assumption | decide); conv => whnf)
      | ((with_reducible refine br_f ?_ ?_); (· first | assumption | decide); conv => whnf)
      | ((with_reducible refine br_nt ?_ ?_); (· first | assumption | decide); conv => whnf)
      | ((with_reducible refine br_nf ?_ ?_); (· first | assumption | decide); conv => whnf)
      | ((with_reducible refine ckI ?_ ?_); (· first | ((with_reducible refine vp_in_nI ?_ ?_); (· omega); (· decide)) | exact vp_c (by decide) | exact ⟨_, rfl⟩ | exact Or.inl rfl | exact Or.inr rfl | exact b2_01 _); conv => whnf)
      | ((with_reducible apply cl_p); (case hM => with_reducible exact c9_finding1 _ _); (case hc => exact rfl); (case hd => decide); conv => whnf)
      | ((with_reducible apply cl_p); (case hM => with_reducible exact c9_finding2 _ _); (case hc => exact rfl); (case hd => decide); conv => whnf)
      | ((with_reducible apply cl_p); (case hM => with_reducible exact c9_finding3 _ _); (case hc => exact rfl); (case hd => decide); conv => whnf)
      | ((with_reducible apply cl_p); (case hM => with_reducible exact c9_finding4 _ _); (case hc => exact rfl); (case hd => decide); conv => whnf)
      | ((with_reducible apply cl_p); (case hM => with_reducible exact c9_finding5 _ _); (case hc => exact rfl); (case hd => decide); conv => whnf)
      | ((with_reducible apply cl_p); (case hM => with_reducible exact c9_areTwo _ _ _ _); (case hc => exact rfl); (case hd => decide); conv => whnf)
      | ((with_reducible apply cl_p); (case hM => with_reducible exact c9_within _ _ _ _ _); (case hc => exact rfl); (case hd => decide); conv => whnf)
      | ((with_reducible apply cl_p); (case hM => exact tr); (case hc => exact rfl); (case hd => decide); conv => whnf)
      | ((with_reducible apply cl_p); (case hM => exact tt); (case hc => exact rfl); (case hd => decide); conv => whnf)
      | with_reducible refine Pm9.of ?_ ?_
      | ((with_reducible refine ckJ ?_ ?_); conv => whnf)
      | fail
    all_goals try simp (disch := omega) only [ev, ew, e1, e2, e3, nI_clamp, Int32.reduceToNatClampNeg]
    all_goals first | with_reducible rfl | with_reducible assumption | (simp (disch := omega) only [yd, tl, er, taIx, nI_toInt, Int.toNat_natCast, nI_clamp, mpa_0, mpa_1, mpa_2, mpa_3, mpa_9, mpa_10, mpa_11, mpa_12, mp70, mp71, mp72, mp73, mp79, mp80, mp81, mp82, wr_wr, wr_same, Int32.reduceToNatClampNeg, Int32.reduceToInt, Int.reduceToNat]; done) | (simp (disch := omega) only [yd, tl, er, taIx, nI_toInt, Int.toNat_natCast, nI_clamp, mpa_0, mpa_1, mpa_2, mpa_3, mpa_9, mpa_10, mpa_11, mpa_12, mp70, mp71, mp72, mp73, mp79, mp80, mp81, mp82, wr_wr, wr_same, Int32.reduceToNatClampNeg, Int32.reduceToInt, Int.reduceToNat]; with_reducible rfl) | (intro i hi; first | rfl | (simp (disch := omega) only [lo_wr, mf_lo])) | decide | (refine vp_t ?_ ?_ <;> ((try simp (disch := omega) only [yd, tl, er, Int32.toInt_add, Int32.toInt_mul, Int32.toInt_sub, Int.bmod_def, Int32.reduceToInt, nI_toInt, Int32.reduceToNatClampNeg, ev, ew] at *); omega)) | rfl
  · obtain ⟨⟨ha, hb⟩, hab⟩ := ‹two (mp μ 1) a b›
    have htwo : two (μ 71) a b := ⟨⟨ha, hb⟩, hab⟩
    obtain ⟨i, hi, rfl, -⟩ := in_P hN ha
    obtain ⟨j, hj, rfl, -⟩ := in_P hN hb
    have c1 : (13 + 7 * nI j + nI i : Int32) = nI (13 + 7 * j + i) := ix_r j i
    have c2 : (62 + 7 * nI j + nI i : Int32) = nI (62 + 7 * j + i) := ix_l j i
    have v1 : vp_in (13 + 7 * nI j + nI i) 327 := by rw [c1]; exact vp_in_nI (by omega) (by decide)
    have v2 : vp_in (62 + 7 * nI j + nI i) 327 := by rw [c2]; exact vp_in_nI (by omega) (by decide)
    have tr : ∀ {μ : Mem} {v : Int32}, Mt X m_X9_turn 0 [.ref 70, .int (13 + 7 * nI i + nI j), .int v] μ (fun r μ' => r = some (.int (μ 71 (13 + 7 * i + j))) ∧ μ' = wr μ 71 (13 + 7 * i + j) v) := c9_turn X _ _ _ _ (ix_r i j) (by omega)
    have tt : ∀ {μ : Mem} {v : Int32}, Mt X m_X9_turn 0 [.ref 70, .int (62 + 7 * nI i + nI j), .int v] μ (fun r μ' => r = some (.int (μ 71 (62 + 7 * i + j))) ∧ μ' = wr μ 71 (62 + 7 * i + j) v) := c9_turn X _ _ _ _ (ix_l i j) (by omega)
    have hij : i ≠ j := fun e => hab (by rw [e])
    refine Mt_of ck_X9_road mf_158 rfl ?_
    clear hW hN
    repeat' first
      | ((with_reducible refine gow ck_X9_road _ [] ?_); conv => whnf)
      | ((with_reducible refine bn_t ?_ ?_); (· first | assumption | decide); conv => whnf)
      | ((with_reducible refine bn_f ?_ ?_); (· first | assumption | decide); conv => whnf)
      | ((with_reducible refine bc_t ?_ ?_); (· first | assumption | decide); conv => whnf)
      | ((with_reducible refine bc_f ?_ ?_); (· first | assumption | decide); conv => whnf)
      | ((with_reducible refine br_t ?_ ?_); (· first | assumption | decide); conv => whnf)
      | ((with_reducible refine br_f ?_ ?_); (· first | assumption | decide); conv => whnf)
      | ((with_reducible refine br_nt ?_ ?_); (· first | assumption | decide); conv => whnf)
      | ((with_reducible refine br_nf ?_ ?_); (· first | assumption | decide); conv => whnf)
      | ((with_reducible refine ckI ?_ ?_); (· first | ((with_reducible refine vp_in_nI ?_ ?_); (· omega); (· decide)) | exact vp_c (by decide) | exact ⟨_, rfl⟩ | exact Or.inl rfl | exact Or.inr rfl | exact b2_01 _); conv => whnf)
      | ((with_reducible apply cl_p); (case hM => with_reducible exact c9_finding1 _ _); (case hc => exact rfl); (case hd => decide); conv => whnf)
      | ((with_reducible apply cl_p); (case hM => with_reducible exact c9_finding2 _ _); (case hc => exact rfl); (case hd => decide); conv => whnf)
      | ((with_reducible apply cl_p); (case hM => with_reducible exact c9_finding3 _ _); (case hc => exact rfl); (case hd => decide); conv => whnf)
      | ((with_reducible apply cl_p); (case hM => with_reducible exact c9_finding4 _ _); (case hc => exact rfl); (case hd => decide); conv => whnf)
      | ((with_reducible apply cl_p); (case hM => with_reducible exact c9_finding5 _ _); (case hc => exact rfl); (case hd => decide); conv => whnf)
      | ((with_reducible apply cl_p); (case hM => with_reducible exact c9_areTwo _ _ _ _); (case hc => exact rfl); (case hd => decide); conv => whnf)
      | ((with_reducible apply cl_p); (case hM => with_reducible exact c9_within _ _ _ _ _); (case hc => exact rfl); (case hd => decide); conv => whnf)
      | ((with_reducible apply cl_p); (case hM => exact tr); (case hc => exact rfl); (case hd => decide); conv => whnf)
      | ((with_reducible apply cl_p); (case hM => exact tt); (case hc => exact rfl); (case hd => decide); conv => whnf)
      | with_reducible refine Pm9.of ?_ ?_
      | ((with_reducible refine ckJ ?_ ?_); conv => whnf)
      | fail
    all_goals try simp (disch := omega) only [ev, ew, e1, e2, e3, nI_clamp, Int32.reduceToNatClampNeg]
    all_goals first | with_reducible rfl | with_reducible assumption | (simp (disch := omega) only [c1, c2, yd, tl, er, taIx, nI_toInt, Int.toNat_natCast, nI_clamp, mpa_0, mpa_1, mpa_2, mpa_3, mpa_9, mpa_10, mpa_11, mpa_12, mp70, mp71, mp72, mp73, mp79, mp80, mp81, mp82, wr_wr, wr_same, Int32.reduceToNatClampNeg, Int32.reduceToInt, Int.reduceToNat]; done) | (simp (disch := omega) only [c1, c2, yd, tl, er, taIx, nI_toInt, Int.toNat_natCast, nI_clamp, mpa_0, mpa_1, mpa_2, mpa_3, mpa_9, mpa_10, mpa_11, mpa_12, mp70, mp71, mp72, mp73, mp79, mp80, mp81, mp82, wr_wr, wr_same, Int32.reduceToNatClampNeg, Int32.reduceToInt, Int.reduceToNat]; with_reducible rfl) | (intro i hi; first | rfl | (simp (disch := omega) only [lo_wr, mf_lo])) | decide | (refine vp_t ?_ ?_ <;> ((try simp (disch := omega) only [c1, c2, yd, tl, er, Int32.toInt_add, Int32.toInt_mul, Int32.toInt_sub, Int.bmod_def, Int32.reduceToInt, nI_toInt, Int32.reduceToNatClampNeg, ev, ew] at *); omega)) | rfl
  · refine Mt_of ck_X9_road mf_158 rfl ?_
    clear hW hN
    repeat' first
      | ((with_reducible refine gow ck_X9_road _ [] ?_); conv => whnf)
      | ((with_reducible refine bn_t ?_ ?_); (· first | assumption | decide); conv => whnf)
      | ((with_reducible refine bn_f ?_ ?_); (· first | assumption | decide); conv => whnf)
      | ((with_reducible refine bc_t ?_ ?_); (· first | assumption | decide); conv => whnf)
      | ((with_reducible refine bc_f ?_ ?_); (· first | assumption | decide); conv => whnf)
      | ((with_reducible refine br_t ?_ ?_); (· first | assumption | decide); conv => whnf)
      | ((with_reducible refine br_f ?_ ?_); (· first | assumption | decide); conv => whnf)
      | ((with_reducible refine br_nt ?_ ?_); (· first | assumption | decide); conv => whnf)
      | ((with_reducible refine br_nf ?_ ?_); (· first | assumption | decide); conv => whnf)
      | ((with_reducible refine ckI ?_ ?_); (· first | ((with_reducible refine vp_in_nI ?_ ?_); (· omega); (· decide)) | exact vp_c (by decide) | exact ⟨_, rfl⟩ | exact Or.inl rfl | exact Or.inr rfl | exact b2_01 _); conv => whnf)
      | ((with_reducible apply cl_p); (case hM => with_reducible exact c9_finding1 _ _); (case hc => exact rfl); (case hd => decide); conv => whnf)
      | ((with_reducible apply cl_p); (case hM => with_reducible exact c9_finding2 _ _); (case hc => exact rfl); (case hd => decide); conv => whnf)
      | ((with_reducible apply cl_p); (case hM => with_reducible exact c9_finding3 _ _); (case hc => exact rfl); (case hd => decide); conv => whnf)
      | ((with_reducible apply cl_p); (case hM => with_reducible exact c9_finding4 _ _); (case hc => exact rfl); (case hd => decide); conv => whnf)
      | ((with_reducible apply cl_p); (case hM => with_reducible exact c9_finding5 _ _); (case hc => exact rfl); (case hd => decide); conv => whnf)
      | ((with_reducible apply cl_p); (case hM => with_reducible exact c9_areTwo _ _ _ _); (case hc => exact rfl); (case hd => decide); conv => whnf)
      | ((with_reducible apply cl_p); (case hM => with_reducible exact c9_within _ _ _ _ _); (case hc => exact rfl); (case hd => decide); conv => whnf)
      | ((with_reducible apply cl_p); (case hM => exact tr); (case hc => exact rfl); (case hd => decide); conv => whnf)
      | ((with_reducible apply cl_p); (case hM => exact tt); (case hc => exact rfl); (case hd => decide); conv => whnf)
      | with_reducible refine Pm9.of ?_ ?_
      | ((with_reducible refine ckJ ?_ ?_); conv => whnf)
      | fail
    all_goals try simp (disch := omega) only [ev, ew, e1, e2, e3, nI_clamp, Int32.reduceToNatClampNeg]
    all_goals first | with_reducible rfl | with_reducible assumption | (simp (disch := omega) only [yd, tl, er, taIx, nI_toInt, Int.toNat_natCast, nI_clamp, mpa_0, mpa_1, mpa_2, mpa_3, mpa_9, mpa_10, mpa_11, mpa_12, mp70, mp71, mp72, mp73, mp79, mp80, mp81, mp82, wr_wr, wr_same, Int32.reduceToNatClampNeg, Int32.reduceToInt, Int.reduceToNat]; done) | (simp (disch := omega) only [yd, tl, er, taIx, nI_toInt, Int.toNat_natCast, nI_clamp, mpa_0, mpa_1, mpa_2, mpa_3, mpa_9, mpa_10, mpa_11, mpa_12, mp70, mp71, mp72, mp73, mp79, mp80, mp81, mp82, wr_wr, wr_same, Int32.reduceToNatClampNeg, Int32.reduceToInt, Int.reduceToNat]; with_reducible rfl) | (intro i hi; first | rfl | (simp (disch := omega) only [lo_wr, mf_lo])) | decide | (refine vp_t ?_ ?_ <;> ((try simp (disch := omega) only [yd, tl, er, Int32.toInt_add, Int32.toInt_mul, Int32.toInt_sub, Int.bmod_def, Int32.reduceToInt, nI_toInt, Int32.reduceToNatClampNeg, ev, ew] at *); omega)) | rfl
  · refine Mt_of ck_X9_road mf_158 rfl ?_
    clear hW hN
    repeat' first
      | ((with_reducible refine gow ck_X9_road _ [] ?_); conv => whnf)
      | ((with_reducible refine bn_t ?_ ?_); (· first | assumption | decide); conv => whnf)
      | ((with_reducible refine bn_f ?_ ?_); (· first | assumption | decide); conv => whnf)
      | ((with_reducible refine bc_t ?_ ?_); (· first | assumption | decide); conv => whnf)
      | ((with_reducible refine bc_f ?_ ?_); (· first | assumption | decide); conv => whnf)
      | ((with_reducible refine br_t ?_ ?_); (· first | assumption | decide); conv => whnf)
      | ((with_reducible refine br_f ?_ ?_); (· first | assumption | decide); conv => whnf)
      | ((with_reducible refine br_nt ?_ ?_); (· first | assumption | decide); conv => whnf)
      | ((with_reducible refine br_nf ?_ ?_); (· first | assumption | decide); conv => whnf)
      | ((with_reducible refine ckI ?_ ?_); (· first | ((with_reducible refine vp_in_nI ?_ ?_); (· omega); (· decide)) | exact vp_c (by decide) | exact ⟨_, rfl⟩ | exact Or.inl rfl | exact Or.inr rfl | exact b2_01 _); conv => whnf)
      | ((with_reducible apply cl_p); (case hM => with_reducible exact c9_finding1 _ _); (case hc => exact rfl); (case hd => decide); conv => whnf)
      | ((with_reducible apply cl_p); (case hM => with_reducible exact c9_finding2 _ _); (case hc => exact rfl); (case hd => decide); conv => whnf)
      | ((with_reducible apply cl_p); (case hM => with_reducible exact c9_finding3 _ _); (case hc => exact rfl); (case hd => decide); conv => whnf)
      | ((with_reducible apply cl_p); (case hM => with_reducible exact c9_finding4 _ _); (case hc => exact rfl); (case hd => decide); conv => whnf)
      | ((with_reducible apply cl_p); (case hM => with_reducible exact c9_finding5 _ _); (case hc => exact rfl); (case hd => decide); conv => whnf)
      | ((with_reducible apply cl_p); (case hM => with_reducible exact c9_areTwo _ _ _ _); (case hc => exact rfl); (case hd => decide); conv => whnf)
      | ((with_reducible apply cl_p); (case hM => with_reducible exact c9_within _ _ _ _ _); (case hc => exact rfl); (case hd => decide); conv => whnf)
      | ((with_reducible apply cl_p); (case hM => exact tr); (case hc => exact rfl); (case hd => decide); conv => whnf)
      | ((with_reducible apply cl_p); (case hM => exact tt); (case hc => exact rfl); (case hd => decide); conv => whnf)
      | with_reducible refine Pm9.of ?_ ?_
      | ((with_reducible refine ckJ ?_ ?_); conv => whnf)
      | fail
    all_goals try simp (disch := omega) only [ev, ew, e1, e2, e3, nI_clamp, Int32.reduceToNatClampNeg]
    all_goals first | with_reducible rfl | with_reducible assumption | (simp (disch := omega) only [yd, tl, er, taIx, nI_toInt, Int.toNat_natCast, nI_clamp, mpa_0, mpa_1, mpa_2, mpa_3, mpa_9, mpa_10, mpa_11, mpa_12, mp70, mp71, mp72, mp73, mp79, mp80, mp81, mp82, wr_wr, wr_same, Int32.reduceToNatClampNeg, Int32.reduceToInt, Int.reduceToNat]; done) | (simp (disch := omega) only [yd, tl, er, taIx, nI_toInt, Int.toNat_natCast, nI_clamp, mpa_0, mpa_1, mpa_2, mpa_3, mpa_9, mpa_10, mpa_11, mpa_12, mp70, mp71, mp72, mp73, mp79, mp80, mp81, mp82, wr_wr, wr_same, Int32.reduceToNatClampNeg, Int32.reduceToInt, Int.reduceToNat]; with_reducible rfl) | (intro i hi; first | rfl | (simp (disch := omega) only [lo_wr, mf_lo])) | decide | (refine vp_t ?_ ?_ <;> ((try simp (disch := omega) only [yd, tl, er, Int32.toInt_add, Int32.toInt_mul, Int32.toInt_sub, Int.bmod_def, Int32.reduceToInt, nI_toInt, Int32.reduceToNatClampNeg, ev, ew] at *); omega)) | rfl
  · refine Mt_of ck_X9_road mf_158 rfl ?_
    clear hW hN
    repeat' first
      | ((with_reducible refine gow ck_X9_road _ [] ?_); conv => whnf)
      | ((with_reducible refine bn_t ?_ ?_); (· first | assumption | decide); conv => whnf)
      | ((with_reducible refine bn_f ?_ ?_); (· first | assumption | decide); conv => whnf)
      | ((with_reducible refine bc_t ?_ ?_); (· first | assumption | decide); conv => whnf)
      | ((with_reducible refine bc_f ?_ ?_); (· first | assumption | decide); conv => whnf)
      | ((with_reducible refine br_t ?_ ?_); (· first | assumption | decide); conv => whnf)
      | ((with_reducible refine br_f ?_ ?_); (· first | assumption | decide); conv => whnf)
      | ((with_reducible refine br_nt ?_ ?_); (· first | assumption | decide); conv => whnf)
      | ((with_reducible refine br_nf ?_ ?_); (· first | assumption | decide); conv => whnf)
      | ((with_reducible refine ckI ?_ ?_); (· first | ((with_reducible refine vp_in_nI ?_ ?_); (· omega); (· decide)) | exact vp_c (by decide) | exact ⟨_, rfl⟩ | exact Or.inl rfl | exact Or.inr rfl | exact b2_01 _); conv => whnf)
      | ((with_reducible apply cl_p); (case hM => with_reducible exact c9_finding1 _ _); (case hc => exact rfl); (case hd => decide); conv => whnf)
      | ((with_reducible apply cl_p); (case hM => with_reducible exact c9_finding2 _ _); (case hc => exact rfl); (case hd => decide); conv => whnf)
      | ((with_reducible apply cl_p); (case hM => with_reducible exact c9_finding3 _ _); (case hc => exact rfl); (case hd => decide); conv => whnf)
      | ((with_reducible apply cl_p); (case hM => with_reducible exact c9_finding4 _ _); (case hc => exact rfl); (case hd => decide); conv => whnf)
      | ((with_reducible apply cl_p); (case hM => with_reducible exact c9_finding5 _ _); (case hc => exact rfl); (case hd => decide); conv => whnf)
      | ((with_reducible apply cl_p); (case hM => with_reducible exact c9_areTwo _ _ _ _); (case hc => exact rfl); (case hd => decide); conv => whnf)
      | ((with_reducible apply cl_p); (case hM => with_reducible exact c9_within _ _ _ _ _); (case hc => exact rfl); (case hd => decide); conv => whnf)
      | ((with_reducible apply cl_p); (case hM => exact tr); (case hc => exact rfl); (case hd => decide); conv => whnf)
      | ((with_reducible apply cl_p); (case hM => exact tt); (case hc => exact rfl); (case hd => decide); conv => whnf)
      | with_reducible refine Pm9.of ?_ ?_
      | ((with_reducible refine ckJ ?_ ?_); conv => whnf)
      | fail
    all_goals try simp (disch := omega) only [ev, ew, e1, e2, e3, nI_clamp, Int32.reduceToNatClampNeg]
    all_goals first | with_reducible rfl | with_reducible assumption | (simp (disch := omega) only [yd, tl, er, taIx, nI_toInt, Int.toNat_natCast, nI_clamp, mpa_0, mpa_1, mpa_2, mpa_3, mpa_9, mpa_10, mpa_11, mpa_12, mp70, mp71, mp72, mp73, mp79, mp80, mp81, mp82, wr_wr, wr_same, Int32.reduceToNatClampNeg, Int32.reduceToInt, Int.reduceToNat]; done) | (simp (disch := omega) only [yd, tl, er, taIx, nI_toInt, Int.toNat_natCast, nI_clamp, mpa_0, mpa_1, mpa_2, mpa_3, mpa_9, mpa_10, mpa_11, mpa_12, mp70, mp71, mp72, mp73, mp79, mp80, mp81, mp82, wr_wr, wr_same, Int32.reduceToNatClampNeg, Int32.reduceToInt, Int.reduceToNat]; with_reducible rfl) | (intro i hi; first | rfl | (simp (disch := omega) only [lo_wr, mf_lo])) | decide | (refine vp_t ?_ ?_ <;> ((try simp (disch := omega) only [yd, tl, er, Int32.toInt_add, Int32.toInt_mul, Int32.toInt_sub, Int.bmod_def, Int32.reduceToInt, nI_toInt, Int32.reduceToNatClampNeg, ev, ew] at *); omega)) | rfl
theorem r_put (X : Cx) (μ : Mem) (s i v : Int32) (hW : WFS (mp μ)) : Mt X m_X9_put 3 [.ref 70, .int s, .int i, .int v] μ (Pm9 μ (sp_put (mp μ) s i v)) := by
  have hN : WN (mp μ 1) := hW.1
  unfold sp_put
  (repeat' split)
  · obtain ⟨k, hk, rfl⟩ := in_3 ‹0 ≤ s ∧ s ≤ 3›
    refine Mt_of ck_X9_put mf_213 rfl ?_
    clear hW hN
    repeat' first
      | ((with_reducible refine gow ck_X9_put _ [] ?_); conv => whnf)
      | ((with_reducible refine bn_t ?_ ?_); (· first | assumption | decide); conv => whnf)
      | ((with_reducible refine bn_f ?_ ?_); (· first | assumption | decide); conv => whnf)
      | ((with_reducible refine bc_t ?_ ?_); (· first | assumption | decide); conv => whnf)
      | ((with_reducible refine bc_f ?_ ?_); (· first | assumption | decide); conv => whnf)
      | ((with_reducible refine br_t ?_ ?_); (· first | assumption | decide); conv => whnf)
      | ((with_reducible refine br_f ?_ ?_); (· first | assumption | decide); conv => whnf)
      | ((with_reducible refine br_nt ?_ ?_); (· first | assumption | decide); conv => whnf)
      | ((with_reducible refine br_nf ?_ ?_); (· first | assumption | decide); conv => whnf)
      | ((with_reducible refine ckI ?_ ?_); (· first | ((with_reducible refine vp_in_nI ?_ ?_); (· omega); (· decide)) | exact vp_c (by decide) | exact ⟨_, rfl⟩ | exact Or.inl rfl | exact Or.inr rfl | exact b2_01 _); conv => whnf)
      | ((with_reducible apply cl_p); (case hM => with_reducible exact c9_finding1 _ _); (case hc => exact rfl); (case hd => decide); conv => whnf)
      | ((with_reducible apply cl_p); (case hM => with_reducible exact c9_finding2 _ _); (case hc => exact rfl); (case hd => decide); conv => whnf)
      | ((with_reducible apply cl_p); (case hM => with_reducible exact c9_finding3 _ _); (case hc => exact rfl); (case hd => decide); conv => whnf)
      | ((with_reducible apply cl_p); (case hM => with_reducible exact c9_finding4 _ _); (case hc => exact rfl); (case hd => decide); conv => whnf)
      | ((with_reducible apply cl_p); (case hM => with_reducible exact c9_finding5 _ _); (case hc => exact rfl); (case hd => decide); conv => whnf)
      | ((with_reducible apply cl_p); (case hM => with_reducible exact c9_isSheet _ _ _); (case hc => exact rfl); (case hd => decide); conv => whnf)
      | ((with_reducible apply cl_p); (case hM => with_reducible exact c9_within _ _ _ _ _); (case hc => exact rfl); (case hd => decide); conv => whnf)
      | with_reducible refine Pm9.of ?_ ?_
      | ((with_reducible refine ckJ ?_ ?_); conv => whnf)
      | fail
    all_goals try simp (disch := omega) only [ev, ew, e1, e2, e3, nI_clamp, Int32.reduceToNatClampNeg]
    all_goals first | with_reducible rfl | with_reducible assumption | (simp (disch := omega) only [er, taIx, nI_toInt, Int.toNat_natCast, nI_clamp, mpa_0, mpa_1, mpa_2, mpa_3, mpa_9, mpa_10, mpa_11, mpa_12, mp70, mp71, mp72, mp73, mp79, mp80, mp81, mp82, wr_wr, wr_same, Int32.reduceToNatClampNeg, Int32.reduceToInt, Int.reduceToNat]; done) | (simp (disch := omega) only [er, taIx, nI_toInt, Int.toNat_natCast, nI_clamp, mpa_0, mpa_1, mpa_2, mpa_3, mpa_9, mpa_10, mpa_11, mpa_12, mp70, mp71, mp72, mp73, mp79, mp80, mp81, mp82, wr_wr, wr_same, Int32.reduceToNatClampNeg, Int32.reduceToInt, Int.reduceToNat]; with_reducible rfl) | (intro i hi; first | rfl | (simp (disch := omega) only [lo_wr, mf_lo])) | decide | (refine vp_t ?_ ?_ <;> ((try simp (disch := omega) only [er, Int32.toInt_add, Int32.toInt_mul, Int32.toInt_sub, Int.bmod_def, Int32.reduceToInt, nI_toInt, Int32.reduceToNatClampNeg, ev, ew] at *); omega)) | rfl
  · obtain ⟨k, hk, rfl⟩ := in_3 ‹0 ≤ s ∧ s ≤ 3›
    obtain ⟨j, hj, rfl⟩ := in_S hW hk ‹0 ≤ i ∧ i ≤ mp μ 11 (nI k).toInt.toNat - 1›
    have c1 : (40 * nI k + nI j : Int32) = nI (40 * k + j) := ix_40 k j
    have v1 : vp_in (40 * nI k + nI j) 160 := by rw [c1]; exact vp_in_nI (by omega) (by decide)
    refine Mt_of ck_X9_put mf_213 rfl ?_
    clear hW hN
    repeat' first
      | ((with_reducible refine gow ck_X9_put _ [] ?_); conv => whnf)
      | ((with_reducible refine bn_t ?_ ?_); (· first | assumption | decide); conv => whnf)
      | ((with_reducible refine bn_f ?_ ?_); (· first | assumption | decide); conv => whnf)
      | ((with_reducible refine bc_t ?_ ?_); (· first | assumption | decide); conv => whnf)
      | ((with_reducible refine bc_f ?_ ?_); (· first | assumption | decide); conv => whnf)
      | ((with_reducible refine br_t ?_ ?_); (· first | assumption | decide); conv => whnf)
      | ((with_reducible refine br_f ?_ ?_); (· first | assumption | decide); conv => whnf)
      | ((with_reducible refine br_nt ?_ ?_); (· first | assumption | decide); conv => whnf)
      | ((with_reducible refine br_nf ?_ ?_); (· first | assumption | decide); conv => whnf)
      | ((with_reducible refine ckI ?_ ?_); (· first | ((with_reducible refine vp_in_nI ?_ ?_); (· omega); (· decide)) | exact vp_c (by decide) | exact ⟨_, rfl⟩ | exact Or.inl rfl | exact Or.inr rfl | exact b2_01 _); conv => whnf)
      | ((with_reducible apply cl_p); (case hM => with_reducible exact c9_finding1 _ _); (case hc => exact rfl); (case hd => decide); conv => whnf)
      | ((with_reducible apply cl_p); (case hM => with_reducible exact c9_finding2 _ _); (case hc => exact rfl); (case hd => decide); conv => whnf)
      | ((with_reducible apply cl_p); (case hM => with_reducible exact c9_finding3 _ _); (case hc => exact rfl); (case hd => decide); conv => whnf)
      | ((with_reducible apply cl_p); (case hM => with_reducible exact c9_finding4 _ _); (case hc => exact rfl); (case hd => decide); conv => whnf)
      | ((with_reducible apply cl_p); (case hM => with_reducible exact c9_finding5 _ _); (case hc => exact rfl); (case hd => decide); conv => whnf)
      | ((with_reducible apply cl_p); (case hM => with_reducible exact c9_isSheet _ _ _); (case hc => exact rfl); (case hd => decide); conv => whnf)
      | ((with_reducible apply cl_p); (case hM => with_reducible exact c9_within _ _ _ _ _); (case hc => exact rfl); (case hd => decide); conv => whnf)
      | with_reducible refine Pm9.of ?_ ?_
      | ((with_reducible refine ckJ ?_ ?_); conv => whnf)
      | fail
    all_goals try simp (disch := omega) only [ev, ew, e1, e2, e3, nI_clamp, Int32.reduceToNatClampNeg]
    all_goals first | with_reducible rfl | with_reducible assumption | (simp (disch := omega) only [c1, er, taIx, nI_toInt, Int.toNat_natCast, nI_clamp, mpa_0, mpa_1, mpa_2, mpa_3, mpa_9, mpa_10, mpa_11, mpa_12, mp70, mp71, mp72, mp73, mp79, mp80, mp81, mp82, wr_wr, wr_same, Int32.reduceToNatClampNeg, Int32.reduceToInt, Int.reduceToNat]; done) | (simp (disch := omega) only [c1, er, taIx, nI_toInt, Int.toNat_natCast, nI_clamp, mpa_0, mpa_1, mpa_2, mpa_3, mpa_9, mpa_10, mpa_11, mpa_12, mp70, mp71, mp72, mp73, mp79, mp80, mp81, mp82, wr_wr, wr_same, Int32.reduceToNatClampNeg, Int32.reduceToInt, Int.reduceToNat]; with_reducible rfl) | (intro i hi; first | rfl | (simp (disch := omega) only [lo_wr, mf_lo])) | decide | (refine vp_t ?_ ?_ <;> ((try simp (disch := omega) only [c1, er, Int32.toInt_add, Int32.toInt_mul, Int32.toInt_sub, Int.bmod_def, Int32.reduceToInt, nI_toInt, Int32.reduceToNatClampNeg, ev, ew] at *); omega)) | rfl
  · obtain ⟨k, hk, rfl⟩ := in_3 ‹0 ≤ s ∧ s ≤ 3›
    obtain ⟨j, hj, rfl⟩ := in_S hW hk ‹0 ≤ i ∧ i ≤ mp μ 11 (nI k).toInt.toNat - 1›
    have c1 : (40 * nI k + nI j : Int32) = nI (40 * k + j) := ix_40 k j
    have v1 : vp_in (40 * nI k + nI j) 160 := by rw [c1]; exact vp_in_nI (by omega) (by decide)
    refine Mt_of ck_X9_put mf_213 rfl ?_
    clear hW hN
    repeat' first
      | ((with_reducible refine gow ck_X9_put _ [] ?_); conv => whnf)
      | ((with_reducible refine bn_t ?_ ?_); (· first | assumption | decide); conv => whnf)
      | ((with_reducible refine bn_f ?_ ?_); (· first | assumption | decide); conv => whnf)
      | ((with_reducible refine bc_t ?_ ?_); (· first | assumption | decide); conv => whnf)
      | ((with_reducible refine bc_f ?_ ?_); (· first | assumption | decide); conv => whnf)
      | ((with_reducible refine br_t ?_ ?_); (· first | assumption | decide); conv => whnf)
      | ((with_reducible refine br_f ?_ ?_); (· first | assumption | decide); conv => whnf)
      | ((with_reducible refine br_nt ?_ ?_); (· first | assumption | decide); conv => whnf)
      | ((with_reducible refine br_nf ?_ ?_); (· first | assumption | decide); conv => whnf)
      | ((with_reducible refine ckI ?_ ?_); (· first | ((with_reducible refine vp_in_nI ?_ ?_); (· omega); (· decide)) | exact vp_c (by decide) | exact ⟨_, rfl⟩ | exact Or.inl rfl | exact Or.inr rfl | exact b2_01 _); conv => whnf)
      | ((with_reducible apply cl_p); (case hM => with_reducible exact c9_finding1 _ _); (case hc => exact rfl); (case hd => decide); conv => whnf)
      | ((with_reducible apply cl_p); (case hM => with_reducible exact c9_finding2 _ _); (case hc => exact rfl); (case hd => decide); conv => whnf)
      | ((with_reducible apply cl_p); (case hM => with_reducible exact c9_finding3 _ _); (case hc => exact rfl); (case hd => decide); conv => whnf)
      | ((with_reducible apply cl_p); (case hM => with_reducible exact c9_finding4 _ _); (case hc => exact rfl); (case hd => decide); conv => whnf)
      | ((with_reducible apply cl_p); (case hM => with_reducible exact c9_finding5 _ _); (case hc => exact rfl); (case hd => decide); conv => whnf)
      | ((with_reducible apply cl_p); (case hM => with_reducible exact c9_isSheet _ _ _); (case hc => exact rfl); (case hd => decide); conv => whnf)
      | ((with_reducible apply cl_p); (case hM => with_reducible exact c9_within _ _ _ _ _); (case hc => exact rfl); (case hd => decide); conv => whnf)
      | with_reducible refine Pm9.of ?_ ?_
      | ((with_reducible refine ckJ ?_ ?_); conv => whnf)
      | fail
    all_goals try simp (disch := omega) only [ev, ew, e1, e2, e3, nI_clamp, Int32.reduceToNatClampNeg]
    all_goals first | with_reducible rfl | with_reducible assumption | (simp (disch := omega) only [c1, er, taIx, nI_toInt, Int.toNat_natCast, nI_clamp, mpa_0, mpa_1, mpa_2, mpa_3, mpa_9, mpa_10, mpa_11, mpa_12, mp70, mp71, mp72, mp73, mp79, mp80, mp81, mp82, wr_wr, wr_same, Int32.reduceToNatClampNeg, Int32.reduceToInt, Int.reduceToNat]; done) | (simp (disch := omega) only [c1, er, taIx, nI_toInt, Int.toNat_natCast, nI_clamp, mpa_0, mpa_1, mpa_2, mpa_3, mpa_9, mpa_10, mpa_11, mpa_12, mp70, mp71, mp72, mp73, mp79, mp80, mp81, mp82, wr_wr, wr_same, Int32.reduceToNatClampNeg, Int32.reduceToInt, Int.reduceToNat]; with_reducible rfl) | (intro i hi; first | rfl | (simp (disch := omega) only [lo_wr, mf_lo])) | decide | (refine vp_t ?_ ?_ <;> ((try simp (disch := omega) only [c1, er, Int32.toInt_add, Int32.toInt_mul, Int32.toInt_sub, Int.bmod_def, Int32.reduceToInt, nI_toInt, Int32.reduceToNatClampNeg, ev, ew] at *); omega)) | rfl
  · obtain ⟨k, hk, rfl⟩ := in_3 ‹0 ≤ s ∧ s ≤ 3›
    obtain ⟨j, hj, rfl⟩ := in_S hW hk ‹0 ≤ i ∧ i ≤ mp μ 11 (nI k).toInt.toNat - 1›
    have c1 : (40 * nI k + nI j : Int32) = nI (40 * k + j) := ix_40 k j
    have v1 : vp_in (40 * nI k + nI j) 160 := by rw [c1]; exact vp_in_nI (by omega) (by decide)
    refine Mt_of ck_X9_put mf_213 rfl ?_
    clear hW hN
    repeat' first
      | ((with_reducible refine gow ck_X9_put _ [] ?_); conv => whnf)
      | ((with_reducible refine bn_t ?_ ?_); (· first | assumption | decide); conv => whnf)
      | ((with_reducible refine bn_f ?_ ?_); (· first | assumption | decide); conv => whnf)
      | ((with_reducible refine bc_t ?_ ?_); (· first | assumption | decide); conv => whnf)
      | ((with_reducible refine bc_f ?_ ?_); (· first | assumption | decide); conv => whnf)
      | ((with_reducible refine br_t ?_ ?_); (· first | assumption | decide); conv => whnf)
      | ((with_reducible refine br_f ?_ ?_); (· first | assumption | decide); conv => whnf)
      | ((with_reducible refine br_nt ?_ ?_); (· first | assumption | decide); conv => whnf)
      | ((with_reducible refine br_nf ?_ ?_); (· first | assumption | decide); conv => whnf)
      | ((with_reducible refine ckI ?_ ?_); (· first | ((with_reducible refine vp_in_nI ?_ ?_); (· omega); (· decide)) | exact vp_c (by decide) | exact ⟨_, rfl⟩ | exact Or.inl rfl | exact Or.inr rfl | exact b2_01 _); conv => whnf)
      | ((with_reducible apply cl_p); (case hM => with_reducible exact c9_finding1 _ _); (case hc => exact rfl); (case hd => decide); conv => whnf)
      | ((with_reducible apply cl_p); (case hM => with_reducible exact c9_finding2 _ _); (case hc => exact rfl); (case hd => decide); conv => whnf)
      | ((with_reducible apply cl_p); (case hM => with_reducible exact c9_finding3 _ _); (case hc => exact rfl); (case hd => decide); conv => whnf)
      | ((with_reducible apply cl_p); (case hM => with_reducible exact c9_finding4 _ _); (case hc => exact rfl); (case hd => decide); conv => whnf)
      | ((with_reducible apply cl_p); (case hM => with_reducible exact c9_finding5 _ _); (case hc => exact rfl); (case hd => decide); conv => whnf)
      | ((with_reducible apply cl_p); (case hM => with_reducible exact c9_isSheet _ _ _); (case hc => exact rfl); (case hd => decide); conv => whnf)
      | ((with_reducible apply cl_p); (case hM => with_reducible exact c9_within _ _ _ _ _); (case hc => exact rfl); (case hd => decide); conv => whnf)
      | with_reducible refine Pm9.of ?_ ?_
      | ((with_reducible refine ckJ ?_ ?_); conv => whnf)
      | fail
    all_goals try simp (disch := omega) only [ev, ew, e1, e2, e3, nI_clamp, Int32.reduceToNatClampNeg]
    all_goals first | with_reducible rfl | with_reducible assumption | (simp (disch := omega) only [c1, er, taIx, nI_toInt, Int.toNat_natCast, nI_clamp, mpa_0, mpa_1, mpa_2, mpa_3, mpa_9, mpa_10, mpa_11, mpa_12, mp70, mp71, mp72, mp73, mp79, mp80, mp81, mp82, wr_wr, wr_same, Int32.reduceToNatClampNeg, Int32.reduceToInt, Int.reduceToNat]; done) | (simp (disch := omega) only [c1, er, taIx, nI_toInt, Int.toNat_natCast, nI_clamp, mpa_0, mpa_1, mpa_2, mpa_3, mpa_9, mpa_10, mpa_11, mpa_12, mp70, mp71, mp72, mp73, mp79, mp80, mp81, mp82, wr_wr, wr_same, Int32.reduceToNatClampNeg, Int32.reduceToInt, Int.reduceToNat]; with_reducible rfl) | (intro i hi; first | rfl | (simp (disch := omega) only [lo_wr, mf_lo])) | decide | (refine vp_t ?_ ?_ <;> ((try simp (disch := omega) only [c1, er, Int32.toInt_add, Int32.toInt_mul, Int32.toInt_sub, Int.bmod_def, Int32.reduceToInt, nI_toInt, Int32.reduceToNatClampNeg, ev, ew] at *); omega)) | rfl
  · obtain ⟨k, hk, rfl⟩ := in_3 ‹0 ≤ s ∧ s ≤ 3›
    refine Mt_of ck_X9_put mf_213 rfl ?_
    clear hW hN
    repeat' first
      | ((with_reducible refine gow ck_X9_put _ [] ?_); conv => whnf)
      | ((with_reducible refine bn_t ?_ ?_); (· first | assumption | decide); conv => whnf)
      | ((with_reducible refine bn_f ?_ ?_); (· first | assumption | decide); conv => whnf)
      | ((with_reducible refine bc_t ?_ ?_); (· first | assumption | decide); conv => whnf)
      | ((with_reducible refine bc_f ?_ ?_); (· first | assumption | decide); conv => whnf)
      | ((with_reducible refine br_t ?_ ?_); (· first | assumption | decide); conv => whnf)
      | ((with_reducible refine br_f ?_ ?_); (· first | assumption | decide); conv => whnf)
      | ((with_reducible refine br_nt ?_ ?_); (· first | assumption | decide); conv => whnf)
      | ((with_reducible refine br_nf ?_ ?_); (· first | assumption | decide); conv => whnf)
      | ((with_reducible refine ckI ?_ ?_); (· first | ((with_reducible refine vp_in_nI ?_ ?_); (· omega); (· decide)) | exact vp_c (by decide) | exact ⟨_, rfl⟩ | exact Or.inl rfl | exact Or.inr rfl | exact b2_01 _); conv => whnf)
      | ((with_reducible apply cl_p); (case hM => with_reducible exact c9_finding1 _ _); (case hc => exact rfl); (case hd => decide); conv => whnf)
      | ((with_reducible apply cl_p); (case hM => with_reducible exact c9_finding2 _ _); (case hc => exact rfl); (case hd => decide); conv => whnf)
      | ((with_reducible apply cl_p); (case hM => with_reducible exact c9_finding3 _ _); (case hc => exact rfl); (case hd => decide); conv => whnf)
      | ((with_reducible apply cl_p); (case hM => with_reducible exact c9_finding4 _ _); (case hc => exact rfl); (case hd => decide); conv => whnf)
      | ((with_reducible apply cl_p); (case hM => with_reducible exact c9_finding5 _ _); (case hc => exact rfl); (case hd => decide); conv => whnf)
      | ((with_reducible apply cl_p); (case hM => with_reducible exact c9_isSheet _ _ _); (case hc => exact rfl); (case hd => decide); conv => whnf)
      | ((with_reducible apply cl_p); (case hM => with_reducible exact c9_within _ _ _ _ _); (case hc => exact rfl); (case hd => decide); conv => whnf)
      | with_reducible refine Pm9.of ?_ ?_
      | ((with_reducible refine ckJ ?_ ?_); conv => whnf)
      | fail
    all_goals try simp (disch := omega) only [ev, ew, e1, e2, e3, nI_clamp, Int32.reduceToNatClampNeg]
    all_goals first | with_reducible rfl | with_reducible assumption | (simp (disch := omega) only [er, taIx, nI_toInt, Int.toNat_natCast, nI_clamp, mpa_0, mpa_1, mpa_2, mpa_3, mpa_9, mpa_10, mpa_11, mpa_12, mp70, mp71, mp72, mp73, mp79, mp80, mp81, mp82, wr_wr, wr_same, Int32.reduceToNatClampNeg, Int32.reduceToInt, Int.reduceToNat]; done) | (simp (disch := omega) only [er, taIx, nI_toInt, Int.toNat_natCast, nI_clamp, mpa_0, mpa_1, mpa_2, mpa_3, mpa_9, mpa_10, mpa_11, mpa_12, mp70, mp71, mp72, mp73, mp79, mp80, mp81, mp82, wr_wr, wr_same, Int32.reduceToNatClampNeg, Int32.reduceToInt, Int.reduceToNat]; with_reducible rfl) | (intro i hi; first | rfl | (simp (disch := omega) only [lo_wr, mf_lo])) | decide | (refine vp_t ?_ ?_ <;> ((try simp (disch := omega) only [er, Int32.toInt_add, Int32.toInt_mul, Int32.toInt_sub, Int.bmod_def, Int32.reduceToInt, nI_toInt, Int32.reduceToNatClampNeg, ev, ew] at *); omega)) | rfl
  · refine Mt_of ck_X9_put mf_213 rfl ?_
    clear hW hN
    repeat' first
      | ((with_reducible refine gow ck_X9_put _ [] ?_); conv => whnf)
      | ((with_reducible refine bn_t ?_ ?_); (· first | assumption | decide); conv => whnf)
      | ((with_reducible refine bn_f ?_ ?_); (· first | assumption | decide); conv => whnf)
      | ((with_reducible refine bc_t ?_ ?_); (· first | assumption | decide); conv => whnf)
      | ((with_reducible refine bc_f ?_ ?_); (· first | assumption | decide); conv => whnf)
      | ((with_reducible refine br_t ?_ ?_); (· first | assumption | decide); conv => whnf)
      | ((with_reducible refine br_f ?_ ?_); (· first | assumption | decide); conv => whnf)
      | ((with_reducible refine br_nt ?_ ?_); (· first | assumption | decide); conv => whnf)
      | ((with_reducible refine br_nf ?_ ?_); (· first | assumption | decide); conv => whnf)
      | ((with_reducible refine ckI ?_ ?_); (· first | ((with_reducible refine vp_in_nI ?_ ?_); (· omega); (· decide)) | exact vp_c (by decide) | exact ⟨_, rfl⟩ | exact Or.inl rfl | exact Or.inr rfl | exact b2_01 _); conv => whnf)
      | ((with_reducible apply cl_p); (case hM => with_reducible exact c9_finding1 _ _); (case hc => exact rfl); (case hd => decide); conv => whnf)
      | ((with_reducible apply cl_p); (case hM => with_reducible exact c9_finding2 _ _); (case hc => exact rfl); (case hd => decide); conv => whnf)
      | ((with_reducible apply cl_p); (case hM => with_reducible exact c9_finding3 _ _); (case hc => exact rfl); (case hd => decide); conv => whnf)
      | ((with_reducible apply cl_p); (case hM => with_reducible exact c9_finding4 _ _); (case hc => exact rfl); (case hd => decide); conv => whnf)
      | ((with_reducible apply cl_p); (case hM => with_reducible exact c9_finding5 _ _); (case hc => exact rfl); (case hd => decide); conv => whnf)
      | ((with_reducible apply cl_p); (case hM => with_reducible exact c9_isSheet _ _ _); (case hc => exact rfl); (case hd => decide); conv => whnf)
      | ((with_reducible apply cl_p); (case hM => with_reducible exact c9_within _ _ _ _ _); (case hc => exact rfl); (case hd => decide); conv => whnf)
      | with_reducible refine Pm9.of ?_ ?_
      | ((with_reducible refine ckJ ?_ ?_); conv => whnf)
      | fail
    all_goals try simp (disch := omega) only [ev, ew, e1, e2, e3, nI_clamp, Int32.reduceToNatClampNeg]
    all_goals first | with_reducible rfl | with_reducible assumption | (simp (disch := omega) only [er, taIx, nI_toInt, Int.toNat_natCast, nI_clamp, mpa_0, mpa_1, mpa_2, mpa_3, mpa_9, mpa_10, mpa_11, mpa_12, mp70, mp71, mp72, mp73, mp79, mp80, mp81, mp82, wr_wr, wr_same, Int32.reduceToNatClampNeg, Int32.reduceToInt, Int.reduceToNat]; done) | (simp (disch := omega) only [er, taIx, nI_toInt, Int.toNat_natCast, nI_clamp, mpa_0, mpa_1, mpa_2, mpa_3, mpa_9, mpa_10, mpa_11, mpa_12, mp70, mp71, mp72, mp73, mp79, mp80, mp81, mp82, wr_wr, wr_same, Int32.reduceToNatClampNeg, Int32.reduceToInt, Int.reduceToNat]; with_reducible rfl) | (intro i hi; first | rfl | (simp (disch := omega) only [lo_wr, mf_lo])) | decide | (refine vp_t ?_ ?_ <;> ((try simp (disch := omega) only [er, Int32.toInt_add, Int32.toInt_mul, Int32.toInt_sub, Int.bmod_def, Int32.reduceToInt, nI_toInt, Int32.reduceToNatClampNeg, ev, ew] at *); omega)) | rfl
theorem c9_copy (X : Cx) (μ : Mem) (p q : Nat) (hpq : (p = 71 ∧ q = 72) ∨ (p = 72 ∧ q = 71)) : Mt X m_X9_copy 0 [.ref p, .ref q] μ (fun r μ' => r = none ∧ μ' = sf μ q (cpf (μ p) (μ q) 327)) := by
  rcases hpq with ⟨rfl, rfl⟩ | ⟨rfl, rfl⟩
  · have key := dn_ind (n := 327) (P := fun k => ∀ (ν : Mem) (x : Int32), ν = sf μ 72 (cpf (μ 71) (μ 72) k) → x = nI k → VW X m_X9_copy 0 (fun r μ' => r = none ∧ μ' = sf μ 72 (cpf (μ 71) (μ 72) 327)) 2 [some (.ref 71), some (.ref 72), some (.int x)] [] ν) ?_ ?_
    · refine Mt_of ck_X9_copy mf_129 rfl ?_
      repeat' first
        | ((with_reducible refine at_k 2 ?_); exact key 0 (by decide) μ 0 (by rw [cpf_0, sf_self]) rfl)
        | ((with_reducible refine gow ck_X9_copy _ [2] ?_); conv => whnf)
        | ((with_reducible refine bn_t ?_ ?_); (· first | assumption | decide); conv => whnf)
        | ((with_reducible refine bn_f ?_ ?_); (· first | assumption | decide); conv => whnf)
        | ((with_reducible refine bc_t ?_ ?_); (· first | assumption | decide); conv => whnf)
        | ((with_reducible refine bc_f ?_ ?_); (· first | assumption | decide); conv => whnf)
        | ((with_reducible refine br_t ?_ ?_); (· first | assumption | decide); conv => whnf)
        | ((with_reducible refine br_f ?_ ?_); (· first | assumption | decide); conv => whnf)
        | ((with_reducible refine br_nt ?_ ?_); (· first | assumption | decide); conv => whnf)
        | ((with_reducible refine br_nf ?_ ?_); (· first | assumption | decide); conv => whnf)
        | ((with_reducible refine bn_c (fun _ => ?_) (fun _ => ?_)) <;> conv => whnf)
        | ((with_reducible refine bc_c (fun _ => ?_) (fun _ => ?_)) <;> conv => whnf)
        | ((with_reducible refine br_c (fun _ => ?_) (fun _ => ?_)) <;> conv => whnf)
        | ((with_reducible refine br_n (fun _ => ?_) (fun _ => ?_)) <;> conv => whnf)
        | ((with_reducible refine ckI ?_ ?_); (· first | ((with_reducible refine vp_in_nI ?_ ?_); (· omega); (· decide)) | exact vp_c (by decide) | exact ⟨_, rfl⟩ | exact Or.inl rfl | exact Or.inr rfl | exact b2_01 _); conv => whnf)
        | ((with_reducible refine ckJ ?_ ?_); conv => whnf)
        | fail
    · intro ν x h1 h2
      subst h1; subst h2
      have hc : (327 : Int32) ≤ nI 327 := by decide
      refine gow ck_X9_copy 2 [2] ?_
      conv => whnf
      repeat' first
        | ((with_reducible refine gow ck_X9_copy _ [2] ?_); conv => whnf)
        | ((with_reducible refine bn_t ?_ ?_); (· first | assumption | decide); conv => whnf)
        | ((with_reducible refine bn_f ?_ ?_); (· first | assumption | decide); conv => whnf)
        | ((with_reducible refine bc_t ?_ ?_); (· first | assumption | decide); conv => whnf)
        | ((with_reducible refine bc_f ?_ ?_); (· first | assumption | decide); conv => whnf)
        | ((with_reducible refine br_t ?_ ?_); (· first | assumption | decide); conv => whnf)
        | ((with_reducible refine br_f ?_ ?_); (· first | assumption | decide); conv => whnf)
        | ((with_reducible refine br_nt ?_ ?_); (· first | assumption | decide); conv => whnf)
        | ((with_reducible refine br_nf ?_ ?_); (· first | assumption | decide); conv => whnf)
        | ((with_reducible refine bn_c (fun _ => ?_) (fun _ => ?_)) <;> conv => whnf)
        | ((with_reducible refine bc_c (fun _ => ?_) (fun _ => ?_)) <;> conv => whnf)
        | ((with_reducible refine br_c (fun _ => ?_) (fun _ => ?_)) <;> conv => whnf)
        | ((with_reducible refine br_n (fun _ => ?_) (fun _ => ?_)) <;> conv => whnf)
        | ((with_reducible refine ckI ?_ ?_); (· first | ((with_reducible refine vp_in_nI ?_ ?_); (· omega); (· decide)) | exact vp_c (by decide) | exact ⟨_, rfl⟩ | exact Or.inl rfl | exact Or.inr rfl | exact b2_01 _); conv => whnf)
        | ((with_reducible refine ckJ ?_ ?_); conv => whnf)
        | fail
      exact ⟨rfl, rfl⟩
    · intro k hk ih ν x h1 h2
      subst h1; subst h2
      have hc : ¬ (327 : Int32) ≤ nI k := nI_ge hk (by decide)
      have hM : wr (sf μ 72 (cpf (μ 71) (μ 72) k)) 72 (nI k).toNatClampNeg (sf μ 72 (cpf (μ 71) (μ 72) k) 71 (nI k).toNatClampNeg) = sf μ 72 (cpf (μ 71) (μ 72) (k + 1)) := by
        rw [nI_clamp (by omega), sf_ne (by decide), wr_sf, cpf_s]
      refine gow ck_X9_copy 2 [2] ?_
      conv => whnf
      repeat' first
        | ((with_reducible refine at_k 2 ?_); exact ih _ _ hM (nI_1 k))
        | ((with_reducible refine gow ck_X9_copy _ [2] ?_); conv => whnf)
        | ((with_reducible refine bn_t ?_ ?_); (· first | assumption | decide); conv => whnf)
        | ((with_reducible refine bn_f ?_ ?_); (· first | assumption | decide); conv => whnf)
        | ((with_reducible refine bc_t ?_ ?_); (· first | assumption | decide); conv => whnf)
        | ((with_reducible refine bc_f ?_ ?_); (· first | assumption | decide); conv => whnf)
        | ((with_reducible refine br_t ?_ ?_); (· first | assumption | decide); conv => whnf)
        | ((with_reducible refine br_f ?_ ?_); (· first | assumption | decide); conv => whnf)
        | ((with_reducible refine br_nt ?_ ?_); (· first | assumption | decide); conv => whnf)
        | ((with_reducible refine br_nf ?_ ?_); (· first | assumption | decide); conv => whnf)
        | ((with_reducible refine bn_c (fun _ => ?_) (fun _ => ?_)) <;> conv => whnf)
        | ((with_reducible refine bc_c (fun _ => ?_) (fun _ => ?_)) <;> conv => whnf)
        | ((with_reducible refine br_c (fun _ => ?_) (fun _ => ?_)) <;> conv => whnf)
        | ((with_reducible refine br_n (fun _ => ?_) (fun _ => ?_)) <;> conv => whnf)
        | ((with_reducible refine ckI ?_ ?_); (· first | ((with_reducible refine vp_in_nI ?_ ?_); (· omega); (· decide)) | exact vp_c (by decide) | exact ⟨_, rfl⟩ | exact Or.inl rfl | exact Or.inr rfl | exact b2_01 _); conv => whnf)
        | ((with_reducible refine ckJ ?_ ?_); conv => whnf)
        | fail
  · have key := dn_ind (n := 327) (P := fun k => ∀ (ν : Mem) (x : Int32), ν = sf μ 71 (cpf (μ 72) (μ 71) k) → x = nI k → VW X m_X9_copy 0 (fun r μ' => r = none ∧ μ' = sf μ 71 (cpf (μ 72) (μ 71) 327)) 2 [some (.ref 72), some (.ref 71), some (.int x)] [] ν) ?_ ?_
    · refine Mt_of ck_X9_copy mf_129 rfl ?_
      repeat' first
        | ((with_reducible refine at_k 2 ?_); exact key 0 (by decide) μ 0 (by rw [cpf_0, sf_self]) rfl)
        | ((with_reducible refine gow ck_X9_copy _ [2] ?_); conv => whnf)
        | ((with_reducible refine bn_t ?_ ?_); (· first | assumption | decide); conv => whnf)
        | ((with_reducible refine bn_f ?_ ?_); (· first | assumption | decide); conv => whnf)
        | ((with_reducible refine bc_t ?_ ?_); (· first | assumption | decide); conv => whnf)
        | ((with_reducible refine bc_f ?_ ?_); (· first | assumption | decide); conv => whnf)
        | ((with_reducible refine br_t ?_ ?_); (· first | assumption | decide); conv => whnf)
        | ((with_reducible refine br_f ?_ ?_); (· first | assumption | decide); conv => whnf)
        | ((with_reducible refine br_nt ?_ ?_); (· first | assumption | decide); conv => whnf)
        | ((with_reducible refine br_nf ?_ ?_); (· first | assumption | decide); conv => whnf)
        | ((with_reducible refine bn_c (fun _ => ?_) (fun _ => ?_)) <;> conv => whnf)
        | ((with_reducible refine bc_c (fun _ => ?_) (fun _ => ?_)) <;> conv => whnf)
        | ((with_reducible refine br_c (fun _ => ?_) (fun _ => ?_)) <;> conv => whnf)
        | ((with_reducible refine br_n (fun _ => ?_) (fun _ => ?_)) <;> conv => whnf)
        | ((with_reducible refine ckI ?_ ?_); (· first | ((with_reducible refine vp_in_nI ?_ ?_); (· omega); (· decide)) | exact vp_c (by decide) | exact ⟨_, rfl⟩ | exact Or.inl rfl | exact Or.inr rfl | exact b2_01 _); conv => whnf)
        | ((with_reducible refine ckJ ?_ ?_); conv => whnf)
        | fail
    · intro ν x h1 h2
      subst h1; subst h2
      have hc : (327 : Int32) ≤ nI 327 := by decide
      refine gow ck_X9_copy 2 [2] ?_
      conv => whnf
      repeat' first
        | ((with_reducible refine gow ck_X9_copy _ [2] ?_); conv => whnf)
        | ((with_reducible refine bn_t ?_ ?_); (· first | assumption | decide); conv => whnf)
        | ((with_reducible refine bn_f ?_ ?_); (· first | assumption | decide); conv => whnf)
        | ((with_reducible refine bc_t ?_ ?_); (· first | assumption | decide); conv => whnf)
        | ((with_reducible refine bc_f ?_ ?_); (· first | assumption | decide); conv => whnf)
        | ((with_reducible refine br_t ?_ ?_); (· first | assumption | decide); conv => whnf)
        | ((with_reducible refine br_f ?_ ?_); (· first | assumption | decide); conv => whnf)
        | ((with_reducible refine br_nt ?_ ?_); (· first | assumption | decide); conv => whnf)
        | ((with_reducible refine br_nf ?_ ?_); (· first | assumption | decide); conv => whnf)
        | ((with_reducible refine bn_c (fun _ => ?_) (fun _ => ?_)) <;> conv => whnf)
        | ((with_reducible refine bc_c (fun _ => ?_) (fun _ => ?_)) <;> conv => whnf)
        | ((with_reducible refine br_c (fun _ => ?_) (fun _ => ?_)) <;> conv => whnf)
        | ((with_reducible refine br_n (fun _ => ?_) (fun _ => ?_)) <;> conv => whnf)
        | ((with_reducible refine ckI ?_ ?_); (· first | ((with_reducible refine vp_in_nI ?_ ?_); (· omega); (· decide)) | exact vp_c (by decide) | exact ⟨_, rfl⟩ | exact Or.inl rfl | exact Or.inr rfl | exact b2_01 _); conv => whnf)
        | ((with_reducible refine ckJ ?_ ?_); conv => whnf)
        | fail
      exact ⟨rfl, rfl⟩
    · intro k hk ih ν x h1 h2
      subst h1; subst h2
      have hc : ¬ (327 : Int32) ≤ nI k := nI_ge hk (by decide)
      have hM : wr (sf μ 71 (cpf (μ 72) (μ 71) k)) 71 (nI k).toNatClampNeg (sf μ 71 (cpf (μ 72) (μ 71) k) 72 (nI k).toNatClampNeg) = sf μ 71 (cpf (μ 72) (μ 71) (k + 1)) := by
        rw [nI_clamp (by omega), sf_ne (by decide), wr_sf, cpf_s]
      refine gow ck_X9_copy 2 [2] ?_
      conv => whnf
      repeat' first
        | ((with_reducible refine at_k 2 ?_); exact ih _ _ hM (nI_1 k))
        | ((with_reducible refine gow ck_X9_copy _ [2] ?_); conv => whnf)
        | ((with_reducible refine bn_t ?_ ?_); (· first | assumption | decide); conv => whnf)
        | ((with_reducible refine bn_f ?_ ?_); (· first | assumption | decide); conv => whnf)
        | ((with_reducible refine bc_t ?_ ?_); (· first | assumption | decide); conv => whnf)
        | ((with_reducible refine bc_f ?_ ?_); (· first | assumption | decide); conv => whnf)
        | ((with_reducible refine br_t ?_ ?_); (· first | assumption | decide); conv => whnf)
        | ((with_reducible refine br_f ?_ ?_); (· first | assumption | decide); conv => whnf)
        | ((with_reducible refine br_nt ?_ ?_); (· first | assumption | decide); conv => whnf)
        | ((with_reducible refine br_nf ?_ ?_); (· first | assumption | decide); conv => whnf)
        | ((with_reducible refine bn_c (fun _ => ?_) (fun _ => ?_)) <;> conv => whnf)
        | ((with_reducible refine bc_c (fun _ => ?_) (fun _ => ?_)) <;> conv => whnf)
        | ((with_reducible refine br_c (fun _ => ?_) (fun _ => ?_)) <;> conv => whnf)
        | ((with_reducible refine br_n (fun _ => ?_) (fun _ => ?_)) <;> conv => whnf)
        | ((with_reducible refine ckI ?_ ?_); (· first | ((with_reducible refine vp_in_nI ?_ ?_); (· omega); (· decide)) | exact vp_c (by decide) | exact ⟨_, rfl⟩ | exact Or.inl rfl | exact Or.inr rfl | exact b2_01 _); conv => whnf)
        | ((with_reducible refine ckJ ?_ ?_); conv => whnf)
        | fail
