theorem r_between (X : Cx) (μ : Mem) (a b w : Int32) (hW : WFS (mp μ)) : Mt X m_X9_between 4 [.ref 70, .int a, .int b, .int w] μ (Pm9 μ (sp_between (mp μ) a b w)) := by
  have hN : WN (mp μ 1) := hW.1
  unfold sp_between
  (repeat' split)
  · obtain ⟨⟨ha, hb⟩, hab⟩ := ‹two (mp μ 1) a b›
    have htwo : two (μ 71) a b := ⟨⟨ha, hb⟩, hab⟩
    obtain ⟨i, hi, rfl, -⟩ := in_P hN ha
    obtain ⟨j, hj, rfl, -⟩ := in_P hN hb
    refine Mt_of ck_X9_between mf_159 rfl ?_
    clear hW hN
    repeat' first
      | ((with_reducible refine gow ck_X9_between _ [] ?_); conv => whnf)
      | ((with_reducible refine bn_t ?_ ?_); (· first | assumption | decide); conv => whnf)
      | ((with_reducible refine bn_f ?_ ?_); (· first | assumption | decide); conv => whnf)
      | ((with_reducible refine bc_t ?_ ?_); (· first | assumption | decide); conv => whnf)
      | ((with_reducible refine bc_f ?_ ?_); (· first | assumption | decide); conv => whnf)
      | ((with_reducible refine br_t ?_ ?_); (· first | assumption | decide); conv => whnf)
      | ((with_reducible refine br_f ?_ ?_); (· first | assumption | decide); conv => whnf)
      | ((with_reducible refine br_nt ?_ ?_); (· first | assumption | decide); conv => whnf)
      | ((with_reducible refine br_nf ?_ ?_); (· first | assumption | decide); conv => whnf)
      | ((with_reducible refine ckI ?_ ?_); (· first | ((with_reducible refine vp_in_nI ?_ ?_); (· omega); (· decide)) | exact vp_c (by decide) | exact ⟨_, rfl⟩ | exact Or.inl rfl | exact Or.inr rfl | exact b2_01 _); conv => whnf)
      | ((with_reducible apply cl_p); (case hM => with_reducible exact c9_finding1 _ _); (case hc => exact rfl); (case hd => decide); conv => whnf)
      | ((with_reducible apply cl_p); (case hM => with_reducible exact c9_finding2 _ _); (case hc => exact rfl); (case hd => decide); conv => whnf)
      | ((with_reducible apply cl_p); (case hM => with_reducible exact c9_finding3 _ _); (case hc => exact rfl); (case hd => decide); conv => whnf)
      | ((with_reducible apply cl_p); (case hM => with_reducible exact c9_finding4 _ _); (case hc => exact rfl); (case hd => decide); conv => whnf)
      | ((with_reducible apply cl_p); (case hM => with_reducible exact c9_finding5 _ _); (case hc => exact rfl); (case hd => decide); conv => whnf)
      | ((with_reducible apply cl_p); (case hM => with_reducible exact c9_areTwo _ _ _ _); (case hc => exact rfl); (case hd => decide); conv => whnf)
      | ((with_reducible apply cl_p); (case hM => with_reducible exact c9_within _ _ _ _ _); (case hc => exact rfl); (case hd => decide); conv => whnf)
      | ((with_reducible apply cl_p); (case hM => with_reducible exact c9_yardsOf _ _ _ _ (by omega) (by omega)); (case hc => exact rfl); (case hd => decide); conv => whnf)
      | ((with_reducible apply cl_p); (case hM => with_reducible exact c9_tollOf _ _ _ _ (by omega) (by omega)); (case hc => exact rfl); (case hd => decide); conv => whnf)
      | with_reducible refine Pm9.of ?_ ?_
      | ((with_reducible refine ckJ ?_ ?_); conv => whnf)
      | fail
    all_goals try simp (disch := omega) only [ev, ew, e1, e2, e3, nI_clamp, Int32.reduceToNatClampNeg]
    all_goals first | with_reducible rfl | with_reducible assumption | (simp (disch := omega) only [yd, tl, er, taIx, nI_toInt, Int.toNat_natCast, nI_clamp, mpa_0, mpa_1, mpa_2, mpa_3, mpa_9, mpa_10, mpa_11, mpa_12, mp70, mp71, mp72, mp73, mp79, mp80, mp81, mp82, wr_wr, wr_same, Int32.reduceToNatClampNeg, Int32.reduceToInt, Int.reduceToNat]; done) | (simp (disch := omega) only [yd, tl, er, taIx, nI_toInt, Int.toNat_natCast, nI_clamp, mpa_0, mpa_1, mpa_2, mpa_3, mpa_9, mpa_10, mpa_11, mpa_12, mp70, mp71, mp72, mp73, mp79, mp80, mp81, mp82, wr_wr, wr_same, Int32.reduceToNatClampNeg, Int32.reduceToInt, Int.reduceToNat]; with_reducible rfl) | (intro i hi; first | rfl | (simp (disch := omega) only [lo_wr, lo_sf]; done)) | decide | (refine vp_t ?_ ?_ <;> ((try simp (disch := omega) only [yd, tl, er, Int32.toInt_add, Int32.toInt_mul, Int32.toInt_sub, Int.bmod_def, Int32.reduceToInt, nI_toInt, Int32.reduceToNatClampNeg, ev, ew] at *); omega)) | rfl
  · obtain ⟨⟨ha, hb⟩, hab⟩ := ‹two (mp μ 1) a b›
    have htwo : two (μ 71) a b := ⟨⟨ha, hb⟩, hab⟩
    obtain ⟨i, hi, rfl, -⟩ := in_P hN ha
    obtain ⟨j, hj, rfl, -⟩ := in_P hN hb
    refine Mt_of ck_X9_between mf_159 rfl ?_
    clear hW hN
    repeat' first
      | ((with_reducible refine gow ck_X9_between _ [] ?_); conv => whnf)
      | ((with_reducible refine bn_t ?_ ?_); (· first | assumption | decide); conv => whnf)
      | ((with_reducible refine bn_f ?_ ?_); (· first | assumption | decide); conv => whnf)
      | ((with_reducible refine bc_t ?_ ?_); (· first | assumption | decide); conv => whnf)
      | ((with_reducible refine bc_f ?_ ?_); (· first | assumption | decide); conv => whnf)
      | ((with_reducible refine br_t ?_ ?_); (· first | assumption | decide); conv => whnf)
      | ((with_reducible refine br_f ?_ ?_); (· first | assumption | decide); conv => whnf)
      | ((with_reducible refine br_nt ?_ ?_); (· first | assumption | decide); conv => whnf)
      | ((with_reducible refine br_nf ?_ ?_); (· first | assumption | decide); conv => whnf)
      | ((with_reducible refine ckI ?_ ?_); (· first | ((with_reducible refine vp_in_nI ?_ ?_); (· omega); (· decide)) | exact vp_c (by decide) | exact ⟨_, rfl⟩ | exact Or.inl rfl | exact Or.inr rfl | exact b2_01 _); conv => whnf)
      | ((with_reducible apply cl_p); (case hM => with_reducible exact c9_finding1 _ _); (case hc => exact rfl); (case hd => decide); conv => whnf)
      | ((with_reducible apply cl_p); (case hM => with_reducible exact c9_finding2 _ _); (case hc => exact rfl); (case hd => decide); conv => whnf)
      | ((with_reducible apply cl_p); (case hM => with_reducible exact c9_finding3 _ _); (case hc => exact rfl); (case hd => decide); conv => whnf)
      | ((with_reducible apply cl_p); (case hM => with_reducible exact c9_finding4 _ _); (case hc => exact rfl); (case hd => decide); conv => whnf)
      | ((with_reducible apply cl_p); (case hM => with_reducible exact c9_finding5 _ _); (case hc => exact rfl); (case hd => decide); conv => whnf)
      | ((with_reducible apply cl_p); (case hM => with_reducible exact c9_areTwo _ _ _ _); (case hc => exact rfl); (case hd => decide); conv => whnf)
      | ((with_reducible apply cl_p); (case hM => with_reducible exact c9_within _ _ _ _ _); (case hc => exact rfl); (case hd => decide); conv => whnf)
      | ((with_reducible apply cl_p); (case hM => with_reducible exact c9_yardsOf _ _ _ _ (by omega) (by omega)); (case hc => exact rfl); (case hd => decide); conv => whnf)
      | ((with_reducible apply cl_p); (case hM => with_reducible exact c9_tollOf _ _ _ _ (by omega) (by omega)); (case hc => exact rfl); (case hd => decide); conv => whnf)
      | with_reducible refine Pm9.of ?_ ?_
      | ((with_reducible refine ckJ ?_ ?_); conv => whnf)
      | fail
    all_goals try simp (disch := omega) only [ev, ew, e1, e2, e3, nI_clamp, Int32.reduceToNatClampNeg]
    all_goals first | with_reducible rfl | with_reducible assumption | (simp (disch := omega) only [yd, tl, er, taIx, nI_toInt, Int.toNat_natCast, nI_clamp, mpa_0, mpa_1, mpa_2, mpa_3, mpa_9, mpa_10, mpa_11, mpa_12, mp70, mp71, mp72, mp73, mp79, mp80, mp81, mp82, wr_wr, wr_same, Int32.reduceToNatClampNeg, Int32.reduceToInt, Int.reduceToNat]; done) | (simp (disch := omega) only [yd, tl, er, taIx, nI_toInt, Int.toNat_natCast, nI_clamp, mpa_0, mpa_1, mpa_2, mpa_3, mpa_9, mpa_10, mpa_11, mpa_12, mp70, mp71, mp72, mp73, mp79, mp80, mp81, mp82, wr_wr, wr_same, Int32.reduceToNatClampNeg, Int32.reduceToInt, Int.reduceToNat]; with_reducible rfl) | (intro i hi; first | rfl | (simp (disch := omega) only [lo_wr, lo_sf]; done)) | decide | (refine vp_t ?_ ?_ <;> ((try simp (disch := omega) only [yd, tl, er, Int32.toInt_add, Int32.toInt_mul, Int32.toInt_sub, Int.bmod_def, Int32.reduceToInt, nI_toInt, Int32.reduceToNatClampNeg, ev, ew] at *); omega)) | rfl
  · refine Mt_of ck_X9_between mf_159 rfl ?_
    clear hW hN
    repeat' first
      | ((with_reducible refine gow ck_X9_between _ [] ?_); conv => whnf)
      | ((with_reducible refine bn_t ?_ ?_); (· first | assumption | decide); conv => whnf)
      | ((with_reducible refine bn_f ?_ ?_); (· first | assumption | decide); conv => whnf)
      | ((with_reducible refine bc_t ?_ ?_); (· first | assumption | decide); conv => whnf)
      | ((with_reducible refine bc_f ?_ ?_); (· first | assumption | decide); conv => whnf)
      | ((with_reducible refine br_t ?_ ?_); (· first | assumption | decide); conv => whnf)
      | ((with_reducible refine br_f ?_ ?_); (· first | assumption | decide); conv => whnf)
      | ((with_reducible refine br_nt ?_ ?_); (· first | assumption | decide); conv => whnf)
      | ((with_reducible refine br_nf ?_ ?_); (· first | assumption | decide); conv => whnf)
      | ((with_reducible refine ckI ?_ ?_); (· first | ((with_reducible refine vp_in_nI ?_ ?_); (· omega); (· decide)) | exact vp_c (by decide) | exact ⟨_, rfl⟩ | exact Or.inl rfl | exact Or.inr rfl | exact b2_01 _); conv => whnf)
      | ((with_reducible apply cl_p); (case hM => with_reducible exact c9_finding1 _ _); (case hc => exact rfl); (case hd => decide); conv => whnf)
      | ((with_reducible apply cl_p); (case hM => with_reducible exact c9_finding2 _ _); (case hc => exact rfl); (case hd => decide); conv => whnf)
      | ((with_reducible apply cl_p); (case hM => with_reducible exact c9_finding3 _ _); (case hc => exact rfl); (case hd => decide); conv => whnf)
      | ((with_reducible apply cl_p); (case hM => with_reducible exact c9_finding4 _ _); (case hc => exact rfl); (case hd => decide); conv => whnf)
      | ((with_reducible apply cl_p); (case hM => with_reducible exact c9_finding5 _ _); (case hc => exact rfl); (case hd => decide); conv => whnf)
      | ((with_reducible apply cl_p); (case hM => with_reducible exact c9_areTwo _ _ _ _); (case hc => exact rfl); (case hd => decide); conv => whnf)
      | ((with_reducible apply cl_p); (case hM => with_reducible exact c9_within _ _ _ _ _); (case hc => exact rfl); (case hd => decide); conv => whnf)
      | ((with_reducible apply cl_p); (case hM => with_reducible exact c9_yardsOf _ _ _ _ (by omega) (by omega)); (case hc => exact rfl); (case hd => decide); conv => whnf)
      | ((with_reducible apply cl_p); (case hM => with_reducible exact c9_tollOf _ _ _ _ (by omega) (by omega)); (case hc => exact rfl); (case hd => decide); conv => whnf)
      | with_reducible refine Pm9.of ?_ ?_
      | ((with_reducible refine ckJ ?_ ?_); conv => whnf)
      | fail
    all_goals try simp (disch := omega) only [ev, ew, e1, e2, e3, nI_clamp, Int32.reduceToNatClampNeg]
    all_goals first | with_reducible rfl | with_reducible assumption | (simp (disch := omega) only [yd, tl, er, taIx, nI_toInt, Int.toNat_natCast, nI_clamp, mpa_0, mpa_1, mpa_2, mpa_3, mpa_9, mpa_10, mpa_11, mpa_12, mp70, mp71, mp72, mp73, mp79, mp80, mp81, mp82, wr_wr, wr_same, Int32.reduceToNatClampNeg, Int32.reduceToInt, Int.reduceToNat]; done) | (simp (disch := omega) only [yd, tl, er, taIx, nI_toInt, Int.toNat_natCast, nI_clamp, mpa_0, mpa_1, mpa_2, mpa_3, mpa_9, mpa_10, mpa_11, mpa_12, mp70, mp71, mp72, mp73, mp79, mp80, mp81, mp82, wr_wr, wr_same, Int32.reduceToNatClampNeg, Int32.reduceToInt, Int.reduceToNat]; with_reducible rfl) | (intro i hi; first | rfl | (simp (disch := omega) only [lo_wr, lo_sf]; done)) | decide | (refine vp_t ?_ ?_ <;> ((try simp (disch := omega) only [yd, tl, er, Int32.toInt_add, Int32.toInt_mul, Int32.toInt_sub, Int.bmod_def, Int32.reduceToInt, nI_toInt, Int32.reduceToNatClampNeg, ev, ew] at *); omega)) | rfl
  · refine Mt_of ck_X9_between mf_159 rfl ?_
    clear hW hN
    repeat' first
      | ((with_reducible refine gow ck_X9_between _ [] ?_); conv => whnf)
      | ((with_reducible refine bn_t ?_ ?_); (· first | assumption | decide); conv => whnf)
      | ((with_reducible refine bn_f ?_ ?_); (· first | assumption | decide); conv => whnf)
      | ((with_reducible refine bc_t ?_ ?_); (· first | assumption | decide); conv => whnf)
      | ((with_reducible refine bc_f ?_ ?_); (· first | assumption | decide); conv => whnf)
      | ((with_reducible refine br_t ?_ ?_); (· first | assumption | decide); conv => whnf)
      | ((with_reducible refine br_f ?_ ?_); (· first | assumption | decide); conv => whnf)
      | ((with_reducible refine br_nt ?_ ?_); (· first | assumption | decide); conv => whnf)
      | ((with_reducible refine br_nf ?_ ?_); (· first | assumption | decide); conv => whnf)
      | ((with_reducible refine ckI ?_ ?_); (· first | ((with_reducible refine vp_in_nI ?_ ?_); (· omega); (· decide)) | exact vp_c (by decide) | exact ⟨_, rfl⟩ | exact Or.inl rfl | exact Or.inr rfl | exact b2_01 _); conv => whnf)
      | ((with_reducible apply cl_p); (case hM => with_reducible exact c9_finding1 _ _); (case hc => exact rfl); (case hd => decide); conv => whnf)
      | ((with_reducible apply cl_p); (case hM => with_reducible exact c9_finding2 _ _); (case hc => exact rfl); (case hd => decide); conv => whnf)
      | ((with_reducible apply cl_p); (case hM => with_reducible exact c9_finding3 _ _); (case hc => exact rfl); (case hd => decide); conv => whnf)
      | ((with_reducible apply cl_p); (case hM => with_reducible exact c9_finding4 _ _); (case hc => exact rfl); (case hd => decide); conv => whnf)
      | ((with_reducible apply cl_p); (case hM => with_reducible exact c9_finding5 _ _); (case hc => exact rfl); (case hd => decide); conv => whnf)
      | ((with_reducible apply cl_p); (case hM => with_reducible exact c9_areTwo _ _ _ _); (case hc => exact rfl); (case hd => decide); conv => whnf)
      | ((with_reducible apply cl_p); (case hM => with_reducible exact c9_within _ _ _ _ _); (case hc => exact rfl); (case hd => decide); conv => whnf)
      | ((with_reducible apply cl_p); (case hM => with_reducible exact c9_yardsOf _ _ _ _ (by omega) (by omega)); (case hc => exact rfl); (case hd => decide); conv => whnf)
      | ((with_reducible apply cl_p); (case hM => with_reducible exact c9_tollOf _ _ _ _ (by omega) (by omega)); (case hc => exact rfl); (case hd => decide); conv => whnf)
      | with_reducible refine Pm9.of ?_ ?_
      | ((with_reducible refine ckJ ?_ ?_); conv => whnf)
      | fail
    all_goals try simp (disch := omega) only [ev, ew, e1, e2, e3, nI_clamp, Int32.reduceToNatClampNeg]
    all_goals first | with_reducible rfl | with_reducible assumption | (simp (disch := omega) only [yd, tl, er, taIx, nI_toInt, Int.toNat_natCast, nI_clamp, mpa_0, mpa_1, mpa_2, mpa_3, mpa_9, mpa_10, mpa_11, mpa_12, mp70, mp71, mp72, mp73, mp79, mp80, mp81, mp82, wr_wr, wr_same, Int32.reduceToNatClampNeg, Int32.reduceToInt, Int.reduceToNat]; done) | (simp (disch := omega) only [yd, tl, er, taIx, nI_toInt, Int.toNat_natCast, nI_clamp, mpa_0, mpa_1, mpa_2, mpa_3, mpa_9, mpa_10, mpa_11, mpa_12, mp70, mp71, mp72, mp73, mp79, mp80, mp81, mp82, wr_wr, wr_same, Int32.reduceToNatClampNeg, Int32.reduceToInt, Int.reduceToNat]; with_reducible rfl) | (intro i hi; first | rfl | (simp (disch := omega) only [lo_wr, lo_sf]; done)) | decide | (refine vp_t ?_ ?_ <;> ((try simp (disch := omega) only [yd, tl, er, Int32.toInt_add, Int32.toInt_mul, Int32.toInt_sub, Int.bmod_def, Int32.reduceToInt, nI_toInt, Int32.reduceToNatClampNeg, ev, ew] at *); omega)) | rfl
theorem r_road (X : Cx) (μ : Mem) (a b w v : Int32) (hW : WFS (mp μ)) : Mt X m_X9_road 4 [.ref 70, .int a, .int b, .int w, .int v] μ (Pm9 μ (sp_road (mp μ) a b w v)) := by
  have hN : WN (mp μ 1) := hW.1
  unfold sp_road
  (repeat' split)
  · obtain ⟨⟨ha, hb⟩, hab⟩ := ‹two (mp μ 1) a b›
    have htwo : two (μ 71) a b := ⟨⟨ha, hb⟩, hab⟩
    obtain ⟨i, hi, rfl, -⟩ := in_P hN ha
    obtain ⟨j, hj, rfl, -⟩ := in_P hN hb
    have c1 : (13 + 7 * nI j + nI i : Int32) = nI (13 + 7 * j + i) := ix_r j i
    have c2 : (62 + 7 * nI j + nI i : Int32) = nI (62 + 7 * j + i) := ix_l j i
    have v1 : vp_in (13 + 7 * nI j + nI i) 327 := by rw [c1]; exact vp_in_nI (by omega) (by decide)
    have v2 : vp_in (62 + 7 * nI j + nI i) 327 := by rw [c2]; exact vp_in_nI (by omega) (by decide)
    have tr : ∀ {μ : Mem} {v : Int32}, Mt X m_X9_turn 0 [.ref 70, .int (13 + 7 * nI i + nI j), .int v] μ (fun r μ' => r = some (.int (μ 71 (13 + 7 * i + j))) ∧ μ' = wr μ 71 (13 + 7 * i + j) v) := c9_turn X _ _ _ _ (ix_r i j) (by omega)
    have tt : ∀ {μ : Mem} {v : Int32}, Mt X m_X9_turn 0 [.ref 70, .int (62 + 7 * nI i + nI j), .int v] μ (fun r μ' => r = some (.int (μ 71 (62 + 7 * i + j))) ∧ μ' = wr μ 71 (62 + 7 * i + j) v) := c9_turn X _ _ _ _ (ix_l i j) (by omega)
    have hij : i ≠ j := fun e => hab (by rw [e])
    subst w
    refine Mt_of ck_X9_road mf_158 rfl ?_
    clear hW hN
    repeat' first
      | ((with_reducible refine gow ck_X9_road _ [] ?_); conv => whnf)
      | ((with_reducible refine bn_t ?_ ?_); (· first | assumption | decide); conv => whnf)
      | ((with_reducible refine bn_f ?_ ?_); (· first | assumption | decide); conv => whnf)
      | ((with_reducible refine bc_t ?_ ?_); (· first | assumption | decide); conv => whnf)
      | ((with_reducible refine bc_f ?_ ?_); (· first | assumption | decide); conv => whnf)
      | ((with_reducible refine br_t ?_ ?_); (· first | assumption | decide); conv => whnf)
      | ((with_reducible refine br_f ?_ ?_); (· first | assumption | decide); conv => whnf)
      | ((with_reducible refine br_nt ?_ ?_); (· first | assumption | decide); conv => whnf)
      | ((with_reducible refine br_nf ?_ ?_); (· first | assumption | decide); conv => whnf)
      | ((with_reducible refine ckI ?_ ?_); (· first | ((with_reducible refine vp_in_nI ?_ ?_); (· omega); (· decide)) | exact vp_c (by decide) | exact ⟨_, rfl⟩ | exact Or.inl rfl | exact Or.inr rfl | exact b2_01 _); conv => whnf)
      | ((with_reducible apply cl_p); (case hM => with_reducible exact c9_finding1 _ _); (case hc => exact rfl); (case hd => decide); conv => whnf)
      | ((with_reducible apply cl_p); (case hM => with_reducible exact c9_finding2 _ _); (case hc => exact rfl); (case hd => decide); conv => whnf)
      | ((with_reducible apply cl_p); (case hM => with_reducible exact c9_finding3 _ _); (case hc => exact rfl); (case hd => decide); conv => whnf)
      | ((with_reducible apply cl_p); (case hM => with_reducible exact c9_finding4 _ _); (case hc => exact rfl); (case hd => decide); conv => whnf)
      | ((with_reducible apply cl_p); (case hM => with_reducible exact c9_finding5 _ _); (case hc => exact rfl); (case hd => decide); conv => whnf)
      | ((with_reducible apply cl_p); (case hM => with_reducible exact c9_areTwo _ _ _ _); (case hc => exact rfl); (case hd => decide); conv => whnf)
      | ((with_reducible apply cl_p); (case hM => with_reducible exact c9_within _ _ _ _ _); (case hc => exact rfl); (case hd => decide); conv => whnf)
      | ((with_reducible apply cl_p); (case hM => exact tr); (case hc => exact rfl); (case hd => decide); conv => whnf)
      | ((with_reducible apply cl_p); (case hM => exact tt); (case hc => exact rfl); (case hd => decide); conv => whnf)
      | with_reducible refine Pm9.of ?_ ?_
      | ((with_reducible refine ckJ ?_ ?_); conv => whnf)
      | fail
    all_goals try simp (disch := omega) only [ev, ew, e1, e2, e3, nI_clamp, Int32.reduceToNatClampNeg]
    all_goals first | with_reducible rfl | with_reducible assumption | (simp (disch := omega) only [c1, c2, yd, tl, er, taIx, nI_toInt, Int.toNat_natCast, nI_clamp, mpa_0, mpa_1, mpa_2, mpa_3, mpa_9, mpa_10, mpa_11, mpa_12, mp70, mp71, mp72, mp73, mp79, mp80, mp81, mp82, wr_wr, wr_same, Int32.reduceToNatClampNeg, Int32.reduceToInt, Int.reduceToNat]; done) | (simp (disch := omega) only [c1, c2, yd, tl, er, taIx, nI_toInt, Int.toNat_natCast, nI_clamp, mpa_0, mpa_1, mpa_2, mpa_3, mpa_9, mpa_10, mpa_11, mpa_12, mp70, mp71, mp72, mp73, mp79, mp80, mp81, mp82, wr_wr, wr_same, Int32.reduceToNatClampNeg, Int32.reduceToInt, Int.reduceToNat]; with_reducible rfl) | (intro i hi; first | rfl | (simp (disch := omega) only [lo_wr, lo_sf]; done)) | decide | (refine vp_t ?_ ?_ <;> ((try simp (disch := omega) only [c1, c2, yd, tl, er, Int32.toInt_add, Int32.toInt_mul, Int32.toInt_sub, Int.bmod_def, Int32.reduceToInt, nI_toInt, Int32.reduceToNatClampNeg, ev, ew] at *); omega)) | rfl
  · subst w
    refine Mt_of ck_X9_road mf_158 rfl ?_
    clear hW hN
    repeat' first
      | ((with_reducible refine gow ck_X9_road _ [] ?_); conv => whnf)
      | ((with_reducible refine bn_t ?_ ?_); (· first | assumption | decide); conv => whnf)
      | ((with_reducible refine bn_f ?_ ?_); (· first | assumption | decide); conv => whnf)
      | ((with_reducible refine bc_t ?_ ?_); (· first | assumption | decide); conv => whnf)
      | ((with_reducible refine bc_f ?_ ?_); (· first | assumption | decide); conv => whnf)
      | ((with_reducible refine br_t ?_ ?_); (· first | assumption | decide); conv => whnf)
      | ((with_reducible refine br_f ?_ ?_); (· first | assumption | decide); conv => whnf)
      | ((with_reducible refine br_nt ?_ ?_); (· first | assumption | decide); conv => whnf)
      | ((with_reducible refine br_nf ?_ ?_); (· first | assumption | decide); conv => whnf)
      | ((with_reducible refine ckI ?_ ?_); (· first | ((with_reducible refine vp_in_nI ?_ ?_); (· omega); (· decide)) | exact vp_c (by decide) | exact ⟨_, rfl⟩ | exact Or.inl rfl | exact Or.inr rfl | exact b2_01 _); conv => whnf)
      | ((with_reducible apply cl_p); (case hM => with_reducible exact c9_finding1 _ _); (case hc => exact rfl); (case hd => decide); conv => whnf)
      | ((with_reducible apply cl_p); (case hM => with_reducible exact c9_finding2 _ _); (case hc => exact rfl); (case hd => decide); conv => whnf)
      | ((with_reducible apply cl_p); (case hM => with_reducible exact c9_finding3 _ _); (case hc => exact rfl); (case hd => decide); conv => whnf)
      | ((with_reducible apply cl_p); (case hM => with_reducible exact c9_finding4 _ _); (case hc => exact rfl); (case hd => decide); conv => whnf)
      | ((with_reducible apply cl_p); (case hM => with_reducible exact c9_finding5 _ _); (case hc => exact rfl); (case hd => decide); conv => whnf)
      | ((with_reducible apply cl_p); (case hM => with_reducible exact c9_areTwo _ _ _ _); (case hc => exact rfl); (case hd => decide); conv => whnf)
      | ((with_reducible apply cl_p); (case hM => with_reducible exact c9_within _ _ _ _ _); (case hc => exact rfl); (case hd => decide); conv => whnf)
      | ((with_reducible apply cl_p); (case hM => exact tr); (case hc => exact rfl); (case hd => decide); conv => whnf)
      | ((with_reducible apply cl_p); (case hM => exact tt); (case hc => exact rfl); (case hd => decide); conv => whnf)
      | with_reducible refine Pm9.of ?_ ?_
      | ((with_reducible refine ckJ ?_ ?_); conv => whnf)
      | fail
    all_goals try simp (disch := omega) only [ev, ew, e1, e2, e3, nI_clamp, Int32.reduceToNatClampNeg]
    all_goals first | with_reducible rfl | with_reducible assumption | (simp (disch := omega) only [yd, tl, er, taIx, nI_toInt, Int.toNat_natCast, nI_clamp, mpa_0, mpa_1, mpa_2, mpa_3, mpa_9, mpa_10, mpa_11, mpa_12, mp70, mp71, mp72, mp73, mp79, mp80, mp81, mp82, wr_wr, wr_same, Int32.reduceToNatClampNeg, Int32.reduceToInt, Int.reduceToNat]; done) | (simp (disch := omega) only [yd, tl, er, taIx, nI_toInt, Int.toNat_natCast, nI_clamp, mpa_0, mpa_1, mpa_2, mpa_3, mpa_9, mpa_10, mpa_11, mpa_12, mp70, mp71, mp72, mp73, mp79, mp80, mp81, mp82, wr_wr, wr_same, Int32.reduceToNatClampNeg, Int32.reduceToInt, Int.reduceToNat]; with_reducible rfl) | (intro i hi; first | rfl | (simp (disch := omega) only [lo_wr, lo_sf]; done)) | decide | (refine vp_t ?_ ?_ <;> ((try simp (disch := omega) only [yd, tl, er, Int32.toInt_add, Int32.toInt_mul, Int32.toInt_sub, Int.bmod_def, Int32.reduceToInt, nI_toInt, Int32.reduceToNatClampNeg, ev, ew] at *); omega)) | rfl
  · obtain ⟨⟨ha, hb⟩, hab⟩ := ‹two (mp μ 1) a b›
    have htwo : two (μ 71) a b := ⟨⟨ha, hb⟩, hab⟩
    obtain ⟨i, hi, rfl, -⟩ := in_P hN ha
    obtain ⟨j, hj, rfl, -⟩ := in_P hN hb
    have c1 : (13 + 7 * nI j + nI i : Int32) = nI (13 + 7 * j + i) := ix_r j i
    have c2 : (62 + 7 * nI j + nI i : Int32) = nI (62 + 7 * j + i) := ix_l j i
    have v1 : vp_in (13 + 7 * nI j + nI i) 327 := by rw [c1]; exact vp_in_nI (by omega) (by decide)
    have v2 : vp_in (62 + 7 * nI j + nI i) 327 := by rw [c2]; exact vp_in_nI (by omega) (by decide)
    have tr : ∀ {μ : Mem} {v : Int32}, Mt X m_X9_turn 0 [.ref 70, .int (13 + 7 * nI i + nI j), .int v] μ (fun r μ' => r = some (.int (μ 71 (13 + 7 * i + j))) ∧ μ' = wr μ 71 (13 + 7 * i + j) v) := c9_turn X _ _ _ _ (ix_r i j) (by omega)
    have tt : ∀ {μ : Mem} {v : Int32}, Mt X m_X9_turn 0 [.ref 70, .int (62 + 7 * nI i + nI j), .int v] μ (fun r μ' => r = some (.int (μ 71 (62 + 7 * i + j))) ∧ μ' = wr μ 71 (62 + 7 * i + j) v) := c9_turn X _ _ _ _ (ix_l i j) (by omega)
    have hij : i ≠ j := fun e => hab (by rw [e])
    refine Mt_of ck_X9_road mf_158 rfl ?_
    clear hW hN
    repeat' first
      | ((with_reducible refine gow ck_X9_road _ [] ?_); conv => whnf)
      | ((with_reducible refine bn_t ?_ ?_); (· first | assumption | decide); conv => whnf)
      | ((with_reducible refine bn_f ?_ ?_); (· first | assumption | decide); conv => whnf)
      | ((with_reducible refine bc_t ?_ ?_); (· first | assumption | decide); conv => whnf)
      | ((with_reducible refine bc_f ?_ ?_); (· first | assumption | decide); conv => whnf)
      | ((with_reducible refine br_t ?_ ?_); (· first | assumption | decide); conv => whnf)
      | ((with_reducible refine br_f ?_ ?_); (· first | assumption | decide); conv => whnf)
      | ((with_reducible refine br_nt ?_ ?_); (· first | assumption | decide); conv => whnf)
      | ((with_reducible refine br_nf ?_ ?_); (· first | assumption | decide); conv => whnf)
      | ((with_reducible refine ckI ?_ ?_); (· first | ((with_reducible refine vp_in_nI ?_ ?_); (· omega); (· decide)) | exact vp_c (by decide) | exact ⟨_, rfl⟩ | exact Or.inl rfl | exact Or.inr rfl | exact b2_01 _); conv => whnf)
      | ((with_reducible apply cl_p); (case hM => with_reducible exact c9_finding1 _ _); (case hc => exact rfl); (case hd => decide); conv => whnf)
      | ((with_reducible apply cl_p); (case hM => with_reducible exact c9_finding2 _ _); (case hc => exact rfl); (case hd => decide); conv => whnf)
      | ((with_reducible apply cl_p); (case hM => with_reducible exact c9_finding3 _ _); (case hc => exact rfl); (case hd => decide); conv => whnf)
      | ((with_reducible apply cl_p); (case hM => with_reducible exact c9_finding4 _ _); (case hc => exact rfl); (case hd => decide); conv => whnf)
      | ((with_reducible apply cl_p); (case hM => with_reducible exact c9_finding5 _ _); (case hc => exact rfl); (case hd => decide); conv => whnf)
      | ((with_reducible apply cl_p); (case hM => with_reducible exact c9_areTwo _ _ _ _); (case hc => exact rfl); (case hd => decide); conv => whnf)
      | ((with_reducible apply cl_p); (case hM => with_reducible exact c9_within _ _ _ _ _); (case hc => exact rfl); (case hd => decide); conv => whnf)
      | ((with_reducible apply cl_p); (case hM => exact tr); (case hc => exact rfl); (case hd => decide); conv => whnf)
      | ((with_reducible apply cl_p); (case hM => exact tt); (case hc => exact rfl); (case hd => decide); conv => whnf)
      | with_reducible refine Pm9.of ?_ ?_
      | ((with_reducible refine ckJ ?_ ?_); conv => whnf)
      | fail
    all_goals try simp (disch := omega) only [ev, ew, e1, e2, e3, nI_clamp, Int32.reduceToNatClampNeg]
    all_goals first | with_reducible rfl | with_reducible assumption | (simp (disch := omega) only [c1, c2, yd, tl, er, taIx, nI_toInt, Int.toNat_natCast, nI_clamp, mpa_0, mpa_1, mpa_2, mpa_3, mpa_9, mpa_10, mpa_11, mpa_12, mp70, mp71, mp72, mp73, mp79, mp80, mp81, mp82, wr_wr, wr_same, Int32.reduceToNatClampNeg, Int32.reduceToInt, Int.reduceToNat]; done) | (simp (disch := omega) only [c1, c2, yd, tl, er, taIx, nI_toInt, Int.toNat_natCast, nI_clamp, mpa_0, mpa_1, mpa_2, mpa_3, mpa_9, mpa_10, mpa_11, mpa_12, mp70, mp71, mp72, mp73, mp79, mp80, mp81, mp82, wr_wr, wr_same, Int32.reduceToNatClampNeg, Int32.reduceToInt, Int.reduceToNat]; with_reducible rfl) | (intro i hi; first | rfl | (simp (disch := omega) only [lo_wr, lo_sf]; done)) | decide | (refine vp_t ?_ ?_ <;> ((try simp (disch := omega) only [c1, c2, yd, tl, er, Int32.toInt_add, Int32.toInt_mul, Int32.toInt_sub, Int.bmod_def, Int32.reduceToInt, nI_toInt, Int32.reduceToNatClampNeg, ev, ew] at *); omega)) | rfl
  · refine Mt_of ck_X9_road mf_158 rfl ?_
    clear hW hN
    repeat' first
      | ((with_reducible refine gow ck_X9_road _ [] ?_); conv => whnf)
      | ((with_reducible refine bn_t ?_ ?_); (· first | assumption | decide); conv => whnf)
      | ((with_reducible refine bn_f ?_ ?_); (· first | assumption | decide); conv => whnf)
      | ((with_reducible refine bc_t ?_ ?_); (· first | assumption | decide); conv => whnf)
      | ((with_reducible refine bc_f ?_ ?_); (· first | assumption | decide); conv => whnf)
      | ((with_reducible refine br_t ?_ ?_); (· first | assumption | decide); conv => whnf)
      | ((with_reducible refine br_f ?_ ?_); (· first | assumption | decide); conv => whnf)
      | ((with_reducible refine br_nt ?_ ?_); (· first | assumption | decide); conv => whnf)
      | ((with_reducible refine br_nf ?_ ?_); (· first | assumption | decide); conv => whnf)
      | ((with_reducible refine ckI ?_ ?_); (· first | ((with_reducible refine vp_in_nI ?_ ?_); (· omega); (· decide)) | exact vp_c (by decide) | exact ⟨_, rfl⟩ | exact Or.inl rfl | exact Or.inr rfl | exact b2_01 _); conv => whnf)
      | ((with_reducible apply cl_p); (case hM => with_reducible exact c9_finding1 _ _); (case hc => exact rfl); (case hd => decide); conv => whnf)
      | ((with_reducible apply cl_p); (case hM => with_reducible exact c9_finding2 _ _); (case hc => exact rfl); (case hd => decide); conv => whnf)
      | ((with_reducible apply cl_p); (case hM => with_reducible exact c9_finding3 _ _); (case hc => exact rfl); (case hd => decide); conv => whnf)
      | ((with_reducible apply cl_p); (case hM => with_reducible exact c9_finding4 _ _); (case hc => exact rfl); (case hd => decide); conv => whnf)
      | ((with_reducible apply cl_p); (case hM => with_reducible exact c9_finding5 _ _); (case hc => exact rfl); (case hd => decide); conv => whnf)
      | ((with_reducible apply cl_p); (case hM => with_reducible exact c9_areTwo _ _ _ _); (case hc => exact rfl); (case hd => decide); conv => whnf)
      | ((with_reducible apply cl_p); (case hM => with_reducible exact c9_within _ _ _ _ _); (case hc => exact rfl); (case hd => decide); conv => whnf)
      | ((with_reducible apply cl_p); (case hM => exact tr); (case hc => exact rfl); (case hd => decide); conv => whnf)
      | ((with_reducible apply cl_p); (case hM => exact tt); (case hc => exact rfl); (case hd => decide); conv => whnf)
      | with_reducible refine Pm9.of ?_ ?_
      | ((with_reducible refine ckJ ?_ ?_); conv => whnf)
      | fail
    all_goals try simp (disch := omega) only [ev, ew, e1, e2, e3, nI_clamp, Int32.reduceToNatClampNeg]
    all_goals first | with_reducible rfl | with_reducible assumption | (simp (disch := omega) only [yd, tl, er, taIx, nI_toInt, Int.toNat_natCast, nI_clamp, mpa_0, mpa_1, mpa_2, mpa_3, mpa_9, mpa_10, mpa_11, mpa_12, mp70, mp71, mp72, mp73, mp79, mp80, mp81, mp82, wr_wr, wr_same, Int32.reduceToNatClampNeg, Int32.reduceToInt, Int.reduceToNat]; done) | (simp (disch := omega) only [yd, tl, er, taIx, nI_toInt, Int.toNat_natCast, nI_clamp, mpa_0, mpa_1, mpa_2, mpa_3, mpa_9, mpa_10, mpa_11, mpa_12, mp70, mp71, mp72, mp73, mp79, mp80, mp81, mp82, wr_wr, wr_same, Int32.reduceToNatClampNeg, Int32.reduceToInt, Int.reduceToNat]; with_reducible rfl) | (intro i hi; first | rfl | (simp (disch := omega) only [lo_wr, lo_sf]; done)) | decide | (refine vp_t ?_ ?_ <;> ((try simp (disch := omega) only [yd, tl, er, Int32.toInt_add, Int32.toInt_mul, Int32.toInt_sub, Int.bmod_def, Int32.reduceToInt, nI_toInt, Int32.reduceToNatClampNeg, ev, ew] at *); omega)) | rfl
  · refine Mt_of ck_X9_road mf_158 rfl ?_
    clear hW hN
    repeat' first
      | ((with_reducible refine gow ck_X9_road _ [] ?_); conv => whnf)
      | ((with_reducible refine bn_t ?_ ?_); (· first | assumption | decide); conv => whnf)
      | ((with_reducible refine bn_f ?_ ?_); (· first | assumption | decide); conv => whnf)
      | ((with_reducible refine bc_t ?_ ?_); (· first | assumption | decide); conv => whnf)
      | ((with_reducible refine bc_f ?_ ?_); (· first | assumption | decide); conv => whnf)
      | ((with_reducible refine br_t ?_ ?_); (· first | assumption | decide); conv => whnf)
      | ((with_reducible refine br_f ?_ ?_); (· first | assumption | decide); conv => whnf)
      | ((with_reducible refine br_nt ?_ ?_); (· first | assumption | decide); conv => whnf)
      | ((with_reducible refine br_nf ?_ ?_); (· first | assumption | decide); conv => whnf)
      | ((with_reducible refine ckI ?_ ?_); (· first | ((with_reducible refine vp_in_nI ?_ ?_); (· omega); (· decide)) | exact vp_c (by decide) | exact ⟨_, rfl⟩ | exact Or.inl rfl | exact Or.inr rfl | exact b2_01 _); conv => whnf)
      | ((with_reducible apply cl_p); (case hM => with_reducible exact c9_finding1 _ _); (case hc => exact rfl); (case hd => decide); conv => whnf)
      | ((with_reducible apply cl_p); (case hM => with_reducible exact c9_finding2 _ _); (case hc => exact rfl); (case hd => decide); conv => whnf)
      | ((with_reducible apply cl_p); (case hM => with_reducible exact c9_finding3 _ _); (case hc => exact rfl); (case hd => decide); conv => whnf)
      | ((with_reducible apply cl_p); (case hM => with_reducible exact c9_finding4 _ _); (case hc => exact rfl); (case hd => decide); conv => whnf)
      | ((with_reducible apply cl_p); (case hM => with_reducible exact c9_finding5 _ _); (case hc => exact rfl); (case hd => decide); conv => whnf)
      | ((with_reducible apply cl_p); (case hM => with_reducible exact c9_areTwo _ _ _ _); (case hc => exact rfl); (case hd => decide); conv => whnf)
      | ((with_reducible apply cl_p); (case hM => with_reducible exact c9_within _ _ _ _ _); (case hc => exact rfl); (case hd => decide); conv => whnf)
      | ((with_reducible apply cl_p); (case hM => exact tr); (case hc => exact rfl); (case hd => decide); conv => whnf)
      | ((with_reducible apply cl_p); (case hM => exact tt); (case hc => exact rfl); (case hd => decide); conv => whnf)
      | with_reducible refine Pm9.of ?_ ?_
      | ((with_reducible refine ckJ ?_ ?_); conv => whnf)
      | fail
    all_goals try simp (disch := omega) only [ev, ew, e1, e2, e3, nI_clamp, Int32.reduceToNatClampNeg]
    all_goals first | with_reducible rfl | with_reducible assumption | (simp (disch := omega) only [yd, tl, er, taIx, nI_toInt, Int.toNat_natCast, nI_clamp, mpa_0, mpa_1, mpa_2, mpa_3, mpa_9, mpa_10, mpa_11, mpa_12, mp70, mp71, mp72, mp73, mp79, mp80, mp81, mp82, wr_wr, wr_same, Int32.reduceToNatClampNeg, Int32.reduceToInt, Int.reduceToNat]; done) | (simp (disch := omega) only [yd, tl, er, taIx, nI_toInt, Int.toNat_natCast, nI_clamp, mpa_0, mpa_1, mpa_2, mpa_3, mpa_9, mpa_10, mpa_11, mpa_12, mp70, mp71, mp72, mp73, mp79, mp80, mp81, mp82, wr_wr, wr_same, Int32.reduceToNatClampNeg, Int32.reduceToInt, Int.reduceToNat]; with_reducible rfl) | (intro i hi; first | rfl | (simp (disch := omega) only [lo_wr, lo_sf]; done)) | decide | (refine vp_t ?_ ?_ <;> ((try simp (disch := omega) only [yd, tl, er, Int32.toInt_add, Int32.toInt_mul, Int32.toInt_sub, Int.bmod_def, Int32.reduceToInt, nI_toInt, Int32.reduceToNatClampNeg, ev, ew] at *); omega)) | rfl
  · refine Mt_of ck_X9_road mf_158 rfl ?_
    clear hW hN
    repeat' first
      | ((with_reducible refine gow ck_X9_road _ [] ?_); conv => whnf)
      | ((with_reducible refine bn_t ?_ ?_); (· first | assumption | decide); conv => whnf)
      | ((with_reducible refine bn_f ?_ ?_); (· first | assumption | decide); conv => whnf)
      | ((with_reducible refine bc_t ?_ ?_); (· first | assumption | decide); conv => whnf)
      | ((with_reducible refine bc_f ?_ ?_); (· first | assumption | decide); conv => whnf)
      | ((with_reducible refine br_t ?_ ?_); (· first | assumption | decide); conv => whnf)
      | ((with_reducible refine br_f ?_ ?_); (· first | assumption | decide); conv => whnf)
      | ((with_reducible refine br_nt ?_ ?_); (· first | assumption | decide); conv => whnf)
      | ((with_reducible refine br_nf ?_ ?_); (· first | assumption | decide); conv => whnf)
      | ((with_reducible refine ckI ?_ ?_); (· first | ((with_reducible refine vp_in_nI ?_ ?_); (· omega); (· decide)) | exact vp_c (by decide) | exact ⟨_, rfl⟩ | exact Or.inl rfl | exact Or.inr rfl | exact b2_01 _); conv => whnf)
      | ((with_reducible apply cl_p); (case hM => with_reducible exact c9_finding1 _ _); (case hc => exact rfl); (case hd => decide); conv => whnf)
      | ((with_reducible apply cl_p); (case hM => with_reducible exact c9_finding2 _ _); (case hc => exact rfl); (case hd => decide); conv => whnf)
      | ((with_reducible apply cl_p); (case hM => with_reducible exact c9_finding3 _ _); (case hc => exact rfl); (case hd => decide); conv => whnf)
      | ((with_reducible apply cl_p); (case hM => with_reducible exact c9_finding4 _ _); (case hc => exact rfl); (case hd => decide); conv => whnf)
      | ((with_reducible apply cl_p); (case hM => with_reducible exact c9_finding5 _ _); (case hc => exact rfl); (case hd => decide); conv => whnf)
      | ((with_reducible apply cl_p); (case hM => with_reducible exact c9_areTwo _ _ _ _); (case hc => exact rfl); (case hd => decide); conv => whnf)
      | ((with_reducible apply cl_p); (case hM => with_reducible exact c9_within _ _ _ _ _); (case hc => exact rfl); (case hd => decide); conv => whnf)
      | ((with_reducible apply cl_p); (case hM => exact tr); (case hc => exact rfl); (case hd => decide); conv => whnf)
      | ((with_reducible apply cl_p); (case hM => exact tt); (case hc => exact rfl); (case hd => decide); conv => whnf)
      | with_reducible refine Pm9.of ?_ ?_
      | ((with_reducible refine ckJ ?_ ?_); conv => whnf)
      | fail
    all_goals try simp (disch := omega) only [ev, ew, e1, e2, e3, nI_clamp, Int32.reduceToNatClampNeg]
    all_goals first | with_reducible rfl | with_reducible assumption | (simp (disch := omega) only [yd, tl, er, taIx, nI_toInt, Int.toNat_natCast, nI_clamp, mpa_0, mpa_1, mpa_2, mpa_3, mpa_9, mpa_10, mpa_11, mpa_12, mp70, mp71, mp72, mp73, mp79, mp80, mp81, mp82, wr_wr, wr_same, Int32.reduceToNatClampNeg, Int32.reduceToInt, Int.reduceToNat]; done) | (simp (disch := omega) only [yd, tl, er, taIx, nI_toInt, Int.toNat_natCast, nI_clamp, mpa_0, mpa_1, mpa_2, mpa_3, mpa_9, mpa_10, mpa_11, mpa_12, mp70, mp71, mp72, mp73, mp79, mp80, mp81, mp82, wr_wr, wr_same, Int32.reduceToNatClampNeg, Int32.reduceToInt, Int.reduceToNat]; with_reducible rfl) | (intro i hi; first | rfl | (simp (disch := omega) only [lo_wr, lo_sf]; done)) | decide | (refine vp_t ?_ ?_ <;> ((try simp (disch := omega) only [yd, tl, er, Int32.toInt_add, Int32.toInt_mul, Int32.toInt_sub, Int.bmod_def, Int32.reduceToInt, nI_toInt, Int32.reduceToNatClampNeg, ev, ew] at *); omega)) | rfl
theorem r_put (X : Cx) (μ : Mem) (s i v : Int32) (hW : WFS (mp μ)) : Mt X m_X9_put 3 [.ref 70, .int s, .int i, .int v] μ (Pm9 μ (sp_put (mp μ) s i v)) := by
  have hN : WN (mp μ 1) := hW.1
  unfold sp_put
  (repeat' split)
  · obtain ⟨k, hk, rfl⟩ := in_3 ‹0 ≤ s ∧ s ≤ 3›
    refine Mt_of ck_X9_put mf_213 rfl ?_
    clear hW hN
    repeat' first
      | ((with_reducible refine gow ck_X9_put _ [] ?_); conv => whnf)
      | ((with_reducible refine bn_t ?_ ?_); (· first | assumption | decide); conv => whnf)
      | ((with_reducible refine bn_f ?_ ?_); (· first | assumption | decide); conv => whnf)
      | ((with_reducible refine bc_t ?_ ?_); (· first | assumption | decide); conv => whnf)
      | ((with_reducible refine bc_f ?_ ?_); (· first | assumption | decide); conv => whnf)
      | ((with_reducible refine br_t ?_ ?_); (· first | assumption | decide); conv => whnf)
      | ((with_reducible refine br_f ?_ ?_); (· first | assumption | decide); conv => whnf)
      | ((with_reducible refine br_nt ?_ ?_); (· first | assumption | decide); conv => whnf)
      | ((with_reducible refine br_nf ?_ ?_); (· first | assumption | decide); conv => whnf)
      | ((with_reducible refine ckI ?_ ?_); (· first | ((with_reducible refine vp_in_nI ?_ ?_); (· omega); (· decide)) | exact vp_c (by decide) | exact ⟨_, rfl⟩ | exact Or.inl rfl | exact Or.inr rfl | exact b2_01 _); conv => whnf)
      | ((with_reducible apply cl_p); (case hM => with_reducible exact c9_finding1 _ _); (case hc => exact rfl); (case hd => decide); conv => whnf)
      | ((with_reducible apply cl_p); (case hM => with_reducible exact c9_finding2 _ _); (case hc => exact rfl); (case hd => decide); conv => whnf)
      | ((with_reducible apply cl_p); (case hM => with_reducible exact c9_finding3 _ _); (case hc => exact rfl); (case hd => decide); conv => whnf)
      | ((with_reducible apply cl_p); (case hM => with_reducible exact c9_finding4 _ _); (case hc => exact rfl); (case hd => decide); conv => whnf)
      | ((with_reducible apply cl_p); (case hM => with_reducible exact c9_finding5 _ _); (case hc => exact rfl); (case hd => decide); conv => whnf)
      | ((with_reducible apply cl_p); (case hM => with_reducible exact c9_isSheet _ _ _); (case hc => exact rfl); (case hd => decide); conv => whnf)
      | ((with_reducible apply cl_p); (case hM => with_reducible exact c9_within _ _ _ _ _); (case hc => exact rfl); (case hd => decide); conv => whnf)
      | with_reducible refine Pm9.of ?_ ?_
      | ((with_reducible refine ckJ ?_ ?_); conv => whnf)
      | fail
    all_goals try simp (disch := omega) only [ev, ew, e1, e2, e3, nI_clamp, Int32.reduceToNatClampNeg]
    all_goals first | with_reducible rfl | with_reducible assumption | (simp (disch := omega) only [er, taIx, nI_toInt, Int.toNat_natCast, nI_clamp, mpa_0, mpa_1, mpa_2, mpa_3, mpa_9, mpa_10, mpa_11, mpa_12, mp70, mp71, mp72, mp73, mp79, mp80, mp81, mp82, wr_wr, wr_same, Int32.reduceToNatClampNeg, Int32.reduceToInt, Int.reduceToNat]; done) | (simp (disch := omega) only [er, taIx, nI_toInt, Int.toNat_natCast, nI_clamp, mpa_0, mpa_1, mpa_2, mpa_3, mpa_9, mpa_10, mpa_11, mpa_12, mp70, mp71, mp72, mp73, mp79, mp80, mp81, mp82, wr_wr, wr_same, Int32.reduceToNatClampNeg, Int32.reduceToInt, Int.reduceToNat]; with_reducible rfl) | (intro i hi; first | rfl | (simp (disch := omega) only [lo_wr, lo_sf]; done)) | decide | (refine vp_t ?_ ?_ <;> ((try simp (disch := omega) only [er, Int32.toInt_add, Int32.toInt_mul, Int32.toInt_sub, Int.bmod_def, Int32.reduceToInt, nI_toInt, Int32.reduceToNatClampNeg, ev, ew] at *); omega)) | rfl
  · obtain ⟨k, hk, rfl⟩ := in_3 ‹0 ≤ s ∧ s ≤ 3›
    obtain ⟨j, hj, rfl⟩ := in_S hW hk ‹0 ≤ i ∧ i ≤ mp μ 11 (nI k).toInt.toNat - 1›
    have c1 : (40 * nI k + nI j : Int32) = nI (40 * k + j) := ix_40 k j
    have v1 : vp_in (40 * nI k + nI j) 160 := by rw [c1]; exact vp_in_nI (by omega) (by decide)
    refine Mt_of ck_X9_put mf_213 rfl ?_
    clear hW hN
    repeat' first
      | ((with_reducible refine gow ck_X9_put _ [] ?_); conv => whnf)
      | ((with_reducible refine bn_t ?_ ?_); (· first | assumption | decide); conv => whnf)
      | ((with_reducible refine bn_f ?_ ?_); (· first | assumption | decide); conv => whnf)
      | ((with_reducible refine bc_t ?_ ?_); (· first | assumption | decide); conv => whnf)
      | ((with_reducible refine bc_f ?_ ?_); (· first | assumption | decide); conv => whnf)
      | ((with_reducible refine br_t ?_ ?_); (· first | assumption | decide); conv => whnf)
      | ((with_reducible refine br_f ?_ ?_); (· first | assumption | decide); conv => whnf)
      | ((with_reducible refine br_nt ?_ ?_); (· first | assumption | decide); conv => whnf)
      | ((with_reducible refine br_nf ?_ ?_); (· first | assumption | decide); conv => whnf)
      | ((with_reducible refine ckI ?_ ?_); (· first | ((with_reducible refine vp_in_nI ?_ ?_); (· omega); (· decide)) | exact vp_c (by decide) | exact ⟨_, rfl⟩ | exact Or.inl rfl | exact Or.inr rfl | exact b2_01 _); conv => whnf)
      | ((with_reducible apply cl_p); (case hM => with_reducible exact c9_finding1 _ _); (case hc => exact rfl); (case hd => decide); conv => whnf)
      | ((with_reducible apply cl_p); (case hM => with_reducible exact c9_finding2 _ _); (case hc => exact rfl); (case hd => decide); conv => whnf)
      | ((with_reducible apply cl_p); (case hM => with_reducible exact c9_finding3 _ _); (case hc => exact rfl); (case hd => decide); conv => whnf)
      | ((with_reducible apply cl_p); (case hM => with_reducible exact c9_finding4 _ _); (case hc => exact rfl); (case hd => decide); conv => whnf)
      | ((with_reducible apply cl_p); (case hM => with_reducible exact c9_finding5 _ _); (case hc => exact rfl); (case hd => decide); conv => whnf)
      | ((with_reducible apply cl_p); (case hM => with_reducible exact c9_isSheet _ _ _); (case hc => exact rfl); (case hd => decide); conv => whnf)
      | ((with_reducible apply cl_p); (case hM => with_reducible exact c9_within _ _ _ _ _); (case hc => exact rfl); (case hd => decide); conv => whnf)
      | with_reducible refine Pm9.of ?_ ?_
      | ((with_reducible refine ckJ ?_ ?_); conv => whnf)
      | fail
    all_goals try simp (disch := omega) only [ev, ew, e1, e2, e3, nI_clamp, Int32.reduceToNatClampNeg]
    all_goals first | with_reducible rfl | with_reducible assumption | (simp (disch := omega) only [c1, er, taIx, nI_toInt, Int.toNat_natCast, nI_clamp, mpa_0, mpa_1, mpa_2, mpa_3, mpa_9, mpa_10, mpa_11, mpa_12, mp70, mp71, mp72, mp73, mp79, mp80, mp81, mp82, wr_wr, wr_same, Int32.reduceToNatClampNeg, Int32.reduceToInt, Int.reduceToNat]; done) | (simp (disch := omega) only [c1, er, taIx, nI_toInt, Int.toNat_natCast, nI_clamp, mpa_0, mpa_1, mpa_2, mpa_3, mpa_9, mpa_10, mpa_11, mpa_12, mp70, mp71, mp72, mp73, mp79, mp80, mp81, mp82, wr_wr, wr_same, Int32.reduceToNatClampNeg, Int32.reduceToInt, Int.reduceToNat]; with_reducible rfl) | (intro i hi; first | rfl | (simp (disch := omega) only [lo_wr, lo_sf]; done)) | decide | (refine vp_t ?_ ?_ <;> ((try simp (disch := omega) only [c1, er, Int32.toInt_add, Int32.toInt_mul, Int32.toInt_sub, Int.bmod_def, Int32.reduceToInt, nI_toInt, Int32.reduceToNatClampNeg, ev, ew] at *); omega)) | rfl
  · obtain ⟨k, hk, rfl⟩ := in_3 ‹0 ≤ s ∧ s ≤ 3›
    obtain ⟨j, hj, rfl⟩ := in_S hW hk ‹0 ≤ i ∧ i ≤ mp μ 11 (nI k).toInt.toNat - 1›
    have c1 : (40 * nI k + nI j : Int32) = nI (40 * k + j) := ix_40 k j
    have v1 : vp_in (40 * nI k + nI j) 160 := by rw [c1]; exact vp_in_nI (by omega) (by decide)
    refine Mt_of ck_X9_put mf_213 rfl ?_
    clear hW hN
    repeat' first
      | ((with_reducible refine gow ck_X9_put _ [] ?_); conv => whnf)
      | ((with_reducible refine bn_t ?_ ?_); (· first | assumption | decide); conv => whnf)
      | ((with_reducible refine bn_f ?_ ?_); (· first | assumption | decide); conv => whnf)
      | ((with_reducible refine bc_t ?_ ?_); (· first | assumption | decide); conv => whnf)
      | ((with_reducible refine bc_f ?_ ?_); (· first | assumption | decide); conv => whnf)
      | ((with_reducible refine br_t ?_ ?_); (· first | assumption | decide); conv => whnf)
      | ((with_reducible refine br_f ?_ ?_); (· first | assumption | decide); conv => whnf)
      | ((with_reducible refine br_nt ?_ ?_); (· first | assumption | decide); conv => whnf)
      | ((with_reducible refine br_nf ?_ ?_); (· first | assumption | decide); conv => whnf)
      | ((with_reducible refine ckI ?_ ?_); (· first | ((with_reducible refine vp_in_nI ?_ ?_); (· omega); (· decide)) | exact vp_c (by decide) | exact ⟨_, rfl⟩ | exact Or.inl rfl | exact Or.inr rfl | exact b2_01 _); conv => whnf)
      | ((with_reducible apply cl_p); (case hM => with_reducible exact c9_finding1 _ _); (case hc => exact rfl); (case hd => decide); conv => whnf)
      | ((with_reducible apply cl_p); (case hM => with_reducible exact c9_finding2 _ _); (case hc => exact rfl); (case hd => decide); conv => whnf)
      | ((with_reducible apply cl_p); (case hM => with_reducible exact c9_finding3 _ _); (case hc => exact rfl); (case hd => decide); conv => whnf)
      | ((with_reducible apply cl_p); (case hM => with_reducible exact c9_finding4 _ _); (case hc => exact rfl); (case hd => decide); conv => whnf)
      | ((with_reducible apply cl_p); (case hM => with_reducible exact c9_finding5 _ _); (case hc => exact rfl); (case hd => decide); conv => whnf)
      | ((with_reducible apply cl_p); (case hM => with_reducible exact c9_isSheet _ _ _); (case hc => exact rfl); (case hd => decide); conv => whnf)
      | ((with_reducible apply cl_p); (case hM => with_reducible exact c9_within _ _ _ _ _); (case hc => exact rfl); (case hd => decide); conv => whnf)
      | with_reducible refine Pm9.of ?_ ?_
      | ((with_reducible refine ckJ ?_ ?_); conv => whnf)
      | fail
    all_goals try simp (disch := omega) only [ev, ew, e1, e2, e3, nI_clamp, Int32.reduceToNatClampNeg]
    all_goals first | with_reducible rfl | with_reducible assumption | (simp (disch := omega) only [c1, er, taIx, nI_toInt, Int.toNat_natCast, nI_clamp, mpa_0, mpa_1, mpa_2, mpa_3, mpa_9, mpa_10, mpa_11, mpa_12, mp70, mp71, mp72, mp73, mp79, mp80, mp81, mp82, wr_wr, wr_same, Int32.reduceToNatClampNeg, Int32.reduceToInt, Int.reduceToNat]; done) | (simp (disch := omega) only [c1, er, taIx, nI_toInt, Int.toNat_natCast, nI_clamp, mpa_0, mpa_1, mpa_2, mpa_3, mpa_9, mpa_10, mpa_11, mpa_12, mp70, mp71, mp72, mp73, mp79, mp80, mp81, mp82, wr_wr, wr_same, Int32.reduceToNatClampNeg, Int32.reduceToInt, Int.reduceToNat]; with_reducible rfl) | (intro i hi; first | rfl | (simp (disch := omega) only [lo_wr, lo_sf]; done)) | decide | (refine vp_t ?_ ?_ <;> ((try simp (disch := omega) only [c1, er, Int32.toInt_add, Int32.toInt_mul, Int32.toInt_sub, Int.bmod_def, Int32.reduceToInt, nI_toInt, Int32.reduceToNatClampNeg, ev, ew] at *); omega)) | rfl
  · obtain ⟨k, hk, rfl⟩ := in_3 ‹0 ≤ s ∧ s ≤ 3›
    obtain ⟨j, hj, rfl⟩ := in_S hW hk ‹0 ≤ i ∧ i ≤ mp μ 11 (nI k).toInt.toNat - 1›
    have c1 : (40 * nI k + nI j : Int32) = nI (40 * k + j) := ix_40 k j
    have v1 : vp_in (40 * nI k + nI j) 160 := by rw [c1]; exact vp_in_nI (by omega) (by decide)
    refine Mt_of ck_X9_put mf_213 rfl ?_
    clear hW hN
    repeat' first
      | ((with_reducible refine gow ck_X9_put _ [] ?_); conv => whnf)
      | ((with_reducible refine bn_t ?_ ?_); (· first | assumption | decide); conv => whnf)
      | ((with_reducible refine bn_f ?_ ?_); (· first | assumption | decide); conv => whnf)
      | ((with_reducible refine bc_t ?_ ?_); (· first | assumption | decide); conv => whnf)
      | ((with_reducible refine bc_f ?_ ?_); (· first | assumption | decide); conv => whnf)
      | ((with_reducible refine br_t ?_ ?_); (· first | assumption | decide); conv => whnf)
      | ((with_reducible refine br_f ?_ ?_); (· first | assumption | decide); conv => whnf)
      | ((with_reducible refine br_nt ?_ ?_); (· first | assumption | decide); conv => whnf)
      | ((with_reducible refine br_nf ?_ ?_); (· first | assumption | decide); conv => whnf)
      | ((with_reducible refine ckI ?_ ?_); (· first | ((with_reducible refine vp_in_nI ?_ ?_); (· omega); (· decide)) | exact vp_c (by decide) | exact ⟨_, rfl⟩ | exact Or.inl rfl | exact Or.inr rfl | exact b2_01 _); conv => whnf)
      | ((with_reducible apply cl_p); (case hM => with_reducible exact c9_finding1 _ _); (case hc => exact rfl); (case hd => decide); conv => whnf)
      | ((with_reducible apply cl_p); (case hM => with_reducible exact c9_finding2 _ _); (case hc => exact rfl); (case hd => decide); conv => whnf)
      | ((with_reducible apply cl_p); (case hM => with_reducible exact c9_finding3 _ _); (case hc => exact rfl); (case hd => decide); conv => whnf)
      | ((with_reducible apply cl_p); (case hM => with_reducible exact c9_finding4 _ _); (case hc => exact rfl); (case hd => decide); conv => whnf)
      | ((with_reducible apply cl_p); (case hM => with_reducible exact c9_finding5 _ _); (case hc => exact rfl); (case hd => decide); conv => whnf)
      | ((with_reducible apply cl_p); (case hM => with_reducible exact c9_isSheet _ _ _); (case hc => exact rfl); (case hd => decide); conv => whnf)
      | ((with_reducible apply cl_p); (case hM => with_reducible exact c9_within _ _ _ _ _); (case hc => exact rfl); (case hd => decide); conv => whnf)
      | with_reducible refine Pm9.of ?_ ?_
      | ((with_reducible refine ckJ ?_ ?_); conv => whnf)
      | fail
    all_goals try simp (disch := omega) only [ev, ew, e1, e2, e3, nI_clamp, Int32.reduceToNatClampNeg]
    all_goals first | with_reducible rfl | with_reducible assumption | (simp (disch := omega) only [c1, er, taIx, nI_toInt, Int.toNat_natCast, nI_clamp, mpa_0, mpa_1, mpa_2, mpa_3, mpa_9, mpa_10, mpa_11, mpa_12, mp70, mp71, mp72, mp73, mp79, mp80, mp81, mp82, wr_wr, wr_same, Int32.reduceToNatClampNeg, Int32.reduceToInt, Int.reduceToNat]; done) | (simp (disch := omega) only [c1, er, taIx, nI_toInt, Int.toNat_natCast, nI_clamp, mpa_0, mpa_1, mpa_2, mpa_3, mpa_9, mpa_10, mpa_11, mpa_12, mp70, mp71, mp72, mp73, mp79, mp80, mp81, mp82, wr_wr, wr_same, Int32.reduceToNatClampNeg, Int32.reduceToInt, Int.reduceToNat]; with_reducible rfl) | (intro i hi; first | rfl | (simp (disch := omega) only [lo_wr, lo_sf]; done)) | decide | (refine vp_t ?_ ?_ <;> ((try simp (disch := omega) only [c1, er, Int32.toInt_add, Int32.toInt_mul, Int32.toInt_sub, Int.bmod_def, Int32.reduceToInt, nI_toInt, Int32.reduceToNatClampNeg, ev, ew] at *); omega)) | rfl
  · obtain ⟨k, hk, rfl⟩ := in_3 ‹0 ≤ s ∧ s ≤ 3›
    refine Mt_of ck_X9_put mf_213 rfl ?_
    clear hW hN
    repeat' first
      | ((with_reducible refine gow ck_X9_put _ [] ?_); conv => whnf)
      | ((with_reducible refine bn_t ?_ ?_); (· first | assumption | decide); conv => whnf)
      | ((with_reducible refine bn_f ?_ ?_); (· first | assumption | decide); conv => whnf)
      | ((with_reducible refine bc_t ?_ ?_); (· first | assumption | decide); conv => whnf)
      | ((with_reducible refine bc_f ?_ ?_); (· first | assumption | decide); conv => whnf)
      | ((with_reducible refine br_t ?_ ?_); (· first | assumption | decide); conv => whnf)
      | ((with_reducible refine br_f ?_ ?_); (· first | assumption | decide); conv => whnf)
      | ((with_reducible refine br_nt ?_ ?_); (· first | assumption | decide); conv => whnf)
      | ((with_reducible refine br_nf ?_ ?_); (· first | assumption | decide); conv => whnf)
      | ((with_reducible refine ckI ?_ ?_); (· first | ((with_reducible refine vp_in_nI ?_ ?_); (· omega); (· decide)) | exact vp_c (by decide) | exact ⟨_, rfl⟩ | exact Or.inl rfl | exact Or.inr rfl | exact b2_01 _); conv => whnf)
      | ((with_reducible apply cl_p); (case hM => with_reducible exact c9_finding1 _ _); (case hc => exact rfl); (case hd => decide); conv => whnf)
      | ((with_reducible apply cl_p); (case hM => with_reducible exact c9_finding2 _ _); (case hc => exact rfl); (case hd => decide); conv => whnf)
      | ((with_reducible apply cl_p); (case hM => with_reducible exact c9_finding3 _ _); (case hc => exact rfl); (case hd => decide); conv => whnf)
      | ((with_reducible apply cl_p); (case hM => with_reducible exact c9_finding4 _ _); (case hc => exact rfl); (case hd => decide); conv => whnf)
      | ((with_reducible apply cl_p); (case hM => with_reducible exact c9_finding5 _ _); (case hc => exact rfl); (case hd => decide); conv => whnf)
      | ((with_reducible apply cl_p); (case hM => with_reducible exact c9_isSheet _ _ _); (case hc => exact rfl); (case hd => decide); conv => whnf)
      | ((with_reducible apply cl_p); (case hM => with_reducible exact c9_within _ _ _ _ _); (case hc => exact rfl); (case hd => decide); conv => whnf)
      | with_reducible refine Pm9.of ?_ ?_
      | ((with_reducible refine ckJ ?_ ?_); conv => whnf)
      | fail
    all_goals try simp (disch := omega) only [ev, ew, e1, e2, e3, nI_clamp, Int32.reduceToNatClampNeg]
    all_goals first | with_reducible rfl | with_reducible assumption | (simp (disch := omega) only [er, taIx, nI_toInt, Int.toNat_natCast, nI_clamp, mpa_0, mpa_1, mpa_2, mpa_3, mpa_9, mpa_10, mpa_11, mpa_12, mp70, mp71, mp72, mp73, mp79, mp80, mp81, mp82, wr_wr, wr_same, Int32.reduceToNatClampNeg, Int32.reduceToInt, Int.reduceToNat]; done) | (simp (disch := omega) only [er, taIx, nI_toInt, Int.toNat_natCast, nI_clamp, mpa_0, mpa_1, mpa_2, mpa_3, mpa_9, mpa_10, mpa_11, mpa_12, mp70, mp71, mp72, mp73, mp79, mp80, mp81, mp82, wr_wr, wr_same, Int32.reduceToNatClampNeg, Int32.reduceToInt, Int.reduceToNat]; with_reducible rfl) | (intro i hi; first | rfl | (simp (disch := omega) only [lo_wr, lo_sf]; done)) | decide | (refine vp_t ?_ ?_ <;> ((try simp (disch := omega) only [er, Int32.toInt_add, Int32.toInt_mul, Int32.toInt_sub, Int.bmod_def, Int32.reduceToInt, nI_toInt, Int32.reduceToNatClampNeg, ev, ew] at *); omega)) | rfl
  · refine Mt_of ck_X9_put mf_213 rfl ?_
    clear hW hN
    repeat' first
      | ((with_reducible refine gow ck_X9_put _ [] ?_); conv => whnf)
      | ((with_reducible refine bn_t ?_ ?_); (· first | assumption | decide); conv => whnf)
      | ((with_reducible refine bn_f ?_ ?_); (· first | assumption | decide); conv => whnf)
      | ((with_reducible refine bc_t ?_ ?_); (· first | assumption | decide); conv => whnf)
      | ((with_reducible refine bc_f ?_ ?_); (· first | assumption | decide); conv => whnf)
      | ((with_reducible refine br_t ?_ ?_); (· first | assumption | decide); conv => whnf)
      | ((with_reducible refine br_f ?_ ?_); (· first | assumption | decide); conv => whnf)
      | ((with_reducible refine br_nt ?_ ?_); (· first | assumption | decide); conv => whnf)
      | ((with_reducible refine br_nf ?_ ?_); (· first | assumption | decide); conv => whnf)
      | ((with_reducible refine ckI ?_ ?_); (· first | ((with_reducible refine vp_in_nI ?_ ?_); (· omega); (· decide)) | exact vp_c (by decide) | exact ⟨_, rfl⟩ | exact Or.inl rfl | exact Or.inr rfl | exact b2_01 _); conv => whnf)
      | ((with_reducible apply cl_p); (case hM => with_reducible exact c9_finding1 _ _); (case hc => exact rfl); (case hd => decide); conv => whnf)
      | ((with_reducible apply cl_p); (case hM => with_reducible exact c9_finding2 _ _); (case hc => exact rfl); (case hd => decide); conv => whnf)
      | ((with_reducible apply cl_p); (case hM => with_reducible exact c9_finding3 _ _); (case hc => exact rfl); (case hd => decide); conv => whnf)
      | ((with_reducible apply cl_p); (case hM => with_reducible exact c9_finding4 _ _); (case hc => exact rfl); (case hd => decide); conv => whnf)
      | ((with_reducible apply cl_p); (case hM => with_reducible exact c9_finding5 _ _); (case hc => exact rfl); (case hd => decide); conv => whnf)
      | ((with_reducible apply cl_p); (case hM => with_reducible exact c9_isSheet _ _ _); (case hc => exact rfl); (case hd => decide); conv => whnf)
      | ((with_reducible apply cl_p); (case hM => with_reducible exact c9_within _ _ _ _ _); (case hc => exact rfl); (case hd => decide); conv => whnf)
      | with_reducible refine Pm9.of ?_ ?_
      | ((with_reducible refine ckJ ?_ ?_); conv => whnf)
      | fail
    all_goals try simp (disch := omega) only [ev, ew, e1, e2, e3, nI_clamp, Int32.reduceToNatClampNeg]
    all_goals first | with_reducible rfl | with_reducible assumption | (simp (disch := omega) only [er, taIx, nI_toInt, Int.toNat_natCast, nI_clamp, mpa_0, mpa_1, mpa_2, mpa_3, mpa_9, mpa_10, mpa_11, mpa_12, mp70, mp71, mp72, mp73, mp79, mp80, mp81, mp82, wr_wr, wr_same, Int32.reduceToNatClampNeg, Int32.reduceToInt, Int.reduceToNat]; done) | (simp (disch := omega) only [er, taIx, nI_toInt, Int.toNat_natCast, nI_clamp, mpa_0, mpa_1, mpa_2, mpa_3, mpa_9, mpa_10, mpa_11, mpa_12, mp70, mp71, mp72, mp73, mp79, mp80, mp81, mp82, wr_wr, wr_same, Int32.reduceToNatClampNeg, Int32.reduceToInt, Int.reduceToNat]; with_reducible rfl) | (intro i hi; first | rfl | (simp (disch := omega) only [lo_wr, lo_sf]; done)) | decide | (refine vp_t ?_ ?_ <;> ((try simp (disch := omega) only [er, Int32.toInt_add, Int32.toInt_mul, Int32.toInt_sub, Int.bmod_def, Int32.reduceToInt, nI_toInt, Int32.reduceToNatClampNeg, ev, ew] at *); omega)) | rfl
theorem c9_copy (X : Cx) (μ : Mem) (p q : Nat) (hpq : (p = 71 ∧ q = 72) ∨ (p = 72 ∧ q = 71)) : Mt X m_X9_copy 0 [.ref p, .ref q] μ (fun r μ' => r = none ∧ μ' = sf μ q (cpf (μ p) (μ q) 327)) := by
  rcases hpq with ⟨rfl, rfl⟩ | ⟨rfl, rfl⟩
  · have key := dn_ind (n := 327) (P := fun k => ∀ (ν : Mem) (x : Int32), ν = sf μ 72 (cpf (μ 71) (μ 72) k) → x = nI k → VW X m_X9_copy 0 (fun r μ' => r = none ∧ μ' = sf μ 72 (cpf (μ 71) (μ 72) 327)) 2 [some (.ref 71), some (.ref 72), some (.int x)] [] ν) ?_ ?_
    · refine Mt_of ck_X9_copy mf_129 rfl ?_
      repeat' first
        | ((with_reducible refine at_k 2 ?_); exact key 0 (by decide) μ 0 (by rw [cpf_0, sf_self]) rfl)
        | ((with_reducible refine gow ck_X9_copy _ [2] ?_); conv => whnf)
        | ((with_reducible refine bn_t ?_ ?_); (· first | assumption | decide); conv => whnf)
        | ((with_reducible refine bn_f ?_ ?_); (· first | assumption | decide); conv => whnf)
        | ((with_reducible refine bc_t ?_ ?_); (· first | assumption | decide); conv => whnf)
        | ((with_reducible refine bc_f ?_ ?_); (· first | assumption | decide); conv => whnf)
        | ((with_reducible refine br_t ?_ ?_); (· first | assumption | decide); conv => whnf)
        | ((with_reducible refine br_f ?_ ?_); (· first | assumption | decide); conv => whnf)
        | ((with_reducible refine br_nt ?_ ?_); (· first | assumption | decide); conv => whnf)
        | ((with_reducible refine br_nf ?_ ?_); (· first | assumption | decide); conv => whnf)
        | ((with_reducible refine bn_c (fun _ => ?_) (fun _ => ?_)) <;> conv => whnf)
        | ((with_reducible refine bc_c (fun _ => ?_) (fun _ => ?_)) <;> conv => whnf)
        | ((with_reducible refine br_c (fun _ => ?_) (fun _ => ?_)) <;> conv => whnf)
        | ((with_reducible refine br_n (fun _ => ?_) (fun _ => ?_)) <;> conv => whnf)
        | ((with_reducible refine ckI ?_ ?_); (· first | ((with_reducible refine vp_in_nI ?_ ?_); (· omega); (· decide)) | exact vp_c (by decide) | exact ⟨_, rfl⟩ | exact Or.inl rfl | exact Or.inr rfl | exact b2_01 _); conv => whnf)
        | ((with_reducible refine ckJ ?_ ?_); conv => whnf)
        | fail
    · intro ν x h1 h2
      subst h1; subst h2
      have hc : (327 : Int32) ≤ nI 327 := by decide
      refine gow ck_X9_copy 2 [2] ?_
      conv => whnf
      repeat' first
        | ((with_reducible refine gow ck_X9_copy _ [2] ?_); conv => whnf)
        | ((with_reducible refine bn_t ?_ ?_); (· first | assumption | decide); conv => whnf)
        | ((with_reducible refine bn_f ?_ ?_); (· first | assumption | decide); conv => whnf)
        | ((with_reducible refine bc_t ?_ ?_); (· first | assumption | decide); conv => whnf)
        | ((with_reducible refine bc_f ?_ ?_); (· first | assumption | decide); conv => whnf)
        | ((with_reducible refine br_t ?_ ?_); (· first | assumption | decide); conv => whnf)
        | ((with_reducible refine br_f ?_ ?_); (· first | assumption | decide); conv => whnf)
        | ((with_reducible refine br_nt ?_ ?_); (· first | assumption | decide); conv => whnf)
        | ((with_reducible refine br_nf ?_ ?_); (· first | assumption | decide); conv => whnf)
        | ((with_reducible refine bn_c (fun _ => ?_) (fun _ => ?_)) <;> conv => whnf)
        | ((with_reducible refine bc_c (fun _ => ?_) (fun _ => ?_)) <;> conv => whnf)
        | ((with_reducible refine br_c (fun _ => ?_) (fun _ => ?_)) <;> conv => whnf)
        | ((with_reducible refine br_n (fun _ => ?_) (fun _ => ?_)) <;> conv => whnf)
        | ((with_reducible refine ckI ?_ ?_); (· first | ((with_reducible refine vp_in_nI ?_ ?_); (· omega); (· decide)) | exact vp_c (by decide) | exact ⟨_, rfl⟩ | exact Or.inl rfl | exact Or.inr rfl | exact b2_01 _); conv => whnf)
        | ((with_reducible refine ckJ ?_ ?_); conv => whnf)
        | fail
      exact ⟨rfl, rfl⟩
    · intro k hk ih ν x h1 h2
      subst h1; subst h2
      have hc : ¬ (327 : Int32) ≤ nI k := nI_ge hk (by decide)
      have hM : wr (sf μ 72 (cpf (μ 71) (μ 72) k)) 72 (nI k).toNatClampNeg (sf μ 72 (cpf (μ 71) (μ 72) k) 71 (nI k).toNatClampNeg) = sf μ 72 (cpf (μ 71) (μ 72) (k + 1)) := by
        rw [nI_clamp (by omega), sf_ne (by decide), wr_sf, cpf_s]
      refine gow ck_X9_copy 2 [2] ?_
      conv => whnf
      repeat' first
        | ((with_reducible refine at_k 2 ?_); exact ih _ _ hM (nI_1 k))
        | ((with_reducible refine gow ck_X9_copy _ [2] ?_); conv => whnf)
        | ((with_reducible refine bn_t ?_ ?_); (· first | assumption | decide); conv => whnf)
        | ((with_reducible refine bn_f ?_ ?_); (· first | assumption | decide); conv => whnf)
        | ((with_reducible refine bc_t ?_ ?_); (· first | assumption | decide); conv => whnf)
        | ((with_reducible refine bc_f ?_ ?_); (· first | assumption | decide); conv => whnf)
        | ((with_reducible refine br_t ?_ ?_); (· first | assumption | decide); conv => whnf)
        | ((with_reducible refine br_f ?_ ?_); (· first | assumption | decide); conv => whnf)
        | ((with_reducible refine br_nt ?_ ?_); (· first | assumption | decide); conv => whnf)
        | ((with_reducible refine br_nf ?_ ?_); (· first | assumption | decide); conv => whnf)
        | ((with_reducible refine bn_c (fun _ => ?_) (fun _ => ?_)) <;> conv => whnf)
        | ((with_reducible refine bc_c (fun _ => ?_) (fun _ => ?_)) <;> conv => whnf)
        | ((with_reducible refine br_c (fun _ => ?_) (fun _ => ?_)) <;> conv => whnf)
        | ((with_reducible refine br_n (fun _ => ?_) (fun _ => ?_)) <;> conv => whnf)
        | ((with_reducible refine ckI ?_ ?_); (· first | ((with_reducible refine vp_in_nI ?_ ?_); (· omega); (· decide)) | exact vp_c (by decide) | exact ⟨_, rfl⟩ | exact Or.inl rfl | exact Or.inr rfl | exact b2_01 _); conv => whnf)
        | ((with_reducible refine ckJ ?_ ?_); conv => whnf)
        | fail
  · have key := dn_ind (n := 327) (P := fun k => ∀ (ν : Mem) (x : Int32), ν = sf μ 71 (cpf (μ 72) (μ 71) k) → x = nI k → VW X m_X9_copy 0 (fun r μ' => r = none ∧ μ' = sf μ 71 (cpf (μ 72) (μ 71) 327)) 2 [some (.ref 72), some (.ref 71), some (.int x)] [] ν) ?_ ?_
    · refine Mt_of ck_X9_copy mf_129 rfl ?_
      repeat' first
        | ((with_reducible refine at_k 2 ?_); exact key 0 (by decide) μ 0 (by rw [cpf_0, sf_self]) rfl)
        | ((with_reducible refine gow ck_X9_copy _ [2] ?_); conv => whnf)
        | ((with_reducible refine bn_t ?_ ?_); (· first | assumption | decide); conv => whnf)
        | ((with_reducible refine bn_f ?_ ?_); (· first | assumption | decide); conv => whnf)
        | ((with_reducible refine bc_t ?_ ?_); (· first | assumption | decide); conv => whnf)
        | ((with_reducible refine bc_f ?_ ?_); (· first | assumption | decide); conv => whnf)
        | ((with_reducible refine br_t ?_ ?_); (· first | assumption | decide); conv => whnf)
        | ((with_reducible refine br_f ?_ ?_); (· first | assumption | decide); conv => whnf)
        | ((with_reducible refine br_nt ?_ ?_); (· first | assumption | decide); conv => whnf)
        | ((with_reducible refine br_nf ?_ ?_); (· first | assumption | decide); conv => whnf)
        | ((with_reducible refine bn_c (fun _ => ?_) (fun _ => ?_)) <;> conv => whnf)
        | ((with_reducible refine bc_c (fun _ => ?_) (fun _ => ?_)) <;> conv => whnf)
        | ((with_reducible refine br_c (fun _ => ?_) (fun _ => ?_)) <;> conv => whnf)
        | ((with_reducible refine br_n (fun _ => ?_) (fun _ => ?_)) <;> conv => whnf)
        | ((with_reducible refine ckI ?_ ?_); (· first | ((with_reducible refine vp_in_nI ?_ ?_); (· omega); (· decide)) | exact vp_c (by decide) | exact ⟨_, rfl⟩ | exact Or.inl rfl | exact Or.inr rfl | exact b2_01 _); conv => whnf)
        | ((with_reducible refine ckJ ?_ ?_); conv => whnf)
        | fail
    · intro ν x h1 h2
      subst h1; subst h2
      have hc : (327 : Int32) ≤ nI 327 := by decide
      refine gow ck_X9_copy 2 [2] ?_
      conv => whnf
      repeat' first
        | ((with_reducible refine gow ck_X9_copy _ [2] ?_); conv => whnf)
        | ((with_reducible refine bn_t ?_ ?_); (· first | assumption | decide); conv => whnf)
        | ((with_reducible refine bn_f ?_ ?_); (· first | assumption | decide); conv => whnf)
        | ((with_reducible refine bc_t ?_ ?_); (· first | assumption | decide); conv => whnf)
        | ((with_reducible refine bc_f ?_ ?_); (· first | assumption | decide); conv => whnf)
        | ((with_reducible refine br_t ?_ ?_); (· first | assumption | decide); conv => whnf)
        | ((with_reducible refine br_f ?_ ?_); (· first | assumption | decide); conv => whnf)
        | ((with_reducible refine br_nt ?_ ?_); (· first | assumption | decide); conv => whnf)
        | ((with_reducible refine br_nf ?_ ?_); (· first | assumption | decide); conv => whnf)
        | ((with_reducible refine bn_c (fun _ => ?_) (fun _ => ?_)) <;> conv => whnf)
        | ((with_reducible refine bc_c (fun _ => ?_) (fun _ => ?_)) <;> conv => whnf)
        | ((with_reducible refine br_c (fun _ => ?_) (fun _ => ?_)) <;> conv => whnf)
        | ((with_reducible refine br_n (fun _ => ?_) (fun _ => ?_)) <;> conv => whnf)
        | ((with_reducible refine ckI ?_ ?_); (· first | ((with_reducible refine vp_in_nI ?_ ?_); (· omega); (· decide)) | exact vp_c (by decide) | exact ⟨_, rfl⟩ | exact Or.inl rfl | exact Or.inr rfl | exact b2_01 _); conv => whnf)
        | ((with_reducible refine ckJ ?_ ?_); conv => whnf)
        | fail
      exact ⟨rfl, rfl⟩
    · intro k hk ih ν x h1 h2
      subst h1; subst h2
      have hc : ¬ (327 : Int32) ≤ nI k := nI_ge hk (by decide)
      have hM : wr (sf μ 71 (cpf (μ 72) (μ 71) k)) 71 (nI k).toNatClampNeg (sf μ 71 (cpf (μ 72) (μ 71) k) 72 (nI k).toNatClampNeg) = sf μ 71 (cpf (μ 72) (μ 71) (k + 1)) := by
        rw [nI_clamp (by omega), sf_ne (by decide), wr_sf, cpf_s]
      refine gow ck_X9_copy 2 [2] ?_
      conv => whnf
      repeat' first
        | ((with_reducible refine at_k 2 ?_); exact ih _ _ hM (nI_1 k))
        | ((with_reducible refine gow ck_X9_copy _ [2] ?_); conv => whnf)
        | ((with_reducible refine bn_t ?_ ?_); (· first | assumption | decide); conv => whnf)
        | ((with_reducible refine bn_f ?_ ?_); (· first | assumption | decide); conv => whnf)
        | ((with_reducible refine bc_t ?_ ?_); (· first | assumption | decide); conv => whnf)
        | ((with_reducible refine bc_f ?_ ?_); (· first | assumption | decide); conv => whnf)
        | ((with_reducible refine br_t ?_ ?_); (· first | assumption | decide); conv => whnf)
        | ((with_reducible refine br_f ?_ ?_); (· first | assumption | decide); conv => whnf)
        | ((with_reducible refine br_nt ?_ ?_); (· first | assumption | decide); conv => whnf)
        | ((with_reducible refine br_nf ?_ ?_); (· first | assumption | decide); conv => whnf)
        | ((with_reducible refine bn_c (fun _ => ?_) (fun _ => ?_)) <;> conv => whnf)
        | ((with_reducible refine bc_c (fun _ => ?_) (fun _ => ?_)) <;> conv => whnf)
        | ((with_reducible refine br_c (fun _ => ?_) (fun _ => ?_)) <;> conv => whnf)
        | ((with_reducible refine br_n (fun _ => ?_) (fun _ => ?_)) <;> conv => whnf)
        | ((with_reducible refine ckI ?_ ?_); (· first | ((with_reducible refine vp_in_nI ?_ ?_); (· omega); (· decide)) | exact vp_c (by decide) | exact ⟨_, rfl⟩ | exact Or.inl rfl | exact Or.inr rfl | exact b2_01 _); conv => whnf)
        | ((with_reducible refine ckJ ?_ ?_); conv => whnf)
        | fail
theorem r_image (X : Cx) (μ : Mem) (hW : WFS (mp μ)) : Mt X m_X9_image 1 [.ref 70] μ (Pm9 μ (sp_image (mp μ))) := by
  have hN : WN (mp μ 1) := hW.1
  unfold sp_image
  (repeat' split)
  · refine Mt_of ck_X9_image mf_217 rfl ?_
    clear hW hN
    repeat' first
      | ((with_reducible refine gow ck_X9_image _ [] ?_); conv => whnf)
      | ((with_reducible refine bn_t ?_ ?_); (· first | assumption | decide); conv => whnf)
      | ((with_reducible refine bn_f ?_ ?_); (· first | assumption | decide); conv => whnf)
      | ((with_reducible refine bc_t ?_ ?_); (· first | assumption | decide); conv => whnf)
      | ((with_reducible refine bc_f ?_ ?_); (· first | assumption | decide); conv => whnf)
      | ((with_reducible refine br_t ?_ ?_); (· first | assumption | decide); conv => whnf)
      | ((with_reducible refine br_f ?_ ?_); (· first | assumption | decide); conv => whnf)
      | ((with_reducible refine br_nt ?_ ?_); (· first | assumption | decide); conv => whnf)
      | ((with_reducible refine br_nf ?_ ?_); (· first | assumption | decide); conv => whnf)
      | ((with_reducible refine ckI ?_ ?_); (· first | ((with_reducible refine vp_in_nI ?_ ?_); (· omega); (· decide)) | exact vp_c (by decide) | exact ⟨_, rfl⟩ | exact Or.inl rfl | exact Or.inr rfl | exact b2_01 _); conv => whnf)
      | ((with_reducible apply cl_p); (case hM => with_reducible exact c9_finding1 _ _); (case hc => exact rfl); (case hd => decide); conv => whnf)
      | ((with_reducible apply cl_p); (case hM => with_reducible exact c9_finding2 _ _); (case hc => exact rfl); (case hd => decide); conv => whnf)
      | ((with_reducible apply cl_p); (case hM => with_reducible exact c9_finding3 _ _); (case hc => exact rfl); (case hd => decide); conv => whnf)
      | ((with_reducible apply cl_p); (case hM => with_reducible exact c9_finding4 _ _); (case hc => exact rfl); (case hd => decide); conv => whnf)
      | ((with_reducible apply cl_p); (case hM => with_reducible exact c9_finding5 _ _); (case hc => exact rfl); (case hd => decide); conv => whnf)
      | ((with_reducible apply cl_v); (case hM => exact c9_copy _ _ _ _ (Or.inl ⟨rfl, rfl⟩)); (case hc => exact rfl); (case hd => decide); conv => whnf)
      | with_reducible refine Pm9.of ?_ ?_
      | ((with_reducible refine ckJ ?_ ?_); conv => whnf)
      | fail
    all_goals try simp (disch := omega) only [ev, ew, e1, e2, e3, nI_clamp, Int32.reduceToNatClampNeg]
    all_goals first | with_reducible rfl | with_reducible assumption | (simp (disch := omega) only [mp_sf72, sf_ne, lo_sf, er, taIx, nI_toInt, Int.toNat_natCast, nI_clamp, mpa_0, mpa_1, mpa_2, mpa_3, mpa_9, mpa_10, mpa_11, mpa_12, mp70, mp71, mp72, mp73, mp79, mp80, mp81, mp82, wr_wr, wr_same, Int32.reduceToNatClampNeg, Int32.reduceToInt, Int.reduceToNat]; done) | (simp (disch := omega) only [mp_sf72, sf_ne, lo_sf, er, taIx, nI_toInt, Int.toNat_natCast, nI_clamp, mpa_0, mpa_1, mpa_2, mpa_3, mpa_9, mpa_10, mpa_11, mpa_12, mp70, mp71, mp72, mp73, mp79, mp80, mp81, mp82, wr_wr, wr_same, Int32.reduceToNatClampNeg, Int32.reduceToInt, Int.reduceToNat]; with_reducible rfl) | (intro i hi; first | rfl | (simp (disch := omega) only [lo_wr, lo_sf]; done)) | decide | (refine vp_t ?_ ?_ <;> ((try simp (disch := omega) only [mp_sf72, sf_ne, lo_sf, er, Int32.toInt_add, Int32.toInt_mul, Int32.toInt_sub, Int.bmod_def, Int32.reduceToInt, nI_toInt, Int32.reduceToNatClampNeg, ev, ew] at *); omega)) | rfl
theorem r_restore (X : Cx) (μ : Mem) (hW : WFS (mp μ)) : Mt X m_X9_restore 1 [.ref 70] μ (Pm9 μ (sp_restore (mp μ))) := by
  have hN : WN (mp μ 1) := hW.1
  unfold sp_restore
  (repeat' split)
  · refine Mt_of ck_X9_restore mf_218 rfl ?_
    clear hW hN
    repeat' first
      | ((with_reducible refine gow ck_X9_restore _ [] ?_); conv => whnf)
      | ((with_reducible refine bn_t ?_ ?_); (· first | assumption | decide); conv => whnf)
      | ((with_reducible refine bn_f ?_ ?_); (· first | assumption | decide); conv => whnf)
      | ((with_reducible refine bc_t ?_ ?_); (· first | assumption | decide); conv => whnf)
      | ((with_reducible refine bc_f ?_ ?_); (· first | assumption | decide); conv => whnf)
      | ((with_reducible refine br_t ?_ ?_); (· first | assumption | decide); conv => whnf)
      | ((with_reducible refine br_f ?_ ?_); (· first | assumption | decide); conv => whnf)
      | ((with_reducible refine br_nt ?_ ?_); (· first | assumption | decide); conv => whnf)
      | ((with_reducible refine br_nf ?_ ?_); (· first | assumption | decide); conv => whnf)
      | ((with_reducible refine ckI ?_ ?_); (· first | ((with_reducible refine vp_in_nI ?_ ?_); (· omega); (· decide)) | exact vp_c (by decide) | exact ⟨_, rfl⟩ | exact Or.inl rfl | exact Or.inr rfl | exact b2_01 _); conv => whnf)
      | ((with_reducible apply cl_p); (case hM => with_reducible exact c9_finding1 _ _); (case hc => exact rfl); (case hd => decide); conv => whnf)
      | ((with_reducible apply cl_p); (case hM => with_reducible exact c9_finding2 _ _); (case hc => exact rfl); (case hd => decide); conv => whnf)
      | ((with_reducible apply cl_p); (case hM => with_reducible exact c9_finding3 _ _); (case hc => exact rfl); (case hd => decide); conv => whnf)
      | ((with_reducible apply cl_p); (case hM => with_reducible exact c9_finding4 _ _); (case hc => exact rfl); (case hd => decide); conv => whnf)
      | ((with_reducible apply cl_p); (case hM => with_reducible exact c9_finding5 _ _); (case hc => exact rfl); (case hd => decide); conv => whnf)
      | ((with_reducible apply cl_v); (case hM => exact c9_copy _ _ _ _ (Or.inr ⟨rfl, rfl⟩)); (case hc => exact rfl); (case hd => decide); conv => whnf)
      | with_reducible refine Pm9.of ?_ ?_
      | ((with_reducible refine ckJ ?_ ?_); conv => whnf)
      | fail
    all_goals try simp (disch := omega) only [ev, ew, e1, e2, e3, nI_clamp, Int32.reduceToNatClampNeg]
    all_goals first | with_reducible rfl | with_reducible assumption | (simp (disch := omega) only [mp_sf71, sf_at, lo_sf, er, taIx, nI_toInt, Int.toNat_natCast, nI_clamp, mpa_0, mpa_1, mpa_2, mpa_3, mpa_9, mpa_10, mpa_11, mpa_12, mp70, mp71, mp72, mp73, mp79, mp80, mp81, mp82, wr_wr, wr_same, Int32.reduceToNatClampNeg, Int32.reduceToInt, Int.reduceToNat]; done) | (simp (disch := omega) only [mp_sf71, sf_at, lo_sf, er, taIx, nI_toInt, Int.toNat_natCast, nI_clamp, mpa_0, mpa_1, mpa_2, mpa_3, mpa_9, mpa_10, mpa_11, mpa_12, mp70, mp71, mp72, mp73, mp79, mp80, mp81, mp82, wr_wr, wr_same, Int32.reduceToNatClampNeg, Int32.reduceToInt, Int.reduceToNat]; with_reducible rfl) | (intro i hi; first | rfl | (simp (disch := omega) only [lo_wr, lo_sf]; done)) | decide | (refine vp_t ?_ ?_ <;> ((try simp (disch := omega) only [mp_sf71, sf_at, lo_sf, er, Int32.toInt_add, Int32.toInt_mul, Int32.toInt_sub, Int.bmod_def, Int32.reduceToInt, nI_toInt, Int32.reduceToNatClampNeg, ev, ew] at *); omega)) | rfl
  · refine Mt_of ck_X9_restore mf_218 rfl ?_
    clear hW hN
    repeat' first
      | ((with_reducible refine gow ck_X9_restore _ [] ?_); conv => whnf)
      | ((with_reducible refine bn_t ?_ ?_); (· first | assumption | decide); conv => whnf)
      | ((with_reducible refine bn_f ?_ ?_); (· first | assumption | decide); conv => whnf)
      | ((with_reducible refine bc_t ?_ ?_); (· first | assumption | decide); conv => whnf)
      | ((with_reducible refine bc_f ?_ ?_); (· first | assumption | decide); conv => whnf)
      | ((with_reducible refine br_t ?_ ?_); (· first | assumption | decide); conv => whnf)
      | ((with_reducible refine br_f ?_ ?_); (· first | assumption | decide); conv => whnf)
      | ((with_reducible refine br_nt ?_ ?_); (· first | assumption | decide); conv => whnf)
      | ((with_reducible refine br_nf ?_ ?_); (· first | assumption | decide); conv => whnf)
      | ((with_reducible refine ckI ?_ ?_); (· first | ((with_reducible refine vp_in_nI ?_ ?_); (· omega); (· decide)) | exact vp_c (by decide) | exact ⟨_, rfl⟩ | exact Or.inl rfl | exact Or.inr rfl | exact b2_01 _); conv => whnf)
      | ((with_reducible apply cl_p); (case hM => with_reducible exact c9_finding1 _ _); (case hc => exact rfl); (case hd => decide); conv => whnf)
      | ((with_reducible apply cl_p); (case hM => with_reducible exact c9_finding2 _ _); (case hc => exact rfl); (case hd => decide); conv => whnf)
      | ((with_reducible apply cl_p); (case hM => with_reducible exact c9_finding3 _ _); (case hc => exact rfl); (case hd => decide); conv => whnf)
      | ((with_reducible apply cl_p); (case hM => with_reducible exact c9_finding4 _ _); (case hc => exact rfl); (case hd => decide); conv => whnf)
      | ((with_reducible apply cl_p); (case hM => with_reducible exact c9_finding5 _ _); (case hc => exact rfl); (case hd => decide); conv => whnf)
      | ((with_reducible apply cl_v); (case hM => exact c9_copy _ _ _ _ (Or.inr ⟨rfl, rfl⟩)); (case hc => exact rfl); (case hd => decide); conv => whnf)
      | with_reducible refine Pm9.of ?_ ?_
      | ((with_reducible refine ckJ ?_ ?_); conv => whnf)
      | fail
    all_goals try simp (disch := omega) only [ev, ew, e1, e2, e3, nI_clamp, Int32.reduceToNatClampNeg]
    all_goals first | with_reducible rfl | with_reducible assumption | (simp (disch := omega) only [mp_sf71, sf_at, lo_sf, er, taIx, nI_toInt, Int.toNat_natCast, nI_clamp, mpa_0, mpa_1, mpa_2, mpa_3, mpa_9, mpa_10, mpa_11, mpa_12, mp70, mp71, mp72, mp73, mp79, mp80, mp81, mp82, wr_wr, wr_same, Int32.reduceToNatClampNeg, Int32.reduceToInt, Int.reduceToNat]; done) | (simp (disch := omega) only [mp_sf71, sf_at, lo_sf, er, taIx, nI_toInt, Int.toNat_natCast, nI_clamp, mpa_0, mpa_1, mpa_2, mpa_3, mpa_9, mpa_10, mpa_11, mpa_12, mp70, mp71, mp72, mp73, mp79, mp80, mp81, mp82, wr_wr, wr_same, Int32.reduceToNatClampNeg, Int32.reduceToInt, Int.reduceToNat]; with_reducible rfl) | (intro i hi; first | rfl | (simp (disch := omega) only [lo_wr, lo_sf]; done)) | decide | (refine vp_t ?_ ?_ <;> ((try simp (disch := omega) only [mp_sf71, sf_at, lo_sf, er, Int32.toInt_add, Int32.toInt_mul, Int32.toInt_sub, Int.bmod_def, Int32.reduceToInt, nI_toInt, Int32.reduceToNatClampNeg, ev, ew] at *); omega)) | rfl
theorem c9_lateNow (X : Cx) (μ : Mem) (t : Nat) (ht : t < 7) (h4 : 0 ≤ (μ 71 (111 + 6 * t + 4)).toInt ∧ (μ 71 (111 + 6 * t + 4)).toInt ≤ 6) : Mt X m_X9_lateNow 2 [.ref 70, .int (nI t)] μ (fun r μ' => r = some (.int (lat (μ 71) t)) ∧ μ' = μ) := by
  obtain ⟨a, ha, e⟩ := of_i (n := 7) h4.1 (by omega) (by decide)
  have c1 : 6 + μ 71 (111 + 6 * t + 4) = nI (6 + a) := by rw [e]; exact nI_add 6 a
  have v1 : vp_in (6 + μ 71 (111 + 6 * t + 4)) 327 := by rw [c1]; exact vp_in_nI (by omega) (by decide)
  have c2 : (6 + μ 71 (111 + 6 * t + 4)).toNatClampNeg = 6 + (μ 71 (111 + 6 * t + 4)).toInt.toNat := by rw [c1, e, nI_clamp (by omega), nI_toInt (by omega)]; rfl
  refine Mt_of ck_X9_lateNow mf_196 rfl ?_
  repeat' first
    | ((with_reducible refine gow ck_X9_lateNow _ [] ?_); conv => whnf)
    | ((with_reducible refine bn_t ?_ ?_); (· first | assumption | decide); conv => whnf)
    | ((with_reducible refine bn_f ?_ ?_); (· first | assumption | decide); conv => whnf)
    | ((with_reducible refine bc_t ?_ ?_); (· first | assumption | decide); conv => whnf)
    | ((with_reducible refine bc_f ?_ ?_); (· first | assumption | decide); conv => whnf)
    | ((with_reducible refine br_t ?_ ?_); (· first | assumption | decide); conv => whnf)
    | ((with_reducible refine br_f ?_ ?_); (· first | assumption | decide); conv => whnf)
    | ((with_reducible refine br_nt ?_ ?_); (· first | assumption | decide); conv => whnf)
    | ((with_reducible refine br_nf ?_ ?_); (· first | assumption | decide); conv => whnf)
    | ((with_reducible refine bn_c (fun _ => ?_) (fun _ => ?_)) <;> conv => whnf)
    | ((with_reducible refine bc_c (fun _ => ?_) (fun _ => ?_)) <;> conv => whnf)
    | ((with_reducible refine br_c (fun _ => ?_) (fun _ => ?_)) <;> conv => whnf)
    | ((with_reducible refine br_n (fun _ => ?_) (fun _ => ?_)) <;> conv => whnf)
    | ((with_reducible refine ckI ?_ ?_); (· first | ((with_reducible refine vp_in_nI ?_ ?_); (· omega); (· decide)) | exact vp_c (by decide) | exact ⟨_, rfl⟩ | exact Or.inl rfl | exact Or.inr rfl | exact b2_01 _); conv => whnf)
    | ((with_reducible apply cl_p); (case hM => with_reducible exact c9_taleIs4 _ _ _ (by omega)); (case hc => exact rfl); (case hd => decide); conv => whnf)
    | ((with_reducible apply cl_p); (case hM => with_reducible exact c9_taleIs3 _ _ _ (by omega)); (case hc => exact rfl); (case hd => decide); conv => whnf)
    | ((with_reducible refine ckJ ?_ ?_); conv => whnf)
    | fail
  all_goals try simp (disch := omega) only [ev, ew, Int32.reduceToNatClampNeg, c2]
  all_goals first | with_reducible assumption | exact ⟨rfl, rfl⟩ | exact ⟨trivial, rfl⟩ | exact ⟨trivial, trivial⟩ | exact ⟨rfl, trivial⟩
theorem r_late (X : Cx) (μ : Mem) (t : Int32) (hW : WFS (mp μ)) : Mt X m_X9_late 3 [.ref 70, .int t] μ (Pm9 μ (sp_late (mp μ) t)) := by
  have hN : WN (mp μ 1) := hW.1
  unfold sp_late
  (repeat' split)
  · obtain ⟨k, hk, rfl, hk2⟩ := in_T hN ‹isT (mp μ 1) t›
    have h4 : 0 ≤ (μ 71 (111 + 6 * k + 4)).toInt ∧ (μ 71 (111 + 6 * k + 4)).toInt ≤ 6 := (hN.2.2.2.2.2.2.2.2.1 k hk).2.2.2.2.1
    refine Mt_of ck_X9_late mf_197 rfl ?_
    clear hW hN
    repeat' first
      | ((with_reducible refine gow ck_X9_late _ [] ?_); conv => whnf)
      | ((with_reducible refine bn_t ?_ ?_); (· first | assumption | decide); conv => whnf)
      | ((with_reducible refine bn_f ?_ ?_); (· first | assumption | decide); conv => whnf)
      | ((with_reducible refine bc_t ?_ ?_); (· first | assumption | decide); conv => whnf)
      | ((with_reducible refine bc_f ?_ ?_); (· first | assumption | decide); conv => whnf)
      | ((with_reducible refine br_t ?_ ?_); (· first | assumption | decide); conv => whnf)
      | ((with_reducible refine br_f ?_ ?_); (· first | assumption | decide); conv => whnf)
      | ((with_reducible refine br_nt ?_ ?_); (· first | assumption | decide); conv => whnf)
      | ((with_reducible refine br_nf ?_ ?_); (· first | assumption | decide); conv => whnf)
      | ((with_reducible refine ckI ?_ ?_); (· first | ((with_reducible refine vp_in_nI ?_ ?_); (· omega); (· decide)) | exact vp_c (by decide) | exact ⟨_, rfl⟩ | exact Or.inl rfl | exact Or.inr rfl | exact b2_01 _); conv => whnf)
      | ((with_reducible apply cl_p); (case hM => with_reducible exact c9_finding1 _ _); (case hc => exact rfl); (case hd => decide); conv => whnf)
      | ((with_reducible apply cl_p); (case hM => with_reducible exact c9_finding2 _ _); (case hc => exact rfl); (case hd => decide); conv => whnf)
      | ((with_reducible apply cl_p); (case hM => with_reducible exact c9_finding3 _ _); (case hc => exact rfl); (case hd => decide); conv => whnf)
      | ((with_reducible apply cl_p); (case hM => with_reducible exact c9_finding4 _ _); (case hc => exact rfl); (case hd => decide); conv => whnf)
      | ((with_reducible apply cl_p); (case hM => with_reducible exact c9_finding5 _ _); (case hc => exact rfl); (case hd => decide); conv => whnf)
      | ((with_reducible apply cl_p); (case hM => with_reducible exact c9_isTale _ _ _); (case hc => exact rfl); (case hd => decide); conv => whnf)
      | ((with_reducible apply cl_p); (case hM => exact c9_lateNow _ _ _ hk h4); (case hc => exact rfl); (case hd => decide); conv => whnf)
      | with_reducible refine Pm9.of ?_ ?_
      | ((with_reducible refine ckJ ?_ ?_); conv => whnf)
      | fail
    all_goals try simp (disch := omega) only [ev, ew, e1, e2, e3, nI_clamp, Int32.reduceToNatClampNeg]
    all_goals first | with_reducible rfl | with_reducible assumption | (simp (disch := omega) only [er, taIx, nI_toInt, Int.toNat_natCast, nI_clamp, mpa_0, mpa_1, mpa_2, mpa_3, mpa_9, mpa_10, mpa_11, mpa_12, mp70, mp71, mp72, mp73, mp79, mp80, mp81, mp82, wr_wr, wr_same, Int32.reduceToNatClampNeg, Int32.reduceToInt, Int.reduceToNat]; done) | (simp (disch := omega) only [er, taIx, nI_toInt, Int.toNat_natCast, nI_clamp, mpa_0, mpa_1, mpa_2, mpa_3, mpa_9, mpa_10, mpa_11, mpa_12, mp70, mp71, mp72, mp73, mp79, mp80, mp81, mp82, wr_wr, wr_same, Int32.reduceToNatClampNeg, Int32.reduceToInt, Int.reduceToNat]; with_reducible rfl) | (intro i hi; first | rfl | (simp (disch := omega) only [lo_wr, lo_sf]; done)) | decide | (refine vp_t ?_ ?_ <;> ((try simp (disch := omega) only [er, Int32.toInt_add, Int32.toInt_mul, Int32.toInt_sub, Int.bmod_def, Int32.reduceToInt, nI_toInt, Int32.reduceToNatClampNeg, ev, ew] at *); omega)) | rfl
  · refine Mt_of ck_X9_late mf_197 rfl ?_
    clear hW hN
    repeat' first
      | ((with_reducible refine gow ck_X9_late _ [] ?_); conv => whnf)
      | ((with_reducible refine bn_t ?_ ?_); (· first | assumption | decide); conv => whnf)
      | ((with_reducible refine bn_f ?_ ?_); (· first | assumption | decide); conv => whnf)
      | ((with_reducible refine bc_t ?_ ?_); (· first | assumption | decide); conv => whnf)
      | ((with_reducible refine bc_f ?_ ?_); (· first | assumption | decide); conv => whnf)
      | ((with_reducible refine br_t ?_ ?_); (· first | assumption | decide); conv => whnf)
      | ((with_reducible refine br_f ?_ ?_); (· first | assumption | decide); conv => whnf)
      | ((with_reducible refine br_nt ?_ ?_); (· first | assumption | decide); conv => whnf)
      | ((with_reducible refine br_nf ?_ ?_); (· first | assumption | decide); conv => whnf)
      | ((with_reducible refine ckI ?_ ?_); (· first | ((with_reducible refine vp_in_nI ?_ ?_); (· omega); (· decide)) | exact vp_c (by decide) | exact ⟨_, rfl⟩ | exact Or.inl rfl | exact Or.inr rfl | exact b2_01 _); conv => whnf)
      | ((with_reducible apply cl_p); (case hM => with_reducible exact c9_finding1 _ _); (case hc => exact rfl); (case hd => decide); conv => whnf)
      | ((with_reducible apply cl_p); (case hM => with_reducible exact c9_finding2 _ _); (case hc => exact rfl); (case hd => decide); conv => whnf)
      | ((with_reducible apply cl_p); (case hM => with_reducible exact c9_finding3 _ _); (case hc => exact rfl); (case hd => decide); conv => whnf)
      | ((with_reducible apply cl_p); (case hM => with_reducible exact c9_finding4 _ _); (case hc => exact rfl); (case hd => decide); conv => whnf)
      | ((with_reducible apply cl_p); (case hM => with_reducible exact c9_finding5 _ _); (case hc => exact rfl); (case hd => decide); conv => whnf)
      | ((with_reducible apply cl_p); (case hM => with_reducible exact c9_isTale _ _ _); (case hc => exact rfl); (case hd => decide); conv => whnf)
      | ((with_reducible apply cl_p); (case hM => exact c9_lateNow _ _ _ hk h4); (case hc => exact rfl); (case hd => decide); conv => whnf)
      | with_reducible refine Pm9.of ?_ ?_
      | ((with_reducible refine ckJ ?_ ?_); conv => whnf)
      | fail
    all_goals try simp (disch := omega) only [ev, ew, e1, e2, e3, nI_clamp, Int32.reduceToNatClampNeg]
    all_goals first | with_reducible rfl | with_reducible assumption | (simp (disch := omega) only [er, taIx, nI_toInt, Int.toNat_natCast, nI_clamp, mpa_0, mpa_1, mpa_2, mpa_3, mpa_9, mpa_10, mpa_11, mpa_12, mp70, mp71, mp72, mp73, mp79, mp80, mp81, mp82, wr_wr, wr_same, Int32.reduceToNatClampNeg, Int32.reduceToInt, Int.reduceToNat]; done) | (simp (disch := omega) only [er, taIx, nI_toInt, Int.toNat_natCast, nI_clamp, mpa_0, mpa_1, mpa_2, mpa_3, mpa_9, mpa_10, mpa_11, mpa_12, mp70, mp71, mp72, mp73, mp79, mp80, mp81, mp82, wr_wr, wr_same, Int32.reduceToNatClampNeg, Int32.reduceToInt, Int.reduceToNat]; with_reducible rfl) | (intro i hi; first | rfl | (simp (disch := omega) only [lo_wr, lo_sf]; done)) | decide | (refine vp_t ?_ ?_ <;> ((try simp (disch := omega) only [er, Int32.toInt_add, Int32.toInt_mul, Int32.toInt_sub, Int.bmod_def, Int32.reduceToInt, nI_toInt, Int32.reduceToNatClampNeg, ev, ew] at *); omega)) | rfl
theorem c9_check_loop (X : Cx) (μ : Mem) (n : Nat) (hn : n ≤ 20) (hW : WN (μ 71)) (hN : (μ 71 5).toInt = n) (K : Option Value → Mem → Prop)
    (hK : K (some (.int (if fsn (ckp (μ 71)) n 0 = n then 0 else 1 + nI (fsn (ckp (μ 71)) n 0)))) (wr μ 71 5 0)) :
    ∀ j k, k + j = n → fsn (ckp (μ 71)) j k = fsn (ckp (μ 71)) n 0 → ∀ x, x = nI k → VW X m_X9_check 3 K 12 [some (.ref 70), some (.int (nI n)), some (.int x)] [] (wr μ 71 5 0) := by
  intro j
  induction j with
  | zero =>
    intro k hk hf x hx
    subst hx
    simp only [fsn] at hf
    obtain rfl : k = n := by omega
    rw [← hf, if_pos rfl] at hK
    have h2 : nI k = nI k := rfl
    have h1 : nI k ≤ nI k := nI_le (Nat.le_refl _) (by omega)
    refine gow ck_X9_check 12 [12] ?_
    conv => whnf
    repeat' first
        | ((with_reducible refine gow ck_X9_check _ [12] ?_); conv => whnf)
        | ((with_reducible refine bn_t ?_ ?_); (· first | assumption | decide); conv => whnf)
        | ((with_reducible refine bn_f ?_ ?_); (· first | assumption | decide); conv => whnf)
        | ((with_reducible refine bc_t ?_ ?_); (· first | assumption | decide); conv => whnf)
        | ((with_reducible refine bc_f ?_ ?_); (· first | assumption | decide); conv => whnf)
        | ((with_reducible refine br_t ?_ ?_); (· first | assumption | decide); conv => whnf)
        | ((with_reducible refine br_f ?_ ?_); (· first | assumption | decide); conv => whnf)
        | ((with_reducible refine br_nt ?_ ?_); (· first | assumption | decide); conv => whnf)
        | ((with_reducible refine br_nf ?_ ?_); (· first | assumption | decide); conv => whnf)
        | ((with_reducible refine bn_c (fun _ => ?_) (fun _ => ?_)) <;> conv => whnf)
        | ((with_reducible refine bc_c (fun _ => ?_) (fun _ => ?_)) <;> conv => whnf)
        | ((with_reducible refine br_c (fun _ => ?_) (fun _ => ?_)) <;> conv => whnf)
        | ((with_reducible refine br_n (fun _ => ?_) (fun _ => ?_)) <;> conv => whnf)
        | ((with_reducible refine ckI ?_ ?_); (· first | ((with_reducible refine vp_in_nI ?_ ?_); (· omega); (· decide)) | exact vp_c (by decide) | exact ⟨_, rfl⟩ | exact Or.inl rfl | exact Or.inr rfl | exact b2_01 _); conv => whnf)
        | ((with_reducible refine ckJ ?_ ?_); conv => whnf)
        | fail
    exact hK
  | succ j ih =>
    intro k hk hf x hx
    subst hx
    have h1 : ¬ nI n ≤ nI k := nI_ge (by omega) (by omega)
    by_cases hp : ckp (μ 71) k
    · rw [fsn_t hp] at hf
      obtain ⟨hT, hl⟩ := hp
      obtain ⟨k', hk7, hkk, -⟩ := in_T hW hT
      obtain rfl : k = k' := by have := congrArg Int32.toInt hkk; rw [nI_toInt (by omega), nI_toInt (by omega)] at this; omega
      have h4 := (hW.2.2.2.2.2.2.2.2.1 k hk7).2.2.2.2.1
      have e4 : ∀ q, q ≠ 5 → wr μ 71 5 0 71 q = μ 71 q := fun q hq => wr_wr hq
      have cl : Mt X m_X9_lateNow 2 [.ref 70, .int (nI k)] (wr μ 71 5 0) (fun r μ' => r = some (.int (lat (μ 71) k)) ∧ μ' = wr μ 71 5 0) := by
        have h := c9_lateNow X (wr μ 71 5 0) k hk7 (by rw [e4 _ (by omega)]; exact h4)
        have e5 : lat (wr μ 71 5 0 71) k = lat (μ 71) k := by
          simp only [lat, tf]
          rw [e4 _ (by omega), e4 _ (by omega), e4 _ (by omega)]
        rw [e5] at h
        exact h
      have c1 : (203 : Int32) + nI k = nI (203 + k) := nI_add 203 k
      have v1 : vp_in ((203 : Int32) + nI k) 327 := by rw [c1]; exact vp_in_nI (by omega) (by decide)
      have hl2 : wr μ 71 5 0 71 ((203 : Int32) + nI k).toNatClampNeg = lat (μ 71) k := by rw [c1, nI_clamp (by omega), e4 _ (by omega)]; exact hl
      have hT2 : isT (wr μ 71 5 0 71) (nI k) := hT
      have hi := fun x hx => ih (k + 1) (by omega) hf x hx
      clear ih hf hK hW hN h4
      refine gow ck_X9_check 12 [12] ?_
      conv => whnf
      repeat' first
          | ((with_reducible refine at_k 12 ?_); exact hi _ (nI_1 k))
          | ((with_reducible refine gow ck_X9_check _ [12] ?_); conv => whnf)
          | ((with_reducible refine bn_t ?_ ?_); (· first | assumption | decide); conv => whnf)
          | ((with_reducible refine bn_f ?_ ?_); (· first | assumption | decide); conv => whnf)
          | ((with_reducible refine bc_t ?_ ?_); (· first | assumption | decide); conv => whnf)
          | ((with_reducible refine bc_f ?_ ?_); (· first | assumption | decide); conv => whnf)
          | ((with_reducible refine br_t ?_ ?_); (· first | assumption | decide); conv => whnf)
          | ((with_reducible refine br_f ?_ ?_); (· first | assumption | decide); conv => whnf)
          | ((with_reducible refine br_nt ?_ ?_); (· first | assumption | decide); conv => whnf)
          | ((with_reducible refine br_nf ?_ ?_); (· first | assumption | decide); conv => whnf)
          | ((with_reducible refine ckI ?_ ?_); (· first | ((with_reducible refine vp_in_nI ?_ ?_); (· omega); (· decide)) | exact vp_c (by decide) | exact ⟨_, rfl⟩ | exact Or.inl rfl | exact Or.inr rfl | exact b2_01 _); conv => whnf)
          | ((with_reducible apply cl_p); (case hM => with_reducible exact c9_isTale _ _ _); (case hc => exact rfl); (case hd => decide); conv => whnf)
          | ((with_reducible apply cl_p); (case hM => exact cl); (case hc => exact rfl); (case hd => decide); conv => whnf)
          | ((with_reducible refine ckJ ?_ ?_); conv => whnf)
          | fail
      exact v1
    · rw [fsn_f hp] at hf
      rw [← hf, if_neg (by omega)] at hK
      have hne : ¬ nI k = nI n := fun e => by have := congrArg Int32.toInt e; rw [nI_toInt (by omega), nI_toInt (by omega)] at this; omega
      by_cases hT : isT (μ 71) (nI k)
      · have hl : ¬ μ 71 (203 + k) = lat (μ 71) k := fun h => hp ⟨hT, h⟩
        obtain ⟨k', hk7, hkk, -⟩ := in_T hW hT
        obtain rfl : k = k' := by have := congrArg Int32.toInt hkk; rw [nI_toInt (by omega), nI_toInt (by omega)] at this; omega
        have h4 := (hW.2.2.2.2.2.2.2.2.1 k hk7).2.2.2.2.1
        have e4 : ∀ q, q ≠ 5 → wr μ 71 5 0 71 q = μ 71 q := fun q hq => wr_wr hq
        have cl : Mt X m_X9_lateNow 2 [.ref 70, .int (nI k)] (wr μ 71 5 0) (fun r μ' => r = some (.int (lat (μ 71) k)) ∧ μ' = wr μ 71 5 0) := by
          have h := c9_lateNow X (wr μ 71 5 0) k hk7 (by rw [e4 _ (by omega)]; exact h4)
          have e5 : lat (wr μ 71 5 0 71) k = lat (μ 71) k := by
            simp only [lat, tf]
            rw [e4 _ (by omega), e4 _ (by omega), e4 _ (by omega)]
          rw [e5] at h
          exact h
        have c1 : (203 : Int32) + nI k = nI (203 + k) := nI_add 203 k
        have v1 : vp_in ((203 : Int32) + nI k) 327 := by rw [c1]; exact vp_in_nI (by omega) (by decide)
        have hl2 : ¬ wr μ 71 5 0 71 ((203 : Int32) + nI k).toNatClampNeg = lat (μ 71) k := by rw [c1, nI_clamp (by omega), e4 _ (by omega)]; exact hl
        have hT2 : isT (wr μ 71 5 0 71) (nI k) := hT
        clear ih hf hW hN h4 hp
        refine gow ck_X9_check 12 [12] ?_
        conv => whnf
        repeat' first
            | ((with_reducible refine gow ck_X9_check _ [12] ?_); conv => whnf)
            | ((with_reducible refine bn_t ?_ ?_); (· first | assumption | decide); conv => whnf)
            | ((with_reducible refine bn_f ?_ ?_); (· first | assumption | decide); conv => whnf)
            | ((with_reducible refine bc_t ?_ ?_); (· first | assumption | decide); conv => whnf)
            | ((with_reducible refine bc_f ?_ ?_); (· first | assumption | decide); conv => whnf)
            | ((with_reducible refine br_t ?_ ?_); (· first | assumption | decide); conv => whnf)
            | ((with_reducible refine br_f ?_ ?_); (· first | assumption | decide); conv => whnf)
            | ((with_reducible refine br_nt ?_ ?_); (· first | assumption | decide); conv => whnf)
            | ((with_reducible refine br_nf ?_ ?_); (· first | assumption | decide); conv => whnf)
            | ((with_reducible refine ckI ?_ ?_); (· first | ((with_reducible refine vp_in_nI ?_ ?_); (· omega); (· decide)) | exact vp_c (by decide) | exact ⟨_, rfl⟩ | exact Or.inl rfl | exact Or.inr rfl | exact b2_01 _); conv => whnf)
            | ((with_reducible apply cl_p); (case hM => with_reducible exact c9_isTale _ _ _); (case hc => exact rfl); (case hd => decide); conv => whnf)
            | ((with_reducible apply cl_p); (case hM => exact cl); (case hc => exact rfl); (case hd => decide); conv => whnf)
            | ((with_reducible refine ckJ ?_ ?_); conv => whnf)
            | fail
        · exact hK
        · exact v1
      · have hT2 : ¬ isT (wr μ 71 5 0 71) (nI k) := hT
        clear ih hf hW hN hp
        refine gow ck_X9_check 12 [12] ?_
        conv => whnf
        repeat' first
            | ((with_reducible refine gow ck_X9_check _ [12] ?_); conv => whnf)
            | ((with_reducible refine bn_t ?_ ?_); (· first | assumption | decide); conv => whnf)
            | ((with_reducible refine bn_f ?_ ?_); (· first | assumption | decide); conv => whnf)
            | ((with_reducible refine bc_t ?_ ?_); (· first | assumption | decide); conv => whnf)
            | ((with_reducible refine bc_f ?_ ?_); (· first | assumption | decide); conv => whnf)
            | ((with_reducible refine br_t ?_ ?_); (· first | assumption | decide); conv => whnf)
            | ((with_reducible refine br_f ?_ ?_); (· first | assumption | decide); conv => whnf)
            | ((with_reducible refine br_nt ?_ ?_); (· first | assumption | decide); conv => whnf)
            | ((with_reducible refine br_nf ?_ ?_); (· first | assumption | decide); conv => whnf)
            | ((with_reducible refine ckI ?_ ?_); (· first | ((with_reducible refine vp_in_nI ?_ ?_); (· omega); (· decide)) | exact vp_c (by decide) | exact ⟨_, rfl⟩ | exact Or.inl rfl | exact Or.inr rfl | exact b2_01 _); conv => whnf)
            | ((with_reducible apply cl_p); (case hM => with_reducible exact c9_isTale _ _ _); (case hc => exact rfl); (case hd => decide); conv => whnf)
            | ((with_reducible refine ckJ ?_ ?_); conv => whnf)
            | fail
        exact hK
theorem r_check (X : Cx) (μ : Mem) (hW : WFS (mp μ)) : Mt X m_X9_check 3 [.ref 70] μ (Pm9 μ (sp_check (mp μ))) := by
  have hN : WN (μ 71) := hW.1
  have h5 := hN.2.2.2.2.1
  obtain ⟨n, hn, e⟩ := of_i (n := 21) h5.1 (by have := h5.2; omega) (by decide)
  have hn2 : (μ 71 5).toInt = n := by rw [e, nI_toInt (by omega)]
  have key := c9_check_loop X μ n (by omega) hN hn2 (Pm9 μ (sp_check (mp μ))) (by
    refine Pm9.of ?_ (fun i hi => lo_wr hi (by decide))
    unfold sp_check
    rw [mpa_1, hn2, mp71]
    rfl) n 0 (by omega) rfl 0 rfl
  have e5 : ∀ x, x = μ 71 5 → VW X m_X9_check 3 (Pm9 μ (sp_check (mp μ))) 12 [some (.ref 70), some (.int x), some (.int 0)] [] (wr μ 71 5 0) := fun x hx => by rw [hx, e]; exact key
  clear key h5 hN hW
  refine Mt_of ck_X9_check mf_220 rfl ?_
  repeat' first
    | ((with_reducible refine at_k 12 ?_); exact e5 _ rfl)
    | ((with_reducible refine gow ck_X9_check _ [12] ?_); conv => whnf)
    | ((with_reducible refine bn_t ?_ ?_); (· first | assumption | decide); conv => whnf)
    | ((with_reducible refine bn_f ?_ ?_); (· first | assumption | decide); conv => whnf)
    | ((with_reducible refine bc_t ?_ ?_); (· first | assumption | decide); conv => whnf)
    | ((with_reducible refine bc_f ?_ ?_); (· first | assumption | decide); conv => whnf)
    | ((with_reducible refine br_t ?_ ?_); (· first | assumption | decide); conv => whnf)
    | ((with_reducible refine br_f ?_ ?_); (· first | assumption | decide); conv => whnf)
    | ((with_reducible refine br_nt ?_ ?_); (· first | assumption | decide); conv => whnf)
    | ((with_reducible refine br_nf ?_ ?_); (· first | assumption | decide); conv => whnf)
    | ((with_reducible refine bn_c (fun _ => ?_) (fun _ => ?_)) <;> conv => whnf)
    | ((with_reducible refine bc_c (fun _ => ?_) (fun _ => ?_)) <;> conv => whnf)
    | ((with_reducible refine br_c (fun _ => ?_) (fun _ => ?_)) <;> conv => whnf)
    | ((with_reducible refine br_n (fun _ => ?_) (fun _ => ?_)) <;> conv => whnf)
    | ((with_reducible refine ckI ?_ ?_); (· first | ((with_reducible refine vp_in_nI ?_ ?_); (· omega); (· decide)) | exact vp_c (by decide) | exact ⟨_, rfl⟩ | exact Or.inl rfl | exact Or.inr rfl | exact b2_01 _); conv => whnf)
    | ((with_reducible refine ckJ ?_ ?_); conv => whnf)
    | fail
