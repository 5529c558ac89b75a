theorem k_become (X : Cx) (S μ : Mem) (t km : Int32) (hW : WFS S) (hR : RC S μ) : Mt X m_X8_become 2 [.ref 0, .int t, .int km] μ (Pc8 S μ (sp_become S t km)) := by
  have hN : WN (S 1) := hW.1
  have hRW := hR.1
  unfold sp_become
  (repeat' split)
  · have h : isT (S 1) t := by assumption
    have pt : (0 ≤ t ∧ t < μ 1 9) ∧ t < 7 := by rw [hRW.1.2.1]; exact (isN_k (M := 7) hN.2.2.1).mpr h
    have hk : t.toInt.toNat < 7 := by
      have := pt.2
      simp only [Int32.lt_iff_toInt_lt, Int32.reduceToInt] at this; omega
    have hsh := shT hk
    refine Mt_of ck_X8_become mf_87 rfl ?_
    have hRR := hR
    clear hW hN hRW hR
    repeat' first
      | ((with_reducible refine gow ck_X8_become _ [] ?_); conv => whnf)
      | ((with_reducible refine bn_t ?_ ?_); (· first | assumption | decide); conv => whnf)
      | ((with_reducible refine bn_f ?_ ?_); (· first | assumption | decide); conv => whnf)
      | ((with_reducible refine bc_t ?_ ?_); (· first | assumption | decide); conv => whnf)
      | ((with_reducible refine bc_f ?_ ?_); (· first | assumption | decide); conv => whnf)
      | ((with_reducible refine br_t ?_ ?_); (· first | assumption | decide); conv => whnf)
      | ((with_reducible refine br_f ?_ ?_); (· first | assumption | decide); conv => whnf)
      | ((with_reducible refine br_nt ?_ ?_); (· first | assumption | decide); conv => whnf)
      | ((with_reducible refine br_nf ?_ ?_); (· first | assumption | decide); conv => whnf)
      | ((with_reducible refine ckI ?_ ?_); (· first | ((with_reducible refine vp_in_nI ?_ ?_); (· omega); (· decide)) | exact vp_c (by decide) | exact ⟨_, rfl⟩ | exact Or.inl rfl | exact Or.inr rfl | exact b2_01 _); conv => whnf)
      | ((with_reducible apply cl_p); (case hM => with_reducible exact k8_fail1 _ _); (case hc => exact rfl); (case hd => decide); conv => whnf)
      | ((with_reducible apply cl_p); (case hM => with_reducible exact k8_fail2 _ _); (case hc => exact rfl); (case hd => decide); conv => whnf)
      | ((with_reducible apply cl_p); (case hM => with_reducible exact k8_fail3 _ _); (case hc => exact rfl); (case hd => decide); conv => whnf)
      | ((with_reducible apply cl_p); (case hM => with_reducible exact k8_fail4 _ _); (case hc => exact rfl); (case hd => decide); conv => whnf)
      | ((with_reducible apply cl_p); (case hM => with_reducible exact k8_fail5 _ _); (case hc => exact rfl); (case hd => decide); conv => whnf)
      | ((with_reducible apply cl_p); (case hM => exact k7_taleOf _ _ t pt.1.1 pt.1.2 pt.2); (case hc => exact rfl); (case hd => decide); conv => whnf)
      | ((with_reducible apply cl_p); (case hM => exact k7_taleOf_n _ _ t pn); (case hc => exact rfl); (case hd => decide); conv => whnf)
      | ((with_reducible apply cl_p); (case hM => with_reducible exact k8_isWithin _ _ _ _); (case hc => exact rfl); (case hd => decide); conv => whnf)
      | ((rw [hsh]); conv => whnf)
      | ((with_reducible refine fun r hr => ?_); (obtain rfl := l7 hr); conv => whnf)
      | ((with_reducible apply cl_v); (case hM => exact k3_setKind _ _ _ _ hk); (case hc => exact rfl); (case hd => decide); conv => whnf)
      | with_reducible refine Pc8.of ?_ ?_ ?_
      | ((with_reducible refine ckJ ?_ ?_); conv => whnf)
      | fail
    all_goals trace_state
    all_goals sorry
  · have h : isT (S 1) t := by assumption
    have pt : (0 ≤ t ∧ t < μ 1 9) ∧ t < 7 := by rw [hRW.1.2.1]; exact (isN_k (M := 7) hN.2.2.1).mpr h
    have hk : t.toInt.toNat < 7 := by
      have := pt.2
      simp only [Int32.lt_iff_toInt_lt, Int32.reduceToInt] at this; omega
    have hsh := shT hk
    refine Mt_of ck_X8_become mf_87 rfl ?_
    have hRR := hR
    clear hW hN hRW hR
    repeat' first
      | ((with_reducible refine gow ck_X8_become _ [] ?_); conv => whnf)
      | ((with_reducible refine bn_t ?_ ?_); (· first | assumption | decide); conv => whnf)
      | ((with_reducible refine bn_f ?_ ?_); (· first | assumption | decide); conv => whnf)
      | ((with_reducible refine bc_t ?_ ?_); (· first | assumption | decide); conv => whnf)
      | ((with_reducible refine bc_f ?_ ?_); (· first | assumption | decide); conv => whnf)
      | ((with_reducible refine br_t ?_ ?_); (· first | assumption | decide); conv => whnf)
      | ((with_reducible refine br_f ?_ ?_); (· first | assumption | decide); conv => whnf)
      | ((with_reducible refine br_nt ?_ ?_); (· first | assumption | decide); conv => whnf)
      | ((with_reducible refine br_nf ?_ ?_); (· first | assumption | decide); conv => whnf)
      | ((with_reducible refine ckI ?_ ?_); (· first | ((with_reducible refine vp_in_nI ?_ ?_); (· omega); (· decide)) | exact vp_c (by decide) | exact ⟨_, rfl⟩ | exact Or.inl rfl | exact Or.inr rfl | exact b2_01 _); conv => whnf)
      | ((with_reducible apply cl_p); (case hM => with_reducible exact k8_fail1 _ _); (case hc => exact rfl); (case hd => decide); conv => whnf)
      | ((with_reducible apply cl_p); (case hM => with_reducible exact k8_fail2 _ _); (case hc => exact rfl); (case hd => decide); conv => whnf)
      | ((with_reducible apply cl_p); (case hM => with_reducible exact k8_fail3 _ _); (case hc => exact rfl); (case hd => decide); conv => whnf)
      | ((with_reducible apply cl_p); (case hM => with_reducible exact k8_fail4 _ _); (case hc => exact rfl); (case hd => decide); conv => whnf)
      | ((with_reducible apply cl_p); (case hM => with_reducible exact k8_fail5 _ _); (case hc => exact rfl); (case hd => decide); conv => whnf)
      | ((with_reducible apply cl_p); (case hM => exact k7_taleOf _ _ t pt.1.1 pt.1.2 pt.2); (case hc => exact rfl); (case hd => decide); conv => whnf)
      | ((with_reducible apply cl_p); (case hM => exact k7_taleOf_n _ _ t pn); (case hc => exact rfl); (case hd => decide); conv => whnf)
      | ((with_reducible apply cl_p); (case hM => with_reducible exact k8_isWithin _ _ _ _); (case hc => exact rfl); (case hd => decide); conv => whnf)
      | ((rw [hsh]); conv => whnf)
      | ((with_reducible refine fun r hr => ?_); (obtain rfl := l7 hr); conv => whnf)
      | ((with_reducible apply cl_v); (case hM => exact k3_setKind _ _ _ _ hk); (case hc => exact rfl); (case hd => decide); conv => whnf)
      | with_reducible refine Pc8.of ?_ ?_ ?_
      | ((with_reducible refine ckJ ?_ ?_); conv => whnf)
      | fail
    all_goals first | with_reducible rfl | exact hRR.er _ | (intro i hi; first | rfl | (simp (disch := omega) only [hi_wr]; done))
  · have h : ¬ isT (S 1) t := by assumption
    have pn : ¬ ((0 ≤ t ∧ t < μ 1 9) ∧ t < 7) := by rw [hRW.1.2.1]; exact fun q => h ((isN_k (M := 7) hN.2.2.1).mp q)
    refine Mt_of ck_X8_become mf_87 rfl ?_
    have hRR := hR
    clear hW hN hRW hR
    repeat' first
      | ((with_reducible refine gow ck_X8_become _ [] ?_); conv => whnf)
      | ((with_reducible refine bn_t ?_ ?_); (· first | assumption | decide); conv => whnf)
      | ((with_reducible refine bn_f ?_ ?_); (· first | assumption | decide); conv => whnf)
      | ((with_reducible refine bc_t ?_ ?_); (· first | assumption | decide); conv => whnf)
      | ((with_reducible refine bc_f ?_ ?_); (· first | assumption | decide); conv => whnf)
      | ((with_reducible refine br_t ?_ ?_); (· first | assumption | decide); conv => whnf)
      | ((with_reducible refine br_f ?_ ?_); (· first | assumption | decide); conv => whnf)
      | ((with_reducible refine br_nt ?_ ?_); (· first | assumption | decide); conv => whnf)
      | ((with_reducible refine br_nf ?_ ?_); (· first | assumption | decide); conv => whnf)
      | ((with_reducible refine ckI ?_ ?_); (· first | ((with_reducible refine vp_in_nI ?_ ?_); (· omega); (· decide)) | exact vp_c (by decide) | exact ⟨_, rfl⟩ | exact Or.inl rfl | exact Or.inr rfl | exact b2_01 _); conv => whnf)
      | ((with_reducible apply cl_p); (case hM => with_reducible exact k8_fail1 _ _); (case hc => exact rfl); (case hd => decide); conv => whnf)
      | ((with_reducible apply cl_p); (case hM => with_reducible exact k8_fail2 _ _); (case hc => exact rfl); (case hd => decide); conv => whnf)
      | ((with_reducible apply cl_p); (case hM => with_reducible exact k8_fail3 _ _); (case hc => exact rfl); (case hd => decide); conv => whnf)
      | ((with_reducible apply cl_p); (case hM => with_reducible exact k8_fail4 _ _); (case hc => exact rfl); (case hd => decide); conv => whnf)
      | ((with_reducible apply cl_p); (case hM => with_reducible exact k8_fail5 _ _); (case hc => exact rfl); (case hd => decide); conv => whnf)
      | ((with_reducible apply cl_p); (case hM => exact k7_taleOf _ _ t pt.1.1 pt.1.2 pt.2); (case hc => exact rfl); (case hd => decide); conv => whnf)
      | ((with_reducible apply cl_p); (case hM => exact k7_taleOf_n _ _ t pn); (case hc => exact rfl); (case hd => decide); conv => whnf)
      | ((with_reducible apply cl_p); (case hM => with_reducible exact k8_isWithin _ _ _ _); (case hc => exact rfl); (case hd => decide); conv => whnf)
      | ((rw [hsh]); conv => whnf)
      | ((with_reducible refine fun r hr => ?_); (obtain rfl := l7 hr); conv => whnf)
      | ((with_reducible apply cl_v); (case hM => exact k3_setKind _ _ _ _ hk); (case hc => exact rfl); (case hd => decide); conv => whnf)
      | with_reducible refine Pc8.of ?_ ?_ ?_
      | ((with_reducible refine ckJ ?_ ?_); conv => whnf)
      | fail
    all_goals first | with_reducible rfl | exact hRR.er _ | (intro i hi; first | rfl | (simp (disch := omega) only [hi_wr]; done))
