theorem k7_addPlace (X : Cx) (μ : Mem) (v : Int32) (h : 0 ≤ (μ 1 8).toInt ∧ (μ 1 8).toInt < 7) : Mt X m_X7_addPlace 0 [.ref 1, .int v] μ (fun r μ' => r = some (.int (μ 1 8)) ∧ μ' = wr (wr μ 2 (μ 1 8).toInt.toNat v) 1 8 (μ 1 8 + 1)) := by
  have h1 : ¬ μ 1 8 < 0 := by simp only [Int32.lt_iff_toInt_lt, Int32.reduceToInt]; omega
  have h2 : μ 1 8 < Int32.ofNat 7 := by simp only [oN_7, Int32.lt_iff_toInt_lt, Int32.reduceToInt]; omega
  have h3 : ¬ Int32.ofNat 7 ≤ μ 1 8 := by simp only [oN_7, Int32.le_iff_toInt_le, Int32.reduceToInt]; omega
  refine Mt_of ck_X7_addPlace mf_54 rfl ?_
  repeat' first
    | ((with_reducible refine gow ck_X7_addPlace _ [] ?_); conv => whnf)
    | ((with_reducible refine bn_t ?_ ?_); (· first | assumption | decide); conv => whnf)
    | ((with_reducible refine bn_f ?_ ?_); (· first | assumption | decide); conv => whnf)
    | ((with_reducible refine bc_t ?_ ?_); (· first | assumption | decide); conv => whnf)
    | ((with_reducible refine bc_f ?_ ?_); (· first | assumption | decide); conv => whnf)
    | ((with_reducible refine br_t ?_ ?_); (· first | assumption | decide); conv => whnf)
    | ((with_reducible refine br_f ?_ ?_); (· first | assumption | decide); conv => whnf)
    | ((with_reducible refine br_nt ?_ ?_); (· first | assumption | decide); conv => whnf)
    | ((with_reducible refine br_nf ?_ ?_); (· first | assumption | decide); conv => whnf)
    | ((with_reducible refine ckI ?_ ?_); (· first | ((with_reducible refine vp_in_nI ?_ ?_); (· omega); (· decide)) | exact vp_c (by decide) | exact ⟨_, rfl⟩ | exact Or.inl rfl | exact Or.inr rfl | exact b2_01 _); conv => whnf)
    | ((with_reducible refine ckJ ?_ ?_); conv => whnf)
    | fail
  all_goals first
    | exact ⟨rfl, rfl⟩
    | exact vp_t h.1 h.2
theorem k_place (X : Cx) (S μ : Mem) (v : Int32) (hW : WFS S) (hR : RC S μ) : Mt X m_X8_place 2 [.ref 0, .int v] μ (Pc8 S μ (sp_place S v)) := by
  have hN : WN (S 1) := hW.1
  have hRW := hR.1
  unfold sp_place
  (repeat' split)
  · have h7 : ¬ μ 1 8 < 7 := by rw [hRW.1.1, ‹S 1 1 = 7›]; decide
    refine Mt_of ck_X8_place mf_79 rfl ?_
    have hRR := hR
    clear hW hN hRW hR
    repeat' first
      | ((with_reducible refine gow ck_X8_place _ [] ?_); conv => whnf)
      | ((with_reducible refine bn_t ?_ ?_); (· first | assumption | decide); conv => whnf)
      | ((with_reducible refine bn_f ?_ ?_); (· first | assumption | decide); conv => whnf)
      | ((with_reducible refine bc_t ?_ ?_); (· first | assumption | decide); conv => whnf)
      | ((with_reducible refine bc_f ?_ ?_); (· first | assumption | decide); conv => whnf)
      | ((with_reducible refine br_t ?_ ?_); (· first | assumption | decide); conv => whnf)
      | ((with_reducible refine br_f ?_ ?_); (· first | assumption | decide); conv => whnf)
      | ((with_reducible refine br_nt ?_ ?_); (· first | assumption | decide); conv => whnf)
      | ((with_reducible refine br_nf ?_ ?_); (· first | assumption | decide); conv => whnf)
      | ((with_reducible refine ckI ?_ ?_); (· first | ((with_reducible refine vp_in_nI ?_ ?_); (· omega); (· decide)) | exact vp_c (by decide) | exact ⟨_, rfl⟩ | exact Or.inl rfl | exact Or.inr rfl | exact b2_01 _); conv => whnf)
      | ((with_reducible apply cl_p); (case hM => with_reducible exact k8_fail1 _ _); (case hc => exact rfl); (case hd => decide); conv => whnf)
      | ((with_reducible apply cl_p); (case hM => with_reducible exact k8_fail2 _ _); (case hc => exact rfl); (case hd => decide); conv => whnf)
      | ((with_reducible apply cl_p); (case hM => with_reducible exact k8_fail3 _ _); (case hc => exact rfl); (case hd => decide); conv => whnf)
      | ((with_reducible apply cl_p); (case hM => with_reducible exact k8_fail4 _ _); (case hc => exact rfl); (case hd => decide); conv => whnf)
      | ((with_reducible apply cl_p); (case hM => with_reducible exact k8_fail5 _ _); (case hc => exact rfl); (case hd => decide); conv => whnf)
      | ((with_reducible apply cl_p); (case hM => with_reducible exact k8_isWithin _ _ _ _); (case hc => exact rfl); (case hd => decide); conv => whnf)
      | ((with_reducible apply cl_p); (case hM => exact k7_addPlace _ _ _ w1); (case hc => exact rfl); (case hd => decide); conv => whnf)
      | with_reducible refine Pc8.of ?_ ?_ ?_
      | ((with_reducible refine ckJ ?_ ?_); conv => whnf)
      | fail
    all_goals first | with_reducible rfl | exact hRR.er _ | (intro i hi; first | rfl | (simp (disch := omega) only [hi_wr]; done))
  · have w0 := hN.2.1
    have w1 : 0 ≤ (μ 1 8).toInt ∧ (μ 1 8).toInt < 7 := by
      rw [hRW.1.1]
      have h : ¬ S 1 1 = 7 := by assumption
      simp only [← Int32.toInt_inj, Int32.reduceToInt] at h
      have := w0.1; have := w0.2
      omega
    have h7 : μ 1 8 < 7 := by simp only [Int32.lt_iff_toInt_lt, Int32.reduceToInt]; omega
    refine Mt_of ck_X8_place mf_79 rfl ?_
    have hRR := hR
    clear hW hN hRW hR
    repeat' first
      | ((with_reducible refine gow ck_X8_place _ [] ?_); conv => whnf)
      | ((with_reducible refine bn_t ?_ ?_); (· first | assumption | decide); conv => whnf)
      | ((with_reducible refine bn_f ?_ ?_); (· first | assumption | decide); conv => whnf)
      | ((with_reducible refine bc_t ?_ ?_); (· first | assumption | decide); conv => whnf)
      | ((with_reducible refine bc_f ?_ ?_); (· first | assumption | decide); conv => whnf)
      | ((with_reducible refine br_t ?_ ?_); (· first | assumption | decide); conv => whnf)
      | ((with_reducible refine br_f ?_ ?_); (· first | assumption | decide); conv => whnf)
      | ((with_reducible refine br_nt ?_ ?_); (· first | assumption | decide); conv => whnf)
      | ((with_reducible refine br_nf ?_ ?_); (· first | assumption | decide); conv => whnf)
      | ((with_reducible refine ckI ?_ ?_); (· first | ((with_reducible refine vp_in_nI ?_ ?_); (· omega); (· decide)) | exact vp_c (by decide) | exact ⟨_, rfl⟩ | exact Or.inl rfl | exact Or.inr rfl | exact b2_01 _); conv => whnf)
      | ((with_reducible apply cl_p); (case hM => with_reducible exact k8_fail1 _ _); (case hc => exact rfl); (case hd => decide); conv => whnf)
      | ((with_reducible apply cl_p); (case hM => with_reducible exact k8_fail2 _ _); (case hc => exact rfl); (case hd => decide); conv => whnf)
      | ((with_reducible apply cl_p); (case hM => with_reducible exact k8_fail3 _ _); (case hc => exact rfl); (case hd => decide); conv => whnf)
      | ((with_reducible apply cl_p); (case hM => with_reducible exact k8_fail4 _ _); (case hc => exact rfl); (case hd => decide); conv => whnf)
      | ((with_reducible apply cl_p); (case hM => with_reducible exact k8_fail5 _ _); (case hc => exact rfl); (case hd => decide); conv => whnf)
      | ((with_reducible apply cl_p); (case hM => with_reducible exact k8_isWithin _ _ _ _); (case hc => exact rfl); (case hd => decide); conv => whnf)
      | ((with_reducible apply cl_p); (case hM => exact k7_addPlace _ _ _ w1); (case hc => exact rfl); (case hd => decide); conv => whnf)
      | with_reducible refine Pc8.of ?_ ?_ ?_
      | ((with_reducible refine ckJ ?_ ?_); conv => whnf)
      | fail
    · exact hRR.1.1.1
    · have hq := hRR.1
      have hp := hRR.1.1.1
      refine hRR.now (fun i hi => by simp (disch := omega) only [wr_ne]) (fun i hi => by simp (disch := omega) only [wr_ne]) ?_
      have w2 := w1
      rw [hp] at w2 ⊢
      simp only [wr_at]
      have w3 : nP (S 1) < 7 := by show (S 1 1).toInt.toNat < 7; omega
      rw [show (S 1 1).toInt.toNat = nP (S 1) from rfl]
      obtain ⟨⟨ra1, ra2, ra3, ra4⟩, rb, rc, rd, re, ⟨rf1, rf2⟩, ⟨rg1, rg2⟩, ⟨rh1, rh2⟩, ⟨ri1, ri2⟩⟩ := hq
      simp only [Nat.reduceAdd] at rb rc rd re rf1 rf2 rg1 rg2 rh1 rh2 ri1 ri2
      refine ⟨⟨?_, ?_, ?_, ?_⟩, fun j hj => ?_, fun j hj => ?_, fun j hj => ?_, fun t ht f hf => ?_, ⟨?_, fun j hj => ?_⟩, ⟨?_, fun j hj => ?_⟩, ⟨?_, fun j hj => ?_⟩, ⟨?_, fun j hj => ?_⟩⟩
      all_goals ((try simp (disch := omega) only [wr_at, wr_ne, upd_ne, upd_eq, Nat.reduceAdd] at hj); (try simp (disch := omega) only [wr_at, wr_ne, upd_ne, upd_eq, Nat.reduceAdd]))
      all_goals try simp only [upd, Nat.add_left_cancel_iff]
      all_goals ((repeat' split) <;> (try (exfalso; omega)))
      all_goals try first | rfl | with_reducible assumption | (with_reducible exact rb _ (by first | assumption | omega)) | (with_reducible exact rc _ (by first | assumption | omega)) | (with_reducible exact rd _ (by first | assumption | omega)) | (with_reducible exact re _ (by first | assumption | omega) _ (by first | assumption | omega)) | (with_reducible exact rf2 _ (by first | assumption | omega)) | (with_reducible exact rg2 _ (by first | assumption | omega)) | (with_reducible exact rh2 _ (by first | assumption | omega)) | (with_reducible exact ri2 _ (by first | assumption | omega))
    · intro i hi
      simp (disch := omega) only [hi_wr]
  · refine Mt_of ck_X8_place mf_79 rfl ?_
    have hRR := hR
    clear hW hN hRW hR
    repeat' first
      | ((with_reducible refine gow ck_X8_place _ [] ?_); conv => whnf)
      | ((with_reducible refine bn_t ?_ ?_); (· first | assumption | decide); conv => whnf)
      | ((with_reducible refine bn_f ?_ ?_); (· first | assumption | decide); conv => whnf)
      | ((with_reducible refine bc_t ?_ ?_); (· first | assumption | decide); conv => whnf)
      | ((with_reducible refine bc_f ?_ ?_); (· first | assumption | decide); conv => whnf)
      | ((with_reducible refine br_t ?_ ?_); (· first | assumption | decide); conv => whnf)
      | ((with_reducible refine br_f ?_ ?_); (· first | assumption | decide); conv => whnf)
      | ((with_reducible refine br_nt ?_ ?_); (· first | assumption | decide); conv => whnf)
      | ((with_reducible refine br_nf ?_ ?_); (· first | assumption | decide); conv => whnf)
      | ((with_reducible refine ckI ?_ ?_); (· first | ((with_reducible refine vp_in_nI ?_ ?_); (· omega); (· decide)) | exact vp_c (by decide) | exact ⟨_, rfl⟩ | exact Or.inl rfl | exact Or.inr rfl | exact b2_01 _); conv => whnf)
      | ((with_reducible apply cl_p); (case hM => with_reducible exact k8_fail1 _ _); (case hc => exact rfl); (case hd => decide); conv => whnf)
      | ((with_reducible apply cl_p); (case hM => with_reducible exact k8_fail2 _ _); (case hc => exact rfl); (case hd => decide); conv => whnf)
      | ((with_reducible apply cl_p); (case hM => with_reducible exact k8_fail3 _ _); (case hc => exact rfl); (case hd => decide); conv => whnf)
      | ((with_reducible apply cl_p); (case hM => with_reducible exact k8_fail4 _ _); (case hc => exact rfl); (case hd => decide); conv => whnf)
      | ((with_reducible apply cl_p); (case hM => with_reducible exact k8_fail5 _ _); (case hc => exact rfl); (case hd => decide); conv => whnf)
      | ((with_reducible apply cl_p); (case hM => with_reducible exact k8_isWithin _ _ _ _); (case hc => exact rfl); (case hd => decide); conv => whnf)
      | ((with_reducible apply cl_p); (case hM => exact k7_addPlace _ _ _ w1); (case hc => exact rfl); (case hd => decide); conv => whnf)
      | with_reducible refine Pc8.of ?_ ?_ ?_
      | ((with_reducible refine ckJ ?_ ?_); conv => whnf)
      | fail
    all_goals first | with_reducible rfl | exact hRR.er _ | (intro i hi; first | rfl | (simp (disch := omega) only [hi_wr]; done))
theorem isP_k {N : Nat → Int32} {μ : Mem} {p : Int32} (h : WN N) (e : μ 1 8 = N 1) : ((0 ≤ p ∧ p < μ 1 8) ∧ p < 7) ↔ isP N p := by
  have := h.2.1.1
  have := h.2.1.2
  simp only [upto, e, isP, Int32.le_iff_toInt_le, Int32.lt_iff_toInt_lt, Int32.reduceToInt, Int32.toInt_sub, Int.bmod_def] at *
  omega
theorem k_seed (X : Cx) (S μ : Mem) (v : Int32) (hW : WFS S) (hR : RC S μ) : Mt X m_X8_seed 1 [.ref 0, .int v] μ (Pc8 S μ (sp_seed S v)) := by
  have hN : WN (S 1) := hW.1
  have hRW := hR.1
  unfold sp_seed
  (repeat' split)
  · refine Mt_of ck_X8_seed mf_104 rfl ?_
    have hRR := hR
    clear hW hN hRW hR
    repeat' first
      | ((with_reducible refine gow ck_X8_seed _ [] ?_); conv => whnf)
      | ((with_reducible refine bn_t ?_ ?_); (· first | assumption | decide); conv => whnf)
      | ((with_reducible refine bn_f ?_ ?_); (· first | assumption | decide); conv => whnf)
      | ((with_reducible refine bc_t ?_ ?_); (· first | assumption | decide); conv => whnf)
      | ((with_reducible refine bc_f ?_ ?_); (· first | assumption | decide); conv => whnf)
      | ((with_reducible refine br_t ?_ ?_); (· first | assumption | decide); conv => whnf)
      | ((with_reducible refine br_f ?_ ?_); (· first | assumption | decide); conv => whnf)
      | ((with_reducible refine br_nt ?_ ?_); (· first | assumption | decide); conv => whnf)
      | ((with_reducible refine br_nf ?_ ?_); (· first | assumption | decide); conv => whnf)
      | ((with_reducible refine ckI ?_ ?_); (· first | ((with_reducible refine vp_in_nI ?_ ?_); (· omega); (· decide)) | exact vp_c (by decide) | exact ⟨_, rfl⟩ | exact Or.inl rfl | exact Or.inr rfl | exact b2_01 _); conv => whnf)
      | ((with_reducible apply cl_p); (case hM => with_reducible exact k8_fail1 _ _); (case hc => exact rfl); (case hd => decide); conv => whnf)
      | ((with_reducible apply cl_p); (case hM => with_reducible exact k8_fail2 _ _); (case hc => exact rfl); (case hd => decide); conv => whnf)
      | ((with_reducible apply cl_p); (case hM => with_reducible exact k8_fail3 _ _); (case hc => exact rfl); (case hd => decide); conv => whnf)
      | ((with_reducible apply cl_p); (case hM => with_reducible exact k8_fail4 _ _); (case hc => exact rfl); (case hd => decide); conv => whnf)
      | ((with_reducible apply cl_p); (case hM => with_reducible exact k8_fail5 _ _); (case hc => exact rfl); (case hd => decide); conv => whnf)
      | with_reducible refine Pc8.of ?_ ?_ ?_
      | ((with_reducible refine ckJ ?_ ?_); conv => whnf)
      | fail
    · exact hRR.1.1.2.2.2
    · have hq := hRR.1
      refine hRR.now (fun i hi => by simp (disch := omega) only [wr_ne]) (fun i hi => by simp (disch := omega) only [wr_ne]) ?_
      (try simp only [wr_at, tnc])
      obtain ⟨⟨ra1, ra2, ra3, ra4⟩, rb, rc, rd, re, ⟨rf1, rf2⟩, ⟨rg1, rg2⟩, ⟨rh1, rh2⟩, ⟨ri1, ri2⟩⟩ := hq
      simp only [Nat.reduceAdd] at rb rc rd re rf1 rf2 rg1 rg2 rh1 rh2 ri1 ri2
      refine ⟨⟨?_, ?_, ?_, ?_⟩, fun j hj => ?_, fun j hj => ?_, fun j hj => ?_, fun t ht f hf => ?_, ⟨?_, fun j hj => ?_⟩, ⟨?_, fun j hj => ?_⟩, ⟨?_, fun j hj => ?_⟩, ⟨?_, fun j hj => ?_⟩⟩
      all_goals ((try simp (disch := omega) only [wr_at, wr_ne, upd_ne, upd_eq, Nat.reduceAdd] at hj); (try simp (disch := omega) only [wr_at, wr_ne, upd_ne, upd_eq, Nat.reduceAdd]))
      all_goals try simp only [upd, Nat.add_left_cancel_iff]
      all_goals ((repeat' split) <;> (try (exfalso; omega)))
      all_goals try first | rfl | with_reducible assumption | (with_reducible exact rb _ (by first | assumption | omega)) | (with_reducible exact rc _ (by first | assumption | omega)) | (with_reducible exact rd _ (by first | assumption | omega)) | (with_reducible exact re _ (by first | assumption | omega) _ (by first | assumption | omega)) | (with_reducible exact rf2 _ (by first | assumption | omega)) | (with_reducible exact rg2 _ (by first | assumption | omega)) | (with_reducible exact rh2 _ (by first | assumption | omega)) | (with_reducible exact ri2 _ (by first | assumption | omega))
    · intro i hi
      simp (disch := omega) only [hi_wr]
theorem k_doubt (X : Cx) (S μ : Mem) (p v : Int32) (hW : WFS S) (hR : RC S μ) : Mt X m_X8_doubt 2 [.ref 0, .int p, .int v] μ (Pc8 S μ (sp_doubt S p v)) := by
  have hN : WN (S 1) := hW.1
  have hRW := hR.1
  unfold sp_doubt
  (repeat' split)
  · have hp := isP_k (p := p) hN hRW.1.1
    simp only [← hp] at *
    have w3 : 0 ≤ p.toInt ∧ p.toInt < 7 := by
      have h : ((0 ≤ p ∧ p < μ 1 8) ∧ p < 7) := by assumption
      simp only [Int32.le_iff_toInt_le, Int32.lt_iff_toInt_lt, Int32.reduceToInt] at h
      omega
    refine Mt_of ck_X8_doubt mf_80 rfl ?_
    have hRR := hR
    clear hW hN hRW hR
    repeat' first
      | ((with_reducible refine gow ck_X8_doubt _ [] ?_); conv => whnf)
      | ((with_reducible refine bn_t ?_ ?_); (· first | assumption | decide); conv => whnf)
      | ((with_reducible refine bn_f ?_ ?_); (· first | assumption | decide); conv => whnf)
      | ((with_reducible refine bc_t ?_ ?_); (· first | assumption | decide); conv => whnf)
      | ((with_reducible refine bc_f ?_ ?_); (· first | assumption | decide); conv => whnf)
      | ((with_reducible refine br_t ?_ ?_); (· first | assumption | decide); conv => whnf)
      | ((with_reducible refine br_f ?_ ?_); (· first | assumption | decide); conv => whnf)
      | ((with_reducible refine br_nt ?_ ?_); (· first | assumption | decide); conv => whnf)
      | ((with_reducible refine br_nf ?_ ?_); (· first | assumption | decide); conv => whnf)
      | ((with_reducible refine ckI ?_ ?_); (· first | ((with_reducible refine vp_in_nI ?_ ?_); (· omega); (· decide)) | exact vp_c (by decide) | exact ⟨_, rfl⟩ | exact Or.inl rfl | exact Or.inr rfl | exact b2_01 _); conv => whnf)
      | ((with_reducible apply cl_p); (case hM => with_reducible exact k8_fail1 _ _); (case hc => exact rfl); (case hd => decide); conv => whnf)
      | ((with_reducible apply cl_p); (case hM => with_reducible exact k8_fail2 _ _); (case hc => exact rfl); (case hd => decide); conv => whnf)
      | ((with_reducible apply cl_p); (case hM => with_reducible exact k8_fail3 _ _); (case hc => exact rfl); (case hd => decide); conv => whnf)
      | ((with_reducible apply cl_p); (case hM => with_reducible exact k8_fail4 _ _); (case hc => exact rfl); (case hd => decide); conv => whnf)
      | ((with_reducible apply cl_p); (case hM => with_reducible exact k8_fail5 _ _); (case hc => exact rfl); (case hd => decide); conv => whnf)
      | ((with_reducible apply cl_p); (case hM => with_reducible exact k7_hasPlace _ _ _); (case hc => exact rfl); (case hd => decide); conv => whnf)
      | ((with_reducible apply cl_p); (case hM => with_reducible exact k8_isWithin _ _ _ _); (case hc => exact rfl); (case hd => decide); conv => whnf)
      | with_reducible refine Pc8.of ?_ ?_ ?_
      | ((with_reducible refine ckJ ?_ ?_); conv => whnf)
      | fail
    · exact hRR.1.2.1 p.toInt.toNat (by omega)
    · have hq := hRR.1
      refine hRR.now (fun i hi => by simp (disch := omega) only [wr_ne]) (fun i hi => by simp (disch := omega) only [wr_ne]) ?_
      (try simp only [wr_at, tnc])
      obtain ⟨⟨ra1, ra2, ra3, ra4⟩, rb, rc, rd, re, ⟨rf1, rf2⟩, ⟨rg1, rg2⟩, ⟨rh1, rh2⟩, ⟨ri1, ri2⟩⟩ := hq
      simp only [Nat.reduceAdd] at rb rc rd re rf1 rf2 rg1 rg2 rh1 rh2 ri1 ri2
      refine ⟨⟨?_, ?_, ?_, ?_⟩, fun j hj => ?_, fun j hj => ?_, fun j hj => ?_, fun t ht f hf => ?_, ⟨?_, fun j hj => ?_⟩, ⟨?_, fun j hj => ?_⟩, ⟨?_, fun j hj => ?_⟩, ⟨?_, fun j hj => ?_⟩⟩
      all_goals ((try simp (disch := omega) only [wr_at, wr_ne, upd_ne, upd_eq, Nat.reduceAdd] at hj); (try simp (disch := omega) only [wr_at, wr_ne, upd_ne, upd_eq, Nat.reduceAdd]))
      all_goals try simp only [upd, Nat.add_left_cancel_iff]
      all_goals ((repeat' split) <;> (try (exfalso; omega)))
      all_goals try first | rfl | with_reducible assumption | (with_reducible exact rb _ (by first | assumption | omega)) | (with_reducible exact rc _ (by first | assumption | omega)) | (with_reducible exact rd _ (by first | assumption | omega)) | (with_reducible exact re _ (by first | assumption | omega) _ (by first | assumption | omega)) | (with_reducible exact rf2 _ (by first | assumption | omega)) | (with_reducible exact rg2 _ (by first | assumption | omega)) | (with_reducible exact rh2 _ (by first | assumption | omega)) | (with_reducible exact ri2 _ (by first | assumption | omega))
    · intro i hi
      simp (disch := omega) only [hi_wr]
    all_goals exact vp_t w3.1 w3.2
  · have hp := isP_k (p := p) hN hRW.1.1
    simp only [← hp] at *
    refine Mt_of ck_X8_doubt mf_80 rfl ?_
    have hRR := hR
    clear hW hN hRW hR
    repeat' first
      | ((with_reducible refine gow ck_X8_doubt _ [] ?_); conv => whnf)
      | ((with_reducible refine bn_t ?_ ?_); (· first | assumption | decide); conv => whnf)
      | ((with_reducible refine bn_f ?_ ?_); (· first | assumption | decide); conv => whnf)
      | ((with_reducible refine bc_t ?_ ?_); (· first | assumption | decide); conv => whnf)
      | ((with_reducible refine bc_f ?_ ?_); (· first | assumption | decide); conv => whnf)
      | ((with_reducible refine br_t ?_ ?_); (· first | assumption | decide); conv => whnf)
      | ((with_reducible refine br_f ?_ ?_); (· first | assumption | decide); conv => whnf)
      | ((with_reducible refine br_nt ?_ ?_); (· first | assumption | decide); conv => whnf)
      | ((with_reducible refine br_nf ?_ ?_); (· first | assumption | decide); conv => whnf)
      | ((with_reducible refine ckI ?_ ?_); (· first | ((with_reducible refine vp_in_nI ?_ ?_); (· omega); (· decide)) | exact vp_c (by decide) | exact ⟨_, rfl⟩ | exact Or.inl rfl | exact Or.inr rfl | exact b2_01 _); conv => whnf)
      | ((with_reducible apply cl_p); (case hM => with_reducible exact k8_fail1 _ _); (case hc => exact rfl); (case hd => decide); conv => whnf)
      | ((with_reducible apply cl_p); (case hM => with_reducible exact k8_fail2 _ _); (case hc => exact rfl); (case hd => decide); conv => whnf)
      | ((with_reducible apply cl_p); (case hM => with_reducible exact k8_fail3 _ _); (case hc => exact rfl); (case hd => decide); conv => whnf)
      | ((with_reducible apply cl_p); (case hM => with_reducible exact k8_fail4 _ _); (case hc => exact rfl); (case hd => decide); conv => whnf)
      | ((with_reducible apply cl_p); (case hM => with_reducible exact k8_fail5 _ _); (case hc => exact rfl); (case hd => decide); conv => whnf)
      | ((with_reducible apply cl_p); (case hM => with_reducible exact k7_hasPlace _ _ _); (case hc => exact rfl); (case hd => decide); conv => whnf)
      | ((with_reducible apply cl_p); (case hM => with_reducible exact k8_isWithin _ _ _ _); (case hc => exact rfl); (case hd => decide); conv => whnf)
      | with_reducible refine Pc8.of ?_ ?_ ?_
      | ((with_reducible refine ckJ ?_ ?_); conv => whnf)
      | fail
    all_goals first | with_reducible rfl | exact hRR.er _ | (intro i hi; first | rfl | (simp (disch := omega) only [hi_wr]; done))
  · have hp := isP_k (p := p) hN hRW.1.1
    simp only [← hp] at *
    refine Mt_of ck_X8_doubt mf_80 rfl ?_
    have hRR := hR
    clear hW hN hRW hR
    repeat' first
      | ((with_reducible refine gow ck_X8_doubt _ [] ?_); conv => whnf)
      | ((with_reducible refine bn_t ?_ ?_); (· first | assumption | decide); conv => whnf)
      | ((with_reducible refine bn_f ?_ ?_); (· first | assumption | decide); conv => whnf)
      | ((with_reducible refine bc_t ?_ ?_); (· first | assumption | decide); conv => whnf)
      | ((with_reducible refine bc_f ?_ ?_); (· first | assumption | decide); conv => whnf)
      | ((with_reducible refine br_t ?_ ?_); (· first | assumption | decide); conv => whnf)
      | ((with_reducible refine br_f ?_ ?_); (· first | assumption | decide); conv => whnf)
      | ((with_reducible refine br_nt ?_ ?_); (· first | assumption | decide); conv => whnf)
      | ((with_reducible refine br_nf ?_ ?_); (· first | assumption | decide); conv => whnf)
      | ((with_reducible refine ckI ?_ ?_); (· first | ((with_reducible refine vp_in_nI ?_ ?_); (· omega); (· decide)) | exact vp_c (by decide) | exact ⟨_, rfl⟩ | exact Or.inl rfl | exact Or.inr rfl | exact b2_01 _); conv => whnf)
      | ((with_reducible apply cl_p); (case hM => with_reducible exact k8_fail1 _ _); (case hc => exact rfl); (case hd => decide); conv => whnf)
      | ((with_reducible apply cl_p); (case hM => with_reducible exact k8_fail2 _ _); (case hc => exact rfl); (case hd => decide); conv => whnf)
      | ((with_reducible apply cl_p); (case hM => with_reducible exact k8_fail3 _ _); (case hc => exact rfl); (case hd => decide); conv => whnf)
      | ((with_reducible apply cl_p); (case hM => with_reducible exact k8_fail4 _ _); (case hc => exact rfl); (case hd => decide); conv => whnf)
      | ((with_reducible apply cl_p); (case hM => with_reducible exact k8_fail5 _ _); (case hc => exact rfl); (case hd => decide); conv => whnf)
      | ((with_reducible apply cl_p); (case hM => with_reducible exact k7_hasPlace _ _ _); (case hc => exact rfl); (case hd => decide); conv => whnf)
      | ((with_reducible apply cl_p); (case hM => with_reducible exact k8_isWithin _ _ _ _); (case hc => exact rfl); (case hd => decide); conv => whnf)
      | with_reducible refine Pc8.of ?_ ?_ ?_
      | ((with_reducible refine ckJ ?_ ?_); conv => whnf)
      | fail
    all_goals first | with_reducible rfl | exact hRR.er _ | (intro i hi; first | rfl | (simp (disch := omega) only [hi_wr]; done))
theorem isN_k {n M p : Int32} (h : 0 ≤ n.toInt ∧ n.toInt ≤ M.toInt) : ((0 ≤ p ∧ p < n) ∧ p < M) ↔ (0 ≤ p ∧ p ≤ n - 1) := by
  have := h.1
  have := h.2
  have := M.toInt_lt
  simp only [Int32.le_iff_toInt_le, Int32.lt_iff_toInt_lt, Int32.reduceToInt, Int32.toInt_sub, Int.bmod_def] at *
  omega
theorem k_trace (X : Cx) (S μ : Mem) (i : Int32) (hW : WFS S) (hR : RC S μ) : Mt X m_X8_trace 2 [.ref 0, .int i] μ (Pc8 S μ (sp_trace S i)) := by
  have hN : WN (S 1) := hW.1
  have hRW := hR.1
  unfold sp_trace
  (repeat' split)
  · have hx := hR.2.2.2.2.1.1
    have hp := isN_k (p := i) (M := 40) hW.2.2.1
    rw [← hx] at hp
    simp only [← hx, ← hp] at *
    refine Mt_of ck_X8_trace mf_106 rfl ?_
    have hRR := hR
    clear hW hN hRW hR
    repeat' first
      | ((with_reducible refine gow ck_X8_trace _ [] ?_); conv => whnf)
      | ((with_reducible refine bn_t ?_ ?_); (· first | assumption | decide); conv => whnf)
      | ((with_reducible refine bn_f ?_ ?_); (· first | assumption | decide); conv => whnf)
      | ((with_reducible refine bc_t ?_ ?_); (· first | assumption | decide); conv => whnf)
      | ((with_reducible refine bc_f ?_ ?_); (· first | assumption | decide); conv => whnf)
      | ((with_reducible refine br_t ?_ ?_); (· first | assumption | decide); conv => whnf)
      | ((with_reducible refine br_f ?_ ?_); (· first | assumption | decide); conv => whnf)
      | ((with_reducible refine br_nt ?_ ?_); (· first | assumption | decide); conv => whnf)
      | ((with_reducible refine br_nf ?_ ?_); (· first | assumption | decide); conv => whnf)
      | ((with_reducible refine ckI ?_ ?_); (· first | ((with_reducible refine vp_in_nI ?_ ?_); (· omega); (· decide)) | exact vp_c (by decide) | exact ⟨_, rfl⟩ | exact Or.inl rfl | exact Or.inr rfl | exact b2_01 _); conv => whnf)
      | ((with_reducible apply cl_p); (case hM => with_reducible exact k8_fail1 _ _); (case hc => exact rfl); (case hd => decide); conv => whnf)
      | ((with_reducible apply cl_p); (case hM => with_reducible exact k8_fail2 _ _); (case hc => exact rfl); (case hd => decide); conv => whnf)
      | ((with_reducible apply cl_p); (case hM => with_reducible exact k8_fail3 _ _); (case hc => exact rfl); (case hd => decide); conv => whnf)
      | ((with_reducible apply cl_p); (case hM => with_reducible exact k8_fail4 _ _); (case hc => exact rfl); (case hd => decide); conv => whnf)
      | ((with_reducible apply cl_p); (case hM => with_reducible exact k8_fail5 _ _); (case hc => exact rfl); (case hd => decide); conv => whnf)
      | ((with_reducible apply cl_p); (case hM => with_reducible exact k1_has_58 _ _ _); (case hc => exact rfl); (case hd => decide); conv => whnf)
      | ((with_reducible apply cl_p); (case hM => with_reducible exact k1_numberAt_58 _ _ _); (case hc => exact rfl); (case hd => decide); conv => whnf)
      | with_reducible refine Pc8.of ?_ ?_ ?_
      | ((with_reducible refine ckJ ?_ ?_); conv => whnf)
      | fail
    · rw [if_pos (by assumption)]
      have h : ((0 ≤ i ∧ i < μ 58 1) ∧ i < 40) := by assumption
      refine hRR.2.2.2.2.1.2 _ ?_
      rw [← hRR.2.2.2.2.1.1]
      simp only [Int32.le_iff_toInt_le, Int32.lt_iff_toInt_lt, Int32.reduceToInt] at h
      omega
    · exact hRR
    · intro i hi; rfl
  · have hx := hR.2.2.2.2.1.1
    have hp := isN_k (p := i) (M := 40) hW.2.2.1
    rw [← hx] at hp
    simp only [← hx, ← hp] at *
    refine Mt_of ck_X8_trace mf_106 rfl ?_
    have hRR := hR
    clear hW hN hRW hR
    repeat' first
      | ((with_reducible refine gow ck_X8_trace _ [] ?_); conv => whnf)
      | ((with_reducible refine bn_t ?_ ?_); (· first | assumption | decide); conv => whnf)
      | ((with_reducible refine bn_f ?_ ?_); (· first | assumption | decide); conv => whnf)
      | ((with_reducible refine bc_t ?_ ?_); (· first | assumption | decide); conv => whnf)
      | ((with_reducible refine bc_f ?_ ?_); (· first | assumption | decide); conv => whnf)
      | ((with_reducible refine br_t ?_ ?_); (· first | assumption | decide); conv => whnf)
      | ((with_reducible refine br_f ?_ ?_); (· first | assumption | decide); conv => whnf)
      | ((with_reducible refine br_nt ?_ ?_); (· first | assumption | decide); conv => whnf)
      | ((with_reducible refine br_nf ?_ ?_); (· first | assumption | decide); conv => whnf)
      | ((with_reducible refine ckI ?_ ?_); (· first | ((with_reducible refine vp_in_nI ?_ ?_); (· omega); (· decide)) | exact vp_c (by decide) | exact ⟨_, rfl⟩ | exact Or.inl rfl | exact Or.inr rfl | exact b2_01 _); conv => whnf)
      | ((with_reducible apply cl_p); (case hM => with_reducible exact k8_fail1 _ _); (case hc => exact rfl); (case hd => decide); conv => whnf)
      | ((with_reducible apply cl_p); (case hM => with_reducible exact k8_fail2 _ _); (case hc => exact rfl); (case hd => decide); conv => whnf)
      | ((with_reducible apply cl_p); (case hM => with_reducible exact k8_fail3 _ _); (case hc => exact rfl); (case hd => decide); conv => whnf)
      | ((with_reducible apply cl_p); (case hM => with_reducible exact k8_fail4 _ _); (case hc => exact rfl); (case hd => decide); conv => whnf)
      | ((with_reducible apply cl_p); (case hM => with_reducible exact k8_fail5 _ _); (case hc => exact rfl); (case hd => decide); conv => whnf)
      | ((with_reducible apply cl_p); (case hM => with_reducible exact k1_has_58 _ _ _); (case hc => exact rfl); (case hd => decide); conv => whnf)
      | ((with_reducible apply cl_p); (case hM => with_reducible exact k1_numberAt_58 _ _ _); (case hc => exact rfl); (case hd => decide); conv => whnf)
      | with_reducible refine Pc8.of ?_ ?_ ?_
      | ((with_reducible refine ckJ ?_ ?_); conv => whnf)
      | fail
    all_goals first | with_reducible rfl | exact hRR.er _ | (intro i hi; first | rfl | (simp (disch := omega) only [hi_wr]; done))
theorem k_told (X : Cx) (S μ : Mem) (k : Int32) (hW : WFS S) (hR : RC S μ) : Mt X m_X8_told 2 [.ref 0, .int k] μ (Pc8 S μ (sp_told S k)) := by
  have hN : WN (S 1) := hW.1
  have hRW := hR.1
  unfold sp_told
  (repeat' split)
  · have h : 1 ≤ k ∧ k ≤ 5 := by assumption
    have h1 : ¬ k < 1 := by simp only [Int32.le_iff_toInt_le, Int32.lt_iff_toInt_lt, Int32.reduceToInt] at *; omega
    have h2 : k ≤ 5 := h.2
    have h3 : ¬ 5 < k := by simp only [Int32.le_iff_toInt_le, Int32.lt_iff_toInt_lt, Int32.reduceToInt] at *; omega
    have w3 : 1 ≤ k.toInt ∧ k.toInt < 6 := by simp only [Int32.le_iff_toInt_le, Int32.lt_iff_toInt_lt, Int32.reduceToInt] at *; omega
    refine Mt_of ck_X8_told mf_117 rfl ?_
    have hRR := hR
    clear hW hN hRW hR
    repeat' first
      | ((with_reducible refine gow ck_X8_told _ [] ?_); conv => whnf)
      | ((with_reducible refine bn_t ?_ ?_); (· first | assumption | decide); conv => whnf)
      | ((with_reducible refine bn_f ?_ ?_); (· first | assumption | decide); conv => whnf)
      | ((with_reducible refine bc_t ?_ ?_); (· first | assumption | decide); conv => whnf)
      | ((with_reducible refine bc_f ?_ ?_); (· first | assumption | decide); conv => whnf)
      | ((with_reducible refine br_t ?_ ?_); (· first | assumption | decide); conv => whnf)
      | ((with_reducible refine br_f ?_ ?_); (· first | assumption | decide); conv => whnf)
      | ((with_reducible refine br_nt ?_ ?_); (· first | assumption | decide); conv => whnf)
      | ((with_reducible refine br_nf ?_ ?_); (· first | assumption | decide); conv => whnf)
      | ((with_reducible refine ckI ?_ ?_); (· first | ((with_reducible refine vp_in_nI ?_ ?_); (· omega); (· decide)) | exact vp_c (by decide) | exact ⟨_, rfl⟩ | exact Or.inl rfl | exact Or.inr rfl | exact b2_01 _); conv => whnf)
      | ((with_reducible apply cl_p); (case hM => with_reducible exact k8_fail1 _ _); (case hc => exact rfl); (case hd => decide); conv => whnf)
      | ((with_reducible apply cl_p); (case hM => with_reducible exact k8_fail2 _ _); (case hc => exact rfl); (case hd => decide); conv => whnf)
      | ((with_reducible apply cl_p); (case hM => with_reducible exact k8_fail3 _ _); (case hc => exact rfl); (case hd => decide); conv => whnf)
      | ((with_reducible apply cl_p); (case hM => with_reducible exact k8_fail4 _ _); (case hc => exact rfl); (case hd => decide); conv => whnf)
      | ((with_reducible apply cl_p); (case hM => with_reducible exact k8_fail5 _ _); (case hc => exact rfl); (case hd => decide); conv => whnf)
      | ((with_reducible apply cl_p); (case hM => with_reducible exact k7_hasPlace _ _ _); (case hc => exact rfl); (case hd => decide); conv => whnf)
      | ((with_reducible apply cl_p); (case hM => with_reducible exact k8_isWithin _ _ _ _); (case hc => exact rfl); (case hd => decide); conv => whnf)
      | with_reducible refine Pc8.of ?_ ?_ ?_
      | ((with_reducible refine ckJ ?_ ?_); conv => whnf)
      | fail
    · exact hRR.2.2.1 k.toInt.toNat (by omega)
    · exact hRR
    · intro i hi; rfl
    all_goals exact vp_t (by omega) w3.2
  · by_cases h1 : k < 1
    refine Mt_of ck_X8_told mf_117 rfl ?_
    have hRR := hR
    clear hW hN hRW hR
    repeat' first
      | ((with_reducible refine gow ck_X8_told _ [] ?_); conv => whnf)
      | ((with_reducible refine bn_t ?_ ?_); (· first | assumption | decide); conv => whnf)
      | ((with_reducible refine bn_f ?_ ?_); (· first | assumption | decide); conv => whnf)
      | ((with_reducible refine bc_t ?_ ?_); (· first | assumption | decide); conv => whnf)
      | ((with_reducible refine bc_f ?_ ?_); (· first | assumption | decide); conv => whnf)
      | ((with_reducible refine br_t ?_ ?_); (· first | assumption | decide); conv => whnf)
      | ((with_reducible refine br_f ?_ ?_); (· first | assumption | decide); conv => whnf)
      | ((with_reducible refine br_nt ?_ ?_); (· first | assumption | decide); conv => whnf)
      | ((with_reducible refine br_nf ?_ ?_); (· first | assumption | decide); conv => whnf)
      | ((with_reducible refine ckI ?_ ?_); (· first | ((with_reducible refine vp_in_nI ?_ ?_); (· omega); (· decide)) | exact vp_c (by decide) | exact ⟨_, rfl⟩ | exact Or.inl rfl | exact Or.inr rfl | exact b2_01 _); conv => whnf)
      | ((with_reducible apply cl_p); (case hM => with_reducible exact k8_fail1 _ _); (case hc => exact rfl); (case hd => decide); conv => whnf)
      | ((with_reducible apply cl_p); (case hM => with_reducible exact k8_fail2 _ _); (case hc => exact rfl); (case hd => decide); conv => whnf)
      | ((with_reducible apply cl_p); (case hM => with_reducible exact k8_fail3 _ _); (case hc => exact rfl); (case hd => decide); conv => whnf)
      | ((with_reducible apply cl_p); (case hM => with_reducible exact k8_fail4 _ _); (case hc => exact rfl); (case hd => decide); conv => whnf)
      | ((with_reducible apply cl_p); (case hM => with_reducible exact k8_fail5 _ _); (case hc => exact rfl); (case hd => decide); conv => whnf)
      | ((with_reducible apply cl_p); (case hM => with_reducible exact k7_hasPlace _ _ _); (case hc => exact rfl); (case hd => decide); conv => whnf)
      | ((with_reducible apply cl_p); (case hM => with_reducible exact k8_isWithin _ _ _ _); (case hc => exact rfl); (case hd => decide); conv => whnf)
      | with_reducible refine Pc8.of ?_ ?_ ?_
      | ((with_reducible refine ckJ ?_ ?_); conv => whnf)
      | fail
    iterate 3 (focus (first | with_reducible rfl | exact hRR.er _ | (intro i hi; first | rfl | (simp (disch := omega) only [hi_wr]; done))))
    have h2 : 5 < k := by
      have h : ¬(1 ≤ k ∧ k ≤ 5) := by assumption
      simp only [Int32.le_iff_toInt_le, Int32.lt_iff_toInt_lt, Int32.reduceToInt] at *; omega
    have h3 : ¬ k ≤ 5 := by simp only [Int32.le_iff_toInt_le, Int32.lt_iff_toInt_lt, Int32.reduceToInt] at *; omega
    refine Mt_of ck_X8_told mf_117 rfl ?_
    have hRR := hR
    clear hW hN hRW hR
    repeat' first
      | ((with_reducible refine gow ck_X8_told _ [] ?_); conv => whnf)
      | ((with_reducible refine bn_t ?_ ?_); (· first | assumption | decide); conv => whnf)
      | ((with_reducible refine bn_f ?_ ?_); (· first | assumption | decide); conv => whnf)
      | ((with_reducible refine bc_t ?_ ?_); (· first | assumption | decide); conv => whnf)
      | ((with_reducible refine bc_f ?_ ?_); (· first | assumption | decide); conv => whnf)
      | ((with_reducible refine br_t ?_ ?_); (· first | assumption | decide); conv => whnf)
      | ((with_reducible refine br_f ?_ ?_); (· first | assumption | decide); conv => whnf)
      | ((with_reducible refine br_nt ?_ ?_); (· first | assumption | decide); conv => whnf)
      | ((with_reducible refine br_nf ?_ ?_); (· first | assumption | decide); conv => whnf)
      | ((with_reducible refine ckI ?_ ?_); (· first | ((with_reducible refine vp_in_nI ?_ ?_); (· omega); (· decide)) | exact vp_c (by decide) | exact ⟨_, rfl⟩ | exact Or.inl rfl | exact Or.inr rfl | exact b2_01 _); conv => whnf)
      | ((with_reducible apply cl_p); (case hM => with_reducible exact k8_fail1 _ _); (case hc => exact rfl); (case hd => decide); conv => whnf)
      | ((with_reducible apply cl_p); (case hM => with_reducible exact k8_fail2 _ _); (case hc => exact rfl); (case hd => decide); conv => whnf)
      | ((with_reducible apply cl_p); (case hM => with_reducible exact k8_fail3 _ _); (case hc => exact rfl); (case hd => decide); conv => whnf)
      | ((with_reducible apply cl_p); (case hM => with_reducible exact k8_fail4 _ _); (case hc => exact rfl); (case hd => decide); conv => whnf)
      | ((with_reducible apply cl_p); (case hM => with_reducible exact k8_fail5 _ _); (case hc => exact rfl); (case hd => decide); conv => whnf)
      | with_reducible refine Pc8.of ?_ ?_ ?_
      | ((with_reducible refine ckJ ?_ ?_); conv => whnf)
      | fail
    all_goals first | with_reducible rfl | exact hRR.er _ | (intro i hi; first | rfl | (simp (disch := omega) only [hi_wr]; done))
theorem k1_full_23 (X : Cx) (μ : Mem) (v : Int32) (h : μ 23 1 = 20) : Mt X m_X1_add 0 [.ref 23, .int v] μ (fun r μ' => r = some (.int 0) ∧ μ' = μ) := by
  have h1 : ¬ μ 23 1 < 20 := by rw [h]; decide
  have h2 : (20 : Int32) ≤ μ 23 1 := by rw [h]; decide
  have h3 : ¬ μ 23 1 < 0 := by rw [h]; decide
  have h4 : ¬ μ 23 1 < Int32.ofNat 20 := by rw [h]; decide
  have h5 : Int32.ofNat 20 ≤ μ 23 1 := by rw [h]; decide
  refine Mt_of ck_X1_add mf_11 rfl ?_
  repeat' first
    | ((with_reducible refine gow ck_X1_add _ [] ?_); conv => whnf)
    | ((with_reducible refine bn_t ?_ ?_); (· first | assumption | decide); conv => whnf)
    | ((with_reducible refine bn_f ?_ ?_); (· first | assumption | decide); conv => whnf)
    | ((with_reducible refine bc_t ?_ ?_); (· first | assumption | decide); conv => whnf)
    | ((with_reducible refine bc_f ?_ ?_); (· first | assumption | decide); conv => whnf)
    | ((with_reducible refine br_t ?_ ?_); (· first | assumption | decide); conv => whnf)
    | ((with_reducible refine br_f ?_ ?_); (· first | assumption | decide); conv => whnf)
    | ((with_reducible refine br_nt ?_ ?_); (· first | assumption | decide); conv => whnf)
    | ((with_reducible refine br_nf ?_ ?_); (· first | assumption | decide); conv => whnf)
    | ((with_reducible refine ckI ?_ ?_); (· first | ((with_reducible refine vp_in_nI ?_ ?_); (· omega); (· decide)) | exact vp_c (by decide) | exact ⟨_, rfl⟩ | exact Or.inl rfl | exact Or.inr rfl | exact b2_01 _); conv => whnf)
    | ((with_reducible refine ckJ ?_ ?_); conv => whnf)
    | fail
  all_goals exact ⟨rfl, rfl⟩
theorem k_tell (X : Cx) (S μ : Mem) (v : Int32) (hW : WFS S) (hR : RC S μ) : Mt X m_X8_tell 2 [.ref 0, .int v] μ (Pc8 S μ (sp_tell S v)) := by
  have hN : WN (S 1) := hW.1
  have hRW := hR.1
  unfold sp_tell
  (repeat' split)
  · have w1 : μ 23 1 = 20 := by rw [hRW.2.2.2.2.2.2.1.1]; assumption
    refine Mt_of ck_X8_tell mf_114 rfl ?_
    have hRR := hR
    clear hW hN hRW hR
    repeat' first
      | ((with_reducible refine gow ck_X8_tell _ [] ?_); conv => whnf)
      | ((with_reducible refine bn_t ?_ ?_); (· first | assumption | decide); conv => whnf)
      | ((with_reducible refine bn_f ?_ ?_); (· first | assumption | decide); conv => whnf)
      | ((with_reducible refine bc_t ?_ ?_); (· first | assumption | decide); conv => whnf)
      | ((with_reducible refine bc_f ?_ ?_); (· first | assumption | decide); conv => whnf)
      | ((with_reducible refine br_t ?_ ?_); (· first | assumption | decide); conv => whnf)
      | ((with_reducible refine br_f ?_ ?_); (· first | assumption | decide); conv => whnf)
      | ((with_reducible refine br_nt ?_ ?_); (· first | assumption | decide); conv => whnf)
      | ((with_reducible refine br_nf ?_ ?_); (· first | assumption | decide); conv => whnf)
      | ((with_reducible refine ckI ?_ ?_); (· first | ((with_reducible refine vp_in_nI ?_ ?_); (· omega); (· decide)) | exact vp_c (by decide) | exact ⟨_, rfl⟩ | exact Or.inl rfl | exact Or.inr rfl | exact b2_01 _); conv => whnf)
      | ((with_reducible apply cl_p); (case hM => with_reducible exact k8_fail1 _ _); (case hc => exact rfl); (case hd => decide); conv => whnf)
      | ((with_reducible apply cl_p); (case hM => with_reducible exact k8_fail2 _ _); (case hc => exact rfl); (case hd => decide); conv => whnf)
      | ((with_reducible apply cl_p); (case hM => with_reducible exact k8_fail3 _ _); (case hc => exact rfl); (case hd => decide); conv => whnf)
      | ((with_reducible apply cl_p); (case hM => with_reducible exact k8_fail4 _ _); (case hc => exact rfl); (case hd => decide); conv => whnf)
      | ((with_reducible apply cl_p); (case hM => with_reducible exact k8_fail5 _ _); (case hc => exact rfl); (case hd => decide); conv => whnf)
      | ((with_reducible apply cl_p); (case hM => exact k1_add_23 _ _ _ w1); (case hc => exact rfl); (case hd => decide); conv => whnf)
      | ((with_reducible apply cl_p); (case hM => exact k1_full_23 _ _ _ w1); (case hc => exact rfl); (case hd => decide); conv => whnf)
      | with_reducible refine Pc8.of ?_ ?_ ?_
      | ((with_reducible refine ckJ ?_ ?_); conv => whnf)
      | fail
    all_goals first | with_reducible rfl | exact hRR.er _ | (intro i hi; first | rfl | (simp (disch := omega) only [hi_wr]; done))
  · have w0 := hN.2.2.2.2.1
    have w4 := hN.2.2.2.1
    simp only [upto] at w4
    have w1 : 0 ≤ (μ 23 1).toInt ∧ (μ 23 1).toInt < 20 := by
      rw [hRW.2.2.2.2.2.2.1.1]
      have h : ¬ S 1 5 = 20 := by assumption
      simp only [← Int32.toInt_inj, Int32.reduceToInt] at h
      have := w0.1; have := w0.2
      omega
    refine Mt_of ck_X8_tell mf_114 rfl ?_
    have hRR := hR
    clear hW hN hRW hR
    repeat' first
      | ((with_reducible refine gow ck_X8_tell _ [] ?_); conv => whnf)
      | ((with_reducible refine bn_t ?_ ?_); (· first | assumption | decide); conv => whnf)
      | ((with_reducible refine bn_f ?_ ?_); (· first | assumption | decide); conv => whnf)
      | ((with_reducible refine bc_t ?_ ?_); (· first | assumption | decide); conv => whnf)
      | ((with_reducible refine bc_f ?_ ?_); (· first | assumption | decide); conv => whnf)
      | ((with_reducible refine br_t ?_ ?_); (· first | assumption | decide); conv => whnf)
      | ((with_reducible refine br_f ?_ ?_); (· first | assumption | decide); conv => whnf)
      | ((with_reducible refine br_nt ?_ ?_); (· first | assumption | decide); conv => whnf)
      | ((with_reducible refine br_nf ?_ ?_); (· first | assumption | decide); conv => whnf)
      | ((with_reducible refine ckI ?_ ?_); (· first | ((with_reducible refine vp_in_nI ?_ ?_); (· omega); (· decide)) | exact vp_c (by decide) | exact ⟨_, rfl⟩ | exact Or.inl rfl | exact Or.inr rfl | exact b2_01 _); conv => whnf)
      | ((with_reducible apply cl_p); (case hM => with_reducible exact k8_fail1 _ _); (case hc => exact rfl); (case hd => decide); conv => whnf)
      | ((with_reducible apply cl_p); (case hM => with_reducible exact k8_fail2 _ _); (case hc => exact rfl); (case hd => decide); conv => whnf)
      | ((with_reducible apply cl_p); (case hM => with_reducible exact k8_fail3 _ _); (case hc => exact rfl); (case hd => decide); conv => whnf)
      | ((with_reducible apply cl_p); (case hM => with_reducible exact k8_fail4 _ _); (case hc => exact rfl); (case hd => decide); conv => whnf)
      | ((with_reducible apply cl_p); (case hM => with_reducible exact k8_fail5 _ _); (case hc => exact rfl); (case hd => decide); conv => whnf)
      | ((with_reducible apply cl_p); (case hM => exact k1_add_23 _ _ _ w1); (case hc => exact rfl); (case hd => decide); conv => whnf)
      | ((with_reducible apply cl_p); (case hM => exact k1_full_23 _ _ _ w1); (case hc => exact rfl); (case hd => decide); conv => whnf)
      | with_reducible refine Pc8.of ?_ ?_ ?_
      | ((with_reducible refine ckJ ?_ ?_); conv => whnf)
      | fail
    · rw [wr_same]; rw [hRR.1.2.2.2.2.2.2.1.1]
    · have hq := hRR.1
      refine hRR.now (fun i hi => by simp (disch := omega) only [wr_ne]) (fun i hi => by simp (disch := omega) only [wr_ne]) ?_
      (try simp only [wr_at, tnc])
      have hz := hRR.1.2.2.2.2.2.2.1.1
      rw [show (1 + 22 : Nat) = 23 from rfl] at hz
      rw [hz] at w1 ⊢
      have w5 : (S 1 5 + 1).toInt = (S 1 5).toInt + 1 := t_add (by simp only [Int32.reduceToInt]; omega) (by simp only [Int32.reduceToInt]; omega)
      obtain ⟨⟨ra1, ra2, ra3, ra4⟩, rb, rc, rd, re, ⟨rf1, rf2⟩, ⟨rg1, rg2⟩, ⟨rh1, rh2⟩, ⟨ri1, ri2⟩⟩ := hq
      simp only [Nat.reduceAdd] at rb rc rd re rf1 rf2 rg1 rg2 rh1 rh2 ri1 ri2
      refine ⟨⟨?_, ?_, ?_, ?_⟩, fun j hj => ?_, fun j hj => ?_, fun j hj => ?_, fun t ht f hf => ?_, ⟨?_, fun j hj => ?_⟩, ⟨?_, fun j hj => ?_⟩, ⟨?_, fun j hj => ?_⟩, ⟨?_, fun j hj => ?_⟩⟩
      all_goals ((try simp (disch := omega) only [wr_at, wr_ne, upd_ne, upd_eq, Nat.reduceAdd] at hj); (try simp (disch := omega) only [wr_at, wr_ne, upd_ne, upd_eq, Nat.reduceAdd]))
      all_goals try simp only [upd, Nat.add_left_cancel_iff]
      all_goals ((repeat' split) <;> (try (exfalso; omega)))
      all_goals try first | rfl | with_reducible assumption | (with_reducible exact rb _ (by first | assumption | omega)) | (with_reducible exact rc _ (by first | assumption | omega)) | (with_reducible exact rd _ (by first | assumption | omega)) | (with_reducible exact re _ (by first | assumption | omega) _ (by first | assumption | omega)) | (with_reducible exact rf2 _ (by first | assumption | omega)) | (with_reducible exact rg2 _ (by first | assumption | omega)) | (with_reducible exact rh2 _ (by first | assumption | omega)) | (with_reducible exact ri2 _ (by first | assumption | omega))
    · intro i hi
      simp (disch := omega) only [hi_wr]
theorem ix_7 (a b : Nat) : nI a * 7 + nI b = nI (7 * a + b) := by
  rw [show (7 : Int32) = nI 7 from rfl, pk_mul, nI_add, Nat.mul_comm a 7]
theorem k8_isPair (X : Cx) (μ : Mem) (a b : Int32) : Mt X m_X8_isPair 1 [.ref 0, .int a, .int b] μ (fun r μ' => r = some (.int (b2 ((((0 ≤ a ∧ a < μ 1 8) ∧ a < 7) ∧ ((0 ≤ b ∧ b < μ 1 8) ∧ b < 7)) ∧ ¬ a = b))) ∧ μ' = μ) := by
  refine Mt_of ck_X8_isPair mf_120 rfl ?_
  repeat' first
    | ((with_reducible refine gow ck_X8_isPair _ [] ?_); conv => whnf)
    | ((with_reducible refine bn_t ?_ ?_); (· first | assumption | decide); conv => whnf)
    | ((with_reducible refine bn_f ?_ ?_); (· first | assumption | decide); conv => whnf)
    | ((with_reducible refine bc_t ?_ ?_); (· first | assumption | decide); conv => whnf)
    | ((with_reducible refine bc_f ?_ ?_); (· first | assumption | decide); conv => whnf)
    | ((with_reducible refine br_t ?_ ?_); (· first | assumption | decide); conv => whnf)
    | ((with_reducible refine br_f ?_ ?_); (· first | assumption | decide); conv => whnf)
    | ((with_reducible refine br_nt ?_ ?_); (· first | assumption | decide); conv => whnf)
    | ((with_reducible refine br_nf ?_ ?_); (· first | assumption | decide); conv => whnf)
    | ((with_reducible refine bn_c (fun _ => ?_) (fun _ => ?_)) <;> conv => whnf)
    | ((with_reducible refine bc_c (fun _ => ?_) (fun _ => ?_)) <;> conv => whnf)
    | ((with_reducible refine br_c (fun _ => ?_) (fun _ => ?_)) <;> conv => whnf)
    | ((with_reducible refine br_n (fun _ => ?_) (fun _ => ?_)) <;> conv => whnf)
    | ((with_reducible refine ckI ?_ ?_); (· first | ((with_reducible refine vp_in_nI ?_ ?_); (· omega); (· decide)) | exact vp_c (by decide) | exact ⟨_, rfl⟩ | exact Or.inl rfl | exact Or.inr rfl | exact b2_01 _); conv => whnf)
    | ((with_reducible apply cl_p); (case hM => with_reducible exact k7_hasPlace _ _ _); (case hc => exact rfl); (case hd => decide); conv => whnf)
    | ((with_reducible refine ckJ ?_ ?_); conv => whnf)
    | fail
  all_goals (refine mk_int ?_; (try dsimp only [ev, ew, e1]); simp only [b2]; split <;> rename_i q <;> first | rfl | exact absurd q.1.1 (by assumption) | exact absurd q.1.2 (by assumption) | exact absurd (by assumption) q.2 | exact absurd ⟨⟨by assumption, by assumption⟩, by assumption⟩ q)
theorem k7_ofRoad (X : Cx) (μ : Mem) (a b : Nat) (w : Int32) (ha : a < 7) (hb : b < 7) (ka : ((0 ≤ nI a ∧ nI a < μ 1 8) ∧ nI a < 7)) (kb : ((0 ≤ nI b ∧ nI b < μ 1 8) ∧ nI b < 7)) : Mt X m_X7_ofRoad 1 [.ref 1, .int (nI a), .int (nI b), .int w] μ (fun r μ' => r = some (.int (if w = 0 then μ 3 (7 * a + b) else μ 4 (7 * a + b))) ∧ μ' = μ) := by
  refine Mt_of ck_X7_ofRoad mf_56 rfl ?_
  repeat' first
    | ((with_reducible refine gow ck_X7_ofRoad _ [] ?_); conv => whnf)
    | ((with_reducible refine bn_t ?_ ?_); (· first | assumption | decide); conv => whnf)
    | ((with_reducible refine bn_f ?_ ?_); (· first | assumption | decide); conv => whnf)
    | ((with_reducible refine bc_t ?_ ?_); (· first | assumption | decide); conv => whnf)
    | ((with_reducible refine bc_f ?_ ?_); (· first | assumption | decide); conv => whnf)
    | ((with_reducible refine br_t ?_ ?_); (· first | assumption | decide); conv => whnf)
    | ((with_reducible refine br_f ?_ ?_); (· first | assumption | decide); conv => whnf)
    | ((with_reducible refine br_nt ?_ ?_); (· first | assumption | decide); conv => whnf)
    | ((with_reducible refine br_nf ?_ ?_); (· first | assumption | decide); conv => whnf)
    | ((with_reducible refine bn_c (fun _ => ?_) (fun _ => ?_)) <;> conv => whnf)
    | ((with_reducible refine bc_c (fun _ => ?_) (fun _ => ?_)) <;> conv => whnf)
    | ((with_reducible refine br_c (fun _ => ?_) (fun _ => ?_)) <;> conv => whnf)
    | ((with_reducible refine br_n (fun _ => ?_) (fun _ => ?_)) <;> conv => whnf)
    | ((with_reducible refine ckI ?_ ?_); (· first | ((with_reducible refine vp_in_nI ?_ ?_); (· omega); (· decide)) | exact vp_c (by decide) | exact ⟨_, rfl⟩ | exact Or.inl rfl | exact Or.inr rfl | exact b2_01 _); conv => whnf)
    | ((with_reducible apply cl_p); (case hM => with_reducible exact k7_hasPlace _ _ _); (case hc => exact rfl); (case hd => decide); conv => whnf)
    | ((with_reducible refine ckJ ?_ ?_); conv => whnf)
    | fail
  all_goals first
    | (refine mk_int ?_; (try dsimp only [ev, ew, e1]); rw [ix_7, nI_clamp (by omega)]; simp_all)
    | ((try dsimp only [ev, ew, e1]); rw [ix_7]; refine vp_in_nI ?_ ?_ <;> omega)
    | (refine ⟨rfl, ?_⟩; (try dsimp only [ev, ew, e1]); rw [ix_7, ix_7, nI_clamp (by omega), nI_clamp (by omega)])
theorem k7_setRoad0 (X : Cx) (μ : Mem) (a b : Nat) (v : Int32) (ha : a < 7) (hb : b < 7) (ka : ((0 ≤ nI a ∧ nI a < μ 1 8) ∧ nI a < 7)) (kb : ((0 ≤ nI b ∧ nI b < μ 1 8) ∧ nI b < 7)) : Mt X m_X7_setRoad 1 [.ref 1, .int (nI a), .int (nI b), .int 0, .int v] μ (fun r μ' => r = none ∧ μ' = wr (wr μ 3 (7 * a + b) v) 3 (7 * b + a) v) := by
  refine Mt_of ck_X7_setRoad mf_58 rfl ?_
  repeat' first
    | ((with_reducible refine gow ck_X7_setRoad _ [] ?_); conv => whnf)
    | ((with_reducible refine bn_t ?_ ?_); (· first | assumption | decide); conv => whnf)
    | ((with_reducible refine bn_f ?_ ?_); (· first | assumption | decide); conv => whnf)
    | ((with_reducible refine bc_t ?_ ?_); (· first | assumption | decide); conv => whnf)
    | ((with_reducible refine bc_f ?_ ?_); (· first | assumption | decide); conv => whnf)
    | ((with_reducible refine br_t ?_ ?_); (· first | assumption | decide); conv => whnf)
    | ((with_reducible refine br_f ?_ ?_); (· first | assumption | decide); conv => whnf)
    | ((with_reducible refine br_nt ?_ ?_); (· first | assumption | decide); conv => whnf)
    | ((with_reducible refine br_nf ?_ ?_); (· first | assumption | decide); conv => whnf)
    | ((with_reducible refine bn_c (fun _ => ?_) (fun _ => ?_)) <;> conv => whnf)
    | ((with_reducible refine bc_c (fun _ => ?_) (fun _ => ?_)) <;> conv => whnf)
    | ((with_reducible refine br_c (fun _ => ?_) (fun _ => ?_)) <;> conv => whnf)
    | ((with_reducible refine br_n (fun _ => ?_) (fun _ => ?_)) <;> conv => whnf)
    | ((with_reducible refine ckI ?_ ?_); (· first | ((with_reducible refine vp_in_nI ?_ ?_); (· omega); (· decide)) | exact vp_c (by decide) | exact ⟨_, rfl⟩ | exact Or.inl rfl | exact Or.inr rfl | exact b2_01 _); conv => whnf)
    | ((with_reducible apply cl_p); (case hM => with_reducible exact k7_hasPlace _ _ _); (case hc => exact rfl); (case hd => decide); conv => whnf)
    | ((with_reducible refine ckJ ?_ ?_); conv => whnf)
    | fail
  all_goals first
    | (refine mk_int ?_; (try dsimp only [ev, ew, e1]); rw [ix_7, nI_clamp (by omega)]; simp_all)
    | ((try dsimp only [ev, ew, e1]); rw [ix_7]; refine vp_in_nI ?_ ?_ <;> omega)
    | (refine ⟨rfl, ?_⟩; (try dsimp only [ev, ew, e1]); rw [ix_7, ix_7, nI_clamp (by omega), nI_clamp (by omega)])
theorem k7_setRoad1 (X : Cx) (μ : Mem) (a b : Nat) (v : Int32) (w : Int32) (hw : ¬ w = 0) (ha : a < 7) (hb : b < 7) (ka : ((0 ≤ nI a ∧ nI a < μ 1 8) ∧ nI a < 7)) (kb : ((0 ≤ nI b ∧ nI b < μ 1 8) ∧ nI b < 7)) : Mt X m_X7_setRoad 1 [.ref 1, .int (nI a), .int (nI b), .int w, .int v] μ (fun r μ' => r = none ∧ μ' = wr (wr μ 4 (7 * a + b) v) 4 (7 * b + a) v) := by
  refine Mt_of ck_X7_setRoad mf_58 rfl ?_
  repeat' first
    | ((with_reducible refine gow ck_X7_setRoad _ [] ?_); conv => whnf)
    | ((with_reducible refine bn_t ?_ ?_); (· first | assumption | decide); conv => whnf)
    | ((with_reducible refine bn_f ?_ ?_); (· first | assumption | decide); conv => whnf)
    | ((with_reducible refine bc_t ?_ ?_); (· first | assumption | decide); conv => whnf)
    | ((with_reducible refine bc_f ?_ ?_); (· first | assumption | decide); conv => whnf)
    | ((with_reducible refine br_t ?_ ?_); (· first | assumption | decide); conv => whnf)
    | ((with_reducible refine br_f ?_ ?_); (· first | assumption | decide); conv => whnf)
    | ((with_reducible refine br_nt ?_ ?_); (· first | assumption | decide); conv => whnf)
    | ((with_reducible refine br_nf ?_ ?_); (· first | assumption | decide); conv => whnf)
    | ((with_reducible refine bn_c (fun _ => ?_) (fun _ => ?_)) <;> conv => whnf)
    | ((with_reducible refine bc_c (fun _ => ?_) (fun _ => ?_)) <;> conv => whnf)
    | ((with_reducible refine br_c (fun _ => ?_) (fun _ => ?_)) <;> conv => whnf)
    | ((with_reducible refine br_n (fun _ => ?_) (fun _ => ?_)) <;> conv => whnf)
    | ((with_reducible refine ckI ?_ ?_); (· first | ((with_reducible refine vp_in_nI ?_ ?_); (· omega); (· decide)) | exact vp_c (by decide) | exact ⟨_, rfl⟩ | exact Or.inl rfl | exact Or.inr rfl | exact b2_01 _); conv => whnf)
    | ((with_reducible apply cl_p); (case hM => with_reducible exact k7_hasPlace _ _ _); (case hc => exact rfl); (case hd => decide); conv => whnf)
    | ((with_reducible refine ckJ ?_ ?_); conv => whnf)
    | fail
  all_goals first
    | (refine mk_int ?_; (try dsimp only [ev, ew, e1]); rw [ix_7, nI_clamp (by omega)]; simp_all)
    | ((try dsimp only [ev, ew, e1]); rw [ix_7]; refine vp_in_nI ?_ ?_ <;> omega)
    | (refine ⟨rfl, ?_⟩; (try dsimp only [ev, ew, e1]); rw [ix_7, ix_7, nI_clamp (by omega), nI_clamp (by omega)])
theorem k_between (X : Cx) (S μ : Mem) (a b w : Int32) (hW : WFS S) (hR : RC S μ) : Mt X m_X8_between 2 [.ref 0, .int a, .int b, .int w] μ (Pc8 S μ (sp_between S a b w)) := by
  have hN : WN (S 1) := hW.1
  have hRW := hR.1
  unfold sp_between
  (repeat' split)
  · have h : two (S 1) a b := by assumption
    obtain ⟨x, hx, rfl, _⟩ := in_P hN h.1.1
    obtain ⟨y, hy, rfl, _⟩ := in_P hN h.1.2
    have pa := (isP_k hN hRW.1.1).mpr h.1.1
    have pb := (isP_k hN hRW.1.1).mpr h.1.2
    have pab : ((((0 ≤ nI x ∧ nI x < μ 1 8) ∧ nI x < 7) ∧ ((0 ≤ nI y ∧ nI y < μ 1 8) ∧ nI y < 7)) ∧ ¬ nI x = nI y) := ⟨⟨pa, pb⟩, h.2⟩
    refine Mt_of ck_X8_between mf_83 rfl ?_
    have hRR := hR
    clear hW hN hRW hR
    repeat' first
      | ((with_reducible refine gow ck_X8_between _ [] ?_); conv => whnf)
      | ((with_reducible refine bn_t ?_ ?_); (· first | assumption | decide); conv => whnf)
      | ((with_reducible refine bn_f ?_ ?_); (· first | assumption | decide); conv => whnf)
      | ((with_reducible refine bc_t ?_ ?_); (· first | assumption | decide); conv => whnf)
      | ((with_reducible refine bc_f ?_ ?_); (· first | assumption | decide); conv => whnf)
      | ((with_reducible refine br_t ?_ ?_); (· first | assumption | decide); conv => whnf)
      | ((with_reducible refine br_f ?_ ?_); (· first | assumption | decide); conv => whnf)
      | ((with_reducible refine br_nt ?_ ?_); (· first | assumption | decide); conv => whnf)
      | ((with_reducible refine br_nf ?_ ?_); (· first | assumption | decide); conv => whnf)
      | ((with_reducible refine ckI ?_ ?_); (· first | ((with_reducible refine vp_in_nI ?_ ?_); (· omega); (· decide)) | exact vp_c (by decide) | exact ⟨_, rfl⟩ | exact Or.inl rfl | exact Or.inr rfl | exact b2_01 _); conv => whnf)
      | ((with_reducible apply cl_p); (case hM => with_reducible exact k8_fail1 _ _); (case hc => exact rfl); (case hd => decide); conv => whnf)
      | ((with_reducible apply cl_p); (case hM => with_reducible exact k8_fail2 _ _); (case hc => exact rfl); (case hd => decide); conv => whnf)
      | ((with_reducible apply cl_p); (case hM => with_reducible exact k8_fail3 _ _); (case hc => exact rfl); (case hd => decide); conv => whnf)
      | ((with_reducible apply cl_p); (case hM => with_reducible exact k8_fail4 _ _); (case hc => exact rfl); (case hd => decide); conv => whnf)
      | ((with_reducible apply cl_p); (case hM => with_reducible exact k8_fail5 _ _); (case hc => exact rfl); (case hd => decide); conv => whnf)
      | ((with_reducible apply cl_p); (case hM => with_reducible exact k8_isPair _ _ _ _); (case hc => exact rfl); (case hd => decide); conv => whnf)
      | ((with_reducible apply cl_p); (case hM => with_reducible exact k8_isWithin _ _ _ _); (case hc => exact rfl); (case hd => decide); conv => whnf)
      | ((with_reducible apply cl_p); (case hM => exact k7_ofRoad _ _ x y _ hx hy pa pb); (case hc => exact rfl); (case hd => decide); conv => whnf)
      | with_reducible refine Pc8.of ?_ ?_ ?_
      | ((with_reducible refine ckJ ?_ ?_); conv => whnf)
      | fail
    · first | rw [if_pos rfl] | rw [if_pos (by assumption)] | rw [if_neg (by assumption)]
      simp (disch := omega) only [nI_toInt, Int.toNat_natCast, yd, tl, Nat.add_assoc]
      first | exact hRR.1.2.2.1 _ (by omega) | exact hRR.1.2.2.2.1 _ (by omega)
    · exact hRR
    · intro i hi; rfl
  · have h : two (S 1) a b := by assumption
    obtain ⟨x, hx, rfl, _⟩ := in_P hN h.1.1
    obtain ⟨y, hy, rfl, _⟩ := in_P hN h.1.2
    have pa := (isP_k hN hRW.1.1).mpr h.1.1
    have pb := (isP_k hN hRW.1.1).mpr h.1.2
    have pab : ((((0 ≤ nI x ∧ nI x < μ 1 8) ∧ nI x < 7) ∧ ((0 ≤ nI y ∧ nI y < μ 1 8) ∧ nI y < 7)) ∧ ¬ nI x = nI y) := ⟨⟨pa, pb⟩, h.2⟩
    refine Mt_of ck_X8_between mf_83 rfl ?_
    have hRR := hR
    clear hW hN hRW hR
    repeat' first
      | ((with_reducible refine gow ck_X8_between _ [] ?_); conv => whnf)
      | ((with_reducible refine bn_t ?_ ?_); (· first | assumption | decide); conv => whnf)
      | ((with_reducible refine bn_f ?_ ?_); (· first | assumption | decide); conv => whnf)
      | ((with_reducible refine bc_t ?_ ?_); (· first | assumption | decide); conv => whnf)
      | ((with_reducible refine bc_f ?_ ?_); (· first | assumption | decide); conv => whnf)
      | ((with_reducible refine br_t ?_ ?_); (· first | assumption | decide); conv => whnf)
      | ((with_reducible refine br_f ?_ ?_); (· first | assumption | decide); conv => whnf)
      | ((with_reducible refine br_nt ?_ ?_); (· first | assumption | decide); conv => whnf)
      | ((with_reducible refine br_nf ?_ ?_); (· first | assumption | decide); conv => whnf)
      | ((with_reducible refine ckI ?_ ?_); (· first | ((with_reducible refine vp_in_nI ?_ ?_); (· omega); (· decide)) | exact vp_c (by decide) | exact ⟨_, rfl⟩ | exact Or.inl rfl | exact Or.inr rfl | exact b2_01 _); conv => whnf)
      | ((with_reducible apply cl_p); (case hM => with_reducible exact k8_fail1 _ _); (case hc => exact rfl); (case hd => decide); conv => whnf)
      | ((with_reducible apply cl_p); (case hM => with_reducible exact k8_fail2 _ _); (case hc => exact rfl); (case hd => decide); conv => whnf)
      | ((with_reducible apply cl_p); (case hM => with_reducible exact k8_fail3 _ _); (case hc => exact rfl); (case hd => decide); conv => whnf)
      | ((with_reducible apply cl_p); (case hM => with_reducible exact k8_fail4 _ _); (case hc => exact rfl); (case hd => decide); conv => whnf)
      | ((with_reducible apply cl_p); (case hM => with_reducible exact k8_fail5 _ _); (case hc => exact rfl); (case hd => decide); conv => whnf)
      | ((with_reducible apply cl_p); (case hM => with_reducible exact k8_isPair _ _ _ _); (case hc => exact rfl); (case hd => decide); conv => whnf)
      | ((with_reducible apply cl_p); (case hM => with_reducible exact k8_isWithin _ _ _ _); (case hc => exact rfl); (case hd => decide); conv => whnf)
      | ((with_reducible apply cl_p); (case hM => exact k7_ofRoad _ _ x y _ hx hy pa pb); (case hc => exact rfl); (case hd => decide); conv => whnf)
      | with_reducible refine Pc8.of ?_ ?_ ?_
      | ((with_reducible refine ckJ ?_ ?_); conv => whnf)
      | fail
    · first | rw [if_pos rfl] | rw [if_pos (by assumption)] | rw [if_neg (by assumption)]
      simp (disch := omega) only [nI_toInt, Int.toNat_natCast, yd, tl, Nat.add_assoc]
      first | exact hRR.1.2.2.1 _ (by omega) | exact hRR.1.2.2.2.1 _ (by omega)
    · exact hRR
    · intro i hi; rfl
  · have h : two (S 1) a b := by assumption
    obtain ⟨x, hx, rfl, _⟩ := in_P hN h.1.1
    obtain ⟨y, hy, rfl, _⟩ := in_P hN h.1.2
    have pa := (isP_k hN hRW.1.1).mpr h.1.1
    have pb := (isP_k hN hRW.1.1).mpr h.1.2
    have pab : ((((0 ≤ nI x ∧ nI x < μ 1 8) ∧ nI x < 7) ∧ ((0 ≤ nI y ∧ nI y < μ 1 8) ∧ nI y < 7)) ∧ ¬ nI x = nI y) := ⟨⟨pa, pb⟩, h.2⟩
    refine Mt_of ck_X8_between mf_83 rfl ?_
    have hRR := hR
    clear hW hN hRW hR
    repeat' first
      | ((with_reducible refine gow ck_X8_between _ [] ?_); conv => whnf)
      | ((with_reducible refine bn_t ?_ ?_); (· first | assumption | decide); conv => whnf)
      | ((with_reducible refine bn_f ?_ ?_); (· first | assumption | decide); conv => whnf)
      | ((with_reducible refine bc_t ?_ ?_); (· first | assumption | decide); conv => whnf)
      | ((with_reducible refine bc_f ?_ ?_); (· first | assumption | decide); conv => whnf)
      | ((with_reducible refine br_t ?_ ?_); (· first | assumption | decide); conv => whnf)
      | ((with_reducible refine br_f ?_ ?_); (· first | assumption | decide); conv => whnf)
      | ((with_reducible refine br_nt ?_ ?_); (· first | assumption | decide); conv => whnf)
      | ((with_reducible refine br_nf ?_ ?_); (· first | assumption | decide); conv => whnf)
      | ((with_reducible refine ckI ?_ ?_); (· first | ((with_reducible refine vp_in_nI ?_ ?_); (· omega); (· decide)) | exact vp_c (by decide) | exact ⟨_, rfl⟩ | exact Or.inl rfl | exact Or.inr rfl | exact b2_01 _); conv => whnf)
      | ((with_reducible apply cl_p); (case hM => with_reducible exact k8_fail1 _ _); (case hc => exact rfl); (case hd => decide); conv => whnf)
      | ((with_reducible apply cl_p); (case hM => with_reducible exact k8_fail2 _ _); (case hc => exact rfl); (case hd => decide); conv => whnf)
      | ((with_reducible apply cl_p); (case hM => with_reducible exact k8_fail3 _ _); (case hc => exact rfl); (case hd => decide); conv => whnf)
      | ((with_reducible apply cl_p); (case hM => with_reducible exact k8_fail4 _ _); (case hc => exact rfl); (case hd => decide); conv => whnf)
      | ((with_reducible apply cl_p); (case hM => with_reducible exact k8_fail5 _ _); (case hc => exact rfl); (case hd => decide); conv => whnf)
      | ((with_reducible apply cl_p); (case hM => with_reducible exact k8_isPair _ _ _ _); (case hc => exact rfl); (case hd => decide); conv => whnf)
      | ((with_reducible apply cl_p); (case hM => with_reducible exact k8_isWithin _ _ _ _); (case hc => exact rfl); (case hd => decide); conv => whnf)
      | ((with_reducible apply cl_p); (case hM => exact k7_ofRoad _ _ x y _ hx hy pa pb); (case hc => exact rfl); (case hd => decide); conv => whnf)
      | with_reducible refine Pc8.of ?_ ?_ ?_
      | ((with_reducible refine ckJ ?_ ?_); conv => whnf)
      | fail
    all_goals first | with_reducible rfl | exact hRR.er _ | (intro i hi; first | rfl | (simp (disch := omega) only [hi_wr]; done))
  · have h : ¬ two (S 1) a b := by assumption
    have pab : ¬ ((((0 ≤ a ∧ a < μ 1 8) ∧ a < 7) ∧ ((0 ≤ b ∧ b < μ 1 8) ∧ b < 7)) ∧ ¬ a = b) := by rw [isP_k hN hRW.1.1, isP_k hN hRW.1.1]; exact h
    refine Mt_of ck_X8_between mf_83 rfl ?_
    have hRR := hR
    clear hW hN hRW hR
    repeat' first
      | ((with_reducible refine gow ck_X8_between _ [] ?_); conv => whnf)
      | ((with_reducible refine bn_t ?_ ?_); (· first | assumption | decide); conv => whnf)
      | ((with_reducible refine bn_f ?_ ?_); (· first | assumption | decide); conv => whnf)
      | ((with_reducible refine bc_t ?_ ?_); (· first | assumption | decide); conv => whnf)
      | ((with_reducible refine bc_f ?_ ?_); (· first | assumption | decide); conv => whnf)
      | ((with_reducible refine br_t ?_ ?_); (· first | assumption | decide); conv => whnf)
      | ((with_reducible refine br_f ?_ ?_); (· first | assumption | decide); conv => whnf)
      | ((with_reducible refine br_nt ?_ ?_); (· first | assumption | decide); conv => whnf)
      | ((with_reducible refine br_nf ?_ ?_); (· first | assumption | decide); conv => whnf)
      | ((with_reducible refine ckI ?_ ?_); (· first | ((with_reducible refine vp_in_nI ?_ ?_); (· omega); (· decide)) | exact vp_c (by decide) | exact ⟨_, rfl⟩ | exact Or.inl rfl | exact Or.inr rfl | exact b2_01 _); conv => whnf)
      | ((with_reducible apply cl_p); (case hM => with_reducible exact k8_fail1 _ _); (case hc => exact rfl); (case hd => decide); conv => whnf)
      | ((with_reducible apply cl_p); (case hM => with_reducible exact k8_fail2 _ _); (case hc => exact rfl); (case hd => decide); conv => whnf)
      | ((with_reducible apply cl_p); (case hM => with_reducible exact k8_fail3 _ _); (case hc => exact rfl); (case hd => decide); conv => whnf)
      | ((with_reducible apply cl_p); (case hM => with_reducible exact k8_fail4 _ _); (case hc => exact rfl); (case hd => decide); conv => whnf)
      | ((with_reducible apply cl_p); (case hM => with_reducible exact k8_fail5 _ _); (case hc => exact rfl); (case hd => decide); conv => whnf)
      | ((with_reducible apply cl_p); (case hM => with_reducible exact k8_isPair _ _ _ _); (case hc => exact rfl); (case hd => decide); conv => whnf)
      | ((with_reducible apply cl_p); (case hM => with_reducible exact k8_isWithin _ _ _ _); (case hc => exact rfl); (case hd => decide); conv => whnf)
      | ((with_reducible apply cl_p); (case hM => exact k7_ofRoad _ _ x y _ hx hy pa pb); (case hc => exact rfl); (case hd => decide); conv => whnf)
      | with_reducible refine Pc8.of ?_ ?_ ?_
      | ((with_reducible refine ckJ ?_ ?_); conv => whnf)
      | fail
    all_goals first | with_reducible rfl | exact hRR.er _ | (intro i hi; first | rfl | (simp (disch := omega) only [hi_wr]; done))
theorem k_road (X : Cx) (S μ : Mem) (a b w v : Int32) (hW : WFS S) (hR : RC S μ) : Mt X m_X8_road 2 [.ref 0, .int a, .int b, .int w, .int v] μ (Pc8 S μ (sp_road S a b w v)) := by
  have hN : WN (S 1) := hW.1
  have hRW := hR.1
  unfold sp_road
  (repeat' split)
  · have h : two (S 1) a b := by assumption
    obtain ⟨x, hx, rfl, _⟩ := in_P hN h.1.1
    obtain ⟨y, hy, rfl, _⟩ := in_P hN h.1.2
    have pa := (isP_k hN hRW.1.1).mpr h.1.1
    have pb := (isP_k hN hRW.1.1).mpr h.1.2
    have pab : ((((0 ≤ nI x ∧ nI x < μ 1 8) ∧ nI x < 7) ∧ ((0 ≤ nI y ∧ nI y < μ 1 8) ∧ nI y < 7)) ∧ ¬ nI x = nI y) := ⟨⟨pa, pb⟩, h.2⟩
    subst w
    refine Mt_of ck_X8_road mf_82 rfl ?_
    have hRR := hR
    clear hW hN hRW hR
    repeat' first
      | ((with_reducible refine gow ck_X8_road _ [] ?_); conv => whnf)
      | ((with_reducible refine bn_t ?_ ?_); (· first | assumption | decide); conv => whnf)
      | ((with_reducible refine bn_f ?_ ?_); (· first | assumption | decide); conv => whnf)
      | ((with_reducible refine bc_t ?_ ?_); (· first | assumption | decide); conv => whnf)
      | ((with_reducible refine bc_f ?_ ?_); (· first | assumption | decide); conv => whnf)
      | ((with_reducible refine br_t ?_ ?_); (· first | assumption | decide); conv => whnf)
      | ((with_reducible refine br_f ?_ ?_); (· first | assumption | decide); conv => whnf)
      | ((with_reducible refine br_nt ?_ ?_); (· first | assumption | decide); conv => whnf)
      | ((with_reducible refine br_nf ?_ ?_); (· first | assumption | decide); conv => whnf)
      | ((with_reducible refine ckI ?_ ?_); (· first | ((with_reducible refine vp_in_nI ?_ ?_); (· omega); (· decide)) | exact vp_c (by decide) | exact ⟨_, rfl⟩ | exact Or.inl rfl | exact Or.inr rfl | exact b2_01 _); conv => whnf)
      | ((with_reducible apply cl_p); (case hM => with_reducible exact k8_fail1 _ _); (case hc => exact rfl); (case hd => decide); conv => whnf)
      | ((with_reducible apply cl_p); (case hM => with_reducible exact k8_fail2 _ _); (case hc => exact rfl); (case hd => decide); conv => whnf)
      | ((with_reducible apply cl_p); (case hM => with_reducible exact k8_fail3 _ _); (case hc => exact rfl); (case hd => decide); conv => whnf)
      | ((with_reducible apply cl_p); (case hM => with_reducible exact k8_fail4 _ _); (case hc => exact rfl); (case hd => decide); conv => whnf)
      | ((with_reducible apply cl_p); (case hM => with_reducible exact k8_fail5 _ _); (case hc => exact rfl); (case hd => decide); conv => whnf)
      | ((with_reducible apply cl_p); (case hM => with_reducible exact k8_isPair _ _ _ _); (case hc => exact rfl); (case hd => decide); conv => whnf)
      | ((with_reducible apply cl_p); (case hM => with_reducible exact k8_isWithin _ _ _ _); (case hc => exact rfl); (case hd => decide); conv => whnf)
      | ((with_reducible apply cl_p); (case hM => exact k7_ofRoad _ _ x y _ hx hy pa pb); (case hc => exact rfl); (case hd => decide); conv => whnf)
      | ((with_reducible apply cl_v); (case hM => exact k7_setRoad0 _ _ x y _ hx hy pa pb); (case hc => exact rfl); (case hd => decide); conv => whnf)
      | ((with_reducible apply cl_v); (case hM => exact k7_setRoad1 _ _ x y _ _ (by assumption) hx hy pa pb); (case hc => exact rfl); (case hd => decide); conv => whnf)
      | with_reducible refine Pc8.of ?_ ?_ ?_
      | ((with_reducible refine ckJ ?_ ?_); conv => whnf)
      | fail
    · first | rw [if_pos rfl] | rw [if_pos (by assumption)] | rw [if_neg (by assumption)]
      simp (disch := omega) only [nI_toInt, Int.toNat_natCast, yd, tl, Nat.add_assoc]
      first | exact hRR.1.2.2.1 _ (by omega) | exact hRR.1.2.2.2.1 _ (by omega)
    · have hq := hRR.1
      refine hRR.now (fun i hi => by simp (disch := omega) only [wr_ne]) (fun i hi => by simp (disch := omega) only [wr_ne]) ?_
      (try simp only [wr_at, tnc])
      simp (disch := omega) only [nI_toInt, Int.toNat_natCast]
      obtain ⟨⟨ra1, ra2, ra3, ra4⟩, rb, rc, rd, re, ⟨rf1, rf2⟩, ⟨rg1, rg2⟩, ⟨rh1, rh2⟩, ⟨ri1, ri2⟩⟩ := hq
      simp only [Nat.reduceAdd] at rb rc rd re rf1 rf2 rg1 rg2 rh1 rh2 ri1 ri2
      refine ⟨⟨?_, ?_, ?_, ?_⟩, fun j hj => ?_, fun j hj => ?_, fun j hj => ?_, fun t ht f hf => ?_, ⟨?_, fun j hj => ?_⟩, ⟨?_, fun j hj => ?_⟩, ⟨?_, fun j hj => ?_⟩, ⟨?_, fun j hj => ?_⟩⟩
      all_goals ((try simp (disch := omega) only [wr_at, wr_ne, upd_ne, upd_eq, Nat.reduceAdd] at hj); (try simp (disch := omega) only [wr_at, wr_ne, upd_ne, upd_eq, Nat.reduceAdd]))
      all_goals try simp only [upd, Nat.add_left_cancel_iff]
      all_goals ((repeat' split) <;> (try (exfalso; omega)))
      all_goals try first | rfl | with_reducible assumption | (with_reducible exact rb _ (by first | assumption | omega)) | (with_reducible exact rc _ (by first | assumption | omega)) | (with_reducible exact rd _ (by first | assumption | omega)) | (with_reducible exact re _ (by first | assumption | omega) _ (by first | assumption | omega)) | (with_reducible exact rf2 _ (by first | assumption | omega)) | (with_reducible exact rg2 _ (by first | assumption | omega)) | (with_reducible exact rh2 _ (by first | assumption | omega)) | (with_reducible exact ri2 _ (by first | assumption | omega))
    · intro i hi
      simp (disch := omega) only [hi_wr]
  · have h : two (S 1) a b := by assumption
    obtain ⟨x, hx, rfl, _⟩ := in_P hN h.1.1
    obtain ⟨y, hy, rfl, _⟩ := in_P hN h.1.2
    have pa := (isP_k hN hRW.1.1).mpr h.1.1
    have pb := (isP_k hN hRW.1.1).mpr h.1.2
    have pab : ((((0 ≤ nI x ∧ nI x < μ 1 8) ∧ nI x < 7) ∧ ((0 ≤ nI y ∧ nI y < μ 1 8) ∧ nI y < 7)) ∧ ¬ nI x = nI y) := ⟨⟨pa, pb⟩, h.2⟩
    subst w
    refine Mt_of ck_X8_road mf_82 rfl ?_
    have hRR := hR
    clear hW hN hRW hR
    repeat' first
      | ((with_reducible refine gow ck_X8_road _ [] ?_); conv => whnf)
      | ((with_reducible refine bn_t ?_ ?_); (· first | assumption | decide); conv => whnf)
      | ((with_reducible refine bn_f ?_ ?_); (· first | assumption | decide); conv => whnf)
      | ((with_reducible refine bc_t ?_ ?_); (· first | assumption | decide); conv => whnf)
      | ((with_reducible refine bc_f ?_ ?_); (· first | assumption | decide); conv => whnf)
      | ((with_reducible refine br_t ?_ ?_); (· first | assumption | decide); conv => whnf)
      | ((with_reducible refine br_f ?_ ?_); (· first | assumption | decide); conv => whnf)
      | ((with_reducible refine br_nt ?_ ?_); (· first | assumption | decide); conv => whnf)
      | ((with_reducible refine br_nf ?_ ?_); (· first | assumption | decide); conv => whnf)
      | ((with_reducible refine ckI ?_ ?_); (· first | ((with_reducible refine vp_in_nI ?_ ?_); (· omega); (· decide)) | exact vp_c (by decide) | exact ⟨_, rfl⟩ | exact Or.inl rfl | exact Or.inr rfl | exact b2_01 _); conv => whnf)
      | ((with_reducible apply cl_p); (case hM => with_reducible exact k8_fail1 _ _); (case hc => exact rfl); (case hd => decide); conv => whnf)
      | ((with_reducible apply cl_p); (case hM => with_reducible exact k8_fail2 _ _); (case hc => exact rfl); (case hd => decide); conv => whnf)
      | ((with_reducible apply cl_p); (case hM => with_reducible exact k8_fail3 _ _); (case hc => exact rfl); (case hd => decide); conv => whnf)
      | ((with_reducible apply cl_p); (case hM => with_reducible exact k8_fail4 _ _); (case hc => exact rfl); (case hd => decide); conv => whnf)
      | ((with_reducible apply cl_p); (case hM => with_reducible exact k8_fail5 _ _); (case hc => exact rfl); (case hd => decide); conv => whnf)
      | ((with_reducible apply cl_p); (case hM => with_reducible exact k8_isPair _ _ _ _); (case hc => exact rfl); (case hd => decide); conv => whnf)
      | ((with_reducible apply cl_p); (case hM => with_reducible exact k8_isWithin _ _ _ _); (case hc => exact rfl); (case hd => decide); conv => whnf)
      | ((with_reducible apply cl_p); (case hM => exact k7_ofRoad _ _ x y _ hx hy pa pb); (case hc => exact rfl); (case hd => decide); conv => whnf)
      | ((with_reducible apply cl_v); (case hM => exact k7_setRoad0 _ _ x y _ hx hy pa pb); (case hc => exact rfl); (case hd => decide); conv => whnf)
      | ((with_reducible apply cl_v); (case hM => exact k7_setRoad1 _ _ x y _ _ (by assumption) hx hy pa pb); (case hc => exact rfl); (case hd => decide); conv => whnf)
      | with_reducible refine Pc8.of ?_ ?_ ?_
      | ((with_reducible refine ckJ ?_ ?_); conv => whnf)
      | fail
    all_goals first | with_reducible rfl | exact hRR.er _ | (intro i hi; first | rfl | (simp (disch := omega) only [hi_wr]; done))
  · have h : two (S 1) a b := by assumption
    obtain ⟨x, hx, rfl, _⟩ := in_P hN h.1.1
    obtain ⟨y, hy, rfl, _⟩ := in_P hN h.1.2
    have pa := (isP_k hN hRW.1.1).mpr h.1.1
    have pb := (isP_k hN hRW.1.1).mpr h.1.2
    have pab : ((((0 ≤ nI x ∧ nI x < μ 1 8) ∧ nI x < 7) ∧ ((0 ≤ nI y ∧ nI y < μ 1 8) ∧ nI y < 7)) ∧ ¬ nI x = nI y) := ⟨⟨pa, pb⟩, h.2⟩
    refine Mt_of ck_X8_road mf_82 rfl ?_
    have hRR := hR
    clear hW hN hRW hR
    repeat' first
      | ((with_reducible refine gow ck_X8_road _ [] ?_); conv => whnf)
      | ((with_reducible refine bn_t ?_ ?_); (· first | assumption | decide); conv => whnf)
      | ((with_reducible refine bn_f ?_ ?_); (· first | assumption | decide); conv => whnf)
      | ((with_reducible refine bc_t ?_ ?_); (· first | assumption | decide); conv => whnf)
      | ((with_reducible refine bc_f ?_ ?_); (· first | assumption | decide); conv => whnf)
      | ((with_reducible refine br_t ?_ ?_); (· first | assumption | decide); conv => whnf)
      | ((with_reducible refine br_f ?_ ?_); (· first | assumption | decide); conv => whnf)
      | ((with_reducible refine br_nt ?_ ?_); (· first | assumption | decide); conv => whnf)
      | ((with_reducible refine br_nf ?_ ?_); (· first | assumption | decide); conv => whnf)
      | ((with_reducible refine ckI ?_ ?_); (· first | ((with_reducible refine vp_in_nI ?_ ?_); (· omega); (· decide)) | exact vp_c (by decide) | exact ⟨_, rfl⟩ | exact Or.inl rfl | exact Or.inr rfl | exact b2_01 _); conv => whnf)
      | ((with_reducible apply cl_p); (case hM => with_reducible exact k8_fail1 _ _); (case hc => exact rfl); (case hd => decide); conv => whnf)
      | ((with_reducible apply cl_p); (case hM => with_reducible exact k8_fail2 _ _); (case hc => exact rfl); (case hd => decide); conv => whnf)
      | ((with_reducible apply cl_p); (case hM => with_reducible exact k8_fail3 _ _); (case hc => exact rfl); (case hd => decide); conv => whnf)
      | ((with_reducible apply cl_p); (case hM => with_reducible exact k8_fail4 _ _); (case hc => exact rfl); (case hd => decide); conv => whnf)
      | ((with_reducible apply cl_p); (case hM => with_reducible exact k8_fail5 _ _); (case hc => exact rfl); (case hd => decide); conv => whnf)
      | ((with_reducible apply cl_p); (case hM => with_reducible exact k8_isPair _ _ _ _); (case hc => exact rfl); (case hd => decide); conv => whnf)
      | ((with_reducible apply cl_p); (case hM => with_reducible exact k8_isWithin _ _ _ _); (case hc => exact rfl); (case hd => decide); conv => whnf)
      | ((with_reducible apply cl_p); (case hM => exact k7_ofRoad _ _ x y _ hx hy pa pb); (case hc => exact rfl); (case hd => decide); conv => whnf)
      | ((with_reducible apply cl_v); (case hM => exact k7_setRoad0 _ _ x y _ hx hy pa pb); (case hc => exact rfl); (case hd => decide); conv => whnf)
      | ((with_reducible apply cl_v); (case hM => exact k7_setRoad1 _ _ x y _ _ (by assumption) hx hy pa pb); (case hc => exact rfl); (case hd => decide); conv => whnf)
      | with_reducible refine Pc8.of ?_ ?_ ?_
      | ((with_reducible refine ckJ ?_ ?_); conv => whnf)
      | fail
    · first | rw [if_pos rfl] | rw [if_pos (by assumption)] | rw [if_neg (by assumption)]
      simp (disch := omega) only [nI_toInt, Int.toNat_natCast, yd, tl, Nat.add_assoc]
      first | exact hRR.1.2.2.1 _ (by omega) | exact hRR.1.2.2.2.1 _ (by omega)
    · have hq := hRR.1
      refine hRR.now (fun i hi => by simp (disch := omega) only [wr_ne]) (fun i hi => by simp (disch := omega) only [wr_ne]) ?_
      (try simp only [wr_at, tnc])
      simp (disch := omega) only [nI_toInt, Int.toNat_natCast]
      obtain ⟨⟨ra1, ra2, ra3, ra4⟩, rb, rc, rd, re, ⟨rf1, rf2⟩, ⟨rg1, rg2⟩, ⟨rh1, rh2⟩, ⟨ri1, ri2⟩⟩ := hq
      simp only [Nat.reduceAdd] at rb rc rd re rf1 rf2 rg1 rg2 rh1 rh2 ri1 ri2
      refine ⟨⟨?_, ?_, ?_, ?_⟩, fun j hj => ?_, fun j hj => ?_, fun j hj => ?_, fun t ht f hf => ?_, ⟨?_, fun j hj => ?_⟩, ⟨?_, fun j hj => ?_⟩, ⟨?_, fun j hj => ?_⟩, ⟨?_, fun j hj => ?_⟩⟩
      all_goals ((try simp (disch := omega) only [wr_at, wr_ne, upd_ne, upd_eq, Nat.reduceAdd] at hj); (try simp (disch := omega) only [wr_at, wr_ne, upd_ne, upd_eq, Nat.reduceAdd]))
      all_goals try simp only [upd, Nat.add_left_cancel_iff]
      all_goals ((repeat' split) <;> (try (exfalso; omega)))
      all_goals try first | rfl | with_reducible assumption | (with_reducible exact rb _ (by first | assumption | omega)) | (with_reducible exact rc _ (by first | assumption | omega)) | (with_reducible exact rd _ (by first | assumption | omega)) | (with_reducible exact re _ (by first | assumption | omega) _ (by first | assumption | omega)) | (with_reducible exact rf2 _ (by first | assumption | omega)) | (with_reducible exact rg2 _ (by first | assumption | omega)) | (with_reducible exact rh2 _ (by first | assumption | omega)) | (with_reducible exact ri2 _ (by first | assumption | omega))
    · intro i hi
      simp (disch := omega) only [hi_wr]
  · have h : two (S 1) a b := by assumption
    obtain ⟨x, hx, rfl, _⟩ := in_P hN h.1.1
    obtain ⟨y, hy, rfl, _⟩ := in_P hN h.1.2
    have pa := (isP_k hN hRW.1.1).mpr h.1.1
    have pb := (isP_k hN hRW.1.1).mpr h.1.2
    have pab : ((((0 ≤ nI x ∧ nI x < μ 1 8) ∧ nI x < 7) ∧ ((0 ≤ nI y ∧ nI y < μ 1 8) ∧ nI y < 7)) ∧ ¬ nI x = nI y) := ⟨⟨pa, pb⟩, h.2⟩
    refine Mt_of ck_X8_road mf_82 rfl ?_
    have hRR := hR
    clear hW hN hRW hR
    repeat' first
      | ((with_reducible refine gow ck_X8_road _ [] ?_); conv => whnf)
      | ((with_reducible refine bn_t ?_ ?_); (· first | assumption | decide); conv => whnf)
      | ((with_reducible refine bn_f ?_ ?_); (· first | assumption | decide); conv => whnf)
      | ((with_reducible refine bc_t ?_ ?_); (· first | assumption | decide); conv => whnf)
      | ((with_reducible refine bc_f ?_ ?_); (· first | assumption | decide); conv => whnf)
      | ((with_reducible refine br_t ?_ ?_); (· first | assumption | decide); conv => whnf)
      | ((with_reducible refine br_f ?_ ?_); (· first | assumption | decide); conv => whnf)
      | ((with_reducible refine br_nt ?_ ?_); (· first | assumption | decide); conv => whnf)
      | ((with_reducible refine br_nf ?_ ?_); (· first | assumption | decide); conv => whnf)
      | ((with_reducible refine ckI ?_ ?_); (· first | ((with_reducible refine vp_in_nI ?_ ?_); (· omega); (· decide)) | exact vp_c (by decide) | exact ⟨_, rfl⟩ | exact Or.inl rfl | exact Or.inr rfl | exact b2_01 _); conv => whnf)
      | ((with_reducible apply cl_p); (case hM => with_reducible exact k8_fail1 _ _); (case hc => exact rfl); (case hd => decide); conv => whnf)
      | ((with_reducible apply cl_p); (case hM => with_reducible exact k8_fail2 _ _); (case hc => exact rfl); (case hd => decide); conv => whnf)
      | ((with_reducible apply cl_p); (case hM => with_reducible exact k8_fail3 _ _); (case hc => exact rfl); (case hd => decide); conv => whnf)
      | ((with_reducible apply cl_p); (case hM => with_reducible exact k8_fail4 _ _); (case hc => exact rfl); (case hd => decide); conv => whnf)
      | ((with_reducible apply cl_p); (case hM => with_reducible exact k8_fail5 _ _); (case hc => exact rfl); (case hd => decide); conv => whnf)
      | ((with_reducible apply cl_p); (case hM => with_reducible exact k8_isPair _ _ _ _); (case hc => exact rfl); (case hd => decide); conv => whnf)
      | ((with_reducible apply cl_p); (case hM => with_reducible exact k8_isWithin _ _ _ _); (case hc => exact rfl); (case hd => decide); conv => whnf)
      | ((with_reducible apply cl_p); (case hM => exact k7_ofRoad _ _ x y _ hx hy pa pb); (case hc => exact rfl); (case hd => decide); conv => whnf)
      | ((with_reducible apply cl_v); (case hM => exact k7_setRoad0 _ _ x y _ hx hy pa pb); (case hc => exact rfl); (case hd => decide); conv => whnf)
      | ((with_reducible apply cl_v); (case hM => exact k7_setRoad1 _ _ x y _ _ (by assumption) hx hy pa pb); (case hc => exact rfl); (case hd => decide); conv => whnf)
      | with_reducible refine Pc8.of ?_ ?_ ?_
      | ((with_reducible refine ckJ ?_ ?_); conv => whnf)
      | fail
    all_goals first | with_reducible rfl | exact hRR.er _ | (intro i hi; first | rfl | (simp (disch := omega) only [hi_wr]; done))
  · have h : two (S 1) a b := by assumption
    obtain ⟨x, hx, rfl, _⟩ := in_P hN h.1.1
    obtain ⟨y, hy, rfl, _⟩ := in_P hN h.1.2
    have pa := (isP_k hN hRW.1.1).mpr h.1.1
    have pb := (isP_k hN hRW.1.1).mpr h.1.2
    have pab : ((((0 ≤ nI x ∧ nI x < μ 1 8) ∧ nI x < 7) ∧ ((0 ≤ nI y ∧ nI y < μ 1 8) ∧ nI y < 7)) ∧ ¬ nI x = nI y) := ⟨⟨pa, pb⟩, h.2⟩
    refine Mt_of ck_X8_road mf_82 rfl ?_
    have hRR := hR
    clear hW hN hRW hR
    repeat' first
      | ((with_reducible refine gow ck_X8_road _ [] ?_); conv => whnf)
      | ((with_reducible refine bn_t ?_ ?_); (· first | assumption | decide); conv => whnf)
      | ((with_reducible refine bn_f ?_ ?_); (· first | assumption | decide); conv => whnf)
      | ((with_reducible refine bc_t ?_ ?_); (· first | assumption | decide); conv => whnf)
      | ((with_reducible refine bc_f ?_ ?_); (· first | assumption | decide); conv => whnf)
      | ((with_reducible refine br_t ?_ ?_); (· first | assumption | decide); conv => whnf)
      | ((with_reducible refine br_f ?_ ?_); (· first | assumption | decide); conv => whnf)
      | ((with_reducible refine br_nt ?_ ?_); (· first | assumption | decide); conv => whnf)
      | ((with_reducible refine br_nf ?_ ?_); (· first | assumption | decide); conv => whnf)
      | ((with_reducible refine ckI ?_ ?_); (· first | ((with_reducible refine vp_in_nI ?_ ?_); (· omega); (· decide)) | exact vp_c (by decide) | exact ⟨_, rfl⟩ | exact Or.inl rfl | exact Or.inr rfl | exact b2_01 _); conv => whnf)
      | ((with_reducible apply cl_p); (case hM => with_reducible exact k8_fail1 _ _); (case hc => exact rfl); (case hd => decide); conv => whnf)
      | ((with_reducible apply cl_p); (case hM => with_reducible exact k8_fail2 _ _); (case hc => exact rfl); (case hd => decide); conv => whnf)
      | ((with_reducible apply cl_p); (case hM => with_reducible exact k8_fail3 _ _); (case hc => exact rfl); (case hd => decide); conv => whnf)
      | ((with_reducible apply cl_p); (case hM => with_reducible exact k8_fail4 _ _); (case hc => exact rfl); (case hd => decide); conv => whnf)
      | ((with_reducible apply cl_p); (case hM => with_reducible exact k8_fail5 _ _); (case hc => exact rfl); (case hd => decide); conv => whnf)
      | ((with_reducible apply cl_p); (case hM => with_reducible exact k8_isPair _ _ _ _); (case hc => exact rfl); (case hd => decide); conv => whnf)
      | ((with_reducible apply cl_p); (case hM => with_reducible exact k8_isWithin _ _ _ _); (case hc => exact rfl); (case hd => decide); conv => whnf)
      | ((with_reducible apply cl_p); (case hM => exact k7_ofRoad _ _ x y _ hx hy pa pb); (case hc => exact rfl); (case hd => decide); conv => whnf)
      | ((with_reducible apply cl_v); (case hM => exact k7_setRoad0 _ _ x y _ hx hy pa pb); (case hc => exact rfl); (case hd => decide); conv => whnf)
      | ((with_reducible apply cl_v); (case hM => exact k7_setRoad1 _ _ x y _ _ (by assumption) hx hy pa pb); (case hc => exact rfl); (case hd => decide); conv => whnf)
      | with_reducible refine Pc8.of ?_ ?_ ?_
      | ((with_reducible refine ckJ ?_ ?_); conv => whnf)
      | fail
    all_goals first | with_reducible rfl | exact hRR.er _ | (intro i hi; first | rfl | (simp (disch := omega) only [hi_wr]; done))
  · have h : ¬ two (S 1) a b := by assumption
    have pab : ¬ ((((0 ≤ a ∧ a < μ 1 8) ∧ a < 7) ∧ ((0 ≤ b ∧ b < μ 1 8) ∧ b < 7)) ∧ ¬ a = b) := by rw [isP_k hN hRW.1.1, isP_k hN hRW.1.1]; exact h
    refine Mt_of ck_X8_road mf_82 rfl ?_
    have hRR := hR
    clear hW hN hRW hR
    repeat' first
      | ((with_reducible refine gow ck_X8_road _ [] ?_); conv => whnf)
      | ((with_reducible refine bn_t ?_ ?_); (· first | assumption | decide); conv => whnf)
      | ((with_reducible refine bn_f ?_ ?_); (· first | assumption | decide); conv => whnf)
      | ((with_reducible refine bc_t ?_ ?_); (· first | assumption | decide); conv => whnf)
      | ((with_reducible refine bc_f ?_ ?_); (· first | assumption | decide); conv => whnf)
      | ((with_reducible refine br_t ?_ ?_); (· first | assumption | decide); conv => whnf)
      | ((with_reducible refine br_f ?_ ?_); (· first | assumption | decide); conv => whnf)
      | ((with_reducible refine br_nt ?_ ?_); (· first | assumption | decide); conv => whnf)
      | ((with_reducible refine br_nf ?_ ?_); (· first | assumption | decide); conv => whnf)
      | ((with_reducible refine ckI ?_ ?_); (· first | ((with_reducible refine vp_in_nI ?_ ?_); (· omega); (· decide)) | exact vp_c (by decide) | exact ⟨_, rfl⟩ | exact Or.inl rfl | exact Or.inr rfl | exact b2_01 _); conv => whnf)
      | ((with_reducible apply cl_p); (case hM => with_reducible exact k8_fail1 _ _); (case hc => exact rfl); (case hd => decide); conv => whnf)
      | ((with_reducible apply cl_p); (case hM => with_reducible exact k8_fail2 _ _); (case hc => exact rfl); (case hd => decide); conv => whnf)
      | ((with_reducible apply cl_p); (case hM => with_reducible exact k8_fail3 _ _); (case hc => exact rfl); (case hd => decide); conv => whnf)
      | ((with_reducible apply cl_p); (case hM => with_reducible exact k8_fail4 _ _); (case hc => exact rfl); (case hd => decide); conv => whnf)
      | ((with_reducible apply cl_p); (case hM => with_reducible exact k8_fail5 _ _); (case hc => exact rfl); (case hd => decide); conv => whnf)
      | ((with_reducible apply cl_p); (case hM => with_reducible exact k8_isPair _ _ _ _); (case hc => exact rfl); (case hd => decide); conv => whnf)
      | ((with_reducible apply cl_p); (case hM => with_reducible exact k8_isWithin _ _ _ _); (case hc => exact rfl); (case hd => decide); conv => whnf)
      | ((with_reducible apply cl_p); (case hM => exact k7_ofRoad _ _ x y _ hx hy pa pb); (case hc => exact rfl); (case hd => decide); conv => whnf)
      | ((with_reducible apply cl_v); (case hM => exact k7_setRoad0 _ _ x y _ hx hy pa pb); (case hc => exact rfl); (case hd => decide); conv => whnf)
      | ((with_reducible apply cl_v); (case hM => exact k7_setRoad1 _ _ x y _ _ (by assumption) hx hy pa pb); (case hc => exact rfl); (case hd => decide); conv => whnf)
      | with_reducible refine Pc8.of ?_ ?_ ?_
      | ((with_reducible refine ckJ ?_ ?_); conv => whnf)
      | fail
    all_goals first | with_reducible rfl | exact hRR.er _ | (intro i hi; first | rfl | (simp (disch := omega) only [hi_wr]; done))
