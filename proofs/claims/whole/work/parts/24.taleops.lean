theorem rcT {k : Nat} (h : k < 7) : rcv (6 + k) 22 := by
  rcases k with _ | _ | _ | _ | _ | _ | _ | k <;> first | exact ⟨_, rfl⟩ | exact rfl | decide | omega
theorem k_become (X : Cx) (S μ : Mem) (t km : Int32) (hW : WFS S) (hR : RC S μ) : Mt X m_X8_become 2 [.ref 0, .int t, .int km] μ (Pc8 S μ (sp_become S t km)) := by
  have hN : WN (S 1) := hW.1
  have hRW := hR.1
  unfold sp_become
  (repeat' split)
  · have h : isT (S 1) t := by assumption
    have pt : (0 ≤ t ∧ t < μ 1 9) ∧ t < 7 := by rw [hRW.1.2.1]; exact (isN_k (M := 7) hN.2.2.1).mpr h
    have hk : t.toInt.toNat < 7 := by
      have := pt.2
      simp only [Int32.lt_iff_toInt_lt, Int32.reduceToInt] at this; omega
    have hsh := shT hk
    refine Mt_of ck_X8_become mf_87 rfl ?_
    have hRR := hR
    clear hW hN hRW hR
    repeat' first
      | ((with_reducible refine gow ck_X8_become _ [] ?_); conv => whnf)
      | ((with_reducible refine bn_t ?_ ?_); (· first | assumption | decide); conv => whnf)
      | ((with_reducible refine bn_f ?_ ?_); (· first | assumption | decide); conv => whnf)
      | ((with_reducible refine bc_t ?_ ?_); (· first | assumption | decide); conv => whnf)
      | ((with_reducible refine bc_f ?_ ?_); (· first | assumption | decide); conv => whnf)
      | ((with_reducible refine br_t ?_ ?_); (· first | assumption | decide); conv => whnf)
      | ((with_reducible refine br_f ?_ ?_); (· first | assumption | decide); conv => whnf)
      | ((with_reducible refine br_nt ?_ ?_); (· first | assumption | decide); conv => whnf)
      | ((with_reducible refine br_nf ?_ ?_); (· first | assumption | decide); conv => whnf)
      | ((with_reducible refine ckI ?_ ?_); (· first | ((with_reducible refine vp_in_nI ?_ ?_); (· omega); (· decide)) | exact vp_c (by decide) | exact ⟨_, rfl⟩ | exact Or.inl rfl | exact Or.inr rfl | exact b2_01 _); conv => whnf)
      | ((with_reducible apply cl_p); (case hM => with_reducible exact k8_fail1 _ _); (case hc => exact rfl); (case hd => decide); conv => whnf)
      | ((with_reducible apply cl_p); (case hM => with_reducible exact k8_fail2 _ _); (case hc => exact rfl); (case hd => decide); conv => whnf)
      | ((with_reducible apply cl_p); (case hM => with_reducible exact k8_fail3 _ _); (case hc => exact rfl); (case hd => decide); conv => whnf)
      | ((with_reducible apply cl_p); (case hM => with_reducible exact k8_fail4 _ _); (case hc => exact rfl); (case hd => decide); conv => whnf)
      | ((with_reducible apply cl_p); (case hM => with_reducible exact k8_fail5 _ _); (case hc => exact rfl); (case hd => decide); conv => whnf)
      | ((with_reducible apply cl_p); (case hM => exact k7_taleOf _ _ t pt.1.1 pt.1.2 pt.2); (case hc => exact rfl); (case hd => decide); conv => whnf)
      | ((with_reducible apply cl_p); (case hM => exact k7_taleOf_n _ _ t pn); (case hc => exact rfl); (case hd => decide); conv => whnf)
      | ((with_reducible apply cl_p); (case hM => with_reducible exact k8_isWithin _ _ _ _); (case hc => exact rfl); (case hd => decide); conv => whnf)
      | ((rw [hsh]); conv => whnf)
      | ((with_reducible refine fun r hr => ?_); (obtain rfl := l7 hr); conv => whnf)
      | ((with_reducible apply cl_v); (case hM => exact k3_setKind _ _ _ _ hk); (case hc => exact rfl); (case hd => decide); conv => whnf)
      | with_reducible refine Pc8.of ?_ ?_ ?_
      | ((with_reducible refine ckJ ?_ ?_); conv => whnf)
      | fail
    · exact hRR.1.2.2.2.2.1 _ hk 0 (by decide)
    · have hq := hRR.1
      refine hRR.now (fun i hi => by simp (disch := omega) only [wr_ne]) (fun i hi => by simp (disch := omega) only [wr_ne]) ?_
      (try simp only [wr_at, tnc])
      simp only [taIx] at *
      generalize t.toInt.toNat = k at *
      obtain ⟨⟨ra1, ra2, ra3, ra4⟩, rb, rc, rd, re, ⟨rf1, rf2⟩, ⟨rg1, rg2⟩, ⟨rh1, rh2⟩, ⟨ri1, ri2⟩⟩ := hq
      simp only [Nat.reduceAdd] at rb rc rd re rf1 rf2 rg1 rg2 rh1 rh2 ri1 ri2
      refine ⟨⟨?_, ?_, ?_, ?_⟩, fun j hj => ?_, fun j hj => ?_, fun j hj => ?_, fun t ht f hf => ?_, ⟨?_, fun j hj => ?_⟩, ⟨?_, fun j hj => ?_⟩, ⟨?_, fun j hj => ?_⟩, ⟨?_, fun j hj => ?_⟩⟩
      all_goals ((try simp (disch := omega) only [wr_at, wr_ne, upd_ne, upd_eq, Nat.reduceAdd] at hj); (try simp (disch := omega) only [wr_at, wr_ne, upd_ne, upd_eq, Nat.reduceAdd]))
      all_goals try simp only [upd, Nat.add_left_cancel_iff]
      all_goals ((repeat' split) <;> (try (exfalso; omega)))
      all_goals try first | rfl | with_reducible assumption | (with_reducible exact rb _ (by first | assumption | omega)) | (with_reducible exact rc _ (by first | assumption | omega)) | (with_reducible exact rd _ (by first | assumption | omega)) | (with_reducible exact re _ (by first | assumption | omega) _ (by first | assumption | omega)) | (with_reducible exact rf2 _ (by first | assumption | omega)) | (with_reducible exact rg2 _ (by first | assumption | omega)) | (with_reducible exact rh2 _ (by first | assumption | omega)) | (with_reducible exact ri2 _ (by first | assumption | omega))
      all_goals (by_cases hq : t = k)
      all_goals first
        | (subst hq; simp only [wr_at, upd]; (repeat' split) <;> first | rfl | (exfalso; omega) | exact re _ ht _ hf)
        | (simp (disch := omega) only [wr_ne]; first | exact re _ ht _ hf | (exfalso; omega))
        | (exfalso; omega)
    · intro i hi
      simp (disch := omega) only [hi_wr]
    · exact rcT hk
  · have h : isT (S 1) t := by assumption
    have pt : (0 ≤ t ∧ t < μ 1 9) ∧ t < 7 := by rw [hRW.1.2.1]; exact (isN_k (M := 7) hN.2.2.1).mpr h
    have hk : t.toInt.toNat < 7 := by
      have := pt.2
      simp only [Int32.lt_iff_toInt_lt, Int32.reduceToInt] at this; omega
    have hsh := shT hk
    refine Mt_of ck_X8_become mf_87 rfl ?_
    have hRR := hR
    clear hW hN hRW hR
    repeat' first
      | ((with_reducible refine gow ck_X8_become _ [] ?_); conv => whnf)
      | ((with_reducible refine bn_t ?_ ?_); (· first | assumption | decide); conv => whnf)
      | ((with_reducible refine bn_f ?_ ?_); (· first | assumption | decide); conv => whnf)
      | ((with_reducible refine bc_t ?_ ?_); (· first | assumption | decide); conv => whnf)
      | ((with_reducible refine bc_f ?_ ?_); (· first | assumption | decide); conv => whnf)
      | ((with_reducible refine br_t ?_ ?_); (· first | assumption | decide); conv => whnf)
      | ((with_reducible refine br_f ?_ ?_); (· first | assumption | decide); conv => whnf)
      | ((with_reducible refine br_nt ?_ ?_); (· first | assumption | decide); conv => whnf)
      | ((with_reducible refine br_nf ?_ ?_); (· first | assumption | decide); conv => whnf)
      | ((with_reducible refine ckI ?_ ?_); (· first | ((with_reducible refine vp_in_nI ?_ ?_); (· omega); (· decide)) | exact vp_c (by decide) | exact ⟨_, rfl⟩ | exact Or.inl rfl | exact Or.inr rfl | exact b2_01 _); conv => whnf)
      | ((with_reducible apply cl_p); (case hM => with_reducible exact k8_fail1 _ _); (case hc => exact rfl); (case hd => decide); conv => whnf)
      | ((with_reducible apply cl_p); (case hM => with_reducible exact k8_fail2 _ _); (case hc => exact rfl); (case hd => decide); conv => whnf)
      | ((with_reducible apply cl_p); (case hM => with_reducible exact k8_fail3 _ _); (case hc => exact rfl); (case hd => decide); conv => whnf)
      | ((with_reducible apply cl_p); (case hM => with_reducible exact k8_fail4 _ _); (case hc => exact rfl); (case hd => decide); conv => whnf)
      | ((with_reducible apply cl_p); (case hM => with_reducible exact k8_fail5 _ _); (case hc => exact rfl); (case hd => decide); conv => whnf)
      | ((with_reducible apply cl_p); (case hM => exact k7_taleOf _ _ t pt.1.1 pt.1.2 pt.2); (case hc => exact rfl); (case hd => decide); conv => whnf)
      | ((with_reducible apply cl_p); (case hM => exact k7_taleOf_n _ _ t pn); (case hc => exact rfl); (case hd => decide); conv => whnf)
      | ((with_reducible apply cl_p); (case hM => with_reducible exact k8_isWithin _ _ _ _); (case hc => exact rfl); (case hd => decide); conv => whnf)
      | ((rw [hsh]); conv => whnf)
      | ((with_reducible refine fun r hr => ?_); (obtain rfl := l7 hr); conv => whnf)
      | ((with_reducible apply cl_v); (case hM => exact k3_setKind _ _ _ _ hk); (case hc => exact rfl); (case hd => decide); conv => whnf)
      | with_reducible refine Pc8.of ?_ ?_ ?_
      | ((with_reducible refine ckJ ?_ ?_); conv => whnf)
      | fail
    all_goals first | with_reducible rfl | exact hRR.er _ | (intro i hi; first | rfl | (simp (disch := omega) only [hi_wr]; done))
  · have h : ¬ isT (S 1) t := by assumption
    have pn : ¬ ((0 ≤ t ∧ t < μ 1 9) ∧ t < 7) := by rw [hRW.1.2.1]; exact fun q => h ((isN_k (M := 7) hN.2.2.1).mp q)
    refine Mt_of ck_X8_become mf_87 rfl ?_
    have hRR := hR
    clear hW hN hRW hR
    repeat' first
      | ((with_reducible refine gow ck_X8_become _ [] ?_); conv => whnf)
      | ((with_reducible refine bn_t ?_ ?_); (· first | assumption | decide); conv => whnf)
      | ((with_reducible refine bn_f ?_ ?_); (· first | assumption | decide); conv => whnf)
      | ((with_reducible refine bc_t ?_ ?_); (· first | assumption | decide); conv => whnf)
      | ((with_reducible refine bc_f ?_ ?_); (· first | assumption | decide); conv => whnf)
      | ((with_reducible refine br_t ?_ ?_); (· first | assumption | decide); conv => whnf)
      | ((with_reducible refine br_f ?_ ?_); (· first | assumption | decide); conv => whnf)
      | ((with_reducible refine br_nt ?_ ?_); (· first | assumption | decide); conv => whnf)
      | ((with_reducible refine br_nf ?_ ?_); (· first | assumption | decide); conv => whnf)
      | ((with_reducible refine ckI ?_ ?_); (· first | ((with_reducible refine vp_in_nI ?_ ?_); (· omega); (· decide)) | exact vp_c (by decide) | exact ⟨_, rfl⟩ | exact Or.inl rfl | exact Or.inr rfl | exact b2_01 _); conv => whnf)
      | ((with_reducible apply cl_p); (case hM => with_reducible exact k8_fail1 _ _); (case hc => exact rfl); (case hd => decide); conv => whnf)
      | ((with_reducible apply cl_p); (case hM => with_reducible exact k8_fail2 _ _); (case hc => exact rfl); (case hd => decide); conv => whnf)
      | ((with_reducible apply cl_p); (case hM => with_reducible exact k8_fail3 _ _); (case hc => exact rfl); (case hd => decide); conv => whnf)
      | ((with_reducible apply cl_p); (case hM => with_reducible exact k8_fail4 _ _); (case hc => exact rfl); (case hd => decide); conv => whnf)
      | ((with_reducible apply cl_p); (case hM => with_reducible exact k8_fail5 _ _); (case hc => exact rfl); (case hd => decide); conv => whnf)
      | ((with_reducible apply cl_p); (case hM => exact k7_taleOf _ _ t pt.1.1 pt.1.2 pt.2); (case hc => exact rfl); (case hd => decide); conv => whnf)
      | ((with_reducible apply cl_p); (case hM => exact k7_taleOf_n _ _ t pn); (case hc => exact rfl); (case hd => decide); conv => whnf)
      | ((with_reducible apply cl_p); (case hM => with_reducible exact k8_isWithin _ _ _ _); (case hc => exact rfl); (case hd => decide); conv => whnf)
      | ((rw [hsh]); conv => whnf)
      | ((with_reducible refine fun r hr => ?_); (obtain rfl := l7 hr); conv => whnf)
      | ((with_reducible apply cl_v); (case hM => exact k3_setKind _ _ _ _ hk); (case hc => exact rfl); (case hd => decide); conv => whnf)
      | with_reducible refine Pc8.of ?_ ?_ ?_
      | ((with_reducible refine ckJ ?_ ?_); conv => whnf)
      | fail
    all_goals first | with_reducible rfl | exact hRR.er _ | (intro i hi; first | rfl | (simp (disch := omega) only [hi_wr]; done))
theorem k7_yardsLate (X : Cx) (μ : Mem) (k : Nat) (hk : k < 7) (h : ((0 ≤ μ (6 + k) 4 ∧ μ (6 + k) 4 < μ 1 8) ∧ μ (6 + k) 4 < 7)) : Mt X m_X7_yardsLate 2 [.ref 1, .ref (6 + k)] μ (fun r μ' => r = some (.int (mx 0 (μ 2 (μ (6 + k) 4).toInt.toNat - μ (6 + k) 3))) ∧ μ' = μ) := by
  have hsh := shT hk
  refine Mt_of ck_X7_yardsLate mf_73 rfl ?_
  repeat' first
    | ((with_reducible refine gow ck_X7_yardsLate _ [] ?_); conv => whnf)
    | ((with_reducible refine bn_t ?_ ?_); (· first | assumption | decide); conv => whnf)
    | ((with_reducible refine bn_f ?_ ?_); (· first | assumption | decide); conv => whnf)
    | ((with_reducible refine bc_t ?_ ?_); (· first | assumption | decide); conv => whnf)
    | ((with_reducible refine bc_f ?_ ?_); (· first | assumption | decide); conv => whnf)
    | ((with_reducible refine br_t ?_ ?_); (· first | assumption | decide); conv => whnf)
    | ((with_reducible refine br_f ?_ ?_); (· first | assumption | decide); conv => whnf)
    | ((with_reducible refine br_nt ?_ ?_); (· first | assumption | decide); conv => whnf)
    | ((with_reducible refine br_nf ?_ ?_); (· first | assumption | decide); conv => whnf)
    | ((with_reducible refine ckI ?_ ?_); (· first | ((with_reducible refine vp_in_nI ?_ ?_); (· omega); (· decide)) | exact vp_c (by decide) | exact ⟨_, rfl⟩ | exact Or.inl rfl | exact Or.inr rfl | exact b2_01 _); conv => whnf)
    | ((with_reducible apply cl_p); (case hM => with_reducible exact k7_hasPlace _ _ _); (case hc => exact rfl); (case hd => decide); conv => whnf)
    | ((rw [hsh]); conv => whnf)
    | ((with_reducible refine ckJ ?_ ?_); conv => whnf)
    | fail
  all_goals first
    | exact ⟨rfl, rfl⟩
    | (refine mk_int ?_; rfl)
    | (have q := h.2
       have q1 := h.1.1
       simp only [Int32.le_iff_toInt_le, Int32.lt_iff_toInt_lt, Int32.reduceToInt] at q q1
       exact vp_t (by omega) (by omega))
theorem k_late (X : Cx) (S μ : Mem) (t : Int32) (hW : WFS S) (hR : RC S μ) : Mt X m_X8_late 3 [.ref 0, .int t] μ (Pc8 S μ (sp_late S t)) := by
  have hN : WN (S 1) := hW.1
  have hRW := hR.1
  unfold sp_late
  (repeat' split)
  · have h : isT (S 1) t := by assumption
    have pt : (0 ≤ t ∧ t < μ 1 9) ∧ t < 7 := by rw [hRW.1.2.1]; exact (isN_k (M := 7) hN.2.2.1).mpr h
    have hk : t.toInt.toNat < 7 := by
      have := pt.2
      simp only [Int32.lt_iff_toInt_lt, Int32.reduceToInt] at this; omega
    have hsh := shT hk
    have e : μ (6 + t.toInt.toNat) 4 = tf (S 1) t.toInt.toNat 4 := hRW.2.2.2.2.1 _ hk 4 (by decide)
    have u := (hN.2.2.2.2.2.2.2.2.1 _ hk).2.2.2.2.1
    have w := hN.2.2.2.2.2.2.2.2.2.1 t.toInt.toNat (by
      have q := pt.1.2
      rw [hRW.1.2.1] at q
      have q0 := pt.1.1
      simp only [Int32.le_iff_toInt_le, Int32.lt_iff_toInt_lt, Int32.reduceToInt] at q q0
      unfold nT; omega)
    have hA : ((0 ≤ μ (6 + t.toInt.toNat) 4 ∧ μ (6 + t.toInt.toNat) 4 < μ 1 8) ∧ μ (6 + t.toInt.toNat) 4 < 7) := by
      rw [e, hRW.1.1]
      simp only [upto] at u
      simp only [Int32.le_iff_toInt_le, Int32.lt_iff_toInt_lt, Int32.reduceToInt]
      omega
    have w9 : (tf (S 1) t.toInt.toNat 4).toInt.toNat < 7 := by simp only [upto] at u; omega
    refine Mt_of ck_X8_late mf_100 rfl ?_
    have hRR := hR
    clear hW hN hRW hR
    repeat' first
      | ((with_reducible refine gow ck_X8_late _ [] ?_); conv => whnf)
      | ((with_reducible refine bn_t ?_ ?_); (· first | assumption | decide); conv => whnf)
      | ((with_reducible refine bn_f ?_ ?_); (· first | assumption | decide); conv => whnf)
      | ((with_reducible refine bc_t ?_ ?_); (· first | assumption | decide); conv => whnf)
      | ((with_reducible refine bc_f ?_ ?_); (· first | assumption | decide); conv => whnf)
      | ((with_reducible refine br_t ?_ ?_); (· first | assumption | decide); conv => whnf)
      | ((with_reducible refine br_f ?_ ?_); (· first | assumption | decide); conv => whnf)
      | ((with_reducible refine br_nt ?_ ?_); (· first | assumption | decide); conv => whnf)
      | ((with_reducible refine br_nf ?_ ?_); (· first | assumption | decide); conv => whnf)
      | ((with_reducible refine ckI ?_ ?_); (· first | ((with_reducible refine vp_in_nI ?_ ?_); (· omega); (· decide)) | exact vp_c (by decide) | exact ⟨_, rfl⟩ | exact Or.inl rfl | exact Or.inr rfl | exact b2_01 _); conv => whnf)
      | ((with_reducible apply cl_p); (case hM => with_reducible exact k8_fail1 _ _); (case hc => exact rfl); (case hd => decide); conv => whnf)
      | ((with_reducible apply cl_p); (case hM => with_reducible exact k8_fail2 _ _); (case hc => exact rfl); (case hd => decide); conv => whnf)
      | ((with_reducible apply cl_p); (case hM => with_reducible exact k8_fail3 _ _); (case hc => exact rfl); (case hd => decide); conv => whnf)
      | ((with_reducible apply cl_p); (case hM => with_reducible exact k8_fail4 _ _); (case hc => exact rfl); (case hd => decide); conv => whnf)
      | ((with_reducible apply cl_p); (case hM => with_reducible exact k8_fail5 _ _); (case hc => exact rfl); (case hd => decide); conv => whnf)
      | ((with_reducible apply cl_p); (case hM => exact k7_taleOf _ _ t pt.1.1 pt.1.2 pt.2); (case hc => exact rfl); (case hd => decide); conv => whnf)
      | ((with_reducible apply cl_p); (case hM => exact k7_taleOf_n _ _ t pn); (case hc => exact rfl); (case hd => decide); conv => whnf)
      | ((with_reducible apply cl_p); (case hM => with_reducible exact k8_isWithin _ _ _ _); (case hc => exact rfl); (case hd => decide); conv => whnf)
      | ((with_reducible apply cl_p); (case hM => exact k7_yardsLate _ _ _ hk hA); (case hc => exact rfl); (case hd => decide); conv => whnf)
      | ((rw [hsh]); conv => whnf)
      | ((with_reducible refine fun r hr => ?_); (obtain rfl := l7 hr); conv => whnf)
      | with_reducible refine Pc8.of ?_ ?_ ?_
      | ((with_reducible refine ckJ ?_ ?_); conv => whnf)
      | fail
    · show _ = lat (S 1) t.toInt.toNat
      rw [e]
      unfold lat
      rw [show μ 2 (tf (S 1) t.toInt.toNat 4).toInt.toNat = S 1 (6 + (tf (S 1) t.toInt.toNat 4).toInt.toNat) from hRR.1.2.1 _ w9, show μ (6 + t.toInt.toNat) 3 = tf (S 1) t.toInt.toNat 3 from hRR.1.2.2.2.2.1 _ hk 3 (by decide)]
    · exact hRR
    · intro i hi; rfl
  · have h : ¬ isT (S 1) t := by assumption
    have pn : ¬ ((0 ≤ t ∧ t < μ 1 9) ∧ t < 7) := by rw [hRW.1.2.1]; exact fun q => h ((isN_k (M := 7) hN.2.2.1).mp q)
    refine Mt_of ck_X8_late mf_100 rfl ?_
    have hRR := hR
    clear hW hN hRW hR
    repeat' first
      | ((with_reducible refine gow ck_X8_late _ [] ?_); conv => whnf)
      | ((with_reducible refine bn_t ?_ ?_); (· first | assumption | decide); conv => whnf)
      | ((with_reducible refine bn_f ?_ ?_); (· first | assumption | decide); conv => whnf)
      | ((with_reducible refine bc_t ?_ ?_); (· first | assumption | decide); conv => whnf)
      | ((with_reducible refine bc_f ?_ ?_); (· first | assumption | decide); conv => whnf)
      | ((with_reducible refine br_t ?_ ?_); (· first | assumption | decide); conv => whnf)
      | ((with_reducible refine br_f ?_ ?_); (· first | assumption | decide); conv => whnf)
      | ((with_reducible refine br_nt ?_ ?_); (· first | assumption | decide); conv => whnf)
      | ((with_reducible refine br_nf ?_ ?_); (· first | assumption | decide); conv => whnf)
      | ((with_reducible refine ckI ?_ ?_); (· first | ((with_reducible refine vp_in_nI ?_ ?_); (· omega); (· decide)) | exact vp_c (by decide) | exact ⟨_, rfl⟩ | exact Or.inl rfl | exact Or.inr rfl | exact b2_01 _); conv => whnf)
      | ((with_reducible apply cl_p); (case hM => with_reducible exact k8_fail1 _ _); (case hc => exact rfl); (case hd => decide); conv => whnf)
      | ((with_reducible apply cl_p); (case hM => with_reducible exact k8_fail2 _ _); (case hc => exact rfl); (case hd => decide); conv => whnf)
      | ((with_reducible apply cl_p); (case hM => with_reducible exact k8_fail3 _ _); (case hc => exact rfl); (case hd => decide); conv => whnf)
      | ((with_reducible apply cl_p); (case hM => with_reducible exact k8_fail4 _ _); (case hc => exact rfl); (case hd => decide); conv => whnf)
      | ((with_reducible apply cl_p); (case hM => with_reducible exact k8_fail5 _ _); (case hc => exact rfl); (case hd => decide); conv => whnf)
      | ((with_reducible apply cl_p); (case hM => exact k7_taleOf _ _ t pt.1.1 pt.1.2 pt.2); (case hc => exact rfl); (case hd => decide); conv => whnf)
      | ((with_reducible apply cl_p); (case hM => exact k7_taleOf_n _ _ t pn); (case hc => exact rfl); (case hd => decide); conv => whnf)
      | ((with_reducible apply cl_p); (case hM => with_reducible exact k8_isWithin _ _ _ _); (case hc => exact rfl); (case hd => decide); conv => whnf)
      | ((with_reducible apply cl_p); (case hM => exact k7_yardsLate _ _ _ hk hA); (case hc => exact rfl); (case hd => decide); conv => whnf)
      | ((rw [hsh]); conv => whnf)
      | ((with_reducible refine fun r hr => ?_); (obtain rfl := l7 hr); conv => whnf)
      | with_reducible refine Pc8.of ?_ ?_ ?_
      | ((with_reducible refine ckJ ?_ ?_); conv => whnf)
      | fail
    all_goals first | with_reducible rfl | exact hRR.er _ | (intro i hi; first | rfl | (simp (disch := omega) only [hi_wr]; done))
