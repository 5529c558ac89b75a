theorem gS_4 {N : Nat → Int32} {k q : Nat} : tf (gS N k q) k 4 = nI q := by
  unfold gS gO tf
  rw [upd_ne (by omega), upd_eq rfl]
theorem gS_2 {N : Nat → Int32} {k q : Nat} : nT (gS N k q) = nT N := by
  unfold gS gO nT
  rw [upd_ne (by omega), upd_ne (by omega), upd_ne (by omega), upd_ne (by omega), upd_ne (by omega)]
theorem RC.sf1 {S μ ν : Mem} {G : Nat → Int32} (h : RC S μ) (hw : RW G ν 1) (e : ∀ i, i = 0 ∨ 25 ≤ i → ν i = μ i) : RC (sf S 1 G) ν :=
  h.now (fun i hi => sf_ne hi) e (by rw [sf_at]; exact hw)
theorem k_go (X : Cx) (S μ : Mem) (t v : Int32) (hW : WFS S) (hR : RC S μ) : Mt X m_X8_go 6 [.ref 0, .int t, .int v] μ (Pc8 S μ (sp_go S t v)) := by
  have hN : WN (S 1) := hW.1
  have hRW := hR.1
  unfold sp_go
  (repeat' split)
  · rename_i hr h0
    obtain ⟨k, hk, rfl, hkn⟩ := in_T hN ‹isT (S 1) t›
    have hsh := shT hk
    have hlt : nI k < μ 1 9 := by
      rw [hRW.1.2.1]
      simp only [Int32.lt_iff_toInt_lt]
      rw [nI_toInt (by omega)]
      unfold nT at hkn
      omega
    obtain ⟨q, hq7, rfl, hqn⟩ := in_P hN ‹isP (S 1) v›
    have hpq : ((0 ≤ nI q ∧ nI q < μ 1 8) ∧ nI q < 7) := (isP_k hN hRW.1.1).mpr (by assumption)
    obtain ⟨a, ha7, eq4, eq5⟩ := at_k7 hN hk
    have ha : a < nP (S 1) := by
      have h := hN.2.2.2.2.2.2.2.2.2.1 k hkn
      have h0 := (hN.2.2.2.2.2.2.2.2.1 k hk).2.2.2.2.1.1
      have : nP (S 1) = (S 1 1).toInt.toNat := rfl
      omega
    have e4 : μ (6 + k) 4 = nI a := (hRW.2.2.2.2.1 k hk 4 (by decide)).trans eq4
    have hH := k7_hasRoadN X μ (S 1) a q ha hqn hN hRW
    rw [← e4] at hH
    have e10 : μ 1 10 = S 1 0 := hRW.1.2.2.1
    have h9 := hN.1
    unfold upto at h9
    have hrd : 0 < yd (S 1) a q := by
      have h := hr.2
      simp (disch := omega) only [nI_toInt, Int.toNat_natCast, eq5] at h
      exact h
    have h0 : S 1 0 = 9999 := by assumption
    have hs9 : 9999 ≤ μ 1 10 := by
      rw [e10, h0]
      decide
    simp (disch := omega) only [nI_toInt, Int.toNat_natCast] at *
    refine Mt_of ck_X8_go mf_92 rfl ?_
    have hRR := hR
    clear hW hN hRW hR
    repeat' first
      | ((with_reducible refine gow ck_X8_go _ [] ?_); conv => whnf)
      | ((with_reducible refine bn_t ?_ ?_); (· first | with_reducible assumption | (simp (disch := omega) only [true_and, and_true, false_and, and_false, or_false, false_or, or_true, true_or, not_true_eq_false, not_false_eq_true, ev, ew, e1, mpa_0, mpa_1, mpa_2, mpa_9, mpa_10, mpa_11, mpa_12, Int32.reduceToNatClampNeg, Int32.le_iff_toInt_le, Int32.lt_iff_toInt_lt, ← Int32.toInt_inj, nI_toInt, Int32.reduceToInt] <;> omega) | assumption | (simp (disch := omega) only [isT, isP, two, Int32.toInt_sub, Int.bmod_def, true_and, and_true, false_and, and_false, or_false, false_or, or_true, true_or, not_true_eq_false, not_false_eq_true, ev, ew, e1, mpa_0, mpa_1, mpa_2, mpa_9, mpa_10, mpa_11, mpa_12, Int32.reduceToNatClampNeg, Int32.le_iff_toInt_le, Int32.lt_iff_toInt_lt, ← Int32.toInt_inj, nI_toInt, Int32.reduceToInt] at * <;> omega) | decide); conv => whnf)
      | ((with_reducible refine bn_f ?_ ?_); (· first | with_reducible assumption | (simp (disch := omega) only [true_and, and_true, false_and, and_false, or_false, false_or, or_true, true_or, not_true_eq_false, not_false_eq_true, ev, ew, e1, mpa_0, mpa_1, mpa_2, mpa_9, mpa_10, mpa_11, mpa_12, Int32.reduceToNatClampNeg, Int32.le_iff_toInt_le, Int32.lt_iff_toInt_lt, ← Int32.toInt_inj, nI_toInt, Int32.reduceToInt] <;> omega) | assumption | (simp (disch := omega) only [isT, isP, two, Int32.toInt_sub, Int.bmod_def, true_and, and_true, false_and, and_false, or_false, false_or, or_true, true_or, not_true_eq_false, not_false_eq_true, ev, ew, e1, mpa_0, mpa_1, mpa_2, mpa_9, mpa_10, mpa_11, mpa_12, Int32.reduceToNatClampNeg, Int32.le_iff_toInt_le, Int32.lt_iff_toInt_lt, ← Int32.toInt_inj, nI_toInt, Int32.reduceToInt] at * <;> omega) | decide); conv => whnf)
      | ((with_reducible refine bc_t ?_ ?_); (· first | with_reducible assumption | (simp (disch := omega) only [true_and, and_true, false_and, and_false, or_false, false_or, or_true, true_or, not_true_eq_false, not_false_eq_true, ev, ew, e1, mpa_0, mpa_1, mpa_2, mpa_9, mpa_10, mpa_11, mpa_12, Int32.reduceToNatClampNeg, Int32.le_iff_toInt_le, Int32.lt_iff_toInt_lt, ← Int32.toInt_inj, nI_toInt, Int32.reduceToInt] <;> omega) | assumption | (simp (disch := omega) only [isT, isP, two, Int32.toInt_sub, Int.bmod_def, true_and, and_true, false_and, and_false, or_false, false_or, or_true, true_or, not_true_eq_false, not_false_eq_true, ev, ew, e1, mpa_0, mpa_1, mpa_2, mpa_9, mpa_10, mpa_11, mpa_12, Int32.reduceToNatClampNeg, Int32.le_iff_toInt_le, Int32.lt_iff_toInt_lt, ← Int32.toInt_inj, nI_toInt, Int32.reduceToInt] at * <;> omega) | decide); conv => whnf)
      | ((with_reducible refine bc_f ?_ ?_); (· first | with_reducible assumption | (simp (disch := omega) only [true_and, and_true, false_and, and_false, or_false, false_or, or_true, true_or, not_true_eq_false, not_false_eq_true, ev, ew, e1, mpa_0, mpa_1, mpa_2, mpa_9, mpa_10, mpa_11, mpa_12, Int32.reduceToNatClampNeg, Int32.le_iff_toInt_le, Int32.lt_iff_toInt_lt, ← Int32.toInt_inj, nI_toInt, Int32.reduceToInt] <;> omega) | assumption | (simp (disch := omega) only [isT, isP, two, Int32.toInt_sub, Int.bmod_def, true_and, and_true, false_and, and_false, or_false, false_or, or_true, true_or, not_true_eq_false, not_false_eq_true, ev, ew, e1, mpa_0, mpa_1, mpa_2, mpa_9, mpa_10, mpa_11, mpa_12, Int32.reduceToNatClampNeg, Int32.le_iff_toInt_le, Int32.lt_iff_toInt_lt, ← Int32.toInt_inj, nI_toInt, Int32.reduceToInt] at * <;> omega) | decide); conv => whnf)
      | ((with_reducible refine br_t ?_ ?_); (· first | with_reducible assumption | (simp (disch := omega) only [true_and, and_true, false_and, and_false, or_false, false_or, or_true, true_or, not_true_eq_false, not_false_eq_true, ev, ew, e1, mpa_0, mpa_1, mpa_2, mpa_9, mpa_10, mpa_11, mpa_12, Int32.reduceToNatClampNeg, Int32.le_iff_toInt_le, Int32.lt_iff_toInt_lt, ← Int32.toInt_inj, nI_toInt, Int32.reduceToInt] <;> omega) | assumption | (simp (disch := omega) only [isT, isP, two, Int32.toInt_sub, Int.bmod_def, true_and, and_true, false_and, and_false, or_false, false_or, or_true, true_or, not_true_eq_false, not_false_eq_true, ev, ew, e1, mpa_0, mpa_1, mpa_2, mpa_9, mpa_10, mpa_11, mpa_12, Int32.reduceToNatClampNeg, Int32.le_iff_toInt_le, Int32.lt_iff_toInt_lt, ← Int32.toInt_inj, nI_toInt, Int32.reduceToInt] at * <;> omega) | decide); conv => whnf)
      | ((with_reducible refine br_f ?_ ?_); (· first | with_reducible assumption | (simp (disch := omega) only [true_and, and_true, false_and, and_false, or_false, false_or, or_true, true_or, not_true_eq_false, not_false_eq_true, ev, ew, e1, mpa_0, mpa_1, mpa_2, mpa_9, mpa_10, mpa_11, mpa_12, Int32.reduceToNatClampNeg, Int32.le_iff_toInt_le, Int32.lt_iff_toInt_lt, ← Int32.toInt_inj, nI_toInt, Int32.reduceToInt] <;> omega) | assumption | (simp (disch := omega) only [isT, isP, two, Int32.toInt_sub, Int.bmod_def, true_and, and_true, false_and, and_false, or_false, false_or, or_true, true_or, not_true_eq_false, not_false_eq_true, ev, ew, e1, mpa_0, mpa_1, mpa_2, mpa_9, mpa_10, mpa_11, mpa_12, Int32.reduceToNatClampNeg, Int32.le_iff_toInt_le, Int32.lt_iff_toInt_lt, ← Int32.toInt_inj, nI_toInt, Int32.reduceToInt] at * <;> omega) | decide); conv => whnf)
      | ((with_reducible refine br_nt ?_ ?_); (· first | with_reducible assumption | (simp (disch := omega) only [true_and, and_true, false_and, and_false, or_false, false_or, or_true, true_or, not_true_eq_false, not_false_eq_true, ev, ew, e1, mpa_0, mpa_1, mpa_2, mpa_9, mpa_10, mpa_11, mpa_12, Int32.reduceToNatClampNeg, Int32.le_iff_toInt_le, Int32.lt_iff_toInt_lt, ← Int32.toInt_inj, nI_toInt, Int32.reduceToInt] <;> omega) | assumption | (simp (disch := omega) only [isT, isP, two, Int32.toInt_sub, Int.bmod_def, true_and, and_true, false_and, and_false, or_false, false_or, or_true, true_or, not_true_eq_false, not_false_eq_true, ev, ew, e1, mpa_0, mpa_1, mpa_2, mpa_9, mpa_10, mpa_11, mpa_12, Int32.reduceToNatClampNeg, Int32.le_iff_toInt_le, Int32.lt_iff_toInt_lt, ← Int32.toInt_inj, nI_toInt, Int32.reduceToInt] at * <;> omega) | decide); conv => whnf)
      | ((with_reducible refine br_nf ?_ ?_); (· first | with_reducible assumption | (simp (disch := omega) only [true_and, and_true, false_and, and_false, or_false, false_or, or_true, true_or, not_true_eq_false, not_false_eq_true, ev, ew, e1, mpa_0, mpa_1, mpa_2, mpa_9, mpa_10, mpa_11, mpa_12, Int32.reduceToNatClampNeg, Int32.le_iff_toInt_le, Int32.lt_iff_toInt_lt, ← Int32.toInt_inj, nI_toInt, Int32.reduceToInt] <;> omega) | assumption | (simp (disch := omega) only [isT, isP, two, Int32.toInt_sub, Int.bmod_def, true_and, and_true, false_and, and_false, or_false, false_or, or_true, true_or, not_true_eq_false, not_false_eq_true, ev, ew, e1, mpa_0, mpa_1, mpa_2, mpa_9, mpa_10, mpa_11, mpa_12, Int32.reduceToNatClampNeg, Int32.le_iff_toInt_le, Int32.lt_iff_toInt_lt, ← Int32.toInt_inj, nI_toInt, Int32.reduceToInt] at * <;> omega) | decide); conv => whnf)
      | ((with_reducible refine ckI ?_ ?_); (· first | ((with_reducible refine vp_in_nI ?_ ?_); (· omega); (· decide)) | exact vp_c (by decide) | exact ⟨_, rfl⟩ | exact Or.inl rfl | exact Or.inr rfl | exact b2_01 _); conv => whnf)
      | ((with_reducible apply cl_p); (case hM => with_reducible exact k8_fail1 _ _); (case hc => exact rfl); (case hd => first | decide | omega); conv => whnf)
      | ((with_reducible apply cl_p); (case hM => with_reducible exact k8_fail2 _ _); (case hc => exact rfl); (case hd => first | decide | omega); conv => whnf)
      | ((with_reducible apply cl_p); (case hM => with_reducible exact k8_fail3 _ _); (case hc => exact rfl); (case hd => first | decide | omega); conv => whnf)
      | ((with_reducible apply cl_p); (case hM => with_reducible exact k8_fail4 _ _); (case hc => exact rfl); (case hd => first | decide | omega); conv => whnf)
      | ((with_reducible apply cl_p); (case hM => with_reducible exact k8_fail5 _ _); (case hc => exact rfl); (case hd => first | decide | omega); conv => whnf)
      | ((with_reducible apply cl_p); (case hM => exact k7_taleOfN _ _ k hk hlt); (case hc => exact rfl); (case hd => first | decide | omega); conv => whnf)
      | ((with_reducible apply cl_p); (case hM => exact k7_taleOf_n _ _ t pn); (case hc => exact rfl); (case hd => first | decide | omega); conv => whnf)
      | ((with_reducible apply cl_p); (case hM => with_reducible exact k7_hasPlace _ _ _); (case hc => exact rfl); (case hd => first | decide | omega); conv => whnf)
      | ((with_reducible apply cl_p); (case hM => with_reducible exact k8_isWithin _ _ _ _); (case hc => exact rfl); (case hd => first | decide | omega); conv => whnf)
      | ((with_reducible apply cl_p); (case hM => exact hH); (case hc => exact rfl); (case hd => first | decide | omega); conv => whnf)
      | ((with_reducible apply cl_p); (case hM => with_reducible exact k8_asNumber _ _ _); (case hc => exact rfl); (case hd => first | decide | omega); conv => whnf)
      | ((with_reducible apply cl_g); (case hM => exact hB _ hw1); (case hc => exact rfl); (case hd => first | decide | omega); intro f76 g77; conv => whnf)
      | ((rw [hsh]); conv => whnf)
      | ((with_reducible refine fun r hr => ?_); (obtain rfl := l7 hr); conv => whnf)
      | ((with_reducible apply cl_i); (case hM => exact hWk); (case hc => exact rfl); (case hd => decide); (intro r0 ν0 hq0; obtain ⟨rfl, hw1, hw2⟩ := hq0); conv => whnf)
      | ((with_reducible refine ckJ ?_ ?_); conv => whnf)
      | fail
    all_goals (refine Pc8.of rfl (hRR.er _) ?_; intro i hi; simp (disch := omega) only [hi_wr])
    all_goals skip
  · rename_i hr h0
    obtain ⟨k, hk, rfl, hkn⟩ := in_T hN ‹isT (S 1) t›
    have hsh := shT hk
    have hlt : nI k < μ 1 9 := by
      rw [hRW.1.2.1]
      simp only [Int32.lt_iff_toInt_lt]
      rw [nI_toInt (by omega)]
      unfold nT at hkn
      omega
    obtain ⟨q, hq7, rfl, hqn⟩ := in_P hN ‹isP (S 1) v›
    have hpq : ((0 ≤ nI q ∧ nI q < μ 1 8) ∧ nI q < 7) := (isP_k hN hRW.1.1).mpr (by assumption)
    obtain ⟨a, ha7, eq4, eq5⟩ := at_k7 hN hk
    have ha : a < nP (S 1) := by
      have h := hN.2.2.2.2.2.2.2.2.2.1 k hkn
      have h0 := (hN.2.2.2.2.2.2.2.2.1 k hk).2.2.2.2.1.1
      have : nP (S 1) = (S 1 1).toInt.toNat := rfl
      omega
    have e4 : μ (6 + k) 4 = nI a := (hRW.2.2.2.2.1 k hk 4 (by decide)).trans eq4
    have hH := k7_hasRoadN X μ (S 1) a q ha hqn hN hRW
    rw [← e4] at hH
    have e10 : μ 1 10 = S 1 0 := hRW.1.2.2.1
    have h9 := hN.1
    unfold upto at h9
    have hrd : 0 < yd (S 1) a q := by
      have h := hr.2
      simp (disch := omega) only [nI_toInt, Int.toNat_natCast, eq5] at h
      exact h
    have h0 : ¬ S 1 0 = 9999 := by assumption
    have hs9 : ¬ 9999 ≤ μ 1 10 := by
      rw [e10]
      simp only [Int32.le_iff_toInt_le, ← Int32.toInt_inj, Int32.reduceToInt] at h0 ⊢
      omega
    have hWk := k7_walk X μ (S 1) k q hk hkn hqn hN hRW
    have hB : ∀ ν : Mem, RW (gS (S 1) k q) ν 1 → Mt X m_X7_isBelieved 5 [.ref 1, .ref (6 + k)] ν (fun r μ' => ∃ f g, r = some (.int (b2 (nB (gS (S 1) k q) k q))) ∧ μ' = sd ν f g) := by
      intro ν h
      have b := k7_isBelieved X ν (gS (S 1) k q) k hk (by rw [gS_2]; exact hkn) (WN.gs hN hk hqn h0) h
      rw [gS_4, nI_toInt (by omega), Int.toNat_natCast] at b
      exact b
    simp (disch := omega) only [nI_toInt, Int.toNat_natCast] at *
    refine Mt_of ck_X8_go mf_92 rfl ?_
    have hRR := hR
    clear hW hN hRW hR
    repeat' first
      | ((with_reducible refine gow ck_X8_go _ [] ?_); conv => whnf)
      | ((with_reducible refine bn_t ?_ ?_); (· first | with_reducible assumption | (simp (disch := omega) only [true_and, and_true, false_and, and_false, or_false, false_or, or_true, true_or, not_true_eq_false, not_false_eq_true, ev, ew, e1, mpa_0, mpa_1, mpa_2, mpa_9, mpa_10, mpa_11, mpa_12, Int32.reduceToNatClampNeg, Int32.le_iff_toInt_le, Int32.lt_iff_toInt_lt, ← Int32.toInt_inj, nI_toInt, Int32.reduceToInt] <;> omega) | assumption | (simp (disch := omega) only [isT, isP, two, Int32.toInt_sub, Int.bmod_def, true_and, and_true, false_and, and_false, or_false, false_or, or_true, true_or, not_true_eq_false, not_false_eq_true, ev, ew, e1, mpa_0, mpa_1, mpa_2, mpa_9, mpa_10, mpa_11, mpa_12, Int32.reduceToNatClampNeg, Int32.le_iff_toInt_le, Int32.lt_iff_toInt_lt, ← Int32.toInt_inj, nI_toInt, Int32.reduceToInt] at * <;> omega) | decide); conv => whnf)
      | ((with_reducible refine bn_f ?_ ?_); (· first | with_reducible assumption | (simp (disch := omega) only [true_and, and_true, false_and, and_false, or_false, false_or, or_true, true_or, not_true_eq_false, not_false_eq_true, ev, ew, e1, mpa_0, mpa_1, mpa_2, mpa_9, mpa_10, mpa_11, mpa_12, Int32.reduceToNatClampNeg, Int32.le_iff_toInt_le, Int32.lt_iff_toInt_lt, ← Int32.toInt_inj, nI_toInt, Int32.reduceToInt] <;> omega) | assumption | (simp (disch := omega) only [isT, isP, two, Int32.toInt_sub, Int.bmod_def, true_and, and_true, false_and, and_false, or_false, false_or, or_true, true_or, not_true_eq_false, not_false_eq_true, ev, ew, e1, mpa_0, mpa_1, mpa_2, mpa_9, mpa_10, mpa_11, mpa_12, Int32.reduceToNatClampNeg, Int32.le_iff_toInt_le, Int32.lt_iff_toInt_lt, ← Int32.toInt_inj, nI_toInt, Int32.reduceToInt] at * <;> omega) | decide); conv => whnf)
      | ((with_reducible refine bc_t ?_ ?_); (· first | with_reducible assumption | (simp (disch := omega) only [true_and, and_true, false_and, and_false, or_false, false_or, or_true, true_or, not_true_eq_false, not_false_eq_true, ev, ew, e1, mpa_0, mpa_1, mpa_2, mpa_9, mpa_10, mpa_11, mpa_12, Int32.reduceToNatClampNeg, Int32.le_iff_toInt_le, Int32.lt_iff_toInt_lt, ← Int32.toInt_inj, nI_toInt, Int32.reduceToInt] <;> omega) | assumption | (simp (disch := omega) only [isT, isP, two, Int32.toInt_sub, Int.bmod_def, true_and, and_true, false_and, and_false, or_false, false_or, or_true, true_or, not_true_eq_false, not_false_eq_true, ev, ew, e1, mpa_0, mpa_1, mpa_2, mpa_9, mpa_10, mpa_11, mpa_12, Int32.reduceToNatClampNeg, Int32.le_iff_toInt_le, Int32.lt_iff_toInt_lt, ← Int32.toInt_inj, nI_toInt, Int32.reduceToInt] at * <;> omega) | decide); conv => whnf)
      | ((with_reducible refine bc_f ?_ ?_); (· first | with_reducible assumption | (simp (disch := omega) only [true_and, and_true, false_and, and_false, or_false, false_or, or_true, true_or, not_true_eq_false, not_false_eq_true, ev, ew, e1, mpa_0, mpa_1, mpa_2, mpa_9, mpa_10, mpa_11, mpa_12, Int32.reduceToNatClampNeg, Int32.le_iff_toInt_le, Int32.lt_iff_toInt_lt, ← Int32.toInt_inj, nI_toInt, Int32.reduceToInt] <;> omega) | assumption | (simp (disch := omega) only [isT, isP, two, Int32.toInt_sub, Int.bmod_def, true_and, and_true, false_and, and_false, or_false, false_or, or_true, true_or, not_true_eq_false, not_false_eq_true, ev, ew, e1, mpa_0, mpa_1, mpa_2, mpa_9, mpa_10, mpa_11, mpa_12, Int32.reduceToNatClampNeg, Int32.le_iff_toInt_le, Int32.lt_iff_toInt_lt, ← Int32.toInt_inj, nI_toInt, Int32.reduceToInt] at * <;> omega) | decide); conv => whnf)
      | ((with_reducible refine br_t ?_ ?_); (· first | with_reducible assumption | (simp (disch := omega) only [true_and, and_true, false_and, and_false, or_false, false_or, or_true, true_or, not_true_eq_false, not_false_eq_true, ev, ew, e1, mpa_0, mpa_1, mpa_2, mpa_9, mpa_10, mpa_11, mpa_12, Int32.reduceToNatClampNeg, Int32.le_iff_toInt_le, Int32.lt_iff_toInt_lt, ← Int32.toInt_inj, nI_toInt, Int32.reduceToInt] <;> omega) | assumption | (simp (disch := omega) only [isT, isP, two, Int32.toInt_sub, Int.bmod_def, true_and, and_true, false_and, and_false, or_false, false_or, or_true, true_or, not_true_eq_false, not_false_eq_true, ev, ew, e1, mpa_0, mpa_1, mpa_2, mpa_9, mpa_10, mpa_11, mpa_12, Int32.reduceToNatClampNeg, Int32.le_iff_toInt_le, Int32.lt_iff_toInt_lt, ← Int32.toInt_inj, nI_toInt, Int32.reduceToInt] at * <;> omega) | decide); conv => whnf)
      | ((with_reducible refine br_f ?_ ?_); (· first | with_reducible assumption | (simp (disch := omega) only [true_and, and_true, false_and, and_false, or_false, false_or, or_true, true_or, not_true_eq_false, not_false_eq_true, ev, ew, e1, mpa_0, mpa_1, mpa_2, mpa_9, mpa_10, mpa_11, mpa_12, Int32.reduceToNatClampNeg, Int32.le_iff_toInt_le, Int32.lt_iff_toInt_lt, ← Int32.toInt_inj, nI_toInt, Int32.reduceToInt] <;> omega) | assumption | (simp (disch := omega) only [isT, isP, two, Int32.toInt_sub, Int.bmod_def, true_and, and_true, false_and, and_false, or_false, false_or, or_true, true_or, not_true_eq_false, not_false_eq_true, ev, ew, e1, mpa_0, mpa_1, mpa_2, mpa_9, mpa_10, mpa_11, mpa_12, Int32.reduceToNatClampNeg, Int32.le_iff_toInt_le, Int32.lt_iff_toInt_lt, ← Int32.toInt_inj, nI_toInt, Int32.reduceToInt] at * <;> omega) | decide); conv => whnf)
      | ((with_reducible refine br_nt ?_ ?_); (· first | with_reducible assumption | (simp (disch := omega) only [true_and, and_true, false_and, and_false, or_false, false_or, or_true, true_or, not_true_eq_false, not_false_eq_true, ev, ew, e1, mpa_0, mpa_1, mpa_2, mpa_9, mpa_10, mpa_11, mpa_12, Int32.reduceToNatClampNeg, Int32.le_iff_toInt_le, Int32.lt_iff_toInt_lt, ← Int32.toInt_inj, nI_toInt, Int32.reduceToInt] <;> omega) | assumption | (simp (disch := omega) only [isT, isP, two, Int32.toInt_sub, Int.bmod_def, true_and, and_true, false_and, and_false, or_false, false_or, or_true, true_or, not_true_eq_false, not_false_eq_true, ev, ew, e1, mpa_0, mpa_1, mpa_2, mpa_9, mpa_10, mpa_11, mpa_12, Int32.reduceToNatClampNeg, Int32.le_iff_toInt_le, Int32.lt_iff_toInt_lt, ← Int32.toInt_inj, nI_toInt, Int32.reduceToInt] at * <;> omega) | decide); conv => whnf)
      | ((with_reducible refine br_nf ?_ ?_); (· first | with_reducible assumption | (simp (disch := omega) only [true_and, and_true, false_and, and_false, or_false, false_or, or_true, true_or, not_true_eq_false, not_false_eq_true, ev, ew, e1, mpa_0, mpa_1, mpa_2, mpa_9, mpa_10, mpa_11, mpa_12, Int32.reduceToNatClampNeg, Int32.le_iff_toInt_le, Int32.lt_iff_toInt_lt, ← Int32.toInt_inj, nI_toInt, Int32.reduceToInt] <;> omega) | assumption | (simp (disch := omega) only [isT, isP, two, Int32.toInt_sub, Int.bmod_def, true_and, and_true, false_and, and_false, or_false, false_or, or_true, true_or, not_true_eq_false, not_false_eq_true, ev, ew, e1, mpa_0, mpa_1, mpa_2, mpa_9, mpa_10, mpa_11, mpa_12, Int32.reduceToNatClampNeg, Int32.le_iff_toInt_le, Int32.lt_iff_toInt_lt, ← Int32.toInt_inj, nI_toInt, Int32.reduceToInt] at * <;> omega) | decide); conv => whnf)
      | ((with_reducible refine ckI ?_ ?_); (· first | ((with_reducible refine vp_in_nI ?_ ?_); (· omega); (· decide)) | exact vp_c (by decide) | exact ⟨_, rfl⟩ | exact Or.inl rfl | exact Or.inr rfl | exact b2_01 _); conv => whnf)
      | ((with_reducible apply cl_p); (case hM => with_reducible exact k8_fail1 _ _); (case hc => exact rfl); (case hd => first | decide | omega); conv => whnf)
      | ((with_reducible apply cl_p); (case hM => with_reducible exact k8_fail2 _ _); (case hc => exact rfl); (case hd => first | decide | omega); conv => whnf)
      | ((with_reducible apply cl_p); (case hM => with_reducible exact k8_fail3 _ _); (case hc => exact rfl); (case hd => first | decide | omega); conv => whnf)
      | ((with_reducible apply cl_p); (case hM => with_reducible exact k8_fail4 _ _); (case hc => exact rfl); (case hd => first | decide | omega); conv => whnf)
      | ((with_reducible apply cl_p); (case hM => with_reducible exact k8_fail5 _ _); (case hc => exact rfl); (case hd => first | decide | omega); conv => whnf)
      | ((with_reducible apply cl_p); (case hM => exact k7_taleOfN _ _ k hk hlt); (case hc => exact rfl); (case hd => first | decide | omega); conv => whnf)
      | ((with_reducible apply cl_p); (case hM => exact k7_taleOf_n _ _ t pn); (case hc => exact rfl); (case hd => first | decide | omega); conv => whnf)
      | ((with_reducible apply cl_p); (case hM => with_reducible exact k7_hasPlace _ _ _); (case hc => exact rfl); (case hd => first | decide | omega); conv => whnf)
      | ((with_reducible apply cl_p); (case hM => with_reducible exact k8_isWithin _ _ _ _); (case hc => exact rfl); (case hd => first | decide | omega); conv => whnf)
      | ((with_reducible apply cl_p); (case hM => exact hH); (case hc => exact rfl); (case hd => first | decide | omega); conv => whnf)
      | ((with_reducible apply cl_p); (case hM => with_reducible exact k8_asNumber _ _ _); (case hc => exact rfl); (case hd => first | decide | omega); conv => whnf)
      | ((with_reducible apply cl_g); (case hM => exact hB _ hw1); (case hc => exact rfl); (case hd => first | decide | omega); intro f76 g77; conv => whnf)
      | ((rw [hsh]); conv => whnf)
      | ((with_reducible refine fun r hr => ?_); (obtain rfl := l7 hr); conv => whnf)
      | ((with_reducible apply cl_i); (case hM => exact hWk); (case hc => exact rfl); (case hd => decide); (intro r0 ν0 hq0; obtain ⟨rfl, hw1, hw2⟩ := hq0); conv => whnf)
      | ((with_reducible refine ckJ ?_ ?_); conv => whnf)
      | fail
    all_goals first
      | exact rcT hk
      | (refine Pc8.of rfl ?_ ?_
         · refine hRR.sf1 (hw1.sdk _ _) (fun i hi => ?_)
           rw [sd_ne (by omega) (by omega)]
           exact hw2 i hi
         · intro i hi
           rw [sd_ne (by omega) (by omega)]
           exact hw2 i (Or.inr (by omega)))
  · rename_i hr
    obtain ⟨k, hk, rfl, hkn⟩ := in_T hN ‹isT (S 1) t›
    have hsh := shT hk
    have hlt : nI k < μ 1 9 := by
      rw [hRW.1.2.1]
      simp only [Int32.lt_iff_toInt_lt]
      rw [nI_toInt (by omega)]
      unfold nT at hkn
      omega
    obtain ⟨q, hq7, rfl, hqn⟩ := in_P hN ‹isP (S 1) v›
    have hpq : ((0 ≤ nI q ∧ nI q < μ 1 8) ∧ nI q < 7) := (isP_k hN hRW.1.1).mpr (by assumption)
    obtain ⟨a, ha7, eq4, eq5⟩ := at_k7 hN hk
    have ha : a < nP (S 1) := by
      have h := hN.2.2.2.2.2.2.2.2.2.1 k hkn
      have h0 := (hN.2.2.2.2.2.2.2.2.1 k hk).2.2.2.2.1.1
      have : nP (S 1) = (S 1 1).toInt.toNat := rfl
      omega
    have e4 : μ (6 + k) 4 = nI a := (hRW.2.2.2.2.1 k hk 4 (by decide)).trans eq4
    have hH := k7_hasRoadN X μ (S 1) a q ha hqn hN hRW
    rw [← e4] at hH
    have e10 : μ 1 10 = S 1 0 := hRW.1.2.2.1
    have h9 := hN.1
    unfold upto at h9
    have hrd : ¬ 0 < yd (S 1) a q := by
      intro h
      refine hr ⟨by assumption, ?_⟩
      simp (disch := omega) only [nI_toInt, Int.toNat_natCast, eq5]
      exact h
    simp (disch := omega) only [nI_toInt, Int.toNat_natCast] at *
    refine Mt_of ck_X8_go mf_92 rfl ?_
    have hRR := hR
    clear hW hN hRW hR
    repeat' first
      | ((with_reducible refine gow ck_X8_go _ [] ?_); conv => whnf)
      | ((with_reducible refine bn_t ?_ ?_); (· first | with_reducible assumption | (simp (disch := omega) only [true_and, and_true, false_and, and_false, or_false, false_or, or_true, true_or, not_true_eq_false, not_false_eq_true, ev, ew, e1, mpa_0, mpa_1, mpa_2, mpa_9, mpa_10, mpa_11, mpa_12, Int32.reduceToNatClampNeg, Int32.le_iff_toInt_le, Int32.lt_iff_toInt_lt, ← Int32.toInt_inj, nI_toInt, Int32.reduceToInt] <;> omega) | assumption | (simp (disch := omega) only [isT, isP, two, Int32.toInt_sub, Int.bmod_def, true_and, and_true, false_and, and_false, or_false, false_or, or_true, true_or, not_true_eq_false, not_false_eq_true, ev, ew, e1, mpa_0, mpa_1, mpa_2, mpa_9, mpa_10, mpa_11, mpa_12, Int32.reduceToNatClampNeg, Int32.le_iff_toInt_le, Int32.lt_iff_toInt_lt, ← Int32.toInt_inj, nI_toInt, Int32.reduceToInt] at * <;> omega) | decide); conv => whnf)
      | ((with_reducible refine bn_f ?_ ?_); (· first | with_reducible assumption | (simp (disch := omega) only [true_and, and_true, false_and, and_false, or_false, false_or, or_true, true_or, not_true_eq_false, not_false_eq_true, ev, ew, e1, mpa_0, mpa_1, mpa_2, mpa_9, mpa_10, mpa_11, mpa_12, Int32.reduceToNatClampNeg, Int32.le_iff_toInt_le, Int32.lt_iff_toInt_lt, ← Int32.toInt_inj, nI_toInt, Int32.reduceToInt] <;> omega) | assumption | (simp (disch := omega) only [isT, isP, two, Int32.toInt_sub, Int.bmod_def, true_and, and_true, false_and, and_false, or_false, false_or, or_true, true_or, not_true_eq_false, not_false_eq_true, ev, ew, e1, mpa_0, mpa_1, mpa_2, mpa_9, mpa_10, mpa_11, mpa_12, Int32.reduceToNatClampNeg, Int32.le_iff_toInt_le, Int32.lt_iff_toInt_lt, ← Int32.toInt_inj, nI_toInt, Int32.reduceToInt] at * <;> omega) | decide); conv => whnf)
      | ((with_reducible refine bc_t ?_ ?_); (· first | with_reducible assumption | (simp (disch := omega) only [true_and, and_true, false_and, and_false, or_false, false_or, or_true, true_or, not_true_eq_false, not_false_eq_true, ev, ew, e1, mpa_0, mpa_1, mpa_2, mpa_9, mpa_10, mpa_11, mpa_12, Int32.reduceToNatClampNeg, Int32.le_iff_toInt_le, Int32.lt_iff_toInt_lt, ← Int32.toInt_inj, nI_toInt, Int32.reduceToInt] <;> omega) | assumption | (simp (disch := omega) only [isT, isP, two, Int32.toInt_sub, Int.bmod_def, true_and, and_true, false_and, and_false, or_false, false_or, or_true, true_or, not_true_eq_false, not_false_eq_true, ev, ew, e1, mpa_0, mpa_1, mpa_2, mpa_9, mpa_10, mpa_11, mpa_12, Int32.reduceToNatClampNeg, Int32.le_iff_toInt_le, Int32.lt_iff_toInt_lt, ← Int32.toInt_inj, nI_toInt, Int32.reduceToInt] at * <;> omega) | decide); conv => whnf)
      | ((with_reducible refine bc_f ?_ ?_); (· first | with_reducible assumption | (simp (disch := omega) only [true_and, and_true, false_and, and_false, or_false, false_or, or_true, true_or, not_true_eq_false, not_false_eq_true, ev, ew, e1, mpa_0, mpa_1, mpa_2, mpa_9, mpa_10, mpa_11, mpa_12, Int32.reduceToNatClampNeg, Int32.le_iff_toInt_le, Int32.lt_iff_toInt_lt, ← Int32.toInt_inj, nI_toInt, Int32.reduceToInt] <;> omega) | assumption | (simp (disch := omega) only [isT, isP, two, Int32.toInt_sub, Int.bmod_def, true_and, and_true, false_and, and_false, or_false, false_or, or_true, true_or, not_true_eq_false, not_false_eq_true, ev, ew, e1, mpa_0, mpa_1, mpa_2, mpa_9, mpa_10, mpa_11, mpa_12, Int32.reduceToNatClampNeg, Int32.le_iff_toInt_le, Int32.lt_iff_toInt_lt, ← Int32.toInt_inj, nI_toInt, Int32.reduceToInt] at * <;> omega) | decide); conv => whnf)
      | ((with_reducible refine br_t ?_ ?_); (· first | with_reducible assumption | (simp (disch := omega) only [true_and, and_true, false_and, and_false, or_false, false_or, or_true, true_or, not_true_eq_false, not_false_eq_true, ev, ew, e1, mpa_0, mpa_1, mpa_2, mpa_9, mpa_10, mpa_11, mpa_12, Int32.reduceToNatClampNeg, Int32.le_iff_toInt_le, Int32.lt_iff_toInt_lt, ← Int32.toInt_inj, nI_toInt, Int32.reduceToInt] <;> omega) | assumption | (simp (disch := omega) only [isT, isP, two, Int32.toInt_sub, Int.bmod_def, true_and, and_true, false_and, and_false, or_false, false_or, or_true, true_or, not_true_eq_false, not_false_eq_true, ev, ew, e1, mpa_0, mpa_1, mpa_2, mpa_9, mpa_10, mpa_11, mpa_12, Int32.reduceToNatClampNeg, Int32.le_iff_toInt_le, Int32.lt_iff_toInt_lt, ← Int32.toInt_inj, nI_toInt, Int32.reduceToInt] at * <;> omega) | decide); conv => whnf)
      | ((with_reducible refine br_f ?_ ?_); (· first | with_reducible assumption | (simp (disch := omega) only [true_and, and_true, false_and, and_false, or_false, false_or, or_true, true_or, not_true_eq_false, not_false_eq_true, ev, ew, e1, mpa_0, mpa_1, mpa_2, mpa_9, mpa_10, mpa_11, mpa_12, Int32.reduceToNatClampNeg, Int32.le_iff_toInt_le, Int32.lt_iff_toInt_lt, ← Int32.toInt_inj, nI_toInt, Int32.reduceToInt] <;> omega) | assumption | (simp (disch := omega) only [isT, isP, two, Int32.toInt_sub, Int.bmod_def, true_and, and_true, false_and, and_false, or_false, false_or, or_true, true_or, not_true_eq_false, not_false_eq_true, ev, ew, e1, mpa_0, mpa_1, mpa_2, mpa_9, mpa_10, mpa_11, mpa_12, Int32.reduceToNatClampNeg, Int32.le_iff_toInt_le, Int32.lt_iff_toInt_lt, ← Int32.toInt_inj, nI_toInt, Int32.reduceToInt] at * <;> omega) | decide); conv => whnf)
      | ((with_reducible refine br_nt ?_ ?_); (· first | with_reducible assumption | (simp (disch := omega) only [true_and, and_true, false_and, and_false, or_false, false_or, or_true, true_or, not_true_eq_false, not_false_eq_true, ev, ew, e1, mpa_0, mpa_1, mpa_2, mpa_9, mpa_10, mpa_11, mpa_12, Int32.reduceToNatClampNeg, Int32.le_iff_toInt_le, Int32.lt_iff_toInt_lt, ← Int32.toInt_inj, nI_toInt, Int32.reduceToInt] <;> omega) | assumption | (simp (disch := omega) only [isT, isP, two, Int32.toInt_sub, Int.bmod_def, true_and, and_true, false_and, and_false, or_false, false_or, or_true, true_or, not_true_eq_false, not_false_eq_true, ev, ew, e1, mpa_0, mpa_1, mpa_2, mpa_9, mpa_10, mpa_11, mpa_12, Int32.reduceToNatClampNeg, Int32.le_iff_toInt_le, Int32.lt_iff_toInt_lt, ← Int32.toInt_inj, nI_toInt, Int32.reduceToInt] at * <;> omega) | decide); conv => whnf)
      | ((with_reducible refine br_nf ?_ ?_); (· first | with_reducible assumption | (simp (disch := omega) only [true_and, and_true, false_and, and_false, or_false, false_or, or_true, true_or, not_true_eq_false, not_false_eq_true, ev, ew, e1, mpa_0, mpa_1, mpa_2, mpa_9, mpa_10, mpa_11, mpa_12, Int32.reduceToNatClampNeg, Int32.le_iff_toInt_le, Int32.lt_iff_toInt_lt, ← Int32.toInt_inj, nI_toInt, Int32.reduceToInt] <;> omega) | assumption | (simp (disch := omega) only [isT, isP, two, Int32.toInt_sub, Int.bmod_def, true_and, and_true, false_and, and_false, or_false, false_or, or_true, true_or, not_true_eq_false, not_false_eq_true, ev, ew, e1, mpa_0, mpa_1, mpa_2, mpa_9, mpa_10, mpa_11, mpa_12, Int32.reduceToNatClampNeg, Int32.le_iff_toInt_le, Int32.lt_iff_toInt_lt, ← Int32.toInt_inj, nI_toInt, Int32.reduceToInt] at * <;> omega) | decide); conv => whnf)
      | ((with_reducible refine ckI ?_ ?_); (· first | ((with_reducible refine vp_in_nI ?_ ?_); (· omega); (· decide)) | exact vp_c (by decide) | exact ⟨_, rfl⟩ | exact Or.inl rfl | exact Or.inr rfl | exact b2_01 _); conv => whnf)
      | ((with_reducible apply cl_p); (case hM => with_reducible exact k8_fail1 _ _); (case hc => exact rfl); (case hd => first | decide | omega); conv => whnf)
      | ((with_reducible apply cl_p); (case hM => with_reducible exact k8_fail2 _ _); (case hc => exact rfl); (case hd => first | decide | omega); conv => whnf)
      | ((with_reducible apply cl_p); (case hM => with_reducible exact k8_fail3 _ _); (case hc => exact rfl); (case hd => first | decide | omega); conv => whnf)
      | ((with_reducible apply cl_p); (case hM => with_reducible exact k8_fail4 _ _); (case hc => exact rfl); (case hd => first | decide | omega); conv => whnf)
      | ((with_reducible apply cl_p); (case hM => with_reducible exact k8_fail5 _ _); (case hc => exact rfl); (case hd => first | decide | omega); conv => whnf)
      | ((with_reducible apply cl_p); (case hM => exact k7_taleOfN _ _ k hk hlt); (case hc => exact rfl); (case hd => first | decide | omega); conv => whnf)
      | ((with_reducible apply cl_p); (case hM => exact k7_taleOf_n _ _ t pn); (case hc => exact rfl); (case hd => first | decide | omega); conv => whnf)
      | ((with_reducible apply cl_p); (case hM => with_reducible exact k7_hasPlace _ _ _); (case hc => exact rfl); (case hd => first | decide | omega); conv => whnf)
      | ((with_reducible apply cl_p); (case hM => with_reducible exact k8_isWithin _ _ _ _); (case hc => exact rfl); (case hd => first | decide | omega); conv => whnf)
      | ((with_reducible apply cl_p); (case hM => exact hH); (case hc => exact rfl); (case hd => first | decide | omega); conv => whnf)
      | ((with_reducible apply cl_p); (case hM => with_reducible exact k8_asNumber _ _ _); (case hc => exact rfl); (case hd => first | decide | omega); conv => whnf)
      | ((with_reducible apply cl_g); (case hM => exact hB _ hw1); (case hc => exact rfl); (case hd => first | decide | omega); intro f76 g77; conv => whnf)
      | ((rw [hsh]); conv => whnf)
      | ((with_reducible refine fun r hr => ?_); (obtain rfl := l7 hr); conv => whnf)
      | ((with_reducible apply cl_i); (case hM => exact hWk); (case hc => exact rfl); (case hd => decide); (intro r0 ν0 hq0; obtain ⟨rfl, hw1, hw2⟩ := hq0); conv => whnf)
      | ((with_reducible refine ckJ ?_ ?_); conv => whnf)
      | fail
    all_goals (refine Pc8.of rfl (hRR.er _) ?_; intro i hi; simp (disch := omega) only [hi_wr])
  · obtain ⟨k, hk, rfl, hkn⟩ := in_T hN ‹isT (S 1) t›
    have hsh := shT hk
    have hlt : nI k < μ 1 9 := by
      rw [hRW.1.2.1]
      simp only [Int32.lt_iff_toInt_lt]
      rw [nI_toInt (by omega)]
      unfold nT at hkn
      omega
    have hpn : ¬ ((0 ≤ v ∧ v < μ 1 8) ∧ v < 7) := by
      have h : ¬ isP (S 1) v := by assumption
      exact fun z => h ((isP_k hN hRW.1.1).mp z)
    refine Mt_of ck_X8_go mf_92 rfl ?_
    have hRR := hR
    clear hW hN hRW hR
    repeat' first
      | ((with_reducible refine gow ck_X8_go _ [] ?_); conv => whnf)
      | ((with_reducible refine bn_t ?_ ?_); (· first | with_reducible assumption | (simp (disch := omega) only [true_and, and_true, false_and, and_false, or_false, false_or, or_true, true_or, not_true_eq_false, not_false_eq_true, ev, ew, e1, mpa_0, mpa_1, mpa_2, mpa_9, mpa_10, mpa_11, mpa_12, Int32.reduceToNatClampNeg, Int32.le_iff_toInt_le, Int32.lt_iff_toInt_lt, ← Int32.toInt_inj, nI_toInt, Int32.reduceToInt] <;> omega) | assumption | (simp (disch := omega) only [isT, isP, two, Int32.toInt_sub, Int.bmod_def, true_and, and_true, false_and, and_false, or_false, false_or, or_true, true_or, not_true_eq_false, not_false_eq_true, ev, ew, e1, mpa_0, mpa_1, mpa_2, mpa_9, mpa_10, mpa_11, mpa_12, Int32.reduceToNatClampNeg, Int32.le_iff_toInt_le, Int32.lt_iff_toInt_lt, ← Int32.toInt_inj, nI_toInt, Int32.reduceToInt] at * <;> omega) | decide); conv => whnf)
      | ((with_reducible refine bn_f ?_ ?_); (· first | with_reducible assumption | (simp (disch := omega) only [true_and, and_true, false_and, and_false, or_false, false_or, or_true, true_or, not_true_eq_false, not_false_eq_true, ev, ew, e1, mpa_0, mpa_1, mpa_2, mpa_9, mpa_10, mpa_11, mpa_12, Int32.reduceToNatClampNeg, Int32.le_iff_toInt_le, Int32.lt_iff_toInt_lt, ← Int32.toInt_inj, nI_toInt, Int32.reduceToInt] <;> omega) | assumption | (simp (disch := omega) only [isT, isP, two, Int32.toInt_sub, Int.bmod_def, true_and, and_true, false_and, and_false, or_false, false_or, or_true, true_or, not_true_eq_false, not_false_eq_true, ev, ew, e1, mpa_0, mpa_1, mpa_2, mpa_9, mpa_10, mpa_11, mpa_12, Int32.reduceToNatClampNeg, Int32.le_iff_toInt_le, Int32.lt_iff_toInt_lt, ← Int32.toInt_inj, nI_toInt, Int32.reduceToInt] at * <;> omega) | decide); conv => whnf)
      | ((with_reducible refine bc_t ?_ ?_); (· first | with_reducible assumption | (simp (disch := omega) only [true_and, and_true, false_and, and_false, or_false, false_or, or_true, true_or, not_true_eq_false, not_false_eq_true, ev, ew, e1, mpa_0, mpa_1, mpa_2, mpa_9, mpa_10, mpa_11, mpa_12, Int32.reduceToNatClampNeg, Int32.le_iff_toInt_le, Int32.lt_iff_toInt_lt, ← Int32.toInt_inj, nI_toInt, Int32.reduceToInt] <;> omega) | assumption | (simp (disch := omega) only [isT, isP, two, Int32.toInt_sub, Int.bmod_def, true_and, and_true, false_and, and_false, or_false, false_or, or_true, true_or, not_true_eq_false, not_false_eq_true, ev, ew, e1, mpa_0, mpa_1, mpa_2, mpa_9, mpa_10, mpa_11, mpa_12, Int32.reduceToNatClampNeg, Int32.le_iff_toInt_le, Int32.lt_iff_toInt_lt, ← Int32.toInt_inj, nI_toInt, Int32.reduceToInt] at * <;> omega) | decide); conv => whnf)
      | ((with_reducible refine bc_f ?_ ?_); (· first | with_reducible assumption | (simp (disch := omega) only [true_and, and_true, false_and, and_false, or_false, false_or, or_true, true_or, not_true_eq_false, not_false_eq_true, ev, ew, e1, mpa_0, mpa_1, mpa_2, mpa_9, mpa_10, mpa_11, mpa_12, Int32.reduceToNatClampNeg, Int32.le_iff_toInt_le, Int32.lt_iff_toInt_lt, ← Int32.toInt_inj, nI_toInt, Int32.reduceToInt] <;> omega) | assumption | (simp (disch := omega) only [isT, isP, two, Int32.toInt_sub, Int.bmod_def, true_and, and_true, false_and, and_false, or_false, false_or, or_true, true_or, not_true_eq_false, not_false_eq_true, ev, ew, e1, mpa_0, mpa_1, mpa_2, mpa_9, mpa_10, mpa_11, mpa_12, Int32.reduceToNatClampNeg, Int32.le_iff_toInt_le, Int32.lt_iff_toInt_lt, ← Int32.toInt_inj, nI_toInt, Int32.reduceToInt] at * <;> omega) | decide); conv => whnf)
      | ((with_reducible refine br_t ?_ ?_); (· first | with_reducible assumption | (simp (disch := omega) only [true_and, and_true, false_and, and_false, or_false, false_or, or_true, true_or, not_true_eq_false, not_false_eq_true, ev, ew, e1, mpa_0, mpa_1, mpa_2, mpa_9, mpa_10, mpa_11, mpa_12, Int32.reduceToNatClampNeg, Int32.le_iff_toInt_le, Int32.lt_iff_toInt_lt, ← Int32.toInt_inj, nI_toInt, Int32.reduceToInt] <;> omega) | assumption | (simp (disch := omega) only [isT, isP, two, Int32.toInt_sub, Int.bmod_def, true_and, and_true, false_and, and_false, or_false, false_or, or_true, true_or, not_true_eq_false, not_false_eq_true, ev, ew, e1, mpa_0, mpa_1, mpa_2, mpa_9, mpa_10, mpa_11, mpa_12, Int32.reduceToNatClampNeg, Int32.le_iff_toInt_le, Int32.lt_iff_toInt_lt, ← Int32.toInt_inj, nI_toInt, Int32.reduceToInt] at * <;> omega) | decide); conv => whnf)
      | ((with_reducible refine br_f ?_ ?_); (· first | with_reducible assumption | (simp (disch := omega) only [true_and, and_true, false_and, and_false, or_false, false_or, or_true, true_or, not_true_eq_false, not_false_eq_true, ev, ew, e1, mpa_0, mpa_1, mpa_2, mpa_9, mpa_10, mpa_11, mpa_12, Int32.reduceToNatClampNeg, Int32.le_iff_toInt_le, Int32.lt_iff_toInt_lt, ← Int32.toInt_inj, nI_toInt, Int32.reduceToInt] <;> omega) | assumption | (simp (disch := omega) only [isT, isP, two, Int32.toInt_sub, Int.bmod_def, true_and, and_true, false_and, and_false, or_false, false_or, or_true, true_or, not_true_eq_false, not_false_eq_true, ev, ew, e1, mpa_0, mpa_1, mpa_2, mpa_9, mpa_10, mpa_11, mpa_12, Int32.reduceToNatClampNeg, Int32.le_iff_toInt_le, Int32.lt_iff_toInt_lt, ← Int32.toInt_inj, nI_toInt, Int32.reduceToInt] at * <;> omega) | decide); conv => whnf)
      | ((with_reducible refine br_nt ?_ ?_); (· first | with_reducible assumption | (simp (disch := omega) only [true_and, and_true, false_and, and_false, or_false, false_or, or_true, true_or, not_true_eq_false, not_false_eq_true, ev, ew, e1, mpa_0, mpa_1, mpa_2, mpa_9, mpa_10, mpa_11, mpa_12, Int32.reduceToNatClampNeg, Int32.le_iff_toInt_le, Int32.lt_iff_toInt_lt, ← Int32.toInt_inj, nI_toInt, Int32.reduceToInt] <;> omega) | assumption | (simp (disch := omega) only [isT, isP, two, Int32.toInt_sub, Int.bmod_def, true_and, and_true, false_and, and_false, or_false, false_or, or_true, true_or, not_true_eq_false, not_false_eq_true, ev, ew, e1, mpa_0, mpa_1, mpa_2, mpa_9, mpa_10, mpa_11, mpa_12, Int32.reduceToNatClampNeg, Int32.le_iff_toInt_le, Int32.lt_iff_toInt_lt, ← Int32.toInt_inj, nI_toInt, Int32.reduceToInt] at * <;> omega) | decide); conv => whnf)
      | ((with_reducible refine br_nf ?_ ?_); (· first | with_reducible assumption | (simp (disch := omega) only [true_and, and_true, false_and, and_false, or_false, false_or, or_true, true_or, not_true_eq_false, not_false_eq_true, ev, ew, e1, mpa_0, mpa_1, mpa_2, mpa_9, mpa_10, mpa_11, mpa_12, Int32.reduceToNatClampNeg, Int32.le_iff_toInt_le, Int32.lt_iff_toInt_lt, ← Int32.toInt_inj, nI_toInt, Int32.reduceToInt] <;> omega) | assumption | (simp (disch := omega) only [isT, isP, two, Int32.toInt_sub, Int.bmod_def, true_and, and_true, false_and, and_false, or_false, false_or, or_true, true_or, not_true_eq_false, not_false_eq_true, ev, ew, e1, mpa_0, mpa_1, mpa_2, mpa_9, mpa_10, mpa_11, mpa_12, Int32.reduceToNatClampNeg, Int32.le_iff_toInt_le, Int32.lt_iff_toInt_lt, ← Int32.toInt_inj, nI_toInt, Int32.reduceToInt] at * <;> omega) | decide); conv => whnf)
      | ((with_reducible refine ckI ?_ ?_); (· first | ((with_reducible refine vp_in_nI ?_ ?_); (· omega); (· decide)) | exact vp_c (by decide) | exact ⟨_, rfl⟩ | exact Or.inl rfl | exact Or.inr rfl | exact b2_01 _); conv => whnf)
      | ((with_reducible apply cl_p); (case hM => with_reducible exact k8_fail1 _ _); (case hc => exact rfl); (case hd => first | decide | omega); conv => whnf)
      | ((with_reducible apply cl_p); (case hM => with_reducible exact k8_fail2 _ _); (case hc => exact rfl); (case hd => first | decide | omega); conv => whnf)
      | ((with_reducible apply cl_p); (case hM => with_reducible exact k8_fail3 _ _); (case hc => exact rfl); (case hd => first | decide | omega); conv => whnf)
      | ((with_reducible apply cl_p); (case hM => with_reducible exact k8_fail4 _ _); (case hc => exact rfl); (case hd => first | decide | omega); conv => whnf)
      | ((with_reducible apply cl_p); (case hM => with_reducible exact k8_fail5 _ _); (case hc => exact rfl); (case hd => first | decide | omega); conv => whnf)
      | ((with_reducible apply cl_p); (case hM => exact k7_taleOfN _ _ k hk hlt); (case hc => exact rfl); (case hd => first | decide | omega); conv => whnf)
      | ((with_reducible apply cl_p); (case hM => exact k7_taleOf_n _ _ t pn); (case hc => exact rfl); (case hd => first | decide | omega); conv => whnf)
      | ((with_reducible apply cl_p); (case hM => with_reducible exact k7_hasPlace _ _ _); (case hc => exact rfl); (case hd => first | decide | omega); conv => whnf)
      | ((with_reducible apply cl_p); (case hM => with_reducible exact k8_isWithin _ _ _ _); (case hc => exact rfl); (case hd => first | decide | omega); conv => whnf)
      | ((with_reducible apply cl_p); (case hM => exact hH); (case hc => exact rfl); (case hd => first | decide | omega); conv => whnf)
      | ((with_reducible apply cl_p); (case hM => with_reducible exact k8_asNumber _ _ _); (case hc => exact rfl); (case hd => first | decide | omega); conv => whnf)
      | ((with_reducible apply cl_g); (case hM => exact hB _ hw1); (case hc => exact rfl); (case hd => first | decide | omega); intro f76 g77; conv => whnf)
      | ((rw [hsh]); conv => whnf)
      | ((with_reducible refine fun r hr => ?_); (obtain rfl := l7 hr); conv => whnf)
      | ((with_reducible apply cl_i); (case hM => exact hWk); (case hc => exact rfl); (case hd => decide); (intro r0 ν0 hq0; obtain ⟨rfl, hw1, hw2⟩ := hq0); conv => whnf)
      | ((with_reducible refine ckJ ?_ ?_); conv => whnf)
      | fail
    all_goals (refine Pc8.of rfl (hRR.er _) ?_; intro i hi; simp (disch := omega) only [hi_wr])
  · have pn : ¬ ((0 ≤ t ∧ t < μ 1 9) ∧ t < 7) := by
      have h : ¬ isT (S 1) t := by assumption
      rw [hRW.1.2.1]; exact fun q => h ((isN_k (M := 7) hN.2.2.1).mp q)
    refine Mt_of ck_X8_go mf_92 rfl ?_
    have hRR := hR
    clear hW hN hRW hR
    repeat' first
      | ((with_reducible refine gow ck_X8_go _ [] ?_); conv => whnf)
      | ((with_reducible refine bn_t ?_ ?_); (· first | with_reducible assumption | (simp (disch := omega) only [true_and, and_true, false_and, and_false, or_false, false_or, or_true, true_or, not_true_eq_false, not_false_eq_true, ev, ew, e1, mpa_0, mpa_1, mpa_2, mpa_9, mpa_10, mpa_11, mpa_12, Int32.reduceToNatClampNeg, Int32.le_iff_toInt_le, Int32.lt_iff_toInt_lt, ← Int32.toInt_inj, nI_toInt, Int32.reduceToInt] <;> omega) | assumption | (simp (disch := omega) only [isT, isP, two, Int32.toInt_sub, Int.bmod_def, true_and, and_true, false_and, and_false, or_false, false_or, or_true, true_or, not_true_eq_false, not_false_eq_true, ev, ew, e1, mpa_0, mpa_1, mpa_2, mpa_9, mpa_10, mpa_11, mpa_12, Int32.reduceToNatClampNeg, Int32.le_iff_toInt_le, Int32.lt_iff_toInt_lt, ← Int32.toInt_inj, nI_toInt, Int32.reduceToInt] at * <;> omega) | decide); conv => whnf)
      | ((with_reducible refine bn_f ?_ ?_); (· first | with_reducible assumption | (simp (disch := omega) only [true_and, and_true, false_and, and_false, or_false, false_or, or_true, true_or, not_true_eq_false, not_false_eq_true, ev, ew, e1, mpa_0, mpa_1, mpa_2, mpa_9, mpa_10, mpa_11, mpa_12, Int32.reduceToNatClampNeg, Int32.le_iff_toInt_le, Int32.lt_iff_toInt_lt, ← Int32.toInt_inj, nI_toInt, Int32.reduceToInt] <;> omega) | assumption | (simp (disch := omega) only [isT, isP, two, Int32.toInt_sub, Int.bmod_def, true_and, and_true, false_and, and_false, or_false, false_or, or_true, true_or, not_true_eq_false, not_false_eq_true, ev, ew, e1, mpa_0, mpa_1, mpa_2, mpa_9, mpa_10, mpa_11, mpa_12, Int32.reduceToNatClampNeg, Int32.le_iff_toInt_le, Int32.lt_iff_toInt_lt, ← Int32.toInt_inj, nI_toInt, Int32.reduceToInt] at * <;> omega) | decide); conv => whnf)
      | ((with_reducible refine bc_t ?_ ?_); (· first | with_reducible assumption | (simp (disch := omega) only [true_and, and_true, false_and, and_false, or_false, false_or, or_true, true_or, not_true_eq_false, not_false_eq_true, ev, ew, e1, mpa_0, mpa_1, mpa_2, mpa_9, mpa_10, mpa_11, mpa_12, Int32.reduceToNatClampNeg, Int32.le_iff_toInt_le, Int32.lt_iff_toInt_lt, ← Int32.toInt_inj, nI_toInt, Int32.reduceToInt] <;> omega) | assumption | (simp (disch := omega) only [isT, isP, two, Int32.toInt_sub, Int.bmod_def, true_and, and_true, false_and, and_false, or_false, false_or, or_true, true_or, not_true_eq_false, not_false_eq_true, ev, ew, e1, mpa_0, mpa_1, mpa_2, mpa_9, mpa_10, mpa_11, mpa_12, Int32.reduceToNatClampNeg, Int32.le_iff_toInt_le, Int32.lt_iff_toInt_lt, ← Int32.toInt_inj, nI_toInt, Int32.reduceToInt] at * <;> omega) | decide); conv => whnf)
      | ((with_reducible refine bc_f ?_ ?_); (· first | with_reducible assumption | (simp (disch := omega) only [true_and, and_true, false_and, and_false, or_false, false_or, or_true, true_or, not_true_eq_false, not_false_eq_true, ev, ew, e1, mpa_0, mpa_1, mpa_2, mpa_9, mpa_10, mpa_11, mpa_12, Int32.reduceToNatClampNeg, Int32.le_iff_toInt_le, Int32.lt_iff_toInt_lt, ← Int32.toInt_inj, nI_toInt, Int32.reduceToInt] <;> omega) | assumption | (simp (disch := omega) only [isT, isP, two, Int32.toInt_sub, Int.bmod_def, true_and, and_true, false_and, and_false, or_false, false_or, or_true, true_or, not_true_eq_false, not_false_eq_true, ev, ew, e1, mpa_0, mpa_1, mpa_2, mpa_9, mpa_10, mpa_11, mpa_12, Int32.reduceToNatClampNeg, Int32.le_iff_toInt_le, Int32.lt_iff_toInt_lt, ← Int32.toInt_inj, nI_toInt, Int32.reduceToInt] at * <;> omega) | decide); conv => whnf)
      | ((with_reducible refine br_t ?_ ?_); (· first | with_reducible assumption | (simp (disch := omega) only [true_and, and_true, false_and, and_false, or_false, false_or, or_true, true_or, not_true_eq_false, not_false_eq_true, ev, ew, e1, mpa_0, mpa_1, mpa_2, mpa_9, mpa_10, mpa_11, mpa_12, Int32.reduceToNatClampNeg, Int32.le_iff_toInt_le, Int32.lt_iff_toInt_lt, ← Int32.toInt_inj, nI_toInt, Int32.reduceToInt] <;> omega) | assumption | (simp (disch := omega) only [isT, isP, two, Int32.toInt_sub, Int.bmod_def, true_and, and_true, false_and, and_false, or_false, false_or, or_true, true_or, not_true_eq_false, not_false_eq_true, ev, ew, e1, mpa_0, mpa_1, mpa_2, mpa_9, mpa_10, mpa_11, mpa_12, Int32.reduceToNatClampNeg, Int32.le_iff_toInt_le, Int32.lt_iff_toInt_lt, ← Int32.toInt_inj, nI_toInt, Int32.reduceToInt] at * <;> omega) | decide); conv => whnf)
      | ((with_reducible refine br_f ?_ ?_); (· first | with_reducible assumption | (simp (disch := omega) only [true_and, and_true, false_and, and_false, or_false, false_or, or_true, true_or, not_true_eq_false, not_false_eq_true, ev, ew, e1, mpa_0, mpa_1, mpa_2, mpa_9, mpa_10, mpa_11, mpa_12, Int32.reduceToNatClampNeg, Int32.le_iff_toInt_le, Int32.lt_iff_toInt_lt, ← Int32.toInt_inj, nI_toInt, Int32.reduceToInt] <;> omega) | assumption | (simp (disch := omega) only [isT, isP, two, Int32.toInt_sub, Int.bmod_def, true_and, and_true, false_and, and_false, or_false, false_or, or_true, true_or, not_true_eq_false, not_false_eq_true, ev, ew, e1, mpa_0, mpa_1, mpa_2, mpa_9, mpa_10, mpa_11, mpa_12, Int32.reduceToNatClampNeg, Int32.le_iff_toInt_le, Int32.lt_iff_toInt_lt, ← Int32.toInt_inj, nI_toInt, Int32.reduceToInt] at * <;> omega) | decide); conv => whnf)
      | ((with_reducible refine br_nt ?_ ?_); (· first | with_reducible assumption | (simp (disch := omega) only [true_and, and_true, false_and, and_false, or_false, false_or, or_true, true_or, not_true_eq_false, not_false_eq_true, ev, ew, e1, mpa_0, mpa_1, mpa_2, mpa_9, mpa_10, mpa_11, mpa_12, Int32.reduceToNatClampNeg, Int32.le_iff_toInt_le, Int32.lt_iff_toInt_lt, ← Int32.toInt_inj, nI_toInt, Int32.reduceToInt] <;> omega) | assumption | (simp (disch := omega) only [isT, isP, two, Int32.toInt_sub, Int.bmod_def, true_and, and_true, false_and, and_false, or_false, false_or, or_true, true_or, not_true_eq_false, not_false_eq_true, ev, ew, e1, mpa_0, mpa_1, mpa_2, mpa_9, mpa_10, mpa_11, mpa_12, Int32.reduceToNatClampNeg, Int32.le_iff_toInt_le, Int32.lt_iff_toInt_lt, ← Int32.toInt_inj, nI_toInt, Int32.reduceToInt] at * <;> omega) | decide); conv => whnf)
      | ((with_reducible refine br_nf ?_ ?_); (· first | with_reducible assumption | (simp (disch := omega) only [true_and, and_true, false_and, and_false, or_false, false_or, or_true, true_or, not_true_eq_false, not_false_eq_true, ev, ew, e1, mpa_0, mpa_1, mpa_2, mpa_9, mpa_10, mpa_11, mpa_12, Int32.reduceToNatClampNeg, Int32.le_iff_toInt_le, Int32.lt_iff_toInt_lt, ← Int32.toInt_inj, nI_toInt, Int32.reduceToInt] <;> omega) | assumption | (simp (disch := omega) only [isT, isP, two, Int32.toInt_sub, Int.bmod_def, true_and, and_true, false_and, and_false, or_false, false_or, or_true, true_or, not_true_eq_false, not_false_eq_true, ev, ew, e1, mpa_0, mpa_1, mpa_2, mpa_9, mpa_10, mpa_11, mpa_12, Int32.reduceToNatClampNeg, Int32.le_iff_toInt_le, Int32.lt_iff_toInt_lt, ← Int32.toInt_inj, nI_toInt, Int32.reduceToInt] at * <;> omega) | decide); conv => whnf)
      | ((with_reducible refine ckI ?_ ?_); (· first | ((with_reducible refine vp_in_nI ?_ ?_); (· omega); (· decide)) | exact vp_c (by decide) | exact ⟨_, rfl⟩ | exact Or.inl rfl | exact Or.inr rfl | exact b2_01 _); conv => whnf)
      | ((with_reducible apply cl_p); (case hM => with_reducible exact k8_fail1 _ _); (case hc => exact rfl); (case hd => first | decide | omega); conv => whnf)
      | ((with_reducible apply cl_p); (case hM => with_reducible exact k8_fail2 _ _); (case hc => exact rfl); (case hd => first | decide | omega); conv => whnf)
      | ((with_reducible apply cl_p); (case hM => with_reducible exact k8_fail3 _ _); (case hc => exact rfl); (case hd => first | decide | omega); conv => whnf)
      | ((with_reducible apply cl_p); (case hM => with_reducible exact k8_fail4 _ _); (case hc => exact rfl); (case hd => first | decide | omega); conv => whnf)
      | ((with_reducible apply cl_p); (case hM => with_reducible exact k8_fail5 _ _); (case hc => exact rfl); (case hd => first | decide | omega); conv => whnf)
      | ((with_reducible apply cl_p); (case hM => exact k7_taleOfN _ _ k hk hlt); (case hc => exact rfl); (case hd => first | decide | omega); conv => whnf)
      | ((with_reducible apply cl_p); (case hM => exact k7_taleOf_n _ _ t pn); (case hc => exact rfl); (case hd => first | decide | omega); conv => whnf)
      | ((with_reducible apply cl_p); (case hM => with_reducible exact k7_hasPlace _ _ _); (case hc => exact rfl); (case hd => first | decide | omega); conv => whnf)
      | ((with_reducible apply cl_p); (case hM => with_reducible exact k8_isWithin _ _ _ _); (case hc => exact rfl); (case hd => first | decide | omega); conv => whnf)
      | ((with_reducible apply cl_p); (case hM => exact hH); (case hc => exact rfl); (case hd => first | decide | omega); conv => whnf)
      | ((with_reducible apply cl_p); (case hM => with_reducible exact k8_asNumber _ _ _); (case hc => exact rfl); (case hd => first | decide | omega); conv => whnf)
      | ((with_reducible apply cl_g); (case hM => exact hB _ hw1); (case hc => exact rfl); (case hd => first | decide | omega); intro f76 g77; conv => whnf)
      | ((rw [hsh]); conv => whnf)
      | ((with_reducible refine fun r hr => ?_); (obtain rfl := l7 hr); conv => whnf)
      | ((with_reducible apply cl_i); (case hM => exact hWk); (case hc => exact rfl); (case hd => decide); (intro r0 ν0 hq0; obtain ⟨rfl, hw1, hw2⟩ := hq0); conv => whnf)
      | ((with_reducible refine ckJ ?_ ?_); conv => whnf)
      | fail
    all_goals (refine Pc8.of rfl (hRR.er _) ?_; intro i hi; simp (disch := omega) only [hi_wr])
