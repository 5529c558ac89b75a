theorem k2_hasRun (X : Cx) (μ : Mem) (k : Nat) (i n : Int32) (hk : k < 4) (h0 : 0 ≤ (μ (61 + 2 * k) 1).toInt) (h40 : (μ (61 + 2 * k) 1).toInt ≤ 40) : Mt X m_X2_hasRun 0 [.ref (61 + 2 * k), .int i, .int n] μ (fun r μ' => r = some (.int (b2 (0 ≤ i.toInt ∧ 0 ≤ n.toInt ∧ i.toInt + n.toInt ≤ (μ (61 + 2 * k) 1).toInt))) ∧ μ' = μ) := by
  have hss := shS hk
  have hsn := shN hk
  refine Mt_of ck_X2_hasRun mf_19 rfl ?_
  repeat' first
    | ((with_reducible refine gow ck_X2_hasRun _ [] ?_); conv => whnf)
    | ((with_reducible refine bn_t ?_ ?_); (· first | with_reducible assumption | (simp (disch := omega) only [true_and, and_true, false_and, and_false, or_false, false_or, or_true, true_or, not_true_eq_false, not_false_eq_true, ev, ew, e1, mpa_0, mpa_1, mpa_2, mpa_9, mpa_10, mpa_11, mpa_12, Int32.reduceToNatClampNeg, Int32.le_iff_toInt_le, Int32.lt_iff_toInt_lt, ← Int32.toInt_inj, nI_toInt, Int32.reduceToInt] <;> omega) | assumption | (simp (disch := omega) only [isT, isP, two, Int32.toInt_sub, Int.bmod_def, true_and, and_true, false_and, and_false, or_false, false_or, or_true, true_or, not_true_eq_false, not_false_eq_true, ev, ew, e1, mpa_0, mpa_1, mpa_2, mpa_9, mpa_10, mpa_11, mpa_12, Int32.reduceToNatClampNeg, Int32.le_iff_toInt_le, Int32.lt_iff_toInt_lt, ← Int32.toInt_inj, nI_toInt, Int32.reduceToInt] at * <;> omega) | decide); conv => whnf)
    | ((with_reducible refine bn_f ?_ ?_); (· first | with_reducible assumption | (simp (disch := omega) only [true_and, and_true, false_and, and_false, or_false, false_or, or_true, true_or, not_true_eq_false, not_false_eq_true, ev, ew, e1, mpa_0, mpa_1, mpa_2, mpa_9, mpa_10, mpa_11, mpa_12, Int32.reduceToNatClampNeg, Int32.le_iff_toInt_le, Int32.lt_iff_toInt_lt, ← Int32.toInt_inj, nI_toInt, Int32.reduceToInt] <;> omega) | assumption | (simp (disch := omega) only [isT, isP, two, Int32.toInt_sub, Int.bmod_def, true_and, and_true, false_and, and_false, or_false, false_or, or_true, true_or, not_true_eq_false, not_false_eq_true, ev, ew, e1, mpa_0, mpa_1, mpa_2, mpa_9, mpa_10, mpa_11, mpa_12, Int32.reduceToNatClampNeg, Int32.le_iff_toInt_le, Int32.lt_iff_toInt_lt, ← Int32.toInt_inj, nI_toInt, Int32.reduceToInt] at * <;> omega) | decide); conv => whnf)
    | ((with_reducible refine bc_t ?_ ?_); (· first | with_reducible assumption | (simp (disch := omega) only [true_and, and_true, false_and, and_false, or_false, false_or, or_true, true_or, not_true_eq_false, not_false_eq_true, ev, ew, e1, mpa_0, mpa_1, mpa_2, mpa_9, mpa_10, mpa_11, mpa_12, Int32.reduceToNatClampNeg, Int32.le_iff_toInt_le, Int32.lt_iff_toInt_lt, ← Int32.toInt_inj, nI_toInt, Int32.reduceToInt] <;> omega) | assumption | (simp (disch := omega) only [isT, isP, two, Int32.toInt_sub, Int.bmod_def, true_and, and_true, false_and, and_false, or_false, false_or, or_true, true_or, not_true_eq_false, not_false_eq_true, ev, ew, e1, mpa_0, mpa_1, mpa_2, mpa_9, mpa_10, mpa_11, mpa_12, Int32.reduceToNatClampNeg, Int32.le_iff_toInt_le, Int32.lt_iff_toInt_lt, ← Int32.toInt_inj, nI_toInt, Int32.reduceToInt] at * <;> omega) | decide); conv => whnf)
    | ((with_reducible refine bc_f ?_ ?_); (· first | with_reducible assumption | (simp (disch := omega) only [true_and, and_true, false_and, and_false, or_false, false_or, or_true, true_or, not_true_eq_false, not_false_eq_true, ev, ew, e1, mpa_0, mpa_1, mpa_2, mpa_9, mpa_10, mpa_11, mpa_12, Int32.reduceToNatClampNeg, Int32.le_iff_toInt_le, Int32.lt_iff_toInt_lt, ← Int32.toInt_inj, nI_toInt, Int32.reduceToInt] <;> omega) | assumption | (simp (disch := omega) only [isT, isP, two, Int32.toInt_sub, Int.bmod_def, true_and, and_true, false_and, and_false, or_false, false_or, or_true, true_or, not_true_eq_false, not_false_eq_true, ev, ew, e1, mpa_0, mpa_1, mpa_2, mpa_9, mpa_10, mpa_11, mpa_12, Int32.reduceToNatClampNeg, Int32.le_iff_toInt_le, Int32.lt_iff_toInt_lt, ← Int32.toInt_inj, nI_toInt, Int32.reduceToInt] at * <;> omega) | decide); conv => whnf)
    | ((with_reducible refine br_t ?_ ?_); (· first | with_reducible assumption | (simp (disch := omega) only [true_and, and_true, false_and, and_false, or_false, false_or, or_true, true_or, not_true_eq_false, not_false_eq_true, ev, ew, e1, mpa_0, mpa_1, mpa_2, mpa_9, mpa_10, mpa_11, mpa_12, Int32.reduceToNatClampNeg, Int32.le_iff_toInt_le, Int32.lt_iff_toInt_lt, ← Int32.toInt_inj, nI_toInt, Int32.reduceToInt] <;> omega) | assumption | (simp (disch := omega) only [isT, isP, two, Int32.toInt_sub, Int.bmod_def, true_and, and_true, false_and, and_false, or_false, false_or, or_true, true_or, not_true_eq_false, not_false_eq_true, ev, ew, e1, mpa_0, mpa_1, mpa_2, mpa_9, mpa_10, mpa_11, mpa_12, Int32.reduceToNatClampNeg, Int32.le_iff_toInt_le, Int32.lt_iff_toInt_lt, ← Int32.toInt_inj, nI_toInt, Int32.reduceToInt] at * <;> omega) | decide); conv => whnf)
    | ((with_reducible refine br_f ?_ ?_); (· first | with_reducible assumption | (simp (disch := omega) only [true_and, and_true, false_and, and_false, or_false, false_or, or_true, true_or, not_true_eq_false, not_false_eq_true, ev, ew, e1, mpa_0, mpa_1, mpa_2, mpa_9, mpa_10, mpa_11, mpa_12, Int32.reduceToNatClampNeg, Int32.le_iff_toInt_le, Int32.lt_iff_toInt_lt, ← Int32.toInt_inj, nI_toInt, Int32.reduceToInt] <;> omega) | assumption | (simp (disch := omega) only [isT, isP, two, Int32.toInt_sub, Int.bmod_def, true_and, and_true, false_and, and_false, or_false, false_or, or_true, true_or, not_true_eq_false, not_false_eq_true, ev, ew, e1, mpa_0, mpa_1, mpa_2, mpa_9, mpa_10, mpa_11, mpa_12, Int32.reduceToNatClampNeg, Int32.le_iff_toInt_le, Int32.lt_iff_toInt_lt, ← Int32.toInt_inj, nI_toInt, Int32.reduceToInt] at * <;> omega) | decide); conv => whnf)
    | ((with_reducible refine br_nt ?_ ?_); (· first | with_reducible assumption | (simp (disch := omega) only [true_and, and_true, false_and, and_false, or_false, false_or, or_true, true_or, not_true_eq_false, not_false_eq_true, ev, ew, e1, mpa_0, mpa_1, mpa_2, mpa_9, mpa_10, mpa_11, mpa_12, Int32.reduceToNatClampNeg, Int32.le_iff_toInt_le, Int32.lt_iff_toInt_lt, ← Int32.toInt_inj, nI_toInt, Int32.reduceToInt] <;> omega) | assumption | (simp (disch := omega) only [isT, isP, two, Int32.toInt_sub, Int.bmod_def, true_and, and_true, false_and, and_false, or_false, false_or, or_true, true_or, not_true_eq_false, not_false_eq_true, ev, ew, e1, mpa_0, mpa_1, mpa_2, mpa_9, mpa_10, mpa_11, mpa_12, Int32.reduceToNatClampNeg, Int32.le_iff_toInt_le, Int32.lt_iff_toInt_lt, ← Int32.toInt_inj, nI_toInt, Int32.reduceToInt] at * <;> omega) | decide); conv => whnf)
    | ((with_reducible refine br_nf ?_ ?_); (· first | with_reducible assumption | (simp (disch := omega) only [true_and, and_true, false_and, and_false, or_false, false_or, or_true, true_or, not_true_eq_false, not_false_eq_true, ev, ew, e1, mpa_0, mpa_1, mpa_2, mpa_9, mpa_10, mpa_11, mpa_12, Int32.reduceToNatClampNeg, Int32.le_iff_toInt_le, Int32.lt_iff_toInt_lt, ← Int32.toInt_inj, nI_toInt, Int32.reduceToInt] <;> omega) | assumption | (simp (disch := omega) only [isT, isP, two, Int32.toInt_sub, Int.bmod_def, true_and, and_true, false_and, and_false, or_false, false_or, or_true, true_or, not_true_eq_false, not_false_eq_true, ev, ew, e1, mpa_0, mpa_1, mpa_2, mpa_9, mpa_10, mpa_11, mpa_12, Int32.reduceToNatClampNeg, Int32.le_iff_toInt_le, Int32.lt_iff_toInt_lt, ← Int32.toInt_inj, nI_toInt, Int32.reduceToInt] at * <;> omega) | decide); conv => whnf)
    | ((with_reducible refine bn_c (fun _ => ?_) (fun _ => ?_)) <;> conv => whnf)
    | ((with_reducible refine bc_c (fun _ => ?_) (fun _ => ?_)) <;> conv => whnf)
    | ((with_reducible refine br_c (fun _ => ?_) (fun _ => ?_)) <;> conv => whnf)
    | ((with_reducible refine br_n (fun _ => ?_) (fun _ => ?_)) <;> conv => whnf)
    | ((with_reducible refine ckI ?_ ?_); (· first | ((with_reducible refine vp_in_nI ?_ ?_); (· omega); (· decide)) | exact vp_c (by decide) | exact ⟨_, rfl⟩ | exact Or.inl rfl | exact Or.inr rfl | exact b2_01 _); conv => whnf)
    | ((rw [hss]); conv => whnf)
    | ((rw [hsn]); conv => whnf)
    | ((with_reducible refine ckJ ?_ ?_); conv => whnf)
    | fail
  all_goals refine mk_int ?_
  all_goals (try dsimp only [ev, ew, e1] at *)
  all_goals (have hbi := i.toInt_lt; have hbj := i.le_toInt; have hbn := n.toInt_lt; have hbm := n.le_toInt)
  all_goals generalize μ (61 + 2 * k) 1 = sz at *
  all_goals (have hsub : 0 ≤ n.toInt → (sz - n).toInt = sz.toInt - n.toInt := fun h => by rw [Int32.toInt_sub, Int.bmod_def]; omega)
  all_goals simp only [oN_40, Int32.lt_iff_toInt_lt, Int32.le_iff_toInt_le, Int32.reduceToInt] at *
  all_goals first
    | exact (b2_t (by omega)).symm
    | exact (b2_f (by omega)).symm
theorem k_move (X : Cx) (S μ : Mem) (s i o j n : Int32) (hW : WFS S) (hR : RC S μ) : Mt X m_X8_move 3 [.ref 0, .int s, .int i, .int o, .int j, .int n] μ (Pc8 S μ (sp_move S s i o j n)) := by
  have hN : WN (S 1) := hW.1
  have hRW := hR.1
  unfold sp_move
  (repeat' split)
  · have hso : (0 ≤ s ∧ s ≤ 3) ∧ (0 ≤ o ∧ o ≤ 3) := by assumption
    obtain ⟨hs1, ho1⟩ := hso
    have hs03 : 0 ≤ s ∧ s ≤ 3 := hs1
    obtain ⟨z, hz4, rfl⟩ := in_3 hs03
    have hss := shS hz4
    have hsn := shN hz4
    obtain ⟨hX2, hX1, hXq⟩ := hR.2.2.2.2.2 z hz4
    obtain ⟨hB, hZ, hB0⟩ := hW.2.2.2 z hz4
    clear hs03
    have ho03 : 0 ≤ o ∧ o ≤ 3 := ho1
    obtain ⟨y, hy4, rfl⟩ := in_3 ho03
    have hsy := shS hy4
    have hsm := shN hy4
    obtain ⟨hY2, hY1, hYq⟩ := hR.2.2.2.2.2 y hy4
    obtain ⟨hC, hV, hC0⟩ := hW.2.2.2 y hy4
    clear ho03
    simp (disch := omega) only [nI_toInt, Int.toNat_natCast] at *
    have hmiss : S 10 z = 0 ∨ S 10 y = 0 := by assumption
    by_cases hm1 : S 10 z = 0
    · have g1 : μ (61 + 2 * z) 2 = 0 := hX2.trans hm1
      refine Mt_of ck_X8_move mf_109 rfl ?_
      have hRR := hR
      clear hW hN hRW hR
      repeat' first
          | ((with_reducible refine gow ck_X8_move _ [] ?_); conv => whnf)
          | ((with_reducible refine bn_t ?_ ?_); (· first | with_reducible assumption | (simp (disch := omega) only [true_and, and_true, false_and, and_false, or_false, false_or, or_true, true_or, not_true_eq_false, not_false_eq_true, ev, ew, e1, mpa_0, mpa_1, mpa_2, mpa_9, mpa_10, mpa_11, mpa_12, Int32.reduceToNatClampNeg, Int32.le_iff_toInt_le, Int32.lt_iff_toInt_lt, ← Int32.toInt_inj, nI_toInt, Int32.reduceToInt] <;> omega) | assumption | (simp (disch := omega) only [isT, isP, two, Int32.toInt_sub, Int.bmod_def, true_and, and_true, false_and, and_false, or_false, false_or, or_true, true_or, not_true_eq_false, not_false_eq_true, ev, ew, e1, mpa_0, mpa_1, mpa_2, mpa_9, mpa_10, mpa_11, mpa_12, Int32.reduceToNatClampNeg, Int32.le_iff_toInt_le, Int32.lt_iff_toInt_lt, ← Int32.toInt_inj, nI_toInt, Int32.reduceToInt] at * <;> omega) | decide); conv => whnf)
          | ((with_reducible refine bn_f ?_ ?_); (· first | with_reducible assumption | (simp (disch := omega) only [true_and, and_true, false_and, and_false, or_false, false_or, or_true, true_or, not_true_eq_false, not_false_eq_true, ev, ew, e1, mpa_0, mpa_1, mpa_2, mpa_9, mpa_10, mpa_11, mpa_12, Int32.reduceToNatClampNeg, Int32.le_iff_toInt_le, Int32.lt_iff_toInt_lt, ← Int32.toInt_inj, nI_toInt, Int32.reduceToInt] <;> omega) | assumption | (simp (disch := omega) only [isT, isP, two, Int32.toInt_sub, Int.bmod_def, true_and, and_true, false_and, and_false, or_false, false_or, or_true, true_or, not_true_eq_false, not_false_eq_true, ev, ew, e1, mpa_0, mpa_1, mpa_2, mpa_9, mpa_10, mpa_11, mpa_12, Int32.reduceToNatClampNeg, Int32.le_iff_toInt_le, Int32.lt_iff_toInt_lt, ← Int32.toInt_inj, nI_toInt, Int32.reduceToInt] at * <;> omega) | decide); conv => whnf)
          | ((with_reducible refine bc_t ?_ ?_); (· first | with_reducible assumption | (simp (disch := omega) only [true_and, and_true, false_and, and_false, or_false, false_or, or_true, true_or, not_true_eq_false, not_false_eq_true, ev, ew, e1, mpa_0, mpa_1, mpa_2, mpa_9, mpa_10, mpa_11, mpa_12, Int32.reduceToNatClampNeg, Int32.le_iff_toInt_le, Int32.lt_iff_toInt_lt, ← Int32.toInt_inj, nI_toInt, Int32.reduceToInt] <;> omega) | assumption | (simp (disch := omega) only [isT, isP, two, Int32.toInt_sub, Int.bmod_def, true_and, and_true, false_and, and_false, or_false, false_or, or_true, true_or, not_true_eq_false, not_false_eq_true, ev, ew, e1, mpa_0, mpa_1, mpa_2, mpa_9, mpa_10, mpa_11, mpa_12, Int32.reduceToNatClampNeg, Int32.le_iff_toInt_le, Int32.lt_iff_toInt_lt, ← Int32.toInt_inj, nI_toInt, Int32.reduceToInt] at * <;> omega) | decide); conv => whnf)
          | ((with_reducible refine bc_f ?_ ?_); (· first | with_reducible assumption | (simp (disch := omega) only [true_and, and_true, false_and, and_false, or_false, false_or, or_true, true_or, not_true_eq_false, not_false_eq_true, ev, ew, e1, mpa_0, mpa_1, mpa_2, mpa_9, mpa_10, mpa_11, mpa_12, Int32.reduceToNatClampNeg, Int32.le_iff_toInt_le, Int32.lt_iff_toInt_lt, ← Int32.toInt_inj, nI_toInt, Int32.reduceToInt] <;> omega) | assumption | (simp (disch := omega) only [isT, isP, two, Int32.toInt_sub, Int.bmod_def, true_and, and_true, false_and, and_false, or_false, false_or, or_true, true_or, not_true_eq_false, not_false_eq_true, ev, ew, e1, mpa_0, mpa_1, mpa_2, mpa_9, mpa_10, mpa_11, mpa_12, Int32.reduceToNatClampNeg, Int32.le_iff_toInt_le, Int32.lt_iff_toInt_lt, ← Int32.toInt_inj, nI_toInt, Int32.reduceToInt] at * <;> omega) | decide); conv => whnf)
          | ((with_reducible refine br_t ?_ ?_); (· first | with_reducible assumption | (simp (disch := omega) only [true_and, and_true, false_and, and_false, or_false, false_or, or_true, true_or, not_true_eq_false, not_false_eq_true, ev, ew, e1, mpa_0, mpa_1, mpa_2, mpa_9, mpa_10, mpa_11, mpa_12, Int32.reduceToNatClampNeg, Int32.le_iff_toInt_le, Int32.lt_iff_toInt_lt, ← Int32.toInt_inj, nI_toInt, Int32.reduceToInt] <;> omega) | assumption | (simp (disch := omega) only [isT, isP, two, Int32.toInt_sub, Int.bmod_def, true_and, and_true, false_and, and_false, or_false, false_or, or_true, true_or, not_true_eq_false, not_false_eq_true, ev, ew, e1, mpa_0, mpa_1, mpa_2, mpa_9, mpa_10, mpa_11, mpa_12, Int32.reduceToNatClampNeg, Int32.le_iff_toInt_le, Int32.lt_iff_toInt_lt, ← Int32.toInt_inj, nI_toInt, Int32.reduceToInt] at * <;> omega) | decide); conv => whnf)
          | ((with_reducible refine br_f ?_ ?_); (· first | with_reducible assumption | (simp (disch := omega) only [true_and, and_true, false_and, and_false, or_false, false_or, or_true, true_or, not_true_eq_false, not_false_eq_true, ev, ew, e1, mpa_0, mpa_1, mpa_2, mpa_9, mpa_10, mpa_11, mpa_12, Int32.reduceToNatClampNeg, Int32.le_iff_toInt_le, Int32.lt_iff_toInt_lt, ← Int32.toInt_inj, nI_toInt, Int32.reduceToInt] <;> omega) | assumption | (simp (disch := omega) only [isT, isP, two, Int32.toInt_sub, Int.bmod_def, true_and, and_true, false_and, and_false, or_false, false_or, or_true, true_or, not_true_eq_false, not_false_eq_true, ev, ew, e1, mpa_0, mpa_1, mpa_2, mpa_9, mpa_10, mpa_11, mpa_12, Int32.reduceToNatClampNeg, Int32.le_iff_toInt_le, Int32.lt_iff_toInt_lt, ← Int32.toInt_inj, nI_toInt, Int32.reduceToInt] at * <;> omega) | decide); conv => whnf)
          | ((with_reducible refine br_nt ?_ ?_); (· first | with_reducible assumption | (simp (disch := omega) only [true_and, and_true, false_and, and_false, or_false, false_or, or_true, true_or, not_true_eq_false, not_false_eq_true, ev, ew, e1, mpa_0, mpa_1, mpa_2, mpa_9, mpa_10, mpa_11, mpa_12, Int32.reduceToNatClampNeg, Int32.le_iff_toInt_le, Int32.lt_iff_toInt_lt, ← Int32.toInt_inj, nI_toInt, Int32.reduceToInt] <;> omega) | assumption | (simp (disch := omega) only [isT, isP, two, Int32.toInt_sub, Int.bmod_def, true_and, and_true, false_and, and_false, or_false, false_or, or_true, true_or, not_true_eq_false, not_false_eq_true, ev, ew, e1, mpa_0, mpa_1, mpa_2, mpa_9, mpa_10, mpa_11, mpa_12, Int32.reduceToNatClampNeg, Int32.le_iff_toInt_le, Int32.lt_iff_toInt_lt, ← Int32.toInt_inj, nI_toInt, Int32.reduceToInt] at * <;> omega) | decide); conv => whnf)
          | ((with_reducible refine br_nf ?_ ?_); (· first | with_reducible assumption | (simp (disch := omega) only [true_and, and_true, false_and, and_false, or_false, false_or, or_true, true_or, not_true_eq_false, not_false_eq_true, ev, ew, e1, mpa_0, mpa_1, mpa_2, mpa_9, mpa_10, mpa_11, mpa_12, Int32.reduceToNatClampNeg, Int32.le_iff_toInt_le, Int32.lt_iff_toInt_lt, ← Int32.toInt_inj, nI_toInt, Int32.reduceToInt] <;> omega) | assumption | (simp (disch := omega) only [isT, isP, two, Int32.toInt_sub, Int.bmod_def, true_and, and_true, false_and, and_false, or_false, false_or, or_true, true_or, not_true_eq_false, not_false_eq_true, ev, ew, e1, mpa_0, mpa_1, mpa_2, mpa_9, mpa_10, mpa_11, mpa_12, Int32.reduceToNatClampNeg, Int32.le_iff_toInt_le, Int32.lt_iff_toInt_lt, ← Int32.toInt_inj, nI_toInt, Int32.reduceToInt] at * <;> omega) | decide); conv => whnf)
          | ((with_reducible refine ckI ?_ ?_); (· first | ((with_reducible refine vp_in_nI ?_ ?_); (· omega); (· decide)) | exact vp_c (by decide) | exact ⟨_, rfl⟩ | exact Or.inl rfl | exact Or.inr rfl | exact b2_01 _); conv => whnf)
          | ((with_reducible apply cl_p); (case hM => with_reducible exact k8_fail1 _ _); (case hc => exact rfl); (case hd => first | decide | omega); conv => whnf)
          | ((with_reducible apply cl_p); (case hM => with_reducible exact k8_fail2 _ _); (case hc => exact rfl); (case hd => first | decide | omega); conv => whnf)
          | ((with_reducible apply cl_p); (case hM => with_reducible exact k8_fail3 _ _); (case hc => exact rfl); (case hd => first | decide | omega); conv => whnf)
          | ((with_reducible apply cl_p); (case hM => with_reducible exact k8_fail4 _ _); (case hc => exact rfl); (case hd => first | decide | omega); conv => whnf)
          | ((with_reducible apply cl_p); (case hM => with_reducible exact k8_fail5 _ _); (case hc => exact rfl); (case hd => first | decide | omega); conv => whnf)
          | ((with_reducible apply cl_p); (case hM => exact k8_sheetOfN _ _ z hz4); (case hc => exact rfl); (case hd => first | decide | omega); conv => whnf)
          | ((with_reducible apply cl_p); (case hM => exact k8_sheetOfN _ _ y hy4); (case hc => exact rfl); (case hd => first | decide | omega); conv => whnf)
          | ((with_reducible apply cl_p); (case hM => exact k8_sheetOf_n _ _ s ps); (case hc => exact rfl); (case hd => first | decide | omega); conv => whnf)
          | ((with_reducible apply cl_p); (case hM => exact k8_sheetOf_n _ _ o po); (case hc => exact rfl); (case hd => first | decide | omega); conv => whnf)
          | ((with_reducible apply cl_p); (case hM => with_reducible exact k2_isMissing _ _ z hz4); (case hc => exact rfl); (case hd => first | decide | omega); conv => whnf)
          | ((with_reducible apply cl_p); (case hM => with_reducible exact k2_isMissing _ _ y hy4); (case hc => exact rfl); (case hd => first | decide | omega); conv => whnf)
          | ((with_reducible apply cl_p); (case hM => exact hRz); (case hc => exact rfl); (case hd => first | decide | omega); conv => whnf)
          | ((with_reducible apply cl_p); (case hM => exact hRy); (case hc => exact rfl); (case hd => first | decide | omega); conv => whnf)
          | ((rw [hss]); conv => whnf)
          | ((rw [hsn]); conv => whnf)
          | ((rw [hsy]); conv => whnf)
          | ((rw [hsm]); conv => whnf)
          | ((with_reducible refine ckJ ?_ ?_); conv => whnf)
          | fail
      all_goals first
        | exact rcS hz4
        | exact rcS hy4
        | (refine Pc8.of rfl (hRR.er _) ?_; intro i hi; simp (disch := omega) only [hi_wr])
    · have g1 : ¬ μ (61 + 2 * z) 2 = 0 := fun h => hm1 (hX2.symm.trans h)
      have g2 : μ (61 + 2 * y) 2 = 0 := hY2.trans (hmiss.resolve_left hm1)
      refine Mt_of ck_X8_move mf_109 rfl ?_
      have hRR := hR
      clear hW hN hRW hR
      repeat' first
          | ((with_reducible refine gow ck_X8_move _ [] ?_); conv => whnf)
          | ((with_reducible refine bn_t ?_ ?_); (· first | with_reducible assumption | (simp (disch := omega) only [true_and, and_true, false_and, and_false, or_false, false_or, or_true, true_or, not_true_eq_false, not_false_eq_true, ev, ew, e1, mpa_0, mpa_1, mpa_2, mpa_9, mpa_10, mpa_11, mpa_12, Int32.reduceToNatClampNeg, Int32.le_iff_toInt_le, Int32.lt_iff_toInt_lt, ← Int32.toInt_inj, nI_toInt, Int32.reduceToInt] <;> omega) | assumption | (simp (disch := omega) only [isT, isP, two, Int32.toInt_sub, Int.bmod_def, true_and, and_true, false_and, and_false, or_false, false_or, or_true, true_or, not_true_eq_false, not_false_eq_true, ev, ew, e1, mpa_0, mpa_1, mpa_2, mpa_9, mpa_10, mpa_11, mpa_12, Int32.reduceToNatClampNeg, Int32.le_iff_toInt_le, Int32.lt_iff_toInt_lt, ← Int32.toInt_inj, nI_toInt, Int32.reduceToInt] at * <;> omega) | decide); conv => whnf)
          | ((with_reducible refine bn_f ?_ ?_); (· first | with_reducible assumption | (simp (disch := omega) only [true_and, and_true, false_and, and_false, or_false, false_or, or_true, true_or, not_true_eq_false, not_false_eq_true, ev, ew, e1, mpa_0, mpa_1, mpa_2, mpa_9, mpa_10, mpa_11, mpa_12, Int32.reduceToNatClampNeg, Int32.le_iff_toInt_le, Int32.lt_iff_toInt_lt, ← Int32.toInt_inj, nI_toInt, Int32.reduceToInt] <;> omega) | assumption | (simp (disch := omega) only [isT, isP, two, Int32.toInt_sub, Int.bmod_def, true_and, and_true, false_and, and_false, or_false, false_or, or_true, true_or, not_true_eq_false, not_false_eq_true, ev, ew, e1, mpa_0, mpa_1, mpa_2, mpa_9, mpa_10, mpa_11, mpa_12, Int32.reduceToNatClampNeg, Int32.le_iff_toInt_le, Int32.lt_iff_toInt_lt, ← Int32.toInt_inj, nI_toInt, Int32.reduceToInt] at * <;> omega) | decide); conv => whnf)
          | ((with_reducible refine bc_t ?_ ?_); (· first | with_reducible assumption | (simp (disch := omega) only [true_and, and_true, false_and, and_false, or_false, false_or, or_true, true_or, not_true_eq_false, not_false_eq_true, ev, ew, e1, mpa_0, mpa_1, mpa_2, mpa_9, mpa_10, mpa_11, mpa_12, Int32.reduceToNatClampNeg, Int32.le_iff_toInt_le, Int32.lt_iff_toInt_lt, ← Int32.toInt_inj, nI_toInt, Int32.reduceToInt] <;> omega) | assumption | (simp (disch := omega) only [isT, isP, two, Int32.toInt_sub, Int.bmod_def, true_and, and_true, false_and, and_false, or_false, false_or, or_true, true_or, not_true_eq_false, not_false_eq_true, ev, ew, e1, mpa_0, mpa_1, mpa_2, mpa_9, mpa_10, mpa_11, mpa_12, Int32.reduceToNatClampNeg, Int32.le_iff_toInt_le, Int32.lt_iff_toInt_lt, ← Int32.toInt_inj, nI_toInt, Int32.reduceToInt] at * <;> omega) | decide); conv => whnf)
          | ((with_reducible refine bc_f ?_ ?_); (· first | with_reducible assumption | (simp (disch := omega) only [true_and, and_true, false_and, and_false, or_false, false_or, or_true, true_or, not_true_eq_false, not_false_eq_true, ev, ew, e1, mpa_0, mpa_1, mpa_2, mpa_9, mpa_10, mpa_11, mpa_12, Int32.reduceToNatClampNeg, Int32.le_iff_toInt_le, Int32.lt_iff_toInt_lt, ← Int32.toInt_inj, nI_toInt, Int32.reduceToInt] <;> omega) | assumption | (simp (disch := omega) only [isT, isP, two, Int32.toInt_sub, Int.bmod_def, true_and, and_true, false_and, and_false, or_false, false_or, or_true, true_or, not_true_eq_false, not_false_eq_true, ev, ew, e1, mpa_0, mpa_1, mpa_2, mpa_9, mpa_10, mpa_11, mpa_12, Int32.reduceToNatClampNeg, Int32.le_iff_toInt_le, Int32.lt_iff_toInt_lt, ← Int32.toInt_inj, nI_toInt, Int32.reduceToInt] at * <;> omega) | decide); conv => whnf)
          | ((with_reducible refine br_t ?_ ?_); (· first | with_reducible assumption | (simp (disch := omega) only [true_and, and_true, false_and, and_false, or_false, false_or, or_true, true_or, not_true_eq_false, not_false_eq_true, ev, ew, e1, mpa_0, mpa_1, mpa_2, mpa_9, mpa_10, mpa_11, mpa_12, Int32.reduceToNatClampNeg, Int32.le_iff_toInt_le, Int32.lt_iff_toInt_lt, ← Int32.toInt_inj, nI_toInt, Int32.reduceToInt] <;> omega) | assumption | (simp (disch := omega) only [isT, isP, two, Int32.toInt_sub, Int.bmod_def, true_and, and_true, false_and, and_false, or_false, false_or, or_true, true_or, not_true_eq_false, not_false_eq_true, ev, ew, e1, mpa_0, mpa_1, mpa_2, mpa_9, mpa_10, mpa_11, mpa_12, Int32.reduceToNatClampNeg, Int32.le_iff_toInt_le, Int32.lt_iff_toInt_lt, ← Int32.toInt_inj, nI_toInt, Int32.reduceToInt] at * <;> omega) | decide); conv => whnf)
          | ((with_reducible refine br_f ?_ ?_); (· first | with_reducible assumption | (simp (disch := omega) only [true_and, and_true, false_and, and_false, or_false, false_or, or_true, true_or, not_true_eq_false, not_false_eq_true, ev, ew, e1, mpa_0, mpa_1, mpa_2, mpa_9, mpa_10, mpa_11, mpa_12, Int32.reduceToNatClampNeg, Int32.le_iff_toInt_le, Int32.lt_iff_toInt_lt, ← Int32.toInt_inj, nI_toInt, Int32.reduceToInt] <;> omega) | assumption | (simp (disch := omega) only [isT, isP, two, Int32.toInt_sub, Int.bmod_def, true_and, and_true, false_and, and_false, or_false, false_or, or_true, true_or, not_true_eq_false, not_false_eq_true, ev, ew, e1, mpa_0, mpa_1, mpa_2, mpa_9, mpa_10, mpa_11, mpa_12, Int32.reduceToNatClampNeg, Int32.le_iff_toInt_le, Int32.lt_iff_toInt_lt, ← Int32.toInt_inj, nI_toInt, Int32.reduceToInt] at * <;> omega) | decide); conv => whnf)
          | ((with_reducible refine br_nt ?_ ?_); (· first | with_reducible assumption | (simp (disch := omega) only [true_and, and_true, false_and, and_false, or_false, false_or, or_true, true_or, not_true_eq_false, not_false_eq_true, ev, ew, e1, mpa_0, mpa_1, mpa_2, mpa_9, mpa_10, mpa_11, mpa_12, Int32.reduceToNatClampNeg, Int32.le_iff_toInt_le, Int32.lt_iff_toInt_lt, ← Int32.toInt_inj, nI_toInt, Int32.reduceToInt] <;> omega) | assumption | (simp (disch := omega) only [isT, isP, two, Int32.toInt_sub, Int.bmod_def, true_and, and_true, false_and, and_false, or_false, false_or, or_true, true_or, not_true_eq_false, not_false_eq_true, ev, ew, e1, mpa_0, mpa_1, mpa_2, mpa_9, mpa_10, mpa_11, mpa_12, Int32.reduceToNatClampNeg, Int32.le_iff_toInt_le, Int32.lt_iff_toInt_lt, ← Int32.toInt_inj, nI_toInt, Int32.reduceToInt] at * <;> omega) | decide); conv => whnf)
          | ((with_reducible refine br_nf ?_ ?_); (· first | with_reducible assumption | (simp (disch := omega) only [true_and, and_true, false_and, and_false, or_false, false_or, or_true, true_or, not_true_eq_false, not_false_eq_true, ev, ew, e1, mpa_0, mpa_1, mpa_2, mpa_9, mpa_10, mpa_11, mpa_12, Int32.reduceToNatClampNeg, Int32.le_iff_toInt_le, Int32.lt_iff_toInt_lt, ← Int32.toInt_inj, nI_toInt, Int32.reduceToInt] <;> omega) | assumption | (simp (disch := omega) only [isT, isP, two, Int32.toInt_sub, Int.bmod_def, true_and, and_true, false_and, and_false, or_false, false_or, or_true, true_or, not_true_eq_false, not_false_eq_true, ev, ew, e1, mpa_0, mpa_1, mpa_2, mpa_9, mpa_10, mpa_11, mpa_12, Int32.reduceToNatClampNeg, Int32.le_iff_toInt_le, Int32.lt_iff_toInt_lt, ← Int32.toInt_inj, nI_toInt, Int32.reduceToInt] at * <;> omega) | decide); conv => whnf)
          | ((with_reducible refine ckI ?_ ?_); (· first | ((with_reducible refine vp_in_nI ?_ ?_); (· omega); (· decide)) | exact vp_c (by decide) | exact ⟨_, rfl⟩ | exact Or.inl rfl | exact Or.inr rfl | exact b2_01 _); conv => whnf)
          | ((with_reducible apply cl_p); (case hM => with_reducible exact k8_fail1 _ _); (case hc => exact rfl); (case hd => first | decide | omega); conv => whnf)
          | ((with_reducible apply cl_p); (case hM => with_reducible exact k8_fail2 _ _); (case hc => exact rfl); (case hd => first | decide | omega); conv => whnf)
          | ((with_reducible apply cl_p); (case hM => with_reducible exact k8_fail3 _ _); (case hc => exact rfl); (case hd => first | decide | omega); conv => whnf)
          | ((with_reducible apply cl_p); (case hM => with_reducible exact k8_fail4 _ _); (case hc => exact rfl); (case hd => first | decide | omega); conv => whnf)
          | ((with_reducible apply cl_p); (case hM => with_reducible exact k8_fail5 _ _); (case hc => exact rfl); (case hd => first | decide | omega); conv => whnf)
          | ((with_reducible apply cl_p); (case hM => exact k8_sheetOfN _ _ z hz4); (case hc => exact rfl); (case hd => first | decide | omega); conv => whnf)
          | ((with_reducible apply cl_p); (case hM => exact k8_sheetOfN _ _ y hy4); (case hc => exact rfl); (case hd => first | decide | omega); conv => whnf)
          | ((with_reducible apply cl_p); (case hM => exact k8_sheetOf_n _ _ s ps); (case hc => exact rfl); (case hd => first | decide | omega); conv => whnf)
          | ((with_reducible apply cl_p); (case hM => exact k8_sheetOf_n _ _ o po); (case hc => exact rfl); (case hd => first | decide | omega); conv => whnf)
          | ((with_reducible apply cl_p); (case hM => with_reducible exact k2_isMissing _ _ z hz4); (case hc => exact rfl); (case hd => first | decide | omega); conv => whnf)
          | ((with_reducible apply cl_p); (case hM => with_reducible exact k2_isMissing _ _ y hy4); (case hc => exact rfl); (case hd => first | decide | omega); conv => whnf)
          | ((with_reducible apply cl_p); (case hM => exact hRz); (case hc => exact rfl); (case hd => first | decide | omega); conv => whnf)
          | ((with_reducible apply cl_p); (case hM => exact hRy); (case hc => exact rfl); (case hd => first | decide | omega); conv => whnf)
          | ((rw [hss]); conv => whnf)
          | ((rw [hsn]); conv => whnf)
          | ((rw [hsy]); conv => whnf)
          | ((rw [hsm]); conv => whnf)
          | ((with_reducible refine ckJ ?_ ?_); conv => whnf)
          | fail
      all_goals first
        | exact rcS hz4
        | exact rcS hy4
        | (refine Pc8.of rfl (hRR.er _) ?_; intro i hi; simp (disch := omega) only [hi_wr])
  · have hso : (0 ≤ s ∧ s ≤ 3) ∧ (0 ≤ o ∧ o ≤ 3) := by assumption
    obtain ⟨hs1, ho1⟩ := hso
    have hs03 : 0 ≤ s ∧ s ≤ 3 := hs1
    obtain ⟨z, hz4, rfl⟩ := in_3 hs03
    have hss := shS hz4
    have hsn := shN hz4
    obtain ⟨hX2, hX1, hXq⟩ := hR.2.2.2.2.2 z hz4
    obtain ⟨hB, hZ, hB0⟩ := hW.2.2.2 z hz4
    clear hs03
    have ho03 : 0 ≤ o ∧ o ≤ 3 := ho1
    obtain ⟨y, hy4, rfl⟩ := in_3 ho03
    have hsy := shS hy4
    have hsm := shN hy4
    obtain ⟨hY2, hY1, hYq⟩ := hR.2.2.2.2.2 y hy4
    obtain ⟨hC, hV, hC0⟩ := hW.2.2.2 y hy4
    clear ho03
    simp (disch := omega) only [nI_toInt, Int.toNat_natCast] at *
    have hmiss : ¬ (S 10 z = 0 ∨ S 10 y = 0) := by assumption
    have g1 : ¬ μ (61 + 2 * z) 2 = 0 := fun h => hmiss (Or.inl (hX2.symm.trans h))
    have g2 : ¬ μ (61 + 2 * y) 2 = 0 := fun h => hmiss (Or.inr (hY2.symm.trans h))
    have g3 : μ (61 + 2 * z) 2 = μ (61 + 2 * y) 2 := by rw [hX2, hY2]; assumption
    have hRz := k2_hasRun X μ z i n hz4 (by rw [hX1]; exact hZ.1) (by rw [hX1]; exact hZ.2)
    have hRy := k2_hasRun X μ y j n hy4 (by rw [hY1]; exact hV.1) (by rw [hY1]; exact hV.2)
    rw [hX1] at hRz
    rw [hY1] at hRy
    have hrun : ((0 ≤ n ∧ 0 ≤ i) ∧ 0 ≤ j) ∧ (i.toInt + n.toInt ≤ (S 11 z).toInt ∧ j.toInt + n.toInt ≤ (S 11 y).toInt) := by assumption
    simp only [Int32.le_iff_toInt_le, Int32.reduceToInt] at hrun
    have hZ2 := hZ.2
    have hV2 := hV.2
    rw [b2_t (by omega)] at hRz hRy
    obtain ⟨i, hi, rfl⟩ := of_i (x := i) (n := 41) (by omega) (by omega) (by decide)
    obtain ⟨j, hj, rfl⟩ := of_i (x := j) (n := 41) (by omega) (by omega) (by decide)
    obtain ⟨n, hn, rfl⟩ := of_i (x := n) (n := 41) (by omega) (by omega) (by decide)
    rw [nI_toInt (by omega), nI_toInt (by omega), nI_toInt (by omega)] at hrun
    simp (disch := omega) only [nI_toInt, Int.toNat_natCast] at *
    clear hB hB0 hC hC0
    have hq := hR.q12 (o := y) (Q := mvf (S 12) (40 * z + i) (40 * y + j) n) (q := va_cpy (μ (62 + 2 * z)) (μ (62 + 2 * y)) i j n) hy4 (by
      intro a ha
      unfold va_cpy mvf
      by_cases h : j ≤ a ∧ a < j + n
      · rw [if_pos h, if_pos (by omega), hXq _ (by omega)]
        congr 1
        omega
      · rw [if_neg h, if_neg (by omega)]
        exact hYq a ha) (by
      intro a ha hay b hb
      unfold mvf
      rw [if_neg (by omega)])
    have hK : ∀ L : Lc, L[(5 : Nat)]? = some (some (.int (nI n))) → VW X m_X8_move 3 (Pc8 S μ (nI n, sf S 12 (mvf (S 12) (40 * z + i) (40 * y + j) n))) 57 L [] (sf μ (62 + 2 * y) (va_cpy (μ (62 + 2 * z)) (μ (62 + 2 * y)) i j n)) := by
      intro L hL
      clear hW hN hRW hR hRz hRy
      refine gow ck_X8_move 57 [] ?_
      conv => whnf
      rw [hL]
      conv => whnf
      exact Pc8.of rfl hq (fun a ha => sf_ne (by omega))
    refine Mt_of ck_X8_move mf_109 rfl ?_
    clear hW hN hRW hR hq
    repeat' first
        | (with_reducible refine at_h 56 ?_)
        | ((with_reducible refine gow ck_X8_move _ [56] ?_); conv => whnf)
        | ((with_reducible refine bn_t ?_ ?_); (· first | with_reducible assumption | (simp (disch := omega) only [true_and, and_true, false_and, and_false, or_false, false_or, or_true, true_or, not_true_eq_false, not_false_eq_true, ev, ew, e1, mpa_0, mpa_1, mpa_2, mpa_9, mpa_10, mpa_11, mpa_12, Int32.reduceToNatClampNeg, Int32.le_iff_toInt_le, Int32.lt_iff_toInt_lt, ← Int32.toInt_inj, nI_toInt, Int32.reduceToInt] <;> omega) | assumption | (simp (disch := omega) only [isT, isP, two, Int32.toInt_sub, Int.bmod_def, true_and, and_true, false_and, and_false, or_false, false_or, or_true, true_or, not_true_eq_false, not_false_eq_true, ev, ew, e1, mpa_0, mpa_1, mpa_2, mpa_9, mpa_10, mpa_11, mpa_12, Int32.reduceToNatClampNeg, Int32.le_iff_toInt_le, Int32.lt_iff_toInt_lt, ← Int32.toInt_inj, nI_toInt, Int32.reduceToInt] at * <;> omega) | decide); conv => whnf)
        | ((with_reducible refine bn_f ?_ ?_); (· first | with_reducible assumption | (simp (disch := omega) only [true_and, and_true, false_and, and_false, or_false, false_or, or_true, true_or, not_true_eq_false, not_false_eq_true, ev, ew, e1, mpa_0, mpa_1, mpa_2, mpa_9, mpa_10, mpa_11, mpa_12, Int32.reduceToNatClampNeg, Int32.le_iff_toInt_le, Int32.lt_iff_toInt_lt, ← Int32.toInt_inj, nI_toInt, Int32.reduceToInt] <;> omega) | assumption | (simp (disch := omega) only [isT, isP, two, Int32.toInt_sub, Int.bmod_def, true_and, and_true, false_and, and_false, or_false, false_or, or_true, true_or, not_true_eq_false, not_false_eq_true, ev, ew, e1, mpa_0, mpa_1, mpa_2, mpa_9, mpa_10, mpa_11, mpa_12, Int32.reduceToNatClampNeg, Int32.le_iff_toInt_le, Int32.lt_iff_toInt_lt, ← Int32.toInt_inj, nI_toInt, Int32.reduceToInt] at * <;> omega) | decide); conv => whnf)
        | ((with_reducible refine bc_t ?_ ?_); (· first | with_reducible assumption | (simp (disch := omega) only [true_and, and_true, false_and, and_false, or_false, false_or, or_true, true_or, not_true_eq_false, not_false_eq_true, ev, ew, e1, mpa_0, mpa_1, mpa_2, mpa_9, mpa_10, mpa_11, mpa_12, Int32.reduceToNatClampNeg, Int32.le_iff_toInt_le, Int32.lt_iff_toInt_lt, ← Int32.toInt_inj, nI_toInt, Int32.reduceToInt] <;> omega) | assumption | (simp (disch := omega) only [isT, isP, two, Int32.toInt_sub, Int.bmod_def, true_and, and_true, false_and, and_false, or_false, false_or, or_true, true_or, not_true_eq_false, not_false_eq_true, ev, ew, e1, mpa_0, mpa_1, mpa_2, mpa_9, mpa_10, mpa_11, mpa_12, Int32.reduceToNatClampNeg, Int32.le_iff_toInt_le, Int32.lt_iff_toInt_lt, ← Int32.toInt_inj, nI_toInt, Int32.reduceToInt] at * <;> omega) | decide); conv => whnf)
        | ((with_reducible refine bc_f ?_ ?_); (· first | with_reducible assumption | (simp (disch := omega) only [true_and, and_true, false_and, and_false, or_false, false_or, or_true, true_or, not_true_eq_false, not_false_eq_true, ev, ew, e1, mpa_0, mpa_1, mpa_2, mpa_9, mpa_10, mpa_11, mpa_12, Int32.reduceToNatClampNeg, Int32.le_iff_toInt_le, Int32.lt_iff_toInt_lt, ← Int32.toInt_inj, nI_toInt, Int32.reduceToInt] <;> omega) | assumption | (simp (disch := omega) only [isT, isP, two, Int32.toInt_sub, Int.bmod_def, true_and, and_true, false_and, and_false, or_false, false_or, or_true, true_or, not_true_eq_false, not_false_eq_true, ev, ew, e1, mpa_0, mpa_1, mpa_2, mpa_9, mpa_10, mpa_11, mpa_12, Int32.reduceToNatClampNeg, Int32.le_iff_toInt_le, Int32.lt_iff_toInt_lt, ← Int32.toInt_inj, nI_toInt, Int32.reduceToInt] at * <;> omega) | decide); conv => whnf)
        | ((with_reducible refine br_t ?_ ?_); (· first | with_reducible assumption | (simp (disch := omega) only [true_and, and_true, false_and, and_false, or_false, false_or, or_true, true_or, not_true_eq_false, not_false_eq_true, ev, ew, e1, mpa_0, mpa_1, mpa_2, mpa_9, mpa_10, mpa_11, mpa_12, Int32.reduceToNatClampNeg, Int32.le_iff_toInt_le, Int32.lt_iff_toInt_lt, ← Int32.toInt_inj, nI_toInt, Int32.reduceToInt] <;> omega) | assumption | (simp (disch := omega) only [isT, isP, two, Int32.toInt_sub, Int.bmod_def, true_and, and_true, false_and, and_false, or_false, false_or, or_true, true_or, not_true_eq_false, not_false_eq_true, ev, ew, e1, mpa_0, mpa_1, mpa_2, mpa_9, mpa_10, mpa_11, mpa_12, Int32.reduceToNatClampNeg, Int32.le_iff_toInt_le, Int32.lt_iff_toInt_lt, ← Int32.toInt_inj, nI_toInt, Int32.reduceToInt] at * <;> omega) | decide); conv => whnf)
        | ((with_reducible refine br_f ?_ ?_); (· first | with_reducible assumption | (simp (disch := omega) only [true_and, and_true, false_and, and_false, or_false, false_or, or_true, true_or, not_true_eq_false, not_false_eq_true, ev, ew, e1, mpa_0, mpa_1, mpa_2, mpa_9, mpa_10, mpa_11, mpa_12, Int32.reduceToNatClampNeg, Int32.le_iff_toInt_le, Int32.lt_iff_toInt_lt, ← Int32.toInt_inj, nI_toInt, Int32.reduceToInt] <;> omega) | assumption | (simp (disch := omega) only [isT, isP, two, Int32.toInt_sub, Int.bmod_def, true_and, and_true, false_and, and_false, or_false, false_or, or_true, true_or, not_true_eq_false, not_false_eq_true, ev, ew, e1, mpa_0, mpa_1, mpa_2, mpa_9, mpa_10, mpa_11, mpa_12, Int32.reduceToNatClampNeg, Int32.le_iff_toInt_le, Int32.lt_iff_toInt_lt, ← Int32.toInt_inj, nI_toInt, Int32.reduceToInt] at * <;> omega) | decide); conv => whnf)
        | ((with_reducible refine br_nt ?_ ?_); (· first | with_reducible assumption | (simp (disch := omega) only [true_and, and_true, false_and, and_false, or_false, false_or, or_true, true_or, not_true_eq_false, not_false_eq_true, ev, ew, e1, mpa_0, mpa_1, mpa_2, mpa_9, mpa_10, mpa_11, mpa_12, Int32.reduceToNatClampNeg, Int32.le_iff_toInt_le, Int32.lt_iff_toInt_lt, ← Int32.toInt_inj, nI_toInt, Int32.reduceToInt] <;> omega) | assumption | (simp (disch := omega) only [isT, isP, two, Int32.toInt_sub, Int.bmod_def, true_and, and_true, false_and, and_false, or_false, false_or, or_true, true_or, not_true_eq_false, not_false_eq_true, ev, ew, e1, mpa_0, mpa_1, mpa_2, mpa_9, mpa_10, mpa_11, mpa_12, Int32.reduceToNatClampNeg, Int32.le_iff_toInt_le, Int32.lt_iff_toInt_lt, ← Int32.toInt_inj, nI_toInt, Int32.reduceToInt] at * <;> omega) | decide); conv => whnf)
        | ((with_reducible refine br_nf ?_ ?_); (· first | with_reducible assumption | (simp (disch := omega) only [true_and, and_true, false_and, and_false, or_false, false_or, or_true, true_or, not_true_eq_false, not_false_eq_true, ev, ew, e1, mpa_0, mpa_1, mpa_2, mpa_9, mpa_10, mpa_11, mpa_12, Int32.reduceToNatClampNeg, Int32.le_iff_toInt_le, Int32.lt_iff_toInt_lt, ← Int32.toInt_inj, nI_toInt, Int32.reduceToInt] <;> omega) | assumption | (simp (disch := omega) only [isT, isP, two, Int32.toInt_sub, Int.bmod_def, true_and, and_true, false_and, and_false, or_false, false_or, or_true, true_or, not_true_eq_false, not_false_eq_true, ev, ew, e1, mpa_0, mpa_1, mpa_2, mpa_9, mpa_10, mpa_11, mpa_12, Int32.reduceToNatClampNeg, Int32.le_iff_toInt_le, Int32.lt_iff_toInt_lt, ← Int32.toInt_inj, nI_toInt, Int32.reduceToInt] at * <;> omega) | decide); conv => whnf)
        | ((with_reducible refine ckI ?_ ?_); (· first | ((with_reducible refine vp_in_nI ?_ ?_); (· omega); (· decide)) | exact vp_c (by decide) | exact ⟨_, rfl⟩ | exact Or.inl rfl | exact Or.inr rfl | exact b2_01 _); conv => whnf)
        | ((with_reducible apply cl_p); (case hM => with_reducible exact k8_fail1 _ _); (case hc => exact rfl); (case hd => first | decide | omega); conv => whnf)
        | ((with_reducible apply cl_p); (case hM => with_reducible exact k8_fail2 _ _); (case hc => exact rfl); (case hd => first | decide | omega); conv => whnf)
        | ((with_reducible apply cl_p); (case hM => with_reducible exact k8_fail3 _ _); (case hc => exact rfl); (case hd => first | decide | omega); conv => whnf)
        | ((with_reducible apply cl_p); (case hM => with_reducible exact k8_fail4 _ _); (case hc => exact rfl); (case hd => first | decide | omega); conv => whnf)
        | ((with_reducible apply cl_p); (case hM => with_reducible exact k8_fail5 _ _); (case hc => exact rfl); (case hd => first | decide | omega); conv => whnf)
        | ((with_reducible apply cl_p); (case hM => exact k8_sheetOfN _ _ z hz4); (case hc => exact rfl); (case hd => first | decide | omega); conv => whnf)
        | ((with_reducible apply cl_p); (case hM => exact k8_sheetOfN _ _ y hy4); (case hc => exact rfl); (case hd => first | decide | omega); conv => whnf)
        | ((with_reducible apply cl_p); (case hM => exact k8_sheetOf_n _ _ s ps); (case hc => exact rfl); (case hd => first | decide | omega); conv => whnf)
        | ((with_reducible apply cl_p); (case hM => exact k8_sheetOf_n _ _ o po); (case hc => exact rfl); (case hd => first | decide | omega); conv => whnf)
        | ((with_reducible apply cl_p); (case hM => with_reducible exact k2_isMissing _ _ z hz4); (case hc => exact rfl); (case hd => first | decide | omega); conv => whnf)
        | ((with_reducible apply cl_p); (case hM => with_reducible exact k2_isMissing _ _ y hy4); (case hc => exact rfl); (case hd => first | decide | omega); conv => whnf)
        | ((with_reducible apply cl_p); (case hM => exact hRz); (case hc => exact rfl); (case hd => first | decide | omega); conv => whnf)
        | ((with_reducible apply cl_p); (case hM => exact hRy); (case hc => exact rfl); (case hd => first | decide | omega); conv => whnf)
        | ((rw [hss]); conv => whnf)
        | ((rw [hsn]); conv => whnf)
        | ((rw [hsy]); conv => whnf)
        | ((rw [hsm]); conv => whnf)
        | ((with_reducible refine ckJ ?_ ?_); conv => whnf)
        | fail
    all_goals first
      | exact rcS hz4
      | exact rcS hy4
      | skip
    all_goals refine hd_k 56 ?_
    all_goals refine VW_cpN (n0 := 40) (n1 := 40) i j n hsn hsm (by omega) (by omega) (by decide) (by decide) ac_8 (by decide) (by decide) (chk_at ck_X8_move (k := 56) (e := e2 115 (Instr.invokestatic 285) 3 .nop) rfl).1 (pc_next ck_X8_move (k := 56) (a := e2 115 (Instr.invokestatic 285) 3 .nop) (b := e1 118 (.iload 5) 2) rfl rfl) ?_
    all_goals exact hK _ rfl
  · have hso : (0 ≤ s ∧ s ≤ 3) ∧ (0 ≤ o ∧ o ≤ 3) := by assumption
    obtain ⟨hs1, ho1⟩ := hso
    have hs03 : 0 ≤ s ∧ s ≤ 3 := hs1
    obtain ⟨z, hz4, rfl⟩ := in_3 hs03
    have hss := shS hz4
    have hsn := shN hz4
    obtain ⟨hX2, hX1, hXq⟩ := hR.2.2.2.2.2 z hz4
    obtain ⟨hB, hZ, hB0⟩ := hW.2.2.2 z hz4
    clear hs03
    have ho03 : 0 ≤ o ∧ o ≤ 3 := ho1
    obtain ⟨y, hy4, rfl⟩ := in_3 ho03
    have hsy := shS hy4
    have hsm := shN hy4
    obtain ⟨hY2, hY1, hYq⟩ := hR.2.2.2.2.2 y hy4
    obtain ⟨hC, hV, hC0⟩ := hW.2.2.2 y hy4
    clear ho03
    simp (disch := omega) only [nI_toInt, Int.toNat_natCast] at *
    have hmiss : ¬ (S 10 z = 0 ∨ S 10 y = 0) := by assumption
    have g1 : ¬ μ (61 + 2 * z) 2 = 0 := fun h => hmiss (Or.inl (hX2.symm.trans h))
    have g2 : ¬ μ (61 + 2 * y) 2 = 0 := fun h => hmiss (Or.inr (hY2.symm.trans h))
    have g3 : μ (61 + 2 * z) 2 = μ (61 + 2 * y) 2 := by rw [hX2, hY2]; assumption
    have hRz := k2_hasRun X μ z i n hz4 (by rw [hX1]; exact hZ.1) (by rw [hX1]; exact hZ.2)
    have hRy := k2_hasRun X μ y j n hy4 (by rw [hY1]; exact hV.1) (by rw [hY1]; exact hV.2)
    rw [hX1] at hRz
    rw [hY1] at hRy
    have hrun : ¬ (((0 ≤ n ∧ 0 ≤ i) ∧ 0 ≤ j) ∧ (i.toInt + n.toInt ≤ (S 11 z).toInt ∧ j.toInt + n.toInt ≤ (S 11 y).toInt)) := by assumption
    simp only [Int32.le_iff_toInt_le, Int32.reduceToInt] at hrun
    by_cases hr1 : 0 ≤ i.toInt ∧ 0 ≤ n.toInt ∧ i.toInt + n.toInt ≤ (S 11 z).toInt
    · rw [b2_t hr1] at hRz
      rw [b2_f (by omega)] at hRy
      clear hrun hr1 hB hB0 hC hC0 hZ hV
      refine Mt_of ck_X8_move mf_109 rfl ?_
      have hRR := hR
      clear hW hN hRW hR
      repeat' first
          | ((with_reducible refine gow ck_X8_move _ [] ?_); conv => whnf)
          | ((with_reducible refine bn_t ?_ ?_); (· first | with_reducible assumption | (simp (disch := omega) only [true_and, and_true, false_and, and_false, or_false, false_or, or_true, true_or, not_true_eq_false, not_false_eq_true, ev, ew, e1, mpa_0, mpa_1, mpa_2, mpa_9, mpa_10, mpa_11, mpa_12, Int32.reduceToNatClampNeg, Int32.le_iff_toInt_le, Int32.lt_iff_toInt_lt, ← Int32.toInt_inj, nI_toInt, Int32.reduceToInt] <;> omega) | assumption | (simp (disch := omega) only [isT, isP, two, Int32.toInt_sub, Int.bmod_def, true_and, and_true, false_and, and_false, or_false, false_or, or_true, true_or, not_true_eq_false, not_false_eq_true, ev, ew, e1, mpa_0, mpa_1, mpa_2, mpa_9, mpa_10, mpa_11, mpa_12, Int32.reduceToNatClampNeg, Int32.le_iff_toInt_le, Int32.lt_iff_toInt_lt, ← Int32.toInt_inj, nI_toInt, Int32.reduceToInt] at * <;> omega) | decide); conv => whnf)
          | ((with_reducible refine bn_f ?_ ?_); (· first | with_reducible assumption | (simp (disch := omega) only [true_and, and_true, false_and, and_false, or_false, false_or, or_true, true_or, not_true_eq_false, not_false_eq_true, ev, ew, e1, mpa_0, mpa_1, mpa_2, mpa_9, mpa_10, mpa_11, mpa_12, Int32.reduceToNatClampNeg, Int32.le_iff_toInt_le, Int32.lt_iff_toInt_lt, ← Int32.toInt_inj, nI_toInt, Int32.reduceToInt] <;> omega) | assumption | (simp (disch := omega) only [isT, isP, two, Int32.toInt_sub, Int.bmod_def, true_and, and_true, false_and, and_false, or_false, false_or, or_true, true_or, not_true_eq_false, not_false_eq_true, ev, ew, e1, mpa_0, mpa_1, mpa_2, mpa_9, mpa_10, mpa_11, mpa_12, Int32.reduceToNatClampNeg, Int32.le_iff_toInt_le, Int32.lt_iff_toInt_lt, ← Int32.toInt_inj, nI_toInt, Int32.reduceToInt] at * <;> omega) | decide); conv => whnf)
          | ((with_reducible refine bc_t ?_ ?_); (· first | with_reducible assumption | (simp (disch := omega) only [true_and, and_true, false_and, and_false, or_false, false_or, or_true, true_or, not_true_eq_false, not_false_eq_true, ev, ew, e1, mpa_0, mpa_1, mpa_2, mpa_9, mpa_10, mpa_11, mpa_12, Int32.reduceToNatClampNeg, Int32.le_iff_toInt_le, Int32.lt_iff_toInt_lt, ← Int32.toInt_inj, nI_toInt, Int32.reduceToInt] <;> omega) | assumption | (simp (disch := omega) only [isT, isP, two, Int32.toInt_sub, Int.bmod_def, true_and, and_true, false_and, and_false, or_false, false_or, or_true, true_or, not_true_eq_false, not_false_eq_true, ev, ew, e1, mpa_0, mpa_1, mpa_2, mpa_9, mpa_10, mpa_11, mpa_12, Int32.reduceToNatClampNeg, Int32.le_iff_toInt_le, Int32.lt_iff_toInt_lt, ← Int32.toInt_inj, nI_toInt, Int32.reduceToInt] at * <;> omega) | decide); conv => whnf)
          | ((with_reducible refine bc_f ?_ ?_); (· first | with_reducible assumption | (simp (disch := omega) only [true_and, and_true, false_and, and_false, or_false, false_or, or_true, true_or, not_true_eq_false, not_false_eq_true, ev, ew, e1, mpa_0, mpa_1, mpa_2, mpa_9, mpa_10, mpa_11, mpa_12, Int32.reduceToNatClampNeg, Int32.le_iff_toInt_le, Int32.lt_iff_toInt_lt, ← Int32.toInt_inj, nI_toInt, Int32.reduceToInt] <;> omega) | assumption | (simp (disch := omega) only [isT, isP, two, Int32.toInt_sub, Int.bmod_def, true_and, and_true, false_and, and_false, or_false, false_or, or_true, true_or, not_true_eq_false, not_false_eq_true, ev, ew, e1, mpa_0, mpa_1, mpa_2, mpa_9, mpa_10, mpa_11, mpa_12, Int32.reduceToNatClampNeg, Int32.le_iff_toInt_le, Int32.lt_iff_toInt_lt, ← Int32.toInt_inj, nI_toInt, Int32.reduceToInt] at * <;> omega) | decide); conv => whnf)
          | ((with_reducible refine br_t ?_ ?_); (· first | with_reducible assumption | (simp (disch := omega) only [true_and, and_true, false_and, and_false, or_false, false_or, or_true, true_or, not_true_eq_false, not_false_eq_true, ev, ew, e1, mpa_0, mpa_1, mpa_2, mpa_9, mpa_10, mpa_11, mpa_12, Int32.reduceToNatClampNeg, Int32.le_iff_toInt_le, Int32.lt_iff_toInt_lt, ← Int32.toInt_inj, nI_toInt, Int32.reduceToInt] <;> omega) | assumption | (simp (disch := omega) only [isT, isP, two, Int32.toInt_sub, Int.bmod_def, true_and, and_true, false_and, and_false, or_false, false_or, or_true, true_or, not_true_eq_false, not_false_eq_true, ev, ew, e1, mpa_0, mpa_1, mpa_2, mpa_9, mpa_10, mpa_11, mpa_12, Int32.reduceToNatClampNeg, Int32.le_iff_toInt_le, Int32.lt_iff_toInt_lt, ← Int32.toInt_inj, nI_toInt, Int32.reduceToInt] at * <;> omega) | decide); conv => whnf)
          | ((with_reducible refine br_f ?_ ?_); (· first | with_reducible assumption | (simp (disch := omega) only [true_and, and_true, false_and, and_false, or_false, false_or, or_true, true_or, not_true_eq_false, not_false_eq_true, ev, ew, e1, mpa_0, mpa_1, mpa_2, mpa_9, mpa_10, mpa_11, mpa_12, Int32.reduceToNatClampNeg, Int32.le_iff_toInt_le, Int32.lt_iff_toInt_lt, ← Int32.toInt_inj, nI_toInt, Int32.reduceToInt] <;> omega) | assumption | (simp (disch := omega) only [isT, isP, two, Int32.toInt_sub, Int.bmod_def, true_and, and_true, false_and, and_false, or_false, false_or, or_true, true_or, not_true_eq_false, not_false_eq_true, ev, ew, e1, mpa_0, mpa_1, mpa_2, mpa_9, mpa_10, mpa_11, mpa_12, Int32.reduceToNatClampNeg, Int32.le_iff_toInt_le, Int32.lt_iff_toInt_lt, ← Int32.toInt_inj, nI_toInt, Int32.reduceToInt] at * <;> omega) | decide); conv => whnf)
          | ((with_reducible refine br_nt ?_ ?_); (· first | with_reducible assumption | (simp (disch := omega) only [true_and, and_true, false_and, and_false, or_false, false_or, or_true, true_or, not_true_eq_false, not_false_eq_true, ev, ew, e1, mpa_0, mpa_1, mpa_2, mpa_9, mpa_10, mpa_11, mpa_12, Int32.reduceToNatClampNeg, Int32.le_iff_toInt_le, Int32.lt_iff_toInt_lt, ← Int32.toInt_inj, nI_toInt, Int32.reduceToInt] <;> omega) | assumption | (simp (disch := omega) only [isT, isP, two, Int32.toInt_sub, Int.bmod_def, true_and, and_true, false_and, and_false, or_false, false_or, or_true, true_or, not_true_eq_false, not_false_eq_true, ev, ew, e1, mpa_0, mpa_1, mpa_2, mpa_9, mpa_10, mpa_11, mpa_12, Int32.reduceToNatClampNeg, Int32.le_iff_toInt_le, Int32.lt_iff_toInt_lt, ← Int32.toInt_inj, nI_toInt, Int32.reduceToInt] at * <;> omega) | decide); conv => whnf)
          | ((with_reducible refine br_nf ?_ ?_); (· first | with_reducible assumption | (simp (disch := omega) only [true_and, and_true, false_and, and_false, or_false, false_or, or_true, true_or, not_true_eq_false, not_false_eq_true, ev, ew, e1, mpa_0, mpa_1, mpa_2, mpa_9, mpa_10, mpa_11, mpa_12, Int32.reduceToNatClampNeg, Int32.le_iff_toInt_le, Int32.lt_iff_toInt_lt, ← Int32.toInt_inj, nI_toInt, Int32.reduceToInt] <;> omega) | assumption | (simp (disch := omega) only [isT, isP, two, Int32.toInt_sub, Int.bmod_def, true_and, and_true, false_and, and_false, or_false, false_or, or_true, true_or, not_true_eq_false, not_false_eq_true, ev, ew, e1, mpa_0, mpa_1, mpa_2, mpa_9, mpa_10, mpa_11, mpa_12, Int32.reduceToNatClampNeg, Int32.le_iff_toInt_le, Int32.lt_iff_toInt_lt, ← Int32.toInt_inj, nI_toInt, Int32.reduceToInt] at * <;> omega) | decide); conv => whnf)
          | ((with_reducible refine ckI ?_ ?_); (· first | ((with_reducible refine vp_in_nI ?_ ?_); (· omega); (· decide)) | exact vp_c (by decide) | exact ⟨_, rfl⟩ | exact Or.inl rfl | exact Or.inr rfl | exact b2_01 _); conv => whnf)
          | ((with_reducible apply cl_p); (case hM => with_reducible exact k8_fail1 _ _); (case hc => exact rfl); (case hd => first | decide | omega); conv => whnf)
          | ((with_reducible apply cl_p); (case hM => with_reducible exact k8_fail2 _ _); (case hc => exact rfl); (case hd => first | decide | omega); conv => whnf)
          | ((with_reducible apply cl_p); (case hM => with_reducible exact k8_fail3 _ _); (case hc => exact rfl); (case hd => first | decide | omega); conv => whnf)
          | ((with_reducible apply cl_p); (case hM => with_reducible exact k8_fail4 _ _); (case hc => exact rfl); (case hd => first | decide | omega); conv => whnf)
          | ((with_reducible apply cl_p); (case hM => with_reducible exact k8_fail5 _ _); (case hc => exact rfl); (case hd => first | decide | omega); conv => whnf)
          | ((with_reducible apply cl_p); (case hM => exact k8_sheetOfN _ _ z hz4); (case hc => exact rfl); (case hd => first | decide | omega); conv => whnf)
          | ((with_reducible apply cl_p); (case hM => exact k8_sheetOfN _ _ y hy4); (case hc => exact rfl); (case hd => first | decide | omega); conv => whnf)
          | ((with_reducible apply cl_p); (case hM => exact k8_sheetOf_n _ _ s ps); (case hc => exact rfl); (case hd => first | decide | omega); conv => whnf)
          | ((with_reducible apply cl_p); (case hM => exact k8_sheetOf_n _ _ o po); (case hc => exact rfl); (case hd => first | decide | omega); conv => whnf)
          | ((with_reducible apply cl_p); (case hM => with_reducible exact k2_isMissing _ _ z hz4); (case hc => exact rfl); (case hd => first | decide | omega); conv => whnf)
          | ((with_reducible apply cl_p); (case hM => with_reducible exact k2_isMissing _ _ y hy4); (case hc => exact rfl); (case hd => first | decide | omega); conv => whnf)
          | ((with_reducible apply cl_p); (case hM => exact hRz); (case hc => exact rfl); (case hd => first | decide | omega); conv => whnf)
          | ((with_reducible apply cl_p); (case hM => exact hRy); (case hc => exact rfl); (case hd => first | decide | omega); conv => whnf)
          | ((rw [hss]); conv => whnf)
          | ((rw [hsn]); conv => whnf)
          | ((rw [hsy]); conv => whnf)
          | ((rw [hsm]); conv => whnf)
          | ((with_reducible refine ckJ ?_ ?_); conv => whnf)
          | fail
      all_goals first
        | exact rcS hz4
        | exact rcS hy4
        | (refine Pc8.of rfl (hRR.er _) ?_; intro i hi; simp (disch := omega) only [hi_wr])
    · rw [b2_f hr1] at hRz
      clear hrun hr1 hB hB0 hC hC0 hZ hV
      refine Mt_of ck_X8_move mf_109 rfl ?_
      have hRR := hR
      clear hW hN hRW hR
      repeat' first
          | ((with_reducible refine gow ck_X8_move _ [] ?_); conv => whnf)
          | ((with_reducible refine bn_t ?_ ?_); (· first | with_reducible assumption | (simp (disch := omega) only [true_and, and_true, false_and, and_false, or_false, false_or, or_true, true_or, not_true_eq_false, not_false_eq_true, ev, ew, e1, mpa_0, mpa_1, mpa_2, mpa_9, mpa_10, mpa_11, mpa_12, Int32.reduceToNatClampNeg, Int32.le_iff_toInt_le, Int32.lt_iff_toInt_lt, ← Int32.toInt_inj, nI_toInt, Int32.reduceToInt] <;> omega) | assumption | (simp (disch := omega) only [isT, isP, two, Int32.toInt_sub, Int.bmod_def, true_and, and_true, false_and, and_false, or_false, false_or, or_true, true_or, not_true_eq_false, not_false_eq_true, ev, ew, e1, mpa_0, mpa_1, mpa_2, mpa_9, mpa_10, mpa_11, mpa_12, Int32.reduceToNatClampNeg, Int32.le_iff_toInt_le, Int32.lt_iff_toInt_lt, ← Int32.toInt_inj, nI_toInt, Int32.reduceToInt] at * <;> omega) | decide); conv => whnf)
          | ((with_reducible refine bn_f ?_ ?_); (· first | with_reducible assumption | (simp (disch := omega) only [true_and, and_true, false_and, and_false, or_false, false_or, or_true, true_or, not_true_eq_false, not_false_eq_true, ev, ew, e1, mpa_0, mpa_1, mpa_2, mpa_9, mpa_10, mpa_11, mpa_12, Int32.reduceToNatClampNeg, Int32.le_iff_toInt_le, Int32.lt_iff_toInt_lt, ← Int32.toInt_inj, nI_toInt, Int32.reduceToInt] <;> omega) | assumption | (simp (disch := omega) only [isT, isP, two, Int32.toInt_sub, Int.bmod_def, true_and, and_true, false_and, and_false, or_false, false_or, or_true, true_or, not_true_eq_false, not_false_eq_true, ev, ew, e1, mpa_0, mpa_1, mpa_2, mpa_9, mpa_10, mpa_11, mpa_12, Int32.reduceToNatClampNeg, Int32.le_iff_toInt_le, Int32.lt_iff_toInt_lt, ← Int32.toInt_inj, nI_toInt, Int32.reduceToInt] at * <;> omega) | decide); conv => whnf)
          | ((with_reducible refine bc_t ?_ ?_); (· first | with_reducible assumption | (simp (disch := omega) only [true_and, and_true, false_and, and_false, or_false, false_or, or_true, true_or, not_true_eq_false, not_false_eq_true, ev, ew, e1, mpa_0, mpa_1, mpa_2, mpa_9, mpa_10, mpa_11, mpa_12, Int32.reduceToNatClampNeg, Int32.le_iff_toInt_le, Int32.lt_iff_toInt_lt, ← Int32.toInt_inj, nI_toInt, Int32.reduceToInt] <;> omega) | assumption | (simp (disch := omega) only [isT, isP, two, Int32.toInt_sub, Int.bmod_def, true_and, and_true, false_and, and_false, or_false, false_or, or_true, true_or, not_true_eq_false, not_false_eq_true, ev, ew, e1, mpa_0, mpa_1, mpa_2, mpa_9, mpa_10, mpa_11, mpa_12, Int32.reduceToNatClampNeg, Int32.le_iff_toInt_le, Int32.lt_iff_toInt_lt, ← Int32.toInt_inj, nI_toInt, Int32.reduceToInt] at * <;> omega) | decide); conv => whnf)
          | ((with_reducible refine bc_f ?_ ?_); (· first | with_reducible assumption | (simp (disch := omega) only [true_and, and_true, false_and, and_false, or_false, false_or, or_true, true_or, not_true_eq_false, not_false_eq_true, ev, ew, e1, mpa_0, mpa_1, mpa_2, mpa_9, mpa_10, mpa_11, mpa_12, Int32.reduceToNatClampNeg, Int32.le_iff_toInt_le, Int32.lt_iff_toInt_lt, ← Int32.toInt_inj, nI_toInt, Int32.reduceToInt] <;> omega) | assumption | (simp (disch := omega) only [isT, isP, two, Int32.toInt_sub, Int.bmod_def, true_and, and_true, false_and, and_false, or_false, false_or, or_true, true_or, not_true_eq_false, not_false_eq_true, ev, ew, e1, mpa_0, mpa_1, mpa_2, mpa_9, mpa_10, mpa_11, mpa_12, Int32.reduceToNatClampNeg, Int32.le_iff_toInt_le, Int32.lt_iff_toInt_lt, ← Int32.toInt_inj, nI_toInt, Int32.reduceToInt] at * <;> omega) | decide); conv => whnf)
          | ((with_reducible refine br_t ?_ ?_); (· first | with_reducible assumption | (simp (disch := omega) only [true_and, and_true, false_and, and_false, or_false, false_or, or_true, true_or, not_true_eq_false, not_false_eq_true, ev, ew, e1, mpa_0, mpa_1, mpa_2, mpa_9, mpa_10, mpa_11, mpa_12, Int32.reduceToNatClampNeg, Int32.le_iff_toInt_le, Int32.lt_iff_toInt_lt, ← Int32.toInt_inj, nI_toInt, Int32.reduceToInt] <;> omega) | assumption | (simp (disch := omega) only [isT, isP, two, Int32.toInt_sub, Int.bmod_def, true_and, and_true, false_and, and_false, or_false, false_or, or_true, true_or, not_true_eq_false, not_false_eq_true, ev, ew, e1, mpa_0, mpa_1, mpa_2, mpa_9, mpa_10, mpa_11, mpa_12, Int32.reduceToNatClampNeg, Int32.le_iff_toInt_le, Int32.lt_iff_toInt_lt, ← Int32.toInt_inj, nI_toInt, Int32.reduceToInt] at * <;> omega) | decide); conv => whnf)
          | ((with_reducible refine br_f ?_ ?_); (· first | with_reducible assumption | (simp (disch := omega) only [true_and, and_true, false_and, and_false, or_false, false_or, or_true, true_or, not_true_eq_false, not_false_eq_true, ev, ew, e1, mpa_0, mpa_1, mpa_2, mpa_9, mpa_10, mpa_11, mpa_12, Int32.reduceToNatClampNeg, Int32.le_iff_toInt_le, Int32.lt_iff_toInt_lt, ← Int32.toInt_inj, nI_toInt, Int32.reduceToInt] <;> omega) | assumption | (simp (disch := omega) only [isT, isP, two, Int32.toInt_sub, Int.bmod_def, true_and, and_true, false_and, and_false, or_false, false_or, or_true, true_or, not_true_eq_false, not_false_eq_true, ev, ew, e1, mpa_0, mpa_1, mpa_2, mpa_9, mpa_10, mpa_11, mpa_12, Int32.reduceToNatClampNeg, Int32.le_iff_toInt_le, Int32.lt_iff_toInt_lt, ← Int32.toInt_inj, nI_toInt, Int32.reduceToInt] at * <;> omega) | decide); conv => whnf)
          | ((with_reducible refine br_nt ?_ ?_); (· first | with_reducible assumption | (simp (disch := omega) only [true_and, and_true, false_and, and_false, or_false, false_or, or_true, true_or, not_true_eq_false, not_false_eq_true, ev, ew, e1, mpa_0, mpa_1, mpa_2, mpa_9, mpa_10, mpa_11, mpa_12, Int32.reduceToNatClampNeg, Int32.le_iff_toInt_le, Int32.lt_iff_toInt_lt, ← Int32.toInt_inj, nI_toInt, Int32.reduceToInt] <;> omega) | assumption | (simp (disch := omega) only [isT, isP, two, Int32.toInt_sub, Int.bmod_def, true_and, and_true, false_and, and_false, or_false, false_or, or_true, true_or, not_true_eq_false, not_false_eq_true, ev, ew, e1, mpa_0, mpa_1, mpa_2, mpa_9, mpa_10, mpa_11, mpa_12, Int32.reduceToNatClampNeg, Int32.le_iff_toInt_le, Int32.lt_iff_toInt_lt, ← Int32.toInt_inj, nI_toInt, Int32.reduceToInt] at * <;> omega) | decide); conv => whnf)
          | ((with_reducible refine br_nf ?_ ?_); (· first | with_reducible assumption | (simp (disch := omega) only [true_and, and_true, false_and, and_false, or_false, false_or, or_true, true_or, not_true_eq_false, not_false_eq_true, ev, ew, e1, mpa_0, mpa_1, mpa_2, mpa_9, mpa_10, mpa_11, mpa_12, Int32.reduceToNatClampNeg, Int32.le_iff_toInt_le, Int32.lt_iff_toInt_lt, ← Int32.toInt_inj, nI_toInt, Int32.reduceToInt] <;> omega) | assumption | (simp (disch := omega) only [isT, isP, two, Int32.toInt_sub, Int.bmod_def, true_and, and_true, false_and, and_false, or_false, false_or, or_true, true_or, not_true_eq_false, not_false_eq_true, ev, ew, e1, mpa_0, mpa_1, mpa_2, mpa_9, mpa_10, mpa_11, mpa_12, Int32.reduceToNatClampNeg, Int32.le_iff_toInt_le, Int32.lt_iff_toInt_lt, ← Int32.toInt_inj, nI_toInt, Int32.reduceToInt] at * <;> omega) | decide); conv => whnf)
          | ((with_reducible refine ckI ?_ ?_); (· first | ((with_reducible refine vp_in_nI ?_ ?_); (· omega); (· decide)) | exact vp_c (by decide) | exact ⟨_, rfl⟩ | exact Or.inl rfl | exact Or.inr rfl | exact b2_01 _); conv => whnf)
          | ((with_reducible apply cl_p); (case hM => with_reducible exact k8_fail1 _ _); (case hc => exact rfl); (case hd => first | decide | omega); conv => whnf)
          | ((with_reducible apply cl_p); (case hM => with_reducible exact k8_fail2 _ _); (case hc => exact rfl); (case hd => first | decide | omega); conv => whnf)
          | ((with_reducible apply cl_p); (case hM => with_reducible exact k8_fail3 _ _); (case hc => exact rfl); (case hd => first | decide | omega); conv => whnf)
          | ((with_reducible apply cl_p); (case hM => with_reducible exact k8_fail4 _ _); (case hc => exact rfl); (case hd => first | decide | omega); conv => whnf)
          | ((with_reducible apply cl_p); (case hM => with_reducible exact k8_fail5 _ _); (case hc => exact rfl); (case hd => first | decide | omega); conv => whnf)
          | ((with_reducible apply cl_p); (case hM => exact k8_sheetOfN _ _ z hz4); (case hc => exact rfl); (case hd => first | decide | omega); conv => whnf)
          | ((with_reducible apply cl_p); (case hM => exact k8_sheetOfN _ _ y hy4); (case hc => exact rfl); (case hd => first | decide | omega); conv => whnf)
          | ((with_reducible apply cl_p); (case hM => exact k8_sheetOf_n _ _ s ps); (case hc => exact rfl); (case hd => first | decide | omega); conv => whnf)
          | ((with_reducible apply cl_p); (case hM => exact k8_sheetOf_n _ _ o po); (case hc => exact rfl); (case hd => first | decide | omega); conv => whnf)
          | ((with_reducible apply cl_p); (case hM => with_reducible exact k2_isMissing _ _ z hz4); (case hc => exact rfl); (case hd => first | decide | omega); conv => whnf)
          | ((with_reducible apply cl_p); (case hM => with_reducible exact k2_isMissing _ _ y hy4); (case hc => exact rfl); (case hd => first | decide | omega); conv => whnf)
          | ((with_reducible apply cl_p); (case hM => exact hRz); (case hc => exact rfl); (case hd => first | decide | omega); conv => whnf)
          | ((with_reducible apply cl_p); (case hM => exact hRy); (case hc => exact rfl); (case hd => first | decide | omega); conv => whnf)
          | ((rw [hss]); conv => whnf)
          | ((rw [hsn]); conv => whnf)
          | ((rw [hsy]); conv => whnf)
          | ((rw [hsm]); conv => whnf)
          | ((with_reducible refine ckJ ?_ ?_); conv => whnf)
          | fail
      all_goals first
        | exact rcS hz4
        | exact rcS hy4
        | (refine Pc8.of rfl (hRR.er _) ?_; intro i hi; simp (disch := omega) only [hi_wr])
  · have hso : (0 ≤ s ∧ s ≤ 3) ∧ (0 ≤ o ∧ o ≤ 3) := by assumption
    obtain ⟨hs1, ho1⟩ := hso
    have hs03 : 0 ≤ s ∧ s ≤ 3 := hs1
    obtain ⟨z, hz4, rfl⟩ := in_3 hs03
    have hss := shS hz4
    have hsn := shN hz4
    obtain ⟨hX2, hX1, hXq⟩ := hR.2.2.2.2.2 z hz4
    obtain ⟨hB, hZ, hB0⟩ := hW.2.2.2 z hz4
    clear hs03
    have ho03 : 0 ≤ o ∧ o ≤ 3 := ho1
    obtain ⟨y, hy4, rfl⟩ := in_3 ho03
    have hsy := shS hy4
    have hsm := shN hy4
    obtain ⟨hY2, hY1, hYq⟩ := hR.2.2.2.2.2 y hy4
    obtain ⟨hC, hV, hC0⟩ := hW.2.2.2 y hy4
    clear ho03
    simp (disch := omega) only [nI_toInt, Int.toNat_natCast] at *
    have hmiss : ¬ (S 10 z = 0 ∨ S 10 y = 0) := by assumption
    have g1 : ¬ μ (61 + 2 * z) 2 = 0 := fun h => hmiss (Or.inl (hX2.symm.trans h))
    have g2 : ¬ μ (61 + 2 * y) 2 = 0 := fun h => hmiss (Or.inr (hY2.symm.trans h))
    have g3 : ¬ μ (61 + 2 * z) 2 = μ (61 + 2 * y) 2 := by rw [hX2, hY2]; assumption
    clear hB hB0 hC hC0 hZ hV
    refine Mt_of ck_X8_move mf_109 rfl ?_
    have hRR := hR
    clear hW hN hRW hR
    repeat' first
        | ((with_reducible refine gow ck_X8_move _ [] ?_); conv => whnf)
        | ((with_reducible refine bn_t ?_ ?_); (· first | with_reducible assumption | (simp (disch := omega) only [true_and, and_true, false_and, and_false, or_false, false_or, or_true, true_or, not_true_eq_false, not_false_eq_true, ev, ew, e1, mpa_0, mpa_1, mpa_2, mpa_9, mpa_10, mpa_11, mpa_12, Int32.reduceToNatClampNeg, Int32.le_iff_toInt_le, Int32.lt_iff_toInt_lt, ← Int32.toInt_inj, nI_toInt, Int32.reduceToInt] <;> omega) | assumption | (simp (disch := omega) only [isT, isP, two, Int32.toInt_sub, Int.bmod_def, true_and, and_true, false_and, and_false, or_false, false_or, or_true, true_or, not_true_eq_false, not_false_eq_true, ev, ew, e1, mpa_0, mpa_1, mpa_2, mpa_9, mpa_10, mpa_11, mpa_12, Int32.reduceToNatClampNeg, Int32.le_iff_toInt_le, Int32.lt_iff_toInt_lt, ← Int32.toInt_inj, nI_toInt, Int32.reduceToInt] at * <;> omega) | decide); conv => whnf)
        | ((with_reducible refine bn_f ?_ ?_); (· first | with_reducible assumption | (simp (disch := omega) only [true_and, and_true, false_and, and_false, or_false, false_or, or_true, true_or, not_true_eq_false, not_false_eq_true, ev, ew, e1, mpa_0, mpa_1, mpa_2, mpa_9, mpa_10, mpa_11, mpa_12, Int32.reduceToNatClampNeg, Int32.le_iff_toInt_le, Int32.lt_iff_toInt_lt, ← Int32.toInt_inj, nI_toInt, Int32.reduceToInt] <;> omega) | assumption | (simp (disch := omega) only [isT, isP, two, Int32.toInt_sub, Int.bmod_def, true_and, and_true, false_and, and_false, or_false, false_or, or_true, true_or, not_true_eq_false, not_false_eq_true, ev, ew, e1, mpa_0, mpa_1, mpa_2, mpa_9, mpa_10, mpa_11, mpa_12, Int32.reduceToNatClampNeg, Int32.le_iff_toInt_le, Int32.lt_iff_toInt_lt, ← Int32.toInt_inj, nI_toInt, Int32.reduceToInt] at * <;> omega) | decide); conv => whnf)
        | ((with_reducible refine bc_t ?_ ?_); (· first | with_reducible assumption | (simp (disch := omega) only [true_and, and_true, false_and, and_false, or_false, false_or, or_true, true_or, not_true_eq_false, not_false_eq_true, ev, ew, e1, mpa_0, mpa_1, mpa_2, mpa_9, mpa_10, mpa_11, mpa_12, Int32.reduceToNatClampNeg, Int32.le_iff_toInt_le, Int32.lt_iff_toInt_lt, ← Int32.toInt_inj, nI_toInt, Int32.reduceToInt] <;> omega) | assumption | (simp (disch := omega) only [isT, isP, two, Int32.toInt_sub, Int.bmod_def, true_and, and_true, false_and, and_false, or_false, false_or, or_true, true_or, not_true_eq_false, not_false_eq_true, ev, ew, e1, mpa_0, mpa_1, mpa_2, mpa_9, mpa_10, mpa_11, mpa_12, Int32.reduceToNatClampNeg, Int32.le_iff_toInt_le, Int32.lt_iff_toInt_lt, ← Int32.toInt_inj, nI_toInt, Int32.reduceToInt] at * <;> omega) | decide); conv => whnf)
        | ((with_reducible refine bc_f ?_ ?_); (· first | with_reducible assumption | (simp (disch := omega) only [true_and, and_true, false_and, and_false, or_false, false_or, or_true, true_or, not_true_eq_false, not_false_eq_true, ev, ew, e1, mpa_0, mpa_1, mpa_2, mpa_9, mpa_10, mpa_11, mpa_12, Int32.reduceToNatClampNeg, Int32.le_iff_toInt_le, Int32.lt_iff_toInt_lt, ← Int32.toInt_inj, nI_toInt, Int32.reduceToInt] <;> omega) | assumption | (simp (disch := omega) only [isT, isP, two, Int32.toInt_sub, Int.bmod_def, true_and, and_true, false_and, and_false, or_false, false_or, or_true, true_or, not_true_eq_false, not_false_eq_true, ev, ew, e1, mpa_0, mpa_1, mpa_2, mpa_9, mpa_10, mpa_11, mpa_12, Int32.reduceToNatClampNeg, Int32.le_iff_toInt_le, Int32.lt_iff_toInt_lt, ← Int32.toInt_inj, nI_toInt, Int32.reduceToInt] at * <;> omega) | decide); conv => whnf)
        | ((with_reducible refine br_t ?_ ?_); (· first | with_reducible assumption | (simp (disch := omega) only [true_and, and_true, false_and, and_false, or_false, false_or, or_true, true_or, not_true_eq_false, not_false_eq_true, ev, ew, e1, mpa_0, mpa_1, mpa_2, mpa_9, mpa_10, mpa_11, mpa_12, Int32.reduceToNatClampNeg, Int32.le_iff_toInt_le, Int32.lt_iff_toInt_lt, ← Int32.toInt_inj, nI_toInt, Int32.reduceToInt] <;> omega) | assumption | (simp (disch := omega) only [isT, isP, two, Int32.toInt_sub, Int.bmod_def, true_and, and_true, false_and, and_false, or_false, false_or, or_true, true_or, not_true_eq_false, not_false_eq_true, ev, ew, e1, mpa_0, mpa_1, mpa_2, mpa_9, mpa_10, mpa_11, mpa_12, Int32.reduceToNatClampNeg, Int32.le_iff_toInt_le, Int32.lt_iff_toInt_lt, ← Int32.toInt_inj, nI_toInt, Int32.reduceToInt] at * <;> omega) | decide); conv => whnf)
        | ((with_reducible refine br_f ?_ ?_); (· first | with_reducible assumption | (simp (disch := omega) only [true_and, and_true, false_and, and_false, or_false, false_or, or_true, true_or, not_true_eq_false, not_false_eq_true, ev, ew, e1, mpa_0, mpa_1, mpa_2, mpa_9, mpa_10, mpa_11, mpa_12, Int32.reduceToNatClampNeg, Int32.le_iff_toInt_le, Int32.lt_iff_toInt_lt, ← Int32.toInt_inj, nI_toInt, Int32.reduceToInt] <;> omega) | assumption | (simp (disch := omega) only [isT, isP, two, Int32.toInt_sub, Int.bmod_def, true_and, and_true, false_and, and_false, or_false, false_or, or_true, true_or, not_true_eq_false, not_false_eq_true, ev, ew, e1, mpa_0, mpa_1, mpa_2, mpa_9, mpa_10, mpa_11, mpa_12, Int32.reduceToNatClampNeg, Int32.le_iff_toInt_le, Int32.lt_iff_toInt_lt, ← Int32.toInt_inj, nI_toInt, Int32.reduceToInt] at * <;> omega) | decide); conv => whnf)
        | ((with_reducible refine br_nt ?_ ?_); (· first | with_reducible assumption | (simp (disch := omega) only [true_and, and_true, false_and, and_false, or_false, false_or, or_true, true_or, not_true_eq_false, not_false_eq_true, ev, ew, e1, mpa_0, mpa_1, mpa_2, mpa_9, mpa_10, mpa_11, mpa_12, Int32.reduceToNatClampNeg, Int32.le_iff_toInt_le, Int32.lt_iff_toInt_lt, ← Int32.toInt_inj, nI_toInt, Int32.reduceToInt] <;> omega) | assumption | (simp (disch := omega) only [isT, isP, two, Int32.toInt_sub, Int.bmod_def, true_and, and_true, false_and, and_false, or_false, false_or, or_true, true_or, not_true_eq_false, not_false_eq_true, ev, ew, e1, mpa_0, mpa_1, mpa_2, mpa_9, mpa_10, mpa_11, mpa_12, Int32.reduceToNatClampNeg, Int32.le_iff_toInt_le, Int32.lt_iff_toInt_lt, ← Int32.toInt_inj, nI_toInt, Int32.reduceToInt] at * <;> omega) | decide); conv => whnf)
        | ((with_reducible refine br_nf ?_ ?_); (· first | with_reducible assumption | (simp (disch := omega) only [true_and, and_true, false_and, and_false, or_false, false_or, or_true, true_or, not_true_eq_false, not_false_eq_true, ev, ew, e1, mpa_0, mpa_1, mpa_2, mpa_9, mpa_10, mpa_11, mpa_12, Int32.reduceToNatClampNeg, Int32.le_iff_toInt_le, Int32.lt_iff_toInt_lt, ← Int32.toInt_inj, nI_toInt, Int32.reduceToInt] <;> omega) | assumption | (simp (disch := omega) only [isT, isP, two, Int32.toInt_sub, Int.bmod_def, true_and, and_true, false_and, and_false, or_false, false_or, or_true, true_or, not_true_eq_false, not_false_eq_true, ev, ew, e1, mpa_0, mpa_1, mpa_2, mpa_9, mpa_10, mpa_11, mpa_12, Int32.reduceToNatClampNeg, Int32.le_iff_toInt_le, Int32.lt_iff_toInt_lt, ← Int32.toInt_inj, nI_toInt, Int32.reduceToInt] at * <;> omega) | decide); conv => whnf)
        | ((with_reducible refine ckI ?_ ?_); (· first | ((with_reducible refine vp_in_nI ?_ ?_); (· omega); (· decide)) | exact vp_c (by decide) | exact ⟨_, rfl⟩ | exact Or.inl rfl | exact Or.inr rfl | exact b2_01 _); conv => whnf)
        | ((with_reducible apply cl_p); (case hM => with_reducible exact k8_fail1 _ _); (case hc => exact rfl); (case hd => first | decide | omega); conv => whnf)
        | ((with_reducible apply cl_p); (case hM => with_reducible exact k8_fail2 _ _); (case hc => exact rfl); (case hd => first | decide | omega); conv => whnf)
        | ((with_reducible apply cl_p); (case hM => with_reducible exact k8_fail3 _ _); (case hc => exact rfl); (case hd => first | decide | omega); conv => whnf)
        | ((with_reducible apply cl_p); (case hM => with_reducible exact k8_fail4 _ _); (case hc => exact rfl); (case hd => first | decide | omega); conv => whnf)
        | ((with_reducible apply cl_p); (case hM => with_reducible exact k8_fail5 _ _); (case hc => exact rfl); (case hd => first | decide | omega); conv => whnf)
        | ((with_reducible apply cl_p); (case hM => exact k8_sheetOfN _ _ z hz4); (case hc => exact rfl); (case hd => first | decide | omega); conv => whnf)
        | ((with_reducible apply cl_p); (case hM => exact k8_sheetOfN _ _ y hy4); (case hc => exact rfl); (case hd => first | decide | omega); conv => whnf)
        | ((with_reducible apply cl_p); (case hM => exact k8_sheetOf_n _ _ s ps); (case hc => exact rfl); (case hd => first | decide | omega); conv => whnf)
        | ((with_reducible apply cl_p); (case hM => exact k8_sheetOf_n _ _ o po); (case hc => exact rfl); (case hd => first | decide | omega); conv => whnf)
        | ((with_reducible apply cl_p); (case hM => with_reducible exact k2_isMissing _ _ z hz4); (case hc => exact rfl); (case hd => first | decide | omega); conv => whnf)
        | ((with_reducible apply cl_p); (case hM => with_reducible exact k2_isMissing _ _ y hy4); (case hc => exact rfl); (case hd => first | decide | omega); conv => whnf)
        | ((with_reducible apply cl_p); (case hM => exact hRz); (case hc => exact rfl); (case hd => first | decide | omega); conv => whnf)
        | ((with_reducible apply cl_p); (case hM => exact hRy); (case hc => exact rfl); (case hd => first | decide | omega); conv => whnf)
        | ((rw [hss]); conv => whnf)
        | ((rw [hsn]); conv => whnf)
        | ((rw [hsy]); conv => whnf)
        | ((rw [hsm]); conv => whnf)
        | ((with_reducible refine ckJ ?_ ?_); conv => whnf)
        | fail
    all_goals first
      | exact rcS hz4
      | exact rcS hy4
      | (refine Pc8.of rfl (hRR.er _) ?_; intro i hi; simp (disch := omega) only [hi_wr])
  · have hso : ¬ ((0 ≤ s ∧ s ≤ 3) ∧ (0 ≤ o ∧ o ≤ 3)) := by assumption
    by_cases hs1 : 0 ≤ s ∧ s ≤ 3
    · have po : ¬ (0 ≤ o ∧ o ≤ 3) := fun h => hso ⟨hs1, h⟩
      have hs03 : 0 ≤ s ∧ s ≤ 3 := hs1
      obtain ⟨z, hz4, rfl⟩ := in_3 hs03
      have hss := shS hz4
      have hsn := shN hz4
      obtain ⟨hX2, hX1, hXq⟩ := hR.2.2.2.2.2 z hz4
      obtain ⟨hB, hZ, hB0⟩ := hW.2.2.2 z hz4
      clear hs03
      refine Mt_of ck_X8_move mf_109 rfl ?_
      have hRR := hR
      clear hW hN hRW hR
      repeat' first
          | ((with_reducible refine gow ck_X8_move _ [] ?_); conv => whnf)
          | ((with_reducible refine bn_t ?_ ?_); (· first | with_reducible assumption | (simp (disch := omega) only [true_and, and_true, false_and, and_false, or_false, false_or, or_true, true_or, not_true_eq_false, not_false_eq_true, ev, ew, e1, mpa_0, mpa_1, mpa_2, mpa_9, mpa_10, mpa_11, mpa_12, Int32.reduceToNatClampNeg, Int32.le_iff_toInt_le, Int32.lt_iff_toInt_lt, ← Int32.toInt_inj, nI_toInt, Int32.reduceToInt] <;> omega) | assumption | (simp (disch := omega) only [isT, isP, two, Int32.toInt_sub, Int.bmod_def, true_and, and_true, false_and, and_false, or_false, false_or, or_true, true_or, not_true_eq_false, not_false_eq_true, ev, ew, e1, mpa_0, mpa_1, mpa_2, mpa_9, mpa_10, mpa_11, mpa_12, Int32.reduceToNatClampNeg, Int32.le_iff_toInt_le, Int32.lt_iff_toInt_lt, ← Int32.toInt_inj, nI_toInt, Int32.reduceToInt] at * <;> omega) | decide); conv => whnf)
          | ((with_reducible refine bn_f ?_ ?_); (· first | with_reducible assumption | (simp (disch := omega) only [true_and, and_true, false_and, and_false, or_false, false_or, or_true, true_or, not_true_eq_false, not_false_eq_true, ev, ew, e1, mpa_0, mpa_1, mpa_2, mpa_9, mpa_10, mpa_11, mpa_12, Int32.reduceToNatClampNeg, Int32.le_iff_toInt_le, Int32.lt_iff_toInt_lt, ← Int32.toInt_inj, nI_toInt, Int32.reduceToInt] <;> omega) | assumption | (simp (disch := omega) only [isT, isP, two, Int32.toInt_sub, Int.bmod_def, true_and, and_true, false_and, and_false, or_false, false_or, or_true, true_or, not_true_eq_false, not_false_eq_true, ev, ew, e1, mpa_0, mpa_1, mpa_2, mpa_9, mpa_10, mpa_11, mpa_12, Int32.reduceToNatClampNeg, Int32.le_iff_toInt_le, Int32.lt_iff_toInt_lt, ← Int32.toInt_inj, nI_toInt, Int32.reduceToInt] at * <;> omega) | decide); conv => whnf)
          | ((with_reducible refine bc_t ?_ ?_); (· first | with_reducible assumption | (simp (disch := omega) only [true_and, and_true, false_and, and_false, or_false, false_or, or_true, true_or, not_true_eq_false, not_false_eq_true, ev, ew, e1, mpa_0, mpa_1, mpa_2, mpa_9, mpa_10, mpa_11, mpa_12, Int32.reduceToNatClampNeg, Int32.le_iff_toInt_le, Int32.lt_iff_toInt_lt, ← Int32.toInt_inj, nI_toInt, Int32.reduceToInt] <;> omega) | assumption | (simp (disch := omega) only [isT, isP, two, Int32.toInt_sub, Int.bmod_def, true_and, and_true, false_and, and_false, or_false, false_or, or_true, true_or, not_true_eq_false, not_false_eq_true, ev, ew, e1, mpa_0, mpa_1, mpa_2, mpa_9, mpa_10, mpa_11, mpa_12, Int32.reduceToNatClampNeg, Int32.le_iff_toInt_le, Int32.lt_iff_toInt_lt, ← Int32.toInt_inj, nI_toInt, Int32.reduceToInt] at * <;> omega) | decide); conv => whnf)
          | ((with_reducible refine bc_f ?_ ?_); (· first | with_reducible assumption | (simp (disch := omega) only [true_and, and_true, false_and, and_false, or_false, false_or, or_true, true_or, not_true_eq_false, not_false_eq_true, ev, ew, e1, mpa_0, mpa_1, mpa_2, mpa_9, mpa_10, mpa_11, mpa_12, Int32.reduceToNatClampNeg, Int32.le_iff_toInt_le, Int32.lt_iff_toInt_lt, ← Int32.toInt_inj, nI_toInt, Int32.reduceToInt] <;> omega) | assumption | (simp (disch := omega) only [isT, isP, two, Int32.toInt_sub, Int.bmod_def, true_and, and_true, false_and, and_false, or_false, false_or, or_true, true_or, not_true_eq_false, not_false_eq_true, ev, ew, e1, mpa_0, mpa_1, mpa_2, mpa_9, mpa_10, mpa_11, mpa_12, Int32.reduceToNatClampNeg, Int32.le_iff_toInt_le, Int32.lt_iff_toInt_lt, ← Int32.toInt_inj, nI_toInt, Int32.reduceToInt] at * <;> omega) | decide); conv => whnf)
          | ((with_reducible refine br_t ?_ ?_); (· first | with_reducible assumption | (simp (disch := omega) only [true_and, and_true, false_and, and_false, or_false, false_or, or_true, true_or, not_true_eq_false, not_false_eq_true, ev, ew, e1, mpa_0, mpa_1, mpa_2, mpa_9, mpa_10, mpa_11, mpa_12, Int32.reduceToNatClampNeg, Int32.le_iff_toInt_le, Int32.lt_iff_toInt_lt, ← Int32.toInt_inj, nI_toInt, Int32.reduceToInt] <;> omega) | assumption | (simp (disch := omega) only [isT, isP, two, Int32.toInt_sub, Int.bmod_def, true_and, and_true, false_and, and_false, or_false, false_or, or_true, true_or, not_true_eq_false, not_false_eq_true, ev, ew, e1, mpa_0, mpa_1, mpa_2, mpa_9, mpa_10, mpa_11, mpa_12, Int32.reduceToNatClampNeg, Int32.le_iff_toInt_le, Int32.lt_iff_toInt_lt, ← Int32.toInt_inj, nI_toInt, Int32.reduceToInt] at * <;> omega) | decide); conv => whnf)
          | ((with_reducible refine br_f ?_ ?_); (· first | with_reducible assumption | (simp (disch := omega) only [true_and, and_true, false_and, and_false, or_false, false_or, or_true, true_or, not_true_eq_false, not_false_eq_true, ev, ew, e1, mpa_0, mpa_1, mpa_2, mpa_9, mpa_10, mpa_11, mpa_12, Int32.reduceToNatClampNeg, Int32.le_iff_toInt_le, Int32.lt_iff_toInt_lt, ← Int32.toInt_inj, nI_toInt, Int32.reduceToInt] <;> omega) | assumption | (simp (disch := omega) only [isT, isP, two, Int32.toInt_sub, Int.bmod_def, true_and, and_true, false_and, and_false, or_false, false_or, or_true, true_or, not_true_eq_false, not_false_eq_true, ev, ew, e1, mpa_0, mpa_1, mpa_2, mpa_9, mpa_10, mpa_11, mpa_12, Int32.reduceToNatClampNeg, Int32.le_iff_toInt_le, Int32.lt_iff_toInt_lt, ← Int32.toInt_inj, nI_toInt, Int32.reduceToInt] at * <;> omega) | decide); conv => whnf)
          | ((with_reducible refine br_nt ?_ ?_); (· first | with_reducible assumption | (simp (disch := omega) only [true_and, and_true, false_and, and_false, or_false, false_or, or_true, true_or, not_true_eq_false, not_false_eq_true, ev, ew, e1, mpa_0, mpa_1, mpa_2, mpa_9, mpa_10, mpa_11, mpa_12, Int32.reduceToNatClampNeg, Int32.le_iff_toInt_le, Int32.lt_iff_toInt_lt, ← Int32.toInt_inj, nI_toInt, Int32.reduceToInt] <;> omega) | assumption | (simp (disch := omega) only [isT, isP, two, Int32.toInt_sub, Int.bmod_def, true_and, and_true, false_and, and_false, or_false, false_or, or_true, true_or, not_true_eq_false, not_false_eq_true, ev, ew, e1, mpa_0, mpa_1, mpa_2, mpa_9, mpa_10, mpa_11, mpa_12, Int32.reduceToNatClampNeg, Int32.le_iff_toInt_le, Int32.lt_iff_toInt_lt, ← Int32.toInt_inj, nI_toInt, Int32.reduceToInt] at * <;> omega) | decide); conv => whnf)
          | ((with_reducible refine br_nf ?_ ?_); (· first | with_reducible assumption | (simp (disch := omega) only [true_and, and_true, false_and, and_false, or_false, false_or, or_true, true_or, not_true_eq_false, not_false_eq_true, ev, ew, e1, mpa_0, mpa_1, mpa_2, mpa_9, mpa_10, mpa_11, mpa_12, Int32.reduceToNatClampNeg, Int32.le_iff_toInt_le, Int32.lt_iff_toInt_lt, ← Int32.toInt_inj, nI_toInt, Int32.reduceToInt] <;> omega) | assumption | (simp (disch := omega) only [isT, isP, two, Int32.toInt_sub, Int.bmod_def, true_and, and_true, false_and, and_false, or_false, false_or, or_true, true_or, not_true_eq_false, not_false_eq_true, ev, ew, e1, mpa_0, mpa_1, mpa_2, mpa_9, mpa_10, mpa_11, mpa_12, Int32.reduceToNatClampNeg, Int32.le_iff_toInt_le, Int32.lt_iff_toInt_lt, ← Int32.toInt_inj, nI_toInt, Int32.reduceToInt] at * <;> omega) | decide); conv => whnf)
          | ((with_reducible refine ckI ?_ ?_); (· first | ((with_reducible refine vp_in_nI ?_ ?_); (· omega); (· decide)) | exact vp_c (by decide) | exact ⟨_, rfl⟩ | exact Or.inl rfl | exact Or.inr rfl | exact b2_01 _); conv => whnf)
          | ((with_reducible apply cl_p); (case hM => with_reducible exact k8_fail1 _ _); (case hc => exact rfl); (case hd => first | decide | omega); conv => whnf)
          | ((with_reducible apply cl_p); (case hM => with_reducible exact k8_fail2 _ _); (case hc => exact rfl); (case hd => first | decide | omega); conv => whnf)
          | ((with_reducible apply cl_p); (case hM => with_reducible exact k8_fail3 _ _); (case hc => exact rfl); (case hd => first | decide | omega); conv => whnf)
          | ((with_reducible apply cl_p); (case hM => with_reducible exact k8_fail4 _ _); (case hc => exact rfl); (case hd => first | decide | omega); conv => whnf)
          | ((with_reducible apply cl_p); (case hM => with_reducible exact k8_fail5 _ _); (case hc => exact rfl); (case hd => first | decide | omega); conv => whnf)
          | ((with_reducible apply cl_p); (case hM => exact k8_sheetOfN _ _ z hz4); (case hc => exact rfl); (case hd => first | decide | omega); conv => whnf)
          | ((with_reducible apply cl_p); (case hM => exact k8_sheetOfN _ _ y hy4); (case hc => exact rfl); (case hd => first | decide | omega); conv => whnf)
          | ((with_reducible apply cl_p); (case hM => exact k8_sheetOf_n _ _ s ps); (case hc => exact rfl); (case hd => first | decide | omega); conv => whnf)
          | ((with_reducible apply cl_p); (case hM => exact k8_sheetOf_n _ _ o po); (case hc => exact rfl); (case hd => first | decide | omega); conv => whnf)
          | ((with_reducible apply cl_p); (case hM => with_reducible exact k2_isMissing _ _ z hz4); (case hc => exact rfl); (case hd => first | decide | omega); conv => whnf)
          | ((with_reducible apply cl_p); (case hM => with_reducible exact k2_isMissing _ _ y hy4); (case hc => exact rfl); (case hd => first | decide | omega); conv => whnf)
          | ((with_reducible apply cl_p); (case hM => exact hRz); (case hc => exact rfl); (case hd => first | decide | omega); conv => whnf)
          | ((with_reducible apply cl_p); (case hM => exact hRy); (case hc => exact rfl); (case hd => first | decide | omega); conv => whnf)
          | ((rw [hss]); conv => whnf)
          | ((rw [hsn]); conv => whnf)
          | ((rw [hsy]); conv => whnf)
          | ((rw [hsm]); conv => whnf)
          | ((with_reducible refine ckJ ?_ ?_); conv => whnf)
          | fail
      all_goals first
        | exact rcS hz4
        | exact rcS hy4
        | (refine Pc8.of rfl (hRR.er _) ?_; intro i hi; simp (disch := omega) only [hi_wr])
    · have ps := hs1
      by_cases ho1 : 0 ≤ o ∧ o ≤ 3
      · have ho03 : 0 ≤ o ∧ o ≤ 3 := ho1
        obtain ⟨y, hy4, rfl⟩ := in_3 ho03
        have hsy := shS hy4
        have hsm := shN hy4
        obtain ⟨hY2, hY1, hYq⟩ := hR.2.2.2.2.2 y hy4
        obtain ⟨hC, hV, hC0⟩ := hW.2.2.2 y hy4
        clear ho03
        refine Mt_of ck_X8_move mf_109 rfl ?_
        have hRR := hR
        clear hW hN hRW hR
        repeat' first
            | ((with_reducible refine gow ck_X8_move _ [] ?_); conv => whnf)
            | ((with_reducible refine bn_t ?_ ?_); (· first | with_reducible assumption | (simp (disch := omega) only [true_and, and_true, false_and, and_false, or_false, false_or, or_true, true_or, not_true_eq_false, not_false_eq_true, ev, ew, e1, mpa_0, mpa_1, mpa_2, mpa_9, mpa_10, mpa_11, mpa_12, Int32.reduceToNatClampNeg, Int32.le_iff_toInt_le, Int32.lt_iff_toInt_lt, ← Int32.toInt_inj, nI_toInt, Int32.reduceToInt] <;> omega) | assumption | (simp (disch := omega) only [isT, isP, two, Int32.toInt_sub, Int.bmod_def, true_and, and_true, false_and, and_false, or_false, false_or, or_true, true_or, not_true_eq_false, not_false_eq_true, ev, ew, e1, mpa_0, mpa_1, mpa_2, mpa_9, mpa_10, mpa_11, mpa_12, Int32.reduceToNatClampNeg, Int32.le_iff_toInt_le, Int32.lt_iff_toInt_lt, ← Int32.toInt_inj, nI_toInt, Int32.reduceToInt] at * <;> omega) | decide); conv => whnf)
            | ((with_reducible refine bn_f ?_ ?_); (· first | with_reducible assumption | (simp (disch := omega) only [true_and, and_true, false_and, and_false, or_false, false_or, or_true, true_or, not_true_eq_false, not_false_eq_true, ev, ew, e1, mpa_0, mpa_1, mpa_2, mpa_9, mpa_10, mpa_11, mpa_12, Int32.reduceToNatClampNeg, Int32.le_iff_toInt_le, Int32.lt_iff_toInt_lt, ← Int32.toInt_inj, nI_toInt, Int32.reduceToInt] <;> omega) | assumption | (simp (disch := omega) only [isT, isP, two, Int32.toInt_sub, Int.bmod_def, true_and, and_true, false_and, and_false, or_false, false_or, or_true, true_or, not_true_eq_false, not_false_eq_true, ev, ew, e1, mpa_0, mpa_1, mpa_2, mpa_9, mpa_10, mpa_11, mpa_12, Int32.reduceToNatClampNeg, Int32.le_iff_toInt_le, Int32.lt_iff_toInt_lt, ← Int32.toInt_inj, nI_toInt, Int32.reduceToInt] at * <;> omega) | decide); conv => whnf)
            | ((with_reducible refine bc_t ?_ ?_); (· first | with_reducible assumption | (simp (disch := omega) only [true_and, and_true, false_and, and_false, or_false, false_or, or_true, true_or, not_true_eq_false, not_false_eq_true, ev, ew, e1, mpa_0, mpa_1, mpa_2, mpa_9, mpa_10, mpa_11, mpa_12, Int32.reduceToNatClampNeg, Int32.le_iff_toInt_le, Int32.lt_iff_toInt_lt, ← Int32.toInt_inj, nI_toInt, Int32.reduceToInt] <;> omega) | assumption | (simp (disch := omega) only [isT, isP, two, Int32.toInt_sub, Int.bmod_def, true_and, and_true, false_and, and_false, or_false, false_or, or_true, true_or, not_true_eq_false, not_false_eq_true, ev, ew, e1, mpa_0, mpa_1, mpa_2, mpa_9, mpa_10, mpa_11, mpa_12, Int32.reduceToNatClampNeg, Int32.le_iff_toInt_le, Int32.lt_iff_toInt_lt, ← Int32.toInt_inj, nI_toInt, Int32.reduceToInt] at * <;> omega) | decide); conv => whnf)
            | ((with_reducible refine bc_f ?_ ?_); (· first | with_reducible assumption | (simp (disch := omega) only [true_and, and_true, false_and, and_false, or_false, false_or, or_true, true_or, not_true_eq_false, not_false_eq_true, ev, ew, e1, mpa_0, mpa_1, mpa_2, mpa_9, mpa_10, mpa_11, mpa_12, Int32.reduceToNatClampNeg, Int32.le_iff_toInt_le, Int32.lt_iff_toInt_lt, ← Int32.toInt_inj, nI_toInt, Int32.reduceToInt] <;> omega) | assumption | (simp (disch := omega) only [isT, isP, two, Int32.toInt_sub, Int.bmod_def, true_and, and_true, false_and, and_false, or_false, false_or, or_true, true_or, not_true_eq_false, not_false_eq_true, ev, ew, e1, mpa_0, mpa_1, mpa_2, mpa_9, mpa_10, mpa_11, mpa_12, Int32.reduceToNatClampNeg, Int32.le_iff_toInt_le, Int32.lt_iff_toInt_lt, ← Int32.toInt_inj, nI_toInt, Int32.reduceToInt] at * <;> omega) | decide); conv => whnf)
            | ((with_reducible refine br_t ?_ ?_); (· first | with_reducible assumption | (simp (disch := omega) only [true_and, and_true, false_and, and_false, or_false, false_or, or_true, true_or, not_true_eq_false, not_false_eq_true, ev, ew, e1, mpa_0, mpa_1, mpa_2, mpa_9, mpa_10, mpa_11, mpa_12, Int32.reduceToNatClampNeg, Int32.le_iff_toInt_le, Int32.lt_iff_toInt_lt, ← Int32.toInt_inj, nI_toInt, Int32.reduceToInt] <;> omega) | assumption | (simp (disch := omega) only [isT, isP, two, Int32.toInt_sub, Int.bmod_def, true_and, and_true, false_and, and_false, or_false, false_or, or_true, true_or, not_true_eq_false, not_false_eq_true, ev, ew, e1, mpa_0, mpa_1, mpa_2, mpa_9, mpa_10, mpa_11, mpa_12, Int32.reduceToNatClampNeg, Int32.le_iff_toInt_le, Int32.lt_iff_toInt_lt, ← Int32.toInt_inj, nI_toInt, Int32.reduceToInt] at * <;> omega) | decide); conv => whnf)
            | ((with_reducible refine br_f ?_ ?_); (· first | with_reducible assumption | (simp (disch := omega) only [true_and, and_true, false_and, and_false, or_false, false_or, or_true, true_or, not_true_eq_false, not_false_eq_true, ev, ew, e1, mpa_0, mpa_1, mpa_2, mpa_9, mpa_10, mpa_11, mpa_12, Int32.reduceToNatClampNeg, Int32.le_iff_toInt_le, Int32.lt_iff_toInt_lt, ← Int32.toInt_inj, nI_toInt, Int32.reduceToInt] <;> omega) | assumption | (simp (disch := omega) only [isT, isP, two, Int32.toInt_sub, Int.bmod_def, true_and, and_true, false_and, and_false, or_false, false_or, or_true, true_or, not_true_eq_false, not_false_eq_true, ev, ew, e1, mpa_0, mpa_1, mpa_2, mpa_9, mpa_10, mpa_11, mpa_12, Int32.reduceToNatClampNeg, Int32.le_iff_toInt_le, Int32.lt_iff_toInt_lt, ← Int32.toInt_inj, nI_toInt, Int32.reduceToInt] at * <;> omega) | decide); conv => whnf)
            | ((with_reducible refine br_nt ?_ ?_); (· first | with_reducible assumption | (simp (disch := omega) only [true_and, and_true, false_and, and_false, or_false, false_or, or_true, true_or, not_true_eq_false, not_false_eq_true, ev, ew, e1, mpa_0, mpa_1, mpa_2, mpa_9, mpa_10, mpa_11, mpa_12, Int32.reduceToNatClampNeg, Int32.le_iff_toInt_le, Int32.lt_iff_toInt_lt, ← Int32.toInt_inj, nI_toInt, Int32.reduceToInt] <;> omega) | assumption | (simp (disch := omega) only [isT, isP, two, Int32.toInt_sub, Int.bmod_def, true_and, and_true, false_and, and_false, or_false, false_or, or_true, true_or, not_true_eq_false, not_false_eq_true, ev, ew, e1, mpa_0, mpa_1, mpa_2, mpa_9, mpa_10, mpa_11, mpa_12, Int32.reduceToNatClampNeg, Int32.le_iff_toInt_le, Int32.lt_iff_toInt_lt, ← Int32.toInt_inj, nI_toInt, Int32.reduceToInt] at * <;> omega) | decide); conv => whnf)
            | ((with_reducible refine br_nf ?_ ?_); (· first | with_reducible assumption | (simp (disch := omega) only [true_and, and_true, false_and, and_false, or_false, false_or, or_true, true_or, not_true_eq_false, not_false_eq_true, ev, ew, e1, mpa_0, mpa_1, mpa_2, mpa_9, mpa_10, mpa_11, mpa_12, Int32.reduceToNatClampNeg, Int32.le_iff_toInt_le, Int32.lt_iff_toInt_lt, ← Int32.toInt_inj, nI_toInt, Int32.reduceToInt] <;> omega) | assumption | (simp (disch := omega) only [isT, isP, two, Int32.toInt_sub, Int.bmod_def, true_and, and_true, false_and, and_false, or_false, false_or, or_true, true_or, not_true_eq_false, not_false_eq_true, ev, ew, e1, mpa_0, mpa_1, mpa_2, mpa_9, mpa_10, mpa_11, mpa_12, Int32.reduceToNatClampNeg, Int32.le_iff_toInt_le, Int32.lt_iff_toInt_lt, ← Int32.toInt_inj, nI_toInt, Int32.reduceToInt] at * <;> omega) | decide); conv => whnf)
            | ((with_reducible refine ckI ?_ ?_); (· first | ((with_reducible refine vp_in_nI ?_ ?_); (· omega); (· decide)) | exact vp_c (by decide) | exact ⟨_, rfl⟩ | exact Or.inl rfl | exact Or.inr rfl | exact b2_01 _); conv => whnf)
            | ((with_reducible apply cl_p); (case hM => with_reducible exact k8_fail1 _ _); (case hc => exact rfl); (case hd => first | decide | omega); conv => whnf)
            | ((with_reducible apply cl_p); (case hM => with_reducible exact k8_fail2 _ _); (case hc => exact rfl); (case hd => first | decide | omega); conv => whnf)
            | ((with_reducible apply cl_p); (case hM => with_reducible exact k8_fail3 _ _); (case hc => exact rfl); (case hd => first | decide | omega); conv => whnf)
            | ((with_reducible apply cl_p); (case hM => with_reducible exact k8_fail4 _ _); (case hc => exact rfl); (case hd => first | decide | omega); conv => whnf)
            | ((with_reducible apply cl_p); (case hM => with_reducible exact k8_fail5 _ _); (case hc => exact rfl); (case hd => first | decide | omega); conv => whnf)
            | ((with_reducible apply cl_p); (case hM => exact k8_sheetOfN _ _ z hz4); (case hc => exact rfl); (case hd => first | decide | omega); conv => whnf)
            | ((with_reducible apply cl_p); (case hM => exact k8_sheetOfN _ _ y hy4); (case hc => exact rfl); (case hd => first | decide | omega); conv => whnf)
            | ((with_reducible apply cl_p); (case hM => exact k8_sheetOf_n _ _ s ps); (case hc => exact rfl); (case hd => first | decide | omega); conv => whnf)
            | ((with_reducible apply cl_p); (case hM => exact k8_sheetOf_n _ _ o po); (case hc => exact rfl); (case hd => first | decide | omega); conv => whnf)
            | ((with_reducible apply cl_p); (case hM => with_reducible exact k2_isMissing _ _ z hz4); (case hc => exact rfl); (case hd => first | decide | omega); conv => whnf)
            | ((with_reducible apply cl_p); (case hM => with_reducible exact k2_isMissing _ _ y hy4); (case hc => exact rfl); (case hd => first | decide | omega); conv => whnf)
            | ((with_reducible apply cl_p); (case hM => exact hRz); (case hc => exact rfl); (case hd => first | decide | omega); conv => whnf)
            | ((with_reducible apply cl_p); (case hM => exact hRy); (case hc => exact rfl); (case hd => first | decide | omega); conv => whnf)
            | ((rw [hss]); conv => whnf)
            | ((rw [hsn]); conv => whnf)
            | ((rw [hsy]); conv => whnf)
            | ((rw [hsm]); conv => whnf)
            | ((with_reducible refine ckJ ?_ ?_); conv => whnf)
            | fail
        all_goals first
          | exact rcS hz4
          | exact rcS hy4
          | (refine Pc8.of rfl (hRR.er _) ?_; intro i hi; simp (disch := omega) only [hi_wr])
      · have po := ho1
        refine Mt_of ck_X8_move mf_109 rfl ?_
        have hRR := hR
        clear hW hN hRW hR
        repeat' first
            | ((with_reducible refine gow ck_X8_move _ [] ?_); conv => whnf)
            | ((with_reducible refine bn_t ?_ ?_); (· first | with_reducible assumption | (simp (disch := omega) only [true_and, and_true, false_and, and_false, or_false, false_or, or_true, true_or, not_true_eq_false, not_false_eq_true, ev, ew, e1, mpa_0, mpa_1, mpa_2, mpa_9, mpa_10, mpa_11, mpa_12, Int32.reduceToNatClampNeg, Int32.le_iff_toInt_le, Int32.lt_iff_toInt_lt, ← Int32.toInt_inj, nI_toInt, Int32.reduceToInt] <;> omega) | assumption | (simp (disch := omega) only [isT, isP, two, Int32.toInt_sub, Int.bmod_def, true_and, and_true, false_and, and_false, or_false, false_or, or_true, true_or, not_true_eq_false, not_false_eq_true, ev, ew, e1, mpa_0, mpa_1, mpa_2, mpa_9, mpa_10, mpa_11, mpa_12, Int32.reduceToNatClampNeg, Int32.le_iff_toInt_le, Int32.lt_iff_toInt_lt, ← Int32.toInt_inj, nI_toInt, Int32.reduceToInt] at * <;> omega) | decide); conv => whnf)
            | ((with_reducible refine bn_f ?_ ?_); (· first | with_reducible assumption | (simp (disch := omega) only [true_and, and_true, false_and, and_false, or_false, false_or, or_true, true_or, not_true_eq_false, not_false_eq_true, ev, ew, e1, mpa_0, mpa_1, mpa_2, mpa_9, mpa_10, mpa_11, mpa_12, Int32.reduceToNatClampNeg, Int32.le_iff_toInt_le, Int32.lt_iff_toInt_lt, ← Int32.toInt_inj, nI_toInt, Int32.reduceToInt] <;> omega) | assumption | (simp (disch := omega) only [isT, isP, two, Int32.toInt_sub, Int.bmod_def, true_and, and_true, false_and, and_false, or_false, false_or, or_true, true_or, not_true_eq_false, not_false_eq_true, ev, ew, e1, mpa_0, mpa_1, mpa_2, mpa_9, mpa_10, mpa_11, mpa_12, Int32.reduceToNatClampNeg, Int32.le_iff_toInt_le, Int32.lt_iff_toInt_lt, ← Int32.toInt_inj, nI_toInt, Int32.reduceToInt] at * <;> omega) | decide); conv => whnf)
            | ((with_reducible refine bc_t ?_ ?_); (· first | with_reducible assumption | (simp (disch := omega) only [true_and, and_true, false_and, and_false, or_false, false_or, or_true, true_or, not_true_eq_false, not_false_eq_true, ev, ew, e1, mpa_0, mpa_1, mpa_2, mpa_9, mpa_10, mpa_11, mpa_12, Int32.reduceToNatClampNeg, Int32.le_iff_toInt_le, Int32.lt_iff_toInt_lt, ← Int32.toInt_inj, nI_toInt, Int32.reduceToInt] <;> omega) | assumption | (simp (disch := omega) only [isT, isP, two, Int32.toInt_sub, Int.bmod_def, true_and, and_true, false_and, and_false, or_false, false_or, or_true, true_or, not_true_eq_false, not_false_eq_true, ev, ew, e1, mpa_0, mpa_1, mpa_2, mpa_9, mpa_10, mpa_11, mpa_12, Int32.reduceToNatClampNeg, Int32.le_iff_toInt_le, Int32.lt_iff_toInt_lt, ← Int32.toInt_inj, nI_toInt, Int32.reduceToInt] at * <;> omega) | decide); conv => whnf)
            | ((with_reducible refine bc_f ?_ ?_); (· first | with_reducible assumption | (simp (disch := omega) only [true_and, and_true, false_and, and_false, or_false, false_or, or_true, true_or, not_true_eq_false, not_false_eq_true, ev, ew, e1, mpa_0, mpa_1, mpa_2, mpa_9, mpa_10, mpa_11, mpa_12, Int32.reduceToNatClampNeg, Int32.le_iff_toInt_le, Int32.lt_iff_toInt_lt, ← Int32.toInt_inj, nI_toInt, Int32.reduceToInt] <;> omega) | assumption | (simp (disch := omega) only [isT, isP, two, Int32.toInt_sub, Int.bmod_def, true_and, and_true, false_and, and_false, or_false, false_or, or_true, true_or, not_true_eq_false, not_false_eq_true, ev, ew, e1, mpa_0, mpa_1, mpa_2, mpa_9, mpa_10, mpa_11, mpa_12, Int32.reduceToNatClampNeg, Int32.le_iff_toInt_le, Int32.lt_iff_toInt_lt, ← Int32.toInt_inj, nI_toInt, Int32.reduceToInt] at * <;> omega) | decide); conv => whnf)
            | ((with_reducible refine br_t ?_ ?_); (· first | with_reducible assumption | (simp (disch := omega) only [true_and, and_true, false_and, and_false, or_false, false_or, or_true, true_or, not_true_eq_false, not_false_eq_true, ev, ew, e1, mpa_0, mpa_1, mpa_2, mpa_9, mpa_10, mpa_11, mpa_12, Int32.reduceToNatClampNeg, Int32.le_iff_toInt_le, Int32.lt_iff_toInt_lt, ← Int32.toInt_inj, nI_toInt, Int32.reduceToInt] <;> omega) | assumption | (simp (disch := omega) only [isT, isP, two, Int32.toInt_sub, Int.bmod_def, true_and, and_true, false_and, and_false, or_false, false_or, or_true, true_or, not_true_eq_false, not_false_eq_true, ev, ew, e1, mpa_0, mpa_1, mpa_2, mpa_9, mpa_10, mpa_11, mpa_12, Int32.reduceToNatClampNeg, Int32.le_iff_toInt_le, Int32.lt_iff_toInt_lt, ← Int32.toInt_inj, nI_toInt, Int32.reduceToInt] at * <;> omega) | decide); conv => whnf)
            | ((with_reducible refine br_f ?_ ?_); (· first | with_reducible assumption | (simp (disch := omega) only [true_and, and_true, false_and, and_false, or_false, false_or, or_true, true_or, not_true_eq_false, not_false_eq_true, ev, ew, e1, mpa_0, mpa_1, mpa_2, mpa_9, mpa_10, mpa_11, mpa_12, Int32.reduceToNatClampNeg, Int32.le_iff_toInt_le, Int32.lt_iff_toInt_lt, ← Int32.toInt_inj, nI_toInt, Int32.reduceToInt] <;> omega) | assumption | (simp (disch := omega) only [isT, isP, two, Int32.toInt_sub, Int.bmod_def, true_and, and_true, false_and, and_false, or_false, false_or, or_true, true_or, not_true_eq_false, not_false_eq_true, ev, ew, e1, mpa_0, mpa_1, mpa_2, mpa_9, mpa_10, mpa_11, mpa_12, Int32.reduceToNatClampNeg, Int32.le_iff_toInt_le, Int32.lt_iff_toInt_lt, ← Int32.toInt_inj, nI_toInt, Int32.reduceToInt] at * <;> omega) | decide); conv => whnf)
            | ((with_reducible refine br_nt ?_ ?_); (· first | with_reducible assumption | (simp (disch := omega) only [true_and, and_true, false_and, and_false, or_false, false_or, or_true, true_or, not_true_eq_false, not_false_eq_true, ev, ew, e1, mpa_0, mpa_1, mpa_2, mpa_9, mpa_10, mpa_11, mpa_12, Int32.reduceToNatClampNeg, Int32.le_iff_toInt_le, Int32.lt_iff_toInt_lt, ← Int32.toInt_inj, nI_toInt, Int32.reduceToInt] <;> omega) | assumption | (simp (disch := omega) only [isT, isP, two, Int32.toInt_sub, Int.bmod_def, true_and, and_true, false_and, and_false, or_false, false_or, or_true, true_or, not_true_eq_false, not_false_eq_true, ev, ew, e1, mpa_0, mpa_1, mpa_2, mpa_9, mpa_10, mpa_11, mpa_12, Int32.reduceToNatClampNeg, Int32.le_iff_toInt_le, Int32.lt_iff_toInt_lt, ← Int32.toInt_inj, nI_toInt, Int32.reduceToInt] at * <;> omega) | decide); conv => whnf)
            | ((with_reducible refine br_nf ?_ ?_); (· first | with_reducible assumption | (simp (disch := omega) only [true_and, and_true, false_and, and_false, or_false, false_or, or_true, true_or, not_true_eq_false, not_false_eq_true, ev, ew, e1, mpa_0, mpa_1, mpa_2, mpa_9, mpa_10, mpa_11, mpa_12, Int32.reduceToNatClampNeg, Int32.le_iff_toInt_le, Int32.lt_iff_toInt_lt, ← Int32.toInt_inj, nI_toInt, Int32.reduceToInt] <;> omega) | assumption | (simp (disch := omega) only [isT, isP, two, Int32.toInt_sub, Int.bmod_def, true_and, and_true, false_and, and_false, or_false, false_or, or_true, true_or, not_true_eq_false, not_false_eq_true, ev, ew, e1, mpa_0, mpa_1, mpa_2, mpa_9, mpa_10, mpa_11, mpa_12, Int32.reduceToNatClampNeg, Int32.le_iff_toInt_le, Int32.lt_iff_toInt_lt, ← Int32.toInt_inj, nI_toInt, Int32.reduceToInt] at * <;> omega) | decide); conv => whnf)
            | ((with_reducible refine ckI ?_ ?_); (· first | ((with_reducible refine vp_in_nI ?_ ?_); (· omega); (· decide)) | exact vp_c (by decide) | exact ⟨_, rfl⟩ | exact Or.inl rfl | exact Or.inr rfl | exact b2_01 _); conv => whnf)
            | ((with_reducible apply cl_p); (case hM => with_reducible exact k8_fail1 _ _); (case hc => exact rfl); (case hd => first | decide | omega); conv => whnf)
            | ((with_reducible apply cl_p); (case hM => with_reducible exact k8_fail2 _ _); (case hc => exact rfl); (case hd => first | decide | omega); conv => whnf)
            | ((with_reducible apply cl_p); (case hM => with_reducible exact k8_fail3 _ _); (case hc => exact rfl); (case hd => first | decide | omega); conv => whnf)
            | ((with_reducible apply cl_p); (case hM => with_reducible exact k8_fail4 _ _); (case hc => exact rfl); (case hd => first | decide | omega); conv => whnf)
            | ((with_reducible apply cl_p); (case hM => with_reducible exact k8_fail5 _ _); (case hc => exact rfl); (case hd => first | decide | omega); conv => whnf)
            | ((with_reducible apply cl_p); (case hM => exact k8_sheetOfN _ _ z hz4); (case hc => exact rfl); (case hd => first | decide | omega); conv => whnf)
            | ((with_reducible apply cl_p); (case hM => exact k8_sheetOfN _ _ y hy4); (case hc => exact rfl); (case hd => first | decide | omega); conv => whnf)
            | ((with_reducible apply cl_p); (case hM => exact k8_sheetOf_n _ _ s ps); (case hc => exact rfl); (case hd => first | decide | omega); conv => whnf)
            | ((with_reducible apply cl_p); (case hM => exact k8_sheetOf_n _ _ o po); (case hc => exact rfl); (case hd => first | decide | omega); conv => whnf)
            | ((with_reducible apply cl_p); (case hM => with_reducible exact k2_isMissing _ _ z hz4); (case hc => exact rfl); (case hd => first | decide | omega); conv => whnf)
            | ((with_reducible apply cl_p); (case hM => with_reducible exact k2_isMissing _ _ y hy4); (case hc => exact rfl); (case hd => first | decide | omega); conv => whnf)
            | ((with_reducible apply cl_p); (case hM => exact hRz); (case hc => exact rfl); (case hd => first | decide | omega); conv => whnf)
            | ((with_reducible apply cl_p); (case hM => exact hRy); (case hc => exact rfl); (case hd => first | decide | omega); conv => whnf)
            | ((rw [hss]); conv => whnf)
            | ((rw [hsn]); conv => whnf)
            | ((rw [hsy]); conv => whnf)
            | ((rw [hsm]); conv => whnf)
            | ((with_reducible refine ckJ ?_ ?_); conv => whnf)
            | fail
        all_goals first
          | exact rcS hz4
          | exact rcS hy4
          | (refine Pc8.of rfl (hRR.er _) ?_; intro i hi; simp (disch := omega) only [hi_wr])
