/-! the reference takes a text: the code is copied -/
def cpo (N : Nat → Int32) (b i : Nat) (r : Nat → Int32) : Nat → Int32 := fun j => if b ≤ j ∧ j < b + i then r (j - b) else N j
theorem cpo_0 {N : Nat → Int32} {b : Nat} {r : Nat → Int32} : cpo N b 0 r = N := by
  funext j
  unfold cpo
  rw [if_neg (by omega)]
theorem cpo_s {N : Nat → Int32} {b i : Nat} {r : Nat → Int32} : upd (cpo N b i r) (b + i) (r i) = cpo N b (i + 1) r := by
  funext j
  by_cases h : j = b + i
  · subst h
    rw [upd_eq rfl]
    unfold cpo
    rw [if_pos (by omega)]
    congr 1
    omega
  · rw [upd_ne h]
    unfold cpo
    by_cases h2 : b ≤ j ∧ j < b + i
    · rw [if_pos h2, if_pos (by omega)]
    · rw [if_neg h2, if_neg (by omega)]
theorem apd_any {L : List Int32} {r r' : Nat → Int32} {j : Nat} (h : j < L.length) : apd r 0 L j = apd r' 0 L j := by
  have h2 := apd_map id L 0 r r' (fun j hj => absurd hj (by omega)) j (by omega)
  rw [List.map_id] at h2
  exact h2
theorem cpo_tcp {N : Nat → Int32} {b : Nat} {r : Nat → Int32} {L : List Int32} : cpo N b L.length (apd r 0 L) = tcp N b L := by
  funext j
  unfold cpo tcp
  by_cases h : b ≤ j ∧ j < b + L.length
  · rw [if_pos h, if_pos h]
    exact apd_any (by omega)
  · rw [if_neg h, if_neg h]
theorem pm0 {μ : Mem} {u : Int32} : wr (wr (wr (wr (wr μ 70 7 u) 70 5 0) 70 6 0) 70 8 0) 70 10 0 = PM (wr μ 70 7 u) (nI 0) (nI 0) 0 (nI 0) (μ 75) := by
  funext b
  by_cases h1 : b = 70
  · subst h1; rfl
  · by_cases h2 : b = 75
    · subst h2; rfl
    · simp [PM, wr, sf, h1, h2]
theorem Pm9_rd {μ ν : Mem} {x : Int32} {N : Nat → Int32} (h71 : ν 71 = N) (h2 : ν 70 2 = μ 70 2) (h20 : ν 70 20 = μ 70 20) (ho : ∀ i, i ≠ 70 → i ≠ 71 → i ≠ 75 → ν i = μ i) : Pm9 μ (x, sf (mp μ) 1 N) (some (.int x)) ν := by
  refine ⟨⟨rfl, ⟨?_, ?_, ?_, ?_, ?_, ?_, ?_, ?_, ?_⟩, fun i hi => ho i (by omega) (by omega) (by omega)⟩⟩
  · exact h71
  · exact ho 72 (by omega) (by omega) (by omega)
  · exact ho 73 (by omega) (by omega) (by omega)
  · exact ho 79 (by omega) (by omega) (by omega)
  · exact ho 80 (by omega) (by omega) (by omega)
  · exact ho 81 (by omega) (by omega) (by omega)
  · exact ho 82 (by omega) (by omega) (by omega)
  · exact h2
  · exact h20
theorem tix {k : Nat} (hk : k < 2) : (223 : Int32) + 52 * nI k = nI (223 + 52 * k) := by
  rcases k with _ | _ | k
  · rfl
  · rfl
  · omega
theorem tix2 {k i : Nat} (hk : k < 2) : (223 : Int32) + 52 * nI k + 1 + nI i = nI (224 + 52 * k + i) := by
  rw [tix hk, nI_1]
  unfold nI
  rw [← Int32.ofNat_add]
  congr 1
  omega
theorem c9_tx_l (X : Cx) (μ : Mem) (k m : Nat) (hk : k < 2) (hm : m ≤ 50) (u : Int32) (e7 : μ 70 7 = nI k) (e10 : μ 70 10 = nI m) (K : Option Value → Mem → Prop) (hK : K (some (.int 1)) (sf μ 71 (cpo (μ 71) (224 + 52 * k) m (μ 75)))) : ∀ i, i ≤ m → ∀ ν, ν = (sf μ 71 (cpo (μ 71) (224 + 52 * k) i (μ 75))) → ∀ x, x = nI i → VW X m_X9_text 42 K 67 [some (.ref 70), some (.int u), some (.int x)] [] ν := by
  refine dn_ind ?_ ?_
  · intro ν hI x hx
    subst hx hI
    have q10 : (sf μ 71 (cpo (μ 71) (224 + 52 * k) m (μ 75))) 70 10 ≤ nI m := by
      show μ 70 10 ≤ nI m
      rw [e10]
      exact Int32.le_refl _
    generalize hB : (sf μ 71 (cpo (μ 71) (224 + 52 * k) m (μ 75))) = B at *
    refine gow ck_X9_text 67 [67] ?_
    conv => whnf
    repeat' first
      | ((with_reducible refine gow ck_X9_text _ [67] ?_); conv => whnf)
      | ((with_reducible refine bn_t ?_ ?_); (· first | with_reducible assumption | (simp (disch := omega) only [true_and, and_true, false_and, and_false, or_false, false_or, or_true, true_or, not_true_eq_false, not_false_eq_true, ev, ew, e1, mpa_0, mpa_1, mpa_2, mpa_9, mpa_10, mpa_11, mpa_12, Int32.reduceToNatClampNeg, Int32.le_iff_toInt_le, Int32.lt_iff_toInt_lt, ← Int32.toInt_inj, nI_toInt, Int32.reduceToInt] <;> omega) | assumption | (simp (disch := omega) only [isT, isP, two, Int32.toInt_sub, Int.bmod_def, true_and, and_true, false_and, and_false, or_false, false_or, or_true, true_or, not_true_eq_false, not_false_eq_true, ev, ew, e1, mpa_0, mpa_1, mpa_2, mpa_9, mpa_10, mpa_11, mpa_12, Int32.reduceToNatClampNeg, Int32.le_iff_toInt_le, Int32.lt_iff_toInt_lt, ← Int32.toInt_inj, nI_toInt, Int32.reduceToInt] at * <;> omega) | decide); conv => whnf)
      | ((with_reducible refine bn_f ?_ ?_); (· first | with_reducible assumption | (simp (disch := omega) only [true_and, and_true, false_and, and_false, or_false, false_or, or_true, true_or, not_true_eq_false, not_false_eq_true, ev, ew, e1, mpa_0, mpa_1, mpa_2, mpa_9, mpa_10, mpa_11, mpa_12, Int32.reduceToNatClampNeg, Int32.le_iff_toInt_le, Int32.lt_iff_toInt_lt, ← Int32.toInt_inj, nI_toInt, Int32.reduceToInt] <;> omega) | assumption | (simp (disch := omega) only [isT, isP, two, Int32.toInt_sub, Int.bmod_def, true_and, and_true, false_and, and_false, or_false, false_or, or_true, true_or, not_true_eq_false, not_false_eq_true, ev, ew, e1, mpa_0, mpa_1, mpa_2, mpa_9, mpa_10, mpa_11, mpa_12, Int32.reduceToNatClampNeg, Int32.le_iff_toInt_le, Int32.lt_iff_toInt_lt, ← Int32.toInt_inj, nI_toInt, Int32.reduceToInt] at * <;> omega) | decide); conv => whnf)
      | ((with_reducible refine bc_t ?_ ?_); (· first | with_reducible assumption | (simp (disch := omega) only [true_and, and_true, false_and, and_false, or_false, false_or, or_true, true_or, not_true_eq_false, not_false_eq_true, ev, ew, e1, mpa_0, mpa_1, mpa_2, mpa_9, mpa_10, mpa_11, mpa_12, Int32.reduceToNatClampNeg, Int32.le_iff_toInt_le, Int32.lt_iff_toInt_lt, ← Int32.toInt_inj, nI_toInt, Int32.reduceToInt] <;> omega) | assumption | (simp (disch := omega) only [isT, isP, two, Int32.toInt_sub, Int.bmod_def, true_and, and_true, false_and, and_false, or_false, false_or, or_true, true_or, not_true_eq_false, not_false_eq_true, ev, ew, e1, mpa_0, mpa_1, mpa_2, mpa_9, mpa_10, mpa_11, mpa_12, Int32.reduceToNatClampNeg, Int32.le_iff_toInt_le, Int32.lt_iff_toInt_lt, ← Int32.toInt_inj, nI_toInt, Int32.reduceToInt] at * <;> omega) | decide); conv => whnf)
      | ((with_reducible refine bc_f ?_ ?_); (· first | with_reducible assumption | (simp (disch := omega) only [true_and, and_true, false_and, and_false, or_false, false_or, or_true, true_or, not_true_eq_false, not_false_eq_true, ev, ew, e1, mpa_0, mpa_1, mpa_2, mpa_9, mpa_10, mpa_11, mpa_12, Int32.reduceToNatClampNeg, Int32.le_iff_toInt_le, Int32.lt_iff_toInt_lt, ← Int32.toInt_inj, nI_toInt, Int32.reduceToInt] <;> omega) | assumption | (simp (disch := omega) only [isT, isP, two, Int32.toInt_sub, Int.bmod_def, true_and, and_true, false_and, and_false, or_false, false_or, or_true, true_or, not_true_eq_false, not_false_eq_true, ev, ew, e1, mpa_0, mpa_1, mpa_2, mpa_9, mpa_10, mpa_11, mpa_12, Int32.reduceToNatClampNeg, Int32.le_iff_toInt_le, Int32.lt_iff_toInt_lt, ← Int32.toInt_inj, nI_toInt, Int32.reduceToInt] at * <;> omega) | decide); conv => whnf)
      | ((with_reducible refine br_t ?_ ?_); (· first | with_reducible assumption | (simp (disch := omega) only [true_and, and_true, false_and, and_false, or_false, false_or, or_true, true_or, not_true_eq_false, not_false_eq_true, ev, ew, e1, mpa_0, mpa_1, mpa_2, mpa_9, mpa_10, mpa_11, mpa_12, Int32.reduceToNatClampNeg, Int32.le_iff_toInt_le, Int32.lt_iff_toInt_lt, ← Int32.toInt_inj, nI_toInt, Int32.reduceToInt] <;> omega) | assumption | (simp (disch := omega) only [isT, isP, two, Int32.toInt_sub, Int.bmod_def, true_and, and_true, false_and, and_false, or_false, false_or, or_true, true_or, not_true_eq_false, not_false_eq_true, ev, ew, e1, mpa_0, mpa_1, mpa_2, mpa_9, mpa_10, mpa_11, mpa_12, Int32.reduceToNatClampNeg, Int32.le_iff_toInt_le, Int32.lt_iff_toInt_lt, ← Int32.toInt_inj, nI_toInt, Int32.reduceToInt] at * <;> omega) | decide); conv => whnf)
      | ((with_reducible refine br_f ?_ ?_); (· first | with_reducible assumption | (simp (disch := omega) only [true_and, and_true, false_and, and_false, or_false, false_or, or_true, true_or, not_true_eq_false, not_false_eq_true, ev, ew, e1, mpa_0, mpa_1, mpa_2, mpa_9, mpa_10, mpa_11, mpa_12, Int32.reduceToNatClampNeg, Int32.le_iff_toInt_le, Int32.lt_iff_toInt_lt, ← Int32.toInt_inj, nI_toInt, Int32.reduceToInt] <;> omega) | assumption | (simp (disch := omega) only [isT, isP, two, Int32.toInt_sub, Int.bmod_def, true_and, and_true, false_and, and_false, or_false, false_or, or_true, true_or, not_true_eq_false, not_false_eq_true, ev, ew, e1, mpa_0, mpa_1, mpa_2, mpa_9, mpa_10, mpa_11, mpa_12, Int32.reduceToNatClampNeg, Int32.le_iff_toInt_le, Int32.lt_iff_toInt_lt, ← Int32.toInt_inj, nI_toInt, Int32.reduceToInt] at * <;> omega) | decide); conv => whnf)
      | ((with_reducible refine br_nt ?_ ?_); (· first | with_reducible assumption | (simp (disch := omega) only [true_and, and_true, false_and, and_false, or_false, false_or, or_true, true_or, not_true_eq_false, not_false_eq_true, ev, ew, e1, mpa_0, mpa_1, mpa_2, mpa_9, mpa_10, mpa_11, mpa_12, Int32.reduceToNatClampNeg, Int32.le_iff_toInt_le, Int32.lt_iff_toInt_lt, ← Int32.toInt_inj, nI_toInt, Int32.reduceToInt] <;> omega) | assumption | (simp (disch := omega) only [isT, isP, two, Int32.toInt_sub, Int.bmod_def, true_and, and_true, false_and, and_false, or_false, false_or, or_true, true_or, not_true_eq_false, not_false_eq_true, ev, ew, e1, mpa_0, mpa_1, mpa_2, mpa_9, mpa_10, mpa_11, mpa_12, Int32.reduceToNatClampNeg, Int32.le_iff_toInt_le, Int32.lt_iff_toInt_lt, ← Int32.toInt_inj, nI_toInt, Int32.reduceToInt] at * <;> omega) | decide); conv => whnf)
      | ((with_reducible refine br_nf ?_ ?_); (· first | with_reducible assumption | (simp (disch := omega) only [true_and, and_true, false_and, and_false, or_false, false_or, or_true, true_or, not_true_eq_false, not_false_eq_true, ev, ew, e1, mpa_0, mpa_1, mpa_2, mpa_9, mpa_10, mpa_11, mpa_12, Int32.reduceToNatClampNeg, Int32.le_iff_toInt_le, Int32.lt_iff_toInt_lt, ← Int32.toInt_inj, nI_toInt, Int32.reduceToInt] <;> omega) | assumption | (simp (disch := omega) only [isT, isP, two, Int32.toInt_sub, Int.bmod_def, true_and, and_true, false_and, and_false, or_false, false_or, or_true, true_or, not_true_eq_false, not_false_eq_true, ev, ew, e1, mpa_0, mpa_1, mpa_2, mpa_9, mpa_10, mpa_11, mpa_12, Int32.reduceToNatClampNeg, Int32.le_iff_toInt_le, Int32.lt_iff_toInt_lt, ← Int32.toInt_inj, nI_toInt, Int32.reduceToInt] at * <;> omega) | decide); conv => whnf)
      | ((with_reducible refine ckI ?_ ?_); (· first | ((with_reducible refine vp_in_nI ?_ ?_); (· omega); (· decide)) | exact vp_c (by decide) | exact ⟨_, rfl⟩ | exact Or.inl rfl | exact Or.inr rfl | exact b2_01 _); conv => whnf)
      | ((with_reducible refine ckJ ?_ ?_); conv => whnf)
      | fail
    all_goals exact hK
  · intro i hi ih ν hI x hx
    subst hx hI
    have q10 : ¬ (sf μ 71 (cpo (μ 71) (224 + 52 * k) i (μ 75))) 70 10 ≤ nI i := by
      show ¬ μ 70 10 ≤ nI i
      rw [e10]
      simp only [Int32.le_iff_toInt_le]
      rw [nI_toInt (by omega), nI_toInt (by omega)]
      omega
    have hix : (223 : Int32) + 52 * (sf μ 71 (cpo (μ 71) (224 + 52 * k) i (μ 75))) 70 7 + 1 + nI i = nI (224 + 52 * k + i) := by
      show (223 : Int32) + 52 * μ 70 7 + 1 + nI i = nI (224 + 52 * k + i)
      rw [e7]
      exact tix2 hk
    have hv : vp_in ((223 : Int32) + 52 * (sf μ 71 (cpo (μ 71) (224 + 52 * k) i (μ 75))) 70 7 + 1 + nI i) 327 := by
      rw [hix]
      exact vp_in_nI (by omega) (by decide)
    have hv2 : vp_in (nI i) 60 := vp_in_nI (by omega) (by decide)
    have ih2 : VW X m_X9_text 42 K 67 [some (.ref 70), some (.int u), some (.int (nI i + 1))] [] (wr (sf μ 71 (cpo (μ 71) (224 + 52 * k) i (μ 75))) 71 ((223 : Int32) + 52 * (sf μ 71 (cpo (μ 71) (224 + 52 * k) i (μ 75))) 70 7 + 1 + nI i).toNatClampNeg ((sf μ 71 (cpo (μ 71) (224 + 52 * k) i (μ 75))) 75 (nI i).toNatClampNeg)) := by
      refine ih _ ?_ _ (nI_1 i)
      rw [hix, nI_clamp (by omega), nI_clamp (by omega), ← cpo_s, sw_sf, sf_at, sf_ne (show (75 : Nat) ≠ 71 by decide)]
      funext b
      by_cases hb : b = 71
      · subst hb; rw [sf_at, sf_at]
      · rw [sf_ne hb, sf_ne hb, sf_ne hb]
    clear ih hK hix
    generalize hB : (sf μ 71 (cpo (μ 71) (224 + 52 * k) i (μ 75))) = B at *
    refine gow ck_X9_text 67 [67] ?_
    conv => whnf
    repeat' first
      | (with_reducible refine at_h 67 ?_)
      | ((with_reducible refine gow ck_X9_text _ [67] ?_); conv => whnf)
      | ((with_reducible refine bn_t ?_ ?_); (· first | with_reducible assumption | (simp (disch := omega) only [true_and, and_true, false_and, and_false, or_false, false_or, or_true, true_or, not_true_eq_false, not_false_eq_true, ev, ew, e1, mpa_0, mpa_1, mpa_2, mpa_9, mpa_10, mpa_11, mpa_12, Int32.reduceToNatClampNeg, Int32.le_iff_toInt_le, Int32.lt_iff_toInt_lt, ← Int32.toInt_inj, nI_toInt, Int32.reduceToInt] <;> omega) | assumption | (simp (disch := omega) only [isT, isP, two, Int32.toInt_sub, Int.bmod_def, true_and, and_true, false_and, and_false, or_false, false_or, or_true, true_or, not_true_eq_false, not_false_eq_true, ev, ew, e1, mpa_0, mpa_1, mpa_2, mpa_9, mpa_10, mpa_11, mpa_12, Int32.reduceToNatClampNeg, Int32.le_iff_toInt_le, Int32.lt_iff_toInt_lt, ← Int32.toInt_inj, nI_toInt, Int32.reduceToInt] at * <;> omega) | decide); conv => whnf)
      | ((with_reducible refine bn_f ?_ ?_); (· first | with_reducible assumption | (simp (disch := omega) only [true_and, and_true, false_and, and_false, or_false, false_or, or_true, true_or, not_true_eq_false, not_false_eq_true, ev, ew, e1, mpa_0, mpa_1, mpa_2, mpa_9, mpa_10, mpa_11, mpa_12, Int32.reduceToNatClampNeg, Int32.le_iff_toInt_le, Int32.lt_iff_toInt_lt, ← Int32.toInt_inj, nI_toInt, Int32.reduceToInt] <;> omega) | assumption | (simp (disch := omega) only [isT, isP, two, Int32.toInt_sub, Int.bmod_def, true_and, and_true, false_and, and_false, or_false, false_or, or_true, true_or, not_true_eq_false, not_false_eq_true, ev, ew, e1, mpa_0, mpa_1, mpa_2, mpa_9, mpa_10, mpa_11, mpa_12, Int32.reduceToNatClampNeg, Int32.le_iff_toInt_le, Int32.lt_iff_toInt_lt, ← Int32.toInt_inj, nI_toInt, Int32.reduceToInt] at * <;> omega) | decide); conv => whnf)
      | ((with_reducible refine bc_t ?_ ?_); (· first | with_reducible assumption | (simp (disch := omega) only [true_and, and_true, false_and, and_false, or_false, false_or, or_true, true_or, not_true_eq_false, not_false_eq_true, ev, ew, e1, mpa_0, mpa_1, mpa_2, mpa_9, mpa_10, mpa_11, mpa_12, Int32.reduceToNatClampNeg, Int32.le_iff_toInt_le, Int32.lt_iff_toInt_lt, ← Int32.toInt_inj, nI_toInt, Int32.reduceToInt] <;> omega) | assumption | (simp (disch := omega) only [isT, isP, two, Int32.toInt_sub, Int.bmod_def, true_and, and_true, false_and, and_false, or_false, false_or, or_true, true_or, not_true_eq_false, not_false_eq_true, ev, ew, e1, mpa_0, mpa_1, mpa_2, mpa_9, mpa_10, mpa_11, mpa_12, Int32.reduceToNatClampNeg, Int32.le_iff_toInt_le, Int32.lt_iff_toInt_lt, ← Int32.toInt_inj, nI_toInt, Int32.reduceToInt] at * <;> omega) | decide); conv => whnf)
      | ((with_reducible refine bc_f ?_ ?_); (· first | with_reducible assumption | (simp (disch := omega) only [true_and, and_true, false_and, and_false, or_false, false_or, or_true, true_or, not_true_eq_false, not_false_eq_true, ev, ew, e1, mpa_0, mpa_1, mpa_2, mpa_9, mpa_10, mpa_11, mpa_12, Int32.reduceToNatClampNeg, Int32.le_iff_toInt_le, Int32.lt_iff_toInt_lt, ← Int32.toInt_inj, nI_toInt, Int32.reduceToInt] <;> omega) | assumption | (simp (disch := omega) only [isT, isP, two, Int32.toInt_sub, Int.bmod_def, true_and, and_true, false_and, and_false, or_false, false_or, or_true, true_or, not_true_eq_false, not_false_eq_true, ev, ew, e1, mpa_0, mpa_1, mpa_2, mpa_9, mpa_10, mpa_11, mpa_12, Int32.reduceToNatClampNeg, Int32.le_iff_toInt_le, Int32.lt_iff_toInt_lt, ← Int32.toInt_inj, nI_toInt, Int32.reduceToInt] at * <;> omega) | decide); conv => whnf)
      | ((with_reducible refine br_t ?_ ?_); (· first | with_reducible assumption | (simp (disch := omega) only [true_and, and_true, false_and, and_false, or_false, false_or, or_true, true_or, not_true_eq_false, not_false_eq_true, ev, ew, e1, mpa_0, mpa_1, mpa_2, mpa_9, mpa_10, mpa_11, mpa_12, Int32.reduceToNatClampNeg, Int32.le_iff_toInt_le, Int32.lt_iff_toInt_lt, ← Int32.toInt_inj, nI_toInt, Int32.reduceToInt] <;> omega) | assumption | (simp (disch := omega) only [isT, isP, two, Int32.toInt_sub, Int.bmod_def, true_and, and_true, false_and, and_false, or_false, false_or, or_true, true_or, not_true_eq_false, not_false_eq_true, ev, ew, e1, mpa_0, mpa_1, mpa_2, mpa_9, mpa_10, mpa_11, mpa_12, Int32.reduceToNatClampNeg, Int32.le_iff_toInt_le, Int32.lt_iff_toInt_lt, ← Int32.toInt_inj, nI_toInt, Int32.reduceToInt] at * <;> omega) | decide); conv => whnf)
      | ((with_reducible refine br_f ?_ ?_); (· first | with_reducible assumption | (simp (disch := omega) only [true_and, and_true, false_and, and_false, or_false, false_or, or_true, true_or, not_true_eq_false, not_false_eq_true, ev, ew, e1, mpa_0, mpa_1, mpa_2, mpa_9, mpa_10, mpa_11, mpa_12, Int32.reduceToNatClampNeg, Int32.le_iff_toInt_le, Int32.lt_iff_toInt_lt, ← Int32.toInt_inj, nI_toInt, Int32.reduceToInt] <;> omega) | assumption | (simp (disch := omega) only [isT, isP, two, Int32.toInt_sub, Int.bmod_def, true_and, and_true, false_and, and_false, or_false, false_or, or_true, true_or, not_true_eq_false, not_false_eq_true, ev, ew, e1, mpa_0, mpa_1, mpa_2, mpa_9, mpa_10, mpa_11, mpa_12, Int32.reduceToNatClampNeg, Int32.le_iff_toInt_le, Int32.lt_iff_toInt_lt, ← Int32.toInt_inj, nI_toInt, Int32.reduceToInt] at * <;> omega) | decide); conv => whnf)
      | ((with_reducible refine br_nt ?_ ?_); (· first | with_reducible assumption | (simp (disch := omega) only [true_and, and_true, false_and, and_false, or_false, false_or, or_true, true_or, not_true_eq_false, not_false_eq_true, ev, ew, e1, mpa_0, mpa_1, mpa_2, mpa_9, mpa_10, mpa_11, mpa_12, Int32.reduceToNatClampNeg, Int32.le_iff_toInt_le, Int32.lt_iff_toInt_lt, ← Int32.toInt_inj, nI_toInt, Int32.reduceToInt] <;> omega) | assumption | (simp (disch := omega) only [isT, isP, two, Int32.toInt_sub, Int.bmod_def, true_and, and_true, false_and, and_false, or_false, false_or, or_true, true_or, not_true_eq_false, not_false_eq_true, ev, ew, e1, mpa_0, mpa_1, mpa_2, mpa_9, mpa_10, mpa_11, mpa_12, Int32.reduceToNatClampNeg, Int32.le_iff_toInt_le, Int32.lt_iff_toInt_lt, ← Int32.toInt_inj, nI_toInt, Int32.reduceToInt] at * <;> omega) | decide); conv => whnf)
      | ((with_reducible refine br_nf ?_ ?_); (· first | with_reducible assumption | (simp (disch := omega) only [true_and, and_true, false_and, and_false, or_false, false_or, or_true, true_or, not_true_eq_false, not_false_eq_true, ev, ew, e1, mpa_0, mpa_1, mpa_2, mpa_9, mpa_10, mpa_11, mpa_12, Int32.reduceToNatClampNeg, Int32.le_iff_toInt_le, Int32.lt_iff_toInt_lt, ← Int32.toInt_inj, nI_toInt, Int32.reduceToInt] <;> omega) | assumption | (simp (disch := omega) only [isT, isP, two, Int32.toInt_sub, Int.bmod_def, true_and, and_true, false_and, and_false, or_false, false_or, or_true, true_or, not_true_eq_false, not_false_eq_true, ev, ew, e1, mpa_0, mpa_1, mpa_2, mpa_9, mpa_10, mpa_11, mpa_12, Int32.reduceToNatClampNeg, Int32.le_iff_toInt_le, Int32.lt_iff_toInt_lt, ← Int32.toInt_inj, nI_toInt, Int32.reduceToInt] at * <;> omega) | decide); conv => whnf)
      | ((with_reducible refine ckI ?_ ?_); (· first | (exact hv) | (exact hv2) | ((with_reducible refine vp_in_nI ?_ ?_); (· omega); (· decide)) | exact vp_c (by decide) | exact ⟨_, rfl⟩ | exact Or.inl rfl | exact Or.inr rfl | exact b2_01 _); conv => whnf)
      | ((with_reducible refine ckJ ?_ ?_); conv => whnf)
      | fail
    all_goals exact ih2
theorem r_text (X : Cx) (μ : Mem) (u : Int32) (hW : WFS (mp μ)) : Mt X m_X9_text 42 [.ref 70, .int u] μ (Pm9 μ (sp_text (mp μ) u)) := by
  obtain ⟨n, hn, en⟩ := of_upto (n := 50) hW.1.2.2.2.1 (by decide)
  have hnn : (mp μ 1 4).toInt.toNat = n := by rw [en, nI_toInt (by omega), Int.toNat_natCast]
  have eb : ∀ j, j < n → 0 ≤ (μ 71 (153 + j)).toInt := fun j hj => (hW.1.2.2.2.2.2.2.2.2.2.2.1 j (by omega)).1
  unfold sp_text
  by_cases hu : 0 ≤ u ∧ u ≤ 1
  · rw [if_pos hu]
    obtain ⟨k, hk1, rfl⟩ := of_upto (x := u) (n := 1) ⟨Int32.le_iff_toInt_le.mp hu.1, Int32.le_iff_toInt_le.mp hu.2⟩ (by decide)
    have hk : k < 2 := by omega
    rw [nI_toInt (by omega), Int.toNat_natCast, hnn]
    have hRd := (c9_rd X (wr μ 70 7 (nI k)) n hn en eb k hk rfl (fun ν c e => c9_nameOf X ν k c hk e) 36).1 0 0 0 (μ 75) (by omega) (by omega) (by omega) (by omega)
    rw [← pm0] at hRd
    have hok := pJ_ok (N := mp μ 1) (u := k) 36 0 0 0 (by omega) (by omega)
    change okR (mp μ 1) 0 (txR (mp μ 1) k) at hok
    change Mt X m_X9_either 41 _ _ (fun q μ' => q = none ∧ μ' = PM (wr μ 70 7 (nI k)) (nI (txR (mp μ 1) k).2.1) (nI 0) (bw (txR (mp μ 1) k).1) (nI (0 + (txR (mp μ 1) k).2.2.length)) (apd (μ 75) 0 (txR (mp μ 1) k).2.2)) at hRd
    generalize txR (mp μ 1) k = R at hok hRd ⊢
    rw [Nat.zero_add] at hRd
    obtain ⟨h1, h2, h3, h4⟩ := hok
    rw [hnn] at h2
    by_cases hR1 : R.1 = true
    · rw [bw_t hR1] at hRd
      generalize hB : PM (wr μ 70 7 (nI k)) (nI R.2.1) (nI 0) 0 (nI R.2.2.length) (apd (μ 75) 0 R.2.2) = B at hRd
      have q8 : B 70 8 = 0 := by rw [← hB]; rfl
      have q5 : B 70 5 = nI R.2.1 := by rw [← hB]; rfl
      have q7 : B 70 7 = nI k := by rw [← hB]; rfl
      have q10 : B 70 10 = nI R.2.2.length := by rw [← hB]; rfl
      have q2 : B 70 2 = μ 70 2 := by rw [← hB]; rfl
      have q20 : B 70 20 = μ 70 20 := by rw [← hB]; rfl
      have q75 : B 75 = apd (μ 75) 0 R.2.2 := by rw [← hB]; exact sf_at
      have q71 : B 71 = μ 71 := by rw [← hB]; rfl
      have qo : ∀ i, i ≠ 70 → i ≠ 75 → B i = μ i := fun i h1 h2 => by rw [← hB]; unfold PM; rw [sf_ne h2, sf_ne h1, wr_ne h1]
      clear hB
      by_cases hR2 : R.2.1 = n
      · rw [if_pos ⟨hR1, hR2⟩]
        have hge : B 71 4 ≤ B 70 5 := by
          rw [q5, q71, hR2]
          exact Int32.le_of_eq en
        have hz : ¬ ¬ (wr (wr B 70 8 0) 71 4 0) 70 8 = 0 := fun z => z rfl
        have hz0 : (wr (wr B 70 8 0) 71 4 0) 70 8 = 0 := rfl
        have hix : (223 : Int32) + 52 * (wr (wr B 70 8 0) 71 4 0) 70 7 = nI (223 + 52 * k) := by
          show (223 : Int32) + 52 * B 70 7 = _
          rw [q7]
          exact tix hk
        have hv : vp_in ((223 : Int32) + 52 * (wr (wr B 70 8 0) 71 4 0) 70 7) 327 := by rw [hix]; exact vp_in_nI (by omega) (by decide)
        have key := c9_tx_l X (wr (wr (wr B 70 8 0) 71 4 0) 71 ((223 : Int32) + 52 * (wr (wr B 70 8 0) 71 4 0) 70 7).toNatClampNeg ((wr (wr B 70 8 0) 71 4 0) 70 10)) k R.2.2.length hk (by omega) (nI k) q7 q10 (Pm9 μ (1, sf (mp μ) 1 (txN (mp μ 1) k R.2.2))) (by
          refine Pm9_rd ?_ q2 q20 (fun i h1 h2 h3 => ?_)
          · rw [sf_at, hix, nI_clamp (by omega)]
            show cpo (upd (upd (B 71) 4 0) (223 + 52 * k) (B 70 10)) _ _ (B 75) = _
            rw [q10, q75, q71, cpo_tcp]
            rfl
          · rw [sf_ne h2, wr_ne h2, wr_ne h2, wr_ne h1]
            exact qo i h1 h3) 0 (by omega) (wr (wr (wr B 70 8 0) 71 4 0) 71 ((223 : Int32) + 52 * (wr (wr B 70 8 0) 71 4 0) 70 7).toNatClampNeg ((wr (wr B 70 8 0) 71 4 0) 70 10)) (by
          rw [cpo_0]
          funext b
          by_cases hb : b = 71
          · subst hb; rw [sf_at]
          · rw [sf_ne hb]) 0 rfl
        clear q71 q2 q20 qo q7 q10 q75 en hn hnn eb hW hix
        refine Mt_of ck_X9_text mf_142 rfl ?_
        repeat' first
            | ((with_reducible refine at_h 67 ?_); first | exact key | skip)
            | ((with_reducible refine gow ck_X9_text _ [67] ?_); conv => whnf)
            | ((with_reducible refine bn_t ?_ ?_); (· first | with_reducible assumption | (simp (disch := omega) only [true_and, and_true, false_and, and_false, or_false, false_or, or_true, true_or, not_true_eq_false, not_false_eq_true, ev, ew, e1, mpa_0, mpa_1, mpa_2, mpa_9, mpa_10, mpa_11, mpa_12, Int32.reduceToNatClampNeg, Int32.le_iff_toInt_le, Int32.lt_iff_toInt_lt, ← Int32.toInt_inj, nI_toInt, Int32.reduceToInt] <;> omega) | assumption | (simp (disch := omega) only [isT, isP, two, Int32.toInt_sub, Int.bmod_def, true_and, and_true, false_and, and_false, or_false, false_or, or_true, true_or, not_true_eq_false, not_false_eq_true, ev, ew, e1, mpa_0, mpa_1, mpa_2, mpa_9, mpa_10, mpa_11, mpa_12, Int32.reduceToNatClampNeg, Int32.le_iff_toInt_le, Int32.lt_iff_toInt_lt, ← Int32.toInt_inj, nI_toInt, Int32.reduceToInt] at * <;> omega) | decide); conv => whnf)
            | ((with_reducible refine bn_f ?_ ?_); (· first | with_reducible assumption | (simp (disch := omega) only [true_and, and_true, false_and, and_false, or_false, false_or, or_true, true_or, not_true_eq_false, not_false_eq_true, ev, ew, e1, mpa_0, mpa_1, mpa_2, mpa_9, mpa_10, mpa_11, mpa_12, Int32.reduceToNatClampNeg, Int32.le_iff_toInt_le, Int32.lt_iff_toInt_lt, ← Int32.toInt_inj, nI_toInt, Int32.reduceToInt] <;> omega) | assumption | (simp (disch := omega) only [isT, isP, two, Int32.toInt_sub, Int.bmod_def, true_and, and_true, false_and, and_false, or_false, false_or, or_true, true_or, not_true_eq_false, not_false_eq_true, ev, ew, e1, mpa_0, mpa_1, mpa_2, mpa_9, mpa_10, mpa_11, mpa_12, Int32.reduceToNatClampNeg, Int32.le_iff_toInt_le, Int32.lt_iff_toInt_lt, ← Int32.toInt_inj, nI_toInt, Int32.reduceToInt] at * <;> omega) | decide); conv => whnf)
            | ((with_reducible refine bc_t ?_ ?_); (· first | with_reducible assumption | (simp (disch := omega) only [true_and, and_true, false_and, and_false, or_false, false_or, or_true, true_or, not_true_eq_false, not_false_eq_true, ev, ew, e1, mpa_0, mpa_1, mpa_2, mpa_9, mpa_10, mpa_11, mpa_12, Int32.reduceToNatClampNeg, Int32.le_iff_toInt_le, Int32.lt_iff_toInt_lt, ← Int32.toInt_inj, nI_toInt, Int32.reduceToInt] <;> omega) | assumption | (simp (disch := omega) only [isT, isP, two, Int32.toInt_sub, Int.bmod_def, true_and, and_true, false_and, and_false, or_false, false_or, or_true, true_or, not_true_eq_false, not_false_eq_true, ev, ew, e1, mpa_0, mpa_1, mpa_2, mpa_9, mpa_10, mpa_11, mpa_12, Int32.reduceToNatClampNeg, Int32.le_iff_toInt_le, Int32.lt_iff_toInt_lt, ← Int32.toInt_inj, nI_toInt, Int32.reduceToInt] at * <;> omega) | decide); conv => whnf)
            | ((with_reducible refine bc_f ?_ ?_); (· first | with_reducible assumption | (simp (disch := omega) only [true_and, and_true, false_and, and_false, or_false, false_or, or_true, true_or, not_true_eq_false, not_false_eq_true, ev, ew, e1, mpa_0, mpa_1, mpa_2, mpa_9, mpa_10, mpa_11, mpa_12, Int32.reduceToNatClampNeg, Int32.le_iff_toInt_le, Int32.lt_iff_toInt_lt, ← Int32.toInt_inj, nI_toInt, Int32.reduceToInt] <;> omega) | assumption | (simp (disch := omega) only [isT, isP, two, Int32.toInt_sub, Int.bmod_def, true_and, and_true, false_and, and_false, or_false, false_or, or_true, true_or, not_true_eq_false, not_false_eq_true, ev, ew, e1, mpa_0, mpa_1, mpa_2, mpa_9, mpa_10, mpa_11, mpa_12, Int32.reduceToNatClampNeg, Int32.le_iff_toInt_le, Int32.lt_iff_toInt_lt, ← Int32.toInt_inj, nI_toInt, Int32.reduceToInt] at * <;> omega) | decide); conv => whnf)
            | ((with_reducible refine br_t ?_ ?_); (· first | with_reducible assumption | (simp (disch := omega) only [true_and, and_true, false_and, and_false, or_false, false_or, or_true, true_or, not_true_eq_false, not_false_eq_true, ev, ew, e1, mpa_0, mpa_1, mpa_2, mpa_9, mpa_10, mpa_11, mpa_12, Int32.reduceToNatClampNeg, Int32.le_iff_toInt_le, Int32.lt_iff_toInt_lt, ← Int32.toInt_inj, nI_toInt, Int32.reduceToInt] <;> omega) | assumption | (simp (disch := omega) only [isT, isP, two, Int32.toInt_sub, Int.bmod_def, true_and, and_true, false_and, and_false, or_false, false_or, or_true, true_or, not_true_eq_false, not_false_eq_true, ev, ew, e1, mpa_0, mpa_1, mpa_2, mpa_9, mpa_10, mpa_11, mpa_12, Int32.reduceToNatClampNeg, Int32.le_iff_toInt_le, Int32.lt_iff_toInt_lt, ← Int32.toInt_inj, nI_toInt, Int32.reduceToInt] at * <;> omega) | decide); conv => whnf)
            | ((with_reducible refine br_f ?_ ?_); (· first | with_reducible assumption | (simp (disch := omega) only [true_and, and_true, false_and, and_false, or_false, false_or, or_true, true_or, not_true_eq_false, not_false_eq_true, ev, ew, e1, mpa_0, mpa_1, mpa_2, mpa_9, mpa_10, mpa_11, mpa_12, Int32.reduceToNatClampNeg, Int32.le_iff_toInt_le, Int32.lt_iff_toInt_lt, ← Int32.toInt_inj, nI_toInt, Int32.reduceToInt] <;> omega) | assumption | (simp (disch := omega) only [isT, isP, two, Int32.toInt_sub, Int.bmod_def, true_and, and_true, false_and, and_false, or_false, false_or, or_true, true_or, not_true_eq_false, not_false_eq_true, ev, ew, e1, mpa_0, mpa_1, mpa_2, mpa_9, mpa_10, mpa_11, mpa_12, Int32.reduceToNatClampNeg, Int32.le_iff_toInt_le, Int32.lt_iff_toInt_lt, ← Int32.toInt_inj, nI_toInt, Int32.reduceToInt] at * <;> omega) | decide); conv => whnf)
            | ((with_reducible refine br_nt ?_ ?_); (· first | with_reducible assumption | (simp (disch := omega) only [true_and, and_true, false_and, and_false, or_false, false_or, or_true, true_or, not_true_eq_false, not_false_eq_true, ev, ew, e1, mpa_0, mpa_1, mpa_2, mpa_9, mpa_10, mpa_11, mpa_12, Int32.reduceToNatClampNeg, Int32.le_iff_toInt_le, Int32.lt_iff_toInt_lt, ← Int32.toInt_inj, nI_toInt, Int32.reduceToInt] <;> omega) | assumption | (simp (disch := omega) only [isT, isP, two, Int32.toInt_sub, Int.bmod_def, true_and, and_true, false_and, and_false, or_false, false_or, or_true, true_or, not_true_eq_false, not_false_eq_true, ev, ew, e1, mpa_0, mpa_1, mpa_2, mpa_9, mpa_10, mpa_11, mpa_12, Int32.reduceToNatClampNeg, Int32.le_iff_toInt_le, Int32.lt_iff_toInt_lt, ← Int32.toInt_inj, nI_toInt, Int32.reduceToInt] at * <;> omega) | decide); conv => whnf)
            | ((with_reducible refine br_nf ?_ ?_); (· first | with_reducible assumption | (simp (disch := omega) only [true_and, and_true, false_and, and_false, or_false, false_or, or_true, true_or, not_true_eq_false, not_false_eq_true, ev, ew, e1, mpa_0, mpa_1, mpa_2, mpa_9, mpa_10, mpa_11, mpa_12, Int32.reduceToNatClampNeg, Int32.le_iff_toInt_le, Int32.lt_iff_toInt_lt, ← Int32.toInt_inj, nI_toInt, Int32.reduceToInt] <;> omega) | assumption | (simp (disch := omega) only [isT, isP, two, Int32.toInt_sub, Int.bmod_def, true_and, and_true, false_and, and_false, or_false, false_or, or_true, true_or, not_true_eq_false, not_false_eq_true, ev, ew, e1, mpa_0, mpa_1, mpa_2, mpa_9, mpa_10, mpa_11, mpa_12, Int32.reduceToNatClampNeg, Int32.le_iff_toInt_le, Int32.lt_iff_toInt_lt, ← Int32.toInt_inj, nI_toInt, Int32.reduceToInt] at * <;> omega) | decide); conv => whnf)
            | ((with_reducible refine ckI ?_ ?_); (· first | (exact hv) | ((with_reducible refine vp_in_nI ?_ ?_); (· omega); (· decide)) | exact vp_c (by decide) | exact ⟨_, rfl⟩ | exact Or.inl rfl | exact Or.inr rfl | exact b2_01 _); conv => whnf)
            | ((with_reducible apply cl_v); (case hM => with_reducible exact hRd); (case hc => exact rfl); (case hd => first | decide | omega); conv => whnf)
            | ((with_reducible apply cl_p); (case hM => with_reducible exact c9_within _ _ _ _ _); (case hc => exact rfl); (case hd => first | decide | omega); conv => whnf)
            | ((with_reducible apply cl_p); (case hM => with_reducible exact c9_finding1 _ _); (case hc => exact rfl); (case hd => first | decide | omega); conv => whnf)
            | ((with_reducible apply cl_p); (case hM => with_reducible exact c9_finding2 _ _); (case hc => exact rfl); (case hd => first | decide | omega); conv => whnf)
            | ((with_reducible apply cl_p); (case hM => with_reducible exact c9_finding3 _ _); (case hc => exact rfl); (case hd => first | decide | omega); conv => whnf)
            | ((with_reducible apply cl_p); (case hM => with_reducible exact c9_finding4 _ _); (case hc => exact rfl); (case hd => first | decide | omega); conv => whnf)
            | ((with_reducible apply cl_p); (case hM => with_reducible exact c9_finding5 _ _); (case hc => exact rfl); (case hd => first | decide | omega); conv => whnf)
            | ((with_reducible refine ckJ ?_ ?_); conv => whnf)
            | fail
        all_goals exact key
      · rw [if_neg (fun z => hR2 z.2)]
        have hlt : ¬ B 71 4 ≤ B 70 5 := by
          rw [q5, q71, show μ 71 4 = nI n from en]
          simp only [Int32.le_iff_toInt_le]
          rw [nI_toInt (by omega), nI_toInt (by omega)]
          omega
        have fin : Pm9 μ (-10 - nI R.2.1, wr (mp μ) 1 4 0) (some (.int (-10 - (wr (wr B 70 8 1) 71 4 0) 70 5))) (wr (wr B 70 8 1) 71 4 0) := by
          have h5 : (wr (wr B 70 8 1) 71 4 0) 70 5 = nI R.2.1 := q5
          rw [h5, sw_sf]
          refine Pm9_rd ?_ q2 q20 (fun i h1 h2 h3 => ?_)
          · show upd (B 71) 4 0 = upd (μ 71) 4 0
            rw [q71]
          · rw [wr_ne h2, wr_ne h1]
            exact qo i h1 h3
        have h8 : (wr (wr B 70 8 1) 71 4 0) 70 8 = 1 := rfl
        have h8n : ¬ (wr (wr B 70 8 1) 71 4 0) 70 8 = 0 := by rw [h8]; decide
        clear q71 q2 q20 qo q7 q10 q75 en hn hnn
        clear eb hW
        refine Mt_of ck_X9_text mf_142 rfl ?_
        repeat' first
            | ((with_reducible refine gow ck_X9_text _ [67] ?_); conv => whnf)
            | ((with_reducible refine bn_t ?_ ?_); (· first | with_reducible assumption | (simp (disch := omega) only [true_and, and_true, false_and, and_false, or_false, false_or, or_true, true_or, not_true_eq_false, not_false_eq_true, ev, ew, e1, mpa_0, mpa_1, mpa_2, mpa_9, mpa_10, mpa_11, mpa_12, Int32.reduceToNatClampNeg, Int32.le_iff_toInt_le, Int32.lt_iff_toInt_lt, ← Int32.toInt_inj, nI_toInt, Int32.reduceToInt] <;> omega) | assumption | (simp (disch := omega) only [isT, isP, two, Int32.toInt_sub, Int.bmod_def, true_and, and_true, false_and, and_false, or_false, false_or, or_true, true_or, not_true_eq_false, not_false_eq_true, ev, ew, e1, mpa_0, mpa_1, mpa_2, mpa_9, mpa_10, mpa_11, mpa_12, Int32.reduceToNatClampNeg, Int32.le_iff_toInt_le, Int32.lt_iff_toInt_lt, ← Int32.toInt_inj, nI_toInt, Int32.reduceToInt] at * <;> omega) | decide); conv => whnf)
            | ((with_reducible refine bn_f ?_ ?_); (· first | with_reducible assumption | (simp (disch := omega) only [true_and, and_true, false_and, and_false, or_false, false_or, or_true, true_or, not_true_eq_false, not_false_eq_true, ev, ew, e1, mpa_0, mpa_1, mpa_2, mpa_9, mpa_10, mpa_11, mpa_12, Int32.reduceToNatClampNeg, Int32.le_iff_toInt_le, Int32.lt_iff_toInt_lt, ← Int32.toInt_inj, nI_toInt, Int32.reduceToInt] <;> omega) | assumption | (simp (disch := omega) only [isT, isP, two, Int32.toInt_sub, Int.bmod_def, true_and, and_true, false_and, and_false, or_false, false_or, or_true, true_or, not_true_eq_false, not_false_eq_true, ev, ew, e1, mpa_0, mpa_1, mpa_2, mpa_9, mpa_10, mpa_11, mpa_12, Int32.reduceToNatClampNeg, Int32.le_iff_toInt_le, Int32.lt_iff_toInt_lt, ← Int32.toInt_inj, nI_toInt, Int32.reduceToInt] at * <;> omega) | decide); conv => whnf)
            | ((with_reducible refine bc_t ?_ ?_); (· first | with_reducible assumption | (simp (disch := omega) only [true_and, and_true, false_and, and_false, or_false, false_or, or_true, true_or, not_true_eq_false, not_false_eq_true, ev, ew, e1, mpa_0, mpa_1, mpa_2, mpa_9, mpa_10, mpa_11, mpa_12, Int32.reduceToNatClampNeg, Int32.le_iff_toInt_le, Int32.lt_iff_toInt_lt, ← Int32.toInt_inj, nI_toInt, Int32.reduceToInt] <;> omega) | assumption | (simp (disch := omega) only [isT, isP, two, Int32.toInt_sub, Int.bmod_def, true_and, and_true, false_and, and_false, or_false, false_or, or_true, true_or, not_true_eq_false, not_false_eq_true, ev, ew, e1, mpa_0, mpa_1, mpa_2, mpa_9, mpa_10, mpa_11, mpa_12, Int32.reduceToNatClampNeg, Int32.le_iff_toInt_le, Int32.lt_iff_toInt_lt, ← Int32.toInt_inj, nI_toInt, Int32.reduceToInt] at * <;> omega) | decide); conv => whnf)
            | ((with_reducible refine bc_f ?_ ?_); (· first | with_reducible assumption | (simp (disch := omega) only [true_and, and_true, false_and, and_false, or_false, false_or, or_true, true_or, not_true_eq_false, not_false_eq_true, ev, ew, e1, mpa_0, mpa_1, mpa_2, mpa_9, mpa_10, mpa_11, mpa_12, Int32.reduceToNatClampNeg, Int32.le_iff_toInt_le, Int32.lt_iff_toInt_lt, ← Int32.toInt_inj, nI_toInt, Int32.reduceToInt] <;> omega) | assumption | (simp (disch := omega) only [isT, isP, two, Int32.toInt_sub, Int.bmod_def, true_and, and_true, false_and, and_false, or_false, false_or, or_true, true_or, not_true_eq_false, not_false_eq_true, ev, ew, e1, mpa_0, mpa_1, mpa_2, mpa_9, mpa_10, mpa_11, mpa_12, Int32.reduceToNatClampNeg, Int32.le_iff_toInt_le, Int32.lt_iff_toInt_lt, ← Int32.toInt_inj, nI_toInt, Int32.reduceToInt] at * <;> omega) | decide); conv => whnf)
            | ((with_reducible refine br_t ?_ ?_); (· first | with_reducible assumption | (simp (disch := omega) only [true_and, and_true, false_and, and_false, or_false, false_or, or_true, true_or, not_true_eq_false, not_false_eq_true, ev, ew, e1, mpa_0, mpa_1, mpa_2, mpa_9, mpa_10, mpa_11, mpa_12, Int32.reduceToNatClampNeg, Int32.le_iff_toInt_le, Int32.lt_iff_toInt_lt, ← Int32.toInt_inj, nI_toInt, Int32.reduceToInt] <;> omega) | assumption | (simp (disch := omega) only [isT, isP, two, Int32.toInt_sub, Int.bmod_def, true_and, and_true, false_and, and_false, or_false, false_or, or_true, true_or, not_true_eq_false, not_false_eq_true, ev, ew, e1, mpa_0, mpa_1, mpa_2, mpa_9, mpa_10, mpa_11, mpa_12, Int32.reduceToNatClampNeg, Int32.le_iff_toInt_le, Int32.lt_iff_toInt_lt, ← Int32.toInt_inj, nI_toInt, Int32.reduceToInt] at * <;> omega) | decide); conv => whnf)
            | ((with_reducible refine br_f ?_ ?_); (· first | with_reducible assumption | (simp (disch := omega) only [true_and, and_true, false_and, and_false, or_false, false_or, or_true, true_or, not_true_eq_false, not_false_eq_true, ev, ew, e1, mpa_0, mpa_1, mpa_2, mpa_9, mpa_10, mpa_11, mpa_12, Int32.reduceToNatClampNeg, Int32.le_iff_toInt_le, Int32.lt_iff_toInt_lt, ← Int32.toInt_inj, nI_toInt, Int32.reduceToInt] <;> omega) | assumption | (simp (disch := omega) only [isT, isP, two, Int32.toInt_sub, Int.bmod_def, true_and, and_true, false_and, and_false, or_false, false_or, or_true, true_or, not_true_eq_false, not_false_eq_true, ev, ew, e1, mpa_0, mpa_1, mpa_2, mpa_9, mpa_10, mpa_11, mpa_12, Int32.reduceToNatClampNeg, Int32.le_iff_toInt_le, Int32.lt_iff_toInt_lt, ← Int32.toInt_inj, nI_toInt, Int32.reduceToInt] at * <;> omega) | decide); conv => whnf)
            | ((with_reducible refine br_nt ?_ ?_); (· first | with_reducible assumption | (simp (disch := omega) only [true_and, and_true, false_and, and_false, or_false, false_or, or_true, true_or, not_true_eq_false, not_false_eq_true, ev, ew, e1, mpa_0, mpa_1, mpa_2, mpa_9, mpa_10, mpa_11, mpa_12, Int32.reduceToNatClampNeg, Int32.le_iff_toInt_le, Int32.lt_iff_toInt_lt, ← Int32.toInt_inj, nI_toInt, Int32.reduceToInt] <;> omega) | assumption | (simp (disch := omega) only [isT, isP, two, Int32.toInt_sub, Int.bmod_def, true_and, and_true, false_and, and_false, or_false, false_or, or_true, true_or, not_true_eq_false, not_false_eq_true, ev, ew, e1, mpa_0, mpa_1, mpa_2, mpa_9, mpa_10, mpa_11, mpa_12, Int32.reduceToNatClampNeg, Int32.le_iff_toInt_le, Int32.lt_iff_toInt_lt, ← Int32.toInt_inj, nI_toInt, Int32.reduceToInt] at * <;> omega) | decide); conv => whnf)
            | ((with_reducible refine br_nf ?_ ?_); (· first | with_reducible assumption | (simp (disch := omega) only [true_and, and_true, false_and, and_false, or_false, false_or, or_true, true_or, not_true_eq_false, not_false_eq_true, ev, ew, e1, mpa_0, mpa_1, mpa_2, mpa_9, mpa_10, mpa_11, mpa_12, Int32.reduceToNatClampNeg, Int32.le_iff_toInt_le, Int32.lt_iff_toInt_lt, ← Int32.toInt_inj, nI_toInt, Int32.reduceToInt] <;> omega) | assumption | (simp (disch := omega) only [isT, isP, two, Int32.toInt_sub, Int.bmod_def, true_and, and_true, false_and, and_false, or_false, false_or, or_true, true_or, not_true_eq_false, not_false_eq_true, ev, ew, e1, mpa_0, mpa_1, mpa_2, mpa_9, mpa_10, mpa_11, mpa_12, Int32.reduceToNatClampNeg, Int32.le_iff_toInt_le, Int32.lt_iff_toInt_lt, ← Int32.toInt_inj, nI_toInt, Int32.reduceToInt] at * <;> omega) | decide); conv => whnf)
            | ((with_reducible refine ckI ?_ ?_); (· first | ((with_reducible refine vp_in_nI ?_ ?_); (· omega); (· decide)) | exact vp_c (by decide) | exact ⟨_, rfl⟩ | exact Or.inl rfl | exact Or.inr rfl | exact b2_01 _); conv => whnf)
            | ((with_reducible apply cl_v); (case hM => with_reducible exact hRd); (case hc => exact rfl); (case hd => first | decide | omega); conv => whnf)
            | ((with_reducible apply cl_p); (case hM => with_reducible exact c9_within _ _ _ _ _); (case hc => exact rfl); (case hd => first | decide | omega); conv => whnf)
            | ((with_reducible apply cl_p); (case hM => with_reducible exact c9_finding1 _ _); (case hc => exact rfl); (case hd => first | decide | omega); conv => whnf)
            | ((with_reducible apply cl_p); (case hM => with_reducible exact c9_finding2 _ _); (case hc => exact rfl); (case hd => first | decide | omega); conv => whnf)
            | ((with_reducible apply cl_p); (case hM => with_reducible exact c9_finding3 _ _); (case hc => exact rfl); (case hd => first | decide | omega); conv => whnf)
            | ((with_reducible apply cl_p); (case hM => with_reducible exact c9_finding4 _ _); (case hc => exact rfl); (case hd => first | decide | omega); conv => whnf)
            | ((with_reducible apply cl_p); (case hM => with_reducible exact c9_finding5 _ _); (case hc => exact rfl); (case hd => first | decide | omega); conv => whnf)
            | ((with_reducible refine ckJ ?_ ?_); conv => whnf)
            | fail
        all_goals exact fin
    · rw [if_neg (fun z => hR1 z.1)]
      rw [bw_f hR1] at hRd
      generalize hB : PM (wr μ 70 7 (nI k)) (nI R.2.1) (nI 0) 1 (nI R.2.2.length) (apd (μ 75) 0 R.2.2) = B at hRd
      have q8 : B 70 8 = 1 := by rw [← hB]; rfl
      have q8n : ¬ B 70 8 = 0 := by rw [q8]; decide
      have q5 : B 70 5 = nI R.2.1 := by rw [← hB]; rfl
      have q7 : B 70 7 = nI k := by rw [← hB]; rfl
      have q10 : B 70 10 = nI R.2.2.length := by rw [← hB]; rfl
      have q2 : B 70 2 = μ 70 2 := by rw [← hB]; rfl
      have q20 : B 70 20 = μ 70 20 := by rw [← hB]; rfl
      have q75 : B 75 = apd (μ 75) 0 R.2.2 := by rw [← hB]; exact sf_at
      have q71 : B 71 = μ 71 := by rw [← hB]; rfl
      have qo : ∀ i, i ≠ 70 → i ≠ 75 → B i = μ i := fun i h1 h2 => by rw [← hB]; unfold PM; rw [sf_ne h2, sf_ne h1, wr_ne h1]
      clear hB
      have fin : Pm9 μ (-10 - nI R.2.1, wr (mp μ) 1 4 0) (some (.int (-10 - (wr (wr B 70 8 1) 71 4 0) 70 5))) (wr (wr B 70 8 1) 71 4 0) := by
        have h5 : (wr (wr B 70 8 1) 71 4 0) 70 5 = nI R.2.1 := q5
        rw [h5, sw_sf]
        refine Pm9_rd ?_ q2 q20 (fun i h1 h2 h3 => ?_)
        · show upd (B 71) 4 0 = upd (μ 71) 4 0
          rw [q71]
        · rw [wr_ne h2, wr_ne h1]
          exact qo i h1 h3
      have h8 : (wr (wr B 70 8 1) 71 4 0) 70 8 = 1 := rfl
      have h8n : ¬ (wr (wr B 70 8 1) 71 4 0) 70 8 = 0 := by rw [h8]; decide
      clear q71 q2 q20 qo q7 q10 q75 en hn hnn
      clear eb hW
      refine Mt_of ck_X9_text mf_142 rfl ?_
      repeat' first
          | ((with_reducible refine gow ck_X9_text _ [67] ?_); conv => whnf)
          | ((with_reducible refine bn_t ?_ ?_); (· first | with_reducible assumption | (simp (disch := omega) only [true_and, and_true, false_and, and_false, or_false, false_or, or_true, true_or, not_true_eq_false, not_false_eq_true, ev, ew, e1, mpa_0, mpa_1, mpa_2, mpa_9, mpa_10, mpa_11, mpa_12, Int32.reduceToNatClampNeg, Int32.le_iff_toInt_le, Int32.lt_iff_toInt_lt, ← Int32.toInt_inj, nI_toInt, Int32.reduceToInt] <;> omega) | assumption | (simp (disch := omega) only [isT, isP, two, Int32.toInt_sub, Int.bmod_def, true_and, and_true, false_and, and_false, or_false, false_or, or_true, true_or, not_true_eq_false, not_false_eq_true, ev, ew, e1, mpa_0, mpa_1, mpa_2, mpa_9, mpa_10, mpa_11, mpa_12, Int32.reduceToNatClampNeg, Int32.le_iff_toInt_le, Int32.lt_iff_toInt_lt, ← Int32.toInt_inj, nI_toInt, Int32.reduceToInt] at * <;> omega) | decide); conv => whnf)
          | ((with_reducible refine bn_f ?_ ?_); (· first | with_reducible assumption | (simp (disch := omega) only [true_and, and_true, false_and, and_false, or_false, false_or, or_true, true_or, not_true_eq_false, not_false_eq_true, ev, ew, e1, mpa_0, mpa_1, mpa_2, mpa_9, mpa_10, mpa_11, mpa_12, Int32.reduceToNatClampNeg, Int32.le_iff_toInt_le, Int32.lt_iff_toInt_lt, ← Int32.toInt_inj, nI_toInt, Int32.reduceToInt] <;> omega) | assumption | (simp (disch := omega) only [isT, isP, two, Int32.toInt_sub, Int.bmod_def, true_and, and_true, false_and, and_false, or_false, false_or, or_true, true_or, not_true_eq_false, not_false_eq_true, ev, ew, e1, mpa_0, mpa_1, mpa_2, mpa_9, mpa_10, mpa_11, mpa_12, Int32.reduceToNatClampNeg, Int32.le_iff_toInt_le, Int32.lt_iff_toInt_lt, ← Int32.toInt_inj, nI_toInt, Int32.reduceToInt] at * <;> omega) | decide); conv => whnf)
          | ((with_reducible refine bc_t ?_ ?_); (· first | with_reducible assumption | (simp (disch := omega) only [true_and, and_true, false_and, and_false, or_false, false_or, or_true, true_or, not_true_eq_false, not_false_eq_true, ev, ew, e1, mpa_0, mpa_1, mpa_2, mpa_9, mpa_10, mpa_11, mpa_12, Int32.reduceToNatClampNeg, Int32.le_iff_toInt_le, Int32.lt_iff_toInt_lt, ← Int32.toInt_inj, nI_toInt, Int32.reduceToInt] <;> omega) | assumption | (simp (disch := omega) only [isT, isP, two, Int32.toInt_sub, Int.bmod_def, true_and, and_true, false_and, and_false, or_false, false_or, or_true, true_or, not_true_eq_false, not_false_eq_true, ev, ew, e1, mpa_0, mpa_1, mpa_2, mpa_9, mpa_10, mpa_11, mpa_12, Int32.reduceToNatClampNeg, Int32.le_iff_toInt_le, Int32.lt_iff_toInt_lt, ← Int32.toInt_inj, nI_toInt, Int32.reduceToInt] at * <;> omega) | decide); conv => whnf)
          | ((with_reducible refine bc_f ?_ ?_); (· first | with_reducible assumption | (simp (disch := omega) only [true_and, and_true, false_and, and_false, or_false, false_or, or_true, true_or, not_true_eq_false, not_false_eq_true, ev, ew, e1, mpa_0, mpa_1, mpa_2, mpa_9, mpa_10, mpa_11, mpa_12, Int32.reduceToNatClampNeg, Int32.le_iff_toInt_le, Int32.lt_iff_toInt_lt, ← Int32.toInt_inj, nI_toInt, Int32.reduceToInt] <;> omega) | assumption | (simp (disch := omega) only [isT, isP, two, Int32.toInt_sub, Int.bmod_def, true_and, and_true, false_and, and_false, or_false, false_or, or_true, true_or, not_true_eq_false, not_false_eq_true, ev, ew, e1, mpa_0, mpa_1, mpa_2, mpa_9, mpa_10, mpa_11, mpa_12, Int32.reduceToNatClampNeg, Int32.le_iff_toInt_le, Int32.lt_iff_toInt_lt, ← Int32.toInt_inj, nI_toInt, Int32.reduceToInt] at * <;> omega) | decide); conv => whnf)
          | ((with_reducible refine br_t ?_ ?_); (· first | with_reducible assumption | (simp (disch := omega) only [true_and, and_true, false_and, and_false, or_false, false_or, or_true, true_or, not_true_eq_false, not_false_eq_true, ev, ew, e1, mpa_0, mpa_1, mpa_2, mpa_9, mpa_10, mpa_11, mpa_12, Int32.reduceToNatClampNeg, Int32.le_iff_toInt_le, Int32.lt_iff_toInt_lt, ← Int32.toInt_inj, nI_toInt, Int32.reduceToInt] <;> omega) | assumption | (simp (disch := omega) only [isT, isP, two, Int32.toInt_sub, Int.bmod_def, true_and, and_true, false_and, and_false, or_false, false_or, or_true, true_or, not_true_eq_false, not_false_eq_true, ev, ew, e1, mpa_0, mpa_1, mpa_2, mpa_9, mpa_10, mpa_11, mpa_12, Int32.reduceToNatClampNeg, Int32.le_iff_toInt_le, Int32.lt_iff_toInt_lt, ← Int32.toInt_inj, nI_toInt, Int32.reduceToInt] at * <;> omega) | decide); conv => whnf)
          | ((with_reducible refine br_f ?_ ?_); (· first | with_reducible assumption | (simp (disch := omega) only [true_and, and_true, false_and, and_false, or_false, false_or, or_true, true_or, not_true_eq_false, not_false_eq_true, ev, ew, e1, mpa_0, mpa_1, mpa_2, mpa_9, mpa_10, mpa_11, mpa_12, Int32.reduceToNatClampNeg, Int32.le_iff_toInt_le, Int32.lt_iff_toInt_lt, ← Int32.toInt_inj, nI_toInt, Int32.reduceToInt] <;> omega) | assumption | (simp (disch := omega) only [isT, isP, two, Int32.toInt_sub, Int.bmod_def, true_and, and_true, false_and, and_false, or_false, false_or, or_true, true_or, not_true_eq_false, not_false_eq_true, ev, ew, e1, mpa_0, mpa_1, mpa_2, mpa_9, mpa_10, mpa_11, mpa_12, Int32.reduceToNatClampNeg, Int32.le_iff_toInt_le, Int32.lt_iff_toInt_lt, ← Int32.toInt_inj, nI_toInt, Int32.reduceToInt] at * <;> omega) | decide); conv => whnf)
          | ((with_reducible refine br_nt ?_ ?_); (· first | with_reducible assumption | (simp (disch := omega) only [true_and, and_true, false_and, and_false, or_false, false_or, or_true, true_or, not_true_eq_false, not_false_eq_true, ev, ew, e1, mpa_0, mpa_1, mpa_2, mpa_9, mpa_10, mpa_11, mpa_12, Int32.reduceToNatClampNeg, Int32.le_iff_toInt_le, Int32.lt_iff_toInt_lt, ← Int32.toInt_inj, nI_toInt, Int32.reduceToInt] <;> omega) | assumption | (simp (disch := omega) only [isT, isP, two, Int32.toInt_sub, Int.bmod_def, true_and, and_true, false_and, and_false, or_false, false_or, or_true, true_or, not_true_eq_false, not_false_eq_true, ev, ew, e1, mpa_0, mpa_1, mpa_2, mpa_9, mpa_10, mpa_11, mpa_12, Int32.reduceToNatClampNeg, Int32.le_iff_toInt_le, Int32.lt_iff_toInt_lt, ← Int32.toInt_inj, nI_toInt, Int32.reduceToInt] at * <;> omega) | decide); conv => whnf)
          | ((with_reducible refine br_nf ?_ ?_); (· first | with_reducible assumption | (simp (disch := omega) only [true_and, and_true, false_and, and_false, or_false, false_or, or_true, true_or, not_true_eq_false, not_false_eq_true, ev, ew, e1, mpa_0, mpa_1, mpa_2, mpa_9, mpa_10, mpa_11, mpa_12, Int32.reduceToNatClampNeg, Int32.le_iff_toInt_le, Int32.lt_iff_toInt_lt, ← Int32.toInt_inj, nI_toInt, Int32.reduceToInt] <;> omega) | assumption | (simp (disch := omega) only [isT, isP, two, Int32.toInt_sub, Int.bmod_def, true_and, and_true, false_and, and_false, or_false, false_or, or_true, true_or, not_true_eq_false, not_false_eq_true, ev, ew, e1, mpa_0, mpa_1, mpa_2, mpa_9, mpa_10, mpa_11, mpa_12, Int32.reduceToNatClampNeg, Int32.le_iff_toInt_le, Int32.lt_iff_toInt_lt, ← Int32.toInt_inj, nI_toInt, Int32.reduceToInt] at * <;> omega) | decide); conv => whnf)
          | ((with_reducible refine ckI ?_ ?_); (· first | ((with_reducible refine vp_in_nI ?_ ?_); (· omega); (· decide)) | exact vp_c (by decide) | exact ⟨_, rfl⟩ | exact Or.inl rfl | exact Or.inr rfl | exact b2_01 _); conv => whnf)
          | ((with_reducible apply cl_v); (case hM => with_reducible exact hRd); (case hc => exact rfl); (case hd => first | decide | omega); conv => whnf)
          | ((with_reducible apply cl_p); (case hM => with_reducible exact c9_within _ _ _ _ _); (case hc => exact rfl); (case hd => first | decide | omega); conv => whnf)
          | ((with_reducible apply cl_p); (case hM => with_reducible exact c9_finding1 _ _); (case hc => exact rfl); (case hd => first | decide | omega); conv => whnf)
          | ((with_reducible apply cl_p); (case hM => with_reducible exact c9_finding2 _ _); (case hc => exact rfl); (case hd => first | decide | omega); conv => whnf)
          | ((with_reducible apply cl_p); (case hM => with_reducible exact c9_finding3 _ _); (case hc => exact rfl); (case hd => first | decide | omega); conv => whnf)
          | ((with_reducible apply cl_p); (case hM => with_reducible exact c9_finding4 _ _); (case hc => exact rfl); (case hd => first | decide | omega); conv => whnf)
          | ((with_reducible apply cl_p); (case hM => with_reducible exact c9_finding5 _ _); (case hc => exact rfl); (case hd => first | decide | omega); conv => whnf)
          | ((with_reducible refine ckJ ?_ ?_); conv => whnf)
          | fail
      all_goals exact fin
  · rw [if_neg hu]
    clear eb en hn hnn hW
    refine Mt_of ck_X9_text mf_142 rfl ?_
    repeat' first
        | ((with_reducible refine gow ck_X9_text _ [67] ?_); conv => whnf)
        | ((with_reducible refine bn_t ?_ ?_); (· first | with_reducible assumption | (simp (disch := omega) only [true_and, and_true, false_and, and_false, or_false, false_or, or_true, true_or, not_true_eq_false, not_false_eq_true, ev, ew, e1, mpa_0, mpa_1, mpa_2, mpa_9, mpa_10, mpa_11, mpa_12, Int32.reduceToNatClampNeg, Int32.le_iff_toInt_le, Int32.lt_iff_toInt_lt, ← Int32.toInt_inj, nI_toInt, Int32.reduceToInt] <;> omega) | assumption | (simp (disch := omega) only [isT, isP, two, Int32.toInt_sub, Int.bmod_def, true_and, and_true, false_and, and_false, or_false, false_or, or_true, true_or, not_true_eq_false, not_false_eq_true, ev, ew, e1, mpa_0, mpa_1, mpa_2, mpa_9, mpa_10, mpa_11, mpa_12, Int32.reduceToNatClampNeg, Int32.le_iff_toInt_le, Int32.lt_iff_toInt_lt, ← Int32.toInt_inj, nI_toInt, Int32.reduceToInt] at * <;> omega) | decide); conv => whnf)
        | ((with_reducible refine bn_f ?_ ?_); (· first | with_reducible assumption | (simp (disch := omega) only [true_and, and_true, false_and, and_false, or_false, false_or, or_true, true_or, not_true_eq_false, not_false_eq_true, ev, ew, e1, mpa_0, mpa_1, mpa_2, mpa_9, mpa_10, mpa_11, mpa_12, Int32.reduceToNatClampNeg, Int32.le_iff_toInt_le, Int32.lt_iff_toInt_lt, ← Int32.toInt_inj, nI_toInt, Int32.reduceToInt] <;> omega) | assumption | (simp (disch := omega) only [isT, isP, two, Int32.toInt_sub, Int.bmod_def, true_and, and_true, false_and, and_false, or_false, false_or, or_true, true_or, not_true_eq_false, not_false_eq_true, ev, ew, e1, mpa_0, mpa_1, mpa_2, mpa_9, mpa_10, mpa_11, mpa_12, Int32.reduceToNatClampNeg, Int32.le_iff_toInt_le, Int32.lt_iff_toInt_lt, ← Int32.toInt_inj, nI_toInt, Int32.reduceToInt] at * <;> omega) | decide); conv => whnf)
        | ((with_reducible refine bc_t ?_ ?_); (· first | with_reducible assumption | (simp (disch := omega) only [true_and, and_true, false_and, and_false, or_false, false_or, or_true, true_or, not_true_eq_false, not_false_eq_true, ev, ew, e1, mpa_0, mpa_1, mpa_2, mpa_9, mpa_10, mpa_11, mpa_12, Int32.reduceToNatClampNeg, Int32.le_iff_toInt_le, Int32.lt_iff_toInt_lt, ← Int32.toInt_inj, nI_toInt, Int32.reduceToInt] <;> omega) | assumption | (simp (disch := omega) only [isT, isP, two, Int32.toInt_sub, Int.bmod_def, true_and, and_true, false_and, and_false, or_false, false_or, or_true, true_or, not_true_eq_false, not_false_eq_true, ev, ew, e1, mpa_0, mpa_1, mpa_2, mpa_9, mpa_10, mpa_11, mpa_12, Int32.reduceToNatClampNeg, Int32.le_iff_toInt_le, Int32.lt_iff_toInt_lt, ← Int32.toInt_inj, nI_toInt, Int32.reduceToInt] at * <;> omega) | decide); conv => whnf)
        | ((with_reducible refine bc_f ?_ ?_); (· first | with_reducible assumption | (simp (disch := omega) only [true_and, and_true, false_and, and_false, or_false, false_or, or_true, true_or, not_true_eq_false, not_false_eq_true, ev, ew, e1, mpa_0, mpa_1, mpa_2, mpa_9, mpa_10, mpa_11, mpa_12, Int32.reduceToNatClampNeg, Int32.le_iff_toInt_le, Int32.lt_iff_toInt_lt, ← Int32.toInt_inj, nI_toInt, Int32.reduceToInt] <;> omega) | assumption | (simp (disch := omega) only [isT, isP, two, Int32.toInt_sub, Int.bmod_def, true_and, and_true, false_and, and_false, or_false, false_or, or_true, true_or, not_true_eq_false, not_false_eq_true, ev, ew, e1, mpa_0, mpa_1, mpa_2, mpa_9, mpa_10, mpa_11, mpa_12, Int32.reduceToNatClampNeg, Int32.le_iff_toInt_le, Int32.lt_iff_toInt_lt, ← Int32.toInt_inj, nI_toInt, Int32.reduceToInt] at * <;> omega) | decide); conv => whnf)
        | ((with_reducible refine br_t ?_ ?_); (· first | with_reducible assumption | (simp (disch := omega) only [true_and, and_true, false_and, and_false, or_false, false_or, or_true, true_or, not_true_eq_false, not_false_eq_true, ev, ew, e1, mpa_0, mpa_1, mpa_2, mpa_9, mpa_10, mpa_11, mpa_12, Int32.reduceToNatClampNeg, Int32.le_iff_toInt_le, Int32.lt_iff_toInt_lt, ← Int32.toInt_inj, nI_toInt, Int32.reduceToInt] <;> omega) | assumption | (simp (disch := omega) only [isT, isP, two, Int32.toInt_sub, Int.bmod_def, true_and, and_true, false_and, and_false, or_false, false_or, or_true, true_or, not_true_eq_false, not_false_eq_true, ev, ew, e1, mpa_0, mpa_1, mpa_2, mpa_9, mpa_10, mpa_11, mpa_12, Int32.reduceToNatClampNeg, Int32.le_iff_toInt_le, Int32.lt_iff_toInt_lt, ← Int32.toInt_inj, nI_toInt, Int32.reduceToInt] at * <;> omega) | decide); conv => whnf)
        | ((with_reducible refine br_f ?_ ?_); (· first | with_reducible assumption | (simp (disch := omega) only [true_and, and_true, false_and, and_false, or_false, false_or, or_true, true_or, not_true_eq_false, not_false_eq_true, ev, ew, e1, mpa_0, mpa_1, mpa_2, mpa_9, mpa_10, mpa_11, mpa_12, Int32.reduceToNatClampNeg, Int32.le_iff_toInt_le, Int32.lt_iff_toInt_lt, ← Int32.toInt_inj, nI_toInt, Int32.reduceToInt] <;> omega) | assumption | (simp (disch := omega) only [isT, isP, two, Int32.toInt_sub, Int.bmod_def, true_and, and_true, false_and, and_false, or_false, false_or, or_true, true_or, not_true_eq_false, not_false_eq_true, ev, ew, e1, mpa_0, mpa_1, mpa_2, mpa_9, mpa_10, mpa_11, mpa_12, Int32.reduceToNatClampNeg, Int32.le_iff_toInt_le, Int32.lt_iff_toInt_lt, ← Int32.toInt_inj, nI_toInt, Int32.reduceToInt] at * <;> omega) | decide); conv => whnf)
        | ((with_reducible refine br_nt ?_ ?_); (· first | with_reducible assumption | (simp (disch := omega) only [true_and, and_true, false_and, and_false, or_false, false_or, or_true, true_or, not_true_eq_false, not_false_eq_true, ev, ew, e1, mpa_0, mpa_1, mpa_2, mpa_9, mpa_10, mpa_11, mpa_12, Int32.reduceToNatClampNeg, Int32.le_iff_toInt_le, Int32.lt_iff_toInt_lt, ← Int32.toInt_inj, nI_toInt, Int32.reduceToInt] <;> omega) | assumption | (simp (disch := omega) only [isT, isP, two, Int32.toInt_sub, Int.bmod_def, true_and, and_true, false_and, and_false, or_false, false_or, or_true, true_or, not_true_eq_false, not_false_eq_true, ev, ew, e1, mpa_0, mpa_1, mpa_2, mpa_9, mpa_10, mpa_11, mpa_12, Int32.reduceToNatClampNeg, Int32.le_iff_toInt_le, Int32.lt_iff_toInt_lt, ← Int32.toInt_inj, nI_toInt, Int32.reduceToInt] at * <;> omega) | decide); conv => whnf)
        | ((with_reducible refine br_nf ?_ ?_); (· first | with_reducible assumption | (simp (disch := omega) only [true_and, and_true, false_and, and_false, or_false, false_or, or_true, true_or, not_true_eq_false, not_false_eq_true, ev, ew, e1, mpa_0, mpa_1, mpa_2, mpa_9, mpa_10, mpa_11, mpa_12, Int32.reduceToNatClampNeg, Int32.le_iff_toInt_le, Int32.lt_iff_toInt_lt, ← Int32.toInt_inj, nI_toInt, Int32.reduceToInt] <;> omega) | assumption | (simp (disch := omega) only [isT, isP, two, Int32.toInt_sub, Int.bmod_def, true_and, and_true, false_and, and_false, or_false, false_or, or_true, true_or, not_true_eq_false, not_false_eq_true, ev, ew, e1, mpa_0, mpa_1, mpa_2, mpa_9, mpa_10, mpa_11, mpa_12, Int32.reduceToNatClampNeg, Int32.le_iff_toInt_le, Int32.lt_iff_toInt_lt, ← Int32.toInt_inj, nI_toInt, Int32.reduceToInt] at * <;> omega) | decide); conv => whnf)
        | ((with_reducible refine ckI ?_ ?_); (· first | ((with_reducible refine vp_in_nI ?_ ?_); (· omega); (· decide)) | exact vp_c (by decide) | exact ⟨_, rfl⟩ | exact Or.inl rfl | exact Or.inr rfl | exact b2_01 _); conv => whnf)
        | ((with_reducible apply cl_p); (case hM => with_reducible exact c9_finding1 _ _); (case hc => exact rfl); (case hd => first | decide | omega); conv => whnf)
        | ((with_reducible apply cl_p); (case hM => with_reducible exact c9_finding2 _ _); (case hc => exact rfl); (case hd => first | decide | omega); conv => whnf)
        | ((with_reducible apply cl_p); (case hM => with_reducible exact c9_finding3 _ _); (case hc => exact rfl); (case hd => first | decide | omega); conv => whnf)
        | ((with_reducible apply cl_p); (case hM => with_reducible exact c9_finding4 _ _); (case hc => exact rfl); (case hd => first | decide | omega); conv => whnf)
        | ((with_reducible apply cl_p); (case hM => with_reducible exact c9_finding5 _ _); (case hc => exact rfl); (case hd => first | decide | omega); conv => whnf)
        | ((with_reducible apply cl_p); (case hM => with_reducible exact c9_within _ _ _ _ _); (case hc => exact rfl); (case hd => first | decide | omega); conv => whnf)
        | with_reducible refine Pm9.of ?_ ?_
        | ((with_reducible refine ckJ ?_ ?_); conv => whnf)
        | fail
    all_goals try simp (disch := omega) only [ev, ew, e1, e2, e3, nI_clamp, Int32.reduceToNatClampNeg]
    all_goals first | with_reducible rfl | with_reducible assumption | (simp (disch := omega) only [er, taIx, nI_toInt, Int.toNat_natCast, nI_clamp, mpa_0, mpa_1, mpa_2, mpa_3, mpa_9, mpa_10, mpa_11, mpa_12, mp70, mp71, mp72, mp73, mp79, mp80, mp81, mp82, wr_wr, wr_same, Int32.reduceToNatClampNeg, Int32.reduceToInt, Int.reduceToNat]; done) | (simp (disch := omega) only [er, taIx, nI_toInt, Int.toNat_natCast, nI_clamp, mpa_0, mpa_1, mpa_2, mpa_3, mpa_9, mpa_10, mpa_11, mpa_12, mp70, mp71, mp72, mp73, mp79, mp80, mp81, mp82, wr_wr, wr_same, Int32.reduceToNatClampNeg, Int32.reduceToInt, Int.reduceToNat]; with_reducible rfl) | (intro i hi; first | rfl | (simp (disch := omega) only [lo_wr, lo_sf]; done)) | decide | (refine vp_t ?_ ?_ <;> ((try simp (disch := omega) only [er, Int32.toInt_add, Int32.toInt_mul, Int32.toInt_sub, Int.bmod_def, Int32.reduceToInt, nI_toInt, Int32.reduceToNatClampNeg, ev, ew] at *); omega)) | rfl
