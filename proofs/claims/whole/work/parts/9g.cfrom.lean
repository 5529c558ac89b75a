abbrev M6 (μ : Mem) (f g : Nat → Int32) (e : Int32) : Mem := M5 μ f g (upd (μ 49) 6 e)
theorem mw6 {μ : Mem} {f g : Nat → Int32} {e x : Int32} : wr (M6 μ f g e) 49 6 x = M6 μ f g x := by
  show wr (M5 μ f g (upd (μ 49) 6 e)) 49 6 x = M5 μ f g (upd (μ 49) 6 x)
  rw [mw5, upd_upd]
theorem m6_0 {μ : Mem} {x : Int32} : wr μ 49 6 x = M6 μ (μ 16) (μ 20) x := by
  have h := M5_id (μ := μ)
  exact (congrArg (fun m => wr m 49 6 x) h).trans mw5
theorem m6_ne {μ : Mem} {f g : Nat → Int32} {e : Int32} {i : Nat} (h1 : i ≠ 16) (h2 : i ≠ 20) (h3 : i ≠ 49) : M6 μ f g e i = μ i := by
  show sd (sf μ 49 (upd (μ 49) 6 e)) f g i = μ i
  rw [sd_ne h1 h2, sf_ne h3]
theorem k5_rows_l (X : Cx) (μ : Mem) (N Q : Nat → Int32) (s z t : Nat) (hs : s < 4) (hz : z ≤ 5) (ht : t < 7) (hW : WN N) (hR : RW N μ 1) (ez : μ (61 + 2 * s) 1 = nI z) (eq : ∀ j, j < 40 → μ (62 + 2 * s) j = Q (40 * s + j)) (i c n : Nat) (hn : n ≤ 7) (e2 : N 1 = nI n) (hI : ∀ (b : Nat) (mk e : Int32) (f g : Nat → Int32), b < nP N → upto mk 0 255 → Mt X m_X5_rowsOn (i + 5) [.ref 49, .ref (61 + 2 * s), .ref (6 + t), .int (nI b), .int mk, .int (nI c + 1)] (M6 μ f g e) (fun r μ' => ∃ f' g', r = some (.int (rwl N Q s z t i b mk e).1) ∧ μ' = M6 μ f' g' (rwl N Q s z t i b mk e).2)) (b : Nat) (mk e0 : Int32) (hb7 : b < nP N) (hm : upto mk 0 255) (K : Option Value → Mem → Prop)
    (hK : ∀ f g : Nat → Int32, K (some (.int (fol (fun q p => if 0 < yd N b q then (p.1 + (rwl N Q s z t i q (gR N t mk (yd N b q) (nI b)) p.2).1, (rwl N Q s z t i q (gR N t mk (yd N b q) (nI b)) p.2).2) else (p.1 + 0, p.2)) n (0, e0)).1)) (M6 μ f g (fol (fun q p => if 0 < yd N b q then (p.1 + (rwl N Q s z t i q (gR N t mk (yd N b q) (nI b)) p.2).1, (rwl N Q s z t i q (gR N t mk (yd N b q) (nI b)) p.2).2) else (p.1 + 0, p.2)) n (0, e0)).2)) :
    ∀ k, k ≤ n → ∀ (a e : Int32) (f g : Nat → Int32) (w : Option Value), ((a, e) = fol (fun q p => if 0 < yd N b q then (p.1 + (rwl N Q s z t i q (gR N t mk (yd N b q) (nI b)) p.2).1, (rwl N Q s z t i q (gR N t mk (yd N b q) (nI b)) p.2).2) else (p.1 + 0, p.2)) k (0, e0)) → ∀ x, x = nI k → VW X m_X5_rowsOn (i + 6) K 32 [some (.ref 49), some (.ref (61 + 2 * s)), some (.ref (6 + t)), some (.int (nI b)), some (.int mk), some (.int (nI c)), some (.int a), some (.int x), w] [] (M6 μ f g e) := by
  refine dn_ind ?_ ?_
  · intro a e f g w hI2 x hx
    subst hx
    have e8 : μ 1 8 = nI n := hR.1.1.trans e2
    clear hW hR hI
    rw [← hI2] at hK
    refine gow ck_X5_rowsOn 32 [32] ?_
    conv => whnf
    repeat' first
      | ((with_reducible refine gow ck_X5_rowsOn _ [32] ?_); conv => whnf)
      | ((with_reducible refine bn_t ?_ ?_); (· first | with_reducible assumption | (simp (disch := omega) only [sd_ne, sf_ne, e8, true_and, and_true, false_and, and_false, or_false, false_or, or_true, true_or, not_true_eq_false, not_false_eq_true, ev, ew, e1, mpa_0, mpa_1, mpa_2, mpa_9, mpa_10, mpa_11, mpa_12, Int32.reduceToNatClampNeg, Int32.le_iff_toInt_le, Int32.lt_iff_toInt_lt, ← Int32.toInt_inj, nI_toInt, Int32.reduceToInt] <;> omega) | assumption | (simp (disch := omega) only [sd_ne, sf_ne, e8, isT, isP, two, Int32.toInt_sub, Int.bmod_def, true_and, and_true, false_and, and_false, or_false, false_or, or_true, true_or, not_true_eq_false, not_false_eq_true, ev, ew, e1, mpa_0, mpa_1, mpa_2, mpa_9, mpa_10, mpa_11, mpa_12, Int32.reduceToNatClampNeg, Int32.le_iff_toInt_le, Int32.lt_iff_toInt_lt, ← Int32.toInt_inj, nI_toInt, Int32.reduceToInt] at * <;> omega) | decide); conv => whnf)
      | ((with_reducible refine bn_f ?_ ?_); (· first | with_reducible assumption | (simp (disch := omega) only [sd_ne, sf_ne, e8, true_and, and_true, false_and, and_false, or_false, false_or, or_true, true_or, not_true_eq_false, not_false_eq_true, ev, ew, e1, mpa_0, mpa_1, mpa_2, mpa_9, mpa_10, mpa_11, mpa_12, Int32.reduceToNatClampNeg, Int32.le_iff_toInt_le, Int32.lt_iff_toInt_lt, ← Int32.toInt_inj, nI_toInt, Int32.reduceToInt] <;> omega) | assumption | (simp (disch := omega) only [sd_ne, sf_ne, e8, isT, isP, two, Int32.toInt_sub, Int.bmod_def, true_and, and_true, false_and, and_false, or_false, false_or, or_true, true_or, not_true_eq_false, not_false_eq_true, ev, ew, e1, mpa_0, mpa_1, mpa_2, mpa_9, mpa_10, mpa_11, mpa_12, Int32.reduceToNatClampNeg, Int32.le_iff_toInt_le, Int32.lt_iff_toInt_lt, ← Int32.toInt_inj, nI_toInt, Int32.reduceToInt] at * <;> omega) | decide); conv => whnf)
      | ((with_reducible refine bc_t ?_ ?_); (· first | with_reducible assumption | (simp (disch := omega) only [sd_ne, sf_ne, e8, true_and, and_true, false_and, and_false, or_false, false_or, or_true, true_or, not_true_eq_false, not_false_eq_true, ev, ew, e1, mpa_0, mpa_1, mpa_2, mpa_9, mpa_10, mpa_11, mpa_12, Int32.reduceToNatClampNeg, Int32.le_iff_toInt_le, Int32.lt_iff_toInt_lt, ← Int32.toInt_inj, nI_toInt, Int32.reduceToInt] <;> omega) | assumption | (simp (disch := omega) only [sd_ne, sf_ne, e8, isT, isP, two, Int32.toInt_sub, Int.bmod_def, true_and, and_true, false_and, and_false, or_false, false_or, or_true, true_or, not_true_eq_false, not_false_eq_true, ev, ew, e1, mpa_0, mpa_1, mpa_2, mpa_9, mpa_10, mpa_11, mpa_12, Int32.reduceToNatClampNeg, Int32.le_iff_toInt_le, Int32.lt_iff_toInt_lt, ← Int32.toInt_inj, nI_toInt, Int32.reduceToInt] at * <;> omega) | decide); conv => whnf)
      | ((with_reducible refine bc_f ?_ ?_); (· first | with_reducible assumption | (simp (disch := omega) only [sd_ne, sf_ne, e8, true_and, and_true, false_and, and_false, or_false, false_or, or_true, true_or, not_true_eq_false, not_false_eq_true, ev, ew, e1, mpa_0, mpa_1, mpa_2, mpa_9, mpa_10, mpa_11, mpa_12, Int32.reduceToNatClampNeg, Int32.le_iff_toInt_le, Int32.lt_iff_toInt_lt, ← Int32.toInt_inj, nI_toInt, Int32.reduceToInt] <;> omega) | assumption | (simp (disch := omega) only [sd_ne, sf_ne, e8, isT, isP, two, Int32.toInt_sub, Int.bmod_def, true_and, and_true, false_and, and_false, or_false, false_or, or_true, true_or, not_true_eq_false, not_false_eq_true, ev, ew, e1, mpa_0, mpa_1, mpa_2, mpa_9, mpa_10, mpa_11, mpa_12, Int32.reduceToNatClampNeg, Int32.le_iff_toInt_le, Int32.lt_iff_toInt_lt, ← Int32.toInt_inj, nI_toInt, Int32.reduceToInt] at * <;> omega) | decide); conv => whnf)
      | ((with_reducible refine br_t ?_ ?_); (· first | with_reducible assumption | (simp (disch := omega) only [sd_ne, sf_ne, e8, true_and, and_true, false_and, and_false, or_false, false_or, or_true, true_or, not_true_eq_false, not_false_eq_true, ev, ew, e1, mpa_0, mpa_1, mpa_2, mpa_9, mpa_10, mpa_11, mpa_12, Int32.reduceToNatClampNeg, Int32.le_iff_toInt_le, Int32.lt_iff_toInt_lt, ← Int32.toInt_inj, nI_toInt, Int32.reduceToInt] <;> omega) | assumption | (simp (disch := omega) only [sd_ne, sf_ne, e8, isT, isP, two, Int32.toInt_sub, Int.bmod_def, true_and, and_true, false_and, and_false, or_false, false_or, or_true, true_or, not_true_eq_false, not_false_eq_true, ev, ew, e1, mpa_0, mpa_1, mpa_2, mpa_9, mpa_10, mpa_11, mpa_12, Int32.reduceToNatClampNeg, Int32.le_iff_toInt_le, Int32.lt_iff_toInt_lt, ← Int32.toInt_inj, nI_toInt, Int32.reduceToInt] at * <;> omega) | decide); conv => whnf)
      | ((with_reducible refine br_f ?_ ?_); (· first | with_reducible assumption | (simp (disch := omega) only [sd_ne, sf_ne, e8, true_and, and_true, false_and, and_false, or_false, false_or, or_true, true_or, not_true_eq_false, not_false_eq_true, ev, ew, e1, mpa_0, mpa_1, mpa_2, mpa_9, mpa_10, mpa_11, mpa_12, Int32.reduceToNatClampNeg, Int32.le_iff_toInt_le, Int32.lt_iff_toInt_lt, ← Int32.toInt_inj, nI_toInt, Int32.reduceToInt] <;> omega) | assumption | (simp (disch := omega) only [sd_ne, sf_ne, e8, isT, isP, two, Int32.toInt_sub, Int.bmod_def, true_and, and_true, false_and, and_false, or_false, false_or, or_true, true_or, not_true_eq_false, not_false_eq_true, ev, ew, e1, mpa_0, mpa_1, mpa_2, mpa_9, mpa_10, mpa_11, mpa_12, Int32.reduceToNatClampNeg, Int32.le_iff_toInt_le, Int32.lt_iff_toInt_lt, ← Int32.toInt_inj, nI_toInt, Int32.reduceToInt] at * <;> omega) | decide); conv => whnf)
      | ((with_reducible refine br_nt ?_ ?_); (· first | with_reducible assumption | (simp (disch := omega) only [sd_ne, sf_ne, e8, true_and, and_true, false_and, and_false, or_false, false_or, or_true, true_or, not_true_eq_false, not_false_eq_true, ev, ew, e1, mpa_0, mpa_1, mpa_2, mpa_9, mpa_10, mpa_11, mpa_12, Int32.reduceToNatClampNeg, Int32.le_iff_toInt_le, Int32.lt_iff_toInt_lt, ← Int32.toInt_inj, nI_toInt, Int32.reduceToInt] <;> omega) | assumption | (simp (disch := omega) only [sd_ne, sf_ne, e8, isT, isP, two, Int32.toInt_sub, Int.bmod_def, true_and, and_true, false_and, and_false, or_false, false_or, or_true, true_or, not_true_eq_false, not_false_eq_true, ev, ew, e1, mpa_0, mpa_1, mpa_2, mpa_9, mpa_10, mpa_11, mpa_12, Int32.reduceToNatClampNeg, Int32.le_iff_toInt_le, Int32.lt_iff_toInt_lt, ← Int32.toInt_inj, nI_toInt, Int32.reduceToInt] at * <;> omega) | decide); conv => whnf)
      | ((with_reducible refine br_nf ?_ ?_); (· first | with_reducible assumption | (simp (disch := omega) only [sd_ne, sf_ne, e8, true_and, and_true, false_and, and_false, or_false, false_or, or_true, true_or, not_true_eq_false, not_false_eq_true, ev, ew, e1, mpa_0, mpa_1, mpa_2, mpa_9, mpa_10, mpa_11, mpa_12, Int32.reduceToNatClampNeg, Int32.le_iff_toInt_le, Int32.lt_iff_toInt_lt, ← Int32.toInt_inj, nI_toInt, Int32.reduceToInt] <;> omega) | assumption | (simp (disch := omega) only [sd_ne, sf_ne, e8, isT, isP, two, Int32.toInt_sub, Int.bmod_def, true_and, and_true, false_and, and_false, or_false, false_or, or_true, true_or, not_true_eq_false, not_false_eq_true, ev, ew, e1, mpa_0, mpa_1, mpa_2, mpa_9, mpa_10, mpa_11, mpa_12, Int32.reduceToNatClampNeg, Int32.le_iff_toInt_le, Int32.lt_iff_toInt_lt, ← Int32.toInt_inj, nI_toInt, Int32.reduceToInt] at * <;> omega) | decide); conv => whnf)
      | ((with_reducible refine bn_c (fun _ => ?_) (fun _ => ?_)) <;> conv => whnf)
      | ((with_reducible refine bc_c (fun _ => ?_) (fun _ => ?_)) <;> conv => whnf)
      | ((with_reducible refine br_c (fun _ => ?_) (fun _ => ?_)) <;> conv => whnf)
      | ((with_reducible refine br_n (fun _ => ?_) (fun _ => ?_)) <;> conv => whnf)
      | ((with_reducible refine ckI ?_ ?_); (· first | ((with_reducible refine vp_in_nI ?_ ?_); (· omega); (· decide)) | exact vp_c (by decide) | exact ⟨_, rfl⟩ | exact Or.inl rfl | exact Or.inr rfl | exact b2_01 _); conv => whnf)
      | ((with_reducible apply cl_p); (case hM => exact hO _ _ _); (case hc => exact rfl); (case hd => first | decide | omega); conv => whnf)
      | ((with_reducible apply cl_g); (case hM => exact hG _ _ _); (case hc => exact rfl); (case hd => first | decide | omega); intro f76 g77; conv => whnf)
      | ((with_reducible apply cl_g); (case hM => exact hJ _ _ _); (case hc => exact rfl); (case hd => first | decide | omega); intro f76 g77; conv => whnf)
      | ((rw [hsh]); conv => whnf)
      | ((with_reducible refine ckJ ?_ ?_); conv => whnf)
      | fail
    all_goals exact hK _ _
  · intro k hk ih a e f g w hI2 x hx
    subst hx
    have e8 : μ 1 8 = nI n := hR.1.1.trans e2
    have hP : nP N = n := by unfold nP; rw [e2, nI_toInt (by omega), Int.toNat_natCast]
    have hsh := shT ht
    have hb7' : b < 7 := by have := nP_7 hW; omega
    have hO := fun f g e => k7_ofRoadS X (sf μ 49 (upd (μ 49) 6 e)) N b k hb7 (by omega) hW (hR.m5 _) f g
    have hG := fun f g e => k7_marksB X (sf μ 49 (upd (μ 49) 6 e)) N t mk (yd N b k) (nI b) ht hm (yd_rng hW hb7' (b := k) (by omega)) hW (hR.m5 _) f g
    have hr := gR_rng (N := N) (t := t) (fr := nI b) hm (yd_rng hW hb7' (b := k) (by omega))
    have hJ : ∀ f g e, Mt X m_X5_rowsOn (i + 5) [.ref 49, .ref (61 + 2 * s), .ref (6 + t), .int (nI k), .int (gR N t mk (yd N b k) (nI b)), .int (nI c + 1)] (M6 μ f g e) (fun r μ' => ∃ f' g', r = some (.int (rwl N Q s z t i k (gR N t mk (yd N b k) (nI b)) e).1) ∧ μ' = M6 μ f' g' (rwl N Q s z t i k (gR N t mk (yd N b k) (nI b)) e).2) := by
      intro f g e
      exact hI _ _ e f g (by omega) hr
    clear hW hR hI hK eq
    all_goals (refine gow ck_X5_rowsOn 32 [32] ?_)
    all_goals (conv => whnf)
    all_goals repeat' first
      | (with_reducible refine at_h 32 ?_)
      | ((with_reducible refine gow ck_X5_rowsOn _ [32] ?_); conv => whnf)
      | ((with_reducible refine bn_t ?_ ?_); (· first | with_reducible assumption | (simp (disch := omega) only [sd_ne, sf_ne, e8, true_and, and_true, false_and, and_false, or_false, false_or, or_true, true_or, not_true_eq_false, not_false_eq_true, ev, ew, e1, mpa_0, mpa_1, mpa_2, mpa_9, mpa_10, mpa_11, mpa_12, Int32.reduceToNatClampNeg, Int32.le_iff_toInt_le, Int32.lt_iff_toInt_lt, ← Int32.toInt_inj, nI_toInt, Int32.reduceToInt] <;> omega) | assumption | (simp (disch := omega) only [sd_ne, sf_ne, e8, isT, isP, two, Int32.toInt_sub, Int.bmod_def, true_and, and_true, false_and, and_false, or_false, false_or, or_true, true_or, not_true_eq_false, not_false_eq_true, ev, ew, e1, mpa_0, mpa_1, mpa_2, mpa_9, mpa_10, mpa_11, mpa_12, Int32.reduceToNatClampNeg, Int32.le_iff_toInt_le, Int32.lt_iff_toInt_lt, ← Int32.toInt_inj, nI_toInt, Int32.reduceToInt] at * <;> omega) | decide); conv => whnf)
      | ((with_reducible refine bn_f ?_ ?_); (· first | with_reducible assumption | (simp (disch := omega) only [sd_ne, sf_ne, e8, true_and, and_true, false_and, and_false, or_false, false_or, or_true, true_or, not_true_eq_false, not_false_eq_true, ev, ew, e1, mpa_0, mpa_1, mpa_2, mpa_9, mpa_10, mpa_11, mpa_12, Int32.reduceToNatClampNeg, Int32.le_iff_toInt_le, Int32.lt_iff_toInt_lt, ← Int32.toInt_inj, nI_toInt, Int32.reduceToInt] <;> omega) | assumption | (simp (disch := omega) only [sd_ne, sf_ne, e8, isT, isP, two, Int32.toInt_sub, Int.bmod_def, true_and, and_true, false_and, and_false, or_false, false_or, or_true, true_or, not_true_eq_false, not_false_eq_true, ev, ew, e1, mpa_0, mpa_1, mpa_2, mpa_9, mpa_10, mpa_11, mpa_12, Int32.reduceToNatClampNeg, Int32.le_iff_toInt_le, Int32.lt_iff_toInt_lt, ← Int32.toInt_inj, nI_toInt, Int32.reduceToInt] at * <;> omega) | decide); conv => whnf)
      | ((with_reducible refine bc_t ?_ ?_); (· first | with_reducible assumption | (simp (disch := omega) only [sd_ne, sf_ne, e8, true_and, and_true, false_and, and_false, or_false, false_or, or_true, true_or, not_true_eq_false, not_false_eq_true, ev, ew, e1, mpa_0, mpa_1, mpa_2, mpa_9, mpa_10, mpa_11, mpa_12, Int32.reduceToNatClampNeg, Int32.le_iff_toInt_le, Int32.lt_iff_toInt_lt, ← Int32.toInt_inj, nI_toInt, Int32.reduceToInt] <;> omega) | assumption | (simp (disch := omega) only [sd_ne, sf_ne, e8, isT, isP, two, Int32.toInt_sub, Int.bmod_def, true_and, and_true, false_and, and_false, or_false, false_or, or_true, true_or, not_true_eq_false, not_false_eq_true, ev, ew, e1, mpa_0, mpa_1, mpa_2, mpa_9, mpa_10, mpa_11, mpa_12, Int32.reduceToNatClampNeg, Int32.le_iff_toInt_le, Int32.lt_iff_toInt_lt, ← Int32.toInt_inj, nI_toInt, Int32.reduceToInt] at * <;> omega) | decide); conv => whnf)
      | ((with_reducible refine bc_f ?_ ?_); (· first | with_reducible assumption | (simp (disch := omega) only [sd_ne, sf_ne, e8, true_and, and_true, false_and, and_false, or_false, false_or, or_true, true_or, not_true_eq_false, not_false_eq_true, ev, ew, e1, mpa_0, mpa_1, mpa_2, mpa_9, mpa_10, mpa_11, mpa_12, Int32.reduceToNatClampNeg, Int32.le_iff_toInt_le, Int32.lt_iff_toInt_lt, ← Int32.toInt_inj, nI_toInt, Int32.reduceToInt] <;> omega) | assumption | (simp (disch := omega) only [sd_ne, sf_ne, e8, isT, isP, two, Int32.toInt_sub, Int.bmod_def, true_and, and_true, false_and, and_false, or_false, false_or, or_true, true_or, not_true_eq_false, not_false_eq_true, ev, ew, e1, mpa_0, mpa_1, mpa_2, mpa_9, mpa_10, mpa_11, mpa_12, Int32.reduceToNatClampNeg, Int32.le_iff_toInt_le, Int32.lt_iff_toInt_lt, ← Int32.toInt_inj, nI_toInt, Int32.reduceToInt] at * <;> omega) | decide); conv => whnf)
      | ((with_reducible refine br_t ?_ ?_); (· first | with_reducible assumption | (simp (disch := omega) only [sd_ne, sf_ne, e8, true_and, and_true, false_and, and_false, or_false, false_or, or_true, true_or, not_true_eq_false, not_false_eq_true, ev, ew, e1, mpa_0, mpa_1, mpa_2, mpa_9, mpa_10, mpa_11, mpa_12, Int32.reduceToNatClampNeg, Int32.le_iff_toInt_le, Int32.lt_iff_toInt_lt, ← Int32.toInt_inj, nI_toInt, Int32.reduceToInt] <;> omega) | assumption | (simp (disch := omega) only [sd_ne, sf_ne, e8, isT, isP, two, Int32.toInt_sub, Int.bmod_def, true_and, and_true, false_and, and_false, or_false, false_or, or_true, true_or, not_true_eq_false, not_false_eq_true, ev, ew, e1, mpa_0, mpa_1, mpa_2, mpa_9, mpa_10, mpa_11, mpa_12, Int32.reduceToNatClampNeg, Int32.le_iff_toInt_le, Int32.lt_iff_toInt_lt, ← Int32.toInt_inj, nI_toInt, Int32.reduceToInt] at * <;> omega) | decide); conv => whnf)
      | ((with_reducible refine br_f ?_ ?_); (· first | with_reducible assumption | (simp (disch := omega) only [sd_ne, sf_ne, e8, true_and, and_true, false_and, and_false, or_false, false_or, or_true, true_or, not_true_eq_false, not_false_eq_true, ev, ew, e1, mpa_0, mpa_1, mpa_2, mpa_9, mpa_10, mpa_11, mpa_12, Int32.reduceToNatClampNeg, Int32.le_iff_toInt_le, Int32.lt_iff_toInt_lt, ← Int32.toInt_inj, nI_toInt, Int32.reduceToInt] <;> omega) | assumption | (simp (disch := omega) only [sd_ne, sf_ne, e8, isT, isP, two, Int32.toInt_sub, Int.bmod_def, true_and, and_true, false_and, and_false, or_false, false_or, or_true, true_or, not_true_eq_false, not_false_eq_true, ev, ew, e1, mpa_0, mpa_1, mpa_2, mpa_9, mpa_10, mpa_11, mpa_12, Int32.reduceToNatClampNeg, Int32.le_iff_toInt_le, Int32.lt_iff_toInt_lt, ← Int32.toInt_inj, nI_toInt, Int32.reduceToInt] at * <;> omega) | decide); conv => whnf)
      | ((with_reducible refine br_nt ?_ ?_); (· first | with_reducible assumption | (simp (disch := omega) only [sd_ne, sf_ne, e8, true_and, and_true, false_and, and_false, or_false, false_or, or_true, true_or, not_true_eq_false, not_false_eq_true, ev, ew, e1, mpa_0, mpa_1, mpa_2, mpa_9, mpa_10, mpa_11, mpa_12, Int32.reduceToNatClampNeg, Int32.le_iff_toInt_le, Int32.lt_iff_toInt_lt, ← Int32.toInt_inj, nI_toInt, Int32.reduceToInt] <;> omega) | assumption | (simp (disch := omega) only [sd_ne, sf_ne, e8, isT, isP, two, Int32.toInt_sub, Int.bmod_def, true_and, and_true, false_and, and_false, or_false, false_or, or_true, true_or, not_true_eq_false, not_false_eq_true, ev, ew, e1, mpa_0, mpa_1, mpa_2, mpa_9, mpa_10, mpa_11, mpa_12, Int32.reduceToNatClampNeg, Int32.le_iff_toInt_le, Int32.lt_iff_toInt_lt, ← Int32.toInt_inj, nI_toInt, Int32.reduceToInt] at * <;> omega) | decide); conv => whnf)
      | ((with_reducible refine br_nf ?_ ?_); (· first | with_reducible assumption | (simp (disch := omega) only [sd_ne, sf_ne, e8, true_and, and_true, false_and, and_false, or_false, false_or, or_true, true_or, not_true_eq_false, not_false_eq_true, ev, ew, e1, mpa_0, mpa_1, mpa_2, mpa_9, mpa_10, mpa_11, mpa_12, Int32.reduceToNatClampNeg, Int32.le_iff_toInt_le, Int32.lt_iff_toInt_lt, ← Int32.toInt_inj, nI_toInt, Int32.reduceToInt] <;> omega) | assumption | (simp (disch := omega) only [sd_ne, sf_ne, e8, isT, isP, two, Int32.toInt_sub, Int.bmod_def, true_and, and_true, false_and, and_false, or_false, false_or, or_true, true_or, not_true_eq_false, not_false_eq_true, ev, ew, e1, mpa_0, mpa_1, mpa_2, mpa_9, mpa_10, mpa_11, mpa_12, Int32.reduceToNatClampNeg, Int32.le_iff_toInt_le, Int32.lt_iff_toInt_lt, ← Int32.toInt_inj, nI_toInt, Int32.reduceToInt] at * <;> omega) | decide); conv => whnf)
      | ((with_reducible refine bn_c (fun _ => ?_) (fun _ => ?_)) <;> conv => whnf)
      | ((with_reducible refine bc_c (fun _ => ?_) (fun _ => ?_)) <;> conv => whnf)
      | ((with_reducible refine br_c (fun _ => ?_) (fun _ => ?_)) <;> conv => whnf)
      | ((with_reducible refine br_n (fun _ => ?_) (fun _ => ?_)) <;> conv => whnf)
      | ((with_reducible refine ckI ?_ ?_); (· first | ((with_reducible refine vp_in_nI ?_ ?_); (· omega); (· decide)) | exact vp_c (by decide) | exact ⟨_, rfl⟩ | exact Or.inl rfl | exact Or.inr rfl | exact b2_01 _); conv => whnf)
      | ((with_reducible apply cl_p); (case hM => exact hO _ _ _); (case hc => exact rfl); (case hd => first | decide | omega); conv => whnf)
      | ((with_reducible apply cl_g); (case hM => exact hG _ _ _); (case hc => exact rfl); (case hd => first | decide | omega); intro f76 g77; conv => whnf)
      | ((with_reducible apply cl_g); (case hM => exact hJ _ _ _); (case hc => exact rfl); (case hd => first | decide | omega); intro f76 g77; conv => whnf)
      | ((rw [hsh]); conv => whnf)
      | ((with_reducible refine ckJ ?_ ?_); conv => whnf)
      | fail
    all_goals first
      | exact rcT ht
      | exact ih _ _ _ _ _ (by simp only [fol]; rw [← hI2]; first | rw [if_pos (i_nle (by assumption))] | (rw [if_neg (i_le (by assumption))]; simp only [Int32.add_zero])) _ (nI_1 k)
theorem k5_rowsOn (X : Cx) (μ : Mem) (N Q : Nat → Int32) (s z t : Nat) (hs : s < 4) (hz : z ≤ 5) (ht : t < 7) (hW : WN N) (hR : RW N μ 1) (ez : μ (61 + 2 * s) 1 = nI z) (eq : ∀ j, j < 40 → μ (62 + 2 * s) j = Q (40 * s + j)) : ∀ i, i < z → ∀ (b : Nat) (mk e : Int32) (f g : Nat → Int32), b < nP N → upto mk 0 255 → Mt X m_X5_rowsOn (i + 5) [.ref 49, .ref (61 + 2 * s), .ref (6 + t), .int (nI b), .int mk, .int (nI (z - 1 - i))] (M6 μ f g e) (fun r μ' => ∃ f' g', r = some (.int (rwl N Q s z t i b mk e).1) ∧ μ' = M6 μ f' g' (rwl N Q s z t i b mk e).2) := by
  intro i
  induction i with
  | zero =>
    intro hi b mk e f g hb7 hm
    have hc : z - 1 - 0 = z - 1 := rfl
    have hcz : z - 1 + 1 = z := by omega
    rw [hc]
    have hcl : z - 1 < 40 := by omega
    generalize hcc : z - 1 = c at hcz hcl
    have hss := shS hs
    have hsn := shN hs
    have zf1 : ∀ f g, M6 μ f g e (61 + 2 * s) 1 = nI z := fun f g => by rw [m6_ne (by omega) (by omega) (by omega)]; exact ez
    have hlt : nI c < M6 μ f g e (61 + 2 * s) 1 := by rw [zf1]; exact nI_lt (by omega) (by omega)
    have hhas : ((0 ≤ nI c ∧ nI c < M6 μ f g e (61 + 2 * s) 1) ∧ nI c < 40) := ⟨⟨nI_pos' (by omega), hlt⟩, by
      simp only [Int32.lt_iff_toInt_lt, Int32.reduceToInt]
      rw [nI_toInt (by omega)]
      omega⟩
    have hNb : Mt X m_X2_numberAt 0 [.ref (61 + 2 * s), .int (nI c)] (M6 μ f g e) (fun r μ' => r = some (.int (Q (40 * s + c))) ∧ μ' = M6 μ f g e) := by
      have h := k2_numberAt X (M6 μ f g e) s c hs (by omega) hlt
      rw [show M6 μ f g e (62 + 2 * s) = μ (62 + 2 * s) from m6_ne (by omega) (by omega) (by omega), eq c (by omega)] at h
      exact h
    have hr : rwl N Q s z t 0 b mk e = if Q (40 * s + c) = mk then (1, mn e (nI b)) else (0, e) := by rw [← hcc]; rfl
    rw [hr]
    clear hW hR hr eq
    by_cases hq : Q (40 * s + c) = mk
    · rw [if_pos hq]
      refine Mt_of ck_X5_rowsOn mf_45 rfl ?_
      repeat' first
        | ((with_reducible refine gow ck_X5_rowsOn _ [] ?_); conv => whnf)
        | ((with_reducible refine bn_t ?_ ?_); (· first | with_reducible assumption | (simp (disch := omega) only [zf1, nI_1, true_and, and_true, false_and, and_false, or_false, false_or, or_true, true_or, not_true_eq_false, not_false_eq_true, ev, ew, e1, mpa_0, mpa_1, mpa_2, mpa_9, mpa_10, mpa_11, mpa_12, Int32.reduceToNatClampNeg, Int32.le_iff_toInt_le, Int32.lt_iff_toInt_lt, ← Int32.toInt_inj, nI_toInt, Int32.reduceToInt] <;> omega) | assumption | (simp (disch := omega) only [zf1, nI_1, isT, isP, two, Int32.toInt_sub, Int.bmod_def, true_and, and_true, false_and, and_false, or_false, false_or, or_true, true_or, not_true_eq_false, not_false_eq_true, ev, ew, e1, mpa_0, mpa_1, mpa_2, mpa_9, mpa_10, mpa_11, mpa_12, Int32.reduceToNatClampNeg, Int32.le_iff_toInt_le, Int32.lt_iff_toInt_lt, ← Int32.toInt_inj, nI_toInt, Int32.reduceToInt] at * <;> omega) | decide); conv => whnf)
        | ((with_reducible refine bn_f ?_ ?_); (· first | with_reducible assumption | (simp (disch := omega) only [zf1, nI_1, true_and, and_true, false_and, and_false, or_false, false_or, or_true, true_or, not_true_eq_false, not_false_eq_true, ev, ew, e1, mpa_0, mpa_1, mpa_2, mpa_9, mpa_10, mpa_11, mpa_12, Int32.reduceToNatClampNeg, Int32.le_iff_toInt_le, Int32.lt_iff_toInt_lt, ← Int32.toInt_inj, nI_toInt, Int32.reduceToInt] <;> omega) | assumption | (simp (disch := omega) only [zf1, nI_1, isT, isP, two, Int32.toInt_sub, Int.bmod_def, true_and, and_true, false_and, and_false, or_false, false_or, or_true, true_or, not_true_eq_false, not_false_eq_true, ev, ew, e1, mpa_0, mpa_1, mpa_2, mpa_9, mpa_10, mpa_11, mpa_12, Int32.reduceToNatClampNeg, Int32.le_iff_toInt_le, Int32.lt_iff_toInt_lt, ← Int32.toInt_inj, nI_toInt, Int32.reduceToInt] at * <;> omega) | decide); conv => whnf)
        | ((with_reducible refine bc_t ?_ ?_); (· first | with_reducible assumption | (simp (disch := omega) only [zf1, nI_1, true_and, and_true, false_and, and_false, or_false, false_or, or_true, true_or, not_true_eq_false, not_false_eq_true, ev, ew, e1, mpa_0, mpa_1, mpa_2, mpa_9, mpa_10, mpa_11, mpa_12, Int32.reduceToNatClampNeg, Int32.le_iff_toInt_le, Int32.lt_iff_toInt_lt, ← Int32.toInt_inj, nI_toInt, Int32.reduceToInt] <;> omega) | assumption | (simp (disch := omega) only [zf1, nI_1, isT, isP, two, Int32.toInt_sub, Int.bmod_def, true_and, and_true, false_and, and_false, or_false, false_or, or_true, true_or, not_true_eq_false, not_false_eq_true, ev, ew, e1, mpa_0, mpa_1, mpa_2, mpa_9, mpa_10, mpa_11, mpa_12, Int32.reduceToNatClampNeg, Int32.le_iff_toInt_le, Int32.lt_iff_toInt_lt, ← Int32.toInt_inj, nI_toInt, Int32.reduceToInt] at * <;> omega) | decide); conv => whnf)
        | ((with_reducible refine bc_f ?_ ?_); (· first | with_reducible assumption | (simp (disch := omega) only [zf1, nI_1, true_and, and_true, false_and, and_false, or_false, false_or, or_true, true_or, not_true_eq_false, not_false_eq_true, ev, ew, e1, mpa_0, mpa_1, mpa_2, mpa_9, mpa_10, mpa_11, mpa_12, Int32.reduceToNatClampNeg, Int32.le_iff_toInt_le, Int32.lt_iff_toInt_lt, ← Int32.toInt_inj, nI_toInt, Int32.reduceToInt] <;> omega) | assumption | (simp (disch := omega) only [zf1, nI_1, isT, isP, two, Int32.toInt_sub, Int.bmod_def, true_and, and_true, false_and, and_false, or_false, false_or, or_true, true_or, not_true_eq_false, not_false_eq_true, ev, ew, e1, mpa_0, mpa_1, mpa_2, mpa_9, mpa_10, mpa_11, mpa_12, Int32.reduceToNatClampNeg, Int32.le_iff_toInt_le, Int32.lt_iff_toInt_lt, ← Int32.toInt_inj, nI_toInt, Int32.reduceToInt] at * <;> omega) | decide); conv => whnf)
        | ((with_reducible refine br_t ?_ ?_); (· first | with_reducible assumption | (simp (disch := omega) only [zf1, nI_1, true_and, and_true, false_and, and_false, or_false, false_or, or_true, true_or, not_true_eq_false, not_false_eq_true, ev, ew, e1, mpa_0, mpa_1, mpa_2, mpa_9, mpa_10, mpa_11, mpa_12, Int32.reduceToNatClampNeg, Int32.le_iff_toInt_le, Int32.lt_iff_toInt_lt, ← Int32.toInt_inj, nI_toInt, Int32.reduceToInt] <;> omega) | assumption | (simp (disch := omega) only [zf1, nI_1, isT, isP, two, Int32.toInt_sub, Int.bmod_def, true_and, and_true, false_and, and_false, or_false, false_or, or_true, true_or, not_true_eq_false, not_false_eq_true, ev, ew, e1, mpa_0, mpa_1, mpa_2, mpa_9, mpa_10, mpa_11, mpa_12, Int32.reduceToNatClampNeg, Int32.le_iff_toInt_le, Int32.lt_iff_toInt_lt, ← Int32.toInt_inj, nI_toInt, Int32.reduceToInt] at * <;> omega) | decide); conv => whnf)
        | ((with_reducible refine br_f ?_ ?_); (· first | with_reducible assumption | (simp (disch := omega) only [zf1, nI_1, true_and, and_true, false_and, and_false, or_false, false_or, or_true, true_or, not_true_eq_false, not_false_eq_true, ev, ew, e1, mpa_0, mpa_1, mpa_2, mpa_9, mpa_10, mpa_11, mpa_12, Int32.reduceToNatClampNeg, Int32.le_iff_toInt_le, Int32.lt_iff_toInt_lt, ← Int32.toInt_inj, nI_toInt, Int32.reduceToInt] <;> omega) | assumption | (simp (disch := omega) only [zf1, nI_1, isT, isP, two, Int32.toInt_sub, Int.bmod_def, true_and, and_true, false_and, and_false, or_false, false_or, or_true, true_or, not_true_eq_false, not_false_eq_true, ev, ew, e1, mpa_0, mpa_1, mpa_2, mpa_9, mpa_10, mpa_11, mpa_12, Int32.reduceToNatClampNeg, Int32.le_iff_toInt_le, Int32.lt_iff_toInt_lt, ← Int32.toInt_inj, nI_toInt, Int32.reduceToInt] at * <;> omega) | decide); conv => whnf)
        | ((with_reducible refine br_nt ?_ ?_); (· first | with_reducible assumption | (simp (disch := omega) only [zf1, nI_1, true_and, and_true, false_and, and_false, or_false, false_or, or_true, true_or, not_true_eq_false, not_false_eq_true, ev, ew, e1, mpa_0, mpa_1, mpa_2, mpa_9, mpa_10, mpa_11, mpa_12, Int32.reduceToNatClampNeg, Int32.le_iff_toInt_le, Int32.lt_iff_toInt_lt, ← Int32.toInt_inj, nI_toInt, Int32.reduceToInt] <;> omega) | assumption | (simp (disch := omega) only [zf1, nI_1, isT, isP, two, Int32.toInt_sub, Int.bmod_def, true_and, and_true, false_and, and_false, or_false, false_or, or_true, true_or, not_true_eq_false, not_false_eq_true, ev, ew, e1, mpa_0, mpa_1, mpa_2, mpa_9, mpa_10, mpa_11, mpa_12, Int32.reduceToNatClampNeg, Int32.le_iff_toInt_le, Int32.lt_iff_toInt_lt, ← Int32.toInt_inj, nI_toInt, Int32.reduceToInt] at * <;> omega) | decide); conv => whnf)
        | ((with_reducible refine br_nf ?_ ?_); (· first | with_reducible assumption | (simp (disch := omega) only [zf1, nI_1, true_and, and_true, false_and, and_false, or_false, false_or, or_true, true_or, not_true_eq_false, not_false_eq_true, ev, ew, e1, mpa_0, mpa_1, mpa_2, mpa_9, mpa_10, mpa_11, mpa_12, Int32.reduceToNatClampNeg, Int32.le_iff_toInt_le, Int32.lt_iff_toInt_lt, ← Int32.toInt_inj, nI_toInt, Int32.reduceToInt] <;> omega) | assumption | (simp (disch := omega) only [zf1, nI_1, isT, isP, two, Int32.toInt_sub, Int.bmod_def, true_and, and_true, false_and, and_false, or_false, false_or, or_true, true_or, not_true_eq_false, not_false_eq_true, ev, ew, e1, mpa_0, mpa_1, mpa_2, mpa_9, mpa_10, mpa_11, mpa_12, Int32.reduceToNatClampNeg, Int32.le_iff_toInt_le, Int32.lt_iff_toInt_lt, ← Int32.toInt_inj, nI_toInt, Int32.reduceToInt] at * <;> omega) | decide); conv => whnf)
        | ((with_reducible refine ckI ?_ ?_); (· first | ((with_reducible refine vp_in_nI ?_ ?_); (· omega); (· decide)) | exact vp_c (by decide) | exact ⟨_, rfl⟩ | exact Or.inl rfl | exact Or.inr rfl | exact b2_01 _); conv => whnf)
        | ((with_reducible apply cl_p); (case hM => with_reducible exact k2_has _ _ s _ hs); (case hc => exact rfl); (case hd => first | decide | omega); conv => whnf)
        | ((with_reducible apply cl_p); (case hM => exact hNb); (case hc => exact rfl); (case hd => first | decide | omega); conv => whnf)
        | ((rw [hss]); conv => whnf)
        | ((rw [hsn]); conv => whnf)
        | ((rw [hsh]); conv => whnf)
        | ((with_reducible refine ckJ ?_ ?_); conv => whnf)
        | fail
      all_goals first
        | exact rcS hs
        | (rw [mw6]; exact ⟨f, g, rfl, rfl⟩)
    · rw [if_neg hq]
      refine Mt_of ck_X5_rowsOn mf_45 rfl ?_
      repeat' first
        | ((with_reducible refine gow ck_X5_rowsOn _ [] ?_); conv => whnf)
        | ((with_reducible refine bn_t ?_ ?_); (· first | with_reducible assumption | (simp (disch := omega) only [zf1, nI_1, true_and, and_true, false_and, and_false, or_false, false_or, or_true, true_or, not_true_eq_false, not_false_eq_true, ev, ew, e1, mpa_0, mpa_1, mpa_2, mpa_9, mpa_10, mpa_11, mpa_12, Int32.reduceToNatClampNeg, Int32.le_iff_toInt_le, Int32.lt_iff_toInt_lt, ← Int32.toInt_inj, nI_toInt, Int32.reduceToInt] <;> omega) | assumption | (simp (disch := omega) only [zf1, nI_1, isT, isP, two, Int32.toInt_sub, Int.bmod_def, true_and, and_true, false_and, and_false, or_false, false_or, or_true, true_or, not_true_eq_false, not_false_eq_true, ev, ew, e1, mpa_0, mpa_1, mpa_2, mpa_9, mpa_10, mpa_11, mpa_12, Int32.reduceToNatClampNeg, Int32.le_iff_toInt_le, Int32.lt_iff_toInt_lt, ← Int32.toInt_inj, nI_toInt, Int32.reduceToInt] at * <;> omega) | decide); conv => whnf)
        | ((with_reducible refine bn_f ?_ ?_); (· first | with_reducible assumption | (simp (disch := omega) only [zf1, nI_1, true_and, and_true, false_and, and_false, or_false, false_or, or_true, true_or, not_true_eq_false, not_false_eq_true, ev, ew, e1, mpa_0, mpa_1, mpa_2, mpa_9, mpa_10, mpa_11, mpa_12, Int32.reduceToNatClampNeg, Int32.le_iff_toInt_le, Int32.lt_iff_toInt_lt, ← Int32.toInt_inj, nI_toInt, Int32.reduceToInt] <;> omega) | assumption | (simp (disch := omega) only [zf1, nI_1, isT, isP, two, Int32.toInt_sub, Int.bmod_def, true_and, and_true, false_and, and_false, or_false, false_or, or_true, true_or, not_true_eq_false, not_false_eq_true, ev, ew, e1, mpa_0, mpa_1, mpa_2, mpa_9, mpa_10, mpa_11, mpa_12, Int32.reduceToNatClampNeg, Int32.le_iff_toInt_le, Int32.lt_iff_toInt_lt, ← Int32.toInt_inj, nI_toInt, Int32.reduceToInt] at * <;> omega) | decide); conv => whnf)
        | ((with_reducible refine bc_t ?_ ?_); (· first | with_reducible assumption | (simp (disch := omega) only [zf1, nI_1, true_and, and_true, false_and, and_false, or_false, false_or, or_true, true_or, not_true_eq_false, not_false_eq_true, ev, ew, e1, mpa_0, mpa_1, mpa_2, mpa_9, mpa_10, mpa_11, mpa_12, Int32.reduceToNatClampNeg, Int32.le_iff_toInt_le, Int32.lt_iff_toInt_lt, ← Int32.toInt_inj, nI_toInt, Int32.reduceToInt] <;> omega) | assumption | (simp (disch := omega) only [zf1, nI_1, isT, isP, two, Int32.toInt_sub, Int.bmod_def, true_and, and_true, false_and, and_false, or_false, false_or, or_true, true_or, not_true_eq_false, not_false_eq_true, ev, ew, e1, mpa_0, mpa_1, mpa_2, mpa_9, mpa_10, mpa_11, mpa_12, Int32.reduceToNatClampNeg, Int32.le_iff_toInt_le, Int32.lt_iff_toInt_lt, ← Int32.toInt_inj, nI_toInt, Int32.reduceToInt] at * <;> omega) | decide); conv => whnf)
        | ((with_reducible refine bc_f ?_ ?_); (· first | with_reducible assumption | (simp (disch := omega) only [zf1, nI_1, true_and, and_true, false_and, and_false, or_false, false_or, or_true, true_or, not_true_eq_false, not_false_eq_true, ev, ew, e1, mpa_0, mpa_1, mpa_2, mpa_9, mpa_10, mpa_11, mpa_12, Int32.reduceToNatClampNeg, Int32.le_iff_toInt_le, Int32.lt_iff_toInt_lt, ← Int32.toInt_inj, nI_toInt, Int32.reduceToInt] <;> omega) | assumption | (simp (disch := omega) only [zf1, nI_1, isT, isP, two, Int32.toInt_sub, Int.bmod_def, true_and, and_true, false_and, and_false, or_false, false_or, or_true, true_or, not_true_eq_false, not_false_eq_true, ev, ew, e1, mpa_0, mpa_1, mpa_2, mpa_9, mpa_10, mpa_11, mpa_12, Int32.reduceToNatClampNeg, Int32.le_iff_toInt_le, Int32.lt_iff_toInt_lt, ← Int32.toInt_inj, nI_toInt, Int32.reduceToInt] at * <;> omega) | decide); conv => whnf)
        | ((with_reducible refine br_t ?_ ?_); (· first | with_reducible assumption | (simp (disch := omega) only [zf1, nI_1, true_and, and_true, false_and, and_false, or_false, false_or, or_true, true_or, not_true_eq_false, not_false_eq_true, ev, ew, e1, mpa_0, mpa_1, mpa_2, mpa_9, mpa_10, mpa_11, mpa_12, Int32.reduceToNatClampNeg, Int32.le_iff_toInt_le, Int32.lt_iff_toInt_lt, ← Int32.toInt_inj, nI_toInt, Int32.reduceToInt] <;> omega) | assumption | (simp (disch := omega) only [zf1, nI_1, isT, isP, two, Int32.toInt_sub, Int.bmod_def, true_and, and_true, false_and, and_false, or_false, false_or, or_true, true_or, not_true_eq_false, not_false_eq_true, ev, ew, e1, mpa_0, mpa_1, mpa_2, mpa_9, mpa_10, mpa_11, mpa_12, Int32.reduceToNatClampNeg, Int32.le_iff_toInt_le, Int32.lt_iff_toInt_lt, ← Int32.toInt_inj, nI_toInt, Int32.reduceToInt] at * <;> omega) | decide); conv => whnf)
        | ((with_reducible refine br_f ?_ ?_); (· first | with_reducible assumption | (simp (disch := omega) only [zf1, nI_1, true_and, and_true, false_and, and_false, or_false, false_or, or_true, true_or, not_true_eq_false, not_false_eq_true, ev, ew, e1, mpa_0, mpa_1, mpa_2, mpa_9, mpa_10, mpa_11, mpa_12, Int32.reduceToNatClampNeg, Int32.le_iff_toInt_le, Int32.lt_iff_toInt_lt, ← Int32.toInt_inj, nI_toInt, Int32.reduceToInt] <;> omega) | assumption | (simp (disch := omega) only [zf1, nI_1, isT, isP, two, Int32.toInt_sub, Int.bmod_def, true_and, and_true, false_and, and_false, or_false, false_or, or_true, true_or, not_true_eq_false, not_false_eq_true, ev, ew, e1, mpa_0, mpa_1, mpa_2, mpa_9, mpa_10, mpa_11, mpa_12, Int32.reduceToNatClampNeg, Int32.le_iff_toInt_le, Int32.lt_iff_toInt_lt, ← Int32.toInt_inj, nI_toInt, Int32.reduceToInt] at * <;> omega) | decide); conv => whnf)
        | ((with_reducible refine br_nt ?_ ?_); (· first | with_reducible assumption | (simp (disch := omega) only [zf1, nI_1, true_and, and_true, false_and, and_false, or_false, false_or, or_true, true_or, not_true_eq_false, not_false_eq_true, ev, ew, e1, mpa_0, mpa_1, mpa_2, mpa_9, mpa_10, mpa_11, mpa_12, Int32.reduceToNatClampNeg, Int32.le_iff_toInt_le, Int32.lt_iff_toInt_lt, ← Int32.toInt_inj, nI_toInt, Int32.reduceToInt] <;> omega) | assumption | (simp (disch := omega) only [zf1, nI_1, isT, isP, two, Int32.toInt_sub, Int.bmod_def, true_and, and_true, false_and, and_false, or_false, false_or, or_true, true_or, not_true_eq_false, not_false_eq_true, ev, ew, e1, mpa_0, mpa_1, mpa_2, mpa_9, mpa_10, mpa_11, mpa_12, Int32.reduceToNatClampNeg, Int32.le_iff_toInt_le, Int32.lt_iff_toInt_lt, ← Int32.toInt_inj, nI_toInt, Int32.reduceToInt] at * <;> omega) | decide); conv => whnf)
        | ((with_reducible refine br_nf ?_ ?_); (· first | with_reducible assumption | (simp (disch := omega) only [zf1, nI_1, true_and, and_true, false_and, and_false, or_false, false_or, or_true, true_or, not_true_eq_false, not_false_eq_true, ev, ew, e1, mpa_0, mpa_1, mpa_2, mpa_9, mpa_10, mpa_11, mpa_12, Int32.reduceToNatClampNeg, Int32.le_iff_toInt_le, Int32.lt_iff_toInt_lt, ← Int32.toInt_inj, nI_toInt, Int32.reduceToInt] <;> omega) | assumption | (simp (disch := omega) only [zf1, nI_1, isT, isP, two, Int32.toInt_sub, Int.bmod_def, true_and, and_true, false_and, and_false, or_false, false_or, or_true, true_or, not_true_eq_false, not_false_eq_true, ev, ew, e1, mpa_0, mpa_1, mpa_2, mpa_9, mpa_10, mpa_11, mpa_12, Int32.reduceToNatClampNeg, Int32.le_iff_toInt_le, Int32.lt_iff_toInt_lt, ← Int32.toInt_inj, nI_toInt, Int32.reduceToInt] at * <;> omega) | decide); conv => whnf)
        | ((with_reducible refine ckI ?_ ?_); (· first | ((with_reducible refine vp_in_nI ?_ ?_); (· omega); (· decide)) | exact vp_c (by decide) | exact ⟨_, rfl⟩ | exact Or.inl rfl | exact Or.inr rfl | exact b2_01 _); conv => whnf)
        | ((with_reducible apply cl_p); (case hM => with_reducible exact k2_has _ _ s _ hs); (case hc => exact rfl); (case hd => first | decide | omega); conv => whnf)
        | ((with_reducible apply cl_p); (case hM => exact hNb); (case hc => exact rfl); (case hd => first | decide | omega); conv => whnf)
        | ((rw [hss]); conv => whnf)
        | ((rw [hsn]); conv => whnf)
        | ((rw [hsh]); conv => whnf)
        | ((with_reducible refine ckJ ?_ ?_); conv => whnf)
        | fail
      all_goals first
        | exact rcS hs
        | exact ⟨f, g, rfl, rfl⟩
  | succ i ih =>
    intro hi b mk e f g hb7 hm
    have ih := ih (by omega)
    obtain ⟨n, hn, e2⟩ := of_i (n := 8) hW.2.1.1 (by have := hW.2.1.2; omega) (by decide)
    have hP : nP N = n := by unfold nP; rw [e2, nI_toInt (by omega), Int.toNat_natCast]
    have hcz : z - 1 - (i + 1) + 1 = z - 1 - i := by omega
    have hcl : z - 1 - (i + 1) + 1 < z := by omega
    generalize hcc : z - 1 - (i + 1) = c at hcz hcl
    rw [← hcz, ← nI_1] at ih
    have hss := shS hs
    have hsn := shN hs
    have zf1 : ∀ f g, M6 μ f g e (61 + 2 * s) 1 = nI z := fun f g => by rw [m6_ne (by omega) (by omega) (by omega)]; exact ez
    have hlt : nI c < M6 μ f g e (61 + 2 * s) 1 := by rw [zf1]; exact nI_lt (by omega) (by omega)
    have hhas : ((0 ≤ nI c ∧ nI c < M6 μ f g e (61 + 2 * s) 1) ∧ nI c < 40) := ⟨⟨nI_pos' (by omega), hlt⟩, by
      simp only [Int32.lt_iff_toInt_lt, Int32.reduceToInt]
      rw [nI_toInt (by omega)]
      omega⟩
    have hNb : Mt X m_X2_numberAt 0 [.ref (61 + 2 * s), .int (nI c)] (M6 μ f g e) (fun r μ' => r = some (.int (Q (40 * s + c))) ∧ μ' = M6 μ f g e) := by
      have h := k2_numberAt X (M6 μ f g e) s c hs (by omega) hlt
      rw [show M6 μ f g e (62 + 2 * s) = μ (62 + 2 * s) from m6_ne (by omega) (by omega) (by omega), eq c (by omega)] at h
      exact h
    have hr : rwl N Q s z t (i + 1) b mk e = if Q (40 * s + c) = mk then fol (fun q p => if 0 < yd N b q then (p.1 + (rwl N Q s z t i q (gR N t mk (yd N b q) (nI b)) p.2).1, (rwl N Q s z t i q (gR N t mk (yd N b q) (nI b)) p.2).2) else (p.1 + 0, p.2)) n (0, e) else (0, e) := by rw [← hcc, ← hP]; rfl
    rw [hr]
    by_cases hq : Q (40 * s + c) = mk
    · rw [if_pos hq]
      have key := k5_rows_l X μ N Q s z t hs hz ht hW hR ez eq i c n (by omega) e2 ih b mk e hb7 hm (fun r μ' => ∃ f' g', r = some (.int (fol (fun q p => if 0 < yd N b q then (p.1 + (rwl N Q s z t i q (gR N t mk (yd N b q) (nI b)) p.2).1, (rwl N Q s z t i q (gR N t mk (yd N b q) (nI b)) p.2).2) else (p.1 + 0, p.2)) n (0, e)).1) ∧ μ' = M6 μ f' g' (fol (fun q p => if 0 < yd N b q then (p.1 + (rwl N Q s z t i q (gR N t mk (yd N b q) (nI b)) p.2).1, (rwl N Q s z t i q (gR N t mk (yd N b q) (nI b)) p.2).2) else (p.1 + 0, p.2)) n (0, e)).2) (fun f g => ⟨f, g, rfl, rfl⟩) 0 (by omega) 0 e f g none rfl _ rfl
      clear hW hR ih hr eq
      refine Mt_of ck_X5_rowsOn mf_45 rfl ?_
      repeat' first
        | (with_reducible refine at_h 32 ?_)
        | ((with_reducible refine gow ck_X5_rowsOn _ [32] ?_); conv => whnf)
        | ((with_reducible refine bn_t ?_ ?_); (· first | with_reducible assumption | (simp (disch := omega) only [zf1, nI_1, true_and, and_true, false_and, and_false, or_false, false_or, or_true, true_or, not_true_eq_false, not_false_eq_true, ev, ew, e1, mpa_0, mpa_1, mpa_2, mpa_9, mpa_10, mpa_11, mpa_12, Int32.reduceToNatClampNeg, Int32.le_iff_toInt_le, Int32.lt_iff_toInt_lt, ← Int32.toInt_inj, nI_toInt, Int32.reduceToInt] <;> omega) | assumption | (simp (disch := omega) only [zf1, nI_1, isT, isP, two, Int32.toInt_sub, Int.bmod_def, true_and, and_true, false_and, and_false, or_false, false_or, or_true, true_or, not_true_eq_false, not_false_eq_true, ev, ew, e1, mpa_0, mpa_1, mpa_2, mpa_9, mpa_10, mpa_11, mpa_12, Int32.reduceToNatClampNeg, Int32.le_iff_toInt_le, Int32.lt_iff_toInt_lt, ← Int32.toInt_inj, nI_toInt, Int32.reduceToInt] at * <;> omega) | decide); conv => whnf)
        | ((with_reducible refine bn_f ?_ ?_); (· first | with_reducible assumption | (simp (disch := omega) only [zf1, nI_1, true_and, and_true, false_and, and_false, or_false, false_or, or_true, true_or, not_true_eq_false, not_false_eq_true, ev, ew, e1, mpa_0, mpa_1, mpa_2, mpa_9, mpa_10, mpa_11, mpa_12, Int32.reduceToNatClampNeg, Int32.le_iff_toInt_le, Int32.lt_iff_toInt_lt, ← Int32.toInt_inj, nI_toInt, Int32.reduceToInt] <;> omega) | assumption | (simp (disch := omega) only [zf1, nI_1, isT, isP, two, Int32.toInt_sub, Int.bmod_def, true_and, and_true, false_and, and_false, or_false, false_or, or_true, true_or, not_true_eq_false, not_false_eq_true, ev, ew, e1, mpa_0, mpa_1, mpa_2, mpa_9, mpa_10, mpa_11, mpa_12, Int32.reduceToNatClampNeg, Int32.le_iff_toInt_le, Int32.lt_iff_toInt_lt, ← Int32.toInt_inj, nI_toInt, Int32.reduceToInt] at * <;> omega) | decide); conv => whnf)
        | ((with_reducible refine bc_t ?_ ?_); (· first | with_reducible assumption | (simp (disch := omega) only [zf1, nI_1, true_and, and_true, false_and, and_false, or_false, false_or, or_true, true_or, not_true_eq_false, not_false_eq_true, ev, ew, e1, mpa_0, mpa_1, mpa_2, mpa_9, mpa_10, mpa_11, mpa_12, Int32.reduceToNatClampNeg, Int32.le_iff_toInt_le, Int32.lt_iff_toInt_lt, ← Int32.toInt_inj, nI_toInt, Int32.reduceToInt] <;> omega) | assumption | (simp (disch := omega) only [zf1, nI_1, isT, isP, two, Int32.toInt_sub, Int.bmod_def, true_and, and_true, false_and, and_false, or_false, false_or, or_true, true_or, not_true_eq_false, not_false_eq_true, ev, ew, e1, mpa_0, mpa_1, mpa_2, mpa_9, mpa_10, mpa_11, mpa_12, Int32.reduceToNatClampNeg, Int32.le_iff_toInt_le, Int32.lt_iff_toInt_lt, ← Int32.toInt_inj, nI_toInt, Int32.reduceToInt] at * <;> omega) | decide); conv => whnf)
        | ((with_reducible refine bc_f ?_ ?_); (· first | with_reducible assumption | (simp (disch := omega) only [zf1, nI_1, true_and, and_true, false_and, and_false, or_false, false_or, or_true, true_or, not_true_eq_false, not_false_eq_true, ev, ew, e1, mpa_0, mpa_1, mpa_2, mpa_9, mpa_10, mpa_11, mpa_12, Int32.reduceToNatClampNeg, Int32.le_iff_toInt_le, Int32.lt_iff_toInt_lt, ← Int32.toInt_inj, nI_toInt, Int32.reduceToInt] <;> omega) | assumption | (simp (disch := omega) only [zf1, nI_1, isT, isP, two, Int32.toInt_sub, Int.bmod_def, true_and, and_true, false_and, and_false, or_false, false_or, or_true, true_or, not_true_eq_false, not_false_eq_true, ev, ew, e1, mpa_0, mpa_1, mpa_2, mpa_9, mpa_10, mpa_11, mpa_12, Int32.reduceToNatClampNeg, Int32.le_iff_toInt_le, Int32.lt_iff_toInt_lt, ← Int32.toInt_inj, nI_toInt, Int32.reduceToInt] at * <;> omega) | decide); conv => whnf)
        | ((with_reducible refine br_t ?_ ?_); (· first | with_reducible assumption | (simp (disch := omega) only [zf1, nI_1, true_and, and_true, false_and, and_false, or_false, false_or, or_true, true_or, not_true_eq_false, not_false_eq_true, ev, ew, e1, mpa_0, mpa_1, mpa_2, mpa_9, mpa_10, mpa_11, mpa_12, Int32.reduceToNatClampNeg, Int32.le_iff_toInt_le, Int32.lt_iff_toInt_lt, ← Int32.toInt_inj, nI_toInt, Int32.reduceToInt] <;> omega) | assumption | (simp (disch := omega) only [zf1, nI_1, isT, isP, two, Int32.toInt_sub, Int.bmod_def, true_and, and_true, false_and, and_false, or_false, false_or, or_true, true_or, not_true_eq_false, not_false_eq_true, ev, ew, e1, mpa_0, mpa_1, mpa_2, mpa_9, mpa_10, mpa_11, mpa_12, Int32.reduceToNatClampNeg, Int32.le_iff_toInt_le, Int32.lt_iff_toInt_lt, ← Int32.toInt_inj, nI_toInt, Int32.reduceToInt] at * <;> omega) | decide); conv => whnf)
        | ((with_reducible refine br_f ?_ ?_); (· first | with_reducible assumption | (simp (disch := omega) only [zf1, nI_1, true_and, and_true, false_and, and_false, or_false, false_or, or_true, true_or, not_true_eq_false, not_false_eq_true, ev, ew, e1, mpa_0, mpa_1, mpa_2, mpa_9, mpa_10, mpa_11, mpa_12, Int32.reduceToNatClampNeg, Int32.le_iff_toInt_le, Int32.lt_iff_toInt_lt, ← Int32.toInt_inj, nI_toInt, Int32.reduceToInt] <;> omega) | assumption | (simp (disch := omega) only [zf1, nI_1, isT, isP, two, Int32.toInt_sub, Int.bmod_def, true_and, and_true, false_and, and_false, or_false, false_or, or_true, true_or, not_true_eq_false, not_false_eq_true, ev, ew, e1, mpa_0, mpa_1, mpa_2, mpa_9, mpa_10, mpa_11, mpa_12, Int32.reduceToNatClampNeg, Int32.le_iff_toInt_le, Int32.lt_iff_toInt_lt, ← Int32.toInt_inj, nI_toInt, Int32.reduceToInt] at * <;> omega) | decide); conv => whnf)
        | ((with_reducible refine br_nt ?_ ?_); (· first | with_reducible assumption | (simp (disch := omega) only [zf1, nI_1, true_and, and_true, false_and, and_false, or_false, false_or, or_true, true_or, not_true_eq_false, not_false_eq_true, ev, ew, e1, mpa_0, mpa_1, mpa_2, mpa_9, mpa_10, mpa_11, mpa_12, Int32.reduceToNatClampNeg, Int32.le_iff_toInt_le, Int32.lt_iff_toInt_lt, ← Int32.toInt_inj, nI_toInt, Int32.reduceToInt] <;> omega) | assumption | (simp (disch := omega) only [zf1, nI_1, isT, isP, two, Int32.toInt_sub, Int.bmod_def, true_and, and_true, false_and, and_false, or_false, false_or, or_true, true_or, not_true_eq_false, not_false_eq_true, ev, ew, e1, mpa_0, mpa_1, mpa_2, mpa_9, mpa_10, mpa_11, mpa_12, Int32.reduceToNatClampNeg, Int32.le_iff_toInt_le, Int32.lt_iff_toInt_lt, ← Int32.toInt_inj, nI_toInt, Int32.reduceToInt] at * <;> omega) | decide); conv => whnf)
        | ((with_reducible refine br_nf ?_ ?_); (· first | with_reducible assumption | (simp (disch := omega) only [zf1, nI_1, true_and, and_true, false_and, and_false, or_false, false_or, or_true, true_or, not_true_eq_false, not_false_eq_true, ev, ew, e1, mpa_0, mpa_1, mpa_2, mpa_9, mpa_10, mpa_11, mpa_12, Int32.reduceToNatClampNeg, Int32.le_iff_toInt_le, Int32.lt_iff_toInt_lt, ← Int32.toInt_inj, nI_toInt, Int32.reduceToInt] <;> omega) | assumption | (simp (disch := omega) only [zf1, nI_1, isT, isP, two, Int32.toInt_sub, Int.bmod_def, true_and, and_true, false_and, and_false, or_false, false_or, or_true, true_or, not_true_eq_false, not_false_eq_true, ev, ew, e1, mpa_0, mpa_1, mpa_2, mpa_9, mpa_10, mpa_11, mpa_12, Int32.reduceToNatClampNeg, Int32.le_iff_toInt_le, Int32.lt_iff_toInt_lt, ← Int32.toInt_inj, nI_toInt, Int32.reduceToInt] at * <;> omega) | decide); conv => whnf)
        | ((with_reducible refine ckI ?_ ?_); (· first | ((with_reducible refine vp_in_nI ?_ ?_); (· omega); (· decide)) | exact vp_c (by decide) | exact ⟨_, rfl⟩ | exact Or.inl rfl | exact Or.inr rfl | exact b2_01 _); conv => whnf)
        | ((with_reducible apply cl_p); (case hM => with_reducible exact k2_has _ _ s _ hs); (case hc => exact rfl); (case hd => first | decide | omega); conv => whnf)
        | ((with_reducible apply cl_p); (case hM => exact hNb); (case hc => exact rfl); (case hd => first | decide | omega); conv => whnf)
        | ((rw [hss]); conv => whnf)
        | ((rw [hsn]); conv => whnf)
        | ((rw [hsh]); conv => whnf)
        | ((with_reducible refine ckJ ?_ ?_); conv => whnf)
        | fail
      all_goals first
        | exact rcS hs
        | exact key
    · rw [if_neg hq]
      clear hW hR ih hr eq
      refine Mt_of ck_X5_rowsOn mf_45 rfl ?_
      repeat' first
        | ((with_reducible refine gow ck_X5_rowsOn _ [] ?_); conv => whnf)
        | ((with_reducible refine bn_t ?_ ?_); (· first | with_reducible assumption | (simp (disch := omega) only [zf1, nI_1, true_and, and_true, false_and, and_false, or_false, false_or, or_true, true_or, not_true_eq_false, not_false_eq_true, ev, ew, e1, mpa_0, mpa_1, mpa_2, mpa_9, mpa_10, mpa_11, mpa_12, Int32.reduceToNatClampNeg, Int32.le_iff_toInt_le, Int32.lt_iff_toInt_lt, ← Int32.toInt_inj, nI_toInt, Int32.reduceToInt] <;> omega) | assumption | (simp (disch := omega) only [zf1, nI_1, isT, isP, two, Int32.toInt_sub, Int.bmod_def, true_and, and_true, false_and, and_false, or_false, false_or, or_true, true_or, not_true_eq_false, not_false_eq_true, ev, ew, e1, mpa_0, mpa_1, mpa_2, mpa_9, mpa_10, mpa_11, mpa_12, Int32.reduceToNatClampNeg, Int32.le_iff_toInt_le, Int32.lt_iff_toInt_lt, ← Int32.toInt_inj, nI_toInt, Int32.reduceToInt] at * <;> omega) | decide); conv => whnf)
        | ((with_reducible refine bn_f ?_ ?_); (· first | with_reducible assumption | (simp (disch := omega) only [zf1, nI_1, true_and, and_true, false_and, and_false, or_false, false_or, or_true, true_or, not_true_eq_false, not_false_eq_true, ev, ew, e1, mpa_0, mpa_1, mpa_2, mpa_9, mpa_10, mpa_11, mpa_12, Int32.reduceToNatClampNeg, Int32.le_iff_toInt_le, Int32.lt_iff_toInt_lt, ← Int32.toInt_inj, nI_toInt, Int32.reduceToInt] <;> omega) | assumption | (simp (disch := omega) only [zf1, nI_1, isT, isP, two, Int32.toInt_sub, Int.bmod_def, true_and, and_true, false_and, and_false, or_false, false_or, or_true, true_or, not_true_eq_false, not_false_eq_true, ev, ew, e1, mpa_0, mpa_1, mpa_2, mpa_9, mpa_10, mpa_11, mpa_12, Int32.reduceToNatClampNeg, Int32.le_iff_toInt_le, Int32.lt_iff_toInt_lt, ← Int32.toInt_inj, nI_toInt, Int32.reduceToInt] at * <;> omega) | decide); conv => whnf)
        | ((with_reducible refine bc_t ?_ ?_); (· first | with_reducible assumption | (simp (disch := omega) only [zf1, nI_1, true_and, and_true, false_and, and_false, or_false, false_or, or_true, true_or, not_true_eq_false, not_false_eq_true, ev, ew, e1, mpa_0, mpa_1, mpa_2, mpa_9, mpa_10, mpa_11, mpa_12, Int32.reduceToNatClampNeg, Int32.le_iff_toInt_le, Int32.lt_iff_toInt_lt, ← Int32.toInt_inj, nI_toInt, Int32.reduceToInt] <;> omega) | assumption | (simp (disch := omega) only [zf1, nI_1, isT, isP, two, Int32.toInt_sub, Int.bmod_def, true_and, and_true, false_and, and_false, or_false, false_or, or_true, true_or, not_true_eq_false, not_false_eq_true, ev, ew, e1, mpa_0, mpa_1, mpa_2, mpa_9, mpa_10, mpa_11, mpa_12, Int32.reduceToNatClampNeg, Int32.le_iff_toInt_le, Int32.lt_iff_toInt_lt, ← Int32.toInt_inj, nI_toInt, Int32.reduceToInt] at * <;> omega) | decide); conv => whnf)
        | ((with_reducible refine bc_f ?_ ?_); (· first | with_reducible assumption | (simp (disch := omega) only [zf1, nI_1, true_and, and_true, false_and, and_false, or_false, false_or, or_true, true_or, not_true_eq_false, not_false_eq_true, ev, ew, e1, mpa_0, mpa_1, mpa_2, mpa_9, mpa_10, mpa_11, mpa_12, Int32.reduceToNatClampNeg, Int32.le_iff_toInt_le, Int32.lt_iff_toInt_lt, ← Int32.toInt_inj, nI_toInt, Int32.reduceToInt] <;> omega) | assumption | (simp (disch := omega) only [zf1, nI_1, isT, isP, two, Int32.toInt_sub, Int.bmod_def, true_and, and_true, false_and, and_false, or_false, false_or, or_true, true_or, not_true_eq_false, not_false_eq_true, ev, ew, e1, mpa_0, mpa_1, mpa_2, mpa_9, mpa_10, mpa_11, mpa_12, Int32.reduceToNatClampNeg, Int32.le_iff_toInt_le, Int32.lt_iff_toInt_lt, ← Int32.toInt_inj, nI_toInt, Int32.reduceToInt] at * <;> omega) | decide); conv => whnf)
        | ((with_reducible refine br_t ?_ ?_); (· first | with_reducible assumption | (simp (disch := omega) only [zf1, nI_1, true_and, and_true, false_and, and_false, or_false, false_or, or_true, true_or, not_true_eq_false, not_false_eq_true, ev, ew, e1, mpa_0, mpa_1, mpa_2, mpa_9, mpa_10, mpa_11, mpa_12, Int32.reduceToNatClampNeg, Int32.le_iff_toInt_le, Int32.lt_iff_toInt_lt, ← Int32.toInt_inj, nI_toInt, Int32.reduceToInt] <;> omega) | assumption | (simp (disch := omega) only [zf1, nI_1, isT, isP, two, Int32.toInt_sub, Int.bmod_def, true_and, and_true, false_and, and_false, or_false, false_or, or_true, true_or, not_true_eq_false, not_false_eq_true, ev, ew, e1, mpa_0, mpa_1, mpa_2, mpa_9, mpa_10, mpa_11, mpa_12, Int32.reduceToNatClampNeg, Int32.le_iff_toInt_le, Int32.lt_iff_toInt_lt, ← Int32.toInt_inj, nI_toInt, Int32.reduceToInt] at * <;> omega) | decide); conv => whnf)
        | ((with_reducible refine br_f ?_ ?_); (· first | with_reducible assumption | (simp (disch := omega) only [zf1, nI_1, true_and, and_true, false_and, and_false, or_false, false_or, or_true, true_or, not_true_eq_false, not_false_eq_true, ev, ew, e1, mpa_0, mpa_1, mpa_2, mpa_9, mpa_10, mpa_11, mpa_12, Int32.reduceToNatClampNeg, Int32.le_iff_toInt_le, Int32.lt_iff_toInt_lt, ← Int32.toInt_inj, nI_toInt, Int32.reduceToInt] <;> omega) | assumption | (simp (disch := omega) only [zf1, nI_1, isT, isP, two, Int32.toInt_sub, Int.bmod_def, true_and, and_true, false_and, and_false, or_false, false_or, or_true, true_or, not_true_eq_false, not_false_eq_true, ev, ew, e1, mpa_0, mpa_1, mpa_2, mpa_9, mpa_10, mpa_11, mpa_12, Int32.reduceToNatClampNeg, Int32.le_iff_toInt_le, Int32.lt_iff_toInt_lt, ← Int32.toInt_inj, nI_toInt, Int32.reduceToInt] at * <;> omega) | decide); conv => whnf)
        | ((with_reducible refine br_nt ?_ ?_); (· first | with_reducible assumption | (simp (disch := omega) only [zf1, nI_1, true_and, and_true, false_and, and_false, or_false, false_or, or_true, true_or, not_true_eq_false, not_false_eq_true, ev, ew, e1, mpa_0, mpa_1, mpa_2, mpa_9, mpa_10, mpa_11, mpa_12, Int32.reduceToNatClampNeg, Int32.le_iff_toInt_le, Int32.lt_iff_toInt_lt, ← Int32.toInt_inj, nI_toInt, Int32.reduceToInt] <;> omega) | assumption | (simp (disch := omega) only [zf1, nI_1, isT, isP, two, Int32.toInt_sub, Int.bmod_def, true_and, and_true, false_and, and_false, or_false, false_or, or_true, true_or, not_true_eq_false, not_false_eq_true, ev, ew, e1, mpa_0, mpa_1, mpa_2, mpa_9, mpa_10, mpa_11, mpa_12, Int32.reduceToNatClampNeg, Int32.le_iff_toInt_le, Int32.lt_iff_toInt_lt, ← Int32.toInt_inj, nI_toInt, Int32.reduceToInt] at * <;> omega) | decide); conv => whnf)
        | ((with_reducible refine br_nf ?_ ?_); (· first | with_reducible assumption | (simp (disch := omega) only [zf1, nI_1, true_and, and_true, false_and, and_false, or_false, false_or, or_true, true_or, not_true_eq_false, not_false_eq_true, ev, ew, e1, mpa_0, mpa_1, mpa_2, mpa_9, mpa_10, mpa_11, mpa_12, Int32.reduceToNatClampNeg, Int32.le_iff_toInt_le, Int32.lt_iff_toInt_lt, ← Int32.toInt_inj, nI_toInt, Int32.reduceToInt] <;> omega) | assumption | (simp (disch := omega) only [zf1, nI_1, isT, isP, two, Int32.toInt_sub, Int.bmod_def, true_and, and_true, false_and, and_false, or_false, false_or, or_true, true_or, not_true_eq_false, not_false_eq_true, ev, ew, e1, mpa_0, mpa_1, mpa_2, mpa_9, mpa_10, mpa_11, mpa_12, Int32.reduceToNatClampNeg, Int32.le_iff_toInt_le, Int32.lt_iff_toInt_lt, ← Int32.toInt_inj, nI_toInt, Int32.reduceToInt] at * <;> omega) | decide); conv => whnf)
        | ((with_reducible refine ckI ?_ ?_); (· first | ((with_reducible refine vp_in_nI ?_ ?_); (· omega); (· decide)) | exact vp_c (by decide) | exact ⟨_, rfl⟩ | exact Or.inl rfl | exact Or.inr rfl | exact b2_01 _); conv => whnf)
        | ((with_reducible apply cl_p); (case hM => with_reducible exact k2_has _ _ s _ hs); (case hc => exact rfl); (case hd => first | decide | omega); conv => whnf)
        | ((with_reducible apply cl_p); (case hM => exact hNb); (case hc => exact rfl); (case hd => first | decide | omega); conv => whnf)
        | ((rw [hss]); conv => whnf)
        | ((rw [hsn]); conv => whnf)
        | ((rw [hsh]); conv => whnf)
        | ((with_reducible refine ckJ ?_ ?_); conv => whnf)
        | fail
      all_goals first
        | exact rcS hs
        | exact ⟨f, g, rfl, rfl⟩
theorem k_from (X : Cx) (S μ : Mem) (s t w : Int32) (hW : WFS S) (hR : RC S μ) : Mt X m_X8_from 12 [.ref 0, .int s, .int t, .int w] μ (Pc8 S μ (sp_from S s t w)) := by
  have hN : WN (S 1) := hW.1
  have hRW := hR.1
  unfold sp_from
  (repeat' split)
  · have hs03 : 0 ≤ s ∧ s ≤ 3 := by assumption
    obtain ⟨z, hz4, rfl⟩ := in_3 hs03
    have hss := shS hz4
    have hsn := shN hz4
    obtain ⟨hX2, hX1, hXq⟩ := hR.2.2.2.2.2 z hz4
    obtain ⟨hB, hZ, hB0⟩ := hW.2.2.2 z hz4
    clear hs03
    (try simp (disch := omega) only [nI_toInt, Int.toNat_natCast] at *)
    obtain ⟨k, hk, rfl, hkn⟩ := in_T hN ‹isT (S 1) t›
    have hsh := shT hk
    have hlt : nI k < μ 1 9 := by
      rw [hRW.1.2.1]
      simp only [Int32.lt_iff_toInt_lt]
      rw [nI_toInt (by omega)]
      unfold nT at hkn
      omega
    (try simp (disch := omega) only [nI_toInt, Int.toNat_natCast] at *)
    have g1 : μ (61 + 2 * z) 2 = 0 := hX2.trans (by assumption)
    refine Mt_of ck_X8_from mf_98 rfl ?_
    have hRR := hR
    clear hW hN hRW hR
    repeat' first
      | ((with_reducible refine gow ck_X8_from _ [] ?_); conv => whnf)
      | ((with_reducible refine bn_t ?_ ?_); (· first | with_reducible assumption | (simp (disch := omega) only [true_and, and_true, false_and, and_false, or_false, false_or, or_true, true_or, not_true_eq_false, not_false_eq_true, ev, ew, e1, mpa_0, mpa_1, mpa_2, mpa_9, mpa_10, mpa_11, mpa_12, Int32.reduceToNatClampNeg, Int32.le_iff_toInt_le, Int32.lt_iff_toInt_lt, ← Int32.toInt_inj, nI_toInt, Int32.reduceToInt] <;> omega) | assumption | (simp (disch := omega) only [isT, isP, two, Int32.toInt_sub, Int.bmod_def, true_and, and_true, false_and, and_false, or_false, false_or, or_true, true_or, not_true_eq_false, not_false_eq_true, ev, ew, e1, mpa_0, mpa_1, mpa_2, mpa_9, mpa_10, mpa_11, mpa_12, Int32.reduceToNatClampNeg, Int32.le_iff_toInt_le, Int32.lt_iff_toInt_lt, ← Int32.toInt_inj, nI_toInt, Int32.reduceToInt] at * <;> omega) | decide); conv => whnf)
      | ((with_reducible refine bn_f ?_ ?_); (· first | with_reducible assumption | (simp (disch := omega) only [true_and, and_true, false_and, and_false, or_false, false_or, or_true, true_or, not_true_eq_false, not_false_eq_true, ev, ew, e1, mpa_0, mpa_1, mpa_2, mpa_9, mpa_10, mpa_11, mpa_12, Int32.reduceToNatClampNeg, Int32.le_iff_toInt_le, Int32.lt_iff_toInt_lt, ← Int32.toInt_inj, nI_toInt, Int32.reduceToInt] <;> omega) | assumption | (simp (disch := omega) only [isT, isP, two, Int32.toInt_sub, Int.bmod_def, true_and, and_true, false_and, and_false, or_false, false_or, or_true, true_or, not_true_eq_false, not_false_eq_true, ev, ew, e1, mpa_0, mpa_1, mpa_2, mpa_9, mpa_10, mpa_11, mpa_12, Int32.reduceToNatClampNeg, Int32.le_iff_toInt_le, Int32.lt_iff_toInt_lt, ← Int32.toInt_inj, nI_toInt, Int32.reduceToInt] at * <;> omega) | decide); conv => whnf)
      | ((with_reducible refine bc_t ?_ ?_); (· first | with_reducible assumption | (simp (disch := omega) only [true_and, and_true, false_and, and_false, or_false, false_or, or_true, true_or, not_true_eq_false, not_false_eq_true, ev, ew, e1, mpa_0, mpa_1, mpa_2, mpa_9, mpa_10, mpa_11, mpa_12, Int32.reduceToNatClampNeg, Int32.le_iff_toInt_le, Int32.lt_iff_toInt_lt, ← Int32.toInt_inj, nI_toInt, Int32.reduceToInt] <;> omega) | assumption | (simp (disch := omega) only [isT, isP, two, Int32.toInt_sub, Int.bmod_def, true_and, and_true, false_and, and_false, or_false, false_or, or_true, true_or, not_true_eq_false, not_false_eq_true, ev, ew, e1, mpa_0, mpa_1, mpa_2, mpa_9, mpa_10, mpa_11, mpa_12, Int32.reduceToNatClampNeg, Int32.le_iff_toInt_le, Int32.lt_iff_toInt_lt, ← Int32.toInt_inj, nI_toInt, Int32.reduceToInt] at * <;> omega) | decide); conv => whnf)
      | ((with_reducible refine bc_f ?_ ?_); (· first | with_reducible assumption | (simp (disch := omega) only [true_and, and_true, false_and, and_false, or_false, false_or, or_true, true_or, not_true_eq_false, not_false_eq_true, ev, ew, e1, mpa_0, mpa_1, mpa_2, mpa_9, mpa_10, mpa_11, mpa_12, Int32.reduceToNatClampNeg, Int32.le_iff_toInt_le, Int32.lt_iff_toInt_lt, ← Int32.toInt_inj, nI_toInt, Int32.reduceToInt] <;> omega) | assumption | (simp (disch := omega) only [isT, isP, two, Int32.toInt_sub, Int.bmod_def, true_and, and_true, false_and, and_false, or_false, false_or, or_true, true_or, not_true_eq_false, not_false_eq_true, ev, ew, e1, mpa_0, mpa_1, mpa_2, mpa_9, mpa_10, mpa_11, mpa_12, Int32.reduceToNatClampNeg, Int32.le_iff_toInt_le, Int32.lt_iff_toInt_lt, ← Int32.toInt_inj, nI_toInt, Int32.reduceToInt] at * <;> omega) | decide); conv => whnf)
      | ((with_reducible refine br_t ?_ ?_); (· first | with_reducible assumption | (simp (disch := omega) only [true_and, and_true, false_and, and_false, or_false, false_or, or_true, true_or, not_true_eq_false, not_false_eq_true, ev, ew, e1, mpa_0, mpa_1, mpa_2, mpa_9, mpa_10, mpa_11, mpa_12, Int32.reduceToNatClampNeg, Int32.le_iff_toInt_le, Int32.lt_iff_toInt_lt, ← Int32.toInt_inj, nI_toInt, Int32.reduceToInt] <;> omega) | assumption | (simp (disch := omega) only [isT, isP, two, Int32.toInt_sub, Int.bmod_def, true_and, and_true, false_and, and_false, or_false, false_or, or_true, true_or, not_true_eq_false, not_false_eq_true, ev, ew, e1, mpa_0, mpa_1, mpa_2, mpa_9, mpa_10, mpa_11, mpa_12, Int32.reduceToNatClampNeg, Int32.le_iff_toInt_le, Int32.lt_iff_toInt_lt, ← Int32.toInt_inj, nI_toInt, Int32.reduceToInt] at * <;> omega) | decide); conv => whnf)
      | ((with_reducible refine br_f ?_ ?_); (· first | with_reducible assumption | (simp (disch := omega) only [true_and, and_true, false_and, and_false, or_false, false_or, or_true, true_or, not_true_eq_false, not_false_eq_true, ev, ew, e1, mpa_0, mpa_1, mpa_2, mpa_9, mpa_10, mpa_11, mpa_12, Int32.reduceToNatClampNeg, Int32.le_iff_toInt_le, Int32.lt_iff_toInt_lt, ← Int32.toInt_inj, nI_toInt, Int32.reduceToInt] <;> omega) | assumption | (simp (disch := omega) only [isT, isP, two, Int32.toInt_sub, Int.bmod_def, true_and, and_true, false_and, and_false, or_false, false_or, or_true, true_or, not_true_eq_false, not_false_eq_true, ev, ew, e1, mpa_0, mpa_1, mpa_2, mpa_9, mpa_10, mpa_11, mpa_12, Int32.reduceToNatClampNeg, Int32.le_iff_toInt_le, Int32.lt_iff_toInt_lt, ← Int32.toInt_inj, nI_toInt, Int32.reduceToInt] at * <;> omega) | decide); conv => whnf)
      | ((with_reducible refine br_nt ?_ ?_); (· first | with_reducible assumption | (simp (disch := omega) only [true_and, and_true, false_and, and_false, or_false, false_or, or_true, true_or, not_true_eq_false, not_false_eq_true, ev, ew, e1, mpa_0, mpa_1, mpa_2, mpa_9, mpa_10, mpa_11, mpa_12, Int32.reduceToNatClampNeg, Int32.le_iff_toInt_le, Int32.lt_iff_toInt_lt, ← Int32.toInt_inj, nI_toInt, Int32.reduceToInt] <;> omega) | assumption | (simp (disch := omega) only [isT, isP, two, Int32.toInt_sub, Int.bmod_def, true_and, and_true, false_and, and_false, or_false, false_or, or_true, true_or, not_true_eq_false, not_false_eq_true, ev, ew, e1, mpa_0, mpa_1, mpa_2, mpa_9, mpa_10, mpa_11, mpa_12, Int32.reduceToNatClampNeg, Int32.le_iff_toInt_le, Int32.lt_iff_toInt_lt, ← Int32.toInt_inj, nI_toInt, Int32.reduceToInt] at * <;> omega) | decide); conv => whnf)
      | ((with_reducible refine br_nf ?_ ?_); (· first | with_reducible assumption | (simp (disch := omega) only [true_and, and_true, false_and, and_false, or_false, false_or, or_true, true_or, not_true_eq_false, not_false_eq_true, ev, ew, e1, mpa_0, mpa_1, mpa_2, mpa_9, mpa_10, mpa_11, mpa_12, Int32.reduceToNatClampNeg, Int32.le_iff_toInt_le, Int32.lt_iff_toInt_lt, ← Int32.toInt_inj, nI_toInt, Int32.reduceToInt] <;> omega) | assumption | (simp (disch := omega) only [isT, isP, two, Int32.toInt_sub, Int.bmod_def, true_and, and_true, false_and, and_false, or_false, false_or, or_true, true_or, not_true_eq_false, not_false_eq_true, ev, ew, e1, mpa_0, mpa_1, mpa_2, mpa_9, mpa_10, mpa_11, mpa_12, Int32.reduceToNatClampNeg, Int32.le_iff_toInt_le, Int32.lt_iff_toInt_lt, ← Int32.toInt_inj, nI_toInt, Int32.reduceToInt] at * <;> omega) | decide); conv => whnf)
      | ((with_reducible refine ckI ?_ ?_); (· first | ((with_reducible refine vp_in_nI ?_ ?_); (· omega); (· decide)) | exact vp_c (by decide) | exact ⟨_, rfl⟩ | exact Or.inl rfl | exact Or.inr rfl | exact b2_01 _); conv => whnf)
      | ((with_reducible apply cl_p); (case hM => with_reducible exact k8_fail1 _ _); (case hc => exact rfl); (case hd => first | decide | omega); conv => whnf)
      | ((with_reducible apply cl_p); (case hM => with_reducible exact k8_fail2 _ _); (case hc => exact rfl); (case hd => first | decide | omega); conv => whnf)
      | ((with_reducible apply cl_p); (case hM => with_reducible exact k8_fail3 _ _); (case hc => exact rfl); (case hd => first | decide | omega); conv => whnf)
      | ((with_reducible apply cl_p); (case hM => with_reducible exact k8_fail4 _ _); (case hc => exact rfl); (case hd => first | decide | omega); conv => whnf)
      | ((with_reducible apply cl_p); (case hM => with_reducible exact k8_fail5 _ _); (case hc => exact rfl); (case hd => first | decide | omega); conv => whnf)
      | ((with_reducible apply cl_p); (case hM => exact k7_taleOfN _ _ k hk hlt); (case hc => exact rfl); (case hd => first | decide | omega); conv => whnf)
      | ((with_reducible apply cl_p); (case hM => exact k7_taleOf_n _ _ t pn); (case hc => exact rfl); (case hd => first | decide | omega); conv => whnf)
      | ((with_reducible apply cl_p); (case hM => with_reducible exact k7_hasPlace _ _ _); (case hc => exact rfl); (case hd => first | decide | omega); conv => whnf)
      | ((with_reducible apply cl_p); (case hM => with_reducible exact k8_isWithin _ _ _ _); (case hc => exact rfl); (case hd => first | decide | omega); conv => whnf)
      | ((with_reducible apply cl_p); (case hM => exact k8_sheetOfN _ _ z hz4); (case hc => exact rfl); (case hd => first | decide | omega); conv => whnf)
      | ((with_reducible apply cl_p); (case hM => exact k8_sheetOf_n _ _ s ps); (case hc => exact rfl); (case hd => first | decide | omega); conv => whnf)
      | ((with_reducible apply cl_p); (case hM => with_reducible exact k2_isMissing _ _ z hz4); (case hc => exact rfl); (case hd => first | decide | omega); conv => whnf)
      | ((with_reducible apply cl_p); (case hM => with_reducible exact k2_has _ _ z _ hz4); (case hc => exact rfl); (case hd => first | decide | omega); conv => whnf)
      | ((with_reducible apply cl_g); (case hM => exact hBy); (case hc => exact rfl); (case hd => first | decide | omega); intro f76 g77; conv => whnf)
      | ((rw [hsh]); conv => whnf)
      | ((with_reducible refine fun r hr => ?_); (obtain rfl := l7 hr); conv => whnf)
      | ((rw [hss]); conv => whnf)
      | ((rw [hsn]); conv => whnf)
      | ((with_reducible refine ckJ ?_ ?_); conv => whnf)
      | fail
    all_goals first
      | exact rcS hz4
      | exact rcT hk
      | (refine Pc8.of rfl (hRR.er _) ?_; intro i hi; simp (disch := omega) only [hi_wr])
  · rename_i h10_ h15_ hw0
    subst hw0
    have hs03 : 0 ≤ s ∧ s ≤ 3 := by assumption
    obtain ⟨z, hz4, rfl⟩ := in_3 hs03
    have hss := shS hz4
    have hsn := shN hz4
    obtain ⟨hX2, hX1, hXq⟩ := hR.2.2.2.2.2 z hz4
    obtain ⟨hB, hZ, hB0⟩ := hW.2.2.2 z hz4
    clear hs03
    (try simp (disch := omega) only [nI_toInt, Int.toNat_natCast] at *)
    obtain ⟨k, hk, rfl, hkn⟩ := in_T hN ‹isT (S 1) t›
    have hsh := shT hk
    have hlt : nI k < μ 1 9 := by
      rw [hRW.1.2.1]
      simp only [Int32.lt_iff_toInt_lt]
      rw [nI_toInt (by omega)]
      unfold nT at hkn
      omega
    (try simp (disch := omega) only [nI_toInt, Int.toNat_natCast] at *)
    have h10 : ¬ S 10 z = 0 := by assumption
    have g1 : ¬ μ (61 + 2 * z) 2 = 0 := fun h => h10 (hX2.symm.trans h)
    obtain ⟨y, hy, ey⟩ := of_upto (n := 40) hZ (by decide)
    have hyr : 1 ≤ S 11 z ∧ S 11 z ≤ 5 := by assumption
    rw [ey] at hyr
    simp only [Int32.le_iff_toInt_le, Int32.reduceToInt] at hyr
    rw [nI_toInt (by omega)] at hyr
    have hX1y : μ (61 + 2 * z) 1 = nI y := hX1.trans ey
    have g5 : ¬ μ (61 + 2 * z) 1 < 1 := by
      rw [hX1y]
      simp only [Int32.lt_iff_toInt_lt, Int32.reduceToInt]
      rw [nI_toInt (by omega)]
      omega
    have g6 : μ (61 + 2 * z) 1 ≤ 5 := by
      rw [hX1y]
      simp only [Int32.le_iff_toInt_le, Int32.reduceToInt]
      rw [nI_toInt (by omega)]
      omega
    obtain ⟨a, ha, ea, eb⟩ := at_k7 hN hk
    have haP : a < nP (S 1) := by
      have h := hN.2.2.2.2.2.2.2.2.2.1 k hkn
      have h0 := (hN.2.2.2.2.2.2.2.2.1 k hk).2.2.2.2.1.1
      have : nP (S 1) = (S 1 1).toInt.toNat := rfl
      omega
    have hmr := (hN.2.2.2.2.2.2.2.2.1 k hk).2.2.1
    have em : (S 11 z).toInt.toNat = y := by
      rw [ey, nI_toInt (by omega), Int.toNat_natCast]
    (try simp (disch := omega) only [em, eb])
    have hB := k5_rowsOn X μ (S 1) (S 12) z y k hz4 (by omega) hk hN hRW hX1y hXq (y - 1) (by omega) a (tf (S 1) k 2) 7 (μ 16) (μ 20) haP hmr
    have hlb : (7 : Int32) = lbi 0 := by decide
    have hcnt := rws_cnt (N := S 1) (Q := S 12) (s := z) (z := y) (t := k) (nP_7 hN) (y - 1) (by omega) a (tf (S 1) k 2) 0
    have hok := rws_ok (N := S 1) (Q := S 12) (s := z) (z := y) (t := k) (nP_7 hN) (y - 1) a (tf (S 1) k 2) 0 ha ⟨by decide, by decide⟩
    have hRl := rwl_rws (N := S 1) (Q := S 12) (s := z) (z := y) (t := k) (nP_7 hN) (y - 1) a (tf (S 1) k 2) 0 ha ⟨by decide, by decide⟩
    rw [← hlb] at hRl
    rw [hRl, ← m6_0, show y - 1 - (y - 1) = 0 from by omega] at hB
    generalize hRg : rws (S 1) (S 12) z y k (y - 1) a (tf (S 1) k 2) 0 = R at *
    have e4 : wr μ 49 6 7 (6 + k) 4 = nI a := by rw [wr_ne (by omega)]; exact (hRW.2.2.2.2.1 k hk 4 (by decide)).trans ea
    have e2 : wr μ 49 6 7 (6 + k) 2 = tf (S 1) k 2 := by rw [wr_ne (by omega)]; exact hRW.2.2.2.2.1 k hk 2 (by decide)
    rw [← e4, ← e2] at hB
    dsimp only at hB
    have hBy : Mt X m_X5_rowsBy 10 [.ref 49, .ref (61 + 2 * z), .ref (6 + k)] μ (fun r μ' => ∃ f' g', r = some (.int R.1) ∧ μ' = M6 μ f' g' (lbi R.2)) := by
      have hB9 : Mt X m_X5_rowsOn (y - 1 + 5) [.ref 49, .ref (61 + 2 * z), .ref (6 + k), .int (wr μ 49 6 7 (6 + k) 4), .int (wr μ 49 6 7 (6 + k) 2), .int (nI 0)] (wr μ 49 6 7) (fun r μ' => ∃ f' g', r = some (.int R.1) ∧ μ' = M6 μ f' g' (lbi R.2)) := hB
      have hsh := shT hk
      clear hN hRW hR hW e4 e2 hB hcnt hok hRl hRg
      refine Mt_of ck_X5_rowsBy mf_44 rfl ?_
      repeat' first
          | ((with_reducible refine gow ck_X5_rowsBy _ [] ?_); conv => whnf)
          | ((with_reducible refine bn_t ?_ ?_); (· first | with_reducible assumption | (simp (disch := omega) only [true_and, and_true, false_and, and_false, or_false, false_or, or_true, true_or, not_true_eq_false, not_false_eq_true, ev, ew, e1, mpa_0, mpa_1, mpa_2, mpa_9, mpa_10, mpa_11, mpa_12, Int32.reduceToNatClampNeg, Int32.le_iff_toInt_le, Int32.lt_iff_toInt_lt, ← Int32.toInt_inj, nI_toInt, Int32.reduceToInt] <;> omega) | assumption | (simp (disch := omega) only [isT, isP, two, Int32.toInt_sub, Int.bmod_def, true_and, and_true, false_and, and_false, or_false, false_or, or_true, true_or, not_true_eq_false, not_false_eq_true, ev, ew, e1, mpa_0, mpa_1, mpa_2, mpa_9, mpa_10, mpa_11, mpa_12, Int32.reduceToNatClampNeg, Int32.le_iff_toInt_le, Int32.lt_iff_toInt_lt, ← Int32.toInt_inj, nI_toInt, Int32.reduceToInt] at * <;> omega) | decide); conv => whnf)
          | ((with_reducible refine bn_f ?_ ?_); (· first | with_reducible assumption | (simp (disch := omega) only [true_and, and_true, false_and, and_false, or_false, false_or, or_true, true_or, not_true_eq_false, not_false_eq_true, ev, ew, e1, mpa_0, mpa_1, mpa_2, mpa_9, mpa_10, mpa_11, mpa_12, Int32.reduceToNatClampNeg, Int32.le_iff_toInt_le, Int32.lt_iff_toInt_lt, ← Int32.toInt_inj, nI_toInt, Int32.reduceToInt] <;> omega) | assumption | (simp (disch := omega) only [isT, isP, two, Int32.toInt_sub, Int.bmod_def, true_and, and_true, false_and, and_false, or_false, false_or, or_true, true_or, not_true_eq_false, not_false_eq_true, ev, ew, e1, mpa_0, mpa_1, mpa_2, mpa_9, mpa_10, mpa_11, mpa_12, Int32.reduceToNatClampNeg, Int32.le_iff_toInt_le, Int32.lt_iff_toInt_lt, ← Int32.toInt_inj, nI_toInt, Int32.reduceToInt] at * <;> omega) | decide); conv => whnf)
          | ((with_reducible refine bc_t ?_ ?_); (· first | with_reducible assumption | (simp (disch := omega) only [true_and, and_true, false_and, and_false, or_false, false_or, or_true, true_or, not_true_eq_false, not_false_eq_true, ev, ew, e1, mpa_0, mpa_1, mpa_2, mpa_9, mpa_10, mpa_11, mpa_12, Int32.reduceToNatClampNeg, Int32.le_iff_toInt_le, Int32.lt_iff_toInt_lt, ← Int32.toInt_inj, nI_toInt, Int32.reduceToInt] <;> omega) | assumption | (simp (disch := omega) only [isT, isP, two, Int32.toInt_sub, Int.bmod_def, true_and, and_true, false_and, and_false, or_false, false_or, or_true, true_or, not_true_eq_false, not_false_eq_true, ev, ew, e1, mpa_0, mpa_1, mpa_2, mpa_9, mpa_10, mpa_11, mpa_12, Int32.reduceToNatClampNeg, Int32.le_iff_toInt_le, Int32.lt_iff_toInt_lt, ← Int32.toInt_inj, nI_toInt, Int32.reduceToInt] at * <;> omega) | decide); conv => whnf)
          | ((with_reducible refine bc_f ?_ ?_); (· first | with_reducible assumption | (simp (disch := omega) only [true_and, and_true, false_and, and_false, or_false, false_or, or_true, true_or, not_true_eq_false, not_false_eq_true, ev, ew, e1, mpa_0, mpa_1, mpa_2, mpa_9, mpa_10, mpa_11, mpa_12, Int32.reduceToNatClampNeg, Int32.le_iff_toInt_le, Int32.lt_iff_toInt_lt, ← Int32.toInt_inj, nI_toInt, Int32.reduceToInt] <;> omega) | assumption | (simp (disch := omega) only [isT, isP, two, Int32.toInt_sub, Int.bmod_def, true_and, and_true, false_and, and_false, or_false, false_or, or_true, true_or, not_true_eq_false, not_false_eq_true, ev, ew, e1, mpa_0, mpa_1, mpa_2, mpa_9, mpa_10, mpa_11, mpa_12, Int32.reduceToNatClampNeg, Int32.le_iff_toInt_le, Int32.lt_iff_toInt_lt, ← Int32.toInt_inj, nI_toInt, Int32.reduceToInt] at * <;> omega) | decide); conv => whnf)
          | ((with_reducible refine br_t ?_ ?_); (· first | with_reducible assumption | (simp (disch := omega) only [true_and, and_true, false_and, and_false, or_false, false_or, or_true, true_or, not_true_eq_false, not_false_eq_true, ev, ew, e1, mpa_0, mpa_1, mpa_2, mpa_9, mpa_10, mpa_11, mpa_12, Int32.reduceToNatClampNeg, Int32.le_iff_toInt_le, Int32.lt_iff_toInt_lt, ← Int32.toInt_inj, nI_toInt, Int32.reduceToInt] <;> omega) | assumption | (simp (disch := omega) only [isT, isP, two, Int32.toInt_sub, Int.bmod_def, true_and, and_true, false_and, and_false, or_false, false_or, or_true, true_or, not_true_eq_false, not_false_eq_true, ev, ew, e1, mpa_0, mpa_1, mpa_2, mpa_9, mpa_10, mpa_11, mpa_12, Int32.reduceToNatClampNeg, Int32.le_iff_toInt_le, Int32.lt_iff_toInt_lt, ← Int32.toInt_inj, nI_toInt, Int32.reduceToInt] at * <;> omega) | decide); conv => whnf)
          | ((with_reducible refine br_f ?_ ?_); (· first | with_reducible assumption | (simp (disch := omega) only [true_and, and_true, false_and, and_false, or_false, false_or, or_true, true_or, not_true_eq_false, not_false_eq_true, ev, ew, e1, mpa_0, mpa_1, mpa_2, mpa_9, mpa_10, mpa_11, mpa_12, Int32.reduceToNatClampNeg, Int32.le_iff_toInt_le, Int32.lt_iff_toInt_lt, ← Int32.toInt_inj, nI_toInt, Int32.reduceToInt] <;> omega) | assumption | (simp (disch := omega) only [isT, isP, two, Int32.toInt_sub, Int.bmod_def, true_and, and_true, false_and, and_false, or_false, false_or, or_true, true_or, not_true_eq_false, not_false_eq_true, ev, ew, e1, mpa_0, mpa_1, mpa_2, mpa_9, mpa_10, mpa_11, mpa_12, Int32.reduceToNatClampNeg, Int32.le_iff_toInt_le, Int32.lt_iff_toInt_lt, ← Int32.toInt_inj, nI_toInt, Int32.reduceToInt] at * <;> omega) | decide); conv => whnf)
          | ((with_reducible refine br_nt ?_ ?_); (· first | with_reducible assumption | (simp (disch := omega) only [true_and, and_true, false_and, and_false, or_false, false_or, or_true, true_or, not_true_eq_false, not_false_eq_true, ev, ew, e1, mpa_0, mpa_1, mpa_2, mpa_9, mpa_10, mpa_11, mpa_12, Int32.reduceToNatClampNeg, Int32.le_iff_toInt_le, Int32.lt_iff_toInt_lt, ← Int32.toInt_inj, nI_toInt, Int32.reduceToInt] <;> omega) | assumption | (simp (disch := omega) only [isT, isP, two, Int32.toInt_sub, Int.bmod_def, true_and, and_true, false_and, and_false, or_false, false_or, or_true, true_or, not_true_eq_false, not_false_eq_true, ev, ew, e1, mpa_0, mpa_1, mpa_2, mpa_9, mpa_10, mpa_11, mpa_12, Int32.reduceToNatClampNeg, Int32.le_iff_toInt_le, Int32.lt_iff_toInt_lt, ← Int32.toInt_inj, nI_toInt, Int32.reduceToInt] at * <;> omega) | decide); conv => whnf)
          | ((with_reducible refine br_nf ?_ ?_); (· first | with_reducible assumption | (simp (disch := omega) only [true_and, and_true, false_and, and_false, or_false, false_or, or_true, true_or, not_true_eq_false, not_false_eq_true, ev, ew, e1, mpa_0, mpa_1, mpa_2, mpa_9, mpa_10, mpa_11, mpa_12, Int32.reduceToNatClampNeg, Int32.le_iff_toInt_le, Int32.lt_iff_toInt_lt, ← Int32.toInt_inj, nI_toInt, Int32.reduceToInt] <;> omega) | assumption | (simp (disch := omega) only [isT, isP, two, Int32.toInt_sub, Int.bmod_def, true_and, and_true, false_and, and_false, or_false, false_or, or_true, true_or, not_true_eq_false, not_false_eq_true, ev, ew, e1, mpa_0, mpa_1, mpa_2, mpa_9, mpa_10, mpa_11, mpa_12, Int32.reduceToNatClampNeg, Int32.le_iff_toInt_le, Int32.lt_iff_toInt_lt, ← Int32.toInt_inj, nI_toInt, Int32.reduceToInt] at * <;> omega) | decide); conv => whnf)
          | ((with_reducible refine ckI ?_ ?_); (· first | ((with_reducible refine vp_in_nI ?_ ?_); (· omega); (· decide)) | exact vp_c (by decide) | exact ⟨_, rfl⟩ | exact Or.inl rfl | exact Or.inr rfl | exact b2_01 _); conv => whnf)
          | ((with_reducible apply cl_g); (case hM => exact hB9); (case hc => exact rfl); (case hd => first | decide | omega); intro f76 g77; conv => whnf)
          | ((rw [hsh]); conv => whnf)
          | ((with_reducible refine ckJ ?_ ?_); conv => whnf)
          | fail
      all_goals first
        | exact rcT hk
        | exact ⟨_, _, rfl, rfl⟩
    clear hB hRl hRg hB0
    refine Mt_of ck_X8_from mf_98 rfl ?_
    have hRR := hR
    clear hW hN hRW hR
    repeat' first
      | ((with_reducible refine gow ck_X8_from _ [] ?_); conv => whnf)
      | ((with_reducible refine bn_t ?_ ?_); (· first | with_reducible assumption | (simp (disch := omega) only [true_and, and_true, false_and, and_false, or_false, false_or, or_true, true_or, not_true_eq_false, not_false_eq_true, ev, ew, e1, mpa_0, mpa_1, mpa_2, mpa_9, mpa_10, mpa_11, mpa_12, Int32.reduceToNatClampNeg, Int32.le_iff_toInt_le, Int32.lt_iff_toInt_lt, ← Int32.toInt_inj, nI_toInt, Int32.reduceToInt] <;> omega) | assumption | (simp (disch := omega) only [isT, isP, two, Int32.toInt_sub, Int.bmod_def, true_and, and_true, false_and, and_false, or_false, false_or, or_true, true_or, not_true_eq_false, not_false_eq_true, ev, ew, e1, mpa_0, mpa_1, mpa_2, mpa_9, mpa_10, mpa_11, mpa_12, Int32.reduceToNatClampNeg, Int32.le_iff_toInt_le, Int32.lt_iff_toInt_lt, ← Int32.toInt_inj, nI_toInt, Int32.reduceToInt] at * <;> omega) | decide); conv => whnf)
      | ((with_reducible refine bn_f ?_ ?_); (· first | with_reducible assumption | (simp (disch := omega) only [true_and, and_true, false_and, and_false, or_false, false_or, or_true, true_or, not_true_eq_false, not_false_eq_true, ev, ew, e1, mpa_0, mpa_1, mpa_2, mpa_9, mpa_10, mpa_11, mpa_12, Int32.reduceToNatClampNeg, Int32.le_iff_toInt_le, Int32.lt_iff_toInt_lt, ← Int32.toInt_inj, nI_toInt, Int32.reduceToInt] <;> omega) | assumption | (simp (disch := omega) only [isT, isP, two, Int32.toInt_sub, Int.bmod_def, true_and, and_true, false_and, and_false, or_false, false_or, or_true, true_or, not_true_eq_false, not_false_eq_true, ev, ew, e1, mpa_0, mpa_1, mpa_2, mpa_9, mpa_10, mpa_11, mpa_12, Int32.reduceToNatClampNeg, Int32.le_iff_toInt_le, Int32.lt_iff_toInt_lt, ← Int32.toInt_inj, nI_toInt, Int32.reduceToInt] at * <;> omega) | decide); conv => whnf)
      | ((with_reducible refine bc_t ?_ ?_); (· first | with_reducible assumption | (simp (disch := omega) only [true_and, and_true, false_and, and_false, or_false, false_or, or_true, true_or, not_true_eq_false, not_false_eq_true, ev, ew, e1, mpa_0, mpa_1, mpa_2, mpa_9, mpa_10, mpa_11, mpa_12, Int32.reduceToNatClampNeg, Int32.le_iff_toInt_le, Int32.lt_iff_toInt_lt, ← Int32.toInt_inj, nI_toInt, Int32.reduceToInt] <;> omega) | assumption | (simp (disch := omega) only [isT, isP, two, Int32.toInt_sub, Int.bmod_def, true_and, and_true, false_and, and_false, or_false, false_or, or_true, true_or, not_true_eq_false, not_false_eq_true, ev, ew, e1, mpa_0, mpa_1, mpa_2, mpa_9, mpa_10, mpa_11, mpa_12, Int32.reduceToNatClampNeg, Int32.le_iff_toInt_le, Int32.lt_iff_toInt_lt, ← Int32.toInt_inj, nI_toInt, Int32.reduceToInt] at * <;> omega) | decide); conv => whnf)
      | ((with_reducible refine bc_f ?_ ?_); (· first | with_reducible assumption | (simp (disch := omega) only [true_and, and_true, false_and, and_false, or_false, false_or, or_true, true_or, not_true_eq_false, not_false_eq_true, ev, ew, e1, mpa_0, mpa_1, mpa_2, mpa_9, mpa_10, mpa_11, mpa_12, Int32.reduceToNatClampNeg, Int32.le_iff_toInt_le, Int32.lt_iff_toInt_lt, ← Int32.toInt_inj, nI_toInt, Int32.reduceToInt] <;> omega) | assumption | (simp (disch := omega) only [isT, isP, two, Int32.toInt_sub, Int.bmod_def, true_and, and_true, false_and, and_false, or_false, false_or, or_true, true_or, not_true_eq_false, not_false_eq_true, ev, ew, e1, mpa_0, mpa_1, mpa_2, mpa_9, mpa_10, mpa_11, mpa_12, Int32.reduceToNatClampNeg, Int32.le_iff_toInt_le, Int32.lt_iff_toInt_lt, ← Int32.toInt_inj, nI_toInt, Int32.reduceToInt] at * <;> omega) | decide); conv => whnf)
      | ((with_reducible refine br_t ?_ ?_); (· first | with_reducible assumption | (simp (disch := omega) only [true_and, and_true, false_and, and_false, or_false, false_or, or_true, true_or, not_true_eq_false, not_false_eq_true, ev, ew, e1, mpa_0, mpa_1, mpa_2, mpa_9, mpa_10, mpa_11, mpa_12, Int32.reduceToNatClampNeg, Int32.le_iff_toInt_le, Int32.lt_iff_toInt_lt, ← Int32.toInt_inj, nI_toInt, Int32.reduceToInt] <;> omega) | assumption | (simp (disch := omega) only [isT, isP, two, Int32.toInt_sub, Int.bmod_def, true_and, and_true, false_and, and_false, or_false, false_or, or_true, true_or, not_true_eq_false, not_false_eq_true, ev, ew, e1, mpa_0, mpa_1, mpa_2, mpa_9, mpa_10, mpa_11, mpa_12, Int32.reduceToNatClampNeg, Int32.le_iff_toInt_le, Int32.lt_iff_toInt_lt, ← Int32.toInt_inj, nI_toInt, Int32.reduceToInt] at * <;> omega) | decide); conv => whnf)
      | ((with_reducible refine br_f ?_ ?_); (· first | with_reducible assumption | (simp (disch := omega) only [true_and, and_true, false_and, and_false, or_false, false_or, or_true, true_or, not_true_eq_false, not_false_eq_true, ev, ew, e1, mpa_0, mpa_1, mpa_2, mpa_9, mpa_10, mpa_11, mpa_12, Int32.reduceToNatClampNeg, Int32.le_iff_toInt_le, Int32.lt_iff_toInt_lt, ← Int32.toInt_inj, nI_toInt, Int32.reduceToInt] <;> omega) | assumption | (simp (disch := omega) only [isT, isP, two, Int32.toInt_sub, Int.bmod_def, true_and, and_true, false_and, and_false, or_false, false_or, or_true, true_or, not_true_eq_false, not_false_eq_true, ev, ew, e1, mpa_0, mpa_1, mpa_2, mpa_9, mpa_10, mpa_11, mpa_12, Int32.reduceToNatClampNeg, Int32.le_iff_toInt_le, Int32.lt_iff_toInt_lt, ← Int32.toInt_inj, nI_toInt, Int32.reduceToInt] at * <;> omega) | decide); conv => whnf)
      | ((with_reducible refine br_nt ?_ ?_); (· first | with_reducible assumption | (simp (disch := omega) only [true_and, and_true, false_and, and_false, or_false, false_or, or_true, true_or, not_true_eq_false, not_false_eq_true, ev, ew, e1, mpa_0, mpa_1, mpa_2, mpa_9, mpa_10, mpa_11, mpa_12, Int32.reduceToNatClampNeg, Int32.le_iff_toInt_le, Int32.lt_iff_toInt_lt, ← Int32.toInt_inj, nI_toInt, Int32.reduceToInt] <;> omega) | assumption | (simp (disch := omega) only [isT, isP, two, Int32.toInt_sub, Int.bmod_def, true_and, and_true, false_and, and_false, or_false, false_or, or_true, true_or, not_true_eq_false, not_false_eq_true, ev, ew, e1, mpa_0, mpa_1, mpa_2, mpa_9, mpa_10, mpa_11, mpa_12, Int32.reduceToNatClampNeg, Int32.le_iff_toInt_le, Int32.lt_iff_toInt_lt, ← Int32.toInt_inj, nI_toInt, Int32.reduceToInt] at * <;> omega) | decide); conv => whnf)
      | ((with_reducible refine br_nf ?_ ?_); (· first | with_reducible assumption | (simp (disch := omega) only [true_and, and_true, false_and, and_false, or_false, false_or, or_true, true_or, not_true_eq_false, not_false_eq_true, ev, ew, e1, mpa_0, mpa_1, mpa_2, mpa_9, mpa_10, mpa_11, mpa_12, Int32.reduceToNatClampNeg, Int32.le_iff_toInt_le, Int32.lt_iff_toInt_lt, ← Int32.toInt_inj, nI_toInt, Int32.reduceToInt] <;> omega) | assumption | (simp (disch := omega) only [isT, isP, two, Int32.toInt_sub, Int.bmod_def, true_and, and_true, false_and, and_false, or_false, false_or, or_true, true_or, not_true_eq_false, not_false_eq_true, ev, ew, e1, mpa_0, mpa_1, mpa_2, mpa_9, mpa_10, mpa_11, mpa_12, Int32.reduceToNatClampNeg, Int32.le_iff_toInt_le, Int32.lt_iff_toInt_lt, ← Int32.toInt_inj, nI_toInt, Int32.reduceToInt] at * <;> omega) | decide); conv => whnf)
      | ((with_reducible refine ckI ?_ ?_); (· first | ((with_reducible refine vp_in_nI ?_ ?_); (· omega); (· decide)) | exact vp_c (by decide) | exact ⟨_, rfl⟩ | exact Or.inl rfl | exact Or.inr rfl | exact b2_01 _); conv => whnf)
      | ((with_reducible apply cl_p); (case hM => with_reducible exact k8_fail1 _ _); (case hc => exact rfl); (case hd => first | decide | omega); conv => whnf)
      | ((with_reducible apply cl_p); (case hM => with_reducible exact k8_fail2 _ _); (case hc => exact rfl); (case hd => first | decide | omega); conv => whnf)
      | ((with_reducible apply cl_p); (case hM => with_reducible exact k8_fail3 _ _); (case hc => exact rfl); (case hd => first | decide | omega); conv => whnf)
      | ((with_reducible apply cl_p); (case hM => with_reducible exact k8_fail4 _ _); (case hc => exact rfl); (case hd => first | decide | omega); conv => whnf)
      | ((with_reducible apply cl_p); (case hM => with_reducible exact k8_fail5 _ _); (case hc => exact rfl); (case hd => first | decide | omega); conv => whnf)
      | ((with_reducible apply cl_p); (case hM => exact k7_taleOfN _ _ k hk hlt); (case hc => exact rfl); (case hd => first | decide | omega); conv => whnf)
      | ((with_reducible apply cl_p); (case hM => exact k7_taleOf_n _ _ t pn); (case hc => exact rfl); (case hd => first | decide | omega); conv => whnf)
      | ((with_reducible apply cl_p); (case hM => with_reducible exact k7_hasPlace _ _ _); (case hc => exact rfl); (case hd => first | decide | omega); conv => whnf)
      | ((with_reducible apply cl_p); (case hM => with_reducible exact k8_isWithin _ _ _ _); (case hc => exact rfl); (case hd => first | decide | omega); conv => whnf)
      | ((with_reducible apply cl_p); (case hM => exact k8_sheetOfN _ _ z hz4); (case hc => exact rfl); (case hd => first | decide | omega); conv => whnf)
      | ((with_reducible apply cl_p); (case hM => exact k8_sheetOf_n _ _ s ps); (case hc => exact rfl); (case hd => first | decide | omega); conv => whnf)
      | ((with_reducible apply cl_p); (case hM => with_reducible exact k2_isMissing _ _ z hz4); (case hc => exact rfl); (case hd => first | decide | omega); conv => whnf)
      | ((with_reducible apply cl_p); (case hM => with_reducible exact k2_has _ _ z _ hz4); (case hc => exact rfl); (case hd => first | decide | omega); conv => whnf)
      | ((with_reducible apply cl_g); (case hM => exact hBy); (case hc => exact rfl); (case hd => first | decide | omega); intro f76 g77; conv => whnf)
      | ((rw [hsh]); conv => whnf)
      | ((with_reducible refine fun r hr => ?_); (obtain rfl := l7 hr); conv => whnf)
      | ((rw [hss]); conv => whnf)
      | ((rw [hsn]); conv => whnf)
      | ((with_reducible refine ckJ ?_ ?_); conv => whnf)
      | fail
    all_goals first
      | exact rcS hz4
      | exact rcT hk
      | (refine Pc8.of0 hRR ?_ ?_
         · rfl
         · intro i h1 h2 h3
           exact m6_ne (by omega) (by omega) (by omega))
  · rename_i h10_ h15_ hw0 hR1
    obtain rfl : w = 1 := by
      have h1 : 0 ≤ w ∧ w ≤ 1 := by assumption
      have h2 : ¬ w = 0 := by assumption
      clear hW hN hRW hR
      simp only [Int32.le_iff_toInt_le, ← Int32.toInt_inj, Int32.reduceToInt] at *
      omega
    have hs03 : 0 ≤ s ∧ s ≤ 3 := by assumption
    obtain ⟨z, hz4, rfl⟩ := in_3 hs03
    have hss := shS hz4
    have hsn := shN hz4
    obtain ⟨hX2, hX1, hXq⟩ := hR.2.2.2.2.2 z hz4
    obtain ⟨hB, hZ, hB0⟩ := hW.2.2.2 z hz4
    clear hs03
    (try simp (disch := omega) only [nI_toInt, Int.toNat_natCast] at *)
    obtain ⟨k, hk, rfl, hkn⟩ := in_T hN ‹isT (S 1) t›
    have hsh := shT hk
    have hlt : nI k < μ 1 9 := by
      rw [hRW.1.2.1]
      simp only [Int32.lt_iff_toInt_lt]
      rw [nI_toInt (by omega)]
      unfold nT at hkn
      omega
    (try simp (disch := omega) only [nI_toInt, Int.toNat_natCast] at *)
    have h10 : ¬ S 10 z = 0 := by assumption
    have g1 : ¬ μ (61 + 2 * z) 2 = 0 := fun h => h10 (hX2.symm.trans h)
    obtain ⟨y, hy, ey⟩ := of_upto (n := 40) hZ (by decide)
    have hyr : 1 ≤ S 11 z ∧ S 11 z ≤ 5 := by assumption
    rw [ey] at hyr
    simp only [Int32.le_iff_toInt_le, Int32.reduceToInt] at hyr
    rw [nI_toInt (by omega)] at hyr
    have hX1y : μ (61 + 2 * z) 1 = nI y := hX1.trans ey
    have g5 : ¬ μ (61 + 2 * z) 1 < 1 := by
      rw [hX1y]
      simp only [Int32.lt_iff_toInt_lt, Int32.reduceToInt]
      rw [nI_toInt (by omega)]
      omega
    have g6 : μ (61 + 2 * z) 1 ≤ 5 := by
      rw [hX1y]
      simp only [Int32.le_iff_toInt_le, Int32.reduceToInt]
      rw [nI_toInt (by omega)]
      omega
    obtain ⟨a, ha, ea, eb⟩ := at_k7 hN hk
    have haP : a < nP (S 1) := by
      have h := hN.2.2.2.2.2.2.2.2.2.1 k hkn
      have h0 := (hN.2.2.2.2.2.2.2.2.1 k hk).2.2.2.2.1.1
      have : nP (S 1) = (S 1 1).toInt.toNat := rfl
      omega
    have hmr := (hN.2.2.2.2.2.2.2.2.1 k hk).2.2.1
    have em : (S 11 z).toInt.toNat = y := by
      rw [ey, nI_toInt (by omega), Int.toNat_natCast]
    (try simp (disch := omega) only [em, eb] at hR1)
    (try simp (disch := omega) only [em, eb])
    have hB := k5_rowsOn X μ (S 1) (S 12) z y k hz4 (by omega) hk hN hRW hX1y hXq (y - 1) (by omega) a (tf (S 1) k 2) 7 (μ 16) (μ 20) haP hmr
    have hlb : (7 : Int32) = lbi 0 := by decide
    have hcnt := rws_cnt (N := S 1) (Q := S 12) (s := z) (z := y) (t := k) (nP_7 hN) (y - 1) (by omega) a (tf (S 1) k 2) 0
    have hok := rws_ok (N := S 1) (Q := S 12) (s := z) (z := y) (t := k) (nP_7 hN) (y - 1) a (tf (S 1) k 2) 0 ha ⟨by decide, by decide⟩
    have hRl := rwl_rws (N := S 1) (Q := S 12) (s := z) (z := y) (t := k) (nP_7 hN) (y - 1) a (tf (S 1) k 2) 0 ha ⟨by decide, by decide⟩
    rw [← hlb] at hRl
    rw [hRl, ← m6_0, show y - 1 - (y - 1) = 0 from by omega] at hB
    generalize hRg : rws (S 1) (S 12) z y k (y - 1) a (tf (S 1) k 2) 0 = R at *
    have e4 : wr μ 49 6 7 (6 + k) 4 = nI a := by rw [wr_ne (by omega)]; exact (hRW.2.2.2.2.1 k hk 4 (by decide)).trans ea
    have e2 : wr μ 49 6 7 (6 + k) 2 = tf (S 1) k 2 := by rw [wr_ne (by omega)]; exact hRW.2.2.2.2.1 k hk 2 (by decide)
    rw [← e4, ← e2] at hB
    dsimp only at hB
    have hBy : Mt X m_X5_rowsBy 10 [.ref 49, .ref (61 + 2 * z), .ref (6 + k)] μ (fun r μ' => ∃ f' g', r = some (.int R.1) ∧ μ' = M6 μ f' g' (lbi R.2)) := by
      have hB9 : Mt X m_X5_rowsOn (y - 1 + 5) [.ref 49, .ref (61 + 2 * z), .ref (6 + k), .int (wr μ 49 6 7 (6 + k) 4), .int (wr μ 49 6 7 (6 + k) 2), .int (nI 0)] (wr μ 49 6 7) (fun r μ' => ∃ f' g', r = some (.int R.1) ∧ μ' = M6 μ f' g' (lbi R.2)) := hB
      have hsh := shT hk
      clear hN hRW hR hW e4 e2 hB hcnt hok hRl hRg
      refine Mt_of ck_X5_rowsBy mf_44 rfl ?_
      repeat' first
          | ((with_reducible refine gow ck_X5_rowsBy _ [] ?_); conv => whnf)
          | ((with_reducible refine bn_t ?_ ?_); (· first | with_reducible assumption | (simp (disch := omega) only [true_and, and_true, false_and, and_false, or_false, false_or, or_true, true_or, not_true_eq_false, not_false_eq_true, ev, ew, e1, mpa_0, mpa_1, mpa_2, mpa_9, mpa_10, mpa_11, mpa_12, Int32.reduceToNatClampNeg, Int32.le_iff_toInt_le, Int32.lt_iff_toInt_lt, ← Int32.toInt_inj, nI_toInt, Int32.reduceToInt] <;> omega) | assumption | (simp (disch := omega) only [isT, isP, two, Int32.toInt_sub, Int.bmod_def, true_and, and_true, false_and, and_false, or_false, false_or, or_true, true_or, not_true_eq_false, not_false_eq_true, ev, ew, e1, mpa_0, mpa_1, mpa_2, mpa_9, mpa_10, mpa_11, mpa_12, Int32.reduceToNatClampNeg, Int32.le_iff_toInt_le, Int32.lt_iff_toInt_lt, ← Int32.toInt_inj, nI_toInt, Int32.reduceToInt] at * <;> omega) | decide); conv => whnf)
          | ((with_reducible refine bn_f ?_ ?_); (· first | with_reducible assumption | (simp (disch := omega) only [true_and, and_true, false_and, and_false, or_false, false_or, or_true, true_or, not_true_eq_false, not_false_eq_true, ev, ew, e1, mpa_0, mpa_1, mpa_2, mpa_9, mpa_10, mpa_11, mpa_12, Int32.reduceToNatClampNeg, Int32.le_iff_toInt_le, Int32.lt_iff_toInt_lt, ← Int32.toInt_inj, nI_toInt, Int32.reduceToInt] <;> omega) | assumption | (simp (disch := omega) only [isT, isP, two, Int32.toInt_sub, Int.bmod_def, true_and, and_true, false_and, and_false, or_false, false_or, or_true, true_or, not_true_eq_false, not_false_eq_true, ev, ew, e1, mpa_0, mpa_1, mpa_2, mpa_9, mpa_10, mpa_11, mpa_12, Int32.reduceToNatClampNeg, Int32.le_iff_toInt_le, Int32.lt_iff_toInt_lt, ← Int32.toInt_inj, nI_toInt, Int32.reduceToInt] at * <;> omega) | decide); conv => whnf)
          | ((with_reducible refine bc_t ?_ ?_); (· first | with_reducible assumption | (simp (disch := omega) only [true_and, and_true, false_and, and_false, or_false, false_or, or_true, true_or, not_true_eq_false, not_false_eq_true, ev, ew, e1, mpa_0, mpa_1, mpa_2, mpa_9, mpa_10, mpa_11, mpa_12, Int32.reduceToNatClampNeg, Int32.le_iff_toInt_le, Int32.lt_iff_toInt_lt, ← Int32.toInt_inj, nI_toInt, Int32.reduceToInt] <;> omega) | assumption | (simp (disch := omega) only [isT, isP, two, Int32.toInt_sub, Int.bmod_def, true_and, and_true, false_and, and_false, or_false, false_or, or_true, true_or, not_true_eq_false, not_false_eq_true, ev, ew, e1, mpa_0, mpa_1, mpa_2, mpa_9, mpa_10, mpa_11, mpa_12, Int32.reduceToNatClampNeg, Int32.le_iff_toInt_le, Int32.lt_iff_toInt_lt, ← Int32.toInt_inj, nI_toInt, Int32.reduceToInt] at * <;> omega) | decide); conv => whnf)
          | ((with_reducible refine bc_f ?_ ?_); (· first | with_reducible assumption | (simp (disch := omega) only [true_and, and_true, false_and, and_false, or_false, false_or, or_true, true_or, not_true_eq_false, not_false_eq_true, ev, ew, e1, mpa_0, mpa_1, mpa_2, mpa_9, mpa_10, mpa_11, mpa_12, Int32.reduceToNatClampNeg, Int32.le_iff_toInt_le, Int32.lt_iff_toInt_lt, ← Int32.toInt_inj, nI_toInt, Int32.reduceToInt] <;> omega) | assumption | (simp (disch := omega) only [isT, isP, two, Int32.toInt_sub, Int.bmod_def, true_and, and_true, false_and, and_false, or_false, false_or, or_true, true_or, not_true_eq_false, not_false_eq_true, ev, ew, e1, mpa_0, mpa_1, mpa_2, mpa_9, mpa_10, mpa_11, mpa_12, Int32.reduceToNatClampNeg, Int32.le_iff_toInt_le, Int32.lt_iff_toInt_lt, ← Int32.toInt_inj, nI_toInt, Int32.reduceToInt] at * <;> omega) | decide); conv => whnf)
          | ((with_reducible refine br_t ?_ ?_); (· first | with_reducible assumption | (simp (disch := omega) only [true_and, and_true, false_and, and_false, or_false, false_or, or_true, true_or, not_true_eq_false, not_false_eq_true, ev, ew, e1, mpa_0, mpa_1, mpa_2, mpa_9, mpa_10, mpa_11, mpa_12, Int32.reduceToNatClampNeg, Int32.le_iff_toInt_le, Int32.lt_iff_toInt_lt, ← Int32.toInt_inj, nI_toInt, Int32.reduceToInt] <;> omega) | assumption | (simp (disch := omega) only [isT, isP, two, Int32.toInt_sub, Int.bmod_def, true_and, and_true, false_and, and_false, or_false, false_or, or_true, true_or, not_true_eq_false, not_false_eq_true, ev, ew, e1, mpa_0, mpa_1, mpa_2, mpa_9, mpa_10, mpa_11, mpa_12, Int32.reduceToNatClampNeg, Int32.le_iff_toInt_le, Int32.lt_iff_toInt_lt, ← Int32.toInt_inj, nI_toInt, Int32.reduceToInt] at * <;> omega) | decide); conv => whnf)
          | ((with_reducible refine br_f ?_ ?_); (· first | with_reducible assumption | (simp (disch := omega) only [true_and, and_true, false_and, and_false, or_false, false_or, or_true, true_or, not_true_eq_false, not_false_eq_true, ev, ew, e1, mpa_0, mpa_1, mpa_2, mpa_9, mpa_10, mpa_11, mpa_12, Int32.reduceToNatClampNeg, Int32.le_iff_toInt_le, Int32.lt_iff_toInt_lt, ← Int32.toInt_inj, nI_toInt, Int32.reduceToInt] <;> omega) | assumption | (simp (disch := omega) only [isT, isP, two, Int32.toInt_sub, Int.bmod_def, true_and, and_true, false_and, and_false, or_false, false_or, or_true, true_or, not_true_eq_false, not_false_eq_true, ev, ew, e1, mpa_0, mpa_1, mpa_2, mpa_9, mpa_10, mpa_11, mpa_12, Int32.reduceToNatClampNeg, Int32.le_iff_toInt_le, Int32.lt_iff_toInt_lt, ← Int32.toInt_inj, nI_toInt, Int32.reduceToInt] at * <;> omega) | decide); conv => whnf)
          | ((with_reducible refine br_nt ?_ ?_); (· first | with_reducible assumption | (simp (disch := omega) only [true_and, and_true, false_and, and_false, or_false, false_or, or_true, true_or, not_true_eq_false, not_false_eq_true, ev, ew, e1, mpa_0, mpa_1, mpa_2, mpa_9, mpa_10, mpa_11, mpa_12, Int32.reduceToNatClampNeg, Int32.le_iff_toInt_le, Int32.lt_iff_toInt_lt, ← Int32.toInt_inj, nI_toInt, Int32.reduceToInt] <;> omega) | assumption | (simp (disch := omega) only [isT, isP, two, Int32.toInt_sub, Int.bmod_def, true_and, and_true, false_and, and_false, or_false, false_or, or_true, true_or, not_true_eq_false, not_false_eq_true, ev, ew, e1, mpa_0, mpa_1, mpa_2, mpa_9, mpa_10, mpa_11, mpa_12, Int32.reduceToNatClampNeg, Int32.le_iff_toInt_le, Int32.lt_iff_toInt_lt, ← Int32.toInt_inj, nI_toInt, Int32.reduceToInt] at * <;> omega) | decide); conv => whnf)
          | ((with_reducible refine br_nf ?_ ?_); (· first | with_reducible assumption | (simp (disch := omega) only [true_and, and_true, false_and, and_false, or_false, false_or, or_true, true_or, not_true_eq_false, not_false_eq_true, ev, ew, e1, mpa_0, mpa_1, mpa_2, mpa_9, mpa_10, mpa_11, mpa_12, Int32.reduceToNatClampNeg, Int32.le_iff_toInt_le, Int32.lt_iff_toInt_lt, ← Int32.toInt_inj, nI_toInt, Int32.reduceToInt] <;> omega) | assumption | (simp (disch := omega) only [isT, isP, two, Int32.toInt_sub, Int.bmod_def, true_and, and_true, false_and, and_false, or_false, false_or, or_true, true_or, not_true_eq_false, not_false_eq_true, ev, ew, e1, mpa_0, mpa_1, mpa_2, mpa_9, mpa_10, mpa_11, mpa_12, Int32.reduceToNatClampNeg, Int32.le_iff_toInt_le, Int32.lt_iff_toInt_lt, ← Int32.toInt_inj, nI_toInt, Int32.reduceToInt] at * <;> omega) | decide); conv => whnf)
          | ((with_reducible refine ckI ?_ ?_); (· first | ((with_reducible refine vp_in_nI ?_ ?_); (· omega); (· decide)) | exact vp_c (by decide) | exact ⟨_, rfl⟩ | exact Or.inl rfl | exact Or.inr rfl | exact b2_01 _); conv => whnf)
          | ((with_reducible apply cl_g); (case hM => exact hB9); (case hc => exact rfl); (case hd => first | decide | omega); intro f76 g77; conv => whnf)
          | ((rw [hsh]); conv => whnf)
          | ((with_reducible refine ckJ ?_ ?_); conv => whnf)
          | fail
      all_goals first
        | exact rcT hk
        | exact ⟨_, _, rfl, rfl⟩
    clear hB hRl hRg hB0
    have g7 : R.1 ≤ 0 := by rw [hR1]; decide
    clear hcnt hok
    refine Mt_of ck_X8_from mf_98 rfl ?_
    have hRR := hR
    clear hW hN hRW hR
    repeat' first
      | ((with_reducible refine gow ck_X8_from _ [] ?_); conv => whnf)
      | ((with_reducible refine bn_t ?_ ?_); (· first | with_reducible assumption | (simp (disch := omega) only [true_and, and_true, false_and, and_false, or_false, false_or, or_true, true_or, not_true_eq_false, not_false_eq_true, ev, ew, e1, mpa_0, mpa_1, mpa_2, mpa_9, mpa_10, mpa_11, mpa_12, Int32.reduceToNatClampNeg, Int32.le_iff_toInt_le, Int32.lt_iff_toInt_lt, ← Int32.toInt_inj, nI_toInt, Int32.reduceToInt] <;> omega) | assumption | (simp (disch := omega) only [isT, isP, two, Int32.toInt_sub, Int.bmod_def, true_and, and_true, false_and, and_false, or_false, false_or, or_true, true_or, not_true_eq_false, not_false_eq_true, ev, ew, e1, mpa_0, mpa_1, mpa_2, mpa_9, mpa_10, mpa_11, mpa_12, Int32.reduceToNatClampNeg, Int32.le_iff_toInt_le, Int32.lt_iff_toInt_lt, ← Int32.toInt_inj, nI_toInt, Int32.reduceToInt] at * <;> omega) | decide); conv => whnf)
      | ((with_reducible refine bn_f ?_ ?_); (· first | with_reducible assumption | (simp (disch := omega) only [true_and, and_true, false_and, and_false, or_false, false_or, or_true, true_or, not_true_eq_false, not_false_eq_true, ev, ew, e1, mpa_0, mpa_1, mpa_2, mpa_9, mpa_10, mpa_11, mpa_12, Int32.reduceToNatClampNeg, Int32.le_iff_toInt_le, Int32.lt_iff_toInt_lt, ← Int32.toInt_inj, nI_toInt, Int32.reduceToInt] <;> omega) | assumption | (simp (disch := omega) only [isT, isP, two, Int32.toInt_sub, Int.bmod_def, true_and, and_true, false_and, and_false, or_false, false_or, or_true, true_or, not_true_eq_false, not_false_eq_true, ev, ew, e1, mpa_0, mpa_1, mpa_2, mpa_9, mpa_10, mpa_11, mpa_12, Int32.reduceToNatClampNeg, Int32.le_iff_toInt_le, Int32.lt_iff_toInt_lt, ← Int32.toInt_inj, nI_toInt, Int32.reduceToInt] at * <;> omega) | decide); conv => whnf)
      | ((with_reducible refine bc_t ?_ ?_); (· first | with_reducible assumption | (simp (disch := omega) only [true_and, and_true, false_and, and_false, or_false, false_or, or_true, true_or, not_true_eq_false, not_false_eq_true, ev, ew, e1, mpa_0, mpa_1, mpa_2, mpa_9, mpa_10, mpa_11, mpa_12, Int32.reduceToNatClampNeg, Int32.le_iff_toInt_le, Int32.lt_iff_toInt_lt, ← Int32.toInt_inj, nI_toInt, Int32.reduceToInt] <;> omega) | assumption | (simp (disch := omega) only [isT, isP, two, Int32.toInt_sub, Int.bmod_def, true_and, and_true, false_and, and_false, or_false, false_or, or_true, true_or, not_true_eq_false, not_false_eq_true, ev, ew, e1, mpa_0, mpa_1, mpa_2, mpa_9, mpa_10, mpa_11, mpa_12, Int32.reduceToNatClampNeg, Int32.le_iff_toInt_le, Int32.lt_iff_toInt_lt, ← Int32.toInt_inj, nI_toInt, Int32.reduceToInt] at * <;> omega) | decide); conv => whnf)
      | ((with_reducible refine bc_f ?_ ?_); (· first | with_reducible assumption | (simp (disch := omega) only [true_and, and_true, false_and, and_false, or_false, false_or, or_true, true_or, not_true_eq_false, not_false_eq_true, ev, ew, e1, mpa_0, mpa_1, mpa_2, mpa_9, mpa_10, mpa_11, mpa_12, Int32.reduceToNatClampNeg, Int32.le_iff_toInt_le, Int32.lt_iff_toInt_lt, ← Int32.toInt_inj, nI_toInt, Int32.reduceToInt] <;> omega) | assumption | (simp (disch := omega) only [isT, isP, two, Int32.toInt_sub, Int.bmod_def, true_and, and_true, false_and, and_false, or_false, false_or, or_true, true_or, not_true_eq_false, not_false_eq_true, ev, ew, e1, mpa_0, mpa_1, mpa_2, mpa_9, mpa_10, mpa_11, mpa_12, Int32.reduceToNatClampNeg, Int32.le_iff_toInt_le, Int32.lt_iff_toInt_lt, ← Int32.toInt_inj, nI_toInt, Int32.reduceToInt] at * <;> omega) | decide); conv => whnf)
      | ((with_reducible refine br_t ?_ ?_); (· first | with_reducible assumption | (simp (disch := omega) only [true_and, and_true, false_and, and_false, or_false, false_or, or_true, true_or, not_true_eq_false, not_false_eq_true, ev, ew, e1, mpa_0, mpa_1, mpa_2, mpa_9, mpa_10, mpa_11, mpa_12, Int32.reduceToNatClampNeg, Int32.le_iff_toInt_le, Int32.lt_iff_toInt_lt, ← Int32.toInt_inj, nI_toInt, Int32.reduceToInt] <;> omega) | assumption | (simp (disch := omega) only [isT, isP, two, Int32.toInt_sub, Int.bmod_def, true_and, and_true, false_and, and_false, or_false, false_or, or_true, true_or, not_true_eq_false, not_false_eq_true, ev, ew, e1, mpa_0, mpa_1, mpa_2, mpa_9, mpa_10, mpa_11, mpa_12, Int32.reduceToNatClampNeg, Int32.le_iff_toInt_le, Int32.lt_iff_toInt_lt, ← Int32.toInt_inj, nI_toInt, Int32.reduceToInt] at * <;> omega) | decide); conv => whnf)
      | ((with_reducible refine br_f ?_ ?_); (· first | with_reducible assumption | (simp (disch := omega) only [true_and, and_true, false_and, and_false, or_false, false_or, or_true, true_or, not_true_eq_false, not_false_eq_true, ev, ew, e1, mpa_0, mpa_1, mpa_2, mpa_9, mpa_10, mpa_11, mpa_12, Int32.reduceToNatClampNeg, Int32.le_iff_toInt_le, Int32.lt_iff_toInt_lt, ← Int32.toInt_inj, nI_toInt, Int32.reduceToInt] <;> omega) | assumption | (simp (disch := omega) only [isT, isP, two, Int32.toInt_sub, Int.bmod_def, true_and, and_true, false_and, and_false, or_false, false_or, or_true, true_or, not_true_eq_false, not_false_eq_true, ev, ew, e1, mpa_0, mpa_1, mpa_2, mpa_9, mpa_10, mpa_11, mpa_12, Int32.reduceToNatClampNeg, Int32.le_iff_toInt_le, Int32.lt_iff_toInt_lt, ← Int32.toInt_inj, nI_toInt, Int32.reduceToInt] at * <;> omega) | decide); conv => whnf)
      | ((with_reducible refine br_nt ?_ ?_); (· first | with_reducible assumption | (simp (disch := omega) only [true_and, and_true, false_and, and_false, or_false, false_or, or_true, true_or, not_true_eq_false, not_false_eq_true, ev, ew, e1, mpa_0, mpa_1, mpa_2, mpa_9, mpa_10, mpa_11, mpa_12, Int32.reduceToNatClampNeg, Int32.le_iff_toInt_le, Int32.lt_iff_toInt_lt, ← Int32.toInt_inj, nI_toInt, Int32.reduceToInt] <;> omega) | assumption | (simp (disch := omega) only [isT, isP, two, Int32.toInt_sub, Int.bmod_def, true_and, and_true, false_and, and_false, or_false, false_or, or_true, true_or, not_true_eq_false, not_false_eq_true, ev, ew, e1, mpa_0, mpa_1, mpa_2, mpa_9, mpa_10, mpa_11, mpa_12, Int32.reduceToNatClampNeg, Int32.le_iff_toInt_le, Int32.lt_iff_toInt_lt, ← Int32.toInt_inj, nI_toInt, Int32.reduceToInt] at * <;> omega) | decide); conv => whnf)
      | ((with_reducible refine br_nf ?_ ?_); (· first | with_reducible assumption | (simp (disch := omega) only [true_and, and_true, false_and, and_false, or_false, false_or, or_true, true_or, not_true_eq_false, not_false_eq_true, ev, ew, e1, mpa_0, mpa_1, mpa_2, mpa_9, mpa_10, mpa_11, mpa_12, Int32.reduceToNatClampNeg, Int32.le_iff_toInt_le, Int32.lt_iff_toInt_lt, ← Int32.toInt_inj, nI_toInt, Int32.reduceToInt] <;> omega) | assumption | (simp (disch := omega) only [isT, isP, two, Int32.toInt_sub, Int.bmod_def, true_and, and_true, false_and, and_false, or_false, false_or, or_true, true_or, not_true_eq_false, not_false_eq_true, ev, ew, e1, mpa_0, mpa_1, mpa_2, mpa_9, mpa_10, mpa_11, mpa_12, Int32.reduceToNatClampNeg, Int32.le_iff_toInt_le, Int32.lt_iff_toInt_lt, ← Int32.toInt_inj, nI_toInt, Int32.reduceToInt] at * <;> omega) | decide); conv => whnf)
      | ((with_reducible refine ckI ?_ ?_); (· first | ((with_reducible refine vp_in_nI ?_ ?_); (· omega); (· decide)) | exact vp_c (by decide) | exact ⟨_, rfl⟩ | exact Or.inl rfl | exact Or.inr rfl | exact b2_01 _); conv => whnf)
      | ((with_reducible apply cl_p); (case hM => with_reducible exact k8_fail1 _ _); (case hc => exact rfl); (case hd => first | decide | omega); conv => whnf)
      | ((with_reducible apply cl_p); (case hM => with_reducible exact k8_fail2 _ _); (case hc => exact rfl); (case hd => first | decide | omega); conv => whnf)
      | ((with_reducible apply cl_p); (case hM => with_reducible exact k8_fail3 _ _); (case hc => exact rfl); (case hd => first | decide | omega); conv => whnf)
      | ((with_reducible apply cl_p); (case hM => with_reducible exact k8_fail4 _ _); (case hc => exact rfl); (case hd => first | decide | omega); conv => whnf)
      | ((with_reducible apply cl_p); (case hM => with_reducible exact k8_fail5 _ _); (case hc => exact rfl); (case hd => first | decide | omega); conv => whnf)
      | ((with_reducible apply cl_p); (case hM => exact k7_taleOfN _ _ k hk hlt); (case hc => exact rfl); (case hd => first | decide | omega); conv => whnf)
      | ((with_reducible apply cl_p); (case hM => exact k7_taleOf_n _ _ t pn); (case hc => exact rfl); (case hd => first | decide | omega); conv => whnf)
      | ((with_reducible apply cl_p); (case hM => with_reducible exact k7_hasPlace _ _ _); (case hc => exact rfl); (case hd => first | decide | omega); conv => whnf)
      | ((with_reducible apply cl_p); (case hM => with_reducible exact k8_isWithin _ _ _ _); (case hc => exact rfl); (case hd => first | decide | omega); conv => whnf)
      | ((with_reducible apply cl_p); (case hM => exact k8_sheetOfN _ _ z hz4); (case hc => exact rfl); (case hd => first | decide | omega); conv => whnf)
      | ((with_reducible apply cl_p); (case hM => exact k8_sheetOf_n _ _ s ps); (case hc => exact rfl); (case hd => first | decide | omega); conv => whnf)
      | ((with_reducible apply cl_p); (case hM => with_reducible exact k2_isMissing _ _ z hz4); (case hc => exact rfl); (case hd => first | decide | omega); conv => whnf)
      | ((with_reducible apply cl_p); (case hM => with_reducible exact k2_has _ _ z _ hz4); (case hc => exact rfl); (case hd => first | decide | omega); conv => whnf)
      | ((with_reducible apply cl_g); (case hM => exact hBy); (case hc => exact rfl); (case hd => first | decide | omega); intro f76 g77; conv => whnf)
      | ((rw [hsh]); conv => whnf)
      | ((with_reducible refine fun r hr => ?_); (obtain rfl := l7 hr); conv => whnf)
      | ((rw [hss]); conv => whnf)
      | ((rw [hsn]); conv => whnf)
      | ((with_reducible refine ckJ ?_ ?_); conv => whnf)
      | fail
    all_goals first
      | exact rcS hz4
      | exact rcT hk
      | (refine Pc8.of rfl ?_ ?_
         · refine (RC.of0 hRR ?_).er 2
           intro i h1 h2 h3 h4
           exact m6_ne (by omega) (by omega) (by omega)
         · intro i hi
           rw [wr_ne (by omega)]
           exact m6_ne (by omega) (by omega) (by omega))
  · rename_i h10_ h15_ hw0 hR1
    obtain rfl : w = 1 := by
      have h1 : 0 ≤ w ∧ w ≤ 1 := by assumption
      have h2 : ¬ w = 0 := by assumption
      clear hW hN hRW hR
      simp only [Int32.le_iff_toInt_le, ← Int32.toInt_inj, Int32.reduceToInt] at *
      omega
    have hs03 : 0 ≤ s ∧ s ≤ 3 := by assumption
    obtain ⟨z, hz4, rfl⟩ := in_3 hs03
    have hss := shS hz4
    have hsn := shN hz4
    obtain ⟨hX2, hX1, hXq⟩ := hR.2.2.2.2.2 z hz4
    obtain ⟨hB, hZ, hB0⟩ := hW.2.2.2 z hz4
    clear hs03
    (try simp (disch := omega) only [nI_toInt, Int.toNat_natCast] at *)
    obtain ⟨k, hk, rfl, hkn⟩ := in_T hN ‹isT (S 1) t›
    have hsh := shT hk
    have hlt : nI k < μ 1 9 := by
      rw [hRW.1.2.1]
      simp only [Int32.lt_iff_toInt_lt]
      rw [nI_toInt (by omega)]
      unfold nT at hkn
      omega
    (try simp (disch := omega) only [nI_toInt, Int.toNat_natCast] at *)
    have h10 : ¬ S 10 z = 0 := by assumption
    have g1 : ¬ μ (61 + 2 * z) 2 = 0 := fun h => h10 (hX2.symm.trans h)
    obtain ⟨y, hy, ey⟩ := of_upto (n := 40) hZ (by decide)
    have hyr : 1 ≤ S 11 z ∧ S 11 z ≤ 5 := by assumption
    rw [ey] at hyr
    simp only [Int32.le_iff_toInt_le, Int32.reduceToInt] at hyr
    rw [nI_toInt (by omega)] at hyr
    have hX1y : μ (61 + 2 * z) 1 = nI y := hX1.trans ey
    have g5 : ¬ μ (61 + 2 * z) 1 < 1 := by
      rw [hX1y]
      simp only [Int32.lt_iff_toInt_lt, Int32.reduceToInt]
      rw [nI_toInt (by omega)]
      omega
    have g6 : μ (61 + 2 * z) 1 ≤ 5 := by
      rw [hX1y]
      simp only [Int32.le_iff_toInt_le, Int32.reduceToInt]
      rw [nI_toInt (by omega)]
      omega
    obtain ⟨a, ha, ea, eb⟩ := at_k7 hN hk
    have haP : a < nP (S 1) := by
      have h := hN.2.2.2.2.2.2.2.2.2.1 k hkn
      have h0 := (hN.2.2.2.2.2.2.2.2.1 k hk).2.2.2.2.1.1
      have : nP (S 1) = (S 1 1).toInt.toNat := rfl
      omega
    have hmr := (hN.2.2.2.2.2.2.2.2.1 k hk).2.2.1
    have em : (S 11 z).toInt.toNat = y := by
      rw [ey, nI_toInt (by omega), Int.toNat_natCast]
    (try simp (disch := omega) only [em, eb] at hR1)
    (try simp (disch := omega) only [em, eb])
    have hB := k5_rowsOn X μ (S 1) (S 12) z y k hz4 (by omega) hk hN hRW hX1y hXq (y - 1) (by omega) a (tf (S 1) k 2) 7 (μ 16) (μ 20) haP hmr
    have hlb : (7 : Int32) = lbi 0 := by decide
    have hcnt := rws_cnt (N := S 1) (Q := S 12) (s := z) (z := y) (t := k) (nP_7 hN) (y - 1) (by omega) a (tf (S 1) k 2) 0
    have hok := rws_ok (N := S 1) (Q := S 12) (s := z) (z := y) (t := k) (nP_7 hN) (y - 1) a (tf (S 1) k 2) 0 ha ⟨by decide, by decide⟩
    have hRl := rwl_rws (N := S 1) (Q := S 12) (s := z) (z := y) (t := k) (nP_7 hN) (y - 1) a (tf (S 1) k 2) 0 ha ⟨by decide, by decide⟩
    rw [← hlb] at hRl
    rw [hRl, ← m6_0, show y - 1 - (y - 1) = 0 from by omega] at hB
    generalize hRg : rws (S 1) (S 12) z y k (y - 1) a (tf (S 1) k 2) 0 = R at *
    have e4 : wr μ 49 6 7 (6 + k) 4 = nI a := by rw [wr_ne (by omega)]; exact (hRW.2.2.2.2.1 k hk 4 (by decide)).trans ea
    have e2 : wr μ 49 6 7 (6 + k) 2 = tf (S 1) k 2 := by rw [wr_ne (by omega)]; exact hRW.2.2.2.2.1 k hk 2 (by decide)
    rw [← e4, ← e2] at hB
    dsimp only at hB
    have hBy : Mt X m_X5_rowsBy 10 [.ref 49, .ref (61 + 2 * z), .ref (6 + k)] μ (fun r μ' => ∃ f' g', r = some (.int R.1) ∧ μ' = M6 μ f' g' (lbi R.2)) := by
      have hB9 : Mt X m_X5_rowsOn (y - 1 + 5) [.ref 49, .ref (61 + 2 * z), .ref (6 + k), .int (wr μ 49 6 7 (6 + k) 4), .int (wr μ 49 6 7 (6 + k) 2), .int (nI 0)] (wr μ 49 6 7) (fun r μ' => ∃ f' g', r = some (.int R.1) ∧ μ' = M6 μ f' g' (lbi R.2)) := hB
      have hsh := shT hk
      clear hN hRW hR hW e4 e2 hB hcnt hok hRl hRg
      refine Mt_of ck_X5_rowsBy mf_44 rfl ?_
      repeat' first
          | ((with_reducible refine gow ck_X5_rowsBy _ [] ?_); conv => whnf)
          | ((with_reducible refine bn_t ?_ ?_); (· first | with_reducible assumption | (simp (disch := omega) only [true_and, and_true, false_and, and_false, or_false, false_or, or_true, true_or, not_true_eq_false, not_false_eq_true, ev, ew, e1, mpa_0, mpa_1, mpa_2, mpa_9, mpa_10, mpa_11, mpa_12, Int32.reduceToNatClampNeg, Int32.le_iff_toInt_le, Int32.lt_iff_toInt_lt, ← Int32.toInt_inj, nI_toInt, Int32.reduceToInt] <;> omega) | assumption | (simp (disch := omega) only [isT, isP, two, Int32.toInt_sub, Int.bmod_def, true_and, and_true, false_and, and_false, or_false, false_or, or_true, true_or, not_true_eq_false, not_false_eq_true, ev, ew, e1, mpa_0, mpa_1, mpa_2, mpa_9, mpa_10, mpa_11, mpa_12, Int32.reduceToNatClampNeg, Int32.le_iff_toInt_le, Int32.lt_iff_toInt_lt, ← Int32.toInt_inj, nI_toInt, Int32.reduceToInt] at * <;> omega) | decide); conv => whnf)
          | ((with_reducible refine bn_f ?_ ?_); (· first | with_reducible assumption | (simp (disch := omega) only [true_and, and_true, false_and, and_false, or_false, false_or, or_true, true_or, not_true_eq_false, not_false_eq_true, ev, ew, e1, mpa_0, mpa_1, mpa_2, mpa_9, mpa_10, mpa_11, mpa_12, Int32.reduceToNatClampNeg, Int32.le_iff_toInt_le, Int32.lt_iff_toInt_lt, ← Int32.toInt_inj, nI_toInt, Int32.reduceToInt] <;> omega) | assumption | (simp (disch := omega) only [isT, isP, two, Int32.toInt_sub, Int.bmod_def, true_and, and_true, false_and, and_false, or_false, false_or, or_true, true_or, not_true_eq_false, not_false_eq_true, ev, ew, e1, mpa_0, mpa_1, mpa_2, mpa_9, mpa_10, mpa_11, mpa_12, Int32.reduceToNatClampNeg, Int32.le_iff_toInt_le, Int32.lt_iff_toInt_lt, ← Int32.toInt_inj, nI_toInt, Int32.reduceToInt] at * <;> omega) | decide); conv => whnf)
          | ((with_reducible refine bc_t ?_ ?_); (· first | with_reducible assumption | (simp (disch := omega) only [true_and, and_true, false_and, and_false, or_false, false_or, or_true, true_or, not_true_eq_false, not_false_eq_true, ev, ew, e1, mpa_0, mpa_1, mpa_2, mpa_9, mpa_10, mpa_11, mpa_12, Int32.reduceToNatClampNeg, Int32.le_iff_toInt_le, Int32.lt_iff_toInt_lt, ← Int32.toInt_inj, nI_toInt, Int32.reduceToInt] <;> omega) | assumption | (simp (disch := omega) only [isT, isP, two, Int32.toInt_sub, Int.bmod_def, true_and, and_true, false_and, and_false, or_false, false_or, or_true, true_or, not_true_eq_false, not_false_eq_true, ev, ew, e1, mpa_0, mpa_1, mpa_2, mpa_9, mpa_10, mpa_11, mpa_12, Int32.reduceToNatClampNeg, Int32.le_iff_toInt_le, Int32.lt_iff_toInt_lt, ← Int32.toInt_inj, nI_toInt, Int32.reduceToInt] at * <;> omega) | decide); conv => whnf)
          | ((with_reducible refine bc_f ?_ ?_); (· first | with_reducible assumption | (simp (disch := omega) only [true_and, and_true, false_and, and_false, or_false, false_or, or_true, true_or, not_true_eq_false, not_false_eq_true, ev, ew, e1, mpa_0, mpa_1, mpa_2, mpa_9, mpa_10, mpa_11, mpa_12, Int32.reduceToNatClampNeg, Int32.le_iff_toInt_le, Int32.lt_iff_toInt_lt, ← Int32.toInt_inj, nI_toInt, Int32.reduceToInt] <;> omega) | assumption | (simp (disch := omega) only [isT, isP, two, Int32.toInt_sub, Int.bmod_def, true_and, and_true, false_and, and_false, or_false, false_or, or_true, true_or, not_true_eq_false, not_false_eq_true, ev, ew, e1, mpa_0, mpa_1, mpa_2, mpa_9, mpa_10, mpa_11, mpa_12, Int32.reduceToNatClampNeg, Int32.le_iff_toInt_le, Int32.lt_iff_toInt_lt, ← Int32.toInt_inj, nI_toInt, Int32.reduceToInt] at * <;> omega) | decide); conv => whnf)
          | ((with_reducible refine br_t ?_ ?_); (· first | with_reducible assumption | (simp (disch := omega) only [true_and, and_true, false_and, and_false, or_false, false_or, or_true, true_or, not_true_eq_false, not_false_eq_true, ev, ew, e1, mpa_0, mpa_1, mpa_2, mpa_9, mpa_10, mpa_11, mpa_12, Int32.reduceToNatClampNeg, Int32.le_iff_toInt_le, Int32.lt_iff_toInt_lt, ← Int32.toInt_inj, nI_toInt, Int32.reduceToInt] <;> omega) | assumption | (simp (disch := omega) only [isT, isP, two, Int32.toInt_sub, Int.bmod_def, true_and, and_true, false_and, and_false, or_false, false_or, or_true, true_or, not_true_eq_false, not_false_eq_true, ev, ew, e1, mpa_0, mpa_1, mpa_2, mpa_9, mpa_10, mpa_11, mpa_12, Int32.reduceToNatClampNeg, Int32.le_iff_toInt_le, Int32.lt_iff_toInt_lt, ← Int32.toInt_inj, nI_toInt, Int32.reduceToInt] at * <;> omega) | decide); conv => whnf)
          | ((with_reducible refine br_f ?_ ?_); (· first | with_reducible assumption | (simp (disch := omega) only [true_and, and_true, false_and, and_false, or_false, false_or, or_true, true_or, not_true_eq_false, not_false_eq_true, ev, ew, e1, mpa_0, mpa_1, mpa_2, mpa_9, mpa_10, mpa_11, mpa_12, Int32.reduceToNatClampNeg, Int32.le_iff_toInt_le, Int32.lt_iff_toInt_lt, ← Int32.toInt_inj, nI_toInt, Int32.reduceToInt] <;> omega) | assumption | (simp (disch := omega) only [isT, isP, two, Int32.toInt_sub, Int.bmod_def, true_and, and_true, false_and, and_false, or_false, false_or, or_true, true_or, not_true_eq_false, not_false_eq_true, ev, ew, e1, mpa_0, mpa_1, mpa_2, mpa_9, mpa_10, mpa_11, mpa_12, Int32.reduceToNatClampNeg, Int32.le_iff_toInt_le, Int32.lt_iff_toInt_lt, ← Int32.toInt_inj, nI_toInt, Int32.reduceToInt] at * <;> omega) | decide); conv => whnf)
          | ((with_reducible refine br_nt ?_ ?_); (· first | with_reducible assumption | (simp (disch := omega) only [true_and, and_true, false_and, and_false, or_false, false_or, or_true, true_or, not_true_eq_false, not_false_eq_true, ev, ew, e1, mpa_0, mpa_1, mpa_2, mpa_9, mpa_10, mpa_11, mpa_12, Int32.reduceToNatClampNeg, Int32.le_iff_toInt_le, Int32.lt_iff_toInt_lt, ← Int32.toInt_inj, nI_toInt, Int32.reduceToInt] <;> omega) | assumption | (simp (disch := omega) only [isT, isP, two, Int32.toInt_sub, Int.bmod_def, true_and, and_true, false_and, and_false, or_false, false_or, or_true, true_or, not_true_eq_false, not_false_eq_true, ev, ew, e1, mpa_0, mpa_1, mpa_2, mpa_9, mpa_10, mpa_11, mpa_12, Int32.reduceToNatClampNeg, Int32.le_iff_toInt_le, Int32.lt_iff_toInt_lt, ← Int32.toInt_inj, nI_toInt, Int32.reduceToInt] at * <;> omega) | decide); conv => whnf)
          | ((with_reducible refine br_nf ?_ ?_); (· first | with_reducible assumption | (simp (disch := omega) only [true_and, and_true, false_and, and_false, or_false, false_or, or_true, true_or, not_true_eq_false, not_false_eq_true, ev, ew, e1, mpa_0, mpa_1, mpa_2, mpa_9, mpa_10, mpa_11, mpa_12, Int32.reduceToNatClampNeg, Int32.le_iff_toInt_le, Int32.lt_iff_toInt_lt, ← Int32.toInt_inj, nI_toInt, Int32.reduceToInt] <;> omega) | assumption | (simp (disch := omega) only [isT, isP, two, Int32.toInt_sub, Int.bmod_def, true_and, and_true, false_and, and_false, or_false, false_or, or_true, true_or, not_true_eq_false, not_false_eq_true, ev, ew, e1, mpa_0, mpa_1, mpa_2, mpa_9, mpa_10, mpa_11, mpa_12, Int32.reduceToNatClampNeg, Int32.le_iff_toInt_le, Int32.lt_iff_toInt_lt, ← Int32.toInt_inj, nI_toInt, Int32.reduceToInt] at * <;> omega) | decide); conv => whnf)
          | ((with_reducible refine ckI ?_ ?_); (· first | ((with_reducible refine vp_in_nI ?_ ?_); (· omega); (· decide)) | exact vp_c (by decide) | exact ⟨_, rfl⟩ | exact Or.inl rfl | exact Or.inr rfl | exact b2_01 _); conv => whnf)
          | ((with_reducible apply cl_g); (case hM => exact hB9); (case hc => exact rfl); (case hd => first | decide | omega); intro f76 g77; conv => whnf)
          | ((rw [hsh]); conv => whnf)
          | ((with_reducible refine ckJ ?_ ?_); conv => whnf)
          | fail
      all_goals first
        | exact rcT hk
        | exact ⟨_, _, rfl, rfl⟩
    clear hB hRl hRg hB0
    have g7 : ¬ R.1 ≤ 0 := by
      have h0 := hcnt.1
      simp only [Int32.le_iff_toInt_le, ← Int32.toInt_inj, Int32.reduceToInt] at hR1 ⊢
      omega
    have hne : ¬ R.2 = 0 := fun h => hR1 (hok.2 h).2
    have hlv : lbi R.2 = bts 8 ((R.2 &&& -R.2) - 1) 0 := by unfold lbi; rw [if_neg hne]
    clear hcnt hok
    refine Mt_of ck_X8_from mf_98 rfl ?_
    have hRR := hR
    clear hW hN hRW hR
    repeat' first
      | ((with_reducible refine gow ck_X8_from _ [] ?_); conv => whnf)
      | ((with_reducible refine bn_t ?_ ?_); (· first | with_reducible assumption | (simp (disch := omega) only [true_and, and_true, false_and, and_false, or_false, false_or, or_true, true_or, not_true_eq_false, not_false_eq_true, ev, ew, e1, mpa_0, mpa_1, mpa_2, mpa_9, mpa_10, mpa_11, mpa_12, Int32.reduceToNatClampNeg, Int32.le_iff_toInt_le, Int32.lt_iff_toInt_lt, ← Int32.toInt_inj, nI_toInt, Int32.reduceToInt] <;> omega) | assumption | (simp (disch := omega) only [isT, isP, two, Int32.toInt_sub, Int.bmod_def, true_and, and_true, false_and, and_false, or_false, false_or, or_true, true_or, not_true_eq_false, not_false_eq_true, ev, ew, e1, mpa_0, mpa_1, mpa_2, mpa_9, mpa_10, mpa_11, mpa_12, Int32.reduceToNatClampNeg, Int32.le_iff_toInt_le, Int32.lt_iff_toInt_lt, ← Int32.toInt_inj, nI_toInt, Int32.reduceToInt] at * <;> omega) | decide); conv => whnf)
      | ((with_reducible refine bn_f ?_ ?_); (· first | with_reducible assumption | (simp (disch := omega) only [true_and, and_true, false_and, and_false, or_false, false_or, or_true, true_or, not_true_eq_false, not_false_eq_true, ev, ew, e1, mpa_0, mpa_1, mpa_2, mpa_9, mpa_10, mpa_11, mpa_12, Int32.reduceToNatClampNeg, Int32.le_iff_toInt_le, Int32.lt_iff_toInt_lt, ← Int32.toInt_inj, nI_toInt, Int32.reduceToInt] <;> omega) | assumption | (simp (disch := omega) only [isT, isP, two, Int32.toInt_sub, Int.bmod_def, true_and, and_true, false_and, and_false, or_false, false_or, or_true, true_or, not_true_eq_false, not_false_eq_true, ev, ew, e1, mpa_0, mpa_1, mpa_2, mpa_9, mpa_10, mpa_11, mpa_12, Int32.reduceToNatClampNeg, Int32.le_iff_toInt_le, Int32.lt_iff_toInt_lt, ← Int32.toInt_inj, nI_toInt, Int32.reduceToInt] at * <;> omega) | decide); conv => whnf)
      | ((with_reducible refine bc_t ?_ ?_); (· first | with_reducible assumption | (simp (disch := omega) only [true_and, and_true, false_and, and_false, or_false, false_or, or_true, true_or, not_true_eq_false, not_false_eq_true, ev, ew, e1, mpa_0, mpa_1, mpa_2, mpa_9, mpa_10, mpa_11, mpa_12, Int32.reduceToNatClampNeg, Int32.le_iff_toInt_le, Int32.lt_iff_toInt_lt, ← Int32.toInt_inj, nI_toInt, Int32.reduceToInt] <;> omega) | assumption | (simp (disch := omega) only [isT, isP, two, Int32.toInt_sub, Int.bmod_def, true_and, and_true, false_and, and_false, or_false, false_or, or_true, true_or, not_true_eq_false, not_false_eq_true, ev, ew, e1, mpa_0, mpa_1, mpa_2, mpa_9, mpa_10, mpa_11, mpa_12, Int32.reduceToNatClampNeg, Int32.le_iff_toInt_le, Int32.lt_iff_toInt_lt, ← Int32.toInt_inj, nI_toInt, Int32.reduceToInt] at * <;> omega) | decide); conv => whnf)
      | ((with_reducible refine bc_f ?_ ?_); (· first | with_reducible assumption | (simp (disch := omega) only [true_and, and_true, false_and, and_false, or_false, false_or, or_true, true_or, not_true_eq_false, not_false_eq_true, ev, ew, e1, mpa_0, mpa_1, mpa_2, mpa_9, mpa_10, mpa_11, mpa_12, Int32.reduceToNatClampNeg, Int32.le_iff_toInt_le, Int32.lt_iff_toInt_lt, ← Int32.toInt_inj, nI_toInt, Int32.reduceToInt] <;> omega) | assumption | (simp (disch := omega) only [isT, isP, two, Int32.toInt_sub, Int.bmod_def, true_and, and_true, false_and, and_false, or_false, false_or, or_true, true_or, not_true_eq_false, not_false_eq_true, ev, ew, e1, mpa_0, mpa_1, mpa_2, mpa_9, mpa_10, mpa_11, mpa_12, Int32.reduceToNatClampNeg, Int32.le_iff_toInt_le, Int32.lt_iff_toInt_lt, ← Int32.toInt_inj, nI_toInt, Int32.reduceToInt] at * <;> omega) | decide); conv => whnf)
      | ((with_reducible refine br_t ?_ ?_); (· first | with_reducible assumption | (simp (disch := omega) only [true_and, and_true, false_and, and_false, or_false, false_or, or_true, true_or, not_true_eq_false, not_false_eq_true, ev, ew, e1, mpa_0, mpa_1, mpa_2, mpa_9, mpa_10, mpa_11, mpa_12, Int32.reduceToNatClampNeg, Int32.le_iff_toInt_le, Int32.lt_iff_toInt_lt, ← Int32.toInt_inj, nI_toInt, Int32.reduceToInt] <;> omega) | assumption | (simp (disch := omega) only [isT, isP, two, Int32.toInt_sub, Int.bmod_def, true_and, and_true, false_and, and_false, or_false, false_or, or_true, true_or, not_true_eq_false, not_false_eq_true, ev, ew, e1, mpa_0, mpa_1, mpa_2, mpa_9, mpa_10, mpa_11, mpa_12, Int32.reduceToNatClampNeg, Int32.le_iff_toInt_le, Int32.lt_iff_toInt_lt, ← Int32.toInt_inj, nI_toInt, Int32.reduceToInt] at * <;> omega) | decide); conv => whnf)
      | ((with_reducible refine br_f ?_ ?_); (· first | with_reducible assumption | (simp (disch := omega) only [true_and, and_true, false_and, and_false, or_false, false_or, or_true, true_or, not_true_eq_false, not_false_eq_true, ev, ew, e1, mpa_0, mpa_1, mpa_2, mpa_9, mpa_10, mpa_11, mpa_12, Int32.reduceToNatClampNeg, Int32.le_iff_toInt_le, Int32.lt_iff_toInt_lt, ← Int32.toInt_inj, nI_toInt, Int32.reduceToInt] <;> omega) | assumption | (simp (disch := omega) only [isT, isP, two, Int32.toInt_sub, Int.bmod_def, true_and, and_true, false_and, and_false, or_false, false_or, or_true, true_or, not_true_eq_false, not_false_eq_true, ev, ew, e1, mpa_0, mpa_1, mpa_2, mpa_9, mpa_10, mpa_11, mpa_12, Int32.reduceToNatClampNeg, Int32.le_iff_toInt_le, Int32.lt_iff_toInt_lt, ← Int32.toInt_inj, nI_toInt, Int32.reduceToInt] at * <;> omega) | decide); conv => whnf)
      | ((with_reducible refine br_nt ?_ ?_); (· first | with_reducible assumption | (simp (disch := omega) only [true_and, and_true, false_and, and_false, or_false, false_or, or_true, true_or, not_true_eq_false, not_false_eq_true, ev, ew, e1, mpa_0, mpa_1, mpa_2, mpa_9, mpa_10, mpa_11, mpa_12, Int32.reduceToNatClampNeg, Int32.le_iff_toInt_le, Int32.lt_iff_toInt_lt, ← Int32.toInt_inj, nI_toInt, Int32.reduceToInt] <;> omega) | assumption | (simp (disch := omega) only [isT, isP, two, Int32.toInt_sub, Int.bmod_def, true_and, and_true, false_and, and_false, or_false, false_or, or_true, true_or, not_true_eq_false, not_false_eq_true, ev, ew, e1, mpa_0, mpa_1, mpa_2, mpa_9, mpa_10, mpa_11, mpa_12, Int32.reduceToNatClampNeg, Int32.le_iff_toInt_le, Int32.lt_iff_toInt_lt, ← Int32.toInt_inj, nI_toInt, Int32.reduceToInt] at * <;> omega) | decide); conv => whnf)
      | ((with_reducible refine br_nf ?_ ?_); (· first | with_reducible assumption | (simp (disch := omega) only [true_and, and_true, false_and, and_false, or_false, false_or, or_true, true_or, not_true_eq_false, not_false_eq_true, ev, ew, e1, mpa_0, mpa_1, mpa_2, mpa_9, mpa_10, mpa_11, mpa_12, Int32.reduceToNatClampNeg, Int32.le_iff_toInt_le, Int32.lt_iff_toInt_lt, ← Int32.toInt_inj, nI_toInt, Int32.reduceToInt] <;> omega) | assumption | (simp (disch := omega) only [isT, isP, two, Int32.toInt_sub, Int.bmod_def, true_and, and_true, false_and, and_false, or_false, false_or, or_true, true_or, not_true_eq_false, not_false_eq_true, ev, ew, e1, mpa_0, mpa_1, mpa_2, mpa_9, mpa_10, mpa_11, mpa_12, Int32.reduceToNatClampNeg, Int32.le_iff_toInt_le, Int32.lt_iff_toInt_lt, ← Int32.toInt_inj, nI_toInt, Int32.reduceToInt] at * <;> omega) | decide); conv => whnf)
      | ((with_reducible refine ckI ?_ ?_); (· first | ((with_reducible refine vp_in_nI ?_ ?_); (· omega); (· decide)) | exact vp_c (by decide) | exact ⟨_, rfl⟩ | exact Or.inl rfl | exact Or.inr rfl | exact b2_01 _); conv => whnf)
      | ((with_reducible apply cl_p); (case hM => with_reducible exact k8_fail1 _ _); (case hc => exact rfl); (case hd => first | decide | omega); conv => whnf)
      | ((with_reducible apply cl_p); (case hM => with_reducible exact k8_fail2 _ _); (case hc => exact rfl); (case hd => first | decide | omega); conv => whnf)
      | ((with_reducible apply cl_p); (case hM => with_reducible exact k8_fail3 _ _); (case hc => exact rfl); (case hd => first | decide | omega); conv => whnf)
      | ((with_reducible apply cl_p); (case hM => with_reducible exact k8_fail4 _ _); (case hc => exact rfl); (case hd => first | decide | omega); conv => whnf)
      | ((with_reducible apply cl_p); (case hM => with_reducible exact k8_fail5 _ _); (case hc => exact rfl); (case hd => first | decide | omega); conv => whnf)
      | ((with_reducible apply cl_p); (case hM => exact k7_taleOfN _ _ k hk hlt); (case hc => exact rfl); (case hd => first | decide | omega); conv => whnf)
      | ((with_reducible apply cl_p); (case hM => exact k7_taleOf_n _ _ t pn); (case hc => exact rfl); (case hd => first | decide | omega); conv => whnf)
      | ((with_reducible apply cl_p); (case hM => with_reducible exact k7_hasPlace _ _ _); (case hc => exact rfl); (case hd => first | decide | omega); conv => whnf)
      | ((with_reducible apply cl_p); (case hM => with_reducible exact k8_isWithin _ _ _ _); (case hc => exact rfl); (case hd => first | decide | omega); conv => whnf)
      | ((with_reducible apply cl_p); (case hM => exact k8_sheetOfN _ _ z hz4); (case hc => exact rfl); (case hd => first | decide | omega); conv => whnf)
      | ((with_reducible apply cl_p); (case hM => exact k8_sheetOf_n _ _ s ps); (case hc => exact rfl); (case hd => first | decide | omega); conv => whnf)
      | ((with_reducible apply cl_p); (case hM => with_reducible exact k2_isMissing _ _ z hz4); (case hc => exact rfl); (case hd => first | decide | omega); conv => whnf)
      | ((with_reducible apply cl_p); (case hM => with_reducible exact k2_has _ _ z _ hz4); (case hc => exact rfl); (case hd => first | decide | omega); conv => whnf)
      | ((with_reducible apply cl_g); (case hM => exact hBy); (case hc => exact rfl); (case hd => first | decide | omega); intro f76 g77; conv => whnf)
      | ((rw [hsh]); conv => whnf)
      | ((with_reducible refine fun r hr => ?_); (obtain rfl := l7 hr); conv => whnf)
      | ((rw [hss]); conv => whnf)
      | ((rw [hsn]); conv => whnf)
      | ((with_reducible refine ckJ ?_ ?_); conv => whnf)
      | fail
    all_goals first
      | exact rcS hz4
      | exact rcT hk
      | (refine Pc8.of0 hRR ?_ ?_
         · exact congrArg (fun x => (x, S)) hlv.symm
         · intro i h1 h2 h3
           exact m6_ne (by omega) (by omega) (by omega))
  · have hs03 : 0 ≤ s ∧ s ≤ 3 := by assumption
    obtain ⟨z, hz4, rfl⟩ := in_3 hs03
    have hss := shS hz4
    have hsn := shN hz4
    obtain ⟨hX2, hX1, hXq⟩ := hR.2.2.2.2.2 z hz4
    obtain ⟨hB, hZ, hB0⟩ := hW.2.2.2 z hz4
    clear hs03
    (try simp (disch := omega) only [nI_toInt, Int.toNat_natCast] at *)
    obtain ⟨k, hk, rfl, hkn⟩ := in_T hN ‹isT (S 1) t›
    have hsh := shT hk
    have hlt : nI k < μ 1 9 := by
      rw [hRW.1.2.1]
      simp only [Int32.lt_iff_toInt_lt]
      rw [nI_toInt (by omega)]
      unfold nT at hkn
      omega
    (try simp (disch := omega) only [nI_toInt, Int.toNat_natCast] at *)
    have h10 : ¬ S 10 z = 0 := by assumption
    have g1 : ¬ μ (61 + 2 * z) 2 = 0 := fun h => h10 (hX2.symm.trans h)
    have hyr : ¬ (1 ≤ S 11 z ∧ S 11 z ≤ 5) := by assumption
    rw [← hX1] at hyr
    clear hX1
    by_cases g5 : μ (61 + 2 * z) 1 < 1
    · refine Mt_of ck_X8_from mf_98 rfl ?_
      have hRR := hR
      clear hW hN hRW hR hB0 hZ
      repeat' first
          | ((with_reducible refine gow ck_X8_from _ [] ?_); conv => whnf)
          | ((with_reducible refine bn_t ?_ ?_); (· first | with_reducible assumption | (simp (disch := omega) only [true_and, and_true, false_and, and_false, or_false, false_or, or_true, true_or, not_true_eq_false, not_false_eq_true, ev, ew, e1, mpa_0, mpa_1, mpa_2, mpa_9, mpa_10, mpa_11, mpa_12, Int32.reduceToNatClampNeg, Int32.le_iff_toInt_le, Int32.lt_iff_toInt_lt, ← Int32.toInt_inj, nI_toInt, Int32.reduceToInt] <;> omega) | assumption | (simp (disch := omega) only [isT, isP, two, Int32.toInt_sub, Int.bmod_def, true_and, and_true, false_and, and_false, or_false, false_or, or_true, true_or, not_true_eq_false, not_false_eq_true, ev, ew, e1, mpa_0, mpa_1, mpa_2, mpa_9, mpa_10, mpa_11, mpa_12, Int32.reduceToNatClampNeg, Int32.le_iff_toInt_le, Int32.lt_iff_toInt_lt, ← Int32.toInt_inj, nI_toInt, Int32.reduceToInt] at * <;> omega) | decide); conv => whnf)
          | ((with_reducible refine bn_f ?_ ?_); (· first | with_reducible assumption | (simp (disch := omega) only [true_and, and_true, false_and, and_false, or_false, false_or, or_true, true_or, not_true_eq_false, not_false_eq_true, ev, ew, e1, mpa_0, mpa_1, mpa_2, mpa_9, mpa_10, mpa_11, mpa_12, Int32.reduceToNatClampNeg, Int32.le_iff_toInt_le, Int32.lt_iff_toInt_lt, ← Int32.toInt_inj, nI_toInt, Int32.reduceToInt] <;> omega) | assumption | (simp (disch := omega) only [isT, isP, two, Int32.toInt_sub, Int.bmod_def, true_and, and_true, false_and, and_false, or_false, false_or, or_true, true_or, not_true_eq_false, not_false_eq_true, ev, ew, e1, mpa_0, mpa_1, mpa_2, mpa_9, mpa_10, mpa_11, mpa_12, Int32.reduceToNatClampNeg, Int32.le_iff_toInt_le, Int32.lt_iff_toInt_lt, ← Int32.toInt_inj, nI_toInt, Int32.reduceToInt] at * <;> omega) | decide); conv => whnf)
          | ((with_reducible refine bc_t ?_ ?_); (· first | with_reducible assumption | (simp (disch := omega) only [true_and, and_true, false_and, and_false, or_false, false_or, or_true, true_or, not_true_eq_false, not_false_eq_true, ev, ew, e1, mpa_0, mpa_1, mpa_2, mpa_9, mpa_10, mpa_11, mpa_12, Int32.reduceToNatClampNeg, Int32.le_iff_toInt_le, Int32.lt_iff_toInt_lt, ← Int32.toInt_inj, nI_toInt, Int32.reduceToInt] <;> omega) | assumption | (simp (disch := omega) only [isT, isP, two, Int32.toInt_sub, Int.bmod_def, true_and, and_true, false_and, and_false, or_false, false_or, or_true, true_or, not_true_eq_false, not_false_eq_true, ev, ew, e1, mpa_0, mpa_1, mpa_2, mpa_9, mpa_10, mpa_11, mpa_12, Int32.reduceToNatClampNeg, Int32.le_iff_toInt_le, Int32.lt_iff_toInt_lt, ← Int32.toInt_inj, nI_toInt, Int32.reduceToInt] at * <;> omega) | decide); conv => whnf)
          | ((with_reducible refine bc_f ?_ ?_); (· first | with_reducible assumption | (simp (disch := omega) only [true_and, and_true, false_and, and_false, or_false, false_or, or_true, true_or, not_true_eq_false, not_false_eq_true, ev, ew, e1, mpa_0, mpa_1, mpa_2, mpa_9, mpa_10, mpa_11, mpa_12, Int32.reduceToNatClampNeg, Int32.le_iff_toInt_le, Int32.lt_iff_toInt_lt, ← Int32.toInt_inj, nI_toInt, Int32.reduceToInt] <;> omega) | assumption | (simp (disch := omega) only [isT, isP, two, Int32.toInt_sub, Int.bmod_def, true_and, and_true, false_and, and_false, or_false, false_or, or_true, true_or, not_true_eq_false, not_false_eq_true, ev, ew, e1, mpa_0, mpa_1, mpa_2, mpa_9, mpa_10, mpa_11, mpa_12, Int32.reduceToNatClampNeg, Int32.le_iff_toInt_le, Int32.lt_iff_toInt_lt, ← Int32.toInt_inj, nI_toInt, Int32.reduceToInt] at * <;> omega) | decide); conv => whnf)
          | ((with_reducible refine br_t ?_ ?_); (· first | with_reducible assumption | (simp (disch := omega) only [true_and, and_true, false_and, and_false, or_false, false_or, or_true, true_or, not_true_eq_false, not_false_eq_true, ev, ew, e1, mpa_0, mpa_1, mpa_2, mpa_9, mpa_10, mpa_11, mpa_12, Int32.reduceToNatClampNeg, Int32.le_iff_toInt_le, Int32.lt_iff_toInt_lt, ← Int32.toInt_inj, nI_toInt, Int32.reduceToInt] <;> omega) | assumption | (simp (disch := omega) only [isT, isP, two, Int32.toInt_sub, Int.bmod_def, true_and, and_true, false_and, and_false, or_false, false_or, or_true, true_or, not_true_eq_false, not_false_eq_true, ev, ew, e1, mpa_0, mpa_1, mpa_2, mpa_9, mpa_10, mpa_11, mpa_12, Int32.reduceToNatClampNeg, Int32.le_iff_toInt_le, Int32.lt_iff_toInt_lt, ← Int32.toInt_inj, nI_toInt, Int32.reduceToInt] at * <;> omega) | decide); conv => whnf)
          | ((with_reducible refine br_f ?_ ?_); (· first | with_reducible assumption | (simp (disch := omega) only [true_and, and_true, false_and, and_false, or_false, false_or, or_true, true_or, not_true_eq_false, not_false_eq_true, ev, ew, e1, mpa_0, mpa_1, mpa_2, mpa_9, mpa_10, mpa_11, mpa_12, Int32.reduceToNatClampNeg, Int32.le_iff_toInt_le, Int32.lt_iff_toInt_lt, ← Int32.toInt_inj, nI_toInt, Int32.reduceToInt] <;> omega) | assumption | (simp (disch := omega) only [isT, isP, two, Int32.toInt_sub, Int.bmod_def, true_and, and_true, false_and, and_false, or_false, false_or, or_true, true_or, not_true_eq_false, not_false_eq_true, ev, ew, e1, mpa_0, mpa_1, mpa_2, mpa_9, mpa_10, mpa_11, mpa_12, Int32.reduceToNatClampNeg, Int32.le_iff_toInt_le, Int32.lt_iff_toInt_lt, ← Int32.toInt_inj, nI_toInt, Int32.reduceToInt] at * <;> omega) | decide); conv => whnf)
          | ((with_reducible refine br_nt ?_ ?_); (· first | with_reducible assumption | (simp (disch := omega) only [true_and, and_true, false_and, and_false, or_false, false_or, or_true, true_or, not_true_eq_false, not_false_eq_true, ev, ew, e1, mpa_0, mpa_1, mpa_2, mpa_9, mpa_10, mpa_11, mpa_12, Int32.reduceToNatClampNeg, Int32.le_iff_toInt_le, Int32.lt_iff_toInt_lt, ← Int32.toInt_inj, nI_toInt, Int32.reduceToInt] <;> omega) | assumption | (simp (disch := omega) only [isT, isP, two, Int32.toInt_sub, Int.bmod_def, true_and, and_true, false_and, and_false, or_false, false_or, or_true, true_or, not_true_eq_false, not_false_eq_true, ev, ew, e1, mpa_0, mpa_1, mpa_2, mpa_9, mpa_10, mpa_11, mpa_12, Int32.reduceToNatClampNeg, Int32.le_iff_toInt_le, Int32.lt_iff_toInt_lt, ← Int32.toInt_inj, nI_toInt, Int32.reduceToInt] at * <;> omega) | decide); conv => whnf)
          | ((with_reducible refine br_nf ?_ ?_); (· first | with_reducible assumption | (simp (disch := omega) only [true_and, and_true, false_and, and_false, or_false, false_or, or_true, true_or, not_true_eq_false, not_false_eq_true, ev, ew, e1, mpa_0, mpa_1, mpa_2, mpa_9, mpa_10, mpa_11, mpa_12, Int32.reduceToNatClampNeg, Int32.le_iff_toInt_le, Int32.lt_iff_toInt_lt, ← Int32.toInt_inj, nI_toInt, Int32.reduceToInt] <;> omega) | assumption | (simp (disch := omega) only [isT, isP, two, Int32.toInt_sub, Int.bmod_def, true_and, and_true, false_and, and_false, or_false, false_or, or_true, true_or, not_true_eq_false, not_false_eq_true, ev, ew, e1, mpa_0, mpa_1, mpa_2, mpa_9, mpa_10, mpa_11, mpa_12, Int32.reduceToNatClampNeg, Int32.le_iff_toInt_le, Int32.lt_iff_toInt_lt, ← Int32.toInt_inj, nI_toInt, Int32.reduceToInt] at * <;> omega) | decide); conv => whnf)
          | ((with_reducible refine ckI ?_ ?_); (· first | ((with_reducible refine vp_in_nI ?_ ?_); (· omega); (· decide)) | exact vp_c (by decide) | exact ⟨_, rfl⟩ | exact Or.inl rfl | exact Or.inr rfl | exact b2_01 _); conv => whnf)
          | ((with_reducible apply cl_p); (case hM => with_reducible exact k8_fail1 _ _); (case hc => exact rfl); (case hd => first | decide | omega); conv => whnf)
          | ((with_reducible apply cl_p); (case hM => with_reducible exact k8_fail2 _ _); (case hc => exact rfl); (case hd => first | decide | omega); conv => whnf)
          | ((with_reducible apply cl_p); (case hM => with_reducible exact k8_fail3 _ _); (case hc => exact rfl); (case hd => first | decide | omega); conv => whnf)
          | ((with_reducible apply cl_p); (case hM => with_reducible exact k8_fail4 _ _); (case hc => exact rfl); (case hd => first | decide | omega); conv => whnf)
          | ((with_reducible apply cl_p); (case hM => with_reducible exact k8_fail5 _ _); (case hc => exact rfl); (case hd => first | decide | omega); conv => whnf)
          | ((with_reducible apply cl_p); (case hM => exact k7_taleOfN _ _ k hk hlt); (case hc => exact rfl); (case hd => first | decide | omega); conv => whnf)
          | ((with_reducible apply cl_p); (case hM => exact k7_taleOf_n _ _ t pn); (case hc => exact rfl); (case hd => first | decide | omega); conv => whnf)
          | ((with_reducible apply cl_p); (case hM => with_reducible exact k7_hasPlace _ _ _); (case hc => exact rfl); (case hd => first | decide | omega); conv => whnf)
          | ((with_reducible apply cl_p); (case hM => with_reducible exact k8_isWithin _ _ _ _); (case hc => exact rfl); (case hd => first | decide | omega); conv => whnf)
          | ((with_reducible apply cl_p); (case hM => exact k8_sheetOfN _ _ z hz4); (case hc => exact rfl); (case hd => first | decide | omega); conv => whnf)
          | ((with_reducible apply cl_p); (case hM => exact k8_sheetOf_n _ _ s ps); (case hc => exact rfl); (case hd => first | decide | omega); conv => whnf)
          | ((with_reducible apply cl_p); (case hM => with_reducible exact k2_isMissing _ _ z hz4); (case hc => exact rfl); (case hd => first | decide | omega); conv => whnf)
          | ((with_reducible apply cl_p); (case hM => with_reducible exact k2_has _ _ z _ hz4); (case hc => exact rfl); (case hd => first | decide | omega); conv => whnf)
          | ((with_reducible apply cl_g); (case hM => exact hBy); (case hc => exact rfl); (case hd => first | decide | omega); intro f76 g77; conv => whnf)
          | ((rw [hsh]); conv => whnf)
          | ((with_reducible refine fun r hr => ?_); (obtain rfl := l7 hr); conv => whnf)
          | ((rw [hss]); conv => whnf)
          | ((rw [hsn]); conv => whnf)
          | ((with_reducible refine ckJ ?_ ?_); conv => whnf)
          | fail
      all_goals first
        | exact rcS hz4
        | exact rcT hk
        | (refine Pc8.of rfl (hRR.er _) ?_; intro i hi; simp (disch := omega) only [hi_wr])
    have g6 : ¬ μ (61 + 2 * z) 1 ≤ 5 := fun h => hyr ⟨i_nlt g5, h⟩
    refine Mt_of ck_X8_from mf_98 rfl ?_
    have hRR := hR
    clear hW hN hRW hR
    repeat' first
      | ((with_reducible refine gow ck_X8_from _ [] ?_); conv => whnf)
      | ((with_reducible refine bn_t ?_ ?_); (· first | with_reducible assumption | (simp (disch := omega) only [true_and, and_true, false_and, and_false, or_false, false_or, or_true, true_or, not_true_eq_false, not_false_eq_true, ev, ew, e1, mpa_0, mpa_1, mpa_2, mpa_9, mpa_10, mpa_11, mpa_12, Int32.reduceToNatClampNeg, Int32.le_iff_toInt_le, Int32.lt_iff_toInt_lt, ← Int32.toInt_inj, nI_toInt, Int32.reduceToInt] <;> omega) | assumption | (simp (disch := omega) only [isT, isP, two, Int32.toInt_sub, Int.bmod_def, true_and, and_true, false_and, and_false, or_false, false_or, or_true, true_or, not_true_eq_false, not_false_eq_true, ev, ew, e1, mpa_0, mpa_1, mpa_2, mpa_9, mpa_10, mpa_11, mpa_12, Int32.reduceToNatClampNeg, Int32.le_iff_toInt_le, Int32.lt_iff_toInt_lt, ← Int32.toInt_inj, nI_toInt, Int32.reduceToInt] at * <;> omega) | decide); conv => whnf)
      | ((with_reducible refine bn_f ?_ ?_); (· first | with_reducible assumption | (simp (disch := omega) only [true_and, and_true, false_and, and_false, or_false, false_or, or_true, true_or, not_true_eq_false, not_false_eq_true, ev, ew, e1, mpa_0, mpa_1, mpa_2, mpa_9, mpa_10, mpa_11, mpa_12, Int32.reduceToNatClampNeg, Int32.le_iff_toInt_le, Int32.lt_iff_toInt_lt, ← Int32.toInt_inj, nI_toInt, Int32.reduceToInt] <;> omega) | assumption | (simp (disch := omega) only [isT, isP, two, Int32.toInt_sub, Int.bmod_def, true_and, and_true, false_and, and_false, or_false, false_or, or_true, true_or, not_true_eq_false, not_false_eq_true, ev, ew, e1, mpa_0, mpa_1, mpa_2, mpa_9, mpa_10, mpa_11, mpa_12, Int32.reduceToNatClampNeg, Int32.le_iff_toInt_le, Int32.lt_iff_toInt_lt, ← Int32.toInt_inj, nI_toInt, Int32.reduceToInt] at * <;> omega) | decide); conv => whnf)
      | ((with_reducible refine bc_t ?_ ?_); (· first | with_reducible assumption | (simp (disch := omega) only [true_and, and_true, false_and, and_false, or_false, false_or, or_true, true_or, not_true_eq_false, not_false_eq_true, ev, ew, e1, mpa_0, mpa_1, mpa_2, mpa_9, mpa_10, mpa_11, mpa_12, Int32.reduceToNatClampNeg, Int32.le_iff_toInt_le, Int32.lt_iff_toInt_lt, ← Int32.toInt_inj, nI_toInt, Int32.reduceToInt] <;> omega) | assumption | (simp (disch := omega) only [isT, isP, two, Int32.toInt_sub, Int.bmod_def, true_and, and_true, false_and, and_false, or_false, false_or, or_true, true_or, not_true_eq_false, not_false_eq_true, ev, ew, e1, mpa_0, mpa_1, mpa_2, mpa_9, mpa_10, mpa_11, mpa_12, Int32.reduceToNatClampNeg, Int32.le_iff_toInt_le, Int32.lt_iff_toInt_lt, ← Int32.toInt_inj, nI_toInt, Int32.reduceToInt] at * <;> omega) | decide); conv => whnf)
      | ((with_reducible refine bc_f ?_ ?_); (· first | with_reducible assumption | (simp (disch := omega) only [true_and, and_true, false_and, and_false, or_false, false_or, or_true, true_or, not_true_eq_false, not_false_eq_true, ev, ew, e1, mpa_0, mpa_1, mpa_2, mpa_9, mpa_10, mpa_11, mpa_12, Int32.reduceToNatClampNeg, Int32.le_iff_toInt_le, Int32.lt_iff_toInt_lt, ← Int32.toInt_inj, nI_toInt, Int32.reduceToInt] <;> omega) | assumption | (simp (disch := omega) only [isT, isP, two, Int32.toInt_sub, Int.bmod_def, true_and, and_true, false_and, and_false, or_false, false_or, or_true, true_or, not_true_eq_false, not_false_eq_true, ev, ew, e1, mpa_0, mpa_1, mpa_2, mpa_9, mpa_10, mpa_11, mpa_12, Int32.reduceToNatClampNeg, Int32.le_iff_toInt_le, Int32.lt_iff_toInt_lt, ← Int32.toInt_inj, nI_toInt, Int32.reduceToInt] at * <;> omega) | decide); conv => whnf)
      | ((with_reducible refine br_t ?_ ?_); (· first | with_reducible assumption | (simp (disch := omega) only [true_and, and_true, false_and, and_false, or_false, false_or, or_true, true_or, not_true_eq_false, not_false_eq_true, ev, ew, e1, mpa_0, mpa_1, mpa_2, mpa_9, mpa_10, mpa_11, mpa_12, Int32.reduceToNatClampNeg, Int32.le_iff_toInt_le, Int32.lt_iff_toInt_lt, ← Int32.toInt_inj, nI_toInt, Int32.reduceToInt] <;> omega) | assumption | (simp (disch := omega) only [isT, isP, two, Int32.toInt_sub, Int.bmod_def, true_and, and_true, false_and, and_false, or_false, false_or, or_true, true_or, not_true_eq_false, not_false_eq_true, ev, ew, e1, mpa_0, mpa_1, mpa_2, mpa_9, mpa_10, mpa_11, mpa_12, Int32.reduceToNatClampNeg, Int32.le_iff_toInt_le, Int32.lt_iff_toInt_lt, ← Int32.toInt_inj, nI_toInt, Int32.reduceToInt] at * <;> omega) | decide); conv => whnf)
      | ((with_reducible refine br_f ?_ ?_); (· first | with_reducible assumption | (simp (disch := omega) only [true_and, and_true, false_and, and_false, or_false, false_or, or_true, true_or, not_true_eq_false, not_false_eq_true, ev, ew, e1, mpa_0, mpa_1, mpa_2, mpa_9, mpa_10, mpa_11, mpa_12, Int32.reduceToNatClampNeg, Int32.le_iff_toInt_le, Int32.lt_iff_toInt_lt, ← Int32.toInt_inj, nI_toInt, Int32.reduceToInt] <;> omega) | assumption | (simp (disch := omega) only [isT, isP, two, Int32.toInt_sub, Int.bmod_def, true_and, and_true, false_and, and_false, or_false, false_or, or_true, true_or, not_true_eq_false, not_false_eq_true, ev, ew, e1, mpa_0, mpa_1, mpa_2, mpa_9, mpa_10, mpa_11, mpa_12, Int32.reduceToNatClampNeg, Int32.le_iff_toInt_le, Int32.lt_iff_toInt_lt, ← Int32.toInt_inj, nI_toInt, Int32.reduceToInt] at * <;> omega) | decide); conv => whnf)
      | ((with_reducible refine br_nt ?_ ?_); (· first | with_reducible assumption | (simp (disch := omega) only [true_and, and_true, false_and, and_false, or_false, false_or, or_true, true_or, not_true_eq_false, not_false_eq_true, ev, ew, e1, mpa_0, mpa_1, mpa_2, mpa_9, mpa_10, mpa_11, mpa_12, Int32.reduceToNatClampNeg, Int32.le_iff_toInt_le, Int32.lt_iff_toInt_lt, ← Int32.toInt_inj, nI_toInt, Int32.reduceToInt] <;> omega) | assumption | (simp (disch := omega) only [isT, isP, two, Int32.toInt_sub, Int.bmod_def, true_and, and_true, false_and, and_false, or_false, false_or, or_true, true_or, not_true_eq_false, not_false_eq_true, ev, ew, e1, mpa_0, mpa_1, mpa_2, mpa_9, mpa_10, mpa_11, mpa_12, Int32.reduceToNatClampNeg, Int32.le_iff_toInt_le, Int32.lt_iff_toInt_lt, ← Int32.toInt_inj, nI_toInt, Int32.reduceToInt] at * <;> omega) | decide); conv => whnf)
      | ((with_reducible refine br_nf ?_ ?_); (· first | with_reducible assumption | (simp (disch := omega) only [true_and, and_true, false_and, and_false, or_false, false_or, or_true, true_or, not_true_eq_false, not_false_eq_true, ev, ew, e1, mpa_0, mpa_1, mpa_2, mpa_9, mpa_10, mpa_11, mpa_12, Int32.reduceToNatClampNeg, Int32.le_iff_toInt_le, Int32.lt_iff_toInt_lt, ← Int32.toInt_inj, nI_toInt, Int32.reduceToInt] <;> omega) | assumption | (simp (disch := omega) only [isT, isP, two, Int32.toInt_sub, Int.bmod_def, true_and, and_true, false_and, and_false, or_false, false_or, or_true, true_or, not_true_eq_false, not_false_eq_true, ev, ew, e1, mpa_0, mpa_1, mpa_2, mpa_9, mpa_10, mpa_11, mpa_12, Int32.reduceToNatClampNeg, Int32.le_iff_toInt_le, Int32.lt_iff_toInt_lt, ← Int32.toInt_inj, nI_toInt, Int32.reduceToInt] at * <;> omega) | decide); conv => whnf)
      | ((with_reducible refine ckI ?_ ?_); (· first | ((with_reducible refine vp_in_nI ?_ ?_); (· omega); (· decide)) | exact vp_c (by decide) | exact ⟨_, rfl⟩ | exact Or.inl rfl | exact Or.inr rfl | exact b2_01 _); conv => whnf)
      | ((with_reducible apply cl_p); (case hM => with_reducible exact k8_fail1 _ _); (case hc => exact rfl); (case hd => first | decide | omega); conv => whnf)
      | ((with_reducible apply cl_p); (case hM => with_reducible exact k8_fail2 _ _); (case hc => exact rfl); (case hd => first | decide | omega); conv => whnf)
      | ((with_reducible apply cl_p); (case hM => with_reducible exact k8_fail3 _ _); (case hc => exact rfl); (case hd => first | decide | omega); conv => whnf)
      | ((with_reducible apply cl_p); (case hM => with_reducible exact k8_fail4 _ _); (case hc => exact rfl); (case hd => first | decide | omega); conv => whnf)
      | ((with_reducible apply cl_p); (case hM => with_reducible exact k8_fail5 _ _); (case hc => exact rfl); (case hd => first | decide | omega); conv => whnf)
      | ((with_reducible apply cl_p); (case hM => exact k7_taleOfN _ _ k hk hlt); (case hc => exact rfl); (case hd => first | decide | omega); conv => whnf)
      | ((with_reducible apply cl_p); (case hM => exact k7_taleOf_n _ _ t pn); (case hc => exact rfl); (case hd => first | decide | omega); conv => whnf)
      | ((with_reducible apply cl_p); (case hM => with_reducible exact k7_hasPlace _ _ _); (case hc => exact rfl); (case hd => first | decide | omega); conv => whnf)
      | ((with_reducible apply cl_p); (case hM => with_reducible exact k8_isWithin _ _ _ _); (case hc => exact rfl); (case hd => first | decide | omega); conv => whnf)
      | ((with_reducible apply cl_p); (case hM => exact k8_sheetOfN _ _ z hz4); (case hc => exact rfl); (case hd => first | decide | omega); conv => whnf)
      | ((with_reducible apply cl_p); (case hM => exact k8_sheetOf_n _ _ s ps); (case hc => exact rfl); (case hd => first | decide | omega); conv => whnf)
      | ((with_reducible apply cl_p); (case hM => with_reducible exact k2_isMissing _ _ z hz4); (case hc => exact rfl); (case hd => first | decide | omega); conv => whnf)
      | ((with_reducible apply cl_p); (case hM => with_reducible exact k2_has _ _ z _ hz4); (case hc => exact rfl); (case hd => first | decide | omega); conv => whnf)
      | ((with_reducible apply cl_g); (case hM => exact hBy); (case hc => exact rfl); (case hd => first | decide | omega); intro f76 g77; conv => whnf)
      | ((rw [hsh]); conv => whnf)
      | ((with_reducible refine fun r hr => ?_); (obtain rfl := l7 hr); conv => whnf)
      | ((rw [hss]); conv => whnf)
      | ((rw [hsn]); conv => whnf)
      | ((with_reducible refine ckJ ?_ ?_); conv => whnf)
      | fail
    all_goals first
      | exact rcS hz4
      | exact rcT hk
      | (refine Pc8.of rfl (hRR.er _) ?_; intro i hi; simp (disch := omega) only [hi_wr])
  · have hs03 : 0 ≤ s ∧ s ≤ 3 := by assumption
    obtain ⟨z, hz4, rfl⟩ := in_3 hs03
    have hss := shS hz4
    have hsn := shN hz4
    obtain ⟨hX2, hX1, hXq⟩ := hR.2.2.2.2.2 z hz4
    obtain ⟨hB, hZ, hB0⟩ := hW.2.2.2 z hz4
    clear hs03
    (try simp (disch := omega) only [nI_toInt, Int.toNat_natCast] at *)
    obtain ⟨k, hk, rfl, hkn⟩ := in_T hN ‹isT (S 1) t›
    have hsh := shT hk
    have hlt : nI k < μ 1 9 := by
      rw [hRW.1.2.1]
      simp only [Int32.lt_iff_toInt_lt]
      rw [nI_toInt (by omega)]
      unfold nT at hkn
      omega
    (try simp (disch := omega) only [nI_toInt, Int.toNat_natCast] at *)
    refine Mt_of ck_X8_from mf_98 rfl ?_
    have hRR := hR
    clear hW hN hRW hR
    repeat' first
      | ((with_reducible refine gow ck_X8_from _ [] ?_); conv => whnf)
      | ((with_reducible refine bn_t ?_ ?_); (· first | with_reducible assumption | (simp (disch := omega) only [true_and, and_true, false_and, and_false, or_false, false_or, or_true, true_or, not_true_eq_false, not_false_eq_true, ev, ew, e1, mpa_0, mpa_1, mpa_2, mpa_9, mpa_10, mpa_11, mpa_12, Int32.reduceToNatClampNeg, Int32.le_iff_toInt_le, Int32.lt_iff_toInt_lt, ← Int32.toInt_inj, nI_toInt, Int32.reduceToInt] <;> omega) | assumption | (simp (disch := omega) only [isT, isP, two, Int32.toInt_sub, Int.bmod_def, true_and, and_true, false_and, and_false, or_false, false_or, or_true, true_or, not_true_eq_false, not_false_eq_true, ev, ew, e1, mpa_0, mpa_1, mpa_2, mpa_9, mpa_10, mpa_11, mpa_12, Int32.reduceToNatClampNeg, Int32.le_iff_toInt_le, Int32.lt_iff_toInt_lt, ← Int32.toInt_inj, nI_toInt, Int32.reduceToInt] at * <;> omega) | decide); conv => whnf)
      | ((with_reducible refine bn_f ?_ ?_); (· first | with_reducible assumption | (simp (disch := omega) only [true_and, and_true, false_and, and_false, or_false, false_or, or_true, true_or, not_true_eq_false, not_false_eq_true, ev, ew, e1, mpa_0, mpa_1, mpa_2, mpa_9, mpa_10, mpa_11, mpa_12, Int32.reduceToNatClampNeg, Int32.le_iff_toInt_le, Int32.lt_iff_toInt_lt, ← Int32.toInt_inj, nI_toInt, Int32.reduceToInt] <;> omega) | assumption | (simp (disch := omega) only [isT, isP, two, Int32.toInt_sub, Int.bmod_def, true_and, and_true, false_and, and_false, or_false, false_or, or_true, true_or, not_true_eq_false, not_false_eq_true, ev, ew, e1, mpa_0, mpa_1, mpa_2, mpa_9, mpa_10, mpa_11, mpa_12, Int32.reduceToNatClampNeg, Int32.le_iff_toInt_le, Int32.lt_iff_toInt_lt, ← Int32.toInt_inj, nI_toInt, Int32.reduceToInt] at * <;> omega) | decide); conv => whnf)
      | ((with_reducible refine bc_t ?_ ?_); (· first | with_reducible assumption | (simp (disch := omega) only [true_and, and_true, false_and, and_false, or_false, false_or, or_true, true_or, not_true_eq_false, not_false_eq_true, ev, ew, e1, mpa_0, mpa_1, mpa_2, mpa_9, mpa_10, mpa_11, mpa_12, Int32.reduceToNatClampNeg, Int32.le_iff_toInt_le, Int32.lt_iff_toInt_lt, ← Int32.toInt_inj, nI_toInt, Int32.reduceToInt] <;> omega) | assumption | (simp (disch := omega) only [isT, isP, two, Int32.toInt_sub, Int.bmod_def, true_and, and_true, false_and, and_false, or_false, false_or, or_true, true_or, not_true_eq_false, not_false_eq_true, ev, ew, e1, mpa_0, mpa_1, mpa_2, mpa_9, mpa_10, mpa_11, mpa_12, Int32.reduceToNatClampNeg, Int32.le_iff_toInt_le, Int32.lt_iff_toInt_lt, ← Int32.toInt_inj, nI_toInt, Int32.reduceToInt] at * <;> omega) | decide); conv => whnf)
      | ((with_reducible refine bc_f ?_ ?_); (· first | with_reducible assumption | (simp (disch := omega) only [true_and, and_true, false_and, and_false, or_false, false_or, or_true, true_or, not_true_eq_false, not_false_eq_true, ev, ew, e1, mpa_0, mpa_1, mpa_2, mpa_9, mpa_10, mpa_11, mpa_12, Int32.reduceToNatClampNeg, Int32.le_iff_toInt_le, Int32.lt_iff_toInt_lt, ← Int32.toInt_inj, nI_toInt, Int32.reduceToInt] <;> omega) | assumption | (simp (disch := omega) only [isT, isP, two, Int32.toInt_sub, Int.bmod_def, true_and, and_true, false_and, and_false, or_false, false_or, or_true, true_or, not_true_eq_false, not_false_eq_true, ev, ew, e1, mpa_0, mpa_1, mpa_2, mpa_9, mpa_10, mpa_11, mpa_12, Int32.reduceToNatClampNeg, Int32.le_iff_toInt_le, Int32.lt_iff_toInt_lt, ← Int32.toInt_inj, nI_toInt, Int32.reduceToInt] at * <;> omega) | decide); conv => whnf)
      | ((with_reducible refine br_t ?_ ?_); (· first | with_reducible assumption | (simp (disch := omega) only [true_and, and_true, false_and, and_false, or_false, false_or, or_true, true_or, not_true_eq_false, not_false_eq_true, ev, ew, e1, mpa_0, mpa_1, mpa_2, mpa_9, mpa_10, mpa_11, mpa_12, Int32.reduceToNatClampNeg, Int32.le_iff_toInt_le, Int32.lt_iff_toInt_lt, ← Int32.toInt_inj, nI_toInt, Int32.reduceToInt] <;> omega) | assumption | (simp (disch := omega) only [isT, isP, two, Int32.toInt_sub, Int.bmod_def, true_and, and_true, false_and, and_false, or_false, false_or, or_true, true_or, not_true_eq_false, not_false_eq_true, ev, ew, e1, mpa_0, mpa_1, mpa_2, mpa_9, mpa_10, mpa_11, mpa_12, Int32.reduceToNatClampNeg, Int32.le_iff_toInt_le, Int32.lt_iff_toInt_lt, ← Int32.toInt_inj, nI_toInt, Int32.reduceToInt] at * <;> omega) | decide); conv => whnf)
      | ((with_reducible refine br_f ?_ ?_); (· first | with_reducible assumption | (simp (disch := omega) only [true_and, and_true, false_and, and_false, or_false, false_or, or_true, true_or, not_true_eq_false, not_false_eq_true, ev, ew, e1, mpa_0, mpa_1, mpa_2, mpa_9, mpa_10, mpa_11, mpa_12, Int32.reduceToNatClampNeg, Int32.le_iff_toInt_le, Int32.lt_iff_toInt_lt, ← Int32.toInt_inj, nI_toInt, Int32.reduceToInt] <;> omega) | assumption | (simp (disch := omega) only [isT, isP, two, Int32.toInt_sub, Int.bmod_def, true_and, and_true, false_and, and_false, or_false, false_or, or_true, true_or, not_true_eq_false, not_false_eq_true, ev, ew, e1, mpa_0, mpa_1, mpa_2, mpa_9, mpa_10, mpa_11, mpa_12, Int32.reduceToNatClampNeg, Int32.le_iff_toInt_le, Int32.lt_iff_toInt_lt, ← Int32.toInt_inj, nI_toInt, Int32.reduceToInt] at * <;> omega) | decide); conv => whnf)
      | ((with_reducible refine br_nt ?_ ?_); (· first | with_reducible assumption | (simp (disch := omega) only [true_and, and_true, false_and, and_false, or_false, false_or, or_true, true_or, not_true_eq_false, not_false_eq_true, ev, ew, e1, mpa_0, mpa_1, mpa_2, mpa_9, mpa_10, mpa_11, mpa_12, Int32.reduceToNatClampNeg, Int32.le_iff_toInt_le, Int32.lt_iff_toInt_lt, ← Int32.toInt_inj, nI_toInt, Int32.reduceToInt] <;> omega) | assumption | (simp (disch := omega) only [isT, isP, two, Int32.toInt_sub, Int.bmod_def, true_and, and_true, false_and, and_false, or_false, false_or, or_true, true_or, not_true_eq_false, not_false_eq_true, ev, ew, e1, mpa_0, mpa_1, mpa_2, mpa_9, mpa_10, mpa_11, mpa_12, Int32.reduceToNatClampNeg, Int32.le_iff_toInt_le, Int32.lt_iff_toInt_lt, ← Int32.toInt_inj, nI_toInt, Int32.reduceToInt] at * <;> omega) | decide); conv => whnf)
      | ((with_reducible refine br_nf ?_ ?_); (· first | with_reducible assumption | (simp (disch := omega) only [true_and, and_true, false_and, and_false, or_false, false_or, or_true, true_or, not_true_eq_false, not_false_eq_true, ev, ew, e1, mpa_0, mpa_1, mpa_2, mpa_9, mpa_10, mpa_11, mpa_12, Int32.reduceToNatClampNeg, Int32.le_iff_toInt_le, Int32.lt_iff_toInt_lt, ← Int32.toInt_inj, nI_toInt, Int32.reduceToInt] <;> omega) | assumption | (simp (disch := omega) only [isT, isP, two, Int32.toInt_sub, Int.bmod_def, true_and, and_true, false_and, and_false, or_false, false_or, or_true, true_or, not_true_eq_false, not_false_eq_true, ev, ew, e1, mpa_0, mpa_1, mpa_2, mpa_9, mpa_10, mpa_11, mpa_12, Int32.reduceToNatClampNeg, Int32.le_iff_toInt_le, Int32.lt_iff_toInt_lt, ← Int32.toInt_inj, nI_toInt, Int32.reduceToInt] at * <;> omega) | decide); conv => whnf)
      | ((with_reducible refine ckI ?_ ?_); (· first | ((with_reducible refine vp_in_nI ?_ ?_); (· omega); (· decide)) | exact vp_c (by decide) | exact ⟨_, rfl⟩ | exact Or.inl rfl | exact Or.inr rfl | exact b2_01 _); conv => whnf)
      | ((with_reducible apply cl_p); (case hM => with_reducible exact k8_fail1 _ _); (case hc => exact rfl); (case hd => first | decide | omega); conv => whnf)
      | ((with_reducible apply cl_p); (case hM => with_reducible exact k8_fail2 _ _); (case hc => exact rfl); (case hd => first | decide | omega); conv => whnf)
      | ((with_reducible apply cl_p); (case hM => with_reducible exact k8_fail3 _ _); (case hc => exact rfl); (case hd => first | decide | omega); conv => whnf)
      | ((with_reducible apply cl_p); (case hM => with_reducible exact k8_fail4 _ _); (case hc => exact rfl); (case hd => first | decide | omega); conv => whnf)
      | ((with_reducible apply cl_p); (case hM => with_reducible exact k8_fail5 _ _); (case hc => exact rfl); (case hd => first | decide | omega); conv => whnf)
      | ((with_reducible apply cl_p); (case hM => exact k7_taleOfN _ _ k hk hlt); (case hc => exact rfl); (case hd => first | decide | omega); conv => whnf)
      | ((with_reducible apply cl_p); (case hM => exact k7_taleOf_n _ _ t pn); (case hc => exact rfl); (case hd => first | decide | omega); conv => whnf)
      | ((with_reducible apply cl_p); (case hM => with_reducible exact k7_hasPlace _ _ _); (case hc => exact rfl); (case hd => first | decide | omega); conv => whnf)
      | ((with_reducible apply cl_p); (case hM => with_reducible exact k8_isWithin _ _ _ _); (case hc => exact rfl); (case hd => first | decide | omega); conv => whnf)
      | ((with_reducible apply cl_p); (case hM => exact k8_sheetOfN _ _ z hz4); (case hc => exact rfl); (case hd => first | decide | omega); conv => whnf)
      | ((with_reducible apply cl_p); (case hM => exact k8_sheetOf_n _ _ s ps); (case hc => exact rfl); (case hd => first | decide | omega); conv => whnf)
      | ((with_reducible apply cl_p); (case hM => with_reducible exact k2_isMissing _ _ z hz4); (case hc => exact rfl); (case hd => first | decide | omega); conv => whnf)
      | ((with_reducible apply cl_p); (case hM => with_reducible exact k2_has _ _ z _ hz4); (case hc => exact rfl); (case hd => first | decide | omega); conv => whnf)
      | ((with_reducible apply cl_g); (case hM => exact hBy); (case hc => exact rfl); (case hd => first | decide | omega); intro f76 g77; conv => whnf)
      | ((rw [hsh]); conv => whnf)
      | ((with_reducible refine fun r hr => ?_); (obtain rfl := l7 hr); conv => whnf)
      | ((rw [hss]); conv => whnf)
      | ((rw [hsn]); conv => whnf)
      | ((with_reducible refine ckJ ?_ ?_); conv => whnf)
      | fail
    all_goals first
      | exact rcS hz4
      | exact rcT hk
      | (refine Pc8.of rfl (hRR.er _) ?_; intro i hi; simp (disch := omega) only [hi_wr])
  · have hs03 : 0 ≤ s ∧ s ≤ 3 := by assumption
    obtain ⟨z, hz4, rfl⟩ := in_3 hs03
    have hss := shS hz4
    have hsn := shN hz4
    obtain ⟨hX2, hX1, hXq⟩ := hR.2.2.2.2.2 z hz4
    obtain ⟨hB, hZ, hB0⟩ := hW.2.2.2 z hz4
    clear hs03
    (try simp (disch := omega) only [nI_toInt, Int.toNat_natCast] at *)
    have pn : ¬ ((0 ≤ t ∧ t < μ 1 9) ∧ t < 7) := by
      have h : ¬ isT (S 1) t := by assumption
      rw [hRW.1.2.1]; exact fun q => h ((isN_k (M := 7) hN.2.2.1).mp q)
    refine Mt_of ck_X8_from mf_98 rfl ?_
    have hRR := hR
    clear hW hN hRW hR
    repeat' first
      | ((with_reducible refine gow ck_X8_from _ [] ?_); conv => whnf)
      | ((with_reducible refine bn_t ?_ ?_); (· first | with_reducible assumption | (simp (disch := omega) only [true_and, and_true, false_and, and_false, or_false, false_or, or_true, true_or, not_true_eq_false, not_false_eq_true, ev, ew, e1, mpa_0, mpa_1, mpa_2, mpa_9, mpa_10, mpa_11, mpa_12, Int32.reduceToNatClampNeg, Int32.le_iff_toInt_le, Int32.lt_iff_toInt_lt, ← Int32.toInt_inj, nI_toInt, Int32.reduceToInt] <;> omega) | assumption | (simp (disch := omega) only [isT, isP, two, Int32.toInt_sub, Int.bmod_def, true_and, and_true, false_and, and_false, or_false, false_or, or_true, true_or, not_true_eq_false, not_false_eq_true, ev, ew, e1, mpa_0, mpa_1, mpa_2, mpa_9, mpa_10, mpa_11, mpa_12, Int32.reduceToNatClampNeg, Int32.le_iff_toInt_le, Int32.lt_iff_toInt_lt, ← Int32.toInt_inj, nI_toInt, Int32.reduceToInt] at * <;> omega) | decide); conv => whnf)
      | ((with_reducible refine bn_f ?_ ?_); (· first | with_reducible assumption | (simp (disch := omega) only [true_and, and_true, false_and, and_false, or_false, false_or, or_true, true_or, not_true_eq_false, not_false_eq_true, ev, ew, e1, mpa_0, mpa_1, mpa_2, mpa_9, mpa_10, mpa_11, mpa_12, Int32.reduceToNatClampNeg, Int32.le_iff_toInt_le, Int32.lt_iff_toInt_lt, ← Int32.toInt_inj, nI_toInt, Int32.reduceToInt] <;> omega) | assumption | (simp (disch := omega) only [isT, isP, two, Int32.toInt_sub, Int.bmod_def, true_and, and_true, false_and, and_false, or_false, false_or, or_true, true_or, not_true_eq_false, not_false_eq_true, ev, ew, e1, mpa_0, mpa_1, mpa_2, mpa_9, mpa_10, mpa_11, mpa_12, Int32.reduceToNatClampNeg, Int32.le_iff_toInt_le, Int32.lt_iff_toInt_lt, ← Int32.toInt_inj, nI_toInt, Int32.reduceToInt] at * <;> omega) | decide); conv => whnf)
      | ((with_reducible refine bc_t ?_ ?_); (· first | with_reducible assumption | (simp (disch := omega) only [true_and, and_true, false_and, and_false, or_false, false_or, or_true, true_or, not_true_eq_false, not_false_eq_true, ev, ew, e1, mpa_0, mpa_1, mpa_2, mpa_9, mpa_10, mpa_11, mpa_12, Int32.reduceToNatClampNeg, Int32.le_iff_toInt_le, Int32.lt_iff_toInt_lt, ← Int32.toInt_inj, nI_toInt, Int32.reduceToInt] <;> omega) | assumption | (simp (disch := omega) only [isT, isP, two, Int32.toInt_sub, Int.bmod_def, true_and, and_true, false_and, and_false, or_false, false_or, or_true, true_or, not_true_eq_false, not_false_eq_true, ev, ew, e1, mpa_0, mpa_1, mpa_2, mpa_9, mpa_10, mpa_11, mpa_12, Int32.reduceToNatClampNeg, Int32.le_iff_toInt_le, Int32.lt_iff_toInt_lt, ← Int32.toInt_inj, nI_toInt, Int32.reduceToInt] at * <;> omega) | decide); conv => whnf)
      | ((with_reducible refine bc_f ?_ ?_); (· first | with_reducible assumption | (simp (disch := omega) only [true_and, and_true, false_and, and_false, or_false, false_or, or_true, true_or, not_true_eq_false, not_false_eq_true, ev, ew, e1, mpa_0, mpa_1, mpa_2, mpa_9, mpa_10, mpa_11, mpa_12, Int32.reduceToNatClampNeg, Int32.le_iff_toInt_le, Int32.lt_iff_toInt_lt, ← Int32.toInt_inj, nI_toInt, Int32.reduceToInt] <;> omega) | assumption | (simp (disch := omega) only [isT, isP, two, Int32.toInt_sub, Int.bmod_def, true_and, and_true, false_and, and_false, or_false, false_or, or_true, true_or, not_true_eq_false, not_false_eq_true, ev, ew, e1, mpa_0, mpa_1, mpa_2, mpa_9, mpa_10, mpa_11, mpa_12, Int32.reduceToNatClampNeg, Int32.le_iff_toInt_le, Int32.lt_iff_toInt_lt, ← Int32.toInt_inj, nI_toInt, Int32.reduceToInt] at * <;> omega) | decide); conv => whnf)
      | ((with_reducible refine br_t ?_ ?_); (· first | with_reducible assumption | (simp (disch := omega) only [true_and, and_true, false_and, and_false, or_false, false_or, or_true, true_or, not_true_eq_false, not_false_eq_true, ev, ew, e1, mpa_0, mpa_1, mpa_2, mpa_9, mpa_10, mpa_11, mpa_12, Int32.reduceToNatClampNeg, Int32.le_iff_toInt_le, Int32.lt_iff_toInt_lt, ← Int32.toInt_inj, nI_toInt, Int32.reduceToInt] <;> omega) | assumption | (simp (disch := omega) only [isT, isP, two, Int32.toInt_sub, Int.bmod_def, true_and, and_true, false_and, and_false, or_false, false_or, or_true, true_or, not_true_eq_false, not_false_eq_true, ev, ew, e1, mpa_0, mpa_1, mpa_2, mpa_9, mpa_10, mpa_11, mpa_12, Int32.reduceToNatClampNeg, Int32.le_iff_toInt_le, Int32.lt_iff_toInt_lt, ← Int32.toInt_inj, nI_toInt, Int32.reduceToInt] at * <;> omega) | decide); conv => whnf)
      | ((with_reducible refine br_f ?_ ?_); (· first | with_reducible assumption | (simp (disch := omega) only [true_and, and_true, false_and, and_false, or_false, false_or, or_true, true_or, not_true_eq_false, not_false_eq_true, ev, ew, e1, mpa_0, mpa_1, mpa_2, mpa_9, mpa_10, mpa_11, mpa_12, Int32.reduceToNatClampNeg, Int32.le_iff_toInt_le, Int32.lt_iff_toInt_lt, ← Int32.toInt_inj, nI_toInt, Int32.reduceToInt] <;> omega) | assumption | (simp (disch := omega) only [isT, isP, two, Int32.toInt_sub, Int.bmod_def, true_and, and_true, false_and, and_false, or_false, false_or, or_true, true_or, not_true_eq_false, not_false_eq_true, ev, ew, e1, mpa_0, mpa_1, mpa_2, mpa_9, mpa_10, mpa_11, mpa_12, Int32.reduceToNatClampNeg, Int32.le_iff_toInt_le, Int32.lt_iff_toInt_lt, ← Int32.toInt_inj, nI_toInt, Int32.reduceToInt] at * <;> omega) | decide); conv => whnf)
      | ((with_reducible refine br_nt ?_ ?_); (· first | with_reducible assumption | (simp (disch := omega) only [true_and, and_true, false_and, and_false, or_false, false_or, or_true, true_or, not_true_eq_false, not_false_eq_true, ev, ew, e1, mpa_0, mpa_1, mpa_2, mpa_9, mpa_10, mpa_11, mpa_12, Int32.reduceToNatClampNeg, Int32.le_iff_toInt_le, Int32.lt_iff_toInt_lt, ← Int32.toInt_inj, nI_toInt, Int32.reduceToInt] <;> omega) | assumption | (simp (disch := omega) only [isT, isP, two, Int32.toInt_sub, Int.bmod_def, true_and, and_true, false_and, and_false, or_false, false_or, or_true, true_or, not_true_eq_false, not_false_eq_true, ev, ew, e1, mpa_0, mpa_1, mpa_2, mpa_9, mpa_10, mpa_11, mpa_12, Int32.reduceToNatClampNeg, Int32.le_iff_toInt_le, Int32.lt_iff_toInt_lt, ← Int32.toInt_inj, nI_toInt, Int32.reduceToInt] at * <;> omega) | decide); conv => whnf)
      | ((with_reducible refine br_nf ?_ ?_); (· first | with_reducible assumption | (simp (disch := omega) only [true_and, and_true, false_and, and_false, or_false, false_or, or_true, true_or, not_true_eq_false, not_false_eq_true, ev, ew, e1, mpa_0, mpa_1, mpa_2, mpa_9, mpa_10, mpa_11, mpa_12, Int32.reduceToNatClampNeg, Int32.le_iff_toInt_le, Int32.lt_iff_toInt_lt, ← Int32.toInt_inj, nI_toInt, Int32.reduceToInt] <;> omega) | assumption | (simp (disch := omega) only [isT, isP, two, Int32.toInt_sub, Int.bmod_def, true_and, and_true, false_and, and_false, or_false, false_or, or_true, true_or, not_true_eq_false, not_false_eq_true, ev, ew, e1, mpa_0, mpa_1, mpa_2, mpa_9, mpa_10, mpa_11, mpa_12, Int32.reduceToNatClampNeg, Int32.le_iff_toInt_le, Int32.lt_iff_toInt_lt, ← Int32.toInt_inj, nI_toInt, Int32.reduceToInt] at * <;> omega) | decide); conv => whnf)
      | ((with_reducible refine ckI ?_ ?_); (· first | ((with_reducible refine vp_in_nI ?_ ?_); (· omega); (· decide)) | exact vp_c (by decide) | exact ⟨_, rfl⟩ | exact Or.inl rfl | exact Or.inr rfl | exact b2_01 _); conv => whnf)
      | ((with_reducible apply cl_p); (case hM => with_reducible exact k8_fail1 _ _); (case hc => exact rfl); (case hd => first | decide | omega); conv => whnf)
      | ((with_reducible apply cl_p); (case hM => with_reducible exact k8_fail2 _ _); (case hc => exact rfl); (case hd => first | decide | omega); conv => whnf)
      | ((with_reducible apply cl_p); (case hM => with_reducible exact k8_fail3 _ _); (case hc => exact rfl); (case hd => first | decide | omega); conv => whnf)
      | ((with_reducible apply cl_p); (case hM => with_reducible exact k8_fail4 _ _); (case hc => exact rfl); (case hd => first | decide | omega); conv => whnf)
      | ((with_reducible apply cl_p); (case hM => with_reducible exact k8_fail5 _ _); (case hc => exact rfl); (case hd => first | decide | omega); conv => whnf)
      | ((with_reducible apply cl_p); (case hM => exact k7_taleOfN _ _ k hk hlt); (case hc => exact rfl); (case hd => first | decide | omega); conv => whnf)
      | ((with_reducible apply cl_p); (case hM => exact k7_taleOf_n _ _ t pn); (case hc => exact rfl); (case hd => first | decide | omega); conv => whnf)
      | ((with_reducible apply cl_p); (case hM => with_reducible exact k7_hasPlace _ _ _); (case hc => exact rfl); (case hd => first | decide | omega); conv => whnf)
      | ((with_reducible apply cl_p); (case hM => with_reducible exact k8_isWithin _ _ _ _); (case hc => exact rfl); (case hd => first | decide | omega); conv => whnf)
      | ((with_reducible apply cl_p); (case hM => exact k8_sheetOfN _ _ z hz4); (case hc => exact rfl); (case hd => first | decide | omega); conv => whnf)
      | ((with_reducible apply cl_p); (case hM => exact k8_sheetOf_n _ _ s ps); (case hc => exact rfl); (case hd => first | decide | omega); conv => whnf)
      | ((with_reducible apply cl_p); (case hM => with_reducible exact k2_isMissing _ _ z hz4); (case hc => exact rfl); (case hd => first | decide | omega); conv => whnf)
      | ((with_reducible apply cl_p); (case hM => with_reducible exact k2_has _ _ z _ hz4); (case hc => exact rfl); (case hd => first | decide | omega); conv => whnf)
      | ((with_reducible apply cl_g); (case hM => exact hBy); (case hc => exact rfl); (case hd => first | decide | omega); intro f76 g77; conv => whnf)
      | ((rw [hsh]); conv => whnf)
      | ((with_reducible refine fun r hr => ?_); (obtain rfl := l7 hr); conv => whnf)
      | ((rw [hss]); conv => whnf)
      | ((rw [hsn]); conv => whnf)
      | ((with_reducible refine ckJ ?_ ?_); conv => whnf)
      | fail
    all_goals first
      | exact rcS hz4
      | exact rcT hk
      | (refine Pc8.of rfl (hRR.er _) ?_; intro i hi; simp (disch := omega) only [hi_wr])
  · by_cases hT : isT (S 1) t
    · have ps : ¬ (0 ≤ s ∧ s ≤ 3) := by assumption
      obtain ⟨k, hk, rfl, hkn⟩ := in_T hN ‹isT (S 1) t›
      have hsh := shT hk
      have hlt : nI k < μ 1 9 := by
        rw [hRW.1.2.1]
        simp only [Int32.lt_iff_toInt_lt]
        rw [nI_toInt (by omega)]
        unfold nT at hkn
        omega
      refine Mt_of ck_X8_from mf_98 rfl ?_
      have hRR := hR
      clear hW hN hRW hR
      repeat' first
          | ((with_reducible refine gow ck_X8_from _ [] ?_); conv => whnf)
          | ((with_reducible refine bn_t ?_ ?_); (· first | with_reducible assumption | (simp (disch := omega) only [true_and, and_true, false_and, and_false, or_false, false_or, or_true, true_or, not_true_eq_false, not_false_eq_true, ev, ew, e1, mpa_0, mpa_1, mpa_2, mpa_9, mpa_10, mpa_11, mpa_12, Int32.reduceToNatClampNeg, Int32.le_iff_toInt_le, Int32.lt_iff_toInt_lt, ← Int32.toInt_inj, nI_toInt, Int32.reduceToInt] <;> omega) | assumption | (simp (disch := omega) only [isT, isP, two, Int32.toInt_sub, Int.bmod_def, true_and, and_true, false_and, and_false, or_false, false_or, or_true, true_or, not_true_eq_false, not_false_eq_true, ev, ew, e1, mpa_0, mpa_1, mpa_2, mpa_9, mpa_10, mpa_11, mpa_12, Int32.reduceToNatClampNeg, Int32.le_iff_toInt_le, Int32.lt_iff_toInt_lt, ← Int32.toInt_inj, nI_toInt, Int32.reduceToInt] at * <;> omega) | decide); conv => whnf)
          | ((with_reducible refine bn_f ?_ ?_); (· first | with_reducible assumption | (simp (disch := omega) only [true_and, and_true, false_and, and_false, or_false, false_or, or_true, true_or, not_true_eq_false, not_false_eq_true, ev, ew, e1, mpa_0, mpa_1, mpa_2, mpa_9, mpa_10, mpa_11, mpa_12, Int32.reduceToNatClampNeg, Int32.le_iff_toInt_le, Int32.lt_iff_toInt_lt, ← Int32.toInt_inj, nI_toInt, Int32.reduceToInt] <;> omega) | assumption | (simp (disch := omega) only [isT, isP, two, Int32.toInt_sub, Int.bmod_def, true_and, and_true, false_and, and_false, or_false, false_or, or_true, true_or, not_true_eq_false, not_false_eq_true, ev, ew, e1, mpa_0, mpa_1, mpa_2, mpa_9, mpa_10, mpa_11, mpa_12, Int32.reduceToNatClampNeg, Int32.le_iff_toInt_le, Int32.lt_iff_toInt_lt, ← Int32.toInt_inj, nI_toInt, Int32.reduceToInt] at * <;> omega) | decide); conv => whnf)
          | ((with_reducible refine bc_t ?_ ?_); (· first | with_reducible assumption | (simp (disch := omega) only [true_and, and_true, false_and, and_false, or_false, false_or, or_true, true_or, not_true_eq_false, not_false_eq_true, ev, ew, e1, mpa_0, mpa_1, mpa_2, mpa_9, mpa_10, mpa_11, mpa_12, Int32.reduceToNatClampNeg, Int32.le_iff_toInt_le, Int32.lt_iff_toInt_lt, ← Int32.toInt_inj, nI_toInt, Int32.reduceToInt] <;> omega) | assumption | (simp (disch := omega) only [isT, isP, two, Int32.toInt_sub, Int.bmod_def, true_and, and_true, false_and, and_false, or_false, false_or, or_true, true_or, not_true_eq_false, not_false_eq_true, ev, ew, e1, mpa_0, mpa_1, mpa_2, mpa_9, mpa_10, mpa_11, mpa_12, Int32.reduceToNatClampNeg, Int32.le_iff_toInt_le, Int32.lt_iff_toInt_lt, ← Int32.toInt_inj, nI_toInt, Int32.reduceToInt] at * <;> omega) | decide); conv => whnf)
          | ((with_reducible refine bc_f ?_ ?_); (· first | with_reducible assumption | (simp (disch := omega) only [true_and, and_true, false_and, and_false, or_false, false_or, or_true, true_or, not_true_eq_false, not_false_eq_true, ev, ew, e1, mpa_0, mpa_1, mpa_2, mpa_9, mpa_10, mpa_11, mpa_12, Int32.reduceToNatClampNeg, Int32.le_iff_toInt_le, Int32.lt_iff_toInt_lt, ← Int32.toInt_inj, nI_toInt, Int32.reduceToInt] <;> omega) | assumption | (simp (disch := omega) only [isT, isP, two, Int32.toInt_sub, Int.bmod_def, true_and, and_true, false_and, and_false, or_false, false_or, or_true, true_or, not_true_eq_false, not_false_eq_true, ev, ew, e1, mpa_0, mpa_1, mpa_2, mpa_9, mpa_10, mpa_11, mpa_12, Int32.reduceToNatClampNeg, Int32.le_iff_toInt_le, Int32.lt_iff_toInt_lt, ← Int32.toInt_inj, nI_toInt, Int32.reduceToInt] at * <;> omega) | decide); conv => whnf)
          | ((with_reducible refine br_t ?_ ?_); (· first | with_reducible assumption | (simp (disch := omega) only [true_and, and_true, false_and, and_false, or_false, false_or, or_true, true_or, not_true_eq_false, not_false_eq_true, ev, ew, e1, mpa_0, mpa_1, mpa_2, mpa_9, mpa_10, mpa_11, mpa_12, Int32.reduceToNatClampNeg, Int32.le_iff_toInt_le, Int32.lt_iff_toInt_lt, ← Int32.toInt_inj, nI_toInt, Int32.reduceToInt] <;> omega) | assumption | (simp (disch := omega) only [isT, isP, two, Int32.toInt_sub, Int.bmod_def, true_and, and_true, false_and, and_false, or_false, false_or, or_true, true_or, not_true_eq_false, not_false_eq_true, ev, ew, e1, mpa_0, mpa_1, mpa_2, mpa_9, mpa_10, mpa_11, mpa_12, Int32.reduceToNatClampNeg, Int32.le_iff_toInt_le, Int32.lt_iff_toInt_lt, ← Int32.toInt_inj, nI_toInt, Int32.reduceToInt] at * <;> omega) | decide); conv => whnf)
          | ((with_reducible refine br_f ?_ ?_); (· first | with_reducible assumption | (simp (disch := omega) only [true_and, and_true, false_and, and_false, or_false, false_or, or_true, true_or, not_true_eq_false, not_false_eq_true, ev, ew, e1, mpa_0, mpa_1, mpa_2, mpa_9, mpa_10, mpa_11, mpa_12, Int32.reduceToNatClampNeg, Int32.le_iff_toInt_le, Int32.lt_iff_toInt_lt, ← Int32.toInt_inj, nI_toInt, Int32.reduceToInt] <;> omega) | assumption | (simp (disch := omega) only [isT, isP, two, Int32.toInt_sub, Int.bmod_def, true_and, and_true, false_and, and_false, or_false, false_or, or_true, true_or, not_true_eq_false, not_false_eq_true, ev, ew, e1, mpa_0, mpa_1, mpa_2, mpa_9, mpa_10, mpa_11, mpa_12, Int32.reduceToNatClampNeg, Int32.le_iff_toInt_le, Int32.lt_iff_toInt_lt, ← Int32.toInt_inj, nI_toInt, Int32.reduceToInt] at * <;> omega) | decide); conv => whnf)
          | ((with_reducible refine br_nt ?_ ?_); (· first | with_reducible assumption | (simp (disch := omega) only [true_and, and_true, false_and, and_false, or_false, false_or, or_true, true_or, not_true_eq_false, not_false_eq_true, ev, ew, e1, mpa_0, mpa_1, mpa_2, mpa_9, mpa_10, mpa_11, mpa_12, Int32.reduceToNatClampNeg, Int32.le_iff_toInt_le, Int32.lt_iff_toInt_lt, ← Int32.toInt_inj, nI_toInt, Int32.reduceToInt] <;> omega) | assumption | (simp (disch := omega) only [isT, isP, two, Int32.toInt_sub, Int.bmod_def, true_and, and_true, false_and, and_false, or_false, false_or, or_true, true_or, not_true_eq_false, not_false_eq_true, ev, ew, e1, mpa_0, mpa_1, mpa_2, mpa_9, mpa_10, mpa_11, mpa_12, Int32.reduceToNatClampNeg, Int32.le_iff_toInt_le, Int32.lt_iff_toInt_lt, ← Int32.toInt_inj, nI_toInt, Int32.reduceToInt] at * <;> omega) | decide); conv => whnf)
          | ((with_reducible refine br_nf ?_ ?_); (· first | with_reducible assumption | (simp (disch := omega) only [true_and, and_true, false_and, and_false, or_false, false_or, or_true, true_or, not_true_eq_false, not_false_eq_true, ev, ew, e1, mpa_0, mpa_1, mpa_2, mpa_9, mpa_10, mpa_11, mpa_12, Int32.reduceToNatClampNeg, Int32.le_iff_toInt_le, Int32.lt_iff_toInt_lt, ← Int32.toInt_inj, nI_toInt, Int32.reduceToInt] <;> omega) | assumption | (simp (disch := omega) only [isT, isP, two, Int32.toInt_sub, Int.bmod_def, true_and, and_true, false_and, and_false, or_false, false_or, or_true, true_or, not_true_eq_false, not_false_eq_true, ev, ew, e1, mpa_0, mpa_1, mpa_2, mpa_9, mpa_10, mpa_11, mpa_12, Int32.reduceToNatClampNeg, Int32.le_iff_toInt_le, Int32.lt_iff_toInt_lt, ← Int32.toInt_inj, nI_toInt, Int32.reduceToInt] at * <;> omega) | decide); conv => whnf)
          | ((with_reducible refine ckI ?_ ?_); (· first | ((with_reducible refine vp_in_nI ?_ ?_); (· omega); (· decide)) | exact vp_c (by decide) | exact ⟨_, rfl⟩ | exact Or.inl rfl | exact Or.inr rfl | exact b2_01 _); conv => whnf)
          | ((with_reducible apply cl_p); (case hM => with_reducible exact k8_fail1 _ _); (case hc => exact rfl); (case hd => first | decide | omega); conv => whnf)
          | ((with_reducible apply cl_p); (case hM => with_reducible exact k8_fail2 _ _); (case hc => exact rfl); (case hd => first | decide | omega); conv => whnf)
          | ((with_reducible apply cl_p); (case hM => with_reducible exact k8_fail3 _ _); (case hc => exact rfl); (case hd => first | decide | omega); conv => whnf)
          | ((with_reducible apply cl_p); (case hM => with_reducible exact k8_fail4 _ _); (case hc => exact rfl); (case hd => first | decide | omega); conv => whnf)
          | ((with_reducible apply cl_p); (case hM => with_reducible exact k8_fail5 _ _); (case hc => exact rfl); (case hd => first | decide | omega); conv => whnf)
          | ((with_reducible apply cl_p); (case hM => exact k7_taleOfN _ _ k hk hlt); (case hc => exact rfl); (case hd => first | decide | omega); conv => whnf)
          | ((with_reducible apply cl_p); (case hM => exact k7_taleOf_n _ _ t pn); (case hc => exact rfl); (case hd => first | decide | omega); conv => whnf)
          | ((with_reducible apply cl_p); (case hM => with_reducible exact k7_hasPlace _ _ _); (case hc => exact rfl); (case hd => first | decide | omega); conv => whnf)
          | ((with_reducible apply cl_p); (case hM => with_reducible exact k8_isWithin _ _ _ _); (case hc => exact rfl); (case hd => first | decide | omega); conv => whnf)
          | ((with_reducible apply cl_p); (case hM => exact k8_sheetOfN _ _ z hz4); (case hc => exact rfl); (case hd => first | decide | omega); conv => whnf)
          | ((with_reducible apply cl_p); (case hM => exact k8_sheetOf_n _ _ s ps); (case hc => exact rfl); (case hd => first | decide | omega); conv => whnf)
          | ((with_reducible apply cl_p); (case hM => with_reducible exact k2_isMissing _ _ z hz4); (case hc => exact rfl); (case hd => first | decide | omega); conv => whnf)
          | ((with_reducible apply cl_p); (case hM => with_reducible exact k2_has _ _ z _ hz4); (case hc => exact rfl); (case hd => first | decide | omega); conv => whnf)
          | ((with_reducible apply cl_g); (case hM => exact hBy); (case hc => exact rfl); (case hd => first | decide | omega); intro f76 g77; conv => whnf)
          | ((rw [hsh]); conv => whnf)
          | ((with_reducible refine fun r hr => ?_); (obtain rfl := l7 hr); conv => whnf)
          | ((rw [hss]); conv => whnf)
          | ((rw [hsn]); conv => whnf)
          | ((with_reducible refine ckJ ?_ ?_); conv => whnf)
          | fail
      all_goals first
        | exact rcS hz4
        | exact rcT hk
        | (refine Pc8.of rfl (hRR.er _) ?_; intro i hi; simp (disch := omega) only [hi_wr])
    have ps : ¬ (0 ≤ s ∧ s ≤ 3) := by assumption
    have pn : ¬ ((0 ≤ t ∧ t < μ 1 9) ∧ t < 7) := by
      have h : ¬ isT (S 1) t := by assumption
      rw [hRW.1.2.1]; exact fun q => h ((isN_k (M := 7) hN.2.2.1).mp q)
    refine Mt_of ck_X8_from mf_98 rfl ?_
    have hRR := hR
    clear hW hN hRW hR
    repeat' first
      | ((with_reducible refine gow ck_X8_from _ [] ?_); conv => whnf)
      | ((with_reducible refine bn_t ?_ ?_); (· first | with_reducible assumption | (simp (disch := omega) only [true_and, and_true, false_and, and_false, or_false, false_or, or_true, true_or, not_true_eq_false, not_false_eq_true, ev, ew, e1, mpa_0, mpa_1, mpa_2, mpa_9, mpa_10, mpa_11, mpa_12, Int32.reduceToNatClampNeg, Int32.le_iff_toInt_le, Int32.lt_iff_toInt_lt, ← Int32.toInt_inj, nI_toInt, Int32.reduceToInt] <;> omega) | assumption | (simp (disch := omega) only [isT, isP, two, Int32.toInt_sub, Int.bmod_def, true_and, and_true, false_and, and_false, or_false, false_or, or_true, true_or, not_true_eq_false, not_false_eq_true, ev, ew, e1, mpa_0, mpa_1, mpa_2, mpa_9, mpa_10, mpa_11, mpa_12, Int32.reduceToNatClampNeg, Int32.le_iff_toInt_le, Int32.lt_iff_toInt_lt, ← Int32.toInt_inj, nI_toInt, Int32.reduceToInt] at * <;> omega) | decide); conv => whnf)
      | ((with_reducible refine bn_f ?_ ?_); (· first | with_reducible assumption | (simp (disch := omega) only [true_and, and_true, false_and, and_false, or_false, false_or, or_true, true_or, not_true_eq_false, not_false_eq_true, ev, ew, e1, mpa_0, mpa_1, mpa_2, mpa_9, mpa_10, mpa_11, mpa_12, Int32.reduceToNatClampNeg, Int32.le_iff_toInt_le, Int32.lt_iff_toInt_lt, ← Int32.toInt_inj, nI_toInt, Int32.reduceToInt] <;> omega) | assumption | (simp (disch := omega) only [isT, isP, two, Int32.toInt_sub, Int.bmod_def, true_and, and_true, false_and, and_false, or_false, false_or, or_true, true_or, not_true_eq_false, not_false_eq_true, ev, ew, e1, mpa_0, mpa_1, mpa_2, mpa_9, mpa_10, mpa_11, mpa_12, Int32.reduceToNatClampNeg, Int32.le_iff_toInt_le, Int32.lt_iff_toInt_lt, ← Int32.toInt_inj, nI_toInt, Int32.reduceToInt] at * <;> omega) | decide); conv => whnf)
      | ((with_reducible refine bc_t ?_ ?_); (· first | with_reducible assumption | (simp (disch := omega) only [true_and, and_true, false_and, and_false, or_false, false_or, or_true, true_or, not_true_eq_false, not_false_eq_true, ev, ew, e1, mpa_0, mpa_1, mpa_2, mpa_9, mpa_10, mpa_11, mpa_12, Int32.reduceToNatClampNeg, Int32.le_iff_toInt_le, Int32.lt_iff_toInt_lt, ← Int32.toInt_inj, nI_toInt, Int32.reduceToInt] <;> omega) | assumption | (simp (disch := omega) only [isT, isP, two, Int32.toInt_sub, Int.bmod_def, true_and, and_true, false_and, and_false, or_false, false_or, or_true, true_or, not_true_eq_false, not_false_eq_true, ev, ew, e1, mpa_0, mpa_1, mpa_2, mpa_9, mpa_10, mpa_11, mpa_12, Int32.reduceToNatClampNeg, Int32.le_iff_toInt_le, Int32.lt_iff_toInt_lt, ← Int32.toInt_inj, nI_toInt, Int32.reduceToInt] at * <;> omega) | decide); conv => whnf)
      | ((with_reducible refine bc_f ?_ ?_); (· first | with_reducible assumption | (simp (disch := omega) only [true_and, and_true, false_and, and_false, or_false, false_or, or_true, true_or, not_true_eq_false, not_false_eq_true, ev, ew, e1, mpa_0, mpa_1, mpa_2, mpa_9, mpa_10, mpa_11, mpa_12, Int32.reduceToNatClampNeg, Int32.le_iff_toInt_le, Int32.lt_iff_toInt_lt, ← Int32.toInt_inj, nI_toInt, Int32.reduceToInt] <;> omega) | assumption | (simp (disch := omega) only [isT, isP, two, Int32.toInt_sub, Int.bmod_def, true_and, and_true, false_and, and_false, or_false, false_or, or_true, true_or, not_true_eq_false, not_false_eq_true, ev, ew, e1, mpa_0, mpa_1, mpa_2, mpa_9, mpa_10, mpa_11, mpa_12, Int32.reduceToNatClampNeg, Int32.le_iff_toInt_le, Int32.lt_iff_toInt_lt, ← Int32.toInt_inj, nI_toInt, Int32.reduceToInt] at * <;> omega) | decide); conv => whnf)
      | ((with_reducible refine br_t ?_ ?_); (· first | with_reducible assumption | (simp (disch := omega) only [true_and, and_true, false_and, and_false, or_false, false_or, or_true, true_or, not_true_eq_false, not_false_eq_true, ev, ew, e1, mpa_0, mpa_1, mpa_2, mpa_9, mpa_10, mpa_11, mpa_12, Int32.reduceToNatClampNeg, Int32.le_iff_toInt_le, Int32.lt_iff_toInt_lt, ← Int32.toInt_inj, nI_toInt, Int32.reduceToInt] <;> omega) | assumption | (simp (disch := omega) only [isT, isP, two, Int32.toInt_sub, Int.bmod_def, true_and, and_true, false_and, and_false, or_false, false_or, or_true, true_or, not_true_eq_false, not_false_eq_true, ev, ew, e1, mpa_0, mpa_1, mpa_2, mpa_9, mpa_10, mpa_11, mpa_12, Int32.reduceToNatClampNeg, Int32.le_iff_toInt_le, Int32.lt_iff_toInt_lt, ← Int32.toInt_inj, nI_toInt, Int32.reduceToInt] at * <;> omega) | decide); conv => whnf)
      | ((with_reducible refine br_f ?_ ?_); (· first | with_reducible assumption | (simp (disch := omega) only [true_and, and_true, false_and, and_false, or_false, false_or, or_true, true_or, not_true_eq_false, not_false_eq_true, ev, ew, e1, mpa_0, mpa_1, mpa_2, mpa_9, mpa_10, mpa_11, mpa_12, Int32.reduceToNatClampNeg, Int32.le_iff_toInt_le, Int32.lt_iff_toInt_lt, ← Int32.toInt_inj, nI_toInt, Int32.reduceToInt] <;> omega) | assumption | (simp (disch := omega) only [isT, isP, two, Int32.toInt_sub, Int.bmod_def, true_and, and_true, false_and, and_false, or_false, false_or, or_true, true_or, not_true_eq_false, not_false_eq_true, ev, ew, e1, mpa_0, mpa_1, mpa_2, mpa_9, mpa_10, mpa_11, mpa_12, Int32.reduceToNatClampNeg, Int32.le_iff_toInt_le, Int32.lt_iff_toInt_lt, ← Int32.toInt_inj, nI_toInt, Int32.reduceToInt] at * <;> omega) | decide); conv => whnf)
      | ((with_reducible refine br_nt ?_ ?_); (· first | with_reducible assumption | (simp (disch := omega) only [true_and, and_true, false_and, and_false, or_false, false_or, or_true, true_or, not_true_eq_false, not_false_eq_true, ev, ew, e1, mpa_0, mpa_1, mpa_2, mpa_9, mpa_10, mpa_11, mpa_12, Int32.reduceToNatClampNeg, Int32.le_iff_toInt_le, Int32.lt_iff_toInt_lt, ← Int32.toInt_inj, nI_toInt, Int32.reduceToInt] <;> omega) | assumption | (simp (disch := omega) only [isT, isP, two, Int32.toInt_sub, Int.bmod_def, true_and, and_true, false_and, and_false, or_false, false_or, or_true, true_or, not_true_eq_false, not_false_eq_true, ev, ew, e1, mpa_0, mpa_1, mpa_2, mpa_9, mpa_10, mpa_11, mpa_12, Int32.reduceToNatClampNeg, Int32.le_iff_toInt_le, Int32.lt_iff_toInt_lt, ← Int32.toInt_inj, nI_toInt, Int32.reduceToInt] at * <;> omega) | decide); conv => whnf)
      | ((with_reducible refine br_nf ?_ ?_); (· first | with_reducible assumption | (simp (disch := omega) only [true_and, and_true, false_and, and_false, or_false, false_or, or_true, true_or, not_true_eq_false, not_false_eq_true, ev, ew, e1, mpa_0, mpa_1, mpa_2, mpa_9, mpa_10, mpa_11, mpa_12, Int32.reduceToNatClampNeg, Int32.le_iff_toInt_le, Int32.lt_iff_toInt_lt, ← Int32.toInt_inj, nI_toInt, Int32.reduceToInt] <;> omega) | assumption | (simp (disch := omega) only [isT, isP, two, Int32.toInt_sub, Int.bmod_def, true_and, and_true, false_and, and_false, or_false, false_or, or_true, true_or, not_true_eq_false, not_false_eq_true, ev, ew, e1, mpa_0, mpa_1, mpa_2, mpa_9, mpa_10, mpa_11, mpa_12, Int32.reduceToNatClampNeg, Int32.le_iff_toInt_le, Int32.lt_iff_toInt_lt, ← Int32.toInt_inj, nI_toInt, Int32.reduceToInt] at * <;> omega) | decide); conv => whnf)
      | ((with_reducible refine ckI ?_ ?_); (· first | ((with_reducible refine vp_in_nI ?_ ?_); (· omega); (· decide)) | exact vp_c (by decide) | exact ⟨_, rfl⟩ | exact Or.inl rfl | exact Or.inr rfl | exact b2_01 _); conv => whnf)
      | ((with_reducible apply cl_p); (case hM => with_reducible exact k8_fail1 _ _); (case hc => exact rfl); (case hd => first | decide | omega); conv => whnf)
      | ((with_reducible apply cl_p); (case hM => with_reducible exact k8_fail2 _ _); (case hc => exact rfl); (case hd => first | decide | omega); conv => whnf)
      | ((with_reducible apply cl_p); (case hM => with_reducible exact k8_fail3 _ _); (case hc => exact rfl); (case hd => first | decide | omega); conv => whnf)
      | ((with_reducible apply cl_p); (case hM => with_reducible exact k8_fail4 _ _); (case hc => exact rfl); (case hd => first | decide | omega); conv => whnf)
      | ((with_reducible apply cl_p); (case hM => with_reducible exact k8_fail5 _ _); (case hc => exact rfl); (case hd => first | decide | omega); conv => whnf)
      | ((with_reducible apply cl_p); (case hM => exact k7_taleOfN _ _ k hk hlt); (case hc => exact rfl); (case hd => first | decide | omega); conv => whnf)
      | ((with_reducible apply cl_p); (case hM => exact k7_taleOf_n _ _ t pn); (case hc => exact rfl); (case hd => first | decide | omega); conv => whnf)
      | ((with_reducible apply cl_p); (case hM => with_reducible exact k7_hasPlace _ _ _); (case hc => exact rfl); (case hd => first | decide | omega); conv => whnf)
      | ((with_reducible apply cl_p); (case hM => with_reducible exact k8_isWithin _ _ _ _); (case hc => exact rfl); (case hd => first | decide | omega); conv => whnf)
      | ((with_reducible apply cl_p); (case hM => exact k8_sheetOfN _ _ z hz4); (case hc => exact rfl); (case hd => first | decide | omega); conv => whnf)
      | ((with_reducible apply cl_p); (case hM => exact k8_sheetOf_n _ _ s ps); (case hc => exact rfl); (case hd => first | decide | omega); conv => whnf)
      | ((with_reducible apply cl_p); (case hM => with_reducible exact k2_isMissing _ _ z hz4); (case hc => exact rfl); (case hd => first | decide | omega); conv => whnf)
      | ((with_reducible apply cl_p); (case hM => with_reducible exact k2_has _ _ z _ hz4); (case hc => exact rfl); (case hd => first | decide | omega); conv => whnf)
      | ((with_reducible apply cl_g); (case hM => exact hBy); (case hc => exact rfl); (case hd => first | decide | omega); intro f76 g77; conv => whnf)
      | ((rw [hsh]); conv => whnf)
      | ((with_reducible refine fun r hr => ?_); (obtain rfl := l7 hr); conv => whnf)
      | ((rw [hss]); conv => whnf)
      | ((rw [hsn]); conv => whnf)
      | ((with_reducible refine ckJ ?_ ?_); conv => whnf)
      | fail
    all_goals first
      | exact rcS hz4
      | exact rcT hk
      | (refine Pc8.of rfl (hRR.er _) ?_; intro i hi; simp (disch := omega) only [hi_wr])
