theorem l7 {k r : Nat} (h : ([6, 7, 8, 9, 10, 11, 12] : List Nat)[k]? = some r) : r = 6 + k := by
  have hk : k < 7 := by
    rcases Nat.lt_or_ge k 7 with q | q
    · exact q
    · rw [List.getElem?_eq_none (by simpa using q)] at h; exact absurd h (by simp)
  rcases k with _ | _ | _ | _ | _ | _ | _ | k <;> first | (simp at h; omega) | omega
theorem k7_taleOf (X : Cx) (μ : Mem) (t : Int32) (h0 : 0 ≤ t) (h1 : t < μ 1 9) (h2 : t < 7) : Mt X m_X7_taleOf 0 [.ref 1, .int t] μ (fun r μ' => r = some (.ref (6 + t.toInt.toNat)) ∧ μ' = μ) := by
  have h3 : ¬ t < 0 := by simp only [Int32.le_iff_toInt_le, Int32.lt_iff_toInt_lt] at *; omega
  have h4 : ¬ μ 1 9 ≤ t := by simp only [Int32.le_iff_toInt_le, Int32.lt_iff_toInt_lt] at *; omega
  have h5 : ¬ Int32.ofNat [6, 7, 8, 9, 10, 11, 12].length ≤ t := by show ¬ (7 : Int32) ≤ t; simp only [Int32.le_iff_toInt_le, Int32.lt_iff_toInt_lt] at *; omega
  refine Mt_of ck_X7_taleOf mf_53 rfl ?_
  repeat' first
    | ((with_reducible refine gow ck_X7_taleOf _ [] ?_); conv => whnf)
    | ((with_reducible refine bn_t ?_ ?_); (· first | assumption | decide); conv => whnf)
    | ((with_reducible refine bn_f ?_ ?_); (· first | assumption | decide); conv => whnf)
    | ((with_reducible refine bc_t ?_ ?_); (· first | assumption | decide); conv => whnf)
    | ((with_reducible refine bc_f ?_ ?_); (· first | assumption | decide); conv => whnf)
    | ((with_reducible refine br_t ?_ ?_); (· first | assumption | decide); conv => whnf)
    | ((with_reducible refine br_f ?_ ?_); (· first | assumption | decide); conv => whnf)
    | ((with_reducible refine br_nt ?_ ?_); (· first | assumption | decide); conv => whnf)
    | ((with_reducible refine br_nf ?_ ?_); (· first | assumption | decide); conv => whnf)
    | ((with_reducible refine ckI ?_ ?_); (· first | ((with_reducible refine vp_in_nI ?_ ?_); (· omega); (· decide)) | exact vp_c (by decide) | exact ⟨_, rfl⟩ | exact Or.inl rfl | exact Or.inr rfl | exact b2_01 _); conv => whnf)
    | ((with_reducible refine fun r hr => ?_); (obtain rfl := l7 hr); conv => whnf)
    | ((with_reducible refine ckJ ?_ ?_); conv => whnf)
    | fail
  all_goals first
    | exact ⟨rfl, rfl⟩
    | (refine vp_t ?_ ?_ <;> (simp only [Int32.le_iff_toInt_le, Int32.lt_iff_toInt_lt, Int32.reduceToInt, List.length] at *; omega))
    | (exfalso; have h7 : ¬ Int32.ofNat [6, 7, 8, 9, 10, 11, 12].length ≤ t := by assumption
       have h9 : ¬ (7 : Int32) ≤ t := h7
       clear h7; refine h ⟨⟨?_, ?_⟩, ?_⟩ <;> (clear h; simp only [Int32.le_iff_toInt_le, Int32.lt_iff_toInt_lt, Int32.reduceToInt] at *; omega))
    | fail
theorem k7_taleOf_n (X : Cx) (μ : Mem) (t : Int32) (h : ¬ ((0 ≤ t ∧ t < μ 1 9) ∧ t < 7)) : Mt X m_X7_taleOf 0 [.ref 1, .int t] μ (fun r μ' => r = some .null ∧ μ' = μ) := by
  refine Mt_of ck_X7_taleOf mf_53 rfl ?_
  repeat' first
    | ((with_reducible refine gow ck_X7_taleOf _ [] ?_); conv => whnf)
    | ((with_reducible refine bn_t ?_ ?_); (· first | assumption | decide); conv => whnf)
    | ((with_reducible refine bn_f ?_ ?_); (· first | assumption | decide); conv => whnf)
    | ((with_reducible refine bc_t ?_ ?_); (· first | assumption | decide); conv => whnf)
    | ((with_reducible refine bc_f ?_ ?_); (· first | assumption | decide); conv => whnf)
    | ((with_reducible refine br_t ?_ ?_); (· first | assumption | decide); conv => whnf)
    | ((with_reducible refine br_f ?_ ?_); (· first | assumption | decide); conv => whnf)
    | ((with_reducible refine br_nt ?_ ?_); (· first | assumption | decide); conv => whnf)
    | ((with_reducible refine br_nf ?_ ?_); (· first | assumption | decide); conv => whnf)
    | ((with_reducible refine bn_c (fun _ => ?_) (fun _ => ?_)) <;> conv => whnf)
    | ((with_reducible refine bc_c (fun _ => ?_) (fun _ => ?_)) <;> conv => whnf)
    | ((with_reducible refine br_c (fun _ => ?_) (fun _ => ?_)) <;> conv => whnf)
    | ((with_reducible refine br_n (fun _ => ?_) (fun _ => ?_)) <;> conv => whnf)
    | ((with_reducible refine ckI ?_ ?_); (· first | ((with_reducible refine vp_in_nI ?_ ?_); (· omega); (· decide)) | exact vp_c (by decide) | exact ⟨_, rfl⟩ | exact Or.inl rfl | exact Or.inr rfl | exact b2_01 _); conv => whnf)
    | ((with_reducible refine ckJ ?_ ?_); conv => whnf)
    | fail
  all_goals first
    | exact ⟨rfl, rfl⟩
    | (refine vp_t ?_ ?_ <;> (simp only [Int32.le_iff_toInt_le, Int32.lt_iff_toInt_lt, Int32.reduceToInt, List.length] at *; omega))
    | (exfalso; have h7 : ¬ Int32.ofNat [6, 7, 8, 9, 10, 11, 12].length ≤ t := by assumption
       have h9 : ¬ (7 : Int32) ≤ t := h7
       clear h7; refine h ⟨⟨?_, ?_⟩, ?_⟩ <;> (clear h; simp only [Int32.le_iff_toInt_le, Int32.lt_iff_toInt_lt, Int32.reduceToInt] at *; omega))
    | fail
theorem shT {k : Nat} (h : k < 7) : shL[6 + k]? = some (.inl (3, [none, none, none, none, none, none])) := by
  rcases k with _ | _ | _ | _ | _ | _ | _ | k <;> first | rfl | omega
theorem k3_setKind (X : Cx) (μ : Mem) (k : Nat) (v : Int32) (hk : k < 7) : Mt X m_X3_setKind 0 [.ref (6 + k), .int v] μ (fun r μ' => r = none ∧ μ' = wr (wr μ (6 + k) 0 (v / 10)) (6 + k) 1 (v - v / 10 * 10)) := by
  have hsh := shT hk
  refine Mt_of ck_X3_setKind mf_22 rfl ?_
  repeat' first
    | ((with_reducible refine gow ck_X3_setKind _ [] ?_); conv => whnf)
    | ((with_reducible refine bn_t ?_ ?_); (· first | assumption | decide); conv => whnf)
    | ((with_reducible refine bn_f ?_ ?_); (· first | assumption | decide); conv => whnf)
    | ((with_reducible refine bc_t ?_ ?_); (· first | assumption | decide); conv => whnf)
    | ((with_reducible refine bc_f ?_ ?_); (· first | assumption | decide); conv => whnf)
    | ((with_reducible refine br_t ?_ ?_); (· first | assumption | decide); conv => whnf)
    | ((with_reducible refine br_f ?_ ?_); (· first | assumption | decide); conv => whnf)
    | ((with_reducible refine br_nt ?_ ?_); (· first | assumption | decide); conv => whnf)
    | ((with_reducible refine br_nf ?_ ?_); (· first | assumption | decide); conv => whnf)
    | ((with_reducible refine bn_c (fun _ => ?_) (fun _ => ?_)) <;> conv => whnf)
    | ((with_reducible refine bc_c (fun _ => ?_) (fun _ => ?_)) <;> conv => whnf)
    | ((with_reducible refine br_c (fun _ => ?_) (fun _ => ?_)) <;> conv => whnf)
    | ((with_reducible refine br_n (fun _ => ?_) (fun _ => ?_)) <;> conv => whnf)
    | ((with_reducible refine ckI ?_ ?_); (· first | ((with_reducible refine vp_in_nI ?_ ?_); (· omega); (· decide)) | exact vp_c (by decide) | exact ⟨_, rfl⟩ | exact Or.inl rfl | exact Or.inr rfl | exact b2_01 _); conv => whnf)
    | ((rw [hsh]); conv => whnf)
    | ((with_reducible refine ckJ ?_ ?_); conv => whnf)
    | fail
  all_goals first
    | exact ⟨rfl, rfl⟩
    | (show ¬ (10 : Int32) = 0; decide)
theorem k3_part0 (X : Cx) (μ : Mem) (k : Nat) (hk : k < 7) : Mt X m_X3_part 0 [.ref (6 + k), .int 0] μ (fun r μ' => r = some (.int (μ (6 + k) 0)) ∧ μ' = μ) := by
  have hsh := shT hk
  refine Mt_of ck_X3_part mf_23 rfl ?_
  repeat' first
    | ((with_reducible refine gow ck_X3_part _ [] ?_); conv => whnf)
    | ((with_reducible refine bn_t ?_ ?_); (· first | assumption | decide); conv => whnf)
    | ((with_reducible refine bn_f ?_ ?_); (· first | assumption | decide); conv => whnf)
    | ((with_reducible refine bc_t ?_ ?_); (· first | assumption | decide); conv => whnf)
    | ((with_reducible refine bc_f ?_ ?_); (· first | assumption | decide); conv => whnf)
    | ((with_reducible refine br_t ?_ ?_); (· first | assumption | decide); conv => whnf)
    | ((with_reducible refine br_f ?_ ?_); (· first | assumption | decide); conv => whnf)
    | ((with_reducible refine br_nt ?_ ?_); (· first | assumption | decide); conv => whnf)
    | ((with_reducible refine br_nf ?_ ?_); (· first | assumption | decide); conv => whnf)
    | ((with_reducible refine ckI ?_ ?_); (· first | ((with_reducible refine vp_in_nI ?_ ?_); (· omega); (· decide)) | exact vp_c (by decide) | exact ⟨_, rfl⟩ | exact Or.inl rfl | exact Or.inr rfl | exact b2_01 _); conv => whnf)
    | ((rw [hsh]); conv => whnf)
    | ((with_reducible refine ckJ ?_ ?_); conv => whnf)
    | fail
  all_goals first
    | exact ⟨rfl, rfl⟩
    | (show ¬ (10 : Int32) = 0; decide)
theorem k3_part1 (X : Cx) (μ : Mem) (k : Nat) (hk : k < 7) : Mt X m_X3_part 0 [.ref (6 + k), .int 1] μ (fun r μ' => r = some (.int (μ (6 + k) 1)) ∧ μ' = μ) := by
  have hsh := shT hk
  refine Mt_of ck_X3_part mf_23 rfl ?_
  repeat' first
    | ((with_reducible refine gow ck_X3_part _ [] ?_); conv => whnf)
    | ((with_reducible refine bn_t ?_ ?_); (· first | assumption | decide); conv => whnf)
    | ((with_reducible refine bn_f ?_ ?_); (· first | assumption | decide); conv => whnf)
    | ((with_reducible refine bc_t ?_ ?_); (· first | assumption | decide); conv => whnf)
    | ((with_reducible refine bc_f ?_ ?_); (· first | assumption | decide); conv => whnf)
    | ((with_reducible refine br_t ?_ ?_); (· first | assumption | decide); conv => whnf)
    | ((with_reducible refine br_f ?_ ?_); (· first | assumption | decide); conv => whnf)
    | ((with_reducible refine br_nt ?_ ?_); (· first | assumption | decide); conv => whnf)
    | ((with_reducible refine br_nf ?_ ?_); (· first | assumption | decide); conv => whnf)
    | ((with_reducible refine ckI ?_ ?_); (· first | ((with_reducible refine vp_in_nI ?_ ?_); (· omega); (· decide)) | exact vp_c (by decide) | exact ⟨_, rfl⟩ | exact Or.inl rfl | exact Or.inr rfl | exact b2_01 _); conv => whnf)
    | ((rw [hsh]); conv => whnf)
    | ((with_reducible refine ckJ ?_ ?_); conv => whnf)
    | fail
  all_goals first
    | exact ⟨rfl, rfl⟩
    | (show ¬ (10 : Int32) = 0; decide)
theorem k3_part2 (X : Cx) (μ : Mem) (k : Nat) (hk : k < 7) : Mt X m_X3_part 0 [.ref (6 + k), .int 2] μ (fun r μ' => r = some (.int (μ (6 + k) 2)) ∧ μ' = μ) := by
  have hsh := shT hk
  refine Mt_of ck_X3_part mf_23 rfl ?_
  repeat' first
    | ((with_reducible refine gow ck_X3_part _ [] ?_); conv => whnf)
    | ((with_reducible refine bn_t ?_ ?_); (· first | assumption | decide); conv => whnf)
    | ((with_reducible refine bn_f ?_ ?_); (· first | assumption | decide); conv => whnf)
    | ((with_reducible refine bc_t ?_ ?_); (· first | assumption | decide); conv => whnf)
    | ((with_reducible refine bc_f ?_ ?_); (· first | assumption | decide); conv => whnf)
    | ((with_reducible refine br_t ?_ ?_); (· first | assumption | decide); conv => whnf)
    | ((with_reducible refine br_f ?_ ?_); (· first | assumption | decide); conv => whnf)
    | ((with_reducible refine br_nt ?_ ?_); (· first | assumption | decide); conv => whnf)
    | ((with_reducible refine br_nf ?_ ?_); (· first | assumption | decide); conv => whnf)
    | ((with_reducible refine ckI ?_ ?_); (· first | ((with_reducible refine vp_in_nI ?_ ?_); (· omega); (· decide)) | exact vp_c (by decide) | exact ⟨_, rfl⟩ | exact Or.inl rfl | exact Or.inr rfl | exact b2_01 _); conv => whnf)
    | ((rw [hsh]); conv => whnf)
    | ((with_reducible refine ckJ ?_ ?_); conv => whnf)
    | fail
  all_goals first
    | exact ⟨rfl, rfl⟩
    | (show ¬ (10 : Int32) = 0; decide)
theorem k3_part3 (X : Cx) (μ : Mem) (k : Nat) (hk : k < 7) : Mt X m_X3_part 0 [.ref (6 + k), .int 3] μ (fun r μ' => r = some (.int (μ (6 + k) 3)) ∧ μ' = μ) := by
  have hsh := shT hk
  refine Mt_of ck_X3_part mf_23 rfl ?_
  repeat' first
    | ((with_reducible refine gow ck_X3_part _ [] ?_); conv => whnf)
    | ((with_reducible refine bn_t ?_ ?_); (· first | assumption | decide); conv => whnf)
    | ((with_reducible refine bn_f ?_ ?_); (· first | assumption | decide); conv => whnf)
    | ((with_reducible refine bc_t ?_ ?_); (· first | assumption | decide); conv => whnf)
    | ((with_reducible refine bc_f ?_ ?_); (· first | assumption | decide); conv => whnf)
    | ((with_reducible refine br_t ?_ ?_); (· first | assumption | decide); conv => whnf)
    | ((with_reducible refine br_f ?_ ?_); (· first | assumption | decide); conv => whnf)
    | ((with_reducible refine br_nt ?_ ?_); (· first | assumption | decide); conv => whnf)
    | ((with_reducible refine br_nf ?_ ?_); (· first | assumption | decide); conv => whnf)
    | ((with_reducible refine ckI ?_ ?_); (· first | ((with_reducible refine vp_in_nI ?_ ?_); (· omega); (· decide)) | exact vp_c (by decide) | exact ⟨_, rfl⟩ | exact Or.inl rfl | exact Or.inr rfl | exact b2_01 _); conv => whnf)
    | ((rw [hsh]); conv => whnf)
    | ((with_reducible refine ckJ ?_ ?_); conv => whnf)
    | fail
  all_goals first
    | exact ⟨rfl, rfl⟩
    | (show ¬ (10 : Int32) = 0; decide)
theorem k3_part4 (X : Cx) (μ : Mem) (k : Nat) (hk : k < 7) : Mt X m_X3_part 0 [.ref (6 + k), .int 4] μ (fun r μ' => r = some (.int (μ (6 + k) 4)) ∧ μ' = μ) := by
  have hsh := shT hk
  refine Mt_of ck_X3_part mf_23 rfl ?_
  repeat' first
    | ((with_reducible refine gow ck_X3_part _ [] ?_); conv => whnf)
    | ((with_reducible refine bn_t ?_ ?_); (· first | assumption | decide); conv => whnf)
    | ((with_reducible refine bn_f ?_ ?_); (· first | assumption | decide); conv => whnf)
    | ((with_reducible refine bc_t ?_ ?_); (· first | assumption | decide); conv => whnf)
    | ((with_reducible refine bc_f ?_ ?_); (· first | assumption | decide); conv => whnf)
    | ((with_reducible refine br_t ?_ ?_); (· first | assumption | decide); conv => whnf)
    | ((with_reducible refine br_f ?_ ?_); (· first | assumption | decide); conv => whnf)
    | ((with_reducible refine br_nt ?_ ?_); (· first | assumption | decide); conv => whnf)
    | ((with_reducible refine br_nf ?_ ?_); (· first | assumption | decide); conv => whnf)
    | ((with_reducible refine ckI ?_ ?_); (· first | ((with_reducible refine vp_in_nI ?_ ?_); (· omega); (· decide)) | exact vp_c (by decide) | exact ⟨_, rfl⟩ | exact Or.inl rfl | exact Or.inr rfl | exact b2_01 _); conv => whnf)
    | ((rw [hsh]); conv => whnf)
    | ((with_reducible refine ckJ ?_ ?_); conv => whnf)
    | fail
  all_goals first
    | exact ⟨rfl, rfl⟩
    | (show ¬ (10 : Int32) = 0; decide)
theorem k3_part5 (X : Cx) (μ : Mem) (k : Nat) (hk : k < 7) : Mt X m_X3_part 0 [.ref (6 + k), .int 5] μ (fun r μ' => r = some (.int (μ (6 + k) 5)) ∧ μ' = μ) := by
  have hsh := shT hk
  refine Mt_of ck_X3_part mf_23 rfl ?_
  repeat' first
    | ((with_reducible refine gow ck_X3_part _ [] ?_); conv => whnf)
    | ((with_reducible refine bn_t ?_ ?_); (· first | assumption | decide); conv => whnf)
    | ((with_reducible refine bn_f ?_ ?_); (· first | assumption | decide); conv => whnf)
    | ((with_reducible refine bc_t ?_ ?_); (· first | assumption | decide); conv => whnf)
    | ((with_reducible refine bc_f ?_ ?_); (· first | assumption | decide); conv => whnf)
    | ((with_reducible refine br_t ?_ ?_); (· first | assumption | decide); conv => whnf)
    | ((with_reducible refine br_f ?_ ?_); (· first | assumption | decide); conv => whnf)
    | ((with_reducible refine br_nt ?_ ?_); (· first | assumption | decide); conv => whnf)
    | ((with_reducible refine br_nf ?_ ?_); (· first | assumption | decide); conv => whnf)
    | ((with_reducible refine ckI ?_ ?_); (· first | ((with_reducible refine vp_in_nI ?_ ?_); (· omega); (· decide)) | exact vp_c (by decide) | exact ⟨_, rfl⟩ | exact Or.inl rfl | exact Or.inr rfl | exact b2_01 _); conv => whnf)
    | ((rw [hsh]); conv => whnf)
    | ((with_reducible refine ckJ ?_ ?_); conv => whnf)
    | fail
  all_goals first
    | exact ⟨rfl, rfl⟩
    | (show ¬ (10 : Int32) = 0; decide)
theorem k3_setPart2 (X : Cx) (μ : Mem) (k : Nat) (v : Int32) (hk : k < 7) : Mt X m_X3_setPart 0 [.ref (6 + k), .int 2, .int v] μ (fun r μ' => r = none ∧ μ' = wr μ (6 + k) 2 v) := by
  have hsh := shT hk
  refine Mt_of ck_X3_setPart mf_24 rfl ?_
  repeat' first
    | ((with_reducible refine gow ck_X3_setPart _ [] ?_); conv => whnf)
    | ((with_reducible refine bn_t ?_ ?_); (· first | assumption | decide); conv => whnf)
    | ((with_reducible refine bn_f ?_ ?_); (· first | assumption | decide); conv => whnf)
    | ((with_reducible refine bc_t ?_ ?_); (· first | assumption | decide); conv => whnf)
    | ((with_reducible refine bc_f ?_ ?_); (· first | assumption | decide); conv => whnf)
    | ((with_reducible refine br_t ?_ ?_); (· first | assumption | decide); conv => whnf)
    | ((with_reducible refine br_f ?_ ?_); (· first | assumption | decide); conv => whnf)
    | ((with_reducible refine br_nt ?_ ?_); (· first | assumption | decide); conv => whnf)
    | ((with_reducible refine br_nf ?_ ?_); (· first | assumption | decide); conv => whnf)
    | ((with_reducible refine ckI ?_ ?_); (· first | ((with_reducible refine vp_in_nI ?_ ?_); (· omega); (· decide)) | exact vp_c (by decide) | exact ⟨_, rfl⟩ | exact Or.inl rfl | exact Or.inr rfl | exact b2_01 _); conv => whnf)
    | ((rw [hsh]); conv => whnf)
    | ((with_reducible refine ckJ ?_ ?_); conv => whnf)
    | fail
  all_goals first
    | exact ⟨rfl, rfl⟩
    | (show ¬ (10 : Int32) = 0; decide)
theorem k3_setPart3 (X : Cx) (μ : Mem) (k : Nat) (v : Int32) (hk : k < 7) : Mt X m_X3_setPart 0 [.ref (6 + k), .int 3, .int v] μ (fun r μ' => r = none ∧ μ' = wr μ (6 + k) 3 v) := by
  have hsh := shT hk
  refine Mt_of ck_X3_setPart mf_24 rfl ?_
  repeat' first
    | ((with_reducible refine gow ck_X3_setPart _ [] ?_); conv => whnf)
    | ((with_reducible refine bn_t ?_ ?_); (· first | assumption | decide); conv => whnf)
    | ((with_reducible refine bn_f ?_ ?_); (· first | assumption | decide); conv => whnf)
    | ((with_reducible refine bc_t ?_ ?_); (· first | assumption | decide); conv => whnf)
    | ((with_reducible refine bc_f ?_ ?_); (· first | assumption | decide); conv => whnf)
    | ((with_reducible refine br_t ?_ ?_); (· first | assumption | decide); conv => whnf)
    | ((with_reducible refine br_f ?_ ?_); (· first | assumption | decide); conv => whnf)
    | ((with_reducible refine br_nt ?_ ?_); (· first | assumption | decide); conv => whnf)
    | ((with_reducible refine br_nf ?_ ?_); (· first | assumption | decide); conv => whnf)
    | ((with_reducible refine ckI ?_ ?_); (· first | ((with_reducible refine vp_in_nI ?_ ?_); (· omega); (· decide)) | exact vp_c (by decide) | exact ⟨_, rfl⟩ | exact Or.inl rfl | exact Or.inr rfl | exact b2_01 _); conv => whnf)
    | ((rw [hsh]); conv => whnf)
    | ((with_reducible refine ckJ ?_ ?_); conv => whnf)
    | fail
  all_goals first
    | exact ⟨rfl, rfl⟩
    | (show ¬ (10 : Int32) = 0; decide)
theorem k3_setPart4 (X : Cx) (μ : Mem) (k : Nat) (v : Int32) (hk : k < 7) : Mt X m_X3_setPart 0 [.ref (6 + k), .int 4, .int v] μ (fun r μ' => r = none ∧ μ' = wr μ (6 + k) 4 v) := by
  have hsh := shT hk
  refine Mt_of ck_X3_setPart mf_24 rfl ?_
  repeat' first
    | ((with_reducible refine gow ck_X3_setPart _ [] ?_); conv => whnf)
    | ((with_reducible refine bn_t ?_ ?_); (· first | assumption | decide); conv => whnf)
    | ((with_reducible refine bn_f ?_ ?_); (· first | assumption | decide); conv => whnf)
    | ((with_reducible refine bc_t ?_ ?_); (· first | assumption | decide); conv => whnf)
    | ((with_reducible refine bc_f ?_ ?_); (· first | assumption | decide); conv => whnf)
    | ((with_reducible refine br_t ?_ ?_); (· first | assumption | decide); conv => whnf)
    | ((with_reducible refine br_f ?_ ?_); (· first | assumption | decide); conv => whnf)
    | ((with_reducible refine br_nt ?_ ?_); (· first | assumption | decide); conv => whnf)
    | ((with_reducible refine br_nf ?_ ?_); (· first | assumption | decide); conv => whnf)
    | ((with_reducible refine ckI ?_ ?_); (· first | ((with_reducible refine vp_in_nI ?_ ?_); (· omega); (· decide)) | exact vp_c (by decide) | exact ⟨_, rfl⟩ | exact Or.inl rfl | exact Or.inr rfl | exact b2_01 _); conv => whnf)
    | ((rw [hsh]); conv => whnf)
    | ((with_reducible refine ckJ ?_ ?_); conv => whnf)
    | fail
  all_goals first
    | exact ⟨rfl, rfl⟩
    | (show ¬ (10 : Int32) = 0; decide)
theorem k3_setPart5 (X : Cx) (μ : Mem) (k : Nat) (v : Int32) (hk : k < 7) : Mt X m_X3_setPart 0 [.ref (6 + k), .int 5, .int v] μ (fun r μ' => r = none ∧ μ' = wr μ (6 + k) 5 v) := by
  have hsh := shT hk
  refine Mt_of ck_X3_setPart mf_24 rfl ?_
  repeat' first
    | ((with_reducible refine gow ck_X3_setPart _ [] ?_); conv => whnf)
    | ((with_reducible refine bn_t ?_ ?_); (· first | assumption | decide); conv => whnf)
    | ((with_reducible refine bn_f ?_ ?_); (· first | assumption | decide); conv => whnf)
    | ((with_reducible refine bc_t ?_ ?_); (· first | assumption | decide); conv => whnf)
    | ((with_reducible refine bc_f ?_ ?_); (· first | assumption | decide); conv => whnf)
    | ((with_reducible refine br_t ?_ ?_); (· first | assumption | decide); conv => whnf)
    | ((with_reducible refine br_f ?_ ?_); (· first | assumption | decide); conv => whnf)
    | ((with_reducible refine br_nt ?_ ?_); (· first | assumption | decide); conv => whnf)
    | ((with_reducible refine br_nf ?_ ?_); (· first | assumption | decide); conv => whnf)
    | ((with_reducible refine ckI ?_ ?_); (· first | ((with_reducible refine vp_in_nI ?_ ?_); (· omega); (· decide)) | exact vp_c (by decide) | exact ⟨_, rfl⟩ | exact Or.inl rfl | exact Or.inr rfl | exact b2_01 _); conv => whnf)
    | ((rw [hsh]); conv => whnf)
    | ((with_reducible refine ckJ ?_ ?_); conv => whnf)
    | fail
  all_goals first
    | exact ⟨rfl, rfl⟩
    | (show ¬ (10 : Int32) = 0; decide)
