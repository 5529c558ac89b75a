theorem l7 {k r : Nat} (h : ([6, 7, 8, 9, 10, 11, 12] : List Nat)[k]? = some r) : r = 6 + k := by
  have hk : k < 7 := by
    rcases Nat.lt_or_ge k 7 with q | q
    · exact q
    · rw [List.getElem?_eq_none (by simpa using q)] at h; exact absurd h (by simp)
  rcases k with _ | _ | _ | _ | _ | _ | _ | k <;> first | (simp at h; omega) | omega
theorem k7_taleOf (X : Cx) (μ : Mem) (t : Int32) (h0 : 0 ≤ t) (h1 : t < μ 1 9) (h2 : t < 7) : Mt X m_X7_taleOf 0 [.ref 1, .int t] μ (fun r μ' => r = some (.ref (6 + t.toInt.toNat)) ∧ μ' = μ) := by
  have h3 : ¬ t < 0 := by simp only [Int32.le_iff_toInt_le, Int32.lt_iff_toInt_lt] at *; omega
  have h4 : ¬ μ 1 9 ≤ t := by simp only [Int32.le_iff_toInt_le, Int32.lt_iff_toInt_lt] at *; omega
  have h5 : ¬ Int32.ofNat [6, 7, 8, 9, 10, 11, 12].length ≤ t := by show ¬ (7 : Int32) ≤ t; simp only [Int32.le_iff_toInt_le, Int32.lt_iff_toInt_lt] at *; omega
  refine Mt_of ck_X7_taleOf mf_53 rfl ?_
  repeat' first
    | ((with_reducible refine gow ck_X7_taleOf _ [] ?_); conv => whnf)
    | ((with_reducible refine bn_t ?_ ?_); (· first | assumption | decide); conv => whnf)
    | ((with_reducible refine bn_f ?_ ?_); (· first | assumption | decide); conv => whnf)
    | ((with_reducible refine bc_t ?_ ?_); (· first | assumption | decide); conv => whnf)
    | ((with_reducible refine bc_f ?_ ?_); (· first | assumption | decide); conv => whnf)
    | ((with_reducible refine br_t ?_ ?_); (· first | assumption | decide); conv => whnf)
    | ((with_reducible refine br_f ?_ ?_); (· first | assumption | decide); conv => whnf)
    | ((with_reducible refine br_nt ?_ ?_); (· first | assumption | decide); conv => whnf)
    | ((with_reducible refine br_nf ?_ ?_); (· first | assumption | decide); conv => whnf)
    | ((with_reducible refine ckI ?_ ?_); (· first | ((with_reducible refine vp_in_nI ?_ ?_); (· omega); (· decide)) | exact vp_c (by decide) | exact ⟨_, rfl⟩ | exact Or.inl rfl | exact Or.inr rfl | exact b2_01 _); conv => whnf)
    | ((with_reducible refine fun r hr => ?_); (obtain rfl := l7 hr); conv => whnf)
    | ((with_reducible refine ckJ ?_ ?_); conv => whnf)
    | fail
  all_goals first
    | exact ⟨rfl, rfl⟩
    | (refine vp_t ?_ ?_ <;> (simp only [Int32.le_iff_toInt_le, Int32.lt_iff_toInt_lt, Int32.reduceToInt, List.length] at *; omega))
    | (exfalso; have h7 : ¬ Int32.ofNat [6, 7, 8, 9, 10, 11, 12].length ≤ t := by assumption
       have h9 : ¬ (7 : Int32) ≤ t := h7
       clear h7; refine h ⟨⟨?_, ?_⟩, ?_⟩ <;> (clear h; simp only [Int32.le_iff_toInt_le, Int32.lt_iff_toInt_lt, Int32.reduceToInt] at *; omega))
    | fail
theorem k7_taleOf_n (X : Cx) (μ : Mem) (t : Int32) (h : ¬ ((0 ≤ t ∧ t < μ 1 9) ∧ t < 7)) : Mt X m_X7_taleOf 0 [.ref 1, .int t] μ (fun r μ' => r = some .null ∧ μ' = μ) := by
  refine Mt_of ck_X7_taleOf mf_53 rfl ?_
  repeat' first
    | ((with_reducible refine gow ck_X7_taleOf _ [] ?_); conv => whnf)
    | ((with_reducible refine bn_t ?_ ?_); (· first | assumption | decide); conv => whnf)
    | ((with_reducible refine bn_f ?_ ?_); (· first | assumption | decide); conv => whnf)
    | ((with_reducible refine bc_t ?_ ?_); (· first | assumption | decide); conv => whnf)
    | ((with_reducible refine bc_f ?_ ?_); (· first | assumption | decide); conv => whnf)
    | ((with_reducible refine br_t ?_ ?_); (· first | assumption | decide); conv => whnf)
    | ((with_reducible refine br_f ?_ ?_); (· first | assumption | decide); conv => whnf)
    | ((with_reducible refine br_nt ?_ ?_); (· first | assumption | decide); conv => whnf)
    | ((with_reducible refine br_nf ?_ ?_); (· first | assumption | decide); conv => whnf)
    | ((with_reducible refine bn_c (fun _ => ?_) (fun _ => ?_)) <;> conv => whnf)
    | ((with_reducible refine bc_c (fun _ => ?_) (fun _ => ?_)) <;> conv => whnf)
    | ((with_reducible refine br_c (fun _ => ?_) (fun _ => ?_)) <;> conv => whnf)
    | ((with_reducible refine br_n (fun _ => ?_) (fun _ => ?_)) <;> conv => whnf)
    | ((with_reducible refine ckI ?_ ?_); (· first | ((with_reducible refine vp_in_nI ?_ ?_); (· omega); (· decide)) | exact vp_c (by decide) | exact ⟨_, rfl⟩ | exact Or.inl rfl | exact Or.inr rfl | exact b2_01 _); conv => whnf)
    | ((with_reducible refine ckJ ?_ ?_); conv => whnf)
    | fail
  all_goals first
    | exact ⟨rfl, rfl⟩
    | (refine vp_t ?_ ?_ <;> (simp only [Int32.le_iff_toInt_le, Int32.lt_iff_toInt_lt, Int32.reduceToInt, List.length] at *; omega))
    | (exfalso; have h7 : ¬ Int32.ofNat [6, 7, 8, 9, 10, 11, 12].length ≤ t := by assumption
       have h9 : ¬ (7 : Int32) ≤ t := h7
       clear h7; refine h ⟨⟨?_, ?_⟩, ?_⟩ <;> (clear h; simp only [Int32.le_iff_toInt_le, Int32.lt_iff_toInt_lt, Int32.reduceToInt] at *; omega))
    | fail
