def okE (n : Nat) (e : Ent) : Bool := decide (decode (mB n) e.1 = .ok (e.2.1, e.2.2.1)) && (okOp (mO n) (mR n) (cd n) e && decide (sidx e.2.2.2.1 < mL n + 1 ∧ (isSt e.2.2.2.1 = true → sidx e.2.2.2.1 < mL n)))
theorem lwk_0_0 : ((k_L_law_0.drop 0).take 20).all (okE 225) = true := by decide +kernel
theorem lwk_0_20 : ((k_L_law_0.drop 20).take 20).all (okE 225) = true := by decide +kernel
theorem lwk_0_40 : ((k_L_law_0.drop 40).take 20).all (okE 225) = true := by decide +kernel
theorem lwk_0_60 : ((k_L_law_0.drop 60).take 20).all (okE 225) = true := by decide +kernel
theorem lwk_0 : k_L_law_0.all (okE 225) = true := by
  rw [show k_L_law_0 = (k_L_law_0.drop 0).take 20 ++ ((k_L_law_0.drop 20).take 20 ++ ((k_L_law_0.drop 40).take 20 ++ (k_L_law_0.drop 60).take 20)) from rfl]
  simp only [List.all_append, Bool.and_eq_true]
  exact ⟨lwk_0_0, lwk_0_20, lwk_0_40, lwk_0_60⟩
theorem lwk_1_0 : ((k_L_law_1.drop 0).take 20).all (okE 225) = true := by decide +kernel
theorem lwk_1_20 : ((k_L_law_1.drop 20).take 20).all (okE 225) = true := by decide +kernel
theorem lwk_1_40 : ((k_L_law_1.drop 40).take 20).all (okE 225) = true := by decide +kernel
theorem lwk_1_60 : ((k_L_law_1.drop 60).take 20).all (okE 225) = true := by decide +kernel
theorem lwk_1 : k_L_law_1.all (okE 225) = true := by
  rw [show k_L_law_1 = (k_L_law_1.drop 0).take 20 ++ ((k_L_law_1.drop 20).take 20 ++ ((k_L_law_1.drop 40).take 20 ++ (k_L_law_1.drop 60).take 20)) from rfl]
  simp only [List.all_append, Bool.and_eq_true]
  exact ⟨lwk_1_0, lwk_1_20, lwk_1_40, lwk_1_60⟩
theorem lwk_2_0 : ((k_L_law_2.drop 0).take 20).all (okE 225) = true := by decide +kernel
theorem lwk_2_20 : ((k_L_law_2.drop 20).take 20).all (okE 225) = true := by decide +kernel
theorem lwk_2_40 : ((k_L_law_2.drop 40).take 20).all (okE 225) = true := by decide +kernel
theorem lwk_2_60 : ((k_L_law_2.drop 60).take 20).all (okE 225) = true := by decide +kernel
theorem lwk_2 : k_L_law_2.all (okE 225) = true := by
  rw [show k_L_law_2 = (k_L_law_2.drop 0).take 20 ++ ((k_L_law_2.drop 20).take 20 ++ ((k_L_law_2.drop 40).take 20 ++ (k_L_law_2.drop 60).take 20)) from rfl]
  simp only [List.all_append, Bool.and_eq_true]
  exact ⟨lwk_2_0, lwk_2_20, lwk_2_40, lwk_2_60⟩
theorem lwk_3_0 : ((k_L_law_3.drop 0).take 20).all (okE 225) = true := by decide +kernel
theorem lwk_3_20 : ((k_L_law_3.drop 20).take 20).all (okE 225) = true := by decide +kernel
theorem lwk_3_40 : ((k_L_law_3.drop 40).take 20).all (okE 225) = true := by decide +kernel
theorem lwk_3_60 : ((k_L_law_3.drop 60).take 20).all (okE 225) = true := by decide +kernel
theorem lwk_3 : k_L_law_3.all (okE 225) = true := by
  rw [show k_L_law_3 = (k_L_law_3.drop 0).take 20 ++ ((k_L_law_3.drop 20).take 20 ++ ((k_L_law_3.drop 40).take 20 ++ (k_L_law_3.drop 60).take 20)) from rfl]
  simp only [List.all_append, Bool.and_eq_true]
  exact ⟨lwk_3_0, lwk_3_20, lwk_3_40, lwk_3_60⟩
theorem lwk_4_0 : ((k_L_law_4.drop 0).take 20).all (okE 225) = true := by decide +kernel
theorem lwk_4_20 : ((k_L_law_4.drop 20).take 20).all (okE 225) = true := by decide +kernel
theorem lwk_4_40 : ((k_L_law_4.drop 40).take 20).all (okE 225) = true := by decide +kernel
theorem lwk_4_60 : ((k_L_law_4.drop 60).take 20).all (okE 225) = true := by decide +kernel
theorem lwk_4 : k_L_law_4.all (okE 225) = true := by
  rw [show k_L_law_4 = (k_L_law_4.drop 0).take 20 ++ ((k_L_law_4.drop 20).take 20 ++ ((k_L_law_4.drop 40).take 20 ++ (k_L_law_4.drop 60).take 20)) from rfl]
  simp only [List.all_append, Bool.and_eq_true]
  exact ⟨lwk_4_0, lwk_4_20, lwk_4_40, lwk_4_60⟩
theorem lwk_5_0 : ((k_L_law_5.drop 0).take 20).all (okE 225) = true := by decide +kernel
theorem lwk_5_20 : ((k_L_law_5.drop 20).take 20).all (okE 225) = true := by decide +kernel
theorem lwk_5_40 : ((k_L_law_5.drop 40).take 20).all (okE 225) = true := by decide +kernel
theorem lwk_5_60 : ((k_L_law_5.drop 60).take 20).all (okE 225) = true := by decide +kernel
theorem lwk_5 : k_L_law_5.all (okE 225) = true := by
  rw [show k_L_law_5 = (k_L_law_5.drop 0).take 20 ++ ((k_L_law_5.drop 20).take 20 ++ ((k_L_law_5.drop 40).take 20 ++ (k_L_law_5.drop 60).take 20)) from rfl]
  simp only [List.all_append, Bool.and_eq_true]
  exact ⟨lwk_5_0, lwk_5_20, lwk_5_40, lwk_5_60⟩
theorem lwk_6_0 : ((k_L_law_6.drop 0).take 20).all (okE 225) = true := by decide +kernel
theorem lwk_6_20 : ((k_L_law_6.drop 20).take 20).all (okE 225) = true := by decide +kernel
theorem lwk_6_40 : ((k_L_law_6.drop 40).take 20).all (okE 225) = true := by decide +kernel
theorem lwk_6_60 : ((k_L_law_6.drop 60).take 20).all (okE 225) = true := by decide +kernel
theorem lwk_6 : k_L_law_6.all (okE 225) = true := by
  rw [show k_L_law_6 = (k_L_law_6.drop 0).take 20 ++ ((k_L_law_6.drop 20).take 20 ++ ((k_L_law_6.drop 40).take 20 ++ (k_L_law_6.drop 60).take 20)) from rfl]
  simp only [List.all_append, Bool.and_eq_true]
  exact ⟨lwk_6_0, lwk_6_20, lwk_6_40, lwk_6_60⟩
theorem lwk_7_0 : ((k_L_law_7.drop 0).take 20).all (okE 225) = true := by decide +kernel
theorem lwk_7_20 : ((k_L_law_7.drop 20).take 20).all (okE 225) = true := by decide +kernel
theorem lwk_7_40 : ((k_L_law_7.drop 40).take 20).all (okE 225) = true := by decide +kernel
theorem lwk_7_60 : ((k_L_law_7.drop 60).take 20).all (okE 225) = true := by decide +kernel
theorem lwk_7 : k_L_law_7.all (okE 225) = true := by
  rw [show k_L_law_7 = (k_L_law_7.drop 0).take 20 ++ ((k_L_law_7.drop 20).take 20 ++ ((k_L_law_7.drop 40).take 20 ++ (k_L_law_7.drop 60).take 20)) from rfl]
  simp only [List.all_append, Bool.and_eq_true]
  exact ⟨lwk_7_0, lwk_7_20, lwk_7_40, lwk_7_60⟩
theorem lwk_8_0 : ((k_L_law_8.drop 0).take 20).all (okE 225) = true := by decide +kernel
theorem lwk_8_20 : ((k_L_law_8.drop 20).take 20).all (okE 225) = true := by decide +kernel
theorem lwk_8_40 : ((k_L_law_8.drop 40).take 20).all (okE 225) = true := by decide +kernel
theorem lwk_8_60 : ((k_L_law_8.drop 60).take 20).all (okE 225) = true := by decide +kernel
theorem lwk_8 : k_L_law_8.all (okE 225) = true := by
  rw [show k_L_law_8 = (k_L_law_8.drop 0).take 20 ++ ((k_L_law_8.drop 20).take 20 ++ ((k_L_law_8.drop 40).take 20 ++ (k_L_law_8.drop 60).take 20)) from rfl]
  simp only [List.all_append, Bool.and_eq_true]
  exact ⟨lwk_8_0, lwk_8_20, lwk_8_40, lwk_8_60⟩
theorem lwk_9_0 : ((k_L_law_9.drop 0).take 20).all (okE 225) = true := by decide +kernel
theorem lwk_9_20 : ((k_L_law_9.drop 20).take 20).all (okE 225) = true := by decide +kernel
theorem lwk_9_40 : ((k_L_law_9.drop 40).take 20).all (okE 225) = true := by decide +kernel
theorem lwk_9_60 : ((k_L_law_9.drop 60).take 20).all (okE 225) = true := by decide +kernel
theorem lwk_9 : k_L_law_9.all (okE 225) = true := by
  rw [show k_L_law_9 = (k_L_law_9.drop 0).take 20 ++ ((k_L_law_9.drop 20).take 20 ++ ((k_L_law_9.drop 40).take 20 ++ (k_L_law_9.drop 60).take 20)) from rfl]
  simp only [List.all_append, Bool.and_eq_true]
  exact ⟨lwk_9_0, lwk_9_20, lwk_9_40, lwk_9_60⟩
theorem lwk_10_0 : ((k_L_law_10.drop 0).take 20).all (okE 225) = true := by decide +kernel
theorem lwk_10_20 : ((k_L_law_10.drop 20).take 20).all (okE 225) = true := by decide +kernel
theorem lwk_10_40 : ((k_L_law_10.drop 40).take 20).all (okE 225) = true := by decide +kernel
theorem lwk_10_60 : ((k_L_law_10.drop 60).take 20).all (okE 225) = true := by decide +kernel
theorem lwk_10 : k_L_law_10.all (okE 225) = true := by
  rw [show k_L_law_10 = (k_L_law_10.drop 0).take 20 ++ ((k_L_law_10.drop 20).take 20 ++ ((k_L_law_10.drop 40).take 20 ++ (k_L_law_10.drop 60).take 20)) from rfl]
  simp only [List.all_append, Bool.and_eq_true]
  exact ⟨lwk_10_0, lwk_10_20, lwk_10_40, lwk_10_60⟩
theorem lwk_11_0 : ((k_L_law_11.drop 0).take 20).all (okE 225) = true := by decide +kernel
theorem lwk_11_20 : ((k_L_law_11.drop 20).take 20).all (okE 225) = true := by decide +kernel
theorem lwk_11_40 : ((k_L_law_11.drop 40).take 20).all (okE 225) = true := by decide +kernel
theorem lwk_11_60 : ((k_L_law_11.drop 60).take 20).all (okE 225) = true := by decide +kernel
theorem lwk_11 : k_L_law_11.all (okE 225) = true := by
  rw [show k_L_law_11 = (k_L_law_11.drop 0).take 20 ++ ((k_L_law_11.drop 20).take 20 ++ ((k_L_law_11.drop 40).take 20 ++ (k_L_law_11.drop 60).take 20)) from rfl]
  simp only [List.all_append, Bool.and_eq_true]
  exact ⟨lwk_11_0, lwk_11_20, lwk_11_40, lwk_11_60⟩
theorem lwk_12_0 : ((k_L_law_12.drop 0).take 20).all (okE 225) = true := by decide +kernel
theorem lwk_12_20 : ((k_L_law_12.drop 20).take 20).all (okE 225) = true := by decide +kernel
theorem lwk_12_40 : ((k_L_law_12.drop 40).take 20).all (okE 225) = true := by decide +kernel
theorem lwk_12_60 : ((k_L_law_12.drop 60).take 20).all (okE 225) = true := by decide +kernel
theorem lwk_12 : k_L_law_12.all (okE 225) = true := by
  rw [show k_L_law_12 = (k_L_law_12.drop 0).take 20 ++ ((k_L_law_12.drop 20).take 20 ++ ((k_L_law_12.drop 40).take 20 ++ (k_L_law_12.drop 60).take 20)) from rfl]
  simp only [List.all_append, Bool.and_eq_true]
  exact ⟨lwk_12_0, lwk_12_20, lwk_12_40, lwk_12_60⟩
theorem lwk_13_0 : ((k_L_law_13.drop 0).take 20).all (okE 225) = true := by decide +kernel
theorem lwk_13_20 : ((k_L_law_13.drop 20).take 20).all (okE 225) = true := by decide +kernel
theorem lwk_13_40 : ((k_L_law_13.drop 40).take 20).all (okE 225) = true := by decide +kernel
theorem lwk_13_60 : ((k_L_law_13.drop 60).take 20).all (okE 225) = true := by decide +kernel
theorem lwk_13 : k_L_law_13.all (okE 225) = true := by
  rw [show k_L_law_13 = (k_L_law_13.drop 0).take 20 ++ ((k_L_law_13.drop 20).take 20 ++ ((k_L_law_13.drop 40).take 20 ++ (k_L_law_13.drop 60).take 20)) from rfl]
  simp only [List.all_append, Bool.and_eq_true]
  exact ⟨lwk_13_0, lwk_13_20, lwk_13_40, lwk_13_60⟩
theorem lwk_14_0 : ((k_L_law_14.drop 0).take 20).all (okE 225) = true := by decide +kernel
theorem lwk_14_20 : ((k_L_law_14.drop 20).take 20).all (okE 225) = true := by decide +kernel
theorem lwk_14_40 : ((k_L_law_14.drop 40).take 20).all (okE 225) = true := by decide +kernel
theorem lwk_14_60 : ((k_L_law_14.drop 60).take 20).all (okE 225) = true := by decide +kernel
theorem lwk_14 : k_L_law_14.all (okE 225) = true := by
  rw [show k_L_law_14 = (k_L_law_14.drop 0).take 20 ++ ((k_L_law_14.drop 20).take 20 ++ ((k_L_law_14.drop 40).take 20 ++ (k_L_law_14.drop 60).take 20)) from rfl]
  simp only [List.all_append, Bool.and_eq_true]
  exact ⟨lwk_14_0, lwk_14_20, lwk_14_40, lwk_14_60⟩
theorem lwk_15_0 : ((k_L_law_15.drop 0).take 20).all (okE 225) = true := by decide +kernel
theorem lwk_15_20 : ((k_L_law_15.drop 20).take 20).all (okE 225) = true := by decide +kernel
theorem lwk_15_40 : ((k_L_law_15.drop 40).take 20).all (okE 225) = true := by decide +kernel
theorem lwk_15_60 : ((k_L_law_15.drop 60).take 20).all (okE 225) = true := by decide +kernel
theorem lwk_15 : k_L_law_15.all (okE 225) = true := by
  rw [show k_L_law_15 = (k_L_law_15.drop 0).take 20 ++ ((k_L_law_15.drop 20).take 20 ++ ((k_L_law_15.drop 40).take 20 ++ (k_L_law_15.drop 60).take 20)) from rfl]
  simp only [List.all_append, Bool.and_eq_true]
  exact ⟨lwk_15_0, lwk_15_20, lwk_15_40, lwk_15_60⟩
theorem lwk_16_0 : ((k_L_law_16.drop 0).take 20).all (okE 225) = true := by decide +kernel
theorem lwk_16_20 : ((k_L_law_16.drop 20).take 20).all (okE 225) = true := by decide +kernel
theorem lwk_16_40 : ((k_L_law_16.drop 40).take 20).all (okE 225) = true := by decide +kernel
theorem lwk_16_60 : ((k_L_law_16.drop 60).take 20).all (okE 225) = true := by decide +kernel
theorem lwk_16 : k_L_law_16.all (okE 225) = true := by
  rw [show k_L_law_16 = (k_L_law_16.drop 0).take 20 ++ ((k_L_law_16.drop 20).take 20 ++ ((k_L_law_16.drop 40).take 20 ++ (k_L_law_16.drop 60).take 20)) from rfl]
  simp only [List.all_append, Bool.and_eq_true]
  exact ⟨lwk_16_0, lwk_16_20, lwk_16_40, lwk_16_60⟩
theorem lwk_17_0 : ((k_L_law_17.drop 0).take 20).all (okE 225) = true := by decide +kernel
theorem lwk_17_20 : ((k_L_law_17.drop 20).take 20).all (okE 225) = true := by decide +kernel
theorem lwk_17_40 : ((k_L_law_17.drop 40).take 20).all (okE 225) = true := by decide +kernel
theorem lwk_17_60 : ((k_L_law_17.drop 60).take 20).all (okE 225) = true := by decide +kernel
theorem lwk_17 : k_L_law_17.all (okE 225) = true := by
  rw [show k_L_law_17 = (k_L_law_17.drop 0).take 20 ++ ((k_L_law_17.drop 20).take 20 ++ ((k_L_law_17.drop 40).take 20 ++ (k_L_law_17.drop 60).take 20)) from rfl]
  simp only [List.all_append, Bool.and_eq_true]
  exact ⟨lwk_17_0, lwk_17_20, lwk_17_40, lwk_17_60⟩
theorem lwk_adj : adj (cd 225) = true := by decide +kernel
theorem ck_L_law : chk m_L_law = true := by
  have h : (cd 225).all (okE 225) = true := by
    show k_L_law.all (okE 225) = true
    unfold k_L_law
    simp only [List.all_append, Bool.and_eq_true]
    exact ⟨lwk_0, lwk_1, lwk_2, lwk_3, lwk_4, lwk_5, lwk_6, lwk_7, lwk_8, lwk_9, lwk_10, lwk_11, lwk_12, lwk_13, lwk_14, lwk_15, lwk_16, lwk_17⟩
  unfold chk
  simp only [Bool.and_eq_true]
  exact ⟨⟨⟨h, lwk_adj⟩, by decide +kernel⟩, by decide +kernel⟩
