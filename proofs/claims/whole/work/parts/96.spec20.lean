theorem fsn_all {p : Nat → Prop} [DecidablePred p] : ∀ j k, fsn p j k = k + j → ∀ i, k ≤ i → i < k + j → p i := by
  intro j
  induction j with
  | zero => intro k _ i h1 h2; omega
  | succ j ih =>
    intro k h i h1 h2
    by_cases hp : p k
    · rw [fsn_t hp] at h
      rcases Nat.eq_or_lt_of_le h1 with rfl | h1
      · exact hp
      · exact ih (k + 1) (by omega) i (by omega) (by omega)
    · rw [fsn_f hp] at h
      omega
theorem RW.wait0 {N : Nat → Int32} {μ : Mem} (h : RW N μ 1) : RW (upd N 5 0) (wr μ 23 1 0) 1 := by
  obtain ⟨⟨a1, a2, a3, a4⟩, h2, h3, h4, h5, ⟨b1, b2_⟩, ⟨c1, c2⟩, ⟨d1, d2⟩, ⟨e1_, e2_⟩⟩ := h
  have e : ∀ i, i ≠ 23 → wr μ 23 1 0 i = μ i := fun i hi => wr_ne hi
  have u : ∀ i, i ≠ 5 → upd N 5 0 i = N i := fun i hi => upd_ne hi
  refine ⟨⟨?_, ?_, ?_, ?_⟩, fun j hj => ?_, fun j hj => ?_, fun j hj => ?_, fun s hs g hg => ?_, ⟨?_, fun j hj => ?_⟩, ⟨?_, fun j hj => ?_⟩, ⟨?_, fun j hj => ?_⟩, ⟨?_, fun j hj => ?_⟩⟩
  · rw [e _ (by omega), u _ (by omega)]; exact a1
  · rw [e _ (by omega), u _ (by omega)]; exact a2
  · rw [e _ (by omega), u _ (by omega)]; exact a3
  · rw [e _ (by omega), u _ (by omega)]; exact a4
  · rw [e _ (by omega), u _ (by omega)]; exact h2 j hj
  · rw [e _ (by omega), u _ (by omega)]; exact h3 j hj
  · rw [e _ (by omega), u _ (by omega)]; exact h4 j hj
  · rw [e _ (by omega), u _ (by omega)]; exact h5 s hs g hg
  · rw [e _ (by omega), u _ (by omega)]; exact b1
  · rw [u 4 (by omega)] at hj
    rw [e _ (by omega), u _ (by omega)]; exact b2_ j hj
  · rw [upd_eq rfl]; exact wr_same
  · rw [upd_eq rfl] at hj
    exact absurd hj (by simp)
  · rw [e _ (by omega), u _ (by omega)]; exact d1
  · rw [u 223 (by omega)] at hj
    rw [e _ (by omega), u _ (by omega)]; exact d2 j hj
  · rw [e _ (by omega), u _ (by omega)]; exact e1_
  · rw [u 275 (by omega)] at hj
    rw [e _ (by omega), u _ (by omega)]; exact e2_ j hj
theorem RC.wait0 {S μ : Mem} (h : RC S μ) : RC (wr S 1 5 0) (wr μ 23 1 0) := by
  refine h.now (fun i hi => wr_ne hi) (fun i hi => wr_ne (by omega)) ?_
  rw [wr_at]
  exact h.1.wait0
