/-! one cell changes on both sides -/
theorem RW.tale {N : Nat → Int32} {μ : Mem} (h : RW N μ 1) {t f : Nat} {v : Int32} (ht : t < 7) (hf : f < 6) : RW (upd N (111 + 6 * t + f) v) (wr μ (6 + t) f v) 1 := by
  obtain ⟨⟨a1, a2, a3, a4⟩, h2, h3, h4, h5, ⟨b1, b2_⟩, ⟨c1, c2⟩, ⟨d1, d2⟩, ⟨e1_, e2_⟩⟩ := h
  have e : ∀ i, i ≠ 6 + t → wr μ (6 + t) f v i = μ i := fun i hi => wr_ne hi
  have u : ∀ j, j < 111 ∨ 152 < j → upd N (111 + 6 * t + f) v j = N j := fun j hj => upd_ne (by omega)
  refine ⟨⟨?_, ?_, ?_, ?_⟩, fun j hj => ?_, fun j hj => ?_, fun j hj => ?_, fun s hs g hg => ?_, ⟨?_, fun j hj => ?_⟩, ⟨?_, fun j hj => ?_⟩, ⟨?_, fun j hj => ?_⟩, ⟨?_, fun j hj => ?_⟩⟩
  · rw [e _ (by omega), u _ (by omega)]; exact a1
  · rw [e _ (by omega), u _ (by omega)]; exact a2
  · rw [e _ (by omega), u _ (by omega)]; exact a3
  · rw [e _ (by omega), u _ (by omega)]; exact a4
  · rw [e _ (by omega), u _ (by omega)]; exact h2 j hj
  · rw [e _ (by omega), u _ (by omega)]; exact h3 j hj
  · rw [e _ (by omega), u _ (by omega)]; exact h4 j hj
  · by_cases hst : s = t
    · subst hst
      show wr μ (6 + s) f v (6 + s) g = _
      rw [wr_at]
      by_cases hgf : g = f
      · subst hgf
        rw [upd_eq rfl, upd_eq rfl]
      · rw [upd_ne hgf, upd_ne (by omega)]
        exact h5 s hs g hg
    · rw [e _ (by omega), upd_ne (by omega)]
      exact h5 s hs g hg
  · rw [e _ (by omega), u _ (by omega)]; exact b1
  · rw [u 4 (by omega)] at hj
    have := j
    rw [e _ (by omega)]
    rw [show upd N (111 + 6 * t + f) v (153 + j) = N (153 + j) from u _ (by omega)]
    exact b2_ j hj
  · rw [e _ (by omega), u _ (by omega)]; exact c1
  · rw [u 5 (by omega)] at hj
    rw [e _ (by omega), u _ (by omega)]; exact c2 j hj
  · rw [e _ (by omega), u _ (by omega)]; exact d1
  · rw [u 223 (by omega)] at hj
    rw [e _ (by omega), u _ (by omega)]; exact d2 j hj
  · rw [e _ (by omega), u _ (by omega)]; exact e1_
  · rw [u 275 (by omega)] at hj
    rw [e _ (by omega), u _ (by omega)]; exact e2_ j hj
theorem RC.tale {S μ : Mem} (h : RC S μ) {t f : Nat} {v : Int32} (ht : t < 7) (hf : f < 6) : RC (wr S 1 (111 + 6 * t + f) v) (wr μ (6 + t) f v) := by
  refine h.now (fun i hi => wr_ne hi) (fun i hi => wr_ne (by omega)) ?_
  rw [wr_at]
  exact h.1.tale ht hf
/-- the fields of the World: which cell stands for which -/
theorem RW.fld {N : Nat → Int32} {μ : Mem} (h : RW N μ 1) {j q : Nat} {v : Int32} (hj : (j = 0 ∧ q = 10) ∨ (j = 2 ∧ q = 9) ∨ (j = 3 ∧ q = 11)) : RW (upd N j v) (wr μ 1 q v) 1 := by
  obtain ⟨⟨a1, a2, a3, a4⟩, h2, h3, h4, h5, ⟨b1, b2_⟩, ⟨c1, c2⟩, ⟨d1, d2⟩, ⟨e1_, e2_⟩⟩ := h
  have e : ∀ i, i ≠ 1 → wr μ 1 q v i = μ i := fun i hi => wr_ne hi
  have u : ∀ i, i = 1 ∨ 4 ≤ i → upd N j v i = N i := fun i hi => upd_ne (by omega)
  refine ⟨?_, fun j hj => ?_, fun j hj => ?_, fun j hj => ?_, fun s hs g hg => ?_, ⟨?_, fun j hj => ?_⟩, ⟨?_, fun j hj => ?_⟩, ⟨?_, fun j hj => ?_⟩, ⟨?_, fun j hj => ?_⟩⟩
  · rw [wr_at]
    rcases hj with ⟨rfl, rfl⟩ | ⟨rfl, rfl⟩ | ⟨rfl, rfl⟩
    · exact ⟨a1, a2, rfl, a4⟩
    · exact ⟨a1, rfl, a3, a4⟩
    · exact ⟨a1, a2, a3, rfl⟩
  · rw [e _ (by omega), u _ (by omega)]; exact h2 j hj
  · rw [e _ (by omega), u _ (by omega)]; exact h3 j hj
  · rw [e _ (by omega), u _ (by omega)]; exact h4 j hj
  · rw [e _ (by omega), u _ (by omega)]; exact h5 s hs g hg
  · rw [e _ (by omega), u _ (by omega)]; exact b1
  · rw [u 4 (by omega)] at hj
    rw [e _ (by omega), u _ (by omega)]; exact b2_ j hj
  · rw [e _ (by omega), u _ (by omega)]; exact c1
  · rw [u 5 (by omega)] at hj
    rw [e _ (by omega), u _ (by omega)]; exact c2 j hj
  · rw [e _ (by omega), u _ (by omega)]; exact d1
  · rw [u 223 (by omega)] at hj
    rw [e _ (by omega), u _ (by omega)]; exact d2 j hj
  · rw [e _ (by omega), u _ (by omega)]; exact e1_
  · rw [u 275 (by omega)] at hj
    rw [e _ (by omega), u _ (by omega)]; exact e2_ j hj
theorem RC.fld {S μ : Mem} (h : RC S μ) {j q : Nat} {v : Int32} (hj : (j = 0 ∧ q = 10) ∨ (j = 2 ∧ q = 9) ∨ (j = 3 ∧ q = 11)) : RC (wr S 1 j v) (wr μ 1 q v) := by
  refine h.now (fun i hi => wr_ne hi) (fun i hi => wr_ne (by omega)) ?_
  rw [wr_at]
  exact h.1.fld hj
