/-! the class's voices -/
abbrev VM (μ : Mem) (r : Nat → Int32) (tr : Nat) : Mem := sf (sf μ 58 (upd (μ 58) 1 (nI tr))) 59 r
theorem vmw {μ : Mem} {r : Nat → Int32} {tr : Nat} {b : Int32} : wr (wr (VM μ r tr) 59 tr b) 58 1 (nI (tr + 1)) = VM μ (upd r tr b) (tr + 1) := by
  funext a
  by_cases h1 : a = 58
  · subst h1
    show upd (VM μ r tr 58) 1 (nI (tr + 1)) = upd (μ 58) 1 (nI (tr + 1))
    exact upd_upd (f := μ 58) (j := 1) (x := nI tr) (y := nI (tr + 1))
  · by_cases h2 : a = 59
    · subst h2; simp [VM, wr, sf]
    · simp [VM, wr, sf, h1, h2]
theorem vm0 {μ : Mem} {k m n : Int32} : wr (wr (wr (wr μ 58 1 0) 57 1 k) 57 2 m) 57 3 n = VM (wr (wr (wr μ 57 1 k) 57 2 m) 57 3 n) (μ 59) 0 := by
  funext a
  by_cases h1 : a = 58
  · subst h1
    show upd (μ 58) 1 0 = upd (μ 58) 1 (nI 0)
    rfl
  · by_cases h2 : a = 59
    · subst h2; simp [wr, sf]
    · by_cases h3 : a = 57
      · subst h3; simp [wr, sf]
      · simp [wr, sf, h1, h2, h3]
theorem apd_eq {r r' : Nat → Int32} : ∀ (L : List Int32) (tr : Nat) (r r' : Nat → Int32), (∀ j, j < tr → r j = r' j) → ∀ j, j < tr + L.length → apd r tr L j = apd r' tr L j := by
  intro L
  induction L with
  | nil => intro tr r r' h j hj; exact h j (by simpa using hj)
  | cons b L ih =>
    intro tr r r' h j hj
    refine ih (tr + 1) _ _ (fun i hi => ?_) j (by simp only [List.length_cons] at hj; omega)
    unfold upd
    split
    · rfl
    · exact h i (by omega)
theorem RC.voi {S μ ν : Mem} (h : RC S μ) {L : List Int32} (hL : L.length ≤ 40) (e : ∀ i, i ≠ 57 → i ≠ 58 → i ≠ 59 → ν i = μ i) (e1 : ν 58 1 = nI L.length) (e2 : ν 59 = apd (μ 59) 0 L) : RC (sf (wr S 0 20 (nI L.length)) 9 (apd (S 9) 0 L)) ν := by
  obtain ⟨h1, h2, h31, h32, h33, h34⟩ := h
  have u : ∀ i, i ≠ 0 → i ≠ 9 → sf (wr S 0 20 (nI L.length)) 9 (apd (S 9) 0 L) i = S i := fun i a b => by rw [sf_ne b, wr_ne a]
  have u0 : ∀ j, j ≠ 20 → sf (wr S 0 20 (nI L.length)) 9 (apd (S 9) 0 L) 0 j = S 0 j := fun j hj => by rw [sf_ne (by decide), wr_wr hj]
  refine ⟨?_, ?_, ?_, ?_, ?_, ?_⟩
  · rw [u 1 (by decide) (by decide)]; exact h1.of fun i _ _ => e i (by omega) (by omega) (by omega)
  · rw [u0 2 (by decide), u 2 (by decide) (by decide)]; exact h2.imp id fun h => h.of fun i _ _ => e i (by omega) (by omega) (by omega)
  · rw [u 3 (by decide) (by decide), e 69 (by decide) (by decide) (by decide)]; exact h31
  · rw [u0 2 (by decide), e 0 (by decide) (by decide) (by decide)]; exact h32
  · rw [sf_at, sf_ne (by decide), wr_same]
    refine ⟨e1, fun j hj => ?_⟩
    rw [nI_toInt (by omega), Int.toNat_natCast] at hj
    rw [e2]
    exact apd_eq (r := S 9) (r' := S 9) L 0 _ _ (fun i hi => absurd hi (by omega)) j (by omega)
  · intro s hs
    rw [e _ (by omega) (by omega) (by omega), e _ (by omega) (by omega) (by omega), u 10 (by decide) (by decide), u 11 (by decide) (by decide), u 12 (by decide) (by decide)]
    exact h34 s hs
