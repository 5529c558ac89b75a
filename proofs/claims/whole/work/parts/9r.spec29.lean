/-! a text taken -/
def txR (N : Nat → Int32) (u : Nat) : PR := pJ N u 36 0 0 0
def tcp (N : Nat → Int32) (b : Nat) (L : List Int32) : Nat → Int32 := fun j => if b ≤ j ∧ j < b + L.length then apd (fun _ => 0) 0 L (j - b) else N j
def txN (N : Nat → Int32) (u : Nat) (L : List Int32) : Nat → Int32 := tcp (upd (upd N 4 0) (223 + 52 * u) (nI L.length)) (224 + 52 * u) L
def sp_text (S : Mem) (u : Int32) : Sp := if 0 ≤ u ∧ u ≤ 1 then (if (txR (S 1) u.toInt.toNat).1 = true ∧ (txR (S 1) u.toInt.toNat).2.1 = (S 1 4).toInt.toNat then (1, sf S 1 (txN (S 1) u.toInt.toNat (txR (S 1) u.toInt.toNat).2.2)) else (-10 - nI (txR (S 1) u.toInt.toNat).2.1, wr S 1 4 0)) else (BE, er S 1)
theorem apd_map (g : Int32 → Int32) : ∀ (L : List Int32) (tr : Nat) (r r' : Nat → Int32), (∀ j, j < tr → r j = g (r' j)) → ∀ j, j < tr + L.length → apd r tr (L.map g) j = g (apd r' tr L j) := by
  intro L
  induction L with
  | nil => intro tr r r' h j hj; exact h j (by simpa using hj)
  | cons b L ih =>
    intro tr r r' h j hj
    refine ih (tr + 1) _ _ (fun i hi => ?_) j (by simp only [List.length_cons] at hj; omega)
    unfold upd
    split
    · rfl
    · exact h i (by omega)
theorem RW.tape0 {N : Nat → Int32} {μ : Mem} (h : RW N μ 1) : RW (upd N 4 0) (wr μ 21 1 0) 1 := by
  obtain ⟨⟨a1, a2, a3, a4⟩, h2, h3, h4, h5, ⟨b1, b2_⟩, ⟨c1, c2⟩, ⟨d1, d2⟩, ⟨e1_, e2_⟩⟩ := h
  have e : ∀ i, i ≠ 21 → wr μ 21 1 0 i = μ i := fun i hi => wr_ne hi
  have u : ∀ i, i ≠ 4 → upd N 4 0 i = N i := fun i hi => upd_ne hi
  refine ⟨⟨?_, ?_, ?_, ?_⟩, fun j hj => ?_, fun j hj => ?_, fun j hj => ?_, fun s hs g hg => ?_, ⟨?_, fun j hj => ?_⟩, ⟨?_, fun j hj => ?_⟩, ⟨?_, fun j hj => ?_⟩, ⟨?_, fun j hj => ?_⟩⟩
  · rw [e _ (by omega), u _ (by omega)]; exact a1
  · rw [e _ (by omega), u _ (by omega)]; exact a2
  · rw [e _ (by omega), u _ (by omega)]; exact a3
  · rw [e _ (by omega), u _ (by omega)]; exact a4
  · rw [e _ (by omega), u _ (by omega)]; exact h2 j hj
  · rw [e _ (by omega), u _ (by omega)]; exact h3 j hj
  · rw [e _ (by omega), u _ (by omega)]; exact h4 j hj
  · rw [e _ (by omega), u _ (by omega)]; exact h5 s hs g hg
  · rw [upd_eq rfl]; exact wr_same
  · rw [upd_eq rfl] at hj
    exact absurd hj (by simp)
  · rw [e _ (by omega), u _ (by omega)]; exact c1
  · rw [u 5 (by omega)] at hj
    rw [e _ (by omega), u _ (by omega)]; exact c2 j hj
  · rw [e _ (by omega), u _ (by omega)]; exact d1
  · rw [u 223 (by omega)] at hj
    rw [e _ (by omega), u _ (by omega)]; exact d2 j hj
  · rw [e _ (by omega), u _ (by omega)]; exact e1_
  · rw [u 275 (by omega)] at hj
    rw [e _ (by omega), u _ (by omega)]; exact e2_ j hj
theorem RC.tape0 {S μ : Mem} (h : RC S μ) : RC (wr S 1 4 0) (wr μ 21 1 0) := by
  refine h.now (fun i hi => wr_ne hi) (fun i hi => wr_ne (by omega)) ?_
  rw [wr_at]
  exact h.1.tape0
theorem tcp_ne {N : Nat → Int32} {b j : Nat} {L : List Int32} (h : j < b ∨ b + L.length ≤ j) : tcp N b L j = N j := by
  unfold tcp
  rw [if_neg (by omega)]
theorem RW.text {N : Nat → Int32} {ν : Mem} (h : RW N ν 1) {u : Nat} (hu : u < 2) {L : List Int32} (hL : L.length ≤ 50) (b4 : (N 4).toInt.toNat ≤ 50) (b5 : (N 5).toInt.toNat ≤ 20) (b223 : (N 223).toInt.toNat ≤ 50) (b275 : (N 275).toInt.toNat ≤ 50) (hv : ∀ j, j < L.length → ν 54 j = enc (apd (fun _ => 0) 0 L j)) : RW (tcp (upd N (223 + 52 * u) (nI L.length)) (224 + 52 * u) L) (rtk ν (14 + 4 * u) 53 L.length) 1 := by
  obtain ⟨⟨a1, a2, a3, a4⟩, h2, h3, h4, h5, ⟨b1, b2_⟩, ⟨c1, c2⟩, ⟨d1, d2⟩, ⟨e1_, e2_⟩⟩ := h
  have e : ∀ i, i ≠ 14 + 4 * u → i ≠ 15 + 4 * u → rtk ν (14 + 4 * u) 53 L.length i = ν i := fun i hi h2 => rtk_ne hi (by omega)
  have w : ∀ i, i < 223 + 52 * u ∨ 274 + 52 * u ≤ i → tcp (upd N (223 + 52 * u) (nI L.length)) (224 + 52 * u) L i = N i := fun i hi => by rw [tcp_ne (by omega), upd_ne (by omega)]
  have w0 : tcp (upd N (223 + 52 * u) (nI L.length)) (224 + 52 * u) L (223 + 52 * u) = nI L.length := by rw [tcp_ne (by omega), upd_eq rfl]
  have w1 : ∀ j, j < L.length → tcp (upd N (223 + 52 * u) (nI L.length)) (224 + 52 * u) L (224 + 52 * u + j) = apd (fun _ => 0) 0 L j := by
    intro j hj
    unfold tcp
    rw [if_pos (by omega)]
    congr 1
    omega
  have m0 : rtk ν (14 + 4 * u) 53 L.length (14 + 4 * u) 1 = nI L.length := by rw [rtk_a, upd_eq rfl]
  have m1 : ∀ j, j < L.length → rtk ν (14 + 4 * u) 53 L.length (15 + 4 * u) j = enc (apd (fun _ => 0) 0 L j) := by
    intro j hj
    rw [show 15 + 4 * u = 14 + 4 * u + 1 by omega, rtk_b, cpf_lt hj]
    exact hv j hj
  have tl : (nI L.length).toInt.toNat = L.length := by rw [nI_toInt (by omega), Int.toNat_natCast]
  refine ⟨⟨?_, ?_, ?_, ?_⟩, fun j hj => ?_, fun j hj => ?_, fun j hj => ?_, fun s hs g hg => ?_, ⟨?_, fun j hj => ?_⟩, ⟨?_, fun j hj => ?_⟩, ?_, ?_⟩
  · rw [e _ (by omega) (by omega), w _ (by omega)]; exact a1
  · rw [e _ (by omega) (by omega), w _ (by omega)]; exact a2
  · rw [e _ (by omega) (by omega), w _ (by omega)]; exact a3
  · rw [e _ (by omega) (by omega), w _ (by omega)]; exact a4
  · rw [e _ (by omega) (by omega), w _ (by omega)]; exact h2 j hj
  · rw [e _ (by omega) (by omega), w _ (by omega)]; exact h3 j hj
  · rw [e _ (by omega) (by omega), w _ (by omega)]; exact h4 j hj
  · rw [e _ (by omega) (by omega), w _ (by omega)]; exact h5 s hs g hg
  · rw [e _ (by omega) (by omega), w _ (by omega)]; exact b1
  · rw [w 4 (by omega)] at hj
    rw [e _ (by omega) (by omega), w _ (by omega)]; exact b2_ j hj
  · rw [e _ (by omega) (by omega), w _ (by omega)]; exact c1
  · rw [w 5 (by omega)] at hj
    rw [e _ (by omega) (by omega), w _ (by omega)]; exact c2 j hj
  · rcases u with _ | _ | u
    · refine ⟨m0.trans w0.symm, fun j hj => ?_⟩
      rw [w0, tl] at hj
      exact (m1 j hj).trans (congrArg enc (w1 j hj)).symm
    · refine ⟨?_, fun j hj => ?_⟩
      · rw [e _ (by omega) (by omega), w _ (by omega)]; exact d1
      · rw [w 223 (by omega)] at hj
        rw [e _ (by omega) (by omega), w _ (by omega)]; exact d2 j hj
    · omega
  · rcases u with _ | _ | u
    · refine ⟨?_, fun j hj => ?_⟩
      · rw [e _ (by omega) (by omega), w _ (by omega)]; exact e1_
      · rw [w 275 (by omega)] at hj
        rw [e _ (by omega) (by omega), w _ (by omega)]; exact e2_ j hj
    · refine ⟨m0.trans w0.symm, fun j hj => ?_⟩
      rw [w0, tl] at hj
      exact (m1 j hj).trans (congrArg enc (w1 j hj)).symm
    · omega
