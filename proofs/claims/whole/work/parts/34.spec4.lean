/-! what holds of now is kept by a step -/
theorem WN.tale {N : Nat → Int32} (h : WN N) {t f : Nat} {v : Int32} (ht : t < 7) (hf : f < 6) (hv : (f = 0 → upto v 0 6) ∧ (f = 1 → upto v 0 9) ∧ (f = 2 → upto v 0 255) ∧ (f = 3 → upto v 0 9999) ∧ (f = 4 → upto v 0 6 ∧ (t < nT N → v.toInt < (N 1).toInt)) ∧ (f = 5 → upto v 0 9999)) : WN (upd N (111 + 6 * t + f) v) := by
  obtain ⟨h1, h2, h3, h4, h5, h6, h7, h8, h9, h10, h11, h12, h13⟩ := h
  have e : ∀ j, j < 111 ∨ 152 < j → upd N (111 + 6 * t + f) v j = N j := fun j hj => upd_ne (by omega)
  have eT : nT (upd N (111 + 6 * t + f) v) = nT N := by unfold nT; rw [e 2 (by omega)]
  have tfe : ∀ s g, s < 7 → g < 6 → tf (upd N (111 + 6 * t + f) v) s g = if s = t ∧ g = f then v else tf N s g := by
    intro s g hs hg
    unfold tf
    by_cases q : s = t ∧ g = f
    · rw [if_pos q, q.1, q.2, upd_eq rfl]
    · rw [if_neg q, upd_ne (by omega)]
  refine ⟨by rw [e 0 (by omega)]; exact h1, by rw [e 1 (by omega)]; exact h2, by rw [e 2 (by omega)]; exact h3, by rw [e 4 (by omega)]; exact h4, by rw [e 5 (by omega)]; exact h5, fun j hj => by rw [e _ (by omega)]; exact h6 j hj, fun j hj => by rw [e _ (by omega)]; exact h7 j hj, fun j hj => by rw [e _ (by omega)]; exact h8 j hj, fun s hs => ?_, fun s hs => ?_, fun j hj => by rw [e _ (by omega)]; exact h11 j hj, ?_, ?_⟩
  · obtain ⟨a0, a1, a2, a3, a4, a5⟩ := h9 s hs
    obtain ⟨b0, b1, b2, b3, b4, b5⟩ := hv
    refine ⟨?_, ?_, ?_, ?_, ?_, ?_⟩
    · rw [tfe s 0 hs (by decide)]; split
      · rename_i q; exact b0 q.2.symm
      · exact a0
    · rw [tfe s 1 hs (by decide)]; split
      · rename_i q; exact b1 q.2.symm
      · exact a1
    · rw [tfe s 2 hs (by decide)]; split
      · rename_i q; exact b2 q.2.symm
      · exact a2
    · rw [tfe s 3 hs (by decide)]; split
      · rename_i q; exact b3 q.2.symm
      · exact a3
    · rw [tfe s 4 hs (by decide)]; split
      · rename_i q; exact (b4 q.2.symm).1
      · exact a4
    · rw [tfe s 5 hs (by decide)]; split
      · rename_i q; exact b5 q.2.symm
      · exact a5
  · rw [eT] at hs
    have hs7 : s < 7 := by have := h3.2; unfold nT at hs; omega
    rw [tfe s 4 hs7 (by decide), e 1 (by omega)]
    split
    · rename_i q; rw [q.1] at hs; exact (hv.2.2.2.2.1 q.2.symm).2 hs
    · exact h10 s hs
  · rw [e 223 (by omega)]
    refine ⟨h12.1, ?_⟩
    rw [show (fun j => upd N (111 + 6 * t + f) v (224 + j)) = fun j => N (224 + j) from funext fun j => e _ (by omega)]
    exact h12.2
  · rw [e 275 (by omega)]
    refine ⟨h13.1, ?_⟩
    rw [show (fun j => upd N (111 + 6 * t + f) v (276 + j)) = fun j => N (276 + j) from funext fun j => e _ (by omega)]
    exact h13.2
theorem WN.cell {N : Nat → Int32} (h : WN N) {j : Nat} {v : Int32} (hj : j = 0 ∨ j = 3) (hv : j = 0 → upto v 0 9999) : WN (upd N j v) := by
  obtain ⟨h1, h2, h3, h4, h5, h6, h7, h8, h9, h10, h11, h12, h13⟩ := h
  have e : ∀ i, i ≠ 0 → i ≠ 3 → upd N j v i = N i := fun i h0 h3 => upd_ne (by omega)
  have eT : nT (upd N j v) = nT N := by unfold nT; rw [e 2 (by omega) (by omega)]
  refine ⟨?_, by rw [e 1 (by omega) (by omega)]; exact h2, by rw [e 2 (by omega) (by omega)]; exact h3, by rw [e 4 (by omega) (by omega)]; exact h4, by rw [e 5 (by omega) (by omega)]; exact h5, fun j hj => by rw [e _ (by omega) (by omega)]; exact h6 j hj, fun j hj => by rw [e _ (by omega) (by omega)]; exact h7 j hj, fun j hj => by rw [e _ (by omega) (by omega)]; exact h8 j hj, fun s hs => ?_, fun s hs => ?_, fun j hj => by rw [e _ (by omega) (by omega)]; exact h11 j hj, ?_, ?_⟩
  · rcases hj with rfl | rfl
    · rw [upd_eq rfl]; exact hv rfl
    · rw [upd_ne (by omega)]; exact h1
  · have := h9 s hs
    unfold tf at this ⊢
    simp (disch := omega) only [e]
    exact this
  · rw [eT] at hs
    have := h10 s hs
    unfold tf at this ⊢
    rw [e _ (by omega) (by omega), e 1 (by omega) (by omega)]
    exact this
  · rw [e 223 (by omega) (by omega)]
    refine ⟨h12.1, ?_⟩
    rw [show (fun i => upd N j v (224 + i)) = fun i => N (224 + i) from funext fun i => e _ (by omega) (by omega)]
    exact h12.2
  · rw [e 275 (by omega) (by omega)]
    refine ⟨h13.1, ?_⟩
    rw [show (fun i => upd N j v (276 + i)) = fun i => N (276 + i) from funext fun i => e _ (by omega) (by omega)]
    exact h13.2
theorem upto_nI {k n : Nat} (h : k ≤ n) (hn : n < 2147483648) : upto (nI k) 0 n := by
  unfold upto
  rw [nI_toInt (by omega)]
  omega
theorem of_upto {x : Int32} {n : Nat} (h : upto x 0 n) (hn : n < 2147483647) : ∃ k, k ≤ n ∧ x = nI k := by
  obtain ⟨k, hk, e⟩ := of_i (n := n + 1) h.1 (by have := h.2; omega) (by omega)
  exact ⟨k, by omega, e⟩
theorem or1 : ∀ j, j < 256 → 0 ≤ (nI j ||| 1).toInt ∧ (nI j ||| 1).toInt ≤ 255 := by decide +kernel
theorem or129 : ∀ j, j < 256 → 0 ≤ (nI j ||| 129).toInt ∧ (nI j ||| 129).toInt ≤ 255 := by decide +kernel
theorem andm2 : ∀ j, j < 256 → 0 ≤ (nI j &&& (-2)).toInt ∧ (nI j &&& (-2)).toInt ≤ 255 := by decide +kernel
theorem xsh : ∀ k, k < 8 → ∀ j, j < 256 → 0 ≤ (nI j ^^^ ((1 : Int32) <<< (nI k &&& 31))).toInt ∧ (nI j ^^^ ((1 : Int32) <<< (nI k &&& 31))).toInt ≤ 255 := by decide +kernel
theorem x255 : ∀ j, j < 256 → 0 ≤ (nI j ^^^ 255).toInt ∧ (nI j ^^^ 255).toInt ≤ 255 := by decide +kernel
theorem and255 (x : Int32) : ∃ j, j < 256 ∧ x &&& 255 = nI j := pk_andE x 8 (by decide)
theorem rem8 {y : Int32} (h : upto y 0 99) : ∃ k, k < 8 ∧ y - y / 8 * 8 = nI k := by
  obtain ⟨q, hq, rfl⟩ := of_upto (n := 99) h (by decide)
  exact ⟨q % 8, Nat.mod_lt _ (by decide), pk_rem (d := 8) (by omega) (by decide) (by decide)⟩
theorem gR_rng {N : Nat → Int32} {t : Nat} {mk y fr : Int32} (hm : upto mk 0 255) (hy : upto y 0 99) : upto (gR N t mk y fr) 0 255 := by
  obtain ⟨m, hm2, rfl⟩ := of_upto (n := 255) hm (by decide)
  obtain ⟨k, hk, e⟩ := rem8 hy
  obtain ⟨j, hj, e2⟩ := and255 (gV N 0 (nI m) y fr)
  unfold gR
  rw [e, e2]
  split
  · exact hm
  · split
    · exact andm2 m (by omega)
    · split
      · exact or1 j hj
      · split
        · exact or129 j hj
        · split
          · exact xsh k hk j hj
          · split
            · obtain ⟨i, hi, e3⟩ := of_upto (n := 255) (xsh k hk j hj) (by decide)
              rw [e3]
              exact x255 i (by omega)
            · exact upto_nI (n := 255) (by omega) (by decide)
theorem mx_toInt (x y : Int32) : (mx x y).toInt = max x.toInt y.toInt := by
  unfold mx
  simp only [Int32.lt_iff_toInt_lt]
  split <;> omega
theorem mn_toInt (x y : Int32) : (mn x y).toInt = min x.toInt y.toInt := by
  unfold mn
  simp only [Int32.lt_iff_toInt_lt]
  split <;> omega
theorem i32_rng {x : Int32} {a b : Int} (h : a ≤ x.toInt) (h2 : x.toInt ≤ b) : upto x a b := ⟨h, h2⟩
theorem wlk_rng {N : Nat → Int32} {t : Nat} {y : Int32} (hy : upto y 0 99) (hm : upto (tf N t 1) 0 9) : upto (wlk N t y) 0 306 := by
  obtain ⟨q, hq, rfl⟩ := of_upto (n := 99) hy (by decide)
  have e : nI q / 2 = nI (q / 2) := pk_div (d := 2) (by omega) (by decide) (by decide)
  unfold upto at hm
  unfold wlk
  rw [e]
  have e3 : (3 : Int32) * nI q = nI (3 * q) := pk_mul 3 q
  have e4 := nI_toInt (n := 3 * q) (by omega)
  have e1 := nI_toInt (n := q) (by omega)
  have e2 := nI_toInt (n := q / 2) (by omega)
  unfold upto
  split
  · rw [mx_toInt, e2]; simp only [Int32.reduceToInt]; omega
  · split
    · rw [Int32.toInt_mul, mx_toInt, e2]; simp only [Int32.reduceToInt, Int.bmod_def]; omega
    · split
      · rw [e3, e4]; omega
      · split
        · rw [e3, t_add (by omega) (by omega), e4]; omega
        · split
          · rw [mx_toInt, Int32.toInt_sub, e1]; simp only [Int32.reduceToInt, Int.bmod_def]; omega
          · rw [e1]; omega
/-- a tale goes to a place -/
def gO (N : Nat → Int32) (t to : Nat) : Nat → Int32 :=
  let a := (tf N t 4).toInt.toNat
  upd (upd (upd (upd N (111 + 6 * t + 2) (gR N t (tf N t 2) (yd N a to) (tf N t 4))) (111 + 6 * t + 3) (mn 9999 (tf N t 3 + wlk N t (yd N a to)))) (111 + 6 * t + 5) (mn 9999 (tf N t 5 + tl N a to))) (111 + 6 * t + 4) (nI to)
theorem WN.go {N : Nat → Int32} (h : WN N) {t to : Nat} (ht : t < 7) (hto : to < nP N) : WN (gO N t to) := by
  have h2 := h.2.1
  have h7 := h.2.2.2.2.2.2.1
  have h8 := h.2.2.2.2.2.2.2.1
  obtain ⟨a0, a1, a2, a3, a4, a5⟩ := h.2.2.2.2.2.2.2.2.1 t ht
  have hto7 : to < 7 := by have := h2.2; unfold nP at hto; omega
  have ha : (tf N t 4).toInt.toNat < 7 := by have := a4.2; have := a4.1; omega
  have hy : upto (yd N (tf N t 4).toInt.toNat to) 0 99 := by
    have := h7 (7 * (tf N t 4).toInt.toNat + to) (by omega)
    unfold yd
    rw [Nat.add_assoc]; exact this
  have hl : upto (tl N (tf N t 4).toInt.toNat to) 0 9 := by
    have := h8 (7 * (tf N t 4).toInt.toNat + to) (by omega)
    unfold tl
    rw [Nat.add_assoc]; exact this
  have hw := wlk_rng (N := N) (t := t) hy a1
  unfold upto at hw hl a3 a5 h2
  unfold gO
  have hnp : nP N = (N 1).toInt.toNat := rfl
  refine WN.tale (WN.tale (WN.tale (WN.tale h ht (by decide) ?_) ht (by decide) ?_) ht (by decide) ?_) ht (by decide) ?_
  · refine ⟨by omega, by omega, fun _ => gR_rng a2 hy, by omega, by omega, by omega⟩
  · refine ⟨by omega, by omega, by omega, fun _ => ?_, by omega, by omega⟩
    unfold upto
    rw [mn_toInt, Int32.toInt_add]
    simp only [Int32.reduceToInt, Int.bmod_def]; omega
  · refine ⟨by omega, by omega, by omega, by omega, by omega, fun _ => ?_⟩
    unfold upto
    rw [mn_toInt, Int32.toInt_add]
    simp only [Int32.reduceToInt, Int.bmod_def]; omega
  · refine ⟨by omega, by omega, by omega, by omega, fun _ => ⟨upto_nI (n := 6) (by omega) (by decide), fun _ => ?_⟩, by omega⟩
    rw [nI_toInt (by omega), upd_ne (by omega), upd_ne (by omega), upd_ne (by omega)]
    omega
