/-! the class's sheets stand for the reference's -/
theorem l4 {k r : Nat} (h : ([61, 63, 65, 67] : List Nat)[k]? = some r) : r = 61 + 2 * k := by
  have hk : k < 4 := by
    rcases Nat.lt_or_ge k 4 with q | q
    · exact q
    · rw [List.getElem?_eq_none (by simpa using q)] at h; exact absurd h (by simp)
  rcases k with _ | _ | _ | _ | k <;> first | (simp at h; omega) | omega
theorem shS {k : Nat} (h : k < 4) : shL[61 + 2 * k]? = some (.inl (2, [some (62 + 2 * k), none, none])) := by
  rcases k with _ | _ | _ | _ | k <;> first | rfl | omega
theorem shN {k : Nat} (h : k < 4) : shL[62 + 2 * k]? = some (.inr (.inl (.int, 40))) := by
  rcases k with _ | _ | _ | _ | k <;> first | rfl | omega
theorem rcS {k : Nat} (h : k < 4) : rcv (61 + 2 * k) 16 := ⟨_, shS h⟩
theorem RC.q12 {S μ : Mem} (h : RC S μ) {o : Nat} (ho : o < 4) {Q q : Nat → Int32} (e1 : ∀ j, j < 40 → q j = Q (40 * o + j)) (e2 : ∀ s, s < 4 → s ≠ o → ∀ j, j < 40 → Q (40 * s + j) = S 12 (40 * s + j)) : RC (sf S 12 Q) (sf μ (62 + 2 * o) q) := by
  obtain ⟨h1, h2, h31, h32, h33, h34⟩ := h
  have e : ∀ i, i ≠ 62 + 2 * o → sf μ (62 + 2 * o) q i = μ i := fun i hi => sf_ne hi
  refine ⟨?_, ?_, ?_, ?_, ?_, ?_⟩
  · rw [sf_ne (by decide)]; exact h1.of fun i _ _ => e i (by omega)
  · rw [sf_ne (by decide), sf_ne (by decide)]; exact h2.imp id fun h => h.of fun i _ _ => e i (by omega)
  · rw [e 69 (by omega), sf_ne (by decide)]; exact h31
  · rw [e 0 (by omega), sf_ne (by decide)]; exact h32
  · rw [e 58 (by omega), e 59 (by omega), sf_ne (by decide), sf_ne (by decide)]; exact h33
  · intro s hs
    obtain ⟨a, b, c⟩ := h34 s hs
    rw [e (61 + 2 * s) (by omega), sf_ne (by decide), sf_ne (by decide), sf_at]
    refine ⟨a, b, fun j hj => ?_⟩
    by_cases hso : s = o
    · subst hso
      rw [sf_at]
      exact e1 j hj
    · rw [e (62 + 2 * s) (by omega), e2 s hs hso j hj]
      exact c j hj
theorem RC.wq {S μ : Mem} (h : RC S μ) {o i : Nat} (ho : o < 4) (hi : i < 40) {v : Int32} : RC (wr S 12 (40 * o + i) v) (wr μ (62 + 2 * o) i v) := by
  have e : ∀ (M : Mem) a j x, wr M a j x = sf M a (upd (M a) j x) := by
    intro M a j x
    funext b
    by_cases hb : b = a
    · subst hb; simp [wr, sf]
    · simp [wr, sf, hb]
  rw [e, e]
  refine h.q12 ho ?_ ?_
  · intro j hj
    by_cases hji : j = i
    · subst hji; rw [upd_eq rfl, upd_eq rfl]
    · rw [upd_ne hji, upd_ne (by omega)]
      exact (h.2.2.2.2.2 o ho).2.2 j hj
  · intro s hs hso j hj
    rw [upd_ne (by omega)]
theorem RC.sz {S μ : Mem} (h : RC S μ) {o : Nat} (ho : o < 4) {b n : Int32} : RC (wr (wr S 10 o b) 11 o n) (wr (wr μ (61 + 2 * o) 2 b) (61 + 2 * o) 1 n) := by
  obtain ⟨h1, h2, h31, h32, h33, h34⟩ := h
  have e : ∀ i, i ≠ 61 + 2 * o → wr (wr μ (61 + 2 * o) 2 b) (61 + 2 * o) 1 n i = μ i := fun i hi => by rw [wr_ne hi, wr_ne hi]
  have u : ∀ i, i ≠ 10 → i ≠ 11 → wr (wr S 10 o b) 11 o n i = S i := fun i h10 h11 => by rw [wr_ne h11, wr_ne h10]
  refine ⟨?_, ?_, ?_, ?_, ?_, ?_⟩
  · rw [u 1 (by decide) (by decide)]; exact h1.of fun i _ _ => e i (by omega)
  · rw [u 0 (by decide) (by decide), u 2 (by decide) (by decide)]; exact h2.imp id fun h => h.of fun i _ _ => e i (by omega)
  · rw [e 69 (by omega), u 3 (by decide) (by decide)]; exact h31
  · rw [e 0 (by omega), u 0 (by decide) (by decide)]; exact h32
  · rw [e 58 (by omega), e 59 (by omega), u 0 (by decide) (by decide), u 9 (by decide) (by decide)]; exact h33
  · intro s hs
    obtain ⟨a, c, d⟩ := h34 s hs
    rw [e (62 + 2 * s) (by omega), u 12 (by decide) (by decide)]
    refine ⟨?_, ?_, d⟩
    · by_cases hso : s = o
      · subst hso
        rw [wr_wr (by decide), wr_same, wr_ne (by decide), wr_same]
      · rw [e _ (by omega), wr_ne (by decide), wr_wr hso]
        exact a
    · by_cases hso : s = o
      · subst hso
        rw [wr_same, wr_same]
      · rw [e _ (by omega), wr_wr hso, wr_ne (by decide)]
        exact c
theorem RC.shz {S μ : Mem} (h : RC S μ) {o : Nat} (ho : o < 4) {b n : Int32} {f : Nat → Int32} : RC (shz S o b n) (sf (wr (wr μ (61 + 2 * o) 2 b) (61 + 2 * o) 1 n) (62 + 2 * o) (zf f 0 40)) := by
  refine (h.sz (b := b) (n := n) ho).q12 ho ?_ ?_
  · intro j hj
    unfold zf
    rw [if_pos (by omega), if_pos (by omega)]
  · intro s hs hso j hj
    rw [wr_ne (by decide), wr_ne (by decide)]
    unfold zf
    rw [if_neg (by omega)]
theorem mxn {n : Int32} (h0 : 0 ≤ n.toInt) (h40 : n.toInt ≤ 40) : (if 0 < (if (40 : Int32) < n then 40 else n) then (if (40 : Int32) < n then 40 else n) else 0) = n := by
  have hn : ¬ (40 : Int32) < n := by
    simp only [Int32.lt_iff_toInt_lt, Int32.reduceToInt]; omega
  rw [if_neg hn]
  split
  · rfl
  · rename_i h
    simp only [Int32.lt_iff_toInt_lt, ← Int32.toInt_inj, Int32.reduceToInt] at h ⊢
    omega
def nar (w v : Int32) : Int32 := if w = 8 then v.toInt8.toInt32 else if w = 16 then v.toInt16.toInt32 else v
theorem toInt_nat (v : Int32) : v.toInt = if v.toBitVec.toNat < 2147483648 then (v.toBitVec.toNat : Int) else (v.toBitVec.toNat : Int) - 4294967296 := by
  have h : v.toInt = v.toBitVec.toInt := rfl
  rw [h, BitVec.toInt_eq_toNat_cond]
  have := v.toBitVec.isLt
  split <;> split <;> omega
theorem nar8 (v : Int32) : nar 8 v = v.toInt8.toInt32 := if_pos rfl
theorem nar16 (v : Int32) : nar 16 v = v.toInt16.toInt32 := rfl
theorem nar32 (v : Int32) : nar 32 v = v := rfl
theorem nar_sh {w v : Int32} (h : w = 8 ∨ w = 16 ∨ w = 32) : (v <<< ((32 - w) &&& 31)) >>> ((32 - w) &&& 31) = nar w v := by
  have hl := v.toBitVec.isLt
  have hv := toInt_nat v
  rcases h with rfl | rfl | rfl
  · rw [nar8, ← Int32.toInt_inj, pk_shr _ _ 24 (by decide), toInt_nat, pk_shl v _ 24 (by decide), Int8.toInt_toInt32, Int32.toInt_toInt8, hv, Int.shiftRight_eq_div_pow, Int.bmod_def]
    generalize v.toBitVec.toNat = n at *
    have e : ((2 ^ 24 : Nat) : Int) = 16777216 := rfl
    have e2 : ((2 ^ 8 : Nat) : Int) = 256 := rfl
    rw [e, e2]
    split <;> split <;> split <;> omega
  · rw [nar16, ← Int32.toInt_inj, pk_shr _ _ 16 (by decide), toInt_nat, pk_shl v _ 16 (by decide), Int16.toInt_toInt32, Int32.toInt_toInt16, hv, Int.shiftRight_eq_div_pow, Int.bmod_def]
    generalize v.toBitVec.toNat = n at *
    have e : ((2 ^ 16 : Nat) : Int) = 65536 := rfl
    rw [e]
    split <;> split <;> split <;> omega
  · rw [nar32, ← Int32.toInt_inj, pk_shr _ _ 0 (by decide), toInt_nat, pk_shl v _ 0 (by decide), hv, Int.shiftRight_eq_div_pow]
    generalize v.toBitVec.toNat = n at *
    have e : ((2 ^ 0 : Nat) : Int) = 1 := rfl
    rw [e, Int.ediv_one]
    split <;> split <;> omega
