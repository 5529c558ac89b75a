/-! the class's part of the memory stands for the reference's -/
def enc (is : Int32) : Int32 :=
  if is < 20000 then is else if is = 20000 then -124 else if is = 20001 then -38 else if is = 20002 then -60 else if is = 20003 then -61 else if is = 20004 then -62 else if is = 20005 then -43 else if is = 20006 then -45 else if is = 20007 then -42 else if is = 20008 then -47 else if is = 20009 then -37 else -33
/-- the World at b stands for N -/
def RW (N : Nat → Int32) (μ : Mem) (b : Nat) : Prop :=
  (μ b 8 = N 1 ∧ μ b 9 = N 2 ∧ μ b 10 = N 0 ∧ μ b 11 = N 3) ∧ (∀ j, j < 7 → μ (b + 1) j = N (6 + j)) ∧ (∀ j, j < 49 → μ (b + 2) j = N (13 + j)) ∧ (∀ j, j < 49 → μ (b + 3) j = N (62 + j)) ∧
  (∀ t, t < 7 → ∀ f, f < 6 → μ (b + 5 + t) f = N (111 + 6 * t + f)) ∧ (μ (b + 20) 1 = N 4 ∧ ∀ j, j < (N 4).toInt.toNat → μ (b + 21) j = N (153 + j)) ∧ (μ (b + 22) 1 = N 5 ∧ ∀ j, j < (N 5).toInt.toNat → μ (b + 23) j = N (203 + j)) ∧
  (μ (b + 13) 1 = N 223 ∧ ∀ j, j < (N 223).toInt.toNat → μ (b + 14) j = enc (N (224 + j))) ∧ (μ (b + 17) 1 = N 275 ∧ ∀ j, j < (N 275).toInt.toNat → μ (b + 18) j = enc (N (276 + j)))
/-- errors, sheets, images, the trace -/
def RX (S : Mem) (μ : Mem) : Prop :=
  (∀ k, k < 6 → μ 69 k = S 3 k) ∧ μ 0 7 = S 0 2 ∧ (μ 58 1 = S 0 20 ∧ ∀ j, j < (S 0 20).toInt.toNat → μ 59 j = S 9 j) ∧
  (∀ s, s < 4 → μ (61 + 2 * s) 2 = S 10 s ∧ μ (61 + 2 * s) 1 = S 11 s ∧ ∀ j, j < 40 → μ (62 + 2 * s) j = S 12 (40 * s + j))
def RC (S μ : Mem) : Prop := RW (S 1) μ 1 ∧ (S 0 2 = 0 ∨ RW (S 2) μ 25) ∧ RX S μ
theorem RW.of {N : Nat → Int32} {μ μ' : Mem} {b : Nat} (h : RW N μ b) (e : ∀ i, b ≤ i → i ≤ b + 23 → μ' i = μ i) : RW N μ' b := by
  obtain ⟨h1, h2, h3, h4, h5, h6, h7, h8, h9⟩ := h
  refine ⟨by rw [e b (by omega) (by omega)]; exact h1, fun j hj => by rw [e _ (by omega) (by omega)]; exact h2 j hj, fun j hj => by rw [e _ (by omega) (by omega)]; exact h3 j hj, fun j hj => by rw [e _ (by omega) (by omega)]; exact h4 j hj, fun t ht f hf => by rw [e _ (by omega) (by omega)]; exact h5 t ht f hf, ?_, ?_, ?_, ?_⟩
  · rw [e (b + 20) (by omega) (by omega), e (b + 21) (by omega) (by omega)]; exact h6
  · rw [e (b + 22) (by omega) (by omega), e (b + 23) (by omega) (by omega)]; exact h7
  · rw [e (b + 13) (by omega) (by omega), e (b + 14) (by omega) (by omega)]; exact h8
  · rw [e (b + 17) (by omega) (by omega), e (b + 18) (by omega) (by omega)]; exact h9
theorem RX.of {S μ μ' : Mem} (h : RX S μ) (e : ∀ i, i = 0 ∨ (58 ≤ i ∧ i < 70) → μ' i = μ i) : RX S μ' := by
  obtain ⟨h1, h2, h3, h4⟩ := h
  refine ⟨fun k hk => by rw [e 69 (by omega)]; exact h1 k hk, by rw [e 0 (by omega)]; exact h2, by rw [e 58 (by omega), e 59 (by omega)]; exact h3, fun s hs => ?_⟩
  rw [e (61 + 2 * s) (by omega), e (62 + 2 * s) (by omega)]
  exact h4 s hs
/-- an error is counted on both sides -/
theorem RC.er {S μ : Mem} (h : RC S μ) (k : Nat) : RC (er S k) (wr μ 69 k (μ 69 k + 1)) := by
  obtain ⟨h1, h2, h3, h4, h5, h6⟩ := h
  have e : ∀ i, i ≠ 69 → wr μ 69 k (μ 69 k + 1) i = μ i := fun i hi => wr_ne hi
  have s1 : (wr S 3 k (S 3 k + 1)) 1 = S 1 := wr_ne (by decide)
  refine ⟨?_, ?_, ?_, ?_, ?_, ?_⟩
  · exact h1.of fun i _ _ => e i (by omega)
  · exact h2.imp id fun h => h.of fun i _ _ => e i (by omega)
  · intro j hj
    show wr μ 69 k (μ 69 k + 1) 69 j = wr S 3 k (S 3 k + 1) 3 j
    rw [wr_at, wr_at]
    simp only [upd]
    split
    · rename_i hjk
      subst hjk
      rw [h3 j hj]
    · exact h3 j hj
  · rw [e 0 (by decide)]; exact h4
  · rw [e 58 (by decide), e 59 (by decide)]; exact h5
  · intro s hs
    rw [e _ (by omega), e _ (by omega)]
    exact h6 s hs
def Pc80 (S μ : Mem) (p : Sp) (r : Option Value) (μ' : Mem) : Prop := r = some (.int p.1) ∧ RC p.2 μ' ∧ ∀ i, 70 ≤ i → μ' i = μ i
abbrev Pc8 (S μ : Mem) (p : Sp) (r : Option Value) (μ' : Mem) : Prop := Nonempty (PLift (Pc80 S μ p r μ'))
theorem Pc8.of {S μ μ' : Mem} {p : Sp} {x : Int32} (hx : x = p.1) (hr : RC p.2 μ') (hl : ∀ i, 70 ≤ i → μ' i = μ i) : Pc8 S μ p (some (.int x)) μ' := ⟨⟨by rw [hx], hr, hl⟩⟩
theorem hi_wr {μ : Mem} {i a j : Nat} {x : Int32} (h : 70 ≤ i) (ha : a < 70) : wr μ a j x i = μ i := wr_ne (by omega)
theorem RX.ofS {S S' μ : Mem} (h : RX S μ) (e : ∀ i, i = 0 ∨ i = 3 ∨ 9 ≤ i → S' i = S i) : RX S' μ := by
  unfold RX
  rw [e 0 (by decide), e 3 (by decide), e 9 (by decide), e 10 (by decide), e 11 (by decide), e 12 (by decide)]
  exact h
/-- only World now changes -/
theorem RC.now {S S' μ μ' : Mem} (h : RC S μ) (hs : ∀ i, i ≠ 1 → S' i = S i) (hm : ∀ i, i = 0 ∨ 25 ≤ i → μ' i = μ i) (hw : RW (S' 1) μ' 1) : RC S' μ' := by
  obtain ⟨_, h2, h3⟩ := h
  refine ⟨hw, ?_, (h3.ofS fun i hi => hs i (by omega)).of fun i hi => hm i (by omega)⟩
  rw [hs 0 (by decide), hs 2 (by decide)]
  exact h2.imp id fun h => h.of fun i h1 _ => hm i (by omega)
theorem upd_ne {f : Nat → Int32} {j a : Nat} {x : Int32} (h : a ≠ j) : upd f j x a = f a := by simp [upd, h]
theorem upd_eq {f : Nat → Int32} {j a : Nat} {x : Int32} (h : a = j) : upd f j x a = x := by simp [upd, h]
