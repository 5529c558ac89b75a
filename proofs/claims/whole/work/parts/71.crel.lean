/-! the class's scratch, and what its tales grow and walk -/
abbrev sd (μ : Mem) (f g : Nat → Int32) : Mem := sf (sf μ 16 f) 20 g
theorem sd_sd {μ : Mem} {f g f' g' : Nat → Int32} : sd (sd μ f g) f' g' = sd μ f' g' := by
  funext a
  simp only [sd, sf]
  by_cases h : a = 20
  · simp [h]
  · by_cases h2 : a = 16 <;> simp [h, h2]
theorem sd_id {μ : Mem} : μ = sd μ (μ 16) (μ 20) := by
  funext a
  simp only [sd, sf]
  by_cases h : a = 20
  · subst h; simp
  · by_cases h2 : a = 16
    · subst h2; simp
    · simp [h, h2]
theorem sd_16 {μ : Mem} {f : Nat → Int32} : sf μ 16 f = sd μ f (μ 20) := (sf_self (S := sf μ 16 f) (i := 20)).symm
theorem sd_20 {μ : Mem} {g : Nat → Int32} : sf μ 20 g = sd μ (μ 16) g := by
  show sf μ 20 g = sf (sf μ 16 (μ 16)) 20 g
  rw [sf_self]
theorem sd_ne {μ : Mem} {f g : Nat → Int32} {i : Nat} (h1 : i ≠ 16) (h2 : i ≠ 20) : sd μ f g i = μ i := by
  show sf (sf μ 16 f) 20 g i = μ i
  rw [sf_ne h2, sf_ne h1]
theorem RW.sdk {N : Nat → Int32} {μ : Mem} (h : RW N μ 1) (f g : Nat → Int32) : RW N (sd μ f g) 1 := by
  obtain ⟨h1, h2, h3, h4, h5, h6, h7, h8, h9⟩ := h
  have e : ∀ i, i ≠ 16 → i ≠ 20 → sd μ f g i = μ i := fun i a b => sd_ne a b
  refine ⟨by rw [e _ (by omega) (by omega)]; exact h1, fun j hj => by rw [e _ (by omega) (by omega)]; exact h2 j hj, fun j hj => by rw [e _ (by omega) (by omega)]; exact h3 j hj, fun j hj => by rw [e _ (by omega) (by omega)]; exact h4 j hj, fun t ht q hq => by rw [e _ (by omega) (by omega)]; exact h5 t ht q hq, ?_, ?_, ?_, ?_⟩
  · rw [e _ (by omega) (by omega), e _ (by omega) (by omega)]; exact h6
  · rw [e _ (by omega) (by omega), e _ (by omega) (by omega)]; exact h7
  · rw [e _ (by omega) (by omega), e _ (by omega) (by omega)]; exact h8
  · rw [e _ (by omega) (by omega), e _ (by omega) (by omega)]; exact h9
theorem RC.sdk {S μ : Mem} (h : RC S μ) (f g : Nat → Int32) : RC S (sd μ f g) := by
  obtain ⟨h1, h2, h3⟩ := h
  refine ⟨h1.sdk f g, h2.imp id fun h => h.of fun i h1 _ => sd_ne (by omega) (by omega), h3.of fun i hi => sd_ne (by omega) (by omega)⟩
theorem and_or32 (x y z : Int32) : (x ||| y) &&& z = (x &&& z) ||| (y &&& z) := by
  apply Int32.toBitVec_inj.1
  rw [Int32.toBitVec_and, Int32.toBitVec_or, Int32.toBitVec_or, Int32.toBitVec_and, Int32.toBitVec_and]
  apply BitVec.eq_of_getLsbD_eq
  intro i hi
  rw [BitVec.getLsbD_and, BitVec.getLsbD_or, BitVec.getLsbD_or, BitVec.getLsbD_and, BitVec.getLsbD_and]
  cases x.toBitVec.getLsbD i <;> cases y.toBitVec.getLsbD i <;> cases z.toBitVec.getLsbD i <;> rfl
theorem and_xor32 (x y z : Int32) : (x ^^^ y) &&& z = (x &&& z) ^^^ (y &&& z) := by
  apply Int32.toBitVec_inj.1
  rw [Int32.toBitVec_and, Int32.toBitVec_xor, Int32.toBitVec_xor, Int32.toBitVec_and, Int32.toBitVec_and]
  apply BitVec.eq_of_getLsbD_eq
  intro i hi
  rw [BitVec.getLsbD_and, BitVec.getLsbD_xor, BitVec.getLsbD_xor, BitVec.getLsbD_and, BitVec.getLsbD_and]
  cases x.toBitVec.getLsbD i <;> cases y.toBitVec.getLsbD i <;> cases z.toBitVec.getLsbD i <;> rfl
theorem sh255 : ∀ k, k < 8 → ((1 : Int32) <<< (nI k &&& 31)) &&& 255 = (1 : Int32) <<< (nI k &&& 31) := by decide +kernel
theorem m254 : ∀ k, k < 256 → nI k &&& 254 = nI k &&& (-2) := by decide +kernel
theorem m255 : ∀ k, k < 256 → nI k &&& 255 = nI k := by decide +kernel
theorem and7 {y : Int32} (h : upto y 0 99) : y &&& 7 = y - y / 8 * 8 := by
  obtain ⟨q, hq, rfl⟩ := of_upto (n := 99) h (by decide)
  rw [show nI q - nI q / 8 * 8 = nI (q % 8) from pk_rem (d := 8) (by omega) (by decide) (by decide)]
  exact pk_andN (by omega) 3 (by decide)
/-- what the class's grown gives, by kinds -/
def grC (kd mk y gv : Int32) : Int32 :=
  if kd = 1 then (gv ||| 1) &&& 255 else if kd = 2 then (gv ^^^ ((1 : Int32) <<< ((y &&& 7) &&& 31))) &&& 255 else if kd = 3 then mk &&& 255 else if kd = 4 then (gv ||| 129) &&& 255
  else if kd = 5 then ((gv ^^^ ((1 : Int32) <<< ((y &&& 7) &&& 31))) ^^^ (-1)) &&& 255 else if kd = 6 then mk &&& 254 else gv &&& 255
theorem grC_eq {N : Nat → Int32} {t : Nat} {mk y fr : Int32} (hm : upto mk 0 255) (hy : upto y 0 99) (hk : upto (tf N t 0) 0 6) : grC (tf N t 0) mk y (gV N 0 mk y fr) = gR N t mk y fr := by
  obtain ⟨m, hm2, rfl⟩ := of_upto (n := 255) hm (by decide)
  obtain ⟨k, hk8, ek⟩ := rem8 hy
  unfold grC gR
  rw [and7 hy, ek]
  generalize gV N 0 (nI m) y fr = g
  have e1 : (g ||| 1) &&& 255 = (g &&& 255) ||| 1 := and_or32 g 1 255
  have e2 : (g ||| 129) &&& 255 = (g &&& 255) ||| 129 := and_or32 g 129 255
  have e3 : (g ^^^ ((1 : Int32) <<< (nI k &&& 31))) &&& 255 = (g &&& 255) ^^^ ((1 : Int32) <<< (nI k &&& 31)) := by rw [and_xor32, sh255 k hk8]
  have e4 : ((g ^^^ ((1 : Int32) <<< (nI k &&& 31))) ^^^ (-1)) &&& 255 = ((g &&& 255) ^^^ ((1 : Int32) <<< (nI k &&& 31))) ^^^ 255 := by
    rw [and_xor32, e3]
    rfl
  rw [e1, e2, e3, e4, m254 m (by omega), m255 m (by omega)]
  rcases i32_6 hk.1 hk.2 with h | h | h | h | h | h | h <;> rw [h] <;> rfl
def wkC (kd m y : Int32) : Int32 := if kd = 1 then mx 1 (y / 2) else if kd = 2 then y * 3 else if kd = 4 then mx 1 (y / 2) * 2 else if kd = 5 then y * 3 + m else if kd = 6 then mx 0 (y - m) else y
theorem wkC_eq {N : Nat → Int32} {t : Nat} {y : Int32} (hk : upto (tf N t 0) 0 6) : wkC (tf N t 0) (tf N t 1) y = wlk N t y := by
  unfold wkC wlk
  rw [Int32.mul_comm y 3, Int32.mul_comm (mx 1 (y / 2)) 2]
  rcases i32_6 hk.1 hk.2 with h | h | h | h | h | h | h <;> rw [h] <;> rfl
