/-! what the class's calls leave as it was -/
theorem RC.of0 {S μ ν : Mem} (h : RC S μ) (e : ∀ i, i ≠ 16 → i ≠ 20 → (i < 49 ∨ 57 < i) → i < 70 → ν i = μ i) : RC S ν := by
  have k := h.sdk (ν 16) (ν 20)
  have e2 : ∀ i, (i < 49 ∨ 57 < i) → i < 70 → ν i = sd μ (ν 16) (ν 20) i := by
    intro i hi h7
    by_cases h1 : i = 16
    · subst h1; rfl
    · by_cases h2 : i = 20
      · subst h2; rfl
      · rw [sd_ne h1 h2]; exact e i h1 h2 hi h7
  exact ⟨k.1.of fun i h1 h2 => e2 i (by omega) (by omega), k.2.1.imp id fun h => h.of fun i h1 h2 => e2 i (by omega) (by omega), k.2.2.of fun i hi => e2 i (by omega) (by omega)⟩
/-- nothing that counts has changed -/
theorem Pc8.of0 {S μ ν : Mem} {p : Sp} {x : Int32} (h : RC S μ) (hp : p = (x, S)) (e : ∀ i, i ≠ 16 → i ≠ 20 → (i < 49 ∨ 57 < i) → ν i = μ i) : Pc8 S μ p (some (.int x)) ν := by
  subst hp
  exact ⟨⟨rfl, h.of0 fun i h1 h2 h3 _ => e i h1 h2 h3, fun i hi => e i (by omega) (by omega) (by omega)⟩⟩
theorem k7_taleOfN (X : Cx) (μ : Mem) (k : Nat) (hk : k < 7) (h : nI k < μ 1 9) : Mt X m_X7_taleOf 0 [.ref 1, .int (nI k)] μ (fun r μ' => r = some (.ref (6 + k)) ∧ μ' = μ) := by
  have q := k7_taleOf X μ (nI k) (nI_pos' (by omega)) h (by
    simp only [Int32.lt_iff_toInt_lt, Int32.reduceToInt]
    rw [nI_toInt (by omega)]
    omega)
  rw [nI_toInt (by omega), Int.toNat_natCast] at q
  exact q
theorem or_0 (x : Int32) : x ||| 0 = x := by
  apply Int32.toBitVec_inj.1
  rw [Int32.toBitVec_or]
  exact BitVec.or_zero
def u8 (x s : Int32) : Int32 := (x.toUInt32 >>> (s.toUInt32 &&& Int32.toUInt32 31)).toInt32
def bc1 (v : Int32) : Int32 := v - (u8 v 1 &&& 1431655765)
def bc2 (v : Int32) : Int32 := (v &&& 858993459) + (u8 v 2 &&& 858993459)
def bc3 (v : Int32) : Int32 := (v + u8 v 4) &&& 252645135
def bcx (v : Int32) : Int32 :=
  let d := bc3 (bc2 (bc1 v)) + u8 (bc3 (bc2 (bc1 v))) 8
  (d + u8 d 16) &&& 63
theorem bcx_eq : ∀ k, k < 256 → bcx (nI k) = bts 8 (nI k) 0 := by decide +kernel
