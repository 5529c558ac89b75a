/-! small rows: conditions as numbers, places, memories -/
abbrev b2 (c : Prop) [Decidable c] : Int32 := if c then 1 else 0
theorem b2_01 (c : Prop) [Decidable c] : b2 c = 0 ∨ b2 c = 1 := by unfold b2; split <;> simp
theorem b2_0 {c : Prop} [Decidable c] : b2 c = 0 ↔ ¬ c := by unfold b2; split <;> simp_all
theorem b2_1 {c : Prop} [Decidable c] : ¬ b2 c = 0 ↔ c := by unfold b2; split <;> simp_all
theorem br_n {c A B : Prop} (a : ¬ c → A) (b : c → B) : (¬ c → A) ∧ (c → B) := ⟨a, b⟩
theorem bn_t {c A B : Prop} [Decidable c] (h : c) (a : A) : (¬ b2 c = 0 → A) ∧ (b2 c = 0 → B) := ⟨fun _ => a, fun q => absurd h (b2_0.mp q)⟩
theorem bn_f {c A B : Prop} [Decidable c] (h : ¬ c) (b : B) : (¬ b2 c = 0 → A) ∧ (b2 c = 0 → B) := ⟨fun q => absurd (b2_1.mp q) h, fun _ => b⟩
theorem bc_t {c A B : Prop} [Decidable c] (h : c) (b : B) : (b2 c = 0 → A) ∧ (¬ b2 c = 0 → B) := ⟨fun q => absurd h (b2_0.mp q), fun _ => b⟩
theorem bc_f {c A B : Prop} [Decidable c] (h : ¬ c) (a : A) : (b2 c = 0 → A) ∧ (¬ b2 c = 0 → B) := ⟨fun _ => a, fun q => absurd (b2_1.mp q) h⟩
theorem bn_c {c A B : Prop} [Decidable c] (a : c → A) (b : ¬ c → B) : (¬ b2 c = 0 → A) ∧ (b2 c = 0 → B) := ⟨fun q => a (b2_1.mp q), fun q => b (b2_0.mp q)⟩
theorem bc_c {c A B : Prop} [Decidable c] (a : ¬ c → A) (b : c → B) : (b2 c = 0 → A) ∧ (¬ b2 c = 0 → B) := ⟨fun q => a (b2_0.mp q), fun q => b (b2_1.mp q)⟩
theorem br_nt {c A B : Prop} (h : ¬ c) (a : A) : (¬ c → A) ∧ (c → B) := ⟨fun _ => a, fun q => absurd q h⟩
theorem br_nf {c A B : Prop} (h : c) (b : B) : (¬ c → A) ∧ (c → B) := ⟨fun q => absurd h q, fun _ => b⟩
theorem at_k {X : Cx} {n d : Nat} {K : Option Value → Mem → Prop} (k : Nat) {L : Lc} {st : List Value} {μ : Mem} (h : VW X n d K k L st μ) : VW X n d K k L st μ := h
theorem ckJ {P Q : Prop} (q : Q) (p : P) : ckA P Q := ⟨⟨p, q⟩⟩
theorem vp_c {x : Int32} {n : Nat} (h : (decide (0 ≤ x.toInt) && decide (x.toInt < n)) = true) : vp_in x n := by
  simp only [Bool.and_eq_true, decide_eq_true_eq] at h
  exact vp_in_iff.mpr h
theorem vp_k {x : Int32} {n : Nat} (k : Nat) (hx : x = nI k) (h : k < n) (hn : n < 2147483648) : vp_in x n := by
  rw [hx]; exact vp_in_nI h hn
theorem vp_t {x : Int32} {n : Nat} (h0 : 0 ≤ x.toInt) (h : x.toInt < n) : vp_in x n := vp_in_iff.mpr ⟨h0, h⟩
theorem cl_k {x : Int32} (k : Nat) (hx : x = nI k) (h : k < 2147483648) : x.toNatClampNeg = k := by rw [hx]; exact nI_clamp h
/-- a call that reads: one answer, the memory as it was -/
theorem cl_p {X : Cx} {d m d' : Nat} {as rest : List Value} {μ : Mem} {nx : List Value → Mem → Prop} {E : Value} {ν : Mem} (hc : Nat.ble (csum rest) 8 = true) (hd : d' < d) (hM : Mt X m d' as μ (fun r μ' => r = some E ∧ μ' = ν)) (k : nx (E :: rest) ν) : clc X d m as rest μ nx :=
  cl_i hc hd hM (fun r μ' h => by rw [h.1, h.2]; exact k)
/-- a call without an answer -/
theorem cl_v {X : Cx} {d m d' : Nat} {as rest : List Value} {μ : Mem} {nx : List Value → Mem → Prop} {ν : Mem} (hc : Nat.ble (csum rest) 8 = true) (hd : d' < d) (hM : Mt X m d' as μ (fun r μ' => r = none ∧ μ' = ν)) (k : nx rest ν) : clc X d m as rest μ nx :=
  cl_i hc hd hM (fun r μ' h => by rw [h.1, h.2]; exact k)
theorem of_i {x : Int32} {n : Nat} (h0 : 0 ≤ x.toInt) (h : x.toInt < n) (hn : n ≤ 2147483648) : ∃ k : Nat, k < n ∧ x = nI k := by
  refine ⟨x.toInt.toNat, by omega, ?_⟩
  rw [← Int32.toInt_inj, nI_toInt (by omega)]
  omega
theorem mk_int {x y : Int32} {μ : Mem} (h : x = y) : (some (Value.int x) : Option Value) = some (.int y) ∧ μ = μ := ⟨by rw [h], rfl⟩
def mx (x y : Int32) : Int32 := if x < y then y else x
def mn (x y : Int32) : Int32 := if y < x then y else x
/-- the reference's part of the memory -/
def mp (μ : Mem) : Mem := fun i => μ (70 + i)
theorem wr_same {μ : Mem} {i j : Nat} {x : Int32} : wr μ i j x i j = x := by simp [wr, upd]
theorem wr_ne {μ : Mem} {i j a : Nat} {x : Int32} (h : a ≠ i) : wr μ i j x a = μ a := by simp [wr, h]
theorem wr_at {μ : Mem} {i j : Nat} {x : Int32} : wr μ i j x i = upd (μ i) j x := by simp [wr]
theorem mp_wr {μ : Mem} {i j : Nat} {x : Int32} : mp (wr μ (70 + i) j x) = wr (mp μ) i j x := by
  funext a
  by_cases h : a = i
  · subst h; simp [mp, wr]
  · simp [mp, wr, h]
theorem mp_lo {μ : Mem} {i j : Nat} {x : Int32} (h : i < 70) : mp (wr μ i j x) = mp μ := by
  funext a
  have : 70 + a ≠ i := by omega
  simp [mp, wr, this]
theorem oN_4 : Int32.ofNat 4 = 4 := rfl
theorem oN_6 : Int32.ofNat 6 = 6 := rfl
theorem oN_7 : Int32.ofNat 7 = 7 := rfl
theorem oN_8 : Int32.ofNat 8 = 8 := rfl
theorem oN_20 : Int32.ofNat 20 = 20 := rfl
theorem oN_28 : Int32.ofNat 28 = 28 := rfl
theorem oN_40 : Int32.ofNat 40 = 40 := rfl
theorem oN_49 : Int32.ofNat 49 = 49 := rfl
theorem oN_50 : Int32.ofNat 50 = 50 := rfl
