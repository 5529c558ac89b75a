/-! steps by draws -/
def dz (z : Int32) : Int32 := z * 1103515245 + 12345
def dv (z : Int32) : Int32 := (z.toUInt32 >>> (Int32.toUInt32 8 &&& Int32.toUInt32 31)).toInt32
def d7 (v : Int32) : Int32 := v - v / 7 * 7
theorem dv_rng (z : Int32) : 0 ≤ (dv z).toInt := by
  have h := pk_ushr z 8 8 (by decide)
  have h2 : (dv z).toBitVec.toNat < 2 ^ 31 := by
    unfold dv
    rw [h]
    have := z.toBitVec.isLt
    omega
  show 0 ≤ (dv z).toBitVec.toInt
  rw [BitVec.toInt_eq_toNat_of_lt (by omega)]
  omega
theorem d7_k (z : Int32) : ∃ k, k < 7 ∧ d7 (dv z) = nI k := by
  have h0 := dv_rng z
  have h1 := (dv z).toInt_lt
  obtain ⟨q, hq, e⟩ := of_i (x := dv z) (n := 2147483648) h0 (by omega) (by decide)
  refine ⟨q % 7, Nat.mod_lt _ (by decide), ?_⟩
  unfold d7
  rw [e]
  exact pk_rem (d := 7) (by omega) (by decide) (by decide)
def lsM (N : Nat → Int32) : Nat → Int32 := upd N 3 (dz (dz (N 3)))
abbrev lsC (N : Nat → Int32) : Prop := isT (lsM N) (d7 (dv (dz (N 3)))) ∧ hR (lsM N) (d7 (dv (dz (N 3)))).toInt.toNat (d7 (dv (dz (dz (N 3)))))
def lst (N : Nat → Int32) : Nat → Int32 :=
  if lsC N then upd (gO (lsM N) (d7 (dv (dz (N 3)))).toInt.toNat (d7 (dv (dz (dz (N 3))))).toInt.toNat) 0 (N 0 + 1) else upd (lsM N) 0 (N 0 + 1)
theorem lst_t {N : Nat → Int32} (h : lsC N) : lst N = upd (gO (lsM N) (d7 (dv (dz (N 3)))).toInt.toNat (d7 (dv (dz (dz (N 3))))).toInt.toNat) 0 (N 0 + 1) := if_pos h
theorem lst_f {N : Nat → Int32} (h : ¬ lsC N) : lst N = upd (lsM N) 0 (N 0 + 1) := if_neg h
def lsk (N : Nat → Int32) : Nat → Nat → Int32
  | 0 => N
  | k + 1 => lst (lsk N k)
def lsw (N : Nat → Int32) : Nat → Int32
  | 0 => 0
  | k + 1 => lsw N k + b2 (lsC (lsk N k))
theorem lsw_s {N : Nat → Int32} {k : Nat} : lsw N (k + 1) = lsw N k + b2 (lsC (lsk N k)) := rfl
theorem lsk_s {N : Nat → Int32} {k : Nat} : lsk N (k + 1) = lst (lsk N k) := rfl
theorem WN.dM {N : Nat → Int32} (h : WN N) : WN (lsM N) := WN.cell h (Or.inr rfl) (fun q => absurd q (by decide))
theorem WN.dM2 {N : Nat → Int32} (h : WN N) : WN (upd N 3 (dz (dz (N 3)))) := WN.cell h (Or.inr rfl) (fun q => absurd q (by decide))
theorem WN.dS {N : Nat → Int32} (h : WN N) (h0 : (N 0).toInt < 9999) : WN (lst N) ∧ lst N 0 = N 0 + 1 := by
  have h1 := h.1
  have hu : upto (N 0 + 1) 0 9999 := by
    unfold upto at *
    rw [Int32.toInt_add]
    simp only [Int32.reduceToInt, Int.bmod_def]
    omega
  by_cases hc : lsC N
  · rw [lst_t hc]
    obtain ⟨k, hk, ek⟩ := d7_k (dz (N 3))
    obtain ⟨q, hq, e, hq2⟩ := in_P h.dM hc.2.1
    have hk2 : (d7 (dv (dz (N 3)))).toInt.toNat < 7 := by
      rw [ek, nI_toInt (by omega)]; omega
    have hq3 : (d7 (dv (dz (dz (N 3))))).toInt.toNat < nP (lsM N) := by
      rw [e, nI_toInt (by omega), Int.toNat_natCast]
      exact hq2
    generalize (d7 (dv (dz (N 3)))).toInt.toNat = a at *
    generalize (d7 (dv (dz (dz (N 3))))).toInt.toNat = b at *
    have hM := h.dM
    generalize lsM N = M at *
    exact ⟨WN.cell (WN.go hM hk2 hq3) (Or.inl rfl) (fun _ => hu), upd_eq rfl⟩
  · rw [lst_f hc]
    have hM := h.dM
    generalize lsM N = M at *
    exact ⟨WN.cell hM (Or.inl rfl) (fun _ => hu), upd_eq rfl⟩
theorem WN.dK {N : Nat → Int32} (h : WN N) : ∀ k : Nat, (N 0).toInt + k ≤ 9999 → WN (lsk N k) ∧ (lsk N k 0).toInt = (N 0).toInt + k := by
  have h1 := h.1.1
  intro k
  induction k with
  | zero => intro _; exact ⟨h, (Int.add_zero _).symm⟩
  | succ k ih =>
    intro hk
    obtain ⟨i1, i2⟩ := ih (by omega)
    obtain ⟨j1, j2⟩ := WN.dS i1 (by omega)
    rw [lsk_s]
    refine ⟨j1, ?_⟩
    rw [j2, Int32.toInt_add]
    simp only [Int32.reduceToInt, Int.bmod_def]
    omega
theorem lst_x {M : Nat → Int32} (hM : WN M) : ∃ (z1 z2 v1 v2 : Int32) (tt qq : Nat) (MM : Nat → Int32), dz (M 3) = z1 ∧ dz z1 = z2 ∧ dv z1 = v1 ∧ dv z2 = v2 ∧ tt < 7 ∧ qq < 7 ∧ v1 - v1 / 7 * 7 = nI tt ∧ v2 - v2 / 7 * 7 = nI qq ∧ upd M 3 z2 = MM ∧ WN MM ∧
    (lsC M ↔ (isT MM (v1 - v1 / 7 * 7) ∧ hR MM tt (v2 - v2 / 7 * 7))) ∧ (lsC M → lst M = upd (gO MM tt qq) 0 (M 0 + 1)) ∧ (¬ lsC M → lst M = upd MM 0 (M 0 + 1)) := by
  obtain ⟨tt, htt, et⟩ := d7_k (dz (M 3))
  obtain ⟨qq, hqq, eq⟩ := d7_k (dz (dz (M 3)))
  have ett : (d7 (dv (dz (M 3)))).toInt.toNat = tt := by rw [et, nI_toInt (by omega), Int.toNat_natCast]
  have eqq : (d7 (dv (dz (dz (M 3))))).toInt.toNat = qq := by rw [eq, nI_toInt (by omega), Int.toNat_natCast]
  have h1 := @lst_t M
  have h2 := @lst_f M
  have h3 : lsC M ↔ lsC M := Iff.rfl
  unfold lsC at h1 h2
  rw [ett] at h1 h2
  rw [eqq] at h1
  refine ⟨dz (M 3), dz (dz (M 3)), dv (dz (M 3)), dv (dz (dz (M 3))), tt, qq, lsM M, rfl, rfl, rfl, rfl, htt, hqq, et, eq, rfl, hM.dM, ?_, ?_, ?_⟩
  · unfold lsC
    rw [ett]
    rfl
  · intro h
    unfold lsC at h
    rw [ett] at h
    exact h1 h
  · intro h
    unfold lsC at h
    rw [ett] at h
    exact h2 h
theorem sfsc {μ : Mem} {f g h : Nat → Int32} : sf (sc μ f g) 71 h = sc (sf μ 71 h) f g := by
  funext a
  simp only [sc, sf]
  by_cases h1 : a = 77
  · subst h1; simp
  · by_cases h2 : a = 76
    · subst h2; simp
    · by_cases h3 : a = 71
      · subst h3; simp
      · simp [h1, h2, h3]
def sp_loose (S : Mem) (n : Int32) : Sp := if 1 ≤ n ∧ n ≤ 60 then (if 9999 < S 1 0 + n then (ST, er S 3) else (lsw (S 1) n.toInt.toNat, sf S 1 (lsk (S 1) n.toInt.toNat))) else (BE, er S 1)
theorem hd_m {X : Cx} {n d : Nat} {K : Option Value → Mem → Prop} {k : Nat} {L : Lc} {st : List Value} {μ ν : Mem} (h : VW X n d K k L st ν) (e : μ = ν) : HdP (VW X n d K k L st μ) := by
  subst e
  exact h
