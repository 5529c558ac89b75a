theorem VW_cp0 {X : Cx} {n d k : Nat} {K : Option Value → Mem → Prop} {L : Lc} {r : List Value} {μ : Mem} {ix i j n0 n1 : Nat} {sp dp c : Int32} (m : Nat) (hi : shL[i]? = some (.inr (.inl (.int, n0)))) (hj : shL[j]? = some (.inr (.inl (.int, n1))))
    (h1 : sp = 0) (h2 : dp = 0) (h3 : c = nI m) (h4 : m ≤ n0) (h5 : m ≤ n1) (hm : m < 2147483648) (hl : Jvm.Cond.methodLink (cnm (mO n)) ix arraycopyName ∈ gt) (hd : 1 ≤ d) (hc : csum r ≤ 8)
    (D : decode (mB n) (pcA n k) = .ok (.invokestatic ix, 3)) (hpc : pcA n (k + 1) = pcA n k + 3) (h : VW X n d K (k + 1) L r (sf μ j (cpf (μ i) (μ j) m))) : VW X n d K k L (.int c :: .int dp :: .ref j :: .int sp :: .ref i :: r) μ := by
  subst h1 h2 h3
  have e0 : (0 : Int32).toNatClampNeg = 0 := by decide
  refine VW_cpy hi hj (by decide) (by decide) (nI_pos (by omega)) (by rw [e0, nI_clamp (by omega)]; omega) (by rw [e0, nI_clamp (by omega)]; omega) hl hd hc D hpc ?_
  rw [e0, nI_clamp (by omega), cpy_cpf]
  exact h
theorem VW_cpN {X : Cx} {n d k : Nat} {K : Option Value → Mem → Prop} {L : Lc} {r : List Value} {μ : Mem} {ix i j n0 n1 : Nat} (s t m : Nat) (hi : shL[i]? = some (.inr (.inl (.int, n0)))) (hj : shL[j]? = some (.inr (.inl (.int, n1))))
    (h4 : s + m ≤ n0) (h5 : t + m ≤ n1) (hn0 : n0 < 1000) (hn1 : n1 < 1000) (hl : Jvm.Cond.methodLink (cnm (mO n)) ix arraycopyName ∈ gt) (hd : 1 ≤ d) (hc : csum r ≤ 8)
    (D : decode (mB n) (pcA n k) = .ok (.invokestatic ix, 3)) (hpc : pcA n (k + 1) = pcA n k + 3) (h : VW X n d K (k + 1) L r (sf μ j (va_cpy (μ i) (μ j) s t m))) : VW X n d K k L (.int (nI m) :: .int (nI t) :: .ref j :: .int (nI s) :: .ref i :: r) μ := by
  refine VW_cpy hi hj (nI_pos (by omega)) (nI_pos (by omega)) (nI_pos (by omega)) (by rw [nI_clamp (by omega), nI_clamp (by omega)]; omega) (by rw [nI_clamp (by omega), nI_clamp (by omega)]; omega) hl hd hc D hpc ?_
  rw [nI_clamp (by omega), nI_clamp (by omega), nI_clamp (by omega)]
  exact h
theorem tk_rw {N : Nat → Int32} {ν : Mem} {b c n1 n2 n3 n4 : Nat} (hbc : c + 24 ≤ b ∨ b + 24 ≤ c) (hR : RW N ν c) (e1 : N 223 = nI n1) (h1 : n1 ≤ 50) (e2 : N 275 = nI n2) (h2 : n2 ≤ 50) (e3 : N 4 = nI n3) (h3 : n3 ≤ 50) (e4 : N 5 = nI n4) (h4 : n4 ≤ 20)
    (F1 : ∀ j, j < 7 → ν (b + 1) j = N (6 + j)) (F2 : ∀ j, j < 49 → ν (b + 2) j = N (13 + j)) (F3 : ∀ j, j < 49 → ν (b + 3) j = N (62 + j)) (F5 : ∀ t, t < 7 → ∀ f, f < 6 → ν (b + 5 + t) f = N (111 + 6 * t + f)) :
    RW N (wr (wr (wr (wr (rtk (rtk (rtk (rtk ν (b + 13) (c + 13) n1) (b + 17) (c + 17) n2) (b + 20) (c + 20) n3) (b + 22) (c + 22) n4) b 8 (N 1)) b 9 (N 2)) b 10 (N 0)) b 11 (N 3)) b := by
  obtain ⟨-, -, -, -, -, ⟨b1, b2_⟩, ⟨c1, c2⟩, ⟨d1, d2⟩, ⟨e1_, e2_⟩⟩ := hR
  have t1 : (N 223).toInt.toNat = n1 := by rw [e1, nI_toInt (by omega), Int.toNat_natCast]
  have t2 : (N 275).toInt.toNat = n2 := by rw [e2, nI_toInt (by omega), Int.toNat_natCast]
  have t3 : (N 4).toInt.toNat = n3 := by rw [e3, nI_toInt (by omega), Int.toNat_natCast]
  have t4 : (N 5).toInt.toNat = n4 := by rw [e4, nI_toInt (by omega), Int.toNat_natCast]
  rw [t1] at d2
  rw [t2] at e2_
  rw [t3] at b2_
  rw [t4] at c2
  have w : ∀ i, i ≠ b → wr (wr (wr (wr (rtk (rtk (rtk (rtk ν (b + 13) (c + 13) n1) (b + 17) (c + 17) n2) (b + 20) (c + 20) n3) (b + 22) (c + 22) n4) b 8 (N 1)) b 9 (N 2)) b 10 (N 0)) b 11 (N 3) i = rtk (rtk (rtk (rtk ν (b + 13) (c + 13) n1) (b + 17) (c + 17) n2) (b + 20) (c + 20) n3) (b + 22) (c + 22) n4 i := by
    intro i hi
    rw [wr_ne hi, wr_ne hi, wr_ne hi, wr_ne hi]
  have u : ∀ i, i ≠ b + 13 → i ≠ b + 14 → i ≠ b + 17 → i ≠ b + 18 → i ≠ b + 20 → i ≠ b + 21 → i ≠ b + 22 → i ≠ b + 23 → rtk (rtk (rtk (rtk ν (b + 13) (c + 13) n1) (b + 17) (c + 17) n2) (b + 20) (c + 20) n3) (b + 22) (c + 22) n4 i = ν i := by
    intro i a1 a2 a3 a4 a5 a6 a7 a8
    rw [rtk_ne a7 a8, rtk_ne a5 a6, rtk_ne a3 a4, rtk_ne a1 a2]
  refine ⟨⟨?_, ?_, ?_, ?_⟩, fun j hj => ?_, fun j hj => ?_, fun j hj => ?_, fun t ht f hf => ?_, ⟨?_, fun j hj => ?_⟩, ⟨?_, fun j hj => ?_⟩, ⟨?_, fun j hj => ?_⟩, ⟨?_, fun j hj => ?_⟩⟩
  · simp only [wr_at, upd]; rfl
  · simp only [wr_at, upd]; rfl
  · simp only [wr_at, upd]; rfl
  · simp only [wr_at, upd]; rfl
  · rw [w _ (by omega), u _ (by omega) (by omega) (by omega) (by omega) (by omega) (by omega) (by omega) (by omega)]; exact F1 j hj
  · rw [w _ (by omega), u _ (by omega) (by omega) (by omega) (by omega) (by omega) (by omega) (by omega) (by omega)]; exact F2 j hj
  · rw [w _ (by omega), u _ (by omega) (by omega) (by omega) (by omega) (by omega) (by omega) (by omega) (by omega)]; exact F3 j hj
  · rw [w _ (by omega), u _ (by omega) (by omega) (by omega) (by omega) (by omega) (by omega) (by omega) (by omega)]; exact F5 t ht f hf
  · rw [w _ (by omega), rtk_ne (by omega) (by omega), rtk_a, upd_eq rfl, e3]
  · rw [t3] at hj
    rw [w _ (by omega), rtk_ne (by omega) (by omega), show b + 21 = b + 20 + 1 from rfl, rtk_b, cpf_lt hj, rtk_ne (by omega) (by omega), rtk_ne (by omega) (by omega)]
    exact b2_ j hj
  · rw [w _ (by omega), rtk_a, upd_eq rfl, e4]
  · rw [t4] at hj
    rw [w _ (by omega), show b + 23 = b + 22 + 1 from rfl, rtk_b, cpf_lt hj, rtk_ne (by omega) (by omega), rtk_ne (by omega) (by omega), rtk_ne (by omega) (by omega)]
    exact c2 j hj
  · rw [w _ (by omega), rtk_ne (by omega) (by omega), rtk_ne (by omega) (by omega), rtk_ne (by omega) (by omega), rtk_a, upd_eq rfl, e1]
  · rw [t1] at hj
    rw [w _ (by omega), rtk_ne (by omega) (by omega), rtk_ne (by omega) (by omega), rtk_ne (by omega) (by omega), show b + 14 = b + 13 + 1 from rfl, rtk_b, cpf_lt hj]
    exact d2 j hj
  · rw [w _ (by omega), rtk_ne (by omega) (by omega), rtk_ne (by omega) (by omega), rtk_a, upd_eq rfl, e2]
  · rw [t2] at hj
    rw [w _ (by omega), rtk_ne (by omega) (by omega), rtk_ne (by omega) (by omega), show b + 18 = b + 17 + 1 from rfl, rtk_b, cpf_lt hj, rtk_ne (by omega) (by omega)]
    exact e2_ j hj
/-- the copies of arrays and tales -/
def tk1 (μ : Mem) (b c : Nat) : Mem := sf (sf (sf μ (b + 1) (cpf (μ (c + 1)) (μ (b + 1)) 7)) (b + 2) (cpf (μ (c + 2)) (μ (b + 2)) 49)) (b + 3) (cpf (μ (c + 3)) (μ (b + 3)) 49)
theorem tk1_ne {μ : Mem} {b c i : Nat} (h1 : i ≠ b + 1) (h2 : i ≠ b + 2) (h3 : i ≠ b + 3) : tk1 μ b c i = μ i := by
  unfold tk1
  rw [sf_ne h3, sf_ne h2, sf_ne h1]
theorem tkw_ne {μ : Mem} {b c k i : Nat} (h : i < b ∨ b + k ≤ i) : tkw μ b c k i = μ i := by
  unfold tkw
  rw [if_neg (by omega)]
theorem tk2_F {N : Nat → Int32} {μ : Mem} {b c : Nat} (hbc : c + 24 ≤ b ∨ b + 24 ≤ c) (hR : RW N μ c) : RW N (tkw (tk1 μ b c) (b + 5) (c + 5) 7) c ∧ (∀ j, j < 7 → tkw (tk1 μ b c) (b + 5) (c + 5) 7 (b + 1) j = N (6 + j)) ∧ (∀ j, j < 49 → tkw (tk1 μ b c) (b + 5) (c + 5) 7 (b + 2) j = N (13 + j)) ∧ (∀ j, j < 49 → tkw (tk1 μ b c) (b + 5) (c + 5) 7 (b + 3) j = N (62 + j)) ∧ (∀ t, t < 7 → ∀ f, f < 6 → tkw (tk1 μ b c) (b + 5) (c + 5) 7 (b + 5 + t) f = N (111 + 6 * t + f)) := by
  refine ⟨hR.of fun i h1 h2 => ?_, fun j hj => ?_, fun j hj => ?_, fun j hj => ?_, fun t ht f hf => ?_⟩
  · rw [tkw_ne (by omega), tk1_ne (by omega) (by omega) (by omega)]
  · rw [tkw_ne (by omega)]
    unfold tk1
    rw [sf_ne (by omega), sf_ne (by omega), sf_at, cpf_lt hj]
    exact hR.2.1 j hj
  · rw [tkw_ne (by omega)]
    unfold tk1
    rw [sf_ne (by omega), sf_at, cpf_lt hj]
    exact hR.2.2.1 j hj
  · rw [tkw_ne (by omega)]
    unfold tk1
    rw [sf_at, cpf_lt hj]
    exact hR.2.2.2.1 j hj
  · unfold tkw
    rw [if_pos (by omega), cpf_lt hf, show c + 5 + (b + 5 + t - (b + 5)) = c + 5 + t by omega, tk1_ne (by omega) (by omega) (by omega)]
    exact hR.2.2.2.2.1 t ht f hf
theorem RW_cpf {N M : Nat → Int32} {μ : Mem} {b : Nat} (hW : WN N) (h : RW N μ b) : RW (cpf N M 327) μ b := by
  have k : ∀ j, j < 327 → cpf N M 327 j = N j := fun j hj => cpf_lt hj
  have w4 := hW.2.2.2.1.2
  have w5 := hW.2.2.2.2.1.2
  have w6 := hW.2.2.2.2.2.2.2.2.2.2.2.1.1.2
  have w7 := hW.2.2.2.2.2.2.2.2.2.2.2.2.1.2
  obtain ⟨⟨a1, a2, a3, a4⟩, g2, g3, g4, g5, ⟨b1, b2_⟩, ⟨c1, c2⟩, ⟨d1, d2⟩, ⟨e1_, e2_⟩⟩ := h
  unfold RW
  rw [k 0 (by omega), k 1 (by omega), k 2 (by omega), k 3 (by omega), k 4 (by omega), k 5 (by omega), k 223 (by omega), k 275 (by omega)]
  refine ⟨⟨a1, a2, a3, a4⟩, fun j hj => by rw [k _ (by omega)]; exact g2 j hj, fun j hj => by rw [k _ (by omega)]; exact g3 j hj, fun j hj => by rw [k _ (by omega)]; exact g4 j hj, fun t ht f hf => by rw [k _ (by omega)]; exact g5 t ht f hf, ⟨b1, fun j hj => ?_⟩, ⟨c1, fun j hj => ?_⟩, ⟨d1, fun j hj => ?_⟩, ⟨e1_, fun j hj => ?_⟩⟩
  · rw [k _ (by omega)]; exact b2_ j hj
  · rw [k _ (by omega)]; exact c2 j hj
  · rw [k _ (by omega)]; exact d2 j hj
  · rw [k _ (by omega)]; exact e2_ j hj
theorem RC.img {S μ μ' : Mem} (h : RC S μ) {x : Int32} {G : Nat → Int32} (hw : RW G μ' 25) (e : ∀ i, i < 25 ∨ 49 ≤ i → μ' i = μ i) : RC (wr (sf S 2 G) 0 2 x) (wr μ' 0 7 x) := by
  obtain ⟨h1, h2, h31, h32, h33, h34⟩ := h
  have e7 : ∀ i, i ≠ 0 → wr μ' 0 7 x i = μ' i := fun i hi => wr_ne hi
  have u : ∀ i, i ≠ 0 → i ≠ 2 → wr (sf S 2 G) 0 2 x i = S i := fun i a b => by rw [wr_ne a, sf_ne b]
  refine ⟨?_, Or.inr ?_, ?_, ?_, ?_, ?_⟩
  · rw [u 1 (by decide) (by decide)]
    exact h1.of fun i a b => by rw [e7 i (by omega), e i (by omega)]
  · rw [wr_ne (by decide), sf_at]
    exact hw.of fun i a b => e7 i (by omega)
  · rw [e7 69 (by decide), e 69 (by omega), u 3 (by decide) (by decide)]
    exact h31
  · rw [wr_same, wr_same]
  · rw [e7 58 (by decide), e7 59 (by decide), e 58 (by omega), e 59 (by omega), wr_wr (by decide), sf_ne (by decide), u 9 (by decide) (by decide)]
    exact h33
  · intro s hs
    rw [e7 _ (by omega), e7 _ (by omega), e _ (by omega), e _ (by omega), u 10 (by decide) (by decide), u 11 (by decide) (by decide), u 12 (by decide) (by decide)]
    exact h34 s hs
