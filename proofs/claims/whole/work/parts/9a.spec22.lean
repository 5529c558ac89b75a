/-! rows copied by the machine's own arraycopy -/
theorem ac_8 : Jvm.Cond.methodLink (cnm 8) 285 arraycopyName ∈ gt := gm4 46 rfl (by decide +kernel)
theorem ac_7 : Jvm.Cond.methodLink (cnm 7) 54 arraycopyName ∈ gt := gm4 75 rfl (by decide +kernel)
theorem ac_st : Jvm.Cond.static arraycopyName ∈ gt := gm4 47 rfl (by decide +kernel)
theorem ac_na : Jvm.Cond.native arraycopyName ∈ gt := gm4 48 rfl (by decide +kernel)
theorem ac_in : Jvm.Cond.initialized "java/lang/System" ∈ gt := gm1 17 rfl (by decide +kernel)
theorem wld_sf {X : Cx} {μ : Mem} {i : Nat} {f : Nat → Int32} {ty : FieldType} {N : Nat} (hsh : shL[i]? = some (.inr (.inl (ty, N)))) : (wld X μ).set i (xad X i, .inl (xA X ty, N, .inl f)) = wld X (sf μ i f) := by
  apply List.ext_getElem?
  intro k
  by_cases hk : k = i
  · subst hk
    rw [wld_at hsh, List.getElem?_set_self]
    · simp only [ent, sf_at]
    · simp [wld]
      exact (List.getElem?_eq_some_iff.mp hsh).1
  · rw [List.getElem?_set_ne (Ne.symm hk)]
    cases hs : shL[k]? with
    | none => simp [wld, hs]
    | some t =>
      rw [wld_at hs, wld_at hs]
      have e2 : sf μ i f k = μ k := sf_ne hk
      have e1 : ent X (sf μ i f) k t = ent X μ k t := by
        rcases t with ⟨ci, fs⟩ | ⟨ty, n⟩ | ⟨C, ids⟩
        · simp only [ent]
          have e3 : fld (xad X) (sf μ i f) k = fld (xad X) μ k := by
            funext a q
            cases q with
            | none => simp only [fld]; rw [e2]
            | some r => rfl
          rw [e3]
        · simp only [ent]; rw [e2]
        · rfl
      rw [e1]
theorem VW_cpy {X : Cx} {n d k : Nat} {K : Option Value → Mem → Prop} {L : Lc} {r : List Value} {μ : Mem} {ix i j n0 n1 : Nat} {sp dp c : Int32} (hi : shL[i]? = some (.inr (.inl (.int, n0)))) (hj : shL[j]? = some (.inr (.inl (.int, n1))))
    (h1 : ¬ sp < 0) (h2 : ¬ dp < 0) (h3 : ¬ c < 0) (h4 : sp.toNatClampNeg + c.toNatClampNeg ≤ n0) (h5 : dp.toNatClampNeg + c.toNatClampNeg ≤ n1) (hl : Jvm.Cond.methodLink (cnm (mO n)) ix arraycopyName ∈ gt) (hd : 1 ≤ d) (hc : csum r ≤ 8)
    (D : decode (mB n) (pcA n k) = .ok (.invokestatic ix, 3)) (hpc : pcA n (k + 1) = pcA n k + 3) (h : VW X n d K (k + 1) L r (sf μ j (va_cpy (μ i) (μ j) sp.toNatClampNeg dp.toNatClampNeg c.toNatClampNeg))) : VW X n d K k L (.int c :: .int dp :: .ref j :: .int sp :: .ref i :: r) μ := by
  obtain ⟨⟨g1⟩⟩ := h
  refine ⟨⟨?_⟩⟩
  intro p e R s m args below meth cd H locs cells slots A Q ls F hP hS hl2 hR
  obtain ⟨hx, hb, hml, hown, hts, hE, hA, hr1, hr2, hr3, hr4⟩ := id F
  have hD := wld_D (μ := μ) hE.2.1 hA
  refine va_copyi hx hb (by rw [hml, hl2.1]) hown (hts _ hl) (hts _ ac_na) (hts _ ac_st) (hts _ ac_in) hE.1 hP hD hS i j 0 0 (wld_at (X := X) (μ := μ) hi) (wld_at (X := X) (μ := μ) hj) tys_int tys_int rfl h1 h2 h3 h4 h5 (fun _ _ => rfl) (by omega) ?_ D ?_
  · rw [csum_map]
    have : nativeFrameWords "java/lang/System" "arraycopy" 5 = 7 := by decide
    omega
  · intro H1 locs1 hP1 _ hS1
    rw [wld_sf hj] at hP1
    have h9 := g1 p e R s m args below meth cd H1 locs1 cells slots A Q ls F hP1 hS1 hl2 hR
    rw [hpc] at h9
    exact h9
theorem cpy_cpf {f g : Nat → Int32} {n : Nat} : va_cpy f g 0 0 n = cpf f g n := by
  funext j
  unfold va_cpy cpf
  by_cases h : j < n
  · rw [if_pos ⟨Nat.zero_le _, by omega⟩, if_pos h]
    congr 1
    omega
  · rw [if_neg (by omega), if_neg h]
theorem sw_sf {μ : Mem} {i j : Nat} {x : Int32} : wr μ i j x = sf μ i (upd (μ i) j x) := by
  funext b
  by_cases hb : b = i
  · subst hb; simp [wr, sf]
  · simp [wr, sf, hb]
/-- a row taken over: its size and its numbers -/
def rtk (μ : Mem) (a q k : Nat) : Mem := sf (sf μ a (upd (μ a) 1 (nI k))) (a + 1) (cpf (μ (q + 1)) (μ (a + 1)) k)
theorem rtk_0 {μ : Mem} {a q : Nat} : wr μ a 1 0 = rtk μ a q 0 := by
  unfold rtk
  rw [cpf_0, sw_sf]
  funext b
  by_cases hb : b = a + 1
  · subst hb; rw [sf_at, sf_ne (by omega)]
  · rw [sf_ne hb]; rfl
theorem rtk_s {μ : Mem} {a q k : Nat} : wr (wr (rtk μ a q k) (a + 1) k (μ (q + 1) k)) a 1 (nI (k + 1)) = rtk μ a q (k + 1) := by
  funext b
  by_cases hb : b = a
  · subst hb
    rw [wr_at, wr_ne (by omega)]
    unfold rtk
    rw [sf_ne (by omega), sf_at, sf_ne (by omega), sf_at, upd_upd]
  · rw [wr_ne hb]
    by_cases hb2 : b = a + 1
    · subst hb2
      rw [wr_at]
      unfold rtk
      rw [sf_at, sf_at, cpf_s]
    · rw [wr_ne hb2]
      unfold rtk
      rw [sf_ne hb2, sf_ne hb2, sf_ne hb, sf_ne hb]
theorem rtk_a {μ : Mem} {a q k : Nat} : rtk μ a q k a = upd (μ a) 1 (nI k) := by
  unfold rtk
  rw [sf_ne (by omega), sf_at]
theorem rtk_b {μ : Mem} {a q k : Nat} : rtk μ a q k (a + 1) = cpf (μ (q + 1)) (μ (a + 1)) k := by
  unfold rtk
  rw [sf_at]
theorem rtk_ne {μ : Mem} {a q k b : Nat} (h1 : b ≠ a) (h2 : b ≠ a + 1) : rtk μ a q k b = μ b := by
  unfold rtk
  rw [sf_ne h2, sf_ne h1]
theorem cpf_lt {f g : Nat → Int32} {k j : Nat} (h : j < k) : cpf f g k j = f j := by
  unfold cpf
  rw [if_pos h]
/-- the first k tales from c on taken over -/
def tkw (μ : Mem) (b c k : Nat) : Mem := fun i => if b ≤ i ∧ i < b + k then cpf (μ (c + (i - b))) (μ i) 6 else μ i
theorem tkw_0 {μ : Mem} {b c : Nat} : tkw μ b c 0 = μ := by
  funext i
  unfold tkw
  rw [if_neg (by omega)]
theorem tkw_s {μ : Mem} {b c k : Nat} (h : c + 7 ≤ b ∨ b + 7 ≤ c) (hk : k < 7) : sf (tkw μ b c k) (b + k) (cpf (tkw μ b c k (c + k)) (tkw μ b c k (b + k)) 6) = tkw μ b c (k + 1) := by
  have e1 : tkw μ b c k (c + k) = μ (c + k) := by
    unfold tkw
    rw [if_neg (by omega)]
  have e2 : tkw μ b c k (b + k) = μ (b + k) := by
    unfold tkw
    rw [if_neg (by omega)]
  rw [e1, e2]
  funext i
  by_cases hi : i = b + k
  · subst hi
    rw [sf_at]
    unfold tkw
    rw [if_pos (by omega)]
    congr 2
    omega
  · rw [sf_ne hi]
    unfold tkw
    by_cases h2 : b ≤ i ∧ i < b + k
    · rw [if_pos h2, if_pos (by omega)]
    · rw [if_neg h2, if_neg (by omega)]
theorem wr6 {μ : Mem} {a b : Nat} (h : a ≠ b) : wr (wr (wr (wr (wr (wr μ a 0 (μ b 0)) a 1 (μ b 1)) a 2 (μ b 2)) a 3 (μ b 3)) a 4 (μ b 4)) a 5 (μ b 5) = sf μ a (cpf (μ b) (μ a) 6) := by
  funext i
  by_cases hi : i = a
  · subst hi
    rw [sf_at]
    simp only [wr_at]
    funext f
    unfold cpf
    simp only [upd]
    rcases f with _ | _ | _ | _ | _ | _ | f
    · rfl
    · rfl
    · rfl
    · rfl
    · rfl
    · rfl
    · have h6 : ¬ f + 1 + 1 + 1 + 1 + 1 + 1 < 6 := by omega
      simp only [h6, if_false]
      repeat' split
      all_goals first | rfl | omega
  · rw [sf_ne hi]
    simp only [wr_ne hi]
theorem shT2 {k : Nat} (h : k < 7) : shL[30 + k]? = some (.inl (3, [none, none, none, none, none, none])) := by
  rcases k with _ | _ | _ | _ | _ | _ | _ | k <;> first | rfl | omega
theorem l7b {k r : Nat} (h : ([30, 31, 32, 33, 34, 35, 36] : List Nat)[k]? = some r) : r = 30 + k := by
  have hk : k < 7 := by
    rcases Nat.lt_or_ge k 7 with q | q
    · exact q
    · rw [List.getElem?_eq_none (by simpa using q)] at h; exact absurd h (by simp)
  rcases k with _ | _ | _ | _ | _ | _ | _ | k <;> first | (simp at h; omega) | omega
theorem rcT2 {k : Nat} (h : k < 7) : rcv (30 + k) 22 := ⟨_, shT2 h⟩
