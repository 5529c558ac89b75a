/-! what holds of the reference's state is kept by each call -/
theorem WFS.of {S S' : Mem} (h : WFS S) (e1 : S' 1 = S 1) (e2 : S' 2 = S 2) (e0 : S' 0 20 = S 0 20) (e10 : S' 10 = S 10) (e11 : S' 11 = S 11) : WFS S' := by
  unfold WFS
  rw [e1, e2, e0, e10, e11]
  exact h
theorem WFS.now {S S' : Mem} (h : WFS S) (w : WN (S' 1)) (e2 : S' 2 = S 2) (e0 : S' 0 20 = S 0 20) (e10 : S' 10 = S 10) (e11 : S' 11 = S 11) : WFS S' := by
  unfold WFS
  rw [e2, e0, e10, e11]
  exact ⟨w, h.2⟩
theorem WFS.er {S : Mem} (h : WFS S) (k : Nat) : WFS (er S k) := h.of rfl rfl rfl rfl rfl
theorem WFS.n1 {S : Mem} (h : WFS S) {G : Nat → Int32} (w : WN G) : WFS (sf S 1 G) := h.now w rfl rfl rfl rfl
theorem WFS.w1 {S : Mem} (h : WFS S) {j : Nat} {v : Int32} (w : WN (upd (S 1) j v)) : WFS (wr S 1 j v) := h.now w rfl rfl rfl rfl
def cOk (N : Nat → Int32) (j : Nat) (v : Int32) : Prop :=
  j < 223 ∧ (j < 111 ∨ 153 ≤ j) ∧ (j = 0 → upto v 0 9999) ∧ (j = 1 → upto v 0 7 ∧ (N 1).toInt ≤ v.toInt) ∧ (j = 2 → upto v 0 7 ∧ ∀ t, t < v.toInt.toNat → (tf N t 4).toInt < (N 1).toInt) ∧ (j = 4 → upto v 0 50) ∧ (j = 5 → upto v 0 20) ∧
  (6 ≤ j → j < 13 → upto v 0 99) ∧ (13 ≤ j → j < 62 → upto v 0 99) ∧ (62 ≤ j → j < 111 → upto v 0 9) ∧ (153 ≤ j → j < 203 → upto v 0 255)
theorem WN.up {N : Nat → Int32} (h : WN N) {j : Nat} {v : Int32} (c : cOk N j v) : WN (upd N j v) := by
  obtain ⟨h1, h2, h3, h4, h5, h6, h7, h8, h9, h10, h11, h12, h13⟩ := h
  obtain ⟨c1, c2, c3, c4, c5, c6, c7, c8, c9, c10, c11⟩ := c
  have e : ∀ i, i ≠ j → upd N j v i = N i := fun i hi => upd_ne hi
  have etf : ∀ t f, t < 7 → f < 6 → tf (upd N j v) t f = tf N t f := fun t f ht hf => e _ (by omega)
  refine ⟨?_, ?_, ?_, ?_, ?_, fun i hi => ?_, fun i hi => ?_, fun i hi => ?_, fun s hs => ?_, fun s hs => ?_, fun i hi => ?_, ?_, ?_⟩
  · by_cases q : (0 : Nat) = j
    · rw [upd_eq q]; exact c3 q.symm
    · rw [e _ q]; exact h1
  · by_cases q : (1 : Nat) = j
    · rw [upd_eq q]; exact (c4 q.symm).1
    · rw [e _ q]; exact h2
  · by_cases q : (2 : Nat) = j
    · rw [upd_eq q]; exact (c5 q.symm).1
    · rw [e _ q]; exact h3
  · by_cases q : (4 : Nat) = j
    · rw [upd_eq q]; exact c6 q.symm
    · rw [e _ q]; exact h4
  · by_cases q : (5 : Nat) = j
    · rw [upd_eq q]; exact c7 q.symm
    · rw [e _ q]; exact h5
  · by_cases q : 6 + i = j
    · rw [upd_eq q]; exact c8 (by omega) (by omega)
    · rw [e _ q]; exact h6 i hi
  · by_cases q : 13 + i = j
    · rw [upd_eq q]; exact c9 (by omega) (by omega)
    · rw [e _ q]; exact h7 i hi
  · by_cases q : 62 + i = j
    · rw [upd_eq q]; exact c10 (by omega) (by omega)
    · rw [e _ q]; exact h8 i hi
  · rw [etf s 0 hs (by decide), etf s 1 hs (by decide), etf s 2 hs (by decide), etf s 3 hs (by decide), etf s 4 hs (by decide), etf s 5 hs (by decide)]
    exact h9 s hs
  · by_cases q2 : (2 : Nat) = j
    · have hv := c5 q2.symm
      have hnT : nT (upd N j v) = v.toInt.toNat := by unfold nT; rw [upd_eq q2]
      rw [hnT] at hs
      have hv7 := hv.1.2
      rw [etf s 4 (by omega) (by decide), e 1 (by omega)]
      exact hv.2 s hs
    · have hnT : nT (upd N j v) = nT N := by unfold nT; rw [e 2 q2]
      rw [hnT] at hs
      have h37 := h3.2
      have hs7 : s < 7 := by unfold nT at hs; omega
      rw [etf s 4 hs7 (by decide)]
      by_cases q1 : (1 : Nat) = j
      · rw [upd_eq q1]
        have := (c4 q1.symm).2
        have := h10 s hs
        omega
      · rw [e 1 q1]; exact h10 s hs
  · by_cases q : 153 + i = j
    · rw [upd_eq q]; exact c11 (by omega) (by omega)
    · rw [e _ q]; exact h11 i hi
  · rw [e 223 (by omega)]
    refine ⟨h12.1, ?_⟩
    rw [show (fun i => upd N j v (224 + i)) = fun i => N (224 + i) from funext fun i => e _ (by omega)]
    exact h12.2
  · rw [e 275 (by omega)]
    refine ⟨h13.1, ?_⟩
    rw [show (fun i => upd N j v (276 + i)) = fun i => N (276 + i) from funext fun i => e _ (by omega)]
    exact h13.2
theorem cOk.of {N : Nat → Int32} {j : Nat} {v : Int32} (h1 : j < 223) (h2 : j < 111 ∨ 153 ≤ j) (h3 : 3 ≤ j) (h : (j = 4 → upto v 0 50) ∧ (j = 5 → upto v 0 20) ∧ (6 ≤ j → j < 13 → upto v 0 99) ∧ (13 ≤ j → j < 62 → upto v 0 99) ∧ (62 ≤ j → j < 111 → upto v 0 9) ∧ (153 ≤ j → j < 203 → upto v 0 255)) : cOk N j v :=
  ⟨h1, h2, by omega, by omega, by omega, h⟩
theorem codeOk_c {c c' : Nat → Int32} {n : Nat} (h : codeOk c n) (e : ∀ j, j < n → c' j = c j) : codeOk c' n := by
  have hd : ∀ j, j ≤ n → dep c' j = dep c j := by
    intro j
    induction j with
    | zero => intro _; rfl
    | succ j ih =>
      intro hj
      show itD (c' j) (dep c' j) = itD (c j) (dep c j)
      rw [ih (by omega), e j (by omega)]
  intro j hj
  rw [e j hj, hd j (by omega)]
  exact h j hj
theorem WN_cpf {N M : Nat → Int32} (h : WN N) : WN (cpf N M 327) := by
  obtain ⟨h1, h2, h3, h4, h5, h6, h7, h8, h9, h10, h11, h12, h13⟩ := h
  have k : ∀ j, j < 327 → cpf N M 327 j = N j := fun j hj => cpf_lt hj
  have b12 := h12.1.2
  have b13 := h13.1.2
  have b3 := h3.2
  have etf : ∀ t f, t < 7 → f < 6 → tf (cpf N M 327) t f = tf N t f := fun t f ht hf => k _ (by omega)
  refine ⟨by rw [k 0 (by omega)]; exact h1, by rw [k 1 (by omega)]; exact h2, by rw [k 2 (by omega)]; exact h3, by rw [k 4 (by omega)]; exact h4, by rw [k 5 (by omega)]; exact h5, fun i hi => by rw [k _ (by omega)]; exact h6 i hi, fun i hi => by rw [k _ (by omega)]; exact h7 i hi, fun i hi => by rw [k _ (by omega)]; exact h8 i hi, fun s hs => ?_, fun s hs => ?_, fun i hi => by rw [k _ (by omega)]; exact h11 i hi, ?_, ?_⟩
  · rw [etf s 0 hs (by decide), etf s 1 hs (by decide), etf s 2 hs (by decide), etf s 3 hs (by decide), etf s 4 hs (by decide), etf s 5 hs (by decide)]
    exact h9 s hs
  · have hnT : nT (cpf N M 327) = nT N := by unfold nT; rw [k 2 (by omega)]
    rw [hnT] at hs
    have hs7 : s < 7 := by unfold nT at hs; omega
    rw [etf s 4 hs7 (by decide), k 1 (by omega)]
    exact h10 s hs
  · rw [k 223 (by omega)]
    exact ⟨h12.1, codeOk_c h12.2 fun j hj => k _ (by omega)⟩
  · rw [k 275 (by omega)]
    exact ⟨h13.1, codeOk_c h13.2 fun j hj => k _ (by omega)⟩
theorem apd_lo : ∀ (L : List Int32) (r : Nat → Int32) (tr j : Nat), j < tr → apd r tr L j = r j := by
  intro L
  induction L with
  | nil => intro r tr j _; rfl
  | cons b L ih =>
    intro r tr j hj
    show apd (upd r tr b) (tr + 1) L j = r j
    rw [ih _ _ _ (by omega), upd_ne (by omega)]
theorem lok_code (c : Nat → Int32) : ∀ (L : List Int32) (r : Nat → Int32) (tr : Nat), c = apd r tr L → lok L (dep c tr) → ∀ j, tr ≤ j → j < tr + L.length → itOk (c j) (dep c j) := by
  intro L
  induction L with
  | nil => intro r tr _ _ j h1 h2; simp only [List.length_nil] at h2; omega
  | cons b L ih =>
    intro r tr hc hl j h1 h2
    have hb : c tr = b := by
      rw [hc]
      show apd (upd r tr b) (tr + 1) L tr = b
      rw [apd_lo _ _ _ _ (by omega), upd_eq rfl]
    rcases Nat.eq_or_lt_of_le h1 with rfl | h1
    · rw [hb]; exact hl.1
    · have hd : dep c (tr + 1) = itD b (dep c tr) := by
        show itD (c tr) (dep c tr) = _
        rw [hb]
      refine ih (upd r tr b) (tr + 1) hc ?_ j (by omega) (by simp only [List.length_cons] at h2; omega)
      rw [hd]
      exact hl.2
theorem WN.text {N : Nat → Int32} (h : WN N) {u : Nat} (hu : u < 2) {L : List Int32} (hL : L.length ≤ 50) (hx : lok L 0) : WN (txN N u L) := by
  have hc : codeOk (fun j => apd (fun _ => 0) 0 L j) L.length := by
    intro j hj
    exact lok_code (apd (fun _ => 0) 0 L) L (fun _ => 0) 0 rfl hx j (by omega) (by omega)
  have h' : WN (upd N 4 0) := h.up (cOk.of (by decide) (by decide) (by decide) ⟨fun _ => ⟨by decide, by decide⟩, by omega, by omega, by omega, by omega, by omega⟩)
  obtain ⟨h1, h2, h3, h4, h5, h6, h7, h8, h9, h10, h11, h12, h13⟩ := h'
  unfold txN
  generalize upd N 4 0 = M at *
  have w : ∀ i, i < 223 + 52 * u ∨ 274 + 52 * u ≤ i → tcp (upd M (223 + 52 * u) (nI L.length)) (224 + 52 * u) L i = M i := fun i hi => by rw [tcp_ne (by omega), upd_ne (by omega)]
  have w0 : tcp (upd M (223 + 52 * u) (nI L.length)) (224 + 52 * u) L (223 + 52 * u) = nI L.length := by rw [tcp_ne (by omega), upd_eq rfl]
  have w1 : ∀ j, j < L.length → tcp (upd M (223 + 52 * u) (nI L.length)) (224 + 52 * u) L (224 + 52 * u + j) = apd (fun _ => 0) 0 L j := by
    intro j hj
    unfold tcp
    rw [if_pos (by omega)]
    congr 1
    omega
  have tl : (nI L.length).toInt.toNat = L.length := by rw [nI_toInt (by omega), Int.toNat_natCast]
  have b3 := h3.2
  have b12 := h12.1.2
  have b13 := h13.1.2
  generalize tcp (upd M (223 + 52 * u) (nI L.length)) (224 + 52 * u) L = G at *
  have etf : ∀ t f, t < 7 → f < 6 → tf G t f = tf M t f := fun t f ht hf => w _ (by omega)
  have old : ∀ q : Nat, q < 2 → q ≠ u → G (223 + 52 * q) = M (223 + 52 * q) ∧ ∀ j, j < 50 → G (224 + 52 * q + j) = M (224 + 52 * q + j) := fun q hq hqu => ⟨w _ (by omega), fun j hj => w _ (by omega)⟩
  refine ⟨by rw [w 0 (by omega)]; exact h1, by rw [w 1 (by omega)]; exact h2, by rw [w 2 (by omega)]; exact h3, by rw [w 4 (by omega)]; exact h4, by rw [w 5 (by omega)]; exact h5, fun i hi => by rw [w _ (by omega)]; exact h6 i hi, fun i hi => by rw [w _ (by omega)]; exact h7 i hi, fun i hi => by rw [w _ (by omega)]; exact h8 i hi, fun s hs => ?_, fun s hs => ?_, fun i hi => by rw [w _ (by omega)]; exact h11 i hi, ?_, ?_⟩
  · rw [etf s 0 hs (by decide), etf s 1 hs (by decide), etf s 2 hs (by decide), etf s 3 hs (by decide), etf s 4 hs (by decide), etf s 5 hs (by decide)]
    exact h9 s hs
  · have hnT : nT G = nT M := by unfold nT; rw [w 2 (by omega)]
    rw [hnT] at hs
    have hs7 : s < 7 := by unfold nT at hs; omega
    rw [etf s 4 hs7 (by decide), w 1 (by omega)]
    exact h10 s hs
  · rcases u with _ | _ | u
    · rw [show G 223 = nI L.length from w0, tl]
      exact ⟨upto_nI (n := 50) hL (by decide), codeOk_c hc fun j hj => w1 j hj⟩
    · rw [w 223 (by omega)]
      exact ⟨h12.1, codeOk_c h12.2 fun j hj => w _ (by omega)⟩
    · omega
  · rcases u with _ | _ | u
    · rw [w 275 (by omega)]
      exact ⟨h13.1, codeOk_c h13.2 fun j hj => w _ (by omega)⟩
    · rw [show G 275 = nI L.length from w0, tl]
      exact ⟨upto_nI (n := 50) hL (by decide), codeOk_c hc fun j hj => w1 j hj⟩
    · omega
theorem fsn_bef {p : Nat → Prop} [DecidablePred p] : ∀ j k r, fsn p j k = r → ∀ i, k ≤ i → i < r → p i := by
  intro j
  induction j with
  | zero => intro k r h i h1 h2; simp only [fsn] at h; omega
  | succ j ih =>
    intro k r h i h1 h2
    by_cases hp : p k
    · rw [fsn_t hp] at h
      rcases Nat.eq_or_lt_of_le h1 with rfl | h1
      · exact hp
      · exact ih (k + 1) r h i (by omega) h2
    · rw [fsn_f hp] at h
      omega
theorem WN_mkf {N Q : Nat → Int32} (h : WN N) {s : Nat} : ∀ k, (∀ j, j < k → mkp N Q s j) → k ≤ 40 → WN (mkf N Q s k) := by
  intro k
  induction k with
  | zero => intro _ _; exact h
  | succ k ih =>
    intro hp hk
    have hw := ih (fun j hj => hp j (by omega)) (by omega)
    obtain ⟨hT, hv⟩ := hp k (by omega)
    have hk7 := isT_7 h (by omega) hT
    simp only [Int32.le_iff_toInt_le, Int32.reduceToInt] at hv
    exact WN.tale hw hk7 (f := 2) (by decide) ⟨by omega, by omega, fun _ => hv, by omega, by omega, by omega⟩
theorem WN_fdf {N : Nat → Int32} (h : WN N) {w : Int64} : ∀ k, (N 4).toInt.toNat + k ≤ 50 → WN (fdf N w k) := by
  intro k
  induction k with
  | zero => intro _; exact h
  | succ k ih =>
    intro hk
    have hw := ih (by omega)
    have hb : upto (byt w k) 0 255 := by
      have key : ∀ b : Int64, upto (b &&& 255).toInt32 0 255 := by
        intro b
        have h1 : (b &&& 255).toInt32.toBitVec = (b.toBitVec &&& 255#64).signExtend 32 := rfl
        have h2 : ((b.toBitVec &&& 255#64).signExtend 32).toNat = b.toBitVec.toNat % 256 := by
          rw [BitVec.toNat_signExtend]
          have hm : (b.toBitVec &&& 255#64).msb = false := by
            rw [BitVec.msb_and]
            rw [show (255#64).msb = false from by decide, Bool.and_false]
          rw [hm]
          have ha : (b.toBitVec &&& 255#64).toNat = b.toBitVec.toNat % 256 := by
            rw [BitVec.toNat_and]
            exact Nat.and_two_pow_sub_one_eq_mod b.toBitVec.toNat 8
          simp only [BitVec.toNat_setWidth, ha]
          simp
          omega
        have hlt := Nat.mod_lt b.toBitVec.toNat (show 0 < 256 by decide)
        show 0 ≤ ((b &&& 255).toInt32.toBitVec).toInt ∧ ((b &&& 255).toInt32.toBitVec).toInt ≤ 255
        rw [h1, BitVec.toInt_eq_toNat_of_lt (by rw [h2]; omega), h2]
        omega
      exact key _
    show WN (upd (upd (fdf N w k) (153 + (N 4).toInt.toNat + k) (byt w k)) 4 (nI ((N 4).toInt.toNat + k + 1)))
    refine (hw.up (cOk.of (by omega) (by omega) (by omega) ⟨by omega, by omega, by omega, by omega, by omega, fun _ _ => hb⟩)).up (cOk.of (by decide) (by decide) (by decide) ⟨fun _ => upto_nI (n := 50) (by omega) (by decide), by omega, by omega, by omega, by omega, by omega⟩)
