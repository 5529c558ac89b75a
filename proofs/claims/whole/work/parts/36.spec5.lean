theorem sc_id {μ : Mem} : μ = sc μ (μ 76) (μ 77) := by
  funext a
  simp only [sc, sf]
  by_cases h : a = 77
  · simp [h]
  · by_cases h2 : a = 76 <;> simp [h, h2]
theorem cl_g {X : Cx} {d m d' : Nat} {as rest : List Value} {μ : Mem} {nx : List Value → Mem → Prop} {E : Option Value} {ν : (Nat → Int32) → (Nat → Int32) → Mem} (hc : Nat.ble (csum rest) 8 = true) (hd : d' < d) (hM : Mt X m d' as μ (fun r μ' => ∃ f g, r = E ∧ μ' = ν f g)) (k : ∀ f g, nx (E.toList ++ rest) (ν f g)) : clc X d m as rest μ nx :=
  cl_i hc hd hM (fun r μ' h => by obtain ⟨f, g, h1, h2⟩ := h; rw [h1, h2]; exact k f g)
theorem i_nlt {a b : Int32} (h : ¬ a < b) : b ≤ a := by
  simp only [Int32.lt_iff_toInt_lt, Int32.le_iff_toInt_le] at *; omega
theorem i_lt {a b : Int32} (h : a < b) : ¬ b ≤ a := by
  simp only [Int32.lt_iff_toInt_lt, Int32.le_iff_toInt_le] at *; omega
theorem i_nle {a b : Int32} (h : ¬ a ≤ b) : b < a := by
  simp only [Int32.lt_iff_toInt_lt, Int32.le_iff_toInt_le] at *; omega
abbrev hR (N : Nat → Int32) (t : Nat) (v : Int32) : Prop := isP N v ∧ 0 < yd N (tf N t 4).toInt.toNat v.toInt.toNat
theorem at_k7 {N : Nat → Int32} (h : WN N) {t : Nat} (ht : t < 7) : ∃ k, k < 7 ∧ tf N t 4 = nI k ∧ (tf N t 4).toInt.toNat = k := by
  obtain ⟨k, hk, e⟩ := of_upto (n := 6) (h.2.2.2.2.2.2.2.2.1 t ht).2.2.2.2.1 (by decide)
  exact ⟨k, by omega, e, by rw [e, nI_toInt (by omega), Int.toNat_natCast]⟩
theorem ex_sc0 {μ : Mem} {P : Prop} (h : P) : ∃ f g, P ∧ μ = sc μ f g := ⟨_, _, h, sc_id⟩
theorem ex_sc1 {μ : Mem} {P : Prop} {f g : Nat → Int32} (h : P) : ∃ f' g', P ∧ sc μ f g = sc μ f' g' := ⟨_, _, h, rfl⟩
theorem scw {μ : Mem} {f g : Nat → Int32} {j : Nat} {x : Int32} : wr (sc μ f g) 71 j x = sc (sf μ 71 (upd (μ 71) j x)) f g := by
  funext a
  simp only [sc, sf, wr]
  by_cases h : a = 77
  · subst h; simp
  · by_cases h2 : a = 76
    · subst h2; simp
    · by_cases h3 : a = 71
      · subst h3; simp
      · simp [h, h2, h3]
theorem sc_71 {μ : Mem} {f g : Nat → Int32} : sc μ f g 71 = μ 71 := rfl
theorem sf_sf {μ : Mem} {i : Nat} {f g : Nat → Int32} : sf (sf μ i f) i g = sf μ i g := by
  funext a
  by_cases h : a = i <;> simp [sf, h]
theorem Pm9.ofs {μ ν : Mem} {f g : Nat → Int32} {p : Sp} {x : Int32} (hp : p = (x, mp ν)) (hl : ∀ i, i < 70 → ν i = μ i) : Pm9 μ p (some (.int x)) (sc ν f g) := by
  subst hp
  refine ⟨⟨rfl, ⟨rfl, rfl, rfl, rfl, rfl, rfl, rfl, rfl, rfl⟩, fun i hi => ?_⟩⟩
  rw [← hl i hi]
  show sf (sf ν 76 f) 77 g i = ν i
  rw [sf_ne (by omega), sf_ne (by omega)]
def bA (N : Nat → Int32) (q : Nat) : Int32 := fol (fun k a => a + b2 (nB N k q)) (nT N) 0
def fmA (N : Nat → Int32) (q : Nat) : Int32 := fol (fun k a => a + b2 (tf N k 4 = nI q ∧ nB N k q)) (nT N) 0
def bAll (N : Nat → Int32) : Int32 := fol (fun k a => a + b2 (nB N k (tf N k 4).toInt.toNat)) (nT N) 0
def gS (N : Nat → Int32) (t to : Nat) : Nat → Int32 := upd (gO N t to) 0 (N 0 + 1)
def sp_go (S : Mem) (t v : Int32) : Sp := if isT (S 1) t then (if isP (S 1) v then (if hR (S 1) t.toInt.toNat v then (if S 1 0 = 9999 then (ST, er S 3) else (b2 (nB (gS (S 1) t.toInt.toNat v.toInt.toNat) t.toInt.toNat v.toInt.toNat), sf S 1 (gS (S 1) t.toInt.toNat v.toInt.toNat))) else (ST, er S 3)) else (BE, er S 1)) else (BE, er S 1)
def sp_ofTale (S : Mem) (t w : Int32) : Sp := if isT (S 1) t then (if 0 ≤ w ∧ w ≤ 6 then (if w = 6 then (b2 (nB (S 1) t.toInt.toNat (tf (S 1) t.toInt.toNat 4).toInt.toNat), S) else (tf (S 1) t.toInt.toNat w.toInt.toNat, S)) else (BE, er S 1)) else (BE, er S 1)
def sp_ofPlace (S : Mem) (v w : Int32) : Sp := if isP (S 1) v then (if 0 ≤ w ∧ w ≤ 2 then (if w = 0 then (S 1 (6 + v.toInt.toNat), S) else if w = 1 then (atp (S 1) v, S) else (fmA (S 1) v.toInt.toNat, S)) else (BE, er S 1)) else (BE, er S 1)
theorem Pm9.of71 {μ ν : Mem} {p : Sp} {x : Int32} {N : Nat → Int32} (hp : p = (x, sf (mp μ) 1 N)) (h1 : ν 71 = N) (hr : ∀ i, i ≠ 71 → i ≠ 76 → i ≠ 77 → ν i = μ i) : Pm9 μ p (some (.int x)) ν := by
  subst hp
  subst h1
  refine ⟨⟨rfl, ⟨rfl, ?_, ?_, ?_, ?_, ?_, ?_, ?_, ?_⟩, fun i hi => hr i (by omega) (by omega) (by omega)⟩⟩
  all_goals first | exact hr _ (by decide) (by decide) (by decide) | exact congrFun (hr 70 (by decide) (by decide) (by decide)) _
theorem Pm9.of0 {μ ν : Mem} {p : Sp} {x : Int32} (hp : p = (x, mp μ)) (hr : ∀ i, i ≠ 76 → i ≠ 77 → ν i = μ i) : Pm9 μ p (some (.int x)) ν := by
  subst hp
  refine ⟨⟨rfl, ⟨?_, ?_, ?_, ?_, ?_, ?_, ?_, ?_, ?_⟩, fun i hi => hr i (by omega) (by omega)⟩⟩
  all_goals first | exact hr _ (by decide) (by decide) | exact congrFun (hr 70 (by decide) (by decide)) _
theorem gO_0 {N : Nat → Int32} {t to : Nat} : gO N t to 0 = N 0 := by
  unfold gO
  rw [upd_ne (by omega), upd_ne (by omega), upd_ne (by omega), upd_ne (by omega)]
theorem WN.gs {N : Nat → Int32} (h : WN N) {t to : Nat} (ht : t < 7) (hto : to < nP N) (h0 : ¬ N 0 = 9999) : WN (gS N t to) := by
  refine WN.cell (h.go ht hto) (Or.inl rfl) fun _ => ?_
  have h1 := h.1
  simp only [upto, ← Int32.toInt_inj, Int32.reduceToInt] at *
  rw [Int32.toInt_add]
  simp only [Int32.reduceToInt, Int.bmod_def]
  omega
theorem mp_eta {μ : Mem} : mp μ 1 = μ 71 := rfl
theorem hd_k {X : Cx} {n d : Nat} {K : Option Value → Mem → Prop} (k : Nat) {L : Lc} {st : List Value} {μ : Mem} (h : VW X n d K k L st μ) : HdP (VW X n d K k L st μ) := h
