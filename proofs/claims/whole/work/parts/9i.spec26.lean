/-! prices that are lowered road by road -/
def lst1 (N : Nat → Int32) (a i : Nat) (P : Nat → Int32) : Nat → Int32 := if 0 < yd N a i then upd P i (mn (P i) (P a + tl N a i * 1000 + yd N a i)) else P
def lwr (N : Nat → Int32) (a : Nat) (P : Nat → Int32) (n : Nat) : Nat → Int32 := fol (fun i P => lst1 N a i P) n P
def rnd (N : Nat → Int32) (P : Nat → Int32) (n : Nat) : Nat → Int32 := fol (fun a P => lwr N a P (nP N)) n P
def bmf (N : Nat → Int32) (P : Nat → Int32) (k : Nat) : Nat → Int32 := fol (fun _ P => rnd N P (nP N)) k P
def okP (P : Nat → Int32) : Prop := ∀ i, i < 7 → 0 ≤ (P i).toInt ∧ (P i).toInt ≤ 1000000
def leP (P Q : Nat → Int32) : Prop := ∀ i, i < 7 → (P i).toInt ≤ (Q i).toInt
def sdP (N : Nat → Int32) (s : Nat) (P : Nat → Int32) : Prop := ∀ i, i < nP N → (P i).toInt = 1000000 ∨ ∃ L, pv N s L ∧ pend s L = i ∧ (P i).toInt = pc N s L
theorem lst1_ok {N : Nat → Int32} (hW : WN N) {s a i : Nat} (ha : a < nP N) (hi : i < nP N) {P : Nat → Int32} (hP : okP P) (hS : sdP N s P) : okP (lst1 N a i P) ∧ leP (lst1 N a i P) P ∧ sdP N s (lst1 N a i P) ∧ (0 < yd N a i → (lst1 N a i P i).toInt ≤ (P a).toInt + wgt N a i) := by
  have h7 := nP_7 hW
  by_cases hy : 0 < yd N a i
  · obtain ⟨w1, w2, w3, w4, w5, w6⟩ := wgt_rng hW (a := a) (b := i) (by omega) (by omega) hy
    have hw : wgt N a i = 1000 * (tl N a i).toInt + (yd N a i).toInt := rfl
    have hPa := hP a (by omega)
    have hPi := hP i (by omega)
    have e0 : (tl N a i * 1000).toInt = (tl N a i).toInt * 1000 := by
      rw [Int32.toInt_mul]
      simp only [Int32.reduceToInt, Int.bmod_def]
      omega
    have e1 : (P a + tl N a i * 1000 + yd N a i).toInt = (P a).toInt + wgt N a i := by
      rw [t_add (by rw [t_add (by omega) (by omega)]; omega) (by rw [t_add (by omega) (by omega)]; omega), t_add (by omega) (by omega)]
      omega
    have e2 : (mn (P i) (P a + tl N a i * 1000 + yd N a i)).toInt = min (P i).toInt ((P a).toInt + wgt N a i) := by rw [mn_toInt, e1]
    have hu : lst1 N a i P = upd P i (mn (P i) (P a + tl N a i * 1000 + yd N a i)) := if_pos hy
    rw [hu]
    generalize mn (P i) (P a + tl N a i * 1000 + yd N a i) = v at e2 ⊢
    refine ⟨fun k hk => ?_, fun k hk => ?_, fun k hk => ?_, fun _ => ?_⟩
    · by_cases hki : k = i
      · subst hki; rw [upd_eq rfl]; omega
      · rw [upd_ne hki]; exact hP k hk
    · by_cases hki : k = i
      · subst hki; rw [upd_eq rfl]; omega
      · rw [upd_ne hki]; exact Int.le_refl _
    · by_cases hki : k = i
      · subst hki
        rw [upd_eq rfl]
        by_cases hle : (P k).toInt ≤ (P a).toInt + wgt N a k
        · rcases hS k hk with h | ⟨L, l1, l2, l3⟩
          · exact Or.inl (by omega)
          · exact Or.inr ⟨L, l1, l2, by omega⟩
        · rcases hS a ha with h | ⟨L, l1, l2, l3⟩
          · exact absurd hle (by omega)
          · obtain ⟨m1, m2, m3⟩ := pv_snoc (N := N) hk L s l1 (by rw [l2]; exact hy)
            refine Or.inr ⟨L ++ [k], m1, m2, ?_⟩
            rw [m3, l2]
            omega
      · rw [upd_ne hki]; exact hS k hk
    · rw [upd_eq rfl]; omega
  · have hu : lst1 N a i P = P := if_neg hy
    rw [hu]
    exact ⟨hP, fun k hk => Int.le_refl _, hS, fun h => absurd h hy⟩
theorem lwr_ok {N : Nat → Int32} (hW : WN N) {s a : Nat} (ha : a < nP N) {P : Nat → Int32} (hP : okP P) (hS : sdP N s P) : ∀ n, n ≤ nP N → okP (lwr N a P n) ∧ leP (lwr N a P n) P ∧ sdP N s (lwr N a P n) ∧ ∀ q, q < n → 0 < yd N a q → (lwr N a P n q).toInt ≤ (P a).toInt + wgt N a q := by
  have h7 := nP_7 hW
  intro n
  induction n with
  | zero => intro _; exact ⟨hP, fun k hk => Int.le_refl _, hS, fun q hq => absurd hq (by omega)⟩
  | succ n ih =>
    intro hn
    obtain ⟨i1, i2, i3, i4⟩ := ih (by omega)
    obtain ⟨j1, j2, j3, j4⟩ := lst1_ok hW (s := s) ha (i := n) (by omega) i1 i3
    have e : lwr N a P (n + 1) = lst1 N a n (lwr N a P n) := rfl
    rw [e]
    refine ⟨j1, fun k hk => Int.le_trans (j2 k hk) (i2 k hk), j3, fun q hq hy => ?_⟩
    rcases Nat.lt_succ_iff_lt_or_eq.mp hq with h | h
    · exact Int.le_trans (j2 q (by omega)) (i4 q h hy)
    · subst h
      have := j4 hy
      have := i2 a (by omega)
      omega
theorem rnd_ok {N : Nat → Int32} (hW : WN N) {s : Nat} {P : Nat → Int32} (hP : okP P) (hS : sdP N s P) : ∀ n, n ≤ nP N → okP (rnd N P n) ∧ leP (rnd N P n) P ∧ sdP N s (rnd N P n) ∧ ∀ a q, a < n → q < nP N → 0 < yd N a q → (rnd N P n q).toInt ≤ (P a).toInt + wgt N a q := by
  have h7 := nP_7 hW
  intro n
  induction n with
  | zero => intro _; exact ⟨hP, fun k hk => Int.le_refl _, hS, fun a q ha => absurd ha (by omega)⟩
  | succ n ih =>
    intro hn
    obtain ⟨i1, i2, i3, i4⟩ := ih (by omega)
    obtain ⟨j1, j2, j3, j4⟩ := lwr_ok hW (s := s) (a := n) (by omega) i1 i3 (nP N) (Nat.le_refl _)
    have e : rnd N P (n + 1) = lwr N n (rnd N P n) (nP N) := rfl
    rw [e]
    refine ⟨j1, fun k hk => Int.le_trans (j2 k hk) (i2 k hk), j3, fun a q ha hq hy => ?_⟩
    rcases Nat.lt_succ_iff_lt_or_eq.mp ha with h | h
    · exact Int.le_trans (j2 q (by omega)) (i4 a q h hq hy)
    · subst h
      have := j4 q hq hy
      have := i2 a (by omega)
      omega
theorem bmf_ok {N : Nat → Int32} (hW : WN N) {s : Nat} {P : Nat → Int32} (hP : okP P) (hS : sdP N s P) : ∀ k, okP (bmf N P k) ∧ sdP N s (bmf N P k) ∧ (∀ j, j ≤ k → leP (bmf N P k) (bmf N P j)) ∧ ∀ a q, a < nP N → q < nP N → 0 < yd N a q → (bmf N P (k + 1) q).toInt ≤ (bmf N P k a).toInt + wgt N a q := by
  have h7 := nP_7 hW
  intro k
  have st : ∀ k, okP (bmf N P k) → sdP N s (bmf N P k) → okP (bmf N P (k + 1)) ∧ leP (bmf N P (k + 1)) (bmf N P k) ∧ sdP N s (bmf N P (k + 1)) ∧ ∀ a q, a < nP N → q < nP N → 0 < yd N a q → (bmf N P (k + 1) q).toInt ≤ (bmf N P k a).toInt + wgt N a q := fun k h1 h2 => rnd_ok hW h1 h2 (nP N) (Nat.le_refl _)
  induction k with
  | zero =>
    refine ⟨hP, hS, fun j hj => ?_, (st 0 hP hS).2.2.2⟩
    obtain rfl : j = 0 := by omega
    exact fun i hi => Int.le_refl _
  | succ k ih =>
    obtain ⟨i1, i2, i3, i4⟩ := ih
    obtain ⟨j1, j2, j3, j4⟩ := st k i1 i2
    refine ⟨j1, j3, fun j hj => ?_, (st (k + 1) j1 j3).2.2.2⟩
    rcases Nat.eq_or_lt_of_le hj with rfl | h
    · exact fun i hi => Int.le_refl _
    · exact fun i hi => Int.le_trans (j2 i hi) (i3 j (by omega) i hi)
theorem bmf_way {N : Nat → Int32} (hW : WN N) {s : Nat} {P : Nat → Int32} (hP : okP P) (hS : sdP N s P) : ∀ (L : List Nat) (a m : Nat), a < nP N → pv N a L → (bmf N P (m + L.length) (pend a L)).toInt ≤ (bmf N P m a).toInt + pc N a L := by
  intro L
  induction L with
  | nil => intro a m _ _; show (bmf N P m a).toInt ≤ (bmf N P m a).toInt + 0; omega
  | cons q M ih =>
    intro a m ha hv
    have h1 := (bmf_ok hW hP hS m).2.2.2 a q ha hv.1 hv.2.1
    have h2 := ih q (m + 1) hv.1 hv.2.2
    show (bmf N P (m + (M.length + 1)) (pend q M)).toInt ≤ (bmf N P m a).toInt + (wgt N a q + pc N q M)
    rw [show m + (M.length + 1) = m + 1 + M.length by omega]
    omega
theorem hb_1 : ∀ s, s < 7 → ∀ x, x < 7 → hb (sh1 s) x → x = s := by decide +kernel
theorem bm_gw {N : Nat → Int32} (hW : WN N) {s to : Nat} (hs : s < nP N) (hto : to < nP N) {P : Nat → Int32} (h0 : P s = 0) (h1 : ∀ i, i < 7 → i ≠ s → P i = 1000000) :
    ∃ d : Int32 × Int32, gw N to 6 s (sh1 s).toInt.toNat 0 0 (-1, -1) = d ∧ ((d.1.toInt < 0 ∧ (bmf N P (nP N - 1) to).toInt = 1000000) ∨ (∃ T Y : Nat, T ≤ 54 ∧ Y ≤ 594 ∧ d = (nI T, nI Y) ∧ bmf N P (nP N - 1) to = nI (1000 * T + Y))) := by
  have h7 := nP_7 hW
  refine ⟨_, rfl, ?_⟩
  have hP : okP P := by
    intro i hi
    by_cases his : i = s
    · rw [his, h0]; decide
    · rw [h1 i hi his]; decide
  have hS : sdP N s P := by
    intro i hi
    by_cases his : i = s
    · refine Or.inr ⟨[], trivial, his.symm, ?_⟩
      rw [his, h0]; rfl
    · rw [h1 i (by omega) his]; exact Or.inl (by decide)
  obtain ⟨u1, u2, u3⟩ := un_1 s (by omega)
  have hpp : nI (sh1 s).toInt.toNat = sh1 s := i_nat u1
  obtain ⟨g1, g2, g3, g4⟩ := gw_sp hW (to := to) 6 s (sh1 s).toInt.toNat 0 0 (-1, -1) (Nat.le_refl _) (by omega) (by omega) u3 (by decide) (by decide) (by decide) (by decide) (Or.inl (by decide))
  generalize gw N to 6 s (sh1 s).toInt.toNat 0 0 (-1, -1) = d at *
  have hv : vc ((-1, -1) : Int32 × Int32) = 1000000000 := by decide
  rw [hv] at g2 g3
  obtain ⟨b1, b2, b3, -⟩ := bmf_ok hW hP hS (nP N - 1)
  have hb := b1 to (by omega)
  have z0 : (0 : Int32).toInt = 0 := rfl
  rw [z0] at g3 g4
  have A : vc d < 1000000000 → (bmf N P (nP N - 1) to).toInt ≤ vc d := by
    intro h
    rcases g3 with g3 | ⟨L, l1, l2, l3⟩
    · omega
    · obtain ⟨B, c1, c2, c3, c4⟩ := pv_free hW L s hs l1
      have hlen := nodup_len (nP N) (s :: B) c2 (fun x hx => by
        rcases List.mem_cons.mp hx with rfl | hx
        · exact hs
        · exact pv_lt B s c1 x hx)
      have hl : B.length ≤ nP N - 1 := by
        simp only [List.length_cons] at hlen
        omega
      have k1 := bmf_way hW hP hS B s 0 hs c1
      rw [Nat.zero_add, c3, l2] at k1
      have k2 := b3 B.length hl to (by omega)
      have k3 : (bmf N P 0 s).toInt = 0 := by show (P s).toInt = 0; rw [h0]; rfl
      omega
  have Bd : (bmf N P (nP N - 1) to).toInt < 1000000 → vc d ≤ (bmf N P (nP N - 1) to).toInt := by
    intro h
    rcases b2 to hto with hh | ⟨L, l1, l2, l3⟩
    · omega
    · obtain ⟨B, c1, c2, c3, c4⟩ := pv_free hW L s hs l1
      have := g4 B c1 (c3.trans l2) c2 (fun x hx hbx => by
        rw [hpp] at hbx
        have hx7 := pv_lt B s c1 x hx
        have := hb_1 s (by omega) x (by omega) hbx
        subst this
        exact (List.nodup_cons.mp c2).1 hx)
      omega
  rcases g1 with hneg | ⟨t1, t2, t3, t4⟩
  · left
    refine ⟨hneg, ?_⟩
    have e : vc d = 1000000000 := by unfold vc; rw [if_pos hneg]
    rcases Int.lt_or_le (bmf N P (nP N - 1) to).toInt 1000000 with h | h
    · have := Bd h
      omega
    · omega
  · right
    have e : vc d = 1000 * d.1.toInt + d.2.toInt := by unfold vc; rw [if_neg (by omega)]
    have k1 := A (by omega)
    have k2 := Bd (by omega)
    obtain ⟨T, hT, eT⟩ := of_i (x := d.1) (n := 55) t1 (by omega) (by decide)
    obtain ⟨Y, hY, eY⟩ := of_i (x := d.2) (n := 595) t3 (by omega) (by decide)
    refine ⟨T, Y, by omega, by omega, by rw [← eT, ← eY], ?_⟩
    rw [eT, eY, nI_toInt (by omega), nI_toInt (by omega)] at e
    rw [← Int32.toInt_inj, nI_toInt (by omega)]
    omega
