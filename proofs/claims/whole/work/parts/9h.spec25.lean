/-! ways, and what they cost -/
def wgt (N : Nat → Int32) (a b : Nat) : Int := 1000 * (tl N a b).toInt + (yd N a b).toInt
def pc (N : Nat → Int32) : Nat → List Nat → Int
  | _, [] => 0
  | a, q :: M => wgt N a q + pc N q M
def pv (N : Nat → Int32) : Nat → List Nat → Prop
  | _, [] => True
  | a, q :: M => q < nP N ∧ 0 < yd N a q ∧ pv N q M
def pend : Nat → List Nat → Nat
  | a, [] => a
  | _, q :: M => pend q M
theorem pend_mem : ∀ (L : List Nat) (a : Nat), pend a L ∈ a :: L := by
  intro L
  induction L with
  | nil => intro a; exact List.mem_cons_self
  | cons q M ih => intro a; exact List.mem_cons_of_mem _ (ih q)
theorem pv_lt {N : Nat → Int32} : ∀ (L : List Nat) (a : Nat), pv N a L → ∀ x ∈ L, x < nP N := by
  intro L
  induction L with
  | nil => intro a _ x hx; exact absurd hx (by simp)
  | cons q M ih =>
    intro a h x hx
    rcases List.mem_cons.mp hx with rfl | hx
    · exact h.1
    · exact ih q h.2.2 x hx
theorem pv_snoc {N : Nat → Int32} {b : Nat} (hb : b < nP N) : ∀ (L : List Nat) (a : Nat), pv N a L → 0 < yd N (pend a L) b → pv N a (L ++ [b]) ∧ pend a (L ++ [b]) = b ∧ pc N a (L ++ [b]) = pc N a L + wgt N (pend a L) b := by
  intro L
  induction L with
  | nil =>
    intro a _ h
    refine ⟨⟨hb, h, trivial⟩, rfl, ?_⟩
    show wgt N a b + 0 = 0 + wgt N a b
    omega
  | cons q M ih =>
    intro a h hy
    obtain ⟨h1, h2, h3⟩ := ih q h.2.2 hy
    refine ⟨⟨h.1, h.2.1, h1⟩, h2, ?_⟩
    show wgt N a q + pc N q (M ++ [b]) = wgt N a q + pc N q M + wgt N (pend q M) b
    rw [h3]
    omega
theorem wgt_rng {N : Nat → Int32} (h : WN N) {a b : Nat} (ha : a < 7) (hb : b < 7) (hy : 0 < yd N a b) : 1 ≤ wgt N a b ∧ wgt N a b ≤ 9099 ∧ 1 ≤ (yd N a b).toInt ∧ (yd N a b).toInt ≤ 99 ∧ 0 ≤ (tl N a b).toInt ∧ (tl N a b).toInt ≤ 9 := by
  have h1 := yd_rng h ha hb
  have h2 : upto (tl N a b) 0 9 := by
    have := h.2.2.2.2.2.2.2.1 (7 * a + b) (by omega)
    unfold tl
    rw [Nat.add_assoc]
    exact this
  have h3 := h1.2
  have h4 := h2.1
  have h5 := h2.2
  simp only [Int32.lt_iff_toInt_lt, Int32.reduceToInt] at hy
  unfold wgt
  omega
/-- a way without a place twice, and no dearer -/
theorem pv_drop {N : Nat → Int32} (h : WN N) {a : Nat} : ∀ (L : List Nat) (q : Nat), q < nP N → pv N q L → a ∈ q :: L → (q :: L).Nodup → ∃ B, pv N a B ∧ (a :: B).Nodup ∧ pend a B = pend q L ∧ pc N a B ≤ pc N q L ∧ ∀ x ∈ B, x ∈ L := by
  intro L
  induction L with
  | nil =>
    intro q hq hv ha hn
    have : a = q := by simpa using ha
    subst this
    exact ⟨[], trivial, hn, rfl, by omega, fun x hx => hx⟩
  | cons r M ih =>
    intro q hq hv ha hn
    by_cases haq : a = q
    · subst haq
      exact ⟨r :: M, hv, hn, rfl, by omega, fun x hx => hx⟩
    · have ha2 : a ∈ r :: M := (List.mem_cons.mp ha).resolve_left haq
      obtain ⟨B, h1, h2, h3, h4, h5⟩ := ih r hv.1 hv.2.2 ha2 (List.nodup_cons.mp hn).2
      have h7 := nP_7 h
      have hr := hv.1
      have hw := (wgt_rng h (a := q) (b := r) (by omega) (by omega) hv.2.1).1
      refine ⟨B, h1, h2, h3, ?_, fun x hx => List.mem_cons_of_mem _ (h5 x hx)⟩
      show pc N a B ≤ wgt N q r + pc N r M
      omega
theorem pv_free {N : Nat → Int32} (h : WN N) : ∀ (L : List Nat) (a : Nat), a < nP N → pv N a L → ∃ B, pv N a B ∧ (a :: B).Nodup ∧ pend a B = pend a L ∧ pc N a B ≤ pc N a L := by
  intro L
  induction L with
  | nil => intro a _ _; exact ⟨[], trivial, by simp, rfl, by omega⟩
  | cons q M ih =>
    intro a ha hv
    have h7 := nP_7 h
    obtain ⟨B, h1, h2, h3, h4⟩ := ih q hv.1 hv.2.2
    have hq := hv.1
    have hw := (wgt_rng h (a := a) (b := q) (by omega) (by omega) hv.2.1).1
    by_cases haq : a ∈ q :: B
    · obtain ⟨C, g1, g2, g3, g4, -⟩ := pv_drop h B q hv.1 h1 haq h2
      refine ⟨C, g1, g2, g3.trans h3, ?_⟩
      show pc N a C ≤ wgt N a q + pc N q M
      omega
    · refine ⟨q :: B, ⟨hv.1, hv.2.1, h1⟩, List.nodup_cons.mpr ⟨haq, h2⟩, h3, ?_⟩
      show wgt N a q + pc N q B ≤ wgt N a q + pc N q M
      omega
theorem nodup_len : ∀ (n : Nat) (L : List Nat), L.Nodup → (∀ x ∈ L, x < n) → L.length ≤ n := by
  intro n
  induction n with
  | zero =>
    intro L _ h
    cases L with
    | nil => exact Nat.le_refl _
    | cons a M => exact absurd (h a List.mem_cons_self) (by omega)
  | succ n ih =>
    intro L hn h
    by_cases hm : n ∈ L
    · have h1 := ih (L.erase n) (hn.erase n) (fun x hx => by
        have h2 := (List.Nodup.mem_erase_iff hn).mp hx
        have h3 := h x h2.2
        have h4 : x ≠ n := h2.1
        omega)
      rw [List.length_erase_of_mem hm] at h1
      omega
    · have h1 := ih L hn (fun x hx => by
        have h3 := h x hx
        have h4 : x ≠ n := fun e => hm (e ▸ hx)
        omega)
      omega
/-! the reference's search gives the least of all ways without a place twice -/
def okc (c : Int32 × Int32) : Prop := c.1.toInt < 0 ∨ (0 ≤ c.1.toInt ∧ c.1.toInt ≤ 54 ∧ 0 ≤ c.2.toInt ∧ c.2.toInt ≤ 594)
def vc (c : Int32 × Int32) : Int := if c.1.toInt < 0 then 1000000000 else 1000 * c.1.toInt + c.2.toInt
theorem hb_or : ∀ q, q < 7 → ∀ p, p < 128 → ∀ x, x < 7 → hb (nI p ||| sh1 q) x → hb (nI p) x ∨ x = q := by decide +kernel
theorem gw_at {t y : Int32} {c : Int32 × Int32} (ht : 0 ≤ t.toInt ∧ t.toInt ≤ 54) (hy : 0 ≤ y.toInt ∧ y.toInt ≤ 594) (hc : okc c) : okc (if (c.1 < 0 ∨ t < c.1) ∨ (t = c.1 ∧ y < c.2) then (t, y) else c) ∧ vc (if (c.1 < 0 ∨ t < c.1) ∨ (t = c.1 ∧ y < c.2) then (t, y) else c) = min (vc c) (1000 * t.toInt + y.toInt) := by
  have e1 : vc (t, y) = 1000 * t.toInt + y.toInt := by
    unfold vc
    rw [if_neg (by show ¬ t.toInt < 0; omega)]
  by_cases h : (c.1 < 0 ∨ t < c.1) ∨ (t = c.1 ∧ y < c.2)
  · rw [if_pos h, e1]
    refine ⟨Or.inr ⟨ht.1, ht.2, hy.1, hy.2⟩, ?_⟩
    simp only [Int32.lt_iff_toInt_lt, ← Int32.toInt_inj, Int32.reduceToInt] at h
    unfold vc okc at *
    split <;> omega
  · rw [if_neg h]
    refine ⟨hc, ?_⟩
    simp only [Int32.lt_iff_toInt_lt, ← Int32.toInt_inj, Int32.reduceToInt] at h
    unfold vc okc at *
    split <;> omega
def gwP (N : Nat → Int32) (to a p : Nat) (t y : Int32) (c d : Int32 × Int32) : Prop :=
  okc d ∧ vc d ≤ vc c ∧ (vc d = vc c ∨ ∃ L, pv N a L ∧ pend a L = to ∧ vc d = 1000 * t.toInt + y.toInt + pc N a L) ∧ (∀ L, pv N a L → pend a L = to → (a :: L).Nodup → (∀ x ∈ L, ¬ hb (nI p) x) → vc d ≤ 1000 * t.toInt + y.toInt + pc N a L)
theorem gw_sp {N : Nat → Int32} (hW : WN N) {to : Nat} : ∀ j a p t y c, j ≤ 6 → a < 7 → p < 128 → un p ≤ j → 0 ≤ t.toInt → t.toInt + 9 * (j : Int) ≤ 54 → 0 ≤ y.toInt → y.toInt + 99 * (j : Int) ≤ 594 → okc c → gwP N to a p t y c (gw N to j a p t y c) := by
  intro j
  have hend : ∀ (a : Nat) (p : Nat) (t y : Int32) (c : Int32 × Int32), 0 ≤ t.toInt → t.toInt ≤ 54 → 0 ≤ y.toInt → y.toInt ≤ 594 → okc c → gwP N a a p t y c (if (c.1 < 0 ∨ t < c.1) ∨ (t = c.1 ∧ y < c.2) then (t, y) else c) := by
    intro a p t y c h1 h2 h3 h4 hc
    obtain ⟨g1, g2⟩ := gw_at ⟨h1, h2⟩ ⟨h3, h4⟩ hc
    refine ⟨g1, by omega, ?_, ?_⟩
    · by_cases h : vc c ≤ 1000 * t.toInt + y.toInt
      · exact Or.inl (by omega)
      · refine Or.inr ⟨[], trivial, rfl, ?_⟩
        show _ = 1000 * t.toInt + y.toInt + 0
        omega
    · intro L hv he hn _
      cases L with
      | nil => show _ ≤ 1000 * t.toInt + y.toInt + 0; omega
      | cons q M =>
        have hm := pend_mem M q
        rw [show pend q M = a from he] at hm
        exact absurd hm (List.nodup_cons.mp hn).1
  induction j with
  | zero =>
    intro a p t y c hj ha hp hu h1 h2 h3 h4 hc
    by_cases hat : a = to
    · subst hat
      rw [gw_to]
      exact hend a p t y c h1 (by omega) h3 (by omega) hc
    · rw [gw_0 hat]
      refine ⟨hc, Int.le_refl _, Or.inl rfl, ?_⟩
      intro L hv he hn hx
      cases L with
      | nil => exact absurd he hat
      | cons q M =>
        have hq := hv.1
        have h7 := nP_7 hW
        exact absurd (un_0 q (by omega) p hp (by omega)) (hx q List.mem_cons_self)
  | succ j ih =>
    intro a p t y c hj ha hp hu h1 h2 h3 h4 hc
    by_cases hat : a = to
    · subst hat
      rw [gw_to]
      exact hend a p t y c h1 (by omega) h3 (by omega) hc
    · rw [gw_s hat]
      have h7 := nP_7 hW
      have key : ∀ n, n ≤ nP N → ∀ d, d = fol (fun q c => if 0 < yd N a q ∧ ¬ hb (nI p) q then gw N to j q (nI p ||| sh1 q).toInt.toNat (t + tl N a q) (y + yd N a q) c else c) n c →
          okc d ∧ vc d ≤ vc c ∧ (vc d = vc c ∨ ∃ L, pv N a L ∧ pend a L = to ∧ vc d = 1000 * t.toInt + y.toInt + pc N a L) ∧ (∀ q M, q < n → pv N a (q :: M) → pend q M = to → (a :: q :: M).Nodup → (∀ x ∈ q :: M, ¬ hb (nI p) x) → vc d ≤ 1000 * t.toInt + y.toInt + pc N a (q :: M)) := by
        intro n
        induction n with
        | zero =>
          intro _ d hd
          subst hd
          exact ⟨hc, Int.le_refl _, Or.inl rfl, fun q M hq => absurd hq (by omega)⟩
        | succ n ihn =>
          intro hn d hd
          obtain ⟨k1, k2, k3, k4⟩ := ihn (by omega) _ rfl
          subst hd
          show okc (if 0 < yd N a n ∧ ¬ hb (nI p) n then _ else _) ∧ _
          simp only [fol]
          generalize fol (fun q c => if 0 < yd N a q ∧ ¬ hb (nI p) q then gw N to j q (nI p ||| sh1 q).toInt.toNat (t + tl N a q) (y + yd N a q) c else c) n c = e at *
          by_cases hq : 0 < yd N a n ∧ ¬ hb (nI p) n
          · rw [if_pos hq]
            obtain ⟨w1, w2, w3, w4, w5, w6⟩ := wgt_rng hW (a := a) (b := n) ha (by omega) hq.1
            obtain ⟨u1, u2, u3⟩ := un_s n (by omega) p hp hq.2
            have et : (t + tl N a n).toInt = t.toInt + (tl N a n).toInt := t_add (by omega) (by omega)
            have ey : (y + yd N a n).toInt = y.toInt + (yd N a n).toInt := t_add (by omega) (by omega)
            have hp' : nI (nI p ||| sh1 n).toInt.toNat = nI p ||| sh1 n := i_nat u1
            obtain ⟨g1, g2, g3, g4⟩ := ih n (nI p ||| sh1 n).toInt.toNat (t + tl N a n) (y + yd N a n) e (by omega) (by omega) (by omega) (by omega) (by omega) (by omega) (by omega) (by omega) k1
            have hw : wgt N a n = 1000 * (tl N a n).toInt + (yd N a n).toInt := rfl
            refine ⟨g1, by omega, ?_, ?_⟩
            · rcases g3 with g3 | ⟨M, m1, m2, m3⟩
              · rcases k3 with k3 | ⟨M, m1, m2, m3⟩
                · exact Or.inl (by omega)
                · exact Or.inr ⟨M, m1, m2, by omega⟩
              · refine Or.inr ⟨n :: M, ⟨by omega, hq.1, m1⟩, m2, ?_⟩
                show _ = 1000 * t.toInt + y.toInt + (wgt N a n + pc N n M)
                omega
            · intro q M hqn hv he hnd hx
              rcases Nat.lt_succ_iff_lt_or_eq.mp hqn with h | h
              · have := k4 q M h hv he hnd hx
                omega
              · subst h
                have hnd2 := (List.nodup_cons.mp hnd).2
                have := g4 M hv.2.2 he hnd2 (fun x hxM hbx => by
                  rw [hp'] at hbx
                  have hx7 := pv_lt M q hv.2.2 x hxM
                  rcases hb_or q (by omega) p hp x (by omega) hbx with hb2 | rfl
                  · exact hx x (List.mem_cons_of_mem _ hxM) hb2
                  · exact (List.nodup_cons.mp hnd2).1 hxM)
                show _ ≤ 1000 * t.toInt + y.toInt + (wgt N a q + pc N q M)
                omega
          · rw [if_neg hq]
            refine ⟨k1, k2, k3, ?_⟩
            intro q M hqn hv he hnd hx
            rcases Nat.lt_succ_iff_lt_or_eq.mp hqn with h | h
            · exact k4 q M h hv he hnd hx
            · subst h
              exact absurd ⟨hv.2.1, hx q List.mem_cons_self⟩ hq
      obtain ⟨k1, k2, k3, k4⟩ := key _ (Nat.le_refl _) _ rfl
      refine ⟨k1, k2, k3, ?_⟩
      intro L hv he hnd hx
      cases L with
      | nil => exact absurd he hat
      | cons q M => exact k4 q M hv.1 hv he hnd hx
