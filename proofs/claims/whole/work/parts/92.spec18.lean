/-! the first row of steps that comes so far, by yards that aren't held -/
def cty (N : Nat → Int32) (t pl : Nat) : Nat → Nat → Int32 → Int32 → Option (Nat × Int32)
  | 0, a, m, y => if a = pl ∧ bL N t a m y then some (a, m) else none
  | l + 1, a, m, y => (frs (fun q => if 0 < yd N a q then cty N t pl l q (gR N t m (yd N a q) (nI a)) (y + wlk N t (yd N a q)) else none) (nP N)).map fun r => (r.1, r.2.2)
theorem frs_c {β : Type} {c d : Nat → Option β} : ∀ n, (∀ k, k < n → c k = d k) → frs c n = frs d n := by
  intro n
  induction n with
  | zero => intro _; rfl
  | succ n ih =>
    intro h
    show (match frs c n with
      | some x => some x
      | none => (c n).map fun x => (n, x)) = (match frs d n with
      | some x => some x
      | none => (d n).map fun x => (n, x))
    rw [ih (fun k hk => h k (by omega)), h n (by omega)]
theorem mn_le {a : Nat} {d y : Int32} (hd : upto d 0 99) : d ≤ mn 9999 y ↔ d ≤ y := by
  have := hd.2
  simp only [Int32.le_iff_toInt_le]
  rw [mn_toInt]
  simp only [Int32.reduceToInt]
  omega
theorem mn_mn {y w : Int32} (h0 : 0 ≤ y.toInt) (h1 : y.toInt ≤ 1000000) (hw : upto w 0 306) : mn 9999 (mn 9999 y + w) = mn 9999 (y + w) := by
  have := hw.1
  have := hw.2
  have e := mn_toInt 9999 y
  simp only [Int32.reduceToInt] at e
  rw [← Int32.toInt_inj, mn_toInt, mn_toInt, t_add (by omega) (by omega), t_add (by omega) (by omega), e]
  simp only [Int32.reduceToInt]
  omega
theorem cty_eq {N : Nat → Int32} {t pl : Nat} (hW : WN N) (ht : t < 7) : ∀ (l a : Nat) (m y : Int32), l < 100 → a < 7 → 0 ≤ y.toInt → y.toInt + 306 * (l : Int) ≤ 1000000 → ctr N t pl l a m (mn 9999 y) = cty N t pl l a m y := by
  intro l
  induction l with
  | zero =>
    intro a m y _ ha _ _
    have hb : bL N t a m (mn 9999 y) ↔ bL N t a m y := by
      unfold bL
      rw [mn_le (a := 0) (hW.2.2.2.2.2.1 a ha)]
    show (if a = pl ∧ bL N t a m (mn 9999 y) then some (a, m) else none) = (if a = pl ∧ bL N t a m y then some (a, m) else none)
    by_cases h : a = pl ∧ bL N t a m y
    · rw [if_pos h, if_pos ⟨h.1, hb.mpr h.2⟩]
    · rw [if_neg h, if_neg (fun q => h ⟨q.1, hb.mp q.2⟩)]
  | succ l ih =>
    intro a m y hl ha h0 h1
    show Option.map _ _ = Option.map _ _
    congr 1
    refine frs_c _ fun q hq => ?_
    have h7 : nP N ≤ 7 := nP_7 hW
    have hw := wlk_rng (N := N) (t := t) (yd_rng hW ha (b := q) (by omega)) (hW.2.2.2.2.2.2.2.2.1 t ht).2.1
    have hw0 := hw.1
    have hw1 := hw.2
    split
    · rw [mn_mn h0 (by omega) hw]
      have e : (y + wlk N t (yd N a q)).toInt = y.toInt + (wlk N t (yd N a q)).toInt := t_add (by omega) (by omega)
      exact ih q _ _ (by omega) (by omega) (by omega) (by omega)
    · rfl
theorem ctr_cty {N : Nat → Int32} {t pl : Nat} (hW : WN N) (ht : t < 7) {l : Nat} (hl : l < 100) : ctr N t pl l (tf N t 4).toInt.toNat (tf N t 2) (tf N t 3) = cty N t pl l (tf N t 4).toInt.toNat (tf N t 2) (tf N t 3) := by
  obtain ⟨a, ha, ea, eb⟩ := at_k7 hW ht
  have h3 := (hW.2.2.2.2.2.2.2.2.1 t ht).2.2.2.1
  have h30 := h3.1
  have h31 := h3.2
  have e : mn 9999 (tf N t 3) = tf N t 3 := by
    rw [← Int32.toInt_inj, mn_toInt]
    simp only [Int32.reduceToInt]
    omega
  rw [eb]
  have k := cty_eq (pl := pl) hW ht l a (tf N t 2) (tf N t 3) hl ha (by omega) (by omega)
  rw [e] at k
  exact k
