/-! rows that a sheet tells, with the least end -/
def rwl (N Q : Nat → Int32) (s z t : Nat) : Nat → Nat → Int32 → Int32 → Int32 × Int32
  | 0, a, m, e => if Q (40 * s + (z - 1)) = m then (1, mn e (nI a)) else (0, e)
  | i + 1, a, m, e => if Q (40 * s + (z - 1 - (i + 1))) = m then
      fol (fun q p => if 0 < yd N a q then (p.1 + (rwl N Q s z t i q (gR N t m (yd N a q) (nI a)) p.2).1, (rwl N Q s z t i q (gR N t m (yd N a q) (nI a)) p.2).2) else (p.1 + 0, p.2)) (nP N) (0, e)
    else (0, e)
def lbi (x : Int32) : Int32 := if x = 0 then 7 else bts 8 ((x &&& -x) - 1) 0
theorem lbi_or : ∀ a, a < 7 → ∀ k, k < 128 → mn (lbi (nI k)) (nI a) = lbi (nI k ||| sh1 a) := by decide +kernel
theorem rwl_rws {N Q : Nat → Int32} {s z t : Nat} (hn : nP N ≤ 7) : ∀ i a m e, a < 7 → upto e 0 127 → rwl N Q s z t i a m (lbi e) = ((rws N Q s z t i a m e).1, lbi (rws N Q s z t i a m e).2) := by
  intro i
  induction i with
  | zero =>
    intro a m e ha he
    obtain ⟨k, hk, rfl⟩ := of_upto (n := 127) he (by decide)
    unfold rwl rws
    split
    · rw [lbi_or a ha k (by omega)]
    · rfl
  | succ i ih =>
    intro a m e ha he
    unfold rwl rws
    split
    · have key : ∀ n, n ≤ 7 → ∀ p q : Int32 × Int32, p = fol (fun q p => if 0 < yd N a q then (p.1 + (rws N Q s z t i q (gR N t m (yd N a q) (nI a)) p.2).1, (rws N Q s z t i q (gR N t m (yd N a q) (nI a)) p.2).2) else (p.1 + 0, p.2)) n (0, e) →
          q = fol (fun q p => if 0 < yd N a q then (p.1 + (rwl N Q s z t i q (gR N t m (yd N a q) (nI a)) p.2).1, (rwl N Q s z t i q (gR N t m (yd N a q) (nI a)) p.2).2) else (p.1 + 0, p.2)) n (0, lbi e) → upto p.2 0 127 ∧ q = (p.1, lbi p.2) := by
        intro n
        induction n with
        | zero => intro _ p q hp hq; subst hp; subst hq; exact ⟨he, rfl⟩
        | succ n ihn =>
          intro hn7 p q hp hq
          obtain ⟨h1, h2⟩ := ihn (by omega) _ _ rfl rfl
          subst hp
          subst hq
          simp only [fol]
          rw [h2]
          split
          · have h3 := (rws_ok (N := N) (Q := Q) (s := s) (z := z) (t := t) hn i n (gR N t m (yd N a n) (nI a)) _ (by omega) h1).1
            exact ⟨h3, by rw [ih n _ _ (by omega) h1]⟩
          · exact ⟨h1, rfl⟩
      exact (key _ hn _ _ rfl rfl).2
    · rfl
theorem rws_cnt {N Q : Nat → Int32} {s z t : Nat} (hn : nP N ≤ 7) : ∀ i, i < 5 → ∀ a m e, upto (rws N Q s z t i a m e).1 0 (7 ^ i) := by
  intro i
  induction i with
  | zero =>
    intro _ a m e
    unfold rws
    split
    · exact ⟨(by decide : (0 : Int) ≤ (1 : Int32).toInt), (by decide : (1 : Int32).toInt ≤ 7 ^ 0)⟩
    · exact ⟨(by decide : (0 : Int) ≤ (0 : Int32).toInt), (by decide : (0 : Int32).toInt ≤ 7 ^ 0)⟩
  | succ i ih =>
    intro hi a m e
    have hpow : (7 : Int) ^ i ≤ 343 := by
      have : i = 0 ∨ i = 1 ∨ i = 2 ∨ i = 3 := by omega
      rcases this with rfl | rfl | rfl | rfl <;> decide
    have hpow0 : (0 : Int) ≤ 7 ^ i := by
      have : i = 0 ∨ i = 1 ∨ i = 2 ∨ i = 3 := by omega
      rcases this with rfl | rfl | rfl | rfl <;> decide
    have hsucc : (7 : Int) ^ (i + 1) = 7 ^ i * 7 := Int.pow_succ 7 i
    unfold rws
    split
    · have key : ∀ n, n ≤ 7 → ∀ p : Int32 × Int32, p = fol (fun q p => if 0 < yd N a q then (p.1 + (rws N Q s z t i q (gR N t m (yd N a q) (nI a)) p.2).1, (rws N Q s z t i q (gR N t m (yd N a q) (nI a)) p.2).2) else (p.1 + 0, p.2)) n (0, e) → 0 ≤ p.1.toInt ∧ p.1.toInt ≤ n * 7 ^ i := by
        intro n
        induction n with
        | zero =>
          intro _ p hp
          subst hp
          exact ⟨by show (0 : Int) ≤ (0 : Int32).toInt; decide, by show (0 : Int32).toInt ≤ (0 : Nat) * 7 ^ i; simp⟩
        | succ n ihn =>
          intro hn7 p hp
          obtain ⟨h1, h2⟩ := ihn (by omega) _ rfl
          subst hp
          simp only [fol]
          have hmul : ((n + 1 : Nat) : Int) * 7 ^ i = (n : Int) * 7 ^ i + 7 ^ i := by
            rw [Int.natCast_add, Int.add_mul]
            simp
          have hle : (n : Int) * 7 ^ i ≤ 2401 := by
            have a1 : (n : Int) * 7 ^ i ≤ 7 * 7 ^ i := Int.mul_le_mul_of_nonneg_right (by omega) hpow0
            omega
          split
          · have h3 := ih (by omega) n (gR N t m (yd N a n) (nI a)) (fol (fun q p => if 0 < yd N a q then (p.1 + (rws N Q s z t i q (gR N t m (yd N a q) (nI a)) p.2).1, (rws N Q s z t i q (gR N t m (yd N a q) (nI a)) p.2).2) else (p.1 + 0, p.2)) n (0, e)).2
            have h4 := h3.1
            have h5 := h3.2
            dsimp only
            rw [hmul, t_add (by omega) (by omega)]
            omega
          · dsimp only
            rw [hmul, t_add (by simp only [Int32.reduceToInt]; omega) (by simp only [Int32.reduceToInt]; omega)]
            simp only [Int32.reduceToInt]
            omega
      obtain ⟨h1, h2⟩ := key _ hn _ rfl
      refine ⟨h1, ?_⟩
      have a1 : (nP N : Int) * 7 ^ i ≤ 7 * 7 ^ i := Int.mul_le_mul_of_nonneg_right (by omega) hpow0
      rw [hsucc]
      omega
    · exact ⟨by show (0 : Int) ≤ (0 : Int32).toInt; decide, by show (0 : Int32).toInt ≤ _; rw [hsucc]; simp only [Int32.reduceToInt]; omega⟩
