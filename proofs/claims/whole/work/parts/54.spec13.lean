/-! rows that a sheet tells -/
def rws (N Q : Nat → Int32) (s z t : Nat) : Nat → Nat → Int32 → Int32 → Int32 × Int32
  | 0, a, m, e => if Q (40 * s + (z - 1)) = m then (1, e ||| sh1 a) else (0, e)
  | i + 1, a, m, e => if Q (40 * s + (z - 1 - (i + 1))) = m then
      fol (fun q p => if 0 < yd N a q then (p.1 + (rws N Q s z t i q (gR N t m (yd N a q) (nI a)) p.2).1, (rws N Q s z t i q (gR N t m (yd N a q) (nI a)) p.2).2) else (p.1 + 0, p.2)) (nP N) (0, e)
    else (0, e)
theorem orsh : ∀ b, b < 7 → ∀ k, k < 128 → 0 ≤ (nI k ||| sh1 b).toInt ∧ (nI k ||| sh1 b).toInt ≤ 127 ∧ (nI k ||| sh1 b).toInt ≠ 0 := by decide +kernel
theorem lowb : ∀ k, k < 128 → 1 ≤ k → 0 ≤ ((nI k &&& -(nI k)) - 1).toInt ∧ ((nI k &&& -(nI k)) - 1).toInt ≤ 255 := by decide +kernel
/-- the set of ends stays small, and is empty where no row is so -/
theorem rws_ok {N Q : Nat → Int32} {s z t : Nat} (hn : nP N ≤ 7) : ∀ i a m e, a < 7 → upto e 0 127 → upto (rws N Q s z t i a m e).2 0 127 ∧ ((rws N Q s z t i a m e).2 = 0 → e = 0 ∧ (rws N Q s z t i a m e).1 = 0) := by
  intro i
  induction i with
  | zero =>
    intro a m e ha he
    unfold rws
    split
    · obtain ⟨k, hk, rfl⟩ := of_upto (n := 127) he (by decide)
      obtain ⟨h1, h2, h3⟩ := orsh a ha k (by omega)
      refine ⟨⟨h1, h2⟩, fun h => absurd ?_ h3⟩
      show (nI k ||| sh1 a).toInt = 0
      rw [show nI k ||| sh1 a = 0 from h]
      rfl
    · exact ⟨he, fun h => ⟨h, rfl⟩⟩
  | succ i ih =>
    intro a m e ha he
    unfold rws
    split
    · have key : ∀ n, n ≤ 7 → ∀ p : Int32 × Int32, p = fol (fun q p => if 0 < yd N a q then (p.1 + (rws N Q s z t i q (gR N t m (yd N a q) (nI a)) p.2).1, (rws N Q s z t i q (gR N t m (yd N a q) (nI a)) p.2).2) else (p.1 + 0, p.2)) n (0, e) → upto p.2 0 127 ∧ (p.2 = 0 → e = 0 ∧ p.1 = 0) := by
        intro n
        induction n with
        | zero => intro _ p hp; subst hp; exact ⟨he, fun h => ⟨h, rfl⟩⟩
        | succ n ihn =>
          intro hn7 p hp
          have h1 := ihn (by omega) _ rfl
          subst hp
          simp only [fol]
          split
          · obtain ⟨h3, h4⟩ := ih n (gR N t m (yd N a n) (nI a)) _ (by omega) h1.1
            refine ⟨h3, fun h => ?_⟩
            obtain ⟨h5, h6⟩ := h4 h
            obtain ⟨h7, h8⟩ := h1.2 h5
            exact ⟨h7, by rw [h8, h6]; rfl⟩
          · refine ⟨h1.1, fun h => ?_⟩
            obtain ⟨h7, h8⟩ := h1.2 h
            exact ⟨h7, by rw [h8]; rfl⟩
      exact key _ hn _ rfl
    · exact ⟨he, fun h => ⟨h, rfl⟩⟩
def sp_from (S : Mem) (s t w : Int32) : Sp := if 0 ≤ s ∧ s ≤ 3 then (if isT (S 1) t then (if 0 ≤ w ∧ w ≤ 1 then (if S 10 s.toInt.toNat = 0 then (NO, er S 2) else if 1 ≤ S 11 s.toInt.toNat ∧ S 11 s.toInt.toNat ≤ 5 then
    (if w = 0 then ((rws (S 1) (S 12) s.toInt.toNat (S 11 s.toInt.toNat).toInt.toNat t.toInt.toNat ((S 11 s.toInt.toNat).toInt.toNat - 1) (tf (S 1) t.toInt.toNat 4).toInt.toNat (tf (S 1) t.toInt.toNat 2) 0).1, S)
     else if (rws (S 1) (S 12) s.toInt.toNat (S 11 s.toInt.toNat).toInt.toNat t.toInt.toNat ((S 11 s.toInt.toNat).toInt.toNat - 1) (tf (S 1) t.toInt.toNat 4).toInt.toNat (tf (S 1) t.toInt.toNat 2) 0).1 = 0 then (NO, er S 2)
     else (bts 8 (((rws (S 1) (S 12) s.toInt.toNat (S 11 s.toInt.toNat).toInt.toNat t.toInt.toNat ((S 11 s.toInt.toNat).toInt.toNat - 1) (tf (S 1) t.toInt.toNat 4).toInt.toNat (tf (S 1) t.toInt.toNat 2) 0).2 &&& -(rws (S 1) (S 12) s.toInt.toNat (S 11 s.toInt.toNat).toInt.toNat t.toInt.toNat ((S 11 s.toInt.toNat).toInt.toNat - 1) (tf (S 1) t.toInt.toNat 4).toInt.toNat (tf (S 1) t.toInt.toNat 2) 0).2) - 1) 0, S))
    else (NO, er S 2)) else (BE, er S 1)) else (BE, er S 1)) else (BE, er S 1)
abbrev S18 (μ : Mem) (f g : Nat → Int32) (e : Int32) : Mem := S70 μ f g (upd (μ 70) 18 e)
theorem upd_upd {f : Nat → Int32} {j : Nat} {x y : Int32} : upd (upd f j x) j y = upd f j y := by
  funext i
  simp only [upd]
  split <;> rfl
theorem sw18 {μ : Mem} {f g : Nat → Int32} {e x : Int32} : wr (S18 μ f g e) 70 18 x = S18 μ f g x := by
  show wr (S70 μ f g (upd (μ 70) 18 e)) 70 18 x = S70 μ f g (upd (μ 70) 18 x)
  rw [sw70, upd_upd]
