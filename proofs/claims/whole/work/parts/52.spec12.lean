/-! marks behind rows of steps -/
def mbf (N : Nat → Int32) (t : Nat) : Nat → Nat → Int32 → (Nat → Int32) → Nat → Int32
  | 0, _, m, h => upd h m.toInt.toNat 1
  | l + 1, a, m, h => fol (fun q h => if 0 < yd N a q then mbf N t l q (gR N t m (yd N a q) (nI a)) h else h) (nP N) h
theorem fol_rel {α β : Type} {R : α → β → Prop} {f : Nat → α → α} {g : Nat → β → β} {a : α} {b : β} (h0 : R a b) : ∀ n, (∀ k x y, k < n → R x y → R (f k x) (g k y)) → R (fol f n a) (fol g n b) := by
  intro n
  induction n with
  | zero => intro _; exact h0
  | succ n ih =>
    intro h
    exact h n _ _ (by omega) (ih fun k x y hk => h k x y (by omega))
theorem mbf_c {N : Nat → Int32} {t : Nat} : ∀ l a m h h', (∀ j, j < 256 → h j = h' j) → ∀ j, j < 256 → mbf N t l a m h j = mbf N t l a m h' j := by
  intro l
  induction l with
  | zero =>
    intro a m h h' e j hj
    show upd h m.toInt.toNat 1 j = upd h' m.toInt.toNat 1 j
    unfold upd
    split
    · rfl
    · exact e j hj
  | succ l ih =>
    intro a m h h' e
    refine fol_rel (R := fun (x y : Nat → Int32) => ∀ j, j < 256 → x j = y j) e (nP N) ?_
    intro k x y _ hxy j hj
    split
    · exact ih _ _ _ _ hxy j hj
    · exact hxy j hj
def mcn (h : Nat → Int32) : Int32 := fol (fun k a => a + b2 (¬ h k = 0)) 256 0
theorem mcn_c {h h' : Nat → Int32} (e : ∀ j, j < 256 → h j = h' j) : mcn h = mcn h' := by
  unfold mcn
  refine fol_c 256 fun k hk x => ?_
  rw [e k hk]
def sp_marked (S : Mem) (t n : Int32) : Sp := if isT (S 1) t then (if 0 ≤ n ∧ n ≤ 4 then (mcn (mbf (S 1) t.toInt.toNat n.toInt.toNat (tf (S 1) t.toInt.toNat 4).toInt.toNat (tf (S 1) t.toInt.toNat 2) (fun _ => 0)), S) else (BE, er S 1)) else (BE, er S 1)
abbrev S78 (μ : Mem) (f g h : Nat → Int32) : Mem := sc (sf μ 78 h) f g
theorem sw78 {μ : Mem} {f g h : Nat → Int32} {j : Nat} {x : Int32} : wr (S78 μ f g h) 78 j x = S78 μ f g (upd h j x) := by
  funext a
  simp only [S78, sc, sf, wr]
  by_cases h1 : a = 77
  · subst h1; simp
  · by_cases h2 : a = 76
    · subst h2; simp
    · by_cases h3 : a = 78
      · subst h3; simp
      · simp [h1, h2, h3]
theorem yd_rng {N : Nat → Int32} (h : WN N) {a b : Nat} (ha : a < 7) (hb : b < 7) : upto (yd N a b) 0 99 := by
  have := h.2.2.2.2.2.2.1 (7 * a + b) (by omega)
  unfold yd
  rw [Nat.add_assoc]
  exact this
