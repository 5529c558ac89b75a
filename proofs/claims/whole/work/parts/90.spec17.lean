/-! the marks that were seen, a bit each -/
def sbt (s : Nat → Int32) (m : Nat) : Nat → Int32 := upd s (m / 32) (s (m / 32) ||| ((1 : Int32) <<< (nI (m % 32) &&& 31)))
def mbz (N : Nat → Int32) (t : Nat) : Nat → Nat → Int32 → (Nat → Int32) → Nat → Int32
  | 0, _, m, h => sbt h m.toInt.toNat
  | l + 1, a, m, h => fol (fun q h => if 0 < yd N a q then mbz N t l q (gR N t m (yd N a q) (nI a)) h else h) (nP N) h
def Bt (s h : Nat → Int32) : Prop := ∀ j, j < 256 → ((s (j / 32)).toBitVec.getLsbD (j % 32) = true ↔ ¬ h j = 0)
theorem shbit : ∀ k, k < 32 → ∀ b, b < 32 → ((1 : Int32) <<< (nI k &&& 31)).toBitVec.getLsbD b = decide (b = k) := by decide +kernel
theorem Bt.set {s h : Nat → Int32} (hB : Bt s h) {m : Nat} (hm : m < 256) : Bt (sbt s m) (upd h m 1) := by
  intro j hj
  unfold sbt
  by_cases hw : j / 32 = m / 32
  · rw [hw, upd_eq rfl, Int32.toBitVec_or, BitVec.getLsbD_or, shbit (m % 32) (Nat.mod_lt _ (by decide)) (j % 32) (Nat.mod_lt _ (by decide)), ← hw, Bool.or_eq_true, hB j hj, decide_eq_true_iff]
    by_cases hjm : j = m
    · subst hjm
      rw [upd_eq rfl]
      exact ⟨fun _ => by decide, fun _ => Or.inr rfl⟩
    · rw [upd_ne hjm]
      exact ⟨fun q => q.elim id (fun q => absurd q (by omega)), Or.inl⟩
  · rw [upd_ne hw, upd_ne (fun q => hw (by rw [q]))]
    exact hB j hj
theorem mbz_bt {N : Nat → Int32} {t : Nat} (hW : WN N) : ∀ l a m s h, a < 7 → upto m 0 255 → Bt s h → Bt (mbz N t l a m s) (mbf N t l a m h) := by
  intro l
  induction l with
  | zero =>
    intro a m s h _ hm hB
    obtain ⟨k, hk, rfl⟩ := of_upto (n := 255) hm (by decide)
    show Bt (sbt s (nI k).toInt.toNat) (upd h (nI k).toInt.toNat 1)
    rw [nI_toInt (by omega), Int.toNat_natCast]
    exact hB.set (by omega)
  | succ l ih =>
    intro a m s h ha hm hB
    refine fol_rel (R := fun x y => Bt x y) hB (nP N) ?_
    intro q x y hq hxy
    have h7 : nP N ≤ 7 := nP_7 hW
    split
    · exact ih q _ _ _ (by omega) (gR_rng hm (yd_rng hW ha (by omega))) hxy
    · exact hxy
/-! how many bits -/
def bsum (v : Nat) : Nat → Nat
  | 0 => 0
  | n + 1 => bsum v n + v / 2 ^ n % 2
def pby (r : Nat) : Nat :=
  let a := r - ((r / 2) &&& 85)
  let b := (a &&& 51) + ((a / 4) &&& 51)
  (b + b / 16) &&& 15
theorem pb_1 : ∀ r, r < 256 → ((r / 2) &&& 85) = ((r / 2 + 128) &&& 85) ∧ ((r / 2) &&& 85) ≤ r := by decide +kernel
theorem pb_2 : ∀ a, a < 256 → ((a / 4) &&& 51) = ((a / 4 + 64) &&& 51) ∧ ((a / 4) &&& 51) = ((a / 4 + 128) &&& 51) ∧ ((a / 4) &&& 51) = ((a / 4 + 192) &&& 51) ∧ ((a / 4) &&& 51) ≤ 51 ∧ (a &&& 51) ≤ 51 := by decide +kernel
theorem pb_3 : ∀ a, a < 256 → (a &&& 51) + ((a / 4) &&& 51) < 103 ∧ ((a &&& 51) + ((a / 4) &&& 51)) % 16 ≤ 6 := by decide +kernel
theorem pb_4 : ∀ r, r < 256 → pby r = bsum r 8 ∧ pby r ≤ 8 := by decide +kernel
theorem and_split {a b c d : Nat} (ha : a < 256) (hc : c < 256) : (a + 256 * b) &&& (c + 256 * d) = (a &&& c) + 256 * (b &&& d) := by
  have h1 : ((a + 256 * b) &&& (c + 256 * d)) % 2 ^ 8 = a &&& c := by
    rw [Nat.and_mod_two_pow]
    congr 1 <;> omega
  have h2 : ((a + 256 * b) &&& (c + 256 * d)) / 2 ^ 8 = b &&& d := by
    rw [Nat.and_div_two_pow]
    congr 1 <;> omega
  rw [← h1, ← h2]
  omega
theorem and_4 {a0 a1 a2 a3 m : Nat} (h0 : a0 < 256) (h1 : a1 < 256) (h2 : a2 < 256) (hm : m < 256) : (a0 + 256 * (a1 + 256 * (a2 + 256 * a3))) &&& (m + 256 * (m + 256 * (m + 256 * m))) = (a0 &&& m) + 256 * ((a1 &&& m) + 256 * ((a2 &&& m) + 256 * (a3 &&& m))) := by
  rw [and_split h0 hm, and_split h1 hm, and_split h2 hm]
theorem u8N {n : Nat} (hn : n < 2 ^ 32) (k : Nat) (hs : (((nI k).toUInt32 &&& Int32.toUInt32 31).toBitVec % 32).toNat = k) : u8 (nI n) (nI k) = nI (n / 2 ^ k) := pk_ushrN hn (nI k) k hs
theorem sub4 {r0 r1 r2 r3 x0 x1 x2 x3 : Nat} (h0 : x0 ≤ r0) (h1 : x1 ≤ r1) (h2 : x2 ≤ r2) (h3 : x3 ≤ r3) : (r0 + 256 * (r1 + 256 * (r2 + 256 * r3))) - (x0 + 256 * (x1 + 256 * (x2 + 256 * x3))) = (r0 - x0) + 256 * ((r1 - x1) + 256 * ((r2 - x2) + 256 * (r3 - x3))) ∧ x0 + 256 * (x1 + 256 * (x2 + 256 * x3)) ≤ r0 + 256 * (r1 + 256 * (r2 + 256 * r3)) := by omega
theorem bc1_4 {r0 r1 r2 r3 : Nat} (h0 : r0 < 256) (h1 : r1 < 256) (h2 : r2 < 256) (h3 : r3 < 256) : bc1 (nI (r0 + 256 * (r1 + 256 * (r2 + 256 * r3)))) = nI ((r0 - ((r0 / 2) &&& 85)) + 256 * ((r1 - ((r1 / 2) &&& 85)) + 256 * ((r2 - ((r2 / 2) &&& 85)) + 256 * (r3 - ((r3 / 2) &&& 85))))) := by
  have key : ∀ r q, r < 256 → ((r / 2 + 128 * (q % 2)) &&& 85) = ((r / 2) &&& 85) := by
    intro r q hr
    have hq : q % 2 = 0 ∨ q % 2 = 1 := by omega
    rcases hq with hq | hq <;> rw [hq]
    · rfl
    · exact (pb_1 r hr).1.symm
  unfold bc1
  rw [show (1 : Int32) = nI 1 from rfl, u8N (by omega) 1 (by decide)]
  rw [show (r0 + 256 * (r1 + 256 * (r2 + 256 * r3))) / 2 ^ 1 = (r0 / 2 + 128 * (r1 % 2)) + 256 * ((r1 / 2 + 128 * (r2 % 2)) + 256 * ((r2 / 2 + 128 * (r3 % 2)) + 256 * (r3 / 2))) by omega]
  rw [show (1431655765 : Int32) = nI (85 + 256 * (85 + 256 * (85 + 256 * 85))) from by decide, nx_and, and_4 (by omega) (by omega) (by omega) (by omega), key r0 r1 h0, key r1 r2 h1, key r2 r3 h2]
  obtain ⟨e1, e2⟩ := sub4 (pb_1 r0 h0).2 (pb_1 r1 h1).2 (pb_1 r2 h2).2 (pb_1 r3 h3).2
  rw [pk_sub e2, e1]
theorem bc2_4 {r0 r1 r2 r3 : Nat} (h0 : r0 < 256) (h1 : r1 < 256) (h2 : r2 < 256) (h3 : r3 < 256) : bc2 (nI (r0 + 256 * (r1 + 256 * (r2 + 256 * r3)))) = nI (((r0 &&& 51) + ((r0 / 4) &&& 51)) + 256 * (((r1 &&& 51) + ((r1 / 4) &&& 51)) + 256 * (((r2 &&& 51) + ((r2 / 4) &&& 51)) + 256 * ((r3 &&& 51) + ((r3 / 4) &&& 51))))) := by
  have key : ∀ r q, r < 256 → ((r / 4 + 64 * (q % 4)) &&& 51) = ((r / 4) &&& 51) := by
    intro r q hr
    obtain ⟨k1, k2, k3, -⟩ := pb_2 r hr
    have hq : q % 4 = 0 ∨ q % 4 = 1 ∨ q % 4 = 2 ∨ q % 4 = 3 := by omega
    rcases hq with hq | hq | hq | hq <;> rw [hq]
    · rfl
    · exact k1.symm
    · exact k2.symm
    · exact k3.symm
  unfold bc2
  rw [show (2 : Int32) = nI 2 from rfl, u8N (by omega) 2 (by decide)]
  rw [show (r0 + 256 * (r1 + 256 * (r2 + 256 * r3))) / 2 ^ 2 = (r0 / 4 + 64 * (r1 % 4)) + 256 * ((r1 / 4 + 64 * (r2 % 4)) + 256 * ((r2 / 4 + 64 * (r3 % 4)) + 256 * (r3 / 4))) by omega]
  rw [show (858993459 : Int32) = nI (51 + 256 * (51 + 256 * (51 + 256 * 51))) from by decide, nx_and, nx_and, and_4 (by omega) (by omega) (by omega) (by omega), and_4 (by omega) (by omega) (by omega) (by omega), key r0 r1 h0, key r1 r2 h1, key r2 r3 h2, nI_add]
  congr 1
  omega
theorem bc3_4 {r0 r1 r2 r3 : Nat} (h0 : r0 < 103 ∧ r0 % 16 ≤ 6) (h1 : r1 < 103 ∧ r1 % 16 ≤ 6) (h2 : r2 < 103 ∧ r2 % 16 ≤ 6) (h3 : r3 < 103 ∧ r3 % 16 ≤ 6) : bc3 (nI (r0 + 256 * (r1 + 256 * (r2 + 256 * r3)))) = nI (((r0 + r0 / 16) &&& 15) + 256 * (((r1 + r1 / 16) &&& 15) + 256 * (((r2 + r2 / 16) &&& 15) + 256 * ((r3 + r3 / 16) &&& 15)))) := by
  have key : ∀ r q, r < 103 → q < 103 → ((r + r / 16 + 16 * (q % 16)) &&& 15) = ((r + r / 16) &&& 15) := by
    intro r q hr hq
    have e : ∀ x, x &&& 15 = x % 16 := fun x => Nat.and_two_pow_sub_one_eq_mod x 4
    rw [e, e]
    omega
  unfold bc3
  rw [show (4 : Int32) = nI 4 from rfl, u8N (by omega) 4 (by decide), nI_add]
  rw [show (r0 + 256 * (r1 + 256 * (r2 + 256 * r3))) + (r0 + 256 * (r1 + 256 * (r2 + 256 * r3))) / 2 ^ 4 = (r0 + r0 / 16 + 16 * (r1 % 16)) + 256 * ((r1 + r1 / 16 + 16 * (r2 % 16)) + 256 * ((r2 + r2 / 16 + 16 * (r3 % 16)) + 256 * (r3 + r3 / 16))) by omega]
  rw [show (252645135 : Int32) = nI (15 + 256 * (15 + 256 * (15 + 256 * 15))) from by decide, nx_and]
  rw [and_4 (by omega) (by omega) (by omega) (by omega), key r0 r1 h0.1 h1.1, key r1 r2 h1.1 h2.1, key r2 r3 h2.1 h3.1]
theorem bcx_4 {r0 r1 r2 r3 : Nat} (h0 : r0 < 256) (h1 : r1 < 256) (h2 : r2 < 256) (h3 : r3 < 256) : bcx (nI (r0 + 256 * (r1 + 256 * (r2 + 256 * r3)))) = nI (pby r0 + pby r1 + pby r2 + pby r3) := by
  have p0 := (pb_4 r0 h0).2
  have p1 := (pb_4 r1 h1).2
  have p2 := (pb_4 r2 h2).2
  have p3 := (pb_4 r3 h3).2
  unfold bcx
  rw [bc1_4 h0 h1 h2 h3]
  rw [bc2_4 (by omega) (by omega) (by omega) (by omega), bc3_4 (pb_3 _ (by omega)) (pb_3 _ (by omega)) (pb_3 _ (by omega)) (pb_3 _ (by omega))]
  have e : ∀ r, ((((r - ((r / 2) &&& 85)) &&& 51) + (((r - ((r / 2) &&& 85)) / 4) &&& 51)) + (((r - ((r / 2) &&& 85)) &&& 51) + (((r - ((r / 2) &&& 85)) / 4) &&& 51)) / 16) &&& 15 = pby r := fun r => rfl
  rw [e, e, e, e]
  generalize pby r0 = c0 at *
  generalize pby r1 = c1 at *
  generalize pby r2 = c2 at *
  generalize pby r3 = c3 at *
  dsimp only
  rw [show (8 : Int32) = nI 8 from rfl, u8N (by omega) 8 (by decide), show (c0 + 256 * (c1 + 256 * (c2 + 256 * c3))) / 2 ^ 8 = c1 + 256 * (c2 + 256 * c3) by omega, nI_add, show (16 : Int32) = nI 16 from rfl, u8N (by omega) 16 (by decide), show (c0 + 256 * (c1 + 256 * (c2 + 256 * c3)) + (c1 + 256 * (c2 + 256 * c3))) / 2 ^ 16 = c2 + c3 + 256 * c3 by omega, nI_add, pk_andN (by omega) 6 (by decide)]
  congr 1
  omega
theorem bsum_8 (r q : Nat) (hr : r < 256) : ∀ k, bsum (r + 256 * q) (8 + k) = bsum r 8 + bsum q k := by
  intro k
  induction k with
  | zero =>
    show bsum (r + 256 * q) 8 = bsum r 8 + 0
    simp only [bsum, Nat.pow_zero, Nat.reducePow]
    omega
  | succ k ih =>
    show bsum (r + 256 * q) (8 + k) + (r + 256 * q) / 2 ^ (8 + k) % 2 = bsum r 8 + (bsum q k + q / 2 ^ k % 2)
    rw [ih, Nat.pow_add, ← Nat.div_div_eq_div_mul, show (r + 256 * q) / 2 ^ 8 = q by omega]
    omega
theorem bcx_bs (v : Int32) : bcx v = nI (bsum v.toBitVec.toNat 32) := by
  have hv : v = nI v.toBitVec.toNat := by
    apply Int32.toBitVec_inj.1
    apply BitVec.eq_of_toNat_eq
    show v.toBitVec.toNat = v.toBitVec.toNat % 2 ^ 32
    exact (Nat.mod_eq_of_lt v.toBitVec.isLt).symm
  have hl := v.toBitVec.isLt
  generalize v.toBitVec.toNat = n at hv hl
  subst hv
  obtain ⟨r0, r1, r2, r3, h0, h1, h2, h3, rfl⟩ : ∃ r0 r1 r2 r3, r0 < 256 ∧ r1 < 256 ∧ r2 < 256 ∧ r3 < 256 ∧ n = r0 + 256 * (r1 + 256 * (r2 + 256 * r3)) :=
    ⟨n % 256, n / 256 % 256, n / 65536 % 256, n / 16777216, by omega, by omega, by omega, by omega, by omega⟩
  rw [bcx_4 h0 h1 h2 h3]
  have e : bsum (r0 + 256 * (r1 + 256 * (r2 + 256 * r3))) 32 = bsum r0 8 + (bsum r1 8 + (bsum r2 8 + bsum r3 8)) := by
    have a : bsum (r0 + 256 * (r1 + 256 * (r2 + 256 * r3))) 32 = bsum r0 8 + bsum (r1 + 256 * (r2 + 256 * r3)) 24 := bsum_8 r0 (r1 + 256 * (r2 + 256 * r3)) h0 24
    have b : bsum (r1 + 256 * (r2 + 256 * r3)) 24 = bsum r1 8 + bsum (r2 + 256 * r3) 16 := bsum_8 r1 (r2 + 256 * r3) h1 16
    have c : bsum (r2 + 256 * r3) 16 = bsum r2 8 + bsum r3 8 := bsum_8 r2 r3 h2 8
    rw [a, b, c]
  rw [e, (pb_4 r0 h0).1, (pb_4 r1 h1).1, (pb_4 r2 h2).1, (pb_4 r3 h3).1]
  congr 1
  omega
theorem fol_add {α : Type} (f : Nat → α → α) (a : α) (n : Nat) : ∀ m, fol f (n + m) a = fol (fun k => f (n + k)) m (fol f n a) := by
  intro m
  induction m with
  | zero => rfl
  | succ m ih =>
    show f (n + m) (fol f (n + m) a) = f (n + m) (fol (fun k => f (n + k)) m (fol f n a))
    rw [ih]
def bcs (s : Nat → Int32) (w : Nat) : Int32 := fol (fun k a => a + bcx (s k)) w 0
theorem mcn_bcs {s h : Nat → Int32} (hB : Bt s h) : mcn h = bcs s 8 := by
  have key : ∀ w, w ≤ 8 → fol (fun k a => a + b2 (¬ h k = 0)) (32 * w) 0 = bcs s w := by
    intro w
    induction w with
    | zero => intro _; rfl
    | succ w ih =>
      intro hw
      have ih := ih (by omega)
      rw [show 32 * (w + 1) = 32 * w + 32 from by omega, fol_add, ih]
      show _ = bcs s w + bcx (s w)
      rw [bcx_bs]
      generalize bcs s w = c
      have k2 : ∀ b, b ≤ 32 → fol (fun k a => a + b2 (¬ h (32 * w + k) = 0)) b c = c + nI (bsum (s w).toBitVec.toNat b) := by
        intro b
        induction b with
        | zero => intro _; exact (Int32.add_zero c).symm
        | succ b ihb =>
          intro hb
          show fol (fun k a => a + b2 (¬ h (32 * w + k) = 0)) b c + b2 (¬ h (32 * w + b) = 0) = c + nI (bsum (s w).toBitVec.toNat b + (s w).toBitVec.toNat / 2 ^ b % 2)
          rw [ihb (by omega), Int32.add_assoc, ← nI_add]
          congr 2
          have hj := hB (32 * w + b) (by omega)
          rw [show (32 * w + b) / 32 = w from by omega, show (32 * w + b) % 32 = b from by omega] at hj
          rw [BitVec.getLsbD, Nat.testBit_eq_decide_div_mod_eq, decide_eq_true_iff] at hj
          have h01 : (s w).toBitVec.toNat / 2 ^ b % 2 = 0 ∨ (s w).toBitVec.toNat / 2 ^ b % 2 = 1 := by omega
          rcases h01 with h0 | h1
          · rw [h0] at hj ⊢
            exact b2_f (fun q => absurd (hj.mpr q) (by decide))
          · rw [h1] at hj ⊢
            exact b2_t (hj.mp rfl)
      exact k2 32 (by omega)
  exact key 8 (by omega)
theorem Bt_0 {s : Nat → Int32} (h : ∀ w, w < 8 → s w = 0) : Bt s (fun _ => 0) := by
  intro j hj
  rw [h (j / 32) (by omega)]
  constructor
  · intro q
    rw [show (0 : Int32).toBitVec = 0#32 from rfl, BitVec.getLsbD_zero] at q
    exact absurd q (by decide)
  · intro q; exact absurd rfl q
