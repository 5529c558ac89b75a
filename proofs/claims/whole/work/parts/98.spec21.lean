theorem RW.tape1 {N : Nat → Int32} {μ : Mem} (h : RW N μ 1) {m : Nat} {v : Int32} (e4 : N 4 = nI m) (hm : m < 50) : RW (upd (upd N (153 + m) v) 4 (nI (m + 1))) (wr (wr μ 22 m v) 21 1 (nI (m + 1))) 1 := by
  obtain ⟨⟨a1, a2, a3, a4⟩, h2, h3, h4, h5, ⟨b1, b2_⟩, ⟨c1, c2⟩, ⟨d1, d2⟩, ⟨e1_, e2_⟩⟩ := h
  have e : ∀ i, i ≠ 21 → i ≠ 22 → wr (wr μ 22 m v) 21 1 (nI (m + 1)) i = μ i := fun i hi h2 => by rw [wr_ne hi, wr_ne h2]
  have u : ∀ i, i ≠ 4 → i ≠ 153 + m → upd (upd N (153 + m) v) 4 (nI (m + 1)) i = N i := fun i hi h2 => by rw [upd_ne hi, upd_ne h2]
  rw [e4, nI_toInt (by omega), Int.toNat_natCast] at b2_
  refine ⟨⟨?_, ?_, ?_, ?_⟩, fun j hj => ?_, fun j hj => ?_, fun j hj => ?_, fun s hs g hg => ?_, ⟨?_, fun j hj => ?_⟩, ⟨?_, fun j hj => ?_⟩, ⟨?_, fun j hj => ?_⟩, ⟨?_, fun j hj => ?_⟩⟩
  · rw [e _ (by omega) (by omega), u _ (by omega) (by omega)]; exact a1
  · rw [e _ (by omega) (by omega), u _ (by omega) (by omega)]; exact a2
  · rw [e _ (by omega) (by omega), u _ (by omega) (by omega)]; exact a3
  · rw [e _ (by omega) (by omega), u _ (by omega) (by omega)]; exact a4
  · rw [e _ (by omega) (by omega), u _ (by omega) (by omega)]; exact h2 j hj
  · rw [e _ (by omega) (by omega), u _ (by omega) (by omega)]; exact h3 j hj
  · rw [e _ (by omega) (by omega), u _ (by omega) (by omega)]; exact h4 j hj
  · rw [e _ (by omega) (by omega), u _ (by omega) (by omega)]; exact h5 s hs g hg
  · rw [upd_eq rfl]; exact wr_same
  · rw [upd_eq rfl, nI_toInt (by omega), Int.toNat_natCast] at hj
    show wr (wr μ 22 m v) 21 1 (nI (m + 1)) 22 j = _
    rw [wr_ne (by decide), wr_at, upd_ne (show 153 + j ≠ 4 by omega)]
    by_cases hjm : j = m
    · subst hjm
      rw [upd_eq rfl, upd_eq rfl]
    · rw [upd_ne hjm, upd_ne (by omega)]
      exact b2_ j (by omega)
  · rw [e _ (by omega) (by omega), u _ (by omega) (by omega)]; exact c1
  · rw [u 5 (by omega) (by omega)] at hj
    rw [e _ (by omega) (by omega), u _ (by omega) (by omega)]; exact c2 j hj
  · rw [e _ (by omega) (by omega), u _ (by omega) (by omega)]; exact d1
  · rw [u 223 (by omega) (by omega)] at hj
    rw [e _ (by omega) (by omega), u _ (by omega) (by omega)]; exact d2 j hj
  · rw [e _ (by omega) (by omega), u _ (by omega) (by omega)]; exact e1_
  · rw [u 275 (by omega) (by omega)] at hj
    rw [e _ (by omega) (by omega), u _ (by omega) (by omega)]; exact e2_ j hj
theorem b255_32 : ∀ i, i < 32 → (255#32).getLsbD i = decide (i < 8) := by decide +kernel
theorem b255_64 : ∀ i, i < 64 → (255#64).getLsbD i = decide (i < 8) := by decide +kernel
theorem byt_bits (w : BitVec 64) (s : Nat) (hs : s ≤ 56) : (w >>> s).signExtend 32 &&& 255#32 = (w.sshiftRight s &&& 255#64).signExtend 32 := by
  apply BitVec.eq_of_getLsbD_eq
  intro i hi
  rw [BitVec.getLsbD_and, b255_32 i hi, BitVec.getLsbD_signExtend, BitVec.getLsbD_signExtend, BitVec.getLsbD_and, b255_64 i (by omega), BitVec.getLsbD_ushiftRight, BitVec.getLsbD_sshiftRight]
  by_cases h8 : i < 8
  · have h1 : i < 64 := by omega
    have h2 : s + i < 64 := by omega
    have h3 : ¬ 64 ≤ i := by omega
    simp [h8, h1, h2, h3]
  · have h1 : i < 64 := by omega
    simp [h8, h1]
theorem byt_eq (w : Int64) (k : Nat) (hk : k < 8) : ((w.toUInt64 >>> (((8 : Int32) * nI k).toInt64.toUInt64 &&& Int64.toUInt64 63)).toInt64).toInt32 &&& 255 = byt w k := by
  apply Int32.toBitVec_inj.1
  have key : ∀ s : Nat, s ≤ 56 → (((8 : Int32) * nI k).toInt64.toUInt64 &&& Int64.toUInt64 63).toBitVec % 64 = BitVec.ofNat 64 s → ((((8 : Int32) * nI k).toInt64 &&& 63).toBitVec.smod 64).toNat = s → (((w.toUInt64 >>> (((8 : Int32) * nI k).toInt64.toUInt64 &&& Int64.toUInt64 63)).toInt64).toInt32 &&& 255).toBitVec = (byt w k).toBitVec := by
    intro s hs h1 h2
    have a : (((w.toUInt64 >>> (((8 : Int32) * nI k).toInt64.toUInt64 &&& Int64.toUInt64 63)).toInt64).toInt32 &&& 255).toBitVec = (w.toBitVec >>> ((((8 : Int32) * nI k).toInt64.toUInt64 &&& Int64.toUInt64 63).toBitVec % 64).toNat).signExtend 32 &&& 255#32 := rfl
    have b : (byt w k).toBitVec = (w.toBitVec.sshiftRight ((((8 : Int32) * nI k).toInt64 &&& 63).toBitVec.smod 64).toNat &&& 255#64).signExtend 32 := rfl
    rw [a, b, h1, h2, BitVec.toNat_ofNat, Nat.mod_eq_of_lt (by omega)]
    exact byt_bits _ s hs
  rcases k with _ | _ | _ | _ | _ | _ | _ | _ | k
  · exact key 0 (by decide) (by decide) (by decide)
  · exact key 8 (by decide) (by decide) (by decide)
  · exact key 16 (by decide) (by decide) (by decide)
  · exact key 24 (by decide) (by decide) (by decide)
  · exact key 32 (by decide) (by decide) (by decide)
  · exact key 40 (by decide) (by decide) (by decide)
  · exact key 48 (by decide) (by decide) (by decide)
  · exact key 56 (by decide) (by decide) (by decide)
  · omega
