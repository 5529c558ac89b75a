theorem u_of {v n : Int32} (h : 0 ≤ v ∧ v ≤ n) : upto v 0 n.toInt := ⟨Int32.le_iff_toInt_le.mp h.1, Int32.le_iff_toInt_le.mp h.2⟩
theorem w_place {S : Mem} (h : WFS S) (v : Int32) : WFS (sp_place S v).2 := by
  unfold sp_place
  repeat' split
  · exact h.er 4
  · rename_i hv h7
    have hN := h.1
    have h1 := hN.2.1.1
    have h2 := hN.2.1.2
    have hnP : nP (S 1) = (S 1 1).toInt.toNat := rfl
    simp only [← Int32.toInt_inj, Int32.reduceToInt] at h7
    refine h.now (show WN (upd (upd (S 1) (6 + nP (S 1)) v) 1 (S 1 1 + 1)) from ?_) rfl rfl rfl rfl
    have ha : (S 1 1 + 1).toInt = (S 1 1).toInt + 1 := t_add (by simp only [Int32.reduceToInt]; omega) (by simp only [Int32.reduceToInt]; omega)
    have w := hN.up (j := 6 + nP (S 1)) (v := v) (cOk.of (by omega) (by omega) (by omega) ⟨by omega, by omega, fun _ _ => u_of hv, by omega, by omega, by omega⟩)
    refine w.up ⟨by decide, by decide, by omega, fun _ => ⟨⟨by omega, by omega⟩, ?_⟩, by omega, by omega, by omega, by omega, by omega, by omega, by omega⟩
    rw [upd_ne (by omega), ha]
    omega
  · exact h.er 1
theorem w_doubt {S : Mem} (h : WFS S) (p v : Int32) : WFS (sp_doubt S p v).2 := by
  unfold sp_doubt
  repeat' split
  · rename_i hp hv
    obtain ⟨k, hk, rfl, -⟩ := in_P h.1 hp
    rw [nI_toInt (by omega), Int.toNat_natCast]
    exact h.w1 (h.1.up (cOk.of (by omega) (by omega) (by omega) ⟨by omega, by omega, fun _ _ => u_of hv, by omega, by omega, by omega⟩))
  · exact h.er 1
  · exact h.er 1
theorem w_road {S : Mem} (h : WFS S) (a b w v : Int32) : WFS (sp_road S a b w v).2 := by
  unfold sp_road
  repeat' split
  · rename_i hp _ _ hv
    obtain ⟨x, hx, rfl, -⟩ := in_P h.1 hp.1.1
    obtain ⟨y, hy, rfl, -⟩ := in_P h.1 hp.1.2
    simp (disch := omega) only [nI_toInt, Int.toNat_natCast]
    refine h.now (show WN (upd (upd (S 1) (13 + 7 * y + x) v) (13 + 7 * x + y) v) from ?_) rfl rfl rfl rfl
    exact (h.1.up (cOk.of (by omega) (by omega) (by omega) ⟨by omega, by omega, by omega, fun _ _ => u_of hv, by omega, by omega⟩)).up (cOk.of (by omega) (by omega) (by omega) ⟨by omega, by omega, by omega, fun _ _ => u_of hv, by omega, by omega⟩)
  · exact h.er 1
  · rename_i hp _ _ hv
    obtain ⟨x, hx, rfl, -⟩ := in_P h.1 hp.1.1
    obtain ⟨y, hy, rfl, -⟩ := in_P h.1 hp.1.2
    simp (disch := omega) only [nI_toInt, Int.toNat_natCast]
    refine h.now (show WN (upd (upd (S 1) (62 + 7 * y + x) v) (62 + 7 * x + y) v) from ?_) rfl rfl rfl rfl
    exact (h.1.up (cOk.of (by omega) (by omega) (by omega) ⟨by omega, by omega, by omega, by omega, fun _ _ => u_of hv, by omega⟩)).up (cOk.of (by omega) (by omega) (by omega) ⟨by omega, by omega, by omega, by omega, fun _ _ => u_of hv, by omega⟩)
  · exact h.er 1
  · exact h.er 1
  · exact h.er 1
theorem km_ok {km : Int32} (h : 0 ≤ km ∧ km ≤ 69) : upto (km / 10) 0 6 ∧ upto (km - km / 10 * 10) 0 9 := by
  simp only [Int32.le_iff_toInt_le, Int32.reduceToInt] at h
  obtain ⟨k, hk, rfl⟩ := of_i (x := km) (n := 70) (by omega) (by omega) (by decide)
  have e : nI k / 10 = nI (k / 10) := pk_div (d := 10) (by omega) (by decide) (by decide)
  have e2 : nI k - nI k / 10 * 10 = nI (k % 10) := pk_rem (d := 10) (by omega) (by decide) (by decide)
  rw [e2, e]
  exact ⟨upto_nI (n := 6) (by omega) (by decide), upto_nI (n := 9) (by omega) (by decide)⟩
theorem w_tale {S : Mem} (h : WFS S) (km mk p : Int32) : WFS (sp_tale S km mk p).2 := by
  unfold sp_tale
  repeat' split
  · exact h.er 4
  · rename_i hkm hmk hp h7
    obtain ⟨q, hq, rfl, hqn⟩ := in_P h.1 hp
    obtain ⟨t, ht, et⟩ := of_upto (n := 7) h.1.2.2.1 (by decide)
    have ht7 : t < 7 := by
      have : ¬ t = 7 := fun z => h7 (by rw [et, z]; rfl)
      omega
    have htN : nT (S 1) = t := by unfold nT; rw [et, nI_toInt (by omega), Int.toNat_natCast]
    have hx : ∀ f, taIx (S 1 2) f = 111 + 6 * t + f := by
      intro f
      unfold taIx
      rw [et, nI_toInt (by omega), Int.toNat_natCast]
    rw [hx, hx, hx, hx, hx, hx]
    obtain ⟨k0, k1⟩ := km_ok hkm
    refine h.now (show WN (upd (upd (upd (upd (upd (upd (upd (S 1) (111 + 6 * t + 0) (km / 10)) (111 + 6 * t + 1) (km - km / 10 * 10)) (111 + 6 * t + 2) mk) (111 + 6 * t + 3) 0) (111 + 6 * t + 4) (nI q)) (111 + 6 * t + 5) 0) 2 (S 1 2 + 1)) from ?_) rfl rfl rfl rfl
    have hq1 : (nI q).toInt < (S 1 1).toInt := by
      rw [nI_toInt (by omega)]
      unfold nP at hqn
      omega
    have w0 := h.1.tale (t := t) (f := 0) (v := km / 10) ht7 (by decide) ⟨fun _ => k0, by omega, by omega, by omega, by omega, by omega⟩
    have w1 := w0.tale (t := t) (f := 1) (v := km - km / 10 * 10) ht7 (by decide) ⟨by omega, fun _ => k1, by omega, by omega, by omega, by omega⟩
    have w2 := w1.tale (t := t) (f := 2) (v := mk) ht7 (by decide) ⟨by omega, by omega, fun _ => u_of hmk, by omega, by omega, by omega⟩
    have w3 := w2.tale (t := t) (f := 3) (v := 0) ht7 (by decide) ⟨by omega, by omega, by omega, fun _ => ⟨by decide, by decide⟩, by omega, by omega⟩
    have w4 := w3.tale (t := t) (f := 4) (v := nI q) ht7 (by decide) ⟨by omega, by omega, by omega, by omega, fun _ => ⟨upto_nI (n := 6) (by omega) (by decide), fun _ => by
      rw [upd_ne (by omega), upd_ne (by omega), upd_ne (by omega), upd_ne (by omega)]
      exact hq1⟩, by omega⟩
    have w5 := w4.tale (t := t) (f := 5) (v := 0) ht7 (by decide) ⟨by omega, by omega, by omega, by omega, by omega, fun _ => ⟨by decide, by decide⟩⟩
    have e2 : (S 1 2 + 1) = nI (t + 1) := by rw [et, nI_1]
    rw [e2]
    refine w5.up ⟨by decide, by decide, by omega, by omega, fun _ => ⟨upto_nI (n := 7) (by omega) (by decide), fun s hs => ?_⟩, by omega, by omega, by omega, by omega, by omega, by omega⟩
    rw [nI_toInt (by omega), Int.toNat_natCast] at hs
    rw [show upd (upd (upd (upd (upd (upd (S 1) (111 + 6 * t + 0) (km / 10)) (111 + 6 * t + 1) (km - km / 10 * 10)) (111 + 6 * t + 2) mk) (111 + 6 * t + 3) 0) (111 + 6 * t + 4) (nI q)) (111 + 6 * t + 5) 0 1 = S 1 1 from by
      rw [upd_ne (by omega), upd_ne (by omega), upd_ne (by omega), upd_ne (by omega), upd_ne (by omega), upd_ne (by omega)]]
    unfold tf
    by_cases hst : s = t
    · subst hst
      rw [upd_ne (by omega), upd_eq rfl]
      exact hq1
    · rw [upd_ne (by omega), upd_ne (by omega), upd_ne (by omega), upd_ne (by omega), upd_ne (by omega), upd_ne (by omega)]
      exact h.1.2.2.2.2.2.2.2.2.2.1 s (by omega)
  · exact h.er 1
  · exact h.er 1
  · exact h.er 1
theorem w_change {S : Mem} (h : WFS S) (t w v : Int32) : WFS (sp_change S t w v).2 := by
  unfold sp_change
  have key : ∀ f, f < 6 → isT (S 1) t → (∀ k, k < 7 → k < nT (S 1) → (f = 0 → upto v 0 6) ∧ (f = 1 → upto v 0 9) ∧ (f = 2 → upto v 0 255) ∧ (f = 3 → upto v 0 9999) ∧ (f = 4 → upto v 0 6 ∧ (k < nT (S 1) → v.toInt < (S 1 1).toInt)) ∧ (f = 5 → upto v 0 9999)) → WFS (wr S 1 (taIx t f) v) := by
    intro f hf hT hc
    obtain ⟨k, hk, rfl, hkn⟩ := in_T h.1 hT
    have hx : taIx (nI k) f = 111 + 6 * k + f := by
      unfold taIx
      rw [nI_toInt (by omega), Int.toNat_natCast]
    rw [hx]
    exact h.w1 (h.1.tale hk hf (hc k hk hkn))
  repeat' split
  · rename_i hT _ hv
    exact key 2 (by decide) hT fun k _ _ => ⟨by omega, by omega, fun _ => u_of hv, by omega, by omega, by omega⟩
  · exact h.er 1
  · rename_i hT _ _ hp
    obtain ⟨q, hq, rfl, hqn⟩ := in_P h.1 hp
    exact key 4 (by decide) hT fun k _ _ => ⟨by omega, by omega, by omega, by omega, fun _ => ⟨upto_nI (n := 6) (by omega) (by decide), fun _ => by
      rw [nI_toInt (by omega)]
      unfold nP at hqn
      omega⟩, by omega⟩
  · exact h.er 1
  · rename_i hT _ _ _ hv _
    exact key 3 (by decide) hT fun k _ _ => ⟨by omega, by omega, by omega, fun _ => u_of hv, by omega, by omega⟩
  · rename_i hT _ _ _ hv _
    exact key 5 (by decide) hT fun k _ _ => ⟨by omega, by omega, by omega, by omega, by omega, fun _ => u_of hv⟩
  · exact h.er 1
  · exact h.er 1
  · exact h.er 1
theorem w_become {S : Mem} (h : WFS S) (t km : Int32) : WFS (sp_become S t km).2 := by
  unfold sp_become
  repeat' split
  · rename_i hT hkm
    obtain ⟨k, hk, rfl, hkn⟩ := in_T h.1 hT
    have hx : ∀ f, taIx (nI k) f = 111 + 6 * k + f := by
      intro f
      unfold taIx
      rw [nI_toInt (by omega), Int.toNat_natCast]
    rw [hx, hx]
    obtain ⟨k0, k1⟩ := km_ok hkm
    refine h.now (show WN (upd (upd (S 1) (111 + 6 * k + 1) (km - km / 10 * 10)) (111 + 6 * k + 0) (km / 10)) from ?_) rfl rfl rfl rfl
    exact (h.1.tale (t := k) (f := 1) hk (by decide) ⟨by omega, fun _ => k1, by omega, by omega, by omega, by omega⟩).tale (t := k) (f := 0) hk (by decide) ⟨fun _ => k0, by omega, by omega, by omega, by omega, by omega⟩
  · exact h.er 1
  · exact h.er 1
theorem w_seed {S : Mem} (h : WFS S) (v : Int32) : WFS (sp_seed S v).2 := h.w1 (h.1.cell (Or.inr rfl) (fun q => absurd q (by decide)))
theorem w_tell {S : Mem} (h : WFS S) (v : Int32) : WFS (sp_tell S v).2 := by
  unfold sp_tell
  split
  · exact h.er 4
  · rename_i h20
    have h1 := h.1.2.2.2.2.1.1
    have h2 := h.1.2.2.2.2.1.2
    simp only [← Int32.toInt_inj, Int32.reduceToInt] at h20
    have ha : (S 1 5 + 1).toInt = (S 1 5).toInt + 1 := t_add (by simp only [Int32.reduceToInt]; omega) (by simp only [Int32.reduceToInt]; omega)
    refine h.now (show WN (upd (upd (S 1) (203 + (S 1 5).toInt.toNat) v) 5 (S 1 5 + 1)) from ?_) rfl rfl rfl rfl
    exact (h.1.up (cOk.of (by omega) (by omega) (by omega) ⟨by omega, by omega, by omega, by omega, by omega, by omega⟩)).up (cOk.of (by decide) (by decide) (by decide) ⟨by omega, fun _ => ⟨by omega, by omega⟩, by omega, by omega, by omega, by omega⟩)
theorem w_check {S : Mem} (h : WFS S) : WFS (sp_check S).2 := h.w1 (h.1.up (cOk.of (by decide) (by decide) (by decide) ⟨by omega, fun _ => ⟨by decide, by decide⟩, by omega, by omega, by omega, by omega⟩))
theorem w_feed {S : Mem} (h : WFS S) (w : Int64) (n : Int32) : WFS (sp_feed S w n).2 := by
  unfold sp_feed
  repeat' split
  · exact h.er 4
  · rename_i hn h50
    have h1 := h.1.2.2.2.1.1
    have h2 := h.1.2.2.2.1.2
    simp only [Int32.le_iff_toInt_le, Int32.lt_iff_toInt_lt, Int32.reduceToInt] at hn h50
    rw [t_add (by omega) (by omega)] at h50
    exact h.n1 (WN_fdf h.1 _ (by omega))
  · exact h.er 1
theorem w_text {S : Mem} (h : WFS S) (u : Int32) : WFS (sp_text S u).2 := by
  unfold sp_text
  repeat' split
  · rename_i hu hc
    obtain ⟨z, hz, rfl⟩ : ∃ z, z < 2 ∧ u = nI z := by
      simp only [Int32.le_iff_toInt_le, Int32.reduceToInt] at hu
      exact of_i (by omega) (by omega) (by decide)
    rw [nI_toInt (by omega), Int.toNat_natCast] at hc ⊢
    have hx := pJ_ex (N := S 1) (u := z) 36 0 0 0 hc.1 0
    have hok := pJ_ok (N := S 1) (u := z) 36 0 0 0 (by omega) (by omega)
    have h4 := h.1.2.2.2.1.2
    obtain ⟨g1, g2, g3, g4⟩ := hok
    refine h.n1 (h.1.text hz (L := (txR (S 1) z).2.2) ?_ hx.1)
    show (pJ (S 1) z 36 0 0 0).2.2.length ≤ 50
    omega
  · exact h.w1 (h.1.up (cOk.of (by decide) (by decide) (by decide) ⟨fun _ => ⟨by decide, by decide⟩, by omega, by omega, by omega, by omega, by omega⟩))
  · exact h.er 1
theorem w_go {S : Mem} (h : WFS S) (t v : Int32) : WFS (sp_go S t v).2 := by
  unfold sp_go
  repeat' split
  · exact h.er 3
  · rename_i hT hP _ h0
    obtain ⟨k, hk, rfl, hkn⟩ := in_T h.1 hT
    obtain ⟨q, hq, rfl, hqn⟩ := in_P h.1 hP
    simp (disch := omega) only [nI_toInt, Int.toNat_natCast]
    exact h.n1 (h.1.gs hk hqn h0)
  · exact h.er 3
  · exact h.er 1
  · exact h.er 1
theorem w_loose {S : Mem} (h : WFS S) (n : Int32) : WFS (sp_loose S n).2 := by
  unfold sp_loose
  repeat' split
  · exact h.er 3
  · rename_i hn h9
    have h1 := h.1.1.1
    have h2 := h.1.1.2
    simp only [Int32.le_iff_toInt_le, Int32.lt_iff_toInt_lt, Int32.reduceToInt] at hn h9
    rw [t_add (by omega) (by omega)] at h9
    exact h.n1 (h.1.dK _ (by omega)).1
  · exact h.er 1
theorem w_marks {S : Mem} (h : WFS S) (s : Int32) : WFS (sp_marks S s).2 := by
  unfold sp_marks
  repeat' split
  · exact h.er 2
  · rename_i hs _
    obtain ⟨z, hz, rfl⟩ := in_3 hs
    have hZ := (h.2.2.2 z hz).2.1
    rw [nI_toInt (by omega), Int.toNat_natCast]
    have hle := (fsn_le (mkp (S 1) (S 12) z) (S 11 z).toInt.toNat 0).2
    have h40 := hZ.2
    exact h.n1 (WN_mkf h.1 _ (fun j hj => fsn_bef _ 0 _ rfl j (by omega) hj) (by omega))
  · exact h.er 1
theorem w_image {S : Mem} (h : WFS S) : WFS (sp_image S).2 := by
  refine ⟨h.1, ?_, h.2.2⟩
  exact WN_cpf h.1
theorem w_restore {S : Mem} (h : WFS S) : WFS (sp_restore S).2 := by
  unfold sp_restore
  split
  · exact h.er 2
  · exact h.n1 (WN_cpf h.2.1)
theorem w_sheet {S : Mem} (h : WFS S) (s b n : Int32) : WFS (sp_sheet S s b n).2 := by
  have key : ∀ z : Nat, z < 4 → (b = 0 ∨ b = 8 ∨ b = 16 ∨ b = 32) → ∀ n : Int32, upto n 0 40 → (b = 0 → n = 0) → WFS (shz S z b n) := by
    intro z hz hb n hn h0
    refine ⟨h.1, h.2.1, h.2.2.1, fun q hq => ?_⟩
    obtain ⟨k1, k2, k3⟩ := h.2.2.2 q hq
    show (upd (S 10) z b q = 0 ∨ upd (S 10) z b q = 8 ∨ upd (S 10) z b q = 16 ∨ upd (S 10) z b q = 32) ∧ upto (upd (S 11) z n q) 0 40 ∧ (upd (S 10) z b q = 0 → upd (S 11) z n q = 0)
    by_cases hqz : q = z
    · rw [upd_eq hqz, upd_eq hqz]; exact ⟨hb, hn, h0⟩
    · rw [upd_ne hqz, upd_ne hqz]; exact ⟨k1, k2, k3⟩
  unfold sp_sheet
  repeat' split
  · rename_i hs hb
    obtain ⟨z, hz, rfl⟩ := in_3 hs
    rw [nI_toInt (by omega), Int.toNat_natCast]
    have := key z hz (Or.inl hb) 0 ⟨by decide, by decide⟩ (fun _ => rfl)
    rw [hb] at this
    exact this
  · exact h.er 3
  · exact h.er 1
  · rename_i hs hb0 hb hn hn40
    obtain ⟨z, hz, rfl⟩ := in_3 hs
    rw [nI_toInt (by omega), Int.toNat_natCast]
    simp only [Int32.lt_iff_toInt_lt, Int32.reduceToInt] at hn hn40
    exact key z hz (Or.inr hb) n ⟨by omega, by omega⟩ (fun z => absurd z hb0)
  · exact h.er 1
  · exact h.er 1
theorem w_put {S : Mem} (h : WFS S) (s i v : Int32) : WFS (sp_put S s i v).2 := by
  unfold sp_put
  repeat' split
  all_goals first | exact h.er _ | exact h.of rfl rfl rfl rfl rfl
theorem w_move {S : Mem} (h : WFS S) (s i o j n : Int32) : WFS (sp_move S s i o j n).2 := by
  unfold sp_move
  repeat' split
  all_goals first | exact h.er _ | exact h.of rfl rfl rfl rfl rfl
theorem w_voice {S : Mem} (h : WFS S) (t act x : Int32) : WFS (sp_voice S t act x).2 := by
  unfold sp_voice
  repeat' split
  · rename_i hT ha
    obtain ⟨k, hk, rfl, hkn⟩ := in_T h.1 hT
    refine ⟨h.1, h.2.1, ?_, h.2.2.2⟩
    obtain ⟨kd, hkd, ek⟩ := of_upto (n := 6) (h.1.2.2.2.2.2.2.2.2.1 k hk).1 (by decide)
    simp only [Int32.le_iff_toInt_le, Int32.reduceToInt] at ha
    obtain ⟨z, hz, rfl⟩ := of_i (x := act) (n := 4) ha.1 (by omega) (by decide)
    rw [nI_toInt (by omega), Int.toNat_natCast, nI_toInt (by omega), Int.toNat_natCast, ek, nI_toInt (by omega), Int.toNat_natCast]
    have hLL : (vL kd z).length ≤ 40 := by
      rcases kd with _ | _ | _ | _ | _ | _ | _ | kd
      all_goals first | omega | (rcases z with _ | _ | _ | _ | z <;> first | omega | decide)
    exact upto_nI (n := 40) hLL (by decide)
  · exact h.er 1
  · exact h.er 1
theorem w_ofPlace {S : Mem} (h : WFS S) (v w : Int32) : WFS (sp_ofPlace S v w).2 := by
  unfold sp_ofPlace
  repeat' split
  all_goals first | exact h | exact h.er _
theorem w_between {S : Mem} (h : WFS S) (a b w : Int32) : WFS (sp_between S a b w).2 := by
  unfold sp_between
  repeat' split
  all_goals first | exact h | exact h.er _
theorem w_ofTale {S : Mem} (h : WFS S) (t w : Int32) : WFS (sp_ofTale S t w).2 := by
  unfold sp_ofTale
  repeat' split
  all_goals first | exact h | exact h.er _
theorem w_as {S : Mem} (h : WFS S) (t k : Int32) : WFS (sp_as S t k).2 := by
  unfold sp_as
  repeat' split
  all_goals first | exact h | exact h.er _
theorem w_law {S : Mem} (h : WFS S) (u a b c : Int32) : WFS (sp_law S u a b c).2 := by
  unfold sp_law
  repeat' split
  all_goals first | exact h | exact h.er _
theorem w_reach {S : Mem} (h : WFS S) (t v w : Int32) : WFS (sp_reach S t v w).2 := by
  unfold sp_reach
  repeat' split
  all_goals first | exact h | exact h.er _
theorem w_cheap {S : Mem} (h : WFS S) (t v w : Int32) : WFS (sp_cheap S t v w).2 := by
  unfold sp_cheap
  repeat' split
  all_goals first | exact h | exact h.er _
theorem w_can {S : Mem} (h : WFS S) (t n : Int32) : WFS (sp_can S t n).2 := by
  unfold sp_can
  repeat' split
  all_goals first | exact h | exact h.er _
theorem w_marked {S : Mem} (h : WFS S) (t n : Int32) : WFS (sp_marked S t n).2 := by
  unfold sp_marked
  repeat' split
  all_goals first | exact h | exact h.er _
theorem w_from {S : Mem} (h : WFS S) (s t w : Int32) : WFS (sp_from S s t w).2 := by
  unfold sp_from
  repeat' split
  all_goals first | exact h | exact h.er _
theorem w_best {S : Mem} (h : WFS S) (w : Int32) : WFS (sp_best S w).2 := by
  unfold sp_best
  repeat' split
  all_goals first | exact h | exact h.er _
theorem w_late {S : Mem} (h : WFS S) (t : Int32) : WFS (sp_late S t).2 := by
  unfold sp_late
  repeat' split
  all_goals first | exact h | exact h.er _
theorem w_round {S : Mem} (h : WFS S) (t : Int32) : WFS (sp_round S t).2 := by
  unfold sp_round
  repeat' split
  all_goals first | exact h | exact h.er _
theorem w_own {S : Mem} (h : WFS S) (t : Int32) : WFS (sp_own S t).2 := by
  unfold sp_own
  repeat' split
  all_goals first | exact h | exact h.er _
theorem w_odds {S : Mem} (h : WFS S) (t w : Int32) : WFS (sp_odds S t w).2 := by
  unfold sp_odds
  repeat' split
  all_goals first | exact h | exact h.er _
theorem w_trace {S : Mem} (h : WFS S) (i : Int32) : WFS (sp_trace S i).2 := by
  unfold sp_trace
  repeat' split
  all_goals first | exact h | exact h.er _
theorem w_judge {S : Mem} (h : WFS S) (s : Int32) : WFS (sp_judge S s).2 := by
  unfold sp_judge
  repeat' split
  all_goals first | exact h | exact h.er _
theorem w_count {S : Mem} (h : WFS S) (w : Int32) : WFS (sp_count S w).2 := by
  unfold sp_count
  repeat' split
  all_goals first | exact h | exact h.er _
theorem w_told {S : Mem} (h : WFS S) (k : Int32) : WFS (sp_told S k).2 := by
  unfold sp_told
  repeat' split
  all_goals first | exact h | exact h.er _
