/-! the memory at the start -/
def mu0 : Mem := fun i => if i = 71 then upd (fun _ => 0) 3 1 else if i = 1 then upd (fun _ => 0) 11 1 else if i = 25 then upd (fun _ => 0) 11 1 else fun _ => 0
theorem up0 {x : Int32} {b : Int} (h : x = 0) (hb : 0 ≤ b) : upto x 0 b := by
  subst h
  exact ⟨Int.le_refl _, hb⟩
theorem WN_0 {N : Nat → Int32} (h : ∀ j, j ≠ 3 → N j = 0) : WN N := by
  have e2 : nT N = 0 := by unfold nT; rw [h 2 (by decide)]; rfl
  have e3 : (N 223).toInt.toNat = 0 := by rw [h 223 (by decide)]; rfl
  have e4 : (N 275).toInt.toNat = 0 := by rw [h 275 (by decide)]; rfl
  have et : ∀ t f, tf N t f = 0 := fun t f => h _ (by omega)
  refine ⟨up0 (h _ (by decide)) (by decide), up0 (h _ (by decide)) (by decide), up0 (h _ (by decide)) (by decide), up0 (h _ (by decide)) (by decide), up0 (h _ (by decide)) (by decide), fun j _ => up0 (h _ (by omega)) (by decide), fun j _ => up0 (h _ (by omega)) (by decide), fun j _ => up0 (h _ (by omega)) (by decide), fun t _ => ⟨up0 (et _ _) (by decide), up0 (et _ _) (by decide), up0 (et _ _) (by decide), up0 (et _ _) (by decide), up0 (et _ _) (by decide), up0 (et _ _) (by decide)⟩, fun t ht => ?_, fun j _ => up0 (h _ (by omega)) (by decide), ⟨up0 (h _ (by decide)) (by decide), ?_⟩, ⟨up0 (h _ (by decide)) (by decide), ?_⟩⟩
  · rw [e2] at ht
    exact absurd ht (by omega)
  · rw [e3]
    exact fun j hj => absurd hj (by omega)
  · rw [e4]
    exact fun j hj => absurd hj (by omega)
theorem mu0_z {i : Nat} (h1 : i ≠ 71) (h2 : i ≠ 1) (h3 : i ≠ 25) : mu0 i = fun _ => 0 := by
  unfold mu0
  rw [if_neg h1, if_neg h2, if_neg h3]
theorem n0 {j : Nat} (h : j ≠ 3) : mu0 71 j = 0 := by
  show upd (fun _ => 0) 3 1 j = 0
  exact upd_ne (f := fun _ => 0) h
theorem Inv_0 : Inv mu0 := by
  have z : ∀ i k, i ≠ 71 → i ≠ 1 → i ≠ 25 → mu0 i k = 0 := fun i k h1 h2 h3 => by rw [mu0_z h1 h2 h3]
  have zi : ∀ k, (mu0 71 k).toInt.toNat = 0 ∨ k = 3 := fun k => by
    by_cases h : k = 3
    · exact Or.inr h
    · left; rw [n0 h]; rfl
  have nz : ∀ k (_ : k ≠ 3) j, ¬ j < (mu0 71 k).toInt.toNat := fun k hk j hj => by
    rw [n0 hk] at hj
    exact absurd hj (Nat.not_lt_zero _)
  refine ⟨⟨⟨WN_0 (fun j hj => n0 hj), WN_0 (fun j _ => z 72 j (by decide) (by decide) (by decide)), up0 (z 70 20 (by decide) (by decide) (by decide)) (by decide), fun s hs => ⟨Or.inl (z 80 s (by decide) (by decide) (by decide)), up0 (z 81 s (by decide) (by decide) (by decide)) (by decide), fun _ => z 81 s (by decide) (by decide) (by decide)⟩⟩, ?_, Or.inl (z 70 2 (by decide) (by decide) (by decide)), ?_⟩⟩
  · refine ⟨⟨?_, ?_, ?_, ?_⟩, fun j hj => ?_, fun j hj => ?_, fun j hj => ?_, fun t ht f hf => ?_, ⟨?_, fun j hj => absurd hj (nz 4 (by decide) j)⟩, ⟨?_, fun j hj => absurd hj (nz 5 (by decide) j)⟩, ⟨?_, fun j hj => absurd hj (nz 223 (by decide) j)⟩, ⟨?_, fun j hj => absurd hj (nz 275 (by decide) j)⟩⟩
    · rfl
    · rfl
    · rfl
    · rfl
    · exact (z _ j (by decide) (by decide) (by decide)).trans (n0 (by omega)).symm
    · exact (z _ j (by decide) (by decide) (by decide)).trans (n0 (by omega)).symm
    · exact (z _ j (by decide) (by decide) (by decide)).trans (n0 (by omega)).symm
    · exact (z _ f (by omega) (by omega) (by omega)).trans (n0 (by omega)).symm
    · rfl
    · rfl
    · rfl
    · rfl
  · refine ⟨fun k hk => ?_, ?_, ⟨?_, fun j hj => ?_⟩, fun s hs => ⟨?_, ?_, fun j hj => ?_⟩⟩
    · exact (z 69 k (by decide) (by decide) (by decide)).trans (z 73 k (by decide) (by decide) (by decide)).symm
    · exact (z 0 7 (by decide) (by decide) (by decide)).trans (z 70 2 (by decide) (by decide) (by decide)).symm
    · exact (z 58 1 (by decide) (by decide) (by decide)).trans (z 70 20 (by decide) (by decide) (by decide)).symm
    · exact (z 59 j (by decide) (by decide) (by decide)).trans (z 79 j (by decide) (by decide) (by decide)).symm
    · exact (z _ 2 (by omega) (by omega) (by omega)).trans (z 80 s (by decide) (by decide) (by decide)).symm
    · exact (z _ 1 (by omega) (by omega) (by omega)).trans (z 81 s (by decide) (by decide) (by decide)).symm
    · exact (z _ j (by omega) (by omega) (by omega)).trans (z 82 _ (by decide) (by decide) (by decide)).symm
def adOf (Q : List Nat) (t0 t1 t2 b : Nat) (aK aV : Nat → Nat) (i : Nat) : Nat := if i < 84 then Q.getD i 0 else if i < 1003 then (if i = 1000 then t0 else if i = 1001 then t1 else t2) else if i < 1005 then aK (i - 1003) else if i < 2000 then aV (i - 1005) else b
