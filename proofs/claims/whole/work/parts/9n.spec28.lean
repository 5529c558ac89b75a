/-! the document's grammar, read once: whether it reads, where it stops, the items -/
abbrev PR : Type := Bool × Nat × List Int32
def pkk (N : Nat → Int32) (a : Nat) : Int32 := if a < (N 4).toInt.toNat then N (153 + a) else -1
def lev (c : Int32) : Nat := if c = 124 then 0 else if c = 38 then 1 else if c = 60 ∨ c = 61 ∨ c = 62 then 2 else if c = 43 ∨ c = 45 then 3 else if c = 42 ∨ c = 47 ∨ c = 37 then 4 else 5
def opc (c : Int32) : Int32 := if c = 124 then 20000 else if c = 38 then 20001 else if c = 60 then 20002 else if c = 61 then 20003 else if c = 62 then 20004 else if c = 43 then 20005 else if c = 45 then 20006 else if c = 42 then 20007 else if c = 47 then 20008 else 20009
abbrev isD (c : Int32) : Prop := 48 ≤ c ∧ c ≤ 57
/-- the number of up to i digits more, and where it ends -/
def dgs (N : Nat → Int32) : Nat → Nat → Int32 → Nat × Int32
  | 0, a, v => (a, v)
  | i + 1, a, v => if isD (pkk N a) then dgs N i (a + 1) (v * 10 + pkk N a - 48) else (a, v)
/-- which name of a use a byte is; 3: none -/
def nmi (u : Nat) (c : Int32) : Nat := if u = 0 then (if c = 98 then 0 else if c = 121 then 1 else if c = 112 then 2 else 3) else (if c = 98 then 0 else if c = 100 then 1 else if c = 109 then 2 else 3)
/-- what is joined on one level, behind its first part -/
def pLp (N : Nat → Int32) (s : Nat → PR) (l : Nat) : Nat → Nat → PR
  | 0, a => (true, a, [])
  | i + 1, a => if lev (pkk N a) = l then (if (s (a + 1)).1 = true then (if l = 2 then (true, (s (a + 1)).2.1, (s (a + 1)).2.2 ++ [opc (pkk N a)]) else ((pLp N s l i (s (a + 1)).2.1).1, (pLp N s l i (s (a + 1)).2.1).2.1, (s (a + 1)).2.2 ++ opc (pkk N a) :: (pLp N s l i (s (a + 1)).2.1).2.2)) else (false, (s (a + 1)).2)) else (true, a, [])
def pOne (N : Nat → Int32) (u : Nat) (s : Nat → Nat → PR) (o a : Nat) : PR :=
  if isD (pkk N a) then (true, (dgs N 4 a 0).1, [(dgs N 4 a 0).2])
  else if nmi u (pkk N a) < 3 then (true, a + 1, [10000 + nI (nmi u (pkk N a))])
  else if o = 5 ∨ ¬ (pkk N a = 33 ∨ pkk N a = 40) then (false, a, [])
  else if pkk N a = 33 then (if (s 5 (a + 1)).1 = true then (true, (s 5 (a + 1)).2.1, (s 5 (a + 1)).2.2 ++ [20010]) else (false, (s 5 (a + 1)).2))
  else (if (s 0 (a + 1)).1 = true ∧ pkk N (s 0 (a + 1)).2.1 = 41 then (true, (s 0 (a + 1)).2.1 + 1, (s 0 (a + 1)).2.2) else (false, (s 0 (a + 1)).2))
def pJ (N : Nat → Int32) (u : Nat) : Nat → Nat → Nat → Nat → PR
  | 0, _, _, a => (false, a, [])
  | f + 1, l, o, a => if l = 5 then pOne N u (fun l a => pJ N u f l (o + 1) a) o a
    else if (pJ N u f (l + 1) o a).1 = true then ((pLp N (fun a => pJ N u f (l + 1) o a) l 51 (pJ N u f (l + 1) o a).2.1).1, (pLp N (fun a => pJ N u f (l + 1) o a) l 51 (pJ N u f (l + 1) o a).2.1).2.1, (pJ N u f (l + 1) o a).2.2 ++ (pLp N (fun a => pJ N u f (l + 1) o a) l 51 (pJ N u f (l + 1) o a).2.1).2.2)
    else (false, (pJ N u f (l + 1) o a).2)
/-- a reading goes on, and has no more items than bytes -/
def okR (N : Nat → Int32) (a : Nat) (r : PR) : Prop := a ≤ r.2.1 ∧ r.2.1 ≤ (N 4).toInt.toNat ∧ r.2.2.length + a ≤ r.2.1 ∧ (r.1 = true → a + 1 ≤ r.2.1)
theorem pkk_lt {N : Nat → Int32} {a : Nat} (h : ¬ pkk N a = -1) : a < (N 4).toInt.toNat := by
  unfold pkk at h
  by_cases q : a < (N 4).toInt.toNat
  · exact q
  · rw [if_neg q] at h
    exact absurd rfl h
theorem lev_lt {N : Nat → Int32} {a : Nat} (h : lev (pkk N a) < 5) : a < (N 4).toInt.toNat := by
  refine pkk_lt fun q => ?_
  rw [q] at h
  exact absurd h (by decide)
theorem isD_lt {N : Nat → Int32} {a : Nat} (h : isD (pkk N a)) : a < (N 4).toInt.toNat := by
  refine pkk_lt fun q => ?_
  rw [q] at h
  exact absurd h (by decide)
theorem nmi_lt {N : Nat → Int32} {a u : Nat} (h : nmi u (pkk N a) < 3) : a < (N 4).toInt.toNat := by
  refine pkk_lt fun q => ?_
  rw [q] at h
  unfold nmi at h
  split at h <;> exact absurd h (by decide)
theorem dgs_ok {N : Nat → Int32} : ∀ i a v, a ≤ (N 4).toInt.toNat → a ≤ (dgs N i a v).1 ∧ (dgs N i a v).1 ≤ (N 4).toInt.toNat := by
  intro i
  induction i with
  | zero => intro a v h; exact ⟨Nat.le_refl _, h⟩
  | succ i ih =>
    intro a v h
    unfold dgs
    split
    · rename_i hd
      have := isD_lt hd
      have := ih (a + 1) (v * 10 + pkk N a - 48) (by omega)
      omega
    · exact ⟨Nat.le_refl _, h⟩
theorem pLp_ok {N : Nat → Int32} {s : Nat → PR} {l : Nat} (hl : l < 5) (hs : ∀ a, a ≤ (N 4).toInt.toNat → okR N a (s a)) : ∀ i a, a ≤ (N 4).toInt.toNat → a ≤ (pLp N s l i a).2.1 ∧ (pLp N s l i a).2.1 ≤ (N 4).toInt.toNat ∧ (pLp N s l i a).2.2.length + a ≤ (pLp N s l i a).2.1 := by
  intro i
  induction i with
  | zero => intro a h; exact ⟨Nat.le_refl _, h, by show 0 + a ≤ a; omega⟩
  | succ i ih =>
    intro a h
    unfold pLp
    split
    · rename_i hv
      have ha := lev_lt (N := N) (a := a) (by omega)
      obtain ⟨h1, h2, h3, h4⟩ := hs (a + 1) (by omega)
      split
      · rename_i hok
        split
        · simp only [List.length_append, List.length_cons, List.length_nil]
          omega
        · obtain ⟨k1, k2, k3⟩ := ih (s (a + 1)).2.1 h2
          simp only [List.length_append, List.length_cons]
          omega
      · show a ≤ (s (a + 1)).2.1 ∧ (s (a + 1)).2.1 ≤ (N 4).toInt.toNat ∧ (s (a + 1)).2.2.length + a ≤ (s (a + 1)).2.1
        omega
    · exact ⟨Nat.le_refl _, h, by show 0 + a ≤ a; omega⟩
theorem pJ_ok {N : Nat → Int32} {u : Nat} : ∀ f l o a, l ≤ 5 → a ≤ (N 4).toInt.toNat → okR N a (pJ N u f l o a) := by
  intro f
  induction f with
  | zero =>
    intro l o a _ h
    exact ⟨Nat.le_refl _, h, by show 0 + a ≤ a; omega, fun q => absurd q (by decide : ¬ (false = true))⟩
  | succ f ih =>
    intro l o a hl h
    show okR N a (if l = 5 then _ else _)
    by_cases h5 : l = 5
    · rw [if_pos h5]
      unfold pOne
      split
      · rename_i hd
        have h1 := isD_lt hd
        have e : dgs N 4 a 0 = dgs N 3 (a + 1) (0 * 10 + pkk N a - 48) := by
          show (if isD (pkk N a) then _ else _) = _
          rw [if_pos hd]
        have := dgs_ok (N := N) 3 (a + 1) (0 * 10 + pkk N a - 48) (by omega)
        rw [e]
        unfold okR
        simp only [List.length_cons, List.length_nil]
        omega
      · split
        · rename_i hn
          have := nmi_lt hn
          unfold okR
          simp only [List.length_cons, List.length_nil]
          omega
        · split
          · exact ⟨Nat.le_refl _, h, by show 0 + a ≤ a; omega, fun q => absurd q (by decide : ¬ (false = true))⟩
          · rename_i hq
            have h40 : pkk N a = 33 ∨ pkk N a = 40 := Classical.not_not.mp fun z => hq (Or.inr z)
            have ha : a < (N 4).toInt.toNat := pkk_lt fun z => by
              rw [z] at h40
              exact absurd h40 (by decide)
            split
            · obtain ⟨h1, h2, h3, h4⟩ := ih 5 (o + 1) (a + 1) (by omega) (by omega)
              split
              · unfold okR
                simp only [List.length_append, List.length_cons, List.length_nil]
                omega
              · refine ⟨?_, h2, ?_, fun q => absurd q (by decide : ¬ (false = true))⟩
                · show a ≤ (pJ N u f 5 (o + 1) (a + 1)).2.1
                  omega
                · show (pJ N u f 5 (o + 1) (a + 1)).2.2.length + a ≤ (pJ N u f 5 (o + 1) (a + 1)).2.1
                  omega
            · obtain ⟨h1, h2, h3, h4⟩ := ih 0 (o + 1) (a + 1) (by omega) (by omega)
              split
              · rename_i hc
                have := pkk_lt (N := N) (a := (pJ N u f 0 (o + 1) (a + 1)).2.1) (fun z => by
                  rw [z] at hc
                  exact absurd hc.2 (by decide))
                unfold okR
                simp only
                omega
              · refine ⟨?_, h2, ?_, fun q => absurd q (by decide : ¬ (false = true))⟩
                · show a ≤ (pJ N u f 0 (o + 1) (a + 1)).2.1
                  omega
                · show (pJ N u f 0 (o + 1) (a + 1)).2.2.length + a ≤ (pJ N u f 0 (o + 1) (a + 1)).2.1
                  omega
    · rw [if_neg h5]
      obtain ⟨h1, h2, h3, h4⟩ := ih (l + 1) o a (by omega) h
      split
      · rename_i hok
        have h4 := h4 hok
        obtain ⟨k1, k2, k3⟩ := pLp_ok (N := N) (s := fun a => pJ N u f (l + 1) o a) (l := l) (by omega) (fun a ha => ih (l + 1) o a (by omega) ha) 51 (pJ N u f (l + 1) o a).2.1 h2
        unfold okR
        simp only [List.length_append]
        omega
      · refine ⟨h1, h2, h3, fun q => absurd q (by decide : ¬ (false = true))⟩
theorem apd_app {L M : List Int32} : ∀ {r : Nat → Int32} {tr : Nat}, apd r tr (L ++ M) = apd (apd r tr L) (tr + L.length) M := by
  induction L with
  | nil => intro r tr; rfl
  | cons b L ih =>
    intro r tr
    show apd (upd r tr b) (tr + 1) (L ++ M) = apd (apd (upd r tr b) (tr + 1) L) (tr + (L.length + 1)) M
    rw [ih, show tr + (L.length + 1) = tr + 1 + L.length by omega]
theorem apd_1 {r : Nat → Int32} {tr : Nat} {b : Int32} : apd r tr [b] = upd r tr b := rfl
/-- items that may stand behind a pile of k -/
def lok : List Int32 → Nat → Prop
  | [], _ => True
  | x :: M, k => itOk x k ∧ lok M (itD x k)
def ldp : List Int32 → Nat → Nat
  | [], k => k
  | x :: M, k => ldp M (itD x k)
theorem lok_app {L M : List Int32} : ∀ {k : Nat}, lok (L ++ M) k ↔ lok L k ∧ lok M (ldp L k) := by
  induction L with
  | nil => intro k; exact ⟨fun h => ⟨trivial, h⟩, fun h => h.2⟩
  | cons x L ih =>
    intro k
    show itOk x k ∧ lok (L ++ M) (itD x k) ↔ (itOk x k ∧ lok L (itD x k)) ∧ lok M (ldp L (itD x k))
    rw [ih]
    exact ⟨fun h => ⟨⟨h.1, h.2.1⟩, h.2.2⟩, fun h => ⟨h.1.1, h.1.2, h.2⟩⟩
theorem ldp_app {L M : List Int32} : ∀ {k : Nat}, ldp (L ++ M) k = ldp M (ldp L k) := by
  induction L with
  | nil => intro k; rfl
  | cons x L ih => intro k; exact ih
def exL (L : List Int32) : Prop := ∀ k, lok L k ∧ ldp L k = k + 1
theorem opc_rng (c : Int32) : 20000 ≤ (opc c).toInt ∧ (opc c).toInt < 20010 := by
  unfold opc
  repeat' split
  all_goals decide
theorem itD_op {c : Int32} {k : Nat} : itD (opc c) k = k - 1 := by
  obtain ⟨h1, h2⟩ := opc_rng c
  unfold itD
  rw [if_neg (by simp only [Int32.lt_iff_toInt_lt, Int32.reduceToInt]; omega), if_neg (by simp only [← Int32.toInt_inj, Int32.reduceToInt]; omega)]
theorem exL_op {L : List Int32} (h : exL L) {c : Int32} {k : Nat} : lok (L ++ [opc c]) (k + 1) ∧ ldp (L ++ [opc c]) (k + 1) = k + 1 := by
  obtain ⟨h1, h2⟩ := h (k + 1)
  rw [lok_app, ldp_app, h2]
  refine ⟨⟨h1, ⟨Or.inr (Or.inr ⟨(opc_rng c).1, (opc_rng c).2, by omega⟩), trivial⟩⟩, ?_⟩
  show itD (opc c) (k + 1 + 1) = k + 1
  rw [itD_op]
  omega
theorem pLp_ex {N : Nat → Int32} {s : Nat → PR} {l : Nat} (hs : ∀ a, (s a).1 = true → exL (s a).2.2) : ∀ i a, (pLp N s l i a).1 = true → ∀ k, lok (pLp N s l i a).2.2 (k + 1) ∧ ldp (pLp N s l i a).2.2 (k + 1) = k + 1 := by
  intro i
  induction i with
  | zero => intro a _ k; exact ⟨trivial, rfl⟩
  | succ i ih =>
    intro a
    unfold pLp
    split
    · split
      · rename_i hok
        have hx := hs (a + 1) hok
        split
        · intro _ k
          exact exL_op hx
        · intro h k
          obtain ⟨h1, h2⟩ := ih _ h k
          obtain ⟨h3, h4⟩ := exL_op hx (c := pkk N a) (k := k)
          have e : (s (a + 1)).2.2 ++ opc (pkk N a) :: (pLp N s l i (s (a + 1)).2.1).2.2 = ((s (a + 1)).2.2 ++ [opc (pkk N a)]) ++ (pLp N s l i (s (a + 1)).2.1).2.2 := by simp
          show lok ((s (a + 1)).2.2 ++ opc (pkk N a) :: (pLp N s l i (s (a + 1)).2.1).2.2) (k + 1) ∧ ldp ((s (a + 1)).2.2 ++ opc (pkk N a) :: (pLp N s l i (s (a + 1)).2.1).2.2) (k + 1) = k + 1
          rw [e]
          generalize (s (a + 1)).2.2 ++ [opc (pkk N a)] = LL at h3 h4 ⊢
          rw [lok_app, ldp_app, h4]
          exact ⟨⟨h3, h1⟩, h2⟩
      · intro h; exact absurd h (by decide : ¬ (false = true))
    · intro _ k; exact ⟨trivial, rfl⟩
theorem isD_rng {N : Nat → Int32} {a : Nat} (h : isD (pkk N a)) : 48 ≤ (pkk N a).toInt ∧ (pkk N a).toInt ≤ 57 := by
  unfold isD at h
  simp only [Int32.le_iff_toInt_le, Int32.reduceToInt] at h
  exact h
theorem dgs_rng {N : Nat → Int32} : ∀ (i a : Nat) (v : Int32) (b : Nat), i + b ≤ 4 → 0 ≤ v.toInt → v.toInt < 10 ^ b → 0 ≤ (dgs N i a v).2.toInt ∧ (dgs N i a v).2.toInt < 10000 := by
  intro i
  induction i with
  | zero =>
    intro a v b hb h0 h1
    have : (10 : Int) ^ b ≤ 10000 := by
      have : b = 0 ∨ b = 1 ∨ b = 2 ∨ b = 3 ∨ b = 4 := by omega
      rcases this with rfl | rfl | rfl | rfl | rfl <;> decide
    exact ⟨h0, by show v.toInt < 10000; omega⟩
  | succ i ih =>
    intro a v b hb h0 h1
    have hp : (10 : Int) ^ b ≤ 1000 := by
      have : b = 0 ∨ b = 1 ∨ b = 2 ∨ b = 3 := by omega
      rcases this with rfl | rfl | rfl | rfl <;> decide
    have hs : (10 : Int) ^ (b + 1) = 10 ^ b * 10 := Int.pow_succ 10 b
    unfold dgs
    split
    · rename_i hd
      obtain ⟨d1, d2⟩ := isD_rng hd
      have e : (v * 10 + pkk N a - 48).toInt = v.toInt * 10 + (pkk N a).toInt - 48 := by
        rw [Int32.toInt_sub, Int32.toInt_add, Int32.toInt_mul]
        simp only [Int32.reduceToInt, Int.bmod_def]
        omega
      exact ih (a + 1) _ (b + 1) (by omega) (by omega) (by omega)
    · exact ⟨h0, by show v.toInt < 10000; omega⟩
theorem pJ_ex {N : Nat → Int32} {u : Nat} : ∀ f l o a, (pJ N u f l o a).1 = true → exL (pJ N u f l o a).2.2 := by
  intro f
  induction f with
  | zero => intro l o a h; exact absurd h (by decide : ¬ (false = true))
  | succ f ih =>
    intro l o a
    show (if l = 5 then _ else _ : PR).1 = true → exL (if l = 5 then _ else _ : PR).2.2
    by_cases h5 : l = 5
    · rw [if_pos h5]
      unfold pOne
      have num : ∀ v : Int32, 0 ≤ v.toInt → v.toInt < 10003 → exL [v] := by
        intro v h0 h1 k
        refine ⟨⟨Or.inl ⟨h0, h1⟩, trivial⟩, ?_⟩
        show itD v k = k + 1
        unfold itD
        rw [if_pos (by simp only [Int32.lt_iff_toInt_lt, Int32.reduceToInt]; omega)]
      split
      · intro _
        have := dgs_rng (N := N) 4 a 0 0 (by omega) (by decide) (by decide)
        exact num _ this.1 (by omega)
      · split
        · rename_i hn
          intro _
          generalize nmi u (pkk N a) = q at hn
          refine num _ ?_ ?_
          · rw [show (10000 : Int32) = nI 10000 from rfl, nI_add, nI_toInt (by omega)]; omega
          · rw [show (10000 : Int32) = nI 10000 from rfl, nI_add, nI_toInt (by omega)]; omega
        · split
          · intro h; exact absurd h (by decide : ¬ (false = true))
          · split
            · split
              · rename_i hok
                intro _ k
                obtain ⟨h1, h2⟩ := ih 5 (o + 1) (a + 1) hok k
                show lok ((pJ N u f 5 (o + 1) (a + 1)).2.2 ++ [20010]) k ∧ ldp ((pJ N u f 5 (o + 1) (a + 1)).2.2 ++ [20010]) k = k + 1
                rw [lok_app, ldp_app, h2]
                exact ⟨⟨h1, ⟨Or.inr (Or.inl ⟨rfl, by omega⟩), trivial⟩⟩, rfl⟩
              · intro h; exact absurd h (by decide : ¬ (false = true))
            · split
              · rename_i hok
                intro _
                exact ih 0 (o + 1) (a + 1) hok.1
              · intro h; exact absurd h (by decide : ¬ (false = true))
    · rw [if_neg h5]
      split
      · rename_i hok
        intro h k
        obtain ⟨h1, h2⟩ := ih (l + 1) o a hok k
        obtain ⟨h3, h4⟩ := pLp_ex (N := N) (s := fun a => pJ N u f (l + 1) o a) (l := l) (fun a ha => ih (l + 1) o a ha) 51 _ h k
        show lok ((pJ N u f (l + 1) o a).2.2 ++ (pLp N (fun a => pJ N u f (l + 1) o a) l 51 (pJ N u f (l + 1) o a).2.1).2.2) k ∧ ldp ((pJ N u f (l + 1) o a).2.2 ++ (pLp N (fun a => pJ N u f (l + 1) o a) l 51 (pJ N u f (l + 1) o a).2.1).2.2) k = k + 1
        rw [lok_app, ldp_app, h2]
        exact ⟨⟨h1, h3⟩, h4⟩
      · intro h; exact absurd h (by decide : ¬ (false = true))
