/-! what the law's start makes is the world at mu0 -/
def mi {α β : Type} (f : Nat → α → β) : Nat → List α → List β
  | _, [] => []
  | k, a :: l => f k a :: mi f (k + 1) l
theorem mi_of {α β : Type} (f : Nat → α → β) : ∀ (l : List α) (k : Nat), mi f k l = l.mapIdx (fun i => f (k + i)) := by
  intro l
  induction l with
  | nil => intro k; simp [mi]
  | cons a l ih =>
    intro k
    rw [mi, ih, List.mapIdx_cons]
    have e1 : (fun i => f (k + 1 + i)) = fun i => f (k + (i + 1)) := by
      funext i
      rw [show k + 1 + i = k + (i + 1) by omega]
    rw [e1]
    all_goals rfl
theorem wld_mi (X : Cx) (μ : Mem) : wld X μ = mi (fun i s => (xad X i, ent X μ i s)) 0 shL := by
  rw [mi_of]
  unfold wld
  simp only [Nat.zero_add]
theorem ent_obj (X : Cx) (μ : Mem) (i ci : Nat) (fs : List (Option Nat)) : ent X μ i (.inl (ci, fs)) = .inr (ci, mi (fld (xad X) μ i) 0 fs) := by
  rw [mi_of]
  unfold ent
  simp only [Nat.zero_add]
theorem ce {α β : Type} {f : Nat → α → β} {k : Nat} {a : α} {l : List α} {b : β} {l' : List β} (h : f k a = b) (h2 : mi f (k + 1) l = l') : mi f k (a :: l) = b :: l' := by
  subst h
  subst h2
  rfl
theorem ra_5 (f : Nat → Nat) : (fun j => (([6, 7, 8, 9, 10, 11, 12] : List Nat)[j]?).map f) = (va_up (va_up (va_up (va_up (va_up (va_up (va_up (fun _ => none) 0 (some (f 6))) 1 (some (f 7))) 2 (some (f 8))) 3 (some (f 9))) 4 (some (f 10))) 5 (some (f 11))) 6 (some (f 12))) := by
  funext j
  match j with
  | 0 => rfl
  | 1 => rfl
  | 2 => rfl
  | 3 => rfl
  | 4 => rfl
  | 5 => rfl
  | 6 => rfl
  | j + 7 =>
    have e : ([6, 7, 8, 9, 10, 11, 12] : List Nat)[j + 7]? = none := List.getElem?_eq_none (by simp only [List.length_cons, List.length_nil]; omega)
    show Option.map f (([6, 7, 8, 9, 10, 11, 12] : List Nat)[j + 7]?) = _
    rw [e, va_up_ne _ _ (show j + 7 ≠ 6 by omega), va_up_ne _ _ (show j + 7 ≠ 5 by omega), va_up_ne _ _ (show j + 7 ≠ 4 by omega), va_up_ne _ _ (show j + 7 ≠ 3 by omega), va_up_ne _ _ (show j + 7 ≠ 2 by omega), va_up_ne _ _ (show j + 7 ≠ 1 by omega), va_up_ne _ _ (show j + 7 ≠ 0 by omega)]
    all_goals rfl
theorem ra_29 (f : Nat → Nat) : (fun j => (([30, 31, 32, 33, 34, 35, 36] : List Nat)[j]?).map f) = (va_up (va_up (va_up (va_up (va_up (va_up (va_up (fun _ => none) 0 (some (f 30))) 1 (some (f 31))) 2 (some (f 32))) 3 (some (f 33))) 4 (some (f 34))) 5 (some (f 35))) 6 (some (f 36))) := by
  funext j
  match j with
  | 0 => rfl
  | 1 => rfl
  | 2 => rfl
  | 3 => rfl
  | 4 => rfl
  | 5 => rfl
  | 6 => rfl
  | j + 7 =>
    have e : ([30, 31, 32, 33, 34, 35, 36] : List Nat)[j + 7]? = none := List.getElem?_eq_none (by simp only [List.length_cons, List.length_nil]; omega)
    show Option.map f (([30, 31, 32, 33, 34, 35, 36] : List Nat)[j + 7]?) = _
    rw [e, va_up_ne _ _ (show j + 7 ≠ 6 by omega), va_up_ne _ _ (show j + 7 ≠ 5 by omega), va_up_ne _ _ (show j + 7 ≠ 4 by omega), va_up_ne _ _ (show j + 7 ≠ 3 by omega), va_up_ne _ _ (show j + 7 ≠ 2 by omega), va_up_ne _ _ (show j + 7 ≠ 1 by omega), va_up_ne _ _ (show j + 7 ≠ 0 by omega)]
    all_goals rfl
theorem ra_60 (f : Nat → Nat) : (fun j => (([61, 63, 65, 67] : List Nat)[j]?).map f) = (va_up (va_up (va_up (va_up (fun _ => none) 0 (some (f 61))) 1 (some (f 63))) 2 (some (f 65))) 3 (some (f 67))) := by
  funext j
  match j with
  | 0 => rfl
  | 1 => rfl
  | 2 => rfl
  | 3 => rfl
  | j + 4 =>
    have e : ([61, 63, 65, 67] : List Nat)[j + 4]? = none := List.getElem?_eq_none (by simp only [List.length_cons, List.length_nil]; omega)
    show Option.map f (([61, 63, 65, 67] : List Nat)[j + 4]?) = _
    rw [e, va_up_ne _ _ (show j + 4 ≠ 3 by omega), va_up_ne _ _ (show j + 4 ≠ 2 by omega), va_up_ne _ _ (show j + 4 ≠ 1 by omega), va_up_ne _ _ (show j + 4 ≠ 0 by omega)]
    all_goals rfl
theorem ra_74 (f : Nat → Nat) : (fun j => (([1003, 1004] : List Nat)[j]?).map f) = (va_up (va_up (fun _ => none) 0 (some (f 1003))) 1 (some (f 1004))) := by
  funext j
  match j with
  | 0 => rfl
  | 1 => rfl
  | j + 2 =>
    have e : ([1003, 1004] : List Nat)[j + 2]? = none := List.getElem?_eq_none (by simp only [List.length_cons, List.length_nil]; omega)
    show Option.map f (([1003, 1004] : List Nat)[j + 2]?) = _
    rw [e, va_up_ne _ _ (show j + 2 ≠ 1 by omega), va_up_ne _ _ (show j + 2 ≠ 0 by omega)]
    all_goals rfl
theorem wk_0 (X : Cx) : ((xad X 0, ent X mu0 0 (.inl (8, [some 1, some 25, some 49, some 52, some 57, some 60, some 69, none])))  : Nat × va_E) = ((xad X 0, .inr (8, [.ref (xad X 1), .ref (xad X 25), .ref (xad X 49), .ref (xad X 52), .ref (xad X 57), .ref (xad X 60), .ref (xad X 69), .int 0])) : Nat × va_E) := by
  rw [ent_obj]
  all_goals rfl
theorem wk_1 (X : Cx) : ((xad X 1, ent X mu0 1 (.inl (7, [some 2, some 3, some 4, some 5, some 13, some 17, some 21, some 23, none, none, none, none])))  : Nat × va_E) = ((xad X 1, .inr (7, [.ref (xad X 2), .ref (xad X 3), .ref (xad X 4), .ref (xad X 5), .ref (xad X 13), .ref (xad X 17), .ref (xad X 21), .ref (xad X 23), .int 0, .int 0, .int 0, .int 1])) : Nat × va_E) := by
  rw [ent_obj]
  all_goals rfl
theorem wk_2 (X : Cx) : ((xad X 2, ent X mu0 2 (.inr (.inl (.int, 7))))  : Nat × va_E) = ((xad X 2, .inl (xA X .int, 7, .inl (fun _ => 0))) : Nat × va_E) := by
  first
    | rfl
    | (simp only [ent]; rw [mu0_z (by decide) (by decide) (by decide)])
theorem wk_3 (X : Cx) : ((xad X 3, ent X mu0 3 (.inr (.inl (.int, 49))))  : Nat × va_E) = ((xad X 3, .inl (xA X .int, 49, .inl (fun _ => 0))) : Nat × va_E) := by
  first
    | rfl
    | (simp only [ent]; rw [mu0_z (by decide) (by decide) (by decide)])
theorem wk_4 (X : Cx) : ((xad X 4, ent X mu0 4 (.inr (.inl (.int, 49))))  : Nat × va_E) = ((xad X 4, .inl (xA X .int, 49, .inl (fun _ => 0))) : Nat × va_E) := by
  first
    | rfl
    | (simp only [ent]; rw [mu0_z (by decide) (by decide) (by decide)])
theorem wk_5 (X : Cx) : ((xad X 5, ent X mu0 5 (.inr (.inr ("BelievedByYard$Tale", [6, 7, 8, 9, 10, 11, 12]))))  : Nat × va_E) = ((xad X 5, .inl (xA X (.object "BelievedByYard$Tale"), 7, .inr (.inr (.inr (.inr (va_up (va_up (va_up (va_up (va_up (va_up (va_up (fun _ => none) 0 (some (xad X 6))) 1 (some (xad X 7))) 2 (some (xad X 8))) 3 (some (xad X 9))) 4 (some (xad X 10))) 5 (some (xad X 11))) 6 (some (xad X 12)))))))) : Nat × va_E) := congrArg (fun g => ((xad X 5, .inl (xA X (.object "BelievedByYard$Tale"), 7, .inr (.inr (.inr (.inr g))))) : Nat × va_E)) (ra_5 (xad X))
theorem wk_6 (X : Cx) : ((xad X 6, ent X mu0 6 (.inl (3, [none, none, none, none, none, none])))  : Nat × va_E) = ((xad X 6, .inr (3, [.int 0, .int 0, .int 0, .int 0, .int 0, .int 0])) : Nat × va_E) := by
  rw [ent_obj]
  all_goals rfl
theorem wk_7 (X : Cx) : ((xad X 7, ent X mu0 7 (.inl (3, [none, none, none, none, none, none])))  : Nat × va_E) = ((xad X 7, .inr (3, [.int 0, .int 0, .int 0, .int 0, .int 0, .int 0])) : Nat × va_E) := by
  rw [ent_obj]
  all_goals rfl
theorem wk_8 (X : Cx) : ((xad X 8, ent X mu0 8 (.inl (3, [none, none, none, none, none, none])))  : Nat × va_E) = ((xad X 8, .inr (3, [.int 0, .int 0, .int 0, .int 0, .int 0, .int 0])) : Nat × va_E) := by
  rw [ent_obj]
  all_goals rfl
theorem wk_9 (X : Cx) : ((xad X 9, ent X mu0 9 (.inl (3, [none, none, none, none, none, none])))  : Nat × va_E) = ((xad X 9, .inr (3, [.int 0, .int 0, .int 0, .int 0, .int 0, .int 0])) : Nat × va_E) := by
  rw [ent_obj]
  all_goals rfl
theorem wk_10 (X : Cx) : ((xad X 10, ent X mu0 10 (.inl (3, [none, none, none, none, none, none])))  : Nat × va_E) = ((xad X 10, .inr (3, [.int 0, .int 0, .int 0, .int 0, .int 0, .int 0])) : Nat × va_E) := by
  rw [ent_obj]
  all_goals rfl
theorem wk_11 (X : Cx) : ((xad X 11, ent X mu0 11 (.inl (3, [none, none, none, none, none, none])))  : Nat × va_E) = ((xad X 11, .inr (3, [.int 0, .int 0, .int 0, .int 0, .int 0, .int 0])) : Nat × va_E) := by
  rw [ent_obj]
  all_goals rfl
theorem wk_12 (X : Cx) : ((xad X 12, ent X mu0 12 (.inl (3, [none, none, none, none, none, none])))  : Nat × va_E) = ((xad X 12, .inr (3, [.int 0, .int 0, .int 0, .int 0, .int 0, .int 0])) : Nat × va_E) := by
  rw [ent_obj]
  all_goals rfl
theorem wk_13 (X : Cx) : ((xad X 13, ent X mu0 13 (.inl (4, [some 14, some 16])))  : Nat × va_E) = ((xad X 13, .inr (4, [.ref (xad X 14), .ref (xad X 16)])) : Nat × va_E) := by
  rw [ent_obj]
  all_goals rfl
theorem wk_14 (X : Cx) : ((xad X 14, ent X mu0 14 (.inl (1, [some 15, none])))  : Nat × va_E) = ((xad X 14, .inr (1, [.ref (xad X 15), .int 0])) : Nat × va_E) := by
  rw [ent_obj]
  all_goals rfl
theorem wk_15 (X : Cx) : ((xad X 15, ent X mu0 15 (.inr (.inl (.int, 50))))  : Nat × va_E) = ((xad X 15, .inl (xA X .int, 50, .inl (fun _ => 0))) : Nat × va_E) := by
  first
    | rfl
    | (simp only [ent]; rw [mu0_z (by decide) (by decide) (by decide)])
theorem wk_16 (X : Cx) : ((xad X 16, ent X mu0 16 (.inr (.inl (.int, 50))))  : Nat × va_E) = ((xad X 16, .inl (xA X .int, 50, .inl (fun _ => 0))) : Nat × va_E) := by
  first
    | rfl
    | (simp only [ent]; rw [mu0_z (by decide) (by decide) (by decide)])
theorem wk_17 (X : Cx) : ((xad X 17, ent X mu0 17 (.inl (4, [some 18, some 20])))  : Nat × va_E) = ((xad X 17, .inr (4, [.ref (xad X 18), .ref (xad X 20)])) : Nat × va_E) := by
  rw [ent_obj]
  all_goals rfl
theorem wk_18 (X : Cx) : ((xad X 18, ent X mu0 18 (.inl (1, [some 19, none])))  : Nat × va_E) = ((xad X 18, .inr (1, [.ref (xad X 19), .int 0])) : Nat × va_E) := by
  rw [ent_obj]
  all_goals rfl
theorem wk_19 (X : Cx) : ((xad X 19, ent X mu0 19 (.inr (.inl (.int, 50))))  : Nat × va_E) = ((xad X 19, .inl (xA X .int, 50, .inl (fun _ => 0))) : Nat × va_E) := by
  first
    | rfl
    | (simp only [ent]; rw [mu0_z (by decide) (by decide) (by decide)])
theorem wk_20 (X : Cx) : ((xad X 20, ent X mu0 20 (.inr (.inl (.int, 50))))  : Nat × va_E) = ((xad X 20, .inl (xA X .int, 50, .inl (fun _ => 0))) : Nat × va_E) := by
  first
    | rfl
    | (simp only [ent]; rw [mu0_z (by decide) (by decide) (by decide)])
theorem wk_21 (X : Cx) : ((xad X 21, ent X mu0 21 (.inl (1, [some 22, none])))  : Nat × va_E) = ((xad X 21, .inr (1, [.ref (xad X 22), .int 0])) : Nat × va_E) := by
  rw [ent_obj]
  all_goals rfl
theorem wk_22 (X : Cx) : ((xad X 22, ent X mu0 22 (.inr (.inl (.int, 50))))  : Nat × va_E) = ((xad X 22, .inl (xA X .int, 50, .inl (fun _ => 0))) : Nat × va_E) := by
  first
    | rfl
    | (simp only [ent]; rw [mu0_z (by decide) (by decide) (by decide)])
theorem wk_23 (X : Cx) : ((xad X 23, ent X mu0 23 (.inl (1, [some 24, none])))  : Nat × va_E) = ((xad X 23, .inr (1, [.ref (xad X 24), .int 0])) : Nat × va_E) := by
  rw [ent_obj]
  all_goals rfl
theorem wk_24 (X : Cx) : ((xad X 24, ent X mu0 24 (.inr (.inl (.int, 20))))  : Nat × va_E) = ((xad X 24, .inl (xA X .int, 20, .inl (fun _ => 0))) : Nat × va_E) := by
  first
    | rfl
    | (simp only [ent]; rw [mu0_z (by decide) (by decide) (by decide)])
theorem wk_25 (X : Cx) : ((xad X 25, ent X mu0 25 (.inl (7, [some 26, some 27, some 28, some 29, some 37, some 41, some 45, some 47, none, none, none, none])))  : Nat × va_E) = ((xad X 25, .inr (7, [.ref (xad X 26), .ref (xad X 27), .ref (xad X 28), .ref (xad X 29), .ref (xad X 37), .ref (xad X 41), .ref (xad X 45), .ref (xad X 47), .int 0, .int 0, .int 0, .int 1])) : Nat × va_E) := by
  rw [ent_obj]
  all_goals rfl
theorem wk_26 (X : Cx) : ((xad X 26, ent X mu0 26 (.inr (.inl (.int, 7))))  : Nat × va_E) = ((xad X 26, .inl (xA X .int, 7, .inl (fun _ => 0))) : Nat × va_E) := by
  first
    | rfl
    | (simp only [ent]; rw [mu0_z (by decide) (by decide) (by decide)])
theorem wk_27 (X : Cx) : ((xad X 27, ent X mu0 27 (.inr (.inl (.int, 49))))  : Nat × va_E) = ((xad X 27, .inl (xA X .int, 49, .inl (fun _ => 0))) : Nat × va_E) := by
  first
    | rfl
    | (simp only [ent]; rw [mu0_z (by decide) (by decide) (by decide)])
theorem wk_28 (X : Cx) : ((xad X 28, ent X mu0 28 (.inr (.inl (.int, 49))))  : Nat × va_E) = ((xad X 28, .inl (xA X .int, 49, .inl (fun _ => 0))) : Nat × va_E) := by
  first
    | rfl
    | (simp only [ent]; rw [mu0_z (by decide) (by decide) (by decide)])
theorem wk_29 (X : Cx) : ((xad X 29, ent X mu0 29 (.inr (.inr ("BelievedByYard$Tale", [30, 31, 32, 33, 34, 35, 36]))))  : Nat × va_E) = ((xad X 29, .inl (xA X (.object "BelievedByYard$Tale"), 7, .inr (.inr (.inr (.inr (va_up (va_up (va_up (va_up (va_up (va_up (va_up (fun _ => none) 0 (some (xad X 30))) 1 (some (xad X 31))) 2 (some (xad X 32))) 3 (some (xad X 33))) 4 (some (xad X 34))) 5 (some (xad X 35))) 6 (some (xad X 36)))))))) : Nat × va_E) := congrArg (fun g => ((xad X 29, .inl (xA X (.object "BelievedByYard$Tale"), 7, .inr (.inr (.inr (.inr g))))) : Nat × va_E)) (ra_29 (xad X))
theorem wk_30 (X : Cx) : ((xad X 30, ent X mu0 30 (.inl (3, [none, none, none, none, none, none])))  : Nat × va_E) = ((xad X 30, .inr (3, [.int 0, .int 0, .int 0, .int 0, .int 0, .int 0])) : Nat × va_E) := by
  rw [ent_obj]
  all_goals rfl
theorem wk_31 (X : Cx) : ((xad X 31, ent X mu0 31 (.inl (3, [none, none, none, none, none, none])))  : Nat × va_E) = ((xad X 31, .inr (3, [.int 0, .int 0, .int 0, .int 0, .int 0, .int 0])) : Nat × va_E) := by
  rw [ent_obj]
  all_goals rfl
theorem wk_32 (X : Cx) : ((xad X 32, ent X mu0 32 (.inl (3, [none, none, none, none, none, none])))  : Nat × va_E) = ((xad X 32, .inr (3, [.int 0, .int 0, .int 0, .int 0, .int 0, .int 0])) : Nat × va_E) := by
  rw [ent_obj]
  all_goals rfl
theorem wk_33 (X : Cx) : ((xad X 33, ent X mu0 33 (.inl (3, [none, none, none, none, none, none])))  : Nat × va_E) = ((xad X 33, .inr (3, [.int 0, .int 0, .int 0, .int 0, .int 0, .int 0])) : Nat × va_E) := by
  rw [ent_obj]
  all_goals rfl
theorem wk_34 (X : Cx) : ((xad X 34, ent X mu0 34 (.inl (3, [none, none, none, none, none, none])))  : Nat × va_E) = ((xad X 34, .inr (3, [.int 0, .int 0, .int 0, .int 0, .int 0, .int 0])) : Nat × va_E) := by
  rw [ent_obj]
  all_goals rfl
theorem wk_35 (X : Cx) : ((xad X 35, ent X mu0 35 (.inl (3, [none, none, none, none, none, none])))  : Nat × va_E) = ((xad X 35, .inr (3, [.int 0, .int 0, .int 0, .int 0, .int 0, .int 0])) : Nat × va_E) := by
  rw [ent_obj]
  all_goals rfl
theorem wk_36 (X : Cx) : ((xad X 36, ent X mu0 36 (.inl (3, [none, none, none, none, none, none])))  : Nat × va_E) = ((xad X 36, .inr (3, [.int 0, .int 0, .int 0, .int 0, .int 0, .int 0])) : Nat × va_E) := by
  rw [ent_obj]
  all_goals rfl
theorem wk_37 (X : Cx) : ((xad X 37, ent X mu0 37 (.inl (4, [some 38, some 40])))  : Nat × va_E) = ((xad X 37, .inr (4, [.ref (xad X 38), .ref (xad X 40)])) : Nat × va_E) := by
  rw [ent_obj]
  all_goals rfl
theorem wk_38 (X : Cx) : ((xad X 38, ent X mu0 38 (.inl (1, [some 39, none])))  : Nat × va_E) = ((xad X 38, .inr (1, [.ref (xad X 39), .int 0])) : Nat × va_E) := by
  rw [ent_obj]
  all_goals rfl
theorem wk_39 (X : Cx) : ((xad X 39, ent X mu0 39 (.inr (.inl (.int, 50))))  : Nat × va_E) = ((xad X 39, .inl (xA X .int, 50, .inl (fun _ => 0))) : Nat × va_E) := by
  first
    | rfl
    | (simp only [ent]; rw [mu0_z (by decide) (by decide) (by decide)])
theorem wk_40 (X : Cx) : ((xad X 40, ent X mu0 40 (.inr (.inl (.int, 50))))  : Nat × va_E) = ((xad X 40, .inl (xA X .int, 50, .inl (fun _ => 0))) : Nat × va_E) := by
  first
    | rfl
    | (simp only [ent]; rw [mu0_z (by decide) (by decide) (by decide)])
theorem wk_41 (X : Cx) : ((xad X 41, ent X mu0 41 (.inl (4, [some 42, some 44])))  : Nat × va_E) = ((xad X 41, .inr (4, [.ref (xad X 42), .ref (xad X 44)])) : Nat × va_E) := by
  rw [ent_obj]
  all_goals rfl
theorem wk_42 (X : Cx) : ((xad X 42, ent X mu0 42 (.inl (1, [some 43, none])))  : Nat × va_E) = ((xad X 42, .inr (1, [.ref (xad X 43), .int 0])) : Nat × va_E) := by
  rw [ent_obj]
  all_goals rfl
theorem wk_43 (X : Cx) : ((xad X 43, ent X mu0 43 (.inr (.inl (.int, 50))))  : Nat × va_E) = ((xad X 43, .inl (xA X .int, 50, .inl (fun _ => 0))) : Nat × va_E) := by
  first
    | rfl
    | (simp only [ent]; rw [mu0_z (by decide) (by decide) (by decide)])
theorem wk_44 (X : Cx) : ((xad X 44, ent X mu0 44 (.inr (.inl (.int, 50))))  : Nat × va_E) = ((xad X 44, .inl (xA X .int, 50, .inl (fun _ => 0))) : Nat × va_E) := by
  first
    | rfl
    | (simp only [ent]; rw [mu0_z (by decide) (by decide) (by decide)])
theorem wk_45 (X : Cx) : ((xad X 45, ent X mu0 45 (.inl (1, [some 46, none])))  : Nat × va_E) = ((xad X 45, .inr (1, [.ref (xad X 46), .int 0])) : Nat × va_E) := by
  rw [ent_obj]
  all_goals rfl
theorem wk_46 (X : Cx) : ((xad X 46, ent X mu0 46 (.inr (.inl (.int, 50))))  : Nat × va_E) = ((xad X 46, .inl (xA X .int, 50, .inl (fun _ => 0))) : Nat × va_E) := by
  first
    | rfl
    | (simp only [ent]; rw [mu0_z (by decide) (by decide) (by decide)])
theorem wk_47 (X : Cx) : ((xad X 47, ent X mu0 47 (.inl (1, [some 48, none])))  : Nat × va_E) = ((xad X 47, .inr (1, [.ref (xad X 48), .int 0])) : Nat × va_E) := by
  rw [ent_obj]
  all_goals rfl
theorem wk_48 (X : Cx) : ((xad X 48, ent X mu0 48 (.inr (.inl (.int, 20))))  : Nat × va_E) = ((xad X 48, .inl (xA X .int, 20, .inl (fun _ => 0))) : Nat × va_E) := by
  first
    | rfl
    | (simp only [ent]; rw [mu0_z (by decide) (by decide) (by decide)])
theorem wk_49 (X : Cx) : ((xad X 49, ent X mu0 49 (.inl (5, [some 1, some 50, some 51, none, none, none, none])))  : Nat × va_E) = ((xad X 49, .inr (5, [.ref (xad X 1), .ref (xad X 50), .ref (xad X 51), .int 0, .int 0, .int 0, .int 0])) : Nat × va_E) := by
  rw [ent_obj]
  all_goals rfl
theorem wk_50 (X : Cx) : ((xad X 50, ent X mu0 50 (.inr (.inl (.int, 7))))  : Nat × va_E) = ((xad X 50, .inl (xA X .int, 7, .inl (fun _ => 0))) : Nat × va_E) := by
  first
    | rfl
    | (simp only [ent]; rw [mu0_z (by decide) (by decide) (by decide)])
theorem wk_51 (X : Cx) : ((xad X 51, ent X mu0 51 (.inr (.inl (.int, 8))))  : Nat × va_E) = ((xad X 51, .inl (xA X .int, 8, .inl (fun _ => 0))) : Nat × va_E) := by
  first
    | rfl
    | (simp only [ent]; rw [mu0_z (by decide) (by decide) (by decide)])
theorem wk_52 (X : Cx) : ((xad X 52, ent X mu0 52 (.inl (0, [some 53, some 55, none, none])))  : Nat × va_E) = ((xad X 52, .inr (0, [.ref (xad X 53), .ref (xad X 55), .int 0, .int 0])) : Nat × va_E) := by
  rw [ent_obj]
  all_goals rfl
theorem wk_53 (X : Cx) : ((xad X 53, ent X mu0 53 (.inl (1, [some 54, none])))  : Nat × va_E) = ((xad X 53, .inr (1, [.ref (xad X 54), .int 0])) : Nat × va_E) := by
  rw [ent_obj]
  all_goals rfl
theorem wk_54 (X : Cx) : ((xad X 54, ent X mu0 54 (.inr (.inl (.int, 50))))  : Nat × va_E) = ((xad X 54, .inl (xA X .int, 50, .inl (fun _ => 0))) : Nat × va_E) := by
  first
    | rfl
    | (simp only [ent]; rw [mu0_z (by decide) (by decide) (by decide)])
theorem wk_55 (X : Cx) : ((xad X 55, ent X mu0 55 (.inl (1, [some 56, none])))  : Nat × va_E) = ((xad X 55, .inr (1, [.ref (xad X 56), .int 0])) : Nat × va_E) := by
  rw [ent_obj]
  all_goals rfl
theorem wk_56 (X : Cx) : ((xad X 56, ent X mu0 56 (.inr (.inl (.int, 50))))  : Nat × va_E) = ((xad X 56, .inl (xA X .int, 50, .inl (fun _ => 0))) : Nat × va_E) := by
  first
    | rfl
    | (simp only [ent]; rw [mu0_z (by decide) (by decide) (by decide)])
theorem wk_57 (X : Cx) : ((xad X 57, ent X mu0 57 (.inl (6, [some 58, none, none, none])))  : Nat × va_E) = ((xad X 57, .inr (6, [.ref (xad X 58), .int 0, .int 0, .int 0])) : Nat × va_E) := by
  rw [ent_obj]
  all_goals rfl
theorem wk_58 (X : Cx) : ((xad X 58, ent X mu0 58 (.inl (1, [some 59, none])))  : Nat × va_E) = ((xad X 58, .inr (1, [.ref (xad X 59), .int 0])) : Nat × va_E) := by
  rw [ent_obj]
  all_goals rfl
theorem wk_59 (X : Cx) : ((xad X 59, ent X mu0 59 (.inr (.inl (.int, 40))))  : Nat × va_E) = ((xad X 59, .inl (xA X .int, 40, .inl (fun _ => 0))) : Nat × va_E) := by
  first
    | rfl
    | (simp only [ent]; rw [mu0_z (by decide) (by decide) (by decide)])
theorem wk_60 (X : Cx) : ((xad X 60, ent X mu0 60 (.inr (.inr ("BelievedByYard$Sheet", [61, 63, 65, 67]))))  : Nat × va_E) = ((xad X 60, .inl (xA X (.object "BelievedByYard$Sheet"), 4, .inr (.inr (.inr (.inr (va_up (va_up (va_up (va_up (fun _ => none) 0 (some (xad X 61))) 1 (some (xad X 63))) 2 (some (xad X 65))) 3 (some (xad X 67)))))))) : Nat × va_E) := congrArg (fun g => ((xad X 60, .inl (xA X (.object "BelievedByYard$Sheet"), 4, .inr (.inr (.inr (.inr g))))) : Nat × va_E)) (ra_60 (xad X))
theorem wk_61 (X : Cx) : ((xad X 61, ent X mu0 61 (.inl (2, [some 62, none, none])))  : Nat × va_E) = ((xad X 61, .inr (2, [.ref (xad X 62), .int 0, .int 0])) : Nat × va_E) := by
  rw [ent_obj]
  all_goals rfl
theorem wk_62 (X : Cx) : ((xad X 62, ent X mu0 62 (.inr (.inl (.int, 40))))  : Nat × va_E) = ((xad X 62, .inl (xA X .int, 40, .inl (fun _ => 0))) : Nat × va_E) := by
  first
    | rfl
    | (simp only [ent]; rw [mu0_z (by decide) (by decide) (by decide)])
theorem wk_63 (X : Cx) : ((xad X 63, ent X mu0 63 (.inl (2, [some 64, none, none])))  : Nat × va_E) = ((xad X 63, .inr (2, [.ref (xad X 64), .int 0, .int 0])) : Nat × va_E) := by
  rw [ent_obj]
  all_goals rfl
theorem wk_64 (X : Cx) : ((xad X 64, ent X mu0 64 (.inr (.inl (.int, 40))))  : Nat × va_E) = ((xad X 64, .inl (xA X .int, 40, .inl (fun _ => 0))) : Nat × va_E) := by
  first
    | rfl
    | (simp only [ent]; rw [mu0_z (by decide) (by decide) (by decide)])
theorem wk_65 (X : Cx) : ((xad X 65, ent X mu0 65 (.inl (2, [some 66, none, none])))  : Nat × va_E) = ((xad X 65, .inr (2, [.ref (xad X 66), .int 0, .int 0])) : Nat × va_E) := by
  rw [ent_obj]
  all_goals rfl
theorem wk_66 (X : Cx) : ((xad X 66, ent X mu0 66 (.inr (.inl (.int, 40))))  : Nat × va_E) = ((xad X 66, .inl (xA X .int, 40, .inl (fun _ => 0))) : Nat × va_E) := by
  first
    | rfl
    | (simp only [ent]; rw [mu0_z (by decide) (by decide) (by decide)])
theorem wk_67 (X : Cx) : ((xad X 67, ent X mu0 67 (.inl (2, [some 68, none, none])))  : Nat × va_E) = ((xad X 67, .inr (2, [.ref (xad X 68), .int 0, .int 0])) : Nat × va_E) := by
  rw [ent_obj]
  all_goals rfl
theorem wk_68 (X : Cx) : ((xad X 68, ent X mu0 68 (.inr (.inl (.int, 40))))  : Nat × va_E) = ((xad X 68, .inl (xA X .int, 40, .inl (fun _ => 0))) : Nat × va_E) := by
  first
    | rfl
    | (simp only [ent]; rw [mu0_z (by decide) (by decide) (by decide)])
theorem wk_69 (X : Cx) : ((xad X 69, ent X mu0 69 (.inr (.inl (.int, 6))))  : Nat × va_E) = ((xad X 69, .inl (xA X .int, 6, .inl (fun _ => 0))) : Nat × va_E) := by
  first
    | rfl
    | (simp only [ent]; rw [mu0_z (by decide) (by decide) (by decide)])
theorem wk_70 (X : Cx) : ((xad X 70, ent X mu0 70 (.inl (9, [some 71, some 72, none, some 73, some 74, none, none, none, none, some 75, none, some 76, some 77, none, none, none, none, some 78, none, some 79, none, none, none, none, some 80, some 81, some 82, some 83])))  : Nat × va_E) = ((xad X 70, .inr (9, [.ref (xad X 71), .ref (xad X 72), .int 0, .ref (xad X 73), .ref (xad X 74), .int 0, .int 0, .int 0, .int 0, .ref (xad X 75), .int 0, .ref (xad X 76), .ref (xad X 77), .int 0, .int 0, .int 0, .int 0, .ref (xad X 78), .int 0, .ref (xad X 79), .int 0, .int 0, .int 0, .int 0, .ref (xad X 80), .ref (xad X 81), .ref (xad X 82), .ref (xad X 83)])) : Nat × va_E) := by
  rw [ent_obj]
  all_goals rfl
theorem wk_71 (X : Cx) : ((xad X 71, ent X mu0 71 (.inr (.inl (.int, 327))))  : Nat × va_E) = ((xad X 71, .inl (xA X .int, 327, .inl (upd (fun _ => 0) 3 1))) : Nat × va_E) := by
  first
    | rfl
    | (simp only [ent]; rw [mu0_z (by decide) (by decide) (by decide)])
theorem wk_72 (X : Cx) : ((xad X 72, ent X mu0 72 (.inr (.inl (.int, 327))))  : Nat × va_E) = ((xad X 72, .inl (xA X .int, 327, .inl (fun _ => 0))) : Nat × va_E) := by
  first
    | rfl
    | (simp only [ent]; rw [mu0_z (by decide) (by decide) (by decide)])
theorem wk_73 (X : Cx) : ((xad X 73, ent X mu0 73 (.inr (.inl (.int, 6))))  : Nat × va_E) = ((xad X 73, .inl (xA X .int, 6, .inl (fun _ => 0))) : Nat × va_E) := by
  first
    | rfl
    | (simp only [ent]; rw [mu0_z (by decide) (by decide) (by decide)])
theorem wk_74 (X : Cx) : ((xad X 74, ent X mu0 74 (.inr (.inr ("java/lang/String", [1003, 1004]))))  : Nat × va_E) = ((xad X 74, .inl (xA X (.object "java/lang/String"), 2, .inr (.inr (.inr (.inr (va_up (va_up (fun _ => none) 0 (some (xad X 1003))) 1 (some (xad X 1004)))))))) : Nat × va_E) := congrArg (fun g => ((xad X 74, .inl (xA X (.object "java/lang/String"), 2, .inr (.inr (.inr (.inr g))))) : Nat × va_E)) (ra_74 (xad X))
theorem wk_75 (X : Cx) : ((xad X 75, ent X mu0 75 (.inr (.inl (.int, 60))))  : Nat × va_E) = ((xad X 75, .inl (xA X .int, 60, .inl (fun _ => 0))) : Nat × va_E) := by
  first
    | rfl
    | (simp only [ent]; rw [mu0_z (by decide) (by decide) (by decide)])
theorem wk_76 (X : Cx) : ((xad X 76, ent X mu0 76 (.inr (.inl (.int, 4))))  : Nat × va_E) = ((xad X 76, .inl (xA X .int, 4, .inl (fun _ => 0))) : Nat × va_E) := by
  first
    | rfl
    | (simp only [ent]; rw [mu0_z (by decide) (by decide) (by decide)])
theorem wk_77 (X : Cx) : ((xad X 77, ent X mu0 77 (.inr (.inl (.int, 60))))  : Nat × va_E) = ((xad X 77, .inl (xA X .int, 60, .inl (fun _ => 0))) : Nat × va_E) := by
  first
    | rfl
    | (simp only [ent]; rw [mu0_z (by decide) (by decide) (by decide)])
theorem wk_78 (X : Cx) : ((xad X 78, ent X mu0 78 (.inr (.inl (.boolean, 256))))  : Nat × va_E) = ((xad X 78, .inl (xA X .boolean, 256, .inl (fun _ => 0))) : Nat × va_E) := by
  first
    | rfl
    | (simp only [ent]; rw [mu0_z (by decide) (by decide) (by decide)])
theorem wk_79 (X : Cx) : ((xad X 79, ent X mu0 79 (.inr (.inl (.int, 40))))  : Nat × va_E) = ((xad X 79, .inl (xA X .int, 40, .inl (fun _ => 0))) : Nat × va_E) := by
  first
    | rfl
    | (simp only [ent]; rw [mu0_z (by decide) (by decide) (by decide)])
theorem wk_80 (X : Cx) : ((xad X 80, ent X mu0 80 (.inr (.inl (.int, 4))))  : Nat × va_E) = ((xad X 80, .inl (xA X .int, 4, .inl (fun _ => 0))) : Nat × va_E) := by
  first
    | rfl
    | (simp only [ent]; rw [mu0_z (by decide) (by decide) (by decide)])
theorem wk_81 (X : Cx) : ((xad X 81, ent X mu0 81 (.inr (.inl (.int, 4))))  : Nat × va_E) = ((xad X 81, .inl (xA X .int, 4, .inl (fun _ => 0))) : Nat × va_E) := by
  first
    | rfl
    | (simp only [ent]; rw [mu0_z (by decide) (by decide) (by decide)])
theorem wk_82 (X : Cx) : ((xad X 82, ent X mu0 82 (.inr (.inl (.int, 160))))  : Nat × va_E) = ((xad X 82, .inl (xA X .int, 160, .inl (fun _ => 0))) : Nat × va_E) := by
  first
    | rfl
    | (simp only [ent]; rw [mu0_z (by decide) (by decide) (by decide)])
theorem wk_83 (X : Cx) : ((xad X 83, ent X mu0 83 (.inr (.inl (.int, 40))))  : Nat × va_E) = ((xad X 83, .inl (xA X .int, 40, .inl (fun _ => 0))) : Nat × va_E) := by
  first
    | rfl
    | (simp only [ent]; rw [mu0_z (by decide) (by decide) (by decide)])
set_option maxRecDepth 100000 in
set_option maxHeartbeats 4000000 in
theorem wld_eq (X : Cx) : wld X mu0 = [((xad X 0), .inr (8, [.ref (xad X 1), .ref (xad X 25), .ref (xad X 49), .ref (xad X 52), .ref (xad X 57), .ref (xad X 60), .ref (xad X 69), .int 0])), ((xad X 1), .inr (7, [.ref (xad X 2), .ref (xad X 3), .ref (xad X 4), .ref (xad X 5), .ref (xad X 13), .ref (xad X 17), .ref (xad X 21), .ref (xad X 23), .int 0, .int 0, .int 0, .int 1])), ((xad X 2), .inl (xA X .int, 7, .inl (fun _ => 0))), ((xad X 3), .inl (xA X .int, 49, .inl (fun _ => 0))), ((xad X 4), .inl (xA X .int, 49, .inl (fun _ => 0))), ((xad X 5), .inl (xA X (.object "BelievedByYard$Tale"), 7, .inr (.inr (.inr (.inr (va_up (va_up (va_up (va_up (va_up (va_up (va_up (fun _ => none) 0 (some (xad X 6))) 1 (some (xad X 7))) 2 (some (xad X 8))) 3 (some (xad X 9))) 4 (some (xad X 10))) 5 (some (xad X 11))) 6 (some (xad X 12)))))))), ((xad X 6), .inr (3, [.int 0, .int 0, .int 0, .int 0, .int 0, .int 0])), ((xad X 7), .inr (3, [.int 0, .int 0, .int 0, .int 0, .int 0, .int 0])), ((xad X 8), .inr (3, [.int 0, .int 0, .int 0, .int 0, .int 0, .int 0])), ((xad X 9), .inr (3, [.int 0, .int 0, .int 0, .int 0, .int 0, .int 0])), ((xad X 10), .inr (3, [.int 0, .int 0, .int 0, .int 0, .int 0, .int 0])), ((xad X 11), .inr (3, [.int 0, .int 0, .int 0, .int 0, .int 0, .int 0])), ((xad X 12), .inr (3, [.int 0, .int 0, .int 0, .int 0, .int 0, .int 0])), ((xad X 13), .inr (4, [.ref (xad X 14), .ref (xad X 16)])), ((xad X 14), .inr (1, [.ref (xad X 15), .int 0])), ((xad X 15), .inl (xA X .int, 50, .inl (fun _ => 0))), ((xad X 16), .inl (xA X .int, 50, .inl (fun _ => 0))), ((xad X 17), .inr (4, [.ref (xad X 18), .ref (xad X 20)])), ((xad X 18), .inr (1, [.ref (xad X 19), .int 0])), ((xad X 19), .inl (xA X .int, 50, .inl (fun _ => 0))), ((xad X 20), .inl (xA X .int, 50, .inl (fun _ => 0))), ((xad X 21), .inr (1, [.ref (xad X 22), .int 0])), ((xad X 22), .inl (xA X .int, 50, .inl (fun _ => 0))), ((xad X 23), .inr (1, [.ref (xad X 24), .int 0])), ((xad X 24), .inl (xA X .int, 20, .inl (fun _ => 0))), ((xad X 25), .inr (7, [.ref (xad X 26), .ref (xad X 27), .ref (xad X 28), .ref (xad X 29), .ref (xad X 37), .ref (xad X 41), .ref (xad X 45), .ref (xad X 47), .int 0, .int 0, .int 0, .int 1])), ((xad X 26), .inl (xA X .int, 7, .inl (fun _ => 0))), ((xad X 27), .inl (xA X .int, 49, .inl (fun _ => 0))), ((xad X 28), .inl (xA X .int, 49, .inl (fun _ => 0))), ((xad X 29), .inl (xA X (.object "BelievedByYard$Tale"), 7, .inr (.inr (.inr (.inr (va_up (va_up (va_up (va_up (va_up (va_up (va_up (fun _ => none) 0 (some (xad X 30))) 1 (some (xad X 31))) 2 (some (xad X 32))) 3 (some (xad X 33))) 4 (some (xad X 34))) 5 (some (xad X 35))) 6 (some (xad X 36)))))))), ((xad X 30), .inr (3, [.int 0, .int 0, .int 0, .int 0, .int 0, .int 0])), ((xad X 31), .inr (3, [.int 0, .int 0, .int 0, .int 0, .int 0, .int 0])), ((xad X 32), .inr (3, [.int 0, .int 0, .int 0, .int 0, .int 0, .int 0])), ((xad X 33), .inr (3, [.int 0, .int 0, .int 0, .int 0, .int 0, .int 0])), ((xad X 34), .inr (3, [.int 0, .int 0, .int 0, .int 0, .int 0, .int 0])), ((xad X 35), .inr (3, [.int 0, .int 0, .int 0, .int 0, .int 0, .int 0])), ((xad X 36), .inr (3, [.int 0, .int 0, .int 0, .int 0, .int 0, .int 0])), ((xad X 37), .inr (4, [.ref (xad X 38), .ref (xad X 40)])), ((xad X 38), .inr (1, [.ref (xad X 39), .int 0])), ((xad X 39), .inl (xA X .int, 50, .inl (fun _ => 0))), ((xad X 40), .inl (xA X .int, 50, .inl (fun _ => 0))), ((xad X 41), .inr (4, [.ref (xad X 42), .ref (xad X 44)])), ((xad X 42), .inr (1, [.ref (xad X 43), .int 0])), ((xad X 43), .inl (xA X .int, 50, .inl (fun _ => 0))), ((xad X 44), .inl (xA X .int, 50, .inl (fun _ => 0))), ((xad X 45), .inr (1, [.ref (xad X 46), .int 0])), ((xad X 46), .inl (xA X .int, 50, .inl (fun _ => 0))), ((xad X 47), .inr (1, [.ref (xad X 48), .int 0])), ((xad X 48), .inl (xA X .int, 20, .inl (fun _ => 0))), ((xad X 49), .inr (5, [.ref (xad X 1), .ref (xad X 50), .ref (xad X 51), .int 0, .int 0, .int 0, .int 0])), ((xad X 50), .inl (xA X .int, 7, .inl (fun _ => 0))), ((xad X 51), .inl (xA X .int, 8, .inl (fun _ => 0))), ((xad X 52), .inr (0, [.ref (xad X 53), .ref (xad X 55), .int 0, .int 0])), ((xad X 53), .inr (1, [.ref (xad X 54), .int 0])), ((xad X 54), .inl (xA X .int, 50, .inl (fun _ => 0))), ((xad X 55), .inr (1, [.ref (xad X 56), .int 0])), ((xad X 56), .inl (xA X .int, 50, .inl (fun _ => 0))), ((xad X 57), .inr (6, [.ref (xad X 58), .int 0, .int 0, .int 0])), ((xad X 58), .inr (1, [.ref (xad X 59), .int 0])), ((xad X 59), .inl (xA X .int, 40, .inl (fun _ => 0))), ((xad X 60), .inl (xA X (.object "BelievedByYard$Sheet"), 4, .inr (.inr (.inr (.inr (va_up (va_up (va_up (va_up (fun _ => none) 0 (some (xad X 61))) 1 (some (xad X 63))) 2 (some (xad X 65))) 3 (some (xad X 67)))))))), ((xad X 61), .inr (2, [.ref (xad X 62), .int 0, .int 0])), ((xad X 62), .inl (xA X .int, 40, .inl (fun _ => 0))), ((xad X 63), .inr (2, [.ref (xad X 64), .int 0, .int 0])), ((xad X 64), .inl (xA X .int, 40, .inl (fun _ => 0))), ((xad X 65), .inr (2, [.ref (xad X 66), .int 0, .int 0])), ((xad X 66), .inl (xA X .int, 40, .inl (fun _ => 0))), ((xad X 67), .inr (2, [.ref (xad X 68), .int 0, .int 0])), ((xad X 68), .inl (xA X .int, 40, .inl (fun _ => 0))), ((xad X 69), .inl (xA X .int, 6, .inl (fun _ => 0))), ((xad X 70), .inr (9, [.ref (xad X 71), .ref (xad X 72), .int 0, .ref (xad X 73), .ref (xad X 74), .int 0, .int 0, .int 0, .int 0, .ref (xad X 75), .int 0, .ref (xad X 76), .ref (xad X 77), .int 0, .int 0, .int 0, .int 0, .ref (xad X 78), .int 0, .ref (xad X 79), .int 0, .int 0, .int 0, .int 0, .ref (xad X 80), .ref (xad X 81), .ref (xad X 82), .ref (xad X 83)])), ((xad X 71), .inl (xA X .int, 327, .inl (upd (fun _ => 0) 3 1))), ((xad X 72), .inl (xA X .int, 327, .inl (fun _ => 0))), ((xad X 73), .inl (xA X .int, 6, .inl (fun _ => 0))), ((xad X 74), .inl (xA X (.object "java/lang/String"), 2, .inr (.inr (.inr (.inr (va_up (va_up (fun _ => none) 0 (some (xad X 1003))) 1 (some (xad X 1004)))))))), ((xad X 75), .inl (xA X .int, 60, .inl (fun _ => 0))), ((xad X 76), .inl (xA X .int, 4, .inl (fun _ => 0))), ((xad X 77), .inl (xA X .int, 60, .inl (fun _ => 0))), ((xad X 78), .inl (xA X .boolean, 256, .inl (fun _ => 0))), ((xad X 79), .inl (xA X .int, 40, .inl (fun _ => 0))), ((xad X 80), .inl (xA X .int, 4, .inl (fun _ => 0))), ((xad X 81), .inl (xA X .int, 4, .inl (fun _ => 0))), ((xad X 82), .inl (xA X .int, 160, .inl (fun _ => 0))), ((xad X 83), .inl (xA X .int, 40, .inl (fun _ => 0)))] := by
  rw [wld_mi]
  unfold shL
  exact ce (wk_0 X) (ce (wk_1 X) (ce (wk_2 X) (ce (wk_3 X) (ce (wk_4 X) (ce (wk_5 X) (ce (wk_6 X) (ce (wk_7 X) (ce (wk_8 X) (ce (wk_9 X) (ce (wk_10 X) (ce (wk_11 X) (ce (wk_12 X) (ce (wk_13 X) (ce (wk_14 X) (ce (wk_15 X) (ce (wk_16 X) (ce (wk_17 X) (ce (wk_18 X) (ce (wk_19 X) (ce (wk_20 X) (ce (wk_21 X) (ce (wk_22 X) (ce (wk_23 X) (ce (wk_24 X) (ce (wk_25 X) (ce (wk_26 X) (ce (wk_27 X) (ce (wk_28 X) (ce (wk_29 X) (ce (wk_30 X) (ce (wk_31 X) (ce (wk_32 X) (ce (wk_33 X) (ce (wk_34 X) (ce (wk_35 X) (ce (wk_36 X) (ce (wk_37 X) (ce (wk_38 X) (ce (wk_39 X) (ce (wk_40 X) (ce (wk_41 X) (ce (wk_42 X) (ce (wk_43 X) (ce (wk_44 X) (ce (wk_45 X) (ce (wk_46 X) (ce (wk_47 X) (ce (wk_48 X) (ce (wk_49 X) (ce (wk_50 X) (ce (wk_51 X) (ce (wk_52 X) (ce (wk_53 X) (ce (wk_54 X) (ce (wk_55 X) (ce (wk_56 X) (ce (wk_57 X) (ce (wk_58 X) (ce (wk_59 X) (ce (wk_60 X) (ce (wk_61 X) (ce (wk_62 X) (ce (wk_63 X) (ce (wk_64 X) (ce (wk_65 X) (ce (wk_66 X) (ce (wk_67 X) (ce (wk_68 X) (ce (wk_69 X) (ce (wk_70 X) (ce (wk_71 X) (ce (wk_72 X) (ce (wk_73 X) (ce (wk_74 X) (ce (wk_75 X) (ce (wk_76 X) (ce (wk_77 X) (ce (wk_78 X) (ce (wk_79 X) (ce (wk_80 X) (ce (wk_81 X) (ce (wk_82 X) (ce (wk_83 X) (rfl))))))))))))))))))))))))))))))))))))))))))))))))))))))))))))))))))))))))))))))))))))
set_option maxRecDepth 100000 in
set_option maxHeartbeats 4000000 in
theorem wld_mk (X : Cx) {A : Nat → Prop} {H : Heap} (hP : va_P (xG X) vwCl [((xad X 0), .inr (8, [.ref (xad X 1), .ref (xad X 25), .ref (xad X 49), .ref (xad X 52), .ref (xad X 57), .ref (xad X 60), .ref (xad X 69), .int 0])), ((xad X 1), .inr (7, [.ref (xad X 2), .ref (xad X 3), .ref (xad X 4), .ref (xad X 5), .ref (xad X 13), .ref (xad X 17), .ref (xad X 21), .ref (xad X 23), .int 0, .int 0, .int 0, .int 1])), ((xad X 2), .inl (xA X .int, 7, .inl (fun _ => 0))), ((xad X 3), .inl (xA X .int, 49, .inl (fun _ => 0))), ((xad X 4), .inl (xA X .int, 49, .inl (fun _ => 0))), ((xad X 5), .inl (xA X (.object "BelievedByYard$Tale"), 7, .inr (.inr (.inr (.inr (va_up (va_up (va_up (va_up (va_up (va_up (va_up (fun _ => none) 0 (some (xad X 6))) 1 (some (xad X 7))) 2 (some (xad X 8))) 3 (some (xad X 9))) 4 (some (xad X 10))) 5 (some (xad X 11))) 6 (some (xad X 12)))))))), ((xad X 13), .inr (4, [.ref (xad X 14), .ref (xad X 16)])), ((xad X 14), .inr (1, [.ref (xad X 15), .int 0])), ((xad X 15), .inl (xA X .int, 50, .inl (fun _ => 0))), ((xad X 16), .inl (xA X .int, 50, .inl (fun _ => 0))), ((xad X 17), .inr (4, [.ref (xad X 18), .ref (xad X 20)])), ((xad X 18), .inr (1, [.ref (xad X 19), .int 0])), ((xad X 19), .inl (xA X .int, 50, .inl (fun _ => 0))), ((xad X 20), .inl (xA X .int, 50, .inl (fun _ => 0))), ((xad X 21), .inr (1, [.ref (xad X 22), .int 0])), ((xad X 22), .inl (xA X .int, 50, .inl (fun _ => 0))), ((xad X 23), .inr (1, [.ref (xad X 24), .int 0])), ((xad X 24), .inl (xA X .int, 20, .inl (fun _ => 0))), ((xad X 6), .inr (3, [.int 0, .int 0, .int 0, .int 0, .int 0, .int 0])), ((xad X 7), .inr (3, [.int 0, .int 0, .int 0, .int 0, .int 0, .int 0])), ((xad X 8), .inr (3, [.int 0, .int 0, .int 0, .int 0, .int 0, .int 0])), ((xad X 9), .inr (3, [.int 0, .int 0, .int 0, .int 0, .int 0, .int 0])), ((xad X 10), .inr (3, [.int 0, .int 0, .int 0, .int 0, .int 0, .int 0])), ((xad X 11), .inr (3, [.int 0, .int 0, .int 0, .int 0, .int 0, .int 0])), ((xad X 12), .inr (3, [.int 0, .int 0, .int 0, .int 0, .int 0, .int 0])), ((xad X 25), .inr (7, [.ref (xad X 26), .ref (xad X 27), .ref (xad X 28), .ref (xad X 29), .ref (xad X 37), .ref (xad X 41), .ref (xad X 45), .ref (xad X 47), .int 0, .int 0, .int 0, .int 1])), ((xad X 26), .inl (xA X .int, 7, .inl (fun _ => 0))), ((xad X 27), .inl (xA X .int, 49, .inl (fun _ => 0))), ((xad X 28), .inl (xA X .int, 49, .inl (fun _ => 0))), ((xad X 29), .inl (xA X (.object "BelievedByYard$Tale"), 7, .inr (.inr (.inr (.inr (va_up (va_up (va_up (va_up (va_up (va_up (va_up (fun _ => none) 0 (some (xad X 30))) 1 (some (xad X 31))) 2 (some (xad X 32))) 3 (some (xad X 33))) 4 (some (xad X 34))) 5 (some (xad X 35))) 6 (some (xad X 36)))))))), ((xad X 37), .inr (4, [.ref (xad X 38), .ref (xad X 40)])), ((xad X 38), .inr (1, [.ref (xad X 39), .int 0])), ((xad X 39), .inl (xA X .int, 50, .inl (fun _ => 0))), ((xad X 40), .inl (xA X .int, 50, .inl (fun _ => 0))), ((xad X 41), .inr (4, [.ref (xad X 42), .ref (xad X 44)])), ((xad X 42), .inr (1, [.ref (xad X 43), .int 0])), ((xad X 43), .inl (xA X .int, 50, .inl (fun _ => 0))), ((xad X 44), .inl (xA X .int, 50, .inl (fun _ => 0))), ((xad X 45), .inr (1, [.ref (xad X 46), .int 0])), ((xad X 46), .inl (xA X .int, 50, .inl (fun _ => 0))), ((xad X 47), .inr (1, [.ref (xad X 48), .int 0])), ((xad X 48), .inl (xA X .int, 20, .inl (fun _ => 0))), ((xad X 30), .inr (3, [.int 0, .int 0, .int 0, .int 0, .int 0, .int 0])), ((xad X 31), .inr (3, [.int 0, .int 0, .int 0, .int 0, .int 0, .int 0])), ((xad X 32), .inr (3, [.int 0, .int 0, .int 0, .int 0, .int 0, .int 0])), ((xad X 33), .inr (3, [.int 0, .int 0, .int 0, .int 0, .int 0, .int 0])), ((xad X 34), .inr (3, [.int 0, .int 0, .int 0, .int 0, .int 0, .int 0])), ((xad X 35), .inr (3, [.int 0, .int 0, .int 0, .int 0, .int 0, .int 0])), ((xad X 36), .inr (3, [.int 0, .int 0, .int 0, .int 0, .int 0, .int 0])), ((xad X 49), .inr (5, [.ref (xad X 1), .ref (xad X 50), .ref (xad X 51), .int 0, .int 0, .int 0, .int 0])), ((xad X 50), .inl (xA X .int, 7, .inl (fun _ => 0))), ((xad X 51), .inl (xA X .int, 8, .inl (fun _ => 0))), ((xad X 52), .inr (0, [.ref (xad X 53), .ref (xad X 55), .int 0, .int 0])), ((xad X 53), .inr (1, [.ref (xad X 54), .int 0])), ((xad X 54), .inl (xA X .int, 50, .inl (fun _ => 0))), ((xad X 55), .inr (1, [.ref (xad X 56), .int 0])), ((xad X 56), .inl (xA X .int, 50, .inl (fun _ => 0))), ((xad X 57), .inr (6, [.ref (xad X 58), .int 0, .int 0, .int 0])), ((xad X 58), .inr (1, [.ref (xad X 59), .int 0])), ((xad X 59), .inl (xA X .int, 40, .inl (fun _ => 0))), ((xad X 60), .inl (xA X (.object "BelievedByYard$Sheet"), 4, .inr (.inr (.inr (.inr (va_up (va_up (va_up (va_up (fun _ => none) 0 (some (xad X 61))) 1 (some (xad X 63))) 2 (some (xad X 65))) 3 (some (xad X 67)))))))), ((xad X 69), .inl (xA X .int, 6, .inl (fun _ => 0))), ((xad X 61), .inr (2, [.ref (xad X 62), .int 0, .int 0])), ((xad X 62), .inl (xA X .int, 40, .inl (fun _ => 0))), ((xad X 63), .inr (2, [.ref (xad X 64), .int 0, .int 0])), ((xad X 64), .inl (xA X .int, 40, .inl (fun _ => 0))), ((xad X 65), .inr (2, [.ref (xad X 66), .int 0, .int 0])), ((xad X 66), .inl (xA X .int, 40, .inl (fun _ => 0))), ((xad X 67), .inr (2, [.ref (xad X 68), .int 0, .int 0])), ((xad X 68), .inl (xA X .int, 40, .inl (fun _ => 0))), ((xad X 70), .inr (9, [.ref (xad X 71), .ref (xad X 72), .int 0, .ref (xad X 73), .ref (xad X 74), .int 0, .int 0, .int 0, .int 0, .ref (xad X 75), .int 0, .ref (xad X 76), .ref (xad X 77), .int 0, .int 0, .int 0, .int 0, .ref (xad X 78), .int 0, .ref (xad X 79), .int 0, .int 0, .int 0, .int 0, .ref (xad X 80), .ref (xad X 81), .ref (xad X 82), .ref (xad X 83)])), ((xad X 71), .inl (xA X .int, 327, .inl (upd (fun _ => 0) 3 1))), ((xad X 72), .inl (xA X .int, 327, .inl (fun _ => 0))), ((xad X 73), .inl (xA X .int, 6, .inl (fun _ => 0))), ((xad X 74), .inl (xA X (.object "java/lang/String"), 2, .inr (.inr (.inr (.inr (va_up (va_up (fun _ => none) 0 (some (xad X 1003))) 1 (some (xad X 1004)))))))), ((xad X 75), .inl (xA X .int, 60, .inl (fun _ => 0))), ((xad X 76), .inl (xA X .int, 4, .inl (fun _ => 0))), ((xad X 77), .inl (xA X .int, 60, .inl (fun _ => 0))), ((xad X 78), .inl (xA X .boolean, 256, .inl (fun _ => 0))), ((xad X 79), .inl (xA X .int, 40, .inl (fun _ => 0))), ((xad X 80), .inl (xA X .int, 4, .inl (fun _ => 0))), ((xad X 81), .inl (xA X .int, 4, .inl (fun _ => 0))), ((xad X 82), .inl (xA X .int, 160, .inl (fun _ => 0))), ((xad X 83), .inl (xA X .int, 40, .inl (fun _ => 0)))] H) (hD : va_D A [((xad X 0), .inr (8, [.ref (xad X 1), .ref (xad X 25), .ref (xad X 49), .ref (xad X 52), .ref (xad X 57), .ref (xad X 60), .ref (xad X 69), .int 0])), ((xad X 1), .inr (7, [.ref (xad X 2), .ref (xad X 3), .ref (xad X 4), .ref (xad X 5), .ref (xad X 13), .ref (xad X 17), .ref (xad X 21), .ref (xad X 23), .int 0, .int 0, .int 0, .int 1])), ((xad X 2), .inl (xA X .int, 7, .inl (fun _ => 0))), ((xad X 3), .inl (xA X .int, 49, .inl (fun _ => 0))), ((xad X 4), .inl (xA X .int, 49, .inl (fun _ => 0))), ((xad X 5), .inl (xA X (.object "BelievedByYard$Tale"), 7, .inr (.inr (.inr (.inr (va_up (va_up (va_up (va_up (va_up (va_up (va_up (fun _ => none) 0 (some (xad X 6))) 1 (some (xad X 7))) 2 (some (xad X 8))) 3 (some (xad X 9))) 4 (some (xad X 10))) 5 (some (xad X 11))) 6 (some (xad X 12)))))))), ((xad X 13), .inr (4, [.ref (xad X 14), .ref (xad X 16)])), ((xad X 14), .inr (1, [.ref (xad X 15), .int 0])), ((xad X 15), .inl (xA X .int, 50, .inl (fun _ => 0))), ((xad X 16), .inl (xA X .int, 50, .inl (fun _ => 0))), ((xad X 17), .inr (4, [.ref (xad X 18), .ref (xad X 20)])), ((xad X 18), .inr (1, [.ref (xad X 19), .int 0])), ((xad X 19), .inl (xA X .int, 50, .inl (fun _ => 0))), ((xad X 20), .inl (xA X .int, 50, .inl (fun _ => 0))), ((xad X 21), .inr (1, [.ref (xad X 22), .int 0])), ((xad X 22), .inl (xA X .int, 50, .inl (fun _ => 0))), ((xad X 23), .inr (1, [.ref (xad X 24), .int 0])), ((xad X 24), .inl (xA X .int, 20, .inl (fun _ => 0))), ((xad X 6), .inr (3, [.int 0, .int 0, .int 0, .int 0, .int 0, .int 0])), ((xad X 7), .inr (3, [.int 0, .int 0, .int 0, .int 0, .int 0, .int 0])), ((xad X 8), .inr (3, [.int 0, .int 0, .int 0, .int 0, .int 0, .int 0])), ((xad X 9), .inr (3, [.int 0, .int 0, .int 0, .int 0, .int 0, .int 0])), ((xad X 10), .inr (3, [.int 0, .int 0, .int 0, .int 0, .int 0, .int 0])), ((xad X 11), .inr (3, [.int 0, .int 0, .int 0, .int 0, .int 0, .int 0])), ((xad X 12), .inr (3, [.int 0, .int 0, .int 0, .int 0, .int 0, .int 0])), ((xad X 25), .inr (7, [.ref (xad X 26), .ref (xad X 27), .ref (xad X 28), .ref (xad X 29), .ref (xad X 37), .ref (xad X 41), .ref (xad X 45), .ref (xad X 47), .int 0, .int 0, .int 0, .int 1])), ((xad X 26), .inl (xA X .int, 7, .inl (fun _ => 0))), ((xad X 27), .inl (xA X .int, 49, .inl (fun _ => 0))), ((xad X 28), .inl (xA X .int, 49, .inl (fun _ => 0))), ((xad X 29), .inl (xA X (.object "BelievedByYard$Tale"), 7, .inr (.inr (.inr (.inr (va_up (va_up (va_up (va_up (va_up (va_up (va_up (fun _ => none) 0 (some (xad X 30))) 1 (some (xad X 31))) 2 (some (xad X 32))) 3 (some (xad X 33))) 4 (some (xad X 34))) 5 (some (xad X 35))) 6 (some (xad X 36)))))))), ((xad X 37), .inr (4, [.ref (xad X 38), .ref (xad X 40)])), ((xad X 38), .inr (1, [.ref (xad X 39), .int 0])), ((xad X 39), .inl (xA X .int, 50, .inl (fun _ => 0))), ((xad X 40), .inl (xA X .int, 50, .inl (fun _ => 0))), ((xad X 41), .inr (4, [.ref (xad X 42), .ref (xad X 44)])), ((xad X 42), .inr (1, [.ref (xad X 43), .int 0])), ((xad X 43), .inl (xA X .int, 50, .inl (fun _ => 0))), ((xad X 44), .inl (xA X .int, 50, .inl (fun _ => 0))), ((xad X 45), .inr (1, [.ref (xad X 46), .int 0])), ((xad X 46), .inl (xA X .int, 50, .inl (fun _ => 0))), ((xad X 47), .inr (1, [.ref (xad X 48), .int 0])), ((xad X 48), .inl (xA X .int, 20, .inl (fun _ => 0))), ((xad X 30), .inr (3, [.int 0, .int 0, .int 0, .int 0, .int 0, .int 0])), ((xad X 31), .inr (3, [.int 0, .int 0, .int 0, .int 0, .int 0, .int 0])), ((xad X 32), .inr (3, [.int 0, .int 0, .int 0, .int 0, .int 0, .int 0])), ((xad X 33), .inr (3, [.int 0, .int 0, .int 0, .int 0, .int 0, .int 0])), ((xad X 34), .inr (3, [.int 0, .int 0, .int 0, .int 0, .int 0, .int 0])), ((xad X 35), .inr (3, [.int 0, .int 0, .int 0, .int 0, .int 0, .int 0])), ((xad X 36), .inr (3, [.int 0, .int 0, .int 0, .int 0, .int 0, .int 0])), ((xad X 49), .inr (5, [.ref (xad X 1), .ref (xad X 50), .ref (xad X 51), .int 0, .int 0, .int 0, .int 0])), ((xad X 50), .inl (xA X .int, 7, .inl (fun _ => 0))), ((xad X 51), .inl (xA X .int, 8, .inl (fun _ => 0))), ((xad X 52), .inr (0, [.ref (xad X 53), .ref (xad X 55), .int 0, .int 0])), ((xad X 53), .inr (1, [.ref (xad X 54), .int 0])), ((xad X 54), .inl (xA X .int, 50, .inl (fun _ => 0))), ((xad X 55), .inr (1, [.ref (xad X 56), .int 0])), ((xad X 56), .inl (xA X .int, 50, .inl (fun _ => 0))), ((xad X 57), .inr (6, [.ref (xad X 58), .int 0, .int 0, .int 0])), ((xad X 58), .inr (1, [.ref (xad X 59), .int 0])), ((xad X 59), .inl (xA X .int, 40, .inl (fun _ => 0))), ((xad X 60), .inl (xA X (.object "BelievedByYard$Sheet"), 4, .inr (.inr (.inr (.inr (va_up (va_up (va_up (va_up (fun _ => none) 0 (some (xad X 61))) 1 (some (xad X 63))) 2 (some (xad X 65))) 3 (some (xad X 67)))))))), ((xad X 69), .inl (xA X .int, 6, .inl (fun _ => 0))), ((xad X 61), .inr (2, [.ref (xad X 62), .int 0, .int 0])), ((xad X 62), .inl (xA X .int, 40, .inl (fun _ => 0))), ((xad X 63), .inr (2, [.ref (xad X 64), .int 0, .int 0])), ((xad X 64), .inl (xA X .int, 40, .inl (fun _ => 0))), ((xad X 65), .inr (2, [.ref (xad X 66), .int 0, .int 0])), ((xad X 66), .inl (xA X .int, 40, .inl (fun _ => 0))), ((xad X 67), .inr (2, [.ref (xad X 68), .int 0, .int 0])), ((xad X 68), .inl (xA X .int, 40, .inl (fun _ => 0))), ((xad X 70), .inr (9, [.ref (xad X 71), .ref (xad X 72), .int 0, .ref (xad X 73), .ref (xad X 74), .int 0, .int 0, .int 0, .int 0, .ref (xad X 75), .int 0, .ref (xad X 76), .ref (xad X 77), .int 0, .int 0, .int 0, .int 0, .ref (xad X 78), .int 0, .ref (xad X 79), .int 0, .int 0, .int 0, .int 0, .ref (xad X 80), .ref (xad X 81), .ref (xad X 82), .ref (xad X 83)])), ((xad X 71), .inl (xA X .int, 327, .inl (upd (fun _ => 0) 3 1))), ((xad X 72), .inl (xA X .int, 327, .inl (fun _ => 0))), ((xad X 73), .inl (xA X .int, 6, .inl (fun _ => 0))), ((xad X 74), .inl (xA X (.object "java/lang/String"), 2, .inr (.inr (.inr (.inr (va_up (va_up (fun _ => none) 0 (some (xad X 1003))) 1 (some (xad X 1004)))))))), ((xad X 75), .inl (xA X .int, 60, .inl (fun _ => 0))), ((xad X 76), .inl (xA X .int, 4, .inl (fun _ => 0))), ((xad X 77), .inl (xA X .int, 60, .inl (fun _ => 0))), ((xad X 78), .inl (xA X .boolean, 256, .inl (fun _ => 0))), ((xad X 79), .inl (xA X .int, 40, .inl (fun _ => 0))), ((xad X 80), .inl (xA X .int, 4, .inl (fun _ => 0))), ((xad X 81), .inl (xA X .int, 4, .inl (fun _ => 0))), ((xad X 82), .inl (xA X .int, 160, .inl (fun _ => 0))), ((xad X 83), .inl (xA X .int, 40, .inl (fun _ => 0)))]) : va_P (xG X) vwCl (wld X mu0) H ∧ va_D A (wld X mu0) := by
  rw [wld_eq]
  exact ⟨hP.sub [0, 1, 2, 3, 4, 5, 18, 19, 20, 21, 22, 23, 24, 6, 7, 8, 9, 10, 11, 12, 13, 14, 15, 16, 17, 25, 26, 27, 28, 29, 42, 43, 44, 45, 46, 47, 48, 30, 31, 32, 33, 34, 35, 36, 37, 38, 39, 40, 41, 49, 50, 51, 52, 53, 54, 55, 56, 57, 58, 59, 60, 62, 63, 64, 65, 66, 67, 68, 69, 61, 70, 71, 72, 73, 74, 75, 76, 77, 78, 79, 80, 81, 82, 83] rfl, hD.sub [0, 1, 2, 3, 4, 5, 18, 19, 20, 21, 22, 23, 24, 6, 7, 8, 9, 10, 11, 12, 13, 14, 15, 16, 17, 25, 26, 27, 28, 29, 42, 43, 44, 45, 46, 47, 48, 30, 31, 32, 33, 34, 35, 36, 37, 38, 39, 40, 41, 49, 50, 51, 52, 53, 54, 55, 56, 57, 58, 59, 60, 62, 63, 64, 65, 66, 67, 68, 69, 61, 70, 71, 72, 73, 74, 75, 76, 77, 78, 79, 80, 81, 82, 83] (by decide) rfl⟩
set_option maxRecDepth 100000 in
set_option maxHeartbeats 4000000 in
theorem wld_mq (X0 X : Cx) (q1 q2 q3 q4 q5 q6 q7 q8 q9 q10 q11 q12 q13 q14 q15 q16 q17 q18 q19 q20 q21 q22 q23 q24 q25 q26 q27 q28 q29 q30 q31 q32 q33 q34 q35 q36 q37 q38 q39 q40 q41 q42 q43 q44 q45 q46 q47 q48 q49 q50 q51 q52 q53 q54 q55 q56 q57 q58 q59 q60 q61 q62 q63 q64 q65 q66 q67 q68 q69 q70 q71 q72 q73 q74 q75 q76 q77 q78 q79 q80 q81 q82 q83 q84 : Nat) (hG : xG X = xG X0) (hA : xA X = xA X0) (h3 : xad X 1003 = xad X0 1003) (h4 : xad X 1004 = xad X0 1004) (e0 : xad X 0 = q1) (e1 : xad X 1 = q2) (e2 : xad X 2 = q3) (e3 : xad X 3 = q4) (e4 : xad X 4 = q5) (e5 : xad X 5 = q6) (e6 : xad X 6 = q19) (e7 : xad X 7 = q20) (e8 : xad X 8 = q21) (e9 : xad X 9 = q22) (e10 : xad X 10 = q23) (e11 : xad X 11 = q24) (e12 : xad X 12 = q25) (e13 : xad X 13 = q7) (e14 : xad X 14 = q8) (e15 : xad X 15 = q9) (e16 : xad X 16 = q10) (e17 : xad X 17 = q11) (e18 : xad X 18 = q12) (e19 : xad X 19 = q13) (e20 : xad X 20 = q14) (e21 : xad X 21 = q15) (e22 : xad X 22 = q16) (e23 : xad X 23 = q17) (e24 : xad X 24 = q18) (e25 : xad X 25 = q26) (e26 : xad X 26 = q27) (e27 : xad X 27 = q28) (e28 : xad X 28 = q29) (e29 : xad X 29 = q30) (e30 : xad X 30 = q43) (e31 : xad X 31 = q44) (e32 : xad X 32 = q45) (e33 : xad X 33 = q46) (e34 : xad X 34 = q47) (e35 : xad X 35 = q48) (e36 : xad X 36 = q49) (e37 : xad X 37 = q31) (e38 : xad X 38 = q32) (e39 : xad X 39 = q33) (e40 : xad X 40 = q34) (e41 : xad X 41 = q35) (e42 : xad X 42 = q36) (e43 : xad X 43 = q37) (e44 : xad X 44 = q38) (e45 : xad X 45 = q39) (e46 : xad X 46 = q40) (e47 : xad X 47 = q41) (e48 : xad X 48 = q42) (e49 : xad X 49 = q50) (e50 : xad X 50 = q51) (e51 : xad X 51 = q52) (e52 : xad X 52 = q53) (e53 : xad X 53 = q54) (e54 : xad X 54 = q55) (e55 : xad X 55 = q56) (e56 : xad X 56 = q57) (e57 : xad X 57 = q58) (e58 : xad X 58 = q59) (e59 : xad X 59 = q60) (e60 : xad X 60 = q61) (e61 : xad X 61 = q63) (e62 : xad X 62 = q64) (e63 : xad X 63 = q65) (e64 : xad X 64 = q66) (e65 : xad X 65 = q67) (e66 : xad X 66 = q68) (e67 : xad X 67 = q69) (e68 : xad X 68 = q70) (e69 : xad X 69 = q62) (e70 : xad X 70 = q71) (e71 : xad X 71 = q72) (e72 : xad X 72 = q73) (e73 : xad X 73 = q74) (e74 : xad X 74 = q75) (e75 : xad X 75 = q76) (e76 : xad X 76 = q77) (e77 : xad X 77 = q78) (e78 : xad X 78 = q79) (e79 : xad X 79 = q80) (e80 : xad X 80 = q81) (e81 : xad X 81 = q82) (e82 : xad X 82 = q83) (e83 : xad X 83 = q84) {A : Nat → Prop} {H : Heap} (hP : va_P (xG X0) vwCl [(q1, .inr (8, [.ref q2, .ref q26, .ref q50, .ref q53, .ref q58, .ref q61, .ref q62, .int 0])), (q2, .inr (7, [.ref q3, .ref q4, .ref q5, .ref q6, .ref q7, .ref q11, .ref q15, .ref q17, .int 0, .int 0, .int 0, .int 1])), (q3, .inl (xA X0 .int, 7, .inl (fun _ => 0))), (q4, .inl (xA X0 .int, 49, .inl (fun _ => 0))), (q5, .inl (xA X0 .int, 49, .inl (fun _ => 0))), (q6, .inl (xA X0 (.object "BelievedByYard$Tale"), 7, .inr (.inr (.inr (.inr (va_up (va_up (va_up (va_up (va_up (va_up (va_up (fun _ => none) 0 (some q19)) 1 (some q20)) 2 (some q21)) 3 (some q22)) 4 (some q23)) 5 (some q24)) 6 (some q25))))))), (q7, .inr (4, [.ref q8, .ref q10])), (q8, .inr (1, [.ref q9, .int 0])), (q9, .inl (xA X0 .int, 50, .inl (fun _ => 0))), (q10, .inl (xA X0 .int, 50, .inl (fun _ => 0))), (q11, .inr (4, [.ref q12, .ref q14])), (q12, .inr (1, [.ref q13, .int 0])), (q13, .inl (xA X0 .int, 50, .inl (fun _ => 0))), (q14, .inl (xA X0 .int, 50, .inl (fun _ => 0))), (q15, .inr (1, [.ref q16, .int 0])), (q16, .inl (xA X0 .int, 50, .inl (fun _ => 0))), (q17, .inr (1, [.ref q18, .int 0])), (q18, .inl (xA X0 .int, 20, .inl (fun _ => 0))), (q19, .inr (3, [.int 0, .int 0, .int 0, .int 0, .int 0, .int 0])), (q20, .inr (3, [.int 0, .int 0, .int 0, .int 0, .int 0, .int 0])), (q21, .inr (3, [.int 0, .int 0, .int 0, .int 0, .int 0, .int 0])), (q22, .inr (3, [.int 0, .int 0, .int 0, .int 0, .int 0, .int 0])), (q23, .inr (3, [.int 0, .int 0, .int 0, .int 0, .int 0, .int 0])), (q24, .inr (3, [.int 0, .int 0, .int 0, .int 0, .int 0, .int 0])), (q25, .inr (3, [.int 0, .int 0, .int 0, .int 0, .int 0, .int 0])), (q26, .inr (7, [.ref q27, .ref q28, .ref q29, .ref q30, .ref q31, .ref q35, .ref q39, .ref q41, .int 0, .int 0, .int 0, .int 1])), (q27, .inl (xA X0 .int, 7, .inl (fun _ => 0))), (q28, .inl (xA X0 .int, 49, .inl (fun _ => 0))), (q29, .inl (xA X0 .int, 49, .inl (fun _ => 0))), (q30, .inl (xA X0 (.object "BelievedByYard$Tale"), 7, .inr (.inr (.inr (.inr (va_up (va_up (va_up (va_up (va_up (va_up (va_up (fun _ => none) 0 (some q43)) 1 (some q44)) 2 (some q45)) 3 (some q46)) 4 (some q47)) 5 (some q48)) 6 (some q49))))))), (q31, .inr (4, [.ref q32, .ref q34])), (q32, .inr (1, [.ref q33, .int 0])), (q33, .inl (xA X0 .int, 50, .inl (fun _ => 0))), (q34, .inl (xA X0 .int, 50, .inl (fun _ => 0))), (q35, .inr (4, [.ref q36, .ref q38])), (q36, .inr (1, [.ref q37, .int 0])), (q37, .inl (xA X0 .int, 50, .inl (fun _ => 0))), (q38, .inl (xA X0 .int, 50, .inl (fun _ => 0))), (q39, .inr (1, [.ref q40, .int 0])), (q40, .inl (xA X0 .int, 50, .inl (fun _ => 0))), (q41, .inr (1, [.ref q42, .int 0])), (q42, .inl (xA X0 .int, 20, .inl (fun _ => 0))), (q43, .inr (3, [.int 0, .int 0, .int 0, .int 0, .int 0, .int 0])), (q44, .inr (3, [.int 0, .int 0, .int 0, .int 0, .int 0, .int 0])), (q45, .inr (3, [.int 0, .int 0, .int 0, .int 0, .int 0, .int 0])), (q46, .inr (3, [.int 0, .int 0, .int 0, .int 0, .int 0, .int 0])), (q47, .inr (3, [.int 0, .int 0, .int 0, .int 0, .int 0, .int 0])), (q48, .inr (3, [.int 0, .int 0, .int 0, .int 0, .int 0, .int 0])), (q49, .inr (3, [.int 0, .int 0, .int 0, .int 0, .int 0, .int 0])), (q50, .inr (5, [.ref q2, .ref q51, .ref q52, .int 0, .int 0, .int 0, .int 0])), (q51, .inl (xA X0 .int, 7, .inl (fun _ => 0))), (q52, .inl (xA X0 .int, 8, .inl (fun _ => 0))), (q53, .inr (0, [.ref q54, .ref q56, .int 0, .int 0])), (q54, .inr (1, [.ref q55, .int 0])), (q55, .inl (xA X0 .int, 50, .inl (fun _ => 0))), (q56, .inr (1, [.ref q57, .int 0])), (q57, .inl (xA X0 .int, 50, .inl (fun _ => 0))), (q58, .inr (6, [.ref q59, .int 0, .int 0, .int 0])), (q59, .inr (1, [.ref q60, .int 0])), (q60, .inl (xA X0 .int, 40, .inl (fun _ => 0))), (q61, .inl (xA X0 (.object "BelievedByYard$Sheet"), 4, .inr (.inr (.inr (.inr (va_up (va_up (va_up (va_up (fun _ => none) 0 (some q63)) 1 (some q65)) 2 (some q67)) 3 (some q69))))))), (q62, .inl (xA X0 .int, 6, .inl (fun _ => 0))), (q63, .inr (2, [.ref q64, .int 0, .int 0])), (q64, .inl (xA X0 .int, 40, .inl (fun _ => 0))), (q65, .inr (2, [.ref q66, .int 0, .int 0])), (q66, .inl (xA X0 .int, 40, .inl (fun _ => 0))), (q67, .inr (2, [.ref q68, .int 0, .int 0])), (q68, .inl (xA X0 .int, 40, .inl (fun _ => 0))), (q69, .inr (2, [.ref q70, .int 0, .int 0])), (q70, .inl (xA X0 .int, 40, .inl (fun _ => 0))), (q71, .inr (9, [.ref q72, .ref q73, .int 0, .ref q74, .ref q75, .int 0, .int 0, .int 0, .int 0, .ref q76, .int 0, .ref q77, .ref q78, .int 0, .int 0, .int 0, .int 0, .ref q79, .int 0, .ref q80, .int 0, .int 0, .int 0, .int 0, .ref q81, .ref q82, .ref q83, .ref q84])), (q72, .inl (xA X0 .int, 327, .inl (upd (fun _ => 0) 3 1))), (q73, .inl (xA X0 .int, 327, .inl (fun _ => 0))), (q74, .inl (xA X0 .int, 6, .inl (fun _ => 0))), (q75, .inl (xA X0 (.object "java/lang/String"), 2, .inr (.inr (.inr (.inr (va_up (va_up (fun _ => none) 0 (some (xad X0 1003))) 1 (some (xad X0 1004)))))))), (q76, .inl (xA X0 .int, 60, .inl (fun _ => 0))), (q77, .inl (xA X0 .int, 4, .inl (fun _ => 0))), (q78, .inl (xA X0 .int, 60, .inl (fun _ => 0))), (q79, .inl (xA X0 .boolean, 256, .inl (fun _ => 0))), (q80, .inl (xA X0 .int, 40, .inl (fun _ => 0))), (q81, .inl (xA X0 .int, 4, .inl (fun _ => 0))), (q82, .inl (xA X0 .int, 4, .inl (fun _ => 0))), (q83, .inl (xA X0 .int, 160, .inl (fun _ => 0))), (q84, .inl (xA X0 .int, 40, .inl (fun _ => 0)))] H) (hD : va_D A [(q1, .inr (8, [.ref q2, .ref q26, .ref q50, .ref q53, .ref q58, .ref q61, .ref q62, .int 0])), (q2, .inr (7, [.ref q3, .ref q4, .ref q5, .ref q6, .ref q7, .ref q11, .ref q15, .ref q17, .int 0, .int 0, .int 0, .int 1])), (q3, .inl (xA X0 .int, 7, .inl (fun _ => 0))), (q4, .inl (xA X0 .int, 49, .inl (fun _ => 0))), (q5, .inl (xA X0 .int, 49, .inl (fun _ => 0))), (q6, .inl (xA X0 (.object "BelievedByYard$Tale"), 7, .inr (.inr (.inr (.inr (va_up (va_up (va_up (va_up (va_up (va_up (va_up (fun _ => none) 0 (some q19)) 1 (some q20)) 2 (some q21)) 3 (some q22)) 4 (some q23)) 5 (some q24)) 6 (some q25))))))), (q7, .inr (4, [.ref q8, .ref q10])), (q8, .inr (1, [.ref q9, .int 0])), (q9, .inl (xA X0 .int, 50, .inl (fun _ => 0))), (q10, .inl (xA X0 .int, 50, .inl (fun _ => 0))), (q11, .inr (4, [.ref q12, .ref q14])), (q12, .inr (1, [.ref q13, .int 0])), (q13, .inl (xA X0 .int, 50, .inl (fun _ => 0))), (q14, .inl (xA X0 .int, 50, .inl (fun _ => 0))), (q15, .inr (1, [.ref q16, .int 0])), (q16, .inl (xA X0 .int, 50, .inl (fun _ => 0))), (q17, .inr (1, [.ref q18, .int 0])), (q18, .inl (xA X0 .int, 20, .inl (fun _ => 0))), (q19, .inr (3, [.int 0, .int 0, .int 0, .int 0, .int 0, .int 0])), (q20, .inr (3, [.int 0, .int 0, .int 0, .int 0, .int 0, .int 0])), (q21, .inr (3, [.int 0, .int 0, .int 0, .int 0, .int 0, .int 0])), (q22, .inr (3, [.int 0, .int 0, .int 0, .int 0, .int 0, .int 0])), (q23, .inr (3, [.int 0, .int 0, .int 0, .int 0, .int 0, .int 0])), (q24, .inr (3, [.int 0, .int 0, .int 0, .int 0, .int 0, .int 0])), (q25, .inr (3, [.int 0, .int 0, .int 0, .int 0, .int 0, .int 0])), (q26, .inr (7, [.ref q27, .ref q28, .ref q29, .ref q30, .ref q31, .ref q35, .ref q39, .ref q41, .int 0, .int 0, .int 0, .int 1])), (q27, .inl (xA X0 .int, 7, .inl (fun _ => 0))), (q28, .inl (xA X0 .int, 49, .inl (fun _ => 0))), (q29, .inl (xA X0 .int, 49, .inl (fun _ => 0))), (q30, .inl (xA X0 (.object "BelievedByYard$Tale"), 7, .inr (.inr (.inr (.inr (va_up (va_up (va_up (va_up (va_up (va_up (va_up (fun _ => none) 0 (some q43)) 1 (some q44)) 2 (some q45)) 3 (some q46)) 4 (some q47)) 5 (some q48)) 6 (some q49))))))), (q31, .inr (4, [.ref q32, .ref q34])), (q32, .inr (1, [.ref q33, .int 0])), (q33, .inl (xA X0 .int, 50, .inl (fun _ => 0))), (q34, .inl (xA X0 .int, 50, .inl (fun _ => 0))), (q35, .inr (4, [.ref q36, .ref q38])), (q36, .inr (1, [.ref q37, .int 0])), (q37, .inl (xA X0 .int, 50, .inl (fun _ => 0))), (q38, .inl (xA X0 .int, 50, .inl (fun _ => 0))), (q39, .inr (1, [.ref q40, .int 0])), (q40, .inl (xA X0 .int, 50, .inl (fun _ => 0))), (q41, .inr (1, [.ref q42, .int 0])), (q42, .inl (xA X0 .int, 20, .inl (fun _ => 0))), (q43, .inr (3, [.int 0, .int 0, .int 0, .int 0, .int 0, .int 0])), (q44, .inr (3, [.int 0, .int 0, .int 0, .int 0, .int 0, .int 0])), (q45, .inr (3, [.int 0, .int 0, .int 0, .int 0, .int 0, .int 0])), (q46, .inr (3, [.int 0, .int 0, .int 0, .int 0, .int 0, .int 0])), (q47, .inr (3, [.int 0, .int 0, .int 0, .int 0, .int 0, .int 0])), (q48, .inr (3, [.int 0, .int 0, .int 0, .int 0, .int 0, .int 0])), (q49, .inr (3, [.int 0, .int 0, .int 0, .int 0, .int 0, .int 0])), (q50, .inr (5, [.ref q2, .ref q51, .ref q52, .int 0, .int 0, .int 0, .int 0])), (q51, .inl (xA X0 .int, 7, .inl (fun _ => 0))), (q52, .inl (xA X0 .int, 8, .inl (fun _ => 0))), (q53, .inr (0, [.ref q54, .ref q56, .int 0, .int 0])), (q54, .inr (1, [.ref q55, .int 0])), (q55, .inl (xA X0 .int, 50, .inl (fun _ => 0))), (q56, .inr (1, [.ref q57, .int 0])), (q57, .inl (xA X0 .int, 50, .inl (fun _ => 0))), (q58, .inr (6, [.ref q59, .int 0, .int 0, .int 0])), (q59, .inr (1, [.ref q60, .int 0])), (q60, .inl (xA X0 .int, 40, .inl (fun _ => 0))), (q61, .inl (xA X0 (.object "BelievedByYard$Sheet"), 4, .inr (.inr (.inr (.inr (va_up (va_up (va_up (va_up (fun _ => none) 0 (some q63)) 1 (some q65)) 2 (some q67)) 3 (some q69))))))), (q62, .inl (xA X0 .int, 6, .inl (fun _ => 0))), (q63, .inr (2, [.ref q64, .int 0, .int 0])), (q64, .inl (xA X0 .int, 40, .inl (fun _ => 0))), (q65, .inr (2, [.ref q66, .int 0, .int 0])), (q66, .inl (xA X0 .int, 40, .inl (fun _ => 0))), (q67, .inr (2, [.ref q68, .int 0, .int 0])), (q68, .inl (xA X0 .int, 40, .inl (fun _ => 0))), (q69, .inr (2, [.ref q70, .int 0, .int 0])), (q70, .inl (xA X0 .int, 40, .inl (fun _ => 0))), (q71, .inr (9, [.ref q72, .ref q73, .int 0, .ref q74, .ref q75, .int 0, .int 0, .int 0, .int 0, .ref q76, .int 0, .ref q77, .ref q78, .int 0, .int 0, .int 0, .int 0, .ref q79, .int 0, .ref q80, .int 0, .int 0, .int 0, .int 0, .ref q81, .ref q82, .ref q83, .ref q84])), (q72, .inl (xA X0 .int, 327, .inl (upd (fun _ => 0) 3 1))), (q73, .inl (xA X0 .int, 327, .inl (fun _ => 0))), (q74, .inl (xA X0 .int, 6, .inl (fun _ => 0))), (q75, .inl (xA X0 (.object "java/lang/String"), 2, .inr (.inr (.inr (.inr (va_up (va_up (fun _ => none) 0 (some (xad X0 1003))) 1 (some (xad X0 1004)))))))), (q76, .inl (xA X0 .int, 60, .inl (fun _ => 0))), (q77, .inl (xA X0 .int, 4, .inl (fun _ => 0))), (q78, .inl (xA X0 .int, 60, .inl (fun _ => 0))), (q79, .inl (xA X0 .boolean, 256, .inl (fun _ => 0))), (q80, .inl (xA X0 .int, 40, .inl (fun _ => 0))), (q81, .inl (xA X0 .int, 4, .inl (fun _ => 0))), (q82, .inl (xA X0 .int, 4, .inl (fun _ => 0))), (q83, .inl (xA X0 .int, 160, .inl (fun _ => 0))), (q84, .inl (xA X0 .int, 40, .inl (fun _ => 0)))]) : va_P (xG X) vwCl (wld X mu0) H ∧ va_D A (wld X mu0) := by
  rw [← hG, ← hA, ← h3, ← h4] at hP
  rw [← hA, ← h3, ← h4] at hD
  subst e0 e1 e2 e3 e4 e5 e6 e7 e8 e9 e10 e11 e12 e13 e14 e15 e16 e17 e18 e19 e20 e21 e22 e23 e24 e25 e26 e27 e28 e29 e30 e31 e32 e33 e34 e35 e36 e37 e38 e39 e40 e41 e42 e43 e44 e45 e46 e47 e48 e49 e50 e51 e52 e53 e54 e55 e56 e57 e58 e59 e60 e61 e62 e63 e64 e65 e66 e67 e68 e69 e70 e71 e72 e73 e74 e75 e76 e77 e78 e79 e80 e81 e82 e83
  exact wld_mk X hP hD
def ad2 (Q : List Nat) (f : Nat → Nat) (i : Nat) : Nat := if i < 84 then Q.getD i 0 else f i
theorem ad2_hi {Q : List Nat} {f : Nat → Nat} {i : Nat} (h : 84 ≤ i) : ad2 Q f i = f i := by
  unfold ad2
  rw [if_neg (by omega)]
theorem ad2_lo {Q : List Nat} {f : Nat → Nat} {i q : Nat} (h : i < 84) (hq : Q[i]? = some q) : ad2 Q f i = q := by
  unfold ad2
  rw [if_pos h, List.getD_eq_getElem?_getD, hq]
  rfl
set_option maxRecDepth 100000 in
set_option maxHeartbeats 4000000 in
theorem wld_ex (X0 : Cx) (L : Nat) (xs : Nat → Int32) (q1 q2 q3 q4 q5 q6 q7 q8 q9 q10 q11 q12 q13 q14 q15 q16 q17 q18 q19 q20 q21 q22 q23 q24 q25 q26 q27 q28 q29 q30 q31 q32 q33 q34 q35 q36 q37 q38 q39 q40 q41 q42 q43 q44 q45 q46 q47 q48 q49 q50 q51 q52 q53 q54 q55 q56 q57 q58 q59 q60 q61 q62 q63 q64 q65 q66 q67 q68 q69 q70 q71 q72 q73 q74 q75 q76 q77 q78 q79 q80 q81 q82 q83 q84 : Nat) {A : Nat → Prop} {H : Heap} (hP : va_P (xG X0) vwCl [(q1, .inr (8, [.ref q2, .ref q26, .ref q50, .ref q53, .ref q58, .ref q61, .ref q62, .int 0])), (q2, .inr (7, [.ref q3, .ref q4, .ref q5, .ref q6, .ref q7, .ref q11, .ref q15, .ref q17, .int 0, .int 0, .int 0, .int 1])), (q3, .inl (xA X0 .int, 7, .inl (fun _ => 0))), (q4, .inl (xA X0 .int, 49, .inl (fun _ => 0))), (q5, .inl (xA X0 .int, 49, .inl (fun _ => 0))), (q6, .inl (xA X0 (.object "BelievedByYard$Tale"), 7, .inr (.inr (.inr (.inr (va_up (va_up (va_up (va_up (va_up (va_up (va_up (fun _ => none) 0 (some q19)) 1 (some q20)) 2 (some q21)) 3 (some q22)) 4 (some q23)) 5 (some q24)) 6 (some q25))))))), (q7, .inr (4, [.ref q8, .ref q10])), (q8, .inr (1, [.ref q9, .int 0])), (q9, .inl (xA X0 .int, 50, .inl (fun _ => 0))), (q10, .inl (xA X0 .int, 50, .inl (fun _ => 0))), (q11, .inr (4, [.ref q12, .ref q14])), (q12, .inr (1, [.ref q13, .int 0])), (q13, .inl (xA X0 .int, 50, .inl (fun _ => 0))), (q14, .inl (xA X0 .int, 50, .inl (fun _ => 0))), (q15, .inr (1, [.ref q16, .int 0])), (q16, .inl (xA X0 .int, 50, .inl (fun _ => 0))), (q17, .inr (1, [.ref q18, .int 0])), (q18, .inl (xA X0 .int, 20, .inl (fun _ => 0))), (q19, .inr (3, [.int 0, .int 0, .int 0, .int 0, .int 0, .int 0])), (q20, .inr (3, [.int 0, .int 0, .int 0, .int 0, .int 0, .int 0])), (q21, .inr (3, [.int 0, .int 0, .int 0, .int 0, .int 0, .int 0])), (q22, .inr (3, [.int 0, .int 0, .int 0, .int 0, .int 0, .int 0])), (q23, .inr (3, [.int 0, .int 0, .int 0, .int 0, .int 0, .int 0])), (q24, .inr (3, [.int 0, .int 0, .int 0, .int 0, .int 0, .int 0])), (q25, .inr (3, [.int 0, .int 0, .int 0, .int 0, .int 0, .int 0])), (q26, .inr (7, [.ref q27, .ref q28, .ref q29, .ref q30, .ref q31, .ref q35, .ref q39, .ref q41, .int 0, .int 0, .int 0, .int 1])), (q27, .inl (xA X0 .int, 7, .inl (fun _ => 0))), (q28, .inl (xA X0 .int, 49, .inl (fun _ => 0))), (q29, .inl (xA X0 .int, 49, .inl (fun _ => 0))), (q30, .inl (xA X0 (.object "BelievedByYard$Tale"), 7, .inr (.inr (.inr (.inr (va_up (va_up (va_up (va_up (va_up (va_up (va_up (fun _ => none) 0 (some q43)) 1 (some q44)) 2 (some q45)) 3 (some q46)) 4 (some q47)) 5 (some q48)) 6 (some q49))))))), (q31, .inr (4, [.ref q32, .ref q34])), (q32, .inr (1, [.ref q33, .int 0])), (q33, .inl (xA X0 .int, 50, .inl (fun _ => 0))), (q34, .inl (xA X0 .int, 50, .inl (fun _ => 0))), (q35, .inr (4, [.ref q36, .ref q38])), (q36, .inr (1, [.ref q37, .int 0])), (q37, .inl (xA X0 .int, 50, .inl (fun _ => 0))), (q38, .inl (xA X0 .int, 50, .inl (fun _ => 0))), (q39, .inr (1, [.ref q40, .int 0])), (q40, .inl (xA X0 .int, 50, .inl (fun _ => 0))), (q41, .inr (1, [.ref q42, .int 0])), (q42, .inl (xA X0 .int, 20, .inl (fun _ => 0))), (q43, .inr (3, [.int 0, .int 0, .int 0, .int 0, .int 0, .int 0])), (q44, .inr (3, [.int 0, .int 0, .int 0, .int 0, .int 0, .int 0])), (q45, .inr (3, [.int 0, .int 0, .int 0, .int 0, .int 0, .int 0])), (q46, .inr (3, [.int 0, .int 0, .int 0, .int 0, .int 0, .int 0])), (q47, .inr (3, [.int 0, .int 0, .int 0, .int 0, .int 0, .int 0])), (q48, .inr (3, [.int 0, .int 0, .int 0, .int 0, .int 0, .int 0])), (q49, .inr (3, [.int 0, .int 0, .int 0, .int 0, .int 0, .int 0])), (q50, .inr (5, [.ref q2, .ref q51, .ref q52, .int 0, .int 0, .int 0, .int 0])), (q51, .inl (xA X0 .int, 7, .inl (fun _ => 0))), (q52, .inl (xA X0 .int, 8, .inl (fun _ => 0))), (q53, .inr (0, [.ref q54, .ref q56, .int 0, .int 0])), (q54, .inr (1, [.ref q55, .int 0])), (q55, .inl (xA X0 .int, 50, .inl (fun _ => 0))), (q56, .inr (1, [.ref q57, .int 0])), (q57, .inl (xA X0 .int, 50, .inl (fun _ => 0))), (q58, .inr (6, [.ref q59, .int 0, .int 0, .int 0])), (q59, .inr (1, [.ref q60, .int 0])), (q60, .inl (xA X0 .int, 40, .inl (fun _ => 0))), (q61, .inl (xA X0 (.object "BelievedByYard$Sheet"), 4, .inr (.inr (.inr (.inr (va_up (va_up (va_up (va_up (fun _ => none) 0 (some q63)) 1 (some q65)) 2 (some q67)) 3 (some q69))))))), (q62, .inl (xA X0 .int, 6, .inl (fun _ => 0))), (q63, .inr (2, [.ref q64, .int 0, .int 0])), (q64, .inl (xA X0 .int, 40, .inl (fun _ => 0))), (q65, .inr (2, [.ref q66, .int 0, .int 0])), (q66, .inl (xA X0 .int, 40, .inl (fun _ => 0))), (q67, .inr (2, [.ref q68, .int 0, .int 0])), (q68, .inl (xA X0 .int, 40, .inl (fun _ => 0))), (q69, .inr (2, [.ref q70, .int 0, .int 0])), (q70, .inl (xA X0 .int, 40, .inl (fun _ => 0))), (q71, .inr (9, [.ref q72, .ref q73, .int 0, .ref q74, .ref q75, .int 0, .int 0, .int 0, .int 0, .ref q76, .int 0, .ref q77, .ref q78, .int 0, .int 0, .int 0, .int 0, .ref q79, .int 0, .ref q80, .int 0, .int 0, .int 0, .int 0, .ref q81, .ref q82, .ref q83, .ref q84])), (q72, .inl (xA X0 .int, 327, .inl (upd (fun _ => 0) 3 1))), (q73, .inl (xA X0 .int, 327, .inl (fun _ => 0))), (q74, .inl (xA X0 .int, 6, .inl (fun _ => 0))), (q75, .inl (xA X0 (.object "java/lang/String"), 2, .inr (.inr (.inr (.inr (va_up (va_up (fun _ => none) 0 (some (xad X0 1003))) 1 (some (xad X0 1004)))))))), (q76, .inl (xA X0 .int, 60, .inl (fun _ => 0))), (q77, .inl (xA X0 .int, 4, .inl (fun _ => 0))), (q78, .inl (xA X0 .int, 60, .inl (fun _ => 0))), (q79, .inl (xA X0 .boolean, 256, .inl (fun _ => 0))), (q80, .inl (xA X0 .int, 40, .inl (fun _ => 0))), (q81, .inl (xA X0 .int, 4, .inl (fun _ => 0))), (q82, .inl (xA X0 .int, 4, .inl (fun _ => 0))), (q83, .inl (xA X0 .int, 160, .inl (fun _ => 0))), (q84, .inl (xA X0 .int, 40, .inl (fun _ => 0)))] H) (hD : va_D A [(q1, .inr (8, [.ref q2, .ref q26, .ref q50, .ref q53, .ref q58, .ref q61, .ref q62, .int 0])), (q2, .inr (7, [.ref q3, .ref q4, .ref q5, .ref q6, .ref q7, .ref q11, .ref q15, .ref q17, .int 0, .int 0, .int 0, .int 1])), (q3, .inl (xA X0 .int, 7, .inl (fun _ => 0))), (q4, .inl (xA X0 .int, 49, .inl (fun _ => 0))), (q5, .inl (xA X0 .int, 49, .inl (fun _ => 0))), (q6, .inl (xA X0 (.object "BelievedByYard$Tale"), 7, .inr (.inr (.inr (.inr (va_up (va_up (va_up (va_up (va_up (va_up (va_up (fun _ => none) 0 (some q19)) 1 (some q20)) 2 (some q21)) 3 (some q22)) 4 (some q23)) 5 (some q24)) 6 (some q25))))))), (q7, .inr (4, [.ref q8, .ref q10])), (q8, .inr (1, [.ref q9, .int 0])), (q9, .inl (xA X0 .int, 50, .inl (fun _ => 0))), (q10, .inl (xA X0 .int, 50, .inl (fun _ => 0))), (q11, .inr (4, [.ref q12, .ref q14])), (q12, .inr (1, [.ref q13, .int 0])), (q13, .inl (xA X0 .int, 50, .inl (fun _ => 0))), (q14, .inl (xA X0 .int, 50, .inl (fun _ => 0))), (q15, .inr (1, [.ref q16, .int 0])), (q16, .inl (xA X0 .int, 50, .inl (fun _ => 0))), (q17, .inr (1, [.ref q18, .int 0])), (q18, .inl (xA X0 .int, 20, .inl (fun _ => 0))), (q19, .inr (3, [.int 0, .int 0, .int 0, .int 0, .int 0, .int 0])), (q20, .inr (3, [.int 0, .int 0, .int 0, .int 0, .int 0, .int 0])), (q21, .inr (3, [.int 0, .int 0, .int 0, .int 0, .int 0, .int 0])), (q22, .inr (3, [.int 0, .int 0, .int 0, .int 0, .int 0, .int 0])), (q23, .inr (3, [.int 0, .int 0, .int 0, .int 0, .int 0, .int 0])), (q24, .inr (3, [.int 0, .int 0, .int 0, .int 0, .int 0, .int 0])), (q25, .inr (3, [.int 0, .int 0, .int 0, .int 0, .int 0, .int 0])), (q26, .inr (7, [.ref q27, .ref q28, .ref q29, .ref q30, .ref q31, .ref q35, .ref q39, .ref q41, .int 0, .int 0, .int 0, .int 1])), (q27, .inl (xA X0 .int, 7, .inl (fun _ => 0))), (q28, .inl (xA X0 .int, 49, .inl (fun _ => 0))), (q29, .inl (xA X0 .int, 49, .inl (fun _ => 0))), (q30, .inl (xA X0 (.object "BelievedByYard$Tale"), 7, .inr (.inr (.inr (.inr (va_up (va_up (va_up (va_up (va_up (va_up (va_up (fun _ => none) 0 (some q43)) 1 (some q44)) 2 (some q45)) 3 (some q46)) 4 (some q47)) 5 (some q48)) 6 (some q49))))))), (q31, .inr (4, [.ref q32, .ref q34])), (q32, .inr (1, [.ref q33, .int 0])), (q33, .inl (xA X0 .int, 50, .inl (fun _ => 0))), (q34, .inl (xA X0 .int, 50, .inl (fun _ => 0))), (q35, .inr (4, [.ref q36, .ref q38])), (q36, .inr (1, [.ref q37, .int 0])), (q37, .inl (xA X0 .int, 50, .inl (fun _ => 0))), (q38, .inl (xA X0 .int, 50, .inl (fun _ => 0))), (q39, .inr (1, [.ref q40, .int 0])), (q40, .inl (xA X0 .int, 50, .inl (fun _ => 0))), (q41, .inr (1, [.ref q42, .int 0])), (q42, .inl (xA X0 .int, 20, .inl (fun _ => 0))), (q43, .inr (3, [.int 0, .int 0, .int 0, .int 0, .int 0, .int 0])), (q44, .inr (3, [.int 0, .int 0, .int 0, .int 0, .int 0, .int 0])), (q45, .inr (3, [.int 0, .int 0, .int 0, .int 0, .int 0, .int 0])), (q46, .inr (3, [.int 0, .int 0, .int 0, .int 0, .int 0, .int 0])), (q47, .inr (3, [.int 0, .int 0, .int 0, .int 0, .int 0, .int 0])), (q48, .inr (3, [.int 0, .int 0, .int 0, .int 0, .int 0, .int 0])), (q49, .inr (3, [.int 0, .int 0, .int 0, .int 0, .int 0, .int 0])), (q50, .inr (5, [.ref q2, .ref q51, .ref q52, .int 0, .int 0, .int 0, .int 0])), (q51, .inl (xA X0 .int, 7, .inl (fun _ => 0))), (q52, .inl (xA X0 .int, 8, .inl (fun _ => 0))), (q53, .inr (0, [.ref q54, .ref q56, .int 0, .int 0])), (q54, .inr (1, [.ref q55, .int 0])), (q55, .inl (xA X0 .int, 50, .inl (fun _ => 0))), (q56, .inr (1, [.ref q57, .int 0])), (q57, .inl (xA X0 .int, 50, .inl (fun _ => 0))), (q58, .inr (6, [.ref q59, .int 0, .int 0, .int 0])), (q59, .inr (1, [.ref q60, .int 0])), (q60, .inl (xA X0 .int, 40, .inl (fun _ => 0))), (q61, .inl (xA X0 (.object "BelievedByYard$Sheet"), 4, .inr (.inr (.inr (.inr (va_up (va_up (va_up (va_up (fun _ => none) 0 (some q63)) 1 (some q65)) 2 (some q67)) 3 (some q69))))))), (q62, .inl (xA X0 .int, 6, .inl (fun _ => 0))), (q63, .inr (2, [.ref q64, .int 0, .int 0])), (q64, .inl (xA X0 .int, 40, .inl (fun _ => 0))), (q65, .inr (2, [.ref q66, .int 0, .int 0])), (q66, .inl (xA X0 .int, 40, .inl (fun _ => 0))), (q67, .inr (2, [.ref q68, .int 0, .int 0])), (q68, .inl (xA X0 .int, 40, .inl (fun _ => 0))), (q69, .inr (2, [.ref q70, .int 0, .int 0])), (q70, .inl (xA X0 .int, 40, .inl (fun _ => 0))), (q71, .inr (9, [.ref q72, .ref q73, .int 0, .ref q74, .ref q75, .int 0, .int 0, .int 0, .int 0, .ref q76, .int 0, .ref q77, .ref q78, .int 0, .int 0, .int 0, .int 0, .ref q79, .int 0, .ref q80, .int 0, .int 0, .int 0, .int 0, .ref q81, .ref q82, .ref q83, .ref q84])), (q72, .inl (xA X0 .int, 327, .inl (upd (fun _ => 0) 3 1))), (q73, .inl (xA X0 .int, 327, .inl (fun _ => 0))), (q74, .inl (xA X0 .int, 6, .inl (fun _ => 0))), (q75, .inl (xA X0 (.object "java/lang/String"), 2, .inr (.inr (.inr (.inr (va_up (va_up (fun _ => none) 0 (some (xad X0 1003))) 1 (some (xad X0 1004)))))))), (q76, .inl (xA X0 .int, 60, .inl (fun _ => 0))), (q77, .inl (xA X0 .int, 4, .inl (fun _ => 0))), (q78, .inl (xA X0 .int, 60, .inl (fun _ => 0))), (q79, .inl (xA X0 .boolean, 256, .inl (fun _ => 0))), (q80, .inl (xA X0 .int, 40, .inl (fun _ => 0))), (q81, .inl (xA X0 .int, 4, .inl (fun _ => 0))), (q82, .inl (xA X0 .int, 4, .inl (fun _ => 0))), (q83, .inl (xA X0 .int, 160, .inl (fun _ => 0))), (q84, .inl (xA X0 .int, 40, .inl (fun _ => 0)))]) : ∃ X : Cx, xL X = xL X0 ∧ xG X = xG X0 ∧ xA X = xA X0 ∧ xsc X = some (L, xs) ∧ (∀ i, 84 ≤ i → xad X i = xad X0 i) ∧ xad X 0 = q1 ∧ xad X 70 = q71 ∧ va_P (xG X) vwCl (wld X mu0) H ∧ va_D A (wld X mu0) := by
  obtain ⟨f, hf⟩ : ∃ f : Nat → Nat, f = ad2 [q1, q2, q3, q4, q5, q6, q19, q20, q21, q22, q23, q24, q25, q7, q8, q9, q10, q11, q12, q13, q14, q15, q16, q17, q18, q26, q27, q28, q29, q30, q43, q44, q45, q46, q47, q48, q49, q31, q32, q33, q34, q35, q36, q37, q38, q39, q40, q41, q42, q50, q51, q52, q53, q54, q55, q56, q57, q58, q59, q60, q61, q63, q64, q65, q66, q67, q68, q69, q70, q62, q71, q72, q73, q74, q75, q76, q77, q78, q79, q80, q81, q82, q83, q84] (xad X0) := ⟨_, rfl⟩
  have hhi : ∀ i, 84 ≤ i → f i = xad X0 i := fun i hi => by rw [hf]; exact ad2_hi hi
  have hlo : ∀ i q, i < 84 → ([q1, q2, q3, q4, q5, q6, q19, q20, q21, q22, q23, q24, q25, q7, q8, q9, q10, q11, q12, q13, q14, q15, q16, q17, q18, q26, q27, q28, q29, q30, q43, q44, q45, q46, q47, q48, q49, q31, q32, q33, q34, q35, q36, q37, q38, q39, q40, q41, q42, q50, q51, q52, q53, q54, q55, q56, q57, q58, q59, q60, q61, q63, q64, q65, q66, q67, q68, q69, q70, q62, q71, q72, q73, q74, q75, q76, q77, q78, q79, q80, q81, q82, q83, q84] : List Nat)[i]? = some q → f i = q := fun i q hi hq => by rw [hf]; exact ad2_lo hi hq
  clear hf
  refine ⟨(xL X0, xG X0, xA X0, f, some (L, xs)), rfl, rfl, rfl, rfl, hhi, hlo 0 _ (by decide) rfl, hlo 70 _ (by decide) rfl, ?_⟩
  exact wld_mq X0 (xL X0, xG X0, xA X0, f, some (L, xs)) q1 q2 q3 q4 q5 q6 q7 q8 q9 q10 q11 q12 q13 q14 q15 q16 q17 q18 q19 q20 q21 q22 q23 q24 q25 q26 q27 q28 q29 q30 q31 q32 q33 q34 q35 q36 q37 q38 q39 q40 q41 q42 q43 q44 q45 q46 q47 q48 q49 q50 q51 q52 q53 q54 q55 q56 q57 q58 q59 q60 q61 q62 q63 q64 q65 q66 q67 q68 q69 q70 q71 q72 q73 q74 q75 q76 q77 q78 q79 q80 q81 q82 q83 q84 rfl rfl (hhi 1003 (by decide)) (hhi 1004 (by decide)) (hlo 0 _ (by decide) rfl) (hlo 1 _ (by decide) rfl) (hlo 2 _ (by decide) rfl) (hlo 3 _ (by decide) rfl) (hlo 4 _ (by decide) rfl) (hlo 5 _ (by decide) rfl) (hlo 6 _ (by decide) rfl) (hlo 7 _ (by decide) rfl) (hlo 8 _ (by decide) rfl) (hlo 9 _ (by decide) rfl) (hlo 10 _ (by decide) rfl) (hlo 11 _ (by decide) rfl) (hlo 12 _ (by decide) rfl) (hlo 13 _ (by decide) rfl) (hlo 14 _ (by decide) rfl) (hlo 15 _ (by decide) rfl) (hlo 16 _ (by decide) rfl) (hlo 17 _ (by decide) rfl) (hlo 18 _ (by decide) rfl) (hlo 19 _ (by decide) rfl) (hlo 20 _ (by decide) rfl) (hlo 21 _ (by decide) rfl) (hlo 22 _ (by decide) rfl) (hlo 23 _ (by decide) rfl) (hlo 24 _ (by decide) rfl) (hlo 25 _ (by decide) rfl) (hlo 26 _ (by decide) rfl) (hlo 27 _ (by decide) rfl) (hlo 28 _ (by decide) rfl) (hlo 29 _ (by decide) rfl) (hlo 30 _ (by decide) rfl) (hlo 31 _ (by decide) rfl) (hlo 32 _ (by decide) rfl) (hlo 33 _ (by decide) rfl) (hlo 34 _ (by decide) rfl) (hlo 35 _ (by decide) rfl) (hlo 36 _ (by decide) rfl) (hlo 37 _ (by decide) rfl) (hlo 38 _ (by decide) rfl) (hlo 39 _ (by decide) rfl) (hlo 40 _ (by decide) rfl) (hlo 41 _ (by decide) rfl) (hlo 42 _ (by decide) rfl) (hlo 43 _ (by decide) rfl) (hlo 44 _ (by decide) rfl) (hlo 45 _ (by decide) rfl) (hlo 46 _ (by decide) rfl) (hlo 47 _ (by decide) rfl) (hlo 48 _ (by decide) rfl) (hlo 49 _ (by decide) rfl) (hlo 50 _ (by decide) rfl) (hlo 51 _ (by decide) rfl) (hlo 52 _ (by decide) rfl) (hlo 53 _ (by decide) rfl) (hlo 54 _ (by decide) rfl) (hlo 55 _ (by decide) rfl) (hlo 56 _ (by decide) rfl) (hlo 57 _ (by decide) rfl) (hlo 58 _ (by decide) rfl) (hlo 59 _ (by decide) rfl) (hlo 60 _ (by decide) rfl) (hlo 61 _ (by decide) rfl) (hlo 62 _ (by decide) rfl) (hlo 63 _ (by decide) rfl) (hlo 64 _ (by decide) rfl) (hlo 65 _ (by decide) rfl) (hlo 66 _ (by decide) rfl) (hlo 67 _ (by decide) rfl) (hlo 68 _ (by decide) rfl) (hlo 69 _ (by decide) rfl) (hlo 70 _ (by decide) rfl) (hlo 71 _ (by decide) rfl) (hlo 72 _ (by decide) rfl) (hlo 73 _ (by decide) rfl) (hlo 74 _ (by decide) rfl) (hlo 75 _ (by decide) rfl) (hlo 76 _ (by decide) rfl) (hlo 77 _ (by decide) rfl) (hlo 78 _ (by decide) rfl) (hlo 79 _ (by decide) rfl) (hlo 80 _ (by decide) rfl) (hlo 81 _ (by decide) rfl) (hlo 82 _ (by decide) rfl) (hlo 83 _ (by decide) rfl) hP hD
