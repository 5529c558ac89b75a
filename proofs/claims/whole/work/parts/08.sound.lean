/-! the walk is sound: each instruction's clause, by the kit's rows -/
theorem chk_at {n k : Nat} {e : Ent} (h : chk n = true) (hk : (cd n)[k]? = some e) : decode (mB n) (pcA n k) = .ok (e.2.1, e.2.2.1) ∧ okOp (mO n) (mR n) (cd n) e = true ∧ pcA n k = e.1 ∧ (isSt e.2.2.2.1 = true → sidx e.2.2.2.1 < mL n) := by
  unfold chk at h
  simp only [Bool.and_eq_true] at h
  have h1 := List.all_eq_true.mp h.1.1.1 e (List.mem_of_getElem? hk)
  simp only [Bool.and_eq_true, decide_eq_true_eq] at h1
  have h2 : pcA n k = e.1 := by unfold pcA tgt; rw [hk]
  exact ⟨by rw [h2]; exact h1.1, h1.2.1, h2, h1.2.2.2⟩
theorem adj_at : ∀ (C : List Ent) (k : Nat) (a b : Ent), adj C = true → C[k]? = some a → C[k + 1]? = some b → b.1 = a.1 + a.2.2.1 := by
  intro C
  induction C with
  | nil => intro k a b _ h; simp at h
  | cons x r ih =>
    intro k a b hA ha hb
    cases r with
    | nil => simp at hb
    | cons y r2 =>
      unfold adj at hA
      simp only [Bool.and_eq_true, decide_eq_true_eq] at hA
      cases k with
      | zero => simp at ha hb; subst ha; subst hb; exact hA.1
      | succ k => exact ih k a b hA.2 (by simpa using ha) (by simpa using hb)
theorem pc_next {n k : Nat} {a b : Ent} (h : chk n = true) (ha : (cd n)[k]? = some a) (hb : (cd n)[k + 1]? = some b) : pcA n (k + 1) = pcA n k + a.2.2.1 := by
  have h0 := h
  unfold chk at h
  simp only [Bool.and_eq_true] at h
  rw [(chk_at h0 ha).2.2.1, (chk_at h0 hb).2.2.1]
  exact adj_at _ k a b h.1.1.2 ha hb
section SND
variable {X : Cx} {n d k : Nat} {nx : Lc → List Value → Mem → Prop} {K : Option Value → Mem → Prop} {L : Lc} {st : List Value} {μ : Mem}
/-- one instruction that leaves heap and locals: what the kit's row gives -/
theorem sd_st {len : Nat} {st2 : List Value} (hn : VV X n d K (k + 1) L st2 μ) (hpc : pcA n (k + 1) = pcA n k + len)
    (row : ∀ {p : Program} {e : Env} {R : Room} {s : State} {m : MethodId} {args : Array Value} {below : List Frame} {meth : Method} {c : Code} {H : Heap} {locs : List Loc} {cells slots : Nat} {Q : State → Prop} {ls : Array Slot}, p.tables.exec = Jvm.exec → c.code = mB n → LH X ls (mL n) L →
      W p (xL X) e R s m args below meth c H locs cells slots Q (F0 m (pcA n k + len) ls (st2.map (tv (xad X)))) → W p (xL X) e R s m args below meth c H locs cells slots Q (F0 m (pcA n k) ls (st.map (tv (xad X))))) : VV X n d K k L st μ := by
  intro p e R s m args below meth c H locs cells slots A Q ls F hP hS hl hR
  have h2 := hn p e R s m args below meth c H locs cells slots A Q ls F hP hS hl hR
  rw [hpc] at h2
  exact row F.1 F.2.1 hl h2

theorem s_iload {i : Nat} (D : decode (mB n) (pcA n k) = .ok (.iload i, 2)) (hn : ∀ L st μ, nx L st μ → VV X n d K (k + 1) L st μ ∧ pcA n (k + 1) = pcA n k + 2) (hs : (match (generalizing := false) L[i]? with
    | some (some (.int x)) => nx L (.int x :: st) μ
    | _ => False)) : VV X n d K k L st μ := by
  split at hs
  · rename_i x hL
    obtain ⟨h1, h2⟩ := hn _ _ _ hs
    exact sd_st h1 h2 (fun hx hb hl kk => lv_iload hx hb D (hl.at hL) kk)
  · exact hs.elim
theorem s_iload_n {i : Fin 4} (D : decode (mB n) (pcA n k) = .ok (.iload_n i, 1)) (hn : ∀ L st μ, nx L st μ → VV X n d K (k + 1) L st μ ∧ pcA n (k + 1) = pcA n k + 1) (hs : (match (generalizing := false) L[(i : Nat)]? with
    | some (some (.int x)) => nx L (.int x :: st) μ
    | _ => False)) : VV X n d K k L st μ := by
  split at hs
  · rename_i x hL
    obtain ⟨h1, h2⟩ := hn _ _ _ hs
    exact sd_st h1 h2 (fun hx hb hl kk => lv_iload_n hx hb D rfl (hl.at hL) kk)
  · exact hs.elim
theorem s_lload_n {i : Fin 4} (D : decode (mB n) (pcA n k) = .ok (.lload_n i, 1)) (hn : ∀ L st μ, nx L st μ → VV X n d K (k + 1) L st μ ∧ pcA n (k + 1) = pcA n k + 1) (hs : (match (generalizing := false) L[(i : Nat)]? with
    | some (some (.long x)) => nx L (.long x :: st) μ
    | _ => False)) : VV X n d K k L st μ := by
  split at hs
  · rename_i x hL
    obtain ⟨h1, h2⟩ := hn _ _ _ hs
    exact sd_st h1 h2 (fun hx hb hl kk => lv_lload_n hx hb D rfl (hl.at hL) kk)
  · exact hs.elim
theorem s_aload {i : Nat} (D : decode (mB n) (pcA n k) = .ok (.aload i, 2)) (hn : ∀ L st μ, nx L st μ → VV X n d K (k + 1) L st μ ∧ pcA n (k + 1) = pcA n k + 2) (hs : (match (generalizing := false) L[i]? with
    | some (some (.ref x)) => nx L (.ref x :: st) μ
    | some (some .null) => nx L (.null :: st) μ
    | _ => False)) : VV X n d K k L st μ := by
  split at hs
  · rename_i x hL
    obtain ⟨h1, h2⟩ := hn _ _ _ hs
    exact sd_st h1 h2 (fun hx hb hl kk => lv_aload hx hb D (hl.at hL) kk)
  · rename_i hL
    obtain ⟨h1, h2⟩ := hn _ _ _ hs
    exact sd_st h1 h2 (fun hx hb hl kk => lv_aloadN hx hb D (hl.at hL) kk)
  · exact hs.elim
theorem s_aload_n {i : Fin 4} (D : decode (mB n) (pcA n k) = .ok (.aload_n i, 1)) (hn : ∀ L st μ, nx L st μ → VV X n d K (k + 1) L st μ ∧ pcA n (k + 1) = pcA n k + 1) (hs : (match (generalizing := false) L[(i : Nat)]? with
    | some (some (.ref x)) => nx L (.ref x :: st) μ
    | some (some .null) => nx L (.null :: st) μ
    | _ => False)) : VV X n d K k L st μ := by
  split at hs
  · rename_i x hL
    obtain ⟨h1, h2⟩ := hn _ _ _ hs
    exact sd_st h1 h2 (fun hx hb hl kk => lv_aload_n hx hb D rfl (hl.at hL) kk)
  · rename_i hL
    obtain ⟨h1, h2⟩ := hn _ _ _ hs
    exact sd_st h1 h2 (fun hx hb hl kk => lv_aload_nN hx hb D rfl (hl.at hL) kk)
  · exact hs.elim
theorem s_istore {i : Nat} (hi : i < mL n) (D : decode (mB n) (pcA n k) = .ok (.istore i, 2)) (hn : ∀ L st μ, nx L st μ → VV X n d K (k + 1) L st μ ∧ pcA n (k + 1) = pcA n k + 2) (hs : (match (generalizing := false) st with
    | .int x :: r => cond (stok L i) (nx (L.set i (some (.int x))) r μ) False
    | _ => False)) : VV X n d K k L st μ := by
  split at hs
  · cases hk : stok L i with
    | false => rw [hk] at hs; exact hs.elim
    | true =>
      rw [hk] at hs
      obtain ⟨h1, h2⟩ := hn _ _ _ hs
      intro p e R s m args below meth c H locs cells slots A Q ls F hP hS hl hR
      refine lv_istore F.1 F.2.1 D hl hi rfl fun ls' hl' => ?_
      rw [← h2]
      exact h1 p e R s m args below meth c H locs cells slots A Q ls' F hP hS (LH.set hk hl') hR
  · exact hs.elim
theorem s_istore_n {i : Fin 4} (hi : (i : Nat) < mL n) (D : decode (mB n) (pcA n k) = .ok (.istore_n i, 1)) (hn : ∀ L st μ, nx L st μ → VV X n d K (k + 1) L st μ ∧ pcA n (k + 1) = pcA n k + 1) (hs : (match (generalizing := false) st with
    | .int x :: r => cond (stok L i) (nx (L.set i (some (.int x))) r μ) False
    | _ => False)) : VV X n d K k L st μ := by
  split at hs
  · cases hk : stok L i with
    | false => rw [hk] at hs; exact hs.elim
    | true =>
      rw [hk] at hs
      obtain ⟨h1, h2⟩ := hn _ _ _ hs
      intro p e R s m args below meth c H locs cells slots A Q ls F hP hS hl hR
      refine lv_istore_n F.1 F.2.1 D rfl hl hi rfl fun ls' hl' => ?_
      rw [← h2]
      exact h1 p e R s m args below meth c H locs cells slots A Q ls' F hP hS (LH.set hk hl') hR
  · exact hs.elim
theorem s_astore {i : Nat} (hi : i < mL n) (D : decode (mB n) (pcA n k) = .ok (.astore i, 2)) (hn : ∀ L st μ, nx L st μ → VV X n d K (k + 1) L st μ ∧ pcA n (k + 1) = pcA n k + 2) (hs : (match (generalizing := false) st with
    | .ref x :: r => cond (stok L i) (nx (L.set i (some (.ref x))) r μ) False
    | .null :: r => cond (stok L i) (nx (L.set i (some (.null))) r μ) False
    | _ => False)) : VV X n d K k L st μ := by
  split at hs
  · cases hk : stok L i with
    | false => rw [hk] at hs; exact hs.elim
    | true =>
      rw [hk] at hs
      obtain ⟨h1, h2⟩ := hn _ _ _ hs
      intro p e R s m args below meth c H locs cells slots A Q ls F hP hS hl hR
      refine lv_astore F.1 F.2.1 D hl hi rfl fun ls' hl' => ?_
      rw [← h2]
      exact h1 p e R s m args below meth c H locs cells slots A Q ls' F hP hS (LH.set hk hl') hR
  · cases hk : stok L i with
    | false => rw [hk] at hs; exact hs.elim
    | true =>
      rw [hk] at hs
      obtain ⟨h1, h2⟩ := hn _ _ _ hs
      intro p e R s m args below meth c H locs cells slots A Q ls F hP hS hl hR
      refine lv_astoreN F.1 F.2.1 D hl hi rfl fun ls' hl' => ?_
      rw [← h2]
      exact h1 p e R s m args below meth c H locs cells slots A Q ls' F hP hS (LH.set hk hl') hR
  · exact hs.elim
theorem s_astore_n {i : Fin 4} (hi : (i : Nat) < mL n) (D : decode (mB n) (pcA n k) = .ok (.astore_n i, 1)) (hn : ∀ L st μ, nx L st μ → VV X n d K (k + 1) L st μ ∧ pcA n (k + 1) = pcA n k + 1) (hs : (match (generalizing := false) st with
    | .ref x :: r => cond (stok L i) (nx (L.set i (some (.ref x))) r μ) False
    | .null :: r => cond (stok L i) (nx (L.set i (some (.null))) r μ) False
    | _ => False)) : VV X n d K k L st μ := by
  split at hs
  · cases hk : stok L i with
    | false => rw [hk] at hs; exact hs.elim
    | true =>
      rw [hk] at hs
      obtain ⟨h1, h2⟩ := hn _ _ _ hs
      intro p e R s m args below meth c H locs cells slots A Q ls F hP hS hl hR
      refine lv_astore_n F.1 F.2.1 D rfl hl hi rfl fun ls' hl' => ?_
      rw [← h2]
      exact h1 p e R s m args below meth c H locs cells slots A Q ls' F hP hS (LH.set hk hl') hR
  · cases hk : stok L i with
    | false => rw [hk] at hs; exact hs.elim
    | true =>
      rw [hk] at hs
      obtain ⟨h1, h2⟩ := hn _ _ _ hs
      intro p e R s m args below meth c H locs cells slots A Q ls F hP hS hl hR
      refine lv_astore_nN F.1 F.2.1 D rfl hl hi rfl fun ls' hl' => ?_
      rw [← h2]
      exact h1 p e R s m args below meth c H locs cells slots A Q ls' F hP hS (LH.set hk hl') hR
  · exact hs.elim
theorem s_iinc {i : Nat} {v : Int} {val : Int32} (hi : i < mL n) (hv : val = Int32.ofInt v) (D : decode (mB n) (pcA n k) = .ok (.iinc i v, 3)) (hn : ∀ L st μ, nx L st μ → VV X n d K (k + 1) L st μ ∧ pcA n (k + 1) = pcA n k + 3) (hs : (match (generalizing := false) L[i]? with
    | some (some (.int x)) => cond (stok L i) (nx (L.set i (some (.int (x + val)))) st μ) False
    | _ => False)) : VV X n d K k L st μ := by
  split at hs
  · rename_i x hL
    cases hk : stok L i with
    | false => rw [hk] at hs; exact hs.elim
    | true =>
      rw [hk] at hs
      obtain ⟨h1, h2⟩ := hn _ _ _ hs
      intro p e R s m args below meth c H locs cells slots A Q ls F hP hS hl hR
      obtain ⟨q, hq⟩ := List.getElem?_of_mem ((toLv_mem (ad := xad X) L 0 i (.int x)).mpr ⟨i, .int x, hL, by omega, rfl⟩)
      refine lv_iinc (k := q) (v := x + val) F.1 F.2.1 D hl hq (by rw [hv]) hi rfl fun ls' hl' => ?_
      rw [← h2]
      exact h1 p e R s m args below meth c H locs cells slots A Q ls' F hP hS (LH.set (v := .int (x + val)) hk hl') hR
  · exact hs.elim
theorem s_iconst {v : Int} {val : Int32} (hv : val = Int32.ofInt v) (D : decode (mB n) (pcA n k) = .ok (.iconst v, 1)) (hn : ∀ L st μ, nx L st μ → VV X n d K (k + 1) L st μ ∧ pcA n (k + 1) = pcA n k + 1) (hs : nx L (.int val :: st) μ) : VV X n d K k L st μ := by
  obtain ⟨h1, h2⟩ := hn _ _ _ hs
  exact sd_st h1 h2 (fun hx hb hl kk => lv_iconst hx hb D hv.symm kk)
theorem s_bipush {v : Int} {val : Int32} (hv : val = (Int8.ofInt v).toInt32) (D : decode (mB n) (pcA n k) = .ok (.bipush v, 2)) (hn : ∀ L st μ, nx L st μ → VV X n d K (k + 1) L st μ ∧ pcA n (k + 1) = pcA n k + 2) (hs : nx L (.int val :: st) μ) : VV X n d K k L st μ := by
  obtain ⟨h1, h2⟩ := hn _ _ _ hs
  exact sd_st h1 h2 (fun hx hb hl kk => lv_bipush hx hb D hv.symm kk)
theorem s_sipush {v : Int} {val : Int32} (hv : val = (Int16.ofInt v).toInt32) (D : decode (mB n) (pcA n k) = .ok (.sipush v, 3)) (hn : ∀ L st μ, nx L st μ → VV X n d K (k + 1) L st μ ∧ pcA n (k + 1) = pcA n k + 3) (hs : nx L (.int val :: st) μ) : VV X n d K k L st μ := by
  obtain ⟨h1, h2⟩ := hn _ _ _ hs
  exact sd_st h1 h2 (fun hx hb hl kk => lv_sipush hx hb D hv.symm kk)
theorem s_null (D : decode (mB n) (pcA n k) = .ok (.aconst_null, 1)) (hn : ∀ L st μ, nx L st μ → VV X n d K (k + 1) L st μ ∧ pcA n (k + 1) = pcA n k + 1) (hs : nx L (.null :: st) μ) : VV X n d K k L st μ := by
  obtain ⟨h1, h2⟩ := hn _ _ _ hs
  exact sd_st h1 h2 (fun hx hb hl kk => lv_null hx hb D kk)
theorem s_ldc {i : Nat} {val : Int32} (hq : (mO n, i, val) ∈ cstQ) (D : decode (mB n) (pcA n k) = .ok (.ldc i, 2)) (hn : ∀ L st μ, nx L st μ → VV X n d K (k + 1) L st μ ∧ pcA n (k + 1) = pcA n k + 2) (hs : nx L (.int val :: st) μ) : VV X n d K k L st μ := by
  obtain ⟨h1, h2⟩ := hn _ _ _ hs
  intro p e R s m args below meth c H locs cells slots A Q ls F hP hS hl hR
  have hc := cstQ_ok _ hq
  have h3 := h1 p e R s m args below meth c H locs cells slots A Q ls F hP hS hl hR
  rw [h2] at h3
  exact lv_ldc F.1 F.2.1 F.2.2.2.1 (F.2.2.2.2.1 _ hc) D h3
theorem s_ldc_w {i : Nat} {val : Int32} (hq : (mO n, i, val) ∈ cstQ) (D : decode (mB n) (pcA n k) = .ok (.ldc_w i, 3)) (hn : ∀ L st μ, nx L st μ → VV X n d K (k + 1) L st μ ∧ pcA n (k + 1) = pcA n k + 3) (hs : nx L (.int val :: st) μ) : VV X n d K k L st μ := by
  obtain ⟨h1, h2⟩ := hn _ _ _ hs
  intro p e R s m args below meth c H locs cells slots A Q ls F hP hS hl hR
  have hc := cstQ_ok _ hq
  have h3 := h1 p e R s m args below meth c H locs cells slots A Q ls F hP hS hl hR
  rw [h2] at h3
  exact lv_ldcw F.1 F.2.1 F.2.2.2.1 (F.2.2.2.2.1 _ hc) D h3
theorem s_ldc2_w {i : Nat} {val : Int32} (hq : (mO n, i, val) ∈ cst2Q) (D : decode (mB n) (pcA n k) = .ok (.ldc2_w i, 3)) (hn : ∀ L st μ, nx L st μ → VV X n d K (k + 1) L st μ ∧ pcA n (k + 1) = pcA n k + 3) (hs : nx L (.long (l2v val) :: st) μ) : VV X n d K k L st μ := by
  obtain ⟨h1, h2⟩ := hn _ _ _ hs
  intro p e R s m args below meth c H locs cells slots A Q ls F hP hS hl hR
  have hc := cst2Q_ok _ hq
  have h3 := h1 p e R s m args below meth c H locs cells slots A Q ls F hP hS hl hR
  rw [h2] at h3
  exact lv_ldc2 F.1 F.2.1 F.2.2.2.1 (F.2.2.2.2.1 _ hc) D h3
theorem s_iadd (D : decode (mB n) (pcA n k) = .ok (.iadd, 1)) (hn : ∀ L st μ, nx L st μ → VV X n d K (k + 1) L st μ ∧ pcA n (k + 1) = pcA n k + 1) (hs : bin (fun x y => x + y) st (fun s => nx L s μ)) : VV X n d K k L st μ := by
  unfold bin at hs
  split at hs
  · obtain ⟨h1, h2⟩ := hn _ _ _ hs
    exact sd_st h1 h2 (fun hx hb hl kk => lv_iadd hx hb D kk)
  · exact hs.elim
theorem s_isub (D : decode (mB n) (pcA n k) = .ok (.isub, 1)) (hn : ∀ L st μ, nx L st μ → VV X n d K (k + 1) L st μ ∧ pcA n (k + 1) = pcA n k + 1) (hs : bin (fun x y => x - y) st (fun s => nx L s μ)) : VV X n d K k L st μ := by
  unfold bin at hs
  split at hs
  · obtain ⟨h1, h2⟩ := hn _ _ _ hs
    exact sd_st h1 h2 (fun hx hb hl kk => lv_isub hx hb D kk)
  · exact hs.elim
theorem s_imul (D : decode (mB n) (pcA n k) = .ok (.imul, 1)) (hn : ∀ L st μ, nx L st μ → VV X n d K (k + 1) L st μ ∧ pcA n (k + 1) = pcA n k + 1) (hs : bin (fun x y => x * y) st (fun s => nx L s μ)) : VV X n d K k L st μ := by
  unfold bin at hs
  split at hs
  · obtain ⟨h1, h2⟩ := hn _ _ _ hs
    exact sd_st h1 h2 (fun hx hb hl kk => lv_imul hx hb D kk)
  · exact hs.elim
theorem s_iand (D : decode (mB n) (pcA n k) = .ok (.iand, 1)) (hn : ∀ L st μ, nx L st μ → VV X n d K (k + 1) L st μ ∧ pcA n (k + 1) = pcA n k + 1) (hs : bin (fun x y => x &&& y) st (fun s => nx L s μ)) : VV X n d K k L st μ := by
  unfold bin at hs
  split at hs
  · obtain ⟨h1, h2⟩ := hn _ _ _ hs
    exact sd_st h1 h2 (fun hx hb hl kk => lv_iand hx hb D kk)
  · exact hs.elim
theorem s_ior (D : decode (mB n) (pcA n k) = .ok (.ior, 1)) (hn : ∀ L st μ, nx L st μ → VV X n d K (k + 1) L st μ ∧ pcA n (k + 1) = pcA n k + 1) (hs : bin (fun x y => x ||| y) st (fun s => nx L s μ)) : VV X n d K k L st μ := by
  unfold bin at hs
  split at hs
  · obtain ⟨h1, h2⟩ := hn _ _ _ hs
    exact sd_st h1 h2 (fun hx hb hl kk => lv_ior hx hb D kk)
  · exact hs.elim
theorem s_ixor (D : decode (mB n) (pcA n k) = .ok (.ixor, 1)) (hn : ∀ L st μ, nx L st μ → VV X n d K (k + 1) L st μ ∧ pcA n (k + 1) = pcA n k + 1) (hs : bin (fun x y => x ^^^ y) st (fun s => nx L s μ)) : VV X n d K k L st μ := by
  unfold bin at hs
  split at hs
  · obtain ⟨h1, h2⟩ := hn _ _ _ hs
    exact sd_st h1 h2 (fun hx hb hl kk => lv_ixor hx hb D kk)
  · exact hs.elim
theorem s_ishl (D : decode (mB n) (pcA n k) = .ok (.ishl, 1)) (hn : ∀ L st μ, nx L st μ → VV X n d K (k + 1) L st μ ∧ pcA n (k + 1) = pcA n k + 1) (hs : bin (fun x y => x <<< (y &&& 31)) st (fun s => nx L s μ)) : VV X n d K k L st μ := by
  unfold bin at hs
  split at hs
  · obtain ⟨h1, h2⟩ := hn _ _ _ hs
    exact sd_st h1 h2 (fun hx hb hl kk => lv_ishl hx hb D kk)
  · exact hs.elim
theorem s_ishr (D : decode (mB n) (pcA n k) = .ok (.ishr, 1)) (hn : ∀ L st μ, nx L st μ → VV X n d K (k + 1) L st μ ∧ pcA n (k + 1) = pcA n k + 1) (hs : bin (fun x y => x >>> (y &&& 31)) st (fun s => nx L s μ)) : VV X n d K k L st μ := by
  unfold bin at hs
  split at hs
  · obtain ⟨h1, h2⟩ := hn _ _ _ hs
    exact sd_st h1 h2 (fun hx hb hl kk => lv_ishr hx hb D kk)
  · exact hs.elim
theorem s_iushr (D : decode (mB n) (pcA n k) = .ok (.iushr, 1)) (hn : ∀ L st μ, nx L st μ → VV X n d K (k + 1) L st μ ∧ pcA n (k + 1) = pcA n k + 1) (hs : bin (fun x y => (x.toUInt32 >>> (y.toUInt32 &&& Int32.toUInt32 31)).toInt32) st (fun s => nx L s μ)) : VV X n d K k L st μ := by
  unfold bin at hs
  split at hs
  · obtain ⟨h1, h2⟩ := hn _ _ _ hs
    exact sd_st h1 h2 (fun hx hb hl kk => lv_iushr hx hb D rfl kk)
  · exact hs.elim
theorem s_ladd (D : decode (mB n) (pcA n k) = .ok (.ladd, 1)) (hn : ∀ L st μ, nx L st μ → VV X n d K (k + 1) L st μ ∧ pcA n (k + 1) = pcA n k + 1) (hs : binl (fun x y => x + y) st (fun s => nx L s μ)) : VV X n d K k L st μ := by
  unfold binl at hs
  split at hs
  · obtain ⟨h1, h2⟩ := hn _ _ _ hs
    exact sd_st h1 h2 (fun hx hb hl kk => lv_ladd hx hb D kk)
  · exact hs.elim
theorem s_land (D : decode (mB n) (pcA n k) = .ok (.land, 1)) (hn : ∀ L st μ, nx L st μ → VV X n d K (k + 1) L st μ ∧ pcA n (k + 1) = pcA n k + 1) (hs : binl (fun x y => x &&& y) st (fun s => nx L s μ)) : VV X n d K k L st μ := by
  unfold binl at hs
  split at hs
  · obtain ⟨h1, h2⟩ := hn _ _ _ hs
    exact sd_st h1 h2 (fun hx hb hl kk => lv_land hx hb D kk)
  · exact hs.elim
theorem s_lor (D : decode (mB n) (pcA n k) = .ok (.lor, 1)) (hn : ∀ L st μ, nx L st μ → VV X n d K (k + 1) L st μ ∧ pcA n (k + 1) = pcA n k + 1) (hs : binl (fun x y => x ||| y) st (fun s => nx L s μ)) : VV X n d K k L st μ := by
  unfold binl at hs
  split at hs
  · obtain ⟨h1, h2⟩ := hn _ _ _ hs
    exact sd_st h1 h2 (fun hx hb hl kk => lv_lor hx hb D kk)
  · exact hs.elim
theorem s_idiv (D : decode (mB n) (pcA n k) = .ok (.idiv, 1)) (hn : ∀ L st μ, nx L st μ → VV X n d K (k + 1) L st μ ∧ pcA n (k + 1) = pcA n k + 1) (hs : (match (generalizing := false) st with
    | .int y :: .int x :: r => ckA (¬ y = 0) (nx L (.int (x / y) :: r) μ)
    | _ => False)) : VV X n d K k L st μ := by
  split at hs
  · obtain ⟨h0, hs⟩ := ckA.out hs
    obtain ⟨h1, h2⟩ := hn _ _ _ hs
    exact sd_st h1 h2 (fun hx hb hl kk => lv_idiv hx hb D h0 kk)
  · exact hs.elim
theorem s_irem (D : decode (mB n) (pcA n k) = .ok (.irem, 1)) (hn : ∀ L st μ, nx L st μ → VV X n d K (k + 1) L st μ ∧ pcA n (k + 1) = pcA n k + 1) (hs : (match (generalizing := false) st with
    | .int y :: .int x :: r => ckA (¬ y = 0) (nx L (.int (x - x / y * y) :: r) μ)
    | _ => False)) : VV X n d K k L st μ := by
  split at hs
  · obtain ⟨h0, hs⟩ := ckA.out hs
    obtain ⟨h1, h2⟩ := hn _ _ _ hs
    exact sd_st h1 h2 (fun hx hb hl kk => lv_irem hx hb D h0 kk)
  · exact hs.elim
theorem s_ineg (D : decode (mB n) (pcA n k) = .ok (.ineg, 1)) (hn : ∀ L st μ, nx L st μ → VV X n d K (k + 1) L st μ ∧ pcA n (k + 1) = pcA n k + 1) (hs : (match (generalizing := false) st with
    | .int x :: r => nx L (.int (-x) :: r) μ
    | _ => False)) : VV X n d K k L st μ := by
  split at hs
  · obtain ⟨h1, h2⟩ := hn _ _ _ hs
    exact sd_st h1 h2 (fun hx hb hl kk => lv_ineg hx hb D kk)
  · exact hs.elim
theorem s_i2l (D : decode (mB n) (pcA n k) = .ok (.i2l, 1)) (hn : ∀ L st μ, nx L st μ → VV X n d K (k + 1) L st μ ∧ pcA n (k + 1) = pcA n k + 1) (hs : (match (generalizing := false) st with
    | .int x :: r => nx L (.long x.toInt64 :: r) μ
    | _ => False)) : VV X n d K k L st μ := by
  split at hs
  · obtain ⟨h1, h2⟩ := hn _ _ _ hs
    exact sd_st h1 h2 (fun hx hb hl kk => lv_i2l hx hb D rfl kk)
  · exact hs.elim
theorem s_l2i (D : decode (mB n) (pcA n k) = .ok (.l2i, 1)) (hn : ∀ L st μ, nx L st μ → VV X n d K (k + 1) L st μ ∧ pcA n (k + 1) = pcA n k + 1) (hs : (match (generalizing := false) st with
    | .long x :: r => nx L (.int x.toInt32 :: r) μ
    | _ => False)) : VV X n d K k L st μ := by
  split at hs
  · obtain ⟨h1, h2⟩ := hn _ _ _ hs
    exact sd_st h1 h2 (fun hx hb hl kk => lv_l2i hx hb D rfl kk)
  · exact hs.elim
theorem s_i2b (D : decode (mB n) (pcA n k) = .ok (.i2b, 1)) (hn : ∀ L st μ, nx L st μ → VV X n d K (k + 1) L st μ ∧ pcA n (k + 1) = pcA n k + 1) (hs : (match (generalizing := false) st with
    | .int x :: r => nx L (.int x.toInt8.toInt32 :: r) μ
    | _ => False)) : VV X n d K k L st μ := by
  split at hs
  · obtain ⟨h1, h2⟩ := hn _ _ _ hs
    exact sd_st h1 h2 (fun hx hb hl kk => lv_i2b hx hb D rfl kk)
  · exact hs.elim
theorem s_i2s (D : decode (mB n) (pcA n k) = .ok (.i2s, 1)) (hn : ∀ L st μ, nx L st μ → VV X n d K (k + 1) L st μ ∧ pcA n (k + 1) = pcA n k + 1) (hs : (match (generalizing := false) st with
    | .int x :: r => nx L (.int x.toInt16.toInt32 :: r) μ
    | _ => False)) : VV X n d K k L st μ := by
  split at hs
  · obtain ⟨h1, h2⟩ := hn _ _ _ hs
    exact sd_st h1 h2 (fun hx hb hl kk => lv_i2s hx hb D rfl kk)
  · exact hs.elim
theorem s_lcmp (D : decode (mB n) (pcA n k) = .ok (.lcmp, 1)) (hn : ∀ L st μ, nx L st μ → VV X n d K (k + 1) L st μ ∧ pcA n (k + 1) = pcA n k + 1) (hs : (match (generalizing := false) st with
    | .long y :: .long x :: r => nx L (.int (lg_cmp x y) :: r) μ
    | _ => False)) : VV X n d K k L st μ := by
  split at hs
  · obtain ⟨h1, h2⟩ := hn _ _ _ hs
    exact sd_st h1 h2 (fun hx hb hl kk => W.lcmp hx hb D kk)
  · exact hs.elim
theorem s_lshl (D : decode (mB n) (pcA n k) = .ok (.lshl, 1)) (hn : ∀ L st μ, nx L st μ → VV X n d K (k + 1) L st μ ∧ pcA n (k + 1) = pcA n k + 1) (hs : (match (generalizing := false) st with
    | .int y :: .long x :: r => nx L (.long (x <<< (y.toInt64 &&& 63)) :: r) μ
    | _ => False)) : VV X n d K k L st μ := by
  split at hs
  · obtain ⟨h1, h2⟩ := hn _ _ _ hs
    exact sd_st h1 h2 (fun hx hb hl kk => lv_lshl hx hb D rfl kk)
  · exact hs.elim
theorem s_lshr (D : decode (mB n) (pcA n k) = .ok (.lshr, 1)) (hn : ∀ L st μ, nx L st μ → VV X n d K (k + 1) L st μ ∧ pcA n (k + 1) = pcA n k + 1) (hs : (match (generalizing := false) st with
    | .int y :: .long x :: r => nx L (.long (x >>> (y.toInt64 &&& 63)) :: r) μ
    | _ => False)) : VV X n d K k L st μ := by
  split at hs
  · obtain ⟨h1, h2⟩ := hn _ _ _ hs
    exact sd_st h1 h2 (fun hx hb hl kk => lv_lshr hx hb D rfl kk)
  · exact hs.elim
theorem s_lushr (D : decode (mB n) (pcA n k) = .ok (.lushr, 1)) (hn : ∀ L st μ, nx L st μ → VV X n d K (k + 1) L st μ ∧ pcA n (k + 1) = pcA n k + 1) (hs : (match (generalizing := false) st with
    | .int y :: .long x :: r => nx L (.long ((x.toUInt64 >>> (y.toInt64.toUInt64 &&& Int64.toUInt64 63)).toInt64) :: r) μ
    | _ => False)) : VV X n d K k L st μ := by
  split at hs
  · obtain ⟨h1, h2⟩ := hn _ _ _ hs
    exact sd_st h1 h2 (fun hx hb hl kk => lv_lushr hx hb D rfl kk)
  · exact hs.elim
theorem lcat_1 {ad : Nat → Nat} {v : Value} (h : lcat v = true) : (tv ad v).category = 1 := by
  rw [tv_cat]
  cases v <;> first | rfl | (simp [lcat] at h)
theorem s_dup (D : decode (mB n) (pcA n k) = .ok (.dup, 1)) (hn : ∀ L st μ, nx L st μ → VV X n d K (k + 1) L st μ ∧ pcA n (k + 1) = pcA n k + 1) (hs : (match (generalizing := false) st with
    | v :: r => cond (lcat v) (nx L (v :: v :: r) μ) False
    | _ => False)) : VV X n d K k L st μ := by
  split at hs
  · rename_i v r
    cases hk : lcat v with
    | false => rw [hk] at hs; exact hs.elim
    | true =>
      rw [hk] at hs
      obtain ⟨h1, h2⟩ := hn _ _ _ hs
      exact sd_st h1 h2 (fun hx hb hl kk => lv_dup hx hb D (lcat_1 hk) kk)
  · exact hs.elim
theorem s_pop (D : decode (mB n) (pcA n k) = .ok (.pop, 1)) (hn : ∀ L st μ, nx L st μ → VV X n d K (k + 1) L st μ ∧ pcA n (k + 1) = pcA n k + 1) (hs : (match (generalizing := false) st with
    | v :: r => cond (lcat v) (nx L r μ) False
    | _ => False)) : VV X n d K k L st μ := by
  split at hs
  · rename_i v r
    cases hk : lcat v with
    | false => rw [hk] at hs; exact hs.elim
    | true =>
      rw [hk] at hs
      obtain ⟨h1, h2⟩ := hn _ _ _ hs
      exact sd_st h1 h2 (fun hx hb hl kk => lv_pop hx hb D (lcat_1 hk) kk)
  · exact hs.elim
theorem s_dup2 (D : decode (mB n) (pcA n k) = .ok (.dup2, 1)) (hn : ∀ L st μ, nx L st μ → VV X n d K (k + 1) L st μ ∧ pcA n (k + 1) = pcA n k + 1) (hs : (match (generalizing := false) st with
    | v :: w :: r => cond (lcat v && lcat w) (nx L (v :: w :: v :: w :: r) μ) False
    | _ => False)) : VV X n d K k L st μ := by
  split at hs
  · rename_i v w r
    cases hk : (lcat v && lcat w) with
    | false => rw [hk] at hs; exact hs.elim
    | true =>
      rw [hk] at hs
      simp only [Bool.and_eq_true] at hk
      obtain ⟨h1, h2⟩ := hn _ _ _ hs
      exact sd_st h1 h2 (fun hx hb hl kk => lv_dup2_11 hx hb D (lcat_1 hk.1) (lcat_1 hk.2) kk)
  · exact hs.elim
theorem tgt_rel {C : List Ent} {pc t : Nat} : (pc : Int) + rel C pc (t : Int) = (tgt C t : Int) := by
  unfold rel
  simp only [Int.toNat_natCast]
  omega
theorem tgt_relI {C : List Ent} {pc : Nat} {t : Int} : (pc : Int) + rel C pc t = (tgt C t.toNat : Int) := by
  unfold rel
  omega
theorem s_ifCond {cc : ClassFile.Cond} {t : Nat} (D : decode (mB n) (pcA n k) = .ok (.ifCond cc (rel (cd n) (pcA n k) t), 3)) (hn : ∀ L st μ, nx L st μ → VV X n d K (k + 1) L st μ ∧ pcA n (k + 1) = pcA n k + 3) (hs : (match (generalizing := false) st with
    | .int x :: r => brc cc x 0 (VV X n d K t L r μ) (nx L r μ)
    | _ => False)) : VV X n d K k L st μ := by
  split at hs
  · rename_i r
    have nxt : ∀ {p : Program} {e : Env} {R : Room} {s : State} {m : MethodId} {args : Array Value} {below : List Frame} {meth : Method} {c : Code} {H : Heap} {locs : List Loc} {cells slots : Nat} {A : Nat → Prop} {Q : State → Prop} {ls : Array Slot}, Fx X n d p R s m args meth c cells slots A → va_P (xG X) vwCl (wld X μ) H → va_S A s.heap H locs → LH X ls (mL n) L → Rt X n p e R s m args below meth c cells slots A K Q → nx L r μ → W p (xL X) e R s m args below meth c H locs cells slots Q (F0 m (pcA n k + 3) ls (r.map (tv (xad X)))) := by
      intro p e R s m args below meth c H locs cells slots A Q ls F hP hS hl hR h
      obtain ⟨h1, h2⟩ := hn _ _ _ h
      rw [← h2]
      exact h1 p e R s m args below meth c H locs cells slots A Q ls F hP hS hl hR
    have jmp : ∀ {p : Program} {e : Env} {R : Room} {s : State} {m : MethodId} {args : Array Value} {below : List Frame} {meth : Method} {c : Code} {H : Heap} {locs : List Loc} {cells slots : Nat} {A : Nat → Prop} {Q : State → Prop} {ls : Array Slot}, Fx X n d p R s m args meth c cells slots A → va_P (xG X) vwCl (wld X μ) H → va_S A s.heap H locs → LH X ls (mL n) L → Rt X n p e R s m args below meth c cells slots A K Q → VV X n d K t L r μ → W p (xL X) e R s m args below meth c H locs cells slots Q (F0 m (pcA n t) ls (r.map (tv (xad X)))) := by
      intro p e R s m args below meth c H locs cells slots A Q ls F hP hS hl hR h
      exact h p e R s m args below meth c H locs cells slots A Q ls F hP hS hl hR
    intro p e R s m args below meth c H locs cells slots A Q ls F hP hS hl hR
    cases cc
    · exact lv_if_eq (tgt := pcA n t) F.1 F.2.1 D tgt_rel (fun q => jmp F hP hS hl hR (hs.1 q)) (fun q => nxt F hP hS hl hR (hs.2 q))
    · exact lv_if_ne (tgt := pcA n t) F.1 F.2.1 D tgt_rel (fun q => jmp F hP hS hl hR (hs.1 q)) (fun q => nxt F hP hS hl hR (hs.2 q))
    · exact lv_if_lt (tgt := pcA n t) F.1 F.2.1 D tgt_rel (fun q => jmp F hP hS hl hR (hs.1 q)) (fun q => nxt F hP hS hl hR (hs.2 q))
    · exact lv_if_ge (tgt := pcA n t) F.1 F.2.1 D tgt_rel (fun q => jmp F hP hS hl hR (hs.1 q)) (fun q => nxt F hP hS hl hR (hs.2 q))
    · exact lv_if_gt (tgt := pcA n t) F.1 F.2.1 D tgt_rel (fun q => jmp F hP hS hl hR (hs.1 q)) (fun q => nxt F hP hS hl hR (hs.2 q))
    · exact lv_if_le (tgt := pcA n t) F.1 F.2.1 D tgt_rel (fun q => jmp F hP hS hl hR (hs.1 q)) (fun q => nxt F hP hS hl hR (hs.2 q))
  · exact hs.elim
theorem s_if_icmp {cc : ClassFile.Cond} {t : Nat} (D : decode (mB n) (pcA n k) = .ok (.if_icmp cc (rel (cd n) (pcA n k) t), 3)) (hn : ∀ L st μ, nx L st μ → VV X n d K (k + 1) L st μ ∧ pcA n (k + 1) = pcA n k + 3) (hs : (match (generalizing := false) st with
    | .int y :: .int x :: r => brc cc x y (VV X n d K t L r μ) (nx L r μ)
    | _ => False)) : VV X n d K k L st μ := by
  split at hs
  · rename_i r
    have nxt : ∀ {p : Program} {e : Env} {R : Room} {s : State} {m : MethodId} {args : Array Value} {below : List Frame} {meth : Method} {c : Code} {H : Heap} {locs : List Loc} {cells slots : Nat} {A : Nat → Prop} {Q : State → Prop} {ls : Array Slot}, Fx X n d p R s m args meth c cells slots A → va_P (xG X) vwCl (wld X μ) H → va_S A s.heap H locs → LH X ls (mL n) L → Rt X n p e R s m args below meth c cells slots A K Q → nx L r μ → W p (xL X) e R s m args below meth c H locs cells slots Q (F0 m (pcA n k + 3) ls (r.map (tv (xad X)))) := by
      intro p e R s m args below meth c H locs cells slots A Q ls F hP hS hl hR h
      obtain ⟨h1, h2⟩ := hn _ _ _ h
      rw [← h2]
      exact h1 p e R s m args below meth c H locs cells slots A Q ls F hP hS hl hR
    have jmp : ∀ {p : Program} {e : Env} {R : Room} {s : State} {m : MethodId} {args : Array Value} {below : List Frame} {meth : Method} {c : Code} {H : Heap} {locs : List Loc} {cells slots : Nat} {A : Nat → Prop} {Q : State → Prop} {ls : Array Slot}, Fx X n d p R s m args meth c cells slots A → va_P (xG X) vwCl (wld X μ) H → va_S A s.heap H locs → LH X ls (mL n) L → Rt X n p e R s m args below meth c cells slots A K Q → VV X n d K t L r μ → W p (xL X) e R s m args below meth c H locs cells slots Q (F0 m (pcA n t) ls (r.map (tv (xad X)))) := by
      intro p e R s m args below meth c H locs cells slots A Q ls F hP hS hl hR h
      exact h p e R s m args below meth c H locs cells slots A Q ls F hP hS hl hR
    intro p e R s m args below meth c H locs cells slots A Q ls F hP hS hl hR
    cases cc
    · exact lv_icmp_eq (tgt := pcA n t) F.1 F.2.1 D tgt_rel (fun q => jmp F hP hS hl hR (hs.1 q)) (fun q => nxt F hP hS hl hR (hs.2 q))
    · exact lv_icmp_ne (tgt := pcA n t) F.1 F.2.1 D tgt_rel (fun q => jmp F hP hS hl hR (hs.1 q)) (fun q => nxt F hP hS hl hR (hs.2 q))
    · exact lv_icmp_lt (tgt := pcA n t) F.1 F.2.1 D tgt_rel (fun q => jmp F hP hS hl hR (hs.1 q)) (fun q => nxt F hP hS hl hR (hs.2 q))
    · exact lv_icmp_ge (tgt := pcA n t) F.1 F.2.1 D tgt_rel (fun q => jmp F hP hS hl hR (hs.1 q)) (fun q => nxt F hP hS hl hR (hs.2 q))
    · exact lv_icmp_gt (tgt := pcA n t) F.1 F.2.1 D tgt_rel (fun q => jmp F hP hS hl hR (hs.1 q)) (fun q => nxt F hP hS hl hR (hs.2 q))
    · exact lv_icmp_le (tgt := pcA n t) F.1 F.2.1 D tgt_rel (fun q => jmp F hP hS hl hR (hs.1 q)) (fun q => nxt F hP hS hl hR (hs.2 q))
  · exact hs.elim
theorem s_ifnull {t : Nat} (D : decode (mB n) (pcA n k) = .ok (.ifnull (rel (cd n) (pcA n k) t), 3)) (hn : ∀ L st μ, nx L st μ → VV X n d K (k + 1) L st μ ∧ pcA n (k + 1) = pcA n k + 3) (hs : (match (generalizing := false) st with
    | .null :: r => VV X n d K t L r μ
    | .ref _ :: r => nx L r μ
    | _ => False)) : VV X n d K k L st μ := by
  split at hs
  · intro p e R s m args below meth c H locs cells slots A Q ls F hP hS hl hR
    exact lv_ifnullN (tgt := pcA n t) F.1 F.2.1 D tgt_rel (hs p e R s m args below meth c H locs cells slots A Q ls F hP hS hl hR)
  · obtain ⟨h1, h2⟩ := hn _ _ _ hs
    exact sd_st h1 h2 (fun hx hb hl kk => lv_ifnull hx hb D kk)
  · exact hs.elim
theorem s_ifnonnull {t : Nat} (D : decode (mB n) (pcA n k) = .ok (.ifnonnull (rel (cd n) (pcA n k) t), 3)) (hn : ∀ L st μ, nx L st μ → VV X n d K (k + 1) L st μ ∧ pcA n (k + 1) = pcA n k + 3) (hs : (match (generalizing := false) st with
    | .null :: r => nx L r μ
    | .ref _ :: r => VV X n d K t L r μ
    | _ => False)) : VV X n d K k L st μ := by
  split at hs
  · obtain ⟨h1, h2⟩ := hn _ _ _ hs
    exact sd_st h1 h2 (fun hx hb hl kk => lv_ifnonnullN hx hb D kk)
  · intro p e R s m args below meth c H locs cells slots A Q ls F hP hS hl hR
    exact lv_ifnonnull (tgt := pcA n t) F.1 F.2.1 D tgt_rel (hs p e R s m args below meth c H locs cells slots A Q ls F hP hS hl hR)
  · exact hs.elim
/-- a jump -/
theorem s_goto {t : Nat} (hn : VV X n d K t L st μ) (D : decode (mB n) (pcA n k) = .ok (.goto (rel (cd n) (pcA n k) t), 3)) : VV X n d K k L st μ := by
  intro p e R s m args below meth c H locs cells slots A Q ls F hP hS hl hR
  exact lv_goto (tgt := pcA n t) F.1 F.2.1 D tgt_rel (hn p e R s m args below meth c H locs cells slots A Q ls F hP hS hl hR)
/-! fields -/
theorem ff_at {oc idx c f : Nat} (hf : f < 64) (h : (oc, idx, 64 * c + f) ∈ flQ) : FieldFact (cnm oc) idx c f := by
  have h1 := flQ_ok _ h
  have e1 : (64 * c + f) / 64 = c := by omega
  have e2 : (64 * c + f) % 64 = f := by omega
  simp only [e1, e2] at h1
  exact h1
theorem pfc_at {ty : FieldType} {c f : Nat} (hf : f < 64) (h : PutFact ty (64 * c + f)) {C : String} {T : u_T} {N : Nat} (hc : vwCl[c]? = some (C, T, N)) : (T f).2.2.2 = false ∧ parseFieldDescriptor (T f).2.2.1 = some ty := by
  have e1 : (64 * c + f) / 64 = c := by omega
  have e2 : (64 * c + f) % 64 = f := by omega
  have h1 := h C T N
  rw [e1, e2] at h1
  exact h1 hc
theorem cls_at {C : String} {T : u_T} {N c : Nat} (hc : vwCl[c]? = some (C, T, N)) : (∀ w ∈ u_ws C T N, w ∈ gt) ∧ (∃ ty0 : Nat → FieldType, ∀ k, k < N → parseFieldDescriptor (T k).2.2.1 = some (ty0 k)) ∧ ∀ a, a < N → ∀ b, b < N → a ≠ b → (T a).2.1 ≠ (T b).2.1 := by
  have hm := List.mem_of_getElem? hc
  obtain ⟨h1, h2, h3⟩ := cls_ok _ hm
  have hg := List.all_eq_true.mp cls_good _ hm
  exact ⟨fun w hw => List.mem_filter.mpr ⟨h1 w hw, List.all_eq_true.mp hg w hw⟩, h2, h3⟩
theorem s_getfield {ix f : Nat} (hf : f < 64) (hq : (mO n, ix % 65536, 64 * (ix / 65536) + f) ∈ flQ) (D : decode (mB n) (pcA n k) = .ok (.getfield (ix % 65536), 3)) (hn : ∀ L st μ, nx L st μ → VV X n d K (k + 1) L st μ ∧ pcA n (k + 1) = pcA n k + 3) (hs : (match (generalizing := false) st with
    | .ref i :: r => gfc i (ix / 65536) f μ (fun v => nx L (v :: r) μ)
    | _ => False)) : VV X n d K k L st μ := by
  split at hs
  · rename_i i r
    unfold gfc at hs
    split at hs
    · rename_i ci fs hsh
      cases hci : Nat.beq ci (ix / 65536) with
      | false => rw [hci] at hs; exact hs.elim
      | true =>
        rw [hci] at hs
        have hci2 : ci = ix / 65536 := Nat.eq_of_beq_eq_true hci
        obtain ⟨C, T, N, hc, hk, h1, hl0⟩ := ff_at hf hq
        have key : ∀ (q : Option Nat) (v : Value), fs[f]? = some q → tv (xad X) v = fld (xad X) μ i f q → nx L (v :: r) μ → VV X n d K k L (.ref i :: r) μ := by
          intro q v hfs hv hnx
          obtain ⟨g1, g2⟩ := hn _ _ _ hnx
          intro p e R s m args below meth c H locs cells slots A Q ls F hP hS hl hR
          obtain ⟨hx, hb, hml, hown, hts, hE, hA, hrm⟩ := id F
          have h3 := g1 p e R s m args below meth c H locs cells slots A Q ls F hP hS hl hR
          rw [g2] at h3
          have he := wld_at (X := X) (μ := μ) hsh
          have hvv : (fs.mapIdx (fld (xad X) μ i))[f]? = some (tv (xad X) v) := by simp [hfs, hv]
          rcases hl0 with hl0 | ⟨host, hl0⟩
          · exact va_get hx hb hts (cls_at hc).1 hown hE.1 hP i he (by rw [hci2]; exact hc) f hk (hts _ hl0) (fun x h9 => by rw [h1] at h9; exact h9) hvv D h3
          · exact va_getN hx hb hts (cls_at hc).1 hown hE.1 hP i he (by rw [hci2]; exact hc) f hk (va_Nw.use rfl (hE.2.2.2.2.1 _ hl0)) (fun x h9 => by rw [h1] at h9; exact h9) hvv D h3
        simp only [cond_true] at hs
        split at hs
        · rename_i q hfs
          exact key _ _ hfs rfl hs
        · rename_i hfs
          exact key _ _ hfs rfl hs
        · exact hs.elim
    · exact hs.elim
  · exact hs.elim
theorem flds_wr {ad : Nat → Nat} {μ : Mem} {i f : Nat} {x : Int32} {fs : List (Option Nat)} (hfs : fs[f]? = some none) : fs.mapIdx (fld ad (wr μ i f x) i) = (fs.mapIdx (fld ad μ i)).set f (.int x) := by
  apply List.ext_getElem?
  intro j
  by_cases hj : j = f
  · subst hj
    rw [List.getElem?_set_self (by simp; exact (List.getElem?_eq_some_iff.mp hfs).1)]
    simp [hfs, fld, wr, upd]
  · rw [List.getElem?_set_ne (Ne.symm hj)]
    simp only [List.getElem?_mapIdx]
    congr 1
    funext q
    cases q with
    | none => simp [fld, wr, upd, hj]
    | some r => rfl
theorem s_put {ty : FieldType} {ix f i : Nat} {x : Int32} {r : List Value} (hf : f < 64) (hq : (mO n, ix % 65536, 64 * (ix / 65536) + f) ∈ flQ) (hp : PutFact ty (64 * (ix / 65536) + f)) (hna : narrow ty (.int x) = .int x) (hfi : fits ty (.int x) = true) (D : decode (mB n) (pcA n k) = .ok (.putfield (ix % 65536), 3)) (hn : ∀ L st μ, nx L st μ → VV X n d K (k + 1) L st μ ∧ pcA n (k + 1) = pcA n k + 3) (hs : pfc i (ix / 65536) f μ x (fun μ => nx L r μ)) : VV X n d K k L (.int x :: .ref i :: r) μ := by
  unfold pfc at hs
  split at hs
  · rename_i ci fs hsh
    cases hci : Nat.beq ci (ix / 65536) with
    | false => rw [hci] at hs; exact hs.elim
    | true =>
      rw [hci] at hs
      have hci2 : ci = ix / 65536 := Nat.eq_of_beq_eq_true hci
      obtain ⟨C, T, N, hc, hk, h1, hl0⟩ := ff_at hf hq
      obtain ⟨hfin, hdesc⟩ := pfc_at hf hp hc
      obtain ⟨hcw, ⟨ty0, hty⟩, hnm⟩ := cls_at hc
      simp only [cond_true] at hs
      split at hs
      · rename_i hfs
        obtain ⟨g1, g2⟩ := hn _ _ _ hs
        intro p e R s m args below meth c H locs cells slots A Q ls F hP hS hl hR
        obtain ⟨hx, hb, hml, hown, hts, hE, hA, hrm⟩ := id F
        have he := wld_at (X := X) (μ := μ) hsh
        have hD := wld_D (μ := μ) hE.2.1 hA
        have hset : (wld X μ).set i (xad X i, .inr (ci, (fs.mapIdx (fld (xad X) μ i)).set f (.int x))) = wld X (wr μ i f x) := wld_wr hsh (by simp only [ent]; rw [flds_wr hfs])
        have go : ∀ (H1 : Heap) (locs1 : List Loc), va_P (xG X) vwCl ((wld X μ).set i (xad X i, .inr (ci, (fs.mapIdx (fld (xad X) μ i)).set f (.int x)))) H1 → va_D A ((wld X μ).set i (xad X i, .inr (ci, (fs.mapIdx (fld (xad X) μ i)).set f (.int x)))) → va_S A s.heap H1 locs1 → W p (xL X) e R s m args below meth c H1 locs1 cells slots Q (F0 m (pcA n k + 3) ls (r.map (tv (xad X)))) := by
          intro H1 locs1 hP1 _ hS1
          rw [hset] at hP1
          rw [← g2]
          exact g1 p e R s m args below meth c H1 locs1 cells slots A Q ls F hP1 hS1 hl hR
        have hlen : f < (fs.mapIdx (fld (xad X) μ i)).length := by simp; exact (List.getElem?_eq_some_iff.mp hfs).1
        rcases hl0 with hl0 | ⟨host, hl0⟩
        · exact va_put hx hb hts hcw ty0 hty hnm hown hE.1 hP hD hS i he (by rw [hci2]; exact hc) f hk (hts _ hl0) (fun x h9 => by rw [h1] at h9; exact h9) hfin hdesc hna hfi hlen D go
        · exact va_putN hx hb hts hcw ty0 hty hnm hown hE.1 hP hD hS i he (by rw [hci2]; exact hc) f hk (va_Nw.use rfl (hE.2.2.2.2.1 _ hl0)) (fun x h9 => by rw [h1] at h9; exact h9) hfin hdesc hna hfi hlen D go
      · exact hs.elim
  · exact hs.elim
theorem s_getstatic {ix j : Nat} (hq : (mO n, ix, j) ∈ stQ) (D : decode (mB n) (pcA n k) = .ok (.getstatic ix, 3)) (hn : ∀ L st μ, nx L st μ → VV X n d K (k + 1) L st μ ∧ pcA n (k + 1) = pcA n k + 3) (hs : nx L (.ref (1000 + j) :: st) μ) : VV X n d K k L st μ := by
  obtain ⟨g1, g2⟩ := hn _ _ _ hs
  intro p e R s m args below meth c H locs cells slots A Q ls F hP hS hl hR
  obtain ⟨hx, hb, hml, hown, hts, hE, hA, hrm⟩ := id F
  have h3 := g1 p e R s m args below meth c H locs cells slots A Q ls F hP hS hl hR
  rw [g2] at h3
  obtain ⟨C, nm, de, ⟨ty, vs⟩, hst, hl0⟩ := stQ_ok _ hq
  obtain ⟨hZ, -⟩ := hE.2.2.1 j C nm de ty vs hst
  rcases hl0 with hl0 | ⟨host, hl0⟩
  · exact va_gets hx hb hZ hS hown (hts _ hl0) (fun _ h => h) D h3
  · exact va_getsN hx hb hZ hS hown (va_Nw.use rfl (hE.2.2.2.2.1 _ hl0)) (fun _ h => h) D h3
/-! arrays -/
theorem tys_int {X : Cx} : (tys X)[0]? = some (xA X .int, .int) := rfl
theorem tys_bool {X : Cx} : (tys X)[1]? = some (xA X .boolean, .boolean) := rfl
theorem arr_wr {X : Cx} {μ : Mem} {i j : Nat} {x : Int32} {ty : FieldType} {N : Nat} (hsh : shL[i]? = some (.inr (.inl (ty, N)))) : (wld X μ).set i (xad X i, .inl (xA X ty, N, .inl (upd (μ i) j x))) = wld X (wr μ i j x) :=
  wld_wr hsh (by simp only [ent, wr, if_true])
theorem s_ald {ty : FieldType} {op : Instr} {x : Int32} {i : Nat} {r : List Value} (hop : (op = .iaload ∧ ty = .int) ∨ (op = .baload ∧ ty = .boolean) ∨ (op = .caload ∧ ty = .char)) (D : decode (mB n) (pcA n k) = .ok (op, 1)) (hn : ∀ L st μ, nx L st μ → VV X n d K (k + 1) L st μ ∧ pcA n (k + 1) = pcA n k + 1) (hs : aldc X ty i x μ (fun v => nx L (.int v :: r) μ)) : VV X n d K k L (.int x :: .ref i :: r) μ := by
  unfold aldc at hs
  split at hs
  · rename_i t N hsh
    cases hty : decide (t = ty) with
    | false => rw [hty] at hs; exact hs.elim
    | true =>
      rw [hty] at hs
      have ht := of_decide_eq_true hty
      subst ht
      obtain ⟨hin, hs⟩ := ckA.out hs
      obtain ⟨g1, g2⟩ := hn _ _ _ hs
      intro p e R s m args below meth c H locs cells slots A Q ls F hP hS hl hR
      obtain ⟨hx, hb, hml, hown, hts, hE, hA, hrm⟩ := id F
      have h3 := g1 p e R s m args below meth c H locs cells slots A Q ls F hP hS hl hR
      rw [g2] at h3
      have he := wld_at (X := X) (μ := μ) hsh
      rcases hop with ⟨rfl, rfl⟩ | ⟨rfl, rfl⟩ | ⟨rfl, rfl⟩
      · exact va_iald hx hb hE.1 hP i 0 he tys_int hin D h3
      · exact va_zald hx hb hE.1 hP i 1 he tys_bool hin D h3
      · exfalso
        have hcx : ∀ q ∈ shL, ∀ N, q ≠ .inr (.inl (.char, N)) := by
          intro q hq N e
          have h1 : shL.all (fun q => match q with | .inr (.inl (.char, _)) => false | _ => true) = true := by decide +kernel
          have h2 := List.all_eq_true.mp h1 q hq
          rw [e] at h2
          simp at h2
        exact hcx _ (List.mem_of_getElem? hsh) N rfl
  · exact hs.elim
  · split at hs
    · rename_i C nm de t vs hst
      cases hty : (decide (t = ty) && Nat.ble 1000 i) with
      | false => rw [hty] at hs; exact hs.elim
      | true =>
        rw [hty] at hs
        simp only [Bool.and_eq_true, decide_eq_true_eq] at hty
        obtain ⟨ht, hi⟩ := hty
        have hi := Nat.le_of_ble_eq_true hi
        subst ht
        obtain ⟨hin, hs⟩ := ckA.out hs
        obtain ⟨g1, g2⟩ := hn _ _ _ hs
        intro p e R s m args below meth c H locs cells slots A Q ls F hP hS hl hR
        obtain ⟨hx, hb, hml, hown, hts, hE, hA, hrm⟩ := id F
        have h3 := g1 p e R s m args below meth c H locs cells slots A Q ls F hP hS hl hR
        rw [g2] at h3
        obtain ⟨-, hT⟩ := hE.2.2.1 _ C nm de t vs hst
        rw [show 1000 + (i - 1000) = i by omega] at hT
        rcases hop with ⟨rfl, rfl⟩ | ⟨rfl, rfl⟩ | ⟨rfl, rfl⟩
        · exact va_ti hx hb hT hS hin rfl D h3
        · exact va_tz hx hb hT hS hin rfl D h3
        · exact va_tc hx hb hT hS hin rfl D h3
    · split at hs
      · rename_i Ln xs hsc
        cases hty : (decide (ty = .int) && Nat.beq i 2000) with
        | false => rw [hty] at hs; exact hs.elim
        | true =>
          rw [hty] at hs
          simp only [Bool.and_eq_true, decide_eq_true_eq] at hty
          obtain ⟨ht, hi⟩ := hty
          have hi := Nat.eq_of_beq_eq_true hi
          subst hi
          obtain ⟨hin, hs⟩ := ckA.out hs
          obtain ⟨g1, g2⟩ := hn _ _ _ hs
          intro p e R s m args below meth c H locs cells slots A Q ls F hP hS hl hR
          obtain ⟨hx, hb, hml, hown, hts, hE, hA, hrm⟩ := id F
          have h3 := g1 p e R s m args below meth c H locs cells slots A Q ls F hP hS hl hR
          rw [g2] at h3
          obtain ⟨h4, h5, h6⟩ := hE.2.2.2.1 _ _ hsc
          rcases hop with ⟨rfl, rfl⟩ | ⟨rfl, rfl⟩ | ⟨rfl, rfl⟩
          · exact va_sld hx hb h4 h5 h6 hS hin D h3
          · cases ht
          · cases ht
      · exact hs.elim
theorem s_ast {ty : FieldType} {op : Instr} {x v : Int32} {i : Nat} {r : List Value} (hbo : ty = .boolean → v = 0 ∨ v = 1) (hop : (op = .iastore ∧ ty = .int) ∨ (op = .bastore ∧ ty = .boolean)) (D : decode (mB n) (pcA n k) = .ok (op, 1)) (hn : ∀ L st μ, nx L st μ → VV X n d K (k + 1) L st μ ∧ pcA n (k + 1) = pcA n k + 1) (hs : astc ty i x v μ (fun μ => nx L r μ)) : VV X n d K k L (.int v :: .int x :: .ref i :: r) μ := by
  unfold astc at hs
  split at hs
  · rename_i t N hsh
    cases hty : decide (t = ty) with
    | false => rw [hty] at hs; exact hs.elim
    | true =>
      rw [hty] at hs
      have ht := of_decide_eq_true hty
      subst ht
      obtain ⟨hin, hs⟩ := ckA.out hs
      obtain ⟨g1, g2⟩ := hn _ _ _ hs
      intro p e R s m args below meth c H locs cells slots A Q ls F hP hS hl hR
      obtain ⟨hx, hb, hml, hown, hts, hE, hA, hrm⟩ := id F
      have he := wld_at (X := X) (μ := μ) hsh
      have hD := wld_D (μ := μ) hE.2.1 hA
      have go : ∀ (H1 : Heap) (locs1 : List Loc), va_P (xG X) vwCl (wld X (wr μ i x.toNatClampNeg v)) H1 → va_S A s.heap H1 locs1 → W p (xL X) e R s m args below meth c H1 locs1 cells slots Q (F0 m (pcA n k + 1) ls (r.map (tv (xad X)))) := by
        intro H1 locs1 hP1 hS1
        rw [← g2]
        exact g1 p e R s m args below meth c H1 locs1 cells slots A Q ls F hP1 hS1 hl hR
      rcases hop with ⟨rfl, rfl⟩ | ⟨rfl, rfl⟩
      · refine va_iast hx hb hE.1 hP hD hS i 0 he tys_int hin D fun H1 locs1 hP1 _ hS1 => ?_
        rw [arr_wr hsh] at hP1
        exact go H1 locs1 hP1 hS1
      · refine va_zast hx hb hE.1 hP hD hS i 1 he tys_bool hin D fun H1 locs1 hP1 _ hS1 => ?_
        have e0 : vp_nar .boolean v = v := by rcases hbo rfl with h | h <;> (rw [h]; decide)
        rw [e0, arr_wr hsh] at hP1
        exact go H1 locs1 hP1 hS1
  · exact hs.elim
theorem tys_ref (X : Cx) : ∀ q ∈ shL, ∀ (C : String) (ids : List Nat), q = .inr (.inr (C, ids)) → ∃ t : Nat, (tys X)[t]? = some (xA X (FieldType.object C), FieldType.object C) := by
  intro q hq C ids e
  have h1 : shL.all (fun q => match q with | .inr (.inr (C, _)) => decide (C = "BelievedByYard$Tale") || decide (C = "BelievedByYard$Sheet") || decide (C = "java/lang/String") | _ => true) = true := by decide +kernel
  have h2 := List.all_eq_true.mp h1 q hq
  rw [e] at h2
  simp only [Bool.or_eq_true, decide_eq_true_eq] at h2
  rcases h2 with (h2 | h2) | h2
  · exact ⟨2, by rw [h2]; rfl⟩
  · exact ⟨3, by rw [h2]; rfl⟩
  · exact ⟨4, by rw [h2]; rfl⟩
theorem s_aaload {x : Int32} {i : Nat} {r : List Value} (D : decode (mB n) (pcA n k) = .ok (.aaload, 1)) (hn : ∀ L st μ, nx L st μ → VV X n d K (k + 1) L st μ ∧ pcA n (k + 1) = pcA n k + 1) (hs : aaldc i x (fun v => nx L (v :: r) μ)) : VV X n d K k L (.int x :: .ref i :: r) μ := by
  unfold aaldc at hs
  split at hs
  · rename_i C ids hsh
    obtain ⟨hin, hs⟩ := ckA.out hs
    have hlt : x.toNatClampNeg < ids.length := Nat.not_le.mp fun q => hin (Or.inr q)
    obtain ⟨g1, g2⟩ := hn _ _ _ (hs _ (List.getElem?_eq_getElem hlt))
    intro p e R s m args below meth c H locs cells slots A Q ls F hP hS hl hR
    obtain ⟨hx, hb, hml, hown, hts, hE, hA, hrm⟩ := id F
    have h3 := g1 p e R s m args below meth c H locs cells slots A Q ls F hP hS hl hR
    rw [g2] at h3
    have he := wld_at (X := X) (μ := μ) hsh
    obtain ⟨t, ht⟩ := tys_ref X _ (List.mem_of_getElem? hsh) C ids rfl
    refine va_aldq hx hb hE.1 hP i t he ht hin D ?_
    simp only [List.getElem?_eq_getElem hlt, Option.map_some, va_rf]
    exact h3
  · exact hs.elim
theorem s_alen {i : Nat} {r : List Value} (D : decode (mB n) (pcA n k) = .ok (.arraylength, 1)) (hn : ∀ L st μ, nx L st μ → VV X n d K (k + 1) L st μ ∧ pcA n (k + 1) = pcA n k + 1) (hs : alnc X i (fun v => nx L (.int v :: r) μ)) : VV X n d K k L (.ref i :: r) μ := by
  unfold alnc at hs
  split at hs
  · rename_i ty N hsh
    obtain ⟨g1, g2⟩ := hn _ _ _ hs
    intro p e R s m args below meth c H locs cells slots A Q ls F hP hS hl hR
    obtain ⟨hx, hb, hml, hown, hts, hE, hA, hrm⟩ := id F
    have h3 := g1 p e R s m args below meth c H locs cells slots A Q ls F hP hS hl hR
    rw [g2] at h3
    have he := wld_at (X := X) (μ := μ) hsh
    have h1 : shL.all (fun q => match q with | .inr (.inl (t, _)) => decide (t = .int) || decide (t = .boolean) | _ => true) = true := by decide +kernel
    have h2 := List.all_eq_true.mp h1 _ (List.mem_of_getElem? hsh)
    simp only [Bool.or_eq_true, decide_eq_true_eq] at h2
    rcases h2 with rfl | rfl
    · exact va_alen hx hb hE.1 hP i 0 he tys_int rfl D h3
    · exact va_alen hx hb hE.1 hP i 1 he tys_bool rfl D h3
  · rename_i C ids hsh
    obtain ⟨g1, g2⟩ := hn _ _ _ hs
    intro p e R s m args below meth c H locs cells slots A Q ls F hP hS hl hR
    obtain ⟨hx, hb, hml, hown, hts, hE, hA, hrm⟩ := id F
    have h3 := g1 p e R s m args below meth c H locs cells slots A Q ls F hP hS hl hR
    rw [g2] at h3
    have he := wld_at (X := X) (μ := μ) hsh
    obtain ⟨t, ht⟩ := tys_ref X _ (List.mem_of_getElem? hsh) C ids rfl
    exact va_alen hx hb hE.1 hP i t he ht rfl D h3
  · exact hs.elim
  · split at hs
    · rename_i C nm de t vs hst
      cases hi : Nat.ble 1000 i with
      | false => rw [hi] at hs; exact hs.elim
      | true =>
        rw [hi] at hs
        have hi := Nat.le_of_ble_eq_true hi
        obtain ⟨g1, g2⟩ := hn _ _ _ hs
        intro p e R s m args below meth c H locs cells slots A Q ls F hP hS hl hR
        obtain ⟨hx, hb, hml, hown, hts, hE, hA, hrm⟩ := id F
        have h3 := g1 p e R s m args below meth c H locs cells slots A Q ls F hP hS hl hR
        rw [g2] at h3
        obtain ⟨-, hT⟩ := hE.2.2.1 _ C nm de t vs hst
        rw [show 1000 + (i - 1000) = i by omega] at hT
        exact va_tlen hx hb hT hS rfl D h3
    · split at hs
      · rename_i Ln xs hsc
        cases hi : Nat.beq i 2000 with
        | false => rw [hi] at hs; exact hs.elim
        | true =>
          rw [hi] at hs
          have hi := Nat.eq_of_beq_eq_true hi
          subst hi
          obtain ⟨g1, g2⟩ := hn _ _ _ hs
          intro p e R s m args below meth c H locs cells slots A Q ls F hP hS hl hR
          obtain ⟨hx, hb, hml, hown, hts, hE, hA, hrm⟩ := id F
          have h3 := g1 p e R s m args below meth c H locs cells slots A Q ls F hP hS hl hR
          rw [g2] at h3
          obtain ⟨h4, h5, h6⟩ := hE.2.2.2.1 _ _ hsc
          exact va_slen hx hb h4 h5 h6 hS D h3
      · exact hs.elim
/-! calls -/
theorem popN_spec : ∀ (k : Nat) (acc st as r : List Value), popN k acc st = some (as, r) → ∃ tk : List Value, tk.length = k ∧ st = tk ++ r ∧ as = tk.reverse ++ acc := by
  intro k
  induction k with
  | zero => intro acc st as r h; simp [popN] at h; exact ⟨[], rfl, h.2, by rw [← h.1]; rfl⟩
  | succ k ih =>
    intro acc st as r h
    cases st with
    | nil => simp [popN] at h
    | cons v t =>
      simp only [popN] at h
      obtain ⟨tk, h1, h2, h3⟩ := ih _ _ _ _ h
      exact ⟨v :: tk, by simp [h1], by rw [h2]; rfl, by rw [h3]; simp⟩
theorem gi {l : List Jvm.Cond} (h : ∀ w ∈ l, w ∈ gt) : GoodIn gt l := fun w hw => ⟨h w hw, good_of_word (List.mem_filter.mp (h w hw)).2⟩
theorem call_go {p : Program} {e : Env} {R : Room} {s : State} {m : MethodId} {args : Array Value} {below : List Frame} {meth : Method} {c : Code} {H : Heap} {locs : List Loc} {cells slots : Nat} {Q : State → Prop} {A : Nat → Prop} {pc : Nat} {ls : Array Slot} {st0 rest : List Value} {a : Array Value} {post : Option Value → Mem → Prop}
    (hr : va_Run p (xL X) e R s m args below meth c H locs cells slots 0 0 (F0 m pc ls st0) rest (Qm X post a) (wA X)) (hS : va_S A s.heap H locs) (hA : ∀ q, wA X q → A q)
    (kk : ∀ (r : Option Value) (μ' : Mem) (H1 : Heap) (locs1 : List Loc), post r μ' → va_P (xG X) vwCl (wld X μ') H1 → va_S A s.heap H1 locs1 → W p (xL X) e R s m args below meth c H1 locs1 cells slots Q (F0 m (pc + 3) ls ((r.map (tv (xad X))).toList ++ rest))) :
    W p (xL X) e R s m args below meth c H locs cells slots Q (F0 m pc ls st0) := by
  intro T hT X0
  obtain ⟨v, st₀, t, T', Lc, h0, X', hL, e1, e2, ⟨⟨r, μ', hv, hp, hb⟩, hz, hk⟩, st⟩ := hr T hT X0
  cases hv
  rw [h0] at hz hk
  obtain ⟨t2, a1, b1⟩ := kk r μ' T'.heap (locs ++ Lc) hp (by rw [e1]; exact hb)
    ⟨Nat.le_trans hS.1 (by rw [e1]; exact hz), fun q h1 h2 => by rw [e1, hk q (Nat.lt_of_lt_of_le h1 hS.1) (fun z => h2 (hA q z))]; exact hS.2.1 q h1 h2, fun q hq => by
      rcases List.mem_append.mp hq with h | h
      · exact hS.2.2 q h
      · exact hA _ (hL q h)⟩ T' rfl X'
  exact ⟨t2, st t2 a1, b1⟩
theorem sh_cls {i ci : Nat} {fs : List (Option Nat)} (h : shL[i]? = some (.inl (ci, fs))) : ∃ q : vw_C, vwCl[ci]? = some q ∧ q.1 = cnm ci := by
  have h1 : shL.all (fun q => match q with | .inl (c, _) => Nat.blt c 10 | _ => true) = true := by decide +kernel
  have h2 := List.all_eq_true.mp h1 _ (List.mem_of_getElem? h)
  have h3 : ci < 10 := by simpa using h2
  match ci, h3 with
  | 0, _ => exact ⟨_, rfl, rfl⟩
  | 1, _ => exact ⟨_, rfl, rfl⟩
  | 2, _ => exact ⟨_, rfl, rfl⟩
  | 3, _ => exact ⟨_, rfl, rfl⟩
  | 4, _ => exact ⟨_, rfl, rfl⟩
  | 5, _ => exact ⟨_, rfl, rfl⟩
  | 6, _ => exact ⟨_, rfl, rfl⟩
  | 7, _ => exact ⟨_, rfl, rfl⟩
  | 8, _ => exact ⟨_, rfl, rfl⟩
  | 9, _ => exact ⟨_, rfl, rfl⟩
  | n + 10, h => exact absurd h (by omega)
theorem csum_map (ad : Nat → Nat) (st : List Value) : ((st.map (tv ad)).map fun v => v.category).sum = csum st := by
  unfold csum
  rw [List.map_map]
  congr 2
  funext v
  exact tv_cat ad v
theorem room_of {ls : Array Slot} {m : MethodId} {pc : Nat} {st r : List Value} (h : Nat.ble (csum r) 8 = true) : 2 * (F0 m pc ls st).monitorRoom + ((r.map (tv (xad X))).map fun v => v.category).sum ≤ 8 :=
  lv_room (by rw [csum_map]; exact Nat.le_of_ble_eq_true h)
theorem s_clc {m0 : Nat} {as r : List Value} (hf : MethFact m0)
    (hrun : ∀ {p : Program} {e : Env} {R : Room} {s : State} {m : MethodId} {args : Array Value} {below : List Frame} {meth : Method} {c : Code} {H : Heap} {locs : List Loc} {cells slots : Nat} {A : Nat → Prop} {ls : Array Slot} {d' : Nat} {post : Option Value → Mem → Prop}, Fx X n d p R s m args meth c cells slots A → va_P (xG X) vwCl (wld X μ) H → va_S A s.heap H locs → ls.size = mL n → Mt X m0 d' as μ post → (rmD d').frames + 1 ≤ R.frames ∧ 8 + (mL m0 + 11) + (rmD d').locals ≤ R.locals → Nat.ble (csum r) 8 = true →
      va_Run p (xL X) e R s m args below meth c H locs cells slots 0 0 (F0 m (pcA n k) ls (st.map (tv (xad X)))) (r.map (tv (xad X))) (Qm X post (as.map (tv (xad X))).toArray) (wA X))
    (hn : ∀ L st μ, nx L st μ → VV X n d K (k + 1) L st μ ∧ pcA n (k + 1) = pcA n k + 3) (hs : clc X d m0 as r μ (fun s μ => nx L s μ)) : VV X n d K k L st μ := by
  obtain ⟨⟨hs⟩⟩ := hs
  unfold clc0 at hs
  cases hc : Nat.ble (csum r) 8 with
  | false => rw [hc] at hs; exact hs.elim
  | true =>
    rw [hc] at hs
    obtain ⟨d', post, hd, hM, hpost⟩ := hs
    intro p e R s m args below meth c H locs cells slots A Q ls F hP hS hl hR
    obtain ⟨hx, hb, hml, hown, hts, hE, hA, hr1, hr2, hr3, hr4⟩ := id F
    have hmL : mL m0 ≤ 20 := hf.2.2.2.2.2
    refine call_go (hrun F hP hS hl.1 hM ⟨by show d' + 1 ≤ _; omega, by show 8 + (mL m0 + 11) + 40 * d' ≤ _; omega⟩ hc) hS hA fun r0 μ' H1 locs1 hp hP1 hS1 => ?_
    obtain ⟨g1, g2⟩ := hn _ _ _ (hpost r0 μ' hp)
    have h3 := g1 p e R s m args below meth c H1 locs1 cells slots A Q ls F hP1 hS1 hl hR
    rw [g2] at h3
    have e1 : (r0.map (tv (xad X))).toList ++ r.map (tv (xad X)) = (r0.toList ++ r).map (tv (xad X)) := by cases r0 <;> rfl
    rw [e1]
    exact h3
theorem Fx.pre {p : Program} {R : Room} {s : State} {m : MethodId} {args : Array Value} {meth : Method} {c : Code} {cells slots : Nat} {A : Nat → Prop} {H : Heap} {locs : List Loc} {as : List Value} (F : Fx X n d p R s m args meth c cells slots A) (hP : va_P (xG X) vwCl (wld X μ) H) (hS : va_S A s.heap H locs) : ∀ U : State, U.heap = H → s.WarmedH U.vm → Pm X as μ (as.map (tv (xad X))).toArray U :=
  fun U hU hW => ⟨rfl, by rw [hU]; exact hP, F.2.2.2.2.2.1.down hS hU hW F.2.2.2.2.2.2.1⟩
theorem s_virt {ix m0 i : Nat} {as r : List Value} (hq : (mO n, ix, m0) ∈ cvQ) (D : decode (mB n) (pcA n k) = .ok (.invokevirtual ix, 3)) (hn : ∀ L st μ, nx L st μ → VV X n d K (k + 1) L st μ ∧ pcA n (k + 1) = pcA n k + 3) (hp : popN (mN m0) [] st = some (as, .ref i :: r)) (hs : ckA (rcv i m0) (clc X d m0 (.ref i :: as) r μ (fun s μ => nx L s μ))) : VV X n d K k L st μ := by
  obtain ⟨hrc, hs⟩ := ckA.out hs
  obtain ⟨hl, hin, hse, hf⟩ := cvQ_ok _ hq
  refine s_clc hf ?_ hn hs
  intro p e R s m args below meth c H locs cells slots A ls d' post F hP hS hsz hM hR hc
  obtain ⟨hx, hb, hml, hown, hts, hE, hA, hrm⟩ := id F
  obtain ⟨tk, t1, t2, t3⟩ := popN_spec _ _ _ _ _ hp
  obtain ⟨fs, hsh⟩ := hrc
  obtain ⟨q, hvq, hq1⟩ := sh_cls hsh
  have hrecv := va_recv hE.1 hP hvq (wld_at (X := X) (μ := μ) hsh)
  rw [hq1, hf.2.2.2.2.1] at hrecv
  have hws : GoodIn gt (wsV (cnm (mO n)) ix (mY m0).cls (mY m0) (.code (mY m0) (mB m0) (mL m0) (mR m0) :: gt)) := gi (fun w hw => by
    unfold wsV at hw
    rcases List.mem_append.mp hw with hw | hw
    · simp only [List.mem_cons, List.not_mem_nil, or_false] at hw
      rcases hw with rfl | rfl | rfl | rfl
      · exact hl
      · exact hin
      · exact hse
      · exact hf.2.1
    · rcases List.mem_cons.mp hw with rfl | hw
      · exact hf.1
      · exact hw)
  exact va_runV (As := as.map (tv (xad X))) (rest := r.map (tv (xad X))) (b := xad X i) ⟨hx, hb, hml, hown, hts⟩ hM (cwV (mN m0) hts hws rfl rfl rfl ⟨rfl, hf.2.2.1⟩ hR) ⟨Pm.blind, hrecv, F.pre hP hS⟩ rfl (by rw [List.length_map, t3, List.append_nil, List.length_reverse, t1]) hsz (by rw [t2, t3]; simp [tv]) (room_of hc) D ⟨hrm.2.2.1, hrm.2.2.2⟩
theorem s_stat {ix m0 : Nat} {as r : List Value} (hq : (mO n, ix, m0) ∈ csQ) (D : decode (mB n) (pcA n k) = .ok (.invokestatic ix, 3)) (hn : ∀ L st μ, nx L st μ → VV X n d K (k + 1) L st μ ∧ pcA n (k + 1) = pcA n k + 3) (hp : popN (mN m0) [] st = some (as, r)) (hs : clc X d m0 as r μ (fun s μ => nx L s μ)) : VV X n d K k L st μ := by
  obtain ⟨hl, hst, hf⟩ := csQ_ok _ hq
  refine s_clc hf ?_ hn hs
  intro p e R s m args below meth c H locs cells slots A ls d' post F hP hS hsz hM hR hc
  obtain ⟨hx, hb, hml, hown, hts, hE, hA, hrm⟩ := id F
  obtain ⟨tk, t1, t2, t3⟩ := popN_spec _ _ _ _ _ hp
  have hws : GoodIn gt (va_wsS (cnm (mO n)) ix (mY m0) (.code (mY m0) (mB m0) (mL m0) (mR m0) :: gt)) := gi (fun w hw => by
    unfold va_wsS at hw
    rcases List.mem_append.mp hw with hw | hw
    · simp only [List.mem_cons, List.not_mem_nil, or_false] at hw
      rcases hw with rfl | rfl | rfl
      · exact hl
      · exact hst
      · exact hf.2.1
    · rcases List.mem_cons.mp hw with rfl | hw
      · exact hf.1
      · exact hw)
  exact va_runS (As := as.map (tv (xad X))) (rest := r.map (tv (xad X))) ⟨hx, hb, hml, hown, hts⟩ hM (va_cwS (mN m0) hts hws rfl rfl rfl hf.2.2.1 hR) ⟨Pm.blind, F.pre hP hS⟩ rfl (by rw [List.length_map, t3, List.append_nil, List.length_reverse, t1]) hsz (by rw [t2, t3]; simp) (room_of hc) D ⟨hrm.2.2.1, hrm.2.2.2⟩
theorem s_nest {ix m0 : Nat} {as r : List Value} (hq : (mO n, ix, m0) ∈ cnQ) (D : decode (mB n) (pcA n k) = .ok (.invokestatic ix, 3)) (hn : ∀ L st μ, nx L st μ → VV X n d K (k + 1) L st μ ∧ pcA n (k + 1) = pcA n k + 3) (hp : popN (mN m0) [] st = some (as, r)) (hs : clc X d m0 as r μ (fun s μ => nx L s μ)) : VV X n d K k L st μ := by
  obtain ⟨⟨host, hl⟩, hst, hf⟩ := cnQ_ok _ hq
  refine s_clc hf ?_ hn hs
  intro p e R s m args below meth c H locs cells slots A ls d' post F hP hS hsz hM hR hc
  obtain ⟨hx, hb, hml, hown, hts, hE, hA, hrm⟩ := id F
  obtain ⟨tk, t1, t2, t3⟩ := popN_spec _ _ _ _ _ hp
  have hws : GoodIn gt (.code (mY m0) (mB m0) (mL m0) (mR m0) :: gt) := gi (fun w hw => by
    rcases List.mem_cons.mp hw with rfl | hw
    · exact hf.1
    · exact hw)
  exact va_runSN (As := as.map (tv (xad X))) (rest := r.map (tv (xad X))) ⟨hx, hb, hml, hown, hts⟩ hM ⟨va_cnB (mN m0) hts hws rfl rfl rfl (hE.2.2.2.2.1 _ hl) (hts _ hf.2.1) hf.2.2.1 hR, hts _ hst, trivial⟩ ⟨Pm.blind, F.pre hP hS⟩ rfl (by rw [List.length_map, t3, List.append_nil, List.length_reverse, t1]) hsz (by rw [t2, t3]; simp) (room_of hc) D ⟨hrm.2.2.1, hrm.2.2.2⟩
theorem s_max {ix : Nat} {x y : Int32} {r : List Value} (hq : (mO n, ix) ∈ maxQ) (D : decode (mB n) (pcA n k) = .ok (.invokestatic ix, 3)) (hn : ∀ L st μ, nx L st μ → VV X n d K (k + 1) L st μ ∧ pcA n (k + 1) = pcA n k + 3) (hs : cond (Nat.ble 1 d && Nat.ble (csum r) 8) (nx L (.int (if x < y then y else x) :: r) μ) False) : VV X n d K k L (.int y :: .int x :: r) μ := by
  cases hk : (Nat.ble 1 d && Nat.ble (csum r) 8) with
  | false => rw [hk] at hs; exact hs.elim
  | true =>
    rw [hk] at hs
    simp only [Bool.and_eq_true] at hk
    have hd := Nat.le_of_ble_eq_true hk.1
    have hc := Nat.le_of_ble_eq_true hk.2
    obtain ⟨g1, g2⟩ := hn _ _ _ hs
    intro p e R s m args below meth c H locs cells slots A Q ls F hP hS hl hR
    obtain ⟨hx, hb, hml, hown, hts, hE, hA, hr1, hr2, hr3, hr4⟩ := id F
    have h3 := g1 p e R s m args below meth c H locs cells slots A Q ls F hP hS hl hR
    rw [g2] at h3
    exact va_mmax hx hb (by rw [hml, hl.1]) hown (hts _ (maxQ_ok (mO n, ix) hq)) (hts _ max_st) (hts _ math_in) (hts _ max_co) (by omega) (by rw [csum_map]; omega) hr3 hr4 D h3
theorem s_min {ix : Nat} {x y : Int32} {r : List Value} (hq : (mO n, ix) ∈ minQ) (D : decode (mB n) (pcA n k) = .ok (.invokestatic ix, 3)) (hn : ∀ L st μ, nx L st μ → VV X n d K (k + 1) L st μ ∧ pcA n (k + 1) = pcA n k + 3) (hs : cond (Nat.ble 1 d && Nat.ble (csum r) 8) (nx L (.int (if y < x then y else x) :: r) μ) False) : VV X n d K k L (.int y :: .int x :: r) μ := by
  cases hk : (Nat.ble 1 d && Nat.ble (csum r) 8) with
  | false => rw [hk] at hs; exact hs.elim
  | true =>
    rw [hk] at hs
    simp only [Bool.and_eq_true] at hk
    have hd := Nat.le_of_ble_eq_true hk.1
    have hc := Nat.le_of_ble_eq_true hk.2
    obtain ⟨g1, g2⟩ := hn _ _ _ hs
    intro p e R s m args below meth c H locs cells slots A Q ls F hP hS hl hR
    obtain ⟨hx, hb, hml, hown, hts, hE, hA, hr1, hr2, hr3, hr4⟩ := id F
    have h3 := g1 p e R s m args below meth c H locs cells slots A Q ls F hP hS hl hR
    rw [g2] at h3
    exact va_mmin hx hb (by rw [hml, hl.1]) hown (hts _ (minQ_ok (mO n, ix) hq)) (hts _ min_st) (hts _ math_in) (hts _ min_co) (by omega) (by rw [csum_map]; omega) hr3 hr4 D h3
/-! ends -/
theorem s_ret {i : Instr} {r : Option Value} (D : decode (mB n) (pcA n k) = .ok (i, 1)) (hk : K r μ) (hr : RetOk X n i r (st.map (tv (xad X)))) : VV X n d K k L st μ := by
  intro p e R s m args below meth c H locs cells slots A Q ls F hP hS hl hR
  exact hR r μ H locs (pcA n k) i ls _ hk hP hS D hr
/-! switches -/
theorem swc_look {C : List Ent} {pc : Nat} {x : Int32} {j : Nat → Prop} {D : Int} : ∀ (l : List (Int × Int)), swc x j D.toNat l → ∃ t : Int, j t.toNat ∧ Op.lookupswitch.offset (l.map (fun q => (q.1, rel C pc q.2))) (rel C pc D) x.toInt = rel C pc t := by
  intro l
  induction l with
  | nil => intro h; exact ⟨D, h, rfl⟩
  | cons q r ih =>
    intro h
    obtain ⟨a, t⟩ := q
    obtain ⟨h1, h2⟩ := h
    rw [List.map_cons, Op.lookupswitch.offset_cons]
    by_cases hx : x.toInt = a
    · exact ⟨t, h1 hx, by simp [hx]⟩
    · obtain ⟨t2, h3, h4⟩ := ih (h2 hx)
      exact ⟨t2, h3, by rw [if_neg (fun e => hx (by first | exact e | exact e.symm)), h4]⟩
theorem swc_tab {x : Int32} {j : Nat → Prop} {D : Nat} : ∀ (l : List Int) (lo : Int), swc x j D (swt lo l) → (∃ t, l[(x.toInt - lo).toNat]? = some t ∧ lo ≤ x.toInt ∧ x.toInt < lo + l.length ∧ j t.toNat) ∨ ((x.toInt < lo ∨ lo + l.length ≤ x.toInt) ∧ j D) := by
  intro l
  induction l with
  | nil => intro lo h; right; exact ⟨by simp; omega, h⟩
  | cons q r ih =>
    intro lo h
    obtain ⟨h1, h2⟩ := h
    by_cases hx : x.toInt = lo
    · left
      exact ⟨q, by simp [hx], by omega, by simp; omega, h1 hx⟩
    · rcases ih _ (h2 hx) with ⟨t, g1, g2, g3, g4⟩ | ⟨g1, g2⟩
      · left
        refine ⟨t, ?_, by omega, by simp; omega, g4⟩
        have e1 : (x.toInt - lo).toNat = (x.toInt - (lo + 1)).toNat + 1 := by omega
        rw [e1, List.getElem?_cons_succ]
        exact g1
      · right
        exact ⟨by simp; omega, g2⟩
theorem s_look {D0 : Int} {ps : Array (Int × Int)} {len : Nat} {x : Int32} {r : List Value} (D : decode (mB n) (pcA n k) = .ok (.lookupswitch (rel (cd n) (pcA n k) D0) (ps.map (fun q => (q.1, rel (cd n) (pcA n k) q.2))), len)) (hp : ((ps.map (fun q => (q.1, rel (cd n) (pcA n k) q.2))).toList.zip ((ps.map (fun q => (q.1, rel (cd n) (pcA n k) q.2))).toList.drop 1)).all (fun (a, next) => a.1 < next.1) = true) (hs : swc x (fun t => VV X n d K t L r μ) D0.toNat ps.toList) : VV X n d K k L (.int x :: r) μ := by
  obtain ⟨t, h1, h2⟩ := swc_look (C := cd n) (pc := pcA n k) _ hs
  intro p e R s m args below meth c H locs cells slots A Q ls F hP hS hl hR
  exact lv_lookup (tgt := pcA n t.toNat) F.1 F.2.1 D hp (by rw [Array.toList_map]; exact h2) tgt_relI (h1 p e R s m args below meth c H locs cells slots A Q ls F hP hS hl hR)
theorem s_tab {D0 lo hi : Int} {ts : Array Int} {len : Nat} {x : Int32} {r : List Value} (D : decode (mB n) (pcA n k) = .ok (.tableswitch (rel (cd n) (pcA n k) D0) lo hi (ts.map (rel (cd n) (pcA n k))), len)) (hh : hi + 1 = lo + ts.size) (hs : swc x (fun t => VV X n d K t L r μ) D0.toNat (swt lo ts.toList)) : VV X n d K k L (.int x :: r) μ := by
  have hsz : (ts.toList.length : Int) = (ts.size : Int) := by simp
  intro p e R s m args below meth c H locs cells slots A Q ls F hP hS hl hR
  rcases swc_tab _ _ hs with ⟨t, g1, g2, g3, g4⟩ | ⟨g1, g2⟩
  · refine lv_tableIn (off := rel (cd n) (pcA n k) t) (tgt := pcA n t.toNat) F.1 F.2.1 D (by omega) (by omega) ?_ tgt_relI (g4 p e R s m args below meth c H locs cells slots A Q ls F hP hS hl hR)
    have g5 : ts[(x.toInt - lo).toNat]? = some t := by rw [← Array.getElem?_toList]; exact g1
    simp [g5]
  · exact lv_tableOut (tgt := pcA n D0.toNat) F.1 F.2.1 D (by omega) tgt_relI (g2 p e R s m args below meth c H locs cells slots A Q ls F hP hS hl hR)
/-! one instruction, whatever it is -/
theorem st_sound {e : Ent} (hc : chk n = true) (he : (cd n)[k]? = some e) (hn0 : ∀ L st μ, nx L st μ → (∃ b, (cd n)[k + 1]? = some b) ∧ VV X n d K (k + 1) L st μ) (hs : stp X d K (VV X n d K) e nx L st μ) : VV X n d K k L st μ := by
  obtain ⟨D, ok, hpc, hsx⟩ := chk_at hc he
  have hn : ∀ L st μ, nx L st μ → VV X n d K (k + 1) L st μ ∧ pcA n (k + 1) = pcA n k + e.2.2.1 := fun L st μ h => by
    obtain ⟨⟨b, hb⟩, h2⟩ := hn0 L st μ h
    exact ⟨h2, pc_next hc he hb⟩
  obtain ⟨pc0, raw, len, op, ix, val⟩ := e
  dsimp only at D hn hpc hsx
  subst hpc
  cases op with
  | iload i =>
    have ok := of_decide_eq_true ok
    dsimp only at ok
    obtain ⟨rfl, rfl⟩ := ok
    exact s_iload D hn hs
  | iload_n i =>
    have ok := of_decide_eq_true ok
    dsimp only at ok
    obtain ⟨rfl, rfl⟩ := ok
    exact s_iload_n D hn hs
  | lload_n i =>
    have ok := of_decide_eq_true ok
    dsimp only at ok
    obtain ⟨rfl, rfl⟩ := ok
    exact s_lload_n D hn hs
  | aload i =>
    have ok := of_decide_eq_true ok
    dsimp only at ok
    obtain ⟨rfl, rfl⟩ := ok
    exact s_aload D hn hs
  | aload_n i =>
    have ok := of_decide_eq_true ok
    dsimp only at ok
    obtain ⟨rfl, rfl⟩ := ok
    exact s_aload_n D hn hs
  | istore i =>
    have ok := of_decide_eq_true ok
    dsimp only at ok
    obtain ⟨rfl, rfl⟩ := ok
    exact s_istore (hsx rfl) D hn hs
  | istore_n i =>
    have ok := of_decide_eq_true ok
    dsimp only at ok
    obtain ⟨rfl, rfl⟩ := ok
    exact s_istore_n (hsx rfl) D hn hs
  | astore i =>
    have ok := of_decide_eq_true ok
    dsimp only at ok
    obtain ⟨rfl, rfl⟩ := ok
    exact s_astore (hsx rfl) D hn hs
  | astore_n i =>
    have ok := of_decide_eq_true ok
    dsimp only at ok
    obtain ⟨rfl, rfl⟩ := ok
    exact s_astore_n (hsx rfl) D hn hs
  | iinc i v =>
    have ok := of_decide_eq_true ok
    dsimp only at ok
    obtain ⟨rfl, rfl, hv⟩ := ok
    exact s_iinc (hsx rfl) hv D hn hs
  | iconst v =>
    have ok := of_decide_eq_true ok
    dsimp only at ok
    obtain ⟨rfl, rfl, hv⟩ := ok
    exact s_iconst hv D hn hs
  | bipush v =>
    have ok := of_decide_eq_true ok
    dsimp only at ok
    obtain ⟨rfl, rfl, hv⟩ := ok
    exact s_bipush hv D hn hs
  | sipush v =>
    have ok := of_decide_eq_true ok
    dsimp only at ok
    obtain ⟨rfl, rfl, hv⟩ := ok
    exact s_sipush hv D hn hs
  | aconst_null =>
    have ok := of_decide_eq_true ok
    dsimp only at ok
    obtain ⟨rfl, rfl⟩ := ok
    exact s_null D hn hs
  | ldc i =>
    have ok := of_decide_eq_true ok
    dsimp only at ok
    obtain ⟨rfl, rfl, hq⟩ := ok
    exact s_ldc hq D hn hs
  | ldc_w i =>
    have ok := of_decide_eq_true ok
    dsimp only at ok
    obtain ⟨rfl, rfl, hq⟩ := ok
    exact s_ldc_w hq D hn hs
  | ldc2_w i =>
    have ok := of_decide_eq_true ok
    dsimp only at ok
    obtain ⟨rfl, rfl, hq⟩ := ok
    exact s_ldc2_w hq D hn hs
  | iadd =>
    have ok := of_decide_eq_true ok
    dsimp only at ok
    obtain ⟨rfl, rfl⟩ := ok
    exact s_iadd D hn hs
  | isub =>
    have ok := of_decide_eq_true ok
    dsimp only at ok
    obtain ⟨rfl, rfl⟩ := ok
    exact s_isub D hn hs
  | imul =>
    have ok := of_decide_eq_true ok
    dsimp only at ok
    obtain ⟨rfl, rfl⟩ := ok
    exact s_imul D hn hs
  | iand =>
    have ok := of_decide_eq_true ok
    dsimp only at ok
    obtain ⟨rfl, rfl⟩ := ok
    exact s_iand D hn hs
  | ior =>
    have ok := of_decide_eq_true ok
    dsimp only at ok
    obtain ⟨rfl, rfl⟩ := ok
    exact s_ior D hn hs
  | ixor =>
    have ok := of_decide_eq_true ok
    dsimp only at ok
    obtain ⟨rfl, rfl⟩ := ok
    exact s_ixor D hn hs
  | ishl =>
    have ok := of_decide_eq_true ok
    dsimp only at ok
    obtain ⟨rfl, rfl⟩ := ok
    exact s_ishl D hn hs
  | ishr =>
    have ok := of_decide_eq_true ok
    dsimp only at ok
    obtain ⟨rfl, rfl⟩ := ok
    exact s_ishr D hn hs
  | iushr =>
    have ok := of_decide_eq_true ok
    dsimp only at ok
    obtain ⟨rfl, rfl⟩ := ok
    exact s_iushr D hn hs
  | idiv =>
    have ok := of_decide_eq_true ok
    dsimp only at ok
    obtain ⟨rfl, rfl⟩ := ok
    exact s_idiv D hn hs
  | irem =>
    have ok := of_decide_eq_true ok
    dsimp only at ok
    obtain ⟨rfl, rfl⟩ := ok
    exact s_irem D hn hs
  | ineg =>
    have ok := of_decide_eq_true ok
    dsimp only at ok
    obtain ⟨rfl, rfl⟩ := ok
    exact s_ineg D hn hs
  | i2l =>
    have ok := of_decide_eq_true ok
    dsimp only at ok
    obtain ⟨rfl, rfl⟩ := ok
    exact s_i2l D hn hs
  | l2i =>
    have ok := of_decide_eq_true ok
    dsimp only at ok
    obtain ⟨rfl, rfl⟩ := ok
    exact s_l2i D hn hs
  | i2b =>
    have ok := of_decide_eq_true ok
    dsimp only at ok
    obtain ⟨rfl, rfl⟩ := ok
    exact s_i2b D hn hs
  | i2s =>
    have ok := of_decide_eq_true ok
    dsimp only at ok
    obtain ⟨rfl, rfl⟩ := ok
    exact s_i2s D hn hs
  | ladd =>
    have ok := of_decide_eq_true ok
    dsimp only at ok
    obtain ⟨rfl, rfl⟩ := ok
    exact s_ladd D hn hs
  | land =>
    have ok := of_decide_eq_true ok
    dsimp only at ok
    obtain ⟨rfl, rfl⟩ := ok
    exact s_land D hn hs
  | lor =>
    have ok := of_decide_eq_true ok
    dsimp only at ok
    obtain ⟨rfl, rfl⟩ := ok
    exact s_lor D hn hs
  | lcmp =>
    have ok := of_decide_eq_true ok
    dsimp only at ok
    obtain ⟨rfl, rfl⟩ := ok
    exact s_lcmp D hn hs
  | lshl =>
    have ok := of_decide_eq_true ok
    dsimp only at ok
    obtain ⟨rfl, rfl⟩ := ok
    exact s_lshl D hn hs
  | lshr =>
    have ok := of_decide_eq_true ok
    dsimp only at ok
    obtain ⟨rfl, rfl⟩ := ok
    exact s_lshr D hn hs
  | lushr =>
    have ok := of_decide_eq_true ok
    dsimp only at ok
    obtain ⟨rfl, rfl⟩ := ok
    exact s_lushr D hn hs
  | dup =>
    have ok := of_decide_eq_true ok
    dsimp only at ok
    obtain ⟨rfl, rfl⟩ := ok
    exact s_dup D hn hs
  | dup2 =>
    have ok := of_decide_eq_true ok
    dsimp only at ok
    obtain ⟨rfl, rfl⟩ := ok
    exact s_dup2 D hn hs
  | pop =>
    have ok := of_decide_eq_true ok
    dsimp only at ok
    obtain ⟨rfl, rfl⟩ := ok
    exact s_pop D hn hs
  | goto i =>
    have ok := of_decide_eq_true ok
    dsimp only at ok
    obtain ⟨rfl, rfl⟩ := ok
    exact s_goto hs D
  | ifCond cc i =>
    have ok := of_decide_eq_true ok
    dsimp only at ok
    obtain ⟨rfl, rfl⟩ := ok
    exact s_ifCond D hn hs
  | if_icmp cc i =>
    have ok := of_decide_eq_true ok
    dsimp only at ok
    obtain ⟨rfl, rfl⟩ := ok
    exact s_if_icmp D hn hs
  | ifnull i =>
    have ok := of_decide_eq_true ok
    dsimp only at ok
    obtain ⟨rfl, rfl⟩ := ok
    exact s_ifnull D hn hs
  | ifnonnull i =>
    have ok := of_decide_eq_true ok
    dsimp only at ok
    obtain ⟨rfl, rfl⟩ := ok
    exact s_ifnonnull D hn hs
  | tableswitch D0 lo hi ts =>
    have ok := of_decide_eq_true ok
    dsimp only at ok
    obtain ⟨rfl, hh⟩ := ok
    have hs : (match (generalizing := false) st with
      | .int x :: r => swc x (fun t => VV X n d K t L r μ) D0.toNat (swt lo ts.toList)
      | _ => False) := hs
    split at hs
    · exact s_tab D hh hs
    · exact hs.elim
  | lookupswitch D0 ps =>
    have ok := of_decide_eq_true ok
    dsimp only at ok
    obtain ⟨rfl, hh⟩ := ok
    have hs : (match (generalizing := false) st with
      | .int x :: r => swc x (fun t => VV X n d K t L r μ) D0.toNat ps.toList
      | _ => False) := hs
    split at hs
    · exact s_look D hh hs
    · exact hs.elim
  | getfield f =>
    have ok := of_decide_eq_true ok
    dsimp only at ok
    obtain ⟨hf, rfl, rfl, hq⟩ := ok
    exact s_getfield hf hq D hn hs
  | putfield f =>
    have ok := of_decide_eq_true ok
    dsimp only at ok
    obtain ⟨hf, rfl, rfl, hq, hp⟩ := ok
    have hs : (match (generalizing := false) st with
      | .int x :: .ref i :: r => pfc i (ix / 65536) f μ x (fun μ => nx L r μ)
      | _ => False) := hs
    split at hs
    · exact s_put hf hq (piQ_ok _ hp) rfl rfl D hn hs
    · exact hs.elim
  | putstatic f =>
    have ok := of_decide_eq_true ok
    dsimp only at ok
    obtain ⟨hf, rfl, rfl, hq, hp⟩ := ok
    have hs : (match (generalizing := false) st with
      | .int x :: .ref i :: r => ckA (x = 0 ∨ x = 1) (pfc i (ix / 65536) f μ x (fun μ => nx L r μ))
      | _ => False) := hs
    split at hs
    · obtain ⟨hx, hs⟩ := ckA.out hs
      exact s_put hf hq (pzQ_ok _ hp) (by rcases hx with rfl | rfl <;> decide) (by rcases hx with rfl | rfl <;> decide) D hn hs
    · exact hs.elim
  | getstatic j =>
    have ok := of_decide_eq_true ok
    dsimp only at ok
    obtain ⟨rfl, rfl, hq⟩ := ok
    exact s_getstatic hq D hn hs
  | iaload =>
    have ok := of_decide_eq_true ok
    dsimp only at ok
    obtain ⟨rfl, rfl⟩ := ok
    have hs : (match (generalizing := false) st with
      | .int x :: .ref i :: r => aldc X .int i x μ (fun v => nx L (.int v :: r) μ)
      | _ => False) := hs
    split at hs
    · exact s_ald (Or.inl ⟨rfl, rfl⟩) D hn hs
    · exact hs.elim
  | baload =>
    have ok := of_decide_eq_true ok
    dsimp only at ok
    obtain ⟨rfl, rfl⟩ := ok
    have hs : (match (generalizing := false) st with
      | .int x :: .ref i :: r => aldc X .boolean i x μ (fun v => nx L (.int v :: r) μ)
      | _ => False) := hs
    split at hs
    · exact s_ald (Or.inr (Or.inl ⟨rfl, rfl⟩)) D hn hs
    · exact hs.elim
  | caload =>
    have ok := of_decide_eq_true ok
    dsimp only at ok
    obtain ⟨rfl, rfl⟩ := ok
    have hs : (match (generalizing := false) st with
      | .int x :: .ref i :: r => aldc X .char i x μ (fun v => nx L (.int v :: r) μ)
      | _ => False) := hs
    split at hs
    · exact s_ald (Or.inr (Or.inr ⟨rfl, rfl⟩)) D hn hs
    · exact hs.elim
  | iastore =>
    have ok := of_decide_eq_true ok
    dsimp only at ok
    obtain ⟨rfl, rfl⟩ := ok
    have hs : (match (generalizing := false) st with
      | .int v :: .int x :: .ref i :: r => astc .int i x v μ (fun μ => nx L r μ)
      | _ => False) := hs
    split at hs
    · exact s_ast (fun h => by cases h) (Or.inl ⟨rfl, rfl⟩) D hn hs
    · exact hs.elim
  | bastore =>
    have ok := of_decide_eq_true ok
    dsimp only at ok
    obtain ⟨rfl, rfl⟩ := ok
    have hs : (match (generalizing := false) st with
      | .int v :: .int x :: .ref i :: r => ckA (v = 0 ∨ v = 1) (astc .boolean i x v μ (fun μ => nx L r μ))
      | _ => False) := hs
    split at hs
    · obtain ⟨hv, hs⟩ := ckA.out hs
      exact s_ast (fun _ => hv) (Or.inr ⟨rfl, rfl⟩) D hn hs
    · exact hs.elim
  | aaload =>
    have ok := of_decide_eq_true ok
    dsimp only at ok
    obtain ⟨rfl, rfl⟩ := ok
    have hs : (match (generalizing := false) st with
      | .int x :: .ref i :: r => aaldc i x (fun v => nx L (v :: r) μ)
      | _ => False) := hs
    split at hs
    · exact s_aaload D hn hs
    · exact hs.elim
  | arraylength =>
    have ok := of_decide_eq_true ok
    dsimp only at ok
    obtain ⟨rfl, rfl⟩ := ok
    have hs : (match (generalizing := false) st with
      | .ref i :: r => alnc X i (fun v => nx L (.int v :: r) μ)
      | _ => False) := hs
    split at hs
    · exact s_alen D hn hs
    · exact hs.elim
  | invokevirtual q =>
    have ok := of_decide_eq_true ok
    dsimp only at ok
    obtain ⟨rfl, rfl, hq⟩ := ok
    have hs : (match (generalizing := false) popN (mN q) [] st with
      | some (as, .ref i :: r) => ckA (rcv i q) (clc X d q (.ref i :: as) r μ (fun s μ => nx L s μ))
      | _ => False) := hs
    split at hs
    · rename_i hp
      exact s_virt hq D hn hp hs
    · exact hs.elim
  | invokestatic q =>
    have ok := of_decide_eq_true ok
    dsimp only at ok
    obtain ⟨rfl, rfl, hq⟩ := ok
    have hs : (match (generalizing := false) popN (mN q) [] st with
      | some (as, r) => clc X d q as r μ (fun s μ => nx L s μ)
      | _ => False) := hs
    split at hs
    · rename_i hp
      exact s_stat hq D hn hp hs
    · exact hs.elim
  | invokespecial q =>
    have ok := of_decide_eq_true ok
    dsimp only at ok
    obtain ⟨rfl, rfl, hq⟩ := ok
    have hs : (match (generalizing := false) popN (mN q) [] st with
      | some (as, r) => clc X d q as r μ (fun s μ => nx L s μ)
      | _ => False) := hs
    split at hs
    · rename_i hp
      exact s_nest hq D hn hp hs
    · exact hs.elim
  | fadd =>
    have ok := of_decide_eq_true ok
    dsimp only at ok
    obtain ⟨rfl, rfl, hq⟩ := ok
    have hs : (match (generalizing := false) st with
      | .int y :: .int x :: r => cond (Nat.ble 1 d && Nat.ble (csum r) 8) (nx L (.int (if x < y then y else x) :: r) μ) False
      | _ => False) := hs
    split at hs
    · exact s_max hq D hn hs
    · exact hs.elim
  | fsub =>
    have ok := of_decide_eq_true ok
    dsimp only at ok
    obtain ⟨rfl, rfl, hq⟩ := ok
    have hs : (match (generalizing := false) st with
      | .int y :: .int x :: r => cond (Nat.ble 1 d && Nat.ble (csum r) 8) (nx L (.int (if y < x then y else x) :: r) μ) False
      | _ => False) := hs
    split at hs
    · exact s_min hq D hn hs
    · exact hs.elim
  | ireturn =>
    have ok := of_decide_eq_true ok
    dsimp only at ok
    obtain ⟨rfl, rfl, hr⟩ := ok
    have hs : (match (generalizing := false) st with
      | [.int x] => K (some (.int x)) μ
      | _ => False) := hs
    split at hs
    · exact s_ret D hs (Or.inl ⟨rfl, _, _, hr, rfl, rfl, rfl⟩)
    · exact hs.elim
  | freturn =>
    have ok := of_decide_eq_true ok
    dsimp only at ok
    obtain ⟨rfl, rfl, hr⟩ := ok
    have hs : (match (generalizing := false) st with
      | [.int x] => ckA (x = 0 ∨ x = 1) (K (some (.int x)) μ)
      | _ => False) := hs
    split at hs
    · obtain ⟨hx, hs⟩ := ckA.out hs
      exact s_ret D hs (Or.inl ⟨rfl, _, _, hr, rfl, rfl, by rcases hx with rfl | rfl <;> decide⟩)
    · exact hs.elim
  | areturn =>
    have ok2 : (decide (raw = .areturn ∧ len = 1) && (match mR n with | some (.object _) => true | _ => false)) = true := ok
    simp only [Bool.and_eq_true] at ok2
    obtain ⟨h1, h2⟩ := ok2
    have h1 := of_decide_eq_true h1
    try dsimp only at h1
    obtain ⟨rfl, rfl⟩ := h1
    split at h2
    · rename_i C hC
      have hs : (match (generalizing := false) st with
      | [.ref x] => K (some (.ref x)) μ
      | [.null] => K (some .null) μ
      | _ => False) := hs
      split at hs
      · exact s_ret D hs (Or.inr (Or.inr ⟨rfl, _, _, hC, rfl, rfl, Or.inr ⟨_, rfl⟩⟩))
      · exact s_ret D hs (Or.inr (Or.inr ⟨rfl, _, _, hC, rfl, rfl, Or.inl rfl⟩))
      · exact hs.elim
    · cases h2
  | return_ =>
    have ok := of_decide_eq_true ok
    dsimp only at ok
    obtain ⟨rfl, rfl, hr⟩ := ok
    have hs : (match (generalizing := false) st with
      | [] => K none μ
      | _ => False) := hs
    split at hs
    · exact s_ret D hs (Or.inr (Or.inl ⟨rfl, hr, rfl, rfl⟩))
    · exact hs.elim
  | _ => exact hs.elim
theorem wpp_sound (hc : chk n = true) (cuts : List Nat) : ∀ (cs : List Ent) (k : Nat) (L : Lc) (st : List Value) (μ : Mem), (cd n).drop k = cs → wpp X d K (VV X n d K) cuts cs k L st μ → VV X n d K k L st μ := by
  intro cs
  induction cs with
  | nil => intro k L st μ _ h; exact h.elim
  | cons e cs ih =>
    intro k L st μ hd h
    have he : (cd n)[k]? = some e := by
      have h1 : ((cd n).drop k)[0]? = some e := by rw [hd]; rfl
      rw [List.getElem?_drop] at h1
      exact h1
    have htl : (cd n).drop (k + 1) = cs := by
      rw [← List.drop_drop, hd]
      rfl
    refine st_sound hc he (fun L st μ hx => ?_) h
    cases cs with
    | nil =>
      have e1 : (cut (k + 1) cuts && !([] : List Ent).isEmpty) = false := by simp
      rw [e1] at hx
      exact hx.elim
    | cons b cs =>
      refine ⟨⟨b, ?_⟩, ?_⟩
      · have h1 : ((cd n).drop (k + 1))[0]? = some b := by rw [htl]; rfl
        rw [List.getElem?_drop] at h1
        exact h1
      · cases hcut : (cut (k + 1) cuts && !(b :: cs).isEmpty) with
        | true => rw [hcut] at hx; exact hx
        | false => rw [hcut] at hx; exact ih (k + 1) L st μ htl hx
/-- VV as something that does not unfold by itself -/
abbrev VW (X : Cx) (n d : Nat) (K : Option Value → Mem → Prop) (k : Nat) (L : Lc) (st : List Value) (μ : Mem) : Prop := Nonempty (PLift (VV X n d K k L st μ))
theorem VW_eq : (VW X n d K) = (VV X n d K) := by
  funext k L st μ
  exact propext ⟨fun h => h.elim fun x => x.down, fun h => ⟨⟨h⟩⟩⟩
/-- the walk, from instruction k on, up to the cuts -/
theorem go (hc : chk n = true) (k : Nat) (cuts : List Nat) (h : wpp X d K (VW X n d K) cuts ((cd n).drop k) k L st μ) : VV X n d K k L st μ := by
  rw [VW_eq] at h
  exact wpp_sound hc cuts _ k L st μ rfl h
theorem gow (hc : chk n = true) (k : Nat) (cuts : List Nat) (h : wpp X d K (VW X n d K) cuts ((cd n).drop k) k L st μ) : VW X n d K k L st μ := ⟨⟨go hc k cuts h⟩⟩
end SND
theorem lg_sl_tv (ad : Nat → Nat) (as : List Value) : (lg_sl (as.map (tv ad))).length = (lg_sl as).length := by
  induction as with
  | nil => rfl
  | cons v r ih => cases v <;> simpa [lg_sl, tv, Value.category] using ih
/-- a method's contract out of its walk -/
theorem Mt_of {X : Cx} {n d : Nat} {as : List Value} {μ : Mem} {K : Option Value → Mem → Prop} (hc : chk n = true) (hf : MethFact n) (hlen : Nat.ble ((lg_sl as).length) (mL n) = true) (h : VW X n d K 0 (padL (mL n) (argL as)) [] μ) : Mt X n d as μ K := by
  obtain ⟨⟨h⟩⟩ := h
  refine Met.ofW (cc := mB n) (maxL := mL n) (ret := mR n) hf.2.2.2.1 rfl ?_
  intro p e s m args below meth c s₁ B hml hv
  obtain ⟨rfl, hP, hE⟩ := hv
  have hts : ∀ w ∈ gt, w.before (as.map (tv (xad X))).toArray s = true := fun w hw => atoms_spec (ws := .code (mY n) (mB n) (mL n) (mR n) :: gt) B.pre w (List.mem_cons_of_mem _ hw)
  have hown : s.vm.findClass (cnm (mO n)) = some m.cls := by rw [hf.2.2.2.2.1]; exact findClass_of_methodNamed B.named
  have hsl := lg_sl_tv (xad X) as
  have hl := lv_entry (as.map (tv (xad X))) (n := mL n) (by rw [hsl]; exact Nat.le_of_ble_eq_true hlen)
  rw [lg_entry_eq]
  rw [← toLv_args, ← toLv_pad (mL n)] at hl
  have F : Fx X n d p (rmD d) s m (as.map (tv (xad X))).toArray meth c 0 0 (wA X) := ⟨B.exec, B.bytes, hml, hown, hts, hE, fun _ h => h, Nat.le_refl _, Nat.le_refl _, Nat.le_refl _, Nat.le_refl _⟩
  have hpc0 : pcA n 0 = 0 := by
    unfold chk at hc
    simp only [Bool.and_eq_true] at hc
    exact Nat.eq_of_beq_eq_true hc.2
  have h2 := h p e (rmD d) s m _ below meth c s.heap [] 0 0 (wA X) (MQ below (Qm X K) (as.map (tv (xad X))).toArray s 0 0 (wA X)) _ F hP va_S.rf hl ?_
  · rw [hpc0] at h2
    exact h2
  · intro r μ' H locs pc i ls stk hk hP' hS hdg hr
    have hq : ∀ t : State, t.heap = H → s.WarmedH t.vm → Qm X K (as.map (tv (xad X))).toArray s (.returned (r.map (tv (xad X)))) t := fun t ht _ => ⟨⟨r, μ', rfl, hk, by rw [ht]; exact hP'⟩, hS.F ht⟩
    rcases hr with ⟨rfl, v, ty, h1, rfl, rfl, h3⟩ | ⟨rfl, h1, rfl, rfl⟩ | ⟨rfl, v, C, h1, rfl, rfl, h3⟩
    · exact W.zret B.exec B.bytes (B.returns.trans h1) h3 hq hS.2.2 hdg
    · exact W.vret B.exec B.bytes (B.returns.trans h1) hq hS.2.2 hdg
    · refine W.aret B.exec B.bytes (B.returns.trans h1) (Or.inl ⟨C, rfl⟩) ?_ hq hS.2.2 hdg
      rcases h3 with rfl | ⟨a, rfl⟩
      · exact Or.inl rfl
      · exact Or.inr ⟨_, rfl⟩
theorem Met.mono {l : Launch} {y : MethodName} {ws : List Jvm.Cond} {rm : Room} {Pc : Array Value → State → Prop} {Qc Qd : Array Value → State → Outcome → State → Prop} {mc ms : Nat} {free : Addr → Prop} (h : Met l y ws rm Pc Qc mc ms free) (hq : ∀ a s o t, Qc a s o t → Qd a s o t) : Met l y ws rm Pc Qd mc ms free := by
  intro p e h1 h2 h3 s m args below h4 h5 h6 h7
  obtain ⟨k, o, g1, g2, g3, g4, g5⟩ := h p e h1 h2 h3 s m args below h4 h5 h6 h7
  exact ⟨k, o, g1, g2, g3, hq _ _ _ _ g4, g5⟩
theorem Mt.mono {X : Cx} {n d : Nat} {as : List Value} {μ : Mem} {K K' : Option Value → Mem → Prop} (h : Mt X n d as μ K) (hk : ∀ r μ', K r μ' → K' r μ') : Mt X n d as μ K' :=
  Met.mono h fun _ _ _ _ ⟨⟨r, μ', h1, h2, h3⟩, h4⟩ => ⟨⟨r, μ', h1, hk _ _ h2, h3⟩, h4⟩

