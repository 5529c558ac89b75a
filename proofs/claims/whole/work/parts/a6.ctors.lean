set_option maxRecDepth 100000 in
set_option maxHeartbeats 4000000 in
theorem k_Row50 (X : Cx) (h0 : Nat) : Ct X yX1_init cX1_init 2 1 1 50 [.ref h0, .int 50] [(h0, .inr (1, [.null, .int 0]))] (fun w => ∃ q1 : Nat, w = [(h0, .inr (1, [.ref q1, .int 0])), (q1, .inl (xA X .int, 50, .inl (fun _ => 0)))]) := by
  refine Ct_of (by decide) rfl rfl ?_
  intro p e s m args below meth c A Q ls hx hb hml hin hown hts hK hA hP hD hl hrv
  have hS : va_S A s.heap s.heap [] := va_S.rf
  have hl : lv_has ls 2 [(0, .ref h0), (1, .int 50)] := hl
  refine lv_aload_n hx hb (show decode cX1_init 0 = .ok (.aload_n 0, 1) by decide +kernel) rfl (lv_at hl 0 rfl) ?_
  refine W.objInit hx hb hown (hts (.methodLink RX1 1 objectInit) (gm1 45 rfl (by decide +kernel))) (hts (.instanceMethod objectInit) (gm1 24 rfl (by decide +kernel))) (hts _ (gm1 25 rfl (by decide +kernel))) rfl (by rw [hml]; exact hl.1) rfl (show decode cX1_init 1 = .ok (.invokespecial 1, 3) by decide +kernel) (Nat.le_of_ble_eq_true rfl) (Nat.le_of_ble_eq_true rfl) ?_
  refine W.eq (g2 := F0 m 4 ls []) rfl ?_
  refine lv_aload_n hx hb (show decode cX1_init 4 = .ok (.aload_n 0, 1) by decide +kernel) rfl (lv_at hl 0 rfl) ?_
  refine lv_iconst (v := 0) hx hb (show decode cX1_init 5 = .ok (.iconst 0, 1) by decide +kernel) (by decide) ?_
  refine lv_iload_n hx hb (show decode cX1_init 6 = .ok (.iload_n 1, 1) by decide +kernel) rfl (lv_at hl 1 rfl) ?_
  refine va_mmax hx hb (hml.trans hl.1.symm) hown (hts _ (gm1 46 rfl (by decide +kernel))) (hts _ (gm1 47 rfl (by decide +kernel))) (hts _ (gm1 5 rfl (by decide +kernel))) (hts _ (gm1 48 rfl (by decide +kernel))) (Nat.le_of_ble_eq_true rfl) (Nat.le_of_ble_eq_true rfl) (Nat.le_of_ble_eq_true rfl) (Nat.le_of_ble_eq_true rfl) (show decode cX1_init 7 = .ok (.invokestatic 7, 3) by decide +kernel) ?_
  refine mk_newa (atype := .int) (ty := .int) (N := 50) hx hb (hts (.arrayClass .int) (gm1 60 rfl (by decide +kernel))) rfl (by simp [tysL]) rfl hK hP hD hS hA (by decide) (by decide) (Nat.le_of_ble_eq_true rfl) (Nat.le_of_ble_eq_true rfl) (Nat.le_of_ble_eq_true rfl) (show decode cX1_init 10 = .ok (.newarray .int, 2) by decide +kernel) (fun q1 H hP hD hS => ?_)
  have hP : va_P (xG X) vwCl [(h0, .inr (1, [.null, .int 0])), (q1, .inl (xA X .int, 50, .inl (fun _ => 0)))] H := hP
  have hD : va_D A [(h0, .inr (1, [.null, .int 0])), (q1, .inl (xA X .int, 50, .inl (fun _ => 0)))] := hD
  refine va_putF (D := xG X) (ci := 1) (v := .ref q1) (ty := .array .int) (C := RX1) (T := TX1) (N := 2) hx hb hts (cls_at (c := 1) rfl).1 tyX1 tyX1_ok nmX1 hown hK.1 hP hD hS 0 rfl rfl 0 (by decide) (hts (.fieldLink RX1 13 "BelievedByYard$Row" "numbers" "[I") (gm1 49 rfl (by decide +kernel))) (fun _ h9 => h9) rfl hin rfl (by decide +kernel) rfl rfl (Nat.le_of_ble_eq_true rfl) (show decode cX1_init 12 = .ok (.putfield 13, 3) by decide +kernel) (fun H locs hP hD hS => ?_)
  have hP : va_P (xG X) vwCl [(h0, .inr (1, [.ref q1, .int 0])), (q1, .inl (xA X .int, 50, .inl (fun _ => 0)))] H := hP
  have hD : va_D A [(h0, .inr (1, [.ref q1, .int 0])), (q1, .inl (xA X .int, 50, .inl (fun _ => 0)))] := hD
  refine W.widen (k := 1) (n := 50) (Nat.le_of_ble_eq_true rfl) (Nat.le_of_ble_eq_true rfl) ?_
  exact hrv _ _ _ _ _ ⟨q1, rfl⟩ hP hD hS (show decode cX1_init 15 = .ok (.return_, 1) by decide +kernel)
set_option maxRecDepth 100000 in
set_option maxHeartbeats 4000000 in
theorem k_Row40 (X : Cx) (h0 : Nat) : Ct X yX1_init cX1_init 2 1 1 40 [.ref h0, .int 40] [(h0, .inr (1, [.null, .int 0]))] (fun w => ∃ q1 : Nat, w = [(h0, .inr (1, [.ref q1, .int 0])), (q1, .inl (xA X .int, 40, .inl (fun _ => 0)))]) := by
  refine Ct_of (by decide) rfl rfl ?_
  intro p e s m args below meth c A Q ls hx hb hml hin hown hts hK hA hP hD hl hrv
  have hS : va_S A s.heap s.heap [] := va_S.rf
  have hl : lv_has ls 2 [(0, .ref h0), (1, .int 40)] := hl
  refine lv_aload_n hx hb (show decode cX1_init 0 = .ok (.aload_n 0, 1) by decide +kernel) rfl (lv_at hl 0 rfl) ?_
  refine W.objInit hx hb hown (hts (.methodLink RX1 1 objectInit) (gm1 45 rfl (by decide +kernel))) (hts (.instanceMethod objectInit) (gm1 24 rfl (by decide +kernel))) (hts _ (gm1 25 rfl (by decide +kernel))) rfl (by rw [hml]; exact hl.1) rfl (show decode cX1_init 1 = .ok (.invokespecial 1, 3) by decide +kernel) (Nat.le_of_ble_eq_true rfl) (Nat.le_of_ble_eq_true rfl) ?_
  refine W.eq (g2 := F0 m 4 ls []) rfl ?_
  refine lv_aload_n hx hb (show decode cX1_init 4 = .ok (.aload_n 0, 1) by decide +kernel) rfl (lv_at hl 0 rfl) ?_
  refine lv_iconst (v := 0) hx hb (show decode cX1_init 5 = .ok (.iconst 0, 1) by decide +kernel) (by decide) ?_
  refine lv_iload_n hx hb (show decode cX1_init 6 = .ok (.iload_n 1, 1) by decide +kernel) rfl (lv_at hl 1 rfl) ?_
  refine va_mmax hx hb (hml.trans hl.1.symm) hown (hts _ (gm1 46 rfl (by decide +kernel))) (hts _ (gm1 47 rfl (by decide +kernel))) (hts _ (gm1 5 rfl (by decide +kernel))) (hts _ (gm1 48 rfl (by decide +kernel))) (Nat.le_of_ble_eq_true rfl) (Nat.le_of_ble_eq_true rfl) (Nat.le_of_ble_eq_true rfl) (Nat.le_of_ble_eq_true rfl) (show decode cX1_init 7 = .ok (.invokestatic 7, 3) by decide +kernel) ?_
  refine mk_newa (atype := .int) (ty := .int) (N := 40) hx hb (hts (.arrayClass .int) (gm1 60 rfl (by decide +kernel))) rfl (by simp [tysL]) rfl hK hP hD hS hA (by decide) (by decide) (Nat.le_of_ble_eq_true rfl) (Nat.le_of_ble_eq_true rfl) (Nat.le_of_ble_eq_true rfl) (show decode cX1_init 10 = .ok (.newarray .int, 2) by decide +kernel) (fun q1 H hP hD hS => ?_)
  have hP : va_P (xG X) vwCl [(h0, .inr (1, [.null, .int 0])), (q1, .inl (xA X .int, 40, .inl (fun _ => 0)))] H := hP
  have hD : va_D A [(h0, .inr (1, [.null, .int 0])), (q1, .inl (xA X .int, 40, .inl (fun _ => 0)))] := hD
  refine va_putF (D := xG X) (ci := 1) (v := .ref q1) (ty := .array .int) (C := RX1) (T := TX1) (N := 2) hx hb hts (cls_at (c := 1) rfl).1 tyX1 tyX1_ok nmX1 hown hK.1 hP hD hS 0 rfl rfl 0 (by decide) (hts (.fieldLink RX1 13 "BelievedByYard$Row" "numbers" "[I") (gm1 49 rfl (by decide +kernel))) (fun _ h9 => h9) rfl hin rfl (by decide +kernel) rfl rfl (Nat.le_of_ble_eq_true rfl) (show decode cX1_init 12 = .ok (.putfield 13, 3) by decide +kernel) (fun H locs hP hD hS => ?_)
  have hP : va_P (xG X) vwCl [(h0, .inr (1, [.ref q1, .int 0])), (q1, .inl (xA X .int, 40, .inl (fun _ => 0)))] H := hP
  have hD : va_D A [(h0, .inr (1, [.ref q1, .int 0])), (q1, .inl (xA X .int, 40, .inl (fun _ => 0)))] := hD
  refine W.widen (k := 1) (n := 40) (Nat.le_of_ble_eq_true rfl) (Nat.le_of_ble_eq_true rfl) ?_
  exact hrv _ _ _ _ _ ⟨q1, rfl⟩ hP hD hS (show decode cX1_init 15 = .ok (.return_, 1) by decide +kernel)
set_option maxRecDepth 100000 in
set_option maxHeartbeats 4000000 in
theorem k_Row20 (X : Cx) (h0 : Nat) : Ct X yX1_init cX1_init 2 1 1 20 [.ref h0, .int 20] [(h0, .inr (1, [.null, .int 0]))] (fun w => ∃ q1 : Nat, w = [(h0, .inr (1, [.ref q1, .int 0])), (q1, .inl (xA X .int, 20, .inl (fun _ => 0)))]) := by
  refine Ct_of (by decide) rfl rfl ?_
  intro p e s m args below meth c A Q ls hx hb hml hin hown hts hK hA hP hD hl hrv
  have hS : va_S A s.heap s.heap [] := va_S.rf
  have hl : lv_has ls 2 [(0, .ref h0), (1, .int 20)] := hl
  refine lv_aload_n hx hb (show decode cX1_init 0 = .ok (.aload_n 0, 1) by decide +kernel) rfl (lv_at hl 0 rfl) ?_
  refine W.objInit hx hb hown (hts (.methodLink RX1 1 objectInit) (gm1 45 rfl (by decide +kernel))) (hts (.instanceMethod objectInit) (gm1 24 rfl (by decide +kernel))) (hts _ (gm1 25 rfl (by decide +kernel))) rfl (by rw [hml]; exact hl.1) rfl (show decode cX1_init 1 = .ok (.invokespecial 1, 3) by decide +kernel) (Nat.le_of_ble_eq_true rfl) (Nat.le_of_ble_eq_true rfl) ?_
  refine W.eq (g2 := F0 m 4 ls []) rfl ?_
  refine lv_aload_n hx hb (show decode cX1_init 4 = .ok (.aload_n 0, 1) by decide +kernel) rfl (lv_at hl 0 rfl) ?_
  refine lv_iconst (v := 0) hx hb (show decode cX1_init 5 = .ok (.iconst 0, 1) by decide +kernel) (by decide) ?_
  refine lv_iload_n hx hb (show decode cX1_init 6 = .ok (.iload_n 1, 1) by decide +kernel) rfl (lv_at hl 1 rfl) ?_
  refine va_mmax hx hb (hml.trans hl.1.symm) hown (hts _ (gm1 46 rfl (by decide +kernel))) (hts _ (gm1 47 rfl (by decide +kernel))) (hts _ (gm1 5 rfl (by decide +kernel))) (hts _ (gm1 48 rfl (by decide +kernel))) (Nat.le_of_ble_eq_true rfl) (Nat.le_of_ble_eq_true rfl) (Nat.le_of_ble_eq_true rfl) (Nat.le_of_ble_eq_true rfl) (show decode cX1_init 7 = .ok (.invokestatic 7, 3) by decide +kernel) ?_
  refine mk_newa (atype := .int) (ty := .int) (N := 20) hx hb (hts (.arrayClass .int) (gm1 60 rfl (by decide +kernel))) rfl (by simp [tysL]) rfl hK hP hD hS hA (by decide) (by decide) (Nat.le_of_ble_eq_true rfl) (Nat.le_of_ble_eq_true rfl) (Nat.le_of_ble_eq_true rfl) (show decode cX1_init 10 = .ok (.newarray .int, 2) by decide +kernel) (fun q1 H hP hD hS => ?_)
  have hP : va_P (xG X) vwCl [(h0, .inr (1, [.null, .int 0])), (q1, .inl (xA X .int, 20, .inl (fun _ => 0)))] H := hP
  have hD : va_D A [(h0, .inr (1, [.null, .int 0])), (q1, .inl (xA X .int, 20, .inl (fun _ => 0)))] := hD
  refine va_putF (D := xG X) (ci := 1) (v := .ref q1) (ty := .array .int) (C := RX1) (T := TX1) (N := 2) hx hb hts (cls_at (c := 1) rfl).1 tyX1 tyX1_ok nmX1 hown hK.1 hP hD hS 0 rfl rfl 0 (by decide) (hts (.fieldLink RX1 13 "BelievedByYard$Row" "numbers" "[I") (gm1 49 rfl (by decide +kernel))) (fun _ h9 => h9) rfl hin rfl (by decide +kernel) rfl rfl (Nat.le_of_ble_eq_true rfl) (show decode cX1_init 12 = .ok (.putfield 13, 3) by decide +kernel) (fun H locs hP hD hS => ?_)
  have hP : va_P (xG X) vwCl [(h0, .inr (1, [.ref q1, .int 0])), (q1, .inl (xA X .int, 20, .inl (fun _ => 0)))] H := hP
  have hD : va_D A [(h0, .inr (1, [.ref q1, .int 0])), (q1, .inl (xA X .int, 20, .inl (fun _ => 0)))] := hD
  refine W.widen (k := 1) (n := 20) (Nat.le_of_ble_eq_true rfl) (Nat.le_of_ble_eq_true rfl) ?_
  exact hrv _ _ _ _ _ ⟨q1, rfl⟩ hP hD hS (show decode cX1_init 15 = .ok (.return_, 1) by decide +kernel)
set_option maxRecDepth 100000 in
set_option maxHeartbeats 4000000 in
theorem k_Tale (X : Cx) (h0 : Nat) : Ct X yX3_init cX3_init 1 1 0 0 [.ref h0] [(h0, .inr (3, [.int 0, .int 0, .int 0, .int 0, .int 0, .int 0]))] (fun w => w = [(h0, .inr (3, [.int 0, .int 0, .int 0, .int 0, .int 0, .int 0]))]) := by
  refine Ct_of (by decide) rfl rfl ?_
  intro p e s m args below meth c A Q ls hx hb hml hin hown hts hK hA hP hD hl hrv
  have hS : va_S A s.heap s.heap [] := va_S.rf
  have hl : lv_has ls 1 [(0, .ref h0)] := hl
  refine lv_aload_n hx hb (show decode cX3_init 0 = .ok (.aload_n 0, 1) by decide +kernel) rfl (lv_at hl 0 rfl) ?_
  refine W.objInit hx hb hown (hts (.methodLink RX3 3 objectInit) (gm1 75 rfl (by decide +kernel))) (hts (.instanceMethod objectInit) (gm1 24 rfl (by decide +kernel))) (hts _ (gm1 25 rfl (by decide +kernel))) rfl (by rw [hml]; exact hl.1) rfl (show decode cX3_init 1 = .ok (.invokespecial 3, 3) by decide +kernel) (Nat.le_of_ble_eq_true rfl) (Nat.le_of_ble_eq_true rfl) ?_
  refine W.eq (g2 := F0 m 4 ls []) rfl ?_
  refine W.widen (k := 0) (n := 0) (Nat.le_of_ble_eq_true rfl) (Nat.le_of_ble_eq_true rfl) ?_
  exact hrv _ _ _ _ _ rfl hP hD hS (show decode cX3_init 4 = .ok (.return_, 1) by decide +kernel)
set_option maxRecDepth 100000 in
set_option maxHeartbeats 4000000 in
theorem k_Sheet (X : Cx) (h0 : Nat) : Ct X yX2_init cX2_init 1 1 1 40 [.ref h0] [(h0, .inr (2, [.null, .int 0, .int 0]))] (fun w => ∃ q1 : Nat, w = [(h0, .inr (2, [.ref q1, .int 0, .int 0])), (q1, .inl (xA X .int, 40, .inl (fun _ => 0)))]) := by
  refine Ct_of (by decide) rfl rfl ?_
  intro p e s m args below meth c A Q ls hx hb hml hin hown hts hK hA hP hD hl hrv
  have hS : va_S A s.heap s.heap [] := va_S.rf
  have hl : lv_has ls 1 [(0, .ref h0)] := hl
  refine lv_aload_n hx hb (show decode cX2_init 0 = .ok (.aload_n 0, 1) by decide +kernel) rfl (lv_at hl 0 rfl) ?_
  refine W.objInit hx hb hown (hts (.methodLink RX2 3 objectInit) (gm1 239 rfl (by decide +kernel))) (hts (.instanceMethod objectInit) (gm1 24 rfl (by decide +kernel))) (hts _ (gm1 25 rfl (by decide +kernel))) rfl (by rw [hml]; exact hl.1) rfl (show decode cX2_init 1 = .ok (.invokespecial 3, 3) by decide +kernel) (Nat.le_of_ble_eq_true rfl) (Nat.le_of_ble_eq_true rfl) ?_
  refine W.eq (g2 := F0 m 4 ls []) rfl ?_
  refine lv_aload_n hx hb (show decode cX2_init 4 = .ok (.aload_n 0, 1) by decide +kernel) rfl (lv_at hl 0 rfl) ?_
  refine lv_bipush (v := 40) hx hb (show decode cX2_init 5 = .ok (.bipush 40, 2) by decide +kernel) (by decide) ?_
  refine mk_newa (atype := .int) (ty := .int) (N := 40) hx hb (hts (.arrayClass .int) (gm1 60 rfl (by decide +kernel))) rfl (by simp [tysL]) rfl hK hP hD hS hA (by decide) (by decide) (Nat.le_of_ble_eq_true rfl) (Nat.le_of_ble_eq_true rfl) (Nat.le_of_ble_eq_true rfl) (show decode cX2_init 7 = .ok (.newarray .int, 2) by decide +kernel) (fun q1 H hP hD hS => ?_)
  have hP : va_P (xG X) vwCl [(h0, .inr (2, [.null, .int 0, .int 0])), (q1, .inl (xA X .int, 40, .inl (fun _ => 0)))] H := hP
  have hD : va_D A [(h0, .inr (2, [.null, .int 0, .int 0])), (q1, .inl (xA X .int, 40, .inl (fun _ => 0)))] := hD
  refine va_putF (D := xG X) (ci := 2) (v := .ref q1) (ty := .array .int) (C := RX2) (T := TX2) (N := 3) hx hb hts (cls_at (c := 2) rfl).1 tyX2 tyX2_ok nmX2 hown hK.1 hP hD hS 0 rfl rfl 0 (by decide) (hts (.fieldLink RX2 9 "BelievedByYard$Sheet" "numbers" "[I") (gm2 0 rfl (by decide +kernel))) (fun _ h9 => h9) rfl hin rfl (by decide +kernel) rfl rfl (Nat.le_of_ble_eq_true rfl) (show decode cX2_init 9 = .ok (.putfield 9, 3) by decide +kernel) (fun H locs hP hD hS => ?_)
  have hP : va_P (xG X) vwCl [(h0, .inr (2, [.ref q1, .int 0, .int 0])), (q1, .inl (xA X .int, 40, .inl (fun _ => 0)))] H := hP
  have hD : va_D A [(h0, .inr (2, [.ref q1, .int 0, .int 0])), (q1, .inl (xA X .int, 40, .inl (fun _ => 0)))] := hD
  refine W.widen (k := 1) (n := 40) (Nat.le_of_ble_eq_true rfl) (Nat.le_of_ble_eq_true rfl) ?_
  exact hrv _ _ _ _ _ ⟨q1, rfl⟩ hP hD hS (show decode cX2_init 12 = .ok (.return_, 1) by decide +kernel)
set_option maxRecDepth 100000 in
set_option maxHeartbeats 4000000 in
theorem k_Text (X : Cx) (h0 : Nat) : Ct X yX4_init cX4_init 1 2 3 102 [.ref h0] [(h0, .inr (4, [.null, .null]))] (fun w => ∃ q1 q2 q3 : Nat, w = [(h0, .inr (4, [.ref q1, .ref q3])), (q1, .inr (1, [.ref q2, .int 0])), (q2, .inl (xA X .int, 50, .inl (fun _ => 0))), (q3, .inl (xA X .int, 50, .inl (fun _ => 0)))]) := by
  refine Ct_of (by decide) rfl rfl ?_
  intro p e s m args below meth c A Q ls hx hb hml hin hown hts hK hA hP hD hl hrv
  have hS : va_S A s.heap s.heap [] := va_S.rf
  have hl : lv_has ls 1 [(0, .ref h0)] := hl
  refine lv_aload_n hx hb (show decode cX4_init 0 = .ok (.aload_n 0, 1) by decide +kernel) rfl (lv_at hl 0 rfl) ?_
  refine W.objInit hx hb hown (hts (.methodLink RX4 3 objectInit) (gm1 39 rfl (by decide +kernel))) (hts (.instanceMethod objectInit) (gm1 24 rfl (by decide +kernel))) (hts _ (gm1 25 rfl (by decide +kernel))) rfl (by rw [hml]; exact hl.1) rfl (show decode cX4_init 1 = .ok (.invokespecial 3, 3) by decide +kernel) (Nat.le_of_ble_eq_true rfl) (Nat.le_of_ble_eq_true rfl) ?_
  refine W.eq (g2 := F0 m 4 ls []) rfl ?_
  refine lv_aload_n hx hb (show decode cX4_init 4 = .ok (.aload_n 0, 1) by decide +kernel) rfl (lv_at hl 0 rfl) ?_
  refine va_new (ci := 1) (fs := [.null, .int 0]) (C := RX1) (T := TX1) (N := 2) hx hb hts (cls_at (c := 1) rfl).1 tyX1 tyX1_ok hown (hts (.classLink RX4 9 RX1) (gm1 40 rfl (by decide +kernel))) (hts (.instantiable RX1 2) (gm1 41 rfl (by decide +kernel))) (hts (.initialized RX1) (gm1 4 rfl (by decide +kernel))) hK.1 hP hD hS hA rfl (fun j hj => by rcases (show j = 0 ∨ j = 1 by omega) with rfl | rfl <;> rfl) (Nat.le_of_ble_eq_true rfl) (Nat.le_of_ble_eq_true rfl) (show decode cX4_init 5 = .ok (.new 9, 3) by decide +kernel) (fun q1 H hP hD hS => ?_)
  have hP : va_P (xG X) vwCl [(h0, .inr (4, [.null, .null])), (q1, .inr (1, [.null, .int 0]))] H := hP
  have hD : va_D A [(h0, .inr (4, [.null, .null])), (q1, .inr (1, [.null, .int 0]))] := hD
  refine lv_dup hx hb (show decode cX4_init 8 = .ok (.dup, 1) by decide +kernel) rfl ?_
  refine lv_bipush (v := 50) hx hb (show decode cX4_init 9 = .ok (.bipush 50, 2) by decide +kernel) (by decide) ?_
  refine Ct_call (As := [.int 50]) (rest := [.ref q1, .ref h0]) (w0 := [(q1, .inr (1, [.null, .int 0]))]) (wr := [(h0, .inr (4, [.null, .null]))]) (own := RX4) (k_Row50 X q1) (Or.inl (gm1 42 rfl (by decide +kernel))) (gm1 43 rfl (by decide +kernel)) (gm1 4 rfl (by decide +kernel)) (gm1 44 rfl (by decide +kernel)) rfl ⟨by decide, by decide, (show _ = some 1 by decide)⟩ hx hb hml hown hts hK hA hP hD hS [1] [0] rfl rfl rfl rfl (by decide) ⟨(Nat.le_of_ble_eq_true rfl), (Nat.le_of_ble_eq_true rfl)⟩ ⟨(Nat.le_of_ble_eq_true rfl), (Nat.le_of_ble_eq_true rfl)⟩ hl.1 (lv_room (Nat.le_of_ble_eq_true rfl)) (show decode cX4_init 11 = .ok (.invokespecial 11, 3) by decide +kernel) (fun w1 H locs hw hP hD hS => ?_)
  obtain ⟨q2, rfl⟩ := hw
  have hP : va_P (xG X) vwCl [(h0, .inr (4, [.null, .null])), (q1, .inr (1, [.ref q2, .int 0])), (q2, .inl (xA X .int, 50, .inl (fun _ => 0)))] H := hP
  have hD : va_D A [(h0, .inr (4, [.null, .null])), (q1, .inr (1, [.ref q2, .int 0])), (q2, .inl (xA X .int, 50, .inl (fun _ => 0)))] := hD
  refine va_putF (D := xG X) (ci := 4) (v := .ref q1) (ty := .object "BelievedByYard$Row") (C := RX4) (T := TX4) (N := 2) hx hb hts (cls_at (c := 4) rfl).1 tyX4 tyX4_ok nmX4 hown hK.1 hP hD hS 0 rfl rfl 0 (by decide) (hts (.fieldLink RX4 14 "BelievedByYard$Text" "code" "LBelievedByYard$Row;") (gm1 61 rfl (by decide +kernel))) (fun _ h9 => h9) rfl hin rfl (by decide +kernel) rfl rfl (Nat.le_of_ble_eq_true rfl) (show decode cX4_init 14 = .ok (.putfield 14, 3) by decide +kernel) (fun H locs hP hD hS => ?_)
  have hP : va_P (xG X) vwCl [(h0, .inr (4, [.ref q1, .null])), (q1, .inr (1, [.ref q2, .int 0])), (q2, .inl (xA X .int, 50, .inl (fun _ => 0)))] H := hP
  have hD : va_D A [(h0, .inr (4, [.ref q1, .null])), (q1, .inr (1, [.ref q2, .int 0])), (q2, .inl (xA X .int, 50, .inl (fun _ => 0)))] := hD
  refine lv_aload_n hx hb (show decode cX4_init 17 = .ok (.aload_n 0, 1) by decide +kernel) rfl (lv_at hl 0 rfl) ?_
  refine lv_bipush (v := 50) hx hb (show decode cX4_init 18 = .ok (.bipush 50, 2) by decide +kernel) (by decide) ?_
  refine mk_newa (atype := .int) (ty := .int) (N := 50) hx hb (hts (.arrayClass .int) (gm1 60 rfl (by decide +kernel))) rfl (by simp [tysL]) rfl hK hP hD hS hA (by decide) (by decide) (Nat.le_of_ble_eq_true rfl) (Nat.le_of_ble_eq_true rfl) (Nat.le_of_ble_eq_true rfl) (show decode cX4_init 20 = .ok (.newarray .int, 2) by decide +kernel) (fun q3 H hP hD hS => ?_)
  have hP : va_P (xG X) vwCl [(h0, .inr (4, [.ref q1, .null])), (q1, .inr (1, [.ref q2, .int 0])), (q2, .inl (xA X .int, 50, .inl (fun _ => 0))), (q3, .inl (xA X .int, 50, .inl (fun _ => 0)))] H := hP
  have hD : va_D A [(h0, .inr (4, [.ref q1, .null])), (q1, .inr (1, [.ref q2, .int 0])), (q2, .inl (xA X .int, 50, .inl (fun _ => 0))), (q3, .inl (xA X .int, 50, .inl (fun _ => 0)))] := hD
  refine va_putF (D := xG X) (ci := 4) (v := .ref q3) (ty := .array .int) (C := RX4) (T := TX4) (N := 2) hx hb hts (cls_at (c := 4) rfl).1 tyX4 tyX4_ok nmX4 hown hK.1 hP hD hS 0 rfl rfl 1 (by decide) (hts (.fieldLink RX4 20 "BelievedByYard$Text" "stack" "[I") (gm1 63 rfl (by decide +kernel))) (fun _ h9 => h9) rfl hin rfl (by decide +kernel) rfl rfl (Nat.le_of_ble_eq_true rfl) (show decode cX4_init 22 = .ok (.putfield 20, 3) by decide +kernel) (fun H locs hP hD hS => ?_)
  have hP : va_P (xG X) vwCl [(h0, .inr (4, [.ref q1, .ref q3])), (q1, .inr (1, [.ref q2, .int 0])), (q2, .inl (xA X .int, 50, .inl (fun _ => 0))), (q3, .inl (xA X .int, 50, .inl (fun _ => 0)))] H := hP
  have hD : va_D A [(h0, .inr (4, [.ref q1, .ref q3])), (q1, .inr (1, [.ref q2, .int 0])), (q2, .inl (xA X .int, 50, .inl (fun _ => 0))), (q3, .inl (xA X .int, 50, .inl (fun _ => 0)))] := hD
  refine W.widen (k := 3) (n := 102) (Nat.le_of_ble_eq_true rfl) (Nat.le_of_ble_eq_true rfl) ?_
  exact hrv _ _ _ _ _ ⟨q1, q2, q3, rfl⟩ hP hD hS (show decode cX4_init 25 = .ok (.return_, 1) by decide +kernel)
set_option maxRecDepth 100000 in
set_option maxHeartbeats 4000000 in
theorem k_Reader (X : Cx) (h0 : Nat) : Ct X yX0_init cX0_init 1 2 4 104 [.ref h0] [(h0, .inr (0, [.null, .null, .int 0, .int 0]))] (fun w => ∃ q1 q2 q3 q4 : Nat, w = [(h0, .inr (0, [.ref q1, .ref q3, .int 0, .int 0])), (q1, .inr (1, [.ref q2, .int 0])), (q2, .inl (xA X .int, 50, .inl (fun _ => 0))), (q3, .inr (1, [.ref q4, .int 0])), (q4, .inl (xA X .int, 50, .inl (fun _ => 0)))]) := by
  refine Ct_of (by decide) rfl rfl ?_
  intro p e s m args below meth c A Q ls hx hb hml hin hown hts hK hA hP hD hl hrv
  have hS : va_S A s.heap s.heap [] := va_S.rf
  have hl : lv_has ls 1 [(0, .ref h0)] := hl
  refine lv_aload_n hx hb (show decode cX0_init 0 = .ok (.aload_n 0, 1) by decide +kernel) rfl (lv_at hl 0 rfl) ?_
  refine W.objInit hx hb hown (hts (.methodLink RX0 3 objectInit) (gm1 193 rfl (by decide +kernel))) (hts (.instanceMethod objectInit) (gm1 24 rfl (by decide +kernel))) (hts _ (gm1 25 rfl (by decide +kernel))) rfl (by rw [hml]; exact hl.1) rfl (show decode cX0_init 1 = .ok (.invokespecial 3, 3) by decide +kernel) (Nat.le_of_ble_eq_true rfl) (Nat.le_of_ble_eq_true rfl) ?_
  refine W.eq (g2 := F0 m 4 ls []) rfl ?_
  refine lv_aload_n hx hb (show decode cX0_init 4 = .ok (.aload_n 0, 1) by decide +kernel) rfl (lv_at hl 0 rfl) ?_
  refine va_new (ci := 1) (fs := [.null, .int 0]) (C := RX1) (T := TX1) (N := 2) hx hb hts (cls_at (c := 1) rfl).1 tyX1 tyX1_ok hown (hts (.classLink RX0 9 RX1) (gm1 194 rfl (by decide +kernel))) (hts (.instantiable RX1 2) (gm1 41 rfl (by decide +kernel))) (hts (.initialized RX1) (gm1 4 rfl (by decide +kernel))) hK.1 hP hD hS hA rfl (fun j hj => by rcases (show j = 0 ∨ j = 1 by omega) with rfl | rfl <;> rfl) (Nat.le_of_ble_eq_true rfl) (Nat.le_of_ble_eq_true rfl) (show decode cX0_init 5 = .ok (.new 9, 3) by decide +kernel) (fun q1 H hP hD hS => ?_)
  have hP : va_P (xG X) vwCl [(h0, .inr (0, [.null, .null, .int 0, .int 0])), (q1, .inr (1, [.null, .int 0]))] H := hP
  have hD : va_D A [(h0, .inr (0, [.null, .null, .int 0, .int 0])), (q1, .inr (1, [.null, .int 0]))] := hD
  refine lv_dup hx hb (show decode cX0_init 8 = .ok (.dup, 1) by decide +kernel) rfl ?_
  refine lv_bipush (v := 50) hx hb (show decode cX0_init 9 = .ok (.bipush 50, 2) by decide +kernel) (by decide) ?_
  refine Ct_call (As := [.int 50]) (rest := [.ref q1, .ref h0]) (w0 := [(q1, .inr (1, [.null, .int 0]))]) (wr := [(h0, .inr (0, [.null, .null, .int 0, .int 0]))]) (own := RX0) (k_Row50 X q1) (Or.inl (gm1 195 rfl (by decide +kernel))) (gm1 43 rfl (by decide +kernel)) (gm1 4 rfl (by decide +kernel)) (gm1 44 rfl (by decide +kernel)) rfl ⟨by decide, by decide, (show _ = some 1 by decide)⟩ hx hb hml hown hts hK hA hP hD hS [1] [0] rfl rfl rfl rfl (by decide) ⟨(Nat.le_of_ble_eq_true rfl), (Nat.le_of_ble_eq_true rfl)⟩ ⟨(Nat.le_of_ble_eq_true rfl), (Nat.le_of_ble_eq_true rfl)⟩ hl.1 (lv_room (Nat.le_of_ble_eq_true rfl)) (show decode cX0_init 11 = .ok (.invokespecial 11, 3) by decide +kernel) (fun w1 H locs hw hP hD hS => ?_)
  obtain ⟨q2, rfl⟩ := hw
  have hP : va_P (xG X) vwCl [(h0, .inr (0, [.null, .null, .int 0, .int 0])), (q1, .inr (1, [.ref q2, .int 0])), (q2, .inl (xA X .int, 50, .inl (fun _ => 0)))] H := hP
  have hD : va_D A [(h0, .inr (0, [.null, .null, .int 0, .int 0])), (q1, .inr (1, [.ref q2, .int 0])), (q2, .inl (xA X .int, 50, .inl (fun _ => 0)))] := hD
  refine va_putF (D := xG X) (ci := 0) (v := .ref q1) (ty := .object "BelievedByYard$Row") (C := RX0) (T := TX0) (N := 4) hx hb hts (cls_at (c := 0) rfl).1 tyX0 tyX0_ok nmX0 hown hK.1 hP hD hS 0 rfl rfl 0 (by decide) (hts (.fieldLink RX0 14 "BelievedByYard$Reader" "code" "LBelievedByYard$Row;") (gm1 196 rfl (by decide +kernel))) (fun _ h9 => h9) rfl hin rfl (by decide +kernel) rfl rfl (Nat.le_of_ble_eq_true rfl) (show decode cX0_init 14 = .ok (.putfield 14, 3) by decide +kernel) (fun H locs hP hD hS => ?_)
  have hP : va_P (xG X) vwCl [(h0, .inr (0, [.ref q1, .null, .int 0, .int 0])), (q1, .inr (1, [.ref q2, .int 0])), (q2, .inl (xA X .int, 50, .inl (fun _ => 0)))] H := hP
  have hD : va_D A [(h0, .inr (0, [.ref q1, .null, .int 0, .int 0])), (q1, .inr (1, [.ref q2, .int 0])), (q2, .inl (xA X .int, 50, .inl (fun _ => 0)))] := hD
  refine lv_aload_n hx hb (show decode cX0_init 17 = .ok (.aload_n 0, 1) by decide +kernel) rfl (lv_at hl 0 rfl) ?_
  refine va_new (ci := 1) (fs := [.null, .int 0]) (C := RX1) (T := TX1) (N := 2) hx hb hts (cls_at (c := 1) rfl).1 tyX1 tyX1_ok hown (hts (.classLink RX0 9 RX1) (gm1 194 rfl (by decide +kernel))) (hts (.instantiable RX1 2) (gm1 41 rfl (by decide +kernel))) (hts (.initialized RX1) (gm1 4 rfl (by decide +kernel))) hK.1 hP hD hS hA rfl (fun j hj => by rcases (show j = 0 ∨ j = 1 by omega) with rfl | rfl <;> rfl) (Nat.le_of_ble_eq_true rfl) (Nat.le_of_ble_eq_true rfl) (show decode cX0_init 18 = .ok (.new 9, 3) by decide +kernel) (fun q3 H hP hD hS => ?_)
  have hP : va_P (xG X) vwCl [(h0, .inr (0, [.ref q1, .null, .int 0, .int 0])), (q1, .inr (1, [.ref q2, .int 0])), (q2, .inl (xA X .int, 50, .inl (fun _ => 0))), (q3, .inr (1, [.null, .int 0]))] H := hP
  have hD : va_D A [(h0, .inr (0, [.ref q1, .null, .int 0, .int 0])), (q1, .inr (1, [.ref q2, .int 0])), (q2, .inl (xA X .int, 50, .inl (fun _ => 0))), (q3, .inr (1, [.null, .int 0]))] := hD
  refine lv_dup hx hb (show decode cX0_init 21 = .ok (.dup, 1) by decide +kernel) rfl ?_
  refine lv_bipush (v := 50) hx hb (show decode cX0_init 22 = .ok (.bipush 50, 2) by decide +kernel) (by decide) ?_
  refine Ct_call (As := [.int 50]) (rest := [.ref q3, .ref h0]) (w0 := [(q3, .inr (1, [.null, .int 0]))]) (wr := [(h0, .inr (0, [.ref q1, .null, .int 0, .int 0])), (q1, .inr (1, [.ref q2, .int 0])), (q2, .inl (xA X .int, 50, .inl (fun _ => 0)))]) (own := RX0) (k_Row50 X q3) (Or.inl (gm1 195 rfl (by decide +kernel))) (gm1 43 rfl (by decide +kernel)) (gm1 4 rfl (by decide +kernel)) (gm1 44 rfl (by decide +kernel)) rfl ⟨by decide, by decide, (show _ = some 1 by decide)⟩ hx hb hml hown hts hK hA hP hD hS [3] [0, 1, 2] rfl rfl rfl rfl (by decide) ⟨(Nat.le_of_ble_eq_true rfl), (Nat.le_of_ble_eq_true rfl)⟩ ⟨(Nat.le_of_ble_eq_true rfl), (Nat.le_of_ble_eq_true rfl)⟩ hl.1 (lv_room (Nat.le_of_ble_eq_true rfl)) (show decode cX0_init 24 = .ok (.invokespecial 11, 3) by decide +kernel) (fun w1 H locs hw hP hD hS => ?_)
  obtain ⟨q4, rfl⟩ := hw
  have hP : va_P (xG X) vwCl [(h0, .inr (0, [.ref q1, .null, .int 0, .int 0])), (q1, .inr (1, [.ref q2, .int 0])), (q2, .inl (xA X .int, 50, .inl (fun _ => 0))), (q3, .inr (1, [.ref q4, .int 0])), (q4, .inl (xA X .int, 50, .inl (fun _ => 0)))] H := hP
  have hD : va_D A [(h0, .inr (0, [.ref q1, .null, .int 0, .int 0])), (q1, .inr (1, [.ref q2, .int 0])), (q2, .inl (xA X .int, 50, .inl (fun _ => 0))), (q3, .inr (1, [.ref q4, .int 0])), (q4, .inl (xA X .int, 50, .inl (fun _ => 0)))] := hD
  refine va_putF (D := xG X) (ci := 0) (v := .ref q3) (ty := .object "BelievedByYard$Row") (C := RX0) (T := TX0) (N := 4) hx hb hts (cls_at (c := 0) rfl).1 tyX0 tyX0_ok nmX0 hown hK.1 hP hD hS 0 rfl rfl 1 (by decide) (hts (.fieldLink RX0 20 "BelievedByYard$Reader" "bytes" "LBelievedByYard$Row;") (gm1 198 rfl (by decide +kernel))) (fun _ h9 => h9) rfl hin rfl (by decide +kernel) rfl rfl (Nat.le_of_ble_eq_true rfl) (show decode cX0_init 27 = .ok (.putfield 20, 3) by decide +kernel) (fun H locs hP hD hS => ?_)
  have hP : va_P (xG X) vwCl [(h0, .inr (0, [.ref q1, .ref q3, .int 0, .int 0])), (q1, .inr (1, [.ref q2, .int 0])), (q2, .inl (xA X .int, 50, .inl (fun _ => 0))), (q3, .inr (1, [.ref q4, .int 0])), (q4, .inl (xA X .int, 50, .inl (fun _ => 0)))] H := hP
  have hD : va_D A [(h0, .inr (0, [.ref q1, .ref q3, .int 0, .int 0])), (q1, .inr (1, [.ref q2, .int 0])), (q2, .inl (xA X .int, 50, .inl (fun _ => 0))), (q3, .inr (1, [.ref q4, .int 0])), (q4, .inl (xA X .int, 50, .inl (fun _ => 0)))] := hD
  refine W.widen (k := 4) (n := 104) (Nat.le_of_ble_eq_true rfl) (Nat.le_of_ble_eq_true rfl) ?_
  exact hrv _ _ _ _ _ ⟨q1, q2, q3, q4, rfl⟩ hP hD hS (show decode cX0_init 30 = .ok (.return_, 1) by decide +kernel)
set_option maxRecDepth 100000 in
set_option maxHeartbeats 4000000 in
theorem k_Voices (X : Cx) (h0 : Nat) : Ct X yX6_init cX6_init 1 2 2 42 [.ref h0] [(h0, .inr (6, [.null, .int 0, .int 0, .int 0]))] (fun w => ∃ q1 q2 : Nat, w = [(h0, .inr (6, [.ref q1, .int 0, .int 0, .int 0])), (q1, .inr (1, [.ref q2, .int 0])), (q2, .inl (xA X .int, 40, .inl (fun _ => 0)))]) := by
  refine Ct_of (by decide) rfl rfl ?_
  intro p e s m args below meth c A Q ls hx hb hml hin hown hts hK hA hP hD hl hrv
  have hS : va_S A s.heap s.heap [] := va_S.rf
  have hl : lv_has ls 1 [(0, .ref h0)] := hl
  refine lv_aload_n hx hb (show decode cX6_init 0 = .ok (.aload_n 0, 1) by decide +kernel) rfl (lv_at hl 0 rfl) ?_
  refine W.objInit hx hb hown (hts (.methodLink RX6 3 objectInit) (gm1 216 rfl (by decide +kernel))) (hts (.instanceMethod objectInit) (gm1 24 rfl (by decide +kernel))) (hts _ (gm1 25 rfl (by decide +kernel))) rfl (by rw [hml]; exact hl.1) rfl (show decode cX6_init 1 = .ok (.invokespecial 3, 3) by decide +kernel) (Nat.le_of_ble_eq_true rfl) (Nat.le_of_ble_eq_true rfl) ?_
  refine W.eq (g2 := F0 m 4 ls []) rfl ?_
  refine lv_aload_n hx hb (show decode cX6_init 4 = .ok (.aload_n 0, 1) by decide +kernel) rfl (lv_at hl 0 rfl) ?_
  refine va_new (ci := 1) (fs := [.null, .int 0]) (C := RX1) (T := TX1) (N := 2) hx hb hts (cls_at (c := 1) rfl).1 tyX1 tyX1_ok hown (hts (.classLink RX6 9 RX1) (gm1 217 rfl (by decide +kernel))) (hts (.instantiable RX1 2) (gm1 41 rfl (by decide +kernel))) (hts (.initialized RX1) (gm1 4 rfl (by decide +kernel))) hK.1 hP hD hS hA rfl (fun j hj => by rcases (show j = 0 ∨ j = 1 by omega) with rfl | rfl <;> rfl) (Nat.le_of_ble_eq_true rfl) (Nat.le_of_ble_eq_true rfl) (show decode cX6_init 5 = .ok (.new 9, 3) by decide +kernel) (fun q1 H hP hD hS => ?_)
  have hP : va_P (xG X) vwCl [(h0, .inr (6, [.null, .int 0, .int 0, .int 0])), (q1, .inr (1, [.null, .int 0]))] H := hP
  have hD : va_D A [(h0, .inr (6, [.null, .int 0, .int 0, .int 0])), (q1, .inr (1, [.null, .int 0]))] := hD
  refine lv_dup hx hb (show decode cX6_init 8 = .ok (.dup, 1) by decide +kernel) rfl ?_
  refine lv_bipush (v := 40) hx hb (show decode cX6_init 9 = .ok (.bipush 40, 2) by decide +kernel) (by decide) ?_
  refine Ct_call (As := [.int 40]) (rest := [.ref q1, .ref h0]) (w0 := [(q1, .inr (1, [.null, .int 0]))]) (wr := [(h0, .inr (6, [.null, .int 0, .int 0, .int 0]))]) (own := RX6) (k_Row40 X q1) (Or.inl (gm1 218 rfl (by decide +kernel))) (gm1 43 rfl (by decide +kernel)) (gm1 4 rfl (by decide +kernel)) (gm1 44 rfl (by decide +kernel)) rfl ⟨by decide, by decide, (show _ = some 1 by decide)⟩ hx hb hml hown hts hK hA hP hD hS [1] [0] rfl rfl rfl rfl (by decide) ⟨(Nat.le_of_ble_eq_true rfl), (Nat.le_of_ble_eq_true rfl)⟩ ⟨(Nat.le_of_ble_eq_true rfl), (Nat.le_of_ble_eq_true rfl)⟩ hl.1 (lv_room (Nat.le_of_ble_eq_true rfl)) (show decode cX6_init 11 = .ok (.invokespecial 11, 3) by decide +kernel) (fun w1 H locs hw hP hD hS => ?_)
  obtain ⟨q2, rfl⟩ := hw
  have hP : va_P (xG X) vwCl [(h0, .inr (6, [.null, .int 0, .int 0, .int 0])), (q1, .inr (1, [.ref q2, .int 0])), (q2, .inl (xA X .int, 40, .inl (fun _ => 0)))] H := hP
  have hD : va_D A [(h0, .inr (6, [.null, .int 0, .int 0, .int 0])), (q1, .inr (1, [.ref q2, .int 0])), (q2, .inl (xA X .int, 40, .inl (fun _ => 0)))] := hD
  refine va_putF (D := xG X) (ci := 6) (v := .ref q1) (ty := .object "BelievedByYard$Row") (C := RX6) (T := TX6) (N := 4) hx hb hts (cls_at (c := 6) rfl).1 tyX6 tyX6_ok nmX6 hown hK.1 hP hD hS 0 rfl rfl 0 (by decide) (hts (.fieldLink RX6 14 "BelievedByYard$Voices" "bodies" "LBelievedByYard$Row;") (gm1 219 rfl (by decide +kernel))) (fun _ h9 => h9) rfl hin rfl (by decide +kernel) rfl rfl (Nat.le_of_ble_eq_true rfl) (show decode cX6_init 14 = .ok (.putfield 14, 3) by decide +kernel) (fun H locs hP hD hS => ?_)
  have hP : va_P (xG X) vwCl [(h0, .inr (6, [.ref q1, .int 0, .int 0, .int 0])), (q1, .inr (1, [.ref q2, .int 0])), (q2, .inl (xA X .int, 40, .inl (fun _ => 0)))] H := hP
  have hD : va_D A [(h0, .inr (6, [.ref q1, .int 0, .int 0, .int 0])), (q1, .inr (1, [.ref q2, .int 0])), (q2, .inl (xA X .int, 40, .inl (fun _ => 0)))] := hD
  refine W.widen (k := 2) (n := 42) (Nat.le_of_ble_eq_true rfl) (Nat.le_of_ble_eq_true rfl) ?_
  exact hrv _ _ _ _ _ ⟨q1, q2, rfl⟩ hP hD hS (show decode cX6_init 17 = .ok (.return_, 1) by decide +kernel)
set_option maxRecDepth 100000 in
set_option maxHeartbeats 4000000 in
theorem k_Thought (X : Cx) (h0 w5 : Nat) : Ct X yX5_init cX5_init 2 1 2 15 [.ref h0, .ref w5] [(h0, .inr (5, [.null, .null, .null, .int 0, .int 0, .int 0, .int 0]))] (fun w => ∃ q1 q2 : Nat, w = [(h0, .inr (5, [.ref w5, .ref q1, .ref q2, .int 0, .int 0, .int 0, .int 0])), (q1, .inl (xA X .int, 7, .inl (fun _ => 0))), (q2, .inl (xA X .int, 8, .inl (fun _ => 0)))]) := by
  refine Ct_of (by decide) rfl rfl ?_
  intro p e s m args below meth c A Q ls hx hb hml hin hown hts hK hA hP hD hl hrv
  have hS : va_S A s.heap s.heap [] := va_S.rf
  have hl : lv_has ls 2 [(0, .ref h0), (1, .ref w5)] := hl
  refine lv_aload_n hx hb (show decode cX5_init 0 = .ok (.aload_n 0, 1) by decide +kernel) rfl (lv_at hl 0 rfl) ?_
  refine W.objInit hx hb hown (hts (.methodLink RX5 3 objectInit) (gm1 161 rfl (by decide +kernel))) (hts (.instanceMethod objectInit) (gm1 24 rfl (by decide +kernel))) (hts _ (gm1 25 rfl (by decide +kernel))) rfl (by rw [hml]; exact hl.1) rfl (show decode cX5_init 1 = .ok (.invokespecial 3, 3) by decide +kernel) (Nat.le_of_ble_eq_true rfl) (Nat.le_of_ble_eq_true rfl) ?_
  refine W.eq (g2 := F0 m 4 ls []) rfl ?_
  refine lv_aload_n hx hb (show decode cX5_init 4 = .ok (.aload_n 0, 1) by decide +kernel) rfl (lv_at hl 0 rfl) ?_
  refine lv_bipush (v := 7) hx hb (show decode cX5_init 5 = .ok (.bipush 7, 2) by decide +kernel) (by decide) ?_
  refine mk_newa (atype := .int) (ty := .int) (N := 7) hx hb (hts (.arrayClass .int) (gm1 60 rfl (by decide +kernel))) rfl (by simp [tysL]) rfl hK hP hD hS hA (by decide) (by decide) (Nat.le_of_ble_eq_true rfl) (Nat.le_of_ble_eq_true rfl) (Nat.le_of_ble_eq_true rfl) (show decode cX5_init 7 = .ok (.newarray .int, 2) by decide +kernel) (fun q1 H hP hD hS => ?_)
  have hP : va_P (xG X) vwCl [(h0, .inr (5, [.null, .null, .null, .int 0, .int 0, .int 0, .int 0])), (q1, .inl (xA X .int, 7, .inl (fun _ => 0)))] H := hP
  have hD : va_D A [(h0, .inr (5, [.null, .null, .null, .int 0, .int 0, .int 0, .int 0])), (q1, .inl (xA X .int, 7, .inl (fun _ => 0)))] := hD
  refine va_putF (D := xG X) (ci := 5) (v := .ref q1) (ty := .array .int) (C := RX5) (T := TX5) (N := 7) hx hb hts (cls_at (c := 5) rfl).1 tyX5 tyX5_ok nmX5 hown hK.1 hP hD hS 0 rfl rfl 1 (by decide) (hts (.fieldLink RX5 9 "BelievedByYard$Thought" "prices" "[I") (gm1 163 rfl (by decide +kernel))) (fun _ h9 => h9) rfl hin rfl (by decide +kernel) rfl rfl (Nat.le_of_ble_eq_true rfl) (show decode cX5_init 9 = .ok (.putfield 9, 3) by decide +kernel) (fun H locs hP hD hS => ?_)
  have hP : va_P (xG X) vwCl [(h0, .inr (5, [.null, .ref q1, .null, .int 0, .int 0, .int 0, .int 0])), (q1, .inl (xA X .int, 7, .inl (fun _ => 0)))] H := hP
  have hD : va_D A [(h0, .inr (5, [.null, .ref q1, .null, .int 0, .int 0, .int 0, .int 0])), (q1, .inl (xA X .int, 7, .inl (fun _ => 0)))] := hD
  refine lv_aload_n hx hb (show decode cX5_init 12 = .ok (.aload_n 0, 1) by decide +kernel) rfl (lv_at hl 0 rfl) ?_
  refine lv_bipush (v := 8) hx hb (show decode cX5_init 13 = .ok (.bipush 8, 2) by decide +kernel) (by decide) ?_
  refine mk_newa (atype := .int) (ty := .int) (N := 8) hx hb (hts (.arrayClass .int) (gm1 60 rfl (by decide +kernel))) rfl (by simp [tysL]) rfl hK hP hD hS hA (by decide) (by decide) (Nat.le_of_ble_eq_true rfl) (Nat.le_of_ble_eq_true rfl) (Nat.le_of_ble_eq_true rfl) (show decode cX5_init 15 = .ok (.newarray .int, 2) by decide +kernel) (fun q2 H hP hD hS => ?_)
  have hP : va_P (xG X) vwCl [(h0, .inr (5, [.null, .ref q1, .null, .int 0, .int 0, .int 0, .int 0])), (q1, .inl (xA X .int, 7, .inl (fun _ => 0))), (q2, .inl (xA X .int, 8, .inl (fun _ => 0)))] H := hP
  have hD : va_D A [(h0, .inr (5, [.null, .ref q1, .null, .int 0, .int 0, .int 0, .int 0])), (q1, .inl (xA X .int, 7, .inl (fun _ => 0))), (q2, .inl (xA X .int, 8, .inl (fun _ => 0)))] := hD
  refine va_putF (D := xG X) (ci := 5) (v := .ref q2) (ty := .array .int) (C := RX5) (T := TX5) (N := 7) hx hb hts (cls_at (c := 5) rfl).1 tyX5 tyX5_ok nmX5 hown hK.1 hP hD hS 0 rfl rfl 2 (by decide) (hts (.fieldLink RX5 15 "BelievedByYard$Thought" "seenMarks" "[I") (gm1 164 rfl (by decide +kernel))) (fun _ h9 => h9) rfl hin rfl (by decide +kernel) rfl rfl (Nat.le_of_ble_eq_true rfl) (show decode cX5_init 17 = .ok (.putfield 15, 3) by decide +kernel) (fun H locs hP hD hS => ?_)
  have hP : va_P (xG X) vwCl [(h0, .inr (5, [.null, .ref q1, .ref q2, .int 0, .int 0, .int 0, .int 0])), (q1, .inl (xA X .int, 7, .inl (fun _ => 0))), (q2, .inl (xA X .int, 8, .inl (fun _ => 0)))] H := hP
  have hD : va_D A [(h0, .inr (5, [.null, .ref q1, .ref q2, .int 0, .int 0, .int 0, .int 0])), (q1, .inl (xA X .int, 7, .inl (fun _ => 0))), (q2, .inl (xA X .int, 8, .inl (fun _ => 0)))] := hD
  refine lv_aload_n hx hb (show decode cX5_init 20 = .ok (.aload_n 0, 1) by decide +kernel) rfl (lv_at hl 0 rfl) ?_
  refine lv_aload_n hx hb (show decode cX5_init 21 = .ok (.aload_n 1, 1) by decide +kernel) rfl (lv_at hl 1 rfl) ?_
  refine va_putF (D := xG X) (ci := 5) (v := .ref w5) (ty := .object "BelievedByYard$World") (C := RX5) (T := TX5) (N := 7) hx hb hts (cls_at (c := 5) rfl).1 tyX5 tyX5_ok nmX5 hown hK.1 hP hD hS 0 rfl rfl 0 (by decide) (hts (.fieldLink RX5 18 "BelievedByYard$Thought" "world" "LBelievedByYard$World;") (gm1 162 rfl (by decide +kernel))) (fun _ h9 => h9) rfl hin rfl (by decide +kernel) rfl rfl (Nat.le_of_ble_eq_true rfl) (show decode cX5_init 22 = .ok (.putfield 18, 3) by decide +kernel) (fun H locs hP hD hS => ?_)
  have hP : va_P (xG X) vwCl [(h0, .inr (5, [.ref w5, .ref q1, .ref q2, .int 0, .int 0, .int 0, .int 0])), (q1, .inl (xA X .int, 7, .inl (fun _ => 0))), (q2, .inl (xA X .int, 8, .inl (fun _ => 0)))] H := hP
  have hD : va_D A [(h0, .inr (5, [.ref w5, .ref q1, .ref q2, .int 0, .int 0, .int 0, .int 0])), (q1, .inl (xA X .int, 7, .inl (fun _ => 0))), (q2, .inl (xA X .int, 8, .inl (fun _ => 0)))] := hD
  refine W.widen (k := 2) (n := 15) (Nat.le_of_ble_eq_true rfl) (Nat.le_of_ble_eq_true rfl) ?_
  exact hrv _ _ _ _ _ ⟨q1, q2, rfl⟩ hP hD hS (show decode cX5_init 25 = .ok (.return_, 1) by decide +kernel)
