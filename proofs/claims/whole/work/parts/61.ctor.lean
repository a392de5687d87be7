theorem dX4_init_0 : decode cX4_init 0 = .ok (.aload_n 0, 1) := by decide +kernel
theorem dX4_init_1 : decode cX4_init 1 = .ok (.invokespecial 3, 3) := by decide +kernel
theorem dX4_init_4 : decode cX4_init 4 = .ok (.aload_n 0, 1) := by decide +kernel
theorem dX4_init_5 : decode cX4_init 5 = .ok (.iconst 0, 1) := by decide +kernel
theorem dX4_init_6 : decode cX4_init 6 = .ok (.putfield 9, 3) := by decide +kernel
theorem dX4_init_9 : decode cX4_init 9 = .ok (.aload_n 0, 1) := by decide +kernel
theorem dX4_init_10 : decode cX4_init 10 = .ok (.iload_n 1, 1) := by decide +kernel
theorem dX4_init_11 : decode cX4_init 11 = .ok (.putfield 15, 3) := by decide +kernel
theorem dX4_init_14 : decode cX4_init 14 = .ok (.aload_n 0, 1) := by decide +kernel
theorem dX4_init_15 : decode cX4_init 15 = .ok (.iload_n 2, 1) := by decide +kernel
theorem dX4_init_16 : decode cX4_init 16 = .ok (.putfield 18, 3) := by decide +kernel
theorem dX4_init_19 : decode cX4_init 19 = .ok (.aload_n 0, 1) := by decide +kernel
theorem dX4_init_20 : decode cX4_init 20 = .ok (.iconst 0, 1) := by decide +kernel
theorem dX4_init_21 : decode cX4_init 21 = .ok (.iload_n 1, 1) := by decide +kernel
theorem dX4_init_22 : decode cX4_init 22 = .ok (.iload_n 2, 1) := by decide +kernel
theorem dX4_init_23 : decode cX4_init 23 = .ok (.imul, 1) := by decide +kernel
theorem dX4_init_24 : decode cX4_init 24 = .ok (.invokestatic 21, 3) := by decide +kernel
theorem dX4_init_27 : decode cX4_init 27 = .ok (.newarray .int, 2) := by decide +kernel
theorem dX4_init_29 : decode cX4_init 29 = .ok (.putfield 27, 3) := by decide +kernel
theorem dX4_init_32 : decode cX4_init 32 = .ok (.return_, 1) := by decide +kernel
theorem mi_X4_init : cx_Me yX4_init cX4_init 3 none 2 := ⟨⟨by decide +kernel, by decide +kernel, by decide +kernel⟩, hw_3, hw_37⟩
set_option maxHeartbeats 4000000 in
set_option maxRecDepth 100000 in
theorem c_X4_init_6_5 (l : Launch) (D : va_G) (k : Nat → ClassId) (h0 : Nat)   : cx_MI l yX4_init cX4_init 3 1 1 30 D k [.ref h0, .int 6, .int 5] [(h0, .inr (3, [.int 0, .int 0, .null, .int 0]))] (fun sz => cx_QI D (fun (u : Nat → Nat) => u 0 = h0) [(h0, .inr (3, [.int 0, .int 0, .null, .int 0]))] (fun u => (wd_Rows k (u 0) (u 1) 6 5 30 (fun _ => 0) 0)) sz) := by
  refine cx_metI (own := "NamelessBox$Rows") (by decide) rfl rfl (Nat.le_of_ble_eq_true rfl) ?_
  intro p e s m args below meth c A Q C hA hQ hr hlk hnm
  refine cx_lv (lv' := [(0, .ref h0), (1, .int 6), (2, .int 5)]) [0, 1, 2] rfl ?_
  refine cx_aload_n C dX4_init_0 0 rfl ?_
  refine cx_objI C dX4_init_1 hw_38 hw_25 hw_26 (Nat.le_of_ble_eq_true rfl) (Nat.le_of_ble_eq_true rfl) ?_
  refine cx_aload_n C dX4_init_4 0 rfl ?_
  refine cx_iconst (v := 0) C dX4_init_5 (by decide) ?_
  refine cx_putf (v := .int 0) (ty := .int) (ci := 3) (ws' := ([(h0, .inr (3, [.int 0, .int 0, .null, .int 0]))] : va_W)) C iX4 tyX4 tyX4_ok nmX4 dX4_init_6 0 rfl rfl 3 (by decide) hw_45 rfl (by decide +kernel) rfl rfl (Nat.le_of_ble_eq_true rfl) rfl ?_
  refine cx_aload_n C dX4_init_9 0 rfl ?_
  refine cx_iload_n C dX4_init_10 1 rfl ?_
  refine cx_putF (v := .int 6) (ty := .int) (ci := 3) (ws' := ([(h0, .inr (3, [.int 6, .int 0, .null, .int 0]))] : va_W)) C hnm iX4 tyX4 tyX4_ok nmX4 dX4_init_11 0 rfl rfl 0 (by decide) hw_42 rfl rfl (by decide +kernel) rfl rfl (Nat.le_of_ble_eq_true rfl) rfl ?_
  refine cx_aload_n C dX4_init_14 0 rfl ?_
  refine cx_iload_n C dX4_init_15 2 rfl ?_
  refine cx_putF (v := .int 5) (ty := .int) (ci := 3) (ws' := ([(h0, .inr (3, [.int 6, .int 5, .null, .int 0]))] : va_W)) C hnm iX4 tyX4 tyX4_ok nmX4 dX4_init_16 0 rfl rfl 1 (by decide) hw_43 rfl rfl (by decide +kernel) rfl rfl (Nat.le_of_ble_eq_true rfl) rfl ?_
  refine cx_aload_n C dX4_init_19 0 rfl ?_
  refine cx_iconst (v := 0) C dX4_init_20 (by decide) ?_
  refine cx_iload_n C dX4_init_21 1 rfl ?_
  refine cx_iload_n C dX4_init_22 2 rfl ?_
  refine cx_imul C dX4_init_23 ?_
  refine cx_mmax C dX4_init_24 hw_39 hw_40 hw_4 hw_41 (Nat.le_of_ble_eq_true rfl) (Nat.le_of_ble_eq_true rfl) ⟨(Nat.le_of_ble_eq_true rfl), (Nat.le_of_ble_eq_true rfl)⟩ ?_
  refine cx_newa (ty := .int) (N := 30) (a0 := (30, .inl (fun _ => 0))) C hA 0 rfl (Or.inl rfl) dX4_init_27 rfl hw_59 (fun _ => rfl) (by decide +kernel) (by decide +kernel) (Nat.le_of_ble_eq_true rfl) (Nat.le_of_ble_eq_true rfl) (Nat.le_of_ble_eq_true rfl) (fun q1 => ?_)
  refine cx_wsE (ws' := ([(h0, .inr (3, [.int 6, .int 5, .null, .int 0])), (q1, .inl (k 0, 30, .inl ((fun _ => 0))))] : va_W)) rfl ?_
  refine cx_putF (v := .ref q1) (ty := .array .int) (ci := 3) (ws' := ([(h0, .inr (3, [.int 6, .int 5, .ref q1, .int 0])), (q1, .inl (k 0, 30, .inl ((fun _ => 0))))] : va_W)) C hnm iX4 tyX4 tyX4_ok nmX4 dX4_init_29 0 rfl rfl 2 (by decide) hw_44 rfl rfl (by decide +kernel) rfl rfl (Nat.le_of_ble_eq_true rfl) rfl ?_
  exact cx_vretI C (cx_li [h0, q1]) hA hQ hr hlk dX4_init_32 rfl rfl
set_option maxHeartbeats 4000000 in
set_option maxRecDepth 100000 in
theorem c_X4_init_2_4 (l : Launch) (D : va_G) (k : Nat → ClassId) (h0 : Nat)   : cx_MI l yX4_init cX4_init 3 1 1 8 D k [.ref h0, .int 2, .int 4] [(h0, .inr (3, [.int 0, .int 0, .null, .int 0]))] (fun sz => cx_QI D (fun (u : Nat → Nat) => u 0 = h0) [(h0, .inr (3, [.int 0, .int 0, .null, .int 0]))] (fun u => (wd_Rows k (u 0) (u 1) 2 4 8 (fun _ => 0) 0)) sz) := by
  refine cx_metI (own := "NamelessBox$Rows") (by decide) rfl rfl (Nat.le_of_ble_eq_true rfl) ?_
  intro p e s m args below meth c A Q C hA hQ hr hlk hnm
  refine cx_lv (lv' := [(0, .ref h0), (1, .int 2), (2, .int 4)]) [0, 1, 2] rfl ?_
  refine cx_aload_n C dX4_init_0 0 rfl ?_
  refine cx_objI C dX4_init_1 hw_38 hw_25 hw_26 (Nat.le_of_ble_eq_true rfl) (Nat.le_of_ble_eq_true rfl) ?_
  refine cx_aload_n C dX4_init_4 0 rfl ?_
  refine cx_iconst (v := 0) C dX4_init_5 (by decide) ?_
  refine cx_putf (v := .int 0) (ty := .int) (ci := 3) (ws' := ([(h0, .inr (3, [.int 0, .int 0, .null, .int 0]))] : va_W)) C iX4 tyX4 tyX4_ok nmX4 dX4_init_6 0 rfl rfl 3 (by decide) hw_45 rfl (by decide +kernel) rfl rfl (Nat.le_of_ble_eq_true rfl) rfl ?_
  refine cx_aload_n C dX4_init_9 0 rfl ?_
  refine cx_iload_n C dX4_init_10 1 rfl ?_
  refine cx_putF (v := .int 2) (ty := .int) (ci := 3) (ws' := ([(h0, .inr (3, [.int 2, .int 0, .null, .int 0]))] : va_W)) C hnm iX4 tyX4 tyX4_ok nmX4 dX4_init_11 0 rfl rfl 0 (by decide) hw_42 rfl rfl (by decide +kernel) rfl rfl (Nat.le_of_ble_eq_true rfl) rfl ?_
  refine cx_aload_n C dX4_init_14 0 rfl ?_
  refine cx_iload_n C dX4_init_15 2 rfl ?_
  refine cx_putF (v := .int 4) (ty := .int) (ci := 3) (ws' := ([(h0, .inr (3, [.int 2, .int 4, .null, .int 0]))] : va_W)) C hnm iX4 tyX4 tyX4_ok nmX4 dX4_init_16 0 rfl rfl 1 (by decide) hw_43 rfl rfl (by decide +kernel) rfl rfl (Nat.le_of_ble_eq_true rfl) rfl ?_
  refine cx_aload_n C dX4_init_19 0 rfl ?_
  refine cx_iconst (v := 0) C dX4_init_20 (by decide) ?_
  refine cx_iload_n C dX4_init_21 1 rfl ?_
  refine cx_iload_n C dX4_init_22 2 rfl ?_
  refine cx_imul C dX4_init_23 ?_
  refine cx_mmax C dX4_init_24 hw_39 hw_40 hw_4 hw_41 (Nat.le_of_ble_eq_true rfl) (Nat.le_of_ble_eq_true rfl) ⟨(Nat.le_of_ble_eq_true rfl), (Nat.le_of_ble_eq_true rfl)⟩ ?_
  refine cx_newa (ty := .int) (N := 8) (a0 := (8, .inl (fun _ => 0))) C hA 0 rfl (Or.inl rfl) dX4_init_27 rfl hw_59 (fun _ => rfl) (by decide +kernel) (by decide +kernel) (Nat.le_of_ble_eq_true rfl) (Nat.le_of_ble_eq_true rfl) (Nat.le_of_ble_eq_true rfl) (fun q1 => ?_)
  refine cx_wsE (ws' := ([(h0, .inr (3, [.int 2, .int 4, .null, .int 0])), (q1, .inl (k 0, 8, .inl ((fun _ => 0))))] : va_W)) rfl ?_
  refine cx_putF (v := .ref q1) (ty := .array .int) (ci := 3) (ws' := ([(h0, .inr (3, [.int 2, .int 4, .ref q1, .int 0])), (q1, .inl (k 0, 8, .inl ((fun _ => 0))))] : va_W)) C hnm iX4 tyX4 tyX4_ok nmX4 dX4_init_29 0 rfl rfl 2 (by decide) hw_44 rfl rfl (by decide +kernel) rfl rfl (Nat.le_of_ble_eq_true rfl) rfl ?_
  exact cx_vretI C (cx_li [h0, q1]) hA hQ hr hlk dX4_init_32 rfl rfl
set_option maxHeartbeats 4000000 in
set_option maxRecDepth 100000 in
theorem c_X4_init_5_6 (l : Launch) (D : va_G) (k : Nat → ClassId) (h0 : Nat)   : cx_MI l yX4_init cX4_init 3 1 1 30 D k [.ref h0, .int 5, .int 6] [(h0, .inr (3, [.int 0, .int 0, .null, .int 0]))] (fun sz => cx_QI D (fun (u : Nat → Nat) => u 0 = h0) [(h0, .inr (3, [.int 0, .int 0, .null, .int 0]))] (fun u => (wd_Rows k (u 0) (u 1) 5 6 30 (fun _ => 0) 0)) sz) := by
  refine cx_metI (own := "NamelessBox$Rows") (by decide) rfl rfl (Nat.le_of_ble_eq_true rfl) ?_
  intro p e s m args below meth c A Q C hA hQ hr hlk hnm
  refine cx_lv (lv' := [(0, .ref h0), (1, .int 5), (2, .int 6)]) [0, 1, 2] rfl ?_
  refine cx_aload_n C dX4_init_0 0 rfl ?_
  refine cx_objI C dX4_init_1 hw_38 hw_25 hw_26 (Nat.le_of_ble_eq_true rfl) (Nat.le_of_ble_eq_true rfl) ?_
  refine cx_aload_n C dX4_init_4 0 rfl ?_
  refine cx_iconst (v := 0) C dX4_init_5 (by decide) ?_
  refine cx_putf (v := .int 0) (ty := .int) (ci := 3) (ws' := ([(h0, .inr (3, [.int 0, .int 0, .null, .int 0]))] : va_W)) C iX4 tyX4 tyX4_ok nmX4 dX4_init_6 0 rfl rfl 3 (by decide) hw_45 rfl (by decide +kernel) rfl rfl (Nat.le_of_ble_eq_true rfl) rfl ?_
  refine cx_aload_n C dX4_init_9 0 rfl ?_
  refine cx_iload_n C dX4_init_10 1 rfl ?_
  refine cx_putF (v := .int 5) (ty := .int) (ci := 3) (ws' := ([(h0, .inr (3, [.int 5, .int 0, .null, .int 0]))] : va_W)) C hnm iX4 tyX4 tyX4_ok nmX4 dX4_init_11 0 rfl rfl 0 (by decide) hw_42 rfl rfl (by decide +kernel) rfl rfl (Nat.le_of_ble_eq_true rfl) rfl ?_
  refine cx_aload_n C dX4_init_14 0 rfl ?_
  refine cx_iload_n C dX4_init_15 2 rfl ?_
  refine cx_putF (v := .int 6) (ty := .int) (ci := 3) (ws' := ([(h0, .inr (3, [.int 5, .int 6, .null, .int 0]))] : va_W)) C hnm iX4 tyX4 tyX4_ok nmX4 dX4_init_16 0 rfl rfl 1 (by decide) hw_43 rfl rfl (by decide +kernel) rfl rfl (Nat.le_of_ble_eq_true rfl) rfl ?_
  refine cx_aload_n C dX4_init_19 0 rfl ?_
  refine cx_iconst (v := 0) C dX4_init_20 (by decide) ?_
  refine cx_iload_n C dX4_init_21 1 rfl ?_
  refine cx_iload_n C dX4_init_22 2 rfl ?_
  refine cx_imul C dX4_init_23 ?_
  refine cx_mmax C dX4_init_24 hw_39 hw_40 hw_4 hw_41 (Nat.le_of_ble_eq_true rfl) (Nat.le_of_ble_eq_true rfl) ⟨(Nat.le_of_ble_eq_true rfl), (Nat.le_of_ble_eq_true rfl)⟩ ?_
  refine cx_newa (ty := .int) (N := 30) (a0 := (30, .inl (fun _ => 0))) C hA 0 rfl (Or.inl rfl) dX4_init_27 rfl hw_59 (fun _ => rfl) (by decide +kernel) (by decide +kernel) (Nat.le_of_ble_eq_true rfl) (Nat.le_of_ble_eq_true rfl) (Nat.le_of_ble_eq_true rfl) (fun q1 => ?_)
  refine cx_wsE (ws' := ([(h0, .inr (3, [.int 5, .int 6, .null, .int 0])), (q1, .inl (k 0, 30, .inl ((fun _ => 0))))] : va_W)) rfl ?_
  refine cx_putF (v := .ref q1) (ty := .array .int) (ci := 3) (ws' := ([(h0, .inr (3, [.int 5, .int 6, .ref q1, .int 0])), (q1, .inl (k 0, 30, .inl ((fun _ => 0))))] : va_W)) C hnm iX4 tyX4 tyX4_ok nmX4 dX4_init_29 0 rfl rfl 2 (by decide) hw_44 rfl rfl (by decide +kernel) rfl rfl (Nat.le_of_ble_eq_true rfl) rfl ?_
  exact cx_vretI C (cx_li [h0, q1]) hA hQ hr hlk dX4_init_32 rfl rfl
set_option maxHeartbeats 4000000 in
set_option maxRecDepth 100000 in
theorem c_X4_init_4_4 (l : Launch) (D : va_G) (k : Nat → ClassId) (h0 : Nat)   : cx_MI l yX4_init cX4_init 3 1 1 16 D k [.ref h0, .int 4, .int 4] [(h0, .inr (3, [.int 0, .int 0, .null, .int 0]))] (fun sz => cx_QI D (fun (u : Nat → Nat) => u 0 = h0) [(h0, .inr (3, [.int 0, .int 0, .null, .int 0]))] (fun u => (wd_Rows k (u 0) (u 1) 4 4 16 (fun _ => 0) 0)) sz) := by
  refine cx_metI (own := "NamelessBox$Rows") (by decide) rfl rfl (Nat.le_of_ble_eq_true rfl) ?_
  intro p e s m args below meth c A Q C hA hQ hr hlk hnm
  refine cx_lv (lv' := [(0, .ref h0), (1, .int 4), (2, .int 4)]) [0, 1, 2] rfl ?_
  refine cx_aload_n C dX4_init_0 0 rfl ?_
  refine cx_objI C dX4_init_1 hw_38 hw_25 hw_26 (Nat.le_of_ble_eq_true rfl) (Nat.le_of_ble_eq_true rfl) ?_
  refine cx_aload_n C dX4_init_4 0 rfl ?_
  refine cx_iconst (v := 0) C dX4_init_5 (by decide) ?_
  refine cx_putf (v := .int 0) (ty := .int) (ci := 3) (ws' := ([(h0, .inr (3, [.int 0, .int 0, .null, .int 0]))] : va_W)) C iX4 tyX4 tyX4_ok nmX4 dX4_init_6 0 rfl rfl 3 (by decide) hw_45 rfl (by decide +kernel) rfl rfl (Nat.le_of_ble_eq_true rfl) rfl ?_
  refine cx_aload_n C dX4_init_9 0 rfl ?_
  refine cx_iload_n C dX4_init_10 1 rfl ?_
  refine cx_putF (v := .int 4) (ty := .int) (ci := 3) (ws' := ([(h0, .inr (3, [.int 4, .int 0, .null, .int 0]))] : va_W)) C hnm iX4 tyX4 tyX4_ok nmX4 dX4_init_11 0 rfl rfl 0 (by decide) hw_42 rfl rfl (by decide +kernel) rfl rfl (Nat.le_of_ble_eq_true rfl) rfl ?_
  refine cx_aload_n C dX4_init_14 0 rfl ?_
  refine cx_iload_n C dX4_init_15 2 rfl ?_
  refine cx_putF (v := .int 4) (ty := .int) (ci := 3) (ws' := ([(h0, .inr (3, [.int 4, .int 4, .null, .int 0]))] : va_W)) C hnm iX4 tyX4 tyX4_ok nmX4 dX4_init_16 0 rfl rfl 1 (by decide) hw_43 rfl rfl (by decide +kernel) rfl rfl (Nat.le_of_ble_eq_true rfl) rfl ?_
  refine cx_aload_n C dX4_init_19 0 rfl ?_
  refine cx_iconst (v := 0) C dX4_init_20 (by decide) ?_
  refine cx_iload_n C dX4_init_21 1 rfl ?_
  refine cx_iload_n C dX4_init_22 2 rfl ?_
  refine cx_imul C dX4_init_23 ?_
  refine cx_mmax C dX4_init_24 hw_39 hw_40 hw_4 hw_41 (Nat.le_of_ble_eq_true rfl) (Nat.le_of_ble_eq_true rfl) ⟨(Nat.le_of_ble_eq_true rfl), (Nat.le_of_ble_eq_true rfl)⟩ ?_
  refine cx_newa (ty := .int) (N := 16) (a0 := (16, .inl (fun _ => 0))) C hA 0 rfl (Or.inl rfl) dX4_init_27 rfl hw_59 (fun _ => rfl) (by decide +kernel) (by decide +kernel) (Nat.le_of_ble_eq_true rfl) (Nat.le_of_ble_eq_true rfl) (Nat.le_of_ble_eq_true rfl) (fun q1 => ?_)
  refine cx_wsE (ws' := ([(h0, .inr (3, [.int 4, .int 4, .null, .int 0])), (q1, .inl (k 0, 16, .inl ((fun _ => 0))))] : va_W)) rfl ?_
  refine cx_putF (v := .ref q1) (ty := .array .int) (ci := 3) (ws' := ([(h0, .inr (3, [.int 4, .int 4, .ref q1, .int 0])), (q1, .inl (k 0, 16, .inl ((fun _ => 0))))] : va_W)) C hnm iX4 tyX4 tyX4_ok nmX4 dX4_init_29 0 rfl rfl 2 (by decide) hw_44 rfl rfl (by decide +kernel) rfl rfl (Nat.le_of_ble_eq_true rfl) rfl ?_
  exact cx_vretI C (cx_li [h0, q1]) hA hQ hr hlk dX4_init_32 rfl rfl
set_option maxHeartbeats 4000000 in
set_option maxRecDepth 100000 in
theorem c_X4_init_3_4 (l : Launch) (D : va_G) (k : Nat → ClassId) (h0 : Nat)   : cx_MI l yX4_init cX4_init 3 1 1 12 D k [.ref h0, .int 3, .int 4] [(h0, .inr (3, [.int 0, .int 0, .null, .int 0]))] (fun sz => cx_QI D (fun (u : Nat → Nat) => u 0 = h0) [(h0, .inr (3, [.int 0, .int 0, .null, .int 0]))] (fun u => (wd_Rows k (u 0) (u 1) 3 4 12 (fun _ => 0) 0)) sz) := by
  refine cx_metI (own := "NamelessBox$Rows") (by decide) rfl rfl (Nat.le_of_ble_eq_true rfl) ?_
  intro p e s m args below meth c A Q C hA hQ hr hlk hnm
  refine cx_lv (lv' := [(0, .ref h0), (1, .int 3), (2, .int 4)]) [0, 1, 2] rfl ?_
  refine cx_aload_n C dX4_init_0 0 rfl ?_
  refine cx_objI C dX4_init_1 hw_38 hw_25 hw_26 (Nat.le_of_ble_eq_true rfl) (Nat.le_of_ble_eq_true rfl) ?_
  refine cx_aload_n C dX4_init_4 0 rfl ?_
  refine cx_iconst (v := 0) C dX4_init_5 (by decide) ?_
  refine cx_putf (v := .int 0) (ty := .int) (ci := 3) (ws' := ([(h0, .inr (3, [.int 0, .int 0, .null, .int 0]))] : va_W)) C iX4 tyX4 tyX4_ok nmX4 dX4_init_6 0 rfl rfl 3 (by decide) hw_45 rfl (by decide +kernel) rfl rfl (Nat.le_of_ble_eq_true rfl) rfl ?_
  refine cx_aload_n C dX4_init_9 0 rfl ?_
  refine cx_iload_n C dX4_init_10 1 rfl ?_
  refine cx_putF (v := .int 3) (ty := .int) (ci := 3) (ws' := ([(h0, .inr (3, [.int 3, .int 0, .null, .int 0]))] : va_W)) C hnm iX4 tyX4 tyX4_ok nmX4 dX4_init_11 0 rfl rfl 0 (by decide) hw_42 rfl rfl (by decide +kernel) rfl rfl (Nat.le_of_ble_eq_true rfl) rfl ?_
  refine cx_aload_n C dX4_init_14 0 rfl ?_
  refine cx_iload_n C dX4_init_15 2 rfl ?_
  refine cx_putF (v := .int 4) (ty := .int) (ci := 3) (ws' := ([(h0, .inr (3, [.int 3, .int 4, .null, .int 0]))] : va_W)) C hnm iX4 tyX4 tyX4_ok nmX4 dX4_init_16 0 rfl rfl 1 (by decide) hw_43 rfl rfl (by decide +kernel) rfl rfl (Nat.le_of_ble_eq_true rfl) rfl ?_
  refine cx_aload_n C dX4_init_19 0 rfl ?_
  refine cx_iconst (v := 0) C dX4_init_20 (by decide) ?_
  refine cx_iload_n C dX4_init_21 1 rfl ?_
  refine cx_iload_n C dX4_init_22 2 rfl ?_
  refine cx_imul C dX4_init_23 ?_
  refine cx_mmax C dX4_init_24 hw_39 hw_40 hw_4 hw_41 (Nat.le_of_ble_eq_true rfl) (Nat.le_of_ble_eq_true rfl) ⟨(Nat.le_of_ble_eq_true rfl), (Nat.le_of_ble_eq_true rfl)⟩ ?_
  refine cx_newa (ty := .int) (N := 12) (a0 := (12, .inl (fun _ => 0))) C hA 0 rfl (Or.inl rfl) dX4_init_27 rfl hw_59 (fun _ => rfl) (by decide +kernel) (by decide +kernel) (Nat.le_of_ble_eq_true rfl) (Nat.le_of_ble_eq_true rfl) (Nat.le_of_ble_eq_true rfl) (fun q1 => ?_)
  refine cx_wsE (ws' := ([(h0, .inr (3, [.int 3, .int 4, .null, .int 0])), (q1, .inl (k 0, 12, .inl ((fun _ => 0))))] : va_W)) rfl ?_
  refine cx_putF (v := .ref q1) (ty := .array .int) (ci := 3) (ws' := ([(h0, .inr (3, [.int 3, .int 4, .ref q1, .int 0])), (q1, .inl (k 0, 12, .inl ((fun _ => 0))))] : va_W)) C hnm iX4 tyX4 tyX4_ok nmX4 dX4_init_29 0 rfl rfl 2 (by decide) hw_44 rfl rfl (by decide +kernel) rfl rfl (Nat.le_of_ble_eq_true rfl) rfl ?_
  exact cx_vretI C (cx_li [h0, q1]) hA hQ hr hlk dX4_init_32 rfl rfl
theorem dX6_init_0 : decode cX6_init 0 = .ok (.aload_n 0, 1) := by decide +kernel
theorem dX6_init_1 : decode cX6_init 1 = .ok (.invokespecial 3, 3) := by decide +kernel
theorem dX6_init_4 : decode cX6_init 4 = .ok (.aload_n 0, 1) := by decide +kernel
theorem dX6_init_5 : decode cX6_init 5 = .ok (.sipush 300, 3) := by decide +kernel
theorem dX6_init_8 : decode cX6_init 8 = .ok (.newarray .char, 2) := by decide +kernel
theorem dX6_init_10 : decode cX6_init 10 = .ok (.putfield 11, 3) := by decide +kernel
theorem dX6_init_13 : decode cX6_init 13 = .ok (.aload_n 0, 1) := by decide +kernel
theorem dX6_init_14 : decode cX6_init 14 = .ok (.iconst 0, 1) := by decide +kernel
theorem dX6_init_15 : decode cX6_init 15 = .ok (.putfield 15, 3) := by decide +kernel
theorem dX6_init_18 : decode cX6_init 18 = .ok (.aload_n 0, 1) := by decide +kernel
theorem dX6_init_19 : decode cX6_init 19 = .ok (.iconst 0, 1) := by decide +kernel
theorem dX6_init_20 : decode cX6_init 20 = .ok (.putfield 19, 3) := by decide +kernel
theorem dX6_init_23 : decode cX6_init 23 = .ok (.aload_n 0, 1) := by decide +kernel
theorem dX6_init_24 : decode cX6_init 24 = .ok (.iconst 0, 1) := by decide +kernel
theorem dX6_init_25 : decode cX6_init 25 = .ok (.putfield 22, 3) := by decide +kernel
theorem dX6_init_28 : decode cX6_init 28 = .ok (.aload_n 0, 1) := by decide +kernel
theorem dX6_init_29 : decode cX6_init 29 = .ok (.iconst 0, 1) := by decide +kernel
theorem dX6_init_30 : decode cX6_init 30 = .ok (.putfield 25, 3) := by decide +kernel
theorem dX6_init_33 : decode cX6_init 33 = .ok (.aload_n 0, 1) := by decide +kernel
theorem dX6_init_34 : decode cX6_init 34 = .ok (.iconst 5, 1) := by decide +kernel
theorem dX6_init_35 : decode cX6_init 35 = .ok (.newarray .int, 2) := by decide +kernel
theorem dX6_init_37 : decode cX6_init 37 = .ok (.putfield 28, 3) := by decide +kernel
theorem dX6_init_40 : decode cX6_init 40 = .ok (.return_, 1) := by decide +kernel
theorem mi_X6_init : cx_Me yX6_init cX6_init 1 none 0 := ⟨⟨by decide +kernel, by decide +kernel, by decide +kernel⟩, hw_5, hw_95⟩
set_option maxHeartbeats 4000000 in
set_option maxRecDepth 100000 in
theorem c_X6_init (l : Launch) (D : va_G) (k : Nat → ClassId) (h0 : Nat)   : cx_MI l yX6_init cX6_init 1 1 2 305 D k [.ref h0] [(h0, .inr (5, [.null, .int 0, .int 0, .int 0, .int 0, .null]))] (fun sz => cx_QI D (fun (u : Nat → Nat) => u 0 = h0) [(h0, .inr (5, [.null, .int 0, .int 0, .int 0, .int 0, .null]))] (fun u => (wd_Text k u ((fun _ => 0)) 0 0 0 0 ((fun _ => 0)))) sz) := by
  refine cx_metI (own := "NamelessBox$Text") (by decide) rfl rfl (Nat.le_of_ble_eq_true rfl) ?_
  intro p e s m args below meth c A Q C hA hQ hr hlk hnm
  refine cx_lv (lv' := [(0, .ref h0)]) [0] rfl ?_
  refine cx_aload_n C dX6_init_0 0 rfl ?_
  refine cx_objI C dX6_init_1 hw_96 hw_25 hw_26 (Nat.le_of_ble_eq_true rfl) (Nat.le_of_ble_eq_true rfl) ?_
  refine cx_aload_n C dX6_init_4 0 rfl ?_
  refine cx_sipush (v := 300) C dX6_init_5 (by decide) ?_
  refine cx_newa (ty := .char) (N := 300) (a0 := (300, .inl (fun _ => 0))) C hA 2 rfl (Or.inr (Or.inr (Or.inl rfl))) dX6_init_8 rfl hw_118 (fun _ => rfl) (by decide +kernel) (by decide +kernel) (Nat.le_of_ble_eq_true rfl) (Nat.le_of_ble_eq_true rfl) (Nat.le_of_ble_eq_true rfl) (fun q1 => ?_)
  refine cx_wsE (ws' := ([(h0, .inr (5, [.null, .int 0, .int 0, .int 0, .int 0, .null])), (q1, .inl (k 2, 300, .inl ((fun _ => 0))))] : va_W)) rfl ?_
  refine cx_putF (v := .ref q1) (ty := .array .char) (ci := 5) (ws' := ([(h0, .inr (5, [.ref q1, .int 0, .int 0, .int 0, .int 0, .null])), (q1, .inl (k 2, 300, .inl ((fun _ => 0))))] : va_W)) C hnm iX6 tyX6 tyX6_ok nmX6 dX6_init_10 0 rfl rfl 0 (by decide) hw_97 rfl rfl (by decide +kernel) rfl rfl (Nat.le_of_ble_eq_true rfl) rfl ?_
  refine cx_aload_n C dX6_init_13 0 rfl ?_
  refine cx_iconst (v := 0) C dX6_init_14 (by decide) ?_
  refine cx_putf (v := .int 0) (ty := .int) (ci := 5) (ws' := ([(h0, .inr (5, [.ref q1, .int 0, .int 0, .int 0, .int 0, .null])), (q1, .inl (k 2, 300, .inl ((fun _ => 0))))] : va_W)) C iX6 tyX6 tyX6_ok nmX6 dX6_init_15 0 rfl rfl 1 (by decide) hw_98 rfl (by decide +kernel) rfl rfl (Nat.le_of_ble_eq_true rfl) rfl ?_
  refine cx_aload_n C dX6_init_18 0 rfl ?_
  refine cx_iconst (v := 0) C dX6_init_19 (by decide) ?_
  refine cx_putf (v := .int 0) (ty := .int) (ci := 5) (ws' := ([(h0, .inr (5, [.ref q1, .int 0, .int 0, .int 0, .int 0, .null])), (q1, .inl (k 2, 300, .inl ((fun _ => 0))))] : va_W)) C iX6 tyX6 tyX6_ok nmX6 dX6_init_20 0 rfl rfl 2 (by decide) hw_100 rfl (by decide +kernel) rfl rfl (Nat.le_of_ble_eq_true rfl) rfl ?_
  refine cx_aload_n C dX6_init_23 0 rfl ?_
  refine cx_iconst (v := 0) C dX6_init_24 (by decide) ?_
  refine cx_putf (v := .int 0) (ty := .int) (ci := 5) (ws' := ([(h0, .inr (5, [.ref q1, .int 0, .int 0, .int 0, .int 0, .null])), (q1, .inl (k 2, 300, .inl ((fun _ => 0))))] : va_W)) C iX6 tyX6 tyX6_ok nmX6 dX6_init_25 0 rfl rfl 3 (by decide) hw_101 rfl (by decide +kernel) rfl rfl (Nat.le_of_ble_eq_true rfl) rfl ?_
  refine cx_aload_n C dX6_init_28 0 rfl ?_
  refine cx_iconst (v := 0) C dX6_init_29 (by decide) ?_
  refine cx_putf (v := .int 0) (ty := .int) (ci := 5) (ws' := ([(h0, .inr (5, [.ref q1, .int 0, .int 0, .int 0, .int 0, .null])), (q1, .inl (k 2, 300, .inl ((fun _ => 0))))] : va_W)) C iX6 tyX6 tyX6_ok nmX6 dX6_init_30 0 rfl rfl 4 (by decide) hw_102 rfl (by decide +kernel) rfl rfl (Nat.le_of_ble_eq_true rfl) rfl ?_
  refine cx_aload_n C dX6_init_33 0 rfl ?_
  refine cx_iconst (v := 5) C dX6_init_34 (by decide) ?_
  refine cx_newa (ty := .int) (N := 5) (a0 := (5, .inl (fun _ => 0))) C hA 0 rfl (Or.inl rfl) dX6_init_35 rfl hw_59 (fun _ => rfl) (by decide +kernel) (by decide +kernel) (Nat.le_of_ble_eq_true rfl) (Nat.le_of_ble_eq_true rfl) (Nat.le_of_ble_eq_true rfl) (fun q2 => ?_)
  refine cx_wsE (ws' := ([(h0, .inr (5, [.ref q1, .int 0, .int 0, .int 0, .int 0, .null])), (q1, .inl (k 2, 300, .inl ((fun _ => 0)))), (q2, .inl (k 0, 5, .inl ((fun _ => 0))))] : va_W)) rfl ?_
  refine cx_putF (v := .ref q2) (ty := .array .int) (ci := 5) (ws' := ([(h0, .inr (5, [.ref q1, .int 0, .int 0, .int 0, .int 0, .ref q2])), (q1, .inl (k 2, 300, .inl ((fun _ => 0)))), (q2, .inl (k 0, 5, .inl ((fun _ => 0))))] : va_W)) C hnm iX6 tyX6 tyX6_ok nmX6 dX6_init_37 0 rfl rfl 5 (by decide) hw_103 rfl rfl (by decide +kernel) rfl rfl (Nat.le_of_ble_eq_true rfl) rfl ?_
  exact cx_vretI C (cx_li [h0, q1, q2]) hA hQ hr hlk dX6_init_40 rfl rfl
theorem dX2_init_0 : decode cX2_init 0 = .ok (.aload_n 0, 1) := by decide +kernel
theorem dX2_init_1 : decode cX2_init 1 = .ok (.invokespecial 1, 3) := by decide +kernel
theorem dX2_init_4 : decode cX2_init 4 = .ok (.aload_n 0, 1) := by decide +kernel
theorem dX2_init_5 : decode cX2_init 5 = .ok (.iconst 4, 1) := by decide +kernel
theorem dX2_init_6 : decode cX2_init 6 = .ok (.newarray .long, 2) := by decide +kernel
theorem dX2_init_8 : decode cX2_init 8 = .ok (.putfield 9, 3) := by decide +kernel
theorem dX2_init_11 : decode cX2_init 11 = .ok (.aload_n 0, 1) := by decide +kernel
theorem dX2_init_12 : decode cX2_init 12 = .ok (.iconst 4, 1) := by decide +kernel
theorem dX2_init_13 : decode cX2_init 13 = .ok (.newarray .long, 2) := by decide +kernel
theorem dX2_init_15 : decode cX2_init 15 = .ok (.putfield 15, 3) := by decide +kernel
theorem dX2_init_18 : decode cX2_init 18 = .ok (.aload_n 0, 1) := by decide +kernel
theorem dX2_init_19 : decode cX2_init 19 = .ok (.iconst 4, 1) := by decide +kernel
theorem dX2_init_20 : decode cX2_init 20 = .ok (.newarray .long, 2) := by decide +kernel
theorem dX2_init_22 : decode cX2_init 22 = .ok (.putfield 18, 3) := by decide +kernel
theorem dX2_init_25 : decode cX2_init 25 = .ok (.aload_n 0, 1) := by decide +kernel
theorem dX2_init_26 : decode cX2_init 26 = .ok (.iconst 4, 1) := by decide +kernel
theorem dX2_init_27 : decode cX2_init 27 = .ok (.newarray .long, 2) := by decide +kernel
theorem dX2_init_29 : decode cX2_init 29 = .ok (.putfield 21, 3) := by decide +kernel
theorem dX2_init_32 : decode cX2_init 32 = .ok (.aload_n 0, 1) := by decide +kernel
theorem dX2_init_33 : decode cX2_init 33 = .ok (.getfield 15, 3) := by decide +kernel
theorem dX2_init_36 : decode cX2_init 36 = .ok (.iconst 0, 1) := by decide +kernel
theorem dX2_init_37 : decode cX2_init 37 = .ok (.lconst 1, 1) := by decide +kernel
theorem dX2_init_38 : decode cX2_init 38 = .ok (.lastore, 1) := by decide +kernel
theorem dX2_init_39 : decode cX2_init 39 = .ok (.return_, 1) := by decide +kernel
theorem mi_X2_init : cx_Me yX2_init cX2_init 1 none 0 := ⟨⟨by decide +kernel, by decide +kernel, by decide +kernel⟩, hw_6, hw_123⟩
set_option maxHeartbeats 4000000 in
set_option maxRecDepth 100000 in
theorem c_X2_init (l : Launch) (D : va_G) (k : Nat → ClassId) (h0 : Nat)   : cx_MI l yX2_init cX2_init 1 1 4 16 D k [.ref h0] [(h0, .inr (2, [.null, .null, .null, .null]))] (fun sz => cx_QI D (fun (u : Nat → Nat) => u 0 = h0) [(h0, .inr (2, [.null, .null, .null, .null]))] (fun u => (wd_Frac k u ((fun _ => 0)) (vp_updL ((fun _ => 0)) (cx_ix 0) 1) ((fun _ => 0)) ((fun _ => 0)))) sz) := by
  refine cx_metI (own := "NamelessBox$Fraction") (by decide) rfl rfl (Nat.le_of_ble_eq_true rfl) ?_
  intro p e s m args below meth c A Q C hA hQ hr hlk hnm
  refine cx_lv (lv' := [(0, .ref h0)]) [0] rfl ?_
  refine cx_aload_n C dX2_init_0 0 rfl ?_
  refine cx_objI C dX2_init_1 hw_124 hw_25 hw_26 (Nat.le_of_ble_eq_true rfl) (Nat.le_of_ble_eq_true rfl) ?_
  refine cx_aload_n C dX2_init_4 0 rfl ?_
  refine cx_iconst (v := 4) C dX2_init_5 (by decide) ?_
  refine cx_newa (ty := .long) (N := 4) (a0 := (4, .inr (.inl (fun _ => 0)))) C hA 1 rfl (Or.inr (Or.inl rfl)) dX2_init_6 rfl hw_140 (fun _ => rfl) (by decide +kernel) (by decide +kernel) (Nat.le_of_ble_eq_true rfl) (Nat.le_of_ble_eq_true rfl) (Nat.le_of_ble_eq_true rfl) (fun q1 => ?_)
  refine cx_wsE (ws' := ([(h0, .inr (2, [.null, .null, .null, .null])), (q1, .inl (k 1, 4, .inr (.inl ((fun _ => 0)))))] : va_W)) rfl ?_
  refine cx_putF (v := .ref q1) (ty := .array .long) (ci := 2) (ws' := ([(h0, .inr (2, [.ref q1, .null, .null, .null])), (q1, .inl (k 1, 4, .inr (.inl ((fun _ => 0)))))] : va_W)) C hnm iX2 tyX2 tyX2_ok nmX2 dX2_init_8 0 rfl rfl 0 (by decide) hw_125 rfl rfl (by decide +kernel) rfl rfl (Nat.le_of_ble_eq_true rfl) rfl ?_
  refine cx_aload_n C dX2_init_11 0 rfl ?_
  refine cx_iconst (v := 4) C dX2_init_12 (by decide) ?_
  refine cx_newa (ty := .long) (N := 4) (a0 := (4, .inr (.inl (fun _ => 0)))) C hA 1 rfl (Or.inr (Or.inl rfl)) dX2_init_13 rfl hw_140 (fun _ => rfl) (by decide +kernel) (by decide +kernel) (Nat.le_of_ble_eq_true rfl) (Nat.le_of_ble_eq_true rfl) (Nat.le_of_ble_eq_true rfl) (fun q2 => ?_)
  refine cx_wsE (ws' := ([(h0, .inr (2, [.ref q1, .null, .null, .null])), (q1, .inl (k 1, 4, .inr (.inl ((fun _ => 0))))), (q2, .inl (k 1, 4, .inr (.inl ((fun _ => 0)))))] : va_W)) rfl ?_
  refine cx_putF (v := .ref q2) (ty := .array .long) (ci := 2) (ws' := ([(h0, .inr (2, [.ref q1, .ref q2, .null, .null])), (q1, .inl (k 1, 4, .inr (.inl ((fun _ => 0))))), (q2, .inl (k 1, 4, .inr (.inl ((fun _ => 0)))))] : va_W)) C hnm iX2 tyX2 tyX2_ok nmX2 dX2_init_15 0 rfl rfl 1 (by decide) hw_127 rfl rfl (by decide +kernel) rfl rfl (Nat.le_of_ble_eq_true rfl) rfl ?_
  refine cx_aload_n C dX2_init_18 0 rfl ?_
  refine cx_iconst (v := 4) C dX2_init_19 (by decide) ?_
  refine cx_newa (ty := .long) (N := 4) (a0 := (4, .inr (.inl (fun _ => 0)))) C hA 1 rfl (Or.inr (Or.inl rfl)) dX2_init_20 rfl hw_140 (fun _ => rfl) (by decide +kernel) (by decide +kernel) (Nat.le_of_ble_eq_true rfl) (Nat.le_of_ble_eq_true rfl) (Nat.le_of_ble_eq_true rfl) (fun q3 => ?_)
  refine cx_wsE (ws' := ([(h0, .inr (2, [.ref q1, .ref q2, .null, .null])), (q1, .inl (k 1, 4, .inr (.inl ((fun _ => 0))))), (q2, .inl (k 1, 4, .inr (.inl ((fun _ => 0))))), (q3, .inl (k 1, 4, .inr (.inl ((fun _ => 0)))))] : va_W)) rfl ?_
  refine cx_putF (v := .ref q3) (ty := .array .long) (ci := 2) (ws' := ([(h0, .inr (2, [.ref q1, .ref q2, .ref q3, .null])), (q1, .inl (k 1, 4, .inr (.inl ((fun _ => 0))))), (q2, .inl (k 1, 4, .inr (.inl ((fun _ => 0))))), (q3, .inl (k 1, 4, .inr (.inl ((fun _ => 0)))))] : va_W)) C hnm iX2 tyX2 tyX2_ok nmX2 dX2_init_22 0 rfl rfl 2 (by decide) hw_129 rfl rfl (by decide +kernel) rfl rfl (Nat.le_of_ble_eq_true rfl) rfl ?_
  refine cx_aload_n C dX2_init_25 0 rfl ?_
  refine cx_iconst (v := 4) C dX2_init_26 (by decide) ?_
  refine cx_newa (ty := .long) (N := 4) (a0 := (4, .inr (.inl (fun _ => 0)))) C hA 1 rfl (Or.inr (Or.inl rfl)) dX2_init_27 rfl hw_140 (fun _ => rfl) (by decide +kernel) (by decide +kernel) (Nat.le_of_ble_eq_true rfl) (Nat.le_of_ble_eq_true rfl) (Nat.le_of_ble_eq_true rfl) (fun q4 => ?_)
  refine cx_wsE (ws' := ([(h0, .inr (2, [.ref q1, .ref q2, .ref q3, .null])), (q1, .inl (k 1, 4, .inr (.inl ((fun _ => 0))))), (q2, .inl (k 1, 4, .inr (.inl ((fun _ => 0))))), (q3, .inl (k 1, 4, .inr (.inl ((fun _ => 0))))), (q4, .inl (k 1, 4, .inr (.inl ((fun _ => 0)))))] : va_W)) rfl ?_
  refine cx_putF (v := .ref q4) (ty := .array .long) (ci := 2) (ws' := ([(h0, .inr (2, [.ref q1, .ref q2, .ref q3, .ref q4])), (q1, .inl (k 1, 4, .inr (.inl ((fun _ => 0))))), (q2, .inl (k 1, 4, .inr (.inl ((fun _ => 0))))), (q3, .inl (k 1, 4, .inr (.inl ((fun _ => 0))))), (q4, .inl (k 1, 4, .inr (.inl ((fun _ => 0)))))] : va_W)) C hnm iX2 tyX2 tyX2_ok nmX2 dX2_init_29 0 rfl rfl 3 (by decide) hw_130 rfl rfl (by decide +kernel) rfl rfl (Nat.le_of_ble_eq_true rfl) rfl ?_
  refine cx_aload_n C dX2_init_32 0 rfl ?_
  refine cx_get (v := .ref q2) (ci := 2) C iX2 dX2_init_33 0 rfl rfl 1 (by decide) hw_127 rfl ?_
  refine cx_iconst (v := 0) C dX2_init_36 (by decide) ?_
  refine cx_lconst (v := 1) C dX2_init_37 (by decide) ?_
  refine cx_last (ws' := ([(h0, .inr (2, [.ref q1, .ref q2, .ref q3, .ref q4])), (q1, .inl (k 1, 4, .inr (.inl ((fun _ => 0))))), (q2, .inl (k 1, 4, .inr (.inl (vp_updL ((fun _ => 0)) (cx_ix 0) 1)))), (q3, .inl (k 1, 4, .inr (.inl ((fun _ => 0))))), (q4, .inl (k 1, 4, .inr (.inl ((fun _ => 0)))))] : va_W)) C dX2_init_38 2 rfl (cx_ib_in (by decide)) rfl ?_
  exact cx_vretI C (cx_li [h0, q1, q2, q3, q4]) hA hQ hr hlk dX2_init_39 rfl rfl
theorem dX5_init_0 : decode cX5_init 0 = .ok (.aload_n 0, 1) := by decide +kernel
theorem dX5_init_1 : decode cX5_init 1 = .ok (.invokespecial 3, 3) := by decide +kernel
theorem dX5_init_4 : decode cX5_init 4 = .ok (.aload_n 0, 1) := by decide +kernel
theorem dX5_init_5 : decode cX5_init 5 = .ok (.iconst 4, 1) := by decide +kernel
theorem dX5_init_6 : decode cX5_init 6 = .ok (.newarray .long, 2) := by decide +kernel
theorem dX5_init_8 : decode cX5_init 8 = .ok (.putfield 11, 3) := by decide +kernel
theorem dX5_init_11 : decode cX5_init 11 = .ok (.aload_n 0, 1) := by decide +kernel
theorem dX5_init_12 : decode cX5_init 12 = .ok (.sipush 144, 3) := by decide +kernel
theorem dX5_init_15 : decode cX5_init 15 = .ok (.newarray .long, 2) := by decide +kernel
theorem dX5_init_17 : decode cX5_init 17 = .ok (.putfield 17, 3) := by decide +kernel
theorem dX5_init_20 : decode cX5_init 20 = .ok (.aload_n 0, 1) := by decide +kernel
theorem dX5_init_21 : decode cX5_init 21 = .ok (.sipush 128, 3) := by decide +kernel
theorem dX5_init_24 : decode cX5_init 24 = .ok (.newarray .long, 2) := by decide +kernel
theorem dX5_init_26 : decode cX5_init 26 = .ok (.putfield 20, 3) := by decide +kernel
theorem dX5_init_29 : decode cX5_init 29 = .ok (.aload_n 0, 1) := by decide +kernel
theorem dX5_init_30 : decode cX5_init 30 = .ok (.bipush 6, 2) := by decide +kernel
theorem dX5_init_32 : decode cX5_init 32 = .ok (.newarray .int, 2) := by decide +kernel
theorem dX5_init_34 : decode cX5_init 34 = .ok (.putfield 23, 3) := by decide +kernel
theorem dX5_init_37 : decode cX5_init 37 = .ok (.aload_n 0, 1) := by decide +kernel
theorem dX5_init_38 : decode cX5_init 38 = .ok (.iconst 4, 1) := by decide +kernel
theorem dX5_init_39 : decode cX5_init 39 = .ok (.newarray .long, 2) := by decide +kernel
theorem dX5_init_41 : decode cX5_init 41 = .ok (.putfield 27, 3) := by decide +kernel
theorem dX5_init_44 : decode cX5_init 44 = .ok (.aload_n 0, 1) := by decide +kernel
theorem dX5_init_45 : decode cX5_init 45 = .ok (.iconst 4, 1) := by decide +kernel
theorem dX5_init_46 : decode cX5_init 46 = .ok (.newarray .long, 2) := by decide +kernel
theorem dX5_init_48 : decode cX5_init 48 = .ok (.putfield 30, 3) := by decide +kernel
theorem dX5_init_51 : decode cX5_init 51 = .ok (.aload_n 0, 1) := by decide +kernel
theorem dX5_init_52 : decode cX5_init 52 = .ok (.iconst 4, 1) := by decide +kernel
theorem dX5_init_53 : decode cX5_init 53 = .ok (.newarray .long, 2) := by decide +kernel
theorem dX5_init_55 : decode cX5_init 55 = .ok (.putfield 33, 3) := by decide +kernel
theorem dX5_init_58 : decode cX5_init 58 = .ok (.aload_n 0, 1) := by decide +kernel
theorem dX5_init_59 : decode cX5_init 59 = .ok (.iconst 4, 1) := by decide +kernel
theorem dX5_init_60 : decode cX5_init 60 = .ok (.newarray .long, 2) := by decide +kernel
theorem dX5_init_62 : decode cX5_init 62 = .ok (.putfield 36, 3) := by decide +kernel
theorem dX5_init_65 : decode cX5_init 65 = .ok (.aload_n 0, 1) := by decide +kernel
theorem dX5_init_66 : decode cX5_init 66 = .ok (.iconst 0, 1) := by decide +kernel
theorem dX5_init_67 : decode cX5_init 67 = .ok (.putfield 39, 3) := by decide +kernel
theorem dX5_init_70 : decode cX5_init 70 = .ok (.aload_n 0, 1) := by decide +kernel
theorem dX5_init_71 : decode cX5_init 71 = .ok (.iconst 0, 1) := by decide +kernel
theorem dX5_init_72 : decode cX5_init 72 = .ok (.putfield 43, 3) := by decide +kernel
theorem dX5_init_75 : decode cX5_init 75 = .ok (.aload_n 0, 1) := by decide +kernel
theorem dX5_init_76 : decode cX5_init 76 = .ok (.iload_n 1, 1) := by decide +kernel
theorem dX5_init_77 : decode cX5_init 77 = .ok (.ifCond .eq 9, 3) := by decide +kernel
theorem dX5_init_80 : decode cX5_init 80 = .ok (.sipush 5184, 3) := by decide +kernel
theorem dX5_init_83 : decode cX5_init 83 = .ok (.goto 4, 3) := by decide +kernel
theorem dX5_init_86 : decode cX5_init 86 = .ok (.iconst 0, 1) := by decide +kernel
theorem dX5_init_87 : decode cX5_init 87 = .ok (.newarray .long, 2) := by decide +kernel
theorem dX5_init_89 : decode cX5_init 89 = .ok (.putfield 46, 3) := by decide +kernel
theorem dX5_init_92 : decode cX5_init 92 = .ok (.return_, 1) := by decide +kernel
theorem mi_X5_init : cx_Me yX5_init cX5_init 2 none 1 := ⟨⟨by decide +kernel, by decide +kernel, by decide +kernel⟩, hw_8, hw_147⟩
set_option maxHeartbeats 4000000 in
set_option maxRecDepth 100000 in
theorem c_X5_init_1 (l : Launch) (D : va_G) (k : Nat → ClassId) (h0 : Nat)   : cx_MI l yX5_init cX5_init 2 1 9 5482 D k [.ref h0, .int 1] [(h0, .inr (4, [.null, .null, .null, .null, .null, .null, .null, .null, .null, .int 0, .int 0]))] (fun sz => cx_QI D (fun (u : Nat → Nat) => u 0 = h0) [(h0, .inr (4, [.null, .null, .null, .null, .null, .null, .null, .null, .null, .int 0, .int 0]))] (fun u => (wd_Sums k u 5184 ((fun _ => 0)) ((fun _ => 0)) ((fun _ => 0)) ((fun _ => 0)) ((fun _ => 0)) ((fun _ => 0)) ((fun _ => 0)) ((fun _ => 0)) ((fun _ => 0)) 0 0)) sz) := by
  refine cx_metI (own := "NamelessBox$Sums") (by decide) rfl rfl (Nat.le_of_ble_eq_true rfl) ?_
  intro p e s m args below meth c A Q C hA hQ hr hlk hnm
  refine cx_lv (lv' := [(0, .ref h0), (1, .int 1)]) [0, 1] rfl ?_
  refine cx_aload_n C dX5_init_0 0 rfl ?_
  refine cx_objI C dX5_init_1 hw_148 hw_25 hw_26 (Nat.le_of_ble_eq_true rfl) (Nat.le_of_ble_eq_true rfl) ?_
  refine cx_aload_n C dX5_init_4 0 rfl ?_
  refine cx_iconst (v := 4) C dX5_init_5 (by decide) ?_
  refine cx_newa (ty := .long) (N := 4) (a0 := (4, .inr (.inl (fun _ => 0)))) C hA 1 rfl (Or.inr (Or.inl rfl)) dX5_init_6 rfl hw_140 (fun _ => rfl) (by decide +kernel) (by decide +kernel) (Nat.le_of_ble_eq_true rfl) (Nat.le_of_ble_eq_true rfl) (Nat.le_of_ble_eq_true rfl) (fun q1 => ?_)
  refine cx_wsE (ws' := ([(h0, .inr (4, [.null, .null, .null, .null, .null, .null, .null, .null, .null, .int 0, .int 0])), (q1, .inl (k 1, 4, .inr (.inl ((fun _ => 0)))))] : va_W)) rfl ?_
  refine cx_putF (v := .ref q1) (ty := .array .long) (ci := 4) (ws' := ([(h0, .inr (4, [.ref q1, .null, .null, .null, .null, .null, .null, .null, .null, .int 0, .int 0])), (q1, .inl (k 1, 4, .inr (.inl ((fun _ => 0)))))] : va_W)) C hnm iX5 tyX5 tyX5_ok nmX5 dX5_init_8 0 rfl rfl 0 (by decide) hw_149 rfl rfl (by decide +kernel) rfl rfl (Nat.le_of_ble_eq_true rfl) rfl ?_
  refine cx_aload_n C dX5_init_11 0 rfl ?_
  refine cx_sipush (v := 144) C dX5_init_12 (by decide) ?_
  refine cx_newa (ty := .long) (N := 144) (a0 := (144, .inr (.inl (fun _ => 0)))) C hA 1 rfl (Or.inr (Or.inl rfl)) dX5_init_15 rfl hw_140 (fun _ => rfl) (by decide +kernel) (by decide +kernel) (Nat.le_of_ble_eq_true rfl) (Nat.le_of_ble_eq_true rfl) (Nat.le_of_ble_eq_true rfl) (fun q2 => ?_)
  refine cx_wsE (ws' := ([(h0, .inr (4, [.ref q1, .null, .null, .null, .null, .null, .null, .null, .null, .int 0, .int 0])), (q1, .inl (k 1, 4, .inr (.inl ((fun _ => 0))))), (q2, .inl (k 1, 144, .inr (.inl ((fun _ => 0)))))] : va_W)) rfl ?_
  refine cx_putF (v := .ref q2) (ty := .array .long) (ci := 4) (ws' := ([(h0, .inr (4, [.ref q1, .ref q2, .null, .null, .null, .null, .null, .null, .null, .int 0, .int 0])), (q1, .inl (k 1, 4, .inr (.inl ((fun _ => 0))))), (q2, .inl (k 1, 144, .inr (.inl ((fun _ => 0)))))] : va_W)) C hnm iX5 tyX5 tyX5_ok nmX5 dX5_init_17 0 rfl rfl 1 (by decide) hw_152 rfl rfl (by decide +kernel) rfl rfl (Nat.le_of_ble_eq_true rfl) rfl ?_
  refine cx_aload_n C dX5_init_20 0 rfl ?_
  refine cx_sipush (v := 128) C dX5_init_21 (by decide) ?_
  refine cx_newa (ty := .long) (N := 128) (a0 := (128, .inr (.inl (fun _ => 0)))) C hA 1 rfl (Or.inr (Or.inl rfl)) dX5_init_24 rfl hw_140 (fun _ => rfl) (by decide +kernel) (by decide +kernel) (Nat.le_of_ble_eq_true rfl) (Nat.le_of_ble_eq_true rfl) (Nat.le_of_ble_eq_true rfl) (fun q3 => ?_)
  refine cx_wsE (ws' := ([(h0, .inr (4, [.ref q1, .ref q2, .null, .null, .null, .null, .null, .null, .null, .int 0, .int 0])), (q1, .inl (k 1, 4, .inr (.inl ((fun _ => 0))))), (q2, .inl (k 1, 144, .inr (.inl ((fun _ => 0))))), (q3, .inl (k 1, 128, .inr (.inl ((fun _ => 0)))))] : va_W)) rfl ?_
  refine cx_putF (v := .ref q3) (ty := .array .long) (ci := 4) (ws' := ([(h0, .inr (4, [.ref q1, .ref q2, .null, .ref q3, .null, .null, .null, .null, .null, .int 0, .int 0])), (q1, .inl (k 1, 4, .inr (.inl ((fun _ => 0))))), (q2, .inl (k 1, 144, .inr (.inl ((fun _ => 0))))), (q3, .inl (k 1, 128, .inr (.inl ((fun _ => 0)))))] : va_W)) C hnm iX5 tyX5 tyX5_ok nmX5 dX5_init_26 0 rfl rfl 3 (by decide) hw_156 rfl rfl (by decide +kernel) rfl rfl (Nat.le_of_ble_eq_true rfl) rfl ?_
  refine cx_aload_n C dX5_init_29 0 rfl ?_
  refine cx_bipush (v := 6) C dX5_init_30 (by decide) ?_
  refine cx_newa (ty := .int) (N := 6) (a0 := (6, .inl (fun _ => 0))) C hA 0 rfl (Or.inl rfl) dX5_init_32 rfl hw_59 (fun _ => rfl) (by decide +kernel) (by decide +kernel) (Nat.le_of_ble_eq_true rfl) (Nat.le_of_ble_eq_true rfl) (Nat.le_of_ble_eq_true rfl) (fun q4 => ?_)
  refine cx_wsE (ws' := ([(h0, .inr (4, [.ref q1, .ref q2, .null, .ref q3, .null, .null, .null, .null, .null, .int 0, .int 0])), (q1, .inl (k 1, 4, .inr (.inl ((fun _ => 0))))), (q2, .inl (k 1, 144, .inr (.inl ((fun _ => 0))))), (q3, .inl (k 1, 128, .inr (.inl ((fun _ => 0))))), (q4, .inl (k 0, 6, .inl ((fun _ => 0))))] : va_W)) rfl ?_
  refine cx_putF (v := .ref q4) (ty := .array .int) (ci := 4) (ws' := ([(h0, .inr (4, [.ref q1, .ref q2, .null, .ref q3, .ref q4, .null, .null, .null, .null, .int 0, .int 0])), (q1, .inl (k 1, 4, .inr (.inl ((fun _ => 0))))), (q2, .inl (k 1, 144, .inr (.inl ((fun _ => 0))))), (q3, .inl (k 1, 128, .inr (.inl ((fun _ => 0))))), (q4, .inl (k 0, 6, .inl ((fun _ => 0))))] : va_W)) C hnm iX5 tyX5 tyX5_ok nmX5 dX5_init_34 0 rfl rfl 4 (by decide) hw_157 rfl rfl (by decide +kernel) rfl rfl (Nat.le_of_ble_eq_true rfl) rfl ?_
  refine cx_aload_n C dX5_init_37 0 rfl ?_
  refine cx_iconst (v := 4) C dX5_init_38 (by decide) ?_
  refine cx_newa (ty := .long) (N := 4) (a0 := (4, .inr (.inl (fun _ => 0)))) C hA 1 rfl (Or.inr (Or.inl rfl)) dX5_init_39 rfl hw_140 (fun _ => rfl) (by decide +kernel) (by decide +kernel) (Nat.le_of_ble_eq_true rfl) (Nat.le_of_ble_eq_true rfl) (Nat.le_of_ble_eq_true rfl) (fun q5 => ?_)
  refine cx_wsE (ws' := ([(h0, .inr (4, [.ref q1, .ref q2, .null, .ref q3, .ref q4, .null, .null, .null, .null, .int 0, .int 0])), (q1, .inl (k 1, 4, .inr (.inl ((fun _ => 0))))), (q2, .inl (k 1, 144, .inr (.inl ((fun _ => 0))))), (q3, .inl (k 1, 128, .inr (.inl ((fun _ => 0))))), (q4, .inl (k 0, 6, .inl ((fun _ => 0)))), (q5, .inl (k 1, 4, .inr (.inl ((fun _ => 0)))))] : va_W)) rfl ?_
  refine cx_putF (v := .ref q5) (ty := .array .long) (ci := 4) (ws' := ([(h0, .inr (4, [.ref q1, .ref q2, .null, .ref q3, .ref q4, .ref q5, .null, .null, .null, .int 0, .int 0])), (q1, .inl (k 1, 4, .inr (.inl ((fun _ => 0))))), (q2, .inl (k 1, 144, .inr (.inl ((fun _ => 0))))), (q3, .inl (k 1, 128, .inr (.inl ((fun _ => 0))))), (q4, .inl (k 0, 6, .inl ((fun _ => 0)))), (q5, .inl (k 1, 4, .inr (.inl ((fun _ => 0)))))] : va_W)) C hnm iX5 tyX5 tyX5_ok nmX5 dX5_init_41 0 rfl rfl 5 (by decide) hw_159 rfl rfl (by decide +kernel) rfl rfl (Nat.le_of_ble_eq_true rfl) rfl ?_
  refine cx_aload_n C dX5_init_44 0 rfl ?_
  refine cx_iconst (v := 4) C dX5_init_45 (by decide) ?_
  refine cx_newa (ty := .long) (N := 4) (a0 := (4, .inr (.inl (fun _ => 0)))) C hA 1 rfl (Or.inr (Or.inl rfl)) dX5_init_46 rfl hw_140 (fun _ => rfl) (by decide +kernel) (by decide +kernel) (Nat.le_of_ble_eq_true rfl) (Nat.le_of_ble_eq_true rfl) (Nat.le_of_ble_eq_true rfl) (fun q6 => ?_)
  refine cx_wsE (ws' := ([(h0, .inr (4, [.ref q1, .ref q2, .null, .ref q3, .ref q4, .ref q5, .null, .null, .null, .int 0, .int 0])), (q1, .inl (k 1, 4, .inr (.inl ((fun _ => 0))))), (q2, .inl (k 1, 144, .inr (.inl ((fun _ => 0))))), (q3, .inl (k 1, 128, .inr (.inl ((fun _ => 0))))), (q4, .inl (k 0, 6, .inl ((fun _ => 0)))), (q5, .inl (k 1, 4, .inr (.inl ((fun _ => 0))))), (q6, .inl (k 1, 4, .inr (.inl ((fun _ => 0)))))] : va_W)) rfl ?_
  refine cx_putF (v := .ref q6) (ty := .array .long) (ci := 4) (ws' := ([(h0, .inr (4, [.ref q1, .ref q2, .null, .ref q3, .ref q4, .ref q5, .ref q6, .null, .null, .int 0, .int 0])), (q1, .inl (k 1, 4, .inr (.inl ((fun _ => 0))))), (q2, .inl (k 1, 144, .inr (.inl ((fun _ => 0))))), (q3, .inl (k 1, 128, .inr (.inl ((fun _ => 0))))), (q4, .inl (k 0, 6, .inl ((fun _ => 0)))), (q5, .inl (k 1, 4, .inr (.inl ((fun _ => 0))))), (q6, .inl (k 1, 4, .inr (.inl ((fun _ => 0)))))] : va_W)) C hnm iX5 tyX5 tyX5_ok nmX5 dX5_init_48 0 rfl rfl 6 (by decide) hw_160 rfl rfl (by decide +kernel) rfl rfl (Nat.le_of_ble_eq_true rfl) rfl ?_
  refine cx_aload_n C dX5_init_51 0 rfl ?_
  refine cx_iconst (v := 4) C dX5_init_52 (by decide) ?_
  refine cx_newa (ty := .long) (N := 4) (a0 := (4, .inr (.inl (fun _ => 0)))) C hA 1 rfl (Or.inr (Or.inl rfl)) dX5_init_53 rfl hw_140 (fun _ => rfl) (by decide +kernel) (by decide +kernel) (Nat.le_of_ble_eq_true rfl) (Nat.le_of_ble_eq_true rfl) (Nat.le_of_ble_eq_true rfl) (fun q7 => ?_)
  refine cx_wsE (ws' := ([(h0, .inr (4, [.ref q1, .ref q2, .null, .ref q3, .ref q4, .ref q5, .ref q6, .null, .null, .int 0, .int 0])), (q1, .inl (k 1, 4, .inr (.inl ((fun _ => 0))))), (q2, .inl (k 1, 144, .inr (.inl ((fun _ => 0))))), (q3, .inl (k 1, 128, .inr (.inl ((fun _ => 0))))), (q4, .inl (k 0, 6, .inl ((fun _ => 0)))), (q5, .inl (k 1, 4, .inr (.inl ((fun _ => 0))))), (q6, .inl (k 1, 4, .inr (.inl ((fun _ => 0))))), (q7, .inl (k 1, 4, .inr (.inl ((fun _ => 0)))))] : va_W)) rfl ?_
  refine cx_putF (v := .ref q7) (ty := .array .long) (ci := 4) (ws' := ([(h0, .inr (4, [.ref q1, .ref q2, .null, .ref q3, .ref q4, .ref q5, .ref q6, .ref q7, .null, .int 0, .int 0])), (q1, .inl (k 1, 4, .inr (.inl ((fun _ => 0))))), (q2, .inl (k 1, 144, .inr (.inl ((fun _ => 0))))), (q3, .inl (k 1, 128, .inr (.inl ((fun _ => 0))))), (q4, .inl (k 0, 6, .inl ((fun _ => 0)))), (q5, .inl (k 1, 4, .inr (.inl ((fun _ => 0))))), (q6, .inl (k 1, 4, .inr (.inl ((fun _ => 0))))), (q7, .inl (k 1, 4, .inr (.inl ((fun _ => 0)))))] : va_W)) C hnm iX5 tyX5 tyX5_ok nmX5 dX5_init_55 0 rfl rfl 7 (by decide) hw_163 rfl rfl (by decide +kernel) rfl rfl (Nat.le_of_ble_eq_true rfl) rfl ?_
  refine cx_aload_n C dX5_init_58 0 rfl ?_
  refine cx_iconst (v := 4) C dX5_init_59 (by decide) ?_
  refine cx_newa (ty := .long) (N := 4) (a0 := (4, .inr (.inl (fun _ => 0)))) C hA 1 rfl (Or.inr (Or.inl rfl)) dX5_init_60 rfl hw_140 (fun _ => rfl) (by decide +kernel) (by decide +kernel) (Nat.le_of_ble_eq_true rfl) (Nat.le_of_ble_eq_true rfl) (Nat.le_of_ble_eq_true rfl) (fun q8 => ?_)
  refine cx_wsE (ws' := ([(h0, .inr (4, [.ref q1, .ref q2, .null, .ref q3, .ref q4, .ref q5, .ref q6, .ref q7, .null, .int 0, .int 0])), (q1, .inl (k 1, 4, .inr (.inl ((fun _ => 0))))), (q2, .inl (k 1, 144, .inr (.inl ((fun _ => 0))))), (q3, .inl (k 1, 128, .inr (.inl ((fun _ => 0))))), (q4, .inl (k 0, 6, .inl ((fun _ => 0)))), (q5, .inl (k 1, 4, .inr (.inl ((fun _ => 0))))), (q6, .inl (k 1, 4, .inr (.inl ((fun _ => 0))))), (q7, .inl (k 1, 4, .inr (.inl ((fun _ => 0))))), (q8, .inl (k 1, 4, .inr (.inl ((fun _ => 0)))))] : va_W)) rfl ?_
  refine cx_putF (v := .ref q8) (ty := .array .long) (ci := 4) (ws' := ([(h0, .inr (4, [.ref q1, .ref q2, .null, .ref q3, .ref q4, .ref q5, .ref q6, .ref q7, .ref q8, .int 0, .int 0])), (q1, .inl (k 1, 4, .inr (.inl ((fun _ => 0))))), (q2, .inl (k 1, 144, .inr (.inl ((fun _ => 0))))), (q3, .inl (k 1, 128, .inr (.inl ((fun _ => 0))))), (q4, .inl (k 0, 6, .inl ((fun _ => 0)))), (q5, .inl (k 1, 4, .inr (.inl ((fun _ => 0))))), (q6, .inl (k 1, 4, .inr (.inl ((fun _ => 0))))), (q7, .inl (k 1, 4, .inr (.inl ((fun _ => 0))))), (q8, .inl (k 1, 4, .inr (.inl ((fun _ => 0)))))] : va_W)) C hnm iX5 tyX5 tyX5_ok nmX5 dX5_init_62 0 rfl rfl 8 (by decide) hw_164 rfl rfl (by decide +kernel) rfl rfl (Nat.le_of_ble_eq_true rfl) rfl ?_
  refine cx_aload_n C dX5_init_65 0 rfl ?_
  refine cx_iconst (v := 0) C dX5_init_66 (by decide) ?_
  refine cx_putf (v := .int 0) (ty := .int) (ci := 4) (ws' := ([(h0, .inr (4, [.ref q1, .ref q2, .null, .ref q3, .ref q4, .ref q5, .ref q6, .ref q7, .ref q8, .int 0, .int 0])), (q1, .inl (k 1, 4, .inr (.inl ((fun _ => 0))))), (q2, .inl (k 1, 144, .inr (.inl ((fun _ => 0))))), (q3, .inl (k 1, 128, .inr (.inl ((fun _ => 0))))), (q4, .inl (k 0, 6, .inl ((fun _ => 0)))), (q5, .inl (k 1, 4, .inr (.inl ((fun _ => 0))))), (q6, .inl (k 1, 4, .inr (.inl ((fun _ => 0))))), (q7, .inl (k 1, 4, .inr (.inl ((fun _ => 0))))), (q8, .inl (k 1, 4, .inr (.inl ((fun _ => 0)))))] : va_W)) C iX5 tyX5 tyX5_ok nmX5 dX5_init_67 0 rfl rfl 9 (by decide) hw_165 rfl (by decide +kernel) rfl rfl (Nat.le_of_ble_eq_true rfl) rfl ?_
  refine cx_aload_n C dX5_init_70 0 rfl ?_
  refine cx_iconst (v := 0) C dX5_init_71 (by decide) ?_
  refine cx_putf (v := .int 0) (ty := .int) (ci := 4) (ws' := ([(h0, .inr (4, [.ref q1, .ref q2, .null, .ref q3, .ref q4, .ref q5, .ref q6, .ref q7, .ref q8, .int 0, .int 0])), (q1, .inl (k 1, 4, .inr (.inl ((fun _ => 0))))), (q2, .inl (k 1, 144, .inr (.inl ((fun _ => 0))))), (q3, .inl (k 1, 128, .inr (.inl ((fun _ => 0))))), (q4, .inl (k 0, 6, .inl ((fun _ => 0)))), (q5, .inl (k 1, 4, .inr (.inl ((fun _ => 0))))), (q6, .inl (k 1, 4, .inr (.inl ((fun _ => 0))))), (q7, .inl (k 1, 4, .inr (.inl ((fun _ => 0))))), (q8, .inl (k 1, 4, .inr (.inl ((fun _ => 0)))))] : va_W)) C iX5 tyX5 tyX5_ok nmX5 dX5_init_72 0 rfl rfl 10 (by decide) hw_166 rfl (by decide +kernel) rfl rfl (Nat.le_of_ble_eq_true rfl) rfl ?_
  refine cx_aload_n C dX5_init_75 0 rfl ?_
  refine cx_iload_n C dX5_init_76 1 rfl ?_
  refine cx_if_eq (tgt := 86) C dX5_init_77 (by decide) (fun q => absurd q (by decide)) (fun _ => ?_)
  refine cx_sipush (v := 5184) C dX5_init_80 (by decide) ?_
  refine cx_goto (tgt := 87) C dX5_init_83 (by decide) ?_
  refine cx_newa (ty := .long) (N := 5184) (a0 := (5184, .inr (.inl (fun _ => 0)))) C hA 1 rfl (Or.inr (Or.inl rfl)) dX5_init_87 rfl hw_140 (fun _ => rfl) (by decide +kernel) (by decide +kernel) (Nat.le_of_ble_eq_true rfl) (Nat.le_of_ble_eq_true rfl) (Nat.le_of_ble_eq_true rfl) (fun q9 => ?_)
  refine cx_wsE (ws' := ([(h0, .inr (4, [.ref q1, .ref q2, .null, .ref q3, .ref q4, .ref q5, .ref q6, .ref q7, .ref q8, .int 0, .int 0])), (q1, .inl (k 1, 4, .inr (.inl ((fun _ => 0))))), (q2, .inl (k 1, 144, .inr (.inl ((fun _ => 0))))), (q3, .inl (k 1, 128, .inr (.inl ((fun _ => 0))))), (q4, .inl (k 0, 6, .inl ((fun _ => 0)))), (q5, .inl (k 1, 4, .inr (.inl ((fun _ => 0))))), (q6, .inl (k 1, 4, .inr (.inl ((fun _ => 0))))), (q7, .inl (k 1, 4, .inr (.inl ((fun _ => 0))))), (q8, .inl (k 1, 4, .inr (.inl ((fun _ => 0))))), (q9, .inl (k 1, 5184, .inr (.inl ((fun _ => 0)))))] : va_W)) rfl ?_
  refine cx_putF (v := .ref q9) (ty := .array .long) (ci := 4) (ws' := ([(h0, .inr (4, [.ref q1, .ref q2, .ref q9, .ref q3, .ref q4, .ref q5, .ref q6, .ref q7, .ref q8, .int 0, .int 0])), (q1, .inl (k 1, 4, .inr (.inl ((fun _ => 0))))), (q2, .inl (k 1, 144, .inr (.inl ((fun _ => 0))))), (q3, .inl (k 1, 128, .inr (.inl ((fun _ => 0))))), (q4, .inl (k 0, 6, .inl ((fun _ => 0)))), (q5, .inl (k 1, 4, .inr (.inl ((fun _ => 0))))), (q6, .inl (k 1, 4, .inr (.inl ((fun _ => 0))))), (q7, .inl (k 1, 4, .inr (.inl ((fun _ => 0))))), (q8, .inl (k 1, 4, .inr (.inl ((fun _ => 0))))), (q9, .inl (k 1, 5184, .inr (.inl ((fun _ => 0)))))] : va_W)) C hnm iX5 tyX5 tyX5_ok nmX5 dX5_init_89 0 rfl rfl 2 (by decide) hw_155 rfl rfl (by decide +kernel) rfl rfl (Nat.le_of_ble_eq_true rfl) rfl ?_
  refine cx_perm (ws' := (wd_Sums k (cx_li [h0, q1, q2, q9, q3, q4, q5, q6, q7, q8]) 5184 ((fun _ => 0)) ((fun _ => 0)) ((fun _ => 0)) ((fun _ => 0)) ((fun _ => 0)) ((fun _ => 0)) ((fun _ => 0)) ((fun _ => 0)) ((fun _ => 0)) 0 0)) [0, 1, 2, 9, 3, 4, 5, 6, 7, 8] (by decide +kernel) rfl ?_
  exact cx_vretI C (cx_li [h0, q1, q2, q9, q3, q4, q5, q6, q7, q8]) hA hQ hr hlk dX5_init_92 rfl rfl
set_option maxHeartbeats 4000000 in
set_option maxRecDepth 100000 in
theorem c_X5_init_0 (l : Launch) (D : va_G) (k : Nat → ClassId) (h0 : Nat)   : cx_MI l yX5_init cX5_init 2 1 9 298 D k [.ref h0, .int 0] [(h0, .inr (4, [.null, .null, .null, .null, .null, .null, .null, .null, .null, .int 0, .int 0]))] (fun sz => cx_QI D (fun (u : Nat → Nat) => u 0 = h0) [(h0, .inr (4, [.null, .null, .null, .null, .null, .null, .null, .null, .null, .int 0, .int 0]))] (fun u => (wd_Sums k u 0 ((fun _ => 0)) ((fun _ => 0)) ((fun _ => 0)) ((fun _ => 0)) ((fun _ => 0)) ((fun _ => 0)) ((fun _ => 0)) ((fun _ => 0)) ((fun _ => 0)) 0 0)) sz) := by
  refine cx_metI (own := "NamelessBox$Sums") (by decide) rfl rfl (Nat.le_of_ble_eq_true rfl) ?_
  intro p e s m args below meth c A Q C hA hQ hr hlk hnm
  refine cx_lv (lv' := [(0, .ref h0), (1, .int 0)]) [0, 1] rfl ?_
  refine cx_aload_n C dX5_init_0 0 rfl ?_
  refine cx_objI C dX5_init_1 hw_148 hw_25 hw_26 (Nat.le_of_ble_eq_true rfl) (Nat.le_of_ble_eq_true rfl) ?_
  refine cx_aload_n C dX5_init_4 0 rfl ?_
  refine cx_iconst (v := 4) C dX5_init_5 (by decide) ?_
  refine cx_newa (ty := .long) (N := 4) (a0 := (4, .inr (.inl (fun _ => 0)))) C hA 1 rfl (Or.inr (Or.inl rfl)) dX5_init_6 rfl hw_140 (fun _ => rfl) (by decide +kernel) (by decide +kernel) (Nat.le_of_ble_eq_true rfl) (Nat.le_of_ble_eq_true rfl) (Nat.le_of_ble_eq_true rfl) (fun q1 => ?_)
  refine cx_wsE (ws' := ([(h0, .inr (4, [.null, .null, .null, .null, .null, .null, .null, .null, .null, .int 0, .int 0])), (q1, .inl (k 1, 4, .inr (.inl ((fun _ => 0)))))] : va_W)) rfl ?_
  refine cx_putF (v := .ref q1) (ty := .array .long) (ci := 4) (ws' := ([(h0, .inr (4, [.ref q1, .null, .null, .null, .null, .null, .null, .null, .null, .int 0, .int 0])), (q1, .inl (k 1, 4, .inr (.inl ((fun _ => 0)))))] : va_W)) C hnm iX5 tyX5 tyX5_ok nmX5 dX5_init_8 0 rfl rfl 0 (by decide) hw_149 rfl rfl (by decide +kernel) rfl rfl (Nat.le_of_ble_eq_true rfl) rfl ?_
  refine cx_aload_n C dX5_init_11 0 rfl ?_
  refine cx_sipush (v := 144) C dX5_init_12 (by decide) ?_
  refine cx_newa (ty := .long) (N := 144) (a0 := (144, .inr (.inl (fun _ => 0)))) C hA 1 rfl (Or.inr (Or.inl rfl)) dX5_init_15 rfl hw_140 (fun _ => rfl) (by decide +kernel) (by decide +kernel) (Nat.le_of_ble_eq_true rfl) (Nat.le_of_ble_eq_true rfl) (Nat.le_of_ble_eq_true rfl) (fun q2 => ?_)
  refine cx_wsE (ws' := ([(h0, .inr (4, [.ref q1, .null, .null, .null, .null, .null, .null, .null, .null, .int 0, .int 0])), (q1, .inl (k 1, 4, .inr (.inl ((fun _ => 0))))), (q2, .inl (k 1, 144, .inr (.inl ((fun _ => 0)))))] : va_W)) rfl ?_
  refine cx_putF (v := .ref q2) (ty := .array .long) (ci := 4) (ws' := ([(h0, .inr (4, [.ref q1, .ref q2, .null, .null, .null, .null, .null, .null, .null, .int 0, .int 0])), (q1, .inl (k 1, 4, .inr (.inl ((fun _ => 0))))), (q2, .inl (k 1, 144, .inr (.inl ((fun _ => 0)))))] : va_W)) C hnm iX5 tyX5 tyX5_ok nmX5 dX5_init_17 0 rfl rfl 1 (by decide) hw_152 rfl rfl (by decide +kernel) rfl rfl (Nat.le_of_ble_eq_true rfl) rfl ?_
  refine cx_aload_n C dX5_init_20 0 rfl ?_
  refine cx_sipush (v := 128) C dX5_init_21 (by decide) ?_
  refine cx_newa (ty := .long) (N := 128) (a0 := (128, .inr (.inl (fun _ => 0)))) C hA 1 rfl (Or.inr (Or.inl rfl)) dX5_init_24 rfl hw_140 (fun _ => rfl) (by decide +kernel) (by decide +kernel) (Nat.le_of_ble_eq_true rfl) (Nat.le_of_ble_eq_true rfl) (Nat.le_of_ble_eq_true rfl) (fun q3 => ?_)
  refine cx_wsE (ws' := ([(h0, .inr (4, [.ref q1, .ref q2, .null, .null, .null, .null, .null, .null, .null, .int 0, .int 0])), (q1, .inl (k 1, 4, .inr (.inl ((fun _ => 0))))), (q2, .inl (k 1, 144, .inr (.inl ((fun _ => 0))))), (q3, .inl (k 1, 128, .inr (.inl ((fun _ => 0)))))] : va_W)) rfl ?_
  refine cx_putF (v := .ref q3) (ty := .array .long) (ci := 4) (ws' := ([(h0, .inr (4, [.ref q1, .ref q2, .null, .ref q3, .null, .null, .null, .null, .null, .int 0, .int 0])), (q1, .inl (k 1, 4, .inr (.inl ((fun _ => 0))))), (q2, .inl (k 1, 144, .inr (.inl ((fun _ => 0))))), (q3, .inl (k 1, 128, .inr (.inl ((fun _ => 0)))))] : va_W)) C hnm iX5 tyX5 tyX5_ok nmX5 dX5_init_26 0 rfl rfl 3 (by decide) hw_156 rfl rfl (by decide +kernel) rfl rfl (Nat.le_of_ble_eq_true rfl) rfl ?_
  refine cx_aload_n C dX5_init_29 0 rfl ?_
  refine cx_bipush (v := 6) C dX5_init_30 (by decide) ?_
  refine cx_newa (ty := .int) (N := 6) (a0 := (6, .inl (fun _ => 0))) C hA 0 rfl (Or.inl rfl) dX5_init_32 rfl hw_59 (fun _ => rfl) (by decide +kernel) (by decide +kernel) (Nat.le_of_ble_eq_true rfl) (Nat.le_of_ble_eq_true rfl) (Nat.le_of_ble_eq_true rfl) (fun q4 => ?_)
  refine cx_wsE (ws' := ([(h0, .inr (4, [.ref q1, .ref q2, .null, .ref q3, .null, .null, .null, .null, .null, .int 0, .int 0])), (q1, .inl (k 1, 4, .inr (.inl ((fun _ => 0))))), (q2, .inl (k 1, 144, .inr (.inl ((fun _ => 0))))), (q3, .inl (k 1, 128, .inr (.inl ((fun _ => 0))))), (q4, .inl (k 0, 6, .inl ((fun _ => 0))))] : va_W)) rfl ?_
  refine cx_putF (v := .ref q4) (ty := .array .int) (ci := 4) (ws' := ([(h0, .inr (4, [.ref q1, .ref q2, .null, .ref q3, .ref q4, .null, .null, .null, .null, .int 0, .int 0])), (q1, .inl (k 1, 4, .inr (.inl ((fun _ => 0))))), (q2, .inl (k 1, 144, .inr (.inl ((fun _ => 0))))), (q3, .inl (k 1, 128, .inr (.inl ((fun _ => 0))))), (q4, .inl (k 0, 6, .inl ((fun _ => 0))))] : va_W)) C hnm iX5 tyX5 tyX5_ok nmX5 dX5_init_34 0 rfl rfl 4 (by decide) hw_157 rfl rfl (by decide +kernel) rfl rfl (Nat.le_of_ble_eq_true rfl) rfl ?_
  refine cx_aload_n C dX5_init_37 0 rfl ?_
  refine cx_iconst (v := 4) C dX5_init_38 (by decide) ?_
  refine cx_newa (ty := .long) (N := 4) (a0 := (4, .inr (.inl (fun _ => 0)))) C hA 1 rfl (Or.inr (Or.inl rfl)) dX5_init_39 rfl hw_140 (fun _ => rfl) (by decide +kernel) (by decide +kernel) (Nat.le_of_ble_eq_true rfl) (Nat.le_of_ble_eq_true rfl) (Nat.le_of_ble_eq_true rfl) (fun q5 => ?_)
  refine cx_wsE (ws' := ([(h0, .inr (4, [.ref q1, .ref q2, .null, .ref q3, .ref q4, .null, .null, .null, .null, .int 0, .int 0])), (q1, .inl (k 1, 4, .inr (.inl ((fun _ => 0))))), (q2, .inl (k 1, 144, .inr (.inl ((fun _ => 0))))), (q3, .inl (k 1, 128, .inr (.inl ((fun _ => 0))))), (q4, .inl (k 0, 6, .inl ((fun _ => 0)))), (q5, .inl (k 1, 4, .inr (.inl ((fun _ => 0)))))] : va_W)) rfl ?_
  refine cx_putF (v := .ref q5) (ty := .array .long) (ci := 4) (ws' := ([(h0, .inr (4, [.ref q1, .ref q2, .null, .ref q3, .ref q4, .ref q5, .null, .null, .null, .int 0, .int 0])), (q1, .inl (k 1, 4, .inr (.inl ((fun _ => 0))))), (q2, .inl (k 1, 144, .inr (.inl ((fun _ => 0))))), (q3, .inl (k 1, 128, .inr (.inl ((fun _ => 0))))), (q4, .inl (k 0, 6, .inl ((fun _ => 0)))), (q5, .inl (k 1, 4, .inr (.inl ((fun _ => 0)))))] : va_W)) C hnm iX5 tyX5 tyX5_ok nmX5 dX5_init_41 0 rfl rfl 5 (by decide) hw_159 rfl rfl (by decide +kernel) rfl rfl (Nat.le_of_ble_eq_true rfl) rfl ?_
  refine cx_aload_n C dX5_init_44 0 rfl ?_
  refine cx_iconst (v := 4) C dX5_init_45 (by decide) ?_
  refine cx_newa (ty := .long) (N := 4) (a0 := (4, .inr (.inl (fun _ => 0)))) C hA 1 rfl (Or.inr (Or.inl rfl)) dX5_init_46 rfl hw_140 (fun _ => rfl) (by decide +kernel) (by decide +kernel) (Nat.le_of_ble_eq_true rfl) (Nat.le_of_ble_eq_true rfl) (Nat.le_of_ble_eq_true rfl) (fun q6 => ?_)
  refine cx_wsE (ws' := ([(h0, .inr (4, [.ref q1, .ref q2, .null, .ref q3, .ref q4, .ref q5, .null, .null, .null, .int 0, .int 0])), (q1, .inl (k 1, 4, .inr (.inl ((fun _ => 0))))), (q2, .inl (k 1, 144, .inr (.inl ((fun _ => 0))))), (q3, .inl (k 1, 128, .inr (.inl ((fun _ => 0))))), (q4, .inl (k 0, 6, .inl ((fun _ => 0)))), (q5, .inl (k 1, 4, .inr (.inl ((fun _ => 0))))), (q6, .inl (k 1, 4, .inr (.inl ((fun _ => 0)))))] : va_W)) rfl ?_
  refine cx_putF (v := .ref q6) (ty := .array .long) (ci := 4) (ws' := ([(h0, .inr (4, [.ref q1, .ref q2, .null, .ref q3, .ref q4, .ref q5, .ref q6, .null, .null, .int 0, .int 0])), (q1, .inl (k 1, 4, .inr (.inl ((fun _ => 0))))), (q2, .inl (k 1, 144, .inr (.inl ((fun _ => 0))))), (q3, .inl (k 1, 128, .inr (.inl ((fun _ => 0))))), (q4, .inl (k 0, 6, .inl ((fun _ => 0)))), (q5, .inl (k 1, 4, .inr (.inl ((fun _ => 0))))), (q6, .inl (k 1, 4, .inr (.inl ((fun _ => 0)))))] : va_W)) C hnm iX5 tyX5 tyX5_ok nmX5 dX5_init_48 0 rfl rfl 6 (by decide) hw_160 rfl rfl (by decide +kernel) rfl rfl (Nat.le_of_ble_eq_true rfl) rfl ?_
  refine cx_aload_n C dX5_init_51 0 rfl ?_
  refine cx_iconst (v := 4) C dX5_init_52 (by decide) ?_
  refine cx_newa (ty := .long) (N := 4) (a0 := (4, .inr (.inl (fun _ => 0)))) C hA 1 rfl (Or.inr (Or.inl rfl)) dX5_init_53 rfl hw_140 (fun _ => rfl) (by decide +kernel) (by decide +kernel) (Nat.le_of_ble_eq_true rfl) (Nat.le_of_ble_eq_true rfl) (Nat.le_of_ble_eq_true rfl) (fun q7 => ?_)
  refine cx_wsE (ws' := ([(h0, .inr (4, [.ref q1, .ref q2, .null, .ref q3, .ref q4, .ref q5, .ref q6, .null, .null, .int 0, .int 0])), (q1, .inl (k 1, 4, .inr (.inl ((fun _ => 0))))), (q2, .inl (k 1, 144, .inr (.inl ((fun _ => 0))))), (q3, .inl (k 1, 128, .inr (.inl ((fun _ => 0))))), (q4, .inl (k 0, 6, .inl ((fun _ => 0)))), (q5, .inl (k 1, 4, .inr (.inl ((fun _ => 0))))), (q6, .inl (k 1, 4, .inr (.inl ((fun _ => 0))))), (q7, .inl (k 1, 4, .inr (.inl ((fun _ => 0)))))] : va_W)) rfl ?_
  refine cx_putF (v := .ref q7) (ty := .array .long) (ci := 4) (ws' := ([(h0, .inr (4, [.ref q1, .ref q2, .null, .ref q3, .ref q4, .ref q5, .ref q6, .ref q7, .null, .int 0, .int 0])), (q1, .inl (k 1, 4, .inr (.inl ((fun _ => 0))))), (q2, .inl (k 1, 144, .inr (.inl ((fun _ => 0))))), (q3, .inl (k 1, 128, .inr (.inl ((fun _ => 0))))), (q4, .inl (k 0, 6, .inl ((fun _ => 0)))), (q5, .inl (k 1, 4, .inr (.inl ((fun _ => 0))))), (q6, .inl (k 1, 4, .inr (.inl ((fun _ => 0))))), (q7, .inl (k 1, 4, .inr (.inl ((fun _ => 0)))))] : va_W)) C hnm iX5 tyX5 tyX5_ok nmX5 dX5_init_55 0 rfl rfl 7 (by decide) hw_163 rfl rfl (by decide +kernel) rfl rfl (Nat.le_of_ble_eq_true rfl) rfl ?_
  refine cx_aload_n C dX5_init_58 0 rfl ?_
  refine cx_iconst (v := 4) C dX5_init_59 (by decide) ?_
  refine cx_newa (ty := .long) (N := 4) (a0 := (4, .inr (.inl (fun _ => 0)))) C hA 1 rfl (Or.inr (Or.inl rfl)) dX5_init_60 rfl hw_140 (fun _ => rfl) (by decide +kernel) (by decide +kernel) (Nat.le_of_ble_eq_true rfl) (Nat.le_of_ble_eq_true rfl) (Nat.le_of_ble_eq_true rfl) (fun q8 => ?_)
  refine cx_wsE (ws' := ([(h0, .inr (4, [.ref q1, .ref q2, .null, .ref q3, .ref q4, .ref q5, .ref q6, .ref q7, .null, .int 0, .int 0])), (q1, .inl (k 1, 4, .inr (.inl ((fun _ => 0))))), (q2, .inl (k 1, 144, .inr (.inl ((fun _ => 0))))), (q3, .inl (k 1, 128, .inr (.inl ((fun _ => 0))))), (q4, .inl (k 0, 6, .inl ((fun _ => 0)))), (q5, .inl (k 1, 4, .inr (.inl ((fun _ => 0))))), (q6, .inl (k 1, 4, .inr (.inl ((fun _ => 0))))), (q7, .inl (k 1, 4, .inr (.inl ((fun _ => 0))))), (q8, .inl (k 1, 4, .inr (.inl ((fun _ => 0)))))] : va_W)) rfl ?_
  refine cx_putF (v := .ref q8) (ty := .array .long) (ci := 4) (ws' := ([(h0, .inr (4, [.ref q1, .ref q2, .null, .ref q3, .ref q4, .ref q5, .ref q6, .ref q7, .ref q8, .int 0, .int 0])), (q1, .inl (k 1, 4, .inr (.inl ((fun _ => 0))))), (q2, .inl (k 1, 144, .inr (.inl ((fun _ => 0))))), (q3, .inl (k 1, 128, .inr (.inl ((fun _ => 0))))), (q4, .inl (k 0, 6, .inl ((fun _ => 0)))), (q5, .inl (k 1, 4, .inr (.inl ((fun _ => 0))))), (q6, .inl (k 1, 4, .inr (.inl ((fun _ => 0))))), (q7, .inl (k 1, 4, .inr (.inl ((fun _ => 0))))), (q8, .inl (k 1, 4, .inr (.inl ((fun _ => 0)))))] : va_W)) C hnm iX5 tyX5 tyX5_ok nmX5 dX5_init_62 0 rfl rfl 8 (by decide) hw_164 rfl rfl (by decide +kernel) rfl rfl (Nat.le_of_ble_eq_true rfl) rfl ?_
  refine cx_aload_n C dX5_init_65 0 rfl ?_
  refine cx_iconst (v := 0) C dX5_init_66 (by decide) ?_
  refine cx_putf (v := .int 0) (ty := .int) (ci := 4) (ws' := ([(h0, .inr (4, [.ref q1, .ref q2, .null, .ref q3, .ref q4, .ref q5, .ref q6, .ref q7, .ref q8, .int 0, .int 0])), (q1, .inl (k 1, 4, .inr (.inl ((fun _ => 0))))), (q2, .inl (k 1, 144, .inr (.inl ((fun _ => 0))))), (q3, .inl (k 1, 128, .inr (.inl ((fun _ => 0))))), (q4, .inl (k 0, 6, .inl ((fun _ => 0)))), (q5, .inl (k 1, 4, .inr (.inl ((fun _ => 0))))), (q6, .inl (k 1, 4, .inr (.inl ((fun _ => 0))))), (q7, .inl (k 1, 4, .inr (.inl ((fun _ => 0))))), (q8, .inl (k 1, 4, .inr (.inl ((fun _ => 0)))))] : va_W)) C iX5 tyX5 tyX5_ok nmX5 dX5_init_67 0 rfl rfl 9 (by decide) hw_165 rfl (by decide +kernel) rfl rfl (Nat.le_of_ble_eq_true rfl) rfl ?_
  refine cx_aload_n C dX5_init_70 0 rfl ?_
  refine cx_iconst (v := 0) C dX5_init_71 (by decide) ?_
  refine cx_putf (v := .int 0) (ty := .int) (ci := 4) (ws' := ([(h0, .inr (4, [.ref q1, .ref q2, .null, .ref q3, .ref q4, .ref q5, .ref q6, .ref q7, .ref q8, .int 0, .int 0])), (q1, .inl (k 1, 4, .inr (.inl ((fun _ => 0))))), (q2, .inl (k 1, 144, .inr (.inl ((fun _ => 0))))), (q3, .inl (k 1, 128, .inr (.inl ((fun _ => 0))))), (q4, .inl (k 0, 6, .inl ((fun _ => 0)))), (q5, .inl (k 1, 4, .inr (.inl ((fun _ => 0))))), (q6, .inl (k 1, 4, .inr (.inl ((fun _ => 0))))), (q7, .inl (k 1, 4, .inr (.inl ((fun _ => 0))))), (q8, .inl (k 1, 4, .inr (.inl ((fun _ => 0)))))] : va_W)) C iX5 tyX5 tyX5_ok nmX5 dX5_init_72 0 rfl rfl 10 (by decide) hw_166 rfl (by decide +kernel) rfl rfl (Nat.le_of_ble_eq_true rfl) rfl ?_
  refine cx_aload_n C dX5_init_75 0 rfl ?_
  refine cx_iload_n C dX5_init_76 1 rfl ?_
  refine cx_if_eq (tgt := 86) C dX5_init_77 (by decide) (fun _ => ?_) (fun q => absurd rfl q)
  refine cx_iconst (v := 0) C dX5_init_86 (by decide) ?_
  refine cx_newa (ty := .long) (N := 0) (a0 := (0, .inr (.inl (fun _ => 0)))) C hA 1 rfl (Or.inr (Or.inl rfl)) dX5_init_87 rfl hw_140 (fun _ => rfl) (by decide +kernel) (by decide +kernel) (Nat.le_of_ble_eq_true rfl) (Nat.le_of_ble_eq_true rfl) (Nat.le_of_ble_eq_true rfl) (fun q9 => ?_)
  refine cx_wsE (ws' := ([(h0, .inr (4, [.ref q1, .ref q2, .null, .ref q3, .ref q4, .ref q5, .ref q6, .ref q7, .ref q8, .int 0, .int 0])), (q1, .inl (k 1, 4, .inr (.inl ((fun _ => 0))))), (q2, .inl (k 1, 144, .inr (.inl ((fun _ => 0))))), (q3, .inl (k 1, 128, .inr (.inl ((fun _ => 0))))), (q4, .inl (k 0, 6, .inl ((fun _ => 0)))), (q5, .inl (k 1, 4, .inr (.inl ((fun _ => 0))))), (q6, .inl (k 1, 4, .inr (.inl ((fun _ => 0))))), (q7, .inl (k 1, 4, .inr (.inl ((fun _ => 0))))), (q8, .inl (k 1, 4, .inr (.inl ((fun _ => 0))))), (q9, .inl (k 1, 0, .inr (.inl ((fun _ => 0)))))] : va_W)) rfl ?_
  refine cx_putF (v := .ref q9) (ty := .array .long) (ci := 4) (ws' := ([(h0, .inr (4, [.ref q1, .ref q2, .ref q9, .ref q3, .ref q4, .ref q5, .ref q6, .ref q7, .ref q8, .int 0, .int 0])), (q1, .inl (k 1, 4, .inr (.inl ((fun _ => 0))))), (q2, .inl (k 1, 144, .inr (.inl ((fun _ => 0))))), (q3, .inl (k 1, 128, .inr (.inl ((fun _ => 0))))), (q4, .inl (k 0, 6, .inl ((fun _ => 0)))), (q5, .inl (k 1, 4, .inr (.inl ((fun _ => 0))))), (q6, .inl (k 1, 4, .inr (.inl ((fun _ => 0))))), (q7, .inl (k 1, 4, .inr (.inl ((fun _ => 0))))), (q8, .inl (k 1, 4, .inr (.inl ((fun _ => 0))))), (q9, .inl (k 1, 0, .inr (.inl ((fun _ => 0)))))] : va_W)) C hnm iX5 tyX5 tyX5_ok nmX5 dX5_init_89 0 rfl rfl 2 (by decide) hw_155 rfl rfl (by decide +kernel) rfl rfl (Nat.le_of_ble_eq_true rfl) rfl ?_
  refine cx_perm (ws' := (wd_Sums k (cx_li [h0, q1, q2, q9, q3, q4, q5, q6, q7, q8]) 0 ((fun _ => 0)) ((fun _ => 0)) ((fun _ => 0)) ((fun _ => 0)) ((fun _ => 0)) ((fun _ => 0)) ((fun _ => 0)) ((fun _ => 0)) ((fun _ => 0)) 0 0)) [0, 1, 2, 9, 3, 4, 5, 6, 7, 8] (by decide +kernel) rfl ?_
  exact cx_vretI C (cx_li [h0, q1, q2, q9, q3, q4, q5, q6, q7, q8]) hA hQ hr hlk dX5_init_92 rfl rfl
theorem dX7_init_0 : decode cX7_init 0 = .ok (.aload_n 0, 1) := by decide +kernel
theorem dX7_init_1 : decode cX7_init 1 = .ok (.invokespecial 3, 3) := by decide +kernel
theorem dX7_init_4 : decode cX7_init 4 = .ok (.aload_n 0, 1) := by decide +kernel
theorem dX7_init_5 : decode cX7_init 5 = .ok (.iconst 0, 1) := by decide +kernel
theorem dX7_init_6 : decode cX7_init 6 = .ok (.putfield 9, 3) := by decide +kernel
theorem dX7_init_9 : decode cX7_init 9 = .ok (.aload_n 0, 1) := by decide +kernel
theorem dX7_init_10 : decode cX7_init 10 = .ok (.iconst (-1), 1) := by decide +kernel
theorem dX7_init_11 : decode cX7_init 11 = .ok (.putfield 15, 3) := by decide +kernel
theorem dX7_init_14 : decode cX7_init 14 = .ok (.aload_n 0, 1) := by decide +kernel
theorem dX7_init_15 : decode cX7_init 15 = .ok (.iconst (-1), 1) := by decide +kernel
theorem dX7_init_16 : decode cX7_init 16 = .ok (.putfield 18, 3) := by decide +kernel
theorem dX7_init_19 : decode cX7_init 19 = .ok (.aload_n 0, 1) := by decide +kernel
theorem dX7_init_20 : decode cX7_init 20 = .ok (.iconst (-1), 1) := by decide +kernel
theorem dX7_init_21 : decode cX7_init 21 = .ok (.putfield 21, 3) := by decide +kernel
theorem dX7_init_24 : decode cX7_init 24 = .ok (.aload_n 0, 1) := by decide +kernel
theorem dX7_init_25 : decode cX7_init 25 = .ok (.iconst 0, 1) := by decide +kernel
theorem dX7_init_26 : decode cX7_init 26 = .ok (.putfield 24, 3) := by decide +kernel
theorem dX7_init_29 : decode cX7_init 29 = .ok (.aload_n 0, 1) := by decide +kernel
theorem dX7_init_30 : decode cX7_init 30 = .ok (.iconst 4, 1) := by decide +kernel
theorem dX7_init_31 : decode cX7_init 31 = .ok (.newarray .int, 2) := by decide +kernel
theorem dX7_init_33 : decode cX7_init 33 = .ok (.putfield 28, 3) := by decide +kernel
theorem dX7_init_36 : decode cX7_init 36 = .ok (.aload_n 0, 1) := by decide +kernel
theorem dX7_init_37 : decode cX7_init 37 = .ok (.iconst 4, 1) := by decide +kernel
theorem dX7_init_38 : decode cX7_init 38 = .ok (.newarray .int, 2) := by decide +kernel
theorem dX7_init_40 : decode cX7_init 40 = .ok (.putfield 32, 3) := by decide +kernel
theorem dX7_init_43 : decode cX7_init 43 = .ok (.aload_n 0, 1) := by decide +kernel
theorem dX7_init_44 : decode cX7_init 44 = .ok (.bipush 6, 2) := by decide +kernel
theorem dX7_init_46 : decode cX7_init 46 = .ok (.newarray .int, 2) := by decide +kernel
theorem dX7_init_48 : decode cX7_init 48 = .ok (.putfield 35, 3) := by decide +kernel
theorem dX7_init_51 : decode cX7_init 51 = .ok (.aload_n 0, 1) := by decide +kernel
theorem dX7_init_52 : decode cX7_init 52 = .ok (.bipush 6, 2) := by decide +kernel
theorem dX7_init_54 : decode cX7_init 54 = .ok (.newarray .int, 2) := by decide +kernel
theorem dX7_init_56 : decode cX7_init 56 = .ok (.putfield 38, 3) := by decide +kernel
theorem dX7_init_59 : decode cX7_init 59 = .ok (.aload_n 0, 1) := by decide +kernel
theorem dX7_init_60 : decode cX7_init 60 = .ok (.iconst 4, 1) := by decide +kernel
theorem dX7_init_61 : decode cX7_init 61 = .ok (.newarray .int, 2) := by decide +kernel
theorem dX7_init_63 : decode cX7_init 63 = .ok (.putfield 41, 3) := by decide +kernel
theorem dX7_init_66 : decode cX7_init 66 = .ok (.aload_n 0, 1) := by decide +kernel
theorem dX7_init_67 : decode cX7_init 67 = .ok (.sipush 432, 3) := by decide +kernel
theorem dX7_init_70 : decode cX7_init 70 = .ok (.newarray .int, 2) := by decide +kernel
theorem dX7_init_72 : decode cX7_init 72 = .ok (.putfield 44, 3) := by decide +kernel
theorem dX7_init_75 : decode cX7_init 75 = .ok (.aload_n 0, 1) := by decide +kernel
theorem dX7_init_76 : decode cX7_init 76 = .ok (.bipush 36, 2) := by decide +kernel
theorem dX7_init_78 : decode cX7_init 78 = .ok (.newarray .int, 2) := by decide +kernel
theorem dX7_init_80 : decode cX7_init 80 = .ok (.putfield 47, 3) := by decide +kernel
theorem dX7_init_83 : decode cX7_init 83 = .ok (.aload_n 0, 1) := by decide +kernel
theorem dX7_init_84 : decode cX7_init 84 = .ok (.bipush 36, 2) := by decide +kernel
theorem dX7_init_86 : decode cX7_init 86 = .ok (.newarray .int, 2) := by decide +kernel
theorem dX7_init_88 : decode cX7_init 88 = .ok (.putfield 50, 3) := by decide +kernel
theorem dX7_init_91 : decode cX7_init 91 = .ok (.aload_n 0, 1) := by decide +kernel
theorem dX7_init_92 : decode cX7_init 92 = .ok (.bipush 84, 2) := by decide +kernel
theorem dX7_init_94 : decode cX7_init 94 = .ok (.newarray .long, 2) := by decide +kernel
theorem dX7_init_96 : decode cX7_init 96 = .ok (.putfield 53, 3) := by decide +kernel
theorem dX7_init_99 : decode cX7_init 99 = .ok (.aload_n 0, 1) := by decide +kernel
theorem dX7_init_100 : decode cX7_init 100 = .ok (.bipush 28, 2) := by decide +kernel
theorem dX7_init_102 : decode cX7_init 102 = .ok (.newarray .long, 2) := by decide +kernel
theorem dX7_init_104 : decode cX7_init 104 = .ok (.putfield 59, 3) := by decide +kernel
theorem dX7_init_107 : decode cX7_init 107 = .ok (.aload_n 0, 1) := by decide +kernel
theorem dX7_init_108 : decode cX7_init 108 = .ok (.bipush 28, 2) := by decide +kernel
theorem dX7_init_110 : decode cX7_init 110 = .ok (.newarray .long, 2) := by decide +kernel
theorem dX7_init_112 : decode cX7_init 112 = .ok (.putfield 62, 3) := by decide +kernel
theorem dX7_init_115 : decode cX7_init 115 = .ok (.aload_n 0, 1) := by decide +kernel
theorem dX7_init_116 : decode cX7_init 116 = .ok (.bipush 6, 2) := by decide +kernel
theorem dX7_init_118 : decode cX7_init 118 = .ok (.newarray .int, 2) := by decide +kernel
theorem dX7_init_120 : decode cX7_init 120 = .ok (.putfield 65, 3) := by decide +kernel
theorem dX7_init_123 : decode cX7_init 123 = .ok (.aload_n 0, 1) := by decide +kernel
theorem dX7_init_124 : decode cX7_init 124 = .ok (.aload_n 1, 1) := by decide +kernel
theorem dX7_init_125 : decode cX7_init 125 = .ok (.putfield 68, 3) := by decide +kernel
theorem dX7_init_128 : decode cX7_init 128 = .ok (.aload_n 0, 1) := by decide +kernel
theorem dX7_init_129 : decode cX7_init 129 = .ok (.aload_n 2, 1) := by decide +kernel
theorem dX7_init_130 : decode cX7_init 130 = .ok (.putfield 72, 3) := by decide +kernel
theorem dX7_init_133 : decode cX7_init 133 = .ok (.aload_n 0, 1) := by decide +kernel
theorem dX7_init_134 : decode cX7_init 134 = .ok (.getfield 53, 3) := by decide +kernel
theorem dX7_init_137 : decode cX7_init 137 = .ok (.lconst 1, 1) := by decide +kernel
theorem dX7_init_138 : decode cX7_init 138 = .ok (.invokestatic 76, 3) := by decide +kernel
theorem dX7_init_141 : decode cX7_init 141 = .ok (.return_, 1) := by decide +kernel
theorem mi_X7_init : cx_Me yX7_init cX7_init 3 none 2 := ⟨⟨by decide +kernel, by decide +kernel, by decide +kernel⟩, hw_7, hw_192⟩
set_option maxHeartbeats 4000000 in
set_option maxRecDepth 100000 in
theorem c_X7_init (l : Launch) (D : va_G) (k : Nat → ClassId) (h0 : Nat) (ab : Nat → Nat) (as_ : Nat → Nat) (yf : Nat → Int64) (hyf : f_J7_fill_d0a16 84 (fun _ => 0) 1 = some yf) : cx_MI l yX7_init cX7_init 3 2 12 674 D k [.ref h0, .ref (ab 0), .ref (as_ 0)] [(h0, .inr (6, [.null, .null, .int 0, .int 0, .int 0, .int 0, .int 0, .null, .null, .null, .null, .null, .null, .null, .null, .null, .null, .null, .null]))] (fun sz => cx_QI D (fun (u : Nat → Nat) => u 0 = h0) [(h0, .inr (6, [.null, .null, .int 0, .int 0, .int 0, .int 0, .int 0, .null, .null, .null, .null, .null, .null, .null, .null, .null, .null, .null, .null]))] (fun u => (wd_Ways k u ab as_ 0 ((-1)) ((-1)) ((-1)) 0 ((fun _ => 0)) ((fun _ => 0)) ((fun _ => 0)) ((fun _ => 0)) ((fun _ => 0)) ((fun _ => 0)) ((fun _ => 0)) ((fun _ => 0)) yf ((fun _ => 0)) ((fun _ => 0)) ((fun _ => 0)))) sz) := by
  refine cx_metI (own := "NamelessBox$Ways") (by decide) rfl rfl (Nat.le_of_ble_eq_true rfl) ?_
  intro p e s m args below meth c A Q C hA hQ hr hlk hnm
  refine cx_lv (lv' := [(0, .ref h0), (1, .ref (ab 0)), (2, .ref (as_ 0))]) [0, 1, 2] rfl ?_
  refine cx_aload_n C dX7_init_0 0 rfl ?_
  refine cx_objI C dX7_init_1 hw_193 hw_25 hw_26 (Nat.le_of_ble_eq_true rfl) (Nat.le_of_ble_eq_true rfl) ?_
  refine cx_aload_n C dX7_init_4 0 rfl ?_
  refine cx_iconst (v := 0) C dX7_init_5 (by decide) ?_
  refine cx_putf (v := .int 0) (ty := .int) (ci := 6) (ws' := ([(h0, .inr (6, [.null, .null, .int 0, .int 0, .int 0, .int 0, .int 0, .null, .null, .null, .null, .null, .null, .null, .null, .null, .null, .null, .null]))] : va_W)) C iX7 tyX7 tyX7_ok nmX7 dX7_init_6 0 rfl rfl 2 (by decide) hw_200 rfl (by decide +kernel) rfl rfl (Nat.le_of_ble_eq_true rfl) rfl ?_
  refine cx_aload_n C dX7_init_9 0 rfl ?_
  refine cx_iconst (v := (-1)) C dX7_init_10 (by decide) ?_
  refine cx_putf (v := .int ((-1))) (ty := .int) (ci := 6) (ws' := ([(h0, .inr (6, [.null, .null, .int 0, .int ((-1)), .int 0, .int 0, .int 0, .null, .null, .null, .null, .null, .null, .null, .null, .null, .null, .null, .null]))] : va_W)) C iX7 tyX7 tyX7_ok nmX7 dX7_init_11 0 rfl rfl 3 (by decide) hw_201 rfl (by decide +kernel) rfl rfl (Nat.le_of_ble_eq_true rfl) rfl ?_
  refine cx_aload_n C dX7_init_14 0 rfl ?_
  refine cx_iconst (v := (-1)) C dX7_init_15 (by decide) ?_
  refine cx_putf (v := .int ((-1))) (ty := .int) (ci := 6) (ws' := ([(h0, .inr (6, [.null, .null, .int 0, .int ((-1)), .int ((-1)), .int 0, .int 0, .null, .null, .null, .null, .null, .null, .null, .null, .null, .null, .null, .null]))] : va_W)) C iX7 tyX7 tyX7_ok nmX7 dX7_init_16 0 rfl rfl 4 (by decide) hw_202 rfl (by decide +kernel) rfl rfl (Nat.le_of_ble_eq_true rfl) rfl ?_
  refine cx_aload_n C dX7_init_19 0 rfl ?_
  refine cx_iconst (v := (-1)) C dX7_init_20 (by decide) ?_
  refine cx_putf (v := .int ((-1))) (ty := .int) (ci := 6) (ws' := ([(h0, .inr (6, [.null, .null, .int 0, .int ((-1)), .int ((-1)), .int ((-1)), .int 0, .null, .null, .null, .null, .null, .null, .null, .null, .null, .null, .null, .null]))] : va_W)) C iX7 tyX7 tyX7_ok nmX7 dX7_init_21 0 rfl rfl 5 (by decide) hw_203 rfl (by decide +kernel) rfl rfl (Nat.le_of_ble_eq_true rfl) rfl ?_
  refine cx_aload_n C dX7_init_24 0 rfl ?_
  refine cx_iconst (v := 0) C dX7_init_25 (by decide) ?_
  refine cx_putf (v := .int 0) (ty := .boolean) (ci := 6) (ws' := ([(h0, .inr (6, [.null, .null, .int 0, .int ((-1)), .int ((-1)), .int ((-1)), .int 0, .null, .null, .null, .null, .null, .null, .null, .null, .null, .null, .null, .null]))] : va_W)) C iX7 tyX7 tyX7_ok nmX7 dX7_init_26 0 rfl rfl 6 (by decide) hw_204 rfl (by decide +kernel) rfl rfl (Nat.le_of_ble_eq_true rfl) rfl ?_
  refine cx_aload_n C dX7_init_29 0 rfl ?_
  refine cx_iconst (v := 4) C dX7_init_30 (by decide) ?_
  refine cx_newa (ty := .int) (N := 4) (a0 := (4, .inl (fun _ => 0))) C hA 0 rfl (Or.inl rfl) dX7_init_31 rfl hw_59 (fun _ => rfl) (by decide +kernel) (by decide +kernel) (Nat.le_of_ble_eq_true rfl) (Nat.le_of_ble_eq_true rfl) (Nat.le_of_ble_eq_true rfl) (fun q1 => ?_)
  refine cx_wsE (ws' := ([(h0, .inr (6, [.null, .null, .int 0, .int ((-1)), .int ((-1)), .int ((-1)), .int 0, .null, .null, .null, .null, .null, .null, .null, .null, .null, .null, .null, .null])), (q1, .inl (k 0, 4, .inl ((fun _ => 0))))] : va_W)) rfl ?_
  refine cx_putF (v := .ref q1) (ty := .array .int) (ci := 6) (ws' := ([(h0, .inr (6, [.null, .null, .int 0, .int ((-1)), .int ((-1)), .int ((-1)), .int 0, .ref q1, .null, .null, .null, .null, .null, .null, .null, .null, .null, .null, .null])), (q1, .inl (k 0, 4, .inl ((fun _ => 0))))] : va_W)) C hnm iX7 tyX7 tyX7_ok nmX7 dX7_init_33 0 rfl rfl 7 (by decide) hw_205 rfl rfl (by decide +kernel) rfl rfl (Nat.le_of_ble_eq_true rfl) rfl ?_
  refine cx_aload_n C dX7_init_36 0 rfl ?_
  refine cx_iconst (v := 4) C dX7_init_37 (by decide) ?_
  refine cx_newa (ty := .int) (N := 4) (a0 := (4, .inl (fun _ => 0))) C hA 0 rfl (Or.inl rfl) dX7_init_38 rfl hw_59 (fun _ => rfl) (by decide +kernel) (by decide +kernel) (Nat.le_of_ble_eq_true rfl) (Nat.le_of_ble_eq_true rfl) (Nat.le_of_ble_eq_true rfl) (fun q2 => ?_)
  refine cx_wsE (ws' := ([(h0, .inr (6, [.null, .null, .int 0, .int ((-1)), .int ((-1)), .int ((-1)), .int 0, .ref q1, .null, .null, .null, .null, .null, .null, .null, .null, .null, .null, .null])), (q1, .inl (k 0, 4, .inl ((fun _ => 0)))), (q2, .inl (k 0, 4, .inl ((fun _ => 0))))] : va_W)) rfl ?_
  refine cx_putF (v := .ref q2) (ty := .array .int) (ci := 6) (ws' := ([(h0, .inr (6, [.null, .null, .int 0, .int ((-1)), .int ((-1)), .int ((-1)), .int 0, .ref q1, .ref q2, .null, .null, .null, .null, .null, .null, .null, .null, .null, .null])), (q1, .inl (k 0, 4, .inl ((fun _ => 0)))), (q2, .inl (k 0, 4, .inl ((fun _ => 0))))] : va_W)) C hnm iX7 tyX7 tyX7_ok nmX7 dX7_init_40 0 rfl rfl 8 (by decide) hw_206 rfl rfl (by decide +kernel) rfl rfl (Nat.le_of_ble_eq_true rfl) rfl ?_
  refine cx_aload_n C dX7_init_43 0 rfl ?_
  refine cx_bipush (v := 6) C dX7_init_44 (by decide) ?_
  refine cx_newa (ty := .int) (N := 6) (a0 := (6, .inl (fun _ => 0))) C hA 0 rfl (Or.inl rfl) dX7_init_46 rfl hw_59 (fun _ => rfl) (by decide +kernel) (by decide +kernel) (Nat.le_of_ble_eq_true rfl) (Nat.le_of_ble_eq_true rfl) (Nat.le_of_ble_eq_true rfl) (fun q3 => ?_)
  refine cx_wsE (ws' := ([(h0, .inr (6, [.null, .null, .int 0, .int ((-1)), .int ((-1)), .int ((-1)), .int 0, .ref q1, .ref q2, .null, .null, .null, .null, .null, .null, .null, .null, .null, .null])), (q1, .inl (k 0, 4, .inl ((fun _ => 0)))), (q2, .inl (k 0, 4, .inl ((fun _ => 0)))), (q3, .inl (k 0, 6, .inl ((fun _ => 0))))] : va_W)) rfl ?_
  refine cx_putF (v := .ref q3) (ty := .array .int) (ci := 6) (ws' := ([(h0, .inr (6, [.null, .null, .int 0, .int ((-1)), .int ((-1)), .int ((-1)), .int 0, .ref q1, .ref q2, .ref q3, .null, .null, .null, .null, .null, .null, .null, .null, .null])), (q1, .inl (k 0, 4, .inl ((fun _ => 0)))), (q2, .inl (k 0, 4, .inl ((fun _ => 0)))), (q3, .inl (k 0, 6, .inl ((fun _ => 0))))] : va_W)) C hnm iX7 tyX7 tyX7_ok nmX7 dX7_init_48 0 rfl rfl 9 (by decide) hw_207 rfl rfl (by decide +kernel) rfl rfl (Nat.le_of_ble_eq_true rfl) rfl ?_
  refine cx_aload_n C dX7_init_51 0 rfl ?_
  refine cx_bipush (v := 6) C dX7_init_52 (by decide) ?_
  refine cx_newa (ty := .int) (N := 6) (a0 := (6, .inl (fun _ => 0))) C hA 0 rfl (Or.inl rfl) dX7_init_54 rfl hw_59 (fun _ => rfl) (by decide +kernel) (by decide +kernel) (Nat.le_of_ble_eq_true rfl) (Nat.le_of_ble_eq_true rfl) (Nat.le_of_ble_eq_true rfl) (fun q4 => ?_)
  refine cx_wsE (ws' := ([(h0, .inr (6, [.null, .null, .int 0, .int ((-1)), .int ((-1)), .int ((-1)), .int 0, .ref q1, .ref q2, .ref q3, .null, .null, .null, .null, .null, .null, .null, .null, .null])), (q1, .inl (k 0, 4, .inl ((fun _ => 0)))), (q2, .inl (k 0, 4, .inl ((fun _ => 0)))), (q3, .inl (k 0, 6, .inl ((fun _ => 0)))), (q4, .inl (k 0, 6, .inl ((fun _ => 0))))] : va_W)) rfl ?_
  refine cx_putF (v := .ref q4) (ty := .array .int) (ci := 6) (ws' := ([(h0, .inr (6, [.null, .null, .int 0, .int ((-1)), .int ((-1)), .int ((-1)), .int 0, .ref q1, .ref q2, .ref q3, .ref q4, .null, .null, .null, .null, .null, .null, .null, .null])), (q1, .inl (k 0, 4, .inl ((fun _ => 0)))), (q2, .inl (k 0, 4, .inl ((fun _ => 0)))), (q3, .inl (k 0, 6, .inl ((fun _ => 0)))), (q4, .inl (k 0, 6, .inl ((fun _ => 0))))] : va_W)) C hnm iX7 tyX7 tyX7_ok nmX7 dX7_init_56 0 rfl rfl 10 (by decide) hw_208 rfl rfl (by decide +kernel) rfl rfl (Nat.le_of_ble_eq_true rfl) rfl ?_
  refine cx_aload_n C dX7_init_59 0 rfl ?_
  refine cx_iconst (v := 4) C dX7_init_60 (by decide) ?_
  refine cx_newa (ty := .int) (N := 4) (a0 := (4, .inl (fun _ => 0))) C hA 0 rfl (Or.inl rfl) dX7_init_61 rfl hw_59 (fun _ => rfl) (by decide +kernel) (by decide +kernel) (Nat.le_of_ble_eq_true rfl) (Nat.le_of_ble_eq_true rfl) (Nat.le_of_ble_eq_true rfl) (fun q5 => ?_)
  refine cx_wsE (ws' := ([(h0, .inr (6, [.null, .null, .int 0, .int ((-1)), .int ((-1)), .int ((-1)), .int 0, .ref q1, .ref q2, .ref q3, .ref q4, .null, .null, .null, .null, .null, .null, .null, .null])), (q1, .inl (k 0, 4, .inl ((fun _ => 0)))), (q2, .inl (k 0, 4, .inl ((fun _ => 0)))), (q3, .inl (k 0, 6, .inl ((fun _ => 0)))), (q4, .inl (k 0, 6, .inl ((fun _ => 0)))), (q5, .inl (k 0, 4, .inl ((fun _ => 0))))] : va_W)) rfl ?_
  refine cx_putF (v := .ref q5) (ty := .array .int) (ci := 6) (ws' := ([(h0, .inr (6, [.null, .null, .int 0, .int ((-1)), .int ((-1)), .int ((-1)), .int 0, .ref q1, .ref q2, .ref q3, .ref q4, .ref q5, .null, .null, .null, .null, .null, .null, .null])), (q1, .inl (k 0, 4, .inl ((fun _ => 0)))), (q2, .inl (k 0, 4, .inl ((fun _ => 0)))), (q3, .inl (k 0, 6, .inl ((fun _ => 0)))), (q4, .inl (k 0, 6, .inl ((fun _ => 0)))), (q5, .inl (k 0, 4, .inl ((fun _ => 0))))] : va_W)) C hnm iX7 tyX7 tyX7_ok nmX7 dX7_init_63 0 rfl rfl 11 (by decide) hw_209 rfl rfl (by decide +kernel) rfl rfl (Nat.le_of_ble_eq_true rfl) rfl ?_
  refine cx_aload_n C dX7_init_66 0 rfl ?_
  refine cx_sipush (v := 432) C dX7_init_67 (by decide) ?_
  refine cx_newa (ty := .int) (N := 432) (a0 := (432, .inl (fun _ => 0))) C hA 0 rfl (Or.inl rfl) dX7_init_70 rfl hw_59 (fun _ => rfl) (by decide +kernel) (by decide +kernel) (Nat.le_of_ble_eq_true rfl) (Nat.le_of_ble_eq_true rfl) (Nat.le_of_ble_eq_true rfl) (fun q6 => ?_)
  refine cx_wsE (ws' := ([(h0, .inr (6, [.null, .null, .int 0, .int ((-1)), .int ((-1)), .int ((-1)), .int 0, .ref q1, .ref q2, .ref q3, .ref q4, .ref q5, .null, .null, .null, .null, .null, .null, .null])), (q1, .inl (k 0, 4, .inl ((fun _ => 0)))), (q2, .inl (k 0, 4, .inl ((fun _ => 0)))), (q3, .inl (k 0, 6, .inl ((fun _ => 0)))), (q4, .inl (k 0, 6, .inl ((fun _ => 0)))), (q5, .inl (k 0, 4, .inl ((fun _ => 0)))), (q6, .inl (k 0, 432, .inl ((fun _ => 0))))] : va_W)) rfl ?_
  refine cx_putF (v := .ref q6) (ty := .array .int) (ci := 6) (ws' := ([(h0, .inr (6, [.null, .null, .int 0, .int ((-1)), .int ((-1)), .int ((-1)), .int 0, .ref q1, .ref q2, .ref q3, .ref q4, .ref q5, .ref q6, .null, .null, .null, .null, .null, .null])), (q1, .inl (k 0, 4, .inl ((fun _ => 0)))), (q2, .inl (k 0, 4, .inl ((fun _ => 0)))), (q3, .inl (k 0, 6, .inl ((fun _ => 0)))), (q4, .inl (k 0, 6, .inl ((fun _ => 0)))), (q5, .inl (k 0, 4, .inl ((fun _ => 0)))), (q6, .inl (k 0, 432, .inl ((fun _ => 0))))] : va_W)) C hnm iX7 tyX7 tyX7_ok nmX7 dX7_init_72 0 rfl rfl 12 (by decide) hw_210 rfl rfl (by decide +kernel) rfl rfl (Nat.le_of_ble_eq_true rfl) rfl ?_
  refine cx_aload_n C dX7_init_75 0 rfl ?_
  refine cx_bipush (v := 36) C dX7_init_76 (by decide) ?_
  refine cx_newa (ty := .int) (N := 36) (a0 := (36, .inl (fun _ => 0))) C hA 0 rfl (Or.inl rfl) dX7_init_78 rfl hw_59 (fun _ => rfl) (by decide +kernel) (by decide +kernel) (Nat.le_of_ble_eq_true rfl) (Nat.le_of_ble_eq_true rfl) (Nat.le_of_ble_eq_true rfl) (fun q7 => ?_)
  refine cx_wsE (ws' := ([(h0, .inr (6, [.null, .null, .int 0, .int ((-1)), .int ((-1)), .int ((-1)), .int 0, .ref q1, .ref q2, .ref q3, .ref q4, .ref q5, .ref q6, .null, .null, .null, .null, .null, .null])), (q1, .inl (k 0, 4, .inl ((fun _ => 0)))), (q2, .inl (k 0, 4, .inl ((fun _ => 0)))), (q3, .inl (k 0, 6, .inl ((fun _ => 0)))), (q4, .inl (k 0, 6, .inl ((fun _ => 0)))), (q5, .inl (k 0, 4, .inl ((fun _ => 0)))), (q6, .inl (k 0, 432, .inl ((fun _ => 0)))), (q7, .inl (k 0, 36, .inl ((fun _ => 0))))] : va_W)) rfl ?_
  refine cx_putF (v := .ref q7) (ty := .array .int) (ci := 6) (ws' := ([(h0, .inr (6, [.null, .null, .int 0, .int ((-1)), .int ((-1)), .int ((-1)), .int 0, .ref q1, .ref q2, .ref q3, .ref q4, .ref q5, .ref q6, .ref q7, .null, .null, .null, .null, .null])), (q1, .inl (k 0, 4, .inl ((fun _ => 0)))), (q2, .inl (k 0, 4, .inl ((fun _ => 0)))), (q3, .inl (k 0, 6, .inl ((fun _ => 0)))), (q4, .inl (k 0, 6, .inl ((fun _ => 0)))), (q5, .inl (k 0, 4, .inl ((fun _ => 0)))), (q6, .inl (k 0, 432, .inl ((fun _ => 0)))), (q7, .inl (k 0, 36, .inl ((fun _ => 0))))] : va_W)) C hnm iX7 tyX7 tyX7_ok nmX7 dX7_init_80 0 rfl rfl 13 (by decide) hw_211 rfl rfl (by decide +kernel) rfl rfl (Nat.le_of_ble_eq_true rfl) rfl ?_
  refine cx_aload_n C dX7_init_83 0 rfl ?_
  refine cx_bipush (v := 36) C dX7_init_84 (by decide) ?_
  refine cx_newa (ty := .int) (N := 36) (a0 := (36, .inl (fun _ => 0))) C hA 0 rfl (Or.inl rfl) dX7_init_86 rfl hw_59 (fun _ => rfl) (by decide +kernel) (by decide +kernel) (Nat.le_of_ble_eq_true rfl) (Nat.le_of_ble_eq_true rfl) (Nat.le_of_ble_eq_true rfl) (fun q8 => ?_)
  refine cx_wsE (ws' := ([(h0, .inr (6, [.null, .null, .int 0, .int ((-1)), .int ((-1)), .int ((-1)), .int 0, .ref q1, .ref q2, .ref q3, .ref q4, .ref q5, .ref q6, .ref q7, .null, .null, .null, .null, .null])), (q1, .inl (k 0, 4, .inl ((fun _ => 0)))), (q2, .inl (k 0, 4, .inl ((fun _ => 0)))), (q3, .inl (k 0, 6, .inl ((fun _ => 0)))), (q4, .inl (k 0, 6, .inl ((fun _ => 0)))), (q5, .inl (k 0, 4, .inl ((fun _ => 0)))), (q6, .inl (k 0, 432, .inl ((fun _ => 0)))), (q7, .inl (k 0, 36, .inl ((fun _ => 0)))), (q8, .inl (k 0, 36, .inl ((fun _ => 0))))] : va_W)) rfl ?_
  refine cx_putF (v := .ref q8) (ty := .array .int) (ci := 6) (ws' := ([(h0, .inr (6, [.null, .null, .int 0, .int ((-1)), .int ((-1)), .int ((-1)), .int 0, .ref q1, .ref q2, .ref q3, .ref q4, .ref q5, .ref q6, .ref q7, .ref q8, .null, .null, .null, .null])), (q1, .inl (k 0, 4, .inl ((fun _ => 0)))), (q2, .inl (k 0, 4, .inl ((fun _ => 0)))), (q3, .inl (k 0, 6, .inl ((fun _ => 0)))), (q4, .inl (k 0, 6, .inl ((fun _ => 0)))), (q5, .inl (k 0, 4, .inl ((fun _ => 0)))), (q6, .inl (k 0, 432, .inl ((fun _ => 0)))), (q7, .inl (k 0, 36, .inl ((fun _ => 0)))), (q8, .inl (k 0, 36, .inl ((fun _ => 0))))] : va_W)) C hnm iX7 tyX7 tyX7_ok nmX7 dX7_init_88 0 rfl rfl 14 (by decide) hw_212 rfl rfl (by decide +kernel) rfl rfl (Nat.le_of_ble_eq_true rfl) rfl ?_
  refine cx_aload_n C dX7_init_91 0 rfl ?_
  refine cx_bipush (v := 84) C dX7_init_92 (by decide) ?_
  refine cx_newa (ty := .long) (N := 84) (a0 := (84, .inr (.inl (fun _ => 0)))) C hA 1 rfl (Or.inr (Or.inl rfl)) dX7_init_94 rfl hw_140 (fun _ => rfl) (by decide +kernel) (by decide +kernel) (Nat.le_of_ble_eq_true rfl) (Nat.le_of_ble_eq_true rfl) (Nat.le_of_ble_eq_true rfl) (fun q9 => ?_)
  refine cx_wsE (ws' := ([(h0, .inr (6, [.null, .null, .int 0, .int ((-1)), .int ((-1)), .int ((-1)), .int 0, .ref q1, .ref q2, .ref q3, .ref q4, .ref q5, .ref q6, .ref q7, .ref q8, .null, .null, .null, .null])), (q1, .inl (k 0, 4, .inl ((fun _ => 0)))), (q2, .inl (k 0, 4, .inl ((fun _ => 0)))), (q3, .inl (k 0, 6, .inl ((fun _ => 0)))), (q4, .inl (k 0, 6, .inl ((fun _ => 0)))), (q5, .inl (k 0, 4, .inl ((fun _ => 0)))), (q6, .inl (k 0, 432, .inl ((fun _ => 0)))), (q7, .inl (k 0, 36, .inl ((fun _ => 0)))), (q8, .inl (k 0, 36, .inl ((fun _ => 0)))), (q9, .inl (k 1, 84, .inr (.inl ((fun _ => 0)))))] : va_W)) rfl ?_
  refine cx_putF (v := .ref q9) (ty := .array .long) (ci := 6) (ws' := ([(h0, .inr (6, [.null, .null, .int 0, .int ((-1)), .int ((-1)), .int ((-1)), .int 0, .ref q1, .ref q2, .ref q3, .ref q4, .ref q5, .ref q6, .ref q7, .ref q8, .ref q9, .null, .null, .null])), (q1, .inl (k 0, 4, .inl ((fun _ => 0)))), (q2, .inl (k 0, 4, .inl ((fun _ => 0)))), (q3, .inl (k 0, 6, .inl ((fun _ => 0)))), (q4, .inl (k 0, 6, .inl ((fun _ => 0)))), (q5, .inl (k 0, 4, .inl ((fun _ => 0)))), (q6, .inl (k 0, 432, .inl ((fun _ => 0)))), (q7, .inl (k 0, 36, .inl ((fun _ => 0)))), (q8, .inl (k 0, 36, .inl ((fun _ => 0)))), (q9, .inl (k 1, 84, .inr (.inl ((fun _ => 0)))))] : va_W)) C hnm iX7 tyX7 tyX7_ok nmX7 dX7_init_96 0 rfl rfl 15 (by decide) hw_213 rfl rfl (by decide +kernel) rfl rfl (Nat.le_of_ble_eq_true rfl) rfl ?_
  refine cx_aload_n C dX7_init_99 0 rfl ?_
  refine cx_bipush (v := 28) C dX7_init_100 (by decide) ?_
  refine cx_newa (ty := .long) (N := 28) (a0 := (28, .inr (.inl (fun _ => 0)))) C hA 1 rfl (Or.inr (Or.inl rfl)) dX7_init_102 rfl hw_140 (fun _ => rfl) (by decide +kernel) (by decide +kernel) (Nat.le_of_ble_eq_true rfl) (Nat.le_of_ble_eq_true rfl) (Nat.le_of_ble_eq_true rfl) (fun q10 => ?_)
  refine cx_wsE (ws' := ([(h0, .inr (6, [.null, .null, .int 0, .int ((-1)), .int ((-1)), .int ((-1)), .int 0, .ref q1, .ref q2, .ref q3, .ref q4, .ref q5, .ref q6, .ref q7, .ref q8, .ref q9, .null, .null, .null])), (q1, .inl (k 0, 4, .inl ((fun _ => 0)))), (q2, .inl (k 0, 4, .inl ((fun _ => 0)))), (q3, .inl (k 0, 6, .inl ((fun _ => 0)))), (q4, .inl (k 0, 6, .inl ((fun _ => 0)))), (q5, .inl (k 0, 4, .inl ((fun _ => 0)))), (q6, .inl (k 0, 432, .inl ((fun _ => 0)))), (q7, .inl (k 0, 36, .inl ((fun _ => 0)))), (q8, .inl (k 0, 36, .inl ((fun _ => 0)))), (q9, .inl (k 1, 84, .inr (.inl ((fun _ => 0))))), (q10, .inl (k 1, 28, .inr (.inl ((fun _ => 0)))))] : va_W)) rfl ?_
  refine cx_putF (v := .ref q10) (ty := .array .long) (ci := 6) (ws' := ([(h0, .inr (6, [.null, .null, .int 0, .int ((-1)), .int ((-1)), .int ((-1)), .int 0, .ref q1, .ref q2, .ref q3, .ref q4, .ref q5, .ref q6, .ref q7, .ref q8, .ref q9, .ref q10, .null, .null])), (q1, .inl (k 0, 4, .inl ((fun _ => 0)))), (q2, .inl (k 0, 4, .inl ((fun _ => 0)))), (q3, .inl (k 0, 6, .inl ((fun _ => 0)))), (q4, .inl (k 0, 6, .inl ((fun _ => 0)))), (q5, .inl (k 0, 4, .inl ((fun _ => 0)))), (q6, .inl (k 0, 432, .inl ((fun _ => 0)))), (q7, .inl (k 0, 36, .inl ((fun _ => 0)))), (q8, .inl (k 0, 36, .inl ((fun _ => 0)))), (q9, .inl (k 1, 84, .inr (.inl ((fun _ => 0))))), (q10, .inl (k 1, 28, .inr (.inl ((fun _ => 0)))))] : va_W)) C hnm iX7 tyX7 tyX7_ok nmX7 dX7_init_104 0 rfl rfl 16 (by decide) hw_214 rfl rfl (by decide +kernel) rfl rfl (Nat.le_of_ble_eq_true rfl) rfl ?_
  refine cx_aload_n C dX7_init_107 0 rfl ?_
  refine cx_bipush (v := 28) C dX7_init_108 (by decide) ?_
  refine cx_newa (ty := .long) (N := 28) (a0 := (28, .inr (.inl (fun _ => 0)))) C hA 1 rfl (Or.inr (Or.inl rfl)) dX7_init_110 rfl hw_140 (fun _ => rfl) (by decide +kernel) (by decide +kernel) (Nat.le_of_ble_eq_true rfl) (Nat.le_of_ble_eq_true rfl) (Nat.le_of_ble_eq_true rfl) (fun q11 => ?_)
  refine cx_wsE (ws' := ([(h0, .inr (6, [.null, .null, .int 0, .int ((-1)), .int ((-1)), .int ((-1)), .int 0, .ref q1, .ref q2, .ref q3, .ref q4, .ref q5, .ref q6, .ref q7, .ref q8, .ref q9, .ref q10, .null, .null])), (q1, .inl (k 0, 4, .inl ((fun _ => 0)))), (q2, .inl (k 0, 4, .inl ((fun _ => 0)))), (q3, .inl (k 0, 6, .inl ((fun _ => 0)))), (q4, .inl (k 0, 6, .inl ((fun _ => 0)))), (q5, .inl (k 0, 4, .inl ((fun _ => 0)))), (q6, .inl (k 0, 432, .inl ((fun _ => 0)))), (q7, .inl (k 0, 36, .inl ((fun _ => 0)))), (q8, .inl (k 0, 36, .inl ((fun _ => 0)))), (q9, .inl (k 1, 84, .inr (.inl ((fun _ => 0))))), (q10, .inl (k 1, 28, .inr (.inl ((fun _ => 0))))), (q11, .inl (k 1, 28, .inr (.inl ((fun _ => 0)))))] : va_W)) rfl ?_
  refine cx_putF (v := .ref q11) (ty := .array .long) (ci := 6) (ws' := ([(h0, .inr (6, [.null, .null, .int 0, .int ((-1)), .int ((-1)), .int ((-1)), .int 0, .ref q1, .ref q2, .ref q3, .ref q4, .ref q5, .ref q6, .ref q7, .ref q8, .ref q9, .ref q10, .ref q11, .null])), (q1, .inl (k 0, 4, .inl ((fun _ => 0)))), (q2, .inl (k 0, 4, .inl ((fun _ => 0)))), (q3, .inl (k 0, 6, .inl ((fun _ => 0)))), (q4, .inl (k 0, 6, .inl ((fun _ => 0)))), (q5, .inl (k 0, 4, .inl ((fun _ => 0)))), (q6, .inl (k 0, 432, .inl ((fun _ => 0)))), (q7, .inl (k 0, 36, .inl ((fun _ => 0)))), (q8, .inl (k 0, 36, .inl ((fun _ => 0)))), (q9, .inl (k 1, 84, .inr (.inl ((fun _ => 0))))), (q10, .inl (k 1, 28, .inr (.inl ((fun _ => 0))))), (q11, .inl (k 1, 28, .inr (.inl ((fun _ => 0)))))] : va_W)) C hnm iX7 tyX7 tyX7_ok nmX7 dX7_init_112 0 rfl rfl 17 (by decide) hw_215 rfl rfl (by decide +kernel) rfl rfl (Nat.le_of_ble_eq_true rfl) rfl ?_
  refine cx_aload_n C dX7_init_115 0 rfl ?_
  refine cx_bipush (v := 6) C dX7_init_116 (by decide) ?_
  refine cx_newa (ty := .int) (N := 6) (a0 := (6, .inl (fun _ => 0))) C hA 0 rfl (Or.inl rfl) dX7_init_118 rfl hw_59 (fun _ => rfl) (by decide +kernel) (by decide +kernel) (Nat.le_of_ble_eq_true rfl) (Nat.le_of_ble_eq_true rfl) (Nat.le_of_ble_eq_true rfl) (fun q12 => ?_)
  refine cx_wsE (ws' := ([(h0, .inr (6, [.null, .null, .int 0, .int ((-1)), .int ((-1)), .int ((-1)), .int 0, .ref q1, .ref q2, .ref q3, .ref q4, .ref q5, .ref q6, .ref q7, .ref q8, .ref q9, .ref q10, .ref q11, .null])), (q1, .inl (k 0, 4, .inl ((fun _ => 0)))), (q2, .inl (k 0, 4, .inl ((fun _ => 0)))), (q3, .inl (k 0, 6, .inl ((fun _ => 0)))), (q4, .inl (k 0, 6, .inl ((fun _ => 0)))), (q5, .inl (k 0, 4, .inl ((fun _ => 0)))), (q6, .inl (k 0, 432, .inl ((fun _ => 0)))), (q7, .inl (k 0, 36, .inl ((fun _ => 0)))), (q8, .inl (k 0, 36, .inl ((fun _ => 0)))), (q9, .inl (k 1, 84, .inr (.inl ((fun _ => 0))))), (q10, .inl (k 1, 28, .inr (.inl ((fun _ => 0))))), (q11, .inl (k 1, 28, .inr (.inl ((fun _ => 0))))), (q12, .inl (k 0, 6, .inl ((fun _ => 0))))] : va_W)) rfl ?_
  refine cx_putF (v := .ref q12) (ty := .array .int) (ci := 6) (ws' := ([(h0, .inr (6, [.null, .null, .int 0, .int ((-1)), .int ((-1)), .int ((-1)), .int 0, .ref q1, .ref q2, .ref q3, .ref q4, .ref q5, .ref q6, .ref q7, .ref q8, .ref q9, .ref q10, .ref q11, .ref q12])), (q1, .inl (k 0, 4, .inl ((fun _ => 0)))), (q2, .inl (k 0, 4, .inl ((fun _ => 0)))), (q3, .inl (k 0, 6, .inl ((fun _ => 0)))), (q4, .inl (k 0, 6, .inl ((fun _ => 0)))), (q5, .inl (k 0, 4, .inl ((fun _ => 0)))), (q6, .inl (k 0, 432, .inl ((fun _ => 0)))), (q7, .inl (k 0, 36, .inl ((fun _ => 0)))), (q8, .inl (k 0, 36, .inl ((fun _ => 0)))), (q9, .inl (k 1, 84, .inr (.inl ((fun _ => 0))))), (q10, .inl (k 1, 28, .inr (.inl ((fun _ => 0))))), (q11, .inl (k 1, 28, .inr (.inl ((fun _ => 0))))), (q12, .inl (k 0, 6, .inl ((fun _ => 0))))] : va_W)) C hnm iX7 tyX7 tyX7_ok nmX7 dX7_init_120 0 rfl rfl 18 (by decide) hw_216 rfl rfl (by decide +kernel) rfl rfl (Nat.le_of_ble_eq_true rfl) rfl ?_
  refine cx_aload_n C dX7_init_123 0 rfl ?_
  refine cx_aload_n C dX7_init_124 1 rfl ?_
  refine cx_putF (v := .ref (ab 0)) (ty := .object "NamelessBox$Box") (ci := 6) (ws' := ([(h0, .inr (6, [.null, .ref (ab 0), .int 0, .int ((-1)), .int ((-1)), .int ((-1)), .int 0, .ref q1, .ref q2, .ref q3, .ref q4, .ref q5, .ref q6, .ref q7, .ref q8, .ref q9, .ref q10, .ref q11, .ref q12])), (q1, .inl (k 0, 4, .inl ((fun _ => 0)))), (q2, .inl (k 0, 4, .inl ((fun _ => 0)))), (q3, .inl (k 0, 6, .inl ((fun _ => 0)))), (q4, .inl (k 0, 6, .inl ((fun _ => 0)))), (q5, .inl (k 0, 4, .inl ((fun _ => 0)))), (q6, .inl (k 0, 432, .inl ((fun _ => 0)))), (q7, .inl (k 0, 36, .inl ((fun _ => 0)))), (q8, .inl (k 0, 36, .inl ((fun _ => 0)))), (q9, .inl (k 1, 84, .inr (.inl ((fun _ => 0))))), (q10, .inl (k 1, 28, .inr (.inl ((fun _ => 0))))), (q11, .inl (k 1, 28, .inr (.inl ((fun _ => 0))))), (q12, .inl (k 0, 6, .inl ((fun _ => 0))))] : va_W)) C hnm iX7 tyX7 tyX7_ok nmX7 dX7_init_125 0 rfl rfl 1 (by decide) hw_199 rfl rfl (by decide +kernel) rfl rfl (Nat.le_of_ble_eq_true rfl) rfl ?_
  refine cx_aload_n C dX7_init_128 0 rfl ?_
  refine cx_aload_n C dX7_init_129 2 rfl ?_
  refine cx_putF (v := .ref (as_ 0)) (ty := .object "NamelessBox$Sums") (ci := 6) (ws' := ([(h0, .inr (6, [.ref (as_ 0), .ref (ab 0), .int 0, .int ((-1)), .int ((-1)), .int ((-1)), .int 0, .ref q1, .ref q2, .ref q3, .ref q4, .ref q5, .ref q6, .ref q7, .ref q8, .ref q9, .ref q10, .ref q11, .ref q12])), (q1, .inl (k 0, 4, .inl ((fun _ => 0)))), (q2, .inl (k 0, 4, .inl ((fun _ => 0)))), (q3, .inl (k 0, 6, .inl ((fun _ => 0)))), (q4, .inl (k 0, 6, .inl ((fun _ => 0)))), (q5, .inl (k 0, 4, .inl ((fun _ => 0)))), (q6, .inl (k 0, 432, .inl ((fun _ => 0)))), (q7, .inl (k 0, 36, .inl ((fun _ => 0)))), (q8, .inl (k 0, 36, .inl ((fun _ => 0)))), (q9, .inl (k 1, 84, .inr (.inl ((fun _ => 0))))), (q10, .inl (k 1, 28, .inr (.inl ((fun _ => 0))))), (q11, .inl (k 1, 28, .inr (.inl ((fun _ => 0))))), (q12, .inl (k 0, 6, .inl ((fun _ => 0))))] : va_W)) C hnm iX7 tyX7 tyX7_ok nmX7 dX7_init_130 0 rfl rfl 0 (by decide) hw_197 rfl rfl (by decide +kernel) rfl rfl (Nat.le_of_ble_eq_true rfl) rfl ?_
  refine cx_aload_n C dX7_init_133 0 rfl ?_
  refine cx_get (v := .ref q9) (ci := 6) C iX7 dX7_init_134 0 rfl rfl 15 (by decide) hw_213 rfl ?_
  refine cx_lconst (v := 1) C dX7_init_137 (by decide) ?_
  refine cx_csv (As := [.ref q9, .long 1]) (rest := []) (ws' := ([(h0, .inr (6, [.ref (as_ 0), .ref (ab 0), .int 0, .int ((-1)), .int ((-1)), .int ((-1)), .int 0, .ref q1, .ref q2, .ref q3, .ref q4, .ref q5, .ref q6, .ref q7, .ref q8, .ref q9, .ref q10, .ref q11, .ref q12])), (q1, .inl (k 0, 4, .inl ((fun _ => 0)))), (q2, .inl (k 0, 4, .inl ((fun _ => 0)))), (q3, .inl (k 0, 6, .inl ((fun _ => 0)))), (q4, .inl (k 0, 6, .inl ((fun _ => 0)))), (q5, .inl (k 0, 4, .inl ((fun _ => 0)))), (q6, .inl (k 0, 432, .inl ((fun _ => 0)))), (q7, .inl (k 0, 36, .inl ((fun _ => 0)))), (q8, .inl (k 0, 36, .inl ((fun _ => 0)))), (q9, .inl (k 1, 84, .inr (.inl yf))), (q10, .inl (k 1, 28, .inr (.inl ((fun _ => 0))))), (q11, .inl (k 1, 28, .inr (.inl ((fun _ => 0))))), (q12, .inl (k 0, 6, .inl ((fun _ => 0))))] : va_W)) hA C me_J7_fill_d0a16 hw_194 (c_J7_fill_d0a16 l D k q9 84 (fun _ => 0) 1 yf hyf) dX7_init_138 ⟨(Nat.le_of_ble_eq_true rfl), (Nat.le_of_ble_eq_true rfl)⟩ ⟨(Nat.le_of_ble_eq_true rfl), (Nat.le_of_ble_eq_true rfl)⟩ rfl rfl (Nat.le_of_ble_eq_true rfl) [9] rfl (by decide) rfl rfl ?_
  exact cx_vretI C (cx_li [h0, q1, q2, q3, q4, q5, q6, q7, q8, q9, q10, q11, q12]) hA hQ hr hlk dX7_init_141 rfl rfl
theorem dX0_init_0 : decode cX0_init 0 = .ok (.aload_n 0, 1) := by decide +kernel
theorem dX0_init_1 : decode cX0_init 1 = .ok (.invokespecial 3, 3) := by decide +kernel
theorem dX0_init_4 : decode cX0_init 4 = .ok (.aload_n 0, 1) := by decide +kernel
theorem dX0_init_5 : decode cX0_init 5 = .ok (.iconst 4, 1) := by decide +kernel
theorem dX0_init_6 : decode cX0_init 6 = .ok (.newarray .long, 2) := by decide +kernel
theorem dX0_init_8 : decode cX0_init 8 = .ok (.putfield 11, 3) := by decide +kernel
theorem dX0_init_11 : decode cX0_init 11 = .ok (.aload_n 0, 1) := by decide +kernel
theorem dX0_init_12 : decode cX0_init 12 = .ok (.iconst 4, 1) := by decide +kernel
theorem dX0_init_13 : decode cX0_init 13 = .ok (.newarray .long, 2) := by decide +kernel
theorem dX0_init_15 : decode cX0_init 15 = .ok (.putfield 17, 3) := by decide +kernel
theorem dX0_init_18 : decode cX0_init 18 = .ok (.aload_n 0, 1) := by decide +kernel
theorem dX0_init_19 : decode cX0_init 19 = .ok (.iconst 4, 1) := by decide +kernel
theorem dX0_init_20 : decode cX0_init 20 = .ok (.newarray .long, 2) := by decide +kernel
theorem dX0_init_22 : decode cX0_init 22 = .ok (.putfield 20, 3) := by decide +kernel
theorem dX0_init_25 : decode cX0_init 25 = .ok (.aload_n 0, 1) := by decide +kernel
theorem dX0_init_26 : decode cX0_init 26 = .ok (.bipush 24, 2) := by decide +kernel
theorem dX0_init_28 : decode cX0_init 28 = .ok (.newarray .long, 2) := by decide +kernel
theorem dX0_init_30 : decode cX0_init 30 = .ok (.putfield 23, 3) := by decide +kernel
theorem dX0_init_33 : decode cX0_init 33 = .ok (.aload_n 0, 1) := by decide +kernel
theorem dX0_init_34 : decode cX0_init 34 = .ok (.iconst 4, 1) := by decide +kernel
theorem dX0_init_35 : decode cX0_init 35 = .ok (.newarray .long, 2) := by decide +kernel
theorem dX0_init_37 : decode cX0_init 37 = .ok (.putfield 26, 3) := by decide +kernel
theorem dX0_init_40 : decode cX0_init 40 = .ok (.aload_n 0, 1) := by decide +kernel
theorem dX0_init_41 : decode cX0_init 41 = .ok (.iconst 4, 1) := by decide +kernel
theorem dX0_init_42 : decode cX0_init 42 = .ok (.newarray .long, 2) := by decide +kernel
theorem dX0_init_44 : decode cX0_init 44 = .ok (.putfield 29, 3) := by decide +kernel
theorem dX0_init_47 : decode cX0_init 47 = .ok (.aload_n 0, 1) := by decide +kernel
theorem dX0_init_48 : decode cX0_init 48 = .ok (.aload_n 1, 1) := by decide +kernel
theorem dX0_init_49 : decode cX0_init 49 = .ok (.putfield 32, 3) := by decide +kernel
theorem dX0_init_52 : decode cX0_init 52 = .ok (.aload_n 0, 1) := by decide +kernel
theorem dX0_init_53 : decode cX0_init 53 = .ok (.aload_n 2, 1) := by decide +kernel
theorem dX0_init_54 : decode cX0_init 54 = .ok (.putfield 36, 3) := by decide +kernel
theorem dX0_init_57 : decode cX0_init 57 = .ok (.return_, 1) := by decide +kernel
theorem mi_X0_init : cx_Me yX0_init cX0_init 3 none 2 := ⟨⟨by decide +kernel, by decide +kernel, by decide +kernel⟩, hw_10, hw_260⟩
set_option maxHeartbeats 4000000 in
set_option maxRecDepth 100000 in
theorem c_X0_init (l : Launch) (D : va_G) (k : Nat → ClassId) (h0 : Nat) (ab : Nat → Nat) (as_ : Nat → Nat)  : cx_MI l yX0_init cX0_init 3 1 6 44 D k [.ref h0, .ref (ab 0), .ref (as_ 0)] [(h0, .inr (0, [.null, .null, .null, .null, .null, .null, .null, .null]))] (fun sz => cx_QI D (fun (u : Nat → Nat) => u 0 = h0) [(h0, .inr (0, [.null, .null, .null, .null, .null, .null, .null, .null]))] (fun u => (wd_Aunt k u ab as_ ((fun _ => 0)) ((fun _ => 0)) ((fun _ => 0)) ((fun _ => 0)) ((fun _ => 0)) ((fun _ => 0)))) sz) := by
  refine cx_metI (own := "NamelessBox$Aunt") (by decide) rfl rfl (Nat.le_of_ble_eq_true rfl) ?_
  intro p e s m args below meth c A Q C hA hQ hr hlk hnm
  refine cx_lv (lv' := [(0, .ref h0), (1, .ref (ab 0)), (2, .ref (as_ 0))]) [0, 1, 2] rfl ?_
  refine cx_aload_n C dX0_init_0 0 rfl ?_
  refine cx_objI C dX0_init_1 hw_261 hw_25 hw_26 (Nat.le_of_ble_eq_true rfl) (Nat.le_of_ble_eq_true rfl) ?_
  refine cx_aload_n C dX0_init_4 0 rfl ?_
  refine cx_iconst (v := 4) C dX0_init_5 (by decide) ?_
  refine cx_newa (ty := .long) (N := 4) (a0 := (4, .inr (.inl (fun _ => 0)))) C hA 1 rfl (Or.inr (Or.inl rfl)) dX0_init_6 rfl hw_140 (fun _ => rfl) (by decide +kernel) (by decide +kernel) (Nat.le_of_ble_eq_true rfl) (Nat.le_of_ble_eq_true rfl) (Nat.le_of_ble_eq_true rfl) (fun q1 => ?_)
  refine cx_wsE (ws' := ([(h0, .inr (0, [.null, .null, .null, .null, .null, .null, .null, .null])), (q1, .inl (k 1, 4, .inr (.inl ((fun _ => 0)))))] : va_W)) rfl ?_
  refine cx_putF (v := .ref q1) (ty := .array .long) (ci := 0) (ws' := ([(h0, .inr (0, [.ref q1, .null, .null, .null, .null, .null, .null, .null])), (q1, .inl (k 1, 4, .inr (.inl ((fun _ => 0)))))] : va_W)) C hnm iX0 tyX0 tyX0_ok nmX0 dX0_init_8 0 rfl rfl 0 (by decide) hw_262 rfl rfl (by decide +kernel) rfl rfl (Nat.le_of_ble_eq_true rfl) rfl ?_
  refine cx_aload_n C dX0_init_11 0 rfl ?_
  refine cx_iconst (v := 4) C dX0_init_12 (by decide) ?_
  refine cx_newa (ty := .long) (N := 4) (a0 := (4, .inr (.inl (fun _ => 0)))) C hA 1 rfl (Or.inr (Or.inl rfl)) dX0_init_13 rfl hw_140 (fun _ => rfl) (by decide +kernel) (by decide +kernel) (Nat.le_of_ble_eq_true rfl) (Nat.le_of_ble_eq_true rfl) (Nat.le_of_ble_eq_true rfl) (fun q2 => ?_)
  refine cx_wsE (ws' := ([(h0, .inr (0, [.ref q1, .null, .null, .null, .null, .null, .null, .null])), (q1, .inl (k 1, 4, .inr (.inl ((fun _ => 0))))), (q2, .inl (k 1, 4, .inr (.inl ((fun _ => 0)))))] : va_W)) rfl ?_
  refine cx_putF (v := .ref q2) (ty := .array .long) (ci := 0) (ws' := ([(h0, .inr (0, [.ref q1, .ref q2, .null, .null, .null, .null, .null, .null])), (q1, .inl (k 1, 4, .inr (.inl ((fun _ => 0))))), (q2, .inl (k 1, 4, .inr (.inl ((fun _ => 0)))))] : va_W)) C hnm iX0 tyX0 tyX0_ok nmX0 dX0_init_15 0 rfl rfl 1 (by decide) hw_264 rfl rfl (by decide +kernel) rfl rfl (Nat.le_of_ble_eq_true rfl) rfl ?_
  refine cx_aload_n C dX0_init_18 0 rfl ?_
  refine cx_iconst (v := 4) C dX0_init_19 (by decide) ?_
  refine cx_newa (ty := .long) (N := 4) (a0 := (4, .inr (.inl (fun _ => 0)))) C hA 1 rfl (Or.inr (Or.inl rfl)) dX0_init_20 rfl hw_140 (fun _ => rfl) (by decide +kernel) (by decide +kernel) (Nat.le_of_ble_eq_true rfl) (Nat.le_of_ble_eq_true rfl) (Nat.le_of_ble_eq_true rfl) (fun q3 => ?_)
  refine cx_wsE (ws' := ([(h0, .inr (0, [.ref q1, .ref q2, .null, .null, .null, .null, .null, .null])), (q1, .inl (k 1, 4, .inr (.inl ((fun _ => 0))))), (q2, .inl (k 1, 4, .inr (.inl ((fun _ => 0))))), (q3, .inl (k 1, 4, .inr (.inl ((fun _ => 0)))))] : va_W)) rfl ?_
  refine cx_putF (v := .ref q3) (ty := .array .long) (ci := 0) (ws' := ([(h0, .inr (0, [.ref q1, .ref q2, .ref q3, .null, .null, .null, .null, .null])), (q1, .inl (k 1, 4, .inr (.inl ((fun _ => 0))))), (q2, .inl (k 1, 4, .inr (.inl ((fun _ => 0))))), (q3, .inl (k 1, 4, .inr (.inl ((fun _ => 0)))))] : va_W)) C hnm iX0 tyX0 tyX0_ok nmX0 dX0_init_22 0 rfl rfl 2 (by decide) hw_266 rfl rfl (by decide +kernel) rfl rfl (Nat.le_of_ble_eq_true rfl) rfl ?_
  refine cx_aload_n C dX0_init_25 0 rfl ?_
  refine cx_bipush (v := 24) C dX0_init_26 (by decide) ?_
  refine cx_newa (ty := .long) (N := 24) (a0 := (24, .inr (.inl (fun _ => 0)))) C hA 1 rfl (Or.inr (Or.inl rfl)) dX0_init_28 rfl hw_140 (fun _ => rfl) (by decide +kernel) (by decide +kernel) (Nat.le_of_ble_eq_true rfl) (Nat.le_of_ble_eq_true rfl) (Nat.le_of_ble_eq_true rfl) (fun q4 => ?_)
  refine cx_wsE (ws' := ([(h0, .inr (0, [.ref q1, .ref q2, .ref q3, .null, .null, .null, .null, .null])), (q1, .inl (k 1, 4, .inr (.inl ((fun _ => 0))))), (q2, .inl (k 1, 4, .inr (.inl ((fun _ => 0))))), (q3, .inl (k 1, 4, .inr (.inl ((fun _ => 0))))), (q4, .inl (k 1, 24, .inr (.inl ((fun _ => 0)))))] : va_W)) rfl ?_
  refine cx_putF (v := .ref q4) (ty := .array .long) (ci := 0) (ws' := ([(h0, .inr (0, [.ref q1, .ref q2, .ref q3, .null, .null, .ref q4, .null, .null])), (q1, .inl (k 1, 4, .inr (.inl ((fun _ => 0))))), (q2, .inl (k 1, 4, .inr (.inl ((fun _ => 0))))), (q3, .inl (k 1, 4, .inr (.inl ((fun _ => 0))))), (q4, .inl (k 1, 24, .inr (.inl ((fun _ => 0)))))] : va_W)) C hnm iX0 tyX0 tyX0_ok nmX0 dX0_init_30 0 rfl rfl 5 (by decide) hw_270 rfl rfl (by decide +kernel) rfl rfl (Nat.le_of_ble_eq_true rfl) rfl ?_
  refine cx_aload_n C dX0_init_33 0 rfl ?_
  refine cx_iconst (v := 4) C dX0_init_34 (by decide) ?_
  refine cx_newa (ty := .long) (N := 4) (a0 := (4, .inr (.inl (fun _ => 0)))) C hA 1 rfl (Or.inr (Or.inl rfl)) dX0_init_35 rfl hw_140 (fun _ => rfl) (by decide +kernel) (by decide +kernel) (Nat.le_of_ble_eq_true rfl) (Nat.le_of_ble_eq_true rfl) (Nat.le_of_ble_eq_true rfl) (fun q5 => ?_)
  refine cx_wsE (ws' := ([(h0, .inr (0, [.ref q1, .ref q2, .ref q3, .null, .null, .ref q4, .null, .null])), (q1, .inl (k 1, 4, .inr (.inl ((fun _ => 0))))), (q2, .inl (k 1, 4, .inr (.inl ((fun _ => 0))))), (q3, .inl (k 1, 4, .inr (.inl ((fun _ => 0))))), (q4, .inl (k 1, 24, .inr (.inl ((fun _ => 0))))), (q5, .inl (k 1, 4, .inr (.inl ((fun _ => 0)))))] : va_W)) rfl ?_
  refine cx_putF (v := .ref q5) (ty := .array .long) (ci := 0) (ws' := ([(h0, .inr (0, [.ref q1, .ref q2, .ref q3, .null, .null, .ref q4, .ref q5, .null])), (q1, .inl (k 1, 4, .inr (.inl ((fun _ => 0))))), (q2, .inl (k 1, 4, .inr (.inl ((fun _ => 0))))), (q3, .inl (k 1, 4, .inr (.inl ((fun _ => 0))))), (q4, .inl (k 1, 24, .inr (.inl ((fun _ => 0))))), (q5, .inl (k 1, 4, .inr (.inl ((fun _ => 0)))))] : va_W)) C hnm iX0 tyX0 tyX0_ok nmX0 dX0_init_37 0 rfl rfl 6 (by decide) hw_271 rfl rfl (by decide +kernel) rfl rfl (Nat.le_of_ble_eq_true rfl) rfl ?_
  refine cx_aload_n C dX0_init_40 0 rfl ?_
  refine cx_iconst (v := 4) C dX0_init_41 (by decide) ?_
  refine cx_newa (ty := .long) (N := 4) (a0 := (4, .inr (.inl (fun _ => 0)))) C hA 1 rfl (Or.inr (Or.inl rfl)) dX0_init_42 rfl hw_140 (fun _ => rfl) (by decide +kernel) (by decide +kernel) (Nat.le_of_ble_eq_true rfl) (Nat.le_of_ble_eq_true rfl) (Nat.le_of_ble_eq_true rfl) (fun q6 => ?_)
  refine cx_wsE (ws' := ([(h0, .inr (0, [.ref q1, .ref q2, .ref q3, .null, .null, .ref q4, .ref q5, .null])), (q1, .inl (k 1, 4, .inr (.inl ((fun _ => 0))))), (q2, .inl (k 1, 4, .inr (.inl ((fun _ => 0))))), (q3, .inl (k 1, 4, .inr (.inl ((fun _ => 0))))), (q4, .inl (k 1, 24, .inr (.inl ((fun _ => 0))))), (q5, .inl (k 1, 4, .inr (.inl ((fun _ => 0))))), (q6, .inl (k 1, 4, .inr (.inl ((fun _ => 0)))))] : va_W)) rfl ?_
  refine cx_putF (v := .ref q6) (ty := .array .long) (ci := 0) (ws' := ([(h0, .inr (0, [.ref q1, .ref q2, .ref q3, .null, .null, .ref q4, .ref q5, .ref q6])), (q1, .inl (k 1, 4, .inr (.inl ((fun _ => 0))))), (q2, .inl (k 1, 4, .inr (.inl ((fun _ => 0))))), (q3, .inl (k 1, 4, .inr (.inl ((fun _ => 0))))), (q4, .inl (k 1, 24, .inr (.inl ((fun _ => 0))))), (q5, .inl (k 1, 4, .inr (.inl ((fun _ => 0))))), (q6, .inl (k 1, 4, .inr (.inl ((fun _ => 0)))))] : va_W)) C hnm iX0 tyX0 tyX0_ok nmX0 dX0_init_44 0 rfl rfl 7 (by decide) hw_272 rfl rfl (by decide +kernel) rfl rfl (Nat.le_of_ble_eq_true rfl) rfl ?_
  refine cx_aload_n C dX0_init_47 0 rfl ?_
  refine cx_aload_n C dX0_init_48 1 rfl ?_
  refine cx_putF (v := .ref (ab 0)) (ty := .object "NamelessBox$Box") (ci := 0) (ws' := ([(h0, .inr (0, [.ref q1, .ref q2, .ref q3, .ref (ab 0), .null, .ref q4, .ref q5, .ref q6])), (q1, .inl (k 1, 4, .inr (.inl ((fun _ => 0))))), (q2, .inl (k 1, 4, .inr (.inl ((fun _ => 0))))), (q3, .inl (k 1, 4, .inr (.inl ((fun _ => 0))))), (q4, .inl (k 1, 24, .inr (.inl ((fun _ => 0))))), (q5, .inl (k 1, 4, .inr (.inl ((fun _ => 0))))), (q6, .inl (k 1, 4, .inr (.inl ((fun _ => 0)))))] : va_W)) C hnm iX0 tyX0 tyX0_ok nmX0 dX0_init_49 0 rfl rfl 3 (by decide) hw_268 rfl rfl (by decide +kernel) rfl rfl (Nat.le_of_ble_eq_true rfl) rfl ?_
  refine cx_aload_n C dX0_init_52 0 rfl ?_
  refine cx_aload_n C dX0_init_53 2 rfl ?_
  refine cx_putF (v := .ref (as_ 0)) (ty := .object "NamelessBox$Sums") (ci := 0) (ws' := ([(h0, .inr (0, [.ref q1, .ref q2, .ref q3, .ref (ab 0), .ref (as_ 0), .ref q4, .ref q5, .ref q6])), (q1, .inl (k 1, 4, .inr (.inl ((fun _ => 0))))), (q2, .inl (k 1, 4, .inr (.inl ((fun _ => 0))))), (q3, .inl (k 1, 4, .inr (.inl ((fun _ => 0))))), (q4, .inl (k 1, 24, .inr (.inl ((fun _ => 0))))), (q5, .inl (k 1, 4, .inr (.inl ((fun _ => 0))))), (q6, .inl (k 1, 4, .inr (.inl ((fun _ => 0)))))] : va_W)) C hnm iX0 tyX0 tyX0_ok nmX0 dX0_init_54 0 rfl rfl 4 (by decide) hw_269 rfl rfl (by decide +kernel) rfl rfl (Nat.le_of_ble_eq_true rfl) rfl ?_
  exact cx_vretI C (cx_li [h0, q1, q2, q3, q4, q5, q6]) hA hQ hr hlk dX0_init_57 rfl rfl
theorem dX9_init_0 : decode cX9_init 0 = .ok (.aload_n 0, 1) := by decide +kernel
theorem dX9_init_1 : decode cX9_init 1 = .ok (.invokespecial 46, 3) := by decide +kernel
theorem dX9_init_4 : decode cX9_init 4 = .ok (.aload_n 0, 1) := by decide +kernel
theorem dX9_init_5 : decode cX9_init 5 = .ok (.sipush 4320, 3) := by decide +kernel
theorem dX9_init_8 : decode cX9_init 8 = .ok (.newarray .int, 2) := by decide +kernel
theorem dX9_init_10 : decode cX9_init 10 = .ok (.putfield 7, 3) := by decide +kernel
theorem dX9_init_13 : decode cX9_init 13 = .ok (.aload_n 0, 1) := by decide +kernel
theorem dX9_init_14 : decode cX9_init 14 = .ok (.sipush 270, 3) := by decide +kernel
theorem dX9_init_17 : decode cX9_init 17 = .ok (.newarray .int, 2) := by decide +kernel
theorem dX9_init_19 : decode cX9_init 19 = .ok (.putfield 3, 3) := by decide +kernel
theorem dX9_init_22 : decode cX9_init 22 = .ok (.aload_n 0, 1) := by decide +kernel
theorem dX9_init_23 : decode cX9_init 23 = .ok (.sipush 140, 3) := by decide +kernel
theorem dX9_init_26 : decode cX9_init 26 = .ok (.newarray .int, 2) := by decide +kernel
theorem dX9_init_28 : decode cX9_init 28 = .ok (.putfield 51, 3) := by decide +kernel
theorem dX9_init_31 : decode cX9_init 31 = .ok (.aload_n 0, 1) := by decide +kernel
theorem dX9_init_32 : decode cX9_init 32 = .ok (.sipush 280, 3) := by decide +kernel
theorem dX9_init_35 : decode cX9_init 35 = .ok (.newarray .int, 2) := by decide +kernel
theorem dX9_init_37 : decode cX9_init 37 = .ok (.putfield 54, 3) := by decide +kernel
theorem dX9_init_40 : decode cX9_init 40 = .ok (.aload_n 0, 1) := by decide +kernel
theorem dX9_init_41 : decode cX9_init 41 = .ok (.iconst 2, 1) := by decide +kernel
theorem dX9_init_42 : decode cX9_init 42 = .ok (.newarray .boolean, 2) := by decide +kernel
theorem dX9_init_44 : decode cX9_init 44 = .ok (.putfield 57, 3) := by decide +kernel
theorem dX9_init_47 : decode cX9_init 47 = .ok (.aload_n 0, 1) := by decide +kernel
theorem dX9_init_48 : decode cX9_init 48 = .ok (.sipush 140, 3) := by decide +kernel
theorem dX9_init_51 : decode cX9_init 51 = .ok (.newarray .int, 2) := by decide +kernel
theorem dX9_init_53 : decode cX9_init 53 = .ok (.putfield 61, 3) := by decide +kernel
theorem dX9_init_56 : decode cX9_init 56 = .ok (.aload_n 0, 1) := by decide +kernel
theorem dX9_init_57 : decode cX9_init 57 = .ok (.iconst 3, 1) := by decide +kernel
theorem dX9_init_58 : decode cX9_init 58 = .ok (.newarray .int, 2) := by decide +kernel
theorem dX9_init_60 : decode cX9_init 60 = .ok (.putfield 64, 3) := by decide +kernel
theorem dX9_init_63 : decode cX9_init 63 = .ok (.aload_n 0, 1) := by decide +kernel
theorem dX9_init_64 : decode cX9_init 64 = .ok (.sipush 300, 3) := by decide +kernel
theorem dX9_init_67 : decode cX9_init 67 = .ok (.newarray .int, 2) := by decide +kernel
theorem dX9_init_69 : decode cX9_init 69 = .ok (.putfield 67, 3) := by decide +kernel
theorem dX9_init_72 : decode cX9_init 72 = .ok (.aload_n 0, 1) := by decide +kernel
theorem dX9_init_73 : decode cX9_init 73 = .ok (.sipush 900, 3) := by decide +kernel
theorem dX9_init_76 : decode cX9_init 76 = .ok (.newarray .int, 2) := by decide +kernel
theorem dX9_init_78 : decode cX9_init 78 = .ok (.putfield 70, 3) := by decide +kernel
theorem dX9_init_81 : decode cX9_init 81 = .ok (.aload_n 0, 1) := by decide +kernel
theorem dX9_init_82 : decode cX9_init 82 = .ok (.bipush 6, 2) := by decide +kernel
theorem dX9_init_84 : decode cX9_init 84 = .ok (.newarray .int, 2) := by decide +kernel
theorem dX9_init_86 : decode cX9_init 86 = .ok (.putfield 73, 3) := by decide +kernel
theorem dX9_init_89 : decode cX9_init 89 = .ok (.aload_n 0, 1) := by decide +kernel
theorem dX9_init_90 : decode cX9_init 90 = .ok (.sipush 432, 3) := by decide +kernel
theorem dX9_init_93 : decode cX9_init 93 = .ok (.newarray .int, 2) := by decide +kernel
theorem dX9_init_95 : decode cX9_init 95 = .ok (.putfield 76, 3) := by decide +kernel
theorem dX9_init_98 : decode cX9_init 98 = .ok (.aload_n 0, 1) := by decide +kernel
theorem dX9_init_99 : decode cX9_init 99 = .ok (.bipush 6, 2) := by decide +kernel
theorem dX9_init_101 : decode cX9_init 101 = .ok (.newarray .int, 2) := by decide +kernel
theorem dX9_init_103 : decode cX9_init 103 = .ok (.putfield 79, 3) := by decide +kernel
theorem dX9_init_106 : decode cX9_init 106 = .ok (.aload_n 0, 1) := by decide +kernel
theorem dX9_init_107 : decode cX9_init 107 = .ok (.getfield 51, 3) := by decide +kernel
theorem dX9_init_110 : decode cX9_init 110 = .ok (.iconst 5, 1) := by decide +kernel
theorem dX9_init_111 : decode cX9_init 111 = .ok (.iconst 1, 1) := by decide +kernel
theorem dX9_init_112 : decode cX9_init 112 = .ok (.iastore, 1) := by decide +kernel
theorem dX9_init_113 : decode cX9_init 113 = .ok (.aload_n 0, 1) := by decide +kernel
theorem dX9_init_114 : decode cX9_init 114 = .ok (.iconst 1, 1) := by decide +kernel
theorem dX9_init_115 : decode cX9_init 115 = .ok (.lconst 1, 1) := by decide +kernel
theorem dX9_init_116 : decode cX9_init 116 = .ok (.invokevirtual 16, 3) := by decide +kernel
theorem dX9_init_119 : decode cX9_init 119 = .ok (.return_, 1) := by decide +kernel
theorem mi_X9_init : cx_Me yX9_init cX9_init 1 none 0 := ⟨⟨by decide +kernel, by decide +kernel, by decide +kernel⟩, hw_11, hw_1043⟩
set_option maxHeartbeats 4000000 in
set_option maxRecDepth 100000 in
theorem c_X9_init (l : Launch) (D : va_G) (k : Nat → ClassId) (h0 : Nat)  (yf : (Nat → Int32) × (Nat → Int32)) (hyf : f_X9_sets ((fun _ => 0)) ((fun _ => 0)) 1 1 = some yf) : cx_MI l yX9_init cX9_init 1 3 12 6799 D k [.ref h0] [(h0, .inr (8, [.null, .null, .null, .null, .null, .null, .null, .int 0, .null, .int 0, .int 0, .int 0, .int 0, .int 0, .null, .int 0, .null, .null, .int 0, .int 0, .int 0, .int 0, .int 0, .null]))] (fun sz => cx_QI D (fun (u : Nat → Nat) => u 0 = h0) [(h0, .inr (8, [.null, .null, .null, .null, .null, .null, .null, .int 0, .null, .int 0, .int 0, .int 0, .int 0, .int 0, .null, .int 0, .null, .null, .int 0, .int 0, .int 0, .int 0, .int 0, .null]))] (fun u => (wd_Model k u yf.1 yf.2 (upd ((fun _ => 0)) (cx_ix 5) 1) ((fun _ => 0)) ((fun _ => 0)) ((fun _ => 0)) ((fun _ => 0)) 0 ((fun _ => 0)) 0 0 0 0 0 ((fun _ => 0)) 0 ((fun _ => 0)) ((fun _ => 0)) 0 0 0 0 0 ((fun _ => 0)))) sz) := by
  refine cx_metI (own := "NamelessBoxModel") (by decide) rfl rfl (Nat.le_of_ble_eq_true rfl) ?_
  intro p e s m args below meth c A Q C hA hQ hr hlk hnm
  refine cx_lv (lv' := [(0, .ref h0)]) [0] rfl ?_
  refine cx_aload_n C dX9_init_0 0 rfl ?_
  refine cx_objI C dX9_init_1 hw_1044 hw_25 hw_26 (Nat.le_of_ble_eq_true rfl) (Nat.le_of_ble_eq_true rfl) ?_
  refine cx_aload_n C dX9_init_4 0 rfl ?_
  refine cx_sipush (v := 4320) C dX9_init_5 (by decide) ?_
  refine cx_newa (ty := .int) (N := 4320) (a0 := (4320, .inl (fun _ => 0))) C hA 0 rfl (Or.inl rfl) dX9_init_8 rfl hw_59 (fun _ => rfl) (by decide +kernel) (by decide +kernel) (Nat.le_of_ble_eq_true rfl) (Nat.le_of_ble_eq_true rfl) (Nat.le_of_ble_eq_true rfl) (fun q1 => ?_)
  refine cx_wsE (ws' := ([(h0, .inr (8, [.null, .null, .null, .null, .null, .null, .null, .int 0, .null, .int 0, .int 0, .int 0, .int 0, .int 0, .null, .int 0, .null, .null, .int 0, .int 0, .int 0, .int 0, .int 0, .null])), (q1, .inl (k 0, 4320, .inl ((fun _ => 0))))] : va_W)) rfl ?_
  refine cx_putF (v := .ref q1) (ty := .array .int) (ci := 8) (ws' := ([(h0, .inr (8, [.ref q1, .null, .null, .null, .null, .null, .null, .int 0, .null, .int 0, .int 0, .int 0, .int 0, .int 0, .null, .int 0, .null, .null, .int 0, .int 0, .int 0, .int 0, .int 0, .null])), (q1, .inl (k 0, 4320, .inl ((fun _ => 0))))] : va_W)) C hnm iX9 tyX9 tyX9_ok nmX9 dX9_init_10 0 rfl rfl 0 (by decide) hw_1054 rfl rfl (by decide +kernel) rfl rfl (Nat.le_of_ble_eq_true rfl) rfl ?_
  refine cx_aload_n C dX9_init_13 0 rfl ?_
  refine cx_sipush (v := 270) C dX9_init_14 (by decide) ?_
  refine cx_newa (ty := .int) (N := 270) (a0 := (270, .inl (fun _ => 0))) C hA 0 rfl (Or.inl rfl) dX9_init_17 rfl hw_59 (fun _ => rfl) (by decide +kernel) (by decide +kernel) (Nat.le_of_ble_eq_true rfl) (Nat.le_of_ble_eq_true rfl) (Nat.le_of_ble_eq_true rfl) (fun q2 => ?_)
  refine cx_wsE (ws' := ([(h0, .inr (8, [.ref q1, .null, .null, .null, .null, .null, .null, .int 0, .null, .int 0, .int 0, .int 0, .int 0, .int 0, .null, .int 0, .null, .null, .int 0, .int 0, .int 0, .int 0, .int 0, .null])), (q1, .inl (k 0, 4320, .inl ((fun _ => 0)))), (q2, .inl (k 0, 270, .inl ((fun _ => 0))))] : va_W)) rfl ?_
  refine cx_putF (v := .ref q2) (ty := .array .int) (ci := 8) (ws' := ([(h0, .inr (8, [.ref q1, .ref q2, .null, .null, .null, .null, .null, .int 0, .null, .int 0, .int 0, .int 0, .int 0, .int 0, .null, .int 0, .null, .null, .int 0, .int 0, .int 0, .int 0, .int 0, .null])), (q1, .inl (k 0, 4320, .inl ((fun _ => 0)))), (q2, .inl (k 0, 270, .inl ((fun _ => 0))))] : va_W)) C hnm iX9 tyX9 tyX9_ok nmX9 dX9_init_19 0 rfl rfl 1 (by decide) hw_1055 rfl rfl (by decide +kernel) rfl rfl (Nat.le_of_ble_eq_true rfl) rfl ?_
  refine cx_aload_n C dX9_init_22 0 rfl ?_
  refine cx_sipush (v := 140) C dX9_init_23 (by decide) ?_
  refine cx_newa (ty := .int) (N := 140) (a0 := (140, .inl (fun _ => 0))) C hA 0 rfl (Or.inl rfl) dX9_init_26 rfl hw_59 (fun _ => rfl) (by decide +kernel) (by decide +kernel) (Nat.le_of_ble_eq_true rfl) (Nat.le_of_ble_eq_true rfl) (Nat.le_of_ble_eq_true rfl) (fun q3 => ?_)
  refine cx_wsE (ws' := ([(h0, .inr (8, [.ref q1, .ref q2, .null, .null, .null, .null, .null, .int 0, .null, .int 0, .int 0, .int 0, .int 0, .int 0, .null, .int 0, .null, .null, .int 0, .int 0, .int 0, .int 0, .int 0, .null])), (q1, .inl (k 0, 4320, .inl ((fun _ => 0)))), (q2, .inl (k 0, 270, .inl ((fun _ => 0)))), (q3, .inl (k 0, 140, .inl ((fun _ => 0))))] : va_W)) rfl ?_
  refine cx_putF (v := .ref q3) (ty := .array .int) (ci := 8) (ws' := ([(h0, .inr (8, [.ref q1, .ref q2, .ref q3, .null, .null, .null, .null, .int 0, .null, .int 0, .int 0, .int 0, .int 0, .int 0, .null, .int 0, .null, .null, .int 0, .int 0, .int 0, .int 0, .int 0, .null])), (q1, .inl (k 0, 4320, .inl ((fun _ => 0)))), (q2, .inl (k 0, 270, .inl ((fun _ => 0)))), (q3, .inl (k 0, 140, .inl ((fun _ => 0))))] : va_W)) C hnm iX9 tyX9 tyX9_ok nmX9 dX9_init_28 0 rfl rfl 2 (by decide) hw_1056 rfl rfl (by decide +kernel) rfl rfl (Nat.le_of_ble_eq_true rfl) rfl ?_
  refine cx_aload_n C dX9_init_31 0 rfl ?_
  refine cx_sipush (v := 280) C dX9_init_32 (by decide) ?_
  refine cx_newa (ty := .int) (N := 280) (a0 := (280, .inl (fun _ => 0))) C hA 0 rfl (Or.inl rfl) dX9_init_35 rfl hw_59 (fun _ => rfl) (by decide +kernel) (by decide +kernel) (Nat.le_of_ble_eq_true rfl) (Nat.le_of_ble_eq_true rfl) (Nat.le_of_ble_eq_true rfl) (fun q4 => ?_)
  refine cx_wsE (ws' := ([(h0, .inr (8, [.ref q1, .ref q2, .ref q3, .null, .null, .null, .null, .int 0, .null, .int 0, .int 0, .int 0, .int 0, .int 0, .null, .int 0, .null, .null, .int 0, .int 0, .int 0, .int 0, .int 0, .null])), (q1, .inl (k 0, 4320, .inl ((fun _ => 0)))), (q2, .inl (k 0, 270, .inl ((fun _ => 0)))), (q3, .inl (k 0, 140, .inl ((fun _ => 0)))), (q4, .inl (k 0, 280, .inl ((fun _ => 0))))] : va_W)) rfl ?_
  refine cx_putF (v := .ref q4) (ty := .array .int) (ci := 8) (ws' := ([(h0, .inr (8, [.ref q1, .ref q2, .ref q3, .ref q4, .null, .null, .null, .int 0, .null, .int 0, .int 0, .int 0, .int 0, .int 0, .null, .int 0, .null, .null, .int 0, .int 0, .int 0, .int 0, .int 0, .null])), (q1, .inl (k 0, 4320, .inl ((fun _ => 0)))), (q2, .inl (k 0, 270, .inl ((fun _ => 0)))), (q3, .inl (k 0, 140, .inl ((fun _ => 0)))), (q4, .inl (k 0, 280, .inl ((fun _ => 0))))] : va_W)) C hnm iX9 tyX9 tyX9_ok nmX9 dX9_init_37 0 rfl rfl 3 (by decide) hw_1057 rfl rfl (by decide +kernel) rfl rfl (Nat.le_of_ble_eq_true rfl) rfl ?_
  refine cx_aload_n C dX9_init_40 0 rfl ?_
  refine cx_iconst (v := 2) C dX9_init_41 (by decide) ?_
  refine cx_newa (ty := .boolean) (N := 2) (a0 := (2, .inl (fun _ => 0))) C hA 3 rfl (Or.inr (Or.inr (Or.inr rfl))) dX9_init_42 rfl hw_117 (fun _ => rfl) (by decide +kernel) (by decide +kernel) (Nat.le_of_ble_eq_true rfl) (Nat.le_of_ble_eq_true rfl) (Nat.le_of_ble_eq_true rfl) (fun q5 => ?_)
  refine cx_wsE (ws' := ([(h0, .inr (8, [.ref q1, .ref q2, .ref q3, .ref q4, .null, .null, .null, .int 0, .null, .int 0, .int 0, .int 0, .int 0, .int 0, .null, .int 0, .null, .null, .int 0, .int 0, .int 0, .int 0, .int 0, .null])), (q1, .inl (k 0, 4320, .inl ((fun _ => 0)))), (q2, .inl (k 0, 270, .inl ((fun _ => 0)))), (q3, .inl (k 0, 140, .inl ((fun _ => 0)))), (q4, .inl (k 0, 280, .inl ((fun _ => 0)))), (q5, .inl (k 3, 2, .inl ((fun _ => 0))))] : va_W)) rfl ?_
  refine cx_putF (v := .ref q5) (ty := .array .boolean) (ci := 8) (ws' := ([(h0, .inr (8, [.ref q1, .ref q2, .ref q3, .ref q4, .ref q5, .null, .null, .int 0, .null, .int 0, .int 0, .int 0, .int 0, .int 0, .null, .int 0, .null, .null, .int 0, .int 0, .int 0, .int 0, .int 0, .null])), (q1, .inl (k 0, 4320, .inl ((fun _ => 0)))), (q2, .inl (k 0, 270, .inl ((fun _ => 0)))), (q3, .inl (k 0, 140, .inl ((fun _ => 0)))), (q4, .inl (k 0, 280, .inl ((fun _ => 0)))), (q5, .inl (k 3, 2, .inl ((fun _ => 0))))] : va_W)) C hnm iX9 tyX9 tyX9_ok nmX9 dX9_init_44 0 rfl rfl 4 (by decide) hw_1058 rfl rfl (by decide +kernel) rfl rfl (Nat.le_of_ble_eq_true rfl) rfl ?_
  refine cx_aload_n C dX9_init_47 0 rfl ?_
  refine cx_sipush (v := 140) C dX9_init_48 (by decide) ?_
  refine cx_newa (ty := .int) (N := 140) (a0 := (140, .inl (fun _ => 0))) C hA 0 rfl (Or.inl rfl) dX9_init_51 rfl hw_59 (fun _ => rfl) (by decide +kernel) (by decide +kernel) (Nat.le_of_ble_eq_true rfl) (Nat.le_of_ble_eq_true rfl) (Nat.le_of_ble_eq_true rfl) (fun q6 => ?_)
  refine cx_wsE (ws' := ([(h0, .inr (8, [.ref q1, .ref q2, .ref q3, .ref q4, .ref q5, .null, .null, .int 0, .null, .int 0, .int 0, .int 0, .int 0, .int 0, .null, .int 0, .null, .null, .int 0, .int 0, .int 0, .int 0, .int 0, .null])), (q1, .inl (k 0, 4320, .inl ((fun _ => 0)))), (q2, .inl (k 0, 270, .inl ((fun _ => 0)))), (q3, .inl (k 0, 140, .inl ((fun _ => 0)))), (q4, .inl (k 0, 280, .inl ((fun _ => 0)))), (q5, .inl (k 3, 2, .inl ((fun _ => 0)))), (q6, .inl (k 0, 140, .inl ((fun _ => 0))))] : va_W)) rfl ?_
  refine cx_putF (v := .ref q6) (ty := .array .int) (ci := 8) (ws' := ([(h0, .inr (8, [.ref q1, .ref q2, .ref q3, .ref q4, .ref q5, .ref q6, .null, .int 0, .null, .int 0, .int 0, .int 0, .int 0, .int 0, .null, .int 0, .null, .null, .int 0, .int 0, .int 0, .int 0, .int 0, .null])), (q1, .inl (k 0, 4320, .inl ((fun _ => 0)))), (q2, .inl (k 0, 270, .inl ((fun _ => 0)))), (q3, .inl (k 0, 140, .inl ((fun _ => 0)))), (q4, .inl (k 0, 280, .inl ((fun _ => 0)))), (q5, .inl (k 3, 2, .inl ((fun _ => 0)))), (q6, .inl (k 0, 140, .inl ((fun _ => 0))))] : va_W)) C hnm iX9 tyX9 tyX9_ok nmX9 dX9_init_53 0 rfl rfl 5 (by decide) hw_1059 rfl rfl (by decide +kernel) rfl rfl (Nat.le_of_ble_eq_true rfl) rfl ?_
  refine cx_aload_n C dX9_init_56 0 rfl ?_
  refine cx_iconst (v := 3) C dX9_init_57 (by decide) ?_
  refine cx_newa (ty := .int) (N := 3) (a0 := (3, .inl (fun _ => 0))) C hA 0 rfl (Or.inl rfl) dX9_init_58 rfl hw_59 (fun _ => rfl) (by decide +kernel) (by decide +kernel) (Nat.le_of_ble_eq_true rfl) (Nat.le_of_ble_eq_true rfl) (Nat.le_of_ble_eq_true rfl) (fun q7 => ?_)
  refine cx_wsE (ws' := ([(h0, .inr (8, [.ref q1, .ref q2, .ref q3, .ref q4, .ref q5, .ref q6, .null, .int 0, .null, .int 0, .int 0, .int 0, .int 0, .int 0, .null, .int 0, .null, .null, .int 0, .int 0, .int 0, .int 0, .int 0, .null])), (q1, .inl (k 0, 4320, .inl ((fun _ => 0)))), (q2, .inl (k 0, 270, .inl ((fun _ => 0)))), (q3, .inl (k 0, 140, .inl ((fun _ => 0)))), (q4, .inl (k 0, 280, .inl ((fun _ => 0)))), (q5, .inl (k 3, 2, .inl ((fun _ => 0)))), (q6, .inl (k 0, 140, .inl ((fun _ => 0)))), (q7, .inl (k 0, 3, .inl ((fun _ => 0))))] : va_W)) rfl ?_
  refine cx_putF (v := .ref q7) (ty := .array .int) (ci := 8) (ws' := ([(h0, .inr (8, [.ref q1, .ref q2, .ref q3, .ref q4, .ref q5, .ref q6, .ref q7, .int 0, .null, .int 0, .int 0, .int 0, .int 0, .int 0, .null, .int 0, .null, .null, .int 0, .int 0, .int 0, .int 0, .int 0, .null])), (q1, .inl (k 0, 4320, .inl ((fun _ => 0)))), (q2, .inl (k 0, 270, .inl ((fun _ => 0)))), (q3, .inl (k 0, 140, .inl ((fun _ => 0)))), (q4, .inl (k 0, 280, .inl ((fun _ => 0)))), (q5, .inl (k 3, 2, .inl ((fun _ => 0)))), (q6, .inl (k 0, 140, .inl ((fun _ => 0)))), (q7, .inl (k 0, 3, .inl ((fun _ => 0))))] : va_W)) C hnm iX9 tyX9 tyX9_ok nmX9 dX9_init_60 0 rfl rfl 6 (by decide) hw_1060 rfl rfl (by decide +kernel) rfl rfl (Nat.le_of_ble_eq_true rfl) rfl ?_
  refine cx_aload_n C dX9_init_63 0 rfl ?_
  refine cx_sipush (v := 300) C dX9_init_64 (by decide) ?_
  refine cx_newa (ty := .int) (N := 300) (a0 := (300, .inl (fun _ => 0))) C hA 0 rfl (Or.inl rfl) dX9_init_67 rfl hw_59 (fun _ => rfl) (by decide +kernel) (by decide +kernel) (Nat.le_of_ble_eq_true rfl) (Nat.le_of_ble_eq_true rfl) (Nat.le_of_ble_eq_true rfl) (fun q8 => ?_)
  refine cx_wsE (ws' := ([(h0, .inr (8, [.ref q1, .ref q2, .ref q3, .ref q4, .ref q5, .ref q6, .ref q7, .int 0, .null, .int 0, .int 0, .int 0, .int 0, .int 0, .null, .int 0, .null, .null, .int 0, .int 0, .int 0, .int 0, .int 0, .null])), (q1, .inl (k 0, 4320, .inl ((fun _ => 0)))), (q2, .inl (k 0, 270, .inl ((fun _ => 0)))), (q3, .inl (k 0, 140, .inl ((fun _ => 0)))), (q4, .inl (k 0, 280, .inl ((fun _ => 0)))), (q5, .inl (k 3, 2, .inl ((fun _ => 0)))), (q6, .inl (k 0, 140, .inl ((fun _ => 0)))), (q7, .inl (k 0, 3, .inl ((fun _ => 0)))), (q8, .inl (k 0, 300, .inl ((fun _ => 0))))] : va_W)) rfl ?_
  refine cx_putF (v := .ref q8) (ty := .array .int) (ci := 8) (ws' := ([(h0, .inr (8, [.ref q1, .ref q2, .ref q3, .ref q4, .ref q5, .ref q6, .ref q7, .int 0, .ref q8, .int 0, .int 0, .int 0, .int 0, .int 0, .null, .int 0, .null, .null, .int 0, .int 0, .int 0, .int 0, .int 0, .null])), (q1, .inl (k 0, 4320, .inl ((fun _ => 0)))), (q2, .inl (k 0, 270, .inl ((fun _ => 0)))), (q3, .inl (k 0, 140, .inl ((fun _ => 0)))), (q4, .inl (k 0, 280, .inl ((fun _ => 0)))), (q5, .inl (k 3, 2, .inl ((fun _ => 0)))), (q6, .inl (k 0, 140, .inl ((fun _ => 0)))), (q7, .inl (k 0, 3, .inl ((fun _ => 0)))), (q8, .inl (k 0, 300, .inl ((fun _ => 0))))] : va_W)) C hnm iX9 tyX9 tyX9_ok nmX9 dX9_init_69 0 rfl rfl 8 (by decide) hw_1062 rfl rfl (by decide +kernel) rfl rfl (Nat.le_of_ble_eq_true rfl) rfl ?_
  refine cx_aload_n C dX9_init_72 0 rfl ?_
  refine cx_sipush (v := 900) C dX9_init_73 (by decide) ?_
  refine cx_newa (ty := .int) (N := 900) (a0 := (900, .inl (fun _ => 0))) C hA 0 rfl (Or.inl rfl) dX9_init_76 rfl hw_59 (fun _ => rfl) (by decide +kernel) (by decide +kernel) (Nat.le_of_ble_eq_true rfl) (Nat.le_of_ble_eq_true rfl) (Nat.le_of_ble_eq_true rfl) (fun q9 => ?_)
  refine cx_wsE (ws' := ([(h0, .inr (8, [.ref q1, .ref q2, .ref q3, .ref q4, .ref q5, .ref q6, .ref q7, .int 0, .ref q8, .int 0, .int 0, .int 0, .int 0, .int 0, .null, .int 0, .null, .null, .int 0, .int 0, .int 0, .int 0, .int 0, .null])), (q1, .inl (k 0, 4320, .inl ((fun _ => 0)))), (q2, .inl (k 0, 270, .inl ((fun _ => 0)))), (q3, .inl (k 0, 140, .inl ((fun _ => 0)))), (q4, .inl (k 0, 280, .inl ((fun _ => 0)))), (q5, .inl (k 3, 2, .inl ((fun _ => 0)))), (q6, .inl (k 0, 140, .inl ((fun _ => 0)))), (q7, .inl (k 0, 3, .inl ((fun _ => 0)))), (q8, .inl (k 0, 300, .inl ((fun _ => 0)))), (q9, .inl (k 0, 900, .inl ((fun _ => 0))))] : va_W)) rfl ?_
  refine cx_putF (v := .ref q9) (ty := .array .int) (ci := 8) (ws' := ([(h0, .inr (8, [.ref q1, .ref q2, .ref q3, .ref q4, .ref q5, .ref q6, .ref q7, .int 0, .ref q8, .int 0, .int 0, .int 0, .int 0, .int 0, .ref q9, .int 0, .null, .null, .int 0, .int 0, .int 0, .int 0, .int 0, .null])), (q1, .inl (k 0, 4320, .inl ((fun _ => 0)))), (q2, .inl (k 0, 270, .inl ((fun _ => 0)))), (q3, .inl (k 0, 140, .inl ((fun _ => 0)))), (q4, .inl (k 0, 280, .inl ((fun _ => 0)))), (q5, .inl (k 3, 2, .inl ((fun _ => 0)))), (q6, .inl (k 0, 140, .inl ((fun _ => 0)))), (q7, .inl (k 0, 3, .inl ((fun _ => 0)))), (q8, .inl (k 0, 300, .inl ((fun _ => 0)))), (q9, .inl (k 0, 900, .inl ((fun _ => 0))))] : va_W)) C hnm iX9 tyX9 tyX9_ok nmX9 dX9_init_78 0 rfl rfl 14 (by decide) hw_1068 rfl rfl (by decide +kernel) rfl rfl (Nat.le_of_ble_eq_true rfl) rfl ?_
  refine cx_aload_n C dX9_init_81 0 rfl ?_
  refine cx_bipush (v := 6) C dX9_init_82 (by decide) ?_
  refine cx_newa (ty := .int) (N := 6) (a0 := (6, .inl (fun _ => 0))) C hA 0 rfl (Or.inl rfl) dX9_init_84 rfl hw_59 (fun _ => rfl) (by decide +kernel) (by decide +kernel) (Nat.le_of_ble_eq_true rfl) (Nat.le_of_ble_eq_true rfl) (Nat.le_of_ble_eq_true rfl) (fun q10 => ?_)
  refine cx_wsE (ws' := ([(h0, .inr (8, [.ref q1, .ref q2, .ref q3, .ref q4, .ref q5, .ref q6, .ref q7, .int 0, .ref q8, .int 0, .int 0, .int 0, .int 0, .int 0, .ref q9, .int 0, .null, .null, .int 0, .int 0, .int 0, .int 0, .int 0, .null])), (q1, .inl (k 0, 4320, .inl ((fun _ => 0)))), (q2, .inl (k 0, 270, .inl ((fun _ => 0)))), (q3, .inl (k 0, 140, .inl ((fun _ => 0)))), (q4, .inl (k 0, 280, .inl ((fun _ => 0)))), (q5, .inl (k 3, 2, .inl ((fun _ => 0)))), (q6, .inl (k 0, 140, .inl ((fun _ => 0)))), (q7, .inl (k 0, 3, .inl ((fun _ => 0)))), (q8, .inl (k 0, 300, .inl ((fun _ => 0)))), (q9, .inl (k 0, 900, .inl ((fun _ => 0)))), (q10, .inl (k 0, 6, .inl ((fun _ => 0))))] : va_W)) rfl ?_
  refine cx_putF (v := .ref q10) (ty := .array .int) (ci := 8) (ws' := ([(h0, .inr (8, [.ref q1, .ref q2, .ref q3, .ref q4, .ref q5, .ref q6, .ref q7, .int 0, .ref q8, .int 0, .int 0, .int 0, .int 0, .int 0, .ref q9, .int 0, .ref q10, .null, .int 0, .int 0, .int 0, .int 0, .int 0, .null])), (q1, .inl (k 0, 4320, .inl ((fun _ => 0)))), (q2, .inl (k 0, 270, .inl ((fun _ => 0)))), (q3, .inl (k 0, 140, .inl ((fun _ => 0)))), (q4, .inl (k 0, 280, .inl ((fun _ => 0)))), (q5, .inl (k 3, 2, .inl ((fun _ => 0)))), (q6, .inl (k 0, 140, .inl ((fun _ => 0)))), (q7, .inl (k 0, 3, .inl ((fun _ => 0)))), (q8, .inl (k 0, 300, .inl ((fun _ => 0)))), (q9, .inl (k 0, 900, .inl ((fun _ => 0)))), (q10, .inl (k 0, 6, .inl ((fun _ => 0))))] : va_W)) C hnm iX9 tyX9 tyX9_ok nmX9 dX9_init_86 0 rfl rfl 16 (by decide) hw_1070 rfl rfl (by decide +kernel) rfl rfl (Nat.le_of_ble_eq_true rfl) rfl ?_
  refine cx_aload_n C dX9_init_89 0 rfl ?_
  refine cx_sipush (v := 432) C dX9_init_90 (by decide) ?_
  refine cx_newa (ty := .int) (N := 432) (a0 := (432, .inl (fun _ => 0))) C hA 0 rfl (Or.inl rfl) dX9_init_93 rfl hw_59 (fun _ => rfl) (by decide +kernel) (by decide +kernel) (Nat.le_of_ble_eq_true rfl) (Nat.le_of_ble_eq_true rfl) (Nat.le_of_ble_eq_true rfl) (fun q11 => ?_)
  refine cx_wsE (ws' := ([(h0, .inr (8, [.ref q1, .ref q2, .ref q3, .ref q4, .ref q5, .ref q6, .ref q7, .int 0, .ref q8, .int 0, .int 0, .int 0, .int 0, .int 0, .ref q9, .int 0, .ref q10, .null, .int 0, .int 0, .int 0, .int 0, .int 0, .null])), (q1, .inl (k 0, 4320, .inl ((fun _ => 0)))), (q2, .inl (k 0, 270, .inl ((fun _ => 0)))), (q3, .inl (k 0, 140, .inl ((fun _ => 0)))), (q4, .inl (k 0, 280, .inl ((fun _ => 0)))), (q5, .inl (k 3, 2, .inl ((fun _ => 0)))), (q6, .inl (k 0, 140, .inl ((fun _ => 0)))), (q7, .inl (k 0, 3, .inl ((fun _ => 0)))), (q8, .inl (k 0, 300, .inl ((fun _ => 0)))), (q9, .inl (k 0, 900, .inl ((fun _ => 0)))), (q10, .inl (k 0, 6, .inl ((fun _ => 0)))), (q11, .inl (k 0, 432, .inl ((fun _ => 0))))] : va_W)) rfl ?_
  refine cx_putF (v := .ref q11) (ty := .array .int) (ci := 8) (ws' := ([(h0, .inr (8, [.ref q1, .ref q2, .ref q3, .ref q4, .ref q5, .ref q6, .ref q7, .int 0, .ref q8, .int 0, .int 0, .int 0, .int 0, .int 0, .ref q9, .int 0, .ref q10, .ref q11, .int 0, .int 0, .int 0, .int 0, .int 0, .null])), (q1, .inl (k 0, 4320, .inl ((fun _ => 0)))), (q2, .inl (k 0, 270, .inl ((fun _ => 0)))), (q3, .inl (k 0, 140, .inl ((fun _ => 0)))), (q4, .inl (k 0, 280, .inl ((fun _ => 0)))), (q5, .inl (k 3, 2, .inl ((fun _ => 0)))), (q6, .inl (k 0, 140, .inl ((fun _ => 0)))), (q7, .inl (k 0, 3, .inl ((fun _ => 0)))), (q8, .inl (k 0, 300, .inl ((fun _ => 0)))), (q9, .inl (k 0, 900, .inl ((fun _ => 0)))), (q10, .inl (k 0, 6, .inl ((fun _ => 0)))), (q11, .inl (k 0, 432, .inl ((fun _ => 0))))] : va_W)) C hnm iX9 tyX9 tyX9_ok nmX9 dX9_init_95 0 rfl rfl 17 (by decide) hw_1071 rfl rfl (by decide +kernel) rfl rfl (Nat.le_of_ble_eq_true rfl) rfl ?_
  refine cx_aload_n C dX9_init_98 0 rfl ?_
  refine cx_bipush (v := 6) C dX9_init_99 (by decide) ?_
  refine cx_newa (ty := .int) (N := 6) (a0 := (6, .inl (fun _ => 0))) C hA 0 rfl (Or.inl rfl) dX9_init_101 rfl hw_59 (fun _ => rfl) (by decide +kernel) (by decide +kernel) (Nat.le_of_ble_eq_true rfl) (Nat.le_of_ble_eq_true rfl) (Nat.le_of_ble_eq_true rfl) (fun q12 => ?_)
  refine cx_wsE (ws' := ([(h0, .inr (8, [.ref q1, .ref q2, .ref q3, .ref q4, .ref q5, .ref q6, .ref q7, .int 0, .ref q8, .int 0, .int 0, .int 0, .int 0, .int 0, .ref q9, .int 0, .ref q10, .ref q11, .int 0, .int 0, .int 0, .int 0, .int 0, .null])), (q1, .inl (k 0, 4320, .inl ((fun _ => 0)))), (q2, .inl (k 0, 270, .inl ((fun _ => 0)))), (q3, .inl (k 0, 140, .inl ((fun _ => 0)))), (q4, .inl (k 0, 280, .inl ((fun _ => 0)))), (q5, .inl (k 3, 2, .inl ((fun _ => 0)))), (q6, .inl (k 0, 140, .inl ((fun _ => 0)))), (q7, .inl (k 0, 3, .inl ((fun _ => 0)))), (q8, .inl (k 0, 300, .inl ((fun _ => 0)))), (q9, .inl (k 0, 900, .inl ((fun _ => 0)))), (q10, .inl (k 0, 6, .inl ((fun _ => 0)))), (q11, .inl (k 0, 432, .inl ((fun _ => 0)))), (q12, .inl (k 0, 6, .inl ((fun _ => 0))))] : va_W)) rfl ?_
  refine cx_putF (v := .ref q12) (ty := .array .int) (ci := 8) (ws' := ([(h0, .inr (8, [.ref q1, .ref q2, .ref q3, .ref q4, .ref q5, .ref q6, .ref q7, .int 0, .ref q8, .int 0, .int 0, .int 0, .int 0, .int 0, .ref q9, .int 0, .ref q10, .ref q11, .int 0, .int 0, .int 0, .int 0, .int 0, .ref q12])), (q1, .inl (k 0, 4320, .inl ((fun _ => 0)))), (q2, .inl (k 0, 270, .inl ((fun _ => 0)))), (q3, .inl (k 0, 140, .inl ((fun _ => 0)))), (q4, .inl (k 0, 280, .inl ((fun _ => 0)))), (q5, .inl (k 3, 2, .inl ((fun _ => 0)))), (q6, .inl (k 0, 140, .inl ((fun _ => 0)))), (q7, .inl (k 0, 3, .inl ((fun _ => 0)))), (q8, .inl (k 0, 300, .inl ((fun _ => 0)))), (q9, .inl (k 0, 900, .inl ((fun _ => 0)))), (q10, .inl (k 0, 6, .inl ((fun _ => 0)))), (q11, .inl (k 0, 432, .inl ((fun _ => 0)))), (q12, .inl (k 0, 6, .inl ((fun _ => 0))))] : va_W)) C hnm iX9 tyX9 tyX9_ok nmX9 dX9_init_103 0 rfl rfl 23 (by decide) hw_1077 rfl rfl (by decide +kernel) rfl rfl (Nat.le_of_ble_eq_true rfl) rfl ?_
  refine cx_aload_n C dX9_init_106 0 rfl ?_
  refine cx_get (v := .ref q3) (ci := 8) C iX9 dX9_init_107 0 rfl rfl 2 (by decide) hw_1056 rfl ?_
  refine cx_iconst (v := 5) C dX9_init_110 (by decide) ?_
  refine cx_iconst (v := 1) C dX9_init_111 (by decide) ?_
  refine cx_iast (ws' := ([(h0, .inr (8, [.ref q1, .ref q2, .ref q3, .ref q4, .ref q5, .ref q6, .ref q7, .int 0, .ref q8, .int 0, .int 0, .int 0, .int 0, .int 0, .ref q9, .int 0, .ref q10, .ref q11, .int 0, .int 0, .int 0, .int 0, .int 0, .ref q12])), (q1, .inl (k 0, 4320, .inl ((fun _ => 0)))), (q2, .inl (k 0, 270, .inl ((fun _ => 0)))), (q3, .inl (k 0, 140, .inl (upd ((fun _ => 0)) (cx_ix 5) 1))), (q4, .inl (k 0, 280, .inl ((fun _ => 0)))), (q5, .inl (k 3, 2, .inl ((fun _ => 0)))), (q6, .inl (k 0, 140, .inl ((fun _ => 0)))), (q7, .inl (k 0, 3, .inl ((fun _ => 0)))), (q8, .inl (k 0, 300, .inl ((fun _ => 0)))), (q9, .inl (k 0, 900, .inl ((fun _ => 0)))), (q10, .inl (k 0, 6, .inl ((fun _ => 0)))), (q11, .inl (k 0, 432, .inl ((fun _ => 0)))), (q12, .inl (k 0, 6, .inl ((fun _ => 0))))] : va_W)) C dX9_init_112 3 rfl (cx_ib_in (by decide)) rfl ?_
  refine cx_aload_n C dX9_init_113 0 rfl ?_
  refine cx_iconst (v := 1) C dX9_init_114 (by decide) ?_
  refine cx_lconst (v := 1) C dX9_init_115 (by decide) ?_
  refine cx_wsE (ws' := (wd_Model k (cx_li [h0, q1, q2, q3, q4, q5, q6, q7, q8, q9, q10, q11, q12]) ((fun _ => 0)) ((fun _ => 0)) (upd ((fun _ => 0)) (cx_ix 5) 1) ((fun _ => 0)) ((fun _ => 0)) ((fun _ => 0)) ((fun _ => 0)) 0 ((fun _ => 0)) 0 0 0 0 0 ((fun _ => 0)) 0 ((fun _ => 0)) ((fun _ => 0)) 0 0 0 0 0 ((fun _ => 0)))) rfl ?_
  refine cx_Fvv (q := (RX9, TX9, 24)) (As := [.int 1, .long 1]) (rest := []) (w1 := (wd_Model k (cx_li [h0, q1, q2, q3, q4, q5, q6, q7, q8, q9, q10, q11, q12]) yf.1 yf.2 (upd ((fun _ => 0)) (cx_ix 5) 1) ((fun _ => 0)) ((fun _ => 0)) ((fun _ => 0)) ((fun _ => 0)) 0 ((fun _ => 0)) 0 0 0 0 0 ((fun _ => 0)) 0 ((fun _ => 0)) ((fun _ => 0)) 0 0 0 0 0 ((fun _ => 0)))) hA C me_X9_sets hw_1045 (c_X9_sets l D k (cx_li [h0, q1, q2, q3, q4, q5, q6, q7, q8, q9, q10, q11, q12]) ((fun _ => 0)) ((fun _ => 0)) (upd ((fun _ => 0)) (cx_ix 5) 1) ((fun _ => 0)) ((fun _ => 0)) ((fun _ => 0)) ((fun _ => 0)) 0 ((fun _ => 0)) 0 0 0 0 0 ((fun _ => 0)) 0 ((fun _ => 0)) ((fun _ => 0)) 0 0 0 0 0 ((fun _ => 0)) 1 1 yf hyf) dX9_init_116 ⟨(Nat.le_of_ble_eq_true rfl), (Nat.le_of_ble_eq_true rfl)⟩ ⟨(Nat.le_of_ble_eq_true rfl), (Nat.le_of_ble_eq_true rfl)⟩ rfl rfl (Nat.le_of_ble_eq_true rfl) rfl rfl rfl ?_
  exact cx_vretI C (cx_li [h0, q1, q2, q3, q4, q5, q6, q7, q8, q9, q10, q11, q12]) hA hQ hr hlk dX9_init_119 rfl rfl
theorem dX1_init_0 : decode cX1_init 0 = .ok (.aload_n 0, 1) := by decide +kernel
theorem dX1_init_1 : decode cX1_init 1 = .ok (.invokespecial 3, 3) := by decide +kernel
theorem dX1_init_4 : decode cX1_init 4 = .ok (.aload_n 0, 1) := by decide +kernel
theorem dX1_init_5 : decode cX1_init 5 = .ok (.new 9, 3) := by decide +kernel
theorem dX1_init_8 : decode cX1_init 8 = .ok (.dup, 1) := by decide +kernel
theorem dX1_init_9 : decode cX1_init 9 = .ok (.bipush 6, 2) := by decide +kernel
theorem dX1_init_11 : decode cX1_init 11 = .ok (.iconst 5, 1) := by decide +kernel
theorem dX1_init_12 : decode cX1_init 12 = .ok (.invokespecial 11, 3) := by decide +kernel
theorem dX1_init_15 : decode cX1_init 15 = .ok (.putfield 14, 3) := by decide +kernel
theorem dX1_init_18 : decode cX1_init 18 = .ok (.aload_n 0, 1) := by decide +kernel
theorem dX1_init_19 : decode cX1_init 19 = .ok (.new 9, 3) := by decide +kernel
theorem dX1_init_22 : decode cX1_init 22 = .ok (.dup, 1) := by decide +kernel
theorem dX1_init_23 : decode cX1_init 23 = .ok (.iconst 2, 1) := by decide +kernel
theorem dX1_init_24 : decode cX1_init 24 = .ok (.iconst 4, 1) := by decide +kernel
theorem dX1_init_25 : decode cX1_init 25 = .ok (.invokespecial 11, 3) := by decide +kernel
theorem dX1_init_28 : decode cX1_init 28 = .ok (.putfield 20, 3) := by decide +kernel
theorem dX1_init_31 : decode cX1_init 31 = .ok (.aload_n 0, 1) := by decide +kernel
theorem dX1_init_32 : decode cX1_init 32 = .ok (.new 9, 3) := by decide +kernel
theorem dX1_init_35 : decode cX1_init 35 = .ok (.dup, 1) := by decide +kernel
theorem dX1_init_36 : decode cX1_init 36 = .ok (.iconst 5, 1) := by decide +kernel
theorem dX1_init_37 : decode cX1_init 37 = .ok (.bipush 6, 2) := by decide +kernel
theorem dX1_init_39 : decode cX1_init 39 = .ok (.invokespecial 11, 3) := by decide +kernel
theorem dX1_init_42 : decode cX1_init 42 = .ok (.putfield 23, 3) := by decide +kernel
theorem dX1_init_45 : decode cX1_init 45 = .ok (.aload_n 0, 1) := by decide +kernel
theorem dX1_init_46 : decode cX1_init 46 = .ok (.new 9, 3) := by decide +kernel
theorem dX1_init_49 : decode cX1_init 49 = .ok (.dup, 1) := by decide +kernel
theorem dX1_init_50 : decode cX1_init 50 = .ok (.iconst 4, 1) := by decide +kernel
theorem dX1_init_51 : decode cX1_init 51 = .ok (.iconst 4, 1) := by decide +kernel
theorem dX1_init_52 : decode cX1_init 52 = .ok (.invokespecial 11, 3) := by decide +kernel
theorem dX1_init_55 : decode cX1_init 55 = .ok (.putfield 26, 3) := by decide +kernel
theorem dX1_init_58 : decode cX1_init 58 = .ok (.aload_n 0, 1) := by decide +kernel
theorem dX1_init_59 : decode cX1_init 59 = .ok (.new 9, 3) := by decide +kernel
theorem dX1_init_62 : decode cX1_init 62 = .ok (.dup, 1) := by decide +kernel
theorem dX1_init_63 : decode cX1_init 63 = .ok (.iconst 3, 1) := by decide +kernel
theorem dX1_init_64 : decode cX1_init 64 = .ok (.iconst 4, 1) := by decide +kernel
theorem dX1_init_65 : decode cX1_init 65 = .ok (.invokespecial 11, 3) := by decide +kernel
theorem dX1_init_68 : decode cX1_init 68 = .ok (.putfield 29, 3) := by decide +kernel
theorem dX1_init_71 : decode cX1_init 71 = .ok (.aload_n 0, 1) := by decide +kernel
theorem dX1_init_72 : decode cX1_init 72 = .ok (.iconst 1, 1) := by decide +kernel
theorem dX1_init_73 : decode cX1_init 73 = .ok (.putfield 32, 3) := by decide +kernel
theorem dX1_init_76 : decode cX1_init 76 = .ok (.return_, 1) := by decide +kernel
theorem mi_X1_init : cx_Me yX1_init cX1_init 1 none 0 := ⟨⟨by decide +kernel, by decide +kernel, by decide +kernel⟩, hw_2, hw_31⟩
set_option maxHeartbeats 4000000 in
set_option maxRecDepth 100000 in
theorem c_X1_init (l : Launch) (D : va_G) (k : Nat → ClassId) (h0 : Nat)   : cx_MI l yX1_init cX1_init 1 2 10 116 D k [.ref h0] [(h0, .inr (1, [.null, .null, .null, .null, .null, .int 0]))] (fun sz => cx_QI D (fun (u : Nat → Nat) => u 0 = h0) [(h0, .inr (1, [.null, .null, .null, .null, .null, .int 0]))] (fun u => (wd_Box k u (fun _ => 0) 0 (fun _ => 0) 0 (fun _ => 0) 0 (fun _ => 0) 0 (fun _ => 0) 0 1)) sz) := by
  refine cx_metI (own := "NamelessBox$Box") (by decide) rfl rfl (Nat.le_of_ble_eq_true rfl) ?_
  intro p e s m args below meth c A Q C hA hQ hr hlk hnm
  refine cx_lv (lv' := [(0, .ref h0)]) [0] rfl ?_
  refine cx_aload_n C dX1_init_0 0 rfl ?_
  refine cx_objI C dX1_init_1 hw_32 hw_25 hw_26 (Nat.le_of_ble_eq_true rfl) (Nat.le_of_ble_eq_true rfl) ?_
  refine cx_aload_n C dX1_init_4 0 rfl ?_
  refine cx_new (ci := 3) (fs := [.int 0, .int 0, .null, .int 0]) C hA iX4 tyX4 tyX4_ok dX1_init_5 hw_33 hw_34 hw_3 rfl (fun j hj => by rcases (show j = 0 ∨ j = 1 ∨ j = 2 ∨ j = 3 by omega) with rfl | rfl | rfl | rfl <;> rfl) (Nat.le_of_ble_eq_true rfl) (Nat.le_of_ble_eq_true rfl) (fun q1 => ?_)
  refine cx_wsE (ws' := ([(h0, .inr (1, [.null, .null, .null, .null, .null, .int 0])), (q1, .inr (3, [.int 0, .int 0, .null, .int 0]))] : va_W)) rfl ?_
  refine cx_dup C dX1_init_8 rfl ?_
  refine cx_bipush (v := 6) C dX1_init_9 (by decide) ?_
  refine cx_iconst (v := 5) C dX1_init_11 (by decide) ?_
  refine cx_ctor (pre := ([(h0, .inr (1, [.null, .null, .null, .null, .null, .int 0]))] : va_W)) (As := [.int 6, .int 5]) (rest := [.ref q1, .ref h0]) hA C mi_X4_init rfl hw_36 hw_35 (c_X4_init_6_5 l D k q1) dX1_init_12 ⟨(Nat.le_of_ble_eq_true rfl), (Nat.le_of_ble_eq_true rfl)⟩ ⟨(Nat.le_of_ble_eq_true rfl), (Nat.le_of_ble_eq_true rfl)⟩ rfl rfl (Nat.le_of_ble_eq_true rfl) rfl (fun u1 hu1 => ?_)
  have hu1 : u1 0 = q1 := hu1
  subst hu1
  refine cx_wsE (ws' := ([(h0, .inr (1, [.null, .null, .null, .null, .null, .int 0])), (u1 0, .inr (3, [.int 6, .int 5, .ref (u1 1), .int 0])), (u1 1, .inl (k 0, 30, .inl ((fun _ => 0))))] : va_W)) rfl ?_
  refine cx_putF (v := .ref (u1 0)) (ty := .object "NamelessBox$Rows") (ci := 1) (ws' := ([(h0, .inr (1, [.ref (u1 0), .null, .null, .null, .null, .int 0])), (u1 0, .inr (3, [.int 6, .int 5, .ref (u1 1), .int 0])), (u1 1, .inl (k 0, 30, .inl ((fun _ => 0))))] : va_W)) C hnm iX1 tyX1 tyX1_ok nmX1 dX1_init_15 0 rfl rfl 0 (by decide) hw_60 rfl rfl (by decide +kernel) rfl rfl (Nat.le_of_ble_eq_true rfl) rfl ?_
  refine cx_aload_n C dX1_init_18 0 rfl ?_
  refine cx_new (ci := 3) (fs := [.int 0, .int 0, .null, .int 0]) C hA iX4 tyX4 tyX4_ok dX1_init_19 hw_33 hw_34 hw_3 rfl (fun j hj => by rcases (show j = 0 ∨ j = 1 ∨ j = 2 ∨ j = 3 by omega) with rfl | rfl | rfl | rfl <;> rfl) (Nat.le_of_ble_eq_true rfl) (Nat.le_of_ble_eq_true rfl) (fun q2 => ?_)
  refine cx_wsE (ws' := ([(h0, .inr (1, [.ref (u1 0), .null, .null, .null, .null, .int 0])), (u1 0, .inr (3, [.int 6, .int 5, .ref (u1 1), .int 0])), (u1 1, .inl (k 0, 30, .inl ((fun _ => 0)))), (q2, .inr (3, [.int 0, .int 0, .null, .int 0]))] : va_W)) rfl ?_
  refine cx_dup C dX1_init_22 rfl ?_
  refine cx_iconst (v := 2) C dX1_init_23 (by decide) ?_
  refine cx_iconst (v := 4) C dX1_init_24 (by decide) ?_
  refine cx_ctor (pre := ([(h0, .inr (1, [.ref (u1 0), .null, .null, .null, .null, .int 0])), (u1 0, .inr (3, [.int 6, .int 5, .ref (u1 1), .int 0])), (u1 1, .inl (k 0, 30, .inl ((fun _ => 0))))] : va_W)) (As := [.int 2, .int 4]) (rest := [.ref q2, .ref h0]) hA C mi_X4_init rfl hw_36 hw_35 (c_X4_init_2_4 l D k q2) dX1_init_25 ⟨(Nat.le_of_ble_eq_true rfl), (Nat.le_of_ble_eq_true rfl)⟩ ⟨(Nat.le_of_ble_eq_true rfl), (Nat.le_of_ble_eq_true rfl)⟩ rfl rfl (Nat.le_of_ble_eq_true rfl) rfl (fun u2 hu2 => ?_)
  have hu2 : u2 0 = q2 := hu2
  subst hu2
  refine cx_wsE (ws' := ([(h0, .inr (1, [.ref (u1 0), .null, .null, .null, .null, .int 0])), (u1 0, .inr (3, [.int 6, .int 5, .ref (u1 1), .int 0])), (u1 1, .inl (k 0, 30, .inl ((fun _ => 0)))), (u2 0, .inr (3, [.int 2, .int 4, .ref (u2 1), .int 0])), (u2 1, .inl (k 0, 8, .inl ((fun _ => 0))))] : va_W)) rfl ?_
  refine cx_putF (v := .ref (u2 0)) (ty := .object "NamelessBox$Rows") (ci := 1) (ws' := ([(h0, .inr (1, [.ref (u1 0), .ref (u2 0), .null, .null, .null, .int 0])), (u1 0, .inr (3, [.int 6, .int 5, .ref (u1 1), .int 0])), (u1 1, .inl (k 0, 30, .inl ((fun _ => 0)))), (u2 0, .inr (3, [.int 2, .int 4, .ref (u2 1), .int 0])), (u2 1, .inl (k 0, 8, .inl ((fun _ => 0))))] : va_W)) C hnm iX1 tyX1 tyX1_ok nmX1 dX1_init_28 0 rfl rfl 1 (by decide) hw_64 rfl rfl (by decide +kernel) rfl rfl (Nat.le_of_ble_eq_true rfl) rfl ?_
  refine cx_aload_n C dX1_init_31 0 rfl ?_
  refine cx_new (ci := 3) (fs := [.int 0, .int 0, .null, .int 0]) C hA iX4 tyX4 tyX4_ok dX1_init_32 hw_33 hw_34 hw_3 rfl (fun j hj => by rcases (show j = 0 ∨ j = 1 ∨ j = 2 ∨ j = 3 by omega) with rfl | rfl | rfl | rfl <;> rfl) (Nat.le_of_ble_eq_true rfl) (Nat.le_of_ble_eq_true rfl) (fun q3 => ?_)
  refine cx_wsE (ws' := ([(h0, .inr (1, [.ref (u1 0), .ref (u2 0), .null, .null, .null, .int 0])), (u1 0, .inr (3, [.int 6, .int 5, .ref (u1 1), .int 0])), (u1 1, .inl (k 0, 30, .inl ((fun _ => 0)))), (u2 0, .inr (3, [.int 2, .int 4, .ref (u2 1), .int 0])), (u2 1, .inl (k 0, 8, .inl ((fun _ => 0)))), (q3, .inr (3, [.int 0, .int 0, .null, .int 0]))] : va_W)) rfl ?_
  refine cx_dup C dX1_init_35 rfl ?_
  refine cx_iconst (v := 5) C dX1_init_36 (by decide) ?_
  refine cx_bipush (v := 6) C dX1_init_37 (by decide) ?_
  refine cx_ctor (pre := ([(h0, .inr (1, [.ref (u1 0), .ref (u2 0), .null, .null, .null, .int 0])), (u1 0, .inr (3, [.int 6, .int 5, .ref (u1 1), .int 0])), (u1 1, .inl (k 0, 30, .inl ((fun _ => 0)))), (u2 0, .inr (3, [.int 2, .int 4, .ref (u2 1), .int 0])), (u2 1, .inl (k 0, 8, .inl ((fun _ => 0))))] : va_W)) (As := [.int 5, .int 6]) (rest := [.ref q3, .ref h0]) hA C mi_X4_init rfl hw_36 hw_35 (c_X4_init_5_6 l D k q3) dX1_init_39 ⟨(Nat.le_of_ble_eq_true rfl), (Nat.le_of_ble_eq_true rfl)⟩ ⟨(Nat.le_of_ble_eq_true rfl), (Nat.le_of_ble_eq_true rfl)⟩ rfl rfl (Nat.le_of_ble_eq_true rfl) rfl (fun u3 hu3 => ?_)
  have hu3 : u3 0 = q3 := hu3
  subst hu3
  refine cx_wsE (ws' := ([(h0, .inr (1, [.ref (u1 0), .ref (u2 0), .null, .null, .null, .int 0])), (u1 0, .inr (3, [.int 6, .int 5, .ref (u1 1), .int 0])), (u1 1, .inl (k 0, 30, .inl ((fun _ => 0)))), (u2 0, .inr (3, [.int 2, .int 4, .ref (u2 1), .int 0])), (u2 1, .inl (k 0, 8, .inl ((fun _ => 0)))), (u3 0, .inr (3, [.int 5, .int 6, .ref (u3 1), .int 0])), (u3 1, .inl (k 0, 30, .inl ((fun _ => 0))))] : va_W)) rfl ?_
  refine cx_putF (v := .ref (u3 0)) (ty := .object "NamelessBox$Rows") (ci := 1) (ws' := ([(h0, .inr (1, [.ref (u1 0), .ref (u2 0), .ref (u3 0), .null, .null, .int 0])), (u1 0, .inr (3, [.int 6, .int 5, .ref (u1 1), .int 0])), (u1 1, .inl (k 0, 30, .inl ((fun _ => 0)))), (u2 0, .inr (3, [.int 2, .int 4, .ref (u2 1), .int 0])), (u2 1, .inl (k 0, 8, .inl ((fun _ => 0)))), (u3 0, .inr (3, [.int 5, .int 6, .ref (u3 1), .int 0])), (u3 1, .inl (k 0, 30, .inl ((fun _ => 0))))] : va_W)) C hnm iX1 tyX1 tyX1_ok nmX1 dX1_init_42 0 rfl rfl 2 (by decide) hw_67 rfl rfl (by decide +kernel) rfl rfl (Nat.le_of_ble_eq_true rfl) rfl ?_
  refine cx_aload_n C dX1_init_45 0 rfl ?_
  refine cx_new (ci := 3) (fs := [.int 0, .int 0, .null, .int 0]) C hA iX4 tyX4 tyX4_ok dX1_init_46 hw_33 hw_34 hw_3 rfl (fun j hj => by rcases (show j = 0 ∨ j = 1 ∨ j = 2 ∨ j = 3 by omega) with rfl | rfl | rfl | rfl <;> rfl) (Nat.le_of_ble_eq_true rfl) (Nat.le_of_ble_eq_true rfl) (fun q4 => ?_)
  refine cx_wsE (ws' := ([(h0, .inr (1, [.ref (u1 0), .ref (u2 0), .ref (u3 0), .null, .null, .int 0])), (u1 0, .inr (3, [.int 6, .int 5, .ref (u1 1), .int 0])), (u1 1, .inl (k 0, 30, .inl ((fun _ => 0)))), (u2 0, .inr (3, [.int 2, .int 4, .ref (u2 1), .int 0])), (u2 1, .inl (k 0, 8, .inl ((fun _ => 0)))), (u3 0, .inr (3, [.int 5, .int 6, .ref (u3 1), .int 0])), (u3 1, .inl (k 0, 30, .inl ((fun _ => 0)))), (q4, .inr (3, [.int 0, .int 0, .null, .int 0]))] : va_W)) rfl ?_
  refine cx_dup C dX1_init_49 rfl ?_
  refine cx_iconst (v := 4) C dX1_init_50 (by decide) ?_
  refine cx_iconst (v := 4) C dX1_init_51 (by decide) ?_
  refine cx_ctor (pre := ([(h0, .inr (1, [.ref (u1 0), .ref (u2 0), .ref (u3 0), .null, .null, .int 0])), (u1 0, .inr (3, [.int 6, .int 5, .ref (u1 1), .int 0])), (u1 1, .inl (k 0, 30, .inl ((fun _ => 0)))), (u2 0, .inr (3, [.int 2, .int 4, .ref (u2 1), .int 0])), (u2 1, .inl (k 0, 8, .inl ((fun _ => 0)))), (u3 0, .inr (3, [.int 5, .int 6, .ref (u3 1), .int 0])), (u3 1, .inl (k 0, 30, .inl ((fun _ => 0))))] : va_W)) (As := [.int 4, .int 4]) (rest := [.ref q4, .ref h0]) hA C mi_X4_init rfl hw_36 hw_35 (c_X4_init_4_4 l D k q4) dX1_init_52 ⟨(Nat.le_of_ble_eq_true rfl), (Nat.le_of_ble_eq_true rfl)⟩ ⟨(Nat.le_of_ble_eq_true rfl), (Nat.le_of_ble_eq_true rfl)⟩ rfl rfl (Nat.le_of_ble_eq_true rfl) rfl (fun u4 hu4 => ?_)
  have hu4 : u4 0 = q4 := hu4
  subst hu4
  refine cx_wsE (ws' := ([(h0, .inr (1, [.ref (u1 0), .ref (u2 0), .ref (u3 0), .null, .null, .int 0])), (u1 0, .inr (3, [.int 6, .int 5, .ref (u1 1), .int 0])), (u1 1, .inl (k 0, 30, .inl ((fun _ => 0)))), (u2 0, .inr (3, [.int 2, .int 4, .ref (u2 1), .int 0])), (u2 1, .inl (k 0, 8, .inl ((fun _ => 0)))), (u3 0, .inr (3, [.int 5, .int 6, .ref (u3 1), .int 0])), (u3 1, .inl (k 0, 30, .inl ((fun _ => 0)))), (u4 0, .inr (3, [.int 4, .int 4, .ref (u4 1), .int 0])), (u4 1, .inl (k 0, 16, .inl ((fun _ => 0))))] : va_W)) rfl ?_
  refine cx_putF (v := .ref (u4 0)) (ty := .object "NamelessBox$Rows") (ci := 1) (ws' := ([(h0, .inr (1, [.ref (u1 0), .ref (u2 0), .ref (u3 0), .ref (u4 0), .null, .int 0])), (u1 0, .inr (3, [.int 6, .int 5, .ref (u1 1), .int 0])), (u1 1, .inl (k 0, 30, .inl ((fun _ => 0)))), (u2 0, .inr (3, [.int 2, .int 4, .ref (u2 1), .int 0])), (u2 1, .inl (k 0, 8, .inl ((fun _ => 0)))), (u3 0, .inr (3, [.int 5, .int 6, .ref (u3 1), .int 0])), (u3 1, .inl (k 0, 30, .inl ((fun _ => 0)))), (u4 0, .inr (3, [.int 4, .int 4, .ref (u4 1), .int 0])), (u4 1, .inl (k 0, 16, .inl ((fun _ => 0))))] : va_W)) C hnm iX1 tyX1 tyX1_ok nmX1 dX1_init_55 0 rfl rfl 3 (by decide) hw_71 rfl rfl (by decide +kernel) rfl rfl (Nat.le_of_ble_eq_true rfl) rfl ?_
  refine cx_aload_n C dX1_init_58 0 rfl ?_
  refine cx_new (ci := 3) (fs := [.int 0, .int 0, .null, .int 0]) C hA iX4 tyX4 tyX4_ok dX1_init_59 hw_33 hw_34 hw_3 rfl (fun j hj => by rcases (show j = 0 ∨ j = 1 ∨ j = 2 ∨ j = 3 by omega) with rfl | rfl | rfl | rfl <;> rfl) (Nat.le_of_ble_eq_true rfl) (Nat.le_of_ble_eq_true rfl) (fun q5 => ?_)
  refine cx_wsE (ws' := ([(h0, .inr (1, [.ref (u1 0), .ref (u2 0), .ref (u3 0), .ref (u4 0), .null, .int 0])), (u1 0, .inr (3, [.int 6, .int 5, .ref (u1 1), .int 0])), (u1 1, .inl (k 0, 30, .inl ((fun _ => 0)))), (u2 0, .inr (3, [.int 2, .int 4, .ref (u2 1), .int 0])), (u2 1, .inl (k 0, 8, .inl ((fun _ => 0)))), (u3 0, .inr (3, [.int 5, .int 6, .ref (u3 1), .int 0])), (u3 1, .inl (k 0, 30, .inl ((fun _ => 0)))), (u4 0, .inr (3, [.int 4, .int 4, .ref (u4 1), .int 0])), (u4 1, .inl (k 0, 16, .inl ((fun _ => 0)))), (q5, .inr (3, [.int 0, .int 0, .null, .int 0]))] : va_W)) rfl ?_
  refine cx_dup C dX1_init_62 rfl ?_
  refine cx_iconst (v := 3) C dX1_init_63 (by decide) ?_
  refine cx_iconst (v := 4) C dX1_init_64 (by decide) ?_
  refine cx_ctor (pre := ([(h0, .inr (1, [.ref (u1 0), .ref (u2 0), .ref (u3 0), .ref (u4 0), .null, .int 0])), (u1 0, .inr (3, [.int 6, .int 5, .ref (u1 1), .int 0])), (u1 1, .inl (k 0, 30, .inl ((fun _ => 0)))), (u2 0, .inr (3, [.int 2, .int 4, .ref (u2 1), .int 0])), (u2 1, .inl (k 0, 8, .inl ((fun _ => 0)))), (u3 0, .inr (3, [.int 5, .int 6, .ref (u3 1), .int 0])), (u3 1, .inl (k 0, 30, .inl ((fun _ => 0)))), (u4 0, .inr (3, [.int 4, .int 4, .ref (u4 1), .int 0])), (u4 1, .inl (k 0, 16, .inl ((fun _ => 0))))] : va_W)) (As := [.int 3, .int 4]) (rest := [.ref q5, .ref h0]) hA C mi_X4_init rfl hw_36 hw_35 (c_X4_init_3_4 l D k q5) dX1_init_65 ⟨(Nat.le_of_ble_eq_true rfl), (Nat.le_of_ble_eq_true rfl)⟩ ⟨(Nat.le_of_ble_eq_true rfl), (Nat.le_of_ble_eq_true rfl)⟩ rfl rfl (Nat.le_of_ble_eq_true rfl) rfl (fun u5 hu5 => ?_)
  have hu5 : u5 0 = q5 := hu5
  subst hu5
  refine cx_wsE (ws' := ([(h0, .inr (1, [.ref (u1 0), .ref (u2 0), .ref (u3 0), .ref (u4 0), .null, .int 0])), (u1 0, .inr (3, [.int 6, .int 5, .ref (u1 1), .int 0])), (u1 1, .inl (k 0, 30, .inl ((fun _ => 0)))), (u2 0, .inr (3, [.int 2, .int 4, .ref (u2 1), .int 0])), (u2 1, .inl (k 0, 8, .inl ((fun _ => 0)))), (u3 0, .inr (3, [.int 5, .int 6, .ref (u3 1), .int 0])), (u3 1, .inl (k 0, 30, .inl ((fun _ => 0)))), (u4 0, .inr (3, [.int 4, .int 4, .ref (u4 1), .int 0])), (u4 1, .inl (k 0, 16, .inl ((fun _ => 0)))), (u5 0, .inr (3, [.int 3, .int 4, .ref (u5 1), .int 0])), (u5 1, .inl (k 0, 12, .inl ((fun _ => 0))))] : va_W)) rfl ?_
  refine cx_putF (v := .ref (u5 0)) (ty := .object "NamelessBox$Rows") (ci := 1) (ws' := ([(h0, .inr (1, [.ref (u1 0), .ref (u2 0), .ref (u3 0), .ref (u4 0), .ref (u5 0), .int 0])), (u1 0, .inr (3, [.int 6, .int 5, .ref (u1 1), .int 0])), (u1 1, .inl (k 0, 30, .inl ((fun _ => 0)))), (u2 0, .inr (3, [.int 2, .int 4, .ref (u2 1), .int 0])), (u2 1, .inl (k 0, 8, .inl ((fun _ => 0)))), (u3 0, .inr (3, [.int 5, .int 6, .ref (u3 1), .int 0])), (u3 1, .inl (k 0, 30, .inl ((fun _ => 0)))), (u4 0, .inr (3, [.int 4, .int 4, .ref (u4 1), .int 0])), (u4 1, .inl (k 0, 16, .inl ((fun _ => 0)))), (u5 0, .inr (3, [.int 3, .int 4, .ref (u5 1), .int 0])), (u5 1, .inl (k 0, 12, .inl ((fun _ => 0))))] : va_W)) C hnm iX1 tyX1 tyX1_ok nmX1 dX1_init_68 0 rfl rfl 4 (by decide) hw_74 rfl rfl (by decide +kernel) rfl rfl (Nat.le_of_ble_eq_true rfl) rfl ?_
  refine cx_aload_n C dX1_init_71 0 rfl ?_
  refine cx_iconst (v := 1) C dX1_init_72 (by decide) ?_
  refine cx_putf (v := .int 1) (ty := .int) (ci := 1) (ws' := ([(h0, .inr (1, [.ref (u1 0), .ref (u2 0), .ref (u3 0), .ref (u4 0), .ref (u5 0), .int 1])), (u1 0, .inr (3, [.int 6, .int 5, .ref (u1 1), .int 0])), (u1 1, .inl (k 0, 30, .inl ((fun _ => 0)))), (u2 0, .inr (3, [.int 2, .int 4, .ref (u2 1), .int 0])), (u2 1, .inl (k 0, 8, .inl ((fun _ => 0)))), (u3 0, .inr (3, [.int 5, .int 6, .ref (u3 1), .int 0])), (u3 1, .inl (k 0, 30, .inl ((fun _ => 0)))), (u4 0, .inr (3, [.int 4, .int 4, .ref (u4 1), .int 0])), (u4 1, .inl (k 0, 16, .inl ((fun _ => 0)))), (u5 0, .inr (3, [.int 3, .int 4, .ref (u5 1), .int 0])), (u5 1, .inl (k 0, 12, .inl ((fun _ => 0))))] : va_W)) C iX1 tyX1 tyX1_ok nmX1 dX1_init_73 0 rfl rfl 5 (by decide) hw_77 rfl (by decide +kernel) rfl rfl (Nat.le_of_ble_eq_true rfl) rfl ?_
  exact cx_vretI C (cx_li [h0, u1 0, u1 1, u2 0, u2 1, u3 0, u3 1, u4 0, u4 1, u5 0, u5 1]) hA hQ hr hlk dX1_init_76 rfl rfl
