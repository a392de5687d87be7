theorem dX1_empty_0 : decode cX1_empty 0 = .ok (.aload_n 0, 1) := by decide +kernel
theorem dX1_empty_1 : decode cX1_empty 1 = .ok (.getfield 14, 3) := by decide +kernel
theorem dX1_empty_4 : decode cX1_empty 4 = .ok (.iconst 0, 1) := by decide +kernel
theorem dX1_empty_5 : decode cX1_empty 5 = .ok (.putfield 36, 3) := by decide +kernel
theorem dX1_empty_8 : decode cX1_empty 8 = .ok (.aload_n 0, 1) := by decide +kernel
theorem dX1_empty_9 : decode cX1_empty 9 = .ok (.getfield 20, 3) := by decide +kernel
theorem dX1_empty_12 : decode cX1_empty 12 = .ok (.iconst 0, 1) := by decide +kernel
theorem dX1_empty_13 : decode cX1_empty 13 = .ok (.putfield 36, 3) := by decide +kernel
theorem dX1_empty_16 : decode cX1_empty 16 = .ok (.aload_n 0, 1) := by decide +kernel
theorem dX1_empty_17 : decode cX1_empty 17 = .ok (.getfield 23, 3) := by decide +kernel
theorem dX1_empty_20 : decode cX1_empty 20 = .ok (.iconst 0, 1) := by decide +kernel
theorem dX1_empty_21 : decode cX1_empty 21 = .ok (.putfield 36, 3) := by decide +kernel
theorem dX1_empty_24 : decode cX1_empty 24 = .ok (.aload_n 0, 1) := by decide +kernel
theorem dX1_empty_25 : decode cX1_empty 25 = .ok (.getfield 26, 3) := by decide +kernel
theorem dX1_empty_28 : decode cX1_empty 28 = .ok (.iconst 0, 1) := by decide +kernel
theorem dX1_empty_29 : decode cX1_empty 29 = .ok (.putfield 36, 3) := by decide +kernel
theorem dX1_empty_32 : decode cX1_empty 32 = .ok (.aload_n 0, 1) := by decide +kernel
theorem dX1_empty_33 : decode cX1_empty 33 = .ok (.getfield 29, 3) := by decide +kernel
theorem dX1_empty_36 : decode cX1_empty 36 = .ok (.iconst 0, 1) := by decide +kernel
theorem dX1_empty_37 : decode cX1_empty 37 = .ok (.putfield 36, 3) := by decide +kernel
theorem dX1_empty_40 : decode cX1_empty 40 = .ok (.aload_n 0, 1) := by decide +kernel
theorem dX1_empty_41 : decode cX1_empty 41 = .ok (.iconst 1, 1) := by decide +kernel
theorem dX1_empty_42 : decode cX1_empty 42 = .ok (.putfield 32, 3) := by decide +kernel
theorem dX1_empty_45 : decode cX1_empty 45 = .ok (.return_, 1) := by decide +kernel
theorem me_X1_empty : cx_Mv yX1_empty cX1_empty 1 none 0 := ⟨⟨⟨by decide +kernel, by decide +kernel, by decide +kernel⟩, hw_2, hw_590⟩, hw_588, hw_589⟩
noncomputable def f_X1_empty  : Option (Int32 × Int32 × Int32 × Int32 × Int32 × Int32) := some ((1, 0, 0, 0, 0, 0))
set_option maxHeartbeats 4000000 in
set_option maxRecDepth 100000 in
theorem c_X1_empty (l : Launch) (D : va_G) (k : Nat → ClassId) (b_a : Nat → Nat) (b_c0 : Nat → Int32) (b_z0 : Int32) (b_c1 : Nat → Int32) (b_z1 : Int32) (b_c2 : Nat → Int32) (b_z2 : Int32) (b_c3 : Nat → Int32) (b_z3 : Int32) (b_c4 : Nat → Int32) (b_z4 : Int32) (b_sg : Int32) (y : Int32 × Int32 × Int32 × Int32 × Int32 × Int32) (hf : f_X1_empty = some y) : cx_M l yX1_empty cX1_empty 1 none 1 D k [.ref (b_a 0)] (wd_Box k b_a b_c0 b_z0 b_c1 b_z1 b_c2 b_z2 b_c3 b_z3 b_c4 b_z4 b_sg) (fun sz => cx_Qv D (wd_Box k b_a b_c0 b_z0 b_c1 b_z1 b_c2 b_z2 b_c3 b_z3 b_c4 b_z4 b_sg) (wd_Box k b_a b_c0 y.2.1 b_c1 y.2.2.1 b_c2 y.2.2.2.1 b_c3 y.2.2.2.2.1 b_c4 y.2.2.2.2.2 y.1) sz) := by
  refine cx_met (own := "NamelessBox$Box") (by decide) rfl (Nat.le_of_ble_eq_true rfl) ?_
  intro p e s m args below meth c A Q C hA hQ hr hlk
  refine cx_lv (lv' := [(0, .ref (b_a 0))]) [0] rfl ?_
  unfold f_X1_empty at hf
  refine cx_aload_n C dX1_empty_0 0 rfl ?_
  refine cx_get (v := .ref (b_a 1)) (ci := 1) C iX1 dX1_empty_1 0 rfl rfl 0 (by decide) hw_60 rfl ?_
  refine cx_iconst (v := 0) C dX1_empty_4 (by decide) ?_
  refine cx_putf (v := .int 0) (ty := .int) (ci := 3) (ws' := (wd_Box k b_a b_c0 0 b_c1 b_z1 b_c2 b_z2 b_c3 b_z3 b_c4 b_z4 b_sg)) C iX4 tyX4 tyX4_ok nmX4 dX1_empty_5 1 rfl rfl 3 (by decide) hw_46 rfl (by decide +kernel) rfl rfl (Nat.le_of_ble_eq_true rfl) rfl ?_
  refine cx_aload_n C dX1_empty_8 0 rfl ?_
  refine cx_get (v := .ref (b_a 3)) (ci := 1) C iX1 dX1_empty_9 0 rfl rfl 1 (by decide) hw_64 rfl ?_
  refine cx_iconst (v := 0) C dX1_empty_12 (by decide) ?_
  refine cx_putf (v := .int 0) (ty := .int) (ci := 3) (ws' := (wd_Box k b_a b_c0 0 b_c1 0 b_c2 b_z2 b_c3 b_z3 b_c4 b_z4 b_sg)) C iX4 tyX4 tyX4_ok nmX4 dX1_empty_13 3 rfl rfl 3 (by decide) hw_46 rfl (by decide +kernel) rfl rfl (Nat.le_of_ble_eq_true rfl) rfl ?_
  refine cx_aload_n C dX1_empty_16 0 rfl ?_
  refine cx_get (v := .ref (b_a 5)) (ci := 1) C iX1 dX1_empty_17 0 rfl rfl 2 (by decide) hw_67 rfl ?_
  refine cx_iconst (v := 0) C dX1_empty_20 (by decide) ?_
  refine cx_putf (v := .int 0) (ty := .int) (ci := 3) (ws' := (wd_Box k b_a b_c0 0 b_c1 0 b_c2 0 b_c3 b_z3 b_c4 b_z4 b_sg)) C iX4 tyX4 tyX4_ok nmX4 dX1_empty_21 5 rfl rfl 3 (by decide) hw_46 rfl (by decide +kernel) rfl rfl (Nat.le_of_ble_eq_true rfl) rfl ?_
  refine cx_aload_n C dX1_empty_24 0 rfl ?_
  refine cx_get (v := .ref (b_a 7)) (ci := 1) C iX1 dX1_empty_25 0 rfl rfl 3 (by decide) hw_71 rfl ?_
  refine cx_iconst (v := 0) C dX1_empty_28 (by decide) ?_
  refine cx_putf (v := .int 0) (ty := .int) (ci := 3) (ws' := (wd_Box k b_a b_c0 0 b_c1 0 b_c2 0 b_c3 0 b_c4 b_z4 b_sg)) C iX4 tyX4 tyX4_ok nmX4 dX1_empty_29 7 rfl rfl 3 (by decide) hw_46 rfl (by decide +kernel) rfl rfl (Nat.le_of_ble_eq_true rfl) rfl ?_
  refine cx_aload_n C dX1_empty_32 0 rfl ?_
  refine cx_get (v := .ref (b_a 9)) (ci := 1) C iX1 dX1_empty_33 0 rfl rfl 4 (by decide) hw_74 rfl ?_
  refine cx_iconst (v := 0) C dX1_empty_36 (by decide) ?_
  refine cx_putf (v := .int 0) (ty := .int) (ci := 3) (ws' := (wd_Box k b_a b_c0 0 b_c1 0 b_c2 0 b_c3 0 b_c4 0 b_sg)) C iX4 tyX4 tyX4_ok nmX4 dX1_empty_37 9 rfl rfl 3 (by decide) hw_46 rfl (by decide +kernel) rfl rfl (Nat.le_of_ble_eq_true rfl) rfl ?_
  refine cx_aload_n C dX1_empty_40 0 rfl ?_
  refine cx_iconst (v := 1) C dX1_empty_41 (by decide) ?_
  refine cx_putf (v := .int 1) (ty := .int) (ci := 1) (ws' := (wd_Box k b_a b_c0 0 b_c1 0 b_c2 0 b_c3 0 b_c4 0 1)) C iX1 tyX1 tyX1_ok nmX1 dX1_empty_42 0 rfl rfl 5 (by decide) hw_77 rfl (by decide +kernel) rfl rfl (Nat.le_of_ble_eq_true rfl) rfl ?_
  obtain rfl := Option.some.inj hf
  exact cx_vret C hA hQ hr hlk dX1_empty_45 rfl
theorem dX1_take_0 : decode cX1_take 0 = .ok (.aload_n 0, 1) := by decide +kernel
theorem dX1_take_1 : decode cX1_take 1 = .ok (.getfield 14, 3) := by decide +kernel
theorem dX1_take_4 : decode cX1_take 4 = .ok (.aload_n 1, 1) := by decide +kernel
theorem dX1_take_5 : decode cX1_take 5 = .ok (.getfield 14, 3) := by decide +kernel
theorem dX1_take_8 : decode cX1_take 8 = .ok (.invokevirtual 39, 3) := by decide +kernel
theorem dX1_take_11 : decode cX1_take 11 = .ok (.aload_n 0, 1) := by decide +kernel
theorem dX1_take_12 : decode cX1_take 12 = .ok (.getfield 20, 3) := by decide +kernel
theorem dX1_take_15 : decode cX1_take 15 = .ok (.aload_n 1, 1) := by decide +kernel
theorem dX1_take_16 : decode cX1_take 16 = .ok (.getfield 20, 3) := by decide +kernel
theorem dX1_take_19 : decode cX1_take 19 = .ok (.invokevirtual 39, 3) := by decide +kernel
theorem dX1_take_22 : decode cX1_take 22 = .ok (.aload_n 0, 1) := by decide +kernel
theorem dX1_take_23 : decode cX1_take 23 = .ok (.getfield 23, 3) := by decide +kernel
theorem dX1_take_26 : decode cX1_take 26 = .ok (.aload_n 1, 1) := by decide +kernel
theorem dX1_take_27 : decode cX1_take 27 = .ok (.getfield 23, 3) := by decide +kernel
theorem dX1_take_30 : decode cX1_take 30 = .ok (.invokevirtual 39, 3) := by decide +kernel
theorem dX1_take_33 : decode cX1_take 33 = .ok (.aload_n 0, 1) := by decide +kernel
theorem dX1_take_34 : decode cX1_take 34 = .ok (.getfield 26, 3) := by decide +kernel
theorem dX1_take_37 : decode cX1_take 37 = .ok (.aload_n 1, 1) := by decide +kernel
theorem dX1_take_38 : decode cX1_take 38 = .ok (.getfield 26, 3) := by decide +kernel
theorem dX1_take_41 : decode cX1_take 41 = .ok (.invokevirtual 39, 3) := by decide +kernel
theorem dX1_take_44 : decode cX1_take 44 = .ok (.aload_n 0, 1) := by decide +kernel
theorem dX1_take_45 : decode cX1_take 45 = .ok (.getfield 29, 3) := by decide +kernel
theorem dX1_take_48 : decode cX1_take 48 = .ok (.aload_n 1, 1) := by decide +kernel
theorem dX1_take_49 : decode cX1_take 49 = .ok (.getfield 29, 3) := by decide +kernel
theorem dX1_take_52 : decode cX1_take 52 = .ok (.invokevirtual 39, 3) := by decide +kernel
theorem dX1_take_55 : decode cX1_take 55 = .ok (.aload_n 0, 1) := by decide +kernel
theorem dX1_take_56 : decode cX1_take 56 = .ok (.aload_n 1, 1) := by decide +kernel
theorem dX1_take_57 : decode cX1_take 57 = .ok (.getfield 32, 3) := by decide +kernel
theorem dX1_take_60 : decode cX1_take 60 = .ok (.putfield 32, 3) := by decide +kernel
theorem dX1_take_63 : decode cX1_take 63 = .ok (.return_, 1) := by decide +kernel
theorem me_X1_take : cx_Mv yX1_take cX1_take 2 none 1 := ⟨⟨⟨by decide +kernel, by decide +kernel, by decide +kernel⟩, hw_2, hw_606⟩, hw_604, hw_605⟩
noncomputable def f_X1_take (b_c0 : Nat → Int32) (b_c1 : Nat → Int32) (b_c2 : Nat → Int32) (b_c3 : Nat → Int32) (b_c4 : Nat → Int32) (e1_c0 : Nat → Int32) (e1_z0 : Int32) (e1_c1 : Nat → Int32) (e1_z1 : Int32) (e1_c2 : Nat → Int32) (e1_z2 : Int32) (e1_c3 : Nat → Int32) (e1_z3 : Int32) (e1_c4 : Nat → Int32) (e1_z4 : Int32) (e1_sg : Int32) : Option (Int32 × Int32 × (Nat → Int32) × Int32 × (Nat → Int32) × Int32 × (Nat → Int32) × Int32 × (Nat → Int32) × Int32 × (Nat → Int32)) := Option.bind (f_X4_take 5 30 b_c0 30 e1_c0 e1_z0) (fun u1 => Option.bind (f_X4_take 4 8 b_c1 8 e1_c1 e1_z1) (fun u3 => Option.bind (f_X4_take 6 30 b_c2 30 e1_c2 e1_z2) (fun u5 => Option.bind (f_X4_take 4 16 b_c3 16 e1_c3 e1_z3) (fun u7 => Option.bind (f_X4_take 4 12 b_c4 12 e1_c4 e1_z4) (fun u9 => some ((e1_sg, u1.1, u1.2, u3.1, u3.2, u5.1, u5.2, u7.1, u7.2, u9.1, u9.2)))))))
set_option maxHeartbeats 4000000 in
set_option maxRecDepth 100000 in
theorem c_X1_take (l : Launch) (D : va_G) (k : Nat → ClassId) (b_a : Nat → Nat) (e1_a : Nat → Nat) (b_c0 : Nat → Int32) (b_z0 : Int32) (b_c1 : Nat → Int32) (b_z1 : Int32) (b_c2 : Nat → Int32) (b_z2 : Int32) (b_c3 : Nat → Int32) (b_z3 : Int32) (b_c4 : Nat → Int32) (b_z4 : Int32) (b_sg : Int32) (e1_c0 : Nat → Int32) (e1_z0 : Int32) (e1_c1 : Nat → Int32) (e1_z1 : Int32) (e1_c2 : Nat → Int32) (e1_z2 : Int32) (e1_c3 : Nat → Int32) (e1_z3 : Int32) (e1_c4 : Nat → Int32) (e1_z4 : Int32) (e1_sg : Int32) (y : Int32 × Int32 × (Nat → Int32) × Int32 × (Nat → Int32) × Int32 × (Nat → Int32) × Int32 × (Nat → Int32) × Int32 × (Nat → Int32)) (hf : f_X1_take b_c0 b_c1 b_c2 b_c3 b_c4 e1_c0 e1_z0 e1_c1 e1_z1 e1_c2 e1_z2 e1_c3 e1_z3 e1_c4 e1_z4 e1_sg = some y) : cx_M l yX1_take cX1_take 2 none 2 D k [.ref (b_a 0), .ref (e1_a 0)] (wd_Box k b_a b_c0 b_z0 b_c1 b_z1 b_c2 b_z2 b_c3 b_z3 b_c4 b_z4 b_sg ++ (wd_Box k e1_a e1_c0 e1_z0 e1_c1 e1_z1 e1_c2 e1_z2 e1_c3 e1_z3 e1_c4 e1_z4 e1_sg)) (fun sz => cx_Qv D (wd_Box k b_a b_c0 b_z0 b_c1 b_z1 b_c2 b_z2 b_c3 b_z3 b_c4 b_z4 b_sg ++ (wd_Box k e1_a e1_c0 e1_z0 e1_c1 e1_z1 e1_c2 e1_z2 e1_c3 e1_z3 e1_c4 e1_z4 e1_sg)) (wd_Box k b_a y.2.2.1 y.2.1 y.2.2.2.2.1 y.2.2.2.1 y.2.2.2.2.2.2.1 y.2.2.2.2.2.1 y.2.2.2.2.2.2.2.2.1 y.2.2.2.2.2.2.2.1 y.2.2.2.2.2.2.2.2.2.2 y.2.2.2.2.2.2.2.2.2.1 y.1 ++ (wd_Box k e1_a e1_c0 e1_z0 e1_c1 e1_z1 e1_c2 e1_z2 e1_c3 e1_z3 e1_c4 e1_z4 e1_sg)) sz) := by
  refine cx_met (own := "NamelessBox$Box") (by decide) rfl (Nat.le_of_ble_eq_true rfl) ?_
  intro p e s m args below meth c A Q C hA hQ hr hlk
  refine cx_lv (lv' := [(0, .ref (b_a 0)), (1, .ref (e1_a 0))]) [0, 1] rfl ?_
  unfold f_X1_take at hf
  refine cx_aload_n C dX1_take_0 0 rfl ?_
  refine cx_get (v := .ref (b_a 1)) (ci := 1) C iX1 dX1_take_1 0 rfl rfl 0 (by decide) hw_60 rfl ?_
  refine cx_aload_n C dX1_take_4 1 rfl ?_
  refine cx_get (v := .ref (e1_a 1)) (ci := 1) C iX1 dX1_take_5 11 rfl rfl 0 (by decide) hw_60 rfl ?_
  obtain ⟨u1, e2, hf⟩ := cx_bd_at hf
  refine cx_cvv (q := (RX4, TX4, 4)) (As := [.ref (e1_a 1)]) (rest := []) (ws' := (wd_Box k b_a u1.2 u1.1 b_c1 b_z1 b_c2 b_z2 b_c3 b_z3 b_c4 b_z4 b_sg ++ (wd_Box k e1_a e1_c0 e1_z0 e1_c1 e1_z1 e1_c2 e1_z2 e1_c3 e1_z3 e1_c4 e1_z4 e1_sg))) hA C me_X4_take hw_607 (c_X4_take l D k (b_a 1) (b_a 2) (e1_a 1) (e1_a 2) 6 5 30 b_c0 b_z0 6 5 30 e1_c0 e1_z0 u1 e2) dX1_take_8 ⟨Nat.le_of_ble_eq_true rfl, Nat.le_of_ble_eq_true rfl⟩ ⟨Nat.zero_le _, Nat.zero_le _⟩ rfl rfl (Nat.le_of_ble_eq_true rfl) rfl rfl [1, 2, 12, 13] rfl (by decide) rfl rfl ?_
  clear e2
  refine cx_aload_n C dX1_take_11 0 rfl ?_
  refine cx_get (v := .ref (b_a 3)) (ci := 1) C iX1 dX1_take_12 0 rfl rfl 1 (by decide) hw_64 rfl ?_
  refine cx_aload_n C dX1_take_15 1 rfl ?_
  refine cx_get (v := .ref (e1_a 3)) (ci := 1) C iX1 dX1_take_16 11 rfl rfl 1 (by decide) hw_64 rfl ?_
  obtain ⟨u3, e4, hf⟩ := cx_bd_at hf
  refine cx_cvv (q := (RX4, TX4, 4)) (As := [.ref (e1_a 3)]) (rest := []) (ws' := (wd_Box k b_a u1.2 u1.1 u3.2 u3.1 b_c2 b_z2 b_c3 b_z3 b_c4 b_z4 b_sg ++ (wd_Box k e1_a e1_c0 e1_z0 e1_c1 e1_z1 e1_c2 e1_z2 e1_c3 e1_z3 e1_c4 e1_z4 e1_sg))) hA C me_X4_take hw_607 (c_X4_take l D k (b_a 3) (b_a 4) (e1_a 3) (e1_a 4) 2 4 8 b_c1 b_z1 2 4 8 e1_c1 e1_z1 u3 e4) dX1_take_19 ⟨Nat.le_of_ble_eq_true rfl, Nat.le_of_ble_eq_true rfl⟩ ⟨Nat.zero_le _, Nat.zero_le _⟩ rfl rfl (Nat.le_of_ble_eq_true rfl) rfl rfl [3, 4, 14, 15] rfl (by decide) rfl rfl ?_
  clear e4
  refine cx_aload_n C dX1_take_22 0 rfl ?_
  refine cx_get (v := .ref (b_a 5)) (ci := 1) C iX1 dX1_take_23 0 rfl rfl 2 (by decide) hw_67 rfl ?_
  refine cx_aload_n C dX1_take_26 1 rfl ?_
  refine cx_get (v := .ref (e1_a 5)) (ci := 1) C iX1 dX1_take_27 11 rfl rfl 2 (by decide) hw_67 rfl ?_
  obtain ⟨u5, e6, hf⟩ := cx_bd_at hf
  refine cx_cvv (q := (RX4, TX4, 4)) (As := [.ref (e1_a 5)]) (rest := []) (ws' := (wd_Box k b_a u1.2 u1.1 u3.2 u3.1 u5.2 u5.1 b_c3 b_z3 b_c4 b_z4 b_sg ++ (wd_Box k e1_a e1_c0 e1_z0 e1_c1 e1_z1 e1_c2 e1_z2 e1_c3 e1_z3 e1_c4 e1_z4 e1_sg))) hA C me_X4_take hw_607 (c_X4_take l D k (b_a 5) (b_a 6) (e1_a 5) (e1_a 6) 5 6 30 b_c2 b_z2 5 6 30 e1_c2 e1_z2 u5 e6) dX1_take_30 ⟨Nat.le_of_ble_eq_true rfl, Nat.le_of_ble_eq_true rfl⟩ ⟨Nat.zero_le _, Nat.zero_le _⟩ rfl rfl (Nat.le_of_ble_eq_true rfl) rfl rfl [5, 6, 16, 17] rfl (by decide) rfl rfl ?_
  clear e6
  refine cx_aload_n C dX1_take_33 0 rfl ?_
  refine cx_get (v := .ref (b_a 7)) (ci := 1) C iX1 dX1_take_34 0 rfl rfl 3 (by decide) hw_71 rfl ?_
  refine cx_aload_n C dX1_take_37 1 rfl ?_
  refine cx_get (v := .ref (e1_a 7)) (ci := 1) C iX1 dX1_take_38 11 rfl rfl 3 (by decide) hw_71 rfl ?_
  obtain ⟨u7, e8, hf⟩ := cx_bd_at hf
  refine cx_cvv (q := (RX4, TX4, 4)) (As := [.ref (e1_a 7)]) (rest := []) (ws' := (wd_Box k b_a u1.2 u1.1 u3.2 u3.1 u5.2 u5.1 u7.2 u7.1 b_c4 b_z4 b_sg ++ (wd_Box k e1_a e1_c0 e1_z0 e1_c1 e1_z1 e1_c2 e1_z2 e1_c3 e1_z3 e1_c4 e1_z4 e1_sg))) hA C me_X4_take hw_607 (c_X4_take l D k (b_a 7) (b_a 8) (e1_a 7) (e1_a 8) 4 4 16 b_c3 b_z3 4 4 16 e1_c3 e1_z3 u7 e8) dX1_take_41 ⟨Nat.le_of_ble_eq_true rfl, Nat.le_of_ble_eq_true rfl⟩ ⟨Nat.zero_le _, Nat.zero_le _⟩ rfl rfl (Nat.le_of_ble_eq_true rfl) rfl rfl [7, 8, 18, 19] rfl (by decide) rfl rfl ?_
  clear e8
  refine cx_aload_n C dX1_take_44 0 rfl ?_
  refine cx_get (v := .ref (b_a 9)) (ci := 1) C iX1 dX1_take_45 0 rfl rfl 4 (by decide) hw_74 rfl ?_
  refine cx_aload_n C dX1_take_48 1 rfl ?_
  refine cx_get (v := .ref (e1_a 9)) (ci := 1) C iX1 dX1_take_49 11 rfl rfl 4 (by decide) hw_74 rfl ?_
  obtain ⟨u9, e10, hf⟩ := cx_bd_at hf
  refine cx_cvv (q := (RX4, TX4, 4)) (As := [.ref (e1_a 9)]) (rest := []) (ws' := (wd_Box k b_a u1.2 u1.1 u3.2 u3.1 u5.2 u5.1 u7.2 u7.1 u9.2 u9.1 b_sg ++ (wd_Box k e1_a e1_c0 e1_z0 e1_c1 e1_z1 e1_c2 e1_z2 e1_c3 e1_z3 e1_c4 e1_z4 e1_sg))) hA C me_X4_take hw_607 (c_X4_take l D k (b_a 9) (b_a 10) (e1_a 9) (e1_a 10) 3 4 12 b_c4 b_z4 3 4 12 e1_c4 e1_z4 u9 e10) dX1_take_52 ⟨Nat.le_of_ble_eq_true rfl, Nat.le_of_ble_eq_true rfl⟩ ⟨Nat.zero_le _, Nat.zero_le _⟩ rfl rfl (Nat.le_of_ble_eq_true rfl) rfl rfl [9, 10, 20, 21] rfl (by decide) rfl rfl ?_
  clear e10
  refine cx_aload_n C dX1_take_55 0 rfl ?_
  refine cx_aload_n C dX1_take_56 1 rfl ?_
  refine cx_get (v := .int e1_sg) (ci := 1) C iX1 dX1_take_57 11 rfl rfl 5 (by decide) hw_77 rfl ?_
  refine cx_putf (v := .int e1_sg) (ty := .int) (ci := 1) (ws' := (wd_Box k b_a u1.2 u1.1 u3.2 u3.1 u5.2 u5.1 u7.2 u7.1 u9.2 u9.1 e1_sg ++ (wd_Box k e1_a e1_c0 e1_z0 e1_c1 e1_z1 e1_c2 e1_z2 e1_c3 e1_z3 e1_c4 e1_z4 e1_sg))) C iX1 tyX1 tyX1_ok nmX1 dX1_take_60 0 rfl rfl 5 (by decide) hw_77 rfl (by decide +kernel) rfl rfl (Nat.le_of_ble_eq_true rfl) rfl ?_
  obtain rfl := Option.some.inj hf
  exact cx_vret C hA hQ hr hlk dX1_take_63 rfl
theorem dX1_addPerson_0 : decode cX1_addPerson 0 = .ok (.iload_n 1, 1) := by decide +kernel
theorem dX1_addPerson_1 : decode cX1_addPerson 1 = .ok (.iconst 0, 1) := by decide +kernel
theorem dX1_addPerson_2 : decode cX1_addPerson 2 = .ok (.bipush 99, 2) := by decide +kernel
theorem dX1_addPerson_4 : decode cX1_addPerson 4 = .ok (.invokestatic 43, 3) := by decide +kernel
theorem dX1_addPerson_7 : decode cX1_addPerson 7 = .ok (.ifCond .eq 34, 3) := by decide +kernel
theorem dX1_addPerson_10 : decode cX1_addPerson 10 = .ok (.iload_n 2, 1) := by decide +kernel
theorem dX1_addPerson_11 : decode cX1_addPerson 11 = .ok (.iload_n 1, 1) := by decide +kernel
theorem dX1_addPerson_12 : decode cX1_addPerson 12 = .ok (.bipush 100, 2) := by decide +kernel
theorem dX1_addPerson_14 : decode cX1_addPerson 14 = .ok (.invokestatic 43, 3) := by decide +kernel
theorem dX1_addPerson_17 : decode cX1_addPerson 17 = .ok (.ifCond .eq 24, 3) := by decide +kernel
theorem dX1_addPerson_20 : decode cX1_addPerson 20 = .ok (.iload_n 3, 1) := by decide +kernel
theorem dX1_addPerson_21 : decode cX1_addPerson 21 = .ok (.iconst 0, 1) := by decide +kernel
theorem dX1_addPerson_22 : decode cX1_addPerson 22 = .ok (.bipush 15, 2) := by decide +kernel
theorem dX1_addPerson_24 : decode cX1_addPerson 24 = .ok (.invokestatic 43, 3) := by decide +kernel
theorem dX1_addPerson_27 : decode cX1_addPerson 27 = .ok (.ifCond .eq 14, 3) := by decide +kernel
theorem dX1_addPerson_30 : decode cX1_addPerson 30 = .ok (.iload 4, 2) := by decide +kernel
theorem dX1_addPerson_32 : decode cX1_addPerson 32 = .ok (.iconst 0, 1) := by decide +kernel
theorem dX1_addPerson_33 : decode cX1_addPerson 33 = .ok (.bipush 15, 2) := by decide +kernel
theorem dX1_addPerson_35 : decode cX1_addPerson 35 = .ok (.invokestatic 43, 3) := by decide +kernel
theorem dX1_addPerson_38 : decode cX1_addPerson 38 = .ok (.ifCond .ne 6, 3) := by decide +kernel
theorem dX1_addPerson_41 : decode cX1_addPerson 41 = .ok (.bipush (-2), 2) := by decide +kernel
theorem dX1_addPerson_43 : decode cX1_addPerson 43 = .ok (.ireturn, 1) := by decide +kernel
theorem dX1_addPerson_44 : decode cX1_addPerson 44 = .ok (.aload_n 0, 1) := by decide +kernel
theorem dX1_addPerson_45 : decode cX1_addPerson 45 = .ok (.getfield 14, 3) := by decide +kernel
theorem dX1_addPerson_48 : decode cX1_addPerson 48 = .ok (.invokevirtual 47, 3) := by decide +kernel
theorem dX1_addPerson_51 : decode cX1_addPerson 51 = .ok (.ifCond .eq 6, 3) := by decide +kernel
theorem dX1_addPerson_54 : decode cX1_addPerson 54 = .ok (.bipush (-4), 2) := by decide +kernel
theorem dX1_addPerson_56 : decode cX1_addPerson 56 = .ok (.ireturn, 1) := by decide +kernel
theorem dX1_addPerson_57 : decode cX1_addPerson 57 = .ok (.aload_n 0, 1) := by decide +kernel
theorem dX1_addPerson_58 : decode cX1_addPerson 58 = .ok (.getfield 14, 3) := by decide +kernel
theorem dX1_addPerson_61 : decode cX1_addPerson 61 = .ok (.invokevirtual 51, 3) := by decide +kernel
theorem dX1_addPerson_64 : decode cX1_addPerson 64 = .ok (.istore 5, 2) := by decide +kernel
theorem dX1_addPerson_66 : decode cX1_addPerson 66 = .ok (.aload_n 0, 1) := by decide +kernel
theorem dX1_addPerson_67 : decode cX1_addPerson 67 = .ok (.getfield 14, 3) := by decide +kernel
theorem dX1_addPerson_70 : decode cX1_addPerson 70 = .ok (.iload 5, 2) := by decide +kernel
theorem dX1_addPerson_72 : decode cX1_addPerson 72 = .ok (.iconst 0, 1) := by decide +kernel
theorem dX1_addPerson_73 : decode cX1_addPerson 73 = .ok (.iload_n 1, 1) := by decide +kernel
theorem dX1_addPerson_74 : decode cX1_addPerson 74 = .ok (.invokevirtual 55, 3) := by decide +kernel
theorem dX1_addPerson_77 : decode cX1_addPerson 77 = .ok (.aload_n 0, 1) := by decide +kernel
theorem dX1_addPerson_78 : decode cX1_addPerson 78 = .ok (.getfield 14, 3) := by decide +kernel
theorem dX1_addPerson_81 : decode cX1_addPerson 81 = .ok (.iload 5, 2) := by decide +kernel
theorem dX1_addPerson_83 : decode cX1_addPerson 83 = .ok (.iconst 1, 1) := by decide +kernel
theorem dX1_addPerson_84 : decode cX1_addPerson 84 = .ok (.iload_n 2, 1) := by decide +kernel
theorem dX1_addPerson_85 : decode cX1_addPerson 85 = .ok (.invokevirtual 55, 3) := by decide +kernel
theorem dX1_addPerson_88 : decode cX1_addPerson 88 = .ok (.aload_n 0, 1) := by decide +kernel
theorem dX1_addPerson_89 : decode cX1_addPerson 89 = .ok (.getfield 14, 3) := by decide +kernel
theorem dX1_addPerson_92 : decode cX1_addPerson 92 = .ok (.iload 5, 2) := by decide +kernel
theorem dX1_addPerson_94 : decode cX1_addPerson 94 = .ok (.iconst 2, 1) := by decide +kernel
theorem dX1_addPerson_95 : decode cX1_addPerson 95 = .ok (.iload_n 3, 1) := by decide +kernel
theorem dX1_addPerson_96 : decode cX1_addPerson 96 = .ok (.invokevirtual 55, 3) := by decide +kernel
theorem dX1_addPerson_99 : decode cX1_addPerson 99 = .ok (.aload_n 0, 1) := by decide +kernel
theorem dX1_addPerson_100 : decode cX1_addPerson 100 = .ok (.getfield 14, 3) := by decide +kernel
theorem dX1_addPerson_103 : decode cX1_addPerson 103 = .ok (.iload 5, 2) := by decide +kernel
theorem dX1_addPerson_105 : decode cX1_addPerson 105 = .ok (.iconst 3, 1) := by decide +kernel
theorem dX1_addPerson_106 : decode cX1_addPerson 106 = .ok (.iload 4, 2) := by decide +kernel
theorem dX1_addPerson_108 : decode cX1_addPerson 108 = .ok (.invokevirtual 55, 3) := by decide +kernel
theorem dX1_addPerson_111 : decode cX1_addPerson 111 = .ok (.aload_n 0, 1) := by decide +kernel
theorem dX1_addPerson_112 : decode cX1_addPerson 112 = .ok (.getfield 14, 3) := by decide +kernel
theorem dX1_addPerson_115 : decode cX1_addPerson 115 = .ok (.iload 5, 2) := by decide +kernel
theorem dX1_addPerson_117 : decode cX1_addPerson 117 = .ok (.iconst 4, 1) := by decide +kernel
theorem dX1_addPerson_118 : decode cX1_addPerson 118 = .ok (.iconst (-1), 1) := by decide +kernel
theorem dX1_addPerson_119 : decode cX1_addPerson 119 = .ok (.invokevirtual 55, 3) := by decide +kernel
theorem dX1_addPerson_122 : decode cX1_addPerson 122 = .ok (.aload_n 0, 1) := by decide +kernel
theorem dX1_addPerson_123 : decode cX1_addPerson 123 = .ok (.getfield 14, 3) := by decide +kernel
theorem dX1_addPerson_126 : decode cX1_addPerson 126 = .ok (.iload 5, 2) := by decide +kernel
theorem dX1_addPerson_128 : decode cX1_addPerson 128 = .ok (.iconst 5, 1) := by decide +kernel
theorem dX1_addPerson_129 : decode cX1_addPerson 129 = .ok (.iconst 2, 1) := by decide +kernel
theorem dX1_addPerson_130 : decode cX1_addPerson 130 = .ok (.invokevirtual 55, 3) := by decide +kernel
theorem dX1_addPerson_133 : decode cX1_addPerson 133 = .ok (.iload 5, 2) := by decide +kernel
theorem dX1_addPerson_135 : decode cX1_addPerson 135 = .ok (.ireturn, 1) := by decide +kernel
theorem me_X1_addPerson : cx_Mv yX1_addPerson cX1_addPerson 6 (some .int) 4 := ⟨⟨⟨by decide +kernel, by decide +kernel, by decide +kernel⟩, hw_2, hw_334⟩, hw_332, hw_333⟩
noncomputable def f_X1_addPerson (b_c0 : Nat → Int32) (b_z0 : Int32) (p1 : Int32) (p2 : Int32) (p3 : Int32) (p4 : Int32) : Option (Int32 × Int32 × (Nat → Int32)) := Option.bind (f_X8_within p1 0 99) (fun u1 => if u1 = 0 then (some (((-2), b_z0, b_c0))) else (Option.bind (f_X8_within p2 p1 100) (fun u4 => if u4 = 0 then (some (((-2), b_z0, b_c0))) else (Option.bind (f_X8_within p3 0 15) (fun u7 => if u7 = 0 then (some (((-2), b_z0, b_c0))) else (Option.bind (f_X8_within p4 0 15) (fun u10 => if u10 = 0 then (some (((-2), b_z0, b_c0))) else (Option.bind (f_X4_isFull 5 b_z0) (fun u13 => if u13 = 0 then (Option.bind (f_X4_grow 5 b_z0) (fun u16 => Option.bind (f_X4_put 6 30 b_c0 u16.2 u16.1 0 p1) (fun u18 => Option.bind (f_X4_put 6 30 u18 u16.2 u16.1 1 p2) (fun u20 => Option.bind (f_X4_put 6 30 u20 u16.2 u16.1 2 p3) (fun u22 => Option.bind (f_X4_put 6 30 u22 u16.2 u16.1 3 p4) (fun u24 => Option.bind (f_X4_put 6 30 u24 u16.2 u16.1 4 ((-1))) (fun u26 => Option.bind (f_X4_put 6 30 u26 u16.2 u16.1 5 2) (fun u28 => some ((u16.1, u16.2, u28)))))))))) else (some (((-4), b_z0, b_c0))))))))))))
set_option maxHeartbeats 4000000 in
set_option maxRecDepth 100000 in
theorem c_X1_addPerson (l : Launch) (D : va_G) (k : Nat → ClassId) (b_a : Nat → Nat) (b_c0 : Nat → Int32) (b_z0 : Int32) (b_c1 : Nat → Int32) (b_z1 : Int32) (b_c2 : Nat → Int32) (b_z2 : Int32) (b_c3 : Nat → Int32) (b_z3 : Int32) (b_c4 : Nat → Int32) (b_z4 : Int32) (b_sg : Int32) (p1 : Int32) (p2 : Int32) (p3 : Int32) (p4 : Int32) (y : Int32 × Int32 × (Nat → Int32)) (hf : f_X1_addPerson b_c0 b_z0 p1 p2 p3 p4 = some y) : cx_M l yX1_addPerson cX1_addPerson 6 (some .int) 3 D k [.ref (b_a 0), .int p1, .int p2, .int p3, .int p4] (wd_Box k b_a b_c0 b_z0 b_c1 b_z1 b_c2 b_z2 b_c3 b_z3 b_c4 b_z4 b_sg) (fun sz => cx_Qi D y.1 (wd_Box k b_a b_c0 b_z0 b_c1 b_z1 b_c2 b_z2 b_c3 b_z3 b_c4 b_z4 b_sg) (wd_Box k b_a y.2.2 y.2.1 b_c1 b_z1 b_c2 b_z2 b_c3 b_z3 b_c4 b_z4 b_sg) sz) := by
  refine cx_met (own := "NamelessBox$Box") (by decide) rfl (Nat.le_of_ble_eq_true rfl) ?_
  intro p e s m args below meth c A Q C hA hQ hr hlk
  refine cx_lv (lv' := [(0, .ref (b_a 0)), (1, .int p1), (2, .int p2), (3, .int p3), (4, .int p4)]) [0, 1, 2, 3, 4] rfl ?_
  unfold f_X1_addPerson at hf
  refine cx_iload_n C dX1_addPerson_0 1 rfl ?_
  refine cx_iconst (v := 0) C dX1_addPerson_1 (by decide) ?_
  refine cx_bipush (v := 99) C dX1_addPerson_2 (by decide) ?_
  obtain ⟨u1, e2, hf⟩ := cx_bd_at hf
  refine cx_Kni (As := [.int p1, .int 0, .int 99]) (rest := []) hA C me_X8_within (fun h => h.2.2.1) (c_X8_within l D k p1 0 99 u1 e2) dX1_addPerson_4 ⟨Nat.le_of_ble_eq_true rfl, Nat.le_of_ble_eq_true rfl⟩ ⟨Nat.zero_le _, Nat.zero_le _⟩ rfl rfl (Nat.le_of_ble_eq_true rfl) [] rfl (by decide) ?_
  clear e2
  refine cx_if_eq (tgt := 41) C dX1_addPerson_7 (by decide) (fun c3 => ?_) (fun c3 => ?_)
  · have hf := cx_if_t hf c3
    clear c3
    refine cx_bipush (v := (-2)) C dX1_addPerson_41 (by decide) ?_
    obtain rfl := Option.some.inj hf
    exact cx_iret C hA hQ hr hlk dX1_addPerson_43 rfl rfl
  · have hf := cx_if_f hf c3
    clear c3
    refine cx_iload_n C dX1_addPerson_10 2 rfl ?_
    refine cx_iload_n C dX1_addPerson_11 1 rfl ?_
    refine cx_bipush (v := 100) C dX1_addPerson_12 (by decide) ?_
    obtain ⟨u4, e5, hf⟩ := cx_bd_at hf
    refine cx_Kni (As := [.int p2, .int p1, .int 100]) (rest := []) hA C me_X8_within (fun h => h.2.2.1) (c_X8_within l D k p2 p1 100 u4 e5) dX1_addPerson_14 ⟨Nat.le_of_ble_eq_true rfl, Nat.le_of_ble_eq_true rfl⟩ ⟨Nat.zero_le _, Nat.zero_le _⟩ rfl rfl (Nat.le_of_ble_eq_true rfl) [] rfl (by decide) ?_
    clear e5
    refine cx_if_eq (tgt := 41) C dX1_addPerson_17 (by decide) (fun c6 => ?_) (fun c6 => ?_)
    · have hf := cx_if_t hf c6
      clear c6
      refine cx_bipush (v := (-2)) C dX1_addPerson_41 (by decide) ?_
      obtain rfl := Option.some.inj hf
      exact cx_iret C hA hQ hr hlk dX1_addPerson_43 rfl rfl
    · have hf := cx_if_f hf c6
      clear c6
      refine cx_iload_n C dX1_addPerson_20 3 rfl ?_
      refine cx_iconst (v := 0) C dX1_addPerson_21 (by decide) ?_
      refine cx_bipush (v := 15) C dX1_addPerson_22 (by decide) ?_
      obtain ⟨u7, e8, hf⟩ := cx_bd_at hf
      refine cx_Kni (As := [.int p3, .int 0, .int 15]) (rest := []) hA C me_X8_within (fun h => h.2.2.1) (c_X8_within l D k p3 0 15 u7 e8) dX1_addPerson_24 ⟨Nat.le_of_ble_eq_true rfl, Nat.le_of_ble_eq_true rfl⟩ ⟨Nat.zero_le _, Nat.zero_le _⟩ rfl rfl (Nat.le_of_ble_eq_true rfl) [] rfl (by decide) ?_
      clear e8
      refine cx_if_eq (tgt := 41) C dX1_addPerson_27 (by decide) (fun c9 => ?_) (fun c9 => ?_)
      · have hf := cx_if_t hf c9
        clear c9
        refine cx_bipush (v := (-2)) C dX1_addPerson_41 (by decide) ?_
        obtain rfl := Option.some.inj hf
        exact cx_iret C hA hQ hr hlk dX1_addPerson_43 rfl rfl
      · have hf := cx_if_f hf c9
        clear c9
        refine cx_iload C dX1_addPerson_30 4 rfl ?_
        refine cx_iconst (v := 0) C dX1_addPerson_32 (by decide) ?_
        refine cx_bipush (v := 15) C dX1_addPerson_33 (by decide) ?_
        obtain ⟨u10, e11, hf⟩ := cx_bd_at hf
        refine cx_Kni (As := [.int p4, .int 0, .int 15]) (rest := []) hA C me_X8_within (fun h => h.2.2.1) (c_X8_within l D k p4 0 15 u10 e11) dX1_addPerson_35 ⟨Nat.le_of_ble_eq_true rfl, Nat.le_of_ble_eq_true rfl⟩ ⟨Nat.zero_le _, Nat.zero_le _⟩ rfl rfl (Nat.le_of_ble_eq_true rfl) [] rfl (by decide) ?_
        clear e11
        refine cx_if_ne (tgt := 44) C dX1_addPerson_38 (by decide) (fun c12 => ?_) (fun c12 => ?_)
        · have hf := cx_if_f hf c12
          clear c12
          refine cx_aload_n C dX1_addPerson_44 0 rfl ?_
          refine cx_get (v := .ref (b_a 1)) (ci := 1) C iX1 dX1_addPerson_45 0 rfl rfl 0 (by decide) hw_60 rfl ?_
          obtain ⟨u13, e14, hf⟩ := cx_bd_at hf
          refine cx_Kvi (q := (RX4, TX4, 4)) (As := []) (rest := []) hA C me_X4_isFull hw_338 (c_X4_isFull l D k (b_a 1) (b_a 2) 6 5 30 b_c0 b_z0 u13 e14) dX1_addPerson_48 ⟨Nat.le_of_ble_eq_true rfl, Nat.le_of_ble_eq_true rfl⟩ ⟨Nat.zero_le _, Nat.zero_le _⟩ rfl rfl (Nat.le_of_ble_eq_true rfl) rfl rfl [1, 2] rfl (by decide) ?_
          clear e14
          refine cx_if_eq (tgt := 57) C dX1_addPerson_51 (by decide) (fun c15 => ?_) (fun c15 => ?_)
          · have hf := cx_if_t hf c15
            clear c15
            refine cx_aload_n C dX1_addPerson_57 0 rfl ?_
            refine cx_get (v := .ref (b_a 1)) (ci := 1) C iX1 dX1_addPerson_58 0 rfl rfl 0 (by decide) hw_60 rfl ?_
            obtain ⟨u16, e17, hf⟩ := cx_bd_at hf
            refine cx_cvi (q := (RX4, TX4, 4)) (As := []) (rest := []) (ws' := (wd_Box k b_a b_c0 u16.2 b_c1 b_z1 b_c2 b_z2 b_c3 b_z3 b_c4 b_z4 b_sg)) hA C me_X4_grow hw_342 (c_X4_grow l D k (b_a 1) (b_a 2) 6 5 30 b_c0 b_z0 u16 e17) dX1_addPerson_61 ⟨Nat.le_of_ble_eq_true rfl, Nat.le_of_ble_eq_true rfl⟩ ⟨Nat.zero_le _, Nat.zero_le _⟩ rfl rfl (Nat.le_of_ble_eq_true rfl) rfl rfl [1, 2] rfl (by decide) rfl rfl ?_
            clear e17
            refine cx_istore (lv' := [(5, .int u16.1), (0, .ref (b_a 0)), (1, .int p1), (2, .int p2), (3, .int p3), (4, .int p4)]) C dX1_addPerson_64 (by decide) rfl ?_
            refine cx_aload_n C dX1_addPerson_66 1 rfl ?_
            refine cx_get (v := .ref (b_a 1)) (ci := 1) C iX1 dX1_addPerson_67 0 rfl rfl 0 (by decide) hw_60 rfl ?_
            refine cx_iload C dX1_addPerson_70 0 rfl ?_
            refine cx_iconst (v := 0) C dX1_addPerson_72 (by decide) ?_
            refine cx_iload_n C dX1_addPerson_73 2 rfl ?_
            obtain ⟨u18, e19, hf⟩ := cx_bd_at hf
            refine cx_cvv (q := (RX4, TX4, 4)) (As := [.int u16.1, .int 0, .int p1]) (rest := []) (ws' := (wd_Box k b_a u18 u16.2 b_c1 b_z1 b_c2 b_z2 b_c3 b_z3 b_c4 b_z4 b_sg)) hA C me_X4_put hw_347 (c_X4_put l D k (b_a 1) (b_a 2) 6 5 30 b_c0 u16.2 u16.1 0 p1 u18 e19) dX1_addPerson_74 ⟨Nat.le_of_ble_eq_true rfl, Nat.le_of_ble_eq_true rfl⟩ ⟨Nat.zero_le _, Nat.zero_le _⟩ rfl rfl (Nat.le_of_ble_eq_true rfl) rfl rfl [1, 2] rfl (by decide) rfl rfl ?_
            clear e19
            refine cx_aload_n C dX1_addPerson_77 1 rfl ?_
            refine cx_get (v := .ref (b_a 1)) (ci := 1) C iX1 dX1_addPerson_78 0 rfl rfl 0 (by decide) hw_60 rfl ?_
            refine cx_iload C dX1_addPerson_81 0 rfl ?_
            refine cx_iconst (v := 1) C dX1_addPerson_83 (by decide) ?_
            refine cx_iload_n C dX1_addPerson_84 3 rfl ?_
            obtain ⟨u20, e21, hf⟩ := cx_bd_at hf
            refine cx_cvv (q := (RX4, TX4, 4)) (As := [.int u16.1, .int 1, .int p2]) (rest := []) (ws' := (wd_Box k b_a u20 u16.2 b_c1 b_z1 b_c2 b_z2 b_c3 b_z3 b_c4 b_z4 b_sg)) hA C me_X4_put hw_347 (c_X4_put l D k (b_a 1) (b_a 2) 6 5 30 u18 u16.2 u16.1 1 p2 u20 e21) dX1_addPerson_85 ⟨Nat.le_of_ble_eq_true rfl, Nat.le_of_ble_eq_true rfl⟩ ⟨Nat.zero_le _, Nat.zero_le _⟩ rfl rfl (Nat.le_of_ble_eq_true rfl) rfl rfl [1, 2] rfl (by decide) rfl rfl ?_
            clear e21
            refine cx_aload_n C dX1_addPerson_88 1 rfl ?_
            refine cx_get (v := .ref (b_a 1)) (ci := 1) C iX1 dX1_addPerson_89 0 rfl rfl 0 (by decide) hw_60 rfl ?_
            refine cx_iload C dX1_addPerson_92 0 rfl ?_
            refine cx_iconst (v := 2) C dX1_addPerson_94 (by decide) ?_
            refine cx_iload_n C dX1_addPerson_95 4 rfl ?_
            obtain ⟨u22, e23, hf⟩ := cx_bd_at hf
            refine cx_cvv (q := (RX4, TX4, 4)) (As := [.int u16.1, .int 2, .int p3]) (rest := []) (ws' := (wd_Box k b_a u22 u16.2 b_c1 b_z1 b_c2 b_z2 b_c3 b_z3 b_c4 b_z4 b_sg)) hA C me_X4_put hw_347 (c_X4_put l D k (b_a 1) (b_a 2) 6 5 30 u20 u16.2 u16.1 2 p3 u22 e23) dX1_addPerson_96 ⟨Nat.le_of_ble_eq_true rfl, Nat.le_of_ble_eq_true rfl⟩ ⟨Nat.zero_le _, Nat.zero_le _⟩ rfl rfl (Nat.le_of_ble_eq_true rfl) rfl rfl [1, 2] rfl (by decide) rfl rfl ?_
            clear e23
            refine cx_aload_n C dX1_addPerson_99 1 rfl ?_
            refine cx_get (v := .ref (b_a 1)) (ci := 1) C iX1 dX1_addPerson_100 0 rfl rfl 0 (by decide) hw_60 rfl ?_
            refine cx_iload C dX1_addPerson_103 0 rfl ?_
            refine cx_iconst (v := 3) C dX1_addPerson_105 (by decide) ?_
            refine cx_iload C dX1_addPerson_106 5 rfl ?_
            obtain ⟨u24, e25, hf⟩ := cx_bd_at hf
            refine cx_cvv (q := (RX4, TX4, 4)) (As := [.int u16.1, .int 3, .int p4]) (rest := []) (ws' := (wd_Box k b_a u24 u16.2 b_c1 b_z1 b_c2 b_z2 b_c3 b_z3 b_c4 b_z4 b_sg)) hA C me_X4_put hw_347 (c_X4_put l D k (b_a 1) (b_a 2) 6 5 30 u22 u16.2 u16.1 3 p4 u24 e25) dX1_addPerson_108 ⟨Nat.le_of_ble_eq_true rfl, Nat.le_of_ble_eq_true rfl⟩ ⟨Nat.zero_le _, Nat.zero_le _⟩ rfl rfl (Nat.le_of_ble_eq_true rfl) rfl rfl [1, 2] rfl (by decide) rfl rfl ?_
            clear e25
            refine cx_aload_n C dX1_addPerson_111 1 rfl ?_
            refine cx_get (v := .ref (b_a 1)) (ci := 1) C iX1 dX1_addPerson_112 0 rfl rfl 0 (by decide) hw_60 rfl ?_
            refine cx_iload C dX1_addPerson_115 0 rfl ?_
            refine cx_iconst (v := 4) C dX1_addPerson_117 (by decide) ?_
            refine cx_iconst (v := (-1)) C dX1_addPerson_118 (by decide) ?_
            obtain ⟨u26, e27, hf⟩ := cx_bd_at hf
            refine cx_cvv (q := (RX4, TX4, 4)) (As := [.int u16.1, .int 4, .int ((-1))]) (rest := []) (ws' := (wd_Box k b_a u26 u16.2 b_c1 b_z1 b_c2 b_z2 b_c3 b_z3 b_c4 b_z4 b_sg)) hA C me_X4_put hw_347 (c_X4_put l D k (b_a 1) (b_a 2) 6 5 30 u24 u16.2 u16.1 4 ((-1)) u26 e27) dX1_addPerson_119 ⟨Nat.le_of_ble_eq_true rfl, Nat.le_of_ble_eq_true rfl⟩ ⟨Nat.zero_le _, Nat.zero_le _⟩ rfl rfl (Nat.le_of_ble_eq_true rfl) rfl rfl [1, 2] rfl (by decide) rfl rfl ?_
            clear e27
            refine cx_aload_n C dX1_addPerson_122 1 rfl ?_
            refine cx_get (v := .ref (b_a 1)) (ci := 1) C iX1 dX1_addPerson_123 0 rfl rfl 0 (by decide) hw_60 rfl ?_
            refine cx_iload C dX1_addPerson_126 0 rfl ?_
            refine cx_iconst (v := 5) C dX1_addPerson_128 (by decide) ?_
            refine cx_iconst (v := 2) C dX1_addPerson_129 (by decide) ?_
            obtain ⟨u28, e29, hf⟩ := cx_bd_at hf
            refine cx_cvv (q := (RX4, TX4, 4)) (As := [.int u16.1, .int 5, .int 2]) (rest := []) (ws' := (wd_Box k b_a u28 u16.2 b_c1 b_z1 b_c2 b_z2 b_c3 b_z3 b_c4 b_z4 b_sg)) hA C me_X4_put hw_347 (c_X4_put l D k (b_a 1) (b_a 2) 6 5 30 u26 u16.2 u16.1 5 2 u28 e29) dX1_addPerson_130 ⟨Nat.le_of_ble_eq_true rfl, Nat.le_of_ble_eq_true rfl⟩ ⟨Nat.zero_le _, Nat.zero_le _⟩ rfl rfl (Nat.le_of_ble_eq_true rfl) rfl rfl [1, 2] rfl (by decide) rfl rfl ?_
            clear e29
            refine cx_iload C dX1_addPerson_133 0 rfl ?_
            obtain rfl := Option.some.inj hf
            exact cx_iret C hA hQ hr hlk dX1_addPerson_135 rfl rfl
          · have hf := cx_if_f hf c15
            clear c15
            refine cx_bipush (v := (-4)) C dX1_addPerson_54 (by decide) ?_
            obtain rfl := Option.some.inj hf
            exact cx_iret C hA hQ hr hlk dX1_addPerson_56 rfl rfl
        · have hf := cx_if_t hf c12
          clear c12
          refine cx_bipush (v := (-2)) C dX1_addPerson_41 (by decide) ?_
          obtain rfl := Option.some.inj hf
          exact cx_iret C hA hQ hr hlk dX1_addPerson_43 rfl rfl
theorem dX1_mayBeParent_0 : decode cX1_mayBeParent 0 = .ok (.aload_n 0, 1) := by decide +kernel
theorem dX1_mayBeParent_1 : decode cX1_mayBeParent 1 = .ok (.getfield 14, 3) := by decide +kernel
theorem dX1_mayBeParent_4 : decode cX1_mayBeParent 4 = .ok (.iload_n 1, 1) := by decide +kernel
theorem dX1_mayBeParent_5 : decode cX1_mayBeParent 5 = .ok (.iconst 0, 1) := by decide +kernel
theorem dX1_mayBeParent_6 : decode cX1_mayBeParent 6 = .ok (.invokevirtual 67, 3) := by decide +kernel
theorem dX1_mayBeParent_9 : decode cX1_mayBeParent 9 = .ok (.istore_n 3, 1) := by decide +kernel
theorem dX1_mayBeParent_10 : decode cX1_mayBeParent 10 = .ok (.aload_n 0, 1) := by decide +kernel
theorem dX1_mayBeParent_11 : decode cX1_mayBeParent 11 = .ok (.getfield 14, 3) := by decide +kernel
theorem dX1_mayBeParent_14 : decode cX1_mayBeParent 14 = .ok (.iload_n 2, 1) := by decide +kernel
theorem dX1_mayBeParent_15 : decode cX1_mayBeParent 15 = .ok (.invokevirtual 59, 3) := by decide +kernel
theorem dX1_mayBeParent_18 : decode cX1_mayBeParent 18 = .ok (.ifCond .eq 38, 3) := by decide +kernel
theorem dX1_mayBeParent_21 : decode cX1_mayBeParent 21 = .ok (.iload_n 2, 1) := by decide +kernel
theorem dX1_mayBeParent_22 : decode cX1_mayBeParent 22 = .ok (.iload_n 1, 1) := by decide +kernel
theorem dX1_mayBeParent_23 : decode cX1_mayBeParent 23 = .ok (.if_icmp .ge 33, 3) := by decide +kernel
theorem dX1_mayBeParent_26 : decode cX1_mayBeParent 26 = .ok (.aload_n 0, 1) := by decide +kernel
theorem dX1_mayBeParent_27 : decode cX1_mayBeParent 27 = .ok (.getfield 14, 3) := by decide +kernel
theorem dX1_mayBeParent_30 : decode cX1_mayBeParent 30 = .ok (.iload_n 2, 1) := by decide +kernel
theorem dX1_mayBeParent_31 : decode cX1_mayBeParent 31 = .ok (.iconst 0, 1) := by decide +kernel
theorem dX1_mayBeParent_32 : decode cX1_mayBeParent 32 = .ok (.invokevirtual 67, 3) := by decide +kernel
theorem dX1_mayBeParent_35 : decode cX1_mayBeParent 35 = .ok (.iload_n 3, 1) := by decide +kernel
theorem dX1_mayBeParent_36 : decode cX1_mayBeParent 36 = .ok (.if_icmp .ge 20, 3) := by decide +kernel
theorem dX1_mayBeParent_39 : decode cX1_mayBeParent 39 = .ok (.aload_n 0, 1) := by decide +kernel
theorem dX1_mayBeParent_40 : decode cX1_mayBeParent 40 = .ok (.getfield 14, 3) := by decide +kernel
theorem dX1_mayBeParent_43 : decode cX1_mayBeParent 43 = .ok (.iload_n 2, 1) := by decide +kernel
theorem dX1_mayBeParent_44 : decode cX1_mayBeParent 44 = .ok (.iconst 1, 1) := by decide +kernel
theorem dX1_mayBeParent_45 : decode cX1_mayBeParent 45 = .ok (.invokevirtual 67, 3) := by decide +kernel
theorem dX1_mayBeParent_48 : decode cX1_mayBeParent 48 = .ok (.iload_n 3, 1) := by decide +kernel
theorem dX1_mayBeParent_49 : decode cX1_mayBeParent 49 = .ok (.if_icmp .lt 7, 3) := by decide +kernel
theorem dX1_mayBeParent_52 : decode cX1_mayBeParent 52 = .ok (.iconst 1, 1) := by decide +kernel
theorem dX1_mayBeParent_53 : decode cX1_mayBeParent 53 = .ok (.goto 4, 3) := by decide +kernel
theorem dX1_mayBeParent_56 : decode cX1_mayBeParent 56 = .ok (.iconst 0, 1) := by decide +kernel
theorem dX1_mayBeParent_57 : decode cX1_mayBeParent 57 = .ok (.ireturn, 1) := by decide +kernel
theorem me_X1_mayBeParent : cx_Mv yX1_mayBeParent cX1_mayBeParent 4 (some .boolean) 2 := ⟨⟨⟨by decide +kernel, by decide +kernel, by decide +kernel⟩, hw_2, hw_376⟩, hw_375, hs_2⟩
noncomputable def f_X1_mayBeParent (b_c0 : Nat → Int32) (b_z0 : Int32) (p1 : Int32) (p2 : Int32) : Option Int32 := Option.bind (f_X4_at 6 30 b_c0 b_z0 p1 0) (fun u1 => Option.bind (f_X4_has b_z0 p2) (fun u3 => if u3 = 0 then (some 0) else (if p1 ≤ p2 then (some 0) else (Option.bind (f_X4_at 6 30 b_c0 b_z0 p2 0) (fun u7 => if u1 ≤ u7 then (some 0) else (Option.bind (f_X4_at 6 30 b_c0 b_z0 p2 1) (fun u10 => if u10 < u1 then (some 0) else (some 1))))))))
set_option maxHeartbeats 4000000 in
set_option maxRecDepth 100000 in
theorem c_X1_mayBeParent (l : Launch) (D : va_G) (k : Nat → ClassId) (b_a : Nat → Nat) (b_c0 : Nat → Int32) (b_z0 : Int32) (b_c1 : Nat → Int32) (b_z1 : Int32) (b_c2 : Nat → Int32) (b_z2 : Int32) (b_c3 : Nat → Int32) (b_z3 : Int32) (b_c4 : Nat → Int32) (b_z4 : Int32) (b_sg : Int32) (p1 : Int32) (p2 : Int32) (y : Int32) (hf : f_X1_mayBeParent b_c0 b_z0 p1 p2 = some y) : cx_M l yX1_mayBeParent cX1_mayBeParent 4 (some .boolean) 2 D k [.ref (b_a 0), .int p1, .int p2] (wd_Box k b_a b_c0 b_z0 b_c1 b_z1 b_c2 b_z2 b_c3 b_z3 b_c4 b_z4 b_sg) (fun sz => cx_Qi D y (wd_Box k b_a b_c0 b_z0 b_c1 b_z1 b_c2 b_z2 b_c3 b_z3 b_c4 b_z4 b_sg) (wd_Box k b_a b_c0 b_z0 b_c1 b_z1 b_c2 b_z2 b_c3 b_z3 b_c4 b_z4 b_sg) sz) := by
  refine cx_met (own := "NamelessBox$Box") (by decide) rfl (Nat.le_of_ble_eq_true rfl) ?_
  intro p e s m args below meth c A Q C hA hQ hr hlk
  refine cx_lv (lv' := [(0, .ref (b_a 0)), (1, .int p1), (2, .int p2)]) [0, 1, 2] rfl ?_
  unfold f_X1_mayBeParent at hf
  refine cx_aload_n C dX1_mayBeParent_0 0 rfl ?_
  refine cx_get (v := .ref (b_a 1)) (ci := 1) C iX1 dX1_mayBeParent_1 0 rfl rfl 0 (by decide) hw_60 rfl ?_
  refine cx_iload_n C dX1_mayBeParent_4 1 rfl ?_
  refine cx_iconst (v := 0) C dX1_mayBeParent_5 (by decide) ?_
  obtain ⟨u1, e2, hf⟩ := cx_bd_at hf
  refine cx_Kvi (q := (RX4, TX4, 4)) (As := [.int p1, .int 0]) (rest := []) hA C me_X4_at hw_377 (c_X4_at l D k (b_a 1) (b_a 2) 6 5 30 b_c0 b_z0 p1 0 u1 e2) dX1_mayBeParent_6 ⟨Nat.le_of_ble_eq_true rfl, Nat.le_of_ble_eq_true rfl⟩ ⟨Nat.zero_le _, Nat.zero_le _⟩ rfl rfl (Nat.le_of_ble_eq_true rfl) rfl rfl [1, 2] rfl (by decide) ?_
  clear e2
  refine cx_istore_n (lv' := [(3, .int u1), (0, .ref (b_a 0)), (1, .int p1), (2, .int p2)]) C dX1_mayBeParent_9 rfl (by decide) rfl ?_
  refine cx_aload_n C dX1_mayBeParent_10 1 rfl ?_
  refine cx_get (v := .ref (b_a 1)) (ci := 1) C iX1 dX1_mayBeParent_11 0 rfl rfl 0 (by decide) hw_60 rfl ?_
  refine cx_iload_n C dX1_mayBeParent_14 3 rfl ?_
  obtain ⟨u3, e4, hf⟩ := cx_bd_at hf
  refine cx_Kvi (q := (RX4, TX4, 4)) (As := [.int p2]) (rest := []) hA C me_X4_has hw_372 (c_X4_has l D k (b_a 1) (b_a 2) 6 5 30 b_c0 b_z0 p2 u3 e4) dX1_mayBeParent_15 ⟨Nat.le_of_ble_eq_true rfl, Nat.le_of_ble_eq_true rfl⟩ ⟨Nat.zero_le _, Nat.zero_le _⟩ rfl rfl (Nat.le_of_ble_eq_true rfl) rfl rfl [1, 2] rfl (by decide) ?_
  clear e4
  refine cx_if_eq (tgt := 56) C dX1_mayBeParent_18 (by decide) (fun c5 => ?_) (fun c5 => ?_)
  · have hf := cx_if_t hf c5
    clear c5
    refine cx_iconst (v := 0) C dX1_mayBeParent_56 (by decide) ?_
    obtain rfl := Option.some.inj hf
    exact cx_zret C hA hQ hr hlk dX1_mayBeParent_57 rfl rfl rfl
  · have hf := cx_if_f hf c5
    clear c5
    refine cx_iload_n C dX1_mayBeParent_21 3 rfl ?_
    refine cx_iload_n C dX1_mayBeParent_22 2 rfl ?_
    refine cx_icmp_ge (tgt := 56) C dX1_mayBeParent_23 (by decide) (fun c6 => ?_) (fun c6 => ?_)
    · have hf := cx_if_t hf c6
      clear c6
      refine cx_iconst (v := 0) C dX1_mayBeParent_56 (by decide) ?_
      obtain rfl := Option.some.inj hf
      exact cx_zret C hA hQ hr hlk dX1_mayBeParent_57 rfl rfl rfl
    · have hf := cx_if_f hf c6
      clear c6
      refine cx_aload_n C dX1_mayBeParent_26 1 rfl ?_
      refine cx_get (v := .ref (b_a 1)) (ci := 1) C iX1 dX1_mayBeParent_27 0 rfl rfl 0 (by decide) hw_60 rfl ?_
      refine cx_iload_n C dX1_mayBeParent_30 3 rfl ?_
      refine cx_iconst (v := 0) C dX1_mayBeParent_31 (by decide) ?_
      obtain ⟨u7, e8, hf⟩ := cx_bd_at hf
      refine cx_Kvi (q := (RX4, TX4, 4)) (As := [.int p2, .int 0]) (rest := []) hA C me_X4_at hw_377 (c_X4_at l D k (b_a 1) (b_a 2) 6 5 30 b_c0 b_z0 p2 0 u7 e8) dX1_mayBeParent_32 ⟨Nat.le_of_ble_eq_true rfl, Nat.le_of_ble_eq_true rfl⟩ ⟨Nat.zero_le _, Nat.zero_le _⟩ rfl rfl (Nat.le_of_ble_eq_true rfl) rfl rfl [1, 2] rfl (by decide) ?_
      clear e8
      refine cx_iload_n C dX1_mayBeParent_35 0 rfl ?_
      refine cx_icmp_ge (tgt := 56) C dX1_mayBeParent_36 (by decide) (fun c9 => ?_) (fun c9 => ?_)
      · have hf := cx_if_t hf c9
        clear c9
        refine cx_iconst (v := 0) C dX1_mayBeParent_56 (by decide) ?_
        obtain rfl := Option.some.inj hf
        exact cx_zret C hA hQ hr hlk dX1_mayBeParent_57 rfl rfl rfl
      · have hf := cx_if_f hf c9
        clear c9
        refine cx_aload_n C dX1_mayBeParent_39 1 rfl ?_
        refine cx_get (v := .ref (b_a 1)) (ci := 1) C iX1 dX1_mayBeParent_40 0 rfl rfl 0 (by decide) hw_60 rfl ?_
        refine cx_iload_n C dX1_mayBeParent_43 3 rfl ?_
        refine cx_iconst (v := 1) C dX1_mayBeParent_44 (by decide) ?_
        obtain ⟨u10, e11, hf⟩ := cx_bd_at hf
        refine cx_Kvi (q := (RX4, TX4, 4)) (As := [.int p2, .int 1]) (rest := []) hA C me_X4_at hw_377 (c_X4_at l D k (b_a 1) (b_a 2) 6 5 30 b_c0 b_z0 p2 1 u10 e11) dX1_mayBeParent_45 ⟨Nat.le_of_ble_eq_true rfl, Nat.le_of_ble_eq_true rfl⟩ ⟨Nat.zero_le _, Nat.zero_le _⟩ rfl rfl (Nat.le_of_ble_eq_true rfl) rfl rfl [1, 2] rfl (by decide) ?_
        clear e11
        refine cx_iload_n C dX1_mayBeParent_48 0 rfl ?_
        refine cx_icmp_lt (tgt := 56) C dX1_mayBeParent_49 (by decide) (fun c12 => ?_) (fun c12 => ?_)
        · have hf := cx_if_t hf c12
          clear c12
          refine cx_iconst (v := 0) C dX1_mayBeParent_56 (by decide) ?_
          obtain rfl := Option.some.inj hf
          exact cx_zret C hA hQ hr hlk dX1_mayBeParent_57 rfl rfl rfl
        · have hf := cx_if_f hf c12
          clear c12
          refine cx_iconst (v := 1) C dX1_mayBeParent_52 (by decide) ?_
          refine cx_goto (tgt := 57) C dX1_mayBeParent_53 (by decide) ?_
          obtain rfl := Option.some.inj hf
          exact cx_zret C hA hQ hr hlk dX1_mayBeParent_57 rfl rfl rfl
theorem dX1_setParent_0 : decode cX1_setParent 0 = .ok (.aload_n 0, 1) := by decide +kernel
theorem dX1_setParent_1 : decode cX1_setParent 1 = .ok (.getfield 14, 3) := by decide +kernel
theorem dX1_setParent_4 : decode cX1_setParent 4 = .ok (.iload_n 1, 1) := by decide +kernel
theorem dX1_setParent_5 : decode cX1_setParent 5 = .ok (.invokevirtual 59, 3) := by decide +kernel
theorem dX1_setParent_8 : decode cX1_setParent 8 = .ok (.ifCond .eq 17, 3) := by decide +kernel
theorem dX1_setParent_11 : decode cX1_setParent 11 = .ok (.iload_n 2, 1) := by decide +kernel
theorem dX1_setParent_12 : decode cX1_setParent 12 = .ok (.iconst (-1), 1) := by decide +kernel
theorem dX1_setParent_13 : decode cX1_setParent 13 = .ok (.if_icmp .eq 15, 3) := by decide +kernel
theorem dX1_setParent_16 : decode cX1_setParent 16 = .ok (.aload_n 0, 1) := by decide +kernel
theorem dX1_setParent_17 : decode cX1_setParent 17 = .ok (.iload_n 1, 1) := by decide +kernel
theorem dX1_setParent_18 : decode cX1_setParent 18 = .ok (.iload_n 2, 1) := by decide +kernel
theorem dX1_setParent_19 : decode cX1_setParent 19 = .ok (.invokevirtual 63, 3) := by decide +kernel
theorem dX1_setParent_22 : decode cX1_setParent 22 = .ok (.ifCond .ne 6, 3) := by decide +kernel
theorem dX1_setParent_25 : decode cX1_setParent 25 = .ok (.bipush (-10), 2) := by decide +kernel
theorem dX1_setParent_27 : decode cX1_setParent 27 = .ok (.ireturn, 1) := by decide +kernel
theorem dX1_setParent_28 : decode cX1_setParent 28 = .ok (.aload_n 0, 1) := by decide +kernel
theorem dX1_setParent_29 : decode cX1_setParent 29 = .ok (.getfield 14, 3) := by decide +kernel
theorem dX1_setParent_32 : decode cX1_setParent 32 = .ok (.iload_n 1, 1) := by decide +kernel
theorem dX1_setParent_33 : decode cX1_setParent 33 = .ok (.iconst 4, 1) := by decide +kernel
theorem dX1_setParent_34 : decode cX1_setParent 34 = .ok (.invokevirtual 67, 3) := by decide +kernel
theorem dX1_setParent_37 : decode cX1_setParent 37 = .ok (.istore_n 3, 1) := by decide +kernel
theorem dX1_setParent_38 : decode cX1_setParent 38 = .ok (.aload_n 0, 1) := by decide +kernel
theorem dX1_setParent_39 : decode cX1_setParent 39 = .ok (.getfield 14, 3) := by decide +kernel
theorem dX1_setParent_42 : decode cX1_setParent 42 = .ok (.iload_n 1, 1) := by decide +kernel
theorem dX1_setParent_43 : decode cX1_setParent 43 = .ok (.iconst 4, 1) := by decide +kernel
theorem dX1_setParent_44 : decode cX1_setParent 44 = .ok (.iload_n 2, 1) := by decide +kernel
theorem dX1_setParent_45 : decode cX1_setParent 45 = .ok (.invokevirtual 55, 3) := by decide +kernel
theorem dX1_setParent_48 : decode cX1_setParent 48 = .ok (.iload_n 3, 1) := by decide +kernel
theorem dX1_setParent_49 : decode cX1_setParent 49 = .ok (.ireturn, 1) := by decide +kernel
theorem me_X1_setParent : cx_Mv yX1_setParent cX1_setParent 4 (some .int) 2 := ⟨⟨⟨by decide +kernel, by decide +kernel, by decide +kernel⟩, hw_2, hw_371⟩, hw_369, hw_370⟩
noncomputable def f_X1_setParent_J28 (b_c0 : Nat → Int32) (b_z0 : Int32) (p1 : Int32) (p2 : Int32) : Option (Int32 × (Nat → Int32)) := Option.bind (f_X4_at 6 30 b_c0 b_z0 p1 4) (fun u5 => Option.bind (f_X4_put 6 30 b_c0 b_z0 p1 4 p2) (fun u7 => some ((u5, u7))))
noncomputable def f_X1_setParent (b_c0 : Nat → Int32) (b_z0 : Int32) (p1 : Int32) (p2 : Int32) : Option (Int32 × (Nat → Int32)) := Option.bind (f_X4_has b_z0 p1) (fun u1 => if u1 = 0 then (some (((-10), b_c0))) else (if p2 = ((-1)) then (f_X1_setParent_J28 b_c0 b_z0 p1 p2) else (Option.bind (f_X1_mayBeParent b_c0 b_z0 p1 p2) (fun u9 => if u9 = 0 then (some (((-10), b_c0))) else (f_X1_setParent_J28 b_c0 b_z0 p1 p2)))))
set_option maxHeartbeats 4000000 in
set_option maxRecDepth 100000 in
theorem c_X1_setParent (l : Launch) (D : va_G) (k : Nat → ClassId) (b_a : Nat → Nat) (b_c0 : Nat → Int32) (b_z0 : Int32) (b_c1 : Nat → Int32) (b_z1 : Int32) (b_c2 : Nat → Int32) (b_z2 : Int32) (b_c3 : Nat → Int32) (b_z3 : Int32) (b_c4 : Nat → Int32) (b_z4 : Int32) (b_sg : Int32) (p1 : Int32) (p2 : Int32) (y : Int32 × (Nat → Int32)) (hf : f_X1_setParent b_c0 b_z0 p1 p2 = some y) : cx_M l yX1_setParent cX1_setParent 4 (some .int) 3 D k [.ref (b_a 0), .int p1, .int p2] (wd_Box k b_a b_c0 b_z0 b_c1 b_z1 b_c2 b_z2 b_c3 b_z3 b_c4 b_z4 b_sg) (fun sz => cx_Qi D y.1 (wd_Box k b_a b_c0 b_z0 b_c1 b_z1 b_c2 b_z2 b_c3 b_z3 b_c4 b_z4 b_sg) (wd_Box k b_a y.2 b_z0 b_c1 b_z1 b_c2 b_z2 b_c3 b_z3 b_c4 b_z4 b_sg) sz) := by
  refine cx_met (own := "NamelessBox$Box") (by decide) rfl (Nat.le_of_ble_eq_true rfl) ?_
  intro p e s m args below meth c A Q C hA hQ hr hlk
  refine cx_lv (lv' := [(0, .ref (b_a 0)), (1, .int p1), (2, .int p2)]) [0, 1, 2] rfl ?_
  have J28 : f_X1_setParent_J28 b_c0 b_z0 p1 p2 = some y → cx_S p l e (cx_rm 3) s m args below meth c A D 4 0 0 Q 28 [(0, .ref (b_a 0)), (1, .int p1), (2, .int p2)] [] (wd_Box k b_a b_c0 b_z0 b_c1 b_z1 b_c2 b_z2 b_c3 b_z3 b_c4 b_z4 b_sg) := by
    intro  hf
    unfold f_X1_setParent_J28 at hf
    refine cx_aload_n C dX1_setParent_28 0 rfl ?_
    refine cx_get (v := .ref (b_a 1)) (ci := 1) C iX1 dX1_setParent_29 0 rfl rfl 0 (by decide) hw_60 rfl ?_
    refine cx_iload_n C dX1_setParent_32 1 rfl ?_
    refine cx_iconst (v := 4) C dX1_setParent_33 (by decide) ?_
    obtain ⟨u5, e6, hf⟩ := cx_bd_at hf
    refine cx_Kvi (q := (RX4, TX4, 4)) (As := [.int p1, .int 4]) (rest := []) hA C me_X4_at hw_377 (c_X4_at l D k (b_a 1) (b_a 2) 6 5 30 b_c0 b_z0 p1 4 u5 e6) dX1_setParent_34 ⟨Nat.le_of_ble_eq_true rfl, Nat.le_of_ble_eq_true rfl⟩ ⟨Nat.zero_le _, Nat.zero_le _⟩ rfl rfl (Nat.le_of_ble_eq_true rfl) rfl rfl [1, 2] rfl (by decide) ?_
    clear e6
    refine cx_istore_n (lv' := [(3, .int u5), (0, .ref (b_a 0)), (1, .int p1), (2, .int p2)]) C dX1_setParent_37 rfl (by decide) rfl ?_
    refine cx_aload_n C dX1_setParent_38 1 rfl ?_
    refine cx_get (v := .ref (b_a 1)) (ci := 1) C iX1 dX1_setParent_39 0 rfl rfl 0 (by decide) hw_60 rfl ?_
    refine cx_iload_n C dX1_setParent_42 2 rfl ?_
    refine cx_iconst (v := 4) C dX1_setParent_43 (by decide) ?_
    refine cx_iload_n C dX1_setParent_44 3 rfl ?_
    obtain ⟨u7, e8, hf⟩ := cx_bd_at hf
    refine cx_cvv (q := (RX4, TX4, 4)) (As := [.int p1, .int 4, .int p2]) (rest := []) (ws' := (wd_Box k b_a u7 b_z0 b_c1 b_z1 b_c2 b_z2 b_c3 b_z3 b_c4 b_z4 b_sg)) hA C me_X4_put hw_347 (c_X4_put l D k (b_a 1) (b_a 2) 6 5 30 b_c0 b_z0 p1 4 p2 u7 e8) dX1_setParent_45 ⟨Nat.le_of_ble_eq_true rfl, Nat.le_of_ble_eq_true rfl⟩ ⟨Nat.zero_le _, Nat.zero_le _⟩ rfl rfl (Nat.le_of_ble_eq_true rfl) rfl rfl [1, 2] rfl (by decide) rfl rfl ?_
    clear e8
    refine cx_iload_n C dX1_setParent_48 0 rfl ?_
    obtain rfl := Option.some.inj hf
    exact cx_iret C hA hQ hr hlk dX1_setParent_49 rfl rfl
  unfold f_X1_setParent at hf
  refine cx_aload_n C dX1_setParent_0 0 rfl ?_
  refine cx_get (v := .ref (b_a 1)) (ci := 1) C iX1 dX1_setParent_1 0 rfl rfl 0 (by decide) hw_60 rfl ?_
  refine cx_iload_n C dX1_setParent_4 1 rfl ?_
  obtain ⟨u1, e2, hf⟩ := cx_bd_at hf
  refine cx_Kvi (q := (RX4, TX4, 4)) (As := [.int p1]) (rest := []) hA C me_X4_has hw_372 (c_X4_has l D k (b_a 1) (b_a 2) 6 5 30 b_c0 b_z0 p1 u1 e2) dX1_setParent_5 ⟨Nat.le_of_ble_eq_true rfl, Nat.le_of_ble_eq_true rfl⟩ ⟨Nat.zero_le _, Nat.zero_le _⟩ rfl rfl (Nat.le_of_ble_eq_true rfl) rfl rfl [1, 2] rfl (by decide) ?_
  clear e2
  refine cx_if_eq (tgt := 25) C dX1_setParent_8 (by decide) (fun c3 => ?_) (fun c3 => ?_)
  · have hf := cx_if_t hf c3
    clear c3
    refine cx_bipush (v := (-10)) C dX1_setParent_25 (by decide) ?_
    obtain rfl := Option.some.inj hf
    exact cx_iret C hA hQ hr hlk dX1_setParent_27 rfl rfl
  · have hf := cx_if_f hf c3
    clear c3
    refine cx_iload_n C dX1_setParent_11 2 rfl ?_
    refine cx_iconst (v := (-1)) C dX1_setParent_12 (by decide) ?_
    refine cx_icmp_eq (tgt := 28) C dX1_setParent_13 (by decide) (fun c4 => ?_) (fun c4 => ?_)
    · have hf := cx_if_t hf c4
      clear c4
      exact J28 hf
    · have hf := cx_if_f hf c4
      clear c4
      refine cx_aload_n C dX1_setParent_16 0 rfl ?_
      refine cx_iload_n C dX1_setParent_17 1 rfl ?_
      refine cx_iload_n C dX1_setParent_18 2 rfl ?_
      obtain ⟨u9, e10, hf⟩ := cx_bd_at hf
      refine cx_Fvi (q := (RX1, TX1, 6)) (As := [.int p1, .int p2]) (rest := []) (w1 := (wd_Box k b_a b_c0 b_z0 b_c1 b_z1 b_c2 b_z2 b_c3 b_z3 b_c4 b_z4 b_sg)) hA C me_X1_mayBeParent hw_373 (c_X1_mayBeParent l D k b_a b_c0 b_z0 b_c1 b_z1 b_c2 b_z2 b_c3 b_z3 b_c4 b_z4 b_sg p1 p2 u9 e10) dX1_setParent_19 ⟨Nat.le_of_ble_eq_true rfl, Nat.le_of_ble_eq_true rfl⟩ ⟨Nat.zero_le _, Nat.zero_le _⟩ rfl rfl (Nat.le_of_ble_eq_true rfl) rfl rfl rfl ?_
      clear e10
      refine cx_if_ne (tgt := 28) C dX1_setParent_22 (by decide) (fun c11 => ?_) (fun c11 => ?_)
      · have hf := cx_if_f hf c11
        clear c11
        exact J28 hf
      · have hf := cx_if_t hf c11
        clear c11
        refine cx_bipush (v := (-10)) C dX1_setParent_25 (by decide) ?_
        obtain rfl := Option.some.inj hf
        exact cx_iret C hA hQ hr hlk dX1_setParent_27 rfl rfl
theorem dX1_setNear_0 : decode cX1_setNear 0 = .ok (.aload_n 0, 1) := by decide +kernel
theorem dX1_setNear_1 : decode cX1_setNear 1 = .ok (.getfield 14, 3) := by decide +kernel
theorem dX1_setNear_4 : decode cX1_setNear 4 = .ok (.iload_n 1, 1) := by decide +kernel
theorem dX1_setNear_5 : decode cX1_setNear 5 = .ok (.invokevirtual 59, 3) := by decide +kernel
theorem dX1_setNear_8 : decode cX1_setNear 8 = .ok (.ifCond .eq 12, 3) := by decide +kernel
theorem dX1_setNear_11 : decode cX1_setNear 11 = .ok (.iload_n 2, 1) := by decide +kernel
theorem dX1_setNear_12 : decode cX1_setNear 12 = .ok (.iconst 0, 1) := by decide +kernel
theorem dX1_setNear_13 : decode cX1_setNear 13 = .ok (.iconst 4, 1) := by decide +kernel
theorem dX1_setNear_14 : decode cX1_setNear 14 = .ok (.invokestatic 43, 3) := by decide +kernel
theorem dX1_setNear_17 : decode cX1_setNear 17 = .ok (.ifCond .ne 6, 3) := by decide +kernel
theorem dX1_setNear_20 : decode cX1_setNear 20 = .ok (.bipush (-2), 2) := by decide +kernel
theorem dX1_setNear_22 : decode cX1_setNear 22 = .ok (.ireturn, 1) := by decide +kernel
theorem dX1_setNear_23 : decode cX1_setNear 23 = .ok (.aload_n 0, 1) := by decide +kernel
theorem dX1_setNear_24 : decode cX1_setNear 24 = .ok (.getfield 14, 3) := by decide +kernel
theorem dX1_setNear_27 : decode cX1_setNear 27 = .ok (.iload_n 1, 1) := by decide +kernel
theorem dX1_setNear_28 : decode cX1_setNear 28 = .ok (.iconst 5, 1) := by decide +kernel
theorem dX1_setNear_29 : decode cX1_setNear 29 = .ok (.invokevirtual 67, 3) := by decide +kernel
theorem dX1_setNear_32 : decode cX1_setNear 32 = .ok (.istore_n 3, 1) := by decide +kernel
theorem dX1_setNear_33 : decode cX1_setNear 33 = .ok (.aload_n 0, 1) := by decide +kernel
theorem dX1_setNear_34 : decode cX1_setNear 34 = .ok (.getfield 14, 3) := by decide +kernel
theorem dX1_setNear_37 : decode cX1_setNear 37 = .ok (.iload_n 1, 1) := by decide +kernel
theorem dX1_setNear_38 : decode cX1_setNear 38 = .ok (.iconst 5, 1) := by decide +kernel
theorem dX1_setNear_39 : decode cX1_setNear 39 = .ok (.iload_n 2, 1) := by decide +kernel
theorem dX1_setNear_40 : decode cX1_setNear 40 = .ok (.invokevirtual 55, 3) := by decide +kernel
theorem dX1_setNear_43 : decode cX1_setNear 43 = .ok (.iload_n 3, 1) := by decide +kernel
theorem dX1_setNear_44 : decode cX1_setNear 44 = .ok (.ireturn, 1) := by decide +kernel
theorem me_X1_setNear : cx_Mv yX1_setNear cX1_setNear 4 (some .int) 2 := ⟨⟨⟨by decide +kernel, by decide +kernel, by decide +kernel⟩, hw_2, hw_388⟩, hw_386, hw_387⟩
noncomputable def f_X1_setNear (b_c0 : Nat → Int32) (b_z0 : Int32) (p1 : Int32) (p2 : Int32) : Option (Int32 × (Nat → Int32)) := Option.bind (f_X4_has b_z0 p1) (fun u1 => if u1 = 0 then (some (((-2), b_c0))) else (Option.bind (f_X8_within p2 0 4) (fun u4 => if u4 = 0 then (some (((-2), b_c0))) else (Option.bind (f_X4_at 6 30 b_c0 b_z0 p1 5) (fun u7 => Option.bind (f_X4_put 6 30 b_c0 b_z0 p1 5 p2) (fun u9 => some ((u7, u9))))))))
set_option maxHeartbeats 4000000 in
set_option maxRecDepth 100000 in
theorem c_X1_setNear (l : Launch) (D : va_G) (k : Nat → ClassId) (b_a : Nat → Nat) (b_c0 : Nat → Int32) (b_z0 : Int32) (b_c1 : Nat → Int32) (b_z1 : Int32) (b_c2 : Nat → Int32) (b_z2 : Int32) (b_c3 : Nat → Int32) (b_z3 : Int32) (b_c4 : Nat → Int32) (b_z4 : Int32) (b_sg : Int32) (p1 : Int32) (p2 : Int32) (y : Int32 × (Nat → Int32)) (hf : f_X1_setNear b_c0 b_z0 p1 p2 = some y) : cx_M l yX1_setNear cX1_setNear 4 (some .int) 3 D k [.ref (b_a 0), .int p1, .int p2] (wd_Box k b_a b_c0 b_z0 b_c1 b_z1 b_c2 b_z2 b_c3 b_z3 b_c4 b_z4 b_sg) (fun sz => cx_Qi D y.1 (wd_Box k b_a b_c0 b_z0 b_c1 b_z1 b_c2 b_z2 b_c3 b_z3 b_c4 b_z4 b_sg) (wd_Box k b_a y.2 b_z0 b_c1 b_z1 b_c2 b_z2 b_c3 b_z3 b_c4 b_z4 b_sg) sz) := by
  refine cx_met (own := "NamelessBox$Box") (by decide) rfl (Nat.le_of_ble_eq_true rfl) ?_
  intro p e s m args below meth c A Q C hA hQ hr hlk
  refine cx_lv (lv' := [(0, .ref (b_a 0)), (1, .int p1), (2, .int p2)]) [0, 1, 2] rfl ?_
  unfold f_X1_setNear at hf
  refine cx_aload_n C dX1_setNear_0 0 rfl ?_
  refine cx_get (v := .ref (b_a 1)) (ci := 1) C iX1 dX1_setNear_1 0 rfl rfl 0 (by decide) hw_60 rfl ?_
  refine cx_iload_n C dX1_setNear_4 1 rfl ?_
  obtain ⟨u1, e2, hf⟩ := cx_bd_at hf
  refine cx_Kvi (q := (RX4, TX4, 4)) (As := [.int p1]) (rest := []) hA C me_X4_has hw_372 (c_X4_has l D k (b_a 1) (b_a 2) 6 5 30 b_c0 b_z0 p1 u1 e2) dX1_setNear_5 ⟨Nat.le_of_ble_eq_true rfl, Nat.le_of_ble_eq_true rfl⟩ ⟨Nat.zero_le _, Nat.zero_le _⟩ rfl rfl (Nat.le_of_ble_eq_true rfl) rfl rfl [1, 2] rfl (by decide) ?_
  clear e2
  refine cx_if_eq (tgt := 20) C dX1_setNear_8 (by decide) (fun c3 => ?_) (fun c3 => ?_)
  · have hf := cx_if_t hf c3
    clear c3
    refine cx_bipush (v := (-2)) C dX1_setNear_20 (by decide) ?_
    obtain rfl := Option.some.inj hf
    exact cx_iret C hA hQ hr hlk dX1_setNear_22 rfl rfl
  · have hf := cx_if_f hf c3
    clear c3
    refine cx_iload_n C dX1_setNear_11 2 rfl ?_
    refine cx_iconst (v := 0) C dX1_setNear_12 (by decide) ?_
    refine cx_iconst (v := 4) C dX1_setNear_13 (by decide) ?_
    obtain ⟨u4, e5, hf⟩ := cx_bd_at hf
    refine cx_Kni (As := [.int p2, .int 0, .int 4]) (rest := []) hA C me_X8_within (fun h => h.2.2.1) (c_X8_within l D k p2 0 4 u4 e5) dX1_setNear_14 ⟨Nat.le_of_ble_eq_true rfl, Nat.le_of_ble_eq_true rfl⟩ ⟨Nat.zero_le _, Nat.zero_le _⟩ rfl rfl (Nat.le_of_ble_eq_true rfl) [] rfl (by decide) ?_
    clear e5
    refine cx_if_ne (tgt := 23) C dX1_setNear_17 (by decide) (fun c6 => ?_) (fun c6 => ?_)
    · have hf := cx_if_f hf c6
      clear c6
      refine cx_aload_n C dX1_setNear_23 0 rfl ?_
      refine cx_get (v := .ref (b_a 1)) (ci := 1) C iX1 dX1_setNear_24 0 rfl rfl 0 (by decide) hw_60 rfl ?_
      refine cx_iload_n C dX1_setNear_27 1 rfl ?_
      refine cx_iconst (v := 5) C dX1_setNear_28 (by decide) ?_
      obtain ⟨u7, e8, hf⟩ := cx_bd_at hf
      refine cx_Kvi (q := (RX4, TX4, 4)) (As := [.int p1, .int 5]) (rest := []) hA C me_X4_at hw_377 (c_X4_at l D k (b_a 1) (b_a 2) 6 5 30 b_c0 b_z0 p1 5 u7 e8) dX1_setNear_29 ⟨Nat.le_of_ble_eq_true rfl, Nat.le_of_ble_eq_true rfl⟩ ⟨Nat.zero_le _, Nat.zero_le _⟩ rfl rfl (Nat.le_of_ble_eq_true rfl) rfl rfl [1, 2] rfl (by decide) ?_
      clear e8
      refine cx_istore_n (lv' := [(3, .int u7), (0, .ref (b_a 0)), (1, .int p1), (2, .int p2)]) C dX1_setNear_32 rfl (by decide) rfl ?_
      refine cx_aload_n C dX1_setNear_33 1 rfl ?_
      refine cx_get (v := .ref (b_a 1)) (ci := 1) C iX1 dX1_setNear_34 0 rfl rfl 0 (by decide) hw_60 rfl ?_
      refine cx_iload_n C dX1_setNear_37 2 rfl ?_
      refine cx_iconst (v := 5) C dX1_setNear_38 (by decide) ?_
      refine cx_iload_n C dX1_setNear_39 3 rfl ?_
      obtain ⟨u9, e10, hf⟩ := cx_bd_at hf
      refine cx_cvv (q := (RX4, TX4, 4)) (As := [.int p1, .int 5, .int p2]) (rest := []) (ws' := (wd_Box k b_a u9 b_z0 b_c1 b_z1 b_c2 b_z2 b_c3 b_z3 b_c4 b_z4 b_sg)) hA C me_X4_put hw_347 (c_X4_put l D k (b_a 1) (b_a 2) 6 5 30 b_c0 b_z0 p1 5 p2 u9 e10) dX1_setNear_40 ⟨Nat.le_of_ble_eq_true rfl, Nat.le_of_ble_eq_true rfl⟩ ⟨Nat.zero_le _, Nat.zero_le _⟩ rfl rfl (Nat.le_of_ble_eq_true rfl) rfl rfl [1, 2] rfl (by decide) rfl rfl ?_
      clear e10
      refine cx_iload_n C dX1_setNear_43 0 rfl ?_
      obtain rfl := Option.some.inj hf
      exact cx_iret C hA hQ hr hlk dX1_setNear_44 rfl rfl
    · have hf := cx_if_t hf c6
      clear c6
      refine cx_bipush (v := (-2)) C dX1_setNear_20 (by decide) ?_
      obtain rfl := Option.some.inj hf
      exact cx_iret C hA hQ hr hlk dX1_setNear_22 rfl rfl
theorem dX1_addPicture_0 : decode cX1_addPicture 0 = .ok (.iload_n 1, 1) := by decide +kernel
theorem dX1_addPicture_1 : decode cX1_addPicture 1 = .ok (.iconst 0, 1) := by decide +kernel
theorem dX1_addPicture_2 : decode cX1_addPicture 2 = .ok (.bipush 99, 2) := by decide +kernel
theorem dX1_addPicture_4 : decode cX1_addPicture 4 = .ok (.invokestatic 43, 3) := by decide +kernel
theorem dX1_addPicture_7 : decode cX1_addPicture 7 = .ok (.ifCond .eq 21, 3) := by decide +kernel
theorem dX1_addPicture_10 : decode cX1_addPicture 10 = .ok (.iload_n 2, 1) := by decide +kernel
theorem dX1_addPicture_11 : decode cX1_addPicture 11 = .ok (.iload_n 1, 1) := by decide +kernel
theorem dX1_addPicture_12 : decode cX1_addPicture 12 = .ok (.bipush 99, 2) := by decide +kernel
theorem dX1_addPicture_14 : decode cX1_addPicture 14 = .ok (.invokestatic 43, 3) := by decide +kernel
theorem dX1_addPicture_17 : decode cX1_addPicture 17 = .ok (.ifCond .eq 11, 3) := by decide +kernel
theorem dX1_addPicture_20 : decode cX1_addPicture 20 = .ok (.iload_n 2, 1) := by decide +kernel
theorem dX1_addPicture_21 : decode cX1_addPicture 21 = .ok (.iload_n 1, 1) := by decide +kernel
theorem dX1_addPicture_22 : decode cX1_addPicture 22 = .ok (.isub, 1) := by decide +kernel
theorem dX1_addPicture_23 : decode cX1_addPicture 23 = .ok (.bipush 11, 2) := by decide +kernel
theorem dX1_addPicture_25 : decode cX1_addPicture 25 = .ok (.if_icmp .le 6, 3) := by decide +kernel
theorem dX1_addPicture_28 : decode cX1_addPicture 28 = .ok (.bipush (-2), 2) := by decide +kernel
theorem dX1_addPicture_30 : decode cX1_addPicture 30 = .ok (.ireturn, 1) := by decide +kernel
theorem dX1_addPicture_31 : decode cX1_addPicture 31 = .ok (.aload_n 0, 1) := by decide +kernel
theorem dX1_addPicture_32 : decode cX1_addPicture 32 = .ok (.getfield 20, 3) := by decide +kernel
theorem dX1_addPicture_35 : decode cX1_addPicture 35 = .ok (.invokevirtual 47, 3) := by decide +kernel
theorem dX1_addPicture_38 : decode cX1_addPicture 38 = .ok (.ifCond .eq 6, 3) := by decide +kernel
theorem dX1_addPicture_41 : decode cX1_addPicture 41 = .ok (.bipush (-4), 2) := by decide +kernel
theorem dX1_addPicture_43 : decode cX1_addPicture 43 = .ok (.ireturn, 1) := by decide +kernel
theorem dX1_addPicture_44 : decode cX1_addPicture 44 = .ok (.aload_n 0, 1) := by decide +kernel
theorem dX1_addPicture_45 : decode cX1_addPicture 45 = .ok (.getfield 20, 3) := by decide +kernel
theorem dX1_addPicture_48 : decode cX1_addPicture 48 = .ok (.invokevirtual 51, 3) := by decide +kernel
theorem dX1_addPicture_51 : decode cX1_addPicture 51 = .ok (.istore_n 3, 1) := by decide +kernel
theorem dX1_addPicture_52 : decode cX1_addPicture 52 = .ok (.aload_n 0, 1) := by decide +kernel
theorem dX1_addPicture_53 : decode cX1_addPicture 53 = .ok (.getfield 20, 3) := by decide +kernel
theorem dX1_addPicture_56 : decode cX1_addPicture 56 = .ok (.iload_n 3, 1) := by decide +kernel
theorem dX1_addPicture_57 : decode cX1_addPicture 57 = .ok (.iconst 0, 1) := by decide +kernel
theorem dX1_addPicture_58 : decode cX1_addPicture 58 = .ok (.iload_n 1, 1) := by decide +kernel
theorem dX1_addPicture_59 : decode cX1_addPicture 59 = .ok (.invokevirtual 55, 3) := by decide +kernel
theorem dX1_addPicture_62 : decode cX1_addPicture 62 = .ok (.aload_n 0, 1) := by decide +kernel
theorem dX1_addPicture_63 : decode cX1_addPicture 63 = .ok (.getfield 20, 3) := by decide +kernel
theorem dX1_addPicture_66 : decode cX1_addPicture 66 = .ok (.iload_n 3, 1) := by decide +kernel
theorem dX1_addPicture_67 : decode cX1_addPicture 67 = .ok (.iconst 1, 1) := by decide +kernel
theorem dX1_addPicture_68 : decode cX1_addPicture 68 = .ok (.iload_n 2, 1) := by decide +kernel
theorem dX1_addPicture_69 : decode cX1_addPicture 69 = .ok (.invokevirtual 55, 3) := by decide +kernel
theorem dX1_addPicture_72 : decode cX1_addPicture 72 = .ok (.iload_n 3, 1) := by decide +kernel
theorem dX1_addPicture_73 : decode cX1_addPicture 73 = .ok (.ireturn, 1) := by decide +kernel
theorem me_X1_addPicture : cx_Mv yX1_addPicture cX1_addPicture 4 (some .int) 2 := ⟨⟨⟨by decide +kernel, by decide +kernel, by decide +kernel⟩, hw_2, hw_396⟩, hw_394, hw_395⟩
noncomputable def f_X1_addPicture (b_c1 : Nat → Int32) (b_z1 : Int32) (p1 : Int32) (p2 : Int32) : Option (Int32 × Int32 × (Nat → Int32)) := Option.bind (f_X8_within p1 0 99) (fun u1 => if u1 = 0 then (some (((-2), b_z1, b_c1))) else (Option.bind (f_X8_within p2 p1 99) (fun u4 => if u4 = 0 then (some (((-2), b_z1, b_c1))) else (if (p2 - p1) ≤ 11 then (Option.bind (f_X4_isFull 4 b_z1) (fun u8 => if u8 = 0 then (Option.bind (f_X4_grow 4 b_z1) (fun u11 => Option.bind (f_X4_put 2 8 b_c1 u11.2 u11.1 0 p1) (fun u13 => Option.bind (f_X4_put 2 8 u13 u11.2 u11.1 1 p2) (fun u15 => some ((u11.1, u11.2, u15)))))) else (some (((-4), b_z1, b_c1))))) else (some (((-2), b_z1, b_c1)))))))
set_option maxHeartbeats 4000000 in
set_option maxRecDepth 100000 in
theorem c_X1_addPicture (l : Launch) (D : va_G) (k : Nat → ClassId) (b_a : Nat → Nat) (b_c0 : Nat → Int32) (b_z0 : Int32) (b_c1 : Nat → Int32) (b_z1 : Int32) (b_c2 : Nat → Int32) (b_z2 : Int32) (b_c3 : Nat → Int32) (b_z3 : Int32) (b_c4 : Nat → Int32) (b_z4 : Int32) (b_sg : Int32) (p1 : Int32) (p2 : Int32) (y : Int32 × Int32 × (Nat → Int32)) (hf : f_X1_addPicture b_c1 b_z1 p1 p2 = some y) : cx_M l yX1_addPicture cX1_addPicture 4 (some .int) 3 D k [.ref (b_a 0), .int p1, .int p2] (wd_Box k b_a b_c0 b_z0 b_c1 b_z1 b_c2 b_z2 b_c3 b_z3 b_c4 b_z4 b_sg) (fun sz => cx_Qi D y.1 (wd_Box k b_a b_c0 b_z0 b_c1 b_z1 b_c2 b_z2 b_c3 b_z3 b_c4 b_z4 b_sg) (wd_Box k b_a b_c0 b_z0 y.2.2 y.2.1 b_c2 b_z2 b_c3 b_z3 b_c4 b_z4 b_sg) sz) := by
  refine cx_met (own := "NamelessBox$Box") (by decide) rfl (Nat.le_of_ble_eq_true rfl) ?_
  intro p e s m args below meth c A Q C hA hQ hr hlk
  refine cx_lv (lv' := [(0, .ref (b_a 0)), (1, .int p1), (2, .int p2)]) [0, 1, 2] rfl ?_
  unfold f_X1_addPicture at hf
  refine cx_iload_n C dX1_addPicture_0 1 rfl ?_
  refine cx_iconst (v := 0) C dX1_addPicture_1 (by decide) ?_
  refine cx_bipush (v := 99) C dX1_addPicture_2 (by decide) ?_
  obtain ⟨u1, e2, hf⟩ := cx_bd_at hf
  refine cx_Kni (As := [.int p1, .int 0, .int 99]) (rest := []) hA C me_X8_within (fun h => h.2.2.1) (c_X8_within l D k p1 0 99 u1 e2) dX1_addPicture_4 ⟨Nat.le_of_ble_eq_true rfl, Nat.le_of_ble_eq_true rfl⟩ ⟨Nat.zero_le _, Nat.zero_le _⟩ rfl rfl (Nat.le_of_ble_eq_true rfl) [] rfl (by decide) ?_
  clear e2
  refine cx_if_eq (tgt := 28) C dX1_addPicture_7 (by decide) (fun c3 => ?_) (fun c3 => ?_)
  · have hf := cx_if_t hf c3
    clear c3
    refine cx_bipush (v := (-2)) C dX1_addPicture_28 (by decide) ?_
    obtain rfl := Option.some.inj hf
    exact cx_iret C hA hQ hr hlk dX1_addPicture_30 rfl rfl
  · have hf := cx_if_f hf c3
    clear c3
    refine cx_iload_n C dX1_addPicture_10 2 rfl ?_
    refine cx_iload_n C dX1_addPicture_11 1 rfl ?_
    refine cx_bipush (v := 99) C dX1_addPicture_12 (by decide) ?_
    obtain ⟨u4, e5, hf⟩ := cx_bd_at hf
    refine cx_Kni (As := [.int p2, .int p1, .int 99]) (rest := []) hA C me_X8_within (fun h => h.2.2.1) (c_X8_within l D k p2 p1 99 u4 e5) dX1_addPicture_14 ⟨Nat.le_of_ble_eq_true rfl, Nat.le_of_ble_eq_true rfl⟩ ⟨Nat.zero_le _, Nat.zero_le _⟩ rfl rfl (Nat.le_of_ble_eq_true rfl) [] rfl (by decide) ?_
    clear e5
    refine cx_if_eq (tgt := 28) C dX1_addPicture_17 (by decide) (fun c6 => ?_) (fun c6 => ?_)
    · have hf := cx_if_t hf c6
      clear c6
      refine cx_bipush (v := (-2)) C dX1_addPicture_28 (by decide) ?_
      obtain rfl := Option.some.inj hf
      exact cx_iret C hA hQ hr hlk dX1_addPicture_30 rfl rfl
    · have hf := cx_if_f hf c6
      clear c6
      refine cx_iload_n C dX1_addPicture_20 2 rfl ?_
      refine cx_iload_n C dX1_addPicture_21 1 rfl ?_
      refine cx_isub C dX1_addPicture_22 ?_
      refine cx_bipush (v := 11) C dX1_addPicture_23 (by decide) ?_
      refine cx_icmp_le (tgt := 31) C dX1_addPicture_25 (by decide) (fun c7 => ?_) (fun c7 => ?_)
      · have hf := cx_if_t hf c7
        clear c7
        refine cx_aload_n C dX1_addPicture_31 0 rfl ?_
        refine cx_get (v := .ref (b_a 3)) (ci := 1) C iX1 dX1_addPicture_32 0 rfl rfl 1 (by decide) hw_64 rfl ?_
        obtain ⟨u8, e9, hf⟩ := cx_bd_at hf
        refine cx_Kvi (q := (RX4, TX4, 4)) (As := []) (rest := []) hA C me_X4_isFull hw_338 (c_X4_isFull l D k (b_a 3) (b_a 4) 2 4 8 b_c1 b_z1 u8 e9) dX1_addPicture_35 ⟨Nat.le_of_ble_eq_true rfl, Nat.le_of_ble_eq_true rfl⟩ ⟨Nat.zero_le _, Nat.zero_le _⟩ rfl rfl (Nat.le_of_ble_eq_true rfl) rfl rfl [3, 4] rfl (by decide) ?_
        clear e9
        refine cx_if_eq (tgt := 44) C dX1_addPicture_38 (by decide) (fun c10 => ?_) (fun c10 => ?_)
        · have hf := cx_if_t hf c10
          clear c10
          refine cx_aload_n C dX1_addPicture_44 0 rfl ?_
          refine cx_get (v := .ref (b_a 3)) (ci := 1) C iX1 dX1_addPicture_45 0 rfl rfl 1 (by decide) hw_64 rfl ?_
          obtain ⟨u11, e12, hf⟩ := cx_bd_at hf
          refine cx_cvi (q := (RX4, TX4, 4)) (As := []) (rest := []) (ws' := (wd_Box k b_a b_c0 b_z0 b_c1 u11.2 b_c2 b_z2 b_c3 b_z3 b_c4 b_z4 b_sg)) hA C me_X4_grow hw_342 (c_X4_grow l D k (b_a 3) (b_a 4) 2 4 8 b_c1 b_z1 u11 e12) dX1_addPicture_48 ⟨Nat.le_of_ble_eq_true rfl, Nat.le_of_ble_eq_true rfl⟩ ⟨Nat.zero_le _, Nat.zero_le _⟩ rfl rfl (Nat.le_of_ble_eq_true rfl) rfl rfl [3, 4] rfl (by decide) rfl rfl ?_
          clear e12
          refine cx_istore_n (lv' := [(3, .int u11.1), (0, .ref (b_a 0)), (1, .int p1), (2, .int p2)]) C dX1_addPicture_51 rfl (by decide) rfl ?_
          refine cx_aload_n C dX1_addPicture_52 1 rfl ?_
          refine cx_get (v := .ref (b_a 3)) (ci := 1) C iX1 dX1_addPicture_53 0 rfl rfl 1 (by decide) hw_64 rfl ?_
          refine cx_iload_n C dX1_addPicture_56 0 rfl ?_
          refine cx_iconst (v := 0) C dX1_addPicture_57 (by decide) ?_
          refine cx_iload_n C dX1_addPicture_58 2 rfl ?_
          obtain ⟨u13, e14, hf⟩ := cx_bd_at hf
          refine cx_cvv (q := (RX4, TX4, 4)) (As := [.int u11.1, .int 0, .int p1]) (rest := []) (ws' := (wd_Box k b_a b_c0 b_z0 u13 u11.2 b_c2 b_z2 b_c3 b_z3 b_c4 b_z4 b_sg)) hA C me_X4_put hw_347 (c_X4_put l D k (b_a 3) (b_a 4) 2 4 8 b_c1 u11.2 u11.1 0 p1 u13 e14) dX1_addPicture_59 ⟨Nat.le_of_ble_eq_true rfl, Nat.le_of_ble_eq_true rfl⟩ ⟨Nat.zero_le _, Nat.zero_le _⟩ rfl rfl (Nat.le_of_ble_eq_true rfl) rfl rfl [3, 4] rfl (by decide) rfl rfl ?_
          clear e14
          refine cx_aload_n C dX1_addPicture_62 1 rfl ?_
          refine cx_get (v := .ref (b_a 3)) (ci := 1) C iX1 dX1_addPicture_63 0 rfl rfl 1 (by decide) hw_64 rfl ?_
          refine cx_iload_n C dX1_addPicture_66 0 rfl ?_
          refine cx_iconst (v := 1) C dX1_addPicture_67 (by decide) ?_
          refine cx_iload_n C dX1_addPicture_68 3 rfl ?_
          obtain ⟨u15, e16, hf⟩ := cx_bd_at hf
          refine cx_cvv (q := (RX4, TX4, 4)) (As := [.int u11.1, .int 1, .int p2]) (rest := []) (ws' := (wd_Box k b_a b_c0 b_z0 u15 u11.2 b_c2 b_z2 b_c3 b_z3 b_c4 b_z4 b_sg)) hA C me_X4_put hw_347 (c_X4_put l D k (b_a 3) (b_a 4) 2 4 8 u13 u11.2 u11.1 1 p2 u15 e16) dX1_addPicture_69 ⟨Nat.le_of_ble_eq_true rfl, Nat.le_of_ble_eq_true rfl⟩ ⟨Nat.zero_le _, Nat.zero_le _⟩ rfl rfl (Nat.le_of_ble_eq_true rfl) rfl rfl [3, 4] rfl (by decide) rfl rfl ?_
          clear e16
          refine cx_iload_n C dX1_addPicture_72 0 rfl ?_
          obtain rfl := Option.some.inj hf
          exact cx_iret C hA hQ hr hlk dX1_addPicture_73 rfl rfl
        · have hf := cx_if_f hf c10
          clear c10
          refine cx_bipush (v := (-4)) C dX1_addPicture_41 (by decide) ?_
          obtain rfl := Option.some.inj hf
          exact cx_iret C hA hQ hr hlk dX1_addPicture_43 rfl rfl
      · have hf := cx_if_f hf c7
        clear c7
        refine cx_bipush (v := (-2)) C dX1_addPicture_28 (by decide) ?_
        obtain rfl := Option.some.inj hf
        exact cx_iret C hA hQ hr hlk dX1_addPicture_30 rfl rfl
theorem dX1_addHead_0 : decode cX1_addHead 0 = .ok (.aload_n 0, 1) := by decide +kernel
theorem dX1_addHead_1 : decode cX1_addHead 1 = .ok (.getfield 20, 3) := by decide +kernel
theorem dX1_addHead_4 : decode cX1_addHead 4 = .ok (.iload_n 1, 1) := by decide +kernel
theorem dX1_addHead_5 : decode cX1_addHead 5 = .ok (.invokevirtual 59, 3) := by decide +kernel
theorem dX1_addHead_8 : decode cX1_addHead 8 = .ok (.ifCond .eq 46, 3) := by decide +kernel
theorem dX1_addHead_11 : decode cX1_addHead 11 = .ok (.iload_n 2, 1) := by decide +kernel
theorem dX1_addHead_12 : decode cX1_addHead 12 = .ok (.iconst 0, 1) := by decide +kernel
theorem dX1_addHead_13 : decode cX1_addHead 13 = .ok (.bipush 15, 2) := by decide +kernel
theorem dX1_addHead_15 : decode cX1_addHead 15 = .ok (.invokestatic 43, 3) := by decide +kernel
theorem dX1_addHead_18 : decode cX1_addHead 18 = .ok (.ifCond .eq 36, 3) := by decide +kernel
theorem dX1_addHead_21 : decode cX1_addHead 21 = .ok (.iload_n 3, 1) := by decide +kernel
theorem dX1_addHead_22 : decode cX1_addHead 22 = .ok (.iconst 0, 1) := by decide +kernel
theorem dX1_addHead_23 : decode cX1_addHead 23 = .ok (.bipush 15, 2) := by decide +kernel
theorem dX1_addHead_25 : decode cX1_addHead 25 = .ok (.invokestatic 43, 3) := by decide +kernel
theorem dX1_addHead_28 : decode cX1_addHead 28 = .ok (.ifCond .eq 26, 3) := by decide +kernel
theorem dX1_addHead_31 : decode cX1_addHead 31 = .ok (.iload 4, 2) := by decide +kernel
theorem dX1_addHead_33 : decode cX1_addHead 33 = .ok (.iconst 0, 1) := by decide +kernel
theorem dX1_addHead_34 : decode cX1_addHead 34 = .ok (.bipush 99, 2) := by decide +kernel
theorem dX1_addHead_36 : decode cX1_addHead 36 = .ok (.invokestatic 43, 3) := by decide +kernel
theorem dX1_addHead_39 : decode cX1_addHead 39 = .ok (.ifCond .eq 15, 3) := by decide +kernel
theorem dX1_addHead_42 : decode cX1_addHead 42 = .ok (.iload 5, 2) := by decide +kernel
theorem dX1_addHead_44 : decode cX1_addHead 44 = .ok (.iload 4, 2) := by decide +kernel
theorem dX1_addHead_46 : decode cX1_addHead 46 = .ok (.bipush 99, 2) := by decide +kernel
theorem dX1_addHead_48 : decode cX1_addHead 48 = .ok (.invokestatic 43, 3) := by decide +kernel
theorem dX1_addHead_51 : decode cX1_addHead 51 = .ok (.ifCond .ne 6, 3) := by decide +kernel
theorem dX1_addHead_54 : decode cX1_addHead 54 = .ok (.bipush (-2), 2) := by decide +kernel
theorem dX1_addHead_56 : decode cX1_addHead 56 = .ok (.ireturn, 1) := by decide +kernel
theorem dX1_addHead_57 : decode cX1_addHead 57 = .ok (.aload_n 0, 1) := by decide +kernel
theorem dX1_addHead_58 : decode cX1_addHead 58 = .ok (.getfield 23, 3) := by decide +kernel
theorem dX1_addHead_61 : decode cX1_addHead 61 = .ok (.invokevirtual 47, 3) := by decide +kernel
theorem dX1_addHead_64 : decode cX1_addHead 64 = .ok (.ifCond .eq 6, 3) := by decide +kernel
theorem dX1_addHead_67 : decode cX1_addHead 67 = .ok (.bipush (-4), 2) := by decide +kernel
theorem dX1_addHead_69 : decode cX1_addHead 69 = .ok (.ireturn, 1) := by decide +kernel
theorem dX1_addHead_70 : decode cX1_addHead 70 = .ok (.aload_n 0, 1) := by decide +kernel
theorem dX1_addHead_71 : decode cX1_addHead 71 = .ok (.getfield 23, 3) := by decide +kernel
theorem dX1_addHead_74 : decode cX1_addHead 74 = .ok (.invokevirtual 51, 3) := by decide +kernel
theorem dX1_addHead_77 : decode cX1_addHead 77 = .ok (.istore 6, 2) := by decide +kernel
theorem dX1_addHead_79 : decode cX1_addHead 79 = .ok (.aload_n 0, 1) := by decide +kernel
theorem dX1_addHead_80 : decode cX1_addHead 80 = .ok (.getfield 23, 3) := by decide +kernel
theorem dX1_addHead_83 : decode cX1_addHead 83 = .ok (.iload 6, 2) := by decide +kernel
theorem dX1_addHead_85 : decode cX1_addHead 85 = .ok (.iconst 0, 1) := by decide +kernel
theorem dX1_addHead_86 : decode cX1_addHead 86 = .ok (.iload_n 1, 1) := by decide +kernel
theorem dX1_addHead_87 : decode cX1_addHead 87 = .ok (.invokevirtual 55, 3) := by decide +kernel
theorem dX1_addHead_90 : decode cX1_addHead 90 = .ok (.aload_n 0, 1) := by decide +kernel
theorem dX1_addHead_91 : decode cX1_addHead 91 = .ok (.getfield 23, 3) := by decide +kernel
theorem dX1_addHead_94 : decode cX1_addHead 94 = .ok (.iload 6, 2) := by decide +kernel
theorem dX1_addHead_96 : decode cX1_addHead 96 = .ok (.iconst 1, 1) := by decide +kernel
theorem dX1_addHead_97 : decode cX1_addHead 97 = .ok (.iload_n 2, 1) := by decide +kernel
theorem dX1_addHead_98 : decode cX1_addHead 98 = .ok (.invokevirtual 55, 3) := by decide +kernel
theorem dX1_addHead_101 : decode cX1_addHead 101 = .ok (.aload_n 0, 1) := by decide +kernel
theorem dX1_addHead_102 : decode cX1_addHead 102 = .ok (.getfield 23, 3) := by decide +kernel
theorem dX1_addHead_105 : decode cX1_addHead 105 = .ok (.iload 6, 2) := by decide +kernel
theorem dX1_addHead_107 : decode cX1_addHead 107 = .ok (.iconst 2, 1) := by decide +kernel
theorem dX1_addHead_108 : decode cX1_addHead 108 = .ok (.iload_n 3, 1) := by decide +kernel
theorem dX1_addHead_109 : decode cX1_addHead 109 = .ok (.invokevirtual 55, 3) := by decide +kernel
theorem dX1_addHead_112 : decode cX1_addHead 112 = .ok (.aload_n 0, 1) := by decide +kernel
theorem dX1_addHead_113 : decode cX1_addHead 113 = .ok (.getfield 23, 3) := by decide +kernel
theorem dX1_addHead_116 : decode cX1_addHead 116 = .ok (.iload 6, 2) := by decide +kernel
theorem dX1_addHead_118 : decode cX1_addHead 118 = .ok (.iconst 3, 1) := by decide +kernel
theorem dX1_addHead_119 : decode cX1_addHead 119 = .ok (.iload 4, 2) := by decide +kernel
theorem dX1_addHead_121 : decode cX1_addHead 121 = .ok (.invokevirtual 55, 3) := by decide +kernel
theorem dX1_addHead_124 : decode cX1_addHead 124 = .ok (.aload_n 0, 1) := by decide +kernel
theorem dX1_addHead_125 : decode cX1_addHead 125 = .ok (.getfield 23, 3) := by decide +kernel
theorem dX1_addHead_128 : decode cX1_addHead 128 = .ok (.iload 6, 2) := by decide +kernel
theorem dX1_addHead_130 : decode cX1_addHead 130 = .ok (.iconst 4, 1) := by decide +kernel
theorem dX1_addHead_131 : decode cX1_addHead 131 = .ok (.iload 5, 2) := by decide +kernel
theorem dX1_addHead_133 : decode cX1_addHead 133 = .ok (.invokevirtual 55, 3) := by decide +kernel
theorem dX1_addHead_136 : decode cX1_addHead 136 = .ok (.iload 6, 2) := by decide +kernel
theorem dX1_addHead_138 : decode cX1_addHead 138 = .ok (.ireturn, 1) := by decide +kernel
theorem me_X1_addHead : cx_Mv yX1_addHead cX1_addHead 7 (some .int) 5 := ⟨⟨⟨by decide +kernel, by decide +kernel, by decide +kernel⟩, hw_2, hw_404⟩, hw_402, hw_403⟩
noncomputable def f_X1_addHead (b_z1 : Int32) (b_c2 : Nat → Int32) (b_z2 : Int32) (p1 : Int32) (p2 : Int32) (p3 : Int32) (p4 : Int32) (p5 : Int32) : Option (Int32 × Int32 × (Nat → Int32)) := Option.bind (f_X4_has b_z1 p1) (fun u1 => if u1 = 0 then (some (((-2), b_z2, b_c2))) else (Option.bind (f_X8_within p2 0 15) (fun u4 => if u4 = 0 then (some (((-2), b_z2, b_c2))) else (Option.bind (f_X8_within p3 0 15) (fun u7 => if u7 = 0 then (some (((-2), b_z2, b_c2))) else (Option.bind (f_X8_within p4 0 99) (fun u10 => if u10 = 0 then (some (((-2), b_z2, b_c2))) else (Option.bind (f_X8_within p5 p4 99) (fun u13 => if u13 = 0 then (some (((-2), b_z2, b_c2))) else (Option.bind (f_X4_isFull 6 b_z2) (fun u16 => if u16 = 0 then (Option.bind (f_X4_grow 6 b_z2) (fun u19 => Option.bind (f_X4_put 5 30 b_c2 u19.2 u19.1 0 p1) (fun u21 => Option.bind (f_X4_put 5 30 u21 u19.2 u19.1 1 p2) (fun u23 => Option.bind (f_X4_put 5 30 u23 u19.2 u19.1 2 p3) (fun u25 => Option.bind (f_X4_put 5 30 u25 u19.2 u19.1 3 p4) (fun u27 => Option.bind (f_X4_put 5 30 u27 u19.2 u19.1 4 p5) (fun u29 => some ((u19.1, u19.2, u29))))))))) else (some (((-4), b_z2, b_c2))))))))))))))
set_option maxHeartbeats 4000000 in
set_option maxRecDepth 100000 in
theorem c_X1_addHead (l : Launch) (D : va_G) (k : Nat → ClassId) (b_a : Nat → Nat) (b_c0 : Nat → Int32) (b_z0 : Int32) (b_c1 : Nat → Int32) (b_z1 : Int32) (b_c2 : Nat → Int32) (b_z2 : Int32) (b_c3 : Nat → Int32) (b_z3 : Int32) (b_c4 : Nat → Int32) (b_z4 : Int32) (b_sg : Int32) (p1 : Int32) (p2 : Int32) (p3 : Int32) (p4 : Int32) (p5 : Int32) (y : Int32 × Int32 × (Nat → Int32)) (hf : f_X1_addHead b_z1 b_c2 b_z2 p1 p2 p3 p4 p5 = some y) : cx_M l yX1_addHead cX1_addHead 7 (some .int) 3 D k [.ref (b_a 0), .int p1, .int p2, .int p3, .int p4, .int p5] (wd_Box k b_a b_c0 b_z0 b_c1 b_z1 b_c2 b_z2 b_c3 b_z3 b_c4 b_z4 b_sg) (fun sz => cx_Qi D y.1 (wd_Box k b_a b_c0 b_z0 b_c1 b_z1 b_c2 b_z2 b_c3 b_z3 b_c4 b_z4 b_sg) (wd_Box k b_a b_c0 b_z0 b_c1 b_z1 y.2.2 y.2.1 b_c3 b_z3 b_c4 b_z4 b_sg) sz) := by
  refine cx_met (own := "NamelessBox$Box") (by decide) rfl (Nat.le_of_ble_eq_true rfl) ?_
  intro p e s m args below meth c A Q C hA hQ hr hlk
  refine cx_lv (lv' := [(0, .ref (b_a 0)), (1, .int p1), (2, .int p2), (3, .int p3), (4, .int p4), (5, .int p5)]) [0, 1, 2, 3, 4, 5] rfl ?_
  unfold f_X1_addHead at hf
  refine cx_aload_n C dX1_addHead_0 0 rfl ?_
  refine cx_get (v := .ref (b_a 3)) (ci := 1) C iX1 dX1_addHead_1 0 rfl rfl 1 (by decide) hw_64 rfl ?_
  refine cx_iload_n C dX1_addHead_4 1 rfl ?_
  obtain ⟨u1, e2, hf⟩ := cx_bd_at hf
  refine cx_Kvi (q := (RX4, TX4, 4)) (As := [.int p1]) (rest := []) hA C me_X4_has hw_372 (c_X4_has l D k (b_a 3) (b_a 4) 2 4 8 b_c1 b_z1 p1 u1 e2) dX1_addHead_5 ⟨Nat.le_of_ble_eq_true rfl, Nat.le_of_ble_eq_true rfl⟩ ⟨Nat.zero_le _, Nat.zero_le _⟩ rfl rfl (Nat.le_of_ble_eq_true rfl) rfl rfl [3, 4] rfl (by decide) ?_
  clear e2
  refine cx_if_eq (tgt := 54) C dX1_addHead_8 (by decide) (fun c3 => ?_) (fun c3 => ?_)
  · have hf := cx_if_t hf c3
    clear c3
    refine cx_bipush (v := (-2)) C dX1_addHead_54 (by decide) ?_
    obtain rfl := Option.some.inj hf
    exact cx_iret C hA hQ hr hlk dX1_addHead_56 rfl rfl
  · have hf := cx_if_f hf c3
    clear c3
    refine cx_iload_n C dX1_addHead_11 2 rfl ?_
    refine cx_iconst (v := 0) C dX1_addHead_12 (by decide) ?_
    refine cx_bipush (v := 15) C dX1_addHead_13 (by decide) ?_
    obtain ⟨u4, e5, hf⟩ := cx_bd_at hf
    refine cx_Kni (As := [.int p2, .int 0, .int 15]) (rest := []) hA C me_X8_within (fun h => h.2.2.1) (c_X8_within l D k p2 0 15 u4 e5) dX1_addHead_15 ⟨Nat.le_of_ble_eq_true rfl, Nat.le_of_ble_eq_true rfl⟩ ⟨Nat.zero_le _, Nat.zero_le _⟩ rfl rfl (Nat.le_of_ble_eq_true rfl) [] rfl (by decide) ?_
    clear e5
    refine cx_if_eq (tgt := 54) C dX1_addHead_18 (by decide) (fun c6 => ?_) (fun c6 => ?_)
    · have hf := cx_if_t hf c6
      clear c6
      refine cx_bipush (v := (-2)) C dX1_addHead_54 (by decide) ?_
      obtain rfl := Option.some.inj hf
      exact cx_iret C hA hQ hr hlk dX1_addHead_56 rfl rfl
    · have hf := cx_if_f hf c6
      clear c6
      refine cx_iload_n C dX1_addHead_21 3 rfl ?_
      refine cx_iconst (v := 0) C dX1_addHead_22 (by decide) ?_
      refine cx_bipush (v := 15) C dX1_addHead_23 (by decide) ?_
      obtain ⟨u7, e8, hf⟩ := cx_bd_at hf
      refine cx_Kni (As := [.int p3, .int 0, .int 15]) (rest := []) hA C me_X8_within (fun h => h.2.2.1) (c_X8_within l D k p3 0 15 u7 e8) dX1_addHead_25 ⟨Nat.le_of_ble_eq_true rfl, Nat.le_of_ble_eq_true rfl⟩ ⟨Nat.zero_le _, Nat.zero_le _⟩ rfl rfl (Nat.le_of_ble_eq_true rfl) [] rfl (by decide) ?_
      clear e8
      refine cx_if_eq (tgt := 54) C dX1_addHead_28 (by decide) (fun c9 => ?_) (fun c9 => ?_)
      · have hf := cx_if_t hf c9
        clear c9
        refine cx_bipush (v := (-2)) C dX1_addHead_54 (by decide) ?_
        obtain rfl := Option.some.inj hf
        exact cx_iret C hA hQ hr hlk dX1_addHead_56 rfl rfl
      · have hf := cx_if_f hf c9
        clear c9
        refine cx_iload C dX1_addHead_31 4 rfl ?_
        refine cx_iconst (v := 0) C dX1_addHead_33 (by decide) ?_
        refine cx_bipush (v := 99) C dX1_addHead_34 (by decide) ?_
        obtain ⟨u10, e11, hf⟩ := cx_bd_at hf
        refine cx_Kni (As := [.int p4, .int 0, .int 99]) (rest := []) hA C me_X8_within (fun h => h.2.2.1) (c_X8_within l D k p4 0 99 u10 e11) dX1_addHead_36 ⟨Nat.le_of_ble_eq_true rfl, Nat.le_of_ble_eq_true rfl⟩ ⟨Nat.zero_le _, Nat.zero_le _⟩ rfl rfl (Nat.le_of_ble_eq_true rfl) [] rfl (by decide) ?_
        clear e11
        refine cx_if_eq (tgt := 54) C dX1_addHead_39 (by decide) (fun c12 => ?_) (fun c12 => ?_)
        · have hf := cx_if_t hf c12
          clear c12
          refine cx_bipush (v := (-2)) C dX1_addHead_54 (by decide) ?_
          obtain rfl := Option.some.inj hf
          exact cx_iret C hA hQ hr hlk dX1_addHead_56 rfl rfl
        · have hf := cx_if_f hf c12
          clear c12
          refine cx_iload C dX1_addHead_42 5 rfl ?_
          refine cx_iload C dX1_addHead_44 4 rfl ?_
          refine cx_bipush (v := 99) C dX1_addHead_46 (by decide) ?_
          obtain ⟨u13, e14, hf⟩ := cx_bd_at hf
          refine cx_Kni (As := [.int p5, .int p4, .int 99]) (rest := []) hA C me_X8_within (fun h => h.2.2.1) (c_X8_within l D k p5 p4 99 u13 e14) dX1_addHead_48 ⟨Nat.le_of_ble_eq_true rfl, Nat.le_of_ble_eq_true rfl⟩ ⟨Nat.zero_le _, Nat.zero_le _⟩ rfl rfl (Nat.le_of_ble_eq_true rfl) [] rfl (by decide) ?_
          clear e14
          refine cx_if_ne (tgt := 57) C dX1_addHead_51 (by decide) (fun c15 => ?_) (fun c15 => ?_)
          · have hf := cx_if_f hf c15
            clear c15
            refine cx_aload_n C dX1_addHead_57 0 rfl ?_
            refine cx_get (v := .ref (b_a 5)) (ci := 1) C iX1 dX1_addHead_58 0 rfl rfl 2 (by decide) hw_67 rfl ?_
            obtain ⟨u16, e17, hf⟩ := cx_bd_at hf
            refine cx_Kvi (q := (RX4, TX4, 4)) (As := []) (rest := []) hA C me_X4_isFull hw_338 (c_X4_isFull l D k (b_a 5) (b_a 6) 5 6 30 b_c2 b_z2 u16 e17) dX1_addHead_61 ⟨Nat.le_of_ble_eq_true rfl, Nat.le_of_ble_eq_true rfl⟩ ⟨Nat.zero_le _, Nat.zero_le _⟩ rfl rfl (Nat.le_of_ble_eq_true rfl) rfl rfl [5, 6] rfl (by decide) ?_
            clear e17
            refine cx_if_eq (tgt := 70) C dX1_addHead_64 (by decide) (fun c18 => ?_) (fun c18 => ?_)
            · have hf := cx_if_t hf c18
              clear c18
              refine cx_aload_n C dX1_addHead_70 0 rfl ?_
              refine cx_get (v := .ref (b_a 5)) (ci := 1) C iX1 dX1_addHead_71 0 rfl rfl 2 (by decide) hw_67 rfl ?_
              obtain ⟨u19, e20, hf⟩ := cx_bd_at hf
              refine cx_cvi (q := (RX4, TX4, 4)) (As := []) (rest := []) (ws' := (wd_Box k b_a b_c0 b_z0 b_c1 b_z1 b_c2 u19.2 b_c3 b_z3 b_c4 b_z4 b_sg)) hA C me_X4_grow hw_342 (c_X4_grow l D k (b_a 5) (b_a 6) 5 6 30 b_c2 b_z2 u19 e20) dX1_addHead_74 ⟨Nat.le_of_ble_eq_true rfl, Nat.le_of_ble_eq_true rfl⟩ ⟨Nat.zero_le _, Nat.zero_le _⟩ rfl rfl (Nat.le_of_ble_eq_true rfl) rfl rfl [5, 6] rfl (by decide) rfl rfl ?_
              clear e20
              refine cx_istore (lv' := [(6, .int u19.1), (0, .ref (b_a 0)), (1, .int p1), (2, .int p2), (3, .int p3), (4, .int p4), (5, .int p5)]) C dX1_addHead_77 (by decide) rfl ?_
              refine cx_aload_n C dX1_addHead_79 1 rfl ?_
              refine cx_get (v := .ref (b_a 5)) (ci := 1) C iX1 dX1_addHead_80 0 rfl rfl 2 (by decide) hw_67 rfl ?_
              refine cx_iload C dX1_addHead_83 0 rfl ?_
              refine cx_iconst (v := 0) C dX1_addHead_85 (by decide) ?_
              refine cx_iload_n C dX1_addHead_86 2 rfl ?_
              obtain ⟨u21, e22, hf⟩ := cx_bd_at hf
              refine cx_cvv (q := (RX4, TX4, 4)) (As := [.int u19.1, .int 0, .int p1]) (rest := []) (ws' := (wd_Box k b_a b_c0 b_z0 b_c1 b_z1 u21 u19.2 b_c3 b_z3 b_c4 b_z4 b_sg)) hA C me_X4_put hw_347 (c_X4_put l D k (b_a 5) (b_a 6) 5 6 30 b_c2 u19.2 u19.1 0 p1 u21 e22) dX1_addHead_87 ⟨Nat.le_of_ble_eq_true rfl, Nat.le_of_ble_eq_true rfl⟩ ⟨Nat.zero_le _, Nat.zero_le _⟩ rfl rfl (Nat.le_of_ble_eq_true rfl) rfl rfl [5, 6] rfl (by decide) rfl rfl ?_
              clear e22
              refine cx_aload_n C dX1_addHead_90 1 rfl ?_
              refine cx_get (v := .ref (b_a 5)) (ci := 1) C iX1 dX1_addHead_91 0 rfl rfl 2 (by decide) hw_67 rfl ?_
              refine cx_iload C dX1_addHead_94 0 rfl ?_
              refine cx_iconst (v := 1) C dX1_addHead_96 (by decide) ?_
              refine cx_iload_n C dX1_addHead_97 3 rfl ?_
              obtain ⟨u23, e24, hf⟩ := cx_bd_at hf
              refine cx_cvv (q := (RX4, TX4, 4)) (As := [.int u19.1, .int 1, .int p2]) (rest := []) (ws' := (wd_Box k b_a b_c0 b_z0 b_c1 b_z1 u23 u19.2 b_c3 b_z3 b_c4 b_z4 b_sg)) hA C me_X4_put hw_347 (c_X4_put l D k (b_a 5) (b_a 6) 5 6 30 u21 u19.2 u19.1 1 p2 u23 e24) dX1_addHead_98 ⟨Nat.le_of_ble_eq_true rfl, Nat.le_of_ble_eq_true rfl⟩ ⟨Nat.zero_le _, Nat.zero_le _⟩ rfl rfl (Nat.le_of_ble_eq_true rfl) rfl rfl [5, 6] rfl (by decide) rfl rfl ?_
              clear e24
              refine cx_aload_n C dX1_addHead_101 1 rfl ?_
              refine cx_get (v := .ref (b_a 5)) (ci := 1) C iX1 dX1_addHead_102 0 rfl rfl 2 (by decide) hw_67 rfl ?_
              refine cx_iload C dX1_addHead_105 0 rfl ?_
              refine cx_iconst (v := 2) C dX1_addHead_107 (by decide) ?_
              refine cx_iload_n C dX1_addHead_108 4 rfl ?_
              obtain ⟨u25, e26, hf⟩ := cx_bd_at hf
              refine cx_cvv (q := (RX4, TX4, 4)) (As := [.int u19.1, .int 2, .int p3]) (rest := []) (ws' := (wd_Box k b_a b_c0 b_z0 b_c1 b_z1 u25 u19.2 b_c3 b_z3 b_c4 b_z4 b_sg)) hA C me_X4_put hw_347 (c_X4_put l D k (b_a 5) (b_a 6) 5 6 30 u23 u19.2 u19.1 2 p3 u25 e26) dX1_addHead_109 ⟨Nat.le_of_ble_eq_true rfl, Nat.le_of_ble_eq_true rfl⟩ ⟨Nat.zero_le _, Nat.zero_le _⟩ rfl rfl (Nat.le_of_ble_eq_true rfl) rfl rfl [5, 6] rfl (by decide) rfl rfl ?_
              clear e26
              refine cx_aload_n C dX1_addHead_112 1 rfl ?_
              refine cx_get (v := .ref (b_a 5)) (ci := 1) C iX1 dX1_addHead_113 0 rfl rfl 2 (by decide) hw_67 rfl ?_
              refine cx_iload C dX1_addHead_116 0 rfl ?_
              refine cx_iconst (v := 3) C dX1_addHead_118 (by decide) ?_
              refine cx_iload C dX1_addHead_119 5 rfl ?_
              obtain ⟨u27, e28, hf⟩ := cx_bd_at hf
              refine cx_cvv (q := (RX4, TX4, 4)) (As := [.int u19.1, .int 3, .int p4]) (rest := []) (ws' := (wd_Box k b_a b_c0 b_z0 b_c1 b_z1 u27 u19.2 b_c3 b_z3 b_c4 b_z4 b_sg)) hA C me_X4_put hw_347 (c_X4_put l D k (b_a 5) (b_a 6) 5 6 30 u25 u19.2 u19.1 3 p4 u27 e28) dX1_addHead_121 ⟨Nat.le_of_ble_eq_true rfl, Nat.le_of_ble_eq_true rfl⟩ ⟨Nat.zero_le _, Nat.zero_le _⟩ rfl rfl (Nat.le_of_ble_eq_true rfl) rfl rfl [5, 6] rfl (by decide) rfl rfl ?_
              clear e28
              refine cx_aload_n C dX1_addHead_124 1 rfl ?_
              refine cx_get (v := .ref (b_a 5)) (ci := 1) C iX1 dX1_addHead_125 0 rfl rfl 2 (by decide) hw_67 rfl ?_
              refine cx_iload C dX1_addHead_128 0 rfl ?_
              refine cx_iconst (v := 4) C dX1_addHead_130 (by decide) ?_
              refine cx_iload C dX1_addHead_131 6 rfl ?_
              obtain ⟨u29, e30, hf⟩ := cx_bd_at hf
              refine cx_cvv (q := (RX4, TX4, 4)) (As := [.int u19.1, .int 4, .int p5]) (rest := []) (ws' := (wd_Box k b_a b_c0 b_z0 b_c1 b_z1 u29 u19.2 b_c3 b_z3 b_c4 b_z4 b_sg)) hA C me_X4_put hw_347 (c_X4_put l D k (b_a 5) (b_a 6) 5 6 30 u27 u19.2 u19.1 4 p5 u29 e30) dX1_addHead_133 ⟨Nat.le_of_ble_eq_true rfl, Nat.le_of_ble_eq_true rfl⟩ ⟨Nat.zero_le _, Nat.zero_le _⟩ rfl rfl (Nat.le_of_ble_eq_true rfl) rfl rfl [5, 6] rfl (by decide) rfl rfl ?_
              clear e30
              refine cx_iload C dX1_addHead_136 0 rfl ?_
              obtain rfl := Option.some.inj hf
              exact cx_iret C hA hQ hr hlk dX1_addHead_138 rfl rfl
            · have hf := cx_if_f hf c18
              clear c18
              refine cx_bipush (v := (-4)) C dX1_addHead_67 (by decide) ?_
              obtain rfl := Option.some.inj hf
              exact cx_iret C hA hQ hr hlk dX1_addHead_69 rfl rfl
          · have hf := cx_if_t hf c15
            clear c15
            refine cx_bipush (v := (-2)) C dX1_addHead_54 (by decide) ?_
            obtain rfl := Option.some.inj hf
            exact cx_iret C hA hQ hr hlk dX1_addHead_56 rfl rfl
theorem dX1_addName_0 : decode cX1_addName 0 = .ok (.iload_n 1, 1) := by decide +kernel
theorem dX1_addName_1 : decode cX1_addName 1 = .ok (.iconst 0, 1) := by decide +kernel
theorem dX1_addName_2 : decode cX1_addName 2 = .ok (.iconst 5, 1) := by decide +kernel
theorem dX1_addName_3 : decode cX1_addName 3 = .ok (.invokestatic 43, 3) := by decide +kernel
theorem dX1_addName_6 : decode cX1_addName 6 = .ok (.ifCond .eq 37, 3) := by decide +kernel
theorem dX1_addName_9 : decode cX1_addName 9 = .ok (.aload_n 0, 1) := by decide +kernel
theorem dX1_addName_10 : decode cX1_addName 10 = .ok (.getfield 23, 3) := by decide +kernel
theorem dX1_addName_13 : decode cX1_addName 13 = .ok (.iload_n 2, 1) := by decide +kernel
theorem dX1_addName_14 : decode cX1_addName 14 = .ok (.invokevirtual 59, 3) := by decide +kernel
theorem dX1_addName_17 : decode cX1_addName 17 = .ok (.ifCond .eq 26, 3) := by decide +kernel
theorem dX1_addName_20 : decode cX1_addName 20 = .ok (.aload_n 0, 1) := by decide +kernel
theorem dX1_addName_21 : decode cX1_addName 21 = .ok (.getfield 14, 3) := by decide +kernel
theorem dX1_addName_24 : decode cX1_addName 24 = .ok (.iload_n 3, 1) := by decide +kernel
theorem dX1_addName_25 : decode cX1_addName 25 = .ok (.invokevirtual 59, 3) := by decide +kernel
theorem dX1_addName_28 : decode cX1_addName 28 = .ok (.ifCond .eq 15, 3) := by decide +kernel
theorem dX1_addName_31 : decode cX1_addName 31 = .ok (.aload_n 0, 1) := by decide +kernel
theorem dX1_addName_32 : decode cX1_addName 32 = .ok (.getfield 14, 3) := by decide +kernel
theorem dX1_addName_35 : decode cX1_addName 35 = .ok (.iload 4, 2) := by decide +kernel
theorem dX1_addName_37 : decode cX1_addName 37 = .ok (.invokevirtual 59, 3) := by decide +kernel
theorem dX1_addName_40 : decode cX1_addName 40 = .ok (.ifCond .ne 6, 3) := by decide +kernel
theorem dX1_addName_43 : decode cX1_addName 43 = .ok (.bipush (-2), 2) := by decide +kernel
theorem dX1_addName_45 : decode cX1_addName 45 = .ok (.ireturn, 1) := by decide +kernel
theorem dX1_addName_46 : decode cX1_addName 46 = .ok (.aload_n 0, 1) := by decide +kernel
theorem dX1_addName_47 : decode cX1_addName 47 = .ok (.getfield 26, 3) := by decide +kernel
theorem dX1_addName_50 : decode cX1_addName 50 = .ok (.invokevirtual 47, 3) := by decide +kernel
theorem dX1_addName_53 : decode cX1_addName 53 = .ok (.ifCond .eq 6, 3) := by decide +kernel
theorem dX1_addName_56 : decode cX1_addName 56 = .ok (.bipush (-4), 2) := by decide +kernel
theorem dX1_addName_58 : decode cX1_addName 58 = .ok (.ireturn, 1) := by decide +kernel
theorem dX1_addName_59 : decode cX1_addName 59 = .ok (.aload_n 0, 1) := by decide +kernel
theorem dX1_addName_60 : decode cX1_addName 60 = .ok (.getfield 26, 3) := by decide +kernel
theorem dX1_addName_63 : decode cX1_addName 63 = .ok (.invokevirtual 51, 3) := by decide +kernel
theorem dX1_addName_66 : decode cX1_addName 66 = .ok (.istore 5, 2) := by decide +kernel
theorem dX1_addName_68 : decode cX1_addName 68 = .ok (.aload_n 0, 1) := by decide +kernel
theorem dX1_addName_69 : decode cX1_addName 69 = .ok (.getfield 26, 3) := by decide +kernel
theorem dX1_addName_72 : decode cX1_addName 72 = .ok (.iload 5, 2) := by decide +kernel
theorem dX1_addName_74 : decode cX1_addName 74 = .ok (.iconst 0, 1) := by decide +kernel
theorem dX1_addName_75 : decode cX1_addName 75 = .ok (.iload_n 1, 1) := by decide +kernel
theorem dX1_addName_76 : decode cX1_addName 76 = .ok (.invokevirtual 55, 3) := by decide +kernel
theorem dX1_addName_79 : decode cX1_addName 79 = .ok (.aload_n 0, 1) := by decide +kernel
theorem dX1_addName_80 : decode cX1_addName 80 = .ok (.getfield 26, 3) := by decide +kernel
theorem dX1_addName_83 : decode cX1_addName 83 = .ok (.iload 5, 2) := by decide +kernel
theorem dX1_addName_85 : decode cX1_addName 85 = .ok (.iconst 1, 1) := by decide +kernel
theorem dX1_addName_86 : decode cX1_addName 86 = .ok (.iload_n 2, 1) := by decide +kernel
theorem dX1_addName_87 : decode cX1_addName 87 = .ok (.invokevirtual 55, 3) := by decide +kernel
theorem dX1_addName_90 : decode cX1_addName 90 = .ok (.aload_n 0, 1) := by decide +kernel
theorem dX1_addName_91 : decode cX1_addName 91 = .ok (.getfield 26, 3) := by decide +kernel
theorem dX1_addName_94 : decode cX1_addName 94 = .ok (.iload 5, 2) := by decide +kernel
theorem dX1_addName_96 : decode cX1_addName 96 = .ok (.iconst 2, 1) := by decide +kernel
theorem dX1_addName_97 : decode cX1_addName 97 = .ok (.iload_n 3, 1) := by decide +kernel
theorem dX1_addName_98 : decode cX1_addName 98 = .ok (.invokevirtual 55, 3) := by decide +kernel
theorem dX1_addName_101 : decode cX1_addName 101 = .ok (.aload_n 0, 1) := by decide +kernel
theorem dX1_addName_102 : decode cX1_addName 102 = .ok (.getfield 26, 3) := by decide +kernel
theorem dX1_addName_105 : decode cX1_addName 105 = .ok (.iload 5, 2) := by decide +kernel
theorem dX1_addName_107 : decode cX1_addName 107 = .ok (.iconst 3, 1) := by decide +kernel
theorem dX1_addName_108 : decode cX1_addName 108 = .ok (.iload 4, 2) := by decide +kernel
theorem dX1_addName_110 : decode cX1_addName 110 = .ok (.invokevirtual 55, 3) := by decide +kernel
theorem dX1_addName_113 : decode cX1_addName 113 = .ok (.iload 5, 2) := by decide +kernel
theorem dX1_addName_115 : decode cX1_addName 115 = .ok (.ireturn, 1) := by decide +kernel
theorem me_X1_addName : cx_Mv yX1_addName cX1_addName 6 (some .int) 4 := ⟨⟨⟨by decide +kernel, by decide +kernel, by decide +kernel⟩, hw_2, hw_412⟩, hw_410, hw_411⟩
noncomputable def f_X1_addName (b_z0 : Int32) (b_z2 : Int32) (b_c3 : Nat → Int32) (b_z3 : Int32) (p1 : Int32) (p2 : Int32) (p3 : Int32) (p4 : Int32) : Option (Int32 × Int32 × (Nat → Int32)) := Option.bind (f_X8_within p1 0 5) (fun u1 => if u1 = 0 then (some (((-2), b_z3, b_c3))) else (Option.bind (f_X4_has b_z2 p2) (fun u4 => if u4 = 0 then (some (((-2), b_z3, b_c3))) else (Option.bind (f_X4_has b_z0 p3) (fun u7 => if u7 = 0 then (some (((-2), b_z3, b_c3))) else (Option.bind (f_X4_has b_z0 p4) (fun u10 => if u10 = 0 then (some (((-2), b_z3, b_c3))) else (Option.bind (f_X4_isFull 4 b_z3) (fun u13 => if u13 = 0 then (Option.bind (f_X4_grow 4 b_z3) (fun u16 => Option.bind (f_X4_put 4 16 b_c3 u16.2 u16.1 0 p1) (fun u18 => Option.bind (f_X4_put 4 16 u18 u16.2 u16.1 1 p2) (fun u20 => Option.bind (f_X4_put 4 16 u20 u16.2 u16.1 2 p3) (fun u22 => Option.bind (f_X4_put 4 16 u22 u16.2 u16.1 3 p4) (fun u24 => some ((u16.1, u16.2, u24)))))))) else (some (((-4), b_z3, b_c3))))))))))))
set_option maxHeartbeats 4000000 in
set_option maxRecDepth 100000 in
theorem c_X1_addName (l : Launch) (D : va_G) (k : Nat → ClassId) (b_a : Nat → Nat) (b_c0 : Nat → Int32) (b_z0 : Int32) (b_c1 : Nat → Int32) (b_z1 : Int32) (b_c2 : Nat → Int32) (b_z2 : Int32) (b_c3 : Nat → Int32) (b_z3 : Int32) (b_c4 : Nat → Int32) (b_z4 : Int32) (b_sg : Int32) (p1 : Int32) (p2 : Int32) (p3 : Int32) (p4 : Int32) (y : Int32 × Int32 × (Nat → Int32)) (hf : f_X1_addName b_z0 b_z2 b_c3 b_z3 p1 p2 p3 p4 = some y) : cx_M l yX1_addName cX1_addName 6 (some .int) 3 D k [.ref (b_a 0), .int p1, .int p2, .int p3, .int p4] (wd_Box k b_a b_c0 b_z0 b_c1 b_z1 b_c2 b_z2 b_c3 b_z3 b_c4 b_z4 b_sg) (fun sz => cx_Qi D y.1 (wd_Box k b_a b_c0 b_z0 b_c1 b_z1 b_c2 b_z2 b_c3 b_z3 b_c4 b_z4 b_sg) (wd_Box k b_a b_c0 b_z0 b_c1 b_z1 b_c2 b_z2 y.2.2 y.2.1 b_c4 b_z4 b_sg) sz) := by
  refine cx_met (own := "NamelessBox$Box") (by decide) rfl (Nat.le_of_ble_eq_true rfl) ?_
  intro p e s m args below meth c A Q C hA hQ hr hlk
  refine cx_lv (lv' := [(0, .ref (b_a 0)), (1, .int p1), (2, .int p2), (3, .int p3), (4, .int p4)]) [0, 1, 2, 3, 4] rfl ?_
  unfold f_X1_addName at hf
  refine cx_iload_n C dX1_addName_0 1 rfl ?_
  refine cx_iconst (v := 0) C dX1_addName_1 (by decide) ?_
  refine cx_iconst (v := 5) C dX1_addName_2 (by decide) ?_
  obtain ⟨u1, e2, hf⟩ := cx_bd_at hf
  refine cx_Kni (As := [.int p1, .int 0, .int 5]) (rest := []) hA C me_X8_within (fun h => h.2.2.1) (c_X8_within l D k p1 0 5 u1 e2) dX1_addName_3 ⟨Nat.le_of_ble_eq_true rfl, Nat.le_of_ble_eq_true rfl⟩ ⟨Nat.zero_le _, Nat.zero_le _⟩ rfl rfl (Nat.le_of_ble_eq_true rfl) [] rfl (by decide) ?_
  clear e2
  refine cx_if_eq (tgt := 43) C dX1_addName_6 (by decide) (fun c3 => ?_) (fun c3 => ?_)
  · have hf := cx_if_t hf c3
    clear c3
    refine cx_bipush (v := (-2)) C dX1_addName_43 (by decide) ?_
    obtain rfl := Option.some.inj hf
    exact cx_iret C hA hQ hr hlk dX1_addName_45 rfl rfl
  · have hf := cx_if_f hf c3
    clear c3
    refine cx_aload_n C dX1_addName_9 0 rfl ?_
    refine cx_get (v := .ref (b_a 5)) (ci := 1) C iX1 dX1_addName_10 0 rfl rfl 2 (by decide) hw_67 rfl ?_
    refine cx_iload_n C dX1_addName_13 2 rfl ?_
    obtain ⟨u4, e5, hf⟩ := cx_bd_at hf
    refine cx_Kvi (q := (RX4, TX4, 4)) (As := [.int p2]) (rest := []) hA C me_X4_has hw_372 (c_X4_has l D k (b_a 5) (b_a 6) 5 6 30 b_c2 b_z2 p2 u4 e5) dX1_addName_14 ⟨Nat.le_of_ble_eq_true rfl, Nat.le_of_ble_eq_true rfl⟩ ⟨Nat.zero_le _, Nat.zero_le _⟩ rfl rfl (Nat.le_of_ble_eq_true rfl) rfl rfl [5, 6] rfl (by decide) ?_
    clear e5
    refine cx_if_eq (tgt := 43) C dX1_addName_17 (by decide) (fun c6 => ?_) (fun c6 => ?_)
    · have hf := cx_if_t hf c6
      clear c6
      refine cx_bipush (v := (-2)) C dX1_addName_43 (by decide) ?_
      obtain rfl := Option.some.inj hf
      exact cx_iret C hA hQ hr hlk dX1_addName_45 rfl rfl
    · have hf := cx_if_f hf c6
      clear c6
      refine cx_aload_n C dX1_addName_20 0 rfl ?_
      refine cx_get (v := .ref (b_a 1)) (ci := 1) C iX1 dX1_addName_21 0 rfl rfl 0 (by decide) hw_60 rfl ?_
      refine cx_iload_n C dX1_addName_24 3 rfl ?_
      obtain ⟨u7, e8, hf⟩ := cx_bd_at hf
      refine cx_Kvi (q := (RX4, TX4, 4)) (As := [.int p3]) (rest := []) hA C me_X4_has hw_372 (c_X4_has l D k (b_a 1) (b_a 2) 6 5 30 b_c0 b_z0 p3 u7 e8) dX1_addName_25 ⟨Nat.le_of_ble_eq_true rfl, Nat.le_of_ble_eq_true rfl⟩ ⟨Nat.zero_le _, Nat.zero_le _⟩ rfl rfl (Nat.le_of_ble_eq_true rfl) rfl rfl [1, 2] rfl (by decide) ?_
      clear e8
      refine cx_if_eq (tgt := 43) C dX1_addName_28 (by decide) (fun c9 => ?_) (fun c9 => ?_)
      · have hf := cx_if_t hf c9
        clear c9
        refine cx_bipush (v := (-2)) C dX1_addName_43 (by decide) ?_
        obtain rfl := Option.some.inj hf
        exact cx_iret C hA hQ hr hlk dX1_addName_45 rfl rfl
      · have hf := cx_if_f hf c9
        clear c9
        refine cx_aload_n C dX1_addName_31 0 rfl ?_
        refine cx_get (v := .ref (b_a 1)) (ci := 1) C iX1 dX1_addName_32 0 rfl rfl 0 (by decide) hw_60 rfl ?_
        refine cx_iload C dX1_addName_35 4 rfl ?_
        obtain ⟨u10, e11, hf⟩ := cx_bd_at hf
        refine cx_Kvi (q := (RX4, TX4, 4)) (As := [.int p4]) (rest := []) hA C me_X4_has hw_372 (c_X4_has l D k (b_a 1) (b_a 2) 6 5 30 b_c0 b_z0 p4 u10 e11) dX1_addName_37 ⟨Nat.le_of_ble_eq_true rfl, Nat.le_of_ble_eq_true rfl⟩ ⟨Nat.zero_le _, Nat.zero_le _⟩ rfl rfl (Nat.le_of_ble_eq_true rfl) rfl rfl [1, 2] rfl (by decide) ?_
        clear e11
        refine cx_if_ne (tgt := 46) C dX1_addName_40 (by decide) (fun c12 => ?_) (fun c12 => ?_)
        · have hf := cx_if_f hf c12
          clear c12
          refine cx_aload_n C dX1_addName_46 0 rfl ?_
          refine cx_get (v := .ref (b_a 7)) (ci := 1) C iX1 dX1_addName_47 0 rfl rfl 3 (by decide) hw_71 rfl ?_
          obtain ⟨u13, e14, hf⟩ := cx_bd_at hf
          refine cx_Kvi (q := (RX4, TX4, 4)) (As := []) (rest := []) hA C me_X4_isFull hw_338 (c_X4_isFull l D k (b_a 7) (b_a 8) 4 4 16 b_c3 b_z3 u13 e14) dX1_addName_50 ⟨Nat.le_of_ble_eq_true rfl, Nat.le_of_ble_eq_true rfl⟩ ⟨Nat.zero_le _, Nat.zero_le _⟩ rfl rfl (Nat.le_of_ble_eq_true rfl) rfl rfl [7, 8] rfl (by decide) ?_
          clear e14
          refine cx_if_eq (tgt := 59) C dX1_addName_53 (by decide) (fun c15 => ?_) (fun c15 => ?_)
          · have hf := cx_if_t hf c15
            clear c15
            refine cx_aload_n C dX1_addName_59 0 rfl ?_
            refine cx_get (v := .ref (b_a 7)) (ci := 1) C iX1 dX1_addName_60 0 rfl rfl 3 (by decide) hw_71 rfl ?_
            obtain ⟨u16, e17, hf⟩ := cx_bd_at hf
            refine cx_cvi (q := (RX4, TX4, 4)) (As := []) (rest := []) (ws' := (wd_Box k b_a b_c0 b_z0 b_c1 b_z1 b_c2 b_z2 b_c3 u16.2 b_c4 b_z4 b_sg)) hA C me_X4_grow hw_342 (c_X4_grow l D k (b_a 7) (b_a 8) 4 4 16 b_c3 b_z3 u16 e17) dX1_addName_63 ⟨Nat.le_of_ble_eq_true rfl, Nat.le_of_ble_eq_true rfl⟩ ⟨Nat.zero_le _, Nat.zero_le _⟩ rfl rfl (Nat.le_of_ble_eq_true rfl) rfl rfl [7, 8] rfl (by decide) rfl rfl ?_
            clear e17
            refine cx_istore (lv' := [(5, .int u16.1), (0, .ref (b_a 0)), (1, .int p1), (2, .int p2), (3, .int p3), (4, .int p4)]) C dX1_addName_66 (by decide) rfl ?_
            refine cx_aload_n C dX1_addName_68 1 rfl ?_
            refine cx_get (v := .ref (b_a 7)) (ci := 1) C iX1 dX1_addName_69 0 rfl rfl 3 (by decide) hw_71 rfl ?_
            refine cx_iload C dX1_addName_72 0 rfl ?_
            refine cx_iconst (v := 0) C dX1_addName_74 (by decide) ?_
            refine cx_iload_n C dX1_addName_75 2 rfl ?_
            obtain ⟨u18, e19, hf⟩ := cx_bd_at hf
            refine cx_cvv (q := (RX4, TX4, 4)) (As := [.int u16.1, .int 0, .int p1]) (rest := []) (ws' := (wd_Box k b_a b_c0 b_z0 b_c1 b_z1 b_c2 b_z2 u18 u16.2 b_c4 b_z4 b_sg)) hA C me_X4_put hw_347 (c_X4_put l D k (b_a 7) (b_a 8) 4 4 16 b_c3 u16.2 u16.1 0 p1 u18 e19) dX1_addName_76 ⟨Nat.le_of_ble_eq_true rfl, Nat.le_of_ble_eq_true rfl⟩ ⟨Nat.zero_le _, Nat.zero_le _⟩ rfl rfl (Nat.le_of_ble_eq_true rfl) rfl rfl [7, 8] rfl (by decide) rfl rfl ?_
            clear e19
            refine cx_aload_n C dX1_addName_79 1 rfl ?_
            refine cx_get (v := .ref (b_a 7)) (ci := 1) C iX1 dX1_addName_80 0 rfl rfl 3 (by decide) hw_71 rfl ?_
            refine cx_iload C dX1_addName_83 0 rfl ?_
            refine cx_iconst (v := 1) C dX1_addName_85 (by decide) ?_
            refine cx_iload_n C dX1_addName_86 3 rfl ?_
            obtain ⟨u20, e21, hf⟩ := cx_bd_at hf
            refine cx_cvv (q := (RX4, TX4, 4)) (As := [.int u16.1, .int 1, .int p2]) (rest := []) (ws' := (wd_Box k b_a b_c0 b_z0 b_c1 b_z1 b_c2 b_z2 u20 u16.2 b_c4 b_z4 b_sg)) hA C me_X4_put hw_347 (c_X4_put l D k (b_a 7) (b_a 8) 4 4 16 u18 u16.2 u16.1 1 p2 u20 e21) dX1_addName_87 ⟨Nat.le_of_ble_eq_true rfl, Nat.le_of_ble_eq_true rfl⟩ ⟨Nat.zero_le _, Nat.zero_le _⟩ rfl rfl (Nat.le_of_ble_eq_true rfl) rfl rfl [7, 8] rfl (by decide) rfl rfl ?_
            clear e21
            refine cx_aload_n C dX1_addName_90 1 rfl ?_
            refine cx_get (v := .ref (b_a 7)) (ci := 1) C iX1 dX1_addName_91 0 rfl rfl 3 (by decide) hw_71 rfl ?_
            refine cx_iload C dX1_addName_94 0 rfl ?_
            refine cx_iconst (v := 2) C dX1_addName_96 (by decide) ?_
            refine cx_iload_n C dX1_addName_97 4 rfl ?_
            obtain ⟨u22, e23, hf⟩ := cx_bd_at hf
            refine cx_cvv (q := (RX4, TX4, 4)) (As := [.int u16.1, .int 2, .int p3]) (rest := []) (ws' := (wd_Box k b_a b_c0 b_z0 b_c1 b_z1 b_c2 b_z2 u22 u16.2 b_c4 b_z4 b_sg)) hA C me_X4_put hw_347 (c_X4_put l D k (b_a 7) (b_a 8) 4 4 16 u20 u16.2 u16.1 2 p3 u22 e23) dX1_addName_98 ⟨Nat.le_of_ble_eq_true rfl, Nat.le_of_ble_eq_true rfl⟩ ⟨Nat.zero_le _, Nat.zero_le _⟩ rfl rfl (Nat.le_of_ble_eq_true rfl) rfl rfl [7, 8] rfl (by decide) rfl rfl ?_
            clear e23
            refine cx_aload_n C dX1_addName_101 1 rfl ?_
            refine cx_get (v := .ref (b_a 7)) (ci := 1) C iX1 dX1_addName_102 0 rfl rfl 3 (by decide) hw_71 rfl ?_
            refine cx_iload C dX1_addName_105 0 rfl ?_
            refine cx_iconst (v := 3) C dX1_addName_107 (by decide) ?_
            refine cx_iload C dX1_addName_108 5 rfl ?_
            obtain ⟨u24, e25, hf⟩ := cx_bd_at hf
            refine cx_cvv (q := (RX4, TX4, 4)) (As := [.int u16.1, .int 3, .int p4]) (rest := []) (ws' := (wd_Box k b_a b_c0 b_z0 b_c1 b_z1 b_c2 b_z2 u24 u16.2 b_c4 b_z4 b_sg)) hA C me_X4_put hw_347 (c_X4_put l D k (b_a 7) (b_a 8) 4 4 16 u22 u16.2 u16.1 3 p4 u24 e25) dX1_addName_110 ⟨Nat.le_of_ble_eq_true rfl, Nat.le_of_ble_eq_true rfl⟩ ⟨Nat.zero_le _, Nat.zero_le _⟩ rfl rfl (Nat.le_of_ble_eq_true rfl) rfl rfl [7, 8] rfl (by decide) rfl rfl ?_
            clear e25
            refine cx_iload C dX1_addName_113 0 rfl ?_
            obtain rfl := Option.some.inj hf
            exact cx_iret C hA hQ hr hlk dX1_addName_115 rfl rfl
          · have hf := cx_if_f hf c15
            clear c15
            refine cx_bipush (v := (-4)) C dX1_addName_56 (by decide) ?_
            obtain rfl := Option.some.inj hf
            exact cx_iret C hA hQ hr hlk dX1_addName_58 rfl rfl
        · have hf := cx_if_t hf c12
          clear c12
          refine cx_bipush (v := (-2)) C dX1_addName_43 (by decide) ?_
          obtain rfl := Option.some.inj hf
          exact cx_iret C hA hQ hr hlk dX1_addName_45 rfl rfl
theorem dX1_addJoin_0 : decode cX1_addJoin 0 = .ok (.aload_n 0, 1) := by decide +kernel
theorem dX1_addJoin_1 : decode cX1_addJoin 1 = .ok (.getfield 23, 3) := by decide +kernel
theorem dX1_addJoin_4 : decode cX1_addJoin 4 = .ok (.iload_n 1, 1) := by decide +kernel
theorem dX1_addJoin_5 : decode cX1_addJoin 5 = .ok (.invokevirtual 59, 3) := by decide +kernel
theorem dX1_addJoin_8 : decode cX1_addJoin 8 = .ok (.ifCond .eq 45, 3) := by decide +kernel
theorem dX1_addJoin_11 : decode cX1_addJoin 11 = .ok (.aload_n 0, 1) := by decide +kernel
theorem dX1_addJoin_12 : decode cX1_addJoin 12 = .ok (.getfield 23, 3) := by decide +kernel
theorem dX1_addJoin_15 : decode cX1_addJoin 15 = .ok (.iload_n 2, 1) := by decide +kernel
theorem dX1_addJoin_16 : decode cX1_addJoin 16 = .ok (.invokevirtual 59, 3) := by decide +kernel
theorem dX1_addJoin_19 : decode cX1_addJoin 19 = .ok (.ifCond .eq 34, 3) := by decide +kernel
theorem dX1_addJoin_22 : decode cX1_addJoin 22 = .ok (.aload_n 0, 1) := by decide +kernel
theorem dX1_addJoin_23 : decode cX1_addJoin 23 = .ok (.getfield 23, 3) := by decide +kernel
theorem dX1_addJoin_26 : decode cX1_addJoin 26 = .ok (.iload_n 1, 1) := by decide +kernel
theorem dX1_addJoin_27 : decode cX1_addJoin 27 = .ok (.iconst 0, 1) := by decide +kernel
theorem dX1_addJoin_28 : decode cX1_addJoin 28 = .ok (.invokevirtual 67, 3) := by decide +kernel
theorem dX1_addJoin_31 : decode cX1_addJoin 31 = .ok (.aload_n 0, 1) := by decide +kernel
theorem dX1_addJoin_32 : decode cX1_addJoin 32 = .ok (.getfield 23, 3) := by decide +kernel
theorem dX1_addJoin_35 : decode cX1_addJoin 35 = .ok (.iload_n 2, 1) := by decide +kernel
theorem dX1_addJoin_36 : decode cX1_addJoin 36 = .ok (.iconst 0, 1) := by decide +kernel
theorem dX1_addJoin_37 : decode cX1_addJoin 37 = .ok (.invokevirtual 67, 3) := by decide +kernel
theorem dX1_addJoin_40 : decode cX1_addJoin 40 = .ok (.if_icmp .eq 13, 3) := by decide +kernel
theorem dX1_addJoin_43 : decode cX1_addJoin 43 = .ok (.iload_n 3, 1) := by decide +kernel
theorem dX1_addJoin_44 : decode cX1_addJoin 44 = .ok (.iconst 0, 1) := by decide +kernel
theorem dX1_addJoin_45 : decode cX1_addJoin 45 = .ok (.bipush 10, 2) := by decide +kernel
theorem dX1_addJoin_47 : decode cX1_addJoin 47 = .ok (.invokestatic 43, 3) := by decide +kernel
theorem dX1_addJoin_50 : decode cX1_addJoin 50 = .ok (.ifCond .ne 6, 3) := by decide +kernel
theorem dX1_addJoin_53 : decode cX1_addJoin 53 = .ok (.bipush (-2), 2) := by decide +kernel
theorem dX1_addJoin_55 : decode cX1_addJoin 55 = .ok (.ireturn, 1) := by decide +kernel
theorem dX1_addJoin_56 : decode cX1_addJoin 56 = .ok (.aload_n 0, 1) := by decide +kernel
theorem dX1_addJoin_57 : decode cX1_addJoin 57 = .ok (.getfield 29, 3) := by decide +kernel
theorem dX1_addJoin_60 : decode cX1_addJoin 60 = .ok (.invokevirtual 47, 3) := by decide +kernel
theorem dX1_addJoin_63 : decode cX1_addJoin 63 = .ok (.ifCond .eq 6, 3) := by decide +kernel
theorem dX1_addJoin_66 : decode cX1_addJoin 66 = .ok (.bipush (-4), 2) := by decide +kernel
theorem dX1_addJoin_68 : decode cX1_addJoin 68 = .ok (.ireturn, 1) := by decide +kernel
theorem dX1_addJoin_69 : decode cX1_addJoin 69 = .ok (.aload_n 0, 1) := by decide +kernel
theorem dX1_addJoin_70 : decode cX1_addJoin 70 = .ok (.getfield 29, 3) := by decide +kernel
theorem dX1_addJoin_73 : decode cX1_addJoin 73 = .ok (.invokevirtual 51, 3) := by decide +kernel
theorem dX1_addJoin_76 : decode cX1_addJoin 76 = .ok (.istore 4, 2) := by decide +kernel
theorem dX1_addJoin_78 : decode cX1_addJoin 78 = .ok (.aload_n 0, 1) := by decide +kernel
theorem dX1_addJoin_79 : decode cX1_addJoin 79 = .ok (.getfield 29, 3) := by decide +kernel
theorem dX1_addJoin_82 : decode cX1_addJoin 82 = .ok (.iload 4, 2) := by decide +kernel
theorem dX1_addJoin_84 : decode cX1_addJoin 84 = .ok (.iconst 0, 1) := by decide +kernel
theorem dX1_addJoin_85 : decode cX1_addJoin 85 = .ok (.iload_n 1, 1) := by decide +kernel
theorem dX1_addJoin_86 : decode cX1_addJoin 86 = .ok (.invokevirtual 55, 3) := by decide +kernel
theorem dX1_addJoin_89 : decode cX1_addJoin 89 = .ok (.aload_n 0, 1) := by decide +kernel
theorem dX1_addJoin_90 : decode cX1_addJoin 90 = .ok (.getfield 29, 3) := by decide +kernel
theorem dX1_addJoin_93 : decode cX1_addJoin 93 = .ok (.iload 4, 2) := by decide +kernel
theorem dX1_addJoin_95 : decode cX1_addJoin 95 = .ok (.iconst 1, 1) := by decide +kernel
theorem dX1_addJoin_96 : decode cX1_addJoin 96 = .ok (.iload_n 2, 1) := by decide +kernel
theorem dX1_addJoin_97 : decode cX1_addJoin 97 = .ok (.invokevirtual 55, 3) := by decide +kernel
theorem dX1_addJoin_100 : decode cX1_addJoin 100 = .ok (.aload_n 0, 1) := by decide +kernel
theorem dX1_addJoin_101 : decode cX1_addJoin 101 = .ok (.getfield 29, 3) := by decide +kernel
theorem dX1_addJoin_104 : decode cX1_addJoin 104 = .ok (.iload 4, 2) := by decide +kernel
theorem dX1_addJoin_106 : decode cX1_addJoin 106 = .ok (.iconst 2, 1) := by decide +kernel
theorem dX1_addJoin_107 : decode cX1_addJoin 107 = .ok (.iload_n 3, 1) := by decide +kernel
theorem dX1_addJoin_108 : decode cX1_addJoin 108 = .ok (.invokevirtual 55, 3) := by decide +kernel
theorem dX1_addJoin_111 : decode cX1_addJoin 111 = .ok (.iload 4, 2) := by decide +kernel
theorem dX1_addJoin_113 : decode cX1_addJoin 113 = .ok (.ireturn, 1) := by decide +kernel
theorem me_X1_addJoin : cx_Mv yX1_addJoin cX1_addJoin 5 (some .int) 3 := ⟨⟨⟨by decide +kernel, by decide +kernel, by decide +kernel⟩, hw_2, hw_420⟩, hw_418, hw_419⟩
noncomputable def f_X1_addJoin (b_c2 : Nat → Int32) (b_z2 : Int32) (b_c4 : Nat → Int32) (b_z4 : Int32) (p1 : Int32) (p2 : Int32) (p3 : Int32) : Option (Int32 × Int32 × (Nat → Int32)) := Option.bind (f_X4_has b_z2 p1) (fun u1 => if u1 = 0 then (some (((-2), b_z4, b_c4))) else (Option.bind (f_X4_has b_z2 p2) (fun u4 => if u4 = 0 then (some (((-2), b_z4, b_c4))) else (Option.bind (f_X4_at 5 30 b_c2 b_z2 p1 0) (fun u7 => Option.bind (f_X4_at 5 30 b_c2 b_z2 p2 0) (fun u9 => if u7 = u9 then (some (((-2), b_z4, b_c4))) else (Option.bind (f_X8_within p3 0 10) (fun u12 => if u12 = 0 then (some (((-2), b_z4, b_c4))) else (Option.bind (f_X4_isFull 4 b_z4) (fun u15 => if u15 = 0 then (Option.bind (f_X4_grow 4 b_z4) (fun u18 => Option.bind (f_X4_put 3 12 b_c4 u18.2 u18.1 0 p1) (fun u20 => Option.bind (f_X4_put 3 12 u20 u18.2 u18.1 1 p2) (fun u22 => Option.bind (f_X4_put 3 12 u22 u18.2 u18.1 2 p3) (fun u24 => some ((u18.1, u18.2, u24))))))) else (some (((-4), b_z4, b_c4)))))))))))))
set_option maxHeartbeats 4000000 in
set_option maxRecDepth 100000 in
theorem c_X1_addJoin (l : Launch) (D : va_G) (k : Nat → ClassId) (b_a : Nat → Nat) (b_c0 : Nat → Int32) (b_z0 : Int32) (b_c1 : Nat → Int32) (b_z1 : Int32) (b_c2 : Nat → Int32) (b_z2 : Int32) (b_c3 : Nat → Int32) (b_z3 : Int32) (b_c4 : Nat → Int32) (b_z4 : Int32) (b_sg : Int32) (p1 : Int32) (p2 : Int32) (p3 : Int32) (y : Int32 × Int32 × (Nat → Int32)) (hf : f_X1_addJoin b_c2 b_z2 b_c4 b_z4 p1 p2 p3 = some y) : cx_M l yX1_addJoin cX1_addJoin 5 (some .int) 3 D k [.ref (b_a 0), .int p1, .int p2, .int p3] (wd_Box k b_a b_c0 b_z0 b_c1 b_z1 b_c2 b_z2 b_c3 b_z3 b_c4 b_z4 b_sg) (fun sz => cx_Qi D y.1 (wd_Box k b_a b_c0 b_z0 b_c1 b_z1 b_c2 b_z2 b_c3 b_z3 b_c4 b_z4 b_sg) (wd_Box k b_a b_c0 b_z0 b_c1 b_z1 b_c2 b_z2 b_c3 b_z3 y.2.2 y.2.1 b_sg) sz) := by
  refine cx_met (own := "NamelessBox$Box") (by decide) rfl (Nat.le_of_ble_eq_true rfl) ?_
  intro p e s m args below meth c A Q C hA hQ hr hlk
  refine cx_lv (lv' := [(0, .ref (b_a 0)), (1, .int p1), (2, .int p2), (3, .int p3)]) [0, 1, 2, 3] rfl ?_
  unfold f_X1_addJoin at hf
  refine cx_aload_n C dX1_addJoin_0 0 rfl ?_
  refine cx_get (v := .ref (b_a 5)) (ci := 1) C iX1 dX1_addJoin_1 0 rfl rfl 2 (by decide) hw_67 rfl ?_
  refine cx_iload_n C dX1_addJoin_4 1 rfl ?_
  obtain ⟨u1, e2, hf⟩ := cx_bd_at hf
  refine cx_Kvi (q := (RX4, TX4, 4)) (As := [.int p1]) (rest := []) hA C me_X4_has hw_372 (c_X4_has l D k (b_a 5) (b_a 6) 5 6 30 b_c2 b_z2 p1 u1 e2) dX1_addJoin_5 ⟨Nat.le_of_ble_eq_true rfl, Nat.le_of_ble_eq_true rfl⟩ ⟨Nat.zero_le _, Nat.zero_le _⟩ rfl rfl (Nat.le_of_ble_eq_true rfl) rfl rfl [5, 6] rfl (by decide) ?_
  clear e2
  refine cx_if_eq (tgt := 53) C dX1_addJoin_8 (by decide) (fun c3 => ?_) (fun c3 => ?_)
  · have hf := cx_if_t hf c3
    clear c3
    refine cx_bipush (v := (-2)) C dX1_addJoin_53 (by decide) ?_
    obtain rfl := Option.some.inj hf
    exact cx_iret C hA hQ hr hlk dX1_addJoin_55 rfl rfl
  · have hf := cx_if_f hf c3
    clear c3
    refine cx_aload_n C dX1_addJoin_11 0 rfl ?_
    refine cx_get (v := .ref (b_a 5)) (ci := 1) C iX1 dX1_addJoin_12 0 rfl rfl 2 (by decide) hw_67 rfl ?_
    refine cx_iload_n C dX1_addJoin_15 2 rfl ?_
    obtain ⟨u4, e5, hf⟩ := cx_bd_at hf
    refine cx_Kvi (q := (RX4, TX4, 4)) (As := [.int p2]) (rest := []) hA C me_X4_has hw_372 (c_X4_has l D k (b_a 5) (b_a 6) 5 6 30 b_c2 b_z2 p2 u4 e5) dX1_addJoin_16 ⟨Nat.le_of_ble_eq_true rfl, Nat.le_of_ble_eq_true rfl⟩ ⟨Nat.zero_le _, Nat.zero_le _⟩ rfl rfl (Nat.le_of_ble_eq_true rfl) rfl rfl [5, 6] rfl (by decide) ?_
    clear e5
    refine cx_if_eq (tgt := 53) C dX1_addJoin_19 (by decide) (fun c6 => ?_) (fun c6 => ?_)
    · have hf := cx_if_t hf c6
      clear c6
      refine cx_bipush (v := (-2)) C dX1_addJoin_53 (by decide) ?_
      obtain rfl := Option.some.inj hf
      exact cx_iret C hA hQ hr hlk dX1_addJoin_55 rfl rfl
    · have hf := cx_if_f hf c6
      clear c6
      refine cx_aload_n C dX1_addJoin_22 0 rfl ?_
      refine cx_get (v := .ref (b_a 5)) (ci := 1) C iX1 dX1_addJoin_23 0 rfl rfl 2 (by decide) hw_67 rfl ?_
      refine cx_iload_n C dX1_addJoin_26 1 rfl ?_
      refine cx_iconst (v := 0) C dX1_addJoin_27 (by decide) ?_
      obtain ⟨u7, e8, hf⟩ := cx_bd_at hf
      refine cx_Kvi (q := (RX4, TX4, 4)) (As := [.int p1, .int 0]) (rest := []) hA C me_X4_at hw_377 (c_X4_at l D k (b_a 5) (b_a 6) 5 6 30 b_c2 b_z2 p1 0 u7 e8) dX1_addJoin_28 ⟨Nat.le_of_ble_eq_true rfl, Nat.le_of_ble_eq_true rfl⟩ ⟨Nat.zero_le _, Nat.zero_le _⟩ rfl rfl (Nat.le_of_ble_eq_true rfl) rfl rfl [5, 6] rfl (by decide) ?_
      clear e8
      refine cx_aload_n C dX1_addJoin_31 0 rfl ?_
      refine cx_get (v := .ref (b_a 5)) (ci := 1) C iX1 dX1_addJoin_32 0 rfl rfl 2 (by decide) hw_67 rfl ?_
      refine cx_iload_n C dX1_addJoin_35 2 rfl ?_
      refine cx_iconst (v := 0) C dX1_addJoin_36 (by decide) ?_
      obtain ⟨u9, e10, hf⟩ := cx_bd_at hf
      refine cx_Kvi (q := (RX4, TX4, 4)) (As := [.int p2, .int 0]) (rest := [.int u7]) hA C me_X4_at hw_377 (c_X4_at l D k (b_a 5) (b_a 6) 5 6 30 b_c2 b_z2 p2 0 u9 e10) dX1_addJoin_37 ⟨Nat.le_of_ble_eq_true rfl, Nat.le_of_ble_eq_true rfl⟩ ⟨Nat.zero_le _, Nat.zero_le _⟩ rfl rfl (Nat.le_of_ble_eq_true rfl) rfl rfl [5, 6] rfl (by decide) ?_
      clear e10
      refine cx_icmp_eq (tgt := 53) C dX1_addJoin_40 (by decide) (fun c11 => ?_) (fun c11 => ?_)
      · have hf := cx_if_t hf c11
        clear c11
        refine cx_bipush (v := (-2)) C dX1_addJoin_53 (by decide) ?_
        obtain rfl := Option.some.inj hf
        exact cx_iret C hA hQ hr hlk dX1_addJoin_55 rfl rfl
      · have hf := cx_if_f hf c11
        clear c11
        refine cx_iload_n C dX1_addJoin_43 3 rfl ?_
        refine cx_iconst (v := 0) C dX1_addJoin_44 (by decide) ?_
        refine cx_bipush (v := 10) C dX1_addJoin_45 (by decide) ?_
        obtain ⟨u12, e13, hf⟩ := cx_bd_at hf
        refine cx_Kni (As := [.int p3, .int 0, .int 10]) (rest := []) hA C me_X8_within (fun h => h.2.2.1) (c_X8_within l D k p3 0 10 u12 e13) dX1_addJoin_47 ⟨Nat.le_of_ble_eq_true rfl, Nat.le_of_ble_eq_true rfl⟩ ⟨Nat.zero_le _, Nat.zero_le _⟩ rfl rfl (Nat.le_of_ble_eq_true rfl) [] rfl (by decide) ?_
        clear e13
        refine cx_if_ne (tgt := 56) C dX1_addJoin_50 (by decide) (fun c14 => ?_) (fun c14 => ?_)
        · have hf := cx_if_f hf c14
          clear c14
          refine cx_aload_n C dX1_addJoin_56 0 rfl ?_
          refine cx_get (v := .ref (b_a 9)) (ci := 1) C iX1 dX1_addJoin_57 0 rfl rfl 4 (by decide) hw_74 rfl ?_
          obtain ⟨u15, e16, hf⟩ := cx_bd_at hf
          refine cx_Kvi (q := (RX4, TX4, 4)) (As := []) (rest := []) hA C me_X4_isFull hw_338 (c_X4_isFull l D k (b_a 9) (b_a 10) 3 4 12 b_c4 b_z4 u15 e16) dX1_addJoin_60 ⟨Nat.le_of_ble_eq_true rfl, Nat.le_of_ble_eq_true rfl⟩ ⟨Nat.zero_le _, Nat.zero_le _⟩ rfl rfl (Nat.le_of_ble_eq_true rfl) rfl rfl [9, 10] rfl (by decide) ?_
          clear e16
          refine cx_if_eq (tgt := 69) C dX1_addJoin_63 (by decide) (fun c17 => ?_) (fun c17 => ?_)
          · have hf := cx_if_t hf c17
            clear c17
            refine cx_aload_n C dX1_addJoin_69 0 rfl ?_
            refine cx_get (v := .ref (b_a 9)) (ci := 1) C iX1 dX1_addJoin_70 0 rfl rfl 4 (by decide) hw_74 rfl ?_
            obtain ⟨u18, e19, hf⟩ := cx_bd_at hf
            refine cx_cvi (q := (RX4, TX4, 4)) (As := []) (rest := []) (ws' := (wd_Box k b_a b_c0 b_z0 b_c1 b_z1 b_c2 b_z2 b_c3 b_z3 b_c4 u18.2 b_sg)) hA C me_X4_grow hw_342 (c_X4_grow l D k (b_a 9) (b_a 10) 3 4 12 b_c4 b_z4 u18 e19) dX1_addJoin_73 ⟨Nat.le_of_ble_eq_true rfl, Nat.le_of_ble_eq_true rfl⟩ ⟨Nat.zero_le _, Nat.zero_le _⟩ rfl rfl (Nat.le_of_ble_eq_true rfl) rfl rfl [9, 10] rfl (by decide) rfl rfl ?_
            clear e19
            refine cx_istore (lv' := [(4, .int u18.1), (0, .ref (b_a 0)), (1, .int p1), (2, .int p2), (3, .int p3)]) C dX1_addJoin_76 (by decide) rfl ?_
            refine cx_aload_n C dX1_addJoin_78 1 rfl ?_
            refine cx_get (v := .ref (b_a 9)) (ci := 1) C iX1 dX1_addJoin_79 0 rfl rfl 4 (by decide) hw_74 rfl ?_
            refine cx_iload C dX1_addJoin_82 0 rfl ?_
            refine cx_iconst (v := 0) C dX1_addJoin_84 (by decide) ?_
            refine cx_iload_n C dX1_addJoin_85 2 rfl ?_
            obtain ⟨u20, e21, hf⟩ := cx_bd_at hf
            refine cx_cvv (q := (RX4, TX4, 4)) (As := [.int u18.1, .int 0, .int p1]) (rest := []) (ws' := (wd_Box k b_a b_c0 b_z0 b_c1 b_z1 b_c2 b_z2 b_c3 b_z3 u20 u18.2 b_sg)) hA C me_X4_put hw_347 (c_X4_put l D k (b_a 9) (b_a 10) 3 4 12 b_c4 u18.2 u18.1 0 p1 u20 e21) dX1_addJoin_86 ⟨Nat.le_of_ble_eq_true rfl, Nat.le_of_ble_eq_true rfl⟩ ⟨Nat.zero_le _, Nat.zero_le _⟩ rfl rfl (Nat.le_of_ble_eq_true rfl) rfl rfl [9, 10] rfl (by decide) rfl rfl ?_
            clear e21
            refine cx_aload_n C dX1_addJoin_89 1 rfl ?_
            refine cx_get (v := .ref (b_a 9)) (ci := 1) C iX1 dX1_addJoin_90 0 rfl rfl 4 (by decide) hw_74 rfl ?_
            refine cx_iload C dX1_addJoin_93 0 rfl ?_
            refine cx_iconst (v := 1) C dX1_addJoin_95 (by decide) ?_
            refine cx_iload_n C dX1_addJoin_96 3 rfl ?_
            obtain ⟨u22, e23, hf⟩ := cx_bd_at hf
            refine cx_cvv (q := (RX4, TX4, 4)) (As := [.int u18.1, .int 1, .int p2]) (rest := []) (ws' := (wd_Box k b_a b_c0 b_z0 b_c1 b_z1 b_c2 b_z2 b_c3 b_z3 u22 u18.2 b_sg)) hA C me_X4_put hw_347 (c_X4_put l D k (b_a 9) (b_a 10) 3 4 12 u20 u18.2 u18.1 1 p2 u22 e23) dX1_addJoin_97 ⟨Nat.le_of_ble_eq_true rfl, Nat.le_of_ble_eq_true rfl⟩ ⟨Nat.zero_le _, Nat.zero_le _⟩ rfl rfl (Nat.le_of_ble_eq_true rfl) rfl rfl [9, 10] rfl (by decide) rfl rfl ?_
            clear e23
            refine cx_aload_n C dX1_addJoin_100 1 rfl ?_
            refine cx_get (v := .ref (b_a 9)) (ci := 1) C iX1 dX1_addJoin_101 0 rfl rfl 4 (by decide) hw_74 rfl ?_
            refine cx_iload C dX1_addJoin_104 0 rfl ?_
            refine cx_iconst (v := 2) C dX1_addJoin_106 (by decide) ?_
            refine cx_iload_n C dX1_addJoin_107 4 rfl ?_
            obtain ⟨u24, e25, hf⟩ := cx_bd_at hf
            refine cx_cvv (q := (RX4, TX4, 4)) (As := [.int u18.1, .int 2, .int p3]) (rest := []) (ws' := (wd_Box k b_a b_c0 b_z0 b_c1 b_z1 b_c2 b_z2 b_c3 b_z3 u24 u18.2 b_sg)) hA C me_X4_put hw_347 (c_X4_put l D k (b_a 9) (b_a 10) 3 4 12 u22 u18.2 u18.1 2 p3 u24 e25) dX1_addJoin_108 ⟨Nat.le_of_ble_eq_true rfl, Nat.le_of_ble_eq_true rfl⟩ ⟨Nat.zero_le _, Nat.zero_le _⟩ rfl rfl (Nat.le_of_ble_eq_true rfl) rfl rfl [9, 10] rfl (by decide) rfl rfl ?_
            clear e25
            refine cx_iload C dX1_addJoin_111 0 rfl ?_
            obtain rfl := Option.some.inj hf
            exact cx_iret C hA hQ hr hlk dX1_addJoin_113 rfl rfl
          · have hf := cx_if_f hf c17
            clear c17
            refine cx_bipush (v := (-4)) C dX1_addJoin_66 (by decide) ?_
            obtain rfl := Option.some.inj hf
            exact cx_iret C hA hQ hr hlk dX1_addJoin_68 rfl rfl
        · have hf := cx_if_t hf c14
          clear c14
          refine cx_bipush (v := (-2)) C dX1_addJoin_53 (by decide) ?_
          obtain rfl := Option.some.inj hf
          exact cx_iret C hA hQ hr hlk dX1_addJoin_55 rfl rfl
theorem dX1_setStrange_0 : decode cX1_setStrange 0 = .ok (.iload_n 1, 1) := by decide +kernel
theorem dX1_setStrange_1 : decode cX1_setStrange 1 = .ok (.iconst 0, 1) := by decide +kernel
theorem dX1_setStrange_2 : decode cX1_setStrange 2 = .ok (.bipush 9, 2) := by decide +kernel
theorem dX1_setStrange_4 : decode cX1_setStrange 4 = .ok (.invokestatic 43, 3) := by decide +kernel
theorem dX1_setStrange_7 : decode cX1_setStrange 7 = .ok (.ifCond .ne 6, 3) := by decide +kernel
theorem dX1_setStrange_10 : decode cX1_setStrange 10 = .ok (.bipush (-2), 2) := by decide +kernel
theorem dX1_setStrange_12 : decode cX1_setStrange 12 = .ok (.ireturn, 1) := by decide +kernel
theorem dX1_setStrange_13 : decode cX1_setStrange 13 = .ok (.aload_n 0, 1) := by decide +kernel
theorem dX1_setStrange_14 : decode cX1_setStrange 14 = .ok (.getfield 32, 3) := by decide +kernel
theorem dX1_setStrange_17 : decode cX1_setStrange 17 = .ok (.istore_n 2, 1) := by decide +kernel
theorem dX1_setStrange_18 : decode cX1_setStrange 18 = .ok (.aload_n 0, 1) := by decide +kernel
theorem dX1_setStrange_19 : decode cX1_setStrange 19 = .ok (.iload_n 1, 1) := by decide +kernel
theorem dX1_setStrange_20 : decode cX1_setStrange 20 = .ok (.putfield 32, 3) := by decide +kernel
theorem dX1_setStrange_23 : decode cX1_setStrange 23 = .ok (.iload_n 2, 1) := by decide +kernel
theorem dX1_setStrange_24 : decode cX1_setStrange 24 = .ok (.ireturn, 1) := by decide +kernel
theorem me_X1_setStrange : cx_Mv yX1_setStrange cX1_setStrange 3 (some .int) 1 := ⟨⟨⟨by decide +kernel, by decide +kernel, by decide +kernel⟩, hw_2, hw_428⟩, hw_426, hw_427⟩
noncomputable def f_X1_setStrange (b_sg : Int32) (p1 : Int32) : Option (Int32 × Int32) := Option.bind (f_X8_within p1 0 9) (fun u1 => if u1 = 0 then (some (((-2), b_sg))) else (some ((b_sg, p1))))
set_option maxHeartbeats 4000000 in
set_option maxRecDepth 100000 in
theorem c_X1_setStrange (l : Launch) (D : va_G) (k : Nat → ClassId) (b_a : Nat → Nat) (b_c0 : Nat → Int32) (b_z0 : Int32) (b_c1 : Nat → Int32) (b_z1 : Int32) (b_c2 : Nat → Int32) (b_z2 : Int32) (b_c3 : Nat → Int32) (b_z3 : Int32) (b_c4 : Nat → Int32) (b_z4 : Int32) (b_sg : Int32) (p1 : Int32) (y : Int32 × Int32) (hf : f_X1_setStrange b_sg p1 = some y) : cx_M l yX1_setStrange cX1_setStrange 3 (some .int) 2 D k [.ref (b_a 0), .int p1] (wd_Box k b_a b_c0 b_z0 b_c1 b_z1 b_c2 b_z2 b_c3 b_z3 b_c4 b_z4 b_sg) (fun sz => cx_Qi D y.1 (wd_Box k b_a b_c0 b_z0 b_c1 b_z1 b_c2 b_z2 b_c3 b_z3 b_c4 b_z4 b_sg) (wd_Box k b_a b_c0 b_z0 b_c1 b_z1 b_c2 b_z2 b_c3 b_z3 b_c4 b_z4 y.2) sz) := by
  refine cx_met (own := "NamelessBox$Box") (by decide) rfl (Nat.le_of_ble_eq_true rfl) ?_
  intro p e s m args below meth c A Q C hA hQ hr hlk
  refine cx_lv (lv' := [(0, .ref (b_a 0)), (1, .int p1)]) [0, 1] rfl ?_
  unfold f_X1_setStrange at hf
  refine cx_iload_n C dX1_setStrange_0 1 rfl ?_
  refine cx_iconst (v := 0) C dX1_setStrange_1 (by decide) ?_
  refine cx_bipush (v := 9) C dX1_setStrange_2 (by decide) ?_
  obtain ⟨u1, e2, hf⟩ := cx_bd_at hf
  refine cx_Kni (As := [.int p1, .int 0, .int 9]) (rest := []) hA C me_X8_within (fun h => h.2.2.1) (c_X8_within l D k p1 0 9 u1 e2) dX1_setStrange_4 ⟨Nat.le_of_ble_eq_true rfl, Nat.le_of_ble_eq_true rfl⟩ ⟨Nat.zero_le _, Nat.zero_le _⟩ rfl rfl (Nat.le_of_ble_eq_true rfl) [] rfl (by decide) ?_
  clear e2
  refine cx_if_ne (tgt := 13) C dX1_setStrange_7 (by decide) (fun c3 => ?_) (fun c3 => ?_)
  · have hf := cx_if_f hf c3
    clear c3
    refine cx_aload_n C dX1_setStrange_13 0 rfl ?_
    refine cx_get (v := .int b_sg) (ci := 1) C iX1 dX1_setStrange_14 0 rfl rfl 5 (by decide) hw_77 rfl ?_
    refine cx_istore_n (lv' := [(2, .int b_sg), (0, .ref (b_a 0)), (1, .int p1)]) C dX1_setStrange_17 rfl (by decide) rfl ?_
    refine cx_aload_n C dX1_setStrange_18 1 rfl ?_
    refine cx_iload_n C dX1_setStrange_19 2 rfl ?_
    refine cx_putf (v := .int p1) (ty := .int) (ci := 1) (ws' := (wd_Box k b_a b_c0 b_z0 b_c1 b_z1 b_c2 b_z2 b_c3 b_z3 b_c4 b_z4 p1)) C iX1 tyX1 tyX1_ok nmX1 dX1_setStrange_20 0 rfl rfl 5 (by decide) hw_77 rfl (by decide +kernel) rfl rfl (Nat.le_of_ble_eq_true rfl) rfl ?_
    refine cx_iload_n C dX1_setStrange_23 0 rfl ?_
    obtain rfl := Option.some.inj hf
    exact cx_iret C hA hQ hr hlk dX1_setStrange_24 rfl rfl
  · have hf := cx_if_t hf c3
    clear c3
    refine cx_bipush (v := (-2)) C dX1_setStrange_10 (by decide) ?_
    obtain rfl := Option.some.inj hf
    exact cx_iret C hA hQ hr hlk dX1_setStrange_12 rfl rfl
theorem dX1_markOf_0 : decode cX1_markOf 0 = .ok (.iload_n 1, 1) := by decide +kernel
theorem dX1_markOf_1 : decode cX1_markOf 1 = .ok (.istore_n 3, 1) := by decide +kernel
theorem dX1_markOf_2 : decode cX1_markOf 2 = .ok (.iconst 0, 1) := by decide +kernel
theorem dX1_markOf_3 : decode cX1_markOf 3 = .ok (.istore 4, 2) := by decide +kernel
theorem dX1_markOf_5 : decode cX1_markOf 5 = .ok (.iload 4, 2) := by decide +kernel
theorem dX1_markOf_7 : decode cX1_markOf 7 = .ok (.iconst 5, 1) := by decide +kernel
theorem dX1_markOf_8 : decode cX1_markOf 8 = .ok (.if_icmp .ge 61, 3) := by decide +kernel
theorem dX1_markOf_11 : decode cX1_markOf 11 = .ok (.aload_n 0, 1) := by decide +kernel
theorem dX1_markOf_12 : decode cX1_markOf 12 = .ok (.getfield 14, 3) := by decide +kernel
theorem dX1_markOf_15 : decode cX1_markOf 15 = .ok (.iload_n 3, 1) := by decide +kernel
theorem dX1_markOf_16 : decode cX1_markOf 16 = .ok (.invokevirtual 59, 3) := by decide +kernel
theorem dX1_markOf_19 : decode cX1_markOf 19 = .ok (.ifCond .eq 50, 3) := by decide +kernel
theorem dX1_markOf_22 : decode cX1_markOf 22 = .ok (.aload_n 0, 1) := by decide +kernel
theorem dX1_markOf_23 : decode cX1_markOf 23 = .ok (.getfield 14, 3) := by decide +kernel
theorem dX1_markOf_26 : decode cX1_markOf 26 = .ok (.iload_n 3, 1) := by decide +kernel
theorem dX1_markOf_27 : decode cX1_markOf 27 = .ok (.iconst 3, 1) := by decide +kernel
theorem dX1_markOf_28 : decode cX1_markOf 28 = .ok (.invokevirtual 67, 3) := by decide +kernel
theorem dX1_markOf_31 : decode cX1_markOf 31 = .ok (.iload_n 2, 1) := by decide +kernel
theorem dX1_markOf_32 : decode cX1_markOf 32 = .ok (.ishr, 1) := by decide +kernel
theorem dX1_markOf_33 : decode cX1_markOf 33 = .ok (.iconst 1, 1) := by decide +kernel
theorem dX1_markOf_34 : decode cX1_markOf 34 = .ok (.iand, 1) := by decide +kernel
theorem dX1_markOf_35 : decode cX1_markOf 35 = .ok (.iconst 1, 1) := by decide +kernel
theorem dX1_markOf_36 : decode cX1_markOf 36 = .ok (.if_icmp .ne 17, 3) := by decide +kernel
theorem dX1_markOf_39 : decode cX1_markOf 39 = .ok (.aload_n 0, 1) := by decide +kernel
theorem dX1_markOf_40 : decode cX1_markOf 40 = .ok (.getfield 14, 3) := by decide +kernel
theorem dX1_markOf_43 : decode cX1_markOf 43 = .ok (.iload_n 3, 1) := by decide +kernel
theorem dX1_markOf_44 : decode cX1_markOf 44 = .ok (.iconst 2, 1) := by decide +kernel
theorem dX1_markOf_45 : decode cX1_markOf 45 = .ok (.invokevirtual 67, 3) := by decide +kernel
theorem dX1_markOf_48 : decode cX1_markOf 48 = .ok (.iload_n 2, 1) := by decide +kernel
theorem dX1_markOf_49 : decode cX1_markOf 49 = .ok (.ishr, 1) := by decide +kernel
theorem dX1_markOf_50 : decode cX1_markOf 50 = .ok (.iconst 1, 1) := by decide +kernel
theorem dX1_markOf_51 : decode cX1_markOf 51 = .ok (.iand, 1) := by decide +kernel
theorem dX1_markOf_52 : decode cX1_markOf 52 = .ok (.ireturn, 1) := by decide +kernel
theorem dX1_markOf_53 : decode cX1_markOf 53 = .ok (.aload_n 0, 1) := by decide +kernel
theorem dX1_markOf_54 : decode cX1_markOf 54 = .ok (.getfield 14, 3) := by decide +kernel
theorem dX1_markOf_57 : decode cX1_markOf 57 = .ok (.iload_n 3, 1) := by decide +kernel
theorem dX1_markOf_58 : decode cX1_markOf 58 = .ok (.iconst 4, 1) := by decide +kernel
theorem dX1_markOf_59 : decode cX1_markOf 59 = .ok (.invokevirtual 67, 3) := by decide +kernel
theorem dX1_markOf_62 : decode cX1_markOf 62 = .ok (.istore_n 3, 1) := by decide +kernel
theorem dX1_markOf_63 : decode cX1_markOf 63 = .ok (.iinc 4 1, 3) := by decide +kernel
theorem dX1_markOf_66 : decode cX1_markOf 66 = .ok (.goto (-61), 3) := by decide +kernel
theorem dX1_markOf_69 : decode cX1_markOf 69 = .ok (.iconst (-1), 1) := by decide +kernel
theorem dX1_markOf_70 : decode cX1_markOf 70 = .ok (.ireturn, 1) := by decide +kernel
theorem me_X1_markOf : cx_Mv yX1_markOf cX1_markOf 5 (some .int) 2 := ⟨⟨⟨by decide +kernel, by decide +kernel, by decide +kernel⟩, hw_2, hw_438⟩, hw_436, hw_437⟩
noncomputable def f_X1_markOf_L5 (b_c0 : Nat → Int32) (b_z0 : Int32) (p2 : Int32) (rc5 : Int32 → Int32 → Option Int32) (x3_1 : Int32) (x4_2 : Int32) : Option Int32 := if 5 ≤ x4_2 then (some ((-1))) else (Option.bind (f_X4_has b_z0 x3_1) (fun u4 => if u4 = 0 then (some ((-1))) else (Option.bind (f_X4_at 6 30 b_c0 b_z0 x3_1 3) (fun u7 => if ((u7 >>> (p2 &&& 31)) &&& 1) = 1 then (Option.bind (f_X4_at 6 30 b_c0 b_z0 x3_1 2) (fun u12 => some ((u12 >>> (p2 &&& 31)) &&& 1))) else (Option.bind (f_X4_at 6 30 b_c0 b_z0 x3_1 4) (fun u10 => rc5 u10 (x4_2 + 1)))))))
noncomputable def f_X1_markOf_L5w (b_c0 : Nat → Int32) (b_z0 : Int32) (p2 : Int32) (n : Nat) : Int32 → Int32 → Option Int32 := Nat.rec (fun _ _ => none) (fun _ r => f_X1_markOf_L5 b_c0 b_z0 p2 r) n
noncomputable def f_X1_markOf (b_c0 : Nat → Int32) (b_z0 : Int32) (p1 : Int32) (p2 : Int32) : Option Int32 := f_X1_markOf_L5w b_c0 b_z0 p2 cx_N0 p1 0
set_option maxHeartbeats 4000000 in
set_option maxRecDepth 100000 in
theorem c_X1_markOf (l : Launch) (D : va_G) (k : Nat → ClassId) (b_a : Nat → Nat) (b_c0 : Nat → Int32) (b_z0 : Int32) (b_c1 : Nat → Int32) (b_z1 : Int32) (b_c2 : Nat → Int32) (b_z2 : Int32) (b_c3 : Nat → Int32) (b_z3 : Int32) (b_c4 : Nat → Int32) (b_z4 : Int32) (b_sg : Int32) (p1 : Int32) (p2 : Int32) (y : Int32) (hf : f_X1_markOf b_c0 b_z0 p1 p2 = some y) : cx_M l yX1_markOf cX1_markOf 5 (some .int) 2 D k [.ref (b_a 0), .int p1, .int p2] (wd_Box k b_a b_c0 b_z0 b_c1 b_z1 b_c2 b_z2 b_c3 b_z3 b_c4 b_z4 b_sg) (fun sz => cx_Qi D y (wd_Box k b_a b_c0 b_z0 b_c1 b_z1 b_c2 b_z2 b_c3 b_z3 b_c4 b_z4 b_sg) (wd_Box k b_a b_c0 b_z0 b_c1 b_z1 b_c2 b_z2 b_c3 b_z3 b_c4 b_z4 b_sg) sz) := by
  refine cx_met (own := "NamelessBox$Box") (by decide) rfl (Nat.le_of_ble_eq_true rfl) ?_
  intro p e s m args below meth c A Q C hA hQ hr hlk
  refine cx_lv (lv' := [(0, .ref (b_a 0)), (1, .int p1), (2, .int p2)]) [0, 1, 2] rfl ?_
  have L5 : ∀ (n5 : Nat) (x3_1 : Int32) (x4_2 : Int32), f_X1_markOf_L5w b_c0 b_z0 p2 n5 x3_1 x4_2 = some y → cx_S p l e (cx_rm 2) s m args below meth c A D 5 0 0 Q 5 [(0, .ref (b_a 0)), (2, .int p2), (3, .int x3_1), (4, .int x4_2)] [] (wd_Box k b_a b_c0 b_z0 b_c1 b_z1 b_c2 b_z2 b_c3 b_z3 b_c4 b_z4 b_sg) := by
    intro  n5
    induction n5 with
    | zero =>
      intro x3_1 x4_2 hf
      exact absurd (show (none : Option Int32) = some y from hf) (fun h => by cases h)
    | succ n5 ih5 =>
      intro x3_1 x4_2 hf
      have hf : f_X1_markOf_L5 b_c0 b_z0 p2 (f_X1_markOf_L5w b_c0 b_z0 p2 n5) x3_1 x4_2 = some y := hf
      unfold f_X1_markOf_L5 at hf
      refine cx_iload C dX1_markOf_5 3 rfl ?_
      refine cx_iconst (v := 5) C dX1_markOf_7 (by decide) ?_
      refine cx_icmp_ge (tgt := 69) C dX1_markOf_8 (by decide) (fun c3 => ?_) (fun c3 => ?_)
      · have hf := cx_if_t hf c3
        clear c3
        refine cx_iconst (v := (-1)) C dX1_markOf_69 (by decide) ?_
        obtain rfl := Option.some.inj hf
        exact cx_iret C hA hQ hr hlk dX1_markOf_70 rfl rfl
      · have hf := cx_if_f hf c3
        clear c3
        refine cx_aload_n C dX1_markOf_11 0 rfl ?_
        refine cx_get (v := .ref (b_a 1)) (ci := 1) C iX1 dX1_markOf_12 0 rfl rfl 0 (by decide) hw_60 rfl ?_
        refine cx_iload_n C dX1_markOf_15 2 rfl ?_
        obtain ⟨u4, e5, hf⟩ := cx_bd_at hf
        refine cx_Kvi (q := (RX4, TX4, 4)) (As := [.int x3_1]) (rest := []) hA C me_X4_has hw_372 (c_X4_has l D k (b_a 1) (b_a 2) 6 5 30 b_c0 b_z0 x3_1 u4 e5) dX1_markOf_16 ⟨Nat.le_of_ble_eq_true rfl, Nat.le_of_ble_eq_true rfl⟩ ⟨Nat.zero_le _, Nat.zero_le _⟩ rfl rfl (Nat.le_of_ble_eq_true rfl) rfl rfl [1, 2] rfl (by decide) ?_
        clear e5
        refine cx_if_eq (tgt := 69) C dX1_markOf_19 (by decide) (fun c6 => ?_) (fun c6 => ?_)
        · have hf := cx_if_t hf c6
          clear c6
          refine cx_iconst (v := (-1)) C dX1_markOf_69 (by decide) ?_
          obtain rfl := Option.some.inj hf
          exact cx_iret C hA hQ hr hlk dX1_markOf_70 rfl rfl
        · have hf := cx_if_f hf c6
          clear c6
          refine cx_aload_n C dX1_markOf_22 0 rfl ?_
          refine cx_get (v := .ref (b_a 1)) (ci := 1) C iX1 dX1_markOf_23 0 rfl rfl 0 (by decide) hw_60 rfl ?_
          refine cx_iload_n C dX1_markOf_26 2 rfl ?_
          refine cx_iconst (v := 3) C dX1_markOf_27 (by decide) ?_
          obtain ⟨u7, e8, hf⟩ := cx_bd_at hf
          refine cx_Kvi (q := (RX4, TX4, 4)) (As := [.int x3_1, .int 3]) (rest := []) hA C me_X4_at hw_377 (c_X4_at l D k (b_a 1) (b_a 2) 6 5 30 b_c0 b_z0 x3_1 3 u7 e8) dX1_markOf_28 ⟨Nat.le_of_ble_eq_true rfl, Nat.le_of_ble_eq_true rfl⟩ ⟨Nat.zero_le _, Nat.zero_le _⟩ rfl rfl (Nat.le_of_ble_eq_true rfl) rfl rfl [1, 2] rfl (by decide) ?_
          clear e8
          refine cx_iload_n C dX1_markOf_31 1 rfl ?_
          refine cx_ishr C dX1_markOf_32 ?_
          refine cx_iconst (v := 1) C dX1_markOf_33 (by decide) ?_
          refine cx_iand C dX1_markOf_34 ?_
          refine cx_iconst (v := 1) C dX1_markOf_35 (by decide) ?_
          refine cx_icmp_ne (tgt := 53) C dX1_markOf_36 (by decide) (fun c9 => ?_) (fun c9 => ?_)
          · have hf := cx_if_f hf c9
            clear c9
            refine cx_aload_n C dX1_markOf_53 0 rfl ?_
            refine cx_get (v := .ref (b_a 1)) (ci := 1) C iX1 dX1_markOf_54 0 rfl rfl 0 (by decide) hw_60 rfl ?_
            refine cx_iload_n C dX1_markOf_57 2 rfl ?_
            refine cx_iconst (v := 4) C dX1_markOf_58 (by decide) ?_
            obtain ⟨u10, e11, hf⟩ := cx_bd_at hf
            refine cx_Kvi (q := (RX4, TX4, 4)) (As := [.int x3_1, .int 4]) (rest := []) hA C me_X4_at hw_377 (c_X4_at l D k (b_a 1) (b_a 2) 6 5 30 b_c0 b_z0 x3_1 4 u10 e11) dX1_markOf_59 ⟨Nat.le_of_ble_eq_true rfl, Nat.le_of_ble_eq_true rfl⟩ ⟨Nat.zero_le _, Nat.zero_le _⟩ rfl rfl (Nat.le_of_ble_eq_true rfl) rfl rfl [1, 2] rfl (by decide) ?_
            clear e11
            refine cx_istore_n (lv' := [(3, .int u10), (0, .ref (b_a 0)), (2, .int p2), (4, .int x4_2)]) C dX1_markOf_62 rfl (by decide) rfl ?_
            refine cx_iinc (v := x4_2 + 1) (lv' := [(4, .int (x4_2 + 1)), (3, .int u10), (0, .ref (b_a 0)), (2, .int p2)]) C dX1_markOf_63 3 rfl rfl (by decide) rfl ?_
            refine cx_goto (tgt := 5) C dX1_markOf_66 (by decide) ?_
            refine cx_lv [2, 3, 1, 0] rfl ?_
            exact ih5 u10 (x4_2 + 1) hf
          · have hf := cx_if_t hf c9
            clear c9
            refine cx_aload_n C dX1_markOf_39 0 rfl ?_
            refine cx_get (v := .ref (b_a 1)) (ci := 1) C iX1 dX1_markOf_40 0 rfl rfl 0 (by decide) hw_60 rfl ?_
            refine cx_iload_n C dX1_markOf_43 2 rfl ?_
            refine cx_iconst (v := 2) C dX1_markOf_44 (by decide) ?_
            obtain ⟨u12, e13, hf⟩ := cx_bd_at hf
            refine cx_Kvi (q := (RX4, TX4, 4)) (As := [.int x3_1, .int 2]) (rest := []) hA C me_X4_at hw_377 (c_X4_at l D k (b_a 1) (b_a 2) 6 5 30 b_c0 b_z0 x3_1 2 u12 e13) dX1_markOf_45 ⟨Nat.le_of_ble_eq_true rfl, Nat.le_of_ble_eq_true rfl⟩ ⟨Nat.zero_le _, Nat.zero_le _⟩ rfl rfl (Nat.le_of_ble_eq_true rfl) rfl rfl [1, 2] rfl (by decide) ?_
            clear e13
            refine cx_iload_n C dX1_markOf_48 1 rfl ?_
            refine cx_ishr C dX1_markOf_49 ?_
            refine cx_iconst (v := 1) C dX1_markOf_50 (by decide) ?_
            refine cx_iand C dX1_markOf_51 ?_
            obtain rfl := Option.some.inj hf
            exact cx_iret C hA hQ hr hlk dX1_markOf_52 rfl rfl
  unfold f_X1_markOf at hf
  refine cx_iload_n C dX1_markOf_0 1 rfl ?_
  refine cx_istore_n (lv' := [(3, .int p1), (0, .ref (b_a 0)), (1, .int p1), (2, .int p2)]) C dX1_markOf_1 rfl (by decide) rfl ?_
  refine cx_iconst (v := 0) C dX1_markOf_2 (by decide) ?_
  refine cx_istore (lv' := [(4, .int 0), (3, .int p1), (0, .ref (b_a 0)), (1, .int p1), (2, .int p2)]) C dX1_markOf_3 (by decide) rfl ?_
  refine cx_lv [2, 4, 1, 0] rfl ?_
  exact L5 cx_N0 p1 0 hf
theorem dX1_marksLike_0 : decode cX1_marksLike 0 = .ok (.aload_n 0, 1) := by decide +kernel
theorem dX1_marksLike_1 : decode cX1_marksLike 1 = .ok (.getfield 23, 3) := by decide +kernel
theorem dX1_marksLike_4 : decode cX1_marksLike 4 = .ok (.iload_n 1, 1) := by decide +kernel
theorem dX1_marksLike_5 : decode cX1_marksLike 5 = .ok (.iconst 2, 1) := by decide +kernel
theorem dX1_marksLike_6 : decode cX1_marksLike 6 = .ok (.invokevirtual 67, 3) := by decide +kernel
theorem dX1_marksLike_9 : decode cX1_marksLike 9 = .ok (.istore_n 3, 1) := by decide +kernel
theorem dX1_marksLike_10 : decode cX1_marksLike 10 = .ok (.iload_n 2, 1) := by decide +kernel
theorem dX1_marksLike_11 : decode cX1_marksLike 11 = .ok (.iconst 5, 1) := by decide +kernel
theorem dX1_marksLike_12 : decode cX1_marksLike 12 = .ok (.if_icmp .ne 12, 3) := by decide +kernel
theorem dX1_marksLike_15 : decode cX1_marksLike 15 = .ok (.aload_n 0, 1) := by decide +kernel
theorem dX1_marksLike_16 : decode cX1_marksLike 16 = .ok (.getfield 32, 3) := by decide +kernel
theorem dX1_marksLike_19 : decode cX1_marksLike 19 = .ok (.iconst 2, 1) := by decide +kernel
theorem dX1_marksLike_20 : decode cX1_marksLike 20 = .ok (.imul, 1) := by decide +kernel
theorem dX1_marksLike_21 : decode cX1_marksLike 21 = .ok (.goto 4, 3) := by decide +kernel
theorem dX1_marksLike_24 : decode cX1_marksLike 24 = .ok (.iconst 1, 1) := by decide +kernel
theorem dX1_marksLike_25 : decode cX1_marksLike 25 = .ok (.istore 4, 2) := by decide +kernel
theorem dX1_marksLike_27 : decode cX1_marksLike 27 = .ok (.iconst 0, 1) := by decide +kernel
theorem dX1_marksLike_28 : decode cX1_marksLike 28 = .ok (.istore 5, 2) := by decide +kernel
theorem dX1_marksLike_30 : decode cX1_marksLike 30 = .ok (.iload 5, 2) := by decide +kernel
theorem dX1_marksLike_32 : decode cX1_marksLike 32 = .ok (.iconst 4, 1) := by decide +kernel
theorem dX1_marksLike_33 : decode cX1_marksLike 33 = .ok (.if_icmp .ge 76, 3) := by decide +kernel
theorem dX1_marksLike_36 : decode cX1_marksLike 36 = .ok (.iload_n 3, 1) := by decide +kernel
theorem dX1_marksLike_37 : decode cX1_marksLike 37 = .ok (.iload 5, 2) := by decide +kernel
theorem dX1_marksLike_39 : decode cX1_marksLike 39 = .ok (.ishr, 1) := by decide +kernel
theorem dX1_marksLike_40 : decode cX1_marksLike 40 = .ok (.iconst 1, 1) := by decide +kernel
theorem dX1_marksLike_41 : decode cX1_marksLike 41 = .ok (.iand, 1) := by decide +kernel
theorem dX1_marksLike_42 : decode cX1_marksLike 42 = .ok (.iconst 1, 1) := by decide +kernel
theorem dX1_marksLike_43 : decode cX1_marksLike 43 = .ok (.if_icmp .ne 60, 3) := by decide +kernel
theorem dX1_marksLike_46 : decode cX1_marksLike 46 = .ok (.iload_n 2, 1) := by decide +kernel
theorem dX1_marksLike_47 : decode cX1_marksLike 47 = .ok (.iconst 5, 1) := by decide +kernel
theorem dX1_marksLike_48 : decode cX1_marksLike 48 = .ok (.if_icmp .ne 7, 3) := by decide +kernel
theorem dX1_marksLike_51 : decode cX1_marksLike 51 = .ok (.iconst (-1), 1) := by decide +kernel
theorem dX1_marksLike_52 : decode cX1_marksLike 52 = .ok (.goto 10, 3) := by decide +kernel
theorem dX1_marksLike_55 : decode cX1_marksLike 55 = .ok (.aload_n 0, 1) := by decide +kernel
theorem dX1_marksLike_56 : decode cX1_marksLike 56 = .ok (.iload_n 2, 1) := by decide +kernel
theorem dX1_marksLike_57 : decode cX1_marksLike 57 = .ok (.iload 5, 2) := by decide +kernel
theorem dX1_marksLike_59 : decode cX1_marksLike 59 = .ok (.invokevirtual 71, 3) := by decide +kernel
theorem dX1_marksLike_62 : decode cX1_marksLike 62 = .ok (.istore 6, 2) := by decide +kernel
theorem dX1_marksLike_64 : decode cX1_marksLike 64 = .ok (.iload 4, 2) := by decide +kernel
theorem dX1_marksLike_66 : decode cX1_marksLike 66 = .ok (.iload 6, 2) := by decide +kernel
theorem dX1_marksLike_68 : decode cX1_marksLike 68 = .ok (.iconst (-1), 1) := by decide +kernel
theorem dX1_marksLike_69 : decode cX1_marksLike 69 = .ok (.if_icmp .ne 7, 3) := by decide +kernel
theorem dX1_marksLike_72 : decode cX1_marksLike 72 = .ok (.iconst 2, 1) := by decide +kernel
theorem dX1_marksLike_73 : decode cX1_marksLike 73 = .ok (.goto 27, 3) := by decide +kernel
theorem dX1_marksLike_76 : decode cX1_marksLike 76 = .ok (.iload 6, 2) := by decide +kernel
theorem dX1_marksLike_78 : decode cX1_marksLike 78 = .ok (.aload_n 0, 1) := by decide +kernel
theorem dX1_marksLike_79 : decode cX1_marksLike 79 = .ok (.getfield 23, 3) := by decide +kernel
theorem dX1_marksLike_82 : decode cX1_marksLike 82 = .ok (.iload_n 1, 1) := by decide +kernel
theorem dX1_marksLike_83 : decode cX1_marksLike 83 = .ok (.iconst 1, 1) := by decide +kernel
theorem dX1_marksLike_84 : decode cX1_marksLike 84 = .ok (.invokevirtual 67, 3) := by decide +kernel
theorem dX1_marksLike_87 : decode cX1_marksLike 87 = .ok (.iload 5, 2) := by decide +kernel
theorem dX1_marksLike_89 : decode cX1_marksLike 89 = .ok (.ishr, 1) := by decide +kernel
theorem dX1_marksLike_90 : decode cX1_marksLike 90 = .ok (.iconst 1, 1) := by decide +kernel
theorem dX1_marksLike_91 : decode cX1_marksLike 91 = .ok (.iand, 1) := by decide +kernel
theorem dX1_marksLike_92 : decode cX1_marksLike 92 = .ok (.if_icmp .ne 7, 3) := by decide +kernel
theorem dX1_marksLike_95 : decode cX1_marksLike 95 = .ok (.iconst 3, 1) := by decide +kernel
theorem dX1_marksLike_96 : decode cX1_marksLike 96 = .ok (.goto 4, 3) := by decide +kernel
theorem dX1_marksLike_99 : decode cX1_marksLike 99 = .ok (.iconst 1, 1) := by decide +kernel
theorem dX1_marksLike_100 : decode cX1_marksLike 100 = .ok (.imul, 1) := by decide +kernel
theorem dX1_marksLike_101 : decode cX1_marksLike 101 = .ok (.istore 4, 2) := by decide +kernel
theorem dX1_marksLike_103 : decode cX1_marksLike 103 = .ok (.iinc 5 1, 3) := by decide +kernel
theorem dX1_marksLike_106 : decode cX1_marksLike 106 = .ok (.goto (-76), 3) := by decide +kernel
theorem dX1_marksLike_109 : decode cX1_marksLike 109 = .ok (.iload 4, 2) := by decide +kernel
theorem dX1_marksLike_111 : decode cX1_marksLike 111 = .ok (.ireturn, 1) := by decide +kernel
theorem me_X1_marksLike : cx_Mv yX1_marksLike cX1_marksLike 7 (some .int) 2 := ⟨⟨⟨by decide +kernel, by decide +kernel, by decide +kernel⟩, hw_2, hw_453⟩, hw_451, hw_452⟩
noncomputable def f_X1_marksLike_J103 (x5_8 : Int32) (rc30 : Int32 → Int32 → Option Int32) (x4_11 : Int32) : Option Int32 := rc30 x4_11 (x5_8 + 1)
noncomputable def f_X1_marksLike_J100 (x4_7 : Int32) (x5_8 : Int32) (rc30 : Int32 → Int32 → Option Int32) (s1_20 : Int32) : Option Int32 := f_X1_marksLike_J103 x5_8 rc30 (x4_7 * s1_20)
noncomputable def f_X1_marksLike_J62 (b_c2 : Nat → Int32) (b_z2 : Int32) (p1 : Int32) (x4_7 : Int32) (x5_8 : Int32) (rc30 : Int32 → Int32 → Option Int32) (s0_15 : Int32) : Option Int32 := if s0_15 = ((-1)) then (f_X1_marksLike_J100 x4_7 x5_8 rc30 2) else (Option.bind (f_X4_at 5 30 b_c2 b_z2 p1 1) (fun u17 => if s0_15 = ((u17 >>> (x5_8 &&& 31)) &&& 1) then (f_X1_marksLike_J100 x4_7 x5_8 rc30 3) else (f_X1_marksLike_J100 x4_7 x5_8 rc30 1)))
noncomputable def f_X1_marksLike_L30 (b_c0 : Nat → Int32) (b_z0 : Int32) (b_c2 : Nat → Int32) (b_z2 : Int32) (p1 : Int32) (p2 : Int32) (x3_6 : Int32) (rc30 : Int32 → Int32 → Option Int32) (x4_7 : Int32) (x5_8 : Int32) : Option Int32 := if 4 ≤ x5_8 then (some x4_7) else (if ((x3_6 >>> (x5_8 &&& 31)) &&& 1) = 1 then (if p2 = 5 then (f_X1_marksLike_J62 b_c2 b_z2 p1 x4_7 x5_8 rc30 ((-1))) else (Option.bind (f_X1_markOf b_c0 b_z0 p2 x5_8) (fun u13 => f_X1_marksLike_J62 b_c2 b_z2 p1 x4_7 x5_8 rc30 u13))) else (f_X1_marksLike_J103 x5_8 rc30 x4_7))
noncomputable def f_X1_marksLike_L30w (b_c0 : Nat → Int32) (b_z0 : Int32) (b_c2 : Nat → Int32) (b_z2 : Int32) (p1 : Int32) (p2 : Int32) (x3_6 : Int32) (n : Nat) : Int32 → Int32 → Option Int32 := Nat.rec (fun _ _ => none) (fun _ r => f_X1_marksLike_L30 b_c0 b_z0 b_c2 b_z2 p1 p2 x3_6 r) n
noncomputable def f_X1_marksLike_J25 (b_c0 : Nat → Int32) (b_z0 : Int32) (b_c2 : Nat → Int32) (b_z2 : Int32) (p1 : Int32) (p2 : Int32) (x3_4 : Int32) (s0_5 : Int32) : Option Int32 := f_X1_marksLike_L30w b_c0 b_z0 b_c2 b_z2 p1 p2 x3_4 cx_N0 s0_5 0
noncomputable def f_X1_marksLike (b_c0 : Nat → Int32) (b_z0 : Int32) (b_c2 : Nat → Int32) (b_z2 : Int32) (b_sg : Int32) (p1 : Int32) (p2 : Int32) : Option Int32 := Option.bind (f_X4_at 5 30 b_c2 b_z2 p1 2) (fun u1 => if p2 = 5 then (f_X1_marksLike_J25 b_c0 b_z0 b_c2 b_z2 p1 p2 u1 (b_sg * 2)) else (f_X1_marksLike_J25 b_c0 b_z0 b_c2 b_z2 p1 p2 u1 1))
set_option maxHeartbeats 4000000 in
set_option maxRecDepth 100000 in
theorem c_X1_marksLike (l : Launch) (D : va_G) (k : Nat → ClassId) (b_a : Nat → Nat) (b_c0 : Nat → Int32) (b_z0 : Int32) (b_c1 : Nat → Int32) (b_z1 : Int32) (b_c2 : Nat → Int32) (b_z2 : Int32) (b_c3 : Nat → Int32) (b_z3 : Int32) (b_c4 : Nat → Int32) (b_z4 : Int32) (b_sg : Int32) (p1 : Int32) (p2 : Int32) (y : Int32) (hf : f_X1_marksLike b_c0 b_z0 b_c2 b_z2 b_sg p1 p2 = some y) : cx_M l yX1_marksLike cX1_marksLike 7 (some .int) 3 D k [.ref (b_a 0), .int p1, .int p2] (wd_Box k b_a b_c0 b_z0 b_c1 b_z1 b_c2 b_z2 b_c3 b_z3 b_c4 b_z4 b_sg) (fun sz => cx_Qi D y (wd_Box k b_a b_c0 b_z0 b_c1 b_z1 b_c2 b_z2 b_c3 b_z3 b_c4 b_z4 b_sg) (wd_Box k b_a b_c0 b_z0 b_c1 b_z1 b_c2 b_z2 b_c3 b_z3 b_c4 b_z4 b_sg) sz) := by
  refine cx_met (own := "NamelessBox$Box") (by decide) rfl (Nat.le_of_ble_eq_true rfl) ?_
  intro p e s m args below meth c A Q C hA hQ hr hlk
  refine cx_lv (lv' := [(0, .ref (b_a 0)), (1, .int p1), (2, .int p2)]) [0, 1, 2] rfl ?_
  have L30 : ∀ (x3_6 : Int32) (n30 : Nat) (x4_7 : Int32) (x5_8 : Int32), f_X1_marksLike_L30w b_c0 b_z0 b_c2 b_z2 p1 p2 x3_6 n30 x4_7 x5_8 = some y → cx_S p l e (cx_rm 3) s m args below meth c A D 7 0 0 Q 30 [(0, .ref (b_a 0)), (1, .int p1), (2, .int p2), (3, .int x3_6), (4, .int x4_7), (5, .int x5_8)] [] (wd_Box k b_a b_c0 b_z0 b_c1 b_z1 b_c2 b_z2 b_c3 b_z3 b_c4 b_z4 b_sg) := by
    intro x3_6 n30
    induction n30 with
    | zero =>
      intro x4_7 x5_8 hf
      exact absurd (show (none : Option Int32) = some y from hf) (fun h => by cases h)
    | succ n30 ih30 =>
      intro x4_7 x5_8 hf
      have hf : f_X1_marksLike_L30 b_c0 b_z0 b_c2 b_z2 p1 p2 x3_6 (f_X1_marksLike_L30w b_c0 b_z0 b_c2 b_z2 p1 p2 x3_6 n30) x4_7 x5_8 = some y := hf
      have J103 : ∀ (x4_11 : Int32), f_X1_marksLike_J103 x5_8 (f_X1_marksLike_L30w b_c0 b_z0 b_c2 b_z2 p1 p2 x3_6 n30) x4_11 = some y → cx_S p l e (cx_rm 3) s m args below meth c A D 7 0 0 Q 103 [(0, .ref (b_a 0)), (1, .int p1), (2, .int p2), (3, .int x3_6), (4, .int x4_11), (5, .int x5_8)] [] (wd_Box k b_a b_c0 b_z0 b_c1 b_z1 b_c2 b_z2 b_c3 b_z3 b_c4 b_z4 b_sg) := by
        intro x4_11 hf
        unfold f_X1_marksLike_J103 at hf
        refine cx_iinc (v := x5_8 + 1) (lv' := [(5, .int (x5_8 + 1)), (0, .ref (b_a 0)), (1, .int p1), (2, .int p2), (3, .int x3_6), (4, .int x4_11)]) C dX1_marksLike_103 5 rfl rfl (by decide) rfl ?_
        refine cx_goto (tgt := 30) C dX1_marksLike_106 (by decide) ?_
        refine cx_lv [1, 2, 3, 4, 5, 0] rfl ?_
        exact ih30 x4_11 (x5_8 + 1) hf
      have J100 : ∀ (s1_20 : Int32), f_X1_marksLike_J100 x4_7 x5_8 (f_X1_marksLike_L30w b_c0 b_z0 b_c2 b_z2 p1 p2 x3_6 n30) s1_20 = some y → cx_S p l e (cx_rm 3) s m args below meth c A D 7 0 0 Q 100 [(0, .ref (b_a 0)), (1, .int p1), (2, .int p2), (3, .int x3_6), (5, .int x5_8)] [.int s1_20, .int x4_7] (wd_Box k b_a b_c0 b_z0 b_c1 b_z1 b_c2 b_z2 b_c3 b_z3 b_c4 b_z4 b_sg) := by
        intro s1_20 hf
        unfold f_X1_marksLike_J100 at hf
        refine cx_imul C dX1_marksLike_100 ?_
        refine cx_istore (lv' := [(4, .int (x4_7 * s1_20)), (0, .ref (b_a 0)), (1, .int p1), (2, .int p2), (3, .int x3_6), (5, .int x5_8)]) C dX1_marksLike_101 (by decide) rfl ?_
        refine cx_lv [1, 2, 3, 4, 0, 5] rfl ?_
        exact J103 (x4_7 * s1_20) hf
      have J62 : ∀ (s0_15 : Int32), f_X1_marksLike_J62 b_c2 b_z2 p1 x4_7 x5_8 (f_X1_marksLike_L30w b_c0 b_z0 b_c2 b_z2 p1 p2 x3_6 n30) s0_15 = some y → cx_S p l e (cx_rm 3) s m args below meth c A D 7 0 0 Q 62 [(0, .ref (b_a 0)), (1, .int p1), (2, .int p2), (3, .int x3_6), (4, .int x4_7), (5, .int x5_8)] [.int s0_15] (wd_Box k b_a b_c0 b_z0 b_c1 b_z1 b_c2 b_z2 b_c3 b_z3 b_c4 b_z4 b_sg) := by
        intro s0_15 hf
        unfold f_X1_marksLike_J62 at hf
        refine cx_istore (lv' := [(6, .int s0_15), (0, .ref (b_a 0)), (1, .int p1), (2, .int p2), (3, .int x3_6), (4, .int x4_7), (5, .int x5_8)]) C dX1_marksLike_62 (by decide) rfl ?_
        refine cx_iload C dX1_marksLike_64 5 rfl ?_
        refine cx_iload C dX1_marksLike_66 0 rfl ?_
        refine cx_iconst (v := (-1)) C dX1_marksLike_68 (by decide) ?_
        refine cx_icmp_ne (tgt := 76) C dX1_marksLike_69 (by decide) (fun c16 => ?_) (fun c16 => ?_)
        · have hf := cx_if_f hf c16
          clear c16
          refine cx_iload C dX1_marksLike_76 0 rfl ?_
          refine cx_aload_n C dX1_marksLike_78 1 rfl ?_
          refine cx_get (v := .ref (b_a 5)) (ci := 1) C iX1 dX1_marksLike_79 0 rfl rfl 2 (by decide) hw_67 rfl ?_
          refine cx_iload_n C dX1_marksLike_82 2 rfl ?_
          refine cx_iconst (v := 1) C dX1_marksLike_83 (by decide) ?_
          obtain ⟨u17, e18, hf⟩ := cx_bd_at hf
          refine cx_Kvi (q := (RX4, TX4, 4)) (As := [.int p1, .int 1]) (rest := [.int s0_15, .int x4_7]) hA C me_X4_at hw_377 (c_X4_at l D k (b_a 5) (b_a 6) 5 6 30 b_c2 b_z2 p1 1 u17 e18) dX1_marksLike_84 ⟨Nat.le_of_ble_eq_true rfl, Nat.le_of_ble_eq_true rfl⟩ ⟨Nat.zero_le _, Nat.zero_le _⟩ rfl rfl (Nat.le_of_ble_eq_true rfl) rfl rfl [5, 6] rfl (by decide) ?_
          clear e18
          refine cx_iload C dX1_marksLike_87 6 rfl ?_
          refine cx_ishr C dX1_marksLike_89 ?_
          refine cx_iconst (v := 1) C dX1_marksLike_90 (by decide) ?_
          refine cx_iand C dX1_marksLike_91 ?_
          refine cx_icmp_ne (tgt := 99) C dX1_marksLike_92 (by decide) (fun c19 => ?_) (fun c19 => ?_)
          · have hf := cx_if_f hf c19
            clear c19
            refine cx_iconst (v := 1) C dX1_marksLike_99 (by decide) ?_
            refine cx_lv [1, 2, 3, 4, 6] rfl ?_
            exact J100 1 hf
          · have hf := cx_if_t hf c19
            clear c19
            refine cx_iconst (v := 3) C dX1_marksLike_95 (by decide) ?_
            refine cx_goto (tgt := 100) C dX1_marksLike_96 (by decide) ?_
            refine cx_lv [1, 2, 3, 4, 6] rfl ?_
            exact J100 3 hf
        · have hf := cx_if_t hf c16
          clear c16
          refine cx_iconst (v := 2) C dX1_marksLike_72 (by decide) ?_
          refine cx_goto (tgt := 100) C dX1_marksLike_73 (by decide) ?_
          refine cx_lv [1, 2, 3, 4, 6] rfl ?_
          exact J100 2 hf
      unfold f_X1_marksLike_L30 at hf
      refine cx_iload C dX1_marksLike_30 5 rfl ?_
      refine cx_iconst (v := 4) C dX1_marksLike_32 (by decide) ?_
      refine cx_icmp_ge (tgt := 109) C dX1_marksLike_33 (by decide) (fun c9 => ?_) (fun c9 => ?_)
      · have hf := cx_if_t hf c9
        clear c9
        refine cx_iload C dX1_marksLike_109 4 rfl ?_
        obtain rfl := Option.some.inj hf
        exact cx_iret C hA hQ hr hlk dX1_marksLike_111 rfl rfl
      · have hf := cx_if_f hf c9
        clear c9
        refine cx_iload_n C dX1_marksLike_36 3 rfl ?_
        refine cx_iload C dX1_marksLike_37 5 rfl ?_
        refine cx_ishr C dX1_marksLike_39 ?_
        refine cx_iconst (v := 1) C dX1_marksLike_40 (by decide) ?_
        refine cx_iand C dX1_marksLike_41 ?_
        refine cx_iconst (v := 1) C dX1_marksLike_42 (by decide) ?_
        refine cx_icmp_ne (tgt := 103) C dX1_marksLike_43 (by decide) (fun c10 => ?_) (fun c10 => ?_)
        · have hf := cx_if_f hf c10
          clear c10
          exact J103 x4_7 hf
        · have hf := cx_if_t hf c10
          clear c10
          refine cx_iload_n C dX1_marksLike_46 2 rfl ?_
          refine cx_iconst (v := 5) C dX1_marksLike_47 (by decide) ?_
          refine cx_icmp_ne (tgt := 55) C dX1_marksLike_48 (by decide) (fun c12 => ?_) (fun c12 => ?_)
          · have hf := cx_if_f hf c12
            clear c12
            refine cx_aload_n C dX1_marksLike_55 0 rfl ?_
            refine cx_iload_n C dX1_marksLike_56 2 rfl ?_
            refine cx_iload C dX1_marksLike_57 5 rfl ?_
            obtain ⟨u13, e14, hf⟩ := cx_bd_at hf
            refine cx_Fvi (q := (RX1, TX1, 6)) (As := [.int p2, .int x5_8]) (rest := []) (w1 := (wd_Box k b_a b_c0 b_z0 b_c1 b_z1 b_c2 b_z2 b_c3 b_z3 b_c4 b_z4 b_sg)) hA C me_X1_markOf hw_454 (c_X1_markOf l D k b_a b_c0 b_z0 b_c1 b_z1 b_c2 b_z2 b_c3 b_z3 b_c4 b_z4 b_sg p2 x5_8 u13 e14) dX1_marksLike_59 ⟨Nat.le_of_ble_eq_true rfl, Nat.le_of_ble_eq_true rfl⟩ ⟨Nat.zero_le _, Nat.zero_le _⟩ rfl rfl (Nat.le_of_ble_eq_true rfl) rfl rfl rfl ?_
            clear e14
            exact J62 u13 hf
          · have hf := cx_if_t hf c12
            clear c12
            refine cx_iconst (v := (-1)) C dX1_marksLike_51 (by decide) ?_
            refine cx_goto (tgt := 62) C dX1_marksLike_52 (by decide) ?_
            exact J62 ((-1)) hf
  have J25 : ∀ (x3_4 : Int32) (s0_5 : Int32), f_X1_marksLike_J25 b_c0 b_z0 b_c2 b_z2 p1 p2 x3_4 s0_5 = some y → cx_S p l e (cx_rm 3) s m args below meth c A D 7 0 0 Q 25 [(0, .ref (b_a 0)), (1, .int p1), (2, .int p2), (3, .int x3_4)] [.int s0_5] (wd_Box k b_a b_c0 b_z0 b_c1 b_z1 b_c2 b_z2 b_c3 b_z3 b_c4 b_z4 b_sg) := by
    intro x3_4 s0_5 hf
    unfold f_X1_marksLike_J25 at hf
    refine cx_istore (lv' := [(4, .int s0_5), (0, .ref (b_a 0)), (1, .int p1), (2, .int p2), (3, .int x3_4)]) C dX1_marksLike_25 (by decide) rfl ?_
    refine cx_iconst (v := 0) C dX1_marksLike_27 (by decide) ?_
    refine cx_istore (lv' := [(5, .int 0), (4, .int s0_5), (0, .ref (b_a 0)), (1, .int p1), (2, .int p2), (3, .int x3_4)]) C dX1_marksLike_28 (by decide) rfl ?_
    refine cx_lv [2, 3, 4, 5, 1, 0] rfl ?_
    exact L30 x3_4 cx_N0 s0_5 0 hf
  unfold f_X1_marksLike at hf
  refine cx_aload_n C dX1_marksLike_0 0 rfl ?_
  refine cx_get (v := .ref (b_a 5)) (ci := 1) C iX1 dX1_marksLike_1 0 rfl rfl 2 (by decide) hw_67 rfl ?_
  refine cx_iload_n C dX1_marksLike_4 1 rfl ?_
  refine cx_iconst (v := 2) C dX1_marksLike_5 (by decide) ?_
  obtain ⟨u1, e2, hf⟩ := cx_bd_at hf
  refine cx_Kvi (q := (RX4, TX4, 4)) (As := [.int p1, .int 2]) (rest := []) hA C me_X4_at hw_377 (c_X4_at l D k (b_a 5) (b_a 6) 5 6 30 b_c2 b_z2 p1 2 u1 e2) dX1_marksLike_6 ⟨Nat.le_of_ble_eq_true rfl, Nat.le_of_ble_eq_true rfl⟩ ⟨Nat.zero_le _, Nat.zero_le _⟩ rfl rfl (Nat.le_of_ble_eq_true rfl) rfl rfl [5, 6] rfl (by decide) ?_
  clear e2
  refine cx_istore_n (lv' := [(3, .int u1), (0, .ref (b_a 0)), (1, .int p1), (2, .int p2)]) C dX1_marksLike_9 rfl (by decide) rfl ?_
  refine cx_iload_n C dX1_marksLike_10 3 rfl ?_
  refine cx_iconst (v := 5) C dX1_marksLike_11 (by decide) ?_
  refine cx_icmp_ne (tgt := 24) C dX1_marksLike_12 (by decide) (fun c3 => ?_) (fun c3 => ?_)
  · have hf := cx_if_f hf c3
    clear c3
    refine cx_iconst (v := 1) C dX1_marksLike_24 (by decide) ?_
    refine cx_lv [1, 2, 3, 0] rfl ?_
    exact J25 u1 1 hf
  · have hf := cx_if_t hf c3
    clear c3
    refine cx_aload_n C dX1_marksLike_15 1 rfl ?_
    refine cx_get (v := .int b_sg) (ci := 1) C iX1 dX1_marksLike_16 0 rfl rfl 5 (by decide) hw_77 rfl ?_
    refine cx_iconst (v := 2) C dX1_marksLike_19 (by decide) ?_
    refine cx_imul C dX1_marksLike_20 ?_
    refine cx_goto (tgt := 25) C dX1_marksLike_21 (by decide) ?_
    refine cx_lv [1, 2, 3, 0] rfl ?_
    exact J25 u1 (b_sg * 2) hf
theorem dX1_ageLike_0 : decode cX1_ageLike 0 = .ok (.iload_n 2, 1) := by decide +kernel
theorem dX1_ageLike_1 : decode cX1_ageLike 1 = .ok (.iconst 5, 1) := by decide +kernel
theorem dX1_ageLike_2 : decode cX1_ageLike 2 = .ok (.if_icmp .ne 5, 3) := by decide +kernel
theorem dX1_ageLike_5 : decode cX1_ageLike 5 = .ok (.iconst 1, 1) := by decide +kernel
theorem dX1_ageLike_6 : decode cX1_ageLike 6 = .ok (.ireturn, 1) := by decide +kernel
theorem dX1_ageLike_7 : decode cX1_ageLike 7 = .ok (.iload_n 3, 1) := by decide +kernel
theorem dX1_ageLike_8 : decode cX1_ageLike 8 = .ok (.aload_n 0, 1) := by decide +kernel
theorem dX1_ageLike_9 : decode cX1_ageLike 9 = .ok (.getfield 14, 3) := by decide +kernel
theorem dX1_ageLike_12 : decode cX1_ageLike 12 = .ok (.iload_n 2, 1) := by decide +kernel
theorem dX1_ageLike_13 : decode cX1_ageLike 13 = .ok (.iconst 0, 1) := by decide +kernel
theorem dX1_ageLike_14 : decode cX1_ageLike 14 = .ok (.invokevirtual 67, 3) := by decide +kernel
theorem dX1_ageLike_17 : decode cX1_ageLike 17 = .ok (.isub, 1) := by decide +kernel
theorem dX1_ageLike_18 : decode cX1_ageLike 18 = .ok (.istore 4, 2) := by decide +kernel
theorem dX1_ageLike_20 : decode cX1_ageLike 20 = .ok (.iload 4, 2) := by decide +kernel
theorem dX1_ageLike_22 : decode cX1_ageLike 22 = .ok (.ifCond .lt 16, 3) := by decide +kernel
theorem dX1_ageLike_25 : decode cX1_ageLike 25 = .ok (.aload_n 0, 1) := by decide +kernel
theorem dX1_ageLike_26 : decode cX1_ageLike 26 = .ok (.getfield 14, 3) := by decide +kernel
theorem dX1_ageLike_29 : decode cX1_ageLike 29 = .ok (.iload_n 2, 1) := by decide +kernel
theorem dX1_ageLike_30 : decode cX1_ageLike 30 = .ok (.iconst 1, 1) := by decide +kernel
theorem dX1_ageLike_31 : decode cX1_ageLike 31 = .ok (.invokevirtual 67, 3) := by decide +kernel
theorem dX1_ageLike_34 : decode cX1_ageLike 34 = .ok (.iload_n 3, 1) := by decide +kernel
theorem dX1_ageLike_35 : decode cX1_ageLike 35 = .ok (.if_icmp .ge 5, 3) := by decide +kernel
theorem dX1_ageLike_38 : decode cX1_ageLike 38 = .ok (.iconst 0, 1) := by decide +kernel
theorem dX1_ageLike_39 : decode cX1_ageLike 39 = .ok (.ireturn, 1) := by decide +kernel
theorem dX1_ageLike_40 : decode cX1_ageLike 40 = .ok (.aload_n 0, 1) := by decide +kernel
theorem dX1_ageLike_41 : decode cX1_ageLike 41 = .ok (.getfield 23, 3) := by decide +kernel
theorem dX1_ageLike_44 : decode cX1_ageLike 44 = .ok (.iload_n 1, 1) := by decide +kernel
theorem dX1_ageLike_45 : decode cX1_ageLike 45 = .ok (.iconst 3, 1) := by decide +kernel
theorem dX1_ageLike_46 : decode cX1_ageLike 46 = .ok (.invokevirtual 67, 3) := by decide +kernel
theorem dX1_ageLike_49 : decode cX1_ageLike 49 = .ok (.istore 5, 2) := by decide +kernel
theorem dX1_ageLike_51 : decode cX1_ageLike 51 = .ok (.aload_n 0, 1) := by decide +kernel
theorem dX1_ageLike_52 : decode cX1_ageLike 52 = .ok (.getfield 23, 3) := by decide +kernel
theorem dX1_ageLike_55 : decode cX1_ageLike 55 = .ok (.iload_n 1, 1) := by decide +kernel
theorem dX1_ageLike_56 : decode cX1_ageLike 56 = .ok (.iconst 4, 1) := by decide +kernel
theorem dX1_ageLike_57 : decode cX1_ageLike 57 = .ok (.invokevirtual 67, 3) := by decide +kernel
theorem dX1_ageLike_60 : decode cX1_ageLike 60 = .ok (.istore 6, 2) := by decide +kernel
theorem dX1_ageLike_62 : decode cX1_ageLike 62 = .ok (.iload 4, 2) := by decide +kernel
theorem dX1_ageLike_64 : decode cX1_ageLike 64 = .ok (.iload 5, 2) := by decide +kernel
theorem dX1_ageLike_66 : decode cX1_ageLike 66 = .ok (.iload 6, 2) := by decide +kernel
theorem dX1_ageLike_68 : decode cX1_ageLike 68 = .ok (.invokestatic 43, 3) := by decide +kernel
theorem dX1_ageLike_71 : decode cX1_ageLike 71 = .ok (.ifCond .eq 7, 3) := by decide +kernel
theorem dX1_ageLike_74 : decode cX1_ageLike 74 = .ok (.iconst 4, 1) := by decide +kernel
theorem dX1_ageLike_75 : decode cX1_ageLike 75 = .ok (.goto 24, 3) := by decide +kernel
theorem dX1_ageLike_78 : decode cX1_ageLike 78 = .ok (.iload 4, 2) := by decide +kernel
theorem dX1_ageLike_80 : decode cX1_ageLike 80 = .ok (.iload 5, 2) := by decide +kernel
theorem dX1_ageLike_82 : decode cX1_ageLike 82 = .ok (.iconst 5, 1) := by decide +kernel
theorem dX1_ageLike_83 : decode cX1_ageLike 83 = .ok (.isub, 1) := by decide +kernel
theorem dX1_ageLike_84 : decode cX1_ageLike 84 = .ok (.iload 6, 2) := by decide +kernel
theorem dX1_ageLike_86 : decode cX1_ageLike 86 = .ok (.iconst 5, 1) := by decide +kernel
theorem dX1_ageLike_87 : decode cX1_ageLike 87 = .ok (.iadd, 1) := by decide +kernel
theorem dX1_ageLike_88 : decode cX1_ageLike 88 = .ok (.invokestatic 43, 3) := by decide +kernel
theorem dX1_ageLike_91 : decode cX1_ageLike 91 = .ok (.ifCond .eq 7, 3) := by decide +kernel
theorem dX1_ageLike_94 : decode cX1_ageLike 94 = .ok (.iconst 2, 1) := by decide +kernel
theorem dX1_ageLike_95 : decode cX1_ageLike 95 = .ok (.goto 4, 3) := by decide +kernel
theorem dX1_ageLike_98 : decode cX1_ageLike 98 = .ok (.iconst 1, 1) := by decide +kernel
theorem dX1_ageLike_99 : decode cX1_ageLike 99 = .ok (.ireturn, 1) := by decide +kernel
theorem me_X1_ageLike : cx_Mv yX1_ageLike cX1_ageLike 7 (some .int) 3 := ⟨⟨⟨by decide +kernel, by decide +kernel, by decide +kernel⟩, hw_2, hw_458⟩, hw_456, hw_457⟩
noncomputable def f_X1_ageLike (b_c0 : Nat → Int32) (b_z0 : Int32) (b_c2 : Nat → Int32) (b_z2 : Int32) (p1 : Int32) (p2 : Int32) (p3 : Int32) : Option Int32 := if p2 = 5 then (some 1) else (Option.bind (f_X4_at 6 30 b_c0 b_z0 p2 0) (fun u2 => if (p3 - u2) < 0 then (some 0) else (Option.bind (f_X4_at 6 30 b_c0 b_z0 p2 1) (fun u5 => if p3 ≤ u5 then (Option.bind (f_X4_at 5 30 b_c2 b_z2 p1 3) (fun u8 => Option.bind (f_X4_at 5 30 b_c2 b_z2 p1 4) (fun u10 => Option.bind (f_X8_within (p3 - u2) u8 u10) (fun u12 => if u12 = 0 then (Option.bind (f_X8_within (p3 - u2) (u8 - 5) (u10 + 5)) (fun u15 => if u15 = 0 then (some 1) else (some 2))) else (some 4))))) else (some 0)))))
set_option maxHeartbeats 4000000 in
set_option maxRecDepth 100000 in
theorem c_X1_ageLike (l : Launch) (D : va_G) (k : Nat → ClassId) (b_a : Nat → Nat) (b_c0 : Nat → Int32) (b_z0 : Int32) (b_c1 : Nat → Int32) (b_z1 : Int32) (b_c2 : Nat → Int32) (b_z2 : Int32) (b_c3 : Nat → Int32) (b_z3 : Int32) (b_c4 : Nat → Int32) (b_z4 : Int32) (b_sg : Int32) (p1 : Int32) (p2 : Int32) (p3 : Int32) (y : Int32) (hf : f_X1_ageLike b_c0 b_z0 b_c2 b_z2 p1 p2 p3 = some y) : cx_M l yX1_ageLike cX1_ageLike 7 (some .int) 2 D k [.ref (b_a 0), .int p1, .int p2, .int p3] (wd_Box k b_a b_c0 b_z0 b_c1 b_z1 b_c2 b_z2 b_c3 b_z3 b_c4 b_z4 b_sg) (fun sz => cx_Qi D y (wd_Box k b_a b_c0 b_z0 b_c1 b_z1 b_c2 b_z2 b_c3 b_z3 b_c4 b_z4 b_sg) (wd_Box k b_a b_c0 b_z0 b_c1 b_z1 b_c2 b_z2 b_c3 b_z3 b_c4 b_z4 b_sg) sz) := by
  refine cx_met (own := "NamelessBox$Box") (by decide) rfl (Nat.le_of_ble_eq_true rfl) ?_
  intro p e s m args below meth c A Q C hA hQ hr hlk
  refine cx_lv (lv' := [(0, .ref (b_a 0)), (1, .int p1), (2, .int p2), (3, .int p3)]) [0, 1, 2, 3] rfl ?_
  unfold f_X1_ageLike at hf
  refine cx_iload_n C dX1_ageLike_0 2 rfl ?_
  refine cx_iconst (v := 5) C dX1_ageLike_1 (by decide) ?_
  refine cx_icmp_ne (tgt := 7) C dX1_ageLike_2 (by decide) (fun c1 => ?_) (fun c1 => ?_)
  · have hf := cx_if_f hf c1
    clear c1
    refine cx_iload_n C dX1_ageLike_7 3 rfl ?_
    refine cx_aload_n C dX1_ageLike_8 0 rfl ?_
    refine cx_get (v := .ref (b_a 1)) (ci := 1) C iX1 dX1_ageLike_9 0 rfl rfl 0 (by decide) hw_60 rfl ?_
    refine cx_iload_n C dX1_ageLike_12 2 rfl ?_
    refine cx_iconst (v := 0) C dX1_ageLike_13 (by decide) ?_
    obtain ⟨u2, e3, hf⟩ := cx_bd_at hf
    refine cx_Kvi (q := (RX4, TX4, 4)) (As := [.int p2, .int 0]) (rest := [.int p3]) hA C me_X4_at hw_377 (c_X4_at l D k (b_a 1) (b_a 2) 6 5 30 b_c0 b_z0 p2 0 u2 e3) dX1_ageLike_14 ⟨Nat.le_of_ble_eq_true rfl, Nat.le_of_ble_eq_true rfl⟩ ⟨Nat.zero_le _, Nat.zero_le _⟩ rfl rfl (Nat.le_of_ble_eq_true rfl) rfl rfl [1, 2] rfl (by decide) ?_
    clear e3
    refine cx_isub C dX1_ageLike_17 ?_
    refine cx_istore (lv' := [(4, .int (p3 - u2)), (0, .ref (b_a 0)), (1, .int p1), (2, .int p2), (3, .int p3)]) C dX1_ageLike_18 (by decide) rfl ?_
    refine cx_iload C dX1_ageLike_20 0 rfl ?_
    refine cx_if_lt (tgt := 38) C dX1_ageLike_22 (by decide) (fun c4 => ?_) (fun c4 => ?_)
    · have hf := cx_if_t hf c4
      clear c4
      refine cx_iconst (v := 0) C dX1_ageLike_38 (by decide) ?_
      obtain rfl := Option.some.inj hf
      exact cx_iret C hA hQ hr hlk dX1_ageLike_39 rfl rfl
    · have hf := cx_if_f hf c4
      clear c4
      refine cx_aload_n C dX1_ageLike_25 1 rfl ?_
      refine cx_get (v := .ref (b_a 1)) (ci := 1) C iX1 dX1_ageLike_26 0 rfl rfl 0 (by decide) hw_60 rfl ?_
      refine cx_iload_n C dX1_ageLike_29 3 rfl ?_
      refine cx_iconst (v := 1) C dX1_ageLike_30 (by decide) ?_
      obtain ⟨u5, e6, hf⟩ := cx_bd_at hf
      refine cx_Kvi (q := (RX4, TX4, 4)) (As := [.int p2, .int 1]) (rest := []) hA C me_X4_at hw_377 (c_X4_at l D k (b_a 1) (b_a 2) 6 5 30 b_c0 b_z0 p2 1 u5 e6) dX1_ageLike_31 ⟨Nat.le_of_ble_eq_true rfl, Nat.le_of_ble_eq_true rfl⟩ ⟨Nat.zero_le _, Nat.zero_le _⟩ rfl rfl (Nat.le_of_ble_eq_true rfl) rfl rfl [1, 2] rfl (by decide) ?_
      clear e6
      refine cx_iload_n C dX1_ageLike_34 4 rfl ?_
      refine cx_icmp_ge (tgt := 40) C dX1_ageLike_35 (by decide) (fun c7 => ?_) (fun c7 => ?_)
      · have hf := cx_if_t hf c7
        clear c7
        refine cx_aload_n C dX1_ageLike_40 1 rfl ?_
        refine cx_get (v := .ref (b_a 5)) (ci := 1) C iX1 dX1_ageLike_41 0 rfl rfl 2 (by decide) hw_67 rfl ?_
        refine cx_iload_n C dX1_ageLike_44 2 rfl ?_
        refine cx_iconst (v := 3) C dX1_ageLike_45 (by decide) ?_
        obtain ⟨u8, e9, hf⟩ := cx_bd_at hf
        refine cx_Kvi (q := (RX4, TX4, 4)) (As := [.int p1, .int 3]) (rest := []) hA C me_X4_at hw_377 (c_X4_at l D k (b_a 5) (b_a 6) 5 6 30 b_c2 b_z2 p1 3 u8 e9) dX1_ageLike_46 ⟨Nat.le_of_ble_eq_true rfl, Nat.le_of_ble_eq_true rfl⟩ ⟨Nat.zero_le _, Nat.zero_le _⟩ rfl rfl (Nat.le_of_ble_eq_true rfl) rfl rfl [5, 6] rfl (by decide) ?_
        clear e9
        refine cx_istore (lv' := [(5, .int u8), (4, .int (p3 - u2)), (0, .ref (b_a 0)), (1, .int p1), (2, .int p2), (3, .int p3)]) C dX1_ageLike_49 (by decide) rfl ?_
        refine cx_aload_n C dX1_ageLike_51 2 rfl ?_
        refine cx_get (v := .ref (b_a 5)) (ci := 1) C iX1 dX1_ageLike_52 0 rfl rfl 2 (by decide) hw_67 rfl ?_
        refine cx_iload_n C dX1_ageLike_55 3 rfl ?_
        refine cx_iconst (v := 4) C dX1_ageLike_56 (by decide) ?_
        obtain ⟨u10, e11, hf⟩ := cx_bd_at hf
        refine cx_Kvi (q := (RX4, TX4, 4)) (As := [.int p1, .int 4]) (rest := []) hA C me_X4_at hw_377 (c_X4_at l D k (b_a 5) (b_a 6) 5 6 30 b_c2 b_z2 p1 4 u10 e11) dX1_ageLike_57 ⟨Nat.le_of_ble_eq_true rfl, Nat.le_of_ble_eq_true rfl⟩ ⟨Nat.zero_le _, Nat.zero_le _⟩ rfl rfl (Nat.le_of_ble_eq_true rfl) rfl rfl [5, 6] rfl (by decide) ?_
        clear e11
        refine cx_istore (lv' := [(6, .int u10), (5, .int u8), (4, .int (p3 - u2)), (0, .ref (b_a 0)), (1, .int p1), (2, .int p2), (3, .int p3)]) C dX1_ageLike_60 (by decide) rfl ?_
        refine cx_iload C dX1_ageLike_62 2 rfl ?_
        refine cx_iload C dX1_ageLike_64 1 rfl ?_
        refine cx_iload C dX1_ageLike_66 0 rfl ?_
        obtain ⟨u12, e13, hf⟩ := cx_bd_at hf
        refine cx_Kni (As := [.int (p3 - u2), .int u8, .int u10]) (rest := []) hA C me_X8_within (fun h => h.2.2.1) (c_X8_within l D k (p3 - u2) u8 u10 u12 e13) dX1_ageLike_68 ⟨Nat.le_of_ble_eq_true rfl, Nat.le_of_ble_eq_true rfl⟩ ⟨Nat.zero_le _, Nat.zero_le _⟩ rfl rfl (Nat.le_of_ble_eq_true rfl) [] rfl (by decide) ?_
        clear e13
        refine cx_if_eq (tgt := 78) C dX1_ageLike_71 (by decide) (fun c14 => ?_) (fun c14 => ?_)
        · have hf := cx_if_t hf c14
          clear c14
          refine cx_iload C dX1_ageLike_78 2 rfl ?_
          refine cx_iload C dX1_ageLike_80 1 rfl ?_
          refine cx_iconst (v := 5) C dX1_ageLike_82 (by decide) ?_
          refine cx_isub C dX1_ageLike_83 ?_
          refine cx_iload C dX1_ageLike_84 0 rfl ?_
          refine cx_iconst (v := 5) C dX1_ageLike_86 (by decide) ?_
          refine cx_iadd C dX1_ageLike_87 ?_
          obtain ⟨u15, e16, hf⟩ := cx_bd_at hf
          refine cx_Kni (As := [.int (p3 - u2), .int (u8 - 5), .int (u10 + 5)]) (rest := []) hA C me_X8_within (fun h => h.2.2.1) (c_X8_within l D k (p3 - u2) (u8 - 5) (u10 + 5) u15 e16) dX1_ageLike_88 ⟨Nat.le_of_ble_eq_true rfl, Nat.le_of_ble_eq_true rfl⟩ ⟨Nat.zero_le _, Nat.zero_le _⟩ rfl rfl (Nat.le_of_ble_eq_true rfl) [] rfl (by decide) ?_
          clear e16
          refine cx_if_eq (tgt := 98) C dX1_ageLike_91 (by decide) (fun c17 => ?_) (fun c17 => ?_)
          · have hf := cx_if_t hf c17
            clear c17
            refine cx_iconst (v := 1) C dX1_ageLike_98 (by decide) ?_
            obtain rfl := Option.some.inj hf
            exact cx_iret C hA hQ hr hlk dX1_ageLike_99 rfl rfl
          · have hf := cx_if_f hf c17
            clear c17
            refine cx_iconst (v := 2) C dX1_ageLike_94 (by decide) ?_
            refine cx_goto (tgt := 99) C dX1_ageLike_95 (by decide) ?_
            obtain rfl := Option.some.inj hf
            exact cx_iret C hA hQ hr hlk dX1_ageLike_99 rfl rfl
        · have hf := cx_if_f hf c14
          clear c14
          refine cx_iconst (v := 4) C dX1_ageLike_74 (by decide) ?_
          refine cx_goto (tgt := 99) C dX1_ageLike_75 (by decide) ?_
          obtain rfl := Option.some.inj hf
          exact cx_iret C hA hQ hr hlk dX1_ageLike_99 rfl rfl
      · have hf := cx_if_f hf c7
        clear c7
        refine cx_iconst (v := 0) C dX1_ageLike_38 (by decide) ?_
        obtain rfl := Option.some.inj hf
        exact cx_iret C hA hQ hr hlk dX1_ageLike_39 rfl rfl
  · have hf := cx_if_t hf c1
    clear c1
    refine cx_iconst (v := 1) C dX1_ageLike_5 (by decide) ?_
    obtain rfl := Option.some.inj hf
    exact cx_iret C hA hQ hr hlk dX1_ageLike_6 rfl rfl
theorem dX1_truthOf_0 : decode cX1_truthOf 0 = .ok (.iconst 5, 1) := by decide +kernel
theorem dX1_truthOf_1 : decode cX1_truthOf 1 = .ok (.aload_n 0, 1) := by decide +kernel
theorem dX1_truthOf_2 : decode cX1_truthOf 2 = .ok (.getfield 14, 3) := by decide +kernel
theorem dX1_truthOf_5 : decode cX1_truthOf 5 = .ok (.aload_n 0, 1) := by decide +kernel
theorem dX1_truthOf_6 : decode cX1_truthOf 6 = .ok (.getfield 26, 3) := by decide +kernel
theorem dX1_truthOf_9 : decode cX1_truthOf 9 = .ok (.iload_n 1, 1) := by decide +kernel
theorem dX1_truthOf_10 : decode cX1_truthOf 10 = .ok (.iconst 2, 1) := by decide +kernel
theorem dX1_truthOf_11 : decode cX1_truthOf 11 = .ok (.invokevirtual 67, 3) := by decide +kernel
theorem dX1_truthOf_14 : decode cX1_truthOf 14 = .ok (.iconst 5, 1) := by decide +kernel
theorem dX1_truthOf_15 : decode cX1_truthOf 15 = .ok (.invokevirtual 67, 3) := by decide +kernel
theorem dX1_truthOf_18 : decode cX1_truthOf 18 = .ok (.iadd, 1) := by decide +kernel
theorem dX1_truthOf_19 : decode cX1_truthOf 19 = .ok (.istore_n 2, 1) := by decide +kernel
theorem dX1_truthOf_20 : decode cX1_truthOf 20 = .ok (.aload_n 0, 1) := by decide +kernel
theorem dX1_truthOf_21 : decode cX1_truthOf 21 = .ok (.getfield 26, 3) := by decide +kernel
theorem dX1_truthOf_24 : decode cX1_truthOf 24 = .ok (.iload_n 1, 1) := by decide +kernel
theorem dX1_truthOf_25 : decode cX1_truthOf 25 = .ok (.iconst 0, 1) := by decide +kernel
theorem dX1_truthOf_26 : decode cX1_truthOf 26 = .ok (.invokevirtual 67, 3) := by decide +kernel
theorem dX1_truthOf_29 : decode cX1_truthOf 29 = .ok (.tableswitch 44 1 5 #[35, 38, 38, 35, 40], 35) := by decide +kernel
theorem dX1_truthOf_64 : decode cX1_truthOf 64 = .ok (.bipush 10, 2) := by decide +kernel
theorem dX1_truthOf_66 : decode cX1_truthOf 66 = .ok (.ireturn, 1) := by decide +kernel
theorem dX1_truthOf_67 : decode cX1_truthOf 67 = .ok (.iload_n 2, 1) := by decide +kernel
theorem dX1_truthOf_68 : decode cX1_truthOf 68 = .ok (.ireturn, 1) := by decide +kernel
theorem dX1_truthOf_69 : decode cX1_truthOf 69 = .ok (.iload_n 2, 1) := by decide +kernel
theorem dX1_truthOf_70 : decode cX1_truthOf 70 = .ok (.iconst 2, 1) := by decide +kernel
theorem dX1_truthOf_71 : decode cX1_truthOf 71 = .ok (.isub, 1) := by decide +kernel
theorem dX1_truthOf_72 : decode cX1_truthOf 72 = .ok (.ireturn, 1) := by decide +kernel
theorem dX1_truthOf_73 : decode cX1_truthOf 73 = .ok (.bipush 6, 2) := by decide +kernel
theorem dX1_truthOf_75 : decode cX1_truthOf 75 = .ok (.ireturn, 1) := by decide +kernel
theorem me_X1_truthOf : cx_Mv yX1_truthOf cX1_truthOf 3 (some .int) 1 := ⟨⟨⟨by decide +kernel, by decide +kernel, by decide +kernel⟩, hw_2, hw_466⟩, hw_464, hw_465⟩
noncomputable def f_X1_truthOf (b_c0 : Nat → Int32) (b_z0 : Int32) (b_c3 : Nat → Int32) (b_z3 : Int32) (p1 : Int32) : Option Int32 := Option.bind (f_X4_at 4 16 b_c3 b_z3 p1 2) (fun u1 => Option.bind (f_X4_at 6 30 b_c0 b_z0 u1 5) (fun u3 => Option.bind (f_X4_at 4 16 b_c3 b_z3 p1 0) (fun u5 => if u5 = 1 then (some 10) else (if u5 = 2 then (some (5 + u3)) else (if u5 = 3 then (some (5 + u3)) else (if u5 = 4 then (some 10) else (if u5 = 5 then (some ((5 + u3) - 2)) else (some 6))))))))
set_option maxHeartbeats 4000000 in
set_option maxRecDepth 100000 in
theorem c_X1_truthOf (l : Launch) (D : va_G) (k : Nat → ClassId) (b_a : Nat → Nat) (b_c0 : Nat → Int32) (b_z0 : Int32) (b_c1 : Nat → Int32) (b_z1 : Int32) (b_c2 : Nat → Int32) (b_z2 : Int32) (b_c3 : Nat → Int32) (b_z3 : Int32) (b_c4 : Nat → Int32) (b_z4 : Int32) (b_sg : Int32) (p1 : Int32) (y : Int32) (hf : f_X1_truthOf b_c0 b_z0 b_c3 b_z3 p1 = some y) : cx_M l yX1_truthOf cX1_truthOf 3 (some .int) 2 D k [.ref (b_a 0), .int p1] (wd_Box k b_a b_c0 b_z0 b_c1 b_z1 b_c2 b_z2 b_c3 b_z3 b_c4 b_z4 b_sg) (fun sz => cx_Qi D y (wd_Box k b_a b_c0 b_z0 b_c1 b_z1 b_c2 b_z2 b_c3 b_z3 b_c4 b_z4 b_sg) (wd_Box k b_a b_c0 b_z0 b_c1 b_z1 b_c2 b_z2 b_c3 b_z3 b_c4 b_z4 b_sg) sz) := by
  refine cx_met (own := "NamelessBox$Box") (by decide) rfl (Nat.le_of_ble_eq_true rfl) ?_
  intro p e s m args below meth c A Q C hA hQ hr hlk
  refine cx_lv (lv' := [(0, .ref (b_a 0)), (1, .int p1)]) [0, 1] rfl ?_
  unfold f_X1_truthOf at hf
  refine cx_iconst (v := 5) C dX1_truthOf_0 (by decide) ?_
  refine cx_aload_n C dX1_truthOf_1 0 rfl ?_
  refine cx_get (v := .ref (b_a 1)) (ci := 1) C iX1 dX1_truthOf_2 0 rfl rfl 0 (by decide) hw_60 rfl ?_
  refine cx_aload_n C dX1_truthOf_5 0 rfl ?_
  refine cx_get (v := .ref (b_a 7)) (ci := 1) C iX1 dX1_truthOf_6 0 rfl rfl 3 (by decide) hw_71 rfl ?_
  refine cx_iload_n C dX1_truthOf_9 1 rfl ?_
  refine cx_iconst (v := 2) C dX1_truthOf_10 (by decide) ?_
  obtain ⟨u1, e2, hf⟩ := cx_bd_at hf
  refine cx_Kvi (q := (RX4, TX4, 4)) (As := [.int p1, .int 2]) (rest := [.ref (b_a 1), .int 5]) hA C me_X4_at hw_377 (c_X4_at l D k (b_a 7) (b_a 8) 4 4 16 b_c3 b_z3 p1 2 u1 e2) dX1_truthOf_11 ⟨Nat.le_of_ble_eq_true rfl, Nat.le_of_ble_eq_true rfl⟩ ⟨Nat.zero_le _, Nat.zero_le _⟩ rfl rfl (Nat.le_of_ble_eq_true rfl) rfl rfl [7, 8] rfl (by decide) ?_
  clear e2
  refine cx_iconst (v := 5) C dX1_truthOf_14 (by decide) ?_
  obtain ⟨u3, e4, hf⟩ := cx_bd_at hf
  refine cx_Kvi (q := (RX4, TX4, 4)) (As := [.int u1, .int 5]) (rest := [.int 5]) hA C me_X4_at hw_377 (c_X4_at l D k (b_a 1) (b_a 2) 6 5 30 b_c0 b_z0 u1 5 u3 e4) dX1_truthOf_15 ⟨Nat.le_of_ble_eq_true rfl, Nat.le_of_ble_eq_true rfl⟩ ⟨Nat.zero_le _, Nat.zero_le _⟩ rfl rfl (Nat.le_of_ble_eq_true rfl) rfl rfl [1, 2] rfl (by decide) ?_
  clear e4
  refine cx_iadd C dX1_truthOf_18 ?_
  refine cx_istore_n (lv' := [(2, .int (5 + u3)), (0, .ref (b_a 0)), (1, .int p1)]) C dX1_truthOf_19 rfl (by decide) rfl ?_
  refine cx_aload_n C dX1_truthOf_20 1 rfl ?_
  refine cx_get (v := .ref (b_a 7)) (ci := 1) C iX1 dX1_truthOf_21 0 rfl rfl 3 (by decide) hw_71 rfl ?_
  refine cx_iload_n C dX1_truthOf_24 2 rfl ?_
  refine cx_iconst (v := 0) C dX1_truthOf_25 (by decide) ?_
  obtain ⟨u5, e6, hf⟩ := cx_bd_at hf
  refine cx_Kvi (q := (RX4, TX4, 4)) (As := [.int p1, .int 0]) (rest := []) hA C me_X4_at hw_377 (c_X4_at l D k (b_a 7) (b_a 8) 4 4 16 b_c3 b_z3 p1 0 u5 e6) dX1_truthOf_26 ⟨Nat.le_of_ble_eq_true rfl, Nat.le_of_ble_eq_true rfl⟩ ⟨Nat.zero_le _, Nat.zero_le _⟩ rfl rfl (Nat.le_of_ble_eq_true rfl) rfl rfl [7, 8] rfl (by decide) ?_
  clear e6
  by_cases c7_0 : u5 = 1
  · have hf := cx_if_t hf c7_0
    refine cx_tabIn (off := 35) (tgt := 64) C dX1_truthOf_29 (by rw [c7_0]; decide) (by rw [c7_0]; decide) (by rw [c7_0]; decide) (by decide) ?_
    clear c7_0
    refine cx_bipush (v := 10) C dX1_truthOf_64 (by decide) ?_
    obtain rfl := Option.some.inj hf
    exact cx_iret C hA hQ hr hlk dX1_truthOf_66 rfl rfl
  · have hf := cx_if_f hf c7_0
    by_cases c7_1 : u5 = 2
    · have hf := cx_if_t hf c7_1
      refine cx_tabIn (off := 38) (tgt := 67) C dX1_truthOf_29 (by rw [c7_1]; decide) (by rw [c7_1]; decide) (by rw [c7_1]; decide) (by decide) ?_
      clear c7_1
      refine cx_iload_n C dX1_truthOf_67 0 rfl ?_
      obtain rfl := Option.some.inj hf
      exact cx_iret C hA hQ hr hlk dX1_truthOf_68 rfl rfl
    · have hf := cx_if_f hf c7_1
      by_cases c7_2 : u5 = 3
      · have hf := cx_if_t hf c7_2
        refine cx_tabIn (off := 38) (tgt := 67) C dX1_truthOf_29 (by rw [c7_2]; decide) (by rw [c7_2]; decide) (by rw [c7_2]; decide) (by decide) ?_
        clear c7_2
        refine cx_iload_n C dX1_truthOf_67 0 rfl ?_
        obtain rfl := Option.some.inj hf
        exact cx_iret C hA hQ hr hlk dX1_truthOf_68 rfl rfl
      · have hf := cx_if_f hf c7_2
        by_cases c7_3 : u5 = 4
        · have hf := cx_if_t hf c7_3
          refine cx_tabIn (off := 35) (tgt := 64) C dX1_truthOf_29 (by rw [c7_3]; decide) (by rw [c7_3]; decide) (by rw [c7_3]; decide) (by decide) ?_
          clear c7_3
          refine cx_bipush (v := 10) C dX1_truthOf_64 (by decide) ?_
          obtain rfl := Option.some.inj hf
          exact cx_iret C hA hQ hr hlk dX1_truthOf_66 rfl rfl
        · have hf := cx_if_f hf c7_3
          by_cases c7_4 : u5 = 5
          · have hf := cx_if_t hf c7_4
            refine cx_tabIn (off := 40) (tgt := 69) C dX1_truthOf_29 (by rw [c7_4]; decide) (by rw [c7_4]; decide) (by rw [c7_4]; decide) (by decide) ?_
            clear c7_4
            refine cx_iload_n C dX1_truthOf_69 0 rfl ?_
            refine cx_iconst (v := 2) C dX1_truthOf_70 (by decide) ?_
            refine cx_isub C dX1_truthOf_71 ?_
            obtain rfl := Option.some.inj hf
            exact cx_iret C hA hQ hr hlk dX1_truthOf_72 rfl rfl
          · have hf := cx_if_f hf c7_4
            refine cx_tabOut (tgt := 73) C dX1_truthOf_29 (by have q0 := lv_neT (a := 1) c7_0 (by decide); have q1 := lv_neT (a := 2) c7_1 (by decide); have q2 := lv_neT (a := 3) c7_2 (by decide); have q3 := lv_neT (a := 4) c7_3 (by decide); have q4 := lv_neT (a := 5) c7_4 (by decide); omega) (by decide) ?_
            refine cx_bipush (v := 6) C dX1_truthOf_73 (by decide) ?_
            obtain rfl := Option.some.inj hf
            exact cx_iret C hA hQ hr hlk dX1_truthOf_75 rfl rfl
theorem dX1_isSo_0 : decode cX1_isSo 0 = .ok (.aload_n 0, 1) := by decide +kernel
theorem dX1_isSo_1 : decode cX1_isSo 1 = .ok (.getfield 26, 3) := by decide +kernel
theorem dX1_isSo_4 : decode cX1_isSo 4 = .ok (.iload_n 1, 1) := by decide +kernel
theorem dX1_isSo_5 : decode cX1_isSo 5 = .ok (.iconst 0, 1) := by decide +kernel
theorem dX1_isSo_6 : decode cX1_isSo 6 = .ok (.invokevirtual 67, 3) := by decide +kernel
theorem dX1_isSo_9 : decode cX1_isSo 9 = .ok (.lookupswitch 70 #[(3, 27), (4, 59)], 27) := by decide +kernel
theorem dX1_isSo_36 : decode cX1_isSo 36 = .ok (.iload_n 2, 1) := by decide +kernel
theorem dX1_isSo_37 : decode cX1_isSo 37 = .ok (.aload_n 0, 1) := by decide +kernel
theorem dX1_isSo_38 : decode cX1_isSo 38 = .ok (.getfield 26, 3) := by decide +kernel
theorem dX1_isSo_41 : decode cX1_isSo 41 = .ok (.iload_n 1, 1) := by decide +kernel
theorem dX1_isSo_42 : decode cX1_isSo 42 = .ok (.iconst 2, 1) := by decide +kernel
theorem dX1_isSo_43 : decode cX1_isSo 43 = .ok (.invokevirtual 67, 3) := by decide +kernel
theorem dX1_isSo_46 : decode cX1_isSo 46 = .ok (.if_icmp .eq 16, 3) := by decide +kernel
theorem dX1_isSo_49 : decode cX1_isSo 49 = .ok (.iload_n 2, 1) := by decide +kernel
theorem dX1_isSo_50 : decode cX1_isSo 50 = .ok (.aload_n 0, 1) := by decide +kernel
theorem dX1_isSo_51 : decode cX1_isSo 51 = .ok (.getfield 26, 3) := by decide +kernel
theorem dX1_isSo_54 : decode cX1_isSo 54 = .ok (.iload_n 1, 1) := by decide +kernel
theorem dX1_isSo_55 : decode cX1_isSo 55 = .ok (.iconst 3, 1) := by decide +kernel
theorem dX1_isSo_56 : decode cX1_isSo 56 = .ok (.invokevirtual 67, 3) := by decide +kernel
theorem dX1_isSo_59 : decode cX1_isSo 59 = .ok (.if_icmp .ne 7, 3) := by decide +kernel
theorem dX1_isSo_62 : decode cX1_isSo 62 = .ok (.iconst 1, 1) := by decide +kernel
theorem dX1_isSo_63 : decode cX1_isSo 63 = .ok (.goto 4, 3) := by decide +kernel
theorem dX1_isSo_66 : decode cX1_isSo 66 = .ok (.iconst 0, 1) := by decide +kernel
theorem dX1_isSo_67 : decode cX1_isSo 67 = .ok (.ireturn, 1) := by decide +kernel
theorem dX1_isSo_68 : decode cX1_isSo 68 = .ok (.iload_n 2, 1) := by decide +kernel
theorem dX1_isSo_69 : decode cX1_isSo 69 = .ok (.iconst 5, 1) := by decide +kernel
theorem dX1_isSo_70 : decode cX1_isSo 70 = .ok (.if_icmp .ne 7, 3) := by decide +kernel
theorem dX1_isSo_73 : decode cX1_isSo 73 = .ok (.iconst 1, 1) := by decide +kernel
theorem dX1_isSo_74 : decode cX1_isSo 74 = .ok (.goto 4, 3) := by decide +kernel
theorem dX1_isSo_77 : decode cX1_isSo 77 = .ok (.iconst 0, 1) := by decide +kernel
theorem dX1_isSo_78 : decode cX1_isSo 78 = .ok (.ireturn, 1) := by decide +kernel
theorem dX1_isSo_79 : decode cX1_isSo 79 = .ok (.iload_n 2, 1) := by decide +kernel
theorem dX1_isSo_80 : decode cX1_isSo 80 = .ok (.aload_n 0, 1) := by decide +kernel
theorem dX1_isSo_81 : decode cX1_isSo 81 = .ok (.getfield 26, 3) := by decide +kernel
theorem dX1_isSo_84 : decode cX1_isSo 84 = .ok (.iload_n 1, 1) := by decide +kernel
theorem dX1_isSo_85 : decode cX1_isSo 85 = .ok (.iconst 2, 1) := by decide +kernel
theorem dX1_isSo_86 : decode cX1_isSo 86 = .ok (.invokevirtual 67, 3) := by decide +kernel
theorem dX1_isSo_89 : decode cX1_isSo 89 = .ok (.if_icmp .ne 7, 3) := by decide +kernel
theorem dX1_isSo_92 : decode cX1_isSo 92 = .ok (.iconst 1, 1) := by decide +kernel
theorem dX1_isSo_93 : decode cX1_isSo 93 = .ok (.goto 4, 3) := by decide +kernel
theorem dX1_isSo_96 : decode cX1_isSo 96 = .ok (.iconst 0, 1) := by decide +kernel
theorem dX1_isSo_97 : decode cX1_isSo 97 = .ok (.ireturn, 1) := by decide +kernel
theorem me_X1_isSo : cx_Mv yX1_isSo cX1_isSo 3 (some .boolean) 2 := ⟨⟨⟨by decide +kernel, by decide +kernel, by decide +kernel⟩, hw_2, hw_667⟩, hw_665, hw_666⟩
noncomputable def f_X1_isSo_J62  : Option Int32 := some 1
noncomputable def f_X1_isSo (b_c3 : Nat → Int32) (b_z3 : Int32) (p1 : Int32) (p2 : Int32) : Option Int32 := Option.bind (f_X4_at 4 16 b_c3 b_z3 p1 0) (fun u1 => if u1 = 3 then (Option.bind (f_X4_at 4 16 b_c3 b_z3 p1 2) (fun u8 => if p2 = u8 then (f_X1_isSo_J62) else (Option.bind (f_X4_at 4 16 b_c3 b_z3 p1 3) (fun u11 => if p2 = u11 then (f_X1_isSo_J62) else (some 0))))) else (if u1 = 4 then (if p2 = 5 then (some 1) else (some 0)) else (Option.bind (f_X4_at 4 16 b_c3 b_z3 p1 2) (fun u4 => if p2 = u4 then (some 1) else (some 0)))))
set_option maxHeartbeats 4000000 in
set_option maxRecDepth 100000 in
theorem c_X1_isSo (l : Launch) (D : va_G) (k : Nat → ClassId) (b_a : Nat → Nat) (b_c0 : Nat → Int32) (b_z0 : Int32) (b_c1 : Nat → Int32) (b_z1 : Int32) (b_c2 : Nat → Int32) (b_z2 : Int32) (b_c3 : Nat → Int32) (b_z3 : Int32) (b_c4 : Nat → Int32) (b_z4 : Int32) (b_sg : Int32) (p1 : Int32) (p2 : Int32) (y : Int32) (hf : f_X1_isSo b_c3 b_z3 p1 p2 = some y) : cx_M l yX1_isSo cX1_isSo 3 (some .boolean) 2 D k [.ref (b_a 0), .int p1, .int p2] (wd_Box k b_a b_c0 b_z0 b_c1 b_z1 b_c2 b_z2 b_c3 b_z3 b_c4 b_z4 b_sg) (fun sz => cx_Qi D y (wd_Box k b_a b_c0 b_z0 b_c1 b_z1 b_c2 b_z2 b_c3 b_z3 b_c4 b_z4 b_sg) (wd_Box k b_a b_c0 b_z0 b_c1 b_z1 b_c2 b_z2 b_c3 b_z3 b_c4 b_z4 b_sg) sz) := by
  refine cx_met (own := "NamelessBox$Box") (by decide) rfl (Nat.le_of_ble_eq_true rfl) ?_
  intro p e s m args below meth c A Q C hA hQ hr hlk
  refine cx_lv (lv' := [(0, .ref (b_a 0)), (1, .int p1), (2, .int p2)]) [0, 1, 2] rfl ?_
  have J62 : f_X1_isSo_J62 = some y → cx_S p l e (cx_rm 2) s m args below meth c A D 3 0 0 Q 62 [] [] (wd_Box k b_a b_c0 b_z0 b_c1 b_z1 b_c2 b_z2 b_c3 b_z3 b_c4 b_z4 b_sg) := by
    intro  hf
    unfold f_X1_isSo_J62 at hf
    refine cx_iconst (v := 1) C dX1_isSo_62 (by decide) ?_
    refine cx_goto (tgt := 67) C dX1_isSo_63 (by decide) ?_
    obtain rfl := Option.some.inj hf
    exact cx_zret C hA hQ hr hlk dX1_isSo_67 rfl rfl rfl
  unfold f_X1_isSo at hf
  refine cx_aload_n C dX1_isSo_0 0 rfl ?_
  refine cx_get (v := .ref (b_a 7)) (ci := 1) C iX1 dX1_isSo_1 0 rfl rfl 3 (by decide) hw_71 rfl ?_
  refine cx_iload_n C dX1_isSo_4 1 rfl ?_
  refine cx_iconst (v := 0) C dX1_isSo_5 (by decide) ?_
  obtain ⟨u1, e2, hf⟩ := cx_bd_at hf
  refine cx_Kvi (q := (RX4, TX4, 4)) (As := [.int p1, .int 0]) (rest := []) hA C me_X4_at hw_377 (c_X4_at l D k (b_a 7) (b_a 8) 4 4 16 b_c3 b_z3 p1 0 u1 e2) dX1_isSo_6 ⟨Nat.le_of_ble_eq_true rfl, Nat.le_of_ble_eq_true rfl⟩ ⟨Nat.zero_le _, Nat.zero_le _⟩ rfl rfl (Nat.le_of_ble_eq_true rfl) rfl rfl [7, 8] rfl (by decide) ?_
  clear e2
  by_cases c3_0 : u1 = 3
  · have hf := cx_if_t hf c3_0
    refine cx_look (off := 27) (tgt := 36) C dX1_isSo_9 (by decide) (by rw [c3_0]; decide) (by decide) ?_
    clear c3_0
    refine cx_iload_n C dX1_isSo_36 2 rfl ?_
    refine cx_aload_n C dX1_isSo_37 0 rfl ?_
    refine cx_get (v := .ref (b_a 7)) (ci := 1) C iX1 dX1_isSo_38 0 rfl rfl 3 (by decide) hw_71 rfl ?_
    refine cx_iload_n C dX1_isSo_41 1 rfl ?_
    refine cx_iconst (v := 2) C dX1_isSo_42 (by decide) ?_
    obtain ⟨u8, e9, hf⟩ := cx_bd_at hf
    refine cx_Kvi (q := (RX4, TX4, 4)) (As := [.int p1, .int 2]) (rest := [.int p2]) hA C me_X4_at hw_377 (c_X4_at l D k (b_a 7) (b_a 8) 4 4 16 b_c3 b_z3 p1 2 u8 e9) dX1_isSo_43 ⟨Nat.le_of_ble_eq_true rfl, Nat.le_of_ble_eq_true rfl⟩ ⟨Nat.zero_le _, Nat.zero_le _⟩ rfl rfl (Nat.le_of_ble_eq_true rfl) rfl rfl [7, 8] rfl (by decide) ?_
    clear e9
    refine cx_icmp_eq (tgt := 62) C dX1_isSo_46 (by decide) (fun c10 => ?_) (fun c10 => ?_)
    · have hf := cx_if_t hf c10
      clear c10
      refine cx_lv [] rfl ?_
      exact J62 hf
    · have hf := cx_if_f hf c10
      clear c10
      refine cx_iload_n C dX1_isSo_49 2 rfl ?_
      refine cx_aload_n C dX1_isSo_50 0 rfl ?_
      refine cx_get (v := .ref (b_a 7)) (ci := 1) C iX1 dX1_isSo_51 0 rfl rfl 3 (by decide) hw_71 rfl ?_
      refine cx_iload_n C dX1_isSo_54 1 rfl ?_
      refine cx_iconst (v := 3) C dX1_isSo_55 (by decide) ?_
      obtain ⟨u11, e12, hf⟩ := cx_bd_at hf
      refine cx_Kvi (q := (RX4, TX4, 4)) (As := [.int p1, .int 3]) (rest := [.int p2]) hA C me_X4_at hw_377 (c_X4_at l D k (b_a 7) (b_a 8) 4 4 16 b_c3 b_z3 p1 3 u11 e12) dX1_isSo_56 ⟨Nat.le_of_ble_eq_true rfl, Nat.le_of_ble_eq_true rfl⟩ ⟨Nat.zero_le _, Nat.zero_le _⟩ rfl rfl (Nat.le_of_ble_eq_true rfl) rfl rfl [7, 8] rfl (by decide) ?_
      clear e12
      refine cx_icmp_ne (tgt := 66) C dX1_isSo_59 (by decide) (fun c13 => ?_) (fun c13 => ?_)
      · have hf := cx_if_f hf c13
        clear c13
        refine cx_iconst (v := 0) C dX1_isSo_66 (by decide) ?_
        obtain rfl := Option.some.inj hf
        exact cx_zret C hA hQ hr hlk dX1_isSo_67 rfl rfl rfl
      · have hf := cx_if_t hf c13
        clear c13
        refine cx_lv [] rfl ?_
        exact J62 hf
  · have hf := cx_if_f hf c3_0
    by_cases c3_1 : u1 = 4
    · have hf := cx_if_t hf c3_1
      refine cx_look (off := 59) (tgt := 68) C dX1_isSo_9 (by decide) (by rw [c3_1]; decide) (by decide) ?_
      clear c3_1
      refine cx_iload_n C dX1_isSo_68 2 rfl ?_
      refine cx_iconst (v := 5) C dX1_isSo_69 (by decide) ?_
      refine cx_icmp_ne (tgt := 77) C dX1_isSo_70 (by decide) (fun c7 => ?_) (fun c7 => ?_)
      · have hf := cx_if_f hf c7
        clear c7
        refine cx_iconst (v := 0) C dX1_isSo_77 (by decide) ?_
        obtain rfl := Option.some.inj hf
        exact cx_zret C hA hQ hr hlk dX1_isSo_78 rfl rfl rfl
      · have hf := cx_if_t hf c7
        clear c7
        refine cx_iconst (v := 1) C dX1_isSo_73 (by decide) ?_
        refine cx_goto (tgt := 78) C dX1_isSo_74 (by decide) ?_
        obtain rfl := Option.some.inj hf
        exact cx_zret C hA hQ hr hlk dX1_isSo_78 rfl rfl rfl
    · have hf := cx_if_f hf c3_1
      refine cx_look (off := 70) (tgt := 79) C dX1_isSo_9 (by decide) (by rw [lv_osw c3_0 (by decide)]; rw [lv_osw c3_1 (by decide)]; rfl) (by decide) ?_
      refine cx_iload_n C dX1_isSo_79 2 rfl ?_
      refine cx_aload_n C dX1_isSo_80 0 rfl ?_
      refine cx_get (v := .ref (b_a 7)) (ci := 1) C iX1 dX1_isSo_81 0 rfl rfl 3 (by decide) hw_71 rfl ?_
      refine cx_iload_n C dX1_isSo_84 1 rfl ?_
      refine cx_iconst (v := 2) C dX1_isSo_85 (by decide) ?_
      obtain ⟨u4, e5, hf⟩ := cx_bd_at hf
      refine cx_Kvi (q := (RX4, TX4, 4)) (As := [.int p1, .int 2]) (rest := [.int p2]) hA C me_X4_at hw_377 (c_X4_at l D k (b_a 7) (b_a 8) 4 4 16 b_c3 b_z3 p1 2 u4 e5) dX1_isSo_86 ⟨Nat.le_of_ble_eq_true rfl, Nat.le_of_ble_eq_true rfl⟩ ⟨Nat.zero_le _, Nat.zero_le _⟩ rfl rfl (Nat.le_of_ble_eq_true rfl) rfl rfl [7, 8] rfl (by decide) ?_
      clear e5
      refine cx_icmp_ne (tgt := 96) C dX1_isSo_89 (by decide) (fun c6 => ?_) (fun c6 => ?_)
      · have hf := cx_if_f hf c6
        clear c6
        refine cx_iconst (v := 0) C dX1_isSo_96 (by decide) ?_
        obtain rfl := Option.some.inj hf
        exact cx_zret C hA hQ hr hlk dX1_isSo_97 rfl rfl rfl
      · have hf := cx_if_t hf c6
        clear c6
        refine cx_iconst (v := 1) C dX1_isSo_92 (by decide) ?_
        refine cx_goto (tgt := 97) C dX1_isSo_93 (by decide) ?_
        obtain rfl := Option.some.inj hf
        exact cx_zret C hA hQ hr hlk dX1_isSo_97 rfl rfl rfl
theorem dX1_auntTruth_0 : decode cX1_auntTruth 0 = .ok (.iload_n 1, 1) := by decide +kernel
theorem dX1_auntTruth_1 : decode cX1_auntTruth 1 = .ok (.iconst 5, 1) := by decide +kernel
theorem dX1_auntTruth_2 : decode cX1_auntTruth 2 = .ok (.if_icmp .ne 8, 3) := by decide +kernel
theorem dX1_auntTruth_5 : decode cX1_auntTruth 5 = .ok (.bipush 6, 2) := by decide +kernel
theorem dX1_auntTruth_7 : decode cX1_auntTruth 7 = .ok (.goto 14, 3) := by decide +kernel
theorem dX1_auntTruth_10 : decode cX1_auntTruth 10 = .ok (.iconst 5, 1) := by decide +kernel
theorem dX1_auntTruth_11 : decode cX1_auntTruth 11 = .ok (.aload_n 0, 1) := by decide +kernel
theorem dX1_auntTruth_12 : decode cX1_auntTruth 12 = .ok (.getfield 14, 3) := by decide +kernel
theorem dX1_auntTruth_15 : decode cX1_auntTruth 15 = .ok (.iload_n 1, 1) := by decide +kernel
theorem dX1_auntTruth_16 : decode cX1_auntTruth 16 = .ok (.iconst 5, 1) := by decide +kernel
theorem dX1_auntTruth_17 : decode cX1_auntTruth 17 = .ok (.invokevirtual 67, 3) := by decide +kernel
theorem dX1_auntTruth_20 : decode cX1_auntTruth 20 = .ok (.iadd, 1) := by decide +kernel
theorem dX1_auntTruth_21 : decode cX1_auntTruth 21 = .ok (.ireturn, 1) := by decide +kernel
theorem me_X1_auntTruth : cx_Mv yX1_auntTruth cX1_auntTruth 2 (some .int) 1 := ⟨⟨⟨by decide +kernel, by decide +kernel, by decide +kernel⟩, hw_2, hw_959⟩, hw_957, hw_958⟩
noncomputable def f_X1_auntTruth (b_c0 : Nat → Int32) (b_z0 : Int32) (p1 : Int32) : Option Int32 := if p1 = 5 then (some 6) else (Option.bind (f_X4_at 6 30 b_c0 b_z0 p1 5) (fun u2 => some (5 + u2)))
set_option maxHeartbeats 4000000 in
set_option maxRecDepth 100000 in
theorem c_X1_auntTruth (l : Launch) (D : va_G) (k : Nat → ClassId) (b_a : Nat → Nat) (b_c0 : Nat → Int32) (b_z0 : Int32) (b_c1 : Nat → Int32) (b_z1 : Int32) (b_c2 : Nat → Int32) (b_z2 : Int32) (b_c3 : Nat → Int32) (b_z3 : Int32) (b_c4 : Nat → Int32) (b_z4 : Int32) (b_sg : Int32) (p1 : Int32) (y : Int32) (hf : f_X1_auntTruth b_c0 b_z0 p1 = some y) : cx_M l yX1_auntTruth cX1_auntTruth 2 (some .int) 2 D k [.ref (b_a 0), .int p1] (wd_Box k b_a b_c0 b_z0 b_c1 b_z1 b_c2 b_z2 b_c3 b_z3 b_c4 b_z4 b_sg) (fun sz => cx_Qi D y (wd_Box k b_a b_c0 b_z0 b_c1 b_z1 b_c2 b_z2 b_c3 b_z3 b_c4 b_z4 b_sg) (wd_Box k b_a b_c0 b_z0 b_c1 b_z1 b_c2 b_z2 b_c3 b_z3 b_c4 b_z4 b_sg) sz) := by
  refine cx_met (own := "NamelessBox$Box") (by decide) rfl (Nat.le_of_ble_eq_true rfl) ?_
  intro p e s m args below meth c A Q C hA hQ hr hlk
  refine cx_lv (lv' := [(0, .ref (b_a 0)), (1, .int p1)]) [0, 1] rfl ?_
  unfold f_X1_auntTruth at hf
  refine cx_iload_n C dX1_auntTruth_0 1 rfl ?_
  refine cx_iconst (v := 5) C dX1_auntTruth_1 (by decide) ?_
  refine cx_icmp_ne (tgt := 10) C dX1_auntTruth_2 (by decide) (fun c1 => ?_) (fun c1 => ?_)
  · have hf := cx_if_f hf c1
    clear c1
    refine cx_iconst (v := 5) C dX1_auntTruth_10 (by decide) ?_
    refine cx_aload_n C dX1_auntTruth_11 0 rfl ?_
    refine cx_get (v := .ref (b_a 1)) (ci := 1) C iX1 dX1_auntTruth_12 0 rfl rfl 0 (by decide) hw_60 rfl ?_
    refine cx_iload_n C dX1_auntTruth_15 1 rfl ?_
    refine cx_iconst (v := 5) C dX1_auntTruth_16 (by decide) ?_
    obtain ⟨u2, e3, hf⟩ := cx_bd_at hf
    refine cx_Kvi (q := (RX4, TX4, 4)) (As := [.int p1, .int 5]) (rest := [.int 5]) hA C me_X4_at hw_377 (c_X4_at l D k (b_a 1) (b_a 2) 6 5 30 b_c0 b_z0 p1 5 u2 e3) dX1_auntTruth_17 ⟨Nat.le_of_ble_eq_true rfl, Nat.le_of_ble_eq_true rfl⟩ ⟨Nat.zero_le _, Nat.zero_le _⟩ rfl rfl (Nat.le_of_ble_eq_true rfl) rfl rfl [1, 2] rfl (by decide) ?_
    clear e3
    refine cx_iadd C dX1_auntTruth_20 ?_
    obtain rfl := Option.some.inj hf
    exact cx_iret C hA hQ hr hlk dX1_auntTruth_21 rfl rfl
  · have hf := cx_if_t hf c1
    clear c1
    refine cx_bipush (v := 6) C dX1_auntTruth_5 (by decide) ?_
    refine cx_goto (tgt := 21) C dX1_auntTruth_7 (by decide) ?_
    obtain rfl := Option.some.inj hf
    exact cx_iret C hA hQ hr hlk dX1_auntTruth_21 rfl rfl
theorem dX1_mixInto_0 : decode cX1_mixInto 0 = .ok (.aload_n 0, 1) := by decide +kernel
theorem dX1_mixInto_1 : decode cX1_mixInto 1 = .ok (.getfield 14, 3) := by decide +kernel
theorem dX1_mixInto_4 : decode cX1_mixInto 4 = .ok (.lload_n 1, 1) := by decide +kernel
theorem dX1_mixInto_5 : decode cX1_mixInto 5 = .ok (.invokevirtual 74, 3) := by decide +kernel
theorem dX1_mixInto_8 : decode cX1_mixInto 8 = .ok (.lstore_n 3, 1) := by decide +kernel
theorem dX1_mixInto_9 : decode cX1_mixInto 9 = .ok (.aload_n 0, 1) := by decide +kernel
theorem dX1_mixInto_10 : decode cX1_mixInto 10 = .ok (.getfield 20, 3) := by decide +kernel
theorem dX1_mixInto_13 : decode cX1_mixInto 13 = .ok (.lload_n 3, 1) := by decide +kernel
theorem dX1_mixInto_14 : decode cX1_mixInto 14 = .ok (.invokevirtual 74, 3) := by decide +kernel
theorem dX1_mixInto_17 : decode cX1_mixInto 17 = .ok (.lstore_n 3, 1) := by decide +kernel
theorem dX1_mixInto_18 : decode cX1_mixInto 18 = .ok (.aload_n 0, 1) := by decide +kernel
theorem dX1_mixInto_19 : decode cX1_mixInto 19 = .ok (.getfield 23, 3) := by decide +kernel
theorem dX1_mixInto_22 : decode cX1_mixInto 22 = .ok (.lload_n 3, 1) := by decide +kernel
theorem dX1_mixInto_23 : decode cX1_mixInto 23 = .ok (.invokevirtual 74, 3) := by decide +kernel
theorem dX1_mixInto_26 : decode cX1_mixInto 26 = .ok (.lstore_n 3, 1) := by decide +kernel
theorem dX1_mixInto_27 : decode cX1_mixInto 27 = .ok (.aload_n 0, 1) := by decide +kernel
theorem dX1_mixInto_28 : decode cX1_mixInto 28 = .ok (.getfield 26, 3) := by decide +kernel
theorem dX1_mixInto_31 : decode cX1_mixInto 31 = .ok (.lload_n 3, 1) := by decide +kernel
theorem dX1_mixInto_32 : decode cX1_mixInto 32 = .ok (.invokevirtual 74, 3) := by decide +kernel
theorem dX1_mixInto_35 : decode cX1_mixInto 35 = .ok (.lstore_n 3, 1) := by decide +kernel
theorem dX1_mixInto_36 : decode cX1_mixInto 36 = .ok (.aload_n 0, 1) := by decide +kernel
theorem dX1_mixInto_37 : decode cX1_mixInto 37 = .ok (.getfield 29, 3) := by decide +kernel
theorem dX1_mixInto_40 : decode cX1_mixInto 40 = .ok (.lload_n 3, 1) := by decide +kernel
theorem dX1_mixInto_41 : decode cX1_mixInto 41 = .ok (.invokevirtual 74, 3) := by decide +kernel
theorem dX1_mixInto_44 : decode cX1_mixInto 44 = .ok (.lstore_n 3, 1) := by decide +kernel
theorem dX1_mixInto_45 : decode cX1_mixInto 45 = .ok (.ldc2_w 78, 3) := by decide +kernel
theorem dX1_mixInto_48 : decode cX1_mixInto 48 = .ok (.lload_n 3, 1) := by decide +kernel
theorem dX1_mixInto_49 : decode cX1_mixInto 49 = .ok (.lmul, 1) := by decide +kernel
theorem dX1_mixInto_50 : decode cX1_mixInto 50 = .ok (.aload_n 0, 1) := by decide +kernel
theorem dX1_mixInto_51 : decode cX1_mixInto 51 = .ok (.getfield 32, 3) := by decide +kernel
theorem dX1_mixInto_54 : decode cX1_mixInto 54 = .ok (.i2l, 1) := by decide +kernel
theorem dX1_mixInto_55 : decode cX1_mixInto 55 = .ok (.ladd, 1) := by decide +kernel
theorem dX1_mixInto_56 : decode cX1_mixInto 56 = .ok (.lreturn, 1) := by decide +kernel
theorem me_X1_mixInto : cx_Mv yX1_mixInto cX1_mixInto 5 (some .long) 1 := ⟨⟨⟨by decide +kernel, by decide +kernel, by decide +kernel⟩, hw_2, hw_1027⟩, hw_1025, hw_1026⟩
noncomputable def f_X1_mixInto (b_c0 : Nat → Int32) (b_z0 : Int32) (b_c1 : Nat → Int32) (b_z1 : Int32) (b_c2 : Nat → Int32) (b_z2 : Int32) (b_c3 : Nat → Int32) (b_z3 : Int32) (b_c4 : Nat → Int32) (b_z4 : Int32) (b_sg : Int32) (p1 : Int64) : Option Int64 := Option.bind (f_X4_mixInto 6 30 b_c0 b_z0 p1) (fun u1 => Option.bind (f_X4_mixInto 2 8 b_c1 b_z1 u1) (fun u3 => Option.bind (f_X4_mixInto 5 30 b_c2 b_z2 u3) (fun u5 => Option.bind (f_X4_mixInto 4 16 b_c3 b_z3 u5) (fun u7 => Option.bind (f_X4_mixInto 3 12 b_c4 b_z4 u7) (fun u9 => some ((31 * u9) + (Int32.toInt64 b_sg)))))))
set_option maxHeartbeats 4000000 in
set_option maxRecDepth 100000 in
theorem c_X1_mixInto (l : Launch) (D : va_G) (k : Nat → ClassId) (b_a : Nat → Nat) (b_c0 : Nat → Int32) (b_z0 : Int32) (b_c1 : Nat → Int32) (b_z1 : Int32) (b_c2 : Nat → Int32) (b_z2 : Int32) (b_c3 : Nat → Int32) (b_z3 : Int32) (b_c4 : Nat → Int32) (b_z4 : Int32) (b_sg : Int32) (p1 : Int64) (y : Int64) (hf : f_X1_mixInto b_c0 b_z0 b_c1 b_z1 b_c2 b_z2 b_c3 b_z3 b_c4 b_z4 b_sg p1 = some y) : cx_M l yX1_mixInto cX1_mixInto 5 (some .long) 2 D k [.ref (b_a 0), .long p1] (wd_Box k b_a b_c0 b_z0 b_c1 b_z1 b_c2 b_z2 b_c3 b_z3 b_c4 b_z4 b_sg) (fun sz => cx_Ql D y (wd_Box k b_a b_c0 b_z0 b_c1 b_z1 b_c2 b_z2 b_c3 b_z3 b_c4 b_z4 b_sg) (wd_Box k b_a b_c0 b_z0 b_c1 b_z1 b_c2 b_z2 b_c3 b_z3 b_c4 b_z4 b_sg) sz) := by
  refine cx_met (own := "NamelessBox$Box") (by decide) rfl (Nat.le_of_ble_eq_true rfl) ?_
  intro p e s m args below meth c A Q C hA hQ hr hlk
  refine cx_lv (lv' := [(0, .ref (b_a 0)), (1, .long p1)]) [0, 1] rfl ?_
  unfold f_X1_mixInto at hf
  refine cx_aload_n C dX1_mixInto_0 0 rfl ?_
  refine cx_get (v := .ref (b_a 1)) (ci := 1) C iX1 dX1_mixInto_1 0 rfl rfl 0 (by decide) hw_60 rfl ?_
  refine cx_lload_n C dX1_mixInto_4 1 rfl ?_
  obtain ⟨u1, e2, hf⟩ := cx_bd_at hf
  refine cx_Kvl (q := (RX4, TX4, 4)) (As := [.long p1]) (rest := []) hA C me_X4_mixInto hw_1028 (c_X4_mixInto l D k (b_a 1) (b_a 2) 6 5 30 b_c0 b_z0 p1 u1 e2) dX1_mixInto_5 ⟨Nat.le_of_ble_eq_true rfl, Nat.le_of_ble_eq_true rfl⟩ ⟨Nat.zero_le _, Nat.zero_le _⟩ rfl rfl (Nat.le_of_ble_eq_true rfl) rfl rfl [1, 2] rfl (by decide) ?_
  clear e2
  refine cx_lstore_n (lv' := [(3, .long u1), (0, .ref (b_a 0)), (1, .long p1)]) C dX1_mixInto_8 rfl (by decide) rfl ?_
  refine cx_aload_n C dX1_mixInto_9 1 rfl ?_
  refine cx_get (v := .ref (b_a 3)) (ci := 1) C iX1 dX1_mixInto_10 0 rfl rfl 1 (by decide) hw_64 rfl ?_
  refine cx_lload_n C dX1_mixInto_13 0 rfl ?_
  obtain ⟨u3, e4, hf⟩ := cx_bd_at hf
  refine cx_Kvl (q := (RX4, TX4, 4)) (As := [.long u1]) (rest := []) hA C me_X4_mixInto hw_1028 (c_X4_mixInto l D k (b_a 3) (b_a 4) 2 4 8 b_c1 b_z1 u1 u3 e4) dX1_mixInto_14 ⟨Nat.le_of_ble_eq_true rfl, Nat.le_of_ble_eq_true rfl⟩ ⟨Nat.zero_le _, Nat.zero_le _⟩ rfl rfl (Nat.le_of_ble_eq_true rfl) rfl rfl [3, 4] rfl (by decide) ?_
  clear e4
  refine cx_lstore_n (lv' := [(3, .long u3), (0, .ref (b_a 0)), (1, .long p1)]) C dX1_mixInto_17 rfl (by decide) rfl ?_
  refine cx_aload_n C dX1_mixInto_18 1 rfl ?_
  refine cx_get (v := .ref (b_a 5)) (ci := 1) C iX1 dX1_mixInto_19 0 rfl rfl 2 (by decide) hw_67 rfl ?_
  refine cx_lload_n C dX1_mixInto_22 0 rfl ?_
  obtain ⟨u5, e6, hf⟩ := cx_bd_at hf
  refine cx_Kvl (q := (RX4, TX4, 4)) (As := [.long u3]) (rest := []) hA C me_X4_mixInto hw_1028 (c_X4_mixInto l D k (b_a 5) (b_a 6) 5 6 30 b_c2 b_z2 u3 u5 e6) dX1_mixInto_23 ⟨Nat.le_of_ble_eq_true rfl, Nat.le_of_ble_eq_true rfl⟩ ⟨Nat.zero_le _, Nat.zero_le _⟩ rfl rfl (Nat.le_of_ble_eq_true rfl) rfl rfl [5, 6] rfl (by decide) ?_
  clear e6
  refine cx_lstore_n (lv' := [(3, .long u5), (0, .ref (b_a 0)), (1, .long p1)]) C dX1_mixInto_26 rfl (by decide) rfl ?_
  refine cx_aload_n C dX1_mixInto_27 1 rfl ?_
  refine cx_get (v := .ref (b_a 7)) (ci := 1) C iX1 dX1_mixInto_28 0 rfl rfl 3 (by decide) hw_71 rfl ?_
  refine cx_lload_n C dX1_mixInto_31 0 rfl ?_
  obtain ⟨u7, e8, hf⟩ := cx_bd_at hf
  refine cx_Kvl (q := (RX4, TX4, 4)) (As := [.long u5]) (rest := []) hA C me_X4_mixInto hw_1028 (c_X4_mixInto l D k (b_a 7) (b_a 8) 4 4 16 b_c3 b_z3 u5 u7 e8) dX1_mixInto_32 ⟨Nat.le_of_ble_eq_true rfl, Nat.le_of_ble_eq_true rfl⟩ ⟨Nat.zero_le _, Nat.zero_le _⟩ rfl rfl (Nat.le_of_ble_eq_true rfl) rfl rfl [7, 8] rfl (by decide) ?_
  clear e8
  refine cx_lstore_n (lv' := [(3, .long u7), (0, .ref (b_a 0)), (1, .long p1)]) C dX1_mixInto_35 rfl (by decide) rfl ?_
  refine cx_aload_n C dX1_mixInto_36 1 rfl ?_
  refine cx_get (v := .ref (b_a 9)) (ci := 1) C iX1 dX1_mixInto_37 0 rfl rfl 4 (by decide) hw_74 rfl ?_
  refine cx_lload_n C dX1_mixInto_40 0 rfl ?_
  obtain ⟨u9, e10, hf⟩ := cx_bd_at hf
  refine cx_Kvl (q := (RX4, TX4, 4)) (As := [.long u7]) (rest := []) hA C me_X4_mixInto hw_1028 (c_X4_mixInto l D k (b_a 9) (b_a 10) 3 4 12 b_c4 b_z4 u7 u9 e10) dX1_mixInto_41 ⟨Nat.le_of_ble_eq_true rfl, Nat.le_of_ble_eq_true rfl⟩ ⟨Nat.zero_le _, Nat.zero_le _⟩ rfl rfl (Nat.le_of_ble_eq_true rfl) rfl rfl [9, 10] rfl (by decide) ?_
  clear e10
  refine cx_lstore_n (lv' := [(3, .long u9), (0, .ref (b_a 0)), (1, .long p1)]) C dX1_mixInto_44 rfl (by decide) rfl ?_
  refine cx_ldc2 (v := 31) C dX1_mixInto_45 hw_1033 ?_
  refine cx_lload_n C dX1_mixInto_48 0 rfl ?_
  refine cx_lmul C dX1_mixInto_49 ?_
  refine cx_aload_n C dX1_mixInto_50 1 rfl ?_
  refine cx_get (v := .int b_sg) (ci := 1) C iX1 dX1_mixInto_51 0 rfl rfl 5 (by decide) hw_77 rfl ?_
  refine cx_i2l C dX1_mixInto_54 ?_
  refine cx_ladd C dX1_mixInto_55 ?_
  obtain rfl := Option.some.inj hf
  exact cx_lret C hA hQ hr hlk dX1_mixInto_56 rfl rfl
