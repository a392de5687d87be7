theorem dX3_zero_0 : decode cX3_zero 0 = .ok (.iconst 0, 1) := by decide +kernel
theorem dX3_zero_1 : decode cX3_zero 1 = .ok (.istore_n 2, 1) := by decide +kernel
theorem dX3_zero_2 : decode cX3_zero 2 = .ok (.iload_n 2, 1) := by decide +kernel
theorem dX3_zero_3 : decode cX3_zero 3 = .ok (.iconst 4, 1) := by decide +kernel
theorem dX3_zero_4 : decode cX3_zero 4 = .ok (.if_icmp .ge 17, 3) := by decide +kernel
theorem dX3_zero_7 : decode cX3_zero 7 = .ok (.aload_n 0, 1) := by decide +kernel
theorem dX3_zero_8 : decode cX3_zero 8 = .ok (.iload_n 1, 1) := by decide +kernel
theorem dX3_zero_9 : decode cX3_zero 9 = .ok (.iconst 4, 1) := by decide +kernel
theorem dX3_zero_10 : decode cX3_zero 10 = .ok (.imul, 1) := by decide +kernel
theorem dX3_zero_11 : decode cX3_zero 11 = .ok (.iload_n 2, 1) := by decide +kernel
theorem dX3_zero_12 : decode cX3_zero 12 = .ok (.iadd, 1) := by decide +kernel
theorem dX3_zero_13 : decode cX3_zero 13 = .ok (.lconst 0, 1) := by decide +kernel
theorem dX3_zero_14 : decode cX3_zero 14 = .ok (.lastore, 1) := by decide +kernel
theorem dX3_zero_15 : decode cX3_zero 15 = .ok (.iinc 2 1, 3) := by decide +kernel
theorem dX3_zero_18 : decode cX3_zero 18 = .ok (.goto (-16), 3) := by decide +kernel
theorem dX3_zero_21 : decode cX3_zero 21 = .ok (.return_, 1) := by decide +kernel
theorem me_X3_zero : cx_Ms yX3_zero cX3_zero 3 none 2 := ⟨⟨⟨by decide +kernel, by decide +kernel, by decide +kernel⟩, hw_17, hw_642⟩, hw_641⟩
noncomputable def f_X3_zero_L2 (e0_n : Nat) (p1 : Int32) (rc2 : (Nat → Int64) → Int32 → Option (Nat → Int64)) (a_1 : Nat → Int64) (x2_2 : Int32) : Option (Nat → Int64) := if 4 ≤ x2_2 then (some a_1) else (cx_gd (cx_ib ((p1 * 4) + x2_2) e0_n) (cx_let (vp_updL a_1 (cx_ix ((p1 * 4) + x2_2)) 0) (fun a5 => rc2 a5 (x2_2 + 1))))
noncomputable def f_X3_zero_L2w (e0_n : Nat) (p1 : Int32) (n : Nat) : (Nat → Int64) → Int32 → Option (Nat → Int64) := Nat.rec (fun _ _ => none) (fun _ r => f_X3_zero_L2 e0_n p1 r) n
noncomputable def f_X3_zero (e0_n : Nat) (e0_x : Nat → Int64) (p1 : Int32) : Option (Nat → Int64) := f_X3_zero_L2w e0_n p1 cx_N0 e0_x 0
set_option maxHeartbeats 4000000 in
set_option maxRecDepth 100000 in
theorem c_X3_zero (l : Launch) (D : va_G) (k : Nat → ClassId) (e0_a : Nat) (e0_n : Nat) (e0_x : Nat → Int64) (p1 : Int32) (y : Nat → Int64) (hf : f_X3_zero e0_n e0_x p1 = some y) : cx_M l yX3_zero cX3_zero 3 none 1 D k [.ref e0_a, .int p1] (wd_LA k e0_a e0_n e0_x) (fun sz => cx_Qv D (wd_LA k e0_a e0_n e0_x) (wd_LA k e0_a e0_n y) sz) := by
  refine cx_met (own := "NamelessBox$Limbs") (by decide) rfl (Nat.le_of_ble_eq_true rfl) ?_
  intro p e s m args below meth c A Q C hA hQ hr hlk
  refine cx_lv (lv' := [(0, .ref e0_a), (1, .int p1)]) [0, 1] rfl ?_
  have L2 : ∀ (n2 : Nat) (a_1 : Nat → Int64) (x2_2 : Int32), f_X3_zero_L2w e0_n p1 n2 a_1 x2_2 = some y → cx_S p l e (cx_rm 1) s m args below meth c A D 3 0 0 Q 2 [(0, .ref e0_a), (1, .int p1), (2, .int x2_2)] [] (wd_LA k e0_a e0_n a_1) := by
    intro  n2
    induction n2 with
    | zero =>
      intro a_1 x2_2 hf
      exact absurd (show (none : Option (Nat → Int64)) = some y from hf) (fun h => by cases h)
    | succ n2 ih2 =>
      intro a_1 x2_2 hf
      have hf : f_X3_zero_L2 e0_n p1 (f_X3_zero_L2w e0_n p1 n2) a_1 x2_2 = some y := hf
      unfold f_X3_zero_L2 at hf
      refine cx_iload_n C dX3_zero_2 2 rfl ?_
      refine cx_iconst (v := 4) C dX3_zero_3 (by decide) ?_
      refine cx_icmp_ge (tgt := 21) C dX3_zero_4 (by decide) (fun c3 => ?_) (fun c3 => ?_)
      · have hf := cx_if_t hf c3
        clear c3
        obtain rfl := Option.some.inj hf
        exact cx_vret C hA hQ hr hlk dX3_zero_21 rfl
      · have hf := cx_if_f hf c3
        clear c3
        refine cx_aload_n C dX3_zero_7 0 rfl ?_
        refine cx_iload_n C dX3_zero_8 1 rfl ?_
        refine cx_iconst (v := 4) C dX3_zero_9 (by decide) ?_
        refine cx_imul C dX3_zero_10 ?_
        refine cx_iload_n C dX3_zero_11 2 rfl ?_
        refine cx_iadd C dX3_zero_12 ?_
        refine cx_lconst (v := 0) C dX3_zero_13 (by decide) ?_
        obtain ⟨g4, hf⟩ := cx_gd_at hf
        obtain ⟨a5, ea5⟩ : ∃ z, z = vp_updL a_1 (cx_ix ((p1 * 4) + x2_2)) 0 := ⟨_, rfl⟩
        have hf := cx_let_at hf ea5
        refine cx_last (ws' := (wd_LA k e0_a e0_n a5)) C dX3_zero_14 0 rfl (cx_ib_in g4) (by rw [ea5]; rfl) ?_
        clear ea5 g4
        refine cx_iinc (v := x2_2 + 1) (lv' := [(2, .int (x2_2 + 1)), (0, .ref e0_a), (1, .int p1)]) C dX3_zero_15 2 rfl rfl (by decide) rfl ?_
        refine cx_goto (tgt := 2) C dX3_zero_18 (by decide) ?_
        refine cx_lv [1, 2, 0] rfl ?_
        exact ih2 a5 (x2_2 + 1) hf
  unfold f_X3_zero at hf
  refine cx_iconst (v := 0) C dX3_zero_0 (by decide) ?_
  refine cx_istore_n (lv' := [(2, .int 0), (0, .ref e0_a), (1, .int p1)]) C dX3_zero_1 rfl (by decide) rfl ?_
  refine cx_lv [1, 2, 0] rfl ?_
  exact L2 cx_N0 e0_x 0 hf
theorem dX3_set_0 : decode cX3_set 0 = .ok (.aload_n 0, 1) := by decide +kernel
theorem dX3_set_1 : decode cX3_set 1 = .ok (.iload_n 1, 1) := by decide +kernel
theorem dX3_set_2 : decode cX3_set 2 = .ok (.invokestatic 9, 3) := by decide +kernel
theorem dX3_set_5 : decode cX3_set 5 = .ok (.aload_n 0, 1) := by decide +kernel
theorem dX3_set_6 : decode cX3_set 6 = .ok (.iload_n 1, 1) := by decide +kernel
theorem dX3_set_7 : decode cX3_set 7 = .ok (.iconst 4, 1) := by decide +kernel
theorem dX3_set_8 : decode cX3_set 8 = .ok (.imul, 1) := by decide +kernel
theorem dX3_set_9 : decode cX3_set 9 = .ok (.iload_n 2, 1) := by decide +kernel
theorem dX3_set_10 : decode cX3_set 10 = .ok (.i2l, 1) := by decide +kernel
theorem dX3_set_11 : decode cX3_set 11 = .ok (.lastore, 1) := by decide +kernel
theorem dX3_set_12 : decode cX3_set 12 = .ok (.return_, 1) := by decide +kernel
theorem me_X3_set : cx_Ms yX3_set cX3_set 3 none 3 := ⟨⟨⟨by decide +kernel, by decide +kernel, by decide +kernel⟩, hw_17, hw_671⟩, hw_670⟩
noncomputable def f_X3_set (e0_n : Nat) (e0_x : Nat → Int64) (p1 : Int32) (p2 : Int32) : Option (Nat → Int64) := Option.bind (f_X3_zero e0_n e0_x p1) (fun u1 => cx_gd (cx_ib (p1 * 4) e0_n) (cx_let (vp_updL u1 (cx_ix (p1 * 4)) (Int32.toInt64 p2)) (fun a4 => some a4)))
set_option maxHeartbeats 4000000 in
set_option maxRecDepth 100000 in
theorem c_X3_set (l : Launch) (D : va_G) (k : Nat → ClassId) (e0_a : Nat) (e0_n : Nat) (e0_x : Nat → Int64) (p1 : Int32) (p2 : Int32) (y : Nat → Int64) (hf : f_X3_set e0_n e0_x p1 p2 = some y) : cx_M l yX3_set cX3_set 3 none 2 D k [.ref e0_a, .int p1, .int p2] (wd_LA k e0_a e0_n e0_x) (fun sz => cx_Qv D (wd_LA k e0_a e0_n e0_x) (wd_LA k e0_a e0_n y) sz) := by
  refine cx_met (own := "NamelessBox$Limbs") (by decide) rfl (Nat.le_of_ble_eq_true rfl) ?_
  intro p e s m args below meth c A Q C hA hQ hr hlk
  refine cx_lv (lv' := [(0, .ref e0_a), (1, .int p1), (2, .int p2)]) [0, 1, 2] rfl ?_
  unfold f_X3_set at hf
  refine cx_aload_n C dX3_set_0 0 rfl ?_
  refine cx_iload_n C dX3_set_1 1 rfl ?_
  obtain ⟨u1, e2, hf⟩ := cx_bd_at hf
  refine cx_csv (As := [.ref e0_a, .int p1]) (rest := []) (ws' := (wd_LA k e0_a e0_n u1)) hA C me_X3_zero hw_672 (c_X3_zero l D k e0_a e0_n e0_x p1 u1 e2) dX3_set_2 ⟨Nat.le_of_ble_eq_true rfl, Nat.le_of_ble_eq_true rfl⟩ ⟨Nat.zero_le _, Nat.zero_le _⟩ rfl rfl (Nat.le_of_ble_eq_true rfl) [0] rfl (by decide) rfl rfl ?_
  clear e2
  refine cx_aload_n C dX3_set_5 0 rfl ?_
  refine cx_iload_n C dX3_set_6 1 rfl ?_
  refine cx_iconst (v := 4) C dX3_set_7 (by decide) ?_
  refine cx_imul C dX3_set_8 ?_
  refine cx_iload_n C dX3_set_9 2 rfl ?_
  refine cx_i2l C dX3_set_10 ?_
  obtain ⟨g3, hf⟩ := cx_gd_at hf
  obtain ⟨a4, ea4⟩ : ∃ z, z = vp_updL u1 (cx_ix (p1 * 4)) (Int32.toInt64 p2) := ⟨_, rfl⟩
  have hf := cx_let_at hf ea4
  refine cx_last (ws' := (wd_LA k e0_a e0_n a4)) C dX3_set_11 0 rfl (cx_ib_in g3) (by rw [ea4]; rfl) ?_
  clear ea4 g3
  obtain rfl := Option.some.inj hf
  exact cx_vret C hA hQ hr hlk dX3_set_12 rfl
theorem dX3_copy_0 : decode cX3_copy 0 = .ok (.aload_n 2, 1) := by decide +kernel
theorem dX3_copy_1 : decode cX3_copy 1 = .ok (.iload_n 3, 1) := by decide +kernel
theorem dX3_copy_2 : decode cX3_copy 2 = .ok (.iconst 4, 1) := by decide +kernel
theorem dX3_copy_3 : decode cX3_copy 3 = .ok (.imul, 1) := by decide +kernel
theorem dX3_copy_4 : decode cX3_copy 4 = .ok (.aload_n 0, 1) := by decide +kernel
theorem dX3_copy_5 : decode cX3_copy 5 = .ok (.iload_n 1, 1) := by decide +kernel
theorem dX3_copy_6 : decode cX3_copy 6 = .ok (.iconst 4, 1) := by decide +kernel
theorem dX3_copy_7 : decode cX3_copy 7 = .ok (.imul, 1) := by decide +kernel
theorem dX3_copy_8 : decode cX3_copy 8 = .ok (.iconst 4, 1) := by decide +kernel
theorem dX3_copy_9 : decode cX3_copy 9 = .ok (.invokestatic 13, 3) := by decide +kernel
theorem dX3_copy_12 : decode cX3_copy 12 = .ok (.return_, 1) := by decide +kernel
theorem me_X3_copy : cx_Ms yX3_copy cX3_copy 4 none 4 := ⟨⟨⟨by decide +kernel, by decide +kernel, by decide +kernel⟩, hw_17, hw_691⟩, hw_690⟩
noncomputable def f_X3_copy (e0_n : Nat) (e0_x : Nat → Int64) (p1 : Int32) (e2_n : Nat) (e2_x : Nat → Int64) (p3 : Int32) : Option (Nat → Int64) := cx_gd (cx_cb (p3 * 4) (p1 * 4) 4 e2_n e0_n) (cx_let (va_cpy e2_x e0_x (cx_ix (p3 * 4)) (cx_ix (p1 * 4)) (cx_ix 4)) (fun a2 => some a2))
set_option maxHeartbeats 4000000 in
set_option maxRecDepth 100000 in
theorem c_X3_copy (l : Launch) (D : va_G) (k : Nat → ClassId) (e0_a : Nat) (e2_a : Nat) (e0_n : Nat) (e0_x : Nat → Int64) (p1 : Int32) (e2_n : Nat) (e2_x : Nat → Int64) (p3 : Int32) (y : Nat → Int64) (hf : f_X3_copy e0_n e0_x p1 e2_n e2_x p3 = some y) : cx_M l yX3_copy cX3_copy 4 none 1 D k [.ref e0_a, .int p1, .ref e2_a, .int p3] (wd_LA k e0_a e0_n e0_x ++ (wd_LA k e2_a e2_n e2_x)) (fun sz => cx_Qv D (wd_LA k e0_a e0_n e0_x ++ (wd_LA k e2_a e2_n e2_x)) (wd_LA k e0_a e0_n y ++ (wd_LA k e2_a e2_n e2_x)) sz) := by
  refine cx_met (own := "NamelessBox$Limbs") (by decide) rfl (Nat.le_of_ble_eq_true rfl) ?_
  intro p e s m args below meth c A Q C hA hQ hr hlk
  refine cx_lv (lv' := [(0, .ref e0_a), (1, .int p1), (2, .ref e2_a), (3, .int p3)]) [0, 1, 2, 3] rfl ?_
  unfold f_X3_copy at hf
  refine cx_aload_n C dX3_copy_0 2 rfl ?_
  refine cx_iload_n C dX3_copy_1 3 rfl ?_
  refine cx_iconst (v := 4) C dX3_copy_2 (by decide) ?_
  refine cx_imul C dX3_copy_3 ?_
  refine cx_aload_n C dX3_copy_4 0 rfl ?_
  refine cx_iload_n C dX3_copy_5 1 rfl ?_
  refine cx_iconst (v := 4) C dX3_copy_6 (by decide) ?_
  refine cx_imul C dX3_copy_7 ?_
  refine cx_iconst (v := 4) C dX3_copy_8 (by decide) ?_
  obtain ⟨g1, hf⟩ := cx_gd_at hf
  obtain ⟨a2, ea2⟩ : ∃ z, z = va_cpy e2_x e0_x (cx_ix (p3 * 4)) (cx_ix (p1 * 4)) (cx_ix 4) := ⟨_, rfl⟩
  have hf := cx_let_at hf ea2
  refine cx_copyl (ws' := (wd_LA k e0_a e0_n a2 ++ (wd_LA k e2_a e2_n e2_x))) C dX3_copy_9 hw_692 hw_616 hw_615 hw_16 1 0 rfl rfl g1 (fun _ => rfl) (Nat.le_of_ble_eq_true rfl) (Nat.le_of_ble_eq_true rfl) (by rw [ea2]; rfl) ?_
  clear ea2 g1
  obtain rfl := Option.some.inj hf
  exact cx_vret C hA hQ hr hlk dX3_copy_12 rfl
theorem dX3_isZero_0 : decode cX3_isZero 0 = .ok (.iload_n 1, 1) := by decide +kernel
theorem dX3_isZero_1 : decode cX3_isZero 1 = .ok (.iconst 4, 1) := by decide +kernel
theorem dX3_isZero_2 : decode cX3_isZero 2 = .ok (.imul, 1) := by decide +kernel
theorem dX3_isZero_3 : decode cX3_isZero 3 = .ok (.istore_n 2, 1) := by decide +kernel
theorem dX3_isZero_4 : decode cX3_isZero 4 = .ok (.aload_n 0, 1) := by decide +kernel
theorem dX3_isZero_5 : decode cX3_isZero 5 = .ok (.iload_n 2, 1) := by decide +kernel
theorem dX3_isZero_6 : decode cX3_isZero 6 = .ok (.laload, 1) := by decide +kernel
theorem dX3_isZero_7 : decode cX3_isZero 7 = .ok (.aload_n 0, 1) := by decide +kernel
theorem dX3_isZero_8 : decode cX3_isZero 8 = .ok (.iload_n 2, 1) := by decide +kernel
theorem dX3_isZero_9 : decode cX3_isZero 9 = .ok (.iconst 1, 1) := by decide +kernel
theorem dX3_isZero_10 : decode cX3_isZero 10 = .ok (.iadd, 1) := by decide +kernel
theorem dX3_isZero_11 : decode cX3_isZero 11 = .ok (.laload, 1) := by decide +kernel
theorem dX3_isZero_12 : decode cX3_isZero 12 = .ok (.lor, 1) := by decide +kernel
theorem dX3_isZero_13 : decode cX3_isZero 13 = .ok (.aload_n 0, 1) := by decide +kernel
theorem dX3_isZero_14 : decode cX3_isZero 14 = .ok (.iload_n 2, 1) := by decide +kernel
theorem dX3_isZero_15 : decode cX3_isZero 15 = .ok (.iconst 2, 1) := by decide +kernel
theorem dX3_isZero_16 : decode cX3_isZero 16 = .ok (.iadd, 1) := by decide +kernel
theorem dX3_isZero_17 : decode cX3_isZero 17 = .ok (.laload, 1) := by decide +kernel
theorem dX3_isZero_18 : decode cX3_isZero 18 = .ok (.lor, 1) := by decide +kernel
theorem dX3_isZero_19 : decode cX3_isZero 19 = .ok (.aload_n 0, 1) := by decide +kernel
theorem dX3_isZero_20 : decode cX3_isZero 20 = .ok (.iload_n 2, 1) := by decide +kernel
theorem dX3_isZero_21 : decode cX3_isZero 21 = .ok (.iconst 3, 1) := by decide +kernel
theorem dX3_isZero_22 : decode cX3_isZero 22 = .ok (.iadd, 1) := by decide +kernel
theorem dX3_isZero_23 : decode cX3_isZero 23 = .ok (.laload, 1) := by decide +kernel
theorem dX3_isZero_24 : decode cX3_isZero 24 = .ok (.lor, 1) := by decide +kernel
theorem dX3_isZero_25 : decode cX3_isZero 25 = .ok (.lconst 0, 1) := by decide +kernel
theorem dX3_isZero_26 : decode cX3_isZero 26 = .ok (.lcmp, 1) := by decide +kernel
theorem dX3_isZero_27 : decode cX3_isZero 27 = .ok (.ifCond .ne 7, 3) := by decide +kernel
theorem dX3_isZero_30 : decode cX3_isZero 30 = .ok (.iconst 1, 1) := by decide +kernel
theorem dX3_isZero_31 : decode cX3_isZero 31 = .ok (.goto 4, 3) := by decide +kernel
theorem dX3_isZero_34 : decode cX3_isZero 34 = .ok (.iconst 0, 1) := by decide +kernel
theorem dX3_isZero_35 : decode cX3_isZero 35 = .ok (.ireturn, 1) := by decide +kernel
theorem me_X3_isZero : cx_Ms yX3_isZero cX3_isZero 3 (some .boolean) 2 := ⟨⟨⟨by decide +kernel, by decide +kernel, by decide +kernel⟩, hw_17, hw_753⟩, hw_752⟩
noncomputable def f_X3_isZero (e0_n : Nat) (e0_x : Nat → Int64) (p1 : Int32) : Option Int32 := cx_gd (cx_ib (p1 * 4) e0_n) (cx_gd (cx_ib ((p1 * 4) + 1) e0_n) (cx_gd (cx_ib ((p1 * 4) + 2) e0_n) (cx_gd (cx_ib ((p1 * 4) + 3) e0_n) (if (lg_cmp ((((e0_x (cx_ix (p1 * 4))) ||| (e0_x (cx_ix ((p1 * 4) + 1)))) ||| (e0_x (cx_ix ((p1 * 4) + 2)))) ||| (e0_x (cx_ix ((p1 * 4) + 3)))) 0) = 0 then (some 1) else (some 0)))))
set_option maxHeartbeats 4000000 in
set_option maxRecDepth 100000 in
theorem c_X3_isZero (l : Launch) (D : va_G) (k : Nat → ClassId) (e0_a : Nat) (e0_n : Nat) (e0_x : Nat → Int64) (p1 : Int32) (y : Int32) (hf : f_X3_isZero e0_n e0_x p1 = some y) : cx_M l yX3_isZero cX3_isZero 3 (some .boolean) 1 D k [.ref e0_a, .int p1] (wd_LA k e0_a e0_n e0_x) (fun sz => cx_Qi D y (wd_LA k e0_a e0_n e0_x) (wd_LA k e0_a e0_n e0_x) sz) := by
  refine cx_met (own := "NamelessBox$Limbs") (by decide) rfl (Nat.le_of_ble_eq_true rfl) ?_
  intro p e s m args below meth c A Q C hA hQ hr hlk
  refine cx_lv (lv' := [(0, .ref e0_a), (1, .int p1)]) [0, 1] rfl ?_
  unfold f_X3_isZero at hf
  refine cx_iload_n C dX3_isZero_0 1 rfl ?_
  refine cx_iconst (v := 4) C dX3_isZero_1 (by decide) ?_
  refine cx_imul C dX3_isZero_2 ?_
  refine cx_istore_n (lv' := [(2, .int (p1 * 4)), (0, .ref e0_a), (1, .int p1)]) C dX3_isZero_3 rfl (by decide) rfl ?_
  refine cx_aload_n C dX3_isZero_4 1 rfl ?_
  refine cx_iload_n C dX3_isZero_5 0 rfl ?_
  obtain ⟨g1, hf⟩ := cx_gd_at hf
  refine cx_lald C dX3_isZero_6 0 rfl (cx_ib_in g1) ?_
  clear g1
  refine cx_aload_n C dX3_isZero_7 1 rfl ?_
  refine cx_iload_n C dX3_isZero_8 0 rfl ?_
  refine cx_iconst (v := 1) C dX3_isZero_9 (by decide) ?_
  refine cx_iadd C dX3_isZero_10 ?_
  obtain ⟨g2, hf⟩ := cx_gd_at hf
  refine cx_lald C dX3_isZero_11 0 rfl (cx_ib_in g2) ?_
  clear g2
  refine cx_lor C dX3_isZero_12 ?_
  refine cx_aload_n C dX3_isZero_13 1 rfl ?_
  refine cx_iload_n C dX3_isZero_14 0 rfl ?_
  refine cx_iconst (v := 2) C dX3_isZero_15 (by decide) ?_
  refine cx_iadd C dX3_isZero_16 ?_
  obtain ⟨g3, hf⟩ := cx_gd_at hf
  refine cx_lald C dX3_isZero_17 0 rfl (cx_ib_in g3) ?_
  clear g3
  refine cx_lor C dX3_isZero_18 ?_
  refine cx_aload_n C dX3_isZero_19 1 rfl ?_
  refine cx_iload_n C dX3_isZero_20 0 rfl ?_
  refine cx_iconst (v := 3) C dX3_isZero_21 (by decide) ?_
  refine cx_iadd C dX3_isZero_22 ?_
  obtain ⟨g4, hf⟩ := cx_gd_at hf
  refine cx_lald C dX3_isZero_23 0 rfl (cx_ib_in g4) ?_
  clear g4
  refine cx_lor C dX3_isZero_24 ?_
  refine cx_lconst (v := 0) C dX3_isZero_25 (by decide) ?_
  refine cx_lcmp C dX3_isZero_26 ?_
  refine cx_if_ne (tgt := 34) C dX3_isZero_27 (by decide) (fun c5 => ?_) (fun c5 => ?_)
  · have hf := cx_if_f hf c5
    clear c5
    refine cx_iconst (v := 0) C dX3_isZero_34 (by decide) ?_
    obtain rfl := Option.some.inj hf
    exact cx_zret C hA hQ hr hlk dX3_isZero_35 rfl rfl rfl
  · have hf := cx_if_t hf c5
    clear c5
    refine cx_iconst (v := 1) C dX3_isZero_30 (by decide) ?_
    refine cx_goto (tgt := 35) C dX3_isZero_31 (by decide) ?_
    obtain rfl := Option.some.inj hf
    exact cx_zret C hA hQ hr hlk dX3_isZero_35 rfl rfl rfl
theorem dX3_add_0 : decode cX3_add 0 = .ok (.iload_n 1, 1) := by decide +kernel
theorem dX3_add_1 : decode cX3_add 1 = .ok (.iconst 4, 1) := by decide +kernel
theorem dX3_add_2 : decode cX3_add 2 = .ok (.imul, 1) := by decide +kernel
theorem dX3_add_3 : decode cX3_add 3 = .ok (.istore 4, 2) := by decide +kernel
theorem dX3_add_5 : decode cX3_add 5 = .ok (.iload_n 3, 1) := by decide +kernel
theorem dX3_add_6 : decode cX3_add 6 = .ok (.iconst 4, 1) := by decide +kernel
theorem dX3_add_7 : decode cX3_add 7 = .ok (.imul, 1) := by decide +kernel
theorem dX3_add_8 : decode cX3_add 8 = .ok (.istore 5, 2) := by decide +kernel
theorem dX3_add_10 : decode cX3_add 10 = .ok (.aload_n 0, 1) := by decide +kernel
theorem dX3_add_11 : decode cX3_add 11 = .ok (.iload 4, 2) := by decide +kernel
theorem dX3_add_13 : decode cX3_add 13 = .ok (.dup2, 1) := by decide +kernel
theorem dX3_add_14 : decode cX3_add 14 = .ok (.laload, 1) := by decide +kernel
theorem dX3_add_15 : decode cX3_add 15 = .ok (.aload_n 2, 1) := by decide +kernel
theorem dX3_add_16 : decode cX3_add 16 = .ok (.iload 5, 2) := by decide +kernel
theorem dX3_add_18 : decode cX3_add 18 = .ok (.laload, 1) := by decide +kernel
theorem dX3_add_19 : decode cX3_add 19 = .ok (.ladd, 1) := by decide +kernel
theorem dX3_add_20 : decode cX3_add 20 = .ok (.lastore, 1) := by decide +kernel
theorem dX3_add_21 : decode cX3_add 21 = .ok (.aload_n 0, 1) := by decide +kernel
theorem dX3_add_22 : decode cX3_add 22 = .ok (.iload 4, 2) := by decide +kernel
theorem dX3_add_24 : decode cX3_add 24 = .ok (.iconst 1, 1) := by decide +kernel
theorem dX3_add_25 : decode cX3_add 25 = .ok (.iadd, 1) := by decide +kernel
theorem dX3_add_26 : decode cX3_add 26 = .ok (.dup2, 1) := by decide +kernel
theorem dX3_add_27 : decode cX3_add 27 = .ok (.laload, 1) := by decide +kernel
theorem dX3_add_28 : decode cX3_add 28 = .ok (.aload_n 2, 1) := by decide +kernel
theorem dX3_add_29 : decode cX3_add 29 = .ok (.iload 5, 2) := by decide +kernel
theorem dX3_add_31 : decode cX3_add 31 = .ok (.iconst 1, 1) := by decide +kernel
theorem dX3_add_32 : decode cX3_add 32 = .ok (.iadd, 1) := by decide +kernel
theorem dX3_add_33 : decode cX3_add 33 = .ok (.laload, 1) := by decide +kernel
theorem dX3_add_34 : decode cX3_add 34 = .ok (.ladd, 1) := by decide +kernel
theorem dX3_add_35 : decode cX3_add 35 = .ok (.lastore, 1) := by decide +kernel
theorem dX3_add_36 : decode cX3_add 36 = .ok (.aload_n 0, 1) := by decide +kernel
theorem dX3_add_37 : decode cX3_add 37 = .ok (.iload 4, 2) := by decide +kernel
theorem dX3_add_39 : decode cX3_add 39 = .ok (.iconst 2, 1) := by decide +kernel
theorem dX3_add_40 : decode cX3_add 40 = .ok (.iadd, 1) := by decide +kernel
theorem dX3_add_41 : decode cX3_add 41 = .ok (.dup2, 1) := by decide +kernel
theorem dX3_add_42 : decode cX3_add 42 = .ok (.laload, 1) := by decide +kernel
theorem dX3_add_43 : decode cX3_add 43 = .ok (.aload_n 2, 1) := by decide +kernel
theorem dX3_add_44 : decode cX3_add 44 = .ok (.iload 5, 2) := by decide +kernel
theorem dX3_add_46 : decode cX3_add 46 = .ok (.iconst 2, 1) := by decide +kernel
theorem dX3_add_47 : decode cX3_add 47 = .ok (.iadd, 1) := by decide +kernel
theorem dX3_add_48 : decode cX3_add 48 = .ok (.laload, 1) := by decide +kernel
theorem dX3_add_49 : decode cX3_add 49 = .ok (.ladd, 1) := by decide +kernel
theorem dX3_add_50 : decode cX3_add 50 = .ok (.lastore, 1) := by decide +kernel
theorem dX3_add_51 : decode cX3_add 51 = .ok (.aload_n 0, 1) := by decide +kernel
theorem dX3_add_52 : decode cX3_add 52 = .ok (.iload 4, 2) := by decide +kernel
theorem dX3_add_54 : decode cX3_add 54 = .ok (.iconst 3, 1) := by decide +kernel
theorem dX3_add_55 : decode cX3_add 55 = .ok (.iadd, 1) := by decide +kernel
theorem dX3_add_56 : decode cX3_add 56 = .ok (.dup2, 1) := by decide +kernel
theorem dX3_add_57 : decode cX3_add 57 = .ok (.laload, 1) := by decide +kernel
theorem dX3_add_58 : decode cX3_add 58 = .ok (.aload_n 2, 1) := by decide +kernel
theorem dX3_add_59 : decode cX3_add 59 = .ok (.iload 5, 2) := by decide +kernel
theorem dX3_add_61 : decode cX3_add 61 = .ok (.iconst 3, 1) := by decide +kernel
theorem dX3_add_62 : decode cX3_add 62 = .ok (.iadd, 1) := by decide +kernel
theorem dX3_add_63 : decode cX3_add 63 = .ok (.laload, 1) := by decide +kernel
theorem dX3_add_64 : decode cX3_add 64 = .ok (.ladd, 1) := by decide +kernel
theorem dX3_add_65 : decode cX3_add 65 = .ok (.lastore, 1) := by decide +kernel
theorem dX3_add_66 : decode cX3_add 66 = .ok (.return_, 1) := by decide +kernel
theorem me_X3_add : cx_Ms yX3_add cX3_add 6 none 4 := ⟨⟨⟨by decide +kernel, by decide +kernel, by decide +kernel⟩, hw_17, hw_699⟩, hw_698⟩
noncomputable def f_X3_add (e0_n : Nat) (e0_x : Nat → Int64) (p1 : Int32) (e2_n : Nat) (e2_x : Nat → Int64) (p3 : Int32) : Option (Nat → Int64) := cx_gd (cx_ib (p1 * 4) e0_n) (cx_gd (cx_ib (p3 * 4) e2_n) (cx_gd (cx_ib (p1 * 4) e0_n) (cx_let (vp_updL e0_x (cx_ix (p1 * 4)) ((e0_x (cx_ix (p1 * 4))) + (e2_x (cx_ix (p3 * 4))))) (fun a4 => cx_gd (cx_ib ((p1 * 4) + 1) e0_n) (cx_gd (cx_ib ((p3 * 4) + 1) e2_n) (cx_gd (cx_ib ((p1 * 4) + 1) e0_n) (cx_let (vp_updL a4 (cx_ix ((p1 * 4) + 1)) ((a4 (cx_ix ((p1 * 4) + 1))) + (e2_x (cx_ix ((p3 * 4) + 1))))) (fun a8 => cx_gd (cx_ib ((p1 * 4) + 2) e0_n) (cx_gd (cx_ib ((p3 * 4) + 2) e2_n) (cx_gd (cx_ib ((p1 * 4) + 2) e0_n) (cx_let (vp_updL a8 (cx_ix ((p1 * 4) + 2)) ((a8 (cx_ix ((p1 * 4) + 2))) + (e2_x (cx_ix ((p3 * 4) + 2))))) (fun a12 => cx_gd (cx_ib ((p1 * 4) + 3) e0_n) (cx_gd (cx_ib ((p3 * 4) + 3) e2_n) (cx_gd (cx_ib ((p1 * 4) + 3) e0_n) (cx_let (vp_updL a12 (cx_ix ((p1 * 4) + 3)) ((a12 (cx_ix ((p1 * 4) + 3))) + (e2_x (cx_ix ((p3 * 4) + 3))))) (fun a16 => some a16))))))))))))))))
set_option maxHeartbeats 4000000 in
set_option maxRecDepth 100000 in
theorem c_X3_add (l : Launch) (D : va_G) (k : Nat → ClassId) (e0_a : Nat) (e2_a : Nat) (e0_n : Nat) (e0_x : Nat → Int64) (p1 : Int32) (e2_n : Nat) (e2_x : Nat → Int64) (p3 : Int32) (y : Nat → Int64) (hf : f_X3_add e0_n e0_x p1 e2_n e2_x p3 = some y) : cx_M l yX3_add cX3_add 6 none 1 D k [.ref e0_a, .int p1, .ref e2_a, .int p3] (wd_LA k e0_a e0_n e0_x ++ (wd_LA k e2_a e2_n e2_x)) (fun sz => cx_Qv D (wd_LA k e0_a e0_n e0_x ++ (wd_LA k e2_a e2_n e2_x)) (wd_LA k e0_a e0_n y ++ (wd_LA k e2_a e2_n e2_x)) sz) := by
  refine cx_met (own := "NamelessBox$Limbs") (by decide) rfl (Nat.le_of_ble_eq_true rfl) ?_
  intro p e s m args below meth c A Q C hA hQ hr hlk
  refine cx_lv (lv' := [(0, .ref e0_a), (1, .int p1), (2, .ref e2_a), (3, .int p3)]) [0, 1, 2, 3] rfl ?_
  unfold f_X3_add at hf
  refine cx_iload_n C dX3_add_0 1 rfl ?_
  refine cx_iconst (v := 4) C dX3_add_1 (by decide) ?_
  refine cx_imul C dX3_add_2 ?_
  refine cx_istore (lv' := [(4, .int (p1 * 4)), (0, .ref e0_a), (1, .int p1), (2, .ref e2_a), (3, .int p3)]) C dX3_add_3 (by decide) rfl ?_
  refine cx_iload_n C dX3_add_5 4 rfl ?_
  refine cx_iconst (v := 4) C dX3_add_6 (by decide) ?_
  refine cx_imul C dX3_add_7 ?_
  refine cx_istore (lv' := [(5, .int (p3 * 4)), (4, .int (p1 * 4)), (0, .ref e0_a), (1, .int p1), (2, .ref e2_a), (3, .int p3)]) C dX3_add_8 (by decide) rfl ?_
  refine cx_aload_n C dX3_add_10 2 rfl ?_
  refine cx_iload C dX3_add_11 1 rfl ?_
  refine cx_dup2_11 C dX3_add_13 rfl rfl ?_
  obtain ⟨g1, hf⟩ := cx_gd_at hf
  refine cx_lald C dX3_add_14 0 rfl (cx_ib_in g1) ?_
  clear g1
  refine cx_aload_n C dX3_add_15 4 rfl ?_
  refine cx_iload C dX3_add_16 0 rfl ?_
  obtain ⟨g2, hf⟩ := cx_gd_at hf
  refine cx_lald C dX3_add_18 1 rfl (cx_ib_in g2) ?_
  clear g2
  refine cx_ladd C dX3_add_19 ?_
  obtain ⟨g3, hf⟩ := cx_gd_at hf
  obtain ⟨a4, ea4⟩ : ∃ z, z = vp_updL e0_x (cx_ix (p1 * 4)) ((e0_x (cx_ix (p1 * 4))) + (e2_x (cx_ix (p3 * 4)))) := ⟨_, rfl⟩
  have hf := cx_let_at hf ea4
  refine cx_last (ws' := (wd_LA k e0_a e0_n a4 ++ (wd_LA k e2_a e2_n e2_x))) C dX3_add_20 0 rfl (cx_ib_in g3) (by rw [ea4]; rfl) ?_
  clear ea4 g3
  refine cx_aload_n C dX3_add_21 2 rfl ?_
  refine cx_iload C dX3_add_22 1 rfl ?_
  refine cx_iconst (v := 1) C dX3_add_24 (by decide) ?_
  refine cx_iadd C dX3_add_25 ?_
  refine cx_dup2_11 C dX3_add_26 rfl rfl ?_
  obtain ⟨g5, hf⟩ := cx_gd_at hf
  refine cx_lald C dX3_add_27 0 rfl (cx_ib_in g5) ?_
  clear g5
  refine cx_aload_n C dX3_add_28 4 rfl ?_
  refine cx_iload C dX3_add_29 0 rfl ?_
  refine cx_iconst (v := 1) C dX3_add_31 (by decide) ?_
  refine cx_iadd C dX3_add_32 ?_
  obtain ⟨g6, hf⟩ := cx_gd_at hf
  refine cx_lald C dX3_add_33 1 rfl (cx_ib_in g6) ?_
  clear g6
  refine cx_ladd C dX3_add_34 ?_
  obtain ⟨g7, hf⟩ := cx_gd_at hf
  obtain ⟨a8, ea8⟩ : ∃ z, z = vp_updL a4 (cx_ix ((p1 * 4) + 1)) ((a4 (cx_ix ((p1 * 4) + 1))) + (e2_x (cx_ix ((p3 * 4) + 1)))) := ⟨_, rfl⟩
  have hf := cx_let_at hf ea8
  refine cx_last (ws' := (wd_LA k e0_a e0_n a8 ++ (wd_LA k e2_a e2_n e2_x))) C dX3_add_35 0 rfl (cx_ib_in g7) (by rw [ea8]; rfl) ?_
  clear ea8 g7
  refine cx_aload_n C dX3_add_36 2 rfl ?_
  refine cx_iload C dX3_add_37 1 rfl ?_
  refine cx_iconst (v := 2) C dX3_add_39 (by decide) ?_
  refine cx_iadd C dX3_add_40 ?_
  refine cx_dup2_11 C dX3_add_41 rfl rfl ?_
  obtain ⟨g9, hf⟩ := cx_gd_at hf
  refine cx_lald C dX3_add_42 0 rfl (cx_ib_in g9) ?_
  clear g9
  refine cx_aload_n C dX3_add_43 4 rfl ?_
  refine cx_iload C dX3_add_44 0 rfl ?_
  refine cx_iconst (v := 2) C dX3_add_46 (by decide) ?_
  refine cx_iadd C dX3_add_47 ?_
  obtain ⟨g10, hf⟩ := cx_gd_at hf
  refine cx_lald C dX3_add_48 1 rfl (cx_ib_in g10) ?_
  clear g10
  refine cx_ladd C dX3_add_49 ?_
  obtain ⟨g11, hf⟩ := cx_gd_at hf
  obtain ⟨a12, ea12⟩ : ∃ z, z = vp_updL a8 (cx_ix ((p1 * 4) + 2)) ((a8 (cx_ix ((p1 * 4) + 2))) + (e2_x (cx_ix ((p3 * 4) + 2)))) := ⟨_, rfl⟩
  have hf := cx_let_at hf ea12
  refine cx_last (ws' := (wd_LA k e0_a e0_n a12 ++ (wd_LA k e2_a e2_n e2_x))) C dX3_add_50 0 rfl (cx_ib_in g11) (by rw [ea12]; rfl) ?_
  clear ea12 g11
  refine cx_aload_n C dX3_add_51 2 rfl ?_
  refine cx_iload C dX3_add_52 1 rfl ?_
  refine cx_iconst (v := 3) C dX3_add_54 (by decide) ?_
  refine cx_iadd C dX3_add_55 ?_
  refine cx_dup2_11 C dX3_add_56 rfl rfl ?_
  obtain ⟨g13, hf⟩ := cx_gd_at hf
  refine cx_lald C dX3_add_57 0 rfl (cx_ib_in g13) ?_
  clear g13
  refine cx_aload_n C dX3_add_58 4 rfl ?_
  refine cx_iload C dX3_add_59 0 rfl ?_
  refine cx_iconst (v := 3) C dX3_add_61 (by decide) ?_
  refine cx_iadd C dX3_add_62 ?_
  obtain ⟨g14, hf⟩ := cx_gd_at hf
  refine cx_lald C dX3_add_63 1 rfl (cx_ib_in g14) ?_
  clear g14
  refine cx_ladd C dX3_add_64 ?_
  obtain ⟨g15, hf⟩ := cx_gd_at hf
  obtain ⟨a16, ea16⟩ : ∃ z, z = vp_updL a12 (cx_ix ((p1 * 4) + 3)) ((a12 (cx_ix ((p1 * 4) + 3))) + (e2_x (cx_ix ((p3 * 4) + 3)))) := ⟨_, rfl⟩
  have hf := cx_let_at hf ea16
  refine cx_last (ws' := (wd_LA k e0_a e0_n a16 ++ (wd_LA k e2_a e2_n e2_x))) C dX3_add_65 0 rfl (cx_ib_in g15) (by rw [ea16]; rfl) ?_
  clear ea16 g15
  obtain rfl := Option.some.inj hf
  exact cx_vret C hA hQ hr hlk dX3_add_66 rfl
noncomputable def f_X3_add_x_e0 (e0_n : Nat) (e0_x : Nat → Int64) (p1 : Int32) (p3 : Int32) : Option (Nat → Int64) := cx_gd (cx_ib (p1 * 4) e0_n) (cx_gd (cx_ib (p3 * 4) e0_n) (cx_gd (cx_ib (p1 * 4) e0_n) (cx_let (vp_updL e0_x (cx_ix (p1 * 4)) ((e0_x (cx_ix (p1 * 4))) + (e0_x (cx_ix (p3 * 4))))) (fun a4 => cx_gd (cx_ib ((p1 * 4) + 1) e0_n) (cx_gd (cx_ib ((p3 * 4) + 1) e0_n) (cx_gd (cx_ib ((p1 * 4) + 1) e0_n) (cx_let (vp_updL a4 (cx_ix ((p1 * 4) + 1)) ((a4 (cx_ix ((p1 * 4) + 1))) + (a4 (cx_ix ((p3 * 4) + 1))))) (fun a8 => cx_gd (cx_ib ((p1 * 4) + 2) e0_n) (cx_gd (cx_ib ((p3 * 4) + 2) e0_n) (cx_gd (cx_ib ((p1 * 4) + 2) e0_n) (cx_let (vp_updL a8 (cx_ix ((p1 * 4) + 2)) ((a8 (cx_ix ((p1 * 4) + 2))) + (a8 (cx_ix ((p3 * 4) + 2))))) (fun a12 => cx_gd (cx_ib ((p1 * 4) + 3) e0_n) (cx_gd (cx_ib ((p3 * 4) + 3) e0_n) (cx_gd (cx_ib ((p1 * 4) + 3) e0_n) (cx_let (vp_updL a12 (cx_ix ((p1 * 4) + 3)) ((a12 (cx_ix ((p1 * 4) + 3))) + (a12 (cx_ix ((p3 * 4) + 3))))) (fun a16 => some a16))))))))))))))))
set_option maxHeartbeats 4000000 in
set_option maxRecDepth 100000 in
theorem c_X3_add_x_e0 (l : Launch) (D : va_G) (k : Nat → ClassId) (e0_a : Nat) (e0_n : Nat) (e0_x : Nat → Int64) (p1 : Int32) (p3 : Int32) (y : Nat → Int64) (hf : f_X3_add_x_e0 e0_n e0_x p1 p3 = some y) : cx_M l yX3_add cX3_add 6 none 1 D k [.ref e0_a, .int p1, .ref e0_a, .int p3] (wd_LA k e0_a e0_n e0_x) (fun sz => cx_Qv D (wd_LA k e0_a e0_n e0_x) (wd_LA k e0_a e0_n y) sz) := by
  refine cx_met (own := "NamelessBox$Limbs") (by decide) rfl (Nat.le_of_ble_eq_true rfl) ?_
  intro p e s m args below meth c A Q C hA hQ hr hlk
  refine cx_lv (lv' := [(0, .ref e0_a), (1, .int p1), (2, .ref e0_a), (3, .int p3)]) [0, 1, 2, 3] rfl ?_
  unfold f_X3_add_x_e0 at hf
  refine cx_iload_n C dX3_add_0 1 rfl ?_
  refine cx_iconst (v := 4) C dX3_add_1 (by decide) ?_
  refine cx_imul C dX3_add_2 ?_
  refine cx_istore (lv' := [(4, .int (p1 * 4)), (0, .ref e0_a), (1, .int p1), (2, .ref e0_a), (3, .int p3)]) C dX3_add_3 (by decide) rfl ?_
  refine cx_iload_n C dX3_add_5 4 rfl ?_
  refine cx_iconst (v := 4) C dX3_add_6 (by decide) ?_
  refine cx_imul C dX3_add_7 ?_
  refine cx_istore (lv' := [(5, .int (p3 * 4)), (4, .int (p1 * 4)), (0, .ref e0_a), (1, .int p1), (2, .ref e0_a), (3, .int p3)]) C dX3_add_8 (by decide) rfl ?_
  refine cx_aload_n C dX3_add_10 2 rfl ?_
  refine cx_iload C dX3_add_11 1 rfl ?_
  refine cx_dup2_11 C dX3_add_13 rfl rfl ?_
  obtain ⟨g1, hf⟩ := cx_gd_at hf
  refine cx_lald C dX3_add_14 0 rfl (cx_ib_in g1) ?_
  clear g1
  refine cx_aload_n C dX3_add_15 4 rfl ?_
  refine cx_iload C dX3_add_16 0 rfl ?_
  obtain ⟨g2, hf⟩ := cx_gd_at hf
  refine cx_lald C dX3_add_18 0 rfl (cx_ib_in g2) ?_
  clear g2
  refine cx_ladd C dX3_add_19 ?_
  obtain ⟨g3, hf⟩ := cx_gd_at hf
  obtain ⟨a4, ea4⟩ : ∃ z, z = vp_updL e0_x (cx_ix (p1 * 4)) ((e0_x (cx_ix (p1 * 4))) + (e0_x (cx_ix (p3 * 4)))) := ⟨_, rfl⟩
  have hf := cx_let_at hf ea4
  refine cx_last (ws' := (wd_LA k e0_a e0_n a4)) C dX3_add_20 0 rfl (cx_ib_in g3) (by rw [ea4]; rfl) ?_
  clear ea4 g3
  refine cx_aload_n C dX3_add_21 2 rfl ?_
  refine cx_iload C dX3_add_22 1 rfl ?_
  refine cx_iconst (v := 1) C dX3_add_24 (by decide) ?_
  refine cx_iadd C dX3_add_25 ?_
  refine cx_dup2_11 C dX3_add_26 rfl rfl ?_
  obtain ⟨g5, hf⟩ := cx_gd_at hf
  refine cx_lald C dX3_add_27 0 rfl (cx_ib_in g5) ?_
  clear g5
  refine cx_aload_n C dX3_add_28 4 rfl ?_
  refine cx_iload C dX3_add_29 0 rfl ?_
  refine cx_iconst (v := 1) C dX3_add_31 (by decide) ?_
  refine cx_iadd C dX3_add_32 ?_
  obtain ⟨g6, hf⟩ := cx_gd_at hf
  refine cx_lald C dX3_add_33 0 rfl (cx_ib_in g6) ?_
  clear g6
  refine cx_ladd C dX3_add_34 ?_
  obtain ⟨g7, hf⟩ := cx_gd_at hf
  obtain ⟨a8, ea8⟩ : ∃ z, z = vp_updL a4 (cx_ix ((p1 * 4) + 1)) ((a4 (cx_ix ((p1 * 4) + 1))) + (a4 (cx_ix ((p3 * 4) + 1)))) := ⟨_, rfl⟩
  have hf := cx_let_at hf ea8
  refine cx_last (ws' := (wd_LA k e0_a e0_n a8)) C dX3_add_35 0 rfl (cx_ib_in g7) (by rw [ea8]; rfl) ?_
  clear ea8 g7
  refine cx_aload_n C dX3_add_36 2 rfl ?_
  refine cx_iload C dX3_add_37 1 rfl ?_
  refine cx_iconst (v := 2) C dX3_add_39 (by decide) ?_
  refine cx_iadd C dX3_add_40 ?_
  refine cx_dup2_11 C dX3_add_41 rfl rfl ?_
  obtain ⟨g9, hf⟩ := cx_gd_at hf
  refine cx_lald C dX3_add_42 0 rfl (cx_ib_in g9) ?_
  clear g9
  refine cx_aload_n C dX3_add_43 4 rfl ?_
  refine cx_iload C dX3_add_44 0 rfl ?_
  refine cx_iconst (v := 2) C dX3_add_46 (by decide) ?_
  refine cx_iadd C dX3_add_47 ?_
  obtain ⟨g10, hf⟩ := cx_gd_at hf
  refine cx_lald C dX3_add_48 0 rfl (cx_ib_in g10) ?_
  clear g10
  refine cx_ladd C dX3_add_49 ?_
  obtain ⟨g11, hf⟩ := cx_gd_at hf
  obtain ⟨a12, ea12⟩ : ∃ z, z = vp_updL a8 (cx_ix ((p1 * 4) + 2)) ((a8 (cx_ix ((p1 * 4) + 2))) + (a8 (cx_ix ((p3 * 4) + 2)))) := ⟨_, rfl⟩
  have hf := cx_let_at hf ea12
  refine cx_last (ws' := (wd_LA k e0_a e0_n a12)) C dX3_add_50 0 rfl (cx_ib_in g11) (by rw [ea12]; rfl) ?_
  clear ea12 g11
  refine cx_aload_n C dX3_add_51 2 rfl ?_
  refine cx_iload C dX3_add_52 1 rfl ?_
  refine cx_iconst (v := 3) C dX3_add_54 (by decide) ?_
  refine cx_iadd C dX3_add_55 ?_
  refine cx_dup2_11 C dX3_add_56 rfl rfl ?_
  obtain ⟨g13, hf⟩ := cx_gd_at hf
  refine cx_lald C dX3_add_57 0 rfl (cx_ib_in g13) ?_
  clear g13
  refine cx_aload_n C dX3_add_58 4 rfl ?_
  refine cx_iload C dX3_add_59 0 rfl ?_
  refine cx_iconst (v := 3) C dX3_add_61 (by decide) ?_
  refine cx_iadd C dX3_add_62 ?_
  obtain ⟨g14, hf⟩ := cx_gd_at hf
  refine cx_lald C dX3_add_63 0 rfl (cx_ib_in g14) ?_
  clear g14
  refine cx_ladd C dX3_add_64 ?_
  obtain ⟨g15, hf⟩ := cx_gd_at hf
  obtain ⟨a16, ea16⟩ : ∃ z, z = vp_updL a12 (cx_ix ((p1 * 4) + 3)) ((a12 (cx_ix ((p1 * 4) + 3))) + (a12 (cx_ix ((p3 * 4) + 3)))) := ⟨_, rfl⟩
  have hf := cx_let_at hf ea16
  refine cx_last (ws' := (wd_LA k e0_a e0_n a16)) C dX3_add_65 0 rfl (cx_ib_in g15) (by rw [ea16]; rfl) ?_
  clear ea16 g15
  obtain rfl := Option.some.inj hf
  exact cx_vret C hA hQ hr hlk dX3_add_66 rfl
theorem dX3_carry_0 : decode cX3_carry 0 = .ok (.lconst 0, 1) := by decide +kernel
theorem dX3_carry_1 : decode cX3_carry 1 = .ok (.lstore_n 2, 1) := by decide +kernel
theorem dX3_carry_2 : decode cX3_carry 2 = .ok (.iload_n 1, 1) := by decide +kernel
theorem dX3_carry_3 : decode cX3_carry 3 = .ok (.iconst 4, 1) := by decide +kernel
theorem dX3_carry_4 : decode cX3_carry 4 = .ok (.imul, 1) := by decide +kernel
theorem dX3_carry_5 : decode cX3_carry 5 = .ok (.istore 4, 2) := by decide +kernel
theorem dX3_carry_7 : decode cX3_carry 7 = .ok (.iload 4, 2) := by decide +kernel
theorem dX3_carry_9 : decode cX3_carry 9 = .ok (.iload_n 1, 1) := by decide +kernel
theorem dX3_carry_10 : decode cX3_carry 10 = .ok (.iconst 4, 1) := by decide +kernel
theorem dX3_carry_11 : decode cX3_carry 11 = .ok (.imul, 1) := by decide +kernel
theorem dX3_carry_12 : decode cX3_carry 12 = .ok (.iconst 4, 1) := by decide +kernel
theorem dX3_carry_13 : decode cX3_carry 13 = .ok (.iadd, 1) := by decide +kernel
theorem dX3_carry_14 : decode cX3_carry 14 = .ok (.if_icmp .ge 30, 3) := by decide +kernel
theorem dX3_carry_17 : decode cX3_carry 17 = .ok (.lload_n 2, 1) := by decide +kernel
theorem dX3_carry_18 : decode cX3_carry 18 = .ok (.aload_n 0, 1) := by decide +kernel
theorem dX3_carry_19 : decode cX3_carry 19 = .ok (.iload 4, 2) := by decide +kernel
theorem dX3_carry_21 : decode cX3_carry 21 = .ok (.laload, 1) := by decide +kernel
theorem dX3_carry_22 : decode cX3_carry 22 = .ok (.ladd, 1) := by decide +kernel
theorem dX3_carry_23 : decode cX3_carry 23 = .ok (.lstore_n 2, 1) := by decide +kernel
theorem dX3_carry_24 : decode cX3_carry 24 = .ok (.aload_n 0, 1) := by decide +kernel
theorem dX3_carry_25 : decode cX3_carry 25 = .ok (.iload 4, 2) := by decide +kernel
theorem dX3_carry_27 : decode cX3_carry 27 = .ok (.lload_n 2, 1) := by decide +kernel
theorem dX3_carry_28 : decode cX3_carry 28 = .ok (.ldc2_w 19, 3) := by decide +kernel
theorem dX3_carry_31 : decode cX3_carry 31 = .ok (.land, 1) := by decide +kernel
theorem dX3_carry_32 : decode cX3_carry 32 = .ok (.lastore, 1) := by decide +kernel
theorem dX3_carry_33 : decode cX3_carry 33 = .ok (.lload_n 2, 1) := by decide +kernel
theorem dX3_carry_34 : decode cX3_carry 34 = .ok (.bipush 30, 2) := by decide +kernel
theorem dX3_carry_36 : decode cX3_carry 36 = .ok (.lshr, 1) := by decide +kernel
theorem dX3_carry_37 : decode cX3_carry 37 = .ok (.lstore_n 2, 1) := by decide +kernel
theorem dX3_carry_38 : decode cX3_carry 38 = .ok (.iinc 4 1, 3) := by decide +kernel
theorem dX3_carry_41 : decode cX3_carry 41 = .ok (.goto (-34), 3) := by decide +kernel
theorem dX3_carry_44 : decode cX3_carry 44 = .ok (.return_, 1) := by decide +kernel
theorem me_X3_carry : cx_Ms yX3_carry cX3_carry 5 none 2 := ⟨⟨⟨by decide +kernel, by decide +kernel, by decide +kernel⟩, hw_17, hw_760⟩, hw_759⟩
noncomputable def f_X3_carry_L7 (e0_n : Nat) (p1 : Int32) (rc7 : (Nat → Int64) → Int64 → Int32 → Option (Nat → Int64)) (a_1 : Nat → Int64) (x2_2 : Int64) (x4_3 : Int32) : Option (Nat → Int64) := if ((p1 * 4) + 4) ≤ x4_3 then (some a_1) else (cx_gd (cx_ib x4_3 e0_n) (cx_let (x2_2 + (a_1 (cx_ix x4_3))) (fun v6 => cx_gd (cx_ib x4_3 e0_n) (cx_let (vp_updL a_1 (cx_ix x4_3) (v6 &&& 1073741823)) (fun a8 => cx_let (v6 >>> (Int32.toInt64 30 &&& 63)) (fun v9 => rc7 a8 v9 (x4_3 + 1)))))))
noncomputable def f_X3_carry_L7w (e0_n : Nat) (p1 : Int32) (n : Nat) : (Nat → Int64) → Int64 → Int32 → Option (Nat → Int64) := Nat.rec (fun _ _ _ => none) (fun _ r => f_X3_carry_L7 e0_n p1 r) n
noncomputable def f_X3_carry (e0_n : Nat) (e0_x : Nat → Int64) (p1 : Int32) : Option (Nat → Int64) := f_X3_carry_L7w e0_n p1 cx_N0 e0_x 0 (p1 * 4)
set_option maxHeartbeats 4000000 in
set_option maxRecDepth 100000 in
theorem c_X3_carry (l : Launch) (D : va_G) (k : Nat → ClassId) (e0_a : Nat) (e0_n : Nat) (e0_x : Nat → Int64) (p1 : Int32) (y : Nat → Int64) (hf : f_X3_carry e0_n e0_x p1 = some y) : cx_M l yX3_carry cX3_carry 5 none 1 D k [.ref e0_a, .int p1] (wd_LA k e0_a e0_n e0_x) (fun sz => cx_Qv D (wd_LA k e0_a e0_n e0_x) (wd_LA k e0_a e0_n y) sz) := by
  refine cx_met (own := "NamelessBox$Limbs") (by decide) rfl (Nat.le_of_ble_eq_true rfl) ?_
  intro p e s m args below meth c A Q C hA hQ hr hlk
  refine cx_lv (lv' := [(0, .ref e0_a), (1, .int p1)]) [0, 1] rfl ?_
  have L7 : ∀ (n7 : Nat) (a_1 : Nat → Int64) (x2_2 : Int64) (x4_3 : Int32), f_X3_carry_L7w e0_n p1 n7 a_1 x2_2 x4_3 = some y → cx_S p l e (cx_rm 1) s m args below meth c A D 5 0 0 Q 7 [(0, .ref e0_a), (1, .int p1), (2, .long x2_2), (4, .int x4_3)] [] (wd_LA k e0_a e0_n a_1) := by
    intro  n7
    induction n7 with
    | zero =>
      intro a_1 x2_2 x4_3 hf
      exact absurd (show (none : Option (Nat → Int64)) = some y from hf) (fun h => by cases h)
    | succ n7 ih7 =>
      intro a_1 x2_2 x4_3 hf
      have hf : f_X3_carry_L7 e0_n p1 (f_X3_carry_L7w e0_n p1 n7) a_1 x2_2 x4_3 = some y := hf
      unfold f_X3_carry_L7 at hf
      refine cx_iload C dX3_carry_7 3 rfl ?_
      refine cx_iload_n C dX3_carry_9 1 rfl ?_
      refine cx_iconst (v := 4) C dX3_carry_10 (by decide) ?_
      refine cx_imul C dX3_carry_11 ?_
      refine cx_iconst (v := 4) C dX3_carry_12 (by decide) ?_
      refine cx_iadd C dX3_carry_13 ?_
      refine cx_icmp_ge (tgt := 44) C dX3_carry_14 (by decide) (fun c4 => ?_) (fun c4 => ?_)
      · have hf := cx_if_t hf c4
        clear c4
        obtain rfl := Option.some.inj hf
        exact cx_vret C hA hQ hr hlk dX3_carry_44 rfl
      · have hf := cx_if_f hf c4
        clear c4
        refine cx_lload_n C dX3_carry_17 2 rfl ?_
        refine cx_aload_n C dX3_carry_18 0 rfl ?_
        refine cx_iload C dX3_carry_19 3 rfl ?_
        obtain ⟨g5, hf⟩ := cx_gd_at hf
        refine cx_lald C dX3_carry_21 0 rfl (cx_ib_in g5) ?_
        clear g5
        refine cx_ladd C dX3_carry_22 ?_
        refine cx_topl (fun v6 ev6 => ?_)
        have hf := cx_let_at hf ev6
        clear ev6
        refine cx_lstore_n (lv' := [(2, .long v6), (0, .ref e0_a), (1, .int p1), (4, .int x4_3)]) C dX3_carry_23 rfl (by decide) rfl ?_
        refine cx_aload_n C dX3_carry_24 1 rfl ?_
        refine cx_iload C dX3_carry_25 3 rfl ?_
        refine cx_lload_n C dX3_carry_27 0 rfl ?_
        refine cx_ldc2 (v := 1073741823) C dX3_carry_28 hw_680 ?_
        refine cx_land C dX3_carry_31 ?_
        obtain ⟨g7, hf⟩ := cx_gd_at hf
        obtain ⟨a8, ea8⟩ : ∃ z, z = vp_updL a_1 (cx_ix x4_3) (v6 &&& 1073741823) := ⟨_, rfl⟩
        have hf := cx_let_at hf ea8
        refine cx_last (ws' := (wd_LA k e0_a e0_n a8)) C dX3_carry_32 0 rfl (cx_ib_in g7) (by rw [ea8]; rfl) ?_
        clear ea8 g7
        refine cx_lload_n C dX3_carry_33 0 rfl ?_
        refine cx_bipush (v := 30) C dX3_carry_34 (by decide) ?_
        refine cx_lshr C dX3_carry_36 ?_
        refine cx_topl (fun v9 ev9 => ?_)
        have hf := cx_let_at hf ev9
        clear ev9
        refine cx_lstore_n (lv' := [(2, .long v9), (0, .ref e0_a), (1, .int p1), (4, .int x4_3)]) C dX3_carry_37 rfl (by decide) rfl ?_
        refine cx_iinc (v := x4_3 + 1) (lv' := [(4, .int (x4_3 + 1)), (2, .long v9), (0, .ref e0_a), (1, .int p1)]) C dX3_carry_38 3 rfl rfl (by decide) rfl ?_
        refine cx_goto (tgt := 7) C dX3_carry_41 (by decide) ?_
        refine cx_lv [2, 3, 1, 0] rfl ?_
        exact ih7 a8 v9 (x4_3 + 1) hf
  unfold f_X3_carry at hf
  refine cx_lconst (v := 0) C dX3_carry_0 (by decide) ?_
  refine cx_lstore_n (lv' := [(2, .long 0), (0, .ref e0_a), (1, .int p1)]) C dX3_carry_1 rfl (by decide) rfl ?_
  refine cx_iload_n C dX3_carry_2 2 rfl ?_
  refine cx_iconst (v := 4) C dX3_carry_3 (by decide) ?_
  refine cx_imul C dX3_carry_4 ?_
  refine cx_istore (lv' := [(4, .int (p1 * 4)), (2, .long 0), (0, .ref e0_a), (1, .int p1)]) C dX3_carry_5 (by decide) rfl ?_
  refine cx_lv [2, 3, 1, 0] rfl ?_
  exact L7 cx_N0 e0_x 0 (p1 * 4) hf
theorem dX3_subtract_0 : decode cX3_subtract 0 = .ok (.iconst 0, 1) := by decide +kernel
theorem dX3_subtract_1 : decode cX3_subtract 1 = .ok (.istore 4, 2) := by decide +kernel
theorem dX3_subtract_3 : decode cX3_subtract 3 = .ok (.iload 4, 2) := by decide +kernel
theorem dX3_subtract_5 : decode cX3_subtract 5 = .ok (.iconst 4, 1) := by decide +kernel
theorem dX3_subtract_6 : decode cX3_subtract 6 = .ok (.if_icmp .ge 28, 3) := by decide +kernel
theorem dX3_subtract_9 : decode cX3_subtract 9 = .ok (.aload_n 0, 1) := by decide +kernel
theorem dX3_subtract_10 : decode cX3_subtract 10 = .ok (.iload_n 1, 1) := by decide +kernel
theorem dX3_subtract_11 : decode cX3_subtract 11 = .ok (.iconst 4, 1) := by decide +kernel
theorem dX3_subtract_12 : decode cX3_subtract 12 = .ok (.imul, 1) := by decide +kernel
theorem dX3_subtract_13 : decode cX3_subtract 13 = .ok (.iload 4, 2) := by decide +kernel
theorem dX3_subtract_15 : decode cX3_subtract 15 = .ok (.iadd, 1) := by decide +kernel
theorem dX3_subtract_16 : decode cX3_subtract 16 = .ok (.dup2, 1) := by decide +kernel
theorem dX3_subtract_17 : decode cX3_subtract 17 = .ok (.laload, 1) := by decide +kernel
theorem dX3_subtract_18 : decode cX3_subtract 18 = .ok (.aload_n 2, 1) := by decide +kernel
theorem dX3_subtract_19 : decode cX3_subtract 19 = .ok (.iload_n 3, 1) := by decide +kernel
theorem dX3_subtract_20 : decode cX3_subtract 20 = .ok (.iconst 4, 1) := by decide +kernel
theorem dX3_subtract_21 : decode cX3_subtract 21 = .ok (.imul, 1) := by decide +kernel
theorem dX3_subtract_22 : decode cX3_subtract 22 = .ok (.iload 4, 2) := by decide +kernel
theorem dX3_subtract_24 : decode cX3_subtract 24 = .ok (.iadd, 1) := by decide +kernel
theorem dX3_subtract_25 : decode cX3_subtract 25 = .ok (.laload, 1) := by decide +kernel
theorem dX3_subtract_26 : decode cX3_subtract 26 = .ok (.lsub, 1) := by decide +kernel
theorem dX3_subtract_27 : decode cX3_subtract 27 = .ok (.lastore, 1) := by decide +kernel
theorem dX3_subtract_28 : decode cX3_subtract 28 = .ok (.iinc 4 1, 3) := by decide +kernel
theorem dX3_subtract_31 : decode cX3_subtract 31 = .ok (.goto (-28), 3) := by decide +kernel
theorem dX3_subtract_34 : decode cX3_subtract 34 = .ok (.aload_n 0, 1) := by decide +kernel
theorem dX3_subtract_35 : decode cX3_subtract 35 = .ok (.iload_n 1, 1) := by decide +kernel
theorem dX3_subtract_36 : decode cX3_subtract 36 = .ok (.invokestatic 21, 3) := by decide +kernel
theorem dX3_subtract_39 : decode cX3_subtract 39 = .ok (.return_, 1) := by decide +kernel
theorem me_X3_subtract : cx_Ms yX3_subtract cX3_subtract 5 none 4 := ⟨⟨⟨by decide +kernel, by decide +kernel, by decide +kernel⟩, hw_17, hw_795⟩, hw_794⟩
noncomputable def f_X3_subtract_L3 (e0_n : Nat) (p1 : Int32) (e2_n : Nat) (e2_x : Nat → Int64) (p3 : Int32) (rc3 : (Nat → Int64) → Int32 → Option (Nat → Int64)) (a_1 : Nat → Int64) (x4_2 : Int32) : Option (Nat → Int64) := if 4 ≤ x4_2 then (Option.bind (f_X3_carry e0_n a_1 p1) (fun u4 => some u4)) else (cx_gd (cx_ib ((p1 * 4) + x4_2) e0_n) (cx_gd (cx_ib ((p3 * 4) + x4_2) e2_n) (cx_gd (cx_ib ((p1 * 4) + x4_2) e0_n) (cx_let (vp_updL a_1 (cx_ix ((p1 * 4) + x4_2)) ((a_1 (cx_ix ((p1 * 4) + x4_2))) - (e2_x (cx_ix ((p3 * 4) + x4_2))))) (fun a9 => rc3 a9 (x4_2 + 1))))))
noncomputable def f_X3_subtract_L3w (e0_n : Nat) (p1 : Int32) (e2_n : Nat) (e2_x : Nat → Int64) (p3 : Int32) (n : Nat) : (Nat → Int64) → Int32 → Option (Nat → Int64) := Nat.rec (fun _ _ => none) (fun _ r => f_X3_subtract_L3 e0_n p1 e2_n e2_x p3 r) n
noncomputable def f_X3_subtract (e0_n : Nat) (e0_x : Nat → Int64) (p1 : Int32) (e2_n : Nat) (e2_x : Nat → Int64) (p3 : Int32) : Option (Nat → Int64) := f_X3_subtract_L3w e0_n p1 e2_n e2_x p3 cx_N0 e0_x 0
set_option maxHeartbeats 4000000 in
set_option maxRecDepth 100000 in
theorem c_X3_subtract (l : Launch) (D : va_G) (k : Nat → ClassId) (e0_a : Nat) (e2_a : Nat) (e0_n : Nat) (e0_x : Nat → Int64) (p1 : Int32) (e2_n : Nat) (e2_x : Nat → Int64) (p3 : Int32) (y : Nat → Int64) (hf : f_X3_subtract e0_n e0_x p1 e2_n e2_x p3 = some y) : cx_M l yX3_subtract cX3_subtract 5 none 2 D k [.ref e0_a, .int p1, .ref e2_a, .int p3] (wd_LA k e0_a e0_n e0_x ++ (wd_LA k e2_a e2_n e2_x)) (fun sz => cx_Qv D (wd_LA k e0_a e0_n e0_x ++ (wd_LA k e2_a e2_n e2_x)) (wd_LA k e0_a e0_n y ++ (wd_LA k e2_a e2_n e2_x)) sz) := by
  refine cx_met (own := "NamelessBox$Limbs") (by decide) rfl (Nat.le_of_ble_eq_true rfl) ?_
  intro p e s m args below meth c A Q C hA hQ hr hlk
  refine cx_lv (lv' := [(0, .ref e0_a), (1, .int p1), (2, .ref e2_a), (3, .int p3)]) [0, 1, 2, 3] rfl ?_
  have L3 : ∀ (n3 : Nat) (a_1 : Nat → Int64) (x4_2 : Int32), f_X3_subtract_L3w e0_n p1 e2_n e2_x p3 n3 a_1 x4_2 = some y → cx_S p l e (cx_rm 2) s m args below meth c A D 5 0 0 Q 3 [(0, .ref e0_a), (1, .int p1), (2, .ref e2_a), (3, .int p3), (4, .int x4_2)] [] (wd_LA k e0_a e0_n a_1 ++ (wd_LA k e2_a e2_n e2_x)) := by
    intro  n3
    induction n3 with
    | zero =>
      intro a_1 x4_2 hf
      exact absurd (show (none : Option (Nat → Int64)) = some y from hf) (fun h => by cases h)
    | succ n3 ih3 =>
      intro a_1 x4_2 hf
      have hf : f_X3_subtract_L3 e0_n p1 e2_n e2_x p3 (f_X3_subtract_L3w e0_n p1 e2_n e2_x p3 n3) a_1 x4_2 = some y := hf
      unfold f_X3_subtract_L3 at hf
      refine cx_iload C dX3_subtract_3 4 rfl ?_
      refine cx_iconst (v := 4) C dX3_subtract_5 (by decide) ?_
      refine cx_icmp_ge (tgt := 34) C dX3_subtract_6 (by decide) (fun c3 => ?_) (fun c3 => ?_)
      · have hf := cx_if_t hf c3
        clear c3
        refine cx_aload_n C dX3_subtract_34 0 rfl ?_
        refine cx_iload_n C dX3_subtract_35 1 rfl ?_
        obtain ⟨u4, e5, hf⟩ := cx_bd_at hf
        refine cx_csv (As := [.ref e0_a, .int p1]) (rest := []) (ws' := (wd_LA k e0_a e0_n u4 ++ (wd_LA k e2_a e2_n e2_x))) hA C me_X3_carry hw_796 (c_X3_carry l D k e0_a e0_n a_1 p1 u4 e5) dX3_subtract_36 ⟨Nat.le_of_ble_eq_true rfl, Nat.le_of_ble_eq_true rfl⟩ ⟨Nat.zero_le _, Nat.zero_le _⟩ rfl rfl (Nat.le_of_ble_eq_true rfl) [0] rfl (by decide) rfl rfl ?_
        clear e5
        obtain rfl := Option.some.inj hf
        exact cx_vret C hA hQ hr hlk dX3_subtract_39 rfl
      · have hf := cx_if_f hf c3
        clear c3
        refine cx_aload_n C dX3_subtract_9 0 rfl ?_
        refine cx_iload_n C dX3_subtract_10 1 rfl ?_
        refine cx_iconst (v := 4) C dX3_subtract_11 (by decide) ?_
        refine cx_imul C dX3_subtract_12 ?_
        refine cx_iload C dX3_subtract_13 4 rfl ?_
        refine cx_iadd C dX3_subtract_15 ?_
        refine cx_dup2_11 C dX3_subtract_16 rfl rfl ?_
        obtain ⟨g6, hf⟩ := cx_gd_at hf
        refine cx_lald C dX3_subtract_17 0 rfl (cx_ib_in g6) ?_
        clear g6
        refine cx_aload_n C dX3_subtract_18 2 rfl ?_
        refine cx_iload_n C dX3_subtract_19 3 rfl ?_
        refine cx_iconst (v := 4) C dX3_subtract_20 (by decide) ?_
        refine cx_imul C dX3_subtract_21 ?_
        refine cx_iload C dX3_subtract_22 4 rfl ?_
        refine cx_iadd C dX3_subtract_24 ?_
        obtain ⟨g7, hf⟩ := cx_gd_at hf
        refine cx_lald C dX3_subtract_25 1 rfl (cx_ib_in g7) ?_
        clear g7
        refine cx_lsub C dX3_subtract_26 ?_
        obtain ⟨g8, hf⟩ := cx_gd_at hf
        obtain ⟨a9, ea9⟩ : ∃ z, z = vp_updL a_1 (cx_ix ((p1 * 4) + x4_2)) ((a_1 (cx_ix ((p1 * 4) + x4_2))) - (e2_x (cx_ix ((p3 * 4) + x4_2)))) := ⟨_, rfl⟩
        have hf := cx_let_at hf ea9
        refine cx_last (ws' := (wd_LA k e0_a e0_n a9 ++ (wd_LA k e2_a e2_n e2_x))) C dX3_subtract_27 0 rfl (cx_ib_in g8) (by rw [ea9]; rfl) ?_
        clear ea9 g8
        refine cx_iinc (v := x4_2 + 1) (lv' := [(4, .int (x4_2 + 1)), (0, .ref e0_a), (1, .int p1), (2, .ref e2_a), (3, .int p3)]) C dX3_subtract_28 4 rfl rfl (by decide) rfl ?_
        refine cx_goto (tgt := 3) C dX3_subtract_31 (by decide) ?_
        refine cx_lv [1, 2, 3, 4, 0] rfl ?_
        exact ih3 a9 (x4_2 + 1) hf
  unfold f_X3_subtract at hf
  refine cx_iconst (v := 0) C dX3_subtract_0 (by decide) ?_
  refine cx_istore (lv' := [(4, .int 0), (0, .ref e0_a), (1, .int p1), (2, .ref e2_a), (3, .int p3)]) C dX3_subtract_1 (by decide) rfl ?_
  refine cx_lv [1, 2, 3, 4, 0] rfl ?_
  exact L3 cx_N0 e0_x 0 hf
theorem dX3_multiply_0 : decode cX3_multiply 0 = .ok (.lload 4, 2) := by decide +kernel
theorem dX3_multiply_2 : decode cX3_multiply 2 = .ok (.ldc2_w 19, 3) := by decide +kernel
theorem dX3_multiply_5 : decode cX3_multiply 5 = .ok (.land, 1) := by decide +kernel
theorem dX3_multiply_6 : decode cX3_multiply 6 = .ok (.lstore 6, 2) := by decide +kernel
theorem dX3_multiply_8 : decode cX3_multiply 8 = .ok (.lload 4, 2) := by decide +kernel
theorem dX3_multiply_10 : decode cX3_multiply 10 = .ok (.bipush 30, 2) := by decide +kernel
theorem dX3_multiply_12 : decode cX3_multiply 12 = .ok (.lshr, 1) := by decide +kernel
theorem dX3_multiply_13 : decode cX3_multiply 13 = .ok (.lstore 8, 2) := by decide +kernel
theorem dX3_multiply_15 : decode cX3_multiply 15 = .ok (.lconst 0, 1) := by decide +kernel
theorem dX3_multiply_16 : decode cX3_multiply 16 = .ok (.lstore 10, 2) := by decide +kernel
theorem dX3_multiply_18 : decode cX3_multiply 18 = .ok (.lconst 0, 1) := by decide +kernel
theorem dX3_multiply_19 : decode cX3_multiply 19 = .ok (.lstore 12, 2) := by decide +kernel
theorem dX3_multiply_21 : decode cX3_multiply 21 = .ok (.iconst 0, 1) := by decide +kernel
theorem dX3_multiply_22 : decode cX3_multiply 22 = .ok (.istore 14, 2) := by decide +kernel
theorem dX3_multiply_24 : decode cX3_multiply 24 = .ok (.iload 14, 2) := by decide +kernel
theorem dX3_multiply_26 : decode cX3_multiply 26 = .ok (.iconst 4, 1) := by decide +kernel
theorem dX3_multiply_27 : decode cX3_multiply 27 = .ok (.if_icmp .ge 60, 3) := by decide +kernel
theorem dX3_multiply_30 : decode cX3_multiply 30 = .ok (.aload_n 2, 1) := by decide +kernel
theorem dX3_multiply_31 : decode cX3_multiply 31 = .ok (.iload_n 3, 1) := by decide +kernel
theorem dX3_multiply_32 : decode cX3_multiply 32 = .ok (.iconst 4, 1) := by decide +kernel
theorem dX3_multiply_33 : decode cX3_multiply 33 = .ok (.imul, 1) := by decide +kernel
theorem dX3_multiply_34 : decode cX3_multiply 34 = .ok (.iload 14, 2) := by decide +kernel
theorem dX3_multiply_36 : decode cX3_multiply 36 = .ok (.iadd, 1) := by decide +kernel
theorem dX3_multiply_37 : decode cX3_multiply 37 = .ok (.laload, 1) := by decide +kernel
theorem dX3_multiply_38 : decode cX3_multiply 38 = .ok (.lstore 15, 2) := by decide +kernel
theorem dX3_multiply_40 : decode cX3_multiply 40 = .ok (.lload 10, 2) := by decide +kernel
theorem dX3_multiply_42 : decode cX3_multiply 42 = .ok (.lload 15, 2) := by decide +kernel
theorem dX3_multiply_44 : decode cX3_multiply 44 = .ok (.lload 6, 2) := by decide +kernel
theorem dX3_multiply_46 : decode cX3_multiply 46 = .ok (.lmul, 1) := by decide +kernel
theorem dX3_multiply_47 : decode cX3_multiply 47 = .ok (.lload 12, 2) := by decide +kernel
theorem dX3_multiply_49 : decode cX3_multiply 49 = .ok (.lload 8, 2) := by decide +kernel
theorem dX3_multiply_51 : decode cX3_multiply 51 = .ok (.lmul, 1) := by decide +kernel
theorem dX3_multiply_52 : decode cX3_multiply 52 = .ok (.ladd, 1) := by decide +kernel
theorem dX3_multiply_53 : decode cX3_multiply 53 = .ok (.ladd, 1) := by decide +kernel
theorem dX3_multiply_54 : decode cX3_multiply 54 = .ok (.lstore 10, 2) := by decide +kernel
theorem dX3_multiply_56 : decode cX3_multiply 56 = .ok (.aload_n 0, 1) := by decide +kernel
theorem dX3_multiply_57 : decode cX3_multiply 57 = .ok (.iload_n 1, 1) := by decide +kernel
theorem dX3_multiply_58 : decode cX3_multiply 58 = .ok (.iconst 4, 1) := by decide +kernel
theorem dX3_multiply_59 : decode cX3_multiply 59 = .ok (.imul, 1) := by decide +kernel
theorem dX3_multiply_60 : decode cX3_multiply 60 = .ok (.iload 14, 2) := by decide +kernel
theorem dX3_multiply_62 : decode cX3_multiply 62 = .ok (.iadd, 1) := by decide +kernel
theorem dX3_multiply_63 : decode cX3_multiply 63 = .ok (.lload 10, 2) := by decide +kernel
theorem dX3_multiply_65 : decode cX3_multiply 65 = .ok (.ldc2_w 19, 3) := by decide +kernel
theorem dX3_multiply_68 : decode cX3_multiply 68 = .ok (.land, 1) := by decide +kernel
theorem dX3_multiply_69 : decode cX3_multiply 69 = .ok (.lastore, 1) := by decide +kernel
theorem dX3_multiply_70 : decode cX3_multiply 70 = .ok (.lload 10, 2) := by decide +kernel
theorem dX3_multiply_72 : decode cX3_multiply 72 = .ok (.bipush 30, 2) := by decide +kernel
theorem dX3_multiply_74 : decode cX3_multiply 74 = .ok (.lshr, 1) := by decide +kernel
theorem dX3_multiply_75 : decode cX3_multiply 75 = .ok (.lstore 10, 2) := by decide +kernel
theorem dX3_multiply_77 : decode cX3_multiply 77 = .ok (.lload 15, 2) := by decide +kernel
theorem dX3_multiply_79 : decode cX3_multiply 79 = .ok (.lstore 12, 2) := by decide +kernel
theorem dX3_multiply_81 : decode cX3_multiply 81 = .ok (.iinc 14 1, 3) := by decide +kernel
theorem dX3_multiply_84 : decode cX3_multiply 84 = .ok (.goto (-60), 3) := by decide +kernel
theorem dX3_multiply_87 : decode cX3_multiply 87 = .ok (.return_, 1) := by decide +kernel
theorem me_X3_multiply : cx_Ms yX3_multiply cX3_multiply 17 none 5 := ⟨⟨⟨by decide +kernel, by decide +kernel, by decide +kernel⟩, hw_17, hw_679⟩, hw_678⟩
noncomputable def f_X3_multiply_L24 (e0_n : Nat) (p1 : Int32) (e2_n : Nat) (e2_x : Nat → Int64) (p3 : Int32) (x6_3 : Int64) (x8_4 : Int64) (rc24 : (Nat → Int64) → Int64 → Int64 → Int32 → Option (Nat → Int64)) (a_2 : Nat → Int64) (x10_5 : Int64) (x12_6 : Int64) (x14_7 : Int32) : Option (Nat → Int64) := if 4 ≤ x14_7 then (some a_2) else (cx_gd (cx_ib ((p3 * 4) + x14_7) e2_n) (cx_let (e2_x (cx_ix ((p3 * 4) + x14_7))) (fun v10 => cx_let (x10_5 + ((v10 * x6_3) + (x12_6 * x8_4))) (fun v11 => cx_gd (cx_ib ((p1 * 4) + x14_7) e0_n) (cx_let (vp_updL a_2 (cx_ix ((p1 * 4) + x14_7)) (v11 &&& 1073741823)) (fun a13 => cx_let (v11 >>> (Int32.toInt64 30 &&& 63)) (fun v14 => rc24 a13 v14 v10 (x14_7 + 1))))))))
noncomputable def f_X3_multiply_L24w (e0_n : Nat) (p1 : Int32) (e2_n : Nat) (e2_x : Nat → Int64) (p3 : Int32) (x6_3 : Int64) (x8_4 : Int64) (n : Nat) : (Nat → Int64) → Int64 → Int64 → Int32 → Option (Nat → Int64) := Nat.rec (fun _ _ _ _ => none) (fun _ r => f_X3_multiply_L24 e0_n p1 e2_n e2_x p3 x6_3 x8_4 r) n
noncomputable def f_X3_multiply (e0_n : Nat) (e0_x : Nat → Int64) (p1 : Int32) (e2_n : Nat) (e2_x : Nat → Int64) (p3 : Int32) (p4 : Int64) : Option (Nat → Int64) := cx_let (p4 >>> (Int32.toInt64 30 &&& 63)) (fun v1 => f_X3_multiply_L24w e0_n p1 e2_n e2_x p3 (p4 &&& 1073741823) v1 cx_N0 e0_x 0 0 0)
set_option maxHeartbeats 4000000 in
set_option maxRecDepth 100000 in
theorem c_X3_multiply (l : Launch) (D : va_G) (k : Nat → ClassId) (e0_a : Nat) (e2_a : Nat) (e0_n : Nat) (e0_x : Nat → Int64) (p1 : Int32) (e2_n : Nat) (e2_x : Nat → Int64) (p3 : Int32) (p4 : Int64) (y : Nat → Int64) (hf : f_X3_multiply e0_n e0_x p1 e2_n e2_x p3 p4 = some y) : cx_M l yX3_multiply cX3_multiply 17 none 1 D k [.ref e0_a, .int p1, .ref e2_a, .int p3, .long p4] (wd_LA k e0_a e0_n e0_x ++ (wd_LA k e2_a e2_n e2_x)) (fun sz => cx_Qv D (wd_LA k e0_a e0_n e0_x ++ (wd_LA k e2_a e2_n e2_x)) (wd_LA k e0_a e0_n y ++ (wd_LA k e2_a e2_n e2_x)) sz) := by
  refine cx_met (own := "NamelessBox$Limbs") (by decide) rfl (Nat.le_of_ble_eq_true rfl) ?_
  intro p e s m args below meth c A Q C hA hQ hr hlk
  refine cx_lv (lv' := [(0, .ref e0_a), (1, .int p1), (2, .ref e2_a), (3, .int p3), (4, .long p4)]) [0, 1, 2, 3, 4] rfl ?_
  have L24 : ∀ (x6_3 : Int64) (x8_4 : Int64) (n24 : Nat) (a_2 : Nat → Int64) (x10_5 : Int64) (x12_6 : Int64) (x14_7 : Int32), f_X3_multiply_L24w e0_n p1 e2_n e2_x p3 x6_3 x8_4 n24 a_2 x10_5 x12_6 x14_7 = some y → cx_S p l e (cx_rm 1) s m args below meth c A D 17 0 0 Q 24 [(0, .ref e0_a), (1, .int p1), (2, .ref e2_a), (3, .int p3), (6, .long x6_3), (8, .long x8_4), (10, .long x10_5), (12, .long x12_6), (14, .int x14_7)] [] (wd_LA k e0_a e0_n a_2 ++ (wd_LA k e2_a e2_n e2_x)) := by
    intro x6_3 x8_4 n24
    induction n24 with
    | zero =>
      intro a_2 x10_5 x12_6 x14_7 hf
      exact absurd (show (none : Option (Nat → Int64)) = some y from hf) (fun h => by cases h)
    | succ n24 ih24 =>
      intro a_2 x10_5 x12_6 x14_7 hf
      have hf : f_X3_multiply_L24 e0_n p1 e2_n e2_x p3 x6_3 x8_4 (f_X3_multiply_L24w e0_n p1 e2_n e2_x p3 x6_3 x8_4 n24) a_2 x10_5 x12_6 x14_7 = some y := hf
      unfold f_X3_multiply_L24 at hf
      refine cx_iload C dX3_multiply_24 8 rfl ?_
      refine cx_iconst (v := 4) C dX3_multiply_26 (by decide) ?_
      refine cx_icmp_ge (tgt := 87) C dX3_multiply_27 (by decide) (fun c8 => ?_) (fun c8 => ?_)
      · have hf := cx_if_t hf c8
        clear c8
        obtain rfl := Option.some.inj hf
        exact cx_vret C hA hQ hr hlk dX3_multiply_87 rfl
      · have hf := cx_if_f hf c8
        clear c8
        refine cx_aload_n C dX3_multiply_30 2 rfl ?_
        refine cx_iload_n C dX3_multiply_31 3 rfl ?_
        refine cx_iconst (v := 4) C dX3_multiply_32 (by decide) ?_
        refine cx_imul C dX3_multiply_33 ?_
        refine cx_iload C dX3_multiply_34 8 rfl ?_
        refine cx_iadd C dX3_multiply_36 ?_
        obtain ⟨g9, hf⟩ := cx_gd_at hf
        refine cx_lald C dX3_multiply_37 1 rfl (cx_ib_in g9) ?_
        clear g9
        refine cx_topl (fun v10 ev10 => ?_)
        have hf := cx_let_at hf ev10
        clear ev10
        refine cx_lstore (lv' := [(15, .long v10), (0, .ref e0_a), (1, .int p1), (2, .ref e2_a), (3, .int p3), (6, .long x6_3), (8, .long x8_4), (10, .long x10_5), (12, .long x12_6), (14, .int x14_7)]) C dX3_multiply_38 (by decide) rfl ?_
        refine cx_lload C dX3_multiply_40 7 rfl ?_
        refine cx_lload C dX3_multiply_42 0 rfl ?_
        refine cx_lload C dX3_multiply_44 5 rfl ?_
        refine cx_lmul C dX3_multiply_46 ?_
        refine cx_lload C dX3_multiply_47 8 rfl ?_
        refine cx_lload C dX3_multiply_49 6 rfl ?_
        refine cx_lmul C dX3_multiply_51 ?_
        refine cx_ladd C dX3_multiply_52 ?_
        refine cx_ladd C dX3_multiply_53 ?_
        refine cx_topl (fun v11 ev11 => ?_)
        have hf := cx_let_at hf ev11
        clear ev11
        refine cx_lstore (lv' := [(10, .long v11), (15, .long v10), (0, .ref e0_a), (1, .int p1), (2, .ref e2_a), (3, .int p3), (6, .long x6_3), (8, .long x8_4), (12, .long x12_6), (14, .int x14_7)]) C dX3_multiply_54 (by decide) rfl ?_
        refine cx_aload_n C dX3_multiply_56 2 rfl ?_
        refine cx_iload_n C dX3_multiply_57 3 rfl ?_
        refine cx_iconst (v := 4) C dX3_multiply_58 (by decide) ?_
        refine cx_imul C dX3_multiply_59 ?_
        refine cx_iload C dX3_multiply_60 9 rfl ?_
        refine cx_iadd C dX3_multiply_62 ?_
        refine cx_lload C dX3_multiply_63 0 rfl ?_
        refine cx_ldc2 (v := 1073741823) C dX3_multiply_65 hw_680 ?_
        refine cx_land C dX3_multiply_68 ?_
        obtain ⟨g12, hf⟩ := cx_gd_at hf
        obtain ⟨a13, ea13⟩ : ∃ z, z = vp_updL a_2 (cx_ix ((p1 * 4) + x14_7)) (v11 &&& 1073741823) := ⟨_, rfl⟩
        have hf := cx_let_at hf ea13
        refine cx_last (ws' := (wd_LA k e0_a e0_n a13 ++ (wd_LA k e2_a e2_n e2_x))) C dX3_multiply_69 0 rfl (cx_ib_in g12) (by rw [ea13]; rfl) ?_
        clear ea13 g12
        refine cx_lload C dX3_multiply_70 0 rfl ?_
        refine cx_bipush (v := 30) C dX3_multiply_72 (by decide) ?_
        refine cx_lshr C dX3_multiply_74 ?_
        refine cx_topl (fun v14 ev14 => ?_)
        have hf := cx_let_at hf ev14
        clear ev14
        refine cx_lstore (lv' := [(10, .long v14), (15, .long v10), (0, .ref e0_a), (1, .int p1), (2, .ref e2_a), (3, .int p3), (6, .long x6_3), (8, .long x8_4), (12, .long x12_6), (14, .int x14_7)]) C dX3_multiply_75 (by decide) rfl ?_
        refine cx_lload C dX3_multiply_77 1 rfl ?_
        refine cx_lstore (lv' := [(12, .long v10), (10, .long v14), (15, .long v10), (0, .ref e0_a), (1, .int p1), (2, .ref e2_a), (3, .int p3), (6, .long x6_3), (8, .long x8_4), (14, .int x14_7)]) C dX3_multiply_79 (by decide) rfl ?_
        refine cx_iinc (v := x14_7 + 1) (lv' := [(14, .int (x14_7 + 1)), (12, .long v10), (10, .long v14), (15, .long v10), (0, .ref e0_a), (1, .int p1), (2, .ref e2_a), (3, .int p3), (6, .long x6_3), (8, .long x8_4)]) C dX3_multiply_81 9 rfl rfl (by decide) rfl ?_
        refine cx_goto (tgt := 24) C dX3_multiply_84 (by decide) ?_
        refine cx_lv [4, 5, 6, 7, 8, 9, 2, 1, 0] rfl ?_
        exact ih24 a13 v14 v10 (x14_7 + 1) hf
  unfold f_X3_multiply at hf
  refine cx_lload C dX3_multiply_0 4 rfl ?_
  refine cx_ldc2 (v := 1073741823) C dX3_multiply_2 hw_680 ?_
  refine cx_land C dX3_multiply_5 ?_
  refine cx_lstore (lv' := [(6, .long (p4 &&& 1073741823)), (0, .ref e0_a), (1, .int p1), (2, .ref e2_a), (3, .int p3), (4, .long p4)]) C dX3_multiply_6 (by decide) rfl ?_
  refine cx_lload C dX3_multiply_8 5 rfl ?_
  refine cx_bipush (v := 30) C dX3_multiply_10 (by decide) ?_
  refine cx_lshr C dX3_multiply_12 ?_
  refine cx_topl (fun v1 ev1 => ?_)
  have hf := cx_let_at hf ev1
  clear ev1
  refine cx_lstore (lv' := [(8, .long v1), (6, .long (p4 &&& 1073741823)), (0, .ref e0_a), (1, .int p1), (2, .ref e2_a), (3, .int p3), (4, .long p4)]) C dX3_multiply_13 (by decide) rfl ?_
  refine cx_lconst (v := 0) C dX3_multiply_15 (by decide) ?_
  refine cx_lstore (lv' := [(10, .long 0), (8, .long v1), (6, .long (p4 &&& 1073741823)), (0, .ref e0_a), (1, .int p1), (2, .ref e2_a), (3, .int p3), (4, .long p4)]) C dX3_multiply_16 (by decide) rfl ?_
  refine cx_lconst (v := 0) C dX3_multiply_18 (by decide) ?_
  refine cx_lstore (lv' := [(12, .long 0), (10, .long 0), (8, .long v1), (6, .long (p4 &&& 1073741823)), (0, .ref e0_a), (1, .int p1), (2, .ref e2_a), (3, .int p3), (4, .long p4)]) C dX3_multiply_19 (by decide) rfl ?_
  refine cx_iconst (v := 0) C dX3_multiply_21 (by decide) ?_
  refine cx_istore (lv' := [(14, .int 0), (12, .long 0), (10, .long 0), (8, .long v1), (6, .long (p4 &&& 1073741823)), (0, .ref e0_a), (1, .int p1), (2, .ref e2_a), (3, .int p3), (4, .long p4)]) C dX3_multiply_22 (by decide) rfl ?_
  refine cx_lv [5, 6, 7, 8, 4, 3, 2, 1, 0] rfl ?_
  exact L24 (p4 &&& 1073741823) v1 cx_N0 e0_x 0 0 0 hf
noncomputable def f_X3_multiply_x_e0_L24 (e0_n : Nat) (p1 : Int32) (p3 : Int32) (x6_3 : Int64) (x8_4 : Int64) (rc24 : (Nat → Int64) → Int64 → Int64 → Int32 → Option (Nat → Int64)) (a_2 : Nat → Int64) (x10_5 : Int64) (x12_6 : Int64) (x14_7 : Int32) : Option (Nat → Int64) := if 4 ≤ x14_7 then (some a_2) else (cx_gd (cx_ib ((p3 * 4) + x14_7) e0_n) (cx_let (a_2 (cx_ix ((p3 * 4) + x14_7))) (fun v10 => cx_let (x10_5 + ((v10 * x6_3) + (x12_6 * x8_4))) (fun v11 => cx_gd (cx_ib ((p1 * 4) + x14_7) e0_n) (cx_let (vp_updL a_2 (cx_ix ((p1 * 4) + x14_7)) (v11 &&& 1073741823)) (fun a13 => cx_let (v11 >>> (Int32.toInt64 30 &&& 63)) (fun v14 => rc24 a13 v14 v10 (x14_7 + 1))))))))
noncomputable def f_X3_multiply_x_e0_L24w (e0_n : Nat) (p1 : Int32) (p3 : Int32) (x6_3 : Int64) (x8_4 : Int64) (n : Nat) : (Nat → Int64) → Int64 → Int64 → Int32 → Option (Nat → Int64) := Nat.rec (fun _ _ _ _ => none) (fun _ r => f_X3_multiply_x_e0_L24 e0_n p1 p3 x6_3 x8_4 r) n
noncomputable def f_X3_multiply_x_e0 (e0_n : Nat) (e0_x : Nat → Int64) (p1 : Int32) (p3 : Int32) (p4 : Int64) : Option (Nat → Int64) := cx_let (p4 >>> (Int32.toInt64 30 &&& 63)) (fun v1 => f_X3_multiply_x_e0_L24w e0_n p1 p3 (p4 &&& 1073741823) v1 cx_N0 e0_x 0 0 0)
set_option maxHeartbeats 4000000 in
set_option maxRecDepth 100000 in
theorem c_X3_multiply_x_e0 (l : Launch) (D : va_G) (k : Nat → ClassId) (e0_a : Nat) (e0_n : Nat) (e0_x : Nat → Int64) (p1 : Int32) (p3 : Int32) (p4 : Int64) (y : Nat → Int64) (hf : f_X3_multiply_x_e0 e0_n e0_x p1 p3 p4 = some y) : cx_M l yX3_multiply cX3_multiply 17 none 1 D k [.ref e0_a, .int p1, .ref e0_a, .int p3, .long p4] (wd_LA k e0_a e0_n e0_x) (fun sz => cx_Qv D (wd_LA k e0_a e0_n e0_x) (wd_LA k e0_a e0_n y) sz) := by
  refine cx_met (own := "NamelessBox$Limbs") (by decide) rfl (Nat.le_of_ble_eq_true rfl) ?_
  intro p e s m args below meth c A Q C hA hQ hr hlk
  refine cx_lv (lv' := [(0, .ref e0_a), (1, .int p1), (2, .ref e0_a), (3, .int p3), (4, .long p4)]) [0, 1, 2, 3, 4] rfl ?_
  have L24 : ∀ (x6_3 : Int64) (x8_4 : Int64) (n24 : Nat) (a_2 : Nat → Int64) (x10_5 : Int64) (x12_6 : Int64) (x14_7 : Int32), f_X3_multiply_x_e0_L24w e0_n p1 p3 x6_3 x8_4 n24 a_2 x10_5 x12_6 x14_7 = some y → cx_S p l e (cx_rm 1) s m args below meth c A D 17 0 0 Q 24 [(0, .ref e0_a), (1, .int p1), (2, .ref e0_a), (3, .int p3), (6, .long x6_3), (8, .long x8_4), (10, .long x10_5), (12, .long x12_6), (14, .int x14_7)] [] (wd_LA k e0_a e0_n a_2) := by
    intro x6_3 x8_4 n24
    induction n24 with
    | zero =>
      intro a_2 x10_5 x12_6 x14_7 hf
      exact absurd (show (none : Option (Nat → Int64)) = some y from hf) (fun h => by cases h)
    | succ n24 ih24 =>
      intro a_2 x10_5 x12_6 x14_7 hf
      have hf : f_X3_multiply_x_e0_L24 e0_n p1 p3 x6_3 x8_4 (f_X3_multiply_x_e0_L24w e0_n p1 p3 x6_3 x8_4 n24) a_2 x10_5 x12_6 x14_7 = some y := hf
      unfold f_X3_multiply_x_e0_L24 at hf
      refine cx_iload C dX3_multiply_24 8 rfl ?_
      refine cx_iconst (v := 4) C dX3_multiply_26 (by decide) ?_
      refine cx_icmp_ge (tgt := 87) C dX3_multiply_27 (by decide) (fun c8 => ?_) (fun c8 => ?_)
      · have hf := cx_if_t hf c8
        clear c8
        obtain rfl := Option.some.inj hf
        exact cx_vret C hA hQ hr hlk dX3_multiply_87 rfl
      · have hf := cx_if_f hf c8
        clear c8
        refine cx_aload_n C dX3_multiply_30 2 rfl ?_
        refine cx_iload_n C dX3_multiply_31 3 rfl ?_
        refine cx_iconst (v := 4) C dX3_multiply_32 (by decide) ?_
        refine cx_imul C dX3_multiply_33 ?_
        refine cx_iload C dX3_multiply_34 8 rfl ?_
        refine cx_iadd C dX3_multiply_36 ?_
        obtain ⟨g9, hf⟩ := cx_gd_at hf
        refine cx_lald C dX3_multiply_37 0 rfl (cx_ib_in g9) ?_
        clear g9
        refine cx_topl (fun v10 ev10 => ?_)
        have hf := cx_let_at hf ev10
        clear ev10
        refine cx_lstore (lv' := [(15, .long v10), (0, .ref e0_a), (1, .int p1), (2, .ref e0_a), (3, .int p3), (6, .long x6_3), (8, .long x8_4), (10, .long x10_5), (12, .long x12_6), (14, .int x14_7)]) C dX3_multiply_38 (by decide) rfl ?_
        refine cx_lload C dX3_multiply_40 7 rfl ?_
        refine cx_lload C dX3_multiply_42 0 rfl ?_
        refine cx_lload C dX3_multiply_44 5 rfl ?_
        refine cx_lmul C dX3_multiply_46 ?_
        refine cx_lload C dX3_multiply_47 8 rfl ?_
        refine cx_lload C dX3_multiply_49 6 rfl ?_
        refine cx_lmul C dX3_multiply_51 ?_
        refine cx_ladd C dX3_multiply_52 ?_
        refine cx_ladd C dX3_multiply_53 ?_
        refine cx_topl (fun v11 ev11 => ?_)
        have hf := cx_let_at hf ev11
        clear ev11
        refine cx_lstore (lv' := [(10, .long v11), (15, .long v10), (0, .ref e0_a), (1, .int p1), (2, .ref e0_a), (3, .int p3), (6, .long x6_3), (8, .long x8_4), (12, .long x12_6), (14, .int x14_7)]) C dX3_multiply_54 (by decide) rfl ?_
        refine cx_aload_n C dX3_multiply_56 2 rfl ?_
        refine cx_iload_n C dX3_multiply_57 3 rfl ?_
        refine cx_iconst (v := 4) C dX3_multiply_58 (by decide) ?_
        refine cx_imul C dX3_multiply_59 ?_
        refine cx_iload C dX3_multiply_60 9 rfl ?_
        refine cx_iadd C dX3_multiply_62 ?_
        refine cx_lload C dX3_multiply_63 0 rfl ?_
        refine cx_ldc2 (v := 1073741823) C dX3_multiply_65 hw_680 ?_
        refine cx_land C dX3_multiply_68 ?_
        obtain ⟨g12, hf⟩ := cx_gd_at hf
        obtain ⟨a13, ea13⟩ : ∃ z, z = vp_updL a_2 (cx_ix ((p1 * 4) + x14_7)) (v11 &&& 1073741823) := ⟨_, rfl⟩
        have hf := cx_let_at hf ea13
        refine cx_last (ws' := (wd_LA k e0_a e0_n a13)) C dX3_multiply_69 0 rfl (cx_ib_in g12) (by rw [ea13]; rfl) ?_
        clear ea13 g12
        refine cx_lload C dX3_multiply_70 0 rfl ?_
        refine cx_bipush (v := 30) C dX3_multiply_72 (by decide) ?_
        refine cx_lshr C dX3_multiply_74 ?_
        refine cx_topl (fun v14 ev14 => ?_)
        have hf := cx_let_at hf ev14
        clear ev14
        refine cx_lstore (lv' := [(10, .long v14), (15, .long v10), (0, .ref e0_a), (1, .int p1), (2, .ref e0_a), (3, .int p3), (6, .long x6_3), (8, .long x8_4), (12, .long x12_6), (14, .int x14_7)]) C dX3_multiply_75 (by decide) rfl ?_
        refine cx_lload C dX3_multiply_77 1 rfl ?_
        refine cx_lstore (lv' := [(12, .long v10), (10, .long v14), (15, .long v10), (0, .ref e0_a), (1, .int p1), (2, .ref e0_a), (3, .int p3), (6, .long x6_3), (8, .long x8_4), (14, .int x14_7)]) C dX3_multiply_79 (by decide) rfl ?_
        refine cx_iinc (v := x14_7 + 1) (lv' := [(14, .int (x14_7 + 1)), (12, .long v10), (10, .long v14), (15, .long v10), (0, .ref e0_a), (1, .int p1), (2, .ref e0_a), (3, .int p3), (6, .long x6_3), (8, .long x8_4)]) C dX3_multiply_81 9 rfl rfl (by decide) rfl ?_
        refine cx_goto (tgt := 24) C dX3_multiply_84 (by decide) ?_
        refine cx_lv [4, 5, 6, 7, 8, 9, 2, 1, 0] rfl ?_
        exact ih24 a13 v14 v10 (x14_7 + 1) hf
  unfold f_X3_multiply_x_e0 at hf
  refine cx_lload C dX3_multiply_0 4 rfl ?_
  refine cx_ldc2 (v := 1073741823) C dX3_multiply_2 hw_680 ?_
  refine cx_land C dX3_multiply_5 ?_
  refine cx_lstore (lv' := [(6, .long (p4 &&& 1073741823)), (0, .ref e0_a), (1, .int p1), (2, .ref e0_a), (3, .int p3), (4, .long p4)]) C dX3_multiply_6 (by decide) rfl ?_
  refine cx_lload C dX3_multiply_8 5 rfl ?_
  refine cx_bipush (v := 30) C dX3_multiply_10 (by decide) ?_
  refine cx_lshr C dX3_multiply_12 ?_
  refine cx_topl (fun v1 ev1 => ?_)
  have hf := cx_let_at hf ev1
  clear ev1
  refine cx_lstore (lv' := [(8, .long v1), (6, .long (p4 &&& 1073741823)), (0, .ref e0_a), (1, .int p1), (2, .ref e0_a), (3, .int p3), (4, .long p4)]) C dX3_multiply_13 (by decide) rfl ?_
  refine cx_lconst (v := 0) C dX3_multiply_15 (by decide) ?_
  refine cx_lstore (lv' := [(10, .long 0), (8, .long v1), (6, .long (p4 &&& 1073741823)), (0, .ref e0_a), (1, .int p1), (2, .ref e0_a), (3, .int p3), (4, .long p4)]) C dX3_multiply_16 (by decide) rfl ?_
  refine cx_lconst (v := 0) C dX3_multiply_18 (by decide) ?_
  refine cx_lstore (lv' := [(12, .long 0), (10, .long 0), (8, .long v1), (6, .long (p4 &&& 1073741823)), (0, .ref e0_a), (1, .int p1), (2, .ref e0_a), (3, .int p3), (4, .long p4)]) C dX3_multiply_19 (by decide) rfl ?_
  refine cx_iconst (v := 0) C dX3_multiply_21 (by decide) ?_
  refine cx_istore (lv' := [(14, .int 0), (12, .long 0), (10, .long 0), (8, .long v1), (6, .long (p4 &&& 1073741823)), (0, .ref e0_a), (1, .int p1), (2, .ref e0_a), (3, .int p3), (4, .long p4)]) C dX3_multiply_22 (by decide) rfl ?_
  refine cx_lv [5, 6, 7, 8, 4, 3, 2, 1, 0] rfl ?_
  exact L24 (p4 &&& 1073741823) v1 cx_N0 e0_x 0 0 0 hf
theorem dX3_compare_0 : decode cX3_compare 0 = .ok (.iconst 3, 1) := by decide +kernel
theorem dX3_compare_1 : decode cX3_compare 1 = .ok (.istore 4, 2) := by decide +kernel
theorem dX3_compare_3 : decode cX3_compare 3 = .ok (.iload 4, 2) := by decide +kernel
theorem dX3_compare_5 : decode cX3_compare 5 = .ok (.ifCond .lt 38, 3) := by decide +kernel
theorem dX3_compare_8 : decode cX3_compare 8 = .ok (.aload_n 0, 1) := by decide +kernel
theorem dX3_compare_9 : decode cX3_compare 9 = .ok (.iload_n 1, 1) := by decide +kernel
theorem dX3_compare_10 : decode cX3_compare 10 = .ok (.iconst 4, 1) := by decide +kernel
theorem dX3_compare_11 : decode cX3_compare 11 = .ok (.imul, 1) := by decide +kernel
theorem dX3_compare_12 : decode cX3_compare 12 = .ok (.iload 4, 2) := by decide +kernel
theorem dX3_compare_14 : decode cX3_compare 14 = .ok (.iadd, 1) := by decide +kernel
theorem dX3_compare_15 : decode cX3_compare 15 = .ok (.laload, 1) := by decide +kernel
theorem dX3_compare_16 : decode cX3_compare 16 = .ok (.aload_n 2, 1) := by decide +kernel
theorem dX3_compare_17 : decode cX3_compare 17 = .ok (.iload_n 3, 1) := by decide +kernel
theorem dX3_compare_18 : decode cX3_compare 18 = .ok (.iconst 4, 1) := by decide +kernel
theorem dX3_compare_19 : decode cX3_compare 19 = .ok (.imul, 1) := by decide +kernel
theorem dX3_compare_20 : decode cX3_compare 20 = .ok (.iload 4, 2) := by decide +kernel
theorem dX3_compare_22 : decode cX3_compare 22 = .ok (.iadd, 1) := by decide +kernel
theorem dX3_compare_23 : decode cX3_compare 23 = .ok (.laload, 1) := by decide +kernel
theorem dX3_compare_24 : decode cX3_compare 24 = .ok (.invokestatic 24, 3) := by decide +kernel
theorem dX3_compare_27 : decode cX3_compare 27 = .ok (.istore 5, 2) := by decide +kernel
theorem dX3_compare_29 : decode cX3_compare 29 = .ok (.iload 5, 2) := by decide +kernel
theorem dX3_compare_31 : decode cX3_compare 31 = .ok (.ifCond .eq 6, 3) := by decide +kernel
theorem dX3_compare_34 : decode cX3_compare 34 = .ok (.iload 5, 2) := by decide +kernel
theorem dX3_compare_36 : decode cX3_compare 36 = .ok (.ireturn, 1) := by decide +kernel
theorem dX3_compare_37 : decode cX3_compare 37 = .ok (.iinc 4 (-1), 3) := by decide +kernel
theorem dX3_compare_40 : decode cX3_compare 40 = .ok (.goto (-37), 3) := by decide +kernel
theorem dX3_compare_43 : decode cX3_compare 43 = .ok (.iconst 0, 1) := by decide +kernel
theorem dX3_compare_44 : decode cX3_compare 44 = .ok (.ireturn, 1) := by decide +kernel
theorem me_X3_compare : cx_Ms yX3_compare cX3_compare 6 (some .int) 4 := ⟨⟨⟨by decide +kernel, by decide +kernel, by decide +kernel⟩, hw_17, hw_702⟩, hw_701⟩
noncomputable def f_X3_compare_L3 (e0_n : Nat) (e0_x : Nat → Int64) (p1 : Int32) (e2_n : Nat) (e2_x : Nat → Int64) (p3 : Int32) (rc3 : Int32 → Option Int32) (x4_1 : Int32) : Option Int32 := if x4_1 < 0 then (some 0) else (cx_gd (cx_ib ((p1 * 4) + x4_1) e0_n) (cx_gd (cx_ib ((p3 * 4) + x4_1) e2_n) (Option.bind (f_J13_compare_74951 (e0_x (cx_ix ((p1 * 4) + x4_1))) (e2_x (cx_ix ((p3 * 4) + x4_1)))) (fun u5 => if u5 = 0 then (rc3 (x4_1 + (-1))) else (some u5)))))
noncomputable def f_X3_compare_L3w (e0_n : Nat) (e0_x : Nat → Int64) (p1 : Int32) (e2_n : Nat) (e2_x : Nat → Int64) (p3 : Int32) (n : Nat) : Int32 → Option Int32 := Nat.rec (fun _ => none) (fun _ r => f_X3_compare_L3 e0_n e0_x p1 e2_n e2_x p3 r) n
noncomputable def f_X3_compare (e0_n : Nat) (e0_x : Nat → Int64) (p1 : Int32) (e2_n : Nat) (e2_x : Nat → Int64) (p3 : Int32) : Option Int32 := f_X3_compare_L3w e0_n e0_x p1 e2_n e2_x p3 cx_N0 3
set_option maxHeartbeats 4000000 in
set_option maxRecDepth 100000 in
theorem c_X3_compare (l : Launch) (D : va_G) (k : Nat → ClassId) (e0_a : Nat) (e2_a : Nat) (e0_n : Nat) (e0_x : Nat → Int64) (p1 : Int32) (e2_n : Nat) (e2_x : Nat → Int64) (p3 : Int32) (y : Int32) (hf : f_X3_compare e0_n e0_x p1 e2_n e2_x p3 = some y) : cx_M l yX3_compare cX3_compare 6 (some .int) 2 D k [.ref e0_a, .int p1, .ref e2_a, .int p3] (wd_LA k e0_a e0_n e0_x ++ (wd_LA k e2_a e2_n e2_x)) (fun sz => cx_Qi D y (wd_LA k e0_a e0_n e0_x ++ (wd_LA k e2_a e2_n e2_x)) (wd_LA k e0_a e0_n e0_x ++ (wd_LA k e2_a e2_n e2_x)) sz) := by
  refine cx_met (own := "NamelessBox$Limbs") (by decide) rfl (Nat.le_of_ble_eq_true rfl) ?_
  intro p e s m args below meth c A Q C hA hQ hr hlk
  refine cx_lv (lv' := [(0, .ref e0_a), (1, .int p1), (2, .ref e2_a), (3, .int p3)]) [0, 1, 2, 3] rfl ?_
  have L3 : ∀ (n3 : Nat) (x4_1 : Int32), f_X3_compare_L3w e0_n e0_x p1 e2_n e2_x p3 n3 x4_1 = some y → cx_S p l e (cx_rm 2) s m args below meth c A D 6 0 0 Q 3 [(0, .ref e0_a), (1, .int p1), (2, .ref e2_a), (3, .int p3), (4, .int x4_1)] [] (wd_LA k e0_a e0_n e0_x ++ (wd_LA k e2_a e2_n e2_x)) := by
    intro  n3
    induction n3 with
    | zero =>
      intro x4_1 hf
      exact absurd (show (none : Option Int32) = some y from hf) (fun h => by cases h)
    | succ n3 ih3 =>
      intro x4_1 hf
      have hf : f_X3_compare_L3 e0_n e0_x p1 e2_n e2_x p3 (f_X3_compare_L3w e0_n e0_x p1 e2_n e2_x p3 n3) x4_1 = some y := hf
      unfold f_X3_compare_L3 at hf
      refine cx_iload C dX3_compare_3 4 rfl ?_
      refine cx_if_lt (tgt := 43) C dX3_compare_5 (by decide) (fun c2 => ?_) (fun c2 => ?_)
      · have hf := cx_if_t hf c2
        clear c2
        refine cx_iconst (v := 0) C dX3_compare_43 (by decide) ?_
        obtain rfl := Option.some.inj hf
        exact cx_iret C hA hQ hr hlk dX3_compare_44 rfl rfl
      · have hf := cx_if_f hf c2
        clear c2
        refine cx_aload_n C dX3_compare_8 0 rfl ?_
        refine cx_iload_n C dX3_compare_9 1 rfl ?_
        refine cx_iconst (v := 4) C dX3_compare_10 (by decide) ?_
        refine cx_imul C dX3_compare_11 ?_
        refine cx_iload C dX3_compare_12 4 rfl ?_
        refine cx_iadd C dX3_compare_14 ?_
        obtain ⟨g3, hf⟩ := cx_gd_at hf
        refine cx_lald C dX3_compare_15 0 rfl (cx_ib_in g3) ?_
        clear g3
        refine cx_aload_n C dX3_compare_16 2 rfl ?_
        refine cx_iload_n C dX3_compare_17 3 rfl ?_
        refine cx_iconst (v := 4) C dX3_compare_18 (by decide) ?_
        refine cx_imul C dX3_compare_19 ?_
        refine cx_iload C dX3_compare_20 4 rfl ?_
        refine cx_iadd C dX3_compare_22 ?_
        obtain ⟨g4, hf⟩ := cx_gd_at hf
        refine cx_lald C dX3_compare_23 1 rfl (cx_ib_in g4) ?_
        clear g4
        obtain ⟨u5, e6, hf⟩ := cx_bd_at hf
        refine cx_Ksi (As := [.long (e0_x (cx_ix ((p1 * 4) + x4_1))), .long (e2_x (cx_ix ((p3 * 4) + x4_1)))]) (rest := []) hA C me_J13_compare_74951 hw_703 (c_J13_compare_74951 l D k (e0_x (cx_ix ((p1 * 4) + x4_1))) (e2_x (cx_ix ((p3 * 4) + x4_1))) u5 e6) dX3_compare_24 ⟨Nat.le_of_ble_eq_true rfl, Nat.le_of_ble_eq_true rfl⟩ ⟨Nat.zero_le _, Nat.zero_le _⟩ rfl rfl (Nat.le_of_ble_eq_true rfl) [] rfl (by decide) ?_
        clear e6
        refine cx_istore (lv' := [(5, .int u5), (0, .ref e0_a), (1, .int p1), (2, .ref e2_a), (3, .int p3), (4, .int x4_1)]) C dX3_compare_27 (by decide) rfl ?_
        refine cx_iload C dX3_compare_29 0 rfl ?_
        refine cx_if_eq (tgt := 37) C dX3_compare_31 (by decide) (fun c7 => ?_) (fun c7 => ?_)
        · have hf := cx_if_t hf c7
          clear c7
          refine cx_iinc (v := x4_1 + (-1)) (lv' := [(4, .int (x4_1 + (-1))), (5, .int u5), (0, .ref e0_a), (1, .int p1), (2, .ref e2_a), (3, .int p3)]) C dX3_compare_37 5 rfl rfl (by decide) rfl ?_
          refine cx_goto (tgt := 3) C dX3_compare_40 (by decide) ?_
          refine cx_lv [2, 3, 4, 5, 0] rfl ?_
          exact ih3 (x4_1 + (-1)) hf
        · have hf := cx_if_f hf c7
          clear c7
          refine cx_iload C dX3_compare_34 0 rfl ?_
          obtain rfl := Option.some.inj hf
          exact cx_iret C hA hQ hr hlk dX3_compare_36 rfl rfl
  unfold f_X3_compare at hf
  refine cx_iconst (v := 3) C dX3_compare_0 (by decide) ?_
  refine cx_istore (lv' := [(4, .int 3), (0, .ref e0_a), (1, .int p1), (2, .ref e2_a), (3, .int p3)]) C dX3_compare_1 (by decide) rfl ?_
  refine cx_lv [1, 2, 3, 4, 0] rfl ?_
  exact L3 cx_N0 3 hf
noncomputable def f_X3_compare_x_e0_L3 (e0_n : Nat) (e0_x : Nat → Int64) (p1 : Int32) (p3 : Int32) (rc3 : Int32 → Option Int32) (x4_1 : Int32) : Option Int32 := if x4_1 < 0 then (some 0) else (cx_gd (cx_ib ((p1 * 4) + x4_1) e0_n) (cx_gd (cx_ib ((p3 * 4) + x4_1) e0_n) (Option.bind (f_J13_compare_74951 (e0_x (cx_ix ((p1 * 4) + x4_1))) (e0_x (cx_ix ((p3 * 4) + x4_1)))) (fun u5 => if u5 = 0 then (rc3 (x4_1 + (-1))) else (some u5)))))
noncomputable def f_X3_compare_x_e0_L3w (e0_n : Nat) (e0_x : Nat → Int64) (p1 : Int32) (p3 : Int32) (n : Nat) : Int32 → Option Int32 := Nat.rec (fun _ => none) (fun _ r => f_X3_compare_x_e0_L3 e0_n e0_x p1 p3 r) n
noncomputable def f_X3_compare_x_e0 (e0_n : Nat) (e0_x : Nat → Int64) (p1 : Int32) (p3 : Int32) : Option Int32 := f_X3_compare_x_e0_L3w e0_n e0_x p1 p3 cx_N0 3
set_option maxHeartbeats 4000000 in
set_option maxRecDepth 100000 in
theorem c_X3_compare_x_e0 (l : Launch) (D : va_G) (k : Nat → ClassId) (e0_a : Nat) (e0_n : Nat) (e0_x : Nat → Int64) (p1 : Int32) (p3 : Int32) (y : Int32) (hf : f_X3_compare_x_e0 e0_n e0_x p1 p3 = some y) : cx_M l yX3_compare cX3_compare 6 (some .int) 2 D k [.ref e0_a, .int p1, .ref e0_a, .int p3] (wd_LA k e0_a e0_n e0_x) (fun sz => cx_Qi D y (wd_LA k e0_a e0_n e0_x) (wd_LA k e0_a e0_n e0_x) sz) := by
  refine cx_met (own := "NamelessBox$Limbs") (by decide) rfl (Nat.le_of_ble_eq_true rfl) ?_
  intro p e s m args below meth c A Q C hA hQ hr hlk
  refine cx_lv (lv' := [(0, .ref e0_a), (1, .int p1), (2, .ref e0_a), (3, .int p3)]) [0, 1, 2, 3] rfl ?_
  have L3 : ∀ (n3 : Nat) (x4_1 : Int32), f_X3_compare_x_e0_L3w e0_n e0_x p1 p3 n3 x4_1 = some y → cx_S p l e (cx_rm 2) s m args below meth c A D 6 0 0 Q 3 [(0, .ref e0_a), (1, .int p1), (2, .ref e0_a), (3, .int p3), (4, .int x4_1)] [] (wd_LA k e0_a e0_n e0_x) := by
    intro  n3
    induction n3 with
    | zero =>
      intro x4_1 hf
      exact absurd (show (none : Option Int32) = some y from hf) (fun h => by cases h)
    | succ n3 ih3 =>
      intro x4_1 hf
      have hf : f_X3_compare_x_e0_L3 e0_n e0_x p1 p3 (f_X3_compare_x_e0_L3w e0_n e0_x p1 p3 n3) x4_1 = some y := hf
      unfold f_X3_compare_x_e0_L3 at hf
      refine cx_iload C dX3_compare_3 4 rfl ?_
      refine cx_if_lt (tgt := 43) C dX3_compare_5 (by decide) (fun c2 => ?_) (fun c2 => ?_)
      · have hf := cx_if_t hf c2
        clear c2
        refine cx_iconst (v := 0) C dX3_compare_43 (by decide) ?_
        obtain rfl := Option.some.inj hf
        exact cx_iret C hA hQ hr hlk dX3_compare_44 rfl rfl
      · have hf := cx_if_f hf c2
        clear c2
        refine cx_aload_n C dX3_compare_8 0 rfl ?_
        refine cx_iload_n C dX3_compare_9 1 rfl ?_
        refine cx_iconst (v := 4) C dX3_compare_10 (by decide) ?_
        refine cx_imul C dX3_compare_11 ?_
        refine cx_iload C dX3_compare_12 4 rfl ?_
        refine cx_iadd C dX3_compare_14 ?_
        obtain ⟨g3, hf⟩ := cx_gd_at hf
        refine cx_lald C dX3_compare_15 0 rfl (cx_ib_in g3) ?_
        clear g3
        refine cx_aload_n C dX3_compare_16 2 rfl ?_
        refine cx_iload_n C dX3_compare_17 3 rfl ?_
        refine cx_iconst (v := 4) C dX3_compare_18 (by decide) ?_
        refine cx_imul C dX3_compare_19 ?_
        refine cx_iload C dX3_compare_20 4 rfl ?_
        refine cx_iadd C dX3_compare_22 ?_
        obtain ⟨g4, hf⟩ := cx_gd_at hf
        refine cx_lald C dX3_compare_23 0 rfl (cx_ib_in g4) ?_
        clear g4
        obtain ⟨u5, e6, hf⟩ := cx_bd_at hf
        refine cx_Ksi (As := [.long (e0_x (cx_ix ((p1 * 4) + x4_1))), .long (e0_x (cx_ix ((p3 * 4) + x4_1)))]) (rest := []) hA C me_J13_compare_74951 hw_703 (c_J13_compare_74951 l D k (e0_x (cx_ix ((p1 * 4) + x4_1))) (e0_x (cx_ix ((p3 * 4) + x4_1))) u5 e6) dX3_compare_24 ⟨Nat.le_of_ble_eq_true rfl, Nat.le_of_ble_eq_true rfl⟩ ⟨Nat.zero_le _, Nat.zero_le _⟩ rfl rfl (Nat.le_of_ble_eq_true rfl) [] rfl (by decide) ?_
        clear e6
        refine cx_istore (lv' := [(5, .int u5), (0, .ref e0_a), (1, .int p1), (2, .ref e0_a), (3, .int p3), (4, .int x4_1)]) C dX3_compare_27 (by decide) rfl ?_
        refine cx_iload C dX3_compare_29 0 rfl ?_
        refine cx_if_eq (tgt := 37) C dX3_compare_31 (by decide) (fun c7 => ?_) (fun c7 => ?_)
        · have hf := cx_if_t hf c7
          clear c7
          refine cx_iinc (v := x4_1 + (-1)) (lv' := [(4, .int (x4_1 + (-1))), (5, .int u5), (0, .ref e0_a), (1, .int p1), (2, .ref e0_a), (3, .int p3)]) C dX3_compare_37 5 rfl rfl (by decide) rfl ?_
          refine cx_goto (tgt := 3) C dX3_compare_40 (by decide) ?_
          refine cx_lv [2, 3, 4, 5, 0] rfl ?_
          exact ih3 (x4_1 + (-1)) hf
        · have hf := cx_if_f hf c7
          clear c7
          refine cx_iload C dX3_compare_34 0 rfl ?_
          obtain rfl := Option.some.inj hf
          exact cx_iret C hA hQ hr hlk dX3_compare_36 rfl rfl
  unfold f_X3_compare_x_e0 at hf
  refine cx_iconst (v := 3) C dX3_compare_0 (by decide) ?_
  refine cx_istore (lv' := [(4, .int 3), (0, .ref e0_a), (1, .int p1), (2, .ref e0_a), (3, .int p3)]) C dX3_compare_1 (by decide) rfl ?_
  refine cx_lv [1, 2, 3, 4, 0] rfl ?_
  exact L3 cx_N0 3 hf
theorem dX3_isEven_0 : decode cX3_isEven 0 = .ok (.aload_n 0, 1) := by decide +kernel
theorem dX3_isEven_1 : decode cX3_isEven 1 = .ok (.iload_n 1, 1) := by decide +kernel
theorem dX3_isEven_2 : decode cX3_isEven 2 = .ok (.iconst 4, 1) := by decide +kernel
theorem dX3_isEven_3 : decode cX3_isEven 3 = .ok (.imul, 1) := by decide +kernel
theorem dX3_isEven_4 : decode cX3_isEven 4 = .ok (.laload, 1) := by decide +kernel
theorem dX3_isEven_5 : decode cX3_isEven 5 = .ok (.lconst 1, 1) := by decide +kernel
theorem dX3_isEven_6 : decode cX3_isEven 6 = .ok (.land, 1) := by decide +kernel
theorem dX3_isEven_7 : decode cX3_isEven 7 = .ok (.lconst 0, 1) := by decide +kernel
theorem dX3_isEven_8 : decode cX3_isEven 8 = .ok (.lcmp, 1) := by decide +kernel
theorem dX3_isEven_9 : decode cX3_isEven 9 = .ok (.ifCond .ne 7, 3) := by decide +kernel
theorem dX3_isEven_12 : decode cX3_isEven 12 = .ok (.iconst 1, 1) := by decide +kernel
theorem dX3_isEven_13 : decode cX3_isEven 13 = .ok (.goto 4, 3) := by decide +kernel
theorem dX3_isEven_16 : decode cX3_isEven 16 = .ok (.iconst 0, 1) := by decide +kernel
theorem dX3_isEven_17 : decode cX3_isEven 17 = .ok (.ireturn, 1) := by decide +kernel
theorem me_X3_isEven : cx_Ms yX3_isEven cX3_isEven 2 (some .boolean) 2 := ⟨⟨⟨by decide +kernel, by decide +kernel, by decide +kernel⟩, hw_17, hw_784⟩, hw_783⟩
noncomputable def f_X3_isEven (e0_n : Nat) (e0_x : Nat → Int64) (p1 : Int32) : Option Int32 := cx_gd (cx_ib (p1 * 4) e0_n) (if (lg_cmp ((e0_x (cx_ix (p1 * 4))) &&& 1) 0) = 0 then (some 1) else (some 0))
set_option maxHeartbeats 4000000 in
set_option maxRecDepth 100000 in
theorem c_X3_isEven (l : Launch) (D : va_G) (k : Nat → ClassId) (e0_a : Nat) (e0_n : Nat) (e0_x : Nat → Int64) (p1 : Int32) (y : Int32) (hf : f_X3_isEven e0_n e0_x p1 = some y) : cx_M l yX3_isEven cX3_isEven 2 (some .boolean) 1 D k [.ref e0_a, .int p1] (wd_LA k e0_a e0_n e0_x) (fun sz => cx_Qi D y (wd_LA k e0_a e0_n e0_x) (wd_LA k e0_a e0_n e0_x) sz) := by
  refine cx_met (own := "NamelessBox$Limbs") (by decide) rfl (Nat.le_of_ble_eq_true rfl) ?_
  intro p e s m args below meth c A Q C hA hQ hr hlk
  refine cx_lv (lv' := [(0, .ref e0_a), (1, .int p1)]) [0, 1] rfl ?_
  unfold f_X3_isEven at hf
  refine cx_aload_n C dX3_isEven_0 0 rfl ?_
  refine cx_iload_n C dX3_isEven_1 1 rfl ?_
  refine cx_iconst (v := 4) C dX3_isEven_2 (by decide) ?_
  refine cx_imul C dX3_isEven_3 ?_
  obtain ⟨g1, hf⟩ := cx_gd_at hf
  refine cx_lald C dX3_isEven_4 0 rfl (cx_ib_in g1) ?_
  clear g1
  refine cx_lconst (v := 1) C dX3_isEven_5 (by decide) ?_
  refine cx_land C dX3_isEven_6 ?_
  refine cx_lconst (v := 0) C dX3_isEven_7 (by decide) ?_
  refine cx_lcmp C dX3_isEven_8 ?_
  refine cx_if_ne (tgt := 16) C dX3_isEven_9 (by decide) (fun c2 => ?_) (fun c2 => ?_)
  · have hf := cx_if_f hf c2
    clear c2
    refine cx_iconst (v := 0) C dX3_isEven_16 (by decide) ?_
    obtain rfl := Option.some.inj hf
    exact cx_zret C hA hQ hr hlk dX3_isEven_17 rfl rfl rfl
  · have hf := cx_if_t hf c2
    clear c2
    refine cx_iconst (v := 1) C dX3_isEven_12 (by decide) ?_
    refine cx_goto (tgt := 17) C dX3_isEven_13 (by decide) ?_
    obtain rfl := Option.some.inj hf
    exact cx_zret C hA hQ hr hlk dX3_isEven_17 rfl rfl rfl
theorem dX3_halve_0 : decode cX3_halve 0 = .ok (.lconst 0, 1) := by decide +kernel
theorem dX3_halve_1 : decode cX3_halve 1 = .ok (.lstore_n 2, 1) := by decide +kernel
theorem dX3_halve_2 : decode cX3_halve 2 = .ok (.iload_n 1, 1) := by decide +kernel
theorem dX3_halve_3 : decode cX3_halve 3 = .ok (.iconst 4, 1) := by decide +kernel
theorem dX3_halve_4 : decode cX3_halve 4 = .ok (.imul, 1) := by decide +kernel
theorem dX3_halve_5 : decode cX3_halve 5 = .ok (.iconst 4, 1) := by decide +kernel
theorem dX3_halve_6 : decode cX3_halve 6 = .ok (.iadd, 1) := by decide +kernel
theorem dX3_halve_7 : decode cX3_halve 7 = .ok (.iconst 1, 1) := by decide +kernel
theorem dX3_halve_8 : decode cX3_halve 8 = .ok (.isub, 1) := by decide +kernel
theorem dX3_halve_9 : decode cX3_halve 9 = .ok (.istore 4, 2) := by decide +kernel
theorem dX3_halve_11 : decode cX3_halve 11 = .ok (.iload 4, 2) := by decide +kernel
theorem dX3_halve_13 : decode cX3_halve 13 = .ok (.iload_n 1, 1) := by decide +kernel
theorem dX3_halve_14 : decode cX3_halve 14 = .ok (.iconst 4, 1) := by decide +kernel
theorem dX3_halve_15 : decode cX3_halve 15 = .ok (.imul, 1) := by decide +kernel
theorem dX3_halve_16 : decode cX3_halve 16 = .ok (.if_icmp .lt 33, 3) := by decide +kernel
theorem dX3_halve_19 : decode cX3_halve 19 = .ok (.lload_n 2, 1) := by decide +kernel
theorem dX3_halve_20 : decode cX3_halve 20 = .ok (.bipush 30, 2) := by decide +kernel
theorem dX3_halve_22 : decode cX3_halve 22 = .ok (.lshl, 1) := by decide +kernel
theorem dX3_halve_23 : decode cX3_halve 23 = .ok (.aload_n 0, 1) := by decide +kernel
theorem dX3_halve_24 : decode cX3_halve 24 = .ok (.iload 4, 2) := by decide +kernel
theorem dX3_halve_26 : decode cX3_halve 26 = .ok (.laload, 1) := by decide +kernel
theorem dX3_halve_27 : decode cX3_halve 27 = .ok (.lor, 1) := by decide +kernel
theorem dX3_halve_28 : decode cX3_halve 28 = .ok (.lstore 5, 2) := by decide +kernel
theorem dX3_halve_30 : decode cX3_halve 30 = .ok (.aload_n 0, 1) := by decide +kernel
theorem dX3_halve_31 : decode cX3_halve 31 = .ok (.iload 4, 2) := by decide +kernel
theorem dX3_halve_33 : decode cX3_halve 33 = .ok (.lload 5, 2) := by decide +kernel
theorem dX3_halve_35 : decode cX3_halve 35 = .ok (.iconst 1, 1) := by decide +kernel
theorem dX3_halve_36 : decode cX3_halve 36 = .ok (.lshr, 1) := by decide +kernel
theorem dX3_halve_37 : decode cX3_halve 37 = .ok (.lastore, 1) := by decide +kernel
theorem dX3_halve_38 : decode cX3_halve 38 = .ok (.lload 5, 2) := by decide +kernel
theorem dX3_halve_40 : decode cX3_halve 40 = .ok (.lconst 1, 1) := by decide +kernel
theorem dX3_halve_41 : decode cX3_halve 41 = .ok (.land, 1) := by decide +kernel
theorem dX3_halve_42 : decode cX3_halve 42 = .ok (.lstore_n 2, 1) := by decide +kernel
theorem dX3_halve_43 : decode cX3_halve 43 = .ok (.iinc 4 (-1), 3) := by decide +kernel
theorem dX3_halve_46 : decode cX3_halve 46 = .ok (.goto (-35), 3) := by decide +kernel
theorem dX3_halve_49 : decode cX3_halve 49 = .ok (.return_, 1) := by decide +kernel
theorem me_X3_halve : cx_Ms yX3_halve cX3_halve 7 none 2 := ⟨⟨⟨by decide +kernel, by decide +kernel, by decide +kernel⟩, hw_17, hw_787⟩, hw_786⟩
noncomputable def f_X3_halve_L11 (e0_n : Nat) (p1 : Int32) (rc11 : (Nat → Int64) → Int64 → Int32 → Option (Nat → Int64)) (a_1 : Nat → Int64) (x2_2 : Int64) (x4_3 : Int32) : Option (Nat → Int64) := if x4_3 < (p1 * 4) then (some a_1) else (cx_gd (cx_ib x4_3 e0_n) (cx_let ((x2_2 <<< (Int32.toInt64 30 &&& 63)) ||| (a_1 (cx_ix x4_3))) (fun v6 => cx_gd (cx_ib x4_3 e0_n) (cx_let (vp_updL a_1 (cx_ix x4_3) (v6 >>> (Int32.toInt64 1 &&& 63))) (fun a8 => rc11 a8 (v6 &&& 1) (x4_3 + (-1)))))))
noncomputable def f_X3_halve_L11w (e0_n : Nat) (p1 : Int32) (n : Nat) : (Nat → Int64) → Int64 → Int32 → Option (Nat → Int64) := Nat.rec (fun _ _ _ => none) (fun _ r => f_X3_halve_L11 e0_n p1 r) n
noncomputable def f_X3_halve (e0_n : Nat) (e0_x : Nat → Int64) (p1 : Int32) : Option (Nat → Int64) := f_X3_halve_L11w e0_n p1 cx_N0 e0_x 0 (((p1 * 4) + 4) - 1)
set_option maxHeartbeats 4000000 in
set_option maxRecDepth 100000 in
theorem c_X3_halve (l : Launch) (D : va_G) (k : Nat → ClassId) (e0_a : Nat) (e0_n : Nat) (e0_x : Nat → Int64) (p1 : Int32) (y : Nat → Int64) (hf : f_X3_halve e0_n e0_x p1 = some y) : cx_M l yX3_halve cX3_halve 7 none 1 D k [.ref e0_a, .int p1] (wd_LA k e0_a e0_n e0_x) (fun sz => cx_Qv D (wd_LA k e0_a e0_n e0_x) (wd_LA k e0_a e0_n y) sz) := by
  refine cx_met (own := "NamelessBox$Limbs") (by decide) rfl (Nat.le_of_ble_eq_true rfl) ?_
  intro p e s m args below meth c A Q C hA hQ hr hlk
  refine cx_lv (lv' := [(0, .ref e0_a), (1, .int p1)]) [0, 1] rfl ?_
  have L11 : ∀ (n11 : Nat) (a_1 : Nat → Int64) (x2_2 : Int64) (x4_3 : Int32), f_X3_halve_L11w e0_n p1 n11 a_1 x2_2 x4_3 = some y → cx_S p l e (cx_rm 1) s m args below meth c A D 7 0 0 Q 11 [(0, .ref e0_a), (1, .int p1), (2, .long x2_2), (4, .int x4_3)] [] (wd_LA k e0_a e0_n a_1) := by
    intro  n11
    induction n11 with
    | zero =>
      intro a_1 x2_2 x4_3 hf
      exact absurd (show (none : Option (Nat → Int64)) = some y from hf) (fun h => by cases h)
    | succ n11 ih11 =>
      intro a_1 x2_2 x4_3 hf
      have hf : f_X3_halve_L11 e0_n p1 (f_X3_halve_L11w e0_n p1 n11) a_1 x2_2 x4_3 = some y := hf
      unfold f_X3_halve_L11 at hf
      refine cx_iload C dX3_halve_11 3 rfl ?_
      refine cx_iload_n C dX3_halve_13 1 rfl ?_
      refine cx_iconst (v := 4) C dX3_halve_14 (by decide) ?_
      refine cx_imul C dX3_halve_15 ?_
      refine cx_icmp_lt (tgt := 49) C dX3_halve_16 (by decide) (fun c4 => ?_) (fun c4 => ?_)
      · have hf := cx_if_t hf c4
        clear c4
        obtain rfl := Option.some.inj hf
        exact cx_vret C hA hQ hr hlk dX3_halve_49 rfl
      · have hf := cx_if_f hf c4
        clear c4
        refine cx_lload_n C dX3_halve_19 2 rfl ?_
        refine cx_bipush (v := 30) C dX3_halve_20 (by decide) ?_
        refine cx_lshl C dX3_halve_22 ?_
        refine cx_aload_n C dX3_halve_23 0 rfl ?_
        refine cx_iload C dX3_halve_24 3 rfl ?_
        obtain ⟨g5, hf⟩ := cx_gd_at hf
        refine cx_lald C dX3_halve_26 0 rfl (cx_ib_in g5) ?_
        clear g5
        refine cx_lor C dX3_halve_27 ?_
        refine cx_topl (fun v6 ev6 => ?_)
        have hf := cx_let_at hf ev6
        clear ev6
        refine cx_lstore (lv' := [(5, .long v6), (0, .ref e0_a), (1, .int p1), (2, .long x2_2), (4, .int x4_3)]) C dX3_halve_28 (by decide) rfl ?_
        refine cx_aload_n C dX3_halve_30 1 rfl ?_
        refine cx_iload C dX3_halve_31 4 rfl ?_
        refine cx_lload C dX3_halve_33 0 rfl ?_
        refine cx_iconst (v := 1) C dX3_halve_35 (by decide) ?_
        refine cx_lshr C dX3_halve_36 ?_
        obtain ⟨g7, hf⟩ := cx_gd_at hf
        obtain ⟨a8, ea8⟩ : ∃ z, z = vp_updL a_1 (cx_ix x4_3) (v6 >>> (Int32.toInt64 1 &&& 63)) := ⟨_, rfl⟩
        have hf := cx_let_at hf ea8
        refine cx_last (ws' := (wd_LA k e0_a e0_n a8)) C dX3_halve_37 0 rfl (cx_ib_in g7) (by rw [ea8]; rfl) ?_
        clear ea8 g7
        refine cx_lload C dX3_halve_38 0 rfl ?_
        refine cx_lconst (v := 1) C dX3_halve_40 (by decide) ?_
        refine cx_land C dX3_halve_41 ?_
        refine cx_lstore_n (lv' := [(2, .long (v6 &&& 1)), (5, .long v6), (0, .ref e0_a), (1, .int p1), (4, .int x4_3)]) C dX3_halve_42 rfl (by decide) rfl ?_
        refine cx_iinc (v := x4_3 + (-1)) (lv' := [(4, .int (x4_3 + (-1))), (2, .long (v6 &&& 1)), (5, .long v6), (0, .ref e0_a), (1, .int p1)]) C dX3_halve_43 4 rfl rfl (by decide) rfl ?_
        refine cx_goto (tgt := 11) C dX3_halve_46 (by decide) ?_
        refine cx_lv [3, 4, 1, 0] rfl ?_
        exact ih11 a8 (v6 &&& 1) (x4_3 + (-1)) hf
  unfold f_X3_halve at hf
  refine cx_lconst (v := 0) C dX3_halve_0 (by decide) ?_
  refine cx_lstore_n (lv' := [(2, .long 0), (0, .ref e0_a), (1, .int p1)]) C dX3_halve_1 rfl (by decide) rfl ?_
  refine cx_iload_n C dX3_halve_2 2 rfl ?_
  refine cx_iconst (v := 4) C dX3_halve_3 (by decide) ?_
  refine cx_imul C dX3_halve_4 ?_
  refine cx_iconst (v := 4) C dX3_halve_5 (by decide) ?_
  refine cx_iadd C dX3_halve_6 ?_
  refine cx_iconst (v := 1) C dX3_halve_7 (by decide) ?_
  refine cx_isub C dX3_halve_8 ?_
  refine cx_istore (lv' := [(4, .int (((p1 * 4) + 4) - 1)), (2, .long 0), (0, .ref e0_a), (1, .int p1)]) C dX3_halve_9 (by decide) rfl ?_
  refine cx_lv [2, 3, 1, 0] rfl ?_
  exact L11 cx_N0 e0_x 0 (((p1 * 4) + 4) - 1) hf
theorem dX3_inverseOf_0 : decode cX3_inverseOf 0 = .ok (.lload_n 0, 1) := by decide +kernel
theorem dX3_inverseOf_1 : decode cX3_inverseOf 1 = .ok (.lstore_n 2, 1) := by decide +kernel
theorem dX3_inverseOf_2 : decode cX3_inverseOf 2 = .ok (.iconst 0, 1) := by decide +kernel
theorem dX3_inverseOf_3 : decode cX3_inverseOf 3 = .ok (.istore 4, 2) := by decide +kernel
theorem dX3_inverseOf_5 : decode cX3_inverseOf 5 = .ok (.iload 4, 2) := by decide +kernel
theorem dX3_inverseOf_7 : decode cX3_inverseOf 7 = .ok (.iconst 4, 1) := by decide +kernel
theorem dX3_inverseOf_8 : decode cX3_inverseOf 8 = .ok (.if_icmp .ge 19, 3) := by decide +kernel
theorem dX3_inverseOf_11 : decode cX3_inverseOf 11 = .ok (.lload_n 2, 1) := by decide +kernel
theorem dX3_inverseOf_12 : decode cX3_inverseOf 12 = .ok (.ldc2_w 34, 3) := by decide +kernel
theorem dX3_inverseOf_15 : decode cX3_inverseOf 15 = .ok (.lload_n 0, 1) := by decide +kernel
theorem dX3_inverseOf_16 : decode cX3_inverseOf 16 = .ok (.lload_n 2, 1) := by decide +kernel
theorem dX3_inverseOf_17 : decode cX3_inverseOf 17 = .ok (.lmul, 1) := by decide +kernel
theorem dX3_inverseOf_18 : decode cX3_inverseOf 18 = .ok (.lsub, 1) := by decide +kernel
theorem dX3_inverseOf_19 : decode cX3_inverseOf 19 = .ok (.lmul, 1) := by decide +kernel
theorem dX3_inverseOf_20 : decode cX3_inverseOf 20 = .ok (.lstore_n 2, 1) := by decide +kernel
theorem dX3_inverseOf_21 : decode cX3_inverseOf 21 = .ok (.iinc 4 1, 3) := by decide +kernel
theorem dX3_inverseOf_24 : decode cX3_inverseOf 24 = .ok (.goto (-19), 3) := by decide +kernel
theorem dX3_inverseOf_27 : decode cX3_inverseOf 27 = .ok (.lload_n 2, 1) := by decide +kernel
theorem dX3_inverseOf_28 : decode cX3_inverseOf 28 = .ok (.ldc2_w 19, 3) := by decide +kernel
theorem dX3_inverseOf_31 : decode cX3_inverseOf 31 = .ok (.land, 1) := by decide +kernel
theorem dX3_inverseOf_32 : decode cX3_inverseOf 32 = .ok (.lreturn, 1) := by decide +kernel
theorem me_X3_inverseOf : cx_Ms yX3_inverseOf cX3_inverseOf 5 (some .long) 1 := ⟨⟨⟨by decide +kernel, by decide +kernel, by decide +kernel⟩, hw_17, hw_802⟩, hw_801⟩
noncomputable def f_X3_inverseOf_L5 (p0 : Int64) (rc5 : Int64 → Int32 → Option Int64) (x2_1 : Int64) (x4_2 : Int32) : Option Int64 := if 4 ≤ x4_2 then (some (x2_1 &&& 1073741823)) else (rc5 (x2_1 * (2 - (p0 * x2_1))) (x4_2 + 1))
noncomputable def f_X3_inverseOf_L5w (p0 : Int64) (n : Nat) : Int64 → Int32 → Option Int64 := Nat.rec (fun _ _ => none) (fun _ r => f_X3_inverseOf_L5 p0 r) n
noncomputable def f_X3_inverseOf (p0 : Int64) : Option Int64 := f_X3_inverseOf_L5w p0 cx_N0 p0 0
set_option maxHeartbeats 4000000 in
set_option maxRecDepth 100000 in
theorem c_X3_inverseOf (l : Launch) (D : va_G) (k : Nat → ClassId) (p0 : Int64) (y : Int64) (hf : f_X3_inverseOf p0 = some y) : cx_M l yX3_inverseOf cX3_inverseOf 5 (some .long) 1 D k [.long p0] ([] : va_W) (fun sz => cx_Ql D y ([] : va_W) ([] : va_W) sz) := by
  refine cx_met (own := "NamelessBox$Limbs") (by decide) rfl (Nat.le_of_ble_eq_true rfl) ?_
  intro p e s m args below meth c A Q C hA hQ hr hlk
  refine cx_lv (lv' := [(0, .long p0)]) [0] rfl ?_
  have L5 : ∀ (n5 : Nat) (x2_1 : Int64) (x4_2 : Int32), f_X3_inverseOf_L5w p0 n5 x2_1 x4_2 = some y → cx_S p l e (cx_rm 1) s m args below meth c A D 5 0 0 Q 5 [(0, .long p0), (2, .long x2_1), (4, .int x4_2)] [] ([] : va_W) := by
    intro  n5
    induction n5 with
    | zero =>
      intro x2_1 x4_2 hf
      exact absurd (show (none : Option Int64) = some y from hf) (fun h => by cases h)
    | succ n5 ih5 =>
      intro x2_1 x4_2 hf
      have hf : f_X3_inverseOf_L5 p0 (f_X3_inverseOf_L5w p0 n5) x2_1 x4_2 = some y := hf
      unfold f_X3_inverseOf_L5 at hf
      refine cx_iload C dX3_inverseOf_5 2 rfl ?_
      refine cx_iconst (v := 4) C dX3_inverseOf_7 (by decide) ?_
      refine cx_icmp_ge (tgt := 27) C dX3_inverseOf_8 (by decide) (fun c3 => ?_) (fun c3 => ?_)
      · have hf := cx_if_t hf c3
        clear c3
        refine cx_lload_n C dX3_inverseOf_27 1 rfl ?_
        refine cx_ldc2 (v := 1073741823) C dX3_inverseOf_28 hw_680 ?_
        refine cx_land C dX3_inverseOf_31 ?_
        obtain rfl := Option.some.inj hf
        exact cx_lret C hA hQ hr hlk dX3_inverseOf_32 rfl rfl
      · have hf := cx_if_f hf c3
        clear c3
        refine cx_lload_n C dX3_inverseOf_11 1 rfl ?_
        refine cx_ldc2 (v := 2) C dX3_inverseOf_12 hw_803 ?_
        refine cx_lload_n C dX3_inverseOf_15 0 rfl ?_
        refine cx_lload_n C dX3_inverseOf_16 1 rfl ?_
        refine cx_lmul C dX3_inverseOf_17 ?_
        refine cx_lsub C dX3_inverseOf_18 ?_
        refine cx_lmul C dX3_inverseOf_19 ?_
        refine cx_lstore_n (lv' := [(2, .long (x2_1 * (2 - (p0 * x2_1)))), (0, .long p0), (4, .int x4_2)]) C dX3_inverseOf_20 rfl (by decide) rfl ?_
        refine cx_iinc (v := x4_2 + 1) (lv' := [(4, .int (x4_2 + 1)), (2, .long (x2_1 * (2 - (p0 * x2_1)))), (0, .long p0)]) C dX3_inverseOf_21 2 rfl rfl (by decide) rfl ?_
        refine cx_goto (tgt := 5) C dX3_inverseOf_24 (by decide) ?_
        refine cx_lv [2, 1, 0] rfl ?_
        exact ih5 (x2_1 * (2 - (p0 * x2_1))) (x4_2 + 1) hf
  unfold f_X3_inverseOf at hf
  refine cx_lload_n C dX3_inverseOf_0 0 rfl ?_
  refine cx_lstore_n (lv' := [(2, .long p0), (0, .long p0)]) C dX3_inverseOf_1 rfl (by decide) rfl ?_
  refine cx_iconst (v := 0) C dX3_inverseOf_2 (by decide) ?_
  refine cx_istore (lv' := [(4, .int 0), (2, .long p0), (0, .long p0)]) C dX3_inverseOf_3 (by decide) rfl ?_
  refine cx_lv [2, 1, 0] rfl ?_
  exact L5 cx_N0 p0 0 hf
theorem dX3_divide_0 : decode cX3_divide 0 = .ok (.aload_n 2, 1) := by decide +kernel
theorem dX3_divide_1 : decode cX3_divide 1 = .ok (.iload_n 3, 1) := by decide +kernel
theorem dX3_divide_2 : decode cX3_divide 2 = .ok (.iconst 4, 1) := by decide +kernel
theorem dX3_divide_3 : decode cX3_divide 3 = .ok (.imul, 1) := by decide +kernel
theorem dX3_divide_4 : decode cX3_divide 4 = .ok (.laload, 1) := by decide +kernel
theorem dX3_divide_5 : decode cX3_divide 5 = .ok (.invokestatic 30, 3) := by decide +kernel
theorem dX3_divide_8 : decode cX3_divide 8 = .ok (.lstore 4, 2) := by decide +kernel
theorem dX3_divide_10 : decode cX3_divide 10 = .ok (.iconst 0, 1) := by decide +kernel
theorem dX3_divide_11 : decode cX3_divide 11 = .ok (.istore 6, 2) := by decide +kernel
theorem dX3_divide_13 : decode cX3_divide 13 = .ok (.iload 6, 2) := by decide +kernel
theorem dX3_divide_15 : decode cX3_divide 15 = .ok (.iconst 4, 1) := by decide +kernel
theorem dX3_divide_16 : decode cX3_divide 16 = .ok (.if_icmp .ge 109, 3) := by decide +kernel
theorem dX3_divide_19 : decode cX3_divide 19 = .ok (.aload_n 0, 1) := by decide +kernel
theorem dX3_divide_20 : decode cX3_divide 20 = .ok (.iload_n 1, 1) := by decide +kernel
theorem dX3_divide_21 : decode cX3_divide 21 = .ok (.iconst 4, 1) := by decide +kernel
theorem dX3_divide_22 : decode cX3_divide 22 = .ok (.imul, 1) := by decide +kernel
theorem dX3_divide_23 : decode cX3_divide 23 = .ok (.iload 6, 2) := by decide +kernel
theorem dX3_divide_25 : decode cX3_divide 25 = .ok (.iadd, 1) := by decide +kernel
theorem dX3_divide_26 : decode cX3_divide 26 = .ok (.laload, 1) := by decide +kernel
theorem dX3_divide_27 : decode cX3_divide 27 = .ok (.lload 4, 2) := by decide +kernel
theorem dX3_divide_29 : decode cX3_divide 29 = .ok (.lmul, 1) := by decide +kernel
theorem dX3_divide_30 : decode cX3_divide 30 = .ok (.ldc2_w 19, 3) := by decide +kernel
theorem dX3_divide_33 : decode cX3_divide 33 = .ok (.land, 1) := by decide +kernel
theorem dX3_divide_34 : decode cX3_divide 34 = .ok (.lstore 7, 2) := by decide +kernel
theorem dX3_divide_36 : decode cX3_divide 36 = .ok (.lconst 0, 1) := by decide +kernel
theorem dX3_divide_37 : decode cX3_divide 37 = .ok (.lstore 9, 2) := by decide +kernel
theorem dX3_divide_39 : decode cX3_divide 39 = .ok (.iconst 0, 1) := by decide +kernel
theorem dX3_divide_40 : decode cX3_divide 40 = .ok (.istore 11, 2) := by decide +kernel
theorem dX3_divide_42 : decode cX3_divide 42 = .ok (.iload 6, 2) := by decide +kernel
theorem dX3_divide_44 : decode cX3_divide 44 = .ok (.iload 11, 2) := by decide +kernel
theorem dX3_divide_46 : decode cX3_divide 46 = .ok (.iadd, 1) := by decide +kernel
theorem dX3_divide_47 : decode cX3_divide 47 = .ok (.iconst 4, 1) := by decide +kernel
theorem dX3_divide_48 : decode cX3_divide 48 = .ok (.if_icmp .ge 61, 3) := by decide +kernel
theorem dX3_divide_51 : decode cX3_divide 51 = .ok (.lload 9, 2) := by decide +kernel
theorem dX3_divide_53 : decode cX3_divide 53 = .ok (.aload_n 0, 1) := by decide +kernel
theorem dX3_divide_54 : decode cX3_divide 54 = .ok (.iload_n 1, 1) := by decide +kernel
theorem dX3_divide_55 : decode cX3_divide 55 = .ok (.iconst 4, 1) := by decide +kernel
theorem dX3_divide_56 : decode cX3_divide 56 = .ok (.imul, 1) := by decide +kernel
theorem dX3_divide_57 : decode cX3_divide 57 = .ok (.iload 6, 2) := by decide +kernel
theorem dX3_divide_59 : decode cX3_divide 59 = .ok (.iadd, 1) := by decide +kernel
theorem dX3_divide_60 : decode cX3_divide 60 = .ok (.iload 11, 2) := by decide +kernel
theorem dX3_divide_62 : decode cX3_divide 62 = .ok (.iadd, 1) := by decide +kernel
theorem dX3_divide_63 : decode cX3_divide 63 = .ok (.laload, 1) := by decide +kernel
theorem dX3_divide_64 : decode cX3_divide 64 = .ok (.lload 7, 2) := by decide +kernel
theorem dX3_divide_66 : decode cX3_divide 66 = .ok (.aload_n 2, 1) := by decide +kernel
theorem dX3_divide_67 : decode cX3_divide 67 = .ok (.iload_n 3, 1) := by decide +kernel
theorem dX3_divide_68 : decode cX3_divide 68 = .ok (.iconst 4, 1) := by decide +kernel
theorem dX3_divide_69 : decode cX3_divide 69 = .ok (.imul, 1) := by decide +kernel
theorem dX3_divide_70 : decode cX3_divide 70 = .ok (.iload 11, 2) := by decide +kernel
theorem dX3_divide_72 : decode cX3_divide 72 = .ok (.iadd, 1) := by decide +kernel
theorem dX3_divide_73 : decode cX3_divide 73 = .ok (.laload, 1) := by decide +kernel
theorem dX3_divide_74 : decode cX3_divide 74 = .ok (.lmul, 1) := by decide +kernel
theorem dX3_divide_75 : decode cX3_divide 75 = .ok (.lsub, 1) := by decide +kernel
theorem dX3_divide_76 : decode cX3_divide 76 = .ok (.ladd, 1) := by decide +kernel
theorem dX3_divide_77 : decode cX3_divide 77 = .ok (.lstore 9, 2) := by decide +kernel
theorem dX3_divide_79 : decode cX3_divide 79 = .ok (.aload_n 0, 1) := by decide +kernel
theorem dX3_divide_80 : decode cX3_divide 80 = .ok (.iload_n 1, 1) := by decide +kernel
theorem dX3_divide_81 : decode cX3_divide 81 = .ok (.iconst 4, 1) := by decide +kernel
theorem dX3_divide_82 : decode cX3_divide 82 = .ok (.imul, 1) := by decide +kernel
theorem dX3_divide_83 : decode cX3_divide 83 = .ok (.iload 6, 2) := by decide +kernel
theorem dX3_divide_85 : decode cX3_divide 85 = .ok (.iadd, 1) := by decide +kernel
theorem dX3_divide_86 : decode cX3_divide 86 = .ok (.iload 11, 2) := by decide +kernel
theorem dX3_divide_88 : decode cX3_divide 88 = .ok (.iadd, 1) := by decide +kernel
theorem dX3_divide_89 : decode cX3_divide 89 = .ok (.lload 9, 2) := by decide +kernel
theorem dX3_divide_91 : decode cX3_divide 91 = .ok (.ldc2_w 19, 3) := by decide +kernel
theorem dX3_divide_94 : decode cX3_divide 94 = .ok (.land, 1) := by decide +kernel
theorem dX3_divide_95 : decode cX3_divide 95 = .ok (.lastore, 1) := by decide +kernel
theorem dX3_divide_96 : decode cX3_divide 96 = .ok (.lload 9, 2) := by decide +kernel
theorem dX3_divide_98 : decode cX3_divide 98 = .ok (.bipush 30, 2) := by decide +kernel
theorem dX3_divide_100 : decode cX3_divide 100 = .ok (.lshr, 1) := by decide +kernel
theorem dX3_divide_101 : decode cX3_divide 101 = .ok (.lstore 9, 2) := by decide +kernel
theorem dX3_divide_103 : decode cX3_divide 103 = .ok (.iinc 11 1, 3) := by decide +kernel
theorem dX3_divide_106 : decode cX3_divide 106 = .ok (.goto (-64), 3) := by decide +kernel
theorem dX3_divide_109 : decode cX3_divide 109 = .ok (.aload_n 0, 1) := by decide +kernel
theorem dX3_divide_110 : decode cX3_divide 110 = .ok (.iload_n 1, 1) := by decide +kernel
theorem dX3_divide_111 : decode cX3_divide 111 = .ok (.iconst 4, 1) := by decide +kernel
theorem dX3_divide_112 : decode cX3_divide 112 = .ok (.imul, 1) := by decide +kernel
theorem dX3_divide_113 : decode cX3_divide 113 = .ok (.iload 6, 2) := by decide +kernel
theorem dX3_divide_115 : decode cX3_divide 115 = .ok (.iadd, 1) := by decide +kernel
theorem dX3_divide_116 : decode cX3_divide 116 = .ok (.lload 7, 2) := by decide +kernel
theorem dX3_divide_118 : decode cX3_divide 118 = .ok (.lastore, 1) := by decide +kernel
theorem dX3_divide_119 : decode cX3_divide 119 = .ok (.iinc 6 1, 3) := by decide +kernel
theorem dX3_divide_122 : decode cX3_divide 122 = .ok (.goto (-109), 3) := by decide +kernel
theorem dX3_divide_125 : decode cX3_divide 125 = .ok (.return_, 1) := by decide +kernel
theorem me_X3_divide : cx_Ms yX3_divide cX3_divide 12 none 4 := ⟨⟨⟨by decide +kernel, by decide +kernel, by decide +kernel⟩, hw_17, hw_799⟩, hw_798⟩
noncomputable def f_X3_divide_L42 (e0_n : Nat) (p1 : Int32) (e2_n : Nat) (e2_x : Nat → Int64) (p3 : Int32) (x6_6 : Int32) (rc13 : (Nat → Int64) → Int32 → Option (Nat → Int64)) (x7_11 : Int64) (rc42 : (Nat → Int64) → Int64 → Int32 → Option (Nat → Int64)) (a_10 : Nat → Int64) (x9_12 : Int64) (x11_13 : Int32) : Option (Nat → Int64) := if 4 ≤ (x6_6 + x11_13) then (cx_gd (cx_ib ((p1 * 4) + x6_6) e0_n) (cx_let (vp_updL a_10 (cx_ix ((p1 * 4) + x6_6)) x7_11) (fun a16 => rc13 a16 (x6_6 + 1)))) else (cx_gd (cx_ib (((p1 * 4) + x6_6) + x11_13) e0_n) (cx_gd (cx_ib ((p3 * 4) + x11_13) e2_n) (cx_let (x9_12 + ((a_10 (cx_ix (((p1 * 4) + x6_6) + x11_13))) - (x7_11 * (e2_x (cx_ix ((p3 * 4) + x11_13)))))) (fun v19 => cx_gd (cx_ib (((p1 * 4) + x6_6) + x11_13) e0_n) (cx_let (vp_updL a_10 (cx_ix (((p1 * 4) + x6_6) + x11_13)) (v19 &&& 1073741823)) (fun a21 => cx_let (v19 >>> (Int32.toInt64 30 &&& 63)) (fun v22 => rc42 a21 v22 (x11_13 + 1))))))))
noncomputable def f_X3_divide_L42w (e0_n : Nat) (p1 : Int32) (e2_n : Nat) (e2_x : Nat → Int64) (p3 : Int32) (x6_6 : Int32) (rc13 : (Nat → Int64) → Int32 → Option (Nat → Int64)) (x7_11 : Int64) (n : Nat) : (Nat → Int64) → Int64 → Int32 → Option (Nat → Int64) := Nat.rec (fun _ _ _ => none) (fun _ r => f_X3_divide_L42 e0_n p1 e2_n e2_x p3 x6_6 rc13 x7_11 r) n
noncomputable def f_X3_divide_L13 (e0_n : Nat) (p1 : Int32) (e2_n : Nat) (e2_x : Nat → Int64) (p3 : Int32) (x4_5 : Int64) (rc13 : (Nat → Int64) → Int32 → Option (Nat → Int64)) (a_4 : Nat → Int64) (x6_6 : Int32) : Option (Nat → Int64) := if 4 ≤ x6_6 then (some a_4) else (cx_gd (cx_ib ((p1 * 4) + x6_6) e0_n) (cx_let (((a_4 (cx_ix ((p1 * 4) + x6_6))) * x4_5) &&& 1073741823) (fun v9 => f_X3_divide_L42w e0_n p1 e2_n e2_x p3 x6_6 rc13 v9 cx_N0 a_4 0 0)))
noncomputable def f_X3_divide_L13w (e0_n : Nat) (p1 : Int32) (e2_n : Nat) (e2_x : Nat → Int64) (p3 : Int32) (x4_5 : Int64) (n : Nat) : (Nat → Int64) → Int32 → Option (Nat → Int64) := Nat.rec (fun _ _ => none) (fun _ r => f_X3_divide_L13 e0_n p1 e2_n e2_x p3 x4_5 r) n
noncomputable def f_X3_divide (e0_n : Nat) (e0_x : Nat → Int64) (p1 : Int32) (e2_n : Nat) (e2_x : Nat → Int64) (p3 : Int32) : Option (Nat → Int64) := cx_gd (cx_ib (p3 * 4) e2_n) (Option.bind (f_X3_inverseOf (e2_x (cx_ix (p3 * 4)))) (fun u2 => f_X3_divide_L13w e0_n p1 e2_n e2_x p3 u2 cx_N0 e0_x 0))
set_option maxHeartbeats 4000000 in
set_option maxRecDepth 100000 in
theorem c_X3_divide (l : Launch) (D : va_G) (k : Nat → ClassId) (e0_a : Nat) (e2_a : Nat) (e0_n : Nat) (e0_x : Nat → Int64) (p1 : Int32) (e2_n : Nat) (e2_x : Nat → Int64) (p3 : Int32) (y : Nat → Int64) (hf : f_X3_divide e0_n e0_x p1 e2_n e2_x p3 = some y) : cx_M l yX3_divide cX3_divide 12 none 2 D k [.ref e0_a, .int p1, .ref e2_a, .int p3] (wd_LA k e0_a e0_n e0_x ++ (wd_LA k e2_a e2_n e2_x)) (fun sz => cx_Qv D (wd_LA k e0_a e0_n e0_x ++ (wd_LA k e2_a e2_n e2_x)) (wd_LA k e0_a e0_n y ++ (wd_LA k e2_a e2_n e2_x)) sz) := by
  refine cx_met (own := "NamelessBox$Limbs") (by decide) rfl (Nat.le_of_ble_eq_true rfl) ?_
  intro p e s m args below meth c A Q C hA hQ hr hlk
  refine cx_lv (lv' := [(0, .ref e0_a), (1, .int p1), (2, .ref e2_a), (3, .int p3)]) [0, 1, 2, 3] rfl ?_
  have L13 : ∀ (x4_5 : Int64) (n13 : Nat) (a_4 : Nat → Int64) (x6_6 : Int32), f_X3_divide_L13w e0_n p1 e2_n e2_x p3 x4_5 n13 a_4 x6_6 = some y → cx_S p l e (cx_rm 2) s m args below meth c A D 12 0 0 Q 13 [(0, .ref e0_a), (1, .int p1), (2, .ref e2_a), (3, .int p3), (4, .long x4_5), (6, .int x6_6)] [] (wd_LA k e0_a e0_n a_4 ++ (wd_LA k e2_a e2_n e2_x)) := by
    intro x4_5 n13
    induction n13 with
    | zero =>
      intro a_4 x6_6 hf
      exact absurd (show (none : Option (Nat → Int64)) = some y from hf) (fun h => by cases h)
    | succ n13 ih13 =>
      intro a_4 x6_6 hf
      have hf : f_X3_divide_L13 e0_n p1 e2_n e2_x p3 x4_5 (f_X3_divide_L13w e0_n p1 e2_n e2_x p3 x4_5 n13) a_4 x6_6 = some y := hf
      have L42 : ∀ (x7_11 : Int64) (n42 : Nat) (a_10 : Nat → Int64) (x9_12 : Int64) (x11_13 : Int32), f_X3_divide_L42w e0_n p1 e2_n e2_x p3 x6_6 (f_X3_divide_L13w e0_n p1 e2_n e2_x p3 x4_5 n13) x7_11 n42 a_10 x9_12 x11_13 = some y → cx_S p l e (cx_rm 2) s m args below meth c A D 12 0 0 Q 42 [(0, .ref e0_a), (1, .int p1), (2, .ref e2_a), (3, .int p3), (4, .long x4_5), (6, .int x6_6), (7, .long x7_11), (9, .long x9_12), (11, .int x11_13)] [] (wd_LA k e0_a e0_n a_10 ++ (wd_LA k e2_a e2_n e2_x)) := by
        intro x7_11 n42
        induction n42 with
        | zero =>
          intro a_10 x9_12 x11_13 hf
          exact absurd (show (none : Option (Nat → Int64)) = some y from hf) (fun h => by cases h)
        | succ n42 ih42 =>
          intro a_10 x9_12 x11_13 hf
          have hf : f_X3_divide_L42 e0_n p1 e2_n e2_x p3 x6_6 (f_X3_divide_L13w e0_n p1 e2_n e2_x p3 x4_5 n13) x7_11 (f_X3_divide_L42w e0_n p1 e2_n e2_x p3 x6_6 (f_X3_divide_L13w e0_n p1 e2_n e2_x p3 x4_5 n13) x7_11 n42) a_10 x9_12 x11_13 = some y := hf
          unfold f_X3_divide_L42 at hf
          refine cx_iload C dX3_divide_42 5 rfl ?_
          refine cx_iload C dX3_divide_44 8 rfl ?_
          refine cx_iadd C dX3_divide_46 ?_
          refine cx_iconst (v := 4) C dX3_divide_47 (by decide) ?_
          refine cx_icmp_ge (tgt := 109) C dX3_divide_48 (by decide) (fun c14 => ?_) (fun c14 => ?_)
          · have hf := cx_if_t hf c14
            clear c14
            refine cx_aload_n C dX3_divide_109 0 rfl ?_
            refine cx_iload_n C dX3_divide_110 1 rfl ?_
            refine cx_iconst (v := 4) C dX3_divide_111 (by decide) ?_
            refine cx_imul C dX3_divide_112 ?_
            refine cx_iload C dX3_divide_113 5 rfl ?_
            refine cx_iadd C dX3_divide_115 ?_
            refine cx_lload C dX3_divide_116 6 rfl ?_
            obtain ⟨g15, hf⟩ := cx_gd_at hf
            obtain ⟨a16, ea16⟩ : ∃ z, z = vp_updL a_10 (cx_ix ((p1 * 4) + x6_6)) x7_11 := ⟨_, rfl⟩
            have hf := cx_let_at hf ea16
            refine cx_last (ws' := (wd_LA k e0_a e0_n a16 ++ (wd_LA k e2_a e2_n e2_x))) C dX3_divide_118 0 rfl (cx_ib_in g15) (by rw [ea16]; rfl) ?_
            clear ea16 g15
            refine cx_iinc (v := x6_6 + 1) (lv' := [(6, .int (x6_6 + 1)), (0, .ref e0_a), (1, .int p1), (2, .ref e2_a), (3, .int p3), (4, .long x4_5), (7, .long x7_11), (9, .long x9_12), (11, .int x11_13)]) C dX3_divide_119 5 rfl rfl (by decide) rfl ?_
            refine cx_goto (tgt := 13) C dX3_divide_122 (by decide) ?_
            refine cx_lv [1, 2, 3, 4, 5, 0] rfl ?_
            exact ih13 a16 (x6_6 + 1) hf
          · have hf := cx_if_f hf c14
            clear c14
            refine cx_lload C dX3_divide_51 7 rfl ?_
            refine cx_aload_n C dX3_divide_53 0 rfl ?_
            refine cx_iload_n C dX3_divide_54 1 rfl ?_
            refine cx_iconst (v := 4) C dX3_divide_55 (by decide) ?_
            refine cx_imul C dX3_divide_56 ?_
            refine cx_iload C dX3_divide_57 5 rfl ?_
            refine cx_iadd C dX3_divide_59 ?_
            refine cx_iload C dX3_divide_60 8 rfl ?_
            refine cx_iadd C dX3_divide_62 ?_
            obtain ⟨g17, hf⟩ := cx_gd_at hf
            refine cx_lald C dX3_divide_63 0 rfl (cx_ib_in g17) ?_
            clear g17
            refine cx_lload C dX3_divide_64 6 rfl ?_
            refine cx_aload_n C dX3_divide_66 2 rfl ?_
            refine cx_iload_n C dX3_divide_67 3 rfl ?_
            refine cx_iconst (v := 4) C dX3_divide_68 (by decide) ?_
            refine cx_imul C dX3_divide_69 ?_
            refine cx_iload C dX3_divide_70 8 rfl ?_
            refine cx_iadd C dX3_divide_72 ?_
            obtain ⟨g18, hf⟩ := cx_gd_at hf
            refine cx_lald C dX3_divide_73 1 rfl (cx_ib_in g18) ?_
            clear g18
            refine cx_lmul C dX3_divide_74 ?_
            refine cx_lsub C dX3_divide_75 ?_
            refine cx_ladd C dX3_divide_76 ?_
            refine cx_topl (fun v19 ev19 => ?_)
            have hf := cx_let_at hf ev19
            clear ev19
            refine cx_lstore (lv' := [(9, .long v19), (0, .ref e0_a), (1, .int p1), (2, .ref e2_a), (3, .int p3), (4, .long x4_5), (6, .int x6_6), (7, .long x7_11), (11, .int x11_13)]) C dX3_divide_77 (by decide) rfl ?_
            refine cx_aload_n C dX3_divide_79 1 rfl ?_
            refine cx_iload_n C dX3_divide_80 2 rfl ?_
            refine cx_iconst (v := 4) C dX3_divide_81 (by decide) ?_
            refine cx_imul C dX3_divide_82 ?_
            refine cx_iload C dX3_divide_83 6 rfl ?_
            refine cx_iadd C dX3_divide_85 ?_
            refine cx_iload C dX3_divide_86 8 rfl ?_
            refine cx_iadd C dX3_divide_88 ?_
            refine cx_lload C dX3_divide_89 0 rfl ?_
            refine cx_ldc2 (v := 1073741823) C dX3_divide_91 hw_680 ?_
            refine cx_land C dX3_divide_94 ?_
            obtain ⟨g20, hf⟩ := cx_gd_at hf
            obtain ⟨a21, ea21⟩ : ∃ z, z = vp_updL a_10 (cx_ix (((p1 * 4) + x6_6) + x11_13)) (v19 &&& 1073741823) := ⟨_, rfl⟩
            have hf := cx_let_at hf ea21
            refine cx_last (ws' := (wd_LA k e0_a e0_n a21 ++ (wd_LA k e2_a e2_n e2_x))) C dX3_divide_95 0 rfl (cx_ib_in g20) (by rw [ea21]; rfl) ?_
            clear ea21 g20
            refine cx_lload C dX3_divide_96 0 rfl ?_
            refine cx_bipush (v := 30) C dX3_divide_98 (by decide) ?_
            refine cx_lshr C dX3_divide_100 ?_
            refine cx_topl (fun v22 ev22 => ?_)
            have hf := cx_let_at hf ev22
            clear ev22
            refine cx_lstore (lv' := [(9, .long v22), (0, .ref e0_a), (1, .int p1), (2, .ref e2_a), (3, .int p3), (4, .long x4_5), (6, .int x6_6), (7, .long x7_11), (11, .int x11_13)]) C dX3_divide_101 (by decide) rfl ?_
            refine cx_iinc (v := x11_13 + 1) (lv' := [(11, .int (x11_13 + 1)), (9, .long v22), (0, .ref e0_a), (1, .int p1), (2, .ref e2_a), (3, .int p3), (4, .long x4_5), (6, .int x6_6), (7, .long x7_11)]) C dX3_divide_103 8 rfl rfl (by decide) rfl ?_
            refine cx_goto (tgt := 42) C dX3_divide_106 (by decide) ?_
            refine cx_lv [2, 3, 4, 5, 6, 7, 8, 1, 0] rfl ?_
            exact ih42 a21 v22 (x11_13 + 1) hf
      unfold f_X3_divide_L13 at hf
      refine cx_iload C dX3_divide_13 5 rfl ?_
      refine cx_iconst (v := 4) C dX3_divide_15 (by decide) ?_
      refine cx_icmp_ge (tgt := 125) C dX3_divide_16 (by decide) (fun c7 => ?_) (fun c7 => ?_)
      · have hf := cx_if_t hf c7
        clear c7
        obtain rfl := Option.some.inj hf
        exact cx_vret C hA hQ hr hlk dX3_divide_125 rfl
      · have hf := cx_if_f hf c7
        clear c7
        refine cx_aload_n C dX3_divide_19 0 rfl ?_
        refine cx_iload_n C dX3_divide_20 1 rfl ?_
        refine cx_iconst (v := 4) C dX3_divide_21 (by decide) ?_
        refine cx_imul C dX3_divide_22 ?_
        refine cx_iload C dX3_divide_23 5 rfl ?_
        refine cx_iadd C dX3_divide_25 ?_
        obtain ⟨g8, hf⟩ := cx_gd_at hf
        refine cx_lald C dX3_divide_26 0 rfl (cx_ib_in g8) ?_
        clear g8
        refine cx_lload C dX3_divide_27 4 rfl ?_
        refine cx_lmul C dX3_divide_29 ?_
        refine cx_ldc2 (v := 1073741823) C dX3_divide_30 hw_680 ?_
        refine cx_land C dX3_divide_33 ?_
        refine cx_topl (fun v9 ev9 => ?_)
        have hf := cx_let_at hf ev9
        clear ev9
        refine cx_lstore (lv' := [(7, .long v9), (0, .ref e0_a), (1, .int p1), (2, .ref e2_a), (3, .int p3), (4, .long x4_5), (6, .int x6_6)]) C dX3_divide_34 (by decide) rfl ?_
        refine cx_lconst (v := 0) C dX3_divide_36 (by decide) ?_
        refine cx_lstore (lv' := [(9, .long 0), (7, .long v9), (0, .ref e0_a), (1, .int p1), (2, .ref e2_a), (3, .int p3), (4, .long x4_5), (6, .int x6_6)]) C dX3_divide_37 (by decide) rfl ?_
        refine cx_iconst (v := 0) C dX3_divide_39 (by decide) ?_
        refine cx_istore (lv' := [(11, .int 0), (9, .long 0), (7, .long v9), (0, .ref e0_a), (1, .int p1), (2, .ref e2_a), (3, .int p3), (4, .long x4_5), (6, .int x6_6)]) C dX3_divide_40 (by decide) rfl ?_
        refine cx_lv [3, 4, 5, 6, 7, 8, 2, 1, 0] rfl ?_
        exact L42 v9 cx_N0 a_4 0 0 hf
  unfold f_X3_divide at hf
  refine cx_aload_n C dX3_divide_0 2 rfl ?_
  refine cx_iload_n C dX3_divide_1 3 rfl ?_
  refine cx_iconst (v := 4) C dX3_divide_2 (by decide) ?_
  refine cx_imul C dX3_divide_3 ?_
  obtain ⟨g1, hf⟩ := cx_gd_at hf
  refine cx_lald C dX3_divide_4 1 rfl (cx_ib_in g1) ?_
  clear g1
  obtain ⟨u2, e3, hf⟩ := cx_bd_at hf
  refine cx_Ksl (As := [.long (e2_x (cx_ix (p3 * 4)))]) (rest := []) hA C me_X3_inverseOf hw_800 (c_X3_inverseOf l D k (e2_x (cx_ix (p3 * 4))) u2 e3) dX3_divide_5 ⟨Nat.le_of_ble_eq_true rfl, Nat.le_of_ble_eq_true rfl⟩ ⟨Nat.zero_le _, Nat.zero_le _⟩ rfl rfl (Nat.le_of_ble_eq_true rfl) [] rfl (by decide) ?_
  clear e3
  refine cx_lstore (lv' := [(4, .long u2), (0, .ref e0_a), (1, .int p1), (2, .ref e2_a), (3, .int p3)]) C dX3_divide_8 (by decide) rfl ?_
  refine cx_iconst (v := 0) C dX3_divide_10 (by decide) ?_
  refine cx_istore (lv' := [(6, .int 0), (4, .long u2), (0, .ref e0_a), (1, .int p1), (2, .ref e2_a), (3, .int p3)]) C dX3_divide_11 (by decide) rfl ?_
  refine cx_lv [2, 3, 4, 5, 1, 0] rfl ?_
  exact L13 u2 cx_N0 e0_x 0 hf
theorem dX3_length_0 : decode cX3_length 0 = .ok (.iconst 4, 1) := by decide +kernel
theorem dX3_length_1 : decode cX3_length 1 = .ok (.istore_n 2, 1) := by decide +kernel
theorem dX3_length_2 : decode cX3_length 2 = .ok (.iload_n 2, 1) := by decide +kernel
theorem dX3_length_3 : decode cX3_length 3 = .ok (.ifCond .le 23, 3) := by decide +kernel
theorem dX3_length_6 : decode cX3_length 6 = .ok (.aload_n 0, 1) := by decide +kernel
theorem dX3_length_7 : decode cX3_length 7 = .ok (.iload_n 1, 1) := by decide +kernel
theorem dX3_length_8 : decode cX3_length 8 = .ok (.iconst 4, 1) := by decide +kernel
theorem dX3_length_9 : decode cX3_length 9 = .ok (.imul, 1) := by decide +kernel
theorem dX3_length_10 : decode cX3_length 10 = .ok (.iload_n 2, 1) := by decide +kernel
theorem dX3_length_11 : decode cX3_length 11 = .ok (.iadd, 1) := by decide +kernel
theorem dX3_length_12 : decode cX3_length 12 = .ok (.iconst 1, 1) := by decide +kernel
theorem dX3_length_13 : decode cX3_length 13 = .ok (.isub, 1) := by decide +kernel
theorem dX3_length_14 : decode cX3_length 14 = .ok (.laload, 1) := by decide +kernel
theorem dX3_length_15 : decode cX3_length 15 = .ok (.lconst 0, 1) := by decide +kernel
theorem dX3_length_16 : decode cX3_length 16 = .ok (.lcmp, 1) := by decide +kernel
theorem dX3_length_17 : decode cX3_length 17 = .ok (.ifCond .ne 9, 3) := by decide +kernel
theorem dX3_length_20 : decode cX3_length 20 = .ok (.iinc 2 (-1), 3) := by decide +kernel
theorem dX3_length_23 : decode cX3_length 23 = .ok (.goto (-21), 3) := by decide +kernel
theorem dX3_length_26 : decode cX3_length 26 = .ok (.iload_n 2, 1) := by decide +kernel
theorem dX3_length_27 : decode cX3_length 27 = .ok (.ireturn, 1) := by decide +kernel
theorem me_X3_length : cx_Ms yX3_length cX3_length 3 (some .int) 2 := ⟨⟨⟨by decide +kernel, by decide +kernel, by decide +kernel⟩, hw_17, hw_989⟩, hw_988⟩
noncomputable def f_X3_length_L2 (e0_n : Nat) (e0_x : Nat → Int64) (p1 : Int32) (rc2 : Int32 → Option Int32) (x2_1 : Int32) : Option Int32 := if x2_1 ≤ 0 then (some x2_1) else (cx_gd (cx_ib (((p1 * 4) + x2_1) - 1) e0_n) (if (lg_cmp (e0_x (cx_ix (((p1 * 4) + x2_1) - 1))) 0) = 0 then (rc2 (x2_1 + (-1))) else (some x2_1)))
noncomputable def f_X3_length_L2w (e0_n : Nat) (e0_x : Nat → Int64) (p1 : Int32) (n : Nat) : Int32 → Option Int32 := Nat.rec (fun _ => none) (fun _ r => f_X3_length_L2 e0_n e0_x p1 r) n
noncomputable def f_X3_length (e0_n : Nat) (e0_x : Nat → Int64) (p1 : Int32) : Option Int32 := f_X3_length_L2w e0_n e0_x p1 cx_N0 4
set_option maxHeartbeats 4000000 in
set_option maxRecDepth 100000 in
theorem c_X3_length (l : Launch) (D : va_G) (k : Nat → ClassId) (e0_a : Nat) (e0_n : Nat) (e0_x : Nat → Int64) (p1 : Int32) (y : Int32) (hf : f_X3_length e0_n e0_x p1 = some y) : cx_M l yX3_length cX3_length 3 (some .int) 1 D k [.ref e0_a, .int p1] (wd_LA k e0_a e0_n e0_x) (fun sz => cx_Qi D y (wd_LA k e0_a e0_n e0_x) (wd_LA k e0_a e0_n e0_x) sz) := by
  refine cx_met (own := "NamelessBox$Limbs") (by decide) rfl (Nat.le_of_ble_eq_true rfl) ?_
  intro p e s m args below meth c A Q C hA hQ hr hlk
  refine cx_lv (lv' := [(0, .ref e0_a), (1, .int p1)]) [0, 1] rfl ?_
  have L2 : ∀ (n2 : Nat) (x2_1 : Int32), f_X3_length_L2w e0_n e0_x p1 n2 x2_1 = some y → cx_S p l e (cx_rm 1) s m args below meth c A D 3 0 0 Q 2 [(0, .ref e0_a), (1, .int p1), (2, .int x2_1)] [] (wd_LA k e0_a e0_n e0_x) := by
    intro  n2
    induction n2 with
    | zero =>
      intro x2_1 hf
      exact absurd (show (none : Option Int32) = some y from hf) (fun h => by cases h)
    | succ n2 ih2 =>
      intro x2_1 hf
      have hf : f_X3_length_L2 e0_n e0_x p1 (f_X3_length_L2w e0_n e0_x p1 n2) x2_1 = some y := hf
      unfold f_X3_length_L2 at hf
      refine cx_iload_n C dX3_length_2 2 rfl ?_
      refine cx_if_le (tgt := 26) C dX3_length_3 (by decide) (fun c2 => ?_) (fun c2 => ?_)
      · have hf := cx_if_t hf c2
        clear c2
        refine cx_iload_n C dX3_length_26 2 rfl ?_
        obtain rfl := Option.some.inj hf
        exact cx_iret C hA hQ hr hlk dX3_length_27 rfl rfl
      · have hf := cx_if_f hf c2
        clear c2
        refine cx_aload_n C dX3_length_6 0 rfl ?_
        refine cx_iload_n C dX3_length_7 1 rfl ?_
        refine cx_iconst (v := 4) C dX3_length_8 (by decide) ?_
        refine cx_imul C dX3_length_9 ?_
        refine cx_iload_n C dX3_length_10 2 rfl ?_
        refine cx_iadd C dX3_length_11 ?_
        refine cx_iconst (v := 1) C dX3_length_12 (by decide) ?_
        refine cx_isub C dX3_length_13 ?_
        obtain ⟨g3, hf⟩ := cx_gd_at hf
        refine cx_lald C dX3_length_14 0 rfl (cx_ib_in g3) ?_
        clear g3
        refine cx_lconst (v := 0) C dX3_length_15 (by decide) ?_
        refine cx_lcmp C dX3_length_16 ?_
        refine cx_if_ne (tgt := 26) C dX3_length_17 (by decide) (fun c4 => ?_) (fun c4 => ?_)
        · have hf := cx_if_f hf c4
          clear c4
          refine cx_iload_n C dX3_length_26 2 rfl ?_
          obtain rfl := Option.some.inj hf
          exact cx_iret C hA hQ hr hlk dX3_length_27 rfl rfl
        · have hf := cx_if_t hf c4
          clear c4
          refine cx_iinc (v := x2_1 + (-1)) (lv' := [(2, .int (x2_1 + (-1))), (0, .ref e0_a), (1, .int p1)]) C dX3_length_20 2 rfl rfl (by decide) rfl ?_
          refine cx_goto (tgt := 2) C dX3_length_23 (by decide) ?_
          refine cx_lv [1, 2, 0] rfl ?_
          exact ih2 (x2_1 + (-1)) hf
  unfold f_X3_length at hf
  refine cx_iconst (v := 4) C dX3_length_0 (by decide) ?_
  refine cx_istore_n (lv' := [(2, .int 4), (0, .ref e0_a), (1, .int p1)]) C dX3_length_1 rfl (by decide) rfl ?_
  refine cx_lv [1, 2, 0] rfl ?_
  exact L2 cx_N0 4 hf
theorem dX3_mixInto_0 : decode cX3_mixInto 0 = .ok (.lload_n 0, 1) := by decide +kernel
theorem dX3_mixInto_1 : decode cX3_mixInto 1 = .ok (.lstore 4, 2) := by decide +kernel
theorem dX3_mixInto_3 : decode cX3_mixInto 3 = .ok (.aload_n 2, 1) := by decide +kernel
theorem dX3_mixInto_4 : decode cX3_mixInto 4 = .ok (.iload_n 3, 1) := by decide +kernel
theorem dX3_mixInto_5 : decode cX3_mixInto 5 = .ok (.invokestatic 36, 3) := by decide +kernel
theorem dX3_mixInto_8 : decode cX3_mixInto 8 = .ok (.istore 6, 2) := by decide +kernel
theorem dX3_mixInto_10 : decode cX3_mixInto 10 = .ok (.iconst 0, 1) := by decide +kernel
theorem dX3_mixInto_11 : decode cX3_mixInto 11 = .ok (.istore 7, 2) := by decide +kernel
theorem dX3_mixInto_13 : decode cX3_mixInto 13 = .ok (.iload 7, 2) := by decide +kernel
theorem dX3_mixInto_15 : decode cX3_mixInto 15 = .ok (.iload 6, 2) := by decide +kernel
theorem dX3_mixInto_17 : decode cX3_mixInto 17 = .ok (.if_icmp .ge 26, 3) := by decide +kernel
theorem dX3_mixInto_20 : decode cX3_mixInto 20 = .ok (.ldc2_w 40, 3) := by decide +kernel
theorem dX3_mixInto_23 : decode cX3_mixInto 23 = .ok (.lload 4, 2) := by decide +kernel
theorem dX3_mixInto_25 : decode cX3_mixInto 25 = .ok (.lmul, 1) := by decide +kernel
theorem dX3_mixInto_26 : decode cX3_mixInto 26 = .ok (.aload_n 2, 1) := by decide +kernel
theorem dX3_mixInto_27 : decode cX3_mixInto 27 = .ok (.iload_n 3, 1) := by decide +kernel
theorem dX3_mixInto_28 : decode cX3_mixInto 28 = .ok (.iconst 4, 1) := by decide +kernel
theorem dX3_mixInto_29 : decode cX3_mixInto 29 = .ok (.imul, 1) := by decide +kernel
theorem dX3_mixInto_30 : decode cX3_mixInto 30 = .ok (.iload 7, 2) := by decide +kernel
theorem dX3_mixInto_32 : decode cX3_mixInto 32 = .ok (.iadd, 1) := by decide +kernel
theorem dX3_mixInto_33 : decode cX3_mixInto 33 = .ok (.laload, 1) := by decide +kernel
theorem dX3_mixInto_34 : decode cX3_mixInto 34 = .ok (.ladd, 1) := by decide +kernel
theorem dX3_mixInto_35 : decode cX3_mixInto 35 = .ok (.lstore 4, 2) := by decide +kernel
theorem dX3_mixInto_37 : decode cX3_mixInto 37 = .ok (.iinc 7 1, 3) := by decide +kernel
theorem dX3_mixInto_40 : decode cX3_mixInto 40 = .ok (.goto (-27), 3) := by decide +kernel
theorem dX3_mixInto_43 : decode cX3_mixInto 43 = .ok (.lload 4, 2) := by decide +kernel
theorem dX3_mixInto_45 : decode cX3_mixInto 45 = .ok (.lreturn, 1) := by decide +kernel
theorem me_X3_mixInto : cx_Ms yX3_mixInto cX3_mixInto 8 (some .long) 3 := ⟨⟨⟨by decide +kernel, by decide +kernel, by decide +kernel⟩, hw_17, hw_1036⟩, hw_1035⟩
noncomputable def f_X3_mixInto_L13 (e2_n : Nat) (e2_x : Nat → Int64) (p3 : Int32) (x6_4 : Int32) (rc13 : Int64 → Int32 → Option Int64) (x4_3 : Int64) (x7_5 : Int32) : Option Int64 := if x6_4 ≤ x7_5 then (some x4_3) else (cx_gd (cx_ib ((p3 * 4) + x7_5) e2_n) (cx_let ((31 * x4_3) + (e2_x (cx_ix ((p3 * 4) + x7_5)))) (fun v8 => rc13 v8 (x7_5 + 1))))
noncomputable def f_X3_mixInto_L13w (e2_n : Nat) (e2_x : Nat → Int64) (p3 : Int32) (x6_4 : Int32) (n : Nat) : Int64 → Int32 → Option Int64 := Nat.rec (fun _ _ => none) (fun _ r => f_X3_mixInto_L13 e2_n e2_x p3 x6_4 r) n
noncomputable def f_X3_mixInto (p0 : Int64) (e2_n : Nat) (e2_x : Nat → Int64) (p3 : Int32) : Option Int64 := Option.bind (f_X3_length e2_n e2_x p3) (fun u1 => f_X3_mixInto_L13w e2_n e2_x p3 u1 cx_N0 p0 0)
set_option maxHeartbeats 4000000 in
set_option maxRecDepth 100000 in
theorem c_X3_mixInto (l : Launch) (D : va_G) (k : Nat → ClassId) (e2_a : Nat) (p0 : Int64) (e2_n : Nat) (e2_x : Nat → Int64) (p3 : Int32) (y : Int64) (hf : f_X3_mixInto p0 e2_n e2_x p3 = some y) : cx_M l yX3_mixInto cX3_mixInto 8 (some .long) 2 D k [.long p0, .ref e2_a, .int p3] (wd_LA k e2_a e2_n e2_x) (fun sz => cx_Ql D y (wd_LA k e2_a e2_n e2_x) (wd_LA k e2_a e2_n e2_x) sz) := by
  refine cx_met (own := "NamelessBox$Limbs") (by decide) rfl (Nat.le_of_ble_eq_true rfl) ?_
  intro p e s m args below meth c A Q C hA hQ hr hlk
  refine cx_lv (lv' := [(0, .long p0), (2, .ref e2_a), (3, .int p3)]) [0, 1, 2] rfl ?_
  have L13 : ∀ (x6_4 : Int32) (n13 : Nat) (x4_3 : Int64) (x7_5 : Int32), f_X3_mixInto_L13w e2_n e2_x p3 x6_4 n13 x4_3 x7_5 = some y → cx_S p l e (cx_rm 2) s m args below meth c A D 8 0 0 Q 13 [(2, .ref e2_a), (3, .int p3), (4, .long x4_3), (6, .int x6_4), (7, .int x7_5)] [] (wd_LA k e2_a e2_n e2_x) := by
    intro x6_4 n13
    induction n13 with
    | zero =>
      intro x4_3 x7_5 hf
      exact absurd (show (none : Option Int64) = some y from hf) (fun h => by cases h)
    | succ n13 ih13 =>
      intro x4_3 x7_5 hf
      have hf : f_X3_mixInto_L13 e2_n e2_x p3 x6_4 (f_X3_mixInto_L13w e2_n e2_x p3 x6_4 n13) x4_3 x7_5 = some y := hf
      unfold f_X3_mixInto_L13 at hf
      refine cx_iload C dX3_mixInto_13 4 rfl ?_
      refine cx_iload C dX3_mixInto_15 3 rfl ?_
      refine cx_icmp_ge (tgt := 43) C dX3_mixInto_17 (by decide) (fun c6 => ?_) (fun c6 => ?_)
      · have hf := cx_if_t hf c6
        clear c6
        refine cx_lload C dX3_mixInto_43 2 rfl ?_
        obtain rfl := Option.some.inj hf
        exact cx_lret C hA hQ hr hlk dX3_mixInto_45 rfl rfl
      · have hf := cx_if_f hf c6
        clear c6
        refine cx_ldc2 (v := 31) C dX3_mixInto_20 hw_1038 ?_
        refine cx_lload C dX3_mixInto_23 2 rfl ?_
        refine cx_lmul C dX3_mixInto_25 ?_
        refine cx_aload_n C dX3_mixInto_26 0 rfl ?_
        refine cx_iload_n C dX3_mixInto_27 1 rfl ?_
        refine cx_iconst (v := 4) C dX3_mixInto_28 (by decide) ?_
        refine cx_imul C dX3_mixInto_29 ?_
        refine cx_iload C dX3_mixInto_30 4 rfl ?_
        refine cx_iadd C dX3_mixInto_32 ?_
        obtain ⟨g7, hf⟩ := cx_gd_at hf
        refine cx_lald C dX3_mixInto_33 0 rfl (cx_ib_in g7) ?_
        clear g7
        refine cx_ladd C dX3_mixInto_34 ?_
        refine cx_topl (fun v8 ev8 => ?_)
        have hf := cx_let_at hf ev8
        clear ev8
        refine cx_lstore (lv' := [(4, .long v8), (2, .ref e2_a), (3, .int p3), (6, .int x6_4), (7, .int x7_5)]) C dX3_mixInto_35 (by decide) rfl ?_
        refine cx_iinc (v := x7_5 + 1) (lv' := [(7, .int (x7_5 + 1)), (4, .long v8), (2, .ref e2_a), (3, .int p3), (6, .int x6_4)]) C dX3_mixInto_37 4 rfl rfl (by decide) rfl ?_
        refine cx_goto (tgt := 13) C dX3_mixInto_40 (by decide) ?_
        refine cx_lv [2, 3, 1, 4, 0] rfl ?_
        exact ih13 v8 (x7_5 + 1) hf
  unfold f_X3_mixInto at hf
  refine cx_lload_n C dX3_mixInto_0 0 rfl ?_
  refine cx_lstore (lv' := [(4, .long p0), (0, .long p0), (2, .ref e2_a), (3, .int p3)]) C dX3_mixInto_1 (by decide) rfl ?_
  refine cx_aload_n C dX3_mixInto_3 2 rfl ?_
  refine cx_iload_n C dX3_mixInto_4 3 rfl ?_
  obtain ⟨u1, e2, hf⟩ := cx_bd_at hf
  refine cx_Ksi (As := [.ref e2_a, .int p3]) (rest := []) hA C me_X3_length hw_1037 (c_X3_length l D k e2_a e2_n e2_x p3 u1 e2) dX3_mixInto_5 ⟨Nat.le_of_ble_eq_true rfl, Nat.le_of_ble_eq_true rfl⟩ ⟨Nat.zero_le _, Nat.zero_le _⟩ rfl rfl (Nat.le_of_ble_eq_true rfl) [0] rfl (by decide) ?_
  clear e2
  refine cx_istore (lv' := [(6, .int u1), (4, .long p0), (0, .long p0), (2, .ref e2_a), (3, .int p3)]) C dX3_mixInto_8 (by decide) rfl ?_
  refine cx_iconst (v := 0) C dX3_mixInto_10 (by decide) ?_
  refine cx_istore (lv' := [(7, .int 0), (6, .int u1), (4, .long p0), (0, .long p0), (2, .ref e2_a), (3, .int p3)]) C dX3_mixInto_11 (by decide) rfl ?_
  refine cx_lv [4, 5, 2, 1, 0] rfl ?_
  exact L13 u1 cx_N0 p0 0 hf
