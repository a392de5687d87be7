theorem dX6_hasRoom_0 : decode cX6_hasRoom 0 = .ok (.iload_n 1, 1) := by decide +kernel
theorem dX6_hasRoom_1 : decode cX6_hasRoom 1 = .ok (.sipush 300, 3) := by decide +kernel
theorem dX6_hasRoom_4 : decode cX6_hasRoom 4 = .ok (.aload_n 0, 1) := by decide +kernel
theorem dX6_hasRoom_5 : decode cX6_hasRoom 5 = .ok (.getfield 15, 3) := by decide +kernel
theorem dX6_hasRoom_8 : decode cX6_hasRoom 8 = .ok (.isub, 1) := by decide +kernel
theorem dX6_hasRoom_9 : decode cX6_hasRoom 9 = .ok (.if_icmp .gt 7, 3) := by decide +kernel
theorem dX6_hasRoom_12 : decode cX6_hasRoom 12 = .ok (.iconst 1, 1) := by decide +kernel
theorem dX6_hasRoom_13 : decode cX6_hasRoom 13 = .ok (.goto 4, 3) := by decide +kernel
theorem dX6_hasRoom_16 : decode cX6_hasRoom 16 = .ok (.iconst 0, 1) := by decide +kernel
theorem dX6_hasRoom_17 : decode cX6_hasRoom 17 = .ok (.ireturn, 1) := by decide +kernel
theorem me_X6_hasRoom : cx_Mv yX6_hasRoom cX6_hasRoom 2 (some .boolean) 1 := ⟨⟨⟨by decide +kernel, by decide +kernel, by decide +kernel⟩, hw_5, hw_474⟩, hw_472, hw_473⟩
noncomputable def f_X6_hasRoom (t_length : Int32) (p1 : Int32) : Option Int32 := if (300 - t_length) < p1 then (some 0) else (some 1)
set_option maxHeartbeats 4000000 in
set_option maxRecDepth 100000 in
theorem c_X6_hasRoom (l : Launch) (D : va_G) (k : Nat → ClassId) (t_a : Nat → Nat) (t_bytes : Nat → Int32) (t_length : Int32) (t_start : Int32) (t_end : Int32) (t_item : Int32) (t_numbers : Nat → Int32) (p1 : Int32) (y : Int32) (hf : f_X6_hasRoom t_length p1 = some y) : cx_M l yX6_hasRoom cX6_hasRoom 2 (some .boolean) 1 D k [.ref (t_a 0), .int p1] (wd_Text k t_a t_bytes t_length t_start t_end t_item t_numbers) (fun sz => cx_Qi D y (wd_Text k t_a t_bytes t_length t_start t_end t_item t_numbers) (wd_Text k t_a t_bytes t_length t_start t_end t_item t_numbers) sz) := by
  refine cx_met (own := "NamelessBox$Text") (by decide) rfl (Nat.le_of_ble_eq_true rfl) ?_
  intro p e s m args below meth c A Q C hA hQ hr hlk
  refine cx_lv (lv' := [(0, .ref (t_a 0)), (1, .int p1)]) [0, 1] rfl ?_
  unfold f_X6_hasRoom at hf
  refine cx_iload_n C dX6_hasRoom_0 1 rfl ?_
  refine cx_sipush (v := 300) C dX6_hasRoom_1 (by decide) ?_
  refine cx_aload_n C dX6_hasRoom_4 0 rfl ?_
  refine cx_get (v := .int t_length) (ci := 5) C iX6 dX6_hasRoom_5 0 rfl rfl 1 (by decide) hw_98 rfl ?_
  refine cx_isub C dX6_hasRoom_8 ?_
  refine cx_icmp_gt (tgt := 16) C dX6_hasRoom_9 (by decide) (fun c1 => ?_) (fun c1 => ?_)
  · have hf := cx_if_t hf c1
    clear c1
    refine cx_iconst (v := 0) C dX6_hasRoom_16 (by decide) ?_
    obtain rfl := Option.some.inj hf
    exact cx_zret C hA hQ hr hlk dX6_hasRoom_17 rfl rfl rfl
  · have hf := cx_if_f hf c1
    clear c1
    refine cx_iconst (v := 1) C dX6_hasRoom_12 (by decide) ?_
    refine cx_goto (tgt := 17) C dX6_hasRoom_13 (by decide) ?_
    obtain rfl := Option.some.inj hf
    exact cx_zret C hA hQ hr hlk dX6_hasRoom_17 rfl rfl rfl
theorem dX6_append_0 : decode cX6_append 0 = .ok (.iload_n 3, 1) := by decide +kernel
theorem dX6_append_1 : decode cX6_append 1 = .ok (.iconst 1, 1) := by decide +kernel
theorem dX6_append_2 : decode cX6_append 2 = .ok (.isub, 1) := by decide +kernel
theorem dX6_append_3 : decode cX6_append 3 = .ok (.istore 4, 2) := by decide +kernel
theorem dX6_append_5 : decode cX6_append 5 = .ok (.iload 4, 2) := by decide +kernel
theorem dX6_append_7 : decode cX6_append 7 = .ok (.ifCond .lt 51, 3) := by decide +kernel
theorem dX6_append_10 : decode cX6_append 10 = .ok (.aload_n 0, 1) := by decide +kernel
theorem dX6_append_11 : decode cX6_append 11 = .ok (.getfield 15, 3) := by decide +kernel
theorem dX6_append_14 : decode cX6_append 14 = .ok (.sipush 300, 3) := by decide +kernel
theorem dX6_append_17 : decode cX6_append 17 = .ok (.if_icmp .ge 41, 3) := by decide +kernel
theorem dX6_append_20 : decode cX6_append 20 = .ok (.aload_n 0, 1) := by decide +kernel
theorem dX6_append_21 : decode cX6_append 21 = .ok (.getfield 11, 3) := by decide +kernel
theorem dX6_append_24 : decode cX6_append 24 = .ok (.aload_n 0, 1) := by decide +kernel
theorem dX6_append_25 : decode cX6_append 25 = .ok (.getfield 15, 3) := by decide +kernel
theorem dX6_append_28 : decode cX6_append 28 = .ok (.lload_n 1, 1) := by decide +kernel
theorem dX6_append_29 : decode cX6_append 29 = .ok (.bipush 8, 2) := by decide +kernel
theorem dX6_append_31 : decode cX6_append 31 = .ok (.iload 4, 2) := by decide +kernel
theorem dX6_append_33 : decode cX6_append 33 = .ok (.imul, 1) := by decide +kernel
theorem dX6_append_34 : decode cX6_append 34 = .ok (.lshr, 1) := by decide +kernel
theorem dX6_append_35 : decode cX6_append 35 = .ok (.ldc2_w 32, 3) := by decide +kernel
theorem dX6_append_38 : decode cX6_append 38 = .ok (.land, 1) := by decide +kernel
theorem dX6_append_39 : decode cX6_append 39 = .ok (.l2i, 1) := by decide +kernel
theorem dX6_append_40 : decode cX6_append 40 = .ok (.i2c, 1) := by decide +kernel
theorem dX6_append_41 : decode cX6_append 41 = .ok (.castore, 1) := by decide +kernel
theorem dX6_append_42 : decode cX6_append 42 = .ok (.aload_n 0, 1) := by decide +kernel
theorem dX6_append_43 : decode cX6_append 43 = .ok (.dup, 1) := by decide +kernel
theorem dX6_append_44 : decode cX6_append 44 = .ok (.getfield 15, 3) := by decide +kernel
theorem dX6_append_47 : decode cX6_append 47 = .ok (.iconst 1, 1) := by decide +kernel
theorem dX6_append_48 : decode cX6_append 48 = .ok (.iadd, 1) := by decide +kernel
theorem dX6_append_49 : decode cX6_append 49 = .ok (.putfield 15, 3) := by decide +kernel
theorem dX6_append_52 : decode cX6_append 52 = .ok (.iinc 4 (-1), 3) := by decide +kernel
theorem dX6_append_55 : decode cX6_append 55 = .ok (.goto (-50), 3) := by decide +kernel
theorem dX6_append_58 : decode cX6_append 58 = .ok (.aload_n 0, 1) := by decide +kernel
theorem dX6_append_59 : decode cX6_append 59 = .ok (.getfield 15, 3) := by decide +kernel
theorem dX6_append_62 : decode cX6_append 62 = .ok (.ireturn, 1) := by decide +kernel
theorem me_X6_append : cx_Mv yX6_append cX6_append 5 (some .int) 2 := ⟨⟨⟨by decide +kernel, by decide +kernel, by decide +kernel⟩, hw_5, hw_478⟩, hw_476, hw_477⟩
noncomputable def f_X6_append_J58 (h_5 : Int32) (a_6 : Nat → Int32) : Option (Int32 × Int32 × (Nat → Int32)) := some ((h_5, h_5, a_6))
noncomputable def f_X6_append_L5 (p1 : Int64) (rc5 : Int32 → (Nat → Int32) → Int32 → Option (Int32 × Int32 × (Nat → Int32))) (h_1 : Int32) (a_2 : Nat → Int32) (x4_3 : Int32) : Option (Int32 × Int32 × (Nat → Int32)) := if x4_3 < 0 then (f_X6_append_J58 h_1 a_2) else (if 300 ≤ h_1 then (f_X6_append_J58 h_1 a_2) else (cx_gd (cx_ib h_1 300) (cx_let (upd a_2 (cx_ix h_1) (vp_nar .char ((Int32.toUInt32 (Int64.toInt32 ((p1 >>> (Int32.toInt64 (8 * x4_3) &&& 63)) &&& 255)) % 65536).toInt32))) (fun a9 => rc5 (h_1 + 1) a9 (x4_3 + (-1))))))
noncomputable def f_X6_append_L5w (p1 : Int64) (n : Nat) : Int32 → (Nat → Int32) → Int32 → Option (Int32 × Int32 × (Nat → Int32)) := Nat.rec (fun _ _ _ => none) (fun _ r => f_X6_append_L5 p1 r) n
noncomputable def f_X6_append (t_bytes : Nat → Int32) (t_length : Int32) (p1 : Int64) (p3 : Int32) : Option (Int32 × Int32 × (Nat → Int32)) := f_X6_append_L5w p1 cx_N0 t_length t_bytes (p3 - 1)
set_option maxHeartbeats 4000000 in
set_option maxRecDepth 100000 in
theorem c_X6_append (l : Launch) (D : va_G) (k : Nat → ClassId) (t_a : Nat → Nat) (t_bytes : Nat → Int32) (t_length : Int32) (t_start : Int32) (t_end : Int32) (t_item : Int32) (t_numbers : Nat → Int32) (p1 : Int64) (p3 : Int32) (y : Int32 × Int32 × (Nat → Int32)) (hf : f_X6_append t_bytes t_length p1 p3 = some y) : cx_M l yX6_append cX6_append 5 (some .int) 1 D k [.ref (t_a 0), .long p1, .int p3] (wd_Text k t_a t_bytes t_length t_start t_end t_item t_numbers) (fun sz => cx_Qi D y.1 (wd_Text k t_a t_bytes t_length t_start t_end t_item t_numbers) (wd_Text k t_a y.2.2 y.2.1 t_start t_end t_item t_numbers) sz) := by
  refine cx_met (own := "NamelessBox$Text") (by decide) rfl (Nat.le_of_ble_eq_true rfl) ?_
  intro p e s m args below meth c A Q C hA hQ hr hlk
  refine cx_lv (lv' := [(0, .ref (t_a 0)), (1, .long p1), (3, .int p3)]) [0, 1, 2] rfl ?_
  have J58 : ∀ (h_5 : Int32) (a_6 : Nat → Int32), f_X6_append_J58 h_5 a_6 = some y → cx_S p l e (cx_rm 1) s m args below meth c A D 5 0 0 Q 58 [(0, .ref (t_a 0))] [] (wd_Text k t_a a_6 h_5 t_start t_end t_item t_numbers) := by
    intro h_5 a_6 hf
    unfold f_X6_append_J58 at hf
    refine cx_aload_n C dX6_append_58 0 rfl ?_
    refine cx_get (v := .int h_5) (ci := 5) C iX6 dX6_append_59 0 rfl rfl 1 (by decide) hw_98 rfl ?_
    obtain rfl := Option.some.inj hf
    exact cx_iret C hA hQ hr hlk dX6_append_62 rfl rfl
  have L5 : ∀ (n5 : Nat) (h_1 : Int32) (a_2 : Nat → Int32) (x4_3 : Int32), f_X6_append_L5w p1 n5 h_1 a_2 x4_3 = some y → cx_S p l e (cx_rm 1) s m args below meth c A D 5 0 0 Q 5 [(0, .ref (t_a 0)), (1, .long p1), (4, .int x4_3)] [] (wd_Text k t_a a_2 h_1 t_start t_end t_item t_numbers) := by
    intro  n5
    induction n5 with
    | zero =>
      intro h_1 a_2 x4_3 hf
      exact absurd (show (none : Option (Int32 × Int32 × (Nat → Int32))) = some y from hf) (fun h => by cases h)
    | succ n5 ih5 =>
      intro h_1 a_2 x4_3 hf
      have hf : f_X6_append_L5 p1 (f_X6_append_L5w p1 n5) h_1 a_2 x4_3 = some y := hf
      unfold f_X6_append_L5 at hf
      refine cx_iload C dX6_append_5 2 rfl ?_
      refine cx_if_lt (tgt := 58) C dX6_append_7 (by decide) (fun c4 => ?_) (fun c4 => ?_)
      · have hf := cx_if_t hf c4
        clear c4
        refine cx_lv [0] rfl ?_
        exact J58 h_1 a_2 hf
      · have hf := cx_if_f hf c4
        clear c4
        refine cx_aload_n C dX6_append_10 0 rfl ?_
        refine cx_get (v := .int h_1) (ci := 5) C iX6 dX6_append_11 0 rfl rfl 1 (by decide) hw_98 rfl ?_
        refine cx_sipush (v := 300) C dX6_append_14 (by decide) ?_
        refine cx_icmp_ge (tgt := 58) C dX6_append_17 (by decide) (fun c7 => ?_) (fun c7 => ?_)
        · have hf := cx_if_t hf c7
          clear c7
          refine cx_lv [0] rfl ?_
          exact J58 h_1 a_2 hf
        · have hf := cx_if_f hf c7
          clear c7
          refine cx_aload_n C dX6_append_20 0 rfl ?_
          refine cx_get (v := .ref (t_a 1)) (ci := 5) C iX6 dX6_append_21 0 rfl rfl 0 (by decide) hw_97 rfl ?_
          refine cx_aload_n C dX6_append_24 0 rfl ?_
          refine cx_get (v := .int h_1) (ci := 5) C iX6 dX6_append_25 0 rfl rfl 1 (by decide) hw_98 rfl ?_
          refine cx_lload_n C dX6_append_28 1 rfl ?_
          refine cx_bipush (v := 8) C dX6_append_29 (by decide) ?_
          refine cx_iload C dX6_append_31 2 rfl ?_
          refine cx_imul C dX6_append_33 ?_
          refine cx_lshr C dX6_append_34 ?_
          refine cx_ldc2 (v := 255) C dX6_append_35 hw_479 ?_
          refine cx_land C dX6_append_38 ?_
          refine cx_l2i C dX6_append_39 ?_
          refine cx_i2c C dX6_append_40 ?_
          obtain ⟨g8, hf⟩ := cx_gd_at hf
          obtain ⟨a9, ea9⟩ : ∃ z, z = upd a_2 (cx_ix h_1) (vp_nar .char ((Int32.toUInt32 (Int64.toInt32 ((p1 >>> (Int32.toInt64 (8 * x4_3) &&& 63)) &&& 255)) % 65536).toInt32)) := ⟨_, rfl⟩
          have hf := cx_let_at hf ea9
          refine cx_cast (ws' := (wd_Text k t_a a9 h_1 t_start t_end t_item t_numbers)) C dX6_append_41 1 rfl (cx_ib_in g8) (by rw [ea9]; rfl) ?_
          clear ea9 g8
          refine cx_aload_n C dX6_append_42 0 rfl ?_
          refine cx_dup C dX6_append_43 rfl ?_
          refine cx_get (v := .int h_1) (ci := 5) C iX6 dX6_append_44 0 rfl rfl 1 (by decide) hw_98 rfl ?_
          refine cx_iconst (v := 1) C dX6_append_47 (by decide) ?_
          refine cx_iadd C dX6_append_48 ?_
          refine cx_putf (v := .int (h_1 + 1)) (ty := .int) (ci := 5) (ws' := (wd_Text k t_a a9 (h_1 + 1) t_start t_end t_item t_numbers)) C iX6 tyX6 tyX6_ok nmX6 dX6_append_49 0 rfl rfl 1 (by decide) hw_98 rfl (by decide +kernel) rfl rfl (Nat.le_of_ble_eq_true rfl) rfl ?_
          refine cx_iinc (v := x4_3 + (-1)) (lv' := [(4, .int (x4_3 + (-1))), (0, .ref (t_a 0)), (1, .long p1)]) C dX6_append_52 2 rfl rfl (by decide) rfl ?_
          refine cx_goto (tgt := 5) C dX6_append_55 (by decide) ?_
          refine cx_lv [1, 2, 0] rfl ?_
          exact ih5 (h_1 + 1) a9 (x4_3 + (-1)) hf
  unfold f_X6_append at hf
  refine cx_iload_n C dX6_append_0 2 rfl ?_
  refine cx_iconst (v := 1) C dX6_append_1 (by decide) ?_
  refine cx_isub C dX6_append_2 ?_
  refine cx_istore (lv' := [(4, .int (p3 - 1)), (0, .ref (t_a 0)), (1, .long p1), (3, .int p3)]) C dX6_append_3 (by decide) rfl ?_
  refine cx_lv [1, 2, 0] rfl ?_
  exact L5 cx_N0 t_length t_bytes (p3 - 1) hf
theorem dX6_empty_0 : decode cX6_empty 0 = .ok (.aload_n 0, 1) := by decide +kernel
theorem dX6_empty_1 : decode cX6_empty 1 = .ok (.getfield 15, 3) := by decide +kernel
theorem dX6_empty_4 : decode cX6_empty 4 = .ok (.istore_n 1, 1) := by decide +kernel
theorem dX6_empty_5 : decode cX6_empty 5 = .ok (.aload_n 0, 1) := by decide +kernel
theorem dX6_empty_6 : decode cX6_empty 6 = .ok (.iconst 0, 1) := by decide +kernel
theorem dX6_empty_7 : decode cX6_empty 7 = .ok (.putfield 15, 3) := by decide +kernel
theorem dX6_empty_10 : decode cX6_empty 10 = .ok (.iload_n 1, 1) := by decide +kernel
theorem dX6_empty_11 : decode cX6_empty 11 = .ok (.ireturn, 1) := by decide +kernel
theorem me_X6_empty : cx_Mv yX6_empty cX6_empty 2 (some .int) 0 := ⟨⟨⟨by decide +kernel, by decide +kernel, by decide +kernel⟩, hw_5, hw_487⟩, hw_485, hw_486⟩
noncomputable def f_X6_empty (t_length : Int32) : Option (Int32 × Int32) := some ((t_length, 0))
set_option maxHeartbeats 4000000 in
set_option maxRecDepth 100000 in
theorem c_X6_empty (l : Launch) (D : va_G) (k : Nat → ClassId) (t_a : Nat → Nat) (t_bytes : Nat → Int32) (t_length : Int32) (t_start : Int32) (t_end : Int32) (t_item : Int32) (t_numbers : Nat → Int32) (y : Int32 × Int32) (hf : f_X6_empty t_length = some y) : cx_M l yX6_empty cX6_empty 2 (some .int) 1 D k [.ref (t_a 0)] (wd_Text k t_a t_bytes t_length t_start t_end t_item t_numbers) (fun sz => cx_Qi D y.1 (wd_Text k t_a t_bytes t_length t_start t_end t_item t_numbers) (wd_Text k t_a t_bytes y.2 t_start t_end t_item t_numbers) sz) := by
  refine cx_met (own := "NamelessBox$Text") (by decide) rfl (Nat.le_of_ble_eq_true rfl) ?_
  intro p e s m args below meth c A Q C hA hQ hr hlk
  refine cx_lv (lv' := [(0, .ref (t_a 0))]) [0] rfl ?_
  unfold f_X6_empty at hf
  refine cx_aload_n C dX6_empty_0 0 rfl ?_
  refine cx_get (v := .int t_length) (ci := 5) C iX6 dX6_empty_1 0 rfl rfl 1 (by decide) hw_98 rfl ?_
  refine cx_istore_n (lv' := [(1, .int t_length), (0, .ref (t_a 0))]) C dX6_empty_4 rfl (by decide) rfl ?_
  refine cx_aload_n C dX6_empty_5 1 rfl ?_
  refine cx_iconst (v := 0) C dX6_empty_6 (by decide) ?_
  refine cx_putf (v := .int 0) (ty := .int) (ci := 5) (ws' := (wd_Text k t_a t_bytes 0 t_start t_end t_item t_numbers)) C iX6 tyX6 tyX6_ok nmX6 dX6_empty_7 0 rfl rfl 1 (by decide) hw_98 rfl (by decide +kernel) rfl rfl (Nat.le_of_ble_eq_true rfl) rfl ?_
  refine cx_iload_n C dX6_empty_10 0 rfl ?_
  obtain rfl := Option.some.inj hf
  exact cx_iret C hA hQ hr hlk dX6_empty_11 rfl rfl
theorem dX8_type_0 : decode cX8_type 0 = .ok (.iload_n 3, 1) := by decide +kernel
theorem dX8_type_1 : decode cX8_type 1 = .ok (.iconst 1, 1) := by decide +kernel
theorem dX8_type_2 : decode cX8_type 2 = .ok (.bipush 8, 2) := by decide +kernel
theorem dX8_type_4 : decode cX8_type 4 = .ok (.invokestatic 121, 3) := by decide +kernel
theorem dX8_type_7 : decode cX8_type 7 = .ok (.ifCond .ne 10, 3) := by decide +kernel
theorem dX8_type_10 : decode cX8_type 10 = .ok (.aload_n 0, 1) := by decide +kernel
theorem dX8_type_11 : decode cX8_type 11 = .ok (.bipush (-2), 2) := by decide +kernel
theorem dX8_type_13 : decode cX8_type 13 = .ok (.invokevirtual 125, 3) := by decide +kernel
theorem dX8_type_16 : decode cX8_type 16 = .ok (.ireturn, 1) := by decide +kernel
theorem dX8_type_17 : decode cX8_type 17 = .ok (.aload_n 0, 1) := by decide +kernel
theorem dX8_type_18 : decode cX8_type 18 = .ok (.getfield 32, 3) := by decide +kernel
theorem dX8_type_21 : decode cX8_type 21 = .ok (.iload_n 3, 1) := by decide +kernel
theorem dX8_type_22 : decode cX8_type 22 = .ok (.invokevirtual 152, 3) := by decide +kernel
theorem dX8_type_25 : decode cX8_type 25 = .ok (.ifCond .ne 10, 3) := by decide +kernel
theorem dX8_type_28 : decode cX8_type 28 = .ok (.aload_n 0, 1) := by decide +kernel
theorem dX8_type_29 : decode cX8_type 29 = .ok (.bipush (-4), 2) := by decide +kernel
theorem dX8_type_31 : decode cX8_type 31 = .ok (.invokevirtual 125, 3) := by decide +kernel
theorem dX8_type_34 : decode cX8_type 34 = .ok (.ireturn, 1) := by decide +kernel
theorem dX8_type_35 : decode cX8_type 35 = .ok (.aload_n 0, 1) := by decide +kernel
theorem dX8_type_36 : decode cX8_type 36 = .ok (.getfield 32, 3) := by decide +kernel
theorem dX8_type_39 : decode cX8_type 39 = .ok (.lload_n 1, 1) := by decide +kernel
theorem dX8_type_40 : decode cX8_type 40 = .ok (.iload_n 3, 1) := by decide +kernel
theorem dX8_type_41 : decode cX8_type 41 = .ok (.invokevirtual 155, 3) := by decide +kernel
theorem dX8_type_44 : decode cX8_type 44 = .ok (.ireturn, 1) := by decide +kernel
theorem me_X8_type : cx_Mv yX8_type cX8_type 4 (some .int) 2 := ⟨⟨⟨by decide +kernel, by decide +kernel, by decide +kernel⟩, hw_1, hw_470⟩, hw_468, hw_469⟩
noncomputable def f_X8_type (n_refusals : Nat → Int32) (t_bytes : Nat → Int32) (t_length : Int32) (p1 : Int64) (p3 : Int32) : Option (Int32 × (Nat → Int32) × Int32 × (Nat → Int32)) := Option.bind (f_X8_within p3 1 8) (fun u1 => if u1 = 0 then (Option.bind (f_X8_refused n_refusals ((-2))) (fun u11 => some ((u11.1, u11.2, t_length, t_bytes)))) else (Option.bind (f_X6_hasRoom t_length p3) (fun u4 => if u4 = 0 then (Option.bind (f_X8_refused n_refusals ((-4))) (fun u9 => some ((u9.1, u9.2, t_length, t_bytes)))) else (Option.bind (f_X6_append t_bytes t_length p1 p3) (fun u7 => some ((u7.1, n_refusals, u7.2.1, u7.2.2)))))))
set_option maxHeartbeats 4000000 in
set_option maxRecDepth 100000 in
theorem c_X8_type (l : Launch) (D : va_G) (k : Nat → ClassId) (n_a : Nat → Nat) (b0_a : Nat → Nat) (b1_a : Nat → Nat) (b2_a : Nat → Nat) (b3_a : Nat → Nat) (t_a : Nat → Nat) (f_a : Nat → Nat) (w_a : Nat → Nat) (v_a : Nat → Nat) (s_a : Nat → Nat) (q_a : Nat → Nat) (u_a : Nat → Nat) (n_kept : Nat → Int32) (n_refusals : Nat → Int32) (n_summed : Int32) (b0_c0 : Nat → Int32) (b0_z0 : Int32) (b0_c1 : Nat → Int32) (b0_z1 : Int32) (b0_c2 : Nat → Int32) (b0_z2 : Int32) (b0_c3 : Nat → Int32) (b0_z3 : Int32) (b0_c4 : Nat → Int32) (b0_z4 : Int32) (b0_sg : Int32) (b1_c0 : Nat → Int32) (b1_z0 : Int32) (b1_c1 : Nat → Int32) (b1_z1 : Int32) (b1_c2 : Nat → Int32) (b1_z2 : Int32) (b1_c3 : Nat → Int32) (b1_z3 : Int32) (b1_c4 : Nat → Int32) (b1_z4 : Int32) (b1_sg : Int32) (b2_c0 : Nat → Int32) (b2_z0 : Int32) (b2_c1 : Nat → Int32) (b2_z1 : Int32) (b2_c2 : Nat → Int32) (b2_z2 : Int32) (b2_c3 : Nat → Int32) (b2_z3 : Int32) (b2_c4 : Nat → Int32) (b2_z4 : Int32) (b2_sg : Int32) (b3_c0 : Nat → Int32) (b3_z0 : Int32) (b3_c1 : Nat → Int32) (b3_z1 : Int32) (b3_c2 : Nat → Int32) (b3_z2 : Int32) (b3_c3 : Nat → Int32) (b3_z3 : Int32) (b3_c4 : Nat → Int32) (b3_z4 : Int32) (b3_sg : Int32) (t_bytes : Nat → Int32) (t_length : Int32) (t_start : Int32) (t_end : Int32) (t_item : Int32) (t_numbers : Nat → Int32) (f_above : Nat → Int64) (f_below : Nat → Int64) (f_one : Nat → Int64) (f_other : Nat → Int64) (w_detail : Int32) (w_skipped : Int32) (w_early : Int32) (w_late : Int32) (w_firstOnly : Int32) (w_firstYear : Nat → Int32) (w_years : Nat → Int32) (w_place : Nat → Int32) (w_before : Nat → Int32) (w_closing : Nat → Int32) (w_likes : Nat → Int32) (w_likeSums : Nat → Int32) (w_namings : Nat → Int32) (w_products : Nat → Int64) (w_weights : Nat → Int64) (w_subtotals : Nat → Int64) (w_way : Nat → Int32) (v_detail : Int32) (v_skipped : Int32) (v_early : Int32) (v_late : Int32) (v_firstOnly : Int32) (v_firstYear : Nat → Int32) (v_years : Nat → Int32) (v_place : Nat → Int32) (v_before : Nat → Int32) (v_closing : Nat → Int32) (v_likes : Nat → Int32) (v_likeSums : Nat → Int32) (v_namings : Nat → Int32) (v_products : Nat → Int64) (v_weights : Nat → Int64) (v_subtotals : Nat → Int64) (v_way : Nat → Int32) (s_total : Nat → Int64) (s_shares : Nat → Int64) (s_pairs : Nat → Int64) (s_crowds : Nat → Int64) (s_bestWay : Nat → Int32) (s_bestWeight : Nat → Int64) (s_answer : Nat → Int64) (s_mine : Nat → Int64) (s_theirs : Nat → Int64) (s_people : Int32) (s_heads : Int32) (q_total : Nat → Int64) (q_shares : Nat → Int64) (q_pairs : Nat → Int64) (q_crowds : Nat → Int64) (q_bestWay : Nat → Int32) (q_bestWeight : Nat → Int64) (q_answer : Nat → Int64) (q_mine : Nat → Int64) (q_theirs : Nat → Int64) (q_people : Int32) (q_heads : Int32) (u_worth : Nat → Int64) (u_dearest : Nat → Int64) (u_unit : Nat → Int64) (u_wrongly : Nat → Int64) (u_guess : Nat → Int64) (u_most : Nat → Int64) (p1 : Int64) (p3 : Int32) (y : Int32 × (Nat → Int32) × Int32 × (Nat → Int32)) (hf : f_X8_type n_refusals t_bytes t_length p1 p3 = some y) : cx_M l yX8_type cX8_type 4 (some .int) 2 D k [.ref (n_a 0), .long p1, .int p3] (wd_NB k n_a f_a t_a u_a v_a w_a b0_a b1_a b2_a b3_a n_kept n_refusals n_summed ++ (wd_Box k b0_a b0_c0 b0_z0 b0_c1 b0_z1 b0_c2 b0_z2 b0_c3 b0_z3 b0_c4 b0_z4 b0_sg ++ (wd_Box k b1_a b1_c0 b1_z0 b1_c1 b1_z1 b1_c2 b1_z2 b1_c3 b1_z3 b1_c4 b1_z4 b1_sg ++ (wd_Box k b2_a b2_c0 b2_z0 b2_c1 b2_z1 b2_c2 b2_z2 b2_c3 b2_z3 b2_c4 b2_z4 b2_sg ++ (wd_Box k b3_a b3_c0 b3_z0 b3_c1 b3_z1 b3_c2 b3_z2 b3_c3 b3_z3 b3_c4 b3_z4 b3_sg ++ (wd_Text k t_a t_bytes t_length t_start t_end t_item t_numbers ++ (wd_Frac k f_a f_above f_below f_one f_other ++ (wd_Ways k w_a b0_a s_a w_detail w_skipped w_early w_late w_firstOnly w_firstYear w_years w_place w_before w_closing w_likes w_likeSums w_namings w_products w_weights w_subtotals w_way ++ (wd_Ways k v_a b0_a q_a v_detail v_skipped v_early v_late v_firstOnly v_firstYear v_years v_place v_before v_closing v_likes v_likeSums v_namings v_products v_weights v_subtotals v_way ++ (wd_Sums k s_a 5184 s_total s_shares s_pairs s_crowds s_bestWay s_bestWeight s_answer s_mine s_theirs s_people s_heads ++ (wd_Sums k q_a 0 q_total q_shares q_pairs q_crowds q_bestWay q_bestWeight q_answer q_mine q_theirs q_people q_heads ++ (wd_Aunt k u_a b0_a s_a u_worth u_dearest u_unit u_wrongly u_guess u_most)))))))))))) (fun sz => cx_Qi D y.1 (wd_NB k n_a f_a t_a u_a v_a w_a b0_a b1_a b2_a b3_a n_kept n_refusals n_summed ++ (wd_Box k b0_a b0_c0 b0_z0 b0_c1 b0_z1 b0_c2 b0_z2 b0_c3 b0_z3 b0_c4 b0_z4 b0_sg ++ (wd_Box k b1_a b1_c0 b1_z0 b1_c1 b1_z1 b1_c2 b1_z2 b1_c3 b1_z3 b1_c4 b1_z4 b1_sg ++ (wd_Box k b2_a b2_c0 b2_z0 b2_c1 b2_z1 b2_c2 b2_z2 b2_c3 b2_z3 b2_c4 b2_z4 b2_sg ++ (wd_Box k b3_a b3_c0 b3_z0 b3_c1 b3_z1 b3_c2 b3_z2 b3_c3 b3_z3 b3_c4 b3_z4 b3_sg ++ (wd_Text k t_a t_bytes t_length t_start t_end t_item t_numbers ++ (wd_Frac k f_a f_above f_below f_one f_other ++ (wd_Ways k w_a b0_a s_a w_detail w_skipped w_early w_late w_firstOnly w_firstYear w_years w_place w_before w_closing w_likes w_likeSums w_namings w_products w_weights w_subtotals w_way ++ (wd_Ways k v_a b0_a q_a v_detail v_skipped v_early v_late v_firstOnly v_firstYear v_years v_place v_before v_closing v_likes v_likeSums v_namings v_products v_weights v_subtotals v_way ++ (wd_Sums k s_a 5184 s_total s_shares s_pairs s_crowds s_bestWay s_bestWeight s_answer s_mine s_theirs s_people s_heads ++ (wd_Sums k q_a 0 q_total q_shares q_pairs q_crowds q_bestWay q_bestWeight q_answer q_mine q_theirs q_people q_heads ++ (wd_Aunt k u_a b0_a s_a u_worth u_dearest u_unit u_wrongly u_guess u_most)))))))))))) (wd_NB k n_a f_a t_a u_a v_a w_a b0_a b1_a b2_a b3_a n_kept y.2.1 n_summed ++ (wd_Box k b0_a b0_c0 b0_z0 b0_c1 b0_z1 b0_c2 b0_z2 b0_c3 b0_z3 b0_c4 b0_z4 b0_sg ++ (wd_Box k b1_a b1_c0 b1_z0 b1_c1 b1_z1 b1_c2 b1_z2 b1_c3 b1_z3 b1_c4 b1_z4 b1_sg ++ (wd_Box k b2_a b2_c0 b2_z0 b2_c1 b2_z1 b2_c2 b2_z2 b2_c3 b2_z3 b2_c4 b2_z4 b2_sg ++ (wd_Box k b3_a b3_c0 b3_z0 b3_c1 b3_z1 b3_c2 b3_z2 b3_c3 b3_z3 b3_c4 b3_z4 b3_sg ++ (wd_Text k t_a y.2.2.2 y.2.2.1 t_start t_end t_item t_numbers ++ (wd_Frac k f_a f_above f_below f_one f_other ++ (wd_Ways k w_a b0_a s_a w_detail w_skipped w_early w_late w_firstOnly w_firstYear w_years w_place w_before w_closing w_likes w_likeSums w_namings w_products w_weights w_subtotals w_way ++ (wd_Ways k v_a b0_a q_a v_detail v_skipped v_early v_late v_firstOnly v_firstYear v_years v_place v_before v_closing v_likes v_likeSums v_namings v_products v_weights v_subtotals v_way ++ (wd_Sums k s_a 5184 s_total s_shares s_pairs s_crowds s_bestWay s_bestWeight s_answer s_mine s_theirs s_people s_heads ++ (wd_Sums k q_a 0 q_total q_shares q_pairs q_crowds q_bestWay q_bestWeight q_answer q_mine q_theirs q_people q_heads ++ (wd_Aunt k u_a b0_a s_a u_worth u_dearest u_unit u_wrongly u_guess u_most)))))))))))) sz) := by
  refine cx_met (own := "NamelessBox") (by decide) rfl (Nat.le_of_ble_eq_true rfl) ?_
  intro p e s m args below meth c A Q C hA hQ hr hlk
  refine cx_lv (lv' := [(0, .ref (n_a 0)), (1, .long p1), (3, .int p3)]) [0, 1, 2] rfl ?_
  unfold f_X8_type at hf
  refine cx_iload_n C dX8_type_0 2 rfl ?_
  refine cx_iconst (v := 1) C dX8_type_1 (by decide) ?_
  refine cx_bipush (v := 8) C dX8_type_2 (by decide) ?_
  obtain ⟨u1, e2, hf⟩ := cx_bd_at hf
  refine cx_Ksi (As := [.int p3, .int 1, .int 8]) (rest := []) hA C me_X8_within hw_434 (c_X8_within l D k p3 1 8 u1 e2) dX8_type_4 ⟨Nat.le_of_ble_eq_true rfl, Nat.le_of_ble_eq_true rfl⟩ ⟨Nat.zero_le _, Nat.zero_le _⟩ rfl rfl (Nat.le_of_ble_eq_true rfl) [] rfl (by decide) ?_
  clear e2
  refine cx_if_ne (tgt := 17) C dX8_type_7 (by decide) (fun c3 => ?_) (fun c3 => ?_)
  · have hf := cx_if_f hf c3
    clear c3
    refine cx_aload_n C dX8_type_17 0 rfl ?_
    refine cx_get (v := .ref (t_a 0)) (ci := 7) C iX8 dX8_type_18 0 rfl rfl 5 (by decide) hw_295 rfl ?_
    refine cx_iload_n C dX8_type_21 2 rfl ?_
    obtain ⟨u4, e5, hf⟩ := cx_bd_at hf
    refine cx_Kvi (q := (RX6, TX6, 6)) (As := [.int p3]) (rest := []) hA C me_X6_hasRoom hw_471 (c_X6_hasRoom l D k t_a t_bytes t_length t_start t_end t_item t_numbers p3 u4 e5) dX8_type_22 ⟨Nat.le_of_ble_eq_true rfl, Nat.le_of_ble_eq_true rfl⟩ ⟨Nat.zero_le _, Nat.zero_le _⟩ rfl rfl (Nat.le_of_ble_eq_true rfl) rfl rfl [47, 48, 49] rfl (by decide) ?_
    clear e5
    refine cx_if_ne (tgt := 35) C dX8_type_25 (by decide) (fun c6 => ?_) (fun c6 => ?_)
    · have hf := cx_if_f hf c6
      clear c6
      refine cx_aload_n C dX8_type_35 0 rfl ?_
      refine cx_get (v := .ref (t_a 0)) (ci := 7) C iX8 dX8_type_36 0 rfl rfl 5 (by decide) hw_295 rfl ?_
      refine cx_lload_n C dX8_type_39 1 rfl ?_
      refine cx_iload_n C dX8_type_40 2 rfl ?_
      obtain ⟨u7, e8, hf⟩ := cx_bd_at hf
      refine cx_Gvi (q := (RX6, TX6, 6)) (As := [.long p1, .int p3]) (rest := []) (ws' := (wd_NB k n_a f_a t_a u_a v_a w_a b0_a b1_a b2_a b3_a n_kept n_refusals n_summed ++ (wd_Box k b0_a b0_c0 b0_z0 b0_c1 b0_z1 b0_c2 b0_z2 b0_c3 b0_z3 b0_c4 b0_z4 b0_sg ++ (wd_Box k b1_a b1_c0 b1_z0 b1_c1 b1_z1 b1_c2 b1_z2 b1_c3 b1_z3 b1_c4 b1_z4 b1_sg ++ (wd_Box k b2_a b2_c0 b2_z0 b2_c1 b2_z1 b2_c2 b2_z2 b2_c3 b2_z3 b2_c4 b2_z4 b2_sg ++ (wd_Box k b3_a b3_c0 b3_z0 b3_c1 b3_z1 b3_c2 b3_z2 b3_c3 b3_z3 b3_c4 b3_z4 b3_sg ++ (wd_Text k t_a u7.2.2 u7.2.1 t_start t_end t_item t_numbers ++ (wd_Frac k f_a f_above f_below f_one f_other ++ (wd_Ways k w_a b0_a s_a w_detail w_skipped w_early w_late w_firstOnly w_firstYear w_years w_place w_before w_closing w_likes w_likeSums w_namings w_products w_weights w_subtotals w_way ++ (wd_Ways k v_a b0_a q_a v_detail v_skipped v_early v_late v_firstOnly v_firstYear v_years v_place v_before v_closing v_likes v_likeSums v_namings v_products v_weights v_subtotals v_way ++ (wd_Sums k s_a 5184 s_total s_shares s_pairs s_crowds s_bestWay s_bestWeight s_answer s_mine s_theirs s_people s_heads ++ (wd_Sums k q_a 0 q_total q_shares q_pairs q_crowds q_bestWay q_bestWeight q_answer q_mine q_theirs q_people q_heads ++ (wd_Aunt k u_a b0_a s_a u_worth u_dearest u_unit u_wrongly u_guess u_most))))))))))))) hA C me_X6_append hw_475 (c_X6_append l D k t_a t_bytes t_length t_start t_end t_item t_numbers p1 p3 u7 e8) dX8_type_41 ⟨Nat.le_of_ble_eq_true rfl, Nat.le_of_ble_eq_true rfl⟩ ⟨Nat.zero_le _, Nat.zero_le _⟩ rfl rfl (Nat.le_of_ble_eq_true rfl) rfl rfl [47, 48, 49] rfl (by decide +kernel) rfl [none, none, none, none, none, none, none, none, none, none, none, none, none, none, none, none, none, none, none, none, none, none, none, none, none, none, none, none, none, none, none, none, none, none, none, none, none, none, none, none, none, none, none, none, none, none, none, some 0, some 1, some 2, none, none, none, none, none, none, none, none, none, none, none, none, none, none, none, none, none, none, none, none, none, none, none, none, none, none, none, none, none, none, none, none, none, none, none, none, none, none, none, none, none, none, none, none, none, none, none, none, none, none, none, none, none, none, none, none, none, none] 3 rfl (by decide +kernel) rfl ?_
      clear e8
      obtain rfl := Option.some.inj hf
      exact cx_iret C hA hQ hr hlk dX8_type_44 rfl rfl
    · have hf := cx_if_t hf c6
      clear c6
      refine cx_aload_n C dX8_type_28 0 rfl ?_
      refine cx_bipush (v := (-4)) C dX8_type_29 (by decide) ?_
      obtain ⟨u9, e10, hf⟩ := cx_bd_at hf
      refine cx_Fvi (q := (RX8, TX8, 12)) (As := [.int ((-4))]) (rest := []) (w1 := (wd_NB k n_a f_a t_a u_a v_a w_a b0_a b1_a b2_a b3_a n_kept u9.2 n_summed ++ (wd_Box k b0_a b0_c0 b0_z0 b0_c1 b0_z1 b0_c2 b0_z2 b0_c3 b0_z3 b0_c4 b0_z4 b0_sg ++ (wd_Box k b1_a b1_c0 b1_z0 b1_c1 b1_z1 b1_c2 b1_z2 b1_c3 b1_z3 b1_c4 b1_z4 b1_sg ++ (wd_Box k b2_a b2_c0 b2_z0 b2_c1 b2_z1 b2_c2 b2_z2 b2_c3 b2_z3 b2_c4 b2_z4 b2_sg ++ (wd_Box k b3_a b3_c0 b3_z0 b3_c1 b3_z1 b3_c2 b3_z2 b3_c3 b3_z3 b3_c4 b3_z4 b3_sg ++ (wd_Text k t_a t_bytes t_length t_start t_end t_item t_numbers ++ (wd_Frac k f_a f_above f_below f_one f_other ++ (wd_Ways k w_a b0_a s_a w_detail w_skipped w_early w_late w_firstOnly w_firstYear w_years w_place w_before w_closing w_likes w_likeSums w_namings w_products w_weights w_subtotals w_way ++ (wd_Ways k v_a b0_a q_a v_detail v_skipped v_early v_late v_firstOnly v_firstYear v_years v_place v_before v_closing v_likes v_likeSums v_namings v_products v_weights v_subtotals v_way ++ (wd_Sums k s_a 5184 s_total s_shares s_pairs s_crowds s_bestWay s_bestWeight s_answer s_mine s_theirs s_people s_heads ++ (wd_Sums k q_a 0 q_total q_shares q_pairs q_crowds q_bestWay q_bestWeight q_answer q_mine q_theirs q_people q_heads ++ (wd_Aunt k u_a b0_a s_a u_worth u_dearest u_unit u_wrongly u_guess u_most))))))))))))) hA C me_X8_refused hw_360 (c_X8_refused l D k n_a b0_a b1_a b2_a b3_a t_a f_a w_a v_a s_a q_a u_a n_kept n_refusals n_summed b0_c0 b0_z0 b0_c1 b0_z1 b0_c2 b0_z2 b0_c3 b0_z3 b0_c4 b0_z4 b0_sg b1_c0 b1_z0 b1_c1 b1_z1 b1_c2 b1_z2 b1_c3 b1_z3 b1_c4 b1_z4 b1_sg b2_c0 b2_z0 b2_c1 b2_z1 b2_c2 b2_z2 b2_c3 b2_z3 b2_c4 b2_z4 b2_sg b3_c0 b3_z0 b3_c1 b3_z1 b3_c2 b3_z2 b3_c3 b3_z3 b3_c4 b3_z4 b3_sg t_bytes t_length t_start t_end t_item t_numbers f_above f_below f_one f_other w_detail w_skipped w_early w_late w_firstOnly w_firstYear w_years w_place w_before w_closing w_likes w_likeSums w_namings w_products w_weights w_subtotals w_way v_detail v_skipped v_early v_late v_firstOnly v_firstYear v_years v_place v_before v_closing v_likes v_likeSums v_namings v_products v_weights v_subtotals v_way s_total s_shares s_pairs s_crowds s_bestWay s_bestWeight s_answer s_mine s_theirs s_people s_heads q_total q_shares q_pairs q_crowds q_bestWay q_bestWeight q_answer q_mine q_theirs q_people q_heads u_worth u_dearest u_unit u_wrongly u_guess u_most ((-4)) u9 e10) dX8_type_31 ⟨Nat.le_of_ble_eq_true rfl, Nat.le_of_ble_eq_true rfl⟩ ⟨Nat.zero_le _, Nat.zero_le _⟩ rfl rfl (Nat.le_of_ble_eq_true rfl) rfl rfl rfl ?_
      clear e10
      obtain rfl := Option.some.inj hf
      exact cx_iret C hA hQ hr hlk dX8_type_34 rfl rfl
  · have hf := cx_if_t hf c3
    clear c3
    refine cx_aload_n C dX8_type_10 0 rfl ?_
    refine cx_bipush (v := (-2)) C dX8_type_11 (by decide) ?_
    obtain ⟨u11, e12, hf⟩ := cx_bd_at hf
    refine cx_Fvi (q := (RX8, TX8, 12)) (As := [.int ((-2))]) (rest := []) (w1 := (wd_NB k n_a f_a t_a u_a v_a w_a b0_a b1_a b2_a b3_a n_kept u11.2 n_summed ++ (wd_Box k b0_a b0_c0 b0_z0 b0_c1 b0_z1 b0_c2 b0_z2 b0_c3 b0_z3 b0_c4 b0_z4 b0_sg ++ (wd_Box k b1_a b1_c0 b1_z0 b1_c1 b1_z1 b1_c2 b1_z2 b1_c3 b1_z3 b1_c4 b1_z4 b1_sg ++ (wd_Box k b2_a b2_c0 b2_z0 b2_c1 b2_z1 b2_c2 b2_z2 b2_c3 b2_z3 b2_c4 b2_z4 b2_sg ++ (wd_Box k b3_a b3_c0 b3_z0 b3_c1 b3_z1 b3_c2 b3_z2 b3_c3 b3_z3 b3_c4 b3_z4 b3_sg ++ (wd_Text k t_a t_bytes t_length t_start t_end t_item t_numbers ++ (wd_Frac k f_a f_above f_below f_one f_other ++ (wd_Ways k w_a b0_a s_a w_detail w_skipped w_early w_late w_firstOnly w_firstYear w_years w_place w_before w_closing w_likes w_likeSums w_namings w_products w_weights w_subtotals w_way ++ (wd_Ways k v_a b0_a q_a v_detail v_skipped v_early v_late v_firstOnly v_firstYear v_years v_place v_before v_closing v_likes v_likeSums v_namings v_products v_weights v_subtotals v_way ++ (wd_Sums k s_a 5184 s_total s_shares s_pairs s_crowds s_bestWay s_bestWeight s_answer s_mine s_theirs s_people s_heads ++ (wd_Sums k q_a 0 q_total q_shares q_pairs q_crowds q_bestWay q_bestWeight q_answer q_mine q_theirs q_people q_heads ++ (wd_Aunt k u_a b0_a s_a u_worth u_dearest u_unit u_wrongly u_guess u_most))))))))))))) hA C me_X8_refused hw_360 (c_X8_refused l D k n_a b0_a b1_a b2_a b3_a t_a f_a w_a v_a s_a q_a u_a n_kept n_refusals n_summed b0_c0 b0_z0 b0_c1 b0_z1 b0_c2 b0_z2 b0_c3 b0_z3 b0_c4 b0_z4 b0_sg b1_c0 b1_z0 b1_c1 b1_z1 b1_c2 b1_z2 b1_c3 b1_z3 b1_c4 b1_z4 b1_sg b2_c0 b2_z0 b2_c1 b2_z1 b2_c2 b2_z2 b2_c3 b2_z3 b2_c4 b2_z4 b2_sg b3_c0 b3_z0 b3_c1 b3_z1 b3_c2 b3_z2 b3_c3 b3_z3 b3_c4 b3_z4 b3_sg t_bytes t_length t_start t_end t_item t_numbers f_above f_below f_one f_other w_detail w_skipped w_early w_late w_firstOnly w_firstYear w_years w_place w_before w_closing w_likes w_likeSums w_namings w_products w_weights w_subtotals w_way v_detail v_skipped v_early v_late v_firstOnly v_firstYear v_years v_place v_before v_closing v_likes v_likeSums v_namings v_products v_weights v_subtotals v_way s_total s_shares s_pairs s_crowds s_bestWay s_bestWeight s_answer s_mine s_theirs s_people s_heads q_total q_shares q_pairs q_crowds q_bestWay q_bestWeight q_answer q_mine q_theirs q_people q_heads u_worth u_dearest u_unit u_wrongly u_guess u_most ((-2)) u11 e12) dX8_type_13 ⟨Nat.le_of_ble_eq_true rfl, Nat.le_of_ble_eq_true rfl⟩ ⟨Nat.zero_le _, Nat.zero_le _⟩ rfl rfl (Nat.le_of_ble_eq_true rfl) rfl rfl rfl ?_
    clear e12
    obtain rfl := Option.some.inj hf
    exact cx_iret C hA hQ hr hlk dX8_type_16 rfl rfl
theorem dX8_clear_0 : decode cX8_clear 0 = .ok (.aload_n 0, 1) := by decide +kernel
theorem dX8_clear_1 : decode cX8_clear 1 = .ok (.getfield 32, 3) := by decide +kernel
theorem dX8_clear_4 : decode cX8_clear 4 = .ok (.invokevirtual 159, 3) := by decide +kernel
theorem dX8_clear_7 : decode cX8_clear 7 = .ok (.ireturn, 1) := by decide +kernel
theorem me_X8_clear : cx_Mv yX8_clear cX8_clear 1 (some .int) 0 := ⟨⟨⟨by decide +kernel, by decide +kernel, by decide +kernel⟩, hw_1, hw_483⟩, hw_481, hw_482⟩
noncomputable def f_X8_clear (t_length : Int32) : Option (Int32 × Int32) := Option.bind (f_X6_empty t_length) (fun u1 => some ((u1.1, u1.2)))
set_option maxHeartbeats 4000000 in
set_option maxRecDepth 100000 in
theorem c_X8_clear (l : Launch) (D : va_G) (k : Nat → ClassId) (n_a : Nat → Nat) (b0_a : Nat → Nat) (b1_a : Nat → Nat) (b2_a : Nat → Nat) (b3_a : Nat → Nat) (t_a : Nat → Nat) (f_a : Nat → Nat) (w_a : Nat → Nat) (v_a : Nat → Nat) (s_a : Nat → Nat) (q_a : Nat → Nat) (u_a : Nat → Nat) (n_kept : Nat → Int32) (n_refusals : Nat → Int32) (n_summed : Int32) (b0_c0 : Nat → Int32) (b0_z0 : Int32) (b0_c1 : Nat → Int32) (b0_z1 : Int32) (b0_c2 : Nat → Int32) (b0_z2 : Int32) (b0_c3 : Nat → Int32) (b0_z3 : Int32) (b0_c4 : Nat → Int32) (b0_z4 : Int32) (b0_sg : Int32) (b1_c0 : Nat → Int32) (b1_z0 : Int32) (b1_c1 : Nat → Int32) (b1_z1 : Int32) (b1_c2 : Nat → Int32) (b1_z2 : Int32) (b1_c3 : Nat → Int32) (b1_z3 : Int32) (b1_c4 : Nat → Int32) (b1_z4 : Int32) (b1_sg : Int32) (b2_c0 : Nat → Int32) (b2_z0 : Int32) (b2_c1 : Nat → Int32) (b2_z1 : Int32) (b2_c2 : Nat → Int32) (b2_z2 : Int32) (b2_c3 : Nat → Int32) (b2_z3 : Int32) (b2_c4 : Nat → Int32) (b2_z4 : Int32) (b2_sg : Int32) (b3_c0 : Nat → Int32) (b3_z0 : Int32) (b3_c1 : Nat → Int32) (b3_z1 : Int32) (b3_c2 : Nat → Int32) (b3_z2 : Int32) (b3_c3 : Nat → Int32) (b3_z3 : Int32) (b3_c4 : Nat → Int32) (b3_z4 : Int32) (b3_sg : Int32) (t_bytes : Nat → Int32) (t_length : Int32) (t_start : Int32) (t_end : Int32) (t_item : Int32) (t_numbers : Nat → Int32) (f_above : Nat → Int64) (f_below : Nat → Int64) (f_one : Nat → Int64) (f_other : Nat → Int64) (w_detail : Int32) (w_skipped : Int32) (w_early : Int32) (w_late : Int32) (w_firstOnly : Int32) (w_firstYear : Nat → Int32) (w_years : Nat → Int32) (w_place : Nat → Int32) (w_before : Nat → Int32) (w_closing : Nat → Int32) (w_likes : Nat → Int32) (w_likeSums : Nat → Int32) (w_namings : Nat → Int32) (w_products : Nat → Int64) (w_weights : Nat → Int64) (w_subtotals : Nat → Int64) (w_way : Nat → Int32) (v_detail : Int32) (v_skipped : Int32) (v_early : Int32) (v_late : Int32) (v_firstOnly : Int32) (v_firstYear : Nat → Int32) (v_years : Nat → Int32) (v_place : Nat → Int32) (v_before : Nat → Int32) (v_closing : Nat → Int32) (v_likes : Nat → Int32) (v_likeSums : Nat → Int32) (v_namings : Nat → Int32) (v_products : Nat → Int64) (v_weights : Nat → Int64) (v_subtotals : Nat → Int64) (v_way : Nat → Int32) (s_total : Nat → Int64) (s_shares : Nat → Int64) (s_pairs : Nat → Int64) (s_crowds : Nat → Int64) (s_bestWay : Nat → Int32) (s_bestWeight : Nat → Int64) (s_answer : Nat → Int64) (s_mine : Nat → Int64) (s_theirs : Nat → Int64) (s_people : Int32) (s_heads : Int32) (q_total : Nat → Int64) (q_shares : Nat → Int64) (q_pairs : Nat → Int64) (q_crowds : Nat → Int64) (q_bestWay : Nat → Int32) (q_bestWeight : Nat → Int64) (q_answer : Nat → Int64) (q_mine : Nat → Int64) (q_theirs : Nat → Int64) (q_people : Int32) (q_heads : Int32) (u_worth : Nat → Int64) (u_dearest : Nat → Int64) (u_unit : Nat → Int64) (u_wrongly : Nat → Int64) (u_guess : Nat → Int64) (u_most : Nat → Int64) (y : Int32 × Int32) (hf : f_X8_clear t_length = some y) : cx_M l yX8_clear cX8_clear 1 (some .int) 2 D k [.ref (n_a 0)] (wd_NB k n_a f_a t_a u_a v_a w_a b0_a b1_a b2_a b3_a n_kept n_refusals n_summed ++ (wd_Box k b0_a b0_c0 b0_z0 b0_c1 b0_z1 b0_c2 b0_z2 b0_c3 b0_z3 b0_c4 b0_z4 b0_sg ++ (wd_Box k b1_a b1_c0 b1_z0 b1_c1 b1_z1 b1_c2 b1_z2 b1_c3 b1_z3 b1_c4 b1_z4 b1_sg ++ (wd_Box k b2_a b2_c0 b2_z0 b2_c1 b2_z1 b2_c2 b2_z2 b2_c3 b2_z3 b2_c4 b2_z4 b2_sg ++ (wd_Box k b3_a b3_c0 b3_z0 b3_c1 b3_z1 b3_c2 b3_z2 b3_c3 b3_z3 b3_c4 b3_z4 b3_sg ++ (wd_Text k t_a t_bytes t_length t_start t_end t_item t_numbers ++ (wd_Frac k f_a f_above f_below f_one f_other ++ (wd_Ways k w_a b0_a s_a w_detail w_skipped w_early w_late w_firstOnly w_firstYear w_years w_place w_before w_closing w_likes w_likeSums w_namings w_products w_weights w_subtotals w_way ++ (wd_Ways k v_a b0_a q_a v_detail v_skipped v_early v_late v_firstOnly v_firstYear v_years v_place v_before v_closing v_likes v_likeSums v_namings v_products v_weights v_subtotals v_way ++ (wd_Sums k s_a 5184 s_total s_shares s_pairs s_crowds s_bestWay s_bestWeight s_answer s_mine s_theirs s_people s_heads ++ (wd_Sums k q_a 0 q_total q_shares q_pairs q_crowds q_bestWay q_bestWeight q_answer q_mine q_theirs q_people q_heads ++ (wd_Aunt k u_a b0_a s_a u_worth u_dearest u_unit u_wrongly u_guess u_most)))))))))))) (fun sz => cx_Qi D y.1 (wd_NB k n_a f_a t_a u_a v_a w_a b0_a b1_a b2_a b3_a n_kept n_refusals n_summed ++ (wd_Box k b0_a b0_c0 b0_z0 b0_c1 b0_z1 b0_c2 b0_z2 b0_c3 b0_z3 b0_c4 b0_z4 b0_sg ++ (wd_Box k b1_a b1_c0 b1_z0 b1_c1 b1_z1 b1_c2 b1_z2 b1_c3 b1_z3 b1_c4 b1_z4 b1_sg ++ (wd_Box k b2_a b2_c0 b2_z0 b2_c1 b2_z1 b2_c2 b2_z2 b2_c3 b2_z3 b2_c4 b2_z4 b2_sg ++ (wd_Box k b3_a b3_c0 b3_z0 b3_c1 b3_z1 b3_c2 b3_z2 b3_c3 b3_z3 b3_c4 b3_z4 b3_sg ++ (wd_Text k t_a t_bytes t_length t_start t_end t_item t_numbers ++ (wd_Frac k f_a f_above f_below f_one f_other ++ (wd_Ways k w_a b0_a s_a w_detail w_skipped w_early w_late w_firstOnly w_firstYear w_years w_place w_before w_closing w_likes w_likeSums w_namings w_products w_weights w_subtotals w_way ++ (wd_Ways k v_a b0_a q_a v_detail v_skipped v_early v_late v_firstOnly v_firstYear v_years v_place v_before v_closing v_likes v_likeSums v_namings v_products v_weights v_subtotals v_way ++ (wd_Sums k s_a 5184 s_total s_shares s_pairs s_crowds s_bestWay s_bestWeight s_answer s_mine s_theirs s_people s_heads ++ (wd_Sums k q_a 0 q_total q_shares q_pairs q_crowds q_bestWay q_bestWeight q_answer q_mine q_theirs q_people q_heads ++ (wd_Aunt k u_a b0_a s_a u_worth u_dearest u_unit u_wrongly u_guess u_most)))))))))))) (wd_NB k n_a f_a t_a u_a v_a w_a b0_a b1_a b2_a b3_a n_kept n_refusals n_summed ++ (wd_Box k b0_a b0_c0 b0_z0 b0_c1 b0_z1 b0_c2 b0_z2 b0_c3 b0_z3 b0_c4 b0_z4 b0_sg ++ (wd_Box k b1_a b1_c0 b1_z0 b1_c1 b1_z1 b1_c2 b1_z2 b1_c3 b1_z3 b1_c4 b1_z4 b1_sg ++ (wd_Box k b2_a b2_c0 b2_z0 b2_c1 b2_z1 b2_c2 b2_z2 b2_c3 b2_z3 b2_c4 b2_z4 b2_sg ++ (wd_Box k b3_a b3_c0 b3_z0 b3_c1 b3_z1 b3_c2 b3_z2 b3_c3 b3_z3 b3_c4 b3_z4 b3_sg ++ (wd_Text k t_a t_bytes y.2 t_start t_end t_item t_numbers ++ (wd_Frac k f_a f_above f_below f_one f_other ++ (wd_Ways k w_a b0_a s_a w_detail w_skipped w_early w_late w_firstOnly w_firstYear w_years w_place w_before w_closing w_likes w_likeSums w_namings w_products w_weights w_subtotals w_way ++ (wd_Ways k v_a b0_a q_a v_detail v_skipped v_early v_late v_firstOnly v_firstYear v_years v_place v_before v_closing v_likes v_likeSums v_namings v_products v_weights v_subtotals v_way ++ (wd_Sums k s_a 5184 s_total s_shares s_pairs s_crowds s_bestWay s_bestWeight s_answer s_mine s_theirs s_people s_heads ++ (wd_Sums k q_a 0 q_total q_shares q_pairs q_crowds q_bestWay q_bestWeight q_answer q_mine q_theirs q_people q_heads ++ (wd_Aunt k u_a b0_a s_a u_worth u_dearest u_unit u_wrongly u_guess u_most)))))))))))) sz) := by
  refine cx_met (own := "NamelessBox") (by decide) rfl (Nat.le_of_ble_eq_true rfl) ?_
  intro p e s m args below meth c A Q C hA hQ hr hlk
  refine cx_lv (lv' := [(0, .ref (n_a 0))]) [0] rfl ?_
  unfold f_X8_clear at hf
  refine cx_aload_n C dX8_clear_0 0 rfl ?_
  refine cx_get (v := .ref (t_a 0)) (ci := 7) C iX8 dX8_clear_1 0 rfl rfl 5 (by decide) hw_295 rfl ?_
  obtain ⟨u1, e2, hf⟩ := cx_bd_at hf
  refine cx_Gvi (q := (RX6, TX6, 6)) (As := []) (rest := []) (ws' := (wd_NB k n_a f_a t_a u_a v_a w_a b0_a b1_a b2_a b3_a n_kept n_refusals n_summed ++ (wd_Box k b0_a b0_c0 b0_z0 b0_c1 b0_z1 b0_c2 b0_z2 b0_c3 b0_z3 b0_c4 b0_z4 b0_sg ++ (wd_Box k b1_a b1_c0 b1_z0 b1_c1 b1_z1 b1_c2 b1_z2 b1_c3 b1_z3 b1_c4 b1_z4 b1_sg ++ (wd_Box k b2_a b2_c0 b2_z0 b2_c1 b2_z1 b2_c2 b2_z2 b2_c3 b2_z3 b2_c4 b2_z4 b2_sg ++ (wd_Box k b3_a b3_c0 b3_z0 b3_c1 b3_z1 b3_c2 b3_z2 b3_c3 b3_z3 b3_c4 b3_z4 b3_sg ++ (wd_Text k t_a t_bytes u1.2 t_start t_end t_item t_numbers ++ (wd_Frac k f_a f_above f_below f_one f_other ++ (wd_Ways k w_a b0_a s_a w_detail w_skipped w_early w_late w_firstOnly w_firstYear w_years w_place w_before w_closing w_likes w_likeSums w_namings w_products w_weights w_subtotals w_way ++ (wd_Ways k v_a b0_a q_a v_detail v_skipped v_early v_late v_firstOnly v_firstYear v_years v_place v_before v_closing v_likes v_likeSums v_namings v_products v_weights v_subtotals v_way ++ (wd_Sums k s_a 5184 s_total s_shares s_pairs s_crowds s_bestWay s_bestWeight s_answer s_mine s_theirs s_people s_heads ++ (wd_Sums k q_a 0 q_total q_shares q_pairs q_crowds q_bestWay q_bestWeight q_answer q_mine q_theirs q_people q_heads ++ (wd_Aunt k u_a b0_a s_a u_worth u_dearest u_unit u_wrongly u_guess u_most))))))))))))) hA C me_X6_empty hw_484 (c_X6_empty l D k t_a t_bytes t_length t_start t_end t_item t_numbers u1 e2) dX8_clear_4 ⟨Nat.le_of_ble_eq_true rfl, Nat.le_of_ble_eq_true rfl⟩ ⟨Nat.zero_le _, Nat.zero_le _⟩ rfl rfl (Nat.le_of_ble_eq_true rfl) rfl rfl [47, 48, 49] rfl (by decide +kernel) rfl [none, none, none, none, none, none, none, none, none, none, none, none, none, none, none, none, none, none, none, none, none, none, none, none, none, none, none, none, none, none, none, none, none, none, none, none, none, none, none, none, none, none, none, none, none, none, none, some 0, some 1, some 2, none, none, none, none, none, none, none, none, none, none, none, none, none, none, none, none, none, none, none, none, none, none, none, none, none, none, none, none, none, none, none, none, none, none, none, none, none, none, none, none, none, none, none, none, none, none, none, none, none, none, none, none, none, none, none, none, none, none] 3 rfl (by decide +kernel) rfl ?_
  clear e2
  obtain rfl := Option.some.inj hf
  exact cx_iret C hA hQ hr hlk dX8_clear_7 rfl rfl
theorem dX8_imageOf_0 : decode cX8_imageOf 0 = .ok (.iload_n 1, 1) := by decide +kernel
theorem dX8_imageOf_1 : decode cX8_imageOf 1 = .ok (.ifCond .ne 10, 3) := by decide +kernel
theorem dX8_imageOf_4 : decode cX8_imageOf 4 = .ok (.aload_n 0, 1) := by decide +kernel
theorem dX8_imageOf_5 : decode cX8_imageOf 5 = .ok (.getfield 19, 3) := by decide +kernel
theorem dX8_imageOf_8 : decode cX8_imageOf 8 = .ok (.goto 7, 3) := by decide +kernel
theorem dX8_imageOf_11 : decode cX8_imageOf 11 = .ok (.aload_n 0, 1) := by decide +kernel
theorem dX8_imageOf_12 : decode cX8_imageOf 12 = .ok (.getfield 22, 3) := by decide +kernel
theorem dX8_imageOf_15 : decode cX8_imageOf 15 = .ok (.areturn, 1) := by decide +kernel
theorem me_X8_imageOf : cx_Mv yX8_imageOf cX8_imageOf 2 (some (.object "NamelessBox$Box")) 1 := ⟨⟨⟨by decide +kernel, by decide +kernel, by decide +kernel⟩, hw_1, hw_1001⟩, hw_1000, hs_35⟩
noncomputable def f_X8_imageOf (p1 : Int32) : Option Nat := if p1 = 0 then (some 25) else (some 36)
set_option maxHeartbeats 4000000 in
set_option maxRecDepth 100000 in
theorem c_X8_imageOf (l : Launch) (D : va_G) (k : Nat → ClassId) (n_a : Nat → Nat) (b0_a : Nat → Nat) (b1_a : Nat → Nat) (b2_a : Nat → Nat) (b3_a : Nat → Nat) (t_a : Nat → Nat) (f_a : Nat → Nat) (w_a : Nat → Nat) (v_a : Nat → Nat) (s_a : Nat → Nat) (q_a : Nat → Nat) (u_a : Nat → Nat) (n_kept : Nat → Int32) (n_refusals : Nat → Int32) (n_summed : Int32) (b0_c0 : Nat → Int32) (b0_z0 : Int32) (b0_c1 : Nat → Int32) (b0_z1 : Int32) (b0_c2 : Nat → Int32) (b0_z2 : Int32) (b0_c3 : Nat → Int32) (b0_z3 : Int32) (b0_c4 : Nat → Int32) (b0_z4 : Int32) (b0_sg : Int32) (b1_c0 : Nat → Int32) (b1_z0 : Int32) (b1_c1 : Nat → Int32) (b1_z1 : Int32) (b1_c2 : Nat → Int32) (b1_z2 : Int32) (b1_c3 : Nat → Int32) (b1_z3 : Int32) (b1_c4 : Nat → Int32) (b1_z4 : Int32) (b1_sg : Int32) (b2_c0 : Nat → Int32) (b2_z0 : Int32) (b2_c1 : Nat → Int32) (b2_z1 : Int32) (b2_c2 : Nat → Int32) (b2_z2 : Int32) (b2_c3 : Nat → Int32) (b2_z3 : Int32) (b2_c4 : Nat → Int32) (b2_z4 : Int32) (b2_sg : Int32) (b3_c0 : Nat → Int32) (b3_z0 : Int32) (b3_c1 : Nat → Int32) (b3_z1 : Int32) (b3_c2 : Nat → Int32) (b3_z2 : Int32) (b3_c3 : Nat → Int32) (b3_z3 : Int32) (b3_c4 : Nat → Int32) (b3_z4 : Int32) (b3_sg : Int32) (t_bytes : Nat → Int32) (t_length : Int32) (t_start : Int32) (t_end : Int32) (t_item : Int32) (t_numbers : Nat → Int32) (f_above : Nat → Int64) (f_below : Nat → Int64) (f_one : Nat → Int64) (f_other : Nat → Int64) (w_detail : Int32) (w_skipped : Int32) (w_early : Int32) (w_late : Int32) (w_firstOnly : Int32) (w_firstYear : Nat → Int32) (w_years : Nat → Int32) (w_place : Nat → Int32) (w_before : Nat → Int32) (w_closing : Nat → Int32) (w_likes : Nat → Int32) (w_likeSums : Nat → Int32) (w_namings : Nat → Int32) (w_products : Nat → Int64) (w_weights : Nat → Int64) (w_subtotals : Nat → Int64) (w_way : Nat → Int32) (v_detail : Int32) (v_skipped : Int32) (v_early : Int32) (v_late : Int32) (v_firstOnly : Int32) (v_firstYear : Nat → Int32) (v_years : Nat → Int32) (v_place : Nat → Int32) (v_before : Nat → Int32) (v_closing : Nat → Int32) (v_likes : Nat → Int32) (v_likeSums : Nat → Int32) (v_namings : Nat → Int32) (v_products : Nat → Int64) (v_weights : Nat → Int64) (v_subtotals : Nat → Int64) (v_way : Nat → Int32) (s_total : Nat → Int64) (s_shares : Nat → Int64) (s_pairs : Nat → Int64) (s_crowds : Nat → Int64) (s_bestWay : Nat → Int32) (s_bestWeight : Nat → Int64) (s_answer : Nat → Int64) (s_mine : Nat → Int64) (s_theirs : Nat → Int64) (s_people : Int32) (s_heads : Int32) (q_total : Nat → Int64) (q_shares : Nat → Int64) (q_pairs : Nat → Int64) (q_crowds : Nat → Int64) (q_bestWay : Nat → Int32) (q_bestWeight : Nat → Int64) (q_answer : Nat → Int64) (q_mine : Nat → Int64) (q_theirs : Nat → Int64) (q_people : Int32) (q_heads : Int32) (u_worth : Nat → Int64) (u_dearest : Nat → Int64) (u_unit : Nat → Int64) (u_wrongly : Nat → Int64) (u_guess : Nat → Int64) (u_most : Nat → Int64) (p1 : Int32) (y : Nat) (hf : f_X8_imageOf p1 = some y) : cx_M l yX8_imageOf cX8_imageOf 2 (some (.object "NamelessBox$Box")) 1 D k [.ref (n_a 0), .int p1] (wd_NB k n_a f_a t_a u_a v_a w_a b0_a b1_a b2_a b3_a n_kept n_refusals n_summed ++ (wd_Box k b0_a b0_c0 b0_z0 b0_c1 b0_z1 b0_c2 b0_z2 b0_c3 b0_z3 b0_c4 b0_z4 b0_sg ++ (wd_Box k b1_a b1_c0 b1_z0 b1_c1 b1_z1 b1_c2 b1_z2 b1_c3 b1_z3 b1_c4 b1_z4 b1_sg ++ (wd_Box k b2_a b2_c0 b2_z0 b2_c1 b2_z1 b2_c2 b2_z2 b2_c3 b2_z3 b2_c4 b2_z4 b2_sg ++ (wd_Box k b3_a b3_c0 b3_z0 b3_c1 b3_z1 b3_c2 b3_z2 b3_c3 b3_z3 b3_c4 b3_z4 b3_sg ++ (wd_Text k t_a t_bytes t_length t_start t_end t_item t_numbers ++ (wd_Frac k f_a f_above f_below f_one f_other ++ (wd_Ways k w_a b0_a s_a w_detail w_skipped w_early w_late w_firstOnly w_firstYear w_years w_place w_before w_closing w_likes w_likeSums w_namings w_products w_weights w_subtotals w_way ++ (wd_Ways k v_a b0_a q_a v_detail v_skipped v_early v_late v_firstOnly v_firstYear v_years v_place v_before v_closing v_likes v_likeSums v_namings v_products v_weights v_subtotals v_way ++ (wd_Sums k s_a 5184 s_total s_shares s_pairs s_crowds s_bestWay s_bestWeight s_answer s_mine s_theirs s_people s_heads ++ (wd_Sums k q_a 0 q_total q_shares q_pairs q_crowds q_bestWay q_bestWeight q_answer q_mine q_theirs q_people q_heads ++ (wd_Aunt k u_a b0_a s_a u_worth u_dearest u_unit u_wrongly u_guess u_most)))))))))))) (fun sz => cx_Qr D (if y = 25 then b2_a 0 else b3_a 0) (wd_NB k n_a f_a t_a u_a v_a w_a b0_a b1_a b2_a b3_a n_kept n_refusals n_summed ++ (wd_Box k b0_a b0_c0 b0_z0 b0_c1 b0_z1 b0_c2 b0_z2 b0_c3 b0_z3 b0_c4 b0_z4 b0_sg ++ (wd_Box k b1_a b1_c0 b1_z0 b1_c1 b1_z1 b1_c2 b1_z2 b1_c3 b1_z3 b1_c4 b1_z4 b1_sg ++ (wd_Box k b2_a b2_c0 b2_z0 b2_c1 b2_z1 b2_c2 b2_z2 b2_c3 b2_z3 b2_c4 b2_z4 b2_sg ++ (wd_Box k b3_a b3_c0 b3_z0 b3_c1 b3_z1 b3_c2 b3_z2 b3_c3 b3_z3 b3_c4 b3_z4 b3_sg ++ (wd_Text k t_a t_bytes t_length t_start t_end t_item t_numbers ++ (wd_Frac k f_a f_above f_below f_one f_other ++ (wd_Ways k w_a b0_a s_a w_detail w_skipped w_early w_late w_firstOnly w_firstYear w_years w_place w_before w_closing w_likes w_likeSums w_namings w_products w_weights w_subtotals w_way ++ (wd_Ways k v_a b0_a q_a v_detail v_skipped v_early v_late v_firstOnly v_firstYear v_years v_place v_before v_closing v_likes v_likeSums v_namings v_products v_weights v_subtotals v_way ++ (wd_Sums k s_a 5184 s_total s_shares s_pairs s_crowds s_bestWay s_bestWeight s_answer s_mine s_theirs s_people s_heads ++ (wd_Sums k q_a 0 q_total q_shares q_pairs q_crowds q_bestWay q_bestWeight q_answer q_mine q_theirs q_people q_heads ++ (wd_Aunt k u_a b0_a s_a u_worth u_dearest u_unit u_wrongly u_guess u_most)))))))))))) (wd_NB k n_a f_a t_a u_a v_a w_a b0_a b1_a b2_a b3_a n_kept n_refusals n_summed ++ (wd_Box k b0_a b0_c0 b0_z0 b0_c1 b0_z1 b0_c2 b0_z2 b0_c3 b0_z3 b0_c4 b0_z4 b0_sg ++ (wd_Box k b1_a b1_c0 b1_z0 b1_c1 b1_z1 b1_c2 b1_z2 b1_c3 b1_z3 b1_c4 b1_z4 b1_sg ++ (wd_Box k b2_a b2_c0 b2_z0 b2_c1 b2_z1 b2_c2 b2_z2 b2_c3 b2_z3 b2_c4 b2_z4 b2_sg ++ (wd_Box k b3_a b3_c0 b3_z0 b3_c1 b3_z1 b3_c2 b3_z2 b3_c3 b3_z3 b3_c4 b3_z4 b3_sg ++ (wd_Text k t_a t_bytes t_length t_start t_end t_item t_numbers ++ (wd_Frac k f_a f_above f_below f_one f_other ++ (wd_Ways k w_a b0_a s_a w_detail w_skipped w_early w_late w_firstOnly w_firstYear w_years w_place w_before w_closing w_likes w_likeSums w_namings w_products w_weights w_subtotals w_way ++ (wd_Ways k v_a b0_a q_a v_detail v_skipped v_early v_late v_firstOnly v_firstYear v_years v_place v_before v_closing v_likes v_likeSums v_namings v_products v_weights v_subtotals v_way ++ (wd_Sums k s_a 5184 s_total s_shares s_pairs s_crowds s_bestWay s_bestWeight s_answer s_mine s_theirs s_people s_heads ++ (wd_Sums k q_a 0 q_total q_shares q_pairs q_crowds q_bestWay q_bestWeight q_answer q_mine q_theirs q_people q_heads ++ (wd_Aunt k u_a b0_a s_a u_worth u_dearest u_unit u_wrongly u_guess u_most)))))))))))) sz) := by
  refine cx_met (own := "NamelessBox") (by decide) rfl (Nat.le_of_ble_eq_true rfl) ?_
  intro p e s m args below meth c A Q C hA hQ hr hlk
  refine cx_lv (lv' := [(0, .ref (n_a 0)), (1, .int p1)]) [0, 1] rfl ?_
  unfold f_X8_imageOf at hf
  refine cx_iload_n C dX8_imageOf_0 1 rfl ?_
  refine cx_if_ne (tgt := 11) C dX8_imageOf_1 (by decide) (fun c1 => ?_) (fun c1 => ?_)
  · have hf := cx_if_f hf c1
    clear c1
    refine cx_aload_n C dX8_imageOf_11 0 rfl ?_
    refine cx_get (v := .ref (b3_a 0)) (ci := 7) C iX8 dX8_imageOf_12 0 rfl rfl 3 (by decide) hw_293 rfl ?_
    obtain rfl := Option.some.inj hf
    exact cx_aret C hA hQ hr hlk dX8_imageOf_15 rfl rfl
  · have hf := cx_if_t hf c1
    clear c1
    refine cx_aload_n C dX8_imageOf_4 0 rfl ?_
    refine cx_get (v := .ref (b2_a 0)) (ci := 7) C iX8 dX8_imageOf_5 0 rfl rfl 2 (by decide) hw_292 rfl ?_
    refine cx_goto (tgt := 15) C dX8_imageOf_8 (by decide) ?_
    obtain rfl := Option.some.inj hf
    exact cx_aret C hA hQ hr hlk dX8_imageOf_15 rfl rfl
theorem dX8_image_0 : decode cX8_image 0 = .ok (.iload_n 1, 1) := by decide +kernel
theorem dX8_image_1 : decode cX8_image 1 = .ok (.iconst 0, 1) := by decide +kernel
theorem dX8_image_2 : decode cX8_image 2 = .ok (.iconst 1, 1) := by decide +kernel
theorem dX8_image_3 : decode cX8_image 3 = .ok (.invokestatic 121, 3) := by decide +kernel
theorem dX8_image_6 : decode cX8_image 6 = .ok (.ifCond .ne 10, 3) := by decide +kernel
theorem dX8_image_9 : decode cX8_image 9 = .ok (.aload_n 0, 1) := by decide +kernel
theorem dX8_image_10 : decode cX8_image 10 = .ok (.bipush (-2), 2) := by decide +kernel
theorem dX8_image_12 : decode cX8_image 12 = .ok (.invokevirtual 125, 3) := by decide +kernel
theorem dX8_image_15 : decode cX8_image 15 = .ok (.ireturn, 1) := by decide +kernel
theorem dX8_image_16 : decode cX8_image 16 = .ok (.aload_n 0, 1) := by decide +kernel
theorem dX8_image_17 : decode cX8_image 17 = .ok (.iload_n 1, 1) := by decide +kernel
theorem dX8_image_18 : decode cX8_image 18 = .ok (.invokevirtual 297, 3) := by decide +kernel
theorem dX8_image_21 : decode cX8_image 21 = .ok (.aload_n 0, 1) := by decide +kernel
theorem dX8_image_22 : decode cX8_image 22 = .ok (.getfield 10, 3) := by decide +kernel
theorem dX8_image_25 : decode cX8_image 25 = .ok (.invokevirtual 170, 3) := by decide +kernel
theorem dX8_image_28 : decode cX8_image 28 = .ok (.aload_n 0, 1) := by decide +kernel
theorem dX8_image_29 : decode cX8_image 29 = .ok (.getfield 25, 3) := by decide +kernel
theorem dX8_image_32 : decode cX8_image 32 = .ok (.iload_n 1, 1) := by decide +kernel
theorem dX8_image_33 : decode cX8_image 33 = .ok (.iconst 1, 1) := by decide +kernel
theorem dX8_image_34 : decode cX8_image 34 = .ok (.bastore, 1) := by decide +kernel
theorem dX8_image_35 : decode cX8_image 35 = .ok (.iconst 1, 1) := by decide +kernel
theorem dX8_image_36 : decode cX8_image 36 = .ok (.ireturn, 1) := by decide +kernel
theorem me_X8_image : cx_Mv yX8_image cX8_image 2 (some .int) 1 := ⟨⟨⟨by decide +kernel, by decide +kernel, by decide +kernel⟩, hw_1, hw_997⟩, hw_995, hw_996⟩
noncomputable def f_X8_image (n_kept : Nat → Int32) (n_refusals : Nat → Int32) (b0_c0 : Nat → Int32) (b0_z0 : Int32) (b0_c1 : Nat → Int32) (b0_z1 : Int32) (b0_c2 : Nat → Int32) (b0_z2 : Int32) (b0_c3 : Nat → Int32) (b0_z3 : Int32) (b0_c4 : Nat → Int32) (b0_z4 : Int32) (b0_sg : Int32) (b2_c0 : Nat → Int32) (b2_z0 : Int32) (b2_c1 : Nat → Int32) (b2_z1 : Int32) (b2_c2 : Nat → Int32) (b2_z2 : Int32) (b2_c3 : Nat → Int32) (b2_z3 : Int32) (b2_c4 : Nat → Int32) (b2_z4 : Int32) (b2_sg : Int32) (b3_c0 : Nat → Int32) (b3_z0 : Int32) (b3_c1 : Nat → Int32) (b3_z1 : Int32) (b3_c2 : Nat → Int32) (b3_z2 : Int32) (b3_c3 : Nat → Int32) (b3_z3 : Int32) (b3_c4 : Nat → Int32) (b3_z4 : Int32) (b3_sg : Int32) (p1 : Int32) : Option (Int32 × (Nat → Int32) × (Nat → Int32) × Int32 × Int32 × (Nat → Int32) × Int32 × (Nat → Int32) × Int32 × (Nat → Int32) × Int32 × (Nat → Int32) × Int32 × (Nat → Int32) × Int32 × Int32 × (Nat → Int32) × Int32 × (Nat → Int32) × Int32 × (Nat → Int32) × Int32 × (Nat → Int32) × Int32 × (Nat → Int32)) := Option.bind (f_X8_within p1 0 1) (fun u1 => if u1 = 0 then (Option.bind (f_X8_refused n_refusals ((-2))) (fun u15 => some ((u15.1, n_kept, u15.2, b2_sg, b2_z0, b2_c0, b2_z1, b2_c1, b2_z2, b2_c2, b2_z3, b2_c3, b2_z4, b2_c4, b3_sg, b3_z0, b3_c0, b3_z1, b3_c1, b3_z2, b3_c2, b3_z3, b3_c3, b3_z4, b3_c4)))) else (Option.bind (f_X8_imageOf p1) (fun u4 => if u4 = 25 then (Option.bind (f_X1_take b2_c0 b2_c1 b2_c2 b2_c3 b2_c4 b0_c0 b0_z0 b0_c1 b0_z1 b0_c2 b0_z2 b0_c3 b0_z3 b0_c4 b0_z4 b0_sg) (fun u7 => cx_gd (cx_ib p1 2) (cx_let (upd n_kept (cx_ix p1) (vp_nar .boolean 1)) (fun a10 => some ((1, a10, n_refusals, u7.1, u7.2.1, u7.2.2.1, u7.2.2.2.1, u7.2.2.2.2.1, u7.2.2.2.2.2.1, u7.2.2.2.2.2.2.1, u7.2.2.2.2.2.2.2.1, u7.2.2.2.2.2.2.2.2.1, u7.2.2.2.2.2.2.2.2.2.1, u7.2.2.2.2.2.2.2.2.2.2, b3_sg, b3_z0, b3_c0, b3_z1, b3_c1, b3_z2, b3_c2, b3_z3, b3_c3, b3_z4, b3_c4)))))) else (Option.bind (f_X1_take b3_c0 b3_c1 b3_c2 b3_c3 b3_c4 b0_c0 b0_z0 b0_c1 b0_z1 b0_c2 b0_z2 b0_c3 b0_z3 b0_c4 b0_z4 b0_sg) (fun u11 => cx_gd (cx_ib p1 2) (cx_let (upd n_kept (cx_ix p1) (vp_nar .boolean 1)) (fun a14 => some ((1, a14, n_refusals, b2_sg, b2_z0, b2_c0, b2_z1, b2_c1, b2_z2, b2_c2, b2_z3, b2_c3, b2_z4, b2_c4, u11.1, u11.2.1, u11.2.2.1, u11.2.2.2.1, u11.2.2.2.2.1, u11.2.2.2.2.2.1, u11.2.2.2.2.2.2.1, u11.2.2.2.2.2.2.2.1, u11.2.2.2.2.2.2.2.2.1, u11.2.2.2.2.2.2.2.2.2.1, u11.2.2.2.2.2.2.2.2.2.2)))))))))
set_option maxHeartbeats 4000000 in
set_option maxRecDepth 100000 in
theorem c_X8_image (l : Launch) (D : va_G) (k : Nat → ClassId) (n_a : Nat → Nat) (b0_a : Nat → Nat) (b1_a : Nat → Nat) (b2_a : Nat → Nat) (b3_a : Nat → Nat) (t_a : Nat → Nat) (f_a : Nat → Nat) (w_a : Nat → Nat) (v_a : Nat → Nat) (s_a : Nat → Nat) (q_a : Nat → Nat) (u_a : Nat → Nat) (n_kept : Nat → Int32) (n_refusals : Nat → Int32) (n_summed : Int32) (b0_c0 : Nat → Int32) (b0_z0 : Int32) (b0_c1 : Nat → Int32) (b0_z1 : Int32) (b0_c2 : Nat → Int32) (b0_z2 : Int32) (b0_c3 : Nat → Int32) (b0_z3 : Int32) (b0_c4 : Nat → Int32) (b0_z4 : Int32) (b0_sg : Int32) (b1_c0 : Nat → Int32) (b1_z0 : Int32) (b1_c1 : Nat → Int32) (b1_z1 : Int32) (b1_c2 : Nat → Int32) (b1_z2 : Int32) (b1_c3 : Nat → Int32) (b1_z3 : Int32) (b1_c4 : Nat → Int32) (b1_z4 : Int32) (b1_sg : Int32) (b2_c0 : Nat → Int32) (b2_z0 : Int32) (b2_c1 : Nat → Int32) (b2_z1 : Int32) (b2_c2 : Nat → Int32) (b2_z2 : Int32) (b2_c3 : Nat → Int32) (b2_z3 : Int32) (b2_c4 : Nat → Int32) (b2_z4 : Int32) (b2_sg : Int32) (b3_c0 : Nat → Int32) (b3_z0 : Int32) (b3_c1 : Nat → Int32) (b3_z1 : Int32) (b3_c2 : Nat → Int32) (b3_z2 : Int32) (b3_c3 : Nat → Int32) (b3_z3 : Int32) (b3_c4 : Nat → Int32) (b3_z4 : Int32) (b3_sg : Int32) (t_bytes : Nat → Int32) (t_length : Int32) (t_start : Int32) (t_end : Int32) (t_item : Int32) (t_numbers : Nat → Int32) (f_above : Nat → Int64) (f_below : Nat → Int64) (f_one : Nat → Int64) (f_other : Nat → Int64) (w_detail : Int32) (w_skipped : Int32) (w_early : Int32) (w_late : Int32) (w_firstOnly : Int32) (w_firstYear : Nat → Int32) (w_years : Nat → Int32) (w_place : Nat → Int32) (w_before : Nat → Int32) (w_closing : Nat → Int32) (w_likes : Nat → Int32) (w_likeSums : Nat → Int32) (w_namings : Nat → Int32) (w_products : Nat → Int64) (w_weights : Nat → Int64) (w_subtotals : Nat → Int64) (w_way : Nat → Int32) (v_detail : Int32) (v_skipped : Int32) (v_early : Int32) (v_late : Int32) (v_firstOnly : Int32) (v_firstYear : Nat → Int32) (v_years : Nat → Int32) (v_place : Nat → Int32) (v_before : Nat → Int32) (v_closing : Nat → Int32) (v_likes : Nat → Int32) (v_likeSums : Nat → Int32) (v_namings : Nat → Int32) (v_products : Nat → Int64) (v_weights : Nat → Int64) (v_subtotals : Nat → Int64) (v_way : Nat → Int32) (s_total : Nat → Int64) (s_shares : Nat → Int64) (s_pairs : Nat → Int64) (s_crowds : Nat → Int64) (s_bestWay : Nat → Int32) (s_bestWeight : Nat → Int64) (s_answer : Nat → Int64) (s_mine : Nat → Int64) (s_theirs : Nat → Int64) (s_people : Int32) (s_heads : Int32) (q_total : Nat → Int64) (q_shares : Nat → Int64) (q_pairs : Nat → Int64) (q_crowds : Nat → Int64) (q_bestWay : Nat → Int32) (q_bestWeight : Nat → Int64) (q_answer : Nat → Int64) (q_mine : Nat → Int64) (q_theirs : Nat → Int64) (q_people : Int32) (q_heads : Int32) (u_worth : Nat → Int64) (u_dearest : Nat → Int64) (u_unit : Nat → Int64) (u_wrongly : Nat → Int64) (u_guess : Nat → Int64) (u_most : Nat → Int64) (p1 : Int32) (y : Int32 × (Nat → Int32) × (Nat → Int32) × Int32 × Int32 × (Nat → Int32) × Int32 × (Nat → Int32) × Int32 × (Nat → Int32) × Int32 × (Nat → Int32) × Int32 × (Nat → Int32) × Int32 × Int32 × (Nat → Int32) × Int32 × (Nat → Int32) × Int32 × (Nat → Int32) × Int32 × (Nat → Int32) × Int32 × (Nat → Int32)) (hf : f_X8_image n_kept n_refusals b0_c0 b0_z0 b0_c1 b0_z1 b0_c2 b0_z2 b0_c3 b0_z3 b0_c4 b0_z4 b0_sg b2_c0 b2_z0 b2_c1 b2_z1 b2_c2 b2_z2 b2_c3 b2_z3 b2_c4 b2_z4 b2_sg b3_c0 b3_z0 b3_c1 b3_z1 b3_c2 b3_z2 b3_c3 b3_z3 b3_c4 b3_z4 b3_sg p1 = some y) : cx_M l yX8_image cX8_image 2 (some .int) 3 D k [.ref (n_a 0), .int p1] (wd_NB k n_a f_a t_a u_a v_a w_a b0_a b1_a b2_a b3_a n_kept n_refusals n_summed ++ (wd_Box k b0_a b0_c0 b0_z0 b0_c1 b0_z1 b0_c2 b0_z2 b0_c3 b0_z3 b0_c4 b0_z4 b0_sg ++ (wd_Box k b1_a b1_c0 b1_z0 b1_c1 b1_z1 b1_c2 b1_z2 b1_c3 b1_z3 b1_c4 b1_z4 b1_sg ++ (wd_Box k b2_a b2_c0 b2_z0 b2_c1 b2_z1 b2_c2 b2_z2 b2_c3 b2_z3 b2_c4 b2_z4 b2_sg ++ (wd_Box k b3_a b3_c0 b3_z0 b3_c1 b3_z1 b3_c2 b3_z2 b3_c3 b3_z3 b3_c4 b3_z4 b3_sg ++ (wd_Text k t_a t_bytes t_length t_start t_end t_item t_numbers ++ (wd_Frac k f_a f_above f_below f_one f_other ++ (wd_Ways k w_a b0_a s_a w_detail w_skipped w_early w_late w_firstOnly w_firstYear w_years w_place w_before w_closing w_likes w_likeSums w_namings w_products w_weights w_subtotals w_way ++ (wd_Ways k v_a b0_a q_a v_detail v_skipped v_early v_late v_firstOnly v_firstYear v_years v_place v_before v_closing v_likes v_likeSums v_namings v_products v_weights v_subtotals v_way ++ (wd_Sums k s_a 5184 s_total s_shares s_pairs s_crowds s_bestWay s_bestWeight s_answer s_mine s_theirs s_people s_heads ++ (wd_Sums k q_a 0 q_total q_shares q_pairs q_crowds q_bestWay q_bestWeight q_answer q_mine q_theirs q_people q_heads ++ (wd_Aunt k u_a b0_a s_a u_worth u_dearest u_unit u_wrongly u_guess u_most)))))))))))) (fun sz => cx_Qi D y.1 (wd_NB k n_a f_a t_a u_a v_a w_a b0_a b1_a b2_a b3_a n_kept n_refusals n_summed ++ (wd_Box k b0_a b0_c0 b0_z0 b0_c1 b0_z1 b0_c2 b0_z2 b0_c3 b0_z3 b0_c4 b0_z4 b0_sg ++ (wd_Box k b1_a b1_c0 b1_z0 b1_c1 b1_z1 b1_c2 b1_z2 b1_c3 b1_z3 b1_c4 b1_z4 b1_sg ++ (wd_Box k b2_a b2_c0 b2_z0 b2_c1 b2_z1 b2_c2 b2_z2 b2_c3 b2_z3 b2_c4 b2_z4 b2_sg ++ (wd_Box k b3_a b3_c0 b3_z0 b3_c1 b3_z1 b3_c2 b3_z2 b3_c3 b3_z3 b3_c4 b3_z4 b3_sg ++ (wd_Text k t_a t_bytes t_length t_start t_end t_item t_numbers ++ (wd_Frac k f_a f_above f_below f_one f_other ++ (wd_Ways k w_a b0_a s_a w_detail w_skipped w_early w_late w_firstOnly w_firstYear w_years w_place w_before w_closing w_likes w_likeSums w_namings w_products w_weights w_subtotals w_way ++ (wd_Ways k v_a b0_a q_a v_detail v_skipped v_early v_late v_firstOnly v_firstYear v_years v_place v_before v_closing v_likes v_likeSums v_namings v_products v_weights v_subtotals v_way ++ (wd_Sums k s_a 5184 s_total s_shares s_pairs s_crowds s_bestWay s_bestWeight s_answer s_mine s_theirs s_people s_heads ++ (wd_Sums k q_a 0 q_total q_shares q_pairs q_crowds q_bestWay q_bestWeight q_answer q_mine q_theirs q_people q_heads ++ (wd_Aunt k u_a b0_a s_a u_worth u_dearest u_unit u_wrongly u_guess u_most)))))))))))) (wd_NB k n_a f_a t_a u_a v_a w_a b0_a b1_a b2_a b3_a y.2.1 y.2.2.1 n_summed ++ (wd_Box k b0_a b0_c0 b0_z0 b0_c1 b0_z1 b0_c2 b0_z2 b0_c3 b0_z3 b0_c4 b0_z4 b0_sg ++ (wd_Box k b1_a b1_c0 b1_z0 b1_c1 b1_z1 b1_c2 b1_z2 b1_c3 b1_z3 b1_c4 b1_z4 b1_sg ++ (wd_Box k b2_a y.2.2.2.2.2.1 y.2.2.2.2.1 y.2.2.2.2.2.2.2.1 y.2.2.2.2.2.2.1 y.2.2.2.2.2.2.2.2.2.1 y.2.2.2.2.2.2.2.2.1 y.2.2.2.2.2.2.2.2.2.2.2.1 y.2.2.2.2.2.2.2.2.2.2.1 y.2.2.2.2.2.2.2.2.2.2.2.2.2.1 y.2.2.2.2.2.2.2.2.2.2.2.2.1 y.2.2.2.1 ++ (wd_Box k b3_a y.2.2.2.2.2.2.2.2.2.2.2.2.2.2.2.2.1 y.2.2.2.2.2.2.2.2.2.2.2.2.2.2.2.1 y.2.2.2.2.2.2.2.2.2.2.2.2.2.2.2.2.2.2.1 y.2.2.2.2.2.2.2.2.2.2.2.2.2.2.2.2.2.1 y.2.2.2.2.2.2.2.2.2.2.2.2.2.2.2.2.2.2.2.2.1 y.2.2.2.2.2.2.2.2.2.2.2.2.2.2.2.2.2.2.2.1 y.2.2.2.2.2.2.2.2.2.2.2.2.2.2.2.2.2.2.2.2.2.2.1 y.2.2.2.2.2.2.2.2.2.2.2.2.2.2.2.2.2.2.2.2.2.1 y.2.2.2.2.2.2.2.2.2.2.2.2.2.2.2.2.2.2.2.2.2.2.2.2 y.2.2.2.2.2.2.2.2.2.2.2.2.2.2.2.2.2.2.2.2.2.2.2.1 y.2.2.2.2.2.2.2.2.2.2.2.2.2.2.1 ++ (wd_Text k t_a t_bytes t_length t_start t_end t_item t_numbers ++ (wd_Frac k f_a f_above f_below f_one f_other ++ (wd_Ways k w_a b0_a s_a w_detail w_skipped w_early w_late w_firstOnly w_firstYear w_years w_place w_before w_closing w_likes w_likeSums w_namings w_products w_weights w_subtotals w_way ++ (wd_Ways k v_a b0_a q_a v_detail v_skipped v_early v_late v_firstOnly v_firstYear v_years v_place v_before v_closing v_likes v_likeSums v_namings v_products v_weights v_subtotals v_way ++ (wd_Sums k s_a 5184 s_total s_shares s_pairs s_crowds s_bestWay s_bestWeight s_answer s_mine s_theirs s_people s_heads ++ (wd_Sums k q_a 0 q_total q_shares q_pairs q_crowds q_bestWay q_bestWeight q_answer q_mine q_theirs q_people q_heads ++ (wd_Aunt k u_a b0_a s_a u_worth u_dearest u_unit u_wrongly u_guess u_most)))))))))))) sz) := by
  refine cx_met (own := "NamelessBox") (by decide) rfl (Nat.le_of_ble_eq_true rfl) ?_
  intro p e s m args below meth c A Q C hA hQ hr hlk
  refine cx_lv (lv' := [(0, .ref (n_a 0)), (1, .int p1)]) [0, 1] rfl ?_
  unfold f_X8_image at hf
  refine cx_iload_n C dX8_image_0 1 rfl ?_
  refine cx_iconst (v := 0) C dX8_image_1 (by decide) ?_
  refine cx_iconst (v := 1) C dX8_image_2 (by decide) ?_
  obtain ⟨u1, e2, hf⟩ := cx_bd_at hf
  refine cx_Ksi (As := [.int p1, .int 0, .int 1]) (rest := []) hA C me_X8_within hw_434 (c_X8_within l D k p1 0 1 u1 e2) dX8_image_3 ⟨Nat.le_of_ble_eq_true rfl, Nat.le_of_ble_eq_true rfl⟩ ⟨Nat.zero_le _, Nat.zero_le _⟩ rfl rfl (Nat.le_of_ble_eq_true rfl) [] rfl (by decide) ?_
  clear e2
  refine cx_if_ne (tgt := 16) C dX8_image_6 (by decide) (fun c3 => ?_) (fun c3 => ?_)
  · have hf := cx_if_f hf c3
    clear c3
    refine cx_aload_n C dX8_image_16 0 rfl ?_
    refine cx_iload_n C dX8_image_17 1 rfl ?_
    obtain ⟨u4, e5, hf⟩ := cx_bd_at hf
    refine cx_Fvr (q := (RX8, TX8, 12)) (As := [.int p1]) (rest := []) (w1 := (wd_NB k n_a f_a t_a u_a v_a w_a b0_a b1_a b2_a b3_a n_kept n_refusals n_summed ++ (wd_Box k b0_a b0_c0 b0_z0 b0_c1 b0_z1 b0_c2 b0_z2 b0_c3 b0_z3 b0_c4 b0_z4 b0_sg ++ (wd_Box k b1_a b1_c0 b1_z0 b1_c1 b1_z1 b1_c2 b1_z2 b1_c3 b1_z3 b1_c4 b1_z4 b1_sg ++ (wd_Box k b2_a b2_c0 b2_z0 b2_c1 b2_z1 b2_c2 b2_z2 b2_c3 b2_z3 b2_c4 b2_z4 b2_sg ++ (wd_Box k b3_a b3_c0 b3_z0 b3_c1 b3_z1 b3_c2 b3_z2 b3_c3 b3_z3 b3_c4 b3_z4 b3_sg ++ (wd_Text k t_a t_bytes t_length t_start t_end t_item t_numbers ++ (wd_Frac k f_a f_above f_below f_one f_other ++ (wd_Ways k w_a b0_a s_a w_detail w_skipped w_early w_late w_firstOnly w_firstYear w_years w_place w_before w_closing w_likes w_likeSums w_namings w_products w_weights w_subtotals w_way ++ (wd_Ways k v_a b0_a q_a v_detail v_skipped v_early v_late v_firstOnly v_firstYear v_years v_place v_before v_closing v_likes v_likeSums v_namings v_products v_weights v_subtotals v_way ++ (wd_Sums k s_a 5184 s_total s_shares s_pairs s_crowds s_bestWay s_bestWeight s_answer s_mine s_theirs s_people s_heads ++ (wd_Sums k q_a 0 q_total q_shares q_pairs q_crowds q_bestWay q_bestWeight q_answer q_mine q_theirs q_people q_heads ++ (wd_Aunt k u_a b0_a s_a u_worth u_dearest u_unit u_wrongly u_guess u_most))))))))))))) hA C me_X8_imageOf hw_998 (c_X8_imageOf l D k n_a b0_a b1_a b2_a b3_a t_a f_a w_a v_a s_a q_a u_a n_kept n_refusals n_summed b0_c0 b0_z0 b0_c1 b0_z1 b0_c2 b0_z2 b0_c3 b0_z3 b0_c4 b0_z4 b0_sg b1_c0 b1_z0 b1_c1 b1_z1 b1_c2 b1_z2 b1_c3 b1_z3 b1_c4 b1_z4 b1_sg b2_c0 b2_z0 b2_c1 b2_z1 b2_c2 b2_z2 b2_c3 b2_z3 b2_c4 b2_z4 b2_sg b3_c0 b3_z0 b3_c1 b3_z1 b3_c2 b3_z2 b3_c3 b3_z3 b3_c4 b3_z4 b3_sg t_bytes t_length t_start t_end t_item t_numbers f_above f_below f_one f_other w_detail w_skipped w_early w_late w_firstOnly w_firstYear w_years w_place w_before w_closing w_likes w_likeSums w_namings w_products w_weights w_subtotals w_way v_detail v_skipped v_early v_late v_firstOnly v_firstYear v_years v_place v_before v_closing v_likes v_likeSums v_namings v_products v_weights v_subtotals v_way s_total s_shares s_pairs s_crowds s_bestWay s_bestWeight s_answer s_mine s_theirs s_people s_heads q_total q_shares q_pairs q_crowds q_bestWay q_bestWeight q_answer q_mine q_theirs q_people q_heads u_worth u_dearest u_unit u_wrongly u_guess u_most p1 u4 e5) dX8_image_18 ⟨Nat.le_of_ble_eq_true rfl, Nat.le_of_ble_eq_true rfl⟩ ⟨Nat.zero_le _, Nat.zero_le _⟩ rfl rfl (Nat.le_of_ble_eq_true rfl) rfl rfl rfl ?_
    clear e5
    by_cases c6 : u4 = 25
    · have hf := cx_if_t hf c6
      rw [if_pos c6]
      refine cx_aload_n C dX8_image_21 0 rfl ?_
      refine cx_get (v := .ref (b0_a 0)) (ci := 7) C iX8 dX8_image_22 0 rfl rfl 0 (by decide) hw_290 rfl ?_
      obtain ⟨u7, e8, hf⟩ := cx_bd_at hf
      refine cx_Gvv (q := (RX1, TX1, 6)) (As := [.ref (b0_a 0)]) (rest := []) (ws' := (wd_NB k n_a f_a t_a u_a v_a w_a b0_a b1_a b2_a b3_a n_kept n_refusals n_summed ++ (wd_Box k b0_a b0_c0 b0_z0 b0_c1 b0_z1 b0_c2 b0_z2 b0_c3 b0_z3 b0_c4 b0_z4 b0_sg ++ (wd_Box k b1_a b1_c0 b1_z0 b1_c1 b1_z1 b1_c2 b1_z2 b1_c3 b1_z3 b1_c4 b1_z4 b1_sg ++ (wd_Box k b2_a u7.2.2.1 u7.2.1 u7.2.2.2.2.1 u7.2.2.2.1 u7.2.2.2.2.2.2.1 u7.2.2.2.2.2.1 u7.2.2.2.2.2.2.2.2.1 u7.2.2.2.2.2.2.2.1 u7.2.2.2.2.2.2.2.2.2.2 u7.2.2.2.2.2.2.2.2.2.1 u7.1 ++ (wd_Box k b3_a b3_c0 b3_z0 b3_c1 b3_z1 b3_c2 b3_z2 b3_c3 b3_z3 b3_c4 b3_z4 b3_sg ++ (wd_Text k t_a t_bytes t_length t_start t_end t_item t_numbers ++ (wd_Frac k f_a f_above f_below f_one f_other ++ (wd_Ways k w_a b0_a s_a w_detail w_skipped w_early w_late w_firstOnly w_firstYear w_years w_place w_before w_closing w_likes w_likeSums w_namings w_products w_weights w_subtotals w_way ++ (wd_Ways k v_a b0_a q_a v_detail v_skipped v_early v_late v_firstOnly v_firstYear v_years v_place v_before v_closing v_likes v_likeSums v_namings v_products v_weights v_subtotals v_way ++ (wd_Sums k s_a 5184 s_total s_shares s_pairs s_crowds s_bestWay s_bestWeight s_answer s_mine s_theirs s_people s_heads ++ (wd_Sums k q_a 0 q_total q_shares q_pairs q_crowds q_bestWay q_bestWeight q_answer q_mine q_theirs q_people q_heads ++ (wd_Aunt k u_a b0_a s_a u_worth u_dearest u_unit u_wrongly u_guess u_most))))))))))))) hA C me_X1_take hw_603 (c_X1_take l D k b2_a b0_a b2_c0 b2_z0 b2_c1 b2_z1 b2_c2 b2_z2 b2_c3 b2_z3 b2_c4 b2_z4 b2_sg b0_c0 b0_z0 b0_c1 b0_z1 b0_c2 b0_z2 b0_c3 b0_z3 b0_c4 b0_z4 b0_sg u7 e8) dX8_image_25 ⟨Nat.le_of_ble_eq_true rfl, Nat.le_of_ble_eq_true rfl⟩ ⟨Nat.zero_le _, Nat.zero_le _⟩ rfl rfl (Nat.le_of_ble_eq_true rfl) rfl rfl [25, 26, 27, 28, 29, 30, 31, 32, 33, 34, 35, 3, 4, 5, 6, 7, 8, 9, 10, 11, 12, 13] rfl (by decide +kernel) rfl [none, none, none, some 11, some 12, some 13, some 14, some 15, some 16, some 17, some 18, some 19, some 20, some 21, none, none, none, none, none, none, none, none, none, none, none, some 0, some 1, some 2, some 3, some 4, some 5, some 6, some 7, some 8, some 9, some 10, none, none, none, none, none, none, none, none, none, none, none, none, none, none, none, none, none, none, none, none, none, none, none, none, none, none, none, none, none, none, none, none, none, none, none, none, none, none, none, none, none, none, none, none, none, none, none, none, none, none, none, none, none, none, none, none, none, none, none, none, none, none, none, none, none, none, none, none, none, none, none, none] 22 rfl (by decide +kernel) rfl ?_
      clear e8
      refine cx_aload_n C dX8_image_28 0 rfl ?_
      refine cx_get (v := .ref (n_a 1)) (ci := 7) C iX8 dX8_image_29 0 rfl rfl 4 (by decide) hw_294 rfl ?_
      refine cx_iload_n C dX8_image_32 1 rfl ?_
      refine cx_iconst (v := 1) C dX8_image_33 (by decide) ?_
      obtain ⟨g9, hf⟩ := cx_gd_at hf
      obtain ⟨a10, ea10⟩ : ∃ z, z = upd n_kept (cx_ix p1) (vp_nar .boolean 1) := ⟨_, rfl⟩
      have hf := cx_let_at hf ea10
      refine cx_zast (ws' := (wd_NB k n_a f_a t_a u_a v_a w_a b0_a b1_a b2_a b3_a a10 n_refusals n_summed ++ (wd_Box k b0_a b0_c0 b0_z0 b0_c1 b0_z1 b0_c2 b0_z2 b0_c3 b0_z3 b0_c4 b0_z4 b0_sg ++ (wd_Box k b1_a b1_c0 b1_z0 b1_c1 b1_z1 b1_c2 b1_z2 b1_c3 b1_z3 b1_c4 b1_z4 b1_sg ++ (wd_Box k b2_a u7.2.2.1 u7.2.1 u7.2.2.2.2.1 u7.2.2.2.1 u7.2.2.2.2.2.2.1 u7.2.2.2.2.2.1 u7.2.2.2.2.2.2.2.2.1 u7.2.2.2.2.2.2.2.1 u7.2.2.2.2.2.2.2.2.2.2 u7.2.2.2.2.2.2.2.2.2.1 u7.1 ++ (wd_Box k b3_a b3_c0 b3_z0 b3_c1 b3_z1 b3_c2 b3_z2 b3_c3 b3_z3 b3_c4 b3_z4 b3_sg ++ (wd_Text k t_a t_bytes t_length t_start t_end t_item t_numbers ++ (wd_Frac k f_a f_above f_below f_one f_other ++ (wd_Ways k w_a b0_a s_a w_detail w_skipped w_early w_late w_firstOnly w_firstYear w_years w_place w_before w_closing w_likes w_likeSums w_namings w_products w_weights w_subtotals w_way ++ (wd_Ways k v_a b0_a q_a v_detail v_skipped v_early v_late v_firstOnly v_firstYear v_years v_place v_before v_closing v_likes v_likeSums v_namings v_products v_weights v_subtotals v_way ++ (wd_Sums k s_a 5184 s_total s_shares s_pairs s_crowds s_bestWay s_bestWeight s_answer s_mine s_theirs s_people s_heads ++ (wd_Sums k q_a 0 q_total q_shares q_pairs q_crowds q_bestWay q_bestWeight q_answer q_mine q_theirs q_people q_heads ++ (wd_Aunt k u_a b0_a s_a u_worth u_dearest u_unit u_wrongly u_guess u_most))))))))))))) C dX8_image_34 1 rfl (cx_ib_in g9) (by rw [ea10]; rfl) ?_
      clear ea10 g9
      refine cx_iconst (v := 1) C dX8_image_35 (by decide) ?_
      obtain rfl := Option.some.inj hf
      exact cx_iret C hA hQ hr hlk dX8_image_36 rfl rfl
    · have hf := cx_if_f hf c6
      rw [if_neg c6]
      refine cx_aload_n C dX8_image_21 0 rfl ?_
      refine cx_get (v := .ref (b0_a 0)) (ci := 7) C iX8 dX8_image_22 0 rfl rfl 0 (by decide) hw_290 rfl ?_
      obtain ⟨u11, e12, hf⟩ := cx_bd_at hf
      refine cx_Gvv (q := (RX1, TX1, 6)) (As := [.ref (b0_a 0)]) (rest := []) (ws' := (wd_NB k n_a f_a t_a u_a v_a w_a b0_a b1_a b2_a b3_a n_kept n_refusals n_summed ++ (wd_Box k b0_a b0_c0 b0_z0 b0_c1 b0_z1 b0_c2 b0_z2 b0_c3 b0_z3 b0_c4 b0_z4 b0_sg ++ (wd_Box k b1_a b1_c0 b1_z0 b1_c1 b1_z1 b1_c2 b1_z2 b1_c3 b1_z3 b1_c4 b1_z4 b1_sg ++ (wd_Box k b2_a b2_c0 b2_z0 b2_c1 b2_z1 b2_c2 b2_z2 b2_c3 b2_z3 b2_c4 b2_z4 b2_sg ++ (wd_Box k b3_a u11.2.2.1 u11.2.1 u11.2.2.2.2.1 u11.2.2.2.1 u11.2.2.2.2.2.2.1 u11.2.2.2.2.2.1 u11.2.2.2.2.2.2.2.2.1 u11.2.2.2.2.2.2.2.1 u11.2.2.2.2.2.2.2.2.2.2 u11.2.2.2.2.2.2.2.2.2.1 u11.1 ++ (wd_Text k t_a t_bytes t_length t_start t_end t_item t_numbers ++ (wd_Frac k f_a f_above f_below f_one f_other ++ (wd_Ways k w_a b0_a s_a w_detail w_skipped w_early w_late w_firstOnly w_firstYear w_years w_place w_before w_closing w_likes w_likeSums w_namings w_products w_weights w_subtotals w_way ++ (wd_Ways k v_a b0_a q_a v_detail v_skipped v_early v_late v_firstOnly v_firstYear v_years v_place v_before v_closing v_likes v_likeSums v_namings v_products v_weights v_subtotals v_way ++ (wd_Sums k s_a 5184 s_total s_shares s_pairs s_crowds s_bestWay s_bestWeight s_answer s_mine s_theirs s_people s_heads ++ (wd_Sums k q_a 0 q_total q_shares q_pairs q_crowds q_bestWay q_bestWeight q_answer q_mine q_theirs q_people q_heads ++ (wd_Aunt k u_a b0_a s_a u_worth u_dearest u_unit u_wrongly u_guess u_most))))))))))))) hA C me_X1_take hw_603 (c_X1_take l D k b3_a b0_a b3_c0 b3_z0 b3_c1 b3_z1 b3_c2 b3_z2 b3_c3 b3_z3 b3_c4 b3_z4 b3_sg b0_c0 b0_z0 b0_c1 b0_z1 b0_c2 b0_z2 b0_c3 b0_z3 b0_c4 b0_z4 b0_sg u11 e12) dX8_image_25 ⟨Nat.le_of_ble_eq_true rfl, Nat.le_of_ble_eq_true rfl⟩ ⟨Nat.zero_le _, Nat.zero_le _⟩ rfl rfl (Nat.le_of_ble_eq_true rfl) rfl rfl [36, 37, 38, 39, 40, 41, 42, 43, 44, 45, 46, 3, 4, 5, 6, 7, 8, 9, 10, 11, 12, 13] rfl (by decide +kernel) rfl [none, none, none, some 11, some 12, some 13, some 14, some 15, some 16, some 17, some 18, some 19, some 20, some 21, none, none, none, none, none, none, none, none, none, none, none, none, none, none, none, none, none, none, none, none, none, none, some 0, some 1, some 2, some 3, some 4, some 5, some 6, some 7, some 8, some 9, some 10, none, none, none, none, none, none, none, none, none, none, none, none, none, none, none, none, none, none, none, none, none, none, none, none, none, none, none, none, none, none, none, none, none, none, none, none, none, none, none, none, none, none, none, none, none, none, none, none, none, none, none, none, none, none, none, none, none, none, none, none, none] 22 rfl (by decide +kernel) rfl ?_
      clear e12
      refine cx_aload_n C dX8_image_28 0 rfl ?_
      refine cx_get (v := .ref (n_a 1)) (ci := 7) C iX8 dX8_image_29 0 rfl rfl 4 (by decide) hw_294 rfl ?_
      refine cx_iload_n C dX8_image_32 1 rfl ?_
      refine cx_iconst (v := 1) C dX8_image_33 (by decide) ?_
      obtain ⟨g13, hf⟩ := cx_gd_at hf
      obtain ⟨a14, ea14⟩ : ∃ z, z = upd n_kept (cx_ix p1) (vp_nar .boolean 1) := ⟨_, rfl⟩
      have hf := cx_let_at hf ea14
      refine cx_zast (ws' := (wd_NB k n_a f_a t_a u_a v_a w_a b0_a b1_a b2_a b3_a a14 n_refusals n_summed ++ (wd_Box k b0_a b0_c0 b0_z0 b0_c1 b0_z1 b0_c2 b0_z2 b0_c3 b0_z3 b0_c4 b0_z4 b0_sg ++ (wd_Box k b1_a b1_c0 b1_z0 b1_c1 b1_z1 b1_c2 b1_z2 b1_c3 b1_z3 b1_c4 b1_z4 b1_sg ++ (wd_Box k b2_a b2_c0 b2_z0 b2_c1 b2_z1 b2_c2 b2_z2 b2_c3 b2_z3 b2_c4 b2_z4 b2_sg ++ (wd_Box k b3_a u11.2.2.1 u11.2.1 u11.2.2.2.2.1 u11.2.2.2.1 u11.2.2.2.2.2.2.1 u11.2.2.2.2.2.1 u11.2.2.2.2.2.2.2.2.1 u11.2.2.2.2.2.2.2.1 u11.2.2.2.2.2.2.2.2.2.2 u11.2.2.2.2.2.2.2.2.2.1 u11.1 ++ (wd_Text k t_a t_bytes t_length t_start t_end t_item t_numbers ++ (wd_Frac k f_a f_above f_below f_one f_other ++ (wd_Ways k w_a b0_a s_a w_detail w_skipped w_early w_late w_firstOnly w_firstYear w_years w_place w_before w_closing w_likes w_likeSums w_namings w_products w_weights w_subtotals w_way ++ (wd_Ways k v_a b0_a q_a v_detail v_skipped v_early v_late v_firstOnly v_firstYear v_years v_place v_before v_closing v_likes v_likeSums v_namings v_products v_weights v_subtotals v_way ++ (wd_Sums k s_a 5184 s_total s_shares s_pairs s_crowds s_bestWay s_bestWeight s_answer s_mine s_theirs s_people s_heads ++ (wd_Sums k q_a 0 q_total q_shares q_pairs q_crowds q_bestWay q_bestWeight q_answer q_mine q_theirs q_people q_heads ++ (wd_Aunt k u_a b0_a s_a u_worth u_dearest u_unit u_wrongly u_guess u_most))))))))))))) C dX8_image_34 1 rfl (cx_ib_in g13) (by rw [ea14]; rfl) ?_
      clear ea14 g13
      refine cx_iconst (v := 1) C dX8_image_35 (by decide) ?_
      obtain rfl := Option.some.inj hf
      exact cx_iret C hA hQ hr hlk dX8_image_36 rfl rfl
  · have hf := cx_if_t hf c3
    clear c3
    refine cx_aload_n C dX8_image_9 0 rfl ?_
    refine cx_bipush (v := (-2)) C dX8_image_10 (by decide) ?_
    obtain ⟨u15, e16, hf⟩ := cx_bd_at hf
    refine cx_Fvi (q := (RX8, TX8, 12)) (As := [.int ((-2))]) (rest := []) (w1 := (wd_NB k n_a f_a t_a u_a v_a w_a b0_a b1_a b2_a b3_a n_kept u15.2 n_summed ++ (wd_Box k b0_a b0_c0 b0_z0 b0_c1 b0_z1 b0_c2 b0_z2 b0_c3 b0_z3 b0_c4 b0_z4 b0_sg ++ (wd_Box k b1_a b1_c0 b1_z0 b1_c1 b1_z1 b1_c2 b1_z2 b1_c3 b1_z3 b1_c4 b1_z4 b1_sg ++ (wd_Box k b2_a b2_c0 b2_z0 b2_c1 b2_z1 b2_c2 b2_z2 b2_c3 b2_z3 b2_c4 b2_z4 b2_sg ++ (wd_Box k b3_a b3_c0 b3_z0 b3_c1 b3_z1 b3_c2 b3_z2 b3_c3 b3_z3 b3_c4 b3_z4 b3_sg ++ (wd_Text k t_a t_bytes t_length t_start t_end t_item t_numbers ++ (wd_Frac k f_a f_above f_below f_one f_other ++ (wd_Ways k w_a b0_a s_a w_detail w_skipped w_early w_late w_firstOnly w_firstYear w_years w_place w_before w_closing w_likes w_likeSums w_namings w_products w_weights w_subtotals w_way ++ (wd_Ways k v_a b0_a q_a v_detail v_skipped v_early v_late v_firstOnly v_firstYear v_years v_place v_before v_closing v_likes v_likeSums v_namings v_products v_weights v_subtotals v_way ++ (wd_Sums k s_a 5184 s_total s_shares s_pairs s_crowds s_bestWay s_bestWeight s_answer s_mine s_theirs s_people s_heads ++ (wd_Sums k q_a 0 q_total q_shares q_pairs q_crowds q_bestWay q_bestWeight q_answer q_mine q_theirs q_people q_heads ++ (wd_Aunt k u_a b0_a s_a u_worth u_dearest u_unit u_wrongly u_guess u_most))))))))))))) hA C me_X8_refused hw_360 (c_X8_refused l D k n_a b0_a b1_a b2_a b3_a t_a f_a w_a v_a s_a q_a u_a n_kept n_refusals n_summed b0_c0 b0_z0 b0_c1 b0_z1 b0_c2 b0_z2 b0_c3 b0_z3 b0_c4 b0_z4 b0_sg b1_c0 b1_z0 b1_c1 b1_z1 b1_c2 b1_z2 b1_c3 b1_z3 b1_c4 b1_z4 b1_sg b2_c0 b2_z0 b2_c1 b2_z1 b2_c2 b2_z2 b2_c3 b2_z3 b2_c4 b2_z4 b2_sg b3_c0 b3_z0 b3_c1 b3_z1 b3_c2 b3_z2 b3_c3 b3_z3 b3_c4 b3_z4 b3_sg t_bytes t_length t_start t_end t_item t_numbers f_above f_below f_one f_other w_detail w_skipped w_early w_late w_firstOnly w_firstYear w_years w_place w_before w_closing w_likes w_likeSums w_namings w_products w_weights w_subtotals w_way v_detail v_skipped v_early v_late v_firstOnly v_firstYear v_years v_place v_before v_closing v_likes v_likeSums v_namings v_products v_weights v_subtotals v_way s_total s_shares s_pairs s_crowds s_bestWay s_bestWeight s_answer s_mine s_theirs s_people s_heads q_total q_shares q_pairs q_crowds q_bestWay q_bestWeight q_answer q_mine q_theirs q_people q_heads u_worth u_dearest u_unit u_wrongly u_guess u_most ((-2)) u15 e16) dX8_image_12 ⟨Nat.le_of_ble_eq_true rfl, Nat.le_of_ble_eq_true rfl⟩ ⟨Nat.zero_le _, Nat.zero_le _⟩ rfl rfl (Nat.le_of_ble_eq_true rfl) rfl rfl rfl ?_
    clear e16
    obtain rfl := Option.some.inj hf
    exact cx_iret C hA hQ hr hlk dX8_image_15 rfl rfl
theorem dX8_from_0 : decode cX8_from 0 = .ok (.iload_n 1, 1) := by decide +kernel
theorem dX8_from_1 : decode cX8_from 1 = .ok (.iconst 0, 1) := by decide +kernel
theorem dX8_from_2 : decode cX8_from 2 = .ok (.iconst 1, 1) := by decide +kernel
theorem dX8_from_3 : decode cX8_from 3 = .ok (.invokestatic 121, 3) := by decide +kernel
theorem dX8_from_6 : decode cX8_from 6 = .ok (.ifCond .ne 10, 3) := by decide +kernel
theorem dX8_from_9 : decode cX8_from 9 = .ok (.aload_n 0, 1) := by decide +kernel
theorem dX8_from_10 : decode cX8_from 10 = .ok (.bipush (-2), 2) := by decide +kernel
theorem dX8_from_12 : decode cX8_from 12 = .ok (.invokevirtual 125, 3) := by decide +kernel
theorem dX8_from_15 : decode cX8_from 15 = .ok (.ireturn, 1) := by decide +kernel
theorem dX8_from_16 : decode cX8_from 16 = .ok (.aload_n 0, 1) := by decide +kernel
theorem dX8_from_17 : decode cX8_from 17 = .ok (.getfield 25, 3) := by decide +kernel
theorem dX8_from_20 : decode cX8_from 20 = .ok (.iload_n 1, 1) := by decide +kernel
theorem dX8_from_21 : decode cX8_from 21 = .ok (.baload, 1) := by decide +kernel
theorem dX8_from_22 : decode cX8_from 22 = .ok (.ifCond .ne 10, 3) := by decide +kernel
theorem dX8_from_25 : decode cX8_from 25 = .ok (.aload_n 0, 1) := by decide +kernel
theorem dX8_from_26 : decode cX8_from 26 = .ok (.bipush (-3), 2) := by decide +kernel
theorem dX8_from_28 : decode cX8_from 28 = .ok (.invokevirtual 125, 3) := by decide +kernel
theorem dX8_from_31 : decode cX8_from 31 = .ok (.ireturn, 1) := by decide +kernel
theorem dX8_from_32 : decode cX8_from 32 = .ok (.aload_n 0, 1) := by decide +kernel
theorem dX8_from_33 : decode cX8_from 33 = .ok (.getfield 10, 3) := by decide +kernel
theorem dX8_from_36 : decode cX8_from 36 = .ok (.aload_n 0, 1) := by decide +kernel
theorem dX8_from_37 : decode cX8_from 37 = .ok (.iload_n 1, 1) := by decide +kernel
theorem dX8_from_38 : decode cX8_from 38 = .ok (.invokevirtual 297, 3) := by decide +kernel
theorem dX8_from_41 : decode cX8_from 41 = .ok (.invokevirtual 170, 3) := by decide +kernel
theorem dX8_from_44 : decode cX8_from 44 = .ok (.aload_n 0, 1) := by decide +kernel
theorem dX8_from_45 : decode cX8_from 45 = .ok (.iconst (-1), 1) := by decide +kernel
theorem dX8_from_46 : decode cX8_from 46 = .ok (.putfield 75, 3) := by decide +kernel
theorem dX8_from_49 : decode cX8_from 49 = .ok (.iconst 1, 1) := by decide +kernel
theorem dX8_from_50 : decode cX8_from 50 = .ok (.ireturn, 1) := by decide +kernel
theorem me_X8_from : cx_Mv yX8_from cX8_from 2 (some .int) 1 := ⟨⟨⟨by decide +kernel, by decide +kernel, by decide +kernel⟩, hw_1, hw_1005⟩, hw_1003, hw_1004⟩
noncomputable def f_X8_from (n_kept : Nat → Int32) (n_refusals : Nat → Int32) (n_summed : Int32) (b0_c0 : Nat → Int32) (b0_z0 : Int32) (b0_c1 : Nat → Int32) (b0_z1 : Int32) (b0_c2 : Nat → Int32) (b0_z2 : Int32) (b0_c3 : Nat → Int32) (b0_z3 : Int32) (b0_c4 : Nat → Int32) (b0_z4 : Int32) (b0_sg : Int32) (b2_c0 : Nat → Int32) (b2_z0 : Int32) (b2_c1 : Nat → Int32) (b2_z1 : Int32) (b2_c2 : Nat → Int32) (b2_z2 : Int32) (b2_c3 : Nat → Int32) (b2_z3 : Int32) (b2_c4 : Nat → Int32) (b2_z4 : Int32) (b2_sg : Int32) (b3_c0 : Nat → Int32) (b3_z0 : Int32) (b3_c1 : Nat → Int32) (b3_z1 : Int32) (b3_c2 : Nat → Int32) (b3_z2 : Int32) (b3_c3 : Nat → Int32) (b3_z3 : Int32) (b3_c4 : Nat → Int32) (b3_z4 : Int32) (b3_sg : Int32) (p1 : Int32) : Option (Int32 × Int32 × (Nat → Int32) × Int32 × Int32 × (Nat → Int32) × Int32 × (Nat → Int32) × Int32 × (Nat → Int32) × Int32 × (Nat → Int32) × Int32 × (Nat → Int32)) := Option.bind (f_X8_within p1 0 1) (fun u1 => if u1 = 0 then (Option.bind (f_X8_refused n_refusals ((-2))) (fun u15 => some ((u15.1, n_summed, u15.2, b0_sg, b0_z0, b0_c0, b0_z1, b0_c1, b0_z2, b0_c2, b0_z3, b0_c3, b0_z4, b0_c4)))) else (cx_gd (cx_ib p1 2) (if (n_kept (cx_ix p1)) = 0 then (Option.bind (f_X8_refused n_refusals ((-3))) (fun u13 => some ((u13.1, n_summed, u13.2, b0_sg, b0_z0, b0_c0, b0_z1, b0_c1, b0_z2, b0_c2, b0_z3, b0_c3, b0_z4, b0_c4)))) else (Option.bind (f_X8_imageOf p1) (fun u6 => if u6 = 25 then (Option.bind (f_X1_take b0_c0 b0_c1 b0_c2 b0_c3 b0_c4 b2_c0 b2_z0 b2_c1 b2_z1 b2_c2 b2_z2 b2_c3 b2_z3 b2_c4 b2_z4 b2_sg) (fun u9 => some ((1, (-1), n_refusals, u9.1, u9.2.1, u9.2.2.1, u9.2.2.2.1, u9.2.2.2.2.1, u9.2.2.2.2.2.1, u9.2.2.2.2.2.2.1, u9.2.2.2.2.2.2.2.1, u9.2.2.2.2.2.2.2.2.1, u9.2.2.2.2.2.2.2.2.2.1, u9.2.2.2.2.2.2.2.2.2.2)))) else (Option.bind (f_X1_take b0_c0 b0_c1 b0_c2 b0_c3 b0_c4 b3_c0 b3_z0 b3_c1 b3_z1 b3_c2 b3_z2 b3_c3 b3_z3 b3_c4 b3_z4 b3_sg) (fun u11 => some ((1, (-1), n_refusals, u11.1, u11.2.1, u11.2.2.1, u11.2.2.2.1, u11.2.2.2.2.1, u11.2.2.2.2.2.1, u11.2.2.2.2.2.2.1, u11.2.2.2.2.2.2.2.1, u11.2.2.2.2.2.2.2.2.1, u11.2.2.2.2.2.2.2.2.2.1, u11.2.2.2.2.2.2.2.2.2.2)))))))))
set_option maxHeartbeats 4000000 in
set_option maxRecDepth 100000 in
theorem c_X8_from (l : Launch) (D : va_G) (k : Nat → ClassId) (n_a : Nat → Nat) (b0_a : Nat → Nat) (b1_a : Nat → Nat) (b2_a : Nat → Nat) (b3_a : Nat → Nat) (t_a : Nat → Nat) (f_a : Nat → Nat) (w_a : Nat → Nat) (v_a : Nat → Nat) (s_a : Nat → Nat) (q_a : Nat → Nat) (u_a : Nat → Nat) (n_kept : Nat → Int32) (n_refusals : Nat → Int32) (n_summed : Int32) (b0_c0 : Nat → Int32) (b0_z0 : Int32) (b0_c1 : Nat → Int32) (b0_z1 : Int32) (b0_c2 : Nat → Int32) (b0_z2 : Int32) (b0_c3 : Nat → Int32) (b0_z3 : Int32) (b0_c4 : Nat → Int32) (b0_z4 : Int32) (b0_sg : Int32) (b1_c0 : Nat → Int32) (b1_z0 : Int32) (b1_c1 : Nat → Int32) (b1_z1 : Int32) (b1_c2 : Nat → Int32) (b1_z2 : Int32) (b1_c3 : Nat → Int32) (b1_z3 : Int32) (b1_c4 : Nat → Int32) (b1_z4 : Int32) (b1_sg : Int32) (b2_c0 : Nat → Int32) (b2_z0 : Int32) (b2_c1 : Nat → Int32) (b2_z1 : Int32) (b2_c2 : Nat → Int32) (b2_z2 : Int32) (b2_c3 : Nat → Int32) (b2_z3 : Int32) (b2_c4 : Nat → Int32) (b2_z4 : Int32) (b2_sg : Int32) (b3_c0 : Nat → Int32) (b3_z0 : Int32) (b3_c1 : Nat → Int32) (b3_z1 : Int32) (b3_c2 : Nat → Int32) (b3_z2 : Int32) (b3_c3 : Nat → Int32) (b3_z3 : Int32) (b3_c4 : Nat → Int32) (b3_z4 : Int32) (b3_sg : Int32) (t_bytes : Nat → Int32) (t_length : Int32) (t_start : Int32) (t_end : Int32) (t_item : Int32) (t_numbers : Nat → Int32) (f_above : Nat → Int64) (f_below : Nat → Int64) (f_one : Nat → Int64) (f_other : Nat → Int64) (w_detail : Int32) (w_skipped : Int32) (w_early : Int32) (w_late : Int32) (w_firstOnly : Int32) (w_firstYear : Nat → Int32) (w_years : Nat → Int32) (w_place : Nat → Int32) (w_before : Nat → Int32) (w_closing : Nat → Int32) (w_likes : Nat → Int32) (w_likeSums : Nat → Int32) (w_namings : Nat → Int32) (w_products : Nat → Int64) (w_weights : Nat → Int64) (w_subtotals : Nat → Int64) (w_way : Nat → Int32) (v_detail : Int32) (v_skipped : Int32) (v_early : Int32) (v_late : Int32) (v_firstOnly : Int32) (v_firstYear : Nat → Int32) (v_years : Nat → Int32) (v_place : Nat → Int32) (v_before : Nat → Int32) (v_closing : Nat → Int32) (v_likes : Nat → Int32) (v_likeSums : Nat → Int32) (v_namings : Nat → Int32) (v_products : Nat → Int64) (v_weights : Nat → Int64) (v_subtotals : Nat → Int64) (v_way : Nat → Int32) (s_total : Nat → Int64) (s_shares : Nat → Int64) (s_pairs : Nat → Int64) (s_crowds : Nat → Int64) (s_bestWay : Nat → Int32) (s_bestWeight : Nat → Int64) (s_answer : Nat → Int64) (s_mine : Nat → Int64) (s_theirs : Nat → Int64) (s_people : Int32) (s_heads : Int32) (q_total : Nat → Int64) (q_shares : Nat → Int64) (q_pairs : Nat → Int64) (q_crowds : Nat → Int64) (q_bestWay : Nat → Int32) (q_bestWeight : Nat → Int64) (q_answer : Nat → Int64) (q_mine : Nat → Int64) (q_theirs : Nat → Int64) (q_people : Int32) (q_heads : Int32) (u_worth : Nat → Int64) (u_dearest : Nat → Int64) (u_unit : Nat → Int64) (u_wrongly : Nat → Int64) (u_guess : Nat → Int64) (u_most : Nat → Int64) (p1 : Int32) (y : Int32 × Int32 × (Nat → Int32) × Int32 × Int32 × (Nat → Int32) × Int32 × (Nat → Int32) × Int32 × (Nat → Int32) × Int32 × (Nat → Int32) × Int32 × (Nat → Int32)) (hf : f_X8_from n_kept n_refusals n_summed b0_c0 b0_z0 b0_c1 b0_z1 b0_c2 b0_z2 b0_c3 b0_z3 b0_c4 b0_z4 b0_sg b2_c0 b2_z0 b2_c1 b2_z1 b2_c2 b2_z2 b2_c3 b2_z3 b2_c4 b2_z4 b2_sg b3_c0 b3_z0 b3_c1 b3_z1 b3_c2 b3_z2 b3_c3 b3_z3 b3_c4 b3_z4 b3_sg p1 = some y) : cx_M l yX8_from cX8_from 2 (some .int) 3 D k [.ref (n_a 0), .int p1] (wd_NB k n_a f_a t_a u_a v_a w_a b0_a b1_a b2_a b3_a n_kept n_refusals n_summed ++ (wd_Box k b0_a b0_c0 b0_z0 b0_c1 b0_z1 b0_c2 b0_z2 b0_c3 b0_z3 b0_c4 b0_z4 b0_sg ++ (wd_Box k b1_a b1_c0 b1_z0 b1_c1 b1_z1 b1_c2 b1_z2 b1_c3 b1_z3 b1_c4 b1_z4 b1_sg ++ (wd_Box k b2_a b2_c0 b2_z0 b2_c1 b2_z1 b2_c2 b2_z2 b2_c3 b2_z3 b2_c4 b2_z4 b2_sg ++ (wd_Box k b3_a b3_c0 b3_z0 b3_c1 b3_z1 b3_c2 b3_z2 b3_c3 b3_z3 b3_c4 b3_z4 b3_sg ++ (wd_Text k t_a t_bytes t_length t_start t_end t_item t_numbers ++ (wd_Frac k f_a f_above f_below f_one f_other ++ (wd_Ways k w_a b0_a s_a w_detail w_skipped w_early w_late w_firstOnly w_firstYear w_years w_place w_before w_closing w_likes w_likeSums w_namings w_products w_weights w_subtotals w_way ++ (wd_Ways k v_a b0_a q_a v_detail v_skipped v_early v_late v_firstOnly v_firstYear v_years v_place v_before v_closing v_likes v_likeSums v_namings v_products v_weights v_subtotals v_way ++ (wd_Sums k s_a 5184 s_total s_shares s_pairs s_crowds s_bestWay s_bestWeight s_answer s_mine s_theirs s_people s_heads ++ (wd_Sums k q_a 0 q_total q_shares q_pairs q_crowds q_bestWay q_bestWeight q_answer q_mine q_theirs q_people q_heads ++ (wd_Aunt k u_a b0_a s_a u_worth u_dearest u_unit u_wrongly u_guess u_most)))))))))))) (fun sz => cx_Qi D y.1 (wd_NB k n_a f_a t_a u_a v_a w_a b0_a b1_a b2_a b3_a n_kept n_refusals n_summed ++ (wd_Box k b0_a b0_c0 b0_z0 b0_c1 b0_z1 b0_c2 b0_z2 b0_c3 b0_z3 b0_c4 b0_z4 b0_sg ++ (wd_Box k b1_a b1_c0 b1_z0 b1_c1 b1_z1 b1_c2 b1_z2 b1_c3 b1_z3 b1_c4 b1_z4 b1_sg ++ (wd_Box k b2_a b2_c0 b2_z0 b2_c1 b2_z1 b2_c2 b2_z2 b2_c3 b2_z3 b2_c4 b2_z4 b2_sg ++ (wd_Box k b3_a b3_c0 b3_z0 b3_c1 b3_z1 b3_c2 b3_z2 b3_c3 b3_z3 b3_c4 b3_z4 b3_sg ++ (wd_Text k t_a t_bytes t_length t_start t_end t_item t_numbers ++ (wd_Frac k f_a f_above f_below f_one f_other ++ (wd_Ways k w_a b0_a s_a w_detail w_skipped w_early w_late w_firstOnly w_firstYear w_years w_place w_before w_closing w_likes w_likeSums w_namings w_products w_weights w_subtotals w_way ++ (wd_Ways k v_a b0_a q_a v_detail v_skipped v_early v_late v_firstOnly v_firstYear v_years v_place v_before v_closing v_likes v_likeSums v_namings v_products v_weights v_subtotals v_way ++ (wd_Sums k s_a 5184 s_total s_shares s_pairs s_crowds s_bestWay s_bestWeight s_answer s_mine s_theirs s_people s_heads ++ (wd_Sums k q_a 0 q_total q_shares q_pairs q_crowds q_bestWay q_bestWeight q_answer q_mine q_theirs q_people q_heads ++ (wd_Aunt k u_a b0_a s_a u_worth u_dearest u_unit u_wrongly u_guess u_most)))))))))))) (wd_NB k n_a f_a t_a u_a v_a w_a b0_a b1_a b2_a b3_a n_kept y.2.2.1 y.2.1 ++ (wd_Box k b0_a y.2.2.2.2.2.1 y.2.2.2.2.1 y.2.2.2.2.2.2.2.1 y.2.2.2.2.2.2.1 y.2.2.2.2.2.2.2.2.2.1 y.2.2.2.2.2.2.2.2.1 y.2.2.2.2.2.2.2.2.2.2.2.1 y.2.2.2.2.2.2.2.2.2.2.1 y.2.2.2.2.2.2.2.2.2.2.2.2.2 y.2.2.2.2.2.2.2.2.2.2.2.2.1 y.2.2.2.1 ++ (wd_Box k b1_a b1_c0 b1_z0 b1_c1 b1_z1 b1_c2 b1_z2 b1_c3 b1_z3 b1_c4 b1_z4 b1_sg ++ (wd_Box k b2_a b2_c0 b2_z0 b2_c1 b2_z1 b2_c2 b2_z2 b2_c3 b2_z3 b2_c4 b2_z4 b2_sg ++ (wd_Box k b3_a b3_c0 b3_z0 b3_c1 b3_z1 b3_c2 b3_z2 b3_c3 b3_z3 b3_c4 b3_z4 b3_sg ++ (wd_Text k t_a t_bytes t_length t_start t_end t_item t_numbers ++ (wd_Frac k f_a f_above f_below f_one f_other ++ (wd_Ways k w_a b0_a s_a w_detail w_skipped w_early w_late w_firstOnly w_firstYear w_years w_place w_before w_closing w_likes w_likeSums w_namings w_products w_weights w_subtotals w_way ++ (wd_Ways k v_a b0_a q_a v_detail v_skipped v_early v_late v_firstOnly v_firstYear v_years v_place v_before v_closing v_likes v_likeSums v_namings v_products v_weights v_subtotals v_way ++ (wd_Sums k s_a 5184 s_total s_shares s_pairs s_crowds s_bestWay s_bestWeight s_answer s_mine s_theirs s_people s_heads ++ (wd_Sums k q_a 0 q_total q_shares q_pairs q_crowds q_bestWay q_bestWeight q_answer q_mine q_theirs q_people q_heads ++ (wd_Aunt k u_a b0_a s_a u_worth u_dearest u_unit u_wrongly u_guess u_most)))))))))))) sz) := by
  refine cx_met (own := "NamelessBox") (by decide) rfl (Nat.le_of_ble_eq_true rfl) ?_
  intro p e s m args below meth c A Q C hA hQ hr hlk
  refine cx_lv (lv' := [(0, .ref (n_a 0)), (1, .int p1)]) [0, 1] rfl ?_
  unfold f_X8_from at hf
  refine cx_iload_n C dX8_from_0 1 rfl ?_
  refine cx_iconst (v := 0) C dX8_from_1 (by decide) ?_
  refine cx_iconst (v := 1) C dX8_from_2 (by decide) ?_
  obtain ⟨u1, e2, hf⟩ := cx_bd_at hf
  refine cx_Ksi (As := [.int p1, .int 0, .int 1]) (rest := []) hA C me_X8_within hw_434 (c_X8_within l D k p1 0 1 u1 e2) dX8_from_3 ⟨Nat.le_of_ble_eq_true rfl, Nat.le_of_ble_eq_true rfl⟩ ⟨Nat.zero_le _, Nat.zero_le _⟩ rfl rfl (Nat.le_of_ble_eq_true rfl) [] rfl (by decide) ?_
  clear e2
  refine cx_if_ne (tgt := 16) C dX8_from_6 (by decide) (fun c3 => ?_) (fun c3 => ?_)
  · have hf := cx_if_f hf c3
    clear c3
    refine cx_aload_n C dX8_from_16 0 rfl ?_
    refine cx_get (v := .ref (n_a 1)) (ci := 7) C iX8 dX8_from_17 0 rfl rfl 4 (by decide) hw_294 rfl ?_
    refine cx_iload_n C dX8_from_20 1 rfl ?_
    obtain ⟨g4, hf⟩ := cx_gd_at hf
    refine cx_zald C dX8_from_21 1 rfl (cx_ib_in g4) ?_
    clear g4
    refine cx_if_ne (tgt := 32) C dX8_from_22 (by decide) (fun c5 => ?_) (fun c5 => ?_)
    · have hf := cx_if_f hf c5
      clear c5
      refine cx_aload_n C dX8_from_32 0 rfl ?_
      refine cx_get (v := .ref (b0_a 0)) (ci := 7) C iX8 dX8_from_33 0 rfl rfl 0 (by decide) hw_290 rfl ?_
      refine cx_aload_n C dX8_from_36 0 rfl ?_
      refine cx_iload_n C dX8_from_37 1 rfl ?_
      obtain ⟨u6, e7, hf⟩ := cx_bd_at hf
      refine cx_Fvr (q := (RX8, TX8, 12)) (As := [.int p1]) (rest := [.ref (b0_a 0)]) (w1 := (wd_NB k n_a f_a t_a u_a v_a w_a b0_a b1_a b2_a b3_a n_kept n_refusals n_summed ++ (wd_Box k b0_a b0_c0 b0_z0 b0_c1 b0_z1 b0_c2 b0_z2 b0_c3 b0_z3 b0_c4 b0_z4 b0_sg ++ (wd_Box k b1_a b1_c0 b1_z0 b1_c1 b1_z1 b1_c2 b1_z2 b1_c3 b1_z3 b1_c4 b1_z4 b1_sg ++ (wd_Box k b2_a b2_c0 b2_z0 b2_c1 b2_z1 b2_c2 b2_z2 b2_c3 b2_z3 b2_c4 b2_z4 b2_sg ++ (wd_Box k b3_a b3_c0 b3_z0 b3_c1 b3_z1 b3_c2 b3_z2 b3_c3 b3_z3 b3_c4 b3_z4 b3_sg ++ (wd_Text k t_a t_bytes t_length t_start t_end t_item t_numbers ++ (wd_Frac k f_a f_above f_below f_one f_other ++ (wd_Ways k w_a b0_a s_a w_detail w_skipped w_early w_late w_firstOnly w_firstYear w_years w_place w_before w_closing w_likes w_likeSums w_namings w_products w_weights w_subtotals w_way ++ (wd_Ways k v_a b0_a q_a v_detail v_skipped v_early v_late v_firstOnly v_firstYear v_years v_place v_before v_closing v_likes v_likeSums v_namings v_products v_weights v_subtotals v_way ++ (wd_Sums k s_a 5184 s_total s_shares s_pairs s_crowds s_bestWay s_bestWeight s_answer s_mine s_theirs s_people s_heads ++ (wd_Sums k q_a 0 q_total q_shares q_pairs q_crowds q_bestWay q_bestWeight q_answer q_mine q_theirs q_people q_heads ++ (wd_Aunt k u_a b0_a s_a u_worth u_dearest u_unit u_wrongly u_guess u_most))))))))))))) hA C me_X8_imageOf hw_998 (c_X8_imageOf l D k n_a b0_a b1_a b2_a b3_a t_a f_a w_a v_a s_a q_a u_a n_kept n_refusals n_summed b0_c0 b0_z0 b0_c1 b0_z1 b0_c2 b0_z2 b0_c3 b0_z3 b0_c4 b0_z4 b0_sg b1_c0 b1_z0 b1_c1 b1_z1 b1_c2 b1_z2 b1_c3 b1_z3 b1_c4 b1_z4 b1_sg b2_c0 b2_z0 b2_c1 b2_z1 b2_c2 b2_z2 b2_c3 b2_z3 b2_c4 b2_z4 b2_sg b3_c0 b3_z0 b3_c1 b3_z1 b3_c2 b3_z2 b3_c3 b3_z3 b3_c4 b3_z4 b3_sg t_bytes t_length t_start t_end t_item t_numbers f_above f_below f_one f_other w_detail w_skipped w_early w_late w_firstOnly w_firstYear w_years w_place w_before w_closing w_likes w_likeSums w_namings w_products w_weights w_subtotals w_way v_detail v_skipped v_early v_late v_firstOnly v_firstYear v_years v_place v_before v_closing v_likes v_likeSums v_namings v_products v_weights v_subtotals v_way s_total s_shares s_pairs s_crowds s_bestWay s_bestWeight s_answer s_mine s_theirs s_people s_heads q_total q_shares q_pairs q_crowds q_bestWay q_bestWeight q_answer q_mine q_theirs q_people q_heads u_worth u_dearest u_unit u_wrongly u_guess u_most p1 u6 e7) dX8_from_38 ⟨Nat.le_of_ble_eq_true rfl, Nat.le_of_ble_eq_true rfl⟩ ⟨Nat.zero_le _, Nat.zero_le _⟩ rfl rfl (Nat.le_of_ble_eq_true rfl) rfl rfl rfl ?_
      clear e7
      by_cases c8 : u6 = 25
      · have hf := cx_if_t hf c8
        rw [if_pos c8]
        obtain ⟨u9, e10, hf⟩ := cx_bd_at hf
        refine cx_Gvv (q := (RX1, TX1, 6)) (As := [.ref (b2_a 0)]) (rest := []) (ws' := (wd_NB k n_a f_a t_a u_a v_a w_a b0_a b1_a b2_a b3_a n_kept n_refusals n_summed ++ (wd_Box k b0_a u9.2.2.1 u9.2.1 u9.2.2.2.2.1 u9.2.2.2.1 u9.2.2.2.2.2.2.1 u9.2.2.2.2.2.1 u9.2.2.2.2.2.2.2.2.1 u9.2.2.2.2.2.2.2.1 u9.2.2.2.2.2.2.2.2.2.2 u9.2.2.2.2.2.2.2.2.2.1 u9.1 ++ (wd_Box k b1_a b1_c0 b1_z0 b1_c1 b1_z1 b1_c2 b1_z2 b1_c3 b1_z3 b1_c4 b1_z4 b1_sg ++ (wd_Box k b2_a b2_c0 b2_z0 b2_c1 b2_z1 b2_c2 b2_z2 b2_c3 b2_z3 b2_c4 b2_z4 b2_sg ++ (wd_Box k b3_a b3_c0 b3_z0 b3_c1 b3_z1 b3_c2 b3_z2 b3_c3 b3_z3 b3_c4 b3_z4 b3_sg ++ (wd_Text k t_a t_bytes t_length t_start t_end t_item t_numbers ++ (wd_Frac k f_a f_above f_below f_one f_other ++ (wd_Ways k w_a b0_a s_a w_detail w_skipped w_early w_late w_firstOnly w_firstYear w_years w_place w_before w_closing w_likes w_likeSums w_namings w_products w_weights w_subtotals w_way ++ (wd_Ways k v_a b0_a q_a v_detail v_skipped v_early v_late v_firstOnly v_firstYear v_years v_place v_before v_closing v_likes v_likeSums v_namings v_products v_weights v_subtotals v_way ++ (wd_Sums k s_a 5184 s_total s_shares s_pairs s_crowds s_bestWay s_bestWeight s_answer s_mine s_theirs s_people s_heads ++ (wd_Sums k q_a 0 q_total q_shares q_pairs q_crowds q_bestWay q_bestWeight q_answer q_mine q_theirs q_people q_heads ++ (wd_Aunt k u_a b0_a s_a u_worth u_dearest u_unit u_wrongly u_guess u_most))))))))))))) hA C me_X1_take hw_603 (c_X1_take l D k b0_a b2_a b0_c0 b0_z0 b0_c1 b0_z1 b0_c2 b0_z2 b0_c3 b0_z3 b0_c4 b0_z4 b0_sg b2_c0 b2_z0 b2_c1 b2_z1 b2_c2 b2_z2 b2_c3 b2_z3 b2_c4 b2_z4 b2_sg u9 e10) dX8_from_41 ⟨Nat.le_of_ble_eq_true rfl, Nat.le_of_ble_eq_true rfl⟩ ⟨Nat.zero_le _, Nat.zero_le _⟩ rfl rfl (Nat.le_of_ble_eq_true rfl) rfl rfl [3, 4, 5, 6, 7, 8, 9, 10, 11, 12, 13, 25, 26, 27, 28, 29, 30, 31, 32, 33, 34, 35] rfl (by decide +kernel) rfl [none, none, none, some 0, some 1, some 2, some 3, some 4, some 5, some 6, some 7, some 8, some 9, some 10, none, none, none, none, none, none, none, none, none, none, none, some 11, some 12, some 13, some 14, some 15, some 16, some 17, some 18, some 19, some 20, some 21, none, none, none, none, none, none, none, none, none, none, none, none, none, none, none, none, none, none, none, none, none, none, none, none, none, none, none, none, none, none, none, none, none, none, none, none, none, none, none, none, none, none, none, none, none, none, none, none, none, none, none, none, none, none, none, none, none, none, none, none, none, none, none, none, none, none, none, none, none, none, none, none] 22 rfl (by decide +kernel) rfl ?_
        clear e10
        refine cx_aload_n C dX8_from_44 0 rfl ?_
        refine cx_iconst (v := (-1)) C dX8_from_45 (by decide) ?_
        refine cx_putf (v := .int ((-1))) (ty := .int) (ci := 7) (ws' := (wd_NB k n_a f_a t_a u_a v_a w_a b0_a b1_a b2_a b3_a n_kept n_refusals ((-1)) ++ (wd_Box k b0_a u9.2.2.1 u9.2.1 u9.2.2.2.2.1 u9.2.2.2.1 u9.2.2.2.2.2.2.1 u9.2.2.2.2.2.1 u9.2.2.2.2.2.2.2.2.1 u9.2.2.2.2.2.2.2.1 u9.2.2.2.2.2.2.2.2.2.2 u9.2.2.2.2.2.2.2.2.2.1 u9.1 ++ (wd_Box k b1_a b1_c0 b1_z0 b1_c1 b1_z1 b1_c2 b1_z2 b1_c3 b1_z3 b1_c4 b1_z4 b1_sg ++ (wd_Box k b2_a b2_c0 b2_z0 b2_c1 b2_z1 b2_c2 b2_z2 b2_c3 b2_z3 b2_c4 b2_z4 b2_sg ++ (wd_Box k b3_a b3_c0 b3_z0 b3_c1 b3_z1 b3_c2 b3_z2 b3_c3 b3_z3 b3_c4 b3_z4 b3_sg ++ (wd_Text k t_a t_bytes t_length t_start t_end t_item t_numbers ++ (wd_Frac k f_a f_above f_below f_one f_other ++ (wd_Ways k w_a b0_a s_a w_detail w_skipped w_early w_late w_firstOnly w_firstYear w_years w_place w_before w_closing w_likes w_likeSums w_namings w_products w_weights w_subtotals w_way ++ (wd_Ways k v_a b0_a q_a v_detail v_skipped v_early v_late v_firstOnly v_firstYear v_years v_place v_before v_closing v_likes v_likeSums v_namings v_products v_weights v_subtotals v_way ++ (wd_Sums k s_a 5184 s_total s_shares s_pairs s_crowds s_bestWay s_bestWeight s_answer s_mine s_theirs s_people s_heads ++ (wd_Sums k q_a 0 q_total q_shares q_pairs q_crowds q_bestWay q_bestWeight q_answer q_mine q_theirs q_people q_heads ++ (wd_Aunt k u_a b0_a s_a u_worth u_dearest u_unit u_wrongly u_guess u_most))))))))))))) C iX8 tyX8 tyX8_ok nmX8 dX8_from_46 0 rfl rfl 11 (by decide) hw_301 rfl (by decide +kernel) rfl rfl (Nat.le_of_ble_eq_true rfl) rfl ?_
        refine cx_iconst (v := 1) C dX8_from_49 (by decide) ?_
        obtain rfl := Option.some.inj hf
        exact cx_iret C hA hQ hr hlk dX8_from_50 rfl rfl
      · have hf := cx_if_f hf c8
        rw [if_neg c8]
        obtain ⟨u11, e12, hf⟩ := cx_bd_at hf
        refine cx_Gvv (q := (RX1, TX1, 6)) (As := [.ref (b3_a 0)]) (rest := []) (ws' := (wd_NB k n_a f_a t_a u_a v_a w_a b0_a b1_a b2_a b3_a n_kept n_refusals n_summed ++ (wd_Box k b0_a u11.2.2.1 u11.2.1 u11.2.2.2.2.1 u11.2.2.2.1 u11.2.2.2.2.2.2.1 u11.2.2.2.2.2.1 u11.2.2.2.2.2.2.2.2.1 u11.2.2.2.2.2.2.2.1 u11.2.2.2.2.2.2.2.2.2.2 u11.2.2.2.2.2.2.2.2.2.1 u11.1 ++ (wd_Box k b1_a b1_c0 b1_z0 b1_c1 b1_z1 b1_c2 b1_z2 b1_c3 b1_z3 b1_c4 b1_z4 b1_sg ++ (wd_Box k b2_a b2_c0 b2_z0 b2_c1 b2_z1 b2_c2 b2_z2 b2_c3 b2_z3 b2_c4 b2_z4 b2_sg ++ (wd_Box k b3_a b3_c0 b3_z0 b3_c1 b3_z1 b3_c2 b3_z2 b3_c3 b3_z3 b3_c4 b3_z4 b3_sg ++ (wd_Text k t_a t_bytes t_length t_start t_end t_item t_numbers ++ (wd_Frac k f_a f_above f_below f_one f_other ++ (wd_Ways k w_a b0_a s_a w_detail w_skipped w_early w_late w_firstOnly w_firstYear w_years w_place w_before w_closing w_likes w_likeSums w_namings w_products w_weights w_subtotals w_way ++ (wd_Ways k v_a b0_a q_a v_detail v_skipped v_early v_late v_firstOnly v_firstYear v_years v_place v_before v_closing v_likes v_likeSums v_namings v_products v_weights v_subtotals v_way ++ (wd_Sums k s_a 5184 s_total s_shares s_pairs s_crowds s_bestWay s_bestWeight s_answer s_mine s_theirs s_people s_heads ++ (wd_Sums k q_a 0 q_total q_shares q_pairs q_crowds q_bestWay q_bestWeight q_answer q_mine q_theirs q_people q_heads ++ (wd_Aunt k u_a b0_a s_a u_worth u_dearest u_unit u_wrongly u_guess u_most))))))))))))) hA C me_X1_take hw_603 (c_X1_take l D k b0_a b3_a b0_c0 b0_z0 b0_c1 b0_z1 b0_c2 b0_z2 b0_c3 b0_z3 b0_c4 b0_z4 b0_sg b3_c0 b3_z0 b3_c1 b3_z1 b3_c2 b3_z2 b3_c3 b3_z3 b3_c4 b3_z4 b3_sg u11 e12) dX8_from_41 ⟨Nat.le_of_ble_eq_true rfl, Nat.le_of_ble_eq_true rfl⟩ ⟨Nat.zero_le _, Nat.zero_le _⟩ rfl rfl (Nat.le_of_ble_eq_true rfl) rfl rfl [3, 4, 5, 6, 7, 8, 9, 10, 11, 12, 13, 36, 37, 38, 39, 40, 41, 42, 43, 44, 45, 46] rfl (by decide +kernel) rfl [none, none, none, some 0, some 1, some 2, some 3, some 4, some 5, some 6, some 7, some 8, some 9, some 10, none, none, none, none, none, none, none, none, none, none, none, none, none, none, none, none, none, none, none, none, none, none, some 11, some 12, some 13, some 14, some 15, some 16, some 17, some 18, some 19, some 20, some 21, none, none, none, none, none, none, none, none, none, none, none, none, none, none, none, none, none, none, none, none, none, none, none, none, none, none, none, none, none, none, none, none, none, none, none, none, none, none, none, none, none, none, none, none, none, none, none, none, none, none, none, none, none, none, none, none, none, none, none, none, none] 22 rfl (by decide +kernel) rfl ?_
        clear e12
        refine cx_aload_n C dX8_from_44 0 rfl ?_
        refine cx_iconst (v := (-1)) C dX8_from_45 (by decide) ?_
        refine cx_putf (v := .int ((-1))) (ty := .int) (ci := 7) (ws' := (wd_NB k n_a f_a t_a u_a v_a w_a b0_a b1_a b2_a b3_a n_kept n_refusals ((-1)) ++ (wd_Box k b0_a u11.2.2.1 u11.2.1 u11.2.2.2.2.1 u11.2.2.2.1 u11.2.2.2.2.2.2.1 u11.2.2.2.2.2.1 u11.2.2.2.2.2.2.2.2.1 u11.2.2.2.2.2.2.2.1 u11.2.2.2.2.2.2.2.2.2.2 u11.2.2.2.2.2.2.2.2.2.1 u11.1 ++ (wd_Box k b1_a b1_c0 b1_z0 b1_c1 b1_z1 b1_c2 b1_z2 b1_c3 b1_z3 b1_c4 b1_z4 b1_sg ++ (wd_Box k b2_a b2_c0 b2_z0 b2_c1 b2_z1 b2_c2 b2_z2 b2_c3 b2_z3 b2_c4 b2_z4 b2_sg ++ (wd_Box k b3_a b3_c0 b3_z0 b3_c1 b3_z1 b3_c2 b3_z2 b3_c3 b3_z3 b3_c4 b3_z4 b3_sg ++ (wd_Text k t_a t_bytes t_length t_start t_end t_item t_numbers ++ (wd_Frac k f_a f_above f_below f_one f_other ++ (wd_Ways k w_a b0_a s_a w_detail w_skipped w_early w_late w_firstOnly w_firstYear w_years w_place w_before w_closing w_likes w_likeSums w_namings w_products w_weights w_subtotals w_way ++ (wd_Ways k v_a b0_a q_a v_detail v_skipped v_early v_late v_firstOnly v_firstYear v_years v_place v_before v_closing v_likes v_likeSums v_namings v_products v_weights v_subtotals v_way ++ (wd_Sums k s_a 5184 s_total s_shares s_pairs s_crowds s_bestWay s_bestWeight s_answer s_mine s_theirs s_people s_heads ++ (wd_Sums k q_a 0 q_total q_shares q_pairs q_crowds q_bestWay q_bestWeight q_answer q_mine q_theirs q_people q_heads ++ (wd_Aunt k u_a b0_a s_a u_worth u_dearest u_unit u_wrongly u_guess u_most))))))))))))) C iX8 tyX8 tyX8_ok nmX8 dX8_from_46 0 rfl rfl 11 (by decide) hw_301 rfl (by decide +kernel) rfl rfl (Nat.le_of_ble_eq_true rfl) rfl ?_
        refine cx_iconst (v := 1) C dX8_from_49 (by decide) ?_
        obtain rfl := Option.some.inj hf
        exact cx_iret C hA hQ hr hlk dX8_from_50 rfl rfl
    · have hf := cx_if_t hf c5
      clear c5
      refine cx_aload_n C dX8_from_25 0 rfl ?_
      refine cx_bipush (v := (-3)) C dX8_from_26 (by decide) ?_
      obtain ⟨u13, e14, hf⟩ := cx_bd_at hf
      refine cx_Fvi (q := (RX8, TX8, 12)) (As := [.int ((-3))]) (rest := []) (w1 := (wd_NB k n_a f_a t_a u_a v_a w_a b0_a b1_a b2_a b3_a n_kept u13.2 n_summed ++ (wd_Box k b0_a b0_c0 b0_z0 b0_c1 b0_z1 b0_c2 b0_z2 b0_c3 b0_z3 b0_c4 b0_z4 b0_sg ++ (wd_Box k b1_a b1_c0 b1_z0 b1_c1 b1_z1 b1_c2 b1_z2 b1_c3 b1_z3 b1_c4 b1_z4 b1_sg ++ (wd_Box k b2_a b2_c0 b2_z0 b2_c1 b2_z1 b2_c2 b2_z2 b2_c3 b2_z3 b2_c4 b2_z4 b2_sg ++ (wd_Box k b3_a b3_c0 b3_z0 b3_c1 b3_z1 b3_c2 b3_z2 b3_c3 b3_z3 b3_c4 b3_z4 b3_sg ++ (wd_Text k t_a t_bytes t_length t_start t_end t_item t_numbers ++ (wd_Frac k f_a f_above f_below f_one f_other ++ (wd_Ways k w_a b0_a s_a w_detail w_skipped w_early w_late w_firstOnly w_firstYear w_years w_place w_before w_closing w_likes w_likeSums w_namings w_products w_weights w_subtotals w_way ++ (wd_Ways k v_a b0_a q_a v_detail v_skipped v_early v_late v_firstOnly v_firstYear v_years v_place v_before v_closing v_likes v_likeSums v_namings v_products v_weights v_subtotals v_way ++ (wd_Sums k s_a 5184 s_total s_shares s_pairs s_crowds s_bestWay s_bestWeight s_answer s_mine s_theirs s_people s_heads ++ (wd_Sums k q_a 0 q_total q_shares q_pairs q_crowds q_bestWay q_bestWeight q_answer q_mine q_theirs q_people q_heads ++ (wd_Aunt k u_a b0_a s_a u_worth u_dearest u_unit u_wrongly u_guess u_most))))))))))))) hA C me_X8_refused hw_360 (c_X8_refused l D k n_a b0_a b1_a b2_a b3_a t_a f_a w_a v_a s_a q_a u_a n_kept n_refusals n_summed b0_c0 b0_z0 b0_c1 b0_z1 b0_c2 b0_z2 b0_c3 b0_z3 b0_c4 b0_z4 b0_sg b1_c0 b1_z0 b1_c1 b1_z1 b1_c2 b1_z2 b1_c3 b1_z3 b1_c4 b1_z4 b1_sg b2_c0 b2_z0 b2_c1 b2_z1 b2_c2 b2_z2 b2_c3 b2_z3 b2_c4 b2_z4 b2_sg b3_c0 b3_z0 b3_c1 b3_z1 b3_c2 b3_z2 b3_c3 b3_z3 b3_c4 b3_z4 b3_sg t_bytes t_length t_start t_end t_item t_numbers f_above f_below f_one f_other w_detail w_skipped w_early w_late w_firstOnly w_firstYear w_years w_place w_before w_closing w_likes w_likeSums w_namings w_products w_weights w_subtotals w_way v_detail v_skipped v_early v_late v_firstOnly v_firstYear v_years v_place v_before v_closing v_likes v_likeSums v_namings v_products v_weights v_subtotals v_way s_total s_shares s_pairs s_crowds s_bestWay s_bestWeight s_answer s_mine s_theirs s_people s_heads q_total q_shares q_pairs q_crowds q_bestWay q_bestWeight q_answer q_mine q_theirs q_people q_heads u_worth u_dearest u_unit u_wrongly u_guess u_most ((-3)) u13 e14) dX8_from_28 ⟨Nat.le_of_ble_eq_true rfl, Nat.le_of_ble_eq_true rfl⟩ ⟨Nat.zero_le _, Nat.zero_le _⟩ rfl rfl (Nat.le_of_ble_eq_true rfl) rfl rfl rfl ?_
      clear e14
      obtain rfl := Option.some.inj hf
      exact cx_iret C hA hQ hr hlk dX8_from_31 rfl rfl
  · have hf := cx_if_t hf c3
    clear c3
    refine cx_aload_n C dX8_from_9 0 rfl ?_
    refine cx_bipush (v := (-2)) C dX8_from_10 (by decide) ?_
    obtain ⟨u15, e16, hf⟩ := cx_bd_at hf
    refine cx_Fvi (q := (RX8, TX8, 12)) (As := [.int ((-2))]) (rest := []) (w1 := (wd_NB k n_a f_a t_a u_a v_a w_a b0_a b1_a b2_a b3_a n_kept u15.2 n_summed ++ (wd_Box k b0_a b0_c0 b0_z0 b0_c1 b0_z1 b0_c2 b0_z2 b0_c3 b0_z3 b0_c4 b0_z4 b0_sg ++ (wd_Box k b1_a b1_c0 b1_z0 b1_c1 b1_z1 b1_c2 b1_z2 b1_c3 b1_z3 b1_c4 b1_z4 b1_sg ++ (wd_Box k b2_a b2_c0 b2_z0 b2_c1 b2_z1 b2_c2 b2_z2 b2_c3 b2_z3 b2_c4 b2_z4 b2_sg ++ (wd_Box k b3_a b3_c0 b3_z0 b3_c1 b3_z1 b3_c2 b3_z2 b3_c3 b3_z3 b3_c4 b3_z4 b3_sg ++ (wd_Text k t_a t_bytes t_length t_start t_end t_item t_numbers ++ (wd_Frac k f_a f_above f_below f_one f_other ++ (wd_Ways k w_a b0_a s_a w_detail w_skipped w_early w_late w_firstOnly w_firstYear w_years w_place w_before w_closing w_likes w_likeSums w_namings w_products w_weights w_subtotals w_way ++ (wd_Ways k v_a b0_a q_a v_detail v_skipped v_early v_late v_firstOnly v_firstYear v_years v_place v_before v_closing v_likes v_likeSums v_namings v_products v_weights v_subtotals v_way ++ (wd_Sums k s_a 5184 s_total s_shares s_pairs s_crowds s_bestWay s_bestWeight s_answer s_mine s_theirs s_people s_heads ++ (wd_Sums k q_a 0 q_total q_shares q_pairs q_crowds q_bestWay q_bestWeight q_answer q_mine q_theirs q_people q_heads ++ (wd_Aunt k u_a b0_a s_a u_worth u_dearest u_unit u_wrongly u_guess u_most))))))))))))) hA C me_X8_refused hw_360 (c_X8_refused l D k n_a b0_a b1_a b2_a b3_a t_a f_a w_a v_a s_a q_a u_a n_kept n_refusals n_summed b0_c0 b0_z0 b0_c1 b0_z1 b0_c2 b0_z2 b0_c3 b0_z3 b0_c4 b0_z4 b0_sg b1_c0 b1_z0 b1_c1 b1_z1 b1_c2 b1_z2 b1_c3 b1_z3 b1_c4 b1_z4 b1_sg b2_c0 b2_z0 b2_c1 b2_z1 b2_c2 b2_z2 b2_c3 b2_z3 b2_c4 b2_z4 b2_sg b3_c0 b3_z0 b3_c1 b3_z1 b3_c2 b3_z2 b3_c3 b3_z3 b3_c4 b3_z4 b3_sg t_bytes t_length t_start t_end t_item t_numbers f_above f_below f_one f_other w_detail w_skipped w_early w_late w_firstOnly w_firstYear w_years w_place w_before w_closing w_likes w_likeSums w_namings w_products w_weights w_subtotals w_way v_detail v_skipped v_early v_late v_firstOnly v_firstYear v_years v_place v_before v_closing v_likes v_likeSums v_namings v_products v_weights v_subtotals v_way s_total s_shares s_pairs s_crowds s_bestWay s_bestWeight s_answer s_mine s_theirs s_people s_heads q_total q_shares q_pairs q_crowds q_bestWay q_bestWeight q_answer q_mine q_theirs q_people q_heads u_worth u_dearest u_unit u_wrongly u_guess u_most ((-2)) u15 e16) dX8_from_12 ⟨Nat.le_of_ble_eq_true rfl, Nat.le_of_ble_eq_true rfl⟩ ⟨Nat.zero_le _, Nat.zero_le _⟩ rfl rfl (Nat.le_of_ble_eq_true rfl) rfl rfl rfl ?_
    clear e16
    obtain rfl := Option.some.inj hf
    exact cx_iret C hA hQ hr hlk dX8_from_15 rfl rfl
theorem dX8_digest_0 : decode cX8_digest 0 = .ok (.ldc2_w 304, 3) := by decide +kernel
theorem dX8_digest_3 : decode cX8_digest 3 = .ok (.lstore_n 1, 1) := by decide +kernel
theorem dX8_digest_4 : decode cX8_digest 4 = .ok (.iconst 0, 1) := by decide +kernel
theorem dX8_digest_5 : decode cX8_digest 5 = .ok (.istore_n 3, 1) := by decide +kernel
theorem dX8_digest_6 : decode cX8_digest 6 = .ok (.iload_n 3, 1) := by decide +kernel
theorem dX8_digest_7 : decode cX8_digest 7 = .ok (.iconst 5, 1) := by decide +kernel
theorem dX8_digest_8 : decode cX8_digest 8 = .ok (.if_icmp .gt 22, 3) := by decide +kernel
theorem dX8_digest_11 : decode cX8_digest 11 = .ok (.ldc2_w 306, 3) := by decide +kernel
theorem dX8_digest_14 : decode cX8_digest 14 = .ok (.lload_n 1, 1) := by decide +kernel
theorem dX8_digest_15 : decode cX8_digest 15 = .ok (.lmul, 1) := by decide +kernel
theorem dX8_digest_16 : decode cX8_digest 16 = .ok (.aload_n 0, 1) := by decide +kernel
theorem dX8_digest_17 : decode cX8_digest 17 = .ok (.iload_n 3, 1) := by decide +kernel
theorem dX8_digest_18 : decode cX8_digest 18 = .ok (.invokevirtual 301, 3) := by decide +kernel
theorem dX8_digest_21 : decode cX8_digest 21 = .ok (.i2l, 1) := by decide +kernel
theorem dX8_digest_22 : decode cX8_digest 22 = .ok (.ladd, 1) := by decide +kernel
theorem dX8_digest_23 : decode cX8_digest 23 = .ok (.lstore_n 1, 1) := by decide +kernel
theorem dX8_digest_24 : decode cX8_digest 24 = .ok (.iinc 3 1, 3) := by decide +kernel
theorem dX8_digest_27 : decode cX8_digest 27 = .ok (.goto (-21), 3) := by decide +kernel
theorem dX8_digest_30 : decode cX8_digest 30 = .ok (.aload_n 0, 1) := by decide +kernel
theorem dX8_digest_31 : decode cX8_digest 31 = .ok (.getfield 10, 3) := by decide +kernel
theorem dX8_digest_34 : decode cX8_digest 34 = .ok (.lload_n 1, 1) := by decide +kernel
theorem dX8_digest_35 : decode cX8_digest 35 = .ok (.invokevirtual 308, 3) := by decide +kernel
theorem dX8_digest_38 : decode cX8_digest 38 = .ok (.lstore_n 1, 1) := by decide +kernel
theorem dX8_digest_39 : decode cX8_digest 39 = .ok (.ldc2_w 306, 3) := by decide +kernel
theorem dX8_digest_42 : decode cX8_digest 42 = .ok (.lload_n 1, 1) := by decide +kernel
theorem dX8_digest_43 : decode cX8_digest 43 = .ok (.lmul, 1) := by decide +kernel
theorem dX8_digest_44 : decode cX8_digest 44 = .ok (.aload_n 0, 1) := by decide +kernel
theorem dX8_digest_45 : decode cX8_digest 45 = .ok (.getfield 39, 3) := by decide +kernel
theorem dX8_digest_48 : decode cX8_digest 48 = .ok (.invokevirtual 283, 3) := by decide +kernel
theorem dX8_digest_51 : decode cX8_digest 51 = .ok (.ifCond .eq 7, 3) := by decide +kernel
theorem dX8_digest_54 : decode cX8_digest 54 = .ok (.iconst 0, 1) := by decide +kernel
theorem dX8_digest_55 : decode cX8_digest 55 = .ok (.goto 4, 3) := by decide +kernel
theorem dX8_digest_58 : decode cX8_digest 58 = .ok (.iconst 1, 1) := by decide +kernel
theorem dX8_digest_59 : decode cX8_digest 59 = .ok (.i2l, 1) := by decide +kernel
theorem dX8_digest_60 : decode cX8_digest 60 = .ok (.ladd, 1) := by decide +kernel
theorem dX8_digest_61 : decode cX8_digest 61 = .ok (.lstore_n 1, 1) := by decide +kernel
theorem dX8_digest_62 : decode cX8_digest 62 = .ok (.ldc2_w 306, 3) := by decide +kernel
theorem dX8_digest_65 : decode cX8_digest 65 = .ok (.lload_n 1, 1) := by decide +kernel
theorem dX8_digest_66 : decode cX8_digest 66 = .ok (.lmul, 1) := by decide +kernel
theorem dX8_digest_67 : decode cX8_digest 67 = .ok (.aload_n 0, 1) := by decide +kernel
theorem dX8_digest_68 : decode cX8_digest 68 = .ok (.getfield 39, 3) := by decide +kernel
theorem dX8_digest_71 : decode cX8_digest 71 = .ok (.getfield 286, 3) := by decide +kernel
theorem dX8_digest_74 : decode cX8_digest 74 = .ok (.iconst 0, 1) := by decide +kernel
theorem dX8_digest_75 : decode cX8_digest 75 = .ok (.invokestatic 289, 3) := by decide +kernel
theorem dX8_digest_78 : decode cX8_digest 78 = .ok (.i2l, 1) := by decide +kernel
theorem dX8_digest_79 : decode cX8_digest 79 = .ok (.ladd, 1) := by decide +kernel
theorem dX8_digest_80 : decode cX8_digest 80 = .ok (.lstore_n 1, 1) := by decide +kernel
theorem dX8_digest_81 : decode cX8_digest 81 = .ok (.ldc2_w 306, 3) := by decide +kernel
theorem dX8_digest_84 : decode cX8_digest 84 = .ok (.lload_n 1, 1) := by decide +kernel
theorem dX8_digest_85 : decode cX8_digest 85 = .ok (.lmul, 1) := by decide +kernel
theorem dX8_digest_86 : decode cX8_digest 86 = .ok (.aload_n 0, 1) := by decide +kernel
theorem dX8_digest_87 : decode cX8_digest 87 = .ok (.getfield 39, 3) := by decide +kernel
theorem dX8_digest_90 : decode cX8_digest 90 = .ok (.getfield 294, 3) := by decide +kernel
theorem dX8_digest_93 : decode cX8_digest 93 = .ok (.iconst 0, 1) := by decide +kernel
theorem dX8_digest_94 : decode cX8_digest 94 = .ok (.invokestatic 289, 3) := by decide +kernel
theorem dX8_digest_97 : decode cX8_digest 97 = .ok (.i2l, 1) := by decide +kernel
theorem dX8_digest_98 : decode cX8_digest 98 = .ok (.ladd, 1) := by decide +kernel
theorem dX8_digest_99 : decode cX8_digest 99 = .ok (.lstore_n 1, 1) := by decide +kernel
theorem dX8_digest_100 : decode cX8_digest 100 = .ok (.lload_n 1, 1) := by decide +kernel
theorem dX8_digest_101 : decode cX8_digest 101 = .ok (.aload_n 0, 1) := by decide +kernel
theorem dX8_digest_102 : decode cX8_digest 102 = .ok (.getfield 39, 3) := by decide +kernel
theorem dX8_digest_105 : decode cX8_digest 105 = .ok (.getfield 286, 3) := by decide +kernel
theorem dX8_digest_108 : decode cX8_digest 108 = .ok (.iconst 0, 1) := by decide +kernel
theorem dX8_digest_109 : decode cX8_digest 109 = .ok (.invokestatic 312, 3) := by decide +kernel
theorem dX8_digest_112 : decode cX8_digest 112 = .ok (.lstore_n 1, 1) := by decide +kernel
theorem dX8_digest_113 : decode cX8_digest 113 = .ok (.lload_n 1, 1) := by decide +kernel
theorem dX8_digest_114 : decode cX8_digest 114 = .ok (.aload_n 0, 1) := by decide +kernel
theorem dX8_digest_115 : decode cX8_digest 115 = .ok (.getfield 39, 3) := by decide +kernel
theorem dX8_digest_118 : decode cX8_digest 118 = .ok (.getfield 294, 3) := by decide +kernel
theorem dX8_digest_121 : decode cX8_digest 121 = .ok (.iconst 0, 1) := by decide +kernel
theorem dX8_digest_122 : decode cX8_digest 122 = .ok (.invokestatic 312, 3) := by decide +kernel
theorem dX8_digest_125 : decode cX8_digest 125 = .ok (.lreturn, 1) := by decide +kernel
theorem me_X8_digest : cx_Mv yX8_digest cX8_digest 4 (some .long) 0 := ⟨⟨⟨by decide +kernel, by decide +kernel, by decide +kernel⟩, hw_1, hw_1021⟩, hw_1019, hw_1020⟩
noncomputable def f_X8_digest_J59 (f_above : Nat → Int64) (f_below : Nat → Int64) (s0_9 : Int64) (s1_10 : Int32) : Option Int64 := cx_let (s0_9 + (Int32.toInt64 s1_10)) (fun v11 => Option.bind (f_X3_length 4 f_above 0) (fun u12 => cx_let ((31 * v11) + (Int32.toInt64 u12)) (fun v14 => Option.bind (f_X3_length 4 f_below 0) (fun u15 => cx_let ((31 * v14) + (Int32.toInt64 u15)) (fun v17 => Option.bind (f_X3_mixInto v17 4 f_above 0) (fun u18 => Option.bind (f_X3_mixInto u18 4 f_below 0) (fun u20 => some u20)))))))
noncomputable def f_X8_digest_L6 (b0_c0 : Nat → Int32) (b0_z0 : Int32) (b0_c1 : Nat → Int32) (b0_z1 : Int32) (b0_c2 : Nat → Int32) (b0_z2 : Int32) (b0_c3 : Nat → Int32) (b0_z3 : Int32) (b0_c4 : Nat → Int32) (b0_z4 : Int32) (b0_sg : Int32) (t_length : Int32) (f_above : Nat → Int64) (f_below : Nat → Int64) (rc6 : Int64 → Int32 → Option Int64) (x1_1 : Int64) (x3_2 : Int32) : Option Int64 := if 5 < x3_2 then (Option.bind (f_X1_mixInto b0_c0 b0_z0 b0_c1 b0_z1 b0_c2 b0_z2 b0_c3 b0_z3 b0_c4 b0_z4 b0_sg x1_1) (fun u4 => Option.bind (f_X2_isZero f_above) (fun u6 => if u6 = 0 then (f_X8_digest_J59 f_above f_below (31 * u4) 1) else (f_X8_digest_J59 f_above f_below (31 * u4) 0)))) else (Option.bind (f_X8_howMany b0_z0 b0_z1 b0_z2 b0_z3 b0_z4 t_length x3_2) (fun u22 => cx_let ((31 * x1_1) + (Int32.toInt64 u22)) (fun v24 => rc6 v24 (x3_2 + 1))))
noncomputable def f_X8_digest_L6w (b0_c0 : Nat → Int32) (b0_z0 : Int32) (b0_c1 : Nat → Int32) (b0_z1 : Int32) (b0_c2 : Nat → Int32) (b0_z2 : Int32) (b0_c3 : Nat → Int32) (b0_z3 : Int32) (b0_c4 : Nat → Int32) (b0_z4 : Int32) (b0_sg : Int32) (t_length : Int32) (f_above : Nat → Int64) (f_below : Nat → Int64) (n : Nat) : Int64 → Int32 → Option Int64 := Nat.rec (fun _ _ => none) (fun _ r => f_X8_digest_L6 b0_c0 b0_z0 b0_c1 b0_z1 b0_c2 b0_z2 b0_c3 b0_z3 b0_c4 b0_z4 b0_sg t_length f_above f_below r) n
noncomputable def f_X8_digest (b0_c0 : Nat → Int32) (b0_z0 : Int32) (b0_c1 : Nat → Int32) (b0_z1 : Int32) (b0_c2 : Nat → Int32) (b0_z2 : Int32) (b0_c3 : Nat → Int32) (b0_z3 : Int32) (b0_c4 : Nat → Int32) (b0_z4 : Int32) (b0_sg : Int32) (t_length : Int32) (f_above : Nat → Int64) (f_below : Nat → Int64) : Option Int64 := f_X8_digest_L6w b0_c0 b0_z0 b0_c1 b0_z1 b0_c2 b0_z2 b0_c3 b0_z3 b0_c4 b0_z4 b0_sg t_length f_above f_below cx_N0 661 0
set_option maxHeartbeats 4000000 in
set_option maxRecDepth 100000 in
theorem c_X8_digest (l : Launch) (D : va_G) (k : Nat → ClassId) (n_a : Nat → Nat) (b0_a : Nat → Nat) (b1_a : Nat → Nat) (b2_a : Nat → Nat) (b3_a : Nat → Nat) (t_a : Nat → Nat) (f_a : Nat → Nat) (w_a : Nat → Nat) (v_a : Nat → Nat) (s_a : Nat → Nat) (q_a : Nat → Nat) (u_a : Nat → Nat) (n_kept : Nat → Int32) (n_refusals : Nat → Int32) (n_summed : Int32) (b0_c0 : Nat → Int32) (b0_z0 : Int32) (b0_c1 : Nat → Int32) (b0_z1 : Int32) (b0_c2 : Nat → Int32) (b0_z2 : Int32) (b0_c3 : Nat → Int32) (b0_z3 : Int32) (b0_c4 : Nat → Int32) (b0_z4 : Int32) (b0_sg : Int32) (b1_c0 : Nat → Int32) (b1_z0 : Int32) (b1_c1 : Nat → Int32) (b1_z1 : Int32) (b1_c2 : Nat → Int32) (b1_z2 : Int32) (b1_c3 : Nat → Int32) (b1_z3 : Int32) (b1_c4 : Nat → Int32) (b1_z4 : Int32) (b1_sg : Int32) (b2_c0 : Nat → Int32) (b2_z0 : Int32) (b2_c1 : Nat → Int32) (b2_z1 : Int32) (b2_c2 : Nat → Int32) (b2_z2 : Int32) (b2_c3 : Nat → Int32) (b2_z3 : Int32) (b2_c4 : Nat → Int32) (b2_z4 : Int32) (b2_sg : Int32) (b3_c0 : Nat → Int32) (b3_z0 : Int32) (b3_c1 : Nat → Int32) (b3_z1 : Int32) (b3_c2 : Nat → Int32) (b3_z2 : Int32) (b3_c3 : Nat → Int32) (b3_z3 : Int32) (b3_c4 : Nat → Int32) (b3_z4 : Int32) (b3_sg : Int32) (t_bytes : Nat → Int32) (t_length : Int32) (t_start : Int32) (t_end : Int32) (t_item : Int32) (t_numbers : Nat → Int32) (f_above : Nat → Int64) (f_below : Nat → Int64) (f_one : Nat → Int64) (f_other : Nat → Int64) (w_detail : Int32) (w_skipped : Int32) (w_early : Int32) (w_late : Int32) (w_firstOnly : Int32) (w_firstYear : Nat → Int32) (w_years : Nat → Int32) (w_place : Nat → Int32) (w_before : Nat → Int32) (w_closing : Nat → Int32) (w_likes : Nat → Int32) (w_likeSums : Nat → Int32) (w_namings : Nat → Int32) (w_products : Nat → Int64) (w_weights : Nat → Int64) (w_subtotals : Nat → Int64) (w_way : Nat → Int32) (v_detail : Int32) (v_skipped : Int32) (v_early : Int32) (v_late : Int32) (v_firstOnly : Int32) (v_firstYear : Nat → Int32) (v_years : Nat → Int32) (v_place : Nat → Int32) (v_before : Nat → Int32) (v_closing : Nat → Int32) (v_likes : Nat → Int32) (v_likeSums : Nat → Int32) (v_namings : Nat → Int32) (v_products : Nat → Int64) (v_weights : Nat → Int64) (v_subtotals : Nat → Int64) (v_way : Nat → Int32) (s_total : Nat → Int64) (s_shares : Nat → Int64) (s_pairs : Nat → Int64) (s_crowds : Nat → Int64) (s_bestWay : Nat → Int32) (s_bestWeight : Nat → Int64) (s_answer : Nat → Int64) (s_mine : Nat → Int64) (s_theirs : Nat → Int64) (s_people : Int32) (s_heads : Int32) (q_total : Nat → Int64) (q_shares : Nat → Int64) (q_pairs : Nat → Int64) (q_crowds : Nat → Int64) (q_bestWay : Nat → Int32) (q_bestWeight : Nat → Int64) (q_answer : Nat → Int64) (q_mine : Nat → Int64) (q_theirs : Nat → Int64) (q_people : Int32) (q_heads : Int32) (u_worth : Nat → Int64) (u_dearest : Nat → Int64) (u_unit : Nat → Int64) (u_wrongly : Nat → Int64) (u_guess : Nat → Int64) (u_most : Nat → Int64) (y : Int64) (hf : f_X8_digest b0_c0 b0_z0 b0_c1 b0_z1 b0_c2 b0_z2 b0_c3 b0_z3 b0_c4 b0_z4 b0_sg t_length f_above f_below = some y) : cx_M l yX8_digest cX8_digest 4 (some .long) 3 D k [.ref (n_a 0)] (wd_NB k n_a f_a t_a u_a v_a w_a b0_a b1_a b2_a b3_a n_kept n_refusals n_summed ++ (wd_Box k b0_a b0_c0 b0_z0 b0_c1 b0_z1 b0_c2 b0_z2 b0_c3 b0_z3 b0_c4 b0_z4 b0_sg ++ (wd_Box k b1_a b1_c0 b1_z0 b1_c1 b1_z1 b1_c2 b1_z2 b1_c3 b1_z3 b1_c4 b1_z4 b1_sg ++ (wd_Box k b2_a b2_c0 b2_z0 b2_c1 b2_z1 b2_c2 b2_z2 b2_c3 b2_z3 b2_c4 b2_z4 b2_sg ++ (wd_Box k b3_a b3_c0 b3_z0 b3_c1 b3_z1 b3_c2 b3_z2 b3_c3 b3_z3 b3_c4 b3_z4 b3_sg ++ (wd_Text k t_a t_bytes t_length t_start t_end t_item t_numbers ++ (wd_Frac k f_a f_above f_below f_one f_other ++ (wd_Ways k w_a b0_a s_a w_detail w_skipped w_early w_late w_firstOnly w_firstYear w_years w_place w_before w_closing w_likes w_likeSums w_namings w_products w_weights w_subtotals w_way ++ (wd_Ways k v_a b0_a q_a v_detail v_skipped v_early v_late v_firstOnly v_firstYear v_years v_place v_before v_closing v_likes v_likeSums v_namings v_products v_weights v_subtotals v_way ++ (wd_Sums k s_a 5184 s_total s_shares s_pairs s_crowds s_bestWay s_bestWeight s_answer s_mine s_theirs s_people s_heads ++ (wd_Sums k q_a 0 q_total q_shares q_pairs q_crowds q_bestWay q_bestWeight q_answer q_mine q_theirs q_people q_heads ++ (wd_Aunt k u_a b0_a s_a u_worth u_dearest u_unit u_wrongly u_guess u_most)))))))))))) (fun sz => cx_Ql D y (wd_NB k n_a f_a t_a u_a v_a w_a b0_a b1_a b2_a b3_a n_kept n_refusals n_summed ++ (wd_Box k b0_a b0_c0 b0_z0 b0_c1 b0_z1 b0_c2 b0_z2 b0_c3 b0_z3 b0_c4 b0_z4 b0_sg ++ (wd_Box k b1_a b1_c0 b1_z0 b1_c1 b1_z1 b1_c2 b1_z2 b1_c3 b1_z3 b1_c4 b1_z4 b1_sg ++ (wd_Box k b2_a b2_c0 b2_z0 b2_c1 b2_z1 b2_c2 b2_z2 b2_c3 b2_z3 b2_c4 b2_z4 b2_sg ++ (wd_Box k b3_a b3_c0 b3_z0 b3_c1 b3_z1 b3_c2 b3_z2 b3_c3 b3_z3 b3_c4 b3_z4 b3_sg ++ (wd_Text k t_a t_bytes t_length t_start t_end t_item t_numbers ++ (wd_Frac k f_a f_above f_below f_one f_other ++ (wd_Ways k w_a b0_a s_a w_detail w_skipped w_early w_late w_firstOnly w_firstYear w_years w_place w_before w_closing w_likes w_likeSums w_namings w_products w_weights w_subtotals w_way ++ (wd_Ways k v_a b0_a q_a v_detail v_skipped v_early v_late v_firstOnly v_firstYear v_years v_place v_before v_closing v_likes v_likeSums v_namings v_products v_weights v_subtotals v_way ++ (wd_Sums k s_a 5184 s_total s_shares s_pairs s_crowds s_bestWay s_bestWeight s_answer s_mine s_theirs s_people s_heads ++ (wd_Sums k q_a 0 q_total q_shares q_pairs q_crowds q_bestWay q_bestWeight q_answer q_mine q_theirs q_people q_heads ++ (wd_Aunt k u_a b0_a s_a u_worth u_dearest u_unit u_wrongly u_guess u_most)))))))))))) (wd_NB k n_a f_a t_a u_a v_a w_a b0_a b1_a b2_a b3_a n_kept n_refusals n_summed ++ (wd_Box k b0_a b0_c0 b0_z0 b0_c1 b0_z1 b0_c2 b0_z2 b0_c3 b0_z3 b0_c4 b0_z4 b0_sg ++ (wd_Box k b1_a b1_c0 b1_z0 b1_c1 b1_z1 b1_c2 b1_z2 b1_c3 b1_z3 b1_c4 b1_z4 b1_sg ++ (wd_Box k b2_a b2_c0 b2_z0 b2_c1 b2_z1 b2_c2 b2_z2 b2_c3 b2_z3 b2_c4 b2_z4 b2_sg ++ (wd_Box k b3_a b3_c0 b3_z0 b3_c1 b3_z1 b3_c2 b3_z2 b3_c3 b3_z3 b3_c4 b3_z4 b3_sg ++ (wd_Text k t_a t_bytes t_length t_start t_end t_item t_numbers ++ (wd_Frac k f_a f_above f_below f_one f_other ++ (wd_Ways k w_a b0_a s_a w_detail w_skipped w_early w_late w_firstOnly w_firstYear w_years w_place w_before w_closing w_likes w_likeSums w_namings w_products w_weights w_subtotals w_way ++ (wd_Ways k v_a b0_a q_a v_detail v_skipped v_early v_late v_firstOnly v_firstYear v_years v_place v_before v_closing v_likes v_likeSums v_namings v_products v_weights v_subtotals v_way ++ (wd_Sums k s_a 5184 s_total s_shares s_pairs s_crowds s_bestWay s_bestWeight s_answer s_mine s_theirs s_people s_heads ++ (wd_Sums k q_a 0 q_total q_shares q_pairs q_crowds q_bestWay q_bestWeight q_answer q_mine q_theirs q_people q_heads ++ (wd_Aunt k u_a b0_a s_a u_worth u_dearest u_unit u_wrongly u_guess u_most)))))))))))) sz) := by
  refine cx_met (own := "NamelessBox") (by decide) rfl (Nat.le_of_ble_eq_true rfl) ?_
  intro p e s m args below meth c A Q C hA hQ hr hlk
  refine cx_lv (lv' := [(0, .ref (n_a 0))]) [0] rfl ?_
  have J59 : ∀ (s0_9 : Int64) (s1_10 : Int32), f_X8_digest_J59 f_above f_below s0_9 s1_10 = some y → cx_S p l e (cx_rm 3) s m args below meth c A D 4 0 0 Q 59 [(0, .ref (n_a 0))] [.int s1_10, .long s0_9] (wd_NB k n_a f_a t_a u_a v_a w_a b0_a b1_a b2_a b3_a n_kept n_refusals n_summed ++ (wd_Box k b0_a b0_c0 b0_z0 b0_c1 b0_z1 b0_c2 b0_z2 b0_c3 b0_z3 b0_c4 b0_z4 b0_sg ++ (wd_Box k b1_a b1_c0 b1_z0 b1_c1 b1_z1 b1_c2 b1_z2 b1_c3 b1_z3 b1_c4 b1_z4 b1_sg ++ (wd_Box k b2_a b2_c0 b2_z0 b2_c1 b2_z1 b2_c2 b2_z2 b2_c3 b2_z3 b2_c4 b2_z4 b2_sg ++ (wd_Box k b3_a b3_c0 b3_z0 b3_c1 b3_z1 b3_c2 b3_z2 b3_c3 b3_z3 b3_c4 b3_z4 b3_sg ++ (wd_Text k t_a t_bytes t_length t_start t_end t_item t_numbers ++ (wd_Frac k f_a f_above f_below f_one f_other ++ (wd_Ways k w_a b0_a s_a w_detail w_skipped w_early w_late w_firstOnly w_firstYear w_years w_place w_before w_closing w_likes w_likeSums w_namings w_products w_weights w_subtotals w_way ++ (wd_Ways k v_a b0_a q_a v_detail v_skipped v_early v_late v_firstOnly v_firstYear v_years v_place v_before v_closing v_likes v_likeSums v_namings v_products v_weights v_subtotals v_way ++ (wd_Sums k s_a 5184 s_total s_shares s_pairs s_crowds s_bestWay s_bestWeight s_answer s_mine s_theirs s_people s_heads ++ (wd_Sums k q_a 0 q_total q_shares q_pairs q_crowds q_bestWay q_bestWeight q_answer q_mine q_theirs q_people q_heads ++ (wd_Aunt k u_a b0_a s_a u_worth u_dearest u_unit u_wrongly u_guess u_most)))))))))))) := by
    intro s0_9 s1_10 hf
    unfold f_X8_digest_J59 at hf
    refine cx_i2l C dX8_digest_59 ?_
    refine cx_ladd C dX8_digest_60 ?_
    refine cx_topl (fun v11 ev11 => ?_)
    have hf := cx_let_at hf ev11
    clear ev11
    refine cx_lstore_n (lv' := [(1, .long v11), (0, .ref (n_a 0))]) C dX8_digest_61 rfl (by decide) rfl ?_
    refine cx_ldc2 (v := 31) C dX8_digest_62 hw_1023 ?_
    refine cx_lload_n C dX8_digest_65 0 rfl ?_
    refine cx_lmul C dX8_digest_66 ?_
    refine cx_aload_n C dX8_digest_67 1 rfl ?_
    refine cx_get (v := .ref (f_a 0)) (ci := 7) C iX8 dX8_digest_68 0 rfl rfl 6 (by decide) hw_296 rfl ?_
    refine cx_get (v := .ref (f_a 1)) (ci := 2) C iX2 dX8_digest_71 50 rfl rfl 0 (by decide) hw_126 rfl ?_
    refine cx_iconst (v := 0) C dX8_digest_74 (by decide) ?_
    obtain ⟨u12, e13, hf⟩ := cx_bd_at hf
    refine cx_Ksi (As := [.ref (f_a 1), .int 0]) (rest := [.long (31 * v11)]) hA C me_X3_length hw_987 (c_X3_length l D k (f_a 1) 4 f_above 0 u12 e13) dX8_digest_75 ⟨Nat.le_of_ble_eq_true rfl, Nat.le_of_ble_eq_true rfl⟩ ⟨Nat.zero_le _, Nat.zero_le _⟩ rfl rfl (Nat.le_of_ble_eq_true rfl) [51] rfl (by decide) ?_
    clear e13
    refine cx_i2l C dX8_digest_78 ?_
    refine cx_ladd C dX8_digest_79 ?_
    refine cx_topl (fun v14 ev14 => ?_)
    have hf := cx_let_at hf ev14
    clear ev14
    refine cx_lstore_n (lv' := [(1, .long v14), (0, .ref (n_a 0))]) C dX8_digest_80 rfl (by decide) rfl ?_
    refine cx_ldc2 (v := 31) C dX8_digest_81 hw_1023 ?_
    refine cx_lload_n C dX8_digest_84 0 rfl ?_
    refine cx_lmul C dX8_digest_85 ?_
    refine cx_aload_n C dX8_digest_86 1 rfl ?_
    refine cx_get (v := .ref (f_a 0)) (ci := 7) C iX8 dX8_digest_87 0 rfl rfl 6 (by decide) hw_296 rfl ?_
    refine cx_get (v := .ref (f_a 2)) (ci := 2) C iX2 dX8_digest_90 50 rfl rfl 1 (by decide) hw_128 rfl ?_
    refine cx_iconst (v := 0) C dX8_digest_93 (by decide) ?_
    obtain ⟨u15, e16, hf⟩ := cx_bd_at hf
    refine cx_Ksi (As := [.ref (f_a 2), .int 0]) (rest := [.long (31 * v14)]) hA C me_X3_length hw_987 (c_X3_length l D k (f_a 2) 4 f_below 0 u15 e16) dX8_digest_94 ⟨Nat.le_of_ble_eq_true rfl, Nat.le_of_ble_eq_true rfl⟩ ⟨Nat.zero_le _, Nat.zero_le _⟩ rfl rfl (Nat.le_of_ble_eq_true rfl) [52] rfl (by decide) ?_
    clear e16
    refine cx_i2l C dX8_digest_97 ?_
    refine cx_ladd C dX8_digest_98 ?_
    refine cx_topl (fun v17 ev17 => ?_)
    have hf := cx_let_at hf ev17
    clear ev17
    refine cx_lstore_n (lv' := [(1, .long v17), (0, .ref (n_a 0))]) C dX8_digest_99 rfl (by decide) rfl ?_
    refine cx_lload_n C dX8_digest_100 0 rfl ?_
    refine cx_aload_n C dX8_digest_101 1 rfl ?_
    refine cx_get (v := .ref (f_a 0)) (ci := 7) C iX8 dX8_digest_102 0 rfl rfl 6 (by decide) hw_296 rfl ?_
    refine cx_get (v := .ref (f_a 1)) (ci := 2) C iX2 dX8_digest_105 50 rfl rfl 0 (by decide) hw_126 rfl ?_
    refine cx_iconst (v := 0) C dX8_digest_108 (by decide) ?_
    obtain ⟨u18, e19, hf⟩ := cx_bd_at hf
    refine cx_Ksl (As := [.long v17, .ref (f_a 1), .int 0]) (rest := []) hA C me_X3_mixInto hw_1034 (c_X3_mixInto l D k (f_a 1) v17 4 f_above 0 u18 e19) dX8_digest_109 ⟨Nat.le_of_ble_eq_true rfl, Nat.le_of_ble_eq_true rfl⟩ ⟨Nat.zero_le _, Nat.zero_le _⟩ rfl rfl (Nat.le_of_ble_eq_true rfl) [51] rfl (by decide) ?_
    clear e19
    refine cx_lstore_n (lv' := [(1, .long u18), (0, .ref (n_a 0))]) C dX8_digest_112 rfl (by decide) rfl ?_
    refine cx_lload_n C dX8_digest_113 0 rfl ?_
    refine cx_aload_n C dX8_digest_114 1 rfl ?_
    refine cx_get (v := .ref (f_a 0)) (ci := 7) C iX8 dX8_digest_115 0 rfl rfl 6 (by decide) hw_296 rfl ?_
    refine cx_get (v := .ref (f_a 2)) (ci := 2) C iX2 dX8_digest_118 50 rfl rfl 1 (by decide) hw_128 rfl ?_
    refine cx_iconst (v := 0) C dX8_digest_121 (by decide) ?_
    obtain ⟨u20, e21, hf⟩ := cx_bd_at hf
    refine cx_Ksl (As := [.long u18, .ref (f_a 2), .int 0]) (rest := []) hA C me_X3_mixInto hw_1034 (c_X3_mixInto l D k (f_a 2) u18 4 f_below 0 u20 e21) dX8_digest_122 ⟨Nat.le_of_ble_eq_true rfl, Nat.le_of_ble_eq_true rfl⟩ ⟨Nat.zero_le _, Nat.zero_le _⟩ rfl rfl (Nat.le_of_ble_eq_true rfl) [52] rfl (by decide) ?_
    clear e21
    obtain rfl := Option.some.inj hf
    exact cx_lret C hA hQ hr hlk dX8_digest_125 rfl rfl
  have L6 : ∀ (n6 : Nat) (x1_1 : Int64) (x3_2 : Int32), f_X8_digest_L6w b0_c0 b0_z0 b0_c1 b0_z1 b0_c2 b0_z2 b0_c3 b0_z3 b0_c4 b0_z4 b0_sg t_length f_above f_below n6 x1_1 x3_2 = some y → cx_S p l e (cx_rm 3) s m args below meth c A D 4 0 0 Q 6 [(0, .ref (n_a 0)), (1, .long x1_1), (3, .int x3_2)] [] (wd_NB k n_a f_a t_a u_a v_a w_a b0_a b1_a b2_a b3_a n_kept n_refusals n_summed ++ (wd_Box k b0_a b0_c0 b0_z0 b0_c1 b0_z1 b0_c2 b0_z2 b0_c3 b0_z3 b0_c4 b0_z4 b0_sg ++ (wd_Box k b1_a b1_c0 b1_z0 b1_c1 b1_z1 b1_c2 b1_z2 b1_c3 b1_z3 b1_c4 b1_z4 b1_sg ++ (wd_Box k b2_a b2_c0 b2_z0 b2_c1 b2_z1 b2_c2 b2_z2 b2_c3 b2_z3 b2_c4 b2_z4 b2_sg ++ (wd_Box k b3_a b3_c0 b3_z0 b3_c1 b3_z1 b3_c2 b3_z2 b3_c3 b3_z3 b3_c4 b3_z4 b3_sg ++ (wd_Text k t_a t_bytes t_length t_start t_end t_item t_numbers ++ (wd_Frac k f_a f_above f_below f_one f_other ++ (wd_Ways k w_a b0_a s_a w_detail w_skipped w_early w_late w_firstOnly w_firstYear w_years w_place w_before w_closing w_likes w_likeSums w_namings w_products w_weights w_subtotals w_way ++ (wd_Ways k v_a b0_a q_a v_detail v_skipped v_early v_late v_firstOnly v_firstYear v_years v_place v_before v_closing v_likes v_likeSums v_namings v_products v_weights v_subtotals v_way ++ (wd_Sums k s_a 5184 s_total s_shares s_pairs s_crowds s_bestWay s_bestWeight s_answer s_mine s_theirs s_people s_heads ++ (wd_Sums k q_a 0 q_total q_shares q_pairs q_crowds q_bestWay q_bestWeight q_answer q_mine q_theirs q_people q_heads ++ (wd_Aunt k u_a b0_a s_a u_worth u_dearest u_unit u_wrongly u_guess u_most)))))))))))) := by
    intro  n6
    induction n6 with
    | zero =>
      intro x1_1 x3_2 hf
      exact absurd (show (none : Option Int64) = some y from hf) (fun h => by cases h)
    | succ n6 ih6 =>
      intro x1_1 x3_2 hf
      have hf : f_X8_digest_L6 b0_c0 b0_z0 b0_c1 b0_z1 b0_c2 b0_z2 b0_c3 b0_z3 b0_c4 b0_z4 b0_sg t_length f_above f_below (f_X8_digest_L6w b0_c0 b0_z0 b0_c1 b0_z1 b0_c2 b0_z2 b0_c3 b0_z3 b0_c4 b0_z4 b0_sg t_length f_above f_below n6) x1_1 x3_2 = some y := hf
      unfold f_X8_digest_L6 at hf
      refine cx_iload_n C dX8_digest_6 2 rfl ?_
      refine cx_iconst (v := 5) C dX8_digest_7 (by decide) ?_
      refine cx_icmp_gt (tgt := 30) C dX8_digest_8 (by decide) (fun c3 => ?_) (fun c3 => ?_)
      · have hf := cx_if_t hf c3
        clear c3
        refine cx_aload_n C dX8_digest_30 0 rfl ?_
        refine cx_get (v := .ref (b0_a 0)) (ci := 7) C iX8 dX8_digest_31 0 rfl rfl 0 (by decide) hw_290 rfl ?_
        refine cx_lload_n C dX8_digest_34 1 rfl ?_
        obtain ⟨u4, e5, hf⟩ := cx_bd_at hf
        refine cx_Kvl (q := (RX1, TX1, 6)) (As := [.long x1_1]) (rest := []) hA C me_X1_mixInto hw_1024 (c_X1_mixInto l D k b0_a b0_c0 b0_z0 b0_c1 b0_z1 b0_c2 b0_z2 b0_c3 b0_z3 b0_c4 b0_z4 b0_sg x1_1 u4 e5) dX8_digest_35 ⟨Nat.le_of_ble_eq_true rfl, Nat.le_of_ble_eq_true rfl⟩ ⟨Nat.zero_le _, Nat.zero_le _⟩ rfl rfl (Nat.le_of_ble_eq_true rfl) rfl rfl [3, 4, 5, 6, 7, 8, 9, 10, 11, 12, 13] rfl (by decide) ?_
        clear e5
        refine cx_lstore_n (lv' := [(1, .long u4), (0, .ref (n_a 0)), (3, .int x3_2)]) C dX8_digest_38 rfl (by decide) rfl ?_
        refine cx_ldc2 (v := 31) C dX8_digest_39 hw_1023 ?_
        refine cx_lload_n C dX8_digest_42 0 rfl ?_
        refine cx_lmul C dX8_digest_43 ?_
        refine cx_aload_n C dX8_digest_44 1 rfl ?_
        refine cx_get (v := .ref (f_a 0)) (ci := 7) C iX8 dX8_digest_45 0 rfl rfl 6 (by decide) hw_296 rfl ?_
        obtain ⟨u6, e7, hf⟩ := cx_bd_at hf
        refine cx_Kvi (q := (RX2, TX2, 4)) (As := []) (rest := [.long (31 * u4)]) hA C me_X2_isZero hw_983 (c_X2_isZero l D k f_a f_above f_below f_one f_other u6 e7) dX8_digest_48 ⟨Nat.le_of_ble_eq_true rfl, Nat.le_of_ble_eq_true rfl⟩ ⟨Nat.zero_le _, Nat.zero_le _⟩ rfl rfl (Nat.le_of_ble_eq_true rfl) rfl rfl [50, 51, 52, 53, 54] rfl (by decide) ?_
        clear e7
        refine cx_if_eq (tgt := 58) C dX8_digest_51 (by decide) (fun c8 => ?_) (fun c8 => ?_)
        · have hf := cx_if_t hf c8
          clear c8
          refine cx_iconst (v := 1) C dX8_digest_58 (by decide) ?_
          refine cx_lv [1] rfl ?_
          exact J59 (31 * u4) 1 hf
        · have hf := cx_if_f hf c8
          clear c8
          refine cx_iconst (v := 0) C dX8_digest_54 (by decide) ?_
          refine cx_goto (tgt := 59) C dX8_digest_55 (by decide) ?_
          refine cx_lv [1] rfl ?_
          exact J59 (31 * u4) 0 hf
      · have hf := cx_if_f hf c3
        clear c3
        refine cx_ldc2 (v := 31) C dX8_digest_11 hw_1023 ?_
        refine cx_lload_n C dX8_digest_14 1 rfl ?_
        refine cx_lmul C dX8_digest_15 ?_
        refine cx_aload_n C dX8_digest_16 0 rfl ?_
        refine cx_iload_n C dX8_digest_17 2 rfl ?_
        obtain ⟨u22, e23, hf⟩ := cx_bd_at hf
        refine cx_Fvi (q := (RX8, TX8, 12)) (As := [.int x3_2]) (rest := [.long (31 * x1_1)]) (w1 := (wd_NB k n_a f_a t_a u_a v_a w_a b0_a b1_a b2_a b3_a n_kept n_refusals n_summed ++ (wd_Box k b0_a b0_c0 b0_z0 b0_c1 b0_z1 b0_c2 b0_z2 b0_c3 b0_z3 b0_c4 b0_z4 b0_sg ++ (wd_Box k b1_a b1_c0 b1_z0 b1_c1 b1_z1 b1_c2 b1_z2 b1_c3 b1_z3 b1_c4 b1_z4 b1_sg ++ (wd_Box k b2_a b2_c0 b2_z0 b2_c1 b2_z1 b2_c2 b2_z2 b2_c3 b2_z3 b2_c4 b2_z4 b2_sg ++ (wd_Box k b3_a b3_c0 b3_z0 b3_c1 b3_z1 b3_c2 b3_z2 b3_c3 b3_z3 b3_c4 b3_z4 b3_sg ++ (wd_Text k t_a t_bytes t_length t_start t_end t_item t_numbers ++ (wd_Frac k f_a f_above f_below f_one f_other ++ (wd_Ways k w_a b0_a s_a w_detail w_skipped w_early w_late w_firstOnly w_firstYear w_years w_place w_before w_closing w_likes w_likeSums w_namings w_products w_weights w_subtotals w_way ++ (wd_Ways k v_a b0_a q_a v_detail v_skipped v_early v_late v_firstOnly v_firstYear v_years v_place v_before v_closing v_likes v_likeSums v_namings v_products v_weights v_subtotals v_way ++ (wd_Sums k s_a 5184 s_total s_shares s_pairs s_crowds s_bestWay s_bestWeight s_answer s_mine s_theirs s_people s_heads ++ (wd_Sums k q_a 0 q_total q_shares q_pairs q_crowds q_bestWay q_bestWeight q_answer q_mine q_theirs q_people q_heads ++ (wd_Aunt k u_a b0_a s_a u_worth u_dearest u_unit u_wrongly u_guess u_most))))))))))))) hA C me_X8_howMany hw_1014 (c_X8_howMany l D k n_a b0_a b1_a b2_a b3_a t_a f_a w_a v_a s_a q_a u_a n_kept n_refusals n_summed b0_c0 b0_z0 b0_c1 b0_z1 b0_c2 b0_z2 b0_c3 b0_z3 b0_c4 b0_z4 b0_sg b1_c0 b1_z0 b1_c1 b1_z1 b1_c2 b1_z2 b1_c3 b1_z3 b1_c4 b1_z4 b1_sg b2_c0 b2_z0 b2_c1 b2_z1 b2_c2 b2_z2 b2_c3 b2_z3 b2_c4 b2_z4 b2_sg b3_c0 b3_z0 b3_c1 b3_z1 b3_c2 b3_z2 b3_c3 b3_z3 b3_c4 b3_z4 b3_sg t_bytes t_length t_start t_end t_item t_numbers f_above f_below f_one f_other w_detail w_skipped w_early w_late w_firstOnly w_firstYear w_years w_place w_before w_closing w_likes w_likeSums w_namings w_products w_weights w_subtotals w_way v_detail v_skipped v_early v_late v_firstOnly v_firstYear v_years v_place v_before v_closing v_likes v_likeSums v_namings v_products v_weights v_subtotals v_way s_total s_shares s_pairs s_crowds s_bestWay s_bestWeight s_answer s_mine s_theirs s_people s_heads q_total q_shares q_pairs q_crowds q_bestWay q_bestWeight q_answer q_mine q_theirs q_people q_heads u_worth u_dearest u_unit u_wrongly u_guess u_most x3_2 u22 e23) dX8_digest_18 ⟨Nat.le_of_ble_eq_true rfl, Nat.le_of_ble_eq_true rfl⟩ ⟨Nat.zero_le _, Nat.zero_le _⟩ rfl rfl (Nat.le_of_ble_eq_true rfl) rfl rfl rfl ?_
        clear e23
        refine cx_i2l C dX8_digest_21 ?_
        refine cx_ladd C dX8_digest_22 ?_
        refine cx_topl (fun v24 ev24 => ?_)
        have hf := cx_let_at hf ev24
        clear ev24
        refine cx_lstore_n (lv' := [(1, .long v24), (0, .ref (n_a 0)), (3, .int x3_2)]) C dX8_digest_23 rfl (by decide) rfl ?_
        refine cx_iinc (v := x3_2 + 1) (lv' := [(3, .int (x3_2 + 1)), (1, .long v24), (0, .ref (n_a 0))]) C dX8_digest_24 2 rfl rfl (by decide) rfl ?_
        refine cx_goto (tgt := 6) C dX8_digest_27 (by decide) ?_
        refine cx_lv [2, 1, 0] rfl ?_
        exact ih6 v24 (x3_2 + 1) hf
  unfold f_X8_digest at hf
  refine cx_ldc2 (v := 661) C dX8_digest_0 hw_1022 ?_
  refine cx_lstore_n (lv' := [(1, .long 661), (0, .ref (n_a 0))]) C dX8_digest_3 rfl (by decide) rfl ?_
  refine cx_iconst (v := 0) C dX8_digest_4 (by decide) ?_
  refine cx_istore_n (lv' := [(3, .int 0), (1, .long 661), (0, .ref (n_a 0))]) C dX8_digest_5 rfl (by decide) rfl ?_
  refine cx_lv [2, 1, 0] rfl ?_
  exact L6 cx_N0 661 0 hf
