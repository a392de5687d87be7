theorem dX8_within_0 : decode cX8_within 0 = .ok (.iload_n 0, 1) := by decide +kernel
theorem dX8_within_1 : decode cX8_within 1 = .ok (.iload_n 1, 1) := by decide +kernel
theorem dX8_within_2 : decode cX8_within 2 = .ok (.if_icmp .lt 12, 3) := by decide +kernel
theorem dX8_within_5 : decode cX8_within 5 = .ok (.iload_n 0, 1) := by decide +kernel
theorem dX8_within_6 : decode cX8_within 6 = .ok (.iload_n 2, 1) := by decide +kernel
theorem dX8_within_7 : decode cX8_within 7 = .ok (.if_icmp .gt 7, 3) := by decide +kernel
theorem dX8_within_10 : decode cX8_within 10 = .ok (.iconst 1, 1) := by decide +kernel
theorem dX8_within_11 : decode cX8_within 11 = .ok (.goto 4, 3) := by decide +kernel
theorem dX8_within_14 : decode cX8_within 14 = .ok (.iconst 0, 1) := by decide +kernel
theorem dX8_within_15 : decode cX8_within 15 = .ok (.ireturn, 1) := by decide +kernel
theorem me_X8_within : cx_Ms yX8_within cX8_within 3 (some .boolean) 3 := ⟨⟨⟨by decide +kernel, by decide +kernel, by decide +kernel⟩, hw_1, hw_337⟩, hw_336⟩
noncomputable def f_X8_within (p0 : Int32) (p1 : Int32) (p2 : Int32) : Option Int32 := if p0 < p1 then (some 0) else (if p2 < p0 then (some 0) else (some 1))
set_option maxHeartbeats 4000000 in
set_option maxRecDepth 100000 in
theorem c_X8_within (l : Launch) (D : va_G) (k : Nat → ClassId) (p0 : Int32) (p1 : Int32) (p2 : Int32) (y : Int32) (hf : f_X8_within p0 p1 p2 = some y) : cx_M l yX8_within cX8_within 3 (some .boolean) 1 D k [.int p0, .int p1, .int p2] ([] : va_W) (fun sz => cx_Qi D y ([] : va_W) ([] : va_W) sz) := by
  refine cx_met (own := "NamelessBox") (by decide) rfl (Nat.le_of_ble_eq_true rfl) ?_
  intro p e s m args below meth c A Q C hA hQ hr hlk
  refine cx_lv (lv' := [(0, .int p0), (1, .int p1), (2, .int p2)]) [0, 1, 2] rfl ?_
  unfold f_X8_within at hf
  refine cx_iload_n C dX8_within_0 0 rfl ?_
  refine cx_iload_n C dX8_within_1 1 rfl ?_
  refine cx_icmp_lt (tgt := 14) C dX8_within_2 (by decide) (fun c1 => ?_) (fun c1 => ?_)
  · have hf := cx_if_t hf c1
    clear c1
    refine cx_iconst (v := 0) C dX8_within_14 (by decide) ?_
    obtain rfl := Option.some.inj hf
    exact cx_zret C hA hQ hr hlk dX8_within_15 rfl rfl rfl
  · have hf := cx_if_f hf c1
    clear c1
    refine cx_iload_n C dX8_within_5 0 rfl ?_
    refine cx_iload_n C dX8_within_6 2 rfl ?_
    refine cx_icmp_gt (tgt := 14) C dX8_within_7 (by decide) (fun c2 => ?_) (fun c2 => ?_)
    · have hf := cx_if_t hf c2
      clear c2
      refine cx_iconst (v := 0) C dX8_within_14 (by decide) ?_
      obtain rfl := Option.some.inj hf
      exact cx_zret C hA hQ hr hlk dX8_within_15 rfl rfl rfl
    · have hf := cx_if_f hf c2
      clear c2
      refine cx_iconst (v := 1) C dX8_within_10 (by decide) ?_
      refine cx_goto (tgt := 15) C dX8_within_11 (by decide) ?_
      obtain rfl := Option.some.inj hf
      exact cx_zret C hA hQ hr hlk dX8_within_15 rfl rfl rfl
theorem dX4_at_0 : decode cX4_at 0 = .ok (.iload_n 1, 1) := by decide +kernel
theorem dX4_at_1 : decode cX4_at 1 = .ok (.ifCond .lt 39, 3) := by decide +kernel
theorem dX4_at_4 : decode cX4_at 4 = .ok (.iload_n 1, 1) := by decide +kernel
theorem dX4_at_5 : decode cX4_at 5 = .ok (.aload_n 0, 1) := by decide +kernel
theorem dX4_at_6 : decode cX4_at 6 = .ok (.getfield 9, 3) := by decide +kernel
theorem dX4_at_9 : decode cX4_at 9 = .ok (.if_icmp .ge 31, 3) := by decide +kernel
theorem dX4_at_12 : decode cX4_at 12 = .ok (.iload_n 2, 1) := by decide +kernel
theorem dX4_at_13 : decode cX4_at 13 = .ok (.ifCond .lt 27, 3) := by decide +kernel
theorem dX4_at_16 : decode cX4_at 16 = .ok (.iload_n 2, 1) := by decide +kernel
theorem dX4_at_17 : decode cX4_at 17 = .ok (.aload_n 0, 1) := by decide +kernel
theorem dX4_at_18 : decode cX4_at 18 = .ok (.getfield 15, 3) := by decide +kernel
theorem dX4_at_21 : decode cX4_at 21 = .ok (.if_icmp .ge 19, 3) := by decide +kernel
theorem dX4_at_24 : decode cX4_at 24 = .ok (.aload_n 0, 1) := by decide +kernel
theorem dX4_at_25 : decode cX4_at 25 = .ok (.getfield 27, 3) := by decide +kernel
theorem dX4_at_28 : decode cX4_at 28 = .ok (.iload_n 1, 1) := by decide +kernel
theorem dX4_at_29 : decode cX4_at 29 = .ok (.aload_n 0, 1) := by decide +kernel
theorem dX4_at_30 : decode cX4_at 30 = .ok (.getfield 15, 3) := by decide +kernel
theorem dX4_at_33 : decode cX4_at 33 = .ok (.imul, 1) := by decide +kernel
theorem dX4_at_34 : decode cX4_at 34 = .ok (.iload_n 2, 1) := by decide +kernel
theorem dX4_at_35 : decode cX4_at 35 = .ok (.iadd, 1) := by decide +kernel
theorem dX4_at_36 : decode cX4_at 36 = .ok (.iaload, 1) := by decide +kernel
theorem dX4_at_37 : decode cX4_at 37 = .ok (.goto 4, 3) := by decide +kernel
theorem dX4_at_40 : decode cX4_at 40 = .ok (.iconst (-1), 1) := by decide +kernel
theorem dX4_at_41 : decode cX4_at 41 = .ok (.ireturn, 1) := by decide +kernel
theorem me_X4_at : cx_Mv yX4_at cX4_at 3 (some .int) 2 := ⟨⟨⟨by decide +kernel, by decide +kernel, by decide +kernel⟩, hw_3, hw_380⟩, hw_378, hw_379⟩
noncomputable def f_X4_at (r_w : Int32) (r_n : Nat) (r_c : Nat → Int32) (r_z : Int32) (p1 : Int32) (p2 : Int32) : Option Int32 := if p1 < 0 then (some ((-1))) else (if r_z ≤ p1 then (some ((-1))) else (if p2 < 0 then (some ((-1))) else (if r_w ≤ p2 then (some ((-1))) else (cx_gd (cx_ib ((p1 * r_w) + p2) r_n) (some (r_c (cx_ix ((p1 * r_w) + p2))))))))
set_option maxHeartbeats 4000000 in
set_option maxRecDepth 100000 in
theorem c_X4_at (l : Launch) (D : va_G) (k : Nat → ClassId) (r_a0 : Nat) (r_a1 : Nat) (r_w : Int32) (r_lim : Int32) (r_n : Nat) (r_c : Nat → Int32) (r_z : Int32) (p1 : Int32) (p2 : Int32) (y : Int32) (hf : f_X4_at r_w r_n r_c r_z p1 p2 = some y) : cx_M l yX4_at cX4_at 3 (some .int) 1 D k [.ref r_a0, .int p1, .int p2] (wd_Rows k r_a0 r_a1 r_w r_lim r_n r_c r_z) (fun sz => cx_Qi D y (wd_Rows k r_a0 r_a1 r_w r_lim r_n r_c r_z) (wd_Rows k r_a0 r_a1 r_w r_lim r_n r_c r_z) sz) := by
  refine cx_met (own := "NamelessBox$Rows") (by decide) rfl (Nat.le_of_ble_eq_true rfl) ?_
  intro p e s m args below meth c A Q C hA hQ hr hlk
  refine cx_lv (lv' := [(0, .ref r_a0), (1, .int p1), (2, .int p2)]) [0, 1, 2] rfl ?_
  unfold f_X4_at at hf
  refine cx_iload_n C dX4_at_0 1 rfl ?_
  refine cx_if_lt (tgt := 40) C dX4_at_1 (by decide) (fun c1 => ?_) (fun c1 => ?_)
  · have hf := cx_if_t hf c1
    clear c1
    refine cx_iconst (v := (-1)) C dX4_at_40 (by decide) ?_
    obtain rfl := Option.some.inj hf
    exact cx_iret C hA hQ hr hlk dX4_at_41 rfl rfl
  · have hf := cx_if_f hf c1
    clear c1
    refine cx_iload_n C dX4_at_4 1 rfl ?_
    refine cx_aload_n C dX4_at_5 0 rfl ?_
    refine cx_get (v := .int r_z) (ci := 3) C iX4 dX4_at_6 0 rfl rfl 3 (by decide) hw_45 rfl ?_
    refine cx_icmp_ge (tgt := 40) C dX4_at_9 (by decide) (fun c2 => ?_) (fun c2 => ?_)
    · have hf := cx_if_t hf c2
      clear c2
      refine cx_iconst (v := (-1)) C dX4_at_40 (by decide) ?_
      obtain rfl := Option.some.inj hf
      exact cx_iret C hA hQ hr hlk dX4_at_41 rfl rfl
    · have hf := cx_if_f hf c2
      clear c2
      refine cx_iload_n C dX4_at_12 2 rfl ?_
      refine cx_if_lt (tgt := 40) C dX4_at_13 (by decide) (fun c3 => ?_) (fun c3 => ?_)
      · have hf := cx_if_t hf c3
        clear c3
        refine cx_iconst (v := (-1)) C dX4_at_40 (by decide) ?_
        obtain rfl := Option.some.inj hf
        exact cx_iret C hA hQ hr hlk dX4_at_41 rfl rfl
      · have hf := cx_if_f hf c3
        clear c3
        refine cx_iload_n C dX4_at_16 2 rfl ?_
        refine cx_aload_n C dX4_at_17 0 rfl ?_
        refine cx_get (v := .int r_w) (ci := 3) C iX4 dX4_at_18 0 rfl rfl 0 (by decide) hw_42 rfl ?_
        refine cx_icmp_ge (tgt := 40) C dX4_at_21 (by decide) (fun c4 => ?_) (fun c4 => ?_)
        · have hf := cx_if_t hf c4
          clear c4
          refine cx_iconst (v := (-1)) C dX4_at_40 (by decide) ?_
          obtain rfl := Option.some.inj hf
          exact cx_iret C hA hQ hr hlk dX4_at_41 rfl rfl
        · have hf := cx_if_f hf c4
          clear c4
          refine cx_aload_n C dX4_at_24 0 rfl ?_
          refine cx_get (v := .ref r_a1) (ci := 3) C iX4 dX4_at_25 0 rfl rfl 2 (by decide) hw_44 rfl ?_
          refine cx_iload_n C dX4_at_28 1 rfl ?_
          refine cx_aload_n C dX4_at_29 0 rfl ?_
          refine cx_get (v := .int r_w) (ci := 3) C iX4 dX4_at_30 0 rfl rfl 0 (by decide) hw_42 rfl ?_
          refine cx_imul C dX4_at_33 ?_
          refine cx_iload_n C dX4_at_34 2 rfl ?_
          refine cx_iadd C dX4_at_35 ?_
          obtain ⟨g5, hf⟩ := cx_gd_at hf
          refine cx_iald C dX4_at_36 1 rfl (cx_ib_in g5) ?_
          clear g5
          refine cx_goto (tgt := 41) C dX4_at_37 (by decide) ?_
          obtain rfl := Option.some.inj hf
          exact cx_iret C hA hQ hr hlk dX4_at_41 rfl rfl
theorem dX4_has_0 : decode cX4_has 0 = .ok (.iload_n 1, 1) := by decide +kernel
theorem dX4_has_1 : decode cX4_has 1 = .ok (.ifCond .lt 15, 3) := by decide +kernel
theorem dX4_has_4 : decode cX4_has 4 = .ok (.iload_n 1, 1) := by decide +kernel
theorem dX4_has_5 : decode cX4_has 5 = .ok (.aload_n 0, 1) := by decide +kernel
theorem dX4_has_6 : decode cX4_has 6 = .ok (.getfield 9, 3) := by decide +kernel
theorem dX4_has_9 : decode cX4_has 9 = .ok (.if_icmp .ge 7, 3) := by decide +kernel
theorem dX4_has_12 : decode cX4_has 12 = .ok (.iconst 1, 1) := by decide +kernel
theorem dX4_has_13 : decode cX4_has 13 = .ok (.goto 4, 3) := by decide +kernel
theorem dX4_has_16 : decode cX4_has 16 = .ok (.iconst 0, 1) := by decide +kernel
theorem dX4_has_17 : decode cX4_has 17 = .ok (.ireturn, 1) := by decide +kernel
theorem me_X4_has : cx_Mv yX4_has cX4_has 2 (some .boolean) 1 := ⟨⟨⟨by decide +kernel, by decide +kernel, by decide +kernel⟩, hw_3, hw_354⟩, hw_352, hw_353⟩
noncomputable def f_X4_has (r_z : Int32) (p1 : Int32) : Option Int32 := if p1 < 0 then (some 0) else (if r_z ≤ p1 then (some 0) else (some 1))
set_option maxHeartbeats 4000000 in
set_option maxRecDepth 100000 in
theorem c_X4_has (l : Launch) (D : va_G) (k : Nat → ClassId) (r_a0 : Nat) (r_a1 : Nat) (r_w : Int32) (r_lim : Int32) (r_n : Nat) (r_c : Nat → Int32) (r_z : Int32) (p1 : Int32) (y : Int32) (hf : f_X4_has r_z p1 = some y) : cx_M l yX4_has cX4_has 2 (some .boolean) 1 D k [.ref r_a0, .int p1] (wd_Rows k r_a0 r_a1 r_w r_lim r_n r_c r_z) (fun sz => cx_Qi D y (wd_Rows k r_a0 r_a1 r_w r_lim r_n r_c r_z) (wd_Rows k r_a0 r_a1 r_w r_lim r_n r_c r_z) sz) := by
  refine cx_met (own := "NamelessBox$Rows") (by decide) rfl (Nat.le_of_ble_eq_true rfl) ?_
  intro p e s m args below meth c A Q C hA hQ hr hlk
  refine cx_lv (lv' := [(0, .ref r_a0), (1, .int p1)]) [0, 1] rfl ?_
  unfold f_X4_has at hf
  refine cx_iload_n C dX4_has_0 1 rfl ?_
  refine cx_if_lt (tgt := 16) C dX4_has_1 (by decide) (fun c1 => ?_) (fun c1 => ?_)
  · have hf := cx_if_t hf c1
    clear c1
    refine cx_iconst (v := 0) C dX4_has_16 (by decide) ?_
    obtain rfl := Option.some.inj hf
    exact cx_zret C hA hQ hr hlk dX4_has_17 rfl rfl rfl
  · have hf := cx_if_f hf c1
    clear c1
    refine cx_iload_n C dX4_has_4 1 rfl ?_
    refine cx_aload_n C dX4_has_5 0 rfl ?_
    refine cx_get (v := .int r_z) (ci := 3) C iX4 dX4_has_6 0 rfl rfl 3 (by decide) hw_45 rfl ?_
    refine cx_icmp_ge (tgt := 16) C dX4_has_9 (by decide) (fun c2 => ?_) (fun c2 => ?_)
    · have hf := cx_if_t hf c2
      clear c2
      refine cx_iconst (v := 0) C dX4_has_16 (by decide) ?_
      obtain rfl := Option.some.inj hf
      exact cx_zret C hA hQ hr hlk dX4_has_17 rfl rfl rfl
    · have hf := cx_if_f hf c2
      clear c2
      refine cx_iconst (v := 1) C dX4_has_12 (by decide) ?_
      refine cx_goto (tgt := 17) C dX4_has_13 (by decide) ?_
      obtain rfl := Option.some.inj hf
      exact cx_zret C hA hQ hr hlk dX4_has_17 rfl rfl rfl
theorem dX4_put_0 : decode cX4_put 0 = .ok (.aload_n 0, 1) := by decide +kernel
theorem dX4_put_1 : decode cX4_put 1 = .ok (.iload_n 1, 1) := by decide +kernel
theorem dX4_put_2 : decode cX4_put 2 = .ok (.invokevirtual 31, 3) := by decide +kernel
theorem dX4_put_5 : decode cX4_put 5 = .ok (.ifCond .eq 31, 3) := by decide +kernel
theorem dX4_put_8 : decode cX4_put 8 = .ok (.iload_n 2, 1) := by decide +kernel
theorem dX4_put_9 : decode cX4_put 9 = .ok (.iconst 0, 1) := by decide +kernel
theorem dX4_put_10 : decode cX4_put 10 = .ok (.aload_n 0, 1) := by decide +kernel
theorem dX4_put_11 : decode cX4_put 11 = .ok (.getfield 15, 3) := by decide +kernel
theorem dX4_put_14 : decode cX4_put 14 = .ok (.iconst 1, 1) := by decide +kernel
theorem dX4_put_15 : decode cX4_put 15 = .ok (.isub, 1) := by decide +kernel
theorem dX4_put_16 : decode cX4_put 16 = .ok (.invokestatic 35, 3) := by decide +kernel
theorem dX4_put_19 : decode cX4_put 19 = .ok (.ifCond .eq 17, 3) := by decide +kernel
theorem dX4_put_22 : decode cX4_put 22 = .ok (.aload_n 0, 1) := by decide +kernel
theorem dX4_put_23 : decode cX4_put 23 = .ok (.getfield 27, 3) := by decide +kernel
theorem dX4_put_26 : decode cX4_put 26 = .ok (.iload_n 1, 1) := by decide +kernel
theorem dX4_put_27 : decode cX4_put 27 = .ok (.aload_n 0, 1) := by decide +kernel
theorem dX4_put_28 : decode cX4_put 28 = .ok (.getfield 15, 3) := by decide +kernel
theorem dX4_put_31 : decode cX4_put 31 = .ok (.imul, 1) := by decide +kernel
theorem dX4_put_32 : decode cX4_put 32 = .ok (.iload_n 2, 1) := by decide +kernel
theorem dX4_put_33 : decode cX4_put 33 = .ok (.iadd, 1) := by decide +kernel
theorem dX4_put_34 : decode cX4_put 34 = .ok (.iload_n 3, 1) := by decide +kernel
theorem dX4_put_35 : decode cX4_put 35 = .ok (.iastore, 1) := by decide +kernel
theorem dX4_put_36 : decode cX4_put 36 = .ok (.return_, 1) := by decide +kernel
theorem me_X4_put : cx_Mv yX4_put cX4_put 4 none 3 := ⟨⟨⟨by decide +kernel, by decide +kernel, by decide +kernel⟩, hw_3, hw_350⟩, hw_348, hw_349⟩
noncomputable def f_X4_put (r_w : Int32) (r_n : Nat) (r_c : Nat → Int32) (r_z : Int32) (p1 : Int32) (p2 : Int32) (p3 : Int32) : Option (Nat → Int32) := Option.bind (f_X4_has r_z p1) (fun u1 => if u1 = 0 then (some r_c) else (Option.bind (f_X8_within p2 0 (r_w - 1)) (fun u4 => if u4 = 0 then (some r_c) else (cx_gd (cx_ib ((p1 * r_w) + p2) r_n) (cx_let (upd r_c (cx_ix ((p1 * r_w) + p2)) p3) (fun a8 => some a8))))))
set_option maxHeartbeats 4000000 in
set_option maxRecDepth 100000 in
theorem c_X4_put (l : Launch) (D : va_G) (k : Nat → ClassId) (r_a0 : Nat) (r_a1 : Nat) (r_w : Int32) (r_lim : Int32) (r_n : Nat) (r_c : Nat → Int32) (r_z : Int32) (p1 : Int32) (p2 : Int32) (p3 : Int32) (y : Nat → Int32) (hf : f_X4_put r_w r_n r_c r_z p1 p2 p3 = some y) : cx_M l yX4_put cX4_put 4 none 2 D k [.ref r_a0, .int p1, .int p2, .int p3] (wd_Rows k r_a0 r_a1 r_w r_lim r_n r_c r_z) (fun sz => cx_Qv D (wd_Rows k r_a0 r_a1 r_w r_lim r_n r_c r_z) (wd_Rows k r_a0 r_a1 r_w r_lim r_n y r_z) sz) := by
  refine cx_met (own := "NamelessBox$Rows") (by decide) rfl (Nat.le_of_ble_eq_true rfl) ?_
  intro p e s m args below meth c A Q C hA hQ hr hlk
  refine cx_lv (lv' := [(0, .ref r_a0), (1, .int p1), (2, .int p2), (3, .int p3)]) [0, 1, 2, 3] rfl ?_
  unfold f_X4_put at hf
  refine cx_aload_n C dX4_put_0 0 rfl ?_
  refine cx_iload_n C dX4_put_1 1 rfl ?_
  obtain ⟨u1, e2, hf⟩ := cx_bd_at hf
  refine cx_Fvi (q := (RX4, TX4, 4)) (As := [.int p1]) (rest := []) (w1 := (wd_Rows k r_a0 r_a1 r_w r_lim r_n r_c r_z)) hA C me_X4_has hw_351 (c_X4_has l D k r_a0 r_a1 r_w r_lim r_n r_c r_z p1 u1 e2) dX4_put_2 ⟨Nat.le_of_ble_eq_true rfl, Nat.le_of_ble_eq_true rfl⟩ ⟨Nat.zero_le _, Nat.zero_le _⟩ rfl rfl (Nat.le_of_ble_eq_true rfl) rfl rfl rfl ?_
  clear e2
  refine cx_if_eq (tgt := 36) C dX4_put_5 (by decide) (fun c3 => ?_) (fun c3 => ?_)
  · have hf := cx_if_t hf c3
    clear c3
    obtain rfl := Option.some.inj hf
    exact cx_vret C hA hQ hr hlk dX4_put_36 rfl
  · have hf := cx_if_f hf c3
    clear c3
    refine cx_iload_n C dX4_put_8 2 rfl ?_
    refine cx_iconst (v := 0) C dX4_put_9 (by decide) ?_
    refine cx_aload_n C dX4_put_10 0 rfl ?_
    refine cx_get (v := .int r_w) (ci := 3) C iX4 dX4_put_11 0 rfl rfl 0 (by decide) hw_42 rfl ?_
    refine cx_iconst (v := 1) C dX4_put_14 (by decide) ?_
    refine cx_isub C dX4_put_15 ?_
    obtain ⟨u4, e5, hf⟩ := cx_bd_at hf
    refine cx_Kni (As := [.int p2, .int 0, .int (r_w - 1)]) (rest := []) hA C me_X8_within (fun h => h.2.2.2.1) (c_X8_within l D k p2 0 (r_w - 1) u4 e5) dX4_put_16 ⟨Nat.le_of_ble_eq_true rfl, Nat.le_of_ble_eq_true rfl⟩ ⟨Nat.zero_le _, Nat.zero_le _⟩ rfl rfl (Nat.le_of_ble_eq_true rfl) [] rfl (by decide) ?_
    clear e5
    refine cx_if_eq (tgt := 36) C dX4_put_19 (by decide) (fun c6 => ?_) (fun c6 => ?_)
    · have hf := cx_if_t hf c6
      clear c6
      obtain rfl := Option.some.inj hf
      exact cx_vret C hA hQ hr hlk dX4_put_36 rfl
    · have hf := cx_if_f hf c6
      clear c6
      refine cx_aload_n C dX4_put_22 0 rfl ?_
      refine cx_get (v := .ref r_a1) (ci := 3) C iX4 dX4_put_23 0 rfl rfl 2 (by decide) hw_44 rfl ?_
      refine cx_iload_n C dX4_put_26 1 rfl ?_
      refine cx_aload_n C dX4_put_27 0 rfl ?_
      refine cx_get (v := .int r_w) (ci := 3) C iX4 dX4_put_28 0 rfl rfl 0 (by decide) hw_42 rfl ?_
      refine cx_imul C dX4_put_31 ?_
      refine cx_iload_n C dX4_put_32 2 rfl ?_
      refine cx_iadd C dX4_put_33 ?_
      refine cx_iload_n C dX4_put_34 3 rfl ?_
      obtain ⟨g7, hf⟩ := cx_gd_at hf
      obtain ⟨a8, ea8⟩ : ∃ z, z = upd r_c (cx_ix ((p1 * r_w) + p2)) p3 := ⟨_, rfl⟩
      have hf := cx_let_at hf ea8
      refine cx_iast (ws' := (wd_Rows k r_a0 r_a1 r_w r_lim r_n a8 r_z)) C dX4_put_35 1 rfl (cx_ib_in g7) (by rw [ea8]; rfl) ?_
      clear ea8 g7
      obtain rfl := Option.some.inj hf
      exact cx_vret C hA hQ hr hlk dX4_put_36 rfl
theorem dX4_isFull_0 : decode cX4_isFull 0 = .ok (.aload_n 0, 1) := by decide +kernel
theorem dX4_isFull_1 : decode cX4_isFull 1 = .ok (.getfield 9, 3) := by decide +kernel
theorem dX4_isFull_4 : decode cX4_isFull 4 = .ok (.aload_n 0, 1) := by decide +kernel
theorem dX4_isFull_5 : decode cX4_isFull 5 = .ok (.getfield 18, 3) := by decide +kernel
theorem dX4_isFull_8 : decode cX4_isFull 8 = .ok (.if_icmp .lt 7, 3) := by decide +kernel
theorem dX4_isFull_11 : decode cX4_isFull 11 = .ok (.iconst 1, 1) := by decide +kernel
theorem dX4_isFull_12 : decode cX4_isFull 12 = .ok (.goto 4, 3) := by decide +kernel
theorem dX4_isFull_15 : decode cX4_isFull 15 = .ok (.iconst 0, 1) := by decide +kernel
theorem dX4_isFull_16 : decode cX4_isFull 16 = .ok (.ireturn, 1) := by decide +kernel
theorem me_X4_isFull : cx_Mv yX4_isFull cX4_isFull 1 (some .boolean) 0 := ⟨⟨⟨by decide +kernel, by decide +kernel, by decide +kernel⟩, hw_3, hw_341⟩, hw_339, hw_340⟩
noncomputable def f_X4_isFull (r_lim : Int32) (r_z : Int32) : Option Int32 := if r_z < r_lim then (some 0) else (some 1)
set_option maxHeartbeats 4000000 in
set_option maxRecDepth 100000 in
theorem c_X4_isFull (l : Launch) (D : va_G) (k : Nat → ClassId) (r_a0 : Nat) (r_a1 : Nat) (r_w : Int32) (r_lim : Int32) (r_n : Nat) (r_c : Nat → Int32) (r_z : Int32) (y : Int32) (hf : f_X4_isFull r_lim r_z = some y) : cx_M l yX4_isFull cX4_isFull 1 (some .boolean) 1 D k [.ref r_a0] (wd_Rows k r_a0 r_a1 r_w r_lim r_n r_c r_z) (fun sz => cx_Qi D y (wd_Rows k r_a0 r_a1 r_w r_lim r_n r_c r_z) (wd_Rows k r_a0 r_a1 r_w r_lim r_n r_c r_z) sz) := by
  refine cx_met (own := "NamelessBox$Rows") (by decide) rfl (Nat.le_of_ble_eq_true rfl) ?_
  intro p e s m args below meth c A Q C hA hQ hr hlk
  refine cx_lv (lv' := [(0, .ref r_a0)]) [0] rfl ?_
  unfold f_X4_isFull at hf
  refine cx_aload_n C dX4_isFull_0 0 rfl ?_
  refine cx_get (v := .int r_z) (ci := 3) C iX4 dX4_isFull_1 0 rfl rfl 3 (by decide) hw_45 rfl ?_
  refine cx_aload_n C dX4_isFull_4 0 rfl ?_
  refine cx_get (v := .int r_lim) (ci := 3) C iX4 dX4_isFull_5 0 rfl rfl 1 (by decide) hw_43 rfl ?_
  refine cx_icmp_lt (tgt := 15) C dX4_isFull_8 (by decide) (fun c1 => ?_) (fun c1 => ?_)
  · have hf := cx_if_t hf c1
    clear c1
    refine cx_iconst (v := 0) C dX4_isFull_15 (by decide) ?_
    obtain rfl := Option.some.inj hf
    exact cx_zret C hA hQ hr hlk dX4_isFull_16 rfl rfl rfl
  · have hf := cx_if_f hf c1
    clear c1
    refine cx_iconst (v := 1) C dX4_isFull_11 (by decide) ?_
    refine cx_goto (tgt := 16) C dX4_isFull_12 (by decide) ?_
    obtain rfl := Option.some.inj hf
    exact cx_zret C hA hQ hr hlk dX4_isFull_16 rfl rfl rfl
theorem dX4_grow_0 : decode cX4_grow 0 = .ok (.aload_n 0, 1) := by decide +kernel
theorem dX4_grow_1 : decode cX4_grow 1 = .ok (.invokevirtual 39, 3) := by decide +kernel
theorem dX4_grow_4 : decode cX4_grow 4 = .ok (.ifCond .ne 13, 3) := by decide +kernel
theorem dX4_grow_7 : decode cX4_grow 7 = .ok (.aload_n 0, 1) := by decide +kernel
theorem dX4_grow_8 : decode cX4_grow 8 = .ok (.dup, 1) := by decide +kernel
theorem dX4_grow_9 : decode cX4_grow 9 = .ok (.getfield 9, 3) := by decide +kernel
theorem dX4_grow_12 : decode cX4_grow 12 = .ok (.iconst 1, 1) := by decide +kernel
theorem dX4_grow_13 : decode cX4_grow 13 = .ok (.iadd, 1) := by decide +kernel
theorem dX4_grow_14 : decode cX4_grow 14 = .ok (.putfield 9, 3) := by decide +kernel
theorem dX4_grow_17 : decode cX4_grow 17 = .ok (.aload_n 0, 1) := by decide +kernel
theorem dX4_grow_18 : decode cX4_grow 18 = .ok (.getfield 9, 3) := by decide +kernel
theorem dX4_grow_21 : decode cX4_grow 21 = .ok (.iconst 1, 1) := by decide +kernel
theorem dX4_grow_22 : decode cX4_grow 22 = .ok (.isub, 1) := by decide +kernel
theorem dX4_grow_23 : decode cX4_grow 23 = .ok (.ireturn, 1) := by decide +kernel
theorem me_X4_grow : cx_Mv yX4_grow cX4_grow 1 (some .int) 0 := ⟨⟨⟨by decide +kernel, by decide +kernel, by decide +kernel⟩, hw_3, hw_345⟩, hw_343, hw_344⟩
noncomputable def f_X4_grow_J17 (h_4 : Int32) : Option (Int32 × Int32) := some ((h_4 - 1, h_4))
noncomputable def f_X4_grow (r_lim : Int32) (r_z : Int32) : Option (Int32 × Int32) := Option.bind (f_X4_isFull r_lim r_z) (fun u1 => if u1 = 0 then (f_X4_grow_J17 (r_z + 1)) else (f_X4_grow_J17 r_z))
set_option maxHeartbeats 4000000 in
set_option maxRecDepth 100000 in
theorem c_X4_grow (l : Launch) (D : va_G) (k : Nat → ClassId) (r_a0 : Nat) (r_a1 : Nat) (r_w : Int32) (r_lim : Int32) (r_n : Nat) (r_c : Nat → Int32) (r_z : Int32) (y : Int32 × Int32) (hf : f_X4_grow r_lim r_z = some y) : cx_M l yX4_grow cX4_grow 1 (some .int) 2 D k [.ref r_a0] (wd_Rows k r_a0 r_a1 r_w r_lim r_n r_c r_z) (fun sz => cx_Qi D y.1 (wd_Rows k r_a0 r_a1 r_w r_lim r_n r_c r_z) (wd_Rows k r_a0 r_a1 r_w r_lim r_n r_c y.2) sz) := by
  refine cx_met (own := "NamelessBox$Rows") (by decide) rfl (Nat.le_of_ble_eq_true rfl) ?_
  intro p e s m args below meth c A Q C hA hQ hr hlk
  refine cx_lv (lv' := [(0, .ref r_a0)]) [0] rfl ?_
  have J17 : ∀ (h_4 : Int32), f_X4_grow_J17 h_4 = some y → cx_S p l e (cx_rm 2) s m args below meth c A D 1 0 0 Q 17 [(0, .ref r_a0)] [] (wd_Rows k r_a0 r_a1 r_w r_lim r_n r_c h_4) := by
    intro h_4 hf
    unfold f_X4_grow_J17 at hf
    refine cx_aload_n C dX4_grow_17 0 rfl ?_
    refine cx_get (v := .int h_4) (ci := 3) C iX4 dX4_grow_18 0 rfl rfl 3 (by decide) hw_45 rfl ?_
    refine cx_iconst (v := 1) C dX4_grow_21 (by decide) ?_
    refine cx_isub C dX4_grow_22 ?_
    obtain rfl := Option.some.inj hf
    exact cx_iret C hA hQ hr hlk dX4_grow_23 rfl rfl
  unfold f_X4_grow at hf
  refine cx_aload_n C dX4_grow_0 0 rfl ?_
  obtain ⟨u1, e2, hf⟩ := cx_bd_at hf
  refine cx_Fvi (q := (RX4, TX4, 4)) (As := []) (rest := []) (w1 := (wd_Rows k r_a0 r_a1 r_w r_lim r_n r_c r_z)) hA C me_X4_isFull hw_346 (c_X4_isFull l D k r_a0 r_a1 r_w r_lim r_n r_c r_z u1 e2) dX4_grow_1 ⟨Nat.le_of_ble_eq_true rfl, Nat.le_of_ble_eq_true rfl⟩ ⟨Nat.zero_le _, Nat.zero_le _⟩ rfl rfl (Nat.le_of_ble_eq_true rfl) rfl rfl rfl ?_
  clear e2
  refine cx_if_ne (tgt := 17) C dX4_grow_4 (by decide) (fun c3 => ?_) (fun c3 => ?_)
  · have hf := cx_if_f hf c3
    clear c3
    exact J17 r_z hf
  · have hf := cx_if_t hf c3
    clear c3
    refine cx_aload_n C dX4_grow_7 0 rfl ?_
    refine cx_dup C dX4_grow_8 rfl ?_
    refine cx_get (v := .int r_z) (ci := 3) C iX4 dX4_grow_9 0 rfl rfl 3 (by decide) hw_45 rfl ?_
    refine cx_iconst (v := 1) C dX4_grow_12 (by decide) ?_
    refine cx_iadd C dX4_grow_13 ?_
    refine cx_putf (v := .int (r_z + 1)) (ty := .int) (ci := 3) (ws' := (wd_Rows k r_a0 r_a1 r_w r_lim r_n r_c (r_z + 1))) C iX4 tyX4 tyX4_ok nmX4 dX4_grow_14 0 rfl rfl 3 (by decide) hw_45 rfl (by decide +kernel) rfl rfl (Nat.le_of_ble_eq_true rfl) rfl ?_
    exact J17 (r_z + 1) hf
theorem dX4_take_0 : decode cX4_take 0 = .ok (.aload_n 1, 1) := by decide +kernel
theorem dX4_take_1 : decode cX4_take 1 = .ok (.getfield 27, 3) := by decide +kernel
theorem dX4_take_4 : decode cX4_take 4 = .ok (.iconst 0, 1) := by decide +kernel
theorem dX4_take_5 : decode cX4_take 5 = .ok (.aload_n 0, 1) := by decide +kernel
theorem dX4_take_6 : decode cX4_take 6 = .ok (.getfield 27, 3) := by decide +kernel
theorem dX4_take_9 : decode cX4_take 9 = .ok (.iconst 0, 1) := by decide +kernel
theorem dX4_take_10 : decode cX4_take 10 = .ok (.aload_n 0, 1) := by decide +kernel
theorem dX4_take_11 : decode cX4_take 11 = .ok (.getfield 27, 3) := by decide +kernel
theorem dX4_take_14 : decode cX4_take 14 = .ok (.arraylength, 1) := by decide +kernel
theorem dX4_take_15 : decode cX4_take 15 = .ok (.aload_n 1, 1) := by decide +kernel
theorem dX4_take_16 : decode cX4_take 16 = .ok (.getfield 27, 3) := by decide +kernel
theorem dX4_take_19 : decode cX4_take 19 = .ok (.arraylength, 1) := by decide +kernel
theorem dX4_take_20 : decode cX4_take 20 = .ok (.invokestatic 43, 3) := by decide +kernel
theorem dX4_take_23 : decode cX4_take 23 = .ok (.invokestatic 46, 3) := by decide +kernel
theorem dX4_take_26 : decode cX4_take 26 = .ok (.aload_n 0, 1) := by decide +kernel
theorem dX4_take_27 : decode cX4_take 27 = .ok (.aload_n 1, 1) := by decide +kernel
theorem dX4_take_28 : decode cX4_take 28 = .ok (.getfield 9, 3) := by decide +kernel
theorem dX4_take_31 : decode cX4_take 31 = .ok (.aload_n 0, 1) := by decide +kernel
theorem dX4_take_32 : decode cX4_take 32 = .ok (.getfield 18, 3) := by decide +kernel
theorem dX4_take_35 : decode cX4_take 35 = .ok (.invokestatic 43, 3) := by decide +kernel
theorem dX4_take_38 : decode cX4_take 38 = .ok (.putfield 9, 3) := by decide +kernel
theorem dX4_take_41 : decode cX4_take 41 = .ok (.return_, 1) := by decide +kernel
theorem me_X4_take : cx_Mv yX4_take cX4_take 2 none 1 := ⟨⟨⟨by decide +kernel, by decide +kernel, by decide +kernel⟩, hw_3, hw_610⟩, hw_608, hw_609⟩
noncomputable def f_X4_take (r_lim : Int32) (r_n : Nat) (r_c : Nat → Int32) (e1_n : Nat) (e1_c : Nat → Int32) (e1_z : Int32) : Option (Int32 × (Nat → Int32)) := cx_gd (cx_cb 0 0 (if (Int32.ofNat e1_n) < (Int32.ofNat r_n) then (Int32.ofNat e1_n) else (Int32.ofNat r_n)) e1_n r_n) (cx_let (va_cpy e1_c r_c (cx_ix 0) (cx_ix 0) (cx_ix (if (Int32.ofNat e1_n) < (Int32.ofNat r_n) then (Int32.ofNat e1_n) else (Int32.ofNat r_n)))) (fun a2 => some ((if r_lim < e1_z then r_lim else e1_z, a2))))
set_option maxHeartbeats 4000000 in
set_option maxRecDepth 100000 in
theorem c_X4_take (l : Launch) (D : va_G) (k : Nat → ClassId) (r_a0 : Nat) (r_a1 : Nat) (e1_a0 : Nat) (e1_a1 : Nat) (r_w : Int32) (r_lim : Int32) (r_n : Nat) (r_c : Nat → Int32) (r_z : Int32) (e1_w : Int32) (e1_lim : Int32) (e1_n : Nat) (e1_c : Nat → Int32) (e1_z : Int32) (y : Int32 × (Nat → Int32)) (hf : f_X4_take r_lim r_n r_c e1_n e1_c e1_z = some y) : cx_M l yX4_take cX4_take 2 none 1 D k [.ref r_a0, .ref e1_a0] (wd_Rows k r_a0 r_a1 r_w r_lim r_n r_c r_z ++ (wd_Rows k e1_a0 e1_a1 e1_w e1_lim e1_n e1_c e1_z)) (fun sz => cx_Qv D (wd_Rows k r_a0 r_a1 r_w r_lim r_n r_c r_z ++ (wd_Rows k e1_a0 e1_a1 e1_w e1_lim e1_n e1_c e1_z)) (wd_Rows k r_a0 r_a1 r_w r_lim r_n y.2 y.1 ++ (wd_Rows k e1_a0 e1_a1 e1_w e1_lim e1_n e1_c e1_z)) sz) := by
  refine cx_met (own := "NamelessBox$Rows") (by decide) rfl (Nat.le_of_ble_eq_true rfl) ?_
  intro p e s m args below meth c A Q C hA hQ hr hlk
  refine cx_lv (lv' := [(0, .ref r_a0), (1, .ref e1_a0)]) [0, 1] rfl ?_
  unfold f_X4_take at hf
  refine cx_aload_n C dX4_take_0 1 rfl ?_
  refine cx_get (v := .ref e1_a1) (ci := 3) C iX4 dX4_take_1 2 rfl rfl 2 (by decide) hw_44 rfl ?_
  refine cx_iconst (v := 0) C dX4_take_4 (by decide) ?_
  refine cx_aload_n C dX4_take_5 0 rfl ?_
  refine cx_get (v := .ref r_a1) (ci := 3) C iX4 dX4_take_6 0 rfl rfl 2 (by decide) hw_44 rfl ?_
  refine cx_iconst (v := 0) C dX4_take_9 (by decide) ?_
  refine cx_aload_n C dX4_take_10 0 rfl ?_
  refine cx_get (v := .ref r_a1) (ci := 3) C iX4 dX4_take_11 0 rfl rfl 2 (by decide) hw_44 rfl ?_
  refine cx_alen (v := Int32.ofNat r_n) C dX4_take_14 1 0 rfl rfl rfl ?_
  refine cx_aload_n C dX4_take_15 1 rfl ?_
  refine cx_get (v := .ref e1_a1) (ci := 3) C iX4 dX4_take_16 2 rfl rfl 2 (by decide) hw_44 rfl ?_
  refine cx_alen (v := Int32.ofNat e1_n) C dX4_take_19 3 0 rfl rfl rfl ?_
  refine cx_mmin C dX4_take_20 hw_611 hw_612 hw_4 hw_613 (Nat.le_of_ble_eq_true rfl) (Nat.le_of_ble_eq_true rfl) ⟨Nat.zero_le _, Nat.zero_le _⟩ ?_
  obtain ⟨g1, hf⟩ := cx_gd_at hf
  obtain ⟨a2, ea2⟩ : ∃ z, z = va_cpy e1_c r_c (cx_ix 0) (cx_ix 0) (cx_ix (if (Int32.ofNat e1_n) < (Int32.ofNat r_n) then (Int32.ofNat e1_n) else (Int32.ofNat r_n))) := ⟨_, rfl⟩
  have hf := cx_let_at hf ea2
  refine cx_copyi (ws' := (wd_Rows k r_a0 r_a1 r_w r_lim r_n a2 r_z ++ (wd_Rows k e1_a0 e1_a1 e1_w e1_lim e1_n e1_c e1_z))) C dX4_take_23 hw_614 hw_616 hw_615 hw_16 3 1 rfl rfl g1 (fun _ => rfl) (Nat.le_of_ble_eq_true rfl) (Nat.le_of_ble_eq_true rfl) (by rw [ea2]; rfl) ?_
  clear ea2 g1
  refine cx_aload_n C dX4_take_26 0 rfl ?_
  refine cx_aload_n C dX4_take_27 1 rfl ?_
  refine cx_get (v := .int e1_z) (ci := 3) C iX4 dX4_take_28 2 rfl rfl 3 (by decide) hw_45 rfl ?_
  refine cx_aload_n C dX4_take_31 0 rfl ?_
  refine cx_get (v := .int r_lim) (ci := 3) C iX4 dX4_take_32 0 rfl rfl 1 (by decide) hw_43 rfl ?_
  refine cx_mmin C dX4_take_35 hw_611 hw_612 hw_4 hw_613 (Nat.le_of_ble_eq_true rfl) (Nat.le_of_ble_eq_true rfl) ⟨Nat.zero_le _, Nat.zero_le _⟩ ?_
  refine cx_putf (v := .int (if r_lim < e1_z then r_lim else e1_z)) (ty := .int) (ci := 3) (ws' := (wd_Rows k r_a0 r_a1 r_w r_lim r_n a2 (if r_lim < e1_z then r_lim else e1_z) ++ (wd_Rows k e1_a0 e1_a1 e1_w e1_lim e1_n e1_c e1_z))) C iX4 tyX4 tyX4_ok nmX4 dX4_take_38 0 rfl rfl 3 (by decide) hw_45 rfl (by decide +kernel) rfl rfl (Nat.le_of_ble_eq_true rfl) rfl ?_
  obtain rfl := Option.some.inj hf
  exact cx_vret C hA hQ hr hlk dX4_take_41 rfl
theorem dX4_mixInto_0 : decode cX4_mixInto 0 = .ok (.lload_n 1, 1) := by decide +kernel
theorem dX4_mixInto_1 : decode cX4_mixInto 1 = .ok (.lstore_n 3, 1) := by decide +kernel
theorem dX4_mixInto_2 : decode cX4_mixInto 2 = .ok (.iconst 0, 1) := by decide +kernel
theorem dX4_mixInto_3 : decode cX4_mixInto 3 = .ok (.istore 5, 2) := by decide +kernel
theorem dX4_mixInto_5 : decode cX4_mixInto 5 = .ok (.iload 5, 2) := by decide +kernel
theorem dX4_mixInto_7 : decode cX4_mixInto 7 = .ok (.aload_n 0, 1) := by decide +kernel
theorem dX4_mixInto_8 : decode cX4_mixInto 8 = .ok (.getfield 9, 3) := by decide +kernel
theorem dX4_mixInto_11 : decode cX4_mixInto 11 = .ok (.aload_n 0, 1) := by decide +kernel
theorem dX4_mixInto_12 : decode cX4_mixInto 12 = .ok (.getfield 15, 3) := by decide +kernel
theorem dX4_mixInto_15 : decode cX4_mixInto 15 = .ok (.imul, 1) := by decide +kernel
theorem dX4_mixInto_16 : decode cX4_mixInto 16 = .ok (.if_icmp .ge 24, 3) := by decide +kernel
theorem dX4_mixInto_19 : decode cX4_mixInto 19 = .ok (.ldc2_w 52, 3) := by decide +kernel
theorem dX4_mixInto_22 : decode cX4_mixInto 22 = .ok (.lload_n 3, 1) := by decide +kernel
theorem dX4_mixInto_23 : decode cX4_mixInto 23 = .ok (.lmul, 1) := by decide +kernel
theorem dX4_mixInto_24 : decode cX4_mixInto 24 = .ok (.aload_n 0, 1) := by decide +kernel
theorem dX4_mixInto_25 : decode cX4_mixInto 25 = .ok (.getfield 27, 3) := by decide +kernel
theorem dX4_mixInto_28 : decode cX4_mixInto 28 = .ok (.iload 5, 2) := by decide +kernel
theorem dX4_mixInto_30 : decode cX4_mixInto 30 = .ok (.iaload, 1) := by decide +kernel
theorem dX4_mixInto_31 : decode cX4_mixInto 31 = .ok (.i2l, 1) := by decide +kernel
theorem dX4_mixInto_32 : decode cX4_mixInto 32 = .ok (.ladd, 1) := by decide +kernel
theorem dX4_mixInto_33 : decode cX4_mixInto 33 = .ok (.lstore_n 3, 1) := by decide +kernel
theorem dX4_mixInto_34 : decode cX4_mixInto 34 = .ok (.iinc 5 1, 3) := by decide +kernel
theorem dX4_mixInto_37 : decode cX4_mixInto 37 = .ok (.goto (-32), 3) := by decide +kernel
theorem dX4_mixInto_40 : decode cX4_mixInto 40 = .ok (.lload_n 3, 1) := by decide +kernel
theorem dX4_mixInto_41 : decode cX4_mixInto 41 = .ok (.lreturn, 1) := by decide +kernel
theorem me_X4_mixInto : cx_Mv yX4_mixInto cX4_mixInto 6 (some .long) 1 := ⟨⟨⟨by decide +kernel, by decide +kernel, by decide +kernel⟩, hw_3, hw_1031⟩, hw_1029, hw_1030⟩
noncomputable def f_X4_mixInto_L5 (r_w : Int32) (r_n : Nat) (r_c : Nat → Int32) (r_z : Int32) (rc5 : Int64 → Int32 → Option Int64) (x3_1 : Int64) (x5_2 : Int32) : Option Int64 := if (r_z * r_w) ≤ x5_2 then (some x3_1) else (cx_gd (cx_ib x5_2 r_n) (cx_let ((31 * x3_1) + (Int32.toInt64 (r_c (cx_ix x5_2)))) (fun v5 => rc5 v5 (x5_2 + 1))))
noncomputable def f_X4_mixInto_L5w (r_w : Int32) (r_n : Nat) (r_c : Nat → Int32) (r_z : Int32) (n : Nat) : Int64 → Int32 → Option Int64 := Nat.rec (fun _ _ => none) (fun _ r => f_X4_mixInto_L5 r_w r_n r_c r_z r) n
noncomputable def f_X4_mixInto (r_w : Int32) (r_n : Nat) (r_c : Nat → Int32) (r_z : Int32) (p1 : Int64) : Option Int64 := f_X4_mixInto_L5w r_w r_n r_c r_z cx_N0 p1 0
set_option maxHeartbeats 4000000 in
set_option maxRecDepth 100000 in
theorem c_X4_mixInto (l : Launch) (D : va_G) (k : Nat → ClassId) (r_a0 : Nat) (r_a1 : Nat) (r_w : Int32) (r_lim : Int32) (r_n : Nat) (r_c : Nat → Int32) (r_z : Int32) (p1 : Int64) (y : Int64) (hf : f_X4_mixInto r_w r_n r_c r_z p1 = some y) : cx_M l yX4_mixInto cX4_mixInto 6 (some .long) 1 D k [.ref r_a0, .long p1] (wd_Rows k r_a0 r_a1 r_w r_lim r_n r_c r_z) (fun sz => cx_Ql D y (wd_Rows k r_a0 r_a1 r_w r_lim r_n r_c r_z) (wd_Rows k r_a0 r_a1 r_w r_lim r_n r_c r_z) sz) := by
  refine cx_met (own := "NamelessBox$Rows") (by decide) rfl (Nat.le_of_ble_eq_true rfl) ?_
  intro p e s m args below meth c A Q C hA hQ hr hlk
  refine cx_lv (lv' := [(0, .ref r_a0), (1, .long p1)]) [0, 1] rfl ?_
  have L5 : ∀ (n5 : Nat) (x3_1 : Int64) (x5_2 : Int32), f_X4_mixInto_L5w r_w r_n r_c r_z n5 x3_1 x5_2 = some y → cx_S p l e (cx_rm 1) s m args below meth c A D 6 0 0 Q 5 [(0, .ref r_a0), (3, .long x3_1), (5, .int x5_2)] [] (wd_Rows k r_a0 r_a1 r_w r_lim r_n r_c r_z) := by
    intro  n5
    induction n5 with
    | zero =>
      intro x3_1 x5_2 hf
      exact absurd (show (none : Option Int64) = some y from hf) (fun h => by cases h)
    | succ n5 ih5 =>
      intro x3_1 x5_2 hf
      have hf : f_X4_mixInto_L5 r_w r_n r_c r_z (f_X4_mixInto_L5w r_w r_n r_c r_z n5) x3_1 x5_2 = some y := hf
      unfold f_X4_mixInto_L5 at hf
      refine cx_iload C dX4_mixInto_5 2 rfl ?_
      refine cx_aload_n C dX4_mixInto_7 0 rfl ?_
      refine cx_get (v := .int r_z) (ci := 3) C iX4 dX4_mixInto_8 0 rfl rfl 3 (by decide) hw_45 rfl ?_
      refine cx_aload_n C dX4_mixInto_11 0 rfl ?_
      refine cx_get (v := .int r_w) (ci := 3) C iX4 dX4_mixInto_12 0 rfl rfl 0 (by decide) hw_42 rfl ?_
      refine cx_imul C dX4_mixInto_15 ?_
      refine cx_icmp_ge (tgt := 40) C dX4_mixInto_16 (by decide) (fun c3 => ?_) (fun c3 => ?_)
      · have hf := cx_if_t hf c3
        clear c3
        refine cx_lload_n C dX4_mixInto_40 1 rfl ?_
        obtain rfl := Option.some.inj hf
        exact cx_lret C hA hQ hr hlk dX4_mixInto_41 rfl rfl
      · have hf := cx_if_f hf c3
        clear c3
        refine cx_ldc2 (v := 31) C dX4_mixInto_19 hw_1032 ?_
        refine cx_lload_n C dX4_mixInto_22 1 rfl ?_
        refine cx_lmul C dX4_mixInto_23 ?_
        refine cx_aload_n C dX4_mixInto_24 0 rfl ?_
        refine cx_get (v := .ref r_a1) (ci := 3) C iX4 dX4_mixInto_25 0 rfl rfl 2 (by decide) hw_44 rfl ?_
        refine cx_iload C dX4_mixInto_28 2 rfl ?_
        obtain ⟨g4, hf⟩ := cx_gd_at hf
        refine cx_iald C dX4_mixInto_30 1 rfl (cx_ib_in g4) ?_
        clear g4
        refine cx_i2l C dX4_mixInto_31 ?_
        refine cx_ladd C dX4_mixInto_32 ?_
        refine cx_topl (fun v5 ev5 => ?_)
        have hf := cx_let_at hf ev5
        clear ev5
        refine cx_lstore_n (lv' := [(3, .long v5), (0, .ref r_a0), (5, .int x5_2)]) C dX4_mixInto_33 rfl (by decide) rfl ?_
        refine cx_iinc (v := x5_2 + 1) (lv' := [(5, .int (x5_2 + 1)), (3, .long v5), (0, .ref r_a0)]) C dX4_mixInto_34 2 rfl rfl (by decide) rfl ?_
        refine cx_goto (tgt := 5) C dX4_mixInto_37 (by decide) ?_
        refine cx_lv [2, 1, 0] rfl ?_
        exact ih5 v5 (x5_2 + 1) hf
  unfold f_X4_mixInto at hf
  refine cx_lload_n C dX4_mixInto_0 1 rfl ?_
  refine cx_lstore_n (lv' := [(3, .long p1), (0, .ref r_a0), (1, .long p1)]) C dX4_mixInto_1 rfl (by decide) rfl ?_
  refine cx_iconst (v := 0) C dX4_mixInto_2 (by decide) ?_
  refine cx_istore (lv' := [(5, .int 0), (3, .long p1), (0, .ref r_a0), (1, .long p1)]) C dX4_mixInto_3 (by decide) rfl ?_
  refine cx_lv [2, 1, 0] rfl ?_
  exact L5 cx_N0 p1 0 hf
theorem dX8_whoIs_0 : decode cX8_whoIs 0 = .ok (.iload_n 0, 1) := by decide +kernel
theorem dX8_whoIs_1 : decode cX8_whoIs 1 = .ok (.iconst (-1), 1) := by decide +kernel
theorem dX8_whoIs_2 : decode cX8_whoIs 2 = .ok (.if_icmp .ne 7, 3) := by decide +kernel
theorem dX8_whoIs_5 : decode cX8_whoIs 5 = .ok (.iconst 5, 1) := by decide +kernel
theorem dX8_whoIs_6 : decode cX8_whoIs 6 = .ok (.goto 4, 3) := by decide +kernel
theorem dX8_whoIs_9 : decode cX8_whoIs 9 = .ok (.iload_n 0, 1) := by decide +kernel
theorem dX8_whoIs_10 : decode cX8_whoIs 10 = .ok (.ireturn, 1) := by decide +kernel
theorem me_X8_whoIs : cx_Ms yX8_whoIs cX8_whoIs 1 (some .int) 1 := ⟨⟨⟨by decide +kernel, by decide +kernel, by decide +kernel⟩, hw_1, hw_449⟩, hw_448⟩
noncomputable def f_X8_whoIs (p0 : Int32) : Option Int32 := if p0 = ((-1)) then (some 5) else (some p0)
set_option maxHeartbeats 4000000 in
set_option maxRecDepth 100000 in
theorem c_X8_whoIs (l : Launch) (D : va_G) (k : Nat → ClassId) (p0 : Int32) (y : Int32) (hf : f_X8_whoIs p0 = some y) : cx_M l yX8_whoIs cX8_whoIs 1 (some .int) 1 D k [.int p0] ([] : va_W) (fun sz => cx_Qi D y ([] : va_W) ([] : va_W) sz) := by
  refine cx_met (own := "NamelessBox") (by decide) rfl (Nat.le_of_ble_eq_true rfl) ?_
  intro p e s m args below meth c A Q C hA hQ hr hlk
  refine cx_lv (lv' := [(0, .int p0)]) [0] rfl ?_
  unfold f_X8_whoIs at hf
  refine cx_iload_n C dX8_whoIs_0 0 rfl ?_
  refine cx_iconst (v := (-1)) C dX8_whoIs_1 (by decide) ?_
  refine cx_icmp_ne (tgt := 9) C dX8_whoIs_2 (by decide) (fun c1 => ?_) (fun c1 => ?_)
  · have hf := cx_if_f hf c1
    clear c1
    refine cx_iload_n C dX8_whoIs_9 0 rfl ?_
    obtain rfl := Option.some.inj hf
    exact cx_iret C hA hQ hr hlk dX8_whoIs_10 rfl rfl
  · have hf := cx_if_t hf c1
    clear c1
    refine cx_iconst (v := 5) C dX8_whoIs_5 (by decide) ?_
    refine cx_goto (tgt := 10) C dX8_whoIs_6 (by decide) ?_
    obtain rfl := Option.some.inj hf
    exact cx_iret C hA hQ hr hlk dX8_whoIs_10 rfl rfl
theorem dX8_whoAt_0 : decode cX8_whoAt 0 = .ok (.iload_n 0, 1) := by decide +kernel
theorem dX8_whoAt_1 : decode cX8_whoAt 1 = .ok (.iload_n 1, 1) := by decide +kernel
theorem dX8_whoAt_2 : decode cX8_whoAt 2 = .ok (.if_icmp .ge 7, 3) := by decide +kernel
theorem dX8_whoAt_5 : decode cX8_whoAt 5 = .ok (.iload_n 0, 1) := by decide +kernel
theorem dX8_whoAt_6 : decode cX8_whoAt 6 = .ok (.goto 4, 3) := by decide +kernel
theorem dX8_whoAt_9 : decode cX8_whoAt 9 = .ok (.iconst 5, 1) := by decide +kernel
theorem dX8_whoAt_10 : decode cX8_whoAt 10 = .ok (.ireturn, 1) := by decide +kernel
theorem me_X8_whoAt : cx_Ms yX8_whoAt cX8_whoAt 2 (some .int) 2 := ⟨⟨⟨by decide +kernel, by decide +kernel, by decide +kernel⟩, hw_1, hw_653⟩, hw_652⟩
noncomputable def f_X8_whoAt (p0 : Int32) (p1 : Int32) : Option Int32 := if p1 ≤ p0 then (some 5) else (some p0)
set_option maxHeartbeats 4000000 in
set_option maxRecDepth 100000 in
theorem c_X8_whoAt (l : Launch) (D : va_G) (k : Nat → ClassId) (p0 : Int32) (p1 : Int32) (y : Int32) (hf : f_X8_whoAt p0 p1 = some y) : cx_M l yX8_whoAt cX8_whoAt 2 (some .int) 1 D k [.int p0, .int p1] ([] : va_W) (fun sz => cx_Qi D y ([] : va_W) ([] : va_W) sz) := by
  refine cx_met (own := "NamelessBox") (by decide) rfl (Nat.le_of_ble_eq_true rfl) ?_
  intro p e s m args below meth c A Q C hA hQ hr hlk
  refine cx_lv (lv' := [(0, .int p0), (1, .int p1)]) [0, 1] rfl ?_
  unfold f_X8_whoAt at hf
  refine cx_iload_n C dX8_whoAt_0 0 rfl ?_
  refine cx_iload_n C dX8_whoAt_1 1 rfl ?_
  refine cx_icmp_ge (tgt := 9) C dX8_whoAt_2 (by decide) (fun c1 => ?_) (fun c1 => ?_)
  · have hf := cx_if_t hf c1
    clear c1
    refine cx_iconst (v := 5) C dX8_whoAt_9 (by decide) ?_
    obtain rfl := Option.some.inj hf
    exact cx_iret C hA hQ hr hlk dX8_whoAt_10 rfl rfl
  · have hf := cx_if_f hf c1
    clear c1
    refine cx_iload_n C dX8_whoAt_5 0 rfl ?_
    refine cx_goto (tgt := 10) C dX8_whoAt_6 (by decide) ?_
    obtain rfl := Option.some.inj hf
    exact cx_iret C hA hQ hr hlk dX8_whoAt_10 rfl rfl
theorem dJ13_compare_74951_0 : decode cJ13_compare_74951 0 = .ok (.lload_n 0, 1) := by decide +kernel
theorem dJ13_compare_74951_1 : decode cJ13_compare_74951 1 = .ok (.lload_n 2, 1) := by decide +kernel
theorem dJ13_compare_74951_2 : decode cJ13_compare_74951 2 = .ok (.lcmp, 1) := by decide +kernel
theorem dJ13_compare_74951_3 : decode cJ13_compare_74951 3 = .ok (.ifCond .ge 7, 3) := by decide +kernel
theorem dJ13_compare_74951_6 : decode cJ13_compare_74951 6 = .ok (.iconst (-1), 1) := by decide +kernel
theorem dJ13_compare_74951_7 : decode cJ13_compare_74951 7 = .ok (.goto 14, 3) := by decide +kernel
theorem dJ13_compare_74951_10 : decode cJ13_compare_74951 10 = .ok (.lload_n 0, 1) := by decide +kernel
theorem dJ13_compare_74951_11 : decode cJ13_compare_74951 11 = .ok (.lload_n 2, 1) := by decide +kernel
theorem dJ13_compare_74951_12 : decode cJ13_compare_74951 12 = .ok (.lcmp, 1) := by decide +kernel
theorem dJ13_compare_74951_13 : decode cJ13_compare_74951 13 = .ok (.ifCond .ne 7, 3) := by decide +kernel
theorem dJ13_compare_74951_16 : decode cJ13_compare_74951 16 = .ok (.iconst 0, 1) := by decide +kernel
theorem dJ13_compare_74951_17 : decode cJ13_compare_74951 17 = .ok (.goto 4, 3) := by decide +kernel
theorem dJ13_compare_74951_20 : decode cJ13_compare_74951 20 = .ok (.iconst 1, 1) := by decide +kernel
theorem dJ13_compare_74951_21 : decode cJ13_compare_74951 21 = .ok (.ireturn, 1) := by decide +kernel
theorem me_J13_compare_74951 : cx_Ms yJ13_compare_74951 cJ13_compare_74951 4 (some .int) 2 := ⟨⟨⟨by decide +kernel, by decide +kernel, by decide +kernel⟩, hw_18, hw_705⟩, hw_704⟩
noncomputable def f_J13_compare_74951 (p0 : Int64) (p2 : Int64) : Option Int32 := if 0 ≤ (lg_cmp p0 p2) then (if (lg_cmp p0 p2) = 0 then (some 0) else (some 1)) else (some ((-1)))
set_option maxHeartbeats 4000000 in
set_option maxRecDepth 100000 in
theorem c_J13_compare_74951 (l : Launch) (D : va_G) (k : Nat → ClassId) (p0 : Int64) (p2 : Int64) (y : Int32) (hf : f_J13_compare_74951 p0 p2 = some y) : cx_M l yJ13_compare_74951 cJ13_compare_74951 4 (some .int) 1 D k [.long p0, .long p2] ([] : va_W) (fun sz => cx_Qi D y ([] : va_W) ([] : va_W) sz) := by
  refine cx_met (own := "java/lang/Long") (by decide) rfl (Nat.le_of_ble_eq_true rfl) ?_
  intro p e s m args below meth c A Q C hA hQ hr hlk
  refine cx_lv (lv' := [(0, .long p0), (2, .long p2)]) [0, 1] rfl ?_
  unfold f_J13_compare_74951 at hf
  refine cx_lload_n C dJ13_compare_74951_0 0 rfl ?_
  refine cx_lload_n C dJ13_compare_74951_1 1 rfl ?_
  refine cx_lcmp C dJ13_compare_74951_2 ?_
  refine cx_if_ge (tgt := 10) C dJ13_compare_74951_3 (by decide) (fun c1 => ?_) (fun c1 => ?_)
  · have hf := cx_if_t hf c1
    clear c1
    refine cx_lload_n C dJ13_compare_74951_10 0 rfl ?_
    refine cx_lload_n C dJ13_compare_74951_11 1 rfl ?_
    refine cx_lcmp C dJ13_compare_74951_12 ?_
    refine cx_if_ne (tgt := 20) C dJ13_compare_74951_13 (by decide) (fun c2 => ?_) (fun c2 => ?_)
    · have hf := cx_if_f hf c2
      clear c2
      refine cx_iconst (v := 1) C dJ13_compare_74951_20 (by decide) ?_
      obtain rfl := Option.some.inj hf
      exact cx_iret C hA hQ hr hlk dJ13_compare_74951_21 rfl rfl
    · have hf := cx_if_t hf c2
      clear c2
      refine cx_iconst (v := 0) C dJ13_compare_74951_16 (by decide) ?_
      refine cx_goto (tgt := 21) C dJ13_compare_74951_17 (by decide) ?_
      obtain rfl := Option.some.inj hf
      exact cx_iret C hA hQ hr hlk dJ13_compare_74951_21 rfl rfl
  · have hf := cx_if_f hf c1
    clear c1
    refine cx_iconst (v := (-1)) C dJ13_compare_74951_6 (by decide) ?_
    refine cx_goto (tgt := 21) C dJ13_compare_74951_7 (by decide) ?_
    obtain rfl := Option.some.inj hf
    exact cx_iret C hA hQ hr hlk dJ13_compare_74951_21 rfl rfl
theorem dJ7_fill_d0a16_0 : decode cJ7_fill_d0a16 0 = .ok (.iconst 0, 1) := by decide +kernel
theorem dJ7_fill_d0a16_1 : decode cJ7_fill_d0a16 1 = .ok (.istore_n 3, 1) := by decide +kernel
theorem dJ7_fill_d0a16_2 : decode cJ7_fill_d0a16 2 = .ok (.aload_n 0, 1) := by decide +kernel
theorem dJ7_fill_d0a16_3 : decode cJ7_fill_d0a16 3 = .ok (.arraylength, 1) := by decide +kernel
theorem dJ7_fill_d0a16_4 : decode cJ7_fill_d0a16 4 = .ok (.istore 4, 2) := by decide +kernel
theorem dJ7_fill_d0a16_6 : decode cJ7_fill_d0a16 6 = .ok (.iload_n 3, 1) := by decide +kernel
theorem dJ7_fill_d0a16_7 : decode cJ7_fill_d0a16 7 = .ok (.iload 4, 2) := by decide +kernel
theorem dJ7_fill_d0a16_9 : decode cJ7_fill_d0a16 9 = .ok (.if_icmp .ge 13, 3) := by decide +kernel
theorem dJ7_fill_d0a16_12 : decode cJ7_fill_d0a16 12 = .ok (.aload_n 0, 1) := by decide +kernel
theorem dJ7_fill_d0a16_13 : decode cJ7_fill_d0a16 13 = .ok (.iload_n 3, 1) := by decide +kernel
theorem dJ7_fill_d0a16_14 : decode cJ7_fill_d0a16 14 = .ok (.lload_n 1, 1) := by decide +kernel
theorem dJ7_fill_d0a16_15 : decode cJ7_fill_d0a16 15 = .ok (.lastore, 1) := by decide +kernel
theorem dJ7_fill_d0a16_16 : decode cJ7_fill_d0a16 16 = .ok (.iinc 3 1, 3) := by decide +kernel
theorem dJ7_fill_d0a16_19 : decode cJ7_fill_d0a16 19 = .ok (.goto (-13), 3) := by decide +kernel
theorem dJ7_fill_d0a16_22 : decode cJ7_fill_d0a16 22 = .ok (.return_, 1) := by decide +kernel
theorem me_J7_fill_d0a16 : cx_Ms yJ7_fill_d0a16 cJ7_fill_d0a16 5 none 2 := ⟨⟨⟨by decide +kernel, by decide +kernel, by decide +kernel⟩, hw_9, hw_196⟩, hw_195⟩
noncomputable def f_J7_fill_d0a16_L6 (e0_n : Nat) (p1 : Int64) (x4_3 : Int32) (rc6 : (Nat → Int64) → Int32 → Option (Nat → Int64)) (a_1 : Nat → Int64) (x3_2 : Int32) : Option (Nat → Int64) := if x4_3 ≤ x3_2 then (some a_1) else (cx_gd (cx_ib x3_2 e0_n) (cx_let (vp_updL a_1 (cx_ix x3_2) p1) (fun a6 => rc6 a6 (x3_2 + 1))))
noncomputable def f_J7_fill_d0a16_L6w (e0_n : Nat) (p1 : Int64) (x4_3 : Int32) (n : Nat) : (Nat → Int64) → Int32 → Option (Nat → Int64) := Nat.rec (fun _ _ => none) (fun _ r => f_J7_fill_d0a16_L6 e0_n p1 x4_3 r) n
noncomputable def f_J7_fill_d0a16 (e0_n : Nat) (e0_x : Nat → Int64) (p1 : Int64) : Option (Nat → Int64) := f_J7_fill_d0a16_L6w e0_n p1 (Int32.ofNat e0_n) cx_N0 e0_x 0
set_option maxHeartbeats 4000000 in
set_option maxRecDepth 100000 in
theorem c_J7_fill_d0a16 (l : Launch) (D : va_G) (k : Nat → ClassId) (e0_a : Nat) (e0_n : Nat) (e0_x : Nat → Int64) (p1 : Int64) (y : Nat → Int64) (hf : f_J7_fill_d0a16 e0_n e0_x p1 = some y) : cx_M l yJ7_fill_d0a16 cJ7_fill_d0a16 5 none 1 D k [.ref e0_a, .long p1] (wd_LA k e0_a e0_n e0_x) (fun sz => cx_Qv D (wd_LA k e0_a e0_n e0_x) (wd_LA k e0_a e0_n y) sz) := by
  refine cx_met (own := "java/util/Arrays") (by decide) rfl (Nat.le_of_ble_eq_true rfl) ?_
  intro p e s m args below meth c A Q C hA hQ hr hlk
  refine cx_lv (lv' := [(0, .ref e0_a), (1, .long p1)]) [0, 1] rfl ?_
  have L6 : ∀ (x4_3 : Int32) (n6 : Nat) (a_1 : Nat → Int64) (x3_2 : Int32), f_J7_fill_d0a16_L6w e0_n p1 x4_3 n6 a_1 x3_2 = some y → cx_S p l e (cx_rm 1) s m args below meth c A D 5 0 0 Q 6 [(0, .ref e0_a), (1, .long p1), (3, .int x3_2), (4, .int x4_3)] [] (wd_LA k e0_a e0_n a_1) := by
    intro x4_3 n6
    induction n6 with
    | zero =>
      intro a_1 x3_2 hf
      exact absurd (show (none : Option (Nat → Int64)) = some y from hf) (fun h => by cases h)
    | succ n6 ih6 =>
      intro a_1 x3_2 hf
      have hf : f_J7_fill_d0a16_L6 e0_n p1 x4_3 (f_J7_fill_d0a16_L6w e0_n p1 x4_3 n6) a_1 x3_2 = some y := hf
      unfold f_J7_fill_d0a16_L6 at hf
      refine cx_iload_n C dJ7_fill_d0a16_6 2 rfl ?_
      refine cx_iload C dJ7_fill_d0a16_7 3 rfl ?_
      refine cx_icmp_ge (tgt := 22) C dJ7_fill_d0a16_9 (by decide) (fun c4 => ?_) (fun c4 => ?_)
      · have hf := cx_if_t hf c4
        clear c4
        obtain rfl := Option.some.inj hf
        exact cx_vret C hA hQ hr hlk dJ7_fill_d0a16_22 rfl
      · have hf := cx_if_f hf c4
        clear c4
        refine cx_aload_n C dJ7_fill_d0a16_12 0 rfl ?_
        refine cx_iload_n C dJ7_fill_d0a16_13 2 rfl ?_
        refine cx_lload_n C dJ7_fill_d0a16_14 1 rfl ?_
        obtain ⟨g5, hf⟩ := cx_gd_at hf
        obtain ⟨a6, ea6⟩ : ∃ z, z = vp_updL a_1 (cx_ix x3_2) p1 := ⟨_, rfl⟩
        have hf := cx_let_at hf ea6
        refine cx_last (ws' := (wd_LA k e0_a e0_n a6)) C dJ7_fill_d0a16_15 0 rfl (cx_ib_in g5) (by rw [ea6]; rfl) ?_
        clear ea6 g5
        refine cx_iinc (v := x3_2 + 1) (lv' := [(3, .int (x3_2 + 1)), (0, .ref e0_a), (1, .long p1), (4, .int x4_3)]) C dJ7_fill_d0a16_16 2 rfl rfl (by decide) rfl ?_
        refine cx_goto (tgt := 6) C dJ7_fill_d0a16_19 (by decide) ?_
        refine cx_lv [1, 2, 0, 3] rfl ?_
        exact ih6 a6 (x3_2 + 1) hf
  unfold f_J7_fill_d0a16 at hf
  refine cx_iconst (v := 0) C dJ7_fill_d0a16_0 (by decide) ?_
  refine cx_istore_n (lv' := [(3, .int 0), (0, .ref e0_a), (1, .long p1)]) C dJ7_fill_d0a16_1 rfl (by decide) rfl ?_
  refine cx_aload_n C dJ7_fill_d0a16_2 1 rfl ?_
  refine cx_alen (v := Int32.ofNat e0_n) C dJ7_fill_d0a16_3 0 1 rfl rfl rfl ?_
  refine cx_istore (lv' := [(4, .int (Int32.ofNat e0_n)), (3, .int 0), (0, .ref e0_a), (1, .long p1)]) C dJ7_fill_d0a16_4 (by decide) rfl ?_
  refine cx_lv [2, 3, 1, 0] rfl ?_
  exact L6 (Int32.ofNat e0_n) cx_N0 e0_x 0 hf
theorem dJ7_fill_53178_0 : decode cJ7_fill_53178 0 = .ok (.iconst 0, 1) := by decide +kernel
theorem dJ7_fill_53178_1 : decode cJ7_fill_53178 1 = .ok (.istore_n 2, 1) := by decide +kernel
theorem dJ7_fill_53178_2 : decode cJ7_fill_53178 2 = .ok (.aload_n 0, 1) := by decide +kernel
theorem dJ7_fill_53178_3 : decode cJ7_fill_53178 3 = .ok (.arraylength, 1) := by decide +kernel
theorem dJ7_fill_53178_4 : decode cJ7_fill_53178 4 = .ok (.istore_n 3, 1) := by decide +kernel
theorem dJ7_fill_53178_5 : decode cJ7_fill_53178 5 = .ok (.iload_n 2, 1) := by decide +kernel
theorem dJ7_fill_53178_6 : decode cJ7_fill_53178 6 = .ok (.iload_n 3, 1) := by decide +kernel
theorem dJ7_fill_53178_7 : decode cJ7_fill_53178 7 = .ok (.if_icmp .ge 13, 3) := by decide +kernel
theorem dJ7_fill_53178_10 : decode cJ7_fill_53178 10 = .ok (.aload_n 0, 1) := by decide +kernel
theorem dJ7_fill_53178_11 : decode cJ7_fill_53178 11 = .ok (.iload_n 2, 1) := by decide +kernel
theorem dJ7_fill_53178_12 : decode cJ7_fill_53178 12 = .ok (.iload_n 1, 1) := by decide +kernel
theorem dJ7_fill_53178_13 : decode cJ7_fill_53178 13 = .ok (.iastore, 1) := by decide +kernel
theorem dJ7_fill_53178_14 : decode cJ7_fill_53178 14 = .ok (.iinc 2 1, 3) := by decide +kernel
theorem dJ7_fill_53178_17 : decode cJ7_fill_53178 17 = .ok (.goto (-12), 3) := by decide +kernel
theorem dJ7_fill_53178_20 : decode cJ7_fill_53178 20 = .ok (.return_, 1) := by decide +kernel
theorem me_J7_fill_53178 : cx_Ms yJ7_fill_53178 cJ7_fill_53178 4 none 2 := ⟨⟨⟨by decide +kernel, by decide +kernel, by decide +kernel⟩, hw_9, hw_650⟩, hw_649⟩
noncomputable def f_J7_fill_53178_L5 (e0_n : Nat) (p1 : Int32) (x3_3 : Int32) (rc5 : (Nat → Int32) → Int32 → Option (Nat → Int32)) (a_1 : Nat → Int32) (x2_2 : Int32) : Option (Nat → Int32) := if x3_3 ≤ x2_2 then (some a_1) else (cx_gd (cx_ib x2_2 e0_n) (cx_let (upd a_1 (cx_ix x2_2) p1) (fun a6 => rc5 a6 (x2_2 + 1))))
noncomputable def f_J7_fill_53178_L5w (e0_n : Nat) (p1 : Int32) (x3_3 : Int32) (n : Nat) : (Nat → Int32) → Int32 → Option (Nat → Int32) := Nat.rec (fun _ _ => none) (fun _ r => f_J7_fill_53178_L5 e0_n p1 x3_3 r) n
noncomputable def f_J7_fill_53178 (e0_n : Nat) (e0_x : Nat → Int32) (p1 : Int32) : Option (Nat → Int32) := f_J7_fill_53178_L5w e0_n p1 (Int32.ofNat e0_n) cx_N0 e0_x 0
set_option maxHeartbeats 4000000 in
set_option maxRecDepth 100000 in
theorem c_J7_fill_53178 (l : Launch) (D : va_G) (k : Nat → ClassId) (e0_a : Nat) (e0_n : Nat) (e0_x : Nat → Int32) (p1 : Int32) (y : Nat → Int32) (hf : f_J7_fill_53178 e0_n e0_x p1 = some y) : cx_M l yJ7_fill_53178 cJ7_fill_53178 4 none 1 D k [.ref e0_a, .int p1] (wd_IA k e0_a e0_n e0_x) (fun sz => cx_Qv D (wd_IA k e0_a e0_n e0_x) (wd_IA k e0_a e0_n y) sz) := by
  refine cx_met (own := "java/util/Arrays") (by decide) rfl (Nat.le_of_ble_eq_true rfl) ?_
  intro p e s m args below meth c A Q C hA hQ hr hlk
  refine cx_lv (lv' := [(0, .ref e0_a), (1, .int p1)]) [0, 1] rfl ?_
  have L5 : ∀ (x3_3 : Int32) (n5 : Nat) (a_1 : Nat → Int32) (x2_2 : Int32), f_J7_fill_53178_L5w e0_n p1 x3_3 n5 a_1 x2_2 = some y → cx_S p l e (cx_rm 1) s m args below meth c A D 4 0 0 Q 5 [(0, .ref e0_a), (1, .int p1), (2, .int x2_2), (3, .int x3_3)] [] (wd_IA k e0_a e0_n a_1) := by
    intro x3_3 n5
    induction n5 with
    | zero =>
      intro a_1 x2_2 hf
      exact absurd (show (none : Option (Nat → Int32)) = some y from hf) (fun h => by cases h)
    | succ n5 ih5 =>
      intro a_1 x2_2 hf
      have hf : f_J7_fill_53178_L5 e0_n p1 x3_3 (f_J7_fill_53178_L5w e0_n p1 x3_3 n5) a_1 x2_2 = some y := hf
      unfold f_J7_fill_53178_L5 at hf
      refine cx_iload_n C dJ7_fill_53178_5 2 rfl ?_
      refine cx_iload_n C dJ7_fill_53178_6 3 rfl ?_
      refine cx_icmp_ge (tgt := 20) C dJ7_fill_53178_7 (by decide) (fun c4 => ?_) (fun c4 => ?_)
      · have hf := cx_if_t hf c4
        clear c4
        obtain rfl := Option.some.inj hf
        exact cx_vret C hA hQ hr hlk dJ7_fill_53178_20 rfl
      · have hf := cx_if_f hf c4
        clear c4
        refine cx_aload_n C dJ7_fill_53178_10 0 rfl ?_
        refine cx_iload_n C dJ7_fill_53178_11 2 rfl ?_
        refine cx_iload_n C dJ7_fill_53178_12 1 rfl ?_
        obtain ⟨g5, hf⟩ := cx_gd_at hf
        obtain ⟨a6, ea6⟩ : ∃ z, z = upd a_1 (cx_ix x2_2) p1 := ⟨_, rfl⟩
        have hf := cx_let_at hf ea6
        refine cx_iast (ws' := (wd_IA k e0_a e0_n a6)) C dJ7_fill_53178_13 0 rfl (cx_ib_in g5) (by rw [ea6]; rfl) ?_
        clear ea6 g5
        refine cx_iinc (v := x2_2 + 1) (lv' := [(2, .int (x2_2 + 1)), (0, .ref e0_a), (1, .int p1), (3, .int x3_3)]) C dJ7_fill_53178_14 2 rfl rfl (by decide) rfl ?_
        refine cx_goto (tgt := 5) C dJ7_fill_53178_17 (by decide) ?_
        refine cx_lv [1, 2, 0, 3] rfl ?_
        exact ih5 a6 (x2_2 + 1) hf
  unfold f_J7_fill_53178 at hf
  refine cx_iconst (v := 0) C dJ7_fill_53178_0 (by decide) ?_
  refine cx_istore_n (lv' := [(2, .int 0), (0, .ref e0_a), (1, .int p1)]) C dJ7_fill_53178_1 rfl (by decide) rfl ?_
  refine cx_aload_n C dJ7_fill_53178_2 1 rfl ?_
  refine cx_alen (v := Int32.ofNat e0_n) C dJ7_fill_53178_3 0 0 rfl rfl rfl ?_
  refine cx_istore_n (lv' := [(3, .int (Int32.ofNat e0_n)), (2, .int 0), (0, .ref e0_a), (1, .int p1)]) C dJ7_fill_53178_4 rfl (by decide) rfl ?_
  refine cx_lv [2, 3, 1, 0] rfl ?_
  exact L5 (Int32.ofNat e0_n) cx_N0 e0_x 0 hf
