theorem dX9_signNow_0 : decode cX9_signNow 0 = .ok (.aload_n 0, 1) := by decide +kernel
theorem dX9_signNow_1 : decode cX9_signNow 1 = .ok (.getfield 3, 3) := by decide +kernel
theorem dX9_signNow_4 : decode cX9_signNow 4 = .ok (.iconst 0, 1) := by decide +kernel
theorem dX9_signNow_5 : decode cX9_signNow 5 = .ok (.iaload, 1) := by decide +kernel
theorem dX9_signNow_6 : decode cX9_signNow 6 = .ok (.ifCond .ne 7, 3) := by decide +kernel
theorem dX9_signNow_9 : decode cX9_signNow 9 = .ok (.iconst 0, 1) := by decide +kernel
theorem dX9_signNow_10 : decode cX9_signNow 10 = .ok (.goto 4, 3) := by decide +kernel
theorem dX9_signNow_13 : decode cX9_signNow 13 = .ok (.iconst 1, 1) := by decide +kernel
theorem dX9_signNow_14 : decode cX9_signNow 14 = .ok (.ireturn, 1) := by decide +kernel
theorem me_X9_signNow : cx_Mv yX9_signNow cX9_signNow 1 (some .int) 0 := ⟨⟨⟨by decide +kernel, by decide +kernel, by decide +kernel⟩, hw_11, hw_1492⟩, hw_1491, hs_87⟩
noncomputable def f_X9_signNow (m_wide : Nat → Int32) : Option Int32 := cx_gd (cx_ib 0 270) (if (m_wide (cx_ix 0)) = 0 then (some 0) else (some 1))
set_option maxHeartbeats 4000000 in
set_option maxRecDepth 100000 in
theorem c_X9_signNow (l : Launch) (D : va_G) (k : Nat → ClassId) (m_a : Nat → Nat) (m_limbs : Nat → Int32) (m_wide : Nat → Int32) (m_book : Nat → Int32) (m_images : Nat → Int32) (m_kept : Nat → Int32) (m_before : Nat → Int32) (m_refused : Nat → Int32) (m_quiet : Int32) (m_text : Nat → Int32) (m_typed : Int32) (m_at : Int32) (m_start : Int32) (m_token : Int32) (m_value : Int32) (m_items : Nat → Int32) (m_many : Int32) (m_is : Nat → Int32) (m_likes : Nat → Int32) (m_without : Int32) (m_onePicture : Int32) (m_oneYear : Int32) (m_first : Int32) (m_second : Int32) (m_names : Nat → Int32) (y : Int32) (hf : f_X9_signNow m_wide = some y) : cx_M l yX9_signNow cX9_signNow 1 (some .int) 1 D k [.ref (m_a 0)] (wd_Model k m_a m_limbs m_wide m_book m_images m_kept m_before m_refused m_quiet m_text m_typed m_at m_start m_token m_value m_items m_many m_is m_likes m_without m_onePicture m_oneYear m_first m_second m_names) (fun sz => cx_Qi D y (wd_Model k m_a m_limbs m_wide m_book m_images m_kept m_before m_refused m_quiet m_text m_typed m_at m_start m_token m_value m_items m_many m_is m_likes m_without m_onePicture m_oneYear m_first m_second m_names) (wd_Model k m_a m_limbs m_wide m_book m_images m_kept m_before m_refused m_quiet m_text m_typed m_at m_start m_token m_value m_items m_many m_is m_likes m_without m_onePicture m_oneYear m_first m_second m_names) sz) := by
  refine cx_met (own := "NamelessBoxModel") (by decide) rfl (Nat.le_of_ble_eq_true rfl) ?_
  intro p e s m args below meth c A Q C hA hQ hr hlk
  refine cx_lv (lv' := [(0, .ref (m_a 0))]) [0] rfl ?_
  unfold f_X9_signNow at hf
  refine cx_aload_n C dX9_signNow_0 0 rfl ?_
  refine cx_get (v := .ref (m_a 2)) (ci := 8) C iX9 dX9_signNow_1 0 rfl rfl 1 (by decide) hw_1055 rfl ?_
  refine cx_iconst (v := 0) C dX9_signNow_4 (by decide) ?_
  obtain ⟨g1, hf⟩ := cx_gd_at hf
  refine cx_iald C dX9_signNow_5 2 rfl (cx_ib_in g1) ?_
  clear g1
  refine cx_if_ne (tgt := 13) C dX9_signNow_6 (by decide) (fun c2 => ?_) (fun c2 => ?_)
  · have hf := cx_if_f hf c2
    clear c2
    refine cx_iconst (v := 1) C dX9_signNow_13 (by decide) ?_
    obtain rfl := Option.some.inj hf
    exact cx_iret C hA hQ hr hlk dX9_signNow_14 rfl rfl
  · have hf := cx_if_t hf c2
    clear c2
    refine cx_iconst (v := 0) C dX9_signNow_9 (by decide) ?_
    refine cx_goto (tgt := 14) C dX9_signNow_10 (by decide) ?_
    obtain rfl := Option.some.inj hf
    exact cx_iret C hA hQ hr hlk dX9_signNow_14 rfl rfl
theorem dX9_sign_0 : decode cX9_sign 0 = .ok (.iload_n 1, 1) := by decide +kernel
theorem dX9_sign_1 : decode cX9_sign 1 = .ok (.ifCond .ne 10, 3) := by decide +kernel
theorem dX9_sign_4 : decode cX9_sign 4 = .ok (.aload_n 0, 1) := by decide +kernel
theorem dX9_sign_5 : decode cX9_sign 5 = .ok (.invokevirtual 328, 3) := by decide +kernel
theorem dX9_sign_8 : decode cX9_sign 8 = .ok (.goto 35, 3) := by decide +kernel
theorem dX9_sign_11 : decode cX9_sign 11 = .ok (.iload_n 1, 1) := by decide +kernel
theorem dX9_sign_12 : decode cX9_sign 12 = .ok (.iconst 1, 1) := by decide +kernel
theorem dX9_sign_13 : decode cX9_sign 13 = .ok (.if_icmp .ne 12, 3) := by decide +kernel
theorem dX9_sign_16 : decode cX9_sign 16 = .ok (.aload_n 0, 1) := by decide +kernel
theorem dX9_sign_17 : decode cX9_sign 17 = .ok (.getfield 3, 3) := by decide +kernel
theorem dX9_sign_20 : decode cX9_sign 20 = .ok (.iconst 0, 1) := by decide +kernel
theorem dX9_sign_21 : decode cX9_sign 21 = .ok (.iaload, 1) := by decide +kernel
theorem dX9_sign_22 : decode cX9_sign 22 = .ok (.goto 21, 3) := by decide +kernel
theorem dX9_sign_25 : decode cX9_sign 25 = .ok (.iload_n 1, 1) := by decide +kernel
theorem dX9_sign_26 : decode cX9_sign 26 = .ok (.iconst 2, 1) := by decide +kernel
theorem dX9_sign_27 : decode cX9_sign 27 = .ok (.if_icmp .ne 12, 3) := by decide +kernel
theorem dX9_sign_30 : decode cX9_sign 30 = .ok (.aload_n 0, 1) := by decide +kernel
theorem dX9_sign_31 : decode cX9_sign 31 = .ok (.getfield 3, 3) := by decide +kernel
theorem dX9_sign_34 : decode cX9_sign 34 = .ok (.iconst 1, 1) := by decide +kernel
theorem dX9_sign_35 : decode cX9_sign 35 = .ok (.iaload, 1) := by decide +kernel
theorem dX9_sign_36 : decode cX9_sign 36 = .ok (.goto 7, 3) := by decide +kernel
theorem dX9_sign_39 : decode cX9_sign 39 = .ok (.aload_n 0, 1) := by decide +kernel
theorem dX9_sign_40 : decode cX9_sign 40 = .ok (.invokevirtual 99, 3) := by decide +kernel
theorem dX9_sign_43 : decode cX9_sign 43 = .ok (.ireturn, 1) := by decide +kernel
theorem me_X9_sign : cx_Mv yX9_sign cX9_sign 2 (some .int) 1 := ⟨⟨⟨by decide +kernel, by decide +kernel, by decide +kernel⟩, hw_11, hw_1488⟩, hw_1486, hw_1487⟩
noncomputable def f_X9_sign (m_wide : Nat → Int32) (m_refused : Nat → Int32) (m_quiet : Int32) (p1 : Int32) : Option (Int32 × (Nat → Int32)) := if p1 = 0 then (Option.bind (f_X9_signNow m_wide) (fun u8 => some ((u8, m_refused)))) else (if p1 = 1 then (cx_gd (cx_ib 0 270) (some ((m_wide (cx_ix 0), m_refused)))) else (if p1 = 2 then (cx_gd (cx_ib 1 270) (some ((m_wide (cx_ix 1), m_refused)))) else (Option.bind (f_X9_bad m_refused m_quiet) (fun u4 => some ((u4.1, u4.2))))))
set_option maxHeartbeats 4000000 in
set_option maxRecDepth 100000 in
theorem c_X9_sign (l : Launch) (D : va_G) (k : Nat → ClassId) (m_a : Nat → Nat) (m_limbs : Nat → Int32) (m_wide : Nat → Int32) (m_book : Nat → Int32) (m_images : Nat → Int32) (m_kept : Nat → Int32) (m_before : Nat → Int32) (m_refused : Nat → Int32) (m_quiet : Int32) (m_text : Nat → Int32) (m_typed : Int32) (m_at : Int32) (m_start : Int32) (m_token : Int32) (m_value : Int32) (m_items : Nat → Int32) (m_many : Int32) (m_is : Nat → Int32) (m_likes : Nat → Int32) (m_without : Int32) (m_onePicture : Int32) (m_oneYear : Int32) (m_first : Int32) (m_second : Int32) (m_names : Nat → Int32) (p1 : Int32) (y : Int32 × (Nat → Int32)) (hf : f_X9_sign m_wide m_refused m_quiet p1 = some y) : cx_M l yX9_sign cX9_sign 2 (some .int) 3 D k [.ref (m_a 0), .int p1] (wd_Model k m_a m_limbs m_wide m_book m_images m_kept m_before m_refused m_quiet m_text m_typed m_at m_start m_token m_value m_items m_many m_is m_likes m_without m_onePicture m_oneYear m_first m_second m_names) (fun sz => cx_Qi D y.1 (wd_Model k m_a m_limbs m_wide m_book m_images m_kept m_before m_refused m_quiet m_text m_typed m_at m_start m_token m_value m_items m_many m_is m_likes m_without m_onePicture m_oneYear m_first m_second m_names) (wd_Model k m_a m_limbs m_wide m_book m_images m_kept m_before y.2 m_quiet m_text m_typed m_at m_start m_token m_value m_items m_many m_is m_likes m_without m_onePicture m_oneYear m_first m_second m_names) sz) := by
  refine cx_met (own := "NamelessBoxModel") (by decide) rfl (Nat.le_of_ble_eq_true rfl) ?_
  intro p e s m args below meth c A Q C hA hQ hr hlk
  refine cx_lv (lv' := [(0, .ref (m_a 0)), (1, .int p1)]) [0, 1] rfl ?_
  unfold f_X9_sign at hf
  refine cx_iload_n C dX9_sign_0 1 rfl ?_
  refine cx_if_ne (tgt := 11) C dX9_sign_1 (by decide) (fun c1 => ?_) (fun c1 => ?_)
  · have hf := cx_if_f hf c1
    clear c1
    refine cx_iload_n C dX9_sign_11 1 rfl ?_
    refine cx_iconst (v := 1) C dX9_sign_12 (by decide) ?_
    refine cx_icmp_ne (tgt := 25) C dX9_sign_13 (by decide) (fun c2 => ?_) (fun c2 => ?_)
    · have hf := cx_if_f hf c2
      clear c2
      refine cx_iload_n C dX9_sign_25 1 rfl ?_
      refine cx_iconst (v := 2) C dX9_sign_26 (by decide) ?_
      refine cx_icmp_ne (tgt := 39) C dX9_sign_27 (by decide) (fun c3 => ?_) (fun c3 => ?_)
      · have hf := cx_if_f hf c3
        clear c3
        refine cx_aload_n C dX9_sign_39 0 rfl ?_
        obtain ⟨u4, e5, hf⟩ := cx_bd_at hf
        refine cx_Fvi (q := (RX9, TX9, 24)) (As := []) (rest := []) (w1 := (wd_Model k m_a m_limbs m_wide m_book m_images m_kept m_before u4.2 m_quiet m_text m_typed m_at m_start m_token m_value m_items m_many m_is m_likes m_without m_onePicture m_oneYear m_first m_second m_names)) hA C me_X9_bad hw_1137 (c_X9_bad l D k m_a m_limbs m_wide m_book m_images m_kept m_before m_refused m_quiet m_text m_typed m_at m_start m_token m_value m_items m_many m_is m_likes m_without m_onePicture m_oneYear m_first m_second m_names u4 e5) dX9_sign_40 ⟨Nat.le_of_ble_eq_true rfl, Nat.le_of_ble_eq_true rfl⟩ ⟨Nat.zero_le _, Nat.zero_le _⟩ rfl rfl (Nat.le_of_ble_eq_true rfl) rfl rfl rfl ?_
        clear e5
        obtain rfl := Option.some.inj hf
        exact cx_iret C hA hQ hr hlk dX9_sign_43 rfl rfl
      · have hf := cx_if_t hf c3
        clear c3
        refine cx_aload_n C dX9_sign_30 0 rfl ?_
        refine cx_get (v := .ref (m_a 2)) (ci := 8) C iX9 dX9_sign_31 0 rfl rfl 1 (by decide) hw_1055 rfl ?_
        refine cx_iconst (v := 1) C dX9_sign_34 (by decide) ?_
        obtain ⟨g6, hf⟩ := cx_gd_at hf
        refine cx_iald C dX9_sign_35 2 rfl (cx_ib_in g6) ?_
        clear g6
        refine cx_goto (tgt := 43) C dX9_sign_36 (by decide) ?_
        obtain rfl := Option.some.inj hf
        exact cx_iret C hA hQ hr hlk dX9_sign_43 rfl rfl
    · have hf := cx_if_t hf c2
      clear c2
      refine cx_aload_n C dX9_sign_16 0 rfl ?_
      refine cx_get (v := .ref (m_a 2)) (ci := 8) C iX9 dX9_sign_17 0 rfl rfl 1 (by decide) hw_1055 rfl ?_
      refine cx_iconst (v := 0) C dX9_sign_20 (by decide) ?_
      obtain ⟨g7, hf⟩ := cx_gd_at hf
      refine cx_iald C dX9_sign_21 2 rfl (cx_ib_in g7) ?_
      clear g7
      refine cx_goto (tgt := 43) C dX9_sign_22 (by decide) ?_
      obtain rfl := Option.some.inj hf
      exact cx_iret C hA hQ hr hlk dX9_sign_43 rfl rfl
  · have hf := cx_if_t hf c1
    clear c1
    refine cx_aload_n C dX9_sign_4 0 rfl ?_
    obtain ⟨u8, e9, hf⟩ := cx_bd_at hf
    refine cx_Fvi (q := (RX9, TX9, 24)) (As := []) (rest := []) (w1 := (wd_Model k m_a m_limbs m_wide m_book m_images m_kept m_before m_refused m_quiet m_text m_typed m_at m_start m_token m_value m_items m_many m_is m_likes m_without m_onePicture m_oneYear m_first m_second m_names)) hA C me_X9_signNow hw_1489 (c_X9_signNow l D k m_a m_limbs m_wide m_book m_images m_kept m_before m_refused m_quiet m_text m_typed m_at m_start m_token m_value m_items m_many m_is m_likes m_without m_onePicture m_oneYear m_first m_second m_names u8 e9) dX9_sign_5 ⟨Nat.le_of_ble_eq_true rfl, Nat.le_of_ble_eq_true rfl⟩ ⟨Nat.zero_le _, Nat.zero_le _⟩ rfl rfl (Nat.le_of_ble_eq_true rfl) rfl rfl rfl ?_
    clear e9
    refine cx_goto (tgt := 43) C dX9_sign_8 (by decide) ?_
    obtain rfl := Option.some.inj hf
    exact cx_iret C hA hQ hr hlk dX9_sign_43 rfl rfl
theorem dX9_limb_0 : decode cX9_limb 0 = .ok (.iload_n 1, 1) := by decide +kernel
theorem dX9_limb_1 : decode cX9_limb 1 = .ok (.i2l, 1) := by decide +kernel
theorem dX9_limb_2 : decode cX9_limb 2 = .ok (.lconst 0, 1) := by decide +kernel
theorem dX9_limb_3 : decode cX9_limb 3 = .ok (.lconst 1, 1) := by decide +kernel
theorem dX9_limb_4 : decode cX9_limb 4 = .ok (.invokestatic 89, 3) := by decide +kernel
theorem dX9_limb_7 : decode cX9_limb 7 = .ok (.ifCond .eq 7, 3) := by decide +kernel
theorem dX9_limb_10 : decode cX9_limb 10 = .ok (.iload_n 2, 1) := by decide +kernel
theorem dX9_limb_11 : decode cX9_limb 11 = .ok (.ifCond .ge 8, 3) := by decide +kernel
theorem dX9_limb_14 : decode cX9_limb 14 = .ok (.aload_n 0, 1) := by decide +kernel
theorem dX9_limb_15 : decode cX9_limb 15 = .ok (.invokevirtual 99, 3) := by decide +kernel
theorem dX9_limb_18 : decode cX9_limb 18 = .ok (.ireturn, 1) := by decide +kernel
theorem dX9_limb_19 : decode cX9_limb 19 = .ok (.iload_n 2, 1) := by decide +kernel
theorem dX9_limb_20 : decode cX9_limb 20 = .ok (.aload_n 0, 1) := by decide +kernel
theorem dX9_limb_21 : decode cX9_limb 21 = .ok (.getfield 3, 3) := by decide +kernel
theorem dX9_limb_24 : decode cX9_limb 24 = .ok (.iload_n 1, 1) := by decide +kernel
theorem dX9_limb_25 : decode cX9_limb 25 = .ok (.iaload, 1) := by decide +kernel
theorem dX9_limb_26 : decode cX9_limb 26 = .ok (.if_icmp .ge 27, 3) := by decide +kernel
theorem dX9_limb_29 : decode cX9_limb 29 = .ok (.aload_n 0, 1) := by decide +kernel
theorem dX9_limb_30 : decode cX9_limb 30 = .ok (.getfield 7, 3) := by decide +kernel
theorem dX9_limb_33 : decode cX9_limb 33 = .ok (.bipush 16, 2) := by decide +kernel
theorem dX9_limb_35 : decode cX9_limb 35 = .ok (.iload_n 1, 1) := by decide +kernel
theorem dX9_limb_36 : decode cX9_limb 36 = .ok (.imul, 1) := by decide +kernel
theorem dX9_limb_37 : decode cX9_limb 37 = .ok (.iload_n 2, 1) := by decide +kernel
theorem dX9_limb_38 : decode cX9_limb 38 = .ok (.bipush 16, 2) := by decide +kernel
theorem dX9_limb_40 : decode cX9_limb 40 = .ok (.if_icmp .ge 7, 3) := by decide +kernel
theorem dX9_limb_43 : decode cX9_limb 43 = .ok (.iload_n 2, 1) := by decide +kernel
theorem dX9_limb_44 : decode cX9_limb 44 = .ok (.goto 4, 3) := by decide +kernel
theorem dX9_limb_47 : decode cX9_limb 47 = .ok (.iconst 0, 1) := by decide +kernel
theorem dX9_limb_48 : decode cX9_limb 48 = .ok (.iadd, 1) := by decide +kernel
theorem dX9_limb_49 : decode cX9_limb 49 = .ok (.iaload, 1) := by decide +kernel
theorem dX9_limb_50 : decode cX9_limb 50 = .ok (.goto 4, 3) := by decide +kernel
theorem dX9_limb_53 : decode cX9_limb 53 = .ok (.iconst (-1), 1) := by decide +kernel
theorem dX9_limb_54 : decode cX9_limb 54 = .ok (.ireturn, 1) := by decide +kernel
theorem me_X9_limb : cx_Mv yX9_limb cX9_limb 3 (some .int) 2 := ⟨⟨⟨by decide +kernel, by decide +kernel, by decide +kernel⟩, hw_11, hw_1496⟩, hw_1494, hw_1495⟩
noncomputable def f_X9_limb_J14 (m_refused : Nat → Int32) (m_quiet : Int32) : Option (Int32 × (Nat → Int32)) := Option.bind (f_X9_bad m_refused m_quiet) (fun u4 => some ((u4.1, u4.2)))
noncomputable def f_X9_limb_J48 (m_limbs : Nat → Int32) (m_refused : Nat → Int32) (s1_10 : Int32) (s2_11 : Int32) : Option (Int32 × (Nat → Int32)) := cx_gd (cx_ib (s1_10 + s2_11) 4320) (some ((m_limbs (cx_ix (s1_10 + s2_11)), m_refused)))
noncomputable def f_X9_limb (m_limbs : Nat → Int32) (m_wide : Nat → Int32) (m_refused : Nat → Int32) (m_quiet : Int32) (p1 : Int32) (p2 : Int32) : Option (Int32 × (Nat → Int32)) := Option.bind (f_X9_in (Int32.toInt64 p1) 0 1) (fun u1 => if u1 = 0 then (f_X9_limb_J14 m_refused m_quiet) else (if 0 ≤ p2 then (cx_gd (cx_ib p1 270) (if (m_wide (cx_ix p1)) ≤ p2 then (some (((-1), m_refused))) else (if 16 ≤ p2 then (f_X9_limb_J48 m_limbs m_refused (16 * p1) 0) else (f_X9_limb_J48 m_limbs m_refused (16 * p1) p2)))) else (f_X9_limb_J14 m_refused m_quiet)))
set_option maxHeartbeats 4000000 in
set_option maxRecDepth 100000 in
theorem c_X9_limb (l : Launch) (D : va_G) (k : Nat → ClassId) (m_a : Nat → Nat) (m_limbs : Nat → Int32) (m_wide : Nat → Int32) (m_book : Nat → Int32) (m_images : Nat → Int32) (m_kept : Nat → Int32) (m_before : Nat → Int32) (m_refused : Nat → Int32) (m_quiet : Int32) (m_text : Nat → Int32) (m_typed : Int32) (m_at : Int32) (m_start : Int32) (m_token : Int32) (m_value : Int32) (m_items : Nat → Int32) (m_many : Int32) (m_is : Nat → Int32) (m_likes : Nat → Int32) (m_without : Int32) (m_onePicture : Int32) (m_oneYear : Int32) (m_first : Int32) (m_second : Int32) (m_names : Nat → Int32) (p1 : Int32) (p2 : Int32) (y : Int32 × (Nat → Int32)) (hf : f_X9_limb m_limbs m_wide m_refused m_quiet p1 p2 = some y) : cx_M l yX9_limb cX9_limb 3 (some .int) 3 D k [.ref (m_a 0), .int p1, .int p2] (wd_Model k m_a m_limbs m_wide m_book m_images m_kept m_before m_refused m_quiet m_text m_typed m_at m_start m_token m_value m_items m_many m_is m_likes m_without m_onePicture m_oneYear m_first m_second m_names) (fun sz => cx_Qi D y.1 (wd_Model k m_a m_limbs m_wide m_book m_images m_kept m_before m_refused m_quiet m_text m_typed m_at m_start m_token m_value m_items m_many m_is m_likes m_without m_onePicture m_oneYear m_first m_second m_names) (wd_Model k m_a m_limbs m_wide m_book m_images m_kept m_before y.2 m_quiet m_text m_typed m_at m_start m_token m_value m_items m_many m_is m_likes m_without m_onePicture m_oneYear m_first m_second m_names) sz) := by
  refine cx_met (own := "NamelessBoxModel") (by decide) rfl (Nat.le_of_ble_eq_true rfl) ?_
  intro p e s m args below meth c A Q C hA hQ hr hlk
  refine cx_lv (lv' := [(0, .ref (m_a 0)), (1, .int p1), (2, .int p2)]) [0, 1, 2] rfl ?_
  have J14 : f_X9_limb_J14 m_refused m_quiet = some y → cx_S p l e (cx_rm 3) s m args below meth c A D 3 0 0 Q 14 [(0, .ref (m_a 0))] [] (wd_Model k m_a m_limbs m_wide m_book m_images m_kept m_before m_refused m_quiet m_text m_typed m_at m_start m_token m_value m_items m_many m_is m_likes m_without m_onePicture m_oneYear m_first m_second m_names) := by
    intro  hf
    unfold f_X9_limb_J14 at hf
    refine cx_aload_n C dX9_limb_14 0 rfl ?_
    obtain ⟨u4, e5, hf⟩ := cx_bd_at hf
    refine cx_Fvi (q := (RX9, TX9, 24)) (As := []) (rest := []) (w1 := (wd_Model k m_a m_limbs m_wide m_book m_images m_kept m_before u4.2 m_quiet m_text m_typed m_at m_start m_token m_value m_items m_many m_is m_likes m_without m_onePicture m_oneYear m_first m_second m_names)) hA C me_X9_bad hw_1137 (c_X9_bad l D k m_a m_limbs m_wide m_book m_images m_kept m_before m_refused m_quiet m_text m_typed m_at m_start m_token m_value m_items m_many m_is m_likes m_without m_onePicture m_oneYear m_first m_second m_names u4 e5) dX9_limb_15 ⟨Nat.le_of_ble_eq_true rfl, Nat.le_of_ble_eq_true rfl⟩ ⟨Nat.zero_le _, Nat.zero_le _⟩ rfl rfl (Nat.le_of_ble_eq_true rfl) rfl rfl rfl ?_
    clear e5
    obtain rfl := Option.some.inj hf
    exact cx_iret C hA hQ hr hlk dX9_limb_18 rfl rfl
  have J48 : ∀ (s1_10 : Int32) (s2_11 : Int32), f_X9_limb_J48 m_limbs m_refused s1_10 s2_11 = some y → cx_S p l e (cx_rm 3) s m args below meth c A D 3 0 0 Q 48 [] [.int s2_11, .int s1_10, .ref (m_a 1)] (wd_Model k m_a m_limbs m_wide m_book m_images m_kept m_before m_refused m_quiet m_text m_typed m_at m_start m_token m_value m_items m_many m_is m_likes m_without m_onePicture m_oneYear m_first m_second m_names) := by
    intro s1_10 s2_11 hf
    unfold f_X9_limb_J48 at hf
    refine cx_iadd C dX9_limb_48 ?_
    obtain ⟨g12, hf⟩ := cx_gd_at hf
    refine cx_iald C dX9_limb_49 1 rfl (cx_ib_in g12) ?_
    clear g12
    refine cx_goto (tgt := 54) C dX9_limb_50 (by decide) ?_
    obtain rfl := Option.some.inj hf
    exact cx_iret C hA hQ hr hlk dX9_limb_54 rfl rfl
  unfold f_X9_limb at hf
  refine cx_iload_n C dX9_limb_0 1 rfl ?_
  refine cx_i2l C dX9_limb_1 ?_
  refine cx_lconst (v := 0) C dX9_limb_2 (by decide) ?_
  refine cx_lconst (v := 1) C dX9_limb_3 (by decide) ?_
  obtain ⟨u1, e2, hf⟩ := cx_bd_at hf
  refine cx_Ksi (As := [.long (Int32.toInt64 p1), .long 0, .long 1]) (rest := []) hA C me_X9_in hw_1132 (c_X9_in l D k (Int32.toInt64 p1) 0 1 u1 e2) dX9_limb_4 ⟨Nat.le_of_ble_eq_true rfl, Nat.le_of_ble_eq_true rfl⟩ ⟨Nat.zero_le _, Nat.zero_le _⟩ rfl rfl (Nat.le_of_ble_eq_true rfl) [] rfl (by decide) ?_
  clear e2
  refine cx_if_eq (tgt := 14) C dX9_limb_7 (by decide) (fun c3 => ?_) (fun c3 => ?_)
  · have hf := cx_if_t hf c3
    clear c3
    refine cx_lv [0] rfl ?_
    exact J14 hf
  · have hf := cx_if_f hf c3
    clear c3
    refine cx_iload_n C dX9_limb_10 2 rfl ?_
    refine cx_if_ge (tgt := 19) C dX9_limb_11 (by decide) (fun c6 => ?_) (fun c6 => ?_)
    · have hf := cx_if_t hf c6
      clear c6
      refine cx_iload_n C dX9_limb_19 2 rfl ?_
      refine cx_aload_n C dX9_limb_20 0 rfl ?_
      refine cx_get (v := .ref (m_a 2)) (ci := 8) C iX9 dX9_limb_21 0 rfl rfl 1 (by decide) hw_1055 rfl ?_
      refine cx_iload_n C dX9_limb_24 1 rfl ?_
      obtain ⟨g7, hf⟩ := cx_gd_at hf
      refine cx_iald C dX9_limb_25 2 rfl (cx_ib_in g7) ?_
      clear g7
      refine cx_icmp_ge (tgt := 53) C dX9_limb_26 (by decide) (fun c8 => ?_) (fun c8 => ?_)
      · have hf := cx_if_t hf c8
        clear c8
        refine cx_iconst (v := (-1)) C dX9_limb_53 (by decide) ?_
        obtain rfl := Option.some.inj hf
        exact cx_iret C hA hQ hr hlk dX9_limb_54 rfl rfl
      · have hf := cx_if_f hf c8
        clear c8
        refine cx_aload_n C dX9_limb_29 0 rfl ?_
        refine cx_get (v := .ref (m_a 1)) (ci := 8) C iX9 dX9_limb_30 0 rfl rfl 0 (by decide) hw_1054 rfl ?_
        refine cx_bipush (v := 16) C dX9_limb_33 (by decide) ?_
        refine cx_iload_n C dX9_limb_35 1 rfl ?_
        refine cx_imul C dX9_limb_36 ?_
        refine cx_iload_n C dX9_limb_37 2 rfl ?_
        refine cx_bipush (v := 16) C dX9_limb_38 (by decide) ?_
        refine cx_icmp_ge (tgt := 47) C dX9_limb_40 (by decide) (fun c9 => ?_) (fun c9 => ?_)
        · have hf := cx_if_t hf c9
          clear c9
          refine cx_iconst (v := 0) C dX9_limb_47 (by decide) ?_
          refine cx_lv [] rfl ?_
          exact J48 (16 * p1) 0 hf
        · have hf := cx_if_f hf c9
          clear c9
          refine cx_iload_n C dX9_limb_43 2 rfl ?_
          refine cx_goto (tgt := 48) C dX9_limb_44 (by decide) ?_
          refine cx_lv [] rfl ?_
          exact J48 (16 * p1) p2 hf
    · have hf := cx_if_f hf c6
      clear c6
      refine cx_lv [0] rfl ?_
      exact J14 hf
theorem dX9_image_0 : decode cX9_image 0 = .ok (.iload_n 1, 1) := by decide +kernel
theorem dX9_image_1 : decode cX9_image 1 = .ok (.i2l, 1) := by decide +kernel
theorem dX9_image_2 : decode cX9_image 2 = .ok (.lconst 0, 1) := by decide +kernel
theorem dX9_image_3 : decode cX9_image 3 = .ok (.lconst 1, 1) := by decide +kernel
theorem dX9_image_4 : decode cX9_image 4 = .ok (.invokestatic 89, 3) := by decide +kernel
theorem dX9_image_7 : decode cX9_image 7 = .ok (.ifCond .ne 8, 3) := by decide +kernel
theorem dX9_image_10 : decode cX9_image 10 = .ok (.aload_n 0, 1) := by decide +kernel
theorem dX9_image_11 : decode cX9_image 11 = .ok (.invokevirtual 99, 3) := by decide +kernel
theorem dX9_image_14 : decode cX9_image 14 = .ok (.ireturn, 1) := by decide +kernel
theorem dX9_image_15 : decode cX9_image 15 = .ok (.iconst 0, 1) := by decide +kernel
theorem dX9_image_16 : decode cX9_image 16 = .ok (.istore_n 2, 1) := by decide +kernel
theorem dX9_image_17 : decode cX9_image 17 = .ok (.iload_n 2, 1) := by decide +kernel
theorem dX9_image_18 : decode cX9_image 18 = .ok (.sipush 140, 3) := by decide +kernel
theorem dX9_image_21 : decode cX9_image 21 = .ok (.if_icmp .ge 27, 3) := by decide +kernel
theorem dX9_image_24 : decode cX9_image 24 = .ok (.aload_n 0, 1) := by decide +kernel
theorem dX9_image_25 : decode cX9_image 25 = .ok (.getfield 54, 3) := by decide +kernel
theorem dX9_image_28 : decode cX9_image 28 = .ok (.sipush 140, 3) := by decide +kernel
theorem dX9_image_31 : decode cX9_image 31 = .ok (.iload_n 1, 1) := by decide +kernel
theorem dX9_image_32 : decode cX9_image 32 = .ok (.imul, 1) := by decide +kernel
theorem dX9_image_33 : decode cX9_image 33 = .ok (.iload_n 2, 1) := by decide +kernel
theorem dX9_image_34 : decode cX9_image 34 = .ok (.iadd, 1) := by decide +kernel
theorem dX9_image_35 : decode cX9_image 35 = .ok (.aload_n 0, 1) := by decide +kernel
theorem dX9_image_36 : decode cX9_image 36 = .ok (.getfield 51, 3) := by decide +kernel
theorem dX9_image_39 : decode cX9_image 39 = .ok (.iload_n 2, 1) := by decide +kernel
theorem dX9_image_40 : decode cX9_image 40 = .ok (.iaload, 1) := by decide +kernel
theorem dX9_image_41 : decode cX9_image 41 = .ok (.iastore, 1) := by decide +kernel
theorem dX9_image_42 : decode cX9_image 42 = .ok (.iinc 2 1, 3) := by decide +kernel
theorem dX9_image_45 : decode cX9_image 45 = .ok (.goto (-28), 3) := by decide +kernel
theorem dX9_image_48 : decode cX9_image 48 = .ok (.aload_n 0, 1) := by decide +kernel
theorem dX9_image_49 : decode cX9_image 49 = .ok (.getfield 57, 3) := by decide +kernel
theorem dX9_image_52 : decode cX9_image 52 = .ok (.iload_n 1, 1) := by decide +kernel
theorem dX9_image_53 : decode cX9_image 53 = .ok (.iconst 1, 1) := by decide +kernel
theorem dX9_image_54 : decode cX9_image 54 = .ok (.bastore, 1) := by decide +kernel
theorem dX9_image_55 : decode cX9_image 55 = .ok (.iconst 1, 1) := by decide +kernel
theorem dX9_image_56 : decode cX9_image 56 = .ok (.ireturn, 1) := by decide +kernel
theorem me_X9_image : cx_Mv yX9_image cX9_image 3 (some .int) 1 := ⟨⟨⟨by decide +kernel, by decide +kernel, by decide +kernel⟩, hw_11, hw_1500⟩, hw_1498, hw_1499⟩
noncomputable def f_X9_image_L17 (m_book : Nat → Int32) (m_kept : Nat → Int32) (m_refused : Nat → Int32) (p1 : Int32) (rc17 : (Nat → Int32) → Int32 → Option (Int32 × (Nat → Int32) × (Nat → Int32) × (Nat → Int32))) (a_4 : Nat → Int32) (x2_5 : Int32) : Option (Int32 × (Nat → Int32) × (Nat → Int32) × (Nat → Int32)) := if 140 ≤ x2_5 then (cx_gd (cx_ib p1 2) (cx_let (upd m_kept (cx_ix p1) (vp_nar .boolean 1)) (fun a8 => some ((1, a_4, a8, m_refused))))) else (cx_gd (cx_ib x2_5 140) (cx_gd (cx_ib ((140 * p1) + x2_5) 280) (cx_let (upd a_4 (cx_ix ((140 * p1) + x2_5)) (m_book (cx_ix x2_5))) (fun a11 => rc17 a11 (x2_5 + 1)))))
noncomputable def f_X9_image_L17w (m_book : Nat → Int32) (m_kept : Nat → Int32) (m_refused : Nat → Int32) (p1 : Int32) (n : Nat) : (Nat → Int32) → Int32 → Option (Int32 × (Nat → Int32) × (Nat → Int32) × (Nat → Int32)) := Nat.rec (fun _ _ => none) (fun _ r => f_X9_image_L17 m_book m_kept m_refused p1 r) n
noncomputable def f_X9_image (m_book : Nat → Int32) (m_images : Nat → Int32) (m_kept : Nat → Int32) (m_refused : Nat → Int32) (m_quiet : Int32) (p1 : Int32) : Option (Int32 × (Nat → Int32) × (Nat → Int32) × (Nat → Int32)) := Option.bind (f_X9_in (Int32.toInt64 p1) 0 1) (fun u1 => if u1 = 0 then (Option.bind (f_X9_bad m_refused m_quiet) (fun u12 => some ((u12.1, m_images, m_kept, u12.2)))) else (f_X9_image_L17w m_book m_kept m_refused p1 cx_N0 m_images 0))
set_option maxHeartbeats 4000000 in
set_option maxRecDepth 100000 in
theorem c_X9_image (l : Launch) (D : va_G) (k : Nat → ClassId) (m_a : Nat → Nat) (m_limbs : Nat → Int32) (m_wide : Nat → Int32) (m_book : Nat → Int32) (m_images : Nat → Int32) (m_kept : Nat → Int32) (m_before : Nat → Int32) (m_refused : Nat → Int32) (m_quiet : Int32) (m_text : Nat → Int32) (m_typed : Int32) (m_at : Int32) (m_start : Int32) (m_token : Int32) (m_value : Int32) (m_items : Nat → Int32) (m_many : Int32) (m_is : Nat → Int32) (m_likes : Nat → Int32) (m_without : Int32) (m_onePicture : Int32) (m_oneYear : Int32) (m_first : Int32) (m_second : Int32) (m_names : Nat → Int32) (p1 : Int32) (y : Int32 × (Nat → Int32) × (Nat → Int32) × (Nat → Int32)) (hf : f_X9_image m_book m_images m_kept m_refused m_quiet p1 = some y) : cx_M l yX9_image cX9_image 3 (some .int) 3 D k [.ref (m_a 0), .int p1] (wd_Model k m_a m_limbs m_wide m_book m_images m_kept m_before m_refused m_quiet m_text m_typed m_at m_start m_token m_value m_items m_many m_is m_likes m_without m_onePicture m_oneYear m_first m_second m_names) (fun sz => cx_Qi D y.1 (wd_Model k m_a m_limbs m_wide m_book m_images m_kept m_before m_refused m_quiet m_text m_typed m_at m_start m_token m_value m_items m_many m_is m_likes m_without m_onePicture m_oneYear m_first m_second m_names) (wd_Model k m_a m_limbs m_wide m_book y.2.1 y.2.2.1 m_before y.2.2.2 m_quiet m_text m_typed m_at m_start m_token m_value m_items m_many m_is m_likes m_without m_onePicture m_oneYear m_first m_second m_names) sz) := by
  refine cx_met (own := "NamelessBoxModel") (by decide) rfl (Nat.le_of_ble_eq_true rfl) ?_
  intro p e s m args below meth c A Q C hA hQ hr hlk
  refine cx_lv (lv' := [(0, .ref (m_a 0)), (1, .int p1)]) [0, 1] rfl ?_
  have L17 : ∀ (n17 : Nat) (a_4 : Nat → Int32) (x2_5 : Int32), f_X9_image_L17w m_book m_kept m_refused p1 n17 a_4 x2_5 = some y → cx_S p l e (cx_rm 3) s m args below meth c A D 3 0 0 Q 17 [(0, .ref (m_a 0)), (1, .int p1), (2, .int x2_5)] [] (wd_Model k m_a m_limbs m_wide m_book a_4 m_kept m_before m_refused m_quiet m_text m_typed m_at m_start m_token m_value m_items m_many m_is m_likes m_without m_onePicture m_oneYear m_first m_second m_names) := by
    intro  n17
    induction n17 with
    | zero =>
      intro a_4 x2_5 hf
      exact absurd (show (none : Option (Int32 × (Nat → Int32) × (Nat → Int32) × (Nat → Int32))) = some y from hf) (fun h => by cases h)
    | succ n17 ih17 =>
      intro a_4 x2_5 hf
      have hf : f_X9_image_L17 m_book m_kept m_refused p1 (f_X9_image_L17w m_book m_kept m_refused p1 n17) a_4 x2_5 = some y := hf
      unfold f_X9_image_L17 at hf
      refine cx_iload_n C dX9_image_17 2 rfl ?_
      refine cx_sipush (v := 140) C dX9_image_18 (by decide) ?_
      refine cx_icmp_ge (tgt := 48) C dX9_image_21 (by decide) (fun c6 => ?_) (fun c6 => ?_)
      · have hf := cx_if_t hf c6
        clear c6
        refine cx_aload_n C dX9_image_48 0 rfl ?_
        refine cx_get (v := .ref (m_a 5)) (ci := 8) C iX9 dX9_image_49 0 rfl rfl 4 (by decide) hw_1058 rfl ?_
        refine cx_iload_n C dX9_image_52 1 rfl ?_
        refine cx_iconst (v := 1) C dX9_image_53 (by decide) ?_
        obtain ⟨g7, hf⟩ := cx_gd_at hf
        obtain ⟨a8, ea8⟩ : ∃ z, z = upd m_kept (cx_ix p1) (vp_nar .boolean 1) := ⟨_, rfl⟩
        have hf := cx_let_at hf ea8
        refine cx_zast (ws' := (wd_Model k m_a m_limbs m_wide m_book a_4 a8 m_before m_refused m_quiet m_text m_typed m_at m_start m_token m_value m_items m_many m_is m_likes m_without m_onePicture m_oneYear m_first m_second m_names)) C dX9_image_54 5 rfl (cx_ib_in g7) (by rw [ea8]; rfl) ?_
        clear ea8 g7
        refine cx_iconst (v := 1) C dX9_image_55 (by decide) ?_
        obtain rfl := Option.some.inj hf
        exact cx_iret C hA hQ hr hlk dX9_image_56 rfl rfl
      · have hf := cx_if_f hf c6
        clear c6
        refine cx_aload_n C dX9_image_24 0 rfl ?_
        refine cx_get (v := .ref (m_a 4)) (ci := 8) C iX9 dX9_image_25 0 rfl rfl 3 (by decide) hw_1057 rfl ?_
        refine cx_sipush (v := 140) C dX9_image_28 (by decide) ?_
        refine cx_iload_n C dX9_image_31 1 rfl ?_
        refine cx_imul C dX9_image_32 ?_
        refine cx_iload_n C dX9_image_33 2 rfl ?_
        refine cx_iadd C dX9_image_34 ?_
        refine cx_aload_n C dX9_image_35 0 rfl ?_
        refine cx_get (v := .ref (m_a 3)) (ci := 8) C iX9 dX9_image_36 0 rfl rfl 2 (by decide) hw_1056 rfl ?_
        refine cx_iload_n C dX9_image_39 2 rfl ?_
        obtain ⟨g9, hf⟩ := cx_gd_at hf
        refine cx_iald C dX9_image_40 3 rfl (cx_ib_in g9) ?_
        clear g9
        obtain ⟨g10, hf⟩ := cx_gd_at hf
        obtain ⟨a11, ea11⟩ : ∃ z, z = upd a_4 (cx_ix ((140 * p1) + x2_5)) (m_book (cx_ix x2_5)) := ⟨_, rfl⟩
        have hf := cx_let_at hf ea11
        refine cx_iast (ws' := (wd_Model k m_a m_limbs m_wide m_book a11 m_kept m_before m_refused m_quiet m_text m_typed m_at m_start m_token m_value m_items m_many m_is m_likes m_without m_onePicture m_oneYear m_first m_second m_names)) C dX9_image_41 4 rfl (cx_ib_in g10) (by rw [ea11]; rfl) ?_
        clear ea11 g10
        refine cx_iinc (v := x2_5 + 1) (lv' := [(2, .int (x2_5 + 1)), (0, .ref (m_a 0)), (1, .int p1)]) C dX9_image_42 2 rfl rfl (by decide) rfl ?_
        refine cx_goto (tgt := 17) C dX9_image_45 (by decide) ?_
        refine cx_lv [1, 2, 0] rfl ?_
        exact ih17 a11 (x2_5 + 1) hf
  unfold f_X9_image at hf
  refine cx_iload_n C dX9_image_0 1 rfl ?_
  refine cx_i2l C dX9_image_1 ?_
  refine cx_lconst (v := 0) C dX9_image_2 (by decide) ?_
  refine cx_lconst (v := 1) C dX9_image_3 (by decide) ?_
  obtain ⟨u1, e2, hf⟩ := cx_bd_at hf
  refine cx_Ksi (As := [.long (Int32.toInt64 p1), .long 0, .long 1]) (rest := []) hA C me_X9_in hw_1132 (c_X9_in l D k (Int32.toInt64 p1) 0 1 u1 e2) dX9_image_4 ⟨Nat.le_of_ble_eq_true rfl, Nat.le_of_ble_eq_true rfl⟩ ⟨Nat.zero_le _, Nat.zero_le _⟩ rfl rfl (Nat.le_of_ble_eq_true rfl) [] rfl (by decide) ?_
  clear e2
  refine cx_if_ne (tgt := 15) C dX9_image_7 (by decide) (fun c3 => ?_) (fun c3 => ?_)
  · have hf := cx_if_f hf c3
    clear c3
    refine cx_iconst (v := 0) C dX9_image_15 (by decide) ?_
    refine cx_istore_n (lv' := [(2, .int 0), (0, .ref (m_a 0)), (1, .int p1)]) C dX9_image_16 rfl (by decide) rfl ?_
    refine cx_lv [1, 2, 0] rfl ?_
    exact L17 cx_N0 m_images 0 hf
  · have hf := cx_if_t hf c3
    clear c3
    refine cx_aload_n C dX9_image_10 0 rfl ?_
    obtain ⟨u12, e13, hf⟩ := cx_bd_at hf
    refine cx_Fvi (q := (RX9, TX9, 24)) (As := []) (rest := []) (w1 := (wd_Model k m_a m_limbs m_wide m_book m_images m_kept m_before u12.2 m_quiet m_text m_typed m_at m_start m_token m_value m_items m_many m_is m_likes m_without m_onePicture m_oneYear m_first m_second m_names)) hA C me_X9_bad hw_1137 (c_X9_bad l D k m_a m_limbs m_wide m_book m_images m_kept m_before m_refused m_quiet m_text m_typed m_at m_start m_token m_value m_items m_many m_is m_likes m_without m_onePicture m_oneYear m_first m_second m_names u12 e13) dX9_image_11 ⟨Nat.le_of_ble_eq_true rfl, Nat.le_of_ble_eq_true rfl⟩ ⟨Nat.zero_le _, Nat.zero_le _⟩ rfl rfl (Nat.le_of_ble_eq_true rfl) rfl rfl rfl ?_
    clear e13
    obtain rfl := Option.some.inj hf
    exact cx_iret C hA hQ hr hlk dX9_image_14 rfl rfl
theorem dX9_from_0 : decode cX9_from 0 = .ok (.iload_n 1, 1) := by decide +kernel
theorem dX9_from_1 : decode cX9_from 1 = .ok (.i2l, 1) := by decide +kernel
theorem dX9_from_2 : decode cX9_from 2 = .ok (.lconst 0, 1) := by decide +kernel
theorem dX9_from_3 : decode cX9_from 3 = .ok (.lconst 1, 1) := by decide +kernel
theorem dX9_from_4 : decode cX9_from 4 = .ok (.invokestatic 89, 3) := by decide +kernel
theorem dX9_from_7 : decode cX9_from 7 = .ok (.ifCond .ne 8, 3) := by decide +kernel
theorem dX9_from_10 : decode cX9_from 10 = .ok (.aload_n 0, 1) := by decide +kernel
theorem dX9_from_11 : decode cX9_from 11 = .ok (.invokevirtual 99, 3) := by decide +kernel
theorem dX9_from_14 : decode cX9_from 14 = .ok (.ireturn, 1) := by decide +kernel
theorem dX9_from_15 : decode cX9_from 15 = .ok (.aload_n 0, 1) := by decide +kernel
theorem dX9_from_16 : decode cX9_from 16 = .ok (.getfield 57, 3) := by decide +kernel
theorem dX9_from_19 : decode cX9_from 19 = .ok (.iload_n 1, 1) := by decide +kernel
theorem dX9_from_20 : decode cX9_from 20 = .ok (.baload, 1) := by decide +kernel
theorem dX9_from_21 : decode cX9_from 21 = .ok (.ifCond .ne 8, 3) := by decide +kernel
theorem dX9_from_24 : decode cX9_from 24 = .ok (.aload_n 0, 1) := by decide +kernel
theorem dX9_from_25 : decode cX9_from 25 = .ok (.invokevirtual 290, 3) := by decide +kernel
theorem dX9_from_28 : decode cX9_from 28 = .ok (.ireturn, 1) := by decide +kernel
theorem dX9_from_29 : decode cX9_from 29 = .ok (.iconst 0, 1) := by decide +kernel
theorem dX9_from_30 : decode cX9_from 30 = .ok (.istore_n 2, 1) := by decide +kernel
theorem dX9_from_31 : decode cX9_from 31 = .ok (.iload_n 2, 1) := by decide +kernel
theorem dX9_from_32 : decode cX9_from 32 = .ok (.sipush 140, 3) := by decide +kernel
theorem dX9_from_35 : decode cX9_from 35 = .ok (.if_icmp .ge 27, 3) := by decide +kernel
theorem dX9_from_38 : decode cX9_from 38 = .ok (.aload_n 0, 1) := by decide +kernel
theorem dX9_from_39 : decode cX9_from 39 = .ok (.getfield 51, 3) := by decide +kernel
theorem dX9_from_42 : decode cX9_from 42 = .ok (.iload_n 2, 1) := by decide +kernel
theorem dX9_from_43 : decode cX9_from 43 = .ok (.aload_n 0, 1) := by decide +kernel
theorem dX9_from_44 : decode cX9_from 44 = .ok (.getfield 54, 3) := by decide +kernel
theorem dX9_from_47 : decode cX9_from 47 = .ok (.sipush 140, 3) := by decide +kernel
theorem dX9_from_50 : decode cX9_from 50 = .ok (.iload_n 1, 1) := by decide +kernel
theorem dX9_from_51 : decode cX9_from 51 = .ok (.imul, 1) := by decide +kernel
theorem dX9_from_52 : decode cX9_from 52 = .ok (.iload_n 2, 1) := by decide +kernel
theorem dX9_from_53 : decode cX9_from 53 = .ok (.iadd, 1) := by decide +kernel
theorem dX9_from_54 : decode cX9_from 54 = .ok (.iaload, 1) := by decide +kernel
theorem dX9_from_55 : decode cX9_from 55 = .ok (.iastore, 1) := by decide +kernel
theorem dX9_from_56 : decode cX9_from 56 = .ok (.iinc 2 1, 3) := by decide +kernel
theorem dX9_from_59 : decode cX9_from 59 = .ok (.goto (-28), 3) := by decide +kernel
theorem dX9_from_62 : decode cX9_from 62 = .ok (.iconst 1, 1) := by decide +kernel
theorem dX9_from_63 : decode cX9_from 63 = .ok (.ireturn, 1) := by decide +kernel
theorem me_X9_from : cx_Mv yX9_from cX9_from 3 (some .int) 1 := ⟨⟨⟨by decide +kernel, by decide +kernel, by decide +kernel⟩, hw_11, hw_1504⟩, hw_1502, hw_1503⟩
noncomputable def f_X9_from_L31 (m_images : Nat → Int32) (m_refused : Nat → Int32) (p1 : Int32) (rc31 : (Nat → Int32) → Int32 → Option (Int32 × (Nat → Int32) × (Nat → Int32))) (a_6 : Nat → Int32) (x2_7 : Int32) : Option (Int32 × (Nat → Int32) × (Nat → Int32)) := if 140 ≤ x2_7 then (some ((1, a_6, m_refused))) else (cx_gd (cx_ib ((140 * p1) + x2_7) 280) (cx_gd (cx_ib x2_7 140) (cx_let (upd a_6 (cx_ix x2_7) (m_images (cx_ix ((140 * p1) + x2_7)))) (fun a11 => rc31 a11 (x2_7 + 1)))))
noncomputable def f_X9_from_L31w (m_images : Nat → Int32) (m_refused : Nat → Int32) (p1 : Int32) (n : Nat) : (Nat → Int32) → Int32 → Option (Int32 × (Nat → Int32) × (Nat → Int32)) := Nat.rec (fun _ _ => none) (fun _ r => f_X9_from_L31 m_images m_refused p1 r) n
noncomputable def f_X9_from (m_book : Nat → Int32) (m_images : Nat → Int32) (m_kept : Nat → Int32) (m_refused : Nat → Int32) (m_quiet : Int32) (p1 : Int32) : Option (Int32 × (Nat → Int32) × (Nat → Int32)) := Option.bind (f_X9_in (Int32.toInt64 p1) 0 1) (fun u1 => if u1 = 0 then (Option.bind (f_X9_bad m_refused m_quiet) (fun u14 => some ((u14.1, m_book, u14.2)))) else (cx_gd (cx_ib p1 2) (if (m_kept (cx_ix p1)) = 0 then (Option.bind (f_X9_no m_refused m_quiet) (fun u12 => some ((u12.1, m_book, u12.2)))) else (f_X9_from_L31w m_images m_refused p1 cx_N0 m_book 0))))
set_option maxHeartbeats 4000000 in
set_option maxRecDepth 100000 in
theorem c_X9_from (l : Launch) (D : va_G) (k : Nat → ClassId) (m_a : Nat → Nat) (m_limbs : Nat → Int32) (m_wide : Nat → Int32) (m_book : Nat → Int32) (m_images : Nat → Int32) (m_kept : Nat → Int32) (m_before : Nat → Int32) (m_refused : Nat → Int32) (m_quiet : Int32) (m_text : Nat → Int32) (m_typed : Int32) (m_at : Int32) (m_start : Int32) (m_token : Int32) (m_value : Int32) (m_items : Nat → Int32) (m_many : Int32) (m_is : Nat → Int32) (m_likes : Nat → Int32) (m_without : Int32) (m_onePicture : Int32) (m_oneYear : Int32) (m_first : Int32) (m_second : Int32) (m_names : Nat → Int32) (p1 : Int32) (y : Int32 × (Nat → Int32) × (Nat → Int32)) (hf : f_X9_from m_book m_images m_kept m_refused m_quiet p1 = some y) : cx_M l yX9_from cX9_from 3 (some .int) 3 D k [.ref (m_a 0), .int p1] (wd_Model k m_a m_limbs m_wide m_book m_images m_kept m_before m_refused m_quiet m_text m_typed m_at m_start m_token m_value m_items m_many m_is m_likes m_without m_onePicture m_oneYear m_first m_second m_names) (fun sz => cx_Qi D y.1 (wd_Model k m_a m_limbs m_wide m_book m_images m_kept m_before m_refused m_quiet m_text m_typed m_at m_start m_token m_value m_items m_many m_is m_likes m_without m_onePicture m_oneYear m_first m_second m_names) (wd_Model k m_a m_limbs m_wide y.2.1 m_images m_kept m_before y.2.2 m_quiet m_text m_typed m_at m_start m_token m_value m_items m_many m_is m_likes m_without m_onePicture m_oneYear m_first m_second m_names) sz) := by
  refine cx_met (own := "NamelessBoxModel") (by decide) rfl (Nat.le_of_ble_eq_true rfl) ?_
  intro p e s m args below meth c A Q C hA hQ hr hlk
  refine cx_lv (lv' := [(0, .ref (m_a 0)), (1, .int p1)]) [0, 1] rfl ?_
  have L31 : ∀ (n31 : Nat) (a_6 : Nat → Int32) (x2_7 : Int32), f_X9_from_L31w m_images m_refused p1 n31 a_6 x2_7 = some y → cx_S p l e (cx_rm 3) s m args below meth c A D 3 0 0 Q 31 [(0, .ref (m_a 0)), (1, .int p1), (2, .int x2_7)] [] (wd_Model k m_a m_limbs m_wide a_6 m_images m_kept m_before m_refused m_quiet m_text m_typed m_at m_start m_token m_value m_items m_many m_is m_likes m_without m_onePicture m_oneYear m_first m_second m_names) := by
    intro  n31
    induction n31 with
    | zero =>
      intro a_6 x2_7 hf
      exact absurd (show (none : Option (Int32 × (Nat → Int32) × (Nat → Int32))) = some y from hf) (fun h => by cases h)
    | succ n31 ih31 =>
      intro a_6 x2_7 hf
      have hf : f_X9_from_L31 m_images m_refused p1 (f_X9_from_L31w m_images m_refused p1 n31) a_6 x2_7 = some y := hf
      unfold f_X9_from_L31 at hf
      refine cx_iload_n C dX9_from_31 2 rfl ?_
      refine cx_sipush (v := 140) C dX9_from_32 (by decide) ?_
      refine cx_icmp_ge (tgt := 62) C dX9_from_35 (by decide) (fun c8 => ?_) (fun c8 => ?_)
      · have hf := cx_if_t hf c8
        clear c8
        refine cx_iconst (v := 1) C dX9_from_62 (by decide) ?_
        obtain rfl := Option.some.inj hf
        exact cx_iret C hA hQ hr hlk dX9_from_63 rfl rfl
      · have hf := cx_if_f hf c8
        clear c8
        refine cx_aload_n C dX9_from_38 0 rfl ?_
        refine cx_get (v := .ref (m_a 3)) (ci := 8) C iX9 dX9_from_39 0 rfl rfl 2 (by decide) hw_1056 rfl ?_
        refine cx_iload_n C dX9_from_42 2 rfl ?_
        refine cx_aload_n C dX9_from_43 0 rfl ?_
        refine cx_get (v := .ref (m_a 4)) (ci := 8) C iX9 dX9_from_44 0 rfl rfl 3 (by decide) hw_1057 rfl ?_
        refine cx_sipush (v := 140) C dX9_from_47 (by decide) ?_
        refine cx_iload_n C dX9_from_50 1 rfl ?_
        refine cx_imul C dX9_from_51 ?_
        refine cx_iload_n C dX9_from_52 2 rfl ?_
        refine cx_iadd C dX9_from_53 ?_
        obtain ⟨g9, hf⟩ := cx_gd_at hf
        refine cx_iald C dX9_from_54 4 rfl (cx_ib_in g9) ?_
        clear g9
        obtain ⟨g10, hf⟩ := cx_gd_at hf
        obtain ⟨a11, ea11⟩ : ∃ z, z = upd a_6 (cx_ix x2_7) (m_images (cx_ix ((140 * p1) + x2_7))) := ⟨_, rfl⟩
        have hf := cx_let_at hf ea11
        refine cx_iast (ws' := (wd_Model k m_a m_limbs m_wide a11 m_images m_kept m_before m_refused m_quiet m_text m_typed m_at m_start m_token m_value m_items m_many m_is m_likes m_without m_onePicture m_oneYear m_first m_second m_names)) C dX9_from_55 3 rfl (cx_ib_in g10) (by rw [ea11]; rfl) ?_
        clear ea11 g10
        refine cx_iinc (v := x2_7 + 1) (lv' := [(2, .int (x2_7 + 1)), (0, .ref (m_a 0)), (1, .int p1)]) C dX9_from_56 2 rfl rfl (by decide) rfl ?_
        refine cx_goto (tgt := 31) C dX9_from_59 (by decide) ?_
        refine cx_lv [1, 2, 0] rfl ?_
        exact ih31 a11 (x2_7 + 1) hf
  unfold f_X9_from at hf
  refine cx_iload_n C dX9_from_0 1 rfl ?_
  refine cx_i2l C dX9_from_1 ?_
  refine cx_lconst (v := 0) C dX9_from_2 (by decide) ?_
  refine cx_lconst (v := 1) C dX9_from_3 (by decide) ?_
  obtain ⟨u1, e2, hf⟩ := cx_bd_at hf
  refine cx_Ksi (As := [.long (Int32.toInt64 p1), .long 0, .long 1]) (rest := []) hA C me_X9_in hw_1132 (c_X9_in l D k (Int32.toInt64 p1) 0 1 u1 e2) dX9_from_4 ⟨Nat.le_of_ble_eq_true rfl, Nat.le_of_ble_eq_true rfl⟩ ⟨Nat.zero_le _, Nat.zero_le _⟩ rfl rfl (Nat.le_of_ble_eq_true rfl) [] rfl (by decide) ?_
  clear e2
  refine cx_if_ne (tgt := 15) C dX9_from_7 (by decide) (fun c3 => ?_) (fun c3 => ?_)
  · have hf := cx_if_f hf c3
    clear c3
    refine cx_aload_n C dX9_from_15 0 rfl ?_
    refine cx_get (v := .ref (m_a 5)) (ci := 8) C iX9 dX9_from_16 0 rfl rfl 4 (by decide) hw_1058 rfl ?_
    refine cx_iload_n C dX9_from_19 1 rfl ?_
    obtain ⟨g4, hf⟩ := cx_gd_at hf
    refine cx_zald C dX9_from_20 5 rfl (cx_ib_in g4) ?_
    clear g4
    refine cx_if_ne (tgt := 29) C dX9_from_21 (by decide) (fun c5 => ?_) (fun c5 => ?_)
    · have hf := cx_if_f hf c5
      clear c5
      refine cx_iconst (v := 0) C dX9_from_29 (by decide) ?_
      refine cx_istore_n (lv' := [(2, .int 0), (0, .ref (m_a 0)), (1, .int p1)]) C dX9_from_30 rfl (by decide) rfl ?_
      refine cx_lv [1, 2, 0] rfl ?_
      exact L31 cx_N0 m_book 0 hf
    · have hf := cx_if_t hf c5
      clear c5
      refine cx_aload_n C dX9_from_24 0 rfl ?_
      obtain ⟨u12, e13, hf⟩ := cx_bd_at hf
      refine cx_Fvi (q := (RX9, TX9, 24)) (As := []) (rest := []) (w1 := (wd_Model k m_a m_limbs m_wide m_book m_images m_kept m_before u12.2 m_quiet m_text m_typed m_at m_start m_token m_value m_items m_many m_is m_likes m_without m_onePicture m_oneYear m_first m_second m_names)) hA C me_X9_no hw_1337 (c_X9_no l D k m_a m_limbs m_wide m_book m_images m_kept m_before m_refused m_quiet m_text m_typed m_at m_start m_token m_value m_items m_many m_is m_likes m_without m_onePicture m_oneYear m_first m_second m_names u12 e13) dX9_from_25 ⟨Nat.le_of_ble_eq_true rfl, Nat.le_of_ble_eq_true rfl⟩ ⟨Nat.zero_le _, Nat.zero_le _⟩ rfl rfl (Nat.le_of_ble_eq_true rfl) rfl rfl rfl ?_
      clear e13
      obtain rfl := Option.some.inj hf
      exact cx_iret C hA hQ hr hlk dX9_from_28 rfl rfl
  · have hf := cx_if_t hf c3
    clear c3
    refine cx_aload_n C dX9_from_10 0 rfl ?_
    obtain ⟨u14, e15, hf⟩ := cx_bd_at hf
    refine cx_Fvi (q := (RX9, TX9, 24)) (As := []) (rest := []) (w1 := (wd_Model k m_a m_limbs m_wide m_book m_images m_kept m_before u14.2 m_quiet m_text m_typed m_at m_start m_token m_value m_items m_many m_is m_likes m_without m_onePicture m_oneYear m_first m_second m_names)) hA C me_X9_bad hw_1137 (c_X9_bad l D k m_a m_limbs m_wide m_book m_images m_kept m_before m_refused m_quiet m_text m_typed m_at m_start m_token m_value m_items m_many m_is m_likes m_without m_onePicture m_oneYear m_first m_second m_names u14 e15) dX9_from_11 ⟨Nat.le_of_ble_eq_true rfl, Nat.le_of_ble_eq_true rfl⟩ ⟨Nat.zero_le _, Nat.zero_le _⟩ rfl rfl (Nat.le_of_ble_eq_true rfl) rfl rfl rfl ?_
    clear e15
    obtain rfl := Option.some.inj hf
    exact cx_iret C hA hQ hr hlk dX9_from_14 rfl rfl
theorem dX9_status_0 : decode cX9_status 0 = .ok (.iload_n 1, 1) := by decide +kernel
theorem dX9_status_1 : decode cX9_status 1 = .ok (.i2l, 1) := by decide +kernel
theorem dX9_status_2 : decode cX9_status 2 = .ok (.lconst 0, 1) := by decide +kernel
theorem dX9_status_3 : decode cX9_status 3 = .ok (.ldc2_w 331, 3) := by decide +kernel
theorem dX9_status_6 : decode cX9_status 6 = .ok (.invokestatic 89, 3) := by decide +kernel
theorem dX9_status_9 : decode cX9_status 9 = .ok (.ifCond .eq 12, 3) := by decide +kernel
theorem dX9_status_12 : decode cX9_status 12 = .ok (.aload_n 0, 1) := by decide +kernel
theorem dX9_status_13 : decode cX9_status 13 = .ok (.getfield 64, 3) := by decide +kernel
theorem dX9_status_16 : decode cX9_status 16 = .ok (.iload_n 1, 1) := by decide +kernel
theorem dX9_status_17 : decode cX9_status 17 = .ok (.iaload, 1) := by decide +kernel
theorem dX9_status_18 : decode cX9_status 18 = .ok (.goto 9, 3) := by decide +kernel
theorem dX9_status_21 : decode cX9_status 21 = .ok (.aload_n 0, 1) := by decide +kernel
theorem dX9_status_22 : decode cX9_status 22 = .ok (.iconst 0, 1) := by decide +kernel
theorem dX9_status_23 : decode cX9_status 23 = .ok (.iconst (-1), 1) := by decide +kernel
theorem dX9_status_24 : decode cX9_status 24 = .ok (.invokevirtual 86, 3) := by decide +kernel
theorem dX9_status_27 : decode cX9_status 27 = .ok (.ireturn, 1) := by decide +kernel
theorem me_X9_status : cx_Mv yX9_status cX9_status 2 (some .int) 1 := ⟨⟨⟨by decide +kernel, by decide +kernel, by decide +kernel⟩, hw_11, hw_1508⟩, hw_1506, hw_1507⟩
noncomputable def f_X9_status (m_refused : Nat → Int32) (m_quiet : Int32) (p1 : Int32) : Option (Int32 × (Nat → Int32)) := Option.bind (f_X9_in (Int32.toInt64 p1) 0 2) (fun u1 => if u1 = 0 then (Option.bind (f_X9_refuses m_refused m_quiet 0 ((-1))) (fun u4 => some ((u4.1, u4.2)))) else (cx_gd (cx_ib p1 3) (some ((m_refused (cx_ix p1), m_refused)))))
set_option maxHeartbeats 4000000 in
set_option maxRecDepth 100000 in
theorem c_X9_status (l : Launch) (D : va_G) (k : Nat → ClassId) (m_a : Nat → Nat) (m_limbs : Nat → Int32) (m_wide : Nat → Int32) (m_book : Nat → Int32) (m_images : Nat → Int32) (m_kept : Nat → Int32) (m_before : Nat → Int32) (m_refused : Nat → Int32) (m_quiet : Int32) (m_text : Nat → Int32) (m_typed : Int32) (m_at : Int32) (m_start : Int32) (m_token : Int32) (m_value : Int32) (m_items : Nat → Int32) (m_many : Int32) (m_is : Nat → Int32) (m_likes : Nat → Int32) (m_without : Int32) (m_onePicture : Int32) (m_oneYear : Int32) (m_first : Int32) (m_second : Int32) (m_names : Nat → Int32) (p1 : Int32) (y : Int32 × (Nat → Int32)) (hf : f_X9_status m_refused m_quiet p1 = some y) : cx_M l yX9_status cX9_status 2 (some .int) 2 D k [.ref (m_a 0), .int p1] (wd_Model k m_a m_limbs m_wide m_book m_images m_kept m_before m_refused m_quiet m_text m_typed m_at m_start m_token m_value m_items m_many m_is m_likes m_without m_onePicture m_oneYear m_first m_second m_names) (fun sz => cx_Qi D y.1 (wd_Model k m_a m_limbs m_wide m_book m_images m_kept m_before m_refused m_quiet m_text m_typed m_at m_start m_token m_value m_items m_many m_is m_likes m_without m_onePicture m_oneYear m_first m_second m_names) (wd_Model k m_a m_limbs m_wide m_book m_images m_kept m_before y.2 m_quiet m_text m_typed m_at m_start m_token m_value m_items m_many m_is m_likes m_without m_onePicture m_oneYear m_first m_second m_names) sz) := by
  refine cx_met (own := "NamelessBoxModel") (by decide) rfl (Nat.le_of_ble_eq_true rfl) ?_
  intro p e s m args below meth c A Q C hA hQ hr hlk
  refine cx_lv (lv' := [(0, .ref (m_a 0)), (1, .int p1)]) [0, 1] rfl ?_
  unfold f_X9_status at hf
  refine cx_iload_n C dX9_status_0 1 rfl ?_
  refine cx_i2l C dX9_status_1 ?_
  refine cx_lconst (v := 0) C dX9_status_2 (by decide) ?_
  refine cx_ldc2 (v := 2) C dX9_status_3 hw_1509 ?_
  obtain ⟨u1, e2, hf⟩ := cx_bd_at hf
  refine cx_Ksi (As := [.long (Int32.toInt64 p1), .long 0, .long 2]) (rest := []) hA C me_X9_in hw_1132 (c_X9_in l D k (Int32.toInt64 p1) 0 2 u1 e2) dX9_status_6 ⟨Nat.le_of_ble_eq_true rfl, Nat.le_of_ble_eq_true rfl⟩ ⟨Nat.zero_le _, Nat.zero_le _⟩ rfl rfl (Nat.le_of_ble_eq_true rfl) [] rfl (by decide) ?_
  clear e2
  refine cx_if_eq (tgt := 21) C dX9_status_9 (by decide) (fun c3 => ?_) (fun c3 => ?_)
  · have hf := cx_if_t hf c3
    clear c3
    refine cx_aload_n C dX9_status_21 0 rfl ?_
    refine cx_iconst (v := 0) C dX9_status_22 (by decide) ?_
    refine cx_iconst (v := (-1)) C dX9_status_23 (by decide) ?_
    obtain ⟨u4, e5, hf⟩ := cx_bd_at hf
    refine cx_Fvi (q := (RX9, TX9, 24)) (As := [.int 0, .int ((-1))]) (rest := []) (w1 := (wd_Model k m_a m_limbs m_wide m_book m_images m_kept m_before u4.2 m_quiet m_text m_typed m_at m_start m_token m_value m_items m_many m_is m_likes m_without m_onePicture m_oneYear m_first m_second m_names)) hA C me_X9_refuses hw_1141 (c_X9_refuses l D k m_a m_limbs m_wide m_book m_images m_kept m_before m_refused m_quiet m_text m_typed m_at m_start m_token m_value m_items m_many m_is m_likes m_without m_onePicture m_oneYear m_first m_second m_names 0 ((-1)) u4 e5) dX9_status_24 ⟨Nat.le_of_ble_eq_true rfl, Nat.le_of_ble_eq_true rfl⟩ ⟨Nat.zero_le _, Nat.zero_le _⟩ rfl rfl (Nat.le_of_ble_eq_true rfl) rfl rfl rfl ?_
    clear e5
    obtain rfl := Option.some.inj hf
    exact cx_iret C hA hQ hr hlk dX9_status_27 rfl rfl
  · have hf := cx_if_f hf c3
    clear c3
    refine cx_aload_n C dX9_status_12 0 rfl ?_
    refine cx_get (v := .ref (m_a 7)) (ci := 8) C iX9 dX9_status_13 0 rfl rfl 6 (by decide) hw_1060 rfl ?_
    refine cx_iload_n C dX9_status_16 1 rfl ?_
    obtain ⟨g6, hf⟩ := cx_gd_at hf
    refine cx_iald C dX9_status_17 7 rfl (cx_ib_in g6) ?_
    clear g6
    refine cx_goto (tgt := 27) C dX9_status_18 (by decide) ?_
    obtain rfl := Option.some.inj hf
    exact cx_iret C hA hQ hr hlk dX9_status_27 rfl rfl
theorem dX9_countOf_0 : decode cX9_countOf 0 = .ok (.iload_n 1, 1) := by decide +kernel
theorem dX9_countOf_1 : decode cX9_countOf 1 = .ok (.iconst 5, 1) := by decide +kernel
theorem dX9_countOf_2 : decode cX9_countOf 2 = .ok (.if_icmp .ge 12, 3) := by decide +kernel
theorem dX9_countOf_5 : decode cX9_countOf 5 = .ok (.aload_n 0, 1) := by decide +kernel
theorem dX9_countOf_6 : decode cX9_countOf 6 = .ok (.getfield 51, 3) := by decide +kernel
theorem dX9_countOf_9 : decode cX9_countOf 9 = .ok (.iload_n 1, 1) := by decide +kernel
theorem dX9_countOf_10 : decode cX9_countOf 10 = .ok (.iaload, 1) := by decide +kernel
theorem dX9_countOf_11 : decode cX9_countOf 11 = .ok (.goto 7, 3) := by decide +kernel
theorem dX9_countOf_14 : decode cX9_countOf 14 = .ok (.aload_n 0, 1) := by decide +kernel
theorem dX9_countOf_15 : decode cX9_countOf 15 = .ok (.getfield 144, 3) := by decide +kernel
theorem dX9_countOf_18 : decode cX9_countOf 18 = .ok (.ireturn, 1) := by decide +kernel
theorem me_X9_countOf : cx_Mv yX9_countOf cX9_countOf 2 (some .int) 1 := ⟨⟨⟨by decide +kernel, by decide +kernel, by decide +kernel⟩, hw_11, hw_1517⟩, hw_1516, hs_88⟩
noncomputable def f_X9_countOf (m_book : Nat → Int32) (m_typed : Int32) (p1 : Int32) : Option Int32 := if 5 ≤ p1 then (some m_typed) else (cx_gd (cx_ib p1 140) (some (m_book (cx_ix p1))))
set_option maxHeartbeats 4000000 in
set_option maxRecDepth 100000 in
theorem c_X9_countOf (l : Launch) (D : va_G) (k : Nat → ClassId) (m_a : Nat → Nat) (m_limbs : Nat → Int32) (m_wide : Nat → Int32) (m_book : Nat → Int32) (m_images : Nat → Int32) (m_kept : Nat → Int32) (m_before : Nat → Int32) (m_refused : Nat → Int32) (m_quiet : Int32) (m_text : Nat → Int32) (m_typed : Int32) (m_at : Int32) (m_start : Int32) (m_token : Int32) (m_value : Int32) (m_items : Nat → Int32) (m_many : Int32) (m_is : Nat → Int32) (m_likes : Nat → Int32) (m_without : Int32) (m_onePicture : Int32) (m_oneYear : Int32) (m_first : Int32) (m_second : Int32) (m_names : Nat → Int32) (p1 : Int32) (y : Int32) (hf : f_X9_countOf m_book m_typed p1 = some y) : cx_M l yX9_countOf cX9_countOf 2 (some .int) 1 D k [.ref (m_a 0), .int p1] (wd_Model k m_a m_limbs m_wide m_book m_images m_kept m_before m_refused m_quiet m_text m_typed m_at m_start m_token m_value m_items m_many m_is m_likes m_without m_onePicture m_oneYear m_first m_second m_names) (fun sz => cx_Qi D y (wd_Model k m_a m_limbs m_wide m_book m_images m_kept m_before m_refused m_quiet m_text m_typed m_at m_start m_token m_value m_items m_many m_is m_likes m_without m_onePicture m_oneYear m_first m_second m_names) (wd_Model k m_a m_limbs m_wide m_book m_images m_kept m_before m_refused m_quiet m_text m_typed m_at m_start m_token m_value m_items m_many m_is m_likes m_without m_onePicture m_oneYear m_first m_second m_names) sz) := by
  refine cx_met (own := "NamelessBoxModel") (by decide) rfl (Nat.le_of_ble_eq_true rfl) ?_
  intro p e s m args below meth c A Q C hA hQ hr hlk
  refine cx_lv (lv' := [(0, .ref (m_a 0)), (1, .int p1)]) [0, 1] rfl ?_
  unfold f_X9_countOf at hf
  refine cx_iload_n C dX9_countOf_0 1 rfl ?_
  refine cx_iconst (v := 5) C dX9_countOf_1 (by decide) ?_
  refine cx_icmp_ge (tgt := 14) C dX9_countOf_2 (by decide) (fun c1 => ?_) (fun c1 => ?_)
  · have hf := cx_if_t hf c1
    clear c1
    refine cx_aload_n C dX9_countOf_14 0 rfl ?_
    refine cx_get (v := .int m_typed) (ci := 8) C iX9 dX9_countOf_15 0 rfl rfl 9 (by decide) hw_1063 rfl ?_
    obtain rfl := Option.some.inj hf
    exact cx_iret C hA hQ hr hlk dX9_countOf_18 rfl rfl
  · have hf := cx_if_f hf c1
    clear c1
    refine cx_aload_n C dX9_countOf_5 0 rfl ?_
    refine cx_get (v := .ref (m_a 3)) (ci := 8) C iX9 dX9_countOf_6 0 rfl rfl 2 (by decide) hw_1056 rfl ?_
    refine cx_iload_n C dX9_countOf_9 1 rfl ?_
    obtain ⟨g2, hf⟩ := cx_gd_at hf
    refine cx_iald C dX9_countOf_10 3 rfl (cx_ib_in g2) ?_
    clear g2
    refine cx_goto (tgt := 18) C dX9_countOf_11 (by decide) ?_
    obtain rfl := Option.some.inj hf
    exact cx_iret C hA hQ hr hlk dX9_countOf_18 rfl rfl
theorem dX9_count_0 : decode cX9_count 0 = .ok (.iload_n 1, 1) := by decide +kernel
theorem dX9_count_1 : decode cX9_count 1 = .ok (.i2l, 1) := by decide +kernel
theorem dX9_count_2 : decode cX9_count 2 = .ok (.lconst 0, 1) := by decide +kernel
theorem dX9_count_3 : decode cX9_count 3 = .ok (.ldc2_w 117, 3) := by decide +kernel
theorem dX9_count_6 : decode cX9_count 6 = .ok (.invokestatic 89, 3) := by decide +kernel
theorem dX9_count_9 : decode cX9_count 9 = .ok (.ifCond .eq 11, 3) := by decide +kernel
theorem dX9_count_12 : decode cX9_count 12 = .ok (.aload_n 0, 1) := by decide +kernel
theorem dX9_count_13 : decode cX9_count 13 = .ok (.iload_n 1, 1) := by decide +kernel
theorem dX9_count_14 : decode cX9_count 14 = .ok (.invokevirtual 333, 3) := by decide +kernel
theorem dX9_count_17 : decode cX9_count 17 = .ok (.goto 7, 3) := by decide +kernel
theorem dX9_count_20 : decode cX9_count 20 = .ok (.aload_n 0, 1) := by decide +kernel
theorem dX9_count_21 : decode cX9_count 21 = .ok (.invokevirtual 99, 3) := by decide +kernel
theorem dX9_count_24 : decode cX9_count 24 = .ok (.ireturn, 1) := by decide +kernel
theorem me_X9_count : cx_Mv yX9_count cX9_count 2 (some .int) 1 := ⟨⟨⟨by decide +kernel, by decide +kernel, by decide +kernel⟩, hw_11, hw_1513⟩, hw_1511, hw_1512⟩
noncomputable def f_X9_count (m_book : Nat → Int32) (m_refused : Nat → Int32) (m_quiet : Int32) (m_typed : Int32) (p1 : Int32) : Option (Int32 × (Nat → Int32)) := Option.bind (f_X9_in (Int32.toInt64 p1) 0 5) (fun u1 => if u1 = 0 then (Option.bind (f_X9_bad m_refused m_quiet) (fun u4 => some ((u4.1, u4.2)))) else (Option.bind (f_X9_countOf m_book m_typed p1) (fun u6 => some ((u6, m_refused)))))
set_option maxHeartbeats 4000000 in
set_option maxRecDepth 100000 in
theorem c_X9_count (l : Launch) (D : va_G) (k : Nat → ClassId) (m_a : Nat → Nat) (m_limbs : Nat → Int32) (m_wide : Nat → Int32) (m_book : Nat → Int32) (m_images : Nat → Int32) (m_kept : Nat → Int32) (m_before : Nat → Int32) (m_refused : Nat → Int32) (m_quiet : Int32) (m_text : Nat → Int32) (m_typed : Int32) (m_at : Int32) (m_start : Int32) (m_token : Int32) (m_value : Int32) (m_items : Nat → Int32) (m_many : Int32) (m_is : Nat → Int32) (m_likes : Nat → Int32) (m_without : Int32) (m_onePicture : Int32) (m_oneYear : Int32) (m_first : Int32) (m_second : Int32) (m_names : Nat → Int32) (p1 : Int32) (y : Int32 × (Nat → Int32)) (hf : f_X9_count m_book m_refused m_quiet m_typed p1 = some y) : cx_M l yX9_count cX9_count 2 (some .int) 3 D k [.ref (m_a 0), .int p1] (wd_Model k m_a m_limbs m_wide m_book m_images m_kept m_before m_refused m_quiet m_text m_typed m_at m_start m_token m_value m_items m_many m_is m_likes m_without m_onePicture m_oneYear m_first m_second m_names) (fun sz => cx_Qi D y.1 (wd_Model k m_a m_limbs m_wide m_book m_images m_kept m_before m_refused m_quiet m_text m_typed m_at m_start m_token m_value m_items m_many m_is m_likes m_without m_onePicture m_oneYear m_first m_second m_names) (wd_Model k m_a m_limbs m_wide m_book m_images m_kept m_before y.2 m_quiet m_text m_typed m_at m_start m_token m_value m_items m_many m_is m_likes m_without m_onePicture m_oneYear m_first m_second m_names) sz) := by
  refine cx_met (own := "NamelessBoxModel") (by decide) rfl (Nat.le_of_ble_eq_true rfl) ?_
  intro p e s m args below meth c A Q C hA hQ hr hlk
  refine cx_lv (lv' := [(0, .ref (m_a 0)), (1, .int p1)]) [0, 1] rfl ?_
  unfold f_X9_count at hf
  refine cx_iload_n C dX9_count_0 1 rfl ?_
  refine cx_i2l C dX9_count_1 ?_
  refine cx_lconst (v := 0) C dX9_count_2 (by decide) ?_
  refine cx_ldc2 (v := 5) C dX9_count_3 hw_1182 ?_
  obtain ⟨u1, e2, hf⟩ := cx_bd_at hf
  refine cx_Ksi (As := [.long (Int32.toInt64 p1), .long 0, .long 5]) (rest := []) hA C me_X9_in hw_1132 (c_X9_in l D k (Int32.toInt64 p1) 0 5 u1 e2) dX9_count_6 ⟨Nat.le_of_ble_eq_true rfl, Nat.le_of_ble_eq_true rfl⟩ ⟨Nat.zero_le _, Nat.zero_le _⟩ rfl rfl (Nat.le_of_ble_eq_true rfl) [] rfl (by decide) ?_
  clear e2
  refine cx_if_eq (tgt := 20) C dX9_count_9 (by decide) (fun c3 => ?_) (fun c3 => ?_)
  · have hf := cx_if_t hf c3
    clear c3
    refine cx_aload_n C dX9_count_20 0 rfl ?_
    obtain ⟨u4, e5, hf⟩ := cx_bd_at hf
    refine cx_Fvi (q := (RX9, TX9, 24)) (As := []) (rest := []) (w1 := (wd_Model k m_a m_limbs m_wide m_book m_images m_kept m_before u4.2 m_quiet m_text m_typed m_at m_start m_token m_value m_items m_many m_is m_likes m_without m_onePicture m_oneYear m_first m_second m_names)) hA C me_X9_bad hw_1137 (c_X9_bad l D k m_a m_limbs m_wide m_book m_images m_kept m_before m_refused m_quiet m_text m_typed m_at m_start m_token m_value m_items m_many m_is m_likes m_without m_onePicture m_oneYear m_first m_second m_names u4 e5) dX9_count_21 ⟨Nat.le_of_ble_eq_true rfl, Nat.le_of_ble_eq_true rfl⟩ ⟨Nat.zero_le _, Nat.zero_le _⟩ rfl rfl (Nat.le_of_ble_eq_true rfl) rfl rfl rfl ?_
    clear e5
    obtain rfl := Option.some.inj hf
    exact cx_iret C hA hQ hr hlk dX9_count_24 rfl rfl
  · have hf := cx_if_f hf c3
    clear c3
    refine cx_aload_n C dX9_count_12 0 rfl ?_
    refine cx_iload_n C dX9_count_13 1 rfl ?_
    obtain ⟨u6, e7, hf⟩ := cx_bd_at hf
    refine cx_Fvi (q := (RX9, TX9, 24)) (As := [.int p1]) (rest := []) (w1 := (wd_Model k m_a m_limbs m_wide m_book m_images m_kept m_before m_refused m_quiet m_text m_typed m_at m_start m_token m_value m_items m_many m_is m_likes m_without m_onePicture m_oneYear m_first m_second m_names)) hA C me_X9_countOf hw_1514 (c_X9_countOf l D k m_a m_limbs m_wide m_book m_images m_kept m_before m_refused m_quiet m_text m_typed m_at m_start m_token m_value m_items m_many m_is m_likes m_without m_onePicture m_oneYear m_first m_second m_names p1 u6 e7) dX9_count_14 ⟨Nat.le_of_ble_eq_true rfl, Nat.le_of_ble_eq_true rfl⟩ ⟨Nat.zero_le _, Nat.zero_le _⟩ rfl rfl (Nat.le_of_ble_eq_true rfl) rfl rfl rfl ?_
    clear e7
    refine cx_goto (tgt := 24) C dX9_count_17 (by decide) ?_
    obtain rfl := Option.some.inj hf
    exact cx_iret C hA hQ hr hlk dX9_count_24 rfl rfl
theorem dX9_mixed_0 : decode cX9_mixed 0 = .ok (.lload_n 1, 1) := by decide +kernel
theorem dX9_mixed_1 : decode cX9_mixed 1 = .ok (.lstore 5, 2) := by decide +kernel
theorem dX9_mixed_3 : decode cX9_mixed 3 = .ok (.iconst 0, 1) := by decide +kernel
theorem dX9_mixed_4 : decode cX9_mixed 4 = .ok (.istore 7, 2) := by decide +kernel
theorem dX9_mixed_6 : decode cX9_mixed 6 = .ok (.iload 7, 2) := by decide +kernel
theorem dX9_mixed_8 : decode cX9_mixed 8 = .ok (.iload 4, 2) := by decide +kernel
theorem dX9_mixed_10 : decode cX9_mixed 10 = .ok (.if_icmp .ge 28, 3) := by decide +kernel
theorem dX9_mixed_13 : decode cX9_mixed 13 = .ok (.ldc2_w 336, 3) := by decide +kernel
theorem dX9_mixed_16 : decode cX9_mixed 16 = .ok (.lload 5, 2) := by decide +kernel
theorem dX9_mixed_18 : decode cX9_mixed 18 = .ok (.lmul, 1) := by decide +kernel
theorem dX9_mixed_19 : decode cX9_mixed 19 = .ok (.aload_n 0, 1) := by decide +kernel
theorem dX9_mixed_20 : decode cX9_mixed 20 = .ok (.getfield 51, 3) := by decide +kernel
theorem dX9_mixed_23 : decode cX9_mixed 23 = .ok (.iload_n 3, 1) := by decide +kernel
theorem dX9_mixed_24 : decode cX9_mixed 24 = .ok (.iload 7, 2) := by decide +kernel
theorem dX9_mixed_26 : decode cX9_mixed 26 = .ok (.iadd, 1) := by decide +kernel
theorem dX9_mixed_27 : decode cX9_mixed 27 = .ok (.iaload, 1) := by decide +kernel
theorem dX9_mixed_28 : decode cX9_mixed 28 = .ok (.i2l, 1) := by decide +kernel
theorem dX9_mixed_29 : decode cX9_mixed 29 = .ok (.ladd, 1) := by decide +kernel
theorem dX9_mixed_30 : decode cX9_mixed 30 = .ok (.lstore 5, 2) := by decide +kernel
theorem dX9_mixed_32 : decode cX9_mixed 32 = .ok (.iinc 7 1, 3) := by decide +kernel
theorem dX9_mixed_35 : decode cX9_mixed 35 = .ok (.goto (-29), 3) := by decide +kernel
theorem dX9_mixed_38 : decode cX9_mixed 38 = .ok (.lload 5, 2) := by decide +kernel
theorem dX9_mixed_40 : decode cX9_mixed 40 = .ok (.lreturn, 1) := by decide +kernel
theorem me_X9_mixed : cx_Mv yX9_mixed cX9_mixed 8 (some .long) 3 := ⟨⟨⟨by decide +kernel, by decide +kernel, by decide +kernel⟩, hw_11, hw_1527⟩, hw_1526, hs_89⟩
noncomputable def f_X9_mixed_L6 (m_book : Nat → Int32) (p3 : Int32) (p4 : Int32) (rc6 : Int64 → Int32 → Option Int64) (x5_1 : Int64) (x7_2 : Int32) : Option Int64 := if p4 ≤ x7_2 then (some x5_1) else (cx_gd (cx_ib (p3 + x7_2) 140) (cx_let ((31 * x5_1) + (Int32.toInt64 (m_book (cx_ix (p3 + x7_2))))) (fun v5 => rc6 v5 (x7_2 + 1))))
noncomputable def f_X9_mixed_L6w (m_book : Nat → Int32) (p3 : Int32) (p4 : Int32) (n : Nat) : Int64 → Int32 → Option Int64 := Nat.rec (fun _ _ => none) (fun _ r => f_X9_mixed_L6 m_book p3 p4 r) n
noncomputable def f_X9_mixed (m_book : Nat → Int32) (p1 : Int64) (p3 : Int32) (p4 : Int32) : Option Int64 := f_X9_mixed_L6w m_book p3 p4 cx_N0 p1 0
set_option maxHeartbeats 4000000 in
set_option maxRecDepth 100000 in
theorem c_X9_mixed (l : Launch) (D : va_G) (k : Nat → ClassId) (m_a : Nat → Nat) (m_limbs : Nat → Int32) (m_wide : Nat → Int32) (m_book : Nat → Int32) (m_images : Nat → Int32) (m_kept : Nat → Int32) (m_before : Nat → Int32) (m_refused : Nat → Int32) (m_quiet : Int32) (m_text : Nat → Int32) (m_typed : Int32) (m_at : Int32) (m_start : Int32) (m_token : Int32) (m_value : Int32) (m_items : Nat → Int32) (m_many : Int32) (m_is : Nat → Int32) (m_likes : Nat → Int32) (m_without : Int32) (m_onePicture : Int32) (m_oneYear : Int32) (m_first : Int32) (m_second : Int32) (m_names : Nat → Int32) (p1 : Int64) (p3 : Int32) (p4 : Int32) (y : Int64) (hf : f_X9_mixed m_book p1 p3 p4 = some y) : cx_M l yX9_mixed cX9_mixed 8 (some .long) 1 D k [.ref (m_a 0), .long p1, .int p3, .int p4] (wd_Model k m_a m_limbs m_wide m_book m_images m_kept m_before m_refused m_quiet m_text m_typed m_at m_start m_token m_value m_items m_many m_is m_likes m_without m_onePicture m_oneYear m_first m_second m_names) (fun sz => cx_Ql D y (wd_Model k m_a m_limbs m_wide m_book m_images m_kept m_before m_refused m_quiet m_text m_typed m_at m_start m_token m_value m_items m_many m_is m_likes m_without m_onePicture m_oneYear m_first m_second m_names) (wd_Model k m_a m_limbs m_wide m_book m_images m_kept m_before m_refused m_quiet m_text m_typed m_at m_start m_token m_value m_items m_many m_is m_likes m_without m_onePicture m_oneYear m_first m_second m_names) sz) := by
  refine cx_met (own := "NamelessBoxModel") (by decide) rfl (Nat.le_of_ble_eq_true rfl) ?_
  intro p e s m args below meth c A Q C hA hQ hr hlk
  refine cx_lv (lv' := [(0, .ref (m_a 0)), (1, .long p1), (3, .int p3), (4, .int p4)]) [0, 1, 2, 3] rfl ?_
  have L6 : ∀ (n6 : Nat) (x5_1 : Int64) (x7_2 : Int32), f_X9_mixed_L6w m_book p3 p4 n6 x5_1 x7_2 = some y → cx_S p l e (cx_rm 1) s m args below meth c A D 8 0 0 Q 6 [(0, .ref (m_a 0)), (3, .int p3), (4, .int p4), (5, .long x5_1), (7, .int x7_2)] [] (wd_Model k m_a m_limbs m_wide m_book m_images m_kept m_before m_refused m_quiet m_text m_typed m_at m_start m_token m_value m_items m_many m_is m_likes m_without m_onePicture m_oneYear m_first m_second m_names) := by
    intro  n6
    induction n6 with
    | zero =>
      intro x5_1 x7_2 hf
      exact absurd (show (none : Option Int64) = some y from hf) (fun h => by cases h)
    | succ n6 ih6 =>
      intro x5_1 x7_2 hf
      have hf : f_X9_mixed_L6 m_book p3 p4 (f_X9_mixed_L6w m_book p3 p4 n6) x5_1 x7_2 = some y := hf
      unfold f_X9_mixed_L6 at hf
      refine cx_iload C dX9_mixed_6 4 rfl ?_
      refine cx_iload C dX9_mixed_8 2 rfl ?_
      refine cx_icmp_ge (tgt := 38) C dX9_mixed_10 (by decide) (fun c3 => ?_) (fun c3 => ?_)
      · have hf := cx_if_t hf c3
        clear c3
        refine cx_lload C dX9_mixed_38 3 rfl ?_
        obtain rfl := Option.some.inj hf
        exact cx_lret C hA hQ hr hlk dX9_mixed_40 rfl rfl
      · have hf := cx_if_f hf c3
        clear c3
        refine cx_ldc2 (v := 31) C dX9_mixed_13 hw_1523 ?_
        refine cx_lload C dX9_mixed_16 3 rfl ?_
        refine cx_lmul C dX9_mixed_18 ?_
        refine cx_aload_n C dX9_mixed_19 0 rfl ?_
        refine cx_get (v := .ref (m_a 3)) (ci := 8) C iX9 dX9_mixed_20 0 rfl rfl 2 (by decide) hw_1056 rfl ?_
        refine cx_iload_n C dX9_mixed_23 1 rfl ?_
        refine cx_iload C dX9_mixed_24 4 rfl ?_
        refine cx_iadd C dX9_mixed_26 ?_
        obtain ⟨g4, hf⟩ := cx_gd_at hf
        refine cx_iald C dX9_mixed_27 3 rfl (cx_ib_in g4) ?_
        clear g4
        refine cx_i2l C dX9_mixed_28 ?_
        refine cx_ladd C dX9_mixed_29 ?_
        refine cx_topl (fun v5 ev5 => ?_)
        have hf := cx_let_at hf ev5
        clear ev5
        refine cx_lstore (lv' := [(5, .long v5), (0, .ref (m_a 0)), (3, .int p3), (4, .int p4), (7, .int x7_2)]) C dX9_mixed_30 (by decide) rfl ?_
        refine cx_iinc (v := x7_2 + 1) (lv' := [(7, .int (x7_2 + 1)), (5, .long v5), (0, .ref (m_a 0)), (3, .int p3), (4, .int p4)]) C dX9_mixed_32 4 rfl rfl (by decide) rfl ?_
        refine cx_goto (tgt := 6) C dX9_mixed_35 (by decide) ?_
        refine cx_lv [2, 3, 4, 1, 0] rfl ?_
        exact ih6 v5 (x7_2 + 1) hf
  unfold f_X9_mixed at hf
  refine cx_lload_n C dX9_mixed_0 1 rfl ?_
  refine cx_lstore (lv' := [(5, .long p1), (0, .ref (m_a 0)), (1, .long p1), (3, .int p3), (4, .int p4)]) C dX9_mixed_1 (by decide) rfl ?_
  refine cx_iconst (v := 0) C dX9_mixed_3 (by decide) ?_
  refine cx_istore (lv' := [(7, .int 0), (5, .long p1), (0, .ref (m_a 0)), (1, .long p1), (3, .int p3), (4, .int p4)]) C dX9_mixed_4 (by decide) rfl ?_
  refine cx_lv [2, 4, 5, 1, 0] rfl ?_
  exact L6 cx_N0 p1 0 hf
theorem dX9_digest_0 : decode cX9_digest 0 = .ok (.ldc2_w 338, 3) := by decide +kernel
theorem dX9_digest_3 : decode cX9_digest 3 = .ok (.lstore_n 1, 1) := by decide +kernel
theorem dX9_digest_4 : decode cX9_digest 4 = .ok (.iconst 0, 1) := by decide +kernel
theorem dX9_digest_5 : decode cX9_digest 5 = .ok (.istore_n 3, 1) := by decide +kernel
theorem dX9_digest_6 : decode cX9_digest 6 = .ok (.iload_n 3, 1) := by decide +kernel
theorem dX9_digest_7 : decode cX9_digest 7 = .ok (.bipush 6, 2) := by decide +kernel
theorem dX9_digest_9 : decode cX9_digest 9 = .ok (.if_icmp .ge 22, 3) := by decide +kernel
theorem dX9_digest_12 : decode cX9_digest 12 = .ok (.ldc2_w 336, 3) := by decide +kernel
theorem dX9_digest_15 : decode cX9_digest 15 = .ok (.lload_n 1, 1) := by decide +kernel
theorem dX9_digest_16 : decode cX9_digest 16 = .ok (.lmul, 1) := by decide +kernel
theorem dX9_digest_17 : decode cX9_digest 17 = .ok (.aload_n 0, 1) := by decide +kernel
theorem dX9_digest_18 : decode cX9_digest 18 = .ok (.iload_n 3, 1) := by decide +kernel
theorem dX9_digest_19 : decode cX9_digest 19 = .ok (.invokevirtual 333, 3) := by decide +kernel
theorem dX9_digest_22 : decode cX9_digest 22 = .ok (.i2l, 1) := by decide +kernel
theorem dX9_digest_23 : decode cX9_digest 23 = .ok (.ladd, 1) := by decide +kernel
theorem dX9_digest_24 : decode cX9_digest 24 = .ok (.lstore_n 1, 1) := by decide +kernel
theorem dX9_digest_25 : decode cX9_digest 25 = .ok (.iinc 3 1, 3) := by decide +kernel
theorem dX9_digest_28 : decode cX9_digest 28 = .ok (.goto (-22), 3) := by decide +kernel
theorem dX9_digest_31 : decode cX9_digest 31 = .ok (.aload_n 0, 1) := by decide +kernel
theorem dX9_digest_32 : decode cX9_digest 32 = .ok (.lload_n 1, 1) := by decide +kernel
theorem dX9_digest_33 : decode cX9_digest 33 = .ok (.bipush 8, 2) := by decide +kernel
theorem dX9_digest_35 : decode cX9_digest 35 = .ok (.bipush 6, 2) := by decide +kernel
theorem dX9_digest_37 : decode cX9_digest 37 = .ok (.aload_n 0, 1) := by decide +kernel
theorem dX9_digest_38 : decode cX9_digest 38 = .ok (.getfield 51, 3) := by decide +kernel
theorem dX9_digest_41 : decode cX9_digest 41 = .ok (.iconst 0, 1) := by decide +kernel
theorem dX9_digest_42 : decode cX9_digest 42 = .ok (.iaload, 1) := by decide +kernel
theorem dX9_digest_43 : decode cX9_digest 43 = .ok (.imul, 1) := by decide +kernel
theorem dX9_digest_44 : decode cX9_digest 44 = .ok (.invokevirtual 340, 3) := by decide +kernel
theorem dX9_digest_47 : decode cX9_digest 47 = .ok (.lstore_n 1, 1) := by decide +kernel
theorem dX9_digest_48 : decode cX9_digest 48 = .ok (.aload_n 0, 1) := by decide +kernel
theorem dX9_digest_49 : decode cX9_digest 49 = .ok (.lload_n 1, 1) := by decide +kernel
theorem dX9_digest_50 : decode cX9_digest 50 = .ok (.bipush 40, 2) := by decide +kernel
theorem dX9_digest_52 : decode cX9_digest 52 = .ok (.iconst 2, 1) := by decide +kernel
theorem dX9_digest_53 : decode cX9_digest 53 = .ok (.aload_n 0, 1) := by decide +kernel
theorem dX9_digest_54 : decode cX9_digest 54 = .ok (.getfield 51, 3) := by decide +kernel
theorem dX9_digest_57 : decode cX9_digest 57 = .ok (.iconst 1, 1) := by decide +kernel
theorem dX9_digest_58 : decode cX9_digest 58 = .ok (.iaload, 1) := by decide +kernel
theorem dX9_digest_59 : decode cX9_digest 59 = .ok (.imul, 1) := by decide +kernel
theorem dX9_digest_60 : decode cX9_digest 60 = .ok (.invokevirtual 340, 3) := by decide +kernel
theorem dX9_digest_63 : decode cX9_digest 63 = .ok (.lstore_n 1, 1) := by decide +kernel
theorem dX9_digest_64 : decode cX9_digest 64 = .ok (.aload_n 0, 1) := by decide +kernel
theorem dX9_digest_65 : decode cX9_digest 65 = .ok (.lload_n 1, 1) := by decide +kernel
theorem dX9_digest_66 : decode cX9_digest 66 = .ok (.bipush 50, 2) := by decide +kernel
theorem dX9_digest_68 : decode cX9_digest 68 = .ok (.iconst 5, 1) := by decide +kernel
theorem dX9_digest_69 : decode cX9_digest 69 = .ok (.aload_n 0, 1) := by decide +kernel
theorem dX9_digest_70 : decode cX9_digest 70 = .ok (.getfield 51, 3) := by decide +kernel
theorem dX9_digest_73 : decode cX9_digest 73 = .ok (.iconst 2, 1) := by decide +kernel
theorem dX9_digest_74 : decode cX9_digest 74 = .ok (.iaload, 1) := by decide +kernel
theorem dX9_digest_75 : decode cX9_digest 75 = .ok (.imul, 1) := by decide +kernel
theorem dX9_digest_76 : decode cX9_digest 76 = .ok (.invokevirtual 340, 3) := by decide +kernel
theorem dX9_digest_79 : decode cX9_digest 79 = .ok (.lstore_n 1, 1) := by decide +kernel
theorem dX9_digest_80 : decode cX9_digest 80 = .ok (.aload_n 0, 1) := by decide +kernel
theorem dX9_digest_81 : decode cX9_digest 81 = .ok (.lload_n 1, 1) := by decide +kernel
theorem dX9_digest_82 : decode cX9_digest 82 = .ok (.bipush 80, 2) := by decide +kernel
theorem dX9_digest_84 : decode cX9_digest 84 = .ok (.iconst 4, 1) := by decide +kernel
theorem dX9_digest_85 : decode cX9_digest 85 = .ok (.aload_n 0, 1) := by decide +kernel
theorem dX9_digest_86 : decode cX9_digest 86 = .ok (.getfield 51, 3) := by decide +kernel
theorem dX9_digest_89 : decode cX9_digest 89 = .ok (.iconst 3, 1) := by decide +kernel
theorem dX9_digest_90 : decode cX9_digest 90 = .ok (.iaload, 1) := by decide +kernel
theorem dX9_digest_91 : decode cX9_digest 91 = .ok (.imul, 1) := by decide +kernel
theorem dX9_digest_92 : decode cX9_digest 92 = .ok (.invokevirtual 340, 3) := by decide +kernel
theorem dX9_digest_95 : decode cX9_digest 95 = .ok (.lstore_n 1, 1) := by decide +kernel
theorem dX9_digest_96 : decode cX9_digest 96 = .ok (.aload_n 0, 1) := by decide +kernel
theorem dX9_digest_97 : decode cX9_digest 97 = .ok (.lload_n 1, 1) := by decide +kernel
theorem dX9_digest_98 : decode cX9_digest 98 = .ok (.bipush 100, 2) := by decide +kernel
theorem dX9_digest_100 : decode cX9_digest 100 = .ok (.iconst 3, 1) := by decide +kernel
theorem dX9_digest_101 : decode cX9_digest 101 = .ok (.aload_n 0, 1) := by decide +kernel
theorem dX9_digest_102 : decode cX9_digest 102 = .ok (.getfield 51, 3) := by decide +kernel
theorem dX9_digest_105 : decode cX9_digest 105 = .ok (.iconst 4, 1) := by decide +kernel
theorem dX9_digest_106 : decode cX9_digest 106 = .ok (.iaload, 1) := by decide +kernel
theorem dX9_digest_107 : decode cX9_digest 107 = .ok (.imul, 1) := by decide +kernel
theorem dX9_digest_108 : decode cX9_digest 108 = .ok (.invokevirtual 340, 3) := by decide +kernel
theorem dX9_digest_111 : decode cX9_digest 111 = .ok (.lstore_n 1, 1) := by decide +kernel
theorem dX9_digest_112 : decode cX9_digest 112 = .ok (.aload_n 0, 1) := by decide +kernel
theorem dX9_digest_113 : decode cX9_digest 113 = .ok (.lload_n 1, 1) := by decide +kernel
theorem dX9_digest_114 : decode cX9_digest 114 = .ok (.iconst 5, 1) := by decide +kernel
theorem dX9_digest_115 : decode cX9_digest 115 = .ok (.iconst 1, 1) := by decide +kernel
theorem dX9_digest_116 : decode cX9_digest 116 = .ok (.invokevirtual 340, 3) := by decide +kernel
theorem dX9_digest_119 : decode cX9_digest 119 = .ok (.lstore_n 1, 1) := by decide +kernel
theorem dX9_digest_120 : decode cX9_digest 120 = .ok (.ldc2_w 336, 3) := by decide +kernel
theorem dX9_digest_123 : decode cX9_digest 123 = .ok (.ldc2_w 336, 3) := by decide +kernel
theorem dX9_digest_126 : decode cX9_digest 126 = .ok (.ldc2_w 336, 3) := by decide +kernel
theorem dX9_digest_129 : decode cX9_digest 129 = .ok (.lload_n 1, 1) := by decide +kernel
theorem dX9_digest_130 : decode cX9_digest 130 = .ok (.lmul, 1) := by decide +kernel
theorem dX9_digest_131 : decode cX9_digest 131 = .ok (.aload_n 0, 1) := by decide +kernel
theorem dX9_digest_132 : decode cX9_digest 132 = .ok (.invokevirtual 328, 3) := by decide +kernel
theorem dX9_digest_135 : decode cX9_digest 135 = .ok (.i2l, 1) := by decide +kernel
theorem dX9_digest_136 : decode cX9_digest 136 = .ok (.ladd, 1) := by decide +kernel
theorem dX9_digest_137 : decode cX9_digest 137 = .ok (.lmul, 1) := by decide +kernel
theorem dX9_digest_138 : decode cX9_digest 138 = .ok (.aload_n 0, 1) := by decide +kernel
theorem dX9_digest_139 : decode cX9_digest 139 = .ok (.getfield 3, 3) := by decide +kernel
theorem dX9_digest_142 : decode cX9_digest 142 = .ok (.iconst 0, 1) := by decide +kernel
theorem dX9_digest_143 : decode cX9_digest 143 = .ok (.iaload, 1) := by decide +kernel
theorem dX9_digest_144 : decode cX9_digest 144 = .ok (.i2l, 1) := by decide +kernel
theorem dX9_digest_145 : decode cX9_digest 145 = .ok (.ladd, 1) := by decide +kernel
theorem dX9_digest_146 : decode cX9_digest 146 = .ok (.lmul, 1) := by decide +kernel
theorem dX9_digest_147 : decode cX9_digest 147 = .ok (.aload_n 0, 1) := by decide +kernel
theorem dX9_digest_148 : decode cX9_digest 148 = .ok (.getfield 3, 3) := by decide +kernel
theorem dX9_digest_151 : decode cX9_digest 151 = .ok (.iconst 1, 1) := by decide +kernel
theorem dX9_digest_152 : decode cX9_digest 152 = .ok (.iaload, 1) := by decide +kernel
theorem dX9_digest_153 : decode cX9_digest 153 = .ok (.i2l, 1) := by decide +kernel
theorem dX9_digest_154 : decode cX9_digest 154 = .ok (.ladd, 1) := by decide +kernel
theorem dX9_digest_155 : decode cX9_digest 155 = .ok (.lstore_n 1, 1) := by decide +kernel
theorem dX9_digest_156 : decode cX9_digest 156 = .ok (.iconst 0, 1) := by decide +kernel
theorem dX9_digest_157 : decode cX9_digest 157 = .ok (.istore_n 3, 1) := by decide +kernel
theorem dX9_digest_158 : decode cX9_digest 158 = .ok (.iload_n 3, 1) := by decide +kernel
theorem dX9_digest_159 : decode cX9_digest 159 = .ok (.iconst 2, 1) := by decide +kernel
theorem dX9_digest_160 : decode cX9_digest 160 = .ok (.if_icmp .ge 49, 3) := by decide +kernel
theorem dX9_digest_163 : decode cX9_digest 163 = .ok (.iconst 0, 1) := by decide +kernel
theorem dX9_digest_164 : decode cX9_digest 164 = .ok (.istore 4, 2) := by decide +kernel
theorem dX9_digest_166 : decode cX9_digest 166 = .ok (.iload 4, 2) := by decide +kernel
theorem dX9_digest_168 : decode cX9_digest 168 = .ok (.aload_n 0, 1) := by decide +kernel
theorem dX9_digest_169 : decode cX9_digest 169 = .ok (.getfield 3, 3) := by decide +kernel
theorem dX9_digest_172 : decode cX9_digest 172 = .ok (.iload_n 3, 1) := by decide +kernel
theorem dX9_digest_173 : decode cX9_digest 173 = .ok (.iaload, 1) := by decide +kernel
theorem dX9_digest_174 : decode cX9_digest 174 = .ok (.if_icmp .ge 29, 3) := by decide +kernel
theorem dX9_digest_177 : decode cX9_digest 177 = .ok (.ldc2_w 336, 3) := by decide +kernel
theorem dX9_digest_180 : decode cX9_digest 180 = .ok (.lload_n 1, 1) := by decide +kernel
theorem dX9_digest_181 : decode cX9_digest 181 = .ok (.lmul, 1) := by decide +kernel
theorem dX9_digest_182 : decode cX9_digest 182 = .ok (.aload_n 0, 1) := by decide +kernel
theorem dX9_digest_183 : decode cX9_digest 183 = .ok (.getfield 7, 3) := by decide +kernel
theorem dX9_digest_186 : decode cX9_digest 186 = .ok (.bipush 16, 2) := by decide +kernel
theorem dX9_digest_188 : decode cX9_digest 188 = .ok (.iload_n 3, 1) := by decide +kernel
theorem dX9_digest_189 : decode cX9_digest 189 = .ok (.imul, 1) := by decide +kernel
theorem dX9_digest_190 : decode cX9_digest 190 = .ok (.iload 4, 2) := by decide +kernel
theorem dX9_digest_192 : decode cX9_digest 192 = .ok (.iadd, 1) := by decide +kernel
theorem dX9_digest_193 : decode cX9_digest 193 = .ok (.iaload, 1) := by decide +kernel
theorem dX9_digest_194 : decode cX9_digest 194 = .ok (.i2l, 1) := by decide +kernel
theorem dX9_digest_195 : decode cX9_digest 195 = .ok (.ladd, 1) := by decide +kernel
theorem dX9_digest_196 : decode cX9_digest 196 = .ok (.lstore_n 1, 1) := by decide +kernel
theorem dX9_digest_197 : decode cX9_digest 197 = .ok (.iinc 4 1, 3) := by decide +kernel
theorem dX9_digest_200 : decode cX9_digest 200 = .ok (.goto (-34), 3) := by decide +kernel
theorem dX9_digest_203 : decode cX9_digest 203 = .ok (.iinc 3 1, 3) := by decide +kernel
theorem dX9_digest_206 : decode cX9_digest 206 = .ok (.goto (-48), 3) := by decide +kernel
theorem dX9_digest_209 : decode cX9_digest 209 = .ok (.lload_n 1, 1) := by decide +kernel
theorem dX9_digest_210 : decode cX9_digest 210 = .ok (.lreturn, 1) := by decide +kernel
theorem me_X9_digest : cx_Mv yX9_digest cX9_digest 5 (some .long) 0 := ⟨⟨⟨by decide +kernel, by decide +kernel, by decide +kernel⟩, hw_11, hw_1521⟩, hw_1519, hw_1520⟩
noncomputable def f_X9_digest_L166 (m_limbs : Nat → Int32) (m_wide : Nat → Int32) (x3_27 : Int32) (rc158 : Int64 → Int32 → Option Int64) (rc166 : Int64 → Int32 → Option Int64) (x1_29 : Int64) (x4_30 : Int32) : Option Int64 := cx_gd (cx_ib x3_27 270) (if (m_wide (cx_ix x3_27)) ≤ x4_30 then (rc158 x1_29 (x3_27 + 1)) else (cx_gd (cx_ib ((16 * x3_27) + x4_30) 4320) (cx_let ((31 * x1_29) + (Int32.toInt64 (m_limbs (cx_ix ((16 * x3_27) + x4_30))))) (fun v34 => rc166 v34 (x4_30 + 1)))))
noncomputable def f_X9_digest_L166w (m_limbs : Nat → Int32) (m_wide : Nat → Int32) (x3_27 : Int32) (rc158 : Int64 → Int32 → Option Int64) (n : Nat) : Int64 → Int32 → Option Int64 := Nat.rec (fun _ _ => none) (fun _ r => f_X9_digest_L166 m_limbs m_wide x3_27 rc158 r) n
noncomputable def f_X9_digest_L158 (m_limbs : Nat → Int32) (m_wide : Nat → Int32) (rc158 : Int64 → Int32 → Option Int64) (x1_26 : Int64) (x3_27 : Int32) : Option Int64 := if 2 ≤ x3_27 then (some x1_26) else (f_X9_digest_L166w m_limbs m_wide x3_27 rc158 cx_N0 x1_26 0)
noncomputable def f_X9_digest_L158w (m_limbs : Nat → Int32) (m_wide : Nat → Int32) (n : Nat) : Int64 → Int32 → Option Int64 := Nat.rec (fun _ _ => none) (fun _ r => f_X9_digest_L158 m_limbs m_wide r) n
noncomputable def f_X9_digest_L6 (m_limbs : Nat → Int32) (m_wide : Nat → Int32) (m_book : Nat → Int32) (m_typed : Int32) (rc6 : Int64 → Int32 → Option Int64) (x1_1 : Int64) (x3_2 : Int32) : Option Int64 := if 6 ≤ x3_2 then (cx_gd (cx_ib 0 140) (Option.bind (f_X9_mixed m_book x1_1 8 (6 * (m_book (cx_ix 0)))) (fun u5 => cx_gd (cx_ib 1 140) (Option.bind (f_X9_mixed m_book u5 40 (2 * (m_book (cx_ix 1)))) (fun u8 => cx_gd (cx_ib 2 140) (Option.bind (f_X9_mixed m_book u8 50 (5 * (m_book (cx_ix 2)))) (fun u11 => cx_gd (cx_ib 3 140) (Option.bind (f_X9_mixed m_book u11 80 (4 * (m_book (cx_ix 3)))) (fun u14 => cx_gd (cx_ib 4 140) (Option.bind (f_X9_mixed m_book u14 100 (3 * (m_book (cx_ix 4)))) (fun u17 => Option.bind (f_X9_mixed m_book u17 5 1) (fun u19 => Option.bind (f_X9_signNow m_wide) (fun u21 => cx_gd (cx_ib 0 270) (cx_gd (cx_ib 1 270) (cx_let ((31 * ((31 * ((31 * u19) + (Int32.toInt64 u21))) + (Int32.toInt64 (m_wide (cx_ix 0))))) + (Int32.toInt64 (m_wide (cx_ix 1)))) (fun v25 => f_X9_digest_L158w m_limbs m_wide cx_N0 v25 0)))))))))))))))) else (Option.bind (f_X9_countOf m_book m_typed x3_2) (fun u35 => cx_let ((31 * x1_1) + (Int32.toInt64 u35)) (fun v37 => rc6 v37 (x3_2 + 1))))
noncomputable def f_X9_digest_L6w (m_limbs : Nat → Int32) (m_wide : Nat → Int32) (m_book : Nat → Int32) (m_typed : Int32) (n : Nat) : Int64 → Int32 → Option Int64 := Nat.rec (fun _ _ => none) (fun _ r => f_X9_digest_L6 m_limbs m_wide m_book m_typed r) n
noncomputable def f_X9_digest (m_limbs : Nat → Int32) (m_wide : Nat → Int32) (m_book : Nat → Int32) (m_typed : Int32) : Option Int64 := f_X9_digest_L6w m_limbs m_wide m_book m_typed cx_N0 661 0
set_option maxHeartbeats 4000000 in
set_option maxRecDepth 100000 in
theorem c_X9_digest (l : Launch) (D : va_G) (k : Nat → ClassId) (m_a : Nat → Nat) (m_limbs : Nat → Int32) (m_wide : Nat → Int32) (m_book : Nat → Int32) (m_images : Nat → Int32) (m_kept : Nat → Int32) (m_before : Nat → Int32) (m_refused : Nat → Int32) (m_quiet : Int32) (m_text : Nat → Int32) (m_typed : Int32) (m_at : Int32) (m_start : Int32) (m_token : Int32) (m_value : Int32) (m_items : Nat → Int32) (m_many : Int32) (m_is : Nat → Int32) (m_likes : Nat → Int32) (m_without : Int32) (m_onePicture : Int32) (m_oneYear : Int32) (m_first : Int32) (m_second : Int32) (m_names : Nat → Int32) (y : Int64) (hf : f_X9_digest m_limbs m_wide m_book m_typed = some y) : cx_M l yX9_digest cX9_digest 5 (some .long) 2 D k [.ref (m_a 0)] (wd_Model k m_a m_limbs m_wide m_book m_images m_kept m_before m_refused m_quiet m_text m_typed m_at m_start m_token m_value m_items m_many m_is m_likes m_without m_onePicture m_oneYear m_first m_second m_names) (fun sz => cx_Ql D y (wd_Model k m_a m_limbs m_wide m_book m_images m_kept m_before m_refused m_quiet m_text m_typed m_at m_start m_token m_value m_items m_many m_is m_likes m_without m_onePicture m_oneYear m_first m_second m_names) (wd_Model k m_a m_limbs m_wide m_book m_images m_kept m_before m_refused m_quiet m_text m_typed m_at m_start m_token m_value m_items m_many m_is m_likes m_without m_onePicture m_oneYear m_first m_second m_names) sz) := by
  refine cx_met (own := "NamelessBoxModel") (by decide) rfl (Nat.le_of_ble_eq_true rfl) ?_
  intro p e s m args below meth c A Q C hA hQ hr hlk
  refine cx_lv (lv' := [(0, .ref (m_a 0))]) [0] rfl ?_
  have L158 : ∀ (n158 : Nat) (x1_26 : Int64) (x3_27 : Int32), f_X9_digest_L158w m_limbs m_wide n158 x1_26 x3_27 = some y → cx_S p l e (cx_rm 2) s m args below meth c A D 5 0 0 Q 158 [(0, .ref (m_a 0)), (1, .long x1_26), (3, .int x3_27)] [] (wd_Model k m_a m_limbs m_wide m_book m_images m_kept m_before m_refused m_quiet m_text m_typed m_at m_start m_token m_value m_items m_many m_is m_likes m_without m_onePicture m_oneYear m_first m_second m_names) := by
    intro  n158
    induction n158 with
    | zero =>
      intro x1_26 x3_27 hf
      exact absurd (show (none : Option Int64) = some y from hf) (fun h => by cases h)
    | succ n158 ih158 =>
      intro x1_26 x3_27 hf
      have hf : f_X9_digest_L158 m_limbs m_wide (f_X9_digest_L158w m_limbs m_wide n158) x1_26 x3_27 = some y := hf
      have L166 : ∀ (n166 : Nat) (x1_29 : Int64) (x4_30 : Int32), f_X9_digest_L166w m_limbs m_wide x3_27 (f_X9_digest_L158w m_limbs m_wide n158) n166 x1_29 x4_30 = some y → cx_S p l e (cx_rm 2) s m args below meth c A D 5 0 0 Q 166 [(0, .ref (m_a 0)), (1, .long x1_29), (3, .int x3_27), (4, .int x4_30)] [] (wd_Model k m_a m_limbs m_wide m_book m_images m_kept m_before m_refused m_quiet m_text m_typed m_at m_start m_token m_value m_items m_many m_is m_likes m_without m_onePicture m_oneYear m_first m_second m_names) := by
        intro  n166
        induction n166 with
        | zero =>
          intro x1_29 x4_30 hf
          exact absurd (show (none : Option Int64) = some y from hf) (fun h => by cases h)
        | succ n166 ih166 =>
          intro x1_29 x4_30 hf
          have hf : f_X9_digest_L166 m_limbs m_wide x3_27 (f_X9_digest_L158w m_limbs m_wide n158) (f_X9_digest_L166w m_limbs m_wide x3_27 (f_X9_digest_L158w m_limbs m_wide n158) n166) x1_29 x4_30 = some y := hf
          unfold f_X9_digest_L166 at hf
          refine cx_iload C dX9_digest_166 3 rfl ?_
          refine cx_aload_n C dX9_digest_168 0 rfl ?_
          refine cx_get (v := .ref (m_a 2)) (ci := 8) C iX9 dX9_digest_169 0 rfl rfl 1 (by decide) hw_1055 rfl ?_
          refine cx_iload_n C dX9_digest_172 2 rfl ?_
          obtain ⟨g31, hf⟩ := cx_gd_at hf
          refine cx_iald C dX9_digest_173 2 rfl (cx_ib_in g31) ?_
          clear g31
          refine cx_icmp_ge (tgt := 203) C dX9_digest_174 (by decide) (fun c32 => ?_) (fun c32 => ?_)
          · have hf := cx_if_t hf c32
            clear c32
            refine cx_iinc (v := x3_27 + 1) (lv' := [(3, .int (x3_27 + 1)), (0, .ref (m_a 0)), (1, .long x1_29), (4, .int x4_30)]) C dX9_digest_203 2 rfl rfl (by decide) rfl ?_
            refine cx_goto (tgt := 158) C dX9_digest_206 (by decide) ?_
            refine cx_lv [1, 2, 0] rfl ?_
            exact ih158 x1_29 (x3_27 + 1) hf
          · have hf := cx_if_f hf c32
            clear c32
            refine cx_ldc2 (v := 31) C dX9_digest_177 hw_1523 ?_
            refine cx_lload_n C dX9_digest_180 1 rfl ?_
            refine cx_lmul C dX9_digest_181 ?_
            refine cx_aload_n C dX9_digest_182 0 rfl ?_
            refine cx_get (v := .ref (m_a 1)) (ci := 8) C iX9 dX9_digest_183 0 rfl rfl 0 (by decide) hw_1054 rfl ?_
            refine cx_bipush (v := 16) C dX9_digest_186 (by decide) ?_
            refine cx_iload_n C dX9_digest_188 2 rfl ?_
            refine cx_imul C dX9_digest_189 ?_
            refine cx_iload C dX9_digest_190 3 rfl ?_
            refine cx_iadd C dX9_digest_192 ?_
            obtain ⟨g33, hf⟩ := cx_gd_at hf
            refine cx_iald C dX9_digest_193 1 rfl (cx_ib_in g33) ?_
            clear g33
            refine cx_i2l C dX9_digest_194 ?_
            refine cx_ladd C dX9_digest_195 ?_
            refine cx_topl (fun v34 ev34 => ?_)
            have hf := cx_let_at hf ev34
            clear ev34
            refine cx_lstore_n (lv' := [(1, .long v34), (0, .ref (m_a 0)), (3, .int x3_27), (4, .int x4_30)]) C dX9_digest_196 rfl (by decide) rfl ?_
            refine cx_iinc (v := x4_30 + 1) (lv' := [(4, .int (x4_30 + 1)), (1, .long v34), (0, .ref (m_a 0)), (3, .int x3_27)]) C dX9_digest_197 3 rfl rfl (by decide) rfl ?_
            refine cx_goto (tgt := 166) C dX9_digest_200 (by decide) ?_
            refine cx_lv [2, 1, 3, 0] rfl ?_
            exact ih166 v34 (x4_30 + 1) hf
      unfold f_X9_digest_L158 at hf
      refine cx_iload_n C dX9_digest_158 2 rfl ?_
      refine cx_iconst (v := 2) C dX9_digest_159 (by decide) ?_
      refine cx_icmp_ge (tgt := 209) C dX9_digest_160 (by decide) (fun c28 => ?_) (fun c28 => ?_)
      · have hf := cx_if_t hf c28
        clear c28
        refine cx_lload_n C dX9_digest_209 1 rfl ?_
        obtain rfl := Option.some.inj hf
        exact cx_lret C hA hQ hr hlk dX9_digest_210 rfl rfl
      · have hf := cx_if_f hf c28
        clear c28
        refine cx_iconst (v := 0) C dX9_digest_163 (by decide) ?_
        refine cx_istore (lv' := [(4, .int 0), (0, .ref (m_a 0)), (1, .long x1_26), (3, .int x3_27)]) C dX9_digest_164 (by decide) rfl ?_
        refine cx_lv [1, 2, 3, 0] rfl ?_
        exact L166 cx_N0 x1_26 0 hf
  have L6 : ∀ (n6 : Nat) (x1_1 : Int64) (x3_2 : Int32), f_X9_digest_L6w m_limbs m_wide m_book m_typed n6 x1_1 x3_2 = some y → cx_S p l e (cx_rm 2) s m args below meth c A D 5 0 0 Q 6 [(0, .ref (m_a 0)), (1, .long x1_1), (3, .int x3_2)] [] (wd_Model k m_a m_limbs m_wide m_book m_images m_kept m_before m_refused m_quiet m_text m_typed m_at m_start m_token m_value m_items m_many m_is m_likes m_without m_onePicture m_oneYear m_first m_second m_names) := by
    intro  n6
    induction n6 with
    | zero =>
      intro x1_1 x3_2 hf
      exact absurd (show (none : Option Int64) = some y from hf) (fun h => by cases h)
    | succ n6 ih6 =>
      intro x1_1 x3_2 hf
      have hf : f_X9_digest_L6 m_limbs m_wide m_book m_typed (f_X9_digest_L6w m_limbs m_wide m_book m_typed n6) x1_1 x3_2 = some y := hf
      unfold f_X9_digest_L6 at hf
      refine cx_iload_n C dX9_digest_6 2 rfl ?_
      refine cx_bipush (v := 6) C dX9_digest_7 (by decide) ?_
      refine cx_icmp_ge (tgt := 31) C dX9_digest_9 (by decide) (fun c3 => ?_) (fun c3 => ?_)
      · have hf := cx_if_t hf c3
        clear c3
        refine cx_aload_n C dX9_digest_31 0 rfl ?_
        refine cx_lload_n C dX9_digest_32 1 rfl ?_
        refine cx_bipush (v := 8) C dX9_digest_33 (by decide) ?_
        refine cx_bipush (v := 6) C dX9_digest_35 (by decide) ?_
        refine cx_aload_n C dX9_digest_37 0 rfl ?_
        refine cx_get (v := .ref (m_a 3)) (ci := 8) C iX9 dX9_digest_38 0 rfl rfl 2 (by decide) hw_1056 rfl ?_
        refine cx_iconst (v := 0) C dX9_digest_41 (by decide) ?_
        obtain ⟨g4, hf⟩ := cx_gd_at hf
        refine cx_iald C dX9_digest_42 3 rfl (cx_ib_in g4) ?_
        clear g4
        refine cx_imul C dX9_digest_43 ?_
        obtain ⟨u5, e6, hf⟩ := cx_bd_at hf
        refine cx_Fvl (q := (RX9, TX9, 24)) (As := [.long x1_1, .int 8, .int (6 * (m_book (cx_ix 0)))]) (rest := []) (w1 := (wd_Model k m_a m_limbs m_wide m_book m_images m_kept m_before m_refused m_quiet m_text m_typed m_at m_start m_token m_value m_items m_many m_is m_likes m_without m_onePicture m_oneYear m_first m_second m_names)) hA C me_X9_mixed hw_1524 (c_X9_mixed l D k m_a m_limbs m_wide m_book m_images m_kept m_before m_refused m_quiet m_text m_typed m_at m_start m_token m_value m_items m_many m_is m_likes m_without m_onePicture m_oneYear m_first m_second m_names x1_1 8 (6 * (m_book (cx_ix 0))) u5 e6) dX9_digest_44 ⟨Nat.le_of_ble_eq_true rfl, Nat.le_of_ble_eq_true rfl⟩ ⟨Nat.zero_le _, Nat.zero_le _⟩ rfl rfl (Nat.le_of_ble_eq_true rfl) rfl rfl rfl ?_
        clear e6
        refine cx_lstore_n (lv' := [(1, .long u5), (0, .ref (m_a 0)), (3, .int x3_2)]) C dX9_digest_47 rfl (by decide) rfl ?_
        refine cx_aload_n C dX9_digest_48 1 rfl ?_
        refine cx_lload_n C dX9_digest_49 0 rfl ?_
        refine cx_bipush (v := 40) C dX9_digest_50 (by decide) ?_
        refine cx_iconst (v := 2) C dX9_digest_52 (by decide) ?_
        refine cx_aload_n C dX9_digest_53 1 rfl ?_
        refine cx_get (v := .ref (m_a 3)) (ci := 8) C iX9 dX9_digest_54 0 rfl rfl 2 (by decide) hw_1056 rfl ?_
        refine cx_iconst (v := 1) C dX9_digest_57 (by decide) ?_
        obtain ⟨g7, hf⟩ := cx_gd_at hf
        refine cx_iald C dX9_digest_58 3 rfl (cx_ib_in g7) ?_
        clear g7
        refine cx_imul C dX9_digest_59 ?_
        obtain ⟨u8, e9, hf⟩ := cx_bd_at hf
        refine cx_Fvl (q := (RX9, TX9, 24)) (As := [.long u5, .int 40, .int (2 * (m_book (cx_ix 1)))]) (rest := []) (w1 := (wd_Model k m_a m_limbs m_wide m_book m_images m_kept m_before m_refused m_quiet m_text m_typed m_at m_start m_token m_value m_items m_many m_is m_likes m_without m_onePicture m_oneYear m_first m_second m_names)) hA C me_X9_mixed hw_1524 (c_X9_mixed l D k m_a m_limbs m_wide m_book m_images m_kept m_before m_refused m_quiet m_text m_typed m_at m_start m_token m_value m_items m_many m_is m_likes m_without m_onePicture m_oneYear m_first m_second m_names u5 40 (2 * (m_book (cx_ix 1))) u8 e9) dX9_digest_60 ⟨Nat.le_of_ble_eq_true rfl, Nat.le_of_ble_eq_true rfl⟩ ⟨Nat.zero_le _, Nat.zero_le _⟩ rfl rfl (Nat.le_of_ble_eq_true rfl) rfl rfl rfl ?_
        clear e9
        refine cx_lstore_n (lv' := [(1, .long u8), (0, .ref (m_a 0)), (3, .int x3_2)]) C dX9_digest_63 rfl (by decide) rfl ?_
        refine cx_aload_n C dX9_digest_64 1 rfl ?_
        refine cx_lload_n C dX9_digest_65 0 rfl ?_
        refine cx_bipush (v := 50) C dX9_digest_66 (by decide) ?_
        refine cx_iconst (v := 5) C dX9_digest_68 (by decide) ?_
        refine cx_aload_n C dX9_digest_69 1 rfl ?_
        refine cx_get (v := .ref (m_a 3)) (ci := 8) C iX9 dX9_digest_70 0 rfl rfl 2 (by decide) hw_1056 rfl ?_
        refine cx_iconst (v := 2) C dX9_digest_73 (by decide) ?_
        obtain ⟨g10, hf⟩ := cx_gd_at hf
        refine cx_iald C dX9_digest_74 3 rfl (cx_ib_in g10) ?_
        clear g10
        refine cx_imul C dX9_digest_75 ?_
        obtain ⟨u11, e12, hf⟩ := cx_bd_at hf
        refine cx_Fvl (q := (RX9, TX9, 24)) (As := [.long u8, .int 50, .int (5 * (m_book (cx_ix 2)))]) (rest := []) (w1 := (wd_Model k m_a m_limbs m_wide m_book m_images m_kept m_before m_refused m_quiet m_text m_typed m_at m_start m_token m_value m_items m_many m_is m_likes m_without m_onePicture m_oneYear m_first m_second m_names)) hA C me_X9_mixed hw_1524 (c_X9_mixed l D k m_a m_limbs m_wide m_book m_images m_kept m_before m_refused m_quiet m_text m_typed m_at m_start m_token m_value m_items m_many m_is m_likes m_without m_onePicture m_oneYear m_first m_second m_names u8 50 (5 * (m_book (cx_ix 2))) u11 e12) dX9_digest_76 ⟨Nat.le_of_ble_eq_true rfl, Nat.le_of_ble_eq_true rfl⟩ ⟨Nat.zero_le _, Nat.zero_le _⟩ rfl rfl (Nat.le_of_ble_eq_true rfl) rfl rfl rfl ?_
        clear e12
        refine cx_lstore_n (lv' := [(1, .long u11), (0, .ref (m_a 0)), (3, .int x3_2)]) C dX9_digest_79 rfl (by decide) rfl ?_
        refine cx_aload_n C dX9_digest_80 1 rfl ?_
        refine cx_lload_n C dX9_digest_81 0 rfl ?_
        refine cx_bipush (v := 80) C dX9_digest_82 (by decide) ?_
        refine cx_iconst (v := 4) C dX9_digest_84 (by decide) ?_
        refine cx_aload_n C dX9_digest_85 1 rfl ?_
        refine cx_get (v := .ref (m_a 3)) (ci := 8) C iX9 dX9_digest_86 0 rfl rfl 2 (by decide) hw_1056 rfl ?_
        refine cx_iconst (v := 3) C dX9_digest_89 (by decide) ?_
        obtain ⟨g13, hf⟩ := cx_gd_at hf
        refine cx_iald C dX9_digest_90 3 rfl (cx_ib_in g13) ?_
        clear g13
        refine cx_imul C dX9_digest_91 ?_
        obtain ⟨u14, e15, hf⟩ := cx_bd_at hf
        refine cx_Fvl (q := (RX9, TX9, 24)) (As := [.long u11, .int 80, .int (4 * (m_book (cx_ix 3)))]) (rest := []) (w1 := (wd_Model k m_a m_limbs m_wide m_book m_images m_kept m_before m_refused m_quiet m_text m_typed m_at m_start m_token m_value m_items m_many m_is m_likes m_without m_onePicture m_oneYear m_first m_second m_names)) hA C me_X9_mixed hw_1524 (c_X9_mixed l D k m_a m_limbs m_wide m_book m_images m_kept m_before m_refused m_quiet m_text m_typed m_at m_start m_token m_value m_items m_many m_is m_likes m_without m_onePicture m_oneYear m_first m_second m_names u11 80 (4 * (m_book (cx_ix 3))) u14 e15) dX9_digest_92 ⟨Nat.le_of_ble_eq_true rfl, Nat.le_of_ble_eq_true rfl⟩ ⟨Nat.zero_le _, Nat.zero_le _⟩ rfl rfl (Nat.le_of_ble_eq_true rfl) rfl rfl rfl ?_
        clear e15
        refine cx_lstore_n (lv' := [(1, .long u14), (0, .ref (m_a 0)), (3, .int x3_2)]) C dX9_digest_95 rfl (by decide) rfl ?_
        refine cx_aload_n C dX9_digest_96 1 rfl ?_
        refine cx_lload_n C dX9_digest_97 0 rfl ?_
        refine cx_bipush (v := 100) C dX9_digest_98 (by decide) ?_
        refine cx_iconst (v := 3) C dX9_digest_100 (by decide) ?_
        refine cx_aload_n C dX9_digest_101 1 rfl ?_
        refine cx_get (v := .ref (m_a 3)) (ci := 8) C iX9 dX9_digest_102 0 rfl rfl 2 (by decide) hw_1056 rfl ?_
        refine cx_iconst (v := 4) C dX9_digest_105 (by decide) ?_
        obtain ⟨g16, hf⟩ := cx_gd_at hf
        refine cx_iald C dX9_digest_106 3 rfl (cx_ib_in g16) ?_
        clear g16
        refine cx_imul C dX9_digest_107 ?_
        obtain ⟨u17, e18, hf⟩ := cx_bd_at hf
        refine cx_Fvl (q := (RX9, TX9, 24)) (As := [.long u14, .int 100, .int (3 * (m_book (cx_ix 4)))]) (rest := []) (w1 := (wd_Model k m_a m_limbs m_wide m_book m_images m_kept m_before m_refused m_quiet m_text m_typed m_at m_start m_token m_value m_items m_many m_is m_likes m_without m_onePicture m_oneYear m_first m_second m_names)) hA C me_X9_mixed hw_1524 (c_X9_mixed l D k m_a m_limbs m_wide m_book m_images m_kept m_before m_refused m_quiet m_text m_typed m_at m_start m_token m_value m_items m_many m_is m_likes m_without m_onePicture m_oneYear m_first m_second m_names u14 100 (3 * (m_book (cx_ix 4))) u17 e18) dX9_digest_108 ⟨Nat.le_of_ble_eq_true rfl, Nat.le_of_ble_eq_true rfl⟩ ⟨Nat.zero_le _, Nat.zero_le _⟩ rfl rfl (Nat.le_of_ble_eq_true rfl) rfl rfl rfl ?_
        clear e18
        refine cx_lstore_n (lv' := [(1, .long u17), (0, .ref (m_a 0)), (3, .int x3_2)]) C dX9_digest_111 rfl (by decide) rfl ?_
        refine cx_aload_n C dX9_digest_112 1 rfl ?_
        refine cx_lload_n C dX9_digest_113 0 rfl ?_
        refine cx_iconst (v := 5) C dX9_digest_114 (by decide) ?_
        refine cx_iconst (v := 1) C dX9_digest_115 (by decide) ?_
        obtain ⟨u19, e20, hf⟩ := cx_bd_at hf
        refine cx_Fvl (q := (RX9, TX9, 24)) (As := [.long u17, .int 5, .int 1]) (rest := []) (w1 := (wd_Model k m_a m_limbs m_wide m_book m_images m_kept m_before m_refused m_quiet m_text m_typed m_at m_start m_token m_value m_items m_many m_is m_likes m_without m_onePicture m_oneYear m_first m_second m_names)) hA C me_X9_mixed hw_1524 (c_X9_mixed l D k m_a m_limbs m_wide m_book m_images m_kept m_before m_refused m_quiet m_text m_typed m_at m_start m_token m_value m_items m_many m_is m_likes m_without m_onePicture m_oneYear m_first m_second m_names u17 5 1 u19 e20) dX9_digest_116 ⟨Nat.le_of_ble_eq_true rfl, Nat.le_of_ble_eq_true rfl⟩ ⟨Nat.zero_le _, Nat.zero_le _⟩ rfl rfl (Nat.le_of_ble_eq_true rfl) rfl rfl rfl ?_
        clear e20
        refine cx_lstore_n (lv' := [(1, .long u19), (0, .ref (m_a 0)), (3, .int x3_2)]) C dX9_digest_119 rfl (by decide) rfl ?_
        refine cx_ldc2 (v := 31) C dX9_digest_120 hw_1523 ?_
        refine cx_ldc2 (v := 31) C dX9_digest_123 hw_1523 ?_
        refine cx_ldc2 (v := 31) C dX9_digest_126 hw_1523 ?_
        refine cx_lload_n C dX9_digest_129 0 rfl ?_
        refine cx_lmul C dX9_digest_130 ?_
        refine cx_aload_n C dX9_digest_131 1 rfl ?_
        obtain ⟨u21, e22, hf⟩ := cx_bd_at hf
        refine cx_Fvi (q := (RX9, TX9, 24)) (As := []) (rest := [.long (31 * u19), .long 31, .long 31]) (w1 := (wd_Model k m_a m_limbs m_wide m_book m_images m_kept m_before m_refused m_quiet m_text m_typed m_at m_start m_token m_value m_items m_many m_is m_likes m_without m_onePicture m_oneYear m_first m_second m_names)) hA C me_X9_signNow hw_1489 (c_X9_signNow l D k m_a m_limbs m_wide m_book m_images m_kept m_before m_refused m_quiet m_text m_typed m_at m_start m_token m_value m_items m_many m_is m_likes m_without m_onePicture m_oneYear m_first m_second m_names u21 e22) dX9_digest_132 ⟨Nat.le_of_ble_eq_true rfl, Nat.le_of_ble_eq_true rfl⟩ ⟨Nat.zero_le _, Nat.zero_le _⟩ rfl rfl (Nat.le_of_ble_eq_true rfl) rfl rfl rfl ?_
        clear e22
        refine cx_i2l C dX9_digest_135 ?_
        refine cx_ladd C dX9_digest_136 ?_
        refine cx_lmul C dX9_digest_137 ?_
        refine cx_aload_n C dX9_digest_138 1 rfl ?_
        refine cx_get (v := .ref (m_a 2)) (ci := 8) C iX9 dX9_digest_139 0 rfl rfl 1 (by decide) hw_1055 rfl ?_
        refine cx_iconst (v := 0) C dX9_digest_142 (by decide) ?_
        obtain ⟨g23, hf⟩ := cx_gd_at hf
        refine cx_iald C dX9_digest_143 2 rfl (cx_ib_in g23) ?_
        clear g23
        refine cx_i2l C dX9_digest_144 ?_
        refine cx_ladd C dX9_digest_145 ?_
        refine cx_lmul C dX9_digest_146 ?_
        refine cx_aload_n C dX9_digest_147 1 rfl ?_
        refine cx_get (v := .ref (m_a 2)) (ci := 8) C iX9 dX9_digest_148 0 rfl rfl 1 (by decide) hw_1055 rfl ?_
        refine cx_iconst (v := 1) C dX9_digest_151 (by decide) ?_
        obtain ⟨g24, hf⟩ := cx_gd_at hf
        refine cx_iald C dX9_digest_152 2 rfl (cx_ib_in g24) ?_
        clear g24
        refine cx_i2l C dX9_digest_153 ?_
        refine cx_ladd C dX9_digest_154 ?_
        refine cx_topl (fun v25 ev25 => ?_)
        have hf := cx_let_at hf ev25
        clear ev25
        refine cx_lstore_n (lv' := [(1, .long v25), (0, .ref (m_a 0)), (3, .int x3_2)]) C dX9_digest_155 rfl (by decide) rfl ?_
        refine cx_iconst (v := 0) C dX9_digest_156 (by decide) ?_
        refine cx_istore_n (lv' := [(3, .int 0), (1, .long v25), (0, .ref (m_a 0))]) C dX9_digest_157 rfl (by decide) rfl ?_
        refine cx_lv [2, 1, 0] rfl ?_
        exact L158 cx_N0 v25 0 hf
      · have hf := cx_if_f hf c3
        clear c3
        refine cx_ldc2 (v := 31) C dX9_digest_12 hw_1523 ?_
        refine cx_lload_n C dX9_digest_15 1 rfl ?_
        refine cx_lmul C dX9_digest_16 ?_
        refine cx_aload_n C dX9_digest_17 0 rfl ?_
        refine cx_iload_n C dX9_digest_18 2 rfl ?_
        obtain ⟨u35, e36, hf⟩ := cx_bd_at hf
        refine cx_Fvi (q := (RX9, TX9, 24)) (As := [.int x3_2]) (rest := [.long (31 * x1_1)]) (w1 := (wd_Model k m_a m_limbs m_wide m_book m_images m_kept m_before m_refused m_quiet m_text m_typed m_at m_start m_token m_value m_items m_many m_is m_likes m_without m_onePicture m_oneYear m_first m_second m_names)) hA C me_X9_countOf hw_1514 (c_X9_countOf l D k m_a m_limbs m_wide m_book m_images m_kept m_before m_refused m_quiet m_text m_typed m_at m_start m_token m_value m_items m_many m_is m_likes m_without m_onePicture m_oneYear m_first m_second m_names x3_2 u35 e36) dX9_digest_19 ⟨Nat.le_of_ble_eq_true rfl, Nat.le_of_ble_eq_true rfl⟩ ⟨Nat.zero_le _, Nat.zero_le _⟩ rfl rfl (Nat.le_of_ble_eq_true rfl) rfl rfl rfl ?_
        clear e36
        refine cx_i2l C dX9_digest_22 ?_
        refine cx_ladd C dX9_digest_23 ?_
        refine cx_topl (fun v37 ev37 => ?_)
        have hf := cx_let_at hf ev37
        clear ev37
        refine cx_lstore_n (lv' := [(1, .long v37), (0, .ref (m_a 0)), (3, .int x3_2)]) C dX9_digest_24 rfl (by decide) rfl ?_
        refine cx_iinc (v := x3_2 + 1) (lv' := [(3, .int (x3_2 + 1)), (1, .long v37), (0, .ref (m_a 0))]) C dX9_digest_25 2 rfl rfl (by decide) rfl ?_
        refine cx_goto (tgt := 6) C dX9_digest_28 (by decide) ?_
        refine cx_lv [2, 1, 0] rfl ?_
        exact ih6 v37 (x3_2 + 1) hf
  unfold f_X9_digest at hf
  refine cx_ldc2 (v := 661) C dX9_digest_0 hw_1522 ?_
  refine cx_lstore_n (lv' := [(1, .long 661), (0, .ref (m_a 0))]) C dX9_digest_3 rfl (by decide) rfl ?_
  refine cx_iconst (v := 0) C dX9_digest_4 (by decide) ?_
  refine cx_istore_n (lv' := [(3, .int 0), (1, .long 661), (0, .ref (m_a 0))]) C dX9_digest_5 rfl (by decide) rfl ?_
  refine cx_lv [2, 1, 0] rfl ?_
  exact L6 cx_N0 661 0 hf
