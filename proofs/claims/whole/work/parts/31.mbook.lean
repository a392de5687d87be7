theorem dX9_refuses_0 : decode cX9_refuses 0 = .ok (.aload_n 0, 1) := by decide +kernel
theorem dX9_refuses_1 : decode cX9_refuses 1 = .ok (.getfield 64, 3) := by decide +kernel
theorem dX9_refuses_4 : decode cX9_refuses 4 = .ok (.iload_n 1, 1) := by decide +kernel
theorem dX9_refuses_5 : decode cX9_refuses 5 = .ok (.dup2, 1) := by decide +kernel
theorem dX9_refuses_6 : decode cX9_refuses 6 = .ok (.iaload, 1) := by decide +kernel
theorem dX9_refuses_7 : decode cX9_refuses 7 = .ok (.aload_n 0, 1) := by decide +kernel
theorem dX9_refuses_8 : decode cX9_refuses 8 = .ok (.getfield 82, 3) := by decide +kernel
theorem dX9_refuses_11 : decode cX9_refuses 11 = .ok (.ifCond .eq 7, 3) := by decide +kernel
theorem dX9_refuses_14 : decode cX9_refuses 14 = .ok (.iconst 0, 1) := by decide +kernel
theorem dX9_refuses_15 : decode cX9_refuses 15 = .ok (.goto 4, 3) := by decide +kernel
theorem dX9_refuses_18 : decode cX9_refuses 18 = .ok (.iconst 1, 1) := by decide +kernel
theorem dX9_refuses_19 : decode cX9_refuses 19 = .ok (.iadd, 1) := by decide +kernel
theorem dX9_refuses_20 : decode cX9_refuses 20 = .ok (.iastore, 1) := by decide +kernel
theorem dX9_refuses_21 : decode cX9_refuses 21 = .ok (.iload_n 2, 1) := by decide +kernel
theorem dX9_refuses_22 : decode cX9_refuses 22 = .ok (.ireturn, 1) := by decide +kernel
theorem me_X9_refuses : cx_Mv yX9_refuses cX9_refuses 3 (some .int) 2 := ⟨⟨⟨by decide +kernel, by decide +kernel, by decide +kernel⟩, hw_11, hw_1144⟩, hw_1143, hs_40⟩
noncomputable def f_X9_refuses_J19 (m_refused : Nat → Int32) (p1 : Int32) (p2 : Int32) (s2_3 : Int32) (s3_4 : Int32) : Option (Int32 × (Nat → Int32)) := cx_gd (cx_ib p1 3) (cx_let (upd m_refused (cx_ix p1) (s2_3 + s3_4)) (fun a6 => some ((p2, a6))))
noncomputable def f_X9_refuses (m_refused : Nat → Int32) (m_quiet : Int32) (p1 : Int32) (p2 : Int32) : Option (Int32 × (Nat → Int32)) := cx_gd (cx_ib p1 3) (if m_quiet = 0 then (f_X9_refuses_J19 m_refused p1 p2 (m_refused (cx_ix p1)) 1) else (f_X9_refuses_J19 m_refused p1 p2 (m_refused (cx_ix p1)) 0))
set_option maxHeartbeats 4000000 in
set_option maxRecDepth 100000 in
theorem c_X9_refuses (l : Launch) (D : va_G) (k : Nat → ClassId) (m_a : Nat → Nat) (m_limbs : Nat → Int32) (m_wide : Nat → Int32) (m_book : Nat → Int32) (m_images : Nat → Int32) (m_kept : Nat → Int32) (m_before : Nat → Int32) (m_refused : Nat → Int32) (m_quiet : Int32) (m_text : Nat → Int32) (m_typed : Int32) (m_at : Int32) (m_start : Int32) (m_token : Int32) (m_value : Int32) (m_items : Nat → Int32) (m_many : Int32) (m_is : Nat → Int32) (m_likes : Nat → Int32) (m_without : Int32) (m_onePicture : Int32) (m_oneYear : Int32) (m_first : Int32) (m_second : Int32) (m_names : Nat → Int32) (p1 : Int32) (p2 : Int32) (y : Int32 × (Nat → Int32)) (hf : f_X9_refuses m_refused m_quiet p1 p2 = some y) : cx_M l yX9_refuses cX9_refuses 3 (some .int) 1 D k [.ref (m_a 0), .int p1, .int p2] (wd_Model k m_a m_limbs m_wide m_book m_images m_kept m_before m_refused m_quiet m_text m_typed m_at m_start m_token m_value m_items m_many m_is m_likes m_without m_onePicture m_oneYear m_first m_second m_names) (fun sz => cx_Qi D y.1 (wd_Model k m_a m_limbs m_wide m_book m_images m_kept m_before m_refused m_quiet m_text m_typed m_at m_start m_token m_value m_items m_many m_is m_likes m_without m_onePicture m_oneYear m_first m_second m_names) (wd_Model k m_a m_limbs m_wide m_book m_images m_kept m_before y.2 m_quiet m_text m_typed m_at m_start m_token m_value m_items m_many m_is m_likes m_without m_onePicture m_oneYear m_first m_second m_names) sz) := by
  refine cx_met (own := "NamelessBoxModel") (by decide) rfl (Nat.le_of_ble_eq_true rfl) ?_
  intro p e s m args below meth c A Q C hA hQ hr hlk
  refine cx_lv (lv' := [(0, .ref (m_a 0)), (1, .int p1), (2, .int p2)]) [0, 1, 2] rfl ?_
  have J19 : ∀ (s2_3 : Int32) (s3_4 : Int32), f_X9_refuses_J19 m_refused p1 p2 s2_3 s3_4 = some y → cx_S p l e (cx_rm 1) s m args below meth c A D 3 0 0 Q 19 [(2, .int p2)] [.int s3_4, .int s2_3, .int p1, .ref (m_a 7)] (wd_Model k m_a m_limbs m_wide m_book m_images m_kept m_before m_refused m_quiet m_text m_typed m_at m_start m_token m_value m_items m_many m_is m_likes m_without m_onePicture m_oneYear m_first m_second m_names) := by
    intro s2_3 s3_4 hf
    unfold f_X9_refuses_J19 at hf
    refine cx_iadd C dX9_refuses_19 ?_
    obtain ⟨g5, hf⟩ := cx_gd_at hf
    obtain ⟨a6, ea6⟩ : ∃ z, z = upd m_refused (cx_ix p1) (s2_3 + s3_4) := ⟨_, rfl⟩
    have hf := cx_let_at hf ea6
    refine cx_iast (ws' := (wd_Model k m_a m_limbs m_wide m_book m_images m_kept m_before a6 m_quiet m_text m_typed m_at m_start m_token m_value m_items m_many m_is m_likes m_without m_onePicture m_oneYear m_first m_second m_names)) C dX9_refuses_20 7 rfl (cx_ib_in g5) (by rw [ea6]; rfl) ?_
    clear ea6 g5
    refine cx_iload_n C dX9_refuses_21 0 rfl ?_
    obtain rfl := Option.some.inj hf
    exact cx_iret C hA hQ hr hlk dX9_refuses_22 rfl rfl
  unfold f_X9_refuses at hf
  refine cx_aload_n C dX9_refuses_0 0 rfl ?_
  refine cx_get (v := .ref (m_a 7)) (ci := 8) C iX9 dX9_refuses_1 0 rfl rfl 6 (by decide) hw_1060 rfl ?_
  refine cx_iload_n C dX9_refuses_4 1 rfl ?_
  refine cx_dup2_11 C dX9_refuses_5 rfl rfl ?_
  obtain ⟨g1, hf⟩ := cx_gd_at hf
  refine cx_iald C dX9_refuses_6 7 rfl (cx_ib_in g1) ?_
  clear g1
  refine cx_aload_n C dX9_refuses_7 0 rfl ?_
  refine cx_get (v := .int m_quiet) (ci := 8) C iX9 dX9_refuses_8 0 rfl rfl 7 (by decide) hw_1061 rfl ?_
  refine cx_if_eq (tgt := 18) C dX9_refuses_11 (by decide) (fun c2 => ?_) (fun c2 => ?_)
  · have hf := cx_if_t hf c2
    clear c2
    refine cx_iconst (v := 1) C dX9_refuses_18 (by decide) ?_
    refine cx_lv [2] rfl ?_
    exact J19 (m_refused (cx_ix p1)) 1 hf
  · have hf := cx_if_f hf c2
    clear c2
    refine cx_iconst (v := 0) C dX9_refuses_14 (by decide) ?_
    refine cx_goto (tgt := 19) C dX9_refuses_15 (by decide) ?_
    refine cx_lv [2] rfl ?_
    exact J19 (m_refused (cx_ix p1)) 0 hf
theorem dX9_bad_0 : decode cX9_bad 0 = .ok (.aload_n 0, 1) := by decide +kernel
theorem dX9_bad_1 : decode cX9_bad 1 = .ok (.iconst 0, 1) := by decide +kernel
theorem dX9_bad_2 : decode cX9_bad 2 = .ok (.bipush (-2), 2) := by decide +kernel
theorem dX9_bad_4 : decode cX9_bad 4 = .ok (.invokevirtual 86, 3) := by decide +kernel
theorem dX9_bad_7 : decode cX9_bad 7 = .ok (.ireturn, 1) := by decide +kernel
theorem me_X9_bad : cx_Mv yX9_bad cX9_bad 1 (some .int) 0 := ⟨⟨⟨by decide +kernel, by decide +kernel, by decide +kernel⟩, hw_11, hw_1140⟩, hw_1139, hs_39⟩
noncomputable def f_X9_bad (m_refused : Nat → Int32) (m_quiet : Int32) : Option (Int32 × (Nat → Int32)) := Option.bind (f_X9_refuses m_refused m_quiet 0 ((-2))) (fun u1 => some ((u1.1, u1.2)))
set_option maxHeartbeats 4000000 in
set_option maxRecDepth 100000 in
theorem c_X9_bad (l : Launch) (D : va_G) (k : Nat → ClassId) (m_a : Nat → Nat) (m_limbs : Nat → Int32) (m_wide : Nat → Int32) (m_book : Nat → Int32) (m_images : Nat → Int32) (m_kept : Nat → Int32) (m_before : Nat → Int32) (m_refused : Nat → Int32) (m_quiet : Int32) (m_text : Nat → Int32) (m_typed : Int32) (m_at : Int32) (m_start : Int32) (m_token : Int32) (m_value : Int32) (m_items : Nat → Int32) (m_many : Int32) (m_is : Nat → Int32) (m_likes : Nat → Int32) (m_without : Int32) (m_onePicture : Int32) (m_oneYear : Int32) (m_first : Int32) (m_second : Int32) (m_names : Nat → Int32) (y : Int32 × (Nat → Int32)) (hf : f_X9_bad m_refused m_quiet = some y) : cx_M l yX9_bad cX9_bad 1 (some .int) 2 D k [.ref (m_a 0)] (wd_Model k m_a m_limbs m_wide m_book m_images m_kept m_before m_refused m_quiet m_text m_typed m_at m_start m_token m_value m_items m_many m_is m_likes m_without m_onePicture m_oneYear m_first m_second m_names) (fun sz => cx_Qi D y.1 (wd_Model k m_a m_limbs m_wide m_book m_images m_kept m_before m_refused m_quiet m_text m_typed m_at m_start m_token m_value m_items m_many m_is m_likes m_without m_onePicture m_oneYear m_first m_second m_names) (wd_Model k m_a m_limbs m_wide m_book m_images m_kept m_before y.2 m_quiet m_text m_typed m_at m_start m_token m_value m_items m_many m_is m_likes m_without m_onePicture m_oneYear m_first m_second m_names) sz) := by
  refine cx_met (own := "NamelessBoxModel") (by decide) rfl (Nat.le_of_ble_eq_true rfl) ?_
  intro p e s m args below meth c A Q C hA hQ hr hlk
  refine cx_lv (lv' := [(0, .ref (m_a 0))]) [0] rfl ?_
  unfold f_X9_bad at hf
  refine cx_aload_n C dX9_bad_0 0 rfl ?_
  refine cx_iconst (v := 0) C dX9_bad_1 (by decide) ?_
  refine cx_bipush (v := (-2)) C dX9_bad_2 (by decide) ?_
  obtain ⟨u1, e2, hf⟩ := cx_bd_at hf
  refine cx_Fvi (q := (RX9, TX9, 24)) (As := [.int 0, .int ((-2))]) (rest := []) (w1 := (wd_Model k m_a m_limbs m_wide m_book m_images m_kept m_before u1.2 m_quiet m_text m_typed m_at m_start m_token m_value m_items m_many m_is m_likes m_without m_onePicture m_oneYear m_first m_second m_names)) hA C me_X9_refuses hw_1141 (c_X9_refuses l D k m_a m_limbs m_wide m_book m_images m_kept m_before m_refused m_quiet m_text m_typed m_at m_start m_token m_value m_items m_many m_is m_likes m_without m_onePicture m_oneYear m_first m_second m_names 0 ((-2)) u1 e2) dX9_bad_4 ⟨Nat.le_of_ble_eq_true rfl, Nat.le_of_ble_eq_true rfl⟩ ⟨Nat.zero_le _, Nat.zero_le _⟩ rfl rfl (Nat.le_of_ble_eq_true rfl) rfl rfl rfl ?_
  clear e2
  obtain rfl := Option.some.inj hf
  exact cx_iret C hA hQ hr hlk dX9_bad_7 rfl rfl
theorem dX9_no_0 : decode cX9_no 0 = .ok (.aload_n 0, 1) := by decide +kernel
theorem dX9_no_1 : decode cX9_no 1 = .ok (.iconst 1, 1) := by decide +kernel
theorem dX9_no_2 : decode cX9_no 2 = .ok (.bipush (-3), 2) := by decide +kernel
theorem dX9_no_4 : decode cX9_no 4 = .ok (.invokevirtual 86, 3) := by decide +kernel
theorem dX9_no_7 : decode cX9_no 7 = .ok (.ireturn, 1) := by decide +kernel
theorem me_X9_no : cx_Mv yX9_no cX9_no 1 (some .int) 0 := ⟨⟨⟨by decide +kernel, by decide +kernel, by decide +kernel⟩, hw_11, hw_1340⟩, hw_1339, hs_67⟩
noncomputable def f_X9_no (m_refused : Nat → Int32) (m_quiet : Int32) : Option (Int32 × (Nat → Int32)) := Option.bind (f_X9_refuses m_refused m_quiet 1 ((-3))) (fun u1 => some ((u1.1, u1.2)))
set_option maxHeartbeats 4000000 in
set_option maxRecDepth 100000 in
theorem c_X9_no (l : Launch) (D : va_G) (k : Nat → ClassId) (m_a : Nat → Nat) (m_limbs : Nat → Int32) (m_wide : Nat → Int32) (m_book : Nat → Int32) (m_images : Nat → Int32) (m_kept : Nat → Int32) (m_before : Nat → Int32) (m_refused : Nat → Int32) (m_quiet : Int32) (m_text : Nat → Int32) (m_typed : Int32) (m_at : Int32) (m_start : Int32) (m_token : Int32) (m_value : Int32) (m_items : Nat → Int32) (m_many : Int32) (m_is : Nat → Int32) (m_likes : Nat → Int32) (m_without : Int32) (m_onePicture : Int32) (m_oneYear : Int32) (m_first : Int32) (m_second : Int32) (m_names : Nat → Int32) (y : Int32 × (Nat → Int32)) (hf : f_X9_no m_refused m_quiet = some y) : cx_M l yX9_no cX9_no 1 (some .int) 2 D k [.ref (m_a 0)] (wd_Model k m_a m_limbs m_wide m_book m_images m_kept m_before m_refused m_quiet m_text m_typed m_at m_start m_token m_value m_items m_many m_is m_likes m_without m_onePicture m_oneYear m_first m_second m_names) (fun sz => cx_Qi D y.1 (wd_Model k m_a m_limbs m_wide m_book m_images m_kept m_before m_refused m_quiet m_text m_typed m_at m_start m_token m_value m_items m_many m_is m_likes m_without m_onePicture m_oneYear m_first m_second m_names) (wd_Model k m_a m_limbs m_wide m_book m_images m_kept m_before y.2 m_quiet m_text m_typed m_at m_start m_token m_value m_items m_many m_is m_likes m_without m_onePicture m_oneYear m_first m_second m_names) sz) := by
  refine cx_met (own := "NamelessBoxModel") (by decide) rfl (Nat.le_of_ble_eq_true rfl) ?_
  intro p e s m args below meth c A Q C hA hQ hr hlk
  refine cx_lv (lv' := [(0, .ref (m_a 0))]) [0] rfl ?_
  unfold f_X9_no at hf
  refine cx_aload_n C dX9_no_0 0 rfl ?_
  refine cx_iconst (v := 1) C dX9_no_1 (by decide) ?_
  refine cx_bipush (v := (-3)) C dX9_no_2 (by decide) ?_
  obtain ⟨u1, e2, hf⟩ := cx_bd_at hf
  refine cx_Fvi (q := (RX9, TX9, 24)) (As := [.int 1, .int ((-3))]) (rest := []) (w1 := (wd_Model k m_a m_limbs m_wide m_book m_images m_kept m_before u1.2 m_quiet m_text m_typed m_at m_start m_token m_value m_items m_many m_is m_likes m_without m_onePicture m_oneYear m_first m_second m_names)) hA C me_X9_refuses hw_1141 (c_X9_refuses l D k m_a m_limbs m_wide m_book m_images m_kept m_before m_refused m_quiet m_text m_typed m_at m_start m_token m_value m_items m_many m_is m_likes m_without m_onePicture m_oneYear m_first m_second m_names 1 ((-3)) u1 e2) dX9_no_4 ⟨Nat.le_of_ble_eq_true rfl, Nat.le_of_ble_eq_true rfl⟩ ⟨Nat.zero_le _, Nat.zero_le _⟩ rfl rfl (Nat.le_of_ble_eq_true rfl) rfl rfl rfl ?_
  clear e2
  obtain rfl := Option.some.inj hf
  exact cx_iret C hA hQ hr hlk dX9_no_7 rfl rfl
theorem dX9_full_0 : decode cX9_full 0 = .ok (.aload_n 0, 1) := by decide +kernel
theorem dX9_full_1 : decode cX9_full 1 = .ok (.iconst 2, 1) := by decide +kernel
theorem dX9_full_2 : decode cX9_full 2 = .ok (.bipush (-4), 2) := by decide +kernel
theorem dX9_full_4 : decode cX9_full 4 = .ok (.invokevirtual 86, 3) := by decide +kernel
theorem dX9_full_7 : decode cX9_full 7 = .ok (.ireturn, 1) := by decide +kernel
theorem me_X9_full : cx_Mv yX9_full cX9_full 1 (some .int) 0 := ⟨⟨⟨by decide +kernel, by decide +kernel, by decide +kernel⟩, hw_11, hw_1148⟩, hw_1147, hs_41⟩
noncomputable def f_X9_full (m_refused : Nat → Int32) (m_quiet : Int32) : Option (Int32 × (Nat → Int32)) := Option.bind (f_X9_refuses m_refused m_quiet 2 ((-4))) (fun u1 => some ((u1.1, u1.2)))
set_option maxHeartbeats 4000000 in
set_option maxRecDepth 100000 in
theorem c_X9_full (l : Launch) (D : va_G) (k : Nat → ClassId) (m_a : Nat → Nat) (m_limbs : Nat → Int32) (m_wide : Nat → Int32) (m_book : Nat → Int32) (m_images : Nat → Int32) (m_kept : Nat → Int32) (m_before : Nat → Int32) (m_refused : Nat → Int32) (m_quiet : Int32) (m_text : Nat → Int32) (m_typed : Int32) (m_at : Int32) (m_start : Int32) (m_token : Int32) (m_value : Int32) (m_items : Nat → Int32) (m_many : Int32) (m_is : Nat → Int32) (m_likes : Nat → Int32) (m_without : Int32) (m_onePicture : Int32) (m_oneYear : Int32) (m_first : Int32) (m_second : Int32) (m_names : Nat → Int32) (y : Int32 × (Nat → Int32)) (hf : f_X9_full m_refused m_quiet = some y) : cx_M l yX9_full cX9_full 1 (some .int) 2 D k [.ref (m_a 0)] (wd_Model k m_a m_limbs m_wide m_book m_images m_kept m_before m_refused m_quiet m_text m_typed m_at m_start m_token m_value m_items m_many m_is m_likes m_without m_onePicture m_oneYear m_first m_second m_names) (fun sz => cx_Qi D y.1 (wd_Model k m_a m_limbs m_wide m_book m_images m_kept m_before m_refused m_quiet m_text m_typed m_at m_start m_token m_value m_items m_many m_is m_likes m_without m_onePicture m_oneYear m_first m_second m_names) (wd_Model k m_a m_limbs m_wide m_book m_images m_kept m_before y.2 m_quiet m_text m_typed m_at m_start m_token m_value m_items m_many m_is m_likes m_without m_onePicture m_oneYear m_first m_second m_names) sz) := by
  refine cx_met (own := "NamelessBoxModel") (by decide) rfl (Nat.le_of_ble_eq_true rfl) ?_
  intro p e s m args below meth c A Q C hA hQ hr hlk
  refine cx_lv (lv' := [(0, .ref (m_a 0))]) [0] rfl ?_
  unfold f_X9_full at hf
  refine cx_aload_n C dX9_full_0 0 rfl ?_
  refine cx_iconst (v := 2) C dX9_full_1 (by decide) ?_
  refine cx_bipush (v := (-4)) C dX9_full_2 (by decide) ?_
  obtain ⟨u1, e2, hf⟩ := cx_bd_at hf
  refine cx_Fvi (q := (RX9, TX9, 24)) (As := [.int 2, .int ((-4))]) (rest := []) (w1 := (wd_Model k m_a m_limbs m_wide m_book m_images m_kept m_before u1.2 m_quiet m_text m_typed m_at m_start m_token m_value m_items m_many m_is m_likes m_without m_onePicture m_oneYear m_first m_second m_names)) hA C me_X9_refuses hw_1141 (c_X9_refuses l D k m_a m_limbs m_wide m_book m_images m_kept m_before m_refused m_quiet m_text m_typed m_at m_start m_token m_value m_items m_many m_is m_likes m_without m_onePicture m_oneYear m_first m_second m_names 2 ((-4)) u1 e2) dX9_full_4 ⟨Nat.le_of_ble_eq_true rfl, Nat.le_of_ble_eq_true rfl⟩ ⟨Nat.zero_le _, Nat.zero_le _⟩ rfl rfl (Nat.le_of_ble_eq_true rfl) rfl rfl rfl ?_
  clear e2
  obtain rfl := Option.some.inj hf
  exact cx_iret C hA hQ hr hlk dX9_full_7 rfl rfl
theorem dX9_isPerson_0 : decode cX9_isPerson 0 = .ok (.iload_n 1, 1) := by decide +kernel
theorem dX9_isPerson_1 : decode cX9_isPerson 1 = .ok (.i2l, 1) := by decide +kernel
theorem dX9_isPerson_2 : decode cX9_isPerson 2 = .ok (.lconst 0, 1) := by decide +kernel
theorem dX9_isPerson_3 : decode cX9_isPerson 3 = .ok (.aload_n 0, 1) := by decide +kernel
theorem dX9_isPerson_4 : decode cX9_isPerson 4 = .ok (.getfield 51, 3) := by decide +kernel
theorem dX9_isPerson_7 : decode cX9_isPerson 7 = .ok (.iconst 0, 1) := by decide +kernel
theorem dX9_isPerson_8 : decode cX9_isPerson 8 = .ok (.iaload, 1) := by decide +kernel
theorem dX9_isPerson_9 : decode cX9_isPerson 9 = .ok (.iconst 1, 1) := by decide +kernel
theorem dX9_isPerson_10 : decode cX9_isPerson 10 = .ok (.isub, 1) := by decide +kernel
theorem dX9_isPerson_11 : decode cX9_isPerson 11 = .ok (.i2l, 1) := by decide +kernel
theorem dX9_isPerson_12 : decode cX9_isPerson 12 = .ok (.invokestatic 89, 3) := by decide +kernel
theorem dX9_isPerson_15 : decode cX9_isPerson 15 = .ok (.ireturn, 1) := by decide +kernel
theorem me_X9_isPerson : cx_Mv yX9_isPerson cX9_isPerson 2 (some .boolean) 1 := ⟨⟨⟨by decide +kernel, by decide +kernel, by decide +kernel⟩, hw_11, hw_1156⟩, hw_1155, hs_42⟩
noncomputable def f_X9_isPerson (m_book : Nat → Int32) (p1 : Int32) : Option Int32 := cx_gd (cx_ib 0 140) (Option.bind (f_X9_in (Int32.toInt64 p1) 0 (Int32.toInt64 ((m_book (cx_ix 0)) - 1))) (fun u2 => cx_gd (decide (u2 = 0 ∨ u2 = 1)) (some u2)))
set_option maxHeartbeats 4000000 in
set_option maxRecDepth 100000 in
theorem c_X9_isPerson (l : Launch) (D : va_G) (k : Nat → ClassId) (m_a : Nat → Nat) (m_limbs : Nat → Int32) (m_wide : Nat → Int32) (m_book : Nat → Int32) (m_images : Nat → Int32) (m_kept : Nat → Int32) (m_before : Nat → Int32) (m_refused : Nat → Int32) (m_quiet : Int32) (m_text : Nat → Int32) (m_typed : Int32) (m_at : Int32) (m_start : Int32) (m_token : Int32) (m_value : Int32) (m_items : Nat → Int32) (m_many : Int32) (m_is : Nat → Int32) (m_likes : Nat → Int32) (m_without : Int32) (m_onePicture : Int32) (m_oneYear : Int32) (m_first : Int32) (m_second : Int32) (m_names : Nat → Int32) (p1 : Int32) (y : Int32) (hf : f_X9_isPerson m_book p1 = some y) : cx_M l yX9_isPerson cX9_isPerson 2 (some .boolean) 2 D k [.ref (m_a 0), .int p1] (wd_Model k m_a m_limbs m_wide m_book m_images m_kept m_before m_refused m_quiet m_text m_typed m_at m_start m_token m_value m_items m_many m_is m_likes m_without m_onePicture m_oneYear m_first m_second m_names) (fun sz => cx_Qi D y (wd_Model k m_a m_limbs m_wide m_book m_images m_kept m_before m_refused m_quiet m_text m_typed m_at m_start m_token m_value m_items m_many m_is m_likes m_without m_onePicture m_oneYear m_first m_second m_names) (wd_Model k m_a m_limbs m_wide m_book m_images m_kept m_before m_refused m_quiet m_text m_typed m_at m_start m_token m_value m_items m_many m_is m_likes m_without m_onePicture m_oneYear m_first m_second m_names) sz) := by
  refine cx_met (own := "NamelessBoxModel") (by decide) rfl (Nat.le_of_ble_eq_true rfl) ?_
  intro p e s m args below meth c A Q C hA hQ hr hlk
  refine cx_lv (lv' := [(0, .ref (m_a 0)), (1, .int p1)]) [0, 1] rfl ?_
  unfold f_X9_isPerson at hf
  refine cx_iload_n C dX9_isPerson_0 1 rfl ?_
  refine cx_i2l C dX9_isPerson_1 ?_
  refine cx_lconst (v := 0) C dX9_isPerson_2 (by decide) ?_
  refine cx_aload_n C dX9_isPerson_3 0 rfl ?_
  refine cx_get (v := .ref (m_a 3)) (ci := 8) C iX9 dX9_isPerson_4 0 rfl rfl 2 (by decide) hw_1056 rfl ?_
  refine cx_iconst (v := 0) C dX9_isPerson_7 (by decide) ?_
  obtain ⟨g1, hf⟩ := cx_gd_at hf
  refine cx_iald C dX9_isPerson_8 3 rfl (cx_ib_in g1) ?_
  clear g1
  refine cx_iconst (v := 1) C dX9_isPerson_9 (by decide) ?_
  refine cx_isub C dX9_isPerson_10 ?_
  refine cx_i2l C dX9_isPerson_11 ?_
  obtain ⟨u2, e3, hf⟩ := cx_bd_at hf
  refine cx_Ksi (As := [.long (Int32.toInt64 p1), .long 0, .long (Int32.toInt64 ((m_book (cx_ix 0)) - 1))]) (rest := []) hA C me_X9_in hw_1132 (c_X9_in l D k (Int32.toInt64 p1) 0 (Int32.toInt64 ((m_book (cx_ix 0)) - 1)) u2 e3) dX9_isPerson_12 ⟨Nat.le_of_ble_eq_true rfl, Nat.le_of_ble_eq_true rfl⟩ ⟨Nat.zero_le _, Nat.zero_le _⟩ rfl rfl (Nat.le_of_ble_eq_true rfl) [] rfl (by decide) ?_
  clear e3
  obtain ⟨b4, hf⟩ := cx_gd_at hf
  obtain rfl := Option.some.inj hf
  exact cx_zret C hA hQ hr hlk dX9_isPerson_15 (cx_nz (of_decide_eq_true b4)).1 rfl rfl
theorem dX9_isPicture_0 : decode cX9_isPicture 0 = .ok (.iload_n 1, 1) := by decide +kernel
theorem dX9_isPicture_1 : decode cX9_isPicture 1 = .ok (.i2l, 1) := by decide +kernel
theorem dX9_isPicture_2 : decode cX9_isPicture 2 = .ok (.lconst 0, 1) := by decide +kernel
theorem dX9_isPicture_3 : decode cX9_isPicture 3 = .ok (.aload_n 0, 1) := by decide +kernel
theorem dX9_isPicture_4 : decode cX9_isPicture 4 = .ok (.getfield 51, 3) := by decide +kernel
theorem dX9_isPicture_7 : decode cX9_isPicture 7 = .ok (.iconst 1, 1) := by decide +kernel
theorem dX9_isPicture_8 : decode cX9_isPicture 8 = .ok (.iaload, 1) := by decide +kernel
theorem dX9_isPicture_9 : decode cX9_isPicture 9 = .ok (.iconst 1, 1) := by decide +kernel
theorem dX9_isPicture_10 : decode cX9_isPicture 10 = .ok (.isub, 1) := by decide +kernel
theorem dX9_isPicture_11 : decode cX9_isPicture 11 = .ok (.i2l, 1) := by decide +kernel
theorem dX9_isPicture_12 : decode cX9_isPicture 12 = .ok (.invokestatic 89, 3) := by decide +kernel
theorem dX9_isPicture_15 : decode cX9_isPicture 15 = .ok (.ireturn, 1) := by decide +kernel
theorem me_X9_isPicture : cx_Mv yX9_isPicture cX9_isPicture 2 (some .boolean) 1 := ⟨⟨⟨by decide +kernel, by decide +kernel, by decide +kernel⟩, hw_11, hw_1177⟩, hw_1176, hs_44⟩
noncomputable def f_X9_isPicture (m_book : Nat → Int32) (p1 : Int32) : Option Int32 := cx_gd (cx_ib 1 140) (Option.bind (f_X9_in (Int32.toInt64 p1) 0 (Int32.toInt64 ((m_book (cx_ix 1)) - 1))) (fun u2 => cx_gd (decide (u2 = 0 ∨ u2 = 1)) (some u2)))
set_option maxHeartbeats 4000000 in
set_option maxRecDepth 100000 in
theorem c_X9_isPicture (l : Launch) (D : va_G) (k : Nat → ClassId) (m_a : Nat → Nat) (m_limbs : Nat → Int32) (m_wide : Nat → Int32) (m_book : Nat → Int32) (m_images : Nat → Int32) (m_kept : Nat → Int32) (m_before : Nat → Int32) (m_refused : Nat → Int32) (m_quiet : Int32) (m_text : Nat → Int32) (m_typed : Int32) (m_at : Int32) (m_start : Int32) (m_token : Int32) (m_value : Int32) (m_items : Nat → Int32) (m_many : Int32) (m_is : Nat → Int32) (m_likes : Nat → Int32) (m_without : Int32) (m_onePicture : Int32) (m_oneYear : Int32) (m_first : Int32) (m_second : Int32) (m_names : Nat → Int32) (p1 : Int32) (y : Int32) (hf : f_X9_isPicture m_book p1 = some y) : cx_M l yX9_isPicture cX9_isPicture 2 (some .boolean) 2 D k [.ref (m_a 0), .int p1] (wd_Model k m_a m_limbs m_wide m_book m_images m_kept m_before m_refused m_quiet m_text m_typed m_at m_start m_token m_value m_items m_many m_is m_likes m_without m_onePicture m_oneYear m_first m_second m_names) (fun sz => cx_Qi D y (wd_Model k m_a m_limbs m_wide m_book m_images m_kept m_before m_refused m_quiet m_text m_typed m_at m_start m_token m_value m_items m_many m_is m_likes m_without m_onePicture m_oneYear m_first m_second m_names) (wd_Model k m_a m_limbs m_wide m_book m_images m_kept m_before m_refused m_quiet m_text m_typed m_at m_start m_token m_value m_items m_many m_is m_likes m_without m_onePicture m_oneYear m_first m_second m_names) sz) := by
  refine cx_met (own := "NamelessBoxModel") (by decide) rfl (Nat.le_of_ble_eq_true rfl) ?_
  intro p e s m args below meth c A Q C hA hQ hr hlk
  refine cx_lv (lv' := [(0, .ref (m_a 0)), (1, .int p1)]) [0, 1] rfl ?_
  unfold f_X9_isPicture at hf
  refine cx_iload_n C dX9_isPicture_0 1 rfl ?_
  refine cx_i2l C dX9_isPicture_1 ?_
  refine cx_lconst (v := 0) C dX9_isPicture_2 (by decide) ?_
  refine cx_aload_n C dX9_isPicture_3 0 rfl ?_
  refine cx_get (v := .ref (m_a 3)) (ci := 8) C iX9 dX9_isPicture_4 0 rfl rfl 2 (by decide) hw_1056 rfl ?_
  refine cx_iconst (v := 1) C dX9_isPicture_7 (by decide) ?_
  obtain ⟨g1, hf⟩ := cx_gd_at hf
  refine cx_iald C dX9_isPicture_8 3 rfl (cx_ib_in g1) ?_
  clear g1
  refine cx_iconst (v := 1) C dX9_isPicture_9 (by decide) ?_
  refine cx_isub C dX9_isPicture_10 ?_
  refine cx_i2l C dX9_isPicture_11 ?_
  obtain ⟨u2, e3, hf⟩ := cx_bd_at hf
  refine cx_Ksi (As := [.long (Int32.toInt64 p1), .long 0, .long (Int32.toInt64 ((m_book (cx_ix 1)) - 1))]) (rest := []) hA C me_X9_in hw_1132 (c_X9_in l D k (Int32.toInt64 p1) 0 (Int32.toInt64 ((m_book (cx_ix 1)) - 1)) u2 e3) dX9_isPicture_12 ⟨Nat.le_of_ble_eq_true rfl, Nat.le_of_ble_eq_true rfl⟩ ⟨Nat.zero_le _, Nat.zero_le _⟩ rfl rfl (Nat.le_of_ble_eq_true rfl) [] rfl (by decide) ?_
  clear e3
  obtain ⟨b4, hf⟩ := cx_gd_at hf
  obtain rfl := Option.some.inj hf
  exact cx_zret C hA hQ hr hlk dX9_isPicture_15 (cx_nz (of_decide_eq_true b4)).1 rfl rfl
theorem dX9_isHead_0 : decode cX9_isHead 0 = .ok (.iload_n 1, 1) := by decide +kernel
theorem dX9_isHead_1 : decode cX9_isHead 1 = .ok (.i2l, 1) := by decide +kernel
theorem dX9_isHead_2 : decode cX9_isHead 2 = .ok (.lconst 0, 1) := by decide +kernel
theorem dX9_isHead_3 : decode cX9_isHead 3 = .ok (.aload_n 0, 1) := by decide +kernel
theorem dX9_isHead_4 : decode cX9_isHead 4 = .ok (.getfield 51, 3) := by decide +kernel
theorem dX9_isHead_7 : decode cX9_isHead 7 = .ok (.iconst 2, 1) := by decide +kernel
theorem dX9_isHead_8 : decode cX9_isHead 8 = .ok (.iaload, 1) := by decide +kernel
theorem dX9_isHead_9 : decode cX9_isHead 9 = .ok (.iconst 1, 1) := by decide +kernel
theorem dX9_isHead_10 : decode cX9_isHead 10 = .ok (.isub, 1) := by decide +kernel
theorem dX9_isHead_11 : decode cX9_isHead 11 = .ok (.i2l, 1) := by decide +kernel
theorem dX9_isHead_12 : decode cX9_isHead 12 = .ok (.invokestatic 89, 3) := by decide +kernel
theorem dX9_isHead_15 : decode cX9_isHead 15 = .ok (.ireturn, 1) := by decide +kernel
theorem me_X9_isHead : cx_Mv yX9_isHead cX9_isHead 2 (some .boolean) 1 := ⟨⟨⟨by decide +kernel, by decide +kernel, by decide +kernel⟩, hw_11, hw_1186⟩, hw_1185, hs_45⟩
noncomputable def f_X9_isHead (m_book : Nat → Int32) (p1 : Int32) : Option Int32 := cx_gd (cx_ib 2 140) (Option.bind (f_X9_in (Int32.toInt64 p1) 0 (Int32.toInt64 ((m_book (cx_ix 2)) - 1))) (fun u2 => cx_gd (decide (u2 = 0 ∨ u2 = 1)) (some u2)))
set_option maxHeartbeats 4000000 in
set_option maxRecDepth 100000 in
theorem c_X9_isHead (l : Launch) (D : va_G) (k : Nat → ClassId) (m_a : Nat → Nat) (m_limbs : Nat → Int32) (m_wide : Nat → Int32) (m_book : Nat → Int32) (m_images : Nat → Int32) (m_kept : Nat → Int32) (m_before : Nat → Int32) (m_refused : Nat → Int32) (m_quiet : Int32) (m_text : Nat → Int32) (m_typed : Int32) (m_at : Int32) (m_start : Int32) (m_token : Int32) (m_value : Int32) (m_items : Nat → Int32) (m_many : Int32) (m_is : Nat → Int32) (m_likes : Nat → Int32) (m_without : Int32) (m_onePicture : Int32) (m_oneYear : Int32) (m_first : Int32) (m_second : Int32) (m_names : Nat → Int32) (p1 : Int32) (y : Int32) (hf : f_X9_isHead m_book p1 = some y) : cx_M l yX9_isHead cX9_isHead 2 (some .boolean) 2 D k [.ref (m_a 0), .int p1] (wd_Model k m_a m_limbs m_wide m_book m_images m_kept m_before m_refused m_quiet m_text m_typed m_at m_start m_token m_value m_items m_many m_is m_likes m_without m_onePicture m_oneYear m_first m_second m_names) (fun sz => cx_Qi D y (wd_Model k m_a m_limbs m_wide m_book m_images m_kept m_before m_refused m_quiet m_text m_typed m_at m_start m_token m_value m_items m_many m_is m_likes m_without m_onePicture m_oneYear m_first m_second m_names) (wd_Model k m_a m_limbs m_wide m_book m_images m_kept m_before m_refused m_quiet m_text m_typed m_at m_start m_token m_value m_items m_many m_is m_likes m_without m_onePicture m_oneYear m_first m_second m_names) sz) := by
  refine cx_met (own := "NamelessBoxModel") (by decide) rfl (Nat.le_of_ble_eq_true rfl) ?_
  intro p e s m args below meth c A Q C hA hQ hr hlk
  refine cx_lv (lv' := [(0, .ref (m_a 0)), (1, .int p1)]) [0, 1] rfl ?_
  unfold f_X9_isHead at hf
  refine cx_iload_n C dX9_isHead_0 1 rfl ?_
  refine cx_i2l C dX9_isHead_1 ?_
  refine cx_lconst (v := 0) C dX9_isHead_2 (by decide) ?_
  refine cx_aload_n C dX9_isHead_3 0 rfl ?_
  refine cx_get (v := .ref (m_a 3)) (ci := 8) C iX9 dX9_isHead_4 0 rfl rfl 2 (by decide) hw_1056 rfl ?_
  refine cx_iconst (v := 2) C dX9_isHead_7 (by decide) ?_
  obtain ⟨g1, hf⟩ := cx_gd_at hf
  refine cx_iald C dX9_isHead_8 3 rfl (cx_ib_in g1) ?_
  clear g1
  refine cx_iconst (v := 1) C dX9_isHead_9 (by decide) ?_
  refine cx_isub C dX9_isHead_10 ?_
  refine cx_i2l C dX9_isHead_11 ?_
  obtain ⟨u2, e3, hf⟩ := cx_bd_at hf
  refine cx_Ksi (As := [.long (Int32.toInt64 p1), .long 0, .long (Int32.toInt64 ((m_book (cx_ix 2)) - 1))]) (rest := []) hA C me_X9_in hw_1132 (c_X9_in l D k (Int32.toInt64 p1) 0 (Int32.toInt64 ((m_book (cx_ix 2)) - 1)) u2 e3) dX9_isHead_12 ⟨Nat.le_of_ble_eq_true rfl, Nat.le_of_ble_eq_true rfl⟩ ⟨Nat.zero_le _, Nat.zero_le _⟩ rfl rfl (Nat.le_of_ble_eq_true rfl) [] rfl (by decide) ?_
  clear e3
  obtain ⟨b4, hf⟩ := cx_gd_at hf
  obtain rfl := Option.some.inj hf
  exact cx_zret C hA hQ hr hlk dX9_isHead_15 (cx_nz (of_decide_eq_true b4)).1 rfl rfl
theorem dX9_ofPerson_0 : decode cX9_ofPerson 0 = .ok (.aload_n 0, 1) := by decide +kernel
theorem dX9_ofPerson_1 : decode cX9_ofPerson 1 = .ok (.getfield 51, 3) := by decide +kernel
theorem dX9_ofPerson_4 : decode cX9_ofPerson 4 = .ok (.bipush 8, 2) := by decide +kernel
theorem dX9_ofPerson_6 : decode cX9_ofPerson 6 = .ok (.bipush 6, 2) := by decide +kernel
theorem dX9_ofPerson_8 : decode cX9_ofPerson 8 = .ok (.iload_n 1, 1) := by decide +kernel
theorem dX9_ofPerson_9 : decode cX9_ofPerson 9 = .ok (.imul, 1) := by decide +kernel
theorem dX9_ofPerson_10 : decode cX9_ofPerson 10 = .ok (.iadd, 1) := by decide +kernel
theorem dX9_ofPerson_11 : decode cX9_ofPerson 11 = .ok (.iload_n 2, 1) := by decide +kernel
theorem dX9_ofPerson_12 : decode cX9_ofPerson 12 = .ok (.iadd, 1) := by decide +kernel
theorem dX9_ofPerson_13 : decode cX9_ofPerson 13 = .ok (.iaload, 1) := by decide +kernel
theorem dX9_ofPerson_14 : decode cX9_ofPerson 14 = .ok (.ireturn, 1) := by decide +kernel
theorem me_X9_ofPerson : cx_Mv yX9_ofPerson cX9_ofPerson 3 (some .int) 2 := ⟨⟨⟨by decide +kernel, by decide +kernel, by decide +kernel⟩, hw_11, hw_1160⟩, hw_1159, hs_43⟩
noncomputable def f_X9_ofPerson (m_book : Nat → Int32) (p1 : Int32) (p2 : Int32) : Option Int32 := cx_gd (cx_ib ((8 + (6 * p1)) + p2) 140) (some (m_book (cx_ix ((8 + (6 * p1)) + p2))))
set_option maxHeartbeats 4000000 in
set_option maxRecDepth 100000 in
theorem c_X9_ofPerson (l : Launch) (D : va_G) (k : Nat → ClassId) (m_a : Nat → Nat) (m_limbs : Nat → Int32) (m_wide : Nat → Int32) (m_book : Nat → Int32) (m_images : Nat → Int32) (m_kept : Nat → Int32) (m_before : Nat → Int32) (m_refused : Nat → Int32) (m_quiet : Int32) (m_text : Nat → Int32) (m_typed : Int32) (m_at : Int32) (m_start : Int32) (m_token : Int32) (m_value : Int32) (m_items : Nat → Int32) (m_many : Int32) (m_is : Nat → Int32) (m_likes : Nat → Int32) (m_without : Int32) (m_onePicture : Int32) (m_oneYear : Int32) (m_first : Int32) (m_second : Int32) (m_names : Nat → Int32) (p1 : Int32) (p2 : Int32) (y : Int32) (hf : f_X9_ofPerson m_book p1 p2 = some y) : cx_M l yX9_ofPerson cX9_ofPerson 3 (some .int) 1 D k [.ref (m_a 0), .int p1, .int p2] (wd_Model k m_a m_limbs m_wide m_book m_images m_kept m_before m_refused m_quiet m_text m_typed m_at m_start m_token m_value m_items m_many m_is m_likes m_without m_onePicture m_oneYear m_first m_second m_names) (fun sz => cx_Qi D y (wd_Model k m_a m_limbs m_wide m_book m_images m_kept m_before m_refused m_quiet m_text m_typed m_at m_start m_token m_value m_items m_many m_is m_likes m_without m_onePicture m_oneYear m_first m_second m_names) (wd_Model k m_a m_limbs m_wide m_book m_images m_kept m_before m_refused m_quiet m_text m_typed m_at m_start m_token m_value m_items m_many m_is m_likes m_without m_onePicture m_oneYear m_first m_second m_names) sz) := by
  refine cx_met (own := "NamelessBoxModel") (by decide) rfl (Nat.le_of_ble_eq_true rfl) ?_
  intro p e s m args below meth c A Q C hA hQ hr hlk
  refine cx_lv (lv' := [(0, .ref (m_a 0)), (1, .int p1), (2, .int p2)]) [0, 1, 2] rfl ?_
  unfold f_X9_ofPerson at hf
  refine cx_aload_n C dX9_ofPerson_0 0 rfl ?_
  refine cx_get (v := .ref (m_a 3)) (ci := 8) C iX9 dX9_ofPerson_1 0 rfl rfl 2 (by decide) hw_1056 rfl ?_
  refine cx_bipush (v := 8) C dX9_ofPerson_4 (by decide) ?_
  refine cx_bipush (v := 6) C dX9_ofPerson_6 (by decide) ?_
  refine cx_iload_n C dX9_ofPerson_8 1 rfl ?_
  refine cx_imul C dX9_ofPerson_9 ?_
  refine cx_iadd C dX9_ofPerson_10 ?_
  refine cx_iload_n C dX9_ofPerson_11 2 rfl ?_
  refine cx_iadd C dX9_ofPerson_12 ?_
  obtain ⟨g1, hf⟩ := cx_gd_at hf
  refine cx_iald C dX9_ofPerson_13 3 rfl (cx_ib_in g1) ?_
  clear g1
  obtain rfl := Option.some.inj hf
  exact cx_iret C hA hQ hr hlk dX9_ofPerson_14 rfl rfl
theorem dX9_ofHead_0 : decode cX9_ofHead 0 = .ok (.aload_n 0, 1) := by decide +kernel
theorem dX9_ofHead_1 : decode cX9_ofHead 1 = .ok (.getfield 51, 3) := by decide +kernel
theorem dX9_ofHead_4 : decode cX9_ofHead 4 = .ok (.bipush 50, 2) := by decide +kernel
theorem dX9_ofHead_6 : decode cX9_ofHead 6 = .ok (.iconst 5, 1) := by decide +kernel
theorem dX9_ofHead_7 : decode cX9_ofHead 7 = .ok (.iload_n 1, 1) := by decide +kernel
theorem dX9_ofHead_8 : decode cX9_ofHead 8 = .ok (.imul, 1) := by decide +kernel
theorem dX9_ofHead_9 : decode cX9_ofHead 9 = .ok (.iadd, 1) := by decide +kernel
theorem dX9_ofHead_10 : decode cX9_ofHead 10 = .ok (.iload_n 2, 1) := by decide +kernel
theorem dX9_ofHead_11 : decode cX9_ofHead 11 = .ok (.iadd, 1) := by decide +kernel
theorem dX9_ofHead_12 : decode cX9_ofHead 12 = .ok (.iaload, 1) := by decide +kernel
theorem dX9_ofHead_13 : decode cX9_ofHead 13 = .ok (.ireturn, 1) := by decide +kernel
theorem me_X9_ofHead : cx_Mv yX9_ofHead cX9_ofHead 3 (some .int) 2 := ⟨⟨⟨by decide +kernel, by decide +kernel, by decide +kernel⟩, hw_11, hw_1194⟩, hw_1193, hs_46⟩
noncomputable def f_X9_ofHead (m_book : Nat → Int32) (p1 : Int32) (p2 : Int32) : Option Int32 := cx_gd (cx_ib ((50 + (5 * p1)) + p2) 140) (some (m_book (cx_ix ((50 + (5 * p1)) + p2))))
set_option maxHeartbeats 4000000 in
set_option maxRecDepth 100000 in
theorem c_X9_ofHead (l : Launch) (D : va_G) (k : Nat → ClassId) (m_a : Nat → Nat) (m_limbs : Nat → Int32) (m_wide : Nat → Int32) (m_book : Nat → Int32) (m_images : Nat → Int32) (m_kept : Nat → Int32) (m_before : Nat → Int32) (m_refused : Nat → Int32) (m_quiet : Int32) (m_text : Nat → Int32) (m_typed : Int32) (m_at : Int32) (m_start : Int32) (m_token : Int32) (m_value : Int32) (m_items : Nat → Int32) (m_many : Int32) (m_is : Nat → Int32) (m_likes : Nat → Int32) (m_without : Int32) (m_onePicture : Int32) (m_oneYear : Int32) (m_first : Int32) (m_second : Int32) (m_names : Nat → Int32) (p1 : Int32) (p2 : Int32) (y : Int32) (hf : f_X9_ofHead m_book p1 p2 = some y) : cx_M l yX9_ofHead cX9_ofHead 3 (some .int) 1 D k [.ref (m_a 0), .int p1, .int p2] (wd_Model k m_a m_limbs m_wide m_book m_images m_kept m_before m_refused m_quiet m_text m_typed m_at m_start m_token m_value m_items m_many m_is m_likes m_without m_onePicture m_oneYear m_first m_second m_names) (fun sz => cx_Qi D y (wd_Model k m_a m_limbs m_wide m_book m_images m_kept m_before m_refused m_quiet m_text m_typed m_at m_start m_token m_value m_items m_many m_is m_likes m_without m_onePicture m_oneYear m_first m_second m_names) (wd_Model k m_a m_limbs m_wide m_book m_images m_kept m_before m_refused m_quiet m_text m_typed m_at m_start m_token m_value m_items m_many m_is m_likes m_without m_onePicture m_oneYear m_first m_second m_names) sz) := by
  refine cx_met (own := "NamelessBoxModel") (by decide) rfl (Nat.le_of_ble_eq_true rfl) ?_
  intro p e s m args below meth c A Q C hA hQ hr hlk
  refine cx_lv (lv' := [(0, .ref (m_a 0)), (1, .int p1), (2, .int p2)]) [0, 1, 2] rfl ?_
  unfold f_X9_ofHead at hf
  refine cx_aload_n C dX9_ofHead_0 0 rfl ?_
  refine cx_get (v := .ref (m_a 3)) (ci := 8) C iX9 dX9_ofHead_1 0 rfl rfl 2 (by decide) hw_1056 rfl ?_
  refine cx_bipush (v := 50) C dX9_ofHead_4 (by decide) ?_
  refine cx_iconst (v := 5) C dX9_ofHead_6 (by decide) ?_
  refine cx_iload_n C dX9_ofHead_7 1 rfl ?_
  refine cx_imul C dX9_ofHead_8 ?_
  refine cx_iadd C dX9_ofHead_9 ?_
  refine cx_iload_n C dX9_ofHead_10 2 rfl ?_
  refine cx_iadd C dX9_ofHead_11 ?_
  obtain ⟨g1, hf⟩ := cx_gd_at hf
  refine cx_iald C dX9_ofHead_12 3 rfl (cx_ib_in g1) ?_
  clear g1
  obtain rfl := Option.some.inj hf
  exact cx_iret C hA hQ hr hlk dX9_ofHead_13 rfl rfl
theorem dX9_person_0 : decode cX9_person 0 = .ok (.iload_n 1, 1) := by decide +kernel
theorem dX9_person_1 : decode cX9_person 1 = .ok (.i2l, 1) := by decide +kernel
theorem dX9_person_2 : decode cX9_person 2 = .ok (.lconst 0, 1) := by decide +kernel
theorem dX9_person_3 : decode cX9_person 3 = .ok (.ldc2_w 93, 3) := by decide +kernel
theorem dX9_person_6 : decode cX9_person 6 = .ok (.invokestatic 89, 3) := by decide +kernel
theorem dX9_person_9 : decode cX9_person 9 = .ok (.ifCond .eq 41, 3) := by decide +kernel
theorem dX9_person_12 : decode cX9_person 12 = .ok (.iload_n 2, 1) := by decide +kernel
theorem dX9_person_13 : decode cX9_person 13 = .ok (.i2l, 1) := by decide +kernel
theorem dX9_person_14 : decode cX9_person 14 = .ok (.iload_n 1, 1) := by decide +kernel
theorem dX9_person_15 : decode cX9_person 15 = .ok (.i2l, 1) := by decide +kernel
theorem dX9_person_16 : decode cX9_person 16 = .ok (.ldc2_w 95, 3) := by decide +kernel
theorem dX9_person_19 : decode cX9_person 19 = .ok (.invokestatic 89, 3) := by decide +kernel
theorem dX9_person_22 : decode cX9_person 22 = .ok (.ifCond .eq 28, 3) := by decide +kernel
theorem dX9_person_25 : decode cX9_person 25 = .ok (.iload_n 3, 1) := by decide +kernel
theorem dX9_person_26 : decode cX9_person 26 = .ok (.i2l, 1) := by decide +kernel
theorem dX9_person_27 : decode cX9_person 27 = .ok (.lconst 0, 1) := by decide +kernel
theorem dX9_person_28 : decode cX9_person 28 = .ok (.ldc2_w 97, 3) := by decide +kernel
theorem dX9_person_31 : decode cX9_person 31 = .ok (.invokestatic 89, 3) := by decide +kernel
theorem dX9_person_34 : decode cX9_person 34 = .ok (.ifCond .eq 16, 3) := by decide +kernel
theorem dX9_person_37 : decode cX9_person 37 = .ok (.iload 4, 2) := by decide +kernel
theorem dX9_person_39 : decode cX9_person 39 = .ok (.i2l, 1) := by decide +kernel
theorem dX9_person_40 : decode cX9_person 40 = .ok (.lconst 0, 1) := by decide +kernel
theorem dX9_person_41 : decode cX9_person 41 = .ok (.ldc2_w 97, 3) := by decide +kernel
theorem dX9_person_44 : decode cX9_person 44 = .ok (.invokestatic 89, 3) := by decide +kernel
theorem dX9_person_47 : decode cX9_person 47 = .ok (.ifCond .ne 8, 3) := by decide +kernel
theorem dX9_person_50 : decode cX9_person 50 = .ok (.aload_n 0, 1) := by decide +kernel
theorem dX9_person_51 : decode cX9_person 51 = .ok (.invokevirtual 99, 3) := by decide +kernel
theorem dX9_person_54 : decode cX9_person 54 = .ok (.ireturn, 1) := by decide +kernel
theorem dX9_person_55 : decode cX9_person 55 = .ok (.aload_n 0, 1) := by decide +kernel
theorem dX9_person_56 : decode cX9_person 56 = .ok (.getfield 51, 3) := by decide +kernel
theorem dX9_person_59 : decode cX9_person 59 = .ok (.iconst 0, 1) := by decide +kernel
theorem dX9_person_60 : decode cX9_person 60 = .ok (.iaload, 1) := by decide +kernel
theorem dX9_person_61 : decode cX9_person 61 = .ok (.iconst 5, 1) := by decide +kernel
theorem dX9_person_62 : decode cX9_person 62 = .ok (.if_icmp .ne 8, 3) := by decide +kernel
theorem dX9_person_65 : decode cX9_person 65 = .ok (.aload_n 0, 1) := by decide +kernel
theorem dX9_person_66 : decode cX9_person 66 = .ok (.invokevirtual 103, 3) := by decide +kernel
theorem dX9_person_69 : decode cX9_person 69 = .ok (.ireturn, 1) := by decide +kernel
theorem dX9_person_70 : decode cX9_person 70 = .ok (.bipush 8, 2) := by decide +kernel
theorem dX9_person_72 : decode cX9_person 72 = .ok (.bipush 6, 2) := by decide +kernel
theorem dX9_person_74 : decode cX9_person 74 = .ok (.aload_n 0, 1) := by decide +kernel
theorem dX9_person_75 : decode cX9_person 75 = .ok (.getfield 51, 3) := by decide +kernel
theorem dX9_person_78 : decode cX9_person 78 = .ok (.iconst 0, 1) := by decide +kernel
theorem dX9_person_79 : decode cX9_person 79 = .ok (.iaload, 1) := by decide +kernel
theorem dX9_person_80 : decode cX9_person 80 = .ok (.imul, 1) := by decide +kernel
theorem dX9_person_81 : decode cX9_person 81 = .ok (.iadd, 1) := by decide +kernel
theorem dX9_person_82 : decode cX9_person 82 = .ok (.istore 5, 2) := by decide +kernel
theorem dX9_person_84 : decode cX9_person 84 = .ok (.aload_n 0, 1) := by decide +kernel
theorem dX9_person_85 : decode cX9_person 85 = .ok (.getfield 51, 3) := by decide +kernel
theorem dX9_person_88 : decode cX9_person 88 = .ok (.iload 5, 2) := by decide +kernel
theorem dX9_person_90 : decode cX9_person 90 = .ok (.iload_n 1, 1) := by decide +kernel
theorem dX9_person_91 : decode cX9_person 91 = .ok (.iastore, 1) := by decide +kernel
theorem dX9_person_92 : decode cX9_person 92 = .ok (.aload_n 0, 1) := by decide +kernel
theorem dX9_person_93 : decode cX9_person 93 = .ok (.getfield 51, 3) := by decide +kernel
theorem dX9_person_96 : decode cX9_person 96 = .ok (.iload 5, 2) := by decide +kernel
theorem dX9_person_98 : decode cX9_person 98 = .ok (.iconst 1, 1) := by decide +kernel
theorem dX9_person_99 : decode cX9_person 99 = .ok (.iadd, 1) := by decide +kernel
theorem dX9_person_100 : decode cX9_person 100 = .ok (.iload_n 2, 1) := by decide +kernel
theorem dX9_person_101 : decode cX9_person 101 = .ok (.iastore, 1) := by decide +kernel
theorem dX9_person_102 : decode cX9_person 102 = .ok (.aload_n 0, 1) := by decide +kernel
theorem dX9_person_103 : decode cX9_person 103 = .ok (.getfield 51, 3) := by decide +kernel
theorem dX9_person_106 : decode cX9_person 106 = .ok (.iload 5, 2) := by decide +kernel
theorem dX9_person_108 : decode cX9_person 108 = .ok (.iconst 2, 1) := by decide +kernel
theorem dX9_person_109 : decode cX9_person 109 = .ok (.iadd, 1) := by decide +kernel
theorem dX9_person_110 : decode cX9_person 110 = .ok (.iload_n 3, 1) := by decide +kernel
theorem dX9_person_111 : decode cX9_person 111 = .ok (.iastore, 1) := by decide +kernel
theorem dX9_person_112 : decode cX9_person 112 = .ok (.aload_n 0, 1) := by decide +kernel
theorem dX9_person_113 : decode cX9_person 113 = .ok (.getfield 51, 3) := by decide +kernel
theorem dX9_person_116 : decode cX9_person 116 = .ok (.iload 5, 2) := by decide +kernel
theorem dX9_person_118 : decode cX9_person 118 = .ok (.iconst 3, 1) := by decide +kernel
theorem dX9_person_119 : decode cX9_person 119 = .ok (.iadd, 1) := by decide +kernel
theorem dX9_person_120 : decode cX9_person 120 = .ok (.iload 4, 2) := by decide +kernel
theorem dX9_person_122 : decode cX9_person 122 = .ok (.iastore, 1) := by decide +kernel
theorem dX9_person_123 : decode cX9_person 123 = .ok (.aload_n 0, 1) := by decide +kernel
theorem dX9_person_124 : decode cX9_person 124 = .ok (.getfield 51, 3) := by decide +kernel
theorem dX9_person_127 : decode cX9_person 127 = .ok (.iload 5, 2) := by decide +kernel
theorem dX9_person_129 : decode cX9_person 129 = .ok (.iconst 4, 1) := by decide +kernel
theorem dX9_person_130 : decode cX9_person 130 = .ok (.iadd, 1) := by decide +kernel
theorem dX9_person_131 : decode cX9_person 131 = .ok (.iconst (-1), 1) := by decide +kernel
theorem dX9_person_132 : decode cX9_person 132 = .ok (.iastore, 1) := by decide +kernel
theorem dX9_person_133 : decode cX9_person 133 = .ok (.aload_n 0, 1) := by decide +kernel
theorem dX9_person_134 : decode cX9_person 134 = .ok (.getfield 51, 3) := by decide +kernel
theorem dX9_person_137 : decode cX9_person 137 = .ok (.iload 5, 2) := by decide +kernel
theorem dX9_person_139 : decode cX9_person 139 = .ok (.iconst 5, 1) := by decide +kernel
theorem dX9_person_140 : decode cX9_person 140 = .ok (.iadd, 1) := by decide +kernel
theorem dX9_person_141 : decode cX9_person 141 = .ok (.iconst 2, 1) := by decide +kernel
theorem dX9_person_142 : decode cX9_person 142 = .ok (.iastore, 1) := by decide +kernel
theorem dX9_person_143 : decode cX9_person 143 = .ok (.aload_n 0, 1) := by decide +kernel
theorem dX9_person_144 : decode cX9_person 144 = .ok (.getfield 51, 3) := by decide +kernel
theorem dX9_person_147 : decode cX9_person 147 = .ok (.iconst 0, 1) := by decide +kernel
theorem dX9_person_148 : decode cX9_person 148 = .ok (.dup2, 1) := by decide +kernel
theorem dX9_person_149 : decode cX9_person 149 = .ok (.iaload, 1) := by decide +kernel
theorem dX9_person_150 : decode cX9_person 150 = .ok (.iconst 1, 1) := by decide +kernel
theorem dX9_person_151 : decode cX9_person 151 = .ok (.iadd, 1) := by decide +kernel
theorem dX9_person_152 : decode cX9_person 152 = .ok (.iastore, 1) := by decide +kernel
theorem dX9_person_153 : decode cX9_person 153 = .ok (.aload_n 0, 1) := by decide +kernel
theorem dX9_person_154 : decode cX9_person 154 = .ok (.getfield 51, 3) := by decide +kernel
theorem dX9_person_157 : decode cX9_person 157 = .ok (.iconst 0, 1) := by decide +kernel
theorem dX9_person_158 : decode cX9_person 158 = .ok (.iaload, 1) := by decide +kernel
theorem dX9_person_159 : decode cX9_person 159 = .ok (.iconst 1, 1) := by decide +kernel
theorem dX9_person_160 : decode cX9_person 160 = .ok (.isub, 1) := by decide +kernel
theorem dX9_person_161 : decode cX9_person 161 = .ok (.ireturn, 1) := by decide +kernel
theorem me_X9_person : cx_Mv yX9_person cX9_person 6 (some .int) 4 := ⟨⟨⟨by decide +kernel, by decide +kernel, by decide +kernel⟩, hw_11, hw_1130⟩, hw_1128, hw_1129⟩
noncomputable def f_X9_person_J50 (m_book : Nat → Int32) (m_refused : Nat → Int32) (m_quiet : Int32) : Option (Int32 × (Nat → Int32) × (Nat → Int32)) := Option.bind (f_X9_bad m_refused m_quiet) (fun u4 => some ((u4.1, m_book, u4.2)))
noncomputable def f_X9_person (m_book : Nat → Int32) (m_refused : Nat → Int32) (m_quiet : Int32) (p1 : Int32) (p2 : Int32) (p3 : Int32) (p4 : Int32) : Option (Int32 × (Nat → Int32) × (Nat → Int32)) := Option.bind (f_X9_in (Int32.toInt64 p1) 0 99) (fun u1 => if u1 = 0 then (f_X9_person_J50 m_book m_refused m_quiet) else (Option.bind (f_X9_in (Int32.toInt64 p2) (Int32.toInt64 p1) 100) (fun u6 => if u6 = 0 then (f_X9_person_J50 m_book m_refused m_quiet) else (Option.bind (f_X9_in (Int32.toInt64 p3) 0 15) (fun u9 => if u9 = 0 then (f_X9_person_J50 m_book m_refused m_quiet) else (Option.bind (f_X9_in (Int32.toInt64 p4) 0 15) (fun u12 => if u12 = 0 then (f_X9_person_J50 m_book m_refused m_quiet) else (cx_gd (cx_ib 0 140) (if (m_book (cx_ix 0)) = 5 then (Option.bind (f_X9_full m_refused m_quiet) (fun u35 => some ((u35.1, m_book, u35.2)))) else (cx_gd (cx_ib 0 140) (cx_let (8 + (6 * (m_book (cx_ix 0)))) (fun v18 => cx_gd (cx_ib v18 140) (cx_let (upd m_book (cx_ix v18) p1) (fun a20 => cx_gd (cx_ib (v18 + 1) 140) (cx_let (upd a20 (cx_ix (v18 + 1)) p2) (fun a22 => cx_gd (cx_ib (v18 + 2) 140) (cx_let (upd a22 (cx_ix (v18 + 2)) p3) (fun a24 => cx_gd (cx_ib (v18 + 3) 140) (cx_let (upd a24 (cx_ix (v18 + 3)) p4) (fun a26 => cx_gd (cx_ib (v18 + 4) 140) (cx_let (upd a26 (cx_ix (v18 + 4)) ((-1))) (fun a28 => cx_gd (cx_ib (v18 + 5) 140) (cx_let (upd a28 (cx_ix (v18 + 5)) 2) (fun a30 => cx_gd (cx_ib 0 140) (cx_gd (cx_ib 0 140) (cx_let (upd a30 (cx_ix 0) ((a30 (cx_ix 0)) + 1)) (fun a33 => cx_gd (cx_ib 0 140) (some (((a33 (cx_ix 0)) - 1, a33, m_refused))))))))))))))))))))))))))))))
set_option maxHeartbeats 4000000 in
set_option maxRecDepth 100000 in
theorem c_X9_person (l : Launch) (D : va_G) (k : Nat → ClassId) (m_a : Nat → Nat) (m_limbs : Nat → Int32) (m_wide : Nat → Int32) (m_book : Nat → Int32) (m_images : Nat → Int32) (m_kept : Nat → Int32) (m_before : Nat → Int32) (m_refused : Nat → Int32) (m_quiet : Int32) (m_text : Nat → Int32) (m_typed : Int32) (m_at : Int32) (m_start : Int32) (m_token : Int32) (m_value : Int32) (m_items : Nat → Int32) (m_many : Int32) (m_is : Nat → Int32) (m_likes : Nat → Int32) (m_without : Int32) (m_onePicture : Int32) (m_oneYear : Int32) (m_first : Int32) (m_second : Int32) (m_names : Nat → Int32) (p1 : Int32) (p2 : Int32) (p3 : Int32) (p4 : Int32) (y : Int32 × (Nat → Int32) × (Nat → Int32)) (hf : f_X9_person m_book m_refused m_quiet p1 p2 p3 p4 = some y) : cx_M l yX9_person cX9_person 6 (some .int) 3 D k [.ref (m_a 0), .int p1, .int p2, .int p3, .int p4] (wd_Model k m_a m_limbs m_wide m_book m_images m_kept m_before m_refused m_quiet m_text m_typed m_at m_start m_token m_value m_items m_many m_is m_likes m_without m_onePicture m_oneYear m_first m_second m_names) (fun sz => cx_Qi D y.1 (wd_Model k m_a m_limbs m_wide m_book m_images m_kept m_before m_refused m_quiet m_text m_typed m_at m_start m_token m_value m_items m_many m_is m_likes m_without m_onePicture m_oneYear m_first m_second m_names) (wd_Model k m_a m_limbs m_wide y.2.1 m_images m_kept m_before y.2.2 m_quiet m_text m_typed m_at m_start m_token m_value m_items m_many m_is m_likes m_without m_onePicture m_oneYear m_first m_second m_names) sz) := by
  refine cx_met (own := "NamelessBoxModel") (by decide) rfl (Nat.le_of_ble_eq_true rfl) ?_
  intro p e s m args below meth c A Q C hA hQ hr hlk
  refine cx_lv (lv' := [(0, .ref (m_a 0)), (1, .int p1), (2, .int p2), (3, .int p3), (4, .int p4)]) [0, 1, 2, 3, 4] rfl ?_
  have J50 : f_X9_person_J50 m_book m_refused m_quiet = some y → cx_S p l e (cx_rm 3) s m args below meth c A D 6 0 0 Q 50 [(0, .ref (m_a 0))] [] (wd_Model k m_a m_limbs m_wide m_book m_images m_kept m_before m_refused m_quiet m_text m_typed m_at m_start m_token m_value m_items m_many m_is m_likes m_without m_onePicture m_oneYear m_first m_second m_names) := by
    intro  hf
    unfold f_X9_person_J50 at hf
    refine cx_aload_n C dX9_person_50 0 rfl ?_
    obtain ⟨u4, e5, hf⟩ := cx_bd_at hf
    refine cx_Fvi (q := (RX9, TX9, 24)) (As := []) (rest := []) (w1 := (wd_Model k m_a m_limbs m_wide m_book m_images m_kept m_before u4.2 m_quiet m_text m_typed m_at m_start m_token m_value m_items m_many m_is m_likes m_without m_onePicture m_oneYear m_first m_second m_names)) hA C me_X9_bad hw_1137 (c_X9_bad l D k m_a m_limbs m_wide m_book m_images m_kept m_before m_refused m_quiet m_text m_typed m_at m_start m_token m_value m_items m_many m_is m_likes m_without m_onePicture m_oneYear m_first m_second m_names u4 e5) dX9_person_51 ⟨Nat.le_of_ble_eq_true rfl, Nat.le_of_ble_eq_true rfl⟩ ⟨Nat.zero_le _, Nat.zero_le _⟩ rfl rfl (Nat.le_of_ble_eq_true rfl) rfl rfl rfl ?_
    clear e5
    obtain rfl := Option.some.inj hf
    exact cx_iret C hA hQ hr hlk dX9_person_54 rfl rfl
  unfold f_X9_person at hf
  refine cx_iload_n C dX9_person_0 1 rfl ?_
  refine cx_i2l C dX9_person_1 ?_
  refine cx_lconst (v := 0) C dX9_person_2 (by decide) ?_
  refine cx_ldc2 (v := 99) C dX9_person_3 hw_1131 ?_
  obtain ⟨u1, e2, hf⟩ := cx_bd_at hf
  refine cx_Ksi (As := [.long (Int32.toInt64 p1), .long 0, .long 99]) (rest := []) hA C me_X9_in hw_1132 (c_X9_in l D k (Int32.toInt64 p1) 0 99 u1 e2) dX9_person_6 ⟨Nat.le_of_ble_eq_true rfl, Nat.le_of_ble_eq_true rfl⟩ ⟨Nat.zero_le _, Nat.zero_le _⟩ rfl rfl (Nat.le_of_ble_eq_true rfl) [] rfl (by decide) ?_
  clear e2
  refine cx_if_eq (tgt := 50) C dX9_person_9 (by decide) (fun c3 => ?_) (fun c3 => ?_)
  · have hf := cx_if_t hf c3
    clear c3
    refine cx_lv [0] rfl ?_
    exact J50 hf
  · have hf := cx_if_f hf c3
    clear c3
    refine cx_iload_n C dX9_person_12 2 rfl ?_
    refine cx_i2l C dX9_person_13 ?_
    refine cx_iload_n C dX9_person_14 1 rfl ?_
    refine cx_i2l C dX9_person_15 ?_
    refine cx_ldc2 (v := 100) C dX9_person_16 hw_1135 ?_
    obtain ⟨u6, e7, hf⟩ := cx_bd_at hf
    refine cx_Ksi (As := [.long (Int32.toInt64 p2), .long (Int32.toInt64 p1), .long 100]) (rest := []) hA C me_X9_in hw_1132 (c_X9_in l D k (Int32.toInt64 p2) (Int32.toInt64 p1) 100 u6 e7) dX9_person_19 ⟨Nat.le_of_ble_eq_true rfl, Nat.le_of_ble_eq_true rfl⟩ ⟨Nat.zero_le _, Nat.zero_le _⟩ rfl rfl (Nat.le_of_ble_eq_true rfl) [] rfl (by decide) ?_
    clear e7
    refine cx_if_eq (tgt := 50) C dX9_person_22 (by decide) (fun c8 => ?_) (fun c8 => ?_)
    · have hf := cx_if_t hf c8
      clear c8
      refine cx_lv [0] rfl ?_
      exact J50 hf
    · have hf := cx_if_f hf c8
      clear c8
      refine cx_iload_n C dX9_person_25 3 rfl ?_
      refine cx_i2l C dX9_person_26 ?_
      refine cx_lconst (v := 0) C dX9_person_27 (by decide) ?_
      refine cx_ldc2 (v := 15) C dX9_person_28 hw_1136 ?_
      obtain ⟨u9, e10, hf⟩ := cx_bd_at hf
      refine cx_Ksi (As := [.long (Int32.toInt64 p3), .long 0, .long 15]) (rest := []) hA C me_X9_in hw_1132 (c_X9_in l D k (Int32.toInt64 p3) 0 15 u9 e10) dX9_person_31 ⟨Nat.le_of_ble_eq_true rfl, Nat.le_of_ble_eq_true rfl⟩ ⟨Nat.zero_le _, Nat.zero_le _⟩ rfl rfl (Nat.le_of_ble_eq_true rfl) [] rfl (by decide) ?_
      clear e10
      refine cx_if_eq (tgt := 50) C dX9_person_34 (by decide) (fun c11 => ?_) (fun c11 => ?_)
      · have hf := cx_if_t hf c11
        clear c11
        refine cx_lv [0] rfl ?_
        exact J50 hf
      · have hf := cx_if_f hf c11
        clear c11
        refine cx_iload C dX9_person_37 4 rfl ?_
        refine cx_i2l C dX9_person_39 ?_
        refine cx_lconst (v := 0) C dX9_person_40 (by decide) ?_
        refine cx_ldc2 (v := 15) C dX9_person_41 hw_1136 ?_
        obtain ⟨u12, e13, hf⟩ := cx_bd_at hf
        refine cx_Ksi (As := [.long (Int32.toInt64 p4), .long 0, .long 15]) (rest := []) hA C me_X9_in hw_1132 (c_X9_in l D k (Int32.toInt64 p4) 0 15 u12 e13) dX9_person_44 ⟨Nat.le_of_ble_eq_true rfl, Nat.le_of_ble_eq_true rfl⟩ ⟨Nat.zero_le _, Nat.zero_le _⟩ rfl rfl (Nat.le_of_ble_eq_true rfl) [] rfl (by decide) ?_
        clear e13
        refine cx_if_ne (tgt := 55) C dX9_person_47 (by decide) (fun c14 => ?_) (fun c14 => ?_)
        · have hf := cx_if_f hf c14
          clear c14
          refine cx_aload_n C dX9_person_55 0 rfl ?_
          refine cx_get (v := .ref (m_a 3)) (ci := 8) C iX9 dX9_person_56 0 rfl rfl 2 (by decide) hw_1056 rfl ?_
          refine cx_iconst (v := 0) C dX9_person_59 (by decide) ?_
          obtain ⟨g15, hf⟩ := cx_gd_at hf
          refine cx_iald C dX9_person_60 3 rfl (cx_ib_in g15) ?_
          clear g15
          refine cx_iconst (v := 5) C dX9_person_61 (by decide) ?_
          refine cx_icmp_ne (tgt := 70) C dX9_person_62 (by decide) (fun c16 => ?_) (fun c16 => ?_)
          · have hf := cx_if_f hf c16
            clear c16
            refine cx_bipush (v := 8) C dX9_person_70 (by decide) ?_
            refine cx_bipush (v := 6) C dX9_person_72 (by decide) ?_
            refine cx_aload_n C dX9_person_74 0 rfl ?_
            refine cx_get (v := .ref (m_a 3)) (ci := 8) C iX9 dX9_person_75 0 rfl rfl 2 (by decide) hw_1056 rfl ?_
            refine cx_iconst (v := 0) C dX9_person_78 (by decide) ?_
            obtain ⟨g17, hf⟩ := cx_gd_at hf
            refine cx_iald C dX9_person_79 3 rfl (cx_ib_in g17) ?_
            clear g17
            refine cx_imul C dX9_person_80 ?_
            refine cx_iadd C dX9_person_81 ?_
            refine cx_topi (fun v18 ev18 => ?_)
            have hf := cx_let_at hf ev18
            clear ev18
            refine cx_istore (lv' := [(5, .int v18), (0, .ref (m_a 0)), (1, .int p1), (2, .int p2), (3, .int p3), (4, .int p4)]) C dX9_person_82 (by decide) rfl ?_
            refine cx_aload_n C dX9_person_84 1 rfl ?_
            refine cx_get (v := .ref (m_a 3)) (ci := 8) C iX9 dX9_person_85 0 rfl rfl 2 (by decide) hw_1056 rfl ?_
            refine cx_iload C dX9_person_88 0 rfl ?_
            refine cx_iload_n C dX9_person_90 2 rfl ?_
            obtain ⟨g19, hf⟩ := cx_gd_at hf
            obtain ⟨a20, ea20⟩ : ∃ z, z = upd m_book (cx_ix v18) p1 := ⟨_, rfl⟩
            have hf := cx_let_at hf ea20
            refine cx_iast (ws' := (wd_Model k m_a m_limbs m_wide a20 m_images m_kept m_before m_refused m_quiet m_text m_typed m_at m_start m_token m_value m_items m_many m_is m_likes m_without m_onePicture m_oneYear m_first m_second m_names)) C dX9_person_91 3 rfl (cx_ib_in g19) (by rw [ea20]; rfl) ?_
            clear ea20 g19
            refine cx_aload_n C dX9_person_92 1 rfl ?_
            refine cx_get (v := .ref (m_a 3)) (ci := 8) C iX9 dX9_person_93 0 rfl rfl 2 (by decide) hw_1056 rfl ?_
            refine cx_iload C dX9_person_96 0 rfl ?_
            refine cx_iconst (v := 1) C dX9_person_98 (by decide) ?_
            refine cx_iadd C dX9_person_99 ?_
            refine cx_iload_n C dX9_person_100 3 rfl ?_
            obtain ⟨g21, hf⟩ := cx_gd_at hf
            obtain ⟨a22, ea22⟩ : ∃ z, z = upd a20 (cx_ix (v18 + 1)) p2 := ⟨_, rfl⟩
            have hf := cx_let_at hf ea22
            refine cx_iast (ws' := (wd_Model k m_a m_limbs m_wide a22 m_images m_kept m_before m_refused m_quiet m_text m_typed m_at m_start m_token m_value m_items m_many m_is m_likes m_without m_onePicture m_oneYear m_first m_second m_names)) C dX9_person_101 3 rfl (cx_ib_in g21) (by rw [ea22]; rfl) ?_
            clear ea22 g21
            refine cx_aload_n C dX9_person_102 1 rfl ?_
            refine cx_get (v := .ref (m_a 3)) (ci := 8) C iX9 dX9_person_103 0 rfl rfl 2 (by decide) hw_1056 rfl ?_
            refine cx_iload C dX9_person_106 0 rfl ?_
            refine cx_iconst (v := 2) C dX9_person_108 (by decide) ?_
            refine cx_iadd C dX9_person_109 ?_
            refine cx_iload_n C dX9_person_110 4 rfl ?_
            obtain ⟨g23, hf⟩ := cx_gd_at hf
            obtain ⟨a24, ea24⟩ : ∃ z, z = upd a22 (cx_ix (v18 + 2)) p3 := ⟨_, rfl⟩
            have hf := cx_let_at hf ea24
            refine cx_iast (ws' := (wd_Model k m_a m_limbs m_wide a24 m_images m_kept m_before m_refused m_quiet m_text m_typed m_at m_start m_token m_value m_items m_many m_is m_likes m_without m_onePicture m_oneYear m_first m_second m_names)) C dX9_person_111 3 rfl (cx_ib_in g23) (by rw [ea24]; rfl) ?_
            clear ea24 g23
            refine cx_aload_n C dX9_person_112 1 rfl ?_
            refine cx_get (v := .ref (m_a 3)) (ci := 8) C iX9 dX9_person_113 0 rfl rfl 2 (by decide) hw_1056 rfl ?_
            refine cx_iload C dX9_person_116 0 rfl ?_
            refine cx_iconst (v := 3) C dX9_person_118 (by decide) ?_
            refine cx_iadd C dX9_person_119 ?_
            refine cx_iload C dX9_person_120 5 rfl ?_
            obtain ⟨g25, hf⟩ := cx_gd_at hf
            obtain ⟨a26, ea26⟩ : ∃ z, z = upd a24 (cx_ix (v18 + 3)) p4 := ⟨_, rfl⟩
            have hf := cx_let_at hf ea26
            refine cx_iast (ws' := (wd_Model k m_a m_limbs m_wide a26 m_images m_kept m_before m_refused m_quiet m_text m_typed m_at m_start m_token m_value m_items m_many m_is m_likes m_without m_onePicture m_oneYear m_first m_second m_names)) C dX9_person_122 3 rfl (cx_ib_in g25) (by rw [ea26]; rfl) ?_
            clear ea26 g25
            refine cx_aload_n C dX9_person_123 1 rfl ?_
            refine cx_get (v := .ref (m_a 3)) (ci := 8) C iX9 dX9_person_124 0 rfl rfl 2 (by decide) hw_1056 rfl ?_
            refine cx_iload C dX9_person_127 0 rfl ?_
            refine cx_iconst (v := 4) C dX9_person_129 (by decide) ?_
            refine cx_iadd C dX9_person_130 ?_
            refine cx_iconst (v := (-1)) C dX9_person_131 (by decide) ?_
            obtain ⟨g27, hf⟩ := cx_gd_at hf
            obtain ⟨a28, ea28⟩ : ∃ z, z = upd a26 (cx_ix (v18 + 4)) ((-1)) := ⟨_, rfl⟩
            have hf := cx_let_at hf ea28
            refine cx_iast (ws' := (wd_Model k m_a m_limbs m_wide a28 m_images m_kept m_before m_refused m_quiet m_text m_typed m_at m_start m_token m_value m_items m_many m_is m_likes m_without m_onePicture m_oneYear m_first m_second m_names)) C dX9_person_132 3 rfl (cx_ib_in g27) (by rw [ea28]; rfl) ?_
            clear ea28 g27
            refine cx_aload_n C dX9_person_133 1 rfl ?_
            refine cx_get (v := .ref (m_a 3)) (ci := 8) C iX9 dX9_person_134 0 rfl rfl 2 (by decide) hw_1056 rfl ?_
            refine cx_iload C dX9_person_137 0 rfl ?_
            refine cx_iconst (v := 5) C dX9_person_139 (by decide) ?_
            refine cx_iadd C dX9_person_140 ?_
            refine cx_iconst (v := 2) C dX9_person_141 (by decide) ?_
            obtain ⟨g29, hf⟩ := cx_gd_at hf
            obtain ⟨a30, ea30⟩ : ∃ z, z = upd a28 (cx_ix (v18 + 5)) 2 := ⟨_, rfl⟩
            have hf := cx_let_at hf ea30
            refine cx_iast (ws' := (wd_Model k m_a m_limbs m_wide a30 m_images m_kept m_before m_refused m_quiet m_text m_typed m_at m_start m_token m_value m_items m_many m_is m_likes m_without m_onePicture m_oneYear m_first m_second m_names)) C dX9_person_142 3 rfl (cx_ib_in g29) (by rw [ea30]; rfl) ?_
            clear ea30 g29
            refine cx_aload_n C dX9_person_143 1 rfl ?_
            refine cx_get (v := .ref (m_a 3)) (ci := 8) C iX9 dX9_person_144 0 rfl rfl 2 (by decide) hw_1056 rfl ?_
            refine cx_iconst (v := 0) C dX9_person_147 (by decide) ?_
            refine cx_dup2_11 C dX9_person_148 rfl rfl ?_
            obtain ⟨g31, hf⟩ := cx_gd_at hf
            refine cx_iald C dX9_person_149 3 rfl (cx_ib_in g31) ?_
            clear g31
            refine cx_iconst (v := 1) C dX9_person_150 (by decide) ?_
            refine cx_iadd C dX9_person_151 ?_
            obtain ⟨g32, hf⟩ := cx_gd_at hf
            obtain ⟨a33, ea33⟩ : ∃ z, z = upd a30 (cx_ix 0) ((a30 (cx_ix 0)) + 1) := ⟨_, rfl⟩
            have hf := cx_let_at hf ea33
            refine cx_iast (ws' := (wd_Model k m_a m_limbs m_wide a33 m_images m_kept m_before m_refused m_quiet m_text m_typed m_at m_start m_token m_value m_items m_many m_is m_likes m_without m_onePicture m_oneYear m_first m_second m_names)) C dX9_person_152 3 rfl (cx_ib_in g32) (by rw [ea33]; rfl) ?_
            clear ea33 g32
            refine cx_aload_n C dX9_person_153 1 rfl ?_
            refine cx_get (v := .ref (m_a 3)) (ci := 8) C iX9 dX9_person_154 0 rfl rfl 2 (by decide) hw_1056 rfl ?_
            refine cx_iconst (v := 0) C dX9_person_157 (by decide) ?_
            obtain ⟨g34, hf⟩ := cx_gd_at hf
            refine cx_iald C dX9_person_158 3 rfl (cx_ib_in g34) ?_
            clear g34
            refine cx_iconst (v := 1) C dX9_person_159 (by decide) ?_
            refine cx_isub C dX9_person_160 ?_
            obtain rfl := Option.some.inj hf
            exact cx_iret C hA hQ hr hlk dX9_person_161 rfl rfl
          · have hf := cx_if_t hf c16
            clear c16
            refine cx_aload_n C dX9_person_65 0 rfl ?_
            obtain ⟨u35, e36, hf⟩ := cx_bd_at hf
            refine cx_Fvi (q := (RX9, TX9, 24)) (As := []) (rest := []) (w1 := (wd_Model k m_a m_limbs m_wide m_book m_images m_kept m_before u35.2 m_quiet m_text m_typed m_at m_start m_token m_value m_items m_many m_is m_likes m_without m_onePicture m_oneYear m_first m_second m_names)) hA C me_X9_full hw_1145 (c_X9_full l D k m_a m_limbs m_wide m_book m_images m_kept m_before m_refused m_quiet m_text m_typed m_at m_start m_token m_value m_items m_many m_is m_likes m_without m_onePicture m_oneYear m_first m_second m_names u35 e36) dX9_person_66 ⟨Nat.le_of_ble_eq_true rfl, Nat.le_of_ble_eq_true rfl⟩ ⟨Nat.zero_le _, Nat.zero_le _⟩ rfl rfl (Nat.le_of_ble_eq_true rfl) rfl rfl rfl ?_
            clear e36
            obtain rfl := Option.some.inj hf
            exact cx_iret C hA hQ hr hlk dX9_person_69 rfl rfl
        · have hf := cx_if_t hf c14
          clear c14
          refine cx_lv [0] rfl ?_
          exact J50 hf
theorem dX9_parent_0 : decode cX9_parent 0 = .ok (.aload_n 0, 1) := by decide +kernel
theorem dX9_parent_1 : decode cX9_parent 1 = .ok (.iload_n 1, 1) := by decide +kernel
theorem dX9_parent_2 : decode cX9_parent 2 = .ok (.invokevirtual 106, 3) := by decide +kernel
theorem dX9_parent_5 : decode cX9_parent 5 = .ok (.ifCond .eq 25, 3) := by decide +kernel
theorem dX9_parent_8 : decode cX9_parent 8 = .ok (.iload_n 2, 1) := by decide +kernel
theorem dX9_parent_9 : decode cX9_parent 9 = .ok (.iconst (-1), 1) := by decide +kernel
theorem dX9_parent_10 : decode cX9_parent 10 = .ok (.if_icmp .eq 16, 3) := by decide +kernel
theorem dX9_parent_13 : decode cX9_parent 13 = .ok (.iload_n 2, 1) := by decide +kernel
theorem dX9_parent_14 : decode cX9_parent 14 = .ok (.i2l, 1) := by decide +kernel
theorem dX9_parent_15 : decode cX9_parent 15 = .ok (.lconst 0, 1) := by decide +kernel
theorem dX9_parent_16 : decode cX9_parent 16 = .ok (.iload_n 1, 1) := by decide +kernel
theorem dX9_parent_17 : decode cX9_parent 17 = .ok (.iconst 1, 1) := by decide +kernel
theorem dX9_parent_18 : decode cX9_parent 18 = .ok (.isub, 1) := by decide +kernel
theorem dX9_parent_19 : decode cX9_parent 19 = .ok (.i2l, 1) := by decide +kernel
theorem dX9_parent_20 : decode cX9_parent 20 = .ok (.invokestatic 89, 3) := by decide +kernel
theorem dX9_parent_23 : decode cX9_parent 23 = .ok (.ifCond .eq 7, 3) := by decide +kernel
theorem dX9_parent_26 : decode cX9_parent 26 = .ok (.iconst 1, 1) := by decide +kernel
theorem dX9_parent_27 : decode cX9_parent 27 = .ok (.goto 4, 3) := by decide +kernel
theorem dX9_parent_30 : decode cX9_parent 30 = .ok (.iconst 0, 1) := by decide +kernel
theorem dX9_parent_31 : decode cX9_parent 31 = .ok (.istore_n 3, 1) := by decide +kernel
theorem dX9_parent_32 : decode cX9_parent 32 = .ok (.iload_n 3, 1) := by decide +kernel
theorem dX9_parent_33 : decode cX9_parent 33 = .ok (.ifCond .eq 58, 3) := by decide +kernel
theorem dX9_parent_36 : decode cX9_parent 36 = .ok (.iload_n 2, 1) := by decide +kernel
theorem dX9_parent_37 : decode cX9_parent 37 = .ok (.iconst (-1), 1) := by decide +kernel
theorem dX9_parent_38 : decode cX9_parent 38 = .ok (.if_icmp .eq 49, 3) := by decide +kernel
theorem dX9_parent_41 : decode cX9_parent 41 = .ok (.aload_n 0, 1) := by decide +kernel
theorem dX9_parent_42 : decode cX9_parent 42 = .ok (.iload_n 2, 1) := by decide +kernel
theorem dX9_parent_43 : decode cX9_parent 43 = .ok (.ifCond .ge 7, 3) := by decide +kernel
theorem dX9_parent_46 : decode cX9_parent 46 = .ok (.iconst 0, 1) := by decide +kernel
theorem dX9_parent_47 : decode cX9_parent 47 = .ok (.goto 4, 3) := by decide +kernel
theorem dX9_parent_50 : decode cX9_parent 50 = .ok (.iload_n 2, 1) := by decide +kernel
theorem dX9_parent_51 : decode cX9_parent 51 = .ok (.iconst 0, 1) := by decide +kernel
theorem dX9_parent_52 : decode cX9_parent 52 = .ok (.invokevirtual 109, 3) := by decide +kernel
theorem dX9_parent_55 : decode cX9_parent 55 = .ok (.aload_n 0, 1) := by decide +kernel
theorem dX9_parent_56 : decode cX9_parent 56 = .ok (.iload_n 1, 1) := by decide +kernel
theorem dX9_parent_57 : decode cX9_parent 57 = .ok (.iconst 0, 1) := by decide +kernel
theorem dX9_parent_58 : decode cX9_parent 58 = .ok (.invokevirtual 109, 3) := by decide +kernel
theorem dX9_parent_61 : decode cX9_parent 61 = .ok (.if_icmp .ge 30, 3) := by decide +kernel
theorem dX9_parent_64 : decode cX9_parent 64 = .ok (.aload_n 0, 1) := by decide +kernel
theorem dX9_parent_65 : decode cX9_parent 65 = .ok (.iload_n 2, 1) := by decide +kernel
theorem dX9_parent_66 : decode cX9_parent 66 = .ok (.ifCond .ge 7, 3) := by decide +kernel
theorem dX9_parent_69 : decode cX9_parent 69 = .ok (.iconst 0, 1) := by decide +kernel
theorem dX9_parent_70 : decode cX9_parent 70 = .ok (.goto 4, 3) := by decide +kernel
theorem dX9_parent_73 : decode cX9_parent 73 = .ok (.iload_n 2, 1) := by decide +kernel
theorem dX9_parent_74 : decode cX9_parent 74 = .ok (.iconst 1, 1) := by decide +kernel
theorem dX9_parent_75 : decode cX9_parent 75 = .ok (.invokevirtual 109, 3) := by decide +kernel
theorem dX9_parent_78 : decode cX9_parent 78 = .ok (.aload_n 0, 1) := by decide +kernel
theorem dX9_parent_79 : decode cX9_parent 79 = .ok (.iload_n 1, 1) := by decide +kernel
theorem dX9_parent_80 : decode cX9_parent 80 = .ok (.iconst 0, 1) := by decide +kernel
theorem dX9_parent_81 : decode cX9_parent 81 = .ok (.invokevirtual 109, 3) := by decide +kernel
theorem dX9_parent_84 : decode cX9_parent 84 = .ok (.if_icmp .lt 7, 3) := by decide +kernel
theorem dX9_parent_87 : decode cX9_parent 87 = .ok (.iconst 1, 1) := by decide +kernel
theorem dX9_parent_88 : decode cX9_parent 88 = .ok (.goto 4, 3) := by decide +kernel
theorem dX9_parent_91 : decode cX9_parent 91 = .ok (.iconst 0, 1) := by decide +kernel
theorem dX9_parent_92 : decode cX9_parent 92 = .ok (.istore_n 3, 1) := by decide +kernel
theorem dX9_parent_93 : decode cX9_parent 93 = .ok (.iload_n 3, 1) := by decide +kernel
theorem dX9_parent_94 : decode cX9_parent 94 = .ok (.ifCond .ne 11, 3) := by decide +kernel
theorem dX9_parent_97 : decode cX9_parent 97 = .ok (.aload_n 0, 1) := by decide +kernel
theorem dX9_parent_98 : decode cX9_parent 98 = .ok (.iconst 0, 1) := by decide +kernel
theorem dX9_parent_99 : decode cX9_parent 99 = .ok (.bipush (-10), 2) := by decide +kernel
theorem dX9_parent_101 : decode cX9_parent 101 = .ok (.invokevirtual 86, 3) := by decide +kernel
theorem dX9_parent_104 : decode cX9_parent 104 = .ok (.ireturn, 1) := by decide +kernel
theorem dX9_parent_105 : decode cX9_parent 105 = .ok (.aload_n 0, 1) := by decide +kernel
theorem dX9_parent_106 : decode cX9_parent 106 = .ok (.iload_n 1, 1) := by decide +kernel
theorem dX9_parent_107 : decode cX9_parent 107 = .ok (.iconst 4, 1) := by decide +kernel
theorem dX9_parent_108 : decode cX9_parent 108 = .ok (.invokevirtual 109, 3) := by decide +kernel
theorem dX9_parent_111 : decode cX9_parent 111 = .ok (.istore 4, 2) := by decide +kernel
theorem dX9_parent_113 : decode cX9_parent 113 = .ok (.aload_n 0, 1) := by decide +kernel
theorem dX9_parent_114 : decode cX9_parent 114 = .ok (.getfield 51, 3) := by decide +kernel
theorem dX9_parent_117 : decode cX9_parent 117 = .ok (.bipush 8, 2) := by decide +kernel
theorem dX9_parent_119 : decode cX9_parent 119 = .ok (.bipush 6, 2) := by decide +kernel
theorem dX9_parent_121 : decode cX9_parent 121 = .ok (.iload_n 1, 1) := by decide +kernel
theorem dX9_parent_122 : decode cX9_parent 122 = .ok (.imul, 1) := by decide +kernel
theorem dX9_parent_123 : decode cX9_parent 123 = .ok (.iadd, 1) := by decide +kernel
theorem dX9_parent_124 : decode cX9_parent 124 = .ok (.iconst 4, 1) := by decide +kernel
theorem dX9_parent_125 : decode cX9_parent 125 = .ok (.iadd, 1) := by decide +kernel
theorem dX9_parent_126 : decode cX9_parent 126 = .ok (.iload_n 2, 1) := by decide +kernel
theorem dX9_parent_127 : decode cX9_parent 127 = .ok (.iastore, 1) := by decide +kernel
theorem dX9_parent_128 : decode cX9_parent 128 = .ok (.iload 4, 2) := by decide +kernel
theorem dX9_parent_130 : decode cX9_parent 130 = .ok (.ireturn, 1) := by decide +kernel
theorem me_X9_parent : cx_Mv yX9_parent cX9_parent 5 (some .int) 2 := ⟨⟨⟨by decide +kernel, by decide +kernel, by decide +kernel⟩, hw_11, hw_1152⟩, hw_1150, hw_1151⟩
noncomputable def f_X9_parent_J92 (m_book : Nat → Int32) (m_refused : Nat → Int32) (m_quiet : Int32) (p1 : Int32) (p2 : Int32) (s0_6 : Int32) : Option (Int32 × (Nat → Int32) × (Nat → Int32)) := if s0_6 = 0 then (Option.bind (f_X9_refuses m_refused m_quiet 0 ((-10))) (fun u12 => some ((u12.1, m_book, u12.2)))) else (Option.bind (f_X9_ofPerson m_book p1 4) (fun u8 => cx_gd (cx_ib ((8 + (6 * p1)) + 4) 140) (cx_let (upd m_book (cx_ix ((8 + (6 * p1)) + 4)) p2) (fun a11 => some ((u8, a11, m_refused))))))
noncomputable def f_X9_parent_J91 (m_book : Nat → Int32) (m_refused : Nat → Int32) (m_quiet : Int32) (p1 : Int32) (p2 : Int32) : Option (Int32 × (Nat → Int32) × (Nat → Int32)) := f_X9_parent_J92 m_book m_refused m_quiet p1 p2 0
noncomputable def f_X9_parent_J87 (m_book : Nat → Int32) (m_refused : Nat → Int32) (m_quiet : Int32) (p1 : Int32) (p2 : Int32) : Option (Int32 × (Nat → Int32) × (Nat → Int32)) := f_X9_parent_J92 m_book m_refused m_quiet p1 p2 1
noncomputable def f_X9_parent_J74 (m_book : Nat → Int32) (m_refused : Nat → Int32) (m_quiet : Int32) (p1 : Int32) (p2 : Int32) (s1_23 : Int32) : Option (Int32 × (Nat → Int32) × (Nat → Int32)) := Option.bind (f_X9_ofPerson m_book s1_23 1) (fun u24 => Option.bind (f_X9_ofPerson m_book p1 0) (fun u26 => if u24 < u26 then (f_X9_parent_J91 m_book m_refused m_quiet p1 p2) else (f_X9_parent_J87 m_book m_refused m_quiet p1 p2)))
noncomputable def f_X9_parent_J51 (m_book : Nat → Int32) (m_refused : Nat → Int32) (m_quiet : Int32) (p1 : Int32) (p2 : Int32) (s1_16 : Int32) : Option (Int32 × (Nat → Int32) × (Nat → Int32)) := Option.bind (f_X9_ofPerson m_book s1_16 0) (fun u17 => Option.bind (f_X9_ofPerson m_book p1 0) (fun u19 => if u19 ≤ u17 then (f_X9_parent_J91 m_book m_refused m_quiet p1 p2) else (if 0 ≤ p2 then (f_X9_parent_J74 m_book m_refused m_quiet p1 p2 p2) else (f_X9_parent_J74 m_book m_refused m_quiet p1 p2 0))))
noncomputable def f_X9_parent_J31 (m_book : Nat → Int32) (m_refused : Nat → Int32) (m_quiet : Int32) (p1 : Int32) (p2 : Int32) (s0_4 : Int32) : Option (Int32 × (Nat → Int32) × (Nat → Int32)) := if s0_4 = 0 then (f_X9_parent_J91 m_book m_refused m_quiet p1 p2) else (if p2 = ((-1)) then (f_X9_parent_J87 m_book m_refused m_quiet p1 p2) else (if 0 ≤ p2 then (f_X9_parent_J51 m_book m_refused m_quiet p1 p2 p2) else (f_X9_parent_J51 m_book m_refused m_quiet p1 p2 0)))
noncomputable def f_X9_parent_J30 (m_book : Nat → Int32) (m_refused : Nat → Int32) (m_quiet : Int32) (p1 : Int32) (p2 : Int32) : Option (Int32 × (Nat → Int32) × (Nat → Int32)) := f_X9_parent_J31 m_book m_refused m_quiet p1 p2 0
noncomputable def f_X9_parent_J26 (m_book : Nat → Int32) (m_refused : Nat → Int32) (m_quiet : Int32) (p1 : Int32) (p2 : Int32) : Option (Int32 × (Nat → Int32) × (Nat → Int32)) := f_X9_parent_J31 m_book m_refused m_quiet p1 p2 1
noncomputable def f_X9_parent (m_book : Nat → Int32) (m_refused : Nat → Int32) (m_quiet : Int32) (p1 : Int32) (p2 : Int32) : Option (Int32 × (Nat → Int32) × (Nat → Int32)) := Option.bind (f_X9_isPerson m_book p1) (fun u1 => if u1 = 0 then (f_X9_parent_J30 m_book m_refused m_quiet p1 p2) else (if p2 = ((-1)) then (f_X9_parent_J26 m_book m_refused m_quiet p1 p2) else (Option.bind (f_X9_in (Int32.toInt64 p2) 0 (Int32.toInt64 (p1 - 1))) (fun u30 => if u30 = 0 then (f_X9_parent_J30 m_book m_refused m_quiet p1 p2) else (f_X9_parent_J26 m_book m_refused m_quiet p1 p2)))))
set_option maxHeartbeats 4000000 in
set_option maxRecDepth 100000 in
theorem c_X9_parent (l : Launch) (D : va_G) (k : Nat → ClassId) (m_a : Nat → Nat) (m_limbs : Nat → Int32) (m_wide : Nat → Int32) (m_book : Nat → Int32) (m_images : Nat → Int32) (m_kept : Nat → Int32) (m_before : Nat → Int32) (m_refused : Nat → Int32) (m_quiet : Int32) (m_text : Nat → Int32) (m_typed : Int32) (m_at : Int32) (m_start : Int32) (m_token : Int32) (m_value : Int32) (m_items : Nat → Int32) (m_many : Int32) (m_is : Nat → Int32) (m_likes : Nat → Int32) (m_without : Int32) (m_onePicture : Int32) (m_oneYear : Int32) (m_first : Int32) (m_second : Int32) (m_names : Nat → Int32) (p1 : Int32) (p2 : Int32) (y : Int32 × (Nat → Int32) × (Nat → Int32)) (hf : f_X9_parent m_book m_refused m_quiet p1 p2 = some y) : cx_M l yX9_parent cX9_parent 5 (some .int) 3 D k [.ref (m_a 0), .int p1, .int p2] (wd_Model k m_a m_limbs m_wide m_book m_images m_kept m_before m_refused m_quiet m_text m_typed m_at m_start m_token m_value m_items m_many m_is m_likes m_without m_onePicture m_oneYear m_first m_second m_names) (fun sz => cx_Qi D y.1 (wd_Model k m_a m_limbs m_wide m_book m_images m_kept m_before m_refused m_quiet m_text m_typed m_at m_start m_token m_value m_items m_many m_is m_likes m_without m_onePicture m_oneYear m_first m_second m_names) (wd_Model k m_a m_limbs m_wide y.2.1 m_images m_kept m_before y.2.2 m_quiet m_text m_typed m_at m_start m_token m_value m_items m_many m_is m_likes m_without m_onePicture m_oneYear m_first m_second m_names) sz) := by
  refine cx_met (own := "NamelessBoxModel") (by decide) rfl (Nat.le_of_ble_eq_true rfl) ?_
  intro p e s m args below meth c A Q C hA hQ hr hlk
  refine cx_lv (lv' := [(0, .ref (m_a 0)), (1, .int p1), (2, .int p2)]) [0, 1, 2] rfl ?_
  have J92 : ∀ (s0_6 : Int32), f_X9_parent_J92 m_book m_refused m_quiet p1 p2 s0_6 = some y → cx_S p l e (cx_rm 3) s m args below meth c A D 5 0 0 Q 92 [(0, .ref (m_a 0)), (1, .int p1), (2, .int p2)] [.int s0_6] (wd_Model k m_a m_limbs m_wide m_book m_images m_kept m_before m_refused m_quiet m_text m_typed m_at m_start m_token m_value m_items m_many m_is m_likes m_without m_onePicture m_oneYear m_first m_second m_names) := by
    intro s0_6 hf
    unfold f_X9_parent_J92 at hf
    refine cx_istore_n (lv' := [(3, .int s0_6), (0, .ref (m_a 0)), (1, .int p1), (2, .int p2)]) C dX9_parent_92 rfl (by decide) rfl ?_
    refine cx_iload_n C dX9_parent_93 0 rfl ?_
    refine cx_if_ne (tgt := 105) C dX9_parent_94 (by decide) (fun c7 => ?_) (fun c7 => ?_)
    · have hf := cx_if_f hf c7
      clear c7
      refine cx_aload_n C dX9_parent_105 1 rfl ?_
      refine cx_iload_n C dX9_parent_106 2 rfl ?_
      refine cx_iconst (v := 4) C dX9_parent_107 (by decide) ?_
      obtain ⟨u8, e9, hf⟩ := cx_bd_at hf
      refine cx_Fvi (q := (RX9, TX9, 24)) (As := [.int p1, .int 4]) (rest := []) (w1 := (wd_Model k m_a m_limbs m_wide m_book m_images m_kept m_before m_refused m_quiet m_text m_typed m_at m_start m_token m_value m_items m_many m_is m_likes m_without m_onePicture m_oneYear m_first m_second m_names)) hA C me_X9_ofPerson hw_1157 (c_X9_ofPerson l D k m_a m_limbs m_wide m_book m_images m_kept m_before m_refused m_quiet m_text m_typed m_at m_start m_token m_value m_items m_many m_is m_likes m_without m_onePicture m_oneYear m_first m_second m_names p1 4 u8 e9) dX9_parent_108 ⟨Nat.le_of_ble_eq_true rfl, Nat.le_of_ble_eq_true rfl⟩ ⟨Nat.zero_le _, Nat.zero_le _⟩ rfl rfl (Nat.le_of_ble_eq_true rfl) rfl rfl rfl ?_
      clear e9
      refine cx_istore (lv' := [(4, .int u8), (3, .int s0_6), (0, .ref (m_a 0)), (1, .int p1), (2, .int p2)]) C dX9_parent_111 (by decide) rfl ?_
      refine cx_aload_n C dX9_parent_113 2 rfl ?_
      refine cx_get (v := .ref (m_a 3)) (ci := 8) C iX9 dX9_parent_114 0 rfl rfl 2 (by decide) hw_1056 rfl ?_
      refine cx_bipush (v := 8) C dX9_parent_117 (by decide) ?_
      refine cx_bipush (v := 6) C dX9_parent_119 (by decide) ?_
      refine cx_iload_n C dX9_parent_121 3 rfl ?_
      refine cx_imul C dX9_parent_122 ?_
      refine cx_iadd C dX9_parent_123 ?_
      refine cx_iconst (v := 4) C dX9_parent_124 (by decide) ?_
      refine cx_iadd C dX9_parent_125 ?_
      refine cx_iload_n C dX9_parent_126 4 rfl ?_
      obtain ⟨g10, hf⟩ := cx_gd_at hf
      obtain ⟨a11, ea11⟩ : ∃ z, z = upd m_book (cx_ix ((8 + (6 * p1)) + 4)) p2 := ⟨_, rfl⟩
      have hf := cx_let_at hf ea11
      refine cx_iast (ws' := (wd_Model k m_a m_limbs m_wide a11 m_images m_kept m_before m_refused m_quiet m_text m_typed m_at m_start m_token m_value m_items m_many m_is m_likes m_without m_onePicture m_oneYear m_first m_second m_names)) C dX9_parent_127 3 rfl (cx_ib_in g10) (by rw [ea11]; rfl) ?_
      clear ea11 g10
      refine cx_iload C dX9_parent_128 0 rfl ?_
      obtain rfl := Option.some.inj hf
      exact cx_iret C hA hQ hr hlk dX9_parent_130 rfl rfl
    · have hf := cx_if_t hf c7
      clear c7
      refine cx_aload_n C dX9_parent_97 1 rfl ?_
      refine cx_iconst (v := 0) C dX9_parent_98 (by decide) ?_
      refine cx_bipush (v := (-10)) C dX9_parent_99 (by decide) ?_
      obtain ⟨u12, e13, hf⟩ := cx_bd_at hf
      refine cx_Fvi (q := (RX9, TX9, 24)) (As := [.int 0, .int ((-10))]) (rest := []) (w1 := (wd_Model k m_a m_limbs m_wide m_book m_images m_kept m_before u12.2 m_quiet m_text m_typed m_at m_start m_token m_value m_items m_many m_is m_likes m_without m_onePicture m_oneYear m_first m_second m_names)) hA C me_X9_refuses hw_1141 (c_X9_refuses l D k m_a m_limbs m_wide m_book m_images m_kept m_before m_refused m_quiet m_text m_typed m_at m_start m_token m_value m_items m_many m_is m_likes m_without m_onePicture m_oneYear m_first m_second m_names 0 ((-10)) u12 e13) dX9_parent_101 ⟨Nat.le_of_ble_eq_true rfl, Nat.le_of_ble_eq_true rfl⟩ ⟨Nat.zero_le _, Nat.zero_le _⟩ rfl rfl (Nat.le_of_ble_eq_true rfl) rfl rfl rfl ?_
      clear e13
      obtain rfl := Option.some.inj hf
      exact cx_iret C hA hQ hr hlk dX9_parent_104 rfl rfl
  have J91 : f_X9_parent_J91 m_book m_refused m_quiet p1 p2 = some y → cx_S p l e (cx_rm 3) s m args below meth c A D 5 0 0 Q 91 [(0, .ref (m_a 0)), (1, .int p1), (2, .int p2)] [] (wd_Model k m_a m_limbs m_wide m_book m_images m_kept m_before m_refused m_quiet m_text m_typed m_at m_start m_token m_value m_items m_many m_is m_likes m_without m_onePicture m_oneYear m_first m_second m_names) := by
    intro  hf
    unfold f_X9_parent_J91 at hf
    refine cx_iconst (v := 0) C dX9_parent_91 (by decide) ?_
    exact J92 0 hf
  have J87 : f_X9_parent_J87 m_book m_refused m_quiet p1 p2 = some y → cx_S p l e (cx_rm 3) s m args below meth c A D 5 0 0 Q 87 [(0, .ref (m_a 0)), (1, .int p1), (2, .int p2)] [] (wd_Model k m_a m_limbs m_wide m_book m_images m_kept m_before m_refused m_quiet m_text m_typed m_at m_start m_token m_value m_items m_many m_is m_likes m_without m_onePicture m_oneYear m_first m_second m_names) := by
    intro  hf
    unfold f_X9_parent_J87 at hf
    refine cx_iconst (v := 1) C dX9_parent_87 (by decide) ?_
    refine cx_goto (tgt := 92) C dX9_parent_88 (by decide) ?_
    exact J92 1 hf
  have J74 : ∀ (s1_23 : Int32), f_X9_parent_J74 m_book m_refused m_quiet p1 p2 s1_23 = some y → cx_S p l e (cx_rm 3) s m args below meth c A D 5 0 0 Q 74 [(0, .ref (m_a 0)), (1, .int p1), (2, .int p2)] [.int s1_23, .ref (m_a 0)] (wd_Model k m_a m_limbs m_wide m_book m_images m_kept m_before m_refused m_quiet m_text m_typed m_at m_start m_token m_value m_items m_many m_is m_likes m_without m_onePicture m_oneYear m_first m_second m_names) := by
    intro s1_23 hf
    unfold f_X9_parent_J74 at hf
    refine cx_iconst (v := 1) C dX9_parent_74 (by decide) ?_
    obtain ⟨u24, e25, hf⟩ := cx_bd_at hf
    refine cx_Fvi (q := (RX9, TX9, 24)) (As := [.int s1_23, .int 1]) (rest := []) (w1 := (wd_Model k m_a m_limbs m_wide m_book m_images m_kept m_before m_refused m_quiet m_text m_typed m_at m_start m_token m_value m_items m_many m_is m_likes m_without m_onePicture m_oneYear m_first m_second m_names)) hA C me_X9_ofPerson hw_1157 (c_X9_ofPerson l D k m_a m_limbs m_wide m_book m_images m_kept m_before m_refused m_quiet m_text m_typed m_at m_start m_token m_value m_items m_many m_is m_likes m_without m_onePicture m_oneYear m_first m_second m_names s1_23 1 u24 e25) dX9_parent_75 ⟨Nat.le_of_ble_eq_true rfl, Nat.le_of_ble_eq_true rfl⟩ ⟨Nat.zero_le _, Nat.zero_le _⟩ rfl rfl (Nat.le_of_ble_eq_true rfl) rfl rfl rfl ?_
    clear e25
    refine cx_aload_n C dX9_parent_78 0 rfl ?_
    refine cx_iload_n C dX9_parent_79 1 rfl ?_
    refine cx_iconst (v := 0) C dX9_parent_80 (by decide) ?_
    obtain ⟨u26, e27, hf⟩ := cx_bd_at hf
    refine cx_Fvi (q := (RX9, TX9, 24)) (As := [.int p1, .int 0]) (rest := [.int u24]) (w1 := (wd_Model k m_a m_limbs m_wide m_book m_images m_kept m_before m_refused m_quiet m_text m_typed m_at m_start m_token m_value m_items m_many m_is m_likes m_without m_onePicture m_oneYear m_first m_second m_names)) hA C me_X9_ofPerson hw_1157 (c_X9_ofPerson l D k m_a m_limbs m_wide m_book m_images m_kept m_before m_refused m_quiet m_text m_typed m_at m_start m_token m_value m_items m_many m_is m_likes m_without m_onePicture m_oneYear m_first m_second m_names p1 0 u26 e27) dX9_parent_81 ⟨Nat.le_of_ble_eq_true rfl, Nat.le_of_ble_eq_true rfl⟩ ⟨Nat.zero_le _, Nat.zero_le _⟩ rfl rfl (Nat.le_of_ble_eq_true rfl) rfl rfl rfl ?_
    clear e27
    refine cx_icmp_lt (tgt := 91) C dX9_parent_84 (by decide) (fun c28 => ?_) (fun c28 => ?_)
    · have hf := cx_if_t hf c28
      clear c28
      exact J91 hf
    · have hf := cx_if_f hf c28
      clear c28
      exact J87 hf
  have J51 : ∀ (s1_16 : Int32), f_X9_parent_J51 m_book m_refused m_quiet p1 p2 s1_16 = some y → cx_S p l e (cx_rm 3) s m args below meth c A D 5 0 0 Q 51 [(0, .ref (m_a 0)), (1, .int p1), (2, .int p2)] [.int s1_16, .ref (m_a 0)] (wd_Model k m_a m_limbs m_wide m_book m_images m_kept m_before m_refused m_quiet m_text m_typed m_at m_start m_token m_value m_items m_many m_is m_likes m_without m_onePicture m_oneYear m_first m_second m_names) := by
    intro s1_16 hf
    unfold f_X9_parent_J51 at hf
    refine cx_iconst (v := 0) C dX9_parent_51 (by decide) ?_
    obtain ⟨u17, e18, hf⟩ := cx_bd_at hf
    refine cx_Fvi (q := (RX9, TX9, 24)) (As := [.int s1_16, .int 0]) (rest := []) (w1 := (wd_Model k m_a m_limbs m_wide m_book m_images m_kept m_before m_refused m_quiet m_text m_typed m_at m_start m_token m_value m_items m_many m_is m_likes m_without m_onePicture m_oneYear m_first m_second m_names)) hA C me_X9_ofPerson hw_1157 (c_X9_ofPerson l D k m_a m_limbs m_wide m_book m_images m_kept m_before m_refused m_quiet m_text m_typed m_at m_start m_token m_value m_items m_many m_is m_likes m_without m_onePicture m_oneYear m_first m_second m_names s1_16 0 u17 e18) dX9_parent_52 ⟨Nat.le_of_ble_eq_true rfl, Nat.le_of_ble_eq_true rfl⟩ ⟨Nat.zero_le _, Nat.zero_le _⟩ rfl rfl (Nat.le_of_ble_eq_true rfl) rfl rfl rfl ?_
    clear e18
    refine cx_aload_n C dX9_parent_55 0 rfl ?_
    refine cx_iload_n C dX9_parent_56 1 rfl ?_
    refine cx_iconst (v := 0) C dX9_parent_57 (by decide) ?_
    obtain ⟨u19, e20, hf⟩ := cx_bd_at hf
    refine cx_Fvi (q := (RX9, TX9, 24)) (As := [.int p1, .int 0]) (rest := [.int u17]) (w1 := (wd_Model k m_a m_limbs m_wide m_book m_images m_kept m_before m_refused m_quiet m_text m_typed m_at m_start m_token m_value m_items m_many m_is m_likes m_without m_onePicture m_oneYear m_first m_second m_names)) hA C me_X9_ofPerson hw_1157 (c_X9_ofPerson l D k m_a m_limbs m_wide m_book m_images m_kept m_before m_refused m_quiet m_text m_typed m_at m_start m_token m_value m_items m_many m_is m_likes m_without m_onePicture m_oneYear m_first m_second m_names p1 0 u19 e20) dX9_parent_58 ⟨Nat.le_of_ble_eq_true rfl, Nat.le_of_ble_eq_true rfl⟩ ⟨Nat.zero_le _, Nat.zero_le _⟩ rfl rfl (Nat.le_of_ble_eq_true rfl) rfl rfl rfl ?_
    clear e20
    refine cx_icmp_ge (tgt := 91) C dX9_parent_61 (by decide) (fun c21 => ?_) (fun c21 => ?_)
    · have hf := cx_if_t hf c21
      clear c21
      exact J91 hf
    · have hf := cx_if_f hf c21
      clear c21
      refine cx_aload_n C dX9_parent_64 0 rfl ?_
      refine cx_iload_n C dX9_parent_65 2 rfl ?_
      refine cx_if_ge (tgt := 73) C dX9_parent_66 (by decide) (fun c22 => ?_) (fun c22 => ?_)
      · have hf := cx_if_t hf c22
        clear c22
        refine cx_iload_n C dX9_parent_73 2 rfl ?_
        exact J74 p2 hf
      · have hf := cx_if_f hf c22
        clear c22
        refine cx_iconst (v := 0) C dX9_parent_69 (by decide) ?_
        refine cx_goto (tgt := 74) C dX9_parent_70 (by decide) ?_
        exact J74 0 hf
  have J31 : ∀ (s0_4 : Int32), f_X9_parent_J31 m_book m_refused m_quiet p1 p2 s0_4 = some y → cx_S p l e (cx_rm 3) s m args below meth c A D 5 0 0 Q 31 [(0, .ref (m_a 0)), (1, .int p1), (2, .int p2)] [.int s0_4] (wd_Model k m_a m_limbs m_wide m_book m_images m_kept m_before m_refused m_quiet m_text m_typed m_at m_start m_token m_value m_items m_many m_is m_likes m_without m_onePicture m_oneYear m_first m_second m_names) := by
    intro s0_4 hf
    unfold f_X9_parent_J31 at hf
    refine cx_istore_n (lv' := [(3, .int s0_4), (0, .ref (m_a 0)), (1, .int p1), (2, .int p2)]) C dX9_parent_31 rfl (by decide) rfl ?_
    refine cx_iload_n C dX9_parent_32 0 rfl ?_
    refine cx_if_eq (tgt := 91) C dX9_parent_33 (by decide) (fun c5 => ?_) (fun c5 => ?_)
    · have hf := cx_if_t hf c5
      clear c5
      refine cx_lv [1, 2, 3] rfl ?_
      exact J91 hf
    · have hf := cx_if_f hf c5
      clear c5
      refine cx_iload_n C dX9_parent_36 3 rfl ?_
      refine cx_iconst (v := (-1)) C dX9_parent_37 (by decide) ?_
      refine cx_icmp_eq (tgt := 87) C dX9_parent_38 (by decide) (fun c14 => ?_) (fun c14 => ?_)
      · have hf := cx_if_t hf c14
        clear c14
        refine cx_lv [1, 2, 3] rfl ?_
        exact J87 hf
      · have hf := cx_if_f hf c14
        clear c14
        refine cx_aload_n C dX9_parent_41 1 rfl ?_
        refine cx_iload_n C dX9_parent_42 3 rfl ?_
        refine cx_if_ge (tgt := 50) C dX9_parent_43 (by decide) (fun c15 => ?_) (fun c15 => ?_)
        · have hf := cx_if_t hf c15
          clear c15
          refine cx_iload_n C dX9_parent_50 3 rfl ?_
          refine cx_lv [1, 2, 3] rfl ?_
          exact J51 p2 hf
        · have hf := cx_if_f hf c15
          clear c15
          refine cx_iconst (v := 0) C dX9_parent_46 (by decide) ?_
          refine cx_goto (tgt := 51) C dX9_parent_47 (by decide) ?_
          refine cx_lv [1, 2, 3] rfl ?_
          exact J51 0 hf
  have J30 : f_X9_parent_J30 m_book m_refused m_quiet p1 p2 = some y → cx_S p l e (cx_rm 3) s m args below meth c A D 5 0 0 Q 30 [(0, .ref (m_a 0)), (1, .int p1), (2, .int p2)] [] (wd_Model k m_a m_limbs m_wide m_book m_images m_kept m_before m_refused m_quiet m_text m_typed m_at m_start m_token m_value m_items m_many m_is m_likes m_without m_onePicture m_oneYear m_first m_second m_names) := by
    intro  hf
    unfold f_X9_parent_J30 at hf
    refine cx_iconst (v := 0) C dX9_parent_30 (by decide) ?_
    exact J31 0 hf
  have J26 : f_X9_parent_J26 m_book m_refused m_quiet p1 p2 = some y → cx_S p l e (cx_rm 3) s m args below meth c A D 5 0 0 Q 26 [(0, .ref (m_a 0)), (1, .int p1), (2, .int p2)] [] (wd_Model k m_a m_limbs m_wide m_book m_images m_kept m_before m_refused m_quiet m_text m_typed m_at m_start m_token m_value m_items m_many m_is m_likes m_without m_onePicture m_oneYear m_first m_second m_names) := by
    intro  hf
    unfold f_X9_parent_J26 at hf
    refine cx_iconst (v := 1) C dX9_parent_26 (by decide) ?_
    refine cx_goto (tgt := 31) C dX9_parent_27 (by decide) ?_
    exact J31 1 hf
  unfold f_X9_parent at hf
  refine cx_aload_n C dX9_parent_0 0 rfl ?_
  refine cx_iload_n C dX9_parent_1 1 rfl ?_
  obtain ⟨u1, e2, hf⟩ := cx_bd_at hf
  refine cx_Fvi (q := (RX9, TX9, 24)) (As := [.int p1]) (rest := []) (w1 := (wd_Model k m_a m_limbs m_wide m_book m_images m_kept m_before m_refused m_quiet m_text m_typed m_at m_start m_token m_value m_items m_many m_is m_likes m_without m_onePicture m_oneYear m_first m_second m_names)) hA C me_X9_isPerson hw_1153 (c_X9_isPerson l D k m_a m_limbs m_wide m_book m_images m_kept m_before m_refused m_quiet m_text m_typed m_at m_start m_token m_value m_items m_many m_is m_likes m_without m_onePicture m_oneYear m_first m_second m_names p1 u1 e2) dX9_parent_2 ⟨Nat.le_of_ble_eq_true rfl, Nat.le_of_ble_eq_true rfl⟩ ⟨Nat.zero_le _, Nat.zero_le _⟩ rfl rfl (Nat.le_of_ble_eq_true rfl) rfl rfl rfl ?_
  clear e2
  refine cx_if_eq (tgt := 30) C dX9_parent_5 (by decide) (fun c3 => ?_) (fun c3 => ?_)
  · have hf := cx_if_t hf c3
    clear c3
    exact J30 hf
  · have hf := cx_if_f hf c3
    clear c3
    refine cx_iload_n C dX9_parent_8 2 rfl ?_
    refine cx_iconst (v := (-1)) C dX9_parent_9 (by decide) ?_
    refine cx_icmp_eq (tgt := 26) C dX9_parent_10 (by decide) (fun c29 => ?_) (fun c29 => ?_)
    · have hf := cx_if_t hf c29
      clear c29
      exact J26 hf
    · have hf := cx_if_f hf c29
      clear c29
      refine cx_iload_n C dX9_parent_13 2 rfl ?_
      refine cx_i2l C dX9_parent_14 ?_
      refine cx_lconst (v := 0) C dX9_parent_15 (by decide) ?_
      refine cx_iload_n C dX9_parent_16 1 rfl ?_
      refine cx_iconst (v := 1) C dX9_parent_17 (by decide) ?_
      refine cx_isub C dX9_parent_18 ?_
      refine cx_i2l C dX9_parent_19 ?_
      obtain ⟨u30, e31, hf⟩ := cx_bd_at hf
      refine cx_Ksi (As := [.long (Int32.toInt64 p2), .long 0, .long (Int32.toInt64 (p1 - 1))]) (rest := []) hA C me_X9_in hw_1132 (c_X9_in l D k (Int32.toInt64 p2) 0 (Int32.toInt64 (p1 - 1)) u30 e31) dX9_parent_20 ⟨Nat.le_of_ble_eq_true rfl, Nat.le_of_ble_eq_true rfl⟩ ⟨Nat.zero_le _, Nat.zero_le _⟩ rfl rfl (Nat.le_of_ble_eq_true rfl) [] rfl (by decide) ?_
      clear e31
      refine cx_if_eq (tgt := 30) C dX9_parent_23 (by decide) (fun c32 => ?_) (fun c32 => ?_)
      · have hf := cx_if_t hf c32
        clear c32
        exact J30 hf
      · have hf := cx_if_f hf c32
        clear c32
        exact J26 hf
theorem dX9_near_0 : decode cX9_near 0 = .ok (.aload_n 0, 1) := by decide +kernel
theorem dX9_near_1 : decode cX9_near 1 = .ok (.iload_n 1, 1) := by decide +kernel
theorem dX9_near_2 : decode cX9_near 2 = .ok (.invokevirtual 106, 3) := by decide +kernel
theorem dX9_near_5 : decode cX9_near 5 = .ok (.ifCond .eq 15, 3) := by decide +kernel
theorem dX9_near_8 : decode cX9_near 8 = .ok (.iload_n 2, 1) := by decide +kernel
theorem dX9_near_9 : decode cX9_near 9 = .ok (.i2l, 1) := by decide +kernel
theorem dX9_near_10 : decode cX9_near 10 = .ok (.lconst 0, 1) := by decide +kernel
theorem dX9_near_11 : decode cX9_near 11 = .ok (.ldc2_w 112, 3) := by decide +kernel
theorem dX9_near_14 : decode cX9_near 14 = .ok (.invokestatic 89, 3) := by decide +kernel
theorem dX9_near_17 : decode cX9_near 17 = .ok (.ifCond .ne 8, 3) := by decide +kernel
theorem dX9_near_20 : decode cX9_near 20 = .ok (.aload_n 0, 1) := by decide +kernel
theorem dX9_near_21 : decode cX9_near 21 = .ok (.invokevirtual 99, 3) := by decide +kernel
theorem dX9_near_24 : decode cX9_near 24 = .ok (.ireturn, 1) := by decide +kernel
theorem dX9_near_25 : decode cX9_near 25 = .ok (.aload_n 0, 1) := by decide +kernel
theorem dX9_near_26 : decode cX9_near 26 = .ok (.iload_n 1, 1) := by decide +kernel
theorem dX9_near_27 : decode cX9_near 27 = .ok (.iconst 5, 1) := by decide +kernel
theorem dX9_near_28 : decode cX9_near 28 = .ok (.invokevirtual 109, 3) := by decide +kernel
theorem dX9_near_31 : decode cX9_near 31 = .ok (.istore_n 3, 1) := by decide +kernel
theorem dX9_near_32 : decode cX9_near 32 = .ok (.aload_n 0, 1) := by decide +kernel
theorem dX9_near_33 : decode cX9_near 33 = .ok (.getfield 51, 3) := by decide +kernel
theorem dX9_near_36 : decode cX9_near 36 = .ok (.bipush 8, 2) := by decide +kernel
theorem dX9_near_38 : decode cX9_near 38 = .ok (.bipush 6, 2) := by decide +kernel
theorem dX9_near_40 : decode cX9_near 40 = .ok (.iload_n 1, 1) := by decide +kernel
theorem dX9_near_41 : decode cX9_near 41 = .ok (.imul, 1) := by decide +kernel
theorem dX9_near_42 : decode cX9_near 42 = .ok (.iadd, 1) := by decide +kernel
theorem dX9_near_43 : decode cX9_near 43 = .ok (.iconst 5, 1) := by decide +kernel
theorem dX9_near_44 : decode cX9_near 44 = .ok (.iadd, 1) := by decide +kernel
theorem dX9_near_45 : decode cX9_near 45 = .ok (.iload_n 2, 1) := by decide +kernel
theorem dX9_near_46 : decode cX9_near 46 = .ok (.iastore, 1) := by decide +kernel
theorem dX9_near_47 : decode cX9_near 47 = .ok (.iload_n 3, 1) := by decide +kernel
theorem dX9_near_48 : decode cX9_near 48 = .ok (.ireturn, 1) := by decide +kernel
theorem me_X9_near : cx_Mv yX9_near cX9_near 4 (some .int) 2 := ⟨⟨⟨by decide +kernel, by decide +kernel, by decide +kernel⟩, hw_11, hw_1164⟩, hw_1162, hw_1163⟩
noncomputable def f_X9_near_J20 (m_book : Nat → Int32) (m_refused : Nat → Int32) (m_quiet : Int32) : Option (Int32 × (Nat → Int32) × (Nat → Int32)) := Option.bind (f_X9_bad m_refused m_quiet) (fun u4 => some ((u4.1, m_book, u4.2)))
noncomputable def f_X9_near (m_book : Nat → Int32) (m_refused : Nat → Int32) (m_quiet : Int32) (p1 : Int32) (p2 : Int32) : Option (Int32 × (Nat → Int32) × (Nat → Int32)) := Option.bind (f_X9_isPerson m_book p1) (fun u1 => if u1 = 0 then (f_X9_near_J20 m_book m_refused m_quiet) else (Option.bind (f_X9_in (Int32.toInt64 p2) 0 4) (fun u6 => if u6 = 0 then (f_X9_near_J20 m_book m_refused m_quiet) else (Option.bind (f_X9_ofPerson m_book p1 5) (fun u9 => cx_gd (cx_ib ((8 + (6 * p1)) + 5) 140) (cx_let (upd m_book (cx_ix ((8 + (6 * p1)) + 5)) p2) (fun a12 => some ((u9, a12, m_refused)))))))))
set_option maxHeartbeats 4000000 in
set_option maxRecDepth 100000 in
theorem c_X9_near (l : Launch) (D : va_G) (k : Nat → ClassId) (m_a : Nat → Nat) (m_limbs : Nat → Int32) (m_wide : Nat → Int32) (m_book : Nat → Int32) (m_images : Nat → Int32) (m_kept : Nat → Int32) (m_before : Nat → Int32) (m_refused : Nat → Int32) (m_quiet : Int32) (m_text : Nat → Int32) (m_typed : Int32) (m_at : Int32) (m_start : Int32) (m_token : Int32) (m_value : Int32) (m_items : Nat → Int32) (m_many : Int32) (m_is : Nat → Int32) (m_likes : Nat → Int32) (m_without : Int32) (m_onePicture : Int32) (m_oneYear : Int32) (m_first : Int32) (m_second : Int32) (m_names : Nat → Int32) (p1 : Int32) (p2 : Int32) (y : Int32 × (Nat → Int32) × (Nat → Int32)) (hf : f_X9_near m_book m_refused m_quiet p1 p2 = some y) : cx_M l yX9_near cX9_near 4 (some .int) 3 D k [.ref (m_a 0), .int p1, .int p2] (wd_Model k m_a m_limbs m_wide m_book m_images m_kept m_before m_refused m_quiet m_text m_typed m_at m_start m_token m_value m_items m_many m_is m_likes m_without m_onePicture m_oneYear m_first m_second m_names) (fun sz => cx_Qi D y.1 (wd_Model k m_a m_limbs m_wide m_book m_images m_kept m_before m_refused m_quiet m_text m_typed m_at m_start m_token m_value m_items m_many m_is m_likes m_without m_onePicture m_oneYear m_first m_second m_names) (wd_Model k m_a m_limbs m_wide y.2.1 m_images m_kept m_before y.2.2 m_quiet m_text m_typed m_at m_start m_token m_value m_items m_many m_is m_likes m_without m_onePicture m_oneYear m_first m_second m_names) sz) := by
  refine cx_met (own := "NamelessBoxModel") (by decide) rfl (Nat.le_of_ble_eq_true rfl) ?_
  intro p e s m args below meth c A Q C hA hQ hr hlk
  refine cx_lv (lv' := [(0, .ref (m_a 0)), (1, .int p1), (2, .int p2)]) [0, 1, 2] rfl ?_
  have J20 : f_X9_near_J20 m_book m_refused m_quiet = some y → cx_S p l e (cx_rm 3) s m args below meth c A D 4 0 0 Q 20 [(0, .ref (m_a 0))] [] (wd_Model k m_a m_limbs m_wide m_book m_images m_kept m_before m_refused m_quiet m_text m_typed m_at m_start m_token m_value m_items m_many m_is m_likes m_without m_onePicture m_oneYear m_first m_second m_names) := by
    intro  hf
    unfold f_X9_near_J20 at hf
    refine cx_aload_n C dX9_near_20 0 rfl ?_
    obtain ⟨u4, e5, hf⟩ := cx_bd_at hf
    refine cx_Fvi (q := (RX9, TX9, 24)) (As := []) (rest := []) (w1 := (wd_Model k m_a m_limbs m_wide m_book m_images m_kept m_before u4.2 m_quiet m_text m_typed m_at m_start m_token m_value m_items m_many m_is m_likes m_without m_onePicture m_oneYear m_first m_second m_names)) hA C me_X9_bad hw_1137 (c_X9_bad l D k m_a m_limbs m_wide m_book m_images m_kept m_before m_refused m_quiet m_text m_typed m_at m_start m_token m_value m_items m_many m_is m_likes m_without m_onePicture m_oneYear m_first m_second m_names u4 e5) dX9_near_21 ⟨Nat.le_of_ble_eq_true rfl, Nat.le_of_ble_eq_true rfl⟩ ⟨Nat.zero_le _, Nat.zero_le _⟩ rfl rfl (Nat.le_of_ble_eq_true rfl) rfl rfl rfl ?_
    clear e5
    obtain rfl := Option.some.inj hf
    exact cx_iret C hA hQ hr hlk dX9_near_24 rfl rfl
  unfold f_X9_near at hf
  refine cx_aload_n C dX9_near_0 0 rfl ?_
  refine cx_iload_n C dX9_near_1 1 rfl ?_
  obtain ⟨u1, e2, hf⟩ := cx_bd_at hf
  refine cx_Fvi (q := (RX9, TX9, 24)) (As := [.int p1]) (rest := []) (w1 := (wd_Model k m_a m_limbs m_wide m_book m_images m_kept m_before m_refused m_quiet m_text m_typed m_at m_start m_token m_value m_items m_many m_is m_likes m_without m_onePicture m_oneYear m_first m_second m_names)) hA C me_X9_isPerson hw_1153 (c_X9_isPerson l D k m_a m_limbs m_wide m_book m_images m_kept m_before m_refused m_quiet m_text m_typed m_at m_start m_token m_value m_items m_many m_is m_likes m_without m_onePicture m_oneYear m_first m_second m_names p1 u1 e2) dX9_near_2 ⟨Nat.le_of_ble_eq_true rfl, Nat.le_of_ble_eq_true rfl⟩ ⟨Nat.zero_le _, Nat.zero_le _⟩ rfl rfl (Nat.le_of_ble_eq_true rfl) rfl rfl rfl ?_
  clear e2
  refine cx_if_eq (tgt := 20) C dX9_near_5 (by decide) (fun c3 => ?_) (fun c3 => ?_)
  · have hf := cx_if_t hf c3
    clear c3
    refine cx_lv [0] rfl ?_
    exact J20 hf
  · have hf := cx_if_f hf c3
    clear c3
    refine cx_iload_n C dX9_near_8 2 rfl ?_
    refine cx_i2l C dX9_near_9 ?_
    refine cx_lconst (v := 0) C dX9_near_10 (by decide) ?_
    refine cx_ldc2 (v := 4) C dX9_near_11 hw_1165 ?_
    obtain ⟨u6, e7, hf⟩ := cx_bd_at hf
    refine cx_Ksi (As := [.long (Int32.toInt64 p2), .long 0, .long 4]) (rest := []) hA C me_X9_in hw_1132 (c_X9_in l D k (Int32.toInt64 p2) 0 4 u6 e7) dX9_near_14 ⟨Nat.le_of_ble_eq_true rfl, Nat.le_of_ble_eq_true rfl⟩ ⟨Nat.zero_le _, Nat.zero_le _⟩ rfl rfl (Nat.le_of_ble_eq_true rfl) [] rfl (by decide) ?_
    clear e7
    refine cx_if_ne (tgt := 25) C dX9_near_17 (by decide) (fun c8 => ?_) (fun c8 => ?_)
    · have hf := cx_if_f hf c8
      clear c8
      refine cx_aload_n C dX9_near_25 0 rfl ?_
      refine cx_iload_n C dX9_near_26 1 rfl ?_
      refine cx_iconst (v := 5) C dX9_near_27 (by decide) ?_
      obtain ⟨u9, e10, hf⟩ := cx_bd_at hf
      refine cx_Fvi (q := (RX9, TX9, 24)) (As := [.int p1, .int 5]) (rest := []) (w1 := (wd_Model k m_a m_limbs m_wide m_book m_images m_kept m_before m_refused m_quiet m_text m_typed m_at m_start m_token m_value m_items m_many m_is m_likes m_without m_onePicture m_oneYear m_first m_second m_names)) hA C me_X9_ofPerson hw_1157 (c_X9_ofPerson l D k m_a m_limbs m_wide m_book m_images m_kept m_before m_refused m_quiet m_text m_typed m_at m_start m_token m_value m_items m_many m_is m_likes m_without m_onePicture m_oneYear m_first m_second m_names p1 5 u9 e10) dX9_near_28 ⟨Nat.le_of_ble_eq_true rfl, Nat.le_of_ble_eq_true rfl⟩ ⟨Nat.zero_le _, Nat.zero_le _⟩ rfl rfl (Nat.le_of_ble_eq_true rfl) rfl rfl rfl ?_
      clear e10
      refine cx_istore_n (lv' := [(3, .int u9), (0, .ref (m_a 0)), (1, .int p1), (2, .int p2)]) C dX9_near_31 rfl (by decide) rfl ?_
      refine cx_aload_n C dX9_near_32 1 rfl ?_
      refine cx_get (v := .ref (m_a 3)) (ci := 8) C iX9 dX9_near_33 0 rfl rfl 2 (by decide) hw_1056 rfl ?_
      refine cx_bipush (v := 8) C dX9_near_36 (by decide) ?_
      refine cx_bipush (v := 6) C dX9_near_38 (by decide) ?_
      refine cx_iload_n C dX9_near_40 2 rfl ?_
      refine cx_imul C dX9_near_41 ?_
      refine cx_iadd C dX9_near_42 ?_
      refine cx_iconst (v := 5) C dX9_near_43 (by decide) ?_
      refine cx_iadd C dX9_near_44 ?_
      refine cx_iload_n C dX9_near_45 3 rfl ?_
      obtain ⟨g11, hf⟩ := cx_gd_at hf
      obtain ⟨a12, ea12⟩ : ∃ z, z = upd m_book (cx_ix ((8 + (6 * p1)) + 5)) p2 := ⟨_, rfl⟩
      have hf := cx_let_at hf ea12
      refine cx_iast (ws' := (wd_Model k m_a m_limbs m_wide a12 m_images m_kept m_before m_refused m_quiet m_text m_typed m_at m_start m_token m_value m_items m_many m_is m_likes m_without m_onePicture m_oneYear m_first m_second m_names)) C dX9_near_46 3 rfl (cx_ib_in g11) (by rw [ea12]; rfl) ?_
      clear ea12 g11
      refine cx_iload_n C dX9_near_47 0 rfl ?_
      obtain rfl := Option.some.inj hf
      exact cx_iret C hA hQ hr hlk dX9_near_48 rfl rfl
    · have hf := cx_if_t hf c8
      clear c8
      refine cx_lv [0] rfl ?_
      exact J20 hf
theorem dX9_picture_0 : decode cX9_picture 0 = .ok (.iload_n 1, 1) := by decide +kernel
theorem dX9_picture_1 : decode cX9_picture 1 = .ok (.i2l, 1) := by decide +kernel
theorem dX9_picture_2 : decode cX9_picture 2 = .ok (.lconst 0, 1) := by decide +kernel
theorem dX9_picture_3 : decode cX9_picture 3 = .ok (.ldc2_w 93, 3) := by decide +kernel
theorem dX9_picture_6 : decode cX9_picture 6 = .ok (.invokestatic 89, 3) := by decide +kernel
theorem dX9_picture_9 : decode cX9_picture 9 = .ok (.ifCond .eq 24, 3) := by decide +kernel
theorem dX9_picture_12 : decode cX9_picture 12 = .ok (.iload_n 2, 1) := by decide +kernel
theorem dX9_picture_13 : decode cX9_picture 13 = .ok (.i2l, 1) := by decide +kernel
theorem dX9_picture_14 : decode cX9_picture 14 = .ok (.iload_n 1, 1) := by decide +kernel
theorem dX9_picture_15 : decode cX9_picture 15 = .ok (.i2l, 1) := by decide +kernel
theorem dX9_picture_16 : decode cX9_picture 16 = .ok (.ldc2_w 93, 3) := by decide +kernel
theorem dX9_picture_19 : decode cX9_picture 19 = .ok (.invokestatic 89, 3) := by decide +kernel
theorem dX9_picture_22 : decode cX9_picture 22 = .ok (.ifCond .eq 11, 3) := by decide +kernel
theorem dX9_picture_25 : decode cX9_picture 25 = .ok (.iload_n 2, 1) := by decide +kernel
theorem dX9_picture_26 : decode cX9_picture 26 = .ok (.iload_n 1, 1) := by decide +kernel
theorem dX9_picture_27 : decode cX9_picture 27 = .ok (.isub, 1) := by decide +kernel
theorem dX9_picture_28 : decode cX9_picture 28 = .ok (.bipush 11, 2) := by decide +kernel
theorem dX9_picture_30 : decode cX9_picture 30 = .ok (.if_icmp .le 8, 3) := by decide +kernel
theorem dX9_picture_33 : decode cX9_picture 33 = .ok (.aload_n 0, 1) := by decide +kernel
theorem dX9_picture_34 : decode cX9_picture 34 = .ok (.invokevirtual 99, 3) := by decide +kernel
theorem dX9_picture_37 : decode cX9_picture 37 = .ok (.ireturn, 1) := by decide +kernel
theorem dX9_picture_38 : decode cX9_picture 38 = .ok (.aload_n 0, 1) := by decide +kernel
theorem dX9_picture_39 : decode cX9_picture 39 = .ok (.getfield 51, 3) := by decide +kernel
theorem dX9_picture_42 : decode cX9_picture 42 = .ok (.iconst 1, 1) := by decide +kernel
theorem dX9_picture_43 : decode cX9_picture 43 = .ok (.iaload, 1) := by decide +kernel
theorem dX9_picture_44 : decode cX9_picture 44 = .ok (.iconst 4, 1) := by decide +kernel
theorem dX9_picture_45 : decode cX9_picture 45 = .ok (.if_icmp .ne 8, 3) := by decide +kernel
theorem dX9_picture_48 : decode cX9_picture 48 = .ok (.aload_n 0, 1) := by decide +kernel
theorem dX9_picture_49 : decode cX9_picture 49 = .ok (.invokevirtual 103, 3) := by decide +kernel
theorem dX9_picture_52 : decode cX9_picture 52 = .ok (.ireturn, 1) := by decide +kernel
theorem dX9_picture_53 : decode cX9_picture 53 = .ok (.aload_n 0, 1) := by decide +kernel
theorem dX9_picture_54 : decode cX9_picture 54 = .ok (.getfield 51, 3) := by decide +kernel
theorem dX9_picture_57 : decode cX9_picture 57 = .ok (.bipush 40, 2) := by decide +kernel
theorem dX9_picture_59 : decode cX9_picture 59 = .ok (.iconst 2, 1) := by decide +kernel
theorem dX9_picture_60 : decode cX9_picture 60 = .ok (.aload_n 0, 1) := by decide +kernel
theorem dX9_picture_61 : decode cX9_picture 61 = .ok (.getfield 51, 3) := by decide +kernel
theorem dX9_picture_64 : decode cX9_picture 64 = .ok (.iconst 1, 1) := by decide +kernel
theorem dX9_picture_65 : decode cX9_picture 65 = .ok (.iaload, 1) := by decide +kernel
theorem dX9_picture_66 : decode cX9_picture 66 = .ok (.imul, 1) := by decide +kernel
theorem dX9_picture_67 : decode cX9_picture 67 = .ok (.iadd, 1) := by decide +kernel
theorem dX9_picture_68 : decode cX9_picture 68 = .ok (.iload_n 1, 1) := by decide +kernel
theorem dX9_picture_69 : decode cX9_picture 69 = .ok (.iastore, 1) := by decide +kernel
theorem dX9_picture_70 : decode cX9_picture 70 = .ok (.aload_n 0, 1) := by decide +kernel
theorem dX9_picture_71 : decode cX9_picture 71 = .ok (.getfield 51, 3) := by decide +kernel
theorem dX9_picture_74 : decode cX9_picture 74 = .ok (.bipush 40, 2) := by decide +kernel
theorem dX9_picture_76 : decode cX9_picture 76 = .ok (.iconst 2, 1) := by decide +kernel
theorem dX9_picture_77 : decode cX9_picture 77 = .ok (.aload_n 0, 1) := by decide +kernel
theorem dX9_picture_78 : decode cX9_picture 78 = .ok (.getfield 51, 3) := by decide +kernel
theorem dX9_picture_81 : decode cX9_picture 81 = .ok (.iconst 1, 1) := by decide +kernel
theorem dX9_picture_82 : decode cX9_picture 82 = .ok (.iaload, 1) := by decide +kernel
theorem dX9_picture_83 : decode cX9_picture 83 = .ok (.imul, 1) := by decide +kernel
theorem dX9_picture_84 : decode cX9_picture 84 = .ok (.iadd, 1) := by decide +kernel
theorem dX9_picture_85 : decode cX9_picture 85 = .ok (.iconst 1, 1) := by decide +kernel
theorem dX9_picture_86 : decode cX9_picture 86 = .ok (.iadd, 1) := by decide +kernel
theorem dX9_picture_87 : decode cX9_picture 87 = .ok (.iload_n 2, 1) := by decide +kernel
theorem dX9_picture_88 : decode cX9_picture 88 = .ok (.iastore, 1) := by decide +kernel
theorem dX9_picture_89 : decode cX9_picture 89 = .ok (.aload_n 0, 1) := by decide +kernel
theorem dX9_picture_90 : decode cX9_picture 90 = .ok (.getfield 51, 3) := by decide +kernel
theorem dX9_picture_93 : decode cX9_picture 93 = .ok (.iconst 1, 1) := by decide +kernel
theorem dX9_picture_94 : decode cX9_picture 94 = .ok (.dup2, 1) := by decide +kernel
theorem dX9_picture_95 : decode cX9_picture 95 = .ok (.iaload, 1) := by decide +kernel
theorem dX9_picture_96 : decode cX9_picture 96 = .ok (.iconst 1, 1) := by decide +kernel
theorem dX9_picture_97 : decode cX9_picture 97 = .ok (.iadd, 1) := by decide +kernel
theorem dX9_picture_98 : decode cX9_picture 98 = .ok (.iastore, 1) := by decide +kernel
theorem dX9_picture_99 : decode cX9_picture 99 = .ok (.aload_n 0, 1) := by decide +kernel
theorem dX9_picture_100 : decode cX9_picture 100 = .ok (.getfield 51, 3) := by decide +kernel
theorem dX9_picture_103 : decode cX9_picture 103 = .ok (.iconst 1, 1) := by decide +kernel
theorem dX9_picture_104 : decode cX9_picture 104 = .ok (.iaload, 1) := by decide +kernel
theorem dX9_picture_105 : decode cX9_picture 105 = .ok (.iconst 1, 1) := by decide +kernel
theorem dX9_picture_106 : decode cX9_picture 106 = .ok (.isub, 1) := by decide +kernel
theorem dX9_picture_107 : decode cX9_picture 107 = .ok (.ireturn, 1) := by decide +kernel
theorem me_X9_picture : cx_Mv yX9_picture cX9_picture 3 (some .int) 2 := ⟨⟨⟨by decide +kernel, by decide +kernel, by decide +kernel⟩, hw_11, hw_1169⟩, hw_1167, hw_1168⟩
noncomputable def f_X9_picture_J33 (m_book : Nat → Int32) (m_refused : Nat → Int32) (m_quiet : Int32) : Option (Int32 × (Nat → Int32) × (Nat → Int32)) := Option.bind (f_X9_bad m_refused m_quiet) (fun u4 => some ((u4.1, m_book, u4.2)))
noncomputable def f_X9_picture (m_book : Nat → Int32) (m_refused : Nat → Int32) (m_quiet : Int32) (p1 : Int32) (p2 : Int32) : Option (Int32 × (Nat → Int32) × (Nat → Int32)) := Option.bind (f_X9_in (Int32.toInt64 p1) 0 99) (fun u1 => if u1 = 0 then (f_X9_picture_J33 m_book m_refused m_quiet) else (Option.bind (f_X9_in (Int32.toInt64 p2) (Int32.toInt64 p1) 99) (fun u6 => if u6 = 0 then (f_X9_picture_J33 m_book m_refused m_quiet) else (if (p2 - p1) ≤ 11 then (cx_gd (cx_ib 1 140) (if (m_book (cx_ix 1)) = 4 then (Option.bind (f_X9_full m_refused m_quiet) (fun u22 => some ((u22.1, m_book, u22.2)))) else (cx_gd (cx_ib 1 140) (cx_gd (cx_ib (40 + (2 * (m_book (cx_ix 1)))) 140) (cx_let (upd m_book (cx_ix (40 + (2 * (m_book (cx_ix 1))))) p1) (fun a14 => cx_gd (cx_ib 1 140) (cx_gd (cx_ib ((40 + (2 * (a14 (cx_ix 1)))) + 1) 140) (cx_let (upd a14 (cx_ix ((40 + (2 * (a14 (cx_ix 1)))) + 1)) p2) (fun a17 => cx_gd (cx_ib 1 140) (cx_gd (cx_ib 1 140) (cx_let (upd a17 (cx_ix 1) ((a17 (cx_ix 1)) + 1)) (fun a20 => cx_gd (cx_ib 1 140) (some (((a20 (cx_ix 1)) - 1, a20, m_refused))))))))))))))) else (f_X9_picture_J33 m_book m_refused m_quiet)))))
set_option maxHeartbeats 4000000 in
set_option maxRecDepth 100000 in
theorem c_X9_picture (l : Launch) (D : va_G) (k : Nat → ClassId) (m_a : Nat → Nat) (m_limbs : Nat → Int32) (m_wide : Nat → Int32) (m_book : Nat → Int32) (m_images : Nat → Int32) (m_kept : Nat → Int32) (m_before : Nat → Int32) (m_refused : Nat → Int32) (m_quiet : Int32) (m_text : Nat → Int32) (m_typed : Int32) (m_at : Int32) (m_start : Int32) (m_token : Int32) (m_value : Int32) (m_items : Nat → Int32) (m_many : Int32) (m_is : Nat → Int32) (m_likes : Nat → Int32) (m_without : Int32) (m_onePicture : Int32) (m_oneYear : Int32) (m_first : Int32) (m_second : Int32) (m_names : Nat → Int32) (p1 : Int32) (p2 : Int32) (y : Int32 × (Nat → Int32) × (Nat → Int32)) (hf : f_X9_picture m_book m_refused m_quiet p1 p2 = some y) : cx_M l yX9_picture cX9_picture 3 (some .int) 3 D k [.ref (m_a 0), .int p1, .int p2] (wd_Model k m_a m_limbs m_wide m_book m_images m_kept m_before m_refused m_quiet m_text m_typed m_at m_start m_token m_value m_items m_many m_is m_likes m_without m_onePicture m_oneYear m_first m_second m_names) (fun sz => cx_Qi D y.1 (wd_Model k m_a m_limbs m_wide m_book m_images m_kept m_before m_refused m_quiet m_text m_typed m_at m_start m_token m_value m_items m_many m_is m_likes m_without m_onePicture m_oneYear m_first m_second m_names) (wd_Model k m_a m_limbs m_wide y.2.1 m_images m_kept m_before y.2.2 m_quiet m_text m_typed m_at m_start m_token m_value m_items m_many m_is m_likes m_without m_onePicture m_oneYear m_first m_second m_names) sz) := by
  refine cx_met (own := "NamelessBoxModel") (by decide) rfl (Nat.le_of_ble_eq_true rfl) ?_
  intro p e s m args below meth c A Q C hA hQ hr hlk
  refine cx_lv (lv' := [(0, .ref (m_a 0)), (1, .int p1), (2, .int p2)]) [0, 1, 2] rfl ?_
  have J33 : f_X9_picture_J33 m_book m_refused m_quiet = some y → cx_S p l e (cx_rm 3) s m args below meth c A D 3 0 0 Q 33 [(0, .ref (m_a 0))] [] (wd_Model k m_a m_limbs m_wide m_book m_images m_kept m_before m_refused m_quiet m_text m_typed m_at m_start m_token m_value m_items m_many m_is m_likes m_without m_onePicture m_oneYear m_first m_second m_names) := by
    intro  hf
    unfold f_X9_picture_J33 at hf
    refine cx_aload_n C dX9_picture_33 0 rfl ?_
    obtain ⟨u4, e5, hf⟩ := cx_bd_at hf
    refine cx_Fvi (q := (RX9, TX9, 24)) (As := []) (rest := []) (w1 := (wd_Model k m_a m_limbs m_wide m_book m_images m_kept m_before u4.2 m_quiet m_text m_typed m_at m_start m_token m_value m_items m_many m_is m_likes m_without m_onePicture m_oneYear m_first m_second m_names)) hA C me_X9_bad hw_1137 (c_X9_bad l D k m_a m_limbs m_wide m_book m_images m_kept m_before m_refused m_quiet m_text m_typed m_at m_start m_token m_value m_items m_many m_is m_likes m_without m_onePicture m_oneYear m_first m_second m_names u4 e5) dX9_picture_34 ⟨Nat.le_of_ble_eq_true rfl, Nat.le_of_ble_eq_true rfl⟩ ⟨Nat.zero_le _, Nat.zero_le _⟩ rfl rfl (Nat.le_of_ble_eq_true rfl) rfl rfl rfl ?_
    clear e5
    obtain rfl := Option.some.inj hf
    exact cx_iret C hA hQ hr hlk dX9_picture_37 rfl rfl
  unfold f_X9_picture at hf
  refine cx_iload_n C dX9_picture_0 1 rfl ?_
  refine cx_i2l C dX9_picture_1 ?_
  refine cx_lconst (v := 0) C dX9_picture_2 (by decide) ?_
  refine cx_ldc2 (v := 99) C dX9_picture_3 hw_1131 ?_
  obtain ⟨u1, e2, hf⟩ := cx_bd_at hf
  refine cx_Ksi (As := [.long (Int32.toInt64 p1), .long 0, .long 99]) (rest := []) hA C me_X9_in hw_1132 (c_X9_in l D k (Int32.toInt64 p1) 0 99 u1 e2) dX9_picture_6 ⟨Nat.le_of_ble_eq_true rfl, Nat.le_of_ble_eq_true rfl⟩ ⟨Nat.zero_le _, Nat.zero_le _⟩ rfl rfl (Nat.le_of_ble_eq_true rfl) [] rfl (by decide) ?_
  clear e2
  refine cx_if_eq (tgt := 33) C dX9_picture_9 (by decide) (fun c3 => ?_) (fun c3 => ?_)
  · have hf := cx_if_t hf c3
    clear c3
    refine cx_lv [0] rfl ?_
    exact J33 hf
  · have hf := cx_if_f hf c3
    clear c3
    refine cx_iload_n C dX9_picture_12 2 rfl ?_
    refine cx_i2l C dX9_picture_13 ?_
    refine cx_iload_n C dX9_picture_14 1 rfl ?_
    refine cx_i2l C dX9_picture_15 ?_
    refine cx_ldc2 (v := 99) C dX9_picture_16 hw_1131 ?_
    obtain ⟨u6, e7, hf⟩ := cx_bd_at hf
    refine cx_Ksi (As := [.long (Int32.toInt64 p2), .long (Int32.toInt64 p1), .long 99]) (rest := []) hA C me_X9_in hw_1132 (c_X9_in l D k (Int32.toInt64 p2) (Int32.toInt64 p1) 99 u6 e7) dX9_picture_19 ⟨Nat.le_of_ble_eq_true rfl, Nat.le_of_ble_eq_true rfl⟩ ⟨Nat.zero_le _, Nat.zero_le _⟩ rfl rfl (Nat.le_of_ble_eq_true rfl) [] rfl (by decide) ?_
    clear e7
    refine cx_if_eq (tgt := 33) C dX9_picture_22 (by decide) (fun c8 => ?_) (fun c8 => ?_)
    · have hf := cx_if_t hf c8
      clear c8
      refine cx_lv [0] rfl ?_
      exact J33 hf
    · have hf := cx_if_f hf c8
      clear c8
      refine cx_iload_n C dX9_picture_25 2 rfl ?_
      refine cx_iload_n C dX9_picture_26 1 rfl ?_
      refine cx_isub C dX9_picture_27 ?_
      refine cx_bipush (v := 11) C dX9_picture_28 (by decide) ?_
      refine cx_icmp_le (tgt := 38) C dX9_picture_30 (by decide) (fun c9 => ?_) (fun c9 => ?_)
      · have hf := cx_if_t hf c9
        clear c9
        refine cx_aload_n C dX9_picture_38 0 rfl ?_
        refine cx_get (v := .ref (m_a 3)) (ci := 8) C iX9 dX9_picture_39 0 rfl rfl 2 (by decide) hw_1056 rfl ?_
        refine cx_iconst (v := 1) C dX9_picture_42 (by decide) ?_
        obtain ⟨g10, hf⟩ := cx_gd_at hf
        refine cx_iald C dX9_picture_43 3 rfl (cx_ib_in g10) ?_
        clear g10
        refine cx_iconst (v := 4) C dX9_picture_44 (by decide) ?_
        refine cx_icmp_ne (tgt := 53) C dX9_picture_45 (by decide) (fun c11 => ?_) (fun c11 => ?_)
        · have hf := cx_if_f hf c11
          clear c11
          refine cx_aload_n C dX9_picture_53 0 rfl ?_
          refine cx_get (v := .ref (m_a 3)) (ci := 8) C iX9 dX9_picture_54 0 rfl rfl 2 (by decide) hw_1056 rfl ?_
          refine cx_bipush (v := 40) C dX9_picture_57 (by decide) ?_
          refine cx_iconst (v := 2) C dX9_picture_59 (by decide) ?_
          refine cx_aload_n C dX9_picture_60 0 rfl ?_
          refine cx_get (v := .ref (m_a 3)) (ci := 8) C iX9 dX9_picture_61 0 rfl rfl 2 (by decide) hw_1056 rfl ?_
          refine cx_iconst (v := 1) C dX9_picture_64 (by decide) ?_
          obtain ⟨g12, hf⟩ := cx_gd_at hf
          refine cx_iald C dX9_picture_65 3 rfl (cx_ib_in g12) ?_
          clear g12
          refine cx_imul C dX9_picture_66 ?_
          refine cx_iadd C dX9_picture_67 ?_
          refine cx_iload_n C dX9_picture_68 1 rfl ?_
          obtain ⟨g13, hf⟩ := cx_gd_at hf
          obtain ⟨a14, ea14⟩ : ∃ z, z = upd m_book (cx_ix (40 + (2 * (m_book (cx_ix 1))))) p1 := ⟨_, rfl⟩
          have hf := cx_let_at hf ea14
          refine cx_iast (ws' := (wd_Model k m_a m_limbs m_wide a14 m_images m_kept m_before m_refused m_quiet m_text m_typed m_at m_start m_token m_value m_items m_many m_is m_likes m_without m_onePicture m_oneYear m_first m_second m_names)) C dX9_picture_69 3 rfl (cx_ib_in g13) (by rw [ea14]; rfl) ?_
          clear ea14 g13
          refine cx_aload_n C dX9_picture_70 0 rfl ?_
          refine cx_get (v := .ref (m_a 3)) (ci := 8) C iX9 dX9_picture_71 0 rfl rfl 2 (by decide) hw_1056 rfl ?_
          refine cx_bipush (v := 40) C dX9_picture_74 (by decide) ?_
          refine cx_iconst (v := 2) C dX9_picture_76 (by decide) ?_
          refine cx_aload_n C dX9_picture_77 0 rfl ?_
          refine cx_get (v := .ref (m_a 3)) (ci := 8) C iX9 dX9_picture_78 0 rfl rfl 2 (by decide) hw_1056 rfl ?_
          refine cx_iconst (v := 1) C dX9_picture_81 (by decide) ?_
          obtain ⟨g15, hf⟩ := cx_gd_at hf
          refine cx_iald C dX9_picture_82 3 rfl (cx_ib_in g15) ?_
          clear g15
          refine cx_imul C dX9_picture_83 ?_
          refine cx_iadd C dX9_picture_84 ?_
          refine cx_iconst (v := 1) C dX9_picture_85 (by decide) ?_
          refine cx_iadd C dX9_picture_86 ?_
          refine cx_iload_n C dX9_picture_87 2 rfl ?_
          obtain ⟨g16, hf⟩ := cx_gd_at hf
          obtain ⟨a17, ea17⟩ : ∃ z, z = upd a14 (cx_ix ((40 + (2 * (a14 (cx_ix 1)))) + 1)) p2 := ⟨_, rfl⟩
          have hf := cx_let_at hf ea17
          refine cx_iast (ws' := (wd_Model k m_a m_limbs m_wide a17 m_images m_kept m_before m_refused m_quiet m_text m_typed m_at m_start m_token m_value m_items m_many m_is m_likes m_without m_onePicture m_oneYear m_first m_second m_names)) C dX9_picture_88 3 rfl (cx_ib_in g16) (by rw [ea17]; rfl) ?_
          clear ea17 g16
          refine cx_aload_n C dX9_picture_89 0 rfl ?_
          refine cx_get (v := .ref (m_a 3)) (ci := 8) C iX9 dX9_picture_90 0 rfl rfl 2 (by decide) hw_1056 rfl ?_
          refine cx_iconst (v := 1) C dX9_picture_93 (by decide) ?_
          refine cx_dup2_11 C dX9_picture_94 rfl rfl ?_
          obtain ⟨g18, hf⟩ := cx_gd_at hf
          refine cx_iald C dX9_picture_95 3 rfl (cx_ib_in g18) ?_
          clear g18
          refine cx_iconst (v := 1) C dX9_picture_96 (by decide) ?_
          refine cx_iadd C dX9_picture_97 ?_
          obtain ⟨g19, hf⟩ := cx_gd_at hf
          obtain ⟨a20, ea20⟩ : ∃ z, z = upd a17 (cx_ix 1) ((a17 (cx_ix 1)) + 1) := ⟨_, rfl⟩
          have hf := cx_let_at hf ea20
          refine cx_iast (ws' := (wd_Model k m_a m_limbs m_wide a20 m_images m_kept m_before m_refused m_quiet m_text m_typed m_at m_start m_token m_value m_items m_many m_is m_likes m_without m_onePicture m_oneYear m_first m_second m_names)) C dX9_picture_98 3 rfl (cx_ib_in g19) (by rw [ea20]; rfl) ?_
          clear ea20 g19
          refine cx_aload_n C dX9_picture_99 0 rfl ?_
          refine cx_get (v := .ref (m_a 3)) (ci := 8) C iX9 dX9_picture_100 0 rfl rfl 2 (by decide) hw_1056 rfl ?_
          refine cx_iconst (v := 1) C dX9_picture_103 (by decide) ?_
          obtain ⟨g21, hf⟩ := cx_gd_at hf
          refine cx_iald C dX9_picture_104 3 rfl (cx_ib_in g21) ?_
          clear g21
          refine cx_iconst (v := 1) C dX9_picture_105 (by decide) ?_
          refine cx_isub C dX9_picture_106 ?_
          obtain rfl := Option.some.inj hf
          exact cx_iret C hA hQ hr hlk dX9_picture_107 rfl rfl
        · have hf := cx_if_t hf c11
          clear c11
          refine cx_aload_n C dX9_picture_48 0 rfl ?_
          obtain ⟨u22, e23, hf⟩ := cx_bd_at hf
          refine cx_Fvi (q := (RX9, TX9, 24)) (As := []) (rest := []) (w1 := (wd_Model k m_a m_limbs m_wide m_book m_images m_kept m_before u22.2 m_quiet m_text m_typed m_at m_start m_token m_value m_items m_many m_is m_likes m_without m_onePicture m_oneYear m_first m_second m_names)) hA C me_X9_full hw_1145 (c_X9_full l D k m_a m_limbs m_wide m_book m_images m_kept m_before m_refused m_quiet m_text m_typed m_at m_start m_token m_value m_items m_many m_is m_likes m_without m_onePicture m_oneYear m_first m_second m_names u22 e23) dX9_picture_49 ⟨Nat.le_of_ble_eq_true rfl, Nat.le_of_ble_eq_true rfl⟩ ⟨Nat.zero_le _, Nat.zero_le _⟩ rfl rfl (Nat.le_of_ble_eq_true rfl) rfl rfl rfl ?_
          clear e23
          obtain rfl := Option.some.inj hf
          exact cx_iret C hA hQ hr hlk dX9_picture_52 rfl rfl
      · have hf := cx_if_f hf c9
        clear c9
        refine cx_lv [0] rfl ?_
        exact J33 hf
theorem dX9_head_0 : decode cX9_head 0 = .ok (.aload_n 0, 1) := by decide +kernel
theorem dX9_head_1 : decode cX9_head 1 = .ok (.iload_n 1, 1) := by decide +kernel
theorem dX9_head_2 : decode cX9_head 2 = .ok (.invokevirtual 114, 3) := by decide +kernel
theorem dX9_head_5 : decode cX9_head 5 = .ok (.ifCond .eq 53, 3) := by decide +kernel
theorem dX9_head_8 : decode cX9_head 8 = .ok (.iload_n 2, 1) := by decide +kernel
theorem dX9_head_9 : decode cX9_head 9 = .ok (.i2l, 1) := by decide +kernel
theorem dX9_head_10 : decode cX9_head 10 = .ok (.lconst 0, 1) := by decide +kernel
theorem dX9_head_11 : decode cX9_head 11 = .ok (.ldc2_w 97, 3) := by decide +kernel
theorem dX9_head_14 : decode cX9_head 14 = .ok (.invokestatic 89, 3) := by decide +kernel
theorem dX9_head_17 : decode cX9_head 17 = .ok (.ifCond .eq 41, 3) := by decide +kernel
theorem dX9_head_20 : decode cX9_head 20 = .ok (.iload_n 3, 1) := by decide +kernel
theorem dX9_head_21 : decode cX9_head 21 = .ok (.i2l, 1) := by decide +kernel
theorem dX9_head_22 : decode cX9_head 22 = .ok (.lconst 0, 1) := by decide +kernel
theorem dX9_head_23 : decode cX9_head 23 = .ok (.ldc2_w 97, 3) := by decide +kernel
theorem dX9_head_26 : decode cX9_head 26 = .ok (.invokestatic 89, 3) := by decide +kernel
theorem dX9_head_29 : decode cX9_head 29 = .ok (.ifCond .eq 29, 3) := by decide +kernel
theorem dX9_head_32 : decode cX9_head 32 = .ok (.iload 5, 2) := by decide +kernel
theorem dX9_head_34 : decode cX9_head 34 = .ok (.i2l, 1) := by decide +kernel
theorem dX9_head_35 : decode cX9_head 35 = .ok (.lconst 0, 1) := by decide +kernel
theorem dX9_head_36 : decode cX9_head 36 = .ok (.ldc2_w 93, 3) := by decide +kernel
theorem dX9_head_39 : decode cX9_head 39 = .ok (.invokestatic 89, 3) := by decide +kernel
theorem dX9_head_42 : decode cX9_head 42 = .ok (.ifCond .eq 16, 3) := by decide +kernel
theorem dX9_head_45 : decode cX9_head 45 = .ok (.iload 4, 2) := by decide +kernel
theorem dX9_head_47 : decode cX9_head 47 = .ok (.i2l, 1) := by decide +kernel
theorem dX9_head_48 : decode cX9_head 48 = .ok (.lconst 0, 1) := by decide +kernel
theorem dX9_head_49 : decode cX9_head 49 = .ok (.iload 5, 2) := by decide +kernel
theorem dX9_head_51 : decode cX9_head 51 = .ok (.i2l, 1) := by decide +kernel
theorem dX9_head_52 : decode cX9_head 52 = .ok (.invokestatic 89, 3) := by decide +kernel
theorem dX9_head_55 : decode cX9_head 55 = .ok (.ifCond .ne 8, 3) := by decide +kernel
theorem dX9_head_58 : decode cX9_head 58 = .ok (.aload_n 0, 1) := by decide +kernel
theorem dX9_head_59 : decode cX9_head 59 = .ok (.invokevirtual 99, 3) := by decide +kernel
theorem dX9_head_62 : decode cX9_head 62 = .ok (.ireturn, 1) := by decide +kernel
theorem dX9_head_63 : decode cX9_head 63 = .ok (.aload_n 0, 1) := by decide +kernel
theorem dX9_head_64 : decode cX9_head 64 = .ok (.getfield 51, 3) := by decide +kernel
theorem dX9_head_67 : decode cX9_head 67 = .ok (.iconst 2, 1) := by decide +kernel
theorem dX9_head_68 : decode cX9_head 68 = .ok (.iaload, 1) := by decide +kernel
theorem dX9_head_69 : decode cX9_head 69 = .ok (.bipush 6, 2) := by decide +kernel
theorem dX9_head_71 : decode cX9_head 71 = .ok (.if_icmp .ne 8, 3) := by decide +kernel
theorem dX9_head_74 : decode cX9_head 74 = .ok (.aload_n 0, 1) := by decide +kernel
theorem dX9_head_75 : decode cX9_head 75 = .ok (.invokevirtual 103, 3) := by decide +kernel
theorem dX9_head_78 : decode cX9_head 78 = .ok (.ireturn, 1) := by decide +kernel
theorem dX9_head_79 : decode cX9_head 79 = .ok (.bipush 50, 2) := by decide +kernel
theorem dX9_head_81 : decode cX9_head 81 = .ok (.iconst 5, 1) := by decide +kernel
theorem dX9_head_82 : decode cX9_head 82 = .ok (.aload_n 0, 1) := by decide +kernel
theorem dX9_head_83 : decode cX9_head 83 = .ok (.getfield 51, 3) := by decide +kernel
theorem dX9_head_86 : decode cX9_head 86 = .ok (.iconst 2, 1) := by decide +kernel
theorem dX9_head_87 : decode cX9_head 87 = .ok (.iaload, 1) := by decide +kernel
theorem dX9_head_88 : decode cX9_head 88 = .ok (.imul, 1) := by decide +kernel
theorem dX9_head_89 : decode cX9_head 89 = .ok (.iadd, 1) := by decide +kernel
theorem dX9_head_90 : decode cX9_head 90 = .ok (.istore 6, 2) := by decide +kernel
theorem dX9_head_92 : decode cX9_head 92 = .ok (.aload_n 0, 1) := by decide +kernel
theorem dX9_head_93 : decode cX9_head 93 = .ok (.getfield 51, 3) := by decide +kernel
theorem dX9_head_96 : decode cX9_head 96 = .ok (.iload 6, 2) := by decide +kernel
theorem dX9_head_98 : decode cX9_head 98 = .ok (.iload_n 1, 1) := by decide +kernel
theorem dX9_head_99 : decode cX9_head 99 = .ok (.iastore, 1) := by decide +kernel
theorem dX9_head_100 : decode cX9_head 100 = .ok (.aload_n 0, 1) := by decide +kernel
theorem dX9_head_101 : decode cX9_head 101 = .ok (.getfield 51, 3) := by decide +kernel
theorem dX9_head_104 : decode cX9_head 104 = .ok (.iload 6, 2) := by decide +kernel
theorem dX9_head_106 : decode cX9_head 106 = .ok (.iconst 1, 1) := by decide +kernel
theorem dX9_head_107 : decode cX9_head 107 = .ok (.iadd, 1) := by decide +kernel
theorem dX9_head_108 : decode cX9_head 108 = .ok (.iload_n 2, 1) := by decide +kernel
theorem dX9_head_109 : decode cX9_head 109 = .ok (.iastore, 1) := by decide +kernel
theorem dX9_head_110 : decode cX9_head 110 = .ok (.aload_n 0, 1) := by decide +kernel
theorem dX9_head_111 : decode cX9_head 111 = .ok (.getfield 51, 3) := by decide +kernel
theorem dX9_head_114 : decode cX9_head 114 = .ok (.iload 6, 2) := by decide +kernel
theorem dX9_head_116 : decode cX9_head 116 = .ok (.iconst 2, 1) := by decide +kernel
theorem dX9_head_117 : decode cX9_head 117 = .ok (.iadd, 1) := by decide +kernel
theorem dX9_head_118 : decode cX9_head 118 = .ok (.iload_n 3, 1) := by decide +kernel
theorem dX9_head_119 : decode cX9_head 119 = .ok (.iastore, 1) := by decide +kernel
theorem dX9_head_120 : decode cX9_head 120 = .ok (.aload_n 0, 1) := by decide +kernel
theorem dX9_head_121 : decode cX9_head 121 = .ok (.getfield 51, 3) := by decide +kernel
theorem dX9_head_124 : decode cX9_head 124 = .ok (.iload 6, 2) := by decide +kernel
theorem dX9_head_126 : decode cX9_head 126 = .ok (.iconst 3, 1) := by decide +kernel
theorem dX9_head_127 : decode cX9_head 127 = .ok (.iadd, 1) := by decide +kernel
theorem dX9_head_128 : decode cX9_head 128 = .ok (.iload 4, 2) := by decide +kernel
theorem dX9_head_130 : decode cX9_head 130 = .ok (.iastore, 1) := by decide +kernel
theorem dX9_head_131 : decode cX9_head 131 = .ok (.aload_n 0, 1) := by decide +kernel
theorem dX9_head_132 : decode cX9_head 132 = .ok (.getfield 51, 3) := by decide +kernel
theorem dX9_head_135 : decode cX9_head 135 = .ok (.iload 6, 2) := by decide +kernel
theorem dX9_head_137 : decode cX9_head 137 = .ok (.iconst 4, 1) := by decide +kernel
theorem dX9_head_138 : decode cX9_head 138 = .ok (.iadd, 1) := by decide +kernel
theorem dX9_head_139 : decode cX9_head 139 = .ok (.iload 5, 2) := by decide +kernel
theorem dX9_head_141 : decode cX9_head 141 = .ok (.iastore, 1) := by decide +kernel
theorem dX9_head_142 : decode cX9_head 142 = .ok (.aload_n 0, 1) := by decide +kernel
theorem dX9_head_143 : decode cX9_head 143 = .ok (.getfield 51, 3) := by decide +kernel
theorem dX9_head_146 : decode cX9_head 146 = .ok (.iconst 2, 1) := by decide +kernel
theorem dX9_head_147 : decode cX9_head 147 = .ok (.dup2, 1) := by decide +kernel
theorem dX9_head_148 : decode cX9_head 148 = .ok (.iaload, 1) := by decide +kernel
theorem dX9_head_149 : decode cX9_head 149 = .ok (.iconst 1, 1) := by decide +kernel
theorem dX9_head_150 : decode cX9_head 150 = .ok (.iadd, 1) := by decide +kernel
theorem dX9_head_151 : decode cX9_head 151 = .ok (.iastore, 1) := by decide +kernel
theorem dX9_head_152 : decode cX9_head 152 = .ok (.aload_n 0, 1) := by decide +kernel
theorem dX9_head_153 : decode cX9_head 153 = .ok (.getfield 51, 3) := by decide +kernel
theorem dX9_head_156 : decode cX9_head 156 = .ok (.iconst 2, 1) := by decide +kernel
theorem dX9_head_157 : decode cX9_head 157 = .ok (.iaload, 1) := by decide +kernel
theorem dX9_head_158 : decode cX9_head 158 = .ok (.iconst 1, 1) := by decide +kernel
theorem dX9_head_159 : decode cX9_head 159 = .ok (.isub, 1) := by decide +kernel
theorem dX9_head_160 : decode cX9_head 160 = .ok (.ireturn, 1) := by decide +kernel
theorem me_X9_head : cx_Mv yX9_head cX9_head 7 (some .int) 5 := ⟨⟨⟨by decide +kernel, by decide +kernel, by decide +kernel⟩, hw_11, hw_1173⟩, hw_1171, hw_1172⟩
noncomputable def f_X9_head_J58 (m_book : Nat → Int32) (m_refused : Nat → Int32) (m_quiet : Int32) : Option (Int32 × (Nat → Int32) × (Nat → Int32)) := Option.bind (f_X9_bad m_refused m_quiet) (fun u4 => some ((u4.1, m_book, u4.2)))
noncomputable def f_X9_head (m_book : Nat → Int32) (m_refused : Nat → Int32) (m_quiet : Int32) (p1 : Int32) (p2 : Int32) (p3 : Int32) (p4 : Int32) (p5 : Int32) : Option (Int32 × (Nat → Int32) × (Nat → Int32)) := Option.bind (f_X9_isPicture m_book p1) (fun u1 => if u1 = 0 then (f_X9_head_J58 m_book m_refused m_quiet) else (Option.bind (f_X9_in (Int32.toInt64 p2) 0 15) (fun u6 => if u6 = 0 then (f_X9_head_J58 m_book m_refused m_quiet) else (Option.bind (f_X9_in (Int32.toInt64 p3) 0 15) (fun u9 => if u9 = 0 then (f_X9_head_J58 m_book m_refused m_quiet) else (Option.bind (f_X9_in (Int32.toInt64 p5) 0 99) (fun u12 => if u12 = 0 then (f_X9_head_J58 m_book m_refused m_quiet) else (Option.bind (f_X9_in (Int32.toInt64 p4) 0 (Int32.toInt64 p5)) (fun u15 => if u15 = 0 then (f_X9_head_J58 m_book m_refused m_quiet) else (cx_gd (cx_ib 2 140) (if (m_book (cx_ix 2)) = 6 then (Option.bind (f_X9_full m_refused m_quiet) (fun u36 => some ((u36.1, m_book, u36.2)))) else (cx_gd (cx_ib 2 140) (cx_let (50 + (5 * (m_book (cx_ix 2)))) (fun v21 => cx_gd (cx_ib v21 140) (cx_let (upd m_book (cx_ix v21) p1) (fun a23 => cx_gd (cx_ib (v21 + 1) 140) (cx_let (upd a23 (cx_ix (v21 + 1)) p2) (fun a25 => cx_gd (cx_ib (v21 + 2) 140) (cx_let (upd a25 (cx_ix (v21 + 2)) p3) (fun a27 => cx_gd (cx_ib (v21 + 3) 140) (cx_let (upd a27 (cx_ix (v21 + 3)) p4) (fun a29 => cx_gd (cx_ib (v21 + 4) 140) (cx_let (upd a29 (cx_ix (v21 + 4)) p5) (fun a31 => cx_gd (cx_ib 2 140) (cx_gd (cx_ib 2 140) (cx_let (upd a31 (cx_ix 2) ((a31 (cx_ix 2)) + 1)) (fun a34 => cx_gd (cx_ib 2 140) (some (((a34 (cx_ix 2)) - 1, a34, m_refused))))))))))))))))))))))))))))))
set_option maxHeartbeats 4000000 in
set_option maxRecDepth 100000 in
theorem c_X9_head (l : Launch) (D : va_G) (k : Nat → ClassId) (m_a : Nat → Nat) (m_limbs : Nat → Int32) (m_wide : Nat → Int32) (m_book : Nat → Int32) (m_images : Nat → Int32) (m_kept : Nat → Int32) (m_before : Nat → Int32) (m_refused : Nat → Int32) (m_quiet : Int32) (m_text : Nat → Int32) (m_typed : Int32) (m_at : Int32) (m_start : Int32) (m_token : Int32) (m_value : Int32) (m_items : Nat → Int32) (m_many : Int32) (m_is : Nat → Int32) (m_likes : Nat → Int32) (m_without : Int32) (m_onePicture : Int32) (m_oneYear : Int32) (m_first : Int32) (m_second : Int32) (m_names : Nat → Int32) (p1 : Int32) (p2 : Int32) (p3 : Int32) (p4 : Int32) (p5 : Int32) (y : Int32 × (Nat → Int32) × (Nat → Int32)) (hf : f_X9_head m_book m_refused m_quiet p1 p2 p3 p4 p5 = some y) : cx_M l yX9_head cX9_head 7 (some .int) 3 D k [.ref (m_a 0), .int p1, .int p2, .int p3, .int p4, .int p5] (wd_Model k m_a m_limbs m_wide m_book m_images m_kept m_before m_refused m_quiet m_text m_typed m_at m_start m_token m_value m_items m_many m_is m_likes m_without m_onePicture m_oneYear m_first m_second m_names) (fun sz => cx_Qi D y.1 (wd_Model k m_a m_limbs m_wide m_book m_images m_kept m_before m_refused m_quiet m_text m_typed m_at m_start m_token m_value m_items m_many m_is m_likes m_without m_onePicture m_oneYear m_first m_second m_names) (wd_Model k m_a m_limbs m_wide y.2.1 m_images m_kept m_before y.2.2 m_quiet m_text m_typed m_at m_start m_token m_value m_items m_many m_is m_likes m_without m_onePicture m_oneYear m_first m_second m_names) sz) := by
  refine cx_met (own := "NamelessBoxModel") (by decide) rfl (Nat.le_of_ble_eq_true rfl) ?_
  intro p e s m args below meth c A Q C hA hQ hr hlk
  refine cx_lv (lv' := [(0, .ref (m_a 0)), (1, .int p1), (2, .int p2), (3, .int p3), (4, .int p4), (5, .int p5)]) [0, 1, 2, 3, 4, 5] rfl ?_
  have J58 : f_X9_head_J58 m_book m_refused m_quiet = some y → cx_S p l e (cx_rm 3) s m args below meth c A D 7 0 0 Q 58 [(0, .ref (m_a 0))] [] (wd_Model k m_a m_limbs m_wide m_book m_images m_kept m_before m_refused m_quiet m_text m_typed m_at m_start m_token m_value m_items m_many m_is m_likes m_without m_onePicture m_oneYear m_first m_second m_names) := by
    intro  hf
    unfold f_X9_head_J58 at hf
    refine cx_aload_n C dX9_head_58 0 rfl ?_
    obtain ⟨u4, e5, hf⟩ := cx_bd_at hf
    refine cx_Fvi (q := (RX9, TX9, 24)) (As := []) (rest := []) (w1 := (wd_Model k m_a m_limbs m_wide m_book m_images m_kept m_before u4.2 m_quiet m_text m_typed m_at m_start m_token m_value m_items m_many m_is m_likes m_without m_onePicture m_oneYear m_first m_second m_names)) hA C me_X9_bad hw_1137 (c_X9_bad l D k m_a m_limbs m_wide m_book m_images m_kept m_before m_refused m_quiet m_text m_typed m_at m_start m_token m_value m_items m_many m_is m_likes m_without m_onePicture m_oneYear m_first m_second m_names u4 e5) dX9_head_59 ⟨Nat.le_of_ble_eq_true rfl, Nat.le_of_ble_eq_true rfl⟩ ⟨Nat.zero_le _, Nat.zero_le _⟩ rfl rfl (Nat.le_of_ble_eq_true rfl) rfl rfl rfl ?_
    clear e5
    obtain rfl := Option.some.inj hf
    exact cx_iret C hA hQ hr hlk dX9_head_62 rfl rfl
  unfold f_X9_head at hf
  refine cx_aload_n C dX9_head_0 0 rfl ?_
  refine cx_iload_n C dX9_head_1 1 rfl ?_
  obtain ⟨u1, e2, hf⟩ := cx_bd_at hf
  refine cx_Fvi (q := (RX9, TX9, 24)) (As := [.int p1]) (rest := []) (w1 := (wd_Model k m_a m_limbs m_wide m_book m_images m_kept m_before m_refused m_quiet m_text m_typed m_at m_start m_token m_value m_items m_many m_is m_likes m_without m_onePicture m_oneYear m_first m_second m_names)) hA C me_X9_isPicture hw_1174 (c_X9_isPicture l D k m_a m_limbs m_wide m_book m_images m_kept m_before m_refused m_quiet m_text m_typed m_at m_start m_token m_value m_items m_many m_is m_likes m_without m_onePicture m_oneYear m_first m_second m_names p1 u1 e2) dX9_head_2 ⟨Nat.le_of_ble_eq_true rfl, Nat.le_of_ble_eq_true rfl⟩ ⟨Nat.zero_le _, Nat.zero_le _⟩ rfl rfl (Nat.le_of_ble_eq_true rfl) rfl rfl rfl ?_
  clear e2
  refine cx_if_eq (tgt := 58) C dX9_head_5 (by decide) (fun c3 => ?_) (fun c3 => ?_)
  · have hf := cx_if_t hf c3
    clear c3
    refine cx_lv [0] rfl ?_
    exact J58 hf
  · have hf := cx_if_f hf c3
    clear c3
    refine cx_iload_n C dX9_head_8 2 rfl ?_
    refine cx_i2l C dX9_head_9 ?_
    refine cx_lconst (v := 0) C dX9_head_10 (by decide) ?_
    refine cx_ldc2 (v := 15) C dX9_head_11 hw_1136 ?_
    obtain ⟨u6, e7, hf⟩ := cx_bd_at hf
    refine cx_Ksi (As := [.long (Int32.toInt64 p2), .long 0, .long 15]) (rest := []) hA C me_X9_in hw_1132 (c_X9_in l D k (Int32.toInt64 p2) 0 15 u6 e7) dX9_head_14 ⟨Nat.le_of_ble_eq_true rfl, Nat.le_of_ble_eq_true rfl⟩ ⟨Nat.zero_le _, Nat.zero_le _⟩ rfl rfl (Nat.le_of_ble_eq_true rfl) [] rfl (by decide) ?_
    clear e7
    refine cx_if_eq (tgt := 58) C dX9_head_17 (by decide) (fun c8 => ?_) (fun c8 => ?_)
    · have hf := cx_if_t hf c8
      clear c8
      refine cx_lv [0] rfl ?_
      exact J58 hf
    · have hf := cx_if_f hf c8
      clear c8
      refine cx_iload_n C dX9_head_20 3 rfl ?_
      refine cx_i2l C dX9_head_21 ?_
      refine cx_lconst (v := 0) C dX9_head_22 (by decide) ?_
      refine cx_ldc2 (v := 15) C dX9_head_23 hw_1136 ?_
      obtain ⟨u9, e10, hf⟩ := cx_bd_at hf
      refine cx_Ksi (As := [.long (Int32.toInt64 p3), .long 0, .long 15]) (rest := []) hA C me_X9_in hw_1132 (c_X9_in l D k (Int32.toInt64 p3) 0 15 u9 e10) dX9_head_26 ⟨Nat.le_of_ble_eq_true rfl, Nat.le_of_ble_eq_true rfl⟩ ⟨Nat.zero_le _, Nat.zero_le _⟩ rfl rfl (Nat.le_of_ble_eq_true rfl) [] rfl (by decide) ?_
      clear e10
      refine cx_if_eq (tgt := 58) C dX9_head_29 (by decide) (fun c11 => ?_) (fun c11 => ?_)
      · have hf := cx_if_t hf c11
        clear c11
        refine cx_lv [0] rfl ?_
        exact J58 hf
      · have hf := cx_if_f hf c11
        clear c11
        refine cx_iload C dX9_head_32 5 rfl ?_
        refine cx_i2l C dX9_head_34 ?_
        refine cx_lconst (v := 0) C dX9_head_35 (by decide) ?_
        refine cx_ldc2 (v := 99) C dX9_head_36 hw_1131 ?_
        obtain ⟨u12, e13, hf⟩ := cx_bd_at hf
        refine cx_Ksi (As := [.long (Int32.toInt64 p5), .long 0, .long 99]) (rest := []) hA C me_X9_in hw_1132 (c_X9_in l D k (Int32.toInt64 p5) 0 99 u12 e13) dX9_head_39 ⟨Nat.le_of_ble_eq_true rfl, Nat.le_of_ble_eq_true rfl⟩ ⟨Nat.zero_le _, Nat.zero_le _⟩ rfl rfl (Nat.le_of_ble_eq_true rfl) [] rfl (by decide) ?_
        clear e13
        refine cx_if_eq (tgt := 58) C dX9_head_42 (by decide) (fun c14 => ?_) (fun c14 => ?_)
        · have hf := cx_if_t hf c14
          clear c14
          refine cx_lv [0] rfl ?_
          exact J58 hf
        · have hf := cx_if_f hf c14
          clear c14
          refine cx_iload C dX9_head_45 4 rfl ?_
          refine cx_i2l C dX9_head_47 ?_
          refine cx_lconst (v := 0) C dX9_head_48 (by decide) ?_
          refine cx_iload C dX9_head_49 5 rfl ?_
          refine cx_i2l C dX9_head_51 ?_
          obtain ⟨u15, e16, hf⟩ := cx_bd_at hf
          refine cx_Ksi (As := [.long (Int32.toInt64 p4), .long 0, .long (Int32.toInt64 p5)]) (rest := []) hA C me_X9_in hw_1132 (c_X9_in l D k (Int32.toInt64 p4) 0 (Int32.toInt64 p5) u15 e16) dX9_head_52 ⟨Nat.le_of_ble_eq_true rfl, Nat.le_of_ble_eq_true rfl⟩ ⟨Nat.zero_le _, Nat.zero_le _⟩ rfl rfl (Nat.le_of_ble_eq_true rfl) [] rfl (by decide) ?_
          clear e16
          refine cx_if_ne (tgt := 63) C dX9_head_55 (by decide) (fun c17 => ?_) (fun c17 => ?_)
          · have hf := cx_if_f hf c17
            clear c17
            refine cx_aload_n C dX9_head_63 0 rfl ?_
            refine cx_get (v := .ref (m_a 3)) (ci := 8) C iX9 dX9_head_64 0 rfl rfl 2 (by decide) hw_1056 rfl ?_
            refine cx_iconst (v := 2) C dX9_head_67 (by decide) ?_
            obtain ⟨g18, hf⟩ := cx_gd_at hf
            refine cx_iald C dX9_head_68 3 rfl (cx_ib_in g18) ?_
            clear g18
            refine cx_bipush (v := 6) C dX9_head_69 (by decide) ?_
            refine cx_icmp_ne (tgt := 79) C dX9_head_71 (by decide) (fun c19 => ?_) (fun c19 => ?_)
            · have hf := cx_if_f hf c19
              clear c19
              refine cx_bipush (v := 50) C dX9_head_79 (by decide) ?_
              refine cx_iconst (v := 5) C dX9_head_81 (by decide) ?_
              refine cx_aload_n C dX9_head_82 0 rfl ?_
              refine cx_get (v := .ref (m_a 3)) (ci := 8) C iX9 dX9_head_83 0 rfl rfl 2 (by decide) hw_1056 rfl ?_
              refine cx_iconst (v := 2) C dX9_head_86 (by decide) ?_
              obtain ⟨g20, hf⟩ := cx_gd_at hf
              refine cx_iald C dX9_head_87 3 rfl (cx_ib_in g20) ?_
              clear g20
              refine cx_imul C dX9_head_88 ?_
              refine cx_iadd C dX9_head_89 ?_
              refine cx_topi (fun v21 ev21 => ?_)
              have hf := cx_let_at hf ev21
              clear ev21
              refine cx_istore (lv' := [(6, .int v21), (0, .ref (m_a 0)), (1, .int p1), (2, .int p2), (3, .int p3), (4, .int p4), (5, .int p5)]) C dX9_head_90 (by decide) rfl ?_
              refine cx_aload_n C dX9_head_92 1 rfl ?_
              refine cx_get (v := .ref (m_a 3)) (ci := 8) C iX9 dX9_head_93 0 rfl rfl 2 (by decide) hw_1056 rfl ?_
              refine cx_iload C dX9_head_96 0 rfl ?_
              refine cx_iload_n C dX9_head_98 2 rfl ?_
              obtain ⟨g22, hf⟩ := cx_gd_at hf
              obtain ⟨a23, ea23⟩ : ∃ z, z = upd m_book (cx_ix v21) p1 := ⟨_, rfl⟩
              have hf := cx_let_at hf ea23
              refine cx_iast (ws' := (wd_Model k m_a m_limbs m_wide a23 m_images m_kept m_before m_refused m_quiet m_text m_typed m_at m_start m_token m_value m_items m_many m_is m_likes m_without m_onePicture m_oneYear m_first m_second m_names)) C dX9_head_99 3 rfl (cx_ib_in g22) (by rw [ea23]; rfl) ?_
              clear ea23 g22
              refine cx_aload_n C dX9_head_100 1 rfl ?_
              refine cx_get (v := .ref (m_a 3)) (ci := 8) C iX9 dX9_head_101 0 rfl rfl 2 (by decide) hw_1056 rfl ?_
              refine cx_iload C dX9_head_104 0 rfl ?_
              refine cx_iconst (v := 1) C dX9_head_106 (by decide) ?_
              refine cx_iadd C dX9_head_107 ?_
              refine cx_iload_n C dX9_head_108 3 rfl ?_
              obtain ⟨g24, hf⟩ := cx_gd_at hf
              obtain ⟨a25, ea25⟩ : ∃ z, z = upd a23 (cx_ix (v21 + 1)) p2 := ⟨_, rfl⟩
              have hf := cx_let_at hf ea25
              refine cx_iast (ws' := (wd_Model k m_a m_limbs m_wide a25 m_images m_kept m_before m_refused m_quiet m_text m_typed m_at m_start m_token m_value m_items m_many m_is m_likes m_without m_onePicture m_oneYear m_first m_second m_names)) C dX9_head_109 3 rfl (cx_ib_in g24) (by rw [ea25]; rfl) ?_
              clear ea25 g24
              refine cx_aload_n C dX9_head_110 1 rfl ?_
              refine cx_get (v := .ref (m_a 3)) (ci := 8) C iX9 dX9_head_111 0 rfl rfl 2 (by decide) hw_1056 rfl ?_
              refine cx_iload C dX9_head_114 0 rfl ?_
              refine cx_iconst (v := 2) C dX9_head_116 (by decide) ?_
              refine cx_iadd C dX9_head_117 ?_
              refine cx_iload_n C dX9_head_118 4 rfl ?_
              obtain ⟨g26, hf⟩ := cx_gd_at hf
              obtain ⟨a27, ea27⟩ : ∃ z, z = upd a25 (cx_ix (v21 + 2)) p3 := ⟨_, rfl⟩
              have hf := cx_let_at hf ea27
              refine cx_iast (ws' := (wd_Model k m_a m_limbs m_wide a27 m_images m_kept m_before m_refused m_quiet m_text m_typed m_at m_start m_token m_value m_items m_many m_is m_likes m_without m_onePicture m_oneYear m_first m_second m_names)) C dX9_head_119 3 rfl (cx_ib_in g26) (by rw [ea27]; rfl) ?_
              clear ea27 g26
              refine cx_aload_n C dX9_head_120 1 rfl ?_
              refine cx_get (v := .ref (m_a 3)) (ci := 8) C iX9 dX9_head_121 0 rfl rfl 2 (by decide) hw_1056 rfl ?_
              refine cx_iload C dX9_head_124 0 rfl ?_
              refine cx_iconst (v := 3) C dX9_head_126 (by decide) ?_
              refine cx_iadd C dX9_head_127 ?_
              refine cx_iload C dX9_head_128 5 rfl ?_
              obtain ⟨g28, hf⟩ := cx_gd_at hf
              obtain ⟨a29, ea29⟩ : ∃ z, z = upd a27 (cx_ix (v21 + 3)) p4 := ⟨_, rfl⟩
              have hf := cx_let_at hf ea29
              refine cx_iast (ws' := (wd_Model k m_a m_limbs m_wide a29 m_images m_kept m_before m_refused m_quiet m_text m_typed m_at m_start m_token m_value m_items m_many m_is m_likes m_without m_onePicture m_oneYear m_first m_second m_names)) C dX9_head_130 3 rfl (cx_ib_in g28) (by rw [ea29]; rfl) ?_
              clear ea29 g28
              refine cx_aload_n C dX9_head_131 1 rfl ?_
              refine cx_get (v := .ref (m_a 3)) (ci := 8) C iX9 dX9_head_132 0 rfl rfl 2 (by decide) hw_1056 rfl ?_
              refine cx_iload C dX9_head_135 0 rfl ?_
              refine cx_iconst (v := 4) C dX9_head_137 (by decide) ?_
              refine cx_iadd C dX9_head_138 ?_
              refine cx_iload C dX9_head_139 6 rfl ?_
              obtain ⟨g30, hf⟩ := cx_gd_at hf
              obtain ⟨a31, ea31⟩ : ∃ z, z = upd a29 (cx_ix (v21 + 4)) p5 := ⟨_, rfl⟩
              have hf := cx_let_at hf ea31
              refine cx_iast (ws' := (wd_Model k m_a m_limbs m_wide a31 m_images m_kept m_before m_refused m_quiet m_text m_typed m_at m_start m_token m_value m_items m_many m_is m_likes m_without m_onePicture m_oneYear m_first m_second m_names)) C dX9_head_141 3 rfl (cx_ib_in g30) (by rw [ea31]; rfl) ?_
              clear ea31 g30
              refine cx_aload_n C dX9_head_142 1 rfl ?_
              refine cx_get (v := .ref (m_a 3)) (ci := 8) C iX9 dX9_head_143 0 rfl rfl 2 (by decide) hw_1056 rfl ?_
              refine cx_iconst (v := 2) C dX9_head_146 (by decide) ?_
              refine cx_dup2_11 C dX9_head_147 rfl rfl ?_
              obtain ⟨g32, hf⟩ := cx_gd_at hf
              refine cx_iald C dX9_head_148 3 rfl (cx_ib_in g32) ?_
              clear g32
              refine cx_iconst (v := 1) C dX9_head_149 (by decide) ?_
              refine cx_iadd C dX9_head_150 ?_
              obtain ⟨g33, hf⟩ := cx_gd_at hf
              obtain ⟨a34, ea34⟩ : ∃ z, z = upd a31 (cx_ix 2) ((a31 (cx_ix 2)) + 1) := ⟨_, rfl⟩
              have hf := cx_let_at hf ea34
              refine cx_iast (ws' := (wd_Model k m_a m_limbs m_wide a34 m_images m_kept m_before m_refused m_quiet m_text m_typed m_at m_start m_token m_value m_items m_many m_is m_likes m_without m_onePicture m_oneYear m_first m_second m_names)) C dX9_head_151 3 rfl (cx_ib_in g33) (by rw [ea34]; rfl) ?_
              clear ea34 g33
              refine cx_aload_n C dX9_head_152 1 rfl ?_
              refine cx_get (v := .ref (m_a 3)) (ci := 8) C iX9 dX9_head_153 0 rfl rfl 2 (by decide) hw_1056 rfl ?_
              refine cx_iconst (v := 2) C dX9_head_156 (by decide) ?_
              obtain ⟨g35, hf⟩ := cx_gd_at hf
              refine cx_iald C dX9_head_157 3 rfl (cx_ib_in g35) ?_
              clear g35
              refine cx_iconst (v := 1) C dX9_head_158 (by decide) ?_
              refine cx_isub C dX9_head_159 ?_
              obtain rfl := Option.some.inj hf
              exact cx_iret C hA hQ hr hlk dX9_head_160 rfl rfl
            · have hf := cx_if_t hf c19
              clear c19
              refine cx_aload_n C dX9_head_74 0 rfl ?_
              obtain ⟨u36, e37, hf⟩ := cx_bd_at hf
              refine cx_Fvi (q := (RX9, TX9, 24)) (As := []) (rest := []) (w1 := (wd_Model k m_a m_limbs m_wide m_book m_images m_kept m_before u36.2 m_quiet m_text m_typed m_at m_start m_token m_value m_items m_many m_is m_likes m_without m_onePicture m_oneYear m_first m_second m_names)) hA C me_X9_full hw_1145 (c_X9_full l D k m_a m_limbs m_wide m_book m_images m_kept m_before m_refused m_quiet m_text m_typed m_at m_start m_token m_value m_items m_many m_is m_likes m_without m_onePicture m_oneYear m_first m_second m_names u36 e37) dX9_head_75 ⟨Nat.le_of_ble_eq_true rfl, Nat.le_of_ble_eq_true rfl⟩ ⟨Nat.zero_le _, Nat.zero_le _⟩ rfl rfl (Nat.le_of_ble_eq_true rfl) rfl rfl rfl ?_
              clear e37
              obtain rfl := Option.some.inj hf
              exact cx_iret C hA hQ hr hlk dX9_head_78 rfl rfl
          · have hf := cx_if_t hf c17
            clear c17
            refine cx_lv [0] rfl ?_
            exact J58 hf
theorem dX9_name_0 : decode cX9_name 0 = .ok (.iload_n 1, 1) := by decide +kernel
theorem dX9_name_1 : decode cX9_name 1 = .ok (.i2l, 1) := by decide +kernel
theorem dX9_name_2 : decode cX9_name 2 = .ok (.lconst 0, 1) := by decide +kernel
theorem dX9_name_3 : decode cX9_name 3 = .ok (.ldc2_w 117, 3) := by decide +kernel
theorem dX9_name_6 : decode cX9_name 6 = .ok (.invokestatic 89, 3) := by decide +kernel
theorem dX9_name_9 : decode cX9_name 9 = .ok (.ifCond .eq 28, 3) := by decide +kernel
theorem dX9_name_12 : decode cX9_name 12 = .ok (.aload_n 0, 1) := by decide +kernel
theorem dX9_name_13 : decode cX9_name 13 = .ok (.iload_n 2, 1) := by decide +kernel
theorem dX9_name_14 : decode cX9_name 14 = .ok (.invokevirtual 119, 3) := by decide +kernel
theorem dX9_name_17 : decode cX9_name 17 = .ok (.ifCond .eq 20, 3) := by decide +kernel
theorem dX9_name_20 : decode cX9_name 20 = .ok (.aload_n 0, 1) := by decide +kernel
theorem dX9_name_21 : decode cX9_name 21 = .ok (.iload_n 3, 1) := by decide +kernel
theorem dX9_name_22 : decode cX9_name 22 = .ok (.invokevirtual 106, 3) := by decide +kernel
theorem dX9_name_25 : decode cX9_name 25 = .ok (.ifCond .eq 12, 3) := by decide +kernel
theorem dX9_name_28 : decode cX9_name 28 = .ok (.aload_n 0, 1) := by decide +kernel
theorem dX9_name_29 : decode cX9_name 29 = .ok (.iload 4, 2) := by decide +kernel
theorem dX9_name_31 : decode cX9_name 31 = .ok (.invokevirtual 106, 3) := by decide +kernel
theorem dX9_name_34 : decode cX9_name 34 = .ok (.ifCond .ne 8, 3) := by decide +kernel
theorem dX9_name_37 : decode cX9_name 37 = .ok (.aload_n 0, 1) := by decide +kernel
theorem dX9_name_38 : decode cX9_name 38 = .ok (.invokevirtual 99, 3) := by decide +kernel
theorem dX9_name_41 : decode cX9_name 41 = .ok (.ireturn, 1) := by decide +kernel
theorem dX9_name_42 : decode cX9_name 42 = .ok (.aload_n 0, 1) := by decide +kernel
theorem dX9_name_43 : decode cX9_name 43 = .ok (.getfield 51, 3) := by decide +kernel
theorem dX9_name_46 : decode cX9_name 46 = .ok (.iconst 3, 1) := by decide +kernel
theorem dX9_name_47 : decode cX9_name 47 = .ok (.iaload, 1) := by decide +kernel
theorem dX9_name_48 : decode cX9_name 48 = .ok (.iconst 4, 1) := by decide +kernel
theorem dX9_name_49 : decode cX9_name 49 = .ok (.if_icmp .ne 8, 3) := by decide +kernel
theorem dX9_name_52 : decode cX9_name 52 = .ok (.aload_n 0, 1) := by decide +kernel
theorem dX9_name_53 : decode cX9_name 53 = .ok (.invokevirtual 103, 3) := by decide +kernel
theorem dX9_name_56 : decode cX9_name 56 = .ok (.ireturn, 1) := by decide +kernel
theorem dX9_name_57 : decode cX9_name 57 = .ok (.bipush 80, 2) := by decide +kernel
theorem dX9_name_59 : decode cX9_name 59 = .ok (.iconst 4, 1) := by decide +kernel
theorem dX9_name_60 : decode cX9_name 60 = .ok (.aload_n 0, 1) := by decide +kernel
theorem dX9_name_61 : decode cX9_name 61 = .ok (.getfield 51, 3) := by decide +kernel
theorem dX9_name_64 : decode cX9_name 64 = .ok (.iconst 3, 1) := by decide +kernel
theorem dX9_name_65 : decode cX9_name 65 = .ok (.iaload, 1) := by decide +kernel
theorem dX9_name_66 : decode cX9_name 66 = .ok (.imul, 1) := by decide +kernel
theorem dX9_name_67 : decode cX9_name 67 = .ok (.iadd, 1) := by decide +kernel
theorem dX9_name_68 : decode cX9_name 68 = .ok (.istore 5, 2) := by decide +kernel
theorem dX9_name_70 : decode cX9_name 70 = .ok (.aload_n 0, 1) := by decide +kernel
theorem dX9_name_71 : decode cX9_name 71 = .ok (.getfield 51, 3) := by decide +kernel
theorem dX9_name_74 : decode cX9_name 74 = .ok (.iload 5, 2) := by decide +kernel
theorem dX9_name_76 : decode cX9_name 76 = .ok (.iload_n 1, 1) := by decide +kernel
theorem dX9_name_77 : decode cX9_name 77 = .ok (.iastore, 1) := by decide +kernel
theorem dX9_name_78 : decode cX9_name 78 = .ok (.aload_n 0, 1) := by decide +kernel
theorem dX9_name_79 : decode cX9_name 79 = .ok (.getfield 51, 3) := by decide +kernel
theorem dX9_name_82 : decode cX9_name 82 = .ok (.iload 5, 2) := by decide +kernel
theorem dX9_name_84 : decode cX9_name 84 = .ok (.iconst 1, 1) := by decide +kernel
theorem dX9_name_85 : decode cX9_name 85 = .ok (.iadd, 1) := by decide +kernel
theorem dX9_name_86 : decode cX9_name 86 = .ok (.iload_n 2, 1) := by decide +kernel
theorem dX9_name_87 : decode cX9_name 87 = .ok (.iastore, 1) := by decide +kernel
theorem dX9_name_88 : decode cX9_name 88 = .ok (.aload_n 0, 1) := by decide +kernel
theorem dX9_name_89 : decode cX9_name 89 = .ok (.getfield 51, 3) := by decide +kernel
theorem dX9_name_92 : decode cX9_name 92 = .ok (.iload 5, 2) := by decide +kernel
theorem dX9_name_94 : decode cX9_name 94 = .ok (.iconst 2, 1) := by decide +kernel
theorem dX9_name_95 : decode cX9_name 95 = .ok (.iadd, 1) := by decide +kernel
theorem dX9_name_96 : decode cX9_name 96 = .ok (.iload_n 3, 1) := by decide +kernel
theorem dX9_name_97 : decode cX9_name 97 = .ok (.iastore, 1) := by decide +kernel
theorem dX9_name_98 : decode cX9_name 98 = .ok (.aload_n 0, 1) := by decide +kernel
theorem dX9_name_99 : decode cX9_name 99 = .ok (.getfield 51, 3) := by decide +kernel
theorem dX9_name_102 : decode cX9_name 102 = .ok (.iload 5, 2) := by decide +kernel
theorem dX9_name_104 : decode cX9_name 104 = .ok (.iconst 3, 1) := by decide +kernel
theorem dX9_name_105 : decode cX9_name 105 = .ok (.iadd, 1) := by decide +kernel
theorem dX9_name_106 : decode cX9_name 106 = .ok (.iload 4, 2) := by decide +kernel
theorem dX9_name_108 : decode cX9_name 108 = .ok (.iastore, 1) := by decide +kernel
theorem dX9_name_109 : decode cX9_name 109 = .ok (.aload_n 0, 1) := by decide +kernel
theorem dX9_name_110 : decode cX9_name 110 = .ok (.getfield 51, 3) := by decide +kernel
theorem dX9_name_113 : decode cX9_name 113 = .ok (.iconst 3, 1) := by decide +kernel
theorem dX9_name_114 : decode cX9_name 114 = .ok (.dup2, 1) := by decide +kernel
theorem dX9_name_115 : decode cX9_name 115 = .ok (.iaload, 1) := by decide +kernel
theorem dX9_name_116 : decode cX9_name 116 = .ok (.iconst 1, 1) := by decide +kernel
theorem dX9_name_117 : decode cX9_name 117 = .ok (.iadd, 1) := by decide +kernel
theorem dX9_name_118 : decode cX9_name 118 = .ok (.iastore, 1) := by decide +kernel
theorem dX9_name_119 : decode cX9_name 119 = .ok (.aload_n 0, 1) := by decide +kernel
theorem dX9_name_120 : decode cX9_name 120 = .ok (.getfield 51, 3) := by decide +kernel
theorem dX9_name_123 : decode cX9_name 123 = .ok (.iconst 3, 1) := by decide +kernel
theorem dX9_name_124 : decode cX9_name 124 = .ok (.iaload, 1) := by decide +kernel
theorem dX9_name_125 : decode cX9_name 125 = .ok (.iconst 1, 1) := by decide +kernel
theorem dX9_name_126 : decode cX9_name 126 = .ok (.isub, 1) := by decide +kernel
theorem dX9_name_127 : decode cX9_name 127 = .ok (.ireturn, 1) := by decide +kernel
theorem me_X9_name : cx_Mv yX9_name cX9_name 6 (some .int) 4 := ⟨⟨⟨by decide +kernel, by decide +kernel, by decide +kernel⟩, hw_11, hw_1181⟩, hw_1179, hw_1180⟩
noncomputable def f_X9_name_J37 (m_book : Nat → Int32) (m_refused : Nat → Int32) (m_quiet : Int32) : Option (Int32 × (Nat → Int32) × (Nat → Int32)) := Option.bind (f_X9_bad m_refused m_quiet) (fun u4 => some ((u4.1, m_book, u4.2)))
noncomputable def f_X9_name (m_book : Nat → Int32) (m_refused : Nat → Int32) (m_quiet : Int32) (p1 : Int32) (p2 : Int32) (p3 : Int32) (p4 : Int32) : Option (Int32 × (Nat → Int32) × (Nat → Int32)) := Option.bind (f_X9_in (Int32.toInt64 p1) 0 5) (fun u1 => if u1 = 0 then (f_X9_name_J37 m_book m_refused m_quiet) else (Option.bind (f_X9_isHead m_book p2) (fun u6 => if u6 = 0 then (f_X9_name_J37 m_book m_refused m_quiet) else (Option.bind (f_X9_isPerson m_book p3) (fun u9 => if u9 = 0 then (f_X9_name_J37 m_book m_refused m_quiet) else (Option.bind (f_X9_isPerson m_book p4) (fun u12 => if u12 = 0 then (f_X9_name_J37 m_book m_refused m_quiet) else (cx_gd (cx_ib 3 140) (if (m_book (cx_ix 3)) = 4 then (Option.bind (f_X9_full m_refused m_quiet) (fun u31 => some ((u31.1, m_book, u31.2)))) else (cx_gd (cx_ib 3 140) (cx_let (80 + (4 * (m_book (cx_ix 3)))) (fun v18 => cx_gd (cx_ib v18 140) (cx_let (upd m_book (cx_ix v18) p1) (fun a20 => cx_gd (cx_ib (v18 + 1) 140) (cx_let (upd a20 (cx_ix (v18 + 1)) p2) (fun a22 => cx_gd (cx_ib (v18 + 2) 140) (cx_let (upd a22 (cx_ix (v18 + 2)) p3) (fun a24 => cx_gd (cx_ib (v18 + 3) 140) (cx_let (upd a24 (cx_ix (v18 + 3)) p4) (fun a26 => cx_gd (cx_ib 3 140) (cx_gd (cx_ib 3 140) (cx_let (upd a26 (cx_ix 3) ((a26 (cx_ix 3)) + 1)) (fun a29 => cx_gd (cx_ib 3 140) (some (((a29 (cx_ix 3)) - 1, a29, m_refused))))))))))))))))))))))))))
set_option maxHeartbeats 4000000 in
set_option maxRecDepth 100000 in
theorem c_X9_name (l : Launch) (D : va_G) (k : Nat → ClassId) (m_a : Nat → Nat) (m_limbs : Nat → Int32) (m_wide : Nat → Int32) (m_book : Nat → Int32) (m_images : Nat → Int32) (m_kept : Nat → Int32) (m_before : Nat → Int32) (m_refused : Nat → Int32) (m_quiet : Int32) (m_text : Nat → Int32) (m_typed : Int32) (m_at : Int32) (m_start : Int32) (m_token : Int32) (m_value : Int32) (m_items : Nat → Int32) (m_many : Int32) (m_is : Nat → Int32) (m_likes : Nat → Int32) (m_without : Int32) (m_onePicture : Int32) (m_oneYear : Int32) (m_first : Int32) (m_second : Int32) (m_names : Nat → Int32) (p1 : Int32) (p2 : Int32) (p3 : Int32) (p4 : Int32) (y : Int32 × (Nat → Int32) × (Nat → Int32)) (hf : f_X9_name m_book m_refused m_quiet p1 p2 p3 p4 = some y) : cx_M l yX9_name cX9_name 6 (some .int) 3 D k [.ref (m_a 0), .int p1, .int p2, .int p3, .int p4] (wd_Model k m_a m_limbs m_wide m_book m_images m_kept m_before m_refused m_quiet m_text m_typed m_at m_start m_token m_value m_items m_many m_is m_likes m_without m_onePicture m_oneYear m_first m_second m_names) (fun sz => cx_Qi D y.1 (wd_Model k m_a m_limbs m_wide m_book m_images m_kept m_before m_refused m_quiet m_text m_typed m_at m_start m_token m_value m_items m_many m_is m_likes m_without m_onePicture m_oneYear m_first m_second m_names) (wd_Model k m_a m_limbs m_wide y.2.1 m_images m_kept m_before y.2.2 m_quiet m_text m_typed m_at m_start m_token m_value m_items m_many m_is m_likes m_without m_onePicture m_oneYear m_first m_second m_names) sz) := by
  refine cx_met (own := "NamelessBoxModel") (by decide) rfl (Nat.le_of_ble_eq_true rfl) ?_
  intro p e s m args below meth c A Q C hA hQ hr hlk
  refine cx_lv (lv' := [(0, .ref (m_a 0)), (1, .int p1), (2, .int p2), (3, .int p3), (4, .int p4)]) [0, 1, 2, 3, 4] rfl ?_
  have J37 : f_X9_name_J37 m_book m_refused m_quiet = some y → cx_S p l e (cx_rm 3) s m args below meth c A D 6 0 0 Q 37 [(0, .ref (m_a 0))] [] (wd_Model k m_a m_limbs m_wide m_book m_images m_kept m_before m_refused m_quiet m_text m_typed m_at m_start m_token m_value m_items m_many m_is m_likes m_without m_onePicture m_oneYear m_first m_second m_names) := by
    intro  hf
    unfold f_X9_name_J37 at hf
    refine cx_aload_n C dX9_name_37 0 rfl ?_
    obtain ⟨u4, e5, hf⟩ := cx_bd_at hf
    refine cx_Fvi (q := (RX9, TX9, 24)) (As := []) (rest := []) (w1 := (wd_Model k m_a m_limbs m_wide m_book m_images m_kept m_before u4.2 m_quiet m_text m_typed m_at m_start m_token m_value m_items m_many m_is m_likes m_without m_onePicture m_oneYear m_first m_second m_names)) hA C me_X9_bad hw_1137 (c_X9_bad l D k m_a m_limbs m_wide m_book m_images m_kept m_before m_refused m_quiet m_text m_typed m_at m_start m_token m_value m_items m_many m_is m_likes m_without m_onePicture m_oneYear m_first m_second m_names u4 e5) dX9_name_38 ⟨Nat.le_of_ble_eq_true rfl, Nat.le_of_ble_eq_true rfl⟩ ⟨Nat.zero_le _, Nat.zero_le _⟩ rfl rfl (Nat.le_of_ble_eq_true rfl) rfl rfl rfl ?_
    clear e5
    obtain rfl := Option.some.inj hf
    exact cx_iret C hA hQ hr hlk dX9_name_41 rfl rfl
  unfold f_X9_name at hf
  refine cx_iload_n C dX9_name_0 1 rfl ?_
  refine cx_i2l C dX9_name_1 ?_
  refine cx_lconst (v := 0) C dX9_name_2 (by decide) ?_
  refine cx_ldc2 (v := 5) C dX9_name_3 hw_1182 ?_
  obtain ⟨u1, e2, hf⟩ := cx_bd_at hf
  refine cx_Ksi (As := [.long (Int32.toInt64 p1), .long 0, .long 5]) (rest := []) hA C me_X9_in hw_1132 (c_X9_in l D k (Int32.toInt64 p1) 0 5 u1 e2) dX9_name_6 ⟨Nat.le_of_ble_eq_true rfl, Nat.le_of_ble_eq_true rfl⟩ ⟨Nat.zero_le _, Nat.zero_le _⟩ rfl rfl (Nat.le_of_ble_eq_true rfl) [] rfl (by decide) ?_
  clear e2
  refine cx_if_eq (tgt := 37) C dX9_name_9 (by decide) (fun c3 => ?_) (fun c3 => ?_)
  · have hf := cx_if_t hf c3
    clear c3
    refine cx_lv [0] rfl ?_
    exact J37 hf
  · have hf := cx_if_f hf c3
    clear c3
    refine cx_aload_n C dX9_name_12 0 rfl ?_
    refine cx_iload_n C dX9_name_13 2 rfl ?_
    obtain ⟨u6, e7, hf⟩ := cx_bd_at hf
    refine cx_Fvi (q := (RX9, TX9, 24)) (As := [.int p2]) (rest := []) (w1 := (wd_Model k m_a m_limbs m_wide m_book m_images m_kept m_before m_refused m_quiet m_text m_typed m_at m_start m_token m_value m_items m_many m_is m_likes m_without m_onePicture m_oneYear m_first m_second m_names)) hA C me_X9_isHead hw_1183 (c_X9_isHead l D k m_a m_limbs m_wide m_book m_images m_kept m_before m_refused m_quiet m_text m_typed m_at m_start m_token m_value m_items m_many m_is m_likes m_without m_onePicture m_oneYear m_first m_second m_names p2 u6 e7) dX9_name_14 ⟨Nat.le_of_ble_eq_true rfl, Nat.le_of_ble_eq_true rfl⟩ ⟨Nat.zero_le _, Nat.zero_le _⟩ rfl rfl (Nat.le_of_ble_eq_true rfl) rfl rfl rfl ?_
    clear e7
    refine cx_if_eq (tgt := 37) C dX9_name_17 (by decide) (fun c8 => ?_) (fun c8 => ?_)
    · have hf := cx_if_t hf c8
      clear c8
      refine cx_lv [0] rfl ?_
      exact J37 hf
    · have hf := cx_if_f hf c8
      clear c8
      refine cx_aload_n C dX9_name_20 0 rfl ?_
      refine cx_iload_n C dX9_name_21 3 rfl ?_
      obtain ⟨u9, e10, hf⟩ := cx_bd_at hf
      refine cx_Fvi (q := (RX9, TX9, 24)) (As := [.int p3]) (rest := []) (w1 := (wd_Model k m_a m_limbs m_wide m_book m_images m_kept m_before m_refused m_quiet m_text m_typed m_at m_start m_token m_value m_items m_many m_is m_likes m_without m_onePicture m_oneYear m_first m_second m_names)) hA C me_X9_isPerson hw_1153 (c_X9_isPerson l D k m_a m_limbs m_wide m_book m_images m_kept m_before m_refused m_quiet m_text m_typed m_at m_start m_token m_value m_items m_many m_is m_likes m_without m_onePicture m_oneYear m_first m_second m_names p3 u9 e10) dX9_name_22 ⟨Nat.le_of_ble_eq_true rfl, Nat.le_of_ble_eq_true rfl⟩ ⟨Nat.zero_le _, Nat.zero_le _⟩ rfl rfl (Nat.le_of_ble_eq_true rfl) rfl rfl rfl ?_
      clear e10
      refine cx_if_eq (tgt := 37) C dX9_name_25 (by decide) (fun c11 => ?_) (fun c11 => ?_)
      · have hf := cx_if_t hf c11
        clear c11
        refine cx_lv [0] rfl ?_
        exact J37 hf
      · have hf := cx_if_f hf c11
        clear c11
        refine cx_aload_n C dX9_name_28 0 rfl ?_
        refine cx_iload C dX9_name_29 4 rfl ?_
        obtain ⟨u12, e13, hf⟩ := cx_bd_at hf
        refine cx_Fvi (q := (RX9, TX9, 24)) (As := [.int p4]) (rest := []) (w1 := (wd_Model k m_a m_limbs m_wide m_book m_images m_kept m_before m_refused m_quiet m_text m_typed m_at m_start m_token m_value m_items m_many m_is m_likes m_without m_onePicture m_oneYear m_first m_second m_names)) hA C me_X9_isPerson hw_1153 (c_X9_isPerson l D k m_a m_limbs m_wide m_book m_images m_kept m_before m_refused m_quiet m_text m_typed m_at m_start m_token m_value m_items m_many m_is m_likes m_without m_onePicture m_oneYear m_first m_second m_names p4 u12 e13) dX9_name_31 ⟨Nat.le_of_ble_eq_true rfl, Nat.le_of_ble_eq_true rfl⟩ ⟨Nat.zero_le _, Nat.zero_le _⟩ rfl rfl (Nat.le_of_ble_eq_true rfl) rfl rfl rfl ?_
        clear e13
        refine cx_if_ne (tgt := 42) C dX9_name_34 (by decide) (fun c14 => ?_) (fun c14 => ?_)
        · have hf := cx_if_f hf c14
          clear c14
          refine cx_aload_n C dX9_name_42 0 rfl ?_
          refine cx_get (v := .ref (m_a 3)) (ci := 8) C iX9 dX9_name_43 0 rfl rfl 2 (by decide) hw_1056 rfl ?_
          refine cx_iconst (v := 3) C dX9_name_46 (by decide) ?_
          obtain ⟨g15, hf⟩ := cx_gd_at hf
          refine cx_iald C dX9_name_47 3 rfl (cx_ib_in g15) ?_
          clear g15
          refine cx_iconst (v := 4) C dX9_name_48 (by decide) ?_
          refine cx_icmp_ne (tgt := 57) C dX9_name_49 (by decide) (fun c16 => ?_) (fun c16 => ?_)
          · have hf := cx_if_f hf c16
            clear c16
            refine cx_bipush (v := 80) C dX9_name_57 (by decide) ?_
            refine cx_iconst (v := 4) C dX9_name_59 (by decide) ?_
            refine cx_aload_n C dX9_name_60 0 rfl ?_
            refine cx_get (v := .ref (m_a 3)) (ci := 8) C iX9 dX9_name_61 0 rfl rfl 2 (by decide) hw_1056 rfl ?_
            refine cx_iconst (v := 3) C dX9_name_64 (by decide) ?_
            obtain ⟨g17, hf⟩ := cx_gd_at hf
            refine cx_iald C dX9_name_65 3 rfl (cx_ib_in g17) ?_
            clear g17
            refine cx_imul C dX9_name_66 ?_
            refine cx_iadd C dX9_name_67 ?_
            refine cx_topi (fun v18 ev18 => ?_)
            have hf := cx_let_at hf ev18
            clear ev18
            refine cx_istore (lv' := [(5, .int v18), (0, .ref (m_a 0)), (1, .int p1), (2, .int p2), (3, .int p3), (4, .int p4)]) C dX9_name_68 (by decide) rfl ?_
            refine cx_aload_n C dX9_name_70 1 rfl ?_
            refine cx_get (v := .ref (m_a 3)) (ci := 8) C iX9 dX9_name_71 0 rfl rfl 2 (by decide) hw_1056 rfl ?_
            refine cx_iload C dX9_name_74 0 rfl ?_
            refine cx_iload_n C dX9_name_76 2 rfl ?_
            obtain ⟨g19, hf⟩ := cx_gd_at hf
            obtain ⟨a20, ea20⟩ : ∃ z, z = upd m_book (cx_ix v18) p1 := ⟨_, rfl⟩
            have hf := cx_let_at hf ea20
            refine cx_iast (ws' := (wd_Model k m_a m_limbs m_wide a20 m_images m_kept m_before m_refused m_quiet m_text m_typed m_at m_start m_token m_value m_items m_many m_is m_likes m_without m_onePicture m_oneYear m_first m_second m_names)) C dX9_name_77 3 rfl (cx_ib_in g19) (by rw [ea20]; rfl) ?_
            clear ea20 g19
            refine cx_aload_n C dX9_name_78 1 rfl ?_
            refine cx_get (v := .ref (m_a 3)) (ci := 8) C iX9 dX9_name_79 0 rfl rfl 2 (by decide) hw_1056 rfl ?_
            refine cx_iload C dX9_name_82 0 rfl ?_
            refine cx_iconst (v := 1) C dX9_name_84 (by decide) ?_
            refine cx_iadd C dX9_name_85 ?_
            refine cx_iload_n C dX9_name_86 3 rfl ?_
            obtain ⟨g21, hf⟩ := cx_gd_at hf
            obtain ⟨a22, ea22⟩ : ∃ z, z = upd a20 (cx_ix (v18 + 1)) p2 := ⟨_, rfl⟩
            have hf := cx_let_at hf ea22
            refine cx_iast (ws' := (wd_Model k m_a m_limbs m_wide a22 m_images m_kept m_before m_refused m_quiet m_text m_typed m_at m_start m_token m_value m_items m_many m_is m_likes m_without m_onePicture m_oneYear m_first m_second m_names)) C dX9_name_87 3 rfl (cx_ib_in g21) (by rw [ea22]; rfl) ?_
            clear ea22 g21
            refine cx_aload_n C dX9_name_88 1 rfl ?_
            refine cx_get (v := .ref (m_a 3)) (ci := 8) C iX9 dX9_name_89 0 rfl rfl 2 (by decide) hw_1056 rfl ?_
            refine cx_iload C dX9_name_92 0 rfl ?_
            refine cx_iconst (v := 2) C dX9_name_94 (by decide) ?_
            refine cx_iadd C dX9_name_95 ?_
            refine cx_iload_n C dX9_name_96 4 rfl ?_
            obtain ⟨g23, hf⟩ := cx_gd_at hf
            obtain ⟨a24, ea24⟩ : ∃ z, z = upd a22 (cx_ix (v18 + 2)) p3 := ⟨_, rfl⟩
            have hf := cx_let_at hf ea24
            refine cx_iast (ws' := (wd_Model k m_a m_limbs m_wide a24 m_images m_kept m_before m_refused m_quiet m_text m_typed m_at m_start m_token m_value m_items m_many m_is m_likes m_without m_onePicture m_oneYear m_first m_second m_names)) C dX9_name_97 3 rfl (cx_ib_in g23) (by rw [ea24]; rfl) ?_
            clear ea24 g23
            refine cx_aload_n C dX9_name_98 1 rfl ?_
            refine cx_get (v := .ref (m_a 3)) (ci := 8) C iX9 dX9_name_99 0 rfl rfl 2 (by decide) hw_1056 rfl ?_
            refine cx_iload C dX9_name_102 0 rfl ?_
            refine cx_iconst (v := 3) C dX9_name_104 (by decide) ?_
            refine cx_iadd C dX9_name_105 ?_
            refine cx_iload C dX9_name_106 5 rfl ?_
            obtain ⟨g25, hf⟩ := cx_gd_at hf
            obtain ⟨a26, ea26⟩ : ∃ z, z = upd a24 (cx_ix (v18 + 3)) p4 := ⟨_, rfl⟩
            have hf := cx_let_at hf ea26
            refine cx_iast (ws' := (wd_Model k m_a m_limbs m_wide a26 m_images m_kept m_before m_refused m_quiet m_text m_typed m_at m_start m_token m_value m_items m_many m_is m_likes m_without m_onePicture m_oneYear m_first m_second m_names)) C dX9_name_108 3 rfl (cx_ib_in g25) (by rw [ea26]; rfl) ?_
            clear ea26 g25
            refine cx_aload_n C dX9_name_109 1 rfl ?_
            refine cx_get (v := .ref (m_a 3)) (ci := 8) C iX9 dX9_name_110 0 rfl rfl 2 (by decide) hw_1056 rfl ?_
            refine cx_iconst (v := 3) C dX9_name_113 (by decide) ?_
            refine cx_dup2_11 C dX9_name_114 rfl rfl ?_
            obtain ⟨g27, hf⟩ := cx_gd_at hf
            refine cx_iald C dX9_name_115 3 rfl (cx_ib_in g27) ?_
            clear g27
            refine cx_iconst (v := 1) C dX9_name_116 (by decide) ?_
            refine cx_iadd C dX9_name_117 ?_
            obtain ⟨g28, hf⟩ := cx_gd_at hf
            obtain ⟨a29, ea29⟩ : ∃ z, z = upd a26 (cx_ix 3) ((a26 (cx_ix 3)) + 1) := ⟨_, rfl⟩
            have hf := cx_let_at hf ea29
            refine cx_iast (ws' := (wd_Model k m_a m_limbs m_wide a29 m_images m_kept m_before m_refused m_quiet m_text m_typed m_at m_start m_token m_value m_items m_many m_is m_likes m_without m_onePicture m_oneYear m_first m_second m_names)) C dX9_name_118 3 rfl (cx_ib_in g28) (by rw [ea29]; rfl) ?_
            clear ea29 g28
            refine cx_aload_n C dX9_name_119 1 rfl ?_
            refine cx_get (v := .ref (m_a 3)) (ci := 8) C iX9 dX9_name_120 0 rfl rfl 2 (by decide) hw_1056 rfl ?_
            refine cx_iconst (v := 3) C dX9_name_123 (by decide) ?_
            obtain ⟨g30, hf⟩ := cx_gd_at hf
            refine cx_iald C dX9_name_124 3 rfl (cx_ib_in g30) ?_
            clear g30
            refine cx_iconst (v := 1) C dX9_name_125 (by decide) ?_
            refine cx_isub C dX9_name_126 ?_
            obtain rfl := Option.some.inj hf
            exact cx_iret C hA hQ hr hlk dX9_name_127 rfl rfl
          · have hf := cx_if_t hf c16
            clear c16
            refine cx_aload_n C dX9_name_52 0 rfl ?_
            obtain ⟨u31, e32, hf⟩ := cx_bd_at hf
            refine cx_Fvi (q := (RX9, TX9, 24)) (As := []) (rest := []) (w1 := (wd_Model k m_a m_limbs m_wide m_book m_images m_kept m_before u31.2 m_quiet m_text m_typed m_at m_start m_token m_value m_items m_many m_is m_likes m_without m_onePicture m_oneYear m_first m_second m_names)) hA C me_X9_full hw_1145 (c_X9_full l D k m_a m_limbs m_wide m_book m_images m_kept m_before m_refused m_quiet m_text m_typed m_at m_start m_token m_value m_items m_many m_is m_likes m_without m_onePicture m_oneYear m_first m_second m_names u31 e32) dX9_name_53 ⟨Nat.le_of_ble_eq_true rfl, Nat.le_of_ble_eq_true rfl⟩ ⟨Nat.zero_le _, Nat.zero_le _⟩ rfl rfl (Nat.le_of_ble_eq_true rfl) rfl rfl rfl ?_
            clear e32
            obtain rfl := Option.some.inj hf
            exact cx_iret C hA hQ hr hlk dX9_name_56 rfl rfl
        · have hf := cx_if_t hf c14
          clear c14
          refine cx_lv [0] rfl ?_
          exact J37 hf
theorem dX9_join_0 : decode cX9_join 0 = .ok (.aload_n 0, 1) := by decide +kernel
theorem dX9_join_1 : decode cX9_join 1 = .ok (.iload_n 1, 1) := by decide +kernel
theorem dX9_join_2 : decode cX9_join 2 = .ok (.invokevirtual 119, 3) := by decide +kernel
theorem dX9_join_5 : decode cX9_join 5 = .ok (.ifCond .eq 38, 3) := by decide +kernel
theorem dX9_join_8 : decode cX9_join 8 = .ok (.aload_n 0, 1) := by decide +kernel
theorem dX9_join_9 : decode cX9_join 9 = .ok (.iload_n 2, 1) := by decide +kernel
theorem dX9_join_10 : decode cX9_join 10 = .ok (.invokevirtual 119, 3) := by decide +kernel
theorem dX9_join_13 : decode cX9_join 13 = .ok (.ifCond .eq 30, 3) := by decide +kernel
theorem dX9_join_16 : decode cX9_join 16 = .ok (.aload_n 0, 1) := by decide +kernel
theorem dX9_join_17 : decode cX9_join 17 = .ok (.iload_n 1, 1) := by decide +kernel
theorem dX9_join_18 : decode cX9_join 18 = .ok (.iconst 0, 1) := by decide +kernel
theorem dX9_join_19 : decode cX9_join 19 = .ok (.invokevirtual 122, 3) := by decide +kernel
theorem dX9_join_22 : decode cX9_join 22 = .ok (.aload_n 0, 1) := by decide +kernel
theorem dX9_join_23 : decode cX9_join 23 = .ok (.iload_n 2, 1) := by decide +kernel
theorem dX9_join_24 : decode cX9_join 24 = .ok (.iconst 0, 1) := by decide +kernel
theorem dX9_join_25 : decode cX9_join 25 = .ok (.invokevirtual 122, 3) := by decide +kernel
theorem dX9_join_28 : decode cX9_join 28 = .ok (.if_icmp .eq 15, 3) := by decide +kernel
theorem dX9_join_31 : decode cX9_join 31 = .ok (.iload_n 3, 1) := by decide +kernel
theorem dX9_join_32 : decode cX9_join 32 = .ok (.i2l, 1) := by decide +kernel
theorem dX9_join_33 : decode cX9_join 33 = .ok (.lconst 0, 1) := by decide +kernel
theorem dX9_join_34 : decode cX9_join 34 = .ok (.ldc2_w 125, 3) := by decide +kernel
theorem dX9_join_37 : decode cX9_join 37 = .ok (.invokestatic 89, 3) := by decide +kernel
theorem dX9_join_40 : decode cX9_join 40 = .ok (.ifCond .ne 8, 3) := by decide +kernel
theorem dX9_join_43 : decode cX9_join 43 = .ok (.aload_n 0, 1) := by decide +kernel
theorem dX9_join_44 : decode cX9_join 44 = .ok (.invokevirtual 99, 3) := by decide +kernel
theorem dX9_join_47 : decode cX9_join 47 = .ok (.ireturn, 1) := by decide +kernel
theorem dX9_join_48 : decode cX9_join 48 = .ok (.aload_n 0, 1) := by decide +kernel
theorem dX9_join_49 : decode cX9_join 49 = .ok (.getfield 51, 3) := by decide +kernel
theorem dX9_join_52 : decode cX9_join 52 = .ok (.iconst 4, 1) := by decide +kernel
theorem dX9_join_53 : decode cX9_join 53 = .ok (.iaload, 1) := by decide +kernel
theorem dX9_join_54 : decode cX9_join 54 = .ok (.iconst 4, 1) := by decide +kernel
theorem dX9_join_55 : decode cX9_join 55 = .ok (.if_icmp .ne 8, 3) := by decide +kernel
theorem dX9_join_58 : decode cX9_join 58 = .ok (.aload_n 0, 1) := by decide +kernel
theorem dX9_join_59 : decode cX9_join 59 = .ok (.invokevirtual 103, 3) := by decide +kernel
theorem dX9_join_62 : decode cX9_join 62 = .ok (.ireturn, 1) := by decide +kernel
theorem dX9_join_63 : decode cX9_join 63 = .ok (.bipush 100, 2) := by decide +kernel
theorem dX9_join_65 : decode cX9_join 65 = .ok (.iconst 3, 1) := by decide +kernel
theorem dX9_join_66 : decode cX9_join 66 = .ok (.aload_n 0, 1) := by decide +kernel
theorem dX9_join_67 : decode cX9_join 67 = .ok (.getfield 51, 3) := by decide +kernel
theorem dX9_join_70 : decode cX9_join 70 = .ok (.iconst 4, 1) := by decide +kernel
theorem dX9_join_71 : decode cX9_join 71 = .ok (.iaload, 1) := by decide +kernel
theorem dX9_join_72 : decode cX9_join 72 = .ok (.imul, 1) := by decide +kernel
theorem dX9_join_73 : decode cX9_join 73 = .ok (.iadd, 1) := by decide +kernel
theorem dX9_join_74 : decode cX9_join 74 = .ok (.istore 4, 2) := by decide +kernel
theorem dX9_join_76 : decode cX9_join 76 = .ok (.aload_n 0, 1) := by decide +kernel
theorem dX9_join_77 : decode cX9_join 77 = .ok (.getfield 51, 3) := by decide +kernel
theorem dX9_join_80 : decode cX9_join 80 = .ok (.iload 4, 2) := by decide +kernel
theorem dX9_join_82 : decode cX9_join 82 = .ok (.iload_n 1, 1) := by decide +kernel
theorem dX9_join_83 : decode cX9_join 83 = .ok (.iastore, 1) := by decide +kernel
theorem dX9_join_84 : decode cX9_join 84 = .ok (.aload_n 0, 1) := by decide +kernel
theorem dX9_join_85 : decode cX9_join 85 = .ok (.getfield 51, 3) := by decide +kernel
theorem dX9_join_88 : decode cX9_join 88 = .ok (.iload 4, 2) := by decide +kernel
theorem dX9_join_90 : decode cX9_join 90 = .ok (.iconst 1, 1) := by decide +kernel
theorem dX9_join_91 : decode cX9_join 91 = .ok (.iadd, 1) := by decide +kernel
theorem dX9_join_92 : decode cX9_join 92 = .ok (.iload_n 2, 1) := by decide +kernel
theorem dX9_join_93 : decode cX9_join 93 = .ok (.iastore, 1) := by decide +kernel
theorem dX9_join_94 : decode cX9_join 94 = .ok (.aload_n 0, 1) := by decide +kernel
theorem dX9_join_95 : decode cX9_join 95 = .ok (.getfield 51, 3) := by decide +kernel
theorem dX9_join_98 : decode cX9_join 98 = .ok (.iload 4, 2) := by decide +kernel
theorem dX9_join_100 : decode cX9_join 100 = .ok (.iconst 2, 1) := by decide +kernel
theorem dX9_join_101 : decode cX9_join 101 = .ok (.iadd, 1) := by decide +kernel
theorem dX9_join_102 : decode cX9_join 102 = .ok (.iload_n 3, 1) := by decide +kernel
theorem dX9_join_103 : decode cX9_join 103 = .ok (.iastore, 1) := by decide +kernel
theorem dX9_join_104 : decode cX9_join 104 = .ok (.aload_n 0, 1) := by decide +kernel
theorem dX9_join_105 : decode cX9_join 105 = .ok (.getfield 51, 3) := by decide +kernel
theorem dX9_join_108 : decode cX9_join 108 = .ok (.iconst 4, 1) := by decide +kernel
theorem dX9_join_109 : decode cX9_join 109 = .ok (.dup2, 1) := by decide +kernel
theorem dX9_join_110 : decode cX9_join 110 = .ok (.iaload, 1) := by decide +kernel
theorem dX9_join_111 : decode cX9_join 111 = .ok (.iconst 1, 1) := by decide +kernel
theorem dX9_join_112 : decode cX9_join 112 = .ok (.iadd, 1) := by decide +kernel
theorem dX9_join_113 : decode cX9_join 113 = .ok (.iastore, 1) := by decide +kernel
theorem dX9_join_114 : decode cX9_join 114 = .ok (.aload_n 0, 1) := by decide +kernel
theorem dX9_join_115 : decode cX9_join 115 = .ok (.getfield 51, 3) := by decide +kernel
theorem dX9_join_118 : decode cX9_join 118 = .ok (.iconst 4, 1) := by decide +kernel
theorem dX9_join_119 : decode cX9_join 119 = .ok (.iaload, 1) := by decide +kernel
theorem dX9_join_120 : decode cX9_join 120 = .ok (.iconst 1, 1) := by decide +kernel
theorem dX9_join_121 : decode cX9_join 121 = .ok (.isub, 1) := by decide +kernel
theorem dX9_join_122 : decode cX9_join 122 = .ok (.ireturn, 1) := by decide +kernel
theorem me_X9_join : cx_Mv yX9_join cX9_join 5 (some .int) 3 := ⟨⟨⟨by decide +kernel, by decide +kernel, by decide +kernel⟩, hw_11, hw_1190⟩, hw_1188, hw_1189⟩
noncomputable def f_X9_join_J43 (m_book : Nat → Int32) (m_refused : Nat → Int32) (m_quiet : Int32) : Option (Int32 × (Nat → Int32) × (Nat → Int32)) := Option.bind (f_X9_bad m_refused m_quiet) (fun u4 => some ((u4.1, m_book, u4.2)))
noncomputable def f_X9_join (m_book : Nat → Int32) (m_refused : Nat → Int32) (m_quiet : Int32) (p1 : Int32) (p2 : Int32) (p3 : Int32) : Option (Int32 × (Nat → Int32) × (Nat → Int32)) := Option.bind (f_X9_isHead m_book p1) (fun u1 => if u1 = 0 then (f_X9_join_J43 m_book m_refused m_quiet) else (Option.bind (f_X9_isHead m_book p2) (fun u6 => if u6 = 0 then (f_X9_join_J43 m_book m_refused m_quiet) else (Option.bind (f_X9_ofHead m_book p1 0) (fun u9 => Option.bind (f_X9_ofHead m_book p2 0) (fun u11 => if u9 = u11 then (f_X9_join_J43 m_book m_refused m_quiet) else (Option.bind (f_X9_in (Int32.toInt64 p3) 0 10) (fun u14 => if u14 = 0 then (f_X9_join_J43 m_book m_refused m_quiet) else (cx_gd (cx_ib 4 140) (if (m_book (cx_ix 4)) = 4 then (Option.bind (f_X9_full m_refused m_quiet) (fun u31 => some ((u31.1, m_book, u31.2)))) else (cx_gd (cx_ib 4 140) (cx_let (100 + (3 * (m_book (cx_ix 4)))) (fun v20 => cx_gd (cx_ib v20 140) (cx_let (upd m_book (cx_ix v20) p1) (fun a22 => cx_gd (cx_ib (v20 + 1) 140) (cx_let (upd a22 (cx_ix (v20 + 1)) p2) (fun a24 => cx_gd (cx_ib (v20 + 2) 140) (cx_let (upd a24 (cx_ix (v20 + 2)) p3) (fun a26 => cx_gd (cx_ib 4 140) (cx_gd (cx_ib 4 140) (cx_let (upd a26 (cx_ix 4) ((a26 (cx_ix 4)) + 1)) (fun a29 => cx_gd (cx_ib 4 140) (some (((a29 (cx_ix 4)) - 1, a29, m_refused)))))))))))))))))))))))))
set_option maxHeartbeats 4000000 in
set_option maxRecDepth 100000 in
theorem c_X9_join (l : Launch) (D : va_G) (k : Nat → ClassId) (m_a : Nat → Nat) (m_limbs : Nat → Int32) (m_wide : Nat → Int32) (m_book : Nat → Int32) (m_images : Nat → Int32) (m_kept : Nat → Int32) (m_before : Nat → Int32) (m_refused : Nat → Int32) (m_quiet : Int32) (m_text : Nat → Int32) (m_typed : Int32) (m_at : Int32) (m_start : Int32) (m_token : Int32) (m_value : Int32) (m_items : Nat → Int32) (m_many : Int32) (m_is : Nat → Int32) (m_likes : Nat → Int32) (m_without : Int32) (m_onePicture : Int32) (m_oneYear : Int32) (m_first : Int32) (m_second : Int32) (m_names : Nat → Int32) (p1 : Int32) (p2 : Int32) (p3 : Int32) (y : Int32 × (Nat → Int32) × (Nat → Int32)) (hf : f_X9_join m_book m_refused m_quiet p1 p2 p3 = some y) : cx_M l yX9_join cX9_join 5 (some .int) 3 D k [.ref (m_a 0), .int p1, .int p2, .int p3] (wd_Model k m_a m_limbs m_wide m_book m_images m_kept m_before m_refused m_quiet m_text m_typed m_at m_start m_token m_value m_items m_many m_is m_likes m_without m_onePicture m_oneYear m_first m_second m_names) (fun sz => cx_Qi D y.1 (wd_Model k m_a m_limbs m_wide m_book m_images m_kept m_before m_refused m_quiet m_text m_typed m_at m_start m_token m_value m_items m_many m_is m_likes m_without m_onePicture m_oneYear m_first m_second m_names) (wd_Model k m_a m_limbs m_wide y.2.1 m_images m_kept m_before y.2.2 m_quiet m_text m_typed m_at m_start m_token m_value m_items m_many m_is m_likes m_without m_onePicture m_oneYear m_first m_second m_names) sz) := by
  refine cx_met (own := "NamelessBoxModel") (by decide) rfl (Nat.le_of_ble_eq_true rfl) ?_
  intro p e s m args below meth c A Q C hA hQ hr hlk
  refine cx_lv (lv' := [(0, .ref (m_a 0)), (1, .int p1), (2, .int p2), (3, .int p3)]) [0, 1, 2, 3] rfl ?_
  have J43 : f_X9_join_J43 m_book m_refused m_quiet = some y → cx_S p l e (cx_rm 3) s m args below meth c A D 5 0 0 Q 43 [(0, .ref (m_a 0))] [] (wd_Model k m_a m_limbs m_wide m_book m_images m_kept m_before m_refused m_quiet m_text m_typed m_at m_start m_token m_value m_items m_many m_is m_likes m_without m_onePicture m_oneYear m_first m_second m_names) := by
    intro  hf
    unfold f_X9_join_J43 at hf
    refine cx_aload_n C dX9_join_43 0 rfl ?_
    obtain ⟨u4, e5, hf⟩ := cx_bd_at hf
    refine cx_Fvi (q := (RX9, TX9, 24)) (As := []) (rest := []) (w1 := (wd_Model k m_a m_limbs m_wide m_book m_images m_kept m_before u4.2 m_quiet m_text m_typed m_at m_start m_token m_value m_items m_many m_is m_likes m_without m_onePicture m_oneYear m_first m_second m_names)) hA C me_X9_bad hw_1137 (c_X9_bad l D k m_a m_limbs m_wide m_book m_images m_kept m_before m_refused m_quiet m_text m_typed m_at m_start m_token m_value m_items m_many m_is m_likes m_without m_onePicture m_oneYear m_first m_second m_names u4 e5) dX9_join_44 ⟨Nat.le_of_ble_eq_true rfl, Nat.le_of_ble_eq_true rfl⟩ ⟨Nat.zero_le _, Nat.zero_le _⟩ rfl rfl (Nat.le_of_ble_eq_true rfl) rfl rfl rfl ?_
    clear e5
    obtain rfl := Option.some.inj hf
    exact cx_iret C hA hQ hr hlk dX9_join_47 rfl rfl
  unfold f_X9_join at hf
  refine cx_aload_n C dX9_join_0 0 rfl ?_
  refine cx_iload_n C dX9_join_1 1 rfl ?_
  obtain ⟨u1, e2, hf⟩ := cx_bd_at hf
  refine cx_Fvi (q := (RX9, TX9, 24)) (As := [.int p1]) (rest := []) (w1 := (wd_Model k m_a m_limbs m_wide m_book m_images m_kept m_before m_refused m_quiet m_text m_typed m_at m_start m_token m_value m_items m_many m_is m_likes m_without m_onePicture m_oneYear m_first m_second m_names)) hA C me_X9_isHead hw_1183 (c_X9_isHead l D k m_a m_limbs m_wide m_book m_images m_kept m_before m_refused m_quiet m_text m_typed m_at m_start m_token m_value m_items m_many m_is m_likes m_without m_onePicture m_oneYear m_first m_second m_names p1 u1 e2) dX9_join_2 ⟨Nat.le_of_ble_eq_true rfl, Nat.le_of_ble_eq_true rfl⟩ ⟨Nat.zero_le _, Nat.zero_le _⟩ rfl rfl (Nat.le_of_ble_eq_true rfl) rfl rfl rfl ?_
  clear e2
  refine cx_if_eq (tgt := 43) C dX9_join_5 (by decide) (fun c3 => ?_) (fun c3 => ?_)
  · have hf := cx_if_t hf c3
    clear c3
    refine cx_lv [0] rfl ?_
    exact J43 hf
  · have hf := cx_if_f hf c3
    clear c3
    refine cx_aload_n C dX9_join_8 0 rfl ?_
    refine cx_iload_n C dX9_join_9 2 rfl ?_
    obtain ⟨u6, e7, hf⟩ := cx_bd_at hf
    refine cx_Fvi (q := (RX9, TX9, 24)) (As := [.int p2]) (rest := []) (w1 := (wd_Model k m_a m_limbs m_wide m_book m_images m_kept m_before m_refused m_quiet m_text m_typed m_at m_start m_token m_value m_items m_many m_is m_likes m_without m_onePicture m_oneYear m_first m_second m_names)) hA C me_X9_isHead hw_1183 (c_X9_isHead l D k m_a m_limbs m_wide m_book m_images m_kept m_before m_refused m_quiet m_text m_typed m_at m_start m_token m_value m_items m_many m_is m_likes m_without m_onePicture m_oneYear m_first m_second m_names p2 u6 e7) dX9_join_10 ⟨Nat.le_of_ble_eq_true rfl, Nat.le_of_ble_eq_true rfl⟩ ⟨Nat.zero_le _, Nat.zero_le _⟩ rfl rfl (Nat.le_of_ble_eq_true rfl) rfl rfl rfl ?_
    clear e7
    refine cx_if_eq (tgt := 43) C dX9_join_13 (by decide) (fun c8 => ?_) (fun c8 => ?_)
    · have hf := cx_if_t hf c8
      clear c8
      refine cx_lv [0] rfl ?_
      exact J43 hf
    · have hf := cx_if_f hf c8
      clear c8
      refine cx_aload_n C dX9_join_16 0 rfl ?_
      refine cx_iload_n C dX9_join_17 1 rfl ?_
      refine cx_iconst (v := 0) C dX9_join_18 (by decide) ?_
      obtain ⟨u9, e10, hf⟩ := cx_bd_at hf
      refine cx_Fvi (q := (RX9, TX9, 24)) (As := [.int p1, .int 0]) (rest := []) (w1 := (wd_Model k m_a m_limbs m_wide m_book m_images m_kept m_before m_refused m_quiet m_text m_typed m_at m_start m_token m_value m_items m_many m_is m_likes m_without m_onePicture m_oneYear m_first m_second m_names)) hA C me_X9_ofHead hw_1191 (c_X9_ofHead l D k m_a m_limbs m_wide m_book m_images m_kept m_before m_refused m_quiet m_text m_typed m_at m_start m_token m_value m_items m_many m_is m_likes m_without m_onePicture m_oneYear m_first m_second m_names p1 0 u9 e10) dX9_join_19 ⟨Nat.le_of_ble_eq_true rfl, Nat.le_of_ble_eq_true rfl⟩ ⟨Nat.zero_le _, Nat.zero_le _⟩ rfl rfl (Nat.le_of_ble_eq_true rfl) rfl rfl rfl ?_
      clear e10
      refine cx_aload_n C dX9_join_22 0 rfl ?_
      refine cx_iload_n C dX9_join_23 2 rfl ?_
      refine cx_iconst (v := 0) C dX9_join_24 (by decide) ?_
      obtain ⟨u11, e12, hf⟩ := cx_bd_at hf
      refine cx_Fvi (q := (RX9, TX9, 24)) (As := [.int p2, .int 0]) (rest := [.int u9]) (w1 := (wd_Model k m_a m_limbs m_wide m_book m_images m_kept m_before m_refused m_quiet m_text m_typed m_at m_start m_token m_value m_items m_many m_is m_likes m_without m_onePicture m_oneYear m_first m_second m_names)) hA C me_X9_ofHead hw_1191 (c_X9_ofHead l D k m_a m_limbs m_wide m_book m_images m_kept m_before m_refused m_quiet m_text m_typed m_at m_start m_token m_value m_items m_many m_is m_likes m_without m_onePicture m_oneYear m_first m_second m_names p2 0 u11 e12) dX9_join_25 ⟨Nat.le_of_ble_eq_true rfl, Nat.le_of_ble_eq_true rfl⟩ ⟨Nat.zero_le _, Nat.zero_le _⟩ rfl rfl (Nat.le_of_ble_eq_true rfl) rfl rfl rfl ?_
      clear e12
      refine cx_icmp_eq (tgt := 43) C dX9_join_28 (by decide) (fun c13 => ?_) (fun c13 => ?_)
      · have hf := cx_if_t hf c13
        clear c13
        refine cx_lv [0] rfl ?_
        exact J43 hf
      · have hf := cx_if_f hf c13
        clear c13
        refine cx_iload_n C dX9_join_31 3 rfl ?_
        refine cx_i2l C dX9_join_32 ?_
        refine cx_lconst (v := 0) C dX9_join_33 (by decide) ?_
        refine cx_ldc2 (v := 10) C dX9_join_34 hw_1195 ?_
        obtain ⟨u14, e15, hf⟩ := cx_bd_at hf
        refine cx_Ksi (As := [.long (Int32.toInt64 p3), .long 0, .long 10]) (rest := []) hA C me_X9_in hw_1132 (c_X9_in l D k (Int32.toInt64 p3) 0 10 u14 e15) dX9_join_37 ⟨Nat.le_of_ble_eq_true rfl, Nat.le_of_ble_eq_true rfl⟩ ⟨Nat.zero_le _, Nat.zero_le _⟩ rfl rfl (Nat.le_of_ble_eq_true rfl) [] rfl (by decide) ?_
        clear e15
        refine cx_if_ne (tgt := 48) C dX9_join_40 (by decide) (fun c16 => ?_) (fun c16 => ?_)
        · have hf := cx_if_f hf c16
          clear c16
          refine cx_aload_n C dX9_join_48 0 rfl ?_
          refine cx_get (v := .ref (m_a 3)) (ci := 8) C iX9 dX9_join_49 0 rfl rfl 2 (by decide) hw_1056 rfl ?_
          refine cx_iconst (v := 4) C dX9_join_52 (by decide) ?_
          obtain ⟨g17, hf⟩ := cx_gd_at hf
          refine cx_iald C dX9_join_53 3 rfl (cx_ib_in g17) ?_
          clear g17
          refine cx_iconst (v := 4) C dX9_join_54 (by decide) ?_
          refine cx_icmp_ne (tgt := 63) C dX9_join_55 (by decide) (fun c18 => ?_) (fun c18 => ?_)
          · have hf := cx_if_f hf c18
            clear c18
            refine cx_bipush (v := 100) C dX9_join_63 (by decide) ?_
            refine cx_iconst (v := 3) C dX9_join_65 (by decide) ?_
            refine cx_aload_n C dX9_join_66 0 rfl ?_
            refine cx_get (v := .ref (m_a 3)) (ci := 8) C iX9 dX9_join_67 0 rfl rfl 2 (by decide) hw_1056 rfl ?_
            refine cx_iconst (v := 4) C dX9_join_70 (by decide) ?_
            obtain ⟨g19, hf⟩ := cx_gd_at hf
            refine cx_iald C dX9_join_71 3 rfl (cx_ib_in g19) ?_
            clear g19
            refine cx_imul C dX9_join_72 ?_
            refine cx_iadd C dX9_join_73 ?_
            refine cx_topi (fun v20 ev20 => ?_)
            have hf := cx_let_at hf ev20
            clear ev20
            refine cx_istore (lv' := [(4, .int v20), (0, .ref (m_a 0)), (1, .int p1), (2, .int p2), (3, .int p3)]) C dX9_join_74 (by decide) rfl ?_
            refine cx_aload_n C dX9_join_76 1 rfl ?_
            refine cx_get (v := .ref (m_a 3)) (ci := 8) C iX9 dX9_join_77 0 rfl rfl 2 (by decide) hw_1056 rfl ?_
            refine cx_iload C dX9_join_80 0 rfl ?_
            refine cx_iload_n C dX9_join_82 2 rfl ?_
            obtain ⟨g21, hf⟩ := cx_gd_at hf
            obtain ⟨a22, ea22⟩ : ∃ z, z = upd m_book (cx_ix v20) p1 := ⟨_, rfl⟩
            have hf := cx_let_at hf ea22
            refine cx_iast (ws' := (wd_Model k m_a m_limbs m_wide a22 m_images m_kept m_before m_refused m_quiet m_text m_typed m_at m_start m_token m_value m_items m_many m_is m_likes m_without m_onePicture m_oneYear m_first m_second m_names)) C dX9_join_83 3 rfl (cx_ib_in g21) (by rw [ea22]; rfl) ?_
            clear ea22 g21
            refine cx_aload_n C dX9_join_84 1 rfl ?_
            refine cx_get (v := .ref (m_a 3)) (ci := 8) C iX9 dX9_join_85 0 rfl rfl 2 (by decide) hw_1056 rfl ?_
            refine cx_iload C dX9_join_88 0 rfl ?_
            refine cx_iconst (v := 1) C dX9_join_90 (by decide) ?_
            refine cx_iadd C dX9_join_91 ?_
            refine cx_iload_n C dX9_join_92 3 rfl ?_
            obtain ⟨g23, hf⟩ := cx_gd_at hf
            obtain ⟨a24, ea24⟩ : ∃ z, z = upd a22 (cx_ix (v20 + 1)) p2 := ⟨_, rfl⟩
            have hf := cx_let_at hf ea24
            refine cx_iast (ws' := (wd_Model k m_a m_limbs m_wide a24 m_images m_kept m_before m_refused m_quiet m_text m_typed m_at m_start m_token m_value m_items m_many m_is m_likes m_without m_onePicture m_oneYear m_first m_second m_names)) C dX9_join_93 3 rfl (cx_ib_in g23) (by rw [ea24]; rfl) ?_
            clear ea24 g23
            refine cx_aload_n C dX9_join_94 1 rfl ?_
            refine cx_get (v := .ref (m_a 3)) (ci := 8) C iX9 dX9_join_95 0 rfl rfl 2 (by decide) hw_1056 rfl ?_
            refine cx_iload C dX9_join_98 0 rfl ?_
            refine cx_iconst (v := 2) C dX9_join_100 (by decide) ?_
            refine cx_iadd C dX9_join_101 ?_
            refine cx_iload_n C dX9_join_102 4 rfl ?_
            obtain ⟨g25, hf⟩ := cx_gd_at hf
            obtain ⟨a26, ea26⟩ : ∃ z, z = upd a24 (cx_ix (v20 + 2)) p3 := ⟨_, rfl⟩
            have hf := cx_let_at hf ea26
            refine cx_iast (ws' := (wd_Model k m_a m_limbs m_wide a26 m_images m_kept m_before m_refused m_quiet m_text m_typed m_at m_start m_token m_value m_items m_many m_is m_likes m_without m_onePicture m_oneYear m_first m_second m_names)) C dX9_join_103 3 rfl (cx_ib_in g25) (by rw [ea26]; rfl) ?_
            clear ea26 g25
            refine cx_aload_n C dX9_join_104 1 rfl ?_
            refine cx_get (v := .ref (m_a 3)) (ci := 8) C iX9 dX9_join_105 0 rfl rfl 2 (by decide) hw_1056 rfl ?_
            refine cx_iconst (v := 4) C dX9_join_108 (by decide) ?_
            refine cx_dup2_11 C dX9_join_109 rfl rfl ?_
            obtain ⟨g27, hf⟩ := cx_gd_at hf
            refine cx_iald C dX9_join_110 3 rfl (cx_ib_in g27) ?_
            clear g27
            refine cx_iconst (v := 1) C dX9_join_111 (by decide) ?_
            refine cx_iadd C dX9_join_112 ?_
            obtain ⟨g28, hf⟩ := cx_gd_at hf
            obtain ⟨a29, ea29⟩ : ∃ z, z = upd a26 (cx_ix 4) ((a26 (cx_ix 4)) + 1) := ⟨_, rfl⟩
            have hf := cx_let_at hf ea29
            refine cx_iast (ws' := (wd_Model k m_a m_limbs m_wide a29 m_images m_kept m_before m_refused m_quiet m_text m_typed m_at m_start m_token m_value m_items m_many m_is m_likes m_without m_onePicture m_oneYear m_first m_second m_names)) C dX9_join_113 3 rfl (cx_ib_in g28) (by rw [ea29]; rfl) ?_
            clear ea29 g28
            refine cx_aload_n C dX9_join_114 1 rfl ?_
            refine cx_get (v := .ref (m_a 3)) (ci := 8) C iX9 dX9_join_115 0 rfl rfl 2 (by decide) hw_1056 rfl ?_
            refine cx_iconst (v := 4) C dX9_join_118 (by decide) ?_
            obtain ⟨g30, hf⟩ := cx_gd_at hf
            refine cx_iald C dX9_join_119 3 rfl (cx_ib_in g30) ?_
            clear g30
            refine cx_iconst (v := 1) C dX9_join_120 (by decide) ?_
            refine cx_isub C dX9_join_121 ?_
            obtain rfl := Option.some.inj hf
            exact cx_iret C hA hQ hr hlk dX9_join_122 rfl rfl
          · have hf := cx_if_t hf c18
            clear c18
            refine cx_aload_n C dX9_join_58 0 rfl ?_
            obtain ⟨u31, e32, hf⟩ := cx_bd_at hf
            refine cx_Fvi (q := (RX9, TX9, 24)) (As := []) (rest := []) (w1 := (wd_Model k m_a m_limbs m_wide m_book m_images m_kept m_before u31.2 m_quiet m_text m_typed m_at m_start m_token m_value m_items m_many m_is m_likes m_without m_onePicture m_oneYear m_first m_second m_names)) hA C me_X9_full hw_1145 (c_X9_full l D k m_a m_limbs m_wide m_book m_images m_kept m_before m_refused m_quiet m_text m_typed m_at m_start m_token m_value m_items m_many m_is m_likes m_without m_onePicture m_oneYear m_first m_second m_names u31 e32) dX9_join_59 ⟨Nat.le_of_ble_eq_true rfl, Nat.le_of_ble_eq_true rfl⟩ ⟨Nat.zero_le _, Nat.zero_le _⟩ rfl rfl (Nat.le_of_ble_eq_true rfl) rfl rfl rfl ?_
            clear e32
            obtain rfl := Option.some.inj hf
            exact cx_iret C hA hQ hr hlk dX9_join_62 rfl rfl
        · have hf := cx_if_t hf c16
          clear c16
          refine cx_lv [0] rfl ?_
          exact J43 hf
theorem dX9_strange_0 : decode cX9_strange 0 = .ok (.iload_n 1, 1) := by decide +kernel
theorem dX9_strange_1 : decode cX9_strange 1 = .ok (.i2l, 1) := by decide +kernel
theorem dX9_strange_2 : decode cX9_strange 2 = .ok (.lconst 0, 1) := by decide +kernel
theorem dX9_strange_3 : decode cX9_strange 3 = .ok (.ldc2_w 127, 3) := by decide +kernel
theorem dX9_strange_6 : decode cX9_strange 6 = .ok (.invokestatic 89, 3) := by decide +kernel
theorem dX9_strange_9 : decode cX9_strange 9 = .ok (.ifCond .ne 8, 3) := by decide +kernel
theorem dX9_strange_12 : decode cX9_strange 12 = .ok (.aload_n 0, 1) := by decide +kernel
theorem dX9_strange_13 : decode cX9_strange 13 = .ok (.invokevirtual 99, 3) := by decide +kernel
theorem dX9_strange_16 : decode cX9_strange 16 = .ok (.ireturn, 1) := by decide +kernel
theorem dX9_strange_17 : decode cX9_strange 17 = .ok (.aload_n 0, 1) := by decide +kernel
theorem dX9_strange_18 : decode cX9_strange 18 = .ok (.getfield 51, 3) := by decide +kernel
theorem dX9_strange_21 : decode cX9_strange 21 = .ok (.iconst 5, 1) := by decide +kernel
theorem dX9_strange_22 : decode cX9_strange 22 = .ok (.iaload, 1) := by decide +kernel
theorem dX9_strange_23 : decode cX9_strange 23 = .ok (.istore_n 2, 1) := by decide +kernel
theorem dX9_strange_24 : decode cX9_strange 24 = .ok (.aload_n 0, 1) := by decide +kernel
theorem dX9_strange_25 : decode cX9_strange 25 = .ok (.getfield 51, 3) := by decide +kernel
theorem dX9_strange_28 : decode cX9_strange 28 = .ok (.iconst 5, 1) := by decide +kernel
theorem dX9_strange_29 : decode cX9_strange 29 = .ok (.iload_n 1, 1) := by decide +kernel
theorem dX9_strange_30 : decode cX9_strange 30 = .ok (.iastore, 1) := by decide +kernel
theorem dX9_strange_31 : decode cX9_strange 31 = .ok (.iload_n 2, 1) := by decide +kernel
theorem dX9_strange_32 : decode cX9_strange 32 = .ok (.ireturn, 1) := by decide +kernel
theorem me_X9_strange : cx_Mv yX9_strange cX9_strange 3 (some .int) 1 := ⟨⟨⟨by decide +kernel, by decide +kernel, by decide +kernel⟩, hw_11, hw_1199⟩, hw_1197, hw_1198⟩
noncomputable def f_X9_strange (m_book : Nat → Int32) (m_refused : Nat → Int32) (m_quiet : Int32) (p1 : Int32) : Option (Int32 × (Nat → Int32) × (Nat → Int32)) := Option.bind (f_X9_in (Int32.toInt64 p1) 0 9) (fun u1 => if u1 = 0 then (Option.bind (f_X9_bad m_refused m_quiet) (fun u7 => some ((u7.1, m_book, u7.2)))) else (cx_gd (cx_ib 5 140) (cx_gd (cx_ib 5 140) (cx_let (upd m_book (cx_ix 5) p1) (fun a6 => some ((m_book (cx_ix 5), a6, m_refused)))))))
set_option maxHeartbeats 4000000 in
set_option maxRecDepth 100000 in
theorem c_X9_strange (l : Launch) (D : va_G) (k : Nat → ClassId) (m_a : Nat → Nat) (m_limbs : Nat → Int32) (m_wide : Nat → Int32) (m_book : Nat → Int32) (m_images : Nat → Int32) (m_kept : Nat → Int32) (m_before : Nat → Int32) (m_refused : Nat → Int32) (m_quiet : Int32) (m_text : Nat → Int32) (m_typed : Int32) (m_at : Int32) (m_start : Int32) (m_token : Int32) (m_value : Int32) (m_items : Nat → Int32) (m_many : Int32) (m_is : Nat → Int32) (m_likes : Nat → Int32) (m_without : Int32) (m_onePicture : Int32) (m_oneYear : Int32) (m_first : Int32) (m_second : Int32) (m_names : Nat → Int32) (p1 : Int32) (y : Int32 × (Nat → Int32) × (Nat → Int32)) (hf : f_X9_strange m_book m_refused m_quiet p1 = some y) : cx_M l yX9_strange cX9_strange 3 (some .int) 3 D k [.ref (m_a 0), .int p1] (wd_Model k m_a m_limbs m_wide m_book m_images m_kept m_before m_refused m_quiet m_text m_typed m_at m_start m_token m_value m_items m_many m_is m_likes m_without m_onePicture m_oneYear m_first m_second m_names) (fun sz => cx_Qi D y.1 (wd_Model k m_a m_limbs m_wide m_book m_images m_kept m_before m_refused m_quiet m_text m_typed m_at m_start m_token m_value m_items m_many m_is m_likes m_without m_onePicture m_oneYear m_first m_second m_names) (wd_Model k m_a m_limbs m_wide y.2.1 m_images m_kept m_before y.2.2 m_quiet m_text m_typed m_at m_start m_token m_value m_items m_many m_is m_likes m_without m_onePicture m_oneYear m_first m_second m_names) sz) := by
  refine cx_met (own := "NamelessBoxModel") (by decide) rfl (Nat.le_of_ble_eq_true rfl) ?_
  intro p e s m args below meth c A Q C hA hQ hr hlk
  refine cx_lv (lv' := [(0, .ref (m_a 0)), (1, .int p1)]) [0, 1] rfl ?_
  unfold f_X9_strange at hf
  refine cx_iload_n C dX9_strange_0 1 rfl ?_
  refine cx_i2l C dX9_strange_1 ?_
  refine cx_lconst (v := 0) C dX9_strange_2 (by decide) ?_
  refine cx_ldc2 (v := 9) C dX9_strange_3 hw_1200 ?_
  obtain ⟨u1, e2, hf⟩ := cx_bd_at hf
  refine cx_Ksi (As := [.long (Int32.toInt64 p1), .long 0, .long 9]) (rest := []) hA C me_X9_in hw_1132 (c_X9_in l D k (Int32.toInt64 p1) 0 9 u1 e2) dX9_strange_6 ⟨Nat.le_of_ble_eq_true rfl, Nat.le_of_ble_eq_true rfl⟩ ⟨Nat.zero_le _, Nat.zero_le _⟩ rfl rfl (Nat.le_of_ble_eq_true rfl) [] rfl (by decide) ?_
  clear e2
  refine cx_if_ne (tgt := 17) C dX9_strange_9 (by decide) (fun c3 => ?_) (fun c3 => ?_)
  · have hf := cx_if_f hf c3
    clear c3
    refine cx_aload_n C dX9_strange_17 0 rfl ?_
    refine cx_get (v := .ref (m_a 3)) (ci := 8) C iX9 dX9_strange_18 0 rfl rfl 2 (by decide) hw_1056 rfl ?_
    refine cx_iconst (v := 5) C dX9_strange_21 (by decide) ?_
    obtain ⟨g4, hf⟩ := cx_gd_at hf
    refine cx_iald C dX9_strange_22 3 rfl (cx_ib_in g4) ?_
    clear g4
    refine cx_istore_n (lv' := [(2, .int (m_book (cx_ix 5))), (0, .ref (m_a 0)), (1, .int p1)]) C dX9_strange_23 rfl (by decide) rfl ?_
    refine cx_aload_n C dX9_strange_24 1 rfl ?_
    refine cx_get (v := .ref (m_a 3)) (ci := 8) C iX9 dX9_strange_25 0 rfl rfl 2 (by decide) hw_1056 rfl ?_
    refine cx_iconst (v := 5) C dX9_strange_28 (by decide) ?_
    refine cx_iload_n C dX9_strange_29 2 rfl ?_
    obtain ⟨g5, hf⟩ := cx_gd_at hf
    obtain ⟨a6, ea6⟩ : ∃ z, z = upd m_book (cx_ix 5) p1 := ⟨_, rfl⟩
    have hf := cx_let_at hf ea6
    refine cx_iast (ws' := (wd_Model k m_a m_limbs m_wide a6 m_images m_kept m_before m_refused m_quiet m_text m_typed m_at m_start m_token m_value m_items m_many m_is m_likes m_without m_onePicture m_oneYear m_first m_second m_names)) C dX9_strange_30 3 rfl (cx_ib_in g5) (by rw [ea6]; rfl) ?_
    clear ea6 g5
    refine cx_iload_n C dX9_strange_31 0 rfl ?_
    obtain rfl := Option.some.inj hf
    exact cx_iret C hA hQ hr hlk dX9_strange_32 rfl rfl
  · have hf := cx_if_t hf c3
    clear c3
    refine cx_aload_n C dX9_strange_12 0 rfl ?_
    obtain ⟨u7, e8, hf⟩ := cx_bd_at hf
    refine cx_Fvi (q := (RX9, TX9, 24)) (As := []) (rest := []) (w1 := (wd_Model k m_a m_limbs m_wide m_book m_images m_kept m_before u7.2 m_quiet m_text m_typed m_at m_start m_token m_value m_items m_many m_is m_likes m_without m_onePicture m_oneYear m_first m_second m_names)) hA C me_X9_bad hw_1137 (c_X9_bad l D k m_a m_limbs m_wide m_book m_images m_kept m_before m_refused m_quiet m_text m_typed m_at m_start m_token m_value m_items m_many m_is m_likes m_without m_onePicture m_oneYear m_first m_second m_names u7 e8) dX9_strange_13 ⟨Nat.le_of_ble_eq_true rfl, Nat.le_of_ble_eq_true rfl⟩ ⟨Nat.zero_le _, Nat.zero_le _⟩ rfl rfl (Nat.le_of_ble_eq_true rfl) rfl rfl rfl ?_
    clear e8
    obtain rfl := Option.some.inj hf
    exact cx_iret C hA hQ hr hlk dX9_strange_16 rfl rfl
theorem dX9_markOf_0 : decode cX9_markOf 0 = .ok (.iload_n 1, 1) := by decide +kernel
theorem dX9_markOf_1 : decode cX9_markOf 1 = .ok (.istore_n 3, 1) := by decide +kernel
theorem dX9_markOf_2 : decode cX9_markOf 2 = .ok (.iload_n 3, 1) := by decide +kernel
theorem dX9_markOf_3 : decode cX9_markOf 3 = .ok (.iconst (-1), 1) := by decide +kernel
theorem dX9_markOf_4 : decode cX9_markOf 4 = .ok (.if_icmp .eq 26, 3) := by decide +kernel
theorem dX9_markOf_7 : decode cX9_markOf 7 = .ok (.aload_n 0, 1) := by decide +kernel
theorem dX9_markOf_8 : decode cX9_markOf 8 = .ok (.iload_n 3, 1) := by decide +kernel
theorem dX9_markOf_9 : decode cX9_markOf 9 = .ok (.iconst 3, 1) := by decide +kernel
theorem dX9_markOf_10 : decode cX9_markOf 10 = .ok (.invokevirtual 109, 3) := by decide +kernel
theorem dX9_markOf_13 : decode cX9_markOf 13 = .ok (.iload_n 2, 1) := by decide +kernel
theorem dX9_markOf_14 : decode cX9_markOf 14 = .ok (.ishr, 1) := by decide +kernel
theorem dX9_markOf_15 : decode cX9_markOf 15 = .ok (.iconst 1, 1) := by decide +kernel
theorem dX9_markOf_16 : decode cX9_markOf 16 = .ok (.iand, 1) := by decide +kernel
theorem dX9_markOf_17 : decode cX9_markOf 17 = .ok (.ifCond .ne 13, 3) := by decide +kernel
theorem dX9_markOf_20 : decode cX9_markOf 20 = .ok (.aload_n 0, 1) := by decide +kernel
theorem dX9_markOf_21 : decode cX9_markOf 21 = .ok (.iload_n 3, 1) := by decide +kernel
theorem dX9_markOf_22 : decode cX9_markOf 22 = .ok (.iconst 4, 1) := by decide +kernel
theorem dX9_markOf_23 : decode cX9_markOf 23 = .ok (.invokevirtual 109, 3) := by decide +kernel
theorem dX9_markOf_26 : decode cX9_markOf 26 = .ok (.istore_n 3, 1) := by decide +kernel
theorem dX9_markOf_27 : decode cX9_markOf 27 = .ok (.goto (-25), 3) := by decide +kernel
theorem dX9_markOf_30 : decode cX9_markOf 30 = .ok (.iload_n 3, 1) := by decide +kernel
theorem dX9_markOf_31 : decode cX9_markOf 31 = .ok (.iconst (-1), 1) := by decide +kernel
theorem dX9_markOf_32 : decode cX9_markOf 32 = .ok (.if_icmp .ne 7, 3) := by decide +kernel
theorem dX9_markOf_35 : decode cX9_markOf 35 = .ok (.iconst (-1), 1) := by decide +kernel
theorem dX9_markOf_36 : decode cX9_markOf 36 = .ok (.goto 13, 3) := by decide +kernel
theorem dX9_markOf_39 : decode cX9_markOf 39 = .ok (.aload_n 0, 1) := by decide +kernel
theorem dX9_markOf_40 : decode cX9_markOf 40 = .ok (.iload_n 3, 1) := by decide +kernel
theorem dX9_markOf_41 : decode cX9_markOf 41 = .ok (.iconst 2, 1) := by decide +kernel
theorem dX9_markOf_42 : decode cX9_markOf 42 = .ok (.invokevirtual 109, 3) := by decide +kernel
theorem dX9_markOf_45 : decode cX9_markOf 45 = .ok (.iload_n 2, 1) := by decide +kernel
theorem dX9_markOf_46 : decode cX9_markOf 46 = .ok (.ishr, 1) := by decide +kernel
theorem dX9_markOf_47 : decode cX9_markOf 47 = .ok (.iconst 1, 1) := by decide +kernel
theorem dX9_markOf_48 : decode cX9_markOf 48 = .ok (.iand, 1) := by decide +kernel
theorem dX9_markOf_49 : decode cX9_markOf 49 = .ok (.ireturn, 1) := by decide +kernel
theorem me_X9_markOf : cx_Mv yX9_markOf cX9_markOf 4 (some .int) 2 := ⟨⟨⟨by decide +kernel, by decide +kernel, by decide +kernel⟩, hw_11, hw_1209⟩, hw_1208, hs_47⟩
noncomputable def f_X9_markOf_J30 (m_book : Nat → Int32) (p2 : Int32) (x3_3 : Int32) : Option Int32 := if x3_3 = ((-1)) then (some ((-1))) else (Option.bind (f_X9_ofPerson m_book x3_3 2) (fun u5 => some ((u5 >>> (p2 &&& 31)) &&& 1)))
noncomputable def f_X9_markOf_L2 (m_book : Nat → Int32) (p2 : Int32) (rc2 : Int32 → Option Int32) (x3_1 : Int32) : Option Int32 := if x3_1 = ((-1)) then (f_X9_markOf_J30 m_book p2 x3_1) else (Option.bind (f_X9_ofPerson m_book x3_1 3) (fun u7 => if ((u7 >>> (p2 &&& 31)) &&& 1) = 0 then (Option.bind (f_X9_ofPerson m_book x3_1 4) (fun u10 => rc2 u10)) else (f_X9_markOf_J30 m_book p2 x3_1)))
noncomputable def f_X9_markOf_L2w (m_book : Nat → Int32) (p2 : Int32) (n : Nat) : Int32 → Option Int32 := Nat.rec (fun _ => none) (fun _ r => f_X9_markOf_L2 m_book p2 r) n
noncomputable def f_X9_markOf (m_book : Nat → Int32) (p1 : Int32) (p2 : Int32) : Option Int32 := f_X9_markOf_L2w m_book p2 cx_N0 p1
set_option maxHeartbeats 4000000 in
set_option maxRecDepth 100000 in
theorem c_X9_markOf (l : Launch) (D : va_G) (k : Nat → ClassId) (m_a : Nat → Nat) (m_limbs : Nat → Int32) (m_wide : Nat → Int32) (m_book : Nat → Int32) (m_images : Nat → Int32) (m_kept : Nat → Int32) (m_before : Nat → Int32) (m_refused : Nat → Int32) (m_quiet : Int32) (m_text : Nat → Int32) (m_typed : Int32) (m_at : Int32) (m_start : Int32) (m_token : Int32) (m_value : Int32) (m_items : Nat → Int32) (m_many : Int32) (m_is : Nat → Int32) (m_likes : Nat → Int32) (m_without : Int32) (m_onePicture : Int32) (m_oneYear : Int32) (m_first : Int32) (m_second : Int32) (m_names : Nat → Int32) (p1 : Int32) (p2 : Int32) (y : Int32) (hf : f_X9_markOf m_book p1 p2 = some y) : cx_M l yX9_markOf cX9_markOf 4 (some .int) 2 D k [.ref (m_a 0), .int p1, .int p2] (wd_Model k m_a m_limbs m_wide m_book m_images m_kept m_before m_refused m_quiet m_text m_typed m_at m_start m_token m_value m_items m_many m_is m_likes m_without m_onePicture m_oneYear m_first m_second m_names) (fun sz => cx_Qi D y (wd_Model k m_a m_limbs m_wide m_book m_images m_kept m_before m_refused m_quiet m_text m_typed m_at m_start m_token m_value m_items m_many m_is m_likes m_without m_onePicture m_oneYear m_first m_second m_names) (wd_Model k m_a m_limbs m_wide m_book m_images m_kept m_before m_refused m_quiet m_text m_typed m_at m_start m_token m_value m_items m_many m_is m_likes m_without m_onePicture m_oneYear m_first m_second m_names) sz) := by
  refine cx_met (own := "NamelessBoxModel") (by decide) rfl (Nat.le_of_ble_eq_true rfl) ?_
  intro p e s m args below meth c A Q C hA hQ hr hlk
  refine cx_lv (lv' := [(0, .ref (m_a 0)), (1, .int p1), (2, .int p2)]) [0, 1, 2] rfl ?_
  have J30 : ∀ (x3_3 : Int32), f_X9_markOf_J30 m_book p2 x3_3 = some y → cx_S p l e (cx_rm 2) s m args below meth c A D 4 0 0 Q 30 [(0, .ref (m_a 0)), (2, .int p2), (3, .int x3_3)] [] (wd_Model k m_a m_limbs m_wide m_book m_images m_kept m_before m_refused m_quiet m_text m_typed m_at m_start m_token m_value m_items m_many m_is m_likes m_without m_onePicture m_oneYear m_first m_second m_names) := by
    intro x3_3 hf
    unfold f_X9_markOf_J30 at hf
    refine cx_iload_n C dX9_markOf_30 2 rfl ?_
    refine cx_iconst (v := (-1)) C dX9_markOf_31 (by decide) ?_
    refine cx_icmp_ne (tgt := 39) C dX9_markOf_32 (by decide) (fun c4 => ?_) (fun c4 => ?_)
    · have hf := cx_if_f hf c4
      clear c4
      refine cx_aload_n C dX9_markOf_39 0 rfl ?_
      refine cx_iload_n C dX9_markOf_40 2 rfl ?_
      refine cx_iconst (v := 2) C dX9_markOf_41 (by decide) ?_
      obtain ⟨u5, e6, hf⟩ := cx_bd_at hf
      refine cx_Fvi (q := (RX9, TX9, 24)) (As := [.int x3_3, .int 2]) (rest := []) (w1 := (wd_Model k m_a m_limbs m_wide m_book m_images m_kept m_before m_refused m_quiet m_text m_typed m_at m_start m_token m_value m_items m_many m_is m_likes m_without m_onePicture m_oneYear m_first m_second m_names)) hA C me_X9_ofPerson hw_1157 (c_X9_ofPerson l D k m_a m_limbs m_wide m_book m_images m_kept m_before m_refused m_quiet m_text m_typed m_at m_start m_token m_value m_items m_many m_is m_likes m_without m_onePicture m_oneYear m_first m_second m_names x3_3 2 u5 e6) dX9_markOf_42 ⟨Nat.le_of_ble_eq_true rfl, Nat.le_of_ble_eq_true rfl⟩ ⟨Nat.zero_le _, Nat.zero_le _⟩ rfl rfl (Nat.le_of_ble_eq_true rfl) rfl rfl rfl ?_
      clear e6
      refine cx_iload_n C dX9_markOf_45 1 rfl ?_
      refine cx_ishr C dX9_markOf_46 ?_
      refine cx_iconst (v := 1) C dX9_markOf_47 (by decide) ?_
      refine cx_iand C dX9_markOf_48 ?_
      obtain rfl := Option.some.inj hf
      exact cx_iret C hA hQ hr hlk dX9_markOf_49 rfl rfl
    · have hf := cx_if_t hf c4
      clear c4
      refine cx_iconst (v := (-1)) C dX9_markOf_35 (by decide) ?_
      refine cx_goto (tgt := 49) C dX9_markOf_36 (by decide) ?_
      obtain rfl := Option.some.inj hf
      exact cx_iret C hA hQ hr hlk dX9_markOf_49 rfl rfl
  have L2 : ∀ (n2 : Nat) (x3_1 : Int32), f_X9_markOf_L2w m_book p2 n2 x3_1 = some y → cx_S p l e (cx_rm 2) s m args below meth c A D 4 0 0 Q 2 [(0, .ref (m_a 0)), (2, .int p2), (3, .int x3_1)] [] (wd_Model k m_a m_limbs m_wide m_book m_images m_kept m_before m_refused m_quiet m_text m_typed m_at m_start m_token m_value m_items m_many m_is m_likes m_without m_onePicture m_oneYear m_first m_second m_names) := by
    intro  n2
    induction n2 with
    | zero =>
      intro x3_1 hf
      exact absurd (show (none : Option Int32) = some y from hf) (fun h => by cases h)
    | succ n2 ih2 =>
      intro x3_1 hf
      have hf : f_X9_markOf_L2 m_book p2 (f_X9_markOf_L2w m_book p2 n2) x3_1 = some y := hf
      unfold f_X9_markOf_L2 at hf
      refine cx_iload_n C dX9_markOf_2 2 rfl ?_
      refine cx_iconst (v := (-1)) C dX9_markOf_3 (by decide) ?_
      refine cx_icmp_eq (tgt := 30) C dX9_markOf_4 (by decide) (fun c2 => ?_) (fun c2 => ?_)
      · have hf := cx_if_t hf c2
        clear c2
        exact J30 x3_1 hf
      · have hf := cx_if_f hf c2
        clear c2
        refine cx_aload_n C dX9_markOf_7 0 rfl ?_
        refine cx_iload_n C dX9_markOf_8 2 rfl ?_
        refine cx_iconst (v := 3) C dX9_markOf_9 (by decide) ?_
        obtain ⟨u7, e8, hf⟩ := cx_bd_at hf
        refine cx_Fvi (q := (RX9, TX9, 24)) (As := [.int x3_1, .int 3]) (rest := []) (w1 := (wd_Model k m_a m_limbs m_wide m_book m_images m_kept m_before m_refused m_quiet m_text m_typed m_at m_start m_token m_value m_items m_many m_is m_likes m_without m_onePicture m_oneYear m_first m_second m_names)) hA C me_X9_ofPerson hw_1157 (c_X9_ofPerson l D k m_a m_limbs m_wide m_book m_images m_kept m_before m_refused m_quiet m_text m_typed m_at m_start m_token m_value m_items m_many m_is m_likes m_without m_onePicture m_oneYear m_first m_second m_names x3_1 3 u7 e8) dX9_markOf_10 ⟨Nat.le_of_ble_eq_true rfl, Nat.le_of_ble_eq_true rfl⟩ ⟨Nat.zero_le _, Nat.zero_le _⟩ rfl rfl (Nat.le_of_ble_eq_true rfl) rfl rfl rfl ?_
        clear e8
        refine cx_iload_n C dX9_markOf_13 1 rfl ?_
        refine cx_ishr C dX9_markOf_14 ?_
        refine cx_iconst (v := 1) C dX9_markOf_15 (by decide) ?_
        refine cx_iand C dX9_markOf_16 ?_
        refine cx_if_ne (tgt := 30) C dX9_markOf_17 (by decide) (fun c9 => ?_) (fun c9 => ?_)
        · have hf := cx_if_f hf c9
          clear c9
          exact J30 x3_1 hf
        · have hf := cx_if_t hf c9
          clear c9
          refine cx_aload_n C dX9_markOf_20 0 rfl ?_
          refine cx_iload_n C dX9_markOf_21 2 rfl ?_
          refine cx_iconst (v := 4) C dX9_markOf_22 (by decide) ?_
          obtain ⟨u10, e11, hf⟩ := cx_bd_at hf
          refine cx_Fvi (q := (RX9, TX9, 24)) (As := [.int x3_1, .int 4]) (rest := []) (w1 := (wd_Model k m_a m_limbs m_wide m_book m_images m_kept m_before m_refused m_quiet m_text m_typed m_at m_start m_token m_value m_items m_many m_is m_likes m_without m_onePicture m_oneYear m_first m_second m_names)) hA C me_X9_ofPerson hw_1157 (c_X9_ofPerson l D k m_a m_limbs m_wide m_book m_images m_kept m_before m_refused m_quiet m_text m_typed m_at m_start m_token m_value m_items m_many m_is m_likes m_without m_onePicture m_oneYear m_first m_second m_names x3_1 4 u10 e11) dX9_markOf_23 ⟨Nat.le_of_ble_eq_true rfl, Nat.le_of_ble_eq_true rfl⟩ ⟨Nat.zero_le _, Nat.zero_le _⟩ rfl rfl (Nat.le_of_ble_eq_true rfl) rfl rfl rfl ?_
          clear e11
          refine cx_istore_n (lv' := [(3, .int u10), (0, .ref (m_a 0)), (2, .int p2)]) C dX9_markOf_26 rfl (by decide) rfl ?_
          refine cx_goto (tgt := 2) C dX9_markOf_27 (by decide) ?_
          refine cx_lv [1, 2, 0] rfl ?_
          exact ih2 u10 hf
  unfold f_X9_markOf at hf
  refine cx_iload_n C dX9_markOf_0 1 rfl ?_
  refine cx_istore_n (lv' := [(3, .int p1), (0, .ref (m_a 0)), (1, .int p1), (2, .int p2)]) C dX9_markOf_1 rfl (by decide) rfl ?_
  refine cx_lv [1, 3, 0] rfl ?_
  exact L2 cx_N0 p1 hf
theorem dX9_mark_0 : decode cX9_mark 0 = .ok (.aload_n 0, 1) := by decide +kernel
theorem dX9_mark_1 : decode cX9_mark 1 = .ok (.iload_n 1, 1) := by decide +kernel
theorem dX9_mark_2 : decode cX9_mark 2 = .ok (.invokevirtual 106, 3) := by decide +kernel
theorem dX9_mark_5 : decode cX9_mark 5 = .ok (.ifCond .eq 24, 3) := by decide +kernel
theorem dX9_mark_8 : decode cX9_mark 8 = .ok (.iload_n 2, 1) := by decide +kernel
theorem dX9_mark_9 : decode cX9_mark 9 = .ok (.i2l, 1) := by decide +kernel
theorem dX9_mark_10 : decode cX9_mark 10 = .ok (.lconst 0, 1) := by decide +kernel
theorem dX9_mark_11 : decode cX9_mark 11 = .ok (.ldc2_w 129, 3) := by decide +kernel
theorem dX9_mark_14 : decode cX9_mark 14 = .ok (.invokestatic 89, 3) := by decide +kernel
theorem dX9_mark_17 : decode cX9_mark 17 = .ok (.ifCond .eq 12, 3) := by decide +kernel
theorem dX9_mark_20 : decode cX9_mark 20 = .ok (.aload_n 0, 1) := by decide +kernel
theorem dX9_mark_21 : decode cX9_mark 21 = .ok (.iload_n 1, 1) := by decide +kernel
theorem dX9_mark_22 : decode cX9_mark 22 = .ok (.iload_n 2, 1) := by decide +kernel
theorem dX9_mark_23 : decode cX9_mark 23 = .ok (.invokevirtual 131, 3) := by decide +kernel
theorem dX9_mark_26 : decode cX9_mark 26 = .ok (.goto 7, 3) := by decide +kernel
theorem dX9_mark_29 : decode cX9_mark 29 = .ok (.aload_n 0, 1) := by decide +kernel
theorem dX9_mark_30 : decode cX9_mark 30 = .ok (.invokevirtual 99, 3) := by decide +kernel
theorem dX9_mark_33 : decode cX9_mark 33 = .ok (.ireturn, 1) := by decide +kernel
theorem me_X9_mark : cx_Mv yX9_mark cX9_mark 3 (some .int) 2 := ⟨⟨⟨by decide +kernel, by decide +kernel, by decide +kernel⟩, hw_11, hw_1204⟩, hw_1202, hw_1203⟩
noncomputable def f_X9_mark_J29 (m_refused : Nat → Int32) (m_quiet : Int32) : Option (Int32 × (Nat → Int32)) := Option.bind (f_X9_bad m_refused m_quiet) (fun u4 => some ((u4.1, u4.2)))
noncomputable def f_X9_mark (m_book : Nat → Int32) (m_refused : Nat → Int32) (m_quiet : Int32) (p1 : Int32) (p2 : Int32) : Option (Int32 × (Nat → Int32)) := Option.bind (f_X9_isPerson m_book p1) (fun u1 => if u1 = 0 then (f_X9_mark_J29 m_refused m_quiet) else (Option.bind (f_X9_in (Int32.toInt64 p2) 0 3) (fun u6 => if u6 = 0 then (f_X9_mark_J29 m_refused m_quiet) else (Option.bind (f_X9_markOf m_book p1 p2) (fun u9 => some ((u9, m_refused)))))))
set_option maxHeartbeats 4000000 in
set_option maxRecDepth 100000 in
theorem c_X9_mark (l : Launch) (D : va_G) (k : Nat → ClassId) (m_a : Nat → Nat) (m_limbs : Nat → Int32) (m_wide : Nat → Int32) (m_book : Nat → Int32) (m_images : Nat → Int32) (m_kept : Nat → Int32) (m_before : Nat → Int32) (m_refused : Nat → Int32) (m_quiet : Int32) (m_text : Nat → Int32) (m_typed : Int32) (m_at : Int32) (m_start : Int32) (m_token : Int32) (m_value : Int32) (m_items : Nat → Int32) (m_many : Int32) (m_is : Nat → Int32) (m_likes : Nat → Int32) (m_without : Int32) (m_onePicture : Int32) (m_oneYear : Int32) (m_first : Int32) (m_second : Int32) (m_names : Nat → Int32) (p1 : Int32) (p2 : Int32) (y : Int32 × (Nat → Int32)) (hf : f_X9_mark m_book m_refused m_quiet p1 p2 = some y) : cx_M l yX9_mark cX9_mark 3 (some .int) 3 D k [.ref (m_a 0), .int p1, .int p2] (wd_Model k m_a m_limbs m_wide m_book m_images m_kept m_before m_refused m_quiet m_text m_typed m_at m_start m_token m_value m_items m_many m_is m_likes m_without m_onePicture m_oneYear m_first m_second m_names) (fun sz => cx_Qi D y.1 (wd_Model k m_a m_limbs m_wide m_book m_images m_kept m_before m_refused m_quiet m_text m_typed m_at m_start m_token m_value m_items m_many m_is m_likes m_without m_onePicture m_oneYear m_first m_second m_names) (wd_Model k m_a m_limbs m_wide m_book m_images m_kept m_before y.2 m_quiet m_text m_typed m_at m_start m_token m_value m_items m_many m_is m_likes m_without m_onePicture m_oneYear m_first m_second m_names) sz) := by
  refine cx_met (own := "NamelessBoxModel") (by decide) rfl (Nat.le_of_ble_eq_true rfl) ?_
  intro p e s m args below meth c A Q C hA hQ hr hlk
  refine cx_lv (lv' := [(0, .ref (m_a 0)), (1, .int p1), (2, .int p2)]) [0, 1, 2] rfl ?_
  have J29 : f_X9_mark_J29 m_refused m_quiet = some y → cx_S p l e (cx_rm 3) s m args below meth c A D 3 0 0 Q 29 [(0, .ref (m_a 0))] [] (wd_Model k m_a m_limbs m_wide m_book m_images m_kept m_before m_refused m_quiet m_text m_typed m_at m_start m_token m_value m_items m_many m_is m_likes m_without m_onePicture m_oneYear m_first m_second m_names) := by
    intro  hf
    unfold f_X9_mark_J29 at hf
    refine cx_aload_n C dX9_mark_29 0 rfl ?_
    obtain ⟨u4, e5, hf⟩ := cx_bd_at hf
    refine cx_Fvi (q := (RX9, TX9, 24)) (As := []) (rest := []) (w1 := (wd_Model k m_a m_limbs m_wide m_book m_images m_kept m_before u4.2 m_quiet m_text m_typed m_at m_start m_token m_value m_items m_many m_is m_likes m_without m_onePicture m_oneYear m_first m_second m_names)) hA C me_X9_bad hw_1137 (c_X9_bad l D k m_a m_limbs m_wide m_book m_images m_kept m_before m_refused m_quiet m_text m_typed m_at m_start m_token m_value m_items m_many m_is m_likes m_without m_onePicture m_oneYear m_first m_second m_names u4 e5) dX9_mark_30 ⟨Nat.le_of_ble_eq_true rfl, Nat.le_of_ble_eq_true rfl⟩ ⟨Nat.zero_le _, Nat.zero_le _⟩ rfl rfl (Nat.le_of_ble_eq_true rfl) rfl rfl rfl ?_
    clear e5
    obtain rfl := Option.some.inj hf
    exact cx_iret C hA hQ hr hlk dX9_mark_33 rfl rfl
  unfold f_X9_mark at hf
  refine cx_aload_n C dX9_mark_0 0 rfl ?_
  refine cx_iload_n C dX9_mark_1 1 rfl ?_
  obtain ⟨u1, e2, hf⟩ := cx_bd_at hf
  refine cx_Fvi (q := (RX9, TX9, 24)) (As := [.int p1]) (rest := []) (w1 := (wd_Model k m_a m_limbs m_wide m_book m_images m_kept m_before m_refused m_quiet m_text m_typed m_at m_start m_token m_value m_items m_many m_is m_likes m_without m_onePicture m_oneYear m_first m_second m_names)) hA C me_X9_isPerson hw_1153 (c_X9_isPerson l D k m_a m_limbs m_wide m_book m_images m_kept m_before m_refused m_quiet m_text m_typed m_at m_start m_token m_value m_items m_many m_is m_likes m_without m_onePicture m_oneYear m_first m_second m_names p1 u1 e2) dX9_mark_2 ⟨Nat.le_of_ble_eq_true rfl, Nat.le_of_ble_eq_true rfl⟩ ⟨Nat.zero_le _, Nat.zero_le _⟩ rfl rfl (Nat.le_of_ble_eq_true rfl) rfl rfl rfl ?_
  clear e2
  refine cx_if_eq (tgt := 29) C dX9_mark_5 (by decide) (fun c3 => ?_) (fun c3 => ?_)
  · have hf := cx_if_t hf c3
    clear c3
    refine cx_lv [0] rfl ?_
    exact J29 hf
  · have hf := cx_if_f hf c3
    clear c3
    refine cx_iload_n C dX9_mark_8 2 rfl ?_
    refine cx_i2l C dX9_mark_9 ?_
    refine cx_lconst (v := 0) C dX9_mark_10 (by decide) ?_
    refine cx_ldc2 (v := 3) C dX9_mark_11 hw_1205 ?_
    obtain ⟨u6, e7, hf⟩ := cx_bd_at hf
    refine cx_Ksi (As := [.long (Int32.toInt64 p2), .long 0, .long 3]) (rest := []) hA C me_X9_in hw_1132 (c_X9_in l D k (Int32.toInt64 p2) 0 3 u6 e7) dX9_mark_14 ⟨Nat.le_of_ble_eq_true rfl, Nat.le_of_ble_eq_true rfl⟩ ⟨Nat.zero_le _, Nat.zero_le _⟩ rfl rfl (Nat.le_of_ble_eq_true rfl) [] rfl (by decide) ?_
    clear e7
    refine cx_if_eq (tgt := 29) C dX9_mark_17 (by decide) (fun c8 => ?_) (fun c8 => ?_)
    · have hf := cx_if_t hf c8
      clear c8
      refine cx_lv [0] rfl ?_
      exact J29 hf
    · have hf := cx_if_f hf c8
      clear c8
      refine cx_aload_n C dX9_mark_20 0 rfl ?_
      refine cx_iload_n C dX9_mark_21 1 rfl ?_
      refine cx_iload_n C dX9_mark_22 2 rfl ?_
      obtain ⟨u9, e10, hf⟩ := cx_bd_at hf
      refine cx_Fvi (q := (RX9, TX9, 24)) (As := [.int p1, .int p2]) (rest := []) (w1 := (wd_Model k m_a m_limbs m_wide m_book m_images m_kept m_before m_refused m_quiet m_text m_typed m_at m_start m_token m_value m_items m_many m_is m_likes m_without m_onePicture m_oneYear m_first m_second m_names)) hA C me_X9_markOf hw_1206 (c_X9_markOf l D k m_a m_limbs m_wide m_book m_images m_kept m_before m_refused m_quiet m_text m_typed m_at m_start m_token m_value m_items m_many m_is m_likes m_without m_onePicture m_oneYear m_first m_second m_names p1 p2 u9 e10) dX9_mark_23 ⟨Nat.le_of_ble_eq_true rfl, Nat.le_of_ble_eq_true rfl⟩ ⟨Nat.zero_le _, Nat.zero_le _⟩ rfl rfl (Nat.le_of_ble_eq_true rfl) rfl rfl rfl ?_
      clear e10
      refine cx_goto (tgt := 33) C dX9_mark_26 (by decide) ?_
      obtain rfl := Option.some.inj hf
      exact cx_iret C hA hQ hr hlk dX9_mark_33 rfl rfl
theorem dX9_likeOf_0 : decode cX9_likeOf 0 = .ok (.iconst 2, 1) := by decide +kernel
theorem dX9_likeOf_1 : decode cX9_likeOf 1 = .ok (.aload_n 0, 1) := by decide +kernel
theorem dX9_likeOf_2 : decode cX9_likeOf 2 = .ok (.getfield 51, 3) := by decide +kernel
theorem dX9_likeOf_5 : decode cX9_likeOf 5 = .ok (.iconst 5, 1) := by decide +kernel
theorem dX9_likeOf_6 : decode cX9_likeOf 6 = .ok (.iaload, 1) := by decide +kernel
theorem dX9_likeOf_7 : decode cX9_likeOf 7 = .ok (.imul, 1) := by decide +kernel
theorem dX9_likeOf_8 : decode cX9_likeOf 8 = .ok (.istore 4, 2) := by decide +kernel
theorem dX9_likeOf_10 : decode cX9_likeOf 10 = .ok (.iload_n 2, 1) := by decide +kernel
theorem dX9_likeOf_11 : decode cX9_likeOf 11 = .ok (.iconst 5, 1) := by decide +kernel
theorem dX9_likeOf_12 : decode cX9_likeOf 12 = .ok (.if_icmp .eq 91, 3) := by decide +kernel
theorem dX9_likeOf_15 : decode cX9_likeOf 15 = .ok (.iload_n 3, 1) := by decide +kernel
theorem dX9_likeOf_16 : decode cX9_likeOf 16 = .ok (.aload_n 0, 1) := by decide +kernel
theorem dX9_likeOf_17 : decode cX9_likeOf 17 = .ok (.iload_n 2, 1) := by decide +kernel
theorem dX9_likeOf_18 : decode cX9_likeOf 18 = .ok (.iconst 0, 1) := by decide +kernel
theorem dX9_likeOf_19 : decode cX9_likeOf 19 = .ok (.invokevirtual 109, 3) := by decide +kernel
theorem dX9_likeOf_22 : decode cX9_likeOf 22 = .ok (.isub, 1) := by decide +kernel
theorem dX9_likeOf_23 : decode cX9_likeOf 23 = .ok (.istore 5, 2) := by decide +kernel
theorem dX9_likeOf_25 : decode cX9_likeOf 25 = .ok (.aload_n 0, 1) := by decide +kernel
theorem dX9_likeOf_26 : decode cX9_likeOf 26 = .ok (.iload_n 1, 1) := by decide +kernel
theorem dX9_likeOf_27 : decode cX9_likeOf 27 = .ok (.iconst 3, 1) := by decide +kernel
theorem dX9_likeOf_28 : decode cX9_likeOf 28 = .ok (.invokevirtual 122, 3) := by decide +kernel
theorem dX9_likeOf_31 : decode cX9_likeOf 31 = .ok (.istore 6, 2) := by decide +kernel
theorem dX9_likeOf_33 : decode cX9_likeOf 33 = .ok (.aload_n 0, 1) := by decide +kernel
theorem dX9_likeOf_34 : decode cX9_likeOf 34 = .ok (.iload_n 1, 1) := by decide +kernel
theorem dX9_likeOf_35 : decode cX9_likeOf 35 = .ok (.iconst 4, 1) := by decide +kernel
theorem dX9_likeOf_36 : decode cX9_likeOf 36 = .ok (.invokevirtual 122, 3) := by decide +kernel
theorem dX9_likeOf_39 : decode cX9_likeOf 39 = .ok (.istore 7, 2) := by decide +kernel
theorem dX9_likeOf_41 : decode cX9_likeOf 41 = .ok (.iload 5, 2) := by decide +kernel
theorem dX9_likeOf_43 : decode cX9_likeOf 43 = .ok (.ifCond .lt 13, 3) := by decide +kernel
theorem dX9_likeOf_46 : decode cX9_likeOf 46 = .ok (.iload_n 3, 1) := by decide +kernel
theorem dX9_likeOf_47 : decode cX9_likeOf 47 = .ok (.aload_n 0, 1) := by decide +kernel
theorem dX9_likeOf_48 : decode cX9_likeOf 48 = .ok (.iload_n 2, 1) := by decide +kernel
theorem dX9_likeOf_49 : decode cX9_likeOf 49 = .ok (.iconst 1, 1) := by decide +kernel
theorem dX9_likeOf_50 : decode cX9_likeOf 50 = .ok (.invokevirtual 109, 3) := by decide +kernel
theorem dX9_likeOf_53 : decode cX9_likeOf 53 = .ok (.if_icmp .le 5, 3) := by decide +kernel
theorem dX9_likeOf_56 : decode cX9_likeOf 56 = .ok (.iconst 0, 1) := by decide +kernel
theorem dX9_likeOf_57 : decode cX9_likeOf 57 = .ok (.ireturn, 1) := by decide +kernel
theorem dX9_likeOf_58 : decode cX9_likeOf 58 = .ok (.iload 5, 2) := by decide +kernel
theorem dX9_likeOf_60 : decode cX9_likeOf 60 = .ok (.i2l, 1) := by decide +kernel
theorem dX9_likeOf_61 : decode cX9_likeOf 61 = .ok (.iload 6, 2) := by decide +kernel
theorem dX9_likeOf_63 : decode cX9_likeOf 63 = .ok (.i2l, 1) := by decide +kernel
theorem dX9_likeOf_64 : decode cX9_likeOf 64 = .ok (.iload 7, 2) := by decide +kernel
theorem dX9_likeOf_66 : decode cX9_likeOf 66 = .ok (.i2l, 1) := by decide +kernel
theorem dX9_likeOf_67 : decode cX9_likeOf 67 = .ok (.invokestatic 89, 3) := by decide +kernel
theorem dX9_likeOf_70 : decode cX9_likeOf 70 = .ok (.ifCond .eq 7, 3) := by decide +kernel
theorem dX9_likeOf_73 : decode cX9_likeOf 73 = .ok (.iconst 4, 1) := by decide +kernel
theorem dX9_likeOf_74 : decode cX9_likeOf 74 = .ok (.goto 27, 3) := by decide +kernel
theorem dX9_likeOf_77 : decode cX9_likeOf 77 = .ok (.iload 5, 2) := by decide +kernel
theorem dX9_likeOf_79 : decode cX9_likeOf 79 = .ok (.i2l, 1) := by decide +kernel
theorem dX9_likeOf_80 : decode cX9_likeOf 80 = .ok (.iload 6, 2) := by decide +kernel
theorem dX9_likeOf_82 : decode cX9_likeOf 82 = .ok (.iconst 5, 1) := by decide +kernel
theorem dX9_likeOf_83 : decode cX9_likeOf 83 = .ok (.isub, 1) := by decide +kernel
theorem dX9_likeOf_84 : decode cX9_likeOf 84 = .ok (.i2l, 1) := by decide +kernel
theorem dX9_likeOf_85 : decode cX9_likeOf 85 = .ok (.iload 7, 2) := by decide +kernel
theorem dX9_likeOf_87 : decode cX9_likeOf 87 = .ok (.iconst 5, 1) := by decide +kernel
theorem dX9_likeOf_88 : decode cX9_likeOf 88 = .ok (.iadd, 1) := by decide +kernel
theorem dX9_likeOf_89 : decode cX9_likeOf 89 = .ok (.i2l, 1) := by decide +kernel
theorem dX9_likeOf_90 : decode cX9_likeOf 90 = .ok (.invokestatic 89, 3) := by decide +kernel
theorem dX9_likeOf_93 : decode cX9_likeOf 93 = .ok (.ifCond .eq 7, 3) := by decide +kernel
theorem dX9_likeOf_96 : decode cX9_likeOf 96 = .ok (.iconst 2, 1) := by decide +kernel
theorem dX9_likeOf_97 : decode cX9_likeOf 97 = .ok (.goto 4, 3) := by decide +kernel
theorem dX9_likeOf_100 : decode cX9_likeOf 100 = .ok (.iconst 1, 1) := by decide +kernel
theorem dX9_likeOf_101 : decode cX9_likeOf 101 = .ok (.istore 4, 2) := by decide +kernel
theorem dX9_likeOf_103 : decode cX9_likeOf 103 = .ok (.iconst 0, 1) := by decide +kernel
theorem dX9_likeOf_104 : decode cX9_likeOf 104 = .ok (.istore 5, 2) := by decide +kernel
theorem dX9_likeOf_106 : decode cX9_likeOf 106 = .ok (.iload 5, 2) := by decide +kernel
theorem dX9_likeOf_108 : decode cX9_likeOf 108 = .ok (.iconst 4, 1) := by decide +kernel
theorem dX9_likeOf_109 : decode cX9_likeOf 109 = .ok (.if_icmp .ge 78, 3) := by decide +kernel
theorem dX9_likeOf_112 : decode cX9_likeOf 112 = .ok (.aload_n 0, 1) := by decide +kernel
theorem dX9_likeOf_113 : decode cX9_likeOf 113 = .ok (.iload_n 1, 1) := by decide +kernel
theorem dX9_likeOf_114 : decode cX9_likeOf 114 = .ok (.iconst 2, 1) := by decide +kernel
theorem dX9_likeOf_115 : decode cX9_likeOf 115 = .ok (.invokevirtual 122, 3) := by decide +kernel
theorem dX9_likeOf_118 : decode cX9_likeOf 118 = .ok (.iload 5, 2) := by decide +kernel
theorem dX9_likeOf_120 : decode cX9_likeOf 120 = .ok (.ishr, 1) := by decide +kernel
theorem dX9_likeOf_121 : decode cX9_likeOf 121 = .ok (.iconst 1, 1) := by decide +kernel
theorem dX9_likeOf_122 : decode cX9_likeOf 122 = .ok (.iand, 1) := by decide +kernel
theorem dX9_likeOf_123 : decode cX9_likeOf 123 = .ok (.iconst 1, 1) := by decide +kernel
theorem dX9_likeOf_124 : decode cX9_likeOf 124 = .ok (.if_icmp .ne 57, 3) := by decide +kernel
theorem dX9_likeOf_127 : decode cX9_likeOf 127 = .ok (.iload_n 2, 1) := by decide +kernel
theorem dX9_likeOf_128 : decode cX9_likeOf 128 = .ok (.iconst 5, 1) := by decide +kernel
theorem dX9_likeOf_129 : decode cX9_likeOf 129 = .ok (.if_icmp .ne 7, 3) := by decide +kernel
theorem dX9_likeOf_132 : decode cX9_likeOf 132 = .ok (.iconst (-1), 1) := by decide +kernel
theorem dX9_likeOf_133 : decode cX9_likeOf 133 = .ok (.goto 10, 3) := by decide +kernel
theorem dX9_likeOf_136 : decode cX9_likeOf 136 = .ok (.aload_n 0, 1) := by decide +kernel
theorem dX9_likeOf_137 : decode cX9_likeOf 137 = .ok (.iload_n 2, 1) := by decide +kernel
theorem dX9_likeOf_138 : decode cX9_likeOf 138 = .ok (.iload 5, 2) := by decide +kernel
theorem dX9_likeOf_140 : decode cX9_likeOf 140 = .ok (.invokevirtual 131, 3) := by decide +kernel
theorem dX9_likeOf_143 : decode cX9_likeOf 143 = .ok (.istore 6, 2) := by decide +kernel
theorem dX9_likeOf_145 : decode cX9_likeOf 145 = .ok (.iload 4, 2) := by decide +kernel
theorem dX9_likeOf_147 : decode cX9_likeOf 147 = .ok (.iload 6, 2) := by decide +kernel
theorem dX9_likeOf_149 : decode cX9_likeOf 149 = .ok (.iconst (-1), 1) := by decide +kernel
theorem dX9_likeOf_150 : decode cX9_likeOf 150 = .ok (.if_icmp .ne 7, 3) := by decide +kernel
theorem dX9_likeOf_153 : decode cX9_likeOf 153 = .ok (.iconst 2, 1) := by decide +kernel
theorem dX9_likeOf_154 : decode cX9_likeOf 154 = .ok (.goto 24, 3) := by decide +kernel
theorem dX9_likeOf_157 : decode cX9_likeOf 157 = .ok (.iload 6, 2) := by decide +kernel
theorem dX9_likeOf_159 : decode cX9_likeOf 159 = .ok (.aload_n 0, 1) := by decide +kernel
theorem dX9_likeOf_160 : decode cX9_likeOf 160 = .ok (.iload_n 1, 1) := by decide +kernel
theorem dX9_likeOf_161 : decode cX9_likeOf 161 = .ok (.iconst 1, 1) := by decide +kernel
theorem dX9_likeOf_162 : decode cX9_likeOf 162 = .ok (.invokevirtual 122, 3) := by decide +kernel
theorem dX9_likeOf_165 : decode cX9_likeOf 165 = .ok (.iload 5, 2) := by decide +kernel
theorem dX9_likeOf_167 : decode cX9_likeOf 167 = .ok (.ishr, 1) := by decide +kernel
theorem dX9_likeOf_168 : decode cX9_likeOf 168 = .ok (.iconst 1, 1) := by decide +kernel
theorem dX9_likeOf_169 : decode cX9_likeOf 169 = .ok (.iand, 1) := by decide +kernel
theorem dX9_likeOf_170 : decode cX9_likeOf 170 = .ok (.if_icmp .ne 7, 3) := by decide +kernel
theorem dX9_likeOf_173 : decode cX9_likeOf 173 = .ok (.iconst 3, 1) := by decide +kernel
theorem dX9_likeOf_174 : decode cX9_likeOf 174 = .ok (.goto 4, 3) := by decide +kernel
theorem dX9_likeOf_177 : decode cX9_likeOf 177 = .ok (.iconst 1, 1) := by decide +kernel
theorem dX9_likeOf_178 : decode cX9_likeOf 178 = .ok (.imul, 1) := by decide +kernel
theorem dX9_likeOf_179 : decode cX9_likeOf 179 = .ok (.istore 4, 2) := by decide +kernel
theorem dX9_likeOf_181 : decode cX9_likeOf 181 = .ok (.iinc 5 1, 3) := by decide +kernel
theorem dX9_likeOf_184 : decode cX9_likeOf 184 = .ok (.goto (-78), 3) := by decide +kernel
theorem dX9_likeOf_187 : decode cX9_likeOf 187 = .ok (.iload 4, 2) := by decide +kernel
theorem dX9_likeOf_189 : decode cX9_likeOf 189 = .ok (.ireturn, 1) := by decide +kernel
theorem me_X9_likeOf : cx_Mv yX9_likeOf cX9_likeOf 8 (some .int) 3 := ⟨⟨⟨by decide +kernel, by decide +kernel, by decide +kernel⟩, hw_11, hw_1217⟩, hw_1216, hs_48⟩
noncomputable def f_X9_likeOf_J181 (x5_5 : Int32) (rc106 : Int32 → Int32 → Option Int32) (x4_10 : Int32) : Option Int32 := rc106 x4_10 (x5_5 + 1)
noncomputable def f_X9_likeOf_J178 (x4_4 : Int32) (x5_5 : Int32) (rc106 : Int32 → Int32 → Option Int32) (s1_19 : Int32) : Option Int32 := f_X9_likeOf_J181 x5_5 rc106 (x4_4 * s1_19)
noncomputable def f_X9_likeOf_J143 (m_book : Nat → Int32) (p1 : Int32) (x4_4 : Int32) (x5_5 : Int32) (rc106 : Int32 → Int32 → Option Int32) (s0_14 : Int32) : Option Int32 := if s0_14 = ((-1)) then (f_X9_likeOf_J178 x4_4 x5_5 rc106 2) else (Option.bind (f_X9_ofHead m_book p1 1) (fun u16 => if s0_14 = ((u16 >>> (x5_5 &&& 31)) &&& 1) then (f_X9_likeOf_J178 x4_4 x5_5 rc106 3) else (f_X9_likeOf_J178 x4_4 x5_5 rc106 1)))
noncomputable def f_X9_likeOf_L106 (m_book : Nat → Int32) (p1 : Int32) (p2 : Int32) (rc106 : Int32 → Int32 → Option Int32) (x4_4 : Int32) (x5_5 : Int32) : Option Int32 := if 4 ≤ x5_5 then (some x4_4) else (Option.bind (f_X9_ofHead m_book p1 2) (fun u7 => if ((u7 >>> (x5_5 &&& 31)) &&& 1) = 1 then (if p2 = 5 then (f_X9_likeOf_J143 m_book p1 x4_4 x5_5 rc106 ((-1))) else (Option.bind (f_X9_markOf m_book p2 x5_5) (fun u12 => f_X9_likeOf_J143 m_book p1 x4_4 x5_5 rc106 u12))) else (f_X9_likeOf_J181 x5_5 rc106 x4_4)))
noncomputable def f_X9_likeOf_L106w (m_book : Nat → Int32) (p1 : Int32) (p2 : Int32) (n : Nat) : Int32 → Int32 → Option Int32 := Nat.rec (fun _ _ => none) (fun _ r => f_X9_likeOf_L106 m_book p1 p2 r) n
noncomputable def f_X9_likeOf_J103 (m_book : Nat → Int32) (p1 : Int32) (p2 : Int32) (x4_3 : Int32) : Option Int32 := f_X9_likeOf_L106w m_book p1 p2 cx_N0 x4_3 0
noncomputable def f_X9_likeOf_J101 (m_book : Nat → Int32) (p1 : Int32) (p2 : Int32) (s0_36 : Int32) : Option Int32 := f_X9_likeOf_J103 m_book p1 p2 s0_36
noncomputable def f_X9_likeOf (m_book : Nat → Int32) (p1 : Int32) (p2 : Int32) (p3 : Int32) : Option Int32 := cx_gd (cx_ib 5 140) (if p2 = 5 then (f_X9_likeOf_J103 m_book p1 p2 (2 * (m_book (cx_ix 5)))) else (Option.bind (f_X9_ofPerson m_book p2 0) (fun u20 => Option.bind (f_X9_ofHead m_book p1 3) (fun u22 => Option.bind (f_X9_ofHead m_book p1 4) (fun u24 => if (p3 - u20) < 0 then (some 0) else (Option.bind (f_X9_ofPerson m_book p2 1) (fun u27 => if p3 ≤ u27 then (Option.bind (f_X9_in (Int32.toInt64 (p3 - u20)) (Int32.toInt64 u22) (Int32.toInt64 u24)) (fun u30 => if u30 = 0 then (Option.bind (f_X9_in (Int32.toInt64 (p3 - u20)) (Int32.toInt64 (u22 - 5)) (Int32.toInt64 (u24 + 5))) (fun u33 => if u33 = 0 then (f_X9_likeOf_J101 m_book p1 p2 1) else (f_X9_likeOf_J101 m_book p1 p2 2))) else (f_X9_likeOf_J101 m_book p1 p2 4))) else (some 0))))))))
set_option maxHeartbeats 4000000 in
set_option maxRecDepth 100000 in
theorem c_X9_likeOf (l : Launch) (D : va_G) (k : Nat → ClassId) (m_a : Nat → Nat) (m_limbs : Nat → Int32) (m_wide : Nat → Int32) (m_book : Nat → Int32) (m_images : Nat → Int32) (m_kept : Nat → Int32) (m_before : Nat → Int32) (m_refused : Nat → Int32) (m_quiet : Int32) (m_text : Nat → Int32) (m_typed : Int32) (m_at : Int32) (m_start : Int32) (m_token : Int32) (m_value : Int32) (m_items : Nat → Int32) (m_many : Int32) (m_is : Nat → Int32) (m_likes : Nat → Int32) (m_without : Int32) (m_onePicture : Int32) (m_oneYear : Int32) (m_first : Int32) (m_second : Int32) (m_names : Nat → Int32) (p1 : Int32) (p2 : Int32) (p3 : Int32) (y : Int32) (hf : f_X9_likeOf m_book p1 p2 p3 = some y) : cx_M l yX9_likeOf cX9_likeOf 8 (some .int) 3 D k [.ref (m_a 0), .int p1, .int p2, .int p3] (wd_Model k m_a m_limbs m_wide m_book m_images m_kept m_before m_refused m_quiet m_text m_typed m_at m_start m_token m_value m_items m_many m_is m_likes m_without m_onePicture m_oneYear m_first m_second m_names) (fun sz => cx_Qi D y (wd_Model k m_a m_limbs m_wide m_book m_images m_kept m_before m_refused m_quiet m_text m_typed m_at m_start m_token m_value m_items m_many m_is m_likes m_without m_onePicture m_oneYear m_first m_second m_names) (wd_Model k m_a m_limbs m_wide m_book m_images m_kept m_before m_refused m_quiet m_text m_typed m_at m_start m_token m_value m_items m_many m_is m_likes m_without m_onePicture m_oneYear m_first m_second m_names) sz) := by
  refine cx_met (own := "NamelessBoxModel") (by decide) rfl (Nat.le_of_ble_eq_true rfl) ?_
  intro p e s m args below meth c A Q C hA hQ hr hlk
  refine cx_lv (lv' := [(0, .ref (m_a 0)), (1, .int p1), (2, .int p2), (3, .int p3)]) [0, 1, 2, 3] rfl ?_
  have L106 : ∀ (n106 : Nat) (x4_4 : Int32) (x5_5 : Int32), f_X9_likeOf_L106w m_book p1 p2 n106 x4_4 x5_5 = some y → cx_S p l e (cx_rm 3) s m args below meth c A D 8 0 0 Q 106 [(0, .ref (m_a 0)), (1, .int p1), (2, .int p2), (4, .int x4_4), (5, .int x5_5)] [] (wd_Model k m_a m_limbs m_wide m_book m_images m_kept m_before m_refused m_quiet m_text m_typed m_at m_start m_token m_value m_items m_many m_is m_likes m_without m_onePicture m_oneYear m_first m_second m_names) := by
    intro  n106
    induction n106 with
    | zero =>
      intro x4_4 x5_5 hf
      exact absurd (show (none : Option Int32) = some y from hf) (fun h => by cases h)
    | succ n106 ih106 =>
      intro x4_4 x5_5 hf
      have hf : f_X9_likeOf_L106 m_book p1 p2 (f_X9_likeOf_L106w m_book p1 p2 n106) x4_4 x5_5 = some y := hf
      have J181 : ∀ (x4_10 : Int32), f_X9_likeOf_J181 x5_5 (f_X9_likeOf_L106w m_book p1 p2 n106) x4_10 = some y → cx_S p l e (cx_rm 3) s m args below meth c A D 8 0 0 Q 181 [(0, .ref (m_a 0)), (1, .int p1), (2, .int p2), (4, .int x4_10), (5, .int x5_5)] [] (wd_Model k m_a m_limbs m_wide m_book m_images m_kept m_before m_refused m_quiet m_text m_typed m_at m_start m_token m_value m_items m_many m_is m_likes m_without m_onePicture m_oneYear m_first m_second m_names) := by
        intro x4_10 hf
        unfold f_X9_likeOf_J181 at hf
        refine cx_iinc (v := x5_5 + 1) (lv' := [(5, .int (x5_5 + 1)), (0, .ref (m_a 0)), (1, .int p1), (2, .int p2), (4, .int x4_10)]) C dX9_likeOf_181 4 rfl rfl (by decide) rfl ?_
        refine cx_goto (tgt := 106) C dX9_likeOf_184 (by decide) ?_
        refine cx_lv [1, 2, 3, 4, 0] rfl ?_
        exact ih106 x4_10 (x5_5 + 1) hf
      have J178 : ∀ (s1_19 : Int32), f_X9_likeOf_J178 x4_4 x5_5 (f_X9_likeOf_L106w m_book p1 p2 n106) s1_19 = some y → cx_S p l e (cx_rm 3) s m args below meth c A D 8 0 0 Q 178 [(0, .ref (m_a 0)), (1, .int p1), (2, .int p2), (5, .int x5_5)] [.int s1_19, .int x4_4] (wd_Model k m_a m_limbs m_wide m_book m_images m_kept m_before m_refused m_quiet m_text m_typed m_at m_start m_token m_value m_items m_many m_is m_likes m_without m_onePicture m_oneYear m_first m_second m_names) := by
        intro s1_19 hf
        unfold f_X9_likeOf_J178 at hf
        refine cx_imul C dX9_likeOf_178 ?_
        refine cx_istore (lv' := [(4, .int (x4_4 * s1_19)), (0, .ref (m_a 0)), (1, .int p1), (2, .int p2), (5, .int x5_5)]) C dX9_likeOf_179 (by decide) rfl ?_
        refine cx_lv [1, 2, 3, 0, 4] rfl ?_
        exact J181 (x4_4 * s1_19) hf
      have J143 : ∀ (s0_14 : Int32), f_X9_likeOf_J143 m_book p1 x4_4 x5_5 (f_X9_likeOf_L106w m_book p1 p2 n106) s0_14 = some y → cx_S p l e (cx_rm 3) s m args below meth c A D 8 0 0 Q 143 [(0, .ref (m_a 0)), (1, .int p1), (2, .int p2), (4, .int x4_4), (5, .int x5_5)] [.int s0_14] (wd_Model k m_a m_limbs m_wide m_book m_images m_kept m_before m_refused m_quiet m_text m_typed m_at m_start m_token m_value m_items m_many m_is m_likes m_without m_onePicture m_oneYear m_first m_second m_names) := by
        intro s0_14 hf
        unfold f_X9_likeOf_J143 at hf
        refine cx_istore (lv' := [(6, .int s0_14), (0, .ref (m_a 0)), (1, .int p1), (2, .int p2), (4, .int x4_4), (5, .int x5_5)]) C dX9_likeOf_143 (by decide) rfl ?_
        refine cx_iload C dX9_likeOf_145 4 rfl ?_
        refine cx_iload C dX9_likeOf_147 0 rfl ?_
        refine cx_iconst (v := (-1)) C dX9_likeOf_149 (by decide) ?_
        refine cx_icmp_ne (tgt := 157) C dX9_likeOf_150 (by decide) (fun c15 => ?_) (fun c15 => ?_)
        · have hf := cx_if_f hf c15
          clear c15
          refine cx_iload C dX9_likeOf_157 0 rfl ?_
          refine cx_aload_n C dX9_likeOf_159 1 rfl ?_
          refine cx_iload_n C dX9_likeOf_160 2 rfl ?_
          refine cx_iconst (v := 1) C dX9_likeOf_161 (by decide) ?_
          obtain ⟨u16, e17, hf⟩ := cx_bd_at hf
          refine cx_Fvi (q := (RX9, TX9, 24)) (As := [.int p1, .int 1]) (rest := [.int s0_14, .int x4_4]) (w1 := (wd_Model k m_a m_limbs m_wide m_book m_images m_kept m_before m_refused m_quiet m_text m_typed m_at m_start m_token m_value m_items m_many m_is m_likes m_without m_onePicture m_oneYear m_first m_second m_names)) hA C me_X9_ofHead hw_1191 (c_X9_ofHead l D k m_a m_limbs m_wide m_book m_images m_kept m_before m_refused m_quiet m_text m_typed m_at m_start m_token m_value m_items m_many m_is m_likes m_without m_onePicture m_oneYear m_first m_second m_names p1 1 u16 e17) dX9_likeOf_162 ⟨Nat.le_of_ble_eq_true rfl, Nat.le_of_ble_eq_true rfl⟩ ⟨Nat.zero_le _, Nat.zero_le _⟩ rfl rfl (Nat.le_of_ble_eq_true rfl) rfl rfl rfl ?_
          clear e17
          refine cx_iload C dX9_likeOf_165 5 rfl ?_
          refine cx_ishr C dX9_likeOf_167 ?_
          refine cx_iconst (v := 1) C dX9_likeOf_168 (by decide) ?_
          refine cx_iand C dX9_likeOf_169 ?_
          refine cx_icmp_ne (tgt := 177) C dX9_likeOf_170 (by decide) (fun c18 => ?_) (fun c18 => ?_)
          · have hf := cx_if_f hf c18
            clear c18
            refine cx_iconst (v := 1) C dX9_likeOf_177 (by decide) ?_
            refine cx_lv [1, 2, 3, 5] rfl ?_
            exact J178 1 hf
          · have hf := cx_if_t hf c18
            clear c18
            refine cx_iconst (v := 3) C dX9_likeOf_173 (by decide) ?_
            refine cx_goto (tgt := 178) C dX9_likeOf_174 (by decide) ?_
            refine cx_lv [1, 2, 3, 5] rfl ?_
            exact J178 3 hf
        · have hf := cx_if_t hf c15
          clear c15
          refine cx_iconst (v := 2) C dX9_likeOf_153 (by decide) ?_
          refine cx_goto (tgt := 178) C dX9_likeOf_154 (by decide) ?_
          refine cx_lv [1, 2, 3, 5] rfl ?_
          exact J178 2 hf
      unfold f_X9_likeOf_L106 at hf
      refine cx_iload C dX9_likeOf_106 4 rfl ?_
      refine cx_iconst (v := 4) C dX9_likeOf_108 (by decide) ?_
      refine cx_icmp_ge (tgt := 187) C dX9_likeOf_109 (by decide) (fun c6 => ?_) (fun c6 => ?_)
      · have hf := cx_if_t hf c6
        clear c6
        refine cx_iload C dX9_likeOf_187 3 rfl ?_
        obtain rfl := Option.some.inj hf
        exact cx_iret C hA hQ hr hlk dX9_likeOf_189 rfl rfl
      · have hf := cx_if_f hf c6
        clear c6
        refine cx_aload_n C dX9_likeOf_112 0 rfl ?_
        refine cx_iload_n C dX9_likeOf_113 1 rfl ?_
        refine cx_iconst (v := 2) C dX9_likeOf_114 (by decide) ?_
        obtain ⟨u7, e8, hf⟩ := cx_bd_at hf
        refine cx_Fvi (q := (RX9, TX9, 24)) (As := [.int p1, .int 2]) (rest := []) (w1 := (wd_Model k m_a m_limbs m_wide m_book m_images m_kept m_before m_refused m_quiet m_text m_typed m_at m_start m_token m_value m_items m_many m_is m_likes m_without m_onePicture m_oneYear m_first m_second m_names)) hA C me_X9_ofHead hw_1191 (c_X9_ofHead l D k m_a m_limbs m_wide m_book m_images m_kept m_before m_refused m_quiet m_text m_typed m_at m_start m_token m_value m_items m_many m_is m_likes m_without m_onePicture m_oneYear m_first m_second m_names p1 2 u7 e8) dX9_likeOf_115 ⟨Nat.le_of_ble_eq_true rfl, Nat.le_of_ble_eq_true rfl⟩ ⟨Nat.zero_le _, Nat.zero_le _⟩ rfl rfl (Nat.le_of_ble_eq_true rfl) rfl rfl rfl ?_
        clear e8
        refine cx_iload C dX9_likeOf_118 4 rfl ?_
        refine cx_ishr C dX9_likeOf_120 ?_
        refine cx_iconst (v := 1) C dX9_likeOf_121 (by decide) ?_
        refine cx_iand C dX9_likeOf_122 ?_
        refine cx_iconst (v := 1) C dX9_likeOf_123 (by decide) ?_
        refine cx_icmp_ne (tgt := 181) C dX9_likeOf_124 (by decide) (fun c9 => ?_) (fun c9 => ?_)
        · have hf := cx_if_f hf c9
          clear c9
          exact J181 x4_4 hf
        · have hf := cx_if_t hf c9
          clear c9
          refine cx_iload_n C dX9_likeOf_127 2 rfl ?_
          refine cx_iconst (v := 5) C dX9_likeOf_128 (by decide) ?_
          refine cx_icmp_ne (tgt := 136) C dX9_likeOf_129 (by decide) (fun c11 => ?_) (fun c11 => ?_)
          · have hf := cx_if_f hf c11
            clear c11
            refine cx_aload_n C dX9_likeOf_136 0 rfl ?_
            refine cx_iload_n C dX9_likeOf_137 2 rfl ?_
            refine cx_iload C dX9_likeOf_138 4 rfl ?_
            obtain ⟨u12, e13, hf⟩ := cx_bd_at hf
            refine cx_Fvi (q := (RX9, TX9, 24)) (As := [.int p2, .int x5_5]) (rest := []) (w1 := (wd_Model k m_a m_limbs m_wide m_book m_images m_kept m_before m_refused m_quiet m_text m_typed m_at m_start m_token m_value m_items m_many m_is m_likes m_without m_onePicture m_oneYear m_first m_second m_names)) hA C me_X9_markOf hw_1206 (c_X9_markOf l D k m_a m_limbs m_wide m_book m_images m_kept m_before m_refused m_quiet m_text m_typed m_at m_start m_token m_value m_items m_many m_is m_likes m_without m_onePicture m_oneYear m_first m_second m_names p2 x5_5 u12 e13) dX9_likeOf_140 ⟨Nat.le_of_ble_eq_true rfl, Nat.le_of_ble_eq_true rfl⟩ ⟨Nat.zero_le _, Nat.zero_le _⟩ rfl rfl (Nat.le_of_ble_eq_true rfl) rfl rfl rfl ?_
            clear e13
            exact J143 u12 hf
          · have hf := cx_if_t hf c11
            clear c11
            refine cx_iconst (v := (-1)) C dX9_likeOf_132 (by decide) ?_
            refine cx_goto (tgt := 143) C dX9_likeOf_133 (by decide) ?_
            exact J143 ((-1)) hf
  have J103 : ∀ (x4_3 : Int32), f_X9_likeOf_J103 m_book p1 p2 x4_3 = some y → cx_S p l e (cx_rm 3) s m args below meth c A D 8 0 0 Q 103 [(0, .ref (m_a 0)), (1, .int p1), (2, .int p2), (4, .int x4_3)] [] (wd_Model k m_a m_limbs m_wide m_book m_images m_kept m_before m_refused m_quiet m_text m_typed m_at m_start m_token m_value m_items m_many m_is m_likes m_without m_onePicture m_oneYear m_first m_second m_names) := by
    intro x4_3 hf
    unfold f_X9_likeOf_J103 at hf
    refine cx_iconst (v := 0) C dX9_likeOf_103 (by decide) ?_
    refine cx_istore (lv' := [(5, .int 0), (0, .ref (m_a 0)), (1, .int p1), (2, .int p2), (4, .int x4_3)]) C dX9_likeOf_104 (by decide) rfl ?_
    refine cx_lv [1, 2, 3, 4, 0] rfl ?_
    exact L106 cx_N0 x4_3 0 hf
  have J101 : ∀ (s0_36 : Int32), f_X9_likeOf_J101 m_book p1 p2 s0_36 = some y → cx_S p l e (cx_rm 3) s m args below meth c A D 8 0 0 Q 101 [(0, .ref (m_a 0)), (1, .int p1), (2, .int p2)] [.int s0_36] (wd_Model k m_a m_limbs m_wide m_book m_images m_kept m_before m_refused m_quiet m_text m_typed m_at m_start m_token m_value m_items m_many m_is m_likes m_without m_onePicture m_oneYear m_first m_second m_names) := by
    intro s0_36 hf
    unfold f_X9_likeOf_J101 at hf
    refine cx_istore (lv' := [(4, .int s0_36), (0, .ref (m_a 0)), (1, .int p1), (2, .int p2)]) C dX9_likeOf_101 (by decide) rfl ?_
    refine cx_lv [1, 2, 3, 0] rfl ?_
    exact J103 s0_36 hf
  unfold f_X9_likeOf at hf
  refine cx_iconst (v := 2) C dX9_likeOf_0 (by decide) ?_
  refine cx_aload_n C dX9_likeOf_1 0 rfl ?_
  refine cx_get (v := .ref (m_a 3)) (ci := 8) C iX9 dX9_likeOf_2 0 rfl rfl 2 (by decide) hw_1056 rfl ?_
  refine cx_iconst (v := 5) C dX9_likeOf_5 (by decide) ?_
  obtain ⟨g1, hf⟩ := cx_gd_at hf
  refine cx_iald C dX9_likeOf_6 3 rfl (cx_ib_in g1) ?_
  clear g1
  refine cx_imul C dX9_likeOf_7 ?_
  refine cx_istore (lv' := [(4, .int (2 * (m_book (cx_ix 5)))), (0, .ref (m_a 0)), (1, .int p1), (2, .int p2), (3, .int p3)]) C dX9_likeOf_8 (by decide) rfl ?_
  refine cx_iload_n C dX9_likeOf_10 3 rfl ?_
  refine cx_iconst (v := 5) C dX9_likeOf_11 (by decide) ?_
  refine cx_icmp_eq (tgt := 103) C dX9_likeOf_12 (by decide) (fun c2 => ?_) (fun c2 => ?_)
  · have hf := cx_if_t hf c2
    clear c2
    refine cx_lv [1, 2, 3, 0] rfl ?_
    exact J103 (2 * (m_book (cx_ix 5))) hf
  · have hf := cx_if_f hf c2
    clear c2
    refine cx_iload_n C dX9_likeOf_15 4 rfl ?_
    refine cx_aload_n C dX9_likeOf_16 1 rfl ?_
    refine cx_iload_n C dX9_likeOf_17 3 rfl ?_
    refine cx_iconst (v := 0) C dX9_likeOf_18 (by decide) ?_
    obtain ⟨u20, e21, hf⟩ := cx_bd_at hf
    refine cx_Fvi (q := (RX9, TX9, 24)) (As := [.int p2, .int 0]) (rest := [.int p3]) (w1 := (wd_Model k m_a m_limbs m_wide m_book m_images m_kept m_before m_refused m_quiet m_text m_typed m_at m_start m_token m_value m_items m_many m_is m_likes m_without m_onePicture m_oneYear m_first m_second m_names)) hA C me_X9_ofPerson hw_1157 (c_X9_ofPerson l D k m_a m_limbs m_wide m_book m_images m_kept m_before m_refused m_quiet m_text m_typed m_at m_start m_token m_value m_items m_many m_is m_likes m_without m_onePicture m_oneYear m_first m_second m_names p2 0 u20 e21) dX9_likeOf_19 ⟨Nat.le_of_ble_eq_true rfl, Nat.le_of_ble_eq_true rfl⟩ ⟨Nat.zero_le _, Nat.zero_le _⟩ rfl rfl (Nat.le_of_ble_eq_true rfl) rfl rfl rfl ?_
    clear e21
    refine cx_isub C dX9_likeOf_22 ?_
    refine cx_istore (lv' := [(5, .int (p3 - u20)), (4, .int (2 * (m_book (cx_ix 5)))), (0, .ref (m_a 0)), (1, .int p1), (2, .int p2), (3, .int p3)]) C dX9_likeOf_23 (by decide) rfl ?_
    refine cx_aload_n C dX9_likeOf_25 2 rfl ?_
    refine cx_iload_n C dX9_likeOf_26 3 rfl ?_
    refine cx_iconst (v := 3) C dX9_likeOf_27 (by decide) ?_
    obtain ⟨u22, e23, hf⟩ := cx_bd_at hf
    refine cx_Fvi (q := (RX9, TX9, 24)) (As := [.int p1, .int 3]) (rest := []) (w1 := (wd_Model k m_a m_limbs m_wide m_book m_images m_kept m_before m_refused m_quiet m_text m_typed m_at m_start m_token m_value m_items m_many m_is m_likes m_without m_onePicture m_oneYear m_first m_second m_names)) hA C me_X9_ofHead hw_1191 (c_X9_ofHead l D k m_a m_limbs m_wide m_book m_images m_kept m_before m_refused m_quiet m_text m_typed m_at m_start m_token m_value m_items m_many m_is m_likes m_without m_onePicture m_oneYear m_first m_second m_names p1 3 u22 e23) dX9_likeOf_28 ⟨Nat.le_of_ble_eq_true rfl, Nat.le_of_ble_eq_true rfl⟩ ⟨Nat.zero_le _, Nat.zero_le _⟩ rfl rfl (Nat.le_of_ble_eq_true rfl) rfl rfl rfl ?_
    clear e23
    refine cx_istore (lv' := [(6, .int u22), (5, .int (p3 - u20)), (4, .int (2 * (m_book (cx_ix 5)))), (0, .ref (m_a 0)), (1, .int p1), (2, .int p2), (3, .int p3)]) C dX9_likeOf_31 (by decide) rfl ?_
    refine cx_aload_n C dX9_likeOf_33 3 rfl ?_
    refine cx_iload_n C dX9_likeOf_34 4 rfl ?_
    refine cx_iconst (v := 4) C dX9_likeOf_35 (by decide) ?_
    obtain ⟨u24, e25, hf⟩ := cx_bd_at hf
    refine cx_Fvi (q := (RX9, TX9, 24)) (As := [.int p1, .int 4]) (rest := []) (w1 := (wd_Model k m_a m_limbs m_wide m_book m_images m_kept m_before m_refused m_quiet m_text m_typed m_at m_start m_token m_value m_items m_many m_is m_likes m_without m_onePicture m_oneYear m_first m_second m_names)) hA C me_X9_ofHead hw_1191 (c_X9_ofHead l D k m_a m_limbs m_wide m_book m_images m_kept m_before m_refused m_quiet m_text m_typed m_at m_start m_token m_value m_items m_many m_is m_likes m_without m_onePicture m_oneYear m_first m_second m_names p1 4 u24 e25) dX9_likeOf_36 ⟨Nat.le_of_ble_eq_true rfl, Nat.le_of_ble_eq_true rfl⟩ ⟨Nat.zero_le _, Nat.zero_le _⟩ rfl rfl (Nat.le_of_ble_eq_true rfl) rfl rfl rfl ?_
    clear e25
    refine cx_istore (lv' := [(7, .int u24), (6, .int u22), (5, .int (p3 - u20)), (4, .int (2 * (m_book (cx_ix 5)))), (0, .ref (m_a 0)), (1, .int p1), (2, .int p2), (3, .int p3)]) C dX9_likeOf_39 (by decide) rfl ?_
    refine cx_iload C dX9_likeOf_41 2 rfl ?_
    refine cx_if_lt (tgt := 56) C dX9_likeOf_43 (by decide) (fun c26 => ?_) (fun c26 => ?_)
    · have hf := cx_if_t hf c26
      clear c26
      refine cx_iconst (v := 0) C dX9_likeOf_56 (by decide) ?_
      obtain rfl := Option.some.inj hf
      exact cx_iret C hA hQ hr hlk dX9_likeOf_57 rfl rfl
    · have hf := cx_if_f hf c26
      clear c26
      refine cx_iload_n C dX9_likeOf_46 7 rfl ?_
      refine cx_aload_n C dX9_likeOf_47 4 rfl ?_
      refine cx_iload_n C dX9_likeOf_48 6 rfl ?_
      refine cx_iconst (v := 1) C dX9_likeOf_49 (by decide) ?_
      obtain ⟨u27, e28, hf⟩ := cx_bd_at hf
      refine cx_Fvi (q := (RX9, TX9, 24)) (As := [.int p2, .int 1]) (rest := [.int p3]) (w1 := (wd_Model k m_a m_limbs m_wide m_book m_images m_kept m_before m_refused m_quiet m_text m_typed m_at m_start m_token m_value m_items m_many m_is m_likes m_without m_onePicture m_oneYear m_first m_second m_names)) hA C me_X9_ofPerson hw_1157 (c_X9_ofPerson l D k m_a m_limbs m_wide m_book m_images m_kept m_before m_refused m_quiet m_text m_typed m_at m_start m_token m_value m_items m_many m_is m_likes m_without m_onePicture m_oneYear m_first m_second m_names p2 1 u27 e28) dX9_likeOf_50 ⟨Nat.le_of_ble_eq_true rfl, Nat.le_of_ble_eq_true rfl⟩ ⟨Nat.zero_le _, Nat.zero_le _⟩ rfl rfl (Nat.le_of_ble_eq_true rfl) rfl rfl rfl ?_
      clear e28
      refine cx_icmp_le (tgt := 58) C dX9_likeOf_53 (by decide) (fun c29 => ?_) (fun c29 => ?_)
      · have hf := cx_if_t hf c29
        clear c29
        refine cx_iload C dX9_likeOf_58 2 rfl ?_
        refine cx_i2l C dX9_likeOf_60 ?_
        refine cx_iload C dX9_likeOf_61 1 rfl ?_
        refine cx_i2l C dX9_likeOf_63 ?_
        refine cx_iload C dX9_likeOf_64 0 rfl ?_
        refine cx_i2l C dX9_likeOf_66 ?_
        obtain ⟨u30, e31, hf⟩ := cx_bd_at hf
        refine cx_Ksi (As := [.long (Int32.toInt64 (p3 - u20)), .long (Int32.toInt64 u22), .long (Int32.toInt64 u24)]) (rest := []) hA C me_X9_in hw_1132 (c_X9_in l D k (Int32.toInt64 (p3 - u20)) (Int32.toInt64 u22) (Int32.toInt64 u24) u30 e31) dX9_likeOf_67 ⟨Nat.le_of_ble_eq_true rfl, Nat.le_of_ble_eq_true rfl⟩ ⟨Nat.zero_le _, Nat.zero_le _⟩ rfl rfl (Nat.le_of_ble_eq_true rfl) [] rfl (by decide) ?_
        clear e31
        refine cx_if_eq (tgt := 77) C dX9_likeOf_70 (by decide) (fun c32 => ?_) (fun c32 => ?_)
        · have hf := cx_if_t hf c32
          clear c32
          refine cx_iload C dX9_likeOf_77 2 rfl ?_
          refine cx_i2l C dX9_likeOf_79 ?_
          refine cx_iload C dX9_likeOf_80 1 rfl ?_
          refine cx_iconst (v := 5) C dX9_likeOf_82 (by decide) ?_
          refine cx_isub C dX9_likeOf_83 ?_
          refine cx_i2l C dX9_likeOf_84 ?_
          refine cx_iload C dX9_likeOf_85 0 rfl ?_
          refine cx_iconst (v := 5) C dX9_likeOf_87 (by decide) ?_
          refine cx_iadd C dX9_likeOf_88 ?_
          refine cx_i2l C dX9_likeOf_89 ?_
          obtain ⟨u33, e34, hf⟩ := cx_bd_at hf
          refine cx_Ksi (As := [.long (Int32.toInt64 (p3 - u20)), .long (Int32.toInt64 (u22 - 5)), .long (Int32.toInt64 (u24 + 5))]) (rest := []) hA C me_X9_in hw_1132 (c_X9_in l D k (Int32.toInt64 (p3 - u20)) (Int32.toInt64 (u22 - 5)) (Int32.toInt64 (u24 + 5)) u33 e34) dX9_likeOf_90 ⟨Nat.le_of_ble_eq_true rfl, Nat.le_of_ble_eq_true rfl⟩ ⟨Nat.zero_le _, Nat.zero_le _⟩ rfl rfl (Nat.le_of_ble_eq_true rfl) [] rfl (by decide) ?_
          clear e34
          refine cx_if_eq (tgt := 100) C dX9_likeOf_93 (by decide) (fun c35 => ?_) (fun c35 => ?_)
          · have hf := cx_if_t hf c35
            clear c35
            refine cx_iconst (v := 1) C dX9_likeOf_100 (by decide) ?_
            refine cx_lv [4, 5, 6] rfl ?_
            exact J101 1 hf
          · have hf := cx_if_f hf c35
            clear c35
            refine cx_iconst (v := 2) C dX9_likeOf_96 (by decide) ?_
            refine cx_goto (tgt := 101) C dX9_likeOf_97 (by decide) ?_
            refine cx_lv [4, 5, 6] rfl ?_
            exact J101 2 hf
        · have hf := cx_if_f hf c32
          clear c32
          refine cx_iconst (v := 4) C dX9_likeOf_73 (by decide) ?_
          refine cx_goto (tgt := 101) C dX9_likeOf_74 (by decide) ?_
          refine cx_lv [4, 5, 6] rfl ?_
          exact J101 4 hf
      · have hf := cx_if_f hf c29
        clear c29
        refine cx_iconst (v := 0) C dX9_likeOf_56 (by decide) ?_
        obtain rfl := Option.some.inj hf
        exact cx_iret C hA hQ hr hlk dX9_likeOf_57 rfl rfl
theorem dX9_like_0 : decode cX9_like 0 = .ok (.aload_n 0, 1) := by decide +kernel
theorem dX9_like_1 : decode cX9_like 1 = .ok (.iload_n 1, 1) := by decide +kernel
theorem dX9_like_2 : decode cX9_like 2 = .ok (.invokevirtual 119, 3) := by decide +kernel
theorem dX9_like_5 : decode cX9_like 5 = .ok (.ifCond .eq 28, 3) := by decide +kernel
theorem dX9_like_8 : decode cX9_like 8 = .ok (.iload_n 2, 1) := by decide +kernel
theorem dX9_like_9 : decode cX9_like 9 = .ok (.iconst (-1), 1) := by decide +kernel
theorem dX9_like_10 : decode cX9_like 10 = .ok (.if_icmp .eq 11, 3) := by decide +kernel
theorem dX9_like_13 : decode cX9_like 13 = .ok (.aload_n 0, 1) := by decide +kernel
theorem dX9_like_14 : decode cX9_like 14 = .ok (.iload_n 2, 1) := by decide +kernel
theorem dX9_like_15 : decode cX9_like 15 = .ok (.invokevirtual 106, 3) := by decide +kernel
theorem dX9_like_18 : decode cX9_like 18 = .ok (.ifCond .eq 15, 3) := by decide +kernel
theorem dX9_like_21 : decode cX9_like 21 = .ok (.iload_n 3, 1) := by decide +kernel
theorem dX9_like_22 : decode cX9_like 22 = .ok (.i2l, 1) := by decide +kernel
theorem dX9_like_23 : decode cX9_like 23 = .ok (.lconst 0, 1) := by decide +kernel
theorem dX9_like_24 : decode cX9_like 24 = .ok (.ldc2_w 93, 3) := by decide +kernel
theorem dX9_like_27 : decode cX9_like 27 = .ok (.invokestatic 89, 3) := by decide +kernel
theorem dX9_like_30 : decode cX9_like 30 = .ok (.ifCond .ne 8, 3) := by decide +kernel
theorem dX9_like_33 : decode cX9_like 33 = .ok (.aload_n 0, 1) := by decide +kernel
theorem dX9_like_34 : decode cX9_like 34 = .ok (.invokevirtual 99, 3) := by decide +kernel
theorem dX9_like_37 : decode cX9_like 37 = .ok (.ireturn, 1) := by decide +kernel
theorem dX9_like_38 : decode cX9_like 38 = .ok (.aload_n 0, 1) := by decide +kernel
theorem dX9_like_39 : decode cX9_like 39 = .ok (.iload_n 1, 1) := by decide +kernel
theorem dX9_like_40 : decode cX9_like 40 = .ok (.iload_n 2, 1) := by decide +kernel
theorem dX9_like_41 : decode cX9_like 41 = .ok (.iconst (-1), 1) := by decide +kernel
theorem dX9_like_42 : decode cX9_like 42 = .ok (.if_icmp .ne 7, 3) := by decide +kernel
theorem dX9_like_45 : decode cX9_like 45 = .ok (.iconst 5, 1) := by decide +kernel
theorem dX9_like_46 : decode cX9_like 46 = .ok (.goto 4, 3) := by decide +kernel
theorem dX9_like_49 : decode cX9_like 49 = .ok (.iload_n 2, 1) := by decide +kernel
theorem dX9_like_50 : decode cX9_like 50 = .ok (.iload_n 3, 1) := by decide +kernel
theorem dX9_like_51 : decode cX9_like 51 = .ok (.invokevirtual 134, 3) := by decide +kernel
theorem dX9_like_54 : decode cX9_like 54 = .ok (.ireturn, 1) := by decide +kernel
theorem me_X9_like : cx_Mv yX9_like cX9_like 4 (some .int) 3 := ⟨⟨⟨by decide +kernel, by decide +kernel, by decide +kernel⟩, hw_11, hw_1213⟩, hw_1211, hw_1212⟩
noncomputable def f_X9_like_J33 (m_refused : Nat → Int32) (m_quiet : Int32) : Option (Int32 × (Nat → Int32)) := Option.bind (f_X9_bad m_refused m_quiet) (fun u4 => some ((u4.1, u4.2)))
noncomputable def f_X9_like_J50 (m_book : Nat → Int32) (m_refused : Nat → Int32) (p1 : Int32) (p3 : Int32) (s2_11 : Int32) : Option (Int32 × (Nat → Int32)) := Option.bind (f_X9_likeOf m_book p1 s2_11 p3) (fun u12 => some ((u12, m_refused)))
noncomputable def f_X9_like_J21 (m_book : Nat → Int32) (m_refused : Nat → Int32) (m_quiet : Int32) (p1 : Int32) (p2 : Int32) (p3 : Int32) : Option (Int32 × (Nat → Int32)) := Option.bind (f_X9_in (Int32.toInt64 p3) 0 99) (fun u7 => if u7 = 0 then (f_X9_like_J33 m_refused m_quiet) else (if p2 = ((-1)) then (f_X9_like_J50 m_book m_refused p1 p3 5) else (f_X9_like_J50 m_book m_refused p1 p3 p2)))
noncomputable def f_X9_like (m_book : Nat → Int32) (m_refused : Nat → Int32) (m_quiet : Int32) (p1 : Int32) (p2 : Int32) (p3 : Int32) : Option (Int32 × (Nat → Int32)) := Option.bind (f_X9_isHead m_book p1) (fun u1 => if u1 = 0 then (f_X9_like_J33 m_refused m_quiet) else (if p2 = ((-1)) then (f_X9_like_J21 m_book m_refused m_quiet p1 p2 p3) else (Option.bind (f_X9_isPerson m_book p2) (fun u14 => if u14 = 0 then (f_X9_like_J33 m_refused m_quiet) else (f_X9_like_J21 m_book m_refused m_quiet p1 p2 p3)))))
set_option maxHeartbeats 4000000 in
set_option maxRecDepth 100000 in
theorem c_X9_like (l : Launch) (D : va_G) (k : Nat → ClassId) (m_a : Nat → Nat) (m_limbs : Nat → Int32) (m_wide : Nat → Int32) (m_book : Nat → Int32) (m_images : Nat → Int32) (m_kept : Nat → Int32) (m_before : Nat → Int32) (m_refused : Nat → Int32) (m_quiet : Int32) (m_text : Nat → Int32) (m_typed : Int32) (m_at : Int32) (m_start : Int32) (m_token : Int32) (m_value : Int32) (m_items : Nat → Int32) (m_many : Int32) (m_is : Nat → Int32) (m_likes : Nat → Int32) (m_without : Int32) (m_onePicture : Int32) (m_oneYear : Int32) (m_first : Int32) (m_second : Int32) (m_names : Nat → Int32) (p1 : Int32) (p2 : Int32) (p3 : Int32) (y : Int32 × (Nat → Int32)) (hf : f_X9_like m_book m_refused m_quiet p1 p2 p3 = some y) : cx_M l yX9_like cX9_like 4 (some .int) 4 D k [.ref (m_a 0), .int p1, .int p2, .int p3] (wd_Model k m_a m_limbs m_wide m_book m_images m_kept m_before m_refused m_quiet m_text m_typed m_at m_start m_token m_value m_items m_many m_is m_likes m_without m_onePicture m_oneYear m_first m_second m_names) (fun sz => cx_Qi D y.1 (wd_Model k m_a m_limbs m_wide m_book m_images m_kept m_before m_refused m_quiet m_text m_typed m_at m_start m_token m_value m_items m_many m_is m_likes m_without m_onePicture m_oneYear m_first m_second m_names) (wd_Model k m_a m_limbs m_wide m_book m_images m_kept m_before y.2 m_quiet m_text m_typed m_at m_start m_token m_value m_items m_many m_is m_likes m_without m_onePicture m_oneYear m_first m_second m_names) sz) := by
  refine cx_met (own := "NamelessBoxModel") (by decide) rfl (Nat.le_of_ble_eq_true rfl) ?_
  intro p e s m args below meth c A Q C hA hQ hr hlk
  refine cx_lv (lv' := [(0, .ref (m_a 0)), (1, .int p1), (2, .int p2), (3, .int p3)]) [0, 1, 2, 3] rfl ?_
  have J33 : f_X9_like_J33 m_refused m_quiet = some y → cx_S p l e (cx_rm 4) s m args below meth c A D 4 0 0 Q 33 [(0, .ref (m_a 0))] [] (wd_Model k m_a m_limbs m_wide m_book m_images m_kept m_before m_refused m_quiet m_text m_typed m_at m_start m_token m_value m_items m_many m_is m_likes m_without m_onePicture m_oneYear m_first m_second m_names) := by
    intro  hf
    unfold f_X9_like_J33 at hf
    refine cx_aload_n C dX9_like_33 0 rfl ?_
    obtain ⟨u4, e5, hf⟩ := cx_bd_at hf
    refine cx_Fvi (q := (RX9, TX9, 24)) (As := []) (rest := []) (w1 := (wd_Model k m_a m_limbs m_wide m_book m_images m_kept m_before u4.2 m_quiet m_text m_typed m_at m_start m_token m_value m_items m_many m_is m_likes m_without m_onePicture m_oneYear m_first m_second m_names)) hA C me_X9_bad hw_1137 (c_X9_bad l D k m_a m_limbs m_wide m_book m_images m_kept m_before m_refused m_quiet m_text m_typed m_at m_start m_token m_value m_items m_many m_is m_likes m_without m_onePicture m_oneYear m_first m_second m_names u4 e5) dX9_like_34 ⟨Nat.le_of_ble_eq_true rfl, Nat.le_of_ble_eq_true rfl⟩ ⟨Nat.zero_le _, Nat.zero_le _⟩ rfl rfl (Nat.le_of_ble_eq_true rfl) rfl rfl rfl ?_
    clear e5
    obtain rfl := Option.some.inj hf
    exact cx_iret C hA hQ hr hlk dX9_like_37 rfl rfl
  have J50 : ∀ (s2_11 : Int32), f_X9_like_J50 m_book m_refused p1 p3 s2_11 = some y → cx_S p l e (cx_rm 4) s m args below meth c A D 4 0 0 Q 50 [(3, .int p3)] [.int s2_11, .int p1, .ref (m_a 0)] (wd_Model k m_a m_limbs m_wide m_book m_images m_kept m_before m_refused m_quiet m_text m_typed m_at m_start m_token m_value m_items m_many m_is m_likes m_without m_onePicture m_oneYear m_first m_second m_names) := by
    intro s2_11 hf
    unfold f_X9_like_J50 at hf
    refine cx_iload_n C dX9_like_50 0 rfl ?_
    obtain ⟨u12, e13, hf⟩ := cx_bd_at hf
    refine cx_Fvi (q := (RX9, TX9, 24)) (As := [.int p1, .int s2_11, .int p3]) (rest := []) (w1 := (wd_Model k m_a m_limbs m_wide m_book m_images m_kept m_before m_refused m_quiet m_text m_typed m_at m_start m_token m_value m_items m_many m_is m_likes m_without m_onePicture m_oneYear m_first m_second m_names)) hA C me_X9_likeOf hw_1214 (c_X9_likeOf l D k m_a m_limbs m_wide m_book m_images m_kept m_before m_refused m_quiet m_text m_typed m_at m_start m_token m_value m_items m_many m_is m_likes m_without m_onePicture m_oneYear m_first m_second m_names p1 s2_11 p3 u12 e13) dX9_like_51 ⟨Nat.le_of_ble_eq_true rfl, Nat.le_of_ble_eq_true rfl⟩ ⟨Nat.zero_le _, Nat.zero_le _⟩ rfl rfl (Nat.le_of_ble_eq_true rfl) rfl rfl rfl ?_
    clear e13
    obtain rfl := Option.some.inj hf
    exact cx_iret C hA hQ hr hlk dX9_like_54 rfl rfl
  have J21 : f_X9_like_J21 m_book m_refused m_quiet p1 p2 p3 = some y → cx_S p l e (cx_rm 4) s m args below meth c A D 4 0 0 Q 21 [(0, .ref (m_a 0)), (1, .int p1), (2, .int p2), (3, .int p3)] [] (wd_Model k m_a m_limbs m_wide m_book m_images m_kept m_before m_refused m_quiet m_text m_typed m_at m_start m_token m_value m_items m_many m_is m_likes m_without m_onePicture m_oneYear m_first m_second m_names) := by
    intro  hf
    unfold f_X9_like_J21 at hf
    refine cx_iload_n C dX9_like_21 3 rfl ?_
    refine cx_i2l C dX9_like_22 ?_
    refine cx_lconst (v := 0) C dX9_like_23 (by decide) ?_
    refine cx_ldc2 (v := 99) C dX9_like_24 hw_1131 ?_
    obtain ⟨u7, e8, hf⟩ := cx_bd_at hf
    refine cx_Ksi (As := [.long (Int32.toInt64 p3), .long 0, .long 99]) (rest := []) hA C me_X9_in hw_1132 (c_X9_in l D k (Int32.toInt64 p3) 0 99 u7 e8) dX9_like_27 ⟨Nat.le_of_ble_eq_true rfl, Nat.le_of_ble_eq_true rfl⟩ ⟨Nat.zero_le _, Nat.zero_le _⟩ rfl rfl (Nat.le_of_ble_eq_true rfl) [] rfl (by decide) ?_
    clear e8
    refine cx_if_ne (tgt := 38) C dX9_like_30 (by decide) (fun c9 => ?_) (fun c9 => ?_)
    · have hf := cx_if_f hf c9
      clear c9
      refine cx_aload_n C dX9_like_38 0 rfl ?_
      refine cx_iload_n C dX9_like_39 1 rfl ?_
      refine cx_iload_n C dX9_like_40 2 rfl ?_
      refine cx_iconst (v := (-1)) C dX9_like_41 (by decide) ?_
      refine cx_icmp_ne (tgt := 49) C dX9_like_42 (by decide) (fun c10 => ?_) (fun c10 => ?_)
      · have hf := cx_if_f hf c10
        clear c10
        refine cx_iload_n C dX9_like_49 2 rfl ?_
        refine cx_lv [3] rfl ?_
        exact J50 p2 hf
      · have hf := cx_if_t hf c10
        clear c10
        refine cx_iconst (v := 5) C dX9_like_45 (by decide) ?_
        refine cx_goto (tgt := 50) C dX9_like_46 (by decide) ?_
        refine cx_lv [3] rfl ?_
        exact J50 5 hf
    · have hf := cx_if_t hf c9
      clear c9
      refine cx_lv [0] rfl ?_
      exact J33 hf
  unfold f_X9_like at hf
  refine cx_aload_n C dX9_like_0 0 rfl ?_
  refine cx_iload_n C dX9_like_1 1 rfl ?_
  obtain ⟨u1, e2, hf⟩ := cx_bd_at hf
  refine cx_Fvi (q := (RX9, TX9, 24)) (As := [.int p1]) (rest := []) (w1 := (wd_Model k m_a m_limbs m_wide m_book m_images m_kept m_before m_refused m_quiet m_text m_typed m_at m_start m_token m_value m_items m_many m_is m_likes m_without m_onePicture m_oneYear m_first m_second m_names)) hA C me_X9_isHead hw_1183 (c_X9_isHead l D k m_a m_limbs m_wide m_book m_images m_kept m_before m_refused m_quiet m_text m_typed m_at m_start m_token m_value m_items m_many m_is m_likes m_without m_onePicture m_oneYear m_first m_second m_names p1 u1 e2) dX9_like_2 ⟨Nat.le_of_ble_eq_true rfl, Nat.le_of_ble_eq_true rfl⟩ ⟨Nat.zero_le _, Nat.zero_le _⟩ rfl rfl (Nat.le_of_ble_eq_true rfl) rfl rfl rfl ?_
  clear e2
  refine cx_if_eq (tgt := 33) C dX9_like_5 (by decide) (fun c3 => ?_) (fun c3 => ?_)
  · have hf := cx_if_t hf c3
    clear c3
    refine cx_lv [0] rfl ?_
    exact J33 hf
  · have hf := cx_if_f hf c3
    clear c3
    refine cx_iload_n C dX9_like_8 2 rfl ?_
    refine cx_iconst (v := (-1)) C dX9_like_9 (by decide) ?_
    refine cx_icmp_eq (tgt := 21) C dX9_like_10 (by decide) (fun c6 => ?_) (fun c6 => ?_)
    · have hf := cx_if_t hf c6
      clear c6
      exact J21 hf
    · have hf := cx_if_f hf c6
      clear c6
      refine cx_aload_n C dX9_like_13 0 rfl ?_
      refine cx_iload_n C dX9_like_14 2 rfl ?_
      obtain ⟨u14, e15, hf⟩ := cx_bd_at hf
      refine cx_Fvi (q := (RX9, TX9, 24)) (As := [.int p2]) (rest := []) (w1 := (wd_Model k m_a m_limbs m_wide m_book m_images m_kept m_before m_refused m_quiet m_text m_typed m_at m_start m_token m_value m_items m_many m_is m_likes m_without m_onePicture m_oneYear m_first m_second m_names)) hA C me_X9_isPerson hw_1153 (c_X9_isPerson l D k m_a m_limbs m_wide m_book m_images m_kept m_before m_refused m_quiet m_text m_typed m_at m_start m_token m_value m_items m_many m_is m_likes m_without m_onePicture m_oneYear m_first m_second m_names p2 u14 e15) dX9_like_15 ⟨Nat.le_of_ble_eq_true rfl, Nat.le_of_ble_eq_true rfl⟩ ⟨Nat.zero_le _, Nat.zero_le _⟩ rfl rfl (Nat.le_of_ble_eq_true rfl) rfl rfl rfl ?_
      clear e15
      refine cx_if_eq (tgt := 33) C dX9_like_18 (by decide) (fun c16 => ?_) (fun c16 => ?_)
      · have hf := cx_if_t hf c16
        clear c16
        refine cx_lv [0] rfl ?_
        exact J33 hf
      · have hf := cx_if_f hf c16
        clear c16
        exact J21 hf
theorem dX9_truthOf_0 : decode cX9_truthOf 0 = .ok (.aload_n 0, 1) := by decide +kernel
theorem dX9_truthOf_1 : decode cX9_truthOf 1 = .ok (.getfield 51, 3) := by decide +kernel
theorem dX9_truthOf_4 : decode cX9_truthOf 4 = .ok (.bipush 80, 2) := by decide +kernel
theorem dX9_truthOf_6 : decode cX9_truthOf 6 = .ok (.iconst 4, 1) := by decide +kernel
theorem dX9_truthOf_7 : decode cX9_truthOf 7 = .ok (.iload_n 1, 1) := by decide +kernel
theorem dX9_truthOf_8 : decode cX9_truthOf 8 = .ok (.imul, 1) := by decide +kernel
theorem dX9_truthOf_9 : decode cX9_truthOf 9 = .ok (.iadd, 1) := by decide +kernel
theorem dX9_truthOf_10 : decode cX9_truthOf 10 = .ok (.iaload, 1) := by decide +kernel
theorem dX9_truthOf_11 : decode cX9_truthOf 11 = .ok (.istore_n 2, 1) := by decide +kernel
theorem dX9_truthOf_12 : decode cX9_truthOf 12 = .ok (.iconst 5, 1) := by decide +kernel
theorem dX9_truthOf_13 : decode cX9_truthOf 13 = .ok (.aload_n 0, 1) := by decide +kernel
theorem dX9_truthOf_14 : decode cX9_truthOf 14 = .ok (.aload_n 0, 1) := by decide +kernel
theorem dX9_truthOf_15 : decode cX9_truthOf 15 = .ok (.getfield 51, 3) := by decide +kernel
theorem dX9_truthOf_18 : decode cX9_truthOf 18 = .ok (.bipush 80, 2) := by decide +kernel
theorem dX9_truthOf_20 : decode cX9_truthOf 20 = .ok (.iconst 4, 1) := by decide +kernel
theorem dX9_truthOf_21 : decode cX9_truthOf 21 = .ok (.iload_n 1, 1) := by decide +kernel
theorem dX9_truthOf_22 : decode cX9_truthOf 22 = .ok (.imul, 1) := by decide +kernel
theorem dX9_truthOf_23 : decode cX9_truthOf 23 = .ok (.iadd, 1) := by decide +kernel
theorem dX9_truthOf_24 : decode cX9_truthOf 24 = .ok (.iconst 2, 1) := by decide +kernel
theorem dX9_truthOf_25 : decode cX9_truthOf 25 = .ok (.iadd, 1) := by decide +kernel
theorem dX9_truthOf_26 : decode cX9_truthOf 26 = .ok (.iaload, 1) := by decide +kernel
theorem dX9_truthOf_27 : decode cX9_truthOf 27 = .ok (.iconst 5, 1) := by decide +kernel
theorem dX9_truthOf_28 : decode cX9_truthOf 28 = .ok (.invokevirtual 109, 3) := by decide +kernel
theorem dX9_truthOf_31 : decode cX9_truthOf 31 = .ok (.iadd, 1) := by decide +kernel
theorem dX9_truthOf_32 : decode cX9_truthOf 32 = .ok (.istore_n 3, 1) := by decide +kernel
theorem dX9_truthOf_33 : decode cX9_truthOf 33 = .ok (.iload_n 2, 1) := by decide +kernel
theorem dX9_truthOf_34 : decode cX9_truthOf 34 = .ok (.ifCond .ne 8, 3) := by decide +kernel
theorem dX9_truthOf_37 : decode cX9_truthOf 37 = .ok (.bipush 6, 2) := by decide +kernel
theorem dX9_truthOf_39 : decode cX9_truthOf 39 = .ok (.goto 30, 3) := by decide +kernel
theorem dX9_truthOf_42 : decode cX9_truthOf 42 = .ok (.iload_n 2, 1) := by decide +kernel
theorem dX9_truthOf_43 : decode cX9_truthOf 43 = .ok (.iconst 1, 1) := by decide +kernel
theorem dX9_truthOf_44 : decode cX9_truthOf 44 = .ok (.if_icmp .eq 8, 3) := by decide +kernel
theorem dX9_truthOf_47 : decode cX9_truthOf 47 = .ok (.iload_n 2, 1) := by decide +kernel
theorem dX9_truthOf_48 : decode cX9_truthOf 48 = .ok (.iconst 4, 1) := by decide +kernel
theorem dX9_truthOf_49 : decode cX9_truthOf 49 = .ok (.if_icmp .ne 8, 3) := by decide +kernel
theorem dX9_truthOf_52 : decode cX9_truthOf 52 = .ok (.bipush 10, 2) := by decide +kernel
theorem dX9_truthOf_54 : decode cX9_truthOf 54 = .ok (.goto 15, 3) := by decide +kernel
theorem dX9_truthOf_57 : decode cX9_truthOf 57 = .ok (.iload_n 2, 1) := by decide +kernel
theorem dX9_truthOf_58 : decode cX9_truthOf 58 = .ok (.iconst 5, 1) := by decide +kernel
theorem dX9_truthOf_59 : decode cX9_truthOf 59 = .ok (.if_icmp .ne 9, 3) := by decide +kernel
theorem dX9_truthOf_62 : decode cX9_truthOf 62 = .ok (.iload_n 3, 1) := by decide +kernel
theorem dX9_truthOf_63 : decode cX9_truthOf 63 = .ok (.iconst 2, 1) := by decide +kernel
theorem dX9_truthOf_64 : decode cX9_truthOf 64 = .ok (.isub, 1) := by decide +kernel
theorem dX9_truthOf_65 : decode cX9_truthOf 65 = .ok (.goto 4, 3) := by decide +kernel
theorem dX9_truthOf_68 : decode cX9_truthOf 68 = .ok (.iload_n 3, 1) := by decide +kernel
theorem dX9_truthOf_69 : decode cX9_truthOf 69 = .ok (.ireturn, 1) := by decide +kernel
theorem me_X9_truthOf : cx_Mv yX9_truthOf cX9_truthOf 4 (some .int) 1 := ⟨⟨⟨by decide +kernel, by decide +kernel, by decide +kernel⟩, hw_11, hw_1225⟩, hw_1224, hs_49⟩
noncomputable def f_X9_truthOf_J52  : Option Int32 := some 10
noncomputable def f_X9_truthOf (m_book : Nat → Int32) (p1 : Int32) : Option Int32 := cx_gd (cx_ib (80 + (4 * p1)) 140) (cx_let (m_book (cx_ix (80 + (4 * p1)))) (fun v2 => cx_gd (cx_ib ((80 + (4 * p1)) + 2) 140) (Option.bind (f_X9_ofPerson m_book (m_book (cx_ix ((80 + (4 * p1)) + 2))) 5) (fun u4 => if v2 = 0 then (some 6) else (if v2 = 1 then (f_X9_truthOf_J52) else (if v2 = 4 then (f_X9_truthOf_J52) else (if v2 = 5 then (some ((5 + u4) - 2)) else (some (5 + u4)))))))))
set_option maxHeartbeats 4000000 in
set_option maxRecDepth 100000 in
theorem c_X9_truthOf (l : Launch) (D : va_G) (k : Nat → ClassId) (m_a : Nat → Nat) (m_limbs : Nat → Int32) (m_wide : Nat → Int32) (m_book : Nat → Int32) (m_images : Nat → Int32) (m_kept : Nat → Int32) (m_before : Nat → Int32) (m_refused : Nat → Int32) (m_quiet : Int32) (m_text : Nat → Int32) (m_typed : Int32) (m_at : Int32) (m_start : Int32) (m_token : Int32) (m_value : Int32) (m_items : Nat → Int32) (m_many : Int32) (m_is : Nat → Int32) (m_likes : Nat → Int32) (m_without : Int32) (m_onePicture : Int32) (m_oneYear : Int32) (m_first : Int32) (m_second : Int32) (m_names : Nat → Int32) (p1 : Int32) (y : Int32) (hf : f_X9_truthOf m_book p1 = some y) : cx_M l yX9_truthOf cX9_truthOf 4 (some .int) 2 D k [.ref (m_a 0), .int p1] (wd_Model k m_a m_limbs m_wide m_book m_images m_kept m_before m_refused m_quiet m_text m_typed m_at m_start m_token m_value m_items m_many m_is m_likes m_without m_onePicture m_oneYear m_first m_second m_names) (fun sz => cx_Qi D y (wd_Model k m_a m_limbs m_wide m_book m_images m_kept m_before m_refused m_quiet m_text m_typed m_at m_start m_token m_value m_items m_many m_is m_likes m_without m_onePicture m_oneYear m_first m_second m_names) (wd_Model k m_a m_limbs m_wide m_book m_images m_kept m_before m_refused m_quiet m_text m_typed m_at m_start m_token m_value m_items m_many m_is m_likes m_without m_onePicture m_oneYear m_first m_second m_names) sz) := by
  refine cx_met (own := "NamelessBoxModel") (by decide) rfl (Nat.le_of_ble_eq_true rfl) ?_
  intro p e s m args below meth c A Q C hA hQ hr hlk
  refine cx_lv (lv' := [(0, .ref (m_a 0)), (1, .int p1)]) [0, 1] rfl ?_
  have J52 : f_X9_truthOf_J52 = some y → cx_S p l e (cx_rm 2) s m args below meth c A D 4 0 0 Q 52 [] [] (wd_Model k m_a m_limbs m_wide m_book m_images m_kept m_before m_refused m_quiet m_text m_typed m_at m_start m_token m_value m_items m_many m_is m_likes m_without m_onePicture m_oneYear m_first m_second m_names) := by
    intro  hf
    unfold f_X9_truthOf_J52 at hf
    refine cx_bipush (v := 10) C dX9_truthOf_52 (by decide) ?_
    refine cx_goto (tgt := 69) C dX9_truthOf_54 (by decide) ?_
    obtain rfl := Option.some.inj hf
    exact cx_iret C hA hQ hr hlk dX9_truthOf_69 rfl rfl
  unfold f_X9_truthOf at hf
  refine cx_aload_n C dX9_truthOf_0 0 rfl ?_
  refine cx_get (v := .ref (m_a 3)) (ci := 8) C iX9 dX9_truthOf_1 0 rfl rfl 2 (by decide) hw_1056 rfl ?_
  refine cx_bipush (v := 80) C dX9_truthOf_4 (by decide) ?_
  refine cx_iconst (v := 4) C dX9_truthOf_6 (by decide) ?_
  refine cx_iload_n C dX9_truthOf_7 1 rfl ?_
  refine cx_imul C dX9_truthOf_8 ?_
  refine cx_iadd C dX9_truthOf_9 ?_
  obtain ⟨g1, hf⟩ := cx_gd_at hf
  refine cx_iald C dX9_truthOf_10 3 rfl (cx_ib_in g1) ?_
  clear g1
  refine cx_topi (fun v2 ev2 => ?_)
  have hf := cx_let_at hf ev2
  clear ev2
  refine cx_istore_n (lv' := [(2, .int v2), (0, .ref (m_a 0)), (1, .int p1)]) C dX9_truthOf_11 rfl (by decide) rfl ?_
  refine cx_iconst (v := 5) C dX9_truthOf_12 (by decide) ?_
  refine cx_aload_n C dX9_truthOf_13 1 rfl ?_
  refine cx_aload_n C dX9_truthOf_14 1 rfl ?_
  refine cx_get (v := .ref (m_a 3)) (ci := 8) C iX9 dX9_truthOf_15 0 rfl rfl 2 (by decide) hw_1056 rfl ?_
  refine cx_bipush (v := 80) C dX9_truthOf_18 (by decide) ?_
  refine cx_iconst (v := 4) C dX9_truthOf_20 (by decide) ?_
  refine cx_iload_n C dX9_truthOf_21 2 rfl ?_
  refine cx_imul C dX9_truthOf_22 ?_
  refine cx_iadd C dX9_truthOf_23 ?_
  refine cx_iconst (v := 2) C dX9_truthOf_24 (by decide) ?_
  refine cx_iadd C dX9_truthOf_25 ?_
  obtain ⟨g3, hf⟩ := cx_gd_at hf
  refine cx_iald C dX9_truthOf_26 3 rfl (cx_ib_in g3) ?_
  clear g3
  refine cx_iconst (v := 5) C dX9_truthOf_27 (by decide) ?_
  obtain ⟨u4, e5, hf⟩ := cx_bd_at hf
  refine cx_Fvi (q := (RX9, TX9, 24)) (As := [.int (m_book (cx_ix ((80 + (4 * p1)) + 2))), .int 5]) (rest := [.int 5]) (w1 := (wd_Model k m_a m_limbs m_wide m_book m_images m_kept m_before m_refused m_quiet m_text m_typed m_at m_start m_token m_value m_items m_many m_is m_likes m_without m_onePicture m_oneYear m_first m_second m_names)) hA C me_X9_ofPerson hw_1157 (c_X9_ofPerson l D k m_a m_limbs m_wide m_book m_images m_kept m_before m_refused m_quiet m_text m_typed m_at m_start m_token m_value m_items m_many m_is m_likes m_without m_onePicture m_oneYear m_first m_second m_names (m_book (cx_ix ((80 + (4 * p1)) + 2))) 5 u4 e5) dX9_truthOf_28 ⟨Nat.le_of_ble_eq_true rfl, Nat.le_of_ble_eq_true rfl⟩ ⟨Nat.zero_le _, Nat.zero_le _⟩ rfl rfl (Nat.le_of_ble_eq_true rfl) rfl rfl rfl ?_
  clear e5
  refine cx_iadd C dX9_truthOf_31 ?_
  refine cx_istore_n (lv' := [(3, .int (5 + u4)), (2, .int v2), (0, .ref (m_a 0)), (1, .int p1)]) C dX9_truthOf_32 rfl (by decide) rfl ?_
  refine cx_iload_n C dX9_truthOf_33 1 rfl ?_
  refine cx_if_ne (tgt := 42) C dX9_truthOf_34 (by decide) (fun c6 => ?_) (fun c6 => ?_)
  · have hf := cx_if_f hf c6
    clear c6
    refine cx_iload_n C dX9_truthOf_42 1 rfl ?_
    refine cx_iconst (v := 1) C dX9_truthOf_43 (by decide) ?_
    refine cx_icmp_eq (tgt := 52) C dX9_truthOf_44 (by decide) (fun c7 => ?_) (fun c7 => ?_)
    · have hf := cx_if_t hf c7
      clear c7
      refine cx_lv [] rfl ?_
      exact J52 hf
    · have hf := cx_if_f hf c7
      clear c7
      refine cx_iload_n C dX9_truthOf_47 1 rfl ?_
      refine cx_iconst (v := 4) C dX9_truthOf_48 (by decide) ?_
      refine cx_icmp_ne (tgt := 57) C dX9_truthOf_49 (by decide) (fun c8 => ?_) (fun c8 => ?_)
      · have hf := cx_if_f hf c8
        clear c8
        refine cx_iload_n C dX9_truthOf_57 1 rfl ?_
        refine cx_iconst (v := 5) C dX9_truthOf_58 (by decide) ?_
        refine cx_icmp_ne (tgt := 68) C dX9_truthOf_59 (by decide) (fun c9 => ?_) (fun c9 => ?_)
        · have hf := cx_if_f hf c9
          clear c9
          refine cx_iload_n C dX9_truthOf_68 0 rfl ?_
          obtain rfl := Option.some.inj hf
          exact cx_iret C hA hQ hr hlk dX9_truthOf_69 rfl rfl
        · have hf := cx_if_t hf c9
          clear c9
          refine cx_iload_n C dX9_truthOf_62 0 rfl ?_
          refine cx_iconst (v := 2) C dX9_truthOf_63 (by decide) ?_
          refine cx_isub C dX9_truthOf_64 ?_
          refine cx_goto (tgt := 69) C dX9_truthOf_65 (by decide) ?_
          obtain rfl := Option.some.inj hf
          exact cx_iret C hA hQ hr hlk dX9_truthOf_69 rfl rfl
      · have hf := cx_if_t hf c8
        clear c8
        refine cx_lv [] rfl ?_
        exact J52 hf
  · have hf := cx_if_t hf c6
    clear c6
    refine cx_bipush (v := 6) C dX9_truthOf_37 (by decide) ?_
    refine cx_goto (tgt := 69) C dX9_truthOf_39 (by decide) ?_
    obtain rfl := Option.some.inj hf
    exact cx_iret C hA hQ hr hlk dX9_truthOf_69 rfl rfl
theorem dX9_truth_0 : decode cX9_truth 0 = .ok (.iload_n 1, 1) := by decide +kernel
theorem dX9_truth_1 : decode cX9_truth 1 = .ok (.i2l, 1) := by decide +kernel
theorem dX9_truth_2 : decode cX9_truth 2 = .ok (.lconst 0, 1) := by decide +kernel
theorem dX9_truth_3 : decode cX9_truth 3 = .ok (.aload_n 0, 1) := by decide +kernel
theorem dX9_truth_4 : decode cX9_truth 4 = .ok (.getfield 51, 3) := by decide +kernel
theorem dX9_truth_7 : decode cX9_truth 7 = .ok (.iconst 3, 1) := by decide +kernel
theorem dX9_truth_8 : decode cX9_truth 8 = .ok (.iaload, 1) := by decide +kernel
theorem dX9_truth_9 : decode cX9_truth 9 = .ok (.iconst 1, 1) := by decide +kernel
theorem dX9_truth_10 : decode cX9_truth 10 = .ok (.isub, 1) := by decide +kernel
theorem dX9_truth_11 : decode cX9_truth 11 = .ok (.i2l, 1) := by decide +kernel
theorem dX9_truth_12 : decode cX9_truth 12 = .ok (.invokestatic 89, 3) := by decide +kernel
theorem dX9_truth_15 : decode cX9_truth 15 = .ok (.ifCond .eq 11, 3) := by decide +kernel
theorem dX9_truth_18 : decode cX9_truth 18 = .ok (.aload_n 0, 1) := by decide +kernel
theorem dX9_truth_19 : decode cX9_truth 19 = .ok (.iload_n 1, 1) := by decide +kernel
theorem dX9_truth_20 : decode cX9_truth 20 = .ok (.invokevirtual 138, 3) := by decide +kernel
theorem dX9_truth_23 : decode cX9_truth 23 = .ok (.goto 7, 3) := by decide +kernel
theorem dX9_truth_26 : decode cX9_truth 26 = .ok (.aload_n 0, 1) := by decide +kernel
theorem dX9_truth_27 : decode cX9_truth 27 = .ok (.invokevirtual 99, 3) := by decide +kernel
theorem dX9_truth_30 : decode cX9_truth 30 = .ok (.ireturn, 1) := by decide +kernel
theorem me_X9_truth : cx_Mv yX9_truth cX9_truth 2 (some .int) 1 := ⟨⟨⟨by decide +kernel, by decide +kernel, by decide +kernel⟩, hw_11, hw_1221⟩, hw_1219, hw_1220⟩
noncomputable def f_X9_truth (m_book : Nat → Int32) (m_refused : Nat → Int32) (m_quiet : Int32) (p1 : Int32) : Option (Int32 × (Nat → Int32)) := cx_gd (cx_ib 3 140) (Option.bind (f_X9_in (Int32.toInt64 p1) 0 (Int32.toInt64 ((m_book (cx_ix 3)) - 1))) (fun u2 => if u2 = 0 then (Option.bind (f_X9_bad m_refused m_quiet) (fun u5 => some ((u5.1, u5.2)))) else (Option.bind (f_X9_truthOf m_book p1) (fun u7 => some ((u7, m_refused))))))
set_option maxHeartbeats 4000000 in
set_option maxRecDepth 100000 in
theorem c_X9_truth (l : Launch) (D : va_G) (k : Nat → ClassId) (m_a : Nat → Nat) (m_limbs : Nat → Int32) (m_wide : Nat → Int32) (m_book : Nat → Int32) (m_images : Nat → Int32) (m_kept : Nat → Int32) (m_before : Nat → Int32) (m_refused : Nat → Int32) (m_quiet : Int32) (m_text : Nat → Int32) (m_typed : Int32) (m_at : Int32) (m_start : Int32) (m_token : Int32) (m_value : Int32) (m_items : Nat → Int32) (m_many : Int32) (m_is : Nat → Int32) (m_likes : Nat → Int32) (m_without : Int32) (m_onePicture : Int32) (m_oneYear : Int32) (m_first : Int32) (m_second : Int32) (m_names : Nat → Int32) (p1 : Int32) (y : Int32 × (Nat → Int32)) (hf : f_X9_truth m_book m_refused m_quiet p1 = some y) : cx_M l yX9_truth cX9_truth 2 (some .int) 3 D k [.ref (m_a 0), .int p1] (wd_Model k m_a m_limbs m_wide m_book m_images m_kept m_before m_refused m_quiet m_text m_typed m_at m_start m_token m_value m_items m_many m_is m_likes m_without m_onePicture m_oneYear m_first m_second m_names) (fun sz => cx_Qi D y.1 (wd_Model k m_a m_limbs m_wide m_book m_images m_kept m_before m_refused m_quiet m_text m_typed m_at m_start m_token m_value m_items m_many m_is m_likes m_without m_onePicture m_oneYear m_first m_second m_names) (wd_Model k m_a m_limbs m_wide m_book m_images m_kept m_before y.2 m_quiet m_text m_typed m_at m_start m_token m_value m_items m_many m_is m_likes m_without m_onePicture m_oneYear m_first m_second m_names) sz) := by
  refine cx_met (own := "NamelessBoxModel") (by decide) rfl (Nat.le_of_ble_eq_true rfl) ?_
  intro p e s m args below meth c A Q C hA hQ hr hlk
  refine cx_lv (lv' := [(0, .ref (m_a 0)), (1, .int p1)]) [0, 1] rfl ?_
  unfold f_X9_truth at hf
  refine cx_iload_n C dX9_truth_0 1 rfl ?_
  refine cx_i2l C dX9_truth_1 ?_
  refine cx_lconst (v := 0) C dX9_truth_2 (by decide) ?_
  refine cx_aload_n C dX9_truth_3 0 rfl ?_
  refine cx_get (v := .ref (m_a 3)) (ci := 8) C iX9 dX9_truth_4 0 rfl rfl 2 (by decide) hw_1056 rfl ?_
  refine cx_iconst (v := 3) C dX9_truth_7 (by decide) ?_
  obtain ⟨g1, hf⟩ := cx_gd_at hf
  refine cx_iald C dX9_truth_8 3 rfl (cx_ib_in g1) ?_
  clear g1
  refine cx_iconst (v := 1) C dX9_truth_9 (by decide) ?_
  refine cx_isub C dX9_truth_10 ?_
  refine cx_i2l C dX9_truth_11 ?_
  obtain ⟨u2, e3, hf⟩ := cx_bd_at hf
  refine cx_Ksi (As := [.long (Int32.toInt64 p1), .long 0, .long (Int32.toInt64 ((m_book (cx_ix 3)) - 1))]) (rest := []) hA C me_X9_in hw_1132 (c_X9_in l D k (Int32.toInt64 p1) 0 (Int32.toInt64 ((m_book (cx_ix 3)) - 1)) u2 e3) dX9_truth_12 ⟨Nat.le_of_ble_eq_true rfl, Nat.le_of_ble_eq_true rfl⟩ ⟨Nat.zero_le _, Nat.zero_le _⟩ rfl rfl (Nat.le_of_ble_eq_true rfl) [] rfl (by decide) ?_
  clear e3
  refine cx_if_eq (tgt := 26) C dX9_truth_15 (by decide) (fun c4 => ?_) (fun c4 => ?_)
  · have hf := cx_if_t hf c4
    clear c4
    refine cx_aload_n C dX9_truth_26 0 rfl ?_
    obtain ⟨u5, e6, hf⟩ := cx_bd_at hf
    refine cx_Fvi (q := (RX9, TX9, 24)) (As := []) (rest := []) (w1 := (wd_Model k m_a m_limbs m_wide m_book m_images m_kept m_before u5.2 m_quiet m_text m_typed m_at m_start m_token m_value m_items m_many m_is m_likes m_without m_onePicture m_oneYear m_first m_second m_names)) hA C me_X9_bad hw_1137 (c_X9_bad l D k m_a m_limbs m_wide m_book m_images m_kept m_before m_refused m_quiet m_text m_typed m_at m_start m_token m_value m_items m_many m_is m_likes m_without m_onePicture m_oneYear m_first m_second m_names u5 e6) dX9_truth_27 ⟨Nat.le_of_ble_eq_true rfl, Nat.le_of_ble_eq_true rfl⟩ ⟨Nat.zero_le _, Nat.zero_le _⟩ rfl rfl (Nat.le_of_ble_eq_true rfl) rfl rfl rfl ?_
    clear e6
    obtain rfl := Option.some.inj hf
    exact cx_iret C hA hQ hr hlk dX9_truth_30 rfl rfl
  · have hf := cx_if_f hf c4
    clear c4
    refine cx_aload_n C dX9_truth_18 0 rfl ?_
    refine cx_iload_n C dX9_truth_19 1 rfl ?_
    obtain ⟨u7, e8, hf⟩ := cx_bd_at hf
    refine cx_Fvi (q := (RX9, TX9, 24)) (As := [.int p1]) (rest := []) (w1 := (wd_Model k m_a m_limbs m_wide m_book m_images m_kept m_before m_refused m_quiet m_text m_typed m_at m_start m_token m_value m_items m_many m_is m_likes m_without m_onePicture m_oneYear m_first m_second m_names)) hA C me_X9_truthOf hw_1222 (c_X9_truthOf l D k m_a m_limbs m_wide m_book m_images m_kept m_before m_refused m_quiet m_text m_typed m_at m_start m_token m_value m_items m_many m_is m_likes m_without m_onePicture m_oneYear m_first m_second m_names p1 u7 e8) dX9_truth_20 ⟨Nat.le_of_ble_eq_true rfl, Nat.le_of_ble_eq_true rfl⟩ ⟨Nat.zero_le _, Nat.zero_le _⟩ rfl rfl (Nat.le_of_ble_eq_true rfl) rfl rfl rfl ?_
    clear e8
    refine cx_goto (tgt := 30) C dX9_truth_23 (by decide) ?_
    obtain rfl := Option.some.inj hf
    exact cx_iret C hA hQ hr hlk dX9_truth_30 rfl rfl
theorem dX9_type_0 : decode cX9_type 0 = .ok (.iload_n 3, 1) := by decide +kernel
theorem dX9_type_1 : decode cX9_type 1 = .ok (.i2l, 1) := by decide +kernel
theorem dX9_type_2 : decode cX9_type 2 = .ok (.lconst 1, 1) := by decide +kernel
theorem dX9_type_3 : decode cX9_type 3 = .ok (.ldc2_w 142, 3) := by decide +kernel
theorem dX9_type_6 : decode cX9_type 6 = .ok (.invokestatic 89, 3) := by decide +kernel
theorem dX9_type_9 : decode cX9_type 9 = .ok (.ifCond .ne 8, 3) := by decide +kernel
theorem dX9_type_12 : decode cX9_type 12 = .ok (.aload_n 0, 1) := by decide +kernel
theorem dX9_type_13 : decode cX9_type 13 = .ok (.invokevirtual 99, 3) := by decide +kernel
theorem dX9_type_16 : decode cX9_type 16 = .ok (.ireturn, 1) := by decide +kernel
theorem dX9_type_17 : decode cX9_type 17 = .ok (.aload_n 0, 1) := by decide +kernel
theorem dX9_type_18 : decode cX9_type 18 = .ok (.getfield 144, 3) := by decide +kernel
theorem dX9_type_21 : decode cX9_type 21 = .ok (.iload_n 3, 1) := by decide +kernel
theorem dX9_type_22 : decode cX9_type 22 = .ok (.iadd, 1) := by decide +kernel
theorem dX9_type_23 : decode cX9_type 23 = .ok (.sipush 300, 3) := by decide +kernel
theorem dX9_type_26 : decode cX9_type 26 = .ok (.if_icmp .le 8, 3) := by decide +kernel
theorem dX9_type_29 : decode cX9_type 29 = .ok (.aload_n 0, 1) := by decide +kernel
theorem dX9_type_30 : decode cX9_type 30 = .ok (.invokevirtual 103, 3) := by decide +kernel
theorem dX9_type_33 : decode cX9_type 33 = .ok (.ireturn, 1) := by decide +kernel
theorem dX9_type_34 : decode cX9_type 34 = .ok (.iload_n 3, 1) := by decide +kernel
theorem dX9_type_35 : decode cX9_type 35 = .ok (.iconst 1, 1) := by decide +kernel
theorem dX9_type_36 : decode cX9_type 36 = .ok (.isub, 1) := by decide +kernel
theorem dX9_type_37 : decode cX9_type 37 = .ok (.istore 4, 2) := by decide +kernel
theorem dX9_type_39 : decode cX9_type 39 = .ok (.iload 4, 2) := by decide +kernel
theorem dX9_type_41 : decode cX9_type 41 = .ok (.ifCond .lt 40, 3) := by decide +kernel
theorem dX9_type_44 : decode cX9_type 44 = .ok (.aload_n 0, 1) := by decide +kernel
theorem dX9_type_45 : decode cX9_type 45 = .ok (.getfield 67, 3) := by decide +kernel
theorem dX9_type_48 : decode cX9_type 48 = .ok (.aload_n 0, 1) := by decide +kernel
theorem dX9_type_49 : decode cX9_type 49 = .ok (.getfield 144, 3) := by decide +kernel
theorem dX9_type_52 : decode cX9_type 52 = .ok (.lload_n 1, 1) := by decide +kernel
theorem dX9_type_53 : decode cX9_type 53 = .ok (.bipush 8, 2) := by decide +kernel
theorem dX9_type_55 : decode cX9_type 55 = .ok (.iload 4, 2) := by decide +kernel
theorem dX9_type_57 : decode cX9_type 57 = .ok (.imul, 1) := by decide +kernel
theorem dX9_type_58 : decode cX9_type 58 = .ok (.lshr, 1) := by decide +kernel
theorem dX9_type_59 : decode cX9_type 59 = .ok (.ldc2_w 148, 3) := by decide +kernel
theorem dX9_type_62 : decode cX9_type 62 = .ok (.land, 1) := by decide +kernel
theorem dX9_type_63 : decode cX9_type 63 = .ok (.l2i, 1) := by decide +kernel
theorem dX9_type_64 : decode cX9_type 64 = .ok (.iastore, 1) := by decide +kernel
theorem dX9_type_65 : decode cX9_type 65 = .ok (.aload_n 0, 1) := by decide +kernel
theorem dX9_type_66 : decode cX9_type 66 = .ok (.dup, 1) := by decide +kernel
theorem dX9_type_67 : decode cX9_type 67 = .ok (.getfield 144, 3) := by decide +kernel
theorem dX9_type_70 : decode cX9_type 70 = .ok (.iconst 1, 1) := by decide +kernel
theorem dX9_type_71 : decode cX9_type 71 = .ok (.iadd, 1) := by decide +kernel
theorem dX9_type_72 : decode cX9_type 72 = .ok (.putfield 144, 3) := by decide +kernel
theorem dX9_type_75 : decode cX9_type 75 = .ok (.iinc 4 (-1), 3) := by decide +kernel
theorem dX9_type_78 : decode cX9_type 78 = .ok (.goto (-39), 3) := by decide +kernel
theorem dX9_type_81 : decode cX9_type 81 = .ok (.aload_n 0, 1) := by decide +kernel
theorem dX9_type_82 : decode cX9_type 82 = .ok (.getfield 144, 3) := by decide +kernel
theorem dX9_type_85 : decode cX9_type 85 = .ok (.ireturn, 1) := by decide +kernel
theorem me_X9_type : cx_Mv yX9_type cX9_type 5 (some .int) 2 := ⟨⟨⟨by decide +kernel, by decide +kernel, by decide +kernel⟩, hw_11, hw_1229⟩, hw_1227, hw_1228⟩
noncomputable def f_X9_type_L39 (m_refused : Nat → Int32) (p1 : Int64) (rc39 : Int32 → (Nat → Int32) → Int32 → Option (Int32 × Int32 × (Nat → Int32) × (Nat → Int32))) (h_5 : Int32) (a_6 : Nat → Int32) (x4_7 : Int32) : Option (Int32 × Int32 × (Nat → Int32) × (Nat → Int32)) := if x4_7 < 0 then (some ((h_5, h_5, m_refused, a_6))) else (cx_gd (cx_ib h_5 300) (cx_let (upd a_6 (cx_ix h_5) (Int64.toInt32 ((p1 >>> (Int32.toInt64 (8 * x4_7) &&& 63)) &&& 255))) (fun a10 => rc39 (h_5 + 1) a10 (x4_7 + (-1)))))
noncomputable def f_X9_type_L39w (m_refused : Nat → Int32) (p1 : Int64) (n : Nat) : Int32 → (Nat → Int32) → Int32 → Option (Int32 × Int32 × (Nat → Int32) × (Nat → Int32)) := Nat.rec (fun _ _ _ => none) (fun _ r => f_X9_type_L39 m_refused p1 r) n
noncomputable def f_X9_type (m_refused : Nat → Int32) (m_quiet : Int32) (m_text : Nat → Int32) (m_typed : Int32) (p1 : Int64) (p3 : Int32) : Option (Int32 × Int32 × (Nat → Int32) × (Nat → Int32)) := Option.bind (f_X9_in (Int32.toInt64 p3) 1 8) (fun u1 => if u1 = 0 then (Option.bind (f_X9_bad m_refused m_quiet) (fun u13 => some ((u13.1, m_typed, u13.2, m_text)))) else (if (m_typed + p3) ≤ 300 then (f_X9_type_L39w m_refused p1 cx_N0 m_typed m_text (p3 - 1)) else (Option.bind (f_X9_full m_refused m_quiet) (fun u11 => some ((u11.1, m_typed, u11.2, m_text))))))
set_option maxHeartbeats 4000000 in
set_option maxRecDepth 100000 in
theorem c_X9_type (l : Launch) (D : va_G) (k : Nat → ClassId) (m_a : Nat → Nat) (m_limbs : Nat → Int32) (m_wide : Nat → Int32) (m_book : Nat → Int32) (m_images : Nat → Int32) (m_kept : Nat → Int32) (m_before : Nat → Int32) (m_refused : Nat → Int32) (m_quiet : Int32) (m_text : Nat → Int32) (m_typed : Int32) (m_at : Int32) (m_start : Int32) (m_token : Int32) (m_value : Int32) (m_items : Nat → Int32) (m_many : Int32) (m_is : Nat → Int32) (m_likes : Nat → Int32) (m_without : Int32) (m_onePicture : Int32) (m_oneYear : Int32) (m_first : Int32) (m_second : Int32) (m_names : Nat → Int32) (p1 : Int64) (p3 : Int32) (y : Int32 × Int32 × (Nat → Int32) × (Nat → Int32)) (hf : f_X9_type m_refused m_quiet m_text m_typed p1 p3 = some y) : cx_M l yX9_type cX9_type 5 (some .int) 3 D k [.ref (m_a 0), .long p1, .int p3] (wd_Model k m_a m_limbs m_wide m_book m_images m_kept m_before m_refused m_quiet m_text m_typed m_at m_start m_token m_value m_items m_many m_is m_likes m_without m_onePicture m_oneYear m_first m_second m_names) (fun sz => cx_Qi D y.1 (wd_Model k m_a m_limbs m_wide m_book m_images m_kept m_before m_refused m_quiet m_text m_typed m_at m_start m_token m_value m_items m_many m_is m_likes m_without m_onePicture m_oneYear m_first m_second m_names) (wd_Model k m_a m_limbs m_wide m_book m_images m_kept m_before y.2.2.1 m_quiet y.2.2.2 y.2.1 m_at m_start m_token m_value m_items m_many m_is m_likes m_without m_onePicture m_oneYear m_first m_second m_names) sz) := by
  refine cx_met (own := "NamelessBoxModel") (by decide) rfl (Nat.le_of_ble_eq_true rfl) ?_
  intro p e s m args below meth c A Q C hA hQ hr hlk
  refine cx_lv (lv' := [(0, .ref (m_a 0)), (1, .long p1), (3, .int p3)]) [0, 1, 2] rfl ?_
  have L39 : ∀ (n39 : Nat) (h_5 : Int32) (a_6 : Nat → Int32) (x4_7 : Int32), f_X9_type_L39w m_refused p1 n39 h_5 a_6 x4_7 = some y → cx_S p l e (cx_rm 3) s m args below meth c A D 5 0 0 Q 39 [(0, .ref (m_a 0)), (1, .long p1), (4, .int x4_7)] [] (wd_Model k m_a m_limbs m_wide m_book m_images m_kept m_before m_refused m_quiet a_6 h_5 m_at m_start m_token m_value m_items m_many m_is m_likes m_without m_onePicture m_oneYear m_first m_second m_names) := by
    intro  n39
    induction n39 with
    | zero =>
      intro h_5 a_6 x4_7 hf
      exact absurd (show (none : Option (Int32 × Int32 × (Nat → Int32) × (Nat → Int32))) = some y from hf) (fun h => by cases h)
    | succ n39 ih39 =>
      intro h_5 a_6 x4_7 hf
      have hf : f_X9_type_L39 m_refused p1 (f_X9_type_L39w m_refused p1 n39) h_5 a_6 x4_7 = some y := hf
      unfold f_X9_type_L39 at hf
      refine cx_iload C dX9_type_39 2 rfl ?_
      refine cx_if_lt (tgt := 81) C dX9_type_41 (by decide) (fun c8 => ?_) (fun c8 => ?_)
      · have hf := cx_if_t hf c8
        clear c8
        refine cx_aload_n C dX9_type_81 0 rfl ?_
        refine cx_get (v := .int h_5) (ci := 8) C iX9 dX9_type_82 0 rfl rfl 9 (by decide) hw_1063 rfl ?_
        obtain rfl := Option.some.inj hf
        exact cx_iret C hA hQ hr hlk dX9_type_85 rfl rfl
      · have hf := cx_if_f hf c8
        clear c8
        refine cx_aload_n C dX9_type_44 0 rfl ?_
        refine cx_get (v := .ref (m_a 8)) (ci := 8) C iX9 dX9_type_45 0 rfl rfl 8 (by decide) hw_1062 rfl ?_
        refine cx_aload_n C dX9_type_48 0 rfl ?_
        refine cx_get (v := .int h_5) (ci := 8) C iX9 dX9_type_49 0 rfl rfl 9 (by decide) hw_1063 rfl ?_
        refine cx_lload_n C dX9_type_52 1 rfl ?_
        refine cx_bipush (v := 8) C dX9_type_53 (by decide) ?_
        refine cx_iload C dX9_type_55 2 rfl ?_
        refine cx_imul C dX9_type_57 ?_
        refine cx_lshr C dX9_type_58 ?_
        refine cx_ldc2 (v := 255) C dX9_type_59 hw_1231 ?_
        refine cx_land C dX9_type_62 ?_
        refine cx_l2i C dX9_type_63 ?_
        obtain ⟨g9, hf⟩ := cx_gd_at hf
        obtain ⟨a10, ea10⟩ : ∃ z, z = upd a_6 (cx_ix h_5) (Int64.toInt32 ((p1 >>> (Int32.toInt64 (8 * x4_7) &&& 63)) &&& 255)) := ⟨_, rfl⟩
        have hf := cx_let_at hf ea10
        refine cx_iast (ws' := (wd_Model k m_a m_limbs m_wide m_book m_images m_kept m_before m_refused m_quiet a10 h_5 m_at m_start m_token m_value m_items m_many m_is m_likes m_without m_onePicture m_oneYear m_first m_second m_names)) C dX9_type_64 8 rfl (cx_ib_in g9) (by rw [ea10]; rfl) ?_
        clear ea10 g9
        refine cx_aload_n C dX9_type_65 0 rfl ?_
        refine cx_dup C dX9_type_66 rfl ?_
        refine cx_get (v := .int h_5) (ci := 8) C iX9 dX9_type_67 0 rfl rfl 9 (by decide) hw_1063 rfl ?_
        refine cx_iconst (v := 1) C dX9_type_70 (by decide) ?_
        refine cx_iadd C dX9_type_71 ?_
        refine cx_putf (v := .int (h_5 + 1)) (ty := .int) (ci := 8) (ws' := (wd_Model k m_a m_limbs m_wide m_book m_images m_kept m_before m_refused m_quiet a10 (h_5 + 1) m_at m_start m_token m_value m_items m_many m_is m_likes m_without m_onePicture m_oneYear m_first m_second m_names)) C iX9 tyX9 tyX9_ok nmX9 dX9_type_72 0 rfl rfl 9 (by decide) hw_1063 rfl (by decide +kernel) rfl rfl (Nat.le_of_ble_eq_true rfl) rfl ?_
        refine cx_iinc (v := x4_7 + (-1)) (lv' := [(4, .int (x4_7 + (-1))), (0, .ref (m_a 0)), (1, .long p1)]) C dX9_type_75 2 rfl rfl (by decide) rfl ?_
        refine cx_goto (tgt := 39) C dX9_type_78 (by decide) ?_
        refine cx_lv [1, 2, 0] rfl ?_
        exact ih39 (h_5 + 1) a10 (x4_7 + (-1)) hf
  unfold f_X9_type at hf
  refine cx_iload_n C dX9_type_0 2 rfl ?_
  refine cx_i2l C dX9_type_1 ?_
  refine cx_lconst (v := 1) C dX9_type_2 (by decide) ?_
  refine cx_ldc2 (v := 8) C dX9_type_3 hw_1230 ?_
  obtain ⟨u1, e2, hf⟩ := cx_bd_at hf
  refine cx_Ksi (As := [.long (Int32.toInt64 p3), .long 1, .long 8]) (rest := []) hA C me_X9_in hw_1132 (c_X9_in l D k (Int32.toInt64 p3) 1 8 u1 e2) dX9_type_6 ⟨Nat.le_of_ble_eq_true rfl, Nat.le_of_ble_eq_true rfl⟩ ⟨Nat.zero_le _, Nat.zero_le _⟩ rfl rfl (Nat.le_of_ble_eq_true rfl) [] rfl (by decide) ?_
  clear e2
  refine cx_if_ne (tgt := 17) C dX9_type_9 (by decide) (fun c3 => ?_) (fun c3 => ?_)
  · have hf := cx_if_f hf c3
    clear c3
    refine cx_aload_n C dX9_type_17 0 rfl ?_
    refine cx_get (v := .int m_typed) (ci := 8) C iX9 dX9_type_18 0 rfl rfl 9 (by decide) hw_1063 rfl ?_
    refine cx_iload_n C dX9_type_21 2 rfl ?_
    refine cx_iadd C dX9_type_22 ?_
    refine cx_sipush (v := 300) C dX9_type_23 (by decide) ?_
    refine cx_icmp_le (tgt := 34) C dX9_type_26 (by decide) (fun c4 => ?_) (fun c4 => ?_)
    · have hf := cx_if_t hf c4
      clear c4
      refine cx_iload_n C dX9_type_34 2 rfl ?_
      refine cx_iconst (v := 1) C dX9_type_35 (by decide) ?_
      refine cx_isub C dX9_type_36 ?_
      refine cx_istore (lv' := [(4, .int (p3 - 1)), (0, .ref (m_a 0)), (1, .long p1), (3, .int p3)]) C dX9_type_37 (by decide) rfl ?_
      refine cx_lv [1, 2, 0] rfl ?_
      exact L39 cx_N0 m_typed m_text (p3 - 1) hf
    · have hf := cx_if_f hf c4
      clear c4
      refine cx_aload_n C dX9_type_29 0 rfl ?_
      obtain ⟨u11, e12, hf⟩ := cx_bd_at hf
      refine cx_Fvi (q := (RX9, TX9, 24)) (As := []) (rest := []) (w1 := (wd_Model k m_a m_limbs m_wide m_book m_images m_kept m_before u11.2 m_quiet m_text m_typed m_at m_start m_token m_value m_items m_many m_is m_likes m_without m_onePicture m_oneYear m_first m_second m_names)) hA C me_X9_full hw_1145 (c_X9_full l D k m_a m_limbs m_wide m_book m_images m_kept m_before m_refused m_quiet m_text m_typed m_at m_start m_token m_value m_items m_many m_is m_likes m_without m_onePicture m_oneYear m_first m_second m_names u11 e12) dX9_type_30 ⟨Nat.le_of_ble_eq_true rfl, Nat.le_of_ble_eq_true rfl⟩ ⟨Nat.zero_le _, Nat.zero_le _⟩ rfl rfl (Nat.le_of_ble_eq_true rfl) rfl rfl rfl ?_
      clear e12
      obtain rfl := Option.some.inj hf
      exact cx_iret C hA hQ hr hlk dX9_type_33 rfl rfl
  · have hf := cx_if_t hf c3
    clear c3
    refine cx_aload_n C dX9_type_12 0 rfl ?_
    obtain ⟨u13, e14, hf⟩ := cx_bd_at hf
    refine cx_Fvi (q := (RX9, TX9, 24)) (As := []) (rest := []) (w1 := (wd_Model k m_a m_limbs m_wide m_book m_images m_kept m_before u13.2 m_quiet m_text m_typed m_at m_start m_token m_value m_items m_many m_is m_likes m_without m_onePicture m_oneYear m_first m_second m_names)) hA C me_X9_bad hw_1137 (c_X9_bad l D k m_a m_limbs m_wide m_book m_images m_kept m_before m_refused m_quiet m_text m_typed m_at m_start m_token m_value m_items m_many m_is m_likes m_without m_onePicture m_oneYear m_first m_second m_names u13 e14) dX9_type_13 ⟨Nat.le_of_ble_eq_true rfl, Nat.le_of_ble_eq_true rfl⟩ ⟨Nat.zero_le _, Nat.zero_le _⟩ rfl rfl (Nat.le_of_ble_eq_true rfl) rfl rfl rfl ?_
    clear e14
    obtain rfl := Option.some.inj hf
    exact cx_iret C hA hQ hr hlk dX9_type_16 rfl rfl
theorem dX9_clear_0 : decode cX9_clear 0 = .ok (.aload_n 0, 1) := by decide +kernel
theorem dX9_clear_1 : decode cX9_clear 1 = .ok (.getfield 144, 3) := by decide +kernel
theorem dX9_clear_4 : decode cX9_clear 4 = .ok (.istore_n 1, 1) := by decide +kernel
theorem dX9_clear_5 : decode cX9_clear 5 = .ok (.aload_n 0, 1) := by decide +kernel
theorem dX9_clear_6 : decode cX9_clear 6 = .ok (.iconst 0, 1) := by decide +kernel
theorem dX9_clear_7 : decode cX9_clear 7 = .ok (.putfield 144, 3) := by decide +kernel
theorem dX9_clear_10 : decode cX9_clear 10 = .ok (.iload_n 1, 1) := by decide +kernel
theorem dX9_clear_11 : decode cX9_clear 11 = .ok (.ireturn, 1) := by decide +kernel
theorem me_X9_clear : cx_Mv yX9_clear cX9_clear 2 (some .int) 0 := ⟨⟨⟨by decide +kernel, by decide +kernel, by decide +kernel⟩, hw_11, hw_1235⟩, hw_1233, hw_1234⟩
noncomputable def f_X9_clear (m_typed : Int32) : Option (Int32 × Int32) := some ((m_typed, 0))
set_option maxHeartbeats 4000000 in
set_option maxRecDepth 100000 in
theorem c_X9_clear (l : Launch) (D : va_G) (k : Nat → ClassId) (m_a : Nat → Nat) (m_limbs : Nat → Int32) (m_wide : Nat → Int32) (m_book : Nat → Int32) (m_images : Nat → Int32) (m_kept : Nat → Int32) (m_before : Nat → Int32) (m_refused : Nat → Int32) (m_quiet : Int32) (m_text : Nat → Int32) (m_typed : Int32) (m_at : Int32) (m_start : Int32) (m_token : Int32) (m_value : Int32) (m_items : Nat → Int32) (m_many : Int32) (m_is : Nat → Int32) (m_likes : Nat → Int32) (m_without : Int32) (m_onePicture : Int32) (m_oneYear : Int32) (m_first : Int32) (m_second : Int32) (m_names : Nat → Int32) (y : Int32 × Int32) (hf : f_X9_clear m_typed = some y) : cx_M l yX9_clear cX9_clear 2 (some .int) 1 D k [.ref (m_a 0)] (wd_Model k m_a m_limbs m_wide m_book m_images m_kept m_before m_refused m_quiet m_text m_typed m_at m_start m_token m_value m_items m_many m_is m_likes m_without m_onePicture m_oneYear m_first m_second m_names) (fun sz => cx_Qi D y.1 (wd_Model k m_a m_limbs m_wide m_book m_images m_kept m_before m_refused m_quiet m_text m_typed m_at m_start m_token m_value m_items m_many m_is m_likes m_without m_onePicture m_oneYear m_first m_second m_names) (wd_Model k m_a m_limbs m_wide m_book m_images m_kept m_before m_refused m_quiet m_text y.2 m_at m_start m_token m_value m_items m_many m_is m_likes m_without m_onePicture m_oneYear m_first m_second m_names) sz) := by
  refine cx_met (own := "NamelessBoxModel") (by decide) rfl (Nat.le_of_ble_eq_true rfl) ?_
  intro p e s m args below meth c A Q C hA hQ hr hlk
  refine cx_lv (lv' := [(0, .ref (m_a 0))]) [0] rfl ?_
  unfold f_X9_clear at hf
  refine cx_aload_n C dX9_clear_0 0 rfl ?_
  refine cx_get (v := .int m_typed) (ci := 8) C iX9 dX9_clear_1 0 rfl rfl 9 (by decide) hw_1063 rfl ?_
  refine cx_istore_n (lv' := [(1, .int m_typed), (0, .ref (m_a 0))]) C dX9_clear_4 rfl (by decide) rfl ?_
  refine cx_aload_n C dX9_clear_5 1 rfl ?_
  refine cx_iconst (v := 0) C dX9_clear_6 (by decide) ?_
  refine cx_putf (v := .int 0) (ty := .int) (ci := 8) (ws' := (wd_Model k m_a m_limbs m_wide m_book m_images m_kept m_before m_refused m_quiet m_text 0 m_at m_start m_token m_value m_items m_many m_is m_likes m_without m_onePicture m_oneYear m_first m_second m_names)) C iX9 tyX9 tyX9_ok nmX9 dX9_clear_7 0 rfl rfl 9 (by decide) hw_1063 rfl (by decide +kernel) rfl rfl (Nat.le_of_ble_eq_true rfl) rfl ?_
  refine cx_iload_n C dX9_clear_10 0 rfl ?_
  obtain rfl := Option.some.inj hf
  exact cx_iret C hA hQ hr hlk dX9_clear_11 rfl rfl
