theorem dX9_who_0 : decode cX9_who 0 = .ok (.aload_n 0, 1) := by decide +kernel
theorem dX9_who_1 : decode cX9_who 1 = .ok (.iload_n 1, 1) := by decide +kernel
theorem dX9_who_2 : decode cX9_who 2 = .ok (.invokevirtual 119, 3) := by decide +kernel
theorem dX9_who_5 : decode cX9_who 5 = .ok (.ifCond .eq 16, 3) := by decide +kernel
theorem dX9_who_8 : decode cX9_who 8 = .ok (.iload_n 2, 1) := by decide +kernel
theorem dX9_who_9 : decode cX9_who 9 = .ok (.iconst (-1), 1) := by decide +kernel
theorem dX9_who_10 : decode cX9_who 10 = .ok (.if_icmp .eq 16, 3) := by decide +kernel
theorem dX9_who_13 : decode cX9_who 13 = .ok (.aload_n 0, 1) := by decide +kernel
theorem dX9_who_14 : decode cX9_who 14 = .ok (.iload_n 2, 1) := by decide +kernel
theorem dX9_who_15 : decode cX9_who 15 = .ok (.invokevirtual 106, 3) := by decide +kernel
theorem dX9_who_18 : decode cX9_who 18 = .ok (.ifCond .ne 8, 3) := by decide +kernel
theorem dX9_who_21 : decode cX9_who 21 = .ok (.aload_n 0, 1) := by decide +kernel
theorem dX9_who_22 : decode cX9_who 22 = .ok (.invokevirtual 99, 3) := by decide +kernel
theorem dX9_who_25 : decode cX9_who 25 = .ok (.ireturn, 1) := by decide +kernel
theorem dX9_who_26 : decode cX9_who 26 = .ok (.aload_n 0, 1) := by decide +kernel
theorem dX9_who_27 : decode cX9_who 27 = .ok (.invokevirtual 284, 3) := by decide +kernel
theorem dX9_who_30 : decode cX9_who 30 = .ok (.aload_n 0, 1) := by decide +kernel
theorem dX9_who_31 : decode cX9_who 31 = .ok (.iconst (-1), 1) := by decide +kernel
theorem dX9_who_32 : decode cX9_who 32 = .ok (.invokevirtual 287, 3) := by decide +kernel
theorem dX9_who_35 : decode cX9_who 35 = .ok (.aload_n 0, 1) := by decide +kernel
theorem dX9_who_36 : decode cX9_who 36 = .ok (.getfield 3, 3) := by decide +kernel
theorem dX9_who_39 : decode cX9_who 39 = .ok (.bipush 6, 2) := by decide +kernel
theorem dX9_who_41 : decode cX9_who 41 = .ok (.iaload, 1) := by decide +kernel
theorem dX9_who_42 : decode cX9_who 42 = .ok (.ifCond .ne 8, 3) := by decide +kernel
theorem dX9_who_45 : decode cX9_who 45 = .ok (.aload_n 0, 1) := by decide +kernel
theorem dX9_who_46 : decode cX9_who 46 = .ok (.invokevirtual 290, 3) := by decide +kernel
theorem dX9_who_49 : decode cX9_who 49 = .ok (.ireturn, 1) := by decide +kernel
theorem dX9_who_50 : decode cX9_who 50 = .ok (.aload_n 0, 1) := by decide +kernel
theorem dX9_who_51 : decode cX9_who 51 = .ok (.bipush 7, 2) := by decide +kernel
theorem dX9_who_53 : decode cX9_who 53 = .ok (.bipush 12, 2) := by decide +kernel
theorem dX9_who_55 : decode cX9_who 55 = .ok (.bipush 6, 2) := by decide +kernel
theorem dX9_who_57 : decode cX9_who 57 = .ok (.iload_n 1, 1) := by decide +kernel
theorem dX9_who_58 : decode cX9_who 58 = .ok (.imul, 1) := by decide +kernel
theorem dX9_who_59 : decode cX9_who 59 = .ok (.iadd, 1) := by decide +kernel
theorem dX9_who_60 : decode cX9_who 60 = .ok (.iload_n 2, 1) := by decide +kernel
theorem dX9_who_61 : decode cX9_who 61 = .ok (.iconst (-1), 1) := by decide +kernel
theorem dX9_who_62 : decode cX9_who 62 = .ok (.if_icmp .ne 7, 3) := by decide +kernel
theorem dX9_who_65 : decode cX9_who 65 = .ok (.iconst 5, 1) := by decide +kernel
theorem dX9_who_66 : decode cX9_who 66 = .ok (.goto 4, 3) := by decide +kernel
theorem dX9_who_69 : decode cX9_who 69 = .ok (.iload_n 2, 1) := by decide +kernel
theorem dX9_who_70 : decode cX9_who 70 = .ok (.iadd, 1) := by decide +kernel
theorem dX9_who_71 : decode cX9_who 71 = .ok (.invokevirtual 20, 3) := by decide +kernel
theorem dX9_who_74 : decode cX9_who 74 = .ok (.aload_n 0, 1) := by decide +kernel
theorem dX9_who_75 : decode cX9_who 75 = .ok (.invokevirtual 293, 3) := by decide +kernel
theorem dX9_who_78 : decode cX9_who 78 = .ok (.ireturn, 1) := by decide +kernel
theorem me_X9_who : cx_Mv yX9_who cX9_who 3 (some .int) 2 := ⟨⟨⟨by decide +kernel, by decide +kernel, by decide +kernel⟩, hw_11, hw_1283⟩, hw_1281, hw_1282⟩
noncomputable def f_X9_who_J21 (m_limbs : Nat → Int32) (m_wide : Nat → Int32) (m_refused : Nat → Int32) (m_quiet : Int32) (m_is : Nat → Int32) (m_likes : Nat → Int32) (m_without : Int32) (m_onePicture : Int32) (m_first : Int32) : Option (Int32 × Int32 × Int32 × Int32 × (Nat → Int32) × (Nat → Int32) × (Nat → Int32) × (Nat → Int32) × (Nat → Int32)) := Option.bind (f_X9_bad m_refused m_quiet) (fun u4 => some ((u4.1, m_without, m_onePicture, m_first, m_limbs, m_wide, u4.2, m_is, m_likes)))
noncomputable def f_X9_who_J70 (m_refused : Nat → Int32) (h_14 : Int32) (h_15 : Int32) (h_16 : Int32) (a_17 : Nat → Int32) (a_18 : Nat → Int32) (a_19 : Nat → Int32) (a_20 : Nat → Int32) (s1_21 : Int32) (s2_22 : Int32) (s3_23 : Int32) : Option (Int32 × Int32 × Int32 × Int32 × (Nat → Int32) × (Nat → Int32) × (Nat → Int32) × (Nat → Int32) × (Nat → Int32)) := Option.bind (f_X9_takes a_17 a_18 s1_21 (s2_22 + s3_23)) (fun u24 => Option.bind (f_X9_tellsHit u24.1 u24.2) (fun u26 => some ((u26.1, h_14, h_15, h_16, u26.2.1, u26.2.2, m_refused, a_19, a_20))))
noncomputable def f_X9_who_J26 (m_limbs : Nat → Int32) (m_wide : Nat → Int32) (m_book : Nat → Int32) (m_refused : Nat → Int32) (m_quiet : Int32) (m_is : Nat → Int32) (m_likes : Nat → Int32) (m_oneYear : Int32) (m_second : Int32) (p1 : Int32) (p2 : Int32) : Option (Int32 × Int32 × Int32 × Int32 × (Nat → Int32) × (Nat → Int32) × (Nat → Int32) × (Nat → Int32) × (Nat → Int32)) := Option.bind (f_X9_begins m_book m_likes) (fun u7 => Option.bind (f_X9_shares m_limbs m_wide m_book m_is u7.2.2.2 u7.1 u7.2.1 m_oneYear u7.2.2.1 m_second ((-1))) (fun u9 => cx_gd (cx_ib 6 270) (if (u9.2.1 (cx_ix 6)) = 0 then (Option.bind (f_X9_no m_refused m_quiet) (fun u28 => some ((u28.1, u7.1, u7.2.1, u7.2.2.1, u9.1, u9.2.1, u28.2, u9.2.2, u7.2.2.2)))) else (if p2 = ((-1)) then (f_X9_who_J70 m_refused u7.1 u7.2.1 u7.2.2.1 u9.1 u9.2.1 u9.2.2 u7.2.2.2 7 (12 + (6 * p1)) 5) else (f_X9_who_J70 m_refused u7.1 u7.2.1 u7.2.2.1 u9.1 u9.2.1 u9.2.2 u7.2.2.2 7 (12 + (6 * p1)) p2)))))
noncomputable def f_X9_who (m_limbs : Nat → Int32) (m_wide : Nat → Int32) (m_book : Nat → Int32) (m_refused : Nat → Int32) (m_quiet : Int32) (m_is : Nat → Int32) (m_likes : Nat → Int32) (m_without : Int32) (m_onePicture : Int32) (m_oneYear : Int32) (m_first : Int32) (m_second : Int32) (p1 : Int32) (p2 : Int32) : Option (Int32 × Int32 × Int32 × Int32 × (Nat → Int32) × (Nat → Int32) × (Nat → Int32) × (Nat → Int32) × (Nat → Int32)) := Option.bind (f_X9_isHead m_book p1) (fun u1 => if u1 = 0 then (f_X9_who_J21 m_limbs m_wide m_refused m_quiet m_is m_likes m_without m_onePicture m_first) else (if p2 = ((-1)) then (f_X9_who_J26 m_limbs m_wide m_book m_refused m_quiet m_is m_likes m_oneYear m_second p1 p2) else (Option.bind (f_X9_isPerson m_book p2) (fun u30 => if u30 = 0 then (f_X9_who_J21 m_limbs m_wide m_refused m_quiet m_is m_likes m_without m_onePicture m_first) else (f_X9_who_J26 m_limbs m_wide m_book m_refused m_quiet m_is m_likes m_oneYear m_second p1 p2)))))
set_option maxHeartbeats 4000000 in
set_option maxRecDepth 100000 in
theorem c_X9_who (l : Launch) (D : va_G) (k : Nat → ClassId) (m_a : Nat → Nat) (m_limbs : Nat → Int32) (m_wide : Nat → Int32) (m_book : Nat → Int32) (m_images : Nat → Int32) (m_kept : Nat → Int32) (m_before : Nat → Int32) (m_refused : Nat → Int32) (m_quiet : Int32) (m_text : Nat → Int32) (m_typed : Int32) (m_at : Int32) (m_start : Int32) (m_token : Int32) (m_value : Int32) (m_items : Nat → Int32) (m_many : Int32) (m_is : Nat → Int32) (m_likes : Nat → Int32) (m_without : Int32) (m_onePicture : Int32) (m_oneYear : Int32) (m_first : Int32) (m_second : Int32) (m_names : Nat → Int32) (p1 : Int32) (p2 : Int32) (y : Int32 × Int32 × Int32 × Int32 × (Nat → Int32) × (Nat → Int32) × (Nat → Int32) × (Nat → Int32) × (Nat → Int32)) (hf : f_X9_who m_limbs m_wide m_book m_refused m_quiet m_is m_likes m_without m_onePicture m_oneYear m_first m_second p1 p2 = some y) : cx_M l yX9_who cX9_who 3 (some .int) 7 D k [.ref (m_a 0), .int p1, .int p2] (wd_Model k m_a m_limbs m_wide m_book m_images m_kept m_before m_refused m_quiet m_text m_typed m_at m_start m_token m_value m_items m_many m_is m_likes m_without m_onePicture m_oneYear m_first m_second m_names) (fun sz => cx_Qi D y.1 (wd_Model k m_a m_limbs m_wide m_book m_images m_kept m_before m_refused m_quiet m_text m_typed m_at m_start m_token m_value m_items m_many m_is m_likes m_without m_onePicture m_oneYear m_first m_second m_names) (wd_Model k m_a y.2.2.2.2.1 y.2.2.2.2.2.1 m_book m_images m_kept m_before y.2.2.2.2.2.2.1 m_quiet m_text m_typed m_at m_start m_token m_value m_items m_many y.2.2.2.2.2.2.2.1 y.2.2.2.2.2.2.2.2 y.2.1 y.2.2.1 m_oneYear y.2.2.2.1 m_second m_names) sz) := by
  refine cx_met (own := "NamelessBoxModel") (by decide) rfl (Nat.le_of_ble_eq_true rfl) ?_
  intro p e s m args below meth c A Q C hA hQ hr hlk
  refine cx_lv (lv' := [(0, .ref (m_a 0)), (1, .int p1), (2, .int p2)]) [0, 1, 2] rfl ?_
  have J21 : f_X9_who_J21 m_limbs m_wide m_refused m_quiet m_is m_likes m_without m_onePicture m_first = some y → cx_S p l e (cx_rm 7) s m args below meth c A D 3 0 0 Q 21 [(0, .ref (m_a 0))] [] (wd_Model k m_a m_limbs m_wide m_book m_images m_kept m_before m_refused m_quiet m_text m_typed m_at m_start m_token m_value m_items m_many m_is m_likes m_without m_onePicture m_oneYear m_first m_second m_names) := by
    intro  hf
    unfold f_X9_who_J21 at hf
    refine cx_aload_n C dX9_who_21 0 rfl ?_
    obtain ⟨u4, e5, hf⟩ := cx_bd_at hf
    refine cx_Fvi (q := (RX9, TX9, 24)) (As := []) (rest := []) (w1 := (wd_Model k m_a m_limbs m_wide m_book m_images m_kept m_before u4.2 m_quiet m_text m_typed m_at m_start m_token m_value m_items m_many m_is m_likes m_without m_onePicture m_oneYear m_first m_second m_names)) hA C me_X9_bad hw_1137 (c_X9_bad l D k m_a m_limbs m_wide m_book m_images m_kept m_before m_refused m_quiet m_text m_typed m_at m_start m_token m_value m_items m_many m_is m_likes m_without m_onePicture m_oneYear m_first m_second m_names u4 e5) dX9_who_22 ⟨Nat.le_of_ble_eq_true rfl, Nat.le_of_ble_eq_true rfl⟩ ⟨Nat.zero_le _, Nat.zero_le _⟩ rfl rfl (Nat.le_of_ble_eq_true rfl) rfl rfl rfl ?_
    clear e5
    obtain rfl := Option.some.inj hf
    exact cx_iret C hA hQ hr hlk dX9_who_25 rfl rfl
  have J70 : ∀ (h_14 : Int32) (h_15 : Int32) (h_16 : Int32) (a_17 : Nat → Int32) (a_18 : Nat → Int32) (a_19 : Nat → Int32) (a_20 : Nat → Int32) (s1_21 : Int32) (s2_22 : Int32) (s3_23 : Int32), f_X9_who_J70 m_refused h_14 h_15 h_16 a_17 a_18 a_19 a_20 s1_21 s2_22 s3_23 = some y → cx_S p l e (cx_rm 7) s m args below meth c A D 3 0 0 Q 70 [(0, .ref (m_a 0))] [.int s3_23, .int s2_22, .int s1_21, .ref (m_a 0)] (wd_Model k m_a a_17 a_18 m_book m_images m_kept m_before m_refused m_quiet m_text m_typed m_at m_start m_token m_value m_items m_many a_19 a_20 h_14 h_15 m_oneYear h_16 m_second m_names) := by
    intro h_14 h_15 h_16 a_17 a_18 a_19 a_20 s1_21 s2_22 s3_23 hf
    unfold f_X9_who_J70 at hf
    refine cx_iadd C dX9_who_70 ?_
    obtain ⟨u24, e25, hf⟩ := cx_bd_at hf
    refine cx_Fvv (q := (RX9, TX9, 24)) (As := [.int s1_21, .int (s2_22 + s3_23)]) (rest := []) (w1 := (wd_Model k m_a u24.1 u24.2 m_book m_images m_kept m_before m_refused m_quiet m_text m_typed m_at m_start m_token m_value m_items m_many a_19 a_20 h_14 h_15 m_oneYear h_16 m_second m_names)) hA C me_X9_takes hw_1324 (c_X9_takes l D k m_a a_17 a_18 m_book m_images m_kept m_before m_refused m_quiet m_text m_typed m_at m_start m_token m_value m_items m_many a_19 a_20 h_14 h_15 m_oneYear h_16 m_second m_names s1_21 (s2_22 + s3_23) u24 e25) dX9_who_71 ⟨Nat.le_of_ble_eq_true rfl, Nat.le_of_ble_eq_true rfl⟩ ⟨Nat.zero_le _, Nat.zero_le _⟩ rfl rfl (Nat.le_of_ble_eq_true rfl) rfl rfl rfl ?_
    clear e25
    refine cx_aload_n C dX9_who_74 0 rfl ?_
    obtain ⟨u26, e27, hf⟩ := cx_bd_at hf
    refine cx_Fvi (q := (RX9, TX9, 24)) (As := []) (rest := []) (w1 := (wd_Model k m_a u26.2.1 u26.2.2 m_book m_images m_kept m_before m_refused m_quiet m_text m_typed m_at m_start m_token m_value m_items m_many a_19 a_20 h_14 h_15 m_oneYear h_16 m_second m_names)) hA C me_X9_tellsHit hw_1341 (c_X9_tellsHit l D k m_a u24.1 u24.2 m_book m_images m_kept m_before m_refused m_quiet m_text m_typed m_at m_start m_token m_value m_items m_many a_19 a_20 h_14 h_15 m_oneYear h_16 m_second m_names u26 e27) dX9_who_75 ⟨Nat.le_of_ble_eq_true rfl, Nat.le_of_ble_eq_true rfl⟩ ⟨Nat.zero_le _, Nat.zero_le _⟩ rfl rfl (Nat.le_of_ble_eq_true rfl) rfl rfl rfl ?_
    clear e27
    obtain rfl := Option.some.inj hf
    exact cx_iret C hA hQ hr hlk dX9_who_78 rfl rfl
  have J26 : f_X9_who_J26 m_limbs m_wide m_book m_refused m_quiet m_is m_likes m_oneYear m_second p1 p2 = some y → cx_S p l e (cx_rm 7) s m args below meth c A D 3 0 0 Q 26 [(0, .ref (m_a 0)), (1, .int p1), (2, .int p2)] [] (wd_Model k m_a m_limbs m_wide m_book m_images m_kept m_before m_refused m_quiet m_text m_typed m_at m_start m_token m_value m_items m_many m_is m_likes m_without m_onePicture m_oneYear m_first m_second m_names) := by
    intro  hf
    unfold f_X9_who_J26 at hf
    refine cx_aload_n C dX9_who_26 0 rfl ?_
    obtain ⟨u7, e8, hf⟩ := cx_bd_at hf
    refine cx_Fvv (q := (RX9, TX9, 24)) (As := []) (rest := []) (w1 := (wd_Model k m_a m_limbs m_wide m_book m_images m_kept m_before m_refused m_quiet m_text m_typed m_at m_start m_token m_value m_items m_many m_is u7.2.2.2 u7.1 u7.2.1 m_oneYear u7.2.2.1 m_second m_names)) hA C me_X9_begins hw_1284 (c_X9_begins l D k m_a m_limbs m_wide m_book m_images m_kept m_before m_refused m_quiet m_text m_typed m_at m_start m_token m_value m_items m_many m_is m_likes m_without m_onePicture m_oneYear m_first m_second m_names u7 e8) dX9_who_27 ⟨Nat.le_of_ble_eq_true rfl, Nat.le_of_ble_eq_true rfl⟩ ⟨Nat.zero_le _, Nat.zero_le _⟩ rfl rfl (Nat.le_of_ble_eq_true rfl) rfl rfl rfl ?_
    clear e8
    refine cx_aload_n C dX9_who_30 0 rfl ?_
    refine cx_iconst (v := (-1)) C dX9_who_31 (by decide) ?_
    obtain ⟨u9, e10, hf⟩ := cx_bd_at hf
    refine cx_Fvv (q := (RX9, TX9, 24)) (As := [.int ((-1))]) (rest := []) (w1 := (wd_Model k m_a u9.1 u9.2.1 m_book m_images m_kept m_before m_refused m_quiet m_text m_typed m_at m_start m_token m_value m_items m_many u9.2.2 u7.2.2.2 u7.1 u7.2.1 m_oneYear u7.2.2.1 m_second m_names)) hA C me_X9_shares hw_1288 (c_X9_shares l D k m_a m_limbs m_wide m_book m_images m_kept m_before m_refused m_quiet m_text m_typed m_at m_start m_token m_value m_items m_many m_is u7.2.2.2 u7.1 u7.2.1 m_oneYear u7.2.2.1 m_second m_names ((-1)) u9 e10) dX9_who_32 ⟨Nat.le_of_ble_eq_true rfl, Nat.le_of_ble_eq_true rfl⟩ ⟨Nat.zero_le _, Nat.zero_le _⟩ rfl rfl (Nat.le_of_ble_eq_true rfl) rfl rfl rfl ?_
    clear e10
    refine cx_aload_n C dX9_who_35 0 rfl ?_
    refine cx_get (v := .ref (m_a 2)) (ci := 8) C iX9 dX9_who_36 0 rfl rfl 1 (by decide) hw_1055 rfl ?_
    refine cx_bipush (v := 6) C dX9_who_39 (by decide) ?_
    obtain ⟨g11, hf⟩ := cx_gd_at hf
    refine cx_iald C dX9_who_41 2 rfl (cx_ib_in g11) ?_
    clear g11
    refine cx_if_ne (tgt := 50) C dX9_who_42 (by decide) (fun c12 => ?_) (fun c12 => ?_)
    · have hf := cx_if_f hf c12
      clear c12
      refine cx_aload_n C dX9_who_50 0 rfl ?_
      refine cx_bipush (v := 7) C dX9_who_51 (by decide) ?_
      refine cx_bipush (v := 12) C dX9_who_53 (by decide) ?_
      refine cx_bipush (v := 6) C dX9_who_55 (by decide) ?_
      refine cx_iload_n C dX9_who_57 1 rfl ?_
      refine cx_imul C dX9_who_58 ?_
      refine cx_iadd C dX9_who_59 ?_
      refine cx_iload_n C dX9_who_60 2 rfl ?_
      refine cx_iconst (v := (-1)) C dX9_who_61 (by decide) ?_
      refine cx_icmp_ne (tgt := 69) C dX9_who_62 (by decide) (fun c13 => ?_) (fun c13 => ?_)
      · have hf := cx_if_f hf c13
        clear c13
        refine cx_iload_n C dX9_who_69 2 rfl ?_
        refine cx_lv [0] rfl ?_
        exact J70 u7.1 u7.2.1 u7.2.2.1 u9.1 u9.2.1 u9.2.2 u7.2.2.2 7 (12 + (6 * p1)) p2 hf
      · have hf := cx_if_t hf c13
        clear c13
        refine cx_iconst (v := 5) C dX9_who_65 (by decide) ?_
        refine cx_goto (tgt := 70) C dX9_who_66 (by decide) ?_
        refine cx_lv [0] rfl ?_
        exact J70 u7.1 u7.2.1 u7.2.2.1 u9.1 u9.2.1 u9.2.2 u7.2.2.2 7 (12 + (6 * p1)) 5 hf
    · have hf := cx_if_t hf c12
      clear c12
      refine cx_aload_n C dX9_who_45 0 rfl ?_
      obtain ⟨u28, e29, hf⟩ := cx_bd_at hf
      refine cx_Fvi (q := (RX9, TX9, 24)) (As := []) (rest := []) (w1 := (wd_Model k m_a u9.1 u9.2.1 m_book m_images m_kept m_before u28.2 m_quiet m_text m_typed m_at m_start m_token m_value m_items m_many u9.2.2 u7.2.2.2 u7.1 u7.2.1 m_oneYear u7.2.2.1 m_second m_names)) hA C me_X9_no hw_1337 (c_X9_no l D k m_a u9.1 u9.2.1 m_book m_images m_kept m_before m_refused m_quiet m_text m_typed m_at m_start m_token m_value m_items m_many u9.2.2 u7.2.2.2 u7.1 u7.2.1 m_oneYear u7.2.2.1 m_second m_names u28 e29) dX9_who_46 ⟨Nat.le_of_ble_eq_true rfl, Nat.le_of_ble_eq_true rfl⟩ ⟨Nat.zero_le _, Nat.zero_le _⟩ rfl rfl (Nat.le_of_ble_eq_true rfl) rfl rfl rfl ?_
      clear e29
      obtain rfl := Option.some.inj hf
      exact cx_iret C hA hQ hr hlk dX9_who_49 rfl rfl
  unfold f_X9_who at hf
  refine cx_aload_n C dX9_who_0 0 rfl ?_
  refine cx_iload_n C dX9_who_1 1 rfl ?_
  obtain ⟨u1, e2, hf⟩ := cx_bd_at hf
  refine cx_Fvi (q := (RX9, TX9, 24)) (As := [.int p1]) (rest := []) (w1 := (wd_Model k m_a m_limbs m_wide m_book m_images m_kept m_before m_refused m_quiet m_text m_typed m_at m_start m_token m_value m_items m_many m_is m_likes m_without m_onePicture m_oneYear m_first m_second m_names)) hA C me_X9_isHead hw_1183 (c_X9_isHead l D k m_a m_limbs m_wide m_book m_images m_kept m_before m_refused m_quiet m_text m_typed m_at m_start m_token m_value m_items m_many m_is m_likes m_without m_onePicture m_oneYear m_first m_second m_names p1 u1 e2) dX9_who_2 ⟨Nat.le_of_ble_eq_true rfl, Nat.le_of_ble_eq_true rfl⟩ ⟨Nat.zero_le _, Nat.zero_le _⟩ rfl rfl (Nat.le_of_ble_eq_true rfl) rfl rfl rfl ?_
  clear e2
  refine cx_if_eq (tgt := 21) C dX9_who_5 (by decide) (fun c3 => ?_) (fun c3 => ?_)
  · have hf := cx_if_t hf c3
    clear c3
    refine cx_lv [0] rfl ?_
    exact J21 hf
  · have hf := cx_if_f hf c3
    clear c3
    refine cx_iload_n C dX9_who_8 2 rfl ?_
    refine cx_iconst (v := (-1)) C dX9_who_9 (by decide) ?_
    refine cx_icmp_eq (tgt := 26) C dX9_who_10 (by decide) (fun c6 => ?_) (fun c6 => ?_)
    · have hf := cx_if_t hf c6
      clear c6
      exact J26 hf
    · have hf := cx_if_f hf c6
      clear c6
      refine cx_aload_n C dX9_who_13 0 rfl ?_
      refine cx_iload_n C dX9_who_14 2 rfl ?_
      obtain ⟨u30, e31, hf⟩ := cx_bd_at hf
      refine cx_Fvi (q := (RX9, TX9, 24)) (As := [.int p2]) (rest := []) (w1 := (wd_Model k m_a m_limbs m_wide m_book m_images m_kept m_before m_refused m_quiet m_text m_typed m_at m_start m_token m_value m_items m_many m_is m_likes m_without m_onePicture m_oneYear m_first m_second m_names)) hA C me_X9_isPerson hw_1153 (c_X9_isPerson l D k m_a m_limbs m_wide m_book m_images m_kept m_before m_refused m_quiet m_text m_typed m_at m_start m_token m_value m_items m_many m_is m_likes m_without m_onePicture m_oneYear m_first m_second m_names p2 u30 e31) dX9_who_15 ⟨Nat.le_of_ble_eq_true rfl, Nat.le_of_ble_eq_true rfl⟩ ⟨Nat.zero_le _, Nat.zero_le _⟩ rfl rfl (Nat.le_of_ble_eq_true rfl) rfl rfl rfl ?_
      clear e31
      refine cx_if_ne (tgt := 26) C dX9_who_18 (by decide) (fun c32 => ?_) (fun c32 => ?_)
      · have hf := cx_if_f hf c32
        clear c32
        exact J26 hf
      · have hf := cx_if_t hf c32
        clear c32
        refine cx_lv [0] rfl ?_
        exact J21 hf
theorem dX9_named_0 : decode cX9_named 0 = .ok (.aload_n 0, 1) := by decide +kernel
theorem dX9_named_1 : decode cX9_named 1 = .ok (.iload_n 1, 1) := by decide +kernel
theorem dX9_named_2 : decode cX9_named 2 = .ok (.invokevirtual 119, 3) := by decide +kernel
theorem dX9_named_5 : decode cX9_named 5 = .ok (.ifCond .ne 8, 3) := by decide +kernel
theorem dX9_named_8 : decode cX9_named 8 = .ok (.aload_n 0, 1) := by decide +kernel
theorem dX9_named_9 : decode cX9_named 9 = .ok (.invokevirtual 99, 3) := by decide +kernel
theorem dX9_named_12 : decode cX9_named 12 = .ok (.ireturn, 1) := by decide +kernel
theorem dX9_named_13 : decode cX9_named 13 = .ok (.aload_n 0, 1) := by decide +kernel
theorem dX9_named_14 : decode cX9_named 14 = .ok (.invokevirtual 284, 3) := by decide +kernel
theorem dX9_named_17 : decode cX9_named 17 = .ok (.aload_n 0, 1) := by decide +kernel
theorem dX9_named_18 : decode cX9_named 18 = .ok (.iconst (-1), 1) := by decide +kernel
theorem dX9_named_19 : decode cX9_named 19 = .ok (.invokevirtual 287, 3) := by decide +kernel
theorem dX9_named_22 : decode cX9_named 22 = .ok (.aload_n 0, 1) := by decide +kernel
theorem dX9_named_23 : decode cX9_named 23 = .ok (.getfield 3, 3) := by decide +kernel
theorem dX9_named_26 : decode cX9_named 26 = .ok (.bipush 6, 2) := by decide +kernel
theorem dX9_named_28 : decode cX9_named 28 = .ok (.iaload, 1) := by decide +kernel
theorem dX9_named_29 : decode cX9_named 29 = .ok (.ifCond .ne 8, 3) := by decide +kernel
theorem dX9_named_32 : decode cX9_named 32 = .ok (.aload_n 0, 1) := by decide +kernel
theorem dX9_named_33 : decode cX9_named 33 = .ok (.invokevirtual 290, 3) := by decide +kernel
theorem dX9_named_36 : decode cX9_named 36 = .ok (.ireturn, 1) := by decide +kernel
theorem dX9_named_37 : decode cX9_named 37 = .ok (.aload_n 0, 1) := by decide +kernel
theorem dX9_named_38 : decode cX9_named 38 = .ok (.iload_n 1, 1) := by decide +kernel
theorem dX9_named_39 : decode cX9_named 39 = .ok (.invokevirtual 296, 3) := by decide +kernel
theorem dX9_named_42 : decode cX9_named 42 = .ok (.istore_n 2, 1) := by decide +kernel
theorem dX9_named_43 : decode cX9_named 43 = .ok (.aload_n 0, 1) := by decide +kernel
theorem dX9_named_44 : decode cX9_named 44 = .ok (.bipush 7, 2) := by decide +kernel
theorem dX9_named_46 : decode cX9_named 46 = .ok (.bipush 12, 2) := by decide +kernel
theorem dX9_named_48 : decode cX9_named 48 = .ok (.bipush 6, 2) := by decide +kernel
theorem dX9_named_50 : decode cX9_named 50 = .ok (.iload_n 1, 1) := by decide +kernel
theorem dX9_named_51 : decode cX9_named 51 = .ok (.imul, 1) := by decide +kernel
theorem dX9_named_52 : decode cX9_named 52 = .ok (.iadd, 1) := by decide +kernel
theorem dX9_named_53 : decode cX9_named 53 = .ok (.iload_n 2, 1) := by decide +kernel
theorem dX9_named_54 : decode cX9_named 54 = .ok (.iadd, 1) := by decide +kernel
theorem dX9_named_55 : decode cX9_named 55 = .ok (.invokevirtual 20, 3) := by decide +kernel
theorem dX9_named_58 : decode cX9_named 58 = .ok (.aload_n 0, 1) := by decide +kernel
theorem dX9_named_59 : decode cX9_named 59 = .ok (.invokevirtual 293, 3) := by decide +kernel
theorem dX9_named_62 : decode cX9_named 62 = .ok (.pop, 1) := by decide +kernel
theorem dX9_named_63 : decode cX9_named 63 = .ok (.iload_n 2, 1) := by decide +kernel
theorem dX9_named_64 : decode cX9_named 64 = .ok (.ireturn, 1) := by decide +kernel
theorem me_X9_named : cx_Mv yX9_named cX9_named 3 (some .int) 1 := ⟨⟨⟨by decide +kernel, by decide +kernel, by decide +kernel⟩, hw_11, hw_1372⟩, hw_1370, hw_1371⟩
noncomputable def f_X9_named (m_limbs : Nat → Int32) (m_wide : Nat → Int32) (m_book : Nat → Int32) (m_refused : Nat → Int32) (m_quiet : Int32) (m_is : Nat → Int32) (m_likes : Nat → Int32) (m_without : Int32) (m_onePicture : Int32) (m_oneYear : Int32) (m_first : Int32) (m_second : Int32) (p1 : Int32) : Option (Int32 × Int32 × Int32 × Int32 × (Nat → Int32) × (Nat → Int32) × (Nat → Int32) × (Nat → Int32) × (Nat → Int32)) := Option.bind (f_X9_isHead m_book p1) (fun u1 => if u1 = 0 then (Option.bind (f_X9_bad m_refused m_quiet) (fun u18 => some ((u18.1, m_without, m_onePicture, m_first, m_limbs, m_wide, u18.2, m_is, m_likes)))) else (Option.bind (f_X9_begins m_book m_likes) (fun u4 => Option.bind (f_X9_shares m_limbs m_wide m_book m_is u4.2.2.2 u4.1 u4.2.1 m_oneYear u4.2.2.1 m_second ((-1))) (fun u6 => cx_gd (cx_ib 6 270) (if (u6.2.1 (cx_ix 6)) = 0 then (Option.bind (f_X9_no m_refused m_quiet) (fun u16 => some ((u16.1, u4.1, u4.2.1, u4.2.2.1, u6.1, u6.2.1, u16.2, u6.2.2, u4.2.2.2)))) else (Option.bind (f_X9_namedNow u6.1 u6.2.1 m_book p1) (fun u10 => Option.bind (f_X9_takes u6.1 u6.2.1 7 ((12 + (6 * p1)) + u10)) (fun u12 => Option.bind (f_X9_tellsHit u12.1 u12.2) (fun u14 => some ((u10, u4.1, u4.2.1, u4.2.2.1, u14.2.1, u14.2.2, m_refused, u6.2.2, u4.2.2.2)))))))))))
set_option maxHeartbeats 4000000 in
set_option maxRecDepth 100000 in
theorem c_X9_named (l : Launch) (D : va_G) (k : Nat → ClassId) (m_a : Nat → Nat) (m_limbs : Nat → Int32) (m_wide : Nat → Int32) (m_book : Nat → Int32) (m_images : Nat → Int32) (m_kept : Nat → Int32) (m_before : Nat → Int32) (m_refused : Nat → Int32) (m_quiet : Int32) (m_text : Nat → Int32) (m_typed : Int32) (m_at : Int32) (m_start : Int32) (m_token : Int32) (m_value : Int32) (m_items : Nat → Int32) (m_many : Int32) (m_is : Nat → Int32) (m_likes : Nat → Int32) (m_without : Int32) (m_onePicture : Int32) (m_oneYear : Int32) (m_first : Int32) (m_second : Int32) (m_names : Nat → Int32) (p1 : Int32) (y : Int32 × Int32 × Int32 × Int32 × (Nat → Int32) × (Nat → Int32) × (Nat → Int32) × (Nat → Int32) × (Nat → Int32)) (hf : f_X9_named m_limbs m_wide m_book m_refused m_quiet m_is m_likes m_without m_onePicture m_oneYear m_first m_second p1 = some y) : cx_M l yX9_named cX9_named 3 (some .int) 7 D k [.ref (m_a 0), .int p1] (wd_Model k m_a m_limbs m_wide m_book m_images m_kept m_before m_refused m_quiet m_text m_typed m_at m_start m_token m_value m_items m_many m_is m_likes m_without m_onePicture m_oneYear m_first m_second m_names) (fun sz => cx_Qi D y.1 (wd_Model k m_a m_limbs m_wide m_book m_images m_kept m_before m_refused m_quiet m_text m_typed m_at m_start m_token m_value m_items m_many m_is m_likes m_without m_onePicture m_oneYear m_first m_second m_names) (wd_Model k m_a y.2.2.2.2.1 y.2.2.2.2.2.1 m_book m_images m_kept m_before y.2.2.2.2.2.2.1 m_quiet m_text m_typed m_at m_start m_token m_value m_items m_many y.2.2.2.2.2.2.2.1 y.2.2.2.2.2.2.2.2 y.2.1 y.2.2.1 m_oneYear y.2.2.2.1 m_second m_names) sz) := by
  refine cx_met (own := "NamelessBoxModel") (by decide) rfl (Nat.le_of_ble_eq_true rfl) ?_
  intro p e s m args below meth c A Q C hA hQ hr hlk
  refine cx_lv (lv' := [(0, .ref (m_a 0)), (1, .int p1)]) [0, 1] rfl ?_
  unfold f_X9_named at hf
  refine cx_aload_n C dX9_named_0 0 rfl ?_
  refine cx_iload_n C dX9_named_1 1 rfl ?_
  obtain ⟨u1, e2, hf⟩ := cx_bd_at hf
  refine cx_Fvi (q := (RX9, TX9, 24)) (As := [.int p1]) (rest := []) (w1 := (wd_Model k m_a m_limbs m_wide m_book m_images m_kept m_before m_refused m_quiet m_text m_typed m_at m_start m_token m_value m_items m_many m_is m_likes m_without m_onePicture m_oneYear m_first m_second m_names)) hA C me_X9_isHead hw_1183 (c_X9_isHead l D k m_a m_limbs m_wide m_book m_images m_kept m_before m_refused m_quiet m_text m_typed m_at m_start m_token m_value m_items m_many m_is m_likes m_without m_onePicture m_oneYear m_first m_second m_names p1 u1 e2) dX9_named_2 ⟨Nat.le_of_ble_eq_true rfl, Nat.le_of_ble_eq_true rfl⟩ ⟨Nat.zero_le _, Nat.zero_le _⟩ rfl rfl (Nat.le_of_ble_eq_true rfl) rfl rfl rfl ?_
  clear e2
  refine cx_if_ne (tgt := 13) C dX9_named_5 (by decide) (fun c3 => ?_) (fun c3 => ?_)
  · have hf := cx_if_f hf c3
    clear c3
    refine cx_aload_n C dX9_named_13 0 rfl ?_
    obtain ⟨u4, e5, hf⟩ := cx_bd_at hf
    refine cx_Fvv (q := (RX9, TX9, 24)) (As := []) (rest := []) (w1 := (wd_Model k m_a m_limbs m_wide m_book m_images m_kept m_before m_refused m_quiet m_text m_typed m_at m_start m_token m_value m_items m_many m_is u4.2.2.2 u4.1 u4.2.1 m_oneYear u4.2.2.1 m_second m_names)) hA C me_X9_begins hw_1284 (c_X9_begins l D k m_a m_limbs m_wide m_book m_images m_kept m_before m_refused m_quiet m_text m_typed m_at m_start m_token m_value m_items m_many m_is m_likes m_without m_onePicture m_oneYear m_first m_second m_names u4 e5) dX9_named_14 ⟨Nat.le_of_ble_eq_true rfl, Nat.le_of_ble_eq_true rfl⟩ ⟨Nat.zero_le _, Nat.zero_le _⟩ rfl rfl (Nat.le_of_ble_eq_true rfl) rfl rfl rfl ?_
    clear e5
    refine cx_aload_n C dX9_named_17 0 rfl ?_
    refine cx_iconst (v := (-1)) C dX9_named_18 (by decide) ?_
    obtain ⟨u6, e7, hf⟩ := cx_bd_at hf
    refine cx_Fvv (q := (RX9, TX9, 24)) (As := [.int ((-1))]) (rest := []) (w1 := (wd_Model k m_a u6.1 u6.2.1 m_book m_images m_kept m_before m_refused m_quiet m_text m_typed m_at m_start m_token m_value m_items m_many u6.2.2 u4.2.2.2 u4.1 u4.2.1 m_oneYear u4.2.2.1 m_second m_names)) hA C me_X9_shares hw_1288 (c_X9_shares l D k m_a m_limbs m_wide m_book m_images m_kept m_before m_refused m_quiet m_text m_typed m_at m_start m_token m_value m_items m_many m_is u4.2.2.2 u4.1 u4.2.1 m_oneYear u4.2.2.1 m_second m_names ((-1)) u6 e7) dX9_named_19 ⟨Nat.le_of_ble_eq_true rfl, Nat.le_of_ble_eq_true rfl⟩ ⟨Nat.zero_le _, Nat.zero_le _⟩ rfl rfl (Nat.le_of_ble_eq_true rfl) rfl rfl rfl ?_
    clear e7
    refine cx_aload_n C dX9_named_22 0 rfl ?_
    refine cx_get (v := .ref (m_a 2)) (ci := 8) C iX9 dX9_named_23 0 rfl rfl 1 (by decide) hw_1055 rfl ?_
    refine cx_bipush (v := 6) C dX9_named_26 (by decide) ?_
    obtain ⟨g8, hf⟩ := cx_gd_at hf
    refine cx_iald C dX9_named_28 2 rfl (cx_ib_in g8) ?_
    clear g8
    refine cx_if_ne (tgt := 37) C dX9_named_29 (by decide) (fun c9 => ?_) (fun c9 => ?_)
    · have hf := cx_if_f hf c9
      clear c9
      refine cx_aload_n C dX9_named_37 0 rfl ?_
      refine cx_iload_n C dX9_named_38 1 rfl ?_
      obtain ⟨u10, e11, hf⟩ := cx_bd_at hf
      refine cx_Fvi (q := (RX9, TX9, 24)) (As := [.int p1]) (rest := []) (w1 := (wd_Model k m_a u6.1 u6.2.1 m_book m_images m_kept m_before m_refused m_quiet m_text m_typed m_at m_start m_token m_value m_items m_many u6.2.2 u4.2.2.2 u4.1 u4.2.1 m_oneYear u4.2.2.1 m_second m_names)) hA C me_X9_namedNow hw_1373 (c_X9_namedNow l D k m_a u6.1 u6.2.1 m_book m_images m_kept m_before m_refused m_quiet m_text m_typed m_at m_start m_token m_value m_items m_many u6.2.2 u4.2.2.2 u4.1 u4.2.1 m_oneYear u4.2.2.1 m_second m_names p1 u10 e11) dX9_named_39 ⟨Nat.le_of_ble_eq_true rfl, Nat.le_of_ble_eq_true rfl⟩ ⟨Nat.zero_le _, Nat.zero_le _⟩ rfl rfl (Nat.le_of_ble_eq_true rfl) rfl rfl rfl ?_
      clear e11
      refine cx_istore_n (lv' := [(2, .int u10), (0, .ref (m_a 0)), (1, .int p1)]) C dX9_named_42 rfl (by decide) rfl ?_
      refine cx_aload_n C dX9_named_43 1 rfl ?_
      refine cx_bipush (v := 7) C dX9_named_44 (by decide) ?_
      refine cx_bipush (v := 12) C dX9_named_46 (by decide) ?_
      refine cx_bipush (v := 6) C dX9_named_48 (by decide) ?_
      refine cx_iload_n C dX9_named_50 2 rfl ?_
      refine cx_imul C dX9_named_51 ?_
      refine cx_iadd C dX9_named_52 ?_
      refine cx_iload_n C dX9_named_53 0 rfl ?_
      refine cx_iadd C dX9_named_54 ?_
      obtain ⟨u12, e13, hf⟩ := cx_bd_at hf
      refine cx_Fvv (q := (RX9, TX9, 24)) (As := [.int 7, .int ((12 + (6 * p1)) + u10)]) (rest := []) (w1 := (wd_Model k m_a u12.1 u12.2 m_book m_images m_kept m_before m_refused m_quiet m_text m_typed m_at m_start m_token m_value m_items m_many u6.2.2 u4.2.2.2 u4.1 u4.2.1 m_oneYear u4.2.2.1 m_second m_names)) hA C me_X9_takes hw_1324 (c_X9_takes l D k m_a u6.1 u6.2.1 m_book m_images m_kept m_before m_refused m_quiet m_text m_typed m_at m_start m_token m_value m_items m_many u6.2.2 u4.2.2.2 u4.1 u4.2.1 m_oneYear u4.2.2.1 m_second m_names 7 ((12 + (6 * p1)) + u10) u12 e13) dX9_named_55 ⟨Nat.le_of_ble_eq_true rfl, Nat.le_of_ble_eq_true rfl⟩ ⟨Nat.zero_le _, Nat.zero_le _⟩ rfl rfl (Nat.le_of_ble_eq_true rfl) rfl rfl rfl ?_
      clear e13
      refine cx_aload_n C dX9_named_58 1 rfl ?_
      obtain ⟨u14, e15, hf⟩ := cx_bd_at hf
      refine cx_Fvi (q := (RX9, TX9, 24)) (As := []) (rest := []) (w1 := (wd_Model k m_a u14.2.1 u14.2.2 m_book m_images m_kept m_before m_refused m_quiet m_text m_typed m_at m_start m_token m_value m_items m_many u6.2.2 u4.2.2.2 u4.1 u4.2.1 m_oneYear u4.2.2.1 m_second m_names)) hA C me_X9_tellsHit hw_1341 (c_X9_tellsHit l D k m_a u12.1 u12.2 m_book m_images m_kept m_before m_refused m_quiet m_text m_typed m_at m_start m_token m_value m_items m_many u6.2.2 u4.2.2.2 u4.1 u4.2.1 m_oneYear u4.2.2.1 m_second m_names u14 e15) dX9_named_59 ⟨Nat.le_of_ble_eq_true rfl, Nat.le_of_ble_eq_true rfl⟩ ⟨Nat.zero_le _, Nat.zero_le _⟩ rfl rfl (Nat.le_of_ble_eq_true rfl) rfl rfl rfl ?_
      clear e15
      refine cx_pop C dX9_named_62 rfl ?_
      refine cx_iload_n C dX9_named_63 0 rfl ?_
      obtain rfl := Option.some.inj hf
      exact cx_iret C hA hQ hr hlk dX9_named_64 rfl rfl
    · have hf := cx_if_t hf c9
      clear c9
      refine cx_aload_n C dX9_named_32 0 rfl ?_
      obtain ⟨u16, e17, hf⟩ := cx_bd_at hf
      refine cx_Fvi (q := (RX9, TX9, 24)) (As := []) (rest := []) (w1 := (wd_Model k m_a u6.1 u6.2.1 m_book m_images m_kept m_before u16.2 m_quiet m_text m_typed m_at m_start m_token m_value m_items m_many u6.2.2 u4.2.2.2 u4.1 u4.2.1 m_oneYear u4.2.2.1 m_second m_names)) hA C me_X9_no hw_1337 (c_X9_no l D k m_a u6.1 u6.2.1 m_book m_images m_kept m_before m_refused m_quiet m_text m_typed m_at m_start m_token m_value m_items m_many u6.2.2 u4.2.2.2 u4.1 u4.2.1 m_oneYear u4.2.2.1 m_second m_names u16 e17) dX9_named_33 ⟨Nat.le_of_ble_eq_true rfl, Nat.le_of_ble_eq_true rfl⟩ ⟨Nat.zero_le _, Nat.zero_le _⟩ rfl rfl (Nat.le_of_ble_eq_true rfl) rfl rfl rfl ?_
      clear e17
      obtain rfl := Option.some.inj hf
      exact cx_iret C hA hQ hr hlk dX9_named_36 rfl rfl
  · have hf := cx_if_t hf c3
    clear c3
    refine cx_aload_n C dX9_named_8 0 rfl ?_
    obtain ⟨u18, e19, hf⟩ := cx_bd_at hf
    refine cx_Fvi (q := (RX9, TX9, 24)) (As := []) (rest := []) (w1 := (wd_Model k m_a m_limbs m_wide m_book m_images m_kept m_before u18.2 m_quiet m_text m_typed m_at m_start m_token m_value m_items m_many m_is m_likes m_without m_onePicture m_oneYear m_first m_second m_names)) hA C me_X9_bad hw_1137 (c_X9_bad l D k m_a m_limbs m_wide m_book m_images m_kept m_before m_refused m_quiet m_text m_typed m_at m_start m_token m_value m_items m_many m_is m_likes m_without m_onePicture m_oneYear m_first m_second m_names u18 e19) dX9_named_9 ⟨Nat.le_of_ble_eq_true rfl, Nat.le_of_ble_eq_true rfl⟩ ⟨Nat.zero_le _, Nat.zero_le _⟩ rfl rfl (Nat.le_of_ble_eq_true rfl) rfl rfl rfl ?_
    clear e19
    obtain rfl := Option.some.inj hf
    exact cx_iret C hA hQ hr hlk dX9_named_12 rfl rfl
theorem dX9_best_0 : decode cX9_best 0 = .ok (.aload_n 0, 1) := by decide +kernel
theorem dX9_best_1 : decode cX9_best 1 = .ok (.iload_n 1, 1) := by decide +kernel
theorem dX9_best_2 : decode cX9_best 2 = .ok (.invokevirtual 119, 3) := by decide +kernel
theorem dX9_best_5 : decode cX9_best 5 = .ok (.ifCond .ne 8, 3) := by decide +kernel
theorem dX9_best_8 : decode cX9_best 8 = .ok (.aload_n 0, 1) := by decide +kernel
theorem dX9_best_9 : decode cX9_best 9 = .ok (.invokevirtual 99, 3) := by decide +kernel
theorem dX9_best_12 : decode cX9_best 12 = .ok (.ireturn, 1) := by decide +kernel
theorem dX9_best_13 : decode cX9_best 13 = .ok (.aload_n 0, 1) := by decide +kernel
theorem dX9_best_14 : decode cX9_best 14 = .ok (.invokevirtual 284, 3) := by decide +kernel
theorem dX9_best_17 : decode cX9_best 17 = .ok (.aload_n 0, 1) := by decide +kernel
theorem dX9_best_18 : decode cX9_best 18 = .ok (.bipush 10, 2) := by decide +kernel
theorem dX9_best_20 : decode cX9_best 20 = .ok (.lconst 0, 1) := by decide +kernel
theorem dX9_best_21 : decode cX9_best 21 = .ok (.invokevirtual 16, 3) := by decide +kernel
theorem dX9_best_24 : decode cX9_best 24 = .ok (.iconst (-1), 1) := by decide +kernel
theorem dX9_best_25 : decode cX9_best 25 = .ok (.istore_n 2, 1) := by decide +kernel
theorem dX9_best_26 : decode cX9_best 26 = .ok (.aload_n 0, 1) := by decide +kernel
theorem dX9_best_27 : decode cX9_best 27 = .ok (.invokevirtual 272, 3) := by decide +kernel
theorem dX9_best_30 : decode cX9_best 30 = .ok (.istore_n 3, 1) := by decide +kernel
theorem dX9_best_31 : decode cX9_best 31 = .ok (.iconst 0, 1) := by decide +kernel
theorem dX9_best_32 : decode cX9_best 32 = .ok (.istore 4, 2) := by decide +kernel
theorem dX9_best_34 : decode cX9_best 34 = .ok (.iload 4, 2) := by decide +kernel
theorem dX9_best_36 : decode cX9_best 36 = .ok (.iload_n 3, 1) := by decide +kernel
theorem dX9_best_37 : decode cX9_best 37 = .ok (.if_icmp .ge 42, 3) := by decide +kernel
theorem dX9_best_40 : decode cX9_best 40 = .ok (.aload_n 0, 1) := by decide +kernel
theorem dX9_best_41 : decode cX9_best 41 = .ok (.iload 4, 2) := by decide +kernel
theorem dX9_best_43 : decode cX9_best 43 = .ok (.invokevirtual 275, 3) := by decide +kernel
theorem dX9_best_46 : decode cX9_best 46 = .ok (.ifCond .eq 27, 3) := by decide +kernel
theorem dX9_best_49 : decode cX9_best 49 = .ok (.aload_n 0, 1) := by decide +kernel
theorem dX9_best_50 : decode cX9_best 50 = .ok (.iconst 5, 1) := by decide +kernel
theorem dX9_best_51 : decode cX9_best 51 = .ok (.bipush 10, 2) := by decide +kernel
theorem dX9_best_53 : decode cX9_best 53 = .ok (.invokevirtual 32, 3) := by decide +kernel
theorem dX9_best_56 : decode cX9_best 56 = .ok (.ifCond .le 17, 3) := by decide +kernel
theorem dX9_best_59 : decode cX9_best 59 = .ok (.aload_n 0, 1) := by decide +kernel
theorem dX9_best_60 : decode cX9_best 60 = .ok (.bipush 10, 2) := by decide +kernel
theorem dX9_best_62 : decode cX9_best 62 = .ok (.iconst 5, 1) := by decide +kernel
theorem dX9_best_63 : decode cX9_best 63 = .ok (.invokevirtual 20, 3) := by decide +kernel
theorem dX9_best_66 : decode cX9_best 66 = .ok (.aload_n 0, 1) := by decide +kernel
theorem dX9_best_67 : decode cX9_best 67 = .ok (.getfield 73, 3) := by decide +kernel
theorem dX9_best_70 : decode cX9_best 70 = .ok (.iload_n 1, 1) := by decide +kernel
theorem dX9_best_71 : decode cX9_best 71 = .ok (.iaload, 1) := by decide +kernel
theorem dX9_best_72 : decode cX9_best 72 = .ok (.istore_n 2, 1) := by decide +kernel
theorem dX9_best_73 : decode cX9_best 73 = .ok (.iinc 4 1, 3) := by decide +kernel
theorem dX9_best_76 : decode cX9_best 76 = .ok (.goto (-42), 3) := by decide +kernel
theorem dX9_best_79 : decode cX9_best 79 = .ok (.iload_n 2, 1) := by decide +kernel
theorem dX9_best_80 : decode cX9_best 80 = .ok (.iconst (-1), 1) := by decide +kernel
theorem dX9_best_81 : decode cX9_best 81 = .ok (.if_icmp .ne 10, 3) := by decide +kernel
theorem dX9_best_84 : decode cX9_best 84 = .ok (.aload_n 0, 1) := by decide +kernel
theorem dX9_best_85 : decode cX9_best 85 = .ok (.invokevirtual 290, 3) := by decide +kernel
theorem dX9_best_88 : decode cX9_best 88 = .ok (.goto 4, 3) := by decide +kernel
theorem dX9_best_91 : decode cX9_best 91 = .ok (.iload_n 2, 1) := by decide +kernel
theorem dX9_best_92 : decode cX9_best 92 = .ok (.ireturn, 1) := by decide +kernel
theorem me_X9_best : cx_Mv yX9_best cX9_best 5 (some .int) 1 := ⟨⟨⟨by decide +kernel, by decide +kernel, by decide +kernel⟩, hw_11, hw_1380⟩, hw_1378, hw_1379⟩
noncomputable def f_X9_best_J73 (x4_19 : Int32) (rc34 : (Nat → Int32) → (Nat → Int32) → (Nat → Int32) → Int32 → Int32 → Option (Int32 × Int32 × Int32 × Int32 × (Nat → Int32) × (Nat → Int32) × (Nat → Int32) × (Nat → Int32) × (Nat → Int32))) (a_27 : Nat → Int32) (a_28 : Nat → Int32) (a_29 : Nat → Int32) (x2_30 : Int32) : Option (Int32 × Int32 × Int32 × Int32 × (Nat → Int32) × (Nat → Int32) × (Nat → Int32) × (Nat → Int32) × (Nat → Int32)) := rc34 a_27 a_28 a_29 x2_30 (x4_19 + 1)
noncomputable def f_X9_best_L34 (m_book : Nat → Int32) (m_refused : Nat → Int32) (m_quiet : Int32) (m_oneYear : Int32) (m_second : Int32) (p1 : Int32) (h_10 : Int32) (h_11 : Int32) (h_12 : Int32) (a_16 : Nat → Int32) (x3_18 : Int32) (rc34 : (Nat → Int32) → (Nat → Int32) → (Nat → Int32) → Int32 → Int32 → Option (Int32 × Int32 × Int32 × Int32 × (Nat → Int32) × (Nat → Int32) × (Nat → Int32) × (Nat → Int32) × (Nat → Int32))) (a_13 : Nat → Int32) (a_14 : Nat → Int32) (a_15 : Nat → Int32) (x2_17 : Int32) (x4_19 : Int32) : Option (Int32 × Int32 × Int32 × Int32 × (Nat → Int32) × (Nat → Int32) × (Nat → Int32) × (Nat → Int32) × (Nat → Int32)) := if x3_18 ≤ x4_19 then (if x2_17 = ((-1)) then (Option.bind (f_X9_no m_refused m_quiet) (fun u22 => some ((u22.1, h_10, h_11, h_12, a_13, a_14, u22.2, a_15, a_16)))) else (some ((x2_17, h_10, h_11, h_12, a_13, a_14, m_refused, a_15, a_16)))) else (Option.bind (f_X9_weighs a_13 a_14 m_book a_15 a_16 h_10 h_11 m_oneYear h_12 m_second x4_19) (fun u24 => if u24.1 = 0 then (f_X9_best_J73 x4_19 rc34 u24.2.1 u24.2.2.1 u24.2.2.2 x2_17) else (Option.bind (f_X9_against u24.2.1 u24.2.2.1 5 10) (fun u31 => if u31 ≤ 0 then (f_X9_best_J73 x4_19 rc34 u24.2.1 u24.2.2.1 u24.2.2.2 x2_17) else (Option.bind (f_X9_takes u24.2.1 u24.2.2.1 10 5) (fun u34 => cx_gd (cx_ib p1 6) (f_X9_best_J73 x4_19 rc34 u34.1 u34.2 u24.2.2.2 (u24.2.2.2 (cx_ix p1)))))))))
noncomputable def f_X9_best_L34w (m_book : Nat → Int32) (m_refused : Nat → Int32) (m_quiet : Int32) (m_oneYear : Int32) (m_second : Int32) (p1 : Int32) (h_10 : Int32) (h_11 : Int32) (h_12 : Int32) (a_16 : Nat → Int32) (x3_18 : Int32) (n : Nat) : (Nat → Int32) → (Nat → Int32) → (Nat → Int32) → Int32 → Int32 → Option (Int32 × Int32 × Int32 × Int32 × (Nat → Int32) × (Nat → Int32) × (Nat → Int32) × (Nat → Int32) × (Nat → Int32)) := Nat.rec (fun _ _ _ _ _ => none) (fun _ r => f_X9_best_L34 m_book m_refused m_quiet m_oneYear m_second p1 h_10 h_11 h_12 a_16 x3_18 r) n
noncomputable def f_X9_best (m_limbs : Nat → Int32) (m_wide : Nat → Int32) (m_book : Nat → Int32) (m_refused : Nat → Int32) (m_quiet : Int32) (m_is : Nat → Int32) (m_likes : Nat → Int32) (m_without : Int32) (m_onePicture : Int32) (m_oneYear : Int32) (m_first : Int32) (m_second : Int32) (p1 : Int32) : Option (Int32 × Int32 × Int32 × Int32 × (Nat → Int32) × (Nat → Int32) × (Nat → Int32) × (Nat → Int32) × (Nat → Int32)) := Option.bind (f_X9_isHead m_book p1) (fun u1 => if u1 = 0 then (Option.bind (f_X9_bad m_refused m_quiet) (fun u37 => some ((u37.1, m_without, m_onePicture, m_first, m_limbs, m_wide, u37.2, m_is, m_likes)))) else (Option.bind (f_X9_begins m_book m_likes) (fun u4 => Option.bind (f_X9_sets m_limbs m_wide 10 0) (fun u6 => Option.bind (f_X9_ways m_book) (fun u8 => f_X9_best_L34w m_book m_refused m_quiet m_oneYear m_second p1 u4.1 u4.2.1 u4.2.2.1 u4.2.2.2 u8 cx_N0 u6.1 u6.2 m_is ((-1)) 0)))))
set_option maxHeartbeats 4000000 in
set_option maxRecDepth 100000 in
theorem c_X9_best (l : Launch) (D : va_G) (k : Nat → ClassId) (m_a : Nat → Nat) (m_limbs : Nat → Int32) (m_wide : Nat → Int32) (m_book : Nat → Int32) (m_images : Nat → Int32) (m_kept : Nat → Int32) (m_before : Nat → Int32) (m_refused : Nat → Int32) (m_quiet : Int32) (m_text : Nat → Int32) (m_typed : Int32) (m_at : Int32) (m_start : Int32) (m_token : Int32) (m_value : Int32) (m_items : Nat → Int32) (m_many : Int32) (m_is : Nat → Int32) (m_likes : Nat → Int32) (m_without : Int32) (m_onePicture : Int32) (m_oneYear : Int32) (m_first : Int32) (m_second : Int32) (m_names : Nat → Int32) (p1 : Int32) (y : Int32 × Int32 × Int32 × Int32 × (Nat → Int32) × (Nat → Int32) × (Nat → Int32) × (Nat → Int32) × (Nat → Int32)) (hf : f_X9_best m_limbs m_wide m_book m_refused m_quiet m_is m_likes m_without m_onePicture m_oneYear m_first m_second p1 = some y) : cx_M l yX9_best cX9_best 5 (some .int) 6 D k [.ref (m_a 0), .int p1] (wd_Model k m_a m_limbs m_wide m_book m_images m_kept m_before m_refused m_quiet m_text m_typed m_at m_start m_token m_value m_items m_many m_is m_likes m_without m_onePicture m_oneYear m_first m_second m_names) (fun sz => cx_Qi D y.1 (wd_Model k m_a m_limbs m_wide m_book m_images m_kept m_before m_refused m_quiet m_text m_typed m_at m_start m_token m_value m_items m_many m_is m_likes m_without m_onePicture m_oneYear m_first m_second m_names) (wd_Model k m_a y.2.2.2.2.1 y.2.2.2.2.2.1 m_book m_images m_kept m_before y.2.2.2.2.2.2.1 m_quiet m_text m_typed m_at m_start m_token m_value m_items m_many y.2.2.2.2.2.2.2.1 y.2.2.2.2.2.2.2.2 y.2.1 y.2.2.1 m_oneYear y.2.2.2.1 m_second m_names) sz) := by
  refine cx_met (own := "NamelessBoxModel") (by decide) rfl (Nat.le_of_ble_eq_true rfl) ?_
  intro p e s m args below meth c A Q C hA hQ hr hlk
  refine cx_lv (lv' := [(0, .ref (m_a 0)), (1, .int p1)]) [0, 1] rfl ?_
  have L34 : ∀ (h_10 : Int32) (h_11 : Int32) (h_12 : Int32) (a_16 : Nat → Int32) (x3_18 : Int32) (n34 : Nat) (a_13 : Nat → Int32) (a_14 : Nat → Int32) (a_15 : Nat → Int32) (x2_17 : Int32) (x4_19 : Int32), f_X9_best_L34w m_book m_refused m_quiet m_oneYear m_second p1 h_10 h_11 h_12 a_16 x3_18 n34 a_13 a_14 a_15 x2_17 x4_19 = some y → cx_S p l e (cx_rm 6) s m args below meth c A D 5 0 0 Q 34 [(0, .ref (m_a 0)), (1, .int p1), (2, .int x2_17), (3, .int x3_18), (4, .int x4_19)] [] (wd_Model k m_a a_13 a_14 m_book m_images m_kept m_before m_refused m_quiet m_text m_typed m_at m_start m_token m_value m_items m_many a_15 a_16 h_10 h_11 m_oneYear h_12 m_second m_names) := by
    intro h_10 h_11 h_12 a_16 x3_18 n34
    induction n34 with
    | zero =>
      intro a_13 a_14 a_15 x2_17 x4_19 hf
      exact absurd (show (none : Option (Int32 × Int32 × Int32 × Int32 × (Nat → Int32) × (Nat → Int32) × (Nat → Int32) × (Nat → Int32) × (Nat → Int32))) = some y from hf) (fun h => by cases h)
    | succ n34 ih34 =>
      intro a_13 a_14 a_15 x2_17 x4_19 hf
      have hf : f_X9_best_L34 m_book m_refused m_quiet m_oneYear m_second p1 h_10 h_11 h_12 a_16 x3_18 (f_X9_best_L34w m_book m_refused m_quiet m_oneYear m_second p1 h_10 h_11 h_12 a_16 x3_18 n34) a_13 a_14 a_15 x2_17 x4_19 = some y := hf
      have J73 : ∀ (a_27 : Nat → Int32) (a_28 : Nat → Int32) (a_29 : Nat → Int32) (x2_30 : Int32), f_X9_best_J73 x4_19 (f_X9_best_L34w m_book m_refused m_quiet m_oneYear m_second p1 h_10 h_11 h_12 a_16 x3_18 n34) a_27 a_28 a_29 x2_30 = some y → cx_S p l e (cx_rm 6) s m args below meth c A D 5 0 0 Q 73 [(0, .ref (m_a 0)), (1, .int p1), (2, .int x2_30), (3, .int x3_18), (4, .int x4_19)] [] (wd_Model k m_a a_27 a_28 m_book m_images m_kept m_before m_refused m_quiet m_text m_typed m_at m_start m_token m_value m_items m_many a_29 a_16 h_10 h_11 m_oneYear h_12 m_second m_names) := by
        intro a_27 a_28 a_29 x2_30 hf
        unfold f_X9_best_J73 at hf
        refine cx_iinc (v := x4_19 + 1) (lv' := [(4, .int (x4_19 + 1)), (0, .ref (m_a 0)), (1, .int p1), (2, .int x2_30), (3, .int x3_18)]) C dX9_best_73 4 rfl rfl (by decide) rfl ?_
        refine cx_goto (tgt := 34) C dX9_best_76 (by decide) ?_
        refine cx_lv [1, 2, 3, 4, 0] rfl ?_
        exact ih34 a_27 a_28 a_29 x2_30 (x4_19 + 1) hf
      unfold f_X9_best_L34 at hf
      refine cx_iload C dX9_best_34 4 rfl ?_
      refine cx_iload_n C dX9_best_36 3 rfl ?_
      refine cx_icmp_ge (tgt := 79) C dX9_best_37 (by decide) (fun c20 => ?_) (fun c20 => ?_)
      · have hf := cx_if_t hf c20
        clear c20
        refine cx_iload_n C dX9_best_79 2 rfl ?_
        refine cx_iconst (v := (-1)) C dX9_best_80 (by decide) ?_
        refine cx_icmp_ne (tgt := 91) C dX9_best_81 (by decide) (fun c21 => ?_) (fun c21 => ?_)
        · have hf := cx_if_f hf c21
          clear c21
          refine cx_iload_n C dX9_best_91 2 rfl ?_
          obtain rfl := Option.some.inj hf
          exact cx_iret C hA hQ hr hlk dX9_best_92 rfl rfl
        · have hf := cx_if_t hf c21
          clear c21
          refine cx_aload_n C dX9_best_84 0 rfl ?_
          obtain ⟨u22, e23, hf⟩ := cx_bd_at hf
          refine cx_Fvi (q := (RX9, TX9, 24)) (As := []) (rest := []) (w1 := (wd_Model k m_a a_13 a_14 m_book m_images m_kept m_before u22.2 m_quiet m_text m_typed m_at m_start m_token m_value m_items m_many a_15 a_16 h_10 h_11 m_oneYear h_12 m_second m_names)) hA C me_X9_no hw_1337 (c_X9_no l D k m_a a_13 a_14 m_book m_images m_kept m_before m_refused m_quiet m_text m_typed m_at m_start m_token m_value m_items m_many a_15 a_16 h_10 h_11 m_oneYear h_12 m_second m_names u22 e23) dX9_best_85 ⟨Nat.le_of_ble_eq_true rfl, Nat.le_of_ble_eq_true rfl⟩ ⟨Nat.zero_le _, Nat.zero_le _⟩ rfl rfl (Nat.le_of_ble_eq_true rfl) rfl rfl rfl ?_
          clear e23
          refine cx_goto (tgt := 92) C dX9_best_88 (by decide) ?_
          obtain rfl := Option.some.inj hf
          exact cx_iret C hA hQ hr hlk dX9_best_92 rfl rfl
      · have hf := cx_if_f hf c20
        clear c20
        refine cx_aload_n C dX9_best_40 0 rfl ?_
        refine cx_iload C dX9_best_41 4 rfl ?_
        obtain ⟨u24, e25, hf⟩ := cx_bd_at hf
        refine cx_Fvi (q := (RX9, TX9, 24)) (As := [.int x4_19]) (rest := []) (w1 := (wd_Model k m_a u24.2.1 u24.2.2.1 m_book m_images m_kept m_before m_refused m_quiet m_text m_typed m_at m_start m_token m_value m_items m_many u24.2.2.2 a_16 h_10 h_11 m_oneYear h_12 m_second m_names)) hA C me_X9_weighs hw_1296 (c_X9_weighs l D k m_a a_13 a_14 m_book m_images m_kept m_before m_refused m_quiet m_text m_typed m_at m_start m_token m_value m_items m_many a_15 a_16 h_10 h_11 m_oneYear h_12 m_second m_names x4_19 u24 e25) dX9_best_43 ⟨Nat.le_of_ble_eq_true rfl, Nat.le_of_ble_eq_true rfl⟩ ⟨Nat.zero_le _, Nat.zero_le _⟩ rfl rfl (Nat.le_of_ble_eq_true rfl) rfl rfl rfl ?_
        clear e25
        refine cx_if_eq (tgt := 73) C dX9_best_46 (by decide) (fun c26 => ?_) (fun c26 => ?_)
        · have hf := cx_if_t hf c26
          clear c26
          exact J73 u24.2.1 u24.2.2.1 u24.2.2.2 x2_17 hf
        · have hf := cx_if_f hf c26
          clear c26
          refine cx_aload_n C dX9_best_49 0 rfl ?_
          refine cx_iconst (v := 5) C dX9_best_50 (by decide) ?_
          refine cx_bipush (v := 10) C dX9_best_51 (by decide) ?_
          obtain ⟨u31, e32, hf⟩ := cx_bd_at hf
          refine cx_Fvi (q := (RX9, TX9, 24)) (As := [.int 5, .int 10]) (rest := []) (w1 := (wd_Model k m_a u24.2.1 u24.2.2.1 m_book m_images m_kept m_before m_refused m_quiet m_text m_typed m_at m_start m_token m_value m_items m_many u24.2.2.2 a_16 h_10 h_11 m_oneYear h_12 m_second m_names)) hA C me_X9_against hw_1357 (c_X9_against l D k m_a u24.2.1 u24.2.2.1 m_book m_images m_kept m_before m_refused m_quiet m_text m_typed m_at m_start m_token m_value m_items m_many u24.2.2.2 a_16 h_10 h_11 m_oneYear h_12 m_second m_names 5 10 u31 e32) dX9_best_53 ⟨Nat.le_of_ble_eq_true rfl, Nat.le_of_ble_eq_true rfl⟩ ⟨Nat.zero_le _, Nat.zero_le _⟩ rfl rfl (Nat.le_of_ble_eq_true rfl) rfl rfl rfl ?_
          clear e32
          refine cx_if_le (tgt := 73) C dX9_best_56 (by decide) (fun c33 => ?_) (fun c33 => ?_)
          · have hf := cx_if_t hf c33
            clear c33
            exact J73 u24.2.1 u24.2.2.1 u24.2.2.2 x2_17 hf
          · have hf := cx_if_f hf c33
            clear c33
            refine cx_aload_n C dX9_best_59 0 rfl ?_
            refine cx_bipush (v := 10) C dX9_best_60 (by decide) ?_
            refine cx_iconst (v := 5) C dX9_best_62 (by decide) ?_
            obtain ⟨u34, e35, hf⟩ := cx_bd_at hf
            refine cx_Fvv (q := (RX9, TX9, 24)) (As := [.int 10, .int 5]) (rest := []) (w1 := (wd_Model k m_a u34.1 u34.2 m_book m_images m_kept m_before m_refused m_quiet m_text m_typed m_at m_start m_token m_value m_items m_many u24.2.2.2 a_16 h_10 h_11 m_oneYear h_12 m_second m_names)) hA C me_X9_takes hw_1324 (c_X9_takes l D k m_a u24.2.1 u24.2.2.1 m_book m_images m_kept m_before m_refused m_quiet m_text m_typed m_at m_start m_token m_value m_items m_many u24.2.2.2 a_16 h_10 h_11 m_oneYear h_12 m_second m_names 10 5 u34 e35) dX9_best_63 ⟨Nat.le_of_ble_eq_true rfl, Nat.le_of_ble_eq_true rfl⟩ ⟨Nat.zero_le _, Nat.zero_le _⟩ rfl rfl (Nat.le_of_ble_eq_true rfl) rfl rfl rfl ?_
            clear e35
            refine cx_aload_n C dX9_best_66 0 rfl ?_
            refine cx_get (v := .ref (m_a 10)) (ci := 8) C iX9 dX9_best_67 0 rfl rfl 16 (by decide) hw_1070 rfl ?_
            refine cx_iload_n C dX9_best_70 1 rfl ?_
            obtain ⟨g36, hf⟩ := cx_gd_at hf
            refine cx_iald C dX9_best_71 10 rfl (cx_ib_in g36) ?_
            clear g36
            refine cx_istore_n (lv' := [(2, .int (u24.2.2.2 (cx_ix p1))), (0, .ref (m_a 0)), (1, .int p1), (3, .int x3_18), (4, .int x4_19)]) C dX9_best_72 rfl (by decide) rfl ?_
            refine cx_lv [1, 2, 0, 3, 4] rfl ?_
            exact J73 u34.1 u34.2 u24.2.2.2 (u24.2.2.2 (cx_ix p1)) hf
  unfold f_X9_best at hf
  refine cx_aload_n C dX9_best_0 0 rfl ?_
  refine cx_iload_n C dX9_best_1 1 rfl ?_
  obtain ⟨u1, e2, hf⟩ := cx_bd_at hf
  refine cx_Fvi (q := (RX9, TX9, 24)) (As := [.int p1]) (rest := []) (w1 := (wd_Model k m_a m_limbs m_wide m_book m_images m_kept m_before m_refused m_quiet m_text m_typed m_at m_start m_token m_value m_items m_many m_is m_likes m_without m_onePicture m_oneYear m_first m_second m_names)) hA C me_X9_isHead hw_1183 (c_X9_isHead l D k m_a m_limbs m_wide m_book m_images m_kept m_before m_refused m_quiet m_text m_typed m_at m_start m_token m_value m_items m_many m_is m_likes m_without m_onePicture m_oneYear m_first m_second m_names p1 u1 e2) dX9_best_2 ⟨Nat.le_of_ble_eq_true rfl, Nat.le_of_ble_eq_true rfl⟩ ⟨Nat.zero_le _, Nat.zero_le _⟩ rfl rfl (Nat.le_of_ble_eq_true rfl) rfl rfl rfl ?_
  clear e2
  refine cx_if_ne (tgt := 13) C dX9_best_5 (by decide) (fun c3 => ?_) (fun c3 => ?_)
  · have hf := cx_if_f hf c3
    clear c3
    refine cx_aload_n C dX9_best_13 0 rfl ?_
    obtain ⟨u4, e5, hf⟩ := cx_bd_at hf
    refine cx_Fvv (q := (RX9, TX9, 24)) (As := []) (rest := []) (w1 := (wd_Model k m_a m_limbs m_wide m_book m_images m_kept m_before m_refused m_quiet m_text m_typed m_at m_start m_token m_value m_items m_many m_is u4.2.2.2 u4.1 u4.2.1 m_oneYear u4.2.2.1 m_second m_names)) hA C me_X9_begins hw_1284 (c_X9_begins l D k m_a m_limbs m_wide m_book m_images m_kept m_before m_refused m_quiet m_text m_typed m_at m_start m_token m_value m_items m_many m_is m_likes m_without m_onePicture m_oneYear m_first m_second m_names u4 e5) dX9_best_14 ⟨Nat.le_of_ble_eq_true rfl, Nat.le_of_ble_eq_true rfl⟩ ⟨Nat.zero_le _, Nat.zero_le _⟩ rfl rfl (Nat.le_of_ble_eq_true rfl) rfl rfl rfl ?_
    clear e5
    refine cx_aload_n C dX9_best_17 0 rfl ?_
    refine cx_bipush (v := 10) C dX9_best_18 (by decide) ?_
    refine cx_lconst (v := 0) C dX9_best_20 (by decide) ?_
    obtain ⟨u6, e7, hf⟩ := cx_bd_at hf
    refine cx_Fvv (q := (RX9, TX9, 24)) (As := [.int 10, .long 0]) (rest := []) (w1 := (wd_Model k m_a u6.1 u6.2 m_book m_images m_kept m_before m_refused m_quiet m_text m_typed m_at m_start m_token m_value m_items m_many m_is u4.2.2.2 u4.1 u4.2.1 m_oneYear u4.2.2.1 m_second m_names)) hA C me_X9_sets hw_1045 (c_X9_sets l D k m_a m_limbs m_wide m_book m_images m_kept m_before m_refused m_quiet m_text m_typed m_at m_start m_token m_value m_items m_many m_is u4.2.2.2 u4.1 u4.2.1 m_oneYear u4.2.2.1 m_second m_names 10 0 u6 e7) dX9_best_21 ⟨Nat.le_of_ble_eq_true rfl, Nat.le_of_ble_eq_true rfl⟩ ⟨Nat.zero_le _, Nat.zero_le _⟩ rfl rfl (Nat.le_of_ble_eq_true rfl) rfl rfl rfl ?_
    clear e7
    refine cx_iconst (v := (-1)) C dX9_best_24 (by decide) ?_
    refine cx_istore_n (lv' := [(2, .int ((-1))), (0, .ref (m_a 0)), (1, .int p1)]) C dX9_best_25 rfl (by decide) rfl ?_
    refine cx_aload_n C dX9_best_26 1 rfl ?_
    obtain ⟨u8, e9, hf⟩ := cx_bd_at hf
    refine cx_Fvi (q := (RX9, TX9, 24)) (As := []) (rest := []) (w1 := (wd_Model k m_a u6.1 u6.2 m_book m_images m_kept m_before m_refused m_quiet m_text m_typed m_at m_start m_token m_value m_items m_many m_is u4.2.2.2 u4.1 u4.2.1 m_oneYear u4.2.2.1 m_second m_names)) hA C me_X9_ways hw_1292 (c_X9_ways l D k m_a u6.1 u6.2 m_book m_images m_kept m_before m_refused m_quiet m_text m_typed m_at m_start m_token m_value m_items m_many m_is u4.2.2.2 u4.1 u4.2.1 m_oneYear u4.2.2.1 m_second m_names u8 e9) dX9_best_27 ⟨Nat.le_of_ble_eq_true rfl, Nat.le_of_ble_eq_true rfl⟩ ⟨Nat.zero_le _, Nat.zero_le _⟩ rfl rfl (Nat.le_of_ble_eq_true rfl) rfl rfl rfl ?_
    clear e9
    refine cx_istore_n (lv' := [(3, .int u8), (2, .int ((-1))), (0, .ref (m_a 0)), (1, .int p1)]) C dX9_best_30 rfl (by decide) rfl ?_
    refine cx_iconst (v := 0) C dX9_best_31 (by decide) ?_
    refine cx_istore (lv' := [(4, .int 0), (3, .int u8), (2, .int ((-1))), (0, .ref (m_a 0)), (1, .int p1)]) C dX9_best_32 (by decide) rfl ?_
    refine cx_lv [3, 4, 2, 1, 0] rfl ?_
    exact L34 u4.1 u4.2.1 u4.2.2.1 u4.2.2.2 u8 cx_N0 u6.1 u6.2 m_is ((-1)) 0 hf
  · have hf := cx_if_t hf c3
    clear c3
    refine cx_aload_n C dX9_best_8 0 rfl ?_
    obtain ⟨u37, e38, hf⟩ := cx_bd_at hf
    refine cx_Fvi (q := (RX9, TX9, 24)) (As := []) (rest := []) (w1 := (wd_Model k m_a m_limbs m_wide m_book m_images m_kept m_before u37.2 m_quiet m_text m_typed m_at m_start m_token m_value m_items m_many m_is m_likes m_without m_onePicture m_oneYear m_first m_second m_names)) hA C me_X9_bad hw_1137 (c_X9_bad l D k m_a m_limbs m_wide m_book m_images m_kept m_before m_refused m_quiet m_text m_typed m_at m_start m_token m_value m_items m_many m_is m_likes m_without m_onePicture m_oneYear m_first m_second m_names u37 e38) dX9_best_9 ⟨Nat.le_of_ble_eq_true rfl, Nat.le_of_ble_eq_true rfl⟩ ⟨Nat.zero_le _, Nat.zero_le _⟩ rfl rfl (Nat.le_of_ble_eq_true rfl) rfl rfl rfl ?_
    clear e38
    obtain rfl := Option.some.inj hf
    exact cx_iret C hA hQ hr hlk dX9_best_12 rfl rfl
theorem dX9_all_0 : decode cX9_all 0 = .ok (.aload_n 0, 1) := by decide +kernel
theorem dX9_all_1 : decode cX9_all 1 = .ok (.invokevirtual 284, 3) := by decide +kernel
theorem dX9_all_4 : decode cX9_all 4 = .ok (.aload_n 0, 1) := by decide +kernel
theorem dX9_all_5 : decode cX9_all 5 = .ok (.iconst 0, 1) := by decide +kernel
theorem dX9_all_6 : decode cX9_all 6 = .ok (.iconst 0, 1) := by decide +kernel
theorem dX9_all_7 : decode cX9_all 7 = .ok (.iconst 0, 1) := by decide +kernel
theorem dX9_all_8 : decode cX9_all 8 = .ok (.invokevirtual 299, 3) := by decide +kernel
theorem dX9_all_11 : decode cX9_all 11 = .ok (.aload_n 0, 1) := by decide +kernel
theorem dX9_all_12 : decode cX9_all 12 = .ok (.getfield 3, 3) := by decide +kernel
theorem dX9_all_15 : decode cX9_all 15 = .ok (.bipush 6, 2) := by decide +kernel
theorem dX9_all_17 : decode cX9_all 17 = .ok (.iaload, 1) := by decide +kernel
theorem dX9_all_18 : decode cX9_all 18 = .ok (.ifCond .ne 8, 3) := by decide +kernel
theorem dX9_all_21 : decode cX9_all 21 = .ok (.aload_n 0, 1) := by decide +kernel
theorem dX9_all_22 : decode cX9_all 22 = .ok (.invokevirtual 290, 3) := by decide +kernel
theorem dX9_all_25 : decode cX9_all 25 = .ok (.ireturn, 1) := by decide +kernel
theorem dX9_all_26 : decode cX9_all 26 = .ok (.aload_n 0, 1) := by decide +kernel
theorem dX9_all_27 : decode cX9_all 27 = .ok (.bipush 7, 2) := by decide +kernel
theorem dX9_all_29 : decode cX9_all 29 = .ok (.bipush 6, 2) := by decide +kernel
theorem dX9_all_31 : decode cX9_all 31 = .ok (.invokevirtual 20, 3) := by decide +kernel
theorem dX9_all_34 : decode cX9_all 34 = .ok (.aload_n 0, 1) := by decide +kernel
theorem dX9_all_35 : decode cX9_all 35 = .ok (.bipush 6, 2) := by decide +kernel
theorem dX9_all_37 : decode cX9_all 37 = .ok (.lconst 1, 1) := by decide +kernel
theorem dX9_all_38 : decode cX9_all 38 = .ok (.invokevirtual 16, 3) := by decide +kernel
theorem dX9_all_41 : decode cX9_all 41 = .ok (.aload_n 0, 1) := by decide +kernel
theorem dX9_all_42 : decode cX9_all 42 = .ok (.invokevirtual 293, 3) := by decide +kernel
theorem dX9_all_45 : decode cX9_all 45 = .ok (.ireturn, 1) := by decide +kernel
theorem me_X9_all : cx_Mv yX9_all cX9_all 1 (some .int) 0 := ⟨⟨⟨by decide +kernel, by decide +kernel, by decide +kernel⟩, hw_11, hw_1384⟩, hw_1382, hw_1383⟩
noncomputable def f_X9_all (m_limbs : Nat → Int32) (m_wide : Nat → Int32) (m_book : Nat → Int32) (m_refused : Nat → Int32) (m_quiet : Int32) (m_is : Nat → Int32) (m_likes : Nat → Int32) (m_oneYear : Int32) (m_second : Int32) : Option (Int32 × Int32 × Int32 × Int32 × (Nat → Int32) × (Nat → Int32) × (Nat → Int32) × (Nat → Int32) × (Nat → Int32)) := Option.bind (f_X9_begins m_book m_likes) (fun u1 => Option.bind (f_X9_sums m_limbs m_wide m_book m_is u1.2.2.2 u1.1 u1.2.1 m_oneYear u1.2.2.1 m_second 0 0 0) (fun u3 => cx_gd (cx_ib 6 270) (if (u3.2.1 (cx_ix 6)) = 0 then (Option.bind (f_X9_no m_refused m_quiet) (fun u13 => some ((u13.1, u1.1, u1.2.1, u1.2.2.1, u3.1, u3.2.1, u13.2, u3.2.2, u1.2.2.2)))) else (Option.bind (f_X9_takes u3.1 u3.2.1 7 6) (fun u7 => Option.bind (f_X9_sets u7.1 u7.2 6 1) (fun u9 => Option.bind (f_X9_tellsHit u9.1 u9.2) (fun u11 => some ((u11.1, u1.1, u1.2.1, u1.2.2.1, u11.2.1, u11.2.2, m_refused, u3.2.2, u1.2.2.2)))))))))
set_option maxHeartbeats 4000000 in
set_option maxRecDepth 100000 in
theorem c_X9_all (l : Launch) (D : va_G) (k : Nat → ClassId) (m_a : Nat → Nat) (m_limbs : Nat → Int32) (m_wide : Nat → Int32) (m_book : Nat → Int32) (m_images : Nat → Int32) (m_kept : Nat → Int32) (m_before : Nat → Int32) (m_refused : Nat → Int32) (m_quiet : Int32) (m_text : Nat → Int32) (m_typed : Int32) (m_at : Int32) (m_start : Int32) (m_token : Int32) (m_value : Int32) (m_items : Nat → Int32) (m_many : Int32) (m_is : Nat → Int32) (m_likes : Nat → Int32) (m_without : Int32) (m_onePicture : Int32) (m_oneYear : Int32) (m_first : Int32) (m_second : Int32) (m_names : Nat → Int32) (y : Int32 × Int32 × Int32 × Int32 × (Nat → Int32) × (Nat → Int32) × (Nat → Int32) × (Nat → Int32) × (Nat → Int32)) (hf : f_X9_all m_limbs m_wide m_book m_refused m_quiet m_is m_likes m_oneYear m_second = some y) : cx_M l yX9_all cX9_all 1 (some .int) 7 D k [.ref (m_a 0)] (wd_Model k m_a m_limbs m_wide m_book m_images m_kept m_before m_refused m_quiet m_text m_typed m_at m_start m_token m_value m_items m_many m_is m_likes m_without m_onePicture m_oneYear m_first m_second m_names) (fun sz => cx_Qi D y.1 (wd_Model k m_a m_limbs m_wide m_book m_images m_kept m_before m_refused m_quiet m_text m_typed m_at m_start m_token m_value m_items m_many m_is m_likes m_without m_onePicture m_oneYear m_first m_second m_names) (wd_Model k m_a y.2.2.2.2.1 y.2.2.2.2.2.1 m_book m_images m_kept m_before y.2.2.2.2.2.2.1 m_quiet m_text m_typed m_at m_start m_token m_value m_items m_many y.2.2.2.2.2.2.2.1 y.2.2.2.2.2.2.2.2 y.2.1 y.2.2.1 m_oneYear y.2.2.2.1 m_second m_names) sz) := by
  refine cx_met (own := "NamelessBoxModel") (by decide) rfl (Nat.le_of_ble_eq_true rfl) ?_
  intro p e s m args below meth c A Q C hA hQ hr hlk
  refine cx_lv (lv' := [(0, .ref (m_a 0))]) [0] rfl ?_
  unfold f_X9_all at hf
  refine cx_aload_n C dX9_all_0 0 rfl ?_
  obtain ⟨u1, e2, hf⟩ := cx_bd_at hf
  refine cx_Fvv (q := (RX9, TX9, 24)) (As := []) (rest := []) (w1 := (wd_Model k m_a m_limbs m_wide m_book m_images m_kept m_before m_refused m_quiet m_text m_typed m_at m_start m_token m_value m_items m_many m_is u1.2.2.2 u1.1 u1.2.1 m_oneYear u1.2.2.1 m_second m_names)) hA C me_X9_begins hw_1284 (c_X9_begins l D k m_a m_limbs m_wide m_book m_images m_kept m_before m_refused m_quiet m_text m_typed m_at m_start m_token m_value m_items m_many m_is m_likes m_without m_onePicture m_oneYear m_first m_second m_names u1 e2) dX9_all_1 ⟨Nat.le_of_ble_eq_true rfl, Nat.le_of_ble_eq_true rfl⟩ ⟨Nat.zero_le _, Nat.zero_le _⟩ rfl rfl (Nat.le_of_ble_eq_true rfl) rfl rfl rfl ?_
  clear e2
  refine cx_aload_n C dX9_all_4 0 rfl ?_
  refine cx_iconst (v := 0) C dX9_all_5 (by decide) ?_
  refine cx_iconst (v := 0) C dX9_all_6 (by decide) ?_
  refine cx_iconst (v := 0) C dX9_all_7 (by decide) ?_
  obtain ⟨u3, e4, hf⟩ := cx_bd_at hf
  refine cx_Fvv (q := (RX9, TX9, 24)) (As := [.int 0, .int 0, .int 0]) (rest := []) (w1 := (wd_Model k m_a u3.1 u3.2.1 m_book m_images m_kept m_before m_refused m_quiet m_text m_typed m_at m_start m_token m_value m_items m_many u3.2.2 u1.2.2.2 u1.1 u1.2.1 m_oneYear u1.2.2.1 m_second m_names)) hA C me_X9_sums hw_1385 (c_X9_sums l D k m_a m_limbs m_wide m_book m_images m_kept m_before m_refused m_quiet m_text m_typed m_at m_start m_token m_value m_items m_many m_is u1.2.2.2 u1.1 u1.2.1 m_oneYear u1.2.2.1 m_second m_names 0 0 0 u3 e4) dX9_all_8 ⟨Nat.le_of_ble_eq_true rfl, Nat.le_of_ble_eq_true rfl⟩ ⟨Nat.zero_le _, Nat.zero_le _⟩ rfl rfl (Nat.le_of_ble_eq_true rfl) rfl rfl rfl ?_
  clear e4
  refine cx_aload_n C dX9_all_11 0 rfl ?_
  refine cx_get (v := .ref (m_a 2)) (ci := 8) C iX9 dX9_all_12 0 rfl rfl 1 (by decide) hw_1055 rfl ?_
  refine cx_bipush (v := 6) C dX9_all_15 (by decide) ?_
  obtain ⟨g5, hf⟩ := cx_gd_at hf
  refine cx_iald C dX9_all_17 2 rfl (cx_ib_in g5) ?_
  clear g5
  refine cx_if_ne (tgt := 26) C dX9_all_18 (by decide) (fun c6 => ?_) (fun c6 => ?_)
  · have hf := cx_if_f hf c6
    clear c6
    refine cx_aload_n C dX9_all_26 0 rfl ?_
    refine cx_bipush (v := 7) C dX9_all_27 (by decide) ?_
    refine cx_bipush (v := 6) C dX9_all_29 (by decide) ?_
    obtain ⟨u7, e8, hf⟩ := cx_bd_at hf
    refine cx_Fvv (q := (RX9, TX9, 24)) (As := [.int 7, .int 6]) (rest := []) (w1 := (wd_Model k m_a u7.1 u7.2 m_book m_images m_kept m_before m_refused m_quiet m_text m_typed m_at m_start m_token m_value m_items m_many u3.2.2 u1.2.2.2 u1.1 u1.2.1 m_oneYear u1.2.2.1 m_second m_names)) hA C me_X9_takes hw_1324 (c_X9_takes l D k m_a u3.1 u3.2.1 m_book m_images m_kept m_before m_refused m_quiet m_text m_typed m_at m_start m_token m_value m_items m_many u3.2.2 u1.2.2.2 u1.1 u1.2.1 m_oneYear u1.2.2.1 m_second m_names 7 6 u7 e8) dX9_all_31 ⟨Nat.le_of_ble_eq_true rfl, Nat.le_of_ble_eq_true rfl⟩ ⟨Nat.zero_le _, Nat.zero_le _⟩ rfl rfl (Nat.le_of_ble_eq_true rfl) rfl rfl rfl ?_
    clear e8
    refine cx_aload_n C dX9_all_34 0 rfl ?_
    refine cx_bipush (v := 6) C dX9_all_35 (by decide) ?_
    refine cx_lconst (v := 1) C dX9_all_37 (by decide) ?_
    obtain ⟨u9, e10, hf⟩ := cx_bd_at hf
    refine cx_Fvv (q := (RX9, TX9, 24)) (As := [.int 6, .long 1]) (rest := []) (w1 := (wd_Model k m_a u9.1 u9.2 m_book m_images m_kept m_before m_refused m_quiet m_text m_typed m_at m_start m_token m_value m_items m_many u3.2.2 u1.2.2.2 u1.1 u1.2.1 m_oneYear u1.2.2.1 m_second m_names)) hA C me_X9_sets hw_1045 (c_X9_sets l D k m_a u7.1 u7.2 m_book m_images m_kept m_before m_refused m_quiet m_text m_typed m_at m_start m_token m_value m_items m_many u3.2.2 u1.2.2.2 u1.1 u1.2.1 m_oneYear u1.2.2.1 m_second m_names 6 1 u9 e10) dX9_all_38 ⟨Nat.le_of_ble_eq_true rfl, Nat.le_of_ble_eq_true rfl⟩ ⟨Nat.zero_le _, Nat.zero_le _⟩ rfl rfl (Nat.le_of_ble_eq_true rfl) rfl rfl rfl ?_
    clear e10
    refine cx_aload_n C dX9_all_41 0 rfl ?_
    obtain ⟨u11, e12, hf⟩ := cx_bd_at hf
    refine cx_Fvi (q := (RX9, TX9, 24)) (As := []) (rest := []) (w1 := (wd_Model k m_a u11.2.1 u11.2.2 m_book m_images m_kept m_before m_refused m_quiet m_text m_typed m_at m_start m_token m_value m_items m_many u3.2.2 u1.2.2.2 u1.1 u1.2.1 m_oneYear u1.2.2.1 m_second m_names)) hA C me_X9_tellsHit hw_1341 (c_X9_tellsHit l D k m_a u9.1 u9.2 m_book m_images m_kept m_before m_refused m_quiet m_text m_typed m_at m_start m_token m_value m_items m_many u3.2.2 u1.2.2.2 u1.1 u1.2.1 m_oneYear u1.2.2.1 m_second m_names u11 e12) dX9_all_42 ⟨Nat.le_of_ble_eq_true rfl, Nat.le_of_ble_eq_true rfl⟩ ⟨Nat.zero_le _, Nat.zero_le _⟩ rfl rfl (Nat.le_of_ble_eq_true rfl) rfl rfl rfl ?_
    clear e12
    obtain rfl := Option.some.inj hf
    exact cx_iret C hA hQ hr hlk dX9_all_45 rfl rfl
  · have hf := cx_if_t hf c6
    clear c6
    refine cx_aload_n C dX9_all_21 0 rfl ?_
    obtain ⟨u13, e14, hf⟩ := cx_bd_at hf
    refine cx_Fvi (q := (RX9, TX9, 24)) (As := []) (rest := []) (w1 := (wd_Model k m_a u3.1 u3.2.1 m_book m_images m_kept m_before u13.2 m_quiet m_text m_typed m_at m_start m_token m_value m_items m_many u3.2.2 u1.2.2.2 u1.1 u1.2.1 m_oneYear u1.2.2.1 m_second m_names)) hA C me_X9_no hw_1337 (c_X9_no l D k m_a u3.1 u3.2.1 m_book m_images m_kept m_before m_refused m_quiet m_text m_typed m_at m_start m_token m_value m_items m_many u3.2.2 u1.2.2.2 u1.1 u1.2.1 m_oneYear u1.2.2.1 m_second m_names u13 e14) dX9_all_22 ⟨Nat.le_of_ble_eq_true rfl, Nat.le_of_ble_eq_true rfl⟩ ⟨Nat.zero_le _, Nat.zero_le _⟩ rfl rfl (Nat.le_of_ble_eq_true rfl) rfl rfl rfl ?_
    clear e14
    obtain rfl := Option.some.inj hf
    exact cx_iret C hA hQ hr hlk dX9_all_25 rfl rfl
theorem dX9_isSure_0 : decode cX9_isSure 0 = .ok (.aload_n 0, 1) := by decide +kernel
theorem dX9_isSure_1 : decode cX9_isSure 1 = .ok (.bipush 8, 2) := by decide +kernel
theorem dX9_isSure_3 : decode cX9_isSure 3 = .ok (.bipush 12, 2) := by decide +kernel
theorem dX9_isSure_5 : decode cX9_isSure 5 = .ok (.bipush 6, 2) := by decide +kernel
theorem dX9_isSure_7 : decode cX9_isSure 7 = .ok (.iload_n 1, 1) := by decide +kernel
theorem dX9_isSure_8 : decode cX9_isSure 8 = .ok (.imul, 1) := by decide +kernel
theorem dX9_isSure_9 : decode cX9_isSure 9 = .ok (.iadd, 1) := by decide +kernel
theorem dX9_isSure_10 : decode cX9_isSure 10 = .ok (.aload_n 0, 1) := by decide +kernel
theorem dX9_isSure_11 : decode cX9_isSure 11 = .ok (.iload_n 1, 1) := by decide +kernel
theorem dX9_isSure_12 : decode cX9_isSure 12 = .ok (.invokevirtual 296, 3) := by decide +kernel
theorem dX9_isSure_15 : decode cX9_isSure 15 = .ok (.iadd, 1) := by decide +kernel
theorem dX9_isSure_16 : decode cX9_isSure 16 = .ok (.invokevirtual 20, 3) := by decide +kernel
theorem dX9_isSure_19 : decode cX9_isSure 19 = .ok (.aload_n 0, 1) := by decide +kernel
theorem dX9_isSure_20 : decode cX9_isSure 20 = .ok (.bipush 8, 2) := by decide +kernel
theorem dX9_isSure_22 : decode cX9_isSure 22 = .ok (.bipush 100, 2) := by decide +kernel
theorem dX9_isSure_24 : decode cX9_isSure 24 = .ok (.invokevirtual 266, 3) := by decide +kernel
theorem dX9_isSure_27 : decode cX9_isSure 27 = .ok (.aload_n 0, 1) := by decide +kernel
theorem dX9_isSure_28 : decode cX9_isSure 28 = .ok (.bipush 9, 2) := by decide +kernel
theorem dX9_isSure_30 : decode cX9_isSure 30 = .ok (.bipush 6, 2) := by decide +kernel
theorem dX9_isSure_32 : decode cX9_isSure 32 = .ok (.invokevirtual 20, 3) := by decide +kernel
theorem dX9_isSure_35 : decode cX9_isSure 35 = .ok (.aload_n 0, 1) := by decide +kernel
theorem dX9_isSure_36 : decode cX9_isSure 36 = .ok (.bipush 9, 2) := by decide +kernel
theorem dX9_isSure_38 : decode cX9_isSure 38 = .ok (.iload_n 2, 1) := by decide +kernel
theorem dX9_isSure_39 : decode cX9_isSure 39 = .ok (.invokevirtual 266, 3) := by decide +kernel
theorem dX9_isSure_42 : decode cX9_isSure 42 = .ok (.aload_n 0, 1) := by decide +kernel
theorem dX9_isSure_43 : decode cX9_isSure 43 = .ok (.bipush 8, 2) := by decide +kernel
theorem dX9_isSure_45 : decode cX9_isSure 45 = .ok (.bipush 9, 2) := by decide +kernel
theorem dX9_isSure_47 : decode cX9_isSure 47 = .ok (.invokevirtual 32, 3) := by decide +kernel
theorem dX9_isSure_50 : decode cX9_isSure 50 = .ok (.ifCond .lt 7, 3) := by decide +kernel
theorem dX9_isSure_53 : decode cX9_isSure 53 = .ok (.iconst 1, 1) := by decide +kernel
theorem dX9_isSure_54 : decode cX9_isSure 54 = .ok (.goto 4, 3) := by decide +kernel
theorem dX9_isSure_57 : decode cX9_isSure 57 = .ok (.iconst 0, 1) := by decide +kernel
theorem dX9_isSure_58 : decode cX9_isSure 58 = .ok (.ireturn, 1) := by decide +kernel
theorem me_X9_isSure : cx_Mv yX9_isSure cX9_isSure 3 (some .boolean) 2 := ⟨⟨⟨by decide +kernel, by decide +kernel, by decide +kernel⟩, hw_11, hw_1404⟩, hw_1403, hs_79⟩
noncomputable def f_X9_isSure (m_limbs : Nat → Int32) (m_wide : Nat → Int32) (m_book : Nat → Int32) (p1 : Int32) (p2 : Int32) : Option (Int32 × (Nat → Int32) × (Nat → Int32)) := Option.bind (f_X9_namedNow m_limbs m_wide m_book p1) (fun u1 => Option.bind (f_X9_takes m_limbs m_wide 8 ((12 + (6 * p1)) + u1)) (fun u3 => Option.bind (f_X9_times u3.1 u3.2 8 100) (fun u5 => Option.bind (f_X9_takes u5.1 u5.2 9 6) (fun u7 => Option.bind (f_X9_times u7.1 u7.2 9 p2) (fun u9 => Option.bind (f_X9_against u9.1 u9.2 8 9) (fun u11 => if u11 < 0 then (some ((0, u9.1, u9.2))) else (some ((1, u9.1, u9.2)))))))))
set_option maxHeartbeats 4000000 in
set_option maxRecDepth 100000 in
theorem c_X9_isSure (l : Launch) (D : va_G) (k : Nat → ClassId) (m_a : Nat → Nat) (m_limbs : Nat → Int32) (m_wide : Nat → Int32) (m_book : Nat → Int32) (m_images : Nat → Int32) (m_kept : Nat → Int32) (m_before : Nat → Int32) (m_refused : Nat → Int32) (m_quiet : Int32) (m_text : Nat → Int32) (m_typed : Int32) (m_at : Int32) (m_start : Int32) (m_token : Int32) (m_value : Int32) (m_items : Nat → Int32) (m_many : Int32) (m_is : Nat → Int32) (m_likes : Nat → Int32) (m_without : Int32) (m_onePicture : Int32) (m_oneYear : Int32) (m_first : Int32) (m_second : Int32) (m_names : Nat → Int32) (p1 : Int32) (p2 : Int32) (y : Int32 × (Nat → Int32) × (Nat → Int32)) (hf : f_X9_isSure m_limbs m_wide m_book p1 p2 = some y) : cx_M l yX9_isSure cX9_isSure 3 (some .boolean) 3 D k [.ref (m_a 0), .int p1, .int p2] (wd_Model k m_a m_limbs m_wide m_book m_images m_kept m_before m_refused m_quiet m_text m_typed m_at m_start m_token m_value m_items m_many m_is m_likes m_without m_onePicture m_oneYear m_first m_second m_names) (fun sz => cx_Qi D y.1 (wd_Model k m_a m_limbs m_wide m_book m_images m_kept m_before m_refused m_quiet m_text m_typed m_at m_start m_token m_value m_items m_many m_is m_likes m_without m_onePicture m_oneYear m_first m_second m_names) (wd_Model k m_a y.2.1 y.2.2 m_book m_images m_kept m_before m_refused m_quiet m_text m_typed m_at m_start m_token m_value m_items m_many m_is m_likes m_without m_onePicture m_oneYear m_first m_second m_names) sz) := by
  refine cx_met (own := "NamelessBoxModel") (by decide) rfl (Nat.le_of_ble_eq_true rfl) ?_
  intro p e s m args below meth c A Q C hA hQ hr hlk
  refine cx_lv (lv' := [(0, .ref (m_a 0)), (1, .int p1), (2, .int p2)]) [0, 1, 2] rfl ?_
  unfold f_X9_isSure at hf
  refine cx_aload_n C dX9_isSure_0 0 rfl ?_
  refine cx_bipush (v := 8) C dX9_isSure_1 (by decide) ?_
  refine cx_bipush (v := 12) C dX9_isSure_3 (by decide) ?_
  refine cx_bipush (v := 6) C dX9_isSure_5 (by decide) ?_
  refine cx_iload_n C dX9_isSure_7 1 rfl ?_
  refine cx_imul C dX9_isSure_8 ?_
  refine cx_iadd C dX9_isSure_9 ?_
  refine cx_aload_n C dX9_isSure_10 0 rfl ?_
  refine cx_iload_n C dX9_isSure_11 1 rfl ?_
  obtain ⟨u1, e2, hf⟩ := cx_bd_at hf
  refine cx_Fvi (q := (RX9, TX9, 24)) (As := [.int p1]) (rest := [.int (12 + (6 * p1)), .int 8, .ref (m_a 0)]) (w1 := (wd_Model k m_a m_limbs m_wide m_book m_images m_kept m_before m_refused m_quiet m_text m_typed m_at m_start m_token m_value m_items m_many m_is m_likes m_without m_onePicture m_oneYear m_first m_second m_names)) hA C me_X9_namedNow hw_1373 (c_X9_namedNow l D k m_a m_limbs m_wide m_book m_images m_kept m_before m_refused m_quiet m_text m_typed m_at m_start m_token m_value m_items m_many m_is m_likes m_without m_onePicture m_oneYear m_first m_second m_names p1 u1 e2) dX9_isSure_12 ⟨Nat.le_of_ble_eq_true rfl, Nat.le_of_ble_eq_true rfl⟩ ⟨Nat.zero_le _, Nat.zero_le _⟩ rfl rfl (Nat.le_of_ble_eq_true rfl) rfl rfl rfl ?_
  clear e2
  refine cx_iadd C dX9_isSure_15 ?_
  obtain ⟨u3, e4, hf⟩ := cx_bd_at hf
  refine cx_Fvv (q := (RX9, TX9, 24)) (As := [.int 8, .int ((12 + (6 * p1)) + u1)]) (rest := []) (w1 := (wd_Model k m_a u3.1 u3.2 m_book m_images m_kept m_before m_refused m_quiet m_text m_typed m_at m_start m_token m_value m_items m_many m_is m_likes m_without m_onePicture m_oneYear m_first m_second m_names)) hA C me_X9_takes hw_1324 (c_X9_takes l D k m_a m_limbs m_wide m_book m_images m_kept m_before m_refused m_quiet m_text m_typed m_at m_start m_token m_value m_items m_many m_is m_likes m_without m_onePicture m_oneYear m_first m_second m_names 8 ((12 + (6 * p1)) + u1) u3 e4) dX9_isSure_16 ⟨Nat.le_of_ble_eq_true rfl, Nat.le_of_ble_eq_true rfl⟩ ⟨Nat.zero_le _, Nat.zero_le _⟩ rfl rfl (Nat.le_of_ble_eq_true rfl) rfl rfl rfl ?_
  clear e4
  refine cx_aload_n C dX9_isSure_19 0 rfl ?_
  refine cx_bipush (v := 8) C dX9_isSure_20 (by decide) ?_
  refine cx_bipush (v := 100) C dX9_isSure_22 (by decide) ?_
  obtain ⟨u5, e6, hf⟩ := cx_bd_at hf
  refine cx_Fvv (q := (RX9, TX9, 24)) (As := [.int 8, .int 100]) (rest := []) (w1 := (wd_Model k m_a u5.1 u5.2 m_book m_images m_kept m_before m_refused m_quiet m_text m_typed m_at m_start m_token m_value m_items m_many m_is m_likes m_without m_onePicture m_oneYear m_first m_second m_names)) hA C me_X9_times hw_1328 (c_X9_times l D k m_a u3.1 u3.2 m_book m_images m_kept m_before m_refused m_quiet m_text m_typed m_at m_start m_token m_value m_items m_many m_is m_likes m_without m_onePicture m_oneYear m_first m_second m_names 8 100 u5 e6) dX9_isSure_24 ⟨Nat.le_of_ble_eq_true rfl, Nat.le_of_ble_eq_true rfl⟩ ⟨Nat.zero_le _, Nat.zero_le _⟩ rfl rfl (Nat.le_of_ble_eq_true rfl) rfl rfl rfl ?_
  clear e6
  refine cx_aload_n C dX9_isSure_27 0 rfl ?_
  refine cx_bipush (v := 9) C dX9_isSure_28 (by decide) ?_
  refine cx_bipush (v := 6) C dX9_isSure_30 (by decide) ?_
  obtain ⟨u7, e8, hf⟩ := cx_bd_at hf
  refine cx_Fvv (q := (RX9, TX9, 24)) (As := [.int 9, .int 6]) (rest := []) (w1 := (wd_Model k m_a u7.1 u7.2 m_book m_images m_kept m_before m_refused m_quiet m_text m_typed m_at m_start m_token m_value m_items m_many m_is m_likes m_without m_onePicture m_oneYear m_first m_second m_names)) hA C me_X9_takes hw_1324 (c_X9_takes l D k m_a u5.1 u5.2 m_book m_images m_kept m_before m_refused m_quiet m_text m_typed m_at m_start m_token m_value m_items m_many m_is m_likes m_without m_onePicture m_oneYear m_first m_second m_names 9 6 u7 e8) dX9_isSure_32 ⟨Nat.le_of_ble_eq_true rfl, Nat.le_of_ble_eq_true rfl⟩ ⟨Nat.zero_le _, Nat.zero_le _⟩ rfl rfl (Nat.le_of_ble_eq_true rfl) rfl rfl rfl ?_
  clear e8
  refine cx_aload_n C dX9_isSure_35 0 rfl ?_
  refine cx_bipush (v := 9) C dX9_isSure_36 (by decide) ?_
  refine cx_iload_n C dX9_isSure_38 2 rfl ?_
  obtain ⟨u9, e10, hf⟩ := cx_bd_at hf
  refine cx_Fvv (q := (RX9, TX9, 24)) (As := [.int 9, .int p2]) (rest := []) (w1 := (wd_Model k m_a u9.1 u9.2 m_book m_images m_kept m_before m_refused m_quiet m_text m_typed m_at m_start m_token m_value m_items m_many m_is m_likes m_without m_onePicture m_oneYear m_first m_second m_names)) hA C me_X9_times hw_1328 (c_X9_times l D k m_a u7.1 u7.2 m_book m_images m_kept m_before m_refused m_quiet m_text m_typed m_at m_start m_token m_value m_items m_many m_is m_likes m_without m_onePicture m_oneYear m_first m_second m_names 9 p2 u9 e10) dX9_isSure_39 ⟨Nat.le_of_ble_eq_true rfl, Nat.le_of_ble_eq_true rfl⟩ ⟨Nat.zero_le _, Nat.zero_le _⟩ rfl rfl (Nat.le_of_ble_eq_true rfl) rfl rfl rfl ?_
  clear e10
  refine cx_aload_n C dX9_isSure_42 0 rfl ?_
  refine cx_bipush (v := 8) C dX9_isSure_43 (by decide) ?_
  refine cx_bipush (v := 9) C dX9_isSure_45 (by decide) ?_
  obtain ⟨u11, e12, hf⟩ := cx_bd_at hf
  refine cx_Fvi (q := (RX9, TX9, 24)) (As := [.int 8, .int 9]) (rest := []) (w1 := (wd_Model k m_a u9.1 u9.2 m_book m_images m_kept m_before m_refused m_quiet m_text m_typed m_at m_start m_token m_value m_items m_many m_is m_likes m_without m_onePicture m_oneYear m_first m_second m_names)) hA C me_X9_against hw_1357 (c_X9_against l D k m_a u9.1 u9.2 m_book m_images m_kept m_before m_refused m_quiet m_text m_typed m_at m_start m_token m_value m_items m_many m_is m_likes m_without m_onePicture m_oneYear m_first m_second m_names 8 9 u11 e12) dX9_isSure_47 ⟨Nat.le_of_ble_eq_true rfl, Nat.le_of_ble_eq_true rfl⟩ ⟨Nat.zero_le _, Nat.zero_le _⟩ rfl rfl (Nat.le_of_ble_eq_true rfl) rfl rfl rfl ?_
  clear e12
  refine cx_if_lt (tgt := 57) C dX9_isSure_50 (by decide) (fun c13 => ?_) (fun c13 => ?_)
  · have hf := cx_if_t hf c13
    clear c13
    refine cx_iconst (v := 0) C dX9_isSure_57 (by decide) ?_
    obtain rfl := Option.some.inj hf
    exact cx_zret C hA hQ hr hlk dX9_isSure_58 rfl rfl rfl
  · have hf := cx_if_f hf c13
    clear c13
    refine cx_iconst (v := 1) C dX9_isSure_53 (by decide) ?_
    refine cx_goto (tgt := 58) C dX9_isSure_54 (by decide) ?_
    obtain rfl := Option.some.inj hf
    exact cx_zret C hA hQ hr hlk dX9_isSure_58 rfl rfl rfl
theorem dX9_sure_0 : decode cX9_sure 0 = .ok (.iload_n 1, 1) := by decide +kernel
theorem dX9_sure_1 : decode cX9_sure 1 = .ok (.i2l, 1) := by decide +kernel
theorem dX9_sure_2 : decode cX9_sure 2 = .ok (.lconst 0, 1) := by decide +kernel
theorem dX9_sure_3 : decode cX9_sure 3 = .ok (.ldc2_w 95, 3) := by decide +kernel
theorem dX9_sure_6 : decode cX9_sure 6 = .ok (.invokestatic 89, 3) := by decide +kernel
theorem dX9_sure_9 : decode cX9_sure 9 = .ok (.ifCond .ne 8, 3) := by decide +kernel
theorem dX9_sure_12 : decode cX9_sure 12 = .ok (.aload_n 0, 1) := by decide +kernel
theorem dX9_sure_13 : decode cX9_sure 13 = .ok (.invokevirtual 99, 3) := by decide +kernel
theorem dX9_sure_16 : decode cX9_sure 16 = .ok (.ireturn, 1) := by decide +kernel
theorem dX9_sure_17 : decode cX9_sure 17 = .ok (.aload_n 0, 1) := by decide +kernel
theorem dX9_sure_18 : decode cX9_sure 18 = .ok (.invokevirtual 284, 3) := by decide +kernel
theorem dX9_sure_21 : decode cX9_sure 21 = .ok (.aload_n 0, 1) := by decide +kernel
theorem dX9_sure_22 : decode cX9_sure 22 = .ok (.iconst (-1), 1) := by decide +kernel
theorem dX9_sure_23 : decode cX9_sure 23 = .ok (.invokevirtual 287, 3) := by decide +kernel
theorem dX9_sure_26 : decode cX9_sure 26 = .ok (.aload_n 0, 1) := by decide +kernel
theorem dX9_sure_27 : decode cX9_sure 27 = .ok (.getfield 3, 3) := by decide +kernel
theorem dX9_sure_30 : decode cX9_sure 30 = .ok (.bipush 6, 2) := by decide +kernel
theorem dX9_sure_32 : decode cX9_sure 32 = .ok (.iaload, 1) := by decide +kernel
theorem dX9_sure_33 : decode cX9_sure 33 = .ok (.ifCond .ne 8, 3) := by decide +kernel
theorem dX9_sure_36 : decode cX9_sure 36 = .ok (.aload_n 0, 1) := by decide +kernel
theorem dX9_sure_37 : decode cX9_sure 37 = .ok (.invokevirtual 290, 3) := by decide +kernel
theorem dX9_sure_40 : decode cX9_sure 40 = .ok (.ireturn, 1) := by decide +kernel
theorem dX9_sure_41 : decode cX9_sure 41 = .ok (.iconst 0, 1) := by decide +kernel
theorem dX9_sure_42 : decode cX9_sure 42 = .ok (.istore_n 2, 1) := by decide +kernel
theorem dX9_sure_43 : decode cX9_sure 43 = .ok (.iconst 0, 1) := by decide +kernel
theorem dX9_sure_44 : decode cX9_sure 44 = .ok (.istore_n 3, 1) := by decide +kernel
theorem dX9_sure_45 : decode cX9_sure 45 = .ok (.iload_n 3, 1) := by decide +kernel
theorem dX9_sure_46 : decode cX9_sure 46 = .ok (.aload_n 0, 1) := by decide +kernel
theorem dX9_sure_47 : decode cX9_sure 47 = .ok (.getfield 51, 3) := by decide +kernel
theorem dX9_sure_50 : decode cX9_sure 50 = .ok (.iconst 2, 1) := by decide +kernel
theorem dX9_sure_51 : decode cX9_sure 51 = .ok (.iaload, 1) := by decide +kernel
theorem dX9_sure_52 : decode cX9_sure 52 = .ok (.if_icmp .ge 28, 3) := by decide +kernel
theorem dX9_sure_55 : decode cX9_sure 55 = .ok (.iload_n 2, 1) := by decide +kernel
theorem dX9_sure_56 : decode cX9_sure 56 = .ok (.aload_n 0, 1) := by decide +kernel
theorem dX9_sure_57 : decode cX9_sure 57 = .ok (.iload_n 3, 1) := by decide +kernel
theorem dX9_sure_58 : decode cX9_sure 58 = .ok (.iload_n 1, 1) := by decide +kernel
theorem dX9_sure_59 : decode cX9_sure 59 = .ok (.invokevirtual 303, 3) := by decide +kernel
theorem dX9_sure_62 : decode cX9_sure 62 = .ok (.ifCond .eq 9, 3) := by decide +kernel
theorem dX9_sure_65 : decode cX9_sure 65 = .ok (.iconst 1, 1) := by decide +kernel
theorem dX9_sure_66 : decode cX9_sure 66 = .ok (.iload_n 3, 1) := by decide +kernel
theorem dX9_sure_67 : decode cX9_sure 67 = .ok (.ishl, 1) := by decide +kernel
theorem dX9_sure_68 : decode cX9_sure 68 = .ok (.goto 4, 3) := by decide +kernel
theorem dX9_sure_71 : decode cX9_sure 71 = .ok (.iconst 0, 1) := by decide +kernel
theorem dX9_sure_72 : decode cX9_sure 72 = .ok (.ior, 1) := by decide +kernel
theorem dX9_sure_73 : decode cX9_sure 73 = .ok (.istore_n 2, 1) := by decide +kernel
theorem dX9_sure_74 : decode cX9_sure 74 = .ok (.iinc 3 1, 3) := by decide +kernel
theorem dX9_sure_77 : decode cX9_sure 77 = .ok (.goto (-32), 3) := by decide +kernel
theorem dX9_sure_80 : decode cX9_sure 80 = .ok (.iload_n 2, 1) := by decide +kernel
theorem dX9_sure_81 : decode cX9_sure 81 = .ok (.ireturn, 1) := by decide +kernel
theorem me_X9_sure : cx_Mv yX9_sure cX9_sure 4 (some .int) 1 := ⟨⟨⟨by decide +kernel, by decide +kernel, by decide +kernel⟩, hw_11, hw_1400⟩, hw_1398, hw_1399⟩
noncomputable def f_X9_sure_J72 (x2_17 : Int32) (x3_18 : Int32) (rc45 : (Nat → Int32) → (Nat → Int32) → Int32 → Int32 → Option (Int32 × Int32 × Int32 × Int32 × (Nat → Int32) × (Nat → Int32) × (Nat → Int32) × (Nat → Int32) × (Nat → Int32))) (a_24 : Nat → Int32) (a_25 : Nat → Int32) (s1_26 : Int32) : Option (Int32 × Int32 × Int32 × Int32 × (Nat → Int32) × (Nat → Int32) × (Nat → Int32) × (Nat → Int32) × (Nat → Int32)) := rc45 a_24 a_25 (x2_17 ||| s1_26) (x3_18 + 1)
noncomputable def f_X9_sure_L45 (m_book : Nat → Int32) (m_refused : Nat → Int32) (p1 : Int32) (h_10 : Int32) (h_11 : Int32) (h_12 : Int32) (a_15 : Nat → Int32) (a_16 : Nat → Int32) (rc45 : (Nat → Int32) → (Nat → Int32) → Int32 → Int32 → Option (Int32 × Int32 × Int32 × Int32 × (Nat → Int32) × (Nat → Int32) × (Nat → Int32) × (Nat → Int32) × (Nat → Int32))) (a_13 : Nat → Int32) (a_14 : Nat → Int32) (x2_17 : Int32) (x3_18 : Int32) : Option (Int32 × Int32 × Int32 × Int32 × (Nat → Int32) × (Nat → Int32) × (Nat → Int32) × (Nat → Int32) × (Nat → Int32)) := cx_gd (cx_ib 2 140) (if (m_book (cx_ix 2)) ≤ x3_18 then (some ((x2_17, h_10, h_11, h_12, a_13, a_14, m_refused, a_15, a_16))) else (Option.bind (f_X9_isSure a_13 a_14 m_book x3_18 p1) (fun u21 => if u21.1 = 0 then (f_X9_sure_J72 x2_17 x3_18 rc45 u21.2.1 u21.2.2 0) else (f_X9_sure_J72 x2_17 x3_18 rc45 u21.2.1 u21.2.2 (1 <<< (x3_18 &&& 31))))))
noncomputable def f_X9_sure_L45w (m_book : Nat → Int32) (m_refused : Nat → Int32) (p1 : Int32) (h_10 : Int32) (h_11 : Int32) (h_12 : Int32) (a_15 : Nat → Int32) (a_16 : Nat → Int32) (n : Nat) : (Nat → Int32) → (Nat → Int32) → Int32 → Int32 → Option (Int32 × Int32 × Int32 × Int32 × (Nat → Int32) × (Nat → Int32) × (Nat → Int32) × (Nat → Int32) × (Nat → Int32)) := Nat.rec (fun _ _ _ _ => none) (fun _ r => f_X9_sure_L45 m_book m_refused p1 h_10 h_11 h_12 a_15 a_16 r) n
noncomputable def f_X9_sure (m_limbs : Nat → Int32) (m_wide : Nat → Int32) (m_book : Nat → Int32) (m_refused : Nat → Int32) (m_quiet : Int32) (m_is : Nat → Int32) (m_likes : Nat → Int32) (m_without : Int32) (m_onePicture : Int32) (m_oneYear : Int32) (m_first : Int32) (m_second : Int32) (p1 : Int32) : Option (Int32 × Int32 × Int32 × Int32 × (Nat → Int32) × (Nat → Int32) × (Nat → Int32) × (Nat → Int32) × (Nat → Int32)) := Option.bind (f_X9_in (Int32.toInt64 p1) 0 100) (fun u1 => if u1 = 0 then (Option.bind (f_X9_bad m_refused m_quiet) (fun u29 => some ((u29.1, m_without, m_onePicture, m_first, m_limbs, m_wide, u29.2, m_is, m_likes)))) else (Option.bind (f_X9_begins m_book m_likes) (fun u4 => Option.bind (f_X9_shares m_limbs m_wide m_book m_is u4.2.2.2 u4.1 u4.2.1 m_oneYear u4.2.2.1 m_second ((-1))) (fun u6 => cx_gd (cx_ib 6 270) (if (u6.2.1 (cx_ix 6)) = 0 then (Option.bind (f_X9_no m_refused m_quiet) (fun u27 => some ((u27.1, u4.1, u4.2.1, u4.2.2.1, u6.1, u6.2.1, u27.2, u6.2.2, u4.2.2.2)))) else (f_X9_sure_L45w m_book m_refused p1 u4.1 u4.2.1 u4.2.2.1 u6.2.2 u4.2.2.2 cx_N0 u6.1 u6.2.1 0 0))))))
set_option maxHeartbeats 4000000 in
set_option maxRecDepth 100000 in
theorem c_X9_sure (l : Launch) (D : va_G) (k : Nat → ClassId) (m_a : Nat → Nat) (m_limbs : Nat → Int32) (m_wide : Nat → Int32) (m_book : Nat → Int32) (m_images : Nat → Int32) (m_kept : Nat → Int32) (m_before : Nat → Int32) (m_refused : Nat → Int32) (m_quiet : Int32) (m_text : Nat → Int32) (m_typed : Int32) (m_at : Int32) (m_start : Int32) (m_token : Int32) (m_value : Int32) (m_items : Nat → Int32) (m_many : Int32) (m_is : Nat → Int32) (m_likes : Nat → Int32) (m_without : Int32) (m_onePicture : Int32) (m_oneYear : Int32) (m_first : Int32) (m_second : Int32) (m_names : Nat → Int32) (p1 : Int32) (y : Int32 × Int32 × Int32 × Int32 × (Nat → Int32) × (Nat → Int32) × (Nat → Int32) × (Nat → Int32) × (Nat → Int32)) (hf : f_X9_sure m_limbs m_wide m_book m_refused m_quiet m_is m_likes m_without m_onePicture m_oneYear m_first m_second p1 = some y) : cx_M l yX9_sure cX9_sure 4 (some .int) 7 D k [.ref (m_a 0), .int p1] (wd_Model k m_a m_limbs m_wide m_book m_images m_kept m_before m_refused m_quiet m_text m_typed m_at m_start m_token m_value m_items m_many m_is m_likes m_without m_onePicture m_oneYear m_first m_second m_names) (fun sz => cx_Qi D y.1 (wd_Model k m_a m_limbs m_wide m_book m_images m_kept m_before m_refused m_quiet m_text m_typed m_at m_start m_token m_value m_items m_many m_is m_likes m_without m_onePicture m_oneYear m_first m_second m_names) (wd_Model k m_a y.2.2.2.2.1 y.2.2.2.2.2.1 m_book m_images m_kept m_before y.2.2.2.2.2.2.1 m_quiet m_text m_typed m_at m_start m_token m_value m_items m_many y.2.2.2.2.2.2.2.1 y.2.2.2.2.2.2.2.2 y.2.1 y.2.2.1 m_oneYear y.2.2.2.1 m_second m_names) sz) := by
  refine cx_met (own := "NamelessBoxModel") (by decide) rfl (Nat.le_of_ble_eq_true rfl) ?_
  intro p e s m args below meth c A Q C hA hQ hr hlk
  refine cx_lv (lv' := [(0, .ref (m_a 0)), (1, .int p1)]) [0, 1] rfl ?_
  have L45 : ∀ (h_10 : Int32) (h_11 : Int32) (h_12 : Int32) (a_15 : Nat → Int32) (a_16 : Nat → Int32) (n45 : Nat) (a_13 : Nat → Int32) (a_14 : Nat → Int32) (x2_17 : Int32) (x3_18 : Int32), f_X9_sure_L45w m_book m_refused p1 h_10 h_11 h_12 a_15 a_16 n45 a_13 a_14 x2_17 x3_18 = some y → cx_S p l e (cx_rm 7) s m args below meth c A D 4 0 0 Q 45 [(0, .ref (m_a 0)), (1, .int p1), (2, .int x2_17), (3, .int x3_18)] [] (wd_Model k m_a a_13 a_14 m_book m_images m_kept m_before m_refused m_quiet m_text m_typed m_at m_start m_token m_value m_items m_many a_15 a_16 h_10 h_11 m_oneYear h_12 m_second m_names) := by
    intro h_10 h_11 h_12 a_15 a_16 n45
    induction n45 with
    | zero =>
      intro a_13 a_14 x2_17 x3_18 hf
      exact absurd (show (none : Option (Int32 × Int32 × Int32 × Int32 × (Nat → Int32) × (Nat → Int32) × (Nat → Int32) × (Nat → Int32) × (Nat → Int32))) = some y from hf) (fun h => by cases h)
    | succ n45 ih45 =>
      intro a_13 a_14 x2_17 x3_18 hf
      have hf : f_X9_sure_L45 m_book m_refused p1 h_10 h_11 h_12 a_15 a_16 (f_X9_sure_L45w m_book m_refused p1 h_10 h_11 h_12 a_15 a_16 n45) a_13 a_14 x2_17 x3_18 = some y := hf
      have J72 : ∀ (a_24 : Nat → Int32) (a_25 : Nat → Int32) (s1_26 : Int32), f_X9_sure_J72 x2_17 x3_18 (f_X9_sure_L45w m_book m_refused p1 h_10 h_11 h_12 a_15 a_16 n45) a_24 a_25 s1_26 = some y → cx_S p l e (cx_rm 7) s m args below meth c A D 4 0 0 Q 72 [(0, .ref (m_a 0)), (1, .int p1), (3, .int x3_18)] [.int s1_26, .int x2_17] (wd_Model k m_a a_24 a_25 m_book m_images m_kept m_before m_refused m_quiet m_text m_typed m_at m_start m_token m_value m_items m_many a_15 a_16 h_10 h_11 m_oneYear h_12 m_second m_names) := by
        intro a_24 a_25 s1_26 hf
        unfold f_X9_sure_J72 at hf
        refine cx_ior C dX9_sure_72 ?_
        refine cx_istore_n (lv' := [(2, .int (x2_17 ||| s1_26)), (0, .ref (m_a 0)), (1, .int p1), (3, .int x3_18)]) C dX9_sure_73 rfl (by decide) rfl ?_
        refine cx_iinc (v := x3_18 + 1) (lv' := [(3, .int (x3_18 + 1)), (2, .int (x2_17 ||| s1_26)), (0, .ref (m_a 0)), (1, .int p1)]) C dX9_sure_74 3 rfl rfl (by decide) rfl ?_
        refine cx_goto (tgt := 45) C dX9_sure_77 (by decide) ?_
        refine cx_lv [2, 3, 1, 0] rfl ?_
        exact ih45 a_24 a_25 (x2_17 ||| s1_26) (x3_18 + 1) hf
      unfold f_X9_sure_L45 at hf
      refine cx_iload_n C dX9_sure_45 3 rfl ?_
      refine cx_aload_n C dX9_sure_46 0 rfl ?_
      refine cx_get (v := .ref (m_a 3)) (ci := 8) C iX9 dX9_sure_47 0 rfl rfl 2 (by decide) hw_1056 rfl ?_
      refine cx_iconst (v := 2) C dX9_sure_50 (by decide) ?_
      obtain ⟨g19, hf⟩ := cx_gd_at hf
      refine cx_iald C dX9_sure_51 3 rfl (cx_ib_in g19) ?_
      clear g19
      refine cx_icmp_ge (tgt := 80) C dX9_sure_52 (by decide) (fun c20 => ?_) (fun c20 => ?_)
      · have hf := cx_if_t hf c20
        clear c20
        refine cx_iload_n C dX9_sure_80 2 rfl ?_
        obtain rfl := Option.some.inj hf
        exact cx_iret C hA hQ hr hlk dX9_sure_81 rfl rfl
      · have hf := cx_if_f hf c20
        clear c20
        refine cx_iload_n C dX9_sure_55 2 rfl ?_
        refine cx_aload_n C dX9_sure_56 0 rfl ?_
        refine cx_iload_n C dX9_sure_57 3 rfl ?_
        refine cx_iload_n C dX9_sure_58 1 rfl ?_
        obtain ⟨u21, e22, hf⟩ := cx_bd_at hf
        refine cx_Fvi (q := (RX9, TX9, 24)) (As := [.int x3_18, .int p1]) (rest := [.int x2_17]) (w1 := (wd_Model k m_a u21.2.1 u21.2.2 m_book m_images m_kept m_before m_refused m_quiet m_text m_typed m_at m_start m_token m_value m_items m_many a_15 a_16 h_10 h_11 m_oneYear h_12 m_second m_names)) hA C me_X9_isSure hw_1401 (c_X9_isSure l D k m_a a_13 a_14 m_book m_images m_kept m_before m_refused m_quiet m_text m_typed m_at m_start m_token m_value m_items m_many a_15 a_16 h_10 h_11 m_oneYear h_12 m_second m_names x3_18 p1 u21 e22) dX9_sure_59 ⟨Nat.le_of_ble_eq_true rfl, Nat.le_of_ble_eq_true rfl⟩ ⟨Nat.zero_le _, Nat.zero_le _⟩ rfl rfl (Nat.le_of_ble_eq_true rfl) rfl rfl rfl ?_
        clear e22
        refine cx_if_eq (tgt := 71) C dX9_sure_62 (by decide) (fun c23 => ?_) (fun c23 => ?_)
        · have hf := cx_if_t hf c23
          clear c23
          refine cx_iconst (v := 0) C dX9_sure_71 (by decide) ?_
          refine cx_lv [0, 1, 3] rfl ?_
          exact J72 u21.2.1 u21.2.2 0 hf
        · have hf := cx_if_f hf c23
          clear c23
          refine cx_iconst (v := 1) C dX9_sure_65 (by decide) ?_
          refine cx_iload_n C dX9_sure_66 3 rfl ?_
          refine cx_ishl C dX9_sure_67 ?_
          refine cx_goto (tgt := 72) C dX9_sure_68 (by decide) ?_
          refine cx_lv [0, 1, 3] rfl ?_
          exact J72 u21.2.1 u21.2.2 (1 <<< (x3_18 &&& 31)) hf
  unfold f_X9_sure at hf
  refine cx_iload_n C dX9_sure_0 1 rfl ?_
  refine cx_i2l C dX9_sure_1 ?_
  refine cx_lconst (v := 0) C dX9_sure_2 (by decide) ?_
  refine cx_ldc2 (v := 100) C dX9_sure_3 hw_1135 ?_
  obtain ⟨u1, e2, hf⟩ := cx_bd_at hf
  refine cx_Ksi (As := [.long (Int32.toInt64 p1), .long 0, .long 100]) (rest := []) hA C me_X9_in hw_1132 (c_X9_in l D k (Int32.toInt64 p1) 0 100 u1 e2) dX9_sure_6 ⟨Nat.le_of_ble_eq_true rfl, Nat.le_of_ble_eq_true rfl⟩ ⟨Nat.zero_le _, Nat.zero_le _⟩ rfl rfl (Nat.le_of_ble_eq_true rfl) [] rfl (by decide) ?_
  clear e2
  refine cx_if_ne (tgt := 17) C dX9_sure_9 (by decide) (fun c3 => ?_) (fun c3 => ?_)
  · have hf := cx_if_f hf c3
    clear c3
    refine cx_aload_n C dX9_sure_17 0 rfl ?_
    obtain ⟨u4, e5, hf⟩ := cx_bd_at hf
    refine cx_Fvv (q := (RX9, TX9, 24)) (As := []) (rest := []) (w1 := (wd_Model k m_a m_limbs m_wide m_book m_images m_kept m_before m_refused m_quiet m_text m_typed m_at m_start m_token m_value m_items m_many m_is u4.2.2.2 u4.1 u4.2.1 m_oneYear u4.2.2.1 m_second m_names)) hA C me_X9_begins hw_1284 (c_X9_begins l D k m_a m_limbs m_wide m_book m_images m_kept m_before m_refused m_quiet m_text m_typed m_at m_start m_token m_value m_items m_many m_is m_likes m_without m_onePicture m_oneYear m_first m_second m_names u4 e5) dX9_sure_18 ⟨Nat.le_of_ble_eq_true rfl, Nat.le_of_ble_eq_true rfl⟩ ⟨Nat.zero_le _, Nat.zero_le _⟩ rfl rfl (Nat.le_of_ble_eq_true rfl) rfl rfl rfl ?_
    clear e5
    refine cx_aload_n C dX9_sure_21 0 rfl ?_
    refine cx_iconst (v := (-1)) C dX9_sure_22 (by decide) ?_
    obtain ⟨u6, e7, hf⟩ := cx_bd_at hf
    refine cx_Fvv (q := (RX9, TX9, 24)) (As := [.int ((-1))]) (rest := []) (w1 := (wd_Model k m_a u6.1 u6.2.1 m_book m_images m_kept m_before m_refused m_quiet m_text m_typed m_at m_start m_token m_value m_items m_many u6.2.2 u4.2.2.2 u4.1 u4.2.1 m_oneYear u4.2.2.1 m_second m_names)) hA C me_X9_shares hw_1288 (c_X9_shares l D k m_a m_limbs m_wide m_book m_images m_kept m_before m_refused m_quiet m_text m_typed m_at m_start m_token m_value m_items m_many m_is u4.2.2.2 u4.1 u4.2.1 m_oneYear u4.2.2.1 m_second m_names ((-1)) u6 e7) dX9_sure_23 ⟨Nat.le_of_ble_eq_true rfl, Nat.le_of_ble_eq_true rfl⟩ ⟨Nat.zero_le _, Nat.zero_le _⟩ rfl rfl (Nat.le_of_ble_eq_true rfl) rfl rfl rfl ?_
    clear e7
    refine cx_aload_n C dX9_sure_26 0 rfl ?_
    refine cx_get (v := .ref (m_a 2)) (ci := 8) C iX9 dX9_sure_27 0 rfl rfl 1 (by decide) hw_1055 rfl ?_
    refine cx_bipush (v := 6) C dX9_sure_30 (by decide) ?_
    obtain ⟨g8, hf⟩ := cx_gd_at hf
    refine cx_iald C dX9_sure_32 2 rfl (cx_ib_in g8) ?_
    clear g8
    refine cx_if_ne (tgt := 41) C dX9_sure_33 (by decide) (fun c9 => ?_) (fun c9 => ?_)
    · have hf := cx_if_f hf c9
      clear c9
      refine cx_iconst (v := 0) C dX9_sure_41 (by decide) ?_
      refine cx_istore_n (lv' := [(2, .int 0), (0, .ref (m_a 0)), (1, .int p1)]) C dX9_sure_42 rfl (by decide) rfl ?_
      refine cx_iconst (v := 0) C dX9_sure_43 (by decide) ?_
      refine cx_istore_n (lv' := [(3, .int 0), (2, .int 0), (0, .ref (m_a 0)), (1, .int p1)]) C dX9_sure_44 rfl (by decide) rfl ?_
      refine cx_lv [2, 3, 1, 0] rfl ?_
      exact L45 u4.1 u4.2.1 u4.2.2.1 u6.2.2 u4.2.2.2 cx_N0 u6.1 u6.2.1 0 0 hf
    · have hf := cx_if_t hf c9
      clear c9
      refine cx_aload_n C dX9_sure_36 0 rfl ?_
      obtain ⟨u27, e28, hf⟩ := cx_bd_at hf
      refine cx_Fvi (q := (RX9, TX9, 24)) (As := []) (rest := []) (w1 := (wd_Model k m_a u6.1 u6.2.1 m_book m_images m_kept m_before u27.2 m_quiet m_text m_typed m_at m_start m_token m_value m_items m_many u6.2.2 u4.2.2.2 u4.1 u4.2.1 m_oneYear u4.2.2.1 m_second m_names)) hA C me_X9_no hw_1337 (c_X9_no l D k m_a u6.1 u6.2.1 m_book m_images m_kept m_before m_refused m_quiet m_text m_typed m_at m_start m_token m_value m_items m_many u6.2.2 u4.2.2.2 u4.1 u4.2.1 m_oneYear u4.2.2.1 m_second m_names u27 e28) dX9_sure_37 ⟨Nat.le_of_ble_eq_true rfl, Nat.le_of_ble_eq_true rfl⟩ ⟨Nat.zero_le _, Nat.zero_le _⟩ rfl rfl (Nat.le_of_ble_eq_true rfl) rfl rfl rfl ?_
      clear e28
      obtain rfl := Option.some.inj hf
      exact cx_iret C hA hQ hr hlk dX9_sure_40 rfl rfl
  · have hf := cx_if_t hf c3
    clear c3
    refine cx_aload_n C dX9_sure_12 0 rfl ?_
    obtain ⟨u29, e30, hf⟩ := cx_bd_at hf
    refine cx_Fvi (q := (RX9, TX9, 24)) (As := []) (rest := []) (w1 := (wd_Model k m_a m_limbs m_wide m_book m_images m_kept m_before u29.2 m_quiet m_text m_typed m_at m_start m_token m_value m_items m_many m_is m_likes m_without m_onePicture m_oneYear m_first m_second m_names)) hA C me_X9_bad hw_1137 (c_X9_bad l D k m_a m_limbs m_wide m_book m_images m_kept m_before m_refused m_quiet m_text m_typed m_at m_start m_token m_value m_items m_many m_is m_likes m_without m_onePicture m_oneYear m_first m_second m_names u29 e30) dX9_sure_13 ⟨Nat.le_of_ble_eq_true rfl, Nat.le_of_ble_eq_true rfl⟩ ⟨Nat.zero_le _, Nat.zero_le _⟩ rfl rfl (Nat.le_of_ble_eq_true rfl) rfl rfl rfl ?_
    clear e30
    obtain rfl := Option.some.inj hf
    exact cx_iret C hA hQ hr hlk dX9_sure_16 rfl rfl
theorem dX9_falls_0 : decode cX9_falls 0 = .ok (.iload_n 1, 1) := by decide +kernel
theorem dX9_falls_1 : decode cX9_falls 1 = .ok (.i2l, 1) := by decide +kernel
theorem dX9_falls_2 : decode cX9_falls 2 = .ok (.lconst 0, 1) := by decide +kernel
theorem dX9_falls_3 : decode cX9_falls 3 = .ok (.ldc2_w 95, 3) := by decide +kernel
theorem dX9_falls_6 : decode cX9_falls 6 = .ok (.invokestatic 89, 3) := by decide +kernel
theorem dX9_falls_9 : decode cX9_falls 9 = .ok (.ifCond .eq 21, 3) := by decide +kernel
theorem dX9_falls_12 : decode cX9_falls 12 = .ok (.iload_n 2, 1) := by decide +kernel
theorem dX9_falls_13 : decode cX9_falls 13 = .ok (.i2l, 1) := by decide +kernel
theorem dX9_falls_14 : decode cX9_falls 14 = .ok (.lconst 0, 1) := by decide +kernel
theorem dX9_falls_15 : decode cX9_falls 15 = .ok (.aload_n 0, 1) := by decide +kernel
theorem dX9_falls_16 : decode cX9_falls 16 = .ok (.getfield 51, 3) := by decide +kernel
theorem dX9_falls_19 : decode cX9_falls 19 = .ok (.iconst 3, 1) := by decide +kernel
theorem dX9_falls_20 : decode cX9_falls 20 = .ok (.iaload, 1) := by decide +kernel
theorem dX9_falls_21 : decode cX9_falls 21 = .ok (.iconst 1, 1) := by decide +kernel
theorem dX9_falls_22 : decode cX9_falls 22 = .ok (.isub, 1) := by decide +kernel
theorem dX9_falls_23 : decode cX9_falls 23 = .ok (.i2l, 1) := by decide +kernel
theorem dX9_falls_24 : decode cX9_falls 24 = .ok (.invokestatic 89, 3) := by decide +kernel
theorem dX9_falls_27 : decode cX9_falls 27 = .ok (.ifCond .ne 8, 3) := by decide +kernel
theorem dX9_falls_30 : decode cX9_falls 30 = .ok (.aload_n 0, 1) := by decide +kernel
theorem dX9_falls_31 : decode cX9_falls 31 = .ok (.invokevirtual 99, 3) := by decide +kernel
theorem dX9_falls_34 : decode cX9_falls 34 = .ok (.ireturn, 1) := by decide +kernel
theorem dX9_falls_35 : decode cX9_falls 35 = .ok (.aload_n 0, 1) := by decide +kernel
theorem dX9_falls_36 : decode cX9_falls 36 = .ok (.invokevirtual 284, 3) := by decide +kernel
theorem dX9_falls_39 : decode cX9_falls 39 = .ok (.aload_n 0, 1) := by decide +kernel
theorem dX9_falls_40 : decode cX9_falls 40 = .ok (.iconst (-1), 1) := by decide +kernel
theorem dX9_falls_41 : decode cX9_falls 41 = .ok (.invokevirtual 287, 3) := by decide +kernel
theorem dX9_falls_44 : decode cX9_falls 44 = .ok (.aload_n 0, 1) := by decide +kernel
theorem dX9_falls_45 : decode cX9_falls 45 = .ok (.getfield 3, 3) := by decide +kernel
theorem dX9_falls_48 : decode cX9_falls 48 = .ok (.bipush 6, 2) := by decide +kernel
theorem dX9_falls_50 : decode cX9_falls 50 = .ok (.iaload, 1) := by decide +kernel
theorem dX9_falls_51 : decode cX9_falls 51 = .ok (.ifCond .ne 8, 3) := by decide +kernel
theorem dX9_falls_54 : decode cX9_falls 54 = .ok (.aload_n 0, 1) := by decide +kernel
theorem dX9_falls_55 : decode cX9_falls 55 = .ok (.invokevirtual 290, 3) := by decide +kernel
theorem dX9_falls_58 : decode cX9_falls 58 = .ok (.ireturn, 1) := by decide +kernel
theorem dX9_falls_59 : decode cX9_falls 59 = .ok (.iconst 0, 1) := by decide +kernel
theorem dX9_falls_60 : decode cX9_falls 60 = .ok (.istore_n 3, 1) := by decide +kernel
theorem dX9_falls_61 : decode cX9_falls 61 = .ok (.iconst 0, 1) := by decide +kernel
theorem dX9_falls_62 : decode cX9_falls 62 = .ok (.istore 4, 2) := by decide +kernel
theorem dX9_falls_64 : decode cX9_falls 64 = .ok (.iload 4, 2) := by decide +kernel
theorem dX9_falls_66 : decode cX9_falls 66 = .ok (.aload_n 0, 1) := by decide +kernel
theorem dX9_falls_67 : decode cX9_falls 67 = .ok (.getfield 51, 3) := by decide +kernel
theorem dX9_falls_70 : decode cX9_falls 70 = .ok (.iconst 2, 1) := by decide +kernel
theorem dX9_falls_71 : decode cX9_falls 71 = .ok (.iaload, 1) := by decide +kernel
theorem dX9_falls_72 : decode cX9_falls 72 = .ok (.if_icmp .ge 43, 3) := by decide +kernel
theorem dX9_falls_75 : decode cX9_falls 75 = .ok (.iload_n 3, 1) := by decide +kernel
theorem dX9_falls_76 : decode cX9_falls 76 = .ok (.aload_n 0, 1) := by decide +kernel
theorem dX9_falls_77 : decode cX9_falls 77 = .ok (.iload 4, 2) := by decide +kernel
theorem dX9_falls_79 : decode cX9_falls 79 = .ok (.iload_n 1, 1) := by decide +kernel
theorem dX9_falls_80 : decode cX9_falls 80 = .ok (.invokevirtual 303, 3) := by decide +kernel
theorem dX9_falls_83 : decode cX9_falls 83 = .ok (.ifCond .eq 10, 3) := by decide +kernel
theorem dX9_falls_86 : decode cX9_falls 86 = .ok (.iconst 1, 1) := by decide +kernel
theorem dX9_falls_87 : decode cX9_falls 87 = .ok (.iload 4, 2) := by decide +kernel
theorem dX9_falls_89 : decode cX9_falls 89 = .ok (.ishl, 1) := by decide +kernel
theorem dX9_falls_90 : decode cX9_falls 90 = .ok (.goto 4, 3) := by decide +kernel
theorem dX9_falls_93 : decode cX9_falls 93 = .ok (.iconst 0, 1) := by decide +kernel
theorem dX9_falls_94 : decode cX9_falls 94 = .ok (.ior, 1) := by decide +kernel
theorem dX9_falls_95 : decode cX9_falls 95 = .ok (.istore_n 3, 1) := by decide +kernel
theorem dX9_falls_96 : decode cX9_falls 96 = .ok (.aload_n 0, 1) := by decide +kernel
theorem dX9_falls_97 : decode cX9_falls 97 = .ok (.getfield 79, 3) := by decide +kernel
theorem dX9_falls_100 : decode cX9_falls 100 = .ok (.iload 4, 2) := by decide +kernel
theorem dX9_falls_102 : decode cX9_falls 102 = .ok (.aload_n 0, 1) := by decide +kernel
theorem dX9_falls_103 : decode cX9_falls 103 = .ok (.iload 4, 2) := by decide +kernel
theorem dX9_falls_105 : decode cX9_falls 105 = .ok (.invokevirtual 296, 3) := by decide +kernel
theorem dX9_falls_108 : decode cX9_falls 108 = .ok (.iastore, 1) := by decide +kernel
theorem dX9_falls_109 : decode cX9_falls 109 = .ok (.iinc 4 1, 3) := by decide +kernel
theorem dX9_falls_112 : decode cX9_falls 112 = .ok (.goto (-48), 3) := by decide +kernel
theorem dX9_falls_115 : decode cX9_falls 115 = .ok (.aload_n 0, 1) := by decide +kernel
theorem dX9_falls_116 : decode cX9_falls 116 = .ok (.iload_n 2, 1) := by decide +kernel
theorem dX9_falls_117 : decode cX9_falls 117 = .ok (.putfield 232, 3) := by decide +kernel
theorem dX9_falls_120 : decode cX9_falls 120 = .ok (.aload_n 0, 1) := by decide +kernel
theorem dX9_falls_121 : decode cX9_falls 121 = .ok (.iconst (-1), 1) := by decide +kernel
theorem dX9_falls_122 : decode cX9_falls 122 = .ok (.invokevirtual 287, 3) := by decide +kernel
theorem dX9_falls_125 : decode cX9_falls 125 = .ok (.aload_n 0, 1) := by decide +kernel
theorem dX9_falls_126 : decode cX9_falls 126 = .ok (.getfield 3, 3) := by decide +kernel
theorem dX9_falls_129 : decode cX9_falls 129 = .ok (.bipush 6, 2) := by decide +kernel
theorem dX9_falls_131 : decode cX9_falls 131 = .ok (.iaload, 1) := by decide +kernel
theorem dX9_falls_132 : decode cX9_falls 132 = .ok (.ifCond .ne 8, 3) := by decide +kernel
theorem dX9_falls_135 : decode cX9_falls 135 = .ok (.aload_n 0, 1) := by decide +kernel
theorem dX9_falls_136 : decode cX9_falls 136 = .ok (.invokevirtual 290, 3) := by decide +kernel
theorem dX9_falls_139 : decode cX9_falls 139 = .ok (.ireturn, 1) := by decide +kernel
theorem dX9_falls_140 : decode cX9_falls 140 = .ok (.iconst 0, 1) := by decide +kernel
theorem dX9_falls_141 : decode cX9_falls 141 = .ok (.istore 4, 2) := by decide +kernel
theorem dX9_falls_143 : decode cX9_falls 143 = .ok (.iconst 0, 1) := by decide +kernel
theorem dX9_falls_144 : decode cX9_falls 144 = .ok (.istore 5, 2) := by decide +kernel
theorem dX9_falls_146 : decode cX9_falls 146 = .ok (.iload 5, 2) := by decide +kernel
theorem dX9_falls_148 : decode cX9_falls 148 = .ok (.aload_n 0, 1) := by decide +kernel
theorem dX9_falls_149 : decode cX9_falls 149 = .ok (.getfield 51, 3) := by decide +kernel
theorem dX9_falls_152 : decode cX9_falls 152 = .ok (.iconst 2, 1) := by decide +kernel
theorem dX9_falls_153 : decode cX9_falls 153 = .ok (.iaload, 1) := by decide +kernel
theorem dX9_falls_154 : decode cX9_falls 154 = .ok (.if_icmp .ge 58, 3) := by decide +kernel
theorem dX9_falls_157 : decode cX9_falls 157 = .ok (.iload 4, 2) := by decide +kernel
theorem dX9_falls_159 : decode cX9_falls 159 = .ok (.iload_n 3, 1) := by decide +kernel
theorem dX9_falls_160 : decode cX9_falls 160 = .ok (.iload 5, 2) := by decide +kernel
theorem dX9_falls_162 : decode cX9_falls 162 = .ok (.ishr, 1) := by decide +kernel
theorem dX9_falls_163 : decode cX9_falls 163 = .ok (.iconst 1, 1) := by decide +kernel
theorem dX9_falls_164 : decode cX9_falls 164 = .ok (.iand, 1) := by decide +kernel
theorem dX9_falls_165 : decode cX9_falls 165 = .ok (.iconst 1, 1) := by decide +kernel
theorem dX9_falls_166 : decode cX9_falls 166 = .ok (.if_icmp .ne 36, 3) := by decide +kernel
theorem dX9_falls_169 : decode cX9_falls 169 = .ok (.aload_n 0, 1) := by decide +kernel
theorem dX9_falls_170 : decode cX9_falls 170 = .ok (.iload 5, 2) := by decide +kernel
theorem dX9_falls_172 : decode cX9_falls 172 = .ok (.iload_n 1, 1) := by decide +kernel
theorem dX9_falls_173 : decode cX9_falls 173 = .ok (.invokevirtual 303, 3) := by decide +kernel
theorem dX9_falls_176 : decode cX9_falls 176 = .ok (.ifCond .eq 19, 3) := by decide +kernel
theorem dX9_falls_179 : decode cX9_falls 179 = .ok (.aload_n 0, 1) := by decide +kernel
theorem dX9_falls_180 : decode cX9_falls 180 = .ok (.iload 5, 2) := by decide +kernel
theorem dX9_falls_182 : decode cX9_falls 182 = .ok (.invokevirtual 296, 3) := by decide +kernel
theorem dX9_falls_185 : decode cX9_falls 185 = .ok (.aload_n 0, 1) := by decide +kernel
theorem dX9_falls_186 : decode cX9_falls 186 = .ok (.getfield 79, 3) := by decide +kernel
theorem dX9_falls_189 : decode cX9_falls 189 = .ok (.iload 5, 2) := by decide +kernel
theorem dX9_falls_191 : decode cX9_falls 191 = .ok (.iaload, 1) := by decide +kernel
theorem dX9_falls_192 : decode cX9_falls 192 = .ok (.if_icmp .eq 10, 3) := by decide +kernel
theorem dX9_falls_195 : decode cX9_falls 195 = .ok (.iconst 1, 1) := by decide +kernel
theorem dX9_falls_196 : decode cX9_falls 196 = .ok (.iload 5, 2) := by decide +kernel
theorem dX9_falls_198 : decode cX9_falls 198 = .ok (.ishl, 1) := by decide +kernel
theorem dX9_falls_199 : decode cX9_falls 199 = .ok (.goto 4, 3) := by decide +kernel
theorem dX9_falls_202 : decode cX9_falls 202 = .ok (.iconst 0, 1) := by decide +kernel
theorem dX9_falls_203 : decode cX9_falls 203 = .ok (.ior, 1) := by decide +kernel
theorem dX9_falls_204 : decode cX9_falls 204 = .ok (.istore 4, 2) := by decide +kernel
theorem dX9_falls_206 : decode cX9_falls 206 = .ok (.iinc 5 1, 3) := by decide +kernel
theorem dX9_falls_209 : decode cX9_falls 209 = .ok (.goto (-63), 3) := by decide +kernel
theorem dX9_falls_212 : decode cX9_falls 212 = .ok (.iload 4, 2) := by decide +kernel
theorem dX9_falls_214 : decode cX9_falls 214 = .ok (.ireturn, 1) := by decide +kernel
theorem me_X9_falls : cx_Mv yX9_falls cX9_falls 6 (some .int) 2 := ⟨⟨⟨by decide +kernel, by decide +kernel, by decide +kernel⟩, hw_11, hw_1408⟩, hw_1406, hw_1407⟩
noncomputable def f_X9_falls_J30 (m_limbs : Nat → Int32) (m_wide : Nat → Int32) (m_refused : Nat → Int32) (m_quiet : Int32) (m_is : Nat → Int32) (m_likes : Nat → Int32) (m_without : Int32) (m_onePicture : Int32) (m_first : Int32) (m_names : Nat → Int32) : Option (Int32 × Int32 × Int32 × Int32 × (Nat → Int32) × (Nat → Int32) × (Nat → Int32) × (Nat → Int32) × (Nat → Int32) × (Nat → Int32)) := Option.bind (f_X9_bad m_refused m_quiet) (fun u4 => some ((u4.1, m_without, m_onePicture, m_first, m_limbs, m_wide, u4.2, m_is, m_likes, m_names)))
noncomputable def f_X9_falls_J203 (x4_40 : Int32) (x5_41 : Int32) (rc146 : (Nat → Int32) → (Nat → Int32) → Int32 → Int32 → Option (Int32 × Int32 × Int32 × Int32 × (Nat → Int32) × (Nat → Int32) × (Nat → Int32) × (Nat → Int32) × (Nat → Int32) × (Nat → Int32))) (a_47 : Nat → Int32) (a_48 : Nat → Int32) (s1_49 : Int32) : Option (Int32 × Int32 × Int32 × Int32 × (Nat → Int32) × (Nat → Int32) × (Nat → Int32) × (Nat → Int32) × (Nat → Int32) × (Nat → Int32)) := rc146 a_47 a_48 (x4_40 ||| s1_49) (x5_41 + 1)
noncomputable def f_X9_falls_J202 (x4_40 : Int32) (x5_41 : Int32) (rc146 : (Nat → Int32) → (Nat → Int32) → Int32 → Int32 → Option (Int32 × Int32 × Int32 × Int32 × (Nat → Int32) × (Nat → Int32) × (Nat → Int32) × (Nat → Int32) × (Nat → Int32) × (Nat → Int32))) (a_45 : Nat → Int32) (a_46 : Nat → Int32) : Option (Int32 × Int32 × Int32 × Int32 × (Nat → Int32) × (Nat → Int32) × (Nat → Int32) × (Nat → Int32) × (Nat → Int32) × (Nat → Int32)) := f_X9_falls_J203 x4_40 x5_41 rc146 a_45 a_46 0
noncomputable def f_X9_falls_J195 (x4_40 : Int32) (x5_41 : Int32) (rc146 : (Nat → Int32) → (Nat → Int32) → Int32 → Int32 → Option (Int32 × Int32 × Int32 × Int32 × (Nat → Int32) × (Nat → Int32) × (Nat → Int32) × (Nat → Int32) × (Nat → Int32) × (Nat → Int32))) (a_53 : Nat → Int32) (a_54 : Nat → Int32) : Option (Int32 × Int32 × Int32 × Int32 × (Nat → Int32) × (Nat → Int32) × (Nat → Int32) × (Nat → Int32) × (Nat → Int32) × (Nat → Int32)) := f_X9_falls_J203 x4_40 x5_41 rc146 a_53 a_54 (1 <<< (x5_41 &&& 31))
noncomputable def f_X9_falls_L146 (m_book : Nat → Int32) (m_refused : Nat → Int32) (p1 : Int32) (p2 : Int32) (h_32 : Int32) (h_33 : Int32) (a_36 : Nat → Int32) (a_37 : Nat → Int32) (a_38 : Nat → Int32) (x3_39 : Int32) (rc146 : (Nat → Int32) → (Nat → Int32) → Int32 → Int32 → Option (Int32 × Int32 × Int32 × Int32 × (Nat → Int32) × (Nat → Int32) × (Nat → Int32) × (Nat → Int32) × (Nat → Int32) × (Nat → Int32))) (a_34 : Nat → Int32) (a_35 : Nat → Int32) (x4_40 : Int32) (x5_41 : Int32) : Option (Int32 × Int32 × Int32 × Int32 × (Nat → Int32) × (Nat → Int32) × (Nat → Int32) × (Nat → Int32) × (Nat → Int32) × (Nat → Int32)) := cx_gd (cx_ib 2 140) (if (m_book (cx_ix 2)) ≤ x5_41 then (some ((x4_40, p2, h_32, h_33, a_34, a_35, m_refused, a_36, a_37, a_38))) else (if ((x3_39 >>> (x5_41 &&& 31)) &&& 1) = 1 then (Option.bind (f_X9_isSure a_34 a_35 m_book x5_41 p1) (fun u50 => if u50.1 = 0 then (f_X9_falls_J195 x4_40 x5_41 rc146 u50.2.1 u50.2.2) else (Option.bind (f_X9_namedNow u50.2.1 u50.2.2 m_book x5_41) (fun u55 => cx_gd (cx_ib x5_41 6) (if u55 = (a_38 (cx_ix x5_41)) then (f_X9_falls_J202 x4_40 x5_41 rc146 u50.2.1 u50.2.2) else (f_X9_falls_J195 x4_40 x5_41 rc146 u50.2.1 u50.2.2)))))) else (f_X9_falls_J202 x4_40 x5_41 rc146 a_34 a_35)))
noncomputable def f_X9_falls_L146w (m_book : Nat → Int32) (m_refused : Nat → Int32) (p1 : Int32) (p2 : Int32) (h_32 : Int32) (h_33 : Int32) (a_36 : Nat → Int32) (a_37 : Nat → Int32) (a_38 : Nat → Int32) (x3_39 : Int32) (n : Nat) : (Nat → Int32) → (Nat → Int32) → Int32 → Int32 → Option (Int32 × Int32 × Int32 × Int32 × (Nat → Int32) × (Nat → Int32) × (Nat → Int32) × (Nat → Int32) × (Nat → Int32) × (Nat → Int32)) := Nat.rec (fun _ _ _ _ => none) (fun _ r => f_X9_falls_L146 m_book m_refused p1 p2 h_32 h_33 a_36 a_37 a_38 x3_39 r) n
noncomputable def f_X9_falls_J94 (m_book : Nat → Int32) (a_23 : Nat → Int32) (x3_24 : Int32) (x4_25 : Int32) (rc64 : (Nat → Int32) → (Nat → Int32) → (Nat → Int32) → Int32 → Int32 → Option (Int32 × Int32 × Int32 × Int32 × (Nat → Int32) × (Nat → Int32) × (Nat → Int32) × (Nat → Int32) × (Nat → Int32) × (Nat → Int32))) (a_64 : Nat → Int32) (a_65 : Nat → Int32) (s1_66 : Int32) : Option (Int32 × Int32 × Int32 × Int32 × (Nat → Int32) × (Nat → Int32) × (Nat → Int32) × (Nat → Int32) × (Nat → Int32) × (Nat → Int32)) := Option.bind (f_X9_namedNow a_64 a_65 m_book x4_25) (fun u67 => cx_gd (cx_ib x4_25 6) (cx_let (upd a_23 (cx_ix x4_25) u67) (fun a70 => rc64 a_64 a_65 a70 (x3_24 ||| s1_66) (x4_25 + 1))))
noncomputable def f_X9_falls_L64 (m_book : Nat → Int32) (m_refused : Nat → Int32) (m_quiet : Int32) (m_oneYear : Int32) (m_second : Int32) (p1 : Int32) (p2 : Int32) (h_16 : Int32) (h_17 : Int32) (h_18 : Int32) (a_21 : Nat → Int32) (a_22 : Nat → Int32) (rc64 : (Nat → Int32) → (Nat → Int32) → (Nat → Int32) → Int32 → Int32 → Option (Int32 × Int32 × Int32 × Int32 × (Nat → Int32) × (Nat → Int32) × (Nat → Int32) × (Nat → Int32) × (Nat → Int32) × (Nat → Int32))) (a_19 : Nat → Int32) (a_20 : Nat → Int32) (a_23 : Nat → Int32) (x3_24 : Int32) (x4_25 : Int32) : Option (Int32 × Int32 × Int32 × Int32 × (Nat → Int32) × (Nat → Int32) × (Nat → Int32) × (Nat → Int32) × (Nat → Int32) × (Nat → Int32)) := cx_gd (cx_ib 2 140) (if (m_book (cx_ix 2)) ≤ x4_25 then (Option.bind (f_X9_shares a_19 a_20 m_book a_21 a_22 p2 h_17 m_oneYear h_18 m_second ((-1))) (fun u28 => cx_gd (cx_ib 6 270) (if (u28.2.1 (cx_ix 6)) = 0 then (Option.bind (f_X9_no m_refused m_quiet) (fun u59 => some ((u59.1, p2, h_17, h_18, u28.1, u28.2.1, u59.2, u28.2.2, a_22, a_23)))) else (f_X9_falls_L146w m_book m_refused p1 p2 h_17 h_18 u28.2.2 a_22 a_23 x3_24 cx_N0 u28.1 u28.2.1 0 0)))) else (Option.bind (f_X9_isSure a_19 a_20 m_book x4_25 p1) (fun u61 => if u61.1 = 0 then (f_X9_falls_J94 m_book a_23 x3_24 x4_25 rc64 u61.2.1 u61.2.2 0) else (f_X9_falls_J94 m_book a_23 x3_24 x4_25 rc64 u61.2.1 u61.2.2 (1 <<< (x4_25 &&& 31))))))
noncomputable def f_X9_falls_L64w (m_book : Nat → Int32) (m_refused : Nat → Int32) (m_quiet : Int32) (m_oneYear : Int32) (m_second : Int32) (p1 : Int32) (p2 : Int32) (h_16 : Int32) (h_17 : Int32) (h_18 : Int32) (a_21 : Nat → Int32) (a_22 : Nat → Int32) (n : Nat) : (Nat → Int32) → (Nat → Int32) → (Nat → Int32) → Int32 → Int32 → Option (Int32 × Int32 × Int32 × Int32 × (Nat → Int32) × (Nat → Int32) × (Nat → Int32) × (Nat → Int32) × (Nat → Int32) × (Nat → Int32)) := Nat.rec (fun _ _ _ _ _ => none) (fun _ r => f_X9_falls_L64 m_book m_refused m_quiet m_oneYear m_second p1 p2 h_16 h_17 h_18 a_21 a_22 r) n
noncomputable def f_X9_falls (m_limbs : Nat → Int32) (m_wide : Nat → Int32) (m_book : Nat → Int32) (m_refused : Nat → Int32) (m_quiet : Int32) (m_is : Nat → Int32) (m_likes : Nat → Int32) (m_without : Int32) (m_onePicture : Int32) (m_oneYear : Int32) (m_first : Int32) (m_second : Int32) (m_names : Nat → Int32) (p1 : Int32) (p2 : Int32) : Option (Int32 × Int32 × Int32 × Int32 × (Nat → Int32) × (Nat → Int32) × (Nat → Int32) × (Nat → Int32) × (Nat → Int32) × (Nat → Int32)) := Option.bind (f_X9_in (Int32.toInt64 p1) 0 100) (fun u1 => if u1 = 0 then (f_X9_falls_J30 m_limbs m_wide m_refused m_quiet m_is m_likes m_without m_onePicture m_first m_names) else (cx_gd (cx_ib 3 140) (Option.bind (f_X9_in (Int32.toInt64 p2) 0 (Int32.toInt64 ((m_book (cx_ix 3)) - 1))) (fun u7 => if u7 = 0 then (f_X9_falls_J30 m_limbs m_wide m_refused m_quiet m_is m_likes m_without m_onePicture m_first m_names) else (Option.bind (f_X9_begins m_book m_likes) (fun u10 => Option.bind (f_X9_shares m_limbs m_wide m_book m_is u10.2.2.2 u10.1 u10.2.1 m_oneYear u10.2.2.1 m_second ((-1))) (fun u12 => cx_gd (cx_ib 6 270) (if (u12.2.1 (cx_ix 6)) = 0 then (Option.bind (f_X9_no m_refused m_quiet) (fun u71 => some ((u71.1, u10.1, u10.2.1, u10.2.2.1, u12.1, u12.2.1, u71.2, u12.2.2, u10.2.2.2, m_names)))) else (f_X9_falls_L64w m_book m_refused m_quiet m_oneYear m_second p1 p2 u10.1 u10.2.1 u10.2.2.1 u12.2.2 u10.2.2.2 cx_N0 u12.1 u12.2.1 m_names 0 0)))))))))
set_option maxHeartbeats 4000000 in
set_option maxRecDepth 100000 in
theorem c_X9_falls (l : Launch) (D : va_G) (k : Nat → ClassId) (m_a : Nat → Nat) (m_limbs : Nat → Int32) (m_wide : Nat → Int32) (m_book : Nat → Int32) (m_images : Nat → Int32) (m_kept : Nat → Int32) (m_before : Nat → Int32) (m_refused : Nat → Int32) (m_quiet : Int32) (m_text : Nat → Int32) (m_typed : Int32) (m_at : Int32) (m_start : Int32) (m_token : Int32) (m_value : Int32) (m_items : Nat → Int32) (m_many : Int32) (m_is : Nat → Int32) (m_likes : Nat → Int32) (m_without : Int32) (m_onePicture : Int32) (m_oneYear : Int32) (m_first : Int32) (m_second : Int32) (m_names : Nat → Int32) (p1 : Int32) (p2 : Int32) (y : Int32 × Int32 × Int32 × Int32 × (Nat → Int32) × (Nat → Int32) × (Nat → Int32) × (Nat → Int32) × (Nat → Int32) × (Nat → Int32)) (hf : f_X9_falls m_limbs m_wide m_book m_refused m_quiet m_is m_likes m_without m_onePicture m_oneYear m_first m_second m_names p1 p2 = some y) : cx_M l yX9_falls cX9_falls 6 (some .int) 7 D k [.ref (m_a 0), .int p1, .int p2] (wd_Model k m_a m_limbs m_wide m_book m_images m_kept m_before m_refused m_quiet m_text m_typed m_at m_start m_token m_value m_items m_many m_is m_likes m_without m_onePicture m_oneYear m_first m_second m_names) (fun sz => cx_Qi D y.1 (wd_Model k m_a m_limbs m_wide m_book m_images m_kept m_before m_refused m_quiet m_text m_typed m_at m_start m_token m_value m_items m_many m_is m_likes m_without m_onePicture m_oneYear m_first m_second m_names) (wd_Model k m_a y.2.2.2.2.1 y.2.2.2.2.2.1 m_book m_images m_kept m_before y.2.2.2.2.2.2.1 m_quiet m_text m_typed m_at m_start m_token m_value m_items m_many y.2.2.2.2.2.2.2.1 y.2.2.2.2.2.2.2.2.1 y.2.1 y.2.2.1 m_oneYear y.2.2.2.1 m_second y.2.2.2.2.2.2.2.2.2) sz) := by
  refine cx_met (own := "NamelessBoxModel") (by decide) rfl (Nat.le_of_ble_eq_true rfl) ?_
  intro p e s m args below meth c A Q C hA hQ hr hlk
  refine cx_lv (lv' := [(0, .ref (m_a 0)), (1, .int p1), (2, .int p2)]) [0, 1, 2] rfl ?_
  have J30 : f_X9_falls_J30 m_limbs m_wide m_refused m_quiet m_is m_likes m_without m_onePicture m_first m_names = some y → cx_S p l e (cx_rm 7) s m args below meth c A D 6 0 0 Q 30 [(0, .ref (m_a 0))] [] (wd_Model k m_a m_limbs m_wide m_book m_images m_kept m_before m_refused m_quiet m_text m_typed m_at m_start m_token m_value m_items m_many m_is m_likes m_without m_onePicture m_oneYear m_first m_second m_names) := by
    intro  hf
    unfold f_X9_falls_J30 at hf
    refine cx_aload_n C dX9_falls_30 0 rfl ?_
    obtain ⟨u4, e5, hf⟩ := cx_bd_at hf
    refine cx_Fvi (q := (RX9, TX9, 24)) (As := []) (rest := []) (w1 := (wd_Model k m_a m_limbs m_wide m_book m_images m_kept m_before u4.2 m_quiet m_text m_typed m_at m_start m_token m_value m_items m_many m_is m_likes m_without m_onePicture m_oneYear m_first m_second m_names)) hA C me_X9_bad hw_1137 (c_X9_bad l D k m_a m_limbs m_wide m_book m_images m_kept m_before m_refused m_quiet m_text m_typed m_at m_start m_token m_value m_items m_many m_is m_likes m_without m_onePicture m_oneYear m_first m_second m_names u4 e5) dX9_falls_31 ⟨Nat.le_of_ble_eq_true rfl, Nat.le_of_ble_eq_true rfl⟩ ⟨Nat.zero_le _, Nat.zero_le _⟩ rfl rfl (Nat.le_of_ble_eq_true rfl) rfl rfl rfl ?_
    clear e5
    obtain rfl := Option.some.inj hf
    exact cx_iret C hA hQ hr hlk dX9_falls_34 rfl rfl
  have L146 : ∀ (h_32 : Int32) (h_33 : Int32) (a_36 : Nat → Int32) (a_37 : Nat → Int32) (a_38 : Nat → Int32) (x3_39 : Int32) (n146 : Nat) (a_34 : Nat → Int32) (a_35 : Nat → Int32) (x4_40 : Int32) (x5_41 : Int32), f_X9_falls_L146w m_book m_refused p1 p2 h_32 h_33 a_36 a_37 a_38 x3_39 n146 a_34 a_35 x4_40 x5_41 = some y → cx_S p l e (cx_rm 7) s m args below meth c A D 6 0 0 Q 146 [(0, .ref (m_a 0)), (1, .int p1), (3, .int x3_39), (4, .int x4_40), (5, .int x5_41)] [] (wd_Model k m_a a_34 a_35 m_book m_images m_kept m_before m_refused m_quiet m_text m_typed m_at m_start m_token m_value m_items m_many a_36 a_37 p2 h_32 m_oneYear h_33 m_second a_38) := by
    intro h_32 h_33 a_36 a_37 a_38 x3_39 n146
    induction n146 with
    | zero =>
      intro a_34 a_35 x4_40 x5_41 hf
      exact absurd (show (none : Option (Int32 × Int32 × Int32 × Int32 × (Nat → Int32) × (Nat → Int32) × (Nat → Int32) × (Nat → Int32) × (Nat → Int32) × (Nat → Int32))) = some y from hf) (fun h => by cases h)
    | succ n146 ih146 =>
      intro a_34 a_35 x4_40 x5_41 hf
      have hf : f_X9_falls_L146 m_book m_refused p1 p2 h_32 h_33 a_36 a_37 a_38 x3_39 (f_X9_falls_L146w m_book m_refused p1 p2 h_32 h_33 a_36 a_37 a_38 x3_39 n146) a_34 a_35 x4_40 x5_41 = some y := hf
      have J203 : ∀ (a_47 : Nat → Int32) (a_48 : Nat → Int32) (s1_49 : Int32), f_X9_falls_J203 x4_40 x5_41 (f_X9_falls_L146w m_book m_refused p1 p2 h_32 h_33 a_36 a_37 a_38 x3_39 n146) a_47 a_48 s1_49 = some y → cx_S p l e (cx_rm 7) s m args below meth c A D 6 0 0 Q 203 [(0, .ref (m_a 0)), (1, .int p1), (3, .int x3_39), (5, .int x5_41)] [.int s1_49, .int x4_40] (wd_Model k m_a a_47 a_48 m_book m_images m_kept m_before m_refused m_quiet m_text m_typed m_at m_start m_token m_value m_items m_many a_36 a_37 p2 h_32 m_oneYear h_33 m_second a_38) := by
        intro a_47 a_48 s1_49 hf
        unfold f_X9_falls_J203 at hf
        refine cx_ior C dX9_falls_203 ?_
        refine cx_istore (lv' := [(4, .int (x4_40 ||| s1_49)), (0, .ref (m_a 0)), (1, .int p1), (3, .int x3_39), (5, .int x5_41)]) C dX9_falls_204 (by decide) rfl ?_
        refine cx_iinc (v := x5_41 + 1) (lv' := [(5, .int (x5_41 + 1)), (4, .int (x4_40 ||| s1_49)), (0, .ref (m_a 0)), (1, .int p1), (3, .int x3_39)]) C dX9_falls_206 4 rfl rfl (by decide) rfl ?_
        refine cx_goto (tgt := 146) C dX9_falls_209 (by decide) ?_
        refine cx_lv [2, 3, 4, 1, 0] rfl ?_
        exact ih146 a_47 a_48 (x4_40 ||| s1_49) (x5_41 + 1) hf
      have J202 : ∀ (a_45 : Nat → Int32) (a_46 : Nat → Int32), f_X9_falls_J202 x4_40 x5_41 (f_X9_falls_L146w m_book m_refused p1 p2 h_32 h_33 a_36 a_37 a_38 x3_39 n146) a_45 a_46 = some y → cx_S p l e (cx_rm 7) s m args below meth c A D 6 0 0 Q 202 [(0, .ref (m_a 0)), (1, .int p1), (3, .int x3_39), (5, .int x5_41)] [.int x4_40] (wd_Model k m_a a_45 a_46 m_book m_images m_kept m_before m_refused m_quiet m_text m_typed m_at m_start m_token m_value m_items m_many a_36 a_37 p2 h_32 m_oneYear h_33 m_second a_38) := by
        intro a_45 a_46 hf
        unfold f_X9_falls_J202 at hf
        refine cx_iconst (v := 0) C dX9_falls_202 (by decide) ?_
        exact J203 a_45 a_46 0 hf
      have J195 : ∀ (a_53 : Nat → Int32) (a_54 : Nat → Int32), f_X9_falls_J195 x4_40 x5_41 (f_X9_falls_L146w m_book m_refused p1 p2 h_32 h_33 a_36 a_37 a_38 x3_39 n146) a_53 a_54 = some y → cx_S p l e (cx_rm 7) s m args below meth c A D 6 0 0 Q 195 [(0, .ref (m_a 0)), (1, .int p1), (3, .int x3_39), (5, .int x5_41)] [.int x4_40] (wd_Model k m_a a_53 a_54 m_book m_images m_kept m_before m_refused m_quiet m_text m_typed m_at m_start m_token m_value m_items m_many a_36 a_37 p2 h_32 m_oneYear h_33 m_second a_38) := by
        intro a_53 a_54 hf
        unfold f_X9_falls_J195 at hf
        refine cx_iconst (v := 1) C dX9_falls_195 (by decide) ?_
        refine cx_iload C dX9_falls_196 3 rfl ?_
        refine cx_ishl C dX9_falls_198 ?_
        refine cx_goto (tgt := 203) C dX9_falls_199 (by decide) ?_
        exact J203 a_53 a_54 (1 <<< (x5_41 &&& 31)) hf
      unfold f_X9_falls_L146 at hf
      refine cx_iload C dX9_falls_146 4 rfl ?_
      refine cx_aload_n C dX9_falls_148 0 rfl ?_
      refine cx_get (v := .ref (m_a 3)) (ci := 8) C iX9 dX9_falls_149 0 rfl rfl 2 (by decide) hw_1056 rfl ?_
      refine cx_iconst (v := 2) C dX9_falls_152 (by decide) ?_
      obtain ⟨g42, hf⟩ := cx_gd_at hf
      refine cx_iald C dX9_falls_153 3 rfl (cx_ib_in g42) ?_
      clear g42
      refine cx_icmp_ge (tgt := 212) C dX9_falls_154 (by decide) (fun c43 => ?_) (fun c43 => ?_)
      · have hf := cx_if_t hf c43
        clear c43
        refine cx_iload C dX9_falls_212 3 rfl ?_
        obtain rfl := Option.some.inj hf
        exact cx_iret C hA hQ hr hlk dX9_falls_214 rfl rfl
      · have hf := cx_if_f hf c43
        clear c43
        refine cx_iload C dX9_falls_157 3 rfl ?_
        refine cx_iload_n C dX9_falls_159 2 rfl ?_
        refine cx_iload C dX9_falls_160 4 rfl ?_
        refine cx_ishr C dX9_falls_162 ?_
        refine cx_iconst (v := 1) C dX9_falls_163 (by decide) ?_
        refine cx_iand C dX9_falls_164 ?_
        refine cx_iconst (v := 1) C dX9_falls_165 (by decide) ?_
        refine cx_icmp_ne (tgt := 202) C dX9_falls_166 (by decide) (fun c44 => ?_) (fun c44 => ?_)
        · have hf := cx_if_f hf c44
          clear c44
          refine cx_lv [0, 1, 2, 4] rfl ?_
          exact J202 a_34 a_35 hf
        · have hf := cx_if_t hf c44
          clear c44
          refine cx_aload_n C dX9_falls_169 0 rfl ?_
          refine cx_iload C dX9_falls_170 4 rfl ?_
          refine cx_iload_n C dX9_falls_172 1 rfl ?_
          obtain ⟨u50, e51, hf⟩ := cx_bd_at hf
          refine cx_Fvi (q := (RX9, TX9, 24)) (As := [.int x5_41, .int p1]) (rest := [.int x4_40]) (w1 := (wd_Model k m_a u50.2.1 u50.2.2 m_book m_images m_kept m_before m_refused m_quiet m_text m_typed m_at m_start m_token m_value m_items m_many a_36 a_37 p2 h_32 m_oneYear h_33 m_second a_38)) hA C me_X9_isSure hw_1401 (c_X9_isSure l D k m_a a_34 a_35 m_book m_images m_kept m_before m_refused m_quiet m_text m_typed m_at m_start m_token m_value m_items m_many a_36 a_37 p2 h_32 m_oneYear h_33 m_second a_38 x5_41 p1 u50 e51) dX9_falls_173 ⟨Nat.le_of_ble_eq_true rfl, Nat.le_of_ble_eq_true rfl⟩ ⟨Nat.zero_le _, Nat.zero_le _⟩ rfl rfl (Nat.le_of_ble_eq_true rfl) rfl rfl rfl ?_
          clear e51
          refine cx_if_eq (tgt := 195) C dX9_falls_176 (by decide) (fun c52 => ?_) (fun c52 => ?_)
          · have hf := cx_if_t hf c52
            clear c52
            refine cx_lv [0, 1, 2, 4] rfl ?_
            exact J195 u50.2.1 u50.2.2 hf
          · have hf := cx_if_f hf c52
            clear c52
            refine cx_aload_n C dX9_falls_179 0 rfl ?_
            refine cx_iload C dX9_falls_180 4 rfl ?_
            obtain ⟨u55, e56, hf⟩ := cx_bd_at hf
            refine cx_Fvi (q := (RX9, TX9, 24)) (As := [.int x5_41]) (rest := [.int x4_40]) (w1 := (wd_Model k m_a u50.2.1 u50.2.2 m_book m_images m_kept m_before m_refused m_quiet m_text m_typed m_at m_start m_token m_value m_items m_many a_36 a_37 p2 h_32 m_oneYear h_33 m_second a_38)) hA C me_X9_namedNow hw_1373 (c_X9_namedNow l D k m_a u50.2.1 u50.2.2 m_book m_images m_kept m_before m_refused m_quiet m_text m_typed m_at m_start m_token m_value m_items m_many a_36 a_37 p2 h_32 m_oneYear h_33 m_second a_38 x5_41 u55 e56) dX9_falls_182 ⟨Nat.le_of_ble_eq_true rfl, Nat.le_of_ble_eq_true rfl⟩ ⟨Nat.zero_le _, Nat.zero_le _⟩ rfl rfl (Nat.le_of_ble_eq_true rfl) rfl rfl rfl ?_
            clear e56
            refine cx_aload_n C dX9_falls_185 0 rfl ?_
            refine cx_get (v := .ref (m_a 12)) (ci := 8) C iX9 dX9_falls_186 0 rfl rfl 23 (by decide) hw_1077 rfl ?_
            refine cx_iload C dX9_falls_189 4 rfl ?_
            obtain ⟨g57, hf⟩ := cx_gd_at hf
            refine cx_iald C dX9_falls_191 12 rfl (cx_ib_in g57) ?_
            clear g57
            refine cx_icmp_eq (tgt := 202) C dX9_falls_192 (by decide) (fun c58 => ?_) (fun c58 => ?_)
            · have hf := cx_if_t hf c58
              clear c58
              refine cx_lv [0, 1, 2, 4] rfl ?_
              exact J202 u50.2.1 u50.2.2 hf
            · have hf := cx_if_f hf c58
              clear c58
              refine cx_lv [0, 1, 2, 4] rfl ?_
              exact J195 u50.2.1 u50.2.2 hf
  have L64 : ∀ (h_16 : Int32) (h_17 : Int32) (h_18 : Int32) (a_21 : Nat → Int32) (a_22 : Nat → Int32) (n64 : Nat) (a_19 : Nat → Int32) (a_20 : Nat → Int32) (a_23 : Nat → Int32) (x3_24 : Int32) (x4_25 : Int32), f_X9_falls_L64w m_book m_refused m_quiet m_oneYear m_second p1 p2 h_16 h_17 h_18 a_21 a_22 n64 a_19 a_20 a_23 x3_24 x4_25 = some y → cx_S p l e (cx_rm 7) s m args below meth c A D 6 0 0 Q 64 [(0, .ref (m_a 0)), (1, .int p1), (2, .int p2), (3, .int x3_24), (4, .int x4_25)] [] (wd_Model k m_a a_19 a_20 m_book m_images m_kept m_before m_refused m_quiet m_text m_typed m_at m_start m_token m_value m_items m_many a_21 a_22 h_16 h_17 m_oneYear h_18 m_second a_23) := by
    intro h_16 h_17 h_18 a_21 a_22 n64
    induction n64 with
    | zero =>
      intro a_19 a_20 a_23 x3_24 x4_25 hf
      exact absurd (show (none : Option (Int32 × Int32 × Int32 × Int32 × (Nat → Int32) × (Nat → Int32) × (Nat → Int32) × (Nat → Int32) × (Nat → Int32) × (Nat → Int32))) = some y from hf) (fun h => by cases h)
    | succ n64 ih64 =>
      intro a_19 a_20 a_23 x3_24 x4_25 hf
      have hf : f_X9_falls_L64 m_book m_refused m_quiet m_oneYear m_second p1 p2 h_16 h_17 h_18 a_21 a_22 (f_X9_falls_L64w m_book m_refused m_quiet m_oneYear m_second p1 p2 h_16 h_17 h_18 a_21 a_22 n64) a_19 a_20 a_23 x3_24 x4_25 = some y := hf
      have J94 : ∀ (a_64 : Nat → Int32) (a_65 : Nat → Int32) (s1_66 : Int32), f_X9_falls_J94 m_book a_23 x3_24 x4_25 (f_X9_falls_L64w m_book m_refused m_quiet m_oneYear m_second p1 p2 h_16 h_17 h_18 a_21 a_22 n64) a_64 a_65 s1_66 = some y → cx_S p l e (cx_rm 7) s m args below meth c A D 6 0 0 Q 94 [(0, .ref (m_a 0)), (1, .int p1), (2, .int p2), (4, .int x4_25)] [.int s1_66, .int x3_24] (wd_Model k m_a a_64 a_65 m_book m_images m_kept m_before m_refused m_quiet m_text m_typed m_at m_start m_token m_value m_items m_many a_21 a_22 h_16 h_17 m_oneYear h_18 m_second a_23) := by
        intro a_64 a_65 s1_66 hf
        unfold f_X9_falls_J94 at hf
        refine cx_ior C dX9_falls_94 ?_
        refine cx_istore_n (lv' := [(3, .int (x3_24 ||| s1_66)), (0, .ref (m_a 0)), (1, .int p1), (2, .int p2), (4, .int x4_25)]) C dX9_falls_95 rfl (by decide) rfl ?_
        refine cx_aload_n C dX9_falls_96 1 rfl ?_
        refine cx_get (v := .ref (m_a 12)) (ci := 8) C iX9 dX9_falls_97 0 rfl rfl 23 (by decide) hw_1077 rfl ?_
        refine cx_iload C dX9_falls_100 4 rfl ?_
        refine cx_aload_n C dX9_falls_102 1 rfl ?_
        refine cx_iload C dX9_falls_103 4 rfl ?_
        obtain ⟨u67, e68, hf⟩ := cx_bd_at hf
        refine cx_Fvi (q := (RX9, TX9, 24)) (As := [.int x4_25]) (rest := [.int x4_25, .ref (m_a 12)]) (w1 := (wd_Model k m_a a_64 a_65 m_book m_images m_kept m_before m_refused m_quiet m_text m_typed m_at m_start m_token m_value m_items m_many a_21 a_22 h_16 h_17 m_oneYear h_18 m_second a_23)) hA C me_X9_namedNow hw_1373 (c_X9_namedNow l D k m_a a_64 a_65 m_book m_images m_kept m_before m_refused m_quiet m_text m_typed m_at m_start m_token m_value m_items m_many a_21 a_22 h_16 h_17 m_oneYear h_18 m_second a_23 x4_25 u67 e68) dX9_falls_105 ⟨Nat.le_of_ble_eq_true rfl, Nat.le_of_ble_eq_true rfl⟩ ⟨Nat.zero_le _, Nat.zero_le _⟩ rfl rfl (Nat.le_of_ble_eq_true rfl) rfl rfl rfl ?_
        clear e68
        obtain ⟨g69, hf⟩ := cx_gd_at hf
        obtain ⟨a70, ea70⟩ : ∃ z, z = upd a_23 (cx_ix x4_25) u67 := ⟨_, rfl⟩
        have hf := cx_let_at hf ea70
        refine cx_iast (ws' := (wd_Model k m_a a_64 a_65 m_book m_images m_kept m_before m_refused m_quiet m_text m_typed m_at m_start m_token m_value m_items m_many a_21 a_22 h_16 h_17 m_oneYear h_18 m_second a70)) C dX9_falls_108 12 rfl (cx_ib_in g69) (by rw [ea70]; rfl) ?_
        clear ea70 g69
        refine cx_iinc (v := x4_25 + 1) (lv' := [(4, .int (x4_25 + 1)), (3, .int (x3_24 ||| s1_66)), (0, .ref (m_a 0)), (1, .int p1), (2, .int p2)]) C dX9_falls_109 4 rfl rfl (by decide) rfl ?_
        refine cx_goto (tgt := 64) C dX9_falls_112 (by decide) ?_
        refine cx_lv [2, 3, 4, 1, 0] rfl ?_
        exact ih64 a_64 a_65 a70 (x3_24 ||| s1_66) (x4_25 + 1) hf
      unfold f_X9_falls_L64 at hf
      refine cx_iload C dX9_falls_64 4 rfl ?_
      refine cx_aload_n C dX9_falls_66 0 rfl ?_
      refine cx_get (v := .ref (m_a 3)) (ci := 8) C iX9 dX9_falls_67 0 rfl rfl 2 (by decide) hw_1056 rfl ?_
      refine cx_iconst (v := 2) C dX9_falls_70 (by decide) ?_
      obtain ⟨g26, hf⟩ := cx_gd_at hf
      refine cx_iald C dX9_falls_71 3 rfl (cx_ib_in g26) ?_
      clear g26
      refine cx_icmp_ge (tgt := 115) C dX9_falls_72 (by decide) (fun c27 => ?_) (fun c27 => ?_)
      · have hf := cx_if_t hf c27
        clear c27
        refine cx_aload_n C dX9_falls_115 0 rfl ?_
        refine cx_iload_n C dX9_falls_116 2 rfl ?_
        refine cx_putf (v := .int p2) (ty := .int) (ci := 8) (ws' := (wd_Model k m_a a_19 a_20 m_book m_images m_kept m_before m_refused m_quiet m_text m_typed m_at m_start m_token m_value m_items m_many a_21 a_22 p2 h_17 m_oneYear h_18 m_second a_23)) C iX9 tyX9 tyX9_ok nmX9 dX9_falls_117 0 rfl rfl 18 (by decide) hw_1072 rfl (by decide +kernel) rfl rfl (Nat.le_of_ble_eq_true rfl) rfl ?_
        refine cx_aload_n C dX9_falls_120 0 rfl ?_
        refine cx_iconst (v := (-1)) C dX9_falls_121 (by decide) ?_
        obtain ⟨u28, e29, hf⟩ := cx_bd_at hf
        refine cx_Fvv (q := (RX9, TX9, 24)) (As := [.int ((-1))]) (rest := []) (w1 := (wd_Model k m_a u28.1 u28.2.1 m_book m_images m_kept m_before m_refused m_quiet m_text m_typed m_at m_start m_token m_value m_items m_many u28.2.2 a_22 p2 h_17 m_oneYear h_18 m_second a_23)) hA C me_X9_shares hw_1288 (c_X9_shares l D k m_a a_19 a_20 m_book m_images m_kept m_before m_refused m_quiet m_text m_typed m_at m_start m_token m_value m_items m_many a_21 a_22 p2 h_17 m_oneYear h_18 m_second a_23 ((-1)) u28 e29) dX9_falls_122 ⟨Nat.le_of_ble_eq_true rfl, Nat.le_of_ble_eq_true rfl⟩ ⟨Nat.zero_le _, Nat.zero_le _⟩ rfl rfl (Nat.le_of_ble_eq_true rfl) rfl rfl rfl ?_
        clear e29
        refine cx_aload_n C dX9_falls_125 0 rfl ?_
        refine cx_get (v := .ref (m_a 2)) (ci := 8) C iX9 dX9_falls_126 0 rfl rfl 1 (by decide) hw_1055 rfl ?_
        refine cx_bipush (v := 6) C dX9_falls_129 (by decide) ?_
        obtain ⟨g30, hf⟩ := cx_gd_at hf
        refine cx_iald C dX9_falls_131 2 rfl (cx_ib_in g30) ?_
        clear g30
        refine cx_if_ne (tgt := 140) C dX9_falls_132 (by decide) (fun c31 => ?_) (fun c31 => ?_)
        · have hf := cx_if_f hf c31
          clear c31
          refine cx_iconst (v := 0) C dX9_falls_140 (by decide) ?_
          refine cx_istore (lv' := [(4, .int 0), (0, .ref (m_a 0)), (1, .int p1), (2, .int p2), (3, .int x3_24)]) C dX9_falls_141 (by decide) rfl ?_
          refine cx_iconst (v := 0) C dX9_falls_143 (by decide) ?_
          refine cx_istore (lv' := [(5, .int 0), (4, .int 0), (0, .ref (m_a 0)), (1, .int p1), (2, .int p2), (3, .int x3_24)]) C dX9_falls_144 (by decide) rfl ?_
          refine cx_lv [2, 3, 5, 1, 0] rfl ?_
          exact L146 h_17 h_18 u28.2.2 a_22 a_23 x3_24 cx_N0 u28.1 u28.2.1 0 0 hf
        · have hf := cx_if_t hf c31
          clear c31
          refine cx_aload_n C dX9_falls_135 0 rfl ?_
          obtain ⟨u59, e60, hf⟩ := cx_bd_at hf
          refine cx_Fvi (q := (RX9, TX9, 24)) (As := []) (rest := []) (w1 := (wd_Model k m_a u28.1 u28.2.1 m_book m_images m_kept m_before u59.2 m_quiet m_text m_typed m_at m_start m_token m_value m_items m_many u28.2.2 a_22 p2 h_17 m_oneYear h_18 m_second a_23)) hA C me_X9_no hw_1337 (c_X9_no l D k m_a u28.1 u28.2.1 m_book m_images m_kept m_before m_refused m_quiet m_text m_typed m_at m_start m_token m_value m_items m_many u28.2.2 a_22 p2 h_17 m_oneYear h_18 m_second a_23 u59 e60) dX9_falls_136 ⟨Nat.le_of_ble_eq_true rfl, Nat.le_of_ble_eq_true rfl⟩ ⟨Nat.zero_le _, Nat.zero_le _⟩ rfl rfl (Nat.le_of_ble_eq_true rfl) rfl rfl rfl ?_
          clear e60
          obtain rfl := Option.some.inj hf
          exact cx_iret C hA hQ hr hlk dX9_falls_139 rfl rfl
      · have hf := cx_if_f hf c27
        clear c27
        refine cx_iload_n C dX9_falls_75 3 rfl ?_
        refine cx_aload_n C dX9_falls_76 0 rfl ?_
        refine cx_iload C dX9_falls_77 4 rfl ?_
        refine cx_iload_n C dX9_falls_79 1 rfl ?_
        obtain ⟨u61, e62, hf⟩ := cx_bd_at hf
        refine cx_Fvi (q := (RX9, TX9, 24)) (As := [.int x4_25, .int p1]) (rest := [.int x3_24]) (w1 := (wd_Model k m_a u61.2.1 u61.2.2 m_book m_images m_kept m_before m_refused m_quiet m_text m_typed m_at m_start m_token m_value m_items m_many a_21 a_22 h_16 h_17 m_oneYear h_18 m_second a_23)) hA C me_X9_isSure hw_1401 (c_X9_isSure l D k m_a a_19 a_20 m_book m_images m_kept m_before m_refused m_quiet m_text m_typed m_at m_start m_token m_value m_items m_many a_21 a_22 h_16 h_17 m_oneYear h_18 m_second a_23 x4_25 p1 u61 e62) dX9_falls_80 ⟨Nat.le_of_ble_eq_true rfl, Nat.le_of_ble_eq_true rfl⟩ ⟨Nat.zero_le _, Nat.zero_le _⟩ rfl rfl (Nat.le_of_ble_eq_true rfl) rfl rfl rfl ?_
        clear e62
        refine cx_if_eq (tgt := 93) C dX9_falls_83 (by decide) (fun c63 => ?_) (fun c63 => ?_)
        · have hf := cx_if_t hf c63
          clear c63
          refine cx_iconst (v := 0) C dX9_falls_93 (by decide) ?_
          refine cx_lv [0, 1, 2, 4] rfl ?_
          exact J94 u61.2.1 u61.2.2 0 hf
        · have hf := cx_if_f hf c63
          clear c63
          refine cx_iconst (v := 1) C dX9_falls_86 (by decide) ?_
          refine cx_iload C dX9_falls_87 4 rfl ?_
          refine cx_ishl C dX9_falls_89 ?_
          refine cx_goto (tgt := 94) C dX9_falls_90 (by decide) ?_
          refine cx_lv [0, 1, 2, 4] rfl ?_
          exact J94 u61.2.1 u61.2.2 (1 <<< (x4_25 &&& 31)) hf
  unfold f_X9_falls at hf
  refine cx_iload_n C dX9_falls_0 1 rfl ?_
  refine cx_i2l C dX9_falls_1 ?_
  refine cx_lconst (v := 0) C dX9_falls_2 (by decide) ?_
  refine cx_ldc2 (v := 100) C dX9_falls_3 hw_1135 ?_
  obtain ⟨u1, e2, hf⟩ := cx_bd_at hf
  refine cx_Ksi (As := [.long (Int32.toInt64 p1), .long 0, .long 100]) (rest := []) hA C me_X9_in hw_1132 (c_X9_in l D k (Int32.toInt64 p1) 0 100 u1 e2) dX9_falls_6 ⟨Nat.le_of_ble_eq_true rfl, Nat.le_of_ble_eq_true rfl⟩ ⟨Nat.zero_le _, Nat.zero_le _⟩ rfl rfl (Nat.le_of_ble_eq_true rfl) [] rfl (by decide) ?_
  clear e2
  refine cx_if_eq (tgt := 30) C dX9_falls_9 (by decide) (fun c3 => ?_) (fun c3 => ?_)
  · have hf := cx_if_t hf c3
    clear c3
    refine cx_lv [0] rfl ?_
    exact J30 hf
  · have hf := cx_if_f hf c3
    clear c3
    refine cx_iload_n C dX9_falls_12 2 rfl ?_
    refine cx_i2l C dX9_falls_13 ?_
    refine cx_lconst (v := 0) C dX9_falls_14 (by decide) ?_
    refine cx_aload_n C dX9_falls_15 0 rfl ?_
    refine cx_get (v := .ref (m_a 3)) (ci := 8) C iX9 dX9_falls_16 0 rfl rfl 2 (by decide) hw_1056 rfl ?_
    refine cx_iconst (v := 3) C dX9_falls_19 (by decide) ?_
    obtain ⟨g6, hf⟩ := cx_gd_at hf
    refine cx_iald C dX9_falls_20 3 rfl (cx_ib_in g6) ?_
    clear g6
    refine cx_iconst (v := 1) C dX9_falls_21 (by decide) ?_
    refine cx_isub C dX9_falls_22 ?_
    refine cx_i2l C dX9_falls_23 ?_
    obtain ⟨u7, e8, hf⟩ := cx_bd_at hf
    refine cx_Ksi (As := [.long (Int32.toInt64 p2), .long 0, .long (Int32.toInt64 ((m_book (cx_ix 3)) - 1))]) (rest := []) hA C me_X9_in hw_1132 (c_X9_in l D k (Int32.toInt64 p2) 0 (Int32.toInt64 ((m_book (cx_ix 3)) - 1)) u7 e8) dX9_falls_24 ⟨Nat.le_of_ble_eq_true rfl, Nat.le_of_ble_eq_true rfl⟩ ⟨Nat.zero_le _, Nat.zero_le _⟩ rfl rfl (Nat.le_of_ble_eq_true rfl) [] rfl (by decide) ?_
    clear e8
    refine cx_if_ne (tgt := 35) C dX9_falls_27 (by decide) (fun c9 => ?_) (fun c9 => ?_)
    · have hf := cx_if_f hf c9
      clear c9
      refine cx_aload_n C dX9_falls_35 0 rfl ?_
      obtain ⟨u10, e11, hf⟩ := cx_bd_at hf
      refine cx_Fvv (q := (RX9, TX9, 24)) (As := []) (rest := []) (w1 := (wd_Model k m_a m_limbs m_wide m_book m_images m_kept m_before m_refused m_quiet m_text m_typed m_at m_start m_token m_value m_items m_many m_is u10.2.2.2 u10.1 u10.2.1 m_oneYear u10.2.2.1 m_second m_names)) hA C me_X9_begins hw_1284 (c_X9_begins l D k m_a m_limbs m_wide m_book m_images m_kept m_before m_refused m_quiet m_text m_typed m_at m_start m_token m_value m_items m_many m_is m_likes m_without m_onePicture m_oneYear m_first m_second m_names u10 e11) dX9_falls_36 ⟨Nat.le_of_ble_eq_true rfl, Nat.le_of_ble_eq_true rfl⟩ ⟨Nat.zero_le _, Nat.zero_le _⟩ rfl rfl (Nat.le_of_ble_eq_true rfl) rfl rfl rfl ?_
      clear e11
      refine cx_aload_n C dX9_falls_39 0 rfl ?_
      refine cx_iconst (v := (-1)) C dX9_falls_40 (by decide) ?_
      obtain ⟨u12, e13, hf⟩ := cx_bd_at hf
      refine cx_Fvv (q := (RX9, TX9, 24)) (As := [.int ((-1))]) (rest := []) (w1 := (wd_Model k m_a u12.1 u12.2.1 m_book m_images m_kept m_before m_refused m_quiet m_text m_typed m_at m_start m_token m_value m_items m_many u12.2.2 u10.2.2.2 u10.1 u10.2.1 m_oneYear u10.2.2.1 m_second m_names)) hA C me_X9_shares hw_1288 (c_X9_shares l D k m_a m_limbs m_wide m_book m_images m_kept m_before m_refused m_quiet m_text m_typed m_at m_start m_token m_value m_items m_many m_is u10.2.2.2 u10.1 u10.2.1 m_oneYear u10.2.2.1 m_second m_names ((-1)) u12 e13) dX9_falls_41 ⟨Nat.le_of_ble_eq_true rfl, Nat.le_of_ble_eq_true rfl⟩ ⟨Nat.zero_le _, Nat.zero_le _⟩ rfl rfl (Nat.le_of_ble_eq_true rfl) rfl rfl rfl ?_
      clear e13
      refine cx_aload_n C dX9_falls_44 0 rfl ?_
      refine cx_get (v := .ref (m_a 2)) (ci := 8) C iX9 dX9_falls_45 0 rfl rfl 1 (by decide) hw_1055 rfl ?_
      refine cx_bipush (v := 6) C dX9_falls_48 (by decide) ?_
      obtain ⟨g14, hf⟩ := cx_gd_at hf
      refine cx_iald C dX9_falls_50 2 rfl (cx_ib_in g14) ?_
      clear g14
      refine cx_if_ne (tgt := 59) C dX9_falls_51 (by decide) (fun c15 => ?_) (fun c15 => ?_)
      · have hf := cx_if_f hf c15
        clear c15
        refine cx_iconst (v := 0) C dX9_falls_59 (by decide) ?_
        refine cx_istore_n (lv' := [(3, .int 0), (0, .ref (m_a 0)), (1, .int p1), (2, .int p2)]) C dX9_falls_60 rfl (by decide) rfl ?_
        refine cx_iconst (v := 0) C dX9_falls_61 (by decide) ?_
        refine cx_istore (lv' := [(4, .int 0), (3, .int 0), (0, .ref (m_a 0)), (1, .int p1), (2, .int p2)]) C dX9_falls_62 (by decide) rfl ?_
        refine cx_lv [2, 3, 4, 1, 0] rfl ?_
        exact L64 u10.1 u10.2.1 u10.2.2.1 u12.2.2 u10.2.2.2 cx_N0 u12.1 u12.2.1 m_names 0 0 hf
      · have hf := cx_if_t hf c15
        clear c15
        refine cx_aload_n C dX9_falls_54 0 rfl ?_
        obtain ⟨u71, e72, hf⟩ := cx_bd_at hf
        refine cx_Fvi (q := (RX9, TX9, 24)) (As := []) (rest := []) (w1 := (wd_Model k m_a u12.1 u12.2.1 m_book m_images m_kept m_before u71.2 m_quiet m_text m_typed m_at m_start m_token m_value m_items m_many u12.2.2 u10.2.2.2 u10.1 u10.2.1 m_oneYear u10.2.2.1 m_second m_names)) hA C me_X9_no hw_1337 (c_X9_no l D k m_a u12.1 u12.2.1 m_book m_images m_kept m_before m_refused m_quiet m_text m_typed m_at m_start m_token m_value m_items m_many u12.2.2 u10.2.2.2 u10.1 u10.2.1 m_oneYear u10.2.2.1 m_second m_names u71 e72) dX9_falls_55 ⟨Nat.le_of_ble_eq_true rfl, Nat.le_of_ble_eq_true rfl⟩ ⟨Nat.zero_le _, Nat.zero_le _⟩ rfl rfl (Nat.le_of_ble_eq_true rfl) rfl rfl rfl ?_
        clear e72
        obtain rfl := Option.some.inj hf
        exact cx_iret C hA hQ hr hlk dX9_falls_58 rfl rfl
    · have hf := cx_if_t hf c9
      clear c9
      refine cx_lv [0] rfl ?_
      exact J30 hf
theorem dX9_asks_0 : decode cX9_asks 0 = .ok (.aload_n 0, 1) := by decide +kernel
theorem dX9_asks_1 : decode cX9_asks 1 = .ok (.invokevirtual 284, 3) := by decide +kernel
theorem dX9_asks_4 : decode cX9_asks 4 = .ok (.aload_n 0, 1) := by decide +kernel
theorem dX9_asks_5 : decode cX9_asks 5 = .ok (.iload_n 1, 1) := by decide +kernel
theorem dX9_asks_6 : decode cX9_asks 6 = .ok (.iload_n 2, 1) := by decide +kernel
theorem dX9_asks_7 : decode cX9_asks 7 = .ok (.iload_n 3, 1) := by decide +kernel
theorem dX9_asks_8 : decode cX9_asks 8 = .ok (.invokevirtual 299, 3) := by decide +kernel
theorem dX9_asks_11 : decode cX9_asks 11 = .ok (.aload_n 0, 1) := by decide +kernel
theorem dX9_asks_12 : decode cX9_asks 12 = .ok (.getfield 3, 3) := by decide +kernel
theorem dX9_asks_15 : decode cX9_asks 15 = .ok (.bipush 6, 2) := by decide +kernel
theorem dX9_asks_17 : decode cX9_asks 17 = .ok (.iaload, 1) := by decide +kernel
theorem dX9_asks_18 : decode cX9_asks 18 = .ok (.ifCond .ne 10, 3) := by decide +kernel
theorem dX9_asks_21 : decode cX9_asks 21 = .ok (.aload_n 0, 1) := by decide +kernel
theorem dX9_asks_22 : decode cX9_asks 22 = .ok (.invokevirtual 290, 3) := by decide +kernel
theorem dX9_asks_25 : decode cX9_asks 25 = .ok (.goto 7, 3) := by decide +kernel
theorem dX9_asks_28 : decode cX9_asks 28 = .ok (.aload_n 0, 1) := by decide +kernel
theorem dX9_asks_29 : decode cX9_asks 29 = .ok (.invokevirtual 293, 3) := by decide +kernel
theorem dX9_asks_32 : decode cX9_asks 32 = .ok (.ireturn, 1) := by decide +kernel
theorem me_X9_asks : cx_Mv yX9_asks cX9_asks 4 (some .int) 3 := ⟨⟨⟨by decide +kernel, by decide +kernel, by decide +kernel⟩, hw_11, hw_1416⟩, hw_1415, hs_80⟩
noncomputable def f_X9_asks (m_limbs : Nat → Int32) (m_wide : Nat → Int32) (m_book : Nat → Int32) (m_refused : Nat → Int32) (m_quiet : Int32) (m_is : Nat → Int32) (m_likes : Nat → Int32) (m_oneYear : Int32) (m_second : Int32) (p1 : Int32) (p2 : Int32) (p3 : Int32) : Option (Int32 × Int32 × Int32 × Int32 × (Nat → Int32) × (Nat → Int32) × (Nat → Int32) × (Nat → Int32) × (Nat → Int32)) := Option.bind (f_X9_begins m_book m_likes) (fun u1 => Option.bind (f_X9_sums m_limbs m_wide m_book m_is u1.2.2.2 u1.1 u1.2.1 m_oneYear u1.2.2.1 m_second p1 p2 p3) (fun u3 => cx_gd (cx_ib 6 270) (if (u3.2.1 (cx_ix 6)) = 0 then (Option.bind (f_X9_no m_refused m_quiet) (fun u9 => some ((u9.1, u1.1, u1.2.1, u1.2.2.1, u3.1, u3.2.1, u9.2, u3.2.2, u1.2.2.2)))) else (Option.bind (f_X9_tellsHit u3.1 u3.2.1) (fun u7 => some ((u7.1, u1.1, u1.2.1, u1.2.2.1, u7.2.1, u7.2.2, m_refused, u3.2.2, u1.2.2.2)))))))
set_option maxHeartbeats 4000000 in
set_option maxRecDepth 100000 in
theorem c_X9_asks (l : Launch) (D : va_G) (k : Nat → ClassId) (m_a : Nat → Nat) (m_limbs : Nat → Int32) (m_wide : Nat → Int32) (m_book : Nat → Int32) (m_images : Nat → Int32) (m_kept : Nat → Int32) (m_before : Nat → Int32) (m_refused : Nat → Int32) (m_quiet : Int32) (m_text : Nat → Int32) (m_typed : Int32) (m_at : Int32) (m_start : Int32) (m_token : Int32) (m_value : Int32) (m_items : Nat → Int32) (m_many : Int32) (m_is : Nat → Int32) (m_likes : Nat → Int32) (m_without : Int32) (m_onePicture : Int32) (m_oneYear : Int32) (m_first : Int32) (m_second : Int32) (m_names : Nat → Int32) (p1 : Int32) (p2 : Int32) (p3 : Int32) (y : Int32 × Int32 × Int32 × Int32 × (Nat → Int32) × (Nat → Int32) × (Nat → Int32) × (Nat → Int32) × (Nat → Int32)) (hf : f_X9_asks m_limbs m_wide m_book m_refused m_quiet m_is m_likes m_oneYear m_second p1 p2 p3 = some y) : cx_M l yX9_asks cX9_asks 4 (some .int) 7 D k [.ref (m_a 0), .int p1, .int p2, .int p3] (wd_Model k m_a m_limbs m_wide m_book m_images m_kept m_before m_refused m_quiet m_text m_typed m_at m_start m_token m_value m_items m_many m_is m_likes m_without m_onePicture m_oneYear m_first m_second m_names) (fun sz => cx_Qi D y.1 (wd_Model k m_a m_limbs m_wide m_book m_images m_kept m_before m_refused m_quiet m_text m_typed m_at m_start m_token m_value m_items m_many m_is m_likes m_without m_onePicture m_oneYear m_first m_second m_names) (wd_Model k m_a y.2.2.2.2.1 y.2.2.2.2.2.1 m_book m_images m_kept m_before y.2.2.2.2.2.2.1 m_quiet m_text m_typed m_at m_start m_token m_value m_items m_many y.2.2.2.2.2.2.2.1 y.2.2.2.2.2.2.2.2 y.2.1 y.2.2.1 m_oneYear y.2.2.2.1 m_second m_names) sz) := by
  refine cx_met (own := "NamelessBoxModel") (by decide) rfl (Nat.le_of_ble_eq_true rfl) ?_
  intro p e s m args below meth c A Q C hA hQ hr hlk
  refine cx_lv (lv' := [(0, .ref (m_a 0)), (1, .int p1), (2, .int p2), (3, .int p3)]) [0, 1, 2, 3] rfl ?_
  unfold f_X9_asks at hf
  refine cx_aload_n C dX9_asks_0 0 rfl ?_
  obtain ⟨u1, e2, hf⟩ := cx_bd_at hf
  refine cx_Fvv (q := (RX9, TX9, 24)) (As := []) (rest := []) (w1 := (wd_Model k m_a m_limbs m_wide m_book m_images m_kept m_before m_refused m_quiet m_text m_typed m_at m_start m_token m_value m_items m_many m_is u1.2.2.2 u1.1 u1.2.1 m_oneYear u1.2.2.1 m_second m_names)) hA C me_X9_begins hw_1284 (c_X9_begins l D k m_a m_limbs m_wide m_book m_images m_kept m_before m_refused m_quiet m_text m_typed m_at m_start m_token m_value m_items m_many m_is m_likes m_without m_onePicture m_oneYear m_first m_second m_names u1 e2) dX9_asks_1 ⟨Nat.le_of_ble_eq_true rfl, Nat.le_of_ble_eq_true rfl⟩ ⟨Nat.zero_le _, Nat.zero_le _⟩ rfl rfl (Nat.le_of_ble_eq_true rfl) rfl rfl rfl ?_
  clear e2
  refine cx_aload_n C dX9_asks_4 0 rfl ?_
  refine cx_iload_n C dX9_asks_5 1 rfl ?_
  refine cx_iload_n C dX9_asks_6 2 rfl ?_
  refine cx_iload_n C dX9_asks_7 3 rfl ?_
  obtain ⟨u3, e4, hf⟩ := cx_bd_at hf
  refine cx_Fvv (q := (RX9, TX9, 24)) (As := [.int p1, .int p2, .int p3]) (rest := []) (w1 := (wd_Model k m_a u3.1 u3.2.1 m_book m_images m_kept m_before m_refused m_quiet m_text m_typed m_at m_start m_token m_value m_items m_many u3.2.2 u1.2.2.2 u1.1 u1.2.1 m_oneYear u1.2.2.1 m_second m_names)) hA C me_X9_sums hw_1385 (c_X9_sums l D k m_a m_limbs m_wide m_book m_images m_kept m_before m_refused m_quiet m_text m_typed m_at m_start m_token m_value m_items m_many m_is u1.2.2.2 u1.1 u1.2.1 m_oneYear u1.2.2.1 m_second m_names p1 p2 p3 u3 e4) dX9_asks_8 ⟨Nat.le_of_ble_eq_true rfl, Nat.le_of_ble_eq_true rfl⟩ ⟨Nat.zero_le _, Nat.zero_le _⟩ rfl rfl (Nat.le_of_ble_eq_true rfl) rfl rfl rfl ?_
  clear e4
  refine cx_aload_n C dX9_asks_11 0 rfl ?_
  refine cx_get (v := .ref (m_a 2)) (ci := 8) C iX9 dX9_asks_12 0 rfl rfl 1 (by decide) hw_1055 rfl ?_
  refine cx_bipush (v := 6) C dX9_asks_15 (by decide) ?_
  obtain ⟨g5, hf⟩ := cx_gd_at hf
  refine cx_iald C dX9_asks_17 2 rfl (cx_ib_in g5) ?_
  clear g5
  refine cx_if_ne (tgt := 28) C dX9_asks_18 (by decide) (fun c6 => ?_) (fun c6 => ?_)
  · have hf := cx_if_f hf c6
    clear c6
    refine cx_aload_n C dX9_asks_28 0 rfl ?_
    obtain ⟨u7, e8, hf⟩ := cx_bd_at hf
    refine cx_Fvi (q := (RX9, TX9, 24)) (As := []) (rest := []) (w1 := (wd_Model k m_a u7.2.1 u7.2.2 m_book m_images m_kept m_before m_refused m_quiet m_text m_typed m_at m_start m_token m_value m_items m_many u3.2.2 u1.2.2.2 u1.1 u1.2.1 m_oneYear u1.2.2.1 m_second m_names)) hA C me_X9_tellsHit hw_1341 (c_X9_tellsHit l D k m_a u3.1 u3.2.1 m_book m_images m_kept m_before m_refused m_quiet m_text m_typed m_at m_start m_token m_value m_items m_many u3.2.2 u1.2.2.2 u1.1 u1.2.1 m_oneYear u1.2.2.1 m_second m_names u7 e8) dX9_asks_29 ⟨Nat.le_of_ble_eq_true rfl, Nat.le_of_ble_eq_true rfl⟩ ⟨Nat.zero_le _, Nat.zero_le _⟩ rfl rfl (Nat.le_of_ble_eq_true rfl) rfl rfl rfl ?_
    clear e8
    obtain rfl := Option.some.inj hf
    exact cx_iret C hA hQ hr hlk dX9_asks_32 rfl rfl
  · have hf := cx_if_t hf c6
    clear c6
    refine cx_aload_n C dX9_asks_21 0 rfl ?_
    obtain ⟨u9, e10, hf⟩ := cx_bd_at hf
    refine cx_Fvi (q := (RX9, TX9, 24)) (As := []) (rest := []) (w1 := (wd_Model k m_a u3.1 u3.2.1 m_book m_images m_kept m_before u9.2 m_quiet m_text m_typed m_at m_start m_token m_value m_items m_many u3.2.2 u1.2.2.2 u1.1 u1.2.1 m_oneYear u1.2.2.1 m_second m_names)) hA C me_X9_no hw_1337 (c_X9_no l D k m_a u3.1 u3.2.1 m_book m_images m_kept m_before m_refused m_quiet m_text m_typed m_at m_start m_token m_value m_items m_many u3.2.2 u1.2.2.2 u1.1 u1.2.1 m_oneYear u1.2.2.1 m_second m_names u9 e10) dX9_asks_22 ⟨Nat.le_of_ble_eq_true rfl, Nat.le_of_ble_eq_true rfl⟩ ⟨Nat.zero_le _, Nat.zero_le _⟩ rfl rfl (Nat.le_of_ble_eq_true rfl) rfl rfl rfl ?_
    clear e10
    refine cx_goto (tgt := 32) C dX9_asks_25 (by decide) ?_
    obtain rfl := Option.some.inj hf
    exact cx_iret C hA hQ hr hlk dX9_asks_32 rfl rfl
theorem dX9_same_0 : decode cX9_same 0 = .ok (.aload_n 0, 1) := by decide +kernel
theorem dX9_same_1 : decode cX9_same 1 = .ok (.iload_n 1, 1) := by decide +kernel
theorem dX9_same_2 : decode cX9_same 2 = .ok (.invokevirtual 119, 3) := by decide +kernel
theorem dX9_same_5 : decode cX9_same 5 = .ok (.ifCond .eq 26, 3) := by decide +kernel
theorem dX9_same_8 : decode cX9_same 8 = .ok (.aload_n 0, 1) := by decide +kernel
theorem dX9_same_9 : decode cX9_same 9 = .ok (.iload_n 2, 1) := by decide +kernel
theorem dX9_same_10 : decode cX9_same 10 = .ok (.invokevirtual 119, 3) := by decide +kernel
theorem dX9_same_13 : decode cX9_same 13 = .ok (.ifCond .eq 18, 3) := by decide +kernel
theorem dX9_same_16 : decode cX9_same 16 = .ok (.iload_n 1, 1) := by decide +kernel
theorem dX9_same_17 : decode cX9_same 17 = .ok (.iload_n 2, 1) := by decide +kernel
theorem dX9_same_18 : decode cX9_same 18 = .ok (.if_icmp .eq 13, 3) := by decide +kernel
theorem dX9_same_21 : decode cX9_same 21 = .ok (.aload_n 0, 1) := by decide +kernel
theorem dX9_same_22 : decode cX9_same 22 = .ok (.iconst 1, 1) := by decide +kernel
theorem dX9_same_23 : decode cX9_same 23 = .ok (.iload_n 1, 1) := by decide +kernel
theorem dX9_same_24 : decode cX9_same 24 = .ok (.iload_n 2, 1) := by decide +kernel
theorem dX9_same_25 : decode cX9_same 25 = .ok (.invokevirtual 306, 3) := by decide +kernel
theorem dX9_same_28 : decode cX9_same 28 = .ok (.goto 7, 3) := by decide +kernel
theorem dX9_same_31 : decode cX9_same 31 = .ok (.aload_n 0, 1) := by decide +kernel
theorem dX9_same_32 : decode cX9_same 32 = .ok (.invokevirtual 99, 3) := by decide +kernel
theorem dX9_same_35 : decode cX9_same 35 = .ok (.ireturn, 1) := by decide +kernel
theorem me_X9_same : cx_Mv yX9_same cX9_same 3 (some .int) 2 := ⟨⟨⟨by decide +kernel, by decide +kernel, by decide +kernel⟩, hw_11, hw_1412⟩, hw_1410, hw_1411⟩
noncomputable def f_X9_same_J31 (m_limbs : Nat → Int32) (m_wide : Nat → Int32) (m_refused : Nat → Int32) (m_quiet : Int32) (m_is : Nat → Int32) (m_likes : Nat → Int32) (m_without : Int32) (m_onePicture : Int32) (m_first : Int32) : Option (Int32 × Int32 × Int32 × Int32 × (Nat → Int32) × (Nat → Int32) × (Nat → Int32) × (Nat → Int32) × (Nat → Int32)) := Option.bind (f_X9_bad m_refused m_quiet) (fun u4 => some ((u4.1, m_without, m_onePicture, m_first, m_limbs, m_wide, u4.2, m_is, m_likes)))
noncomputable def f_X9_same (m_limbs : Nat → Int32) (m_wide : Nat → Int32) (m_book : Nat → Int32) (m_refused : Nat → Int32) (m_quiet : Int32) (m_is : Nat → Int32) (m_likes : Nat → Int32) (m_without : Int32) (m_onePicture : Int32) (m_oneYear : Int32) (m_first : Int32) (m_second : Int32) (p1 : Int32) (p2 : Int32) : Option (Int32 × Int32 × Int32 × Int32 × (Nat → Int32) × (Nat → Int32) × (Nat → Int32) × (Nat → Int32) × (Nat → Int32)) := Option.bind (f_X9_isHead m_book p1) (fun u1 => if u1 = 0 then (f_X9_same_J31 m_limbs m_wide m_refused m_quiet m_is m_likes m_without m_onePicture m_first) else (Option.bind (f_X9_isHead m_book p2) (fun u6 => if u6 = 0 then (f_X9_same_J31 m_limbs m_wide m_refused m_quiet m_is m_likes m_without m_onePicture m_first) else (if p1 = p2 then (f_X9_same_J31 m_limbs m_wide m_refused m_quiet m_is m_likes m_without m_onePicture m_first) else (Option.bind (f_X9_asks m_limbs m_wide m_book m_refused m_quiet m_is m_likes m_oneYear m_second 1 p1 p2) (fun u10 => some ((u10.1, u10.2.1, u10.2.2.1, u10.2.2.2.1, u10.2.2.2.2.1, u10.2.2.2.2.2.1, u10.2.2.2.2.2.2.1, u10.2.2.2.2.2.2.2.1, u10.2.2.2.2.2.2.2.2))))))))
set_option maxHeartbeats 4000000 in
set_option maxRecDepth 100000 in
theorem c_X9_same (l : Launch) (D : va_G) (k : Nat → ClassId) (m_a : Nat → Nat) (m_limbs : Nat → Int32) (m_wide : Nat → Int32) (m_book : Nat → Int32) (m_images : Nat → Int32) (m_kept : Nat → Int32) (m_before : Nat → Int32) (m_refused : Nat → Int32) (m_quiet : Int32) (m_text : Nat → Int32) (m_typed : Int32) (m_at : Int32) (m_start : Int32) (m_token : Int32) (m_value : Int32) (m_items : Nat → Int32) (m_many : Int32) (m_is : Nat → Int32) (m_likes : Nat → Int32) (m_without : Int32) (m_onePicture : Int32) (m_oneYear : Int32) (m_first : Int32) (m_second : Int32) (m_names : Nat → Int32) (p1 : Int32) (p2 : Int32) (y : Int32 × Int32 × Int32 × Int32 × (Nat → Int32) × (Nat → Int32) × (Nat → Int32) × (Nat → Int32) × (Nat → Int32)) (hf : f_X9_same m_limbs m_wide m_book m_refused m_quiet m_is m_likes m_without m_onePicture m_oneYear m_first m_second p1 p2 = some y) : cx_M l yX9_same cX9_same 3 (some .int) 8 D k [.ref (m_a 0), .int p1, .int p2] (wd_Model k m_a m_limbs m_wide m_book m_images m_kept m_before m_refused m_quiet m_text m_typed m_at m_start m_token m_value m_items m_many m_is m_likes m_without m_onePicture m_oneYear m_first m_second m_names) (fun sz => cx_Qi D y.1 (wd_Model k m_a m_limbs m_wide m_book m_images m_kept m_before m_refused m_quiet m_text m_typed m_at m_start m_token m_value m_items m_many m_is m_likes m_without m_onePicture m_oneYear m_first m_second m_names) (wd_Model k m_a y.2.2.2.2.1 y.2.2.2.2.2.1 m_book m_images m_kept m_before y.2.2.2.2.2.2.1 m_quiet m_text m_typed m_at m_start m_token m_value m_items m_many y.2.2.2.2.2.2.2.1 y.2.2.2.2.2.2.2.2 y.2.1 y.2.2.1 m_oneYear y.2.2.2.1 m_second m_names) sz) := by
  refine cx_met (own := "NamelessBoxModel") (by decide) rfl (Nat.le_of_ble_eq_true rfl) ?_
  intro p e s m args below meth c A Q C hA hQ hr hlk
  refine cx_lv (lv' := [(0, .ref (m_a 0)), (1, .int p1), (2, .int p2)]) [0, 1, 2] rfl ?_
  have J31 : f_X9_same_J31 m_limbs m_wide m_refused m_quiet m_is m_likes m_without m_onePicture m_first = some y → cx_S p l e (cx_rm 8) s m args below meth c A D 3 0 0 Q 31 [(0, .ref (m_a 0))] [] (wd_Model k m_a m_limbs m_wide m_book m_images m_kept m_before m_refused m_quiet m_text m_typed m_at m_start m_token m_value m_items m_many m_is m_likes m_without m_onePicture m_oneYear m_first m_second m_names) := by
    intro  hf
    unfold f_X9_same_J31 at hf
    refine cx_aload_n C dX9_same_31 0 rfl ?_
    obtain ⟨u4, e5, hf⟩ := cx_bd_at hf
    refine cx_Fvi (q := (RX9, TX9, 24)) (As := []) (rest := []) (w1 := (wd_Model k m_a m_limbs m_wide m_book m_images m_kept m_before u4.2 m_quiet m_text m_typed m_at m_start m_token m_value m_items m_many m_is m_likes m_without m_onePicture m_oneYear m_first m_second m_names)) hA C me_X9_bad hw_1137 (c_X9_bad l D k m_a m_limbs m_wide m_book m_images m_kept m_before m_refused m_quiet m_text m_typed m_at m_start m_token m_value m_items m_many m_is m_likes m_without m_onePicture m_oneYear m_first m_second m_names u4 e5) dX9_same_32 ⟨Nat.le_of_ble_eq_true rfl, Nat.le_of_ble_eq_true rfl⟩ ⟨Nat.zero_le _, Nat.zero_le _⟩ rfl rfl (Nat.le_of_ble_eq_true rfl) rfl rfl rfl ?_
    clear e5
    obtain rfl := Option.some.inj hf
    exact cx_iret C hA hQ hr hlk dX9_same_35 rfl rfl
  unfold f_X9_same at hf
  refine cx_aload_n C dX9_same_0 0 rfl ?_
  refine cx_iload_n C dX9_same_1 1 rfl ?_
  obtain ⟨u1, e2, hf⟩ := cx_bd_at hf
  refine cx_Fvi (q := (RX9, TX9, 24)) (As := [.int p1]) (rest := []) (w1 := (wd_Model k m_a m_limbs m_wide m_book m_images m_kept m_before m_refused m_quiet m_text m_typed m_at m_start m_token m_value m_items m_many m_is m_likes m_without m_onePicture m_oneYear m_first m_second m_names)) hA C me_X9_isHead hw_1183 (c_X9_isHead l D k m_a m_limbs m_wide m_book m_images m_kept m_before m_refused m_quiet m_text m_typed m_at m_start m_token m_value m_items m_many m_is m_likes m_without m_onePicture m_oneYear m_first m_second m_names p1 u1 e2) dX9_same_2 ⟨Nat.le_of_ble_eq_true rfl, Nat.le_of_ble_eq_true rfl⟩ ⟨Nat.zero_le _, Nat.zero_le _⟩ rfl rfl (Nat.le_of_ble_eq_true rfl) rfl rfl rfl ?_
  clear e2
  refine cx_if_eq (tgt := 31) C dX9_same_5 (by decide) (fun c3 => ?_) (fun c3 => ?_)
  · have hf := cx_if_t hf c3
    clear c3
    refine cx_lv [0] rfl ?_
    exact J31 hf
  · have hf := cx_if_f hf c3
    clear c3
    refine cx_aload_n C dX9_same_8 0 rfl ?_
    refine cx_iload_n C dX9_same_9 2 rfl ?_
    obtain ⟨u6, e7, hf⟩ := cx_bd_at hf
    refine cx_Fvi (q := (RX9, TX9, 24)) (As := [.int p2]) (rest := []) (w1 := (wd_Model k m_a m_limbs m_wide m_book m_images m_kept m_before m_refused m_quiet m_text m_typed m_at m_start m_token m_value m_items m_many m_is m_likes m_without m_onePicture m_oneYear m_first m_second m_names)) hA C me_X9_isHead hw_1183 (c_X9_isHead l D k m_a m_limbs m_wide m_book m_images m_kept m_before m_refused m_quiet m_text m_typed m_at m_start m_token m_value m_items m_many m_is m_likes m_without m_onePicture m_oneYear m_first m_second m_names p2 u6 e7) dX9_same_10 ⟨Nat.le_of_ble_eq_true rfl, Nat.le_of_ble_eq_true rfl⟩ ⟨Nat.zero_le _, Nat.zero_le _⟩ rfl rfl (Nat.le_of_ble_eq_true rfl) rfl rfl rfl ?_
    clear e7
    refine cx_if_eq (tgt := 31) C dX9_same_13 (by decide) (fun c8 => ?_) (fun c8 => ?_)
    · have hf := cx_if_t hf c8
      clear c8
      refine cx_lv [0] rfl ?_
      exact J31 hf
    · have hf := cx_if_f hf c8
      clear c8
      refine cx_iload_n C dX9_same_16 1 rfl ?_
      refine cx_iload_n C dX9_same_17 2 rfl ?_
      refine cx_icmp_eq (tgt := 31) C dX9_same_18 (by decide) (fun c9 => ?_) (fun c9 => ?_)
      · have hf := cx_if_t hf c9
        clear c9
        refine cx_lv [0] rfl ?_
        exact J31 hf
      · have hf := cx_if_f hf c9
        clear c9
        refine cx_aload_n C dX9_same_21 0 rfl ?_
        refine cx_iconst (v := 1) C dX9_same_22 (by decide) ?_
        refine cx_iload_n C dX9_same_23 1 rfl ?_
        refine cx_iload_n C dX9_same_24 2 rfl ?_
        obtain ⟨u10, e11, hf⟩ := cx_bd_at hf
        refine cx_Fvi (q := (RX9, TX9, 24)) (As := [.int 1, .int p1, .int p2]) (rest := []) (w1 := (wd_Model k m_a u10.2.2.2.2.1 u10.2.2.2.2.2.1 m_book m_images m_kept m_before u10.2.2.2.2.2.2.1 m_quiet m_text m_typed m_at m_start m_token m_value m_items m_many u10.2.2.2.2.2.2.2.1 u10.2.2.2.2.2.2.2.2 u10.2.1 u10.2.2.1 m_oneYear u10.2.2.2.1 m_second m_names)) hA C me_X9_asks hw_1413 (c_X9_asks l D k m_a m_limbs m_wide m_book m_images m_kept m_before m_refused m_quiet m_text m_typed m_at m_start m_token m_value m_items m_many m_is m_likes m_without m_onePicture m_oneYear m_first m_second m_names 1 p1 p2 u10 e11) dX9_same_25 ⟨Nat.le_of_ble_eq_true rfl, Nat.le_of_ble_eq_true rfl⟩ ⟨Nat.zero_le _, Nat.zero_le _⟩ rfl rfl (Nat.le_of_ble_eq_true rfl) rfl rfl rfl ?_
        clear e11
        refine cx_goto (tgt := 35) C dX9_same_28 (by decide) ?_
        obtain rfl := Option.some.inj hf
        exact cx_iret C hA hQ hr hlk dX9_same_35 rfl rfl
theorem dX9_noneOf_0 : decode cX9_noneOf 0 = .ok (.aload_n 0, 1) := by decide +kernel
theorem dX9_noneOf_1 : decode cX9_noneOf 1 = .ok (.iload_n 1, 1) := by decide +kernel
theorem dX9_noneOf_2 : decode cX9_noneOf 2 = .ok (.invokevirtual 106, 3) := by decide +kernel
theorem dX9_noneOf_5 : decode cX9_noneOf 5 = .ok (.ifCond .eq 13, 3) := by decide +kernel
theorem dX9_noneOf_8 : decode cX9_noneOf 8 = .ok (.aload_n 0, 1) := by decide +kernel
theorem dX9_noneOf_9 : decode cX9_noneOf 9 = .ok (.iconst 2, 1) := by decide +kernel
theorem dX9_noneOf_10 : decode cX9_noneOf 10 = .ok (.iload_n 1, 1) := by decide +kernel
theorem dX9_noneOf_11 : decode cX9_noneOf 11 = .ok (.iconst 0, 1) := by decide +kernel
theorem dX9_noneOf_12 : decode cX9_noneOf 12 = .ok (.invokevirtual 306, 3) := by decide +kernel
theorem dX9_noneOf_15 : decode cX9_noneOf 15 = .ok (.goto 7, 3) := by decide +kernel
theorem dX9_noneOf_18 : decode cX9_noneOf 18 = .ok (.aload_n 0, 1) := by decide +kernel
theorem dX9_noneOf_19 : decode cX9_noneOf 19 = .ok (.invokevirtual 99, 3) := by decide +kernel
theorem dX9_noneOf_22 : decode cX9_noneOf 22 = .ok (.ireturn, 1) := by decide +kernel
theorem me_X9_noneOf : cx_Mv yX9_noneOf cX9_noneOf 2 (some .int) 1 := ⟨⟨⟨by decide +kernel, by decide +kernel, by decide +kernel⟩, hw_11, hw_1420⟩, hw_1418, hw_1419⟩
noncomputable def f_X9_noneOf (m_limbs : Nat → Int32) (m_wide : Nat → Int32) (m_book : Nat → Int32) (m_refused : Nat → Int32) (m_quiet : Int32) (m_is : Nat → Int32) (m_likes : Nat → Int32) (m_without : Int32) (m_onePicture : Int32) (m_oneYear : Int32) (m_first : Int32) (m_second : Int32) (p1 : Int32) : Option (Int32 × Int32 × Int32 × Int32 × (Nat → Int32) × (Nat → Int32) × (Nat → Int32) × (Nat → Int32) × (Nat → Int32)) := Option.bind (f_X9_isPerson m_book p1) (fun u1 => if u1 = 0 then (Option.bind (f_X9_bad m_refused m_quiet) (fun u4 => some ((u4.1, m_without, m_onePicture, m_first, m_limbs, m_wide, u4.2, m_is, m_likes)))) else (Option.bind (f_X9_asks m_limbs m_wide m_book m_refused m_quiet m_is m_likes m_oneYear m_second 2 p1 0) (fun u6 => some ((u6.1, u6.2.1, u6.2.2.1, u6.2.2.2.1, u6.2.2.2.2.1, u6.2.2.2.2.2.1, u6.2.2.2.2.2.2.1, u6.2.2.2.2.2.2.2.1, u6.2.2.2.2.2.2.2.2)))))
set_option maxHeartbeats 4000000 in
set_option maxRecDepth 100000 in
theorem c_X9_noneOf (l : Launch) (D : va_G) (k : Nat → ClassId) (m_a : Nat → Nat) (m_limbs : Nat → Int32) (m_wide : Nat → Int32) (m_book : Nat → Int32) (m_images : Nat → Int32) (m_kept : Nat → Int32) (m_before : Nat → Int32) (m_refused : Nat → Int32) (m_quiet : Int32) (m_text : Nat → Int32) (m_typed : Int32) (m_at : Int32) (m_start : Int32) (m_token : Int32) (m_value : Int32) (m_items : Nat → Int32) (m_many : Int32) (m_is : Nat → Int32) (m_likes : Nat → Int32) (m_without : Int32) (m_onePicture : Int32) (m_oneYear : Int32) (m_first : Int32) (m_second : Int32) (m_names : Nat → Int32) (p1 : Int32) (y : Int32 × Int32 × Int32 × Int32 × (Nat → Int32) × (Nat → Int32) × (Nat → Int32) × (Nat → Int32) × (Nat → Int32)) (hf : f_X9_noneOf m_limbs m_wide m_book m_refused m_quiet m_is m_likes m_without m_onePicture m_oneYear m_first m_second p1 = some y) : cx_M l yX9_noneOf cX9_noneOf 2 (some .int) 8 D k [.ref (m_a 0), .int p1] (wd_Model k m_a m_limbs m_wide m_book m_images m_kept m_before m_refused m_quiet m_text m_typed m_at m_start m_token m_value m_items m_many m_is m_likes m_without m_onePicture m_oneYear m_first m_second m_names) (fun sz => cx_Qi D y.1 (wd_Model k m_a m_limbs m_wide m_book m_images m_kept m_before m_refused m_quiet m_text m_typed m_at m_start m_token m_value m_items m_many m_is m_likes m_without m_onePicture m_oneYear m_first m_second m_names) (wd_Model k m_a y.2.2.2.2.1 y.2.2.2.2.2.1 m_book m_images m_kept m_before y.2.2.2.2.2.2.1 m_quiet m_text m_typed m_at m_start m_token m_value m_items m_many y.2.2.2.2.2.2.2.1 y.2.2.2.2.2.2.2.2 y.2.1 y.2.2.1 m_oneYear y.2.2.2.1 m_second m_names) sz) := by
  refine cx_met (own := "NamelessBoxModel") (by decide) rfl (Nat.le_of_ble_eq_true rfl) ?_
  intro p e s m args below meth c A Q C hA hQ hr hlk
  refine cx_lv (lv' := [(0, .ref (m_a 0)), (1, .int p1)]) [0, 1] rfl ?_
  unfold f_X9_noneOf at hf
  refine cx_aload_n C dX9_noneOf_0 0 rfl ?_
  refine cx_iload_n C dX9_noneOf_1 1 rfl ?_
  obtain ⟨u1, e2, hf⟩ := cx_bd_at hf
  refine cx_Fvi (q := (RX9, TX9, 24)) (As := [.int p1]) (rest := []) (w1 := (wd_Model k m_a m_limbs m_wide m_book m_images m_kept m_before m_refused m_quiet m_text m_typed m_at m_start m_token m_value m_items m_many m_is m_likes m_without m_onePicture m_oneYear m_first m_second m_names)) hA C me_X9_isPerson hw_1153 (c_X9_isPerson l D k m_a m_limbs m_wide m_book m_images m_kept m_before m_refused m_quiet m_text m_typed m_at m_start m_token m_value m_items m_many m_is m_likes m_without m_onePicture m_oneYear m_first m_second m_names p1 u1 e2) dX9_noneOf_2 ⟨Nat.le_of_ble_eq_true rfl, Nat.le_of_ble_eq_true rfl⟩ ⟨Nat.zero_le _, Nat.zero_le _⟩ rfl rfl (Nat.le_of_ble_eq_true rfl) rfl rfl rfl ?_
  clear e2
  refine cx_if_eq (tgt := 18) C dX9_noneOf_5 (by decide) (fun c3 => ?_) (fun c3 => ?_)
  · have hf := cx_if_t hf c3
    clear c3
    refine cx_aload_n C dX9_noneOf_18 0 rfl ?_
    obtain ⟨u4, e5, hf⟩ := cx_bd_at hf
    refine cx_Fvi (q := (RX9, TX9, 24)) (As := []) (rest := []) (w1 := (wd_Model k m_a m_limbs m_wide m_book m_images m_kept m_before u4.2 m_quiet m_text m_typed m_at m_start m_token m_value m_items m_many m_is m_likes m_without m_onePicture m_oneYear m_first m_second m_names)) hA C me_X9_bad hw_1137 (c_X9_bad l D k m_a m_limbs m_wide m_book m_images m_kept m_before m_refused m_quiet m_text m_typed m_at m_start m_token m_value m_items m_many m_is m_likes m_without m_onePicture m_oneYear m_first m_second m_names u4 e5) dX9_noneOf_19 ⟨Nat.le_of_ble_eq_true rfl, Nat.le_of_ble_eq_true rfl⟩ ⟨Nat.zero_le _, Nat.zero_le _⟩ rfl rfl (Nat.le_of_ble_eq_true rfl) rfl rfl rfl ?_
    clear e5
    obtain rfl := Option.some.inj hf
    exact cx_iret C hA hQ hr hlk dX9_noneOf_22 rfl rfl
  · have hf := cx_if_f hf c3
    clear c3
    refine cx_aload_n C dX9_noneOf_8 0 rfl ?_
    refine cx_iconst (v := 2) C dX9_noneOf_9 (by decide) ?_
    refine cx_iload_n C dX9_noneOf_10 1 rfl ?_
    refine cx_iconst (v := 0) C dX9_noneOf_11 (by decide) ?_
    obtain ⟨u6, e7, hf⟩ := cx_bd_at hf
    refine cx_Fvi (q := (RX9, TX9, 24)) (As := [.int 2, .int p1, .int 0]) (rest := []) (w1 := (wd_Model k m_a u6.2.2.2.2.1 u6.2.2.2.2.2.1 m_book m_images m_kept m_before u6.2.2.2.2.2.2.1 m_quiet m_text m_typed m_at m_start m_token m_value m_items m_many u6.2.2.2.2.2.2.2.1 u6.2.2.2.2.2.2.2.2 u6.2.1 u6.2.2.1 m_oneYear u6.2.2.2.1 m_second m_names)) hA C me_X9_asks hw_1413 (c_X9_asks l D k m_a m_limbs m_wide m_book m_images m_kept m_before m_refused m_quiet m_text m_typed m_at m_start m_token m_value m_items m_many m_is m_likes m_without m_onePicture m_oneYear m_first m_second m_names 2 p1 0 u6 e7) dX9_noneOf_12 ⟨Nat.le_of_ble_eq_true rfl, Nat.le_of_ble_eq_true rfl⟩ ⟨Nat.zero_le _, Nat.zero_le _⟩ rfl rfl (Nat.le_of_ble_eq_true rfl) rfl rfl rfl ?_
    clear e7
    refine cx_goto (tgt := 22) C dX9_noneOf_15 (by decide) ?_
    obtain rfl := Option.some.inj hf
    exact cx_iret C hA hQ hr hlk dX9_noneOf_22 rfl rfl
theorem dX9_friend_0 : decode cX9_friend 0 = .ok (.aload_n 0, 1) := by decide +kernel
theorem dX9_friend_1 : decode cX9_friend 1 = .ok (.iload_n 1, 1) := by decide +kernel
theorem dX9_friend_2 : decode cX9_friend 2 = .ok (.invokevirtual 106, 3) := by decide +kernel
theorem dX9_friend_5 : decode cX9_friend 5 = .ok (.ifCond .eq 13, 3) := by decide +kernel
theorem dX9_friend_8 : decode cX9_friend 8 = .ok (.aload_n 0, 1) := by decide +kernel
theorem dX9_friend_9 : decode cX9_friend 9 = .ok (.iconst 3, 1) := by decide +kernel
theorem dX9_friend_10 : decode cX9_friend 10 = .ok (.iload_n 1, 1) := by decide +kernel
theorem dX9_friend_11 : decode cX9_friend 11 = .ok (.iconst 0, 1) := by decide +kernel
theorem dX9_friend_12 : decode cX9_friend 12 = .ok (.invokevirtual 306, 3) := by decide +kernel
theorem dX9_friend_15 : decode cX9_friend 15 = .ok (.goto 7, 3) := by decide +kernel
theorem dX9_friend_18 : decode cX9_friend 18 = .ok (.aload_n 0, 1) := by decide +kernel
theorem dX9_friend_19 : decode cX9_friend 19 = .ok (.invokevirtual 99, 3) := by decide +kernel
theorem dX9_friend_22 : decode cX9_friend 22 = .ok (.ireturn, 1) := by decide +kernel
theorem me_X9_friend : cx_Mv yX9_friend cX9_friend 2 (some .int) 1 := ⟨⟨⟨by decide +kernel, by decide +kernel, by decide +kernel⟩, hw_11, hw_1424⟩, hw_1422, hw_1423⟩
noncomputable def f_X9_friend (m_limbs : Nat → Int32) (m_wide : Nat → Int32) (m_book : Nat → Int32) (m_refused : Nat → Int32) (m_quiet : Int32) (m_is : Nat → Int32) (m_likes : Nat → Int32) (m_without : Int32) (m_onePicture : Int32) (m_oneYear : Int32) (m_first : Int32) (m_second : Int32) (p1 : Int32) : Option (Int32 × Int32 × Int32 × Int32 × (Nat → Int32) × (Nat → Int32) × (Nat → Int32) × (Nat → Int32) × (Nat → Int32)) := Option.bind (f_X9_isPerson m_book p1) (fun u1 => if u1 = 0 then (Option.bind (f_X9_bad m_refused m_quiet) (fun u4 => some ((u4.1, m_without, m_onePicture, m_first, m_limbs, m_wide, u4.2, m_is, m_likes)))) else (Option.bind (f_X9_asks m_limbs m_wide m_book m_refused m_quiet m_is m_likes m_oneYear m_second 3 p1 0) (fun u6 => some ((u6.1, u6.2.1, u6.2.2.1, u6.2.2.2.1, u6.2.2.2.2.1, u6.2.2.2.2.2.1, u6.2.2.2.2.2.2.1, u6.2.2.2.2.2.2.2.1, u6.2.2.2.2.2.2.2.2)))))
set_option maxHeartbeats 4000000 in
set_option maxRecDepth 100000 in
theorem c_X9_friend (l : Launch) (D : va_G) (k : Nat → ClassId) (m_a : Nat → Nat) (m_limbs : Nat → Int32) (m_wide : Nat → Int32) (m_book : Nat → Int32) (m_images : Nat → Int32) (m_kept : Nat → Int32) (m_before : Nat → Int32) (m_refused : Nat → Int32) (m_quiet : Int32) (m_text : Nat → Int32) (m_typed : Int32) (m_at : Int32) (m_start : Int32) (m_token : Int32) (m_value : Int32) (m_items : Nat → Int32) (m_many : Int32) (m_is : Nat → Int32) (m_likes : Nat → Int32) (m_without : Int32) (m_onePicture : Int32) (m_oneYear : Int32) (m_first : Int32) (m_second : Int32) (m_names : Nat → Int32) (p1 : Int32) (y : Int32 × Int32 × Int32 × Int32 × (Nat → Int32) × (Nat → Int32) × (Nat → Int32) × (Nat → Int32) × (Nat → Int32)) (hf : f_X9_friend m_limbs m_wide m_book m_refused m_quiet m_is m_likes m_without m_onePicture m_oneYear m_first m_second p1 = some y) : cx_M l yX9_friend cX9_friend 2 (some .int) 8 D k [.ref (m_a 0), .int p1] (wd_Model k m_a m_limbs m_wide m_book m_images m_kept m_before m_refused m_quiet m_text m_typed m_at m_start m_token m_value m_items m_many m_is m_likes m_without m_onePicture m_oneYear m_first m_second m_names) (fun sz => cx_Qi D y.1 (wd_Model k m_a m_limbs m_wide m_book m_images m_kept m_before m_refused m_quiet m_text m_typed m_at m_start m_token m_value m_items m_many m_is m_likes m_without m_onePicture m_oneYear m_first m_second m_names) (wd_Model k m_a y.2.2.2.2.1 y.2.2.2.2.2.1 m_book m_images m_kept m_before y.2.2.2.2.2.2.1 m_quiet m_text m_typed m_at m_start m_token m_value m_items m_many y.2.2.2.2.2.2.2.1 y.2.2.2.2.2.2.2.2 y.2.1 y.2.2.1 m_oneYear y.2.2.2.1 m_second m_names) sz) := by
  refine cx_met (own := "NamelessBoxModel") (by decide) rfl (Nat.le_of_ble_eq_true rfl) ?_
  intro p e s m args below meth c A Q C hA hQ hr hlk
  refine cx_lv (lv' := [(0, .ref (m_a 0)), (1, .int p1)]) [0, 1] rfl ?_
  unfold f_X9_friend at hf
  refine cx_aload_n C dX9_friend_0 0 rfl ?_
  refine cx_iload_n C dX9_friend_1 1 rfl ?_
  obtain ⟨u1, e2, hf⟩ := cx_bd_at hf
  refine cx_Fvi (q := (RX9, TX9, 24)) (As := [.int p1]) (rest := []) (w1 := (wd_Model k m_a m_limbs m_wide m_book m_images m_kept m_before m_refused m_quiet m_text m_typed m_at m_start m_token m_value m_items m_many m_is m_likes m_without m_onePicture m_oneYear m_first m_second m_names)) hA C me_X9_isPerson hw_1153 (c_X9_isPerson l D k m_a m_limbs m_wide m_book m_images m_kept m_before m_refused m_quiet m_text m_typed m_at m_start m_token m_value m_items m_many m_is m_likes m_without m_onePicture m_oneYear m_first m_second m_names p1 u1 e2) dX9_friend_2 ⟨Nat.le_of_ble_eq_true rfl, Nat.le_of_ble_eq_true rfl⟩ ⟨Nat.zero_le _, Nat.zero_le _⟩ rfl rfl (Nat.le_of_ble_eq_true rfl) rfl rfl rfl ?_
  clear e2
  refine cx_if_eq (tgt := 18) C dX9_friend_5 (by decide) (fun c3 => ?_) (fun c3 => ?_)
  · have hf := cx_if_t hf c3
    clear c3
    refine cx_aload_n C dX9_friend_18 0 rfl ?_
    obtain ⟨u4, e5, hf⟩ := cx_bd_at hf
    refine cx_Fvi (q := (RX9, TX9, 24)) (As := []) (rest := []) (w1 := (wd_Model k m_a m_limbs m_wide m_book m_images m_kept m_before u4.2 m_quiet m_text m_typed m_at m_start m_token m_value m_items m_many m_is m_likes m_without m_onePicture m_oneYear m_first m_second m_names)) hA C me_X9_bad hw_1137 (c_X9_bad l D k m_a m_limbs m_wide m_book m_images m_kept m_before m_refused m_quiet m_text m_typed m_at m_start m_token m_value m_items m_many m_is m_likes m_without m_onePicture m_oneYear m_first m_second m_names u4 e5) dX9_friend_19 ⟨Nat.le_of_ble_eq_true rfl, Nat.le_of_ble_eq_true rfl⟩ ⟨Nat.zero_le _, Nat.zero_le _⟩ rfl rfl (Nat.le_of_ble_eq_true rfl) rfl rfl rfl ?_
    clear e5
    obtain rfl := Option.some.inj hf
    exact cx_iret C hA hQ hr hlk dX9_friend_22 rfl rfl
  · have hf := cx_if_f hf c3
    clear c3
    refine cx_aload_n C dX9_friend_8 0 rfl ?_
    refine cx_iconst (v := 3) C dX9_friend_9 (by decide) ?_
    refine cx_iload_n C dX9_friend_10 1 rfl ?_
    refine cx_iconst (v := 0) C dX9_friend_11 (by decide) ?_
    obtain ⟨u6, e7, hf⟩ := cx_bd_at hf
    refine cx_Fvi (q := (RX9, TX9, 24)) (As := [.int 3, .int p1, .int 0]) (rest := []) (w1 := (wd_Model k m_a u6.2.2.2.2.1 u6.2.2.2.2.2.1 m_book m_images m_kept m_before u6.2.2.2.2.2.2.1 m_quiet m_text m_typed m_at m_start m_token m_value m_items m_many u6.2.2.2.2.2.2.2.1 u6.2.2.2.2.2.2.2.2 u6.2.1 u6.2.2.1 m_oneYear u6.2.2.2.1 m_second m_names)) hA C me_X9_asks hw_1413 (c_X9_asks l D k m_a m_limbs m_wide m_book m_images m_kept m_before m_refused m_quiet m_text m_typed m_at m_start m_token m_value m_items m_many m_is m_likes m_without m_onePicture m_oneYear m_first m_second m_names 3 p1 0 u6 e7) dX9_friend_12 ⟨Nat.le_of_ble_eq_true rfl, Nat.le_of_ble_eq_true rfl⟩ ⟨Nat.zero_le _, Nat.zero_le _⟩ rfl rfl (Nat.le_of_ble_eq_true rfl) rfl rfl rfl ?_
    clear e7
    refine cx_goto (tgt := 22) C dX9_friend_15 (by decide) ?_
    obtain rfl := Option.some.inj hf
    exact cx_iret C hA hQ hr hlk dX9_friend_22 rfl rfl
theorem dX9_of_0 : decode cX9_of 0 = .ok (.aload_n 0, 1) := by decide +kernel
theorem dX9_of_1 : decode cX9_of 1 = .ok (.iload_n 1, 1) := by decide +kernel
theorem dX9_of_2 : decode cX9_of 2 = .ok (.invokevirtual 119, 3) := by decide +kernel
theorem dX9_of_5 : decode cX9_of 5 = .ok (.ifCond .eq 21, 3) := by decide +kernel
theorem dX9_of_8 : decode cX9_of 8 = .ok (.aload_n 0, 1) := by decide +kernel
theorem dX9_of_9 : decode cX9_of 9 = .ok (.iload_n 2, 1) := by decide +kernel
theorem dX9_of_10 : decode cX9_of 10 = .ok (.invokevirtual 106, 3) := by decide +kernel
theorem dX9_of_13 : decode cX9_of 13 = .ok (.ifCond .eq 13, 3) := by decide +kernel
theorem dX9_of_16 : decode cX9_of 16 = .ok (.aload_n 0, 1) := by decide +kernel
theorem dX9_of_17 : decode cX9_of 17 = .ok (.iconst 4, 1) := by decide +kernel
theorem dX9_of_18 : decode cX9_of 18 = .ok (.iload_n 1, 1) := by decide +kernel
theorem dX9_of_19 : decode cX9_of 19 = .ok (.iload_n 2, 1) := by decide +kernel
theorem dX9_of_20 : decode cX9_of 20 = .ok (.invokevirtual 306, 3) := by decide +kernel
theorem dX9_of_23 : decode cX9_of 23 = .ok (.goto 7, 3) := by decide +kernel
theorem dX9_of_26 : decode cX9_of 26 = .ok (.aload_n 0, 1) := by decide +kernel
theorem dX9_of_27 : decode cX9_of 27 = .ok (.invokevirtual 99, 3) := by decide +kernel
theorem dX9_of_30 : decode cX9_of 30 = .ok (.ireturn, 1) := by decide +kernel
theorem me_X9_of : cx_Mv yX9_of cX9_of 3 (some .int) 2 := ⟨⟨⟨by decide +kernel, by decide +kernel, by decide +kernel⟩, hw_11, hw_1428⟩, hw_1426, hw_1427⟩
noncomputable def f_X9_of_J26 (m_limbs : Nat → Int32) (m_wide : Nat → Int32) (m_refused : Nat → Int32) (m_quiet : Int32) (m_is : Nat → Int32) (m_likes : Nat → Int32) (m_without : Int32) (m_onePicture : Int32) (m_first : Int32) : Option (Int32 × Int32 × Int32 × Int32 × (Nat → Int32) × (Nat → Int32) × (Nat → Int32) × (Nat → Int32) × (Nat → Int32)) := Option.bind (f_X9_bad m_refused m_quiet) (fun u4 => some ((u4.1, m_without, m_onePicture, m_first, m_limbs, m_wide, u4.2, m_is, m_likes)))
noncomputable def f_X9_of (m_limbs : Nat → Int32) (m_wide : Nat → Int32) (m_book : Nat → Int32) (m_refused : Nat → Int32) (m_quiet : Int32) (m_is : Nat → Int32) (m_likes : Nat → Int32) (m_without : Int32) (m_onePicture : Int32) (m_oneYear : Int32) (m_first : Int32) (m_second : Int32) (p1 : Int32) (p2 : Int32) : Option (Int32 × Int32 × Int32 × Int32 × (Nat → Int32) × (Nat → Int32) × (Nat → Int32) × (Nat → Int32) × (Nat → Int32)) := Option.bind (f_X9_isHead m_book p1) (fun u1 => if u1 = 0 then (f_X9_of_J26 m_limbs m_wide m_refused m_quiet m_is m_likes m_without m_onePicture m_first) else (Option.bind (f_X9_isPerson m_book p2) (fun u6 => if u6 = 0 then (f_X9_of_J26 m_limbs m_wide m_refused m_quiet m_is m_likes m_without m_onePicture m_first) else (Option.bind (f_X9_asks m_limbs m_wide m_book m_refused m_quiet m_is m_likes m_oneYear m_second 4 p1 p2) (fun u9 => some ((u9.1, u9.2.1, u9.2.2.1, u9.2.2.2.1, u9.2.2.2.2.1, u9.2.2.2.2.2.1, u9.2.2.2.2.2.2.1, u9.2.2.2.2.2.2.2.1, u9.2.2.2.2.2.2.2.2)))))))
set_option maxHeartbeats 4000000 in
set_option maxRecDepth 100000 in
theorem c_X9_of (l : Launch) (D : va_G) (k : Nat → ClassId) (m_a : Nat → Nat) (m_limbs : Nat → Int32) (m_wide : Nat → Int32) (m_book : Nat → Int32) (m_images : Nat → Int32) (m_kept : Nat → Int32) (m_before : Nat → Int32) (m_refused : Nat → Int32) (m_quiet : Int32) (m_text : Nat → Int32) (m_typed : Int32) (m_at : Int32) (m_start : Int32) (m_token : Int32) (m_value : Int32) (m_items : Nat → Int32) (m_many : Int32) (m_is : Nat → Int32) (m_likes : Nat → Int32) (m_without : Int32) (m_onePicture : Int32) (m_oneYear : Int32) (m_first : Int32) (m_second : Int32) (m_names : Nat → Int32) (p1 : Int32) (p2 : Int32) (y : Int32 × Int32 × Int32 × Int32 × (Nat → Int32) × (Nat → Int32) × (Nat → Int32) × (Nat → Int32) × (Nat → Int32)) (hf : f_X9_of m_limbs m_wide m_book m_refused m_quiet m_is m_likes m_without m_onePicture m_oneYear m_first m_second p1 p2 = some y) : cx_M l yX9_of cX9_of 3 (some .int) 8 D k [.ref (m_a 0), .int p1, .int p2] (wd_Model k m_a m_limbs m_wide m_book m_images m_kept m_before m_refused m_quiet m_text m_typed m_at m_start m_token m_value m_items m_many m_is m_likes m_without m_onePicture m_oneYear m_first m_second m_names) (fun sz => cx_Qi D y.1 (wd_Model k m_a m_limbs m_wide m_book m_images m_kept m_before m_refused m_quiet m_text m_typed m_at m_start m_token m_value m_items m_many m_is m_likes m_without m_onePicture m_oneYear m_first m_second m_names) (wd_Model k m_a y.2.2.2.2.1 y.2.2.2.2.2.1 m_book m_images m_kept m_before y.2.2.2.2.2.2.1 m_quiet m_text m_typed m_at m_start m_token m_value m_items m_many y.2.2.2.2.2.2.2.1 y.2.2.2.2.2.2.2.2 y.2.1 y.2.2.1 m_oneYear y.2.2.2.1 m_second m_names) sz) := by
  refine cx_met (own := "NamelessBoxModel") (by decide) rfl (Nat.le_of_ble_eq_true rfl) ?_
  intro p e s m args below meth c A Q C hA hQ hr hlk
  refine cx_lv (lv' := [(0, .ref (m_a 0)), (1, .int p1), (2, .int p2)]) [0, 1, 2] rfl ?_
  have J26 : f_X9_of_J26 m_limbs m_wide m_refused m_quiet m_is m_likes m_without m_onePicture m_first = some y → cx_S p l e (cx_rm 8) s m args below meth c A D 3 0 0 Q 26 [(0, .ref (m_a 0))] [] (wd_Model k m_a m_limbs m_wide m_book m_images m_kept m_before m_refused m_quiet m_text m_typed m_at m_start m_token m_value m_items m_many m_is m_likes m_without m_onePicture m_oneYear m_first m_second m_names) := by
    intro  hf
    unfold f_X9_of_J26 at hf
    refine cx_aload_n C dX9_of_26 0 rfl ?_
    obtain ⟨u4, e5, hf⟩ := cx_bd_at hf
    refine cx_Fvi (q := (RX9, TX9, 24)) (As := []) (rest := []) (w1 := (wd_Model k m_a m_limbs m_wide m_book m_images m_kept m_before u4.2 m_quiet m_text m_typed m_at m_start m_token m_value m_items m_many m_is m_likes m_without m_onePicture m_oneYear m_first m_second m_names)) hA C me_X9_bad hw_1137 (c_X9_bad l D k m_a m_limbs m_wide m_book m_images m_kept m_before m_refused m_quiet m_text m_typed m_at m_start m_token m_value m_items m_many m_is m_likes m_without m_onePicture m_oneYear m_first m_second m_names u4 e5) dX9_of_27 ⟨Nat.le_of_ble_eq_true rfl, Nat.le_of_ble_eq_true rfl⟩ ⟨Nat.zero_le _, Nat.zero_le _⟩ rfl rfl (Nat.le_of_ble_eq_true rfl) rfl rfl rfl ?_
    clear e5
    obtain rfl := Option.some.inj hf
    exact cx_iret C hA hQ hr hlk dX9_of_30 rfl rfl
  unfold f_X9_of at hf
  refine cx_aload_n C dX9_of_0 0 rfl ?_
  refine cx_iload_n C dX9_of_1 1 rfl ?_
  obtain ⟨u1, e2, hf⟩ := cx_bd_at hf
  refine cx_Fvi (q := (RX9, TX9, 24)) (As := [.int p1]) (rest := []) (w1 := (wd_Model k m_a m_limbs m_wide m_book m_images m_kept m_before m_refused m_quiet m_text m_typed m_at m_start m_token m_value m_items m_many m_is m_likes m_without m_onePicture m_oneYear m_first m_second m_names)) hA C me_X9_isHead hw_1183 (c_X9_isHead l D k m_a m_limbs m_wide m_book m_images m_kept m_before m_refused m_quiet m_text m_typed m_at m_start m_token m_value m_items m_many m_is m_likes m_without m_onePicture m_oneYear m_first m_second m_names p1 u1 e2) dX9_of_2 ⟨Nat.le_of_ble_eq_true rfl, Nat.le_of_ble_eq_true rfl⟩ ⟨Nat.zero_le _, Nat.zero_le _⟩ rfl rfl (Nat.le_of_ble_eq_true rfl) rfl rfl rfl ?_
  clear e2
  refine cx_if_eq (tgt := 26) C dX9_of_5 (by decide) (fun c3 => ?_) (fun c3 => ?_)
  · have hf := cx_if_t hf c3
    clear c3
    refine cx_lv [0] rfl ?_
    exact J26 hf
  · have hf := cx_if_f hf c3
    clear c3
    refine cx_aload_n C dX9_of_8 0 rfl ?_
    refine cx_iload_n C dX9_of_9 2 rfl ?_
    obtain ⟨u6, e7, hf⟩ := cx_bd_at hf
    refine cx_Fvi (q := (RX9, TX9, 24)) (As := [.int p2]) (rest := []) (w1 := (wd_Model k m_a m_limbs m_wide m_book m_images m_kept m_before m_refused m_quiet m_text m_typed m_at m_start m_token m_value m_items m_many m_is m_likes m_without m_onePicture m_oneYear m_first m_second m_names)) hA C me_X9_isPerson hw_1153 (c_X9_isPerson l D k m_a m_limbs m_wide m_book m_images m_kept m_before m_refused m_quiet m_text m_typed m_at m_start m_token m_value m_items m_many m_is m_likes m_without m_onePicture m_oneYear m_first m_second m_names p2 u6 e7) dX9_of_10 ⟨Nat.le_of_ble_eq_true rfl, Nat.le_of_ble_eq_true rfl⟩ ⟨Nat.zero_le _, Nat.zero_le _⟩ rfl rfl (Nat.le_of_ble_eq_true rfl) rfl rfl rfl ?_
    clear e7
    refine cx_if_eq (tgt := 26) C dX9_of_13 (by decide) (fun c8 => ?_) (fun c8 => ?_)
    · have hf := cx_if_t hf c8
      clear c8
      refine cx_lv [0] rfl ?_
      exact J26 hf
    · have hf := cx_if_f hf c8
      clear c8
      refine cx_aload_n C dX9_of_16 0 rfl ?_
      refine cx_iconst (v := 4) C dX9_of_17 (by decide) ?_
      refine cx_iload_n C dX9_of_18 1 rfl ?_
      refine cx_iload_n C dX9_of_19 2 rfl ?_
      obtain ⟨u9, e10, hf⟩ := cx_bd_at hf
      refine cx_Fvi (q := (RX9, TX9, 24)) (As := [.int 4, .int p1, .int p2]) (rest := []) (w1 := (wd_Model k m_a u9.2.2.2.2.1 u9.2.2.2.2.2.1 m_book m_images m_kept m_before u9.2.2.2.2.2.2.1 m_quiet m_text m_typed m_at m_start m_token m_value m_items m_many u9.2.2.2.2.2.2.2.1 u9.2.2.2.2.2.2.2.2 u9.2.1 u9.2.2.1 m_oneYear u9.2.2.2.1 m_second m_names)) hA C me_X9_asks hw_1413 (c_X9_asks l D k m_a m_limbs m_wide m_book m_images m_kept m_before m_refused m_quiet m_text m_typed m_at m_start m_token m_value m_items m_many m_is m_likes m_without m_onePicture m_oneYear m_first m_second m_names 4 p1 p2 u9 e10) dX9_of_20 ⟨Nat.le_of_ble_eq_true rfl, Nat.le_of_ble_eq_true rfl⟩ ⟨Nat.zero_le _, Nat.zero_le _⟩ rfl rfl (Nat.le_of_ble_eq_true rfl) rfl rfl rfl ?_
      clear e10
      refine cx_goto (tgt := 30) C dX9_of_23 (by decide) ?_
      obtain rfl := Option.some.inj hf
      exact cx_iret C hA hQ hr hlk dX9_of_30 rfl rfl
theorem dX9_years2_0 : decode cX9_years2 0 = .ok (.aload_n 0, 1) := by decide +kernel
theorem dX9_years2_1 : decode cX9_years2 1 = .ok (.invokevirtual 284, 3) := by decide +kernel
theorem dX9_years2_4 : decode cX9_years2 4 = .ok (.aload_n 0, 1) := by decide +kernel
theorem dX9_years2_5 : decode cX9_years2 5 = .ok (.iconst 0, 1) := by decide +kernel
theorem dX9_years2_6 : decode cX9_years2 6 = .ok (.iconst 0, 1) := by decide +kernel
theorem dX9_years2_7 : decode cX9_years2 7 = .ok (.iconst 0, 1) := by decide +kernel
theorem dX9_years2_8 : decode cX9_years2 8 = .ok (.invokevirtual 299, 3) := by decide +kernel
theorem dX9_years2_11 : decode cX9_years2 11 = .ok (.aload_n 0, 1) := by decide +kernel
theorem dX9_years2_12 : decode cX9_years2 12 = .ok (.bipush 10, 2) := by decide +kernel
theorem dX9_years2_14 : decode cX9_years2 14 = .ok (.bipush 6, 2) := by decide +kernel
theorem dX9_years2_16 : decode cX9_years2 16 = .ok (.invokevirtual 20, 3) := by decide +kernel
theorem dX9_years2_19 : decode cX9_years2 19 = .ok (.aload_n 0, 1) := by decide +kernel
theorem dX9_years2_20 : decode cX9_years2 20 = .ok (.iload_n 1, 1) := by decide +kernel
theorem dX9_years2_21 : decode cX9_years2 21 = .ok (.putfield 235, 3) := by decide +kernel
theorem dX9_years2_24 : decode cX9_years2 24 = .ok (.aload_n 0, 1) := by decide +kernel
theorem dX9_years2_25 : decode cX9_years2 25 = .ok (.iload_n 2, 1) := by decide +kernel
theorem dX9_years2_26 : decode cX9_years2 26 = .ok (.putfield 256, 3) := by decide +kernel
theorem dX9_years2_29 : decode cX9_years2 29 = .ok (.aload_n 0, 1) := by decide +kernel
theorem dX9_years2_30 : decode cX9_years2 30 = .ok (.iload_n 3, 1) := by decide +kernel
theorem dX9_years2_31 : decode cX9_years2 31 = .ok (.putfield 238, 3) := by decide +kernel
theorem dX9_years2_34 : decode cX9_years2 34 = .ok (.aload_n 0, 1) := by decide +kernel
theorem dX9_years2_35 : decode cX9_years2 35 = .ok (.iload 4, 2) := by decide +kernel
theorem dX9_years2_37 : decode cX9_years2 37 = .ok (.putfield 250, 3) := by decide +kernel
theorem dX9_years2_40 : decode cX9_years2 40 = .ok (.aload_n 0, 1) := by decide +kernel
theorem dX9_years2_41 : decode cX9_years2 41 = .ok (.iconst 0, 1) := by decide +kernel
theorem dX9_years2_42 : decode cX9_years2 42 = .ok (.iconst 0, 1) := by decide +kernel
theorem dX9_years2_43 : decode cX9_years2 43 = .ok (.iconst 0, 1) := by decide +kernel
theorem dX9_years2_44 : decode cX9_years2 44 = .ok (.invokevirtual 299, 3) := by decide +kernel
theorem dX9_years2_47 : decode cX9_years2 47 = .ok (.aload_n 0, 1) := by decide +kernel
theorem dX9_years2_48 : decode cX9_years2 48 = .ok (.bipush 7, 2) := by decide +kernel
theorem dX9_years2_50 : decode cX9_years2 50 = .ok (.bipush 6, 2) := by decide +kernel
theorem dX9_years2_52 : decode cX9_years2 52 = .ok (.invokevirtual 20, 3) := by decide +kernel
theorem dX9_years2_55 : decode cX9_years2 55 = .ok (.aload_n 0, 1) := by decide +kernel
theorem dX9_years2_56 : decode cX9_years2 56 = .ok (.bipush 6, 2) := by decide +kernel
theorem dX9_years2_58 : decode cX9_years2 58 = .ok (.bipush 10, 2) := by decide +kernel
theorem dX9_years2_60 : decode cX9_years2 60 = .ok (.invokevirtual 20, 3) := by decide +kernel
theorem dX9_years2_63 : decode cX9_years2 63 = .ok (.aload_n 0, 1) := by decide +kernel
theorem dX9_years2_64 : decode cX9_years2 64 = .ok (.getfield 3, 3) := by decide +kernel
theorem dX9_years2_67 : decode cX9_years2 67 = .ok (.bipush 6, 2) := by decide +kernel
theorem dX9_years2_69 : decode cX9_years2 69 = .ok (.iaload, 1) := by decide +kernel
theorem dX9_years2_70 : decode cX9_years2 70 = .ok (.ifCond .le 7, 3) := by decide +kernel
theorem dX9_years2_73 : decode cX9_years2 73 = .ok (.iconst 1, 1) := by decide +kernel
theorem dX9_years2_74 : decode cX9_years2 74 = .ok (.goto 4, 3) := by decide +kernel
theorem dX9_years2_77 : decode cX9_years2 77 = .ok (.iconst 0, 1) := by decide +kernel
theorem dX9_years2_78 : decode cX9_years2 78 = .ok (.ireturn, 1) := by decide +kernel
theorem me_X9_years2 : cx_Mv yX9_years2 cX9_years2 5 (some .boolean) 4 := ⟨⟨⟨by decide +kernel, by decide +kernel, by decide +kernel⟩, hw_11, hw_1436⟩, hw_1435, hs_81⟩
noncomputable def f_X9_years2 (m_limbs : Nat → Int32) (m_wide : Nat → Int32) (m_book : Nat → Int32) (m_is : Nat → Int32) (m_likes : Nat → Int32) (m_oneYear : Int32) (m_second : Int32) (p1 : Int32) (p2 : Int32) (p3 : Int32) (p4 : Int32) : Option (Int32 × Int32 × Int32 × Int32 × Int32 × Int32 × (Nat → Int32) × (Nat → Int32) × (Nat → Int32) × (Nat → Int32)) := Option.bind (f_X9_begins m_book m_likes) (fun u1 => Option.bind (f_X9_sums m_limbs m_wide m_book m_is u1.2.2.2 u1.1 u1.2.1 m_oneYear u1.2.2.1 m_second 0 0 0) (fun u3 => Option.bind (f_X9_takes u3.1 u3.2.1 10 6) (fun u5 => Option.bind (f_X9_sums u5.1 u5.2 m_book u3.2.2 u1.2.2.2 u1.1 p1 p2 p3 p4 0 0 0) (fun u7 => Option.bind (f_X9_takes u7.1 u7.2.1 7 6) (fun u9 => Option.bind (f_X9_takes u9.1 u9.2 6 10) (fun u11 => cx_gd (cx_ib 6 270) (if (u11.2 (cx_ix 6)) ≤ 0 then (some ((0, u1.1, p1, p2, p3, p4, u11.1, u11.2, u7.2.2, u1.2.2.2))) else (some ((1, u1.1, p1, p2, p3, p4, u11.1, u11.2, u7.2.2, u1.2.2.2))))))))))
set_option maxHeartbeats 4000000 in
set_option maxRecDepth 100000 in
theorem c_X9_years2 (l : Launch) (D : va_G) (k : Nat → ClassId) (m_a : Nat → Nat) (m_limbs : Nat → Int32) (m_wide : Nat → Int32) (m_book : Nat → Int32) (m_images : Nat → Int32) (m_kept : Nat → Int32) (m_before : Nat → Int32) (m_refused : Nat → Int32) (m_quiet : Int32) (m_text : Nat → Int32) (m_typed : Int32) (m_at : Int32) (m_start : Int32) (m_token : Int32) (m_value : Int32) (m_items : Nat → Int32) (m_many : Int32) (m_is : Nat → Int32) (m_likes : Nat → Int32) (m_without : Int32) (m_onePicture : Int32) (m_oneYear : Int32) (m_first : Int32) (m_second : Int32) (m_names : Nat → Int32) (p1 : Int32) (p2 : Int32) (p3 : Int32) (p4 : Int32) (y : Int32 × Int32 × Int32 × Int32 × Int32 × Int32 × (Nat → Int32) × (Nat → Int32) × (Nat → Int32) × (Nat → Int32)) (hf : f_X9_years2 m_limbs m_wide m_book m_is m_likes m_oneYear m_second p1 p2 p3 p4 = some y) : cx_M l yX9_years2 cX9_years2 5 (some .boolean) 7 D k [.ref (m_a 0), .int p1, .int p2, .int p3, .int p4] (wd_Model k m_a m_limbs m_wide m_book m_images m_kept m_before m_refused m_quiet m_text m_typed m_at m_start m_token m_value m_items m_many m_is m_likes m_without m_onePicture m_oneYear m_first m_second m_names) (fun sz => cx_Qi D y.1 (wd_Model k m_a m_limbs m_wide m_book m_images m_kept m_before m_refused m_quiet m_text m_typed m_at m_start m_token m_value m_items m_many m_is m_likes m_without m_onePicture m_oneYear m_first m_second m_names) (wd_Model k m_a y.2.2.2.2.2.2.1 y.2.2.2.2.2.2.2.1 m_book m_images m_kept m_before m_refused m_quiet m_text m_typed m_at m_start m_token m_value m_items m_many y.2.2.2.2.2.2.2.2.1 y.2.2.2.2.2.2.2.2.2 y.2.1 y.2.2.1 y.2.2.2.1 y.2.2.2.2.1 y.2.2.2.2.2.1 m_names) sz) := by
  refine cx_met (own := "NamelessBoxModel") (by decide) rfl (Nat.le_of_ble_eq_true rfl) ?_
  intro p e s m args below meth c A Q C hA hQ hr hlk
  refine cx_lv (lv' := [(0, .ref (m_a 0)), (1, .int p1), (2, .int p2), (3, .int p3), (4, .int p4)]) [0, 1, 2, 3, 4] rfl ?_
  unfold f_X9_years2 at hf
  refine cx_aload_n C dX9_years2_0 0 rfl ?_
  obtain ⟨u1, e2, hf⟩ := cx_bd_at hf
  refine cx_Fvv (q := (RX9, TX9, 24)) (As := []) (rest := []) (w1 := (wd_Model k m_a m_limbs m_wide m_book m_images m_kept m_before m_refused m_quiet m_text m_typed m_at m_start m_token m_value m_items m_many m_is u1.2.2.2 u1.1 u1.2.1 m_oneYear u1.2.2.1 m_second m_names)) hA C me_X9_begins hw_1284 (c_X9_begins l D k m_a m_limbs m_wide m_book m_images m_kept m_before m_refused m_quiet m_text m_typed m_at m_start m_token m_value m_items m_many m_is m_likes m_without m_onePicture m_oneYear m_first m_second m_names u1 e2) dX9_years2_1 ⟨Nat.le_of_ble_eq_true rfl, Nat.le_of_ble_eq_true rfl⟩ ⟨Nat.zero_le _, Nat.zero_le _⟩ rfl rfl (Nat.le_of_ble_eq_true rfl) rfl rfl rfl ?_
  clear e2
  refine cx_aload_n C dX9_years2_4 0 rfl ?_
  refine cx_iconst (v := 0) C dX9_years2_5 (by decide) ?_
  refine cx_iconst (v := 0) C dX9_years2_6 (by decide) ?_
  refine cx_iconst (v := 0) C dX9_years2_7 (by decide) ?_
  obtain ⟨u3, e4, hf⟩ := cx_bd_at hf
  refine cx_Fvv (q := (RX9, TX9, 24)) (As := [.int 0, .int 0, .int 0]) (rest := []) (w1 := (wd_Model k m_a u3.1 u3.2.1 m_book m_images m_kept m_before m_refused m_quiet m_text m_typed m_at m_start m_token m_value m_items m_many u3.2.2 u1.2.2.2 u1.1 u1.2.1 m_oneYear u1.2.2.1 m_second m_names)) hA C me_X9_sums hw_1385 (c_X9_sums l D k m_a m_limbs m_wide m_book m_images m_kept m_before m_refused m_quiet m_text m_typed m_at m_start m_token m_value m_items m_many m_is u1.2.2.2 u1.1 u1.2.1 m_oneYear u1.2.2.1 m_second m_names 0 0 0 u3 e4) dX9_years2_8 ⟨Nat.le_of_ble_eq_true rfl, Nat.le_of_ble_eq_true rfl⟩ ⟨Nat.zero_le _, Nat.zero_le _⟩ rfl rfl (Nat.le_of_ble_eq_true rfl) rfl rfl rfl ?_
  clear e4
  refine cx_aload_n C dX9_years2_11 0 rfl ?_
  refine cx_bipush (v := 10) C dX9_years2_12 (by decide) ?_
  refine cx_bipush (v := 6) C dX9_years2_14 (by decide) ?_
  obtain ⟨u5, e6, hf⟩ := cx_bd_at hf
  refine cx_Fvv (q := (RX9, TX9, 24)) (As := [.int 10, .int 6]) (rest := []) (w1 := (wd_Model k m_a u5.1 u5.2 m_book m_images m_kept m_before m_refused m_quiet m_text m_typed m_at m_start m_token m_value m_items m_many u3.2.2 u1.2.2.2 u1.1 u1.2.1 m_oneYear u1.2.2.1 m_second m_names)) hA C me_X9_takes hw_1324 (c_X9_takes l D k m_a u3.1 u3.2.1 m_book m_images m_kept m_before m_refused m_quiet m_text m_typed m_at m_start m_token m_value m_items m_many u3.2.2 u1.2.2.2 u1.1 u1.2.1 m_oneYear u1.2.2.1 m_second m_names 10 6 u5 e6) dX9_years2_16 ⟨Nat.le_of_ble_eq_true rfl, Nat.le_of_ble_eq_true rfl⟩ ⟨Nat.zero_le _, Nat.zero_le _⟩ rfl rfl (Nat.le_of_ble_eq_true rfl) rfl rfl rfl ?_
  clear e6
  refine cx_aload_n C dX9_years2_19 0 rfl ?_
  refine cx_iload_n C dX9_years2_20 1 rfl ?_
  refine cx_putf (v := .int p1) (ty := .int) (ci := 8) (ws' := (wd_Model k m_a u5.1 u5.2 m_book m_images m_kept m_before m_refused m_quiet m_text m_typed m_at m_start m_token m_value m_items m_many u3.2.2 u1.2.2.2 u1.1 p1 m_oneYear u1.2.2.1 m_second m_names)) C iX9 tyX9 tyX9_ok nmX9 dX9_years2_21 0 rfl rfl 19 (by decide) hw_1073 rfl (by decide +kernel) rfl rfl (Nat.le_of_ble_eq_true rfl) rfl ?_
  refine cx_aload_n C dX9_years2_24 0 rfl ?_
  refine cx_iload_n C dX9_years2_25 2 rfl ?_
  refine cx_putf (v := .int p2) (ty := .int) (ci := 8) (ws' := (wd_Model k m_a u5.1 u5.2 m_book m_images m_kept m_before m_refused m_quiet m_text m_typed m_at m_start m_token m_value m_items m_many u3.2.2 u1.2.2.2 u1.1 p1 p2 u1.2.2.1 m_second m_names)) C iX9 tyX9 tyX9_ok nmX9 dX9_years2_26 0 rfl rfl 20 (by decide) hw_1074 rfl (by decide +kernel) rfl rfl (Nat.le_of_ble_eq_true rfl) rfl ?_
  refine cx_aload_n C dX9_years2_29 0 rfl ?_
  refine cx_iload_n C dX9_years2_30 3 rfl ?_
  refine cx_putf (v := .int p3) (ty := .int) (ci := 8) (ws' := (wd_Model k m_a u5.1 u5.2 m_book m_images m_kept m_before m_refused m_quiet m_text m_typed m_at m_start m_token m_value m_items m_many u3.2.2 u1.2.2.2 u1.1 p1 p2 p3 m_second m_names)) C iX9 tyX9 tyX9_ok nmX9 dX9_years2_31 0 rfl rfl 21 (by decide) hw_1075 rfl (by decide +kernel) rfl rfl (Nat.le_of_ble_eq_true rfl) rfl ?_
  refine cx_aload_n C dX9_years2_34 0 rfl ?_
  refine cx_iload C dX9_years2_35 4 rfl ?_
  refine cx_putf (v := .int p4) (ty := .int) (ci := 8) (ws' := (wd_Model k m_a u5.1 u5.2 m_book m_images m_kept m_before m_refused m_quiet m_text m_typed m_at m_start m_token m_value m_items m_many u3.2.2 u1.2.2.2 u1.1 p1 p2 p3 p4 m_names)) C iX9 tyX9 tyX9_ok nmX9 dX9_years2_37 0 rfl rfl 22 (by decide) hw_1076 rfl (by decide +kernel) rfl rfl (Nat.le_of_ble_eq_true rfl) rfl ?_
  refine cx_aload_n C dX9_years2_40 0 rfl ?_
  refine cx_iconst (v := 0) C dX9_years2_41 (by decide) ?_
  refine cx_iconst (v := 0) C dX9_years2_42 (by decide) ?_
  refine cx_iconst (v := 0) C dX9_years2_43 (by decide) ?_
  obtain ⟨u7, e8, hf⟩ := cx_bd_at hf
  refine cx_Fvv (q := (RX9, TX9, 24)) (As := [.int 0, .int 0, .int 0]) (rest := []) (w1 := (wd_Model k m_a u7.1 u7.2.1 m_book m_images m_kept m_before m_refused m_quiet m_text m_typed m_at m_start m_token m_value m_items m_many u7.2.2 u1.2.2.2 u1.1 p1 p2 p3 p4 m_names)) hA C me_X9_sums hw_1385 (c_X9_sums l D k m_a u5.1 u5.2 m_book m_images m_kept m_before m_refused m_quiet m_text m_typed m_at m_start m_token m_value m_items m_many u3.2.2 u1.2.2.2 u1.1 p1 p2 p3 p4 m_names 0 0 0 u7 e8) dX9_years2_44 ⟨Nat.le_of_ble_eq_true rfl, Nat.le_of_ble_eq_true rfl⟩ ⟨Nat.zero_le _, Nat.zero_le _⟩ rfl rfl (Nat.le_of_ble_eq_true rfl) rfl rfl rfl ?_
  clear e8
  refine cx_aload_n C dX9_years2_47 0 rfl ?_
  refine cx_bipush (v := 7) C dX9_years2_48 (by decide) ?_
  refine cx_bipush (v := 6) C dX9_years2_50 (by decide) ?_
  obtain ⟨u9, e10, hf⟩ := cx_bd_at hf
  refine cx_Fvv (q := (RX9, TX9, 24)) (As := [.int 7, .int 6]) (rest := []) (w1 := (wd_Model k m_a u9.1 u9.2 m_book m_images m_kept m_before m_refused m_quiet m_text m_typed m_at m_start m_token m_value m_items m_many u7.2.2 u1.2.2.2 u1.1 p1 p2 p3 p4 m_names)) hA C me_X9_takes hw_1324 (c_X9_takes l D k m_a u7.1 u7.2.1 m_book m_images m_kept m_before m_refused m_quiet m_text m_typed m_at m_start m_token m_value m_items m_many u7.2.2 u1.2.2.2 u1.1 p1 p2 p3 p4 m_names 7 6 u9 e10) dX9_years2_52 ⟨Nat.le_of_ble_eq_true rfl, Nat.le_of_ble_eq_true rfl⟩ ⟨Nat.zero_le _, Nat.zero_le _⟩ rfl rfl (Nat.le_of_ble_eq_true rfl) rfl rfl rfl ?_
  clear e10
  refine cx_aload_n C dX9_years2_55 0 rfl ?_
  refine cx_bipush (v := 6) C dX9_years2_56 (by decide) ?_
  refine cx_bipush (v := 10) C dX9_years2_58 (by decide) ?_
  obtain ⟨u11, e12, hf⟩ := cx_bd_at hf
  refine cx_Fvv (q := (RX9, TX9, 24)) (As := [.int 6, .int 10]) (rest := []) (w1 := (wd_Model k m_a u11.1 u11.2 m_book m_images m_kept m_before m_refused m_quiet m_text m_typed m_at m_start m_token m_value m_items m_many u7.2.2 u1.2.2.2 u1.1 p1 p2 p3 p4 m_names)) hA C me_X9_takes hw_1324 (c_X9_takes l D k m_a u9.1 u9.2 m_book m_images m_kept m_before m_refused m_quiet m_text m_typed m_at m_start m_token m_value m_items m_many u7.2.2 u1.2.2.2 u1.1 p1 p2 p3 p4 m_names 6 10 u11 e12) dX9_years2_60 ⟨Nat.le_of_ble_eq_true rfl, Nat.le_of_ble_eq_true rfl⟩ ⟨Nat.zero_le _, Nat.zero_le _⟩ rfl rfl (Nat.le_of_ble_eq_true rfl) rfl rfl rfl ?_
  clear e12
  refine cx_aload_n C dX9_years2_63 0 rfl ?_
  refine cx_get (v := .ref (m_a 2)) (ci := 8) C iX9 dX9_years2_64 0 rfl rfl 1 (by decide) hw_1055 rfl ?_
  refine cx_bipush (v := 6) C dX9_years2_67 (by decide) ?_
  obtain ⟨g13, hf⟩ := cx_gd_at hf
  refine cx_iald C dX9_years2_69 2 rfl (cx_ib_in g13) ?_
  clear g13
  refine cx_if_le (tgt := 77) C dX9_years2_70 (by decide) (fun c14 => ?_) (fun c14 => ?_)
  · have hf := cx_if_t hf c14
    clear c14
    refine cx_iconst (v := 0) C dX9_years2_77 (by decide) ?_
    obtain rfl := Option.some.inj hf
    exact cx_zret C hA hQ hr hlk dX9_years2_78 rfl rfl rfl
  · have hf := cx_if_f hf c14
    clear c14
    refine cx_iconst (v := 1) C dX9_years2_73 (by decide) ?_
    refine cx_goto (tgt := 78) C dX9_years2_74 (by decide) ?_
    obtain rfl := Option.some.inj hf
    exact cx_zret C hA hQ hr hlk dX9_years2_78 rfl rfl rfl
theorem dX9_when_0 : decode cX9_when 0 = .ok (.aload_n 0, 1) := by decide +kernel
theorem dX9_when_1 : decode cX9_when 1 = .ok (.iload_n 1, 1) := by decide +kernel
theorem dX9_when_2 : decode cX9_when 2 = .ok (.invokevirtual 114, 3) := by decide +kernel
theorem dX9_when_5 : decode cX9_when 5 = .ok (.ifCond .eq 37, 3) := by decide +kernel
theorem dX9_when_8 : decode cX9_when 8 = .ok (.iload_n 2, 1) := by decide +kernel
theorem dX9_when_9 : decode cX9_when 9 = .ok (.i2l, 1) := by decide +kernel
theorem dX9_when_10 : decode cX9_when 10 = .ok (.aload_n 0, 1) := by decide +kernel
theorem dX9_when_11 : decode cX9_when 11 = .ok (.getfield 51, 3) := by decide +kernel
theorem dX9_when_14 : decode cX9_when 14 = .ok (.bipush 40, 2) := by decide +kernel
theorem dX9_when_16 : decode cX9_when 16 = .ok (.iconst 2, 1) := by decide +kernel
theorem dX9_when_17 : decode cX9_when 17 = .ok (.iload_n 1, 1) := by decide +kernel
theorem dX9_when_18 : decode cX9_when 18 = .ok (.imul, 1) := by decide +kernel
theorem dX9_when_19 : decode cX9_when 19 = .ok (.iadd, 1) := by decide +kernel
theorem dX9_when_20 : decode cX9_when 20 = .ok (.iaload, 1) := by decide +kernel
theorem dX9_when_21 : decode cX9_when 21 = .ok (.i2l, 1) := by decide +kernel
theorem dX9_when_22 : decode cX9_when 22 = .ok (.aload_n 0, 1) := by decide +kernel
theorem dX9_when_23 : decode cX9_when 23 = .ok (.getfield 51, 3) := by decide +kernel
theorem dX9_when_26 : decode cX9_when 26 = .ok (.bipush 40, 2) := by decide +kernel
theorem dX9_when_28 : decode cX9_when 28 = .ok (.iconst 2, 1) := by decide +kernel
theorem dX9_when_29 : decode cX9_when 29 = .ok (.iload_n 1, 1) := by decide +kernel
theorem dX9_when_30 : decode cX9_when 30 = .ok (.imul, 1) := by decide +kernel
theorem dX9_when_31 : decode cX9_when 31 = .ok (.iadd, 1) := by decide +kernel
theorem dX9_when_32 : decode cX9_when 32 = .ok (.iconst 1, 1) := by decide +kernel
theorem dX9_when_33 : decode cX9_when 33 = .ok (.iadd, 1) := by decide +kernel
theorem dX9_when_34 : decode cX9_when 34 = .ok (.iaload, 1) := by decide +kernel
theorem dX9_when_35 : decode cX9_when 35 = .ok (.i2l, 1) := by decide +kernel
theorem dX9_when_36 : decode cX9_when 36 = .ok (.invokestatic 89, 3) := by decide +kernel
theorem dX9_when_39 : decode cX9_when 39 = .ok (.ifCond .ne 8, 3) := by decide +kernel
theorem dX9_when_42 : decode cX9_when 42 = .ok (.aload_n 0, 1) := by decide +kernel
theorem dX9_when_43 : decode cX9_when 43 = .ok (.invokevirtual 99, 3) := by decide +kernel
theorem dX9_when_46 : decode cX9_when 46 = .ok (.ireturn, 1) := by decide +kernel
theorem dX9_when_47 : decode cX9_when 47 = .ok (.aload_n 0, 1) := by decide +kernel
theorem dX9_when_48 : decode cX9_when 48 = .ok (.iload_n 1, 1) := by decide +kernel
theorem dX9_when_49 : decode cX9_when 49 = .ok (.iload_n 2, 1) := by decide +kernel
theorem dX9_when_50 : decode cX9_when 50 = .ok (.aload_n 0, 1) := by decide +kernel
theorem dX9_when_51 : decode cX9_when 51 = .ok (.getfield 51, 3) := by decide +kernel
theorem dX9_when_54 : decode cX9_when 54 = .ok (.bipush 40, 2) := by decide +kernel
theorem dX9_when_56 : decode cX9_when 56 = .ok (.iconst 2, 1) := by decide +kernel
theorem dX9_when_57 : decode cX9_when 57 = .ok (.iload_n 1, 1) := by decide +kernel
theorem dX9_when_58 : decode cX9_when 58 = .ok (.imul, 1) := by decide +kernel
theorem dX9_when_59 : decode cX9_when 59 = .ok (.iadd, 1) := by decide +kernel
theorem dX9_when_60 : decode cX9_when 60 = .ok (.iaload, 1) := by decide +kernel
theorem dX9_when_61 : decode cX9_when 61 = .ok (.isub, 1) := by decide +kernel
theorem dX9_when_62 : decode cX9_when 62 = .ok (.iconst (-1), 1) := by decide +kernel
theorem dX9_when_63 : decode cX9_when 63 = .ok (.iconst (-1), 1) := by decide +kernel
theorem dX9_when_64 : decode cX9_when 64 = .ok (.invokevirtual 309, 3) := by decide +kernel
theorem dX9_when_67 : decode cX9_when 67 = .ok (.ifCond .eq 10, 3) := by decide +kernel
theorem dX9_when_70 : decode cX9_when 70 = .ok (.aload_n 0, 1) := by decide +kernel
theorem dX9_when_71 : decode cX9_when 71 = .ok (.invokevirtual 293, 3) := by decide +kernel
theorem dX9_when_74 : decode cX9_when 74 = .ok (.goto 7, 3) := by decide +kernel
theorem dX9_when_77 : decode cX9_when 77 = .ok (.aload_n 0, 1) := by decide +kernel
theorem dX9_when_78 : decode cX9_when 78 = .ok (.invokevirtual 290, 3) := by decide +kernel
theorem dX9_when_81 : decode cX9_when 81 = .ok (.ireturn, 1) := by decide +kernel
theorem me_X9_when : cx_Mv yX9_when cX9_when 3 (some .int) 2 := ⟨⟨⟨by decide +kernel, by decide +kernel, by decide +kernel⟩, hw_11, hw_1432⟩, hw_1430, hw_1431⟩
noncomputable def f_X9_when_J42 (m_limbs : Nat → Int32) (m_wide : Nat → Int32) (m_refused : Nat → Int32) (m_quiet : Int32) (m_is : Nat → Int32) (m_likes : Nat → Int32) (m_without : Int32) (m_onePicture : Int32) (m_oneYear : Int32) (m_first : Int32) (m_second : Int32) : Option (Int32 × Int32 × Int32 × Int32 × Int32 × Int32 × (Nat → Int32) × (Nat → Int32) × (Nat → Int32) × (Nat → Int32) × (Nat → Int32)) := Option.bind (f_X9_bad m_refused m_quiet) (fun u4 => some ((u4.1, m_without, m_onePicture, m_oneYear, m_first, m_second, m_limbs, m_wide, u4.2, m_is, m_likes)))
noncomputable def f_X9_when (m_limbs : Nat → Int32) (m_wide : Nat → Int32) (m_book : Nat → Int32) (m_refused : Nat → Int32) (m_quiet : Int32) (m_is : Nat → Int32) (m_likes : Nat → Int32) (m_without : Int32) (m_onePicture : Int32) (m_oneYear : Int32) (m_first : Int32) (m_second : Int32) (p1 : Int32) (p2 : Int32) : Option (Int32 × Int32 × Int32 × Int32 × Int32 × Int32 × (Nat → Int32) × (Nat → Int32) × (Nat → Int32) × (Nat → Int32) × (Nat → Int32)) := Option.bind (f_X9_isPicture m_book p1) (fun u1 => if u1 = 0 then (f_X9_when_J42 m_limbs m_wide m_refused m_quiet m_is m_likes m_without m_onePicture m_oneYear m_first m_second) else (cx_gd (cx_ib (40 + (2 * p1)) 140) (cx_gd (cx_ib ((40 + (2 * p1)) + 1) 140) (Option.bind (f_X9_in (Int32.toInt64 p2) (Int32.toInt64 (m_book (cx_ix (40 + (2 * p1))))) (Int32.toInt64 (m_book (cx_ix ((40 + (2 * p1)) + 1))))) (fun u8 => if u8 = 0 then (f_X9_when_J42 m_limbs m_wide m_refused m_quiet m_is m_likes m_without m_onePicture m_oneYear m_first m_second) else (cx_gd (cx_ib (40 + (2 * p1)) 140) (Option.bind (f_X9_years2 m_limbs m_wide m_book m_is m_likes m_oneYear m_second p1 (p2 - (m_book (cx_ix (40 + (2 * p1))))) ((-1)) ((-1))) (fun u12 => if u12.1 = 0 then (Option.bind (f_X9_no m_refused m_quiet) (fun u15 => some ((u15.1, u12.2.1, u12.2.2.1, u12.2.2.2.1, u12.2.2.2.2.1, u12.2.2.2.2.2.1, u12.2.2.2.2.2.2.1, u12.2.2.2.2.2.2.2.1, u15.2, u12.2.2.2.2.2.2.2.2.1, u12.2.2.2.2.2.2.2.2.2)))) else (Option.bind (f_X9_tellsHit u12.2.2.2.2.2.2.1 u12.2.2.2.2.2.2.2.1) (fun u17 => some ((u17.1, u12.2.1, u12.2.2.1, u12.2.2.2.1, u12.2.2.2.2.1, u12.2.2.2.2.2.1, u17.2.1, u17.2.2, m_refused, u12.2.2.2.2.2.2.2.2.1, u12.2.2.2.2.2.2.2.2.2))))))))))))
set_option maxHeartbeats 4000000 in
set_option maxRecDepth 100000 in
theorem c_X9_when (l : Launch) (D : va_G) (k : Nat → ClassId) (m_a : Nat → Nat) (m_limbs : Nat → Int32) (m_wide : Nat → Int32) (m_book : Nat → Int32) (m_images : Nat → Int32) (m_kept : Nat → Int32) (m_before : Nat → Int32) (m_refused : Nat → Int32) (m_quiet : Int32) (m_text : Nat → Int32) (m_typed : Int32) (m_at : Int32) (m_start : Int32) (m_token : Int32) (m_value : Int32) (m_items : Nat → Int32) (m_many : Int32) (m_is : Nat → Int32) (m_likes : Nat → Int32) (m_without : Int32) (m_onePicture : Int32) (m_oneYear : Int32) (m_first : Int32) (m_second : Int32) (m_names : Nat → Int32) (p1 : Int32) (p2 : Int32) (y : Int32 × Int32 × Int32 × Int32 × Int32 × Int32 × (Nat → Int32) × (Nat → Int32) × (Nat → Int32) × (Nat → Int32) × (Nat → Int32)) (hf : f_X9_when m_limbs m_wide m_book m_refused m_quiet m_is m_likes m_without m_onePicture m_oneYear m_first m_second p1 p2 = some y) : cx_M l yX9_when cX9_when 3 (some .int) 8 D k [.ref (m_a 0), .int p1, .int p2] (wd_Model k m_a m_limbs m_wide m_book m_images m_kept m_before m_refused m_quiet m_text m_typed m_at m_start m_token m_value m_items m_many m_is m_likes m_without m_onePicture m_oneYear m_first m_second m_names) (fun sz => cx_Qi D y.1 (wd_Model k m_a m_limbs m_wide m_book m_images m_kept m_before m_refused m_quiet m_text m_typed m_at m_start m_token m_value m_items m_many m_is m_likes m_without m_onePicture m_oneYear m_first m_second m_names) (wd_Model k m_a y.2.2.2.2.2.2.1 y.2.2.2.2.2.2.2.1 m_book m_images m_kept m_before y.2.2.2.2.2.2.2.2.1 m_quiet m_text m_typed m_at m_start m_token m_value m_items m_many y.2.2.2.2.2.2.2.2.2.1 y.2.2.2.2.2.2.2.2.2.2 y.2.1 y.2.2.1 y.2.2.2.1 y.2.2.2.2.1 y.2.2.2.2.2.1 m_names) sz) := by
  refine cx_met (own := "NamelessBoxModel") (by decide) rfl (Nat.le_of_ble_eq_true rfl) ?_
  intro p e s m args below meth c A Q C hA hQ hr hlk
  refine cx_lv (lv' := [(0, .ref (m_a 0)), (1, .int p1), (2, .int p2)]) [0, 1, 2] rfl ?_
  have J42 : f_X9_when_J42 m_limbs m_wide m_refused m_quiet m_is m_likes m_without m_onePicture m_oneYear m_first m_second = some y → cx_S p l e (cx_rm 8) s m args below meth c A D 3 0 0 Q 42 [(0, .ref (m_a 0))] [] (wd_Model k m_a m_limbs m_wide m_book m_images m_kept m_before m_refused m_quiet m_text m_typed m_at m_start m_token m_value m_items m_many m_is m_likes m_without m_onePicture m_oneYear m_first m_second m_names) := by
    intro  hf
    unfold f_X9_when_J42 at hf
    refine cx_aload_n C dX9_when_42 0 rfl ?_
    obtain ⟨u4, e5, hf⟩ := cx_bd_at hf
    refine cx_Fvi (q := (RX9, TX9, 24)) (As := []) (rest := []) (w1 := (wd_Model k m_a m_limbs m_wide m_book m_images m_kept m_before u4.2 m_quiet m_text m_typed m_at m_start m_token m_value m_items m_many m_is m_likes m_without m_onePicture m_oneYear m_first m_second m_names)) hA C me_X9_bad hw_1137 (c_X9_bad l D k m_a m_limbs m_wide m_book m_images m_kept m_before m_refused m_quiet m_text m_typed m_at m_start m_token m_value m_items m_many m_is m_likes m_without m_onePicture m_oneYear m_first m_second m_names u4 e5) dX9_when_43 ⟨Nat.le_of_ble_eq_true rfl, Nat.le_of_ble_eq_true rfl⟩ ⟨Nat.zero_le _, Nat.zero_le _⟩ rfl rfl (Nat.le_of_ble_eq_true rfl) rfl rfl rfl ?_
    clear e5
    obtain rfl := Option.some.inj hf
    exact cx_iret C hA hQ hr hlk dX9_when_46 rfl rfl
  unfold f_X9_when at hf
  refine cx_aload_n C dX9_when_0 0 rfl ?_
  refine cx_iload_n C dX9_when_1 1 rfl ?_
  obtain ⟨u1, e2, hf⟩ := cx_bd_at hf
  refine cx_Fvi (q := (RX9, TX9, 24)) (As := [.int p1]) (rest := []) (w1 := (wd_Model k m_a m_limbs m_wide m_book m_images m_kept m_before m_refused m_quiet m_text m_typed m_at m_start m_token m_value m_items m_many m_is m_likes m_without m_onePicture m_oneYear m_first m_second m_names)) hA C me_X9_isPicture hw_1174 (c_X9_isPicture l D k m_a m_limbs m_wide m_book m_images m_kept m_before m_refused m_quiet m_text m_typed m_at m_start m_token m_value m_items m_many m_is m_likes m_without m_onePicture m_oneYear m_first m_second m_names p1 u1 e2) dX9_when_2 ⟨Nat.le_of_ble_eq_true rfl, Nat.le_of_ble_eq_true rfl⟩ ⟨Nat.zero_le _, Nat.zero_le _⟩ rfl rfl (Nat.le_of_ble_eq_true rfl) rfl rfl rfl ?_
  clear e2
  refine cx_if_eq (tgt := 42) C dX9_when_5 (by decide) (fun c3 => ?_) (fun c3 => ?_)
  · have hf := cx_if_t hf c3
    clear c3
    refine cx_lv [0] rfl ?_
    exact J42 hf
  · have hf := cx_if_f hf c3
    clear c3
    refine cx_iload_n C dX9_when_8 2 rfl ?_
    refine cx_i2l C dX9_when_9 ?_
    refine cx_aload_n C dX9_when_10 0 rfl ?_
    refine cx_get (v := .ref (m_a 3)) (ci := 8) C iX9 dX9_when_11 0 rfl rfl 2 (by decide) hw_1056 rfl ?_
    refine cx_bipush (v := 40) C dX9_when_14 (by decide) ?_
    refine cx_iconst (v := 2) C dX9_when_16 (by decide) ?_
    refine cx_iload_n C dX9_when_17 1 rfl ?_
    refine cx_imul C dX9_when_18 ?_
    refine cx_iadd C dX9_when_19 ?_
    obtain ⟨g6, hf⟩ := cx_gd_at hf
    refine cx_iald C dX9_when_20 3 rfl (cx_ib_in g6) ?_
    clear g6
    refine cx_i2l C dX9_when_21 ?_
    refine cx_aload_n C dX9_when_22 0 rfl ?_
    refine cx_get (v := .ref (m_a 3)) (ci := 8) C iX9 dX9_when_23 0 rfl rfl 2 (by decide) hw_1056 rfl ?_
    refine cx_bipush (v := 40) C dX9_when_26 (by decide) ?_
    refine cx_iconst (v := 2) C dX9_when_28 (by decide) ?_
    refine cx_iload_n C dX9_when_29 1 rfl ?_
    refine cx_imul C dX9_when_30 ?_
    refine cx_iadd C dX9_when_31 ?_
    refine cx_iconst (v := 1) C dX9_when_32 (by decide) ?_
    refine cx_iadd C dX9_when_33 ?_
    obtain ⟨g7, hf⟩ := cx_gd_at hf
    refine cx_iald C dX9_when_34 3 rfl (cx_ib_in g7) ?_
    clear g7
    refine cx_i2l C dX9_when_35 ?_
    obtain ⟨u8, e9, hf⟩ := cx_bd_at hf
    refine cx_Ksi (As := [.long (Int32.toInt64 p2), .long (Int32.toInt64 (m_book (cx_ix (40 + (2 * p1))))), .long (Int32.toInt64 (m_book (cx_ix ((40 + (2 * p1)) + 1))))]) (rest := []) hA C me_X9_in hw_1132 (c_X9_in l D k (Int32.toInt64 p2) (Int32.toInt64 (m_book (cx_ix (40 + (2 * p1))))) (Int32.toInt64 (m_book (cx_ix ((40 + (2 * p1)) + 1)))) u8 e9) dX9_when_36 ⟨Nat.le_of_ble_eq_true rfl, Nat.le_of_ble_eq_true rfl⟩ ⟨Nat.zero_le _, Nat.zero_le _⟩ rfl rfl (Nat.le_of_ble_eq_true rfl) [] rfl (by decide) ?_
    clear e9
    refine cx_if_ne (tgt := 47) C dX9_when_39 (by decide) (fun c10 => ?_) (fun c10 => ?_)
    · have hf := cx_if_f hf c10
      clear c10
      refine cx_aload_n C dX9_when_47 0 rfl ?_
      refine cx_iload_n C dX9_when_48 1 rfl ?_
      refine cx_iload_n C dX9_when_49 2 rfl ?_
      refine cx_aload_n C dX9_when_50 0 rfl ?_
      refine cx_get (v := .ref (m_a 3)) (ci := 8) C iX9 dX9_when_51 0 rfl rfl 2 (by decide) hw_1056 rfl ?_
      refine cx_bipush (v := 40) C dX9_when_54 (by decide) ?_
      refine cx_iconst (v := 2) C dX9_when_56 (by decide) ?_
      refine cx_iload_n C dX9_when_57 1 rfl ?_
      refine cx_imul C dX9_when_58 ?_
      refine cx_iadd C dX9_when_59 ?_
      obtain ⟨g11, hf⟩ := cx_gd_at hf
      refine cx_iald C dX9_when_60 3 rfl (cx_ib_in g11) ?_
      clear g11
      refine cx_isub C dX9_when_61 ?_
      refine cx_iconst (v := (-1)) C dX9_when_62 (by decide) ?_
      refine cx_iconst (v := (-1)) C dX9_when_63 (by decide) ?_
      obtain ⟨u12, e13, hf⟩ := cx_bd_at hf
      refine cx_Fvi (q := (RX9, TX9, 24)) (As := [.int p1, .int (p2 - (m_book (cx_ix (40 + (2 * p1))))), .int ((-1)), .int ((-1))]) (rest := []) (w1 := (wd_Model k m_a u12.2.2.2.2.2.2.1 u12.2.2.2.2.2.2.2.1 m_book m_images m_kept m_before m_refused m_quiet m_text m_typed m_at m_start m_token m_value m_items m_many u12.2.2.2.2.2.2.2.2.1 u12.2.2.2.2.2.2.2.2.2 u12.2.1 u12.2.2.1 u12.2.2.2.1 u12.2.2.2.2.1 u12.2.2.2.2.2.1 m_names)) hA C me_X9_years2 hw_1433 (c_X9_years2 l D k m_a m_limbs m_wide m_book m_images m_kept m_before m_refused m_quiet m_text m_typed m_at m_start m_token m_value m_items m_many m_is m_likes m_without m_onePicture m_oneYear m_first m_second m_names p1 (p2 - (m_book (cx_ix (40 + (2 * p1))))) ((-1)) ((-1)) u12 e13) dX9_when_64 ⟨Nat.le_of_ble_eq_true rfl, Nat.le_of_ble_eq_true rfl⟩ ⟨Nat.zero_le _, Nat.zero_le _⟩ rfl rfl (Nat.le_of_ble_eq_true rfl) rfl rfl rfl ?_
      clear e13
      refine cx_if_eq (tgt := 77) C dX9_when_67 (by decide) (fun c14 => ?_) (fun c14 => ?_)
      · have hf := cx_if_t hf c14
        clear c14
        refine cx_aload_n C dX9_when_77 0 rfl ?_
        obtain ⟨u15, e16, hf⟩ := cx_bd_at hf
        refine cx_Fvi (q := (RX9, TX9, 24)) (As := []) (rest := []) (w1 := (wd_Model k m_a u12.2.2.2.2.2.2.1 u12.2.2.2.2.2.2.2.1 m_book m_images m_kept m_before u15.2 m_quiet m_text m_typed m_at m_start m_token m_value m_items m_many u12.2.2.2.2.2.2.2.2.1 u12.2.2.2.2.2.2.2.2.2 u12.2.1 u12.2.2.1 u12.2.2.2.1 u12.2.2.2.2.1 u12.2.2.2.2.2.1 m_names)) hA C me_X9_no hw_1337 (c_X9_no l D k m_a u12.2.2.2.2.2.2.1 u12.2.2.2.2.2.2.2.1 m_book m_images m_kept m_before m_refused m_quiet m_text m_typed m_at m_start m_token m_value m_items m_many u12.2.2.2.2.2.2.2.2.1 u12.2.2.2.2.2.2.2.2.2 u12.2.1 u12.2.2.1 u12.2.2.2.1 u12.2.2.2.2.1 u12.2.2.2.2.2.1 m_names u15 e16) dX9_when_78 ⟨Nat.le_of_ble_eq_true rfl, Nat.le_of_ble_eq_true rfl⟩ ⟨Nat.zero_le _, Nat.zero_le _⟩ rfl rfl (Nat.le_of_ble_eq_true rfl) rfl rfl rfl ?_
        clear e16
        obtain rfl := Option.some.inj hf
        exact cx_iret C hA hQ hr hlk dX9_when_81 rfl rfl
      · have hf := cx_if_f hf c14
        clear c14
        refine cx_aload_n C dX9_when_70 0 rfl ?_
        obtain ⟨u17, e18, hf⟩ := cx_bd_at hf
        refine cx_Fvi (q := (RX9, TX9, 24)) (As := []) (rest := []) (w1 := (wd_Model k m_a u17.2.1 u17.2.2 m_book m_images m_kept m_before m_refused m_quiet m_text m_typed m_at m_start m_token m_value m_items m_many u12.2.2.2.2.2.2.2.2.1 u12.2.2.2.2.2.2.2.2.2 u12.2.1 u12.2.2.1 u12.2.2.2.1 u12.2.2.2.2.1 u12.2.2.2.2.2.1 m_names)) hA C me_X9_tellsHit hw_1341 (c_X9_tellsHit l D k m_a u12.2.2.2.2.2.2.1 u12.2.2.2.2.2.2.2.1 m_book m_images m_kept m_before m_refused m_quiet m_text m_typed m_at m_start m_token m_value m_items m_many u12.2.2.2.2.2.2.2.2.1 u12.2.2.2.2.2.2.2.2.2 u12.2.1 u12.2.2.1 u12.2.2.2.1 u12.2.2.2.2.1 u12.2.2.2.2.2.1 m_names u17 e18) dX9_when_71 ⟨Nat.le_of_ble_eq_true rfl, Nat.le_of_ble_eq_true rfl⟩ ⟨Nat.zero_le _, Nat.zero_le _⟩ rfl rfl (Nat.le_of_ble_eq_true rfl) rfl rfl rfl ?_
        clear e18
        refine cx_goto (tgt := 81) C dX9_when_74 (by decide) ?_
        obtain rfl := Option.some.inj hf
        exact cx_iret C hA hQ hr hlk dX9_when_81 rfl rfl
    · have hf := cx_if_t hf c10
      clear c10
      refine cx_lv [0] rfl ?_
      exact J42 hf
theorem dX9_span_0 : decode cX9_span 0 = .ok (.aload_n 0, 1) := by decide +kernel
theorem dX9_span_1 : decode cX9_span 1 = .ok (.iload_n 1, 1) := by decide +kernel
theorem dX9_span_2 : decode cX9_span 2 = .ok (.invokevirtual 114, 3) := by decide +kernel
theorem dX9_span_5 : decode cX9_span 5 = .ok (.ifCond .eq 13, 3) := by decide +kernel
theorem dX9_span_8 : decode cX9_span 8 = .ok (.iload_n 2, 1) := by decide +kernel
theorem dX9_span_9 : decode cX9_span 9 = .ok (.i2l, 1) := by decide +kernel
theorem dX9_span_10 : decode cX9_span 10 = .ok (.lconst 0, 1) := by decide +kernel
theorem dX9_span_11 : decode cX9_span 11 = .ok (.lconst 1, 1) := by decide +kernel
theorem dX9_span_12 : decode cX9_span 12 = .ok (.invokestatic 89, 3) := by decide +kernel
theorem dX9_span_15 : decode cX9_span 15 = .ok (.ifCond .ne 8, 3) := by decide +kernel
theorem dX9_span_18 : decode cX9_span 18 = .ok (.aload_n 0, 1) := by decide +kernel
theorem dX9_span_19 : decode cX9_span 19 = .ok (.invokevirtual 99, 3) := by decide +kernel
theorem dX9_span_22 : decode cX9_span 22 = .ok (.ireturn, 1) := by decide +kernel
theorem dX9_span_23 : decode cX9_span 23 = .ok (.aload_n 0, 1) := by decide +kernel
theorem dX9_span_24 : decode cX9_span 24 = .ok (.iload_n 1, 1) := by decide +kernel
theorem dX9_span_25 : decode cX9_span 25 = .ok (.invokevirtual 253, 3) := by decide +kernel
theorem dX9_span_28 : decode cX9_span 28 = .ok (.istore_n 3, 1) := by decide +kernel
theorem dX9_span_29 : decode cX9_span 29 = .ok (.iconst 0, 1) := by decide +kernel
theorem dX9_span_30 : decode cX9_span 30 = .ok (.istore 4, 2) := by decide +kernel
theorem dX9_span_32 : decode cX9_span 32 = .ok (.iload 4, 2) := by decide +kernel
theorem dX9_span_34 : decode cX9_span 34 = .ok (.iload_n 3, 1) := by decide +kernel
theorem dX9_span_35 : decode cX9_span 35 = .ok (.if_icmp .ge 68, 3) := by decide +kernel
theorem dX9_span_38 : decode cX9_span 38 = .ok (.iload_n 2, 1) := by decide +kernel
theorem dX9_span_39 : decode cX9_span 39 = .ok (.ifCond .ne 8, 3) := by decide +kernel
theorem dX9_span_42 : decode cX9_span 42 = .ok (.iload 4, 2) := by decide +kernel
theorem dX9_span_44 : decode cX9_span 44 = .ok (.goto 9, 3) := by decide +kernel
theorem dX9_span_47 : decode cX9_span 47 = .ok (.iload_n 3, 1) := by decide +kernel
theorem dX9_span_48 : decode cX9_span 48 = .ok (.iconst 1, 1) := by decide +kernel
theorem dX9_span_49 : decode cX9_span 49 = .ok (.isub, 1) := by decide +kernel
theorem dX9_span_50 : decode cX9_span 50 = .ok (.iload 4, 2) := by decide +kernel
theorem dX9_span_52 : decode cX9_span 52 = .ok (.isub, 1) := by decide +kernel
theorem dX9_span_53 : decode cX9_span 53 = .ok (.istore 5, 2) := by decide +kernel
theorem dX9_span_55 : decode cX9_span 55 = .ok (.aload_n 0, 1) := by decide +kernel
theorem dX9_span_56 : decode cX9_span 56 = .ok (.iload_n 1, 1) := by decide +kernel
theorem dX9_span_57 : decode cX9_span 57 = .ok (.iload 5, 2) := by decide +kernel
theorem dX9_span_59 : decode cX9_span 59 = .ok (.iconst (-1), 1) := by decide +kernel
theorem dX9_span_60 : decode cX9_span 60 = .ok (.iconst (-1), 1) := by decide +kernel
theorem dX9_span_61 : decode cX9_span 61 = .ok (.invokevirtual 309, 3) := by decide +kernel
theorem dX9_span_64 : decode cX9_span 64 = .ok (.ifCond .ne 8, 3) := by decide +kernel
theorem dX9_span_67 : decode cX9_span 67 = .ok (.aload_n 0, 1) := by decide +kernel
theorem dX9_span_68 : decode cX9_span 68 = .ok (.invokevirtual 290, 3) := by decide +kernel
theorem dX9_span_71 : decode cX9_span 71 = .ok (.ireturn, 1) := by decide +kernel
theorem dX9_span_72 : decode cX9_span 72 = .ok (.aload_n 0, 1) := by decide +kernel
theorem dX9_span_73 : decode cX9_span 73 = .ok (.getfield 3, 3) := by decide +kernel
theorem dX9_span_76 : decode cX9_span 76 = .ok (.bipush 7, 2) := by decide +kernel
theorem dX9_span_78 : decode cX9_span 78 = .ok (.iaload, 1) := by decide +kernel
theorem dX9_span_79 : decode cX9_span 79 = .ok (.ifCond .le 18, 3) := by decide +kernel
theorem dX9_span_82 : decode cX9_span 82 = .ok (.aload_n 0, 1) := by decide +kernel
theorem dX9_span_83 : decode cX9_span 83 = .ok (.getfield 51, 3) := by decide +kernel
theorem dX9_span_86 : decode cX9_span 86 = .ok (.bipush 40, 2) := by decide +kernel
theorem dX9_span_88 : decode cX9_span 88 = .ok (.iconst 2, 1) := by decide +kernel
theorem dX9_span_89 : decode cX9_span 89 = .ok (.iload_n 1, 1) := by decide +kernel
theorem dX9_span_90 : decode cX9_span 90 = .ok (.imul, 1) := by decide +kernel
theorem dX9_span_91 : decode cX9_span 91 = .ok (.iadd, 1) := by decide +kernel
theorem dX9_span_92 : decode cX9_span 92 = .ok (.iaload, 1) := by decide +kernel
theorem dX9_span_93 : decode cX9_span 93 = .ok (.iload 5, 2) := by decide +kernel
theorem dX9_span_95 : decode cX9_span 95 = .ok (.iadd, 1) := by decide +kernel
theorem dX9_span_96 : decode cX9_span 96 = .ok (.ireturn, 1) := by decide +kernel
theorem dX9_span_97 : decode cX9_span 97 = .ok (.iinc 4 1, 3) := by decide +kernel
theorem dX9_span_100 : decode cX9_span 100 = .ok (.goto (-68), 3) := by decide +kernel
theorem dX9_span_103 : decode cX9_span 103 = .ok (.iconst (-1), 1) := by decide +kernel
theorem dX9_span_104 : decode cX9_span 104 = .ok (.ireturn, 1) := by decide +kernel
theorem me_X9_span : cx_Mv yX9_span cX9_span 6 (some .int) 2 := ⟨⟨⟨by decide +kernel, by decide +kernel, by decide +kernel⟩, hw_11, hw_1440⟩, hw_1438, hw_1439⟩
noncomputable def f_X9_span_J18 (m_limbs : Nat → Int32) (m_wide : Nat → Int32) (m_refused : Nat → Int32) (m_quiet : Int32) (m_is : Nat → Int32) (m_likes : Nat → Int32) (m_without : Int32) (m_onePicture : Int32) (m_oneYear : Int32) (m_first : Int32) (m_second : Int32) : Option (Int32 × Int32 × Int32 × Int32 × Int32 × Int32 × (Nat → Int32) × (Nat → Int32) × (Nat → Int32) × (Nat → Int32) × (Nat → Int32)) := Option.bind (f_X9_bad m_refused m_quiet) (fun u4 => some ((u4.1, m_without, m_onePicture, m_oneYear, m_first, m_second, m_limbs, m_wide, u4.2, m_is, m_likes)))
noncomputable def f_X9_span_J53 (m_book : Nat → Int32) (m_refused : Nat → Int32) (m_quiet : Int32) (p1 : Int32) (h_13 : Int32) (h_15 : Int32) (a_16 : Nat → Int32) (a_17 : Nat → Int32) (a_18 : Nat → Int32) (a_19 : Nat → Int32) (x4_21 : Int32) (rc32 : Int32 → Int32 → Int32 → Int32 → Int32 → (Nat → Int32) → (Nat → Int32) → (Nat → Int32) → (Nat → Int32) → Int32 → Option (Int32 × Int32 × Int32 × Int32 × Int32 × Int32 × (Nat → Int32) × (Nat → Int32) × (Nat → Int32) × (Nat → Int32) × (Nat → Int32))) (s0_24 : Int32) : Option (Int32 × Int32 × Int32 × Int32 × Int32 × Int32 × (Nat → Int32) × (Nat → Int32) × (Nat → Int32) × (Nat → Int32) × (Nat → Int32)) := Option.bind (f_X9_years2 a_16 a_17 m_book a_18 a_19 h_13 h_15 p1 s0_24 ((-1)) ((-1))) (fun u25 => if u25.1 = 0 then (Option.bind (f_X9_no m_refused m_quiet) (fun u31 => some ((u31.1, u25.2.1, u25.2.2.1, u25.2.2.2.1, u25.2.2.2.2.1, u25.2.2.2.2.2.1, u25.2.2.2.2.2.2.1, u25.2.2.2.2.2.2.2.1, u31.2, u25.2.2.2.2.2.2.2.2.1, u25.2.2.2.2.2.2.2.2.2)))) else (cx_gd (cx_ib 7 270) (if (u25.2.2.2.2.2.2.2.1 (cx_ix 7)) ≤ 0 then (rc32 u25.2.1 u25.2.2.1 u25.2.2.2.1 u25.2.2.2.2.1 u25.2.2.2.2.2.1 u25.2.2.2.2.2.2.1 u25.2.2.2.2.2.2.2.1 u25.2.2.2.2.2.2.2.2.1 u25.2.2.2.2.2.2.2.2.2 (x4_21 + 1)) else (cx_gd (cx_ib (40 + (2 * p1)) 140) (some (((m_book (cx_ix (40 + (2 * p1)))) + s0_24, u25.2.1, u25.2.2.1, u25.2.2.2.1, u25.2.2.2.2.1, u25.2.2.2.2.2.1, u25.2.2.2.2.2.2.1, u25.2.2.2.2.2.2.2.1, m_refused, u25.2.2.2.2.2.2.2.2.1, u25.2.2.2.2.2.2.2.2.2)))))))
noncomputable def f_X9_span_L32 (m_book : Nat → Int32) (m_refused : Nat → Int32) (m_quiet : Int32) (p1 : Int32) (p2 : Int32) (x3_20 : Int32) (rc32 : Int32 → Int32 → Int32 → Int32 → Int32 → (Nat → Int32) → (Nat → Int32) → (Nat → Int32) → (Nat → Int32) → Int32 → Option (Int32 × Int32 × Int32 × Int32 × Int32 × Int32 × (Nat → Int32) × (Nat → Int32) × (Nat → Int32) × (Nat → Int32) × (Nat → Int32))) (h_11 : Int32) (h_12 : Int32) (h_13 : Int32) (h_14 : Int32) (h_15 : Int32) (a_16 : Nat → Int32) (a_17 : Nat → Int32) (a_18 : Nat → Int32) (a_19 : Nat → Int32) (x4_21 : Int32) : Option (Int32 × Int32 × Int32 × Int32 × Int32 × Int32 × (Nat → Int32) × (Nat → Int32) × (Nat → Int32) × (Nat → Int32) × (Nat → Int32)) := if x3_20 ≤ x4_21 then (some (((-1), h_11, h_12, h_13, h_14, h_15, a_16, a_17, m_refused, a_18, a_19))) else (if p2 = 0 then (f_X9_span_J53 m_book m_refused m_quiet p1 h_13 h_15 a_16 a_17 a_18 a_19 x4_21 rc32 x4_21) else (f_X9_span_J53 m_book m_refused m_quiet p1 h_13 h_15 a_16 a_17 a_18 a_19 x4_21 rc32 ((x3_20 - 1) - x4_21)))
noncomputable def f_X9_span_L32w (m_book : Nat → Int32) (m_refused : Nat → Int32) (m_quiet : Int32) (p1 : Int32) (p2 : Int32) (x3_20 : Int32) (n : Nat) : Int32 → Int32 → Int32 → Int32 → Int32 → (Nat → Int32) → (Nat → Int32) → (Nat → Int32) → (Nat → Int32) → Int32 → Option (Int32 × Int32 × Int32 × Int32 × Int32 × Int32 × (Nat → Int32) × (Nat → Int32) × (Nat → Int32) × (Nat → Int32) × (Nat → Int32)) := Nat.rec (fun _ _ _ _ _ _ _ _ _ _ => none) (fun _ r => f_X9_span_L32 m_book m_refused m_quiet p1 p2 x3_20 r) n
noncomputable def f_X9_span (m_limbs : Nat → Int32) (m_wide : Nat → Int32) (m_book : Nat → Int32) (m_refused : Nat → Int32) (m_quiet : Int32) (m_is : Nat → Int32) (m_likes : Nat → Int32) (m_without : Int32) (m_onePicture : Int32) (m_oneYear : Int32) (m_first : Int32) (m_second : Int32) (p1 : Int32) (p2 : Int32) : Option (Int32 × Int32 × Int32 × Int32 × Int32 × Int32 × (Nat → Int32) × (Nat → Int32) × (Nat → Int32) × (Nat → Int32) × (Nat → Int32)) := Option.bind (f_X9_isPicture m_book p1) (fun u1 => if u1 = 0 then (f_X9_span_J18 m_limbs m_wide m_refused m_quiet m_is m_likes m_without m_onePicture m_oneYear m_first m_second) else (Option.bind (f_X9_in (Int32.toInt64 p2) 0 1) (fun u6 => if u6 = 0 then (f_X9_span_J18 m_limbs m_wide m_refused m_quiet m_is m_likes m_without m_onePicture m_oneYear m_first m_second) else (Option.bind (f_X9_years m_book p1) (fun u9 => f_X9_span_L32w m_book m_refused m_quiet p1 p2 u9 cx_N0 m_without m_onePicture m_oneYear m_first m_second m_limbs m_wide m_is m_likes 0)))))
set_option maxHeartbeats 4000000 in
set_option maxRecDepth 100000 in
theorem c_X9_span (l : Launch) (D : va_G) (k : Nat → ClassId) (m_a : Nat → Nat) (m_limbs : Nat → Int32) (m_wide : Nat → Int32) (m_book : Nat → Int32) (m_images : Nat → Int32) (m_kept : Nat → Int32) (m_before : Nat → Int32) (m_refused : Nat → Int32) (m_quiet : Int32) (m_text : Nat → Int32) (m_typed : Int32) (m_at : Int32) (m_start : Int32) (m_token : Int32) (m_value : Int32) (m_items : Nat → Int32) (m_many : Int32) (m_is : Nat → Int32) (m_likes : Nat → Int32) (m_without : Int32) (m_onePicture : Int32) (m_oneYear : Int32) (m_first : Int32) (m_second : Int32) (m_names : Nat → Int32) (p1 : Int32) (p2 : Int32) (y : Int32 × Int32 × Int32 × Int32 × Int32 × Int32 × (Nat → Int32) × (Nat → Int32) × (Nat → Int32) × (Nat → Int32) × (Nat → Int32)) (hf : f_X9_span m_limbs m_wide m_book m_refused m_quiet m_is m_likes m_without m_onePicture m_oneYear m_first m_second p1 p2 = some y) : cx_M l yX9_span cX9_span 6 (some .int) 8 D k [.ref (m_a 0), .int p1, .int p2] (wd_Model k m_a m_limbs m_wide m_book m_images m_kept m_before m_refused m_quiet m_text m_typed m_at m_start m_token m_value m_items m_many m_is m_likes m_without m_onePicture m_oneYear m_first m_second m_names) (fun sz => cx_Qi D y.1 (wd_Model k m_a m_limbs m_wide m_book m_images m_kept m_before m_refused m_quiet m_text m_typed m_at m_start m_token m_value m_items m_many m_is m_likes m_without m_onePicture m_oneYear m_first m_second m_names) (wd_Model k m_a y.2.2.2.2.2.2.1 y.2.2.2.2.2.2.2.1 m_book m_images m_kept m_before y.2.2.2.2.2.2.2.2.1 m_quiet m_text m_typed m_at m_start m_token m_value m_items m_many y.2.2.2.2.2.2.2.2.2.1 y.2.2.2.2.2.2.2.2.2.2 y.2.1 y.2.2.1 y.2.2.2.1 y.2.2.2.2.1 y.2.2.2.2.2.1 m_names) sz) := by
  refine cx_met (own := "NamelessBoxModel") (by decide) rfl (Nat.le_of_ble_eq_true rfl) ?_
  intro p e s m args below meth c A Q C hA hQ hr hlk
  refine cx_lv (lv' := [(0, .ref (m_a 0)), (1, .int p1), (2, .int p2)]) [0, 1, 2] rfl ?_
  have J18 : f_X9_span_J18 m_limbs m_wide m_refused m_quiet m_is m_likes m_without m_onePicture m_oneYear m_first m_second = some y → cx_S p l e (cx_rm 8) s m args below meth c A D 6 0 0 Q 18 [(0, .ref (m_a 0))] [] (wd_Model k m_a m_limbs m_wide m_book m_images m_kept m_before m_refused m_quiet m_text m_typed m_at m_start m_token m_value m_items m_many m_is m_likes m_without m_onePicture m_oneYear m_first m_second m_names) := by
    intro  hf
    unfold f_X9_span_J18 at hf
    refine cx_aload_n C dX9_span_18 0 rfl ?_
    obtain ⟨u4, e5, hf⟩ := cx_bd_at hf
    refine cx_Fvi (q := (RX9, TX9, 24)) (As := []) (rest := []) (w1 := (wd_Model k m_a m_limbs m_wide m_book m_images m_kept m_before u4.2 m_quiet m_text m_typed m_at m_start m_token m_value m_items m_many m_is m_likes m_without m_onePicture m_oneYear m_first m_second m_names)) hA C me_X9_bad hw_1137 (c_X9_bad l D k m_a m_limbs m_wide m_book m_images m_kept m_before m_refused m_quiet m_text m_typed m_at m_start m_token m_value m_items m_many m_is m_likes m_without m_onePicture m_oneYear m_first m_second m_names u4 e5) dX9_span_19 ⟨Nat.le_of_ble_eq_true rfl, Nat.le_of_ble_eq_true rfl⟩ ⟨Nat.zero_le _, Nat.zero_le _⟩ rfl rfl (Nat.le_of_ble_eq_true rfl) rfl rfl rfl ?_
    clear e5
    obtain rfl := Option.some.inj hf
    exact cx_iret C hA hQ hr hlk dX9_span_22 rfl rfl
  have L32 : ∀ (x3_20 : Int32) (n32 : Nat) (h_11 : Int32) (h_12 : Int32) (h_13 : Int32) (h_14 : Int32) (h_15 : Int32) (a_16 : Nat → Int32) (a_17 : Nat → Int32) (a_18 : Nat → Int32) (a_19 : Nat → Int32) (x4_21 : Int32), f_X9_span_L32w m_book m_refused m_quiet p1 p2 x3_20 n32 h_11 h_12 h_13 h_14 h_15 a_16 a_17 a_18 a_19 x4_21 = some y → cx_S p l e (cx_rm 8) s m args below meth c A D 6 0 0 Q 32 [(0, .ref (m_a 0)), (1, .int p1), (2, .int p2), (3, .int x3_20), (4, .int x4_21)] [] (wd_Model k m_a a_16 a_17 m_book m_images m_kept m_before m_refused m_quiet m_text m_typed m_at m_start m_token m_value m_items m_many a_18 a_19 h_11 h_12 h_13 h_14 h_15 m_names) := by
    intro x3_20 n32
    induction n32 with
    | zero =>
      intro h_11 h_12 h_13 h_14 h_15 a_16 a_17 a_18 a_19 x4_21 hf
      exact absurd (show (none : Option (Int32 × Int32 × Int32 × Int32 × Int32 × Int32 × (Nat → Int32) × (Nat → Int32) × (Nat → Int32) × (Nat → Int32) × (Nat → Int32))) = some y from hf) (fun h => by cases h)
    | succ n32 ih32 =>
      intro h_11 h_12 h_13 h_14 h_15 a_16 a_17 a_18 a_19 x4_21 hf
      have hf : f_X9_span_L32 m_book m_refused m_quiet p1 p2 x3_20 (f_X9_span_L32w m_book m_refused m_quiet p1 p2 x3_20 n32) h_11 h_12 h_13 h_14 h_15 a_16 a_17 a_18 a_19 x4_21 = some y := hf
      have J53 : ∀ (s0_24 : Int32), f_X9_span_J53 m_book m_refused m_quiet p1 h_13 h_15 a_16 a_17 a_18 a_19 x4_21 (f_X9_span_L32w m_book m_refused m_quiet p1 p2 x3_20 n32) s0_24 = some y → cx_S p l e (cx_rm 8) s m args below meth c A D 6 0 0 Q 53 [(0, .ref (m_a 0)), (1, .int p1), (2, .int p2), (3, .int x3_20), (4, .int x4_21)] [.int s0_24] (wd_Model k m_a a_16 a_17 m_book m_images m_kept m_before m_refused m_quiet m_text m_typed m_at m_start m_token m_value m_items m_many a_18 a_19 h_11 h_12 h_13 h_14 h_15 m_names) := by
        intro s0_24 hf
        unfold f_X9_span_J53 at hf
        refine cx_istore (lv' := [(5, .int s0_24), (0, .ref (m_a 0)), (1, .int p1), (2, .int p2), (3, .int x3_20), (4, .int x4_21)]) C dX9_span_53 (by decide) rfl ?_
        refine cx_aload_n C dX9_span_55 1 rfl ?_
        refine cx_iload_n C dX9_span_56 2 rfl ?_
        refine cx_iload C dX9_span_57 0 rfl ?_
        refine cx_iconst (v := (-1)) C dX9_span_59 (by decide) ?_
        refine cx_iconst (v := (-1)) C dX9_span_60 (by decide) ?_
        obtain ⟨u25, e26, hf⟩ := cx_bd_at hf
        refine cx_Fvi (q := (RX9, TX9, 24)) (As := [.int p1, .int s0_24, .int ((-1)), .int ((-1))]) (rest := []) (w1 := (wd_Model k m_a u25.2.2.2.2.2.2.1 u25.2.2.2.2.2.2.2.1 m_book m_images m_kept m_before m_refused m_quiet m_text m_typed m_at m_start m_token m_value m_items m_many u25.2.2.2.2.2.2.2.2.1 u25.2.2.2.2.2.2.2.2.2 u25.2.1 u25.2.2.1 u25.2.2.2.1 u25.2.2.2.2.1 u25.2.2.2.2.2.1 m_names)) hA C me_X9_years2 hw_1433 (c_X9_years2 l D k m_a a_16 a_17 m_book m_images m_kept m_before m_refused m_quiet m_text m_typed m_at m_start m_token m_value m_items m_many a_18 a_19 h_11 h_12 h_13 h_14 h_15 m_names p1 s0_24 ((-1)) ((-1)) u25 e26) dX9_span_61 ⟨Nat.le_of_ble_eq_true rfl, Nat.le_of_ble_eq_true rfl⟩ ⟨Nat.zero_le _, Nat.zero_le _⟩ rfl rfl (Nat.le_of_ble_eq_true rfl) rfl rfl rfl ?_
        clear e26
        refine cx_if_ne (tgt := 72) C dX9_span_64 (by decide) (fun c27 => ?_) (fun c27 => ?_)
        · have hf := cx_if_f hf c27
          clear c27
          refine cx_aload_n C dX9_span_72 1 rfl ?_
          refine cx_get (v := .ref (m_a 2)) (ci := 8) C iX9 dX9_span_73 0 rfl rfl 1 (by decide) hw_1055 rfl ?_
          refine cx_bipush (v := 7) C dX9_span_76 (by decide) ?_
          obtain ⟨g28, hf⟩ := cx_gd_at hf
          refine cx_iald C dX9_span_78 2 rfl (cx_ib_in g28) ?_
          clear g28
          refine cx_if_le (tgt := 97) C dX9_span_79 (by decide) (fun c29 => ?_) (fun c29 => ?_)
          · have hf := cx_if_t hf c29
            clear c29
            refine cx_iinc (v := x4_21 + 1) (lv' := [(4, .int (x4_21 + 1)), (5, .int s0_24), (0, .ref (m_a 0)), (1, .int p1), (2, .int p2), (3, .int x3_20)]) C dX9_span_97 5 rfl rfl (by decide) rfl ?_
            refine cx_goto (tgt := 32) C dX9_span_100 (by decide) ?_
            refine cx_lv [2, 3, 4, 5, 0] rfl ?_
            exact ih32 u25.2.1 u25.2.2.1 u25.2.2.2.1 u25.2.2.2.2.1 u25.2.2.2.2.2.1 u25.2.2.2.2.2.2.1 u25.2.2.2.2.2.2.2.1 u25.2.2.2.2.2.2.2.2.1 u25.2.2.2.2.2.2.2.2.2 (x4_21 + 1) hf
          · have hf := cx_if_f hf c29
            clear c29
            refine cx_aload_n C dX9_span_82 1 rfl ?_
            refine cx_get (v := .ref (m_a 3)) (ci := 8) C iX9 dX9_span_83 0 rfl rfl 2 (by decide) hw_1056 rfl ?_
            refine cx_bipush (v := 40) C dX9_span_86 (by decide) ?_
            refine cx_iconst (v := 2) C dX9_span_88 (by decide) ?_
            refine cx_iload_n C dX9_span_89 2 rfl ?_
            refine cx_imul C dX9_span_90 ?_
            refine cx_iadd C dX9_span_91 ?_
            obtain ⟨g30, hf⟩ := cx_gd_at hf
            refine cx_iald C dX9_span_92 3 rfl (cx_ib_in g30) ?_
            clear g30
            refine cx_iload C dX9_span_93 0 rfl ?_
            refine cx_iadd C dX9_span_95 ?_
            obtain rfl := Option.some.inj hf
            exact cx_iret C hA hQ hr hlk dX9_span_96 rfl rfl
        · have hf := cx_if_t hf c27
          clear c27
          refine cx_aload_n C dX9_span_67 1 rfl ?_
          obtain ⟨u31, e32, hf⟩ := cx_bd_at hf
          refine cx_Fvi (q := (RX9, TX9, 24)) (As := []) (rest := []) (w1 := (wd_Model k m_a u25.2.2.2.2.2.2.1 u25.2.2.2.2.2.2.2.1 m_book m_images m_kept m_before u31.2 m_quiet m_text m_typed m_at m_start m_token m_value m_items m_many u25.2.2.2.2.2.2.2.2.1 u25.2.2.2.2.2.2.2.2.2 u25.2.1 u25.2.2.1 u25.2.2.2.1 u25.2.2.2.2.1 u25.2.2.2.2.2.1 m_names)) hA C me_X9_no hw_1337 (c_X9_no l D k m_a u25.2.2.2.2.2.2.1 u25.2.2.2.2.2.2.2.1 m_book m_images m_kept m_before m_refused m_quiet m_text m_typed m_at m_start m_token m_value m_items m_many u25.2.2.2.2.2.2.2.2.1 u25.2.2.2.2.2.2.2.2.2 u25.2.1 u25.2.2.1 u25.2.2.2.1 u25.2.2.2.2.1 u25.2.2.2.2.2.1 m_names u31 e32) dX9_span_68 ⟨Nat.le_of_ble_eq_true rfl, Nat.le_of_ble_eq_true rfl⟩ ⟨Nat.zero_le _, Nat.zero_le _⟩ rfl rfl (Nat.le_of_ble_eq_true rfl) rfl rfl rfl ?_
          clear e32
          obtain rfl := Option.some.inj hf
          exact cx_iret C hA hQ hr hlk dX9_span_71 rfl rfl
      unfold f_X9_span_L32 at hf
      refine cx_iload C dX9_span_32 4 rfl ?_
      refine cx_iload_n C dX9_span_34 3 rfl ?_
      refine cx_icmp_ge (tgt := 103) C dX9_span_35 (by decide) (fun c22 => ?_) (fun c22 => ?_)
      · have hf := cx_if_t hf c22
        clear c22
        refine cx_iconst (v := (-1)) C dX9_span_103 (by decide) ?_
        obtain rfl := Option.some.inj hf
        exact cx_iret C hA hQ hr hlk dX9_span_104 rfl rfl
      · have hf := cx_if_f hf c22
        clear c22
        refine cx_iload_n C dX9_span_38 2 rfl ?_
        refine cx_if_ne (tgt := 47) C dX9_span_39 (by decide) (fun c23 => ?_) (fun c23 => ?_)
        · have hf := cx_if_f hf c23
          clear c23
          refine cx_iload_n C dX9_span_47 3 rfl ?_
          refine cx_iconst (v := 1) C dX9_span_48 (by decide) ?_
          refine cx_isub C dX9_span_49 ?_
          refine cx_iload C dX9_span_50 4 rfl ?_
          refine cx_isub C dX9_span_52 ?_
          exact J53 ((x3_20 - 1) - x4_21) hf
        · have hf := cx_if_t hf c23
          clear c23
          refine cx_iload C dX9_span_42 4 rfl ?_
          refine cx_goto (tgt := 53) C dX9_span_44 (by decide) ?_
          exact J53 x4_21 hf
  unfold f_X9_span at hf
  refine cx_aload_n C dX9_span_0 0 rfl ?_
  refine cx_iload_n C dX9_span_1 1 rfl ?_
  obtain ⟨u1, e2, hf⟩ := cx_bd_at hf
  refine cx_Fvi (q := (RX9, TX9, 24)) (As := [.int p1]) (rest := []) (w1 := (wd_Model k m_a m_limbs m_wide m_book m_images m_kept m_before m_refused m_quiet m_text m_typed m_at m_start m_token m_value m_items m_many m_is m_likes m_without m_onePicture m_oneYear m_first m_second m_names)) hA C me_X9_isPicture hw_1174 (c_X9_isPicture l D k m_a m_limbs m_wide m_book m_images m_kept m_before m_refused m_quiet m_text m_typed m_at m_start m_token m_value m_items m_many m_is m_likes m_without m_onePicture m_oneYear m_first m_second m_names p1 u1 e2) dX9_span_2 ⟨Nat.le_of_ble_eq_true rfl, Nat.le_of_ble_eq_true rfl⟩ ⟨Nat.zero_le _, Nat.zero_le _⟩ rfl rfl (Nat.le_of_ble_eq_true rfl) rfl rfl rfl ?_
  clear e2
  refine cx_if_eq (tgt := 18) C dX9_span_5 (by decide) (fun c3 => ?_) (fun c3 => ?_)
  · have hf := cx_if_t hf c3
    clear c3
    refine cx_lv [0] rfl ?_
    exact J18 hf
  · have hf := cx_if_f hf c3
    clear c3
    refine cx_iload_n C dX9_span_8 2 rfl ?_
    refine cx_i2l C dX9_span_9 ?_
    refine cx_lconst (v := 0) C dX9_span_10 (by decide) ?_
    refine cx_lconst (v := 1) C dX9_span_11 (by decide) ?_
    obtain ⟨u6, e7, hf⟩ := cx_bd_at hf
    refine cx_Ksi (As := [.long (Int32.toInt64 p2), .long 0, .long 1]) (rest := []) hA C me_X9_in hw_1132 (c_X9_in l D k (Int32.toInt64 p2) 0 1 u6 e7) dX9_span_12 ⟨Nat.le_of_ble_eq_true rfl, Nat.le_of_ble_eq_true rfl⟩ ⟨Nat.zero_le _, Nat.zero_le _⟩ rfl rfl (Nat.le_of_ble_eq_true rfl) [] rfl (by decide) ?_
    clear e7
    refine cx_if_ne (tgt := 23) C dX9_span_15 (by decide) (fun c8 => ?_) (fun c8 => ?_)
    · have hf := cx_if_f hf c8
      clear c8
      refine cx_aload_n C dX9_span_23 0 rfl ?_
      refine cx_iload_n C dX9_span_24 1 rfl ?_
      obtain ⟨u9, e10, hf⟩ := cx_bd_at hf
      refine cx_Fvi (q := (RX9, TX9, 24)) (As := [.int p1]) (rest := []) (w1 := (wd_Model k m_a m_limbs m_wide m_book m_images m_kept m_before m_refused m_quiet m_text m_typed m_at m_start m_token m_value m_items m_many m_is m_likes m_without m_onePicture m_oneYear m_first m_second m_names)) hA C me_X9_years hw_1308 (c_X9_years l D k m_a m_limbs m_wide m_book m_images m_kept m_before m_refused m_quiet m_text m_typed m_at m_start m_token m_value m_items m_many m_is m_likes m_without m_onePicture m_oneYear m_first m_second m_names p1 u9 e10) dX9_span_25 ⟨Nat.le_of_ble_eq_true rfl, Nat.le_of_ble_eq_true rfl⟩ ⟨Nat.zero_le _, Nat.zero_le _⟩ rfl rfl (Nat.le_of_ble_eq_true rfl) rfl rfl rfl ?_
      clear e10
      refine cx_istore_n (lv' := [(3, .int u9), (0, .ref (m_a 0)), (1, .int p1), (2, .int p2)]) C dX9_span_28 rfl (by decide) rfl ?_
      refine cx_iconst (v := 0) C dX9_span_29 (by decide) ?_
      refine cx_istore (lv' := [(4, .int 0), (3, .int u9), (0, .ref (m_a 0)), (1, .int p1), (2, .int p2)]) C dX9_span_30 (by decide) rfl ?_
      refine cx_lv [2, 3, 4, 1, 0] rfl ?_
      exact L32 u9 cx_N0 m_without m_onePicture m_oneYear m_first m_second m_limbs m_wide m_is m_likes 0 hf
    · have hf := cx_if_t hf c8
      clear c8
      refine cx_lv [0] rfl ?_
      exact J18 hf
theorem dX9_ahead_0 : decode cX9_ahead 0 = .ok (.aload_n 0, 1) := by decide +kernel
theorem dX9_ahead_1 : decode cX9_ahead 1 = .ok (.iload_n 1, 1) := by decide +kernel
theorem dX9_ahead_2 : decode cX9_ahead 2 = .ok (.invokevirtual 114, 3) := by decide +kernel
theorem dX9_ahead_5 : decode cX9_ahead 5 = .ok (.ifCond .eq 16, 3) := by decide +kernel
theorem dX9_ahead_8 : decode cX9_ahead 8 = .ok (.aload_n 0, 1) := by decide +kernel
theorem dX9_ahead_9 : decode cX9_ahead 9 = .ok (.iload_n 2, 1) := by decide +kernel
theorem dX9_ahead_10 : decode cX9_ahead 10 = .ok (.invokevirtual 114, 3) := by decide +kernel
theorem dX9_ahead_13 : decode cX9_ahead 13 = .ok (.ifCond .eq 8, 3) := by decide +kernel
theorem dX9_ahead_16 : decode cX9_ahead 16 = .ok (.iload_n 1, 1) := by decide +kernel
theorem dX9_ahead_17 : decode cX9_ahead 17 = .ok (.iload_n 2, 1) := by decide +kernel
theorem dX9_ahead_18 : decode cX9_ahead 18 = .ok (.if_icmp .ne 8, 3) := by decide +kernel
theorem dX9_ahead_21 : decode cX9_ahead 21 = .ok (.aload_n 0, 1) := by decide +kernel
theorem dX9_ahead_22 : decode cX9_ahead 22 = .ok (.invokevirtual 99, 3) := by decide +kernel
theorem dX9_ahead_25 : decode cX9_ahead 25 = .ok (.ireturn, 1) := by decide +kernel
theorem dX9_ahead_26 : decode cX9_ahead 26 = .ok (.aload_n 0, 1) := by decide +kernel
theorem dX9_ahead_27 : decode cX9_ahead 27 = .ok (.iconst (-1), 1) := by decide +kernel
theorem dX9_ahead_28 : decode cX9_ahead 28 = .ok (.iconst 0, 1) := by decide +kernel
theorem dX9_ahead_29 : decode cX9_ahead 29 = .ok (.iload_n 1, 1) := by decide +kernel
theorem dX9_ahead_30 : decode cX9_ahead 30 = .ok (.iload_n 2, 1) := by decide +kernel
theorem dX9_ahead_31 : decode cX9_ahead 31 = .ok (.invokevirtual 309, 3) := by decide +kernel
theorem dX9_ahead_34 : decode cX9_ahead 34 = .ok (.ifCond .eq 10, 3) := by decide +kernel
theorem dX9_ahead_37 : decode cX9_ahead 37 = .ok (.aload_n 0, 1) := by decide +kernel
theorem dX9_ahead_38 : decode cX9_ahead 38 = .ok (.invokevirtual 293, 3) := by decide +kernel
theorem dX9_ahead_41 : decode cX9_ahead 41 = .ok (.goto 7, 3) := by decide +kernel
theorem dX9_ahead_44 : decode cX9_ahead 44 = .ok (.aload_n 0, 1) := by decide +kernel
theorem dX9_ahead_45 : decode cX9_ahead 45 = .ok (.invokevirtual 290, 3) := by decide +kernel
theorem dX9_ahead_48 : decode cX9_ahead 48 = .ok (.ireturn, 1) := by decide +kernel
theorem me_X9_ahead : cx_Mv yX9_ahead cX9_ahead 3 (some .int) 2 := ⟨⟨⟨by decide +kernel, by decide +kernel, by decide +kernel⟩, hw_11, hw_1444⟩, hw_1442, hw_1443⟩
noncomputable def f_X9_ahead_J21 (m_limbs : Nat → Int32) (m_wide : Nat → Int32) (m_refused : Nat → Int32) (m_quiet : Int32) (m_is : Nat → Int32) (m_likes : Nat → Int32) (m_without : Int32) (m_onePicture : Int32) (m_oneYear : Int32) (m_first : Int32) (m_second : Int32) : Option (Int32 × Int32 × Int32 × Int32 × Int32 × Int32 × (Nat → Int32) × (Nat → Int32) × (Nat → Int32) × (Nat → Int32) × (Nat → Int32)) := Option.bind (f_X9_bad m_refused m_quiet) (fun u4 => some ((u4.1, m_without, m_onePicture, m_oneYear, m_first, m_second, m_limbs, m_wide, u4.2, m_is, m_likes)))
noncomputable def f_X9_ahead (m_limbs : Nat → Int32) (m_wide : Nat → Int32) (m_book : Nat → Int32) (m_refused : Nat → Int32) (m_quiet : Int32) (m_is : Nat → Int32) (m_likes : Nat → Int32) (m_without : Int32) (m_onePicture : Int32) (m_oneYear : Int32) (m_first : Int32) (m_second : Int32) (p1 : Int32) (p2 : Int32) : Option (Int32 × Int32 × Int32 × Int32 × Int32 × Int32 × (Nat → Int32) × (Nat → Int32) × (Nat → Int32) × (Nat → Int32) × (Nat → Int32)) := Option.bind (f_X9_isPicture m_book p1) (fun u1 => if u1 = 0 then (f_X9_ahead_J21 m_limbs m_wide m_refused m_quiet m_is m_likes m_without m_onePicture m_oneYear m_first m_second) else (Option.bind (f_X9_isPicture m_book p2) (fun u6 => if u6 = 0 then (f_X9_ahead_J21 m_limbs m_wide m_refused m_quiet m_is m_likes m_without m_onePicture m_oneYear m_first m_second) else (if p1 = p2 then (f_X9_ahead_J21 m_limbs m_wide m_refused m_quiet m_is m_likes m_without m_onePicture m_oneYear m_first m_second) else (Option.bind (f_X9_years2 m_limbs m_wide m_book m_is m_likes m_oneYear m_second ((-1)) 0 p1 p2) (fun u10 => if u10.1 = 0 then (Option.bind (f_X9_no m_refused m_quiet) (fun u13 => some ((u13.1, u10.2.1, u10.2.2.1, u10.2.2.2.1, u10.2.2.2.2.1, u10.2.2.2.2.2.1, u10.2.2.2.2.2.2.1, u10.2.2.2.2.2.2.2.1, u13.2, u10.2.2.2.2.2.2.2.2.1, u10.2.2.2.2.2.2.2.2.2)))) else (Option.bind (f_X9_tellsHit u10.2.2.2.2.2.2.1 u10.2.2.2.2.2.2.2.1) (fun u15 => some ((u15.1, u10.2.1, u10.2.2.1, u10.2.2.2.1, u10.2.2.2.2.1, u10.2.2.2.2.2.1, u15.2.1, u15.2.2, m_refused, u10.2.2.2.2.2.2.2.2.1, u10.2.2.2.2.2.2.2.2.2))))))))))
set_option maxHeartbeats 4000000 in
set_option maxRecDepth 100000 in
theorem c_X9_ahead (l : Launch) (D : va_G) (k : Nat → ClassId) (m_a : Nat → Nat) (m_limbs : Nat → Int32) (m_wide : Nat → Int32) (m_book : Nat → Int32) (m_images : Nat → Int32) (m_kept : Nat → Int32) (m_before : Nat → Int32) (m_refused : Nat → Int32) (m_quiet : Int32) (m_text : Nat → Int32) (m_typed : Int32) (m_at : Int32) (m_start : Int32) (m_token : Int32) (m_value : Int32) (m_items : Nat → Int32) (m_many : Int32) (m_is : Nat → Int32) (m_likes : Nat → Int32) (m_without : Int32) (m_onePicture : Int32) (m_oneYear : Int32) (m_first : Int32) (m_second : Int32) (m_names : Nat → Int32) (p1 : Int32) (p2 : Int32) (y : Int32 × Int32 × Int32 × Int32 × Int32 × Int32 × (Nat → Int32) × (Nat → Int32) × (Nat → Int32) × (Nat → Int32) × (Nat → Int32)) (hf : f_X9_ahead m_limbs m_wide m_book m_refused m_quiet m_is m_likes m_without m_onePicture m_oneYear m_first m_second p1 p2 = some y) : cx_M l yX9_ahead cX9_ahead 3 (some .int) 8 D k [.ref (m_a 0), .int p1, .int p2] (wd_Model k m_a m_limbs m_wide m_book m_images m_kept m_before m_refused m_quiet m_text m_typed m_at m_start m_token m_value m_items m_many m_is m_likes m_without m_onePicture m_oneYear m_first m_second m_names) (fun sz => cx_Qi D y.1 (wd_Model k m_a m_limbs m_wide m_book m_images m_kept m_before m_refused m_quiet m_text m_typed m_at m_start m_token m_value m_items m_many m_is m_likes m_without m_onePicture m_oneYear m_first m_second m_names) (wd_Model k m_a y.2.2.2.2.2.2.1 y.2.2.2.2.2.2.2.1 m_book m_images m_kept m_before y.2.2.2.2.2.2.2.2.1 m_quiet m_text m_typed m_at m_start m_token m_value m_items m_many y.2.2.2.2.2.2.2.2.2.1 y.2.2.2.2.2.2.2.2.2.2 y.2.1 y.2.2.1 y.2.2.2.1 y.2.2.2.2.1 y.2.2.2.2.2.1 m_names) sz) := by
  refine cx_met (own := "NamelessBoxModel") (by decide) rfl (Nat.le_of_ble_eq_true rfl) ?_
  intro p e s m args below meth c A Q C hA hQ hr hlk
  refine cx_lv (lv' := [(0, .ref (m_a 0)), (1, .int p1), (2, .int p2)]) [0, 1, 2] rfl ?_
  have J21 : f_X9_ahead_J21 m_limbs m_wide m_refused m_quiet m_is m_likes m_without m_onePicture m_oneYear m_first m_second = some y → cx_S p l e (cx_rm 8) s m args below meth c A D 3 0 0 Q 21 [(0, .ref (m_a 0))] [] (wd_Model k m_a m_limbs m_wide m_book m_images m_kept m_before m_refused m_quiet m_text m_typed m_at m_start m_token m_value m_items m_many m_is m_likes m_without m_onePicture m_oneYear m_first m_second m_names) := by
    intro  hf
    unfold f_X9_ahead_J21 at hf
    refine cx_aload_n C dX9_ahead_21 0 rfl ?_
    obtain ⟨u4, e5, hf⟩ := cx_bd_at hf
    refine cx_Fvi (q := (RX9, TX9, 24)) (As := []) (rest := []) (w1 := (wd_Model k m_a m_limbs m_wide m_book m_images m_kept m_before u4.2 m_quiet m_text m_typed m_at m_start m_token m_value m_items m_many m_is m_likes m_without m_onePicture m_oneYear m_first m_second m_names)) hA C me_X9_bad hw_1137 (c_X9_bad l D k m_a m_limbs m_wide m_book m_images m_kept m_before m_refused m_quiet m_text m_typed m_at m_start m_token m_value m_items m_many m_is m_likes m_without m_onePicture m_oneYear m_first m_second m_names u4 e5) dX9_ahead_22 ⟨Nat.le_of_ble_eq_true rfl, Nat.le_of_ble_eq_true rfl⟩ ⟨Nat.zero_le _, Nat.zero_le _⟩ rfl rfl (Nat.le_of_ble_eq_true rfl) rfl rfl rfl ?_
    clear e5
    obtain rfl := Option.some.inj hf
    exact cx_iret C hA hQ hr hlk dX9_ahead_25 rfl rfl
  unfold f_X9_ahead at hf
  refine cx_aload_n C dX9_ahead_0 0 rfl ?_
  refine cx_iload_n C dX9_ahead_1 1 rfl ?_
  obtain ⟨u1, e2, hf⟩ := cx_bd_at hf
  refine cx_Fvi (q := (RX9, TX9, 24)) (As := [.int p1]) (rest := []) (w1 := (wd_Model k m_a m_limbs m_wide m_book m_images m_kept m_before m_refused m_quiet m_text m_typed m_at m_start m_token m_value m_items m_many m_is m_likes m_without m_onePicture m_oneYear m_first m_second m_names)) hA C me_X9_isPicture hw_1174 (c_X9_isPicture l D k m_a m_limbs m_wide m_book m_images m_kept m_before m_refused m_quiet m_text m_typed m_at m_start m_token m_value m_items m_many m_is m_likes m_without m_onePicture m_oneYear m_first m_second m_names p1 u1 e2) dX9_ahead_2 ⟨Nat.le_of_ble_eq_true rfl, Nat.le_of_ble_eq_true rfl⟩ ⟨Nat.zero_le _, Nat.zero_le _⟩ rfl rfl (Nat.le_of_ble_eq_true rfl) rfl rfl rfl ?_
  clear e2
  refine cx_if_eq (tgt := 21) C dX9_ahead_5 (by decide) (fun c3 => ?_) (fun c3 => ?_)
  · have hf := cx_if_t hf c3
    clear c3
    refine cx_lv [0] rfl ?_
    exact J21 hf
  · have hf := cx_if_f hf c3
    clear c3
    refine cx_aload_n C dX9_ahead_8 0 rfl ?_
    refine cx_iload_n C dX9_ahead_9 2 rfl ?_
    obtain ⟨u6, e7, hf⟩ := cx_bd_at hf
    refine cx_Fvi (q := (RX9, TX9, 24)) (As := [.int p2]) (rest := []) (w1 := (wd_Model k m_a m_limbs m_wide m_book m_images m_kept m_before m_refused m_quiet m_text m_typed m_at m_start m_token m_value m_items m_many m_is m_likes m_without m_onePicture m_oneYear m_first m_second m_names)) hA C me_X9_isPicture hw_1174 (c_X9_isPicture l D k m_a m_limbs m_wide m_book m_images m_kept m_before m_refused m_quiet m_text m_typed m_at m_start m_token m_value m_items m_many m_is m_likes m_without m_onePicture m_oneYear m_first m_second m_names p2 u6 e7) dX9_ahead_10 ⟨Nat.le_of_ble_eq_true rfl, Nat.le_of_ble_eq_true rfl⟩ ⟨Nat.zero_le _, Nat.zero_le _⟩ rfl rfl (Nat.le_of_ble_eq_true rfl) rfl rfl rfl ?_
    clear e7
    refine cx_if_eq (tgt := 21) C dX9_ahead_13 (by decide) (fun c8 => ?_) (fun c8 => ?_)
    · have hf := cx_if_t hf c8
      clear c8
      refine cx_lv [0] rfl ?_
      exact J21 hf
    · have hf := cx_if_f hf c8
      clear c8
      refine cx_iload_n C dX9_ahead_16 1 rfl ?_
      refine cx_iload_n C dX9_ahead_17 2 rfl ?_
      refine cx_icmp_ne (tgt := 26) C dX9_ahead_18 (by decide) (fun c9 => ?_) (fun c9 => ?_)
      · have hf := cx_if_f hf c9
        clear c9
        refine cx_aload_n C dX9_ahead_26 0 rfl ?_
        refine cx_iconst (v := (-1)) C dX9_ahead_27 (by decide) ?_
        refine cx_iconst (v := 0) C dX9_ahead_28 (by decide) ?_
        refine cx_iload_n C dX9_ahead_29 1 rfl ?_
        refine cx_iload_n C dX9_ahead_30 2 rfl ?_
        obtain ⟨u10, e11, hf⟩ := cx_bd_at hf
        refine cx_Fvi (q := (RX9, TX9, 24)) (As := [.int ((-1)), .int 0, .int p1, .int p2]) (rest := []) (w1 := (wd_Model k m_a u10.2.2.2.2.2.2.1 u10.2.2.2.2.2.2.2.1 m_book m_images m_kept m_before m_refused m_quiet m_text m_typed m_at m_start m_token m_value m_items m_many u10.2.2.2.2.2.2.2.2.1 u10.2.2.2.2.2.2.2.2.2 u10.2.1 u10.2.2.1 u10.2.2.2.1 u10.2.2.2.2.1 u10.2.2.2.2.2.1 m_names)) hA C me_X9_years2 hw_1433 (c_X9_years2 l D k m_a m_limbs m_wide m_book m_images m_kept m_before m_refused m_quiet m_text m_typed m_at m_start m_token m_value m_items m_many m_is m_likes m_without m_onePicture m_oneYear m_first m_second m_names ((-1)) 0 p1 p2 u10 e11) dX9_ahead_31 ⟨Nat.le_of_ble_eq_true rfl, Nat.le_of_ble_eq_true rfl⟩ ⟨Nat.zero_le _, Nat.zero_le _⟩ rfl rfl (Nat.le_of_ble_eq_true rfl) rfl rfl rfl ?_
        clear e11
        refine cx_if_eq (tgt := 44) C dX9_ahead_34 (by decide) (fun c12 => ?_) (fun c12 => ?_)
        · have hf := cx_if_t hf c12
          clear c12
          refine cx_aload_n C dX9_ahead_44 0 rfl ?_
          obtain ⟨u13, e14, hf⟩ := cx_bd_at hf
          refine cx_Fvi (q := (RX9, TX9, 24)) (As := []) (rest := []) (w1 := (wd_Model k m_a u10.2.2.2.2.2.2.1 u10.2.2.2.2.2.2.2.1 m_book m_images m_kept m_before u13.2 m_quiet m_text m_typed m_at m_start m_token m_value m_items m_many u10.2.2.2.2.2.2.2.2.1 u10.2.2.2.2.2.2.2.2.2 u10.2.1 u10.2.2.1 u10.2.2.2.1 u10.2.2.2.2.1 u10.2.2.2.2.2.1 m_names)) hA C me_X9_no hw_1337 (c_X9_no l D k m_a u10.2.2.2.2.2.2.1 u10.2.2.2.2.2.2.2.1 m_book m_images m_kept m_before m_refused m_quiet m_text m_typed m_at m_start m_token m_value m_items m_many u10.2.2.2.2.2.2.2.2.1 u10.2.2.2.2.2.2.2.2.2 u10.2.1 u10.2.2.1 u10.2.2.2.1 u10.2.2.2.2.1 u10.2.2.2.2.2.1 m_names u13 e14) dX9_ahead_45 ⟨Nat.le_of_ble_eq_true rfl, Nat.le_of_ble_eq_true rfl⟩ ⟨Nat.zero_le _, Nat.zero_le _⟩ rfl rfl (Nat.le_of_ble_eq_true rfl) rfl rfl rfl ?_
          clear e14
          obtain rfl := Option.some.inj hf
          exact cx_iret C hA hQ hr hlk dX9_ahead_48 rfl rfl
        · have hf := cx_if_f hf c12
          clear c12
          refine cx_aload_n C dX9_ahead_37 0 rfl ?_
          obtain ⟨u15, e16, hf⟩ := cx_bd_at hf
          refine cx_Fvi (q := (RX9, TX9, 24)) (As := []) (rest := []) (w1 := (wd_Model k m_a u15.2.1 u15.2.2 m_book m_images m_kept m_before m_refused m_quiet m_text m_typed m_at m_start m_token m_value m_items m_many u10.2.2.2.2.2.2.2.2.1 u10.2.2.2.2.2.2.2.2.2 u10.2.1 u10.2.2.1 u10.2.2.2.1 u10.2.2.2.2.1 u10.2.2.2.2.2.1 m_names)) hA C me_X9_tellsHit hw_1341 (c_X9_tellsHit l D k m_a u10.2.2.2.2.2.2.1 u10.2.2.2.2.2.2.2.1 m_book m_images m_kept m_before m_refused m_quiet m_text m_typed m_at m_start m_token m_value m_items m_many u10.2.2.2.2.2.2.2.2.1 u10.2.2.2.2.2.2.2.2.2 u10.2.1 u10.2.2.1 u10.2.2.2.1 u10.2.2.2.2.1 u10.2.2.2.2.2.1 m_names u15 e16) dX9_ahead_38 ⟨Nat.le_of_ble_eq_true rfl, Nat.le_of_ble_eq_true rfl⟩ ⟨Nat.zero_le _, Nat.zero_le _⟩ rfl rfl (Nat.le_of_ble_eq_true rfl) rfl rfl rfl ?_
          clear e16
          refine cx_goto (tgt := 48) C dX9_ahead_41 (by decide) ?_
          obtain rfl := Option.some.inj hf
          exact cx_iret C hA hQ hr hlk dX9_ahead_48 rfl rfl
      · have hf := cx_if_t hf c9
        clear c9
        refine cx_lv [0] rfl ?_
        exact J21 hf
theorem dX9_parts_0 : decode cX9_parts 0 = .ok (.aload_n 0, 1) := by decide +kernel
theorem dX9_parts_1 : decode cX9_parts 1 = .ok (.iload_n 1, 1) := by decide +kernel
theorem dX9_parts_2 : decode cX9_parts 2 = .ok (.invokevirtual 106, 3) := by decide +kernel
theorem dX9_parts_5 : decode cX9_parts 5 = .ok (.ifCond .eq 16, 3) := by decide +kernel
theorem dX9_parts_8 : decode cX9_parts 8 = .ok (.aload_n 0, 1) := by decide +kernel
theorem dX9_parts_9 : decode cX9_parts 9 = .ok (.iload_n 2, 1) := by decide +kernel
theorem dX9_parts_10 : decode cX9_parts 10 = .ok (.invokevirtual 106, 3) := by decide +kernel
theorem dX9_parts_13 : decode cX9_parts 13 = .ok (.ifCond .eq 8, 3) := by decide +kernel
theorem dX9_parts_16 : decode cX9_parts 16 = .ok (.iload_n 1, 1) := by decide +kernel
theorem dX9_parts_17 : decode cX9_parts 17 = .ok (.iload_n 2, 1) := by decide +kernel
theorem dX9_parts_18 : decode cX9_parts 18 = .ok (.if_icmp .ne 8, 3) := by decide +kernel
theorem dX9_parts_21 : decode cX9_parts 21 = .ok (.aload_n 0, 1) := by decide +kernel
theorem dX9_parts_22 : decode cX9_parts 22 = .ok (.invokevirtual 99, 3) := by decide +kernel
theorem dX9_parts_25 : decode cX9_parts 25 = .ok (.ireturn, 1) := by decide +kernel
theorem dX9_parts_26 : decode cX9_parts 26 = .ok (.iconst (-1), 1) := by decide +kernel
theorem dX9_parts_27 : decode cX9_parts 27 = .ok (.istore_n 3, 1) := by decide +kernel
theorem dX9_parts_28 : decode cX9_parts 28 = .ok (.iconst 3, 1) := by decide +kernel
theorem dX9_parts_29 : decode cX9_parts 29 = .ok (.istore 4, 2) := by decide +kernel
theorem dX9_parts_31 : decode cX9_parts 31 = .ok (.iload 4, 2) := by decide +kernel
theorem dX9_parts_33 : decode cX9_parts 33 = .ok (.ifCond .lt 67, 3) := by decide +kernel
theorem dX9_parts_36 : decode cX9_parts 36 = .ok (.aload_n 0, 1) := by decide +kernel
theorem dX9_parts_37 : decode cX9_parts 37 = .ok (.iload_n 1, 1) := by decide +kernel
theorem dX9_parts_38 : decode cX9_parts 38 = .ok (.iload 4, 2) := by decide +kernel
theorem dX9_parts_40 : decode cX9_parts 40 = .ok (.invokevirtual 131, 3) := by decide +kernel
theorem dX9_parts_43 : decode cX9_parts 43 = .ok (.iconst (-1), 1) := by decide +kernel
theorem dX9_parts_44 : decode cX9_parts 44 = .ok (.if_icmp .eq 18, 3) := by decide +kernel
theorem dX9_parts_47 : decode cX9_parts 47 = .ok (.aload_n 0, 1) := by decide +kernel
theorem dX9_parts_48 : decode cX9_parts 48 = .ok (.iload_n 2, 1) := by decide +kernel
theorem dX9_parts_49 : decode cX9_parts 49 = .ok (.iload 4, 2) := by decide +kernel
theorem dX9_parts_51 : decode cX9_parts 51 = .ok (.invokevirtual 131, 3) := by decide +kernel
theorem dX9_parts_54 : decode cX9_parts 54 = .ok (.iconst (-1), 1) := by decide +kernel
theorem dX9_parts_55 : decode cX9_parts 55 = .ok (.if_icmp .eq 7, 3) := by decide +kernel
theorem dX9_parts_58 : decode cX9_parts 58 = .ok (.iconst 1, 1) := by decide +kernel
theorem dX9_parts_59 : decode cX9_parts 59 = .ok (.goto 4, 3) := by decide +kernel
theorem dX9_parts_62 : decode cX9_parts 62 = .ok (.iconst 0, 1) := by decide +kernel
theorem dX9_parts_63 : decode cX9_parts 63 = .ok (.istore 5, 2) := by decide +kernel
theorem dX9_parts_65 : decode cX9_parts 65 = .ok (.iload 5, 2) := by decide +kernel
theorem dX9_parts_67 : decode cX9_parts 67 = .ok (.ifCond .eq 25, 3) := by decide +kernel
theorem dX9_parts_70 : decode cX9_parts 70 = .ok (.aload_n 0, 1) := by decide +kernel
theorem dX9_parts_71 : decode cX9_parts 71 = .ok (.iload_n 1, 1) := by decide +kernel
theorem dX9_parts_72 : decode cX9_parts 72 = .ok (.iload 4, 2) := by decide +kernel
theorem dX9_parts_74 : decode cX9_parts 74 = .ok (.invokevirtual 131, 3) := by decide +kernel
theorem dX9_parts_77 : decode cX9_parts 77 = .ok (.aload_n 0, 1) := by decide +kernel
theorem dX9_parts_78 : decode cX9_parts 78 = .ok (.iload_n 2, 1) := by decide +kernel
theorem dX9_parts_79 : decode cX9_parts 79 = .ok (.iload 4, 2) := by decide +kernel
theorem dX9_parts_81 : decode cX9_parts 81 = .ok (.invokevirtual 131, 3) := by decide +kernel
theorem dX9_parts_84 : decode cX9_parts 84 = .ok (.if_icmp .eq 8, 3) := by decide +kernel
theorem dX9_parts_87 : decode cX9_parts 87 = .ok (.iload 4, 2) := by decide +kernel
theorem dX9_parts_89 : decode cX9_parts 89 = .ok (.goto 4, 3) := by decide +kernel
theorem dX9_parts_92 : decode cX9_parts 92 = .ok (.iload_n 3, 1) := by decide +kernel
theorem dX9_parts_93 : decode cX9_parts 93 = .ok (.istore_n 3, 1) := by decide +kernel
theorem dX9_parts_94 : decode cX9_parts 94 = .ok (.iinc 4 (-1), 3) := by decide +kernel
theorem dX9_parts_97 : decode cX9_parts 97 = .ok (.goto (-66), 3) := by decide +kernel
theorem dX9_parts_100 : decode cX9_parts 100 = .ok (.iload_n 3, 1) := by decide +kernel
theorem dX9_parts_101 : decode cX9_parts 101 = .ok (.ireturn, 1) := by decide +kernel
theorem me_X9_parts : cx_Mv yX9_parts cX9_parts 6 (some .int) 2 := ⟨⟨⟨by decide +kernel, by decide +kernel, by decide +kernel⟩, hw_11, hw_1448⟩, hw_1446, hw_1447⟩
noncomputable def f_X9_parts_J21 (m_refused : Nat → Int32) (m_quiet : Int32) : Option (Int32 × (Nat → Int32)) := Option.bind (f_X9_bad m_refused m_quiet) (fun u4 => some ((u4.1, u4.2)))
noncomputable def f_X9_parts_J93 (x4_11 : Int32) (rc31 : Int32 → Int32 → Option (Int32 × (Nat → Int32))) (s0_18 : Int32) : Option (Int32 × (Nat → Int32)) := rc31 s0_18 (x4_11 + (-1))
noncomputable def f_X9_parts_J92 (x3_10 : Int32) (x4_11 : Int32) (rc31 : Int32 → Int32 → Option (Int32 × (Nat → Int32))) : Option (Int32 × (Nat → Int32)) := f_X9_parts_J93 x4_11 rc31 x3_10
noncomputable def f_X9_parts_J63 (m_book : Nat → Int32) (p1 : Int32) (p2 : Int32) (x3_10 : Int32) (x4_11 : Int32) (rc31 : Int32 → Int32 → Option (Int32 × (Nat → Int32))) (s0_16 : Int32) : Option (Int32 × (Nat → Int32)) := if s0_16 = 0 then (f_X9_parts_J92 x3_10 x4_11 rc31) else (Option.bind (f_X9_markOf m_book p1 x4_11) (fun u19 => Option.bind (f_X9_markOf m_book p2 x4_11) (fun u21 => if u19 = u21 then (f_X9_parts_J92 x3_10 x4_11 rc31) else (f_X9_parts_J93 x4_11 rc31 x4_11))))
noncomputable def f_X9_parts_J62 (m_book : Nat → Int32) (p1 : Int32) (p2 : Int32) (x3_10 : Int32) (x4_11 : Int32) (rc31 : Int32 → Int32 → Option (Int32 × (Nat → Int32))) : Option (Int32 × (Nat → Int32)) := f_X9_parts_J63 m_book p1 p2 x3_10 x4_11 rc31 0
noncomputable def f_X9_parts_L31 (m_book : Nat → Int32) (m_refused : Nat → Int32) (p1 : Int32) (p2 : Int32) (rc31 : Int32 → Int32 → Option (Int32 × (Nat → Int32))) (x3_10 : Int32) (x4_11 : Int32) : Option (Int32 × (Nat → Int32)) := if x4_11 < 0 then (some ((x3_10, m_refused))) else (Option.bind (f_X9_markOf m_book p1 x4_11) (fun u13 => if u13 = ((-1)) then (f_X9_parts_J62 m_book p1 p2 x3_10 x4_11 rc31) else (Option.bind (f_X9_markOf m_book p2 x4_11) (fun u24 => if u24 = ((-1)) then (f_X9_parts_J62 m_book p1 p2 x3_10 x4_11 rc31) else (f_X9_parts_J63 m_book p1 p2 x3_10 x4_11 rc31 1)))))
noncomputable def f_X9_parts_L31w (m_book : Nat → Int32) (m_refused : Nat → Int32) (p1 : Int32) (p2 : Int32) (n : Nat) : Int32 → Int32 → Option (Int32 × (Nat → Int32)) := Nat.rec (fun _ _ => none) (fun _ r => f_X9_parts_L31 m_book m_refused p1 p2 r) n
noncomputable def f_X9_parts (m_book : Nat → Int32) (m_refused : Nat → Int32) (m_quiet : Int32) (p1 : Int32) (p2 : Int32) : Option (Int32 × (Nat → Int32)) := Option.bind (f_X9_isPerson m_book p1) (fun u1 => if u1 = 0 then (f_X9_parts_J21 m_refused m_quiet) else (Option.bind (f_X9_isPerson m_book p2) (fun u6 => if u6 = 0 then (f_X9_parts_J21 m_refused m_quiet) else (if p1 = p2 then (f_X9_parts_J21 m_refused m_quiet) else (f_X9_parts_L31w m_book m_refused p1 p2 cx_N0 ((-1)) 3)))))
set_option maxHeartbeats 4000000 in
set_option maxRecDepth 100000 in
theorem c_X9_parts (l : Launch) (D : va_G) (k : Nat → ClassId) (m_a : Nat → Nat) (m_limbs : Nat → Int32) (m_wide : Nat → Int32) (m_book : Nat → Int32) (m_images : Nat → Int32) (m_kept : Nat → Int32) (m_before : Nat → Int32) (m_refused : Nat → Int32) (m_quiet : Int32) (m_text : Nat → Int32) (m_typed : Int32) (m_at : Int32) (m_start : Int32) (m_token : Int32) (m_value : Int32) (m_items : Nat → Int32) (m_many : Int32) (m_is : Nat → Int32) (m_likes : Nat → Int32) (m_without : Int32) (m_onePicture : Int32) (m_oneYear : Int32) (m_first : Int32) (m_second : Int32) (m_names : Nat → Int32) (p1 : Int32) (p2 : Int32) (y : Int32 × (Nat → Int32)) (hf : f_X9_parts m_book m_refused m_quiet p1 p2 = some y) : cx_M l yX9_parts cX9_parts 6 (some .int) 3 D k [.ref (m_a 0), .int p1, .int p2] (wd_Model k m_a m_limbs m_wide m_book m_images m_kept m_before m_refused m_quiet m_text m_typed m_at m_start m_token m_value m_items m_many m_is m_likes m_without m_onePicture m_oneYear m_first m_second m_names) (fun sz => cx_Qi D y.1 (wd_Model k m_a m_limbs m_wide m_book m_images m_kept m_before m_refused m_quiet m_text m_typed m_at m_start m_token m_value m_items m_many m_is m_likes m_without m_onePicture m_oneYear m_first m_second m_names) (wd_Model k m_a m_limbs m_wide m_book m_images m_kept m_before y.2 m_quiet m_text m_typed m_at m_start m_token m_value m_items m_many m_is m_likes m_without m_onePicture m_oneYear m_first m_second m_names) sz) := by
  refine cx_met (own := "NamelessBoxModel") (by decide) rfl (Nat.le_of_ble_eq_true rfl) ?_
  intro p e s m args below meth c A Q C hA hQ hr hlk
  refine cx_lv (lv' := [(0, .ref (m_a 0)), (1, .int p1), (2, .int p2)]) [0, 1, 2] rfl ?_
  have J21 : f_X9_parts_J21 m_refused m_quiet = some y → cx_S p l e (cx_rm 3) s m args below meth c A D 6 0 0 Q 21 [(0, .ref (m_a 0))] [] (wd_Model k m_a m_limbs m_wide m_book m_images m_kept m_before m_refused m_quiet m_text m_typed m_at m_start m_token m_value m_items m_many m_is m_likes m_without m_onePicture m_oneYear m_first m_second m_names) := by
    intro  hf
    unfold f_X9_parts_J21 at hf
    refine cx_aload_n C dX9_parts_21 0 rfl ?_
    obtain ⟨u4, e5, hf⟩ := cx_bd_at hf
    refine cx_Fvi (q := (RX9, TX9, 24)) (As := []) (rest := []) (w1 := (wd_Model k m_a m_limbs m_wide m_book m_images m_kept m_before u4.2 m_quiet m_text m_typed m_at m_start m_token m_value m_items m_many m_is m_likes m_without m_onePicture m_oneYear m_first m_second m_names)) hA C me_X9_bad hw_1137 (c_X9_bad l D k m_a m_limbs m_wide m_book m_images m_kept m_before m_refused m_quiet m_text m_typed m_at m_start m_token m_value m_items m_many m_is m_likes m_without m_onePicture m_oneYear m_first m_second m_names u4 e5) dX9_parts_22 ⟨Nat.le_of_ble_eq_true rfl, Nat.le_of_ble_eq_true rfl⟩ ⟨Nat.zero_le _, Nat.zero_le _⟩ rfl rfl (Nat.le_of_ble_eq_true rfl) rfl rfl rfl ?_
    clear e5
    obtain rfl := Option.some.inj hf
    exact cx_iret C hA hQ hr hlk dX9_parts_25 rfl rfl
  have L31 : ∀ (n31 : Nat) (x3_10 : Int32) (x4_11 : Int32), f_X9_parts_L31w m_book m_refused p1 p2 n31 x3_10 x4_11 = some y → cx_S p l e (cx_rm 3) s m args below meth c A D 6 0 0 Q 31 [(0, .ref (m_a 0)), (1, .int p1), (2, .int p2), (3, .int x3_10), (4, .int x4_11)] [] (wd_Model k m_a m_limbs m_wide m_book m_images m_kept m_before m_refused m_quiet m_text m_typed m_at m_start m_token m_value m_items m_many m_is m_likes m_without m_onePicture m_oneYear m_first m_second m_names) := by
    intro  n31
    induction n31 with
    | zero =>
      intro x3_10 x4_11 hf
      exact absurd (show (none : Option (Int32 × (Nat → Int32))) = some y from hf) (fun h => by cases h)
    | succ n31 ih31 =>
      intro x3_10 x4_11 hf
      have hf : f_X9_parts_L31 m_book m_refused p1 p2 (f_X9_parts_L31w m_book m_refused p1 p2 n31) x3_10 x4_11 = some y := hf
      have J93 : ∀ (s0_18 : Int32), f_X9_parts_J93 x4_11 (f_X9_parts_L31w m_book m_refused p1 p2 n31) s0_18 = some y → cx_S p l e (cx_rm 3) s m args below meth c A D 6 0 0 Q 93 [(0, .ref (m_a 0)), (1, .int p1), (2, .int p2), (4, .int x4_11)] [.int s0_18] (wd_Model k m_a m_limbs m_wide m_book m_images m_kept m_before m_refused m_quiet m_text m_typed m_at m_start m_token m_value m_items m_many m_is m_likes m_without m_onePicture m_oneYear m_first m_second m_names) := by
        intro s0_18 hf
        unfold f_X9_parts_J93 at hf
        refine cx_istore_n (lv' := [(3, .int s0_18), (0, .ref (m_a 0)), (1, .int p1), (2, .int p2), (4, .int x4_11)]) C dX9_parts_93 rfl (by decide) rfl ?_
        refine cx_iinc (v := x4_11 + (-1)) (lv' := [(4, .int (x4_11 + (-1))), (3, .int s0_18), (0, .ref (m_a 0)), (1, .int p1), (2, .int p2)]) C dX9_parts_94 4 rfl rfl (by decide) rfl ?_
        refine cx_goto (tgt := 31) C dX9_parts_97 (by decide) ?_
        refine cx_lv [2, 3, 4, 1, 0] rfl ?_
        exact ih31 s0_18 (x4_11 + (-1)) hf
      have J92 : f_X9_parts_J92 x3_10 x4_11 (f_X9_parts_L31w m_book m_refused p1 p2 n31) = some y → cx_S p l e (cx_rm 3) s m args below meth c A D 6 0 0 Q 92 [(0, .ref (m_a 0)), (1, .int p1), (2, .int p2), (3, .int x3_10), (4, .int x4_11)] [] (wd_Model k m_a m_limbs m_wide m_book m_images m_kept m_before m_refused m_quiet m_text m_typed m_at m_start m_token m_value m_items m_many m_is m_likes m_without m_onePicture m_oneYear m_first m_second m_names) := by
        intro  hf
        unfold f_X9_parts_J92 at hf
        refine cx_iload_n C dX9_parts_92 3 rfl ?_
        refine cx_lv [0, 1, 2, 4] rfl ?_
        exact J93 x3_10 hf
      have J63 : ∀ (s0_16 : Int32), f_X9_parts_J63 m_book p1 p2 x3_10 x4_11 (f_X9_parts_L31w m_book m_refused p1 p2 n31) s0_16 = some y → cx_S p l e (cx_rm 3) s m args below meth c A D 6 0 0 Q 63 [(0, .ref (m_a 0)), (1, .int p1), (2, .int p2), (3, .int x3_10), (4, .int x4_11)] [.int s0_16] (wd_Model k m_a m_limbs m_wide m_book m_images m_kept m_before m_refused m_quiet m_text m_typed m_at m_start m_token m_value m_items m_many m_is m_likes m_without m_onePicture m_oneYear m_first m_second m_names) := by
        intro s0_16 hf
        unfold f_X9_parts_J63 at hf
        refine cx_istore (lv' := [(5, .int s0_16), (0, .ref (m_a 0)), (1, .int p1), (2, .int p2), (3, .int x3_10), (4, .int x4_11)]) C dX9_parts_63 (by decide) rfl ?_
        refine cx_iload C dX9_parts_65 0 rfl ?_
        refine cx_if_eq (tgt := 92) C dX9_parts_67 (by decide) (fun c17 => ?_) (fun c17 => ?_)
        · have hf := cx_if_t hf c17
          clear c17
          refine cx_lv [1, 2, 3, 4, 5] rfl ?_
          exact J92 hf
        · have hf := cx_if_f hf c17
          clear c17
          refine cx_aload_n C dX9_parts_70 1 rfl ?_
          refine cx_iload_n C dX9_parts_71 2 rfl ?_
          refine cx_iload C dX9_parts_72 5 rfl ?_
          obtain ⟨u19, e20, hf⟩ := cx_bd_at hf
          refine cx_Fvi (q := (RX9, TX9, 24)) (As := [.int p1, .int x4_11]) (rest := []) (w1 := (wd_Model k m_a m_limbs m_wide m_book m_images m_kept m_before m_refused m_quiet m_text m_typed m_at m_start m_token m_value m_items m_many m_is m_likes m_without m_onePicture m_oneYear m_first m_second m_names)) hA C me_X9_markOf hw_1206 (c_X9_markOf l D k m_a m_limbs m_wide m_book m_images m_kept m_before m_refused m_quiet m_text m_typed m_at m_start m_token m_value m_items m_many m_is m_likes m_without m_onePicture m_oneYear m_first m_second m_names p1 x4_11 u19 e20) dX9_parts_74 ⟨Nat.le_of_ble_eq_true rfl, Nat.le_of_ble_eq_true rfl⟩ ⟨Nat.zero_le _, Nat.zero_le _⟩ rfl rfl (Nat.le_of_ble_eq_true rfl) rfl rfl rfl ?_
          clear e20
          refine cx_aload_n C dX9_parts_77 1 rfl ?_
          refine cx_iload_n C dX9_parts_78 3 rfl ?_
          refine cx_iload C dX9_parts_79 5 rfl ?_
          obtain ⟨u21, e22, hf⟩ := cx_bd_at hf
          refine cx_Fvi (q := (RX9, TX9, 24)) (As := [.int p2, .int x4_11]) (rest := [.int u19]) (w1 := (wd_Model k m_a m_limbs m_wide m_book m_images m_kept m_before m_refused m_quiet m_text m_typed m_at m_start m_token m_value m_items m_many m_is m_likes m_without m_onePicture m_oneYear m_first m_second m_names)) hA C me_X9_markOf hw_1206 (c_X9_markOf l D k m_a m_limbs m_wide m_book m_images m_kept m_before m_refused m_quiet m_text m_typed m_at m_start m_token m_value m_items m_many m_is m_likes m_without m_onePicture m_oneYear m_first m_second m_names p2 x4_11 u21 e22) dX9_parts_81 ⟨Nat.le_of_ble_eq_true rfl, Nat.le_of_ble_eq_true rfl⟩ ⟨Nat.zero_le _, Nat.zero_le _⟩ rfl rfl (Nat.le_of_ble_eq_true rfl) rfl rfl rfl ?_
          clear e22
          refine cx_icmp_eq (tgt := 92) C dX9_parts_84 (by decide) (fun c23 => ?_) (fun c23 => ?_)
          · have hf := cx_if_t hf c23
            clear c23
            refine cx_lv [1, 2, 3, 4, 5] rfl ?_
            exact J92 hf
          · have hf := cx_if_f hf c23
            clear c23
            refine cx_iload C dX9_parts_87 5 rfl ?_
            refine cx_goto (tgt := 93) C dX9_parts_89 (by decide) ?_
            refine cx_lv [1, 2, 3, 5] rfl ?_
            exact J93 x4_11 hf
      have J62 : f_X9_parts_J62 m_book p1 p2 x3_10 x4_11 (f_X9_parts_L31w m_book m_refused p1 p2 n31) = some y → cx_S p l e (cx_rm 3) s m args below meth c A D 6 0 0 Q 62 [(0, .ref (m_a 0)), (1, .int p1), (2, .int p2), (3, .int x3_10), (4, .int x4_11)] [] (wd_Model k m_a m_limbs m_wide m_book m_images m_kept m_before m_refused m_quiet m_text m_typed m_at m_start m_token m_value m_items m_many m_is m_likes m_without m_onePicture m_oneYear m_first m_second m_names) := by
        intro  hf
        unfold f_X9_parts_J62 at hf
        refine cx_iconst (v := 0) C dX9_parts_62 (by decide) ?_
        exact J63 0 hf
      unfold f_X9_parts_L31 at hf
      refine cx_iload C dX9_parts_31 4 rfl ?_
      refine cx_if_lt (tgt := 100) C dX9_parts_33 (by decide) (fun c12 => ?_) (fun c12 => ?_)
      · have hf := cx_if_t hf c12
        clear c12
        refine cx_iload_n C dX9_parts_100 3 rfl ?_
        obtain rfl := Option.some.inj hf
        exact cx_iret C hA hQ hr hlk dX9_parts_101 rfl rfl
      · have hf := cx_if_f hf c12
        clear c12
        refine cx_aload_n C dX9_parts_36 0 rfl ?_
        refine cx_iload_n C dX9_parts_37 1 rfl ?_
        refine cx_iload C dX9_parts_38 4 rfl ?_
        obtain ⟨u13, e14, hf⟩ := cx_bd_at hf
        refine cx_Fvi (q := (RX9, TX9, 24)) (As := [.int p1, .int x4_11]) (rest := []) (w1 := (wd_Model k m_a m_limbs m_wide m_book m_images m_kept m_before m_refused m_quiet m_text m_typed m_at m_start m_token m_value m_items m_many m_is m_likes m_without m_onePicture m_oneYear m_first m_second m_names)) hA C me_X9_markOf hw_1206 (c_X9_markOf l D k m_a m_limbs m_wide m_book m_images m_kept m_before m_refused m_quiet m_text m_typed m_at m_start m_token m_value m_items m_many m_is m_likes m_without m_onePicture m_oneYear m_first m_second m_names p1 x4_11 u13 e14) dX9_parts_40 ⟨Nat.le_of_ble_eq_true rfl, Nat.le_of_ble_eq_true rfl⟩ ⟨Nat.zero_le _, Nat.zero_le _⟩ rfl rfl (Nat.le_of_ble_eq_true rfl) rfl rfl rfl ?_
        clear e14
        refine cx_iconst (v := (-1)) C dX9_parts_43 (by decide) ?_
        refine cx_icmp_eq (tgt := 62) C dX9_parts_44 (by decide) (fun c15 => ?_) (fun c15 => ?_)
        · have hf := cx_if_t hf c15
          clear c15
          exact J62 hf
        · have hf := cx_if_f hf c15
          clear c15
          refine cx_aload_n C dX9_parts_47 0 rfl ?_
          refine cx_iload_n C dX9_parts_48 2 rfl ?_
          refine cx_iload C dX9_parts_49 4 rfl ?_
          obtain ⟨u24, e25, hf⟩ := cx_bd_at hf
          refine cx_Fvi (q := (RX9, TX9, 24)) (As := [.int p2, .int x4_11]) (rest := []) (w1 := (wd_Model k m_a m_limbs m_wide m_book m_images m_kept m_before m_refused m_quiet m_text m_typed m_at m_start m_token m_value m_items m_many m_is m_likes m_without m_onePicture m_oneYear m_first m_second m_names)) hA C me_X9_markOf hw_1206 (c_X9_markOf l D k m_a m_limbs m_wide m_book m_images m_kept m_before m_refused m_quiet m_text m_typed m_at m_start m_token m_value m_items m_many m_is m_likes m_without m_onePicture m_oneYear m_first m_second m_names p2 x4_11 u24 e25) dX9_parts_51 ⟨Nat.le_of_ble_eq_true rfl, Nat.le_of_ble_eq_true rfl⟩ ⟨Nat.zero_le _, Nat.zero_le _⟩ rfl rfl (Nat.le_of_ble_eq_true rfl) rfl rfl rfl ?_
          clear e25
          refine cx_iconst (v := (-1)) C dX9_parts_54 (by decide) ?_
          refine cx_icmp_eq (tgt := 62) C dX9_parts_55 (by decide) (fun c26 => ?_) (fun c26 => ?_)
          · have hf := cx_if_t hf c26
            clear c26
            exact J62 hf
          · have hf := cx_if_f hf c26
            clear c26
            refine cx_iconst (v := 1) C dX9_parts_58 (by decide) ?_
            refine cx_goto (tgt := 63) C dX9_parts_59 (by decide) ?_
            exact J63 1 hf
  unfold f_X9_parts at hf
  refine cx_aload_n C dX9_parts_0 0 rfl ?_
  refine cx_iload_n C dX9_parts_1 1 rfl ?_
  obtain ⟨u1, e2, hf⟩ := cx_bd_at hf
  refine cx_Fvi (q := (RX9, TX9, 24)) (As := [.int p1]) (rest := []) (w1 := (wd_Model k m_a m_limbs m_wide m_book m_images m_kept m_before m_refused m_quiet m_text m_typed m_at m_start m_token m_value m_items m_many m_is m_likes m_without m_onePicture m_oneYear m_first m_second m_names)) hA C me_X9_isPerson hw_1153 (c_X9_isPerson l D k m_a m_limbs m_wide m_book m_images m_kept m_before m_refused m_quiet m_text m_typed m_at m_start m_token m_value m_items m_many m_is m_likes m_without m_onePicture m_oneYear m_first m_second m_names p1 u1 e2) dX9_parts_2 ⟨Nat.le_of_ble_eq_true rfl, Nat.le_of_ble_eq_true rfl⟩ ⟨Nat.zero_le _, Nat.zero_le _⟩ rfl rfl (Nat.le_of_ble_eq_true rfl) rfl rfl rfl ?_
  clear e2
  refine cx_if_eq (tgt := 21) C dX9_parts_5 (by decide) (fun c3 => ?_) (fun c3 => ?_)
  · have hf := cx_if_t hf c3
    clear c3
    refine cx_lv [0] rfl ?_
    exact J21 hf
  · have hf := cx_if_f hf c3
    clear c3
    refine cx_aload_n C dX9_parts_8 0 rfl ?_
    refine cx_iload_n C dX9_parts_9 2 rfl ?_
    obtain ⟨u6, e7, hf⟩ := cx_bd_at hf
    refine cx_Fvi (q := (RX9, TX9, 24)) (As := [.int p2]) (rest := []) (w1 := (wd_Model k m_a m_limbs m_wide m_book m_images m_kept m_before m_refused m_quiet m_text m_typed m_at m_start m_token m_value m_items m_many m_is m_likes m_without m_onePicture m_oneYear m_first m_second m_names)) hA C me_X9_isPerson hw_1153 (c_X9_isPerson l D k m_a m_limbs m_wide m_book m_images m_kept m_before m_refused m_quiet m_text m_typed m_at m_start m_token m_value m_items m_many m_is m_likes m_without m_onePicture m_oneYear m_first m_second m_names p2 u6 e7) dX9_parts_10 ⟨Nat.le_of_ble_eq_true rfl, Nat.le_of_ble_eq_true rfl⟩ ⟨Nat.zero_le _, Nat.zero_le _⟩ rfl rfl (Nat.le_of_ble_eq_true rfl) rfl rfl rfl ?_
    clear e7
    refine cx_if_eq (tgt := 21) C dX9_parts_13 (by decide) (fun c8 => ?_) (fun c8 => ?_)
    · have hf := cx_if_t hf c8
      clear c8
      refine cx_lv [0] rfl ?_
      exact J21 hf
    · have hf := cx_if_f hf c8
      clear c8
      refine cx_iload_n C dX9_parts_16 1 rfl ?_
      refine cx_iload_n C dX9_parts_17 2 rfl ?_
      refine cx_icmp_ne (tgt := 26) C dX9_parts_18 (by decide) (fun c9 => ?_) (fun c9 => ?_)
      · have hf := cx_if_f hf c9
        clear c9
        refine cx_iconst (v := (-1)) C dX9_parts_26 (by decide) ?_
        refine cx_istore_n (lv' := [(3, .int ((-1))), (0, .ref (m_a 0)), (1, .int p1), (2, .int p2)]) C dX9_parts_27 rfl (by decide) rfl ?_
        refine cx_iconst (v := 3) C dX9_parts_28 (by decide) ?_
        refine cx_istore (lv' := [(4, .int 3), (3, .int ((-1))), (0, .ref (m_a 0)), (1, .int p1), (2, .int p2)]) C dX9_parts_29 (by decide) rfl ?_
        refine cx_lv [2, 3, 4, 1, 0] rfl ?_
        exact L31 cx_N0 ((-1)) 3 hf
      · have hf := cx_if_t hf c9
        clear c9
        refine cx_lv [0] rfl ?_
        exact J21 hf
theorem dX9_doubt_0 : decode cX9_doubt 0 = .ok (.aload_n 0, 1) := by decide +kernel
theorem dX9_doubt_1 : decode cX9_doubt 1 = .ok (.iload_n 1, 1) := by decide +kernel
theorem dX9_doubt_2 : decode cX9_doubt 2 = .ok (.invokevirtual 106, 3) := by decide +kernel
theorem dX9_doubt_5 : decode cX9_doubt 5 = .ok (.ifCond .eq 16, 3) := by decide +kernel
theorem dX9_doubt_8 : decode cX9_doubt 8 = .ok (.aload_n 0, 1) := by decide +kernel
theorem dX9_doubt_9 : decode cX9_doubt 9 = .ok (.iload_n 2, 1) := by decide +kernel
theorem dX9_doubt_10 : decode cX9_doubt 10 = .ok (.invokevirtual 106, 3) := by decide +kernel
theorem dX9_doubt_13 : decode cX9_doubt 13 = .ok (.ifCond .eq 8, 3) := by decide +kernel
theorem dX9_doubt_16 : decode cX9_doubt 16 = .ok (.iload_n 1, 1) := by decide +kernel
theorem dX9_doubt_17 : decode cX9_doubt 17 = .ok (.iload_n 2, 1) := by decide +kernel
theorem dX9_doubt_18 : decode cX9_doubt 18 = .ok (.if_icmp .ne 8, 3) := by decide +kernel
theorem dX9_doubt_21 : decode cX9_doubt 21 = .ok (.aload_n 0, 1) := by decide +kernel
theorem dX9_doubt_22 : decode cX9_doubt 22 = .ok (.invokevirtual 99, 3) := by decide +kernel
theorem dX9_doubt_25 : decode cX9_doubt 25 = .ok (.ireturn, 1) := by decide +kernel
theorem dX9_doubt_26 : decode cX9_doubt 26 = .ok (.aload_n 0, 1) := by decide +kernel
theorem dX9_doubt_27 : decode cX9_doubt 27 = .ok (.invokevirtual 284, 3) := by decide +kernel
theorem dX9_doubt_30 : decode cX9_doubt 30 = .ok (.aload_n 0, 1) := by decide +kernel
theorem dX9_doubt_31 : decode cX9_doubt 31 = .ok (.iconst (-1), 1) := by decide +kernel
theorem dX9_doubt_32 : decode cX9_doubt 32 = .ok (.invokevirtual 287, 3) := by decide +kernel
theorem dX9_doubt_35 : decode cX9_doubt 35 = .ok (.aload_n 0, 1) := by decide +kernel
theorem dX9_doubt_36 : decode cX9_doubt 36 = .ok (.getfield 3, 3) := by decide +kernel
theorem dX9_doubt_39 : decode cX9_doubt 39 = .ok (.bipush 6, 2) := by decide +kernel
theorem dX9_doubt_41 : decode cX9_doubt 41 = .ok (.iaload, 1) := by decide +kernel
theorem dX9_doubt_42 : decode cX9_doubt 42 = .ok (.ifCond .ne 8, 3) := by decide +kernel
theorem dX9_doubt_45 : decode cX9_doubt 45 = .ok (.aload_n 0, 1) := by decide +kernel
theorem dX9_doubt_46 : decode cX9_doubt 46 = .ok (.invokevirtual 290, 3) := by decide +kernel
theorem dX9_doubt_49 : decode cX9_doubt 49 = .ok (.ireturn, 1) := by decide +kernel
theorem dX9_doubt_50 : decode cX9_doubt 50 = .ok (.iconst (-1), 1) := by decide +kernel
theorem dX9_doubt_51 : decode cX9_doubt 51 = .ok (.istore_n 3, 1) := by decide +kernel
theorem dX9_doubt_52 : decode cX9_doubt 52 = .ok (.aload_n 0, 1) := by decide +kernel
theorem dX9_doubt_53 : decode cX9_doubt 53 = .ok (.bipush 10, 2) := by decide +kernel
theorem dX9_doubt_55 : decode cX9_doubt 55 = .ok (.lconst 0, 1) := by decide +kernel
theorem dX9_doubt_56 : decode cX9_doubt 56 = .ok (.invokevirtual 16, 3) := by decide +kernel
theorem dX9_doubt_59 : decode cX9_doubt 59 = .ok (.iconst 0, 1) := by decide +kernel
theorem dX9_doubt_60 : decode cX9_doubt 60 = .ok (.istore 4, 2) := by decide +kernel
theorem dX9_doubt_62 : decode cX9_doubt 62 = .ok (.iload 4, 2) := by decide +kernel
theorem dX9_doubt_64 : decode cX9_doubt 64 = .ok (.aload_n 0, 1) := by decide +kernel
theorem dX9_doubt_65 : decode cX9_doubt 65 = .ok (.getfield 51, 3) := by decide +kernel
theorem dX9_doubt_68 : decode cX9_doubt 68 = .ok (.iconst 2, 1) := by decide +kernel
theorem dX9_doubt_69 : decode cX9_doubt 69 = .ok (.iaload, 1) := by decide +kernel
theorem dX9_doubt_70 : decode cX9_doubt 70 = .ok (.if_icmp .ge 83, 3) := by decide +kernel
theorem dX9_doubt_73 : decode cX9_doubt 73 = .ok (.aload_n 0, 1) := by decide +kernel
theorem dX9_doubt_74 : decode cX9_doubt 74 = .ok (.bipush 12, 2) := by decide +kernel
theorem dX9_doubt_76 : decode cX9_doubt 76 = .ok (.bipush 6, 2) := by decide +kernel
theorem dX9_doubt_78 : decode cX9_doubt 78 = .ok (.iload 4, 2) := by decide +kernel
theorem dX9_doubt_80 : decode cX9_doubt 80 = .ok (.imul, 1) := by decide +kernel
theorem dX9_doubt_81 : decode cX9_doubt 81 = .ok (.iadd, 1) := by decide +kernel
theorem dX9_doubt_82 : decode cX9_doubt 82 = .ok (.iload_n 1, 1) := by decide +kernel
theorem dX9_doubt_83 : decode cX9_doubt 83 = .ok (.iadd, 1) := by decide +kernel
theorem dX9_doubt_84 : decode cX9_doubt 84 = .ok (.bipush 12, 2) := by decide +kernel
theorem dX9_doubt_86 : decode cX9_doubt 86 = .ok (.bipush 6, 2) := by decide +kernel
theorem dX9_doubt_88 : decode cX9_doubt 88 = .ok (.iload 4, 2) := by decide +kernel
theorem dX9_doubt_90 : decode cX9_doubt 90 = .ok (.imul, 1) := by decide +kernel
theorem dX9_doubt_91 : decode cX9_doubt 91 = .ok (.iadd, 1) := by decide +kernel
theorem dX9_doubt_92 : decode cX9_doubt 92 = .ok (.iload_n 2, 1) := by decide +kernel
theorem dX9_doubt_93 : decode cX9_doubt 93 = .ok (.iadd, 1) := by decide +kernel
theorem dX9_doubt_94 : decode cX9_doubt 94 = .ok (.invokevirtual 32, 3) := by decide +kernel
theorem dX9_doubt_97 : decode cX9_doubt 97 = .ok (.ifCond .ge 7, 3) := by decide +kernel
theorem dX9_doubt_100 : decode cX9_doubt 100 = .ok (.iload_n 1, 1) := by decide +kernel
theorem dX9_doubt_101 : decode cX9_doubt 101 = .ok (.goto 4, 3) := by decide +kernel
theorem dX9_doubt_104 : decode cX9_doubt 104 = .ok (.iload_n 2, 1) := by decide +kernel
theorem dX9_doubt_105 : decode cX9_doubt 105 = .ok (.istore 5, 2) := by decide +kernel
theorem dX9_doubt_107 : decode cX9_doubt 107 = .ok (.aload_n 0, 1) := by decide +kernel
theorem dX9_doubt_108 : decode cX9_doubt 108 = .ok (.bipush 12, 2) := by decide +kernel
theorem dX9_doubt_110 : decode cX9_doubt 110 = .ok (.bipush 6, 2) := by decide +kernel
theorem dX9_doubt_112 : decode cX9_doubt 112 = .ok (.iload 4, 2) := by decide +kernel
theorem dX9_doubt_114 : decode cX9_doubt 114 = .ok (.imul, 1) := by decide +kernel
theorem dX9_doubt_115 : decode cX9_doubt 115 = .ok (.iadd, 1) := by decide +kernel
theorem dX9_doubt_116 : decode cX9_doubt 116 = .ok (.iload 5, 2) := by decide +kernel
theorem dX9_doubt_118 : decode cX9_doubt 118 = .ok (.iadd, 1) := by decide +kernel
theorem dX9_doubt_119 : decode cX9_doubt 119 = .ok (.bipush 10, 2) := by decide +kernel
theorem dX9_doubt_121 : decode cX9_doubt 121 = .ok (.invokevirtual 32, 3) := by decide +kernel
theorem dX9_doubt_124 : decode cX9_doubt 124 = .ok (.ifCond .le 23, 3) := by decide +kernel
theorem dX9_doubt_127 : decode cX9_doubt 127 = .ok (.aload_n 0, 1) := by decide +kernel
theorem dX9_doubt_128 : decode cX9_doubt 128 = .ok (.bipush 10, 2) := by decide +kernel
theorem dX9_doubt_130 : decode cX9_doubt 130 = .ok (.bipush 12, 2) := by decide +kernel
theorem dX9_doubt_132 : decode cX9_doubt 132 = .ok (.bipush 6, 2) := by decide +kernel
theorem dX9_doubt_134 : decode cX9_doubt 134 = .ok (.iload 4, 2) := by decide +kernel
theorem dX9_doubt_136 : decode cX9_doubt 136 = .ok (.imul, 1) := by decide +kernel
theorem dX9_doubt_137 : decode cX9_doubt 137 = .ok (.iadd, 1) := by decide +kernel
theorem dX9_doubt_138 : decode cX9_doubt 138 = .ok (.iload 5, 2) := by decide +kernel
theorem dX9_doubt_140 : decode cX9_doubt 140 = .ok (.iadd, 1) := by decide +kernel
theorem dX9_doubt_141 : decode cX9_doubt 141 = .ok (.invokevirtual 20, 3) := by decide +kernel
theorem dX9_doubt_144 : decode cX9_doubt 144 = .ok (.iload 4, 2) := by decide +kernel
theorem dX9_doubt_146 : decode cX9_doubt 146 = .ok (.istore_n 3, 1) := by decide +kernel
theorem dX9_doubt_147 : decode cX9_doubt 147 = .ok (.iinc 4 1, 3) := by decide +kernel
theorem dX9_doubt_150 : decode cX9_doubt 150 = .ok (.goto (-88), 3) := by decide +kernel
theorem dX9_doubt_153 : decode cX9_doubt 153 = .ok (.iload_n 3, 1) := by decide +kernel
theorem dX9_doubt_154 : decode cX9_doubt 154 = .ok (.ireturn, 1) := by decide +kernel
theorem me_X9_doubt : cx_Mv yX9_doubt cX9_doubt 6 (some .int) 2 := ⟨⟨⟨by decide +kernel, by decide +kernel, by decide +kernel⟩, hw_11, hw_1452⟩, hw_1450, hw_1451⟩
noncomputable def f_X9_doubt_J21 (m_limbs : Nat → Int32) (m_wide : Nat → Int32) (m_refused : Nat → Int32) (m_quiet : Int32) (m_is : Nat → Int32) (m_likes : Nat → Int32) (m_without : Int32) (m_onePicture : Int32) (m_first : Int32) : Option (Int32 × Int32 × Int32 × Int32 × (Nat → Int32) × (Nat → Int32) × (Nat → Int32) × (Nat → Int32) × (Nat → Int32)) := Option.bind (f_X9_bad m_refused m_quiet) (fun u4 => some ((u4.1, m_without, m_onePicture, m_first, m_limbs, m_wide, u4.2, m_is, m_likes)))
noncomputable def f_X9_doubt_J147 (x4_26 : Int32) (rc62 : (Nat → Int32) → (Nat → Int32) → Int32 → Int32 → Option (Int32 × Int32 × Int32 × Int32 × (Nat → Int32) × (Nat → Int32) × (Nat → Int32) × (Nat → Int32) × (Nat → Int32))) (a_36 : Nat → Int32) (a_37 : Nat → Int32) (x3_38 : Int32) : Option (Int32 × Int32 × Int32 × Int32 × (Nat → Int32) × (Nat → Int32) × (Nat → Int32) × (Nat → Int32) × (Nat → Int32)) := rc62 a_36 a_37 x3_38 (x4_26 + 1)
noncomputable def f_X9_doubt_J105 (a_21 : Nat → Int32) (a_22 : Nat → Int32) (x3_25 : Int32) (x4_26 : Int32) (rc62 : (Nat → Int32) → (Nat → Int32) → Int32 → Int32 → Option (Int32 × Int32 × Int32 × Int32 × (Nat → Int32) × (Nat → Int32) × (Nat → Int32) × (Nat → Int32) × (Nat → Int32))) (s0_32 : Int32) : Option (Int32 × Int32 × Int32 × Int32 × (Nat → Int32) × (Nat → Int32) × (Nat → Int32) × (Nat → Int32) × (Nat → Int32)) := Option.bind (f_X9_against a_21 a_22 ((12 + (6 * x4_26)) + s0_32) 10) (fun u33 => if u33 ≤ 0 then (f_X9_doubt_J147 x4_26 rc62 a_21 a_22 x3_25) else (Option.bind (f_X9_takes a_21 a_22 10 ((12 + (6 * x4_26)) + s0_32)) (fun u39 => f_X9_doubt_J147 x4_26 rc62 u39.1 u39.2 x4_26)))
noncomputable def f_X9_doubt_L62 (m_book : Nat → Int32) (m_refused : Nat → Int32) (p1 : Int32) (p2 : Int32) (h_18 : Int32) (h_19 : Int32) (h_20 : Int32) (a_23 : Nat → Int32) (a_24 : Nat → Int32) (rc62 : (Nat → Int32) → (Nat → Int32) → Int32 → Int32 → Option (Int32 × Int32 × Int32 × Int32 × (Nat → Int32) × (Nat → Int32) × (Nat → Int32) × (Nat → Int32) × (Nat → Int32))) (a_21 : Nat → Int32) (a_22 : Nat → Int32) (x3_25 : Int32) (x4_26 : Int32) : Option (Int32 × Int32 × Int32 × Int32 × (Nat → Int32) × (Nat → Int32) × (Nat → Int32) × (Nat → Int32) × (Nat → Int32)) := cx_gd (cx_ib 2 140) (if (m_book (cx_ix 2)) ≤ x4_26 then (some ((x3_25, h_18, h_19, h_20, a_21, a_22, m_refused, a_23, a_24))) else (Option.bind (f_X9_against a_21 a_22 ((12 + (6 * x4_26)) + p1) ((12 + (6 * x4_26)) + p2)) (fun u29 => if 0 ≤ u29 then (f_X9_doubt_J105 a_21 a_22 x3_25 x4_26 rc62 p2) else (f_X9_doubt_J105 a_21 a_22 x3_25 x4_26 rc62 p1))))
noncomputable def f_X9_doubt_L62w (m_book : Nat → Int32) (m_refused : Nat → Int32) (p1 : Int32) (p2 : Int32) (h_18 : Int32) (h_19 : Int32) (h_20 : Int32) (a_23 : Nat → Int32) (a_24 : Nat → Int32) (n : Nat) : (Nat → Int32) → (Nat → Int32) → Int32 → Int32 → Option (Int32 × Int32 × Int32 × Int32 × (Nat → Int32) × (Nat → Int32) × (Nat → Int32) × (Nat → Int32) × (Nat → Int32)) := Nat.rec (fun _ _ _ _ => none) (fun _ r => f_X9_doubt_L62 m_book m_refused p1 p2 h_18 h_19 h_20 a_23 a_24 r) n
noncomputable def f_X9_doubt (m_limbs : Nat → Int32) (m_wide : Nat → Int32) (m_book : Nat → Int32) (m_refused : Nat → Int32) (m_quiet : Int32) (m_is : Nat → Int32) (m_likes : Nat → Int32) (m_without : Int32) (m_onePicture : Int32) (m_oneYear : Int32) (m_first : Int32) (m_second : Int32) (p1 : Int32) (p2 : Int32) : Option (Int32 × Int32 × Int32 × Int32 × (Nat → Int32) × (Nat → Int32) × (Nat → Int32) × (Nat → Int32) × (Nat → Int32)) := Option.bind (f_X9_isPerson m_book p1) (fun u1 => if u1 = 0 then (f_X9_doubt_J21 m_limbs m_wide m_refused m_quiet m_is m_likes m_without m_onePicture m_first) else (Option.bind (f_X9_isPerson m_book p2) (fun u6 => if u6 = 0 then (f_X9_doubt_J21 m_limbs m_wide m_refused m_quiet m_is m_likes m_without m_onePicture m_first) else (if p1 = p2 then (f_X9_doubt_J21 m_limbs m_wide m_refused m_quiet m_is m_likes m_without m_onePicture m_first) else (Option.bind (f_X9_begins m_book m_likes) (fun u10 => Option.bind (f_X9_shares m_limbs m_wide m_book m_is u10.2.2.2 u10.1 u10.2.1 m_oneYear u10.2.2.1 m_second ((-1))) (fun u12 => cx_gd (cx_ib 6 270) (if (u12.2.1 (cx_ix 6)) = 0 then (Option.bind (f_X9_no m_refused m_quiet) (fun u41 => some ((u41.1, u10.1, u10.2.1, u10.2.2.1, u12.1, u12.2.1, u41.2, u12.2.2, u10.2.2.2)))) else (Option.bind (f_X9_sets u12.1 u12.2.1 10 0) (fun u16 => f_X9_doubt_L62w m_book m_refused p1 p2 u10.1 u10.2.1 u10.2.2.1 u12.2.2 u10.2.2.2 cx_N0 u16.1 u16.2 ((-1)) 0))))))))))
set_option maxHeartbeats 4000000 in
set_option maxRecDepth 100000 in
theorem c_X9_doubt (l : Launch) (D : va_G) (k : Nat → ClassId) (m_a : Nat → Nat) (m_limbs : Nat → Int32) (m_wide : Nat → Int32) (m_book : Nat → Int32) (m_images : Nat → Int32) (m_kept : Nat → Int32) (m_before : Nat → Int32) (m_refused : Nat → Int32) (m_quiet : Int32) (m_text : Nat → Int32) (m_typed : Int32) (m_at : Int32) (m_start : Int32) (m_token : Int32) (m_value : Int32) (m_items : Nat → Int32) (m_many : Int32) (m_is : Nat → Int32) (m_likes : Nat → Int32) (m_without : Int32) (m_onePicture : Int32) (m_oneYear : Int32) (m_first : Int32) (m_second : Int32) (m_names : Nat → Int32) (p1 : Int32) (p2 : Int32) (y : Int32 × Int32 × Int32 × Int32 × (Nat → Int32) × (Nat → Int32) × (Nat → Int32) × (Nat → Int32) × (Nat → Int32)) (hf : f_X9_doubt m_limbs m_wide m_book m_refused m_quiet m_is m_likes m_without m_onePicture m_oneYear m_first m_second p1 p2 = some y) : cx_M l yX9_doubt cX9_doubt 6 (some .int) 7 D k [.ref (m_a 0), .int p1, .int p2] (wd_Model k m_a m_limbs m_wide m_book m_images m_kept m_before m_refused m_quiet m_text m_typed m_at m_start m_token m_value m_items m_many m_is m_likes m_without m_onePicture m_oneYear m_first m_second m_names) (fun sz => cx_Qi D y.1 (wd_Model k m_a m_limbs m_wide m_book m_images m_kept m_before m_refused m_quiet m_text m_typed m_at m_start m_token m_value m_items m_many m_is m_likes m_without m_onePicture m_oneYear m_first m_second m_names) (wd_Model k m_a y.2.2.2.2.1 y.2.2.2.2.2.1 m_book m_images m_kept m_before y.2.2.2.2.2.2.1 m_quiet m_text m_typed m_at m_start m_token m_value m_items m_many y.2.2.2.2.2.2.2.1 y.2.2.2.2.2.2.2.2 y.2.1 y.2.2.1 m_oneYear y.2.2.2.1 m_second m_names) sz) := by
  refine cx_met (own := "NamelessBoxModel") (by decide) rfl (Nat.le_of_ble_eq_true rfl) ?_
  intro p e s m args below meth c A Q C hA hQ hr hlk
  refine cx_lv (lv' := [(0, .ref (m_a 0)), (1, .int p1), (2, .int p2)]) [0, 1, 2] rfl ?_
  have J21 : f_X9_doubt_J21 m_limbs m_wide m_refused m_quiet m_is m_likes m_without m_onePicture m_first = some y → cx_S p l e (cx_rm 7) s m args below meth c A D 6 0 0 Q 21 [(0, .ref (m_a 0))] [] (wd_Model k m_a m_limbs m_wide m_book m_images m_kept m_before m_refused m_quiet m_text m_typed m_at m_start m_token m_value m_items m_many m_is m_likes m_without m_onePicture m_oneYear m_first m_second m_names) := by
    intro  hf
    unfold f_X9_doubt_J21 at hf
    refine cx_aload_n C dX9_doubt_21 0 rfl ?_
    obtain ⟨u4, e5, hf⟩ := cx_bd_at hf
    refine cx_Fvi (q := (RX9, TX9, 24)) (As := []) (rest := []) (w1 := (wd_Model k m_a m_limbs m_wide m_book m_images m_kept m_before u4.2 m_quiet m_text m_typed m_at m_start m_token m_value m_items m_many m_is m_likes m_without m_onePicture m_oneYear m_first m_second m_names)) hA C me_X9_bad hw_1137 (c_X9_bad l D k m_a m_limbs m_wide m_book m_images m_kept m_before m_refused m_quiet m_text m_typed m_at m_start m_token m_value m_items m_many m_is m_likes m_without m_onePicture m_oneYear m_first m_second m_names u4 e5) dX9_doubt_22 ⟨Nat.le_of_ble_eq_true rfl, Nat.le_of_ble_eq_true rfl⟩ ⟨Nat.zero_le _, Nat.zero_le _⟩ rfl rfl (Nat.le_of_ble_eq_true rfl) rfl rfl rfl ?_
    clear e5
    obtain rfl := Option.some.inj hf
    exact cx_iret C hA hQ hr hlk dX9_doubt_25 rfl rfl
  have L62 : ∀ (h_18 : Int32) (h_19 : Int32) (h_20 : Int32) (a_23 : Nat → Int32) (a_24 : Nat → Int32) (n62 : Nat) (a_21 : Nat → Int32) (a_22 : Nat → Int32) (x3_25 : Int32) (x4_26 : Int32), f_X9_doubt_L62w m_book m_refused p1 p2 h_18 h_19 h_20 a_23 a_24 n62 a_21 a_22 x3_25 x4_26 = some y → cx_S p l e (cx_rm 7) s m args below meth c A D 6 0 0 Q 62 [(0, .ref (m_a 0)), (1, .int p1), (2, .int p2), (3, .int x3_25), (4, .int x4_26)] [] (wd_Model k m_a a_21 a_22 m_book m_images m_kept m_before m_refused m_quiet m_text m_typed m_at m_start m_token m_value m_items m_many a_23 a_24 h_18 h_19 m_oneYear h_20 m_second m_names) := by
    intro h_18 h_19 h_20 a_23 a_24 n62
    induction n62 with
    | zero =>
      intro a_21 a_22 x3_25 x4_26 hf
      exact absurd (show (none : Option (Int32 × Int32 × Int32 × Int32 × (Nat → Int32) × (Nat → Int32) × (Nat → Int32) × (Nat → Int32) × (Nat → Int32))) = some y from hf) (fun h => by cases h)
    | succ n62 ih62 =>
      intro a_21 a_22 x3_25 x4_26 hf
      have hf : f_X9_doubt_L62 m_book m_refused p1 p2 h_18 h_19 h_20 a_23 a_24 (f_X9_doubt_L62w m_book m_refused p1 p2 h_18 h_19 h_20 a_23 a_24 n62) a_21 a_22 x3_25 x4_26 = some y := hf
      have J147 : ∀ (a_36 : Nat → Int32) (a_37 : Nat → Int32) (x3_38 : Int32), f_X9_doubt_J147 x4_26 (f_X9_doubt_L62w m_book m_refused p1 p2 h_18 h_19 h_20 a_23 a_24 n62) a_36 a_37 x3_38 = some y → cx_S p l e (cx_rm 7) s m args below meth c A D 6 0 0 Q 147 [(0, .ref (m_a 0)), (1, .int p1), (2, .int p2), (3, .int x3_38), (4, .int x4_26)] [] (wd_Model k m_a a_36 a_37 m_book m_images m_kept m_before m_refused m_quiet m_text m_typed m_at m_start m_token m_value m_items m_many a_23 a_24 h_18 h_19 m_oneYear h_20 m_second m_names) := by
        intro a_36 a_37 x3_38 hf
        unfold f_X9_doubt_J147 at hf
        refine cx_iinc (v := x4_26 + 1) (lv' := [(4, .int (x4_26 + 1)), (0, .ref (m_a 0)), (1, .int p1), (2, .int p2), (3, .int x3_38)]) C dX9_doubt_147 4 rfl rfl (by decide) rfl ?_
        refine cx_goto (tgt := 62) C dX9_doubt_150 (by decide) ?_
        refine cx_lv [1, 2, 3, 4, 0] rfl ?_
        exact ih62 a_36 a_37 x3_38 (x4_26 + 1) hf
      have J105 : ∀ (s0_32 : Int32), f_X9_doubt_J105 a_21 a_22 x3_25 x4_26 (f_X9_doubt_L62w m_book m_refused p1 p2 h_18 h_19 h_20 a_23 a_24 n62) s0_32 = some y → cx_S p l e (cx_rm 7) s m args below meth c A D 6 0 0 Q 105 [(0, .ref (m_a 0)), (1, .int p1), (2, .int p2), (3, .int x3_25), (4, .int x4_26)] [.int s0_32] (wd_Model k m_a a_21 a_22 m_book m_images m_kept m_before m_refused m_quiet m_text m_typed m_at m_start m_token m_value m_items m_many a_23 a_24 h_18 h_19 m_oneYear h_20 m_second m_names) := by
        intro s0_32 hf
        unfold f_X9_doubt_J105 at hf
        refine cx_istore (lv' := [(5, .int s0_32), (0, .ref (m_a 0)), (1, .int p1), (2, .int p2), (3, .int x3_25), (4, .int x4_26)]) C dX9_doubt_105 (by decide) rfl ?_
        refine cx_aload_n C dX9_doubt_107 1 rfl ?_
        refine cx_bipush (v := 12) C dX9_doubt_108 (by decide) ?_
        refine cx_bipush (v := 6) C dX9_doubt_110 (by decide) ?_
        refine cx_iload C dX9_doubt_112 5 rfl ?_
        refine cx_imul C dX9_doubt_114 ?_
        refine cx_iadd C dX9_doubt_115 ?_
        refine cx_iload C dX9_doubt_116 0 rfl ?_
        refine cx_iadd C dX9_doubt_118 ?_
        refine cx_bipush (v := 10) C dX9_doubt_119 (by decide) ?_
        obtain ⟨u33, e34, hf⟩ := cx_bd_at hf
        refine cx_Fvi (q := (RX9, TX9, 24)) (As := [.int ((12 + (6 * x4_26)) + s0_32), .int 10]) (rest := []) (w1 := (wd_Model k m_a a_21 a_22 m_book m_images m_kept m_before m_refused m_quiet m_text m_typed m_at m_start m_token m_value m_items m_many a_23 a_24 h_18 h_19 m_oneYear h_20 m_second m_names)) hA C me_X9_against hw_1357 (c_X9_against l D k m_a a_21 a_22 m_book m_images m_kept m_before m_refused m_quiet m_text m_typed m_at m_start m_token m_value m_items m_many a_23 a_24 h_18 h_19 m_oneYear h_20 m_second m_names ((12 + (6 * x4_26)) + s0_32) 10 u33 e34) dX9_doubt_121 ⟨Nat.le_of_ble_eq_true rfl, Nat.le_of_ble_eq_true rfl⟩ ⟨Nat.zero_le _, Nat.zero_le _⟩ rfl rfl (Nat.le_of_ble_eq_true rfl) rfl rfl rfl ?_
        clear e34
        refine cx_if_le (tgt := 147) C dX9_doubt_124 (by decide) (fun c35 => ?_) (fun c35 => ?_)
        · have hf := cx_if_t hf c35
          clear c35
          refine cx_lv [1, 2, 3, 4, 5] rfl ?_
          exact J147 a_21 a_22 x3_25 hf
        · have hf := cx_if_f hf c35
          clear c35
          refine cx_aload_n C dX9_doubt_127 1 rfl ?_
          refine cx_bipush (v := 10) C dX9_doubt_128 (by decide) ?_
          refine cx_bipush (v := 12) C dX9_doubt_130 (by decide) ?_
          refine cx_bipush (v := 6) C dX9_doubt_132 (by decide) ?_
          refine cx_iload C dX9_doubt_134 5 rfl ?_
          refine cx_imul C dX9_doubt_136 ?_
          refine cx_iadd C dX9_doubt_137 ?_
          refine cx_iload C dX9_doubt_138 0 rfl ?_
          refine cx_iadd C dX9_doubt_140 ?_
          obtain ⟨u39, e40, hf⟩ := cx_bd_at hf
          refine cx_Fvv (q := (RX9, TX9, 24)) (As := [.int 10, .int ((12 + (6 * x4_26)) + s0_32)]) (rest := []) (w1 := (wd_Model k m_a u39.1 u39.2 m_book m_images m_kept m_before m_refused m_quiet m_text m_typed m_at m_start m_token m_value m_items m_many a_23 a_24 h_18 h_19 m_oneYear h_20 m_second m_names)) hA C me_X9_takes hw_1324 (c_X9_takes l D k m_a a_21 a_22 m_book m_images m_kept m_before m_refused m_quiet m_text m_typed m_at m_start m_token m_value m_items m_many a_23 a_24 h_18 h_19 m_oneYear h_20 m_second m_names 10 ((12 + (6 * x4_26)) + s0_32) u39 e40) dX9_doubt_141 ⟨Nat.le_of_ble_eq_true rfl, Nat.le_of_ble_eq_true rfl⟩ ⟨Nat.zero_le _, Nat.zero_le _⟩ rfl rfl (Nat.le_of_ble_eq_true rfl) rfl rfl rfl ?_
          clear e40
          refine cx_iload C dX9_doubt_144 5 rfl ?_
          refine cx_istore_n (lv' := [(3, .int x4_26), (5, .int s0_32), (0, .ref (m_a 0)), (1, .int p1), (2, .int p2), (4, .int x4_26)]) C dX9_doubt_146 rfl (by decide) rfl ?_
          refine cx_lv [2, 3, 4, 0, 5] rfl ?_
          exact J147 u39.1 u39.2 x4_26 hf
      unfold f_X9_doubt_L62 at hf
      refine cx_iload C dX9_doubt_62 4 rfl ?_
      refine cx_aload_n C dX9_doubt_64 0 rfl ?_
      refine cx_get (v := .ref (m_a 3)) (ci := 8) C iX9 dX9_doubt_65 0 rfl rfl 2 (by decide) hw_1056 rfl ?_
      refine cx_iconst (v := 2) C dX9_doubt_68 (by decide) ?_
      obtain ⟨g27, hf⟩ := cx_gd_at hf
      refine cx_iald C dX9_doubt_69 3 rfl (cx_ib_in g27) ?_
      clear g27
      refine cx_icmp_ge (tgt := 153) C dX9_doubt_70 (by decide) (fun c28 => ?_) (fun c28 => ?_)
      · have hf := cx_if_t hf c28
        clear c28
        refine cx_iload_n C dX9_doubt_153 3 rfl ?_
        obtain rfl := Option.some.inj hf
        exact cx_iret C hA hQ hr hlk dX9_doubt_154 rfl rfl
      · have hf := cx_if_f hf c28
        clear c28
        refine cx_aload_n C dX9_doubt_73 0 rfl ?_
        refine cx_bipush (v := 12) C dX9_doubt_74 (by decide) ?_
        refine cx_bipush (v := 6) C dX9_doubt_76 (by decide) ?_
        refine cx_iload C dX9_doubt_78 4 rfl ?_
        refine cx_imul C dX9_doubt_80 ?_
        refine cx_iadd C dX9_doubt_81 ?_
        refine cx_iload_n C dX9_doubt_82 1 rfl ?_
        refine cx_iadd C dX9_doubt_83 ?_
        refine cx_bipush (v := 12) C dX9_doubt_84 (by decide) ?_
        refine cx_bipush (v := 6) C dX9_doubt_86 (by decide) ?_
        refine cx_iload C dX9_doubt_88 4 rfl ?_
        refine cx_imul C dX9_doubt_90 ?_
        refine cx_iadd C dX9_doubt_91 ?_
        refine cx_iload_n C dX9_doubt_92 2 rfl ?_
        refine cx_iadd C dX9_doubt_93 ?_
        obtain ⟨u29, e30, hf⟩ := cx_bd_at hf
        refine cx_Fvi (q := (RX9, TX9, 24)) (As := [.int ((12 + (6 * x4_26)) + p1), .int ((12 + (6 * x4_26)) + p2)]) (rest := []) (w1 := (wd_Model k m_a a_21 a_22 m_book m_images m_kept m_before m_refused m_quiet m_text m_typed m_at m_start m_token m_value m_items m_many a_23 a_24 h_18 h_19 m_oneYear h_20 m_second m_names)) hA C me_X9_against hw_1357 (c_X9_against l D k m_a a_21 a_22 m_book m_images m_kept m_before m_refused m_quiet m_text m_typed m_at m_start m_token m_value m_items m_many a_23 a_24 h_18 h_19 m_oneYear h_20 m_second m_names ((12 + (6 * x4_26)) + p1) ((12 + (6 * x4_26)) + p2) u29 e30) dX9_doubt_94 ⟨Nat.le_of_ble_eq_true rfl, Nat.le_of_ble_eq_true rfl⟩ ⟨Nat.zero_le _, Nat.zero_le _⟩ rfl rfl (Nat.le_of_ble_eq_true rfl) rfl rfl rfl ?_
        clear e30
        refine cx_if_ge (tgt := 104) C dX9_doubt_97 (by decide) (fun c31 => ?_) (fun c31 => ?_)
        · have hf := cx_if_t hf c31
          clear c31
          refine cx_iload_n C dX9_doubt_104 2 rfl ?_
          exact J105 p2 hf
        · have hf := cx_if_f hf c31
          clear c31
          refine cx_iload_n C dX9_doubt_100 1 rfl ?_
          refine cx_goto (tgt := 105) C dX9_doubt_101 (by decide) ?_
          exact J105 p1 hf
  unfold f_X9_doubt at hf
  refine cx_aload_n C dX9_doubt_0 0 rfl ?_
  refine cx_iload_n C dX9_doubt_1 1 rfl ?_
  obtain ⟨u1, e2, hf⟩ := cx_bd_at hf
  refine cx_Fvi (q := (RX9, TX9, 24)) (As := [.int p1]) (rest := []) (w1 := (wd_Model k m_a m_limbs m_wide m_book m_images m_kept m_before m_refused m_quiet m_text m_typed m_at m_start m_token m_value m_items m_many m_is m_likes m_without m_onePicture m_oneYear m_first m_second m_names)) hA C me_X9_isPerson hw_1153 (c_X9_isPerson l D k m_a m_limbs m_wide m_book m_images m_kept m_before m_refused m_quiet m_text m_typed m_at m_start m_token m_value m_items m_many m_is m_likes m_without m_onePicture m_oneYear m_first m_second m_names p1 u1 e2) dX9_doubt_2 ⟨Nat.le_of_ble_eq_true rfl, Nat.le_of_ble_eq_true rfl⟩ ⟨Nat.zero_le _, Nat.zero_le _⟩ rfl rfl (Nat.le_of_ble_eq_true rfl) rfl rfl rfl ?_
  clear e2
  refine cx_if_eq (tgt := 21) C dX9_doubt_5 (by decide) (fun c3 => ?_) (fun c3 => ?_)
  · have hf := cx_if_t hf c3
    clear c3
    refine cx_lv [0] rfl ?_
    exact J21 hf
  · have hf := cx_if_f hf c3
    clear c3
    refine cx_aload_n C dX9_doubt_8 0 rfl ?_
    refine cx_iload_n C dX9_doubt_9 2 rfl ?_
    obtain ⟨u6, e7, hf⟩ := cx_bd_at hf
    refine cx_Fvi (q := (RX9, TX9, 24)) (As := [.int p2]) (rest := []) (w1 := (wd_Model k m_a m_limbs m_wide m_book m_images m_kept m_before m_refused m_quiet m_text m_typed m_at m_start m_token m_value m_items m_many m_is m_likes m_without m_onePicture m_oneYear m_first m_second m_names)) hA C me_X9_isPerson hw_1153 (c_X9_isPerson l D k m_a m_limbs m_wide m_book m_images m_kept m_before m_refused m_quiet m_text m_typed m_at m_start m_token m_value m_items m_many m_is m_likes m_without m_onePicture m_oneYear m_first m_second m_names p2 u6 e7) dX9_doubt_10 ⟨Nat.le_of_ble_eq_true rfl, Nat.le_of_ble_eq_true rfl⟩ ⟨Nat.zero_le _, Nat.zero_le _⟩ rfl rfl (Nat.le_of_ble_eq_true rfl) rfl rfl rfl ?_
    clear e7
    refine cx_if_eq (tgt := 21) C dX9_doubt_13 (by decide) (fun c8 => ?_) (fun c8 => ?_)
    · have hf := cx_if_t hf c8
      clear c8
      refine cx_lv [0] rfl ?_
      exact J21 hf
    · have hf := cx_if_f hf c8
      clear c8
      refine cx_iload_n C dX9_doubt_16 1 rfl ?_
      refine cx_iload_n C dX9_doubt_17 2 rfl ?_
      refine cx_icmp_ne (tgt := 26) C dX9_doubt_18 (by decide) (fun c9 => ?_) (fun c9 => ?_)
      · have hf := cx_if_f hf c9
        clear c9
        refine cx_aload_n C dX9_doubt_26 0 rfl ?_
        obtain ⟨u10, e11, hf⟩ := cx_bd_at hf
        refine cx_Fvv (q := (RX9, TX9, 24)) (As := []) (rest := []) (w1 := (wd_Model k m_a m_limbs m_wide m_book m_images m_kept m_before m_refused m_quiet m_text m_typed m_at m_start m_token m_value m_items m_many m_is u10.2.2.2 u10.1 u10.2.1 m_oneYear u10.2.2.1 m_second m_names)) hA C me_X9_begins hw_1284 (c_X9_begins l D k m_a m_limbs m_wide m_book m_images m_kept m_before m_refused m_quiet m_text m_typed m_at m_start m_token m_value m_items m_many m_is m_likes m_without m_onePicture m_oneYear m_first m_second m_names u10 e11) dX9_doubt_27 ⟨Nat.le_of_ble_eq_true rfl, Nat.le_of_ble_eq_true rfl⟩ ⟨Nat.zero_le _, Nat.zero_le _⟩ rfl rfl (Nat.le_of_ble_eq_true rfl) rfl rfl rfl ?_
        clear e11
        refine cx_aload_n C dX9_doubt_30 0 rfl ?_
        refine cx_iconst (v := (-1)) C dX9_doubt_31 (by decide) ?_
        obtain ⟨u12, e13, hf⟩ := cx_bd_at hf
        refine cx_Fvv (q := (RX9, TX9, 24)) (As := [.int ((-1))]) (rest := []) (w1 := (wd_Model k m_a u12.1 u12.2.1 m_book m_images m_kept m_before m_refused m_quiet m_text m_typed m_at m_start m_token m_value m_items m_many u12.2.2 u10.2.2.2 u10.1 u10.2.1 m_oneYear u10.2.2.1 m_second m_names)) hA C me_X9_shares hw_1288 (c_X9_shares l D k m_a m_limbs m_wide m_book m_images m_kept m_before m_refused m_quiet m_text m_typed m_at m_start m_token m_value m_items m_many m_is u10.2.2.2 u10.1 u10.2.1 m_oneYear u10.2.2.1 m_second m_names ((-1)) u12 e13) dX9_doubt_32 ⟨Nat.le_of_ble_eq_true rfl, Nat.le_of_ble_eq_true rfl⟩ ⟨Nat.zero_le _, Nat.zero_le _⟩ rfl rfl (Nat.le_of_ble_eq_true rfl) rfl rfl rfl ?_
        clear e13
        refine cx_aload_n C dX9_doubt_35 0 rfl ?_
        refine cx_get (v := .ref (m_a 2)) (ci := 8) C iX9 dX9_doubt_36 0 rfl rfl 1 (by decide) hw_1055 rfl ?_
        refine cx_bipush (v := 6) C dX9_doubt_39 (by decide) ?_
        obtain ⟨g14, hf⟩ := cx_gd_at hf
        refine cx_iald C dX9_doubt_41 2 rfl (cx_ib_in g14) ?_
        clear g14
        refine cx_if_ne (tgt := 50) C dX9_doubt_42 (by decide) (fun c15 => ?_) (fun c15 => ?_)
        · have hf := cx_if_f hf c15
          clear c15
          refine cx_iconst (v := (-1)) C dX9_doubt_50 (by decide) ?_
          refine cx_istore_n (lv' := [(3, .int ((-1))), (0, .ref (m_a 0)), (1, .int p1), (2, .int p2)]) C dX9_doubt_51 rfl (by decide) rfl ?_
          refine cx_aload_n C dX9_doubt_52 1 rfl ?_
          refine cx_bipush (v := 10) C dX9_doubt_53 (by decide) ?_
          refine cx_lconst (v := 0) C dX9_doubt_55 (by decide) ?_
          obtain ⟨u16, e17, hf⟩ := cx_bd_at hf
          refine cx_Fvv (q := (RX9, TX9, 24)) (As := [.int 10, .long 0]) (rest := []) (w1 := (wd_Model k m_a u16.1 u16.2 m_book m_images m_kept m_before m_refused m_quiet m_text m_typed m_at m_start m_token m_value m_items m_many u12.2.2 u10.2.2.2 u10.1 u10.2.1 m_oneYear u10.2.2.1 m_second m_names)) hA C me_X9_sets hw_1045 (c_X9_sets l D k m_a u12.1 u12.2.1 m_book m_images m_kept m_before m_refused m_quiet m_text m_typed m_at m_start m_token m_value m_items m_many u12.2.2 u10.2.2.2 u10.1 u10.2.1 m_oneYear u10.2.2.1 m_second m_names 10 0 u16 e17) dX9_doubt_56 ⟨Nat.le_of_ble_eq_true rfl, Nat.le_of_ble_eq_true rfl⟩ ⟨Nat.zero_le _, Nat.zero_le _⟩ rfl rfl (Nat.le_of_ble_eq_true rfl) rfl rfl rfl ?_
          clear e17
          refine cx_iconst (v := 0) C dX9_doubt_59 (by decide) ?_
          refine cx_istore (lv' := [(4, .int 0), (3, .int ((-1))), (0, .ref (m_a 0)), (1, .int p1), (2, .int p2)]) C dX9_doubt_60 (by decide) rfl ?_
          refine cx_lv [2, 3, 4, 1, 0] rfl ?_
          exact L62 u10.1 u10.2.1 u10.2.2.1 u12.2.2 u10.2.2.2 cx_N0 u16.1 u16.2 ((-1)) 0 hf
        · have hf := cx_if_t hf c15
          clear c15
          refine cx_aload_n C dX9_doubt_45 0 rfl ?_
          obtain ⟨u41, e42, hf⟩ := cx_bd_at hf
          refine cx_Fvi (q := (RX9, TX9, 24)) (As := []) (rest := []) (w1 := (wd_Model k m_a u12.1 u12.2.1 m_book m_images m_kept m_before u41.2 m_quiet m_text m_typed m_at m_start m_token m_value m_items m_many u12.2.2 u10.2.2.2 u10.1 u10.2.1 m_oneYear u10.2.2.1 m_second m_names)) hA C me_X9_no hw_1337 (c_X9_no l D k m_a u12.1 u12.2.1 m_book m_images m_kept m_before m_refused m_quiet m_text m_typed m_at m_start m_token m_value m_items m_many u12.2.2 u10.2.2.2 u10.1 u10.2.1 m_oneYear u10.2.2.1 m_second m_names u41 e42) dX9_doubt_46 ⟨Nat.le_of_ble_eq_true rfl, Nat.le_of_ble_eq_true rfl⟩ ⟨Nat.zero_le _, Nat.zero_le _⟩ rfl rfl (Nat.le_of_ble_eq_true rfl) rfl rfl rfl ?_
          clear e42
          obtain rfl := Option.some.inj hf
          exact cx_iret C hA hQ hr hlk dX9_doubt_49 rfl rfl
      · have hf := cx_if_t hf c9
        clear c9
        refine cx_lv [0] rfl ?_
        exact J21 hf
theorem dX9_rights_0 : decode cX9_rights 0 = .ok (.aload_n 0, 1) := by decide +kernel
theorem dX9_rights_1 : decode cX9_rights 1 = .ok (.iload_n 1, 1) := by decide +kernel
theorem dX9_rights_2 : decode cX9_rights 2 = .ok (.lconst 0, 1) := by decide +kernel
theorem dX9_rights_3 : decode cX9_rights 3 = .ok (.invokevirtual 16, 3) := by decide +kernel
theorem dX9_rights_6 : decode cX9_rights 6 = .ok (.iconst 0, 1) := by decide +kernel
theorem dX9_rights_7 : decode cX9_rights 7 = .ok (.istore_n 2, 1) := by decide +kernel
theorem dX9_rights_8 : decode cX9_rights 8 = .ok (.iload_n 2, 1) := by decide +kernel
theorem dX9_rights_9 : decode cX9_rights 9 = .ok (.aload_n 0, 1) := by decide +kernel
theorem dX9_rights_10 : decode cX9_rights 10 = .ok (.getfield 51, 3) := by decide +kernel
theorem dX9_rights_13 : decode cX9_rights 13 = .ok (.iconst 2, 1) := by decide +kernel
theorem dX9_rights_14 : decode cX9_rights 14 = .ok (.iaload, 1) := by decide +kernel
theorem dX9_rights_15 : decode cX9_rights 15 = .ok (.if_icmp .ge 27, 3) := by decide +kernel
theorem dX9_rights_18 : decode cX9_rights 18 = .ok (.aload_n 0, 1) := by decide +kernel
theorem dX9_rights_19 : decode cX9_rights 19 = .ok (.iload_n 1, 1) := by decide +kernel
theorem dX9_rights_20 : decode cX9_rights 20 = .ok (.bipush 12, 2) := by decide +kernel
theorem dX9_rights_22 : decode cX9_rights 22 = .ok (.bipush 6, 2) := by decide +kernel
theorem dX9_rights_24 : decode cX9_rights 24 = .ok (.iload_n 2, 1) := by decide +kernel
theorem dX9_rights_25 : decode cX9_rights 25 = .ok (.imul, 1) := by decide +kernel
theorem dX9_rights_26 : decode cX9_rights 26 = .ok (.iadd, 1) := by decide +kernel
theorem dX9_rights_27 : decode cX9_rights 27 = .ok (.aload_n 0, 1) := by decide +kernel
theorem dX9_rights_28 : decode cX9_rights 28 = .ok (.iload_n 2, 1) := by decide +kernel
theorem dX9_rights_29 : decode cX9_rights 29 = .ok (.invokevirtual 296, 3) := by decide +kernel
theorem dX9_rights_32 : decode cX9_rights 32 = .ok (.iadd, 1) := by decide +kernel
theorem dX9_rights_33 : decode cX9_rights 33 = .ok (.invokevirtual 278, 3) := by decide +kernel
theorem dX9_rights_36 : decode cX9_rights 36 = .ok (.iinc 2 1, 3) := by decide +kernel
theorem dX9_rights_39 : decode cX9_rights 39 = .ok (.goto (-31), 3) := by decide +kernel
theorem dX9_rights_42 : decode cX9_rights 42 = .ok (.return_, 1) := by decide +kernel
theorem me_X9_rights : cx_Mv yX9_rights cX9_rights 3 none 1 := ⟨⟨⟨by decide +kernel, by decide +kernel, by decide +kernel⟩, hw_11, hw_1460⟩, hw_1459, hs_82⟩
noncomputable def f_X9_rights_L8 (m_book : Nat → Int32) (p1 : Int32) (rc8 : (Nat → Int32) → (Nat → Int32) → Int32 → Option ((Nat → Int32) × (Nat → Int32))) (a_3 : Nat → Int32) (a_4 : Nat → Int32) (x2_5 : Int32) : Option ((Nat → Int32) × (Nat → Int32)) := cx_gd (cx_ib 2 140) (if (m_book (cx_ix 2)) ≤ x2_5 then (some ((a_3, a_4))) else (Option.bind (f_X9_namedNow a_3 a_4 m_book x2_5) (fun u8 => Option.bind (f_X9_adds a_3 a_4 p1 ((12 + (6 * x2_5)) + u8)) (fun u10 => rc8 u10.1 u10.2 (x2_5 + 1)))))
noncomputable def f_X9_rights_L8w (m_book : Nat → Int32) (p1 : Int32) (n : Nat) : (Nat → Int32) → (Nat → Int32) → Int32 → Option ((Nat → Int32) × (Nat → Int32)) := Nat.rec (fun _ _ _ => none) (fun _ r => f_X9_rights_L8 m_book p1 r) n
noncomputable def f_X9_rights (m_limbs : Nat → Int32) (m_wide : Nat → Int32) (m_book : Nat → Int32) (p1 : Int32) : Option ((Nat → Int32) × (Nat → Int32)) := Option.bind (f_X9_sets m_limbs m_wide p1 0) (fun u1 => f_X9_rights_L8w m_book p1 cx_N0 u1.1 u1.2 0)
set_option maxHeartbeats 4000000 in
set_option maxRecDepth 100000 in
theorem c_X9_rights (l : Launch) (D : va_G) (k : Nat → ClassId) (m_a : Nat → Nat) (m_limbs : Nat → Int32) (m_wide : Nat → Int32) (m_book : Nat → Int32) (m_images : Nat → Int32) (m_kept : Nat → Int32) (m_before : Nat → Int32) (m_refused : Nat → Int32) (m_quiet : Int32) (m_text : Nat → Int32) (m_typed : Int32) (m_at : Int32) (m_start : Int32) (m_token : Int32) (m_value : Int32) (m_items : Nat → Int32) (m_many : Int32) (m_is : Nat → Int32) (m_likes : Nat → Int32) (m_without : Int32) (m_onePicture : Int32) (m_oneYear : Int32) (m_first : Int32) (m_second : Int32) (m_names : Nat → Int32) (p1 : Int32) (y : (Nat → Int32) × (Nat → Int32)) (hf : f_X9_rights m_limbs m_wide m_book p1 = some y) : cx_M l yX9_rights cX9_rights 3 none 3 D k [.ref (m_a 0), .int p1] (wd_Model k m_a m_limbs m_wide m_book m_images m_kept m_before m_refused m_quiet m_text m_typed m_at m_start m_token m_value m_items m_many m_is m_likes m_without m_onePicture m_oneYear m_first m_second m_names) (fun sz => cx_Qv D (wd_Model k m_a m_limbs m_wide m_book m_images m_kept m_before m_refused m_quiet m_text m_typed m_at m_start m_token m_value m_items m_many m_is m_likes m_without m_onePicture m_oneYear m_first m_second m_names) (wd_Model k m_a y.1 y.2 m_book m_images m_kept m_before m_refused m_quiet m_text m_typed m_at m_start m_token m_value m_items m_many m_is m_likes m_without m_onePicture m_oneYear m_first m_second m_names) sz) := by
  refine cx_met (own := "NamelessBoxModel") (by decide) rfl (Nat.le_of_ble_eq_true rfl) ?_
  intro p e s m args below meth c A Q C hA hQ hr hlk
  refine cx_lv (lv' := [(0, .ref (m_a 0)), (1, .int p1)]) [0, 1] rfl ?_
  have L8 : ∀ (n8 : Nat) (a_3 : Nat → Int32) (a_4 : Nat → Int32) (x2_5 : Int32), f_X9_rights_L8w m_book p1 n8 a_3 a_4 x2_5 = some y → cx_S p l e (cx_rm 3) s m args below meth c A D 3 0 0 Q 8 [(0, .ref (m_a 0)), (1, .int p1), (2, .int x2_5)] [] (wd_Model k m_a a_3 a_4 m_book m_images m_kept m_before m_refused m_quiet m_text m_typed m_at m_start m_token m_value m_items m_many m_is m_likes m_without m_onePicture m_oneYear m_first m_second m_names) := by
    intro  n8
    induction n8 with
    | zero =>
      intro a_3 a_4 x2_5 hf
      exact absurd (show (none : Option ((Nat → Int32) × (Nat → Int32))) = some y from hf) (fun h => by cases h)
    | succ n8 ih8 =>
      intro a_3 a_4 x2_5 hf
      have hf : f_X9_rights_L8 m_book p1 (f_X9_rights_L8w m_book p1 n8) a_3 a_4 x2_5 = some y := hf
      unfold f_X9_rights_L8 at hf
      refine cx_iload_n C dX9_rights_8 2 rfl ?_
      refine cx_aload_n C dX9_rights_9 0 rfl ?_
      refine cx_get (v := .ref (m_a 3)) (ci := 8) C iX9 dX9_rights_10 0 rfl rfl 2 (by decide) hw_1056 rfl ?_
      refine cx_iconst (v := 2) C dX9_rights_13 (by decide) ?_
      obtain ⟨g6, hf⟩ := cx_gd_at hf
      refine cx_iald C dX9_rights_14 3 rfl (cx_ib_in g6) ?_
      clear g6
      refine cx_icmp_ge (tgt := 42) C dX9_rights_15 (by decide) (fun c7 => ?_) (fun c7 => ?_)
      · have hf := cx_if_t hf c7
        clear c7
        obtain rfl := Option.some.inj hf
        exact cx_vret C hA hQ hr hlk dX9_rights_42 rfl
      · have hf := cx_if_f hf c7
        clear c7
        refine cx_aload_n C dX9_rights_18 0 rfl ?_
        refine cx_iload_n C dX9_rights_19 1 rfl ?_
        refine cx_bipush (v := 12) C dX9_rights_20 (by decide) ?_
        refine cx_bipush (v := 6) C dX9_rights_22 (by decide) ?_
        refine cx_iload_n C dX9_rights_24 2 rfl ?_
        refine cx_imul C dX9_rights_25 ?_
        refine cx_iadd C dX9_rights_26 ?_
        refine cx_aload_n C dX9_rights_27 0 rfl ?_
        refine cx_iload_n C dX9_rights_28 2 rfl ?_
        obtain ⟨u8, e9, hf⟩ := cx_bd_at hf
        refine cx_Fvi (q := (RX9, TX9, 24)) (As := [.int x2_5]) (rest := [.int (12 + (6 * x2_5)), .int p1, .ref (m_a 0)]) (w1 := (wd_Model k m_a a_3 a_4 m_book m_images m_kept m_before m_refused m_quiet m_text m_typed m_at m_start m_token m_value m_items m_many m_is m_likes m_without m_onePicture m_oneYear m_first m_second m_names)) hA C me_X9_namedNow hw_1373 (c_X9_namedNow l D k m_a a_3 a_4 m_book m_images m_kept m_before m_refused m_quiet m_text m_typed m_at m_start m_token m_value m_items m_many m_is m_likes m_without m_onePicture m_oneYear m_first m_second m_names x2_5 u8 e9) dX9_rights_29 ⟨Nat.le_of_ble_eq_true rfl, Nat.le_of_ble_eq_true rfl⟩ ⟨Nat.zero_le _, Nat.zero_le _⟩ rfl rfl (Nat.le_of_ble_eq_true rfl) rfl rfl rfl ?_
        clear e9
        refine cx_iadd C dX9_rights_32 ?_
        obtain ⟨u10, e11, hf⟩ := cx_bd_at hf
        refine cx_Fvv (q := (RX9, TX9, 24)) (As := [.int p1, .int ((12 + (6 * x2_5)) + u8)]) (rest := []) (w1 := (wd_Model k m_a u10.1 u10.2 m_book m_images m_kept m_before m_refused m_quiet m_text m_typed m_at m_start m_token m_value m_items m_many m_is m_likes m_without m_onePicture m_oneYear m_first m_second m_names)) hA C me_X9_adds hw_1332 (c_X9_adds l D k m_a a_3 a_4 m_book m_images m_kept m_before m_refused m_quiet m_text m_typed m_at m_start m_token m_value m_items m_many m_is m_likes m_without m_onePicture m_oneYear m_first m_second m_names p1 ((12 + (6 * x2_5)) + u8) u10 e11) dX9_rights_33 ⟨Nat.le_of_ble_eq_true rfl, Nat.le_of_ble_eq_true rfl⟩ ⟨Nat.zero_le _, Nat.zero_le _⟩ rfl rfl (Nat.le_of_ble_eq_true rfl) rfl rfl rfl ?_
        clear e11
        refine cx_iinc (v := x2_5 + 1) (lv' := [(2, .int (x2_5 + 1)), (0, .ref (m_a 0)), (1, .int p1)]) C dX9_rights_36 2 rfl rfl (by decide) rfl ?_
        refine cx_goto (tgt := 8) C dX9_rights_39 (by decide) ?_
        refine cx_lv [1, 2, 0] rfl ?_
        exact ih8 u10.1 u10.2 (x2_5 + 1) hf
  unfold f_X9_rights at hf
  refine cx_aload_n C dX9_rights_0 0 rfl ?_
  refine cx_iload_n C dX9_rights_1 1 rfl ?_
  refine cx_lconst (v := 0) C dX9_rights_2 (by decide) ?_
  obtain ⟨u1, e2, hf⟩ := cx_bd_at hf
  refine cx_Fvv (q := (RX9, TX9, 24)) (As := [.int p1, .long 0]) (rest := []) (w1 := (wd_Model k m_a u1.1 u1.2 m_book m_images m_kept m_before m_refused m_quiet m_text m_typed m_at m_start m_token m_value m_items m_many m_is m_likes m_without m_onePicture m_oneYear m_first m_second m_names)) hA C me_X9_sets hw_1045 (c_X9_sets l D k m_a m_limbs m_wide m_book m_images m_kept m_before m_refused m_quiet m_text m_typed m_at m_start m_token m_value m_items m_many m_is m_likes m_without m_onePicture m_oneYear m_first m_second m_names p1 0 u1 e2) dX9_rights_3 ⟨Nat.le_of_ble_eq_true rfl, Nat.le_of_ble_eq_true rfl⟩ ⟨Nat.zero_le _, Nat.zero_le _⟩ rfl rfl (Nat.le_of_ble_eq_true rfl) rfl rfl rfl ?_
  clear e2
  refine cx_iconst (v := 0) C dX9_rights_6 (by decide) ?_
  refine cx_istore_n (lv' := [(2, .int 0), (0, .ref (m_a 0)), (1, .int p1)]) C dX9_rights_7 rfl (by decide) rfl ?_
  refine cx_lv [1, 2, 0] rfl ?_
  exact L8 cx_N0 u1.1 u1.2 0 hf
theorem dX9_right_0 : decode cX9_right 0 = .ok (.aload_n 0, 1) := by decide +kernel
theorem dX9_right_1 : decode cX9_right 1 = .ok (.invokevirtual 284, 3) := by decide +kernel
theorem dX9_right_4 : decode cX9_right 4 = .ok (.aload_n 0, 1) := by decide +kernel
theorem dX9_right_5 : decode cX9_right 5 = .ok (.iconst (-1), 1) := by decide +kernel
theorem dX9_right_6 : decode cX9_right 6 = .ok (.invokevirtual 287, 3) := by decide +kernel
theorem dX9_right_9 : decode cX9_right 9 = .ok (.aload_n 0, 1) := by decide +kernel
theorem dX9_right_10 : decode cX9_right 10 = .ok (.getfield 3, 3) := by decide +kernel
theorem dX9_right_13 : decode cX9_right 13 = .ok (.bipush 6, 2) := by decide +kernel
theorem dX9_right_15 : decode cX9_right 15 = .ok (.iaload, 1) := by decide +kernel
theorem dX9_right_16 : decode cX9_right 16 = .ok (.ifCond .ne 8, 3) := by decide +kernel
theorem dX9_right_19 : decode cX9_right 19 = .ok (.aload_n 0, 1) := by decide +kernel
theorem dX9_right_20 : decode cX9_right 20 = .ok (.invokevirtual 290, 3) := by decide +kernel
theorem dX9_right_23 : decode cX9_right 23 = .ok (.ireturn, 1) := by decide +kernel
theorem dX9_right_24 : decode cX9_right 24 = .ok (.aload_n 0, 1) := by decide +kernel
theorem dX9_right_25 : decode cX9_right 25 = .ok (.bipush 7, 2) := by decide +kernel
theorem dX9_right_27 : decode cX9_right 27 = .ok (.invokevirtual 313, 3) := by decide +kernel
theorem dX9_right_30 : decode cX9_right 30 = .ok (.aload_n 0, 1) := by decide +kernel
theorem dX9_right_31 : decode cX9_right 31 = .ok (.invokevirtual 293, 3) := by decide +kernel
theorem dX9_right_34 : decode cX9_right 34 = .ok (.ireturn, 1) := by decide +kernel
theorem me_X9_right : cx_Mv yX9_right cX9_right 1 (some .int) 0 := ⟨⟨⟨by decide +kernel, by decide +kernel, by decide +kernel⟩, hw_11, hw_1456⟩, hw_1454, hw_1455⟩
noncomputable def f_X9_right (m_limbs : Nat → Int32) (m_wide : Nat → Int32) (m_book : Nat → Int32) (m_refused : Nat → Int32) (m_quiet : Int32) (m_is : Nat → Int32) (m_likes : Nat → Int32) (m_oneYear : Int32) (m_second : Int32) : Option (Int32 × Int32 × Int32 × Int32 × (Nat → Int32) × (Nat → Int32) × (Nat → Int32) × (Nat → Int32) × (Nat → Int32)) := Option.bind (f_X9_begins m_book m_likes) (fun u1 => Option.bind (f_X9_shares m_limbs m_wide m_book m_is u1.2.2.2 u1.1 u1.2.1 m_oneYear u1.2.2.1 m_second ((-1))) (fun u3 => cx_gd (cx_ib 6 270) (if (u3.2.1 (cx_ix 6)) = 0 then (Option.bind (f_X9_no m_refused m_quiet) (fun u11 => some ((u11.1, u1.1, u1.2.1, u1.2.2.1, u3.1, u3.2.1, u11.2, u3.2.2, u1.2.2.2)))) else (Option.bind (f_X9_rights u3.1 u3.2.1 m_book 7) (fun u7 => Option.bind (f_X9_tellsHit u7.1 u7.2) (fun u9 => some ((u9.1, u1.1, u1.2.1, u1.2.2.1, u9.2.1, u9.2.2, m_refused, u3.2.2, u1.2.2.2))))))))
set_option maxHeartbeats 4000000 in
set_option maxRecDepth 100000 in
theorem c_X9_right (l : Launch) (D : va_G) (k : Nat → ClassId) (m_a : Nat → Nat) (m_limbs : Nat → Int32) (m_wide : Nat → Int32) (m_book : Nat → Int32) (m_images : Nat → Int32) (m_kept : Nat → Int32) (m_before : Nat → Int32) (m_refused : Nat → Int32) (m_quiet : Int32) (m_text : Nat → Int32) (m_typed : Int32) (m_at : Int32) (m_start : Int32) (m_token : Int32) (m_value : Int32) (m_items : Nat → Int32) (m_many : Int32) (m_is : Nat → Int32) (m_likes : Nat → Int32) (m_without : Int32) (m_onePicture : Int32) (m_oneYear : Int32) (m_first : Int32) (m_second : Int32) (m_names : Nat → Int32) (y : Int32 × Int32 × Int32 × Int32 × (Nat → Int32) × (Nat → Int32) × (Nat → Int32) × (Nat → Int32) × (Nat → Int32)) (hf : f_X9_right m_limbs m_wide m_book m_refused m_quiet m_is m_likes m_oneYear m_second = some y) : cx_M l yX9_right cX9_right 1 (some .int) 7 D k [.ref (m_a 0)] (wd_Model k m_a m_limbs m_wide m_book m_images m_kept m_before m_refused m_quiet m_text m_typed m_at m_start m_token m_value m_items m_many m_is m_likes m_without m_onePicture m_oneYear m_first m_second m_names) (fun sz => cx_Qi D y.1 (wd_Model k m_a m_limbs m_wide m_book m_images m_kept m_before m_refused m_quiet m_text m_typed m_at m_start m_token m_value m_items m_many m_is m_likes m_without m_onePicture m_oneYear m_first m_second m_names) (wd_Model k m_a y.2.2.2.2.1 y.2.2.2.2.2.1 m_book m_images m_kept m_before y.2.2.2.2.2.2.1 m_quiet m_text m_typed m_at m_start m_token m_value m_items m_many y.2.2.2.2.2.2.2.1 y.2.2.2.2.2.2.2.2 y.2.1 y.2.2.1 m_oneYear y.2.2.2.1 m_second m_names) sz) := by
  refine cx_met (own := "NamelessBoxModel") (by decide) rfl (Nat.le_of_ble_eq_true rfl) ?_
  intro p e s m args below meth c A Q C hA hQ hr hlk
  refine cx_lv (lv' := [(0, .ref (m_a 0))]) [0] rfl ?_
  unfold f_X9_right at hf
  refine cx_aload_n C dX9_right_0 0 rfl ?_
  obtain ⟨u1, e2, hf⟩ := cx_bd_at hf
  refine cx_Fvv (q := (RX9, TX9, 24)) (As := []) (rest := []) (w1 := (wd_Model k m_a m_limbs m_wide m_book m_images m_kept m_before m_refused m_quiet m_text m_typed m_at m_start m_token m_value m_items m_many m_is u1.2.2.2 u1.1 u1.2.1 m_oneYear u1.2.2.1 m_second m_names)) hA C me_X9_begins hw_1284 (c_X9_begins l D k m_a m_limbs m_wide m_book m_images m_kept m_before m_refused m_quiet m_text m_typed m_at m_start m_token m_value m_items m_many m_is m_likes m_without m_onePicture m_oneYear m_first m_second m_names u1 e2) dX9_right_1 ⟨Nat.le_of_ble_eq_true rfl, Nat.le_of_ble_eq_true rfl⟩ ⟨Nat.zero_le _, Nat.zero_le _⟩ rfl rfl (Nat.le_of_ble_eq_true rfl) rfl rfl rfl ?_
  clear e2
  refine cx_aload_n C dX9_right_4 0 rfl ?_
  refine cx_iconst (v := (-1)) C dX9_right_5 (by decide) ?_
  obtain ⟨u3, e4, hf⟩ := cx_bd_at hf
  refine cx_Fvv (q := (RX9, TX9, 24)) (As := [.int ((-1))]) (rest := []) (w1 := (wd_Model k m_a u3.1 u3.2.1 m_book m_images m_kept m_before m_refused m_quiet m_text m_typed m_at m_start m_token m_value m_items m_many u3.2.2 u1.2.2.2 u1.1 u1.2.1 m_oneYear u1.2.2.1 m_second m_names)) hA C me_X9_shares hw_1288 (c_X9_shares l D k m_a m_limbs m_wide m_book m_images m_kept m_before m_refused m_quiet m_text m_typed m_at m_start m_token m_value m_items m_many m_is u1.2.2.2 u1.1 u1.2.1 m_oneYear u1.2.2.1 m_second m_names ((-1)) u3 e4) dX9_right_6 ⟨Nat.le_of_ble_eq_true rfl, Nat.le_of_ble_eq_true rfl⟩ ⟨Nat.zero_le _, Nat.zero_le _⟩ rfl rfl (Nat.le_of_ble_eq_true rfl) rfl rfl rfl ?_
  clear e4
  refine cx_aload_n C dX9_right_9 0 rfl ?_
  refine cx_get (v := .ref (m_a 2)) (ci := 8) C iX9 dX9_right_10 0 rfl rfl 1 (by decide) hw_1055 rfl ?_
  refine cx_bipush (v := 6) C dX9_right_13 (by decide) ?_
  obtain ⟨g5, hf⟩ := cx_gd_at hf
  refine cx_iald C dX9_right_15 2 rfl (cx_ib_in g5) ?_
  clear g5
  refine cx_if_ne (tgt := 24) C dX9_right_16 (by decide) (fun c6 => ?_) (fun c6 => ?_)
  · have hf := cx_if_f hf c6
    clear c6
    refine cx_aload_n C dX9_right_24 0 rfl ?_
    refine cx_bipush (v := 7) C dX9_right_25 (by decide) ?_
    obtain ⟨u7, e8, hf⟩ := cx_bd_at hf
    refine cx_Fvv (q := (RX9, TX9, 24)) (As := [.int 7]) (rest := []) (w1 := (wd_Model k m_a u7.1 u7.2 m_book m_images m_kept m_before m_refused m_quiet m_text m_typed m_at m_start m_token m_value m_items m_many u3.2.2 u1.2.2.2 u1.1 u1.2.1 m_oneYear u1.2.2.1 m_second m_names)) hA C me_X9_rights hw_1457 (c_X9_rights l D k m_a u3.1 u3.2.1 m_book m_images m_kept m_before m_refused m_quiet m_text m_typed m_at m_start m_token m_value m_items m_many u3.2.2 u1.2.2.2 u1.1 u1.2.1 m_oneYear u1.2.2.1 m_second m_names 7 u7 e8) dX9_right_27 ⟨Nat.le_of_ble_eq_true rfl, Nat.le_of_ble_eq_true rfl⟩ ⟨Nat.zero_le _, Nat.zero_le _⟩ rfl rfl (Nat.le_of_ble_eq_true rfl) rfl rfl rfl ?_
    clear e8
    refine cx_aload_n C dX9_right_30 0 rfl ?_
    obtain ⟨u9, e10, hf⟩ := cx_bd_at hf
    refine cx_Fvi (q := (RX9, TX9, 24)) (As := []) (rest := []) (w1 := (wd_Model k m_a u9.2.1 u9.2.2 m_book m_images m_kept m_before m_refused m_quiet m_text m_typed m_at m_start m_token m_value m_items m_many u3.2.2 u1.2.2.2 u1.1 u1.2.1 m_oneYear u1.2.2.1 m_second m_names)) hA C me_X9_tellsHit hw_1341 (c_X9_tellsHit l D k m_a u7.1 u7.2 m_book m_images m_kept m_before m_refused m_quiet m_text m_typed m_at m_start m_token m_value m_items m_many u3.2.2 u1.2.2.2 u1.1 u1.2.1 m_oneYear u1.2.2.1 m_second m_names u9 e10) dX9_right_31 ⟨Nat.le_of_ble_eq_true rfl, Nat.le_of_ble_eq_true rfl⟩ ⟨Nat.zero_le _, Nat.zero_le _⟩ rfl rfl (Nat.le_of_ble_eq_true rfl) rfl rfl rfl ?_
    clear e10
    obtain rfl := Option.some.inj hf
    exact cx_iret C hA hQ hr hlk dX9_right_34 rfl rfl
  · have hf := cx_if_t hf c6
    clear c6
    refine cx_aload_n C dX9_right_19 0 rfl ?_
    obtain ⟨u11, e12, hf⟩ := cx_bd_at hf
    refine cx_Fvi (q := (RX9, TX9, 24)) (As := []) (rest := []) (w1 := (wd_Model k m_a u3.1 u3.2.1 m_book m_images m_kept m_before u11.2 m_quiet m_text m_typed m_at m_start m_token m_value m_items m_many u3.2.2 u1.2.2.2 u1.1 u1.2.1 m_oneYear u1.2.2.1 m_second m_names)) hA C me_X9_no hw_1337 (c_X9_no l D k m_a u3.1 u3.2.1 m_book m_images m_kept m_before m_refused m_quiet m_text m_typed m_at m_start m_token m_value m_items m_many u3.2.2 u1.2.2.2 u1.1 u1.2.1 m_oneYear u1.2.2.1 m_second m_names u11 e12) dX9_right_20 ⟨Nat.le_of_ble_eq_true rfl, Nat.le_of_ble_eq_true rfl⟩ ⟨Nat.zero_le _, Nat.zero_le _⟩ rfl rfl (Nat.le_of_ble_eq_true rfl) rfl rfl rfl ?_
    clear e12
    obtain rfl := Option.some.inj hf
    exact cx_iret C hA hQ hr hlk dX9_right_23 rfl rfl
theorem dX9_truthAbout_0 : decode cX9_truthAbout 0 = .ok (.iload_n 1, 1) := by decide +kernel
theorem dX9_truthAbout_1 : decode cX9_truthAbout 1 = .ok (.iconst 5, 1) := by decide +kernel
theorem dX9_truthAbout_2 : decode cX9_truthAbout 2 = .ok (.if_icmp .ne 8, 3) := by decide +kernel
theorem dX9_truthAbout_5 : decode cX9_truthAbout 5 = .ok (.bipush 6, 2) := by decide +kernel
theorem dX9_truthAbout_7 : decode cX9_truthAbout 7 = .ok (.goto 11, 3) := by decide +kernel
theorem dX9_truthAbout_10 : decode cX9_truthAbout 10 = .ok (.iconst 5, 1) := by decide +kernel
theorem dX9_truthAbout_11 : decode cX9_truthAbout 11 = .ok (.aload_n 0, 1) := by decide +kernel
theorem dX9_truthAbout_12 : decode cX9_truthAbout 12 = .ok (.iload_n 1, 1) := by decide +kernel
theorem dX9_truthAbout_13 : decode cX9_truthAbout 13 = .ok (.iconst 5, 1) := by decide +kernel
theorem dX9_truthAbout_14 : decode cX9_truthAbout 14 = .ok (.invokevirtual 109, 3) := by decide +kernel
theorem dX9_truthAbout_17 : decode cX9_truthAbout 17 = .ok (.iadd, 1) := by decide +kernel
theorem dX9_truthAbout_18 : decode cX9_truthAbout 18 = .ok (.ireturn, 1) := by decide +kernel
theorem me_X9_truthAbout : cx_Mv yX9_truthAbout cX9_truthAbout 2 (some .int) 1 := ⟨⟨⟨by decide +kernel, by decide +kernel, by decide +kernel⟩, hw_11, hw_1476⟩, hw_1475, hs_85⟩
noncomputable def f_X9_truthAbout (m_book : Nat → Int32) (p1 : Int32) : Option Int32 := if p1 = 5 then (some 6) else (Option.bind (f_X9_ofPerson m_book p1 5) (fun u2 => some (5 + u2)))
set_option maxHeartbeats 4000000 in
set_option maxRecDepth 100000 in
theorem c_X9_truthAbout (l : Launch) (D : va_G) (k : Nat → ClassId) (m_a : Nat → Nat) (m_limbs : Nat → Int32) (m_wide : Nat → Int32) (m_book : Nat → Int32) (m_images : Nat → Int32) (m_kept : Nat → Int32) (m_before : Nat → Int32) (m_refused : Nat → Int32) (m_quiet : Int32) (m_text : Nat → Int32) (m_typed : Int32) (m_at : Int32) (m_start : Int32) (m_token : Int32) (m_value : Int32) (m_items : Nat → Int32) (m_many : Int32) (m_is : Nat → Int32) (m_likes : Nat → Int32) (m_without : Int32) (m_onePicture : Int32) (m_oneYear : Int32) (m_first : Int32) (m_second : Int32) (m_names : Nat → Int32) (p1 : Int32) (y : Int32) (hf : f_X9_truthAbout m_book p1 = some y) : cx_M l yX9_truthAbout cX9_truthAbout 2 (some .int) 2 D k [.ref (m_a 0), .int p1] (wd_Model k m_a m_limbs m_wide m_book m_images m_kept m_before m_refused m_quiet m_text m_typed m_at m_start m_token m_value m_items m_many m_is m_likes m_without m_onePicture m_oneYear m_first m_second m_names) (fun sz => cx_Qi D y (wd_Model k m_a m_limbs m_wide m_book m_images m_kept m_before m_refused m_quiet m_text m_typed m_at m_start m_token m_value m_items m_many m_is m_likes m_without m_onePicture m_oneYear m_first m_second m_names) (wd_Model k m_a m_limbs m_wide m_book m_images m_kept m_before m_refused m_quiet m_text m_typed m_at m_start m_token m_value m_items m_many m_is m_likes m_without m_onePicture m_oneYear m_first m_second m_names) sz) := by
  refine cx_met (own := "NamelessBoxModel") (by decide) rfl (Nat.le_of_ble_eq_true rfl) ?_
  intro p e s m args below meth c A Q C hA hQ hr hlk
  refine cx_lv (lv' := [(0, .ref (m_a 0)), (1, .int p1)]) [0, 1] rfl ?_
  unfold f_X9_truthAbout at hf
  refine cx_iload_n C dX9_truthAbout_0 1 rfl ?_
  refine cx_iconst (v := 5) C dX9_truthAbout_1 (by decide) ?_
  refine cx_icmp_ne (tgt := 10) C dX9_truthAbout_2 (by decide) (fun c1 => ?_) (fun c1 => ?_)
  · have hf := cx_if_f hf c1
    clear c1
    refine cx_iconst (v := 5) C dX9_truthAbout_10 (by decide) ?_
    refine cx_aload_n C dX9_truthAbout_11 0 rfl ?_
    refine cx_iload_n C dX9_truthAbout_12 1 rfl ?_
    refine cx_iconst (v := 5) C dX9_truthAbout_13 (by decide) ?_
    obtain ⟨u2, e3, hf⟩ := cx_bd_at hf
    refine cx_Fvi (q := (RX9, TX9, 24)) (As := [.int p1, .int 5]) (rest := [.int 5]) (w1 := (wd_Model k m_a m_limbs m_wide m_book m_images m_kept m_before m_refused m_quiet m_text m_typed m_at m_start m_token m_value m_items m_many m_is m_likes m_without m_onePicture m_oneYear m_first m_second m_names)) hA C me_X9_ofPerson hw_1157 (c_X9_ofPerson l D k m_a m_limbs m_wide m_book m_images m_kept m_before m_refused m_quiet m_text m_typed m_at m_start m_token m_value m_items m_many m_is m_likes m_without m_onePicture m_oneYear m_first m_second m_names p1 5 u2 e3) dX9_truthAbout_14 ⟨Nat.le_of_ble_eq_true rfl, Nat.le_of_ble_eq_true rfl⟩ ⟨Nat.zero_le _, Nat.zero_le _⟩ rfl rfl (Nat.le_of_ble_eq_true rfl) rfl rfl rfl ?_
    clear e3
    refine cx_iadd C dX9_truthAbout_17 ?_
    obtain rfl := Option.some.inj hf
    exact cx_iret C hA hQ hr hlk dX9_truthAbout_18 rfl rfl
  · have hf := cx_if_t hf c1
    clear c1
    refine cx_bipush (v := 6) C dX9_truthAbout_5 (by decide) ?_
    refine cx_goto (tgt := 18) C dX9_truthAbout_7 (by decide) ?_
    obtain rfl := Option.some.inj hf
    exact cx_iret C hA hQ hr hlk dX9_truthAbout_18 rfl rfl
theorem dX9_addsGreatest_0 : decode cX9_addsGreatest 0 = .ok (.aload_n 0, 1) := by decide +kernel
theorem dX9_addsGreatest_1 : decode cX9_addsGreatest 1 = .ok (.getfield 51, 3) := by decide +kernel
theorem dX9_addsGreatest_4 : decode cX9_addsGreatest 4 = .ok (.iconst 0, 1) := by decide +kernel
theorem dX9_addsGreatest_5 : decode cX9_addsGreatest 5 = .ok (.iaload, 1) := by decide +kernel
theorem dX9_addsGreatest_6 : decode cX9_addsGreatest 6 = .ok (.istore_n 3, 1) := by decide +kernel
theorem dX9_addsGreatest_7 : decode cX9_addsGreatest 7 = .ok (.aload_n 0, 1) := by decide +kernel
theorem dX9_addsGreatest_8 : decode cX9_addsGreatest 8 = .ok (.iconst 3, 1) := by decide +kernel
theorem dX9_addsGreatest_9 : decode cX9_addsGreatest 9 = .ok (.lconst 0, 1) := by decide +kernel
theorem dX9_addsGreatest_10 : decode cX9_addsGreatest 10 = .ok (.invokevirtual 16, 3) := by decide +kernel
theorem dX9_addsGreatest_13 : decode cX9_addsGreatest 13 = .ok (.iconst 0, 1) := by decide +kernel
theorem dX9_addsGreatest_14 : decode cX9_addsGreatest 14 = .ok (.istore 4, 2) := by decide +kernel
theorem dX9_addsGreatest_16 : decode cX9_addsGreatest 16 = .ok (.iload 4, 2) := by decide +kernel
theorem dX9_addsGreatest_18 : decode cX9_addsGreatest 18 = .ok (.iconst 5, 1) := by decide +kernel
theorem dX9_addsGreatest_19 : decode cX9_addsGreatest 19 = .ok (.if_icmp .gt 118, 3) := by decide +kernel
theorem dX9_addsGreatest_22 : decode cX9_addsGreatest 22 = .ok (.aload_n 0, 1) := by decide +kernel
theorem dX9_addsGreatest_23 : decode cX9_addsGreatest 23 = .ok (.iconst 2, 1) := by decide +kernel
theorem dX9_addsGreatest_24 : decode cX9_addsGreatest 24 = .ok (.lconst 0, 1) := by decide +kernel
theorem dX9_addsGreatest_25 : decode cX9_addsGreatest 25 = .ok (.invokevirtual 16, 3) := by decide +kernel
theorem dX9_addsGreatest_28 : decode cX9_addsGreatest 28 = .ok (.iconst 0, 1) := by decide +kernel
theorem dX9_addsGreatest_29 : decode cX9_addsGreatest 29 = .ok (.istore 5, 2) := by decide +kernel
theorem dX9_addsGreatest_31 : decode cX9_addsGreatest 31 = .ok (.iload 5, 2) := by decide +kernel
theorem dX9_addsGreatest_33 : decode cX9_addsGreatest 33 = .ok (.iconst 5, 1) := by decide +kernel
theorem dX9_addsGreatest_34 : decode cX9_addsGreatest 34 = .ok (.if_icmp .gt 82, 3) := by decide +kernel
theorem dX9_addsGreatest_37 : decode cX9_addsGreatest 37 = .ok (.iload 5, 2) := by decide +kernel
theorem dX9_addsGreatest_39 : decode cX9_addsGreatest 39 = .ok (.iload_n 3, 1) := by decide +kernel
theorem dX9_addsGreatest_40 : decode cX9_addsGreatest 40 = .ok (.if_icmp .lt 9, 3) := by decide +kernel
theorem dX9_addsGreatest_43 : decode cX9_addsGreatest 43 = .ok (.iload 5, 2) := by decide +kernel
theorem dX9_addsGreatest_45 : decode cX9_addsGreatest 45 = .ok (.iconst 5, 1) := by decide +kernel
theorem dX9_addsGreatest_46 : decode cX9_addsGreatest 46 = .ok (.if_icmp .ne 64, 3) := by decide +kernel
theorem dX9_addsGreatest_49 : decode cX9_addsGreatest 49 = .ok (.aload_n 0, 1) := by decide +kernel
theorem dX9_addsGreatest_50 : decode cX9_addsGreatest 50 = .ok (.bipush 8, 2) := by decide +kernel
theorem dX9_addsGreatest_52 : decode cX9_addsGreatest 52 = .ok (.bipush 48, 2) := by decide +kernel
theorem dX9_addsGreatest_54 : decode cX9_addsGreatest 54 = .ok (.bipush 36, 2) := by decide +kernel
theorem dX9_addsGreatest_56 : decode cX9_addsGreatest 56 = .ok (.iload 5, 2) := by decide +kernel
theorem dX9_addsGreatest_58 : decode cX9_addsGreatest 58 = .ok (.imul, 1) := by decide +kernel
theorem dX9_addsGreatest_59 : decode cX9_addsGreatest 59 = .ok (.iadd, 1) := by decide +kernel
theorem dX9_addsGreatest_60 : decode cX9_addsGreatest 60 = .ok (.bipush 6, 2) := by decide +kernel
theorem dX9_addsGreatest_62 : decode cX9_addsGreatest 62 = .ok (.iload_n 1, 1) := by decide +kernel
theorem dX9_addsGreatest_63 : decode cX9_addsGreatest 63 = .ok (.imul, 1) := by decide +kernel
theorem dX9_addsGreatest_64 : decode cX9_addsGreatest 64 = .ok (.iadd, 1) := by decide +kernel
theorem dX9_addsGreatest_65 : decode cX9_addsGreatest 65 = .ok (.iload 4, 2) := by decide +kernel
theorem dX9_addsGreatest_67 : decode cX9_addsGreatest 67 = .ok (.iadd, 1) := by decide +kernel
theorem dX9_addsGreatest_68 : decode cX9_addsGreatest 68 = .ok (.invokevirtual 20, 3) := by decide +kernel
theorem dX9_addsGreatest_71 : decode cX9_addsGreatest 71 = .ok (.aload_n 0, 1) := by decide +kernel
theorem dX9_addsGreatest_72 : decode cX9_addsGreatest 72 = .ok (.bipush 8, 2) := by decide +kernel
theorem dX9_addsGreatest_74 : decode cX9_addsGreatest 74 = .ok (.iload 5, 2) := by decide +kernel
theorem dX9_addsGreatest_76 : decode cX9_addsGreatest 76 = .ok (.iload_n 2, 1) := by decide +kernel
theorem dX9_addsGreatest_77 : decode cX9_addsGreatest 77 = .ok (.if_icmp .ne 14, 3) := by decide +kernel
theorem dX9_addsGreatest_80 : decode cX9_addsGreatest 80 = .ok (.aload_n 0, 1) := by decide +kernel
theorem dX9_addsGreatest_81 : decode cX9_addsGreatest 81 = .ok (.iload 5, 2) := by decide +kernel
theorem dX9_addsGreatest_83 : decode cX9_addsGreatest 83 = .ok (.invokevirtual 316, 3) := by decide +kernel
theorem dX9_addsGreatest_86 : decode cX9_addsGreatest 86 = .ok (.iload_n 3, 1) := by decide +kernel
theorem dX9_addsGreatest_87 : decode cX9_addsGreatest 87 = .ok (.imul, 1) := by decide +kernel
theorem dX9_addsGreatest_88 : decode cX9_addsGreatest 88 = .ok (.goto 12, 3) := by decide +kernel
theorem dX9_addsGreatest_91 : decode cX9_addsGreatest 91 = .ok (.bipush 10, 2) := by decide +kernel
theorem dX9_addsGreatest_93 : decode cX9_addsGreatest 93 = .ok (.aload_n 0, 1) := by decide +kernel
theorem dX9_addsGreatest_94 : decode cX9_addsGreatest 94 = .ok (.iload 5, 2) := by decide +kernel
theorem dX9_addsGreatest_96 : decode cX9_addsGreatest 96 = .ok (.invokevirtual 316, 3) := by decide +kernel
theorem dX9_addsGreatest_99 : decode cX9_addsGreatest 99 = .ok (.isub, 1) := by decide +kernel
theorem dX9_addsGreatest_100 : decode cX9_addsGreatest 100 = .ok (.invokevirtual 266, 3) := by decide +kernel
theorem dX9_addsGreatest_103 : decode cX9_addsGreatest 103 = .ok (.aload_n 0, 1) := by decide +kernel
theorem dX9_addsGreatest_104 : decode cX9_addsGreatest 104 = .ok (.iconst 2, 1) := by decide +kernel
theorem dX9_addsGreatest_105 : decode cX9_addsGreatest 105 = .ok (.bipush 8, 2) := by decide +kernel
theorem dX9_addsGreatest_107 : decode cX9_addsGreatest 107 = .ok (.invokevirtual 278, 3) := by decide +kernel
theorem dX9_addsGreatest_110 : decode cX9_addsGreatest 110 = .ok (.iinc 5 1, 3) := by decide +kernel
theorem dX9_addsGreatest_113 : decode cX9_addsGreatest 113 = .ok (.goto (-82), 3) := by decide +kernel
theorem dX9_addsGreatest_116 : decode cX9_addsGreatest 116 = .ok (.aload_n 0, 1) := by decide +kernel
theorem dX9_addsGreatest_117 : decode cX9_addsGreatest 117 = .ok (.iconst 2, 1) := by decide +kernel
theorem dX9_addsGreatest_118 : decode cX9_addsGreatest 118 = .ok (.iconst 3, 1) := by decide +kernel
theorem dX9_addsGreatest_119 : decode cX9_addsGreatest 119 = .ok (.invokevirtual 32, 3) := by decide +kernel
theorem dX9_addsGreatest_122 : decode cX9_addsGreatest 122 = .ok (.ifCond .le 9, 3) := by decide +kernel
theorem dX9_addsGreatest_125 : decode cX9_addsGreatest 125 = .ok (.aload_n 0, 1) := by decide +kernel
theorem dX9_addsGreatest_126 : decode cX9_addsGreatest 126 = .ok (.iconst 3, 1) := by decide +kernel
theorem dX9_addsGreatest_127 : decode cX9_addsGreatest 127 = .ok (.iconst 2, 1) := by decide +kernel
theorem dX9_addsGreatest_128 : decode cX9_addsGreatest 128 = .ok (.invokevirtual 20, 3) := by decide +kernel
theorem dX9_addsGreatest_131 : decode cX9_addsGreatest 131 = .ok (.iinc 4 1, 3) := by decide +kernel
theorem dX9_addsGreatest_134 : decode cX9_addsGreatest 134 = .ok (.goto (-118), 3) := by decide +kernel
theorem dX9_addsGreatest_137 : decode cX9_addsGreatest 137 = .ok (.aload_n 0, 1) := by decide +kernel
theorem dX9_addsGreatest_138 : decode cX9_addsGreatest 138 = .ok (.bipush 9, 2) := by decide +kernel
theorem dX9_addsGreatest_140 : decode cX9_addsGreatest 140 = .ok (.iconst 3, 1) := by decide +kernel
theorem dX9_addsGreatest_141 : decode cX9_addsGreatest 141 = .ok (.invokevirtual 278, 3) := by decide +kernel
theorem dX9_addsGreatest_144 : decode cX9_addsGreatest 144 = .ok (.return_, 1) := by decide +kernel
theorem me_X9_addsGreatest : cx_Mv yX9_addsGreatest cX9_addsGreatest 6 none 2 := ⟨⟨⟨by decide +kernel, by decide +kernel, by decide +kernel⟩, hw_11, hw_1472⟩, hw_1471, hs_84⟩
noncomputable def f_X9_addsGreatest_J131 (x4_7 : Int32) (rc16 : (Nat → Int32) → (Nat → Int32) → Int32 → Option ((Nat → Int32) × (Nat → Int32))) (a_20 : Nat → Int32) (a_21 : Nat → Int32) : Option ((Nat → Int32) × (Nat → Int32)) := rc16 a_20 a_21 (x4_7 + 1)
noncomputable def f_X9_addsGreatest_J110 (x5_15 : Int32) (rc31 : (Nat → Int32) → (Nat → Int32) → Int32 → Option ((Nat → Int32) × (Nat → Int32))) (a_38 : Nat → Int32) (a_39 : Nat → Int32) : Option ((Nat → Int32) × (Nat → Int32)) := rc31 a_38 a_39 (x5_15 + 1)
noncomputable def f_X9_addsGreatest_J100 (x5_15 : Int32) (rc31 : (Nat → Int32) → (Nat → Int32) → Int32 → Option ((Nat → Int32) × (Nat → Int32))) (a_30 : Nat → Int32) (a_31 : Nat → Int32) (s1_32 : Int32) (s2_33 : Int32) : Option ((Nat → Int32) × (Nat → Int32)) := Option.bind (f_X9_times a_30 a_31 s1_32 s2_33) (fun u34 => Option.bind (f_X9_adds u34.1 u34.2 2 8) (fun u36 => f_X9_addsGreatest_J110 x5_15 rc31 u36.1 u36.2))
noncomputable def f_X9_addsGreatest_J49 (m_book : Nat → Int32) (p1 : Int32) (p2 : Int32) (x3_6 : Int32) (x4_7 : Int32) (a_13 : Nat → Int32) (a_14 : Nat → Int32) (x5_15 : Int32) (rc31 : (Nat → Int32) → (Nat → Int32) → Int32 → Option ((Nat → Int32) × (Nat → Int32))) : Option ((Nat → Int32) × (Nat → Int32)) := Option.bind (f_X9_takes a_13 a_14 8 (((48 + (36 * x5_15)) + (6 * p1)) + x4_7)) (fun u25 => if x5_15 = p2 then (Option.bind (f_X9_truthAbout m_book x5_15) (fun u40 => f_X9_addsGreatest_J100 x5_15 rc31 u25.1 u25.2 8 (u40 * x3_6))) else (Option.bind (f_X9_truthAbout m_book x5_15) (fun u28 => f_X9_addsGreatest_J100 x5_15 rc31 u25.1 u25.2 8 (10 - u28))))
noncomputable def f_X9_addsGreatest_L31 (m_book : Nat → Int32) (p1 : Int32) (p2 : Int32) (x3_6 : Int32) (x4_7 : Int32) (rc16 : (Nat → Int32) → (Nat → Int32) → Int32 → Option ((Nat → Int32) × (Nat → Int32))) (rc31 : (Nat → Int32) → (Nat → Int32) → Int32 → Option ((Nat → Int32) × (Nat → Int32))) (a_13 : Nat → Int32) (a_14 : Nat → Int32) (x5_15 : Int32) : Option ((Nat → Int32) × (Nat → Int32)) := if 5 < x5_15 then (Option.bind (f_X9_against a_13 a_14 2 3) (fun u17 => if u17 ≤ 0 then (f_X9_addsGreatest_J131 x4_7 rc16 a_13 a_14) else (Option.bind (f_X9_takes a_13 a_14 3 2) (fun u22 => f_X9_addsGreatest_J131 x4_7 rc16 u22.1 u22.2)))) else (if x5_15 < x3_6 then (f_X9_addsGreatest_J49 m_book p1 p2 x3_6 x4_7 a_13 a_14 x5_15 rc31) else (if x5_15 = 5 then (f_X9_addsGreatest_J49 m_book p1 p2 x3_6 x4_7 a_13 a_14 x5_15 rc31) else (f_X9_addsGreatest_J110 x5_15 rc31 a_13 a_14)))
noncomputable def f_X9_addsGreatest_L31w (m_book : Nat → Int32) (p1 : Int32) (p2 : Int32) (x3_6 : Int32) (x4_7 : Int32) (rc16 : (Nat → Int32) → (Nat → Int32) → Int32 → Option ((Nat → Int32) × (Nat → Int32))) (n : Nat) : (Nat → Int32) → (Nat → Int32) → Int32 → Option ((Nat → Int32) × (Nat → Int32)) := Nat.rec (fun _ _ _ => none) (fun _ r => f_X9_addsGreatest_L31 m_book p1 p2 x3_6 x4_7 rc16 r) n
noncomputable def f_X9_addsGreatest_L16 (m_book : Nat → Int32) (p1 : Int32) (p2 : Int32) (x3_6 : Int32) (rc16 : (Nat → Int32) → (Nat → Int32) → Int32 → Option ((Nat → Int32) × (Nat → Int32))) (a_4 : Nat → Int32) (a_5 : Nat → Int32) (x4_7 : Int32) : Option ((Nat → Int32) × (Nat → Int32)) := if 5 < x4_7 then (Option.bind (f_X9_adds a_4 a_5 9 3) (fun u9 => some ((u9.1, u9.2)))) else (Option.bind (f_X9_sets a_4 a_5 2 0) (fun u11 => f_X9_addsGreatest_L31w m_book p1 p2 x3_6 x4_7 rc16 cx_N0 u11.1 u11.2 0))
noncomputable def f_X9_addsGreatest_L16w (m_book : Nat → Int32) (p1 : Int32) (p2 : Int32) (x3_6 : Int32) (n : Nat) : (Nat → Int32) → (Nat → Int32) → Int32 → Option ((Nat → Int32) × (Nat → Int32)) := Nat.rec (fun _ _ _ => none) (fun _ r => f_X9_addsGreatest_L16 m_book p1 p2 x3_6 r) n
noncomputable def f_X9_addsGreatest (m_limbs : Nat → Int32) (m_wide : Nat → Int32) (m_book : Nat → Int32) (p1 : Int32) (p2 : Int32) : Option ((Nat → Int32) × (Nat → Int32)) := cx_gd (cx_ib 0 140) (Option.bind (f_X9_sets m_limbs m_wide 3 0) (fun u2 => f_X9_addsGreatest_L16w m_book p1 p2 (m_book (cx_ix 0)) cx_N0 u2.1 u2.2 0))
set_option maxHeartbeats 4000000 in
set_option maxRecDepth 100000 in
theorem c_X9_addsGreatest (l : Launch) (D : va_G) (k : Nat → ClassId) (m_a : Nat → Nat) (m_limbs : Nat → Int32) (m_wide : Nat → Int32) (m_book : Nat → Int32) (m_images : Nat → Int32) (m_kept : Nat → Int32) (m_before : Nat → Int32) (m_refused : Nat → Int32) (m_quiet : Int32) (m_text : Nat → Int32) (m_typed : Int32) (m_at : Int32) (m_start : Int32) (m_token : Int32) (m_value : Int32) (m_items : Nat → Int32) (m_many : Int32) (m_is : Nat → Int32) (m_likes : Nat → Int32) (m_without : Int32) (m_onePicture : Int32) (m_oneYear : Int32) (m_first : Int32) (m_second : Int32) (m_names : Nat → Int32) (p1 : Int32) (p2 : Int32) (y : (Nat → Int32) × (Nat → Int32)) (hf : f_X9_addsGreatest m_limbs m_wide m_book p1 p2 = some y) : cx_M l yX9_addsGreatest cX9_addsGreatest 6 none 3 D k [.ref (m_a 0), .int p1, .int p2] (wd_Model k m_a m_limbs m_wide m_book m_images m_kept m_before m_refused m_quiet m_text m_typed m_at m_start m_token m_value m_items m_many m_is m_likes m_without m_onePicture m_oneYear m_first m_second m_names) (fun sz => cx_Qv D (wd_Model k m_a m_limbs m_wide m_book m_images m_kept m_before m_refused m_quiet m_text m_typed m_at m_start m_token m_value m_items m_many m_is m_likes m_without m_onePicture m_oneYear m_first m_second m_names) (wd_Model k m_a y.1 y.2 m_book m_images m_kept m_before m_refused m_quiet m_text m_typed m_at m_start m_token m_value m_items m_many m_is m_likes m_without m_onePicture m_oneYear m_first m_second m_names) sz) := by
  refine cx_met (own := "NamelessBoxModel") (by decide) rfl (Nat.le_of_ble_eq_true rfl) ?_
  intro p e s m args below meth c A Q C hA hQ hr hlk
  refine cx_lv (lv' := [(0, .ref (m_a 0)), (1, .int p1), (2, .int p2)]) [0, 1, 2] rfl ?_
  have L16 : ∀ (x3_6 : Int32) (n16 : Nat) (a_4 : Nat → Int32) (a_5 : Nat → Int32) (x4_7 : Int32), f_X9_addsGreatest_L16w m_book p1 p2 x3_6 n16 a_4 a_5 x4_7 = some y → cx_S p l e (cx_rm 3) s m args below meth c A D 6 0 0 Q 16 [(0, .ref (m_a 0)), (1, .int p1), (2, .int p2), (3, .int x3_6), (4, .int x4_7)] [] (wd_Model k m_a a_4 a_5 m_book m_images m_kept m_before m_refused m_quiet m_text m_typed m_at m_start m_token m_value m_items m_many m_is m_likes m_without m_onePicture m_oneYear m_first m_second m_names) := by
    intro x3_6 n16
    induction n16 with
    | zero =>
      intro a_4 a_5 x4_7 hf
      exact absurd (show (none : Option ((Nat → Int32) × (Nat → Int32))) = some y from hf) (fun h => by cases h)
    | succ n16 ih16 =>
      intro a_4 a_5 x4_7 hf
      have hf : f_X9_addsGreatest_L16 m_book p1 p2 x3_6 (f_X9_addsGreatest_L16w m_book p1 p2 x3_6 n16) a_4 a_5 x4_7 = some y := hf
      have J131 : ∀ (a_20 : Nat → Int32) (a_21 : Nat → Int32), f_X9_addsGreatest_J131 x4_7 (f_X9_addsGreatest_L16w m_book p1 p2 x3_6 n16) a_20 a_21 = some y → cx_S p l e (cx_rm 3) s m args below meth c A D 6 0 0 Q 131 [(0, .ref (m_a 0)), (1, .int p1), (2, .int p2), (3, .int x3_6), (4, .int x4_7)] [] (wd_Model k m_a a_20 a_21 m_book m_images m_kept m_before m_refused m_quiet m_text m_typed m_at m_start m_token m_value m_items m_many m_is m_likes m_without m_onePicture m_oneYear m_first m_second m_names) := by
        intro a_20 a_21 hf
        unfold f_X9_addsGreatest_J131 at hf
        refine cx_iinc (v := x4_7 + 1) (lv' := [(4, .int (x4_7 + 1)), (0, .ref (m_a 0)), (1, .int p1), (2, .int p2), (3, .int x3_6)]) C dX9_addsGreatest_131 4 rfl rfl (by decide) rfl ?_
        refine cx_goto (tgt := 16) C dX9_addsGreatest_134 (by decide) ?_
        refine cx_lv [1, 2, 3, 4, 0] rfl ?_
        exact ih16 a_20 a_21 (x4_7 + 1) hf
      have L31 : ∀ (n31 : Nat) (a_13 : Nat → Int32) (a_14 : Nat → Int32) (x5_15 : Int32), f_X9_addsGreatest_L31w m_book p1 p2 x3_6 x4_7 (f_X9_addsGreatest_L16w m_book p1 p2 x3_6 n16) n31 a_13 a_14 x5_15 = some y → cx_S p l e (cx_rm 3) s m args below meth c A D 6 0 0 Q 31 [(0, .ref (m_a 0)), (1, .int p1), (2, .int p2), (3, .int x3_6), (4, .int x4_7), (5, .int x5_15)] [] (wd_Model k m_a a_13 a_14 m_book m_images m_kept m_before m_refused m_quiet m_text m_typed m_at m_start m_token m_value m_items m_many m_is m_likes m_without m_onePicture m_oneYear m_first m_second m_names) := by
        intro  n31
        induction n31 with
        | zero =>
          intro a_13 a_14 x5_15 hf
          exact absurd (show (none : Option ((Nat → Int32) × (Nat → Int32))) = some y from hf) (fun h => by cases h)
        | succ n31 ih31 =>
          intro a_13 a_14 x5_15 hf
          have hf : f_X9_addsGreatest_L31 m_book p1 p2 x3_6 x4_7 (f_X9_addsGreatest_L16w m_book p1 p2 x3_6 n16) (f_X9_addsGreatest_L31w m_book p1 p2 x3_6 x4_7 (f_X9_addsGreatest_L16w m_book p1 p2 x3_6 n16) n31) a_13 a_14 x5_15 = some y := hf
          have J110 : ∀ (a_38 : Nat → Int32) (a_39 : Nat → Int32), f_X9_addsGreatest_J110 x5_15 (f_X9_addsGreatest_L31w m_book p1 p2 x3_6 x4_7 (f_X9_addsGreatest_L16w m_book p1 p2 x3_6 n16) n31) a_38 a_39 = some y → cx_S p l e (cx_rm 3) s m args below meth c A D 6 0 0 Q 110 [(0, .ref (m_a 0)), (1, .int p1), (2, .int p2), (3, .int x3_6), (4, .int x4_7), (5, .int x5_15)] [] (wd_Model k m_a a_38 a_39 m_book m_images m_kept m_before m_refused m_quiet m_text m_typed m_at m_start m_token m_value m_items m_many m_is m_likes m_without m_onePicture m_oneYear m_first m_second m_names) := by
            intro a_38 a_39 hf
            unfold f_X9_addsGreatest_J110 at hf
            refine cx_iinc (v := x5_15 + 1) (lv' := [(5, .int (x5_15 + 1)), (0, .ref (m_a 0)), (1, .int p1), (2, .int p2), (3, .int x3_6), (4, .int x4_7)]) C dX9_addsGreatest_110 5 rfl rfl (by decide) rfl ?_
            refine cx_goto (tgt := 31) C dX9_addsGreatest_113 (by decide) ?_
            refine cx_lv [1, 2, 3, 4, 5, 0] rfl ?_
            exact ih31 a_38 a_39 (x5_15 + 1) hf
          have J100 : ∀ (a_30 : Nat → Int32) (a_31 : Nat → Int32) (s1_32 : Int32) (s2_33 : Int32), f_X9_addsGreatest_J100 x5_15 (f_X9_addsGreatest_L31w m_book p1 p2 x3_6 x4_7 (f_X9_addsGreatest_L16w m_book p1 p2 x3_6 n16) n31) a_30 a_31 s1_32 s2_33 = some y → cx_S p l e (cx_rm 3) s m args below meth c A D 6 0 0 Q 100 [(0, .ref (m_a 0)), (1, .int p1), (2, .int p2), (3, .int x3_6), (4, .int x4_7), (5, .int x5_15)] [.int s2_33, .int s1_32, .ref (m_a 0)] (wd_Model k m_a a_30 a_31 m_book m_images m_kept m_before m_refused m_quiet m_text m_typed m_at m_start m_token m_value m_items m_many m_is m_likes m_without m_onePicture m_oneYear m_first m_second m_names) := by
            intro a_30 a_31 s1_32 s2_33 hf
            unfold f_X9_addsGreatest_J100 at hf
            obtain ⟨u34, e35, hf⟩ := cx_bd_at hf
            refine cx_Fvv (q := (RX9, TX9, 24)) (As := [.int s1_32, .int s2_33]) (rest := []) (w1 := (wd_Model k m_a u34.1 u34.2 m_book m_images m_kept m_before m_refused m_quiet m_text m_typed m_at m_start m_token m_value m_items m_many m_is m_likes m_without m_onePicture m_oneYear m_first m_second m_names)) hA C me_X9_times hw_1328 (c_X9_times l D k m_a a_30 a_31 m_book m_images m_kept m_before m_refused m_quiet m_text m_typed m_at m_start m_token m_value m_items m_many m_is m_likes m_without m_onePicture m_oneYear m_first m_second m_names s1_32 s2_33 u34 e35) dX9_addsGreatest_100 ⟨Nat.le_of_ble_eq_true rfl, Nat.le_of_ble_eq_true rfl⟩ ⟨Nat.zero_le _, Nat.zero_le _⟩ rfl rfl (Nat.le_of_ble_eq_true rfl) rfl rfl rfl ?_
            clear e35
            refine cx_aload_n C dX9_addsGreatest_103 0 rfl ?_
            refine cx_iconst (v := 2) C dX9_addsGreatest_104 (by decide) ?_
            refine cx_bipush (v := 8) C dX9_addsGreatest_105 (by decide) ?_
            obtain ⟨u36, e37, hf⟩ := cx_bd_at hf
            refine cx_Fvv (q := (RX9, TX9, 24)) (As := [.int 2, .int 8]) (rest := []) (w1 := (wd_Model k m_a u36.1 u36.2 m_book m_images m_kept m_before m_refused m_quiet m_text m_typed m_at m_start m_token m_value m_items m_many m_is m_likes m_without m_onePicture m_oneYear m_first m_second m_names)) hA C me_X9_adds hw_1332 (c_X9_adds l D k m_a u34.1 u34.2 m_book m_images m_kept m_before m_refused m_quiet m_text m_typed m_at m_start m_token m_value m_items m_many m_is m_likes m_without m_onePicture m_oneYear m_first m_second m_names 2 8 u36 e37) dX9_addsGreatest_107 ⟨Nat.le_of_ble_eq_true rfl, Nat.le_of_ble_eq_true rfl⟩ ⟨Nat.zero_le _, Nat.zero_le _⟩ rfl rfl (Nat.le_of_ble_eq_true rfl) rfl rfl rfl ?_
            clear e37
            exact J110 u36.1 u36.2 hf
          have J49 : f_X9_addsGreatest_J49 m_book p1 p2 x3_6 x4_7 a_13 a_14 x5_15 (f_X9_addsGreatest_L31w m_book p1 p2 x3_6 x4_7 (f_X9_addsGreatest_L16w m_book p1 p2 x3_6 n16) n31) = some y → cx_S p l e (cx_rm 3) s m args below meth c A D 6 0 0 Q 49 [(0, .ref (m_a 0)), (1, .int p1), (2, .int p2), (3, .int x3_6), (4, .int x4_7), (5, .int x5_15)] [] (wd_Model k m_a a_13 a_14 m_book m_images m_kept m_before m_refused m_quiet m_text m_typed m_at m_start m_token m_value m_items m_many m_is m_likes m_without m_onePicture m_oneYear m_first m_second m_names) := by
            intro  hf
            unfold f_X9_addsGreatest_J49 at hf
            refine cx_aload_n C dX9_addsGreatest_49 0 rfl ?_
            refine cx_bipush (v := 8) C dX9_addsGreatest_50 (by decide) ?_
            refine cx_bipush (v := 48) C dX9_addsGreatest_52 (by decide) ?_
            refine cx_bipush (v := 36) C dX9_addsGreatest_54 (by decide) ?_
            refine cx_iload C dX9_addsGreatest_56 5 rfl ?_
            refine cx_imul C dX9_addsGreatest_58 ?_
            refine cx_iadd C dX9_addsGreatest_59 ?_
            refine cx_bipush (v := 6) C dX9_addsGreatest_60 (by decide) ?_
            refine cx_iload_n C dX9_addsGreatest_62 1 rfl ?_
            refine cx_imul C dX9_addsGreatest_63 ?_
            refine cx_iadd C dX9_addsGreatest_64 ?_
            refine cx_iload C dX9_addsGreatest_65 4 rfl ?_
            refine cx_iadd C dX9_addsGreatest_67 ?_
            obtain ⟨u25, e26, hf⟩ := cx_bd_at hf
            refine cx_Fvv (q := (RX9, TX9, 24)) (As := [.int 8, .int (((48 + (36 * x5_15)) + (6 * p1)) + x4_7)]) (rest := []) (w1 := (wd_Model k m_a u25.1 u25.2 m_book m_images m_kept m_before m_refused m_quiet m_text m_typed m_at m_start m_token m_value m_items m_many m_is m_likes m_without m_onePicture m_oneYear m_first m_second m_names)) hA C me_X9_takes hw_1324 (c_X9_takes l D k m_a a_13 a_14 m_book m_images m_kept m_before m_refused m_quiet m_text m_typed m_at m_start m_token m_value m_items m_many m_is m_likes m_without m_onePicture m_oneYear m_first m_second m_names 8 (((48 + (36 * x5_15)) + (6 * p1)) + x4_7) u25 e26) dX9_addsGreatest_68 ⟨Nat.le_of_ble_eq_true rfl, Nat.le_of_ble_eq_true rfl⟩ ⟨Nat.zero_le _, Nat.zero_le _⟩ rfl rfl (Nat.le_of_ble_eq_true rfl) rfl rfl rfl ?_
            clear e26
            refine cx_aload_n C dX9_addsGreatest_71 0 rfl ?_
            refine cx_bipush (v := 8) C dX9_addsGreatest_72 (by decide) ?_
            refine cx_iload C dX9_addsGreatest_74 5 rfl ?_
            refine cx_iload_n C dX9_addsGreatest_76 2 rfl ?_
            refine cx_icmp_ne (tgt := 91) C dX9_addsGreatest_77 (by decide) (fun c27 => ?_) (fun c27 => ?_)
            · have hf := cx_if_f hf c27
              clear c27
              refine cx_bipush (v := 10) C dX9_addsGreatest_91 (by decide) ?_
              refine cx_aload_n C dX9_addsGreatest_93 0 rfl ?_
              refine cx_iload C dX9_addsGreatest_94 5 rfl ?_
              obtain ⟨u28, e29, hf⟩ := cx_bd_at hf
              refine cx_Fvi (q := (RX9, TX9, 24)) (As := [.int x5_15]) (rest := [.int 10, .int 8, .ref (m_a 0)]) (w1 := (wd_Model k m_a u25.1 u25.2 m_book m_images m_kept m_before m_refused m_quiet m_text m_typed m_at m_start m_token m_value m_items m_many m_is m_likes m_without m_onePicture m_oneYear m_first m_second m_names)) hA C me_X9_truthAbout hw_1473 (c_X9_truthAbout l D k m_a u25.1 u25.2 m_book m_images m_kept m_before m_refused m_quiet m_text m_typed m_at m_start m_token m_value m_items m_many m_is m_likes m_without m_onePicture m_oneYear m_first m_second m_names x5_15 u28 e29) dX9_addsGreatest_96 ⟨Nat.le_of_ble_eq_true rfl, Nat.le_of_ble_eq_true rfl⟩ ⟨Nat.zero_le _, Nat.zero_le _⟩ rfl rfl (Nat.le_of_ble_eq_true rfl) rfl rfl rfl ?_
              clear e29
              refine cx_isub C dX9_addsGreatest_99 ?_
              exact J100 u25.1 u25.2 8 (10 - u28) hf
            · have hf := cx_if_t hf c27
              clear c27
              refine cx_aload_n C dX9_addsGreatest_80 0 rfl ?_
              refine cx_iload C dX9_addsGreatest_81 5 rfl ?_
              obtain ⟨u40, e41, hf⟩ := cx_bd_at hf
              refine cx_Fvi (q := (RX9, TX9, 24)) (As := [.int x5_15]) (rest := [.int 8, .ref (m_a 0)]) (w1 := (wd_Model k m_a u25.1 u25.2 m_book m_images m_kept m_before m_refused m_quiet m_text m_typed m_at m_start m_token m_value m_items m_many m_is m_likes m_without m_onePicture m_oneYear m_first m_second m_names)) hA C me_X9_truthAbout hw_1473 (c_X9_truthAbout l D k m_a u25.1 u25.2 m_book m_images m_kept m_before m_refused m_quiet m_text m_typed m_at m_start m_token m_value m_items m_many m_is m_likes m_without m_onePicture m_oneYear m_first m_second m_names x5_15 u40 e41) dX9_addsGreatest_83 ⟨Nat.le_of_ble_eq_true rfl, Nat.le_of_ble_eq_true rfl⟩ ⟨Nat.zero_le _, Nat.zero_le _⟩ rfl rfl (Nat.le_of_ble_eq_true rfl) rfl rfl rfl ?_
              clear e41
              refine cx_iload_n C dX9_addsGreatest_86 3 rfl ?_
              refine cx_imul C dX9_addsGreatest_87 ?_
              refine cx_goto (tgt := 100) C dX9_addsGreatest_88 (by decide) ?_
              exact J100 u25.1 u25.2 8 (u40 * x3_6) hf
          unfold f_X9_addsGreatest_L31 at hf
          refine cx_iload C dX9_addsGreatest_31 5 rfl ?_
          refine cx_iconst (v := 5) C dX9_addsGreatest_33 (by decide) ?_
          refine cx_icmp_gt (tgt := 116) C dX9_addsGreatest_34 (by decide) (fun c16 => ?_) (fun c16 => ?_)
          · have hf := cx_if_t hf c16
            clear c16
            refine cx_aload_n C dX9_addsGreatest_116 0 rfl ?_
            refine cx_iconst (v := 2) C dX9_addsGreatest_117 (by decide) ?_
            refine cx_iconst (v := 3) C dX9_addsGreatest_118 (by decide) ?_
            obtain ⟨u17, e18, hf⟩ := cx_bd_at hf
            refine cx_Fvi (q := (RX9, TX9, 24)) (As := [.int 2, .int 3]) (rest := []) (w1 := (wd_Model k m_a a_13 a_14 m_book m_images m_kept m_before m_refused m_quiet m_text m_typed m_at m_start m_token m_value m_items m_many m_is m_likes m_without m_onePicture m_oneYear m_first m_second m_names)) hA C me_X9_against hw_1357 (c_X9_against l D k m_a a_13 a_14 m_book m_images m_kept m_before m_refused m_quiet m_text m_typed m_at m_start m_token m_value m_items m_many m_is m_likes m_without m_onePicture m_oneYear m_first m_second m_names 2 3 u17 e18) dX9_addsGreatest_119 ⟨Nat.le_of_ble_eq_true rfl, Nat.le_of_ble_eq_true rfl⟩ ⟨Nat.zero_le _, Nat.zero_le _⟩ rfl rfl (Nat.le_of_ble_eq_true rfl) rfl rfl rfl ?_
            clear e18
            refine cx_if_le (tgt := 131) C dX9_addsGreatest_122 (by decide) (fun c19 => ?_) (fun c19 => ?_)
            · have hf := cx_if_t hf c19
              clear c19
              refine cx_lv [0, 1, 2, 3, 4] rfl ?_
              exact J131 a_13 a_14 hf
            · have hf := cx_if_f hf c19
              clear c19
              refine cx_aload_n C dX9_addsGreatest_125 0 rfl ?_
              refine cx_iconst (v := 3) C dX9_addsGreatest_126 (by decide) ?_
              refine cx_iconst (v := 2) C dX9_addsGreatest_127 (by decide) ?_
              obtain ⟨u22, e23, hf⟩ := cx_bd_at hf
              refine cx_Fvv (q := (RX9, TX9, 24)) (As := [.int 3, .int 2]) (rest := []) (w1 := (wd_Model k m_a u22.1 u22.2 m_book m_images m_kept m_before m_refused m_quiet m_text m_typed m_at m_start m_token m_value m_items m_many m_is m_likes m_without m_onePicture m_oneYear m_first m_second m_names)) hA C me_X9_takes hw_1324 (c_X9_takes l D k m_a a_13 a_14 m_book m_images m_kept m_before m_refused m_quiet m_text m_typed m_at m_start m_token m_value m_items m_many m_is m_likes m_without m_onePicture m_oneYear m_first m_second m_names 3 2 u22 e23) dX9_addsGreatest_128 ⟨Nat.le_of_ble_eq_true rfl, Nat.le_of_ble_eq_true rfl⟩ ⟨Nat.zero_le _, Nat.zero_le _⟩ rfl rfl (Nat.le_of_ble_eq_true rfl) rfl rfl rfl ?_
              clear e23
              refine cx_lv [0, 1, 2, 3, 4] rfl ?_
              exact J131 u22.1 u22.2 hf
          · have hf := cx_if_f hf c16
            clear c16
            refine cx_iload C dX9_addsGreatest_37 5 rfl ?_
            refine cx_iload_n C dX9_addsGreatest_39 3 rfl ?_
            refine cx_icmp_lt (tgt := 49) C dX9_addsGreatest_40 (by decide) (fun c24 => ?_) (fun c24 => ?_)
            · have hf := cx_if_t hf c24
              clear c24
              exact J49 hf
            · have hf := cx_if_f hf c24
              clear c24
              refine cx_iload C dX9_addsGreatest_43 5 rfl ?_
              refine cx_iconst (v := 5) C dX9_addsGreatest_45 (by decide) ?_
              refine cx_icmp_ne (tgt := 110) C dX9_addsGreatest_46 (by decide) (fun c42 => ?_) (fun c42 => ?_)
              · have hf := cx_if_f hf c42
                clear c42
                exact J110 a_13 a_14 hf
              · have hf := cx_if_t hf c42
                clear c42
                exact J49 hf
      unfold f_X9_addsGreatest_L16 at hf
      refine cx_iload C dX9_addsGreatest_16 4 rfl ?_
      refine cx_iconst (v := 5) C dX9_addsGreatest_18 (by decide) ?_
      refine cx_icmp_gt (tgt := 137) C dX9_addsGreatest_19 (by decide) (fun c8 => ?_) (fun c8 => ?_)
      · have hf := cx_if_t hf c8
        clear c8
        refine cx_aload_n C dX9_addsGreatest_137 0 rfl ?_
        refine cx_bipush (v := 9) C dX9_addsGreatest_138 (by decide) ?_
        refine cx_iconst (v := 3) C dX9_addsGreatest_140 (by decide) ?_
        obtain ⟨u9, e10, hf⟩ := cx_bd_at hf
        refine cx_Fvv (q := (RX9, TX9, 24)) (As := [.int 9, .int 3]) (rest := []) (w1 := (wd_Model k m_a u9.1 u9.2 m_book m_images m_kept m_before m_refused m_quiet m_text m_typed m_at m_start m_token m_value m_items m_many m_is m_likes m_without m_onePicture m_oneYear m_first m_second m_names)) hA C me_X9_adds hw_1332 (c_X9_adds l D k m_a a_4 a_5 m_book m_images m_kept m_before m_refused m_quiet m_text m_typed m_at m_start m_token m_value m_items m_many m_is m_likes m_without m_onePicture m_oneYear m_first m_second m_names 9 3 u9 e10) dX9_addsGreatest_141 ⟨Nat.le_of_ble_eq_true rfl, Nat.le_of_ble_eq_true rfl⟩ ⟨Nat.zero_le _, Nat.zero_le _⟩ rfl rfl (Nat.le_of_ble_eq_true rfl) rfl rfl rfl ?_
        clear e10
        obtain rfl := Option.some.inj hf
        exact cx_vret C hA hQ hr hlk dX9_addsGreatest_144 rfl
      · have hf := cx_if_f hf c8
        clear c8
        refine cx_aload_n C dX9_addsGreatest_22 0 rfl ?_
        refine cx_iconst (v := 2) C dX9_addsGreatest_23 (by decide) ?_
        refine cx_lconst (v := 0) C dX9_addsGreatest_24 (by decide) ?_
        obtain ⟨u11, e12, hf⟩ := cx_bd_at hf
        refine cx_Fvv (q := (RX9, TX9, 24)) (As := [.int 2, .long 0]) (rest := []) (w1 := (wd_Model k m_a u11.1 u11.2 m_book m_images m_kept m_before m_refused m_quiet m_text m_typed m_at m_start m_token m_value m_items m_many m_is m_likes m_without m_onePicture m_oneYear m_first m_second m_names)) hA C me_X9_sets hw_1045 (c_X9_sets l D k m_a a_4 a_5 m_book m_images m_kept m_before m_refused m_quiet m_text m_typed m_at m_start m_token m_value m_items m_many m_is m_likes m_without m_onePicture m_oneYear m_first m_second m_names 2 0 u11 e12) dX9_addsGreatest_25 ⟨Nat.le_of_ble_eq_true rfl, Nat.le_of_ble_eq_true rfl⟩ ⟨Nat.zero_le _, Nat.zero_le _⟩ rfl rfl (Nat.le_of_ble_eq_true rfl) rfl rfl rfl ?_
        clear e12
        refine cx_iconst (v := 0) C dX9_addsGreatest_28 (by decide) ?_
        refine cx_istore (lv' := [(5, .int 0), (0, .ref (m_a 0)), (1, .int p1), (2, .int p2), (3, .int x3_6), (4, .int x4_7)]) C dX9_addsGreatest_29 (by decide) rfl ?_
        refine cx_lv [1, 2, 3, 4, 5, 0] rfl ?_
        exact L31 cx_N0 u11.1 u11.2 0 hf
  unfold f_X9_addsGreatest at hf
  refine cx_aload_n C dX9_addsGreatest_0 0 rfl ?_
  refine cx_get (v := .ref (m_a 3)) (ci := 8) C iX9 dX9_addsGreatest_1 0 rfl rfl 2 (by decide) hw_1056 rfl ?_
  refine cx_iconst (v := 0) C dX9_addsGreatest_4 (by decide) ?_
  obtain ⟨g1, hf⟩ := cx_gd_at hf
  refine cx_iald C dX9_addsGreatest_5 3 rfl (cx_ib_in g1) ?_
  clear g1
  refine cx_istore_n (lv' := [(3, .int (m_book (cx_ix 0))), (0, .ref (m_a 0)), (1, .int p1), (2, .int p2)]) C dX9_addsGreatest_6 rfl (by decide) rfl ?_
  refine cx_aload_n C dX9_addsGreatest_7 1 rfl ?_
  refine cx_iconst (v := 3) C dX9_addsGreatest_8 (by decide) ?_
  refine cx_lconst (v := 0) C dX9_addsGreatest_9 (by decide) ?_
  obtain ⟨u2, e3, hf⟩ := cx_bd_at hf
  refine cx_Fvv (q := (RX9, TX9, 24)) (As := [.int 3, .long 0]) (rest := []) (w1 := (wd_Model k m_a u2.1 u2.2 m_book m_images m_kept m_before m_refused m_quiet m_text m_typed m_at m_start m_token m_value m_items m_many m_is m_likes m_without m_onePicture m_oneYear m_first m_second m_names)) hA C me_X9_sets hw_1045 (c_X9_sets l D k m_a m_limbs m_wide m_book m_images m_kept m_before m_refused m_quiet m_text m_typed m_at m_start m_token m_value m_items m_many m_is m_likes m_without m_onePicture m_oneYear m_first m_second m_names 3 0 u2 e3) dX9_addsGreatest_10 ⟨Nat.le_of_ble_eq_true rfl, Nat.le_of_ble_eq_true rfl⟩ ⟨Nat.zero_le _, Nat.zero_le _⟩ rfl rfl (Nat.le_of_ble_eq_true rfl) rfl rfl rfl ?_
  clear e3
  refine cx_iconst (v := 0) C dX9_addsGreatest_13 (by decide) ?_
  refine cx_istore (lv' := [(4, .int 0), (3, .int (m_book (cx_ix 0))), (0, .ref (m_a 0)), (1, .int p1), (2, .int p2)]) C dX9_addsGreatest_14 (by decide) rfl ?_
  refine cx_lv [2, 3, 4, 1, 0] rfl ?_
  exact L16 (m_book (cx_ix 0)) cx_N0 u2.1 u2.2 0 hf
theorem dX9_worths_0 : decode cX9_worths 0 = .ok (.aload_n 0, 1) := by decide +kernel
theorem dX9_worths_1 : decode cX9_worths 1 = .ok (.iload_n 1, 1) := by decide +kernel
theorem dX9_worths_2 : decode cX9_worths 2 = .ok (.invokevirtual 287, 3) := by decide +kernel
theorem dX9_worths_5 : decode cX9_worths 5 = .ok (.aload_n 0, 1) := by decide +kernel
theorem dX9_worths_6 : decode cX9_worths 6 = .ok (.getfield 3, 3) := by decide +kernel
theorem dX9_worths_9 : decode cX9_worths 9 = .ok (.bipush 6, 2) := by decide +kernel
theorem dX9_worths_11 : decode cX9_worths 11 = .ok (.iaload, 1) := by decide +kernel
theorem dX9_worths_12 : decode cX9_worths 12 = .ok (.ifCond .ne 5, 3) := by decide +kernel
theorem dX9_worths_15 : decode cX9_worths 15 = .ok (.iconst 0, 1) := by decide +kernel
theorem dX9_worths_16 : decode cX9_worths 16 = .ok (.ireturn, 1) := by decide +kernel
theorem dX9_worths_17 : decode cX9_worths 17 = .ok (.aload_n 0, 1) := by decide +kernel
theorem dX9_worths_18 : decode cX9_worths 18 = .ok (.getfield 51, 3) := by decide +kernel
theorem dX9_worths_21 : decode cX9_worths 21 = .ok (.iconst 0, 1) := by decide +kernel
theorem dX9_worths_22 : decode cX9_worths 22 = .ok (.iaload, 1) := by decide +kernel
theorem dX9_worths_23 : decode cX9_worths 23 = .ok (.istore_n 2, 1) := by decide +kernel
theorem dX9_worths_24 : decode cX9_worths 24 = .ok (.aload_n 0, 1) := by decide +kernel
theorem dX9_worths_25 : decode cX9_worths 25 = .ok (.bipush 9, 2) := by decide +kernel
theorem dX9_worths_27 : decode cX9_worths 27 = .ok (.lconst 0, 1) := by decide +kernel
theorem dX9_worths_28 : decode cX9_worths 28 = .ok (.invokevirtual 16, 3) := by decide +kernel
theorem dX9_worths_31 : decode cX9_worths 31 = .ok (.iconst 0, 1) := by decide +kernel
theorem dX9_worths_32 : decode cX9_worths 32 = .ok (.istore_n 3, 1) := by decide +kernel
theorem dX9_worths_33 : decode cX9_worths 33 = .ok (.iload_n 3, 1) := by decide +kernel
theorem dX9_worths_34 : decode cX9_worths 34 = .ok (.iconst 5, 1) := by decide +kernel
theorem dX9_worths_35 : decode cX9_worths 35 = .ok (.if_icmp .gt 46, 3) := by decide +kernel
theorem dX9_worths_38 : decode cX9_worths 38 = .ok (.iconst 0, 1) := by decide +kernel
theorem dX9_worths_39 : decode cX9_worths 39 = .ok (.istore 4, 2) := by decide +kernel
theorem dX9_worths_41 : decode cX9_worths 41 = .ok (.iload 4, 2) := by decide +kernel
theorem dX9_worths_43 : decode cX9_worths 43 = .ok (.aload_n 0, 1) := by decide +kernel
theorem dX9_worths_44 : decode cX9_worths 44 = .ok (.getfield 51, 3) := by decide +kernel
theorem dX9_worths_47 : decode cX9_worths 47 = .ok (.iconst 2, 1) := by decide +kernel
theorem dX9_worths_48 : decode cX9_worths 48 = .ok (.iaload, 1) := by decide +kernel
theorem dX9_worths_49 : decode cX9_worths 49 = .ok (.if_icmp .ge 26, 3) := by decide +kernel
theorem dX9_worths_52 : decode cX9_worths 52 = .ok (.iload_n 3, 1) := by decide +kernel
theorem dX9_worths_53 : decode cX9_worths 53 = .ok (.iload_n 2, 1) := by decide +kernel
theorem dX9_worths_54 : decode cX9_worths 54 = .ok (.if_icmp .lt 8, 3) := by decide +kernel
theorem dX9_worths_57 : decode cX9_worths 57 = .ok (.iload_n 3, 1) := by decide +kernel
theorem dX9_worths_58 : decode cX9_worths 58 = .ok (.iconst 5, 1) := by decide +kernel
theorem dX9_worths_59 : decode cX9_worths 59 = .ok (.if_icmp .ne 16, 3) := by decide +kernel
theorem dX9_worths_62 : decode cX9_worths 62 = .ok (.aload_n 0, 1) := by decide +kernel
theorem dX9_worths_63 : decode cX9_worths 63 = .ok (.iload 4, 2) := by decide +kernel
theorem dX9_worths_65 : decode cX9_worths 65 = .ok (.iload_n 3, 1) := by decide +kernel
theorem dX9_worths_66 : decode cX9_worths 66 = .ok (.invokevirtual 319, 3) := by decide +kernel
theorem dX9_worths_69 : decode cX9_worths 69 = .ok (.iinc 4 1, 3) := by decide +kernel
theorem dX9_worths_72 : decode cX9_worths 72 = .ok (.goto (-31), 3) := by decide +kernel
theorem dX9_worths_75 : decode cX9_worths 75 = .ok (.iinc 3 1, 3) := by decide +kernel
theorem dX9_worths_78 : decode cX9_worths 78 = .ok (.goto (-45), 3) := by decide +kernel
theorem dX9_worths_81 : decode cX9_worths 81 = .ok (.aload_n 0, 1) := by decide +kernel
theorem dX9_worths_82 : decode cX9_worths 82 = .ok (.bipush 7, 2) := by decide +kernel
theorem dX9_worths_84 : decode cX9_worths 84 = .ok (.invokevirtual 313, 3) := by decide +kernel
theorem dX9_worths_87 : decode cX9_worths 87 = .ok (.aload_n 0, 1) := by decide +kernel
theorem dX9_worths_88 : decode cX9_worths 88 = .ok (.bipush 7, 2) := by decide +kernel
theorem dX9_worths_90 : decode cX9_worths 90 = .ok (.bipush 10, 2) := by decide +kernel
theorem dX9_worths_92 : decode cX9_worths 92 = .ok (.iload_n 2, 1) := by decide +kernel
theorem dX9_worths_93 : decode cX9_worths 93 = .ok (.imul, 1) := by decide +kernel
theorem dX9_worths_94 : decode cX9_worths 94 = .ok (.invokevirtual 266, 3) := by decide +kernel
theorem dX9_worths_97 : decode cX9_worths 97 = .ok (.aload_n 0, 1) := by decide +kernel
theorem dX9_worths_98 : decode cX9_worths 98 = .ok (.bipush 9, 2) := by decide +kernel
theorem dX9_worths_100 : decode cX9_worths 100 = .ok (.bipush 7, 2) := by decide +kernel
theorem dX9_worths_102 : decode cX9_worths 102 = .ok (.invokevirtual 36, 3) := by decide +kernel
theorem dX9_worths_105 : decode cX9_worths 105 = .ok (.iconst 1, 1) := by decide +kernel
theorem dX9_worths_106 : decode cX9_worths 106 = .ok (.ireturn, 1) := by decide +kernel
theorem me_X9_worths : cx_Mv yX9_worths cX9_worths 5 (some .boolean) 1 := ⟨⟨⟨by decide +kernel, by decide +kernel, by decide +kernel⟩, hw_11, hw_1468⟩, hw_1467, hs_83⟩
noncomputable def f_X9_worths_J75 (x3_12 : Int32) (rc33 : (Nat → Int32) → (Nat → Int32) → Int32 → Option (Int32 × (Nat → Int32) × (Nat → Int32) × (Nat → Int32))) (a_25 : Nat → Int32) (a_26 : Nat → Int32) : Option (Int32 × (Nat → Int32) × (Nat → Int32) × (Nat → Int32)) := rc33 a_25 a_26 (x3_12 + 1)
noncomputable def f_X9_worths_J62 (m_book : Nat → Int32) (x3_12 : Int32) (a_20 : Nat → Int32) (a_21 : Nat → Int32) (x4_22 : Int32) (rc41 : (Nat → Int32) → (Nat → Int32) → Int32 → Option (Int32 × (Nat → Int32) × (Nat → Int32) × (Nat → Int32))) : Option (Int32 × (Nat → Int32) × (Nat → Int32) × (Nat → Int32)) := Option.bind (f_X9_addsGreatest a_20 a_21 m_book x4_22 x3_12) (fun u28 => rc41 u28.1 u28.2 (x4_22 + 1))
noncomputable def f_X9_worths_L41 (m_book : Nat → Int32) (x2_11 : Int32) (x3_12 : Int32) (rc33 : (Nat → Int32) → (Nat → Int32) → Int32 → Option (Int32 × (Nat → Int32) × (Nat → Int32) × (Nat → Int32))) (rc41 : (Nat → Int32) → (Nat → Int32) → Int32 → Option (Int32 × (Nat → Int32) × (Nat → Int32) × (Nat → Int32))) (a_20 : Nat → Int32) (a_21 : Nat → Int32) (x4_22 : Int32) : Option (Int32 × (Nat → Int32) × (Nat → Int32) × (Nat → Int32)) := cx_gd (cx_ib 2 140) (if (m_book (cx_ix 2)) ≤ x4_22 then (f_X9_worths_J75 x3_12 rc33 a_20 a_21) else (if x3_12 < x2_11 then (f_X9_worths_J62 m_book x3_12 a_20 a_21 x4_22 rc41) else (if x3_12 = 5 then (f_X9_worths_J62 m_book x3_12 a_20 a_21 x4_22 rc41) else (f_X9_worths_J75 x3_12 rc33 a_20 a_21))))
noncomputable def f_X9_worths_L41w (m_book : Nat → Int32) (x2_11 : Int32) (x3_12 : Int32) (rc33 : (Nat → Int32) → (Nat → Int32) → Int32 → Option (Int32 × (Nat → Int32) × (Nat → Int32) × (Nat → Int32))) (n : Nat) : (Nat → Int32) → (Nat → Int32) → Int32 → Option (Int32 × (Nat → Int32) × (Nat → Int32) × (Nat → Int32)) := Nat.rec (fun _ _ _ => none) (fun _ r => f_X9_worths_L41 m_book x2_11 x3_12 rc33 r) n
noncomputable def f_X9_worths_L33 (m_book : Nat → Int32) (a_10 : Nat → Int32) (x2_11 : Int32) (rc33 : (Nat → Int32) → (Nat → Int32) → Int32 → Option (Int32 × (Nat → Int32) × (Nat → Int32) × (Nat → Int32))) (a_8 : Nat → Int32) (a_9 : Nat → Int32) (x3_12 : Int32) : Option (Int32 × (Nat → Int32) × (Nat → Int32) × (Nat → Int32)) := if 5 < x3_12 then (Option.bind (f_X9_rights a_8 a_9 m_book 7) (fun u14 => Option.bind (f_X9_times u14.1 u14.2 7 (10 * x2_11)) (fun u16 => Option.bind (f_X9_lessens u16.1 u16.2 9 7) (fun u18 => some ((1, u18.1, u18.2, a_10)))))) else (f_X9_worths_L41w m_book x2_11 x3_12 rc33 cx_N0 a_8 a_9 0)
noncomputable def f_X9_worths_L33w (m_book : Nat → Int32) (a_10 : Nat → Int32) (x2_11 : Int32) (n : Nat) : (Nat → Int32) → (Nat → Int32) → Int32 → Option (Int32 × (Nat → Int32) × (Nat → Int32) × (Nat → Int32)) := Nat.rec (fun _ _ _ => none) (fun _ r => f_X9_worths_L33 m_book a_10 x2_11 r) n
noncomputable def f_X9_worths (m_limbs : Nat → Int32) (m_wide : Nat → Int32) (m_book : Nat → Int32) (m_is : Nat → Int32) (m_likes : Nat → Int32) (m_without : Int32) (m_onePicture : Int32) (m_oneYear : Int32) (m_first : Int32) (m_second : Int32) (p1 : Int32) : Option (Int32 × (Nat → Int32) × (Nat → Int32) × (Nat → Int32)) := Option.bind (f_X9_shares m_limbs m_wide m_book m_is m_likes m_without m_onePicture m_oneYear m_first m_second p1) (fun u1 => cx_gd (cx_ib 6 270) (if (u1.2.1 (cx_ix 6)) = 0 then (some ((0, u1.1, u1.2.1, u1.2.2))) else (cx_gd (cx_ib 0 140) (Option.bind (f_X9_sets u1.1 u1.2.1 9 0) (fun u6 => f_X9_worths_L33w m_book u1.2.2 (m_book (cx_ix 0)) cx_N0 u6.1 u6.2 0)))))
set_option maxHeartbeats 4000000 in
set_option maxRecDepth 100000 in
theorem c_X9_worths (l : Launch) (D : va_G) (k : Nat → ClassId) (m_a : Nat → Nat) (m_limbs : Nat → Int32) (m_wide : Nat → Int32) (m_book : Nat → Int32) (m_images : Nat → Int32) (m_kept : Nat → Int32) (m_before : Nat → Int32) (m_refused : Nat → Int32) (m_quiet : Int32) (m_text : Nat → Int32) (m_typed : Int32) (m_at : Int32) (m_start : Int32) (m_token : Int32) (m_value : Int32) (m_items : Nat → Int32) (m_many : Int32) (m_is : Nat → Int32) (m_likes : Nat → Int32) (m_without : Int32) (m_onePicture : Int32) (m_oneYear : Int32) (m_first : Int32) (m_second : Int32) (m_names : Nat → Int32) (p1 : Int32) (y : Int32 × (Nat → Int32) × (Nat → Int32) × (Nat → Int32)) (hf : f_X9_worths m_limbs m_wide m_book m_is m_likes m_without m_onePicture m_oneYear m_first m_second p1 = some y) : cx_M l yX9_worths cX9_worths 5 (some .boolean) 7 D k [.ref (m_a 0), .int p1] (wd_Model k m_a m_limbs m_wide m_book m_images m_kept m_before m_refused m_quiet m_text m_typed m_at m_start m_token m_value m_items m_many m_is m_likes m_without m_onePicture m_oneYear m_first m_second m_names) (fun sz => cx_Qi D y.1 (wd_Model k m_a m_limbs m_wide m_book m_images m_kept m_before m_refused m_quiet m_text m_typed m_at m_start m_token m_value m_items m_many m_is m_likes m_without m_onePicture m_oneYear m_first m_second m_names) (wd_Model k m_a y.2.1 y.2.2.1 m_book m_images m_kept m_before m_refused m_quiet m_text m_typed m_at m_start m_token m_value m_items m_many y.2.2.2 m_likes m_without m_onePicture m_oneYear m_first m_second m_names) sz) := by
  refine cx_met (own := "NamelessBoxModel") (by decide) rfl (Nat.le_of_ble_eq_true rfl) ?_
  intro p e s m args below meth c A Q C hA hQ hr hlk
  refine cx_lv (lv' := [(0, .ref (m_a 0)), (1, .int p1)]) [0, 1] rfl ?_
  have L33 : ∀ (a_10 : Nat → Int32) (x2_11 : Int32) (n33 : Nat) (a_8 : Nat → Int32) (a_9 : Nat → Int32) (x3_12 : Int32), f_X9_worths_L33w m_book a_10 x2_11 n33 a_8 a_9 x3_12 = some y → cx_S p l e (cx_rm 7) s m args below meth c A D 5 0 0 Q 33 [(0, .ref (m_a 0)), (2, .int x2_11), (3, .int x3_12)] [] (wd_Model k m_a a_8 a_9 m_book m_images m_kept m_before m_refused m_quiet m_text m_typed m_at m_start m_token m_value m_items m_many a_10 m_likes m_without m_onePicture m_oneYear m_first m_second m_names) := by
    intro a_10 x2_11 n33
    induction n33 with
    | zero =>
      intro a_8 a_9 x3_12 hf
      exact absurd (show (none : Option (Int32 × (Nat → Int32) × (Nat → Int32) × (Nat → Int32))) = some y from hf) (fun h => by cases h)
    | succ n33 ih33 =>
      intro a_8 a_9 x3_12 hf
      have hf : f_X9_worths_L33 m_book a_10 x2_11 (f_X9_worths_L33w m_book a_10 x2_11 n33) a_8 a_9 x3_12 = some y := hf
      have J75 : ∀ (a_25 : Nat → Int32) (a_26 : Nat → Int32), f_X9_worths_J75 x3_12 (f_X9_worths_L33w m_book a_10 x2_11 n33) a_25 a_26 = some y → cx_S p l e (cx_rm 7) s m args below meth c A D 5 0 0 Q 75 [(0, .ref (m_a 0)), (2, .int x2_11), (3, .int x3_12)] [] (wd_Model k m_a a_25 a_26 m_book m_images m_kept m_before m_refused m_quiet m_text m_typed m_at m_start m_token m_value m_items m_many a_10 m_likes m_without m_onePicture m_oneYear m_first m_second m_names) := by
        intro a_25 a_26 hf
        unfold f_X9_worths_J75 at hf
        refine cx_iinc (v := x3_12 + 1) (lv' := [(3, .int (x3_12 + 1)), (0, .ref (m_a 0)), (2, .int x2_11)]) C dX9_worths_75 2 rfl rfl (by decide) rfl ?_
        refine cx_goto (tgt := 33) C dX9_worths_78 (by decide) ?_
        refine cx_lv [1, 2, 0] rfl ?_
        exact ih33 a_25 a_26 (x3_12 + 1) hf
      have L41 : ∀ (n41 : Nat) (a_20 : Nat → Int32) (a_21 : Nat → Int32) (x4_22 : Int32), f_X9_worths_L41w m_book x2_11 x3_12 (f_X9_worths_L33w m_book a_10 x2_11 n33) n41 a_20 a_21 x4_22 = some y → cx_S p l e (cx_rm 7) s m args below meth c A D 5 0 0 Q 41 [(0, .ref (m_a 0)), (2, .int x2_11), (3, .int x3_12), (4, .int x4_22)] [] (wd_Model k m_a a_20 a_21 m_book m_images m_kept m_before m_refused m_quiet m_text m_typed m_at m_start m_token m_value m_items m_many a_10 m_likes m_without m_onePicture m_oneYear m_first m_second m_names) := by
        intro  n41
        induction n41 with
        | zero =>
          intro a_20 a_21 x4_22 hf
          exact absurd (show (none : Option (Int32 × (Nat → Int32) × (Nat → Int32) × (Nat → Int32))) = some y from hf) (fun h => by cases h)
        | succ n41 ih41 =>
          intro a_20 a_21 x4_22 hf
          have hf : f_X9_worths_L41 m_book x2_11 x3_12 (f_X9_worths_L33w m_book a_10 x2_11 n33) (f_X9_worths_L41w m_book x2_11 x3_12 (f_X9_worths_L33w m_book a_10 x2_11 n33) n41) a_20 a_21 x4_22 = some y := hf
          have J62 : f_X9_worths_J62 m_book x3_12 a_20 a_21 x4_22 (f_X9_worths_L41w m_book x2_11 x3_12 (f_X9_worths_L33w m_book a_10 x2_11 n33) n41) = some y → cx_S p l e (cx_rm 7) s m args below meth c A D 5 0 0 Q 62 [(0, .ref (m_a 0)), (2, .int x2_11), (3, .int x3_12), (4, .int x4_22)] [] (wd_Model k m_a a_20 a_21 m_book m_images m_kept m_before m_refused m_quiet m_text m_typed m_at m_start m_token m_value m_items m_many a_10 m_likes m_without m_onePicture m_oneYear m_first m_second m_names) := by
            intro  hf
            unfold f_X9_worths_J62 at hf
            refine cx_aload_n C dX9_worths_62 0 rfl ?_
            refine cx_iload C dX9_worths_63 3 rfl ?_
            refine cx_iload_n C dX9_worths_65 2 rfl ?_
            obtain ⟨u28, e29, hf⟩ := cx_bd_at hf
            refine cx_Fvv (q := (RX9, TX9, 24)) (As := [.int x4_22, .int x3_12]) (rest := []) (w1 := (wd_Model k m_a u28.1 u28.2 m_book m_images m_kept m_before m_refused m_quiet m_text m_typed m_at m_start m_token m_value m_items m_many a_10 m_likes m_without m_onePicture m_oneYear m_first m_second m_names)) hA C me_X9_addsGreatest hw_1469 (c_X9_addsGreatest l D k m_a a_20 a_21 m_book m_images m_kept m_before m_refused m_quiet m_text m_typed m_at m_start m_token m_value m_items m_many a_10 m_likes m_without m_onePicture m_oneYear m_first m_second m_names x4_22 x3_12 u28 e29) dX9_worths_66 ⟨Nat.le_of_ble_eq_true rfl, Nat.le_of_ble_eq_true rfl⟩ ⟨Nat.zero_le _, Nat.zero_le _⟩ rfl rfl (Nat.le_of_ble_eq_true rfl) rfl rfl rfl ?_
            clear e29
            refine cx_iinc (v := x4_22 + 1) (lv' := [(4, .int (x4_22 + 1)), (0, .ref (m_a 0)), (2, .int x2_11), (3, .int x3_12)]) C dX9_worths_69 3 rfl rfl (by decide) rfl ?_
            refine cx_goto (tgt := 41) C dX9_worths_72 (by decide) ?_
            refine cx_lv [1, 2, 3, 0] rfl ?_
            exact ih41 u28.1 u28.2 (x4_22 + 1) hf
          unfold f_X9_worths_L41 at hf
          refine cx_iload C dX9_worths_41 3 rfl ?_
          refine cx_aload_n C dX9_worths_43 0 rfl ?_
          refine cx_get (v := .ref (m_a 3)) (ci := 8) C iX9 dX9_worths_44 0 rfl rfl 2 (by decide) hw_1056 rfl ?_
          refine cx_iconst (v := 2) C dX9_worths_47 (by decide) ?_
          obtain ⟨g23, hf⟩ := cx_gd_at hf
          refine cx_iald C dX9_worths_48 3 rfl (cx_ib_in g23) ?_
          clear g23
          refine cx_icmp_ge (tgt := 75) C dX9_worths_49 (by decide) (fun c24 => ?_) (fun c24 => ?_)
          · have hf := cx_if_t hf c24
            clear c24
            refine cx_lv [0, 1, 2] rfl ?_
            exact J75 a_20 a_21 hf
          · have hf := cx_if_f hf c24
            clear c24
            refine cx_iload_n C dX9_worths_52 2 rfl ?_
            refine cx_iload_n C dX9_worths_53 1 rfl ?_
            refine cx_icmp_lt (tgt := 62) C dX9_worths_54 (by decide) (fun c27 => ?_) (fun c27 => ?_)
            · have hf := cx_if_t hf c27
              clear c27
              exact J62 hf
            · have hf := cx_if_f hf c27
              clear c27
              refine cx_iload_n C dX9_worths_57 2 rfl ?_
              refine cx_iconst (v := 5) C dX9_worths_58 (by decide) ?_
              refine cx_icmp_ne (tgt := 75) C dX9_worths_59 (by decide) (fun c30 => ?_) (fun c30 => ?_)
              · have hf := cx_if_f hf c30
                clear c30
                refine cx_lv [0, 1, 2] rfl ?_
                exact J75 a_20 a_21 hf
              · have hf := cx_if_t hf c30
                clear c30
                exact J62 hf
      unfold f_X9_worths_L33 at hf
      refine cx_iload_n C dX9_worths_33 2 rfl ?_
      refine cx_iconst (v := 5) C dX9_worths_34 (by decide) ?_
      refine cx_icmp_gt (tgt := 81) C dX9_worths_35 (by decide) (fun c13 => ?_) (fun c13 => ?_)
      · have hf := cx_if_t hf c13
        clear c13
        refine cx_aload_n C dX9_worths_81 0 rfl ?_
        refine cx_bipush (v := 7) C dX9_worths_82 (by decide) ?_
        obtain ⟨u14, e15, hf⟩ := cx_bd_at hf
        refine cx_Fvv (q := (RX9, TX9, 24)) (As := [.int 7]) (rest := []) (w1 := (wd_Model k m_a u14.1 u14.2 m_book m_images m_kept m_before m_refused m_quiet m_text m_typed m_at m_start m_token m_value m_items m_many a_10 m_likes m_without m_onePicture m_oneYear m_first m_second m_names)) hA C me_X9_rights hw_1457 (c_X9_rights l D k m_a a_8 a_9 m_book m_images m_kept m_before m_refused m_quiet m_text m_typed m_at m_start m_token m_value m_items m_many a_10 m_likes m_without m_onePicture m_oneYear m_first m_second m_names 7 u14 e15) dX9_worths_84 ⟨Nat.le_of_ble_eq_true rfl, Nat.le_of_ble_eq_true rfl⟩ ⟨Nat.zero_le _, Nat.zero_le _⟩ rfl rfl (Nat.le_of_ble_eq_true rfl) rfl rfl rfl ?_
        clear e15
        refine cx_aload_n C dX9_worths_87 0 rfl ?_
        refine cx_bipush (v := 7) C dX9_worths_88 (by decide) ?_
        refine cx_bipush (v := 10) C dX9_worths_90 (by decide) ?_
        refine cx_iload_n C dX9_worths_92 1 rfl ?_
        refine cx_imul C dX9_worths_93 ?_
        obtain ⟨u16, e17, hf⟩ := cx_bd_at hf
        refine cx_Fvv (q := (RX9, TX9, 24)) (As := [.int 7, .int (10 * x2_11)]) (rest := []) (w1 := (wd_Model k m_a u16.1 u16.2 m_book m_images m_kept m_before m_refused m_quiet m_text m_typed m_at m_start m_token m_value m_items m_many a_10 m_likes m_without m_onePicture m_oneYear m_first m_second m_names)) hA C me_X9_times hw_1328 (c_X9_times l D k m_a u14.1 u14.2 m_book m_images m_kept m_before m_refused m_quiet m_text m_typed m_at m_start m_token m_value m_items m_many a_10 m_likes m_without m_onePicture m_oneYear m_first m_second m_names 7 (10 * x2_11) u16 e17) dX9_worths_94 ⟨Nat.le_of_ble_eq_true rfl, Nat.le_of_ble_eq_true rfl⟩ ⟨Nat.zero_le _, Nat.zero_le _⟩ rfl rfl (Nat.le_of_ble_eq_true rfl) rfl rfl rfl ?_
        clear e17
        refine cx_aload_n C dX9_worths_97 0 rfl ?_
        refine cx_bipush (v := 9) C dX9_worths_98 (by decide) ?_
        refine cx_bipush (v := 7) C dX9_worths_100 (by decide) ?_
        obtain ⟨u18, e19, hf⟩ := cx_bd_at hf
        refine cx_Fvv (q := (RX9, TX9, 24)) (As := [.int 9, .int 7]) (rest := []) (w1 := (wd_Model k m_a u18.1 u18.2 m_book m_images m_kept m_before m_refused m_quiet m_text m_typed m_at m_start m_token m_value m_items m_many a_10 m_likes m_without m_onePicture m_oneYear m_first m_second m_names)) hA C me_X9_lessens hw_1361 (c_X9_lessens l D k m_a u16.1 u16.2 m_book m_images m_kept m_before m_refused m_quiet m_text m_typed m_at m_start m_token m_value m_items m_many a_10 m_likes m_without m_onePicture m_oneYear m_first m_second m_names 9 7 u18 e19) dX9_worths_102 ⟨Nat.le_of_ble_eq_true rfl, Nat.le_of_ble_eq_true rfl⟩ ⟨Nat.zero_le _, Nat.zero_le _⟩ rfl rfl (Nat.le_of_ble_eq_true rfl) rfl rfl rfl ?_
        clear e19
        refine cx_iconst (v := 1) C dX9_worths_105 (by decide) ?_
        obtain rfl := Option.some.inj hf
        exact cx_zret C hA hQ hr hlk dX9_worths_106 rfl rfl rfl
      · have hf := cx_if_f hf c13
        clear c13
        refine cx_iconst (v := 0) C dX9_worths_38 (by decide) ?_
        refine cx_istore (lv' := [(4, .int 0), (0, .ref (m_a 0)), (2, .int x2_11), (3, .int x3_12)]) C dX9_worths_39 (by decide) rfl ?_
        refine cx_lv [1, 2, 3, 0] rfl ?_
        exact L41 cx_N0 a_8 a_9 0 hf
  unfold f_X9_worths at hf
  refine cx_aload_n C dX9_worths_0 0 rfl ?_
  refine cx_iload_n C dX9_worths_1 1 rfl ?_
  obtain ⟨u1, e2, hf⟩ := cx_bd_at hf
  refine cx_Fvv (q := (RX9, TX9, 24)) (As := [.int p1]) (rest := []) (w1 := (wd_Model k m_a u1.1 u1.2.1 m_book m_images m_kept m_before m_refused m_quiet m_text m_typed m_at m_start m_token m_value m_items m_many u1.2.2 m_likes m_without m_onePicture m_oneYear m_first m_second m_names)) hA C me_X9_shares hw_1288 (c_X9_shares l D k m_a m_limbs m_wide m_book m_images m_kept m_before m_refused m_quiet m_text m_typed m_at m_start m_token m_value m_items m_many m_is m_likes m_without m_onePicture m_oneYear m_first m_second m_names p1 u1 e2) dX9_worths_2 ⟨Nat.le_of_ble_eq_true rfl, Nat.le_of_ble_eq_true rfl⟩ ⟨Nat.zero_le _, Nat.zero_le _⟩ rfl rfl (Nat.le_of_ble_eq_true rfl) rfl rfl rfl ?_
  clear e2
  refine cx_aload_n C dX9_worths_5 0 rfl ?_
  refine cx_get (v := .ref (m_a 2)) (ci := 8) C iX9 dX9_worths_6 0 rfl rfl 1 (by decide) hw_1055 rfl ?_
  refine cx_bipush (v := 6) C dX9_worths_9 (by decide) ?_
  obtain ⟨g3, hf⟩ := cx_gd_at hf
  refine cx_iald C dX9_worths_11 2 rfl (cx_ib_in g3) ?_
  clear g3
  refine cx_if_ne (tgt := 17) C dX9_worths_12 (by decide) (fun c4 => ?_) (fun c4 => ?_)
  · have hf := cx_if_f hf c4
    clear c4
    refine cx_aload_n C dX9_worths_17 0 rfl ?_
    refine cx_get (v := .ref (m_a 3)) (ci := 8) C iX9 dX9_worths_18 0 rfl rfl 2 (by decide) hw_1056 rfl ?_
    refine cx_iconst (v := 0) C dX9_worths_21 (by decide) ?_
    obtain ⟨g5, hf⟩ := cx_gd_at hf
    refine cx_iald C dX9_worths_22 3 rfl (cx_ib_in g5) ?_
    clear g5
    refine cx_istore_n (lv' := [(2, .int (m_book (cx_ix 0))), (0, .ref (m_a 0)), (1, .int p1)]) C dX9_worths_23 rfl (by decide) rfl ?_
    refine cx_aload_n C dX9_worths_24 1 rfl ?_
    refine cx_bipush (v := 9) C dX9_worths_25 (by decide) ?_
    refine cx_lconst (v := 0) C dX9_worths_27 (by decide) ?_
    obtain ⟨u6, e7, hf⟩ := cx_bd_at hf
    refine cx_Fvv (q := (RX9, TX9, 24)) (As := [.int 9, .long 0]) (rest := []) (w1 := (wd_Model k m_a u6.1 u6.2 m_book m_images m_kept m_before m_refused m_quiet m_text m_typed m_at m_start m_token m_value m_items m_many u1.2.2 m_likes m_without m_onePicture m_oneYear m_first m_second m_names)) hA C me_X9_sets hw_1045 (c_X9_sets l D k m_a u1.1 u1.2.1 m_book m_images m_kept m_before m_refused m_quiet m_text m_typed m_at m_start m_token m_value m_items m_many u1.2.2 m_likes m_without m_onePicture m_oneYear m_first m_second m_names 9 0 u6 e7) dX9_worths_28 ⟨Nat.le_of_ble_eq_true rfl, Nat.le_of_ble_eq_true rfl⟩ ⟨Nat.zero_le _, Nat.zero_le _⟩ rfl rfl (Nat.le_of_ble_eq_true rfl) rfl rfl rfl ?_
    clear e7
    refine cx_iconst (v := 0) C dX9_worths_31 (by decide) ?_
    refine cx_istore_n (lv' := [(3, .int 0), (2, .int (m_book (cx_ix 0))), (0, .ref (m_a 0)), (1, .int p1)]) C dX9_worths_32 rfl (by decide) rfl ?_
    refine cx_lv [2, 1, 0] rfl ?_
    exact L33 u1.2.2 (m_book (cx_ix 0)) cx_N0 u6.1 u6.2 0 hf
  · have hf := cx_if_t hf c4
    clear c4
    refine cx_iconst (v := 0) C dX9_worths_15 (by decide) ?_
    obtain rfl := Option.some.inj hf
    exact cx_zret C hA hQ hr hlk dX9_worths_16 rfl rfl rfl
theorem dX9_tellsWorth_0 : decode cX9_tellsWorth 0 = .ok (.aload_n 0, 1) := by decide +kernel
theorem dX9_tellsWorth_1 : decode cX9_tellsWorth 1 = .ok (.bipush 7, 2) := by decide +kernel
theorem dX9_tellsWorth_3 : decode cX9_tellsWorth 3 = .ok (.iload_n 1, 1) := by decide +kernel
theorem dX9_tellsWorth_4 : decode cX9_tellsWorth 4 = .ok (.invokevirtual 20, 3) := by decide +kernel
theorem dX9_tellsWorth_7 : decode cX9_tellsWorth 7 = .ok (.aload_n 0, 1) := by decide +kernel
theorem dX9_tellsWorth_8 : decode cX9_tellsWorth 8 = .ok (.getfield 51, 3) := by decide +kernel
theorem dX9_tellsWorth_11 : decode cX9_tellsWorth 11 = .ok (.iconst 0, 1) := by decide +kernel
theorem dX9_tellsWorth_12 : decode cX9_tellsWorth 12 = .ok (.iaload, 1) := by decide +kernel
theorem dX9_tellsWorth_13 : decode cX9_tellsWorth 13 = .ok (.ifCond .le 18, 3) := by decide +kernel
theorem dX9_tellsWorth_16 : decode cX9_tellsWorth 16 = .ok (.aload_n 0, 1) := by decide +kernel
theorem dX9_tellsWorth_17 : decode cX9_tellsWorth 17 = .ok (.bipush 6, 2) := by decide +kernel
theorem dX9_tellsWorth_19 : decode cX9_tellsWorth 19 = .ok (.bipush 10, 2) := by decide +kernel
theorem dX9_tellsWorth_21 : decode cX9_tellsWorth 21 = .ok (.aload_n 0, 1) := by decide +kernel
theorem dX9_tellsWorth_22 : decode cX9_tellsWorth 22 = .ok (.getfield 51, 3) := by decide +kernel
theorem dX9_tellsWorth_25 : decode cX9_tellsWorth 25 = .ok (.iconst 0, 1) := by decide +kernel
theorem dX9_tellsWorth_26 : decode cX9_tellsWorth 26 = .ok (.iaload, 1) := by decide +kernel
theorem dX9_tellsWorth_27 : decode cX9_tellsWorth 27 = .ok (.imul, 1) := by decide +kernel
theorem dX9_tellsWorth_28 : decode cX9_tellsWorth 28 = .ok (.invokevirtual 266, 3) := by decide +kernel
theorem dX9_tellsWorth_31 : decode cX9_tellsWorth 31 = .ok (.aload_n 0, 1) := by decide +kernel
theorem dX9_tellsWorth_32 : decode cX9_tellsWorth 32 = .ok (.invokevirtual 293, 3) := by decide +kernel
theorem dX9_tellsWorth_35 : decode cX9_tellsWorth 35 = .ok (.ireturn, 1) := by decide +kernel
theorem me_X9_tellsWorth : cx_Mv yX9_tellsWorth cX9_tellsWorth 2 (some .int) 1 := ⟨⟨⟨by decide +kernel, by decide +kernel, by decide +kernel⟩, hw_11, hw_1480⟩, hw_1479, hs_86⟩
noncomputable def f_X9_tellsWorth_J31 (a_5 : Nat → Int32) (a_6 : Nat → Int32) : Option (Int32 × (Nat → Int32) × (Nat → Int32)) := Option.bind (f_X9_tellsHit a_5 a_6) (fun u7 => some ((u7.1, u7.2.1, u7.2.2)))
noncomputable def f_X9_tellsWorth (m_limbs : Nat → Int32) (m_wide : Nat → Int32) (m_book : Nat → Int32) (p1 : Int32) : Option (Int32 × (Nat → Int32) × (Nat → Int32)) := Option.bind (f_X9_takes m_limbs m_wide 7 p1) (fun u1 => cx_gd (cx_ib 0 140) (if (m_book (cx_ix 0)) ≤ 0 then (f_X9_tellsWorth_J31 u1.1 u1.2) else (cx_gd (cx_ib 0 140) (Option.bind (f_X9_times u1.1 u1.2 6 (10 * (m_book (cx_ix 0)))) (fun u10 => f_X9_tellsWorth_J31 u10.1 u10.2)))))
set_option maxHeartbeats 4000000 in
set_option maxRecDepth 100000 in
theorem c_X9_tellsWorth (l : Launch) (D : va_G) (k : Nat → ClassId) (m_a : Nat → Nat) (m_limbs : Nat → Int32) (m_wide : Nat → Int32) (m_book : Nat → Int32) (m_images : Nat → Int32) (m_kept : Nat → Int32) (m_before : Nat → Int32) (m_refused : Nat → Int32) (m_quiet : Int32) (m_text : Nat → Int32) (m_typed : Int32) (m_at : Int32) (m_start : Int32) (m_token : Int32) (m_value : Int32) (m_items : Nat → Int32) (m_many : Int32) (m_is : Nat → Int32) (m_likes : Nat → Int32) (m_without : Int32) (m_onePicture : Int32) (m_oneYear : Int32) (m_first : Int32) (m_second : Int32) (m_names : Nat → Int32) (p1 : Int32) (y : Int32 × (Nat → Int32) × (Nat → Int32)) (hf : f_X9_tellsWorth m_limbs m_wide m_book p1 = some y) : cx_M l yX9_tellsWorth cX9_tellsWorth 2 (some .int) 5 D k [.ref (m_a 0), .int p1] (wd_Model k m_a m_limbs m_wide m_book m_images m_kept m_before m_refused m_quiet m_text m_typed m_at m_start m_token m_value m_items m_many m_is m_likes m_without m_onePicture m_oneYear m_first m_second m_names) (fun sz => cx_Qi D y.1 (wd_Model k m_a m_limbs m_wide m_book m_images m_kept m_before m_refused m_quiet m_text m_typed m_at m_start m_token m_value m_items m_many m_is m_likes m_without m_onePicture m_oneYear m_first m_second m_names) (wd_Model k m_a y.2.1 y.2.2 m_book m_images m_kept m_before m_refused m_quiet m_text m_typed m_at m_start m_token m_value m_items m_many m_is m_likes m_without m_onePicture m_oneYear m_first m_second m_names) sz) := by
  refine cx_met (own := "NamelessBoxModel") (by decide) rfl (Nat.le_of_ble_eq_true rfl) ?_
  intro p e s m args below meth c A Q C hA hQ hr hlk
  refine cx_lv (lv' := [(0, .ref (m_a 0)), (1, .int p1)]) [0, 1] rfl ?_
  have J31 : ∀ (a_5 : Nat → Int32) (a_6 : Nat → Int32), f_X9_tellsWorth_J31 a_5 a_6 = some y → cx_S p l e (cx_rm 5) s m args below meth c A D 2 0 0 Q 31 [(0, .ref (m_a 0))] [] (wd_Model k m_a a_5 a_6 m_book m_images m_kept m_before m_refused m_quiet m_text m_typed m_at m_start m_token m_value m_items m_many m_is m_likes m_without m_onePicture m_oneYear m_first m_second m_names) := by
    intro a_5 a_6 hf
    unfold f_X9_tellsWorth_J31 at hf
    refine cx_aload_n C dX9_tellsWorth_31 0 rfl ?_
    obtain ⟨u7, e8, hf⟩ := cx_bd_at hf
    refine cx_Fvi (q := (RX9, TX9, 24)) (As := []) (rest := []) (w1 := (wd_Model k m_a u7.2.1 u7.2.2 m_book m_images m_kept m_before m_refused m_quiet m_text m_typed m_at m_start m_token m_value m_items m_many m_is m_likes m_without m_onePicture m_oneYear m_first m_second m_names)) hA C me_X9_tellsHit hw_1341 (c_X9_tellsHit l D k m_a a_5 a_6 m_book m_images m_kept m_before m_refused m_quiet m_text m_typed m_at m_start m_token m_value m_items m_many m_is m_likes m_without m_onePicture m_oneYear m_first m_second m_names u7 e8) dX9_tellsWorth_32 ⟨Nat.le_of_ble_eq_true rfl, Nat.le_of_ble_eq_true rfl⟩ ⟨Nat.zero_le _, Nat.zero_le _⟩ rfl rfl (Nat.le_of_ble_eq_true rfl) rfl rfl rfl ?_
    clear e8
    obtain rfl := Option.some.inj hf
    exact cx_iret C hA hQ hr hlk dX9_tellsWorth_35 rfl rfl
  unfold f_X9_tellsWorth at hf
  refine cx_aload_n C dX9_tellsWorth_0 0 rfl ?_
  refine cx_bipush (v := 7) C dX9_tellsWorth_1 (by decide) ?_
  refine cx_iload_n C dX9_tellsWorth_3 1 rfl ?_
  obtain ⟨u1, e2, hf⟩ := cx_bd_at hf
  refine cx_Fvv (q := (RX9, TX9, 24)) (As := [.int 7, .int p1]) (rest := []) (w1 := (wd_Model k m_a u1.1 u1.2 m_book m_images m_kept m_before m_refused m_quiet m_text m_typed m_at m_start m_token m_value m_items m_many m_is m_likes m_without m_onePicture m_oneYear m_first m_second m_names)) hA C me_X9_takes hw_1324 (c_X9_takes l D k m_a m_limbs m_wide m_book m_images m_kept m_before m_refused m_quiet m_text m_typed m_at m_start m_token m_value m_items m_many m_is m_likes m_without m_onePicture m_oneYear m_first m_second m_names 7 p1 u1 e2) dX9_tellsWorth_4 ⟨Nat.le_of_ble_eq_true rfl, Nat.le_of_ble_eq_true rfl⟩ ⟨Nat.zero_le _, Nat.zero_le _⟩ rfl rfl (Nat.le_of_ble_eq_true rfl) rfl rfl rfl ?_
  clear e2
  refine cx_aload_n C dX9_tellsWorth_7 0 rfl ?_
  refine cx_get (v := .ref (m_a 3)) (ci := 8) C iX9 dX9_tellsWorth_8 0 rfl rfl 2 (by decide) hw_1056 rfl ?_
  refine cx_iconst (v := 0) C dX9_tellsWorth_11 (by decide) ?_
  obtain ⟨g3, hf⟩ := cx_gd_at hf
  refine cx_iald C dX9_tellsWorth_12 3 rfl (cx_ib_in g3) ?_
  clear g3
  refine cx_if_le (tgt := 31) C dX9_tellsWorth_13 (by decide) (fun c4 => ?_) (fun c4 => ?_)
  · have hf := cx_if_t hf c4
    clear c4
    refine cx_lv [0] rfl ?_
    exact J31 u1.1 u1.2 hf
  · have hf := cx_if_f hf c4
    clear c4
    refine cx_aload_n C dX9_tellsWorth_16 0 rfl ?_
    refine cx_bipush (v := 6) C dX9_tellsWorth_17 (by decide) ?_
    refine cx_bipush (v := 10) C dX9_tellsWorth_19 (by decide) ?_
    refine cx_aload_n C dX9_tellsWorth_21 0 rfl ?_
    refine cx_get (v := .ref (m_a 3)) (ci := 8) C iX9 dX9_tellsWorth_22 0 rfl rfl 2 (by decide) hw_1056 rfl ?_
    refine cx_iconst (v := 0) C dX9_tellsWorth_25 (by decide) ?_
    obtain ⟨g9, hf⟩ := cx_gd_at hf
    refine cx_iald C dX9_tellsWorth_26 3 rfl (cx_ib_in g9) ?_
    clear g9
    refine cx_imul C dX9_tellsWorth_27 ?_
    obtain ⟨u10, e11, hf⟩ := cx_bd_at hf
    refine cx_Fvv (q := (RX9, TX9, 24)) (As := [.int 6, .int (10 * (m_book (cx_ix 0)))]) (rest := []) (w1 := (wd_Model k m_a u10.1 u10.2 m_book m_images m_kept m_before m_refused m_quiet m_text m_typed m_at m_start m_token m_value m_items m_many m_is m_likes m_without m_onePicture m_oneYear m_first m_second m_names)) hA C me_X9_times hw_1328 (c_X9_times l D k m_a u1.1 u1.2 m_book m_images m_kept m_before m_refused m_quiet m_text m_typed m_at m_start m_token m_value m_items m_many m_is m_likes m_without m_onePicture m_oneYear m_first m_second m_names 6 (10 * (m_book (cx_ix 0))) u10 e11) dX9_tellsWorth_28 ⟨Nat.le_of_ble_eq_true rfl, Nat.le_of_ble_eq_true rfl⟩ ⟨Nat.zero_le _, Nat.zero_le _⟩ rfl rfl (Nat.le_of_ble_eq_true rfl) rfl rfl rfl ?_
    clear e11
    refine cx_lv [0] rfl ?_
    exact J31 u10.1 u10.2 hf
theorem dX9_ask_0 : decode cX9_ask 0 = .ok (.aload_n 0, 1) := by decide +kernel
theorem dX9_ask_1 : decode cX9_ask 1 = .ok (.iload_n 1, 1) := by decide +kernel
theorem dX9_ask_2 : decode cX9_ask 2 = .ok (.invokevirtual 119, 3) := by decide +kernel
theorem dX9_ask_5 : decode cX9_ask 5 = .ok (.ifCond .ne 8, 3) := by decide +kernel
theorem dX9_ask_8 : decode cX9_ask 8 = .ok (.aload_n 0, 1) := by decide +kernel
theorem dX9_ask_9 : decode cX9_ask 9 = .ok (.invokevirtual 99, 3) := by decide +kernel
theorem dX9_ask_12 : decode cX9_ask 12 = .ok (.ireturn, 1) := by decide +kernel
theorem dX9_ask_13 : decode cX9_ask 13 = .ok (.aload_n 0, 1) := by decide +kernel
theorem dX9_ask_14 : decode cX9_ask 14 = .ok (.invokevirtual 284, 3) := by decide +kernel
theorem dX9_ask_17 : decode cX9_ask 17 = .ok (.aload_n 0, 1) := by decide +kernel
theorem dX9_ask_18 : decode cX9_ask 18 = .ok (.iload_n 1, 1) := by decide +kernel
theorem dX9_ask_19 : decode cX9_ask 19 = .ok (.invokevirtual 322, 3) := by decide +kernel
theorem dX9_ask_22 : decode cX9_ask 22 = .ok (.ifCond .ne 8, 3) := by decide +kernel
theorem dX9_ask_25 : decode cX9_ask 25 = .ok (.aload_n 0, 1) := by decide +kernel
theorem dX9_ask_26 : decode cX9_ask 26 = .ok (.invokevirtual 290, 3) := by decide +kernel
theorem dX9_ask_29 : decode cX9_ask 29 = .ok (.ireturn, 1) := by decide +kernel
theorem dX9_ask_30 : decode cX9_ask 30 = .ok (.aload_n 0, 1) := by decide +kernel
theorem dX9_ask_31 : decode cX9_ask 31 = .ok (.getfield 51, 3) := by decide +kernel
theorem dX9_ask_34 : decode cX9_ask 34 = .ok (.iconst 0, 1) := by decide +kernel
theorem dX9_ask_35 : decode cX9_ask 35 = .ok (.iaload, 1) := by decide +kernel
theorem dX9_ask_36 : decode cX9_ask 36 = .ok (.ifCond .ne 10, 3) := by decide +kernel
theorem dX9_ask_39 : decode cX9_ask 39 = .ok (.aload_n 0, 1) := by decide +kernel
theorem dX9_ask_40 : decode cX9_ask 40 = .ok (.bipush 9, 2) := by decide +kernel
theorem dX9_ask_42 : decode cX9_ask 42 = .ok (.lconst 0, 1) := by decide +kernel
theorem dX9_ask_43 : decode cX9_ask 43 = .ok (.invokevirtual 16, 3) := by decide +kernel
theorem dX9_ask_46 : decode cX9_ask 46 = .ok (.aload_n 0, 1) := by decide +kernel
theorem dX9_ask_47 : decode cX9_ask 47 = .ok (.bipush 9, 2) := by decide +kernel
theorem dX9_ask_49 : decode cX9_ask 49 = .ok (.invokevirtual 325, 3) := by decide +kernel
theorem dX9_ask_52 : decode cX9_ask 52 = .ok (.ireturn, 1) := by decide +kernel
theorem me_X9_ask : cx_Mv yX9_ask cX9_ask 2 (some .int) 1 := ⟨⟨⟨by decide +kernel, by decide +kernel, by decide +kernel⟩, hw_11, hw_1464⟩, hw_1462, hw_1463⟩
noncomputable def f_X9_ask_J46 (m_book : Nat → Int32) (m_refused : Nat → Int32) (h_11 : Int32) (h_12 : Int32) (h_13 : Int32) (a_14 : Nat → Int32) (a_15 : Nat → Int32) (a_16 : Nat → Int32) (a_17 : Nat → Int32) : Option (Int32 × Int32 × Int32 × Int32 × (Nat → Int32) × (Nat → Int32) × (Nat → Int32) × (Nat → Int32) × (Nat → Int32)) := Option.bind (f_X9_tellsWorth a_14 a_15 m_book 9) (fun u18 => some ((u18.1, h_11, h_12, h_13, u18.2.1, u18.2.2, m_refused, a_16, a_17)))
noncomputable def f_X9_ask (m_limbs : Nat → Int32) (m_wide : Nat → Int32) (m_book : Nat → Int32) (m_refused : Nat → Int32) (m_quiet : Int32) (m_is : Nat → Int32) (m_likes : Nat → Int32) (m_without : Int32) (m_onePicture : Int32) (m_oneYear : Int32) (m_first : Int32) (m_second : Int32) (p1 : Int32) : Option (Int32 × Int32 × Int32 × Int32 × (Nat → Int32) × (Nat → Int32) × (Nat → Int32) × (Nat → Int32) × (Nat → Int32)) := Option.bind (f_X9_isHead m_book p1) (fun u1 => if u1 = 0 then (Option.bind (f_X9_bad m_refused m_quiet) (fun u24 => some ((u24.1, m_without, m_onePicture, m_first, m_limbs, m_wide, u24.2, m_is, m_likes)))) else (Option.bind (f_X9_begins m_book m_likes) (fun u4 => Option.bind (f_X9_worths m_limbs m_wide m_book m_is u4.2.2.2 u4.1 u4.2.1 m_oneYear u4.2.2.1 m_second p1) (fun u6 => if u6.1 = 0 then (Option.bind (f_X9_no m_refused m_quiet) (fun u22 => some ((u22.1, u4.1, u4.2.1, u4.2.2.1, u6.2.1, u6.2.2.1, u22.2, u6.2.2.2, u4.2.2.2)))) else (cx_gd (cx_ib 0 140) (if (m_book (cx_ix 0)) = 0 then (Option.bind (f_X9_sets u6.2.1 u6.2.2.1 9 0) (fun u20 => f_X9_ask_J46 m_book m_refused u4.1 u4.2.1 u4.2.2.1 u20.1 u20.2 u6.2.2.2 u4.2.2.2)) else (f_X9_ask_J46 m_book m_refused u4.1 u4.2.1 u4.2.2.1 u6.2.1 u6.2.2.1 u6.2.2.2 u4.2.2.2)))))))
set_option maxHeartbeats 4000000 in
set_option maxRecDepth 100000 in
theorem c_X9_ask (l : Launch) (D : va_G) (k : Nat → ClassId) (m_a : Nat → Nat) (m_limbs : Nat → Int32) (m_wide : Nat → Int32) (m_book : Nat → Int32) (m_images : Nat → Int32) (m_kept : Nat → Int32) (m_before : Nat → Int32) (m_refused : Nat → Int32) (m_quiet : Int32) (m_text : Nat → Int32) (m_typed : Int32) (m_at : Int32) (m_start : Int32) (m_token : Int32) (m_value : Int32) (m_items : Nat → Int32) (m_many : Int32) (m_is : Nat → Int32) (m_likes : Nat → Int32) (m_without : Int32) (m_onePicture : Int32) (m_oneYear : Int32) (m_first : Int32) (m_second : Int32) (m_names : Nat → Int32) (p1 : Int32) (y : Int32 × Int32 × Int32 × Int32 × (Nat → Int32) × (Nat → Int32) × (Nat → Int32) × (Nat → Int32) × (Nat → Int32)) (hf : f_X9_ask m_limbs m_wide m_book m_refused m_quiet m_is m_likes m_without m_onePicture m_oneYear m_first m_second p1 = some y) : cx_M l yX9_ask cX9_ask 2 (some .int) 8 D k [.ref (m_a 0), .int p1] (wd_Model k m_a m_limbs m_wide m_book m_images m_kept m_before m_refused m_quiet m_text m_typed m_at m_start m_token m_value m_items m_many m_is m_likes m_without m_onePicture m_oneYear m_first m_second m_names) (fun sz => cx_Qi D y.1 (wd_Model k m_a m_limbs m_wide m_book m_images m_kept m_before m_refused m_quiet m_text m_typed m_at m_start m_token m_value m_items m_many m_is m_likes m_without m_onePicture m_oneYear m_first m_second m_names) (wd_Model k m_a y.2.2.2.2.1 y.2.2.2.2.2.1 m_book m_images m_kept m_before y.2.2.2.2.2.2.1 m_quiet m_text m_typed m_at m_start m_token m_value m_items m_many y.2.2.2.2.2.2.2.1 y.2.2.2.2.2.2.2.2 y.2.1 y.2.2.1 m_oneYear y.2.2.2.1 m_second m_names) sz) := by
  refine cx_met (own := "NamelessBoxModel") (by decide) rfl (Nat.le_of_ble_eq_true rfl) ?_
  intro p e s m args below meth c A Q C hA hQ hr hlk
  refine cx_lv (lv' := [(0, .ref (m_a 0)), (1, .int p1)]) [0, 1] rfl ?_
  have J46 : ∀ (h_11 : Int32) (h_12 : Int32) (h_13 : Int32) (a_14 : Nat → Int32) (a_15 : Nat → Int32) (a_16 : Nat → Int32) (a_17 : Nat → Int32), f_X9_ask_J46 m_book m_refused h_11 h_12 h_13 a_14 a_15 a_16 a_17 = some y → cx_S p l e (cx_rm 8) s m args below meth c A D 2 0 0 Q 46 [(0, .ref (m_a 0))] [] (wd_Model k m_a a_14 a_15 m_book m_images m_kept m_before m_refused m_quiet m_text m_typed m_at m_start m_token m_value m_items m_many a_16 a_17 h_11 h_12 m_oneYear h_13 m_second m_names) := by
    intro h_11 h_12 h_13 a_14 a_15 a_16 a_17 hf
    unfold f_X9_ask_J46 at hf
    refine cx_aload_n C dX9_ask_46 0 rfl ?_
    refine cx_bipush (v := 9) C dX9_ask_47 (by decide) ?_
    obtain ⟨u18, e19, hf⟩ := cx_bd_at hf
    refine cx_Fvi (q := (RX9, TX9, 24)) (As := [.int 9]) (rest := []) (w1 := (wd_Model k m_a u18.2.1 u18.2.2 m_book m_images m_kept m_before m_refused m_quiet m_text m_typed m_at m_start m_token m_value m_items m_many a_16 a_17 h_11 h_12 m_oneYear h_13 m_second m_names)) hA C me_X9_tellsWorth hw_1477 (c_X9_tellsWorth l D k m_a a_14 a_15 m_book m_images m_kept m_before m_refused m_quiet m_text m_typed m_at m_start m_token m_value m_items m_many a_16 a_17 h_11 h_12 m_oneYear h_13 m_second m_names 9 u18 e19) dX9_ask_49 ⟨Nat.le_of_ble_eq_true rfl, Nat.le_of_ble_eq_true rfl⟩ ⟨Nat.zero_le _, Nat.zero_le _⟩ rfl rfl (Nat.le_of_ble_eq_true rfl) rfl rfl rfl ?_
    clear e19
    obtain rfl := Option.some.inj hf
    exact cx_iret C hA hQ hr hlk dX9_ask_52 rfl rfl
  unfold f_X9_ask at hf
  refine cx_aload_n C dX9_ask_0 0 rfl ?_
  refine cx_iload_n C dX9_ask_1 1 rfl ?_
  obtain ⟨u1, e2, hf⟩ := cx_bd_at hf
  refine cx_Fvi (q := (RX9, TX9, 24)) (As := [.int p1]) (rest := []) (w1 := (wd_Model k m_a m_limbs m_wide m_book m_images m_kept m_before m_refused m_quiet m_text m_typed m_at m_start m_token m_value m_items m_many m_is m_likes m_without m_onePicture m_oneYear m_first m_second m_names)) hA C me_X9_isHead hw_1183 (c_X9_isHead l D k m_a m_limbs m_wide m_book m_images m_kept m_before m_refused m_quiet m_text m_typed m_at m_start m_token m_value m_items m_many m_is m_likes m_without m_onePicture m_oneYear m_first m_second m_names p1 u1 e2) dX9_ask_2 ⟨Nat.le_of_ble_eq_true rfl, Nat.le_of_ble_eq_true rfl⟩ ⟨Nat.zero_le _, Nat.zero_le _⟩ rfl rfl (Nat.le_of_ble_eq_true rfl) rfl rfl rfl ?_
  clear e2
  refine cx_if_ne (tgt := 13) C dX9_ask_5 (by decide) (fun c3 => ?_) (fun c3 => ?_)
  · have hf := cx_if_f hf c3
    clear c3
    refine cx_aload_n C dX9_ask_13 0 rfl ?_
    obtain ⟨u4, e5, hf⟩ := cx_bd_at hf
    refine cx_Fvv (q := (RX9, TX9, 24)) (As := []) (rest := []) (w1 := (wd_Model k m_a m_limbs m_wide m_book m_images m_kept m_before m_refused m_quiet m_text m_typed m_at m_start m_token m_value m_items m_many m_is u4.2.2.2 u4.1 u4.2.1 m_oneYear u4.2.2.1 m_second m_names)) hA C me_X9_begins hw_1284 (c_X9_begins l D k m_a m_limbs m_wide m_book m_images m_kept m_before m_refused m_quiet m_text m_typed m_at m_start m_token m_value m_items m_many m_is m_likes m_without m_onePicture m_oneYear m_first m_second m_names u4 e5) dX9_ask_14 ⟨Nat.le_of_ble_eq_true rfl, Nat.le_of_ble_eq_true rfl⟩ ⟨Nat.zero_le _, Nat.zero_le _⟩ rfl rfl (Nat.le_of_ble_eq_true rfl) rfl rfl rfl ?_
    clear e5
    refine cx_aload_n C dX9_ask_17 0 rfl ?_
    refine cx_iload_n C dX9_ask_18 1 rfl ?_
    obtain ⟨u6, e7, hf⟩ := cx_bd_at hf
    refine cx_Fvi (q := (RX9, TX9, 24)) (As := [.int p1]) (rest := []) (w1 := (wd_Model k m_a u6.2.1 u6.2.2.1 m_book m_images m_kept m_before m_refused m_quiet m_text m_typed m_at m_start m_token m_value m_items m_many u6.2.2.2 u4.2.2.2 u4.1 u4.2.1 m_oneYear u4.2.2.1 m_second m_names)) hA C me_X9_worths hw_1465 (c_X9_worths l D k m_a m_limbs m_wide m_book m_images m_kept m_before m_refused m_quiet m_text m_typed m_at m_start m_token m_value m_items m_many m_is u4.2.2.2 u4.1 u4.2.1 m_oneYear u4.2.2.1 m_second m_names p1 u6 e7) dX9_ask_19 ⟨Nat.le_of_ble_eq_true rfl, Nat.le_of_ble_eq_true rfl⟩ ⟨Nat.zero_le _, Nat.zero_le _⟩ rfl rfl (Nat.le_of_ble_eq_true rfl) rfl rfl rfl ?_
    clear e7
    refine cx_if_ne (tgt := 30) C dX9_ask_22 (by decide) (fun c8 => ?_) (fun c8 => ?_)
    · have hf := cx_if_f hf c8
      clear c8
      refine cx_aload_n C dX9_ask_30 0 rfl ?_
      refine cx_get (v := .ref (m_a 3)) (ci := 8) C iX9 dX9_ask_31 0 rfl rfl 2 (by decide) hw_1056 rfl ?_
      refine cx_iconst (v := 0) C dX9_ask_34 (by decide) ?_
      obtain ⟨g9, hf⟩ := cx_gd_at hf
      refine cx_iald C dX9_ask_35 3 rfl (cx_ib_in g9) ?_
      clear g9
      refine cx_if_ne (tgt := 46) C dX9_ask_36 (by decide) (fun c10 => ?_) (fun c10 => ?_)
      · have hf := cx_if_f hf c10
        clear c10
        refine cx_lv [0] rfl ?_
        exact J46 u4.1 u4.2.1 u4.2.2.1 u6.2.1 u6.2.2.1 u6.2.2.2 u4.2.2.2 hf
      · have hf := cx_if_t hf c10
        clear c10
        refine cx_aload_n C dX9_ask_39 0 rfl ?_
        refine cx_bipush (v := 9) C dX9_ask_40 (by decide) ?_
        refine cx_lconst (v := 0) C dX9_ask_42 (by decide) ?_
        obtain ⟨u20, e21, hf⟩ := cx_bd_at hf
        refine cx_Fvv (q := (RX9, TX9, 24)) (As := [.int 9, .long 0]) (rest := []) (w1 := (wd_Model k m_a u20.1 u20.2 m_book m_images m_kept m_before m_refused m_quiet m_text m_typed m_at m_start m_token m_value m_items m_many u6.2.2.2 u4.2.2.2 u4.1 u4.2.1 m_oneYear u4.2.2.1 m_second m_names)) hA C me_X9_sets hw_1045 (c_X9_sets l D k m_a u6.2.1 u6.2.2.1 m_book m_images m_kept m_before m_refused m_quiet m_text m_typed m_at m_start m_token m_value m_items m_many u6.2.2.2 u4.2.2.2 u4.1 u4.2.1 m_oneYear u4.2.2.1 m_second m_names 9 0 u20 e21) dX9_ask_43 ⟨Nat.le_of_ble_eq_true rfl, Nat.le_of_ble_eq_true rfl⟩ ⟨Nat.zero_le _, Nat.zero_le _⟩ rfl rfl (Nat.le_of_ble_eq_true rfl) rfl rfl rfl ?_
        clear e21
        refine cx_lv [0] rfl ?_
        exact J46 u4.1 u4.2.1 u4.2.2.1 u20.1 u20.2 u6.2.2.2 u4.2.2.2 hf
    · have hf := cx_if_t hf c8
      clear c8
      refine cx_aload_n C dX9_ask_25 0 rfl ?_
      obtain ⟨u22, e23, hf⟩ := cx_bd_at hf
      refine cx_Fvi (q := (RX9, TX9, 24)) (As := []) (rest := []) (w1 := (wd_Model k m_a u6.2.1 u6.2.2.1 m_book m_images m_kept m_before u22.2 m_quiet m_text m_typed m_at m_start m_token m_value m_items m_many u6.2.2.2 u4.2.2.2 u4.1 u4.2.1 m_oneYear u4.2.2.1 m_second m_names)) hA C me_X9_no hw_1337 (c_X9_no l D k m_a u6.2.1 u6.2.2.1 m_book m_images m_kept m_before m_refused m_quiet m_text m_typed m_at m_start m_token m_value m_items m_many u6.2.2.2 u4.2.2.2 u4.1 u4.2.1 m_oneYear u4.2.2.1 m_second m_names u22 e23) dX9_ask_26 ⟨Nat.le_of_ble_eq_true rfl, Nat.le_of_ble_eq_true rfl⟩ ⟨Nat.zero_le _, Nat.zero_le _⟩ rfl rfl (Nat.le_of_ble_eq_true rfl) rfl rfl rfl ?_
      clear e23
      obtain rfl := Option.some.inj hf
      exact cx_iret C hA hQ hr hlk dX9_ask_29 rfl rfl
  · have hf := cx_if_t hf c3
    clear c3
    refine cx_aload_n C dX9_ask_8 0 rfl ?_
    obtain ⟨u24, e25, hf⟩ := cx_bd_at hf
    refine cx_Fvi (q := (RX9, TX9, 24)) (As := []) (rest := []) (w1 := (wd_Model k m_a m_limbs m_wide m_book m_images m_kept m_before u24.2 m_quiet m_text m_typed m_at m_start m_token m_value m_items m_many m_is m_likes m_without m_onePicture m_oneYear m_first m_second m_names)) hA C me_X9_bad hw_1137 (c_X9_bad l D k m_a m_limbs m_wide m_book m_images m_kept m_before m_refused m_quiet m_text m_typed m_at m_start m_token m_value m_items m_many m_is m_likes m_without m_onePicture m_oneYear m_first m_second m_names u24 e25) dX9_ask_9 ⟨Nat.le_of_ble_eq_true rfl, Nat.le_of_ble_eq_true rfl⟩ ⟨Nat.zero_le _, Nat.zero_le _⟩ rfl rfl (Nat.le_of_ble_eq_true rfl) rfl rfl rfl ?_
    clear e25
    obtain rfl := Option.some.inj hf
    exact cx_iret C hA hQ hr hlk dX9_ask_12 rfl rfl
theorem dX9_next_0 : decode cX9_next 0 = .ok (.aload_n 0, 1) := by decide +kernel
theorem dX9_next_1 : decode cX9_next 1 = .ok (.invokevirtual 284, 3) := by decide +kernel
theorem dX9_next_4 : decode cX9_next 4 = .ok (.iconst (-1), 1) := by decide +kernel
theorem dX9_next_5 : decode cX9_next 5 = .ok (.istore_n 1, 1) := by decide +kernel
theorem dX9_next_6 : decode cX9_next 6 = .ok (.aload_n 0, 1) := by decide +kernel
theorem dX9_next_7 : decode cX9_next 7 = .ok (.getfield 51, 3) := by decide +kernel
theorem dX9_next_10 : decode cX9_next 10 = .ok (.iconst 2, 1) := by decide +kernel
theorem dX9_next_11 : decode cX9_next 11 = .ok (.iaload, 1) := by decide +kernel
theorem dX9_next_12 : decode cX9_next 12 = .ok (.ifCond .ne 29, 3) := by decide +kernel
theorem dX9_next_15 : decode cX9_next 15 = .ok (.aload_n 0, 1) := by decide +kernel
theorem dX9_next_16 : decode cX9_next 16 = .ok (.iconst 0, 1) := by decide +kernel
theorem dX9_next_17 : decode cX9_next 17 = .ok (.iconst 0, 1) := by decide +kernel
theorem dX9_next_18 : decode cX9_next 18 = .ok (.iconst 0, 1) := by decide +kernel
theorem dX9_next_19 : decode cX9_next 19 = .ok (.invokevirtual 299, 3) := by decide +kernel
theorem dX9_next_22 : decode cX9_next 22 = .ok (.aload_n 0, 1) := by decide +kernel
theorem dX9_next_23 : decode cX9_next 23 = .ok (.getfield 3, 3) := by decide +kernel
theorem dX9_next_26 : decode cX9_next 26 = .ok (.bipush 6, 2) := by decide +kernel
theorem dX9_next_28 : decode cX9_next 28 = .ok (.iaload, 1) := by decide +kernel
theorem dX9_next_29 : decode cX9_next 29 = .ok (.ifCond .ne 10, 3) := by decide +kernel
theorem dX9_next_32 : decode cX9_next 32 = .ok (.aload_n 0, 1) := by decide +kernel
theorem dX9_next_33 : decode cX9_next 33 = .ok (.invokevirtual 290, 3) := by decide +kernel
theorem dX9_next_36 : decode cX9_next 36 = .ok (.goto 4, 3) := by decide +kernel
theorem dX9_next_39 : decode cX9_next 39 = .ok (.iconst (-1), 1) := by decide +kernel
theorem dX9_next_40 : decode cX9_next 40 = .ok (.ireturn, 1) := by decide +kernel
theorem dX9_next_41 : decode cX9_next 41 = .ok (.iconst 0, 1) := by decide +kernel
theorem dX9_next_42 : decode cX9_next 42 = .ok (.istore_n 2, 1) := by decide +kernel
theorem dX9_next_43 : decode cX9_next 43 = .ok (.iload_n 2, 1) := by decide +kernel
theorem dX9_next_44 : decode cX9_next 44 = .ok (.aload_n 0, 1) := by decide +kernel
theorem dX9_next_45 : decode cX9_next 45 = .ok (.getfield 51, 3) := by decide +kernel
theorem dX9_next_48 : decode cX9_next 48 = .ok (.iconst 2, 1) := by decide +kernel
theorem dX9_next_49 : decode cX9_next 49 = .ok (.iaload, 1) := by decide +kernel
theorem dX9_next_50 : decode cX9_next 50 = .ok (.if_icmp .ge 64, 3) := by decide +kernel
theorem dX9_next_53 : decode cX9_next 53 = .ok (.aload_n 0, 1) := by decide +kernel
theorem dX9_next_54 : decode cX9_next 54 = .ok (.iload_n 2, 1) := by decide +kernel
theorem dX9_next_55 : decode cX9_next 55 = .ok (.invokevirtual 322, 3) := by decide +kernel
theorem dX9_next_58 : decode cX9_next 58 = .ok (.ifCond .ne 8, 3) := by decide +kernel
theorem dX9_next_61 : decode cX9_next 61 = .ok (.aload_n 0, 1) := by decide +kernel
theorem dX9_next_62 : decode cX9_next 62 = .ok (.invokevirtual 290, 3) := by decide +kernel
theorem dX9_next_65 : decode cX9_next 65 = .ok (.ireturn, 1) := by decide +kernel
theorem dX9_next_66 : decode cX9_next 66 = .ok (.aload_n 0, 1) := by decide +kernel
theorem dX9_next_67 : decode cX9_next 67 = .ok (.getfield 51, 3) := by decide +kernel
theorem dX9_next_70 : decode cX9_next 70 = .ok (.iconst 0, 1) := by decide +kernel
theorem dX9_next_71 : decode cX9_next 71 = .ok (.iaload, 1) := by decide +kernel
theorem dX9_next_72 : decode cX9_next 72 = .ok (.ifCond .ne 10, 3) := by decide +kernel
theorem dX9_next_75 : decode cX9_next 75 = .ok (.aload_n 0, 1) := by decide +kernel
theorem dX9_next_76 : decode cX9_next 76 = .ok (.bipush 9, 2) := by decide +kernel
theorem dX9_next_78 : decode cX9_next 78 = .ok (.lconst 0, 1) := by decide +kernel
theorem dX9_next_79 : decode cX9_next 79 = .ok (.invokevirtual 16, 3) := by decide +kernel
theorem dX9_next_82 : decode cX9_next 82 = .ok (.iload_n 1, 1) := by decide +kernel
theorem dX9_next_83 : decode cX9_next 83 = .ok (.iconst (-1), 1) := by decide +kernel
theorem dX9_next_84 : decode cX9_next 84 = .ok (.if_icmp .eq 14, 3) := by decide +kernel
theorem dX9_next_87 : decode cX9_next 87 = .ok (.aload_n 0, 1) := by decide +kernel
theorem dX9_next_88 : decode cX9_next 88 = .ok (.bipush 9, 2) := by decide +kernel
theorem dX9_next_90 : decode cX9_next 90 = .ok (.bipush 10, 2) := by decide +kernel
theorem dX9_next_92 : decode cX9_next 92 = .ok (.invokevirtual 32, 3) := by decide +kernel
theorem dX9_next_95 : decode cX9_next 95 = .ok (.ifCond .le 13, 3) := by decide +kernel
theorem dX9_next_98 : decode cX9_next 98 = .ok (.iload_n 2, 1) := by decide +kernel
theorem dX9_next_99 : decode cX9_next 99 = .ok (.istore_n 1, 1) := by decide +kernel
theorem dX9_next_100 : decode cX9_next 100 = .ok (.aload_n 0, 1) := by decide +kernel
theorem dX9_next_101 : decode cX9_next 101 = .ok (.bipush 10, 2) := by decide +kernel
theorem dX9_next_103 : decode cX9_next 103 = .ok (.bipush 9, 2) := by decide +kernel
theorem dX9_next_105 : decode cX9_next 105 = .ok (.invokevirtual 20, 3) := by decide +kernel
theorem dX9_next_108 : decode cX9_next 108 = .ok (.iinc 2 1, 3) := by decide +kernel
theorem dX9_next_111 : decode cX9_next 111 = .ok (.goto (-68), 3) := by decide +kernel
theorem dX9_next_114 : decode cX9_next 114 = .ok (.aload_n 0, 1) := by decide +kernel
theorem dX9_next_115 : decode cX9_next 115 = .ok (.bipush 10, 2) := by decide +kernel
theorem dX9_next_117 : decode cX9_next 117 = .ok (.invokevirtual 325, 3) := by decide +kernel
theorem dX9_next_120 : decode cX9_next 120 = .ok (.pop, 1) := by decide +kernel
theorem dX9_next_121 : decode cX9_next 121 = .ok (.iload_n 1, 1) := by decide +kernel
theorem dX9_next_122 : decode cX9_next 122 = .ok (.ireturn, 1) := by decide +kernel
theorem me_X9_next : cx_Mv yX9_next cX9_next 3 (some .int) 0 := ⟨⟨⟨by decide +kernel, by decide +kernel, by decide +kernel⟩, hw_11, hw_1484⟩, hw_1482, hw_1483⟩
noncomputable def f_X9_next_J108 (x2_13 : Int32) (rc43 : (Nat → Int32) → (Nat → Int32) → (Nat → Int32) → Int32 → Int32 → Option (Int32 × Int32 × Int32 × Int32 × (Nat → Int32) × (Nat → Int32) × (Nat → Int32) × (Nat → Int32) × (Nat → Int32))) (a_32 : Nat → Int32) (a_33 : Nat → Int32) (a_34 : Nat → Int32) (x1_35 : Int32) : Option (Int32 × Int32 × Int32 × Int32 × (Nat → Int32) × (Nat → Int32) × (Nat → Int32) × (Nat → Int32) × (Nat → Int32)) := rc43 a_32 a_33 a_34 x1_35 (x2_13 + 1)
noncomputable def f_X9_next_J98 (x2_13 : Int32) (rc43 : (Nat → Int32) → (Nat → Int32) → (Nat → Int32) → Int32 → Int32 → Option (Int32 × Int32 × Int32 × Int32 × (Nat → Int32) × (Nat → Int32) × (Nat → Int32) × (Nat → Int32) × (Nat → Int32))) (a_27 : Nat → Int32) (a_28 : Nat → Int32) (a_29 : Nat → Int32) : Option (Int32 × Int32 × Int32 × Int32 × (Nat → Int32) × (Nat → Int32) × (Nat → Int32) × (Nat → Int32) × (Nat → Int32)) := Option.bind (f_X9_takes a_27 a_28 10 9) (fun u30 => f_X9_next_J108 x2_13 rc43 u30.1 u30.2 a_29 x2_13)
noncomputable def f_X9_next_J82 (x1_12 : Int32) (x2_13 : Int32) (rc43 : (Nat → Int32) → (Nat → Int32) → (Nat → Int32) → Int32 → Int32 → Option (Int32 × Int32 × Int32 × Int32 × (Nat → Int32) × (Nat → Int32) × (Nat → Int32) × (Nat → Int32) × (Nat → Int32))) (a_23 : Nat → Int32) (a_24 : Nat → Int32) (a_25 : Nat → Int32) : Option (Int32 × Int32 × Int32 × Int32 × (Nat → Int32) × (Nat → Int32) × (Nat → Int32) × (Nat → Int32) × (Nat → Int32)) := if x1_12 = ((-1)) then (f_X9_next_J98 x2_13 rc43 a_23 a_24 a_25) else (Option.bind (f_X9_against a_23 a_24 9 10) (fun u36 => if u36 ≤ 0 then (f_X9_next_J108 x2_13 rc43 a_23 a_24 a_25 x1_12) else (f_X9_next_J98 x2_13 rc43 a_23 a_24 a_25)))
noncomputable def f_X9_next_L43 (m_book : Nat → Int32) (m_refused : Nat → Int32) (m_quiet : Int32) (m_oneYear : Int32) (m_second : Int32) (h_5 : Int32) (h_6 : Int32) (h_7 : Int32) (a_11 : Nat → Int32) (rc43 : (Nat → Int32) → (Nat → Int32) → (Nat → Int32) → Int32 → Int32 → Option (Int32 × Int32 × Int32 × Int32 × (Nat → Int32) × (Nat → Int32) × (Nat → Int32) × (Nat → Int32) × (Nat → Int32))) (a_8 : Nat → Int32) (a_9 : Nat → Int32) (a_10 : Nat → Int32) (x1_12 : Int32) (x2_13 : Int32) : Option (Int32 × Int32 × Int32 × Int32 × (Nat → Int32) × (Nat → Int32) × (Nat → Int32) × (Nat → Int32) × (Nat → Int32)) := cx_gd (cx_ib 2 140) (if (m_book (cx_ix 2)) ≤ x2_13 then (Option.bind (f_X9_tellsWorth a_8 a_9 m_book 10) (fun u16 => some ((x1_12, h_5, h_6, h_7, u16.2.1, u16.2.2, m_refused, a_10, a_11)))) else (Option.bind (f_X9_worths a_8 a_9 m_book a_10 a_11 h_5 h_6 m_oneYear h_7 m_second x2_13) (fun u18 => if u18.1 = 0 then (Option.bind (f_X9_no m_refused m_quiet) (fun u41 => some ((u41.1, h_5, h_6, h_7, u18.2.1, u18.2.2.1, u41.2, u18.2.2.2, a_11)))) else (cx_gd (cx_ib 0 140) (if (m_book (cx_ix 0)) = 0 then (Option.bind (f_X9_sets u18.2.1 u18.2.2.1 9 0) (fun u39 => f_X9_next_J82 x1_12 x2_13 rc43 u39.1 u39.2 u18.2.2.2)) else (f_X9_next_J82 x1_12 x2_13 rc43 u18.2.1 u18.2.2.1 u18.2.2.2))))))
noncomputable def f_X9_next_L43w (m_book : Nat → Int32) (m_refused : Nat → Int32) (m_quiet : Int32) (m_oneYear : Int32) (m_second : Int32) (h_5 : Int32) (h_6 : Int32) (h_7 : Int32) (a_11 : Nat → Int32) (n : Nat) : (Nat → Int32) → (Nat → Int32) → (Nat → Int32) → Int32 → Int32 → Option (Int32 × Int32 × Int32 × Int32 × (Nat → Int32) × (Nat → Int32) × (Nat → Int32) × (Nat → Int32) × (Nat → Int32)) := Nat.rec (fun _ _ _ _ _ => none) (fun _ r => f_X9_next_L43 m_book m_refused m_quiet m_oneYear m_second h_5 h_6 h_7 a_11 r) n
noncomputable def f_X9_next (m_limbs : Nat → Int32) (m_wide : Nat → Int32) (m_book : Nat → Int32) (m_refused : Nat → Int32) (m_quiet : Int32) (m_is : Nat → Int32) (m_likes : Nat → Int32) (m_oneYear : Int32) (m_second : Int32) : Option (Int32 × Int32 × Int32 × Int32 × (Nat → Int32) × (Nat → Int32) × (Nat → Int32) × (Nat → Int32) × (Nat → Int32)) := Option.bind (f_X9_begins m_book m_likes) (fun u1 => cx_gd (cx_ib 2 140) (if (m_book (cx_ix 2)) = 0 then (Option.bind (f_X9_sums m_limbs m_wide m_book m_is u1.2.2.2 u1.1 u1.2.1 m_oneYear u1.2.2.1 m_second 0 0 0) (fun u43 => cx_gd (cx_ib 6 270) (if (u43.2.1 (cx_ix 6)) = 0 then (Option.bind (f_X9_no m_refused m_quiet) (fun u47 => some ((u47.1, u1.1, u1.2.1, u1.2.2.1, u43.1, u43.2.1, u47.2, u43.2.2, u1.2.2.2)))) else (some (((-1), u1.1, u1.2.1, u1.2.2.1, u43.1, u43.2.1, m_refused, u43.2.2, u1.2.2.2)))))) else (f_X9_next_L43w m_book m_refused m_quiet m_oneYear m_second u1.1 u1.2.1 u1.2.2.1 u1.2.2.2 cx_N0 m_limbs m_wide m_is ((-1)) 0)))
set_option maxHeartbeats 4000000 in
set_option maxRecDepth 100000 in
theorem c_X9_next (l : Launch) (D : va_G) (k : Nat → ClassId) (m_a : Nat → Nat) (m_limbs : Nat → Int32) (m_wide : Nat → Int32) (m_book : Nat → Int32) (m_images : Nat → Int32) (m_kept : Nat → Int32) (m_before : Nat → Int32) (m_refused : Nat → Int32) (m_quiet : Int32) (m_text : Nat → Int32) (m_typed : Int32) (m_at : Int32) (m_start : Int32) (m_token : Int32) (m_value : Int32) (m_items : Nat → Int32) (m_many : Int32) (m_is : Nat → Int32) (m_likes : Nat → Int32) (m_without : Int32) (m_onePicture : Int32) (m_oneYear : Int32) (m_first : Int32) (m_second : Int32) (m_names : Nat → Int32) (y : Int32 × Int32 × Int32 × Int32 × (Nat → Int32) × (Nat → Int32) × (Nat → Int32) × (Nat → Int32) × (Nat → Int32)) (hf : f_X9_next m_limbs m_wide m_book m_refused m_quiet m_is m_likes m_oneYear m_second = some y) : cx_M l yX9_next cX9_next 3 (some .int) 8 D k [.ref (m_a 0)] (wd_Model k m_a m_limbs m_wide m_book m_images m_kept m_before m_refused m_quiet m_text m_typed m_at m_start m_token m_value m_items m_many m_is m_likes m_without m_onePicture m_oneYear m_first m_second m_names) (fun sz => cx_Qi D y.1 (wd_Model k m_a m_limbs m_wide m_book m_images m_kept m_before m_refused m_quiet m_text m_typed m_at m_start m_token m_value m_items m_many m_is m_likes m_without m_onePicture m_oneYear m_first m_second m_names) (wd_Model k m_a y.2.2.2.2.1 y.2.2.2.2.2.1 m_book m_images m_kept m_before y.2.2.2.2.2.2.1 m_quiet m_text m_typed m_at m_start m_token m_value m_items m_many y.2.2.2.2.2.2.2.1 y.2.2.2.2.2.2.2.2 y.2.1 y.2.2.1 m_oneYear y.2.2.2.1 m_second m_names) sz) := by
  refine cx_met (own := "NamelessBoxModel") (by decide) rfl (Nat.le_of_ble_eq_true rfl) ?_
  intro p e s m args below meth c A Q C hA hQ hr hlk
  refine cx_lv (lv' := [(0, .ref (m_a 0))]) [0] rfl ?_
  have L43 : ∀ (h_5 : Int32) (h_6 : Int32) (h_7 : Int32) (a_11 : Nat → Int32) (n43 : Nat) (a_8 : Nat → Int32) (a_9 : Nat → Int32) (a_10 : Nat → Int32) (x1_12 : Int32) (x2_13 : Int32), f_X9_next_L43w m_book m_refused m_quiet m_oneYear m_second h_5 h_6 h_7 a_11 n43 a_8 a_9 a_10 x1_12 x2_13 = some y → cx_S p l e (cx_rm 8) s m args below meth c A D 3 0 0 Q 43 [(0, .ref (m_a 0)), (1, .int x1_12), (2, .int x2_13)] [] (wd_Model k m_a a_8 a_9 m_book m_images m_kept m_before m_refused m_quiet m_text m_typed m_at m_start m_token m_value m_items m_many a_10 a_11 h_5 h_6 m_oneYear h_7 m_second m_names) := by
    intro h_5 h_6 h_7 a_11 n43
    induction n43 with
    | zero =>
      intro a_8 a_9 a_10 x1_12 x2_13 hf
      exact absurd (show (none : Option (Int32 × Int32 × Int32 × Int32 × (Nat → Int32) × (Nat → Int32) × (Nat → Int32) × (Nat → Int32) × (Nat → Int32))) = some y from hf) (fun h => by cases h)
    | succ n43 ih43 =>
      intro a_8 a_9 a_10 x1_12 x2_13 hf
      have hf : f_X9_next_L43 m_book m_refused m_quiet m_oneYear m_second h_5 h_6 h_7 a_11 (f_X9_next_L43w m_book m_refused m_quiet m_oneYear m_second h_5 h_6 h_7 a_11 n43) a_8 a_9 a_10 x1_12 x2_13 = some y := hf
      have J108 : ∀ (a_32 : Nat → Int32) (a_33 : Nat → Int32) (a_34 : Nat → Int32) (x1_35 : Int32), f_X9_next_J108 x2_13 (f_X9_next_L43w m_book m_refused m_quiet m_oneYear m_second h_5 h_6 h_7 a_11 n43) a_32 a_33 a_34 x1_35 = some y → cx_S p l e (cx_rm 8) s m args below meth c A D 3 0 0 Q 108 [(0, .ref (m_a 0)), (1, .int x1_35), (2, .int x2_13)] [] (wd_Model k m_a a_32 a_33 m_book m_images m_kept m_before m_refused m_quiet m_text m_typed m_at m_start m_token m_value m_items m_many a_34 a_11 h_5 h_6 m_oneYear h_7 m_second m_names) := by
        intro a_32 a_33 a_34 x1_35 hf
        unfold f_X9_next_J108 at hf
        refine cx_iinc (v := x2_13 + 1) (lv' := [(2, .int (x2_13 + 1)), (0, .ref (m_a 0)), (1, .int x1_35)]) C dX9_next_108 2 rfl rfl (by decide) rfl ?_
        refine cx_goto (tgt := 43) C dX9_next_111 (by decide) ?_
        refine cx_lv [1, 2, 0] rfl ?_
        exact ih43 a_32 a_33 a_34 x1_35 (x2_13 + 1) hf
      have J98 : ∀ (a_27 : Nat → Int32) (a_28 : Nat → Int32) (a_29 : Nat → Int32), f_X9_next_J98 x2_13 (f_X9_next_L43w m_book m_refused m_quiet m_oneYear m_second h_5 h_6 h_7 a_11 n43) a_27 a_28 a_29 = some y → cx_S p l e (cx_rm 8) s m args below meth c A D 3 0 0 Q 98 [(0, .ref (m_a 0)), (2, .int x2_13)] [] (wd_Model k m_a a_27 a_28 m_book m_images m_kept m_before m_refused m_quiet m_text m_typed m_at m_start m_token m_value m_items m_many a_29 a_11 h_5 h_6 m_oneYear h_7 m_second m_names) := by
        intro a_27 a_28 a_29 hf
        unfold f_X9_next_J98 at hf
        refine cx_iload_n C dX9_next_98 1 rfl ?_
        refine cx_istore_n (lv' := [(1, .int x2_13), (0, .ref (m_a 0)), (2, .int x2_13)]) C dX9_next_99 rfl (by decide) rfl ?_
        refine cx_aload_n C dX9_next_100 1 rfl ?_
        refine cx_bipush (v := 10) C dX9_next_101 (by decide) ?_
        refine cx_bipush (v := 9) C dX9_next_103 (by decide) ?_
        obtain ⟨u30, e31, hf⟩ := cx_bd_at hf
        refine cx_Fvv (q := (RX9, TX9, 24)) (As := [.int 10, .int 9]) (rest := []) (w1 := (wd_Model k m_a u30.1 u30.2 m_book m_images m_kept m_before m_refused m_quiet m_text m_typed m_at m_start m_token m_value m_items m_many a_29 a_11 h_5 h_6 m_oneYear h_7 m_second m_names)) hA C me_X9_takes hw_1324 (c_X9_takes l D k m_a a_27 a_28 m_book m_images m_kept m_before m_refused m_quiet m_text m_typed m_at m_start m_token m_value m_items m_many a_29 a_11 h_5 h_6 m_oneYear h_7 m_second m_names 10 9 u30 e31) dX9_next_105 ⟨Nat.le_of_ble_eq_true rfl, Nat.le_of_ble_eq_true rfl⟩ ⟨Nat.zero_le _, Nat.zero_le _⟩ rfl rfl (Nat.le_of_ble_eq_true rfl) rfl rfl rfl ?_
        clear e31
        refine cx_lv [1, 0, 2] rfl ?_
        exact J108 u30.1 u30.2 a_29 x2_13 hf
      have J82 : ∀ (a_23 : Nat → Int32) (a_24 : Nat → Int32) (a_25 : Nat → Int32), f_X9_next_J82 x1_12 x2_13 (f_X9_next_L43w m_book m_refused m_quiet m_oneYear m_second h_5 h_6 h_7 a_11 n43) a_23 a_24 a_25 = some y → cx_S p l e (cx_rm 8) s m args below meth c A D 3 0 0 Q 82 [(0, .ref (m_a 0)), (1, .int x1_12), (2, .int x2_13)] [] (wd_Model k m_a a_23 a_24 m_book m_images m_kept m_before m_refused m_quiet m_text m_typed m_at m_start m_token m_value m_items m_many a_25 a_11 h_5 h_6 m_oneYear h_7 m_second m_names) := by
        intro a_23 a_24 a_25 hf
        unfold f_X9_next_J82 at hf
        refine cx_iload_n C dX9_next_82 1 rfl ?_
        refine cx_iconst (v := (-1)) C dX9_next_83 (by decide) ?_
        refine cx_icmp_eq (tgt := 98) C dX9_next_84 (by decide) (fun c26 => ?_) (fun c26 => ?_)
        · have hf := cx_if_t hf c26
          clear c26
          refine cx_lv [0, 2] rfl ?_
          exact J98 a_23 a_24 a_25 hf
        · have hf := cx_if_f hf c26
          clear c26
          refine cx_aload_n C dX9_next_87 0 rfl ?_
          refine cx_bipush (v := 9) C dX9_next_88 (by decide) ?_
          refine cx_bipush (v := 10) C dX9_next_90 (by decide) ?_
          obtain ⟨u36, e37, hf⟩ := cx_bd_at hf
          refine cx_Fvi (q := (RX9, TX9, 24)) (As := [.int 9, .int 10]) (rest := []) (w1 := (wd_Model k m_a a_23 a_24 m_book m_images m_kept m_before m_refused m_quiet m_text m_typed m_at m_start m_token m_value m_items m_many a_25 a_11 h_5 h_6 m_oneYear h_7 m_second m_names)) hA C me_X9_against hw_1357 (c_X9_against l D k m_a a_23 a_24 m_book m_images m_kept m_before m_refused m_quiet m_text m_typed m_at m_start m_token m_value m_items m_many a_25 a_11 h_5 h_6 m_oneYear h_7 m_second m_names 9 10 u36 e37) dX9_next_92 ⟨Nat.le_of_ble_eq_true rfl, Nat.le_of_ble_eq_true rfl⟩ ⟨Nat.zero_le _, Nat.zero_le _⟩ rfl rfl (Nat.le_of_ble_eq_true rfl) rfl rfl rfl ?_
          clear e37
          refine cx_if_le (tgt := 108) C dX9_next_95 (by decide) (fun c38 => ?_) (fun c38 => ?_)
          · have hf := cx_if_t hf c38
            clear c38
            exact J108 a_23 a_24 a_25 x1_12 hf
          · have hf := cx_if_f hf c38
            clear c38
            refine cx_lv [0, 2] rfl ?_
            exact J98 a_23 a_24 a_25 hf
      unfold f_X9_next_L43 at hf
      refine cx_iload_n C dX9_next_43 2 rfl ?_
      refine cx_aload_n C dX9_next_44 0 rfl ?_
      refine cx_get (v := .ref (m_a 3)) (ci := 8) C iX9 dX9_next_45 0 rfl rfl 2 (by decide) hw_1056 rfl ?_
      refine cx_iconst (v := 2) C dX9_next_48 (by decide) ?_
      obtain ⟨g14, hf⟩ := cx_gd_at hf
      refine cx_iald C dX9_next_49 3 rfl (cx_ib_in g14) ?_
      clear g14
      refine cx_icmp_ge (tgt := 114) C dX9_next_50 (by decide) (fun c15 => ?_) (fun c15 => ?_)
      · have hf := cx_if_t hf c15
        clear c15
        refine cx_aload_n C dX9_next_114 0 rfl ?_
        refine cx_bipush (v := 10) C dX9_next_115 (by decide) ?_
        obtain ⟨u16, e17, hf⟩ := cx_bd_at hf
        refine cx_Fvi (q := (RX9, TX9, 24)) (As := [.int 10]) (rest := []) (w1 := (wd_Model k m_a u16.2.1 u16.2.2 m_book m_images m_kept m_before m_refused m_quiet m_text m_typed m_at m_start m_token m_value m_items m_many a_10 a_11 h_5 h_6 m_oneYear h_7 m_second m_names)) hA C me_X9_tellsWorth hw_1477 (c_X9_tellsWorth l D k m_a a_8 a_9 m_book m_images m_kept m_before m_refused m_quiet m_text m_typed m_at m_start m_token m_value m_items m_many a_10 a_11 h_5 h_6 m_oneYear h_7 m_second m_names 10 u16 e17) dX9_next_117 ⟨Nat.le_of_ble_eq_true rfl, Nat.le_of_ble_eq_true rfl⟩ ⟨Nat.zero_le _, Nat.zero_le _⟩ rfl rfl (Nat.le_of_ble_eq_true rfl) rfl rfl rfl ?_
        clear e17
        refine cx_pop C dX9_next_120 rfl ?_
        refine cx_iload_n C dX9_next_121 1 rfl ?_
        obtain rfl := Option.some.inj hf
        exact cx_iret C hA hQ hr hlk dX9_next_122 rfl rfl
      · have hf := cx_if_f hf c15
        clear c15
        refine cx_aload_n C dX9_next_53 0 rfl ?_
        refine cx_iload_n C dX9_next_54 2 rfl ?_
        obtain ⟨u18, e19, hf⟩ := cx_bd_at hf
        refine cx_Fvi (q := (RX9, TX9, 24)) (As := [.int x2_13]) (rest := []) (w1 := (wd_Model k m_a u18.2.1 u18.2.2.1 m_book m_images m_kept m_before m_refused m_quiet m_text m_typed m_at m_start m_token m_value m_items m_many u18.2.2.2 a_11 h_5 h_6 m_oneYear h_7 m_second m_names)) hA C me_X9_worths hw_1465 (c_X9_worths l D k m_a a_8 a_9 m_book m_images m_kept m_before m_refused m_quiet m_text m_typed m_at m_start m_token m_value m_items m_many a_10 a_11 h_5 h_6 m_oneYear h_7 m_second m_names x2_13 u18 e19) dX9_next_55 ⟨Nat.le_of_ble_eq_true rfl, Nat.le_of_ble_eq_true rfl⟩ ⟨Nat.zero_le _, Nat.zero_le _⟩ rfl rfl (Nat.le_of_ble_eq_true rfl) rfl rfl rfl ?_
        clear e19
        refine cx_if_ne (tgt := 66) C dX9_next_58 (by decide) (fun c20 => ?_) (fun c20 => ?_)
        · have hf := cx_if_f hf c20
          clear c20
          refine cx_aload_n C dX9_next_66 0 rfl ?_
          refine cx_get (v := .ref (m_a 3)) (ci := 8) C iX9 dX9_next_67 0 rfl rfl 2 (by decide) hw_1056 rfl ?_
          refine cx_iconst (v := 0) C dX9_next_70 (by decide) ?_
          obtain ⟨g21, hf⟩ := cx_gd_at hf
          refine cx_iald C dX9_next_71 3 rfl (cx_ib_in g21) ?_
          clear g21
          refine cx_if_ne (tgt := 82) C dX9_next_72 (by decide) (fun c22 => ?_) (fun c22 => ?_)
          · have hf := cx_if_f hf c22
            clear c22
            exact J82 u18.2.1 u18.2.2.1 u18.2.2.2 hf
          · have hf := cx_if_t hf c22
            clear c22
            refine cx_aload_n C dX9_next_75 0 rfl ?_
            refine cx_bipush (v := 9) C dX9_next_76 (by decide) ?_
            refine cx_lconst (v := 0) C dX9_next_78 (by decide) ?_
            obtain ⟨u39, e40, hf⟩ := cx_bd_at hf
            refine cx_Fvv (q := (RX9, TX9, 24)) (As := [.int 9, .long 0]) (rest := []) (w1 := (wd_Model k m_a u39.1 u39.2 m_book m_images m_kept m_before m_refused m_quiet m_text m_typed m_at m_start m_token m_value m_items m_many u18.2.2.2 a_11 h_5 h_6 m_oneYear h_7 m_second m_names)) hA C me_X9_sets hw_1045 (c_X9_sets l D k m_a u18.2.1 u18.2.2.1 m_book m_images m_kept m_before m_refused m_quiet m_text m_typed m_at m_start m_token m_value m_items m_many u18.2.2.2 a_11 h_5 h_6 m_oneYear h_7 m_second m_names 9 0 u39 e40) dX9_next_79 ⟨Nat.le_of_ble_eq_true rfl, Nat.le_of_ble_eq_true rfl⟩ ⟨Nat.zero_le _, Nat.zero_le _⟩ rfl rfl (Nat.le_of_ble_eq_true rfl) rfl rfl rfl ?_
            clear e40
            exact J82 u39.1 u39.2 u18.2.2.2 hf
        · have hf := cx_if_t hf c20
          clear c20
          refine cx_aload_n C dX9_next_61 0 rfl ?_
          obtain ⟨u41, e42, hf⟩ := cx_bd_at hf
          refine cx_Fvi (q := (RX9, TX9, 24)) (As := []) (rest := []) (w1 := (wd_Model k m_a u18.2.1 u18.2.2.1 m_book m_images m_kept m_before u41.2 m_quiet m_text m_typed m_at m_start m_token m_value m_items m_many u18.2.2.2 a_11 h_5 h_6 m_oneYear h_7 m_second m_names)) hA C me_X9_no hw_1337 (c_X9_no l D k m_a u18.2.1 u18.2.2.1 m_book m_images m_kept m_before m_refused m_quiet m_text m_typed m_at m_start m_token m_value m_items m_many u18.2.2.2 a_11 h_5 h_6 m_oneYear h_7 m_second m_names u41 e42) dX9_next_62 ⟨Nat.le_of_ble_eq_true rfl, Nat.le_of_ble_eq_true rfl⟩ ⟨Nat.zero_le _, Nat.zero_le _⟩ rfl rfl (Nat.le_of_ble_eq_true rfl) rfl rfl rfl ?_
          clear e42
          obtain rfl := Option.some.inj hf
          exact cx_iret C hA hQ hr hlk dX9_next_65 rfl rfl
  unfold f_X9_next at hf
  refine cx_aload_n C dX9_next_0 0 rfl ?_
  obtain ⟨u1, e2, hf⟩ := cx_bd_at hf
  refine cx_Fvv (q := (RX9, TX9, 24)) (As := []) (rest := []) (w1 := (wd_Model k m_a m_limbs m_wide m_book m_images m_kept m_before m_refused m_quiet m_text m_typed m_at m_start m_token m_value m_items m_many m_is u1.2.2.2 u1.1 u1.2.1 m_oneYear u1.2.2.1 m_second m_names)) hA C me_X9_begins hw_1284 (c_X9_begins l D k m_a m_limbs m_wide m_book m_images m_kept m_before m_refused m_quiet m_text m_typed m_at m_start m_token m_value m_items m_many m_is m_likes m_without m_onePicture m_oneYear m_first m_second m_names u1 e2) dX9_next_1 ⟨Nat.le_of_ble_eq_true rfl, Nat.le_of_ble_eq_true rfl⟩ ⟨Nat.zero_le _, Nat.zero_le _⟩ rfl rfl (Nat.le_of_ble_eq_true rfl) rfl rfl rfl ?_
  clear e2
  refine cx_iconst (v := (-1)) C dX9_next_4 (by decide) ?_
  refine cx_istore_n (lv' := [(1, .int ((-1))), (0, .ref (m_a 0))]) C dX9_next_5 rfl (by decide) rfl ?_
  refine cx_aload_n C dX9_next_6 1 rfl ?_
  refine cx_get (v := .ref (m_a 3)) (ci := 8) C iX9 dX9_next_7 0 rfl rfl 2 (by decide) hw_1056 rfl ?_
  refine cx_iconst (v := 2) C dX9_next_10 (by decide) ?_
  obtain ⟨g3, hf⟩ := cx_gd_at hf
  refine cx_iald C dX9_next_11 3 rfl (cx_ib_in g3) ?_
  clear g3
  refine cx_if_ne (tgt := 41) C dX9_next_12 (by decide) (fun c4 => ?_) (fun c4 => ?_)
  · have hf := cx_if_f hf c4
    clear c4
    refine cx_iconst (v := 0) C dX9_next_41 (by decide) ?_
    refine cx_istore_n (lv' := [(2, .int 0), (1, .int ((-1))), (0, .ref (m_a 0))]) C dX9_next_42 rfl (by decide) rfl ?_
    refine cx_lv [2, 1, 0] rfl ?_
    exact L43 u1.1 u1.2.1 u1.2.2.1 u1.2.2.2 cx_N0 m_limbs m_wide m_is ((-1)) 0 hf
  · have hf := cx_if_t hf c4
    clear c4
    refine cx_aload_n C dX9_next_15 1 rfl ?_
    refine cx_iconst (v := 0) C dX9_next_16 (by decide) ?_
    refine cx_iconst (v := 0) C dX9_next_17 (by decide) ?_
    refine cx_iconst (v := 0) C dX9_next_18 (by decide) ?_
    obtain ⟨u43, e44, hf⟩ := cx_bd_at hf
    refine cx_Fvv (q := (RX9, TX9, 24)) (As := [.int 0, .int 0, .int 0]) (rest := []) (w1 := (wd_Model k m_a u43.1 u43.2.1 m_book m_images m_kept m_before m_refused m_quiet m_text m_typed m_at m_start m_token m_value m_items m_many u43.2.2 u1.2.2.2 u1.1 u1.2.1 m_oneYear u1.2.2.1 m_second m_names)) hA C me_X9_sums hw_1385 (c_X9_sums l D k m_a m_limbs m_wide m_book m_images m_kept m_before m_refused m_quiet m_text m_typed m_at m_start m_token m_value m_items m_many m_is u1.2.2.2 u1.1 u1.2.1 m_oneYear u1.2.2.1 m_second m_names 0 0 0 u43 e44) dX9_next_19 ⟨Nat.le_of_ble_eq_true rfl, Nat.le_of_ble_eq_true rfl⟩ ⟨Nat.zero_le _, Nat.zero_le _⟩ rfl rfl (Nat.le_of_ble_eq_true rfl) rfl rfl rfl ?_
    clear e44
    refine cx_aload_n C dX9_next_22 1 rfl ?_
    refine cx_get (v := .ref (m_a 2)) (ci := 8) C iX9 dX9_next_23 0 rfl rfl 1 (by decide) hw_1055 rfl ?_
    refine cx_bipush (v := 6) C dX9_next_26 (by decide) ?_
    obtain ⟨g45, hf⟩ := cx_gd_at hf
    refine cx_iald C dX9_next_28 2 rfl (cx_ib_in g45) ?_
    clear g45
    refine cx_if_ne (tgt := 39) C dX9_next_29 (by decide) (fun c46 => ?_) (fun c46 => ?_)
    · have hf := cx_if_f hf c46
      clear c46
      refine cx_iconst (v := (-1)) C dX9_next_39 (by decide) ?_
      obtain rfl := Option.some.inj hf
      exact cx_iret C hA hQ hr hlk dX9_next_40 rfl rfl
    · have hf := cx_if_t hf c46
      clear c46
      refine cx_aload_n C dX9_next_32 1 rfl ?_
      obtain ⟨u47, e48, hf⟩ := cx_bd_at hf
      refine cx_Fvi (q := (RX9, TX9, 24)) (As := []) (rest := []) (w1 := (wd_Model k m_a u43.1 u43.2.1 m_book m_images m_kept m_before u47.2 m_quiet m_text m_typed m_at m_start m_token m_value m_items m_many u43.2.2 u1.2.2.2 u1.1 u1.2.1 m_oneYear u1.2.2.1 m_second m_names)) hA C me_X9_no hw_1337 (c_X9_no l D k m_a u43.1 u43.2.1 m_book m_images m_kept m_before m_refused m_quiet m_text m_typed m_at m_start m_token m_value m_items m_many u43.2.2 u1.2.2.2 u1.1 u1.2.1 m_oneYear u1.2.2.1 m_second m_names u47 e48) dX9_next_33 ⟨Nat.le_of_ble_eq_true rfl, Nat.le_of_ble_eq_true rfl⟩ ⟨Nat.zero_le _, Nat.zero_le _⟩ rfl rfl (Nat.le_of_ble_eq_true rfl) rfl rfl rfl ?_
      clear e48
      refine cx_goto (tgt := 40) C dX9_next_36 (by decide) ?_
      obtain rfl := Option.some.inj hf
      exact cx_iret C hA hQ hr hlk dX9_next_40 rfl rfl
