theorem dX9_isAt_0 : decode cX9_isAt 0 = .ok (.aload_n 0, 1) := by decide +kernel
theorem dX9_isAt_1 : decode cX9_isAt 1 = .ok (.getfield 150, 3) := by decide +kernel
theorem dX9_isAt_4 : decode cX9_isAt 4 = .ok (.aload_n 0, 1) := by decide +kernel
theorem dX9_isAt_5 : decode cX9_isAt 5 = .ok (.getfield 144, 3) := by decide +kernel
theorem dX9_isAt_8 : decode cX9_isAt 8 = .ok (.if_icmp .ge 27, 3) := by decide +kernel
theorem dX9_isAt_11 : decode cX9_isAt 11 = .ok (.aload_n 0, 1) := by decide +kernel
theorem dX9_isAt_12 : decode cX9_isAt 12 = .ok (.getfield 67, 3) := by decide +kernel
theorem dX9_isAt_15 : decode cX9_isAt 15 = .ok (.aload_n 0, 1) := by decide +kernel
theorem dX9_isAt_16 : decode cX9_isAt 16 = .ok (.getfield 150, 3) := by decide +kernel
theorem dX9_isAt_19 : decode cX9_isAt 19 = .ok (.iaload, 1) := by decide +kernel
theorem dX9_isAt_20 : decode cX9_isAt 20 = .ok (.i2l, 1) := by decide +kernel
theorem dX9_isAt_21 : decode cX9_isAt 21 = .ok (.iload_n 1, 1) := by decide +kernel
theorem dX9_isAt_22 : decode cX9_isAt 22 = .ok (.i2l, 1) := by decide +kernel
theorem dX9_isAt_23 : decode cX9_isAt 23 = .ok (.iload_n 2, 1) := by decide +kernel
theorem dX9_isAt_24 : decode cX9_isAt 24 = .ok (.i2l, 1) := by decide +kernel
theorem dX9_isAt_25 : decode cX9_isAt 25 = .ok (.invokestatic 89, 3) := by decide +kernel
theorem dX9_isAt_28 : decode cX9_isAt 28 = .ok (.ifCond .eq 7, 3) := by decide +kernel
theorem dX9_isAt_31 : decode cX9_isAt 31 = .ok (.iconst 1, 1) := by decide +kernel
theorem dX9_isAt_32 : decode cX9_isAt 32 = .ok (.goto 4, 3) := by decide +kernel
theorem dX9_isAt_35 : decode cX9_isAt 35 = .ok (.iconst 0, 1) := by decide +kernel
theorem dX9_isAt_36 : decode cX9_isAt 36 = .ok (.ireturn, 1) := by decide +kernel
theorem me_X9_isAt : cx_Mv yX9_isAt cX9_isAt 3 (some .boolean) 2 := ⟨⟨⟨by decide +kernel, by decide +kernel, by decide +kernel⟩, hw_11, hw_1251⟩, hw_1250, hs_52⟩
noncomputable def f_X9_isAt (m_text : Nat → Int32) (m_typed : Int32) (m_at : Int32) (p1 : Int32) (p2 : Int32) : Option Int32 := if m_typed ≤ m_at then (some 0) else (cx_gd (cx_ib m_at 300) (Option.bind (f_X9_in (Int32.toInt64 (m_text (cx_ix m_at))) (Int32.toInt64 p1) (Int32.toInt64 p2)) (fun u3 => if u3 = 0 then (some 0) else (some 1))))
set_option maxHeartbeats 4000000 in
set_option maxRecDepth 100000 in
theorem c_X9_isAt (l : Launch) (D : va_G) (k : Nat → ClassId) (m_a : Nat → Nat) (m_limbs : Nat → Int32) (m_wide : Nat → Int32) (m_book : Nat → Int32) (m_images : Nat → Int32) (m_kept : Nat → Int32) (m_before : Nat → Int32) (m_refused : Nat → Int32) (m_quiet : Int32) (m_text : Nat → Int32) (m_typed : Int32) (m_at : Int32) (m_start : Int32) (m_token : Int32) (m_value : Int32) (m_items : Nat → Int32) (m_many : Int32) (m_is : Nat → Int32) (m_likes : Nat → Int32) (m_without : Int32) (m_onePicture : Int32) (m_oneYear : Int32) (m_first : Int32) (m_second : Int32) (m_names : Nat → Int32) (p1 : Int32) (p2 : Int32) (y : Int32) (hf : f_X9_isAt m_text m_typed m_at p1 p2 = some y) : cx_M l yX9_isAt cX9_isAt 3 (some .boolean) 2 D k [.ref (m_a 0), .int p1, .int p2] (wd_Model k m_a m_limbs m_wide m_book m_images m_kept m_before m_refused m_quiet m_text m_typed m_at m_start m_token m_value m_items m_many m_is m_likes m_without m_onePicture m_oneYear m_first m_second m_names) (fun sz => cx_Qi D y (wd_Model k m_a m_limbs m_wide m_book m_images m_kept m_before m_refused m_quiet m_text m_typed m_at m_start m_token m_value m_items m_many m_is m_likes m_without m_onePicture m_oneYear m_first m_second m_names) (wd_Model k m_a m_limbs m_wide m_book m_images m_kept m_before m_refused m_quiet m_text m_typed m_at m_start m_token m_value m_items m_many m_is m_likes m_without m_onePicture m_oneYear m_first m_second m_names) sz) := by
  refine cx_met (own := "NamelessBoxModel") (by decide) rfl (Nat.le_of_ble_eq_true rfl) ?_
  intro p e s m args below meth c A Q C hA hQ hr hlk
  refine cx_lv (lv' := [(0, .ref (m_a 0)), (1, .int p1), (2, .int p2)]) [0, 1, 2] rfl ?_
  unfold f_X9_isAt at hf
  refine cx_aload_n C dX9_isAt_0 0 rfl ?_
  refine cx_get (v := .int m_at) (ci := 8) C iX9 dX9_isAt_1 0 rfl rfl 10 (by decide) hw_1064 rfl ?_
  refine cx_aload_n C dX9_isAt_4 0 rfl ?_
  refine cx_get (v := .int m_typed) (ci := 8) C iX9 dX9_isAt_5 0 rfl rfl 9 (by decide) hw_1063 rfl ?_
  refine cx_icmp_ge (tgt := 35) C dX9_isAt_8 (by decide) (fun c1 => ?_) (fun c1 => ?_)
  · have hf := cx_if_t hf c1
    clear c1
    refine cx_iconst (v := 0) C dX9_isAt_35 (by decide) ?_
    obtain rfl := Option.some.inj hf
    exact cx_zret C hA hQ hr hlk dX9_isAt_36 rfl rfl rfl
  · have hf := cx_if_f hf c1
    clear c1
    refine cx_aload_n C dX9_isAt_11 0 rfl ?_
    refine cx_get (v := .ref (m_a 8)) (ci := 8) C iX9 dX9_isAt_12 0 rfl rfl 8 (by decide) hw_1062 rfl ?_
    refine cx_aload_n C dX9_isAt_15 0 rfl ?_
    refine cx_get (v := .int m_at) (ci := 8) C iX9 dX9_isAt_16 0 rfl rfl 10 (by decide) hw_1064 rfl ?_
    obtain ⟨g2, hf⟩ := cx_gd_at hf
    refine cx_iald C dX9_isAt_19 8 rfl (cx_ib_in g2) ?_
    clear g2
    refine cx_i2l C dX9_isAt_20 ?_
    refine cx_iload_n C dX9_isAt_21 1 rfl ?_
    refine cx_i2l C dX9_isAt_22 ?_
    refine cx_iload_n C dX9_isAt_23 2 rfl ?_
    refine cx_i2l C dX9_isAt_24 ?_
    obtain ⟨u3, e4, hf⟩ := cx_bd_at hf
    refine cx_Ksi (As := [.long (Int32.toInt64 (m_text (cx_ix m_at))), .long (Int32.toInt64 p1), .long (Int32.toInt64 p2)]) (rest := []) hA C me_X9_in hw_1132 (c_X9_in l D k (Int32.toInt64 (m_text (cx_ix m_at))) (Int32.toInt64 p1) (Int32.toInt64 p2) u3 e4) dX9_isAt_25 ⟨Nat.le_of_ble_eq_true rfl, Nat.le_of_ble_eq_true rfl⟩ ⟨Nat.zero_le _, Nat.zero_le _⟩ rfl rfl (Nat.le_of_ble_eq_true rfl) [] rfl (by decide) ?_
    clear e4
    refine cx_if_eq (tgt := 35) C dX9_isAt_28 (by decide) (fun c5 => ?_) (fun c5 => ?_)
    · have hf := cx_if_t hf c5
      clear c5
      refine cx_iconst (v := 0) C dX9_isAt_35 (by decide) ?_
      obtain rfl := Option.some.inj hf
      exact cx_zret C hA hQ hr hlk dX9_isAt_36 rfl rfl rfl
    · have hf := cx_if_f hf c5
      clear c5
      refine cx_iconst (v := 1) C dX9_isAt_31 (by decide) ?_
      refine cx_goto (tgt := 36) C dX9_isAt_32 (by decide) ?_
      obtain rfl := Option.some.inj hf
      exact cx_zret C hA hQ hr hlk dX9_isAt_36 rfl rfl rfl
theorem dX9_verbOf_0 : decode cX9_verbOf 0 = .ok (.lload_n 0, 1) := by decide +kernel
theorem dX9_verbOf_1 : decode cX9_verbOf 1 = .ok (.ldc2_w 153, 3) := by decide +kernel
theorem dX9_verbOf_4 : decode cX9_verbOf 4 = .ok (.lcmp, 1) := by decide +kernel
theorem dX9_verbOf_5 : decode cX9_verbOf 5 = .ok (.ifCond .ne 7, 3) := by decide +kernel
theorem dX9_verbOf_8 : decode cX9_verbOf 8 = .ok (.iconst 0, 1) := by decide +kernel
theorem dX9_verbOf_9 : decode cX9_verbOf 9 = .ok (.goto 40, 3) := by decide +kernel
theorem dX9_verbOf_12 : decode cX9_verbOf 12 = .ok (.lload_n 0, 1) := by decide +kernel
theorem dX9_verbOf_13 : decode cX9_verbOf 13 = .ok (.ldc2_w 155, 3) := by decide +kernel
theorem dX9_verbOf_16 : decode cX9_verbOf 16 = .ok (.lcmp, 1) := by decide +kernel
theorem dX9_verbOf_17 : decode cX9_verbOf 17 = .ok (.ifCond .ne 7, 3) := by decide +kernel
theorem dX9_verbOf_20 : decode cX9_verbOf 20 = .ok (.iconst 1, 1) := by decide +kernel
theorem dX9_verbOf_21 : decode cX9_verbOf 21 = .ok (.goto 28, 3) := by decide +kernel
theorem dX9_verbOf_24 : decode cX9_verbOf 24 = .ok (.lload_n 0, 1) := by decide +kernel
theorem dX9_verbOf_25 : decode cX9_verbOf 25 = .ok (.ldc2_w 157, 3) := by decide +kernel
theorem dX9_verbOf_28 : decode cX9_verbOf 28 = .ok (.lcmp, 1) := by decide +kernel
theorem dX9_verbOf_29 : decode cX9_verbOf 29 = .ok (.ifCond .ne 7, 3) := by decide +kernel
theorem dX9_verbOf_32 : decode cX9_verbOf 32 = .ok (.iconst 2, 1) := by decide +kernel
theorem dX9_verbOf_33 : decode cX9_verbOf 33 = .ok (.goto 16, 3) := by decide +kernel
theorem dX9_verbOf_36 : decode cX9_verbOf 36 = .ok (.lload_n 0, 1) := by decide +kernel
theorem dX9_verbOf_37 : decode cX9_verbOf 37 = .ok (.ldc2_w 159, 3) := by decide +kernel
theorem dX9_verbOf_40 : decode cX9_verbOf 40 = .ok (.lcmp, 1) := by decide +kernel
theorem dX9_verbOf_41 : decode cX9_verbOf 41 = .ok (.ifCond .ne 7, 3) := by decide +kernel
theorem dX9_verbOf_44 : decode cX9_verbOf 44 = .ok (.iconst 3, 1) := by decide +kernel
theorem dX9_verbOf_45 : decode cX9_verbOf 45 = .ok (.goto 4, 3) := by decide +kernel
theorem dX9_verbOf_48 : decode cX9_verbOf 48 = .ok (.iconst (-1), 1) := by decide +kernel
theorem dX9_verbOf_49 : decode cX9_verbOf 49 = .ok (.istore_n 2, 1) := by decide +kernel
theorem dX9_verbOf_50 : decode cX9_verbOf 50 = .ok (.lload_n 0, 1) := by decide +kernel
theorem dX9_verbOf_51 : decode cX9_verbOf 51 = .ok (.ldc2_w 161, 3) := by decide +kernel
theorem dX9_verbOf_54 : decode cX9_verbOf 54 = .ok (.lcmp, 1) := by decide +kernel
theorem dX9_verbOf_55 : decode cX9_verbOf 55 = .ok (.ifCond .ne 7, 3) := by decide +kernel
theorem dX9_verbOf_58 : decode cX9_verbOf 58 = .ok (.iconst 4, 1) := by decide +kernel
theorem dX9_verbOf_59 : decode cX9_verbOf 59 = .ok (.goto 42, 3) := by decide +kernel
theorem dX9_verbOf_62 : decode cX9_verbOf 62 = .ok (.lload_n 0, 1) := by decide +kernel
theorem dX9_verbOf_63 : decode cX9_verbOf 63 = .ok (.ldc2_w 163, 3) := by decide +kernel
theorem dX9_verbOf_66 : decode cX9_verbOf 66 = .ok (.lcmp, 1) := by decide +kernel
theorem dX9_verbOf_67 : decode cX9_verbOf 67 = .ok (.ifCond .ne 7, 3) := by decide +kernel
theorem dX9_verbOf_70 : decode cX9_verbOf 70 = .ok (.iconst 5, 1) := by decide +kernel
theorem dX9_verbOf_71 : decode cX9_verbOf 71 = .ok (.goto 30, 3) := by decide +kernel
theorem dX9_verbOf_74 : decode cX9_verbOf 74 = .ok (.lload_n 0, 1) := by decide +kernel
theorem dX9_verbOf_75 : decode cX9_verbOf 75 = .ok (.ldc2_w 165, 3) := by decide +kernel
theorem dX9_verbOf_78 : decode cX9_verbOf 78 = .ok (.lcmp, 1) := by decide +kernel
theorem dX9_verbOf_79 : decode cX9_verbOf 79 = .ok (.ifCond .ne 8, 3) := by decide +kernel
theorem dX9_verbOf_82 : decode cX9_verbOf 82 = .ok (.bipush 6, 2) := by decide +kernel
theorem dX9_verbOf_84 : decode cX9_verbOf 84 = .ok (.goto 17, 3) := by decide +kernel
theorem dX9_verbOf_87 : decode cX9_verbOf 87 = .ok (.lload_n 0, 1) := by decide +kernel
theorem dX9_verbOf_88 : decode cX9_verbOf 88 = .ok (.ldc2_w 167, 3) := by decide +kernel
theorem dX9_verbOf_91 : decode cX9_verbOf 91 = .ok (.lcmp, 1) := by decide +kernel
theorem dX9_verbOf_92 : decode cX9_verbOf 92 = .ok (.ifCond .ne 8, 3) := by decide +kernel
theorem dX9_verbOf_95 : decode cX9_verbOf 95 = .ok (.bipush 7, 2) := by decide +kernel
theorem dX9_verbOf_97 : decode cX9_verbOf 97 = .ok (.goto 4, 3) := by decide +kernel
theorem dX9_verbOf_100 : decode cX9_verbOf 100 = .ok (.iconst (-1), 1) := by decide +kernel
theorem dX9_verbOf_101 : decode cX9_verbOf 101 = .ok (.istore_n 3, 1) := by decide +kernel
theorem dX9_verbOf_102 : decode cX9_verbOf 102 = .ok (.iload_n 2, 1) := by decide +kernel
theorem dX9_verbOf_103 : decode cX9_verbOf 103 = .ok (.iconst (-1), 1) := by decide +kernel
theorem dX9_verbOf_104 : decode cX9_verbOf 104 = .ok (.if_icmp .eq 7, 3) := by decide +kernel
theorem dX9_verbOf_107 : decode cX9_verbOf 107 = .ok (.iload_n 2, 1) := by decide +kernel
theorem dX9_verbOf_108 : decode cX9_verbOf 108 = .ok (.goto 4, 3) := by decide +kernel
theorem dX9_verbOf_111 : decode cX9_verbOf 111 = .ok (.iload_n 3, 1) := by decide +kernel
theorem dX9_verbOf_112 : decode cX9_verbOf 112 = .ok (.ireturn, 1) := by decide +kernel
theorem me_X9_verbOf : cx_Ms yX9_verbOf cX9_verbOf 4 (some .int) 1 := ⟨⟨⟨by decide +kernel, by decide +kernel, by decide +kernel⟩, hw_11, hw_1256⟩, hw_1255⟩
noncomputable def f_X9_verbOf_J101 (x2_10 : Int32) (s0_11 : Int32) : Option Int32 := if x2_10 = ((-1)) then (some s0_11) else (some x2_10)
noncomputable def f_X9_verbOf_J49 (p0 : Int64) (s0_5 : Int32) : Option Int32 := if (lg_cmp p0 267300) = 0 then (f_X9_verbOf_J101 s0_5 4) else (if (lg_cmp p0 460197) = 0 then (f_X9_verbOf_J101 s0_5 5) else (if (lg_cmp p0 343342) = 0 then (f_X9_verbOf_J101 s0_5 6) else (if (lg_cmp p0 21091104997) = 0 then (f_X9_verbOf_J101 s0_5 7) else (f_X9_verbOf_J101 s0_5 ((-1))))))
noncomputable def f_X9_verbOf (p0 : Int64) : Option Int32 := if (lg_cmp p0 542723566) = 0 then (f_X9_verbOf_J49 p0 0) else (if (lg_cmp p0 538514900) = 0 then (f_X9_verbOf_J49 p0 1) else (if (lg_cmp p0 463922) = 0 then (f_X9_verbOf_J49 p0 2) else (if (lg_cmp p0 17485682245) = 0 then (f_X9_verbOf_J49 p0 3) else (f_X9_verbOf_J49 p0 ((-1))))))
set_option maxHeartbeats 4000000 in
set_option maxRecDepth 100000 in
theorem c_X9_verbOf (l : Launch) (D : va_G) (k : Nat → ClassId) (p0 : Int64) (y : Int32) (hf : f_X9_verbOf p0 = some y) : cx_M l yX9_verbOf cX9_verbOf 4 (some .int) 1 D k [.long p0] ([] : va_W) (fun sz => cx_Qi D y ([] : va_W) ([] : va_W) sz) := by
  refine cx_met (own := "NamelessBoxModel") (by decide) rfl (Nat.le_of_ble_eq_true rfl) ?_
  intro p e s m args below meth c A Q C hA hQ hr hlk
  refine cx_lv (lv' := [(0, .long p0)]) [0] rfl ?_
  have J101 : ∀ (x2_10 : Int32) (s0_11 : Int32), f_X9_verbOf_J101 x2_10 s0_11 = some y → cx_S p l e (cx_rm 1) s m args below meth c A D 4 0 0 Q 101 [(2, .int x2_10)] [.int s0_11] ([] : va_W) := by
    intro x2_10 s0_11 hf
    unfold f_X9_verbOf_J101 at hf
    refine cx_istore_n (lv' := [(3, .int s0_11), (2, .int x2_10)]) C dX9_verbOf_101 rfl (by decide) rfl ?_
    refine cx_iload_n C dX9_verbOf_102 1 rfl ?_
    refine cx_iconst (v := (-1)) C dX9_verbOf_103 (by decide) ?_
    refine cx_icmp_eq (tgt := 111) C dX9_verbOf_104 (by decide) (fun c12 => ?_) (fun c12 => ?_)
    · have hf := cx_if_t hf c12
      clear c12
      refine cx_iload_n C dX9_verbOf_111 0 rfl ?_
      obtain rfl := Option.some.inj hf
      exact cx_iret C hA hQ hr hlk dX9_verbOf_112 rfl rfl
    · have hf := cx_if_f hf c12
      clear c12
      refine cx_iload_n C dX9_verbOf_107 1 rfl ?_
      refine cx_goto (tgt := 112) C dX9_verbOf_108 (by decide) ?_
      obtain rfl := Option.some.inj hf
      exact cx_iret C hA hQ hr hlk dX9_verbOf_112 rfl rfl
  have J49 : ∀ (s0_5 : Int32), f_X9_verbOf_J49 p0 s0_5 = some y → cx_S p l e (cx_rm 1) s m args below meth c A D 4 0 0 Q 49 [(0, .long p0)] [.int s0_5] ([] : va_W) := by
    intro s0_5 hf
    unfold f_X9_verbOf_J49 at hf
    refine cx_istore_n (lv' := [(2, .int s0_5), (0, .long p0)]) C dX9_verbOf_49 rfl (by decide) rfl ?_
    refine cx_lload_n C dX9_verbOf_50 1 rfl ?_
    refine cx_ldc2 (v := 267300) C dX9_verbOf_51 hw_1261 ?_
    refine cx_lcmp C dX9_verbOf_54 ?_
    refine cx_if_ne (tgt := 62) C dX9_verbOf_55 (by decide) (fun c6 => ?_) (fun c6 => ?_)
    · have hf := cx_if_f hf c6
      clear c6
      refine cx_lload_n C dX9_verbOf_62 1 rfl ?_
      refine cx_ldc2 (v := 460197) C dX9_verbOf_63 hw_1262 ?_
      refine cx_lcmp C dX9_verbOf_66 ?_
      refine cx_if_ne (tgt := 74) C dX9_verbOf_67 (by decide) (fun c7 => ?_) (fun c7 => ?_)
      · have hf := cx_if_f hf c7
        clear c7
        refine cx_lload_n C dX9_verbOf_74 1 rfl ?_
        refine cx_ldc2 (v := 343342) C dX9_verbOf_75 hw_1263 ?_
        refine cx_lcmp C dX9_verbOf_78 ?_
        refine cx_if_ne (tgt := 87) C dX9_verbOf_79 (by decide) (fun c8 => ?_) (fun c8 => ?_)
        · have hf := cx_if_f hf c8
          clear c8
          refine cx_lload_n C dX9_verbOf_87 1 rfl ?_
          refine cx_ldc2 (v := 21091104997) C dX9_verbOf_88 hw_1264 ?_
          refine cx_lcmp C dX9_verbOf_91 ?_
          refine cx_if_ne (tgt := 100) C dX9_verbOf_92 (by decide) (fun c9 => ?_) (fun c9 => ?_)
          · have hf := cx_if_f hf c9
            clear c9
            refine cx_iconst (v := (-1)) C dX9_verbOf_100 (by decide) ?_
            refine cx_lv [0] rfl ?_
            exact J101 s0_5 ((-1)) hf
          · have hf := cx_if_t hf c9
            clear c9
            refine cx_bipush (v := 7) C dX9_verbOf_95 (by decide) ?_
            refine cx_goto (tgt := 101) C dX9_verbOf_97 (by decide) ?_
            refine cx_lv [0] rfl ?_
            exact J101 s0_5 7 hf
        · have hf := cx_if_t hf c8
          clear c8
          refine cx_bipush (v := 6) C dX9_verbOf_82 (by decide) ?_
          refine cx_goto (tgt := 101) C dX9_verbOf_84 (by decide) ?_
          refine cx_lv [0] rfl ?_
          exact J101 s0_5 6 hf
      · have hf := cx_if_t hf c7
        clear c7
        refine cx_iconst (v := 5) C dX9_verbOf_70 (by decide) ?_
        refine cx_goto (tgt := 101) C dX9_verbOf_71 (by decide) ?_
        refine cx_lv [0] rfl ?_
        exact J101 s0_5 5 hf
    · have hf := cx_if_t hf c6
      clear c6
      refine cx_iconst (v := 4) C dX9_verbOf_58 (by decide) ?_
      refine cx_goto (tgt := 101) C dX9_verbOf_59 (by decide) ?_
      refine cx_lv [0] rfl ?_
      exact J101 s0_5 4 hf
  unfold f_X9_verbOf at hf
  refine cx_lload_n C dX9_verbOf_0 0 rfl ?_
  refine cx_ldc2 (v := 542723566) C dX9_verbOf_1 hw_1257 ?_
  refine cx_lcmp C dX9_verbOf_4 ?_
  refine cx_if_ne (tgt := 12) C dX9_verbOf_5 (by decide) (fun c1 => ?_) (fun c1 => ?_)
  · have hf := cx_if_f hf c1
    clear c1
    refine cx_lload_n C dX9_verbOf_12 0 rfl ?_
    refine cx_ldc2 (v := 538514900) C dX9_verbOf_13 hw_1258 ?_
    refine cx_lcmp C dX9_verbOf_16 ?_
    refine cx_if_ne (tgt := 24) C dX9_verbOf_17 (by decide) (fun c2 => ?_) (fun c2 => ?_)
    · have hf := cx_if_f hf c2
      clear c2
      refine cx_lload_n C dX9_verbOf_24 0 rfl ?_
      refine cx_ldc2 (v := 463922) C dX9_verbOf_25 hw_1259 ?_
      refine cx_lcmp C dX9_verbOf_28 ?_
      refine cx_if_ne (tgt := 36) C dX9_verbOf_29 (by decide) (fun c3 => ?_) (fun c3 => ?_)
      · have hf := cx_if_f hf c3
        clear c3
        refine cx_lload_n C dX9_verbOf_36 0 rfl ?_
        refine cx_ldc2 (v := 17485682245) C dX9_verbOf_37 hw_1260 ?_
        refine cx_lcmp C dX9_verbOf_40 ?_
        refine cx_if_ne (tgt := 48) C dX9_verbOf_41 (by decide) (fun c4 => ?_) (fun c4 => ?_)
        · have hf := cx_if_f hf c4
          clear c4
          refine cx_iconst (v := (-1)) C dX9_verbOf_48 (by decide) ?_
          exact J49 ((-1)) hf
        · have hf := cx_if_t hf c4
          clear c4
          refine cx_iconst (v := 3) C dX9_verbOf_44 (by decide) ?_
          refine cx_goto (tgt := 49) C dX9_verbOf_45 (by decide) ?_
          exact J49 3 hf
      · have hf := cx_if_t hf c3
        clear c3
        refine cx_iconst (v := 2) C dX9_verbOf_32 (by decide) ?_
        refine cx_goto (tgt := 49) C dX9_verbOf_33 (by decide) ?_
        exact J49 2 hf
    · have hf := cx_if_t hf c2
      clear c2
      refine cx_iconst (v := 1) C dX9_verbOf_20 (by decide) ?_
      refine cx_goto (tgt := 49) C dX9_verbOf_21 (by decide) ?_
      exact J49 1 hf
  · have hf := cx_if_t hf c1
    clear c1
    refine cx_iconst (v := 0) C dX9_verbOf_8 (by decide) ?_
    refine cx_goto (tgt := 49) C dX9_verbOf_9 (by decide) ?_
    exact J49 0 hf
theorem dX9_scans_0 : decode cX9_scans 0 = .ok (.aload_n 0, 1) := by decide +kernel
theorem dX9_scans_1 : decode cX9_scans 1 = .ok (.bipush 32, 2) := by decide +kernel
theorem dX9_scans_3 : decode cX9_scans 3 = .ok (.bipush 32, 2) := by decide +kernel
theorem dX9_scans_5 : decode cX9_scans 5 = .ok (.invokevirtual 169, 3) := by decide +kernel
theorem dX9_scans_8 : decode cX9_scans 8 = .ok (.ifCond .eq 16, 3) := by decide +kernel
theorem dX9_scans_11 : decode cX9_scans 11 = .ok (.aload_n 0, 1) := by decide +kernel
theorem dX9_scans_12 : decode cX9_scans 12 = .ok (.dup, 1) := by decide +kernel
theorem dX9_scans_13 : decode cX9_scans 13 = .ok (.getfield 150, 3) := by decide +kernel
theorem dX9_scans_16 : decode cX9_scans 16 = .ok (.iconst 1, 1) := by decide +kernel
theorem dX9_scans_17 : decode cX9_scans 17 = .ok (.iadd, 1) := by decide +kernel
theorem dX9_scans_18 : decode cX9_scans 18 = .ok (.putfield 150, 3) := by decide +kernel
theorem dX9_scans_21 : decode cX9_scans 21 = .ok (.goto (-21), 3) := by decide +kernel
theorem dX9_scans_24 : decode cX9_scans 24 = .ok (.aload_n 0, 1) := by decide +kernel
theorem dX9_scans_25 : decode cX9_scans 25 = .ok (.aload_n 0, 1) := by decide +kernel
theorem dX9_scans_26 : decode cX9_scans 26 = .ok (.getfield 150, 3) := by decide +kernel
theorem dX9_scans_29 : decode cX9_scans 29 = .ok (.putfield 173, 3) := by decide +kernel
theorem dX9_scans_32 : decode cX9_scans 32 = .ok (.aload_n 0, 1) := by decide +kernel
theorem dX9_scans_33 : decode cX9_scans 33 = .ok (.getfield 150, 3) := by decide +kernel
theorem dX9_scans_36 : decode cX9_scans 36 = .ok (.aload_n 0, 1) := by decide +kernel
theorem dX9_scans_37 : decode cX9_scans 37 = .ok (.getfield 144, 3) := by decide +kernel
theorem dX9_scans_40 : decode cX9_scans 40 = .ok (.if_icmp .ne 9, 3) := by decide +kernel
theorem dX9_scans_43 : decode cX9_scans 43 = .ok (.aload_n 0, 1) := by decide +kernel
theorem dX9_scans_44 : decode cX9_scans 44 = .ok (.iconst 0, 1) := by decide +kernel
theorem dX9_scans_45 : decode cX9_scans 45 = .ok (.putfield 176, 3) := by decide +kernel
theorem dX9_scans_48 : decode cX9_scans 48 = .ok (.return_, 1) := by decide +kernel
theorem dX9_scans_49 : decode cX9_scans 49 = .ok (.aload_n 0, 1) := by decide +kernel
theorem dX9_scans_50 : decode cX9_scans 50 = .ok (.bipush 97, 2) := by decide +kernel
theorem dX9_scans_52 : decode cX9_scans 52 = .ok (.bipush 122, 2) := by decide +kernel
theorem dX9_scans_54 : decode cX9_scans 54 = .ok (.invokevirtual 169, 3) := by decide +kernel
theorem dX9_scans_57 : decode cX9_scans 57 = .ok (.ifCond .eq 93, 3) := by decide +kernel
theorem dX9_scans_60 : decode cX9_scans 60 = .ok (.lconst 0, 1) := by decide +kernel
theorem dX9_scans_61 : decode cX9_scans 61 = .ok (.lstore_n 1, 1) := by decide +kernel
theorem dX9_scans_62 : decode cX9_scans 62 = .ok (.aload_n 0, 1) := by decide +kernel
theorem dX9_scans_63 : decode cX9_scans 63 = .ok (.bipush 97, 2) := by decide +kernel
theorem dX9_scans_65 : decode cX9_scans 65 = .ok (.bipush 122, 2) := by decide +kernel
theorem dX9_scans_67 : decode cX9_scans 67 = .ok (.invokevirtual 169, 3) := by decide +kernel
theorem dX9_scans_70 : decode cX9_scans 70 = .ok (.ifCond .eq 57, 3) := by decide +kernel
theorem dX9_scans_73 : decode cX9_scans 73 = .ok (.aload_n 0, 1) := by decide +kernel
theorem dX9_scans_74 : decode cX9_scans 74 = .ok (.getfield 150, 3) := by decide +kernel
theorem dX9_scans_77 : decode cX9_scans 77 = .ok (.aload_n 0, 1) := by decide +kernel
theorem dX9_scans_78 : decode cX9_scans 78 = .ok (.getfield 173, 3) := by decide +kernel
theorem dX9_scans_81 : decode cX9_scans 81 = .ok (.isub, 1) := by decide +kernel
theorem dX9_scans_82 : decode cX9_scans 82 = .ok (.bipush 7, 2) := by decide +kernel
theorem dX9_scans_84 : decode cX9_scans 84 = .ok (.if_icmp .le 7, 3) := by decide +kernel
theorem dX9_scans_87 : decode cX9_scans 87 = .ok (.lconst 0, 1) := by decide +kernel
theorem dX9_scans_88 : decode cX9_scans 88 = .ok (.goto 25, 3) := by decide +kernel
theorem dX9_scans_91 : decode cX9_scans 91 = .ok (.ldc2_w 179, 3) := by decide +kernel
theorem dX9_scans_94 : decode cX9_scans 94 = .ok (.lload_n 1, 1) := by decide +kernel
theorem dX9_scans_95 : decode cX9_scans 95 = .ok (.lmul, 1) := by decide +kernel
theorem dX9_scans_96 : decode cX9_scans 96 = .ok (.aload_n 0, 1) := by decide +kernel
theorem dX9_scans_97 : decode cX9_scans 97 = .ok (.getfield 67, 3) := by decide +kernel
theorem dX9_scans_100 : decode cX9_scans 100 = .ok (.aload_n 0, 1) := by decide +kernel
theorem dX9_scans_101 : decode cX9_scans 101 = .ok (.getfield 150, 3) := by decide +kernel
theorem dX9_scans_104 : decode cX9_scans 104 = .ok (.iaload, 1) := by decide +kernel
theorem dX9_scans_105 : decode cX9_scans 105 = .ok (.i2l, 1) := by decide +kernel
theorem dX9_scans_106 : decode cX9_scans 106 = .ok (.ladd, 1) := by decide +kernel
theorem dX9_scans_107 : decode cX9_scans 107 = .ok (.ldc2_w 181, 3) := by decide +kernel
theorem dX9_scans_110 : decode cX9_scans 110 = .ok (.lsub, 1) := by decide +kernel
theorem dX9_scans_111 : decode cX9_scans 111 = .ok (.lconst 1, 1) := by decide +kernel
theorem dX9_scans_112 : decode cX9_scans 112 = .ok (.ladd, 1) := by decide +kernel
theorem dX9_scans_113 : decode cX9_scans 113 = .ok (.lstore_n 1, 1) := by decide +kernel
theorem dX9_scans_114 : decode cX9_scans 114 = .ok (.aload_n 0, 1) := by decide +kernel
theorem dX9_scans_115 : decode cX9_scans 115 = .ok (.dup, 1) := by decide +kernel
theorem dX9_scans_116 : decode cX9_scans 116 = .ok (.getfield 150, 3) := by decide +kernel
theorem dX9_scans_119 : decode cX9_scans 119 = .ok (.iconst 1, 1) := by decide +kernel
theorem dX9_scans_120 : decode cX9_scans 120 = .ok (.iadd, 1) := by decide +kernel
theorem dX9_scans_121 : decode cX9_scans 121 = .ok (.putfield 150, 3) := by decide +kernel
theorem dX9_scans_124 : decode cX9_scans 124 = .ok (.goto (-62), 3) := by decide +kernel
theorem dX9_scans_127 : decode cX9_scans 127 = .ok (.aload_n 0, 1) := by decide +kernel
theorem dX9_scans_128 : decode cX9_scans 128 = .ok (.lload_n 1, 1) := by decide +kernel
theorem dX9_scans_129 : decode cX9_scans 129 = .ok (.invokestatic 183, 3) := by decide +kernel
theorem dX9_scans_132 : decode cX9_scans 132 = .ok (.iconst (-1), 1) := by decide +kernel
theorem dX9_scans_133 : decode cX9_scans 133 = .ok (.if_icmp .ne 7, 3) := by decide +kernel
theorem dX9_scans_136 : decode cX9_scans 136 = .ok (.iconst 1, 1) := by decide +kernel
theorem dX9_scans_137 : decode cX9_scans 137 = .ok (.goto 9, 3) := by decide +kernel
theorem dX9_scans_140 : decode cX9_scans 140 = .ok (.iconst 4, 1) := by decide +kernel
theorem dX9_scans_141 : decode cX9_scans 141 = .ok (.lload_n 1, 1) := by decide +kernel
theorem dX9_scans_142 : decode cX9_scans 142 = .ok (.invokestatic 183, 3) := by decide +kernel
theorem dX9_scans_145 : decode cX9_scans 145 = .ok (.iadd, 1) := by decide +kernel
theorem dX9_scans_146 : decode cX9_scans 146 = .ok (.putfield 176, 3) := by decide +kernel
theorem dX9_scans_149 : decode cX9_scans 149 = .ok (.return_, 1) := by decide +kernel
theorem dX9_scans_150 : decode cX9_scans 150 = .ok (.aload_n 0, 1) := by decide +kernel
theorem dX9_scans_151 : decode cX9_scans 151 = .ok (.bipush 48, 2) := by decide +kernel
theorem dX9_scans_153 : decode cX9_scans 153 = .ok (.bipush 57, 2) := by decide +kernel
theorem dX9_scans_155 : decode cX9_scans 155 = .ok (.invokevirtual 169, 3) := by decide +kernel
theorem dX9_scans_158 : decode cX9_scans 158 = .ok (.ifCond .eq 99, 3) := by decide +kernel
theorem dX9_scans_161 : decode cX9_scans 161 = .ok (.aload_n 0, 1) := by decide +kernel
theorem dX9_scans_162 : decode cX9_scans 162 = .ok (.iconst 0, 1) := by decide +kernel
theorem dX9_scans_163 : decode cX9_scans 163 = .ok (.putfield 187, 3) := by decide +kernel
theorem dX9_scans_166 : decode cX9_scans 166 = .ok (.aload_n 0, 1) := by decide +kernel
theorem dX9_scans_167 : decode cX9_scans 167 = .ok (.bipush 48, 2) := by decide +kernel
theorem dX9_scans_169 : decode cX9_scans 169 = .ok (.bipush 57, 2) := by decide +kernel
theorem dX9_scans_171 : decode cX9_scans 171 = .ok (.invokevirtual 169, 3) := by decide +kernel
theorem dX9_scans_174 : decode cX9_scans 174 = .ok (.ifCond .eq 60, 3) := by decide +kernel
theorem dX9_scans_177 : decode cX9_scans 177 = .ok (.aload_n 0, 1) := by decide +kernel
theorem dX9_scans_178 : decode cX9_scans 178 = .ok (.aload_n 0, 1) := by decide +kernel
theorem dX9_scans_179 : decode cX9_scans 179 = .ok (.getfield 150, 3) := by decide +kernel
theorem dX9_scans_182 : decode cX9_scans 182 = .ok (.aload_n 0, 1) := by decide +kernel
theorem dX9_scans_183 : decode cX9_scans 183 = .ok (.getfield 173, 3) := by decide +kernel
theorem dX9_scans_186 : decode cX9_scans 186 = .ok (.isub, 1) := by decide +kernel
theorem dX9_scans_187 : decode cX9_scans 187 = .ok (.iconst 3, 1) := by decide +kernel
theorem dX9_scans_188 : decode cX9_scans 188 = .ok (.if_icmp .ge 26, 3) := by decide +kernel
theorem dX9_scans_191 : decode cX9_scans 191 = .ok (.bipush 10, 2) := by decide +kernel
theorem dX9_scans_193 : decode cX9_scans 193 = .ok (.aload_n 0, 1) := by decide +kernel
theorem dX9_scans_194 : decode cX9_scans 194 = .ok (.getfield 187, 3) := by decide +kernel
theorem dX9_scans_197 : decode cX9_scans 197 = .ok (.imul, 1) := by decide +kernel
theorem dX9_scans_198 : decode cX9_scans 198 = .ok (.aload_n 0, 1) := by decide +kernel
theorem dX9_scans_199 : decode cX9_scans 199 = .ok (.getfield 67, 3) := by decide +kernel
theorem dX9_scans_202 : decode cX9_scans 202 = .ok (.aload_n 0, 1) := by decide +kernel
theorem dX9_scans_203 : decode cX9_scans 203 = .ok (.getfield 150, 3) := by decide +kernel
theorem dX9_scans_206 : decode cX9_scans 206 = .ok (.iaload, 1) := by decide +kernel
theorem dX9_scans_207 : decode cX9_scans 207 = .ok (.iadd, 1) := by decide +kernel
theorem dX9_scans_208 : decode cX9_scans 208 = .ok (.bipush 48, 2) := by decide +kernel
theorem dX9_scans_210 : decode cX9_scans 210 = .ok (.isub, 1) := by decide +kernel
theorem dX9_scans_211 : decode cX9_scans 211 = .ok (.goto 7, 3) := by decide +kernel
theorem dX9_scans_214 : decode cX9_scans 214 = .ok (.aload_n 0, 1) := by decide +kernel
theorem dX9_scans_215 : decode cX9_scans 215 = .ok (.getfield 187, 3) := by decide +kernel
theorem dX9_scans_218 : decode cX9_scans 218 = .ok (.putfield 187, 3) := by decide +kernel
theorem dX9_scans_221 : decode cX9_scans 221 = .ok (.aload_n 0, 1) := by decide +kernel
theorem dX9_scans_222 : decode cX9_scans 222 = .ok (.dup, 1) := by decide +kernel
theorem dX9_scans_223 : decode cX9_scans 223 = .ok (.getfield 150, 3) := by decide +kernel
theorem dX9_scans_226 : decode cX9_scans 226 = .ok (.iconst 1, 1) := by decide +kernel
theorem dX9_scans_227 : decode cX9_scans 227 = .ok (.iadd, 1) := by decide +kernel
theorem dX9_scans_228 : decode cX9_scans 228 = .ok (.putfield 150, 3) := by decide +kernel
theorem dX9_scans_231 : decode cX9_scans 231 = .ok (.goto (-65), 3) := by decide +kernel
theorem dX9_scans_234 : decode cX9_scans 234 = .ok (.aload_n 0, 1) := by decide +kernel
theorem dX9_scans_235 : decode cX9_scans 235 = .ok (.aload_n 0, 1) := by decide +kernel
theorem dX9_scans_236 : decode cX9_scans 236 = .ok (.getfield 150, 3) := by decide +kernel
theorem dX9_scans_239 : decode cX9_scans 239 = .ok (.aload_n 0, 1) := by decide +kernel
theorem dX9_scans_240 : decode cX9_scans 240 = .ok (.getfield 173, 3) := by decide +kernel
theorem dX9_scans_243 : decode cX9_scans 243 = .ok (.isub, 1) := by decide +kernel
theorem dX9_scans_244 : decode cX9_scans 244 = .ok (.iconst 3, 1) := by decide +kernel
theorem dX9_scans_245 : decode cX9_scans 245 = .ok (.if_icmp .le 7, 3) := by decide +kernel
theorem dX9_scans_248 : decode cX9_scans 248 = .ok (.iconst 1, 1) := by decide +kernel
theorem dX9_scans_249 : decode cX9_scans 249 = .ok (.goto 4, 3) := by decide +kernel
theorem dX9_scans_252 : decode cX9_scans 252 = .ok (.iconst 2, 1) := by decide +kernel
theorem dX9_scans_253 : decode cX9_scans 253 = .ok (.putfield 176, 3) := by decide +kernel
theorem dX9_scans_256 : decode cX9_scans 256 = .ok (.return_, 1) := by decide +kernel
theorem dX9_scans_257 : decode cX9_scans 257 = .ok (.aload_n 0, 1) := by decide +kernel
theorem dX9_scans_258 : decode cX9_scans 258 = .ok (.aload_n 0, 1) := by decide +kernel
theorem dX9_scans_259 : decode cX9_scans 259 = .ok (.bipush 59, 2) := by decide +kernel
theorem dX9_scans_261 : decode cX9_scans 261 = .ok (.bipush 59, 2) := by decide +kernel
theorem dX9_scans_263 : decode cX9_scans 263 = .ok (.invokevirtual 169, 3) := by decide +kernel
theorem dX9_scans_266 : decode cX9_scans 266 = .ok (.ifCond .eq 7, 3) := by decide +kernel
theorem dX9_scans_269 : decode cX9_scans 269 = .ok (.iconst 3, 1) := by decide +kernel
theorem dX9_scans_270 : decode cX9_scans 270 = .ok (.goto 4, 3) := by decide +kernel
theorem dX9_scans_273 : decode cX9_scans 273 = .ok (.iconst 1, 1) := by decide +kernel
theorem dX9_scans_274 : decode cX9_scans 274 = .ok (.putfield 176, 3) := by decide +kernel
theorem dX9_scans_277 : decode cX9_scans 277 = .ok (.aload_n 0, 1) := by decide +kernel
theorem dX9_scans_278 : decode cX9_scans 278 = .ok (.dup, 1) := by decide +kernel
theorem dX9_scans_279 : decode cX9_scans 279 = .ok (.getfield 150, 3) := by decide +kernel
theorem dX9_scans_282 : decode cX9_scans 282 = .ok (.iconst 1, 1) := by decide +kernel
theorem dX9_scans_283 : decode cX9_scans 283 = .ok (.iadd, 1) := by decide +kernel
theorem dX9_scans_284 : decode cX9_scans 284 = .ok (.putfield 150, 3) := by decide +kernel
theorem dX9_scans_287 : decode cX9_scans 287 = .ok (.return_, 1) := by decide +kernel
theorem me_X9_scans : cx_Mv yX9_scans cX9_scans 3 none 0 := ⟨⟨⟨by decide +kernel, by decide +kernel, by decide +kernel⟩, hw_11, hw_1247⟩, hw_1246, hs_51⟩
noncomputable def f_X9_scans_J274 (m_value : Int32) (h_15 : Int32) (h_16 : Int32) (s1_17 : Int32) : Option (Int32 × Int32 × Int32 × Int32) := some ((h_15 + 1, h_16, s1_17, m_value))
noncomputable def f_X9_scans_J253 (h_25 : Int32) (h_26 : Int32) (h_27 : Int32) (s1_28 : Int32) : Option (Int32 × Int32 × Int32 × Int32) := some ((h_25, h_26, s1_28, h_27))
noncomputable def f_X9_scans_J218 (h_18 : Int32) (rc166 : Int32 → Int32 → Option (Int32 × Int32 × Int32 × Int32)) (s1_30 : Int32) : Option (Int32 × Int32 × Int32 × Int32) := rc166 (h_18 + 1) s1_30
noncomputable def f_X9_scans_L166 (m_text : Nat → Int32) (m_typed : Int32) (h_19 : Int32) (rc166 : Int32 → Int32 → Option (Int32 × Int32 × Int32 × Int32)) (h_18 : Int32) (h_20 : Int32) : Option (Int32 × Int32 × Int32 × Int32) := Option.bind (f_X9_isAt m_text m_typed h_18 48 57) (fun u21 => if u21 = 0 then (if (h_18 - h_19) ≤ 3 then (f_X9_scans_J253 h_18 h_19 h_20 2) else (f_X9_scans_J253 h_18 h_19 h_20 1)) else (if 3 ≤ (h_18 - h_19) then (f_X9_scans_J218 h_18 rc166 h_20) else (cx_gd (cx_ib h_18 300) (f_X9_scans_J218 h_18 rc166 (((10 * h_20) + (m_text (cx_ix h_18))) - 48)))))
noncomputable def f_X9_scans_L166w (m_text : Nat → Int32) (m_typed : Int32) (h_19 : Int32) (n : Nat) : Int32 → Int32 → Option (Int32 × Int32 × Int32 × Int32) := Nat.rec (fun _ _ => none) (fun _ r => f_X9_scans_L166 m_text m_typed h_19 r) n
noncomputable def f_X9_scans_J146 (m_value : Int32) (h_43 : Int32) (h_44 : Int32) (s1_45 : Int32) : Option (Int32 × Int32 × Int32 × Int32) := some ((h_43, h_44, s1_45, m_value))
noncomputable def f_X9_scans_J113 (h_32 : Int32) (rc62 : Int32 → Int64 → Option (Int32 × Int32 × Int32 × Int32)) (s0_48 : Int64) : Option (Int32 × Int32 × Int32 × Int32) := rc62 (h_32 + 1) s0_48
noncomputable def f_X9_scans_L62 (m_text : Nat → Int32) (m_typed : Int32) (m_value : Int32) (h_33 : Int32) (rc62 : Int32 → Int64 → Option (Int32 × Int32 × Int32 × Int32)) (h_32 : Int32) (x1_34 : Int64) : Option (Int32 × Int32 × Int32 × Int32) := Option.bind (f_X9_isAt m_text m_typed h_32 97 122) (fun u35 => if u35 = 0 then (Option.bind (f_X9_verbOf x1_34) (fun u38 => if u38 = ((-1)) then (f_X9_scans_J146 m_value h_32 h_33 1) else (Option.bind (f_X9_verbOf x1_34) (fun u41 => f_X9_scans_J146 m_value h_32 h_33 (4 + u41))))) else (if (h_32 - h_33) ≤ 7 then (cx_gd (cx_ib h_32 300) (f_X9_scans_J113 h_32 rc62 ((((32 * x1_34) + (Int32.toInt64 (m_text (cx_ix h_32)))) - 97) + 1))) else (f_X9_scans_J113 h_32 rc62 0)))
noncomputable def f_X9_scans_L62w (m_text : Nat → Int32) (m_typed : Int32) (m_value : Int32) (h_33 : Int32) (n : Nat) : Int32 → Int64 → Option (Int32 × Int32 × Int32 × Int32) := Nat.rec (fun _ _ => none) (fun _ r => f_X9_scans_L62 m_text m_typed m_value h_33 r) n
noncomputable def f_X9_scans_L0 (m_text : Nat → Int32) (m_typed : Int32) (m_value : Int32) (rc0 : Int32 → Option (Int32 × Int32 × Int32 × Int32)) (h_1 : Int32) : Option (Int32 × Int32 × Int32 × Int32) := Option.bind (f_X9_isAt m_text m_typed h_1 32 32) (fun u2 => if u2 = 0 then (if h_1 = m_typed then (some ((h_1, h_1, 0, m_value))) else (Option.bind (f_X9_isAt m_text m_typed h_1 97 122) (fun u6 => if u6 = 0 then (Option.bind (f_X9_isAt m_text m_typed h_1 48 57) (fun u9 => if u9 = 0 then (Option.bind (f_X9_isAt m_text m_typed h_1 59 59) (fun u12 => if u12 = 0 then (f_X9_scans_J274 m_value h_1 h_1 1) else (f_X9_scans_J274 m_value h_1 h_1 3))) else (f_X9_scans_L166w m_text m_typed h_1 cx_N0 h_1 0))) else (f_X9_scans_L62w m_text m_typed m_value h_1 cx_N0 h_1 0)))) else (rc0 (h_1 + 1)))
noncomputable def f_X9_scans_L0w (m_text : Nat → Int32) (m_typed : Int32) (m_value : Int32) (n : Nat) : Int32 → Option (Int32 × Int32 × Int32 × Int32) := Nat.rec (fun _ => none) (fun _ r => f_X9_scans_L0 m_text m_typed m_value r) n
noncomputable def f_X9_scans (m_text : Nat → Int32) (m_typed : Int32) (m_at : Int32) (m_value : Int32) : Option (Int32 × Int32 × Int32 × Int32) := f_X9_scans_L0w m_text m_typed m_value cx_N0 m_at
set_option maxHeartbeats 4000000 in
set_option maxRecDepth 100000 in
theorem c_X9_scans (l : Launch) (D : va_G) (k : Nat → ClassId) (m_a : Nat → Nat) (m_limbs : Nat → Int32) (m_wide : Nat → Int32) (m_book : Nat → Int32) (m_images : Nat → Int32) (m_kept : Nat → Int32) (m_before : Nat → Int32) (m_refused : Nat → Int32) (m_quiet : Int32) (m_text : Nat → Int32) (m_typed : Int32) (m_at : Int32) (m_start : Int32) (m_token : Int32) (m_value : Int32) (m_items : Nat → Int32) (m_many : Int32) (m_is : Nat → Int32) (m_likes : Nat → Int32) (m_without : Int32) (m_onePicture : Int32) (m_oneYear : Int32) (m_first : Int32) (m_second : Int32) (m_names : Nat → Int32) (y : Int32 × Int32 × Int32 × Int32) (hf : f_X9_scans m_text m_typed m_at m_value = some y) : cx_M l yX9_scans cX9_scans 3 none 3 D k [.ref (m_a 0)] (wd_Model k m_a m_limbs m_wide m_book m_images m_kept m_before m_refused m_quiet m_text m_typed m_at m_start m_token m_value m_items m_many m_is m_likes m_without m_onePicture m_oneYear m_first m_second m_names) (fun sz => cx_Qv D (wd_Model k m_a m_limbs m_wide m_book m_images m_kept m_before m_refused m_quiet m_text m_typed m_at m_start m_token m_value m_items m_many m_is m_likes m_without m_onePicture m_oneYear m_first m_second m_names) (wd_Model k m_a m_limbs m_wide m_book m_images m_kept m_before m_refused m_quiet m_text m_typed y.1 y.2.1 y.2.2.1 y.2.2.2 m_items m_many m_is m_likes m_without m_onePicture m_oneYear m_first m_second m_names) sz) := by
  refine cx_met (own := "NamelessBoxModel") (by decide) rfl (Nat.le_of_ble_eq_true rfl) ?_
  intro p e s m args below meth c A Q C hA hQ hr hlk
  refine cx_lv (lv' := [(0, .ref (m_a 0))]) [0] rfl ?_
  have J274 : ∀ (h_15 : Int32) (h_16 : Int32) (s1_17 : Int32), f_X9_scans_J274 m_value h_15 h_16 s1_17 = some y → cx_S p l e (cx_rm 3) s m args below meth c A D 3 0 0 Q 274 [(0, .ref (m_a 0))] [.int s1_17, .ref (m_a 0)] (wd_Model k m_a m_limbs m_wide m_book m_images m_kept m_before m_refused m_quiet m_text m_typed h_15 h_16 m_token m_value m_items m_many m_is m_likes m_without m_onePicture m_oneYear m_first m_second m_names) := by
    intro h_15 h_16 s1_17 hf
    unfold f_X9_scans_J274 at hf
    refine cx_putf (v := .int s1_17) (ty := .int) (ci := 8) (ws' := (wd_Model k m_a m_limbs m_wide m_book m_images m_kept m_before m_refused m_quiet m_text m_typed h_15 h_16 s1_17 m_value m_items m_many m_is m_likes m_without m_onePicture m_oneYear m_first m_second m_names)) C iX9 tyX9 tyX9_ok nmX9 dX9_scans_274 0 rfl rfl 12 (by decide) hw_1066 rfl (by decide +kernel) rfl rfl (Nat.le_of_ble_eq_true rfl) rfl ?_
    refine cx_aload_n C dX9_scans_277 0 rfl ?_
    refine cx_dup C dX9_scans_278 rfl ?_
    refine cx_get (v := .int h_15) (ci := 8) C iX9 dX9_scans_279 0 rfl rfl 10 (by decide) hw_1064 rfl ?_
    refine cx_iconst (v := 1) C dX9_scans_282 (by decide) ?_
    refine cx_iadd C dX9_scans_283 ?_
    refine cx_putf (v := .int (h_15 + 1)) (ty := .int) (ci := 8) (ws' := (wd_Model k m_a m_limbs m_wide m_book m_images m_kept m_before m_refused m_quiet m_text m_typed (h_15 + 1) h_16 s1_17 m_value m_items m_many m_is m_likes m_without m_onePicture m_oneYear m_first m_second m_names)) C iX9 tyX9 tyX9_ok nmX9 dX9_scans_284 0 rfl rfl 10 (by decide) hw_1064 rfl (by decide +kernel) rfl rfl (Nat.le_of_ble_eq_true rfl) rfl ?_
    obtain rfl := Option.some.inj hf
    exact cx_vret C hA hQ hr hlk dX9_scans_287 rfl
  have J253 : ∀ (h_25 : Int32) (h_26 : Int32) (h_27 : Int32) (s1_28 : Int32), f_X9_scans_J253 h_25 h_26 h_27 s1_28 = some y → cx_S p l e (cx_rm 3) s m args below meth c A D 3 0 0 Q 253 [] [.int s1_28, .ref (m_a 0)] (wd_Model k m_a m_limbs m_wide m_book m_images m_kept m_before m_refused m_quiet m_text m_typed h_25 h_26 m_token h_27 m_items m_many m_is m_likes m_without m_onePicture m_oneYear m_first m_second m_names) := by
    intro h_25 h_26 h_27 s1_28 hf
    unfold f_X9_scans_J253 at hf
    refine cx_putf (v := .int s1_28) (ty := .int) (ci := 8) (ws' := (wd_Model k m_a m_limbs m_wide m_book m_images m_kept m_before m_refused m_quiet m_text m_typed h_25 h_26 s1_28 h_27 m_items m_many m_is m_likes m_without m_onePicture m_oneYear m_first m_second m_names)) C iX9 tyX9 tyX9_ok nmX9 dX9_scans_253 0 rfl rfl 12 (by decide) hw_1066 rfl (by decide +kernel) rfl rfl (Nat.le_of_ble_eq_true rfl) rfl ?_
    obtain rfl := Option.some.inj hf
    exact cx_vret C hA hQ hr hlk dX9_scans_256 rfl
  have L166 : ∀ (h_19 : Int32) (n166 : Nat) (h_18 : Int32) (h_20 : Int32), f_X9_scans_L166w m_text m_typed h_19 n166 h_18 h_20 = some y → cx_S p l e (cx_rm 3) s m args below meth c A D 3 0 0 Q 166 [(0, .ref (m_a 0))] [] (wd_Model k m_a m_limbs m_wide m_book m_images m_kept m_before m_refused m_quiet m_text m_typed h_18 h_19 m_token h_20 m_items m_many m_is m_likes m_without m_onePicture m_oneYear m_first m_second m_names) := by
    intro h_19 n166
    induction n166 with
    | zero =>
      intro h_18 h_20 hf
      exact absurd (show (none : Option (Int32 × Int32 × Int32 × Int32)) = some y from hf) (fun h => by cases h)
    | succ n166 ih166 =>
      intro h_18 h_20 hf
      have hf : f_X9_scans_L166 m_text m_typed h_19 (f_X9_scans_L166w m_text m_typed h_19 n166) h_18 h_20 = some y := hf
      have J218 : ∀ (s1_30 : Int32), f_X9_scans_J218 h_18 (f_X9_scans_L166w m_text m_typed h_19 n166) s1_30 = some y → cx_S p l e (cx_rm 3) s m args below meth c A D 3 0 0 Q 218 [(0, .ref (m_a 0))] [.int s1_30, .ref (m_a 0)] (wd_Model k m_a m_limbs m_wide m_book m_images m_kept m_before m_refused m_quiet m_text m_typed h_18 h_19 m_token h_20 m_items m_many m_is m_likes m_without m_onePicture m_oneYear m_first m_second m_names) := by
        intro s1_30 hf
        unfold f_X9_scans_J218 at hf
        refine cx_putf (v := .int s1_30) (ty := .int) (ci := 8) (ws' := (wd_Model k m_a m_limbs m_wide m_book m_images m_kept m_before m_refused m_quiet m_text m_typed h_18 h_19 m_token s1_30 m_items m_many m_is m_likes m_without m_onePicture m_oneYear m_first m_second m_names)) C iX9 tyX9 tyX9_ok nmX9 dX9_scans_218 0 rfl rfl 13 (by decide) hw_1067 rfl (by decide +kernel) rfl rfl (Nat.le_of_ble_eq_true rfl) rfl ?_
        refine cx_aload_n C dX9_scans_221 0 rfl ?_
        refine cx_dup C dX9_scans_222 rfl ?_
        refine cx_get (v := .int h_18) (ci := 8) C iX9 dX9_scans_223 0 rfl rfl 10 (by decide) hw_1064 rfl ?_
        refine cx_iconst (v := 1) C dX9_scans_226 (by decide) ?_
        refine cx_iadd C dX9_scans_227 ?_
        refine cx_putf (v := .int (h_18 + 1)) (ty := .int) (ci := 8) (ws' := (wd_Model k m_a m_limbs m_wide m_book m_images m_kept m_before m_refused m_quiet m_text m_typed (h_18 + 1) h_19 m_token s1_30 m_items m_many m_is m_likes m_without m_onePicture m_oneYear m_first m_second m_names)) C iX9 tyX9 tyX9_ok nmX9 dX9_scans_228 0 rfl rfl 10 (by decide) hw_1064 rfl (by decide +kernel) rfl rfl (Nat.le_of_ble_eq_true rfl) rfl ?_
        refine cx_goto (tgt := 166) C dX9_scans_231 (by decide) ?_
        exact ih166 (h_18 + 1) s1_30 hf
      unfold f_X9_scans_L166 at hf
      refine cx_aload_n C dX9_scans_166 0 rfl ?_
      refine cx_bipush (v := 48) C dX9_scans_167 (by decide) ?_
      refine cx_bipush (v := 57) C dX9_scans_169 (by decide) ?_
      obtain ⟨u21, e22, hf⟩ := cx_bd_at hf
      refine cx_Fvi (q := (RX9, TX9, 24)) (As := [.int 48, .int 57]) (rest := []) (w1 := (wd_Model k m_a m_limbs m_wide m_book m_images m_kept m_before m_refused m_quiet m_text m_typed h_18 h_19 m_token h_20 m_items m_many m_is m_likes m_without m_onePicture m_oneYear m_first m_second m_names)) hA C me_X9_isAt hw_1248 (c_X9_isAt l D k m_a m_limbs m_wide m_book m_images m_kept m_before m_refused m_quiet m_text m_typed h_18 h_19 m_token h_20 m_items m_many m_is m_likes m_without m_onePicture m_oneYear m_first m_second m_names 48 57 u21 e22) dX9_scans_171 ⟨Nat.le_of_ble_eq_true rfl, Nat.le_of_ble_eq_true rfl⟩ ⟨Nat.zero_le _, Nat.zero_le _⟩ rfl rfl (Nat.le_of_ble_eq_true rfl) rfl rfl rfl ?_
      clear e22
      refine cx_if_eq (tgt := 234) C dX9_scans_174 (by decide) (fun c23 => ?_) (fun c23 => ?_)
      · have hf := cx_if_t hf c23
        clear c23
        refine cx_aload_n C dX9_scans_234 0 rfl ?_
        refine cx_aload_n C dX9_scans_235 0 rfl ?_
        refine cx_get (v := .int h_18) (ci := 8) C iX9 dX9_scans_236 0 rfl rfl 10 (by decide) hw_1064 rfl ?_
        refine cx_aload_n C dX9_scans_239 0 rfl ?_
        refine cx_get (v := .int h_19) (ci := 8) C iX9 dX9_scans_240 0 rfl rfl 11 (by decide) hw_1065 rfl ?_
        refine cx_isub C dX9_scans_243 ?_
        refine cx_iconst (v := 3) C dX9_scans_244 (by decide) ?_
        refine cx_icmp_le (tgt := 252) C dX9_scans_245 (by decide) (fun c24 => ?_) (fun c24 => ?_)
        · have hf := cx_if_t hf c24
          clear c24
          refine cx_iconst (v := 2) C dX9_scans_252 (by decide) ?_
          refine cx_lv [] rfl ?_
          exact J253 h_18 h_19 h_20 2 hf
        · have hf := cx_if_f hf c24
          clear c24
          refine cx_iconst (v := 1) C dX9_scans_248 (by decide) ?_
          refine cx_goto (tgt := 253) C dX9_scans_249 (by decide) ?_
          refine cx_lv [] rfl ?_
          exact J253 h_18 h_19 h_20 1 hf
      · have hf := cx_if_f hf c23
        clear c23
        refine cx_aload_n C dX9_scans_177 0 rfl ?_
        refine cx_aload_n C dX9_scans_178 0 rfl ?_
        refine cx_get (v := .int h_18) (ci := 8) C iX9 dX9_scans_179 0 rfl rfl 10 (by decide) hw_1064 rfl ?_
        refine cx_aload_n C dX9_scans_182 0 rfl ?_
        refine cx_get (v := .int h_19) (ci := 8) C iX9 dX9_scans_183 0 rfl rfl 11 (by decide) hw_1065 rfl ?_
        refine cx_isub C dX9_scans_186 ?_
        refine cx_iconst (v := 3) C dX9_scans_187 (by decide) ?_
        refine cx_icmp_ge (tgt := 214) C dX9_scans_188 (by decide) (fun c29 => ?_) (fun c29 => ?_)
        · have hf := cx_if_t hf c29
          clear c29
          refine cx_aload_n C dX9_scans_214 0 rfl ?_
          refine cx_get (v := .int h_20) (ci := 8) C iX9 dX9_scans_215 0 rfl rfl 13 (by decide) hw_1067 rfl ?_
          exact J218 h_20 hf
        · have hf := cx_if_f hf c29
          clear c29
          refine cx_bipush (v := 10) C dX9_scans_191 (by decide) ?_
          refine cx_aload_n C dX9_scans_193 0 rfl ?_
          refine cx_get (v := .int h_20) (ci := 8) C iX9 dX9_scans_194 0 rfl rfl 13 (by decide) hw_1067 rfl ?_
          refine cx_imul C dX9_scans_197 ?_
          refine cx_aload_n C dX9_scans_198 0 rfl ?_
          refine cx_get (v := .ref (m_a 8)) (ci := 8) C iX9 dX9_scans_199 0 rfl rfl 8 (by decide) hw_1062 rfl ?_
          refine cx_aload_n C dX9_scans_202 0 rfl ?_
          refine cx_get (v := .int h_18) (ci := 8) C iX9 dX9_scans_203 0 rfl rfl 10 (by decide) hw_1064 rfl ?_
          obtain ⟨g31, hf⟩ := cx_gd_at hf
          refine cx_iald C dX9_scans_206 8 rfl (cx_ib_in g31) ?_
          clear g31
          refine cx_iadd C dX9_scans_207 ?_
          refine cx_bipush (v := 48) C dX9_scans_208 (by decide) ?_
          refine cx_isub C dX9_scans_210 ?_
          refine cx_goto (tgt := 218) C dX9_scans_211 (by decide) ?_
          exact J218 (((10 * h_20) + (m_text (cx_ix h_18))) - 48) hf
  have J146 : ∀ (h_43 : Int32) (h_44 : Int32) (s1_45 : Int32), f_X9_scans_J146 m_value h_43 h_44 s1_45 = some y → cx_S p l e (cx_rm 3) s m args below meth c A D 3 0 0 Q 146 [] [.int s1_45, .ref (m_a 0)] (wd_Model k m_a m_limbs m_wide m_book m_images m_kept m_before m_refused m_quiet m_text m_typed h_43 h_44 m_token m_value m_items m_many m_is m_likes m_without m_onePicture m_oneYear m_first m_second m_names) := by
    intro h_43 h_44 s1_45 hf
    unfold f_X9_scans_J146 at hf
    refine cx_putf (v := .int s1_45) (ty := .int) (ci := 8) (ws' := (wd_Model k m_a m_limbs m_wide m_book m_images m_kept m_before m_refused m_quiet m_text m_typed h_43 h_44 s1_45 m_value m_items m_many m_is m_likes m_without m_onePicture m_oneYear m_first m_second m_names)) C iX9 tyX9 tyX9_ok nmX9 dX9_scans_146 0 rfl rfl 12 (by decide) hw_1066 rfl (by decide +kernel) rfl rfl (Nat.le_of_ble_eq_true rfl) rfl ?_
    obtain rfl := Option.some.inj hf
    exact cx_vret C hA hQ hr hlk dX9_scans_149 rfl
  have L62 : ∀ (h_33 : Int32) (n62 : Nat) (h_32 : Int32) (x1_34 : Int64), f_X9_scans_L62w m_text m_typed m_value h_33 n62 h_32 x1_34 = some y → cx_S p l e (cx_rm 3) s m args below meth c A D 3 0 0 Q 62 [(0, .ref (m_a 0)), (1, .long x1_34)] [] (wd_Model k m_a m_limbs m_wide m_book m_images m_kept m_before m_refused m_quiet m_text m_typed h_32 h_33 m_token m_value m_items m_many m_is m_likes m_without m_onePicture m_oneYear m_first m_second m_names) := by
    intro h_33 n62
    induction n62 with
    | zero =>
      intro h_32 x1_34 hf
      exact absurd (show (none : Option (Int32 × Int32 × Int32 × Int32)) = some y from hf) (fun h => by cases h)
    | succ n62 ih62 =>
      intro h_32 x1_34 hf
      have hf : f_X9_scans_L62 m_text m_typed m_value h_33 (f_X9_scans_L62w m_text m_typed m_value h_33 n62) h_32 x1_34 = some y := hf
      have J113 : ∀ (s0_48 : Int64), f_X9_scans_J113 h_32 (f_X9_scans_L62w m_text m_typed m_value h_33 n62) s0_48 = some y → cx_S p l e (cx_rm 3) s m args below meth c A D 3 0 0 Q 113 [(0, .ref (m_a 0))] [.long s0_48] (wd_Model k m_a m_limbs m_wide m_book m_images m_kept m_before m_refused m_quiet m_text m_typed h_32 h_33 m_token m_value m_items m_many m_is m_likes m_without m_onePicture m_oneYear m_first m_second m_names) := by
        intro s0_48 hf
        unfold f_X9_scans_J113 at hf
        refine cx_lstore_n (lv' := [(1, .long s0_48), (0, .ref (m_a 0))]) C dX9_scans_113 rfl (by decide) rfl ?_
        refine cx_aload_n C dX9_scans_114 1 rfl ?_
        refine cx_dup C dX9_scans_115 rfl ?_
        refine cx_get (v := .int h_32) (ci := 8) C iX9 dX9_scans_116 0 rfl rfl 10 (by decide) hw_1064 rfl ?_
        refine cx_iconst (v := 1) C dX9_scans_119 (by decide) ?_
        refine cx_iadd C dX9_scans_120 ?_
        refine cx_putf (v := .int (h_32 + 1)) (ty := .int) (ci := 8) (ws' := (wd_Model k m_a m_limbs m_wide m_book m_images m_kept m_before m_refused m_quiet m_text m_typed (h_32 + 1) h_33 m_token m_value m_items m_many m_is m_likes m_without m_onePicture m_oneYear m_first m_second m_names)) C iX9 tyX9 tyX9_ok nmX9 dX9_scans_121 0 rfl rfl 10 (by decide) hw_1064 rfl (by decide +kernel) rfl rfl (Nat.le_of_ble_eq_true rfl) rfl ?_
        refine cx_goto (tgt := 62) C dX9_scans_124 (by decide) ?_
        refine cx_lv [1, 0] rfl ?_
        exact ih62 (h_32 + 1) s0_48 hf
      unfold f_X9_scans_L62 at hf
      refine cx_aload_n C dX9_scans_62 0 rfl ?_
      refine cx_bipush (v := 97) C dX9_scans_63 (by decide) ?_
      refine cx_bipush (v := 122) C dX9_scans_65 (by decide) ?_
      obtain ⟨u35, e36, hf⟩ := cx_bd_at hf
      refine cx_Fvi (q := (RX9, TX9, 24)) (As := [.int 97, .int 122]) (rest := []) (w1 := (wd_Model k m_a m_limbs m_wide m_book m_images m_kept m_before m_refused m_quiet m_text m_typed h_32 h_33 m_token m_value m_items m_many m_is m_likes m_without m_onePicture m_oneYear m_first m_second m_names)) hA C me_X9_isAt hw_1248 (c_X9_isAt l D k m_a m_limbs m_wide m_book m_images m_kept m_before m_refused m_quiet m_text m_typed h_32 h_33 m_token m_value m_items m_many m_is m_likes m_without m_onePicture m_oneYear m_first m_second m_names 97 122 u35 e36) dX9_scans_67 ⟨Nat.le_of_ble_eq_true rfl, Nat.le_of_ble_eq_true rfl⟩ ⟨Nat.zero_le _, Nat.zero_le _⟩ rfl rfl (Nat.le_of_ble_eq_true rfl) rfl rfl rfl ?_
      clear e36
      refine cx_if_eq (tgt := 127) C dX9_scans_70 (by decide) (fun c37 => ?_) (fun c37 => ?_)
      · have hf := cx_if_t hf c37
        clear c37
        refine cx_aload_n C dX9_scans_127 0 rfl ?_
        refine cx_lload_n C dX9_scans_128 1 rfl ?_
        obtain ⟨u38, e39, hf⟩ := cx_bd_at hf
        refine cx_Ksi (As := [.long x1_34]) (rest := [.ref (m_a 0)]) hA C me_X9_verbOf hw_1254 (c_X9_verbOf l D k x1_34 u38 e39) dX9_scans_129 ⟨Nat.le_of_ble_eq_true rfl, Nat.le_of_ble_eq_true rfl⟩ ⟨Nat.zero_le _, Nat.zero_le _⟩ rfl rfl (Nat.le_of_ble_eq_true rfl) [] rfl (by decide) ?_
        clear e39
        refine cx_iconst (v := (-1)) C dX9_scans_132 (by decide) ?_
        refine cx_icmp_ne (tgt := 140) C dX9_scans_133 (by decide) (fun c40 => ?_) (fun c40 => ?_)
        · have hf := cx_if_f hf c40
          clear c40
          refine cx_iconst (v := 4) C dX9_scans_140 (by decide) ?_
          refine cx_lload_n C dX9_scans_141 1 rfl ?_
          obtain ⟨u41, e42, hf⟩ := cx_bd_at hf
          refine cx_Ksi (As := [.long x1_34]) (rest := [.int 4, .ref (m_a 0)]) hA C me_X9_verbOf hw_1254 (c_X9_verbOf l D k x1_34 u41 e42) dX9_scans_142 ⟨Nat.le_of_ble_eq_true rfl, Nat.le_of_ble_eq_true rfl⟩ ⟨Nat.zero_le _, Nat.zero_le _⟩ rfl rfl (Nat.le_of_ble_eq_true rfl) [] rfl (by decide) ?_
          clear e42
          refine cx_iadd C dX9_scans_145 ?_
          refine cx_lv [] rfl ?_
          exact J146 h_32 h_33 (4 + u41) hf
        · have hf := cx_if_t hf c40
          clear c40
          refine cx_iconst (v := 1) C dX9_scans_136 (by decide) ?_
          refine cx_goto (tgt := 146) C dX9_scans_137 (by decide) ?_
          refine cx_lv [] rfl ?_
          exact J146 h_32 h_33 1 hf
      · have hf := cx_if_f hf c37
        clear c37
        refine cx_aload_n C dX9_scans_73 0 rfl ?_
        refine cx_get (v := .int h_32) (ci := 8) C iX9 dX9_scans_74 0 rfl rfl 10 (by decide) hw_1064 rfl ?_
        refine cx_aload_n C dX9_scans_77 0 rfl ?_
        refine cx_get (v := .int h_33) (ci := 8) C iX9 dX9_scans_78 0 rfl rfl 11 (by decide) hw_1065 rfl ?_
        refine cx_isub C dX9_scans_81 ?_
        refine cx_bipush (v := 7) C dX9_scans_82 (by decide) ?_
        refine cx_icmp_le (tgt := 91) C dX9_scans_84 (by decide) (fun c46 => ?_) (fun c46 => ?_)
        · have hf := cx_if_t hf c46
          clear c46
          refine cx_ldc2 (v := 32) C dX9_scans_91 hw_1252 ?_
          refine cx_lload_n C dX9_scans_94 1 rfl ?_
          refine cx_lmul C dX9_scans_95 ?_
          refine cx_aload_n C dX9_scans_96 0 rfl ?_
          refine cx_get (v := .ref (m_a 8)) (ci := 8) C iX9 dX9_scans_97 0 rfl rfl 8 (by decide) hw_1062 rfl ?_
          refine cx_aload_n C dX9_scans_100 0 rfl ?_
          refine cx_get (v := .int h_32) (ci := 8) C iX9 dX9_scans_101 0 rfl rfl 10 (by decide) hw_1064 rfl ?_
          obtain ⟨g47, hf⟩ := cx_gd_at hf
          refine cx_iald C dX9_scans_104 8 rfl (cx_ib_in g47) ?_
          clear g47
          refine cx_i2l C dX9_scans_105 ?_
          refine cx_ladd C dX9_scans_106 ?_
          refine cx_ldc2 (v := 97) C dX9_scans_107 hw_1253 ?_
          refine cx_lsub C dX9_scans_110 ?_
          refine cx_lconst (v := 1) C dX9_scans_111 (by decide) ?_
          refine cx_ladd C dX9_scans_112 ?_
          refine cx_lv [0] rfl ?_
          exact J113 ((((32 * x1_34) + (Int32.toInt64 (m_text (cx_ix h_32)))) - 97) + 1) hf
        · have hf := cx_if_f hf c46
          clear c46
          refine cx_lconst (v := 0) C dX9_scans_87 (by decide) ?_
          refine cx_goto (tgt := 113) C dX9_scans_88 (by decide) ?_
          refine cx_lv [0] rfl ?_
          exact J113 0 hf
  have L0 : ∀ (n0 : Nat) (h_1 : Int32), f_X9_scans_L0w m_text m_typed m_value n0 h_1 = some y → cx_S p l e (cx_rm 3) s m args below meth c A D 3 0 0 Q 0 [(0, .ref (m_a 0))] [] (wd_Model k m_a m_limbs m_wide m_book m_images m_kept m_before m_refused m_quiet m_text m_typed h_1 m_start m_token m_value m_items m_many m_is m_likes m_without m_onePicture m_oneYear m_first m_second m_names) := by
    intro  n0
    induction n0 with
    | zero =>
      intro h_1 hf
      exact absurd (show (none : Option (Int32 × Int32 × Int32 × Int32)) = some y from hf) (fun h => by cases h)
    | succ n0 ih0 =>
      intro h_1 hf
      have hf : f_X9_scans_L0 m_text m_typed m_value (f_X9_scans_L0w m_text m_typed m_value n0) h_1 = some y := hf
      unfold f_X9_scans_L0 at hf
      refine cx_aload_n C dX9_scans_0 0 rfl ?_
      refine cx_bipush (v := 32) C dX9_scans_1 (by decide) ?_
      refine cx_bipush (v := 32) C dX9_scans_3 (by decide) ?_
      obtain ⟨u2, e3, hf⟩ := cx_bd_at hf
      refine cx_Fvi (q := (RX9, TX9, 24)) (As := [.int 32, .int 32]) (rest := []) (w1 := (wd_Model k m_a m_limbs m_wide m_book m_images m_kept m_before m_refused m_quiet m_text m_typed h_1 m_start m_token m_value m_items m_many m_is m_likes m_without m_onePicture m_oneYear m_first m_second m_names)) hA C me_X9_isAt hw_1248 (c_X9_isAt l D k m_a m_limbs m_wide m_book m_images m_kept m_before m_refused m_quiet m_text m_typed h_1 m_start m_token m_value m_items m_many m_is m_likes m_without m_onePicture m_oneYear m_first m_second m_names 32 32 u2 e3) dX9_scans_5 ⟨Nat.le_of_ble_eq_true rfl, Nat.le_of_ble_eq_true rfl⟩ ⟨Nat.zero_le _, Nat.zero_le _⟩ rfl rfl (Nat.le_of_ble_eq_true rfl) rfl rfl rfl ?_
      clear e3
      refine cx_if_eq (tgt := 24) C dX9_scans_8 (by decide) (fun c4 => ?_) (fun c4 => ?_)
      · have hf := cx_if_t hf c4
        clear c4
        refine cx_aload_n C dX9_scans_24 0 rfl ?_
        refine cx_aload_n C dX9_scans_25 0 rfl ?_
        refine cx_get (v := .int h_1) (ci := 8) C iX9 dX9_scans_26 0 rfl rfl 10 (by decide) hw_1064 rfl ?_
        refine cx_putf (v := .int h_1) (ty := .int) (ci := 8) (ws' := (wd_Model k m_a m_limbs m_wide m_book m_images m_kept m_before m_refused m_quiet m_text m_typed h_1 h_1 m_token m_value m_items m_many m_is m_likes m_without m_onePicture m_oneYear m_first m_second m_names)) C iX9 tyX9 tyX9_ok nmX9 dX9_scans_29 0 rfl rfl 11 (by decide) hw_1065 rfl (by decide +kernel) rfl rfl (Nat.le_of_ble_eq_true rfl) rfl ?_
        refine cx_aload_n C dX9_scans_32 0 rfl ?_
        refine cx_get (v := .int h_1) (ci := 8) C iX9 dX9_scans_33 0 rfl rfl 10 (by decide) hw_1064 rfl ?_
        refine cx_aload_n C dX9_scans_36 0 rfl ?_
        refine cx_get (v := .int m_typed) (ci := 8) C iX9 dX9_scans_37 0 rfl rfl 9 (by decide) hw_1063 rfl ?_
        refine cx_icmp_ne (tgt := 49) C dX9_scans_40 (by decide) (fun c5 => ?_) (fun c5 => ?_)
        · have hf := cx_if_f hf c5
          clear c5
          refine cx_aload_n C dX9_scans_49 0 rfl ?_
          refine cx_bipush (v := 97) C dX9_scans_50 (by decide) ?_
          refine cx_bipush (v := 122) C dX9_scans_52 (by decide) ?_
          obtain ⟨u6, e7, hf⟩ := cx_bd_at hf
          refine cx_Fvi (q := (RX9, TX9, 24)) (As := [.int 97, .int 122]) (rest := []) (w1 := (wd_Model k m_a m_limbs m_wide m_book m_images m_kept m_before m_refused m_quiet m_text m_typed h_1 h_1 m_token m_value m_items m_many m_is m_likes m_without m_onePicture m_oneYear m_first m_second m_names)) hA C me_X9_isAt hw_1248 (c_X9_isAt l D k m_a m_limbs m_wide m_book m_images m_kept m_before m_refused m_quiet m_text m_typed h_1 h_1 m_token m_value m_items m_many m_is m_likes m_without m_onePicture m_oneYear m_first m_second m_names 97 122 u6 e7) dX9_scans_54 ⟨Nat.le_of_ble_eq_true rfl, Nat.le_of_ble_eq_true rfl⟩ ⟨Nat.zero_le _, Nat.zero_le _⟩ rfl rfl (Nat.le_of_ble_eq_true rfl) rfl rfl rfl ?_
          clear e7
          refine cx_if_eq (tgt := 150) C dX9_scans_57 (by decide) (fun c8 => ?_) (fun c8 => ?_)
          · have hf := cx_if_t hf c8
            clear c8
            refine cx_aload_n C dX9_scans_150 0 rfl ?_
            refine cx_bipush (v := 48) C dX9_scans_151 (by decide) ?_
            refine cx_bipush (v := 57) C dX9_scans_153 (by decide) ?_
            obtain ⟨u9, e10, hf⟩ := cx_bd_at hf
            refine cx_Fvi (q := (RX9, TX9, 24)) (As := [.int 48, .int 57]) (rest := []) (w1 := (wd_Model k m_a m_limbs m_wide m_book m_images m_kept m_before m_refused m_quiet m_text m_typed h_1 h_1 m_token m_value m_items m_many m_is m_likes m_without m_onePicture m_oneYear m_first m_second m_names)) hA C me_X9_isAt hw_1248 (c_X9_isAt l D k m_a m_limbs m_wide m_book m_images m_kept m_before m_refused m_quiet m_text m_typed h_1 h_1 m_token m_value m_items m_many m_is m_likes m_without m_onePicture m_oneYear m_first m_second m_names 48 57 u9 e10) dX9_scans_155 ⟨Nat.le_of_ble_eq_true rfl, Nat.le_of_ble_eq_true rfl⟩ ⟨Nat.zero_le _, Nat.zero_le _⟩ rfl rfl (Nat.le_of_ble_eq_true rfl) rfl rfl rfl ?_
            clear e10
            refine cx_if_eq (tgt := 257) C dX9_scans_158 (by decide) (fun c11 => ?_) (fun c11 => ?_)
            · have hf := cx_if_t hf c11
              clear c11
              refine cx_aload_n C dX9_scans_257 0 rfl ?_
              refine cx_aload_n C dX9_scans_258 0 rfl ?_
              refine cx_bipush (v := 59) C dX9_scans_259 (by decide) ?_
              refine cx_bipush (v := 59) C dX9_scans_261 (by decide) ?_
              obtain ⟨u12, e13, hf⟩ := cx_bd_at hf
              refine cx_Fvi (q := (RX9, TX9, 24)) (As := [.int 59, .int 59]) (rest := [.ref (m_a 0)]) (w1 := (wd_Model k m_a m_limbs m_wide m_book m_images m_kept m_before m_refused m_quiet m_text m_typed h_1 h_1 m_token m_value m_items m_many m_is m_likes m_without m_onePicture m_oneYear m_first m_second m_names)) hA C me_X9_isAt hw_1248 (c_X9_isAt l D k m_a m_limbs m_wide m_book m_images m_kept m_before m_refused m_quiet m_text m_typed h_1 h_1 m_token m_value m_items m_many m_is m_likes m_without m_onePicture m_oneYear m_first m_second m_names 59 59 u12 e13) dX9_scans_263 ⟨Nat.le_of_ble_eq_true rfl, Nat.le_of_ble_eq_true rfl⟩ ⟨Nat.zero_le _, Nat.zero_le _⟩ rfl rfl (Nat.le_of_ble_eq_true rfl) rfl rfl rfl ?_
              clear e13
              refine cx_if_eq (tgt := 273) C dX9_scans_266 (by decide) (fun c14 => ?_) (fun c14 => ?_)
              · have hf := cx_if_t hf c14
                clear c14
                refine cx_iconst (v := 1) C dX9_scans_273 (by decide) ?_
                exact J274 h_1 h_1 1 hf
              · have hf := cx_if_f hf c14
                clear c14
                refine cx_iconst (v := 3) C dX9_scans_269 (by decide) ?_
                refine cx_goto (tgt := 274) C dX9_scans_270 (by decide) ?_
                exact J274 h_1 h_1 3 hf
            · have hf := cx_if_f hf c11
              clear c11
              refine cx_aload_n C dX9_scans_161 0 rfl ?_
              refine cx_iconst (v := 0) C dX9_scans_162 (by decide) ?_
              refine cx_putf (v := .int 0) (ty := .int) (ci := 8) (ws' := (wd_Model k m_a m_limbs m_wide m_book m_images m_kept m_before m_refused m_quiet m_text m_typed h_1 h_1 m_token 0 m_items m_many m_is m_likes m_without m_onePicture m_oneYear m_first m_second m_names)) C iX9 tyX9 tyX9_ok nmX9 dX9_scans_163 0 rfl rfl 13 (by decide) hw_1067 rfl (by decide +kernel) rfl rfl (Nat.le_of_ble_eq_true rfl) rfl ?_
              exact L166 h_1 cx_N0 h_1 0 hf
          · have hf := cx_if_f hf c8
            clear c8
            refine cx_lconst (v := 0) C dX9_scans_60 (by decide) ?_
            refine cx_lstore_n (lv' := [(1, .long 0), (0, .ref (m_a 0))]) C dX9_scans_61 rfl (by decide) rfl ?_
            refine cx_lv [1, 0] rfl ?_
            exact L62 h_1 cx_N0 h_1 0 hf
        · have hf := cx_if_t hf c5
          clear c5
          refine cx_aload_n C dX9_scans_43 0 rfl ?_
          refine cx_iconst (v := 0) C dX9_scans_44 (by decide) ?_
          refine cx_putf (v := .int 0) (ty := .int) (ci := 8) (ws' := (wd_Model k m_a m_limbs m_wide m_book m_images m_kept m_before m_refused m_quiet m_text m_typed h_1 h_1 0 m_value m_items m_many m_is m_likes m_without m_onePicture m_oneYear m_first m_second m_names)) C iX9 tyX9 tyX9_ok nmX9 dX9_scans_45 0 rfl rfl 12 (by decide) hw_1066 rfl (by decide +kernel) rfl rfl (Nat.le_of_ble_eq_true rfl) rfl ?_
          obtain rfl := Option.some.inj hf
          exact cx_vret C hA hQ hr hlk dX9_scans_48 rfl
      · have hf := cx_if_f hf c4
        clear c4
        refine cx_aload_n C dX9_scans_11 0 rfl ?_
        refine cx_dup C dX9_scans_12 rfl ?_
        refine cx_get (v := .int h_1) (ci := 8) C iX9 dX9_scans_13 0 rfl rfl 10 (by decide) hw_1064 rfl ?_
        refine cx_iconst (v := 1) C dX9_scans_16 (by decide) ?_
        refine cx_iadd C dX9_scans_17 ?_
        refine cx_putf (v := .int (h_1 + 1)) (ty := .int) (ci := 8) (ws' := (wd_Model k m_a m_limbs m_wide m_book m_images m_kept m_before m_refused m_quiet m_text m_typed (h_1 + 1) m_start m_token m_value m_items m_many m_is m_likes m_without m_onePicture m_oneYear m_first m_second m_names)) C iX9 tyX9 tyX9_ok nmX9 dX9_scans_18 0 rfl rfl 10 (by decide) hw_1064 rfl (by decide +kernel) rfl rfl (Nat.le_of_ble_eq_true rfl) rfl ?_
        refine cx_goto (tgt := 0) C dX9_scans_21 (by decide) ?_
        exact ih0 (h_1 + 1) hf
  unfold f_X9_scans at hf
  exact L0 cx_N0 m_at hf
theorem dX9_numbers_0 : decode cX9_numbers 0 = .ok (.iload_n 0, 1) := by decide +kernel
theorem dX9_numbers_1 : decode cX9_numbers 1 = .ok (.ifCond .eq 8, 3) := by decide +kernel
theorem dX9_numbers_4 : decode cX9_numbers 4 = .ok (.iload_n 0, 1) := by decide +kernel
theorem dX9_numbers_5 : decode cX9_numbers 5 = .ok (.iconst 5, 1) := by decide +kernel
theorem dX9_numbers_6 : decode cX9_numbers 6 = .ok (.if_icmp .ne 7, 3) := by decide +kernel
theorem dX9_numbers_9 : decode cX9_numbers 9 = .ok (.iconst 4, 1) := by decide +kernel
theorem dX9_numbers_10 : decode cX9_numbers 10 = .ok (.goto 33, 3) := by decide +kernel
theorem dX9_numbers_13 : decode cX9_numbers 13 = .ok (.iload_n 0, 1) := by decide +kernel
theorem dX9_numbers_14 : decode cX9_numbers 14 = .ok (.iconst 4, 1) := by decide +kernel
theorem dX9_numbers_15 : decode cX9_numbers 15 = .ok (.if_icmp .ne 7, 3) := by decide +kernel
theorem dX9_numbers_18 : decode cX9_numbers 18 = .ok (.iconst 5, 1) := by decide +kernel
theorem dX9_numbers_19 : decode cX9_numbers 19 = .ok (.goto 24, 3) := by decide +kernel
theorem dX9_numbers_22 : decode cX9_numbers 22 = .ok (.iload_n 0, 1) := by decide +kernel
theorem dX9_numbers_23 : decode cX9_numbers 23 = .ok (.bipush 6, 2) := by decide +kernel
theorem dX9_numbers_25 : decode cX9_numbers 25 = .ok (.if_icmp .ne 7, 3) := by decide +kernel
theorem dX9_numbers_28 : decode cX9_numbers 28 = .ok (.iconst 3, 1) := by decide +kernel
theorem dX9_numbers_29 : decode cX9_numbers 29 = .ok (.goto 14, 3) := by decide +kernel
theorem dX9_numbers_32 : decode cX9_numbers 32 = .ok (.iload_n 0, 1) := by decide +kernel
theorem dX9_numbers_33 : decode cX9_numbers 33 = .ok (.bipush 7, 2) := by decide +kernel
theorem dX9_numbers_35 : decode cX9_numbers 35 = .ok (.if_icmp .ne 7, 3) := by decide +kernel
theorem dX9_numbers_38 : decode cX9_numbers 38 = .ok (.iconst 1, 1) := by decide +kernel
theorem dX9_numbers_39 : decode cX9_numbers 39 = .ok (.goto 4, 3) := by decide +kernel
theorem dX9_numbers_42 : decode cX9_numbers 42 = .ok (.iconst 2, 1) := by decide +kernel
theorem dX9_numbers_43 : decode cX9_numbers 43 = .ok (.ireturn, 1) := by decide +kernel
theorem me_X9_numbers : cx_Ms yX9_numbers cX9_numbers 1 (some .int) 1 := ⟨⟨⟨by decide +kernel, by decide +kernel, by decide +kernel⟩, hw_11, hw_1267⟩, hw_1266⟩
noncomputable def f_X9_numbers_J9  : Option Int32 := some 4
noncomputable def f_X9_numbers (p0 : Int32) : Option Int32 := if p0 = 0 then (f_X9_numbers_J9) else (if p0 = 5 then (f_X9_numbers_J9) else (if p0 = 4 then (some 5) else (if p0 = 6 then (some 3) else (if p0 = 7 then (some 1) else (some 2)))))
set_option maxHeartbeats 4000000 in
set_option maxRecDepth 100000 in
theorem c_X9_numbers (l : Launch) (D : va_G) (k : Nat → ClassId) (p0 : Int32) (y : Int32) (hf : f_X9_numbers p0 = some y) : cx_M l yX9_numbers cX9_numbers 1 (some .int) 1 D k [.int p0] ([] : va_W) (fun sz => cx_Qi D y ([] : va_W) ([] : va_W) sz) := by
  refine cx_met (own := "NamelessBoxModel") (by decide) rfl (Nat.le_of_ble_eq_true rfl) ?_
  intro p e s m args below meth c A Q C hA hQ hr hlk
  refine cx_lv (lv' := [(0, .int p0)]) [0] rfl ?_
  have J9 : f_X9_numbers_J9 = some y → cx_S p l e (cx_rm 1) s m args below meth c A D 1 0 0 Q 9 [] [] ([] : va_W) := by
    intro  hf
    unfold f_X9_numbers_J9 at hf
    refine cx_iconst (v := 4) C dX9_numbers_9 (by decide) ?_
    refine cx_goto (tgt := 43) C dX9_numbers_10 (by decide) ?_
    obtain rfl := Option.some.inj hf
    exact cx_iret C hA hQ hr hlk dX9_numbers_43 rfl rfl
  unfold f_X9_numbers at hf
  refine cx_iload_n C dX9_numbers_0 0 rfl ?_
  refine cx_if_eq (tgt := 9) C dX9_numbers_1 (by decide) (fun c1 => ?_) (fun c1 => ?_)
  · have hf := cx_if_t hf c1
    clear c1
    refine cx_lv [] rfl ?_
    exact J9 hf
  · have hf := cx_if_f hf c1
    clear c1
    refine cx_iload_n C dX9_numbers_4 0 rfl ?_
    refine cx_iconst (v := 5) C dX9_numbers_5 (by decide) ?_
    refine cx_icmp_ne (tgt := 13) C dX9_numbers_6 (by decide) (fun c2 => ?_) (fun c2 => ?_)
    · have hf := cx_if_f hf c2
      clear c2
      refine cx_iload_n C dX9_numbers_13 0 rfl ?_
      refine cx_iconst (v := 4) C dX9_numbers_14 (by decide) ?_
      refine cx_icmp_ne (tgt := 22) C dX9_numbers_15 (by decide) (fun c3 => ?_) (fun c3 => ?_)
      · have hf := cx_if_f hf c3
        clear c3
        refine cx_iload_n C dX9_numbers_22 0 rfl ?_
        refine cx_bipush (v := 6) C dX9_numbers_23 (by decide) ?_
        refine cx_icmp_ne (tgt := 32) C dX9_numbers_25 (by decide) (fun c4 => ?_) (fun c4 => ?_)
        · have hf := cx_if_f hf c4
          clear c4
          refine cx_iload_n C dX9_numbers_32 0 rfl ?_
          refine cx_bipush (v := 7) C dX9_numbers_33 (by decide) ?_
          refine cx_icmp_ne (tgt := 42) C dX9_numbers_35 (by decide) (fun c5 => ?_) (fun c5 => ?_)
          · have hf := cx_if_f hf c5
            clear c5
            refine cx_iconst (v := 2) C dX9_numbers_42 (by decide) ?_
            obtain rfl := Option.some.inj hf
            exact cx_iret C hA hQ hr hlk dX9_numbers_43 rfl rfl
          · have hf := cx_if_t hf c5
            clear c5
            refine cx_iconst (v := 1) C dX9_numbers_38 (by decide) ?_
            refine cx_goto (tgt := 43) C dX9_numbers_39 (by decide) ?_
            obtain rfl := Option.some.inj hf
            exact cx_iret C hA hQ hr hlk dX9_numbers_43 rfl rfl
        · have hf := cx_if_t hf c4
          clear c4
          refine cx_iconst (v := 3) C dX9_numbers_28 (by decide) ?_
          refine cx_goto (tgt := 43) C dX9_numbers_29 (by decide) ?_
          obtain rfl := Option.some.inj hf
          exact cx_iret C hA hQ hr hlk dX9_numbers_43 rfl rfl
      · have hf := cx_if_t hf c3
        clear c3
        refine cx_iconst (v := 5) C dX9_numbers_18 (by decide) ?_
        refine cx_goto (tgt := 43) C dX9_numbers_19 (by decide) ?_
        obtain rfl := Option.some.inj hf
        exact cx_iret C hA hQ hr hlk dX9_numbers_43 rfl rfl
    · have hf := cx_if_t hf c2
      clear c2
      refine cx_lv [] rfl ?_
      exact J9 hf
theorem dX9_reads_0 : decode cX9_reads 0 = .ok (.aload_n 0, 1) := by decide +kernel
theorem dX9_reads_1 : decode cX9_reads 1 = .ok (.iconst 0, 1) := by decide +kernel
theorem dX9_reads_2 : decode cX9_reads 2 = .ok (.putfield 150, 3) := by decide +kernel
theorem dX9_reads_5 : decode cX9_reads 5 = .ok (.aload_n 0, 1) := by decide +kernel
theorem dX9_reads_6 : decode cX9_reads 6 = .ok (.iconst 0, 1) := by decide +kernel
theorem dX9_reads_7 : decode cX9_reads 7 = .ok (.putfield 190, 3) := by decide +kernel
theorem dX9_reads_10 : decode cX9_reads 10 = .ok (.aload_n 0, 1) := by decide +kernel
theorem dX9_reads_11 : decode cX9_reads 11 = .ok (.invokevirtual 193, 3) := by decide +kernel
theorem dX9_reads_14 : decode cX9_reads 14 = .ok (.aload_n 0, 1) := by decide +kernel
theorem dX9_reads_15 : decode cX9_reads 15 = .ok (.getfield 176, 3) := by decide +kernel
theorem dX9_reads_18 : decode cX9_reads 18 = .ok (.ifCond .eq 110, 3) := by decide +kernel
theorem dX9_reads_21 : decode cX9_reads 21 = .ok (.aload_n 0, 1) := by decide +kernel
theorem dX9_reads_22 : decode cX9_reads 22 = .ok (.getfield 176, 3) := by decide +kernel
theorem dX9_reads_25 : decode cX9_reads 25 = .ok (.iconst 4, 1) := by decide +kernel
theorem dX9_reads_26 : decode cX9_reads 26 = .ok (.isub, 1) := by decide +kernel
theorem dX9_reads_27 : decode cX9_reads 27 = .ok (.istore_n 1, 1) := by decide +kernel
theorem dX9_reads_28 : decode cX9_reads 28 = .ok (.iload_n 1, 1) := by decide +kernel
theorem dX9_reads_29 : decode cX9_reads 29 = .ok (.ifCond .ge 5, 3) := by decide +kernel
theorem dX9_reads_32 : decode cX9_reads 32 = .ok (.iconst 0, 1) := by decide +kernel
theorem dX9_reads_33 : decode cX9_reads 33 = .ok (.ireturn, 1) := by decide +kernel
theorem dX9_reads_34 : decode cX9_reads 34 = .ok (.aload_n 0, 1) := by decide +kernel
theorem dX9_reads_35 : decode cX9_reads 35 = .ok (.getfield 70, 3) := by decide +kernel
theorem dX9_reads_38 : decode cX9_reads 38 = .ok (.bipush 6, 2) := by decide +kernel
theorem dX9_reads_40 : decode cX9_reads 40 = .ok (.aload_n 0, 1) := by decide +kernel
theorem dX9_reads_41 : decode cX9_reads 41 = .ok (.getfield 190, 3) := by decide +kernel
theorem dX9_reads_44 : decode cX9_reads 44 = .ok (.imul, 1) := by decide +kernel
theorem dX9_reads_45 : decode cX9_reads 45 = .ok (.iload_n 1, 1) := by decide +kernel
theorem dX9_reads_46 : decode cX9_reads 46 = .ok (.iastore, 1) := by decide +kernel
theorem dX9_reads_47 : decode cX9_reads 47 = .ok (.aload_n 0, 1) := by decide +kernel
theorem dX9_reads_48 : decode cX9_reads 48 = .ok (.invokevirtual 193, 3) := by decide +kernel
theorem dX9_reads_51 : decode cX9_reads 51 = .ok (.iconst 0, 1) := by decide +kernel
theorem dX9_reads_52 : decode cX9_reads 52 = .ok (.istore_n 2, 1) := by decide +kernel
theorem dX9_reads_53 : decode cX9_reads 53 = .ok (.iload_n 2, 1) := by decide +kernel
theorem dX9_reads_54 : decode cX9_reads 54 = .ok (.iload_n 1, 1) := by decide +kernel
theorem dX9_reads_55 : decode cX9_reads 55 = .ok (.invokestatic 196, 3) := by decide +kernel
theorem dX9_reads_58 : decode cX9_reads 58 = .ok (.if_icmp .ge 43, 3) := by decide +kernel
theorem dX9_reads_61 : decode cX9_reads 61 = .ok (.aload_n 0, 1) := by decide +kernel
theorem dX9_reads_62 : decode cX9_reads 62 = .ok (.getfield 176, 3) := by decide +kernel
theorem dX9_reads_65 : decode cX9_reads 65 = .ok (.iconst 2, 1) := by decide +kernel
theorem dX9_reads_66 : decode cX9_reads 66 = .ok (.if_icmp .eq 5, 3) := by decide +kernel
theorem dX9_reads_69 : decode cX9_reads 69 = .ok (.iconst 0, 1) := by decide +kernel
theorem dX9_reads_70 : decode cX9_reads 70 = .ok (.ireturn, 1) := by decide +kernel
theorem dX9_reads_71 : decode cX9_reads 71 = .ok (.aload_n 0, 1) := by decide +kernel
theorem dX9_reads_72 : decode cX9_reads 72 = .ok (.getfield 70, 3) := by decide +kernel
theorem dX9_reads_75 : decode cX9_reads 75 = .ok (.bipush 6, 2) := by decide +kernel
theorem dX9_reads_77 : decode cX9_reads 77 = .ok (.aload_n 0, 1) := by decide +kernel
theorem dX9_reads_78 : decode cX9_reads 78 = .ok (.getfield 190, 3) := by decide +kernel
theorem dX9_reads_81 : decode cX9_reads 81 = .ok (.imul, 1) := by decide +kernel
theorem dX9_reads_82 : decode cX9_reads 82 = .ok (.iconst 1, 1) := by decide +kernel
theorem dX9_reads_83 : decode cX9_reads 83 = .ok (.iadd, 1) := by decide +kernel
theorem dX9_reads_84 : decode cX9_reads 84 = .ok (.iload_n 2, 1) := by decide +kernel
theorem dX9_reads_85 : decode cX9_reads 85 = .ok (.iadd, 1) := by decide +kernel
theorem dX9_reads_86 : decode cX9_reads 86 = .ok (.aload_n 0, 1) := by decide +kernel
theorem dX9_reads_87 : decode cX9_reads 87 = .ok (.getfield 187, 3) := by decide +kernel
theorem dX9_reads_90 : decode cX9_reads 90 = .ok (.iastore, 1) := by decide +kernel
theorem dX9_reads_91 : decode cX9_reads 91 = .ok (.aload_n 0, 1) := by decide +kernel
theorem dX9_reads_92 : decode cX9_reads 92 = .ok (.invokevirtual 193, 3) := by decide +kernel
theorem dX9_reads_95 : decode cX9_reads 95 = .ok (.iinc 2 1, 3) := by decide +kernel
theorem dX9_reads_98 : decode cX9_reads 98 = .ok (.goto (-45), 3) := by decide +kernel
theorem dX9_reads_101 : decode cX9_reads 101 = .ok (.aload_n 0, 1) := by decide +kernel
theorem dX9_reads_102 : decode cX9_reads 102 = .ok (.getfield 176, 3) := by decide +kernel
theorem dX9_reads_105 : decode cX9_reads 105 = .ok (.iconst 3, 1) := by decide +kernel
theorem dX9_reads_106 : decode cX9_reads 106 = .ok (.if_icmp .eq 5, 3) := by decide +kernel
theorem dX9_reads_109 : decode cX9_reads 109 = .ok (.iconst 0, 1) := by decide +kernel
theorem dX9_reads_110 : decode cX9_reads 110 = .ok (.ireturn, 1) := by decide +kernel
theorem dX9_reads_111 : decode cX9_reads 111 = .ok (.aload_n 0, 1) := by decide +kernel
theorem dX9_reads_112 : decode cX9_reads 112 = .ok (.dup, 1) := by decide +kernel
theorem dX9_reads_113 : decode cX9_reads 113 = .ok (.getfield 190, 3) := by decide +kernel
theorem dX9_reads_116 : decode cX9_reads 116 = .ok (.iconst 1, 1) := by decide +kernel
theorem dX9_reads_117 : decode cX9_reads 117 = .ok (.iadd, 1) := by decide +kernel
theorem dX9_reads_118 : decode cX9_reads 118 = .ok (.putfield 190, 3) := by decide +kernel
theorem dX9_reads_121 : decode cX9_reads 121 = .ok (.aload_n 0, 1) := by decide +kernel
theorem dX9_reads_122 : decode cX9_reads 122 = .ok (.invokevirtual 193, 3) := by decide +kernel
theorem dX9_reads_125 : decode cX9_reads 125 = .ok (.goto (-111), 3) := by decide +kernel
theorem dX9_reads_128 : decode cX9_reads 128 = .ok (.iconst 1, 1) := by decide +kernel
theorem dX9_reads_129 : decode cX9_reads 129 = .ok (.ireturn, 1) := by decide +kernel
theorem me_X9_reads : cx_Mv yX9_reads cX9_reads 3 (some .boolean) 0 := ⟨⟨⟨by decide +kernel, by decide +kernel, by decide +kernel⟩, hw_11, hw_1243⟩, hw_1242, hs_50⟩
noncomputable def f_X9_reads_L53 (m_text : Nat → Int32) (m_typed : Int32) (h_7 : Int32) (rc14 : Int32 → Int32 → Int32 → Int32 → Int32 → (Nat → Int32) → Option (Int32 × Int32 × Int32 × Int32 × Int32 × Int32 × (Nat → Int32))) (x1_20 : Int32) (rc53 : Int32 → Int32 → Int32 → Int32 → (Nat → Int32) → Int32 → Option (Int32 × Int32 × Int32 × Int32 × Int32 × Int32 × (Nat → Int32))) (h_15 : Int32) (h_16 : Int32) (h_17 : Int32) (h_18 : Int32) (a_19 : Nat → Int32) (x2_21 : Int32) : Option (Int32 × Int32 × Int32 × Int32 × Int32 × Int32 × (Nat → Int32)) := Option.bind (f_X9_numbers x1_20) (fun u22 => if u22 ≤ x2_21 then (if h_17 = 3 then (Option.bind (f_X9_scans m_text m_typed h_15 h_18) (fun u26 => rc14 u26.1 u26.2.1 u26.2.2.1 u26.2.2.2 (h_7 + 1) a_19)) else (some ((0, h_15, h_16, h_17, h_18, h_7, a_19)))) else (if h_17 = 2 then (cx_gd (cx_ib (((6 * h_7) + 1) + x2_21) 900) (cx_let (upd a_19 (cx_ix (((6 * h_7) + 1) + x2_21)) h_18) (fun a30 => Option.bind (f_X9_scans m_text m_typed h_15 h_18) (fun u31 => rc53 u31.1 u31.2.1 u31.2.2.1 u31.2.2.2 a30 (x2_21 + 1))))) else (some ((0, h_15, h_16, h_17, h_18, h_7, a_19)))))
noncomputable def f_X9_reads_L53w (m_text : Nat → Int32) (m_typed : Int32) (h_7 : Int32) (rc14 : Int32 → Int32 → Int32 → Int32 → Int32 → (Nat → Int32) → Option (Int32 × Int32 × Int32 × Int32 × Int32 × Int32 × (Nat → Int32))) (x1_20 : Int32) (n : Nat) : Int32 → Int32 → Int32 → Int32 → (Nat → Int32) → Int32 → Option (Int32 × Int32 × Int32 × Int32 × Int32 × Int32 × (Nat → Int32)) := Nat.rec (fun _ _ _ _ _ _ => none) (fun _ r => f_X9_reads_L53 m_text m_typed h_7 rc14 x1_20 r) n
noncomputable def f_X9_reads_L14 (m_text : Nat → Int32) (m_typed : Int32) (rc14 : Int32 → Int32 → Int32 → Int32 → Int32 → (Nat → Int32) → Option (Int32 × Int32 × Int32 × Int32 × Int32 × Int32 × (Nat → Int32))) (h_3 : Int32) (h_4 : Int32) (h_5 : Int32) (h_6 : Int32) (h_7 : Int32) (a_8 : Nat → Int32) : Option (Int32 × Int32 × Int32 × Int32 × Int32 × Int32 × (Nat → Int32)) := if h_5 = 0 then (some ((1, h_3, h_4, h_5, h_6, h_7, a_8))) else (if 0 ≤ (h_5 - 4) then (cx_gd (cx_ib (6 * h_7) 900) (cx_let (upd a_8 (cx_ix (6 * h_7)) (h_5 - 4)) (fun a12 => Option.bind (f_X9_scans m_text m_typed h_3 h_6) (fun u13 => f_X9_reads_L53w m_text m_typed h_7 rc14 (h_5 - 4) cx_N0 u13.1 u13.2.1 u13.2.2.1 u13.2.2.2 a12 0)))) else (some ((0, h_3, h_4, h_5, h_6, h_7, a_8))))
noncomputable def f_X9_reads_L14w (m_text : Nat → Int32) (m_typed : Int32) (n : Nat) : Int32 → Int32 → Int32 → Int32 → Int32 → (Nat → Int32) → Option (Int32 × Int32 × Int32 × Int32 × Int32 × Int32 × (Nat → Int32)) := Nat.rec (fun _ _ _ _ _ _ => none) (fun _ r => f_X9_reads_L14 m_text m_typed r) n
noncomputable def f_X9_reads (m_text : Nat → Int32) (m_typed : Int32) (m_value : Int32) (m_items : Nat → Int32) : Option (Int32 × Int32 × Int32 × Int32 × Int32 × Int32 × (Nat → Int32)) := Option.bind (f_X9_scans m_text m_typed 0 m_value) (fun u1 => f_X9_reads_L14w m_text m_typed cx_N0 u1.1 u1.2.1 u1.2.2.1 u1.2.2.2 0 m_items)
set_option maxHeartbeats 4000000 in
set_option maxRecDepth 100000 in
theorem c_X9_reads (l : Launch) (D : va_G) (k : Nat → ClassId) (m_a : Nat → Nat) (m_limbs : Nat → Int32) (m_wide : Nat → Int32) (m_book : Nat → Int32) (m_images : Nat → Int32) (m_kept : Nat → Int32) (m_before : Nat → Int32) (m_refused : Nat → Int32) (m_quiet : Int32) (m_text : Nat → Int32) (m_typed : Int32) (m_at : Int32) (m_start : Int32) (m_token : Int32) (m_value : Int32) (m_items : Nat → Int32) (m_many : Int32) (m_is : Nat → Int32) (m_likes : Nat → Int32) (m_without : Int32) (m_onePicture : Int32) (m_oneYear : Int32) (m_first : Int32) (m_second : Int32) (m_names : Nat → Int32) (y : Int32 × Int32 × Int32 × Int32 × Int32 × Int32 × (Nat → Int32)) (hf : f_X9_reads m_text m_typed m_value m_items = some y) : cx_M l yX9_reads cX9_reads 3 (some .boolean) 4 D k [.ref (m_a 0)] (wd_Model k m_a m_limbs m_wide m_book m_images m_kept m_before m_refused m_quiet m_text m_typed m_at m_start m_token m_value m_items m_many m_is m_likes m_without m_onePicture m_oneYear m_first m_second m_names) (fun sz => cx_Qi D y.1 (wd_Model k m_a m_limbs m_wide m_book m_images m_kept m_before m_refused m_quiet m_text m_typed m_at m_start m_token m_value m_items m_many m_is m_likes m_without m_onePicture m_oneYear m_first m_second m_names) (wd_Model k m_a m_limbs m_wide m_book m_images m_kept m_before m_refused m_quiet m_text m_typed y.2.1 y.2.2.1 y.2.2.2.1 y.2.2.2.2.1 y.2.2.2.2.2.2 y.2.2.2.2.2.1 m_is m_likes m_without m_onePicture m_oneYear m_first m_second m_names) sz) := by
  refine cx_met (own := "NamelessBoxModel") (by decide) rfl (Nat.le_of_ble_eq_true rfl) ?_
  intro p e s m args below meth c A Q C hA hQ hr hlk
  refine cx_lv (lv' := [(0, .ref (m_a 0))]) [0] rfl ?_
  have L14 : ∀ (n14 : Nat) (h_3 : Int32) (h_4 : Int32) (h_5 : Int32) (h_6 : Int32) (h_7 : Int32) (a_8 : Nat → Int32), f_X9_reads_L14w m_text m_typed n14 h_3 h_4 h_5 h_6 h_7 a_8 = some y → cx_S p l e (cx_rm 4) s m args below meth c A D 3 0 0 Q 14 [(0, .ref (m_a 0))] [] (wd_Model k m_a m_limbs m_wide m_book m_images m_kept m_before m_refused m_quiet m_text m_typed h_3 h_4 h_5 h_6 a_8 h_7 m_is m_likes m_without m_onePicture m_oneYear m_first m_second m_names) := by
    intro  n14
    induction n14 with
    | zero =>
      intro h_3 h_4 h_5 h_6 h_7 a_8 hf
      exact absurd (show (none : Option (Int32 × Int32 × Int32 × Int32 × Int32 × Int32 × (Nat → Int32))) = some y from hf) (fun h => by cases h)
    | succ n14 ih14 =>
      intro h_3 h_4 h_5 h_6 h_7 a_8 hf
      have hf : f_X9_reads_L14 m_text m_typed (f_X9_reads_L14w m_text m_typed n14) h_3 h_4 h_5 h_6 h_7 a_8 = some y := hf
      have L53 : ∀ (x1_20 : Int32) (n53 : Nat) (h_15 : Int32) (h_16 : Int32) (h_17 : Int32) (h_18 : Int32) (a_19 : Nat → Int32) (x2_21 : Int32), f_X9_reads_L53w m_text m_typed h_7 (f_X9_reads_L14w m_text m_typed n14) x1_20 n53 h_15 h_16 h_17 h_18 a_19 x2_21 = some y → cx_S p l e (cx_rm 4) s m args below meth c A D 3 0 0 Q 53 [(0, .ref (m_a 0)), (1, .int x1_20), (2, .int x2_21)] [] (wd_Model k m_a m_limbs m_wide m_book m_images m_kept m_before m_refused m_quiet m_text m_typed h_15 h_16 h_17 h_18 a_19 h_7 m_is m_likes m_without m_onePicture m_oneYear m_first m_second m_names) := by
        intro x1_20 n53
        induction n53 with
        | zero =>
          intro h_15 h_16 h_17 h_18 a_19 x2_21 hf
          exact absurd (show (none : Option (Int32 × Int32 × Int32 × Int32 × Int32 × Int32 × (Nat → Int32))) = some y from hf) (fun h => by cases h)
        | succ n53 ih53 =>
          intro h_15 h_16 h_17 h_18 a_19 x2_21 hf
          have hf : f_X9_reads_L53 m_text m_typed h_7 (f_X9_reads_L14w m_text m_typed n14) x1_20 (f_X9_reads_L53w m_text m_typed h_7 (f_X9_reads_L14w m_text m_typed n14) x1_20 n53) h_15 h_16 h_17 h_18 a_19 x2_21 = some y := hf
          unfold f_X9_reads_L53 at hf
          refine cx_iload_n C dX9_reads_53 2 rfl ?_
          refine cx_iload_n C dX9_reads_54 1 rfl ?_
          obtain ⟨u22, e23, hf⟩ := cx_bd_at hf
          refine cx_Ksi (As := [.int x1_20]) (rest := [.int x2_21]) hA C me_X9_numbers hw_1265 (c_X9_numbers l D k x1_20 u22 e23) dX9_reads_55 ⟨Nat.le_of_ble_eq_true rfl, Nat.le_of_ble_eq_true rfl⟩ ⟨Nat.zero_le _, Nat.zero_le _⟩ rfl rfl (Nat.le_of_ble_eq_true rfl) [] rfl (by decide) ?_
          clear e23
          refine cx_icmp_ge (tgt := 101) C dX9_reads_58 (by decide) (fun c24 => ?_) (fun c24 => ?_)
          · have hf := cx_if_t hf c24
            clear c24
            refine cx_aload_n C dX9_reads_101 0 rfl ?_
            refine cx_get (v := .int h_17) (ci := 8) C iX9 dX9_reads_102 0 rfl rfl 12 (by decide) hw_1066 rfl ?_
            refine cx_iconst (v := 3) C dX9_reads_105 (by decide) ?_
            refine cx_icmp_eq (tgt := 111) C dX9_reads_106 (by decide) (fun c25 => ?_) (fun c25 => ?_)
            · have hf := cx_if_t hf c25
              clear c25
              refine cx_aload_n C dX9_reads_111 0 rfl ?_
              refine cx_dup C dX9_reads_112 rfl ?_
              refine cx_get (v := .int h_7) (ci := 8) C iX9 dX9_reads_113 0 rfl rfl 15 (by decide) hw_1069 rfl ?_
              refine cx_iconst (v := 1) C dX9_reads_116 (by decide) ?_
              refine cx_iadd C dX9_reads_117 ?_
              refine cx_putf (v := .int (h_7 + 1)) (ty := .int) (ci := 8) (ws' := (wd_Model k m_a m_limbs m_wide m_book m_images m_kept m_before m_refused m_quiet m_text m_typed h_15 h_16 h_17 h_18 a_19 (h_7 + 1) m_is m_likes m_without m_onePicture m_oneYear m_first m_second m_names)) C iX9 tyX9 tyX9_ok nmX9 dX9_reads_118 0 rfl rfl 15 (by decide) hw_1069 rfl (by decide +kernel) rfl rfl (Nat.le_of_ble_eq_true rfl) rfl ?_
              refine cx_aload_n C dX9_reads_121 0 rfl ?_
              obtain ⟨u26, e27, hf⟩ := cx_bd_at hf
              refine cx_Fvv (q := (RX9, TX9, 24)) (As := []) (rest := []) (w1 := (wd_Model k m_a m_limbs m_wide m_book m_images m_kept m_before m_refused m_quiet m_text m_typed u26.1 u26.2.1 u26.2.2.1 u26.2.2.2 a_19 (h_7 + 1) m_is m_likes m_without m_onePicture m_oneYear m_first m_second m_names)) hA C me_X9_scans hw_1244 (c_X9_scans l D k m_a m_limbs m_wide m_book m_images m_kept m_before m_refused m_quiet m_text m_typed h_15 h_16 h_17 h_18 a_19 (h_7 + 1) m_is m_likes m_without m_onePicture m_oneYear m_first m_second m_names u26 e27) dX9_reads_122 ⟨Nat.le_of_ble_eq_true rfl, Nat.le_of_ble_eq_true rfl⟩ ⟨Nat.zero_le _, Nat.zero_le _⟩ rfl rfl (Nat.le_of_ble_eq_true rfl) rfl rfl rfl ?_
              clear e27
              refine cx_goto (tgt := 14) C dX9_reads_125 (by decide) ?_
              refine cx_lv [0] rfl ?_
              exact ih14 u26.1 u26.2.1 u26.2.2.1 u26.2.2.2 (h_7 + 1) a_19 hf
            · have hf := cx_if_f hf c25
              clear c25
              refine cx_iconst (v := 0) C dX9_reads_109 (by decide) ?_
              obtain rfl := Option.some.inj hf
              exact cx_zret C hA hQ hr hlk dX9_reads_110 rfl rfl rfl
          · have hf := cx_if_f hf c24
            clear c24
            refine cx_aload_n C dX9_reads_61 0 rfl ?_
            refine cx_get (v := .int h_17) (ci := 8) C iX9 dX9_reads_62 0 rfl rfl 12 (by decide) hw_1066 rfl ?_
            refine cx_iconst (v := 2) C dX9_reads_65 (by decide) ?_
            refine cx_icmp_eq (tgt := 71) C dX9_reads_66 (by decide) (fun c28 => ?_) (fun c28 => ?_)
            · have hf := cx_if_t hf c28
              clear c28
              refine cx_aload_n C dX9_reads_71 0 rfl ?_
              refine cx_get (v := .ref (m_a 9)) (ci := 8) C iX9 dX9_reads_72 0 rfl rfl 14 (by decide) hw_1068 rfl ?_
              refine cx_bipush (v := 6) C dX9_reads_75 (by decide) ?_
              refine cx_aload_n C dX9_reads_77 0 rfl ?_
              refine cx_get (v := .int h_7) (ci := 8) C iX9 dX9_reads_78 0 rfl rfl 15 (by decide) hw_1069 rfl ?_
              refine cx_imul C dX9_reads_81 ?_
              refine cx_iconst (v := 1) C dX9_reads_82 (by decide) ?_
              refine cx_iadd C dX9_reads_83 ?_
              refine cx_iload_n C dX9_reads_84 2 rfl ?_
              refine cx_iadd C dX9_reads_85 ?_
              refine cx_aload_n C dX9_reads_86 0 rfl ?_
              refine cx_get (v := .int h_18) (ci := 8) C iX9 dX9_reads_87 0 rfl rfl 13 (by decide) hw_1067 rfl ?_
              obtain ⟨g29, hf⟩ := cx_gd_at hf
              obtain ⟨a30, ea30⟩ : ∃ z, z = upd a_19 (cx_ix (((6 * h_7) + 1) + x2_21)) h_18 := ⟨_, rfl⟩
              have hf := cx_let_at hf ea30
              refine cx_iast (ws' := (wd_Model k m_a m_limbs m_wide m_book m_images m_kept m_before m_refused m_quiet m_text m_typed h_15 h_16 h_17 h_18 a30 h_7 m_is m_likes m_without m_onePicture m_oneYear m_first m_second m_names)) C dX9_reads_90 9 rfl (cx_ib_in g29) (by rw [ea30]; rfl) ?_
              clear ea30 g29
              refine cx_aload_n C dX9_reads_91 0 rfl ?_
              obtain ⟨u31, e32, hf⟩ := cx_bd_at hf
              refine cx_Fvv (q := (RX9, TX9, 24)) (As := []) (rest := []) (w1 := (wd_Model k m_a m_limbs m_wide m_book m_images m_kept m_before m_refused m_quiet m_text m_typed u31.1 u31.2.1 u31.2.2.1 u31.2.2.2 a30 h_7 m_is m_likes m_without m_onePicture m_oneYear m_first m_second m_names)) hA C me_X9_scans hw_1244 (c_X9_scans l D k m_a m_limbs m_wide m_book m_images m_kept m_before m_refused m_quiet m_text m_typed h_15 h_16 h_17 h_18 a30 h_7 m_is m_likes m_without m_onePicture m_oneYear m_first m_second m_names u31 e32) dX9_reads_92 ⟨Nat.le_of_ble_eq_true rfl, Nat.le_of_ble_eq_true rfl⟩ ⟨Nat.zero_le _, Nat.zero_le _⟩ rfl rfl (Nat.le_of_ble_eq_true rfl) rfl rfl rfl ?_
              clear e32
              refine cx_iinc (v := x2_21 + 1) (lv' := [(2, .int (x2_21 + 1)), (0, .ref (m_a 0)), (1, .int x1_20)]) C dX9_reads_95 2 rfl rfl (by decide) rfl ?_
              refine cx_goto (tgt := 53) C dX9_reads_98 (by decide) ?_
              refine cx_lv [1, 2, 0] rfl ?_
              exact ih53 u31.1 u31.2.1 u31.2.2.1 u31.2.2.2 a30 (x2_21 + 1) hf
            · have hf := cx_if_f hf c28
              clear c28
              refine cx_iconst (v := 0) C dX9_reads_69 (by decide) ?_
              obtain rfl := Option.some.inj hf
              exact cx_zret C hA hQ hr hlk dX9_reads_70 rfl rfl rfl
      unfold f_X9_reads_L14 at hf
      refine cx_aload_n C dX9_reads_14 0 rfl ?_
      refine cx_get (v := .int h_5) (ci := 8) C iX9 dX9_reads_15 0 rfl rfl 12 (by decide) hw_1066 rfl ?_
      refine cx_if_eq (tgt := 128) C dX9_reads_18 (by decide) (fun c9 => ?_) (fun c9 => ?_)
      · have hf := cx_if_t hf c9
        clear c9
        refine cx_iconst (v := 1) C dX9_reads_128 (by decide) ?_
        obtain rfl := Option.some.inj hf
        exact cx_zret C hA hQ hr hlk dX9_reads_129 rfl rfl rfl
      · have hf := cx_if_f hf c9
        clear c9
        refine cx_aload_n C dX9_reads_21 0 rfl ?_
        refine cx_get (v := .int h_5) (ci := 8) C iX9 dX9_reads_22 0 rfl rfl 12 (by decide) hw_1066 rfl ?_
        refine cx_iconst (v := 4) C dX9_reads_25 (by decide) ?_
        refine cx_isub C dX9_reads_26 ?_
        refine cx_istore_n (lv' := [(1, .int (h_5 - 4)), (0, .ref (m_a 0))]) C dX9_reads_27 rfl (by decide) rfl ?_
        refine cx_iload_n C dX9_reads_28 0 rfl ?_
        refine cx_if_ge (tgt := 34) C dX9_reads_29 (by decide) (fun c10 => ?_) (fun c10 => ?_)
        · have hf := cx_if_t hf c10
          clear c10
          refine cx_aload_n C dX9_reads_34 1 rfl ?_
          refine cx_get (v := .ref (m_a 9)) (ci := 8) C iX9 dX9_reads_35 0 rfl rfl 14 (by decide) hw_1068 rfl ?_
          refine cx_bipush (v := 6) C dX9_reads_38 (by decide) ?_
          refine cx_aload_n C dX9_reads_40 1 rfl ?_
          refine cx_get (v := .int h_7) (ci := 8) C iX9 dX9_reads_41 0 rfl rfl 15 (by decide) hw_1069 rfl ?_
          refine cx_imul C dX9_reads_44 ?_
          refine cx_iload_n C dX9_reads_45 0 rfl ?_
          obtain ⟨g11, hf⟩ := cx_gd_at hf
          obtain ⟨a12, ea12⟩ : ∃ z, z = upd a_8 (cx_ix (6 * h_7)) (h_5 - 4) := ⟨_, rfl⟩
          have hf := cx_let_at hf ea12
          refine cx_iast (ws' := (wd_Model k m_a m_limbs m_wide m_book m_images m_kept m_before m_refused m_quiet m_text m_typed h_3 h_4 h_5 h_6 a12 h_7 m_is m_likes m_without m_onePicture m_oneYear m_first m_second m_names)) C dX9_reads_46 9 rfl (cx_ib_in g11) (by rw [ea12]; rfl) ?_
          clear ea12 g11
          refine cx_aload_n C dX9_reads_47 1 rfl ?_
          obtain ⟨u13, e14, hf⟩ := cx_bd_at hf
          refine cx_Fvv (q := (RX9, TX9, 24)) (As := []) (rest := []) (w1 := (wd_Model k m_a m_limbs m_wide m_book m_images m_kept m_before m_refused m_quiet m_text m_typed u13.1 u13.2.1 u13.2.2.1 u13.2.2.2 a12 h_7 m_is m_likes m_without m_onePicture m_oneYear m_first m_second m_names)) hA C me_X9_scans hw_1244 (c_X9_scans l D k m_a m_limbs m_wide m_book m_images m_kept m_before m_refused m_quiet m_text m_typed h_3 h_4 h_5 h_6 a12 h_7 m_is m_likes m_without m_onePicture m_oneYear m_first m_second m_names u13 e14) dX9_reads_48 ⟨Nat.le_of_ble_eq_true rfl, Nat.le_of_ble_eq_true rfl⟩ ⟨Nat.zero_le _, Nat.zero_le _⟩ rfl rfl (Nat.le_of_ble_eq_true rfl) rfl rfl rfl ?_
          clear e14
          refine cx_iconst (v := 0) C dX9_reads_51 (by decide) ?_
          refine cx_istore_n (lv' := [(2, .int 0), (1, .int (h_5 - 4)), (0, .ref (m_a 0))]) C dX9_reads_52 rfl (by decide) rfl ?_
          refine cx_lv [2, 1, 0] rfl ?_
          exact L53 (h_5 - 4) cx_N0 u13.1 u13.2.1 u13.2.2.1 u13.2.2.2 a12 0 hf
        · have hf := cx_if_f hf c10
          clear c10
          refine cx_iconst (v := 0) C dX9_reads_32 (by decide) ?_
          obtain rfl := Option.some.inj hf
          exact cx_zret C hA hQ hr hlk dX9_reads_33 rfl rfl rfl
  unfold f_X9_reads at hf
  refine cx_aload_n C dX9_reads_0 0 rfl ?_
  refine cx_iconst (v := 0) C dX9_reads_1 (by decide) ?_
  refine cx_putf (v := .int 0) (ty := .int) (ci := 8) (ws' := (wd_Model k m_a m_limbs m_wide m_book m_images m_kept m_before m_refused m_quiet m_text m_typed 0 m_start m_token m_value m_items m_many m_is m_likes m_without m_onePicture m_oneYear m_first m_second m_names)) C iX9 tyX9 tyX9_ok nmX9 dX9_reads_2 0 rfl rfl 10 (by decide) hw_1064 rfl (by decide +kernel) rfl rfl (Nat.le_of_ble_eq_true rfl) rfl ?_
  refine cx_aload_n C dX9_reads_5 0 rfl ?_
  refine cx_iconst (v := 0) C dX9_reads_6 (by decide) ?_
  refine cx_putf (v := .int 0) (ty := .int) (ci := 8) (ws' := (wd_Model k m_a m_limbs m_wide m_book m_images m_kept m_before m_refused m_quiet m_text m_typed 0 m_start m_token m_value m_items 0 m_is m_likes m_without m_onePicture m_oneYear m_first m_second m_names)) C iX9 tyX9 tyX9_ok nmX9 dX9_reads_7 0 rfl rfl 15 (by decide) hw_1069 rfl (by decide +kernel) rfl rfl (Nat.le_of_ble_eq_true rfl) rfl ?_
  refine cx_aload_n C dX9_reads_10 0 rfl ?_
  obtain ⟨u1, e2, hf⟩ := cx_bd_at hf
  refine cx_Fvv (q := (RX9, TX9, 24)) (As := []) (rest := []) (w1 := (wd_Model k m_a m_limbs m_wide m_book m_images m_kept m_before m_refused m_quiet m_text m_typed u1.1 u1.2.1 u1.2.2.1 u1.2.2.2 m_items 0 m_is m_likes m_without m_onePicture m_oneYear m_first m_second m_names)) hA C me_X9_scans hw_1244 (c_X9_scans l D k m_a m_limbs m_wide m_book m_images m_kept m_before m_refused m_quiet m_text m_typed 0 m_start m_token m_value m_items 0 m_is m_likes m_without m_onePicture m_oneYear m_first m_second m_names u1 e2) dX9_reads_11 ⟨Nat.le_of_ble_eq_true rfl, Nat.le_of_ble_eq_true rfl⟩ ⟨Nat.zero_le _, Nat.zero_le _⟩ rfl rfl (Nat.le_of_ble_eq_true rfl) rfl rfl rfl ?_
  clear e2
  exact L14 cx_N0 u1.1 u1.2.1 u1.2.2.1 u1.2.2.2 0 m_items hf
theorem dX9_tellsItem_0 : decode cX9_tellsItem 0 = .ok (.aload_n 0, 1) := by decide +kernel
theorem dX9_tellsItem_1 : decode cX9_tellsItem 1 = .ok (.getfield 70, 3) := by decide +kernel
theorem dX9_tellsItem_4 : decode cX9_tellsItem 4 = .ok (.bipush 6, 2) := by decide +kernel
theorem dX9_tellsItem_6 : decode cX9_tellsItem 6 = .ok (.iload_n 1, 1) := by decide +kernel
theorem dX9_tellsItem_7 : decode cX9_tellsItem 7 = .ok (.imul, 1) := by decide +kernel
theorem dX9_tellsItem_8 : decode cX9_tellsItem 8 = .ok (.iconst 1, 1) := by decide +kernel
theorem dX9_tellsItem_9 : decode cX9_tellsItem 9 = .ok (.iadd, 1) := by decide +kernel
theorem dX9_tellsItem_10 : decode cX9_tellsItem 10 = .ok (.iaload, 1) := by decide +kernel
theorem dX9_tellsItem_11 : decode cX9_tellsItem 11 = .ok (.istore_n 2, 1) := by decide +kernel
theorem dX9_tellsItem_12 : decode cX9_tellsItem 12 = .ok (.aload_n 0, 1) := by decide +kernel
theorem dX9_tellsItem_13 : decode cX9_tellsItem 13 = .ok (.getfield 70, 3) := by decide +kernel
theorem dX9_tellsItem_16 : decode cX9_tellsItem 16 = .ok (.bipush 6, 2) := by decide +kernel
theorem dX9_tellsItem_18 : decode cX9_tellsItem 18 = .ok (.iload_n 1, 1) := by decide +kernel
theorem dX9_tellsItem_19 : decode cX9_tellsItem 19 = .ok (.imul, 1) := by decide +kernel
theorem dX9_tellsItem_20 : decode cX9_tellsItem 20 = .ok (.iconst 2, 1) := by decide +kernel
theorem dX9_tellsItem_21 : decode cX9_tellsItem 21 = .ok (.iadd, 1) := by decide +kernel
theorem dX9_tellsItem_22 : decode cX9_tellsItem 22 = .ok (.iaload, 1) := by decide +kernel
theorem dX9_tellsItem_23 : decode cX9_tellsItem 23 = .ok (.istore_n 3, 1) := by decide +kernel
theorem dX9_tellsItem_24 : decode cX9_tellsItem 24 = .ok (.aload_n 0, 1) := by decide +kernel
theorem dX9_tellsItem_25 : decode cX9_tellsItem 25 = .ok (.getfield 70, 3) := by decide +kernel
theorem dX9_tellsItem_28 : decode cX9_tellsItem 28 = .ok (.bipush 6, 2) := by decide +kernel
theorem dX9_tellsItem_30 : decode cX9_tellsItem 30 = .ok (.iload_n 1, 1) := by decide +kernel
theorem dX9_tellsItem_31 : decode cX9_tellsItem 31 = .ok (.imul, 1) := by decide +kernel
theorem dX9_tellsItem_32 : decode cX9_tellsItem 32 = .ok (.iconst 3, 1) := by decide +kernel
theorem dX9_tellsItem_33 : decode cX9_tellsItem 33 = .ok (.iadd, 1) := by decide +kernel
theorem dX9_tellsItem_34 : decode cX9_tellsItem 34 = .ok (.iaload, 1) := by decide +kernel
theorem dX9_tellsItem_35 : decode cX9_tellsItem 35 = .ok (.istore 4, 2) := by decide +kernel
theorem dX9_tellsItem_37 : decode cX9_tellsItem 37 = .ok (.aload_n 0, 1) := by decide +kernel
theorem dX9_tellsItem_38 : decode cX9_tellsItem 38 = .ok (.getfield 70, 3) := by decide +kernel
theorem dX9_tellsItem_41 : decode cX9_tellsItem 41 = .ok (.bipush 6, 2) := by decide +kernel
theorem dX9_tellsItem_43 : decode cX9_tellsItem 43 = .ok (.iload_n 1, 1) := by decide +kernel
theorem dX9_tellsItem_44 : decode cX9_tellsItem 44 = .ok (.imul, 1) := by decide +kernel
theorem dX9_tellsItem_45 : decode cX9_tellsItem 45 = .ok (.iconst 4, 1) := by decide +kernel
theorem dX9_tellsItem_46 : decode cX9_tellsItem 46 = .ok (.iadd, 1) := by decide +kernel
theorem dX9_tellsItem_47 : decode cX9_tellsItem 47 = .ok (.iaload, 1) := by decide +kernel
theorem dX9_tellsItem_48 : decode cX9_tellsItem 48 = .ok (.istore 5, 2) := by decide +kernel
theorem dX9_tellsItem_50 : decode cX9_tellsItem 50 = .ok (.aload_n 0, 1) := by decide +kernel
theorem dX9_tellsItem_51 : decode cX9_tellsItem 51 = .ok (.getfield 70, 3) := by decide +kernel
theorem dX9_tellsItem_54 : decode cX9_tellsItem 54 = .ok (.bipush 6, 2) := by decide +kernel
theorem dX9_tellsItem_56 : decode cX9_tellsItem 56 = .ok (.iload_n 1, 1) := by decide +kernel
theorem dX9_tellsItem_57 : decode cX9_tellsItem 57 = .ok (.imul, 1) := by decide +kernel
theorem dX9_tellsItem_58 : decode cX9_tellsItem 58 = .ok (.iaload, 1) := by decide +kernel
theorem dX9_tellsItem_59 : decode cX9_tellsItem 59 = .ok (.istore 6, 2) := by decide +kernel
theorem dX9_tellsItem_61 : decode cX9_tellsItem 61 = .ok (.iload 6, 2) := by decide +kernel
theorem dX9_tellsItem_63 : decode cX9_tellsItem 63 = .ok (.ifCond .ne 16, 3) := by decide +kernel
theorem dX9_tellsItem_66 : decode cX9_tellsItem 66 = .ok (.aload_n 0, 1) := by decide +kernel
theorem dX9_tellsItem_67 : decode cX9_tellsItem 67 = .ok (.iload_n 2, 1) := by decide +kernel
theorem dX9_tellsItem_68 : decode cX9_tellsItem 68 = .ok (.iload_n 3, 1) := by decide +kernel
theorem dX9_tellsItem_69 : decode cX9_tellsItem 69 = .ok (.iload 4, 2) := by decide +kernel
theorem dX9_tellsItem_71 : decode cX9_tellsItem 71 = .ok (.iload 5, 2) := by decide +kernel
theorem dX9_tellsItem_73 : decode cX9_tellsItem 73 = .ok (.invokevirtual 199, 3) := by decide +kernel
theorem dX9_tellsItem_76 : decode cX9_tellsItem 76 = .ok (.goto 120, 3) := by decide +kernel
theorem dX9_tellsItem_79 : decode cX9_tellsItem 79 = .ok (.iload 6, 2) := by decide +kernel
theorem dX9_tellsItem_81 : decode cX9_tellsItem 81 = .ok (.iconst 1, 1) := by decide +kernel
theorem dX9_tellsItem_82 : decode cX9_tellsItem 82 = .ok (.if_icmp .ne 12, 3) := by decide +kernel
theorem dX9_tellsItem_85 : decode cX9_tellsItem 85 = .ok (.aload_n 0, 1) := by decide +kernel
theorem dX9_tellsItem_86 : decode cX9_tellsItem 86 = .ok (.iload_n 2, 1) := by decide +kernel
theorem dX9_tellsItem_87 : decode cX9_tellsItem 87 = .ok (.iload_n 3, 1) := by decide +kernel
theorem dX9_tellsItem_88 : decode cX9_tellsItem 88 = .ok (.invokevirtual 203, 3) := by decide +kernel
theorem dX9_tellsItem_91 : decode cX9_tellsItem 91 = .ok (.goto 105, 3) := by decide +kernel
theorem dX9_tellsItem_94 : decode cX9_tellsItem 94 = .ok (.iload 6, 2) := by decide +kernel
theorem dX9_tellsItem_96 : decode cX9_tellsItem 96 = .ok (.iconst 2, 1) := by decide +kernel
theorem dX9_tellsItem_97 : decode cX9_tellsItem 97 = .ok (.if_icmp .ne 12, 3) := by decide +kernel
theorem dX9_tellsItem_100 : decode cX9_tellsItem 100 = .ok (.aload_n 0, 1) := by decide +kernel
theorem dX9_tellsItem_101 : decode cX9_tellsItem 101 = .ok (.iload_n 2, 1) := by decide +kernel
theorem dX9_tellsItem_102 : decode cX9_tellsItem 102 = .ok (.iload_n 3, 1) := by decide +kernel
theorem dX9_tellsItem_103 : decode cX9_tellsItem 103 = .ok (.invokevirtual 206, 3) := by decide +kernel
theorem dX9_tellsItem_106 : decode cX9_tellsItem 106 = .ok (.goto 90, 3) := by decide +kernel
theorem dX9_tellsItem_109 : decode cX9_tellsItem 109 = .ok (.iload 6, 2) := by decide +kernel
theorem dX9_tellsItem_111 : decode cX9_tellsItem 111 = .ok (.iconst 3, 1) := by decide +kernel
theorem dX9_tellsItem_112 : decode cX9_tellsItem 112 = .ok (.if_icmp .ne 12, 3) := by decide +kernel
theorem dX9_tellsItem_115 : decode cX9_tellsItem 115 = .ok (.aload_n 0, 1) := by decide +kernel
theorem dX9_tellsItem_116 : decode cX9_tellsItem 116 = .ok (.iload_n 2, 1) := by decide +kernel
theorem dX9_tellsItem_117 : decode cX9_tellsItem 117 = .ok (.iload_n 3, 1) := by decide +kernel
theorem dX9_tellsItem_118 : decode cX9_tellsItem 118 = .ok (.invokevirtual 209, 3) := by decide +kernel
theorem dX9_tellsItem_121 : decode cX9_tellsItem 121 = .ok (.goto 75, 3) := by decide +kernel
theorem dX9_tellsItem_124 : decode cX9_tellsItem 124 = .ok (.iload 6, 2) := by decide +kernel
theorem dX9_tellsItem_126 : decode cX9_tellsItem 126 = .ok (.iconst 4, 1) := by decide +kernel
theorem dX9_tellsItem_127 : decode cX9_tellsItem 127 = .ok (.if_icmp .ne 27, 3) := by decide +kernel
theorem dX9_tellsItem_130 : decode cX9_tellsItem 130 = .ok (.aload_n 0, 1) := by decide +kernel
theorem dX9_tellsItem_131 : decode cX9_tellsItem 131 = .ok (.iload_n 2, 1) := by decide +kernel
theorem dX9_tellsItem_132 : decode cX9_tellsItem 132 = .ok (.iload_n 3, 1) := by decide +kernel
theorem dX9_tellsItem_133 : decode cX9_tellsItem 133 = .ok (.iload 4, 2) := by decide +kernel
theorem dX9_tellsItem_135 : decode cX9_tellsItem 135 = .ok (.iload 5, 2) := by decide +kernel
theorem dX9_tellsItem_137 : decode cX9_tellsItem 137 = .ok (.aload_n 0, 1) := by decide +kernel
theorem dX9_tellsItem_138 : decode cX9_tellsItem 138 = .ok (.getfield 70, 3) := by decide +kernel
theorem dX9_tellsItem_141 : decode cX9_tellsItem 141 = .ok (.bipush 6, 2) := by decide +kernel
theorem dX9_tellsItem_143 : decode cX9_tellsItem 143 = .ok (.iload_n 1, 1) := by decide +kernel
theorem dX9_tellsItem_144 : decode cX9_tellsItem 144 = .ok (.imul, 1) := by decide +kernel
theorem dX9_tellsItem_145 : decode cX9_tellsItem 145 = .ok (.iconst 5, 1) := by decide +kernel
theorem dX9_tellsItem_146 : decode cX9_tellsItem 146 = .ok (.iadd, 1) := by decide +kernel
theorem dX9_tellsItem_147 : decode cX9_tellsItem 147 = .ok (.iaload, 1) := by decide +kernel
theorem dX9_tellsItem_148 : decode cX9_tellsItem 148 = .ok (.invokevirtual 212, 3) := by decide +kernel
theorem dX9_tellsItem_151 : decode cX9_tellsItem 151 = .ok (.goto 45, 3) := by decide +kernel
theorem dX9_tellsItem_154 : decode cX9_tellsItem 154 = .ok (.iload 6, 2) := by decide +kernel
theorem dX9_tellsItem_156 : decode cX9_tellsItem 156 = .ok (.iconst 5, 1) := by decide +kernel
theorem dX9_tellsItem_157 : decode cX9_tellsItem 157 = .ok (.if_icmp .ne 16, 3) := by decide +kernel
theorem dX9_tellsItem_160 : decode cX9_tellsItem 160 = .ok (.aload_n 0, 1) := by decide +kernel
theorem dX9_tellsItem_161 : decode cX9_tellsItem 161 = .ok (.iload_n 2, 1) := by decide +kernel
theorem dX9_tellsItem_162 : decode cX9_tellsItem 162 = .ok (.iload_n 3, 1) := by decide +kernel
theorem dX9_tellsItem_163 : decode cX9_tellsItem 163 = .ok (.iload 4, 2) := by decide +kernel
theorem dX9_tellsItem_165 : decode cX9_tellsItem 165 = .ok (.iload 5, 2) := by decide +kernel
theorem dX9_tellsItem_167 : decode cX9_tellsItem 167 = .ok (.invokevirtual 216, 3) := by decide +kernel
theorem dX9_tellsItem_170 : decode cX9_tellsItem 170 = .ok (.goto 26, 3) := by decide +kernel
theorem dX9_tellsItem_173 : decode cX9_tellsItem 173 = .ok (.iload 6, 2) := by decide +kernel
theorem dX9_tellsItem_175 : decode cX9_tellsItem 175 = .ok (.bipush 6, 2) := by decide +kernel
theorem dX9_tellsItem_177 : decode cX9_tellsItem 177 = .ok (.if_icmp .ne 14, 3) := by decide +kernel
theorem dX9_tellsItem_180 : decode cX9_tellsItem 180 = .ok (.aload_n 0, 1) := by decide +kernel
theorem dX9_tellsItem_181 : decode cX9_tellsItem 181 = .ok (.iload_n 2, 1) := by decide +kernel
theorem dX9_tellsItem_182 : decode cX9_tellsItem 182 = .ok (.iload_n 3, 1) := by decide +kernel
theorem dX9_tellsItem_183 : decode cX9_tellsItem 183 = .ok (.iload 4, 2) := by decide +kernel
theorem dX9_tellsItem_185 : decode cX9_tellsItem 185 = .ok (.invokevirtual 219, 3) := by decide +kernel
theorem dX9_tellsItem_188 : decode cX9_tellsItem 188 = .ok (.goto 8, 3) := by decide +kernel
theorem dX9_tellsItem_191 : decode cX9_tellsItem 191 = .ok (.aload_n 0, 1) := by decide +kernel
theorem dX9_tellsItem_192 : decode cX9_tellsItem 192 = .ok (.iload_n 2, 1) := by decide +kernel
theorem dX9_tellsItem_193 : decode cX9_tellsItem 193 = .ok (.invokevirtual 222, 3) := by decide +kernel
theorem dX9_tellsItem_196 : decode cX9_tellsItem 196 = .ok (.istore 7, 2) := by decide +kernel
theorem dX9_tellsItem_198 : decode cX9_tellsItem 198 = .ok (.iload 7, 2) := by decide +kernel
theorem dX9_tellsItem_200 : decode cX9_tellsItem 200 = .ok (.iconst (-1), 1) := by decide +kernel
theorem dX9_tellsItem_201 : decode cX9_tellsItem 201 = .ok (.if_icmp .lt 7, 3) := by decide +kernel
theorem dX9_tellsItem_204 : decode cX9_tellsItem 204 = .ok (.iconst 1, 1) := by decide +kernel
theorem dX9_tellsItem_205 : decode cX9_tellsItem 205 = .ok (.goto 4, 3) := by decide +kernel
theorem dX9_tellsItem_208 : decode cX9_tellsItem 208 = .ok (.iconst 0, 1) := by decide +kernel
theorem dX9_tellsItem_209 : decode cX9_tellsItem 209 = .ok (.ireturn, 1) := by decide +kernel
theorem me_X9_tellsItem : cx_Mv yX9_tellsItem cX9_tellsItem 8 (some .boolean) 1 := ⟨⟨⟨by decide +kernel, by decide +kernel, by decide +kernel⟩, hw_11, hw_1271⟩, hw_1270, hs_53⟩
noncomputable def f_X9_tellsItem_J196 (a_19 : Nat → Int32) (a_20 : Nat → Int32) (s0_21 : Int32) : Option (Int32 × (Nat → Int32) × (Nat → Int32)) := if s0_21 < ((-1)) then (some ((0, a_19, a_20))) else (some ((1, a_19, a_20)))
noncomputable def f_X9_tellsItem (m_book : Nat → Int32) (m_refused : Nat → Int32) (m_quiet : Int32) (m_items : Nat → Int32) (p1 : Int32) : Option (Int32 × (Nat → Int32) × (Nat → Int32)) := cx_gd (cx_ib ((6 * p1) + 1) 900) (cx_let (m_items (cx_ix ((6 * p1) + 1))) (fun v2 => cx_gd (cx_ib ((6 * p1) + 2) 900) (cx_let (m_items (cx_ix ((6 * p1) + 2))) (fun v4 => cx_gd (cx_ib ((6 * p1) + 3) 900) (cx_let (m_items (cx_ix ((6 * p1) + 3))) (fun v6 => cx_gd (cx_ib ((6 * p1) + 4) 900) (cx_let (m_items (cx_ix ((6 * p1) + 4))) (fun v8 => cx_gd (cx_ib (6 * p1) 900) (if (m_items (cx_ix (6 * p1))) = 0 then (Option.bind (f_X9_person m_book m_refused m_quiet v2 v4 v6 v8) (fun u36 => f_X9_tellsItem_J196 u36.2.1 u36.2.2 u36.1)) else (if (m_items (cx_ix (6 * p1))) = 1 then (Option.bind (f_X9_parent m_book m_refused m_quiet v2 v4) (fun u34 => f_X9_tellsItem_J196 u34.2.1 u34.2.2 u34.1)) else (if (m_items (cx_ix (6 * p1))) = 2 then (Option.bind (f_X9_near m_book m_refused m_quiet v2 v4) (fun u32 => f_X9_tellsItem_J196 u32.2.1 u32.2.2 u32.1)) else (if (m_items (cx_ix (6 * p1))) = 3 then (Option.bind (f_X9_picture m_book m_refused m_quiet v2 v4) (fun u30 => f_X9_tellsItem_J196 u30.2.1 u30.2.2 u30.1)) else (if (m_items (cx_ix (6 * p1))) = 4 then (cx_gd (cx_ib ((6 * p1) + 5) 900) (Option.bind (f_X9_head m_book m_refused m_quiet v2 v4 v6 v8 (m_items (cx_ix ((6 * p1) + 5)))) (fun u28 => f_X9_tellsItem_J196 u28.2.1 u28.2.2 u28.1))) else (if (m_items (cx_ix (6 * p1))) = 5 then (Option.bind (f_X9_name m_book m_refused m_quiet v2 v4 v6 v8) (fun u25 => f_X9_tellsItem_J196 u25.2.1 u25.2.2 u25.1)) else (if (m_items (cx_ix (6 * p1))) = 6 then (Option.bind (f_X9_join m_book m_refused m_quiet v2 v4 v6) (fun u23 => f_X9_tellsItem_J196 u23.2.1 u23.2.2 u23.1)) else (Option.bind (f_X9_strange m_book m_refused m_quiet v2) (fun u17 => f_X9_tellsItem_J196 u17.2.1 u17.2.2 u17.1)))))))))))))))))
set_option maxHeartbeats 4000000 in
set_option maxRecDepth 100000 in
theorem c_X9_tellsItem (l : Launch) (D : va_G) (k : Nat → ClassId) (m_a : Nat → Nat) (m_limbs : Nat → Int32) (m_wide : Nat → Int32) (m_book : Nat → Int32) (m_images : Nat → Int32) (m_kept : Nat → Int32) (m_before : Nat → Int32) (m_refused : Nat → Int32) (m_quiet : Int32) (m_text : Nat → Int32) (m_typed : Int32) (m_at : Int32) (m_start : Int32) (m_token : Int32) (m_value : Int32) (m_items : Nat → Int32) (m_many : Int32) (m_is : Nat → Int32) (m_likes : Nat → Int32) (m_without : Int32) (m_onePicture : Int32) (m_oneYear : Int32) (m_first : Int32) (m_second : Int32) (m_names : Nat → Int32) (p1 : Int32) (y : Int32 × (Nat → Int32) × (Nat → Int32)) (hf : f_X9_tellsItem m_book m_refused m_quiet m_items p1 = some y) : cx_M l yX9_tellsItem cX9_tellsItem 8 (some .boolean) 4 D k [.ref (m_a 0), .int p1] (wd_Model k m_a m_limbs m_wide m_book m_images m_kept m_before m_refused m_quiet m_text m_typed m_at m_start m_token m_value m_items m_many m_is m_likes m_without m_onePicture m_oneYear m_first m_second m_names) (fun sz => cx_Qi D y.1 (wd_Model k m_a m_limbs m_wide m_book m_images m_kept m_before m_refused m_quiet m_text m_typed m_at m_start m_token m_value m_items m_many m_is m_likes m_without m_onePicture m_oneYear m_first m_second m_names) (wd_Model k m_a m_limbs m_wide y.2.1 m_images m_kept m_before y.2.2 m_quiet m_text m_typed m_at m_start m_token m_value m_items m_many m_is m_likes m_without m_onePicture m_oneYear m_first m_second m_names) sz) := by
  refine cx_met (own := "NamelessBoxModel") (by decide) rfl (Nat.le_of_ble_eq_true rfl) ?_
  intro p e s m args below meth c A Q C hA hQ hr hlk
  refine cx_lv (lv' := [(0, .ref (m_a 0)), (1, .int p1)]) [0, 1] rfl ?_
  have J196 : ∀ (a_19 : Nat → Int32) (a_20 : Nat → Int32) (s0_21 : Int32), f_X9_tellsItem_J196 a_19 a_20 s0_21 = some y → cx_S p l e (cx_rm 4) s m args below meth c A D 8 0 0 Q 196 [] [.int s0_21] (wd_Model k m_a m_limbs m_wide a_19 m_images m_kept m_before a_20 m_quiet m_text m_typed m_at m_start m_token m_value m_items m_many m_is m_likes m_without m_onePicture m_oneYear m_first m_second m_names) := by
    intro a_19 a_20 s0_21 hf
    unfold f_X9_tellsItem_J196 at hf
    refine cx_istore (lv' := [(7, .int s0_21)]) C dX9_tellsItem_196 (by decide) rfl ?_
    refine cx_iload C dX9_tellsItem_198 0 rfl ?_
    refine cx_iconst (v := (-1)) C dX9_tellsItem_200 (by decide) ?_
    refine cx_icmp_lt (tgt := 208) C dX9_tellsItem_201 (by decide) (fun c22 => ?_) (fun c22 => ?_)
    · have hf := cx_if_t hf c22
      clear c22
      refine cx_iconst (v := 0) C dX9_tellsItem_208 (by decide) ?_
      obtain rfl := Option.some.inj hf
      exact cx_zret C hA hQ hr hlk dX9_tellsItem_209 rfl rfl rfl
    · have hf := cx_if_f hf c22
      clear c22
      refine cx_iconst (v := 1) C dX9_tellsItem_204 (by decide) ?_
      refine cx_goto (tgt := 209) C dX9_tellsItem_205 (by decide) ?_
      obtain rfl := Option.some.inj hf
      exact cx_zret C hA hQ hr hlk dX9_tellsItem_209 rfl rfl rfl
  unfold f_X9_tellsItem at hf
  refine cx_aload_n C dX9_tellsItem_0 0 rfl ?_
  refine cx_get (v := .ref (m_a 9)) (ci := 8) C iX9 dX9_tellsItem_1 0 rfl rfl 14 (by decide) hw_1068 rfl ?_
  refine cx_bipush (v := 6) C dX9_tellsItem_4 (by decide) ?_
  refine cx_iload_n C dX9_tellsItem_6 1 rfl ?_
  refine cx_imul C dX9_tellsItem_7 ?_
  refine cx_iconst (v := 1) C dX9_tellsItem_8 (by decide) ?_
  refine cx_iadd C dX9_tellsItem_9 ?_
  obtain ⟨g1, hf⟩ := cx_gd_at hf
  refine cx_iald C dX9_tellsItem_10 9 rfl (cx_ib_in g1) ?_
  clear g1
  refine cx_topi (fun v2 ev2 => ?_)
  have hf := cx_let_at hf ev2
  clear ev2
  refine cx_istore_n (lv' := [(2, .int v2), (0, .ref (m_a 0)), (1, .int p1)]) C dX9_tellsItem_11 rfl (by decide) rfl ?_
  refine cx_aload_n C dX9_tellsItem_12 1 rfl ?_
  refine cx_get (v := .ref (m_a 9)) (ci := 8) C iX9 dX9_tellsItem_13 0 rfl rfl 14 (by decide) hw_1068 rfl ?_
  refine cx_bipush (v := 6) C dX9_tellsItem_16 (by decide) ?_
  refine cx_iload_n C dX9_tellsItem_18 2 rfl ?_
  refine cx_imul C dX9_tellsItem_19 ?_
  refine cx_iconst (v := 2) C dX9_tellsItem_20 (by decide) ?_
  refine cx_iadd C dX9_tellsItem_21 ?_
  obtain ⟨g3, hf⟩ := cx_gd_at hf
  refine cx_iald C dX9_tellsItem_22 9 rfl (cx_ib_in g3) ?_
  clear g3
  refine cx_topi (fun v4 ev4 => ?_)
  have hf := cx_let_at hf ev4
  clear ev4
  refine cx_istore_n (lv' := [(3, .int v4), (2, .int v2), (0, .ref (m_a 0)), (1, .int p1)]) C dX9_tellsItem_23 rfl (by decide) rfl ?_
  refine cx_aload_n C dX9_tellsItem_24 2 rfl ?_
  refine cx_get (v := .ref (m_a 9)) (ci := 8) C iX9 dX9_tellsItem_25 0 rfl rfl 14 (by decide) hw_1068 rfl ?_
  refine cx_bipush (v := 6) C dX9_tellsItem_28 (by decide) ?_
  refine cx_iload_n C dX9_tellsItem_30 3 rfl ?_
  refine cx_imul C dX9_tellsItem_31 ?_
  refine cx_iconst (v := 3) C dX9_tellsItem_32 (by decide) ?_
  refine cx_iadd C dX9_tellsItem_33 ?_
  obtain ⟨g5, hf⟩ := cx_gd_at hf
  refine cx_iald C dX9_tellsItem_34 9 rfl (cx_ib_in g5) ?_
  clear g5
  refine cx_topi (fun v6 ev6 => ?_)
  have hf := cx_let_at hf ev6
  clear ev6
  refine cx_istore (lv' := [(4, .int v6), (3, .int v4), (2, .int v2), (0, .ref (m_a 0)), (1, .int p1)]) C dX9_tellsItem_35 (by decide) rfl ?_
  refine cx_aload_n C dX9_tellsItem_37 3 rfl ?_
  refine cx_get (v := .ref (m_a 9)) (ci := 8) C iX9 dX9_tellsItem_38 0 rfl rfl 14 (by decide) hw_1068 rfl ?_
  refine cx_bipush (v := 6) C dX9_tellsItem_41 (by decide) ?_
  refine cx_iload_n C dX9_tellsItem_43 4 rfl ?_
  refine cx_imul C dX9_tellsItem_44 ?_
  refine cx_iconst (v := 4) C dX9_tellsItem_45 (by decide) ?_
  refine cx_iadd C dX9_tellsItem_46 ?_
  obtain ⟨g7, hf⟩ := cx_gd_at hf
  refine cx_iald C dX9_tellsItem_47 9 rfl (cx_ib_in g7) ?_
  clear g7
  refine cx_topi (fun v8 ev8 => ?_)
  have hf := cx_let_at hf ev8
  clear ev8
  refine cx_istore (lv' := [(5, .int v8), (4, .int v6), (3, .int v4), (2, .int v2), (0, .ref (m_a 0)), (1, .int p1)]) C dX9_tellsItem_48 (by decide) rfl ?_
  refine cx_aload_n C dX9_tellsItem_50 4 rfl ?_
  refine cx_get (v := .ref (m_a 9)) (ci := 8) C iX9 dX9_tellsItem_51 0 rfl rfl 14 (by decide) hw_1068 rfl ?_
  refine cx_bipush (v := 6) C dX9_tellsItem_54 (by decide) ?_
  refine cx_iload_n C dX9_tellsItem_56 5 rfl ?_
  refine cx_imul C dX9_tellsItem_57 ?_
  obtain ⟨g9, hf⟩ := cx_gd_at hf
  refine cx_iald C dX9_tellsItem_58 9 rfl (cx_ib_in g9) ?_
  clear g9
  refine cx_istore (lv' := [(6, .int (m_items (cx_ix (6 * p1)))), (5, .int v8), (4, .int v6), (3, .int v4), (2, .int v2), (0, .ref (m_a 0)), (1, .int p1)]) C dX9_tellsItem_59 (by decide) rfl ?_
  refine cx_iload C dX9_tellsItem_61 0 rfl ?_
  refine cx_if_ne (tgt := 79) C dX9_tellsItem_63 (by decide) (fun c10 => ?_) (fun c10 => ?_)
  · have hf := cx_if_f hf c10
    clear c10
    refine cx_iload C dX9_tellsItem_79 0 rfl ?_
    refine cx_iconst (v := 1) C dX9_tellsItem_81 (by decide) ?_
    refine cx_icmp_ne (tgt := 94) C dX9_tellsItem_82 (by decide) (fun c11 => ?_) (fun c11 => ?_)
    · have hf := cx_if_f hf c11
      clear c11
      refine cx_iload C dX9_tellsItem_94 0 rfl ?_
      refine cx_iconst (v := 2) C dX9_tellsItem_96 (by decide) ?_
      refine cx_icmp_ne (tgt := 109) C dX9_tellsItem_97 (by decide) (fun c12 => ?_) (fun c12 => ?_)
      · have hf := cx_if_f hf c12
        clear c12
        refine cx_iload C dX9_tellsItem_109 0 rfl ?_
        refine cx_iconst (v := 3) C dX9_tellsItem_111 (by decide) ?_
        refine cx_icmp_ne (tgt := 124) C dX9_tellsItem_112 (by decide) (fun c13 => ?_) (fun c13 => ?_)
        · have hf := cx_if_f hf c13
          clear c13
          refine cx_iload C dX9_tellsItem_124 0 rfl ?_
          refine cx_iconst (v := 4) C dX9_tellsItem_126 (by decide) ?_
          refine cx_icmp_ne (tgt := 154) C dX9_tellsItem_127 (by decide) (fun c14 => ?_) (fun c14 => ?_)
          · have hf := cx_if_f hf c14
            clear c14
            refine cx_iload C dX9_tellsItem_154 0 rfl ?_
            refine cx_iconst (v := 5) C dX9_tellsItem_156 (by decide) ?_
            refine cx_icmp_ne (tgt := 173) C dX9_tellsItem_157 (by decide) (fun c15 => ?_) (fun c15 => ?_)
            · have hf := cx_if_f hf c15
              clear c15
              refine cx_iload C dX9_tellsItem_173 0 rfl ?_
              refine cx_bipush (v := 6) C dX9_tellsItem_175 (by decide) ?_
              refine cx_icmp_ne (tgt := 191) C dX9_tellsItem_177 (by decide) (fun c16 => ?_) (fun c16 => ?_)
              · have hf := cx_if_f hf c16
                clear c16
                refine cx_aload_n C dX9_tellsItem_191 5 rfl ?_
                refine cx_iload_n C dX9_tellsItem_192 4 rfl ?_
                obtain ⟨u17, e18, hf⟩ := cx_bd_at hf
                refine cx_Fvi (q := (RX9, TX9, 24)) (As := [.int v2]) (rest := []) (w1 := (wd_Model k m_a m_limbs m_wide u17.2.1 m_images m_kept m_before u17.2.2 m_quiet m_text m_typed m_at m_start m_token m_value m_items m_many m_is m_likes m_without m_onePicture m_oneYear m_first m_second m_names)) hA C me_X9_strange hw_1279 (c_X9_strange l D k m_a m_limbs m_wide m_book m_images m_kept m_before m_refused m_quiet m_text m_typed m_at m_start m_token m_value m_items m_many m_is m_likes m_without m_onePicture m_oneYear m_first m_second m_names v2 u17 e18) dX9_tellsItem_193 ⟨Nat.le_of_ble_eq_true rfl, Nat.le_of_ble_eq_true rfl⟩ ⟨Nat.zero_le _, Nat.zero_le _⟩ rfl rfl (Nat.le_of_ble_eq_true rfl) rfl rfl rfl ?_
                clear e18
                refine cx_lv [] rfl ?_
                exact J196 u17.2.1 u17.2.2 u17.1 hf
              · have hf := cx_if_t hf c16
                clear c16
                refine cx_aload_n C dX9_tellsItem_180 5 rfl ?_
                refine cx_iload_n C dX9_tellsItem_181 4 rfl ?_
                refine cx_iload_n C dX9_tellsItem_182 3 rfl ?_
                refine cx_iload C dX9_tellsItem_183 2 rfl ?_
                obtain ⟨u23, e24, hf⟩ := cx_bd_at hf
                refine cx_Fvi (q := (RX9, TX9, 24)) (As := [.int v2, .int v4, .int v6]) (rest := []) (w1 := (wd_Model k m_a m_limbs m_wide u23.2.1 m_images m_kept m_before u23.2.2 m_quiet m_text m_typed m_at m_start m_token m_value m_items m_many m_is m_likes m_without m_onePicture m_oneYear m_first m_second m_names)) hA C me_X9_join hw_1278 (c_X9_join l D k m_a m_limbs m_wide m_book m_images m_kept m_before m_refused m_quiet m_text m_typed m_at m_start m_token m_value m_items m_many m_is m_likes m_without m_onePicture m_oneYear m_first m_second m_names v2 v4 v6 u23 e24) dX9_tellsItem_185 ⟨Nat.le_of_ble_eq_true rfl, Nat.le_of_ble_eq_true rfl⟩ ⟨Nat.zero_le _, Nat.zero_le _⟩ rfl rfl (Nat.le_of_ble_eq_true rfl) rfl rfl rfl ?_
                clear e24
                refine cx_goto (tgt := 196) C dX9_tellsItem_188 (by decide) ?_
                refine cx_lv [] rfl ?_
                exact J196 u23.2.1 u23.2.2 u23.1 hf
            · have hf := cx_if_t hf c15
              clear c15
              refine cx_aload_n C dX9_tellsItem_160 5 rfl ?_
              refine cx_iload_n C dX9_tellsItem_161 4 rfl ?_
              refine cx_iload_n C dX9_tellsItem_162 3 rfl ?_
              refine cx_iload C dX9_tellsItem_163 2 rfl ?_
              refine cx_iload C dX9_tellsItem_165 1 rfl ?_
              obtain ⟨u25, e26, hf⟩ := cx_bd_at hf
              refine cx_Fvi (q := (RX9, TX9, 24)) (As := [.int v2, .int v4, .int v6, .int v8]) (rest := []) (w1 := (wd_Model k m_a m_limbs m_wide u25.2.1 m_images m_kept m_before u25.2.2 m_quiet m_text m_typed m_at m_start m_token m_value m_items m_many m_is m_likes m_without m_onePicture m_oneYear m_first m_second m_names)) hA C me_X9_name hw_1277 (c_X9_name l D k m_a m_limbs m_wide m_book m_images m_kept m_before m_refused m_quiet m_text m_typed m_at m_start m_token m_value m_items m_many m_is m_likes m_without m_onePicture m_oneYear m_first m_second m_names v2 v4 v6 v8 u25 e26) dX9_tellsItem_167 ⟨Nat.le_of_ble_eq_true rfl, Nat.le_of_ble_eq_true rfl⟩ ⟨Nat.zero_le _, Nat.zero_le _⟩ rfl rfl (Nat.le_of_ble_eq_true rfl) rfl rfl rfl ?_
              clear e26
              refine cx_goto (tgt := 196) C dX9_tellsItem_170 (by decide) ?_
              refine cx_lv [] rfl ?_
              exact J196 u25.2.1 u25.2.2 u25.1 hf
          · have hf := cx_if_t hf c14
            clear c14
            refine cx_aload_n C dX9_tellsItem_130 5 rfl ?_
            refine cx_iload_n C dX9_tellsItem_131 4 rfl ?_
            refine cx_iload_n C dX9_tellsItem_132 3 rfl ?_
            refine cx_iload C dX9_tellsItem_133 2 rfl ?_
            refine cx_iload C dX9_tellsItem_135 1 rfl ?_
            refine cx_aload_n C dX9_tellsItem_137 5 rfl ?_
            refine cx_get (v := .ref (m_a 9)) (ci := 8) C iX9 dX9_tellsItem_138 0 rfl rfl 14 (by decide) hw_1068 rfl ?_
            refine cx_bipush (v := 6) C dX9_tellsItem_141 (by decide) ?_
            refine cx_iload_n C dX9_tellsItem_143 6 rfl ?_
            refine cx_imul C dX9_tellsItem_144 ?_
            refine cx_iconst (v := 5) C dX9_tellsItem_145 (by decide) ?_
            refine cx_iadd C dX9_tellsItem_146 ?_
            obtain ⟨g27, hf⟩ := cx_gd_at hf
            refine cx_iald C dX9_tellsItem_147 9 rfl (cx_ib_in g27) ?_
            clear g27
            obtain ⟨u28, e29, hf⟩ := cx_bd_at hf
            refine cx_Fvi (q := (RX9, TX9, 24)) (As := [.int v2, .int v4, .int v6, .int v8, .int (m_items (cx_ix ((6 * p1) + 5)))]) (rest := []) (w1 := (wd_Model k m_a m_limbs m_wide u28.2.1 m_images m_kept m_before u28.2.2 m_quiet m_text m_typed m_at m_start m_token m_value m_items m_many m_is m_likes m_without m_onePicture m_oneYear m_first m_second m_names)) hA C me_X9_head hw_1276 (c_X9_head l D k m_a m_limbs m_wide m_book m_images m_kept m_before m_refused m_quiet m_text m_typed m_at m_start m_token m_value m_items m_many m_is m_likes m_without m_onePicture m_oneYear m_first m_second m_names v2 v4 v6 v8 (m_items (cx_ix ((6 * p1) + 5))) u28 e29) dX9_tellsItem_148 ⟨Nat.le_of_ble_eq_true rfl, Nat.le_of_ble_eq_true rfl⟩ ⟨Nat.zero_le _, Nat.zero_le _⟩ rfl rfl (Nat.le_of_ble_eq_true rfl) rfl rfl rfl ?_
            clear e29
            refine cx_goto (tgt := 196) C dX9_tellsItem_151 (by decide) ?_
            refine cx_lv [] rfl ?_
            exact J196 u28.2.1 u28.2.2 u28.1 hf
        · have hf := cx_if_t hf c13
          clear c13
          refine cx_aload_n C dX9_tellsItem_115 5 rfl ?_
          refine cx_iload_n C dX9_tellsItem_116 4 rfl ?_
          refine cx_iload_n C dX9_tellsItem_117 3 rfl ?_
          obtain ⟨u30, e31, hf⟩ := cx_bd_at hf
          refine cx_Fvi (q := (RX9, TX9, 24)) (As := [.int v2, .int v4]) (rest := []) (w1 := (wd_Model k m_a m_limbs m_wide u30.2.1 m_images m_kept m_before u30.2.2 m_quiet m_text m_typed m_at m_start m_token m_value m_items m_many m_is m_likes m_without m_onePicture m_oneYear m_first m_second m_names)) hA C me_X9_picture hw_1275 (c_X9_picture l D k m_a m_limbs m_wide m_book m_images m_kept m_before m_refused m_quiet m_text m_typed m_at m_start m_token m_value m_items m_many m_is m_likes m_without m_onePicture m_oneYear m_first m_second m_names v2 v4 u30 e31) dX9_tellsItem_118 ⟨Nat.le_of_ble_eq_true rfl, Nat.le_of_ble_eq_true rfl⟩ ⟨Nat.zero_le _, Nat.zero_le _⟩ rfl rfl (Nat.le_of_ble_eq_true rfl) rfl rfl rfl ?_
          clear e31
          refine cx_goto (tgt := 196) C dX9_tellsItem_121 (by decide) ?_
          refine cx_lv [] rfl ?_
          exact J196 u30.2.1 u30.2.2 u30.1 hf
      · have hf := cx_if_t hf c12
        clear c12
        refine cx_aload_n C dX9_tellsItem_100 5 rfl ?_
        refine cx_iload_n C dX9_tellsItem_101 4 rfl ?_
        refine cx_iload_n C dX9_tellsItem_102 3 rfl ?_
        obtain ⟨u32, e33, hf⟩ := cx_bd_at hf
        refine cx_Fvi (q := (RX9, TX9, 24)) (As := [.int v2, .int v4]) (rest := []) (w1 := (wd_Model k m_a m_limbs m_wide u32.2.1 m_images m_kept m_before u32.2.2 m_quiet m_text m_typed m_at m_start m_token m_value m_items m_many m_is m_likes m_without m_onePicture m_oneYear m_first m_second m_names)) hA C me_X9_near hw_1274 (c_X9_near l D k m_a m_limbs m_wide m_book m_images m_kept m_before m_refused m_quiet m_text m_typed m_at m_start m_token m_value m_items m_many m_is m_likes m_without m_onePicture m_oneYear m_first m_second m_names v2 v4 u32 e33) dX9_tellsItem_103 ⟨Nat.le_of_ble_eq_true rfl, Nat.le_of_ble_eq_true rfl⟩ ⟨Nat.zero_le _, Nat.zero_le _⟩ rfl rfl (Nat.le_of_ble_eq_true rfl) rfl rfl rfl ?_
        clear e33
        refine cx_goto (tgt := 196) C dX9_tellsItem_106 (by decide) ?_
        refine cx_lv [] rfl ?_
        exact J196 u32.2.1 u32.2.2 u32.1 hf
    · have hf := cx_if_t hf c11
      clear c11
      refine cx_aload_n C dX9_tellsItem_85 5 rfl ?_
      refine cx_iload_n C dX9_tellsItem_86 4 rfl ?_
      refine cx_iload_n C dX9_tellsItem_87 3 rfl ?_
      obtain ⟨u34, e35, hf⟩ := cx_bd_at hf
      refine cx_Fvi (q := (RX9, TX9, 24)) (As := [.int v2, .int v4]) (rest := []) (w1 := (wd_Model k m_a m_limbs m_wide u34.2.1 m_images m_kept m_before u34.2.2 m_quiet m_text m_typed m_at m_start m_token m_value m_items m_many m_is m_likes m_without m_onePicture m_oneYear m_first m_second m_names)) hA C me_X9_parent hw_1273 (c_X9_parent l D k m_a m_limbs m_wide m_book m_images m_kept m_before m_refused m_quiet m_text m_typed m_at m_start m_token m_value m_items m_many m_is m_likes m_without m_onePicture m_oneYear m_first m_second m_names v2 v4 u34 e35) dX9_tellsItem_88 ⟨Nat.le_of_ble_eq_true rfl, Nat.le_of_ble_eq_true rfl⟩ ⟨Nat.zero_le _, Nat.zero_le _⟩ rfl rfl (Nat.le_of_ble_eq_true rfl) rfl rfl rfl ?_
      clear e35
      refine cx_goto (tgt := 196) C dX9_tellsItem_91 (by decide) ?_
      refine cx_lv [] rfl ?_
      exact J196 u34.2.1 u34.2.2 u34.1 hf
  · have hf := cx_if_t hf c10
    clear c10
    refine cx_aload_n C dX9_tellsItem_66 5 rfl ?_
    refine cx_iload_n C dX9_tellsItem_67 4 rfl ?_
    refine cx_iload_n C dX9_tellsItem_68 3 rfl ?_
    refine cx_iload C dX9_tellsItem_69 2 rfl ?_
    refine cx_iload C dX9_tellsItem_71 1 rfl ?_
    obtain ⟨u36, e37, hf⟩ := cx_bd_at hf
    refine cx_Fvi (q := (RX9, TX9, 24)) (As := [.int v2, .int v4, .int v6, .int v8]) (rest := []) (w1 := (wd_Model k m_a m_limbs m_wide u36.2.1 m_images m_kept m_before u36.2.2 m_quiet m_text m_typed m_at m_start m_token m_value m_items m_many m_is m_likes m_without m_onePicture m_oneYear m_first m_second m_names)) hA C me_X9_person hw_1272 (c_X9_person l D k m_a m_limbs m_wide m_book m_images m_kept m_before m_refused m_quiet m_text m_typed m_at m_start m_token m_value m_items m_many m_is m_likes m_without m_onePicture m_oneYear m_first m_second m_names v2 v4 v6 v8 u36 e37) dX9_tellsItem_73 ⟨Nat.le_of_ble_eq_true rfl, Nat.le_of_ble_eq_true rfl⟩ ⟨Nat.zero_le _, Nat.zero_le _⟩ rfl rfl (Nat.le_of_ble_eq_true rfl) rfl rfl rfl ?_
    clear e37
    refine cx_goto (tgt := 196) C dX9_tellsItem_76 (by decide) ?_
    refine cx_lv [] rfl ?_
    exact J196 u36.2.1 u36.2.2 u36.1 hf
theorem dX9_read_0 : decode cX9_read 0 = .ok (.aload_n 0, 1) := by decide +kernel
theorem dX9_read_1 : decode cX9_read 1 = .ok (.invokevirtual 225, 3) := by decide +kernel
theorem dX9_read_4 : decode cX9_read 4 = .ok (.ifCond .ne 11, 3) := by decide +kernel
theorem dX9_read_7 : decode cX9_read 7 = .ok (.bipush (-10), 2) := by decide +kernel
theorem dX9_read_9 : decode cX9_read 9 = .ok (.aload_n 0, 1) := by decide +kernel
theorem dX9_read_10 : decode cX9_read 10 = .ok (.getfield 173, 3) := by decide +kernel
theorem dX9_read_13 : decode cX9_read 13 = .ok (.isub, 1) := by decide +kernel
theorem dX9_read_14 : decode cX9_read 14 = .ok (.ireturn, 1) := by decide +kernel
theorem dX9_read_15 : decode cX9_read 15 = .ok (.iconst 0, 1) := by decide +kernel
theorem dX9_read_16 : decode cX9_read 16 = .ok (.istore_n 1, 1) := by decide +kernel
theorem dX9_read_17 : decode cX9_read 17 = .ok (.iload_n 1, 1) := by decide +kernel
theorem dX9_read_18 : decode cX9_read 18 = .ok (.sipush 140, 3) := by decide +kernel
theorem dX9_read_21 : decode cX9_read 21 = .ok (.if_icmp .ge 21, 3) := by decide +kernel
theorem dX9_read_24 : decode cX9_read 24 = .ok (.aload_n 0, 1) := by decide +kernel
theorem dX9_read_25 : decode cX9_read 25 = .ok (.getfield 61, 3) := by decide +kernel
theorem dX9_read_28 : decode cX9_read 28 = .ok (.iload_n 1, 1) := by decide +kernel
theorem dX9_read_29 : decode cX9_read 29 = .ok (.aload_n 0, 1) := by decide +kernel
theorem dX9_read_30 : decode cX9_read 30 = .ok (.getfield 51, 3) := by decide +kernel
theorem dX9_read_33 : decode cX9_read 33 = .ok (.iload_n 1, 1) := by decide +kernel
theorem dX9_read_34 : decode cX9_read 34 = .ok (.iaload, 1) := by decide +kernel
theorem dX9_read_35 : decode cX9_read 35 = .ok (.iastore, 1) := by decide +kernel
theorem dX9_read_36 : decode cX9_read 36 = .ok (.iinc 1 1, 3) := by decide +kernel
theorem dX9_read_39 : decode cX9_read 39 = .ok (.goto (-22), 3) := by decide +kernel
theorem dX9_read_42 : decode cX9_read 42 = .ok (.iconst 0, 1) := by decide +kernel
theorem dX9_read_43 : decode cX9_read 43 = .ok (.istore_n 1, 1) := by decide +kernel
theorem dX9_read_44 : decode cX9_read 44 = .ok (.iload_n 1, 1) := by decide +kernel
theorem dX9_read_45 : decode cX9_read 45 = .ok (.iconst 5, 1) := by decide +kernel
theorem dX9_read_46 : decode cX9_read 46 = .ok (.if_icmp .ge 16, 3) := by decide +kernel
theorem dX9_read_49 : decode cX9_read 49 = .ok (.aload_n 0, 1) := by decide +kernel
theorem dX9_read_50 : decode cX9_read 50 = .ok (.getfield 51, 3) := by decide +kernel
theorem dX9_read_53 : decode cX9_read 53 = .ok (.iload_n 1, 1) := by decide +kernel
theorem dX9_read_54 : decode cX9_read 54 = .ok (.iconst 0, 1) := by decide +kernel
theorem dX9_read_55 : decode cX9_read 55 = .ok (.iastore, 1) := by decide +kernel
theorem dX9_read_56 : decode cX9_read 56 = .ok (.iinc 1 1, 3) := by decide +kernel
theorem dX9_read_59 : decode cX9_read 59 = .ok (.goto (-15), 3) := by decide +kernel
theorem dX9_read_62 : decode cX9_read 62 = .ok (.aload_n 0, 1) := by decide +kernel
theorem dX9_read_63 : decode cX9_read 63 = .ok (.getfield 51, 3) := by decide +kernel
theorem dX9_read_66 : decode cX9_read 66 = .ok (.iconst 5, 1) := by decide +kernel
theorem dX9_read_67 : decode cX9_read 67 = .ok (.iconst 1, 1) := by decide +kernel
theorem dX9_read_68 : decode cX9_read 68 = .ok (.iastore, 1) := by decide +kernel
theorem dX9_read_69 : decode cX9_read 69 = .ok (.aload_n 0, 1) := by decide +kernel
theorem dX9_read_70 : decode cX9_read 70 = .ok (.iconst 1, 1) := by decide +kernel
theorem dX9_read_71 : decode cX9_read 71 = .ok (.putfield 82, 3) := by decide +kernel
theorem dX9_read_74 : decode cX9_read 74 = .ok (.iconst 0, 1) := by decide +kernel
theorem dX9_read_75 : decode cX9_read 75 = .ok (.istore_n 1, 1) := by decide +kernel
theorem dX9_read_76 : decode cX9_read 76 = .ok (.iload_n 1, 1) := by decide +kernel
theorem dX9_read_77 : decode cX9_read 77 = .ok (.aload_n 0, 1) := by decide +kernel
theorem dX9_read_78 : decode cX9_read 78 = .ok (.getfield 190, 3) := by decide +kernel
theorem dX9_read_81 : decode cX9_read 81 = .ok (.if_icmp .ge 17, 3) := by decide +kernel
theorem dX9_read_84 : decode cX9_read 84 = .ok (.aload_n 0, 1) := by decide +kernel
theorem dX9_read_85 : decode cX9_read 85 = .ok (.iload_n 1, 1) := by decide +kernel
theorem dX9_read_86 : decode cX9_read 86 = .ok (.invokevirtual 229, 3) := by decide +kernel
theorem dX9_read_89 : decode cX9_read 89 = .ok (.ifCond .eq 9, 3) := by decide +kernel
theorem dX9_read_92 : decode cX9_read 92 = .ok (.iinc 1 1, 3) := by decide +kernel
theorem dX9_read_95 : decode cX9_read 95 = .ok (.goto (-19), 3) := by decide +kernel
theorem dX9_read_98 : decode cX9_read 98 = .ok (.aload_n 0, 1) := by decide +kernel
theorem dX9_read_99 : decode cX9_read 99 = .ok (.iconst 0, 1) := by decide +kernel
theorem dX9_read_100 : decode cX9_read 100 = .ok (.putfield 82, 3) := by decide +kernel
theorem dX9_read_103 : decode cX9_read 103 = .ok (.iload_n 1, 1) := by decide +kernel
theorem dX9_read_104 : decode cX9_read 104 = .ok (.aload_n 0, 1) := by decide +kernel
theorem dX9_read_105 : decode cX9_read 105 = .ok (.getfield 190, 3) := by decide +kernel
theorem dX9_read_108 : decode cX9_read 108 = .ok (.if_icmp .ne 8, 3) := by decide +kernel
theorem dX9_read_111 : decode cX9_read 111 = .ok (.aload_n 0, 1) := by decide +kernel
theorem dX9_read_112 : decode cX9_read 112 = .ok (.getfield 190, 3) := by decide +kernel
theorem dX9_read_115 : decode cX9_read 115 = .ok (.ireturn, 1) := by decide +kernel
theorem dX9_read_116 : decode cX9_read 116 = .ok (.iconst 0, 1) := by decide +kernel
theorem dX9_read_117 : decode cX9_read 117 = .ok (.istore_n 2, 1) := by decide +kernel
theorem dX9_read_118 : decode cX9_read 118 = .ok (.iload_n 2, 1) := by decide +kernel
theorem dX9_read_119 : decode cX9_read 119 = .ok (.sipush 140, 3) := by decide +kernel
theorem dX9_read_122 : decode cX9_read 122 = .ok (.if_icmp .ge 21, 3) := by decide +kernel
theorem dX9_read_125 : decode cX9_read 125 = .ok (.aload_n 0, 1) := by decide +kernel
theorem dX9_read_126 : decode cX9_read 126 = .ok (.getfield 51, 3) := by decide +kernel
theorem dX9_read_129 : decode cX9_read 129 = .ok (.iload_n 2, 1) := by decide +kernel
theorem dX9_read_130 : decode cX9_read 130 = .ok (.aload_n 0, 1) := by decide +kernel
theorem dX9_read_131 : decode cX9_read 131 = .ok (.getfield 61, 3) := by decide +kernel
theorem dX9_read_134 : decode cX9_read 134 = .ok (.iload_n 2, 1) := by decide +kernel
theorem dX9_read_135 : decode cX9_read 135 = .ok (.iaload, 1) := by decide +kernel
theorem dX9_read_136 : decode cX9_read 136 = .ok (.iastore, 1) := by decide +kernel
theorem dX9_read_137 : decode cX9_read 137 = .ok (.iinc 2 1, 3) := by decide +kernel
theorem dX9_read_140 : decode cX9_read 140 = .ok (.goto (-22), 3) := by decide +kernel
theorem dX9_read_143 : decode cX9_read 143 = .ok (.sipush (-1000), 3) := by decide +kernel
theorem dX9_read_146 : decode cX9_read 146 = .ok (.iload_n 1, 1) := by decide +kernel
theorem dX9_read_147 : decode cX9_read 147 = .ok (.isub, 1) := by decide +kernel
theorem dX9_read_148 : decode cX9_read 148 = .ok (.ireturn, 1) := by decide +kernel
theorem me_X9_read : cx_Mv yX9_read cX9_read 3 (some .int) 0 := ⟨⟨⟨by decide +kernel, by decide +kernel, by decide +kernel⟩, hw_11, hw_1239⟩, hw_1237, hw_1238⟩
noncomputable def f_X9_read_L118 (h_48 : Int32) (h_49 : Int32) (h_50 : Int32) (h_51 : Int32) (h_52 : Int32) (h_53 : Int32) (a_55 : Nat → Int32) (a_56 : Nat → Int32) (a_57 : Nat → Int32) (x1_58 : Int32) (rc118 : (Nat → Int32) → Int32 → Option (Int32 × Int32 × Int32 × Int32 × Int32 × Int32 × Int32 × (Nat → Int32) × (Nat → Int32) × (Nat → Int32) × (Nat → Int32))) (a_54 : Nat → Int32) (x2_59 : Int32) : Option (Int32 × Int32 × Int32 × Int32 × Int32 × Int32 × Int32 × (Nat → Int32) × (Nat → Int32) × (Nat → Int32) × (Nat → Int32)) := if 140 ≤ x2_59 then (some ((((-1000)) - x1_58, h_48, h_49, h_50, h_51, h_52, h_53, a_54, a_55, a_56, a_57))) else (cx_gd (cx_ib x2_59 140) (cx_gd (cx_ib x2_59 140) (cx_let (upd a_54 (cx_ix x2_59) (a_55 (cx_ix x2_59))) (fun a63 => rc118 a63 (x2_59 + 1)))))
noncomputable def f_X9_read_L118w (h_48 : Int32) (h_49 : Int32) (h_50 : Int32) (h_51 : Int32) (h_52 : Int32) (h_53 : Int32) (a_55 : Nat → Int32) (a_56 : Nat → Int32) (a_57 : Nat → Int32) (x1_58 : Int32) (n : Nat) : (Nat → Int32) → Int32 → Option (Int32 × Int32 × Int32 × Int32 × Int32 × Int32 × Int32 × (Nat → Int32) × (Nat → Int32) × (Nat → Int32) × (Nat → Int32)) := Nat.rec (fun _ _ => none) (fun _ r => f_X9_read_L118 h_48 h_49 h_50 h_51 h_52 h_53 a_55 a_56 a_57 x1_58 r) n
noncomputable def f_X9_read_J98 (h_36 : Int32) (h_37 : Int32) (h_38 : Int32) (h_39 : Int32) (h_40 : Int32) (h_41 : Int32) (a_42 : Nat → Int32) (a_43 : Nat → Int32) (a_44 : Nat → Int32) (a_45 : Nat → Int32) (x1_46 : Int32) : Option (Int32 × Int32 × Int32 × Int32 × Int32 × Int32 × Int32 × (Nat → Int32) × (Nat → Int32) × (Nat → Int32) × (Nat → Int32)) := if x1_46 = h_41 then (some ((h_41, 0, h_37, h_38, h_39, h_40, h_41, a_42, a_43, a_44, a_45))) else (f_X9_read_L118w 0 h_37 h_38 h_39 h_40 h_41 a_43 a_44 a_45 x1_46 cx_N0 a_42 0)
noncomputable def f_X9_read_L76 (h_24 : Int32) (h_25 : Int32) (h_26 : Int32) (h_27 : Int32) (h_28 : Int32) (h_29 : Int32) (a_31 : Nat → Int32) (a_33 : Nat → Int32) (rc76 : (Nat → Int32) → (Nat → Int32) → Int32 → Option (Int32 × Int32 × Int32 × Int32 × Int32 × Int32 × Int32 × (Nat → Int32) × (Nat → Int32) × (Nat → Int32) × (Nat → Int32))) (a_30 : Nat → Int32) (a_32 : Nat → Int32) (x1_34 : Int32) : Option (Int32 × Int32 × Int32 × Int32 × Int32 × Int32 × Int32 × (Nat → Int32) × (Nat → Int32) × (Nat → Int32) × (Nat → Int32)) := if h_29 ≤ x1_34 then (f_X9_read_J98 h_24 h_25 h_26 h_27 h_28 h_29 a_30 a_31 a_32 a_33 x1_34) else (Option.bind (f_X9_tellsItem a_30 a_32 h_24 a_33 x1_34) (fun u64 => if u64.1 = 0 then (f_X9_read_J98 h_24 h_25 h_26 h_27 h_28 h_29 u64.2.1 a_31 u64.2.2 a_33 x1_34) else (rc76 u64.2.1 u64.2.2 (x1_34 + 1))))
noncomputable def f_X9_read_L76w (h_24 : Int32) (h_25 : Int32) (h_26 : Int32) (h_27 : Int32) (h_28 : Int32) (h_29 : Int32) (a_31 : Nat → Int32) (a_33 : Nat → Int32) (n : Nat) : (Nat → Int32) → (Nat → Int32) → Int32 → Option (Int32 × Int32 × Int32 × Int32 × Int32 × Int32 × Int32 × (Nat → Int32) × (Nat → Int32) × (Nat → Int32) × (Nat → Int32)) := Nat.rec (fun _ _ _ => none) (fun _ r => f_X9_read_L76 h_24 h_25 h_26 h_27 h_28 h_29 a_31 a_33 r) n
noncomputable def f_X9_read_L44 (m_refused : Nat → Int32) (h_13 : Int32) (h_14 : Int32) (h_15 : Int32) (h_16 : Int32) (h_17 : Int32) (a_19 : Nat → Int32) (a_20 : Nat → Int32) (rc44 : (Nat → Int32) → Int32 → Option (Int32 × Int32 × Int32 × Int32 × Int32 × Int32 × Int32 × (Nat → Int32) × (Nat → Int32) × (Nat → Int32) × (Nat → Int32))) (a_18 : Nat → Int32) (x1_21 : Int32) : Option (Int32 × Int32 × Int32 × Int32 × Int32 × Int32 × Int32 × (Nat → Int32) × (Nat → Int32) × (Nat → Int32) × (Nat → Int32)) := if 5 ≤ x1_21 then (cx_gd (cx_ib 5 140) (f_X9_read_L76w 1 h_13 h_14 h_15 h_16 h_17 a_19 a_20 cx_N0 (upd a_18 (cx_ix 5) 1) m_refused 0)) else (cx_gd (cx_ib x1_21 140) (cx_let (upd a_18 (cx_ix x1_21) 0) (fun a68 => rc44 a68 (x1_21 + 1))))
noncomputable def f_X9_read_L44w (m_refused : Nat → Int32) (h_13 : Int32) (h_14 : Int32) (h_15 : Int32) (h_16 : Int32) (h_17 : Int32) (a_19 : Nat → Int32) (a_20 : Nat → Int32) (n : Nat) : (Nat → Int32) → Int32 → Option (Int32 × Int32 × Int32 × Int32 × Int32 × Int32 × Int32 × (Nat → Int32) × (Nat → Int32) × (Nat → Int32) × (Nat → Int32)) := Nat.rec (fun _ _ => none) (fun _ r => f_X9_read_L44 m_refused h_13 h_14 h_15 h_16 h_17 a_19 a_20 r) n
noncomputable def f_X9_read_L17 (m_book : Nat → Int32) (m_refused : Nat → Int32) (h_4 : Int32) (h_5 : Int32) (h_6 : Int32) (h_7 : Int32) (h_8 : Int32) (a_10 : Nat → Int32) (rc17 : (Nat → Int32) → Int32 → Option (Int32 × Int32 × Int32 × Int32 × Int32 × Int32 × Int32 × (Nat → Int32) × (Nat → Int32) × (Nat → Int32) × (Nat → Int32))) (a_9 : Nat → Int32) (x1_11 : Int32) : Option (Int32 × Int32 × Int32 × Int32 × Int32 × Int32 × Int32 × (Nat → Int32) × (Nat → Int32) × (Nat → Int32) × (Nat → Int32)) := if 140 ≤ x1_11 then (f_X9_read_L44w m_refused h_4 h_5 h_6 h_7 h_8 a_9 a_10 cx_N0 m_book 0) else (cx_gd (cx_ib x1_11 140) (cx_gd (cx_ib x1_11 140) (cx_let (upd a_9 (cx_ix x1_11) (m_book (cx_ix x1_11))) (fun a71 => rc17 a71 (x1_11 + 1)))))
noncomputable def f_X9_read_L17w (m_book : Nat → Int32) (m_refused : Nat → Int32) (h_4 : Int32) (h_5 : Int32) (h_6 : Int32) (h_7 : Int32) (h_8 : Int32) (a_10 : Nat → Int32) (n : Nat) : (Nat → Int32) → Int32 → Option (Int32 × Int32 × Int32 × Int32 × Int32 × Int32 × Int32 × (Nat → Int32) × (Nat → Int32) × (Nat → Int32) × (Nat → Int32)) := Nat.rec (fun _ _ => none) (fun _ r => f_X9_read_L17 m_book m_refused h_4 h_5 h_6 h_7 h_8 a_10 r) n
noncomputable def f_X9_read (m_book : Nat → Int32) (m_before : Nat → Int32) (m_refused : Nat → Int32) (m_quiet : Int32) (m_text : Nat → Int32) (m_typed : Int32) (m_value : Int32) (m_items : Nat → Int32) : Option (Int32 × Int32 × Int32 × Int32 × Int32 × Int32 × Int32 × (Nat → Int32) × (Nat → Int32) × (Nat → Int32) × (Nat → Int32)) := Option.bind (f_X9_reads m_text m_typed m_value m_items) (fun u1 => if u1.1 = 0 then (some ((((-10)) - u1.2.2.1, m_quiet, u1.2.1, u1.2.2.1, u1.2.2.2.1, u1.2.2.2.2.1, u1.2.2.2.2.2.1, m_book, m_before, m_refused, u1.2.2.2.2.2.2))) else (f_X9_read_L17w m_book m_refused u1.2.1 u1.2.2.1 u1.2.2.2.1 u1.2.2.2.2.1 u1.2.2.2.2.2.1 u1.2.2.2.2.2.2 cx_N0 m_before 0))
set_option maxHeartbeats 4000000 in
set_option maxRecDepth 100000 in
theorem c_X9_read (l : Launch) (D : va_G) (k : Nat → ClassId) (m_a : Nat → Nat) (m_limbs : Nat → Int32) (m_wide : Nat → Int32) (m_book : Nat → Int32) (m_images : Nat → Int32) (m_kept : Nat → Int32) (m_before : Nat → Int32) (m_refused : Nat → Int32) (m_quiet : Int32) (m_text : Nat → Int32) (m_typed : Int32) (m_at : Int32) (m_start : Int32) (m_token : Int32) (m_value : Int32) (m_items : Nat → Int32) (m_many : Int32) (m_is : Nat → Int32) (m_likes : Nat → Int32) (m_without : Int32) (m_onePicture : Int32) (m_oneYear : Int32) (m_first : Int32) (m_second : Int32) (m_names : Nat → Int32) (y : Int32 × Int32 × Int32 × Int32 × Int32 × Int32 × Int32 × (Nat → Int32) × (Nat → Int32) × (Nat → Int32) × (Nat → Int32)) (hf : f_X9_read m_book m_before m_refused m_quiet m_text m_typed m_value m_items = some y) : cx_M l yX9_read cX9_read 3 (some .int) 5 D k [.ref (m_a 0)] (wd_Model k m_a m_limbs m_wide m_book m_images m_kept m_before m_refused m_quiet m_text m_typed m_at m_start m_token m_value m_items m_many m_is m_likes m_without m_onePicture m_oneYear m_first m_second m_names) (fun sz => cx_Qi D y.1 (wd_Model k m_a m_limbs m_wide m_book m_images m_kept m_before m_refused m_quiet m_text m_typed m_at m_start m_token m_value m_items m_many m_is m_likes m_without m_onePicture m_oneYear m_first m_second m_names) (wd_Model k m_a m_limbs m_wide y.2.2.2.2.2.2.2.1 m_images m_kept y.2.2.2.2.2.2.2.2.1 y.2.2.2.2.2.2.2.2.2.1 y.2.1 m_text m_typed y.2.2.1 y.2.2.2.1 y.2.2.2.2.1 y.2.2.2.2.2.1 y.2.2.2.2.2.2.2.2.2.2 y.2.2.2.2.2.2.1 m_is m_likes m_without m_onePicture m_oneYear m_first m_second m_names) sz) := by
  refine cx_met (own := "NamelessBoxModel") (by decide) rfl (Nat.le_of_ble_eq_true rfl) ?_
  intro p e s m args below meth c A Q C hA hQ hr hlk
  refine cx_lv (lv' := [(0, .ref (m_a 0))]) [0] rfl ?_
  have L118 : ∀ (h_48 : Int32) (h_49 : Int32) (h_50 : Int32) (h_51 : Int32) (h_52 : Int32) (h_53 : Int32) (a_55 : Nat → Int32) (a_56 : Nat → Int32) (a_57 : Nat → Int32) (x1_58 : Int32) (n118 : Nat) (a_54 : Nat → Int32) (x2_59 : Int32), f_X9_read_L118w h_48 h_49 h_50 h_51 h_52 h_53 a_55 a_56 a_57 x1_58 n118 a_54 x2_59 = some y → cx_S p l e (cx_rm 5) s m args below meth c A D 3 0 0 Q 118 [(0, .ref (m_a 0)), (1, .int x1_58), (2, .int x2_59)] [] (wd_Model k m_a m_limbs m_wide a_54 m_images m_kept a_55 a_56 h_48 m_text m_typed h_49 h_50 h_51 h_52 a_57 h_53 m_is m_likes m_without m_onePicture m_oneYear m_first m_second m_names) := by
    intro h_48 h_49 h_50 h_51 h_52 h_53 a_55 a_56 a_57 x1_58 n118
    induction n118 with
    | zero =>
      intro a_54 x2_59 hf
      exact absurd (show (none : Option (Int32 × Int32 × Int32 × Int32 × Int32 × Int32 × Int32 × (Nat → Int32) × (Nat → Int32) × (Nat → Int32) × (Nat → Int32))) = some y from hf) (fun h => by cases h)
    | succ n118 ih118 =>
      intro a_54 x2_59 hf
      have hf : f_X9_read_L118 h_48 h_49 h_50 h_51 h_52 h_53 a_55 a_56 a_57 x1_58 (f_X9_read_L118w h_48 h_49 h_50 h_51 h_52 h_53 a_55 a_56 a_57 x1_58 n118) a_54 x2_59 = some y := hf
      unfold f_X9_read_L118 at hf
      refine cx_iload_n C dX9_read_118 2 rfl ?_
      refine cx_sipush (v := 140) C dX9_read_119 (by decide) ?_
      refine cx_icmp_ge (tgt := 143) C dX9_read_122 (by decide) (fun c60 => ?_) (fun c60 => ?_)
      · have hf := cx_if_t hf c60
        clear c60
        refine cx_sipush (v := (-1000)) C dX9_read_143 (by decide) ?_
        refine cx_iload_n C dX9_read_146 1 rfl ?_
        refine cx_isub C dX9_read_147 ?_
        obtain rfl := Option.some.inj hf
        exact cx_iret C hA hQ hr hlk dX9_read_148 rfl rfl
      · have hf := cx_if_f hf c60
        clear c60
        refine cx_aload_n C dX9_read_125 0 rfl ?_
        refine cx_get (v := .ref (m_a 3)) (ci := 8) C iX9 dX9_read_126 0 rfl rfl 2 (by decide) hw_1056 rfl ?_
        refine cx_iload_n C dX9_read_129 2 rfl ?_
        refine cx_aload_n C dX9_read_130 0 rfl ?_
        refine cx_get (v := .ref (m_a 6)) (ci := 8) C iX9 dX9_read_131 0 rfl rfl 5 (by decide) hw_1059 rfl ?_
        refine cx_iload_n C dX9_read_134 2 rfl ?_
        obtain ⟨g61, hf⟩ := cx_gd_at hf
        refine cx_iald C dX9_read_135 6 rfl (cx_ib_in g61) ?_
        clear g61
        obtain ⟨g62, hf⟩ := cx_gd_at hf
        obtain ⟨a63, ea63⟩ : ∃ z, z = upd a_54 (cx_ix x2_59) (a_55 (cx_ix x2_59)) := ⟨_, rfl⟩
        have hf := cx_let_at hf ea63
        refine cx_iast (ws' := (wd_Model k m_a m_limbs m_wide a63 m_images m_kept a_55 a_56 h_48 m_text m_typed h_49 h_50 h_51 h_52 a_57 h_53 m_is m_likes m_without m_onePicture m_oneYear m_first m_second m_names)) C dX9_read_136 3 rfl (cx_ib_in g62) (by rw [ea63]; rfl) ?_
        clear ea63 g62
        refine cx_iinc (v := x2_59 + 1) (lv' := [(2, .int (x2_59 + 1)), (0, .ref (m_a 0)), (1, .int x1_58)]) C dX9_read_137 2 rfl rfl (by decide) rfl ?_
        refine cx_goto (tgt := 118) C dX9_read_140 (by decide) ?_
        refine cx_lv [1, 2, 0] rfl ?_
        exact ih118 a63 (x2_59 + 1) hf
  have J98 : ∀ (h_36 : Int32) (h_37 : Int32) (h_38 : Int32) (h_39 : Int32) (h_40 : Int32) (h_41 : Int32) (a_42 : Nat → Int32) (a_43 : Nat → Int32) (a_44 : Nat → Int32) (a_45 : Nat → Int32) (x1_46 : Int32), f_X9_read_J98 h_36 h_37 h_38 h_39 h_40 h_41 a_42 a_43 a_44 a_45 x1_46 = some y → cx_S p l e (cx_rm 5) s m args below meth c A D 3 0 0 Q 98 [(0, .ref (m_a 0)), (1, .int x1_46)] [] (wd_Model k m_a m_limbs m_wide a_42 m_images m_kept a_43 a_44 h_36 m_text m_typed h_37 h_38 h_39 h_40 a_45 h_41 m_is m_likes m_without m_onePicture m_oneYear m_first m_second m_names) := by
    intro h_36 h_37 h_38 h_39 h_40 h_41 a_42 a_43 a_44 a_45 x1_46 hf
    unfold f_X9_read_J98 at hf
    refine cx_aload_n C dX9_read_98 0 rfl ?_
    refine cx_iconst (v := 0) C dX9_read_99 (by decide) ?_
    refine cx_putf (v := .int 0) (ty := .boolean) (ci := 8) (ws' := (wd_Model k m_a m_limbs m_wide a_42 m_images m_kept a_43 a_44 0 m_text m_typed h_37 h_38 h_39 h_40 a_45 h_41 m_is m_likes m_without m_onePicture m_oneYear m_first m_second m_names)) C iX9 tyX9 tyX9_ok nmX9 dX9_read_100 0 rfl rfl 7 (by decide) hw_1061 rfl (by decide +kernel) rfl rfl (Nat.le_of_ble_eq_true rfl) rfl ?_
    refine cx_iload_n C dX9_read_103 1 rfl ?_
    refine cx_aload_n C dX9_read_104 0 rfl ?_
    refine cx_get (v := .int h_41) (ci := 8) C iX9 dX9_read_105 0 rfl rfl 15 (by decide) hw_1069 rfl ?_
    refine cx_icmp_ne (tgt := 116) C dX9_read_108 (by decide) (fun c47 => ?_) (fun c47 => ?_)
    · have hf := cx_if_f hf c47
      clear c47
      refine cx_iconst (v := 0) C dX9_read_116 (by decide) ?_
      refine cx_istore_n (lv' := [(2, .int 0), (0, .ref (m_a 0)), (1, .int x1_46)]) C dX9_read_117 rfl (by decide) rfl ?_
      refine cx_lv [1, 2, 0] rfl ?_
      exact L118 0 h_37 h_38 h_39 h_40 h_41 a_43 a_44 a_45 x1_46 cx_N0 a_42 0 hf
    · have hf := cx_if_t hf c47
      clear c47
      refine cx_aload_n C dX9_read_111 0 rfl ?_
      refine cx_get (v := .int h_41) (ci := 8) C iX9 dX9_read_112 0 rfl rfl 15 (by decide) hw_1069 rfl ?_
      obtain rfl := Option.some.inj hf
      exact cx_iret C hA hQ hr hlk dX9_read_115 rfl rfl
  have L76 : ∀ (h_24 : Int32) (h_25 : Int32) (h_26 : Int32) (h_27 : Int32) (h_28 : Int32) (h_29 : Int32) (a_31 : Nat → Int32) (a_33 : Nat → Int32) (n76 : Nat) (a_30 : Nat → Int32) (a_32 : Nat → Int32) (x1_34 : Int32), f_X9_read_L76w h_24 h_25 h_26 h_27 h_28 h_29 a_31 a_33 n76 a_30 a_32 x1_34 = some y → cx_S p l e (cx_rm 5) s m args below meth c A D 3 0 0 Q 76 [(0, .ref (m_a 0)), (1, .int x1_34)] [] (wd_Model k m_a m_limbs m_wide a_30 m_images m_kept a_31 a_32 h_24 m_text m_typed h_25 h_26 h_27 h_28 a_33 h_29 m_is m_likes m_without m_onePicture m_oneYear m_first m_second m_names) := by
    intro h_24 h_25 h_26 h_27 h_28 h_29 a_31 a_33 n76
    induction n76 with
    | zero =>
      intro a_30 a_32 x1_34 hf
      exact absurd (show (none : Option (Int32 × Int32 × Int32 × Int32 × Int32 × Int32 × Int32 × (Nat → Int32) × (Nat → Int32) × (Nat → Int32) × (Nat → Int32))) = some y from hf) (fun h => by cases h)
    | succ n76 ih76 =>
      intro a_30 a_32 x1_34 hf
      have hf : f_X9_read_L76 h_24 h_25 h_26 h_27 h_28 h_29 a_31 a_33 (f_X9_read_L76w h_24 h_25 h_26 h_27 h_28 h_29 a_31 a_33 n76) a_30 a_32 x1_34 = some y := hf
      unfold f_X9_read_L76 at hf
      refine cx_iload_n C dX9_read_76 1 rfl ?_
      refine cx_aload_n C dX9_read_77 0 rfl ?_
      refine cx_get (v := .int h_29) (ci := 8) C iX9 dX9_read_78 0 rfl rfl 15 (by decide) hw_1069 rfl ?_
      refine cx_icmp_ge (tgt := 98) C dX9_read_81 (by decide) (fun c35 => ?_) (fun c35 => ?_)
      · have hf := cx_if_t hf c35
        clear c35
        exact J98 h_24 h_25 h_26 h_27 h_28 h_29 a_30 a_31 a_32 a_33 x1_34 hf
      · have hf := cx_if_f hf c35
        clear c35
        refine cx_aload_n C dX9_read_84 0 rfl ?_
        refine cx_iload_n C dX9_read_85 1 rfl ?_
        obtain ⟨u64, e65, hf⟩ := cx_bd_at hf
        refine cx_Fvi (q := (RX9, TX9, 24)) (As := [.int x1_34]) (rest := []) (w1 := (wd_Model k m_a m_limbs m_wide u64.2.1 m_images m_kept a_31 u64.2.2 h_24 m_text m_typed h_25 h_26 h_27 h_28 a_33 h_29 m_is m_likes m_without m_onePicture m_oneYear m_first m_second m_names)) hA C me_X9_tellsItem hw_1268 (c_X9_tellsItem l D k m_a m_limbs m_wide a_30 m_images m_kept a_31 a_32 h_24 m_text m_typed h_25 h_26 h_27 h_28 a_33 h_29 m_is m_likes m_without m_onePicture m_oneYear m_first m_second m_names x1_34 u64 e65) dX9_read_86 ⟨Nat.le_of_ble_eq_true rfl, Nat.le_of_ble_eq_true rfl⟩ ⟨Nat.zero_le _, Nat.zero_le _⟩ rfl rfl (Nat.le_of_ble_eq_true rfl) rfl rfl rfl ?_
        clear e65
        refine cx_if_eq (tgt := 98) C dX9_read_89 (by decide) (fun c66 => ?_) (fun c66 => ?_)
        · have hf := cx_if_t hf c66
          clear c66
          exact J98 h_24 h_25 h_26 h_27 h_28 h_29 u64.2.1 a_31 u64.2.2 a_33 x1_34 hf
        · have hf := cx_if_f hf c66
          clear c66
          refine cx_iinc (v := x1_34 + 1) (lv' := [(1, .int (x1_34 + 1)), (0, .ref (m_a 0))]) C dX9_read_92 1 rfl rfl (by decide) rfl ?_
          refine cx_goto (tgt := 76) C dX9_read_95 (by decide) ?_
          refine cx_lv [1, 0] rfl ?_
          exact ih76 u64.2.1 u64.2.2 (x1_34 + 1) hf
  have L44 : ∀ (h_13 : Int32) (h_14 : Int32) (h_15 : Int32) (h_16 : Int32) (h_17 : Int32) (a_19 : Nat → Int32) (a_20 : Nat → Int32) (n44 : Nat) (a_18 : Nat → Int32) (x1_21 : Int32), f_X9_read_L44w m_refused h_13 h_14 h_15 h_16 h_17 a_19 a_20 n44 a_18 x1_21 = some y → cx_S p l e (cx_rm 5) s m args below meth c A D 3 0 0 Q 44 [(0, .ref (m_a 0)), (1, .int x1_21)] [] (wd_Model k m_a m_limbs m_wide a_18 m_images m_kept a_19 m_refused m_quiet m_text m_typed h_13 h_14 h_15 h_16 a_20 h_17 m_is m_likes m_without m_onePicture m_oneYear m_first m_second m_names) := by
    intro h_13 h_14 h_15 h_16 h_17 a_19 a_20 n44
    induction n44 with
    | zero =>
      intro a_18 x1_21 hf
      exact absurd (show (none : Option (Int32 × Int32 × Int32 × Int32 × Int32 × Int32 × Int32 × (Nat → Int32) × (Nat → Int32) × (Nat → Int32) × (Nat → Int32))) = some y from hf) (fun h => by cases h)
    | succ n44 ih44 =>
      intro a_18 x1_21 hf
      have hf : f_X9_read_L44 m_refused h_13 h_14 h_15 h_16 h_17 a_19 a_20 (f_X9_read_L44w m_refused h_13 h_14 h_15 h_16 h_17 a_19 a_20 n44) a_18 x1_21 = some y := hf
      unfold f_X9_read_L44 at hf
      refine cx_iload_n C dX9_read_44 1 rfl ?_
      refine cx_iconst (v := 5) C dX9_read_45 (by decide) ?_
      refine cx_icmp_ge (tgt := 62) C dX9_read_46 (by decide) (fun c22 => ?_) (fun c22 => ?_)
      · have hf := cx_if_t hf c22
        clear c22
        refine cx_aload_n C dX9_read_62 0 rfl ?_
        refine cx_get (v := .ref (m_a 3)) (ci := 8) C iX9 dX9_read_63 0 rfl rfl 2 (by decide) hw_1056 rfl ?_
        refine cx_iconst (v := 5) C dX9_read_66 (by decide) ?_
        refine cx_iconst (v := 1) C dX9_read_67 (by decide) ?_
        obtain ⟨g23, hf⟩ := cx_gd_at hf
        refine cx_iast (ws' := (wd_Model k m_a m_limbs m_wide (upd a_18 (cx_ix 5) 1) m_images m_kept a_19 m_refused m_quiet m_text m_typed h_13 h_14 h_15 h_16 a_20 h_17 m_is m_likes m_without m_onePicture m_oneYear m_first m_second m_names)) C dX9_read_68 3 rfl (cx_ib_in g23) rfl ?_
        clear g23
        refine cx_aload_n C dX9_read_69 0 rfl ?_
        refine cx_iconst (v := 1) C dX9_read_70 (by decide) ?_
        refine cx_putf (v := .int 1) (ty := .boolean) (ci := 8) (ws' := (wd_Model k m_a m_limbs m_wide (upd a_18 (cx_ix 5) 1) m_images m_kept a_19 m_refused 1 m_text m_typed h_13 h_14 h_15 h_16 a_20 h_17 m_is m_likes m_without m_onePicture m_oneYear m_first m_second m_names)) C iX9 tyX9 tyX9_ok nmX9 dX9_read_71 0 rfl rfl 7 (by decide) hw_1061 rfl (by decide +kernel) rfl rfl (Nat.le_of_ble_eq_true rfl) rfl ?_
        refine cx_iconst (v := 0) C dX9_read_74 (by decide) ?_
        refine cx_istore_n (lv' := [(1, .int 0), (0, .ref (m_a 0))]) C dX9_read_75 rfl (by decide) rfl ?_
        refine cx_lv [1, 0] rfl ?_
        exact L76 1 h_13 h_14 h_15 h_16 h_17 a_19 a_20 cx_N0 (upd a_18 (cx_ix 5) 1) m_refused 0 hf
      · have hf := cx_if_f hf c22
        clear c22
        refine cx_aload_n C dX9_read_49 0 rfl ?_
        refine cx_get (v := .ref (m_a 3)) (ci := 8) C iX9 dX9_read_50 0 rfl rfl 2 (by decide) hw_1056 rfl ?_
        refine cx_iload_n C dX9_read_53 1 rfl ?_
        refine cx_iconst (v := 0) C dX9_read_54 (by decide) ?_
        obtain ⟨g67, hf⟩ := cx_gd_at hf
        obtain ⟨a68, ea68⟩ : ∃ z, z = upd a_18 (cx_ix x1_21) 0 := ⟨_, rfl⟩
        have hf := cx_let_at hf ea68
        refine cx_iast (ws' := (wd_Model k m_a m_limbs m_wide a68 m_images m_kept a_19 m_refused m_quiet m_text m_typed h_13 h_14 h_15 h_16 a_20 h_17 m_is m_likes m_without m_onePicture m_oneYear m_first m_second m_names)) C dX9_read_55 3 rfl (cx_ib_in g67) (by rw [ea68]; rfl) ?_
        clear ea68 g67
        refine cx_iinc (v := x1_21 + 1) (lv' := [(1, .int (x1_21 + 1)), (0, .ref (m_a 0))]) C dX9_read_56 1 rfl rfl (by decide) rfl ?_
        refine cx_goto (tgt := 44) C dX9_read_59 (by decide) ?_
        refine cx_lv [1, 0] rfl ?_
        exact ih44 a68 (x1_21 + 1) hf
  have L17 : ∀ (h_4 : Int32) (h_5 : Int32) (h_6 : Int32) (h_7 : Int32) (h_8 : Int32) (a_10 : Nat → Int32) (n17 : Nat) (a_9 : Nat → Int32) (x1_11 : Int32), f_X9_read_L17w m_book m_refused h_4 h_5 h_6 h_7 h_8 a_10 n17 a_9 x1_11 = some y → cx_S p l e (cx_rm 5) s m args below meth c A D 3 0 0 Q 17 [(0, .ref (m_a 0)), (1, .int x1_11)] [] (wd_Model k m_a m_limbs m_wide m_book m_images m_kept a_9 m_refused m_quiet m_text m_typed h_4 h_5 h_6 h_7 a_10 h_8 m_is m_likes m_without m_onePicture m_oneYear m_first m_second m_names) := by
    intro h_4 h_5 h_6 h_7 h_8 a_10 n17
    induction n17 with
    | zero =>
      intro a_9 x1_11 hf
      exact absurd (show (none : Option (Int32 × Int32 × Int32 × Int32 × Int32 × Int32 × Int32 × (Nat → Int32) × (Nat → Int32) × (Nat → Int32) × (Nat → Int32))) = some y from hf) (fun h => by cases h)
    | succ n17 ih17 =>
      intro a_9 x1_11 hf
      have hf : f_X9_read_L17 m_book m_refused h_4 h_5 h_6 h_7 h_8 a_10 (f_X9_read_L17w m_book m_refused h_4 h_5 h_6 h_7 h_8 a_10 n17) a_9 x1_11 = some y := hf
      unfold f_X9_read_L17 at hf
      refine cx_iload_n C dX9_read_17 1 rfl ?_
      refine cx_sipush (v := 140) C dX9_read_18 (by decide) ?_
      refine cx_icmp_ge (tgt := 42) C dX9_read_21 (by decide) (fun c12 => ?_) (fun c12 => ?_)
      · have hf := cx_if_t hf c12
        clear c12
        refine cx_iconst (v := 0) C dX9_read_42 (by decide) ?_
        refine cx_istore_n (lv' := [(1, .int 0), (0, .ref (m_a 0))]) C dX9_read_43 rfl (by decide) rfl ?_
        refine cx_lv [1, 0] rfl ?_
        exact L44 h_4 h_5 h_6 h_7 h_8 a_9 a_10 cx_N0 m_book 0 hf
      · have hf := cx_if_f hf c12
        clear c12
        refine cx_aload_n C dX9_read_24 0 rfl ?_
        refine cx_get (v := .ref (m_a 6)) (ci := 8) C iX9 dX9_read_25 0 rfl rfl 5 (by decide) hw_1059 rfl ?_
        refine cx_iload_n C dX9_read_28 1 rfl ?_
        refine cx_aload_n C dX9_read_29 0 rfl ?_
        refine cx_get (v := .ref (m_a 3)) (ci := 8) C iX9 dX9_read_30 0 rfl rfl 2 (by decide) hw_1056 rfl ?_
        refine cx_iload_n C dX9_read_33 1 rfl ?_
        obtain ⟨g69, hf⟩ := cx_gd_at hf
        refine cx_iald C dX9_read_34 3 rfl (cx_ib_in g69) ?_
        clear g69
        obtain ⟨g70, hf⟩ := cx_gd_at hf
        obtain ⟨a71, ea71⟩ : ∃ z, z = upd a_9 (cx_ix x1_11) (m_book (cx_ix x1_11)) := ⟨_, rfl⟩
        have hf := cx_let_at hf ea71
        refine cx_iast (ws' := (wd_Model k m_a m_limbs m_wide m_book m_images m_kept a71 m_refused m_quiet m_text m_typed h_4 h_5 h_6 h_7 a_10 h_8 m_is m_likes m_without m_onePicture m_oneYear m_first m_second m_names)) C dX9_read_35 6 rfl (cx_ib_in g70) (by rw [ea71]; rfl) ?_
        clear ea71 g70
        refine cx_iinc (v := x1_11 + 1) (lv' := [(1, .int (x1_11 + 1)), (0, .ref (m_a 0))]) C dX9_read_36 1 rfl rfl (by decide) rfl ?_
        refine cx_goto (tgt := 17) C dX9_read_39 (by decide) ?_
        refine cx_lv [1, 0] rfl ?_
        exact ih17 a71 (x1_11 + 1) hf
  unfold f_X9_read at hf
  refine cx_aload_n C dX9_read_0 0 rfl ?_
  obtain ⟨u1, e2, hf⟩ := cx_bd_at hf
  refine cx_Fvi (q := (RX9, TX9, 24)) (As := []) (rest := []) (w1 := (wd_Model k m_a m_limbs m_wide m_book m_images m_kept m_before m_refused m_quiet m_text m_typed u1.2.1 u1.2.2.1 u1.2.2.2.1 u1.2.2.2.2.1 u1.2.2.2.2.2.2 u1.2.2.2.2.2.1 m_is m_likes m_without m_onePicture m_oneYear m_first m_second m_names)) hA C me_X9_reads hw_1240 (c_X9_reads l D k m_a m_limbs m_wide m_book m_images m_kept m_before m_refused m_quiet m_text m_typed m_at m_start m_token m_value m_items m_many m_is m_likes m_without m_onePicture m_oneYear m_first m_second m_names u1 e2) dX9_read_1 ⟨Nat.le_of_ble_eq_true rfl, Nat.le_of_ble_eq_true rfl⟩ ⟨Nat.zero_le _, Nat.zero_le _⟩ rfl rfl (Nat.le_of_ble_eq_true rfl) rfl rfl rfl ?_
  clear e2
  refine cx_if_ne (tgt := 15) C dX9_read_4 (by decide) (fun c3 => ?_) (fun c3 => ?_)
  · have hf := cx_if_f hf c3
    clear c3
    refine cx_iconst (v := 0) C dX9_read_15 (by decide) ?_
    refine cx_istore_n (lv' := [(1, .int 0), (0, .ref (m_a 0))]) C dX9_read_16 rfl (by decide) rfl ?_
    refine cx_lv [1, 0] rfl ?_
    exact L17 u1.2.1 u1.2.2.1 u1.2.2.2.1 u1.2.2.2.2.1 u1.2.2.2.2.2.1 u1.2.2.2.2.2.2 cx_N0 m_before 0 hf
  · have hf := cx_if_t hf c3
    clear c3
    refine cx_bipush (v := (-10)) C dX9_read_7 (by decide) ?_
    refine cx_aload_n C dX9_read_9 0 rfl ?_
    refine cx_get (v := .int u1.2.2.1) (ci := 8) C iX9 dX9_read_10 0 rfl rfl 11 (by decide) hw_1065 rfl ?_
    refine cx_isub C dX9_read_13 ?_
    obtain rfl := Option.some.inj hf
    exact cx_iret C hA hQ hr hlk dX9_read_14 rfl rfl
