theorem dX9_in_0 : decode cX9_in 0 = .ok (.lload_n 0, 1) := by decide +kernel
theorem dX9_in_1 : decode cX9_in 1 = .ok (.lload_n 2, 1) := by decide +kernel
theorem dX9_in_2 : decode cX9_in 2 = .ok (.lcmp, 1) := by decide +kernel
theorem dX9_in_3 : decode cX9_in 3 = .ok (.ifCond .lt 14, 3) := by decide +kernel
theorem dX9_in_6 : decode cX9_in 6 = .ok (.lload_n 0, 1) := by decide +kernel
theorem dX9_in_7 : decode cX9_in 7 = .ok (.lload 4, 2) := by decide +kernel
theorem dX9_in_9 : decode cX9_in 9 = .ok (.lcmp, 1) := by decide +kernel
theorem dX9_in_10 : decode cX9_in 10 = .ok (.ifCond .gt 7, 3) := by decide +kernel
theorem dX9_in_13 : decode cX9_in 13 = .ok (.iconst 1, 1) := by decide +kernel
theorem dX9_in_14 : decode cX9_in 14 = .ok (.goto 4, 3) := by decide +kernel
theorem dX9_in_17 : decode cX9_in 17 = .ok (.iconst 0, 1) := by decide +kernel
theorem dX9_in_18 : decode cX9_in 18 = .ok (.ireturn, 1) := by decide +kernel
theorem me_X9_in : cx_Ms yX9_in cX9_in 6 (some .boolean) 3 := ⟨⟨⟨by decide +kernel, by decide +kernel, by decide +kernel⟩, hw_11, hw_1134⟩, hw_1133⟩
noncomputable def f_X9_in (p0 : Int64) (p2 : Int64) (p4 : Int64) : Option Int32 := if (lg_cmp p0 p2) < 0 then (some 0) else (if 0 < (lg_cmp p0 p4) then (some 0) else (some 1))
set_option maxHeartbeats 4000000 in
set_option maxRecDepth 100000 in
theorem c_X9_in (l : Launch) (D : va_G) (k : Nat → ClassId) (p0 : Int64) (p2 : Int64) (p4 : Int64) (y : Int32) (hf : f_X9_in p0 p2 p4 = some y) : cx_M l yX9_in cX9_in 6 (some .boolean) 1 D k [.long p0, .long p2, .long p4] ([] : va_W) (fun sz => cx_Qi D y ([] : va_W) ([] : va_W) sz) := by
  refine cx_met (own := "NamelessBoxModel") (by decide) rfl (Nat.le_of_ble_eq_true rfl) ?_
  intro p e s m args below meth c A Q C hA hQ hr hlk
  refine cx_lv (lv' := [(0, .long p0), (2, .long p2), (4, .long p4)]) [0, 1, 2] rfl ?_
  unfold f_X9_in at hf
  refine cx_lload_n C dX9_in_0 0 rfl ?_
  refine cx_lload_n C dX9_in_1 1 rfl ?_
  refine cx_lcmp C dX9_in_2 ?_
  refine cx_if_lt (tgt := 17) C dX9_in_3 (by decide) (fun c1 => ?_) (fun c1 => ?_)
  · have hf := cx_if_t hf c1
    clear c1
    refine cx_iconst (v := 0) C dX9_in_17 (by decide) ?_
    obtain rfl := Option.some.inj hf
    exact cx_zret C hA hQ hr hlk dX9_in_18 rfl rfl rfl
  · have hf := cx_if_f hf c1
    clear c1
    refine cx_lload_n C dX9_in_6 0 rfl ?_
    refine cx_lload C dX9_in_7 2 rfl ?_
    refine cx_lcmp C dX9_in_9 ?_
    refine cx_if_gt (tgt := 17) C dX9_in_10 (by decide) (fun c2 => ?_) (fun c2 => ?_)
    · have hf := cx_if_t hf c2
      clear c2
      refine cx_iconst (v := 0) C dX9_in_17 (by decide) ?_
      obtain rfl := Option.some.inj hf
      exact cx_zret C hA hQ hr hlk dX9_in_18 rfl rfl rfl
    · have hf := cx_if_f hf c2
      clear c2
      refine cx_iconst (v := 1) C dX9_in_13 (by decide) ?_
      refine cx_goto (tgt := 18) C dX9_in_14 (by decide) ?_
      obtain rfl := Option.some.inj hf
      exact cx_zret C hA hQ hr hlk dX9_in_18 rfl rfl rfl
theorem dX9_trims_0 : decode cX9_trims 0 = .ok (.aload_n 0, 1) := by decide +kernel
theorem dX9_trims_1 : decode cX9_trims 1 = .ok (.getfield 3, 3) := by decide +kernel
theorem dX9_trims_4 : decode cX9_trims 4 = .ok (.iload_n 1, 1) := by decide +kernel
theorem dX9_trims_5 : decode cX9_trims 5 = .ok (.iaload, 1) := by decide +kernel
theorem dX9_trims_6 : decode cX9_trims 6 = .ok (.ifCond .le 37, 3) := by decide +kernel
theorem dX9_trims_9 : decode cX9_trims 9 = .ok (.aload_n 0, 1) := by decide +kernel
theorem dX9_trims_10 : decode cX9_trims 10 = .ok (.getfield 7, 3) := by decide +kernel
theorem dX9_trims_13 : decode cX9_trims 13 = .ok (.bipush 16, 2) := by decide +kernel
theorem dX9_trims_15 : decode cX9_trims 15 = .ok (.iload_n 1, 1) := by decide +kernel
theorem dX9_trims_16 : decode cX9_trims 16 = .ok (.imul, 1) := by decide +kernel
theorem dX9_trims_17 : decode cX9_trims 17 = .ok (.aload_n 0, 1) := by decide +kernel
theorem dX9_trims_18 : decode cX9_trims 18 = .ok (.getfield 3, 3) := by decide +kernel
theorem dX9_trims_21 : decode cX9_trims 21 = .ok (.iload_n 1, 1) := by decide +kernel
theorem dX9_trims_22 : decode cX9_trims 22 = .ok (.iaload, 1) := by decide +kernel
theorem dX9_trims_23 : decode cX9_trims 23 = .ok (.iadd, 1) := by decide +kernel
theorem dX9_trims_24 : decode cX9_trims 24 = .ok (.iconst 1, 1) := by decide +kernel
theorem dX9_trims_25 : decode cX9_trims 25 = .ok (.isub, 1) := by decide +kernel
theorem dX9_trims_26 : decode cX9_trims 26 = .ok (.iaload, 1) := by decide +kernel
theorem dX9_trims_27 : decode cX9_trims 27 = .ok (.ifCond .ne 16, 3) := by decide +kernel
theorem dX9_trims_30 : decode cX9_trims 30 = .ok (.aload_n 0, 1) := by decide +kernel
theorem dX9_trims_31 : decode cX9_trims 31 = .ok (.getfield 3, 3) := by decide +kernel
theorem dX9_trims_34 : decode cX9_trims 34 = .ok (.iload_n 1, 1) := by decide +kernel
theorem dX9_trims_35 : decode cX9_trims 35 = .ok (.dup2, 1) := by decide +kernel
theorem dX9_trims_36 : decode cX9_trims 36 = .ok (.iaload, 1) := by decide +kernel
theorem dX9_trims_37 : decode cX9_trims 37 = .ok (.iconst 1, 1) := by decide +kernel
theorem dX9_trims_38 : decode cX9_trims 38 = .ok (.isub, 1) := by decide +kernel
theorem dX9_trims_39 : decode cX9_trims 39 = .ok (.iastore, 1) := by decide +kernel
theorem dX9_trims_40 : decode cX9_trims 40 = .ok (.goto (-40), 3) := by decide +kernel
theorem dX9_trims_43 : decode cX9_trims 43 = .ok (.return_, 1) := by decide +kernel
theorem me_X9_trims : cx_Mv yX9_trims cX9_trims 2 none 1 := ⟨⟨⟨by decide +kernel, by decide +kernel, by decide +kernel⟩, hw_11, hw_1053⟩, hw_1052, hs_38⟩
noncomputable def f_X9_trims_L0 (m_limbs : Nat → Int32) (p1 : Int32) (rc0 : (Nat → Int32) → Option (Nat → Int32)) (a_1 : Nat → Int32) : Option (Nat → Int32) := cx_gd (cx_ib p1 270) (if (a_1 (cx_ix p1)) ≤ 0 then (some a_1) else (cx_gd (cx_ib p1 270) (cx_gd (cx_ib (((16 * p1) + (a_1 (cx_ix p1))) - 1) 4320) (if (m_limbs (cx_ix (((16 * p1) + (a_1 (cx_ix p1))) - 1))) = 0 then (cx_gd (cx_ib p1 270) (cx_gd (cx_ib p1 270) (cx_let (upd a_1 (cx_ix p1) ((a_1 (cx_ix p1)) - 1)) (fun a9 => rc0 a9)))) else (some a_1)))))
noncomputable def f_X9_trims_L0w (m_limbs : Nat → Int32) (p1 : Int32) (n : Nat) : (Nat → Int32) → Option (Nat → Int32) := Nat.rec (fun _ => none) (fun _ r => f_X9_trims_L0 m_limbs p1 r) n
noncomputable def f_X9_trims (m_limbs : Nat → Int32) (m_wide : Nat → Int32) (p1 : Int32) : Option (Nat → Int32) := f_X9_trims_L0w m_limbs p1 cx_N0 m_wide
set_option maxHeartbeats 4000000 in
set_option maxRecDepth 100000 in
theorem c_X9_trims (l : Launch) (D : va_G) (k : Nat → ClassId) (m_a : Nat → Nat) (m_limbs : Nat → Int32) (m_wide : Nat → Int32) (m_book : Nat → Int32) (m_images : Nat → Int32) (m_kept : Nat → Int32) (m_before : Nat → Int32) (m_refused : Nat → Int32) (m_quiet : Int32) (m_text : Nat → Int32) (m_typed : Int32) (m_at : Int32) (m_start : Int32) (m_token : Int32) (m_value : Int32) (m_items : Nat → Int32) (m_many : Int32) (m_is : Nat → Int32) (m_likes : Nat → Int32) (m_without : Int32) (m_onePicture : Int32) (m_oneYear : Int32) (m_first : Int32) (m_second : Int32) (m_names : Nat → Int32) (p1 : Int32) (y : Nat → Int32) (hf : f_X9_trims m_limbs m_wide p1 = some y) : cx_M l yX9_trims cX9_trims 2 none 1 D k [.ref (m_a 0), .int p1] (wd_Model k m_a m_limbs m_wide m_book m_images m_kept m_before m_refused m_quiet m_text m_typed m_at m_start m_token m_value m_items m_many m_is m_likes m_without m_onePicture m_oneYear m_first m_second m_names) (fun sz => cx_Qv D (wd_Model k m_a m_limbs m_wide m_book m_images m_kept m_before m_refused m_quiet m_text m_typed m_at m_start m_token m_value m_items m_many m_is m_likes m_without m_onePicture m_oneYear m_first m_second m_names) (wd_Model k m_a m_limbs y m_book m_images m_kept m_before m_refused m_quiet m_text m_typed m_at m_start m_token m_value m_items m_many m_is m_likes m_without m_onePicture m_oneYear m_first m_second m_names) sz) := by
  refine cx_met (own := "NamelessBoxModel") (by decide) rfl (Nat.le_of_ble_eq_true rfl) ?_
  intro p e s m args below meth c A Q C hA hQ hr hlk
  refine cx_lv (lv' := [(0, .ref (m_a 0)), (1, .int p1)]) [0, 1] rfl ?_
  have L0 : ∀ (n0 : Nat) (a_1 : Nat → Int32), f_X9_trims_L0w m_limbs p1 n0 a_1 = some y → cx_S p l e (cx_rm 1) s m args below meth c A D 2 0 0 Q 0 [(0, .ref (m_a 0)), (1, .int p1)] [] (wd_Model k m_a m_limbs a_1 m_book m_images m_kept m_before m_refused m_quiet m_text m_typed m_at m_start m_token m_value m_items m_many m_is m_likes m_without m_onePicture m_oneYear m_first m_second m_names) := by
    intro  n0
    induction n0 with
    | zero =>
      intro a_1 hf
      exact absurd (show (none : Option (Nat → Int32)) = some y from hf) (fun h => by cases h)
    | succ n0 ih0 =>
      intro a_1 hf
      have hf : f_X9_trims_L0 m_limbs p1 (f_X9_trims_L0w m_limbs p1 n0) a_1 = some y := hf
      unfold f_X9_trims_L0 at hf
      refine cx_aload_n C dX9_trims_0 0 rfl ?_
      refine cx_get (v := .ref (m_a 2)) (ci := 8) C iX9 dX9_trims_1 0 rfl rfl 1 (by decide) hw_1055 rfl ?_
      refine cx_iload_n C dX9_trims_4 1 rfl ?_
      obtain ⟨g2, hf⟩ := cx_gd_at hf
      refine cx_iald C dX9_trims_5 2 rfl (cx_ib_in g2) ?_
      clear g2
      refine cx_if_le (tgt := 43) C dX9_trims_6 (by decide) (fun c3 => ?_) (fun c3 => ?_)
      · have hf := cx_if_t hf c3
        clear c3
        obtain rfl := Option.some.inj hf
        exact cx_vret C hA hQ hr hlk dX9_trims_43 rfl
      · have hf := cx_if_f hf c3
        clear c3
        refine cx_aload_n C dX9_trims_9 0 rfl ?_
        refine cx_get (v := .ref (m_a 1)) (ci := 8) C iX9 dX9_trims_10 0 rfl rfl 0 (by decide) hw_1054 rfl ?_
        refine cx_bipush (v := 16) C dX9_trims_13 (by decide) ?_
        refine cx_iload_n C dX9_trims_15 1 rfl ?_
        refine cx_imul C dX9_trims_16 ?_
        refine cx_aload_n C dX9_trims_17 0 rfl ?_
        refine cx_get (v := .ref (m_a 2)) (ci := 8) C iX9 dX9_trims_18 0 rfl rfl 1 (by decide) hw_1055 rfl ?_
        refine cx_iload_n C dX9_trims_21 1 rfl ?_
        obtain ⟨g4, hf⟩ := cx_gd_at hf
        refine cx_iald C dX9_trims_22 2 rfl (cx_ib_in g4) ?_
        clear g4
        refine cx_iadd C dX9_trims_23 ?_
        refine cx_iconst (v := 1) C dX9_trims_24 (by decide) ?_
        refine cx_isub C dX9_trims_25 ?_
        obtain ⟨g5, hf⟩ := cx_gd_at hf
        refine cx_iald C dX9_trims_26 1 rfl (cx_ib_in g5) ?_
        clear g5
        refine cx_if_ne (tgt := 43) C dX9_trims_27 (by decide) (fun c6 => ?_) (fun c6 => ?_)
        · have hf := cx_if_f hf c6
          clear c6
          obtain rfl := Option.some.inj hf
          exact cx_vret C hA hQ hr hlk dX9_trims_43 rfl
        · have hf := cx_if_t hf c6
          clear c6
          refine cx_aload_n C dX9_trims_30 0 rfl ?_
          refine cx_get (v := .ref (m_a 2)) (ci := 8) C iX9 dX9_trims_31 0 rfl rfl 1 (by decide) hw_1055 rfl ?_
          refine cx_iload_n C dX9_trims_34 1 rfl ?_
          refine cx_dup2_11 C dX9_trims_35 rfl rfl ?_
          obtain ⟨g7, hf⟩ := cx_gd_at hf
          refine cx_iald C dX9_trims_36 2 rfl (cx_ib_in g7) ?_
          clear g7
          refine cx_iconst (v := 1) C dX9_trims_37 (by decide) ?_
          refine cx_isub C dX9_trims_38 ?_
          obtain ⟨g8, hf⟩ := cx_gd_at hf
          obtain ⟨a9, ea9⟩ : ∃ z, z = upd a_1 (cx_ix p1) ((a_1 (cx_ix p1)) - 1) := ⟨_, rfl⟩
          have hf := cx_let_at hf ea9
          refine cx_iast (ws' := (wd_Model k m_a m_limbs a9 m_book m_images m_kept m_before m_refused m_quiet m_text m_typed m_at m_start m_token m_value m_items m_many m_is m_likes m_without m_onePicture m_oneYear m_first m_second m_names)) C dX9_trims_39 2 rfl (cx_ib_in g8) (by rw [ea9]; rfl) ?_
          clear ea9 g8
          refine cx_goto (tgt := 0) C dX9_trims_40 (by decide) ?_
          exact ih0 a9 hf
  unfold f_X9_trims at hf
  exact L0 cx_N0 m_wide hf
theorem dX9_sets_0 : decode cX9_sets 0 = .ok (.iconst 0, 1) := by decide +kernel
theorem dX9_sets_1 : decode cX9_sets 1 = .ok (.istore 4, 2) := by decide +kernel
theorem dX9_sets_3 : decode cX9_sets 3 = .ok (.iload 4, 2) := by decide +kernel
theorem dX9_sets_5 : decode cX9_sets 5 = .ok (.bipush 16, 2) := by decide +kernel
theorem dX9_sets_7 : decode cX9_sets 7 = .ok (.if_icmp .ge 43, 3) := by decide +kernel
theorem dX9_sets_10 : decode cX9_sets 10 = .ok (.aload_n 0, 1) := by decide +kernel
theorem dX9_sets_11 : decode cX9_sets 11 = .ok (.getfield 7, 3) := by decide +kernel
theorem dX9_sets_14 : decode cX9_sets 14 = .ok (.bipush 16, 2) := by decide +kernel
theorem dX9_sets_16 : decode cX9_sets 16 = .ok (.iload_n 1, 1) := by decide +kernel
theorem dX9_sets_17 : decode cX9_sets 17 = .ok (.imul, 1) := by decide +kernel
theorem dX9_sets_18 : decode cX9_sets 18 = .ok (.iload 4, 2) := by decide +kernel
theorem dX9_sets_20 : decode cX9_sets 20 = .ok (.iadd, 1) := by decide +kernel
theorem dX9_sets_21 : decode cX9_sets 21 = .ok (.iload 4, 2) := by decide +kernel
theorem dX9_sets_23 : decode cX9_sets 23 = .ok (.iconst 3, 1) := by decide +kernel
theorem dX9_sets_24 : decode cX9_sets 24 = .ok (.if_icmp .ge 18, 3) := by decide +kernel
theorem dX9_sets_27 : decode cX9_sets 27 = .ok (.lload_n 2, 1) := by decide +kernel
theorem dX9_sets_28 : decode cX9_sets 28 = .ok (.bipush 30, 2) := by decide +kernel
theorem dX9_sets_30 : decode cX9_sets 30 = .ok (.iload 4, 2) := by decide +kernel
theorem dX9_sets_32 : decode cX9_sets 32 = .ok (.imul, 1) := by decide +kernel
theorem dX9_sets_33 : decode cX9_sets 33 = .ok (.lshr, 1) := by decide +kernel
theorem dX9_sets_34 : decode cX9_sets 34 = .ok (.ldc2_w 10, 3) := by decide +kernel
theorem dX9_sets_37 : decode cX9_sets 37 = .ok (.land, 1) := by decide +kernel
theorem dX9_sets_38 : decode cX9_sets 38 = .ok (.l2i, 1) := by decide +kernel
theorem dX9_sets_39 : decode cX9_sets 39 = .ok (.goto 4, 3) := by decide +kernel
theorem dX9_sets_42 : decode cX9_sets 42 = .ok (.iconst 0, 1) := by decide +kernel
theorem dX9_sets_43 : decode cX9_sets 43 = .ok (.iastore, 1) := by decide +kernel
theorem dX9_sets_44 : decode cX9_sets 44 = .ok (.iinc 4 1, 3) := by decide +kernel
theorem dX9_sets_47 : decode cX9_sets 47 = .ok (.goto (-44), 3) := by decide +kernel
theorem dX9_sets_50 : decode cX9_sets 50 = .ok (.aload_n 0, 1) := by decide +kernel
theorem dX9_sets_51 : decode cX9_sets 51 = .ok (.getfield 3, 3) := by decide +kernel
theorem dX9_sets_54 : decode cX9_sets 54 = .ok (.iload_n 1, 1) := by decide +kernel
theorem dX9_sets_55 : decode cX9_sets 55 = .ok (.iconst 3, 1) := by decide +kernel
theorem dX9_sets_56 : decode cX9_sets 56 = .ok (.iastore, 1) := by decide +kernel
theorem dX9_sets_57 : decode cX9_sets 57 = .ok (.aload_n 0, 1) := by decide +kernel
theorem dX9_sets_58 : decode cX9_sets 58 = .ok (.iload_n 1, 1) := by decide +kernel
theorem dX9_sets_59 : decode cX9_sets 59 = .ok (.invokevirtual 12, 3) := by decide +kernel
theorem dX9_sets_62 : decode cX9_sets 62 = .ok (.return_, 1) := by decide +kernel
theorem me_X9_sets : cx_Mv yX9_sets cX9_sets 5 none 2 := ⟨⟨⟨by decide +kernel, by decide +kernel, by decide +kernel⟩, hw_11, hw_1048⟩, hw_1047, hs_37⟩
noncomputable def f_X9_sets_J43 (a_1 : Nat → Int32) (x4_2 : Int32) (rc3 : (Nat → Int32) → Int32 → Option ((Nat → Int32) × (Nat → Int32))) (s1_9 : Int32) (s2_10 : Int32) : Option ((Nat → Int32) × (Nat → Int32)) := cx_gd (cx_ib s1_9 4320) (cx_let (upd a_1 (cx_ix s1_9) s2_10) (fun a12 => rc3 a12 (x4_2 + 1)))
noncomputable def f_X9_sets_L3 (m_wide : Nat → Int32) (p1 : Int32) (p2 : Int64) (rc3 : (Nat → Int32) → Int32 → Option ((Nat → Int32) × (Nat → Int32))) (a_1 : Nat → Int32) (x4_2 : Int32) : Option ((Nat → Int32) × (Nat → Int32)) := if 16 ≤ x4_2 then (cx_gd (cx_ib p1 270) (cx_let (upd m_wide (cx_ix p1) 3) (fun a5 => Option.bind (f_X9_trims a_1 a5 p1) (fun u6 => some ((a_1, u6)))))) else (if 3 ≤ x4_2 then (f_X9_sets_J43 a_1 x4_2 rc3 ((16 * p1) + x4_2) 0) else (f_X9_sets_J43 a_1 x4_2 rc3 ((16 * p1) + x4_2) (Int64.toInt32 ((p2 >>> (Int32.toInt64 (30 * x4_2) &&& 63)) &&& 1073741823))))
noncomputable def f_X9_sets_L3w (m_wide : Nat → Int32) (p1 : Int32) (p2 : Int64) (n : Nat) : (Nat → Int32) → Int32 → Option ((Nat → Int32) × (Nat → Int32)) := Nat.rec (fun _ _ => none) (fun _ r => f_X9_sets_L3 m_wide p1 p2 r) n
noncomputable def f_X9_sets (m_limbs : Nat → Int32) (m_wide : Nat → Int32) (p1 : Int32) (p2 : Int64) : Option ((Nat → Int32) × (Nat → Int32)) := f_X9_sets_L3w m_wide p1 p2 cx_N0 m_limbs 0
set_option maxHeartbeats 4000000 in
set_option maxRecDepth 100000 in
theorem c_X9_sets (l : Launch) (D : va_G) (k : Nat → ClassId) (m_a : Nat → Nat) (m_limbs : Nat → Int32) (m_wide : Nat → Int32) (m_book : Nat → Int32) (m_images : Nat → Int32) (m_kept : Nat → Int32) (m_before : Nat → Int32) (m_refused : Nat → Int32) (m_quiet : Int32) (m_text : Nat → Int32) (m_typed : Int32) (m_at : Int32) (m_start : Int32) (m_token : Int32) (m_value : Int32) (m_items : Nat → Int32) (m_many : Int32) (m_is : Nat → Int32) (m_likes : Nat → Int32) (m_without : Int32) (m_onePicture : Int32) (m_oneYear : Int32) (m_first : Int32) (m_second : Int32) (m_names : Nat → Int32) (p1 : Int32) (p2 : Int64) (y : (Nat → Int32) × (Nat → Int32)) (hf : f_X9_sets m_limbs m_wide p1 p2 = some y) : cx_M l yX9_sets cX9_sets 5 none 2 D k [.ref (m_a 0), .int p1, .long p2] (wd_Model k m_a m_limbs m_wide m_book m_images m_kept m_before m_refused m_quiet m_text m_typed m_at m_start m_token m_value m_items m_many m_is m_likes m_without m_onePicture m_oneYear m_first m_second m_names) (fun sz => cx_Qv D (wd_Model k m_a m_limbs m_wide m_book m_images m_kept m_before m_refused m_quiet m_text m_typed m_at m_start m_token m_value m_items m_many m_is m_likes m_without m_onePicture m_oneYear m_first m_second m_names) (wd_Model k m_a y.1 y.2 m_book m_images m_kept m_before m_refused m_quiet m_text m_typed m_at m_start m_token m_value m_items m_many m_is m_likes m_without m_onePicture m_oneYear m_first m_second m_names) sz) := by
  refine cx_met (own := "NamelessBoxModel") (by decide) rfl (Nat.le_of_ble_eq_true rfl) ?_
  intro p e s m args below meth c A Q C hA hQ hr hlk
  refine cx_lv (lv' := [(0, .ref (m_a 0)), (1, .int p1), (2, .long p2)]) [0, 1, 2] rfl ?_
  have L3 : ∀ (n3 : Nat) (a_1 : Nat → Int32) (x4_2 : Int32), f_X9_sets_L3w m_wide p1 p2 n3 a_1 x4_2 = some y → cx_S p l e (cx_rm 2) s m args below meth c A D 5 0 0 Q 3 [(0, .ref (m_a 0)), (1, .int p1), (2, .long p2), (4, .int x4_2)] [] (wd_Model k m_a a_1 m_wide m_book m_images m_kept m_before m_refused m_quiet m_text m_typed m_at m_start m_token m_value m_items m_many m_is m_likes m_without m_onePicture m_oneYear m_first m_second m_names) := by
    intro  n3
    induction n3 with
    | zero =>
      intro a_1 x4_2 hf
      exact absurd (show (none : Option ((Nat → Int32) × (Nat → Int32))) = some y from hf) (fun h => by cases h)
    | succ n3 ih3 =>
      intro a_1 x4_2 hf
      have hf : f_X9_sets_L3 m_wide p1 p2 (f_X9_sets_L3w m_wide p1 p2 n3) a_1 x4_2 = some y := hf
      have J43 : ∀ (s1_9 : Int32) (s2_10 : Int32), f_X9_sets_J43 a_1 x4_2 (f_X9_sets_L3w m_wide p1 p2 n3) s1_9 s2_10 = some y → cx_S p l e (cx_rm 2) s m args below meth c A D 5 0 0 Q 43 [(0, .ref (m_a 0)), (1, .int p1), (2, .long p2), (4, .int x4_2)] [.int s2_10, .int s1_9, .ref (m_a 1)] (wd_Model k m_a a_1 m_wide m_book m_images m_kept m_before m_refused m_quiet m_text m_typed m_at m_start m_token m_value m_items m_many m_is m_likes m_without m_onePicture m_oneYear m_first m_second m_names) := by
        intro s1_9 s2_10 hf
        unfold f_X9_sets_J43 at hf
        obtain ⟨g11, hf⟩ := cx_gd_at hf
        obtain ⟨a12, ea12⟩ : ∃ z, z = upd a_1 (cx_ix s1_9) s2_10 := ⟨_, rfl⟩
        have hf := cx_let_at hf ea12
        refine cx_iast (ws' := (wd_Model k m_a a12 m_wide m_book m_images m_kept m_before m_refused m_quiet m_text m_typed m_at m_start m_token m_value m_items m_many m_is m_likes m_without m_onePicture m_oneYear m_first m_second m_names)) C dX9_sets_43 1 rfl (cx_ib_in g11) (by rw [ea12]; rfl) ?_
        clear ea12 g11
        refine cx_iinc (v := x4_2 + 1) (lv' := [(4, .int (x4_2 + 1)), (0, .ref (m_a 0)), (1, .int p1), (2, .long p2)]) C dX9_sets_44 3 rfl rfl (by decide) rfl ?_
        refine cx_goto (tgt := 3) C dX9_sets_47 (by decide) ?_
        refine cx_lv [1, 2, 3, 0] rfl ?_
        exact ih3 a12 (x4_2 + 1) hf
      unfold f_X9_sets_L3 at hf
      refine cx_iload C dX9_sets_3 3 rfl ?_
      refine cx_bipush (v := 16) C dX9_sets_5 (by decide) ?_
      refine cx_icmp_ge (tgt := 50) C dX9_sets_7 (by decide) (fun c3 => ?_) (fun c3 => ?_)
      · have hf := cx_if_t hf c3
        clear c3
        refine cx_aload_n C dX9_sets_50 0 rfl ?_
        refine cx_get (v := .ref (m_a 2)) (ci := 8) C iX9 dX9_sets_51 0 rfl rfl 1 (by decide) hw_1055 rfl ?_
        refine cx_iload_n C dX9_sets_54 1 rfl ?_
        refine cx_iconst (v := 3) C dX9_sets_55 (by decide) ?_
        obtain ⟨g4, hf⟩ := cx_gd_at hf
        obtain ⟨a5, ea5⟩ : ∃ z, z = upd m_wide (cx_ix p1) 3 := ⟨_, rfl⟩
        have hf := cx_let_at hf ea5
        refine cx_iast (ws' := (wd_Model k m_a a_1 a5 m_book m_images m_kept m_before m_refused m_quiet m_text m_typed m_at m_start m_token m_value m_items m_many m_is m_likes m_without m_onePicture m_oneYear m_first m_second m_names)) C dX9_sets_56 2 rfl (cx_ib_in g4) (by rw [ea5]; rfl) ?_
        clear ea5 g4
        refine cx_aload_n C dX9_sets_57 0 rfl ?_
        refine cx_iload_n C dX9_sets_58 1 rfl ?_
        obtain ⟨u6, e7, hf⟩ := cx_bd_at hf
        refine cx_Fvv (q := (RX9, TX9, 24)) (As := [.int p1]) (rest := []) (w1 := (wd_Model k m_a a_1 u6 m_book m_images m_kept m_before m_refused m_quiet m_text m_typed m_at m_start m_token m_value m_items m_many m_is m_likes m_without m_onePicture m_oneYear m_first m_second m_names)) hA C me_X9_trims hw_1050 (c_X9_trims l D k m_a a_1 a5 m_book m_images m_kept m_before m_refused m_quiet m_text m_typed m_at m_start m_token m_value m_items m_many m_is m_likes m_without m_onePicture m_oneYear m_first m_second m_names p1 u6 e7) dX9_sets_59 ⟨Nat.le_of_ble_eq_true rfl, Nat.le_of_ble_eq_true rfl⟩ ⟨Nat.zero_le _, Nat.zero_le _⟩ rfl rfl (Nat.le_of_ble_eq_true rfl) rfl rfl rfl ?_
        clear e7
        obtain rfl := Option.some.inj hf
        exact cx_vret C hA hQ hr hlk dX9_sets_62 rfl
      · have hf := cx_if_f hf c3
        clear c3
        refine cx_aload_n C dX9_sets_10 0 rfl ?_
        refine cx_get (v := .ref (m_a 1)) (ci := 8) C iX9 dX9_sets_11 0 rfl rfl 0 (by decide) hw_1054 rfl ?_
        refine cx_bipush (v := 16) C dX9_sets_14 (by decide) ?_
        refine cx_iload_n C dX9_sets_16 1 rfl ?_
        refine cx_imul C dX9_sets_17 ?_
        refine cx_iload C dX9_sets_18 3 rfl ?_
        refine cx_iadd C dX9_sets_20 ?_
        refine cx_iload C dX9_sets_21 3 rfl ?_
        refine cx_iconst (v := 3) C dX9_sets_23 (by decide) ?_
        refine cx_icmp_ge (tgt := 42) C dX9_sets_24 (by decide) (fun c8 => ?_) (fun c8 => ?_)
        · have hf := cx_if_t hf c8
          clear c8
          refine cx_iconst (v := 0) C dX9_sets_42 (by decide) ?_
          exact J43 ((16 * p1) + x4_2) 0 hf
        · have hf := cx_if_f hf c8
          clear c8
          refine cx_lload_n C dX9_sets_27 2 rfl ?_
          refine cx_bipush (v := 30) C dX9_sets_28 (by decide) ?_
          refine cx_iload C dX9_sets_30 3 rfl ?_
          refine cx_imul C dX9_sets_32 ?_
          refine cx_lshr C dX9_sets_33 ?_
          refine cx_ldc2 (v := 1073741823) C dX9_sets_34 hw_1049 ?_
          refine cx_land C dX9_sets_37 ?_
          refine cx_l2i C dX9_sets_38 ?_
          refine cx_goto (tgt := 43) C dX9_sets_39 (by decide) ?_
          exact J43 ((16 * p1) + x4_2) (Int64.toInt32 ((p2 >>> (Int32.toInt64 (30 * x4_2) &&& 63)) &&& 1073741823)) hf
  unfold f_X9_sets at hf
  refine cx_iconst (v := 0) C dX9_sets_0 (by decide) ?_
  refine cx_istore (lv' := [(4, .int 0), (0, .ref (m_a 0)), (1, .int p1), (2, .long p2)]) C dX9_sets_1 (by decide) rfl ?_
  refine cx_lv [1, 2, 3, 0] rfl ?_
  exact L3 cx_N0 m_limbs 0 hf
theorem dX9_takes_0 : decode cX9_takes 0 = .ok (.iconst 0, 1) := by decide +kernel
theorem dX9_takes_1 : decode cX9_takes 1 = .ok (.istore_n 3, 1) := by decide +kernel
theorem dX9_takes_2 : decode cX9_takes 2 = .ok (.iload_n 3, 1) := by decide +kernel
theorem dX9_takes_3 : decode cX9_takes 3 = .ok (.bipush 16, 2) := by decide +kernel
theorem dX9_takes_5 : decode cX9_takes 5 = .ok (.if_icmp .ge 31, 3) := by decide +kernel
theorem dX9_takes_8 : decode cX9_takes 8 = .ok (.aload_n 0, 1) := by decide +kernel
theorem dX9_takes_9 : decode cX9_takes 9 = .ok (.getfield 7, 3) := by decide +kernel
theorem dX9_takes_12 : decode cX9_takes 12 = .ok (.bipush 16, 2) := by decide +kernel
theorem dX9_takes_14 : decode cX9_takes 14 = .ok (.iload_n 1, 1) := by decide +kernel
theorem dX9_takes_15 : decode cX9_takes 15 = .ok (.imul, 1) := by decide +kernel
theorem dX9_takes_16 : decode cX9_takes 16 = .ok (.iload_n 3, 1) := by decide +kernel
theorem dX9_takes_17 : decode cX9_takes 17 = .ok (.iadd, 1) := by decide +kernel
theorem dX9_takes_18 : decode cX9_takes 18 = .ok (.aload_n 0, 1) := by decide +kernel
theorem dX9_takes_19 : decode cX9_takes 19 = .ok (.getfield 7, 3) := by decide +kernel
theorem dX9_takes_22 : decode cX9_takes 22 = .ok (.bipush 16, 2) := by decide +kernel
theorem dX9_takes_24 : decode cX9_takes 24 = .ok (.iload_n 2, 1) := by decide +kernel
theorem dX9_takes_25 : decode cX9_takes 25 = .ok (.imul, 1) := by decide +kernel
theorem dX9_takes_26 : decode cX9_takes 26 = .ok (.iload_n 3, 1) := by decide +kernel
theorem dX9_takes_27 : decode cX9_takes 27 = .ok (.iadd, 1) := by decide +kernel
theorem dX9_takes_28 : decode cX9_takes 28 = .ok (.iaload, 1) := by decide +kernel
theorem dX9_takes_29 : decode cX9_takes 29 = .ok (.iastore, 1) := by decide +kernel
theorem dX9_takes_30 : decode cX9_takes 30 = .ok (.iinc 3 1, 3) := by decide +kernel
theorem dX9_takes_33 : decode cX9_takes 33 = .ok (.goto (-31), 3) := by decide +kernel
theorem dX9_takes_36 : decode cX9_takes 36 = .ok (.aload_n 0, 1) := by decide +kernel
theorem dX9_takes_37 : decode cX9_takes 37 = .ok (.getfield 3, 3) := by decide +kernel
theorem dX9_takes_40 : decode cX9_takes 40 = .ok (.iload_n 1, 1) := by decide +kernel
theorem dX9_takes_41 : decode cX9_takes 41 = .ok (.aload_n 0, 1) := by decide +kernel
theorem dX9_takes_42 : decode cX9_takes 42 = .ok (.getfield 3, 3) := by decide +kernel
theorem dX9_takes_45 : decode cX9_takes 45 = .ok (.iload_n 2, 1) := by decide +kernel
theorem dX9_takes_46 : decode cX9_takes 46 = .ok (.iaload, 1) := by decide +kernel
theorem dX9_takes_47 : decode cX9_takes 47 = .ok (.iastore, 1) := by decide +kernel
theorem dX9_takes_48 : decode cX9_takes 48 = .ok (.return_, 1) := by decide +kernel
theorem me_X9_takes : cx_Mv yX9_takes cX9_takes 4 none 2 := ⟨⟨⟨by decide +kernel, by decide +kernel, by decide +kernel⟩, hw_11, hw_1327⟩, hw_1326, hs_64⟩
noncomputable def f_X9_takes_L2 (m_wide : Nat → Int32) (p1 : Int32) (p2 : Int32) (rc2 : (Nat → Int32) → Int32 → Option ((Nat → Int32) × (Nat → Int32))) (a_1 : Nat → Int32) (x3_2 : Int32) : Option ((Nat → Int32) × (Nat → Int32)) := if 16 ≤ x3_2 then (cx_gd (cx_ib p2 270) (cx_gd (cx_ib p1 270) (cx_let (upd m_wide (cx_ix p1) (m_wide (cx_ix p2))) (fun a6 => some ((a_1, a6)))))) else (cx_gd (cx_ib ((16 * p2) + x3_2) 4320) (cx_gd (cx_ib ((16 * p1) + x3_2) 4320) (cx_let (upd a_1 (cx_ix ((16 * p1) + x3_2)) (a_1 (cx_ix ((16 * p2) + x3_2)))) (fun a9 => rc2 a9 (x3_2 + 1)))))
noncomputable def f_X9_takes_L2w (m_wide : Nat → Int32) (p1 : Int32) (p2 : Int32) (n : Nat) : (Nat → Int32) → Int32 → Option ((Nat → Int32) × (Nat → Int32)) := Nat.rec (fun _ _ => none) (fun _ r => f_X9_takes_L2 m_wide p1 p2 r) n
noncomputable def f_X9_takes (m_limbs : Nat → Int32) (m_wide : Nat → Int32) (p1 : Int32) (p2 : Int32) : Option ((Nat → Int32) × (Nat → Int32)) := f_X9_takes_L2w m_wide p1 p2 cx_N0 m_limbs 0
set_option maxHeartbeats 4000000 in
set_option maxRecDepth 100000 in
theorem c_X9_takes (l : Launch) (D : va_G) (k : Nat → ClassId) (m_a : Nat → Nat) (m_limbs : Nat → Int32) (m_wide : Nat → Int32) (m_book : Nat → Int32) (m_images : Nat → Int32) (m_kept : Nat → Int32) (m_before : Nat → Int32) (m_refused : Nat → Int32) (m_quiet : Int32) (m_text : Nat → Int32) (m_typed : Int32) (m_at : Int32) (m_start : Int32) (m_token : Int32) (m_value : Int32) (m_items : Nat → Int32) (m_many : Int32) (m_is : Nat → Int32) (m_likes : Nat → Int32) (m_without : Int32) (m_onePicture : Int32) (m_oneYear : Int32) (m_first : Int32) (m_second : Int32) (m_names : Nat → Int32) (p1 : Int32) (p2 : Int32) (y : (Nat → Int32) × (Nat → Int32)) (hf : f_X9_takes m_limbs m_wide p1 p2 = some y) : cx_M l yX9_takes cX9_takes 4 none 1 D k [.ref (m_a 0), .int p1, .int p2] (wd_Model k m_a m_limbs m_wide m_book m_images m_kept m_before m_refused m_quiet m_text m_typed m_at m_start m_token m_value m_items m_many m_is m_likes m_without m_onePicture m_oneYear m_first m_second m_names) (fun sz => cx_Qv D (wd_Model k m_a m_limbs m_wide m_book m_images m_kept m_before m_refused m_quiet m_text m_typed m_at m_start m_token m_value m_items m_many m_is m_likes m_without m_onePicture m_oneYear m_first m_second m_names) (wd_Model k m_a y.1 y.2 m_book m_images m_kept m_before m_refused m_quiet m_text m_typed m_at m_start m_token m_value m_items m_many m_is m_likes m_without m_onePicture m_oneYear m_first m_second m_names) sz) := by
  refine cx_met (own := "NamelessBoxModel") (by decide) rfl (Nat.le_of_ble_eq_true rfl) ?_
  intro p e s m args below meth c A Q C hA hQ hr hlk
  refine cx_lv (lv' := [(0, .ref (m_a 0)), (1, .int p1), (2, .int p2)]) [0, 1, 2] rfl ?_
  have L2 : ∀ (n2 : Nat) (a_1 : Nat → Int32) (x3_2 : Int32), f_X9_takes_L2w m_wide p1 p2 n2 a_1 x3_2 = some y → cx_S p l e (cx_rm 1) s m args below meth c A D 4 0 0 Q 2 [(0, .ref (m_a 0)), (1, .int p1), (2, .int p2), (3, .int x3_2)] [] (wd_Model k m_a a_1 m_wide m_book m_images m_kept m_before m_refused m_quiet m_text m_typed m_at m_start m_token m_value m_items m_many m_is m_likes m_without m_onePicture m_oneYear m_first m_second m_names) := by
    intro  n2
    induction n2 with
    | zero =>
      intro a_1 x3_2 hf
      exact absurd (show (none : Option ((Nat → Int32) × (Nat → Int32))) = some y from hf) (fun h => by cases h)
    | succ n2 ih2 =>
      intro a_1 x3_2 hf
      have hf : f_X9_takes_L2 m_wide p1 p2 (f_X9_takes_L2w m_wide p1 p2 n2) a_1 x3_2 = some y := hf
      unfold f_X9_takes_L2 at hf
      refine cx_iload_n C dX9_takes_2 3 rfl ?_
      refine cx_bipush (v := 16) C dX9_takes_3 (by decide) ?_
      refine cx_icmp_ge (tgt := 36) C dX9_takes_5 (by decide) (fun c3 => ?_) (fun c3 => ?_)
      · have hf := cx_if_t hf c3
        clear c3
        refine cx_aload_n C dX9_takes_36 0 rfl ?_
        refine cx_get (v := .ref (m_a 2)) (ci := 8) C iX9 dX9_takes_37 0 rfl rfl 1 (by decide) hw_1055 rfl ?_
        refine cx_iload_n C dX9_takes_40 1 rfl ?_
        refine cx_aload_n C dX9_takes_41 0 rfl ?_
        refine cx_get (v := .ref (m_a 2)) (ci := 8) C iX9 dX9_takes_42 0 rfl rfl 1 (by decide) hw_1055 rfl ?_
        refine cx_iload_n C dX9_takes_45 2 rfl ?_
        obtain ⟨g4, hf⟩ := cx_gd_at hf
        refine cx_iald C dX9_takes_46 2 rfl (cx_ib_in g4) ?_
        clear g4
        obtain ⟨g5, hf⟩ := cx_gd_at hf
        obtain ⟨a6, ea6⟩ : ∃ z, z = upd m_wide (cx_ix p1) (m_wide (cx_ix p2)) := ⟨_, rfl⟩
        have hf := cx_let_at hf ea6
        refine cx_iast (ws' := (wd_Model k m_a a_1 a6 m_book m_images m_kept m_before m_refused m_quiet m_text m_typed m_at m_start m_token m_value m_items m_many m_is m_likes m_without m_onePicture m_oneYear m_first m_second m_names)) C dX9_takes_47 2 rfl (cx_ib_in g5) (by rw [ea6]; rfl) ?_
        clear ea6 g5
        obtain rfl := Option.some.inj hf
        exact cx_vret C hA hQ hr hlk dX9_takes_48 rfl
      · have hf := cx_if_f hf c3
        clear c3
        refine cx_aload_n C dX9_takes_8 0 rfl ?_
        refine cx_get (v := .ref (m_a 1)) (ci := 8) C iX9 dX9_takes_9 0 rfl rfl 0 (by decide) hw_1054 rfl ?_
        refine cx_bipush (v := 16) C dX9_takes_12 (by decide) ?_
        refine cx_iload_n C dX9_takes_14 1 rfl ?_
        refine cx_imul C dX9_takes_15 ?_
        refine cx_iload_n C dX9_takes_16 3 rfl ?_
        refine cx_iadd C dX9_takes_17 ?_
        refine cx_aload_n C dX9_takes_18 0 rfl ?_
        refine cx_get (v := .ref (m_a 1)) (ci := 8) C iX9 dX9_takes_19 0 rfl rfl 0 (by decide) hw_1054 rfl ?_
        refine cx_bipush (v := 16) C dX9_takes_22 (by decide) ?_
        refine cx_iload_n C dX9_takes_24 2 rfl ?_
        refine cx_imul C dX9_takes_25 ?_
        refine cx_iload_n C dX9_takes_26 3 rfl ?_
        refine cx_iadd C dX9_takes_27 ?_
        obtain ⟨g7, hf⟩ := cx_gd_at hf
        refine cx_iald C dX9_takes_28 1 rfl (cx_ib_in g7) ?_
        clear g7
        obtain ⟨g8, hf⟩ := cx_gd_at hf
        obtain ⟨a9, ea9⟩ : ∃ z, z = upd a_1 (cx_ix ((16 * p1) + x3_2)) (a_1 (cx_ix ((16 * p2) + x3_2))) := ⟨_, rfl⟩
        have hf := cx_let_at hf ea9
        refine cx_iast (ws' := (wd_Model k m_a a9 m_wide m_book m_images m_kept m_before m_refused m_quiet m_text m_typed m_at m_start m_token m_value m_items m_many m_is m_likes m_without m_onePicture m_oneYear m_first m_second m_names)) C dX9_takes_29 1 rfl (cx_ib_in g8) (by rw [ea9]; rfl) ?_
        clear ea9 g8
        refine cx_iinc (v := x3_2 + 1) (lv' := [(3, .int (x3_2 + 1)), (0, .ref (m_a 0)), (1, .int p1), (2, .int p2)]) C dX9_takes_30 3 rfl rfl (by decide) rfl ?_
        refine cx_goto (tgt := 2) C dX9_takes_33 (by decide) ?_
        refine cx_lv [1, 2, 3, 0] rfl ?_
        exact ih2 a9 (x3_2 + 1) hf
  unfold f_X9_takes at hf
  refine cx_iconst (v := 0) C dX9_takes_0 (by decide) ?_
  refine cx_istore_n (lv' := [(3, .int 0), (0, .ref (m_a 0)), (1, .int p1), (2, .int p2)]) C dX9_takes_1 rfl (by decide) rfl ?_
  refine cx_lv [1, 2, 3, 0] rfl ?_
  exact L2 cx_N0 m_limbs 0 hf
theorem dX9_times_0 : decode cX9_times 0 = .ok (.lconst 0, 1) := by decide +kernel
theorem dX9_times_1 : decode cX9_times 1 = .ok (.lstore_n 3, 1) := by decide +kernel
theorem dX9_times_2 : decode cX9_times 2 = .ok (.iconst 0, 1) := by decide +kernel
theorem dX9_times_3 : decode cX9_times 3 = .ok (.istore 5, 2) := by decide +kernel
theorem dX9_times_5 : decode cX9_times 5 = .ok (.iload 5, 2) := by decide +kernel
theorem dX9_times_7 : decode cX9_times 7 = .ok (.aload_n 0, 1) := by decide +kernel
theorem dX9_times_8 : decode cX9_times 8 = .ok (.getfield 3, 3) := by decide +kernel
theorem dX9_times_11 : decode cX9_times 11 = .ok (.iload_n 1, 1) := by decide +kernel
theorem dX9_times_12 : decode cX9_times 12 = .ok (.iaload, 1) := by decide +kernel
theorem dX9_times_13 : decode cX9_times 13 = .ok (.if_icmp .ge 54, 3) := by decide +kernel
theorem dX9_times_16 : decode cX9_times 16 = .ok (.aload_n 0, 1) := by decide +kernel
theorem dX9_times_17 : decode cX9_times 17 = .ok (.getfield 7, 3) := by decide +kernel
theorem dX9_times_20 : decode cX9_times 20 = .ok (.bipush 16, 2) := by decide +kernel
theorem dX9_times_22 : decode cX9_times 22 = .ok (.iload_n 1, 1) := by decide +kernel
theorem dX9_times_23 : decode cX9_times 23 = .ok (.imul, 1) := by decide +kernel
theorem dX9_times_24 : decode cX9_times 24 = .ok (.iload 5, 2) := by decide +kernel
theorem dX9_times_26 : decode cX9_times 26 = .ok (.iadd, 1) := by decide +kernel
theorem dX9_times_27 : decode cX9_times 27 = .ok (.iaload, 1) := by decide +kernel
theorem dX9_times_28 : decode cX9_times 28 = .ok (.i2l, 1) := by decide +kernel
theorem dX9_times_29 : decode cX9_times 29 = .ok (.iload_n 2, 1) := by decide +kernel
theorem dX9_times_30 : decode cX9_times 30 = .ok (.i2l, 1) := by decide +kernel
theorem dX9_times_31 : decode cX9_times 31 = .ok (.lmul, 1) := by decide +kernel
theorem dX9_times_32 : decode cX9_times 32 = .ok (.lload_n 3, 1) := by decide +kernel
theorem dX9_times_33 : decode cX9_times 33 = .ok (.ladd, 1) := by decide +kernel
theorem dX9_times_34 : decode cX9_times 34 = .ok (.lstore 6, 2) := by decide +kernel
theorem dX9_times_36 : decode cX9_times 36 = .ok (.aload_n 0, 1) := by decide +kernel
theorem dX9_times_37 : decode cX9_times 37 = .ok (.getfield 7, 3) := by decide +kernel
theorem dX9_times_40 : decode cX9_times 40 = .ok (.bipush 16, 2) := by decide +kernel
theorem dX9_times_42 : decode cX9_times 42 = .ok (.iload_n 1, 1) := by decide +kernel
theorem dX9_times_43 : decode cX9_times 43 = .ok (.imul, 1) := by decide +kernel
theorem dX9_times_44 : decode cX9_times 44 = .ok (.iload 5, 2) := by decide +kernel
theorem dX9_times_46 : decode cX9_times 46 = .ok (.iadd, 1) := by decide +kernel
theorem dX9_times_47 : decode cX9_times 47 = .ok (.lload 6, 2) := by decide +kernel
theorem dX9_times_49 : decode cX9_times 49 = .ok (.ldc2_w 10, 3) := by decide +kernel
theorem dX9_times_52 : decode cX9_times 52 = .ok (.land, 1) := by decide +kernel
theorem dX9_times_53 : decode cX9_times 53 = .ok (.l2i, 1) := by decide +kernel
theorem dX9_times_54 : decode cX9_times 54 = .ok (.iastore, 1) := by decide +kernel
theorem dX9_times_55 : decode cX9_times 55 = .ok (.lload 6, 2) := by decide +kernel
theorem dX9_times_57 : decode cX9_times 57 = .ok (.bipush 30, 2) := by decide +kernel
theorem dX9_times_59 : decode cX9_times 59 = .ok (.lshr, 1) := by decide +kernel
theorem dX9_times_60 : decode cX9_times 60 = .ok (.lstore_n 3, 1) := by decide +kernel
theorem dX9_times_61 : decode cX9_times 61 = .ok (.iinc 5 1, 3) := by decide +kernel
theorem dX9_times_64 : decode cX9_times 64 = .ok (.goto (-59), 3) := by decide +kernel
theorem dX9_times_67 : decode cX9_times 67 = .ok (.lload_n 3, 1) := by decide +kernel
theorem dX9_times_68 : decode cX9_times 68 = .ok (.lconst 0, 1) := by decide +kernel
theorem dX9_times_69 : decode cX9_times 69 = .ok (.lcmp, 1) := by decide +kernel
theorem dX9_times_70 : decode cX9_times 70 = .ok (.ifCond .le 31, 3) := by decide +kernel
theorem dX9_times_73 : decode cX9_times 73 = .ok (.aload_n 0, 1) := by decide +kernel
theorem dX9_times_74 : decode cX9_times 74 = .ok (.getfield 7, 3) := by decide +kernel
theorem dX9_times_77 : decode cX9_times 77 = .ok (.bipush 16, 2) := by decide +kernel
theorem dX9_times_79 : decode cX9_times 79 = .ok (.iload_n 1, 1) := by decide +kernel
theorem dX9_times_80 : decode cX9_times 80 = .ok (.imul, 1) := by decide +kernel
theorem dX9_times_81 : decode cX9_times 81 = .ok (.aload_n 0, 1) := by decide +kernel
theorem dX9_times_82 : decode cX9_times 82 = .ok (.getfield 3, 3) := by decide +kernel
theorem dX9_times_85 : decode cX9_times 85 = .ok (.iload_n 1, 1) := by decide +kernel
theorem dX9_times_86 : decode cX9_times 86 = .ok (.iaload, 1) := by decide +kernel
theorem dX9_times_87 : decode cX9_times 87 = .ok (.iadd, 1) := by decide +kernel
theorem dX9_times_88 : decode cX9_times 88 = .ok (.lload_n 3, 1) := by decide +kernel
theorem dX9_times_89 : decode cX9_times 89 = .ok (.l2i, 1) := by decide +kernel
theorem dX9_times_90 : decode cX9_times 90 = .ok (.iastore, 1) := by decide +kernel
theorem dX9_times_91 : decode cX9_times 91 = .ok (.aload_n 0, 1) := by decide +kernel
theorem dX9_times_92 : decode cX9_times 92 = .ok (.getfield 3, 3) := by decide +kernel
theorem dX9_times_95 : decode cX9_times 95 = .ok (.iload_n 1, 1) := by decide +kernel
theorem dX9_times_96 : decode cX9_times 96 = .ok (.dup2, 1) := by decide +kernel
theorem dX9_times_97 : decode cX9_times 97 = .ok (.iaload, 1) := by decide +kernel
theorem dX9_times_98 : decode cX9_times 98 = .ok (.iconst 1, 1) := by decide +kernel
theorem dX9_times_99 : decode cX9_times 99 = .ok (.iadd, 1) := by decide +kernel
theorem dX9_times_100 : decode cX9_times 100 = .ok (.iastore, 1) := by decide +kernel
theorem dX9_times_101 : decode cX9_times 101 = .ok (.aload_n 0, 1) := by decide +kernel
theorem dX9_times_102 : decode cX9_times 102 = .ok (.iload_n 1, 1) := by decide +kernel
theorem dX9_times_103 : decode cX9_times 103 = .ok (.invokevirtual 12, 3) := by decide +kernel
theorem dX9_times_106 : decode cX9_times 106 = .ok (.return_, 1) := by decide +kernel
theorem me_X9_times : cx_Mv yX9_times cX9_times 8 none 2 := ⟨⟨⟨by decide +kernel, by decide +kernel, by decide +kernel⟩, hw_11, hw_1331⟩, hw_1330, hs_65⟩
noncomputable def f_X9_times_J101 (p1 : Int32) (a_7 : Nat → Int32) (a_8 : Nat → Int32) : Option ((Nat → Int32) × (Nat → Int32)) := Option.bind (f_X9_trims a_7 a_8 p1) (fun u9 => some ((a_7, u9)))
noncomputable def f_X9_times_L5 (m_wide : Nat → Int32) (p1 : Int32) (p2 : Int32) (rc5 : (Nat → Int32) → Int64 → Int32 → Option ((Nat → Int32) × (Nat → Int32))) (a_1 : Nat → Int32) (x3_2 : Int64) (x5_3 : Int32) : Option ((Nat → Int32) × (Nat → Int32)) := cx_gd (cx_ib p1 270) (if (m_wide (cx_ix p1)) ≤ x5_3 then (if (lg_cmp x3_2 0) ≤ 0 then (f_X9_times_J101 p1 a_1 m_wide) else (cx_gd (cx_ib p1 270) (cx_gd (cx_ib ((16 * p1) + (m_wide (cx_ix p1))) 4320) (cx_let (upd a_1 (cx_ix ((16 * p1) + (m_wide (cx_ix p1)))) (Int64.toInt32 x3_2)) (fun a13 => cx_gd (cx_ib p1 270) (cx_gd (cx_ib p1 270) (cx_let (upd m_wide (cx_ix p1) ((m_wide (cx_ix p1)) + 1)) (fun a16 => f_X9_times_J101 p1 a13 a16)))))))) else (cx_gd (cx_ib ((16 * p1) + x5_3) 4320) (cx_let (((Int32.toInt64 (a_1 (cx_ix ((16 * p1) + x5_3)))) * (Int32.toInt64 p2)) + x3_2) (fun v18 => cx_gd (cx_ib ((16 * p1) + x5_3) 4320) (cx_let (upd a_1 (cx_ix ((16 * p1) + x5_3)) (Int64.toInt32 (v18 &&& 1073741823))) (fun a20 => cx_let (v18 >>> (Int32.toInt64 30 &&& 63)) (fun v21 => rc5 a20 v21 (x5_3 + 1))))))))
noncomputable def f_X9_times_L5w (m_wide : Nat → Int32) (p1 : Int32) (p2 : Int32) (n : Nat) : (Nat → Int32) → Int64 → Int32 → Option ((Nat → Int32) × (Nat → Int32)) := Nat.rec (fun _ _ _ => none) (fun _ r => f_X9_times_L5 m_wide p1 p2 r) n
noncomputable def f_X9_times (m_limbs : Nat → Int32) (m_wide : Nat → Int32) (p1 : Int32) (p2 : Int32) : Option ((Nat → Int32) × (Nat → Int32)) := f_X9_times_L5w m_wide p1 p2 cx_N0 m_limbs 0 0
set_option maxHeartbeats 4000000 in
set_option maxRecDepth 100000 in
theorem c_X9_times (l : Launch) (D : va_G) (k : Nat → ClassId) (m_a : Nat → Nat) (m_limbs : Nat → Int32) (m_wide : Nat → Int32) (m_book : Nat → Int32) (m_images : Nat → Int32) (m_kept : Nat → Int32) (m_before : Nat → Int32) (m_refused : Nat → Int32) (m_quiet : Int32) (m_text : Nat → Int32) (m_typed : Int32) (m_at : Int32) (m_start : Int32) (m_token : Int32) (m_value : Int32) (m_items : Nat → Int32) (m_many : Int32) (m_is : Nat → Int32) (m_likes : Nat → Int32) (m_without : Int32) (m_onePicture : Int32) (m_oneYear : Int32) (m_first : Int32) (m_second : Int32) (m_names : Nat → Int32) (p1 : Int32) (p2 : Int32) (y : (Nat → Int32) × (Nat → Int32)) (hf : f_X9_times m_limbs m_wide p1 p2 = some y) : cx_M l yX9_times cX9_times 8 none 2 D k [.ref (m_a 0), .int p1, .int p2] (wd_Model k m_a m_limbs m_wide m_book m_images m_kept m_before m_refused m_quiet m_text m_typed m_at m_start m_token m_value m_items m_many m_is m_likes m_without m_onePicture m_oneYear m_first m_second m_names) (fun sz => cx_Qv D (wd_Model k m_a m_limbs m_wide m_book m_images m_kept m_before m_refused m_quiet m_text m_typed m_at m_start m_token m_value m_items m_many m_is m_likes m_without m_onePicture m_oneYear m_first m_second m_names) (wd_Model k m_a y.1 y.2 m_book m_images m_kept m_before m_refused m_quiet m_text m_typed m_at m_start m_token m_value m_items m_many m_is m_likes m_without m_onePicture m_oneYear m_first m_second m_names) sz) := by
  refine cx_met (own := "NamelessBoxModel") (by decide) rfl (Nat.le_of_ble_eq_true rfl) ?_
  intro p e s m args below meth c A Q C hA hQ hr hlk
  refine cx_lv (lv' := [(0, .ref (m_a 0)), (1, .int p1), (2, .int p2)]) [0, 1, 2] rfl ?_
  have J101 : ∀ (a_7 : Nat → Int32) (a_8 : Nat → Int32), f_X9_times_J101 p1 a_7 a_8 = some y → cx_S p l e (cx_rm 2) s m args below meth c A D 8 0 0 Q 101 [(0, .ref (m_a 0)), (1, .int p1)] [] (wd_Model k m_a a_7 a_8 m_book m_images m_kept m_before m_refused m_quiet m_text m_typed m_at m_start m_token m_value m_items m_many m_is m_likes m_without m_onePicture m_oneYear m_first m_second m_names) := by
    intro a_7 a_8 hf
    unfold f_X9_times_J101 at hf
    refine cx_aload_n C dX9_times_101 0 rfl ?_
    refine cx_iload_n C dX9_times_102 1 rfl ?_
    obtain ⟨u9, e10, hf⟩ := cx_bd_at hf
    refine cx_Fvv (q := (RX9, TX9, 24)) (As := [.int p1]) (rest := []) (w1 := (wd_Model k m_a a_7 u9 m_book m_images m_kept m_before m_refused m_quiet m_text m_typed m_at m_start m_token m_value m_items m_many m_is m_likes m_without m_onePicture m_oneYear m_first m_second m_names)) hA C me_X9_trims hw_1050 (c_X9_trims l D k m_a a_7 a_8 m_book m_images m_kept m_before m_refused m_quiet m_text m_typed m_at m_start m_token m_value m_items m_many m_is m_likes m_without m_onePicture m_oneYear m_first m_second m_names p1 u9 e10) dX9_times_103 ⟨Nat.le_of_ble_eq_true rfl, Nat.le_of_ble_eq_true rfl⟩ ⟨Nat.zero_le _, Nat.zero_le _⟩ rfl rfl (Nat.le_of_ble_eq_true rfl) rfl rfl rfl ?_
    clear e10
    obtain rfl := Option.some.inj hf
    exact cx_vret C hA hQ hr hlk dX9_times_106 rfl
  have L5 : ∀ (n5 : Nat) (a_1 : Nat → Int32) (x3_2 : Int64) (x5_3 : Int32), f_X9_times_L5w m_wide p1 p2 n5 a_1 x3_2 x5_3 = some y → cx_S p l e (cx_rm 2) s m args below meth c A D 8 0 0 Q 5 [(0, .ref (m_a 0)), (1, .int p1), (2, .int p2), (3, .long x3_2), (5, .int x5_3)] [] (wd_Model k m_a a_1 m_wide m_book m_images m_kept m_before m_refused m_quiet m_text m_typed m_at m_start m_token m_value m_items m_many m_is m_likes m_without m_onePicture m_oneYear m_first m_second m_names) := by
    intro  n5
    induction n5 with
    | zero =>
      intro a_1 x3_2 x5_3 hf
      exact absurd (show (none : Option ((Nat → Int32) × (Nat → Int32))) = some y from hf) (fun h => by cases h)
    | succ n5 ih5 =>
      intro a_1 x3_2 x5_3 hf
      have hf : f_X9_times_L5 m_wide p1 p2 (f_X9_times_L5w m_wide p1 p2 n5) a_1 x3_2 x5_3 = some y := hf
      unfold f_X9_times_L5 at hf
      refine cx_iload C dX9_times_5 4 rfl ?_
      refine cx_aload_n C dX9_times_7 0 rfl ?_
      refine cx_get (v := .ref (m_a 2)) (ci := 8) C iX9 dX9_times_8 0 rfl rfl 1 (by decide) hw_1055 rfl ?_
      refine cx_iload_n C dX9_times_11 1 rfl ?_
      obtain ⟨g4, hf⟩ := cx_gd_at hf
      refine cx_iald C dX9_times_12 2 rfl (cx_ib_in g4) ?_
      clear g4
      refine cx_icmp_ge (tgt := 67) C dX9_times_13 (by decide) (fun c5 => ?_) (fun c5 => ?_)
      · have hf := cx_if_t hf c5
        clear c5
        refine cx_lload_n C dX9_times_67 3 rfl ?_
        refine cx_lconst (v := 0) C dX9_times_68 (by decide) ?_
        refine cx_lcmp C dX9_times_69 ?_
        refine cx_if_le (tgt := 101) C dX9_times_70 (by decide) (fun c6 => ?_) (fun c6 => ?_)
        · have hf := cx_if_t hf c6
          clear c6
          refine cx_lv [0, 1] rfl ?_
          exact J101 a_1 m_wide hf
        · have hf := cx_if_f hf c6
          clear c6
          refine cx_aload_n C dX9_times_73 0 rfl ?_
          refine cx_get (v := .ref (m_a 1)) (ci := 8) C iX9 dX9_times_74 0 rfl rfl 0 (by decide) hw_1054 rfl ?_
          refine cx_bipush (v := 16) C dX9_times_77 (by decide) ?_
          refine cx_iload_n C dX9_times_79 1 rfl ?_
          refine cx_imul C dX9_times_80 ?_
          refine cx_aload_n C dX9_times_81 0 rfl ?_
          refine cx_get (v := .ref (m_a 2)) (ci := 8) C iX9 dX9_times_82 0 rfl rfl 1 (by decide) hw_1055 rfl ?_
          refine cx_iload_n C dX9_times_85 1 rfl ?_
          obtain ⟨g11, hf⟩ := cx_gd_at hf
          refine cx_iald C dX9_times_86 2 rfl (cx_ib_in g11) ?_
          clear g11
          refine cx_iadd C dX9_times_87 ?_
          refine cx_lload_n C dX9_times_88 3 rfl ?_
          refine cx_l2i C dX9_times_89 ?_
          obtain ⟨g12, hf⟩ := cx_gd_at hf
          obtain ⟨a13, ea13⟩ : ∃ z, z = upd a_1 (cx_ix ((16 * p1) + (m_wide (cx_ix p1)))) (Int64.toInt32 x3_2) := ⟨_, rfl⟩
          have hf := cx_let_at hf ea13
          refine cx_iast (ws' := (wd_Model k m_a a13 m_wide m_book m_images m_kept m_before m_refused m_quiet m_text m_typed m_at m_start m_token m_value m_items m_many m_is m_likes m_without m_onePicture m_oneYear m_first m_second m_names)) C dX9_times_90 1 rfl (cx_ib_in g12) (by rw [ea13]; rfl) ?_
          clear ea13 g12
          refine cx_aload_n C dX9_times_91 0 rfl ?_
          refine cx_get (v := .ref (m_a 2)) (ci := 8) C iX9 dX9_times_92 0 rfl rfl 1 (by decide) hw_1055 rfl ?_
          refine cx_iload_n C dX9_times_95 1 rfl ?_
          refine cx_dup2_11 C dX9_times_96 rfl rfl ?_
          obtain ⟨g14, hf⟩ := cx_gd_at hf
          refine cx_iald C dX9_times_97 2 rfl (cx_ib_in g14) ?_
          clear g14
          refine cx_iconst (v := 1) C dX9_times_98 (by decide) ?_
          refine cx_iadd C dX9_times_99 ?_
          obtain ⟨g15, hf⟩ := cx_gd_at hf
          obtain ⟨a16, ea16⟩ : ∃ z, z = upd m_wide (cx_ix p1) ((m_wide (cx_ix p1)) + 1) := ⟨_, rfl⟩
          have hf := cx_let_at hf ea16
          refine cx_iast (ws' := (wd_Model k m_a a13 a16 m_book m_images m_kept m_before m_refused m_quiet m_text m_typed m_at m_start m_token m_value m_items m_many m_is m_likes m_without m_onePicture m_oneYear m_first m_second m_names)) C dX9_times_100 2 rfl (cx_ib_in g15) (by rw [ea16]; rfl) ?_
          clear ea16 g15
          refine cx_lv [0, 1] rfl ?_
          exact J101 a13 a16 hf
      · have hf := cx_if_f hf c5
        clear c5
        refine cx_aload_n C dX9_times_16 0 rfl ?_
        refine cx_get (v := .ref (m_a 1)) (ci := 8) C iX9 dX9_times_17 0 rfl rfl 0 (by decide) hw_1054 rfl ?_
        refine cx_bipush (v := 16) C dX9_times_20 (by decide) ?_
        refine cx_iload_n C dX9_times_22 1 rfl ?_
        refine cx_imul C dX9_times_23 ?_
        refine cx_iload C dX9_times_24 4 rfl ?_
        refine cx_iadd C dX9_times_26 ?_
        obtain ⟨g17, hf⟩ := cx_gd_at hf
        refine cx_iald C dX9_times_27 1 rfl (cx_ib_in g17) ?_
        clear g17
        refine cx_i2l C dX9_times_28 ?_
        refine cx_iload_n C dX9_times_29 2 rfl ?_
        refine cx_i2l C dX9_times_30 ?_
        refine cx_lmul C dX9_times_31 ?_
        refine cx_lload_n C dX9_times_32 3 rfl ?_
        refine cx_ladd C dX9_times_33 ?_
        refine cx_topl (fun v18 ev18 => ?_)
        have hf := cx_let_at hf ev18
        clear ev18
        refine cx_lstore (lv' := [(6, .long v18), (0, .ref (m_a 0)), (1, .int p1), (2, .int p2), (3, .long x3_2), (5, .int x5_3)]) C dX9_times_34 (by decide) rfl ?_
        refine cx_aload_n C dX9_times_36 1 rfl ?_
        refine cx_get (v := .ref (m_a 1)) (ci := 8) C iX9 dX9_times_37 0 rfl rfl 0 (by decide) hw_1054 rfl ?_
        refine cx_bipush (v := 16) C dX9_times_40 (by decide) ?_
        refine cx_iload_n C dX9_times_42 2 rfl ?_
        refine cx_imul C dX9_times_43 ?_
        refine cx_iload C dX9_times_44 5 rfl ?_
        refine cx_iadd C dX9_times_46 ?_
        refine cx_lload C dX9_times_47 0 rfl ?_
        refine cx_ldc2 (v := 1073741823) C dX9_times_49 hw_1049 ?_
        refine cx_land C dX9_times_52 ?_
        refine cx_l2i C dX9_times_53 ?_
        obtain ⟨g19, hf⟩ := cx_gd_at hf
        obtain ⟨a20, ea20⟩ : ∃ z, z = upd a_1 (cx_ix ((16 * p1) + x5_3)) (Int64.toInt32 (v18 &&& 1073741823)) := ⟨_, rfl⟩
        have hf := cx_let_at hf ea20
        refine cx_iast (ws' := (wd_Model k m_a a20 m_wide m_book m_images m_kept m_before m_refused m_quiet m_text m_typed m_at m_start m_token m_value m_items m_many m_is m_likes m_without m_onePicture m_oneYear m_first m_second m_names)) C dX9_times_54 1 rfl (cx_ib_in g19) (by rw [ea20]; rfl) ?_
        clear ea20 g19
        refine cx_lload C dX9_times_55 0 rfl ?_
        refine cx_bipush (v := 30) C dX9_times_57 (by decide) ?_
        refine cx_lshr C dX9_times_59 ?_
        refine cx_topl (fun v21 ev21 => ?_)
        have hf := cx_let_at hf ev21
        clear ev21
        refine cx_lstore_n (lv' := [(3, .long v21), (6, .long v18), (0, .ref (m_a 0)), (1, .int p1), (2, .int p2), (5, .int x5_3)]) C dX9_times_60 rfl (by decide) rfl ?_
        refine cx_iinc (v := x5_3 + 1) (lv' := [(5, .int (x5_3 + 1)), (3, .long v21), (6, .long v18), (0, .ref (m_a 0)), (1, .int p1), (2, .int p2)]) C dX9_times_61 5 rfl rfl (by decide) rfl ?_
        refine cx_goto (tgt := 5) C dX9_times_64 (by decide) ?_
        refine cx_lv [3, 4, 5, 1, 0] rfl ?_
        exact ih5 a20 v21 (x5_3 + 1) hf
  unfold f_X9_times at hf
  refine cx_lconst (v := 0) C dX9_times_0 (by decide) ?_
  refine cx_lstore_n (lv' := [(3, .long 0), (0, .ref (m_a 0)), (1, .int p1), (2, .int p2)]) C dX9_times_1 rfl (by decide) rfl ?_
  refine cx_iconst (v := 0) C dX9_times_2 (by decide) ?_
  refine cx_istore (lv' := [(5, .int 0), (3, .long 0), (0, .ref (m_a 0)), (1, .int p1), (2, .int p2)]) C dX9_times_3 (by decide) rfl ?_
  refine cx_lv [2, 3, 4, 1, 0] rfl ?_
  exact L5 cx_N0 m_limbs 0 0 hf
theorem dX9_multiplies_0 : decode cX9_multiplies 0 = .ok (.aload_n 0, 1) := by decide +kernel
theorem dX9_multiplies_1 : decode cX9_multiplies 1 = .ok (.iconst 4, 1) := by decide +kernel
theorem dX9_multiplies_2 : decode cX9_multiplies 2 = .ok (.lconst 0, 1) := by decide +kernel
theorem dX9_multiplies_3 : decode cX9_multiplies 3 = .ok (.invokevirtual 16, 3) := by decide +kernel
theorem dX9_multiplies_6 : decode cX9_multiplies 6 = .ok (.iconst 0, 1) := by decide +kernel
theorem dX9_multiplies_7 : decode cX9_multiplies 7 = .ok (.istore_n 3, 1) := by decide +kernel
theorem dX9_multiplies_8 : decode cX9_multiplies 8 = .ok (.iload_n 3, 1) := by decide +kernel
theorem dX9_multiplies_9 : decode cX9_multiplies 9 = .ok (.aload_n 0, 1) := by decide +kernel
theorem dX9_multiplies_10 : decode cX9_multiplies 10 = .ok (.getfield 3, 3) := by decide +kernel
theorem dX9_multiplies_13 : decode cX9_multiplies 13 = .ok (.iload_n 1, 1) := by decide +kernel
theorem dX9_multiplies_14 : decode cX9_multiplies 14 = .ok (.iaload, 1) := by decide +kernel
theorem dX9_multiplies_15 : decode cX9_multiplies 15 = .ok (.if_icmp .ge 129, 3) := by decide +kernel
theorem dX9_multiplies_18 : decode cX9_multiplies 18 = .ok (.lconst 0, 1) := by decide +kernel
theorem dX9_multiplies_19 : decode cX9_multiplies 19 = .ok (.lstore 4, 2) := by decide +kernel
theorem dX9_multiplies_21 : decode cX9_multiplies 21 = .ok (.iconst 0, 1) := by decide +kernel
theorem dX9_multiplies_22 : decode cX9_multiplies 22 = .ok (.istore 6, 2) := by decide +kernel
theorem dX9_multiplies_24 : decode cX9_multiplies 24 = .ok (.iload 6, 2) := by decide +kernel
theorem dX9_multiplies_26 : decode cX9_multiplies 26 = .ok (.aload_n 0, 1) := by decide +kernel
theorem dX9_multiplies_27 : decode cX9_multiplies 27 = .ok (.getfield 3, 3) := by decide +kernel
theorem dX9_multiplies_30 : decode cX9_multiplies 30 = .ok (.iload_n 2, 1) := by decide +kernel
theorem dX9_multiplies_31 : decode cX9_multiplies 31 = .ok (.iaload, 1) := by decide +kernel
theorem dX9_multiplies_32 : decode cX9_multiplies 32 = .ok (.if_icmp .lt 10, 3) := by decide +kernel
theorem dX9_multiplies_35 : decode cX9_multiplies 35 = .ok (.lload 4, 2) := by decide +kernel
theorem dX9_multiplies_37 : decode cX9_multiplies 37 = .ok (.lconst 0, 1) := by decide +kernel
theorem dX9_multiplies_38 : decode cX9_multiplies 38 = .ok (.lcmp, 1) := by decide +kernel
theorem dX9_multiplies_39 : decode cX9_multiplies 39 = .ok (.ifCond .le 99, 3) := by decide +kernel
theorem dX9_multiplies_42 : decode cX9_multiplies 42 = .ok (.iload 6, 2) := by decide +kernel
theorem dX9_multiplies_44 : decode cX9_multiplies 44 = .ok (.aload_n 0, 1) := by decide +kernel
theorem dX9_multiplies_45 : decode cX9_multiplies 45 = .ok (.getfield 3, 3) := by decide +kernel
theorem dX9_multiplies_48 : decode cX9_multiplies 48 = .ok (.iload_n 2, 1) := by decide +kernel
theorem dX9_multiplies_49 : decode cX9_multiplies 49 = .ok (.iaload, 1) := by decide +kernel
theorem dX9_multiplies_50 : decode cX9_multiplies 50 = .ok (.if_icmp .ge 32, 3) := by decide +kernel
theorem dX9_multiplies_53 : decode cX9_multiplies 53 = .ok (.aload_n 0, 1) := by decide +kernel
theorem dX9_multiplies_54 : decode cX9_multiplies 54 = .ok (.getfield 7, 3) := by decide +kernel
theorem dX9_multiplies_57 : decode cX9_multiplies 57 = .ok (.bipush 16, 2) := by decide +kernel
theorem dX9_multiplies_59 : decode cX9_multiplies 59 = .ok (.iload_n 1, 1) := by decide +kernel
theorem dX9_multiplies_60 : decode cX9_multiplies 60 = .ok (.imul, 1) := by decide +kernel
theorem dX9_multiplies_61 : decode cX9_multiplies 61 = .ok (.iload_n 3, 1) := by decide +kernel
theorem dX9_multiplies_62 : decode cX9_multiplies 62 = .ok (.iadd, 1) := by decide +kernel
theorem dX9_multiplies_63 : decode cX9_multiplies 63 = .ok (.iaload, 1) := by decide +kernel
theorem dX9_multiplies_64 : decode cX9_multiplies 64 = .ok (.i2l, 1) := by decide +kernel
theorem dX9_multiplies_65 : decode cX9_multiplies 65 = .ok (.aload_n 0, 1) := by decide +kernel
theorem dX9_multiplies_66 : decode cX9_multiplies 66 = .ok (.getfield 7, 3) := by decide +kernel
theorem dX9_multiplies_69 : decode cX9_multiplies 69 = .ok (.bipush 16, 2) := by decide +kernel
theorem dX9_multiplies_71 : decode cX9_multiplies 71 = .ok (.iload_n 2, 1) := by decide +kernel
theorem dX9_multiplies_72 : decode cX9_multiplies 72 = .ok (.imul, 1) := by decide +kernel
theorem dX9_multiplies_73 : decode cX9_multiplies 73 = .ok (.iload 6, 2) := by decide +kernel
theorem dX9_multiplies_75 : decode cX9_multiplies 75 = .ok (.iadd, 1) := by decide +kernel
theorem dX9_multiplies_76 : decode cX9_multiplies 76 = .ok (.iaload, 1) := by decide +kernel
theorem dX9_multiplies_77 : decode cX9_multiplies 77 = .ok (.i2l, 1) := by decide +kernel
theorem dX9_multiplies_78 : decode cX9_multiplies 78 = .ok (.lmul, 1) := by decide +kernel
theorem dX9_multiplies_79 : decode cX9_multiplies 79 = .ok (.goto 4, 3) := by decide +kernel
theorem dX9_multiplies_82 : decode cX9_multiplies 82 = .ok (.lconst 0, 1) := by decide +kernel
theorem dX9_multiplies_83 : decode cX9_multiplies 83 = .ok (.lstore 7, 2) := by decide +kernel
theorem dX9_multiplies_85 : decode cX9_multiplies 85 = .ok (.aload_n 0, 1) := by decide +kernel
theorem dX9_multiplies_86 : decode cX9_multiplies 86 = .ok (.getfield 7, 3) := by decide +kernel
theorem dX9_multiplies_89 : decode cX9_multiplies 89 = .ok (.bipush 64, 2) := by decide +kernel
theorem dX9_multiplies_91 : decode cX9_multiplies 91 = .ok (.iload_n 3, 1) := by decide +kernel
theorem dX9_multiplies_92 : decode cX9_multiplies 92 = .ok (.iadd, 1) := by decide +kernel
theorem dX9_multiplies_93 : decode cX9_multiplies 93 = .ok (.iload 6, 2) := by decide +kernel
theorem dX9_multiplies_95 : decode cX9_multiplies 95 = .ok (.iadd, 1) := by decide +kernel
theorem dX9_multiplies_96 : decode cX9_multiplies 96 = .ok (.iaload, 1) := by decide +kernel
theorem dX9_multiplies_97 : decode cX9_multiplies 97 = .ok (.i2l, 1) := by decide +kernel
theorem dX9_multiplies_98 : decode cX9_multiplies 98 = .ok (.lload 7, 2) := by decide +kernel
theorem dX9_multiplies_100 : decode cX9_multiplies 100 = .ok (.ladd, 1) := by decide +kernel
theorem dX9_multiplies_101 : decode cX9_multiplies 101 = .ok (.lload 4, 2) := by decide +kernel
theorem dX9_multiplies_103 : decode cX9_multiplies 103 = .ok (.ladd, 1) := by decide +kernel
theorem dX9_multiplies_104 : decode cX9_multiplies 104 = .ok (.lstore 9, 2) := by decide +kernel
theorem dX9_multiplies_106 : decode cX9_multiplies 106 = .ok (.aload_n 0, 1) := by decide +kernel
theorem dX9_multiplies_107 : decode cX9_multiplies 107 = .ok (.getfield 7, 3) := by decide +kernel
theorem dX9_multiplies_110 : decode cX9_multiplies 110 = .ok (.bipush 64, 2) := by decide +kernel
theorem dX9_multiplies_112 : decode cX9_multiplies 112 = .ok (.iload_n 3, 1) := by decide +kernel
theorem dX9_multiplies_113 : decode cX9_multiplies 113 = .ok (.iadd, 1) := by decide +kernel
theorem dX9_multiplies_114 : decode cX9_multiplies 114 = .ok (.iload 6, 2) := by decide +kernel
theorem dX9_multiplies_116 : decode cX9_multiplies 116 = .ok (.iadd, 1) := by decide +kernel
theorem dX9_multiplies_117 : decode cX9_multiplies 117 = .ok (.lload 9, 2) := by decide +kernel
theorem dX9_multiplies_119 : decode cX9_multiplies 119 = .ok (.ldc2_w 10, 3) := by decide +kernel
theorem dX9_multiplies_122 : decode cX9_multiplies 122 = .ok (.land, 1) := by decide +kernel
theorem dX9_multiplies_123 : decode cX9_multiplies 123 = .ok (.l2i, 1) := by decide +kernel
theorem dX9_multiplies_124 : decode cX9_multiplies 124 = .ok (.iastore, 1) := by decide +kernel
theorem dX9_multiplies_125 : decode cX9_multiplies 125 = .ok (.lload 9, 2) := by decide +kernel
theorem dX9_multiplies_127 : decode cX9_multiplies 127 = .ok (.bipush 30, 2) := by decide +kernel
theorem dX9_multiplies_129 : decode cX9_multiplies 129 = .ok (.lshr, 1) := by decide +kernel
theorem dX9_multiplies_130 : decode cX9_multiplies 130 = .ok (.lstore 4, 2) := by decide +kernel
theorem dX9_multiplies_132 : decode cX9_multiplies 132 = .ok (.iinc 6 1, 3) := by decide +kernel
theorem dX9_multiplies_135 : decode cX9_multiplies 135 = .ok (.goto (-111), 3) := by decide +kernel
theorem dX9_multiplies_138 : decode cX9_multiplies 138 = .ok (.iinc 3 1, 3) := by decide +kernel
theorem dX9_multiplies_141 : decode cX9_multiplies 141 = .ok (.goto (-133), 3) := by decide +kernel
theorem dX9_multiplies_144 : decode cX9_multiplies 144 = .ok (.aload_n 0, 1) := by decide +kernel
theorem dX9_multiplies_145 : decode cX9_multiplies 145 = .ok (.getfield 3, 3) := by decide +kernel
theorem dX9_multiplies_148 : decode cX9_multiplies 148 = .ok (.iconst 4, 1) := by decide +kernel
theorem dX9_multiplies_149 : decode cX9_multiplies 149 = .ok (.aload_n 0, 1) := by decide +kernel
theorem dX9_multiplies_150 : decode cX9_multiplies 150 = .ok (.getfield 3, 3) := by decide +kernel
theorem dX9_multiplies_153 : decode cX9_multiplies 153 = .ok (.iload_n 1, 1) := by decide +kernel
theorem dX9_multiplies_154 : decode cX9_multiplies 154 = .ok (.iaload, 1) := by decide +kernel
theorem dX9_multiplies_155 : decode cX9_multiplies 155 = .ok (.aload_n 0, 1) := by decide +kernel
theorem dX9_multiplies_156 : decode cX9_multiplies 156 = .ok (.getfield 3, 3) := by decide +kernel
theorem dX9_multiplies_159 : decode cX9_multiplies 159 = .ok (.iload_n 2, 1) := by decide +kernel
theorem dX9_multiplies_160 : decode cX9_multiplies 160 = .ok (.iaload, 1) := by decide +kernel
theorem dX9_multiplies_161 : decode cX9_multiplies 161 = .ok (.iadd, 1) := by decide +kernel
theorem dX9_multiplies_162 : decode cX9_multiplies 162 = .ok (.iastore, 1) := by decide +kernel
theorem dX9_multiplies_163 : decode cX9_multiplies 163 = .ok (.aload_n 0, 1) := by decide +kernel
theorem dX9_multiplies_164 : decode cX9_multiplies 164 = .ok (.iconst 4, 1) := by decide +kernel
theorem dX9_multiplies_165 : decode cX9_multiplies 165 = .ok (.invokevirtual 12, 3) := by decide +kernel
theorem dX9_multiplies_168 : decode cX9_multiplies 168 = .ok (.aload_n 0, 1) := by decide +kernel
theorem dX9_multiplies_169 : decode cX9_multiplies 169 = .ok (.iload_n 1, 1) := by decide +kernel
theorem dX9_multiplies_170 : decode cX9_multiplies 170 = .ok (.iconst 4, 1) := by decide +kernel
theorem dX9_multiplies_171 : decode cX9_multiplies 171 = .ok (.invokevirtual 20, 3) := by decide +kernel
theorem dX9_multiplies_174 : decode cX9_multiplies 174 = .ok (.return_, 1) := by decide +kernel
theorem me_X9_multiplies : cx_Mv yX9_multiplies cX9_multiplies 11 none 2 := ⟨⟨⟨by decide +kernel, by decide +kernel, by decide +kernel⟩, hw_11, hw_1323⟩, hw_1322, hs_63⟩
noncomputable def f_X9_multiplies_J83 (x3_5 : Int32) (a_16 : Nat → Int32) (x4_17 : Int64) (x6_18 : Int32) (rc24 : (Nat → Int32) → Int64 → Int32 → Option ((Nat → Int32) × (Nat → Int32))) (s0_23 : Int64) : Option ((Nat → Int32) × (Nat → Int32)) := cx_gd (cx_ib ((64 + x3_5) + x6_18) 4320) (cx_let (((Int32.toInt64 (a_16 (cx_ix ((64 + x3_5) + x6_18)))) + s0_23) + x4_17) (fun v25 => cx_gd (cx_ib ((64 + x3_5) + x6_18) 4320) (cx_let (upd a_16 (cx_ix ((64 + x3_5) + x6_18)) (Int64.toInt32 (v25 &&& 1073741823))) (fun a27 => cx_let (v25 >>> (Int32.toInt64 30 &&& 63)) (fun v28 => rc24 a27 v28 (x6_18 + 1))))))
noncomputable def f_X9_multiplies_J42 (p1 : Int32) (p2 : Int32) (a_4 : Nat → Int32) (x3_5 : Int32) (a_16 : Nat → Int32) (x4_17 : Int64) (x6_18 : Int32) (rc24 : (Nat → Int32) → Int64 → Int32 → Option ((Nat → Int32) × (Nat → Int32))) : Option ((Nat → Int32) × (Nat → Int32)) := cx_gd (cx_ib p2 270) (if (a_4 (cx_ix p2)) ≤ x6_18 then (f_X9_multiplies_J83 x3_5 a_16 x4_17 x6_18 rc24 0) else (cx_gd (cx_ib ((16 * p1) + x3_5) 4320) (cx_gd (cx_ib ((16 * p2) + x6_18) 4320) (f_X9_multiplies_J83 x3_5 a_16 x4_17 x6_18 rc24 ((Int32.toInt64 (a_16 (cx_ix ((16 * p1) + x3_5)))) * (Int32.toInt64 (a_16 (cx_ix ((16 * p2) + x6_18)))))))))
noncomputable def f_X9_multiplies_L24 (p1 : Int32) (p2 : Int32) (a_4 : Nat → Int32) (x3_5 : Int32) (rc8 : (Nat → Int32) → Int32 → Option ((Nat → Int32) × (Nat → Int32))) (rc24 : (Nat → Int32) → Int64 → Int32 → Option ((Nat → Int32) × (Nat → Int32))) (a_16 : Nat → Int32) (x4_17 : Int64) (x6_18 : Int32) : Option ((Nat → Int32) × (Nat → Int32)) := cx_gd (cx_ib p2 270) (if x6_18 < (a_4 (cx_ix p2)) then (f_X9_multiplies_J42 p1 p2 a_4 x3_5 a_16 x4_17 x6_18 rc24) else (if (lg_cmp x4_17 0) ≤ 0 then (rc8 a_16 (x3_5 + 1)) else (f_X9_multiplies_J42 p1 p2 a_4 x3_5 a_16 x4_17 x6_18 rc24)))
noncomputable def f_X9_multiplies_L24w (p1 : Int32) (p2 : Int32) (a_4 : Nat → Int32) (x3_5 : Int32) (rc8 : (Nat → Int32) → Int32 → Option ((Nat → Int32) × (Nat → Int32))) (n : Nat) : (Nat → Int32) → Int64 → Int32 → Option ((Nat → Int32) × (Nat → Int32)) := Nat.rec (fun _ _ _ => none) (fun _ r => f_X9_multiplies_L24 p1 p2 a_4 x3_5 rc8 r) n
noncomputable def f_X9_multiplies_L8 (p1 : Int32) (p2 : Int32) (a_4 : Nat → Int32) (rc8 : (Nat → Int32) → Int32 → Option ((Nat → Int32) × (Nat → Int32))) (a_3 : Nat → Int32) (x3_5 : Int32) : Option ((Nat → Int32) × (Nat → Int32)) := cx_gd (cx_ib p1 270) (if (a_4 (cx_ix p1)) ≤ x3_5 then (cx_gd (cx_ib p1 270) (cx_gd (cx_ib p2 270) (cx_gd (cx_ib 4 270) (cx_let (upd a_4 (cx_ix 4) ((a_4 (cx_ix p1)) + (a_4 (cx_ix p2)))) (fun a11 => Option.bind (f_X9_trims a_3 a11 4) (fun u12 => Option.bind (f_X9_takes a_3 u12 p1 4) (fun u14 => some ((u14.1, u14.2))))))))) else (f_X9_multiplies_L24w p1 p2 a_4 x3_5 rc8 cx_N0 a_3 0 0))
noncomputable def f_X9_multiplies_L8w (p1 : Int32) (p2 : Int32) (a_4 : Nat → Int32) (n : Nat) : (Nat → Int32) → Int32 → Option ((Nat → Int32) × (Nat → Int32)) := Nat.rec (fun _ _ => none) (fun _ r => f_X9_multiplies_L8 p1 p2 a_4 r) n
noncomputable def f_X9_multiplies (m_limbs : Nat → Int32) (m_wide : Nat → Int32) (p1 : Int32) (p2 : Int32) : Option ((Nat → Int32) × (Nat → Int32)) := Option.bind (f_X9_sets m_limbs m_wide 4 0) (fun u1 => f_X9_multiplies_L8w p1 p2 u1.2 cx_N0 u1.1 0)
set_option maxHeartbeats 4000000 in
set_option maxRecDepth 100000 in
theorem c_X9_multiplies (l : Launch) (D : va_G) (k : Nat → ClassId) (m_a : Nat → Nat) (m_limbs : Nat → Int32) (m_wide : Nat → Int32) (m_book : Nat → Int32) (m_images : Nat → Int32) (m_kept : Nat → Int32) (m_before : Nat → Int32) (m_refused : Nat → Int32) (m_quiet : Int32) (m_text : Nat → Int32) (m_typed : Int32) (m_at : Int32) (m_start : Int32) (m_token : Int32) (m_value : Int32) (m_items : Nat → Int32) (m_many : Int32) (m_is : Nat → Int32) (m_likes : Nat → Int32) (m_without : Int32) (m_onePicture : Int32) (m_oneYear : Int32) (m_first : Int32) (m_second : Int32) (m_names : Nat → Int32) (p1 : Int32) (p2 : Int32) (y : (Nat → Int32) × (Nat → Int32)) (hf : f_X9_multiplies m_limbs m_wide p1 p2 = some y) : cx_M l yX9_multiplies cX9_multiplies 11 none 3 D k [.ref (m_a 0), .int p1, .int p2] (wd_Model k m_a m_limbs m_wide m_book m_images m_kept m_before m_refused m_quiet m_text m_typed m_at m_start m_token m_value m_items m_many m_is m_likes m_without m_onePicture m_oneYear m_first m_second m_names) (fun sz => cx_Qv D (wd_Model k m_a m_limbs m_wide m_book m_images m_kept m_before m_refused m_quiet m_text m_typed m_at m_start m_token m_value m_items m_many m_is m_likes m_without m_onePicture m_oneYear m_first m_second m_names) (wd_Model k m_a y.1 y.2 m_book m_images m_kept m_before m_refused m_quiet m_text m_typed m_at m_start m_token m_value m_items m_many m_is m_likes m_without m_onePicture m_oneYear m_first m_second m_names) sz) := by
  refine cx_met (own := "NamelessBoxModel") (by decide) rfl (Nat.le_of_ble_eq_true rfl) ?_
  intro p e s m args below meth c A Q C hA hQ hr hlk
  refine cx_lv (lv' := [(0, .ref (m_a 0)), (1, .int p1), (2, .int p2)]) [0, 1, 2] rfl ?_
  have L8 : ∀ (a_4 : Nat → Int32) (n8 : Nat) (a_3 : Nat → Int32) (x3_5 : Int32), f_X9_multiplies_L8w p1 p2 a_4 n8 a_3 x3_5 = some y → cx_S p l e (cx_rm 3) s m args below meth c A D 11 0 0 Q 8 [(0, .ref (m_a 0)), (1, .int p1), (2, .int p2), (3, .int x3_5)] [] (wd_Model k m_a a_3 a_4 m_book m_images m_kept m_before m_refused m_quiet m_text m_typed m_at m_start m_token m_value m_items m_many m_is m_likes m_without m_onePicture m_oneYear m_first m_second m_names) := by
    intro a_4 n8
    induction n8 with
    | zero =>
      intro a_3 x3_5 hf
      exact absurd (show (none : Option ((Nat → Int32) × (Nat → Int32))) = some y from hf) (fun h => by cases h)
    | succ n8 ih8 =>
      intro a_3 x3_5 hf
      have hf : f_X9_multiplies_L8 p1 p2 a_4 (f_X9_multiplies_L8w p1 p2 a_4 n8) a_3 x3_5 = some y := hf
      have L24 : ∀ (n24 : Nat) (a_16 : Nat → Int32) (x4_17 : Int64) (x6_18 : Int32), f_X9_multiplies_L24w p1 p2 a_4 x3_5 (f_X9_multiplies_L8w p1 p2 a_4 n8) n24 a_16 x4_17 x6_18 = some y → cx_S p l e (cx_rm 3) s m args below meth c A D 11 0 0 Q 24 [(0, .ref (m_a 0)), (1, .int p1), (2, .int p2), (3, .int x3_5), (4, .long x4_17), (6, .int x6_18)] [] (wd_Model k m_a a_16 a_4 m_book m_images m_kept m_before m_refused m_quiet m_text m_typed m_at m_start m_token m_value m_items m_many m_is m_likes m_without m_onePicture m_oneYear m_first m_second m_names) := by
        intro  n24
        induction n24 with
        | zero =>
          intro a_16 x4_17 x6_18 hf
          exact absurd (show (none : Option ((Nat → Int32) × (Nat → Int32))) = some y from hf) (fun h => by cases h)
        | succ n24 ih24 =>
          intro a_16 x4_17 x6_18 hf
          have hf : f_X9_multiplies_L24 p1 p2 a_4 x3_5 (f_X9_multiplies_L8w p1 p2 a_4 n8) (f_X9_multiplies_L24w p1 p2 a_4 x3_5 (f_X9_multiplies_L8w p1 p2 a_4 n8) n24) a_16 x4_17 x6_18 = some y := hf
          have J83 : ∀ (s0_23 : Int64), f_X9_multiplies_J83 x3_5 a_16 x4_17 x6_18 (f_X9_multiplies_L24w p1 p2 a_4 x3_5 (f_X9_multiplies_L8w p1 p2 a_4 n8) n24) s0_23 = some y → cx_S p l e (cx_rm 3) s m args below meth c A D 11 0 0 Q 83 [(0, .ref (m_a 0)), (1, .int p1), (2, .int p2), (3, .int x3_5), (4, .long x4_17), (6, .int x6_18)] [.long s0_23] (wd_Model k m_a a_16 a_4 m_book m_images m_kept m_before m_refused m_quiet m_text m_typed m_at m_start m_token m_value m_items m_many m_is m_likes m_without m_onePicture m_oneYear m_first m_second m_names) := by
            intro s0_23 hf
            unfold f_X9_multiplies_J83 at hf
            refine cx_lstore (lv' := [(7, .long s0_23), (0, .ref (m_a 0)), (1, .int p1), (2, .int p2), (3, .int x3_5), (4, .long x4_17), (6, .int x6_18)]) C dX9_multiplies_83 (by decide) rfl ?_
            refine cx_aload_n C dX9_multiplies_85 1 rfl ?_
            refine cx_get (v := .ref (m_a 1)) (ci := 8) C iX9 dX9_multiplies_86 0 rfl rfl 0 (by decide) hw_1054 rfl ?_
            refine cx_bipush (v := 64) C dX9_multiplies_89 (by decide) ?_
            refine cx_iload_n C dX9_multiplies_91 4 rfl ?_
            refine cx_iadd C dX9_multiplies_92 ?_
            refine cx_iload C dX9_multiplies_93 6 rfl ?_
            refine cx_iadd C dX9_multiplies_95 ?_
            obtain ⟨g24, hf⟩ := cx_gd_at hf
            refine cx_iald C dX9_multiplies_96 1 rfl (cx_ib_in g24) ?_
            clear g24
            refine cx_i2l C dX9_multiplies_97 ?_
            refine cx_lload C dX9_multiplies_98 0 rfl ?_
            refine cx_ladd C dX9_multiplies_100 ?_
            refine cx_lload C dX9_multiplies_101 5 rfl ?_
            refine cx_ladd C dX9_multiplies_103 ?_
            refine cx_topl (fun v25 ev25 => ?_)
            have hf := cx_let_at hf ev25
            clear ev25
            refine cx_lstore (lv' := [(9, .long v25), (7, .long s0_23), (0, .ref (m_a 0)), (1, .int p1), (2, .int p2), (3, .int x3_5), (4, .long x4_17), (6, .int x6_18)]) C dX9_multiplies_104 (by decide) rfl ?_
            refine cx_aload_n C dX9_multiplies_106 2 rfl ?_
            refine cx_get (v := .ref (m_a 1)) (ci := 8) C iX9 dX9_multiplies_107 0 rfl rfl 0 (by decide) hw_1054 rfl ?_
            refine cx_bipush (v := 64) C dX9_multiplies_110 (by decide) ?_
            refine cx_iload_n C dX9_multiplies_112 5 rfl ?_
            refine cx_iadd C dX9_multiplies_113 ?_
            refine cx_iload C dX9_multiplies_114 7 rfl ?_
            refine cx_iadd C dX9_multiplies_116 ?_
            refine cx_lload C dX9_multiplies_117 0 rfl ?_
            refine cx_ldc2 (v := 1073741823) C dX9_multiplies_119 hw_1049 ?_
            refine cx_land C dX9_multiplies_122 ?_
            refine cx_l2i C dX9_multiplies_123 ?_
            obtain ⟨g26, hf⟩ := cx_gd_at hf
            obtain ⟨a27, ea27⟩ : ∃ z, z = upd a_16 (cx_ix ((64 + x3_5) + x6_18)) (Int64.toInt32 (v25 &&& 1073741823)) := ⟨_, rfl⟩
            have hf := cx_let_at hf ea27
            refine cx_iast (ws' := (wd_Model k m_a a27 a_4 m_book m_images m_kept m_before m_refused m_quiet m_text m_typed m_at m_start m_token m_value m_items m_many m_is m_likes m_without m_onePicture m_oneYear m_first m_second m_names)) C dX9_multiplies_124 1 rfl (cx_ib_in g26) (by rw [ea27]; rfl) ?_
            clear ea27 g26
            refine cx_lload C dX9_multiplies_125 0 rfl ?_
            refine cx_bipush (v := 30) C dX9_multiplies_127 (by decide) ?_
            refine cx_lshr C dX9_multiplies_129 ?_
            refine cx_topl (fun v28 ev28 => ?_)
            have hf := cx_let_at hf ev28
            clear ev28
            refine cx_lstore (lv' := [(4, .long v28), (9, .long v25), (7, .long s0_23), (0, .ref (m_a 0)), (1, .int p1), (2, .int p2), (3, .int x3_5), (6, .int x6_18)]) C dX9_multiplies_130 (by decide) rfl ?_
            refine cx_iinc (v := x6_18 + 1) (lv' := [(6, .int (x6_18 + 1)), (4, .long v28), (9, .long v25), (7, .long s0_23), (0, .ref (m_a 0)), (1, .int p1), (2, .int p2), (3, .int x3_5)]) C dX9_multiplies_132 7 rfl rfl (by decide) rfl ?_
            refine cx_goto (tgt := 24) C dX9_multiplies_135 (by decide) ?_
            refine cx_lv [4, 5, 6, 7, 1, 0] rfl ?_
            exact ih24 a27 v28 (x6_18 + 1) hf
          have J42 : f_X9_multiplies_J42 p1 p2 a_4 x3_5 a_16 x4_17 x6_18 (f_X9_multiplies_L24w p1 p2 a_4 x3_5 (f_X9_multiplies_L8w p1 p2 a_4 n8) n24) = some y → cx_S p l e (cx_rm 3) s m args below meth c A D 11 0 0 Q 42 [(0, .ref (m_a 0)), (1, .int p1), (2, .int p2), (3, .int x3_5), (4, .long x4_17), (6, .int x6_18)] [] (wd_Model k m_a a_16 a_4 m_book m_images m_kept m_before m_refused m_quiet m_text m_typed m_at m_start m_token m_value m_items m_many m_is m_likes m_without m_onePicture m_oneYear m_first m_second m_names) := by
            intro  hf
            unfold f_X9_multiplies_J42 at hf
            refine cx_iload C dX9_multiplies_42 5 rfl ?_
            refine cx_aload_n C dX9_multiplies_44 0 rfl ?_
            refine cx_get (v := .ref (m_a 2)) (ci := 8) C iX9 dX9_multiplies_45 0 rfl rfl 1 (by decide) hw_1055 rfl ?_
            refine cx_iload_n C dX9_multiplies_48 2 rfl ?_
            obtain ⟨g21, hf⟩ := cx_gd_at hf
            refine cx_iald C dX9_multiplies_49 2 rfl (cx_ib_in g21) ?_
            clear g21
            refine cx_icmp_ge (tgt := 82) C dX9_multiplies_50 (by decide) (fun c22 => ?_) (fun c22 => ?_)
            · have hf := cx_if_t hf c22
              clear c22
              refine cx_lconst (v := 0) C dX9_multiplies_82 (by decide) ?_
              exact J83 0 hf
            · have hf := cx_if_f hf c22
              clear c22
              refine cx_aload_n C dX9_multiplies_53 0 rfl ?_
              refine cx_get (v := .ref (m_a 1)) (ci := 8) C iX9 dX9_multiplies_54 0 rfl rfl 0 (by decide) hw_1054 rfl ?_
              refine cx_bipush (v := 16) C dX9_multiplies_57 (by decide) ?_
              refine cx_iload_n C dX9_multiplies_59 1 rfl ?_
              refine cx_imul C dX9_multiplies_60 ?_
              refine cx_iload_n C dX9_multiplies_61 3 rfl ?_
              refine cx_iadd C dX9_multiplies_62 ?_
              obtain ⟨g29, hf⟩ := cx_gd_at hf
              refine cx_iald C dX9_multiplies_63 1 rfl (cx_ib_in g29) ?_
              clear g29
              refine cx_i2l C dX9_multiplies_64 ?_
              refine cx_aload_n C dX9_multiplies_65 0 rfl ?_
              refine cx_get (v := .ref (m_a 1)) (ci := 8) C iX9 dX9_multiplies_66 0 rfl rfl 0 (by decide) hw_1054 rfl ?_
              refine cx_bipush (v := 16) C dX9_multiplies_69 (by decide) ?_
              refine cx_iload_n C dX9_multiplies_71 2 rfl ?_
              refine cx_imul C dX9_multiplies_72 ?_
              refine cx_iload C dX9_multiplies_73 5 rfl ?_
              refine cx_iadd C dX9_multiplies_75 ?_
              obtain ⟨g30, hf⟩ := cx_gd_at hf
              refine cx_iald C dX9_multiplies_76 1 rfl (cx_ib_in g30) ?_
              clear g30
              refine cx_i2l C dX9_multiplies_77 ?_
              refine cx_lmul C dX9_multiplies_78 ?_
              refine cx_goto (tgt := 83) C dX9_multiplies_79 (by decide) ?_
              exact J83 ((Int32.toInt64 (a_16 (cx_ix ((16 * p1) + x3_5)))) * (Int32.toInt64 (a_16 (cx_ix ((16 * p2) + x6_18))))) hf
          unfold f_X9_multiplies_L24 at hf
          refine cx_iload C dX9_multiplies_24 5 rfl ?_
          refine cx_aload_n C dX9_multiplies_26 0 rfl ?_
          refine cx_get (v := .ref (m_a 2)) (ci := 8) C iX9 dX9_multiplies_27 0 rfl rfl 1 (by decide) hw_1055 rfl ?_
          refine cx_iload_n C dX9_multiplies_30 2 rfl ?_
          obtain ⟨g19, hf⟩ := cx_gd_at hf
          refine cx_iald C dX9_multiplies_31 2 rfl (cx_ib_in g19) ?_
          clear g19
          refine cx_icmp_lt (tgt := 42) C dX9_multiplies_32 (by decide) (fun c20 => ?_) (fun c20 => ?_)
          · have hf := cx_if_t hf c20
            clear c20
            exact J42 hf
          · have hf := cx_if_f hf c20
            clear c20
            refine cx_lload C dX9_multiplies_35 4 rfl ?_
            refine cx_lconst (v := 0) C dX9_multiplies_37 (by decide) ?_
            refine cx_lcmp C dX9_multiplies_38 ?_
            refine cx_if_le (tgt := 138) C dX9_multiplies_39 (by decide) (fun c31 => ?_) (fun c31 => ?_)
            · have hf := cx_if_t hf c31
              clear c31
              refine cx_iinc (v := x3_5 + 1) (lv' := [(3, .int (x3_5 + 1)), (0, .ref (m_a 0)), (1, .int p1), (2, .int p2), (4, .long x4_17), (6, .int x6_18)]) C dX9_multiplies_138 3 rfl rfl (by decide) rfl ?_
              refine cx_goto (tgt := 8) C dX9_multiplies_141 (by decide) ?_
              refine cx_lv [1, 2, 3, 0] rfl ?_
              exact ih8 a_16 (x3_5 + 1) hf
            · have hf := cx_if_f hf c31
              clear c31
              exact J42 hf
      unfold f_X9_multiplies_L8 at hf
      refine cx_iload_n C dX9_multiplies_8 3 rfl ?_
      refine cx_aload_n C dX9_multiplies_9 0 rfl ?_
      refine cx_get (v := .ref (m_a 2)) (ci := 8) C iX9 dX9_multiplies_10 0 rfl rfl 1 (by decide) hw_1055 rfl ?_
      refine cx_iload_n C dX9_multiplies_13 1 rfl ?_
      obtain ⟨g6, hf⟩ := cx_gd_at hf
      refine cx_iald C dX9_multiplies_14 2 rfl (cx_ib_in g6) ?_
      clear g6
      refine cx_icmp_ge (tgt := 144) C dX9_multiplies_15 (by decide) (fun c7 => ?_) (fun c7 => ?_)
      · have hf := cx_if_t hf c7
        clear c7
        refine cx_aload_n C dX9_multiplies_144 0 rfl ?_
        refine cx_get (v := .ref (m_a 2)) (ci := 8) C iX9 dX9_multiplies_145 0 rfl rfl 1 (by decide) hw_1055 rfl ?_
        refine cx_iconst (v := 4) C dX9_multiplies_148 (by decide) ?_
        refine cx_aload_n C dX9_multiplies_149 0 rfl ?_
        refine cx_get (v := .ref (m_a 2)) (ci := 8) C iX9 dX9_multiplies_150 0 rfl rfl 1 (by decide) hw_1055 rfl ?_
        refine cx_iload_n C dX9_multiplies_153 1 rfl ?_
        obtain ⟨g8, hf⟩ := cx_gd_at hf
        refine cx_iald C dX9_multiplies_154 2 rfl (cx_ib_in g8) ?_
        clear g8
        refine cx_aload_n C dX9_multiplies_155 0 rfl ?_
        refine cx_get (v := .ref (m_a 2)) (ci := 8) C iX9 dX9_multiplies_156 0 rfl rfl 1 (by decide) hw_1055 rfl ?_
        refine cx_iload_n C dX9_multiplies_159 2 rfl ?_
        obtain ⟨g9, hf⟩ := cx_gd_at hf
        refine cx_iald C dX9_multiplies_160 2 rfl (cx_ib_in g9) ?_
        clear g9
        refine cx_iadd C dX9_multiplies_161 ?_
        obtain ⟨g10, hf⟩ := cx_gd_at hf
        obtain ⟨a11, ea11⟩ : ∃ z, z = upd a_4 (cx_ix 4) ((a_4 (cx_ix p1)) + (a_4 (cx_ix p2))) := ⟨_, rfl⟩
        have hf := cx_let_at hf ea11
        refine cx_iast (ws' := (wd_Model k m_a a_3 a11 m_book m_images m_kept m_before m_refused m_quiet m_text m_typed m_at m_start m_token m_value m_items m_many m_is m_likes m_without m_onePicture m_oneYear m_first m_second m_names)) C dX9_multiplies_162 2 rfl (cx_ib_in g10) (by rw [ea11]; rfl) ?_
        clear ea11 g10
        refine cx_aload_n C dX9_multiplies_163 0 rfl ?_
        refine cx_iconst (v := 4) C dX9_multiplies_164 (by decide) ?_
        obtain ⟨u12, e13, hf⟩ := cx_bd_at hf
        refine cx_Fvv (q := (RX9, TX9, 24)) (As := [.int 4]) (rest := []) (w1 := (wd_Model k m_a a_3 u12 m_book m_images m_kept m_before m_refused m_quiet m_text m_typed m_at m_start m_token m_value m_items m_many m_is m_likes m_without m_onePicture m_oneYear m_first m_second m_names)) hA C me_X9_trims hw_1050 (c_X9_trims l D k m_a a_3 a11 m_book m_images m_kept m_before m_refused m_quiet m_text m_typed m_at m_start m_token m_value m_items m_many m_is m_likes m_without m_onePicture m_oneYear m_first m_second m_names 4 u12 e13) dX9_multiplies_165 ⟨Nat.le_of_ble_eq_true rfl, Nat.le_of_ble_eq_true rfl⟩ ⟨Nat.zero_le _, Nat.zero_le _⟩ rfl rfl (Nat.le_of_ble_eq_true rfl) rfl rfl rfl ?_
        clear e13
        refine cx_aload_n C dX9_multiplies_168 0 rfl ?_
        refine cx_iload_n C dX9_multiplies_169 1 rfl ?_
        refine cx_iconst (v := 4) C dX9_multiplies_170 (by decide) ?_
        obtain ⟨u14, e15, hf⟩ := cx_bd_at hf
        refine cx_Fvv (q := (RX9, TX9, 24)) (As := [.int p1, .int 4]) (rest := []) (w1 := (wd_Model k m_a u14.1 u14.2 m_book m_images m_kept m_before m_refused m_quiet m_text m_typed m_at m_start m_token m_value m_items m_many m_is m_likes m_without m_onePicture m_oneYear m_first m_second m_names)) hA C me_X9_takes hw_1324 (c_X9_takes l D k m_a a_3 u12 m_book m_images m_kept m_before m_refused m_quiet m_text m_typed m_at m_start m_token m_value m_items m_many m_is m_likes m_without m_onePicture m_oneYear m_first m_second m_names p1 4 u14 e15) dX9_multiplies_171 ⟨Nat.le_of_ble_eq_true rfl, Nat.le_of_ble_eq_true rfl⟩ ⟨Nat.zero_le _, Nat.zero_le _⟩ rfl rfl (Nat.le_of_ble_eq_true rfl) rfl rfl rfl ?_
        clear e15
        obtain rfl := Option.some.inj hf
        exact cx_vret C hA hQ hr hlk dX9_multiplies_174 rfl
      · have hf := cx_if_f hf c7
        clear c7
        refine cx_lconst (v := 0) C dX9_multiplies_18 (by decide) ?_
        refine cx_lstore (lv' := [(4, .long 0), (0, .ref (m_a 0)), (1, .int p1), (2, .int p2), (3, .int x3_5)]) C dX9_multiplies_19 (by decide) rfl ?_
        refine cx_iconst (v := 0) C dX9_multiplies_21 (by decide) ?_
        refine cx_istore (lv' := [(6, .int 0), (4, .long 0), (0, .ref (m_a 0)), (1, .int p1), (2, .int p2), (3, .int x3_5)]) C dX9_multiplies_22 (by decide) rfl ?_
        refine cx_lv [2, 3, 4, 5, 1, 0] rfl ?_
        exact L24 cx_N0 a_3 0 0 hf
  unfold f_X9_multiplies at hf
  refine cx_aload_n C dX9_multiplies_0 0 rfl ?_
  refine cx_iconst (v := 4) C dX9_multiplies_1 (by decide) ?_
  refine cx_lconst (v := 0) C dX9_multiplies_2 (by decide) ?_
  obtain ⟨u1, e2, hf⟩ := cx_bd_at hf
  refine cx_Fvv (q := (RX9, TX9, 24)) (As := [.int 4, .long 0]) (rest := []) (w1 := (wd_Model k m_a u1.1 u1.2 m_book m_images m_kept m_before m_refused m_quiet m_text m_typed m_at m_start m_token m_value m_items m_many m_is m_likes m_without m_onePicture m_oneYear m_first m_second m_names)) hA C me_X9_sets hw_1045 (c_X9_sets l D k m_a m_limbs m_wide m_book m_images m_kept m_before m_refused m_quiet m_text m_typed m_at m_start m_token m_value m_items m_many m_is m_likes m_without m_onePicture m_oneYear m_first m_second m_names 4 0 u1 e2) dX9_multiplies_3 ⟨Nat.le_of_ble_eq_true rfl, Nat.le_of_ble_eq_true rfl⟩ ⟨Nat.zero_le _, Nat.zero_le _⟩ rfl rfl (Nat.le_of_ble_eq_true rfl) rfl rfl rfl ?_
  clear e2
  refine cx_iconst (v := 0) C dX9_multiplies_6 (by decide) ?_
  refine cx_istore_n (lv' := [(3, .int 0), (0, .ref (m_a 0)), (1, .int p1), (2, .int p2)]) C dX9_multiplies_7 rfl (by decide) rfl ?_
  refine cx_lv [1, 2, 3, 0] rfl ?_
  exact L8 u1.2 cx_N0 u1.1 0 hf
theorem dX9_adds_0 : decode cX9_adds 0 = .ok (.iconst 0, 1) := by decide +kernel
theorem dX9_adds_1 : decode cX9_adds 1 = .ok (.istore_n 3, 1) := by decide +kernel
theorem dX9_adds_2 : decode cX9_adds 2 = .ok (.aload_n 0, 1) := by decide +kernel
theorem dX9_adds_3 : decode cX9_adds 3 = .ok (.getfield 3, 3) := by decide +kernel
theorem dX9_adds_6 : decode cX9_adds 6 = .ok (.iload_n 1, 1) := by decide +kernel
theorem dX9_adds_7 : decode cX9_adds 7 = .ok (.iaload, 1) := by decide +kernel
theorem dX9_adds_8 : decode cX9_adds 8 = .ok (.aload_n 0, 1) := by decide +kernel
theorem dX9_adds_9 : decode cX9_adds 9 = .ok (.getfield 3, 3) := by decide +kernel
theorem dX9_adds_12 : decode cX9_adds 12 = .ok (.iload_n 2, 1) := by decide +kernel
theorem dX9_adds_13 : decode cX9_adds 13 = .ok (.iaload, 1) := by decide +kernel
theorem dX9_adds_14 : decode cX9_adds 14 = .ok (.if_icmp .le 12, 3) := by decide +kernel
theorem dX9_adds_17 : decode cX9_adds 17 = .ok (.aload_n 0, 1) := by decide +kernel
theorem dX9_adds_18 : decode cX9_adds 18 = .ok (.getfield 3, 3) := by decide +kernel
theorem dX9_adds_21 : decode cX9_adds 21 = .ok (.iload_n 1, 1) := by decide +kernel
theorem dX9_adds_22 : decode cX9_adds 22 = .ok (.iaload, 1) := by decide +kernel
theorem dX9_adds_23 : decode cX9_adds 23 = .ok (.goto 9, 3) := by decide +kernel
theorem dX9_adds_26 : decode cX9_adds 26 = .ok (.aload_n 0, 1) := by decide +kernel
theorem dX9_adds_27 : decode cX9_adds 27 = .ok (.getfield 3, 3) := by decide +kernel
theorem dX9_adds_30 : decode cX9_adds 30 = .ok (.iload_n 2, 1) := by decide +kernel
theorem dX9_adds_31 : decode cX9_adds 31 = .ok (.iaload, 1) := by decide +kernel
theorem dX9_adds_32 : decode cX9_adds 32 = .ok (.istore 4, 2) := by decide +kernel
theorem dX9_adds_34 : decode cX9_adds 34 = .ok (.iconst 0, 1) := by decide +kernel
theorem dX9_adds_35 : decode cX9_adds 35 = .ok (.istore 5, 2) := by decide +kernel
theorem dX9_adds_37 : decode cX9_adds 37 = .ok (.iload 5, 2) := by decide +kernel
theorem dX9_adds_39 : decode cX9_adds 39 = .ok (.iload 4, 2) := by decide +kernel
theorem dX9_adds_41 : decode cX9_adds 41 = .ok (.if_icmp .ge 61, 3) := by decide +kernel
theorem dX9_adds_44 : decode cX9_adds 44 = .ok (.aload_n 0, 1) := by decide +kernel
theorem dX9_adds_45 : decode cX9_adds 45 = .ok (.getfield 7, 3) := by decide +kernel
theorem dX9_adds_48 : decode cX9_adds 48 = .ok (.bipush 16, 2) := by decide +kernel
theorem dX9_adds_50 : decode cX9_adds 50 = .ok (.iload_n 1, 1) := by decide +kernel
theorem dX9_adds_51 : decode cX9_adds 51 = .ok (.imul, 1) := by decide +kernel
theorem dX9_adds_52 : decode cX9_adds 52 = .ok (.iload 5, 2) := by decide +kernel
theorem dX9_adds_54 : decode cX9_adds 54 = .ok (.iadd, 1) := by decide +kernel
theorem dX9_adds_55 : decode cX9_adds 55 = .ok (.iaload, 1) := by decide +kernel
theorem dX9_adds_56 : decode cX9_adds 56 = .ok (.aload_n 0, 1) := by decide +kernel
theorem dX9_adds_57 : decode cX9_adds 57 = .ok (.getfield 7, 3) := by decide +kernel
theorem dX9_adds_60 : decode cX9_adds 60 = .ok (.bipush 16, 2) := by decide +kernel
theorem dX9_adds_62 : decode cX9_adds 62 = .ok (.iload_n 2, 1) := by decide +kernel
theorem dX9_adds_63 : decode cX9_adds 63 = .ok (.imul, 1) := by decide +kernel
theorem dX9_adds_64 : decode cX9_adds 64 = .ok (.iload 5, 2) := by decide +kernel
theorem dX9_adds_66 : decode cX9_adds 66 = .ok (.iadd, 1) := by decide +kernel
theorem dX9_adds_67 : decode cX9_adds 67 = .ok (.iaload, 1) := by decide +kernel
theorem dX9_adds_68 : decode cX9_adds 68 = .ok (.iadd, 1) := by decide +kernel
theorem dX9_adds_69 : decode cX9_adds 69 = .ok (.iload_n 3, 1) := by decide +kernel
theorem dX9_adds_70 : decode cX9_adds 70 = .ok (.iadd, 1) := by decide +kernel
theorem dX9_adds_71 : decode cX9_adds 71 = .ok (.istore 6, 2) := by decide +kernel
theorem dX9_adds_73 : decode cX9_adds 73 = .ok (.aload_n 0, 1) := by decide +kernel
theorem dX9_adds_74 : decode cX9_adds 74 = .ok (.getfield 7, 3) := by decide +kernel
theorem dX9_adds_77 : decode cX9_adds 77 = .ok (.bipush 16, 2) := by decide +kernel
theorem dX9_adds_79 : decode cX9_adds 79 = .ok (.iload_n 1, 1) := by decide +kernel
theorem dX9_adds_80 : decode cX9_adds 80 = .ok (.imul, 1) := by decide +kernel
theorem dX9_adds_81 : decode cX9_adds 81 = .ok (.iload 5, 2) := by decide +kernel
theorem dX9_adds_83 : decode cX9_adds 83 = .ok (.iadd, 1) := by decide +kernel
theorem dX9_adds_84 : decode cX9_adds 84 = .ok (.iload 6, 2) := by decide +kernel
theorem dX9_adds_86 : decode cX9_adds 86 = .ok (.ldc 24, 2) := by decide +kernel
theorem dX9_adds_88 : decode cX9_adds 88 = .ok (.iand, 1) := by decide +kernel
theorem dX9_adds_89 : decode cX9_adds 89 = .ok (.iastore, 1) := by decide +kernel
theorem dX9_adds_90 : decode cX9_adds 90 = .ok (.iload 6, 2) := by decide +kernel
theorem dX9_adds_92 : decode cX9_adds 92 = .ok (.bipush 30, 2) := by decide +kernel
theorem dX9_adds_94 : decode cX9_adds 94 = .ok (.iushr, 1) := by decide +kernel
theorem dX9_adds_95 : decode cX9_adds 95 = .ok (.istore_n 3, 1) := by decide +kernel
theorem dX9_adds_96 : decode cX9_adds 96 = .ok (.iinc 5 1, 3) := by decide +kernel
theorem dX9_adds_99 : decode cX9_adds 99 = .ok (.goto (-62), 3) := by decide +kernel
theorem dX9_adds_102 : decode cX9_adds 102 = .ok (.aload_n 0, 1) := by decide +kernel
theorem dX9_adds_103 : decode cX9_adds 103 = .ok (.getfield 7, 3) := by decide +kernel
theorem dX9_adds_106 : decode cX9_adds 106 = .ok (.bipush 16, 2) := by decide +kernel
theorem dX9_adds_108 : decode cX9_adds 108 = .ok (.iload_n 1, 1) := by decide +kernel
theorem dX9_adds_109 : decode cX9_adds 109 = .ok (.imul, 1) := by decide +kernel
theorem dX9_adds_110 : decode cX9_adds 110 = .ok (.iload 4, 2) := by decide +kernel
theorem dX9_adds_112 : decode cX9_adds 112 = .ok (.iadd, 1) := by decide +kernel
theorem dX9_adds_113 : decode cX9_adds 113 = .ok (.iload_n 3, 1) := by decide +kernel
theorem dX9_adds_114 : decode cX9_adds 114 = .ok (.iastore, 1) := by decide +kernel
theorem dX9_adds_115 : decode cX9_adds 115 = .ok (.aload_n 0, 1) := by decide +kernel
theorem dX9_adds_116 : decode cX9_adds 116 = .ok (.getfield 3, 3) := by decide +kernel
theorem dX9_adds_119 : decode cX9_adds 119 = .ok (.iload_n 1, 1) := by decide +kernel
theorem dX9_adds_120 : decode cX9_adds 120 = .ok (.iload 4, 2) := by decide +kernel
theorem dX9_adds_122 : decode cX9_adds 122 = .ok (.iload_n 3, 1) := by decide +kernel
theorem dX9_adds_123 : decode cX9_adds 123 = .ok (.iadd, 1) := by decide +kernel
theorem dX9_adds_124 : decode cX9_adds 124 = .ok (.iastore, 1) := by decide +kernel
theorem dX9_adds_125 : decode cX9_adds 125 = .ok (.aload_n 0, 1) := by decide +kernel
theorem dX9_adds_126 : decode cX9_adds 126 = .ok (.iload_n 1, 1) := by decide +kernel
theorem dX9_adds_127 : decode cX9_adds 127 = .ok (.invokevirtual 12, 3) := by decide +kernel
theorem dX9_adds_130 : decode cX9_adds 130 = .ok (.return_, 1) := by decide +kernel
theorem me_X9_adds : cx_Mv yX9_adds cX9_adds 7 none 2 := ⟨⟨⟨by decide +kernel, by decide +kernel, by decide +kernel⟩, hw_11, hw_1335⟩, hw_1334, hs_66⟩
noncomputable def f_X9_adds_L37 (m_wide : Nat → Int32) (p1 : Int32) (p2 : Int32) (x4_9 : Int32) (rc37 : (Nat → Int32) → Int32 → Int32 → Option ((Nat → Int32) × (Nat → Int32))) (a_7 : Nat → Int32) (x3_8 : Int32) (x5_10 : Int32) : Option ((Nat → Int32) × (Nat → Int32)) := if x4_9 ≤ x5_10 then (cx_gd (cx_ib ((16 * p1) + x4_9) 4320) (cx_let (upd a_7 (cx_ix ((16 * p1) + x4_9)) x3_8) (fun a13 => cx_gd (cx_ib p1 270) (cx_let (upd m_wide (cx_ix p1) (x4_9 + x3_8)) (fun a15 => Option.bind (f_X9_trims a13 a15 p1) (fun u16 => some ((a13, u16)))))))) else (cx_gd (cx_ib ((16 * p1) + x5_10) 4320) (cx_gd (cx_ib ((16 * p2) + x5_10) 4320) (cx_let (((a_7 (cx_ix ((16 * p1) + x5_10))) + (a_7 (cx_ix ((16 * p2) + x5_10)))) + x3_8) (fun v20 => cx_gd (cx_ib ((16 * p1) + x5_10) 4320) (cx_let (upd a_7 (cx_ix ((16 * p1) + x5_10)) (v20 &&& 1073741823)) (fun a22 => cx_let ((Int32.toUInt32 v20 >>> (Int32.toUInt32 30 &&& Int32.toUInt32 31)).toInt32) (fun v23 => rc37 a22 v23 (x5_10 + 1))))))))
noncomputable def f_X9_adds_L37w (m_wide : Nat → Int32) (p1 : Int32) (p2 : Int32) (x4_9 : Int32) (n : Nat) : (Nat → Int32) → Int32 → Int32 → Option ((Nat → Int32) × (Nat → Int32)) := Nat.rec (fun _ _ _ => none) (fun _ r => f_X9_adds_L37 m_wide p1 p2 x4_9 r) n
noncomputable def f_X9_adds_J32 (m_limbs : Nat → Int32) (m_wide : Nat → Int32) (p1 : Int32) (p2 : Int32) (x3_5 : Int32) (s0_6 : Int32) : Option ((Nat → Int32) × (Nat → Int32)) := f_X9_adds_L37w m_wide p1 p2 s0_6 cx_N0 m_limbs x3_5 0
noncomputable def f_X9_adds (m_limbs : Nat → Int32) (m_wide : Nat → Int32) (p1 : Int32) (p2 : Int32) : Option ((Nat → Int32) × (Nat → Int32)) := cx_gd (cx_ib p1 270) (cx_gd (cx_ib p2 270) (if (m_wide (cx_ix p1)) ≤ (m_wide (cx_ix p2)) then (cx_gd (cx_ib p2 270) (f_X9_adds_J32 m_limbs m_wide p1 p2 0 (m_wide (cx_ix p2)))) else (cx_gd (cx_ib p1 270) (f_X9_adds_J32 m_limbs m_wide p1 p2 0 (m_wide (cx_ix p1))))))
set_option maxHeartbeats 4000000 in
set_option maxRecDepth 100000 in
theorem c_X9_adds (l : Launch) (D : va_G) (k : Nat → ClassId) (m_a : Nat → Nat) (m_limbs : Nat → Int32) (m_wide : Nat → Int32) (m_book : Nat → Int32) (m_images : Nat → Int32) (m_kept : Nat → Int32) (m_before : Nat → Int32) (m_refused : Nat → Int32) (m_quiet : Int32) (m_text : Nat → Int32) (m_typed : Int32) (m_at : Int32) (m_start : Int32) (m_token : Int32) (m_value : Int32) (m_items : Nat → Int32) (m_many : Int32) (m_is : Nat → Int32) (m_likes : Nat → Int32) (m_without : Int32) (m_onePicture : Int32) (m_oneYear : Int32) (m_first : Int32) (m_second : Int32) (m_names : Nat → Int32) (p1 : Int32) (p2 : Int32) (y : (Nat → Int32) × (Nat → Int32)) (hf : f_X9_adds m_limbs m_wide p1 p2 = some y) : cx_M l yX9_adds cX9_adds 7 none 2 D k [.ref (m_a 0), .int p1, .int p2] (wd_Model k m_a m_limbs m_wide m_book m_images m_kept m_before m_refused m_quiet m_text m_typed m_at m_start m_token m_value m_items m_many m_is m_likes m_without m_onePicture m_oneYear m_first m_second m_names) (fun sz => cx_Qv D (wd_Model k m_a m_limbs m_wide m_book m_images m_kept m_before m_refused m_quiet m_text m_typed m_at m_start m_token m_value m_items m_many m_is m_likes m_without m_onePicture m_oneYear m_first m_second m_names) (wd_Model k m_a y.1 y.2 m_book m_images m_kept m_before m_refused m_quiet m_text m_typed m_at m_start m_token m_value m_items m_many m_is m_likes m_without m_onePicture m_oneYear m_first m_second m_names) sz) := by
  refine cx_met (own := "NamelessBoxModel") (by decide) rfl (Nat.le_of_ble_eq_true rfl) ?_
  intro p e s m args below meth c A Q C hA hQ hr hlk
  refine cx_lv (lv' := [(0, .ref (m_a 0)), (1, .int p1), (2, .int p2)]) [0, 1, 2] rfl ?_
  have L37 : ∀ (x4_9 : Int32) (n37 : Nat) (a_7 : Nat → Int32) (x3_8 : Int32) (x5_10 : Int32), f_X9_adds_L37w m_wide p1 p2 x4_9 n37 a_7 x3_8 x5_10 = some y → cx_S p l e (cx_rm 2) s m args below meth c A D 7 0 0 Q 37 [(0, .ref (m_a 0)), (1, .int p1), (2, .int p2), (3, .int x3_8), (4, .int x4_9), (5, .int x5_10)] [] (wd_Model k m_a a_7 m_wide m_book m_images m_kept m_before m_refused m_quiet m_text m_typed m_at m_start m_token m_value m_items m_many m_is m_likes m_without m_onePicture m_oneYear m_first m_second m_names) := by
    intro x4_9 n37
    induction n37 with
    | zero =>
      intro a_7 x3_8 x5_10 hf
      exact absurd (show (none : Option ((Nat → Int32) × (Nat → Int32))) = some y from hf) (fun h => by cases h)
    | succ n37 ih37 =>
      intro a_7 x3_8 x5_10 hf
      have hf : f_X9_adds_L37 m_wide p1 p2 x4_9 (f_X9_adds_L37w m_wide p1 p2 x4_9 n37) a_7 x3_8 x5_10 = some y := hf
      unfold f_X9_adds_L37 at hf
      refine cx_iload C dX9_adds_37 5 rfl ?_
      refine cx_iload C dX9_adds_39 4 rfl ?_
      refine cx_icmp_ge (tgt := 102) C dX9_adds_41 (by decide) (fun c11 => ?_) (fun c11 => ?_)
      · have hf := cx_if_t hf c11
        clear c11
        refine cx_aload_n C dX9_adds_102 0 rfl ?_
        refine cx_get (v := .ref (m_a 1)) (ci := 8) C iX9 dX9_adds_103 0 rfl rfl 0 (by decide) hw_1054 rfl ?_
        refine cx_bipush (v := 16) C dX9_adds_106 (by decide) ?_
        refine cx_iload_n C dX9_adds_108 1 rfl ?_
        refine cx_imul C dX9_adds_109 ?_
        refine cx_iload C dX9_adds_110 4 rfl ?_
        refine cx_iadd C dX9_adds_112 ?_
        refine cx_iload_n C dX9_adds_113 3 rfl ?_
        obtain ⟨g12, hf⟩ := cx_gd_at hf
        obtain ⟨a13, ea13⟩ : ∃ z, z = upd a_7 (cx_ix ((16 * p1) + x4_9)) x3_8 := ⟨_, rfl⟩
        have hf := cx_let_at hf ea13
        refine cx_iast (ws' := (wd_Model k m_a a13 m_wide m_book m_images m_kept m_before m_refused m_quiet m_text m_typed m_at m_start m_token m_value m_items m_many m_is m_likes m_without m_onePicture m_oneYear m_first m_second m_names)) C dX9_adds_114 1 rfl (cx_ib_in g12) (by rw [ea13]; rfl) ?_
        clear ea13 g12
        refine cx_aload_n C dX9_adds_115 0 rfl ?_
        refine cx_get (v := .ref (m_a 2)) (ci := 8) C iX9 dX9_adds_116 0 rfl rfl 1 (by decide) hw_1055 rfl ?_
        refine cx_iload_n C dX9_adds_119 1 rfl ?_
        refine cx_iload C dX9_adds_120 4 rfl ?_
        refine cx_iload_n C dX9_adds_122 3 rfl ?_
        refine cx_iadd C dX9_adds_123 ?_
        obtain ⟨g14, hf⟩ := cx_gd_at hf
        obtain ⟨a15, ea15⟩ : ∃ z, z = upd m_wide (cx_ix p1) (x4_9 + x3_8) := ⟨_, rfl⟩
        have hf := cx_let_at hf ea15
        refine cx_iast (ws' := (wd_Model k m_a a13 a15 m_book m_images m_kept m_before m_refused m_quiet m_text m_typed m_at m_start m_token m_value m_items m_many m_is m_likes m_without m_onePicture m_oneYear m_first m_second m_names)) C dX9_adds_124 2 rfl (cx_ib_in g14) (by rw [ea15]; rfl) ?_
        clear ea15 g14
        refine cx_aload_n C dX9_adds_125 0 rfl ?_
        refine cx_iload_n C dX9_adds_126 1 rfl ?_
        obtain ⟨u16, e17, hf⟩ := cx_bd_at hf
        refine cx_Fvv (q := (RX9, TX9, 24)) (As := [.int p1]) (rest := []) (w1 := (wd_Model k m_a a13 u16 m_book m_images m_kept m_before m_refused m_quiet m_text m_typed m_at m_start m_token m_value m_items m_many m_is m_likes m_without m_onePicture m_oneYear m_first m_second m_names)) hA C me_X9_trims hw_1050 (c_X9_trims l D k m_a a13 a15 m_book m_images m_kept m_before m_refused m_quiet m_text m_typed m_at m_start m_token m_value m_items m_many m_is m_likes m_without m_onePicture m_oneYear m_first m_second m_names p1 u16 e17) dX9_adds_127 ⟨Nat.le_of_ble_eq_true rfl, Nat.le_of_ble_eq_true rfl⟩ ⟨Nat.zero_le _, Nat.zero_le _⟩ rfl rfl (Nat.le_of_ble_eq_true rfl) rfl rfl rfl ?_
        clear e17
        obtain rfl := Option.some.inj hf
        exact cx_vret C hA hQ hr hlk dX9_adds_130 rfl
      · have hf := cx_if_f hf c11
        clear c11
        refine cx_aload_n C dX9_adds_44 0 rfl ?_
        refine cx_get (v := .ref (m_a 1)) (ci := 8) C iX9 dX9_adds_45 0 rfl rfl 0 (by decide) hw_1054 rfl ?_
        refine cx_bipush (v := 16) C dX9_adds_48 (by decide) ?_
        refine cx_iload_n C dX9_adds_50 1 rfl ?_
        refine cx_imul C dX9_adds_51 ?_
        refine cx_iload C dX9_adds_52 5 rfl ?_
        refine cx_iadd C dX9_adds_54 ?_
        obtain ⟨g18, hf⟩ := cx_gd_at hf
        refine cx_iald C dX9_adds_55 1 rfl (cx_ib_in g18) ?_
        clear g18
        refine cx_aload_n C dX9_adds_56 0 rfl ?_
        refine cx_get (v := .ref (m_a 1)) (ci := 8) C iX9 dX9_adds_57 0 rfl rfl 0 (by decide) hw_1054 rfl ?_
        refine cx_bipush (v := 16) C dX9_adds_60 (by decide) ?_
        refine cx_iload_n C dX9_adds_62 2 rfl ?_
        refine cx_imul C dX9_adds_63 ?_
        refine cx_iload C dX9_adds_64 5 rfl ?_
        refine cx_iadd C dX9_adds_66 ?_
        obtain ⟨g19, hf⟩ := cx_gd_at hf
        refine cx_iald C dX9_adds_67 1 rfl (cx_ib_in g19) ?_
        clear g19
        refine cx_iadd C dX9_adds_68 ?_
        refine cx_iload_n C dX9_adds_69 3 rfl ?_
        refine cx_iadd C dX9_adds_70 ?_
        refine cx_topi (fun v20 ev20 => ?_)
        have hf := cx_let_at hf ev20
        clear ev20
        refine cx_istore (lv' := [(6, .int v20), (0, .ref (m_a 0)), (1, .int p1), (2, .int p2), (3, .int x3_8), (4, .int x4_9), (5, .int x5_10)]) C dX9_adds_71 (by decide) rfl ?_
        refine cx_aload_n C dX9_adds_73 1 rfl ?_
        refine cx_get (v := .ref (m_a 1)) (ci := 8) C iX9 dX9_adds_74 0 rfl rfl 0 (by decide) hw_1054 rfl ?_
        refine cx_bipush (v := 16) C dX9_adds_77 (by decide) ?_
        refine cx_iload_n C dX9_adds_79 2 rfl ?_
        refine cx_imul C dX9_adds_80 ?_
        refine cx_iload C dX9_adds_81 6 rfl ?_
        refine cx_iadd C dX9_adds_83 ?_
        refine cx_iload C dX9_adds_84 0 rfl ?_
        refine cx_ldc (v := 1073741823) C dX9_adds_86 hw_1336 ?_
        refine cx_iand C dX9_adds_88 ?_
        obtain ⟨g21, hf⟩ := cx_gd_at hf
        obtain ⟨a22, ea22⟩ : ∃ z, z = upd a_7 (cx_ix ((16 * p1) + x5_10)) (v20 &&& 1073741823) := ⟨_, rfl⟩
        have hf := cx_let_at hf ea22
        refine cx_iast (ws' := (wd_Model k m_a a22 m_wide m_book m_images m_kept m_before m_refused m_quiet m_text m_typed m_at m_start m_token m_value m_items m_many m_is m_likes m_without m_onePicture m_oneYear m_first m_second m_names)) C dX9_adds_89 1 rfl (cx_ib_in g21) (by rw [ea22]; rfl) ?_
        clear ea22 g21
        refine cx_iload C dX9_adds_90 0 rfl ?_
        refine cx_bipush (v := 30) C dX9_adds_92 (by decide) ?_
        refine cx_iushr C dX9_adds_94 ?_
        refine cx_topi (fun v23 ev23 => ?_)
        have hf := cx_let_at hf ev23
        clear ev23
        refine cx_istore_n (lv' := [(3, .int v23), (6, .int v20), (0, .ref (m_a 0)), (1, .int p1), (2, .int p2), (4, .int x4_9), (5, .int x5_10)]) C dX9_adds_95 rfl (by decide) rfl ?_
        refine cx_iinc (v := x5_10 + 1) (lv' := [(5, .int (x5_10 + 1)), (3, .int v23), (6, .int v20), (0, .ref (m_a 0)), (1, .int p1), (2, .int p2), (4, .int x4_9)]) C dX9_adds_96 6 rfl rfl (by decide) rfl ?_
        refine cx_goto (tgt := 37) C dX9_adds_99 (by decide) ?_
        refine cx_lv [3, 4, 5, 1, 6, 0] rfl ?_
        exact ih37 a22 v23 (x5_10 + 1) hf
  have J32 : ∀ (x3_5 : Int32) (s0_6 : Int32), f_X9_adds_J32 m_limbs m_wide p1 p2 x3_5 s0_6 = some y → cx_S p l e (cx_rm 2) s m args below meth c A D 7 0 0 Q 32 [(0, .ref (m_a 0)), (1, .int p1), (2, .int p2), (3, .int x3_5)] [.int s0_6] (wd_Model k m_a m_limbs m_wide m_book m_images m_kept m_before m_refused m_quiet m_text m_typed m_at m_start m_token m_value m_items m_many m_is m_likes m_without m_onePicture m_oneYear m_first m_second m_names) := by
    intro x3_5 s0_6 hf
    unfold f_X9_adds_J32 at hf
    refine cx_istore (lv' := [(4, .int s0_6), (0, .ref (m_a 0)), (1, .int p1), (2, .int p2), (3, .int x3_5)]) C dX9_adds_32 (by decide) rfl ?_
    refine cx_iconst (v := 0) C dX9_adds_34 (by decide) ?_
    refine cx_istore (lv' := [(5, .int 0), (4, .int s0_6), (0, .ref (m_a 0)), (1, .int p1), (2, .int p2), (3, .int x3_5)]) C dX9_adds_35 (by decide) rfl ?_
    refine cx_lv [2, 3, 4, 5, 1, 0] rfl ?_
    exact L37 s0_6 cx_N0 m_limbs x3_5 0 hf
  unfold f_X9_adds at hf
  refine cx_iconst (v := 0) C dX9_adds_0 (by decide) ?_
  refine cx_istore_n (lv' := [(3, .int 0), (0, .ref (m_a 0)), (1, .int p1), (2, .int p2)]) C dX9_adds_1 rfl (by decide) rfl ?_
  refine cx_aload_n C dX9_adds_2 1 rfl ?_
  refine cx_get (v := .ref (m_a 2)) (ci := 8) C iX9 dX9_adds_3 0 rfl rfl 1 (by decide) hw_1055 rfl ?_
  refine cx_iload_n C dX9_adds_6 2 rfl ?_
  obtain ⟨g1, hf⟩ := cx_gd_at hf
  refine cx_iald C dX9_adds_7 2 rfl (cx_ib_in g1) ?_
  clear g1
  refine cx_aload_n C dX9_adds_8 1 rfl ?_
  refine cx_get (v := .ref (m_a 2)) (ci := 8) C iX9 dX9_adds_9 0 rfl rfl 1 (by decide) hw_1055 rfl ?_
  refine cx_iload_n C dX9_adds_12 3 rfl ?_
  obtain ⟨g2, hf⟩ := cx_gd_at hf
  refine cx_iald C dX9_adds_13 2 rfl (cx_ib_in g2) ?_
  clear g2
  refine cx_icmp_le (tgt := 26) C dX9_adds_14 (by decide) (fun c3 => ?_) (fun c3 => ?_)
  · have hf := cx_if_t hf c3
    clear c3
    refine cx_aload_n C dX9_adds_26 1 rfl ?_
    refine cx_get (v := .ref (m_a 2)) (ci := 8) C iX9 dX9_adds_27 0 rfl rfl 1 (by decide) hw_1055 rfl ?_
    refine cx_iload_n C dX9_adds_30 3 rfl ?_
    obtain ⟨g4, hf⟩ := cx_gd_at hf
    refine cx_iald C dX9_adds_31 2 rfl (cx_ib_in g4) ?_
    clear g4
    refine cx_lv [1, 2, 3, 0] rfl ?_
    exact J32 0 (m_wide (cx_ix p2)) hf
  · have hf := cx_if_f hf c3
    clear c3
    refine cx_aload_n C dX9_adds_17 1 rfl ?_
    refine cx_get (v := .ref (m_a 2)) (ci := 8) C iX9 dX9_adds_18 0 rfl rfl 1 (by decide) hw_1055 rfl ?_
    refine cx_iload_n C dX9_adds_21 2 rfl ?_
    obtain ⟨g24, hf⟩ := cx_gd_at hf
    refine cx_iald C dX9_adds_22 2 rfl (cx_ib_in g24) ?_
    clear g24
    refine cx_goto (tgt := 32) C dX9_adds_23 (by decide) ?_
    refine cx_lv [1, 2, 3, 0] rfl ?_
    exact J32 0 (m_wide (cx_ix p1)) hf
theorem dX9_lessens_0 : decode cX9_lessens 0 = .ok (.iconst 0, 1) := by decide +kernel
theorem dX9_lessens_1 : decode cX9_lessens 1 = .ok (.istore_n 3, 1) := by decide +kernel
theorem dX9_lessens_2 : decode cX9_lessens 2 = .ok (.iconst 0, 1) := by decide +kernel
theorem dX9_lessens_3 : decode cX9_lessens 3 = .ok (.istore 4, 2) := by decide +kernel
theorem dX9_lessens_5 : decode cX9_lessens 5 = .ok (.iload 4, 2) := by decide +kernel
theorem dX9_lessens_7 : decode cX9_lessens 7 = .ok (.aload_n 0, 1) := by decide +kernel
theorem dX9_lessens_8 : decode cX9_lessens 8 = .ok (.getfield 3, 3) := by decide +kernel
theorem dX9_lessens_11 : decode cX9_lessens 11 = .ok (.iload_n 1, 1) := by decide +kernel
theorem dX9_lessens_12 : decode cX9_lessens 12 = .ok (.iaload, 1) := by decide +kernel
theorem dX9_lessens_13 : decode cX9_lessens 13 = .ok (.if_icmp .ge 66, 3) := by decide +kernel
theorem dX9_lessens_16 : decode cX9_lessens 16 = .ok (.aload_n 0, 1) := by decide +kernel
theorem dX9_lessens_17 : decode cX9_lessens 17 = .ok (.getfield 7, 3) := by decide +kernel
theorem dX9_lessens_20 : decode cX9_lessens 20 = .ok (.bipush 16, 2) := by decide +kernel
theorem dX9_lessens_22 : decode cX9_lessens 22 = .ok (.iload_n 1, 1) := by decide +kernel
theorem dX9_lessens_23 : decode cX9_lessens 23 = .ok (.imul, 1) := by decide +kernel
theorem dX9_lessens_24 : decode cX9_lessens 24 = .ok (.iload 4, 2) := by decide +kernel
theorem dX9_lessens_26 : decode cX9_lessens 26 = .ok (.iadd, 1) := by decide +kernel
theorem dX9_lessens_27 : decode cX9_lessens 27 = .ok (.iaload, 1) := by decide +kernel
theorem dX9_lessens_28 : decode cX9_lessens 28 = .ok (.aload_n 0, 1) := by decide +kernel
theorem dX9_lessens_29 : decode cX9_lessens 29 = .ok (.getfield 7, 3) := by decide +kernel
theorem dX9_lessens_32 : decode cX9_lessens 32 = .ok (.bipush 16, 2) := by decide +kernel
theorem dX9_lessens_34 : decode cX9_lessens 34 = .ok (.iload_n 2, 1) := by decide +kernel
theorem dX9_lessens_35 : decode cX9_lessens 35 = .ok (.imul, 1) := by decide +kernel
theorem dX9_lessens_36 : decode cX9_lessens 36 = .ok (.iload 4, 2) := by decide +kernel
theorem dX9_lessens_38 : decode cX9_lessens 38 = .ok (.iadd, 1) := by decide +kernel
theorem dX9_lessens_39 : decode cX9_lessens 39 = .ok (.iaload, 1) := by decide +kernel
theorem dX9_lessens_40 : decode cX9_lessens 40 = .ok (.isub, 1) := by decide +kernel
theorem dX9_lessens_41 : decode cX9_lessens 41 = .ok (.iload_n 3, 1) := by decide +kernel
theorem dX9_lessens_42 : decode cX9_lessens 42 = .ok (.isub, 1) := by decide +kernel
theorem dX9_lessens_43 : decode cX9_lessens 43 = .ok (.istore 5, 2) := by decide +kernel
theorem dX9_lessens_45 : decode cX9_lessens 45 = .ok (.aload_n 0, 1) := by decide +kernel
theorem dX9_lessens_46 : decode cX9_lessens 46 = .ok (.getfield 7, 3) := by decide +kernel
theorem dX9_lessens_49 : decode cX9_lessens 49 = .ok (.bipush 16, 2) := by decide +kernel
theorem dX9_lessens_51 : decode cX9_lessens 51 = .ok (.iload_n 1, 1) := by decide +kernel
theorem dX9_lessens_52 : decode cX9_lessens 52 = .ok (.imul, 1) := by decide +kernel
theorem dX9_lessens_53 : decode cX9_lessens 53 = .ok (.iload 4, 2) := by decide +kernel
theorem dX9_lessens_55 : decode cX9_lessens 55 = .ok (.iadd, 1) := by decide +kernel
theorem dX9_lessens_56 : decode cX9_lessens 56 = .ok (.iload 5, 2) := by decide +kernel
theorem dX9_lessens_58 : decode cX9_lessens 58 = .ok (.ldc 24, 2) := by decide +kernel
theorem dX9_lessens_60 : decode cX9_lessens 60 = .ok (.iand, 1) := by decide +kernel
theorem dX9_lessens_61 : decode cX9_lessens 61 = .ok (.iastore, 1) := by decide +kernel
theorem dX9_lessens_62 : decode cX9_lessens 62 = .ok (.iload 5, 2) := by decide +kernel
theorem dX9_lessens_64 : decode cX9_lessens 64 = .ok (.ifCond .ge 7, 3) := by decide +kernel
theorem dX9_lessens_67 : decode cX9_lessens 67 = .ok (.iconst 1, 1) := by decide +kernel
theorem dX9_lessens_68 : decode cX9_lessens 68 = .ok (.goto 4, 3) := by decide +kernel
theorem dX9_lessens_71 : decode cX9_lessens 71 = .ok (.iconst 0, 1) := by decide +kernel
theorem dX9_lessens_72 : decode cX9_lessens 72 = .ok (.istore_n 3, 1) := by decide +kernel
theorem dX9_lessens_73 : decode cX9_lessens 73 = .ok (.iinc 4 1, 3) := by decide +kernel
theorem dX9_lessens_76 : decode cX9_lessens 76 = .ok (.goto (-71), 3) := by decide +kernel
theorem dX9_lessens_79 : decode cX9_lessens 79 = .ok (.aload_n 0, 1) := by decide +kernel
theorem dX9_lessens_80 : decode cX9_lessens 80 = .ok (.iload_n 1, 1) := by decide +kernel
theorem dX9_lessens_81 : decode cX9_lessens 81 = .ok (.invokevirtual 12, 3) := by decide +kernel
theorem dX9_lessens_84 : decode cX9_lessens 84 = .ok (.return_, 1) := by decide +kernel
theorem me_X9_lessens : cx_Mv yX9_lessens cX9_lessens 6 none 2 := ⟨⟨⟨by decide +kernel, by decide +kernel, by decide +kernel⟩, hw_11, hw_1364⟩, hw_1363, hs_73⟩
noncomputable def f_X9_lessens_J72 (x4_3 : Int32) (rc5 : (Nat → Int32) → Int32 → Int32 → Option ((Nat → Int32) × (Nat → Int32))) (a_14 : Nat → Int32) (s0_15 : Int32) : Option ((Nat → Int32) × (Nat → Int32)) := rc5 a_14 s0_15 (x4_3 + 1)
noncomputable def f_X9_lessens_L5 (m_wide : Nat → Int32) (p1 : Int32) (p2 : Int32) (rc5 : (Nat → Int32) → Int32 → Int32 → Option ((Nat → Int32) × (Nat → Int32))) (a_1 : Nat → Int32) (x3_2 : Int32) (x4_3 : Int32) : Option ((Nat → Int32) × (Nat → Int32)) := cx_gd (cx_ib p1 270) (if (m_wide (cx_ix p1)) ≤ x4_3 then (Option.bind (f_X9_trims a_1 m_wide p1) (fun u6 => some ((a_1, u6)))) else (cx_gd (cx_ib ((16 * p1) + x4_3) 4320) (cx_gd (cx_ib ((16 * p2) + x4_3) 4320) (cx_let (((a_1 (cx_ix ((16 * p1) + x4_3))) - (a_1 (cx_ix ((16 * p2) + x4_3)))) - x3_2) (fun v10 => cx_gd (cx_ib ((16 * p1) + x4_3) 4320) (cx_let (upd a_1 (cx_ix ((16 * p1) + x4_3)) (v10 &&& 1073741823)) (fun a12 => if 0 ≤ v10 then (f_X9_lessens_J72 x4_3 rc5 a12 0) else (f_X9_lessens_J72 x4_3 rc5 a12 1))))))))
noncomputable def f_X9_lessens_L5w (m_wide : Nat → Int32) (p1 : Int32) (p2 : Int32) (n : Nat) : (Nat → Int32) → Int32 → Int32 → Option ((Nat → Int32) × (Nat → Int32)) := Nat.rec (fun _ _ _ => none) (fun _ r => f_X9_lessens_L5 m_wide p1 p2 r) n
noncomputable def f_X9_lessens (m_limbs : Nat → Int32) (m_wide : Nat → Int32) (p1 : Int32) (p2 : Int32) : Option ((Nat → Int32) × (Nat → Int32)) := f_X9_lessens_L5w m_wide p1 p2 cx_N0 m_limbs 0 0
set_option maxHeartbeats 4000000 in
set_option maxRecDepth 100000 in
theorem c_X9_lessens (l : Launch) (D : va_G) (k : Nat → ClassId) (m_a : Nat → Nat) (m_limbs : Nat → Int32) (m_wide : Nat → Int32) (m_book : Nat → Int32) (m_images : Nat → Int32) (m_kept : Nat → Int32) (m_before : Nat → Int32) (m_refused : Nat → Int32) (m_quiet : Int32) (m_text : Nat → Int32) (m_typed : Int32) (m_at : Int32) (m_start : Int32) (m_token : Int32) (m_value : Int32) (m_items : Nat → Int32) (m_many : Int32) (m_is : Nat → Int32) (m_likes : Nat → Int32) (m_without : Int32) (m_onePicture : Int32) (m_oneYear : Int32) (m_first : Int32) (m_second : Int32) (m_names : Nat → Int32) (p1 : Int32) (p2 : Int32) (y : (Nat → Int32) × (Nat → Int32)) (hf : f_X9_lessens m_limbs m_wide p1 p2 = some y) : cx_M l yX9_lessens cX9_lessens 6 none 2 D k [.ref (m_a 0), .int p1, .int p2] (wd_Model k m_a m_limbs m_wide m_book m_images m_kept m_before m_refused m_quiet m_text m_typed m_at m_start m_token m_value m_items m_many m_is m_likes m_without m_onePicture m_oneYear m_first m_second m_names) (fun sz => cx_Qv D (wd_Model k m_a m_limbs m_wide m_book m_images m_kept m_before m_refused m_quiet m_text m_typed m_at m_start m_token m_value m_items m_many m_is m_likes m_without m_onePicture m_oneYear m_first m_second m_names) (wd_Model k m_a y.1 y.2 m_book m_images m_kept m_before m_refused m_quiet m_text m_typed m_at m_start m_token m_value m_items m_many m_is m_likes m_without m_onePicture m_oneYear m_first m_second m_names) sz) := by
  refine cx_met (own := "NamelessBoxModel") (by decide) rfl (Nat.le_of_ble_eq_true rfl) ?_
  intro p e s m args below meth c A Q C hA hQ hr hlk
  refine cx_lv (lv' := [(0, .ref (m_a 0)), (1, .int p1), (2, .int p2)]) [0, 1, 2] rfl ?_
  have L5 : ∀ (n5 : Nat) (a_1 : Nat → Int32) (x3_2 : Int32) (x4_3 : Int32), f_X9_lessens_L5w m_wide p1 p2 n5 a_1 x3_2 x4_3 = some y → cx_S p l e (cx_rm 2) s m args below meth c A D 6 0 0 Q 5 [(0, .ref (m_a 0)), (1, .int p1), (2, .int p2), (3, .int x3_2), (4, .int x4_3)] [] (wd_Model k m_a a_1 m_wide m_book m_images m_kept m_before m_refused m_quiet m_text m_typed m_at m_start m_token m_value m_items m_many m_is m_likes m_without m_onePicture m_oneYear m_first m_second m_names) := by
    intro  n5
    induction n5 with
    | zero =>
      intro a_1 x3_2 x4_3 hf
      exact absurd (show (none : Option ((Nat → Int32) × (Nat → Int32))) = some y from hf) (fun h => by cases h)
    | succ n5 ih5 =>
      intro a_1 x3_2 x4_3 hf
      have hf : f_X9_lessens_L5 m_wide p1 p2 (f_X9_lessens_L5w m_wide p1 p2 n5) a_1 x3_2 x4_3 = some y := hf
      have J72 : ∀ (a_14 : Nat → Int32) (s0_15 : Int32), f_X9_lessens_J72 x4_3 (f_X9_lessens_L5w m_wide p1 p2 n5) a_14 s0_15 = some y → cx_S p l e (cx_rm 2) s m args below meth c A D 6 0 0 Q 72 [(0, .ref (m_a 0)), (1, .int p1), (2, .int p2), (4, .int x4_3)] [.int s0_15] (wd_Model k m_a a_14 m_wide m_book m_images m_kept m_before m_refused m_quiet m_text m_typed m_at m_start m_token m_value m_items m_many m_is m_likes m_without m_onePicture m_oneYear m_first m_second m_names) := by
        intro a_14 s0_15 hf
        unfold f_X9_lessens_J72 at hf
        refine cx_istore_n (lv' := [(3, .int s0_15), (0, .ref (m_a 0)), (1, .int p1), (2, .int p2), (4, .int x4_3)]) C dX9_lessens_72 rfl (by decide) rfl ?_
        refine cx_iinc (v := x4_3 + 1) (lv' := [(4, .int (x4_3 + 1)), (3, .int s0_15), (0, .ref (m_a 0)), (1, .int p1), (2, .int p2)]) C dX9_lessens_73 4 rfl rfl (by decide) rfl ?_
        refine cx_goto (tgt := 5) C dX9_lessens_76 (by decide) ?_
        refine cx_lv [2, 3, 4, 1, 0] rfl ?_
        exact ih5 a_14 s0_15 (x4_3 + 1) hf
      unfold f_X9_lessens_L5 at hf
      refine cx_iload C dX9_lessens_5 4 rfl ?_
      refine cx_aload_n C dX9_lessens_7 0 rfl ?_
      refine cx_get (v := .ref (m_a 2)) (ci := 8) C iX9 dX9_lessens_8 0 rfl rfl 1 (by decide) hw_1055 rfl ?_
      refine cx_iload_n C dX9_lessens_11 1 rfl ?_
      obtain ⟨g4, hf⟩ := cx_gd_at hf
      refine cx_iald C dX9_lessens_12 2 rfl (cx_ib_in g4) ?_
      clear g4
      refine cx_icmp_ge (tgt := 79) C dX9_lessens_13 (by decide) (fun c5 => ?_) (fun c5 => ?_)
      · have hf := cx_if_t hf c5
        clear c5
        refine cx_aload_n C dX9_lessens_79 0 rfl ?_
        refine cx_iload_n C dX9_lessens_80 1 rfl ?_
        obtain ⟨u6, e7, hf⟩ := cx_bd_at hf
        refine cx_Fvv (q := (RX9, TX9, 24)) (As := [.int p1]) (rest := []) (w1 := (wd_Model k m_a a_1 u6 m_book m_images m_kept m_before m_refused m_quiet m_text m_typed m_at m_start m_token m_value m_items m_many m_is m_likes m_without m_onePicture m_oneYear m_first m_second m_names)) hA C me_X9_trims hw_1050 (c_X9_trims l D k m_a a_1 m_wide m_book m_images m_kept m_before m_refused m_quiet m_text m_typed m_at m_start m_token m_value m_items m_many m_is m_likes m_without m_onePicture m_oneYear m_first m_second m_names p1 u6 e7) dX9_lessens_81 ⟨Nat.le_of_ble_eq_true rfl, Nat.le_of_ble_eq_true rfl⟩ ⟨Nat.zero_le _, Nat.zero_le _⟩ rfl rfl (Nat.le_of_ble_eq_true rfl) rfl rfl rfl ?_
        clear e7
        obtain rfl := Option.some.inj hf
        exact cx_vret C hA hQ hr hlk dX9_lessens_84 rfl
      · have hf := cx_if_f hf c5
        clear c5
        refine cx_aload_n C dX9_lessens_16 0 rfl ?_
        refine cx_get (v := .ref (m_a 1)) (ci := 8) C iX9 dX9_lessens_17 0 rfl rfl 0 (by decide) hw_1054 rfl ?_
        refine cx_bipush (v := 16) C dX9_lessens_20 (by decide) ?_
        refine cx_iload_n C dX9_lessens_22 1 rfl ?_
        refine cx_imul C dX9_lessens_23 ?_
        refine cx_iload C dX9_lessens_24 4 rfl ?_
        refine cx_iadd C dX9_lessens_26 ?_
        obtain ⟨g8, hf⟩ := cx_gd_at hf
        refine cx_iald C dX9_lessens_27 1 rfl (cx_ib_in g8) ?_
        clear g8
        refine cx_aload_n C dX9_lessens_28 0 rfl ?_
        refine cx_get (v := .ref (m_a 1)) (ci := 8) C iX9 dX9_lessens_29 0 rfl rfl 0 (by decide) hw_1054 rfl ?_
        refine cx_bipush (v := 16) C dX9_lessens_32 (by decide) ?_
        refine cx_iload_n C dX9_lessens_34 2 rfl ?_
        refine cx_imul C dX9_lessens_35 ?_
        refine cx_iload C dX9_lessens_36 4 rfl ?_
        refine cx_iadd C dX9_lessens_38 ?_
        obtain ⟨g9, hf⟩ := cx_gd_at hf
        refine cx_iald C dX9_lessens_39 1 rfl (cx_ib_in g9) ?_
        clear g9
        refine cx_isub C dX9_lessens_40 ?_
        refine cx_iload_n C dX9_lessens_41 3 rfl ?_
        refine cx_isub C dX9_lessens_42 ?_
        refine cx_topi (fun v10 ev10 => ?_)
        have hf := cx_let_at hf ev10
        clear ev10
        refine cx_istore (lv' := [(5, .int v10), (0, .ref (m_a 0)), (1, .int p1), (2, .int p2), (3, .int x3_2), (4, .int x4_3)]) C dX9_lessens_43 (by decide) rfl ?_
        refine cx_aload_n C dX9_lessens_45 1 rfl ?_
        refine cx_get (v := .ref (m_a 1)) (ci := 8) C iX9 dX9_lessens_46 0 rfl rfl 0 (by decide) hw_1054 rfl ?_
        refine cx_bipush (v := 16) C dX9_lessens_49 (by decide) ?_
        refine cx_iload_n C dX9_lessens_51 2 rfl ?_
        refine cx_imul C dX9_lessens_52 ?_
        refine cx_iload C dX9_lessens_53 5 rfl ?_
        refine cx_iadd C dX9_lessens_55 ?_
        refine cx_iload C dX9_lessens_56 0 rfl ?_
        refine cx_ldc (v := 1073741823) C dX9_lessens_58 hw_1336 ?_
        refine cx_iand C dX9_lessens_60 ?_
        obtain ⟨g11, hf⟩ := cx_gd_at hf
        obtain ⟨a12, ea12⟩ : ∃ z, z = upd a_1 (cx_ix ((16 * p1) + x4_3)) (v10 &&& 1073741823) := ⟨_, rfl⟩
        have hf := cx_let_at hf ea12
        refine cx_iast (ws' := (wd_Model k m_a a12 m_wide m_book m_images m_kept m_before m_refused m_quiet m_text m_typed m_at m_start m_token m_value m_items m_many m_is m_likes m_without m_onePicture m_oneYear m_first m_second m_names)) C dX9_lessens_61 1 rfl (cx_ib_in g11) (by rw [ea12]; rfl) ?_
        clear ea12 g11
        refine cx_iload C dX9_lessens_62 0 rfl ?_
        refine cx_if_ge (tgt := 71) C dX9_lessens_64 (by decide) (fun c13 => ?_) (fun c13 => ?_)
        · have hf := cx_if_t hf c13
          clear c13
          refine cx_iconst (v := 0) C dX9_lessens_71 (by decide) ?_
          refine cx_lv [1, 2, 3, 5] rfl ?_
          exact J72 a12 0 hf
        · have hf := cx_if_f hf c13
          clear c13
          refine cx_iconst (v := 1) C dX9_lessens_67 (by decide) ?_
          refine cx_goto (tgt := 72) C dX9_lessens_68 (by decide) ?_
          refine cx_lv [1, 2, 3, 5] rfl ?_
          exact J72 a12 1 hf
  unfold f_X9_lessens at hf
  refine cx_iconst (v := 0) C dX9_lessens_0 (by decide) ?_
  refine cx_istore_n (lv' := [(3, .int 0), (0, .ref (m_a 0)), (1, .int p1), (2, .int p2)]) C dX9_lessens_1 rfl (by decide) rfl ?_
  refine cx_iconst (v := 0) C dX9_lessens_2 (by decide) ?_
  refine cx_istore (lv' := [(4, .int 0), (3, .int 0), (0, .ref (m_a 0)), (1, .int p1), (2, .int p2)]) C dX9_lessens_3 (by decide) rfl ?_
  refine cx_lv [2, 3, 4, 1, 0] rfl ?_
  exact L5 cx_N0 m_limbs 0 0 hf
theorem dX9_against_0 : decode cX9_against 0 = .ok (.aload_n 0, 1) := by decide +kernel
theorem dX9_against_1 : decode cX9_against 1 = .ok (.getfield 3, 3) := by decide +kernel
theorem dX9_against_4 : decode cX9_against 4 = .ok (.iload_n 1, 1) := by decide +kernel
theorem dX9_against_5 : decode cX9_against 5 = .ok (.iaload, 1) := by decide +kernel
theorem dX9_against_6 : decode cX9_against 6 = .ok (.aload_n 0, 1) := by decide +kernel
theorem dX9_against_7 : decode cX9_against 7 = .ok (.getfield 3, 3) := by decide +kernel
theorem dX9_against_10 : decode cX9_against 10 = .ok (.iload_n 2, 1) := by decide +kernel
theorem dX9_against_11 : decode cX9_against 11 = .ok (.iaload, 1) := by decide +kernel
theorem dX9_against_12 : decode cX9_against 12 = .ok (.if_icmp .eq 24, 3) := by decide +kernel
theorem dX9_against_15 : decode cX9_against 15 = .ok (.aload_n 0, 1) := by decide +kernel
theorem dX9_against_16 : decode cX9_against 16 = .ok (.getfield 3, 3) := by decide +kernel
theorem dX9_against_19 : decode cX9_against 19 = .ok (.iload_n 1, 1) := by decide +kernel
theorem dX9_against_20 : decode cX9_against 20 = .ok (.iaload, 1) := by decide +kernel
theorem dX9_against_21 : decode cX9_against 21 = .ok (.aload_n 0, 1) := by decide +kernel
theorem dX9_against_22 : decode cX9_against 22 = .ok (.getfield 3, 3) := by decide +kernel
theorem dX9_against_25 : decode cX9_against 25 = .ok (.iload_n 2, 1) := by decide +kernel
theorem dX9_against_26 : decode cX9_against 26 = .ok (.iaload, 1) := by decide +kernel
theorem dX9_against_27 : decode cX9_against 27 = .ok (.if_icmp .ge 7, 3) := by decide +kernel
theorem dX9_against_30 : decode cX9_against 30 = .ok (.iconst (-1), 1) := by decide +kernel
theorem dX9_against_31 : decode cX9_against 31 = .ok (.goto 4, 3) := by decide +kernel
theorem dX9_against_34 : decode cX9_against 34 = .ok (.iconst 1, 1) := by decide +kernel
theorem dX9_against_35 : decode cX9_against 35 = .ok (.ireturn, 1) := by decide +kernel
theorem dX9_against_36 : decode cX9_against 36 = .ok (.aload_n 0, 1) := by decide +kernel
theorem dX9_against_37 : decode cX9_against 37 = .ok (.getfield 3, 3) := by decide +kernel
theorem dX9_against_40 : decode cX9_against 40 = .ok (.iload_n 1, 1) := by decide +kernel
theorem dX9_against_41 : decode cX9_against 41 = .ok (.iaload, 1) := by decide +kernel
theorem dX9_against_42 : decode cX9_against 42 = .ok (.iconst 1, 1) := by decide +kernel
theorem dX9_against_43 : decode cX9_against 43 = .ok (.isub, 1) := by decide +kernel
theorem dX9_against_44 : decode cX9_against 44 = .ok (.istore_n 3, 1) := by decide +kernel
theorem dX9_against_45 : decode cX9_against 45 = .ok (.iload_n 3, 1) := by decide +kernel
theorem dX9_against_46 : decode cX9_against 46 = .ok (.ifCond .lt 65, 3) := by decide +kernel
theorem dX9_against_49 : decode cX9_against 49 = .ok (.aload_n 0, 1) := by decide +kernel
theorem dX9_against_50 : decode cX9_against 50 = .ok (.getfield 7, 3) := by decide +kernel
theorem dX9_against_53 : decode cX9_against 53 = .ok (.bipush 16, 2) := by decide +kernel
theorem dX9_against_55 : decode cX9_against 55 = .ok (.iload_n 1, 1) := by decide +kernel
theorem dX9_against_56 : decode cX9_against 56 = .ok (.imul, 1) := by decide +kernel
theorem dX9_against_57 : decode cX9_against 57 = .ok (.iload_n 3, 1) := by decide +kernel
theorem dX9_against_58 : decode cX9_against 58 = .ok (.iadd, 1) := by decide +kernel
theorem dX9_against_59 : decode cX9_against 59 = .ok (.iaload, 1) := by decide +kernel
theorem dX9_against_60 : decode cX9_against 60 = .ok (.aload_n 0, 1) := by decide +kernel
theorem dX9_against_61 : decode cX9_against 61 = .ok (.getfield 7, 3) := by decide +kernel
theorem dX9_against_64 : decode cX9_against 64 = .ok (.bipush 16, 2) := by decide +kernel
theorem dX9_against_66 : decode cX9_against 66 = .ok (.iload_n 2, 1) := by decide +kernel
theorem dX9_against_67 : decode cX9_against 67 = .ok (.imul, 1) := by decide +kernel
theorem dX9_against_68 : decode cX9_against 68 = .ok (.iload_n 3, 1) := by decide +kernel
theorem dX9_against_69 : decode cX9_against 69 = .ok (.iadd, 1) := by decide +kernel
theorem dX9_against_70 : decode cX9_against 70 = .ok (.iaload, 1) := by decide +kernel
theorem dX9_against_71 : decode cX9_against 71 = .ok (.if_icmp .eq 34, 3) := by decide +kernel
theorem dX9_against_74 : decode cX9_against 74 = .ok (.aload_n 0, 1) := by decide +kernel
theorem dX9_against_75 : decode cX9_against 75 = .ok (.getfield 7, 3) := by decide +kernel
theorem dX9_against_78 : decode cX9_against 78 = .ok (.bipush 16, 2) := by decide +kernel
theorem dX9_against_80 : decode cX9_against 80 = .ok (.iload_n 1, 1) := by decide +kernel
theorem dX9_against_81 : decode cX9_against 81 = .ok (.imul, 1) := by decide +kernel
theorem dX9_against_82 : decode cX9_against 82 = .ok (.iload_n 3, 1) := by decide +kernel
theorem dX9_against_83 : decode cX9_against 83 = .ok (.iadd, 1) := by decide +kernel
theorem dX9_against_84 : decode cX9_against 84 = .ok (.iaload, 1) := by decide +kernel
theorem dX9_against_85 : decode cX9_against 85 = .ok (.aload_n 0, 1) := by decide +kernel
theorem dX9_against_86 : decode cX9_against 86 = .ok (.getfield 7, 3) := by decide +kernel
theorem dX9_against_89 : decode cX9_against 89 = .ok (.bipush 16, 2) := by decide +kernel
theorem dX9_against_91 : decode cX9_against 91 = .ok (.iload_n 2, 1) := by decide +kernel
theorem dX9_against_92 : decode cX9_against 92 = .ok (.imul, 1) := by decide +kernel
theorem dX9_against_93 : decode cX9_against 93 = .ok (.iload_n 3, 1) := by decide +kernel
theorem dX9_against_94 : decode cX9_against 94 = .ok (.iadd, 1) := by decide +kernel
theorem dX9_against_95 : decode cX9_against 95 = .ok (.iaload, 1) := by decide +kernel
theorem dX9_against_96 : decode cX9_against 96 = .ok (.if_icmp .ge 7, 3) := by decide +kernel
theorem dX9_against_99 : decode cX9_against 99 = .ok (.iconst (-1), 1) := by decide +kernel
theorem dX9_against_100 : decode cX9_against 100 = .ok (.goto 4, 3) := by decide +kernel
theorem dX9_against_103 : decode cX9_against 103 = .ok (.iconst 1, 1) := by decide +kernel
theorem dX9_against_104 : decode cX9_against 104 = .ok (.ireturn, 1) := by decide +kernel
theorem dX9_against_105 : decode cX9_against 105 = .ok (.iinc 3 (-1), 3) := by decide +kernel
theorem dX9_against_108 : decode cX9_against 108 = .ok (.goto (-63), 3) := by decide +kernel
theorem dX9_against_111 : decode cX9_against 111 = .ok (.iconst 0, 1) := by decide +kernel
theorem dX9_against_112 : decode cX9_against 112 = .ok (.ireturn, 1) := by decide +kernel
theorem me_X9_against : cx_Mv yX9_against cX9_against 4 (some .int) 2 := ⟨⟨⟨by decide +kernel, by decide +kernel, by decide +kernel⟩, hw_11, hw_1360⟩, hw_1359, hs_72⟩
noncomputable def f_X9_against_L45 (m_limbs : Nat → Int32) (p1 : Int32) (p2 : Int32) (rc45 : Int32 → Option Int32) (x3_5 : Int32) : Option Int32 := if x3_5 < 0 then (some 0) else (cx_gd (cx_ib ((16 * p1) + x3_5) 4320) (cx_gd (cx_ib ((16 * p2) + x3_5) 4320) (if (m_limbs (cx_ix ((16 * p1) + x3_5))) = (m_limbs (cx_ix ((16 * p2) + x3_5))) then (rc45 (x3_5 + (-1))) else (cx_gd (cx_ib ((16 * p1) + x3_5) 4320) (cx_gd (cx_ib ((16 * p2) + x3_5) 4320) (if (m_limbs (cx_ix ((16 * p2) + x3_5))) ≤ (m_limbs (cx_ix ((16 * p1) + x3_5))) then (some 1) else (some ((-1)))))))))
noncomputable def f_X9_against_L45w (m_limbs : Nat → Int32) (p1 : Int32) (p2 : Int32) (n : Nat) : Int32 → Option Int32 := Nat.rec (fun _ => none) (fun _ r => f_X9_against_L45 m_limbs p1 p2 r) n
noncomputable def f_X9_against (m_limbs : Nat → Int32) (m_wide : Nat → Int32) (p1 : Int32) (p2 : Int32) : Option Int32 := cx_gd (cx_ib p1 270) (cx_gd (cx_ib p2 270) (if (m_wide (cx_ix p1)) = (m_wide (cx_ix p2)) then (cx_gd (cx_ib p1 270) (f_X9_against_L45w m_limbs p1 p2 cx_N0 ((m_wide (cx_ix p1)) - 1))) else (cx_gd (cx_ib p1 270) (cx_gd (cx_ib p2 270) (if (m_wide (cx_ix p2)) ≤ (m_wide (cx_ix p1)) then (some 1) else (some ((-1))))))))
set_option maxHeartbeats 4000000 in
set_option maxRecDepth 100000 in
theorem c_X9_against (l : Launch) (D : va_G) (k : Nat → ClassId) (m_a : Nat → Nat) (m_limbs : Nat → Int32) (m_wide : Nat → Int32) (m_book : Nat → Int32) (m_images : Nat → Int32) (m_kept : Nat → Int32) (m_before : Nat → Int32) (m_refused : Nat → Int32) (m_quiet : Int32) (m_text : Nat → Int32) (m_typed : Int32) (m_at : Int32) (m_start : Int32) (m_token : Int32) (m_value : Int32) (m_items : Nat → Int32) (m_many : Int32) (m_is : Nat → Int32) (m_likes : Nat → Int32) (m_without : Int32) (m_onePicture : Int32) (m_oneYear : Int32) (m_first : Int32) (m_second : Int32) (m_names : Nat → Int32) (p1 : Int32) (p2 : Int32) (y : Int32) (hf : f_X9_against m_limbs m_wide p1 p2 = some y) : cx_M l yX9_against cX9_against 4 (some .int) 1 D k [.ref (m_a 0), .int p1, .int p2] (wd_Model k m_a m_limbs m_wide m_book m_images m_kept m_before m_refused m_quiet m_text m_typed m_at m_start m_token m_value m_items m_many m_is m_likes m_without m_onePicture m_oneYear m_first m_second m_names) (fun sz => cx_Qi D y (wd_Model k m_a m_limbs m_wide m_book m_images m_kept m_before m_refused m_quiet m_text m_typed m_at m_start m_token m_value m_items m_many m_is m_likes m_without m_onePicture m_oneYear m_first m_second m_names) (wd_Model k m_a m_limbs m_wide m_book m_images m_kept m_before m_refused m_quiet m_text m_typed m_at m_start m_token m_value m_items m_many m_is m_likes m_without m_onePicture m_oneYear m_first m_second m_names) sz) := by
  refine cx_met (own := "NamelessBoxModel") (by decide) rfl (Nat.le_of_ble_eq_true rfl) ?_
  intro p e s m args below meth c A Q C hA hQ hr hlk
  refine cx_lv (lv' := [(0, .ref (m_a 0)), (1, .int p1), (2, .int p2)]) [0, 1, 2] rfl ?_
  have L45 : ∀ (n45 : Nat) (x3_5 : Int32), f_X9_against_L45w m_limbs p1 p2 n45 x3_5 = some y → cx_S p l e (cx_rm 1) s m args below meth c A D 4 0 0 Q 45 [(0, .ref (m_a 0)), (1, .int p1), (2, .int p2), (3, .int x3_5)] [] (wd_Model k m_a m_limbs m_wide m_book m_images m_kept m_before m_refused m_quiet m_text m_typed m_at m_start m_token m_value m_items m_many m_is m_likes m_without m_onePicture m_oneYear m_first m_second m_names) := by
    intro  n45
    induction n45 with
    | zero =>
      intro x3_5 hf
      exact absurd (show (none : Option Int32) = some y from hf) (fun h => by cases h)
    | succ n45 ih45 =>
      intro x3_5 hf
      have hf : f_X9_against_L45 m_limbs p1 p2 (f_X9_against_L45w m_limbs p1 p2 n45) x3_5 = some y := hf
      unfold f_X9_against_L45 at hf
      refine cx_iload_n C dX9_against_45 3 rfl ?_
      refine cx_if_lt (tgt := 111) C dX9_against_46 (by decide) (fun c6 => ?_) (fun c6 => ?_)
      · have hf := cx_if_t hf c6
        clear c6
        refine cx_iconst (v := 0) C dX9_against_111 (by decide) ?_
        obtain rfl := Option.some.inj hf
        exact cx_iret C hA hQ hr hlk dX9_against_112 rfl rfl
      · have hf := cx_if_f hf c6
        clear c6
        refine cx_aload_n C dX9_against_49 0 rfl ?_
        refine cx_get (v := .ref (m_a 1)) (ci := 8) C iX9 dX9_against_50 0 rfl rfl 0 (by decide) hw_1054 rfl ?_
        refine cx_bipush (v := 16) C dX9_against_53 (by decide) ?_
        refine cx_iload_n C dX9_against_55 1 rfl ?_
        refine cx_imul C dX9_against_56 ?_
        refine cx_iload_n C dX9_against_57 3 rfl ?_
        refine cx_iadd C dX9_against_58 ?_
        obtain ⟨g7, hf⟩ := cx_gd_at hf
        refine cx_iald C dX9_against_59 1 rfl (cx_ib_in g7) ?_
        clear g7
        refine cx_aload_n C dX9_against_60 0 rfl ?_
        refine cx_get (v := .ref (m_a 1)) (ci := 8) C iX9 dX9_against_61 0 rfl rfl 0 (by decide) hw_1054 rfl ?_
        refine cx_bipush (v := 16) C dX9_against_64 (by decide) ?_
        refine cx_iload_n C dX9_against_66 2 rfl ?_
        refine cx_imul C dX9_against_67 ?_
        refine cx_iload_n C dX9_against_68 3 rfl ?_
        refine cx_iadd C dX9_against_69 ?_
        obtain ⟨g8, hf⟩ := cx_gd_at hf
        refine cx_iald C dX9_against_70 1 rfl (cx_ib_in g8) ?_
        clear g8
        refine cx_icmp_eq (tgt := 105) C dX9_against_71 (by decide) (fun c9 => ?_) (fun c9 => ?_)
        · have hf := cx_if_t hf c9
          clear c9
          refine cx_iinc (v := x3_5 + (-1)) (lv' := [(3, .int (x3_5 + (-1))), (0, .ref (m_a 0)), (1, .int p1), (2, .int p2)]) C dX9_against_105 3 rfl rfl (by decide) rfl ?_
          refine cx_goto (tgt := 45) C dX9_against_108 (by decide) ?_
          refine cx_lv [1, 2, 3, 0] rfl ?_
          exact ih45 (x3_5 + (-1)) hf
        · have hf := cx_if_f hf c9
          clear c9
          refine cx_aload_n C dX9_against_74 0 rfl ?_
          refine cx_get (v := .ref (m_a 1)) (ci := 8) C iX9 dX9_against_75 0 rfl rfl 0 (by decide) hw_1054 rfl ?_
          refine cx_bipush (v := 16) C dX9_against_78 (by decide) ?_
          refine cx_iload_n C dX9_against_80 1 rfl ?_
          refine cx_imul C dX9_against_81 ?_
          refine cx_iload_n C dX9_against_82 3 rfl ?_
          refine cx_iadd C dX9_against_83 ?_
          obtain ⟨g10, hf⟩ := cx_gd_at hf
          refine cx_iald C dX9_against_84 1 rfl (cx_ib_in g10) ?_
          clear g10
          refine cx_aload_n C dX9_against_85 0 rfl ?_
          refine cx_get (v := .ref (m_a 1)) (ci := 8) C iX9 dX9_against_86 0 rfl rfl 0 (by decide) hw_1054 rfl ?_
          refine cx_bipush (v := 16) C dX9_against_89 (by decide) ?_
          refine cx_iload_n C dX9_against_91 2 rfl ?_
          refine cx_imul C dX9_against_92 ?_
          refine cx_iload_n C dX9_against_93 3 rfl ?_
          refine cx_iadd C dX9_against_94 ?_
          obtain ⟨g11, hf⟩ := cx_gd_at hf
          refine cx_iald C dX9_against_95 1 rfl (cx_ib_in g11) ?_
          clear g11
          refine cx_icmp_ge (tgt := 103) C dX9_against_96 (by decide) (fun c12 => ?_) (fun c12 => ?_)
          · have hf := cx_if_t hf c12
            clear c12
            refine cx_iconst (v := 1) C dX9_against_103 (by decide) ?_
            obtain rfl := Option.some.inj hf
            exact cx_iret C hA hQ hr hlk dX9_against_104 rfl rfl
          · have hf := cx_if_f hf c12
            clear c12
            refine cx_iconst (v := (-1)) C dX9_against_99 (by decide) ?_
            refine cx_goto (tgt := 104) C dX9_against_100 (by decide) ?_
            obtain rfl := Option.some.inj hf
            exact cx_iret C hA hQ hr hlk dX9_against_104 rfl rfl
  unfold f_X9_against at hf
  refine cx_aload_n C dX9_against_0 0 rfl ?_
  refine cx_get (v := .ref (m_a 2)) (ci := 8) C iX9 dX9_against_1 0 rfl rfl 1 (by decide) hw_1055 rfl ?_
  refine cx_iload_n C dX9_against_4 1 rfl ?_
  obtain ⟨g1, hf⟩ := cx_gd_at hf
  refine cx_iald C dX9_against_5 2 rfl (cx_ib_in g1) ?_
  clear g1
  refine cx_aload_n C dX9_against_6 0 rfl ?_
  refine cx_get (v := .ref (m_a 2)) (ci := 8) C iX9 dX9_against_7 0 rfl rfl 1 (by decide) hw_1055 rfl ?_
  refine cx_iload_n C dX9_against_10 2 rfl ?_
  obtain ⟨g2, hf⟩ := cx_gd_at hf
  refine cx_iald C dX9_against_11 2 rfl (cx_ib_in g2) ?_
  clear g2
  refine cx_icmp_eq (tgt := 36) C dX9_against_12 (by decide) (fun c3 => ?_) (fun c3 => ?_)
  · have hf := cx_if_t hf c3
    clear c3
    refine cx_aload_n C dX9_against_36 0 rfl ?_
    refine cx_get (v := .ref (m_a 2)) (ci := 8) C iX9 dX9_against_37 0 rfl rfl 1 (by decide) hw_1055 rfl ?_
    refine cx_iload_n C dX9_against_40 1 rfl ?_
    obtain ⟨g4, hf⟩ := cx_gd_at hf
    refine cx_iald C dX9_against_41 2 rfl (cx_ib_in g4) ?_
    clear g4
    refine cx_iconst (v := 1) C dX9_against_42 (by decide) ?_
    refine cx_isub C dX9_against_43 ?_
    refine cx_istore_n (lv' := [(3, .int ((m_wide (cx_ix p1)) - 1)), (0, .ref (m_a 0)), (1, .int p1), (2, .int p2)]) C dX9_against_44 rfl (by decide) rfl ?_
    refine cx_lv [1, 2, 3, 0] rfl ?_
    exact L45 cx_N0 ((m_wide (cx_ix p1)) - 1) hf
  · have hf := cx_if_f hf c3
    clear c3
    refine cx_aload_n C dX9_against_15 0 rfl ?_
    refine cx_get (v := .ref (m_a 2)) (ci := 8) C iX9 dX9_against_16 0 rfl rfl 1 (by decide) hw_1055 rfl ?_
    refine cx_iload_n C dX9_against_19 1 rfl ?_
    obtain ⟨g13, hf⟩ := cx_gd_at hf
    refine cx_iald C dX9_against_20 2 rfl (cx_ib_in g13) ?_
    clear g13
    refine cx_aload_n C dX9_against_21 0 rfl ?_
    refine cx_get (v := .ref (m_a 2)) (ci := 8) C iX9 dX9_against_22 0 rfl rfl 1 (by decide) hw_1055 rfl ?_
    refine cx_iload_n C dX9_against_25 2 rfl ?_
    obtain ⟨g14, hf⟩ := cx_gd_at hf
    refine cx_iald C dX9_against_26 2 rfl (cx_ib_in g14) ?_
    clear g14
    refine cx_icmp_ge (tgt := 34) C dX9_against_27 (by decide) (fun c15 => ?_) (fun c15 => ?_)
    · have hf := cx_if_t hf c15
      clear c15
      refine cx_iconst (v := 1) C dX9_against_34 (by decide) ?_
      obtain rfl := Option.some.inj hf
      exact cx_iret C hA hQ hr hlk dX9_against_35 rfl rfl
    · have hf := cx_if_f hf c15
      clear c15
      refine cx_iconst (v := (-1)) C dX9_against_30 (by decide) ?_
      refine cx_goto (tgt := 35) C dX9_against_31 (by decide) ?_
      obtain rfl := Option.some.inj hf
      exact cx_iret C hA hQ hr hlk dX9_against_35 rfl rfl
theorem dX9_isEven_0 : decode cX9_isEven 0 = .ok (.aload_n 0, 1) := by decide +kernel
theorem dX9_isEven_1 : decode cX9_isEven 1 = .ok (.getfield 7, 3) := by decide +kernel
theorem dX9_isEven_4 : decode cX9_isEven 4 = .ok (.bipush 16, 2) := by decide +kernel
theorem dX9_isEven_6 : decode cX9_isEven 6 = .ok (.iload_n 1, 1) := by decide +kernel
theorem dX9_isEven_7 : decode cX9_isEven 7 = .ok (.imul, 1) := by decide +kernel
theorem dX9_isEven_8 : decode cX9_isEven 8 = .ok (.iaload, 1) := by decide +kernel
theorem dX9_isEven_9 : decode cX9_isEven 9 = .ok (.iconst 1, 1) := by decide +kernel
theorem dX9_isEven_10 : decode cX9_isEven 10 = .ok (.iand, 1) := by decide +kernel
theorem dX9_isEven_11 : decode cX9_isEven 11 = .ok (.ifCond .ne 7, 3) := by decide +kernel
theorem dX9_isEven_14 : decode cX9_isEven 14 = .ok (.iconst 1, 1) := by decide +kernel
theorem dX9_isEven_15 : decode cX9_isEven 15 = .ok (.goto 4, 3) := by decide +kernel
theorem dX9_isEven_18 : decode cX9_isEven 18 = .ok (.iconst 0, 1) := by decide +kernel
theorem dX9_isEven_19 : decode cX9_isEven 19 = .ok (.ireturn, 1) := by decide +kernel
theorem me_X9_isEven : cx_Mv yX9_isEven cX9_isEven 2 (some .boolean) 1 := ⟨⟨⟨by decide +kernel, by decide +kernel, by decide +kernel⟩, hw_11, hw_1352⟩, hw_1351, hs_70⟩
noncomputable def f_X9_isEven (m_limbs : Nat → Int32) (p1 : Int32) : Option Int32 := cx_gd (cx_ib (16 * p1) 4320) (if ((m_limbs (cx_ix (16 * p1))) &&& 1) = 0 then (some 1) else (some 0))
set_option maxHeartbeats 4000000 in
set_option maxRecDepth 100000 in
theorem c_X9_isEven (l : Launch) (D : va_G) (k : Nat → ClassId) (m_a : Nat → Nat) (m_limbs : Nat → Int32) (m_wide : Nat → Int32) (m_book : Nat → Int32) (m_images : Nat → Int32) (m_kept : Nat → Int32) (m_before : Nat → Int32) (m_refused : Nat → Int32) (m_quiet : Int32) (m_text : Nat → Int32) (m_typed : Int32) (m_at : Int32) (m_start : Int32) (m_token : Int32) (m_value : Int32) (m_items : Nat → Int32) (m_many : Int32) (m_is : Nat → Int32) (m_likes : Nat → Int32) (m_without : Int32) (m_onePicture : Int32) (m_oneYear : Int32) (m_first : Int32) (m_second : Int32) (m_names : Nat → Int32) (p1 : Int32) (y : Int32) (hf : f_X9_isEven m_limbs p1 = some y) : cx_M l yX9_isEven cX9_isEven 2 (some .boolean) 1 D k [.ref (m_a 0), .int p1] (wd_Model k m_a m_limbs m_wide m_book m_images m_kept m_before m_refused m_quiet m_text m_typed m_at m_start m_token m_value m_items m_many m_is m_likes m_without m_onePicture m_oneYear m_first m_second m_names) (fun sz => cx_Qi D y (wd_Model k m_a m_limbs m_wide m_book m_images m_kept m_before m_refused m_quiet m_text m_typed m_at m_start m_token m_value m_items m_many m_is m_likes m_without m_onePicture m_oneYear m_first m_second m_names) (wd_Model k m_a m_limbs m_wide m_book m_images m_kept m_before m_refused m_quiet m_text m_typed m_at m_start m_token m_value m_items m_many m_is m_likes m_without m_onePicture m_oneYear m_first m_second m_names) sz) := by
  refine cx_met (own := "NamelessBoxModel") (by decide) rfl (Nat.le_of_ble_eq_true rfl) ?_
  intro p e s m args below meth c A Q C hA hQ hr hlk
  refine cx_lv (lv' := [(0, .ref (m_a 0)), (1, .int p1)]) [0, 1] rfl ?_
  unfold f_X9_isEven at hf
  refine cx_aload_n C dX9_isEven_0 0 rfl ?_
  refine cx_get (v := .ref (m_a 1)) (ci := 8) C iX9 dX9_isEven_1 0 rfl rfl 0 (by decide) hw_1054 rfl ?_
  refine cx_bipush (v := 16) C dX9_isEven_4 (by decide) ?_
  refine cx_iload_n C dX9_isEven_6 1 rfl ?_
  refine cx_imul C dX9_isEven_7 ?_
  obtain ⟨g1, hf⟩ := cx_gd_at hf
  refine cx_iald C dX9_isEven_8 1 rfl (cx_ib_in g1) ?_
  clear g1
  refine cx_iconst (v := 1) C dX9_isEven_9 (by decide) ?_
  refine cx_iand C dX9_isEven_10 ?_
  refine cx_if_ne (tgt := 18) C dX9_isEven_11 (by decide) (fun c2 => ?_) (fun c2 => ?_)
  · have hf := cx_if_f hf c2
    clear c2
    refine cx_iconst (v := 0) C dX9_isEven_18 (by decide) ?_
    obtain rfl := Option.some.inj hf
    exact cx_zret C hA hQ hr hlk dX9_isEven_19 rfl rfl rfl
  · have hf := cx_if_t hf c2
    clear c2
    refine cx_iconst (v := 1) C dX9_isEven_14 (by decide) ?_
    refine cx_goto (tgt := 19) C dX9_isEven_15 (by decide) ?_
    obtain rfl := Option.some.inj hf
    exact cx_zret C hA hQ hr hlk dX9_isEven_19 rfl rfl rfl
theorem dX9_halves_0 : decode cX9_halves 0 = .ok (.iconst 0, 1) := by decide +kernel
theorem dX9_halves_1 : decode cX9_halves 1 = .ok (.istore_n 2, 1) := by decide +kernel
theorem dX9_halves_2 : decode cX9_halves 2 = .ok (.iload_n 2, 1) := by decide +kernel
theorem dX9_halves_3 : decode cX9_halves 3 = .ok (.aload_n 0, 1) := by decide +kernel
theorem dX9_halves_4 : decode cX9_halves 4 = .ok (.getfield 3, 3) := by decide +kernel
theorem dX9_halves_7 : decode cX9_halves 7 = .ok (.iload_n 1, 1) := by decide +kernel
theorem dX9_halves_8 : decode cX9_halves 8 = .ok (.iaload, 1) := by decide +kernel
theorem dX9_halves_9 : decode cX9_halves 9 = .ok (.if_icmp .ge 70, 3) := by decide +kernel
theorem dX9_halves_12 : decode cX9_halves 12 = .ok (.iload_n 2, 1) := by decide +kernel
theorem dX9_halves_13 : decode cX9_halves 13 = .ok (.iconst 1, 1) := by decide +kernel
theorem dX9_halves_14 : decode cX9_halves 14 = .ok (.iadd, 1) := by decide +kernel
theorem dX9_halves_15 : decode cX9_halves 15 = .ok (.aload_n 0, 1) := by decide +kernel
theorem dX9_halves_16 : decode cX9_halves 16 = .ok (.getfield 3, 3) := by decide +kernel
theorem dX9_halves_19 : decode cX9_halves 19 = .ok (.iload_n 1, 1) := by decide +kernel
theorem dX9_halves_20 : decode cX9_halves 20 = .ok (.iaload, 1) := by decide +kernel
theorem dX9_halves_21 : decode cX9_halves 21 = .ok (.if_icmp .ge 21, 3) := by decide +kernel
theorem dX9_halves_24 : decode cX9_halves 24 = .ok (.aload_n 0, 1) := by decide +kernel
theorem dX9_halves_25 : decode cX9_halves 25 = .ok (.getfield 7, 3) := by decide +kernel
theorem dX9_halves_28 : decode cX9_halves 28 = .ok (.bipush 16, 2) := by decide +kernel
theorem dX9_halves_30 : decode cX9_halves 30 = .ok (.iload_n 1, 1) := by decide +kernel
theorem dX9_halves_31 : decode cX9_halves 31 = .ok (.imul, 1) := by decide +kernel
theorem dX9_halves_32 : decode cX9_halves 32 = .ok (.iload_n 2, 1) := by decide +kernel
theorem dX9_halves_33 : decode cX9_halves 33 = .ok (.iadd, 1) := by decide +kernel
theorem dX9_halves_34 : decode cX9_halves 34 = .ok (.iconst 1, 1) := by decide +kernel
theorem dX9_halves_35 : decode cX9_halves 35 = .ok (.iadd, 1) := by decide +kernel
theorem dX9_halves_36 : decode cX9_halves 36 = .ok (.iaload, 1) := by decide +kernel
theorem dX9_halves_37 : decode cX9_halves 37 = .ok (.iconst 1, 1) := by decide +kernel
theorem dX9_halves_38 : decode cX9_halves 38 = .ok (.iand, 1) := by decide +kernel
theorem dX9_halves_39 : decode cX9_halves 39 = .ok (.goto 4, 3) := by decide +kernel
theorem dX9_halves_42 : decode cX9_halves 42 = .ok (.iconst 0, 1) := by decide +kernel
theorem dX9_halves_43 : decode cX9_halves 43 = .ok (.istore_n 3, 1) := by decide +kernel
theorem dX9_halves_44 : decode cX9_halves 44 = .ok (.aload_n 0, 1) := by decide +kernel
theorem dX9_halves_45 : decode cX9_halves 45 = .ok (.getfield 7, 3) := by decide +kernel
theorem dX9_halves_48 : decode cX9_halves 48 = .ok (.bipush 16, 2) := by decide +kernel
theorem dX9_halves_50 : decode cX9_halves 50 = .ok (.iload_n 1, 1) := by decide +kernel
theorem dX9_halves_51 : decode cX9_halves 51 = .ok (.imul, 1) := by decide +kernel
theorem dX9_halves_52 : decode cX9_halves 52 = .ok (.iload_n 2, 1) := by decide +kernel
theorem dX9_halves_53 : decode cX9_halves 53 = .ok (.iadd, 1) := by decide +kernel
theorem dX9_halves_54 : decode cX9_halves 54 = .ok (.aload_n 0, 1) := by decide +kernel
theorem dX9_halves_55 : decode cX9_halves 55 = .ok (.getfield 7, 3) := by decide +kernel
theorem dX9_halves_58 : decode cX9_halves 58 = .ok (.bipush 16, 2) := by decide +kernel
theorem dX9_halves_60 : decode cX9_halves 60 = .ok (.iload_n 1, 1) := by decide +kernel
theorem dX9_halves_61 : decode cX9_halves 61 = .ok (.imul, 1) := by decide +kernel
theorem dX9_halves_62 : decode cX9_halves 62 = .ok (.iload_n 2, 1) := by decide +kernel
theorem dX9_halves_63 : decode cX9_halves 63 = .ok (.iadd, 1) := by decide +kernel
theorem dX9_halves_64 : decode cX9_halves 64 = .ok (.iaload, 1) := by decide +kernel
theorem dX9_halves_65 : decode cX9_halves 65 = .ok (.iconst 1, 1) := by decide +kernel
theorem dX9_halves_66 : decode cX9_halves 66 = .ok (.ishr, 1) := by decide +kernel
theorem dX9_halves_67 : decode cX9_halves 67 = .ok (.iload_n 3, 1) := by decide +kernel
theorem dX9_halves_68 : decode cX9_halves 68 = .ok (.bipush 29, 2) := by decide +kernel
theorem dX9_halves_70 : decode cX9_halves 70 = .ok (.ishl, 1) := by decide +kernel
theorem dX9_halves_71 : decode cX9_halves 71 = .ok (.ior, 1) := by decide +kernel
theorem dX9_halves_72 : decode cX9_halves 72 = .ok (.iastore, 1) := by decide +kernel
theorem dX9_halves_73 : decode cX9_halves 73 = .ok (.iinc 2 1, 3) := by decide +kernel
theorem dX9_halves_76 : decode cX9_halves 76 = .ok (.goto (-74), 3) := by decide +kernel
theorem dX9_halves_79 : decode cX9_halves 79 = .ok (.aload_n 0, 1) := by decide +kernel
theorem dX9_halves_80 : decode cX9_halves 80 = .ok (.iload_n 1, 1) := by decide +kernel
theorem dX9_halves_81 : decode cX9_halves 81 = .ok (.invokevirtual 12, 3) := by decide +kernel
theorem dX9_halves_84 : decode cX9_halves 84 = .ok (.return_, 1) := by decide +kernel
theorem me_X9_halves : cx_Mv yX9_halves cX9_halves 4 none 1 := ⟨⟨⟨by decide +kernel, by decide +kernel, by decide +kernel⟩, hw_11, hw_1356⟩, hw_1355, hs_71⟩
noncomputable def f_X9_halves_J43 (p1 : Int32) (a_1 : Nat → Int32) (x2_2 : Int32) (rc2 : (Nat → Int32) → Int32 → Option ((Nat → Int32) × (Nat → Int32))) (s0_9 : Int32) : Option ((Nat → Int32) × (Nat → Int32)) := cx_gd (cx_ib ((16 * p1) + x2_2) 4320) (cx_gd (cx_ib ((16 * p1) + x2_2) 4320) (cx_let (upd a_1 (cx_ix ((16 * p1) + x2_2)) (((a_1 (cx_ix ((16 * p1) + x2_2))) >>> (1 &&& 31)) ||| (s0_9 <<< (29 &&& 31)))) (fun a12 => rc2 a12 (x2_2 + 1))))
noncomputable def f_X9_halves_L2 (m_wide : Nat → Int32) (p1 : Int32) (rc2 : (Nat → Int32) → Int32 → Option ((Nat → Int32) × (Nat → Int32))) (a_1 : Nat → Int32) (x2_2 : Int32) : Option ((Nat → Int32) × (Nat → Int32)) := cx_gd (cx_ib p1 270) (if (m_wide (cx_ix p1)) ≤ x2_2 then (Option.bind (f_X9_trims a_1 m_wide p1) (fun u5 => some ((a_1, u5)))) else (cx_gd (cx_ib p1 270) (if (m_wide (cx_ix p1)) ≤ (x2_2 + 1) then (f_X9_halves_J43 p1 a_1 x2_2 rc2 0) else (cx_gd (cx_ib (((16 * p1) + x2_2) + 1) 4320) (f_X9_halves_J43 p1 a_1 x2_2 rc2 ((a_1 (cx_ix (((16 * p1) + x2_2) + 1))) &&& 1))))))
noncomputable def f_X9_halves_L2w (m_wide : Nat → Int32) (p1 : Int32) (n : Nat) : (Nat → Int32) → Int32 → Option ((Nat → Int32) × (Nat → Int32)) := Nat.rec (fun _ _ => none) (fun _ r => f_X9_halves_L2 m_wide p1 r) n
noncomputable def f_X9_halves (m_limbs : Nat → Int32) (m_wide : Nat → Int32) (p1 : Int32) : Option ((Nat → Int32) × (Nat → Int32)) := f_X9_halves_L2w m_wide p1 cx_N0 m_limbs 0
set_option maxHeartbeats 4000000 in
set_option maxRecDepth 100000 in
theorem c_X9_halves (l : Launch) (D : va_G) (k : Nat → ClassId) (m_a : Nat → Nat) (m_limbs : Nat → Int32) (m_wide : Nat → Int32) (m_book : Nat → Int32) (m_images : Nat → Int32) (m_kept : Nat → Int32) (m_before : Nat → Int32) (m_refused : Nat → Int32) (m_quiet : Int32) (m_text : Nat → Int32) (m_typed : Int32) (m_at : Int32) (m_start : Int32) (m_token : Int32) (m_value : Int32) (m_items : Nat → Int32) (m_many : Int32) (m_is : Nat → Int32) (m_likes : Nat → Int32) (m_without : Int32) (m_onePicture : Int32) (m_oneYear : Int32) (m_first : Int32) (m_second : Int32) (m_names : Nat → Int32) (p1 : Int32) (y : (Nat → Int32) × (Nat → Int32)) (hf : f_X9_halves m_limbs m_wide p1 = some y) : cx_M l yX9_halves cX9_halves 4 none 2 D k [.ref (m_a 0), .int p1] (wd_Model k m_a m_limbs m_wide m_book m_images m_kept m_before m_refused m_quiet m_text m_typed m_at m_start m_token m_value m_items m_many m_is m_likes m_without m_onePicture m_oneYear m_first m_second m_names) (fun sz => cx_Qv D (wd_Model k m_a m_limbs m_wide m_book m_images m_kept m_before m_refused m_quiet m_text m_typed m_at m_start m_token m_value m_items m_many m_is m_likes m_without m_onePicture m_oneYear m_first m_second m_names) (wd_Model k m_a y.1 y.2 m_book m_images m_kept m_before m_refused m_quiet m_text m_typed m_at m_start m_token m_value m_items m_many m_is m_likes m_without m_onePicture m_oneYear m_first m_second m_names) sz) := by
  refine cx_met (own := "NamelessBoxModel") (by decide) rfl (Nat.le_of_ble_eq_true rfl) ?_
  intro p e s m args below meth c A Q C hA hQ hr hlk
  refine cx_lv (lv' := [(0, .ref (m_a 0)), (1, .int p1)]) [0, 1] rfl ?_
  have L2 : ∀ (n2 : Nat) (a_1 : Nat → Int32) (x2_2 : Int32), f_X9_halves_L2w m_wide p1 n2 a_1 x2_2 = some y → cx_S p l e (cx_rm 2) s m args below meth c A D 4 0 0 Q 2 [(0, .ref (m_a 0)), (1, .int p1), (2, .int x2_2)] [] (wd_Model k m_a a_1 m_wide m_book m_images m_kept m_before m_refused m_quiet m_text m_typed m_at m_start m_token m_value m_items m_many m_is m_likes m_without m_onePicture m_oneYear m_first m_second m_names) := by
    intro  n2
    induction n2 with
    | zero =>
      intro a_1 x2_2 hf
      exact absurd (show (none : Option ((Nat → Int32) × (Nat → Int32))) = some y from hf) (fun h => by cases h)
    | succ n2 ih2 =>
      intro a_1 x2_2 hf
      have hf : f_X9_halves_L2 m_wide p1 (f_X9_halves_L2w m_wide p1 n2) a_1 x2_2 = some y := hf
      have J43 : ∀ (s0_9 : Int32), f_X9_halves_J43 p1 a_1 x2_2 (f_X9_halves_L2w m_wide p1 n2) s0_9 = some y → cx_S p l e (cx_rm 2) s m args below meth c A D 4 0 0 Q 43 [(0, .ref (m_a 0)), (1, .int p1), (2, .int x2_2)] [.int s0_9] (wd_Model k m_a a_1 m_wide m_book m_images m_kept m_before m_refused m_quiet m_text m_typed m_at m_start m_token m_value m_items m_many m_is m_likes m_without m_onePicture m_oneYear m_first m_second m_names) := by
        intro s0_9 hf
        unfold f_X9_halves_J43 at hf
        refine cx_istore_n (lv' := [(3, .int s0_9), (0, .ref (m_a 0)), (1, .int p1), (2, .int x2_2)]) C dX9_halves_43 rfl (by decide) rfl ?_
        refine cx_aload_n C dX9_halves_44 1 rfl ?_
        refine cx_get (v := .ref (m_a 1)) (ci := 8) C iX9 dX9_halves_45 0 rfl rfl 0 (by decide) hw_1054 rfl ?_
        refine cx_bipush (v := 16) C dX9_halves_48 (by decide) ?_
        refine cx_iload_n C dX9_halves_50 2 rfl ?_
        refine cx_imul C dX9_halves_51 ?_
        refine cx_iload_n C dX9_halves_52 3 rfl ?_
        refine cx_iadd C dX9_halves_53 ?_
        refine cx_aload_n C dX9_halves_54 1 rfl ?_
        refine cx_get (v := .ref (m_a 1)) (ci := 8) C iX9 dX9_halves_55 0 rfl rfl 0 (by decide) hw_1054 rfl ?_
        refine cx_bipush (v := 16) C dX9_halves_58 (by decide) ?_
        refine cx_iload_n C dX9_halves_60 2 rfl ?_
        refine cx_imul C dX9_halves_61 ?_
        refine cx_iload_n C dX9_halves_62 3 rfl ?_
        refine cx_iadd C dX9_halves_63 ?_
        obtain ⟨g10, hf⟩ := cx_gd_at hf
        refine cx_iald C dX9_halves_64 1 rfl (cx_ib_in g10) ?_
        clear g10
        refine cx_iconst (v := 1) C dX9_halves_65 (by decide) ?_
        refine cx_ishr C dX9_halves_66 ?_
        refine cx_iload_n C dX9_halves_67 0 rfl ?_
        refine cx_bipush (v := 29) C dX9_halves_68 (by decide) ?_
        refine cx_ishl C dX9_halves_70 ?_
        refine cx_ior C dX9_halves_71 ?_
        obtain ⟨g11, hf⟩ := cx_gd_at hf
        obtain ⟨a12, ea12⟩ : ∃ z, z = upd a_1 (cx_ix ((16 * p1) + x2_2)) (((a_1 (cx_ix ((16 * p1) + x2_2))) >>> (1 &&& 31)) ||| (s0_9 <<< (29 &&& 31))) := ⟨_, rfl⟩
        have hf := cx_let_at hf ea12
        refine cx_iast (ws' := (wd_Model k m_a a12 m_wide m_book m_images m_kept m_before m_refused m_quiet m_text m_typed m_at m_start m_token m_value m_items m_many m_is m_likes m_without m_onePicture m_oneYear m_first m_second m_names)) C dX9_halves_72 1 rfl (cx_ib_in g11) (by rw [ea12]; rfl) ?_
        clear ea12 g11
        refine cx_iinc (v := x2_2 + 1) (lv' := [(2, .int (x2_2 + 1)), (3, .int s0_9), (0, .ref (m_a 0)), (1, .int p1)]) C dX9_halves_73 3 rfl rfl (by decide) rfl ?_
        refine cx_goto (tgt := 2) C dX9_halves_76 (by decide) ?_
        refine cx_lv [2, 3, 0] rfl ?_
        exact ih2 a12 (x2_2 + 1) hf
      unfold f_X9_halves_L2 at hf
      refine cx_iload_n C dX9_halves_2 2 rfl ?_
      refine cx_aload_n C dX9_halves_3 0 rfl ?_
      refine cx_get (v := .ref (m_a 2)) (ci := 8) C iX9 dX9_halves_4 0 rfl rfl 1 (by decide) hw_1055 rfl ?_
      refine cx_iload_n C dX9_halves_7 1 rfl ?_
      obtain ⟨g3, hf⟩ := cx_gd_at hf
      refine cx_iald C dX9_halves_8 2 rfl (cx_ib_in g3) ?_
      clear g3
      refine cx_icmp_ge (tgt := 79) C dX9_halves_9 (by decide) (fun c4 => ?_) (fun c4 => ?_)
      · have hf := cx_if_t hf c4
        clear c4
        refine cx_aload_n C dX9_halves_79 0 rfl ?_
        refine cx_iload_n C dX9_halves_80 1 rfl ?_
        obtain ⟨u5, e6, hf⟩ := cx_bd_at hf
        refine cx_Fvv (q := (RX9, TX9, 24)) (As := [.int p1]) (rest := []) (w1 := (wd_Model k m_a a_1 u5 m_book m_images m_kept m_before m_refused m_quiet m_text m_typed m_at m_start m_token m_value m_items m_many m_is m_likes m_without m_onePicture m_oneYear m_first m_second m_names)) hA C me_X9_trims hw_1050 (c_X9_trims l D k m_a a_1 m_wide m_book m_images m_kept m_before m_refused m_quiet m_text m_typed m_at m_start m_token m_value m_items m_many m_is m_likes m_without m_onePicture m_oneYear m_first m_second m_names p1 u5 e6) dX9_halves_81 ⟨Nat.le_of_ble_eq_true rfl, Nat.le_of_ble_eq_true rfl⟩ ⟨Nat.zero_le _, Nat.zero_le _⟩ rfl rfl (Nat.le_of_ble_eq_true rfl) rfl rfl rfl ?_
        clear e6
        obtain rfl := Option.some.inj hf
        exact cx_vret C hA hQ hr hlk dX9_halves_84 rfl
      · have hf := cx_if_f hf c4
        clear c4
        refine cx_iload_n C dX9_halves_12 2 rfl ?_
        refine cx_iconst (v := 1) C dX9_halves_13 (by decide) ?_
        refine cx_iadd C dX9_halves_14 ?_
        refine cx_aload_n C dX9_halves_15 0 rfl ?_
        refine cx_get (v := .ref (m_a 2)) (ci := 8) C iX9 dX9_halves_16 0 rfl rfl 1 (by decide) hw_1055 rfl ?_
        refine cx_iload_n C dX9_halves_19 1 rfl ?_
        obtain ⟨g7, hf⟩ := cx_gd_at hf
        refine cx_iald C dX9_halves_20 2 rfl (cx_ib_in g7) ?_
        clear g7
        refine cx_icmp_ge (tgt := 42) C dX9_halves_21 (by decide) (fun c8 => ?_) (fun c8 => ?_)
        · have hf := cx_if_t hf c8
          clear c8
          refine cx_iconst (v := 0) C dX9_halves_42 (by decide) ?_
          exact J43 0 hf
        · have hf := cx_if_f hf c8
          clear c8
          refine cx_aload_n C dX9_halves_24 0 rfl ?_
          refine cx_get (v := .ref (m_a 1)) (ci := 8) C iX9 dX9_halves_25 0 rfl rfl 0 (by decide) hw_1054 rfl ?_
          refine cx_bipush (v := 16) C dX9_halves_28 (by decide) ?_
          refine cx_iload_n C dX9_halves_30 1 rfl ?_
          refine cx_imul C dX9_halves_31 ?_
          refine cx_iload_n C dX9_halves_32 2 rfl ?_
          refine cx_iadd C dX9_halves_33 ?_
          refine cx_iconst (v := 1) C dX9_halves_34 (by decide) ?_
          refine cx_iadd C dX9_halves_35 ?_
          obtain ⟨g13, hf⟩ := cx_gd_at hf
          refine cx_iald C dX9_halves_36 1 rfl (cx_ib_in g13) ?_
          clear g13
          refine cx_iconst (v := 1) C dX9_halves_37 (by decide) ?_
          refine cx_iand C dX9_halves_38 ?_
          refine cx_goto (tgt := 43) C dX9_halves_39 (by decide) ?_
          exact J43 ((a_1 (cx_ix (((16 * p1) + x2_2) + 1))) &&& 1) hf
  unfold f_X9_halves at hf
  refine cx_iconst (v := 0) C dX9_halves_0 (by decide) ?_
  refine cx_istore_n (lv' := [(2, .int 0), (0, .ref (m_a 0)), (1, .int p1)]) C dX9_halves_1 rfl (by decide) rfl ?_
  refine cx_lv [1, 2, 0] rfl ?_
  exact L2 cx_N0 m_limbs 0 hf
theorem dX9_dividesOdd_0 : decode cX9_dividesOdd 0 = .ok (.iconst 1, 1) := by decide +kernel
theorem dX9_dividesOdd_1 : decode cX9_dividesOdd 1 = .ok (.istore_n 2, 1) := by decide +kernel
theorem dX9_dividesOdd_2 : decode cX9_dividesOdd 2 = .ok (.iconst 0, 1) := by decide +kernel
theorem dX9_dividesOdd_3 : decode cX9_dividesOdd 3 = .ok (.istore_n 3, 1) := by decide +kernel
theorem dX9_dividesOdd_4 : decode cX9_dividesOdd 4 = .ok (.iload_n 3, 1) := by decide +kernel
theorem dX9_dividesOdd_5 : decode cX9_dividesOdd 5 = .ok (.iconst 5, 1) := by decide +kernel
theorem dX9_dividesOdd_6 : decode cX9_dividesOdd 6 = .ok (.if_icmp .ge 23, 3) := by decide +kernel
theorem dX9_dividesOdd_9 : decode cX9_dividesOdd 9 = .ok (.iload_n 2, 1) := by decide +kernel
theorem dX9_dividesOdd_10 : decode cX9_dividesOdd 10 = .ok (.iconst 2, 1) := by decide +kernel
theorem dX9_dividesOdd_11 : decode cX9_dividesOdd 11 = .ok (.aload_n 0, 1) := by decide +kernel
theorem dX9_dividesOdd_12 : decode cX9_dividesOdd 12 = .ok (.getfield 7, 3) := by decide +kernel
theorem dX9_dividesOdd_15 : decode cX9_dividesOdd 15 = .ok (.bipush 48, 2) := by decide +kernel
theorem dX9_dividesOdd_17 : decode cX9_dividesOdd 17 = .ok (.iaload, 1) := by decide +kernel
theorem dX9_dividesOdd_18 : decode cX9_dividesOdd 18 = .ok (.iload_n 2, 1) := by decide +kernel
theorem dX9_dividesOdd_19 : decode cX9_dividesOdd 19 = .ok (.imul, 1) := by decide +kernel
theorem dX9_dividesOdd_20 : decode cX9_dividesOdd 20 = .ok (.isub, 1) := by decide +kernel
theorem dX9_dividesOdd_21 : decode cX9_dividesOdd 21 = .ok (.imul, 1) := by decide +kernel
theorem dX9_dividesOdd_22 : decode cX9_dividesOdd 22 = .ok (.istore_n 2, 1) := by decide +kernel
theorem dX9_dividesOdd_23 : decode cX9_dividesOdd 23 = .ok (.iinc 3 1, 3) := by decide +kernel
theorem dX9_dividesOdd_26 : decode cX9_dividesOdd 26 = .ok (.goto (-22), 3) := by decide +kernel
theorem dX9_dividesOdd_29 : decode cX9_dividesOdd 29 = .ok (.aload_n 0, 1) := by decide +kernel
theorem dX9_dividesOdd_30 : decode cX9_dividesOdd 30 = .ok (.getfield 3, 3) := by decide +kernel
theorem dX9_dividesOdd_33 : decode cX9_dividesOdd 33 = .ok (.iload_n 1, 1) := by decide +kernel
theorem dX9_dividesOdd_34 : decode cX9_dividesOdd 34 = .ok (.iaload, 1) := by decide +kernel
theorem dX9_dividesOdd_35 : decode cX9_dividesOdd 35 = .ok (.istore_n 3, 1) := by decide +kernel
theorem dX9_dividesOdd_36 : decode cX9_dividesOdd 36 = .ok (.iconst 0, 1) := by decide +kernel
theorem dX9_dividesOdd_37 : decode cX9_dividesOdd 37 = .ok (.istore 4, 2) := by decide +kernel
theorem dX9_dividesOdd_39 : decode cX9_dividesOdd 39 = .ok (.iload 4, 2) := by decide +kernel
theorem dX9_dividesOdd_41 : decode cX9_dividesOdd 41 = .ok (.iload_n 3, 1) := by decide +kernel
theorem dX9_dividesOdd_42 : decode cX9_dividesOdd 42 = .ok (.if_icmp .ge 147, 3) := by decide +kernel
theorem dX9_dividesOdd_45 : decode cX9_dividesOdd 45 = .ok (.aload_n 0, 1) := by decide +kernel
theorem dX9_dividesOdd_46 : decode cX9_dividesOdd 46 = .ok (.getfield 7, 3) := by decide +kernel
theorem dX9_dividesOdd_49 : decode cX9_dividesOdd 49 = .ok (.bipush 16, 2) := by decide +kernel
theorem dX9_dividesOdd_51 : decode cX9_dividesOdd 51 = .ok (.iload_n 1, 1) := by decide +kernel
theorem dX9_dividesOdd_52 : decode cX9_dividesOdd 52 = .ok (.imul, 1) := by decide +kernel
theorem dX9_dividesOdd_53 : decode cX9_dividesOdd 53 = .ok (.iload 4, 2) := by decide +kernel
theorem dX9_dividesOdd_55 : decode cX9_dividesOdd 55 = .ok (.iadd, 1) := by decide +kernel
theorem dX9_dividesOdd_56 : decode cX9_dividesOdd 56 = .ok (.iaload, 1) := by decide +kernel
theorem dX9_dividesOdd_57 : decode cX9_dividesOdd 57 = .ok (.iload_n 2, 1) := by decide +kernel
theorem dX9_dividesOdd_58 : decode cX9_dividesOdd 58 = .ok (.imul, 1) := by decide +kernel
theorem dX9_dividesOdd_59 : decode cX9_dividesOdd 59 = .ok (.ldc 24, 2) := by decide +kernel
theorem dX9_dividesOdd_61 : decode cX9_dividesOdd 61 = .ok (.iand, 1) := by decide +kernel
theorem dX9_dividesOdd_62 : decode cX9_dividesOdd 62 = .ok (.istore 5, 2) := by decide +kernel
theorem dX9_dividesOdd_64 : decode cX9_dividesOdd 64 = .ok (.lconst 0, 1) := by decide +kernel
theorem dX9_dividesOdd_65 : decode cX9_dividesOdd 65 = .ok (.lstore 6, 2) := by decide +kernel
theorem dX9_dividesOdd_67 : decode cX9_dividesOdd 67 = .ok (.iconst 0, 1) := by decide +kernel
theorem dX9_dividesOdd_68 : decode cX9_dividesOdd 68 = .ok (.istore 8, 2) := by decide +kernel
theorem dX9_dividesOdd_70 : decode cX9_dividesOdd 70 = .ok (.iload 4, 2) := by decide +kernel
theorem dX9_dividesOdd_72 : decode cX9_dividesOdd 72 = .ok (.iload 8, 2) := by decide +kernel
theorem dX9_dividesOdd_74 : decode cX9_dividesOdd 74 = .ok (.iadd, 1) := by decide +kernel
theorem dX9_dividesOdd_75 : decode cX9_dividesOdd 75 = .ok (.iload_n 3, 1) := by decide +kernel
theorem dX9_dividesOdd_76 : decode cX9_dividesOdd 76 = .ok (.if_icmp .ge 95, 3) := by decide +kernel
theorem dX9_dividesOdd_79 : decode cX9_dividesOdd 79 = .ok (.iload 8, 2) := by decide +kernel
theorem dX9_dividesOdd_81 : decode cX9_dividesOdd 81 = .ok (.aload_n 0, 1) := by decide +kernel
theorem dX9_dividesOdd_82 : decode cX9_dividesOdd 82 = .ok (.getfield 3, 3) := by decide +kernel
theorem dX9_dividesOdd_85 : decode cX9_dividesOdd 85 = .ok (.iconst 3, 1) := by decide +kernel
theorem dX9_dividesOdd_86 : decode cX9_dividesOdd 86 = .ok (.iaload, 1) := by decide +kernel
theorem dX9_dividesOdd_87 : decode cX9_dividesOdd 87 = .ok (.if_icmp .ge 21, 3) := by decide +kernel
theorem dX9_dividesOdd_90 : decode cX9_dividesOdd 90 = .ok (.iload 5, 2) := by decide +kernel
theorem dX9_dividesOdd_92 : decode cX9_dividesOdd 92 = .ok (.i2l, 1) := by decide +kernel
theorem dX9_dividesOdd_93 : decode cX9_dividesOdd 93 = .ok (.aload_n 0, 1) := by decide +kernel
theorem dX9_dividesOdd_94 : decode cX9_dividesOdd 94 = .ok (.getfield 7, 3) := by decide +kernel
theorem dX9_dividesOdd_97 : decode cX9_dividesOdd 97 = .ok (.bipush 48, 2) := by decide +kernel
theorem dX9_dividesOdd_99 : decode cX9_dividesOdd 99 = .ok (.iload 8, 2) := by decide +kernel
theorem dX9_dividesOdd_101 : decode cX9_dividesOdd 101 = .ok (.iadd, 1) := by decide +kernel
theorem dX9_dividesOdd_102 : decode cX9_dividesOdd 102 = .ok (.iaload, 1) := by decide +kernel
theorem dX9_dividesOdd_103 : decode cX9_dividesOdd 103 = .ok (.i2l, 1) := by decide +kernel
theorem dX9_dividesOdd_104 : decode cX9_dividesOdd 104 = .ok (.lmul, 1) := by decide +kernel
theorem dX9_dividesOdd_105 : decode cX9_dividesOdd 105 = .ok (.goto 4, 3) := by decide +kernel
theorem dX9_dividesOdd_108 : decode cX9_dividesOdd 108 = .ok (.lconst 0, 1) := by decide +kernel
theorem dX9_dividesOdd_109 : decode cX9_dividesOdd 109 = .ok (.lstore 9, 2) := by decide +kernel
theorem dX9_dividesOdd_111 : decode cX9_dividesOdd 111 = .ok (.aload_n 0, 1) := by decide +kernel
theorem dX9_dividesOdd_112 : decode cX9_dividesOdd 112 = .ok (.getfield 7, 3) := by decide +kernel
theorem dX9_dividesOdd_115 : decode cX9_dividesOdd 115 = .ok (.bipush 16, 2) := by decide +kernel
theorem dX9_dividesOdd_117 : decode cX9_dividesOdd 117 = .ok (.iload_n 1, 1) := by decide +kernel
theorem dX9_dividesOdd_118 : decode cX9_dividesOdd 118 = .ok (.imul, 1) := by decide +kernel
theorem dX9_dividesOdd_119 : decode cX9_dividesOdd 119 = .ok (.iload 4, 2) := by decide +kernel
theorem dX9_dividesOdd_121 : decode cX9_dividesOdd 121 = .ok (.iadd, 1) := by decide +kernel
theorem dX9_dividesOdd_122 : decode cX9_dividesOdd 122 = .ok (.iload 8, 2) := by decide +kernel
theorem dX9_dividesOdd_124 : decode cX9_dividesOdd 124 = .ok (.iadd, 1) := by decide +kernel
theorem dX9_dividesOdd_125 : decode cX9_dividesOdd 125 = .ok (.iaload, 1) := by decide +kernel
theorem dX9_dividesOdd_126 : decode cX9_dividesOdd 126 = .ok (.i2l, 1) := by decide +kernel
theorem dX9_dividesOdd_127 : decode cX9_dividesOdd 127 = .ok (.lload 9, 2) := by decide +kernel
theorem dX9_dividesOdd_129 : decode cX9_dividesOdd 129 = .ok (.lsub, 1) := by decide +kernel
theorem dX9_dividesOdd_130 : decode cX9_dividesOdd 130 = .ok (.lload 6, 2) := by decide +kernel
theorem dX9_dividesOdd_132 : decode cX9_dividesOdd 132 = .ok (.lsub, 1) := by decide +kernel
theorem dX9_dividesOdd_133 : decode cX9_dividesOdd 133 = .ok (.lstore 11, 2) := by decide +kernel
theorem dX9_dividesOdd_135 : decode cX9_dividesOdd 135 = .ok (.aload_n 0, 1) := by decide +kernel
theorem dX9_dividesOdd_136 : decode cX9_dividesOdd 136 = .ok (.getfield 7, 3) := by decide +kernel
theorem dX9_dividesOdd_139 : decode cX9_dividesOdd 139 = .ok (.bipush 16, 2) := by decide +kernel
theorem dX9_dividesOdd_141 : decode cX9_dividesOdd 141 = .ok (.iload_n 1, 1) := by decide +kernel
theorem dX9_dividesOdd_142 : decode cX9_dividesOdd 142 = .ok (.imul, 1) := by decide +kernel
theorem dX9_dividesOdd_143 : decode cX9_dividesOdd 143 = .ok (.iload 4, 2) := by decide +kernel
theorem dX9_dividesOdd_145 : decode cX9_dividesOdd 145 = .ok (.iadd, 1) := by decide +kernel
theorem dX9_dividesOdd_146 : decode cX9_dividesOdd 146 = .ok (.iload 8, 2) := by decide +kernel
theorem dX9_dividesOdd_148 : decode cX9_dividesOdd 148 = .ok (.iadd, 1) := by decide +kernel
theorem dX9_dividesOdd_149 : decode cX9_dividesOdd 149 = .ok (.lload 11, 2) := by decide +kernel
theorem dX9_dividesOdd_151 : decode cX9_dividesOdd 151 = .ok (.ldc2_w 10, 3) := by decide +kernel
theorem dX9_dividesOdd_154 : decode cX9_dividesOdd 154 = .ok (.land, 1) := by decide +kernel
theorem dX9_dividesOdd_155 : decode cX9_dividesOdd 155 = .ok (.l2i, 1) := by decide +kernel
theorem dX9_dividesOdd_156 : decode cX9_dividesOdd 156 = .ok (.iastore, 1) := by decide +kernel
theorem dX9_dividesOdd_157 : decode cX9_dividesOdd 157 = .ok (.lload 11, 2) := by decide +kernel
theorem dX9_dividesOdd_159 : decode cX9_dividesOdd 159 = .ok (.bipush 30, 2) := by decide +kernel
theorem dX9_dividesOdd_161 : decode cX9_dividesOdd 161 = .ok (.lshr, 1) := by decide +kernel
theorem dX9_dividesOdd_162 : decode cX9_dividesOdd 162 = .ok (.lneg, 1) := by decide +kernel
theorem dX9_dividesOdd_163 : decode cX9_dividesOdd 163 = .ok (.lstore 6, 2) := by decide +kernel
theorem dX9_dividesOdd_165 : decode cX9_dividesOdd 165 = .ok (.iinc 8 1, 3) := by decide +kernel
theorem dX9_dividesOdd_168 : decode cX9_dividesOdd 168 = .ok (.goto (-98), 3) := by decide +kernel
theorem dX9_dividesOdd_171 : decode cX9_dividesOdd 171 = .ok (.aload_n 0, 1) := by decide +kernel
theorem dX9_dividesOdd_172 : decode cX9_dividesOdd 172 = .ok (.getfield 7, 3) := by decide +kernel
theorem dX9_dividesOdd_175 : decode cX9_dividesOdd 175 = .ok (.bipush 64, 2) := by decide +kernel
theorem dX9_dividesOdd_177 : decode cX9_dividesOdd 177 = .ok (.iload 4, 2) := by decide +kernel
theorem dX9_dividesOdd_179 : decode cX9_dividesOdd 179 = .ok (.iadd, 1) := by decide +kernel
theorem dX9_dividesOdd_180 : decode cX9_dividesOdd 180 = .ok (.iload 5, 2) := by decide +kernel
theorem dX9_dividesOdd_182 : decode cX9_dividesOdd 182 = .ok (.iastore, 1) := by decide +kernel
theorem dX9_dividesOdd_183 : decode cX9_dividesOdd 183 = .ok (.iinc 4 1, 3) := by decide +kernel
theorem dX9_dividesOdd_186 : decode cX9_dividesOdd 186 = .ok (.goto (-147), 3) := by decide +kernel
theorem dX9_dividesOdd_189 : decode cX9_dividesOdd 189 = .ok (.iconst 0, 1) := by decide +kernel
theorem dX9_dividesOdd_190 : decode cX9_dividesOdd 190 = .ok (.istore 4, 2) := by decide +kernel
theorem dX9_dividesOdd_192 : decode cX9_dividesOdd 192 = .ok (.iload 4, 2) := by decide +kernel
theorem dX9_dividesOdd_194 : decode cX9_dividesOdd 194 = .ok (.iload_n 3, 1) := by decide +kernel
theorem dX9_dividesOdd_195 : decode cX9_dividesOdd 195 = .ok (.if_icmp .ge 31, 3) := by decide +kernel
theorem dX9_dividesOdd_198 : decode cX9_dividesOdd 198 = .ok (.aload_n 0, 1) := by decide +kernel
theorem dX9_dividesOdd_199 : decode cX9_dividesOdd 199 = .ok (.getfield 7, 3) := by decide +kernel
theorem dX9_dividesOdd_202 : decode cX9_dividesOdd 202 = .ok (.bipush 16, 2) := by decide +kernel
theorem dX9_dividesOdd_204 : decode cX9_dividesOdd 204 = .ok (.iload_n 1, 1) := by decide +kernel
theorem dX9_dividesOdd_205 : decode cX9_dividesOdd 205 = .ok (.imul, 1) := by decide +kernel
theorem dX9_dividesOdd_206 : decode cX9_dividesOdd 206 = .ok (.iload 4, 2) := by decide +kernel
theorem dX9_dividesOdd_208 : decode cX9_dividesOdd 208 = .ok (.iadd, 1) := by decide +kernel
theorem dX9_dividesOdd_209 : decode cX9_dividesOdd 209 = .ok (.aload_n 0, 1) := by decide +kernel
theorem dX9_dividesOdd_210 : decode cX9_dividesOdd 210 = .ok (.getfield 7, 3) := by decide +kernel
theorem dX9_dividesOdd_213 : decode cX9_dividesOdd 213 = .ok (.bipush 64, 2) := by decide +kernel
theorem dX9_dividesOdd_215 : decode cX9_dividesOdd 215 = .ok (.iload 4, 2) := by decide +kernel
theorem dX9_dividesOdd_217 : decode cX9_dividesOdd 217 = .ok (.iadd, 1) := by decide +kernel
theorem dX9_dividesOdd_218 : decode cX9_dividesOdd 218 = .ok (.iaload, 1) := by decide +kernel
theorem dX9_dividesOdd_219 : decode cX9_dividesOdd 219 = .ok (.iastore, 1) := by decide +kernel
theorem dX9_dividesOdd_220 : decode cX9_dividesOdd 220 = .ok (.iinc 4 1, 3) := by decide +kernel
theorem dX9_dividesOdd_223 : decode cX9_dividesOdd 223 = .ok (.goto (-31), 3) := by decide +kernel
theorem dX9_dividesOdd_226 : decode cX9_dividesOdd 226 = .ok (.aload_n 0, 1) := by decide +kernel
theorem dX9_dividesOdd_227 : decode cX9_dividesOdd 227 = .ok (.iload_n 1, 1) := by decide +kernel
theorem dX9_dividesOdd_228 : decode cX9_dividesOdd 228 = .ok (.invokevirtual 12, 3) := by decide +kernel
theorem dX9_dividesOdd_231 : decode cX9_dividesOdd 231 = .ok (.return_, 1) := by decide +kernel
theorem me_X9_dividesOdd : cx_Mv yX9_dividesOdd cX9_dividesOdd 13 none 1 := ⟨⟨⟨by decide +kernel, by decide +kernel, by decide +kernel⟩, hw_11, hw_1368⟩, hw_1367, hs_74⟩
noncomputable def f_X9_dividesOdd_L192 (m_wide : Nat → Int32) (p1 : Int32) (x3_11 : Int32) (rc192 : (Nat → Int32) → Int32 → Option ((Nat → Int32) × (Nat → Int32))) (a_10 : Nat → Int32) (x4_12 : Int32) : Option ((Nat → Int32) × (Nat → Int32)) := if x3_11 ≤ x4_12 then (Option.bind (f_X9_trims a_10 m_wide p1) (fun u14 => some ((a_10, u14)))) else (cx_gd (cx_ib (64 + x4_12) 4320) (cx_gd (cx_ib ((16 * p1) + x4_12) 4320) (cx_let (upd a_10 (cx_ix ((16 * p1) + x4_12)) (a_10 (cx_ix (64 + x4_12)))) (fun a18 => rc192 a18 (x4_12 + 1)))))
noncomputable def f_X9_dividesOdd_L192w (m_wide : Nat → Int32) (p1 : Int32) (x3_11 : Int32) (n : Nat) : (Nat → Int32) → Int32 → Option ((Nat → Int32) × (Nat → Int32)) := Nat.rec (fun _ _ => none) (fun _ r => f_X9_dividesOdd_L192 m_wide p1 x3_11 r) n
noncomputable def f_X9_dividesOdd_J109 (p1 : Int32) (x4_8 : Int32) (a_21 : Nat → Int32) (x6_23 : Int64) (x8_24 : Int32) (rc70 : (Nat → Int32) → Int64 → Int32 → Option ((Nat → Int32) × (Nat → Int32))) (s0_30 : Int64) : Option ((Nat → Int32) × (Nat → Int32)) := cx_gd (cx_ib (((16 * p1) + x4_8) + x8_24) 4320) (cx_let (((Int32.toInt64 (a_21 (cx_ix (((16 * p1) + x4_8) + x8_24)))) - s0_30) - x6_23) (fun v32 => cx_gd (cx_ib (((16 * p1) + x4_8) + x8_24) 4320) (cx_let (upd a_21 (cx_ix (((16 * p1) + x4_8) + x8_24)) (Int64.toInt32 (v32 &&& 1073741823))) (fun a34 => cx_let (-(v32 >>> (Int32.toInt64 30 &&& 63))) (fun v35 => rc70 a34 v35 (x8_24 + 1))))))
noncomputable def f_X9_dividesOdd_L70 (m_wide : Nat → Int32) (p1 : Int32) (x3_7 : Int32) (x4_8 : Int32) (rc39 : (Nat → Int32) → Int32 → Option ((Nat → Int32) × (Nat → Int32))) (x5_22 : Int32) (rc70 : (Nat → Int32) → Int64 → Int32 → Option ((Nat → Int32) × (Nat → Int32))) (a_21 : Nat → Int32) (x6_23 : Int64) (x8_24 : Int32) : Option ((Nat → Int32) × (Nat → Int32)) := if x3_7 ≤ (x4_8 + x8_24) then (cx_gd (cx_ib (64 + x4_8) 4320) (cx_let (upd a_21 (cx_ix (64 + x4_8)) x5_22) (fun a27 => rc39 a27 (x4_8 + 1)))) else (cx_gd (cx_ib 3 270) (if (m_wide (cx_ix 3)) ≤ x8_24 then (f_X9_dividesOdd_J109 p1 x4_8 a_21 x6_23 x8_24 rc70 0) else (cx_gd (cx_ib (48 + x8_24) 4320) (f_X9_dividesOdd_J109 p1 x4_8 a_21 x6_23 x8_24 rc70 ((Int32.toInt64 x5_22) * (Int32.toInt64 (a_21 (cx_ix (48 + x8_24)))))))))
noncomputable def f_X9_dividesOdd_L70w (m_wide : Nat → Int32) (p1 : Int32) (x3_7 : Int32) (x4_8 : Int32) (rc39 : (Nat → Int32) → Int32 → Option ((Nat → Int32) × (Nat → Int32))) (x5_22 : Int32) (n : Nat) : (Nat → Int32) → Int64 → Int32 → Option ((Nat → Int32) × (Nat → Int32)) := Nat.rec (fun _ _ _ => none) (fun _ r => f_X9_dividesOdd_L70 m_wide p1 x3_7 x4_8 rc39 x5_22 r) n
noncomputable def f_X9_dividesOdd_L39 (m_wide : Nat → Int32) (p1 : Int32) (x2_6 : Int32) (x3_7 : Int32) (rc39 : (Nat → Int32) → Int32 → Option ((Nat → Int32) × (Nat → Int32))) (a_5 : Nat → Int32) (x4_8 : Int32) : Option ((Nat → Int32) × (Nat → Int32)) := if x3_7 ≤ x4_8 then (f_X9_dividesOdd_L192w m_wide p1 x3_7 cx_N0 a_5 0) else (cx_gd (cx_ib ((16 * p1) + x4_8) 4320) (cx_let (((a_5 (cx_ix ((16 * p1) + x4_8))) * x2_6) &&& 1073741823) (fun v20 => f_X9_dividesOdd_L70w m_wide p1 x3_7 x4_8 rc39 v20 cx_N0 a_5 0 0)))
noncomputable def f_X9_dividesOdd_L39w (m_wide : Nat → Int32) (p1 : Int32) (x2_6 : Int32) (x3_7 : Int32) (n : Nat) : (Nat → Int32) → Int32 → Option ((Nat → Int32) × (Nat → Int32)) := Nat.rec (fun _ _ => none) (fun _ r => f_X9_dividesOdd_L39 m_wide p1 x2_6 x3_7 r) n
noncomputable def f_X9_dividesOdd_L4 (m_limbs : Nat → Int32) (m_wide : Nat → Int32) (p1 : Int32) (rc4 : Int32 → Int32 → Option ((Nat → Int32) × (Nat → Int32))) (x2_1 : Int32) (x3_2 : Int32) : Option ((Nat → Int32) × (Nat → Int32)) := if 5 ≤ x3_2 then (cx_gd (cx_ib p1 270) (f_X9_dividesOdd_L39w m_wide p1 x2_1 (m_wide (cx_ix p1)) cx_N0 m_limbs 0)) else (cx_gd (cx_ib 48 4320) (cx_let (x2_1 * (2 - ((m_limbs (cx_ix 48)) * x2_1))) (fun v38 => rc4 v38 (x3_2 + 1))))
noncomputable def f_X9_dividesOdd_L4w (m_limbs : Nat → Int32) (m_wide : Nat → Int32) (p1 : Int32) (n : Nat) : Int32 → Int32 → Option ((Nat → Int32) × (Nat → Int32)) := Nat.rec (fun _ _ => none) (fun _ r => f_X9_dividesOdd_L4 m_limbs m_wide p1 r) n
noncomputable def f_X9_dividesOdd (m_limbs : Nat → Int32) (m_wide : Nat → Int32) (p1 : Int32) : Option ((Nat → Int32) × (Nat → Int32)) := f_X9_dividesOdd_L4w m_limbs m_wide p1 cx_N0 1 0
set_option maxHeartbeats 4000000 in
set_option maxRecDepth 100000 in
theorem c_X9_dividesOdd (l : Launch) (D : va_G) (k : Nat → ClassId) (m_a : Nat → Nat) (m_limbs : Nat → Int32) (m_wide : Nat → Int32) (m_book : Nat → Int32) (m_images : Nat → Int32) (m_kept : Nat → Int32) (m_before : Nat → Int32) (m_refused : Nat → Int32) (m_quiet : Int32) (m_text : Nat → Int32) (m_typed : Int32) (m_at : Int32) (m_start : Int32) (m_token : Int32) (m_value : Int32) (m_items : Nat → Int32) (m_many : Int32) (m_is : Nat → Int32) (m_likes : Nat → Int32) (m_without : Int32) (m_onePicture : Int32) (m_oneYear : Int32) (m_first : Int32) (m_second : Int32) (m_names : Nat → Int32) (p1 : Int32) (y : (Nat → Int32) × (Nat → Int32)) (hf : f_X9_dividesOdd m_limbs m_wide p1 = some y) : cx_M l yX9_dividesOdd cX9_dividesOdd 13 none 2 D k [.ref (m_a 0), .int p1] (wd_Model k m_a m_limbs m_wide m_book m_images m_kept m_before m_refused m_quiet m_text m_typed m_at m_start m_token m_value m_items m_many m_is m_likes m_without m_onePicture m_oneYear m_first m_second m_names) (fun sz => cx_Qv D (wd_Model k m_a m_limbs m_wide m_book m_images m_kept m_before m_refused m_quiet m_text m_typed m_at m_start m_token m_value m_items m_many m_is m_likes m_without m_onePicture m_oneYear m_first m_second m_names) (wd_Model k m_a y.1 y.2 m_book m_images m_kept m_before m_refused m_quiet m_text m_typed m_at m_start m_token m_value m_items m_many m_is m_likes m_without m_onePicture m_oneYear m_first m_second m_names) sz) := by
  refine cx_met (own := "NamelessBoxModel") (by decide) rfl (Nat.le_of_ble_eq_true rfl) ?_
  intro p e s m args below meth c A Q C hA hQ hr hlk
  refine cx_lv (lv' := [(0, .ref (m_a 0)), (1, .int p1)]) [0, 1] rfl ?_
  have L192 : ∀ (x3_11 : Int32) (n192 : Nat) (a_10 : Nat → Int32) (x4_12 : Int32), f_X9_dividesOdd_L192w m_wide p1 x3_11 n192 a_10 x4_12 = some y → cx_S p l e (cx_rm 2) s m args below meth c A D 13 0 0 Q 192 [(0, .ref (m_a 0)), (1, .int p1), (3, .int x3_11), (4, .int x4_12)] [] (wd_Model k m_a a_10 m_wide m_book m_images m_kept m_before m_refused m_quiet m_text m_typed m_at m_start m_token m_value m_items m_many m_is m_likes m_without m_onePicture m_oneYear m_first m_second m_names) := by
    intro x3_11 n192
    induction n192 with
    | zero =>
      intro a_10 x4_12 hf
      exact absurd (show (none : Option ((Nat → Int32) × (Nat → Int32))) = some y from hf) (fun h => by cases h)
    | succ n192 ih192 =>
      intro a_10 x4_12 hf
      have hf : f_X9_dividesOdd_L192 m_wide p1 x3_11 (f_X9_dividesOdd_L192w m_wide p1 x3_11 n192) a_10 x4_12 = some y := hf
      unfold f_X9_dividesOdd_L192 at hf
      refine cx_iload C dX9_dividesOdd_192 3 rfl ?_
      refine cx_iload_n C dX9_dividesOdd_194 2 rfl ?_
      refine cx_icmp_ge (tgt := 226) C dX9_dividesOdd_195 (by decide) (fun c13 => ?_) (fun c13 => ?_)
      · have hf := cx_if_t hf c13
        clear c13
        refine cx_aload_n C dX9_dividesOdd_226 0 rfl ?_
        refine cx_iload_n C dX9_dividesOdd_227 1 rfl ?_
        obtain ⟨u14, e15, hf⟩ := cx_bd_at hf
        refine cx_Fvv (q := (RX9, TX9, 24)) (As := [.int p1]) (rest := []) (w1 := (wd_Model k m_a a_10 u14 m_book m_images m_kept m_before m_refused m_quiet m_text m_typed m_at m_start m_token m_value m_items m_many m_is m_likes m_without m_onePicture m_oneYear m_first m_second m_names)) hA C me_X9_trims hw_1050 (c_X9_trims l D k m_a a_10 m_wide m_book m_images m_kept m_before m_refused m_quiet m_text m_typed m_at m_start m_token m_value m_items m_many m_is m_likes m_without m_onePicture m_oneYear m_first m_second m_names p1 u14 e15) dX9_dividesOdd_228 ⟨Nat.le_of_ble_eq_true rfl, Nat.le_of_ble_eq_true rfl⟩ ⟨Nat.zero_le _, Nat.zero_le _⟩ rfl rfl (Nat.le_of_ble_eq_true rfl) rfl rfl rfl ?_
        clear e15
        obtain rfl := Option.some.inj hf
        exact cx_vret C hA hQ hr hlk dX9_dividesOdd_231 rfl
      · have hf := cx_if_f hf c13
        clear c13
        refine cx_aload_n C dX9_dividesOdd_198 0 rfl ?_
        refine cx_get (v := .ref (m_a 1)) (ci := 8) C iX9 dX9_dividesOdd_199 0 rfl rfl 0 (by decide) hw_1054 rfl ?_
        refine cx_bipush (v := 16) C dX9_dividesOdd_202 (by decide) ?_
        refine cx_iload_n C dX9_dividesOdd_204 1 rfl ?_
        refine cx_imul C dX9_dividesOdd_205 ?_
        refine cx_iload C dX9_dividesOdd_206 3 rfl ?_
        refine cx_iadd C dX9_dividesOdd_208 ?_
        refine cx_aload_n C dX9_dividesOdd_209 0 rfl ?_
        refine cx_get (v := .ref (m_a 1)) (ci := 8) C iX9 dX9_dividesOdd_210 0 rfl rfl 0 (by decide) hw_1054 rfl ?_
        refine cx_bipush (v := 64) C dX9_dividesOdd_213 (by decide) ?_
        refine cx_iload C dX9_dividesOdd_215 3 rfl ?_
        refine cx_iadd C dX9_dividesOdd_217 ?_
        obtain ⟨g16, hf⟩ := cx_gd_at hf
        refine cx_iald C dX9_dividesOdd_218 1 rfl (cx_ib_in g16) ?_
        clear g16
        obtain ⟨g17, hf⟩ := cx_gd_at hf
        obtain ⟨a18, ea18⟩ : ∃ z, z = upd a_10 (cx_ix ((16 * p1) + x4_12)) (a_10 (cx_ix (64 + x4_12))) := ⟨_, rfl⟩
        have hf := cx_let_at hf ea18
        refine cx_iast (ws' := (wd_Model k m_a a18 m_wide m_book m_images m_kept m_before m_refused m_quiet m_text m_typed m_at m_start m_token m_value m_items m_many m_is m_likes m_without m_onePicture m_oneYear m_first m_second m_names)) C dX9_dividesOdd_219 1 rfl (cx_ib_in g17) (by rw [ea18]; rfl) ?_
        clear ea18 g17
        refine cx_iinc (v := x4_12 + 1) (lv' := [(4, .int (x4_12 + 1)), (0, .ref (m_a 0)), (1, .int p1), (3, .int x3_11)]) C dX9_dividesOdd_220 3 rfl rfl (by decide) rfl ?_
        refine cx_goto (tgt := 192) C dX9_dividesOdd_223 (by decide) ?_
        refine cx_lv [1, 2, 3, 0] rfl ?_
        exact ih192 a18 (x4_12 + 1) hf
  have L39 : ∀ (x2_6 : Int32) (x3_7 : Int32) (n39 : Nat) (a_5 : Nat → Int32) (x4_8 : Int32), f_X9_dividesOdd_L39w m_wide p1 x2_6 x3_7 n39 a_5 x4_8 = some y → cx_S p l e (cx_rm 2) s m args below meth c A D 13 0 0 Q 39 [(0, .ref (m_a 0)), (1, .int p1), (2, .int x2_6), (3, .int x3_7), (4, .int x4_8)] [] (wd_Model k m_a a_5 m_wide m_book m_images m_kept m_before m_refused m_quiet m_text m_typed m_at m_start m_token m_value m_items m_many m_is m_likes m_without m_onePicture m_oneYear m_first m_second m_names) := by
    intro x2_6 x3_7 n39
    induction n39 with
    | zero =>
      intro a_5 x4_8 hf
      exact absurd (show (none : Option ((Nat → Int32) × (Nat → Int32))) = some y from hf) (fun h => by cases h)
    | succ n39 ih39 =>
      intro a_5 x4_8 hf
      have hf : f_X9_dividesOdd_L39 m_wide p1 x2_6 x3_7 (f_X9_dividesOdd_L39w m_wide p1 x2_6 x3_7 n39) a_5 x4_8 = some y := hf
      have L70 : ∀ (x5_22 : Int32) (n70 : Nat) (a_21 : Nat → Int32) (x6_23 : Int64) (x8_24 : Int32), f_X9_dividesOdd_L70w m_wide p1 x3_7 x4_8 (f_X9_dividesOdd_L39w m_wide p1 x2_6 x3_7 n39) x5_22 n70 a_21 x6_23 x8_24 = some y → cx_S p l e (cx_rm 2) s m args below meth c A D 13 0 0 Q 70 [(0, .ref (m_a 0)), (1, .int p1), (2, .int x2_6), (3, .int x3_7), (4, .int x4_8), (5, .int x5_22), (6, .long x6_23), (8, .int x8_24)] [] (wd_Model k m_a a_21 m_wide m_book m_images m_kept m_before m_refused m_quiet m_text m_typed m_at m_start m_token m_value m_items m_many m_is m_likes m_without m_onePicture m_oneYear m_first m_second m_names) := by
        intro x5_22 n70
        induction n70 with
        | zero =>
          intro a_21 x6_23 x8_24 hf
          exact absurd (show (none : Option ((Nat → Int32) × (Nat → Int32))) = some y from hf) (fun h => by cases h)
        | succ n70 ih70 =>
          intro a_21 x6_23 x8_24 hf
          have hf : f_X9_dividesOdd_L70 m_wide p1 x3_7 x4_8 (f_X9_dividesOdd_L39w m_wide p1 x2_6 x3_7 n39) x5_22 (f_X9_dividesOdd_L70w m_wide p1 x3_7 x4_8 (f_X9_dividesOdd_L39w m_wide p1 x2_6 x3_7 n39) x5_22 n70) a_21 x6_23 x8_24 = some y := hf
          have J109 : ∀ (s0_30 : Int64), f_X9_dividesOdd_J109 p1 x4_8 a_21 x6_23 x8_24 (f_X9_dividesOdd_L70w m_wide p1 x3_7 x4_8 (f_X9_dividesOdd_L39w m_wide p1 x2_6 x3_7 n39) x5_22 n70) s0_30 = some y → cx_S p l e (cx_rm 2) s m args below meth c A D 13 0 0 Q 109 [(0, .ref (m_a 0)), (1, .int p1), (2, .int x2_6), (3, .int x3_7), (4, .int x4_8), (5, .int x5_22), (6, .long x6_23), (8, .int x8_24)] [.long s0_30] (wd_Model k m_a a_21 m_wide m_book m_images m_kept m_before m_refused m_quiet m_text m_typed m_at m_start m_token m_value m_items m_many m_is m_likes m_without m_onePicture m_oneYear m_first m_second m_names) := by
            intro s0_30 hf
            unfold f_X9_dividesOdd_J109 at hf
            refine cx_lstore (lv' := [(9, .long s0_30), (0, .ref (m_a 0)), (1, .int p1), (2, .int x2_6), (3, .int x3_7), (4, .int x4_8), (5, .int x5_22), (6, .long x6_23), (8, .int x8_24)]) C dX9_dividesOdd_109 (by decide) rfl ?_
            refine cx_aload_n C dX9_dividesOdd_111 1 rfl ?_
            refine cx_get (v := .ref (m_a 1)) (ci := 8) C iX9 dX9_dividesOdd_112 0 rfl rfl 0 (by decide) hw_1054 rfl ?_
            refine cx_bipush (v := 16) C dX9_dividesOdd_115 (by decide) ?_
            refine cx_iload_n C dX9_dividesOdd_117 2 rfl ?_
            refine cx_imul C dX9_dividesOdd_118 ?_
            refine cx_iload C dX9_dividesOdd_119 5 rfl ?_
            refine cx_iadd C dX9_dividesOdd_121 ?_
            refine cx_iload C dX9_dividesOdd_122 8 rfl ?_
            refine cx_iadd C dX9_dividesOdd_124 ?_
            obtain ⟨g31, hf⟩ := cx_gd_at hf
            refine cx_iald C dX9_dividesOdd_125 1 rfl (cx_ib_in g31) ?_
            clear g31
            refine cx_i2l C dX9_dividesOdd_126 ?_
            refine cx_lload C dX9_dividesOdd_127 0 rfl ?_
            refine cx_lsub C dX9_dividesOdd_129 ?_
            refine cx_lload C dX9_dividesOdd_130 7 rfl ?_
            refine cx_lsub C dX9_dividesOdd_132 ?_
            refine cx_topl (fun v32 ev32 => ?_)
            have hf := cx_let_at hf ev32
            clear ev32
            refine cx_lstore (lv' := [(11, .long v32), (9, .long s0_30), (0, .ref (m_a 0)), (1, .int p1), (2, .int x2_6), (3, .int x3_7), (4, .int x4_8), (5, .int x5_22), (6, .long x6_23), (8, .int x8_24)]) C dX9_dividesOdd_133 (by decide) rfl ?_
            refine cx_aload_n C dX9_dividesOdd_135 2 rfl ?_
            refine cx_get (v := .ref (m_a 1)) (ci := 8) C iX9 dX9_dividesOdd_136 0 rfl rfl 0 (by decide) hw_1054 rfl ?_
            refine cx_bipush (v := 16) C dX9_dividesOdd_139 (by decide) ?_
            refine cx_iload_n C dX9_dividesOdd_141 3 rfl ?_
            refine cx_imul C dX9_dividesOdd_142 ?_
            refine cx_iload C dX9_dividesOdd_143 6 rfl ?_
            refine cx_iadd C dX9_dividesOdd_145 ?_
            refine cx_iload C dX9_dividesOdd_146 9 rfl ?_
            refine cx_iadd C dX9_dividesOdd_148 ?_
            refine cx_lload C dX9_dividesOdd_149 0 rfl ?_
            refine cx_ldc2 (v := 1073741823) C dX9_dividesOdd_151 hw_1049 ?_
            refine cx_land C dX9_dividesOdd_154 ?_
            refine cx_l2i C dX9_dividesOdd_155 ?_
            obtain ⟨g33, hf⟩ := cx_gd_at hf
            obtain ⟨a34, ea34⟩ : ∃ z, z = upd a_21 (cx_ix (((16 * p1) + x4_8) + x8_24)) (Int64.toInt32 (v32 &&& 1073741823)) := ⟨_, rfl⟩
            have hf := cx_let_at hf ea34
            refine cx_iast (ws' := (wd_Model k m_a a34 m_wide m_book m_images m_kept m_before m_refused m_quiet m_text m_typed m_at m_start m_token m_value m_items m_many m_is m_likes m_without m_onePicture m_oneYear m_first m_second m_names)) C dX9_dividesOdd_156 1 rfl (cx_ib_in g33) (by rw [ea34]; rfl) ?_
            clear ea34 g33
            refine cx_lload C dX9_dividesOdd_157 0 rfl ?_
            refine cx_bipush (v := 30) C dX9_dividesOdd_159 (by decide) ?_
            refine cx_lshr C dX9_dividesOdd_161 ?_
            refine cx_lneg C dX9_dividesOdd_162 ?_
            refine cx_topl (fun v35 ev35 => ?_)
            have hf := cx_let_at hf ev35
            clear ev35
            refine cx_lstore (lv' := [(6, .long v35), (11, .long v32), (9, .long s0_30), (0, .ref (m_a 0)), (1, .int p1), (2, .int x2_6), (3, .int x3_7), (4, .int x4_8), (5, .int x5_22), (8, .int x8_24)]) C dX9_dividesOdd_163 (by decide) rfl ?_
            refine cx_iinc (v := x8_24 + 1) (lv' := [(8, .int (x8_24 + 1)), (6, .long v35), (11, .long v32), (9, .long s0_30), (0, .ref (m_a 0)), (1, .int p1), (2, .int x2_6), (3, .int x3_7), (4, .int x4_8), (5, .int x5_22)]) C dX9_dividesOdd_165 9 rfl rfl (by decide) rfl ?_
            refine cx_goto (tgt := 70) C dX9_dividesOdd_168 (by decide) ?_
            refine cx_lv [4, 5, 6, 7, 8, 9, 1, 0] rfl ?_
            exact ih70 a34 v35 (x8_24 + 1) hf
          unfold f_X9_dividesOdd_L70 at hf
          refine cx_iload C dX9_dividesOdd_70 4 rfl ?_
          refine cx_iload C dX9_dividesOdd_72 7 rfl ?_
          refine cx_iadd C dX9_dividesOdd_74 ?_
          refine cx_iload_n C dX9_dividesOdd_75 3 rfl ?_
          refine cx_icmp_ge (tgt := 171) C dX9_dividesOdd_76 (by decide) (fun c25 => ?_) (fun c25 => ?_)
          · have hf := cx_if_t hf c25
            clear c25
            refine cx_aload_n C dX9_dividesOdd_171 0 rfl ?_
            refine cx_get (v := .ref (m_a 1)) (ci := 8) C iX9 dX9_dividesOdd_172 0 rfl rfl 0 (by decide) hw_1054 rfl ?_
            refine cx_bipush (v := 64) C dX9_dividesOdd_175 (by decide) ?_
            refine cx_iload C dX9_dividesOdd_177 4 rfl ?_
            refine cx_iadd C dX9_dividesOdd_179 ?_
            refine cx_iload C dX9_dividesOdd_180 5 rfl ?_
            obtain ⟨g26, hf⟩ := cx_gd_at hf
            obtain ⟨a27, ea27⟩ : ∃ z, z = upd a_21 (cx_ix (64 + x4_8)) x5_22 := ⟨_, rfl⟩
            have hf := cx_let_at hf ea27
            refine cx_iast (ws' := (wd_Model k m_a a27 m_wide m_book m_images m_kept m_before m_refused m_quiet m_text m_typed m_at m_start m_token m_value m_items m_many m_is m_likes m_without m_onePicture m_oneYear m_first m_second m_names)) C dX9_dividesOdd_182 1 rfl (cx_ib_in g26) (by rw [ea27]; rfl) ?_
            clear ea27 g26
            refine cx_iinc (v := x4_8 + 1) (lv' := [(4, .int (x4_8 + 1)), (0, .ref (m_a 0)), (1, .int p1), (2, .int x2_6), (3, .int x3_7), (5, .int x5_22), (6, .long x6_23), (8, .int x8_24)]) C dX9_dividesOdd_183 4 rfl rfl (by decide) rfl ?_
            refine cx_goto (tgt := 39) C dX9_dividesOdd_186 (by decide) ?_
            refine cx_lv [1, 2, 3, 4, 0] rfl ?_
            exact ih39 a27 (x4_8 + 1) hf
          · have hf := cx_if_f hf c25
            clear c25
            refine cx_iload C dX9_dividesOdd_79 7 rfl ?_
            refine cx_aload_n C dX9_dividesOdd_81 0 rfl ?_
            refine cx_get (v := .ref (m_a 2)) (ci := 8) C iX9 dX9_dividesOdd_82 0 rfl rfl 1 (by decide) hw_1055 rfl ?_
            refine cx_iconst (v := 3) C dX9_dividesOdd_85 (by decide) ?_
            obtain ⟨g28, hf⟩ := cx_gd_at hf
            refine cx_iald C dX9_dividesOdd_86 2 rfl (cx_ib_in g28) ?_
            clear g28
            refine cx_icmp_ge (tgt := 108) C dX9_dividesOdd_87 (by decide) (fun c29 => ?_) (fun c29 => ?_)
            · have hf := cx_if_t hf c29
              clear c29
              refine cx_lconst (v := 0) C dX9_dividesOdd_108 (by decide) ?_
              exact J109 0 hf
            · have hf := cx_if_f hf c29
              clear c29
              refine cx_iload C dX9_dividesOdd_90 5 rfl ?_
              refine cx_i2l C dX9_dividesOdd_92 ?_
              refine cx_aload_n C dX9_dividesOdd_93 0 rfl ?_
              refine cx_get (v := .ref (m_a 1)) (ci := 8) C iX9 dX9_dividesOdd_94 0 rfl rfl 0 (by decide) hw_1054 rfl ?_
              refine cx_bipush (v := 48) C dX9_dividesOdd_97 (by decide) ?_
              refine cx_iload C dX9_dividesOdd_99 7 rfl ?_
              refine cx_iadd C dX9_dividesOdd_101 ?_
              obtain ⟨g36, hf⟩ := cx_gd_at hf
              refine cx_iald C dX9_dividesOdd_102 1 rfl (cx_ib_in g36) ?_
              clear g36
              refine cx_i2l C dX9_dividesOdd_103 ?_
              refine cx_lmul C dX9_dividesOdd_104 ?_
              refine cx_goto (tgt := 109) C dX9_dividesOdd_105 (by decide) ?_
              exact J109 ((Int32.toInt64 x5_22) * (Int32.toInt64 (a_21 (cx_ix (48 + x8_24))))) hf
      unfold f_X9_dividesOdd_L39 at hf
      refine cx_iload C dX9_dividesOdd_39 4 rfl ?_
      refine cx_iload_n C dX9_dividesOdd_41 3 rfl ?_
      refine cx_icmp_ge (tgt := 189) C dX9_dividesOdd_42 (by decide) (fun c9 => ?_) (fun c9 => ?_)
      · have hf := cx_if_t hf c9
        clear c9
        refine cx_iconst (v := 0) C dX9_dividesOdd_189 (by decide) ?_
        refine cx_istore (lv' := [(4, .int 0), (0, .ref (m_a 0)), (1, .int p1), (2, .int x2_6), (3, .int x3_7)]) C dX9_dividesOdd_190 (by decide) rfl ?_
        refine cx_lv [1, 2, 4, 0] rfl ?_
        exact L192 x3_7 cx_N0 a_5 0 hf
      · have hf := cx_if_f hf c9
        clear c9
        refine cx_aload_n C dX9_dividesOdd_45 0 rfl ?_
        refine cx_get (v := .ref (m_a 1)) (ci := 8) C iX9 dX9_dividesOdd_46 0 rfl rfl 0 (by decide) hw_1054 rfl ?_
        refine cx_bipush (v := 16) C dX9_dividesOdd_49 (by decide) ?_
        refine cx_iload_n C dX9_dividesOdd_51 1 rfl ?_
        refine cx_imul C dX9_dividesOdd_52 ?_
        refine cx_iload C dX9_dividesOdd_53 4 rfl ?_
        refine cx_iadd C dX9_dividesOdd_55 ?_
        obtain ⟨g19, hf⟩ := cx_gd_at hf
        refine cx_iald C dX9_dividesOdd_56 1 rfl (cx_ib_in g19) ?_
        clear g19
        refine cx_iload_n C dX9_dividesOdd_57 2 rfl ?_
        refine cx_imul C dX9_dividesOdd_58 ?_
        refine cx_ldc (v := 1073741823) C dX9_dividesOdd_59 hw_1336 ?_
        refine cx_iand C dX9_dividesOdd_61 ?_
        refine cx_topi (fun v20 ev20 => ?_)
        have hf := cx_let_at hf ev20
        clear ev20
        refine cx_istore (lv' := [(5, .int v20), (0, .ref (m_a 0)), (1, .int p1), (2, .int x2_6), (3, .int x3_7), (4, .int x4_8)]) C dX9_dividesOdd_62 (by decide) rfl ?_
        refine cx_lconst (v := 0) C dX9_dividesOdd_64 (by decide) ?_
        refine cx_lstore (lv' := [(6, .long 0), (5, .int v20), (0, .ref (m_a 0)), (1, .int p1), (2, .int x2_6), (3, .int x3_7), (4, .int x4_8)]) C dX9_dividesOdd_65 (by decide) rfl ?_
        refine cx_iconst (v := 0) C dX9_dividesOdd_67 (by decide) ?_
        refine cx_istore (lv' := [(8, .int 0), (6, .long 0), (5, .int v20), (0, .ref (m_a 0)), (1, .int p1), (2, .int x2_6), (3, .int x3_7), (4, .int x4_8)]) C dX9_dividesOdd_68 (by decide) rfl ?_
        refine cx_lv [3, 4, 5, 6, 7, 2, 1, 0] rfl ?_
        exact L70 v20 cx_N0 a_5 0 0 hf
  have L4 : ∀ (n4 : Nat) (x2_1 : Int32) (x3_2 : Int32), f_X9_dividesOdd_L4w m_limbs m_wide p1 n4 x2_1 x3_2 = some y → cx_S p l e (cx_rm 2) s m args below meth c A D 13 0 0 Q 4 [(0, .ref (m_a 0)), (1, .int p1), (2, .int x2_1), (3, .int x3_2)] [] (wd_Model k m_a m_limbs m_wide m_book m_images m_kept m_before m_refused m_quiet m_text m_typed m_at m_start m_token m_value m_items m_many m_is m_likes m_without m_onePicture m_oneYear m_first m_second m_names) := by
    intro  n4
    induction n4 with
    | zero =>
      intro x2_1 x3_2 hf
      exact absurd (show (none : Option ((Nat → Int32) × (Nat → Int32))) = some y from hf) (fun h => by cases h)
    | succ n4 ih4 =>
      intro x2_1 x3_2 hf
      have hf : f_X9_dividesOdd_L4 m_limbs m_wide p1 (f_X9_dividesOdd_L4w m_limbs m_wide p1 n4) x2_1 x3_2 = some y := hf
      unfold f_X9_dividesOdd_L4 at hf
      refine cx_iload_n C dX9_dividesOdd_4 3 rfl ?_
      refine cx_iconst (v := 5) C dX9_dividesOdd_5 (by decide) ?_
      refine cx_icmp_ge (tgt := 29) C dX9_dividesOdd_6 (by decide) (fun c3 => ?_) (fun c3 => ?_)
      · have hf := cx_if_t hf c3
        clear c3
        refine cx_aload_n C dX9_dividesOdd_29 0 rfl ?_
        refine cx_get (v := .ref (m_a 2)) (ci := 8) C iX9 dX9_dividesOdd_30 0 rfl rfl 1 (by decide) hw_1055 rfl ?_
        refine cx_iload_n C dX9_dividesOdd_33 1 rfl ?_
        obtain ⟨g4, hf⟩ := cx_gd_at hf
        refine cx_iald C dX9_dividesOdd_34 2 rfl (cx_ib_in g4) ?_
        clear g4
        refine cx_istore_n (lv' := [(3, .int (m_wide (cx_ix p1))), (0, .ref (m_a 0)), (1, .int p1), (2, .int x2_1)]) C dX9_dividesOdd_35 rfl (by decide) rfl ?_
        refine cx_iconst (v := 0) C dX9_dividesOdd_36 (by decide) ?_
        refine cx_istore (lv' := [(4, .int 0), (3, .int (m_wide (cx_ix p1))), (0, .ref (m_a 0)), (1, .int p1), (2, .int x2_1)]) C dX9_dividesOdd_37 (by decide) rfl ?_
        refine cx_lv [2, 3, 4, 1, 0] rfl ?_
        exact L39 x2_1 (m_wide (cx_ix p1)) cx_N0 m_limbs 0 hf
      · have hf := cx_if_f hf c3
        clear c3
        refine cx_iload_n C dX9_dividesOdd_9 2 rfl ?_
        refine cx_iconst (v := 2) C dX9_dividesOdd_10 (by decide) ?_
        refine cx_aload_n C dX9_dividesOdd_11 0 rfl ?_
        refine cx_get (v := .ref (m_a 1)) (ci := 8) C iX9 dX9_dividesOdd_12 0 rfl rfl 0 (by decide) hw_1054 rfl ?_
        refine cx_bipush (v := 48) C dX9_dividesOdd_15 (by decide) ?_
        obtain ⟨g37, hf⟩ := cx_gd_at hf
        refine cx_iald C dX9_dividesOdd_17 1 rfl (cx_ib_in g37) ?_
        clear g37
        refine cx_iload_n C dX9_dividesOdd_18 2 rfl ?_
        refine cx_imul C dX9_dividesOdd_19 ?_
        refine cx_isub C dX9_dividesOdd_20 ?_
        refine cx_imul C dX9_dividesOdd_21 ?_
        refine cx_topi (fun v38 ev38 => ?_)
        have hf := cx_let_at hf ev38
        clear ev38
        refine cx_istore_n (lv' := [(2, .int v38), (0, .ref (m_a 0)), (1, .int p1), (3, .int x3_2)]) C dX9_dividesOdd_22 rfl (by decide) rfl ?_
        refine cx_iinc (v := x3_2 + 1) (lv' := [(3, .int (x3_2 + 1)), (2, .int v38), (0, .ref (m_a 0)), (1, .int p1)]) C dX9_dividesOdd_23 3 rfl rfl (by decide) rfl ?_
        refine cx_goto (tgt := 4) C dX9_dividesOdd_26 (by decide) ?_
        refine cx_lv [2, 3, 1, 0] rfl ?_
        exact ih4 v38 (x3_2 + 1) hf
  unfold f_X9_dividesOdd at hf
  refine cx_iconst (v := 1) C dX9_dividesOdd_0 (by decide) ?_
  refine cx_istore_n (lv' := [(2, .int 1), (0, .ref (m_a 0)), (1, .int p1)]) C dX9_dividesOdd_1 rfl (by decide) rfl ?_
  refine cx_iconst (v := 0) C dX9_dividesOdd_2 (by decide) ?_
  refine cx_istore_n (lv' := [(3, .int 0), (2, .int 1), (0, .ref (m_a 0)), (1, .int p1)]) C dX9_dividesOdd_3 rfl (by decide) rfl ?_
  refine cx_lv [2, 3, 1, 0] rfl ?_
  exact L4 cx_N0 1 0 hf
theorem dX9_lowers_0 : decode cX9_lowers 0 = .ok (.aload_n 0, 1) := by decide +kernel
theorem dX9_lowers_1 : decode cX9_lowers 1 = .ok (.getfield 3, 3) := by decide +kernel
theorem dX9_lowers_4 : decode cX9_lowers 4 = .ok (.iconst 0, 1) := by decide +kernel
theorem dX9_lowers_5 : decode cX9_lowers 5 = .ok (.iaload, 1) := by decide +kernel
theorem dX9_lowers_6 : decode cX9_lowers 6 = .ok (.ifCond .ne 10, 3) := by decide +kernel
theorem dX9_lowers_9 : decode cX9_lowers 9 = .ok (.aload_n 0, 1) := by decide +kernel
theorem dX9_lowers_10 : decode cX9_lowers 10 = .ok (.iconst 1, 1) := by decide +kernel
theorem dX9_lowers_11 : decode cX9_lowers 11 = .ok (.lconst 1, 1) := by decide +kernel
theorem dX9_lowers_12 : decode cX9_lowers 12 = .ok (.invokevirtual 16, 3) := by decide +kernel
theorem dX9_lowers_15 : decode cX9_lowers 15 = .ok (.return_, 1) := by decide +kernel
theorem dX9_lowers_16 : decode cX9_lowers 16 = .ok (.aload_n 0, 1) := by decide +kernel
theorem dX9_lowers_17 : decode cX9_lowers 17 = .ok (.iconst 0, 1) := by decide +kernel
theorem dX9_lowers_18 : decode cX9_lowers 18 = .ok (.invokevirtual 25, 3) := by decide +kernel
theorem dX9_lowers_21 : decode cX9_lowers 21 = .ok (.ifCond .eq 24, 3) := by decide +kernel
theorem dX9_lowers_24 : decode cX9_lowers 24 = .ok (.aload_n 0, 1) := by decide +kernel
theorem dX9_lowers_25 : decode cX9_lowers 25 = .ok (.iconst 1, 1) := by decide +kernel
theorem dX9_lowers_26 : decode cX9_lowers 26 = .ok (.invokevirtual 25, 3) := by decide +kernel
theorem dX9_lowers_29 : decode cX9_lowers 29 = .ok (.ifCond .eq 16, 3) := by decide +kernel
theorem dX9_lowers_32 : decode cX9_lowers 32 = .ok (.aload_n 0, 1) := by decide +kernel
theorem dX9_lowers_33 : decode cX9_lowers 33 = .ok (.iconst 0, 1) := by decide +kernel
theorem dX9_lowers_34 : decode cX9_lowers 34 = .ok (.invokevirtual 29, 3) := by decide +kernel
theorem dX9_lowers_37 : decode cX9_lowers 37 = .ok (.aload_n 0, 1) := by decide +kernel
theorem dX9_lowers_38 : decode cX9_lowers 38 = .ok (.iconst 1, 1) := by decide +kernel
theorem dX9_lowers_39 : decode cX9_lowers 39 = .ok (.invokevirtual 29, 3) := by decide +kernel
theorem dX9_lowers_42 : decode cX9_lowers 42 = .ok (.goto (-26), 3) := by decide +kernel
theorem dX9_lowers_45 : decode cX9_lowers 45 = .ok (.aload_n 0, 1) := by decide +kernel
theorem dX9_lowers_46 : decode cX9_lowers 46 = .ok (.iconst 2, 1) := by decide +kernel
theorem dX9_lowers_47 : decode cX9_lowers 47 = .ok (.iconst 0, 1) := by decide +kernel
theorem dX9_lowers_48 : decode cX9_lowers 48 = .ok (.invokevirtual 20, 3) := by decide +kernel
theorem dX9_lowers_51 : decode cX9_lowers 51 = .ok (.aload_n 0, 1) := by decide +kernel
theorem dX9_lowers_52 : decode cX9_lowers 52 = .ok (.iconst 3, 1) := by decide +kernel
theorem dX9_lowers_53 : decode cX9_lowers 53 = .ok (.iconst 1, 1) := by decide +kernel
theorem dX9_lowers_54 : decode cX9_lowers 54 = .ok (.invokevirtual 20, 3) := by decide +kernel
theorem dX9_lowers_57 : decode cX9_lowers 57 = .ok (.aload_n 0, 1) := by decide +kernel
theorem dX9_lowers_58 : decode cX9_lowers 58 = .ok (.getfield 3, 3) := by decide +kernel
theorem dX9_lowers_61 : decode cX9_lowers 61 = .ok (.iconst 2, 1) := by decide +kernel
theorem dX9_lowers_62 : decode cX9_lowers 62 = .ok (.iaload, 1) := by decide +kernel
theorem dX9_lowers_63 : decode cX9_lowers 63 = .ok (.ifCond .le 82, 3) := by decide +kernel
theorem dX9_lowers_66 : decode cX9_lowers 66 = .ok (.aload_n 0, 1) := by decide +kernel
theorem dX9_lowers_67 : decode cX9_lowers 67 = .ok (.iconst 2, 1) := by decide +kernel
theorem dX9_lowers_68 : decode cX9_lowers 68 = .ok (.invokevirtual 25, 3) := by decide +kernel
theorem dX9_lowers_71 : decode cX9_lowers 71 = .ok (.ifCond .eq 11, 3) := by decide +kernel
theorem dX9_lowers_74 : decode cX9_lowers 74 = .ok (.aload_n 0, 1) := by decide +kernel
theorem dX9_lowers_75 : decode cX9_lowers 75 = .ok (.iconst 2, 1) := by decide +kernel
theorem dX9_lowers_76 : decode cX9_lowers 76 = .ok (.invokevirtual 29, 3) := by decide +kernel
theorem dX9_lowers_79 : decode cX9_lowers 79 = .ok (.goto (-13), 3) := by decide +kernel
theorem dX9_lowers_82 : decode cX9_lowers 82 = .ok (.aload_n 0, 1) := by decide +kernel
theorem dX9_lowers_83 : decode cX9_lowers 83 = .ok (.iconst 3, 1) := by decide +kernel
theorem dX9_lowers_84 : decode cX9_lowers 84 = .ok (.invokevirtual 25, 3) := by decide +kernel
theorem dX9_lowers_87 : decode cX9_lowers 87 = .ok (.ifCond .eq 11, 3) := by decide +kernel
theorem dX9_lowers_90 : decode cX9_lowers 90 = .ok (.aload_n 0, 1) := by decide +kernel
theorem dX9_lowers_91 : decode cX9_lowers 91 = .ok (.iconst 3, 1) := by decide +kernel
theorem dX9_lowers_92 : decode cX9_lowers 92 = .ok (.invokevirtual 29, 3) := by decide +kernel
theorem dX9_lowers_95 : decode cX9_lowers 95 = .ok (.goto (-13), 3) := by decide +kernel
theorem dX9_lowers_98 : decode cX9_lowers 98 = .ok (.aload_n 0, 1) := by decide +kernel
theorem dX9_lowers_99 : decode cX9_lowers 99 = .ok (.iconst 2, 1) := by decide +kernel
theorem dX9_lowers_100 : decode cX9_lowers 100 = .ok (.iconst 3, 1) := by decide +kernel
theorem dX9_lowers_101 : decode cX9_lowers 101 = .ok (.invokevirtual 32, 3) := by decide +kernel
theorem dX9_lowers_104 : decode cX9_lowers 104 = .ok (.ifCond .lt 7, 3) := by decide +kernel
theorem dX9_lowers_107 : decode cX9_lowers 107 = .ok (.iconst 2, 1) := by decide +kernel
theorem dX9_lowers_108 : decode cX9_lowers 108 = .ok (.goto 4, 3) := by decide +kernel
theorem dX9_lowers_111 : decode cX9_lowers 111 = .ok (.iconst 3, 1) := by decide +kernel
theorem dX9_lowers_112 : decode cX9_lowers 112 = .ok (.istore_n 1, 1) := by decide +kernel
theorem dX9_lowers_113 : decode cX9_lowers 113 = .ok (.aload_n 0, 1) := by decide +kernel
theorem dX9_lowers_114 : decode cX9_lowers 114 = .ok (.iload_n 1, 1) := by decide +kernel
theorem dX9_lowers_115 : decode cX9_lowers 115 = .ok (.iconst 5, 1) := by decide +kernel
theorem dX9_lowers_116 : decode cX9_lowers 116 = .ok (.iload_n 1, 1) := by decide +kernel
theorem dX9_lowers_117 : decode cX9_lowers 117 = .ok (.isub, 1) := by decide +kernel
theorem dX9_lowers_118 : decode cX9_lowers 118 = .ok (.invokevirtual 36, 3) := by decide +kernel
theorem dX9_lowers_121 : decode cX9_lowers 121 = .ok (.aload_n 0, 1) := by decide +kernel
theorem dX9_lowers_122 : decode cX9_lowers 122 = .ok (.getfield 3, 3) := by decide +kernel
theorem dX9_lowers_125 : decode cX9_lowers 125 = .ok (.iconst 3, 1) := by decide +kernel
theorem dX9_lowers_126 : decode cX9_lowers 126 = .ok (.iaload, 1) := by decide +kernel
theorem dX9_lowers_127 : decode cX9_lowers 127 = .ok (.ifCond .ne 15, 3) := by decide +kernel
theorem dX9_lowers_130 : decode cX9_lowers 130 = .ok (.aload_n 0, 1) := by decide +kernel
theorem dX9_lowers_131 : decode cX9_lowers 131 = .ok (.iconst 3, 1) := by decide +kernel
theorem dX9_lowers_132 : decode cX9_lowers 132 = .ok (.iconst 2, 1) := by decide +kernel
theorem dX9_lowers_133 : decode cX9_lowers 133 = .ok (.invokevirtual 20, 3) := by decide +kernel
theorem dX9_lowers_136 : decode cX9_lowers 136 = .ok (.aload_n 0, 1) := by decide +kernel
theorem dX9_lowers_137 : decode cX9_lowers 137 = .ok (.iconst 2, 1) := by decide +kernel
theorem dX9_lowers_138 : decode cX9_lowers 138 = .ok (.lconst 0, 1) := by decide +kernel
theorem dX9_lowers_139 : decode cX9_lowers 139 = .ok (.invokevirtual 16, 3) := by decide +kernel
theorem dX9_lowers_142 : decode cX9_lowers 142 = .ok (.goto (-85), 3) := by decide +kernel
theorem dX9_lowers_145 : decode cX9_lowers 145 = .ok (.aload_n 0, 1) := by decide +kernel
theorem dX9_lowers_146 : decode cX9_lowers 146 = .ok (.iconst 0, 1) := by decide +kernel
theorem dX9_lowers_147 : decode cX9_lowers 147 = .ok (.invokevirtual 39, 3) := by decide +kernel
theorem dX9_lowers_150 : decode cX9_lowers 150 = .ok (.aload_n 0, 1) := by decide +kernel
theorem dX9_lowers_151 : decode cX9_lowers 151 = .ok (.iconst 1, 1) := by decide +kernel
theorem dX9_lowers_152 : decode cX9_lowers 152 = .ok (.invokevirtual 39, 3) := by decide +kernel
theorem dX9_lowers_155 : decode cX9_lowers 155 = .ok (.return_, 1) := by decide +kernel
theorem me_X9_lowers : cx_Mv yX9_lowers cX9_lowers 2 none 0 := ⟨⟨⟨by decide +kernel, by decide +kernel, by decide +kernel⟩, hw_11, hw_1348⟩, hw_1347, hs_69⟩
noncomputable def f_X9_lowers_J142 (rc57 : (Nat → Int32) → (Nat → Int32) → Option ((Nat → Int32) × (Nat → Int32))) (a_42 : Nat → Int32) (a_43 : Nat → Int32) : Option ((Nat → Int32) × (Nat → Int32)) := rc57 a_42 a_43
noncomputable def f_X9_lowers_J112 (rc57 : (Nat → Int32) → (Nat → Int32) → Option ((Nat → Int32) × (Nat → Int32))) (a_35 : Nat → Int32) (a_36 : Nat → Int32) (s0_37 : Int32) : Option ((Nat → Int32) × (Nat → Int32)) := Option.bind (f_X9_lessens a_35 a_36 s0_37 (5 - s0_37)) (fun u38 => cx_gd (cx_ib 3 270) (if (u38.2 (cx_ix 3)) = 0 then (Option.bind (f_X9_takes u38.1 u38.2 3 2) (fun u44 => Option.bind (f_X9_sets u44.1 u44.2 2 0) (fun u46 => f_X9_lowers_J142 rc57 u46.1 u46.2))) else (f_X9_lowers_J142 rc57 u38.1 u38.2)))
noncomputable def f_X9_lowers_L82 (rc57 : (Nat → Int32) → (Nat → Int32) → Option ((Nat → Int32) × (Nat → Int32))) (rc82 : (Nat → Int32) → (Nat → Int32) → Option ((Nat → Int32) × (Nat → Int32))) (a_27 : Nat → Int32) (a_28 : Nat → Int32) : Option ((Nat → Int32) × (Nat → Int32)) := Option.bind (f_X9_isEven a_27 3) (fun u29 => if u29 = 0 then (Option.bind (f_X9_against a_27 a_28 2 3) (fun u32 => if u32 < 0 then (f_X9_lowers_J112 rc57 a_27 a_28 3) else (f_X9_lowers_J112 rc57 a_27 a_28 2))) else (Option.bind (f_X9_halves a_27 a_28 3) (fun u48 => rc82 u48.1 u48.2)))
noncomputable def f_X9_lowers_L82w (rc57 : (Nat → Int32) → (Nat → Int32) → Option ((Nat → Int32) × (Nat → Int32))) (n : Nat) : (Nat → Int32) → (Nat → Int32) → Option ((Nat → Int32) × (Nat → Int32)) := Nat.rec (fun _ _ => none) (fun _ r => f_X9_lowers_L82 rc57 r) n
noncomputable def f_X9_lowers_L66 (rc57 : (Nat → Int32) → (Nat → Int32) → Option ((Nat → Int32) × (Nat → Int32))) (rc66 : (Nat → Int32) → (Nat → Int32) → Option ((Nat → Int32) × (Nat → Int32))) (a_22 : Nat → Int32) (a_23 : Nat → Int32) : Option ((Nat → Int32) × (Nat → Int32)) := Option.bind (f_X9_isEven a_22 2) (fun u24 => if u24 = 0 then (f_X9_lowers_L82w rc57 cx_N0 a_22 a_23) else (Option.bind (f_X9_halves a_22 a_23 2) (fun u50 => rc66 u50.1 u50.2)))
noncomputable def f_X9_lowers_L66w (rc57 : (Nat → Int32) → (Nat → Int32) → Option ((Nat → Int32) × (Nat → Int32))) (n : Nat) : (Nat → Int32) → (Nat → Int32) → Option ((Nat → Int32) × (Nat → Int32)) := Nat.rec (fun _ _ => none) (fun _ r => f_X9_lowers_L66 rc57 r) n
noncomputable def f_X9_lowers_L57  (rc57 : (Nat → Int32) → (Nat → Int32) → Option ((Nat → Int32) × (Nat → Int32))) (a_14 : Nat → Int32) (a_15 : Nat → Int32) : Option ((Nat → Int32) × (Nat → Int32)) := cx_gd (cx_ib 2 270) (if (a_15 (cx_ix 2)) ≤ 0 then (Option.bind (f_X9_dividesOdd a_14 a_15 0) (fun u18 => Option.bind (f_X9_dividesOdd u18.1 u18.2 1) (fun u20 => some ((u20.1, u20.2))))) else (f_X9_lowers_L66w rc57 cx_N0 a_14 a_15))
noncomputable def f_X9_lowers_L57w  (n : Nat) : (Nat → Int32) → (Nat → Int32) → Option ((Nat → Int32) × (Nat → Int32)) := Nat.rec (fun _ _ => none) (fun _ r => f_X9_lowers_L57 r) n
noncomputable def f_X9_lowers_J45 (a_8 : Nat → Int32) (a_9 : Nat → Int32) : Option ((Nat → Int32) × (Nat → Int32)) := Option.bind (f_X9_takes a_8 a_9 2 0) (fun u10 => Option.bind (f_X9_takes u10.1 u10.2 3 1) (fun u12 => f_X9_lowers_L57w cx_N0 u12.1 u12.2))
noncomputable def f_X9_lowers_L16  (rc16 : (Nat → Int32) → (Nat → Int32) → Option ((Nat → Int32) × (Nat → Int32))) (a_3 : Nat → Int32) (a_4 : Nat → Int32) : Option ((Nat → Int32) × (Nat → Int32)) := Option.bind (f_X9_isEven a_3 0) (fun u5 => if u5 = 0 then (f_X9_lowers_J45 a_3 a_4) else (Option.bind (f_X9_isEven a_3 1) (fun u52 => if u52 = 0 then (f_X9_lowers_J45 a_3 a_4) else (Option.bind (f_X9_halves a_3 a_4 0) (fun u55 => Option.bind (f_X9_halves u55.1 u55.2 1) (fun u57 => rc16 u57.1 u57.2))))))
noncomputable def f_X9_lowers_L16w  (n : Nat) : (Nat → Int32) → (Nat → Int32) → Option ((Nat → Int32) × (Nat → Int32)) := Nat.rec (fun _ _ => none) (fun _ r => f_X9_lowers_L16 r) n
noncomputable def f_X9_lowers (m_limbs : Nat → Int32) (m_wide : Nat → Int32) : Option ((Nat → Int32) × (Nat → Int32)) := cx_gd (cx_ib 0 270) (if (m_wide (cx_ix 0)) = 0 then (Option.bind (f_X9_sets m_limbs m_wide 1 1) (fun u59 => some ((u59.1, u59.2)))) else (f_X9_lowers_L16w cx_N0 m_limbs m_wide))
set_option maxHeartbeats 4000000 in
set_option maxRecDepth 100000 in
theorem c_X9_lowers (l : Launch) (D : va_G) (k : Nat → ClassId) (m_a : Nat → Nat) (m_limbs : Nat → Int32) (m_wide : Nat → Int32) (m_book : Nat → Int32) (m_images : Nat → Int32) (m_kept : Nat → Int32) (m_before : Nat → Int32) (m_refused : Nat → Int32) (m_quiet : Int32) (m_text : Nat → Int32) (m_typed : Int32) (m_at : Int32) (m_start : Int32) (m_token : Int32) (m_value : Int32) (m_items : Nat → Int32) (m_many : Int32) (m_is : Nat → Int32) (m_likes : Nat → Int32) (m_without : Int32) (m_onePicture : Int32) (m_oneYear : Int32) (m_first : Int32) (m_second : Int32) (m_names : Nat → Int32) (y : (Nat → Int32) × (Nat → Int32)) (hf : f_X9_lowers m_limbs m_wide = some y) : cx_M l yX9_lowers cX9_lowers 2 none 3 D k [.ref (m_a 0)] (wd_Model k m_a m_limbs m_wide m_book m_images m_kept m_before m_refused m_quiet m_text m_typed m_at m_start m_token m_value m_items m_many m_is m_likes m_without m_onePicture m_oneYear m_first m_second m_names) (fun sz => cx_Qv D (wd_Model k m_a m_limbs m_wide m_book m_images m_kept m_before m_refused m_quiet m_text m_typed m_at m_start m_token m_value m_items m_many m_is m_likes m_without m_onePicture m_oneYear m_first m_second m_names) (wd_Model k m_a y.1 y.2 m_book m_images m_kept m_before m_refused m_quiet m_text m_typed m_at m_start m_token m_value m_items m_many m_is m_likes m_without m_onePicture m_oneYear m_first m_second m_names) sz) := by
  refine cx_met (own := "NamelessBoxModel") (by decide) rfl (Nat.le_of_ble_eq_true rfl) ?_
  intro p e s m args below meth c A Q C hA hQ hr hlk
  refine cx_lv (lv' := [(0, .ref (m_a 0))]) [0] rfl ?_
  have L57 : ∀ (n57 : Nat) (a_14 : Nat → Int32) (a_15 : Nat → Int32), f_X9_lowers_L57w n57 a_14 a_15 = some y → cx_S p l e (cx_rm 3) s m args below meth c A D 2 0 0 Q 57 [(0, .ref (m_a 0))] [] (wd_Model k m_a a_14 a_15 m_book m_images m_kept m_before m_refused m_quiet m_text m_typed m_at m_start m_token m_value m_items m_many m_is m_likes m_without m_onePicture m_oneYear m_first m_second m_names) := by
    intro  n57
    induction n57 with
    | zero =>
      intro a_14 a_15 hf
      exact absurd (show (none : Option ((Nat → Int32) × (Nat → Int32))) = some y from hf) (fun h => by cases h)
    | succ n57 ih57 =>
      intro a_14 a_15 hf
      have hf : f_X9_lowers_L57 (f_X9_lowers_L57w n57) a_14 a_15 = some y := hf
      have J142 : ∀ (a_42 : Nat → Int32) (a_43 : Nat → Int32), f_X9_lowers_J142 (f_X9_lowers_L57w n57) a_42 a_43 = some y → cx_S p l e (cx_rm 3) s m args below meth c A D 2 0 0 Q 142 [(0, .ref (m_a 0))] [] (wd_Model k m_a a_42 a_43 m_book m_images m_kept m_before m_refused m_quiet m_text m_typed m_at m_start m_token m_value m_items m_many m_is m_likes m_without m_onePicture m_oneYear m_first m_second m_names) := by
        intro a_42 a_43 hf
        unfold f_X9_lowers_J142 at hf
        refine cx_goto (tgt := 57) C dX9_lowers_142 (by decide) ?_
        exact ih57 a_42 a_43 hf
      have J112 : ∀ (a_35 : Nat → Int32) (a_36 : Nat → Int32) (s0_37 : Int32), f_X9_lowers_J112 (f_X9_lowers_L57w n57) a_35 a_36 s0_37 = some y → cx_S p l e (cx_rm 3) s m args below meth c A D 2 0 0 Q 112 [(0, .ref (m_a 0))] [.int s0_37] (wd_Model k m_a a_35 a_36 m_book m_images m_kept m_before m_refused m_quiet m_text m_typed m_at m_start m_token m_value m_items m_many m_is m_likes m_without m_onePicture m_oneYear m_first m_second m_names) := by
        intro a_35 a_36 s0_37 hf
        unfold f_X9_lowers_J112 at hf
        refine cx_istore_n (lv' := [(1, .int s0_37), (0, .ref (m_a 0))]) C dX9_lowers_112 rfl (by decide) rfl ?_
        refine cx_aload_n C dX9_lowers_113 1 rfl ?_
        refine cx_iload_n C dX9_lowers_114 0 rfl ?_
        refine cx_iconst (v := 5) C dX9_lowers_115 (by decide) ?_
        refine cx_iload_n C dX9_lowers_116 0 rfl ?_
        refine cx_isub C dX9_lowers_117 ?_
        obtain ⟨u38, e39, hf⟩ := cx_bd_at hf
        refine cx_Fvv (q := (RX9, TX9, 24)) (As := [.int s0_37, .int (5 - s0_37)]) (rest := []) (w1 := (wd_Model k m_a u38.1 u38.2 m_book m_images m_kept m_before m_refused m_quiet m_text m_typed m_at m_start m_token m_value m_items m_many m_is m_likes m_without m_onePicture m_oneYear m_first m_second m_names)) hA C me_X9_lessens hw_1361 (c_X9_lessens l D k m_a a_35 a_36 m_book m_images m_kept m_before m_refused m_quiet m_text m_typed m_at m_start m_token m_value m_items m_many m_is m_likes m_without m_onePicture m_oneYear m_first m_second m_names s0_37 (5 - s0_37) u38 e39) dX9_lowers_118 ⟨Nat.le_of_ble_eq_true rfl, Nat.le_of_ble_eq_true rfl⟩ ⟨Nat.zero_le _, Nat.zero_le _⟩ rfl rfl (Nat.le_of_ble_eq_true rfl) rfl rfl rfl ?_
        clear e39
        refine cx_aload_n C dX9_lowers_121 1 rfl ?_
        refine cx_get (v := .ref (m_a 2)) (ci := 8) C iX9 dX9_lowers_122 0 rfl rfl 1 (by decide) hw_1055 rfl ?_
        refine cx_iconst (v := 3) C dX9_lowers_125 (by decide) ?_
        obtain ⟨g40, hf⟩ := cx_gd_at hf
        refine cx_iald C dX9_lowers_126 2 rfl (cx_ib_in g40) ?_
        clear g40
        refine cx_if_ne (tgt := 142) C dX9_lowers_127 (by decide) (fun c41 => ?_) (fun c41 => ?_)
        · have hf := cx_if_f hf c41
          clear c41
          refine cx_lv [1] rfl ?_
          exact J142 u38.1 u38.2 hf
        · have hf := cx_if_t hf c41
          clear c41
          refine cx_aload_n C dX9_lowers_130 1 rfl ?_
          refine cx_iconst (v := 3) C dX9_lowers_131 (by decide) ?_
          refine cx_iconst (v := 2) C dX9_lowers_132 (by decide) ?_
          obtain ⟨u44, e45, hf⟩ := cx_bd_at hf
          refine cx_Fvv (q := (RX9, TX9, 24)) (As := [.int 3, .int 2]) (rest := []) (w1 := (wd_Model k m_a u44.1 u44.2 m_book m_images m_kept m_before m_refused m_quiet m_text m_typed m_at m_start m_token m_value m_items m_many m_is m_likes m_without m_onePicture m_oneYear m_first m_second m_names)) hA C me_X9_takes hw_1324 (c_X9_takes l D k m_a u38.1 u38.2 m_book m_images m_kept m_before m_refused m_quiet m_text m_typed m_at m_start m_token m_value m_items m_many m_is m_likes m_without m_onePicture m_oneYear m_first m_second m_names 3 2 u44 e45) dX9_lowers_133 ⟨Nat.le_of_ble_eq_true rfl, Nat.le_of_ble_eq_true rfl⟩ ⟨Nat.zero_le _, Nat.zero_le _⟩ rfl rfl (Nat.le_of_ble_eq_true rfl) rfl rfl rfl ?_
          clear e45
          refine cx_aload_n C dX9_lowers_136 1 rfl ?_
          refine cx_iconst (v := 2) C dX9_lowers_137 (by decide) ?_
          refine cx_lconst (v := 0) C dX9_lowers_138 (by decide) ?_
          obtain ⟨u46, e47, hf⟩ := cx_bd_at hf
          refine cx_Fvv (q := (RX9, TX9, 24)) (As := [.int 2, .long 0]) (rest := []) (w1 := (wd_Model k m_a u46.1 u46.2 m_book m_images m_kept m_before m_refused m_quiet m_text m_typed m_at m_start m_token m_value m_items m_many m_is m_likes m_without m_onePicture m_oneYear m_first m_second m_names)) hA C me_X9_sets hw_1045 (c_X9_sets l D k m_a u44.1 u44.2 m_book m_images m_kept m_before m_refused m_quiet m_text m_typed m_at m_start m_token m_value m_items m_many m_is m_likes m_without m_onePicture m_oneYear m_first m_second m_names 2 0 u46 e47) dX9_lowers_139 ⟨Nat.le_of_ble_eq_true rfl, Nat.le_of_ble_eq_true rfl⟩ ⟨Nat.zero_le _, Nat.zero_le _⟩ rfl rfl (Nat.le_of_ble_eq_true rfl) rfl rfl rfl ?_
          clear e47
          refine cx_lv [1] rfl ?_
          exact J142 u46.1 u46.2 hf
      have L82 : ∀ (n82 : Nat) (a_27 : Nat → Int32) (a_28 : Nat → Int32), f_X9_lowers_L82w (f_X9_lowers_L57w n57) n82 a_27 a_28 = some y → cx_S p l e (cx_rm 3) s m args below meth c A D 2 0 0 Q 82 [(0, .ref (m_a 0))] [] (wd_Model k m_a a_27 a_28 m_book m_images m_kept m_before m_refused m_quiet m_text m_typed m_at m_start m_token m_value m_items m_many m_is m_likes m_without m_onePicture m_oneYear m_first m_second m_names) := by
        intro  n82
        induction n82 with
        | zero =>
          intro a_27 a_28 hf
          exact absurd (show (none : Option ((Nat → Int32) × (Nat → Int32))) = some y from hf) (fun h => by cases h)
        | succ n82 ih82 =>
          intro a_27 a_28 hf
          have hf : f_X9_lowers_L82 (f_X9_lowers_L57w n57) (f_X9_lowers_L82w (f_X9_lowers_L57w n57) n82) a_27 a_28 = some y := hf
          unfold f_X9_lowers_L82 at hf
          refine cx_aload_n C dX9_lowers_82 0 rfl ?_
          refine cx_iconst (v := 3) C dX9_lowers_83 (by decide) ?_
          obtain ⟨u29, e30, hf⟩ := cx_bd_at hf
          refine cx_Fvi (q := (RX9, TX9, 24)) (As := [.int 3]) (rest := []) (w1 := (wd_Model k m_a a_27 a_28 m_book m_images m_kept m_before m_refused m_quiet m_text m_typed m_at m_start m_token m_value m_items m_many m_is m_likes m_without m_onePicture m_oneYear m_first m_second m_names)) hA C me_X9_isEven hw_1349 (c_X9_isEven l D k m_a a_27 a_28 m_book m_images m_kept m_before m_refused m_quiet m_text m_typed m_at m_start m_token m_value m_items m_many m_is m_likes m_without m_onePicture m_oneYear m_first m_second m_names 3 u29 e30) dX9_lowers_84 ⟨Nat.le_of_ble_eq_true rfl, Nat.le_of_ble_eq_true rfl⟩ ⟨Nat.zero_le _, Nat.zero_le _⟩ rfl rfl (Nat.le_of_ble_eq_true rfl) rfl rfl rfl ?_
          clear e30
          refine cx_if_eq (tgt := 98) C dX9_lowers_87 (by decide) (fun c31 => ?_) (fun c31 => ?_)
          · have hf := cx_if_t hf c31
            clear c31
            refine cx_aload_n C dX9_lowers_98 0 rfl ?_
            refine cx_iconst (v := 2) C dX9_lowers_99 (by decide) ?_
            refine cx_iconst (v := 3) C dX9_lowers_100 (by decide) ?_
            obtain ⟨u32, e33, hf⟩ := cx_bd_at hf
            refine cx_Fvi (q := (RX9, TX9, 24)) (As := [.int 2, .int 3]) (rest := []) (w1 := (wd_Model k m_a a_27 a_28 m_book m_images m_kept m_before m_refused m_quiet m_text m_typed m_at m_start m_token m_value m_items m_many m_is m_likes m_without m_onePicture m_oneYear m_first m_second m_names)) hA C me_X9_against hw_1357 (c_X9_against l D k m_a a_27 a_28 m_book m_images m_kept m_before m_refused m_quiet m_text m_typed m_at m_start m_token m_value m_items m_many m_is m_likes m_without m_onePicture m_oneYear m_first m_second m_names 2 3 u32 e33) dX9_lowers_101 ⟨Nat.le_of_ble_eq_true rfl, Nat.le_of_ble_eq_true rfl⟩ ⟨Nat.zero_le _, Nat.zero_le _⟩ rfl rfl (Nat.le_of_ble_eq_true rfl) rfl rfl rfl ?_
            clear e33
            refine cx_if_lt (tgt := 111) C dX9_lowers_104 (by decide) (fun c34 => ?_) (fun c34 => ?_)
            · have hf := cx_if_t hf c34
              clear c34
              refine cx_iconst (v := 3) C dX9_lowers_111 (by decide) ?_
              exact J112 a_27 a_28 3 hf
            · have hf := cx_if_f hf c34
              clear c34
              refine cx_iconst (v := 2) C dX9_lowers_107 (by decide) ?_
              refine cx_goto (tgt := 112) C dX9_lowers_108 (by decide) ?_
              exact J112 a_27 a_28 2 hf
          · have hf := cx_if_f hf c31
            clear c31
            refine cx_aload_n C dX9_lowers_90 0 rfl ?_
            refine cx_iconst (v := 3) C dX9_lowers_91 (by decide) ?_
            obtain ⟨u48, e49, hf⟩ := cx_bd_at hf
            refine cx_Fvv (q := (RX9, TX9, 24)) (As := [.int 3]) (rest := []) (w1 := (wd_Model k m_a u48.1 u48.2 m_book m_images m_kept m_before m_refused m_quiet m_text m_typed m_at m_start m_token m_value m_items m_many m_is m_likes m_without m_onePicture m_oneYear m_first m_second m_names)) hA C me_X9_halves hw_1353 (c_X9_halves l D k m_a a_27 a_28 m_book m_images m_kept m_before m_refused m_quiet m_text m_typed m_at m_start m_token m_value m_items m_many m_is m_likes m_without m_onePicture m_oneYear m_first m_second m_names 3 u48 e49) dX9_lowers_92 ⟨Nat.le_of_ble_eq_true rfl, Nat.le_of_ble_eq_true rfl⟩ ⟨Nat.zero_le _, Nat.zero_le _⟩ rfl rfl (Nat.le_of_ble_eq_true rfl) rfl rfl rfl ?_
            clear e49
            refine cx_goto (tgt := 82) C dX9_lowers_95 (by decide) ?_
            exact ih82 u48.1 u48.2 hf
      have L66 : ∀ (n66 : Nat) (a_22 : Nat → Int32) (a_23 : Nat → Int32), f_X9_lowers_L66w (f_X9_lowers_L57w n57) n66 a_22 a_23 = some y → cx_S p l e (cx_rm 3) s m args below meth c A D 2 0 0 Q 66 [(0, .ref (m_a 0))] [] (wd_Model k m_a a_22 a_23 m_book m_images m_kept m_before m_refused m_quiet m_text m_typed m_at m_start m_token m_value m_items m_many m_is m_likes m_without m_onePicture m_oneYear m_first m_second m_names) := by
        intro  n66
        induction n66 with
        | zero =>
          intro a_22 a_23 hf
          exact absurd (show (none : Option ((Nat → Int32) × (Nat → Int32))) = some y from hf) (fun h => by cases h)
        | succ n66 ih66 =>
          intro a_22 a_23 hf
          have hf : f_X9_lowers_L66 (f_X9_lowers_L57w n57) (f_X9_lowers_L66w (f_X9_lowers_L57w n57) n66) a_22 a_23 = some y := hf
          unfold f_X9_lowers_L66 at hf
          refine cx_aload_n C dX9_lowers_66 0 rfl ?_
          refine cx_iconst (v := 2) C dX9_lowers_67 (by decide) ?_
          obtain ⟨u24, e25, hf⟩ := cx_bd_at hf
          refine cx_Fvi (q := (RX9, TX9, 24)) (As := [.int 2]) (rest := []) (w1 := (wd_Model k m_a a_22 a_23 m_book m_images m_kept m_before m_refused m_quiet m_text m_typed m_at m_start m_token m_value m_items m_many m_is m_likes m_without m_onePicture m_oneYear m_first m_second m_names)) hA C me_X9_isEven hw_1349 (c_X9_isEven l D k m_a a_22 a_23 m_book m_images m_kept m_before m_refused m_quiet m_text m_typed m_at m_start m_token m_value m_items m_many m_is m_likes m_without m_onePicture m_oneYear m_first m_second m_names 2 u24 e25) dX9_lowers_68 ⟨Nat.le_of_ble_eq_true rfl, Nat.le_of_ble_eq_true rfl⟩ ⟨Nat.zero_le _, Nat.zero_le _⟩ rfl rfl (Nat.le_of_ble_eq_true rfl) rfl rfl rfl ?_
          clear e25
          refine cx_if_eq (tgt := 82) C dX9_lowers_71 (by decide) (fun c26 => ?_) (fun c26 => ?_)
          · have hf := cx_if_t hf c26
            clear c26
            exact L82 cx_N0 a_22 a_23 hf
          · have hf := cx_if_f hf c26
            clear c26
            refine cx_aload_n C dX9_lowers_74 0 rfl ?_
            refine cx_iconst (v := 2) C dX9_lowers_75 (by decide) ?_
            obtain ⟨u50, e51, hf⟩ := cx_bd_at hf
            refine cx_Fvv (q := (RX9, TX9, 24)) (As := [.int 2]) (rest := []) (w1 := (wd_Model k m_a u50.1 u50.2 m_book m_images m_kept m_before m_refused m_quiet m_text m_typed m_at m_start m_token m_value m_items m_many m_is m_likes m_without m_onePicture m_oneYear m_first m_second m_names)) hA C me_X9_halves hw_1353 (c_X9_halves l D k m_a a_22 a_23 m_book m_images m_kept m_before m_refused m_quiet m_text m_typed m_at m_start m_token m_value m_items m_many m_is m_likes m_without m_onePicture m_oneYear m_first m_second m_names 2 u50 e51) dX9_lowers_76 ⟨Nat.le_of_ble_eq_true rfl, Nat.le_of_ble_eq_true rfl⟩ ⟨Nat.zero_le _, Nat.zero_le _⟩ rfl rfl (Nat.le_of_ble_eq_true rfl) rfl rfl rfl ?_
            clear e51
            refine cx_goto (tgt := 66) C dX9_lowers_79 (by decide) ?_
            exact ih66 u50.1 u50.2 hf
      unfold f_X9_lowers_L57 at hf
      refine cx_aload_n C dX9_lowers_57 0 rfl ?_
      refine cx_get (v := .ref (m_a 2)) (ci := 8) C iX9 dX9_lowers_58 0 rfl rfl 1 (by decide) hw_1055 rfl ?_
      refine cx_iconst (v := 2) C dX9_lowers_61 (by decide) ?_
      obtain ⟨g16, hf⟩ := cx_gd_at hf
      refine cx_iald C dX9_lowers_62 2 rfl (cx_ib_in g16) ?_
      clear g16
      refine cx_if_le (tgt := 145) C dX9_lowers_63 (by decide) (fun c17 => ?_) (fun c17 => ?_)
      · have hf := cx_if_t hf c17
        clear c17
        refine cx_aload_n C dX9_lowers_145 0 rfl ?_
        refine cx_iconst (v := 0) C dX9_lowers_146 (by decide) ?_
        obtain ⟨u18, e19, hf⟩ := cx_bd_at hf
        refine cx_Fvv (q := (RX9, TX9, 24)) (As := [.int 0]) (rest := []) (w1 := (wd_Model k m_a u18.1 u18.2 m_book m_images m_kept m_before m_refused m_quiet m_text m_typed m_at m_start m_token m_value m_items m_many m_is m_likes m_without m_onePicture m_oneYear m_first m_second m_names)) hA C me_X9_dividesOdd hw_1365 (c_X9_dividesOdd l D k m_a a_14 a_15 m_book m_images m_kept m_before m_refused m_quiet m_text m_typed m_at m_start m_token m_value m_items m_many m_is m_likes m_without m_onePicture m_oneYear m_first m_second m_names 0 u18 e19) dX9_lowers_147 ⟨Nat.le_of_ble_eq_true rfl, Nat.le_of_ble_eq_true rfl⟩ ⟨Nat.zero_le _, Nat.zero_le _⟩ rfl rfl (Nat.le_of_ble_eq_true rfl) rfl rfl rfl ?_
        clear e19
        refine cx_aload_n C dX9_lowers_150 0 rfl ?_
        refine cx_iconst (v := 1) C dX9_lowers_151 (by decide) ?_
        obtain ⟨u20, e21, hf⟩ := cx_bd_at hf
        refine cx_Fvv (q := (RX9, TX9, 24)) (As := [.int 1]) (rest := []) (w1 := (wd_Model k m_a u20.1 u20.2 m_book m_images m_kept m_before m_refused m_quiet m_text m_typed m_at m_start m_token m_value m_items m_many m_is m_likes m_without m_onePicture m_oneYear m_first m_second m_names)) hA C me_X9_dividesOdd hw_1365 (c_X9_dividesOdd l D k m_a u18.1 u18.2 m_book m_images m_kept m_before m_refused m_quiet m_text m_typed m_at m_start m_token m_value m_items m_many m_is m_likes m_without m_onePicture m_oneYear m_first m_second m_names 1 u20 e21) dX9_lowers_152 ⟨Nat.le_of_ble_eq_true rfl, Nat.le_of_ble_eq_true rfl⟩ ⟨Nat.zero_le _, Nat.zero_le _⟩ rfl rfl (Nat.le_of_ble_eq_true rfl) rfl rfl rfl ?_
        clear e21
        obtain rfl := Option.some.inj hf
        exact cx_vret C hA hQ hr hlk dX9_lowers_155 rfl
      · have hf := cx_if_f hf c17
        clear c17
        exact L66 cx_N0 a_14 a_15 hf
  have J45 : ∀ (a_8 : Nat → Int32) (a_9 : Nat → Int32), f_X9_lowers_J45 a_8 a_9 = some y → cx_S p l e (cx_rm 3) s m args below meth c A D 2 0 0 Q 45 [(0, .ref (m_a 0))] [] (wd_Model k m_a a_8 a_9 m_book m_images m_kept m_before m_refused m_quiet m_text m_typed m_at m_start m_token m_value m_items m_many m_is m_likes m_without m_onePicture m_oneYear m_first m_second m_names) := by
    intro a_8 a_9 hf
    unfold f_X9_lowers_J45 at hf
    refine cx_aload_n C dX9_lowers_45 0 rfl ?_
    refine cx_iconst (v := 2) C dX9_lowers_46 (by decide) ?_
    refine cx_iconst (v := 0) C dX9_lowers_47 (by decide) ?_
    obtain ⟨u10, e11, hf⟩ := cx_bd_at hf
    refine cx_Fvv (q := (RX9, TX9, 24)) (As := [.int 2, .int 0]) (rest := []) (w1 := (wd_Model k m_a u10.1 u10.2 m_book m_images m_kept m_before m_refused m_quiet m_text m_typed m_at m_start m_token m_value m_items m_many m_is m_likes m_without m_onePicture m_oneYear m_first m_second m_names)) hA C me_X9_takes hw_1324 (c_X9_takes l D k m_a a_8 a_9 m_book m_images m_kept m_before m_refused m_quiet m_text m_typed m_at m_start m_token m_value m_items m_many m_is m_likes m_without m_onePicture m_oneYear m_first m_second m_names 2 0 u10 e11) dX9_lowers_48 ⟨Nat.le_of_ble_eq_true rfl, Nat.le_of_ble_eq_true rfl⟩ ⟨Nat.zero_le _, Nat.zero_le _⟩ rfl rfl (Nat.le_of_ble_eq_true rfl) rfl rfl rfl ?_
    clear e11
    refine cx_aload_n C dX9_lowers_51 0 rfl ?_
    refine cx_iconst (v := 3) C dX9_lowers_52 (by decide) ?_
    refine cx_iconst (v := 1) C dX9_lowers_53 (by decide) ?_
    obtain ⟨u12, e13, hf⟩ := cx_bd_at hf
    refine cx_Fvv (q := (RX9, TX9, 24)) (As := [.int 3, .int 1]) (rest := []) (w1 := (wd_Model k m_a u12.1 u12.2 m_book m_images m_kept m_before m_refused m_quiet m_text m_typed m_at m_start m_token m_value m_items m_many m_is m_likes m_without m_onePicture m_oneYear m_first m_second m_names)) hA C me_X9_takes hw_1324 (c_X9_takes l D k m_a u10.1 u10.2 m_book m_images m_kept m_before m_refused m_quiet m_text m_typed m_at m_start m_token m_value m_items m_many m_is m_likes m_without m_onePicture m_oneYear m_first m_second m_names 3 1 u12 e13) dX9_lowers_54 ⟨Nat.le_of_ble_eq_true rfl, Nat.le_of_ble_eq_true rfl⟩ ⟨Nat.zero_le _, Nat.zero_le _⟩ rfl rfl (Nat.le_of_ble_eq_true rfl) rfl rfl rfl ?_
    clear e13
    exact L57 cx_N0 u12.1 u12.2 hf
  have L16 : ∀ (n16 : Nat) (a_3 : Nat → Int32) (a_4 : Nat → Int32), f_X9_lowers_L16w n16 a_3 a_4 = some y → cx_S p l e (cx_rm 3) s m args below meth c A D 2 0 0 Q 16 [(0, .ref (m_a 0))] [] (wd_Model k m_a a_3 a_4 m_book m_images m_kept m_before m_refused m_quiet m_text m_typed m_at m_start m_token m_value m_items m_many m_is m_likes m_without m_onePicture m_oneYear m_first m_second m_names) := by
    intro  n16
    induction n16 with
    | zero =>
      intro a_3 a_4 hf
      exact absurd (show (none : Option ((Nat → Int32) × (Nat → Int32))) = some y from hf) (fun h => by cases h)
    | succ n16 ih16 =>
      intro a_3 a_4 hf
      have hf : f_X9_lowers_L16 (f_X9_lowers_L16w n16) a_3 a_4 = some y := hf
      unfold f_X9_lowers_L16 at hf
      refine cx_aload_n C dX9_lowers_16 0 rfl ?_
      refine cx_iconst (v := 0) C dX9_lowers_17 (by decide) ?_
      obtain ⟨u5, e6, hf⟩ := cx_bd_at hf
      refine cx_Fvi (q := (RX9, TX9, 24)) (As := [.int 0]) (rest := []) (w1 := (wd_Model k m_a a_3 a_4 m_book m_images m_kept m_before m_refused m_quiet m_text m_typed m_at m_start m_token m_value m_items m_many m_is m_likes m_without m_onePicture m_oneYear m_first m_second m_names)) hA C me_X9_isEven hw_1349 (c_X9_isEven l D k m_a a_3 a_4 m_book m_images m_kept m_before m_refused m_quiet m_text m_typed m_at m_start m_token m_value m_items m_many m_is m_likes m_without m_onePicture m_oneYear m_first m_second m_names 0 u5 e6) dX9_lowers_18 ⟨Nat.le_of_ble_eq_true rfl, Nat.le_of_ble_eq_true rfl⟩ ⟨Nat.zero_le _, Nat.zero_le _⟩ rfl rfl (Nat.le_of_ble_eq_true rfl) rfl rfl rfl ?_
      clear e6
      refine cx_if_eq (tgt := 45) C dX9_lowers_21 (by decide) (fun c7 => ?_) (fun c7 => ?_)
      · have hf := cx_if_t hf c7
        clear c7
        exact J45 a_3 a_4 hf
      · have hf := cx_if_f hf c7
        clear c7
        refine cx_aload_n C dX9_lowers_24 0 rfl ?_
        refine cx_iconst (v := 1) C dX9_lowers_25 (by decide) ?_
        obtain ⟨u52, e53, hf⟩ := cx_bd_at hf
        refine cx_Fvi (q := (RX9, TX9, 24)) (As := [.int 1]) (rest := []) (w1 := (wd_Model k m_a a_3 a_4 m_book m_images m_kept m_before m_refused m_quiet m_text m_typed m_at m_start m_token m_value m_items m_many m_is m_likes m_without m_onePicture m_oneYear m_first m_second m_names)) hA C me_X9_isEven hw_1349 (c_X9_isEven l D k m_a a_3 a_4 m_book m_images m_kept m_before m_refused m_quiet m_text m_typed m_at m_start m_token m_value m_items m_many m_is m_likes m_without m_onePicture m_oneYear m_first m_second m_names 1 u52 e53) dX9_lowers_26 ⟨Nat.le_of_ble_eq_true rfl, Nat.le_of_ble_eq_true rfl⟩ ⟨Nat.zero_le _, Nat.zero_le _⟩ rfl rfl (Nat.le_of_ble_eq_true rfl) rfl rfl rfl ?_
        clear e53
        refine cx_if_eq (tgt := 45) C dX9_lowers_29 (by decide) (fun c54 => ?_) (fun c54 => ?_)
        · have hf := cx_if_t hf c54
          clear c54
          exact J45 a_3 a_4 hf
        · have hf := cx_if_f hf c54
          clear c54
          refine cx_aload_n C dX9_lowers_32 0 rfl ?_
          refine cx_iconst (v := 0) C dX9_lowers_33 (by decide) ?_
          obtain ⟨u55, e56, hf⟩ := cx_bd_at hf
          refine cx_Fvv (q := (RX9, TX9, 24)) (As := [.int 0]) (rest := []) (w1 := (wd_Model k m_a u55.1 u55.2 m_book m_images m_kept m_before m_refused m_quiet m_text m_typed m_at m_start m_token m_value m_items m_many m_is m_likes m_without m_onePicture m_oneYear m_first m_second m_names)) hA C me_X9_halves hw_1353 (c_X9_halves l D k m_a a_3 a_4 m_book m_images m_kept m_before m_refused m_quiet m_text m_typed m_at m_start m_token m_value m_items m_many m_is m_likes m_without m_onePicture m_oneYear m_first m_second m_names 0 u55 e56) dX9_lowers_34 ⟨Nat.le_of_ble_eq_true rfl, Nat.le_of_ble_eq_true rfl⟩ ⟨Nat.zero_le _, Nat.zero_le _⟩ rfl rfl (Nat.le_of_ble_eq_true rfl) rfl rfl rfl ?_
          clear e56
          refine cx_aload_n C dX9_lowers_37 0 rfl ?_
          refine cx_iconst (v := 1) C dX9_lowers_38 (by decide) ?_
          obtain ⟨u57, e58, hf⟩ := cx_bd_at hf
          refine cx_Fvv (q := (RX9, TX9, 24)) (As := [.int 1]) (rest := []) (w1 := (wd_Model k m_a u57.1 u57.2 m_book m_images m_kept m_before m_refused m_quiet m_text m_typed m_at m_start m_token m_value m_items m_many m_is m_likes m_without m_onePicture m_oneYear m_first m_second m_names)) hA C me_X9_halves hw_1353 (c_X9_halves l D k m_a u55.1 u55.2 m_book m_images m_kept m_before m_refused m_quiet m_text m_typed m_at m_start m_token m_value m_items m_many m_is m_likes m_without m_onePicture m_oneYear m_first m_second m_names 1 u57 e58) dX9_lowers_39 ⟨Nat.le_of_ble_eq_true rfl, Nat.le_of_ble_eq_true rfl⟩ ⟨Nat.zero_le _, Nat.zero_le _⟩ rfl rfl (Nat.le_of_ble_eq_true rfl) rfl rfl rfl ?_
          clear e58
          refine cx_goto (tgt := 16) C dX9_lowers_42 (by decide) ?_
          exact ih16 u57.1 u57.2 hf
  unfold f_X9_lowers at hf
  refine cx_aload_n C dX9_lowers_0 0 rfl ?_
  refine cx_get (v := .ref (m_a 2)) (ci := 8) C iX9 dX9_lowers_1 0 rfl rfl 1 (by decide) hw_1055 rfl ?_
  refine cx_iconst (v := 0) C dX9_lowers_4 (by decide) ?_
  obtain ⟨g1, hf⟩ := cx_gd_at hf
  refine cx_iald C dX9_lowers_5 2 rfl (cx_ib_in g1) ?_
  clear g1
  refine cx_if_ne (tgt := 16) C dX9_lowers_6 (by decide) (fun c2 => ?_) (fun c2 => ?_)
  · have hf := cx_if_f hf c2
    clear c2
    exact L16 cx_N0 m_limbs m_wide hf
  · have hf := cx_if_t hf c2
    clear c2
    refine cx_aload_n C dX9_lowers_9 0 rfl ?_
    refine cx_iconst (v := 1) C dX9_lowers_10 (by decide) ?_
    refine cx_lconst (v := 1) C dX9_lowers_11 (by decide) ?_
    obtain ⟨u59, e60, hf⟩ := cx_bd_at hf
    refine cx_Fvv (q := (RX9, TX9, 24)) (As := [.int 1, .long 1]) (rest := []) (w1 := (wd_Model k m_a u59.1 u59.2 m_book m_images m_kept m_before m_refused m_quiet m_text m_typed m_at m_start m_token m_value m_items m_many m_is m_likes m_without m_onePicture m_oneYear m_first m_second m_names)) hA C me_X9_sets hw_1045 (c_X9_sets l D k m_a m_limbs m_wide m_book m_images m_kept m_before m_refused m_quiet m_text m_typed m_at m_start m_token m_value m_items m_many m_is m_likes m_without m_onePicture m_oneYear m_first m_second m_names 1 1 u59 e60) dX9_lowers_12 ⟨Nat.le_of_ble_eq_true rfl, Nat.le_of_ble_eq_true rfl⟩ ⟨Nat.zero_le _, Nat.zero_le _⟩ rfl rfl (Nat.le_of_ble_eq_true rfl) rfl rfl rfl ?_
    clear e60
    obtain rfl := Option.some.inj hf
    exact cx_vret C hA hQ hr hlk dX9_lowers_15 rfl
