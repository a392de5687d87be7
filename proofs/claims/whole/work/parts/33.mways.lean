theorem dX9_ways_0 : decode cX9_ways 0 = .ok (.iconst 1, 1) := by decide +kernel
theorem dX9_ways_1 : decode cX9_ways 1 = .ok (.istore_n 1, 1) := by decide +kernel
theorem dX9_ways_2 : decode cX9_ways 2 = .ok (.iconst 0, 1) := by decide +kernel
theorem dX9_ways_3 : decode cX9_ways 3 = .ok (.istore_n 2, 1) := by decide +kernel
theorem dX9_ways_4 : decode cX9_ways 4 = .ok (.iload_n 2, 1) := by decide +kernel
theorem dX9_ways_5 : decode cX9_ways 5 = .ok (.aload_n 0, 1) := by decide +kernel
theorem dX9_ways_6 : decode cX9_ways 6 = .ok (.getfield 51, 3) := by decide +kernel
theorem dX9_ways_9 : decode cX9_ways 9 = .ok (.iconst 2, 1) := by decide +kernel
theorem dX9_ways_10 : decode cX9_ways 10 = .ok (.iaload, 1) := by decide +kernel
theorem dX9_ways_11 : decode cX9_ways 11 = .ok (.if_icmp .ge 20, 3) := by decide +kernel
theorem dX9_ways_14 : decode cX9_ways 14 = .ok (.iload_n 1, 1) := by decide +kernel
theorem dX9_ways_15 : decode cX9_ways 15 = .ok (.aload_n 0, 1) := by decide +kernel
theorem dX9_ways_16 : decode cX9_ways 16 = .ok (.getfield 51, 3) := by decide +kernel
theorem dX9_ways_19 : decode cX9_ways 19 = .ok (.iconst 0, 1) := by decide +kernel
theorem dX9_ways_20 : decode cX9_ways 20 = .ok (.iaload, 1) := by decide +kernel
theorem dX9_ways_21 : decode cX9_ways 21 = .ok (.iconst 1, 1) := by decide +kernel
theorem dX9_ways_22 : decode cX9_ways 22 = .ok (.iadd, 1) := by decide +kernel
theorem dX9_ways_23 : decode cX9_ways 23 = .ok (.imul, 1) := by decide +kernel
theorem dX9_ways_24 : decode cX9_ways 24 = .ok (.istore_n 1, 1) := by decide +kernel
theorem dX9_ways_25 : decode cX9_ways 25 = .ok (.iinc 2 1, 3) := by decide +kernel
theorem dX9_ways_28 : decode cX9_ways 28 = .ok (.goto (-24), 3) := by decide +kernel
theorem dX9_ways_31 : decode cX9_ways 31 = .ok (.iload_n 1, 1) := by decide +kernel
theorem dX9_ways_32 : decode cX9_ways 32 = .ok (.ireturn, 1) := by decide +kernel
theorem me_X9_ways : cx_Mv yX9_ways cX9_ways 3 (some .int) 0 := ⟨⟨⟨by decide +kernel, by decide +kernel, by decide +kernel⟩, hw_11, hw_1295⟩, hw_1294, hs_56⟩
noncomputable def f_X9_ways_L4 (m_book : Nat → Int32) (rc4 : Int32 → Int32 → Option Int32) (x1_1 : Int32) (x2_2 : Int32) : Option Int32 := cx_gd (cx_ib 2 140) (if (m_book (cx_ix 2)) ≤ x2_2 then (some x1_1) else (cx_gd (cx_ib 0 140) (cx_let (x1_1 * ((m_book (cx_ix 0)) + 1)) (fun v6 => rc4 v6 (x2_2 + 1)))))
noncomputable def f_X9_ways_L4w (m_book : Nat → Int32) (n : Nat) : Int32 → Int32 → Option Int32 := Nat.rec (fun _ _ => none) (fun _ r => f_X9_ways_L4 m_book r) n
noncomputable def f_X9_ways (m_book : Nat → Int32) : Option Int32 := f_X9_ways_L4w m_book cx_N0 1 0
set_option maxHeartbeats 4000000 in
set_option maxRecDepth 100000 in
theorem c_X9_ways (l : Launch) (D : va_G) (k : Nat → ClassId) (m_a : Nat → Nat) (m_limbs : Nat → Int32) (m_wide : Nat → Int32) (m_book : Nat → Int32) (m_images : Nat → Int32) (m_kept : Nat → Int32) (m_before : Nat → Int32) (m_refused : Nat → Int32) (m_quiet : Int32) (m_text : Nat → Int32) (m_typed : Int32) (m_at : Int32) (m_start : Int32) (m_token : Int32) (m_value : Int32) (m_items : Nat → Int32) (m_many : Int32) (m_is : Nat → Int32) (m_likes : Nat → Int32) (m_without : Int32) (m_onePicture : Int32) (m_oneYear : Int32) (m_first : Int32) (m_second : Int32) (m_names : Nat → Int32) (y : Int32) (hf : f_X9_ways m_book = some y) : cx_M l yX9_ways cX9_ways 3 (some .int) 1 D k [.ref (m_a 0)] (wd_Model k m_a m_limbs m_wide m_book m_images m_kept m_before m_refused m_quiet m_text m_typed m_at m_start m_token m_value m_items m_many m_is m_likes m_without m_onePicture m_oneYear m_first m_second m_names) (fun sz => cx_Qi D y (wd_Model k m_a m_limbs m_wide m_book m_images m_kept m_before m_refused m_quiet m_text m_typed m_at m_start m_token m_value m_items m_many m_is m_likes m_without m_onePicture m_oneYear m_first m_second m_names) (wd_Model k m_a m_limbs m_wide m_book m_images m_kept m_before m_refused m_quiet m_text m_typed m_at m_start m_token m_value m_items m_many m_is m_likes m_without m_onePicture m_oneYear m_first m_second m_names) sz) := by
  refine cx_met (own := "NamelessBoxModel") (by decide) rfl (Nat.le_of_ble_eq_true rfl) ?_
  intro p e s m args below meth c A Q C hA hQ hr hlk
  refine cx_lv (lv' := [(0, .ref (m_a 0))]) [0] rfl ?_
  have L4 : ∀ (n4 : Nat) (x1_1 : Int32) (x2_2 : Int32), f_X9_ways_L4w m_book n4 x1_1 x2_2 = some y → cx_S p l e (cx_rm 1) s m args below meth c A D 3 0 0 Q 4 [(0, .ref (m_a 0)), (1, .int x1_1), (2, .int x2_2)] [] (wd_Model k m_a m_limbs m_wide m_book m_images m_kept m_before m_refused m_quiet m_text m_typed m_at m_start m_token m_value m_items m_many m_is m_likes m_without m_onePicture m_oneYear m_first m_second m_names) := by
    intro  n4
    induction n4 with
    | zero =>
      intro x1_1 x2_2 hf
      exact absurd (show (none : Option Int32) = some y from hf) (fun h => by cases h)
    | succ n4 ih4 =>
      intro x1_1 x2_2 hf
      have hf : f_X9_ways_L4 m_book (f_X9_ways_L4w m_book n4) x1_1 x2_2 = some y := hf
      unfold f_X9_ways_L4 at hf
      refine cx_iload_n C dX9_ways_4 2 rfl ?_
      refine cx_aload_n C dX9_ways_5 0 rfl ?_
      refine cx_get (v := .ref (m_a 3)) (ci := 8) C iX9 dX9_ways_6 0 rfl rfl 2 (by decide) hw_1056 rfl ?_
      refine cx_iconst (v := 2) C dX9_ways_9 (by decide) ?_
      obtain ⟨g3, hf⟩ := cx_gd_at hf
      refine cx_iald C dX9_ways_10 3 rfl (cx_ib_in g3) ?_
      clear g3
      refine cx_icmp_ge (tgt := 31) C dX9_ways_11 (by decide) (fun c4 => ?_) (fun c4 => ?_)
      · have hf := cx_if_t hf c4
        clear c4
        refine cx_iload_n C dX9_ways_31 1 rfl ?_
        obtain rfl := Option.some.inj hf
        exact cx_iret C hA hQ hr hlk dX9_ways_32 rfl rfl
      · have hf := cx_if_f hf c4
        clear c4
        refine cx_iload_n C dX9_ways_14 1 rfl ?_
        refine cx_aload_n C dX9_ways_15 0 rfl ?_
        refine cx_get (v := .ref (m_a 3)) (ci := 8) C iX9 dX9_ways_16 0 rfl rfl 2 (by decide) hw_1056 rfl ?_
        refine cx_iconst (v := 0) C dX9_ways_19 (by decide) ?_
        obtain ⟨g5, hf⟩ := cx_gd_at hf
        refine cx_iald C dX9_ways_20 3 rfl (cx_ib_in g5) ?_
        clear g5
        refine cx_iconst (v := 1) C dX9_ways_21 (by decide) ?_
        refine cx_iadd C dX9_ways_22 ?_
        refine cx_imul C dX9_ways_23 ?_
        refine cx_topi (fun v6 ev6 => ?_)
        have hf := cx_let_at hf ev6
        clear ev6
        refine cx_istore_n (lv' := [(1, .int v6), (0, .ref (m_a 0)), (2, .int x2_2)]) C dX9_ways_24 rfl (by decide) rfl ?_
        refine cx_iinc (v := x2_2 + 1) (lv' := [(2, .int (x2_2 + 1)), (1, .int v6), (0, .ref (m_a 0))]) C dX9_ways_25 2 rfl rfl (by decide) rfl ?_
        refine cx_goto (tgt := 4) C dX9_ways_28 (by decide) ?_
        refine cx_lv [2, 1, 0] rfl ?_
        exact ih4 v6 (x2_2 + 1) hf
  unfold f_X9_ways at hf
  refine cx_iconst (v := 1) C dX9_ways_0 (by decide) ?_
  refine cx_istore_n (lv' := [(1, .int 1), (0, .ref (m_a 0))]) C dX9_ways_1 rfl (by decide) rfl ?_
  refine cx_iconst (v := 0) C dX9_ways_2 (by decide) ?_
  refine cx_istore_n (lv' := [(2, .int 0), (1, .int 1), (0, .ref (m_a 0))]) C dX9_ways_3 rfl (by decide) rfl ?_
  refine cx_lv [2, 1, 0] rfl ?_
  exact L4 cx_N0 1 0 hf
theorem dX9_begins_0 : decode cX9_begins 0 = .ok (.aload_n 0, 1) := by decide +kernel
theorem dX9_begins_1 : decode cX9_begins 1 = .ok (.iconst (-1), 1) := by decide +kernel
theorem dX9_begins_2 : decode cX9_begins 2 = .ok (.putfield 232, 3) := by decide +kernel
theorem dX9_begins_5 : decode cX9_begins 5 = .ok (.aload_n 0, 1) := by decide +kernel
theorem dX9_begins_6 : decode cX9_begins 6 = .ok (.iconst (-1), 1) := by decide +kernel
theorem dX9_begins_7 : decode cX9_begins 7 = .ok (.putfield 235, 3) := by decide +kernel
theorem dX9_begins_10 : decode cX9_begins 10 = .ok (.aload_n 0, 1) := by decide +kernel
theorem dX9_begins_11 : decode cX9_begins 11 = .ok (.iconst (-1), 1) := by decide +kernel
theorem dX9_begins_12 : decode cX9_begins 12 = .ok (.putfield 238, 3) := by decide +kernel
theorem dX9_begins_15 : decode cX9_begins 15 = .ok (.iconst 0, 1) := by decide +kernel
theorem dX9_begins_16 : decode cX9_begins 16 = .ok (.istore_n 1, 1) := by decide +kernel
theorem dX9_begins_17 : decode cX9_begins 17 = .ok (.iload_n 1, 1) := by decide +kernel
theorem dX9_begins_18 : decode cX9_begins 18 = .ok (.aload_n 0, 1) := by decide +kernel
theorem dX9_begins_19 : decode cX9_begins 19 = .ok (.getfield 51, 3) := by decide +kernel
theorem dX9_begins_22 : decode cX9_begins 22 = .ok (.iconst 2, 1) := by decide +kernel
theorem dX9_begins_23 : decode cX9_begins 23 = .ok (.iaload, 1) := by decide +kernel
theorem dX9_begins_24 : decode cX9_begins 24 = .ok (.if_icmp .ge 101, 3) := by decide +kernel
theorem dX9_begins_27 : decode cX9_begins 27 = .ok (.aload_n 0, 1) := by decide +kernel
theorem dX9_begins_28 : decode cX9_begins 28 = .ok (.iload_n 1, 1) := by decide +kernel
theorem dX9_begins_29 : decode cX9_begins 29 = .ok (.iconst 0, 1) := by decide +kernel
theorem dX9_begins_30 : decode cX9_begins 30 = .ok (.invokevirtual 122, 3) := by decide +kernel
theorem dX9_begins_33 : decode cX9_begins 33 = .ok (.istore_n 2, 1) := by decide +kernel
theorem dX9_begins_34 : decode cX9_begins 34 = .ok (.iconst 0, 1) := by decide +kernel
theorem dX9_begins_35 : decode cX9_begins 35 = .ok (.istore_n 3, 1) := by decide +kernel
theorem dX9_begins_36 : decode cX9_begins 36 = .ok (.iload_n 3, 1) := by decide +kernel
theorem dX9_begins_37 : decode cX9_begins 37 = .ok (.iconst 5, 1) := by decide +kernel
theorem dX9_begins_38 : decode cX9_begins 38 = .ok (.if_icmp .gt 81, 3) := by decide +kernel
theorem dX9_begins_41 : decode cX9_begins 41 = .ok (.iconst 0, 1) := by decide +kernel
theorem dX9_begins_42 : decode cX9_begins 42 = .ok (.istore 4, 2) := by decide +kernel
theorem dX9_begins_44 : decode cX9_begins 44 = .ok (.iload 4, 2) := by decide +kernel
theorem dX9_begins_46 : decode cX9_begins 46 = .ok (.bipush 12, 2) := by decide +kernel
theorem dX9_begins_48 : decode cX9_begins 48 = .ok (.if_icmp .ge 65, 3) := by decide +kernel
theorem dX9_begins_51 : decode cX9_begins 51 = .ok (.aload_n 0, 1) := by decide +kernel
theorem dX9_begins_52 : decode cX9_begins 52 = .ok (.getfield 76, 3) := by decide +kernel
theorem dX9_begins_55 : decode cX9_begins 55 = .ok (.bipush 72, 2) := by decide +kernel
theorem dX9_begins_57 : decode cX9_begins 57 = .ok (.iload_n 1, 1) := by decide +kernel
theorem dX9_begins_58 : decode cX9_begins 58 = .ok (.imul, 1) := by decide +kernel
theorem dX9_begins_59 : decode cX9_begins 59 = .ok (.bipush 12, 2) := by decide +kernel
theorem dX9_begins_61 : decode cX9_begins 61 = .ok (.iload_n 3, 1) := by decide +kernel
theorem dX9_begins_62 : decode cX9_begins 62 = .ok (.imul, 1) := by decide +kernel
theorem dX9_begins_63 : decode cX9_begins 63 = .ok (.iadd, 1) := by decide +kernel
theorem dX9_begins_64 : decode cX9_begins 64 = .ok (.iload 4, 2) := by decide +kernel
theorem dX9_begins_66 : decode cX9_begins 66 = .ok (.iadd, 1) := by decide +kernel
theorem dX9_begins_67 : decode cX9_begins 67 = .ok (.iload_n 3, 1) := by decide +kernel
theorem dX9_begins_68 : decode cX9_begins 68 = .ok (.aload_n 0, 1) := by decide +kernel
theorem dX9_begins_69 : decode cX9_begins 69 = .ok (.getfield 51, 3) := by decide +kernel
theorem dX9_begins_72 : decode cX9_begins 72 = .ok (.iconst 0, 1) := by decide +kernel
theorem dX9_begins_73 : decode cX9_begins 73 = .ok (.iaload, 1) := by decide +kernel
theorem dX9_begins_74 : decode cX9_begins 74 = .ok (.if_icmp .lt 8, 3) := by decide +kernel
theorem dX9_begins_77 : decode cX9_begins 77 = .ok (.iload_n 3, 1) := by decide +kernel
theorem dX9_begins_78 : decode cX9_begins 78 = .ok (.iconst 5, 1) := by decide +kernel
theorem dX9_begins_79 : decode cX9_begins 79 = .ok (.if_icmp .ne 26, 3) := by decide +kernel
theorem dX9_begins_82 : decode cX9_begins 82 = .ok (.aload_n 0, 1) := by decide +kernel
theorem dX9_begins_83 : decode cX9_begins 83 = .ok (.iload_n 1, 1) := by decide +kernel
theorem dX9_begins_84 : decode cX9_begins 84 = .ok (.iload_n 3, 1) := by decide +kernel
theorem dX9_begins_85 : decode cX9_begins 85 = .ok (.aload_n 0, 1) := by decide +kernel
theorem dX9_begins_86 : decode cX9_begins 86 = .ok (.getfield 51, 3) := by decide +kernel
theorem dX9_begins_89 : decode cX9_begins 89 = .ok (.bipush 40, 2) := by decide +kernel
theorem dX9_begins_91 : decode cX9_begins 91 = .ok (.iconst 2, 1) := by decide +kernel
theorem dX9_begins_92 : decode cX9_begins 92 = .ok (.iload_n 2, 1) := by decide +kernel
theorem dX9_begins_93 : decode cX9_begins 93 = .ok (.imul, 1) := by decide +kernel
theorem dX9_begins_94 : decode cX9_begins 94 = .ok (.iadd, 1) := by decide +kernel
theorem dX9_begins_95 : decode cX9_begins 95 = .ok (.iaload, 1) := by decide +kernel
theorem dX9_begins_96 : decode cX9_begins 96 = .ok (.iload 4, 2) := by decide +kernel
theorem dX9_begins_98 : decode cX9_begins 98 = .ok (.iadd, 1) := by decide +kernel
theorem dX9_begins_99 : decode cX9_begins 99 = .ok (.invokevirtual 134, 3) := by decide +kernel
theorem dX9_begins_102 : decode cX9_begins 102 = .ok (.goto 4, 3) := by decide +kernel
theorem dX9_begins_105 : decode cX9_begins 105 = .ok (.iconst 0, 1) := by decide +kernel
theorem dX9_begins_106 : decode cX9_begins 106 = .ok (.iastore, 1) := by decide +kernel
theorem dX9_begins_107 : decode cX9_begins 107 = .ok (.iinc 4 1, 3) := by decide +kernel
theorem dX9_begins_110 : decode cX9_begins 110 = .ok (.goto (-66), 3) := by decide +kernel
theorem dX9_begins_113 : decode cX9_begins 113 = .ok (.iinc 3 1, 3) := by decide +kernel
theorem dX9_begins_116 : decode cX9_begins 116 = .ok (.goto (-80), 3) := by decide +kernel
theorem dX9_begins_119 : decode cX9_begins 119 = .ok (.iinc 1 1, 3) := by decide +kernel
theorem dX9_begins_122 : decode cX9_begins 122 = .ok (.goto (-105), 3) := by decide +kernel
theorem dX9_begins_125 : decode cX9_begins 125 = .ok (.return_, 1) := by decide +kernel
theorem me_X9_begins : cx_Mv yX9_begins cX9_begins 5 none 0 := ⟨⟨⟨by decide +kernel, by decide +kernel, by decide +kernel⟩, hw_11, hw_1287⟩, hw_1286, hs_54⟩
noncomputable def f_X9_begins_J106 (a_14 : Nat → Int32) (x4_15 : Int32) (rc44 : (Nat → Int32) → Int32 → Option (Int32 × Int32 × Int32 × (Nat → Int32))) (s1_23 : Int32) (s2_24 : Int32) : Option (Int32 × Int32 × Int32 × (Nat → Int32)) := cx_gd (cx_ib s1_23 432) (cx_let (upd a_14 (cx_ix s1_23) s2_24) (fun a26 => rc44 a26 (x4_15 + 1)))
noncomputable def f_X9_begins_J82 (m_book : Nat → Int32) (x1_5 : Int32) (x2_11 : Int32) (x3_12 : Int32) (a_14 : Nat → Int32) (x4_15 : Int32) (rc44 : (Nat → Int32) → Int32 → Option (Int32 × Int32 × Int32 × (Nat → Int32))) (s1_19 : Int32) : Option (Int32 × Int32 × Int32 × (Nat → Int32)) := cx_gd (cx_ib (40 + (2 * x2_11)) 140) (Option.bind (f_X9_likeOf m_book x1_5 x3_12 ((m_book (cx_ix (40 + (2 * x2_11)))) + x4_15)) (fun u21 => f_X9_begins_J106 a_14 x4_15 rc44 s1_19 u21))
noncomputable def f_X9_begins_L44 (m_book : Nat → Int32) (x1_5 : Int32) (x2_11 : Int32) (x3_12 : Int32) (rc36 : (Nat → Int32) → Int32 → Option (Int32 × Int32 × Int32 × (Nat → Int32))) (rc44 : (Nat → Int32) → Int32 → Option (Int32 × Int32 × Int32 × (Nat → Int32))) (a_14 : Nat → Int32) (x4_15 : Int32) : Option (Int32 × Int32 × Int32 × (Nat → Int32)) := if 12 ≤ x4_15 then (rc36 a_14 (x3_12 + 1)) else (cx_gd (cx_ib 0 140) (if x3_12 < (m_book (cx_ix 0)) then (f_X9_begins_J82 m_book x1_5 x2_11 x3_12 a_14 x4_15 rc44 (((72 * x1_5) + (12 * x3_12)) + x4_15)) else (if x3_12 = 5 then (f_X9_begins_J82 m_book x1_5 x2_11 x3_12 a_14 x4_15 rc44 (((72 * x1_5) + (12 * x3_12)) + x4_15)) else (f_X9_begins_J106 a_14 x4_15 rc44 (((72 * x1_5) + (12 * x3_12)) + x4_15) 0))))
noncomputable def f_X9_begins_L44w (m_book : Nat → Int32) (x1_5 : Int32) (x2_11 : Int32) (x3_12 : Int32) (rc36 : (Nat → Int32) → Int32 → Option (Int32 × Int32 × Int32 × (Nat → Int32))) (n : Nat) : (Nat → Int32) → Int32 → Option (Int32 × Int32 × Int32 × (Nat → Int32)) := Nat.rec (fun _ _ => none) (fun _ r => f_X9_begins_L44 m_book x1_5 x2_11 x3_12 rc36 r) n
noncomputable def f_X9_begins_L36 (m_book : Nat → Int32) (x1_5 : Int32) (rc17 : (Nat → Int32) → Int32 → Option (Int32 × Int32 × Int32 × (Nat → Int32))) (x2_11 : Int32) (rc36 : (Nat → Int32) → Int32 → Option (Int32 × Int32 × Int32 × (Nat → Int32))) (a_10 : Nat → Int32) (x3_12 : Int32) : Option (Int32 × Int32 × Int32 × (Nat → Int32)) := if 5 < x3_12 then (rc17 a_10 (x1_5 + 1)) else (f_X9_begins_L44w m_book x1_5 x2_11 x3_12 rc36 cx_N0 a_10 0)
noncomputable def f_X9_begins_L36w (m_book : Nat → Int32) (x1_5 : Int32) (rc17 : (Nat → Int32) → Int32 → Option (Int32 × Int32 × Int32 × (Nat → Int32))) (x2_11 : Int32) (n : Nat) : (Nat → Int32) → Int32 → Option (Int32 × Int32 × Int32 × (Nat → Int32)) := Nat.rec (fun _ _ => none) (fun _ r => f_X9_begins_L36 m_book x1_5 rc17 x2_11 r) n
noncomputable def f_X9_begins_L17 (m_book : Nat → Int32) (h_1 : Int32) (h_2 : Int32) (h_3 : Int32) (rc17 : (Nat → Int32) → Int32 → Option (Int32 × Int32 × Int32 × (Nat → Int32))) (a_4 : Nat → Int32) (x1_5 : Int32) : Option (Int32 × Int32 × Int32 × (Nat → Int32)) := cx_gd (cx_ib 2 140) (if (m_book (cx_ix 2)) ≤ x1_5 then (some ((h_1, h_2, h_3, a_4))) else (Option.bind (f_X9_ofHead m_book x1_5 0) (fun u8 => f_X9_begins_L36w m_book x1_5 rc17 u8 cx_N0 a_4 0)))
noncomputable def f_X9_begins_L17w (m_book : Nat → Int32) (h_1 : Int32) (h_2 : Int32) (h_3 : Int32) (n : Nat) : (Nat → Int32) → Int32 → Option (Int32 × Int32 × Int32 × (Nat → Int32)) := Nat.rec (fun _ _ => none) (fun _ r => f_X9_begins_L17 m_book h_1 h_2 h_3 r) n
noncomputable def f_X9_begins (m_book : Nat → Int32) (m_likes : Nat → Int32) : Option (Int32 × Int32 × Int32 × (Nat → Int32)) := f_X9_begins_L17w m_book ((-1)) ((-1)) ((-1)) cx_N0 m_likes 0
set_option maxHeartbeats 4000000 in
set_option maxRecDepth 100000 in
theorem c_X9_begins (l : Launch) (D : va_G) (k : Nat → ClassId) (m_a : Nat → Nat) (m_limbs : Nat → Int32) (m_wide : Nat → Int32) (m_book : Nat → Int32) (m_images : Nat → Int32) (m_kept : Nat → Int32) (m_before : Nat → Int32) (m_refused : Nat → Int32) (m_quiet : Int32) (m_text : Nat → Int32) (m_typed : Int32) (m_at : Int32) (m_start : Int32) (m_token : Int32) (m_value : Int32) (m_items : Nat → Int32) (m_many : Int32) (m_is : Nat → Int32) (m_likes : Nat → Int32) (m_without : Int32) (m_onePicture : Int32) (m_oneYear : Int32) (m_first : Int32) (m_second : Int32) (m_names : Nat → Int32) (y : Int32 × Int32 × Int32 × (Nat → Int32)) (hf : f_X9_begins m_book m_likes = some y) : cx_M l yX9_begins cX9_begins 5 none 4 D k [.ref (m_a 0)] (wd_Model k m_a m_limbs m_wide m_book m_images m_kept m_before m_refused m_quiet m_text m_typed m_at m_start m_token m_value m_items m_many m_is m_likes m_without m_onePicture m_oneYear m_first m_second m_names) (fun sz => cx_Qv D (wd_Model k m_a m_limbs m_wide m_book m_images m_kept m_before m_refused m_quiet m_text m_typed m_at m_start m_token m_value m_items m_many m_is m_likes m_without m_onePicture m_oneYear m_first m_second m_names) (wd_Model k m_a m_limbs m_wide m_book m_images m_kept m_before m_refused m_quiet m_text m_typed m_at m_start m_token m_value m_items m_many m_is y.2.2.2 y.1 y.2.1 m_oneYear y.2.2.1 m_second m_names) sz) := by
  refine cx_met (own := "NamelessBoxModel") (by decide) rfl (Nat.le_of_ble_eq_true rfl) ?_
  intro p e s m args below meth c A Q C hA hQ hr hlk
  refine cx_lv (lv' := [(0, .ref (m_a 0))]) [0] rfl ?_
  have L17 : ∀ (h_1 : Int32) (h_2 : Int32) (h_3 : Int32) (n17 : Nat) (a_4 : Nat → Int32) (x1_5 : Int32), f_X9_begins_L17w m_book h_1 h_2 h_3 n17 a_4 x1_5 = some y → cx_S p l e (cx_rm 4) s m args below meth c A D 5 0 0 Q 17 [(0, .ref (m_a 0)), (1, .int x1_5)] [] (wd_Model k m_a m_limbs m_wide m_book m_images m_kept m_before m_refused m_quiet m_text m_typed m_at m_start m_token m_value m_items m_many m_is a_4 h_1 h_2 m_oneYear h_3 m_second m_names) := by
    intro h_1 h_2 h_3 n17
    induction n17 with
    | zero =>
      intro a_4 x1_5 hf
      exact absurd (show (none : Option (Int32 × Int32 × Int32 × (Nat → Int32))) = some y from hf) (fun h => by cases h)
    | succ n17 ih17 =>
      intro a_4 x1_5 hf
      have hf : f_X9_begins_L17 m_book h_1 h_2 h_3 (f_X9_begins_L17w m_book h_1 h_2 h_3 n17) a_4 x1_5 = some y := hf
      have L36 : ∀ (x2_11 : Int32) (n36 : Nat) (a_10 : Nat → Int32) (x3_12 : Int32), f_X9_begins_L36w m_book x1_5 (f_X9_begins_L17w m_book h_1 h_2 h_3 n17) x2_11 n36 a_10 x3_12 = some y → cx_S p l e (cx_rm 4) s m args below meth c A D 5 0 0 Q 36 [(0, .ref (m_a 0)), (1, .int x1_5), (2, .int x2_11), (3, .int x3_12)] [] (wd_Model k m_a m_limbs m_wide m_book m_images m_kept m_before m_refused m_quiet m_text m_typed m_at m_start m_token m_value m_items m_many m_is a_10 h_1 h_2 m_oneYear h_3 m_second m_names) := by
        intro x2_11 n36
        induction n36 with
        | zero =>
          intro a_10 x3_12 hf
          exact absurd (show (none : Option (Int32 × Int32 × Int32 × (Nat → Int32))) = some y from hf) (fun h => by cases h)
        | succ n36 ih36 =>
          intro a_10 x3_12 hf
          have hf : f_X9_begins_L36 m_book x1_5 (f_X9_begins_L17w m_book h_1 h_2 h_3 n17) x2_11 (f_X9_begins_L36w m_book x1_5 (f_X9_begins_L17w m_book h_1 h_2 h_3 n17) x2_11 n36) a_10 x3_12 = some y := hf
          have L44 : ∀ (n44 : Nat) (a_14 : Nat → Int32) (x4_15 : Int32), f_X9_begins_L44w m_book x1_5 x2_11 x3_12 (f_X9_begins_L36w m_book x1_5 (f_X9_begins_L17w m_book h_1 h_2 h_3 n17) x2_11 n36) n44 a_14 x4_15 = some y → cx_S p l e (cx_rm 4) s m args below meth c A D 5 0 0 Q 44 [(0, .ref (m_a 0)), (1, .int x1_5), (2, .int x2_11), (3, .int x3_12), (4, .int x4_15)] [] (wd_Model k m_a m_limbs m_wide m_book m_images m_kept m_before m_refused m_quiet m_text m_typed m_at m_start m_token m_value m_items m_many m_is a_14 h_1 h_2 m_oneYear h_3 m_second m_names) := by
            intro  n44
            induction n44 with
            | zero =>
              intro a_14 x4_15 hf
              exact absurd (show (none : Option (Int32 × Int32 × Int32 × (Nat → Int32))) = some y from hf) (fun h => by cases h)
            | succ n44 ih44 =>
              intro a_14 x4_15 hf
              have hf : f_X9_begins_L44 m_book x1_5 x2_11 x3_12 (f_X9_begins_L36w m_book x1_5 (f_X9_begins_L17w m_book h_1 h_2 h_3 n17) x2_11 n36) (f_X9_begins_L44w m_book x1_5 x2_11 x3_12 (f_X9_begins_L36w m_book x1_5 (f_X9_begins_L17w m_book h_1 h_2 h_3 n17) x2_11 n36) n44) a_14 x4_15 = some y := hf
              have J106 : ∀ (s1_23 : Int32) (s2_24 : Int32), f_X9_begins_J106 a_14 x4_15 (f_X9_begins_L44w m_book x1_5 x2_11 x3_12 (f_X9_begins_L36w m_book x1_5 (f_X9_begins_L17w m_book h_1 h_2 h_3 n17) x2_11 n36) n44) s1_23 s2_24 = some y → cx_S p l e (cx_rm 4) s m args below meth c A D 5 0 0 Q 106 [(0, .ref (m_a 0)), (1, .int x1_5), (2, .int x2_11), (3, .int x3_12), (4, .int x4_15)] [.int s2_24, .int s1_23, .ref (m_a 11)] (wd_Model k m_a m_limbs m_wide m_book m_images m_kept m_before m_refused m_quiet m_text m_typed m_at m_start m_token m_value m_items m_many m_is a_14 h_1 h_2 m_oneYear h_3 m_second m_names) := by
                intro s1_23 s2_24 hf
                unfold f_X9_begins_J106 at hf
                obtain ⟨g25, hf⟩ := cx_gd_at hf
                obtain ⟨a26, ea26⟩ : ∃ z, z = upd a_14 (cx_ix s1_23) s2_24 := ⟨_, rfl⟩
                have hf := cx_let_at hf ea26
                refine cx_iast (ws' := (wd_Model k m_a m_limbs m_wide m_book m_images m_kept m_before m_refused m_quiet m_text m_typed m_at m_start m_token m_value m_items m_many m_is a26 h_1 h_2 m_oneYear h_3 m_second m_names)) C dX9_begins_106 11 rfl (cx_ib_in g25) (by rw [ea26]; rfl) ?_
                clear ea26 g25
                refine cx_iinc (v := x4_15 + 1) (lv' := [(4, .int (x4_15 + 1)), (0, .ref (m_a 0)), (1, .int x1_5), (2, .int x2_11), (3, .int x3_12)]) C dX9_begins_107 4 rfl rfl (by decide) rfl ?_
                refine cx_goto (tgt := 44) C dX9_begins_110 (by decide) ?_
                refine cx_lv [1, 2, 3, 4, 0] rfl ?_
                exact ih44 a26 (x4_15 + 1) hf
              have J82 : ∀ (s1_19 : Int32), f_X9_begins_J82 m_book x1_5 x2_11 x3_12 a_14 x4_15 (f_X9_begins_L44w m_book x1_5 x2_11 x3_12 (f_X9_begins_L36w m_book x1_5 (f_X9_begins_L17w m_book h_1 h_2 h_3 n17) x2_11 n36) n44) s1_19 = some y → cx_S p l e (cx_rm 4) s m args below meth c A D 5 0 0 Q 82 [(0, .ref (m_a 0)), (1, .int x1_5), (2, .int x2_11), (3, .int x3_12), (4, .int x4_15)] [.int s1_19, .ref (m_a 11)] (wd_Model k m_a m_limbs m_wide m_book m_images m_kept m_before m_refused m_quiet m_text m_typed m_at m_start m_token m_value m_items m_many m_is a_14 h_1 h_2 m_oneYear h_3 m_second m_names) := by
                intro s1_19 hf
                unfold f_X9_begins_J82 at hf
                refine cx_aload_n C dX9_begins_82 0 rfl ?_
                refine cx_iload_n C dX9_begins_83 1 rfl ?_
                refine cx_iload_n C dX9_begins_84 3 rfl ?_
                refine cx_aload_n C dX9_begins_85 0 rfl ?_
                refine cx_get (v := .ref (m_a 3)) (ci := 8) C iX9 dX9_begins_86 0 rfl rfl 2 (by decide) hw_1056 rfl ?_
                refine cx_bipush (v := 40) C dX9_begins_89 (by decide) ?_
                refine cx_iconst (v := 2) C dX9_begins_91 (by decide) ?_
                refine cx_iload_n C dX9_begins_92 2 rfl ?_
                refine cx_imul C dX9_begins_93 ?_
                refine cx_iadd C dX9_begins_94 ?_
                obtain ⟨g20, hf⟩ := cx_gd_at hf
                refine cx_iald C dX9_begins_95 3 rfl (cx_ib_in g20) ?_
                clear g20
                refine cx_iload C dX9_begins_96 4 rfl ?_
                refine cx_iadd C dX9_begins_98 ?_
                obtain ⟨u21, e22, hf⟩ := cx_bd_at hf
                refine cx_Fvi (q := (RX9, TX9, 24)) (As := [.int x1_5, .int x3_12, .int ((m_book (cx_ix (40 + (2 * x2_11)))) + x4_15)]) (rest := [.int s1_19, .ref (m_a 11)]) (w1 := (wd_Model k m_a m_limbs m_wide m_book m_images m_kept m_before m_refused m_quiet m_text m_typed m_at m_start m_token m_value m_items m_many m_is a_14 h_1 h_2 m_oneYear h_3 m_second m_names)) hA C me_X9_likeOf hw_1214 (c_X9_likeOf l D k m_a m_limbs m_wide m_book m_images m_kept m_before m_refused m_quiet m_text m_typed m_at m_start m_token m_value m_items m_many m_is a_14 h_1 h_2 m_oneYear h_3 m_second m_names x1_5 x3_12 ((m_book (cx_ix (40 + (2 * x2_11)))) + x4_15) u21 e22) dX9_begins_99 ⟨Nat.le_of_ble_eq_true rfl, Nat.le_of_ble_eq_true rfl⟩ ⟨Nat.zero_le _, Nat.zero_le _⟩ rfl rfl (Nat.le_of_ble_eq_true rfl) rfl rfl rfl ?_
                clear e22
                refine cx_goto (tgt := 106) C dX9_begins_102 (by decide) ?_
                exact J106 s1_19 u21 hf
              unfold f_X9_begins_L44 at hf
              refine cx_iload C dX9_begins_44 4 rfl ?_
              refine cx_bipush (v := 12) C dX9_begins_46 (by decide) ?_
              refine cx_icmp_ge (tgt := 113) C dX9_begins_48 (by decide) (fun c16 => ?_) (fun c16 => ?_)
              · have hf := cx_if_t hf c16
                clear c16
                refine cx_iinc (v := x3_12 + 1) (lv' := [(3, .int (x3_12 + 1)), (0, .ref (m_a 0)), (1, .int x1_5), (2, .int x2_11), (4, .int x4_15)]) C dX9_begins_113 3 rfl rfl (by decide) rfl ?_
                refine cx_goto (tgt := 36) C dX9_begins_116 (by decide) ?_
                refine cx_lv [1, 2, 3, 0] rfl ?_
                exact ih36 a_14 (x3_12 + 1) hf
              · have hf := cx_if_f hf c16
                clear c16
                refine cx_aload_n C dX9_begins_51 0 rfl ?_
                refine cx_get (v := .ref (m_a 11)) (ci := 8) C iX9 dX9_begins_52 0 rfl rfl 17 (by decide) hw_1071 rfl ?_
                refine cx_bipush (v := 72) C dX9_begins_55 (by decide) ?_
                refine cx_iload_n C dX9_begins_57 1 rfl ?_
                refine cx_imul C dX9_begins_58 ?_
                refine cx_bipush (v := 12) C dX9_begins_59 (by decide) ?_
                refine cx_iload_n C dX9_begins_61 3 rfl ?_
                refine cx_imul C dX9_begins_62 ?_
                refine cx_iadd C dX9_begins_63 ?_
                refine cx_iload C dX9_begins_64 4 rfl ?_
                refine cx_iadd C dX9_begins_66 ?_
                refine cx_iload_n C dX9_begins_67 3 rfl ?_
                refine cx_aload_n C dX9_begins_68 0 rfl ?_
                refine cx_get (v := .ref (m_a 3)) (ci := 8) C iX9 dX9_begins_69 0 rfl rfl 2 (by decide) hw_1056 rfl ?_
                refine cx_iconst (v := 0) C dX9_begins_72 (by decide) ?_
                obtain ⟨g17, hf⟩ := cx_gd_at hf
                refine cx_iald C dX9_begins_73 3 rfl (cx_ib_in g17) ?_
                clear g17
                refine cx_icmp_lt (tgt := 82) C dX9_begins_74 (by decide) (fun c18 => ?_) (fun c18 => ?_)
                · have hf := cx_if_t hf c18
                  clear c18
                  exact J82 (((72 * x1_5) + (12 * x3_12)) + x4_15) hf
                · have hf := cx_if_f hf c18
                  clear c18
                  refine cx_iload_n C dX9_begins_77 3 rfl ?_
                  refine cx_iconst (v := 5) C dX9_begins_78 (by decide) ?_
                  refine cx_icmp_ne (tgt := 105) C dX9_begins_79 (by decide) (fun c27 => ?_) (fun c27 => ?_)
                  · have hf := cx_if_f hf c27
                    clear c27
                    refine cx_iconst (v := 0) C dX9_begins_105 (by decide) ?_
                    exact J106 (((72 * x1_5) + (12 * x3_12)) + x4_15) 0 hf
                  · have hf := cx_if_t hf c27
                    clear c27
                    exact J82 (((72 * x1_5) + (12 * x3_12)) + x4_15) hf
          unfold f_X9_begins_L36 at hf
          refine cx_iload_n C dX9_begins_36 3 rfl ?_
          refine cx_iconst (v := 5) C dX9_begins_37 (by decide) ?_
          refine cx_icmp_gt (tgt := 119) C dX9_begins_38 (by decide) (fun c13 => ?_) (fun c13 => ?_)
          · have hf := cx_if_t hf c13
            clear c13
            refine cx_iinc (v := x1_5 + 1) (lv' := [(1, .int (x1_5 + 1)), (0, .ref (m_a 0)), (2, .int x2_11), (3, .int x3_12)]) C dX9_begins_119 1 rfl rfl (by decide) rfl ?_
            refine cx_goto (tgt := 17) C dX9_begins_122 (by decide) ?_
            refine cx_lv [1, 0] rfl ?_
            exact ih17 a_10 (x1_5 + 1) hf
          · have hf := cx_if_f hf c13
            clear c13
            refine cx_iconst (v := 0) C dX9_begins_41 (by decide) ?_
            refine cx_istore (lv' := [(4, .int 0), (0, .ref (m_a 0)), (1, .int x1_5), (2, .int x2_11), (3, .int x3_12)]) C dX9_begins_42 (by decide) rfl ?_
            refine cx_lv [1, 2, 3, 4, 0] rfl ?_
            exact L44 cx_N0 a_10 0 hf
      unfold f_X9_begins_L17 at hf
      refine cx_iload_n C dX9_begins_17 1 rfl ?_
      refine cx_aload_n C dX9_begins_18 0 rfl ?_
      refine cx_get (v := .ref (m_a 3)) (ci := 8) C iX9 dX9_begins_19 0 rfl rfl 2 (by decide) hw_1056 rfl ?_
      refine cx_iconst (v := 2) C dX9_begins_22 (by decide) ?_
      obtain ⟨g6, hf⟩ := cx_gd_at hf
      refine cx_iald C dX9_begins_23 3 rfl (cx_ib_in g6) ?_
      clear g6
      refine cx_icmp_ge (tgt := 125) C dX9_begins_24 (by decide) (fun c7 => ?_) (fun c7 => ?_)
      · have hf := cx_if_t hf c7
        clear c7
        obtain rfl := Option.some.inj hf
        exact cx_vret C hA hQ hr hlk dX9_begins_125 rfl
      · have hf := cx_if_f hf c7
        clear c7
        refine cx_aload_n C dX9_begins_27 0 rfl ?_
        refine cx_iload_n C dX9_begins_28 1 rfl ?_
        refine cx_iconst (v := 0) C dX9_begins_29 (by decide) ?_
        obtain ⟨u8, e9, hf⟩ := cx_bd_at hf
        refine cx_Fvi (q := (RX9, TX9, 24)) (As := [.int x1_5, .int 0]) (rest := []) (w1 := (wd_Model k m_a m_limbs m_wide m_book m_images m_kept m_before m_refused m_quiet m_text m_typed m_at m_start m_token m_value m_items m_many m_is a_4 h_1 h_2 m_oneYear h_3 m_second m_names)) hA C me_X9_ofHead hw_1191 (c_X9_ofHead l D k m_a m_limbs m_wide m_book m_images m_kept m_before m_refused m_quiet m_text m_typed m_at m_start m_token m_value m_items m_many m_is a_4 h_1 h_2 m_oneYear h_3 m_second m_names x1_5 0 u8 e9) dX9_begins_30 ⟨Nat.le_of_ble_eq_true rfl, Nat.le_of_ble_eq_true rfl⟩ ⟨Nat.zero_le _, Nat.zero_le _⟩ rfl rfl (Nat.le_of_ble_eq_true rfl) rfl rfl rfl ?_
        clear e9
        refine cx_istore_n (lv' := [(2, .int u8), (0, .ref (m_a 0)), (1, .int x1_5)]) C dX9_begins_33 rfl (by decide) rfl ?_
        refine cx_iconst (v := 0) C dX9_begins_34 (by decide) ?_
        refine cx_istore_n (lv' := [(3, .int 0), (2, .int u8), (0, .ref (m_a 0)), (1, .int x1_5)]) C dX9_begins_35 rfl (by decide) rfl ?_
        refine cx_lv [2, 3, 1, 0] rfl ?_
        exact L36 u8 cx_N0 a_4 0 hf
  unfold f_X9_begins at hf
  refine cx_aload_n C dX9_begins_0 0 rfl ?_
  refine cx_iconst (v := (-1)) C dX9_begins_1 (by decide) ?_
  refine cx_putf (v := .int ((-1))) (ty := .int) (ci := 8) (ws' := (wd_Model k m_a m_limbs m_wide m_book m_images m_kept m_before m_refused m_quiet m_text m_typed m_at m_start m_token m_value m_items m_many m_is m_likes ((-1)) m_onePicture m_oneYear m_first m_second m_names)) C iX9 tyX9 tyX9_ok nmX9 dX9_begins_2 0 rfl rfl 18 (by decide) hw_1072 rfl (by decide +kernel) rfl rfl (Nat.le_of_ble_eq_true rfl) rfl ?_
  refine cx_aload_n C dX9_begins_5 0 rfl ?_
  refine cx_iconst (v := (-1)) C dX9_begins_6 (by decide) ?_
  refine cx_putf (v := .int ((-1))) (ty := .int) (ci := 8) (ws' := (wd_Model k m_a m_limbs m_wide m_book m_images m_kept m_before m_refused m_quiet m_text m_typed m_at m_start m_token m_value m_items m_many m_is m_likes ((-1)) ((-1)) m_oneYear m_first m_second m_names)) C iX9 tyX9 tyX9_ok nmX9 dX9_begins_7 0 rfl rfl 19 (by decide) hw_1073 rfl (by decide +kernel) rfl rfl (Nat.le_of_ble_eq_true rfl) rfl ?_
  refine cx_aload_n C dX9_begins_10 0 rfl ?_
  refine cx_iconst (v := (-1)) C dX9_begins_11 (by decide) ?_
  refine cx_putf (v := .int ((-1))) (ty := .int) (ci := 8) (ws' := (wd_Model k m_a m_limbs m_wide m_book m_images m_kept m_before m_refused m_quiet m_text m_typed m_at m_start m_token m_value m_items m_many m_is m_likes ((-1)) ((-1)) m_oneYear ((-1)) m_second m_names)) C iX9 tyX9 tyX9_ok nmX9 dX9_begins_12 0 rfl rfl 21 (by decide) hw_1075 rfl (by decide +kernel) rfl rfl (Nat.le_of_ble_eq_true rfl) rfl ?_
  refine cx_iconst (v := 0) C dX9_begins_15 (by decide) ?_
  refine cx_istore_n (lv' := [(1, .int 0), (0, .ref (m_a 0))]) C dX9_begins_16 rfl (by decide) rfl ?_
  refine cx_lv [1, 0] rfl ?_
  exact L17 ((-1)) ((-1)) ((-1)) cx_N0 m_likes 0 hf
theorem dX9_picks_0 : decode cX9_picks 0 = .ok (.iload_n 1, 1) := by decide +kernel
theorem dX9_picks_1 : decode cX9_picks 1 = .ok (.istore_n 2, 1) := by decide +kernel
theorem dX9_picks_2 : decode cX9_picks 2 = .ok (.aload_n 0, 1) := by decide +kernel
theorem dX9_picks_3 : decode cX9_picks 3 = .ok (.getfield 51, 3) := by decide +kernel
theorem dX9_picks_6 : decode cX9_picks 6 = .ok (.iconst 2, 1) := by decide +kernel
theorem dX9_picks_7 : decode cX9_picks 7 = .ok (.iaload, 1) := by decide +kernel
theorem dX9_picks_8 : decode cX9_picks 8 = .ok (.iconst 1, 1) := by decide +kernel
theorem dX9_picks_9 : decode cX9_picks 9 = .ok (.isub, 1) := by decide +kernel
theorem dX9_picks_10 : decode cX9_picks 10 = .ok (.istore_n 3, 1) := by decide +kernel
theorem dX9_picks_11 : decode cX9_picks 11 = .ok (.iload_n 3, 1) := by decide +kernel
theorem dX9_picks_12 : decode cX9_picks 12 = .ok (.ifCond .lt 55, 3) := by decide +kernel
theorem dX9_picks_15 : decode cX9_picks 15 = .ok (.iload_n 2, 1) := by decide +kernel
theorem dX9_picks_16 : decode cX9_picks 16 = .ok (.aload_n 0, 1) := by decide +kernel
theorem dX9_picks_17 : decode cX9_picks 17 = .ok (.getfield 51, 3) := by decide +kernel
theorem dX9_picks_20 : decode cX9_picks 20 = .ok (.iconst 0, 1) := by decide +kernel
theorem dX9_picks_21 : decode cX9_picks 21 = .ok (.iaload, 1) := by decide +kernel
theorem dX9_picks_22 : decode cX9_picks 22 = .ok (.iconst 1, 1) := by decide +kernel
theorem dX9_picks_23 : decode cX9_picks 23 = .ok (.iadd, 1) := by decide +kernel
theorem dX9_picks_24 : decode cX9_picks 24 = .ok (.irem, 1) := by decide +kernel
theorem dX9_picks_25 : decode cX9_picks 25 = .ok (.istore 4, 2) := by decide +kernel
theorem dX9_picks_27 : decode cX9_picks 27 = .ok (.aload_n 0, 1) := by decide +kernel
theorem dX9_picks_28 : decode cX9_picks 28 = .ok (.getfield 73, 3) := by decide +kernel
theorem dX9_picks_31 : decode cX9_picks 31 = .ok (.iload_n 3, 1) := by decide +kernel
theorem dX9_picks_32 : decode cX9_picks 32 = .ok (.iload 4, 2) := by decide +kernel
theorem dX9_picks_34 : decode cX9_picks 34 = .ok (.aload_n 0, 1) := by decide +kernel
theorem dX9_picks_35 : decode cX9_picks 35 = .ok (.getfield 51, 3) := by decide +kernel
theorem dX9_picks_38 : decode cX9_picks 38 = .ok (.iconst 0, 1) := by decide +kernel
theorem dX9_picks_39 : decode cX9_picks 39 = .ok (.iaload, 1) := by decide +kernel
theorem dX9_picks_40 : decode cX9_picks 40 = .ok (.if_icmp .ne 7, 3) := by decide +kernel
theorem dX9_picks_43 : decode cX9_picks 43 = .ok (.iconst 5, 1) := by decide +kernel
theorem dX9_picks_44 : decode cX9_picks 44 = .ok (.goto 5, 3) := by decide +kernel
theorem dX9_picks_47 : decode cX9_picks 47 = .ok (.iload 4, 2) := by decide +kernel
theorem dX9_picks_49 : decode cX9_picks 49 = .ok (.iastore, 1) := by decide +kernel
theorem dX9_picks_50 : decode cX9_picks 50 = .ok (.iload_n 2, 1) := by decide +kernel
theorem dX9_picks_51 : decode cX9_picks 51 = .ok (.aload_n 0, 1) := by decide +kernel
theorem dX9_picks_52 : decode cX9_picks 52 = .ok (.getfield 51, 3) := by decide +kernel
theorem dX9_picks_55 : decode cX9_picks 55 = .ok (.iconst 0, 1) := by decide +kernel
theorem dX9_picks_56 : decode cX9_picks 56 = .ok (.iaload, 1) := by decide +kernel
theorem dX9_picks_57 : decode cX9_picks 57 = .ok (.iconst 1, 1) := by decide +kernel
theorem dX9_picks_58 : decode cX9_picks 58 = .ok (.iadd, 1) := by decide +kernel
theorem dX9_picks_59 : decode cX9_picks 59 = .ok (.idiv, 1) := by decide +kernel
theorem dX9_picks_60 : decode cX9_picks 60 = .ok (.istore_n 2, 1) := by decide +kernel
theorem dX9_picks_61 : decode cX9_picks 61 = .ok (.iinc 3 (-1), 3) := by decide +kernel
theorem dX9_picks_64 : decode cX9_picks 64 = .ok (.goto (-53), 3) := by decide +kernel
theorem dX9_picks_67 : decode cX9_picks 67 = .ok (.return_, 1) := by decide +kernel
theorem me_X9_picks : cx_Mv yX9_picks cX9_picks 5 none 1 := ⟨⟨⟨by decide +kernel, by decide +kernel, by decide +kernel⟩, hw_11, hw_1303⟩, hw_1302, hs_58⟩
noncomputable def f_X9_picks_J49 (m_book : Nat → Int32) (a_2 : Nat → Int32) (x2_3 : Int32) (x3_4 : Int32) (rc11 : (Nat → Int32) → Int32 → Int32 → Option (Nat → Int32)) (s2_11 : Int32) : Option (Nat → Int32) := cx_gd (cx_ib x3_4 6) (cx_let (upd a_2 (cx_ix x3_4) s2_11) (fun a13 => cx_gd (cx_ib 0 140) (cx_gd (decide (¬ ((m_book (cx_ix 0)) + 1) = 0)) (cx_let (x2_3 / ((m_book (cx_ix 0)) + 1)) (fun v16 => rc11 a13 v16 (x3_4 + (-1)))))))
noncomputable def f_X9_picks_L11 (m_book : Nat → Int32) (rc11 : (Nat → Int32) → Int32 → Int32 → Option (Nat → Int32)) (a_2 : Nat → Int32) (x2_3 : Int32) (x3_4 : Int32) : Option (Nat → Int32) := if x3_4 < 0 then (some a_2) else (cx_gd (cx_ib 0 140) (cx_gd (decide (¬ ((m_book (cx_ix 0)) + 1) = 0)) (cx_let (x2_3 - x2_3 / ((m_book (cx_ix 0)) + 1) * ((m_book (cx_ix 0)) + 1)) (fun v8 => cx_gd (cx_ib 0 140) (if v8 = (m_book (cx_ix 0)) then (f_X9_picks_J49 m_book a_2 x2_3 x3_4 rc11 5) else (f_X9_picks_J49 m_book a_2 x2_3 x3_4 rc11 v8))))))
noncomputable def f_X9_picks_L11w (m_book : Nat → Int32) (n : Nat) : (Nat → Int32) → Int32 → Int32 → Option (Nat → Int32) := Nat.rec (fun _ _ _ => none) (fun _ r => f_X9_picks_L11 m_book r) n
noncomputable def f_X9_picks (m_book : Nat → Int32) (m_is : Nat → Int32) (p1 : Int32) : Option (Nat → Int32) := cx_gd (cx_ib 2 140) (f_X9_picks_L11w m_book cx_N0 m_is p1 ((m_book (cx_ix 2)) - 1))
set_option maxHeartbeats 4000000 in
set_option maxRecDepth 100000 in
theorem c_X9_picks (l : Launch) (D : va_G) (k : Nat → ClassId) (m_a : Nat → Nat) (m_limbs : Nat → Int32) (m_wide : Nat → Int32) (m_book : Nat → Int32) (m_images : Nat → Int32) (m_kept : Nat → Int32) (m_before : Nat → Int32) (m_refused : Nat → Int32) (m_quiet : Int32) (m_text : Nat → Int32) (m_typed : Int32) (m_at : Int32) (m_start : Int32) (m_token : Int32) (m_value : Int32) (m_items : Nat → Int32) (m_many : Int32) (m_is : Nat → Int32) (m_likes : Nat → Int32) (m_without : Int32) (m_onePicture : Int32) (m_oneYear : Int32) (m_first : Int32) (m_second : Int32) (m_names : Nat → Int32) (p1 : Int32) (y : Nat → Int32) (hf : f_X9_picks m_book m_is p1 = some y) : cx_M l yX9_picks cX9_picks 5 none 1 D k [.ref (m_a 0), .int p1] (wd_Model k m_a m_limbs m_wide m_book m_images m_kept m_before m_refused m_quiet m_text m_typed m_at m_start m_token m_value m_items m_many m_is m_likes m_without m_onePicture m_oneYear m_first m_second m_names) (fun sz => cx_Qv D (wd_Model k m_a m_limbs m_wide m_book m_images m_kept m_before m_refused m_quiet m_text m_typed m_at m_start m_token m_value m_items m_many m_is m_likes m_without m_onePicture m_oneYear m_first m_second m_names) (wd_Model k m_a m_limbs m_wide m_book m_images m_kept m_before m_refused m_quiet m_text m_typed m_at m_start m_token m_value m_items m_many y m_likes m_without m_onePicture m_oneYear m_first m_second m_names) sz) := by
  refine cx_met (own := "NamelessBoxModel") (by decide) rfl (Nat.le_of_ble_eq_true rfl) ?_
  intro p e s m args below meth c A Q C hA hQ hr hlk
  refine cx_lv (lv' := [(0, .ref (m_a 0)), (1, .int p1)]) [0, 1] rfl ?_
  have L11 : ∀ (n11 : Nat) (a_2 : Nat → Int32) (x2_3 : Int32) (x3_4 : Int32), f_X9_picks_L11w m_book n11 a_2 x2_3 x3_4 = some y → cx_S p l e (cx_rm 1) s m args below meth c A D 5 0 0 Q 11 [(0, .ref (m_a 0)), (2, .int x2_3), (3, .int x3_4)] [] (wd_Model k m_a m_limbs m_wide m_book m_images m_kept m_before m_refused m_quiet m_text m_typed m_at m_start m_token m_value m_items m_many a_2 m_likes m_without m_onePicture m_oneYear m_first m_second m_names) := by
    intro  n11
    induction n11 with
    | zero =>
      intro a_2 x2_3 x3_4 hf
      exact absurd (show (none : Option (Nat → Int32)) = some y from hf) (fun h => by cases h)
    | succ n11 ih11 =>
      intro a_2 x2_3 x3_4 hf
      have hf : f_X9_picks_L11 m_book (f_X9_picks_L11w m_book n11) a_2 x2_3 x3_4 = some y := hf
      have J49 : ∀ (s2_11 : Int32), f_X9_picks_J49 m_book a_2 x2_3 x3_4 (f_X9_picks_L11w m_book n11) s2_11 = some y → cx_S p l e (cx_rm 1) s m args below meth c A D 5 0 0 Q 49 [(0, .ref (m_a 0)), (2, .int x2_3), (3, .int x3_4)] [.int s2_11, .int x3_4, .ref (m_a 10)] (wd_Model k m_a m_limbs m_wide m_book m_images m_kept m_before m_refused m_quiet m_text m_typed m_at m_start m_token m_value m_items m_many a_2 m_likes m_without m_onePicture m_oneYear m_first m_second m_names) := by
        intro s2_11 hf
        unfold f_X9_picks_J49 at hf
        obtain ⟨g12, hf⟩ := cx_gd_at hf
        obtain ⟨a13, ea13⟩ : ∃ z, z = upd a_2 (cx_ix x3_4) s2_11 := ⟨_, rfl⟩
        have hf := cx_let_at hf ea13
        refine cx_iast (ws' := (wd_Model k m_a m_limbs m_wide m_book m_images m_kept m_before m_refused m_quiet m_text m_typed m_at m_start m_token m_value m_items m_many a13 m_likes m_without m_onePicture m_oneYear m_first m_second m_names)) C dX9_picks_49 10 rfl (cx_ib_in g12) (by rw [ea13]; rfl) ?_
        clear ea13 g12
        refine cx_iload_n C dX9_picks_50 1 rfl ?_
        refine cx_aload_n C dX9_picks_51 0 rfl ?_
        refine cx_get (v := .ref (m_a 3)) (ci := 8) C iX9 dX9_picks_52 0 rfl rfl 2 (by decide) hw_1056 rfl ?_
        refine cx_iconst (v := 0) C dX9_picks_55 (by decide) ?_
        obtain ⟨g14, hf⟩ := cx_gd_at hf
        refine cx_iald C dX9_picks_56 3 rfl (cx_ib_in g14) ?_
        clear g14
        refine cx_iconst (v := 1) C dX9_picks_57 (by decide) ?_
        refine cx_iadd C dX9_picks_58 ?_
        obtain ⟨z15, hf⟩ := cx_gd_at hf
        refine cx_idiv C dX9_picks_59 (of_decide_eq_true z15) ?_
        refine cx_topi (fun v16 ev16 => ?_)
        have hf := cx_let_at hf ev16
        clear ev16
        refine cx_istore_n (lv' := [(2, .int v16), (0, .ref (m_a 0)), (3, .int x3_4)]) C dX9_picks_60 rfl (by decide) rfl ?_
        refine cx_iinc (v := x3_4 + (-1)) (lv' := [(3, .int (x3_4 + (-1))), (2, .int v16), (0, .ref (m_a 0))]) C dX9_picks_61 2 rfl rfl (by decide) rfl ?_
        refine cx_goto (tgt := 11) C dX9_picks_64 (by decide) ?_
        refine cx_lv [2, 1, 0] rfl ?_
        exact ih11 a13 v16 (x3_4 + (-1)) hf
      unfold f_X9_picks_L11 at hf
      refine cx_iload_n C dX9_picks_11 2 rfl ?_
      refine cx_if_lt (tgt := 67) C dX9_picks_12 (by decide) (fun c5 => ?_) (fun c5 => ?_)
      · have hf := cx_if_t hf c5
        clear c5
        obtain rfl := Option.some.inj hf
        exact cx_vret C hA hQ hr hlk dX9_picks_67 rfl
      · have hf := cx_if_f hf c5
        clear c5
        refine cx_iload_n C dX9_picks_15 1 rfl ?_
        refine cx_aload_n C dX9_picks_16 0 rfl ?_
        refine cx_get (v := .ref (m_a 3)) (ci := 8) C iX9 dX9_picks_17 0 rfl rfl 2 (by decide) hw_1056 rfl ?_
        refine cx_iconst (v := 0) C dX9_picks_20 (by decide) ?_
        obtain ⟨g6, hf⟩ := cx_gd_at hf
        refine cx_iald C dX9_picks_21 3 rfl (cx_ib_in g6) ?_
        clear g6
        refine cx_iconst (v := 1) C dX9_picks_22 (by decide) ?_
        refine cx_iadd C dX9_picks_23 ?_
        obtain ⟨z7, hf⟩ := cx_gd_at hf
        refine cx_irem C dX9_picks_24 (of_decide_eq_true z7) ?_
        refine cx_topi (fun v8 ev8 => ?_)
        have hf := cx_let_at hf ev8
        clear ev8
        refine cx_istore (lv' := [(4, .int v8), (0, .ref (m_a 0)), (2, .int x2_3), (3, .int x3_4)]) C dX9_picks_25 (by decide) rfl ?_
        refine cx_aload_n C dX9_picks_27 1 rfl ?_
        refine cx_get (v := .ref (m_a 10)) (ci := 8) C iX9 dX9_picks_28 0 rfl rfl 16 (by decide) hw_1070 rfl ?_
        refine cx_iload_n C dX9_picks_31 3 rfl ?_
        refine cx_iload C dX9_picks_32 0 rfl ?_
        refine cx_aload_n C dX9_picks_34 1 rfl ?_
        refine cx_get (v := .ref (m_a 3)) (ci := 8) C iX9 dX9_picks_35 0 rfl rfl 2 (by decide) hw_1056 rfl ?_
        refine cx_iconst (v := 0) C dX9_picks_38 (by decide) ?_
        obtain ⟨g9, hf⟩ := cx_gd_at hf
        refine cx_iald C dX9_picks_39 3 rfl (cx_ib_in g9) ?_
        clear g9
        refine cx_icmp_ne (tgt := 47) C dX9_picks_40 (by decide) (fun c10 => ?_) (fun c10 => ?_)
        · have hf := cx_if_f hf c10
          clear c10
          refine cx_iload C dX9_picks_47 0 rfl ?_
          refine cx_lv [1, 2, 3] rfl ?_
          exact J49 v8 hf
        · have hf := cx_if_t hf c10
          clear c10
          refine cx_iconst (v := 5) C dX9_picks_43 (by decide) ?_
          refine cx_goto (tgt := 49) C dX9_picks_44 (by decide) ?_
          refine cx_lv [1, 2, 3] rfl ?_
          exact J49 5 hf
  unfold f_X9_picks at hf
  refine cx_iload_n C dX9_picks_0 1 rfl ?_
  refine cx_istore_n (lv' := [(2, .int p1), (0, .ref (m_a 0)), (1, .int p1)]) C dX9_picks_1 rfl (by decide) rfl ?_
  refine cx_aload_n C dX9_picks_2 1 rfl ?_
  refine cx_get (v := .ref (m_a 3)) (ci := 8) C iX9 dX9_picks_3 0 rfl rfl 2 (by decide) hw_1056 rfl ?_
  refine cx_iconst (v := 2) C dX9_picks_6 (by decide) ?_
  obtain ⟨g1, hf⟩ := cx_gd_at hf
  refine cx_iald C dX9_picks_7 3 rfl (cx_ib_in g1) ?_
  clear g1
  refine cx_iconst (v := 1) C dX9_picks_8 (by decide) ?_
  refine cx_isub C dX9_picks_9 ?_
  refine cx_istore_n (lv' := [(3, .int ((m_book (cx_ix 2)) - 1)), (2, .int p1), (0, .ref (m_a 0)), (1, .int p1)]) C dX9_picks_10 rfl (by decide) rfl ?_
  refine cx_lv [2, 1, 0] rfl ?_
  exact L11 cx_N0 m_is p1 ((m_book (cx_ix 2)) - 1) hf
theorem dX9_termOf_0 : decode cX9_termOf 0 = .ok (.lconst 1, 1) := by decide +kernel
theorem dX9_termOf_1 : decode cX9_termOf 1 = .ok (.lstore_n 3, 1) := by decide +kernel
theorem dX9_termOf_2 : decode cX9_termOf 2 = .ok (.iconst 0, 1) := by decide +kernel
theorem dX9_termOf_3 : decode cX9_termOf 3 = .ok (.istore 5, 2) := by decide +kernel
theorem dX9_termOf_5 : decode cX9_termOf 5 = .ok (.iload 5, 2) := by decide +kernel
theorem dX9_termOf_7 : decode cX9_termOf 7 = .ok (.aload_n 0, 1) := by decide +kernel
theorem dX9_termOf_8 : decode cX9_termOf 8 = .ok (.getfield 51, 3) := by decide +kernel
theorem dX9_termOf_11 : decode cX9_termOf 11 = .ok (.iconst 2, 1) := by decide +kernel
theorem dX9_termOf_12 : decode cX9_termOf 12 = .ok (.iaload, 1) := by decide +kernel
theorem dX9_termOf_13 : decode cX9_termOf 13 = .ok (.if_icmp .ge 51, 3) := by decide +kernel
theorem dX9_termOf_16 : decode cX9_termOf 16 = .ok (.lload_n 3, 1) := by decide +kernel
theorem dX9_termOf_17 : decode cX9_termOf 17 = .ok (.aload_n 0, 1) := by decide +kernel
theorem dX9_termOf_18 : decode cX9_termOf 18 = .ok (.iload 5, 2) := by decide +kernel
theorem dX9_termOf_20 : decode cX9_termOf 20 = .ok (.iconst 0, 1) := by decide +kernel
theorem dX9_termOf_21 : decode cX9_termOf 21 = .ok (.invokevirtual 122, 3) := by decide +kernel
theorem dX9_termOf_24 : decode cX9_termOf 24 = .ok (.iload_n 1, 1) := by decide +kernel
theorem dX9_termOf_25 : decode cX9_termOf 25 = .ok (.if_icmp .ne 30, 3) := by decide +kernel
theorem dX9_termOf_28 : decode cX9_termOf 28 = .ok (.aload_n 0, 1) := by decide +kernel
theorem dX9_termOf_29 : decode cX9_termOf 29 = .ok (.getfield 76, 3) := by decide +kernel
theorem dX9_termOf_32 : decode cX9_termOf 32 = .ok (.bipush 72, 2) := by decide +kernel
theorem dX9_termOf_34 : decode cX9_termOf 34 = .ok (.iload 5, 2) := by decide +kernel
theorem dX9_termOf_36 : decode cX9_termOf 36 = .ok (.imul, 1) := by decide +kernel
theorem dX9_termOf_37 : decode cX9_termOf 37 = .ok (.bipush 12, 2) := by decide +kernel
theorem dX9_termOf_39 : decode cX9_termOf 39 = .ok (.aload_n 0, 1) := by decide +kernel
theorem dX9_termOf_40 : decode cX9_termOf 40 = .ok (.getfield 73, 3) := by decide +kernel
theorem dX9_termOf_43 : decode cX9_termOf 43 = .ok (.iload 5, 2) := by decide +kernel
theorem dX9_termOf_45 : decode cX9_termOf 45 = .ok (.iaload, 1) := by decide +kernel
theorem dX9_termOf_46 : decode cX9_termOf 46 = .ok (.imul, 1) := by decide +kernel
theorem dX9_termOf_47 : decode cX9_termOf 47 = .ok (.iadd, 1) := by decide +kernel
theorem dX9_termOf_48 : decode cX9_termOf 48 = .ok (.iload_n 2, 1) := by decide +kernel
theorem dX9_termOf_49 : decode cX9_termOf 49 = .ok (.iadd, 1) := by decide +kernel
theorem dX9_termOf_50 : decode cX9_termOf 50 = .ok (.iaload, 1) := by decide +kernel
theorem dX9_termOf_51 : decode cX9_termOf 51 = .ok (.i2l, 1) := by decide +kernel
theorem dX9_termOf_52 : decode cX9_termOf 52 = .ok (.goto 4, 3) := by decide +kernel
theorem dX9_termOf_55 : decode cX9_termOf 55 = .ok (.lconst 1, 1) := by decide +kernel
theorem dX9_termOf_56 : decode cX9_termOf 56 = .ok (.lmul, 1) := by decide +kernel
theorem dX9_termOf_57 : decode cX9_termOf 57 = .ok (.lstore_n 3, 1) := by decide +kernel
theorem dX9_termOf_58 : decode cX9_termOf 58 = .ok (.iinc 5 1, 3) := by decide +kernel
theorem dX9_termOf_61 : decode cX9_termOf 61 = .ok (.goto (-56), 3) := by decide +kernel
theorem dX9_termOf_64 : decode cX9_termOf 64 = .ok (.lload_n 3, 1) := by decide +kernel
theorem dX9_termOf_65 : decode cX9_termOf 65 = .ok (.lreturn, 1) := by decide +kernel
theorem me_X9_termOf : cx_Mv yX9_termOf cX9_termOf 6 (some .long) 2 := ⟨⟨⟨by decide +kernel, by decide +kernel, by decide +kernel⟩, hw_11, hw_1315⟩, hw_1314, hs_61⟩
noncomputable def f_X9_termOf_J56 (x3_1 : Int64) (x5_2 : Int32) (rc5 : Int64 → Int32 → Option Int64) (s1_8 : Int64) : Option Int64 := rc5 (x3_1 * s1_8) (x5_2 + 1)
noncomputable def f_X9_termOf_L5 (m_book : Nat → Int32) (m_is : Nat → Int32) (m_likes : Nat → Int32) (p1 : Int32) (p2 : Int32) (rc5 : Int64 → Int32 → Option Int64) (x3_1 : Int64) (x5_2 : Int32) : Option Int64 := cx_gd (cx_ib 2 140) (if (m_book (cx_ix 2)) ≤ x5_2 then (some x3_1) else (Option.bind (f_X9_ofHead m_book x5_2 0) (fun u5 => if u5 = p1 then (cx_gd (cx_ib x5_2 6) (cx_gd (cx_ib (((72 * x5_2) + (12 * (m_is (cx_ix x5_2)))) + p2) 432) (f_X9_termOf_J56 x3_1 x5_2 rc5 (Int32.toInt64 (m_likes (cx_ix (((72 * x5_2) + (12 * (m_is (cx_ix x5_2)))) + p2))))))) else (f_X9_termOf_J56 x3_1 x5_2 rc5 1))))
noncomputable def f_X9_termOf_L5w (m_book : Nat → Int32) (m_is : Nat → Int32) (m_likes : Nat → Int32) (p1 : Int32) (p2 : Int32) (n : Nat) : Int64 → Int32 → Option Int64 := Nat.rec (fun _ _ => none) (fun _ r => f_X9_termOf_L5 m_book m_is m_likes p1 p2 r) n
noncomputable def f_X9_termOf (m_book : Nat → Int32) (m_is : Nat → Int32) (m_likes : Nat → Int32) (p1 : Int32) (p2 : Int32) : Option Int64 := f_X9_termOf_L5w m_book m_is m_likes p1 p2 cx_N0 1 0
set_option maxHeartbeats 4000000 in
set_option maxRecDepth 100000 in
theorem c_X9_termOf (l : Launch) (D : va_G) (k : Nat → ClassId) (m_a : Nat → Nat) (m_limbs : Nat → Int32) (m_wide : Nat → Int32) (m_book : Nat → Int32) (m_images : Nat → Int32) (m_kept : Nat → Int32) (m_before : Nat → Int32) (m_refused : Nat → Int32) (m_quiet : Int32) (m_text : Nat → Int32) (m_typed : Int32) (m_at : Int32) (m_start : Int32) (m_token : Int32) (m_value : Int32) (m_items : Nat → Int32) (m_many : Int32) (m_is : Nat → Int32) (m_likes : Nat → Int32) (m_without : Int32) (m_onePicture : Int32) (m_oneYear : Int32) (m_first : Int32) (m_second : Int32) (m_names : Nat → Int32) (p1 : Int32) (p2 : Int32) (y : Int64) (hf : f_X9_termOf m_book m_is m_likes p1 p2 = some y) : cx_M l yX9_termOf cX9_termOf 6 (some .long) 2 D k [.ref (m_a 0), .int p1, .int p2] (wd_Model k m_a m_limbs m_wide m_book m_images m_kept m_before m_refused m_quiet m_text m_typed m_at m_start m_token m_value m_items m_many m_is m_likes m_without m_onePicture m_oneYear m_first m_second m_names) (fun sz => cx_Ql D y (wd_Model k m_a m_limbs m_wide m_book m_images m_kept m_before m_refused m_quiet m_text m_typed m_at m_start m_token m_value m_items m_many m_is m_likes m_without m_onePicture m_oneYear m_first m_second m_names) (wd_Model k m_a m_limbs m_wide m_book m_images m_kept m_before m_refused m_quiet m_text m_typed m_at m_start m_token m_value m_items m_many m_is m_likes m_without m_onePicture m_oneYear m_first m_second m_names) sz) := by
  refine cx_met (own := "NamelessBoxModel") (by decide) rfl (Nat.le_of_ble_eq_true rfl) ?_
  intro p e s m args below meth c A Q C hA hQ hr hlk
  refine cx_lv (lv' := [(0, .ref (m_a 0)), (1, .int p1), (2, .int p2)]) [0, 1, 2] rfl ?_
  have L5 : ∀ (n5 : Nat) (x3_1 : Int64) (x5_2 : Int32), f_X9_termOf_L5w m_book m_is m_likes p1 p2 n5 x3_1 x5_2 = some y → cx_S p l e (cx_rm 2) s m args below meth c A D 6 0 0 Q 5 [(0, .ref (m_a 0)), (1, .int p1), (2, .int p2), (3, .long x3_1), (5, .int x5_2)] [] (wd_Model k m_a m_limbs m_wide m_book m_images m_kept m_before m_refused m_quiet m_text m_typed m_at m_start m_token m_value m_items m_many m_is m_likes m_without m_onePicture m_oneYear m_first m_second m_names) := by
    intro  n5
    induction n5 with
    | zero =>
      intro x3_1 x5_2 hf
      exact absurd (show (none : Option Int64) = some y from hf) (fun h => by cases h)
    | succ n5 ih5 =>
      intro x3_1 x5_2 hf
      have hf : f_X9_termOf_L5 m_book m_is m_likes p1 p2 (f_X9_termOf_L5w m_book m_is m_likes p1 p2 n5) x3_1 x5_2 = some y := hf
      have J56 : ∀ (s1_8 : Int64), f_X9_termOf_J56 x3_1 x5_2 (f_X9_termOf_L5w m_book m_is m_likes p1 p2 n5) s1_8 = some y → cx_S p l e (cx_rm 2) s m args below meth c A D 6 0 0 Q 56 [(0, .ref (m_a 0)), (1, .int p1), (2, .int p2), (5, .int x5_2)] [.long s1_8, .long x3_1] (wd_Model k m_a m_limbs m_wide m_book m_images m_kept m_before m_refused m_quiet m_text m_typed m_at m_start m_token m_value m_items m_many m_is m_likes m_without m_onePicture m_oneYear m_first m_second m_names) := by
        intro s1_8 hf
        unfold f_X9_termOf_J56 at hf
        refine cx_lmul C dX9_termOf_56 ?_
        refine cx_lstore_n (lv' := [(3, .long (x3_1 * s1_8)), (0, .ref (m_a 0)), (1, .int p1), (2, .int p2), (5, .int x5_2)]) C dX9_termOf_57 rfl (by decide) rfl ?_
        refine cx_iinc (v := x5_2 + 1) (lv' := [(5, .int (x5_2 + 1)), (3, .long (x3_1 * s1_8)), (0, .ref (m_a 0)), (1, .int p1), (2, .int p2)]) C dX9_termOf_58 4 rfl rfl (by decide) rfl ?_
        refine cx_goto (tgt := 5) C dX9_termOf_61 (by decide) ?_
        refine cx_lv [2, 3, 4, 1, 0] rfl ?_
        exact ih5 (x3_1 * s1_8) (x5_2 + 1) hf
      unfold f_X9_termOf_L5 at hf
      refine cx_iload C dX9_termOf_5 4 rfl ?_
      refine cx_aload_n C dX9_termOf_7 0 rfl ?_
      refine cx_get (v := .ref (m_a 3)) (ci := 8) C iX9 dX9_termOf_8 0 rfl rfl 2 (by decide) hw_1056 rfl ?_
      refine cx_iconst (v := 2) C dX9_termOf_11 (by decide) ?_
      obtain ⟨g3, hf⟩ := cx_gd_at hf
      refine cx_iald C dX9_termOf_12 3 rfl (cx_ib_in g3) ?_
      clear g3
      refine cx_icmp_ge (tgt := 64) C dX9_termOf_13 (by decide) (fun c4 => ?_) (fun c4 => ?_)
      · have hf := cx_if_t hf c4
        clear c4
        refine cx_lload_n C dX9_termOf_64 3 rfl ?_
        obtain rfl := Option.some.inj hf
        exact cx_lret C hA hQ hr hlk dX9_termOf_65 rfl rfl
      · have hf := cx_if_f hf c4
        clear c4
        refine cx_lload_n C dX9_termOf_16 3 rfl ?_
        refine cx_aload_n C dX9_termOf_17 0 rfl ?_
        refine cx_iload C dX9_termOf_18 4 rfl ?_
        refine cx_iconst (v := 0) C dX9_termOf_20 (by decide) ?_
        obtain ⟨u5, e6, hf⟩ := cx_bd_at hf
        refine cx_Fvi (q := (RX9, TX9, 24)) (As := [.int x5_2, .int 0]) (rest := [.long x3_1]) (w1 := (wd_Model k m_a m_limbs m_wide m_book m_images m_kept m_before m_refused m_quiet m_text m_typed m_at m_start m_token m_value m_items m_many m_is m_likes m_without m_onePicture m_oneYear m_first m_second m_names)) hA C me_X9_ofHead hw_1191 (c_X9_ofHead l D k m_a m_limbs m_wide m_book m_images m_kept m_before m_refused m_quiet m_text m_typed m_at m_start m_token m_value m_items m_many m_is m_likes m_without m_onePicture m_oneYear m_first m_second m_names x5_2 0 u5 e6) dX9_termOf_21 ⟨Nat.le_of_ble_eq_true rfl, Nat.le_of_ble_eq_true rfl⟩ ⟨Nat.zero_le _, Nat.zero_le _⟩ rfl rfl (Nat.le_of_ble_eq_true rfl) rfl rfl rfl ?_
        clear e6
        refine cx_iload_n C dX9_termOf_24 1 rfl ?_
        refine cx_icmp_ne (tgt := 55) C dX9_termOf_25 (by decide) (fun c7 => ?_) (fun c7 => ?_)
        · have hf := cx_if_f hf c7
          clear c7
          refine cx_lconst (v := 1) C dX9_termOf_55 (by decide) ?_
          refine cx_lv [0, 1, 2, 4] rfl ?_
          exact J56 1 hf
        · have hf := cx_if_t hf c7
          clear c7
          refine cx_aload_n C dX9_termOf_28 0 rfl ?_
          refine cx_get (v := .ref (m_a 11)) (ci := 8) C iX9 dX9_termOf_29 0 rfl rfl 17 (by decide) hw_1071 rfl ?_
          refine cx_bipush (v := 72) C dX9_termOf_32 (by decide) ?_
          refine cx_iload C dX9_termOf_34 4 rfl ?_
          refine cx_imul C dX9_termOf_36 ?_
          refine cx_bipush (v := 12) C dX9_termOf_37 (by decide) ?_
          refine cx_aload_n C dX9_termOf_39 0 rfl ?_
          refine cx_get (v := .ref (m_a 10)) (ci := 8) C iX9 dX9_termOf_40 0 rfl rfl 16 (by decide) hw_1070 rfl ?_
          refine cx_iload C dX9_termOf_43 4 rfl ?_
          obtain ⟨g9, hf⟩ := cx_gd_at hf
          refine cx_iald C dX9_termOf_45 10 rfl (cx_ib_in g9) ?_
          clear g9
          refine cx_imul C dX9_termOf_46 ?_
          refine cx_iadd C dX9_termOf_47 ?_
          refine cx_iload_n C dX9_termOf_48 2 rfl ?_
          refine cx_iadd C dX9_termOf_49 ?_
          obtain ⟨g10, hf⟩ := cx_gd_at hf
          refine cx_iald C dX9_termOf_50 11 rfl (cx_ib_in g10) ?_
          clear g10
          refine cx_i2l C dX9_termOf_51 ?_
          refine cx_goto (tgt := 56) C dX9_termOf_52 (by decide) ?_
          refine cx_lv [0, 1, 2, 4] rfl ?_
          exact J56 (Int32.toInt64 (m_likes (cx_ix (((72 * x5_2) + (12 * (m_is (cx_ix x5_2)))) + p2)))) hf
  unfold f_X9_termOf at hf
  refine cx_lconst (v := 1) C dX9_termOf_0 (by decide) ?_
  refine cx_lstore_n (lv' := [(3, .long 1), (0, .ref (m_a 0)), (1, .int p1), (2, .int p2)]) C dX9_termOf_1 rfl (by decide) rfl ?_
  refine cx_iconst (v := 0) C dX9_termOf_2 (by decide) ?_
  refine cx_istore (lv' := [(5, .int 0), (3, .long 1), (0, .ref (m_a 0)), (1, .int p1), (2, .int p2)]) C dX9_termOf_3 (by decide) rfl ?_
  refine cx_lv [2, 3, 4, 1, 0] rfl ?_
  exact L5 cx_N0 1 0 hf
theorem dX9_years_0 : decode cX9_years 0 = .ok (.aload_n 0, 1) := by decide +kernel
theorem dX9_years_1 : decode cX9_years 1 = .ok (.getfield 51, 3) := by decide +kernel
theorem dX9_years_4 : decode cX9_years 4 = .ok (.bipush 40, 2) := by decide +kernel
theorem dX9_years_6 : decode cX9_years 6 = .ok (.iconst 2, 1) := by decide +kernel
theorem dX9_years_7 : decode cX9_years 7 = .ok (.iload_n 1, 1) := by decide +kernel
theorem dX9_years_8 : decode cX9_years 8 = .ok (.imul, 1) := by decide +kernel
theorem dX9_years_9 : decode cX9_years 9 = .ok (.iadd, 1) := by decide +kernel
theorem dX9_years_10 : decode cX9_years 10 = .ok (.iconst 1, 1) := by decide +kernel
theorem dX9_years_11 : decode cX9_years 11 = .ok (.iadd, 1) := by decide +kernel
theorem dX9_years_12 : decode cX9_years 12 = .ok (.iaload, 1) := by decide +kernel
theorem dX9_years_13 : decode cX9_years 13 = .ok (.aload_n 0, 1) := by decide +kernel
theorem dX9_years_14 : decode cX9_years 14 = .ok (.getfield 51, 3) := by decide +kernel
theorem dX9_years_17 : decode cX9_years 17 = .ok (.bipush 40, 2) := by decide +kernel
theorem dX9_years_19 : decode cX9_years 19 = .ok (.iconst 2, 1) := by decide +kernel
theorem dX9_years_20 : decode cX9_years 20 = .ok (.iload_n 1, 1) := by decide +kernel
theorem dX9_years_21 : decode cX9_years 21 = .ok (.imul, 1) := by decide +kernel
theorem dX9_years_22 : decode cX9_years 22 = .ok (.iadd, 1) := by decide +kernel
theorem dX9_years_23 : decode cX9_years 23 = .ok (.iaload, 1) := by decide +kernel
theorem dX9_years_24 : decode cX9_years 24 = .ok (.isub, 1) := by decide +kernel
theorem dX9_years_25 : decode cX9_years 25 = .ok (.iconst 1, 1) := by decide +kernel
theorem dX9_years_26 : decode cX9_years 26 = .ok (.iadd, 1) := by decide +kernel
theorem dX9_years_27 : decode cX9_years 27 = .ok (.ireturn, 1) := by decide +kernel
theorem me_X9_years : cx_Mv yX9_years cX9_years 2 (some .int) 1 := ⟨⟨⟨by decide +kernel, by decide +kernel, by decide +kernel⟩, hw_11, hw_1311⟩, hw_1310, hs_60⟩
noncomputable def f_X9_years (m_book : Nat → Int32) (p1 : Int32) : Option Int32 := cx_gd (cx_ib ((40 + (2 * p1)) + 1) 140) (cx_gd (cx_ib (40 + (2 * p1)) 140) (some (((m_book (cx_ix ((40 + (2 * p1)) + 1))) - (m_book (cx_ix (40 + (2 * p1))))) + 1)))
set_option maxHeartbeats 4000000 in
set_option maxRecDepth 100000 in
theorem c_X9_years (l : Launch) (D : va_G) (k : Nat → ClassId) (m_a : Nat → Nat) (m_limbs : Nat → Int32) (m_wide : Nat → Int32) (m_book : Nat → Int32) (m_images : Nat → Int32) (m_kept : Nat → Int32) (m_before : Nat → Int32) (m_refused : Nat → Int32) (m_quiet : Int32) (m_text : Nat → Int32) (m_typed : Int32) (m_at : Int32) (m_start : Int32) (m_token : Int32) (m_value : Int32) (m_items : Nat → Int32) (m_many : Int32) (m_is : Nat → Int32) (m_likes : Nat → Int32) (m_without : Int32) (m_onePicture : Int32) (m_oneYear : Int32) (m_first : Int32) (m_second : Int32) (m_names : Nat → Int32) (p1 : Int32) (y : Int32) (hf : f_X9_years m_book p1 = some y) : cx_M l yX9_years cX9_years 2 (some .int) 1 D k [.ref (m_a 0), .int p1] (wd_Model k m_a m_limbs m_wide m_book m_images m_kept m_before m_refused m_quiet m_text m_typed m_at m_start m_token m_value m_items m_many m_is m_likes m_without m_onePicture m_oneYear m_first m_second m_names) (fun sz => cx_Qi D y (wd_Model k m_a m_limbs m_wide m_book m_images m_kept m_before m_refused m_quiet m_text m_typed m_at m_start m_token m_value m_items m_many m_is m_likes m_without m_onePicture m_oneYear m_first m_second m_names) (wd_Model k m_a m_limbs m_wide m_book m_images m_kept m_before m_refused m_quiet m_text m_typed m_at m_start m_token m_value m_items m_many m_is m_likes m_without m_onePicture m_oneYear m_first m_second m_names) sz) := by
  refine cx_met (own := "NamelessBoxModel") (by decide) rfl (Nat.le_of_ble_eq_true rfl) ?_
  intro p e s m args below meth c A Q C hA hQ hr hlk
  refine cx_lv (lv' := [(0, .ref (m_a 0)), (1, .int p1)]) [0, 1] rfl ?_
  unfold f_X9_years at hf
  refine cx_aload_n C dX9_years_0 0 rfl ?_
  refine cx_get (v := .ref (m_a 3)) (ci := 8) C iX9 dX9_years_1 0 rfl rfl 2 (by decide) hw_1056 rfl ?_
  refine cx_bipush (v := 40) C dX9_years_4 (by decide) ?_
  refine cx_iconst (v := 2) C dX9_years_6 (by decide) ?_
  refine cx_iload_n C dX9_years_7 1 rfl ?_
  refine cx_imul C dX9_years_8 ?_
  refine cx_iadd C dX9_years_9 ?_
  refine cx_iconst (v := 1) C dX9_years_10 (by decide) ?_
  refine cx_iadd C dX9_years_11 ?_
  obtain ⟨g1, hf⟩ := cx_gd_at hf
  refine cx_iald C dX9_years_12 3 rfl (cx_ib_in g1) ?_
  clear g1
  refine cx_aload_n C dX9_years_13 0 rfl ?_
  refine cx_get (v := .ref (m_a 3)) (ci := 8) C iX9 dX9_years_14 0 rfl rfl 2 (by decide) hw_1056 rfl ?_
  refine cx_bipush (v := 40) C dX9_years_17 (by decide) ?_
  refine cx_iconst (v := 2) C dX9_years_19 (by decide) ?_
  refine cx_iload_n C dX9_years_20 1 rfl ?_
  refine cx_imul C dX9_years_21 ?_
  refine cx_iadd C dX9_years_22 ?_
  obtain ⟨g2, hf⟩ := cx_gd_at hf
  refine cx_iald C dX9_years_23 3 rfl (cx_ib_in g2) ?_
  clear g2
  refine cx_isub C dX9_years_24 ?_
  refine cx_iconst (v := 1) C dX9_years_25 (by decide) ?_
  refine cx_iadd C dX9_years_26 ?_
  obtain rfl := Option.some.inj hf
  exact cx_iret C hA hQ hr hlk dX9_years_27 rfl rfl
theorem dX9_isTwice_0 : decode cX9_isTwice 0 = .ok (.iconst 0, 1) := by decide +kernel
theorem dX9_isTwice_1 : decode cX9_isTwice 1 = .ok (.istore_n 1, 1) := by decide +kernel
theorem dX9_isTwice_2 : decode cX9_isTwice 2 = .ok (.iconst 0, 1) := by decide +kernel
theorem dX9_isTwice_3 : decode cX9_isTwice 3 = .ok (.istore_n 2, 1) := by decide +kernel
theorem dX9_isTwice_4 : decode cX9_isTwice 4 = .ok (.iload_n 2, 1) := by decide +kernel
theorem dX9_isTwice_5 : decode cX9_isTwice 5 = .ok (.aload_n 0, 1) := by decide +kernel
theorem dX9_isTwice_6 : decode cX9_isTwice 6 = .ok (.getfield 51, 3) := by decide +kernel
theorem dX9_isTwice_9 : decode cX9_isTwice 9 = .ok (.iconst 2, 1) := by decide +kernel
theorem dX9_isTwice_10 : decode cX9_isTwice 10 = .ok (.iaload, 1) := by decide +kernel
theorem dX9_isTwice_11 : decode cX9_isTwice 11 = .ok (.if_icmp .ge 72, 3) := by decide +kernel
theorem dX9_isTwice_14 : decode cX9_isTwice 14 = .ok (.iconst 0, 1) := by decide +kernel
theorem dX9_isTwice_15 : decode cX9_isTwice 15 = .ok (.istore_n 3, 1) := by decide +kernel
theorem dX9_isTwice_16 : decode cX9_isTwice 16 = .ok (.iload_n 3, 1) := by decide +kernel
theorem dX9_isTwice_17 : decode cX9_isTwice 17 = .ok (.iload_n 2, 1) := by decide +kernel
theorem dX9_isTwice_18 : decode cX9_isTwice 18 = .ok (.if_icmp .ge 59, 3) := by decide +kernel
theorem dX9_isTwice_21 : decode cX9_isTwice 21 = .ok (.iload_n 1, 1) := by decide +kernel
theorem dX9_isTwice_22 : decode cX9_isTwice 22 = .ok (.ifCond .ne 43, 3) := by decide +kernel
theorem dX9_isTwice_25 : decode cX9_isTwice 25 = .ok (.aload_n 0, 1) := by decide +kernel
theorem dX9_isTwice_26 : decode cX9_isTwice 26 = .ok (.getfield 73, 3) := by decide +kernel
theorem dX9_isTwice_29 : decode cX9_isTwice 29 = .ok (.iload_n 2, 1) := by decide +kernel
theorem dX9_isTwice_30 : decode cX9_isTwice 30 = .ok (.iaload, 1) := by decide +kernel
theorem dX9_isTwice_31 : decode cX9_isTwice 31 = .ok (.aload_n 0, 1) := by decide +kernel
theorem dX9_isTwice_32 : decode cX9_isTwice 32 = .ok (.getfield 73, 3) := by decide +kernel
theorem dX9_isTwice_35 : decode cX9_isTwice 35 = .ok (.iload_n 3, 1) := by decide +kernel
theorem dX9_isTwice_36 : decode cX9_isTwice 36 = .ok (.iaload, 1) := by decide +kernel
theorem dX9_isTwice_37 : decode cX9_isTwice 37 = .ok (.if_icmp .ne 32, 3) := by decide +kernel
theorem dX9_isTwice_40 : decode cX9_isTwice 40 = .ok (.aload_n 0, 1) := by decide +kernel
theorem dX9_isTwice_41 : decode cX9_isTwice 41 = .ok (.getfield 73, 3) := by decide +kernel
theorem dX9_isTwice_44 : decode cX9_isTwice 44 = .ok (.iload_n 2, 1) := by decide +kernel
theorem dX9_isTwice_45 : decode cX9_isTwice 45 = .ok (.iaload, 1) := by decide +kernel
theorem dX9_isTwice_46 : decode cX9_isTwice 46 = .ok (.iconst 5, 1) := by decide +kernel
theorem dX9_isTwice_47 : decode cX9_isTwice 47 = .ok (.if_icmp .eq 22, 3) := by decide +kernel
theorem dX9_isTwice_50 : decode cX9_isTwice 50 = .ok (.aload_n 0, 1) := by decide +kernel
theorem dX9_isTwice_51 : decode cX9_isTwice 51 = .ok (.iload_n 2, 1) := by decide +kernel
theorem dX9_isTwice_52 : decode cX9_isTwice 52 = .ok (.iconst 0, 1) := by decide +kernel
theorem dX9_isTwice_53 : decode cX9_isTwice 53 = .ok (.invokevirtual 122, 3) := by decide +kernel
theorem dX9_isTwice_56 : decode cX9_isTwice 56 = .ok (.aload_n 0, 1) := by decide +kernel
theorem dX9_isTwice_57 : decode cX9_isTwice 57 = .ok (.iload_n 3, 1) := by decide +kernel
theorem dX9_isTwice_58 : decode cX9_isTwice 58 = .ok (.iconst 0, 1) := by decide +kernel
theorem dX9_isTwice_59 : decode cX9_isTwice 59 = .ok (.invokevirtual 122, 3) := by decide +kernel
theorem dX9_isTwice_62 : decode cX9_isTwice 62 = .ok (.if_icmp .ne 7, 3) := by decide +kernel
theorem dX9_isTwice_65 : decode cX9_isTwice 65 = .ok (.iconst 1, 1) := by decide +kernel
theorem dX9_isTwice_66 : decode cX9_isTwice 66 = .ok (.goto 4, 3) := by decide +kernel
theorem dX9_isTwice_69 : decode cX9_isTwice 69 = .ok (.iconst 0, 1) := by decide +kernel
theorem dX9_isTwice_70 : decode cX9_isTwice 70 = .ok (.istore_n 1, 1) := by decide +kernel
theorem dX9_isTwice_71 : decode cX9_isTwice 71 = .ok (.iinc 3 1, 3) := by decide +kernel
theorem dX9_isTwice_74 : decode cX9_isTwice 74 = .ok (.goto (-58), 3) := by decide +kernel
theorem dX9_isTwice_77 : decode cX9_isTwice 77 = .ok (.iinc 2 1, 3) := by decide +kernel
theorem dX9_isTwice_80 : decode cX9_isTwice 80 = .ok (.goto (-76), 3) := by decide +kernel
theorem dX9_isTwice_83 : decode cX9_isTwice 83 = .ok (.iload_n 1, 1) := by decide +kernel
theorem dX9_isTwice_84 : decode cX9_isTwice 84 = .ok (.ireturn, 1) := by decide +kernel
theorem me_X9_isTwice : cx_Mv yX9_isTwice cX9_isTwice 4 (some .boolean) 0 := ⟨⟨⟨by decide +kernel, by decide +kernel, by decide +kernel⟩, hw_11, hw_1307⟩, hw_1306, hs_59⟩
noncomputable def f_X9_isTwice_J70 (x3_7 : Int32) (rc16 : Int32 → Int32 → Option Int32) (s0_10 : Int32) : Option Int32 := rc16 s0_10 (x3_7 + 1)
noncomputable def f_X9_isTwice_J65 (x3_7 : Int32) (rc16 : Int32 → Int32 → Option Int32) : Option Int32 := f_X9_isTwice_J70 x3_7 rc16 1
noncomputable def f_X9_isTwice_J69 (x3_7 : Int32) (rc16 : Int32 → Int32 → Option Int32) : Option Int32 := f_X9_isTwice_J70 x3_7 rc16 0
noncomputable def f_X9_isTwice_L16 (m_book : Nat → Int32) (m_is : Nat → Int32) (x2_2 : Int32) (rc4 : Int32 → Int32 → Option Int32) (rc16 : Int32 → Int32 → Option Int32) (x1_6 : Int32) (x3_7 : Int32) : Option Int32 := if x2_2 ≤ x3_7 then (rc4 x1_6 (x2_2 + 1)) else (if x1_6 = 0 then (cx_gd (cx_ib x2_2 6) (cx_gd (cx_ib x3_7 6) (if (m_is (cx_ix x2_2)) = (m_is (cx_ix x3_7)) then (cx_gd (cx_ib x2_2 6) (if (m_is (cx_ix x2_2)) = 5 then (f_X9_isTwice_J69 x3_7 rc16) else (Option.bind (f_X9_ofHead m_book x2_2 0) (fun u16 => Option.bind (f_X9_ofHead m_book x3_7 0) (fun u18 => if u16 = u18 then (f_X9_isTwice_J65 x3_7 rc16) else (f_X9_isTwice_J69 x3_7 rc16)))))) else (f_X9_isTwice_J69 x3_7 rc16)))) else (f_X9_isTwice_J65 x3_7 rc16))
noncomputable def f_X9_isTwice_L16w (m_book : Nat → Int32) (m_is : Nat → Int32) (x2_2 : Int32) (rc4 : Int32 → Int32 → Option Int32) (n : Nat) : Int32 → Int32 → Option Int32 := Nat.rec (fun _ _ => none) (fun _ r => f_X9_isTwice_L16 m_book m_is x2_2 rc4 r) n
noncomputable def f_X9_isTwice_L4 (m_book : Nat → Int32) (m_is : Nat → Int32) (rc4 : Int32 → Int32 → Option Int32) (x1_1 : Int32) (x2_2 : Int32) : Option Int32 := cx_gd (cx_ib 2 140) (if (m_book (cx_ix 2)) ≤ x2_2 then (cx_gd (decide (x1_1 = 0 ∨ x1_1 = 1)) (some x1_1)) else (f_X9_isTwice_L16w m_book m_is x2_2 rc4 cx_N0 x1_1 0))
noncomputable def f_X9_isTwice_L4w (m_book : Nat → Int32) (m_is : Nat → Int32) (n : Nat) : Int32 → Int32 → Option Int32 := Nat.rec (fun _ _ => none) (fun _ r => f_X9_isTwice_L4 m_book m_is r) n
noncomputable def f_X9_isTwice (m_book : Nat → Int32) (m_is : Nat → Int32) : Option Int32 := f_X9_isTwice_L4w m_book m_is cx_N0 0 0
set_option maxHeartbeats 4000000 in
set_option maxRecDepth 100000 in
theorem c_X9_isTwice (l : Launch) (D : va_G) (k : Nat → ClassId) (m_a : Nat → Nat) (m_limbs : Nat → Int32) (m_wide : Nat → Int32) (m_book : Nat → Int32) (m_images : Nat → Int32) (m_kept : Nat → Int32) (m_before : Nat → Int32) (m_refused : Nat → Int32) (m_quiet : Int32) (m_text : Nat → Int32) (m_typed : Int32) (m_at : Int32) (m_start : Int32) (m_token : Int32) (m_value : Int32) (m_items : Nat → Int32) (m_many : Int32) (m_is : Nat → Int32) (m_likes : Nat → Int32) (m_without : Int32) (m_onePicture : Int32) (m_oneYear : Int32) (m_first : Int32) (m_second : Int32) (m_names : Nat → Int32) (y : Int32) (hf : f_X9_isTwice m_book m_is = some y) : cx_M l yX9_isTwice cX9_isTwice 4 (some .boolean) 2 D k [.ref (m_a 0)] (wd_Model k m_a m_limbs m_wide m_book m_images m_kept m_before m_refused m_quiet m_text m_typed m_at m_start m_token m_value m_items m_many m_is m_likes m_without m_onePicture m_oneYear m_first m_second m_names) (fun sz => cx_Qi D y (wd_Model k m_a m_limbs m_wide m_book m_images m_kept m_before m_refused m_quiet m_text m_typed m_at m_start m_token m_value m_items m_many m_is m_likes m_without m_onePicture m_oneYear m_first m_second m_names) (wd_Model k m_a m_limbs m_wide m_book m_images m_kept m_before m_refused m_quiet m_text m_typed m_at m_start m_token m_value m_items m_many m_is m_likes m_without m_onePicture m_oneYear m_first m_second m_names) sz) := by
  refine cx_met (own := "NamelessBoxModel") (by decide) rfl (Nat.le_of_ble_eq_true rfl) ?_
  intro p e s m args below meth c A Q C hA hQ hr hlk
  refine cx_lv (lv' := [(0, .ref (m_a 0))]) [0] rfl ?_
  have L4 : ∀ (n4 : Nat) (x1_1 : Int32) (x2_2 : Int32), f_X9_isTwice_L4w m_book m_is n4 x1_1 x2_2 = some y → cx_S p l e (cx_rm 2) s m args below meth c A D 4 0 0 Q 4 [(0, .ref (m_a 0)), (1, .int x1_1), (2, .int x2_2)] [] (wd_Model k m_a m_limbs m_wide m_book m_images m_kept m_before m_refused m_quiet m_text m_typed m_at m_start m_token m_value m_items m_many m_is m_likes m_without m_onePicture m_oneYear m_first m_second m_names) := by
    intro  n4
    induction n4 with
    | zero =>
      intro x1_1 x2_2 hf
      exact absurd (show (none : Option Int32) = some y from hf) (fun h => by cases h)
    | succ n4 ih4 =>
      intro x1_1 x2_2 hf
      have hf : f_X9_isTwice_L4 m_book m_is (f_X9_isTwice_L4w m_book m_is n4) x1_1 x2_2 = some y := hf
      have L16 : ∀ (n16 : Nat) (x1_6 : Int32) (x3_7 : Int32), f_X9_isTwice_L16w m_book m_is x2_2 (f_X9_isTwice_L4w m_book m_is n4) n16 x1_6 x3_7 = some y → cx_S p l e (cx_rm 2) s m args below meth c A D 4 0 0 Q 16 [(0, .ref (m_a 0)), (1, .int x1_6), (2, .int x2_2), (3, .int x3_7)] [] (wd_Model k m_a m_limbs m_wide m_book m_images m_kept m_before m_refused m_quiet m_text m_typed m_at m_start m_token m_value m_items m_many m_is m_likes m_without m_onePicture m_oneYear m_first m_second m_names) := by
        intro  n16
        induction n16 with
        | zero =>
          intro x1_6 x3_7 hf
          exact absurd (show (none : Option Int32) = some y from hf) (fun h => by cases h)
        | succ n16 ih16 =>
          intro x1_6 x3_7 hf
          have hf : f_X9_isTwice_L16 m_book m_is x2_2 (f_X9_isTwice_L4w m_book m_is n4) (f_X9_isTwice_L16w m_book m_is x2_2 (f_X9_isTwice_L4w m_book m_is n4) n16) x1_6 x3_7 = some y := hf
          have J70 : ∀ (s0_10 : Int32), f_X9_isTwice_J70 x3_7 (f_X9_isTwice_L16w m_book m_is x2_2 (f_X9_isTwice_L4w m_book m_is n4) n16) s0_10 = some y → cx_S p l e (cx_rm 2) s m args below meth c A D 4 0 0 Q 70 [(0, .ref (m_a 0)), (2, .int x2_2), (3, .int x3_7)] [.int s0_10] (wd_Model k m_a m_limbs m_wide m_book m_images m_kept m_before m_refused m_quiet m_text m_typed m_at m_start m_token m_value m_items m_many m_is m_likes m_without m_onePicture m_oneYear m_first m_second m_names) := by
            intro s0_10 hf
            unfold f_X9_isTwice_J70 at hf
            refine cx_istore_n (lv' := [(1, .int s0_10), (0, .ref (m_a 0)), (2, .int x2_2), (3, .int x3_7)]) C dX9_isTwice_70 rfl (by decide) rfl ?_
            refine cx_iinc (v := x3_7 + 1) (lv' := [(3, .int (x3_7 + 1)), (1, .int s0_10), (0, .ref (m_a 0)), (2, .int x2_2)]) C dX9_isTwice_71 3 rfl rfl (by decide) rfl ?_
            refine cx_goto (tgt := 16) C dX9_isTwice_74 (by decide) ?_
            refine cx_lv [2, 1, 3, 0] rfl ?_
            exact ih16 s0_10 (x3_7 + 1) hf
          have J65 : f_X9_isTwice_J65 x3_7 (f_X9_isTwice_L16w m_book m_is x2_2 (f_X9_isTwice_L4w m_book m_is n4) n16) = some y → cx_S p l e (cx_rm 2) s m args below meth c A D 4 0 0 Q 65 [(0, .ref (m_a 0)), (2, .int x2_2), (3, .int x3_7)] [] (wd_Model k m_a m_limbs m_wide m_book m_images m_kept m_before m_refused m_quiet m_text m_typed m_at m_start m_token m_value m_items m_many m_is m_likes m_without m_onePicture m_oneYear m_first m_second m_names) := by
            intro  hf
            unfold f_X9_isTwice_J65 at hf
            refine cx_iconst (v := 1) C dX9_isTwice_65 (by decide) ?_
            refine cx_goto (tgt := 70) C dX9_isTwice_66 (by decide) ?_
            exact J70 1 hf
          have J69 : f_X9_isTwice_J69 x3_7 (f_X9_isTwice_L16w m_book m_is x2_2 (f_X9_isTwice_L4w m_book m_is n4) n16) = some y → cx_S p l e (cx_rm 2) s m args below meth c A D 4 0 0 Q 69 [(0, .ref (m_a 0)), (2, .int x2_2), (3, .int x3_7)] [] (wd_Model k m_a m_limbs m_wide m_book m_images m_kept m_before m_refused m_quiet m_text m_typed m_at m_start m_token m_value m_items m_many m_is m_likes m_without m_onePicture m_oneYear m_first m_second m_names) := by
            intro  hf
            unfold f_X9_isTwice_J69 at hf
            refine cx_iconst (v := 0) C dX9_isTwice_69 (by decide) ?_
            exact J70 0 hf
          unfold f_X9_isTwice_L16 at hf
          refine cx_iload_n C dX9_isTwice_16 3 rfl ?_
          refine cx_iload_n C dX9_isTwice_17 2 rfl ?_
          refine cx_icmp_ge (tgt := 77) C dX9_isTwice_18 (by decide) (fun c8 => ?_) (fun c8 => ?_)
          · have hf := cx_if_t hf c8
            clear c8
            refine cx_iinc (v := x2_2 + 1) (lv' := [(2, .int (x2_2 + 1)), (0, .ref (m_a 0)), (1, .int x1_6), (3, .int x3_7)]) C dX9_isTwice_77 2 rfl rfl (by decide) rfl ?_
            refine cx_goto (tgt := 4) C dX9_isTwice_80 (by decide) ?_
            refine cx_lv [1, 2, 0] rfl ?_
            exact ih4 x1_6 (x2_2 + 1) hf
          · have hf := cx_if_f hf c8
            clear c8
            refine cx_iload_n C dX9_isTwice_21 1 rfl ?_
            refine cx_if_ne (tgt := 65) C dX9_isTwice_22 (by decide) (fun c9 => ?_) (fun c9 => ?_)
            · have hf := cx_if_f hf c9
              clear c9
              refine cx_lv [0, 2, 3] rfl ?_
              exact J65 hf
            · have hf := cx_if_t hf c9
              clear c9
              refine cx_aload_n C dX9_isTwice_25 0 rfl ?_
              refine cx_get (v := .ref (m_a 10)) (ci := 8) C iX9 dX9_isTwice_26 0 rfl rfl 16 (by decide) hw_1070 rfl ?_
              refine cx_iload_n C dX9_isTwice_29 2 rfl ?_
              obtain ⟨g11, hf⟩ := cx_gd_at hf
              refine cx_iald C dX9_isTwice_30 10 rfl (cx_ib_in g11) ?_
              clear g11
              refine cx_aload_n C dX9_isTwice_31 0 rfl ?_
              refine cx_get (v := .ref (m_a 10)) (ci := 8) C iX9 dX9_isTwice_32 0 rfl rfl 16 (by decide) hw_1070 rfl ?_
              refine cx_iload_n C dX9_isTwice_35 3 rfl ?_
              obtain ⟨g12, hf⟩ := cx_gd_at hf
              refine cx_iald C dX9_isTwice_36 10 rfl (cx_ib_in g12) ?_
              clear g12
              refine cx_icmp_ne (tgt := 69) C dX9_isTwice_37 (by decide) (fun c13 => ?_) (fun c13 => ?_)
              · have hf := cx_if_f hf c13
                clear c13
                refine cx_lv [0, 2, 3] rfl ?_
                exact J69 hf
              · have hf := cx_if_t hf c13
                clear c13
                refine cx_aload_n C dX9_isTwice_40 0 rfl ?_
                refine cx_get (v := .ref (m_a 10)) (ci := 8) C iX9 dX9_isTwice_41 0 rfl rfl 16 (by decide) hw_1070 rfl ?_
                refine cx_iload_n C dX9_isTwice_44 2 rfl ?_
                obtain ⟨g14, hf⟩ := cx_gd_at hf
                refine cx_iald C dX9_isTwice_45 10 rfl (cx_ib_in g14) ?_
                clear g14
                refine cx_iconst (v := 5) C dX9_isTwice_46 (by decide) ?_
                refine cx_icmp_eq (tgt := 69) C dX9_isTwice_47 (by decide) (fun c15 => ?_) (fun c15 => ?_)
                · have hf := cx_if_t hf c15
                  clear c15
                  refine cx_lv [0, 2, 3] rfl ?_
                  exact J69 hf
                · have hf := cx_if_f hf c15
                  clear c15
                  refine cx_aload_n C dX9_isTwice_50 0 rfl ?_
                  refine cx_iload_n C dX9_isTwice_51 2 rfl ?_
                  refine cx_iconst (v := 0) C dX9_isTwice_52 (by decide) ?_
                  obtain ⟨u16, e17, hf⟩ := cx_bd_at hf
                  refine cx_Fvi (q := (RX9, TX9, 24)) (As := [.int x2_2, .int 0]) (rest := []) (w1 := (wd_Model k m_a m_limbs m_wide m_book m_images m_kept m_before m_refused m_quiet m_text m_typed m_at m_start m_token m_value m_items m_many m_is m_likes m_without m_onePicture m_oneYear m_first m_second m_names)) hA C me_X9_ofHead hw_1191 (c_X9_ofHead l D k m_a m_limbs m_wide m_book m_images m_kept m_before m_refused m_quiet m_text m_typed m_at m_start m_token m_value m_items m_many m_is m_likes m_without m_onePicture m_oneYear m_first m_second m_names x2_2 0 u16 e17) dX9_isTwice_53 ⟨Nat.le_of_ble_eq_true rfl, Nat.le_of_ble_eq_true rfl⟩ ⟨Nat.zero_le _, Nat.zero_le _⟩ rfl rfl (Nat.le_of_ble_eq_true rfl) rfl rfl rfl ?_
                  clear e17
                  refine cx_aload_n C dX9_isTwice_56 0 rfl ?_
                  refine cx_iload_n C dX9_isTwice_57 3 rfl ?_
                  refine cx_iconst (v := 0) C dX9_isTwice_58 (by decide) ?_
                  obtain ⟨u18, e19, hf⟩ := cx_bd_at hf
                  refine cx_Fvi (q := (RX9, TX9, 24)) (As := [.int x3_7, .int 0]) (rest := [.int u16]) (w1 := (wd_Model k m_a m_limbs m_wide m_book m_images m_kept m_before m_refused m_quiet m_text m_typed m_at m_start m_token m_value m_items m_many m_is m_likes m_without m_onePicture m_oneYear m_first m_second m_names)) hA C me_X9_ofHead hw_1191 (c_X9_ofHead l D k m_a m_limbs m_wide m_book m_images m_kept m_before m_refused m_quiet m_text m_typed m_at m_start m_token m_value m_items m_many m_is m_likes m_without m_onePicture m_oneYear m_first m_second m_names x3_7 0 u18 e19) dX9_isTwice_59 ⟨Nat.le_of_ble_eq_true rfl, Nat.le_of_ble_eq_true rfl⟩ ⟨Nat.zero_le _, Nat.zero_le _⟩ rfl rfl (Nat.le_of_ble_eq_true rfl) rfl rfl rfl ?_
                  clear e19
                  refine cx_icmp_ne (tgt := 69) C dX9_isTwice_62 (by decide) (fun c20 => ?_) (fun c20 => ?_)
                  · have hf := cx_if_f hf c20
                    clear c20
                    refine cx_lv [0, 2, 3] rfl ?_
                    exact J69 hf
                  · have hf := cx_if_t hf c20
                    clear c20
                    refine cx_lv [0, 2, 3] rfl ?_
                    exact J65 hf
      unfold f_X9_isTwice_L4 at hf
      refine cx_iload_n C dX9_isTwice_4 2 rfl ?_
      refine cx_aload_n C dX9_isTwice_5 0 rfl ?_
      refine cx_get (v := .ref (m_a 3)) (ci := 8) C iX9 dX9_isTwice_6 0 rfl rfl 2 (by decide) hw_1056 rfl ?_
      refine cx_iconst (v := 2) C dX9_isTwice_9 (by decide) ?_
      obtain ⟨g3, hf⟩ := cx_gd_at hf
      refine cx_iald C dX9_isTwice_10 3 rfl (cx_ib_in g3) ?_
      clear g3
      refine cx_icmp_ge (tgt := 83) C dX9_isTwice_11 (by decide) (fun c4 => ?_) (fun c4 => ?_)
      · have hf := cx_if_t hf c4
        clear c4
        refine cx_iload_n C dX9_isTwice_83 1 rfl ?_
        obtain ⟨b5, hf⟩ := cx_gd_at hf
        obtain rfl := Option.some.inj hf
        exact cx_zret C hA hQ hr hlk dX9_isTwice_84 (cx_nz (of_decide_eq_true b5)).1 rfl rfl
      · have hf := cx_if_f hf c4
        clear c4
        refine cx_iconst (v := 0) C dX9_isTwice_14 (by decide) ?_
        refine cx_istore_n (lv' := [(3, .int 0), (0, .ref (m_a 0)), (1, .int x1_1), (2, .int x2_2)]) C dX9_isTwice_15 rfl (by decide) rfl ?_
        refine cx_lv [1, 2, 3, 0] rfl ?_
        exact L16 cx_N0 x1_1 0 hf
  unfold f_X9_isTwice at hf
  refine cx_iconst (v := 0) C dX9_isTwice_0 (by decide) ?_
  refine cx_istore_n (lv' := [(1, .int 0), (0, .ref (m_a 0))]) C dX9_isTwice_1 rfl (by decide) rfl ?_
  refine cx_iconst (v := 0) C dX9_isTwice_2 (by decide) ?_
  refine cx_istore_n (lv' := [(2, .int 0), (1, .int 0), (0, .ref (m_a 0))]) C dX9_isTwice_3 rfl (by decide) rfl ?_
  refine cx_lv [2, 1, 0] rfl ?_
  exact L4 cx_N0 0 0 hf
theorem dX9_timesLong_0 : decode cX9_timesLong 0 = .ok (.aload_n 0, 1) := by decide +kernel
theorem dX9_timesLong_1 : decode cX9_timesLong 1 = .ok (.bipush 8, 2) := by decide +kernel
theorem dX9_timesLong_3 : decode cX9_timesLong 3 = .ok (.lload_n 2, 1) := by decide +kernel
theorem dX9_timesLong_4 : decode cX9_timesLong 4 = .ok (.invokevirtual 16, 3) := by decide +kernel
theorem dX9_timesLong_7 : decode cX9_timesLong 7 = .ok (.aload_n 0, 1) := by decide +kernel
theorem dX9_timesLong_8 : decode cX9_timesLong 8 = .ok (.iload_n 1, 1) := by decide +kernel
theorem dX9_timesLong_9 : decode cX9_timesLong 9 = .ok (.bipush 8, 2) := by decide +kernel
theorem dX9_timesLong_11 : decode cX9_timesLong 11 = .ok (.invokevirtual 241, 3) := by decide +kernel
theorem dX9_timesLong_14 : decode cX9_timesLong 14 = .ok (.return_, 1) := by decide +kernel
theorem me_X9_timesLong : cx_Mv yX9_timesLong cX9_timesLong 4 none 2 := ⟨⟨⟨by decide +kernel, by decide +kernel, by decide +kernel⟩, hw_11, hw_1319⟩, hw_1318, hs_62⟩
noncomputable def f_X9_timesLong (m_limbs : Nat → Int32) (m_wide : Nat → Int32) (p1 : Int32) (p2 : Int64) : Option ((Nat → Int32) × (Nat → Int32)) := Option.bind (f_X9_sets m_limbs m_wide 8 p2) (fun u1 => Option.bind (f_X9_multiplies u1.1 u1.2 p1 8) (fun u3 => some ((u3.1, u3.2))))
set_option maxHeartbeats 4000000 in
set_option maxRecDepth 100000 in
theorem c_X9_timesLong (l : Launch) (D : va_G) (k : Nat → ClassId) (m_a : Nat → Nat) (m_limbs : Nat → Int32) (m_wide : Nat → Int32) (m_book : Nat → Int32) (m_images : Nat → Int32) (m_kept : Nat → Int32) (m_before : Nat → Int32) (m_refused : Nat → Int32) (m_quiet : Int32) (m_text : Nat → Int32) (m_typed : Int32) (m_at : Int32) (m_start : Int32) (m_token : Int32) (m_value : Int32) (m_items : Nat → Int32) (m_many : Int32) (m_is : Nat → Int32) (m_likes : Nat → Int32) (m_without : Int32) (m_onePicture : Int32) (m_oneYear : Int32) (m_first : Int32) (m_second : Int32) (m_names : Nat → Int32) (p1 : Int32) (p2 : Int64) (y : (Nat → Int32) × (Nat → Int32)) (hf : f_X9_timesLong m_limbs m_wide p1 p2 = some y) : cx_M l yX9_timesLong cX9_timesLong 4 none 4 D k [.ref (m_a 0), .int p1, .long p2] (wd_Model k m_a m_limbs m_wide m_book m_images m_kept m_before m_refused m_quiet m_text m_typed m_at m_start m_token m_value m_items m_many m_is m_likes m_without m_onePicture m_oneYear m_first m_second m_names) (fun sz => cx_Qv D (wd_Model k m_a m_limbs m_wide m_book m_images m_kept m_before m_refused m_quiet m_text m_typed m_at m_start m_token m_value m_items m_many m_is m_likes m_without m_onePicture m_oneYear m_first m_second m_names) (wd_Model k m_a y.1 y.2 m_book m_images m_kept m_before m_refused m_quiet m_text m_typed m_at m_start m_token m_value m_items m_many m_is m_likes m_without m_onePicture m_oneYear m_first m_second m_names) sz) := by
  refine cx_met (own := "NamelessBoxModel") (by decide) rfl (Nat.le_of_ble_eq_true rfl) ?_
  intro p e s m args below meth c A Q C hA hQ hr hlk
  refine cx_lv (lv' := [(0, .ref (m_a 0)), (1, .int p1), (2, .long p2)]) [0, 1, 2] rfl ?_
  unfold f_X9_timesLong at hf
  refine cx_aload_n C dX9_timesLong_0 0 rfl ?_
  refine cx_bipush (v := 8) C dX9_timesLong_1 (by decide) ?_
  refine cx_lload_n C dX9_timesLong_3 2 rfl ?_
  obtain ⟨u1, e2, hf⟩ := cx_bd_at hf
  refine cx_Fvv (q := (RX9, TX9, 24)) (As := [.int 8, .long p2]) (rest := []) (w1 := (wd_Model k m_a u1.1 u1.2 m_book m_images m_kept m_before m_refused m_quiet m_text m_typed m_at m_start m_token m_value m_items m_many m_is m_likes m_without m_onePicture m_oneYear m_first m_second m_names)) hA C me_X9_sets hw_1045 (c_X9_sets l D k m_a m_limbs m_wide m_book m_images m_kept m_before m_refused m_quiet m_text m_typed m_at m_start m_token m_value m_items m_many m_is m_likes m_without m_onePicture m_oneYear m_first m_second m_names 8 p2 u1 e2) dX9_timesLong_4 ⟨Nat.le_of_ble_eq_true rfl, Nat.le_of_ble_eq_true rfl⟩ ⟨Nat.zero_le _, Nat.zero_le _⟩ rfl rfl (Nat.le_of_ble_eq_true rfl) rfl rfl rfl ?_
  clear e2
  refine cx_aload_n C dX9_timesLong_7 0 rfl ?_
  refine cx_iload_n C dX9_timesLong_8 1 rfl ?_
  refine cx_bipush (v := 8) C dX9_timesLong_9 (by decide) ?_
  obtain ⟨u3, e4, hf⟩ := cx_bd_at hf
  refine cx_Fvv (q := (RX9, TX9, 24)) (As := [.int p1, .int 8]) (rest := []) (w1 := (wd_Model k m_a u3.1 u3.2 m_book m_images m_kept m_before m_refused m_quiet m_text m_typed m_at m_start m_token m_value m_items m_many m_is m_likes m_without m_onePicture m_oneYear m_first m_second m_names)) hA C me_X9_multiplies hw_1320 (c_X9_multiplies l D k m_a u1.1 u1.2 m_book m_images m_kept m_before m_refused m_quiet m_text m_typed m_at m_start m_token m_value m_items m_many m_is m_likes m_without m_onePicture m_oneYear m_first m_second m_names p1 8 u3 e4) dX9_timesLong_11 ⟨Nat.le_of_ble_eq_true rfl, Nat.le_of_ble_eq_true rfl⟩ ⟨Nat.zero_le _, Nat.zero_le _⟩ rfl rfl (Nat.le_of_ble_eq_true rfl) rfl rfl rfl ?_
  clear e4
  obtain rfl := Option.some.inj hf
  exact cx_vret C hA hQ hr hlk dX9_timesLong_14 rfl
theorem dX9_weighs_0 : decode cX9_weighs 0 = .ok (.aload_n 0, 1) := by decide +kernel
theorem dX9_weighs_1 : decode cX9_weighs 1 = .ok (.iload_n 1, 1) := by decide +kernel
theorem dX9_weighs_2 : decode cX9_weighs 2 = .ok (.invokevirtual 244, 3) := by decide +kernel
theorem dX9_weighs_5 : decode cX9_weighs 5 = .ok (.aload_n 0, 1) := by decide +kernel
theorem dX9_weighs_6 : decode cX9_weighs 6 = .ok (.invokevirtual 247, 3) := by decide +kernel
theorem dX9_weighs_9 : decode cX9_weighs 9 = .ok (.ifCond .eq 5, 3) := by decide +kernel
theorem dX9_weighs_12 : decode cX9_weighs 12 = .ok (.iconst 0, 1) := by decide +kernel
theorem dX9_weighs_13 : decode cX9_weighs 13 = .ok (.ireturn, 1) := by decide +kernel
theorem dX9_weighs_14 : decode cX9_weighs 14 = .ok (.aload_n 0, 1) := by decide +kernel
theorem dX9_weighs_15 : decode cX9_weighs 15 = .ok (.iconst 5, 1) := by decide +kernel
theorem dX9_weighs_16 : decode cX9_weighs 16 = .ok (.lconst 1, 1) := by decide +kernel
theorem dX9_weighs_17 : decode cX9_weighs 17 = .ok (.invokevirtual 16, 3) := by decide +kernel
theorem dX9_weighs_20 : decode cX9_weighs 20 = .ok (.iconst 0, 1) := by decide +kernel
theorem dX9_weighs_21 : decode cX9_weighs 21 = .ok (.istore_n 2, 1) := by decide +kernel
theorem dX9_weighs_22 : decode cX9_weighs 22 = .ok (.iload_n 2, 1) := by decide +kernel
theorem dX9_weighs_23 : decode cX9_weighs 23 = .ok (.aload_n 0, 1) := by decide +kernel
theorem dX9_weighs_24 : decode cX9_weighs 24 = .ok (.getfield 51, 3) := by decide +kernel
theorem dX9_weighs_27 : decode cX9_weighs 27 = .ok (.iconst 1, 1) := by decide +kernel
theorem dX9_weighs_28 : decode cX9_weighs 28 = .ok (.iaload, 1) := by decide +kernel
theorem dX9_weighs_29 : decode cX9_weighs 29 = .ok (.if_icmp .ge 236, 3) := by decide +kernel
theorem dX9_weighs_32 : decode cX9_weighs 32 = .ok (.lconst 0, 1) := by decide +kernel
theorem dX9_weighs_33 : decode cX9_weighs 33 = .ok (.lstore_n 3, 1) := by decide +kernel
theorem dX9_weighs_34 : decode cX9_weighs 34 = .ok (.aload_n 0, 1) := by decide +kernel
theorem dX9_weighs_35 : decode cX9_weighs 35 = .ok (.getfield 238, 3) := by decide +kernel
theorem dX9_weighs_38 : decode cX9_weighs 38 = .ok (.iconst (-1), 1) := by decide +kernel
theorem dX9_weighs_39 : decode cX9_weighs 39 = .ok (.if_icmp .eq 19, 3) := by decide +kernel
theorem dX9_weighs_42 : decode cX9_weighs 42 = .ok (.iload_n 2, 1) := by decide +kernel
theorem dX9_weighs_43 : decode cX9_weighs 43 = .ok (.aload_n 0, 1) := by decide +kernel
theorem dX9_weighs_44 : decode cX9_weighs 44 = .ok (.getfield 238, 3) := by decide +kernel
theorem dX9_weighs_47 : decode cX9_weighs 47 = .ok (.if_icmp .eq 64, 3) := by decide +kernel
theorem dX9_weighs_50 : decode cX9_weighs 50 = .ok (.iload_n 2, 1) := by decide +kernel
theorem dX9_weighs_51 : decode cX9_weighs 51 = .ok (.aload_n 0, 1) := by decide +kernel
theorem dX9_weighs_52 : decode cX9_weighs 52 = .ok (.getfield 250, 3) := by decide +kernel
theorem dX9_weighs_55 : decode cX9_weighs 55 = .ok (.if_icmp .eq 56, 3) := by decide +kernel
theorem dX9_weighs_58 : decode cX9_weighs 58 = .ok (.iconst 0, 1) := by decide +kernel
theorem dX9_weighs_59 : decode cX9_weighs 59 = .ok (.istore 5, 2) := by decide +kernel
theorem dX9_weighs_61 : decode cX9_weighs 61 = .ok (.iload 5, 2) := by decide +kernel
theorem dX9_weighs_63 : decode cX9_weighs 63 = .ok (.aload_n 0, 1) := by decide +kernel
theorem dX9_weighs_64 : decode cX9_weighs 64 = .ok (.iload_n 2, 1) := by decide +kernel
theorem dX9_weighs_65 : decode cX9_weighs 65 = .ok (.invokevirtual 253, 3) := by decide +kernel
theorem dX9_weighs_68 : decode cX9_weighs 68 = .ok (.if_icmp .ge 40, 3) := by decide +kernel
theorem dX9_weighs_71 : decode cX9_weighs 71 = .ok (.lload_n 3, 1) := by decide +kernel
theorem dX9_weighs_72 : decode cX9_weighs 72 = .ok (.iload_n 2, 1) := by decide +kernel
theorem dX9_weighs_73 : decode cX9_weighs 73 = .ok (.aload_n 0, 1) := by decide +kernel
theorem dX9_weighs_74 : decode cX9_weighs 74 = .ok (.getfield 235, 3) := by decide +kernel
theorem dX9_weighs_77 : decode cX9_weighs 77 = .ok (.if_icmp .ne 12, 3) := by decide +kernel
theorem dX9_weighs_80 : decode cX9_weighs 80 = .ok (.iload 5, 2) := by decide +kernel
theorem dX9_weighs_82 : decode cX9_weighs 82 = .ok (.aload_n 0, 1) := by decide +kernel
theorem dX9_weighs_83 : decode cX9_weighs 83 = .ok (.getfield 256, 3) := by decide +kernel
theorem dX9_weighs_86 : decode cX9_weighs 86 = .ok (.if_icmp .ne 13, 3) := by decide +kernel
theorem dX9_weighs_89 : decode cX9_weighs 89 = .ok (.aload_n 0, 1) := by decide +kernel
theorem dX9_weighs_90 : decode cX9_weighs 90 = .ok (.iload_n 2, 1) := by decide +kernel
theorem dX9_weighs_91 : decode cX9_weighs 91 = .ok (.iload 5, 2) := by decide +kernel
theorem dX9_weighs_93 : decode cX9_weighs 93 = .ok (.invokevirtual 259, 3) := by decide +kernel
theorem dX9_weighs_96 : decode cX9_weighs 96 = .ok (.goto 4, 3) := by decide +kernel
theorem dX9_weighs_99 : decode cX9_weighs 99 = .ok (.lconst 0, 1) := by decide +kernel
theorem dX9_weighs_100 : decode cX9_weighs 100 = .ok (.ladd, 1) := by decide +kernel
theorem dX9_weighs_101 : decode cX9_weighs 101 = .ok (.lstore_n 3, 1) := by decide +kernel
theorem dX9_weighs_102 : decode cX9_weighs 102 = .ok (.iinc 5 1, 3) := by decide +kernel
theorem dX9_weighs_105 : decode cX9_weighs 105 = .ok (.goto (-44), 3) := by decide +kernel
theorem dX9_weighs_108 : decode cX9_weighs 108 = .ok (.goto 137, 3) := by decide +kernel
theorem dX9_weighs_111 : decode cX9_weighs 111 = .ok (.iload_n 2, 1) := by decide +kernel
theorem dX9_weighs_112 : decode cX9_weighs 112 = .ok (.aload_n 0, 1) := by decide +kernel
theorem dX9_weighs_113 : decode cX9_weighs 113 = .ok (.getfield 238, 3) := by decide +kernel
theorem dX9_weighs_116 : decode cX9_weighs 116 = .ok (.if_icmp .ne 127, 3) := by decide +kernel
theorem dX9_weighs_119 : decode cX9_weighs 119 = .ok (.iconst 0, 1) := by decide +kernel
theorem dX9_weighs_120 : decode cX9_weighs 120 = .ok (.istore 5, 2) := by decide +kernel
theorem dX9_weighs_122 : decode cX9_weighs 122 = .ok (.iload 5, 2) := by decide +kernel
theorem dX9_weighs_124 : decode cX9_weighs 124 = .ok (.aload_n 0, 1) := by decide +kernel
theorem dX9_weighs_125 : decode cX9_weighs 125 = .ok (.aload_n 0, 1) := by decide +kernel
theorem dX9_weighs_126 : decode cX9_weighs 126 = .ok (.getfield 238, 3) := by decide +kernel
theorem dX9_weighs_129 : decode cX9_weighs 129 = .ok (.invokevirtual 253, 3) := by decide +kernel
theorem dX9_weighs_132 : decode cX9_weighs 132 = .ok (.if_icmp .ge 108, 3) := by decide +kernel
theorem dX9_weighs_135 : decode cX9_weighs 135 = .ok (.iconst 0, 1) := by decide +kernel
theorem dX9_weighs_136 : decode cX9_weighs 136 = .ok (.istore 6, 2) := by decide +kernel
theorem dX9_weighs_138 : decode cX9_weighs 138 = .ok (.iload 6, 2) := by decide +kernel
theorem dX9_weighs_140 : decode cX9_weighs 140 = .ok (.aload_n 0, 1) := by decide +kernel
theorem dX9_weighs_141 : decode cX9_weighs 141 = .ok (.aload_n 0, 1) := by decide +kernel
theorem dX9_weighs_142 : decode cX9_weighs 142 = .ok (.getfield 250, 3) := by decide +kernel
theorem dX9_weighs_145 : decode cX9_weighs 145 = .ok (.invokevirtual 253, 3) := by decide +kernel
theorem dX9_weighs_148 : decode cX9_weighs 148 = .ok (.if_icmp .ge 86, 3) := by decide +kernel
theorem dX9_weighs_151 : decode cX9_weighs 151 = .ok (.aload_n 0, 1) := by decide +kernel
theorem dX9_weighs_152 : decode cX9_weighs 152 = .ok (.getfield 51, 3) := by decide +kernel
theorem dX9_weighs_155 : decode cX9_weighs 155 = .ok (.bipush 40, 2) := by decide +kernel
theorem dX9_weighs_157 : decode cX9_weighs 157 = .ok (.iconst 2, 1) := by decide +kernel
theorem dX9_weighs_158 : decode cX9_weighs 158 = .ok (.aload_n 0, 1) := by decide +kernel
theorem dX9_weighs_159 : decode cX9_weighs 159 = .ok (.getfield 238, 3) := by decide +kernel
theorem dX9_weighs_162 : decode cX9_weighs 162 = .ok (.imul, 1) := by decide +kernel
theorem dX9_weighs_163 : decode cX9_weighs 163 = .ok (.iadd, 1) := by decide +kernel
theorem dX9_weighs_164 : decode cX9_weighs 164 = .ok (.iaload, 1) := by decide +kernel
theorem dX9_weighs_165 : decode cX9_weighs 165 = .ok (.iload 5, 2) := by decide +kernel
theorem dX9_weighs_167 : decode cX9_weighs 167 = .ok (.iadd, 1) := by decide +kernel
theorem dX9_weighs_168 : decode cX9_weighs 168 = .ok (.aload_n 0, 1) := by decide +kernel
theorem dX9_weighs_169 : decode cX9_weighs 169 = .ok (.getfield 51, 3) := by decide +kernel
theorem dX9_weighs_172 : decode cX9_weighs 172 = .ok (.bipush 40, 2) := by decide +kernel
theorem dX9_weighs_174 : decode cX9_weighs 174 = .ok (.iconst 2, 1) := by decide +kernel
theorem dX9_weighs_175 : decode cX9_weighs 175 = .ok (.aload_n 0, 1) := by decide +kernel
theorem dX9_weighs_176 : decode cX9_weighs 176 = .ok (.getfield 250, 3) := by decide +kernel
theorem dX9_weighs_179 : decode cX9_weighs 179 = .ok (.imul, 1) := by decide +kernel
theorem dX9_weighs_180 : decode cX9_weighs 180 = .ok (.iadd, 1) := by decide +kernel
theorem dX9_weighs_181 : decode cX9_weighs 181 = .ok (.iaload, 1) := by decide +kernel
theorem dX9_weighs_182 : decode cX9_weighs 182 = .ok (.iload 6, 2) := by decide +kernel
theorem dX9_weighs_184 : decode cX9_weighs 184 = .ok (.iadd, 1) := by decide +kernel
theorem dX9_weighs_185 : decode cX9_weighs 185 = .ok (.if_icmp .ge 7, 3) := by decide +kernel
theorem dX9_weighs_188 : decode cX9_weighs 188 = .ok (.iconst 1, 1) := by decide +kernel
theorem dX9_weighs_189 : decode cX9_weighs 189 = .ok (.goto 4, 3) := by decide +kernel
theorem dX9_weighs_192 : decode cX9_weighs 192 = .ok (.iconst 0, 1) := by decide +kernel
theorem dX9_weighs_193 : decode cX9_weighs 193 = .ok (.istore 7, 2) := by decide +kernel
theorem dX9_weighs_195 : decode cX9_weighs 195 = .ok (.lload_n 3, 1) := by decide +kernel
theorem dX9_weighs_196 : decode cX9_weighs 196 = .ok (.iload 7, 2) := by decide +kernel
theorem dX9_weighs_198 : decode cX9_weighs 198 = .ok (.ifCond .eq 27, 3) := by decide +kernel
theorem dX9_weighs_201 : decode cX9_weighs 201 = .ok (.aload_n 0, 1) := by decide +kernel
theorem dX9_weighs_202 : decode cX9_weighs 202 = .ok (.aload_n 0, 1) := by decide +kernel
theorem dX9_weighs_203 : decode cX9_weighs 203 = .ok (.getfield 238, 3) := by decide +kernel
theorem dX9_weighs_206 : decode cX9_weighs 206 = .ok (.iload 5, 2) := by decide +kernel
theorem dX9_weighs_208 : decode cX9_weighs 208 = .ok (.invokevirtual 259, 3) := by decide +kernel
theorem dX9_weighs_211 : decode cX9_weighs 211 = .ok (.aload_n 0, 1) := by decide +kernel
theorem dX9_weighs_212 : decode cX9_weighs 212 = .ok (.aload_n 0, 1) := by decide +kernel
theorem dX9_weighs_213 : decode cX9_weighs 213 = .ok (.getfield 250, 3) := by decide +kernel
theorem dX9_weighs_216 : decode cX9_weighs 216 = .ok (.iload 6, 2) := by decide +kernel
theorem dX9_weighs_218 : decode cX9_weighs 218 = .ok (.invokevirtual 259, 3) := by decide +kernel
theorem dX9_weighs_221 : decode cX9_weighs 221 = .ok (.lmul, 1) := by decide +kernel
theorem dX9_weighs_222 : decode cX9_weighs 222 = .ok (.goto 4, 3) := by decide +kernel
theorem dX9_weighs_225 : decode cX9_weighs 225 = .ok (.lconst 0, 1) := by decide +kernel
theorem dX9_weighs_226 : decode cX9_weighs 226 = .ok (.ladd, 1) := by decide +kernel
theorem dX9_weighs_227 : decode cX9_weighs 227 = .ok (.lstore_n 3, 1) := by decide +kernel
theorem dX9_weighs_228 : decode cX9_weighs 228 = .ok (.iinc 6 1, 3) := by decide +kernel
theorem dX9_weighs_231 : decode cX9_weighs 231 = .ok (.goto (-93), 3) := by decide +kernel
theorem dX9_weighs_234 : decode cX9_weighs 234 = .ok (.iinc 5 1, 3) := by decide +kernel
theorem dX9_weighs_237 : decode cX9_weighs 237 = .ok (.goto (-115), 3) := by decide +kernel
theorem dX9_weighs_240 : decode cX9_weighs 240 = .ok (.goto 5, 3) := by decide +kernel
theorem dX9_weighs_243 : decode cX9_weighs 243 = .ok (.lconst 1, 1) := by decide +kernel
theorem dX9_weighs_244 : decode cX9_weighs 244 = .ok (.lstore_n 3, 1) := by decide +kernel
theorem dX9_weighs_245 : decode cX9_weighs 245 = .ok (.lload_n 3, 1) := by decide +kernel
theorem dX9_weighs_246 : decode cX9_weighs 246 = .ok (.lconst 0, 1) := by decide +kernel
theorem dX9_weighs_247 : decode cX9_weighs 247 = .ok (.lcmp, 1) := by decide +kernel
theorem dX9_weighs_248 : decode cX9_weighs 248 = .ok (.ifCond .ne 5, 3) := by decide +kernel
theorem dX9_weighs_251 : decode cX9_weighs 251 = .ok (.iconst 0, 1) := by decide +kernel
theorem dX9_weighs_252 : decode cX9_weighs 252 = .ok (.ireturn, 1) := by decide +kernel
theorem dX9_weighs_253 : decode cX9_weighs 253 = .ok (.aload_n 0, 1) := by decide +kernel
theorem dX9_weighs_254 : decode cX9_weighs 254 = .ok (.iconst 5, 1) := by decide +kernel
theorem dX9_weighs_255 : decode cX9_weighs 255 = .ok (.lload_n 3, 1) := by decide +kernel
theorem dX9_weighs_256 : decode cX9_weighs 256 = .ok (.invokevirtual 263, 3) := by decide +kernel
theorem dX9_weighs_259 : decode cX9_weighs 259 = .ok (.iinc 2 1, 3) := by decide +kernel
theorem dX9_weighs_262 : decode cX9_weighs 262 = .ok (.goto (-240), 3) := by decide +kernel
theorem dX9_weighs_265 : decode cX9_weighs 265 = .ok (.iconst 0, 1) := by decide +kernel
theorem dX9_weighs_266 : decode cX9_weighs 266 = .ok (.istore_n 2, 1) := by decide +kernel
theorem dX9_weighs_267 : decode cX9_weighs 267 = .ok (.iload_n 2, 1) := by decide +kernel
theorem dX9_weighs_268 : decode cX9_weighs 268 = .ok (.aload_n 0, 1) := by decide +kernel
theorem dX9_weighs_269 : decode cX9_weighs 269 = .ok (.getfield 51, 3) := by decide +kernel
theorem dX9_weighs_272 : decode cX9_weighs 272 = .ok (.iconst 3, 1) := by decide +kernel
theorem dX9_weighs_273 : decode cX9_weighs 273 = .ok (.iaload, 1) := by decide +kernel
theorem dX9_weighs_274 : decode cX9_weighs 274 = .ok (.if_icmp .ge 132, 3) := by decide +kernel
theorem dX9_weighs_277 : decode cX9_weighs 277 = .ok (.bipush 80, 2) := by decide +kernel
theorem dX9_weighs_279 : decode cX9_weighs 279 = .ok (.iconst 4, 1) := by decide +kernel
theorem dX9_weighs_280 : decode cX9_weighs 280 = .ok (.iload_n 2, 1) := by decide +kernel
theorem dX9_weighs_281 : decode cX9_weighs 281 = .ok (.imul, 1) := by decide +kernel
theorem dX9_weighs_282 : decode cX9_weighs 282 = .ok (.iadd, 1) := by decide +kernel
theorem dX9_weighs_283 : decode cX9_weighs 283 = .ok (.istore_n 3, 1) := by decide +kernel
theorem dX9_weighs_284 : decode cX9_weighs 284 = .ok (.aload_n 0, 1) := by decide +kernel
theorem dX9_weighs_285 : decode cX9_weighs 285 = .ok (.getfield 73, 3) := by decide +kernel
theorem dX9_weighs_288 : decode cX9_weighs 288 = .ok (.aload_n 0, 1) := by decide +kernel
theorem dX9_weighs_289 : decode cX9_weighs 289 = .ok (.getfield 51, 3) := by decide +kernel
theorem dX9_weighs_292 : decode cX9_weighs 292 = .ok (.iload_n 3, 1) := by decide +kernel
theorem dX9_weighs_293 : decode cX9_weighs 293 = .ok (.iconst 1, 1) := by decide +kernel
theorem dX9_weighs_294 : decode cX9_weighs 294 = .ok (.iadd, 1) := by decide +kernel
theorem dX9_weighs_295 : decode cX9_weighs 295 = .ok (.iaload, 1) := by decide +kernel
theorem dX9_weighs_296 : decode cX9_weighs 296 = .ok (.iaload, 1) := by decide +kernel
theorem dX9_weighs_297 : decode cX9_weighs 297 = .ok (.istore 4, 2) := by decide +kernel
theorem dX9_weighs_299 : decode cX9_weighs 299 = .ok (.aload_n 0, 1) := by decide +kernel
theorem dX9_weighs_300 : decode cX9_weighs 300 = .ok (.getfield 51, 3) := by decide +kernel
theorem dX9_weighs_303 : decode cX9_weighs 303 = .ok (.iload_n 3, 1) := by decide +kernel
theorem dX9_weighs_304 : decode cX9_weighs 304 = .ok (.iaload, 1) := by decide +kernel
theorem dX9_weighs_305 : decode cX9_weighs 305 = .ok (.iconst 4, 1) := by decide +kernel
theorem dX9_weighs_306 : decode cX9_weighs 306 = .ok (.if_icmp .ne 17, 3) := by decide +kernel
theorem dX9_weighs_309 : decode cX9_weighs 309 = .ok (.iload 4, 2) := by decide +kernel
theorem dX9_weighs_311 : decode cX9_weighs 311 = .ok (.iconst 5, 1) := by decide +kernel
theorem dX9_weighs_312 : decode cX9_weighs 312 = .ok (.if_icmp .ne 7, 3) := by decide +kernel
theorem dX9_weighs_315 : decode cX9_weighs 315 = .ok (.iconst 1, 1) := by decide +kernel
theorem dX9_weighs_316 : decode cX9_weighs 316 = .ok (.goto 48, 3) := by decide +kernel
theorem dX9_weighs_319 : decode cX9_weighs 319 = .ok (.iconst 0, 1) := by decide +kernel
theorem dX9_weighs_320 : decode cX9_weighs 320 = .ok (.goto 44, 3) := by decide +kernel
theorem dX9_weighs_323 : decode cX9_weighs 323 = .ok (.iload 4, 2) := by decide +kernel
theorem dX9_weighs_325 : decode cX9_weighs 325 = .ok (.aload_n 0, 1) := by decide +kernel
theorem dX9_weighs_326 : decode cX9_weighs 326 = .ok (.getfield 51, 3) := by decide +kernel
theorem dX9_weighs_329 : decode cX9_weighs 329 = .ok (.iload_n 3, 1) := by decide +kernel
theorem dX9_weighs_330 : decode cX9_weighs 330 = .ok (.iconst 2, 1) := by decide +kernel
theorem dX9_weighs_331 : decode cX9_weighs 331 = .ok (.iadd, 1) := by decide +kernel
theorem dX9_weighs_332 : decode cX9_weighs 332 = .ok (.iaload, 1) := by decide +kernel
theorem dX9_weighs_333 : decode cX9_weighs 333 = .ok (.if_icmp .eq 26, 3) := by decide +kernel
theorem dX9_weighs_336 : decode cX9_weighs 336 = .ok (.aload_n 0, 1) := by decide +kernel
theorem dX9_weighs_337 : decode cX9_weighs 337 = .ok (.getfield 51, 3) := by decide +kernel
theorem dX9_weighs_340 : decode cX9_weighs 340 = .ok (.iload_n 3, 1) := by decide +kernel
theorem dX9_weighs_341 : decode cX9_weighs 341 = .ok (.iaload, 1) := by decide +kernel
theorem dX9_weighs_342 : decode cX9_weighs 342 = .ok (.iconst 3, 1) := by decide +kernel
theorem dX9_weighs_343 : decode cX9_weighs 343 = .ok (.if_icmp .ne 20, 3) := by decide +kernel
theorem dX9_weighs_346 : decode cX9_weighs 346 = .ok (.iload 4, 2) := by decide +kernel
theorem dX9_weighs_348 : decode cX9_weighs 348 = .ok (.aload_n 0, 1) := by decide +kernel
theorem dX9_weighs_349 : decode cX9_weighs 349 = .ok (.getfield 51, 3) := by decide +kernel
theorem dX9_weighs_352 : decode cX9_weighs 352 = .ok (.iload_n 3, 1) := by decide +kernel
theorem dX9_weighs_353 : decode cX9_weighs 353 = .ok (.iconst 3, 1) := by decide +kernel
theorem dX9_weighs_354 : decode cX9_weighs 354 = .ok (.iadd, 1) := by decide +kernel
theorem dX9_weighs_355 : decode cX9_weighs 355 = .ok (.iaload, 1) := by decide +kernel
theorem dX9_weighs_356 : decode cX9_weighs 356 = .ok (.if_icmp .ne 7, 3) := by decide +kernel
theorem dX9_weighs_359 : decode cX9_weighs 359 = .ok (.iconst 1, 1) := by decide +kernel
theorem dX9_weighs_360 : decode cX9_weighs 360 = .ok (.goto 4, 3) := by decide +kernel
theorem dX9_weighs_363 : decode cX9_weighs 363 = .ok (.iconst 0, 1) := by decide +kernel
theorem dX9_weighs_364 : decode cX9_weighs 364 = .ok (.istore 5, 2) := by decide +kernel
theorem dX9_weighs_366 : decode cX9_weighs 366 = .ok (.iload_n 2, 1) := by decide +kernel
theorem dX9_weighs_367 : decode cX9_weighs 367 = .ok (.aload_n 0, 1) := by decide +kernel
theorem dX9_weighs_368 : decode cX9_weighs 368 = .ok (.getfield 232, 3) := by decide +kernel
theorem dX9_weighs_371 : decode cX9_weighs 371 = .ok (.if_icmp .eq 29, 3) := by decide +kernel
theorem dX9_weighs_374 : decode cX9_weighs 374 = .ok (.aload_n 0, 1) := by decide +kernel
theorem dX9_weighs_375 : decode cX9_weighs 375 = .ok (.iconst 5, 1) := by decide +kernel
theorem dX9_weighs_376 : decode cX9_weighs 376 = .ok (.iload 5, 2) := by decide +kernel
theorem dX9_weighs_378 : decode cX9_weighs 378 = .ok (.ifCond .eq 11, 3) := by decide +kernel
theorem dX9_weighs_381 : decode cX9_weighs 381 = .ok (.aload_n 0, 1) := by decide +kernel
theorem dX9_weighs_382 : decode cX9_weighs 382 = .ok (.iload_n 2, 1) := by decide +kernel
theorem dX9_weighs_383 : decode cX9_weighs 383 = .ok (.invokevirtual 138, 3) := by decide +kernel
theorem dX9_weighs_386 : decode cX9_weighs 386 = .ok (.goto 11, 3) := by decide +kernel
theorem dX9_weighs_389 : decode cX9_weighs 389 = .ok (.bipush 10, 2) := by decide +kernel
theorem dX9_weighs_391 : decode cX9_weighs 391 = .ok (.aload_n 0, 1) := by decide +kernel
theorem dX9_weighs_392 : decode cX9_weighs 392 = .ok (.iload_n 2, 1) := by decide +kernel
theorem dX9_weighs_393 : decode cX9_weighs 393 = .ok (.invokevirtual 138, 3) := by decide +kernel
theorem dX9_weighs_396 : decode cX9_weighs 396 = .ok (.isub, 1) := by decide +kernel
theorem dX9_weighs_397 : decode cX9_weighs 397 = .ok (.invokevirtual 266, 3) := by decide +kernel
theorem dX9_weighs_400 : decode cX9_weighs 400 = .ok (.iinc 2 1, 3) := by decide +kernel
theorem dX9_weighs_403 : decode cX9_weighs 403 = .ok (.goto (-136), 3) := by decide +kernel
theorem dX9_weighs_406 : decode cX9_weighs 406 = .ok (.iconst 0, 1) := by decide +kernel
theorem dX9_weighs_407 : decode cX9_weighs 407 = .ok (.istore_n 2, 1) := by decide +kernel
theorem dX9_weighs_408 : decode cX9_weighs 408 = .ok (.iload_n 2, 1) := by decide +kernel
theorem dX9_weighs_409 : decode cX9_weighs 409 = .ok (.aload_n 0, 1) := by decide +kernel
theorem dX9_weighs_410 : decode cX9_weighs 410 = .ok (.getfield 51, 3) := by decide +kernel
theorem dX9_weighs_413 : decode cX9_weighs 413 = .ok (.iconst 4, 1) := by decide +kernel
theorem dX9_weighs_414 : decode cX9_weighs 414 = .ok (.iaload, 1) := by decide +kernel
theorem dX9_weighs_415 : decode cX9_weighs 415 = .ok (.if_icmp .ge 97, 3) := by decide +kernel
theorem dX9_weighs_418 : decode cX9_weighs 418 = .ok (.bipush 100, 2) := by decide +kernel
theorem dX9_weighs_420 : decode cX9_weighs 420 = .ok (.iconst 3, 1) := by decide +kernel
theorem dX9_weighs_421 : decode cX9_weighs 421 = .ok (.iload_n 2, 1) := by decide +kernel
theorem dX9_weighs_422 : decode cX9_weighs 422 = .ok (.imul, 1) := by decide +kernel
theorem dX9_weighs_423 : decode cX9_weighs 423 = .ok (.iadd, 1) := by decide +kernel
theorem dX9_weighs_424 : decode cX9_weighs 424 = .ok (.istore_n 3, 1) := by decide +kernel
theorem dX9_weighs_425 : decode cX9_weighs 425 = .ok (.aload_n 0, 1) := by decide +kernel
theorem dX9_weighs_426 : decode cX9_weighs 426 = .ok (.getfield 73, 3) := by decide +kernel
theorem dX9_weighs_429 : decode cX9_weighs 429 = .ok (.aload_n 0, 1) := by decide +kernel
theorem dX9_weighs_430 : decode cX9_weighs 430 = .ok (.getfield 51, 3) := by decide +kernel
theorem dX9_weighs_433 : decode cX9_weighs 433 = .ok (.iload_n 3, 1) := by decide +kernel
theorem dX9_weighs_434 : decode cX9_weighs 434 = .ok (.iaload, 1) := by decide +kernel
theorem dX9_weighs_435 : decode cX9_weighs 435 = .ok (.iaload, 1) := by decide +kernel
theorem dX9_weighs_436 : decode cX9_weighs 436 = .ok (.aload_n 0, 1) := by decide +kernel
theorem dX9_weighs_437 : decode cX9_weighs 437 = .ok (.getfield 73, 3) := by decide +kernel
theorem dX9_weighs_440 : decode cX9_weighs 440 = .ok (.aload_n 0, 1) := by decide +kernel
theorem dX9_weighs_441 : decode cX9_weighs 441 = .ok (.getfield 51, 3) := by decide +kernel
theorem dX9_weighs_444 : decode cX9_weighs 444 = .ok (.iload_n 3, 1) := by decide +kernel
theorem dX9_weighs_445 : decode cX9_weighs 445 = .ok (.iconst 1, 1) := by decide +kernel
theorem dX9_weighs_446 : decode cX9_weighs 446 = .ok (.iadd, 1) := by decide +kernel
theorem dX9_weighs_447 : decode cX9_weighs 447 = .ok (.iaload, 1) := by decide +kernel
theorem dX9_weighs_448 : decode cX9_weighs 448 = .ok (.iaload, 1) := by decide +kernel
theorem dX9_weighs_449 : decode cX9_weighs 449 = .ok (.if_icmp .ne 22, 3) := by decide +kernel
theorem dX9_weighs_452 : decode cX9_weighs 452 = .ok (.aload_n 0, 1) := by decide +kernel
theorem dX9_weighs_453 : decode cX9_weighs 453 = .ok (.getfield 73, 3) := by decide +kernel
theorem dX9_weighs_456 : decode cX9_weighs 456 = .ok (.aload_n 0, 1) := by decide +kernel
theorem dX9_weighs_457 : decode cX9_weighs 457 = .ok (.getfield 51, 3) := by decide +kernel
theorem dX9_weighs_460 : decode cX9_weighs 460 = .ok (.iload_n 3, 1) := by decide +kernel
theorem dX9_weighs_461 : decode cX9_weighs 461 = .ok (.iaload, 1) := by decide +kernel
theorem dX9_weighs_462 : decode cX9_weighs 462 = .ok (.iaload, 1) := by decide +kernel
theorem dX9_weighs_463 : decode cX9_weighs 463 = .ok (.iconst 5, 1) := by decide +kernel
theorem dX9_weighs_464 : decode cX9_weighs 464 = .ok (.if_icmp .eq 7, 3) := by decide +kernel
theorem dX9_weighs_467 : decode cX9_weighs 467 = .ok (.iconst 1, 1) := by decide +kernel
theorem dX9_weighs_468 : decode cX9_weighs 468 = .ok (.goto 4, 3) := by decide +kernel
theorem dX9_weighs_471 : decode cX9_weighs 471 = .ok (.iconst 0, 1) := by decide +kernel
theorem dX9_weighs_472 : decode cX9_weighs 472 = .ok (.istore 4, 2) := by decide +kernel
theorem dX9_weighs_474 : decode cX9_weighs 474 = .ok (.aload_n 0, 1) := by decide +kernel
theorem dX9_weighs_475 : decode cX9_weighs 475 = .ok (.iconst 5, 1) := by decide +kernel
theorem dX9_weighs_476 : decode cX9_weighs 476 = .ok (.iload 4, 2) := by decide +kernel
theorem dX9_weighs_478 : decode cX9_weighs 478 = .ok (.ifCond .eq 14, 3) := by decide +kernel
theorem dX9_weighs_481 : decode cX9_weighs 481 = .ok (.aload_n 0, 1) := by decide +kernel
theorem dX9_weighs_482 : decode cX9_weighs 482 = .ok (.getfield 51, 3) := by decide +kernel
theorem dX9_weighs_485 : decode cX9_weighs 485 = .ok (.iload_n 3, 1) := by decide +kernel
theorem dX9_weighs_486 : decode cX9_weighs 486 = .ok (.iconst 2, 1) := by decide +kernel
theorem dX9_weighs_487 : decode cX9_weighs 487 = .ok (.iadd, 1) := by decide +kernel
theorem dX9_weighs_488 : decode cX9_weighs 488 = .ok (.iaload, 1) := by decide +kernel
theorem dX9_weighs_489 : decode cX9_weighs 489 = .ok (.goto 14, 3) := by decide +kernel
theorem dX9_weighs_492 : decode cX9_weighs 492 = .ok (.bipush 10, 2) := by decide +kernel
theorem dX9_weighs_494 : decode cX9_weighs 494 = .ok (.aload_n 0, 1) := by decide +kernel
theorem dX9_weighs_495 : decode cX9_weighs 495 = .ok (.getfield 51, 3) := by decide +kernel
theorem dX9_weighs_498 : decode cX9_weighs 498 = .ok (.iload_n 3, 1) := by decide +kernel
theorem dX9_weighs_499 : decode cX9_weighs 499 = .ok (.iconst 2, 1) := by decide +kernel
theorem dX9_weighs_500 : decode cX9_weighs 500 = .ok (.iadd, 1) := by decide +kernel
theorem dX9_weighs_501 : decode cX9_weighs 501 = .ok (.iaload, 1) := by decide +kernel
theorem dX9_weighs_502 : decode cX9_weighs 502 = .ok (.isub, 1) := by decide +kernel
theorem dX9_weighs_503 : decode cX9_weighs 503 = .ok (.invokevirtual 266, 3) := by decide +kernel
theorem dX9_weighs_506 : decode cX9_weighs 506 = .ok (.iinc 2 1, 3) := by decide +kernel
theorem dX9_weighs_509 : decode cX9_weighs 509 = .ok (.goto (-101), 3) := by decide +kernel
theorem dX9_weighs_512 : decode cX9_weighs 512 = .ok (.aload_n 0, 1) := by decide +kernel
theorem dX9_weighs_513 : decode cX9_weighs 513 = .ok (.getfield 3, 3) := by decide +kernel
theorem dX9_weighs_516 : decode cX9_weighs 516 = .ok (.iconst 5, 1) := by decide +kernel
theorem dX9_weighs_517 : decode cX9_weighs 517 = .ok (.iaload, 1) := by decide +kernel
theorem dX9_weighs_518 : decode cX9_weighs 518 = .ok (.ifCond .le 7, 3) := by decide +kernel
theorem dX9_weighs_521 : decode cX9_weighs 521 = .ok (.iconst 1, 1) := by decide +kernel
theorem dX9_weighs_522 : decode cX9_weighs 522 = .ok (.goto 4, 3) := by decide +kernel
theorem dX9_weighs_525 : decode cX9_weighs 525 = .ok (.iconst 0, 1) := by decide +kernel
theorem dX9_weighs_526 : decode cX9_weighs 526 = .ok (.ireturn, 1) := by decide +kernel
theorem me_X9_weighs : cx_Mv yX9_weighs cX9_weighs 8 (some .boolean) 1 := ⟨⟨⟨by decide +kernel, by decide +kernel, by decide +kernel⟩, hw_11, hw_1299⟩, hw_1298, hs_57⟩
noncomputable def f_X9_weighs_J503 (a_20 : Nat → Int32) (a_21 : Nat → Int32) (x2_23 : Int32) (rc408 : (Nat → Int32) → (Nat → Int32) → Int32 → Option (Int32 × (Nat → Int32) × (Nat → Int32) × (Nat → Int32))) (s1_38 : Int32) (s2_39 : Int32) : Option (Int32 × (Nat → Int32) × (Nat → Int32) × (Nat → Int32)) := Option.bind (f_X9_times a_20 a_21 s1_38 s2_39) (fun u40 => rc408 u40.1 u40.2 (x2_23 + 1))
noncomputable def f_X9_weighs_J472 (m_book : Nat → Int32) (a_20 : Nat → Int32) (a_21 : Nat → Int32) (x2_23 : Int32) (rc408 : (Nat → Int32) → (Nat → Int32) → Int32 → Option (Int32 × (Nat → Int32) × (Nat → Int32) × (Nat → Int32))) (x3_34 : Int32) (s0_35 : Int32) : Option (Int32 × (Nat → Int32) × (Nat → Int32) × (Nat → Int32)) := if s0_35 = 0 then (cx_gd (cx_ib (x3_34 + 2) 140) (f_X9_weighs_J503 a_20 a_21 x2_23 rc408 5 (10 - (m_book (cx_ix (x3_34 + 2)))))) else (cx_gd (cx_ib (x3_34 + 2) 140) (f_X9_weighs_J503 a_20 a_21 x2_23 rc408 5 (m_book (cx_ix (x3_34 + 2)))))
noncomputable def f_X9_weighs_J471 (m_book : Nat → Int32) (a_20 : Nat → Int32) (a_21 : Nat → Int32) (x2_23 : Int32) (rc408 : (Nat → Int32) → (Nat → Int32) → Int32 → Option (Int32 × (Nat → Int32) × (Nat → Int32) × (Nat → Int32))) (x3_33 : Int32) : Option (Int32 × (Nat → Int32) × (Nat → Int32) × (Nat → Int32)) := f_X9_weighs_J472 m_book a_20 a_21 x2_23 rc408 x3_33 0
noncomputable def f_X9_weighs_L408 (m_book : Nat → Int32) (a_22 : Nat → Int32) (rc408 : (Nat → Int32) → (Nat → Int32) → Int32 → Option (Int32 × (Nat → Int32) × (Nat → Int32) × (Nat → Int32))) (a_20 : Nat → Int32) (a_21 : Nat → Int32) (x2_23 : Int32) : Option (Int32 × (Nat → Int32) × (Nat → Int32) × (Nat → Int32)) := cx_gd (cx_ib 4 140) (if (m_book (cx_ix 4)) ≤ x2_23 then (cx_gd (cx_ib 5 270) (if (a_21 (cx_ix 5)) ≤ 0 then (some ((0, a_20, a_21, a_22))) else (some ((1, a_20, a_21, a_22))))) else (cx_gd (cx_ib (100 + (3 * x2_23)) 140) (cx_gd (cx_ib (m_book (cx_ix (100 + (3 * x2_23)))) 6) (cx_gd (cx_ib ((100 + (3 * x2_23)) + 1) 140) (cx_gd (cx_ib (m_book (cx_ix ((100 + (3 * x2_23)) + 1))) 6) (if (a_22 (cx_ix (m_book (cx_ix (100 + (3 * x2_23)))))) = (a_22 (cx_ix (m_book (cx_ix ((100 + (3 * x2_23)) + 1))))) then (cx_gd (cx_ib (100 + (3 * x2_23)) 140) (cx_gd (cx_ib (m_book (cx_ix (100 + (3 * x2_23)))) 6) (if (a_22 (cx_ix (m_book (cx_ix (100 + (3 * x2_23)))))) = 5 then (f_X9_weighs_J471 m_book a_20 a_21 x2_23 rc408 (100 + (3 * x2_23))) else (f_X9_weighs_J472 m_book a_20 a_21 x2_23 rc408 (100 + (3 * x2_23)) 1)))) else (f_X9_weighs_J471 m_book a_20 a_21 x2_23 rc408 (100 + (3 * x2_23)))))))))
noncomputable def f_X9_weighs_L408w (m_book : Nat → Int32) (a_22 : Nat → Int32) (n : Nat) : (Nat → Int32) → (Nat → Int32) → Int32 → Option (Int32 × (Nat → Int32) × (Nat → Int32) × (Nat → Int32)) := Nat.rec (fun _ _ _ => none) (fun _ r => f_X9_weighs_L408 m_book a_22 r) n
noncomputable def f_X9_weighs_J400 (x2_17 : Int32) (rc267 : (Nat → Int32) → (Nat → Int32) → Int32 → Option (Int32 × (Nat → Int32) × (Nat → Int32) × (Nat → Int32))) (a_55 : Nat → Int32) (a_56 : Nat → Int32) : Option (Int32 × (Nat → Int32) × (Nat → Int32) × (Nat → Int32)) := rc267 a_55 a_56 (x2_17 + 1)
noncomputable def f_X9_weighs_J397 (a_14 : Nat → Int32) (a_15 : Nat → Int32) (x2_17 : Int32) (rc267 : (Nat → Int32) → (Nat → Int32) → Int32 → Option (Int32 × (Nat → Int32) × (Nat → Int32) × (Nat → Int32))) (s1_60 : Int32) (s2_61 : Int32) : Option (Int32 × (Nat → Int32) × (Nat → Int32) × (Nat → Int32)) := Option.bind (f_X9_times a_14 a_15 s1_60 s2_61) (fun u62 => f_X9_weighs_J400 x2_17 rc267 u62.1 u62.2)
noncomputable def f_X9_weighs_J364 (m_book : Nat → Int32) (m_without : Int32) (a_14 : Nat → Int32) (a_15 : Nat → Int32) (x2_17 : Int32) (rc267 : (Nat → Int32) → (Nat → Int32) → Int32 → Option (Int32 × (Nat → Int32) × (Nat → Int32) × (Nat → Int32))) (s0_53 : Int32) : Option (Int32 × (Nat → Int32) × (Nat → Int32) × (Nat → Int32)) := if x2_17 = m_without then (f_X9_weighs_J400 x2_17 rc267 a_14 a_15) else (if s0_53 = 0 then (Option.bind (f_X9_truthOf m_book x2_17) (fun u58 => f_X9_weighs_J397 a_14 a_15 x2_17 rc267 5 (10 - u58))) else (Option.bind (f_X9_truthOf m_book x2_17) (fun u64 => f_X9_weighs_J397 a_14 a_15 x2_17 rc267 5 u64)))
noncomputable def f_X9_weighs_J359 (m_book : Nat → Int32) (m_without : Int32) (a_14 : Nat → Int32) (a_15 : Nat → Int32) (x2_17 : Int32) (rc267 : (Nat → Int32) → (Nat → Int32) → Int32 → Option (Int32 × (Nat → Int32) × (Nat → Int32) × (Nat → Int32))) : Option (Int32 × (Nat → Int32) × (Nat → Int32) × (Nat → Int32)) := f_X9_weighs_J364 m_book m_without a_14 a_15 x2_17 rc267 1
noncomputable def f_X9_weighs_J363 (m_book : Nat → Int32) (m_without : Int32) (a_14 : Nat → Int32) (a_15 : Nat → Int32) (x2_17 : Int32) (rc267 : (Nat → Int32) → (Nat → Int32) → Int32 → Option (Int32 × (Nat → Int32) × (Nat → Int32) × (Nat → Int32))) : Option (Int32 × (Nat → Int32) × (Nat → Int32) × (Nat → Int32)) := f_X9_weighs_J364 m_book m_without a_14 a_15 x2_17 rc267 0
noncomputable def f_X9_weighs_L267 (m_book : Nat → Int32) (m_without : Int32) (a_16 : Nat → Int32) (rc267 : (Nat → Int32) → (Nat → Int32) → Int32 → Option (Int32 × (Nat → Int32) × (Nat → Int32) × (Nat → Int32))) (a_14 : Nat → Int32) (a_15 : Nat → Int32) (x2_17 : Int32) : Option (Int32 × (Nat → Int32) × (Nat → Int32) × (Nat → Int32)) := cx_gd (cx_ib 3 140) (if (m_book (cx_ix 3)) ≤ x2_17 then (f_X9_weighs_L408w m_book a_16 cx_N0 a_14 a_15 0) else (cx_gd (cx_ib ((80 + (4 * x2_17)) + 1) 140) (cx_gd (cx_ib (m_book (cx_ix ((80 + (4 * x2_17)) + 1))) 6) (cx_let (a_16 (cx_ix (m_book (cx_ix ((80 + (4 * x2_17)) + 1))))) (fun v48 => cx_gd (cx_ib (80 + (4 * x2_17)) 140) (if (m_book (cx_ix (80 + (4 * x2_17)))) = 4 then (if v48 = 5 then (f_X9_weighs_J364 m_book m_without a_14 a_15 x2_17 rc267 1) else (f_X9_weighs_J364 m_book m_without a_14 a_15 x2_17 rc267 0)) else (cx_gd (cx_ib ((80 + (4 * x2_17)) + 2) 140) (if v48 = (m_book (cx_ix ((80 + (4 * x2_17)) + 2))) then (f_X9_weighs_J359 m_book m_without a_14 a_15 x2_17 rc267) else (cx_gd (cx_ib (80 + (4 * x2_17)) 140) (if (m_book (cx_ix (80 + (4 * x2_17)))) = 3 then (cx_gd (cx_ib ((80 + (4 * x2_17)) + 3) 140) (if v48 = (m_book (cx_ix ((80 + (4 * x2_17)) + 3))) then (f_X9_weighs_J359 m_book m_without a_14 a_15 x2_17 rc267) else (f_X9_weighs_J363 m_book m_without a_14 a_15 x2_17 rc267))) else (f_X9_weighs_J363 m_book m_without a_14 a_15 x2_17 rc267)))))))))))
noncomputable def f_X9_weighs_L267w (m_book : Nat → Int32) (m_without : Int32) (a_16 : Nat → Int32) (n : Nat) : (Nat → Int32) → (Nat → Int32) → Int32 → Option (Int32 × (Nat → Int32) × (Nat → Int32) × (Nat → Int32)) := Nat.rec (fun _ _ _ => none) (fun _ r => f_X9_weighs_L267 m_book m_without a_16 r) n
noncomputable def f_X9_weighs_J245 (a_8 : Nat → Int32) (a_9 : Nat → Int32) (a_10 : Nat → Int32) (x2_11 : Int32) (rc22 : (Nat → Int32) → (Nat → Int32) → Int32 → Option (Int32 × (Nat → Int32) × (Nat → Int32) × (Nat → Int32))) (x3_78 : Int64) : Option (Int32 × (Nat → Int32) × (Nat → Int32) × (Nat → Int32)) := if (lg_cmp x3_78 0) = 0 then (some ((0, a_8, a_9, a_10))) else (Option.bind (f_X9_timesLong a_8 a_9 5 x3_78) (fun u80 => rc22 u80.1 u80.2 (x2_11 + 1)))
noncomputable def f_X9_weighs_J100 (x3_73 : Int64) (x5_74 : Int32) (rc61 : Int64 → Int32 → Option (Int32 × (Nat → Int32) × (Nat → Int32) × (Nat → Int32))) (s1_85 : Int64) : Option (Int32 × (Nat → Int32) × (Nat → Int32) × (Nat → Int32)) := rc61 (x3_73 + s1_85) (x5_74 + 1)
noncomputable def f_X9_weighs_J89 (m_book : Nat → Int32) (m_likes : Nat → Int32) (a_10 : Nat → Int32) (x2_11 : Int32) (x3_73 : Int64) (x5_74 : Int32) (rc61 : Int64 → Int32 → Option (Int32 × (Nat → Int32) × (Nat → Int32) × (Nat → Int32))) : Option (Int32 × (Nat → Int32) × (Nat → Int32) × (Nat → Int32)) := Option.bind (f_X9_termOf m_book a_10 m_likes x2_11 x5_74) (fun u83 => f_X9_weighs_J100 x3_73 x5_74 rc61 u83)
noncomputable def f_X9_weighs_L61 (m_book : Nat → Int32) (m_likes : Nat → Int32) (m_onePicture : Int32) (m_oneYear : Int32) (a_8 : Nat → Int32) (a_9 : Nat → Int32) (a_10 : Nat → Int32) (x2_11 : Int32) (rc22 : (Nat → Int32) → (Nat → Int32) → Int32 → Option (Int32 × (Nat → Int32) × (Nat → Int32) × (Nat → Int32))) (rc61 : Int64 → Int32 → Option (Int32 × (Nat → Int32) × (Nat → Int32) × (Nat → Int32))) (x3_73 : Int64) (x5_74 : Int32) : Option (Int32 × (Nat → Int32) × (Nat → Int32) × (Nat → Int32)) := Option.bind (f_X9_years m_book x2_11) (fun u75 => if u75 ≤ x5_74 then (f_X9_weighs_J245 a_8 a_9 a_10 x2_11 rc22 x3_73) else (if x2_11 = m_onePicture then (if x5_74 = m_oneYear then (f_X9_weighs_J89 m_book m_likes a_10 x2_11 x3_73 x5_74 rc61) else (f_X9_weighs_J100 x3_73 x5_74 rc61 0)) else (f_X9_weighs_J89 m_book m_likes a_10 x2_11 x3_73 x5_74 rc61)))
noncomputable def f_X9_weighs_L61w (m_book : Nat → Int32) (m_likes : Nat → Int32) (m_onePicture : Int32) (m_oneYear : Int32) (a_8 : Nat → Int32) (a_9 : Nat → Int32) (a_10 : Nat → Int32) (x2_11 : Int32) (rc22 : (Nat → Int32) → (Nat → Int32) → Int32 → Option (Int32 × (Nat → Int32) × (Nat → Int32) × (Nat → Int32))) (n : Nat) : Int64 → Int32 → Option (Int32 × (Nat → Int32) × (Nat → Int32) × (Nat → Int32)) := Nat.rec (fun _ _ => none) (fun _ r => f_X9_weighs_L61 m_book m_likes m_onePicture m_oneYear a_8 a_9 a_10 x2_11 rc22 r) n
noncomputable def f_X9_weighs_J58 (m_book : Nat → Int32) (m_likes : Nat → Int32) (m_onePicture : Int32) (m_oneYear : Int32) (a_8 : Nat → Int32) (a_9 : Nat → Int32) (a_10 : Nat → Int32) (x2_11 : Int32) (rc22 : (Nat → Int32) → (Nat → Int32) → Int32 → Option (Int32 × (Nat → Int32) × (Nat → Int32) × (Nat → Int32))) (x3_72 : Int64) : Option (Int32 × (Nat → Int32) × (Nat → Int32) × (Nat → Int32)) := f_X9_weighs_L61w m_book m_likes m_onePicture m_oneYear a_8 a_9 a_10 x2_11 rc22 cx_N0 x3_72 0
noncomputable def f_X9_weighs_J226 (x3_95 : Int64) (x6_96 : Int32) (rc138 : Int64 → Int32 → Option (Int32 × (Nat → Int32) × (Nat → Int32) × (Nat → Int32))) (s1_105 : Int64) : Option (Int32 × (Nat → Int32) × (Nat → Int32) × (Nat → Int32)) := rc138 (x3_95 + s1_105) (x6_96 + 1)
noncomputable def f_X9_weighs_J193 (m_book : Nat → Int32) (m_likes : Nat → Int32) (m_first : Int32) (m_second : Int32) (a_10 : Nat → Int32) (x5_91 : Int32) (x3_95 : Int64) (x6_96 : Int32) (rc138 : Int64 → Int32 → Option (Int32 × (Nat → Int32) × (Nat → Int32) × (Nat → Int32))) (s0_103 : Int32) : Option (Int32 × (Nat → Int32) × (Nat → Int32) × (Nat → Int32)) := if s0_103 = 0 then (f_X9_weighs_J226 x3_95 x6_96 rc138 0) else (Option.bind (f_X9_termOf m_book a_10 m_likes m_first x5_91) (fun u106 => Option.bind (f_X9_termOf m_book a_10 m_likes m_second x6_96) (fun u108 => f_X9_weighs_J226 x3_95 x6_96 rc138 (u106 * u108))))
noncomputable def f_X9_weighs_L138 (m_book : Nat → Int32) (m_likes : Nat → Int32) (m_first : Int32) (m_second : Int32) (a_10 : Nat → Int32) (x5_91 : Int32) (rc122 : Int64 → Int32 → Option (Int32 × (Nat → Int32) × (Nat → Int32) × (Nat → Int32))) (rc138 : Int64 → Int32 → Option (Int32 × (Nat → Int32) × (Nat → Int32) × (Nat → Int32))) (x3_95 : Int64) (x6_96 : Int32) : Option (Int32 × (Nat → Int32) × (Nat → Int32) × (Nat → Int32)) := Option.bind (f_X9_years m_book m_second) (fun u97 => if u97 ≤ x6_96 then (rc122 x3_95 (x5_91 + 1)) else (cx_gd (cx_ib (40 + (2 * m_first)) 140) (cx_gd (cx_ib (40 + (2 * m_second)) 140) (if ((m_book (cx_ix (40 + (2 * m_second)))) + x6_96) ≤ ((m_book (cx_ix (40 + (2 * m_first)))) + x5_91) then (f_X9_weighs_J193 m_book m_likes m_first m_second a_10 x5_91 x3_95 x6_96 rc138 0) else (f_X9_weighs_J193 m_book m_likes m_first m_second a_10 x5_91 x3_95 x6_96 rc138 1)))))
noncomputable def f_X9_weighs_L138w (m_book : Nat → Int32) (m_likes : Nat → Int32) (m_first : Int32) (m_second : Int32) (a_10 : Nat → Int32) (x5_91 : Int32) (rc122 : Int64 → Int32 → Option (Int32 × (Nat → Int32) × (Nat → Int32) × (Nat → Int32))) (n : Nat) : Int64 → Int32 → Option (Int32 × (Nat → Int32) × (Nat → Int32) × (Nat → Int32)) := Nat.rec (fun _ _ => none) (fun _ r => f_X9_weighs_L138 m_book m_likes m_first m_second a_10 x5_91 rc122 r) n
noncomputable def f_X9_weighs_L122 (m_book : Nat → Int32) (m_likes : Nat → Int32) (m_first : Int32) (m_second : Int32) (a_8 : Nat → Int32) (a_9 : Nat → Int32) (a_10 : Nat → Int32) (x2_11 : Int32) (rc22 : (Nat → Int32) → (Nat → Int32) → Int32 → Option (Int32 × (Nat → Int32) × (Nat → Int32) × (Nat → Int32))) (rc122 : Int64 → Int32 → Option (Int32 × (Nat → Int32) × (Nat → Int32) × (Nat → Int32))) (x3_90 : Int64) (x5_91 : Int32) : Option (Int32 × (Nat → Int32) × (Nat → Int32) × (Nat → Int32)) := Option.bind (f_X9_years m_book m_first) (fun u92 => if u92 ≤ x5_91 then (f_X9_weighs_J245 a_8 a_9 a_10 x2_11 rc22 x3_90) else (f_X9_weighs_L138w m_book m_likes m_first m_second a_10 x5_91 rc122 cx_N0 x3_90 0))
noncomputable def f_X9_weighs_L122w (m_book : Nat → Int32) (m_likes : Nat → Int32) (m_first : Int32) (m_second : Int32) (a_8 : Nat → Int32) (a_9 : Nat → Int32) (a_10 : Nat → Int32) (x2_11 : Int32) (rc22 : (Nat → Int32) → (Nat → Int32) → Int32 → Option (Int32 × (Nat → Int32) × (Nat → Int32) × (Nat → Int32))) (n : Nat) : Int64 → Int32 → Option (Int32 × (Nat → Int32) × (Nat → Int32) × (Nat → Int32)) := Nat.rec (fun _ _ => none) (fun _ r => f_X9_weighs_L122 m_book m_likes m_first m_second a_8 a_9 a_10 x2_11 rc22 r) n
noncomputable def f_X9_weighs_J111 (m_book : Nat → Int32) (m_likes : Nat → Int32) (m_first : Int32) (m_second : Int32) (a_8 : Nat → Int32) (a_9 : Nat → Int32) (a_10 : Nat → Int32) (x2_11 : Int32) (rc22 : (Nat → Int32) → (Nat → Int32) → Int32 → Option (Int32 × (Nat → Int32) × (Nat → Int32) × (Nat → Int32))) (x3_88 : Int64) : Option (Int32 × (Nat → Int32) × (Nat → Int32) × (Nat → Int32)) := if x2_11 = m_first then (f_X9_weighs_L122w m_book m_likes m_first m_second a_8 a_9 a_10 x2_11 rc22 cx_N0 x3_88 0) else (f_X9_weighs_J245 a_8 a_9 a_10 x2_11 rc22 1)
noncomputable def f_X9_weighs_L22 (m_book : Nat → Int32) (m_likes : Nat → Int32) (m_without : Int32) (m_onePicture : Int32) (m_oneYear : Int32) (m_first : Int32) (m_second : Int32) (a_10 : Nat → Int32) (rc22 : (Nat → Int32) → (Nat → Int32) → Int32 → Option (Int32 × (Nat → Int32) × (Nat → Int32) × (Nat → Int32))) (a_8 : Nat → Int32) (a_9 : Nat → Int32) (x2_11 : Int32) : Option (Int32 × (Nat → Int32) × (Nat → Int32) × (Nat → Int32)) := cx_gd (cx_ib 1 140) (if (m_book (cx_ix 1)) ≤ x2_11 then (f_X9_weighs_L267w m_book m_without a_10 cx_N0 a_8 a_9 0) else (if m_first = ((-1)) then (f_X9_weighs_J58 m_book m_likes m_onePicture m_oneYear a_8 a_9 a_10 x2_11 rc22 0) else (if x2_11 = m_first then (f_X9_weighs_J111 m_book m_likes m_first m_second a_8 a_9 a_10 x2_11 rc22 0) else (if x2_11 = m_second then (f_X9_weighs_J111 m_book m_likes m_first m_second a_8 a_9 a_10 x2_11 rc22 0) else (f_X9_weighs_J58 m_book m_likes m_onePicture m_oneYear a_8 a_9 a_10 x2_11 rc22 0)))))
noncomputable def f_X9_weighs_L22w (m_book : Nat → Int32) (m_likes : Nat → Int32) (m_without : Int32) (m_onePicture : Int32) (m_oneYear : Int32) (m_first : Int32) (m_second : Int32) (a_10 : Nat → Int32) (n : Nat) : (Nat → Int32) → (Nat → Int32) → Int32 → Option (Int32 × (Nat → Int32) × (Nat → Int32) × (Nat → Int32)) := Nat.rec (fun _ _ _ => none) (fun _ r => f_X9_weighs_L22 m_book m_likes m_without m_onePicture m_oneYear m_first m_second a_10 r) n
noncomputable def f_X9_weighs (m_limbs : Nat → Int32) (m_wide : Nat → Int32) (m_book : Nat → Int32) (m_is : Nat → Int32) (m_likes : Nat → Int32) (m_without : Int32) (m_onePicture : Int32) (m_oneYear : Int32) (m_first : Int32) (m_second : Int32) (p1 : Int32) : Option (Int32 × (Nat → Int32) × (Nat → Int32) × (Nat → Int32)) := Option.bind (f_X9_picks m_book m_is p1) (fun u1 => Option.bind (f_X9_isTwice m_book u1) (fun u3 => if u3 = 0 then (Option.bind (f_X9_sets m_limbs m_wide 5 1) (fun u6 => f_X9_weighs_L22w m_book m_likes m_without m_onePicture m_oneYear m_first m_second u1 cx_N0 u6.1 u6.2 0)) else (some ((0, m_limbs, m_wide, u1)))))
set_option maxHeartbeats 4000000 in
set_option maxRecDepth 100000 in
theorem c_X9_weighs (l : Launch) (D : va_G) (k : Nat → ClassId) (m_a : Nat → Nat) (m_limbs : Nat → Int32) (m_wide : Nat → Int32) (m_book : Nat → Int32) (m_images : Nat → Int32) (m_kept : Nat → Int32) (m_before : Nat → Int32) (m_refused : Nat → Int32) (m_quiet : Int32) (m_text : Nat → Int32) (m_typed : Int32) (m_at : Int32) (m_start : Int32) (m_token : Int32) (m_value : Int32) (m_items : Nat → Int32) (m_many : Int32) (m_is : Nat → Int32) (m_likes : Nat → Int32) (m_without : Int32) (m_onePicture : Int32) (m_oneYear : Int32) (m_first : Int32) (m_second : Int32) (m_names : Nat → Int32) (p1 : Int32) (y : Int32 × (Nat → Int32) × (Nat → Int32) × (Nat → Int32)) (hf : f_X9_weighs m_limbs m_wide m_book m_is m_likes m_without m_onePicture m_oneYear m_first m_second p1 = some y) : cx_M l yX9_weighs cX9_weighs 8 (some .boolean) 5 D k [.ref (m_a 0), .int p1] (wd_Model k m_a m_limbs m_wide m_book m_images m_kept m_before m_refused m_quiet m_text m_typed m_at m_start m_token m_value m_items m_many m_is m_likes m_without m_onePicture m_oneYear m_first m_second m_names) (fun sz => cx_Qi D y.1 (wd_Model k m_a m_limbs m_wide m_book m_images m_kept m_before m_refused m_quiet m_text m_typed m_at m_start m_token m_value m_items m_many m_is m_likes m_without m_onePicture m_oneYear m_first m_second m_names) (wd_Model k m_a y.2.1 y.2.2.1 m_book m_images m_kept m_before m_refused m_quiet m_text m_typed m_at m_start m_token m_value m_items m_many y.2.2.2 m_likes m_without m_onePicture m_oneYear m_first m_second m_names) sz) := by
  refine cx_met (own := "NamelessBoxModel") (by decide) rfl (Nat.le_of_ble_eq_true rfl) ?_
  intro p e s m args below meth c A Q C hA hQ hr hlk
  refine cx_lv (lv' := [(0, .ref (m_a 0)), (1, .int p1)]) [0, 1] rfl ?_
  have L408 : ∀ (a_22 : Nat → Int32) (n408 : Nat) (a_20 : Nat → Int32) (a_21 : Nat → Int32) (x2_23 : Int32), f_X9_weighs_L408w m_book a_22 n408 a_20 a_21 x2_23 = some y → cx_S p l e (cx_rm 5) s m args below meth c A D 8 0 0 Q 408 [(0, .ref (m_a 0)), (2, .int x2_23)] [] (wd_Model k m_a a_20 a_21 m_book m_images m_kept m_before m_refused m_quiet m_text m_typed m_at m_start m_token m_value m_items m_many a_22 m_likes m_without m_onePicture m_oneYear m_first m_second m_names) := by
    intro a_22 n408
    induction n408 with
    | zero =>
      intro a_20 a_21 x2_23 hf
      exact absurd (show (none : Option (Int32 × (Nat → Int32) × (Nat → Int32) × (Nat → Int32))) = some y from hf) (fun h => by cases h)
    | succ n408 ih408 =>
      intro a_20 a_21 x2_23 hf
      have hf : f_X9_weighs_L408 m_book a_22 (f_X9_weighs_L408w m_book a_22 n408) a_20 a_21 x2_23 = some y := hf
      have J503 : ∀ (s1_38 : Int32) (s2_39 : Int32), f_X9_weighs_J503 a_20 a_21 x2_23 (f_X9_weighs_L408w m_book a_22 n408) s1_38 s2_39 = some y → cx_S p l e (cx_rm 5) s m args below meth c A D 8 0 0 Q 503 [(0, .ref (m_a 0)), (2, .int x2_23)] [.int s2_39, .int s1_38, .ref (m_a 0)] (wd_Model k m_a a_20 a_21 m_book m_images m_kept m_before m_refused m_quiet m_text m_typed m_at m_start m_token m_value m_items m_many a_22 m_likes m_without m_onePicture m_oneYear m_first m_second m_names) := by
        intro s1_38 s2_39 hf
        unfold f_X9_weighs_J503 at hf
        obtain ⟨u40, e41, hf⟩ := cx_bd_at hf
        refine cx_Fvv (q := (RX9, TX9, 24)) (As := [.int s1_38, .int s2_39]) (rest := []) (w1 := (wd_Model k m_a u40.1 u40.2 m_book m_images m_kept m_before m_refused m_quiet m_text m_typed m_at m_start m_token m_value m_items m_many a_22 m_likes m_without m_onePicture m_oneYear m_first m_second m_names)) hA C me_X9_times hw_1328 (c_X9_times l D k m_a a_20 a_21 m_book m_images m_kept m_before m_refused m_quiet m_text m_typed m_at m_start m_token m_value m_items m_many a_22 m_likes m_without m_onePicture m_oneYear m_first m_second m_names s1_38 s2_39 u40 e41) dX9_weighs_503 ⟨Nat.le_of_ble_eq_true rfl, Nat.le_of_ble_eq_true rfl⟩ ⟨Nat.zero_le _, Nat.zero_le _⟩ rfl rfl (Nat.le_of_ble_eq_true rfl) rfl rfl rfl ?_
        clear e41
        refine cx_iinc (v := x2_23 + 1) (lv' := [(2, .int (x2_23 + 1)), (0, .ref (m_a 0))]) C dX9_weighs_506 1 rfl rfl (by decide) rfl ?_
        refine cx_goto (tgt := 408) C dX9_weighs_509 (by decide) ?_
        refine cx_lv [1, 0] rfl ?_
        exact ih408 u40.1 u40.2 (x2_23 + 1) hf
      have J472 : ∀ (x3_34 : Int32) (s0_35 : Int32), f_X9_weighs_J472 m_book a_20 a_21 x2_23 (f_X9_weighs_L408w m_book a_22 n408) x3_34 s0_35 = some y → cx_S p l e (cx_rm 5) s m args below meth c A D 8 0 0 Q 472 [(0, .ref (m_a 0)), (2, .int x2_23), (3, .int x3_34)] [.int s0_35] (wd_Model k m_a a_20 a_21 m_book m_images m_kept m_before m_refused m_quiet m_text m_typed m_at m_start m_token m_value m_items m_many a_22 m_likes m_without m_onePicture m_oneYear m_first m_second m_names) := by
        intro x3_34 s0_35 hf
        unfold f_X9_weighs_J472 at hf
        refine cx_istore (lv' := [(4, .int s0_35), (0, .ref (m_a 0)), (2, .int x2_23), (3, .int x3_34)]) C dX9_weighs_472 (by decide) rfl ?_
        refine cx_aload_n C dX9_weighs_474 1 rfl ?_
        refine cx_iconst (v := 5) C dX9_weighs_475 (by decide) ?_
        refine cx_iload C dX9_weighs_476 0 rfl ?_
        refine cx_if_eq (tgt := 492) C dX9_weighs_478 (by decide) (fun c36 => ?_) (fun c36 => ?_)
        · have hf := cx_if_t hf c36
          clear c36
          refine cx_bipush (v := 10) C dX9_weighs_492 (by decide) ?_
          refine cx_aload_n C dX9_weighs_494 1 rfl ?_
          refine cx_get (v := .ref (m_a 3)) (ci := 8) C iX9 dX9_weighs_495 0 rfl rfl 2 (by decide) hw_1056 rfl ?_
          refine cx_iload_n C dX9_weighs_498 3 rfl ?_
          refine cx_iconst (v := 2) C dX9_weighs_499 (by decide) ?_
          refine cx_iadd C dX9_weighs_500 ?_
          obtain ⟨g37, hf⟩ := cx_gd_at hf
          refine cx_iald C dX9_weighs_501 3 rfl (cx_ib_in g37) ?_
          clear g37
          refine cx_isub C dX9_weighs_502 ?_
          refine cx_lv [1, 2] rfl ?_
          exact J503 5 (10 - (m_book (cx_ix (x3_34 + 2)))) hf
        · have hf := cx_if_f hf c36
          clear c36
          refine cx_aload_n C dX9_weighs_481 1 rfl ?_
          refine cx_get (v := .ref (m_a 3)) (ci := 8) C iX9 dX9_weighs_482 0 rfl rfl 2 (by decide) hw_1056 rfl ?_
          refine cx_iload_n C dX9_weighs_485 3 rfl ?_
          refine cx_iconst (v := 2) C dX9_weighs_486 (by decide) ?_
          refine cx_iadd C dX9_weighs_487 ?_
          obtain ⟨g42, hf⟩ := cx_gd_at hf
          refine cx_iald C dX9_weighs_488 3 rfl (cx_ib_in g42) ?_
          clear g42
          refine cx_goto (tgt := 503) C dX9_weighs_489 (by decide) ?_
          refine cx_lv [1, 2] rfl ?_
          exact J503 5 (m_book (cx_ix (x3_34 + 2))) hf
      have J471 : ∀ (x3_33 : Int32), f_X9_weighs_J471 m_book a_20 a_21 x2_23 (f_X9_weighs_L408w m_book a_22 n408) x3_33 = some y → cx_S p l e (cx_rm 5) s m args below meth c A D 8 0 0 Q 471 [(0, .ref (m_a 0)), (2, .int x2_23), (3, .int x3_33)] [] (wd_Model k m_a a_20 a_21 m_book m_images m_kept m_before m_refused m_quiet m_text m_typed m_at m_start m_token m_value m_items m_many a_22 m_likes m_without m_onePicture m_oneYear m_first m_second m_names) := by
        intro x3_33 hf
        unfold f_X9_weighs_J471 at hf
        refine cx_iconst (v := 0) C dX9_weighs_471 (by decide) ?_
        exact J472 x3_33 0 hf
      unfold f_X9_weighs_L408 at hf
      refine cx_iload_n C dX9_weighs_408 1 rfl ?_
      refine cx_aload_n C dX9_weighs_409 0 rfl ?_
      refine cx_get (v := .ref (m_a 3)) (ci := 8) C iX9 dX9_weighs_410 0 rfl rfl 2 (by decide) hw_1056 rfl ?_
      refine cx_iconst (v := 4) C dX9_weighs_413 (by decide) ?_
      obtain ⟨g24, hf⟩ := cx_gd_at hf
      refine cx_iald C dX9_weighs_414 3 rfl (cx_ib_in g24) ?_
      clear g24
      refine cx_icmp_ge (tgt := 512) C dX9_weighs_415 (by decide) (fun c25 => ?_) (fun c25 => ?_)
      · have hf := cx_if_t hf c25
        clear c25
        refine cx_aload_n C dX9_weighs_512 0 rfl ?_
        refine cx_get (v := .ref (m_a 2)) (ci := 8) C iX9 dX9_weighs_513 0 rfl rfl 1 (by decide) hw_1055 rfl ?_
        refine cx_iconst (v := 5) C dX9_weighs_516 (by decide) ?_
        obtain ⟨g26, hf⟩ := cx_gd_at hf
        refine cx_iald C dX9_weighs_517 2 rfl (cx_ib_in g26) ?_
        clear g26
        refine cx_if_le (tgt := 525) C dX9_weighs_518 (by decide) (fun c27 => ?_) (fun c27 => ?_)
        · have hf := cx_if_t hf c27
          clear c27
          refine cx_iconst (v := 0) C dX9_weighs_525 (by decide) ?_
          obtain rfl := Option.some.inj hf
          exact cx_zret C hA hQ hr hlk dX9_weighs_526 rfl rfl rfl
        · have hf := cx_if_f hf c27
          clear c27
          refine cx_iconst (v := 1) C dX9_weighs_521 (by decide) ?_
          refine cx_goto (tgt := 526) C dX9_weighs_522 (by decide) ?_
          obtain rfl := Option.some.inj hf
          exact cx_zret C hA hQ hr hlk dX9_weighs_526 rfl rfl rfl
      · have hf := cx_if_f hf c25
        clear c25
        refine cx_bipush (v := 100) C dX9_weighs_418 (by decide) ?_
        refine cx_iconst (v := 3) C dX9_weighs_420 (by decide) ?_
        refine cx_iload_n C dX9_weighs_421 1 rfl ?_
        refine cx_imul C dX9_weighs_422 ?_
        refine cx_iadd C dX9_weighs_423 ?_
        refine cx_istore_n (lv' := [(3, .int (100 + (3 * x2_23))), (0, .ref (m_a 0)), (2, .int x2_23)]) C dX9_weighs_424 rfl (by decide) rfl ?_
        refine cx_aload_n C dX9_weighs_425 1 rfl ?_
        refine cx_get (v := .ref (m_a 10)) (ci := 8) C iX9 dX9_weighs_426 0 rfl rfl 16 (by decide) hw_1070 rfl ?_
        refine cx_aload_n C dX9_weighs_429 1 rfl ?_
        refine cx_get (v := .ref (m_a 3)) (ci := 8) C iX9 dX9_weighs_430 0 rfl rfl 2 (by decide) hw_1056 rfl ?_
        refine cx_iload_n C dX9_weighs_433 0 rfl ?_
        obtain ⟨g28, hf⟩ := cx_gd_at hf
        refine cx_iald C dX9_weighs_434 3 rfl (cx_ib_in g28) ?_
        clear g28
        obtain ⟨g29, hf⟩ := cx_gd_at hf
        refine cx_iald C dX9_weighs_435 10 rfl (cx_ib_in g29) ?_
        clear g29
        refine cx_aload_n C dX9_weighs_436 1 rfl ?_
        refine cx_get (v := .ref (m_a 10)) (ci := 8) C iX9 dX9_weighs_437 0 rfl rfl 16 (by decide) hw_1070 rfl ?_
        refine cx_aload_n C dX9_weighs_440 1 rfl ?_
        refine cx_get (v := .ref (m_a 3)) (ci := 8) C iX9 dX9_weighs_441 0 rfl rfl 2 (by decide) hw_1056 rfl ?_
        refine cx_iload_n C dX9_weighs_444 0 rfl ?_
        refine cx_iconst (v := 1) C dX9_weighs_445 (by decide) ?_
        refine cx_iadd C dX9_weighs_446 ?_
        obtain ⟨g30, hf⟩ := cx_gd_at hf
        refine cx_iald C dX9_weighs_447 3 rfl (cx_ib_in g30) ?_
        clear g30
        obtain ⟨g31, hf⟩ := cx_gd_at hf
        refine cx_iald C dX9_weighs_448 10 rfl (cx_ib_in g31) ?_
        clear g31
        refine cx_icmp_ne (tgt := 471) C dX9_weighs_449 (by decide) (fun c32 => ?_) (fun c32 => ?_)
        · have hf := cx_if_f hf c32
          clear c32
          refine cx_lv [1, 2, 0] rfl ?_
          exact J471 (100 + (3 * x2_23)) hf
        · have hf := cx_if_t hf c32
          clear c32
          refine cx_aload_n C dX9_weighs_452 1 rfl ?_
          refine cx_get (v := .ref (m_a 10)) (ci := 8) C iX9 dX9_weighs_453 0 rfl rfl 16 (by decide) hw_1070 rfl ?_
          refine cx_aload_n C dX9_weighs_456 1 rfl ?_
          refine cx_get (v := .ref (m_a 3)) (ci := 8) C iX9 dX9_weighs_457 0 rfl rfl 2 (by decide) hw_1056 rfl ?_
          refine cx_iload_n C dX9_weighs_460 0 rfl ?_
          obtain ⟨g43, hf⟩ := cx_gd_at hf
          refine cx_iald C dX9_weighs_461 3 rfl (cx_ib_in g43) ?_
          clear g43
          obtain ⟨g44, hf⟩ := cx_gd_at hf
          refine cx_iald C dX9_weighs_462 10 rfl (cx_ib_in g44) ?_
          clear g44
          refine cx_iconst (v := 5) C dX9_weighs_463 (by decide) ?_
          refine cx_icmp_eq (tgt := 471) C dX9_weighs_464 (by decide) (fun c45 => ?_) (fun c45 => ?_)
          · have hf := cx_if_t hf c45
            clear c45
            refine cx_lv [1, 2, 0] rfl ?_
            exact J471 (100 + (3 * x2_23)) hf
          · have hf := cx_if_f hf c45
            clear c45
            refine cx_iconst (v := 1) C dX9_weighs_467 (by decide) ?_
            refine cx_goto (tgt := 472) C dX9_weighs_468 (by decide) ?_
            refine cx_lv [1, 2, 0] rfl ?_
            exact J472 (100 + (3 * x2_23)) 1 hf
  have L267 : ∀ (a_16 : Nat → Int32) (n267 : Nat) (a_14 : Nat → Int32) (a_15 : Nat → Int32) (x2_17 : Int32), f_X9_weighs_L267w m_book m_without a_16 n267 a_14 a_15 x2_17 = some y → cx_S p l e (cx_rm 5) s m args below meth c A D 8 0 0 Q 267 [(0, .ref (m_a 0)), (2, .int x2_17)] [] (wd_Model k m_a a_14 a_15 m_book m_images m_kept m_before m_refused m_quiet m_text m_typed m_at m_start m_token m_value m_items m_many a_16 m_likes m_without m_onePicture m_oneYear m_first m_second m_names) := by
    intro a_16 n267
    induction n267 with
    | zero =>
      intro a_14 a_15 x2_17 hf
      exact absurd (show (none : Option (Int32 × (Nat → Int32) × (Nat → Int32) × (Nat → Int32))) = some y from hf) (fun h => by cases h)
    | succ n267 ih267 =>
      intro a_14 a_15 x2_17 hf
      have hf : f_X9_weighs_L267 m_book m_without a_16 (f_X9_weighs_L267w m_book m_without a_16 n267) a_14 a_15 x2_17 = some y := hf
      have J400 : ∀ (a_55 : Nat → Int32) (a_56 : Nat → Int32), f_X9_weighs_J400 x2_17 (f_X9_weighs_L267w m_book m_without a_16 n267) a_55 a_56 = some y → cx_S p l e (cx_rm 5) s m args below meth c A D 8 0 0 Q 400 [(0, .ref (m_a 0)), (2, .int x2_17)] [] (wd_Model k m_a a_55 a_56 m_book m_images m_kept m_before m_refused m_quiet m_text m_typed m_at m_start m_token m_value m_items m_many a_16 m_likes m_without m_onePicture m_oneYear m_first m_second m_names) := by
        intro a_55 a_56 hf
        unfold f_X9_weighs_J400 at hf
        refine cx_iinc (v := x2_17 + 1) (lv' := [(2, .int (x2_17 + 1)), (0, .ref (m_a 0))]) C dX9_weighs_400 1 rfl rfl (by decide) rfl ?_
        refine cx_goto (tgt := 267) C dX9_weighs_403 (by decide) ?_
        refine cx_lv [1, 0] rfl ?_
        exact ih267 a_55 a_56 (x2_17 + 1) hf
      have J397 : ∀ (s1_60 : Int32) (s2_61 : Int32), f_X9_weighs_J397 a_14 a_15 x2_17 (f_X9_weighs_L267w m_book m_without a_16 n267) s1_60 s2_61 = some y → cx_S p l e (cx_rm 5) s m args below meth c A D 8 0 0 Q 397 [(0, .ref (m_a 0)), (2, .int x2_17)] [.int s2_61, .int s1_60, .ref (m_a 0)] (wd_Model k m_a a_14 a_15 m_book m_images m_kept m_before m_refused m_quiet m_text m_typed m_at m_start m_token m_value m_items m_many a_16 m_likes m_without m_onePicture m_oneYear m_first m_second m_names) := by
        intro s1_60 s2_61 hf
        unfold f_X9_weighs_J397 at hf
        obtain ⟨u62, e63, hf⟩ := cx_bd_at hf
        refine cx_Fvv (q := (RX9, TX9, 24)) (As := [.int s1_60, .int s2_61]) (rest := []) (w1 := (wd_Model k m_a u62.1 u62.2 m_book m_images m_kept m_before m_refused m_quiet m_text m_typed m_at m_start m_token m_value m_items m_many a_16 m_likes m_without m_onePicture m_oneYear m_first m_second m_names)) hA C me_X9_times hw_1328 (c_X9_times l D k m_a a_14 a_15 m_book m_images m_kept m_before m_refused m_quiet m_text m_typed m_at m_start m_token m_value m_items m_many a_16 m_likes m_without m_onePicture m_oneYear m_first m_second m_names s1_60 s2_61 u62 e63) dX9_weighs_397 ⟨Nat.le_of_ble_eq_true rfl, Nat.le_of_ble_eq_true rfl⟩ ⟨Nat.zero_le _, Nat.zero_le _⟩ rfl rfl (Nat.le_of_ble_eq_true rfl) rfl rfl rfl ?_
        clear e63
        exact J400 u62.1 u62.2 hf
      have J364 : ∀ (s0_53 : Int32), f_X9_weighs_J364 m_book m_without a_14 a_15 x2_17 (f_X9_weighs_L267w m_book m_without a_16 n267) s0_53 = some y → cx_S p l e (cx_rm 5) s m args below meth c A D 8 0 0 Q 364 [(0, .ref (m_a 0)), (2, .int x2_17)] [.int s0_53] (wd_Model k m_a a_14 a_15 m_book m_images m_kept m_before m_refused m_quiet m_text m_typed m_at m_start m_token m_value m_items m_many a_16 m_likes m_without m_onePicture m_oneYear m_first m_second m_names) := by
        intro s0_53 hf
        unfold f_X9_weighs_J364 at hf
        refine cx_istore (lv' := [(5, .int s0_53), (0, .ref (m_a 0)), (2, .int x2_17)]) C dX9_weighs_364 (by decide) rfl ?_
        refine cx_iload_n C dX9_weighs_366 2 rfl ?_
        refine cx_aload_n C dX9_weighs_367 1 rfl ?_
        refine cx_get (v := .int m_without) (ci := 8) C iX9 dX9_weighs_368 0 rfl rfl 18 (by decide) hw_1072 rfl ?_
        refine cx_icmp_eq (tgt := 400) C dX9_weighs_371 (by decide) (fun c54 => ?_) (fun c54 => ?_)
        · have hf := cx_if_t hf c54
          clear c54
          refine cx_lv [1, 2] rfl ?_
          exact J400 a_14 a_15 hf
        · have hf := cx_if_f hf c54
          clear c54
          refine cx_aload_n C dX9_weighs_374 1 rfl ?_
          refine cx_iconst (v := 5) C dX9_weighs_375 (by decide) ?_
          refine cx_iload C dX9_weighs_376 0 rfl ?_
          refine cx_if_eq (tgt := 389) C dX9_weighs_378 (by decide) (fun c57 => ?_) (fun c57 => ?_)
          · have hf := cx_if_t hf c57
            clear c57
            refine cx_bipush (v := 10) C dX9_weighs_389 (by decide) ?_
            refine cx_aload_n C dX9_weighs_391 1 rfl ?_
            refine cx_iload_n C dX9_weighs_392 2 rfl ?_
            obtain ⟨u58, e59, hf⟩ := cx_bd_at hf
            refine cx_Fvi (q := (RX9, TX9, 24)) (As := [.int x2_17]) (rest := [.int 10, .int 5, .ref (m_a 0)]) (w1 := (wd_Model k m_a a_14 a_15 m_book m_images m_kept m_before m_refused m_quiet m_text m_typed m_at m_start m_token m_value m_items m_many a_16 m_likes m_without m_onePicture m_oneYear m_first m_second m_names)) hA C me_X9_truthOf hw_1222 (c_X9_truthOf l D k m_a a_14 a_15 m_book m_images m_kept m_before m_refused m_quiet m_text m_typed m_at m_start m_token m_value m_items m_many a_16 m_likes m_without m_onePicture m_oneYear m_first m_second m_names x2_17 u58 e59) dX9_weighs_393 ⟨Nat.le_of_ble_eq_true rfl, Nat.le_of_ble_eq_true rfl⟩ ⟨Nat.zero_le _, Nat.zero_le _⟩ rfl rfl (Nat.le_of_ble_eq_true rfl) rfl rfl rfl ?_
            clear e59
            refine cx_isub C dX9_weighs_396 ?_
            refine cx_lv [1, 2] rfl ?_
            exact J397 5 (10 - u58) hf
          · have hf := cx_if_f hf c57
            clear c57
            refine cx_aload_n C dX9_weighs_381 1 rfl ?_
            refine cx_iload_n C dX9_weighs_382 2 rfl ?_
            obtain ⟨u64, e65, hf⟩ := cx_bd_at hf
            refine cx_Fvi (q := (RX9, TX9, 24)) (As := [.int x2_17]) (rest := [.int 5, .ref (m_a 0)]) (w1 := (wd_Model k m_a a_14 a_15 m_book m_images m_kept m_before m_refused m_quiet m_text m_typed m_at m_start m_token m_value m_items m_many a_16 m_likes m_without m_onePicture m_oneYear m_first m_second m_names)) hA C me_X9_truthOf hw_1222 (c_X9_truthOf l D k m_a a_14 a_15 m_book m_images m_kept m_before m_refused m_quiet m_text m_typed m_at m_start m_token m_value m_items m_many a_16 m_likes m_without m_onePicture m_oneYear m_first m_second m_names x2_17 u64 e65) dX9_weighs_383 ⟨Nat.le_of_ble_eq_true rfl, Nat.le_of_ble_eq_true rfl⟩ ⟨Nat.zero_le _, Nat.zero_le _⟩ rfl rfl (Nat.le_of_ble_eq_true rfl) rfl rfl rfl ?_
            clear e65
            refine cx_goto (tgt := 397) C dX9_weighs_386 (by decide) ?_
            refine cx_lv [1, 2] rfl ?_
            exact J397 5 u64 hf
      have J359 : f_X9_weighs_J359 m_book m_without a_14 a_15 x2_17 (f_X9_weighs_L267w m_book m_without a_16 n267) = some y → cx_S p l e (cx_rm 5) s m args below meth c A D 8 0 0 Q 359 [(0, .ref (m_a 0)), (2, .int x2_17)] [] (wd_Model k m_a a_14 a_15 m_book m_images m_kept m_before m_refused m_quiet m_text m_typed m_at m_start m_token m_value m_items m_many a_16 m_likes m_without m_onePicture m_oneYear m_first m_second m_names) := by
        intro  hf
        unfold f_X9_weighs_J359 at hf
        refine cx_iconst (v := 1) C dX9_weighs_359 (by decide) ?_
        refine cx_goto (tgt := 364) C dX9_weighs_360 (by decide) ?_
        exact J364 1 hf
      have J363 : f_X9_weighs_J363 m_book m_without a_14 a_15 x2_17 (f_X9_weighs_L267w m_book m_without a_16 n267) = some y → cx_S p l e (cx_rm 5) s m args below meth c A D 8 0 0 Q 363 [(0, .ref (m_a 0)), (2, .int x2_17)] [] (wd_Model k m_a a_14 a_15 m_book m_images m_kept m_before m_refused m_quiet m_text m_typed m_at m_start m_token m_value m_items m_many a_16 m_likes m_without m_onePicture m_oneYear m_first m_second m_names) := by
        intro  hf
        unfold f_X9_weighs_J363 at hf
        refine cx_iconst (v := 0) C dX9_weighs_363 (by decide) ?_
        exact J364 0 hf
      unfold f_X9_weighs_L267 at hf
      refine cx_iload_n C dX9_weighs_267 1 rfl ?_
      refine cx_aload_n C dX9_weighs_268 0 rfl ?_
      refine cx_get (v := .ref (m_a 3)) (ci := 8) C iX9 dX9_weighs_269 0 rfl rfl 2 (by decide) hw_1056 rfl ?_
      refine cx_iconst (v := 3) C dX9_weighs_272 (by decide) ?_
      obtain ⟨g18, hf⟩ := cx_gd_at hf
      refine cx_iald C dX9_weighs_273 3 rfl (cx_ib_in g18) ?_
      clear g18
      refine cx_icmp_ge (tgt := 406) C dX9_weighs_274 (by decide) (fun c19 => ?_) (fun c19 => ?_)
      · have hf := cx_if_t hf c19
        clear c19
        refine cx_iconst (v := 0) C dX9_weighs_406 (by decide) ?_
        refine cx_istore_n (lv' := [(2, .int 0), (0, .ref (m_a 0))]) C dX9_weighs_407 rfl (by decide) rfl ?_
        refine cx_lv [1, 0] rfl ?_
        exact L408 a_16 cx_N0 a_14 a_15 0 hf
      · have hf := cx_if_f hf c19
        clear c19
        refine cx_bipush (v := 80) C dX9_weighs_277 (by decide) ?_
        refine cx_iconst (v := 4) C dX9_weighs_279 (by decide) ?_
        refine cx_iload_n C dX9_weighs_280 1 rfl ?_
        refine cx_imul C dX9_weighs_281 ?_
        refine cx_iadd C dX9_weighs_282 ?_
        refine cx_istore_n (lv' := [(3, .int (80 + (4 * x2_17))), (0, .ref (m_a 0)), (2, .int x2_17)]) C dX9_weighs_283 rfl (by decide) rfl ?_
        refine cx_aload_n C dX9_weighs_284 1 rfl ?_
        refine cx_get (v := .ref (m_a 10)) (ci := 8) C iX9 dX9_weighs_285 0 rfl rfl 16 (by decide) hw_1070 rfl ?_
        refine cx_aload_n C dX9_weighs_288 1 rfl ?_
        refine cx_get (v := .ref (m_a 3)) (ci := 8) C iX9 dX9_weighs_289 0 rfl rfl 2 (by decide) hw_1056 rfl ?_
        refine cx_iload_n C dX9_weighs_292 0 rfl ?_
        refine cx_iconst (v := 1) C dX9_weighs_293 (by decide) ?_
        refine cx_iadd C dX9_weighs_294 ?_
        obtain ⟨g46, hf⟩ := cx_gd_at hf
        refine cx_iald C dX9_weighs_295 3 rfl (cx_ib_in g46) ?_
        clear g46
        obtain ⟨g47, hf⟩ := cx_gd_at hf
        refine cx_iald C dX9_weighs_296 10 rfl (cx_ib_in g47) ?_
        clear g47
        refine cx_topi (fun v48 ev48 => ?_)
        have hf := cx_let_at hf ev48
        clear ev48
        refine cx_istore (lv' := [(4, .int v48), (3, .int (80 + (4 * x2_17))), (0, .ref (m_a 0)), (2, .int x2_17)]) C dX9_weighs_297 (by decide) rfl ?_
        refine cx_aload_n C dX9_weighs_299 2 rfl ?_
        refine cx_get (v := .ref (m_a 3)) (ci := 8) C iX9 dX9_weighs_300 0 rfl rfl 2 (by decide) hw_1056 rfl ?_
        refine cx_iload_n C dX9_weighs_303 1 rfl ?_
        obtain ⟨g49, hf⟩ := cx_gd_at hf
        refine cx_iald C dX9_weighs_304 3 rfl (cx_ib_in g49) ?_
        clear g49
        refine cx_iconst (v := 4) C dX9_weighs_305 (by decide) ?_
        refine cx_icmp_ne (tgt := 323) C dX9_weighs_306 (by decide) (fun c50 => ?_) (fun c50 => ?_)
        · have hf := cx_if_f hf c50
          clear c50
          refine cx_iload C dX9_weighs_323 0 rfl ?_
          refine cx_aload_n C dX9_weighs_325 2 rfl ?_
          refine cx_get (v := .ref (m_a 3)) (ci := 8) C iX9 dX9_weighs_326 0 rfl rfl 2 (by decide) hw_1056 rfl ?_
          refine cx_iload_n C dX9_weighs_329 1 rfl ?_
          refine cx_iconst (v := 2) C dX9_weighs_330 (by decide) ?_
          refine cx_iadd C dX9_weighs_331 ?_
          obtain ⟨g51, hf⟩ := cx_gd_at hf
          refine cx_iald C dX9_weighs_332 3 rfl (cx_ib_in g51) ?_
          clear g51
          refine cx_icmp_eq (tgt := 359) C dX9_weighs_333 (by decide) (fun c52 => ?_) (fun c52 => ?_)
          · have hf := cx_if_t hf c52
            clear c52
            refine cx_lv [2, 3] rfl ?_
            exact J359 hf
          · have hf := cx_if_f hf c52
            clear c52
            refine cx_aload_n C dX9_weighs_336 2 rfl ?_
            refine cx_get (v := .ref (m_a 3)) (ci := 8) C iX9 dX9_weighs_337 0 rfl rfl 2 (by decide) hw_1056 rfl ?_
            refine cx_iload_n C dX9_weighs_340 1 rfl ?_
            obtain ⟨g66, hf⟩ := cx_gd_at hf
            refine cx_iald C dX9_weighs_341 3 rfl (cx_ib_in g66) ?_
            clear g66
            refine cx_iconst (v := 3) C dX9_weighs_342 (by decide) ?_
            refine cx_icmp_ne (tgt := 363) C dX9_weighs_343 (by decide) (fun c67 => ?_) (fun c67 => ?_)
            · have hf := cx_if_f hf c67
              clear c67
              refine cx_lv [2, 3] rfl ?_
              exact J363 hf
            · have hf := cx_if_t hf c67
              clear c67
              refine cx_iload C dX9_weighs_346 0 rfl ?_
              refine cx_aload_n C dX9_weighs_348 2 rfl ?_
              refine cx_get (v := .ref (m_a 3)) (ci := 8) C iX9 dX9_weighs_349 0 rfl rfl 2 (by decide) hw_1056 rfl ?_
              refine cx_iload_n C dX9_weighs_352 1 rfl ?_
              refine cx_iconst (v := 3) C dX9_weighs_353 (by decide) ?_
              refine cx_iadd C dX9_weighs_354 ?_
              obtain ⟨g68, hf⟩ := cx_gd_at hf
              refine cx_iald C dX9_weighs_355 3 rfl (cx_ib_in g68) ?_
              clear g68
              refine cx_icmp_ne (tgt := 363) C dX9_weighs_356 (by decide) (fun c69 => ?_) (fun c69 => ?_)
              · have hf := cx_if_f hf c69
                clear c69
                refine cx_lv [2, 3] rfl ?_
                exact J363 hf
              · have hf := cx_if_t hf c69
                clear c69
                refine cx_lv [2, 3] rfl ?_
                exact J359 hf
        · have hf := cx_if_t hf c50
          clear c50
          refine cx_iload C dX9_weighs_309 0 rfl ?_
          refine cx_iconst (v := 5) C dX9_weighs_311 (by decide) ?_
          refine cx_icmp_ne (tgt := 319) C dX9_weighs_312 (by decide) (fun c70 => ?_) (fun c70 => ?_)
          · have hf := cx_if_f hf c70
            clear c70
            refine cx_iconst (v := 0) C dX9_weighs_319 (by decide) ?_
            refine cx_goto (tgt := 364) C dX9_weighs_320 (by decide) ?_
            refine cx_lv [2, 3] rfl ?_
            exact J364 0 hf
          · have hf := cx_if_t hf c70
            clear c70
            refine cx_iconst (v := 1) C dX9_weighs_315 (by decide) ?_
            refine cx_goto (tgt := 364) C dX9_weighs_316 (by decide) ?_
            refine cx_lv [2, 3] rfl ?_
            exact J364 1 hf
  have L22 : ∀ (a_10 : Nat → Int32) (n22 : Nat) (a_8 : Nat → Int32) (a_9 : Nat → Int32) (x2_11 : Int32), f_X9_weighs_L22w m_book m_likes m_without m_onePicture m_oneYear m_first m_second a_10 n22 a_8 a_9 x2_11 = some y → cx_S p l e (cx_rm 5) s m args below meth c A D 8 0 0 Q 22 [(0, .ref (m_a 0)), (2, .int x2_11)] [] (wd_Model k m_a a_8 a_9 m_book m_images m_kept m_before m_refused m_quiet m_text m_typed m_at m_start m_token m_value m_items m_many a_10 m_likes m_without m_onePicture m_oneYear m_first m_second m_names) := by
    intro a_10 n22
    induction n22 with
    | zero =>
      intro a_8 a_9 x2_11 hf
      exact absurd (show (none : Option (Int32 × (Nat → Int32) × (Nat → Int32) × (Nat → Int32))) = some y from hf) (fun h => by cases h)
    | succ n22 ih22 =>
      intro a_8 a_9 x2_11 hf
      have hf : f_X9_weighs_L22 m_book m_likes m_without m_onePicture m_oneYear m_first m_second a_10 (f_X9_weighs_L22w m_book m_likes m_without m_onePicture m_oneYear m_first m_second a_10 n22) a_8 a_9 x2_11 = some y := hf
      have J245 : ∀ (x3_78 : Int64), f_X9_weighs_J245 a_8 a_9 a_10 x2_11 (f_X9_weighs_L22w m_book m_likes m_without m_onePicture m_oneYear m_first m_second a_10 n22) x3_78 = some y → cx_S p l e (cx_rm 5) s m args below meth c A D 8 0 0 Q 245 [(0, .ref (m_a 0)), (2, .int x2_11), (3, .long x3_78)] [] (wd_Model k m_a a_8 a_9 m_book m_images m_kept m_before m_refused m_quiet m_text m_typed m_at m_start m_token m_value m_items m_many a_10 m_likes m_without m_onePicture m_oneYear m_first m_second m_names) := by
        intro x3_78 hf
        unfold f_X9_weighs_J245 at hf
        refine cx_lload_n C dX9_weighs_245 2 rfl ?_
        refine cx_lconst (v := 0) C dX9_weighs_246 (by decide) ?_
        refine cx_lcmp C dX9_weighs_247 ?_
        refine cx_if_ne (tgt := 253) C dX9_weighs_248 (by decide) (fun c79 => ?_) (fun c79 => ?_)
        · have hf := cx_if_f hf c79
          clear c79
          refine cx_aload_n C dX9_weighs_253 0 rfl ?_
          refine cx_iconst (v := 5) C dX9_weighs_254 (by decide) ?_
          refine cx_lload_n C dX9_weighs_255 2 rfl ?_
          obtain ⟨u80, e81, hf⟩ := cx_bd_at hf
          refine cx_Fvv (q := (RX9, TX9, 24)) (As := [.int 5, .long x3_78]) (rest := []) (w1 := (wd_Model k m_a u80.1 u80.2 m_book m_images m_kept m_before m_refused m_quiet m_text m_typed m_at m_start m_token m_value m_items m_many a_10 m_likes m_without m_onePicture m_oneYear m_first m_second m_names)) hA C me_X9_timesLong hw_1316 (c_X9_timesLong l D k m_a a_8 a_9 m_book m_images m_kept m_before m_refused m_quiet m_text m_typed m_at m_start m_token m_value m_items m_many a_10 m_likes m_without m_onePicture m_oneYear m_first m_second m_names 5 x3_78 u80 e81) dX9_weighs_256 ⟨Nat.le_of_ble_eq_true rfl, Nat.le_of_ble_eq_true rfl⟩ ⟨Nat.zero_le _, Nat.zero_le _⟩ rfl rfl (Nat.le_of_ble_eq_true rfl) rfl rfl rfl ?_
          clear e81
          refine cx_iinc (v := x2_11 + 1) (lv' := [(2, .int (x2_11 + 1)), (0, .ref (m_a 0)), (3, .long x3_78)]) C dX9_weighs_259 1 rfl rfl (by decide) rfl ?_
          refine cx_goto (tgt := 22) C dX9_weighs_262 (by decide) ?_
          refine cx_lv [1, 0] rfl ?_
          exact ih22 u80.1 u80.2 (x2_11 + 1) hf
        · have hf := cx_if_t hf c79
          clear c79
          refine cx_iconst (v := 0) C dX9_weighs_251 (by decide) ?_
          obtain rfl := Option.some.inj hf
          exact cx_zret C hA hQ hr hlk dX9_weighs_252 rfl rfl rfl
      have L61 : ∀ (n61 : Nat) (x3_73 : Int64) (x5_74 : Int32), f_X9_weighs_L61w m_book m_likes m_onePicture m_oneYear a_8 a_9 a_10 x2_11 (f_X9_weighs_L22w m_book m_likes m_without m_onePicture m_oneYear m_first m_second a_10 n22) n61 x3_73 x5_74 = some y → cx_S p l e (cx_rm 5) s m args below meth c A D 8 0 0 Q 61 [(0, .ref (m_a 0)), (2, .int x2_11), (3, .long x3_73), (5, .int x5_74)] [] (wd_Model k m_a a_8 a_9 m_book m_images m_kept m_before m_refused m_quiet m_text m_typed m_at m_start m_token m_value m_items m_many a_10 m_likes m_without m_onePicture m_oneYear m_first m_second m_names) := by
        intro  n61
        induction n61 with
        | zero =>
          intro x3_73 x5_74 hf
          exact absurd (show (none : Option (Int32 × (Nat → Int32) × (Nat → Int32) × (Nat → Int32))) = some y from hf) (fun h => by cases h)
        | succ n61 ih61 =>
          intro x3_73 x5_74 hf
          have hf : f_X9_weighs_L61 m_book m_likes m_onePicture m_oneYear a_8 a_9 a_10 x2_11 (f_X9_weighs_L22w m_book m_likes m_without m_onePicture m_oneYear m_first m_second a_10 n22) (f_X9_weighs_L61w m_book m_likes m_onePicture m_oneYear a_8 a_9 a_10 x2_11 (f_X9_weighs_L22w m_book m_likes m_without m_onePicture m_oneYear m_first m_second a_10 n22) n61) x3_73 x5_74 = some y := hf
          have J100 : ∀ (s1_85 : Int64), f_X9_weighs_J100 x3_73 x5_74 (f_X9_weighs_L61w m_book m_likes m_onePicture m_oneYear a_8 a_9 a_10 x2_11 (f_X9_weighs_L22w m_book m_likes m_without m_onePicture m_oneYear m_first m_second a_10 n22) n61) s1_85 = some y → cx_S p l e (cx_rm 5) s m args below meth c A D 8 0 0 Q 100 [(0, .ref (m_a 0)), (2, .int x2_11), (5, .int x5_74)] [.long s1_85, .long x3_73] (wd_Model k m_a a_8 a_9 m_book m_images m_kept m_before m_refused m_quiet m_text m_typed m_at m_start m_token m_value m_items m_many a_10 m_likes m_without m_onePicture m_oneYear m_first m_second m_names) := by
            intro s1_85 hf
            unfold f_X9_weighs_J100 at hf
            refine cx_ladd C dX9_weighs_100 ?_
            refine cx_lstore_n (lv' := [(3, .long (x3_73 + s1_85)), (0, .ref (m_a 0)), (2, .int x2_11), (5, .int x5_74)]) C dX9_weighs_101 rfl (by decide) rfl ?_
            refine cx_iinc (v := x5_74 + 1) (lv' := [(5, .int (x5_74 + 1)), (3, .long (x3_73 + s1_85)), (0, .ref (m_a 0)), (2, .int x2_11)]) C dX9_weighs_102 3 rfl rfl (by decide) rfl ?_
            refine cx_goto (tgt := 61) C dX9_weighs_105 (by decide) ?_
            refine cx_lv [2, 3, 1, 0] rfl ?_
            exact ih61 (x3_73 + s1_85) (x5_74 + 1) hf
          have J89 : f_X9_weighs_J89 m_book m_likes a_10 x2_11 x3_73 x5_74 (f_X9_weighs_L61w m_book m_likes m_onePicture m_oneYear a_8 a_9 a_10 x2_11 (f_X9_weighs_L22w m_book m_likes m_without m_onePicture m_oneYear m_first m_second a_10 n22) n61) = some y → cx_S p l e (cx_rm 5) s m args below meth c A D 8 0 0 Q 89 [(0, .ref (m_a 0)), (2, .int x2_11), (5, .int x5_74)] [.long x3_73] (wd_Model k m_a a_8 a_9 m_book m_images m_kept m_before m_refused m_quiet m_text m_typed m_at m_start m_token m_value m_items m_many a_10 m_likes m_without m_onePicture m_oneYear m_first m_second m_names) := by
            intro  hf
            unfold f_X9_weighs_J89 at hf
            refine cx_aload_n C dX9_weighs_89 0 rfl ?_
            refine cx_iload_n C dX9_weighs_90 1 rfl ?_
            refine cx_iload C dX9_weighs_91 2 rfl ?_
            obtain ⟨u83, e84, hf⟩ := cx_bd_at hf
            refine cx_Fvl (q := (RX9, TX9, 24)) (As := [.int x2_11, .int x5_74]) (rest := [.long x3_73]) (w1 := (wd_Model k m_a a_8 a_9 m_book m_images m_kept m_before m_refused m_quiet m_text m_typed m_at m_start m_token m_value m_items m_many a_10 m_likes m_without m_onePicture m_oneYear m_first m_second m_names)) hA C me_X9_termOf hw_1312 (c_X9_termOf l D k m_a a_8 a_9 m_book m_images m_kept m_before m_refused m_quiet m_text m_typed m_at m_start m_token m_value m_items m_many a_10 m_likes m_without m_onePicture m_oneYear m_first m_second m_names x2_11 x5_74 u83 e84) dX9_weighs_93 ⟨Nat.le_of_ble_eq_true rfl, Nat.le_of_ble_eq_true rfl⟩ ⟨Nat.zero_le _, Nat.zero_le _⟩ rfl rfl (Nat.le_of_ble_eq_true rfl) rfl rfl rfl ?_
            clear e84
            refine cx_goto (tgt := 100) C dX9_weighs_96 (by decide) ?_
            exact J100 u83 hf
          unfold f_X9_weighs_L61 at hf
          refine cx_iload C dX9_weighs_61 3 rfl ?_
          refine cx_aload_n C dX9_weighs_63 0 rfl ?_
          refine cx_iload_n C dX9_weighs_64 1 rfl ?_
          obtain ⟨u75, e76, hf⟩ := cx_bd_at hf
          refine cx_Fvi (q := (RX9, TX9, 24)) (As := [.int x2_11]) (rest := [.int x5_74]) (w1 := (wd_Model k m_a a_8 a_9 m_book m_images m_kept m_before m_refused m_quiet m_text m_typed m_at m_start m_token m_value m_items m_many a_10 m_likes m_without m_onePicture m_oneYear m_first m_second m_names)) hA C me_X9_years hw_1308 (c_X9_years l D k m_a a_8 a_9 m_book m_images m_kept m_before m_refused m_quiet m_text m_typed m_at m_start m_token m_value m_items m_many a_10 m_likes m_without m_onePicture m_oneYear m_first m_second m_names x2_11 u75 e76) dX9_weighs_65 ⟨Nat.le_of_ble_eq_true rfl, Nat.le_of_ble_eq_true rfl⟩ ⟨Nat.zero_le _, Nat.zero_le _⟩ rfl rfl (Nat.le_of_ble_eq_true rfl) rfl rfl rfl ?_
          clear e76
          refine cx_icmp_ge (tgt := 108) C dX9_weighs_68 (by decide) (fun c77 => ?_) (fun c77 => ?_)
          · have hf := cx_if_t hf c77
            clear c77
            refine cx_goto (tgt := 245) C dX9_weighs_108 (by decide) ?_
            refine cx_lv [0, 1, 2] rfl ?_
            exact J245 x3_73 hf
          · have hf := cx_if_f hf c77
            clear c77
            refine cx_lload_n C dX9_weighs_71 2 rfl ?_
            refine cx_iload_n C dX9_weighs_72 1 rfl ?_
            refine cx_aload_n C dX9_weighs_73 0 rfl ?_
            refine cx_get (v := .int m_onePicture) (ci := 8) C iX9 dX9_weighs_74 0 rfl rfl 19 (by decide) hw_1073 rfl ?_
            refine cx_icmp_ne (tgt := 89) C dX9_weighs_77 (by decide) (fun c82 => ?_) (fun c82 => ?_)
            · have hf := cx_if_f hf c82
              clear c82
              refine cx_lv [0, 1, 3] rfl ?_
              exact J89 hf
            · have hf := cx_if_t hf c82
              clear c82
              refine cx_iload C dX9_weighs_80 3 rfl ?_
              refine cx_aload_n C dX9_weighs_82 0 rfl ?_
              refine cx_get (v := .int m_oneYear) (ci := 8) C iX9 dX9_weighs_83 0 rfl rfl 20 (by decide) hw_1074 rfl ?_
              refine cx_icmp_ne (tgt := 99) C dX9_weighs_86 (by decide) (fun c86 => ?_) (fun c86 => ?_)
              · have hf := cx_if_f hf c86
                clear c86
                refine cx_lconst (v := 0) C dX9_weighs_99 (by decide) ?_
                refine cx_lv [0, 1, 3] rfl ?_
                exact J100 0 hf
              · have hf := cx_if_t hf c86
                clear c86
                refine cx_lv [0, 1, 3] rfl ?_
                exact J89 hf
      have J58 : ∀ (x3_72 : Int64), f_X9_weighs_J58 m_book m_likes m_onePicture m_oneYear a_8 a_9 a_10 x2_11 (f_X9_weighs_L22w m_book m_likes m_without m_onePicture m_oneYear m_first m_second a_10 n22) x3_72 = some y → cx_S p l e (cx_rm 5) s m args below meth c A D 8 0 0 Q 58 [(0, .ref (m_a 0)), (2, .int x2_11), (3, .long x3_72)] [] (wd_Model k m_a a_8 a_9 m_book m_images m_kept m_before m_refused m_quiet m_text m_typed m_at m_start m_token m_value m_items m_many a_10 m_likes m_without m_onePicture m_oneYear m_first m_second m_names) := by
        intro x3_72 hf
        unfold f_X9_weighs_J58 at hf
        refine cx_iconst (v := 0) C dX9_weighs_58 (by decide) ?_
        refine cx_istore (lv' := [(5, .int 0), (0, .ref (m_a 0)), (2, .int x2_11), (3, .long x3_72)]) C dX9_weighs_59 (by decide) rfl ?_
        refine cx_lv [1, 2, 3, 0] rfl ?_
        exact L61 cx_N0 x3_72 0 hf
      have L122 : ∀ (n122 : Nat) (x3_90 : Int64) (x5_91 : Int32), f_X9_weighs_L122w m_book m_likes m_first m_second a_8 a_9 a_10 x2_11 (f_X9_weighs_L22w m_book m_likes m_without m_onePicture m_oneYear m_first m_second a_10 n22) n122 x3_90 x5_91 = some y → cx_S p l e (cx_rm 5) s m args below meth c A D 8 0 0 Q 122 [(0, .ref (m_a 0)), (2, .int x2_11), (3, .long x3_90), (5, .int x5_91)] [] (wd_Model k m_a a_8 a_9 m_book m_images m_kept m_before m_refused m_quiet m_text m_typed m_at m_start m_token m_value m_items m_many a_10 m_likes m_without m_onePicture m_oneYear m_first m_second m_names) := by
        intro  n122
        induction n122 with
        | zero =>
          intro x3_90 x5_91 hf
          exact absurd (show (none : Option (Int32 × (Nat → Int32) × (Nat → Int32) × (Nat → Int32))) = some y from hf) (fun h => by cases h)
        | succ n122 ih122 =>
          intro x3_90 x5_91 hf
          have hf : f_X9_weighs_L122 m_book m_likes m_first m_second a_8 a_9 a_10 x2_11 (f_X9_weighs_L22w m_book m_likes m_without m_onePicture m_oneYear m_first m_second a_10 n22) (f_X9_weighs_L122w m_book m_likes m_first m_second a_8 a_9 a_10 x2_11 (f_X9_weighs_L22w m_book m_likes m_without m_onePicture m_oneYear m_first m_second a_10 n22) n122) x3_90 x5_91 = some y := hf
          have L138 : ∀ (n138 : Nat) (x3_95 : Int64) (x6_96 : Int32), f_X9_weighs_L138w m_book m_likes m_first m_second a_10 x5_91 (f_X9_weighs_L122w m_book m_likes m_first m_second a_8 a_9 a_10 x2_11 (f_X9_weighs_L22w m_book m_likes m_without m_onePicture m_oneYear m_first m_second a_10 n22) n122) n138 x3_95 x6_96 = some y → cx_S p l e (cx_rm 5) s m args below meth c A D 8 0 0 Q 138 [(0, .ref (m_a 0)), (2, .int x2_11), (3, .long x3_95), (5, .int x5_91), (6, .int x6_96)] [] (wd_Model k m_a a_8 a_9 m_book m_images m_kept m_before m_refused m_quiet m_text m_typed m_at m_start m_token m_value m_items m_many a_10 m_likes m_without m_onePicture m_oneYear m_first m_second m_names) := by
            intro  n138
            induction n138 with
            | zero =>
              intro x3_95 x6_96 hf
              exact absurd (show (none : Option (Int32 × (Nat → Int32) × (Nat → Int32) × (Nat → Int32))) = some y from hf) (fun h => by cases h)
            | succ n138 ih138 =>
              intro x3_95 x6_96 hf
              have hf : f_X9_weighs_L138 m_book m_likes m_first m_second a_10 x5_91 (f_X9_weighs_L122w m_book m_likes m_first m_second a_8 a_9 a_10 x2_11 (f_X9_weighs_L22w m_book m_likes m_without m_onePicture m_oneYear m_first m_second a_10 n22) n122) (f_X9_weighs_L138w m_book m_likes m_first m_second a_10 x5_91 (f_X9_weighs_L122w m_book m_likes m_first m_second a_8 a_9 a_10 x2_11 (f_X9_weighs_L22w m_book m_likes m_without m_onePicture m_oneYear m_first m_second a_10 n22) n122) n138) x3_95 x6_96 = some y := hf
              have J226 : ∀ (s1_105 : Int64), f_X9_weighs_J226 x3_95 x6_96 (f_X9_weighs_L138w m_book m_likes m_first m_second a_10 x5_91 (f_X9_weighs_L122w m_book m_likes m_first m_second a_8 a_9 a_10 x2_11 (f_X9_weighs_L22w m_book m_likes m_without m_onePicture m_oneYear m_first m_second a_10 n22) n122) n138) s1_105 = some y → cx_S p l e (cx_rm 5) s m args below meth c A D 8 0 0 Q 226 [(0, .ref (m_a 0)), (2, .int x2_11), (5, .int x5_91), (6, .int x6_96)] [.long s1_105, .long x3_95] (wd_Model k m_a a_8 a_9 m_book m_images m_kept m_before m_refused m_quiet m_text m_typed m_at m_start m_token m_value m_items m_many a_10 m_likes m_without m_onePicture m_oneYear m_first m_second m_names) := by
                intro s1_105 hf
                unfold f_X9_weighs_J226 at hf
                refine cx_ladd C dX9_weighs_226 ?_
                refine cx_lstore_n (lv' := [(3, .long (x3_95 + s1_105)), (0, .ref (m_a 0)), (2, .int x2_11), (5, .int x5_91), (6, .int x6_96)]) C dX9_weighs_227 rfl (by decide) rfl ?_
                refine cx_iinc (v := x6_96 + 1) (lv' := [(6, .int (x6_96 + 1)), (3, .long (x3_95 + s1_105)), (0, .ref (m_a 0)), (2, .int x2_11), (5, .int x5_91)]) C dX9_weighs_228 4 rfl rfl (by decide) rfl ?_
                refine cx_goto (tgt := 138) C dX9_weighs_231 (by decide) ?_
                refine cx_lv [2, 3, 1, 4, 0] rfl ?_
                exact ih138 (x3_95 + s1_105) (x6_96 + 1) hf
              have J193 : ∀ (s0_103 : Int32), f_X9_weighs_J193 m_book m_likes m_first m_second a_10 x5_91 x3_95 x6_96 (f_X9_weighs_L138w m_book m_likes m_first m_second a_10 x5_91 (f_X9_weighs_L122w m_book m_likes m_first m_second a_8 a_9 a_10 x2_11 (f_X9_weighs_L22w m_book m_likes m_without m_onePicture m_oneYear m_first m_second a_10 n22) n122) n138) s0_103 = some y → cx_S p l e (cx_rm 5) s m args below meth c A D 8 0 0 Q 193 [(0, .ref (m_a 0)), (2, .int x2_11), (3, .long x3_95), (5, .int x5_91), (6, .int x6_96)] [.int s0_103] (wd_Model k m_a a_8 a_9 m_book m_images m_kept m_before m_refused m_quiet m_text m_typed m_at m_start m_token m_value m_items m_many a_10 m_likes m_without m_onePicture m_oneYear m_first m_second m_names) := by
                intro s0_103 hf
                unfold f_X9_weighs_J193 at hf
                refine cx_istore (lv' := [(7, .int s0_103), (0, .ref (m_a 0)), (2, .int x2_11), (3, .long x3_95), (5, .int x5_91), (6, .int x6_96)]) C dX9_weighs_193 (by decide) rfl ?_
                refine cx_lload_n C dX9_weighs_195 3 rfl ?_
                refine cx_iload C dX9_weighs_196 0 rfl ?_
                refine cx_if_eq (tgt := 225) C dX9_weighs_198 (by decide) (fun c104 => ?_) (fun c104 => ?_)
                · have hf := cx_if_t hf c104
                  clear c104
                  refine cx_lconst (v := 0) C dX9_weighs_225 (by decide) ?_
                  refine cx_lv [1, 2, 4, 5] rfl ?_
                  exact J226 0 hf
                · have hf := cx_if_f hf c104
                  clear c104
                  refine cx_aload_n C dX9_weighs_201 1 rfl ?_
                  refine cx_aload_n C dX9_weighs_202 1 rfl ?_
                  refine cx_get (v := .int m_first) (ci := 8) C iX9 dX9_weighs_203 0 rfl rfl 21 (by decide) hw_1075 rfl ?_
                  refine cx_iload C dX9_weighs_206 4 rfl ?_
                  obtain ⟨u106, e107, hf⟩ := cx_bd_at hf
                  refine cx_Fvl (q := (RX9, TX9, 24)) (As := [.int m_first, .int x5_91]) (rest := [.long x3_95]) (w1 := (wd_Model k m_a a_8 a_9 m_book m_images m_kept m_before m_refused m_quiet m_text m_typed m_at m_start m_token m_value m_items m_many a_10 m_likes m_without m_onePicture m_oneYear m_first m_second m_names)) hA C me_X9_termOf hw_1312 (c_X9_termOf l D k m_a a_8 a_9 m_book m_images m_kept m_before m_refused m_quiet m_text m_typed m_at m_start m_token m_value m_items m_many a_10 m_likes m_without m_onePicture m_oneYear m_first m_second m_names m_first x5_91 u106 e107) dX9_weighs_208 ⟨Nat.le_of_ble_eq_true rfl, Nat.le_of_ble_eq_true rfl⟩ ⟨Nat.zero_le _, Nat.zero_le _⟩ rfl rfl (Nat.le_of_ble_eq_true rfl) rfl rfl rfl ?_
                  clear e107
                  refine cx_aload_n C dX9_weighs_211 1 rfl ?_
                  refine cx_aload_n C dX9_weighs_212 1 rfl ?_
                  refine cx_get (v := .int m_second) (ci := 8) C iX9 dX9_weighs_213 0 rfl rfl 22 (by decide) hw_1076 rfl ?_
                  refine cx_iload C dX9_weighs_216 5 rfl ?_
                  obtain ⟨u108, e109, hf⟩ := cx_bd_at hf
                  refine cx_Fvl (q := (RX9, TX9, 24)) (As := [.int m_second, .int x6_96]) (rest := [.long u106, .long x3_95]) (w1 := (wd_Model k m_a a_8 a_9 m_book m_images m_kept m_before m_refused m_quiet m_text m_typed m_at m_start m_token m_value m_items m_many a_10 m_likes m_without m_onePicture m_oneYear m_first m_second m_names)) hA C me_X9_termOf hw_1312 (c_X9_termOf l D k m_a a_8 a_9 m_book m_images m_kept m_before m_refused m_quiet m_text m_typed m_at m_start m_token m_value m_items m_many a_10 m_likes m_without m_onePicture m_oneYear m_first m_second m_names m_second x6_96 u108 e109) dX9_weighs_218 ⟨Nat.le_of_ble_eq_true rfl, Nat.le_of_ble_eq_true rfl⟩ ⟨Nat.zero_le _, Nat.zero_le _⟩ rfl rfl (Nat.le_of_ble_eq_true rfl) rfl rfl rfl ?_
                  clear e109
                  refine cx_lmul C dX9_weighs_221 ?_
                  refine cx_goto (tgt := 226) C dX9_weighs_222 (by decide) ?_
                  refine cx_lv [1, 2, 4, 5] rfl ?_
                  exact J226 (u106 * u108) hf
              unfold f_X9_weighs_L138 at hf
              refine cx_iload C dX9_weighs_138 4 rfl ?_
              refine cx_aload_n C dX9_weighs_140 0 rfl ?_
              refine cx_aload_n C dX9_weighs_141 0 rfl ?_
              refine cx_get (v := .int m_second) (ci := 8) C iX9 dX9_weighs_142 0 rfl rfl 22 (by decide) hw_1076 rfl ?_
              obtain ⟨u97, e98, hf⟩ := cx_bd_at hf
              refine cx_Fvi (q := (RX9, TX9, 24)) (As := [.int m_second]) (rest := [.int x6_96]) (w1 := (wd_Model k m_a a_8 a_9 m_book m_images m_kept m_before m_refused m_quiet m_text m_typed m_at m_start m_token m_value m_items m_many a_10 m_likes m_without m_onePicture m_oneYear m_first m_second m_names)) hA C me_X9_years hw_1308 (c_X9_years l D k m_a a_8 a_9 m_book m_images m_kept m_before m_refused m_quiet m_text m_typed m_at m_start m_token m_value m_items m_many a_10 m_likes m_without m_onePicture m_oneYear m_first m_second m_names m_second u97 e98) dX9_weighs_145 ⟨Nat.le_of_ble_eq_true rfl, Nat.le_of_ble_eq_true rfl⟩ ⟨Nat.zero_le _, Nat.zero_le _⟩ rfl rfl (Nat.le_of_ble_eq_true rfl) rfl rfl rfl ?_
              clear e98
              refine cx_icmp_ge (tgt := 234) C dX9_weighs_148 (by decide) (fun c99 => ?_) (fun c99 => ?_)
              · have hf := cx_if_t hf c99
                clear c99
                refine cx_iinc (v := x5_91 + 1) (lv' := [(5, .int (x5_91 + 1)), (0, .ref (m_a 0)), (2, .int x2_11), (3, .long x3_95), (6, .int x6_96)]) C dX9_weighs_234 3 rfl rfl (by decide) rfl ?_
                refine cx_goto (tgt := 122) C dX9_weighs_237 (by decide) ?_
                refine cx_lv [1, 2, 3, 0] rfl ?_
                exact ih122 x3_95 (x5_91 + 1) hf
              · have hf := cx_if_f hf c99
                clear c99
                refine cx_aload_n C dX9_weighs_151 0 rfl ?_
                refine cx_get (v := .ref (m_a 3)) (ci := 8) C iX9 dX9_weighs_152 0 rfl rfl 2 (by decide) hw_1056 rfl ?_
                refine cx_bipush (v := 40) C dX9_weighs_155 (by decide) ?_
                refine cx_iconst (v := 2) C dX9_weighs_157 (by decide) ?_
                refine cx_aload_n C dX9_weighs_158 0 rfl ?_
                refine cx_get (v := .int m_first) (ci := 8) C iX9 dX9_weighs_159 0 rfl rfl 21 (by decide) hw_1075 rfl ?_
                refine cx_imul C dX9_weighs_162 ?_
                refine cx_iadd C dX9_weighs_163 ?_
                obtain ⟨g100, hf⟩ := cx_gd_at hf
                refine cx_iald C dX9_weighs_164 3 rfl (cx_ib_in g100) ?_
                clear g100
                refine cx_iload C dX9_weighs_165 3 rfl ?_
                refine cx_iadd C dX9_weighs_167 ?_
                refine cx_aload_n C dX9_weighs_168 0 rfl ?_
                refine cx_get (v := .ref (m_a 3)) (ci := 8) C iX9 dX9_weighs_169 0 rfl rfl 2 (by decide) hw_1056 rfl ?_
                refine cx_bipush (v := 40) C dX9_weighs_172 (by decide) ?_
                refine cx_iconst (v := 2) C dX9_weighs_174 (by decide) ?_
                refine cx_aload_n C dX9_weighs_175 0 rfl ?_
                refine cx_get (v := .int m_second) (ci := 8) C iX9 dX9_weighs_176 0 rfl rfl 22 (by decide) hw_1076 rfl ?_
                refine cx_imul C dX9_weighs_179 ?_
                refine cx_iadd C dX9_weighs_180 ?_
                obtain ⟨g101, hf⟩ := cx_gd_at hf
                refine cx_iald C dX9_weighs_181 3 rfl (cx_ib_in g101) ?_
                clear g101
                refine cx_iload C dX9_weighs_182 4 rfl ?_
                refine cx_iadd C dX9_weighs_184 ?_
                refine cx_icmp_ge (tgt := 192) C dX9_weighs_185 (by decide) (fun c102 => ?_) (fun c102 => ?_)
                · have hf := cx_if_t hf c102
                  clear c102
                  refine cx_iconst (v := 0) C dX9_weighs_192 (by decide) ?_
                  exact J193 0 hf
                · have hf := cx_if_f hf c102
                  clear c102
                  refine cx_iconst (v := 1) C dX9_weighs_188 (by decide) ?_
                  refine cx_goto (tgt := 193) C dX9_weighs_189 (by decide) ?_
                  exact J193 1 hf
          unfold f_X9_weighs_L122 at hf
          refine cx_iload C dX9_weighs_122 3 rfl ?_
          refine cx_aload_n C dX9_weighs_124 0 rfl ?_
          refine cx_aload_n C dX9_weighs_125 0 rfl ?_
          refine cx_get (v := .int m_first) (ci := 8) C iX9 dX9_weighs_126 0 rfl rfl 21 (by decide) hw_1075 rfl ?_
          obtain ⟨u92, e93, hf⟩ := cx_bd_at hf
          refine cx_Fvi (q := (RX9, TX9, 24)) (As := [.int m_first]) (rest := [.int x5_91]) (w1 := (wd_Model k m_a a_8 a_9 m_book m_images m_kept m_before m_refused m_quiet m_text m_typed m_at m_start m_token m_value m_items m_many a_10 m_likes m_without m_onePicture m_oneYear m_first m_second m_names)) hA C me_X9_years hw_1308 (c_X9_years l D k m_a a_8 a_9 m_book m_images m_kept m_before m_refused m_quiet m_text m_typed m_at m_start m_token m_value m_items m_many a_10 m_likes m_without m_onePicture m_oneYear m_first m_second m_names m_first u92 e93) dX9_weighs_129 ⟨Nat.le_of_ble_eq_true rfl, Nat.le_of_ble_eq_true rfl⟩ ⟨Nat.zero_le _, Nat.zero_le _⟩ rfl rfl (Nat.le_of_ble_eq_true rfl) rfl rfl rfl ?_
          clear e93
          refine cx_icmp_ge (tgt := 240) C dX9_weighs_132 (by decide) (fun c94 => ?_) (fun c94 => ?_)
          · have hf := cx_if_t hf c94
            clear c94
            refine cx_goto (tgt := 245) C dX9_weighs_240 (by decide) ?_
            refine cx_lv [0, 1, 2] rfl ?_
            exact J245 x3_90 hf
          · have hf := cx_if_f hf c94
            clear c94
            refine cx_iconst (v := 0) C dX9_weighs_135 (by decide) ?_
            refine cx_istore (lv' := [(6, .int 0), (0, .ref (m_a 0)), (2, .int x2_11), (3, .long x3_90), (5, .int x5_91)]) C dX9_weighs_136 (by decide) rfl ?_
            refine cx_lv [1, 2, 3, 4, 0] rfl ?_
            exact L138 cx_N0 x3_90 0 hf
      have J111 : ∀ (x3_88 : Int64), f_X9_weighs_J111 m_book m_likes m_first m_second a_8 a_9 a_10 x2_11 (f_X9_weighs_L22w m_book m_likes m_without m_onePicture m_oneYear m_first m_second a_10 n22) x3_88 = some y → cx_S p l e (cx_rm 5) s m args below meth c A D 8 0 0 Q 111 [(0, .ref (m_a 0)), (2, .int x2_11), (3, .long x3_88)] [] (wd_Model k m_a a_8 a_9 m_book m_images m_kept m_before m_refused m_quiet m_text m_typed m_at m_start m_token m_value m_items m_many a_10 m_likes m_without m_onePicture m_oneYear m_first m_second m_names) := by
        intro x3_88 hf
        unfold f_X9_weighs_J111 at hf
        refine cx_iload_n C dX9_weighs_111 1 rfl ?_
        refine cx_aload_n C dX9_weighs_112 0 rfl ?_
        refine cx_get (v := .int m_first) (ci := 8) C iX9 dX9_weighs_113 0 rfl rfl 21 (by decide) hw_1075 rfl ?_
        refine cx_icmp_ne (tgt := 243) C dX9_weighs_116 (by decide) (fun c89 => ?_) (fun c89 => ?_)
        · have hf := cx_if_f hf c89
          clear c89
          refine cx_lconst (v := 1) C dX9_weighs_243 (by decide) ?_
          refine cx_lstore_n (lv' := [(3, .long 1), (0, .ref (m_a 0)), (2, .int x2_11)]) C dX9_weighs_244 rfl (by decide) rfl ?_
          refine cx_lv [1, 2, 0] rfl ?_
          exact J245 1 hf
        · have hf := cx_if_t hf c89
          clear c89
          refine cx_iconst (v := 0) C dX9_weighs_119 (by decide) ?_
          refine cx_istore (lv' := [(5, .int 0), (0, .ref (m_a 0)), (2, .int x2_11), (3, .long x3_88)]) C dX9_weighs_120 (by decide) rfl ?_
          refine cx_lv [1, 2, 3, 0] rfl ?_
          exact L122 cx_N0 x3_88 0 hf
      unfold f_X9_weighs_L22 at hf
      refine cx_iload_n C dX9_weighs_22 1 rfl ?_
      refine cx_aload_n C dX9_weighs_23 0 rfl ?_
      refine cx_get (v := .ref (m_a 3)) (ci := 8) C iX9 dX9_weighs_24 0 rfl rfl 2 (by decide) hw_1056 rfl ?_
      refine cx_iconst (v := 1) C dX9_weighs_27 (by decide) ?_
      obtain ⟨g12, hf⟩ := cx_gd_at hf
      refine cx_iald C dX9_weighs_28 3 rfl (cx_ib_in g12) ?_
      clear g12
      refine cx_icmp_ge (tgt := 265) C dX9_weighs_29 (by decide) (fun c13 => ?_) (fun c13 => ?_)
      · have hf := cx_if_t hf c13
        clear c13
        refine cx_iconst (v := 0) C dX9_weighs_265 (by decide) ?_
        refine cx_istore_n (lv' := [(2, .int 0), (0, .ref (m_a 0))]) C dX9_weighs_266 rfl (by decide) rfl ?_
        refine cx_lv [1, 0] rfl ?_
        exact L267 a_10 cx_N0 a_8 a_9 0 hf
      · have hf := cx_if_f hf c13
        clear c13
        refine cx_lconst (v := 0) C dX9_weighs_32 (by decide) ?_
        refine cx_lstore_n (lv' := [(3, .long 0), (0, .ref (m_a 0)), (2, .int x2_11)]) C dX9_weighs_33 rfl (by decide) rfl ?_
        refine cx_aload_n C dX9_weighs_34 1 rfl ?_
        refine cx_get (v := .int m_first) (ci := 8) C iX9 dX9_weighs_35 0 rfl rfl 21 (by decide) hw_1075 rfl ?_
        refine cx_iconst (v := (-1)) C dX9_weighs_38 (by decide) ?_
        refine cx_icmp_eq (tgt := 58) C dX9_weighs_39 (by decide) (fun c71 => ?_) (fun c71 => ?_)
        · have hf := cx_if_t hf c71
          clear c71
          refine cx_lv [1, 2, 0] rfl ?_
          exact J58 0 hf
        · have hf := cx_if_f hf c71
          clear c71
          refine cx_iload_n C dX9_weighs_42 2 rfl ?_
          refine cx_aload_n C dX9_weighs_43 1 rfl ?_
          refine cx_get (v := .int m_first) (ci := 8) C iX9 dX9_weighs_44 0 rfl rfl 21 (by decide) hw_1075 rfl ?_
          refine cx_icmp_eq (tgt := 111) C dX9_weighs_47 (by decide) (fun c87 => ?_) (fun c87 => ?_)
          · have hf := cx_if_t hf c87
            clear c87
            refine cx_lv [1, 2, 0] rfl ?_
            exact J111 0 hf
          · have hf := cx_if_f hf c87
            clear c87
            refine cx_iload_n C dX9_weighs_50 2 rfl ?_
            refine cx_aload_n C dX9_weighs_51 1 rfl ?_
            refine cx_get (v := .int m_second) (ci := 8) C iX9 dX9_weighs_52 0 rfl rfl 22 (by decide) hw_1076 rfl ?_
            refine cx_icmp_eq (tgt := 111) C dX9_weighs_55 (by decide) (fun c110 => ?_) (fun c110 => ?_)
            · have hf := cx_if_t hf c110
              clear c110
              refine cx_lv [1, 2, 0] rfl ?_
              exact J111 0 hf
            · have hf := cx_if_f hf c110
              clear c110
              refine cx_lv [1, 2, 0] rfl ?_
              exact J58 0 hf
  unfold f_X9_weighs at hf
  refine cx_aload_n C dX9_weighs_0 0 rfl ?_
  refine cx_iload_n C dX9_weighs_1 1 rfl ?_
  obtain ⟨u1, e2, hf⟩ := cx_bd_at hf
  refine cx_Fvv (q := (RX9, TX9, 24)) (As := [.int p1]) (rest := []) (w1 := (wd_Model k m_a m_limbs m_wide m_book m_images m_kept m_before m_refused m_quiet m_text m_typed m_at m_start m_token m_value m_items m_many u1 m_likes m_without m_onePicture m_oneYear m_first m_second m_names)) hA C me_X9_picks hw_1300 (c_X9_picks l D k m_a m_limbs m_wide m_book m_images m_kept m_before m_refused m_quiet m_text m_typed m_at m_start m_token m_value m_items m_many m_is m_likes m_without m_onePicture m_oneYear m_first m_second m_names p1 u1 e2) dX9_weighs_2 ⟨Nat.le_of_ble_eq_true rfl, Nat.le_of_ble_eq_true rfl⟩ ⟨Nat.zero_le _, Nat.zero_le _⟩ rfl rfl (Nat.le_of_ble_eq_true rfl) rfl rfl rfl ?_
  clear e2
  refine cx_aload_n C dX9_weighs_5 0 rfl ?_
  obtain ⟨u3, e4, hf⟩ := cx_bd_at hf
  refine cx_Fvi (q := (RX9, TX9, 24)) (As := []) (rest := []) (w1 := (wd_Model k m_a m_limbs m_wide m_book m_images m_kept m_before m_refused m_quiet m_text m_typed m_at m_start m_token m_value m_items m_many u1 m_likes m_without m_onePicture m_oneYear m_first m_second m_names)) hA C me_X9_isTwice hw_1304 (c_X9_isTwice l D k m_a m_limbs m_wide m_book m_images m_kept m_before m_refused m_quiet m_text m_typed m_at m_start m_token m_value m_items m_many u1 m_likes m_without m_onePicture m_oneYear m_first m_second m_names u3 e4) dX9_weighs_6 ⟨Nat.le_of_ble_eq_true rfl, Nat.le_of_ble_eq_true rfl⟩ ⟨Nat.zero_le _, Nat.zero_le _⟩ rfl rfl (Nat.le_of_ble_eq_true rfl) rfl rfl rfl ?_
  clear e4
  refine cx_if_eq (tgt := 14) C dX9_weighs_9 (by decide) (fun c5 => ?_) (fun c5 => ?_)
  · have hf := cx_if_t hf c5
    clear c5
    refine cx_aload_n C dX9_weighs_14 0 rfl ?_
    refine cx_iconst (v := 5) C dX9_weighs_15 (by decide) ?_
    refine cx_lconst (v := 1) C dX9_weighs_16 (by decide) ?_
    obtain ⟨u6, e7, hf⟩ := cx_bd_at hf
    refine cx_Fvv (q := (RX9, TX9, 24)) (As := [.int 5, .long 1]) (rest := []) (w1 := (wd_Model k m_a u6.1 u6.2 m_book m_images m_kept m_before m_refused m_quiet m_text m_typed m_at m_start m_token m_value m_items m_many u1 m_likes m_without m_onePicture m_oneYear m_first m_second m_names)) hA C me_X9_sets hw_1045 (c_X9_sets l D k m_a m_limbs m_wide m_book m_images m_kept m_before m_refused m_quiet m_text m_typed m_at m_start m_token m_value m_items m_many u1 m_likes m_without m_onePicture m_oneYear m_first m_second m_names 5 1 u6 e7) dX9_weighs_17 ⟨Nat.le_of_ble_eq_true rfl, Nat.le_of_ble_eq_true rfl⟩ ⟨Nat.zero_le _, Nat.zero_le _⟩ rfl rfl (Nat.le_of_ble_eq_true rfl) rfl rfl rfl ?_
    clear e7
    refine cx_iconst (v := 0) C dX9_weighs_20 (by decide) ?_
    refine cx_istore_n (lv' := [(2, .int 0), (0, .ref (m_a 0)), (1, .int p1)]) C dX9_weighs_21 rfl (by decide) rfl ?_
    refine cx_lv [1, 0] rfl ?_
    exact L22 u1 cx_N0 u6.1 u6.2 0 hf
  · have hf := cx_if_f hf c5
    clear c5
    refine cx_iconst (v := 0) C dX9_weighs_12 (by decide) ?_
    obtain rfl := Option.some.inj hf
    exact cx_zret C hA hQ hr hlk dX9_weighs_13 rfl rfl rfl
theorem dX9_isOn_0 : decode cX9_isOn 0 = .ok (.iconst 0, 1) := by decide +kernel
theorem dX9_isOn_1 : decode cX9_isOn 1 = .ok (.istore_n 3, 1) := by decide +kernel
theorem dX9_isOn_2 : decode cX9_isOn 2 = .ok (.iconst 0, 1) := by decide +kernel
theorem dX9_isOn_3 : decode cX9_isOn 3 = .ok (.istore 4, 2) := by decide +kernel
theorem dX9_isOn_5 : decode cX9_isOn 5 = .ok (.iload 4, 2) := by decide +kernel
theorem dX9_isOn_7 : decode cX9_isOn 7 = .ok (.aload_n 0, 1) := by decide +kernel
theorem dX9_isOn_8 : decode cX9_isOn 8 = .ok (.getfield 51, 3) := by decide +kernel
theorem dX9_isOn_11 : decode cX9_isOn 11 = .ok (.iconst 2, 1) := by decide +kernel
theorem dX9_isOn_12 : decode cX9_isOn 12 = .ok (.iaload, 1) := by decide +kernel
theorem dX9_isOn_13 : decode cX9_isOn 13 = .ok (.if_icmp .ge 41, 3) := by decide +kernel
theorem dX9_isOn_16 : decode cX9_isOn 16 = .ok (.iload_n 3, 1) := by decide +kernel
theorem dX9_isOn_17 : decode cX9_isOn 17 = .ok (.ifCond .ne 25, 3) := by decide +kernel
theorem dX9_isOn_20 : decode cX9_isOn 20 = .ok (.aload_n 0, 1) := by decide +kernel
theorem dX9_isOn_21 : decode cX9_isOn 21 = .ok (.iload 4, 2) := by decide +kernel
theorem dX9_isOn_23 : decode cX9_isOn 23 = .ok (.iconst 0, 1) := by decide +kernel
theorem dX9_isOn_24 : decode cX9_isOn 24 = .ok (.invokevirtual 122, 3) := by decide +kernel
theorem dX9_isOn_27 : decode cX9_isOn 27 = .ok (.iload_n 2, 1) := by decide +kernel
theorem dX9_isOn_28 : decode cX9_isOn 28 = .ok (.if_icmp .ne 18, 3) := by decide +kernel
theorem dX9_isOn_31 : decode cX9_isOn 31 = .ok (.aload_n 0, 1) := by decide +kernel
theorem dX9_isOn_32 : decode cX9_isOn 32 = .ok (.getfield 73, 3) := by decide +kernel
theorem dX9_isOn_35 : decode cX9_isOn 35 = .ok (.iload 4, 2) := by decide +kernel
theorem dX9_isOn_37 : decode cX9_isOn 37 = .ok (.iaload, 1) := by decide +kernel
theorem dX9_isOn_38 : decode cX9_isOn 38 = .ok (.iload_n 1, 1) := by decide +kernel
theorem dX9_isOn_39 : decode cX9_isOn 39 = .ok (.if_icmp .ne 7, 3) := by decide +kernel
theorem dX9_isOn_42 : decode cX9_isOn 42 = .ok (.iconst 1, 1) := by decide +kernel
theorem dX9_isOn_43 : decode cX9_isOn 43 = .ok (.goto 4, 3) := by decide +kernel
theorem dX9_isOn_46 : decode cX9_isOn 46 = .ok (.iconst 0, 1) := by decide +kernel
theorem dX9_isOn_47 : decode cX9_isOn 47 = .ok (.istore_n 3, 1) := by decide +kernel
theorem dX9_isOn_48 : decode cX9_isOn 48 = .ok (.iinc 4 1, 3) := by decide +kernel
theorem dX9_isOn_51 : decode cX9_isOn 51 = .ok (.goto (-46), 3) := by decide +kernel
theorem dX9_isOn_54 : decode cX9_isOn 54 = .ok (.iload_n 3, 1) := by decide +kernel
theorem dX9_isOn_55 : decode cX9_isOn 55 = .ok (.ireturn, 1) := by decide +kernel
theorem me_X9_isOn : cx_Mv yX9_isOn cX9_isOn 5 (some .boolean) 2 := ⟨⟨⟨by decide +kernel, by decide +kernel, by decide +kernel⟩, hw_11, hw_1396⟩, hw_1395, hs_78⟩
noncomputable def f_X9_isOn_J47 (x4_2 : Int32) (rc5 : Int32 → Int32 → Option Int32) (s0_7 : Int32) : Option Int32 := rc5 s0_7 (x4_2 + 1)
noncomputable def f_X9_isOn_J42 (x4_2 : Int32) (rc5 : Int32 → Int32 → Option Int32) : Option Int32 := f_X9_isOn_J47 x4_2 rc5 1
noncomputable def f_X9_isOn_J46 (x4_2 : Int32) (rc5 : Int32 → Int32 → Option Int32) : Option Int32 := f_X9_isOn_J47 x4_2 rc5 0
noncomputable def f_X9_isOn_L5 (m_book : Nat → Int32) (m_is : Nat → Int32) (p1 : Int32) (p2 : Int32) (rc5 : Int32 → Int32 → Option Int32) (x3_1 : Int32) (x4_2 : Int32) : Option Int32 := cx_gd (cx_ib 2 140) (if (m_book (cx_ix 2)) ≤ x4_2 then (cx_gd (decide (x3_1 = 0 ∨ x3_1 = 1)) (some x3_1)) else (if x3_1 = 0 then (Option.bind (f_X9_ofHead m_book x4_2 0) (fun u8 => if u8 = p2 then (cx_gd (cx_ib x4_2 6) (if (m_is (cx_ix x4_2)) = p1 then (f_X9_isOn_J42 x4_2 rc5) else (f_X9_isOn_J46 x4_2 rc5))) else (f_X9_isOn_J46 x4_2 rc5))) else (f_X9_isOn_J42 x4_2 rc5)))
noncomputable def f_X9_isOn_L5w (m_book : Nat → Int32) (m_is : Nat → Int32) (p1 : Int32) (p2 : Int32) (n : Nat) : Int32 → Int32 → Option Int32 := Nat.rec (fun _ _ => none) (fun _ r => f_X9_isOn_L5 m_book m_is p1 p2 r) n
noncomputable def f_X9_isOn (m_book : Nat → Int32) (m_is : Nat → Int32) (p1 : Int32) (p2 : Int32) : Option Int32 := f_X9_isOn_L5w m_book m_is p1 p2 cx_N0 0 0
set_option maxHeartbeats 4000000 in
set_option maxRecDepth 100000 in
theorem c_X9_isOn (l : Launch) (D : va_G) (k : Nat → ClassId) (m_a : Nat → Nat) (m_limbs : Nat → Int32) (m_wide : Nat → Int32) (m_book : Nat → Int32) (m_images : Nat → Int32) (m_kept : Nat → Int32) (m_before : Nat → Int32) (m_refused : Nat → Int32) (m_quiet : Int32) (m_text : Nat → Int32) (m_typed : Int32) (m_at : Int32) (m_start : Int32) (m_token : Int32) (m_value : Int32) (m_items : Nat → Int32) (m_many : Int32) (m_is : Nat → Int32) (m_likes : Nat → Int32) (m_without : Int32) (m_onePicture : Int32) (m_oneYear : Int32) (m_first : Int32) (m_second : Int32) (m_names : Nat → Int32) (p1 : Int32) (p2 : Int32) (y : Int32) (hf : f_X9_isOn m_book m_is p1 p2 = some y) : cx_M l yX9_isOn cX9_isOn 5 (some .boolean) 2 D k [.ref (m_a 0), .int p1, .int p2] (wd_Model k m_a m_limbs m_wide m_book m_images m_kept m_before m_refused m_quiet m_text m_typed m_at m_start m_token m_value m_items m_many m_is m_likes m_without m_onePicture m_oneYear m_first m_second m_names) (fun sz => cx_Qi D y (wd_Model k m_a m_limbs m_wide m_book m_images m_kept m_before m_refused m_quiet m_text m_typed m_at m_start m_token m_value m_items m_many m_is m_likes m_without m_onePicture m_oneYear m_first m_second m_names) (wd_Model k m_a m_limbs m_wide m_book m_images m_kept m_before m_refused m_quiet m_text m_typed m_at m_start m_token m_value m_items m_many m_is m_likes m_without m_onePicture m_oneYear m_first m_second m_names) sz) := by
  refine cx_met (own := "NamelessBoxModel") (by decide) rfl (Nat.le_of_ble_eq_true rfl) ?_
  intro p e s m args below meth c A Q C hA hQ hr hlk
  refine cx_lv (lv' := [(0, .ref (m_a 0)), (1, .int p1), (2, .int p2)]) [0, 1, 2] rfl ?_
  have L5 : ∀ (n5 : Nat) (x3_1 : Int32) (x4_2 : Int32), f_X9_isOn_L5w m_book m_is p1 p2 n5 x3_1 x4_2 = some y → cx_S p l e (cx_rm 2) s m args below meth c A D 5 0 0 Q 5 [(0, .ref (m_a 0)), (1, .int p1), (2, .int p2), (3, .int x3_1), (4, .int x4_2)] [] (wd_Model k m_a m_limbs m_wide m_book m_images m_kept m_before m_refused m_quiet m_text m_typed m_at m_start m_token m_value m_items m_many m_is m_likes m_without m_onePicture m_oneYear m_first m_second m_names) := by
    intro  n5
    induction n5 with
    | zero =>
      intro x3_1 x4_2 hf
      exact absurd (show (none : Option Int32) = some y from hf) (fun h => by cases h)
    | succ n5 ih5 =>
      intro x3_1 x4_2 hf
      have hf : f_X9_isOn_L5 m_book m_is p1 p2 (f_X9_isOn_L5w m_book m_is p1 p2 n5) x3_1 x4_2 = some y := hf
      have J47 : ∀ (s0_7 : Int32), f_X9_isOn_J47 x4_2 (f_X9_isOn_L5w m_book m_is p1 p2 n5) s0_7 = some y → cx_S p l e (cx_rm 2) s m args below meth c A D 5 0 0 Q 47 [(0, .ref (m_a 0)), (1, .int p1), (2, .int p2), (4, .int x4_2)] [.int s0_7] (wd_Model k m_a m_limbs m_wide m_book m_images m_kept m_before m_refused m_quiet m_text m_typed m_at m_start m_token m_value m_items m_many m_is m_likes m_without m_onePicture m_oneYear m_first m_second m_names) := by
        intro s0_7 hf
        unfold f_X9_isOn_J47 at hf
        refine cx_istore_n (lv' := [(3, .int s0_7), (0, .ref (m_a 0)), (1, .int p1), (2, .int p2), (4, .int x4_2)]) C dX9_isOn_47 rfl (by decide) rfl ?_
        refine cx_iinc (v := x4_2 + 1) (lv' := [(4, .int (x4_2 + 1)), (3, .int s0_7), (0, .ref (m_a 0)), (1, .int p1), (2, .int p2)]) C dX9_isOn_48 4 rfl rfl (by decide) rfl ?_
        refine cx_goto (tgt := 5) C dX9_isOn_51 (by decide) ?_
        refine cx_lv [2, 3, 4, 1, 0] rfl ?_
        exact ih5 s0_7 (x4_2 + 1) hf
      have J42 : f_X9_isOn_J42 x4_2 (f_X9_isOn_L5w m_book m_is p1 p2 n5) = some y → cx_S p l e (cx_rm 2) s m args below meth c A D 5 0 0 Q 42 [(0, .ref (m_a 0)), (1, .int p1), (2, .int p2), (4, .int x4_2)] [] (wd_Model k m_a m_limbs m_wide m_book m_images m_kept m_before m_refused m_quiet m_text m_typed m_at m_start m_token m_value m_items m_many m_is m_likes m_without m_onePicture m_oneYear m_first m_second m_names) := by
        intro  hf
        unfold f_X9_isOn_J42 at hf
        refine cx_iconst (v := 1) C dX9_isOn_42 (by decide) ?_
        refine cx_goto (tgt := 47) C dX9_isOn_43 (by decide) ?_
        exact J47 1 hf
      have J46 : f_X9_isOn_J46 x4_2 (f_X9_isOn_L5w m_book m_is p1 p2 n5) = some y → cx_S p l e (cx_rm 2) s m args below meth c A D 5 0 0 Q 46 [(0, .ref (m_a 0)), (1, .int p1), (2, .int p2), (4, .int x4_2)] [] (wd_Model k m_a m_limbs m_wide m_book m_images m_kept m_before m_refused m_quiet m_text m_typed m_at m_start m_token m_value m_items m_many m_is m_likes m_without m_onePicture m_oneYear m_first m_second m_names) := by
        intro  hf
        unfold f_X9_isOn_J46 at hf
        refine cx_iconst (v := 0) C dX9_isOn_46 (by decide) ?_
        exact J47 0 hf
      unfold f_X9_isOn_L5 at hf
      refine cx_iload C dX9_isOn_5 4 rfl ?_
      refine cx_aload_n C dX9_isOn_7 0 rfl ?_
      refine cx_get (v := .ref (m_a 3)) (ci := 8) C iX9 dX9_isOn_8 0 rfl rfl 2 (by decide) hw_1056 rfl ?_
      refine cx_iconst (v := 2) C dX9_isOn_11 (by decide) ?_
      obtain ⟨g3, hf⟩ := cx_gd_at hf
      refine cx_iald C dX9_isOn_12 3 rfl (cx_ib_in g3) ?_
      clear g3
      refine cx_icmp_ge (tgt := 54) C dX9_isOn_13 (by decide) (fun c4 => ?_) (fun c4 => ?_)
      · have hf := cx_if_t hf c4
        clear c4
        refine cx_iload_n C dX9_isOn_54 3 rfl ?_
        obtain ⟨b5, hf⟩ := cx_gd_at hf
        obtain rfl := Option.some.inj hf
        exact cx_zret C hA hQ hr hlk dX9_isOn_55 (cx_nz (of_decide_eq_true b5)).1 rfl rfl
      · have hf := cx_if_f hf c4
        clear c4
        refine cx_iload_n C dX9_isOn_16 3 rfl ?_
        refine cx_if_ne (tgt := 42) C dX9_isOn_17 (by decide) (fun c6 => ?_) (fun c6 => ?_)
        · have hf := cx_if_f hf c6
          clear c6
          refine cx_lv [0, 1, 2, 4] rfl ?_
          exact J42 hf
        · have hf := cx_if_t hf c6
          clear c6
          refine cx_aload_n C dX9_isOn_20 0 rfl ?_
          refine cx_iload C dX9_isOn_21 4 rfl ?_
          refine cx_iconst (v := 0) C dX9_isOn_23 (by decide) ?_
          obtain ⟨u8, e9, hf⟩ := cx_bd_at hf
          refine cx_Fvi (q := (RX9, TX9, 24)) (As := [.int x4_2, .int 0]) (rest := []) (w1 := (wd_Model k m_a m_limbs m_wide m_book m_images m_kept m_before m_refused m_quiet m_text m_typed m_at m_start m_token m_value m_items m_many m_is m_likes m_without m_onePicture m_oneYear m_first m_second m_names)) hA C me_X9_ofHead hw_1191 (c_X9_ofHead l D k m_a m_limbs m_wide m_book m_images m_kept m_before m_refused m_quiet m_text m_typed m_at m_start m_token m_value m_items m_many m_is m_likes m_without m_onePicture m_oneYear m_first m_second m_names x4_2 0 u8 e9) dX9_isOn_24 ⟨Nat.le_of_ble_eq_true rfl, Nat.le_of_ble_eq_true rfl⟩ ⟨Nat.zero_le _, Nat.zero_le _⟩ rfl rfl (Nat.le_of_ble_eq_true rfl) rfl rfl rfl ?_
          clear e9
          refine cx_iload_n C dX9_isOn_27 2 rfl ?_
          refine cx_icmp_ne (tgt := 46) C dX9_isOn_28 (by decide) (fun c10 => ?_) (fun c10 => ?_)
          · have hf := cx_if_f hf c10
            clear c10
            refine cx_lv [0, 1, 2, 4] rfl ?_
            exact J46 hf
          · have hf := cx_if_t hf c10
            clear c10
            refine cx_aload_n C dX9_isOn_31 0 rfl ?_
            refine cx_get (v := .ref (m_a 10)) (ci := 8) C iX9 dX9_isOn_32 0 rfl rfl 16 (by decide) hw_1070 rfl ?_
            refine cx_iload C dX9_isOn_35 4 rfl ?_
            obtain ⟨g11, hf⟩ := cx_gd_at hf
            refine cx_iald C dX9_isOn_37 10 rfl (cx_ib_in g11) ?_
            clear g11
            refine cx_iload_n C dX9_isOn_38 1 rfl ?_
            refine cx_icmp_ne (tgt := 46) C dX9_isOn_39 (by decide) (fun c12 => ?_) (fun c12 => ?_)
            · have hf := cx_if_f hf c12
              clear c12
              refine cx_lv [0, 1, 2, 4] rfl ?_
              exact J46 hf
            · have hf := cx_if_t hf c12
              clear c12
              refine cx_lv [0, 1, 2, 4] rfl ?_
              exact J42 hf
  unfold f_X9_isOn at hf
  refine cx_iconst (v := 0) C dX9_isOn_0 (by decide) ?_
  refine cx_istore_n (lv' := [(3, .int 0), (0, .ref (m_a 0)), (1, .int p1), (2, .int p2)]) C dX9_isOn_1 rfl (by decide) rfl ?_
  refine cx_iconst (v := 0) C dX9_isOn_2 (by decide) ?_
  refine cx_istore (lv' := [(4, .int 0), (3, .int 0), (0, .ref (m_a 0)), (1, .int p1), (2, .int p2)]) C dX9_isOn_3 (by decide) rfl ?_
  refine cx_lv [2, 3, 4, 1, 0] rfl ?_
  exact L5 cx_N0 0 0 hf
theorem dX9_counts_0 : decode cX9_counts 0 = .ok (.iload_n 1, 1) := by decide +kernel
theorem dX9_counts_1 : decode cX9_counts 1 = .ok (.iconst 1, 1) := by decide +kernel
theorem dX9_counts_2 : decode cX9_counts 2 = .ok (.if_icmp .ne 34, 3) := by decide +kernel
theorem dX9_counts_5 : decode cX9_counts 5 = .ok (.aload_n 0, 1) := by decide +kernel
theorem dX9_counts_6 : decode cX9_counts 6 = .ok (.getfield 73, 3) := by decide +kernel
theorem dX9_counts_9 : decode cX9_counts 9 = .ok (.iload_n 2, 1) := by decide +kernel
theorem dX9_counts_10 : decode cX9_counts 10 = .ok (.iaload, 1) := by decide +kernel
theorem dX9_counts_11 : decode cX9_counts 11 = .ok (.aload_n 0, 1) := by decide +kernel
theorem dX9_counts_12 : decode cX9_counts 12 = .ok (.getfield 73, 3) := by decide +kernel
theorem dX9_counts_15 : decode cX9_counts 15 = .ok (.iload_n 3, 1) := by decide +kernel
theorem dX9_counts_16 : decode cX9_counts 16 = .ok (.iaload, 1) := by decide +kernel
theorem dX9_counts_17 : decode cX9_counts 17 = .ok (.if_icmp .ne 17, 3) := by decide +kernel
theorem dX9_counts_20 : decode cX9_counts 20 = .ok (.aload_n 0, 1) := by decide +kernel
theorem dX9_counts_21 : decode cX9_counts 21 = .ok (.getfield 73, 3) := by decide +kernel
theorem dX9_counts_24 : decode cX9_counts 24 = .ok (.iload_n 2, 1) := by decide +kernel
theorem dX9_counts_25 : decode cX9_counts 25 = .ok (.iaload, 1) := by decide +kernel
theorem dX9_counts_26 : decode cX9_counts 26 = .ok (.iconst 5, 1) := by decide +kernel
theorem dX9_counts_27 : decode cX9_counts 27 = .ok (.if_icmp .eq 7, 3) := by decide +kernel
theorem dX9_counts_30 : decode cX9_counts 30 = .ok (.iconst 1, 1) := by decide +kernel
theorem dX9_counts_31 : decode cX9_counts 31 = .ok (.goto 4, 3) := by decide +kernel
theorem dX9_counts_34 : decode cX9_counts 34 = .ok (.iconst 0, 1) := by decide +kernel
theorem dX9_counts_35 : decode cX9_counts 35 = .ok (.ireturn, 1) := by decide +kernel
theorem dX9_counts_36 : decode cX9_counts 36 = .ok (.iload_n 1, 1) := by decide +kernel
theorem dX9_counts_37 : decode cX9_counts 37 = .ok (.iconst 2, 1) := by decide +kernel
theorem dX9_counts_38 : decode cX9_counts 38 = .ok (.if_icmp .ne 59, 3) := by decide +kernel
theorem dX9_counts_41 : decode cX9_counts 41 = .ok (.iconst 0, 1) := by decide +kernel
theorem dX9_counts_42 : decode cX9_counts 42 = .ok (.istore 4, 2) := by decide +kernel
theorem dX9_counts_44 : decode cX9_counts 44 = .ok (.iconst 0, 1) := by decide +kernel
theorem dX9_counts_45 : decode cX9_counts 45 = .ok (.istore 5, 2) := by decide +kernel
theorem dX9_counts_47 : decode cX9_counts 47 = .ok (.iload 5, 2) := by decide +kernel
theorem dX9_counts_49 : decode cX9_counts 49 = .ok (.aload_n 0, 1) := by decide +kernel
theorem dX9_counts_50 : decode cX9_counts 50 = .ok (.getfield 51, 3) := by decide +kernel
theorem dX9_counts_53 : decode cX9_counts 53 = .ok (.iconst 1, 1) := by decide +kernel
theorem dX9_counts_54 : decode cX9_counts 54 = .ok (.iaload, 1) := by decide +kernel
theorem dX9_counts_55 : decode cX9_counts 55 = .ok (.if_icmp .ge 31, 3) := by decide +kernel
theorem dX9_counts_58 : decode cX9_counts 58 = .ok (.iload 4, 2) := by decide +kernel
theorem dX9_counts_60 : decode cX9_counts 60 = .ok (.ifCond .ne 13, 3) := by decide +kernel
theorem dX9_counts_63 : decode cX9_counts 63 = .ok (.aload_n 0, 1) := by decide +kernel
theorem dX9_counts_64 : decode cX9_counts 64 = .ok (.iload_n 2, 1) := by decide +kernel
theorem dX9_counts_65 : decode cX9_counts 65 = .ok (.iload 5, 2) := by decide +kernel
theorem dX9_counts_67 : decode cX9_counts 67 = .ok (.invokevirtual 269, 3) := by decide +kernel
theorem dX9_counts_70 : decode cX9_counts 70 = .ok (.ifCond .eq 7, 3) := by decide +kernel
theorem dX9_counts_73 : decode cX9_counts 73 = .ok (.iconst 1, 1) := by decide +kernel
theorem dX9_counts_74 : decode cX9_counts 74 = .ok (.goto 4, 3) := by decide +kernel
theorem dX9_counts_77 : decode cX9_counts 77 = .ok (.iconst 0, 1) := by decide +kernel
theorem dX9_counts_78 : decode cX9_counts 78 = .ok (.istore 4, 2) := by decide +kernel
theorem dX9_counts_80 : decode cX9_counts 80 = .ok (.iinc 5 1, 3) := by decide +kernel
theorem dX9_counts_83 : decode cX9_counts 83 = .ok (.goto (-36), 3) := by decide +kernel
theorem dX9_counts_86 : decode cX9_counts 86 = .ok (.iload 4, 2) := by decide +kernel
theorem dX9_counts_88 : decode cX9_counts 88 = .ok (.ifCond .eq 7, 3) := by decide +kernel
theorem dX9_counts_91 : decode cX9_counts 91 = .ok (.iconst 0, 1) := by decide +kernel
theorem dX9_counts_92 : decode cX9_counts 92 = .ok (.goto 4, 3) := by decide +kernel
theorem dX9_counts_95 : decode cX9_counts 95 = .ok (.iconst 1, 1) := by decide +kernel
theorem dX9_counts_96 : decode cX9_counts 96 = .ok (.ireturn, 1) := by decide +kernel
theorem dX9_counts_97 : decode cX9_counts 97 = .ok (.iload_n 1, 1) := by decide +kernel
theorem dX9_counts_98 : decode cX9_counts 98 = .ok (.iconst 3, 1) := by decide +kernel
theorem dX9_counts_99 : decode cX9_counts 99 = .ok (.if_icmp .ne 65, 3) := by decide +kernel
theorem dX9_counts_102 : decode cX9_counts 102 = .ok (.iconst 0, 1) := by decide +kernel
theorem dX9_counts_103 : decode cX9_counts 103 = .ok (.istore 4, 2) := by decide +kernel
theorem dX9_counts_105 : decode cX9_counts 105 = .ok (.iconst 0, 1) := by decide +kernel
theorem dX9_counts_106 : decode cX9_counts 106 = .ok (.istore 5, 2) := by decide +kernel
theorem dX9_counts_108 : decode cX9_counts 108 = .ok (.iload 5, 2) := by decide +kernel
theorem dX9_counts_110 : decode cX9_counts 110 = .ok (.aload_n 0, 1) := by decide +kernel
theorem dX9_counts_111 : decode cX9_counts 111 = .ok (.getfield 51, 3) := by decide +kernel
theorem dX9_counts_114 : decode cX9_counts 114 = .ok (.iconst 2, 1) := by decide +kernel
theorem dX9_counts_115 : decode cX9_counts 115 = .ok (.iaload, 1) := by decide +kernel
theorem dX9_counts_116 : decode cX9_counts 116 = .ok (.if_icmp .ge 45, 3) := by decide +kernel
theorem dX9_counts_119 : decode cX9_counts 119 = .ok (.iload 4, 2) := by decide +kernel
theorem dX9_counts_121 : decode cX9_counts 121 = .ok (.aload_n 0, 1) := by decide +kernel
theorem dX9_counts_122 : decode cX9_counts 122 = .ok (.getfield 73, 3) := by decide +kernel
theorem dX9_counts_125 : decode cX9_counts 125 = .ok (.iload 5, 2) := by decide +kernel
theorem dX9_counts_127 : decode cX9_counts 127 = .ok (.iaload, 1) := by decide +kernel
theorem dX9_counts_128 : decode cX9_counts 128 = .ok (.iconst 5, 1) := by decide +kernel
theorem dX9_counts_129 : decode cX9_counts 129 = .ok (.if_icmp .ne 22, 3) := by decide +kernel
theorem dX9_counts_132 : decode cX9_counts 132 = .ok (.aload_n 0, 1) := by decide +kernel
theorem dX9_counts_133 : decode cX9_counts 133 = .ok (.iload_n 2, 1) := by decide +kernel
theorem dX9_counts_134 : decode cX9_counts 134 = .ok (.aload_n 0, 1) := by decide +kernel
theorem dX9_counts_135 : decode cX9_counts 135 = .ok (.iload 5, 2) := by decide +kernel
theorem dX9_counts_137 : decode cX9_counts 137 = .ok (.iconst 0, 1) := by decide +kernel
theorem dX9_counts_138 : decode cX9_counts 138 = .ok (.invokevirtual 122, 3) := by decide +kernel
theorem dX9_counts_141 : decode cX9_counts 141 = .ok (.invokevirtual 269, 3) := by decide +kernel
theorem dX9_counts_144 : decode cX9_counts 144 = .ok (.ifCond .eq 7, 3) := by decide +kernel
theorem dX9_counts_147 : decode cX9_counts 147 = .ok (.iconst 1, 1) := by decide +kernel
theorem dX9_counts_148 : decode cX9_counts 148 = .ok (.goto 4, 3) := by decide +kernel
theorem dX9_counts_151 : decode cX9_counts 151 = .ok (.iconst 0, 1) := by decide +kernel
theorem dX9_counts_152 : decode cX9_counts 152 = .ok (.iadd, 1) := by decide +kernel
theorem dX9_counts_153 : decode cX9_counts 153 = .ok (.istore 4, 2) := by decide +kernel
theorem dX9_counts_155 : decode cX9_counts 155 = .ok (.iinc 5 1, 3) := by decide +kernel
theorem dX9_counts_158 : decode cX9_counts 158 = .ok (.goto (-50), 3) := by decide +kernel
theorem dX9_counts_161 : decode cX9_counts 161 = .ok (.iload 4, 2) := by decide +kernel
theorem dX9_counts_163 : decode cX9_counts 163 = .ok (.ireturn, 1) := by decide +kernel
theorem dX9_counts_164 : decode cX9_counts 164 = .ok (.iload_n 1, 1) := by decide +kernel
theorem dX9_counts_165 : decode cX9_counts 165 = .ok (.iconst 4, 1) := by decide +kernel
theorem dX9_counts_166 : decode cX9_counts 166 = .ok (.if_icmp .ne 31, 3) := by decide +kernel
theorem dX9_counts_169 : decode cX9_counts 169 = .ok (.aload_n 0, 1) := by decide +kernel
theorem dX9_counts_170 : decode cX9_counts 170 = .ok (.getfield 73, 3) := by decide +kernel
theorem dX9_counts_173 : decode cX9_counts 173 = .ok (.iload_n 2, 1) := by decide +kernel
theorem dX9_counts_174 : decode cX9_counts 174 = .ok (.iaload, 1) := by decide +kernel
theorem dX9_counts_175 : decode cX9_counts 175 = .ok (.iconst 5, 1) := by decide +kernel
theorem dX9_counts_176 : decode cX9_counts 176 = .ok (.if_icmp .ne 21, 3) := by decide +kernel
theorem dX9_counts_179 : decode cX9_counts 179 = .ok (.aload_n 0, 1) := by decide +kernel
theorem dX9_counts_180 : decode cX9_counts 180 = .ok (.iload_n 3, 1) := by decide +kernel
theorem dX9_counts_181 : decode cX9_counts 181 = .ok (.aload_n 0, 1) := by decide +kernel
theorem dX9_counts_182 : decode cX9_counts 182 = .ok (.iload_n 2, 1) := by decide +kernel
theorem dX9_counts_183 : decode cX9_counts 183 = .ok (.iconst 0, 1) := by decide +kernel
theorem dX9_counts_184 : decode cX9_counts 184 = .ok (.invokevirtual 122, 3) := by decide +kernel
theorem dX9_counts_187 : decode cX9_counts 187 = .ok (.invokevirtual 269, 3) := by decide +kernel
theorem dX9_counts_190 : decode cX9_counts 190 = .ok (.ifCond .eq 7, 3) := by decide +kernel
theorem dX9_counts_193 : decode cX9_counts 193 = .ok (.iconst 1, 1) := by decide +kernel
theorem dX9_counts_194 : decode cX9_counts 194 = .ok (.goto 4, 3) := by decide +kernel
theorem dX9_counts_197 : decode cX9_counts 197 = .ok (.iconst 0, 1) := by decide +kernel
theorem dX9_counts_198 : decode cX9_counts 198 = .ok (.ireturn, 1) := by decide +kernel
theorem me_X9_counts : cx_Mv yX9_counts cX9_counts 6 (some .int) 3 := ⟨⟨⟨by decide +kernel, by decide +kernel, by decide +kernel⟩, hw_11, hw_1392⟩, hw_1391, hs_77⟩
noncomputable def f_X9_counts_J152 (x4_12 : Int32) (x5_13 : Int32) (rc108 : Int32 → Int32 → Option Int32) (s1_18 : Int32) : Option Int32 := rc108 (x4_12 + s1_18) (x5_13 + 1)
noncomputable def f_X9_counts_J151 (x4_12 : Int32) (x5_13 : Int32) (rc108 : Int32 → Int32 → Option Int32) : Option Int32 := f_X9_counts_J152 x4_12 x5_13 rc108 0
noncomputable def f_X9_counts_L108 (m_book : Nat → Int32) (m_is : Nat → Int32) (p2 : Int32) (rc108 : Int32 → Int32 → Option Int32) (x4_12 : Int32) (x5_13 : Int32) : Option Int32 := cx_gd (cx_ib 2 140) (if (m_book (cx_ix 2)) ≤ x5_13 then (some x4_12) else (cx_gd (cx_ib x5_13 6) (if (m_is (cx_ix x5_13)) = 5 then (Option.bind (f_X9_ofHead m_book x5_13 0) (fun u19 => Option.bind (f_X9_isOn m_book m_is p2 u19) (fun u21 => if u21 = 0 then (f_X9_counts_J151 x4_12 x5_13 rc108) else (f_X9_counts_J152 x4_12 x5_13 rc108 1)))) else (f_X9_counts_J151 x4_12 x5_13 rc108))))
noncomputable def f_X9_counts_L108w (m_book : Nat → Int32) (m_is : Nat → Int32) (p2 : Int32) (n : Nat) : Int32 → Int32 → Option Int32 := Nat.rec (fun _ _ => none) (fun _ r => f_X9_counts_L108 m_book m_is p2 r) n
noncomputable def f_X9_counts_J78 (x5_25 : Int32) (rc47 : Int32 → Int32 → Option Int32) (s0_30 : Int32) : Option Int32 := rc47 s0_30 (x5_25 + 1)
noncomputable def f_X9_counts_J73 (x5_25 : Int32) (rc47 : Int32 → Int32 → Option Int32) : Option Int32 := f_X9_counts_J78 x5_25 rc47 1
noncomputable def f_X9_counts_L47 (m_book : Nat → Int32) (m_is : Nat → Int32) (p2 : Int32) (rc47 : Int32 → Int32 → Option Int32) (x4_24 : Int32) (x5_25 : Int32) : Option Int32 := cx_gd (cx_ib 1 140) (if (m_book (cx_ix 1)) ≤ x5_25 then (if x4_24 = 0 then (some 1) else (some 0)) else (if x4_24 = 0 then (Option.bind (f_X9_isOn m_book m_is p2 x5_25) (fun u31 => if u31 = 0 then (f_X9_counts_J78 x5_25 rc47 0) else (f_X9_counts_J73 x5_25 rc47))) else (f_X9_counts_J73 x5_25 rc47)))
noncomputable def f_X9_counts_L47w (m_book : Nat → Int32) (m_is : Nat → Int32) (p2 : Int32) (n : Nat) : Int32 → Int32 → Option Int32 := Nat.rec (fun _ _ => none) (fun _ r => f_X9_counts_L47 m_book m_is p2 r) n
noncomputable def f_X9_counts (m_book : Nat → Int32) (m_is : Nat → Int32) (p1 : Int32) (p2 : Int32) (p3 : Int32) : Option Int32 := if p1 = 1 then (cx_gd (cx_ib p2 6) (cx_gd (cx_ib p3 6) (if (m_is (cx_ix p2)) = (m_is (cx_ix p3)) then (cx_gd (cx_ib p2 6) (if (m_is (cx_ix p2)) = 5 then (some 0) else (some 1))) else (some 0)))) else (if p1 = 2 then (f_X9_counts_L47w m_book m_is p2 cx_N0 0 0) else (if p1 = 3 then (f_X9_counts_L108w m_book m_is p2 cx_N0 0 0) else (if p1 = 4 then (cx_gd (cx_ib p2 6) (if (m_is (cx_ix p2)) = 5 then (Option.bind (f_X9_ofHead m_book p2 0) (fun u7 => Option.bind (f_X9_isOn m_book m_is p3 u7) (fun u9 => if u9 = 0 then (some 0) else (some 1)))) else (some 0))) else (some 0))))
set_option maxHeartbeats 4000000 in
set_option maxRecDepth 100000 in
theorem c_X9_counts (l : Launch) (D : va_G) (k : Nat → ClassId) (m_a : Nat → Nat) (m_limbs : Nat → Int32) (m_wide : Nat → Int32) (m_book : Nat → Int32) (m_images : Nat → Int32) (m_kept : Nat → Int32) (m_before : Nat → Int32) (m_refused : Nat → Int32) (m_quiet : Int32) (m_text : Nat → Int32) (m_typed : Int32) (m_at : Int32) (m_start : Int32) (m_token : Int32) (m_value : Int32) (m_items : Nat → Int32) (m_many : Int32) (m_is : Nat → Int32) (m_likes : Nat → Int32) (m_without : Int32) (m_onePicture : Int32) (m_oneYear : Int32) (m_first : Int32) (m_second : Int32) (m_names : Nat → Int32) (p1 : Int32) (p2 : Int32) (p3 : Int32) (y : Int32) (hf : f_X9_counts m_book m_is p1 p2 p3 = some y) : cx_M l yX9_counts cX9_counts 6 (some .int) 3 D k [.ref (m_a 0), .int p1, .int p2, .int p3] (wd_Model k m_a m_limbs m_wide m_book m_images m_kept m_before m_refused m_quiet m_text m_typed m_at m_start m_token m_value m_items m_many m_is m_likes m_without m_onePicture m_oneYear m_first m_second m_names) (fun sz => cx_Qi D y (wd_Model k m_a m_limbs m_wide m_book m_images m_kept m_before m_refused m_quiet m_text m_typed m_at m_start m_token m_value m_items m_many m_is m_likes m_without m_onePicture m_oneYear m_first m_second m_names) (wd_Model k m_a m_limbs m_wide m_book m_images m_kept m_before m_refused m_quiet m_text m_typed m_at m_start m_token m_value m_items m_many m_is m_likes m_without m_onePicture m_oneYear m_first m_second m_names) sz) := by
  refine cx_met (own := "NamelessBoxModel") (by decide) rfl (Nat.le_of_ble_eq_true rfl) ?_
  intro p e s m args below meth c A Q C hA hQ hr hlk
  refine cx_lv (lv' := [(0, .ref (m_a 0)), (1, .int p1), (2, .int p2), (3, .int p3)]) [0, 1, 2, 3] rfl ?_
  have L108 : ∀ (n108 : Nat) (x4_12 : Int32) (x5_13 : Int32), f_X9_counts_L108w m_book m_is p2 n108 x4_12 x5_13 = some y → cx_S p l e (cx_rm 3) s m args below meth c A D 6 0 0 Q 108 [(0, .ref (m_a 0)), (2, .int p2), (4, .int x4_12), (5, .int x5_13)] [] (wd_Model k m_a m_limbs m_wide m_book m_images m_kept m_before m_refused m_quiet m_text m_typed m_at m_start m_token m_value m_items m_many m_is m_likes m_without m_onePicture m_oneYear m_first m_second m_names) := by
    intro  n108
    induction n108 with
    | zero =>
      intro x4_12 x5_13 hf
      exact absurd (show (none : Option Int32) = some y from hf) (fun h => by cases h)
    | succ n108 ih108 =>
      intro x4_12 x5_13 hf
      have hf : f_X9_counts_L108 m_book m_is p2 (f_X9_counts_L108w m_book m_is p2 n108) x4_12 x5_13 = some y := hf
      have J152 : ∀ (s1_18 : Int32), f_X9_counts_J152 x4_12 x5_13 (f_X9_counts_L108w m_book m_is p2 n108) s1_18 = some y → cx_S p l e (cx_rm 3) s m args below meth c A D 6 0 0 Q 152 [(0, .ref (m_a 0)), (2, .int p2), (5, .int x5_13)] [.int s1_18, .int x4_12] (wd_Model k m_a m_limbs m_wide m_book m_images m_kept m_before m_refused m_quiet m_text m_typed m_at m_start m_token m_value m_items m_many m_is m_likes m_without m_onePicture m_oneYear m_first m_second m_names) := by
        intro s1_18 hf
        unfold f_X9_counts_J152 at hf
        refine cx_iadd C dX9_counts_152 ?_
        refine cx_istore (lv' := [(4, .int (x4_12 + s1_18)), (0, .ref (m_a 0)), (2, .int p2), (5, .int x5_13)]) C dX9_counts_153 (by decide) rfl ?_
        refine cx_iinc (v := x5_13 + 1) (lv' := [(5, .int (x5_13 + 1)), (4, .int (x4_12 + s1_18)), (0, .ref (m_a 0)), (2, .int p2)]) C dX9_counts_155 3 rfl rfl (by decide) rfl ?_
        refine cx_goto (tgt := 108) C dX9_counts_158 (by decide) ?_
        refine cx_lv [2, 3, 1, 0] rfl ?_
        exact ih108 (x4_12 + s1_18) (x5_13 + 1) hf
      have J151 : f_X9_counts_J151 x4_12 x5_13 (f_X9_counts_L108w m_book m_is p2 n108) = some y → cx_S p l e (cx_rm 3) s m args below meth c A D 6 0 0 Q 151 [(0, .ref (m_a 0)), (2, .int p2), (5, .int x5_13)] [.int x4_12] (wd_Model k m_a m_limbs m_wide m_book m_images m_kept m_before m_refused m_quiet m_text m_typed m_at m_start m_token m_value m_items m_many m_is m_likes m_without m_onePicture m_oneYear m_first m_second m_names) := by
        intro  hf
        unfold f_X9_counts_J151 at hf
        refine cx_iconst (v := 0) C dX9_counts_151 (by decide) ?_
        exact J152 0 hf
      unfold f_X9_counts_L108 at hf
      refine cx_iload C dX9_counts_108 3 rfl ?_
      refine cx_aload_n C dX9_counts_110 0 rfl ?_
      refine cx_get (v := .ref (m_a 3)) (ci := 8) C iX9 dX9_counts_111 0 rfl rfl 2 (by decide) hw_1056 rfl ?_
      refine cx_iconst (v := 2) C dX9_counts_114 (by decide) ?_
      obtain ⟨g14, hf⟩ := cx_gd_at hf
      refine cx_iald C dX9_counts_115 3 rfl (cx_ib_in g14) ?_
      clear g14
      refine cx_icmp_ge (tgt := 161) C dX9_counts_116 (by decide) (fun c15 => ?_) (fun c15 => ?_)
      · have hf := cx_if_t hf c15
        clear c15
        refine cx_iload C dX9_counts_161 2 rfl ?_
        obtain rfl := Option.some.inj hf
        exact cx_iret C hA hQ hr hlk dX9_counts_163 rfl rfl
      · have hf := cx_if_f hf c15
        clear c15
        refine cx_iload C dX9_counts_119 2 rfl ?_
        refine cx_aload_n C dX9_counts_121 0 rfl ?_
        refine cx_get (v := .ref (m_a 10)) (ci := 8) C iX9 dX9_counts_122 0 rfl rfl 16 (by decide) hw_1070 rfl ?_
        refine cx_iload C dX9_counts_125 3 rfl ?_
        obtain ⟨g16, hf⟩ := cx_gd_at hf
        refine cx_iald C dX9_counts_127 10 rfl (cx_ib_in g16) ?_
        clear g16
        refine cx_iconst (v := 5) C dX9_counts_128 (by decide) ?_
        refine cx_icmp_ne (tgt := 151) C dX9_counts_129 (by decide) (fun c17 => ?_) (fun c17 => ?_)
        · have hf := cx_if_f hf c17
          clear c17
          refine cx_lv [0, 1, 3] rfl ?_
          exact J151 hf
        · have hf := cx_if_t hf c17
          clear c17
          refine cx_aload_n C dX9_counts_132 0 rfl ?_
          refine cx_iload_n C dX9_counts_133 1 rfl ?_
          refine cx_aload_n C dX9_counts_134 0 rfl ?_
          refine cx_iload C dX9_counts_135 3 rfl ?_
          refine cx_iconst (v := 0) C dX9_counts_137 (by decide) ?_
          obtain ⟨u19, e20, hf⟩ := cx_bd_at hf
          refine cx_Fvi (q := (RX9, TX9, 24)) (As := [.int x5_13, .int 0]) (rest := [.int p2, .ref (m_a 0), .int x4_12]) (w1 := (wd_Model k m_a m_limbs m_wide m_book m_images m_kept m_before m_refused m_quiet m_text m_typed m_at m_start m_token m_value m_items m_many m_is m_likes m_without m_onePicture m_oneYear m_first m_second m_names)) hA C me_X9_ofHead hw_1191 (c_X9_ofHead l D k m_a m_limbs m_wide m_book m_images m_kept m_before m_refused m_quiet m_text m_typed m_at m_start m_token m_value m_items m_many m_is m_likes m_without m_onePicture m_oneYear m_first m_second m_names x5_13 0 u19 e20) dX9_counts_138 ⟨Nat.le_of_ble_eq_true rfl, Nat.le_of_ble_eq_true rfl⟩ ⟨Nat.zero_le _, Nat.zero_le _⟩ rfl rfl (Nat.le_of_ble_eq_true rfl) rfl rfl rfl ?_
          clear e20
          obtain ⟨u21, e22, hf⟩ := cx_bd_at hf
          refine cx_Fvi (q := (RX9, TX9, 24)) (As := [.int p2, .int u19]) (rest := [.int x4_12]) (w1 := (wd_Model k m_a m_limbs m_wide m_book m_images m_kept m_before m_refused m_quiet m_text m_typed m_at m_start m_token m_value m_items m_many m_is m_likes m_without m_onePicture m_oneYear m_first m_second m_names)) hA C me_X9_isOn hw_1393 (c_X9_isOn l D k m_a m_limbs m_wide m_book m_images m_kept m_before m_refused m_quiet m_text m_typed m_at m_start m_token m_value m_items m_many m_is m_likes m_without m_onePicture m_oneYear m_first m_second m_names p2 u19 u21 e22) dX9_counts_141 ⟨Nat.le_of_ble_eq_true rfl, Nat.le_of_ble_eq_true rfl⟩ ⟨Nat.zero_le _, Nat.zero_le _⟩ rfl rfl (Nat.le_of_ble_eq_true rfl) rfl rfl rfl ?_
          clear e22
          refine cx_if_eq (tgt := 151) C dX9_counts_144 (by decide) (fun c23 => ?_) (fun c23 => ?_)
          · have hf := cx_if_t hf c23
            clear c23
            refine cx_lv [0, 1, 3] rfl ?_
            exact J151 hf
          · have hf := cx_if_f hf c23
            clear c23
            refine cx_iconst (v := 1) C dX9_counts_147 (by decide) ?_
            refine cx_goto (tgt := 152) C dX9_counts_148 (by decide) ?_
            refine cx_lv [0, 1, 3] rfl ?_
            exact J152 1 hf
  have L47 : ∀ (n47 : Nat) (x4_24 : Int32) (x5_25 : Int32), f_X9_counts_L47w m_book m_is p2 n47 x4_24 x5_25 = some y → cx_S p l e (cx_rm 3) s m args below meth c A D 6 0 0 Q 47 [(0, .ref (m_a 0)), (2, .int p2), (4, .int x4_24), (5, .int x5_25)] [] (wd_Model k m_a m_limbs m_wide m_book m_images m_kept m_before m_refused m_quiet m_text m_typed m_at m_start m_token m_value m_items m_many m_is m_likes m_without m_onePicture m_oneYear m_first m_second m_names) := by
    intro  n47
    induction n47 with
    | zero =>
      intro x4_24 x5_25 hf
      exact absurd (show (none : Option Int32) = some y from hf) (fun h => by cases h)
    | succ n47 ih47 =>
      intro x4_24 x5_25 hf
      have hf : f_X9_counts_L47 m_book m_is p2 (f_X9_counts_L47w m_book m_is p2 n47) x4_24 x5_25 = some y := hf
      have J78 : ∀ (s0_30 : Int32), f_X9_counts_J78 x5_25 (f_X9_counts_L47w m_book m_is p2 n47) s0_30 = some y → cx_S p l e (cx_rm 3) s m args below meth c A D 6 0 0 Q 78 [(0, .ref (m_a 0)), (2, .int p2), (5, .int x5_25)] [.int s0_30] (wd_Model k m_a m_limbs m_wide m_book m_images m_kept m_before m_refused m_quiet m_text m_typed m_at m_start m_token m_value m_items m_many m_is m_likes m_without m_onePicture m_oneYear m_first m_second m_names) := by
        intro s0_30 hf
        unfold f_X9_counts_J78 at hf
        refine cx_istore (lv' := [(4, .int s0_30), (0, .ref (m_a 0)), (2, .int p2), (5, .int x5_25)]) C dX9_counts_78 (by decide) rfl ?_
        refine cx_iinc (v := x5_25 + 1) (lv' := [(5, .int (x5_25 + 1)), (4, .int s0_30), (0, .ref (m_a 0)), (2, .int p2)]) C dX9_counts_80 3 rfl rfl (by decide) rfl ?_
        refine cx_goto (tgt := 47) C dX9_counts_83 (by decide) ?_
        refine cx_lv [2, 3, 1, 0] rfl ?_
        exact ih47 s0_30 (x5_25 + 1) hf
      have J73 : f_X9_counts_J73 x5_25 (f_X9_counts_L47w m_book m_is p2 n47) = some y → cx_S p l e (cx_rm 3) s m args below meth c A D 6 0 0 Q 73 [(0, .ref (m_a 0)), (2, .int p2), (5, .int x5_25)] [] (wd_Model k m_a m_limbs m_wide m_book m_images m_kept m_before m_refused m_quiet m_text m_typed m_at m_start m_token m_value m_items m_many m_is m_likes m_without m_onePicture m_oneYear m_first m_second m_names) := by
        intro  hf
        unfold f_X9_counts_J73 at hf
        refine cx_iconst (v := 1) C dX9_counts_73 (by decide) ?_
        refine cx_goto (tgt := 78) C dX9_counts_74 (by decide) ?_
        exact J78 1 hf
      unfold f_X9_counts_L47 at hf
      refine cx_iload C dX9_counts_47 3 rfl ?_
      refine cx_aload_n C dX9_counts_49 0 rfl ?_
      refine cx_get (v := .ref (m_a 3)) (ci := 8) C iX9 dX9_counts_50 0 rfl rfl 2 (by decide) hw_1056 rfl ?_
      refine cx_iconst (v := 1) C dX9_counts_53 (by decide) ?_
      obtain ⟨g26, hf⟩ := cx_gd_at hf
      refine cx_iald C dX9_counts_54 3 rfl (cx_ib_in g26) ?_
      clear g26
      refine cx_icmp_ge (tgt := 86) C dX9_counts_55 (by decide) (fun c27 => ?_) (fun c27 => ?_)
      · have hf := cx_if_t hf c27
        clear c27
        refine cx_iload C dX9_counts_86 2 rfl ?_
        refine cx_if_eq (tgt := 95) C dX9_counts_88 (by decide) (fun c28 => ?_) (fun c28 => ?_)
        · have hf := cx_if_t hf c28
          clear c28
          refine cx_iconst (v := 1) C dX9_counts_95 (by decide) ?_
          obtain rfl := Option.some.inj hf
          exact cx_iret C hA hQ hr hlk dX9_counts_96 rfl rfl
        · have hf := cx_if_f hf c28
          clear c28
          refine cx_iconst (v := 0) C dX9_counts_91 (by decide) ?_
          refine cx_goto (tgt := 96) C dX9_counts_92 (by decide) ?_
          obtain rfl := Option.some.inj hf
          exact cx_iret C hA hQ hr hlk dX9_counts_96 rfl rfl
      · have hf := cx_if_f hf c27
        clear c27
        refine cx_iload C dX9_counts_58 2 rfl ?_
        refine cx_if_ne (tgt := 73) C dX9_counts_60 (by decide) (fun c29 => ?_) (fun c29 => ?_)
        · have hf := cx_if_f hf c29
          clear c29
          refine cx_lv [0, 1, 3] rfl ?_
          exact J73 hf
        · have hf := cx_if_t hf c29
          clear c29
          refine cx_aload_n C dX9_counts_63 0 rfl ?_
          refine cx_iload_n C dX9_counts_64 1 rfl ?_
          refine cx_iload C dX9_counts_65 3 rfl ?_
          obtain ⟨u31, e32, hf⟩ := cx_bd_at hf
          refine cx_Fvi (q := (RX9, TX9, 24)) (As := [.int p2, .int x5_25]) (rest := []) (w1 := (wd_Model k m_a m_limbs m_wide m_book m_images m_kept m_before m_refused m_quiet m_text m_typed m_at m_start m_token m_value m_items m_many m_is m_likes m_without m_onePicture m_oneYear m_first m_second m_names)) hA C me_X9_isOn hw_1393 (c_X9_isOn l D k m_a m_limbs m_wide m_book m_images m_kept m_before m_refused m_quiet m_text m_typed m_at m_start m_token m_value m_items m_many m_is m_likes m_without m_onePicture m_oneYear m_first m_second m_names p2 x5_25 u31 e32) dX9_counts_67 ⟨Nat.le_of_ble_eq_true rfl, Nat.le_of_ble_eq_true rfl⟩ ⟨Nat.zero_le _, Nat.zero_le _⟩ rfl rfl (Nat.le_of_ble_eq_true rfl) rfl rfl rfl ?_
          clear e32
          refine cx_if_eq (tgt := 77) C dX9_counts_70 (by decide) (fun c33 => ?_) (fun c33 => ?_)
          · have hf := cx_if_t hf c33
            clear c33
            refine cx_iconst (v := 0) C dX9_counts_77 (by decide) ?_
            refine cx_lv [0, 1, 3] rfl ?_
            exact J78 0 hf
          · have hf := cx_if_f hf c33
            clear c33
            refine cx_lv [0, 1, 3] rfl ?_
            exact J73 hf
  unfold f_X9_counts at hf
  refine cx_iload_n C dX9_counts_0 1 rfl ?_
  refine cx_iconst (v := 1) C dX9_counts_1 (by decide) ?_
  refine cx_icmp_ne (tgt := 36) C dX9_counts_2 (by decide) (fun c1 => ?_) (fun c1 => ?_)
  · have hf := cx_if_f hf c1
    clear c1
    refine cx_iload_n C dX9_counts_36 1 rfl ?_
    refine cx_iconst (v := 2) C dX9_counts_37 (by decide) ?_
    refine cx_icmp_ne (tgt := 97) C dX9_counts_38 (by decide) (fun c2 => ?_) (fun c2 => ?_)
    · have hf := cx_if_f hf c2
      clear c2
      refine cx_iload_n C dX9_counts_97 1 rfl ?_
      refine cx_iconst (v := 3) C dX9_counts_98 (by decide) ?_
      refine cx_icmp_ne (tgt := 164) C dX9_counts_99 (by decide) (fun c3 => ?_) (fun c3 => ?_)
      · have hf := cx_if_f hf c3
        clear c3
        refine cx_iload_n C dX9_counts_164 1 rfl ?_
        refine cx_iconst (v := 4) C dX9_counts_165 (by decide) ?_
        refine cx_icmp_ne (tgt := 197) C dX9_counts_166 (by decide) (fun c4 => ?_) (fun c4 => ?_)
        · have hf := cx_if_f hf c4
          clear c4
          refine cx_iconst (v := 0) C dX9_counts_197 (by decide) ?_
          obtain rfl := Option.some.inj hf
          exact cx_iret C hA hQ hr hlk dX9_counts_198 rfl rfl
        · have hf := cx_if_t hf c4
          clear c4
          refine cx_aload_n C dX9_counts_169 0 rfl ?_
          refine cx_get (v := .ref (m_a 10)) (ci := 8) C iX9 dX9_counts_170 0 rfl rfl 16 (by decide) hw_1070 rfl ?_
          refine cx_iload_n C dX9_counts_173 2 rfl ?_
          obtain ⟨g5, hf⟩ := cx_gd_at hf
          refine cx_iald C dX9_counts_174 10 rfl (cx_ib_in g5) ?_
          clear g5
          refine cx_iconst (v := 5) C dX9_counts_175 (by decide) ?_
          refine cx_icmp_ne (tgt := 197) C dX9_counts_176 (by decide) (fun c6 => ?_) (fun c6 => ?_)
          · have hf := cx_if_f hf c6
            clear c6
            refine cx_iconst (v := 0) C dX9_counts_197 (by decide) ?_
            obtain rfl := Option.some.inj hf
            exact cx_iret C hA hQ hr hlk dX9_counts_198 rfl rfl
          · have hf := cx_if_t hf c6
            clear c6
            refine cx_aload_n C dX9_counts_179 0 rfl ?_
            refine cx_iload_n C dX9_counts_180 3 rfl ?_
            refine cx_aload_n C dX9_counts_181 0 rfl ?_
            refine cx_iload_n C dX9_counts_182 2 rfl ?_
            refine cx_iconst (v := 0) C dX9_counts_183 (by decide) ?_
            obtain ⟨u7, e8, hf⟩ := cx_bd_at hf
            refine cx_Fvi (q := (RX9, TX9, 24)) (As := [.int p2, .int 0]) (rest := [.int p3, .ref (m_a 0)]) (w1 := (wd_Model k m_a m_limbs m_wide m_book m_images m_kept m_before m_refused m_quiet m_text m_typed m_at m_start m_token m_value m_items m_many m_is m_likes m_without m_onePicture m_oneYear m_first m_second m_names)) hA C me_X9_ofHead hw_1191 (c_X9_ofHead l D k m_a m_limbs m_wide m_book m_images m_kept m_before m_refused m_quiet m_text m_typed m_at m_start m_token m_value m_items m_many m_is m_likes m_without m_onePicture m_oneYear m_first m_second m_names p2 0 u7 e8) dX9_counts_184 ⟨Nat.le_of_ble_eq_true rfl, Nat.le_of_ble_eq_true rfl⟩ ⟨Nat.zero_le _, Nat.zero_le _⟩ rfl rfl (Nat.le_of_ble_eq_true rfl) rfl rfl rfl ?_
            clear e8
            obtain ⟨u9, e10, hf⟩ := cx_bd_at hf
            refine cx_Fvi (q := (RX9, TX9, 24)) (As := [.int p3, .int u7]) (rest := []) (w1 := (wd_Model k m_a m_limbs m_wide m_book m_images m_kept m_before m_refused m_quiet m_text m_typed m_at m_start m_token m_value m_items m_many m_is m_likes m_without m_onePicture m_oneYear m_first m_second m_names)) hA C me_X9_isOn hw_1393 (c_X9_isOn l D k m_a m_limbs m_wide m_book m_images m_kept m_before m_refused m_quiet m_text m_typed m_at m_start m_token m_value m_items m_many m_is m_likes m_without m_onePicture m_oneYear m_first m_second m_names p3 u7 u9 e10) dX9_counts_187 ⟨Nat.le_of_ble_eq_true rfl, Nat.le_of_ble_eq_true rfl⟩ ⟨Nat.zero_le _, Nat.zero_le _⟩ rfl rfl (Nat.le_of_ble_eq_true rfl) rfl rfl rfl ?_
            clear e10
            refine cx_if_eq (tgt := 197) C dX9_counts_190 (by decide) (fun c11 => ?_) (fun c11 => ?_)
            · have hf := cx_if_t hf c11
              clear c11
              refine cx_iconst (v := 0) C dX9_counts_197 (by decide) ?_
              obtain rfl := Option.some.inj hf
              exact cx_iret C hA hQ hr hlk dX9_counts_198 rfl rfl
            · have hf := cx_if_f hf c11
              clear c11
              refine cx_iconst (v := 1) C dX9_counts_193 (by decide) ?_
              refine cx_goto (tgt := 198) C dX9_counts_194 (by decide) ?_
              obtain rfl := Option.some.inj hf
              exact cx_iret C hA hQ hr hlk dX9_counts_198 rfl rfl
      · have hf := cx_if_t hf c3
        clear c3
        refine cx_iconst (v := 0) C dX9_counts_102 (by decide) ?_
        refine cx_istore (lv' := [(4, .int 0), (0, .ref (m_a 0)), (1, .int p1), (2, .int p2), (3, .int p3)]) C dX9_counts_103 (by decide) rfl ?_
        refine cx_iconst (v := 0) C dX9_counts_105 (by decide) ?_
        refine cx_istore (lv' := [(5, .int 0), (4, .int 0), (0, .ref (m_a 0)), (1, .int p1), (2, .int p2), (3, .int p3)]) C dX9_counts_106 (by decide) rfl ?_
        refine cx_lv [2, 4, 1, 0] rfl ?_
        exact L108 cx_N0 0 0 hf
    · have hf := cx_if_t hf c2
      clear c2
      refine cx_iconst (v := 0) C dX9_counts_41 (by decide) ?_
      refine cx_istore (lv' := [(4, .int 0), (0, .ref (m_a 0)), (1, .int p1), (2, .int p2), (3, .int p3)]) C dX9_counts_42 (by decide) rfl ?_
      refine cx_iconst (v := 0) C dX9_counts_44 (by decide) ?_
      refine cx_istore (lv' := [(5, .int 0), (4, .int 0), (0, .ref (m_a 0)), (1, .int p1), (2, .int p2), (3, .int p3)]) C dX9_counts_45 (by decide) rfl ?_
      refine cx_lv [2, 4, 1, 0] rfl ?_
      exact L47 cx_N0 0 0 hf
  · have hf := cx_if_t hf c1
    clear c1
    refine cx_aload_n C dX9_counts_5 0 rfl ?_
    refine cx_get (v := .ref (m_a 10)) (ci := 8) C iX9 dX9_counts_6 0 rfl rfl 16 (by decide) hw_1070 rfl ?_
    refine cx_iload_n C dX9_counts_9 2 rfl ?_
    obtain ⟨g34, hf⟩ := cx_gd_at hf
    refine cx_iald C dX9_counts_10 10 rfl (cx_ib_in g34) ?_
    clear g34
    refine cx_aload_n C dX9_counts_11 0 rfl ?_
    refine cx_get (v := .ref (m_a 10)) (ci := 8) C iX9 dX9_counts_12 0 rfl rfl 16 (by decide) hw_1070 rfl ?_
    refine cx_iload_n C dX9_counts_15 3 rfl ?_
    obtain ⟨g35, hf⟩ := cx_gd_at hf
    refine cx_iald C dX9_counts_16 10 rfl (cx_ib_in g35) ?_
    clear g35
    refine cx_icmp_ne (tgt := 34) C dX9_counts_17 (by decide) (fun c36 => ?_) (fun c36 => ?_)
    · have hf := cx_if_f hf c36
      clear c36
      refine cx_iconst (v := 0) C dX9_counts_34 (by decide) ?_
      obtain rfl := Option.some.inj hf
      exact cx_iret C hA hQ hr hlk dX9_counts_35 rfl rfl
    · have hf := cx_if_t hf c36
      clear c36
      refine cx_aload_n C dX9_counts_20 0 rfl ?_
      refine cx_get (v := .ref (m_a 10)) (ci := 8) C iX9 dX9_counts_21 0 rfl rfl 16 (by decide) hw_1070 rfl ?_
      refine cx_iload_n C dX9_counts_24 2 rfl ?_
      obtain ⟨g37, hf⟩ := cx_gd_at hf
      refine cx_iald C dX9_counts_25 10 rfl (cx_ib_in g37) ?_
      clear g37
      refine cx_iconst (v := 5) C dX9_counts_26 (by decide) ?_
      refine cx_icmp_eq (tgt := 34) C dX9_counts_27 (by decide) (fun c38 => ?_) (fun c38 => ?_)
      · have hf := cx_if_t hf c38
        clear c38
        refine cx_iconst (v := 0) C dX9_counts_34 (by decide) ?_
        obtain rfl := Option.some.inj hf
        exact cx_iret C hA hQ hr hlk dX9_counts_35 rfl rfl
      · have hf := cx_if_f hf c38
        clear c38
        refine cx_iconst (v := 1) C dX9_counts_30 (by decide) ?_
        refine cx_goto (tgt := 35) C dX9_counts_31 (by decide) ?_
        obtain rfl := Option.some.inj hf
        exact cx_iret C hA hQ hr hlk dX9_counts_35 rfl rfl
theorem dX9_sums_0 : decode cX9_sums 0 = .ok (.aload_n 0, 1) := by decide +kernel
theorem dX9_sums_1 : decode cX9_sums 1 = .ok (.bipush 6, 2) := by decide +kernel
theorem dX9_sums_3 : decode cX9_sums 3 = .ok (.lconst 0, 1) := by decide +kernel
theorem dX9_sums_4 : decode cX9_sums 4 = .ok (.invokevirtual 16, 3) := by decide +kernel
theorem dX9_sums_7 : decode cX9_sums 7 = .ok (.aload_n 0, 1) := by decide +kernel
theorem dX9_sums_8 : decode cX9_sums 8 = .ok (.bipush 7, 2) := by decide +kernel
theorem dX9_sums_10 : decode cX9_sums 10 = .ok (.lconst 0, 1) := by decide +kernel
theorem dX9_sums_11 : decode cX9_sums 11 = .ok (.invokevirtual 16, 3) := by decide +kernel
theorem dX9_sums_14 : decode cX9_sums 14 = .ok (.aload_n 0, 1) := by decide +kernel
theorem dX9_sums_15 : decode cX9_sums 15 = .ok (.invokevirtual 272, 3) := by decide +kernel
theorem dX9_sums_18 : decode cX9_sums 18 = .ok (.istore 4, 2) := by decide +kernel
theorem dX9_sums_20 : decode cX9_sums 20 = .ok (.iconst 0, 1) := by decide +kernel
theorem dX9_sums_21 : decode cX9_sums 21 = .ok (.istore 5, 2) := by decide +kernel
theorem dX9_sums_23 : decode cX9_sums 23 = .ok (.iload 5, 2) := by decide +kernel
theorem dX9_sums_25 : decode cX9_sums 25 = .ok (.iload 4, 2) := by decide +kernel
theorem dX9_sums_27 : decode cX9_sums 27 = .ok (.if_icmp .ge 53, 3) := by decide +kernel
theorem dX9_sums_30 : decode cX9_sums 30 = .ok (.aload_n 0, 1) := by decide +kernel
theorem dX9_sums_31 : decode cX9_sums 31 = .ok (.iload 5, 2) := by decide +kernel
theorem dX9_sums_33 : decode cX9_sums 33 = .ok (.invokevirtual 275, 3) := by decide +kernel
theorem dX9_sums_36 : decode cX9_sums 36 = .ok (.ifCond .eq 38, 3) := by decide +kernel
theorem dX9_sums_39 : decode cX9_sums 39 = .ok (.aload_n 0, 1) := by decide +kernel
theorem dX9_sums_40 : decode cX9_sums 40 = .ok (.bipush 6, 2) := by decide +kernel
theorem dX9_sums_42 : decode cX9_sums 42 = .ok (.iconst 5, 1) := by decide +kernel
theorem dX9_sums_43 : decode cX9_sums 43 = .ok (.invokevirtual 278, 3) := by decide +kernel
theorem dX9_sums_46 : decode cX9_sums 46 = .ok (.aload_n 0, 1) := by decide +kernel
theorem dX9_sums_47 : decode cX9_sums 47 = .ok (.iload_n 1, 1) := by decide +kernel
theorem dX9_sums_48 : decode cX9_sums 48 = .ok (.iload_n 2, 1) := by decide +kernel
theorem dX9_sums_49 : decode cX9_sums 49 = .ok (.iload_n 3, 1) := by decide +kernel
theorem dX9_sums_50 : decode cX9_sums 50 = .ok (.invokevirtual 281, 3) := by decide +kernel
theorem dX9_sums_53 : decode cX9_sums 53 = .ok (.istore 6, 2) := by decide +kernel
theorem dX9_sums_55 : decode cX9_sums 55 = .ok (.iload 6, 2) := by decide +kernel
theorem dX9_sums_57 : decode cX9_sums 57 = .ok (.ifCond .le 17, 3) := by decide +kernel
theorem dX9_sums_60 : decode cX9_sums 60 = .ok (.aload_n 0, 1) := by decide +kernel
theorem dX9_sums_61 : decode cX9_sums 61 = .ok (.iconst 5, 1) := by decide +kernel
theorem dX9_sums_62 : decode cX9_sums 62 = .ok (.iload 6, 2) := by decide +kernel
theorem dX9_sums_64 : decode cX9_sums 64 = .ok (.invokevirtual 266, 3) := by decide +kernel
theorem dX9_sums_67 : decode cX9_sums 67 = .ok (.aload_n 0, 1) := by decide +kernel
theorem dX9_sums_68 : decode cX9_sums 68 = .ok (.bipush 7, 2) := by decide +kernel
theorem dX9_sums_70 : decode cX9_sums 70 = .ok (.iconst 5, 1) := by decide +kernel
theorem dX9_sums_71 : decode cX9_sums 71 = .ok (.invokevirtual 278, 3) := by decide +kernel
theorem dX9_sums_74 : decode cX9_sums 74 = .ok (.iinc 5 1, 3) := by decide +kernel
theorem dX9_sums_77 : decode cX9_sums 77 = .ok (.goto (-54), 3) := by decide +kernel
theorem dX9_sums_80 : decode cX9_sums 80 = .ok (.return_, 1) := by decide +kernel
theorem me_X9_sums : cx_Mv yX9_sums cX9_sums 7 none 3 := ⟨⟨⟨by decide +kernel, by decide +kernel, by decide +kernel⟩, hw_11, hw_1388⟩, hw_1387, hs_76⟩
noncomputable def f_X9_sums_J74 (x5_11 : Int32) (rc23 : (Nat → Int32) → (Nat → Int32) → (Nat → Int32) → Int32 → Option ((Nat → Int32) × (Nat → Int32) × (Nat → Int32))) (a_16 : Nat → Int32) (a_17 : Nat → Int32) (a_18 : Nat → Int32) : Option ((Nat → Int32) × (Nat → Int32) × (Nat → Int32)) := rc23 a_16 a_17 a_18 (x5_11 + 1)
noncomputable def f_X9_sums_L23 (m_book : Nat → Int32) (m_likes : Nat → Int32) (m_without : Int32) (m_onePicture : Int32) (m_oneYear : Int32) (m_first : Int32) (m_second : Int32) (p1 : Int32) (p2 : Int32) (p3 : Int32) (x4_10 : Int32) (rc23 : (Nat → Int32) → (Nat → Int32) → (Nat → Int32) → Int32 → Option ((Nat → Int32) × (Nat → Int32) × (Nat → Int32))) (a_7 : Nat → Int32) (a_8 : Nat → Int32) (a_9 : Nat → Int32) (x5_11 : Int32) : Option ((Nat → Int32) × (Nat → Int32) × (Nat → Int32)) := if x4_10 ≤ x5_11 then (some ((a_7, a_8, a_9))) else (Option.bind (f_X9_weighs a_7 a_8 m_book a_9 m_likes m_without m_onePicture m_oneYear m_first m_second x5_11) (fun u13 => if u13.1 = 0 then (f_X9_sums_J74 x5_11 rc23 u13.2.1 u13.2.2.1 u13.2.2.2) else (Option.bind (f_X9_adds u13.2.1 u13.2.2.1 6 5) (fun u19 => Option.bind (f_X9_counts m_book u13.2.2.2 p1 p2 p3) (fun u21 => if u21 ≤ 0 then (f_X9_sums_J74 x5_11 rc23 u19.1 u19.2 u13.2.2.2) else (Option.bind (f_X9_times u19.1 u19.2 5 u21) (fun u24 => Option.bind (f_X9_adds u24.1 u24.2 7 5) (fun u26 => f_X9_sums_J74 x5_11 rc23 u26.1 u26.2 u13.2.2.2))))))))
noncomputable def f_X9_sums_L23w (m_book : Nat → Int32) (m_likes : Nat → Int32) (m_without : Int32) (m_onePicture : Int32) (m_oneYear : Int32) (m_first : Int32) (m_second : Int32) (p1 : Int32) (p2 : Int32) (p3 : Int32) (x4_10 : Int32) (n : Nat) : (Nat → Int32) → (Nat → Int32) → (Nat → Int32) → Int32 → Option ((Nat → Int32) × (Nat → Int32) × (Nat → Int32)) := Nat.rec (fun _ _ _ _ => none) (fun _ r => f_X9_sums_L23 m_book m_likes m_without m_onePicture m_oneYear m_first m_second p1 p2 p3 x4_10 r) n
noncomputable def f_X9_sums (m_limbs : Nat → Int32) (m_wide : Nat → Int32) (m_book : Nat → Int32) (m_is : Nat → Int32) (m_likes : Nat → Int32) (m_without : Int32) (m_onePicture : Int32) (m_oneYear : Int32) (m_first : Int32) (m_second : Int32) (p1 : Int32) (p2 : Int32) (p3 : Int32) : Option ((Nat → Int32) × (Nat → Int32) × (Nat → Int32)) := Option.bind (f_X9_sets m_limbs m_wide 6 0) (fun u1 => Option.bind (f_X9_sets u1.1 u1.2 7 0) (fun u3 => Option.bind (f_X9_ways m_book) (fun u5 => f_X9_sums_L23w m_book m_likes m_without m_onePicture m_oneYear m_first m_second p1 p2 p3 u5 cx_N0 u3.1 u3.2 m_is 0)))
set_option maxHeartbeats 4000000 in
set_option maxRecDepth 100000 in
theorem c_X9_sums (l : Launch) (D : va_G) (k : Nat → ClassId) (m_a : Nat → Nat) (m_limbs : Nat → Int32) (m_wide : Nat → Int32) (m_book : Nat → Int32) (m_images : Nat → Int32) (m_kept : Nat → Int32) (m_before : Nat → Int32) (m_refused : Nat → Int32) (m_quiet : Int32) (m_text : Nat → Int32) (m_typed : Int32) (m_at : Int32) (m_start : Int32) (m_token : Int32) (m_value : Int32) (m_items : Nat → Int32) (m_many : Int32) (m_is : Nat → Int32) (m_likes : Nat → Int32) (m_without : Int32) (m_onePicture : Int32) (m_oneYear : Int32) (m_first : Int32) (m_second : Int32) (m_names : Nat → Int32) (p1 : Int32) (p2 : Int32) (p3 : Int32) (y : (Nat → Int32) × (Nat → Int32) × (Nat → Int32)) (hf : f_X9_sums m_limbs m_wide m_book m_is m_likes m_without m_onePicture m_oneYear m_first m_second p1 p2 p3 = some y) : cx_M l yX9_sums cX9_sums 7 none 6 D k [.ref (m_a 0), .int p1, .int p2, .int p3] (wd_Model k m_a m_limbs m_wide m_book m_images m_kept m_before m_refused m_quiet m_text m_typed m_at m_start m_token m_value m_items m_many m_is m_likes m_without m_onePicture m_oneYear m_first m_second m_names) (fun sz => cx_Qv D (wd_Model k m_a m_limbs m_wide m_book m_images m_kept m_before m_refused m_quiet m_text m_typed m_at m_start m_token m_value m_items m_many m_is m_likes m_without m_onePicture m_oneYear m_first m_second m_names) (wd_Model k m_a y.1 y.2.1 m_book m_images m_kept m_before m_refused m_quiet m_text m_typed m_at m_start m_token m_value m_items m_many y.2.2 m_likes m_without m_onePicture m_oneYear m_first m_second m_names) sz) := by
  refine cx_met (own := "NamelessBoxModel") (by decide) rfl (Nat.le_of_ble_eq_true rfl) ?_
  intro p e s m args below meth c A Q C hA hQ hr hlk
  refine cx_lv (lv' := [(0, .ref (m_a 0)), (1, .int p1), (2, .int p2), (3, .int p3)]) [0, 1, 2, 3] rfl ?_
  have L23 : ∀ (x4_10 : Int32) (n23 : Nat) (a_7 : Nat → Int32) (a_8 : Nat → Int32) (a_9 : Nat → Int32) (x5_11 : Int32), f_X9_sums_L23w m_book m_likes m_without m_onePicture m_oneYear m_first m_second p1 p2 p3 x4_10 n23 a_7 a_8 a_9 x5_11 = some y → cx_S p l e (cx_rm 6) s m args below meth c A D 7 0 0 Q 23 [(0, .ref (m_a 0)), (1, .int p1), (2, .int p2), (3, .int p3), (4, .int x4_10), (5, .int x5_11)] [] (wd_Model k m_a a_7 a_8 m_book m_images m_kept m_before m_refused m_quiet m_text m_typed m_at m_start m_token m_value m_items m_many a_9 m_likes m_without m_onePicture m_oneYear m_first m_second m_names) := by
    intro x4_10 n23
    induction n23 with
    | zero =>
      intro a_7 a_8 a_9 x5_11 hf
      exact absurd (show (none : Option ((Nat → Int32) × (Nat → Int32) × (Nat → Int32))) = some y from hf) (fun h => by cases h)
    | succ n23 ih23 =>
      intro a_7 a_8 a_9 x5_11 hf
      have hf : f_X9_sums_L23 m_book m_likes m_without m_onePicture m_oneYear m_first m_second p1 p2 p3 x4_10 (f_X9_sums_L23w m_book m_likes m_without m_onePicture m_oneYear m_first m_second p1 p2 p3 x4_10 n23) a_7 a_8 a_9 x5_11 = some y := hf
      have J74 : ∀ (a_16 : Nat → Int32) (a_17 : Nat → Int32) (a_18 : Nat → Int32), f_X9_sums_J74 x5_11 (f_X9_sums_L23w m_book m_likes m_without m_onePicture m_oneYear m_first m_second p1 p2 p3 x4_10 n23) a_16 a_17 a_18 = some y → cx_S p l e (cx_rm 6) s m args below meth c A D 7 0 0 Q 74 [(0, .ref (m_a 0)), (1, .int p1), (2, .int p2), (3, .int p3), (4, .int x4_10), (5, .int x5_11)] [] (wd_Model k m_a a_16 a_17 m_book m_images m_kept m_before m_refused m_quiet m_text m_typed m_at m_start m_token m_value m_items m_many a_18 m_likes m_without m_onePicture m_oneYear m_first m_second m_names) := by
        intro a_16 a_17 a_18 hf
        unfold f_X9_sums_J74 at hf
        refine cx_iinc (v := x5_11 + 1) (lv' := [(5, .int (x5_11 + 1)), (0, .ref (m_a 0)), (1, .int p1), (2, .int p2), (3, .int p3), (4, .int x4_10)]) C dX9_sums_74 5 rfl rfl (by decide) rfl ?_
        refine cx_goto (tgt := 23) C dX9_sums_77 (by decide) ?_
        refine cx_lv [1, 2, 3, 4, 5, 0] rfl ?_
        exact ih23 a_16 a_17 a_18 (x5_11 + 1) hf
      unfold f_X9_sums_L23 at hf
      refine cx_iload C dX9_sums_23 5 rfl ?_
      refine cx_iload C dX9_sums_25 4 rfl ?_
      refine cx_icmp_ge (tgt := 80) C dX9_sums_27 (by decide) (fun c12 => ?_) (fun c12 => ?_)
      · have hf := cx_if_t hf c12
        clear c12
        obtain rfl := Option.some.inj hf
        exact cx_vret C hA hQ hr hlk dX9_sums_80 rfl
      · have hf := cx_if_f hf c12
        clear c12
        refine cx_aload_n C dX9_sums_30 0 rfl ?_
        refine cx_iload C dX9_sums_31 5 rfl ?_
        obtain ⟨u13, e14, hf⟩ := cx_bd_at hf
        refine cx_Fvi (q := (RX9, TX9, 24)) (As := [.int x5_11]) (rest := []) (w1 := (wd_Model k m_a u13.2.1 u13.2.2.1 m_book m_images m_kept m_before m_refused m_quiet m_text m_typed m_at m_start m_token m_value m_items m_many u13.2.2.2 m_likes m_without m_onePicture m_oneYear m_first m_second m_names)) hA C me_X9_weighs hw_1296 (c_X9_weighs l D k m_a a_7 a_8 m_book m_images m_kept m_before m_refused m_quiet m_text m_typed m_at m_start m_token m_value m_items m_many a_9 m_likes m_without m_onePicture m_oneYear m_first m_second m_names x5_11 u13 e14) dX9_sums_33 ⟨Nat.le_of_ble_eq_true rfl, Nat.le_of_ble_eq_true rfl⟩ ⟨Nat.zero_le _, Nat.zero_le _⟩ rfl rfl (Nat.le_of_ble_eq_true rfl) rfl rfl rfl ?_
        clear e14
        refine cx_if_eq (tgt := 74) C dX9_sums_36 (by decide) (fun c15 => ?_) (fun c15 => ?_)
        · have hf := cx_if_t hf c15
          clear c15
          exact J74 u13.2.1 u13.2.2.1 u13.2.2.2 hf
        · have hf := cx_if_f hf c15
          clear c15
          refine cx_aload_n C dX9_sums_39 0 rfl ?_
          refine cx_bipush (v := 6) C dX9_sums_40 (by decide) ?_
          refine cx_iconst (v := 5) C dX9_sums_42 (by decide) ?_
          obtain ⟨u19, e20, hf⟩ := cx_bd_at hf
          refine cx_Fvv (q := (RX9, TX9, 24)) (As := [.int 6, .int 5]) (rest := []) (w1 := (wd_Model k m_a u19.1 u19.2 m_book m_images m_kept m_before m_refused m_quiet m_text m_typed m_at m_start m_token m_value m_items m_many u13.2.2.2 m_likes m_without m_onePicture m_oneYear m_first m_second m_names)) hA C me_X9_adds hw_1332 (c_X9_adds l D k m_a u13.2.1 u13.2.2.1 m_book m_images m_kept m_before m_refused m_quiet m_text m_typed m_at m_start m_token m_value m_items m_many u13.2.2.2 m_likes m_without m_onePicture m_oneYear m_first m_second m_names 6 5 u19 e20) dX9_sums_43 ⟨Nat.le_of_ble_eq_true rfl, Nat.le_of_ble_eq_true rfl⟩ ⟨Nat.zero_le _, Nat.zero_le _⟩ rfl rfl (Nat.le_of_ble_eq_true rfl) rfl rfl rfl ?_
          clear e20
          refine cx_aload_n C dX9_sums_46 0 rfl ?_
          refine cx_iload_n C dX9_sums_47 1 rfl ?_
          refine cx_iload_n C dX9_sums_48 2 rfl ?_
          refine cx_iload_n C dX9_sums_49 3 rfl ?_
          obtain ⟨u21, e22, hf⟩ := cx_bd_at hf
          refine cx_Fvi (q := (RX9, TX9, 24)) (As := [.int p1, .int p2, .int p3]) (rest := []) (w1 := (wd_Model k m_a u19.1 u19.2 m_book m_images m_kept m_before m_refused m_quiet m_text m_typed m_at m_start m_token m_value m_items m_many u13.2.2.2 m_likes m_without m_onePicture m_oneYear m_first m_second m_names)) hA C me_X9_counts hw_1389 (c_X9_counts l D k m_a u19.1 u19.2 m_book m_images m_kept m_before m_refused m_quiet m_text m_typed m_at m_start m_token m_value m_items m_many u13.2.2.2 m_likes m_without m_onePicture m_oneYear m_first m_second m_names p1 p2 p3 u21 e22) dX9_sums_50 ⟨Nat.le_of_ble_eq_true rfl, Nat.le_of_ble_eq_true rfl⟩ ⟨Nat.zero_le _, Nat.zero_le _⟩ rfl rfl (Nat.le_of_ble_eq_true rfl) rfl rfl rfl ?_
          clear e22
          refine cx_istore (lv' := [(6, .int u21), (0, .ref (m_a 0)), (1, .int p1), (2, .int p2), (3, .int p3), (4, .int x4_10), (5, .int x5_11)]) C dX9_sums_53 (by decide) rfl ?_
          refine cx_iload C dX9_sums_55 0 rfl ?_
          refine cx_if_le (tgt := 74) C dX9_sums_57 (by decide) (fun c23 => ?_) (fun c23 => ?_)
          · have hf := cx_if_t hf c23
            clear c23
            refine cx_lv [1, 2, 3, 4, 5, 6] rfl ?_
            exact J74 u19.1 u19.2 u13.2.2.2 hf
          · have hf := cx_if_f hf c23
            clear c23
            refine cx_aload_n C dX9_sums_60 1 rfl ?_
            refine cx_iconst (v := 5) C dX9_sums_61 (by decide) ?_
            refine cx_iload C dX9_sums_62 0 rfl ?_
            obtain ⟨u24, e25, hf⟩ := cx_bd_at hf
            refine cx_Fvv (q := (RX9, TX9, 24)) (As := [.int 5, .int u21]) (rest := []) (w1 := (wd_Model k m_a u24.1 u24.2 m_book m_images m_kept m_before m_refused m_quiet m_text m_typed m_at m_start m_token m_value m_items m_many u13.2.2.2 m_likes m_without m_onePicture m_oneYear m_first m_second m_names)) hA C me_X9_times hw_1328 (c_X9_times l D k m_a u19.1 u19.2 m_book m_images m_kept m_before m_refused m_quiet m_text m_typed m_at m_start m_token m_value m_items m_many u13.2.2.2 m_likes m_without m_onePicture m_oneYear m_first m_second m_names 5 u21 u24 e25) dX9_sums_64 ⟨Nat.le_of_ble_eq_true rfl, Nat.le_of_ble_eq_true rfl⟩ ⟨Nat.zero_le _, Nat.zero_le _⟩ rfl rfl (Nat.le_of_ble_eq_true rfl) rfl rfl rfl ?_
            clear e25
            refine cx_aload_n C dX9_sums_67 1 rfl ?_
            refine cx_bipush (v := 7) C dX9_sums_68 (by decide) ?_
            refine cx_iconst (v := 5) C dX9_sums_70 (by decide) ?_
            obtain ⟨u26, e27, hf⟩ := cx_bd_at hf
            refine cx_Fvv (q := (RX9, TX9, 24)) (As := [.int 7, .int 5]) (rest := []) (w1 := (wd_Model k m_a u26.1 u26.2 m_book m_images m_kept m_before m_refused m_quiet m_text m_typed m_at m_start m_token m_value m_items m_many u13.2.2.2 m_likes m_without m_onePicture m_oneYear m_first m_second m_names)) hA C me_X9_adds hw_1332 (c_X9_adds l D k m_a u24.1 u24.2 m_book m_images m_kept m_before m_refused m_quiet m_text m_typed m_at m_start m_token m_value m_items m_many u13.2.2.2 m_likes m_without m_onePicture m_oneYear m_first m_second m_names 7 5 u26 e27) dX9_sums_71 ⟨Nat.le_of_ble_eq_true rfl, Nat.le_of_ble_eq_true rfl⟩ ⟨Nat.zero_le _, Nat.zero_le _⟩ rfl rfl (Nat.le_of_ble_eq_true rfl) rfl rfl rfl ?_
            clear e27
            refine cx_lv [1, 2, 3, 4, 5, 6] rfl ?_
            exact J74 u26.1 u26.2 u13.2.2.2 hf
  unfold f_X9_sums at hf
  refine cx_aload_n C dX9_sums_0 0 rfl ?_
  refine cx_bipush (v := 6) C dX9_sums_1 (by decide) ?_
  refine cx_lconst (v := 0) C dX9_sums_3 (by decide) ?_
  obtain ⟨u1, e2, hf⟩ := cx_bd_at hf
  refine cx_Fvv (q := (RX9, TX9, 24)) (As := [.int 6, .long 0]) (rest := []) (w1 := (wd_Model k m_a u1.1 u1.2 m_book m_images m_kept m_before m_refused m_quiet m_text m_typed m_at m_start m_token m_value m_items m_many m_is m_likes m_without m_onePicture m_oneYear m_first m_second m_names)) hA C me_X9_sets hw_1045 (c_X9_sets l D k m_a m_limbs m_wide m_book m_images m_kept m_before m_refused m_quiet m_text m_typed m_at m_start m_token m_value m_items m_many m_is m_likes m_without m_onePicture m_oneYear m_first m_second m_names 6 0 u1 e2) dX9_sums_4 ⟨Nat.le_of_ble_eq_true rfl, Nat.le_of_ble_eq_true rfl⟩ ⟨Nat.zero_le _, Nat.zero_le _⟩ rfl rfl (Nat.le_of_ble_eq_true rfl) rfl rfl rfl ?_
  clear e2
  refine cx_aload_n C dX9_sums_7 0 rfl ?_
  refine cx_bipush (v := 7) C dX9_sums_8 (by decide) ?_
  refine cx_lconst (v := 0) C dX9_sums_10 (by decide) ?_
  obtain ⟨u3, e4, hf⟩ := cx_bd_at hf
  refine cx_Fvv (q := (RX9, TX9, 24)) (As := [.int 7, .long 0]) (rest := []) (w1 := (wd_Model k m_a u3.1 u3.2 m_book m_images m_kept m_before m_refused m_quiet m_text m_typed m_at m_start m_token m_value m_items m_many m_is m_likes m_without m_onePicture m_oneYear m_first m_second m_names)) hA C me_X9_sets hw_1045 (c_X9_sets l D k m_a u1.1 u1.2 m_book m_images m_kept m_before m_refused m_quiet m_text m_typed m_at m_start m_token m_value m_items m_many m_is m_likes m_without m_onePicture m_oneYear m_first m_second m_names 7 0 u3 e4) dX9_sums_11 ⟨Nat.le_of_ble_eq_true rfl, Nat.le_of_ble_eq_true rfl⟩ ⟨Nat.zero_le _, Nat.zero_le _⟩ rfl rfl (Nat.le_of_ble_eq_true rfl) rfl rfl rfl ?_
  clear e4
  refine cx_aload_n C dX9_sums_14 0 rfl ?_
  obtain ⟨u5, e6, hf⟩ := cx_bd_at hf
  refine cx_Fvi (q := (RX9, TX9, 24)) (As := []) (rest := []) (w1 := (wd_Model k m_a u3.1 u3.2 m_book m_images m_kept m_before m_refused m_quiet m_text m_typed m_at m_start m_token m_value m_items m_many m_is m_likes m_without m_onePicture m_oneYear m_first m_second m_names)) hA C me_X9_ways hw_1292 (c_X9_ways l D k m_a u3.1 u3.2 m_book m_images m_kept m_before m_refused m_quiet m_text m_typed m_at m_start m_token m_value m_items m_many m_is m_likes m_without m_onePicture m_oneYear m_first m_second m_names u5 e6) dX9_sums_15 ⟨Nat.le_of_ble_eq_true rfl, Nat.le_of_ble_eq_true rfl⟩ ⟨Nat.zero_le _, Nat.zero_le _⟩ rfl rfl (Nat.le_of_ble_eq_true rfl) rfl rfl rfl ?_
  clear e6
  refine cx_istore (lv' := [(4, .int u5), (0, .ref (m_a 0)), (1, .int p1), (2, .int p2), (3, .int p3)]) C dX9_sums_18 (by decide) rfl ?_
  refine cx_iconst (v := 0) C dX9_sums_20 (by decide) ?_
  refine cx_istore (lv' := [(5, .int 0), (4, .int u5), (0, .ref (m_a 0)), (1, .int p1), (2, .int p2), (3, .int p3)]) C dX9_sums_21 (by decide) rfl ?_
  refine cx_lv [2, 3, 4, 5, 1, 0] rfl ?_
  exact L23 u5 cx_N0 u3.1 u3.2 m_is 0 hf
theorem dX9_tellsHit_0 : decode cX9_tellsHit 0 = .ok (.aload_n 0, 1) := by decide +kernel
theorem dX9_tellsHit_1 : decode cX9_tellsHit 1 = .ok (.iconst 0, 1) := by decide +kernel
theorem dX9_tellsHit_2 : decode cX9_tellsHit 2 = .ok (.bipush 7, 2) := by decide +kernel
theorem dX9_tellsHit_4 : decode cX9_tellsHit 4 = .ok (.invokevirtual 20, 3) := by decide +kernel
theorem dX9_tellsHit_7 : decode cX9_tellsHit 7 = .ok (.aload_n 0, 1) := by decide +kernel
theorem dX9_tellsHit_8 : decode cX9_tellsHit 8 = .ok (.iconst 1, 1) := by decide +kernel
theorem dX9_tellsHit_9 : decode cX9_tellsHit 9 = .ok (.bipush 6, 2) := by decide +kernel
theorem dX9_tellsHit_11 : decode cX9_tellsHit 11 = .ok (.invokevirtual 20, 3) := by decide +kernel
theorem dX9_tellsHit_14 : decode cX9_tellsHit 14 = .ok (.aload_n 0, 1) := by decide +kernel
theorem dX9_tellsHit_15 : decode cX9_tellsHit 15 = .ok (.invokevirtual 42, 3) := by decide +kernel
theorem dX9_tellsHit_18 : decode cX9_tellsHit 18 = .ok (.iconst 1, 1) := by decide +kernel
theorem dX9_tellsHit_19 : decode cX9_tellsHit 19 = .ok (.ireturn, 1) := by decide +kernel
theorem me_X9_tellsHit : cx_Mv yX9_tellsHit cX9_tellsHit 1 (some .int) 0 := ⟨⟨⟨by decide +kernel, by decide +kernel, by decide +kernel⟩, hw_11, hw_1344⟩, hw_1343, hs_68⟩
noncomputable def f_X9_tellsHit (m_limbs : Nat → Int32) (m_wide : Nat → Int32) : Option (Int32 × (Nat → Int32) × (Nat → Int32)) := Option.bind (f_X9_takes m_limbs m_wide 0 7) (fun u1 => Option.bind (f_X9_takes u1.1 u1.2 1 6) (fun u3 => Option.bind (f_X9_lowers u3.1 u3.2) (fun u5 => some ((1, u5.1, u5.2)))))
set_option maxHeartbeats 4000000 in
set_option maxRecDepth 100000 in
theorem c_X9_tellsHit (l : Launch) (D : va_G) (k : Nat → ClassId) (m_a : Nat → Nat) (m_limbs : Nat → Int32) (m_wide : Nat → Int32) (m_book : Nat → Int32) (m_images : Nat → Int32) (m_kept : Nat → Int32) (m_before : Nat → Int32) (m_refused : Nat → Int32) (m_quiet : Int32) (m_text : Nat → Int32) (m_typed : Int32) (m_at : Int32) (m_start : Int32) (m_token : Int32) (m_value : Int32) (m_items : Nat → Int32) (m_many : Int32) (m_is : Nat → Int32) (m_likes : Nat → Int32) (m_without : Int32) (m_onePicture : Int32) (m_oneYear : Int32) (m_first : Int32) (m_second : Int32) (m_names : Nat → Int32) (y : Int32 × (Nat → Int32) × (Nat → Int32)) (hf : f_X9_tellsHit m_limbs m_wide = some y) : cx_M l yX9_tellsHit cX9_tellsHit 1 (some .int) 4 D k [.ref (m_a 0)] (wd_Model k m_a m_limbs m_wide m_book m_images m_kept m_before m_refused m_quiet m_text m_typed m_at m_start m_token m_value m_items m_many m_is m_likes m_without m_onePicture m_oneYear m_first m_second m_names) (fun sz => cx_Qi D y.1 (wd_Model k m_a m_limbs m_wide m_book m_images m_kept m_before m_refused m_quiet m_text m_typed m_at m_start m_token m_value m_items m_many m_is m_likes m_without m_onePicture m_oneYear m_first m_second m_names) (wd_Model k m_a y.2.1 y.2.2 m_book m_images m_kept m_before m_refused m_quiet m_text m_typed m_at m_start m_token m_value m_items m_many m_is m_likes m_without m_onePicture m_oneYear m_first m_second m_names) sz) := by
  refine cx_met (own := "NamelessBoxModel") (by decide) rfl (Nat.le_of_ble_eq_true rfl) ?_
  intro p e s m args below meth c A Q C hA hQ hr hlk
  refine cx_lv (lv' := [(0, .ref (m_a 0))]) [0] rfl ?_
  unfold f_X9_tellsHit at hf
  refine cx_aload_n C dX9_tellsHit_0 0 rfl ?_
  refine cx_iconst (v := 0) C dX9_tellsHit_1 (by decide) ?_
  refine cx_bipush (v := 7) C dX9_tellsHit_2 (by decide) ?_
  obtain ⟨u1, e2, hf⟩ := cx_bd_at hf
  refine cx_Fvv (q := (RX9, TX9, 24)) (As := [.int 0, .int 7]) (rest := []) (w1 := (wd_Model k m_a u1.1 u1.2 m_book m_images m_kept m_before m_refused m_quiet m_text m_typed m_at m_start m_token m_value m_items m_many m_is m_likes m_without m_onePicture m_oneYear m_first m_second m_names)) hA C me_X9_takes hw_1324 (c_X9_takes l D k m_a m_limbs m_wide m_book m_images m_kept m_before m_refused m_quiet m_text m_typed m_at m_start m_token m_value m_items m_many m_is m_likes m_without m_onePicture m_oneYear m_first m_second m_names 0 7 u1 e2) dX9_tellsHit_4 ⟨Nat.le_of_ble_eq_true rfl, Nat.le_of_ble_eq_true rfl⟩ ⟨Nat.zero_le _, Nat.zero_le _⟩ rfl rfl (Nat.le_of_ble_eq_true rfl) rfl rfl rfl ?_
  clear e2
  refine cx_aload_n C dX9_tellsHit_7 0 rfl ?_
  refine cx_iconst (v := 1) C dX9_tellsHit_8 (by decide) ?_
  refine cx_bipush (v := 6) C dX9_tellsHit_9 (by decide) ?_
  obtain ⟨u3, e4, hf⟩ := cx_bd_at hf
  refine cx_Fvv (q := (RX9, TX9, 24)) (As := [.int 1, .int 6]) (rest := []) (w1 := (wd_Model k m_a u3.1 u3.2 m_book m_images m_kept m_before m_refused m_quiet m_text m_typed m_at m_start m_token m_value m_items m_many m_is m_likes m_without m_onePicture m_oneYear m_first m_second m_names)) hA C me_X9_takes hw_1324 (c_X9_takes l D k m_a u1.1 u1.2 m_book m_images m_kept m_before m_refused m_quiet m_text m_typed m_at m_start m_token m_value m_items m_many m_is m_likes m_without m_onePicture m_oneYear m_first m_second m_names 1 6 u3 e4) dX9_tellsHit_11 ⟨Nat.le_of_ble_eq_true rfl, Nat.le_of_ble_eq_true rfl⟩ ⟨Nat.zero_le _, Nat.zero_le _⟩ rfl rfl (Nat.le_of_ble_eq_true rfl) rfl rfl rfl ?_
  clear e4
  refine cx_aload_n C dX9_tellsHit_14 0 rfl ?_
  obtain ⟨u5, e6, hf⟩ := cx_bd_at hf
  refine cx_Fvv (q := (RX9, TX9, 24)) (As := []) (rest := []) (w1 := (wd_Model k m_a u5.1 u5.2 m_book m_images m_kept m_before m_refused m_quiet m_text m_typed m_at m_start m_token m_value m_items m_many m_is m_likes m_without m_onePicture m_oneYear m_first m_second m_names)) hA C me_X9_lowers hw_1345 (c_X9_lowers l D k m_a u3.1 u3.2 m_book m_images m_kept m_before m_refused m_quiet m_text m_typed m_at m_start m_token m_value m_items m_many m_is m_likes m_without m_onePicture m_oneYear m_first m_second m_names u5 e6) dX9_tellsHit_15 ⟨Nat.le_of_ble_eq_true rfl, Nat.le_of_ble_eq_true rfl⟩ ⟨Nat.zero_le _, Nat.zero_le _⟩ rfl rfl (Nat.le_of_ble_eq_true rfl) rfl rfl rfl ?_
  clear e6
  refine cx_iconst (v := 1) C dX9_tellsHit_18 (by decide) ?_
  obtain rfl := Option.some.inj hf
  exact cx_iret C hA hQ hr hlk dX9_tellsHit_19 rfl rfl
theorem dX9_shares_0 : decode cX9_shares 0 = .ok (.aload_n 0, 1) := by decide +kernel
theorem dX9_shares_1 : decode cX9_shares 1 = .ok (.bipush 6, 2) := by decide +kernel
theorem dX9_shares_3 : decode cX9_shares 3 = .ok (.lconst 0, 1) := by decide +kernel
theorem dX9_shares_4 : decode cX9_shares 4 = .ok (.invokevirtual 16, 3) := by decide +kernel
theorem dX9_shares_7 : decode cX9_shares 7 = .ok (.iconst 0, 1) := by decide +kernel
theorem dX9_shares_8 : decode cX9_shares 8 = .ok (.istore_n 2, 1) := by decide +kernel
theorem dX9_shares_9 : decode cX9_shares 9 = .ok (.iload_n 2, 1) := by decide +kernel
theorem dX9_shares_10 : decode cX9_shares 10 = .ok (.bipush 36, 2) := by decide +kernel
theorem dX9_shares_12 : decode cX9_shares 12 = .ok (.if_icmp .ge 18, 3) := by decide +kernel
theorem dX9_shares_15 : decode cX9_shares 15 = .ok (.aload_n 0, 1) := by decide +kernel
theorem dX9_shares_16 : decode cX9_shares 16 = .ok (.bipush 12, 2) := by decide +kernel
theorem dX9_shares_18 : decode cX9_shares 18 = .ok (.iload_n 2, 1) := by decide +kernel
theorem dX9_shares_19 : decode cX9_shares 19 = .ok (.iadd, 1) := by decide +kernel
theorem dX9_shares_20 : decode cX9_shares 20 = .ok (.lconst 0, 1) := by decide +kernel
theorem dX9_shares_21 : decode cX9_shares 21 = .ok (.invokevirtual 16, 3) := by decide +kernel
theorem dX9_shares_24 : decode cX9_shares 24 = .ok (.iinc 2 1, 3) := by decide +kernel
theorem dX9_shares_27 : decode cX9_shares 27 = .ok (.goto (-18), 3) := by decide +kernel
theorem dX9_shares_30 : decode cX9_shares 30 = .ok (.iconst 0, 1) := by decide +kernel
theorem dX9_shares_31 : decode cX9_shares 31 = .ok (.istore_n 2, 1) := by decide +kernel
theorem dX9_shares_32 : decode cX9_shares 32 = .ok (.iload_n 2, 1) := by decide +kernel
theorem dX9_shares_33 : decode cX9_shares 33 = .ok (.sipush 216, 3) := by decide +kernel
theorem dX9_shares_36 : decode cX9_shares 36 = .ok (.if_icmp .ge 23, 3) := by decide +kernel
theorem dX9_shares_39 : decode cX9_shares 39 = .ok (.iload_n 1, 1) := by decide +kernel
theorem dX9_shares_40 : decode cX9_shares 40 = .ok (.iconst (-1), 1) := by decide +kernel
theorem dX9_shares_41 : decode cX9_shares 41 = .ok (.if_icmp .eq 18, 3) := by decide +kernel
theorem dX9_shares_44 : decode cX9_shares 44 = .ok (.aload_n 0, 1) := by decide +kernel
theorem dX9_shares_45 : decode cX9_shares 45 = .ok (.bipush 48, 2) := by decide +kernel
theorem dX9_shares_47 : decode cX9_shares 47 = .ok (.iload_n 2, 1) := by decide +kernel
theorem dX9_shares_48 : decode cX9_shares 48 = .ok (.iadd, 1) := by decide +kernel
theorem dX9_shares_49 : decode cX9_shares 49 = .ok (.lconst 0, 1) := by decide +kernel
theorem dX9_shares_50 : decode cX9_shares 50 = .ok (.invokevirtual 16, 3) := by decide +kernel
theorem dX9_shares_53 : decode cX9_shares 53 = .ok (.iinc 2 1, 3) := by decide +kernel
theorem dX9_shares_56 : decode cX9_shares 56 = .ok (.goto (-24), 3) := by decide +kernel
theorem dX9_shares_59 : decode cX9_shares 59 = .ok (.aload_n 0, 1) := by decide +kernel
theorem dX9_shares_60 : decode cX9_shares 60 = .ok (.invokevirtual 272, 3) := by decide +kernel
theorem dX9_shares_63 : decode cX9_shares 63 = .ok (.istore_n 2, 1) := by decide +kernel
theorem dX9_shares_64 : decode cX9_shares 64 = .ok (.iconst 0, 1) := by decide +kernel
theorem dX9_shares_65 : decode cX9_shares 65 = .ok (.istore_n 3, 1) := by decide +kernel
theorem dX9_shares_66 : decode cX9_shares 66 = .ok (.iload_n 3, 1) := by decide +kernel
theorem dX9_shares_67 : decode cX9_shares 67 = .ok (.iload_n 2, 1) := by decide +kernel
theorem dX9_shares_68 : decode cX9_shares 68 = .ok (.if_icmp .ge 109, 3) := by decide +kernel
theorem dX9_shares_71 : decode cX9_shares 71 = .ok (.aload_n 0, 1) := by decide +kernel
theorem dX9_shares_72 : decode cX9_shares 72 = .ok (.iload_n 3, 1) := by decide +kernel
theorem dX9_shares_73 : decode cX9_shares 73 = .ok (.invokevirtual 275, 3) := by decide +kernel
theorem dX9_shares_76 : decode cX9_shares 76 = .ok (.ifCond .eq 95, 3) := by decide +kernel
theorem dX9_shares_79 : decode cX9_shares 79 = .ok (.aload_n 0, 1) := by decide +kernel
theorem dX9_shares_80 : decode cX9_shares 80 = .ok (.bipush 6, 2) := by decide +kernel
theorem dX9_shares_82 : decode cX9_shares 82 = .ok (.iconst 5, 1) := by decide +kernel
theorem dX9_shares_83 : decode cX9_shares 83 = .ok (.invokevirtual 278, 3) := by decide +kernel
theorem dX9_shares_86 : decode cX9_shares 86 = .ok (.iconst 0, 1) := by decide +kernel
theorem dX9_shares_87 : decode cX9_shares 87 = .ok (.istore 4, 2) := by decide +kernel
theorem dX9_shares_89 : decode cX9_shares 89 = .ok (.iload 4, 2) := by decide +kernel
theorem dX9_shares_91 : decode cX9_shares 91 = .ok (.aload_n 0, 1) := by decide +kernel
theorem dX9_shares_92 : decode cX9_shares 92 = .ok (.getfield 51, 3) := by decide +kernel
theorem dX9_shares_95 : decode cX9_shares 95 = .ok (.iconst 2, 1) := by decide +kernel
theorem dX9_shares_96 : decode cX9_shares 96 = .ok (.iaload, 1) := by decide +kernel
theorem dX9_shares_97 : decode cX9_shares 97 = .ok (.if_icmp .ge 74, 3) := by decide +kernel
theorem dX9_shares_100 : decode cX9_shares 100 = .ok (.aload_n 0, 1) := by decide +kernel
theorem dX9_shares_101 : decode cX9_shares 101 = .ok (.bipush 12, 2) := by decide +kernel
theorem dX9_shares_103 : decode cX9_shares 103 = .ok (.bipush 6, 2) := by decide +kernel
theorem dX9_shares_105 : decode cX9_shares 105 = .ok (.iload 4, 2) := by decide +kernel
theorem dX9_shares_107 : decode cX9_shares 107 = .ok (.imul, 1) := by decide +kernel
theorem dX9_shares_108 : decode cX9_shares 108 = .ok (.iadd, 1) := by decide +kernel
theorem dX9_shares_109 : decode cX9_shares 109 = .ok (.aload_n 0, 1) := by decide +kernel
theorem dX9_shares_110 : decode cX9_shares 110 = .ok (.getfield 73, 3) := by decide +kernel
theorem dX9_shares_113 : decode cX9_shares 113 = .ok (.iload 4, 2) := by decide +kernel
theorem dX9_shares_115 : decode cX9_shares 115 = .ok (.iaload, 1) := by decide +kernel
theorem dX9_shares_116 : decode cX9_shares 116 = .ok (.iadd, 1) := by decide +kernel
theorem dX9_shares_117 : decode cX9_shares 117 = .ok (.iconst 5, 1) := by decide +kernel
theorem dX9_shares_118 : decode cX9_shares 118 = .ok (.invokevirtual 278, 3) := by decide +kernel
theorem dX9_shares_121 : decode cX9_shares 121 = .ok (.iload_n 1, 1) := by decide +kernel
theorem dX9_shares_122 : decode cX9_shares 122 = .ok (.iconst (-1), 1) := by decide +kernel
theorem dX9_shares_123 : decode cX9_shares 123 = .ok (.if_icmp .eq 42, 3) := by decide +kernel
theorem dX9_shares_126 : decode cX9_shares 126 = .ok (.aload_n 0, 1) := by decide +kernel
theorem dX9_shares_127 : decode cX9_shares 127 = .ok (.bipush 48, 2) := by decide +kernel
theorem dX9_shares_129 : decode cX9_shares 129 = .ok (.bipush 36, 2) := by decide +kernel
theorem dX9_shares_131 : decode cX9_shares 131 = .ok (.aload_n 0, 1) := by decide +kernel
theorem dX9_shares_132 : decode cX9_shares 132 = .ok (.getfield 73, 3) := by decide +kernel
theorem dX9_shares_135 : decode cX9_shares 135 = .ok (.iload_n 1, 1) := by decide +kernel
theorem dX9_shares_136 : decode cX9_shares 136 = .ok (.ifCond .ge 7, 3) := by decide +kernel
theorem dX9_shares_139 : decode cX9_shares 139 = .ok (.iconst 0, 1) := by decide +kernel
theorem dX9_shares_140 : decode cX9_shares 140 = .ok (.goto 4, 3) := by decide +kernel
theorem dX9_shares_143 : decode cX9_shares 143 = .ok (.iload_n 1, 1) := by decide +kernel
theorem dX9_shares_144 : decode cX9_shares 144 = .ok (.iaload, 1) := by decide +kernel
theorem dX9_shares_145 : decode cX9_shares 145 = .ok (.imul, 1) := by decide +kernel
theorem dX9_shares_146 : decode cX9_shares 146 = .ok (.iadd, 1) := by decide +kernel
theorem dX9_shares_147 : decode cX9_shares 147 = .ok (.bipush 6, 2) := by decide +kernel
theorem dX9_shares_149 : decode cX9_shares 149 = .ok (.iload 4, 2) := by decide +kernel
theorem dX9_shares_151 : decode cX9_shares 151 = .ok (.imul, 1) := by decide +kernel
theorem dX9_shares_152 : decode cX9_shares 152 = .ok (.iadd, 1) := by decide +kernel
theorem dX9_shares_153 : decode cX9_shares 153 = .ok (.aload_n 0, 1) := by decide +kernel
theorem dX9_shares_154 : decode cX9_shares 154 = .ok (.getfield 73, 3) := by decide +kernel
theorem dX9_shares_157 : decode cX9_shares 157 = .ok (.iload 4, 2) := by decide +kernel
theorem dX9_shares_159 : decode cX9_shares 159 = .ok (.iaload, 1) := by decide +kernel
theorem dX9_shares_160 : decode cX9_shares 160 = .ok (.iadd, 1) := by decide +kernel
theorem dX9_shares_161 : decode cX9_shares 161 = .ok (.iconst 5, 1) := by decide +kernel
theorem dX9_shares_162 : decode cX9_shares 162 = .ok (.invokevirtual 278, 3) := by decide +kernel
theorem dX9_shares_165 : decode cX9_shares 165 = .ok (.iinc 4 1, 3) := by decide +kernel
theorem dX9_shares_168 : decode cX9_shares 168 = .ok (.goto (-79), 3) := by decide +kernel
theorem dX9_shares_171 : decode cX9_shares 171 = .ok (.iinc 3 1, 3) := by decide +kernel
theorem dX9_shares_174 : decode cX9_shares 174 = .ok (.goto (-108), 3) := by decide +kernel
theorem dX9_shares_177 : decode cX9_shares 177 = .ok (.return_, 1) := by decide +kernel
theorem me_X9_shares : cx_Mv yX9_shares cX9_shares 5 none 1 := ⟨⟨⟨by decide +kernel, by decide +kernel, by decide +kernel⟩, hw_11, hw_1291⟩, hw_1290, hs_55⟩
noncomputable def f_X9_shares_J171 (x3_19 : Int32) (rc66 : (Nat → Int32) → (Nat → Int32) → (Nat → Int32) → Int32 → Option ((Nat → Int32) × (Nat → Int32) × (Nat → Int32))) (a_24 : Nat → Int32) (a_25 : Nat → Int32) (a_26 : Nat → Int32) : Option ((Nat → Int32) × (Nat → Int32) × (Nat → Int32)) := rc66 a_24 a_25 a_26 (x3_19 + 1)
noncomputable def f_X9_shares_J165 (x4_32 : Int32) (rc89 : (Nat → Int32) → (Nat → Int32) → Int32 → Option ((Nat → Int32) × (Nat → Int32) × (Nat → Int32))) (a_39 : Nat → Int32) (a_40 : Nat → Int32) : Option ((Nat → Int32) × (Nat → Int32) × (Nat → Int32)) := rc89 a_39 a_40 (x4_32 + 1)
noncomputable def f_X9_shares_J144 (a_31 : Nat → Int32) (x4_32 : Int32) (rc89 : (Nat → Int32) → (Nat → Int32) → Int32 → Option ((Nat → Int32) × (Nat → Int32) × (Nat → Int32))) (a_42 : Nat → Int32) (a_43 : Nat → Int32) (s1_44 : Int32) (s2_45 : Int32) (s4_46 : Int32) : Option ((Nat → Int32) × (Nat → Int32) × (Nat → Int32)) := cx_gd (cx_ib s4_46 6) (cx_gd (cx_ib x4_32 6) (Option.bind (f_X9_adds a_42 a_43 (((s1_44 + (s2_45 * (a_31 (cx_ix s4_46)))) + (6 * x4_32)) + (a_31 (cx_ix x4_32))) 5) (fun u49 => f_X9_shares_J165 x4_32 rc89 u49.1 u49.2)))
noncomputable def f_X9_shares_L89 (m_book : Nat → Int32) (p1 : Int32) (x3_19 : Int32) (rc66 : (Nat → Int32) → (Nat → Int32) → (Nat → Int32) → Int32 → Option ((Nat → Int32) × (Nat → Int32) × (Nat → Int32))) (a_31 : Nat → Int32) (rc89 : (Nat → Int32) → (Nat → Int32) → Int32 → Option ((Nat → Int32) × (Nat → Int32) × (Nat → Int32))) (a_29 : Nat → Int32) (a_30 : Nat → Int32) (x4_32 : Int32) : Option ((Nat → Int32) × (Nat → Int32) × (Nat → Int32)) := cx_gd (cx_ib 2 140) (if (m_book (cx_ix 2)) ≤ x4_32 then (f_X9_shares_J171 x3_19 rc66 a_29 a_30 a_31) else (cx_gd (cx_ib x4_32 6) (Option.bind (f_X9_adds a_29 a_30 ((12 + (6 * x4_32)) + (a_31 (cx_ix x4_32))) 5) (fun u36 => if p1 = ((-1)) then (f_X9_shares_J165 x4_32 rc89 u36.1 u36.2) else (if 0 ≤ p1 then (f_X9_shares_J144 a_31 x4_32 rc89 u36.1 u36.2 48 36 p1) else (f_X9_shares_J144 a_31 x4_32 rc89 u36.1 u36.2 48 36 0))))))
noncomputable def f_X9_shares_L89w (m_book : Nat → Int32) (p1 : Int32) (x3_19 : Int32) (rc66 : (Nat → Int32) → (Nat → Int32) → (Nat → Int32) → Int32 → Option ((Nat → Int32) × (Nat → Int32) × (Nat → Int32))) (a_31 : Nat → Int32) (n : Nat) : (Nat → Int32) → (Nat → Int32) → Int32 → Option ((Nat → Int32) × (Nat → Int32) × (Nat → Int32)) := Nat.rec (fun _ _ _ => none) (fun _ r => f_X9_shares_L89 m_book p1 x3_19 rc66 a_31 r) n
noncomputable def f_X9_shares_L66 (m_book : Nat → Int32) (m_likes : Nat → Int32) (m_without : Int32) (m_onePicture : Int32) (m_oneYear : Int32) (m_first : Int32) (m_second : Int32) (p1 : Int32) (x2_18 : Int32) (rc66 : (Nat → Int32) → (Nat → Int32) → (Nat → Int32) → Int32 → Option ((Nat → Int32) × (Nat → Int32) × (Nat → Int32))) (a_15 : Nat → Int32) (a_16 : Nat → Int32) (a_17 : Nat → Int32) (x3_19 : Int32) : Option ((Nat → Int32) × (Nat → Int32) × (Nat → Int32)) := if x2_18 ≤ x3_19 then (some ((a_15, a_16, a_17))) else (Option.bind (f_X9_weighs a_15 a_16 m_book a_17 m_likes m_without m_onePicture m_oneYear m_first m_second x3_19) (fun u21 => if u21.1 = 0 then (f_X9_shares_J171 x3_19 rc66 u21.2.1 u21.2.2.1 u21.2.2.2) else (Option.bind (f_X9_adds u21.2.1 u21.2.2.1 6 5) (fun u27 => f_X9_shares_L89w m_book p1 x3_19 rc66 u21.2.2.2 cx_N0 u27.1 u27.2 0))))
noncomputable def f_X9_shares_L66w (m_book : Nat → Int32) (m_likes : Nat → Int32) (m_without : Int32) (m_onePicture : Int32) (m_oneYear : Int32) (m_first : Int32) (m_second : Int32) (p1 : Int32) (x2_18 : Int32) (n : Nat) : (Nat → Int32) → (Nat → Int32) → (Nat → Int32) → Int32 → Option ((Nat → Int32) × (Nat → Int32) × (Nat → Int32)) := Nat.rec (fun _ _ _ _ => none) (fun _ r => f_X9_shares_L66 m_book m_likes m_without m_onePicture m_oneYear m_first m_second p1 x2_18 r) n
noncomputable def f_X9_shares_J59 (m_book : Nat → Int32) (m_is : Nat → Int32) (m_likes : Nat → Int32) (m_without : Int32) (m_onePicture : Int32) (m_oneYear : Int32) (m_first : Int32) (m_second : Int32) (p1 : Int32) (a_11 : Nat → Int32) (a_12 : Nat → Int32) : Option ((Nat → Int32) × (Nat → Int32) × (Nat → Int32)) := Option.bind (f_X9_ways m_book) (fun u13 => f_X9_shares_L66w m_book m_likes m_without m_onePicture m_oneYear m_first m_second p1 u13 cx_N0 a_11 a_12 m_is 0)
noncomputable def f_X9_shares_L32 (m_book : Nat → Int32) (m_is : Nat → Int32) (m_likes : Nat → Int32) (m_without : Int32) (m_onePicture : Int32) (m_oneYear : Int32) (m_first : Int32) (m_second : Int32) (p1 : Int32) (rc32 : (Nat → Int32) → (Nat → Int32) → Int32 → Option ((Nat → Int32) × (Nat → Int32) × (Nat → Int32))) (a_7 : Nat → Int32) (a_8 : Nat → Int32) (x2_9 : Int32) : Option ((Nat → Int32) × (Nat → Int32) × (Nat → Int32)) := if 216 ≤ x2_9 then (f_X9_shares_J59 m_book m_is m_likes m_without m_onePicture m_oneYear m_first m_second p1 a_7 a_8) else (if p1 = ((-1)) then (f_X9_shares_J59 m_book m_is m_likes m_without m_onePicture m_oneYear m_first m_second p1 a_7 a_8) else (Option.bind (f_X9_sets a_7 a_8 (48 + x2_9) 0) (fun u52 => rc32 u52.1 u52.2 (x2_9 + 1))))
noncomputable def f_X9_shares_L32w (m_book : Nat → Int32) (m_is : Nat → Int32) (m_likes : Nat → Int32) (m_without : Int32) (m_onePicture : Int32) (m_oneYear : Int32) (m_first : Int32) (m_second : Int32) (p1 : Int32) (n : Nat) : (Nat → Int32) → (Nat → Int32) → Int32 → Option ((Nat → Int32) × (Nat → Int32) × (Nat → Int32)) := Nat.rec (fun _ _ _ => none) (fun _ r => f_X9_shares_L32 m_book m_is m_likes m_without m_onePicture m_oneYear m_first m_second p1 r) n
noncomputable def f_X9_shares_L9 (m_book : Nat → Int32) (m_is : Nat → Int32) (m_likes : Nat → Int32) (m_without : Int32) (m_onePicture : Int32) (m_oneYear : Int32) (m_first : Int32) (m_second : Int32) (p1 : Int32) (rc9 : (Nat → Int32) → (Nat → Int32) → Int32 → Option ((Nat → Int32) × (Nat → Int32) × (Nat → Int32))) (a_3 : Nat → Int32) (a_4 : Nat → Int32) (x2_5 : Int32) : Option ((Nat → Int32) × (Nat → Int32) × (Nat → Int32)) := if 36 ≤ x2_5 then (f_X9_shares_L32w m_book m_is m_likes m_without m_onePicture m_oneYear m_first m_second p1 cx_N0 a_3 a_4 0) else (Option.bind (f_X9_sets a_3 a_4 (12 + x2_5) 0) (fun u54 => rc9 u54.1 u54.2 (x2_5 + 1)))
noncomputable def f_X9_shares_L9w (m_book : Nat → Int32) (m_is : Nat → Int32) (m_likes : Nat → Int32) (m_without : Int32) (m_onePicture : Int32) (m_oneYear : Int32) (m_first : Int32) (m_second : Int32) (p1 : Int32) (n : Nat) : (Nat → Int32) → (Nat → Int32) → Int32 → Option ((Nat → Int32) × (Nat → Int32) × (Nat → Int32)) := Nat.rec (fun _ _ _ => none) (fun _ r => f_X9_shares_L9 m_book m_is m_likes m_without m_onePicture m_oneYear m_first m_second p1 r) n
noncomputable def f_X9_shares (m_limbs : Nat → Int32) (m_wide : Nat → Int32) (m_book : Nat → Int32) (m_is : Nat → Int32) (m_likes : Nat → Int32) (m_without : Int32) (m_onePicture : Int32) (m_oneYear : Int32) (m_first : Int32) (m_second : Int32) (p1 : Int32) : Option ((Nat → Int32) × (Nat → Int32) × (Nat → Int32)) := Option.bind (f_X9_sets m_limbs m_wide 6 0) (fun u1 => f_X9_shares_L9w m_book m_is m_likes m_without m_onePicture m_oneYear m_first m_second p1 cx_N0 u1.1 u1.2 0)
set_option maxHeartbeats 4000000 in
set_option maxRecDepth 100000 in
theorem c_X9_shares (l : Launch) (D : va_G) (k : Nat → ClassId) (m_a : Nat → Nat) (m_limbs : Nat → Int32) (m_wide : Nat → Int32) (m_book : Nat → Int32) (m_images : Nat → Int32) (m_kept : Nat → Int32) (m_before : Nat → Int32) (m_refused : Nat → Int32) (m_quiet : Int32) (m_text : Nat → Int32) (m_typed : Int32) (m_at : Int32) (m_start : Int32) (m_token : Int32) (m_value : Int32) (m_items : Nat → Int32) (m_many : Int32) (m_is : Nat → Int32) (m_likes : Nat → Int32) (m_without : Int32) (m_onePicture : Int32) (m_oneYear : Int32) (m_first : Int32) (m_second : Int32) (m_names : Nat → Int32) (p1 : Int32) (y : (Nat → Int32) × (Nat → Int32) × (Nat → Int32)) (hf : f_X9_shares m_limbs m_wide m_book m_is m_likes m_without m_onePicture m_oneYear m_first m_second p1 = some y) : cx_M l yX9_shares cX9_shares 5 none 6 D k [.ref (m_a 0), .int p1] (wd_Model k m_a m_limbs m_wide m_book m_images m_kept m_before m_refused m_quiet m_text m_typed m_at m_start m_token m_value m_items m_many m_is m_likes m_without m_onePicture m_oneYear m_first m_second m_names) (fun sz => cx_Qv D (wd_Model k m_a m_limbs m_wide m_book m_images m_kept m_before m_refused m_quiet m_text m_typed m_at m_start m_token m_value m_items m_many m_is m_likes m_without m_onePicture m_oneYear m_first m_second m_names) (wd_Model k m_a y.1 y.2.1 m_book m_images m_kept m_before m_refused m_quiet m_text m_typed m_at m_start m_token m_value m_items m_many y.2.2 m_likes m_without m_onePicture m_oneYear m_first m_second m_names) sz) := by
  refine cx_met (own := "NamelessBoxModel") (by decide) rfl (Nat.le_of_ble_eq_true rfl) ?_
  intro p e s m args below meth c A Q C hA hQ hr hlk
  refine cx_lv (lv' := [(0, .ref (m_a 0)), (1, .int p1)]) [0, 1] rfl ?_
  have L66 : ∀ (x2_18 : Int32) (n66 : Nat) (a_15 : Nat → Int32) (a_16 : Nat → Int32) (a_17 : Nat → Int32) (x3_19 : Int32), f_X9_shares_L66w m_book m_likes m_without m_onePicture m_oneYear m_first m_second p1 x2_18 n66 a_15 a_16 a_17 x3_19 = some y → cx_S p l e (cx_rm 6) s m args below meth c A D 5 0 0 Q 66 [(0, .ref (m_a 0)), (1, .int p1), (2, .int x2_18), (3, .int x3_19)] [] (wd_Model k m_a a_15 a_16 m_book m_images m_kept m_before m_refused m_quiet m_text m_typed m_at m_start m_token m_value m_items m_many a_17 m_likes m_without m_onePicture m_oneYear m_first m_second m_names) := by
    intro x2_18 n66
    induction n66 with
    | zero =>
      intro a_15 a_16 a_17 x3_19 hf
      exact absurd (show (none : Option ((Nat → Int32) × (Nat → Int32) × (Nat → Int32))) = some y from hf) (fun h => by cases h)
    | succ n66 ih66 =>
      intro a_15 a_16 a_17 x3_19 hf
      have hf : f_X9_shares_L66 m_book m_likes m_without m_onePicture m_oneYear m_first m_second p1 x2_18 (f_X9_shares_L66w m_book m_likes m_without m_onePicture m_oneYear m_first m_second p1 x2_18 n66) a_15 a_16 a_17 x3_19 = some y := hf
      have J171 : ∀ (a_24 : Nat → Int32) (a_25 : Nat → Int32) (a_26 : Nat → Int32), f_X9_shares_J171 x3_19 (f_X9_shares_L66w m_book m_likes m_without m_onePicture m_oneYear m_first m_second p1 x2_18 n66) a_24 a_25 a_26 = some y → cx_S p l e (cx_rm 6) s m args below meth c A D 5 0 0 Q 171 [(0, .ref (m_a 0)), (1, .int p1), (2, .int x2_18), (3, .int x3_19)] [] (wd_Model k m_a a_24 a_25 m_book m_images m_kept m_before m_refused m_quiet m_text m_typed m_at m_start m_token m_value m_items m_many a_26 m_likes m_without m_onePicture m_oneYear m_first m_second m_names) := by
        intro a_24 a_25 a_26 hf
        unfold f_X9_shares_J171 at hf
        refine cx_iinc (v := x3_19 + 1) (lv' := [(3, .int (x3_19 + 1)), (0, .ref (m_a 0)), (1, .int p1), (2, .int x2_18)]) C dX9_shares_171 3 rfl rfl (by decide) rfl ?_
        refine cx_goto (tgt := 66) C dX9_shares_174 (by decide) ?_
        refine cx_lv [1, 2, 3, 0] rfl ?_
        exact ih66 a_24 a_25 a_26 (x3_19 + 1) hf
      have L89 : ∀ (a_31 : Nat → Int32) (n89 : Nat) (a_29 : Nat → Int32) (a_30 : Nat → Int32) (x4_32 : Int32), f_X9_shares_L89w m_book p1 x3_19 (f_X9_shares_L66w m_book m_likes m_without m_onePicture m_oneYear m_first m_second p1 x2_18 n66) a_31 n89 a_29 a_30 x4_32 = some y → cx_S p l e (cx_rm 6) s m args below meth c A D 5 0 0 Q 89 [(0, .ref (m_a 0)), (1, .int p1), (2, .int x2_18), (3, .int x3_19), (4, .int x4_32)] [] (wd_Model k m_a a_29 a_30 m_book m_images m_kept m_before m_refused m_quiet m_text m_typed m_at m_start m_token m_value m_items m_many a_31 m_likes m_without m_onePicture m_oneYear m_first m_second m_names) := by
        intro a_31 n89
        induction n89 with
        | zero =>
          intro a_29 a_30 x4_32 hf
          exact absurd (show (none : Option ((Nat → Int32) × (Nat → Int32) × (Nat → Int32))) = some y from hf) (fun h => by cases h)
        | succ n89 ih89 =>
          intro a_29 a_30 x4_32 hf
          have hf : f_X9_shares_L89 m_book p1 x3_19 (f_X9_shares_L66w m_book m_likes m_without m_onePicture m_oneYear m_first m_second p1 x2_18 n66) a_31 (f_X9_shares_L89w m_book p1 x3_19 (f_X9_shares_L66w m_book m_likes m_without m_onePicture m_oneYear m_first m_second p1 x2_18 n66) a_31 n89) a_29 a_30 x4_32 = some y := hf
          have J165 : ∀ (a_39 : Nat → Int32) (a_40 : Nat → Int32), f_X9_shares_J165 x4_32 (f_X9_shares_L89w m_book p1 x3_19 (f_X9_shares_L66w m_book m_likes m_without m_onePicture m_oneYear m_first m_second p1 x2_18 n66) a_31 n89) a_39 a_40 = some y → cx_S p l e (cx_rm 6) s m args below meth c A D 5 0 0 Q 165 [(0, .ref (m_a 0)), (1, .int p1), (2, .int x2_18), (3, .int x3_19), (4, .int x4_32)] [] (wd_Model k m_a a_39 a_40 m_book m_images m_kept m_before m_refused m_quiet m_text m_typed m_at m_start m_token m_value m_items m_many a_31 m_likes m_without m_onePicture m_oneYear m_first m_second m_names) := by
            intro a_39 a_40 hf
            unfold f_X9_shares_J165 at hf
            refine cx_iinc (v := x4_32 + 1) (lv' := [(4, .int (x4_32 + 1)), (0, .ref (m_a 0)), (1, .int p1), (2, .int x2_18), (3, .int x3_19)]) C dX9_shares_165 4 rfl rfl (by decide) rfl ?_
            refine cx_goto (tgt := 89) C dX9_shares_168 (by decide) ?_
            refine cx_lv [1, 2, 3, 4, 0] rfl ?_
            exact ih89 a_39 a_40 (x4_32 + 1) hf
          have J144 : ∀ (a_42 : Nat → Int32) (a_43 : Nat → Int32) (s1_44 : Int32) (s2_45 : Int32) (s4_46 : Int32), f_X9_shares_J144 a_31 x4_32 (f_X9_shares_L89w m_book p1 x3_19 (f_X9_shares_L66w m_book m_likes m_without m_onePicture m_oneYear m_first m_second p1 x2_18 n66) a_31 n89) a_42 a_43 s1_44 s2_45 s4_46 = some y → cx_S p l e (cx_rm 6) s m args below meth c A D 5 0 0 Q 144 [(0, .ref (m_a 0)), (1, .int p1), (2, .int x2_18), (3, .int x3_19), (4, .int x4_32)] [.int s4_46, .ref (m_a 10), .int s2_45, .int s1_44, .ref (m_a 0)] (wd_Model k m_a a_42 a_43 m_book m_images m_kept m_before m_refused m_quiet m_text m_typed m_at m_start m_token m_value m_items m_many a_31 m_likes m_without m_onePicture m_oneYear m_first m_second m_names) := by
            intro a_42 a_43 s1_44 s2_45 s4_46 hf
            unfold f_X9_shares_J144 at hf
            obtain ⟨g47, hf⟩ := cx_gd_at hf
            refine cx_iald C dX9_shares_144 10 rfl (cx_ib_in g47) ?_
            clear g47
            refine cx_imul C dX9_shares_145 ?_
            refine cx_iadd C dX9_shares_146 ?_
            refine cx_bipush (v := 6) C dX9_shares_147 (by decide) ?_
            refine cx_iload C dX9_shares_149 4 rfl ?_
            refine cx_imul C dX9_shares_151 ?_
            refine cx_iadd C dX9_shares_152 ?_
            refine cx_aload_n C dX9_shares_153 0 rfl ?_
            refine cx_get (v := .ref (m_a 10)) (ci := 8) C iX9 dX9_shares_154 0 rfl rfl 16 (by decide) hw_1070 rfl ?_
            refine cx_iload C dX9_shares_157 4 rfl ?_
            obtain ⟨g48, hf⟩ := cx_gd_at hf
            refine cx_iald C dX9_shares_159 10 rfl (cx_ib_in g48) ?_
            clear g48
            refine cx_iadd C dX9_shares_160 ?_
            refine cx_iconst (v := 5) C dX9_shares_161 (by decide) ?_
            obtain ⟨u49, e50, hf⟩ := cx_bd_at hf
            refine cx_Fvv (q := (RX9, TX9, 24)) (As := [.int (((s1_44 + (s2_45 * (a_31 (cx_ix s4_46)))) + (6 * x4_32)) + (a_31 (cx_ix x4_32))), .int 5]) (rest := []) (w1 := (wd_Model k m_a u49.1 u49.2 m_book m_images m_kept m_before m_refused m_quiet m_text m_typed m_at m_start m_token m_value m_items m_many a_31 m_likes m_without m_onePicture m_oneYear m_first m_second m_names)) hA C me_X9_adds hw_1332 (c_X9_adds l D k m_a a_42 a_43 m_book m_images m_kept m_before m_refused m_quiet m_text m_typed m_at m_start m_token m_value m_items m_many a_31 m_likes m_without m_onePicture m_oneYear m_first m_second m_names (((s1_44 + (s2_45 * (a_31 (cx_ix s4_46)))) + (6 * x4_32)) + (a_31 (cx_ix x4_32))) 5 u49 e50) dX9_shares_162 ⟨Nat.le_of_ble_eq_true rfl, Nat.le_of_ble_eq_true rfl⟩ ⟨Nat.zero_le _, Nat.zero_le _⟩ rfl rfl (Nat.le_of_ble_eq_true rfl) rfl rfl rfl ?_
            clear e50
            exact J165 u49.1 u49.2 hf
          unfold f_X9_shares_L89 at hf
          refine cx_iload C dX9_shares_89 4 rfl ?_
          refine cx_aload_n C dX9_shares_91 0 rfl ?_
          refine cx_get (v := .ref (m_a 3)) (ci := 8) C iX9 dX9_shares_92 0 rfl rfl 2 (by decide) hw_1056 rfl ?_
          refine cx_iconst (v := 2) C dX9_shares_95 (by decide) ?_
          obtain ⟨g33, hf⟩ := cx_gd_at hf
          refine cx_iald C dX9_shares_96 3 rfl (cx_ib_in g33) ?_
          clear g33
          refine cx_icmp_ge (tgt := 171) C dX9_shares_97 (by decide) (fun c34 => ?_) (fun c34 => ?_)
          · have hf := cx_if_t hf c34
            clear c34
            refine cx_lv [0, 1, 2, 3] rfl ?_
            exact J171 a_29 a_30 a_31 hf
          · have hf := cx_if_f hf c34
            clear c34
            refine cx_aload_n C dX9_shares_100 0 rfl ?_
            refine cx_bipush (v := 12) C dX9_shares_101 (by decide) ?_
            refine cx_bipush (v := 6) C dX9_shares_103 (by decide) ?_
            refine cx_iload C dX9_shares_105 4 rfl ?_
            refine cx_imul C dX9_shares_107 ?_
            refine cx_iadd C dX9_shares_108 ?_
            refine cx_aload_n C dX9_shares_109 0 rfl ?_
            refine cx_get (v := .ref (m_a 10)) (ci := 8) C iX9 dX9_shares_110 0 rfl rfl 16 (by decide) hw_1070 rfl ?_
            refine cx_iload C dX9_shares_113 4 rfl ?_
            obtain ⟨g35, hf⟩ := cx_gd_at hf
            refine cx_iald C dX9_shares_115 10 rfl (cx_ib_in g35) ?_
            clear g35
            refine cx_iadd C dX9_shares_116 ?_
            refine cx_iconst (v := 5) C dX9_shares_117 (by decide) ?_
            obtain ⟨u36, e37, hf⟩ := cx_bd_at hf
            refine cx_Fvv (q := (RX9, TX9, 24)) (As := [.int ((12 + (6 * x4_32)) + (a_31 (cx_ix x4_32))), .int 5]) (rest := []) (w1 := (wd_Model k m_a u36.1 u36.2 m_book m_images m_kept m_before m_refused m_quiet m_text m_typed m_at m_start m_token m_value m_items m_many a_31 m_likes m_without m_onePicture m_oneYear m_first m_second m_names)) hA C me_X9_adds hw_1332 (c_X9_adds l D k m_a a_29 a_30 m_book m_images m_kept m_before m_refused m_quiet m_text m_typed m_at m_start m_token m_value m_items m_many a_31 m_likes m_without m_onePicture m_oneYear m_first m_second m_names ((12 + (6 * x4_32)) + (a_31 (cx_ix x4_32))) 5 u36 e37) dX9_shares_118 ⟨Nat.le_of_ble_eq_true rfl, Nat.le_of_ble_eq_true rfl⟩ ⟨Nat.zero_le _, Nat.zero_le _⟩ rfl rfl (Nat.le_of_ble_eq_true rfl) rfl rfl rfl ?_
            clear e37
            refine cx_iload_n C dX9_shares_121 1 rfl ?_
            refine cx_iconst (v := (-1)) C dX9_shares_122 (by decide) ?_
            refine cx_icmp_eq (tgt := 165) C dX9_shares_123 (by decide) (fun c38 => ?_) (fun c38 => ?_)
            · have hf := cx_if_t hf c38
              clear c38
              exact J165 u36.1 u36.2 hf
            · have hf := cx_if_f hf c38
              clear c38
              refine cx_aload_n C dX9_shares_126 0 rfl ?_
              refine cx_bipush (v := 48) C dX9_shares_127 (by decide) ?_
              refine cx_bipush (v := 36) C dX9_shares_129 (by decide) ?_
              refine cx_aload_n C dX9_shares_131 0 rfl ?_
              refine cx_get (v := .ref (m_a 10)) (ci := 8) C iX9 dX9_shares_132 0 rfl rfl 16 (by decide) hw_1070 rfl ?_
              refine cx_iload_n C dX9_shares_135 1 rfl ?_
              refine cx_if_ge (tgt := 143) C dX9_shares_136 (by decide) (fun c41 => ?_) (fun c41 => ?_)
              · have hf := cx_if_t hf c41
                clear c41
                refine cx_iload_n C dX9_shares_143 1 rfl ?_
                exact J144 u36.1 u36.2 48 36 p1 hf
              · have hf := cx_if_f hf c41
                clear c41
                refine cx_iconst (v := 0) C dX9_shares_139 (by decide) ?_
                refine cx_goto (tgt := 144) C dX9_shares_140 (by decide) ?_
                exact J144 u36.1 u36.2 48 36 0 hf
      unfold f_X9_shares_L66 at hf
      refine cx_iload_n C dX9_shares_66 3 rfl ?_
      refine cx_iload_n C dX9_shares_67 2 rfl ?_
      refine cx_icmp_ge (tgt := 177) C dX9_shares_68 (by decide) (fun c20 => ?_) (fun c20 => ?_)
      · have hf := cx_if_t hf c20
        clear c20
        obtain rfl := Option.some.inj hf
        exact cx_vret C hA hQ hr hlk dX9_shares_177 rfl
      · have hf := cx_if_f hf c20
        clear c20
        refine cx_aload_n C dX9_shares_71 0 rfl ?_
        refine cx_iload_n C dX9_shares_72 3 rfl ?_
        obtain ⟨u21, e22, hf⟩ := cx_bd_at hf
        refine cx_Fvi (q := (RX9, TX9, 24)) (As := [.int x3_19]) (rest := []) (w1 := (wd_Model k m_a u21.2.1 u21.2.2.1 m_book m_images m_kept m_before m_refused m_quiet m_text m_typed m_at m_start m_token m_value m_items m_many u21.2.2.2 m_likes m_without m_onePicture m_oneYear m_first m_second m_names)) hA C me_X9_weighs hw_1296 (c_X9_weighs l D k m_a a_15 a_16 m_book m_images m_kept m_before m_refused m_quiet m_text m_typed m_at m_start m_token m_value m_items m_many a_17 m_likes m_without m_onePicture m_oneYear m_first m_second m_names x3_19 u21 e22) dX9_shares_73 ⟨Nat.le_of_ble_eq_true rfl, Nat.le_of_ble_eq_true rfl⟩ ⟨Nat.zero_le _, Nat.zero_le _⟩ rfl rfl (Nat.le_of_ble_eq_true rfl) rfl rfl rfl ?_
        clear e22
        refine cx_if_eq (tgt := 171) C dX9_shares_76 (by decide) (fun c23 => ?_) (fun c23 => ?_)
        · have hf := cx_if_t hf c23
          clear c23
          exact J171 u21.2.1 u21.2.2.1 u21.2.2.2 hf
        · have hf := cx_if_f hf c23
          clear c23
          refine cx_aload_n C dX9_shares_79 0 rfl ?_
          refine cx_bipush (v := 6) C dX9_shares_80 (by decide) ?_
          refine cx_iconst (v := 5) C dX9_shares_82 (by decide) ?_
          obtain ⟨u27, e28, hf⟩ := cx_bd_at hf
          refine cx_Fvv (q := (RX9, TX9, 24)) (As := [.int 6, .int 5]) (rest := []) (w1 := (wd_Model k m_a u27.1 u27.2 m_book m_images m_kept m_before m_refused m_quiet m_text m_typed m_at m_start m_token m_value m_items m_many u21.2.2.2 m_likes m_without m_onePicture m_oneYear m_first m_second m_names)) hA C me_X9_adds hw_1332 (c_X9_adds l D k m_a u21.2.1 u21.2.2.1 m_book m_images m_kept m_before m_refused m_quiet m_text m_typed m_at m_start m_token m_value m_items m_many u21.2.2.2 m_likes m_without m_onePicture m_oneYear m_first m_second m_names 6 5 u27 e28) dX9_shares_83 ⟨Nat.le_of_ble_eq_true rfl, Nat.le_of_ble_eq_true rfl⟩ ⟨Nat.zero_le _, Nat.zero_le _⟩ rfl rfl (Nat.le_of_ble_eq_true rfl) rfl rfl rfl ?_
          clear e28
          refine cx_iconst (v := 0) C dX9_shares_86 (by decide) ?_
          refine cx_istore (lv' := [(4, .int 0), (0, .ref (m_a 0)), (1, .int p1), (2, .int x2_18), (3, .int x3_19)]) C dX9_shares_87 (by decide) rfl ?_
          refine cx_lv [1, 2, 3, 4, 0] rfl ?_
          exact L89 u21.2.2.2 cx_N0 u27.1 u27.2 0 hf
  have J59 : ∀ (a_11 : Nat → Int32) (a_12 : Nat → Int32), f_X9_shares_J59 m_book m_is m_likes m_without m_onePicture m_oneYear m_first m_second p1 a_11 a_12 = some y → cx_S p l e (cx_rm 6) s m args below meth c A D 5 0 0 Q 59 [(0, .ref (m_a 0)), (1, .int p1)] [] (wd_Model k m_a a_11 a_12 m_book m_images m_kept m_before m_refused m_quiet m_text m_typed m_at m_start m_token m_value m_items m_many m_is m_likes m_without m_onePicture m_oneYear m_first m_second m_names) := by
    intro a_11 a_12 hf
    unfold f_X9_shares_J59 at hf
    refine cx_aload_n C dX9_shares_59 0 rfl ?_
    obtain ⟨u13, e14, hf⟩ := cx_bd_at hf
    refine cx_Fvi (q := (RX9, TX9, 24)) (As := []) (rest := []) (w1 := (wd_Model k m_a a_11 a_12 m_book m_images m_kept m_before m_refused m_quiet m_text m_typed m_at m_start m_token m_value m_items m_many m_is m_likes m_without m_onePicture m_oneYear m_first m_second m_names)) hA C me_X9_ways hw_1292 (c_X9_ways l D k m_a a_11 a_12 m_book m_images m_kept m_before m_refused m_quiet m_text m_typed m_at m_start m_token m_value m_items m_many m_is m_likes m_without m_onePicture m_oneYear m_first m_second m_names u13 e14) dX9_shares_60 ⟨Nat.le_of_ble_eq_true rfl, Nat.le_of_ble_eq_true rfl⟩ ⟨Nat.zero_le _, Nat.zero_le _⟩ rfl rfl (Nat.le_of_ble_eq_true rfl) rfl rfl rfl ?_
    clear e14
    refine cx_istore_n (lv' := [(2, .int u13), (0, .ref (m_a 0)), (1, .int p1)]) C dX9_shares_63 rfl (by decide) rfl ?_
    refine cx_iconst (v := 0) C dX9_shares_64 (by decide) ?_
    refine cx_istore_n (lv' := [(3, .int 0), (2, .int u13), (0, .ref (m_a 0)), (1, .int p1)]) C dX9_shares_65 rfl (by decide) rfl ?_
    refine cx_lv [2, 3, 1, 0] rfl ?_
    exact L66 u13 cx_N0 a_11 a_12 m_is 0 hf
  have L32 : ∀ (n32 : Nat) (a_7 : Nat → Int32) (a_8 : Nat → Int32) (x2_9 : Int32), f_X9_shares_L32w m_book m_is m_likes m_without m_onePicture m_oneYear m_first m_second p1 n32 a_7 a_8 x2_9 = some y → cx_S p l e (cx_rm 6) s m args below meth c A D 5 0 0 Q 32 [(0, .ref (m_a 0)), (1, .int p1), (2, .int x2_9)] [] (wd_Model k m_a a_7 a_8 m_book m_images m_kept m_before m_refused m_quiet m_text m_typed m_at m_start m_token m_value m_items m_many m_is m_likes m_without m_onePicture m_oneYear m_first m_second m_names) := by
    intro  n32
    induction n32 with
    | zero =>
      intro a_7 a_8 x2_9 hf
      exact absurd (show (none : Option ((Nat → Int32) × (Nat → Int32) × (Nat → Int32))) = some y from hf) (fun h => by cases h)
    | succ n32 ih32 =>
      intro a_7 a_8 x2_9 hf
      have hf : f_X9_shares_L32 m_book m_is m_likes m_without m_onePicture m_oneYear m_first m_second p1 (f_X9_shares_L32w m_book m_is m_likes m_without m_onePicture m_oneYear m_first m_second p1 n32) a_7 a_8 x2_9 = some y := hf
      unfold f_X9_shares_L32 at hf
      refine cx_iload_n C dX9_shares_32 2 rfl ?_
      refine cx_sipush (v := 216) C dX9_shares_33 (by decide) ?_
      refine cx_icmp_ge (tgt := 59) C dX9_shares_36 (by decide) (fun c10 => ?_) (fun c10 => ?_)
      · have hf := cx_if_t hf c10
        clear c10
        refine cx_lv [0, 1] rfl ?_
        exact J59 a_7 a_8 hf
      · have hf := cx_if_f hf c10
        clear c10
        refine cx_iload_n C dX9_shares_39 1 rfl ?_
        refine cx_iconst (v := (-1)) C dX9_shares_40 (by decide) ?_
        refine cx_icmp_eq (tgt := 59) C dX9_shares_41 (by decide) (fun c51 => ?_) (fun c51 => ?_)
        · have hf := cx_if_t hf c51
          clear c51
          refine cx_lv [0, 1] rfl ?_
          exact J59 a_7 a_8 hf
        · have hf := cx_if_f hf c51
          clear c51
          refine cx_aload_n C dX9_shares_44 0 rfl ?_
          refine cx_bipush (v := 48) C dX9_shares_45 (by decide) ?_
          refine cx_iload_n C dX9_shares_47 2 rfl ?_
          refine cx_iadd C dX9_shares_48 ?_
          refine cx_lconst (v := 0) C dX9_shares_49 (by decide) ?_
          obtain ⟨u52, e53, hf⟩ := cx_bd_at hf
          refine cx_Fvv (q := (RX9, TX9, 24)) (As := [.int (48 + x2_9), .long 0]) (rest := []) (w1 := (wd_Model k m_a u52.1 u52.2 m_book m_images m_kept m_before m_refused m_quiet m_text m_typed m_at m_start m_token m_value m_items m_many m_is m_likes m_without m_onePicture m_oneYear m_first m_second m_names)) hA C me_X9_sets hw_1045 (c_X9_sets l D k m_a a_7 a_8 m_book m_images m_kept m_before m_refused m_quiet m_text m_typed m_at m_start m_token m_value m_items m_many m_is m_likes m_without m_onePicture m_oneYear m_first m_second m_names (48 + x2_9) 0 u52 e53) dX9_shares_50 ⟨Nat.le_of_ble_eq_true rfl, Nat.le_of_ble_eq_true rfl⟩ ⟨Nat.zero_le _, Nat.zero_le _⟩ rfl rfl (Nat.le_of_ble_eq_true rfl) rfl rfl rfl ?_
          clear e53
          refine cx_iinc (v := x2_9 + 1) (lv' := [(2, .int (x2_9 + 1)), (0, .ref (m_a 0)), (1, .int p1)]) C dX9_shares_53 2 rfl rfl (by decide) rfl ?_
          refine cx_goto (tgt := 32) C dX9_shares_56 (by decide) ?_
          refine cx_lv [1, 2, 0] rfl ?_
          exact ih32 u52.1 u52.2 (x2_9 + 1) hf
  have L9 : ∀ (n9 : Nat) (a_3 : Nat → Int32) (a_4 : Nat → Int32) (x2_5 : Int32), f_X9_shares_L9w m_book m_is m_likes m_without m_onePicture m_oneYear m_first m_second p1 n9 a_3 a_4 x2_5 = some y → cx_S p l e (cx_rm 6) s m args below meth c A D 5 0 0 Q 9 [(0, .ref (m_a 0)), (1, .int p1), (2, .int x2_5)] [] (wd_Model k m_a a_3 a_4 m_book m_images m_kept m_before m_refused m_quiet m_text m_typed m_at m_start m_token m_value m_items m_many m_is m_likes m_without m_onePicture m_oneYear m_first m_second m_names) := by
    intro  n9
    induction n9 with
    | zero =>
      intro a_3 a_4 x2_5 hf
      exact absurd (show (none : Option ((Nat → Int32) × (Nat → Int32) × (Nat → Int32))) = some y from hf) (fun h => by cases h)
    | succ n9 ih9 =>
      intro a_3 a_4 x2_5 hf
      have hf : f_X9_shares_L9 m_book m_is m_likes m_without m_onePicture m_oneYear m_first m_second p1 (f_X9_shares_L9w m_book m_is m_likes m_without m_onePicture m_oneYear m_first m_second p1 n9) a_3 a_4 x2_5 = some y := hf
      unfold f_X9_shares_L9 at hf
      refine cx_iload_n C dX9_shares_9 2 rfl ?_
      refine cx_bipush (v := 36) C dX9_shares_10 (by decide) ?_
      refine cx_icmp_ge (tgt := 30) C dX9_shares_12 (by decide) (fun c6 => ?_) (fun c6 => ?_)
      · have hf := cx_if_t hf c6
        clear c6
        refine cx_iconst (v := 0) C dX9_shares_30 (by decide) ?_
        refine cx_istore_n (lv' := [(2, .int 0), (0, .ref (m_a 0)), (1, .int p1)]) C dX9_shares_31 rfl (by decide) rfl ?_
        refine cx_lv [1, 2, 0] rfl ?_
        exact L32 cx_N0 a_3 a_4 0 hf
      · have hf := cx_if_f hf c6
        clear c6
        refine cx_aload_n C dX9_shares_15 0 rfl ?_
        refine cx_bipush (v := 12) C dX9_shares_16 (by decide) ?_
        refine cx_iload_n C dX9_shares_18 2 rfl ?_
        refine cx_iadd C dX9_shares_19 ?_
        refine cx_lconst (v := 0) C dX9_shares_20 (by decide) ?_
        obtain ⟨u54, e55, hf⟩ := cx_bd_at hf
        refine cx_Fvv (q := (RX9, TX9, 24)) (As := [.int (12 + x2_5), .long 0]) (rest := []) (w1 := (wd_Model k m_a u54.1 u54.2 m_book m_images m_kept m_before m_refused m_quiet m_text m_typed m_at m_start m_token m_value m_items m_many m_is m_likes m_without m_onePicture m_oneYear m_first m_second m_names)) hA C me_X9_sets hw_1045 (c_X9_sets l D k m_a a_3 a_4 m_book m_images m_kept m_before m_refused m_quiet m_text m_typed m_at m_start m_token m_value m_items m_many m_is m_likes m_without m_onePicture m_oneYear m_first m_second m_names (12 + x2_5) 0 u54 e55) dX9_shares_21 ⟨Nat.le_of_ble_eq_true rfl, Nat.le_of_ble_eq_true rfl⟩ ⟨Nat.zero_le _, Nat.zero_le _⟩ rfl rfl (Nat.le_of_ble_eq_true rfl) rfl rfl rfl ?_
        clear e55
        refine cx_iinc (v := x2_5 + 1) (lv' := [(2, .int (x2_5 + 1)), (0, .ref (m_a 0)), (1, .int p1)]) C dX9_shares_24 2 rfl rfl (by decide) rfl ?_
        refine cx_goto (tgt := 9) C dX9_shares_27 (by decide) ?_
        refine cx_lv [1, 2, 0] rfl ?_
        exact ih9 u54.1 u54.2 (x2_5 + 1) hf
  unfold f_X9_shares at hf
  refine cx_aload_n C dX9_shares_0 0 rfl ?_
  refine cx_bipush (v := 6) C dX9_shares_1 (by decide) ?_
  refine cx_lconst (v := 0) C dX9_shares_3 (by decide) ?_
  obtain ⟨u1, e2, hf⟩ := cx_bd_at hf
  refine cx_Fvv (q := (RX9, TX9, 24)) (As := [.int 6, .long 0]) (rest := []) (w1 := (wd_Model k m_a u1.1 u1.2 m_book m_images m_kept m_before m_refused m_quiet m_text m_typed m_at m_start m_token m_value m_items m_many m_is m_likes m_without m_onePicture m_oneYear m_first m_second m_names)) hA C me_X9_sets hw_1045 (c_X9_sets l D k m_a m_limbs m_wide m_book m_images m_kept m_before m_refused m_quiet m_text m_typed m_at m_start m_token m_value m_items m_many m_is m_likes m_without m_onePicture m_oneYear m_first m_second m_names 6 0 u1 e2) dX9_shares_4 ⟨Nat.le_of_ble_eq_true rfl, Nat.le_of_ble_eq_true rfl⟩ ⟨Nat.zero_le _, Nat.zero_le _⟩ rfl rfl (Nat.le_of_ble_eq_true rfl) rfl rfl rfl ?_
  clear e2
  refine cx_iconst (v := 0) C dX9_shares_7 (by decide) ?_
  refine cx_istore_n (lv' := [(2, .int 0), (0, .ref (m_a 0)), (1, .int p1)]) C dX9_shares_8 rfl (by decide) rfl ?_
  refine cx_lv [1, 2, 0] rfl ?_
  exact L9 cx_N0 u1.1 u1.2 0 hf
theorem dX9_namedNow_0 : decode cX9_namedNow 0 = .ok (.iconst 0, 1) := by decide +kernel
theorem dX9_namedNow_1 : decode cX9_namedNow 1 = .ok (.istore_n 2, 1) := by decide +kernel
theorem dX9_namedNow_2 : decode cX9_namedNow 2 = .ok (.iconst 1, 1) := by decide +kernel
theorem dX9_namedNow_3 : decode cX9_namedNow 3 = .ok (.istore_n 3, 1) := by decide +kernel
theorem dX9_namedNow_4 : decode cX9_namedNow 4 = .ok (.iload_n 3, 1) := by decide +kernel
theorem dX9_namedNow_5 : decode cX9_namedNow 5 = .ok (.iconst 5, 1) := by decide +kernel
theorem dX9_namedNow_6 : decode cX9_namedNow 6 = .ok (.if_icmp .gt 40, 3) := by decide +kernel
theorem dX9_namedNow_9 : decode cX9_namedNow 9 = .ok (.aload_n 0, 1) := by decide +kernel
theorem dX9_namedNow_10 : decode cX9_namedNow 10 = .ok (.bipush 12, 2) := by decide +kernel
theorem dX9_namedNow_12 : decode cX9_namedNow 12 = .ok (.bipush 6, 2) := by decide +kernel
theorem dX9_namedNow_14 : decode cX9_namedNow 14 = .ok (.iload_n 1, 1) := by decide +kernel
theorem dX9_namedNow_15 : decode cX9_namedNow 15 = .ok (.imul, 1) := by decide +kernel
theorem dX9_namedNow_16 : decode cX9_namedNow 16 = .ok (.iadd, 1) := by decide +kernel
theorem dX9_namedNow_17 : decode cX9_namedNow 17 = .ok (.iload_n 3, 1) := by decide +kernel
theorem dX9_namedNow_18 : decode cX9_namedNow 18 = .ok (.iadd, 1) := by decide +kernel
theorem dX9_namedNow_19 : decode cX9_namedNow 19 = .ok (.bipush 12, 2) := by decide +kernel
theorem dX9_namedNow_21 : decode cX9_namedNow 21 = .ok (.bipush 6, 2) := by decide +kernel
theorem dX9_namedNow_23 : decode cX9_namedNow 23 = .ok (.iload_n 1, 1) := by decide +kernel
theorem dX9_namedNow_24 : decode cX9_namedNow 24 = .ok (.imul, 1) := by decide +kernel
theorem dX9_namedNow_25 : decode cX9_namedNow 25 = .ok (.iadd, 1) := by decide +kernel
theorem dX9_namedNow_26 : decode cX9_namedNow 26 = .ok (.iload_n 2, 1) := by decide +kernel
theorem dX9_namedNow_27 : decode cX9_namedNow 27 = .ok (.iadd, 1) := by decide +kernel
theorem dX9_namedNow_28 : decode cX9_namedNow 28 = .ok (.invokevirtual 32, 3) := by decide +kernel
theorem dX9_namedNow_31 : decode cX9_namedNow 31 = .ok (.ifCond .le 7, 3) := by decide +kernel
theorem dX9_namedNow_34 : decode cX9_namedNow 34 = .ok (.iload_n 3, 1) := by decide +kernel
theorem dX9_namedNow_35 : decode cX9_namedNow 35 = .ok (.goto 4, 3) := by decide +kernel
theorem dX9_namedNow_38 : decode cX9_namedNow 38 = .ok (.iload_n 2, 1) := by decide +kernel
theorem dX9_namedNow_39 : decode cX9_namedNow 39 = .ok (.istore_n 2, 1) := by decide +kernel
theorem dX9_namedNow_40 : decode cX9_namedNow 40 = .ok (.iinc 3 1, 3) := by decide +kernel
theorem dX9_namedNow_43 : decode cX9_namedNow 43 = .ok (.goto (-39), 3) := by decide +kernel
theorem dX9_namedNow_46 : decode cX9_namedNow 46 = .ok (.aload_n 0, 1) := by decide +kernel
theorem dX9_namedNow_47 : decode cX9_namedNow 47 = .ok (.getfield 3, 3) := by decide +kernel
theorem dX9_namedNow_50 : decode cX9_namedNow 50 = .ok (.bipush 12, 2) := by decide +kernel
theorem dX9_namedNow_52 : decode cX9_namedNow 52 = .ok (.bipush 6, 2) := by decide +kernel
theorem dX9_namedNow_54 : decode cX9_namedNow 54 = .ok (.iload_n 1, 1) := by decide +kernel
theorem dX9_namedNow_55 : decode cX9_namedNow 55 = .ok (.imul, 1) := by decide +kernel
theorem dX9_namedNow_56 : decode cX9_namedNow 56 = .ok (.iadd, 1) := by decide +kernel
theorem dX9_namedNow_57 : decode cX9_namedNow 57 = .ok (.iload_n 2, 1) := by decide +kernel
theorem dX9_namedNow_58 : decode cX9_namedNow 58 = .ok (.iadd, 1) := by decide +kernel
theorem dX9_namedNow_59 : decode cX9_namedNow 59 = .ok (.iaload, 1) := by decide +kernel
theorem dX9_namedNow_60 : decode cX9_namedNow 60 = .ok (.ifCond .eq 13, 3) := by decide +kernel
theorem dX9_namedNow_63 : decode cX9_namedNow 63 = .ok (.iload_n 2, 1) := by decide +kernel
theorem dX9_namedNow_64 : decode cX9_namedNow 64 = .ok (.aload_n 0, 1) := by decide +kernel
theorem dX9_namedNow_65 : decode cX9_namedNow 65 = .ok (.getfield 51, 3) := by decide +kernel
theorem dX9_namedNow_68 : decode cX9_namedNow 68 = .ok (.iconst 0, 1) := by decide +kernel
theorem dX9_namedNow_69 : decode cX9_namedNow 69 = .ok (.iaload, 1) := by decide +kernel
theorem dX9_namedNow_70 : decode cX9_namedNow 70 = .ok (.if_icmp .ge 7, 3) := by decide +kernel
theorem dX9_namedNow_73 : decode cX9_namedNow 73 = .ok (.iload_n 2, 1) := by decide +kernel
theorem dX9_namedNow_74 : decode cX9_namedNow 74 = .ok (.goto 4, 3) := by decide +kernel
theorem dX9_namedNow_77 : decode cX9_namedNow 77 = .ok (.iconst 5, 1) := by decide +kernel
theorem dX9_namedNow_78 : decode cX9_namedNow 78 = .ok (.ireturn, 1) := by decide +kernel
theorem me_X9_namedNow : cx_Mv yX9_namedNow cX9_namedNow 4 (some .int) 1 := ⟨⟨⟨by decide +kernel, by decide +kernel, by decide +kernel⟩, hw_11, hw_1376⟩, hw_1375, hs_75⟩
noncomputable def f_X9_namedNow_J73 (x2_6 : Int32) : Option Int32 := some x2_6
noncomputable def f_X9_namedNow_J39 (x3_2 : Int32) (rc4 : Int32 → Int32 → Option Int32) (s0_12 : Int32) : Option Int32 := rc4 s0_12 (x3_2 + 1)
noncomputable def f_X9_namedNow_L4 (m_limbs : Nat → Int32) (m_wide : Nat → Int32) (m_book : Nat → Int32) (p1 : Int32) (rc4 : Int32 → Int32 → Option Int32) (x2_1 : Int32) (x3_2 : Int32) : Option Int32 := if 5 < x3_2 then (cx_gd (cx_ib ((12 + (6 * p1)) + x2_1) 270) (if (m_wide (cx_ix ((12 + (6 * p1)) + x2_1))) = 0 then (f_X9_namedNow_J73 x2_1) else (cx_gd (cx_ib 0 140) (if (m_book (cx_ix 0)) ≤ x2_1 then (some 5) else (f_X9_namedNow_J73 x2_1))))) else (Option.bind (f_X9_against m_limbs m_wide ((12 + (6 * p1)) + x3_2) ((12 + (6 * p1)) + x2_1)) (fun u9 => if u9 ≤ 0 then (f_X9_namedNow_J39 x3_2 rc4 x2_1) else (f_X9_namedNow_J39 x3_2 rc4 x3_2)))
noncomputable def f_X9_namedNow_L4w (m_limbs : Nat → Int32) (m_wide : Nat → Int32) (m_book : Nat → Int32) (p1 : Int32) (n : Nat) : Int32 → Int32 → Option Int32 := Nat.rec (fun _ _ => none) (fun _ r => f_X9_namedNow_L4 m_limbs m_wide m_book p1 r) n
noncomputable def f_X9_namedNow (m_limbs : Nat → Int32) (m_wide : Nat → Int32) (m_book : Nat → Int32) (p1 : Int32) : Option Int32 := f_X9_namedNow_L4w m_limbs m_wide m_book p1 cx_N0 0 1
set_option maxHeartbeats 4000000 in
set_option maxRecDepth 100000 in
theorem c_X9_namedNow (l : Launch) (D : va_G) (k : Nat → ClassId) (m_a : Nat → Nat) (m_limbs : Nat → Int32) (m_wide : Nat → Int32) (m_book : Nat → Int32) (m_images : Nat → Int32) (m_kept : Nat → Int32) (m_before : Nat → Int32) (m_refused : Nat → Int32) (m_quiet : Int32) (m_text : Nat → Int32) (m_typed : Int32) (m_at : Int32) (m_start : Int32) (m_token : Int32) (m_value : Int32) (m_items : Nat → Int32) (m_many : Int32) (m_is : Nat → Int32) (m_likes : Nat → Int32) (m_without : Int32) (m_onePicture : Int32) (m_oneYear : Int32) (m_first : Int32) (m_second : Int32) (m_names : Nat → Int32) (p1 : Int32) (y : Int32) (hf : f_X9_namedNow m_limbs m_wide m_book p1 = some y) : cx_M l yX9_namedNow cX9_namedNow 4 (some .int) 2 D k [.ref (m_a 0), .int p1] (wd_Model k m_a m_limbs m_wide m_book m_images m_kept m_before m_refused m_quiet m_text m_typed m_at m_start m_token m_value m_items m_many m_is m_likes m_without m_onePicture m_oneYear m_first m_second m_names) (fun sz => cx_Qi D y (wd_Model k m_a m_limbs m_wide m_book m_images m_kept m_before m_refused m_quiet m_text m_typed m_at m_start m_token m_value m_items m_many m_is m_likes m_without m_onePicture m_oneYear m_first m_second m_names) (wd_Model k m_a m_limbs m_wide m_book m_images m_kept m_before m_refused m_quiet m_text m_typed m_at m_start m_token m_value m_items m_many m_is m_likes m_without m_onePicture m_oneYear m_first m_second m_names) sz) := by
  refine cx_met (own := "NamelessBoxModel") (by decide) rfl (Nat.le_of_ble_eq_true rfl) ?_
  intro p e s m args below meth c A Q C hA hQ hr hlk
  refine cx_lv (lv' := [(0, .ref (m_a 0)), (1, .int p1)]) [0, 1] rfl ?_
  have J73 : ∀ (x2_6 : Int32), f_X9_namedNow_J73 x2_6 = some y → cx_S p l e (cx_rm 2) s m args below meth c A D 4 0 0 Q 73 [(2, .int x2_6)] [] (wd_Model k m_a m_limbs m_wide m_book m_images m_kept m_before m_refused m_quiet m_text m_typed m_at m_start m_token m_value m_items m_many m_is m_likes m_without m_onePicture m_oneYear m_first m_second m_names) := by
    intro x2_6 hf
    unfold f_X9_namedNow_J73 at hf
    refine cx_iload_n C dX9_namedNow_73 0 rfl ?_
    refine cx_goto (tgt := 78) C dX9_namedNow_74 (by decide) ?_
    obtain rfl := Option.some.inj hf
    exact cx_iret C hA hQ hr hlk dX9_namedNow_78 rfl rfl
  have L4 : ∀ (n4 : Nat) (x2_1 : Int32) (x3_2 : Int32), f_X9_namedNow_L4w m_limbs m_wide m_book p1 n4 x2_1 x3_2 = some y → cx_S p l e (cx_rm 2) s m args below meth c A D 4 0 0 Q 4 [(0, .ref (m_a 0)), (1, .int p1), (2, .int x2_1), (3, .int x3_2)] [] (wd_Model k m_a m_limbs m_wide m_book m_images m_kept m_before m_refused m_quiet m_text m_typed m_at m_start m_token m_value m_items m_many m_is m_likes m_without m_onePicture m_oneYear m_first m_second m_names) := by
    intro  n4
    induction n4 with
    | zero =>
      intro x2_1 x3_2 hf
      exact absurd (show (none : Option Int32) = some y from hf) (fun h => by cases h)
    | succ n4 ih4 =>
      intro x2_1 x3_2 hf
      have hf : f_X9_namedNow_L4 m_limbs m_wide m_book p1 (f_X9_namedNow_L4w m_limbs m_wide m_book p1 n4) x2_1 x3_2 = some y := hf
      have J39 : ∀ (s0_12 : Int32), f_X9_namedNow_J39 x3_2 (f_X9_namedNow_L4w m_limbs m_wide m_book p1 n4) s0_12 = some y → cx_S p l e (cx_rm 2) s m args below meth c A D 4 0 0 Q 39 [(0, .ref (m_a 0)), (1, .int p1), (3, .int x3_2)] [.int s0_12] (wd_Model k m_a m_limbs m_wide m_book m_images m_kept m_before m_refused m_quiet m_text m_typed m_at m_start m_token m_value m_items m_many m_is m_likes m_without m_onePicture m_oneYear m_first m_second m_names) := by
        intro s0_12 hf
        unfold f_X9_namedNow_J39 at hf
        refine cx_istore_n (lv' := [(2, .int s0_12), (0, .ref (m_a 0)), (1, .int p1), (3, .int x3_2)]) C dX9_namedNow_39 rfl (by decide) rfl ?_
        refine cx_iinc (v := x3_2 + 1) (lv' := [(3, .int (x3_2 + 1)), (2, .int s0_12), (0, .ref (m_a 0)), (1, .int p1)]) C dX9_namedNow_40 3 rfl rfl (by decide) rfl ?_
        refine cx_goto (tgt := 4) C dX9_namedNow_43 (by decide) ?_
        refine cx_lv [2, 3, 1, 0] rfl ?_
        exact ih4 s0_12 (x3_2 + 1) hf
      unfold f_X9_namedNow_L4 at hf
      refine cx_iload_n C dX9_namedNow_4 3 rfl ?_
      refine cx_iconst (v := 5) C dX9_namedNow_5 (by decide) ?_
      refine cx_icmp_gt (tgt := 46) C dX9_namedNow_6 (by decide) (fun c3 => ?_) (fun c3 => ?_)
      · have hf := cx_if_t hf c3
        clear c3
        refine cx_aload_n C dX9_namedNow_46 0 rfl ?_
        refine cx_get (v := .ref (m_a 2)) (ci := 8) C iX9 dX9_namedNow_47 0 rfl rfl 1 (by decide) hw_1055 rfl ?_
        refine cx_bipush (v := 12) C dX9_namedNow_50 (by decide) ?_
        refine cx_bipush (v := 6) C dX9_namedNow_52 (by decide) ?_
        refine cx_iload_n C dX9_namedNow_54 1 rfl ?_
        refine cx_imul C dX9_namedNow_55 ?_
        refine cx_iadd C dX9_namedNow_56 ?_
        refine cx_iload_n C dX9_namedNow_57 2 rfl ?_
        refine cx_iadd C dX9_namedNow_58 ?_
        obtain ⟨g4, hf⟩ := cx_gd_at hf
        refine cx_iald C dX9_namedNow_59 2 rfl (cx_ib_in g4) ?_
        clear g4
        refine cx_if_eq (tgt := 73) C dX9_namedNow_60 (by decide) (fun c5 => ?_) (fun c5 => ?_)
        · have hf := cx_if_t hf c5
          clear c5
          refine cx_lv [2] rfl ?_
          exact J73 x2_1 hf
        · have hf := cx_if_f hf c5
          clear c5
          refine cx_iload_n C dX9_namedNow_63 2 rfl ?_
          refine cx_aload_n C dX9_namedNow_64 0 rfl ?_
          refine cx_get (v := .ref (m_a 3)) (ci := 8) C iX9 dX9_namedNow_65 0 rfl rfl 2 (by decide) hw_1056 rfl ?_
          refine cx_iconst (v := 0) C dX9_namedNow_68 (by decide) ?_
          obtain ⟨g7, hf⟩ := cx_gd_at hf
          refine cx_iald C dX9_namedNow_69 3 rfl (cx_ib_in g7) ?_
          clear g7
          refine cx_icmp_ge (tgt := 77) C dX9_namedNow_70 (by decide) (fun c8 => ?_) (fun c8 => ?_)
          · have hf := cx_if_t hf c8
            clear c8
            refine cx_iconst (v := 5) C dX9_namedNow_77 (by decide) ?_
            obtain rfl := Option.some.inj hf
            exact cx_iret C hA hQ hr hlk dX9_namedNow_78 rfl rfl
          · have hf := cx_if_f hf c8
            clear c8
            refine cx_lv [2] rfl ?_
            exact J73 x2_1 hf
      · have hf := cx_if_f hf c3
        clear c3
        refine cx_aload_n C dX9_namedNow_9 0 rfl ?_
        refine cx_bipush (v := 12) C dX9_namedNow_10 (by decide) ?_
        refine cx_bipush (v := 6) C dX9_namedNow_12 (by decide) ?_
        refine cx_iload_n C dX9_namedNow_14 1 rfl ?_
        refine cx_imul C dX9_namedNow_15 ?_
        refine cx_iadd C dX9_namedNow_16 ?_
        refine cx_iload_n C dX9_namedNow_17 3 rfl ?_
        refine cx_iadd C dX9_namedNow_18 ?_
        refine cx_bipush (v := 12) C dX9_namedNow_19 (by decide) ?_
        refine cx_bipush (v := 6) C dX9_namedNow_21 (by decide) ?_
        refine cx_iload_n C dX9_namedNow_23 1 rfl ?_
        refine cx_imul C dX9_namedNow_24 ?_
        refine cx_iadd C dX9_namedNow_25 ?_
        refine cx_iload_n C dX9_namedNow_26 2 rfl ?_
        refine cx_iadd C dX9_namedNow_27 ?_
        obtain ⟨u9, e10, hf⟩ := cx_bd_at hf
        refine cx_Fvi (q := (RX9, TX9, 24)) (As := [.int ((12 + (6 * p1)) + x3_2), .int ((12 + (6 * p1)) + x2_1)]) (rest := []) (w1 := (wd_Model k m_a m_limbs m_wide m_book m_images m_kept m_before m_refused m_quiet m_text m_typed m_at m_start m_token m_value m_items m_many m_is m_likes m_without m_onePicture m_oneYear m_first m_second m_names)) hA C me_X9_against hw_1357 (c_X9_against l D k m_a m_limbs m_wide m_book m_images m_kept m_before m_refused m_quiet m_text m_typed m_at m_start m_token m_value m_items m_many m_is m_likes m_without m_onePicture m_oneYear m_first m_second m_names ((12 + (6 * p1)) + x3_2) ((12 + (6 * p1)) + x2_1) u9 e10) dX9_namedNow_28 ⟨Nat.le_of_ble_eq_true rfl, Nat.le_of_ble_eq_true rfl⟩ ⟨Nat.zero_le _, Nat.zero_le _⟩ rfl rfl (Nat.le_of_ble_eq_true rfl) rfl rfl rfl ?_
        clear e10
        refine cx_if_le (tgt := 38) C dX9_namedNow_31 (by decide) (fun c11 => ?_) (fun c11 => ?_)
        · have hf := cx_if_t hf c11
          clear c11
          refine cx_iload_n C dX9_namedNow_38 2 rfl ?_
          refine cx_lv [0, 1, 3] rfl ?_
          exact J39 x2_1 hf
        · have hf := cx_if_f hf c11
          clear c11
          refine cx_iload_n C dX9_namedNow_34 3 rfl ?_
          refine cx_goto (tgt := 39) C dX9_namedNow_35 (by decide) ?_
          refine cx_lv [0, 1, 3] rfl ?_
          exact J39 x3_2 hf
  unfold f_X9_namedNow at hf
  refine cx_iconst (v := 0) C dX9_namedNow_0 (by decide) ?_
  refine cx_istore_n (lv' := [(2, .int 0), (0, .ref (m_a 0)), (1, .int p1)]) C dX9_namedNow_1 rfl (by decide) rfl ?_
  refine cx_iconst (v := 1) C dX9_namedNow_2 (by decide) ?_
  refine cx_istore_n (lv' := [(3, .int 1), (2, .int 0), (0, .ref (m_a 0)), (1, .int p1)]) C dX9_namedNow_3 rfl (by decide) rfl ?_
  refine cx_lv [2, 3, 1, 0] rfl ?_
  exact L4 cx_N0 0 1 hf
