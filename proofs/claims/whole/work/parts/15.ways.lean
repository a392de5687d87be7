theorem dX7_yearsInOrder_0 : decode cX7_yearsInOrder 0 = .ok (.lconst 0, 1) := by decide +kernel
theorem dX7_yearsInOrder_1 : decode cX7_yearsInOrder 1 = .ok (.lstore_n 1, 1) := by decide +kernel
theorem dX7_yearsInOrder_2 : decode cX7_yearsInOrder 2 = .ok (.lconst 0, 1) := by decide +kernel
theorem dX7_yearsInOrder_3 : decode cX7_yearsInOrder 3 = .ok (.lstore_n 3, 1) := by decide +kernel
theorem dX7_yearsInOrder_4 : decode cX7_yearsInOrder 4 = .ok (.iconst 0, 1) := by decide +kernel
theorem dX7_yearsInOrder_5 : decode cX7_yearsInOrder 5 = .ok (.istore 5, 2) := by decide +kernel
theorem dX7_yearsInOrder_7 : decode cX7_yearsInOrder 7 = .ok (.iconst 0, 1) := by decide +kernel
theorem dX7_yearsInOrder_8 : decode cX7_yearsInOrder 8 = .ok (.istore 6, 2) := by decide +kernel
theorem dX7_yearsInOrder_10 : decode cX7_yearsInOrder 10 = .ok (.iload 6, 2) := by decide +kernel
theorem dX7_yearsInOrder_12 : decode cX7_yearsInOrder 12 = .ok (.aload_n 0, 1) := by decide +kernel
theorem dX7_yearsInOrder_13 : decode cX7_yearsInOrder 13 = .ok (.getfield 32, 3) := by decide +kernel
theorem dX7_yearsInOrder_16 : decode cX7_yearsInOrder 16 = .ok (.aload_n 0, 1) := by decide +kernel
theorem dX7_yearsInOrder_17 : decode cX7_yearsInOrder 17 = .ok (.getfield 21, 3) := by decide +kernel
theorem dX7_yearsInOrder_20 : decode cX7_yearsInOrder 20 = .ok (.iaload, 1) := by decide +kernel
theorem dX7_yearsInOrder_21 : decode cX7_yearsInOrder 21 = .ok (.if_icmp .ge 108, 3) := by decide +kernel
theorem dX7_yearsInOrder_24 : decode cX7_yearsInOrder 24 = .ok (.aload_n 0, 1) := by decide +kernel
theorem dX7_yearsInOrder_25 : decode cX7_yearsInOrder 25 = .ok (.getfield 28, 3) := by decide +kernel
theorem dX7_yearsInOrder_28 : decode cX7_yearsInOrder 28 = .ok (.aload_n 0, 1) := by decide +kernel
theorem dX7_yearsInOrder_29 : decode cX7_yearsInOrder 29 = .ok (.getfield 21, 3) := by decide +kernel
theorem dX7_yearsInOrder_32 : decode cX7_yearsInOrder 32 = .ok (.iaload, 1) := by decide +kernel
theorem dX7_yearsInOrder_33 : decode cX7_yearsInOrder 33 = .ok (.iload 6, 2) := by decide +kernel
theorem dX7_yearsInOrder_35 : decode cX7_yearsInOrder 35 = .ok (.iadd, 1) := by decide +kernel
theorem dX7_yearsInOrder_36 : decode cX7_yearsInOrder 36 = .ok (.istore 7, 2) := by decide +kernel
theorem dX7_yearsInOrder_38 : decode cX7_yearsInOrder 38 = .ok (.iload 5, 2) := by decide +kernel
theorem dX7_yearsInOrder_40 : decode cX7_yearsInOrder 40 = .ok (.aload_n 0, 1) := by decide +kernel
theorem dX7_yearsInOrder_41 : decode cX7_yearsInOrder 41 = .ok (.getfield 32, 3) := by decide +kernel
theorem dX7_yearsInOrder_44 : decode cX7_yearsInOrder 44 = .ok (.aload_n 0, 1) := by decide +kernel
theorem dX7_yearsInOrder_45 : decode cX7_yearsInOrder 45 = .ok (.getfield 18, 3) := by decide +kernel
theorem dX7_yearsInOrder_48 : decode cX7_yearsInOrder 48 = .ok (.iaload, 1) := by decide +kernel
theorem dX7_yearsInOrder_49 : decode cX7_yearsInOrder 49 = .ok (.if_icmp .ge 49, 3) := by decide +kernel
theorem dX7_yearsInOrder_52 : decode cX7_yearsInOrder 52 = .ok (.aload_n 0, 1) := by decide +kernel
theorem dX7_yearsInOrder_53 : decode cX7_yearsInOrder 53 = .ok (.getfield 28, 3) := by decide +kernel
theorem dX7_yearsInOrder_56 : decode cX7_yearsInOrder 56 = .ok (.aload_n 0, 1) := by decide +kernel
theorem dX7_yearsInOrder_57 : decode cX7_yearsInOrder 57 = .ok (.getfield 18, 3) := by decide +kernel
theorem dX7_yearsInOrder_60 : decode cX7_yearsInOrder 60 = .ok (.iaload, 1) := by decide +kernel
theorem dX7_yearsInOrder_61 : decode cX7_yearsInOrder 61 = .ok (.iload 5, 2) := by decide +kernel
theorem dX7_yearsInOrder_63 : decode cX7_yearsInOrder 63 = .ok (.iadd, 1) := by decide +kernel
theorem dX7_yearsInOrder_64 : decode cX7_yearsInOrder 64 = .ok (.iload 7, 2) := by decide +kernel
theorem dX7_yearsInOrder_66 : decode cX7_yearsInOrder 66 = .ok (.if_icmp .ge 32, 3) := by decide +kernel
theorem dX7_yearsInOrder_69 : decode cX7_yearsInOrder 69 = .ok (.lload_n 3, 1) := by decide +kernel
theorem dX7_yearsInOrder_70 : decode cX7_yearsInOrder 70 = .ok (.aload_n 0, 1) := by decide +kernel
theorem dX7_yearsInOrder_71 : decode cX7_yearsInOrder 71 = .ok (.getfield 53, 3) := by decide +kernel
theorem dX7_yearsInOrder_74 : decode cX7_yearsInOrder 74 = .ok (.aload_n 0, 1) := by decide +kernel
theorem dX7_yearsInOrder_75 : decode cX7_yearsInOrder 75 = .ok (.getfield 41, 3) := by decide +kernel
theorem dX7_yearsInOrder_78 : decode cX7_yearsInOrder 78 = .ok (.aload_n 0, 1) := by decide +kernel
theorem dX7_yearsInOrder_79 : decode cX7_yearsInOrder 79 = .ok (.getfield 18, 3) := by decide +kernel
theorem dX7_yearsInOrder_82 : decode cX7_yearsInOrder 82 = .ok (.iaload, 1) := by decide +kernel
theorem dX7_yearsInOrder_83 : decode cX7_yearsInOrder 83 = .ok (.bipush 12, 2) := by decide +kernel
theorem dX7_yearsInOrder_85 : decode cX7_yearsInOrder 85 = .ok (.imul, 1) := by decide +kernel
theorem dX7_yearsInOrder_86 : decode cX7_yearsInOrder 86 = .ok (.iload 5, 2) := by decide +kernel
theorem dX7_yearsInOrder_88 : decode cX7_yearsInOrder 88 = .ok (.iadd, 1) := by decide +kernel
theorem dX7_yearsInOrder_89 : decode cX7_yearsInOrder 89 = .ok (.laload, 1) := by decide +kernel
theorem dX7_yearsInOrder_90 : decode cX7_yearsInOrder 90 = .ok (.ladd, 1) := by decide +kernel
theorem dX7_yearsInOrder_91 : decode cX7_yearsInOrder 91 = .ok (.lstore_n 3, 1) := by decide +kernel
theorem dX7_yearsInOrder_92 : decode cX7_yearsInOrder 92 = .ok (.iinc 5 1, 3) := by decide +kernel
theorem dX7_yearsInOrder_95 : decode cX7_yearsInOrder 95 = .ok (.goto (-57), 3) := by decide +kernel
theorem dX7_yearsInOrder_98 : decode cX7_yearsInOrder 98 = .ok (.lload_n 1, 1) := by decide +kernel
theorem dX7_yearsInOrder_99 : decode cX7_yearsInOrder 99 = .ok (.lload_n 3, 1) := by decide +kernel
theorem dX7_yearsInOrder_100 : decode cX7_yearsInOrder 100 = .ok (.aload_n 0, 1) := by decide +kernel
theorem dX7_yearsInOrder_101 : decode cX7_yearsInOrder 101 = .ok (.getfield 53, 3) := by decide +kernel
theorem dX7_yearsInOrder_104 : decode cX7_yearsInOrder 104 = .ok (.aload_n 0, 1) := by decide +kernel
theorem dX7_yearsInOrder_105 : decode cX7_yearsInOrder 105 = .ok (.getfield 41, 3) := by decide +kernel
theorem dX7_yearsInOrder_108 : decode cX7_yearsInOrder 108 = .ok (.aload_n 0, 1) := by decide +kernel
theorem dX7_yearsInOrder_109 : decode cX7_yearsInOrder 109 = .ok (.getfield 21, 3) := by decide +kernel
theorem dX7_yearsInOrder_112 : decode cX7_yearsInOrder 112 = .ok (.iaload, 1) := by decide +kernel
theorem dX7_yearsInOrder_113 : decode cX7_yearsInOrder 113 = .ok (.bipush 12, 2) := by decide +kernel
theorem dX7_yearsInOrder_115 : decode cX7_yearsInOrder 115 = .ok (.imul, 1) := by decide +kernel
theorem dX7_yearsInOrder_116 : decode cX7_yearsInOrder 116 = .ok (.iload 6, 2) := by decide +kernel
theorem dX7_yearsInOrder_118 : decode cX7_yearsInOrder 118 = .ok (.iadd, 1) := by decide +kernel
theorem dX7_yearsInOrder_119 : decode cX7_yearsInOrder 119 = .ok (.laload, 1) := by decide +kernel
theorem dX7_yearsInOrder_120 : decode cX7_yearsInOrder 120 = .ok (.lmul, 1) := by decide +kernel
theorem dX7_yearsInOrder_121 : decode cX7_yearsInOrder 121 = .ok (.ladd, 1) := by decide +kernel
theorem dX7_yearsInOrder_122 : decode cX7_yearsInOrder 122 = .ok (.lstore_n 1, 1) := by decide +kernel
theorem dX7_yearsInOrder_123 : decode cX7_yearsInOrder 123 = .ok (.iinc 6 1, 3) := by decide +kernel
theorem dX7_yearsInOrder_126 : decode cX7_yearsInOrder 126 = .ok (.goto (-116), 3) := by decide +kernel
theorem dX7_yearsInOrder_129 : decode cX7_yearsInOrder 129 = .ok (.lload_n 1, 1) := by decide +kernel
theorem dX7_yearsInOrder_130 : decode cX7_yearsInOrder 130 = .ok (.lreturn, 1) := by decide +kernel
theorem me_X7_yearsInOrder : cx_Mv yX7_yearsInOrder cX7_yearsInOrder 8 (some .long) 0 := ⟨⟨⟨by decide +kernel, by decide +kernel, by decide +kernel⟩, hw_7, hw_684⟩, hw_683, hs_15⟩
noncomputable def f_X7_yearsInOrder_J98 (w_late : Int32) (w_closing : Nat → Int32) (w_products : Nat → Int64) (x1_1 : Int64) (x6_4 : Int32) (rc10 : Int64 → Int64 → Int32 → Int32 → Option Int64) (x3_14 : Int64) (x5_15 : Int32) : Option Int64 := cx_gd (cx_ib w_late 4) (cx_gd (cx_ib (((w_closing (cx_ix w_late)) * 12) + x6_4) 84) (cx_let (x1_1 + (x3_14 * (w_products (cx_ix (((w_closing (cx_ix w_late)) * 12) + x6_4))))) (fun v18 => rc10 v18 x3_14 x5_15 (x6_4 + 1))))
noncomputable def f_X7_yearsInOrder_L38 (w_early : Int32) (w_late : Int32) (w_firstYear : Nat → Int32) (w_years : Nat → Int32) (w_closing : Nat → Int32) (w_products : Nat → Int64) (x1_1 : Int64) (x6_4 : Int32) (rc10 : Int64 → Int64 → Int32 → Int32 → Option Int64) (x7_11 : Int32) (rc38 : Int64 → Int32 → Option Int64) (x3_9 : Int64) (x5_10 : Int32) : Option Int64 := cx_gd (cx_ib w_early 4) (if (w_years (cx_ix w_early)) ≤ x5_10 then (f_X7_yearsInOrder_J98 w_late w_closing w_products x1_1 x6_4 rc10 x3_9 x5_10) else (cx_gd (cx_ib w_early 4) (if x7_11 ≤ ((w_firstYear (cx_ix w_early)) + x5_10) then (f_X7_yearsInOrder_J98 w_late w_closing w_products x1_1 x6_4 rc10 x3_9 x5_10) else (cx_gd (cx_ib w_early 4) (cx_gd (cx_ib (((w_closing (cx_ix w_early)) * 12) + x5_10) 84) (cx_let (x3_9 + (w_products (cx_ix (((w_closing (cx_ix w_early)) * 12) + x5_10)))) (fun v23 => rc38 v23 (x5_10 + 1))))))))
noncomputable def f_X7_yearsInOrder_L38w (w_early : Int32) (w_late : Int32) (w_firstYear : Nat → Int32) (w_years : Nat → Int32) (w_closing : Nat → Int32) (w_products : Nat → Int64) (x1_1 : Int64) (x6_4 : Int32) (rc10 : Int64 → Int64 → Int32 → Int32 → Option Int64) (x7_11 : Int32) (n : Nat) : Int64 → Int32 → Option Int64 := Nat.rec (fun _ _ => none) (fun _ r => f_X7_yearsInOrder_L38 w_early w_late w_firstYear w_years w_closing w_products x1_1 x6_4 rc10 x7_11 r) n
noncomputable def f_X7_yearsInOrder_L10 (w_early : Int32) (w_late : Int32) (w_firstYear : Nat → Int32) (w_years : Nat → Int32) (w_closing : Nat → Int32) (w_products : Nat → Int64) (rc10 : Int64 → Int64 → Int32 → Int32 → Option Int64) (x1_1 : Int64) (x3_2 : Int64) (x5_3 : Int32) (x6_4 : Int32) : Option Int64 := cx_gd (cx_ib w_late 4) (if (w_years (cx_ix w_late)) ≤ x6_4 then (some x1_1) else (cx_gd (cx_ib w_late 4) (cx_let ((w_firstYear (cx_ix w_late)) + x6_4) (fun v8 => f_X7_yearsInOrder_L38w w_early w_late w_firstYear w_years w_closing w_products x1_1 x6_4 rc10 v8 cx_N0 x3_2 x5_3))))
noncomputable def f_X7_yearsInOrder_L10w (w_early : Int32) (w_late : Int32) (w_firstYear : Nat → Int32) (w_years : Nat → Int32) (w_closing : Nat → Int32) (w_products : Nat → Int64) (n : Nat) : Int64 → Int64 → Int32 → Int32 → Option Int64 := Nat.rec (fun _ _ _ _ => none) (fun _ r => f_X7_yearsInOrder_L10 w_early w_late w_firstYear w_years w_closing w_products r) n
noncomputable def f_X7_yearsInOrder (w_early : Int32) (w_late : Int32) (w_firstYear : Nat → Int32) (w_years : Nat → Int32) (w_closing : Nat → Int32) (w_products : Nat → Int64) : Option Int64 := f_X7_yearsInOrder_L10w w_early w_late w_firstYear w_years w_closing w_products cx_N0 0 0 0 0
set_option maxHeartbeats 4000000 in
set_option maxRecDepth 100000 in
theorem c_X7_yearsInOrder (l : Launch) (D : va_G) (k : Nat → ClassId) (w_a : Nat → Nat) (b_a : Nat → Nat) (s_a : Nat → Nat) (w_detail : Int32) (w_skipped : Int32) (w_early : Int32) (w_late : Int32) (w_firstOnly : Int32) (w_firstYear : Nat → Int32) (w_years : Nat → Int32) (w_place : Nat → Int32) (w_before : Nat → Int32) (w_closing : Nat → Int32) (w_likes : Nat → Int32) (w_likeSums : Nat → Int32) (w_namings : Nat → Int32) (w_products : Nat → Int64) (w_weights : Nat → Int64) (w_subtotals : Nat → Int64) (w_way : Nat → Int32) (b_c0 : Nat → Int32) (b_z0 : Int32) (b_c1 : Nat → Int32) (b_z1 : Int32) (b_c2 : Nat → Int32) (b_z2 : Int32) (b_c3 : Nat → Int32) (b_z3 : Int32) (b_c4 : Nat → Int32) (b_z4 : Int32) (b_sg : Int32) (s_np : Nat) (s_total : Nat → Int64) (s_shares : Nat → Int64) (s_pairs : Nat → Int64) (s_crowds : Nat → Int64) (s_bestWay : Nat → Int32) (s_bestWeight : Nat → Int64) (s_answer : Nat → Int64) (s_mine : Nat → Int64) (s_theirs : Nat → Int64) (s_people : Int32) (s_heads : Int32) (y : Int64) (hf : f_X7_yearsInOrder w_early w_late w_firstYear w_years w_closing w_products = some y) : cx_M l yX7_yearsInOrder cX7_yearsInOrder 8 (some .long) 1 D k [.ref (w_a 0)] (wd_Ways k w_a b_a s_a w_detail w_skipped w_early w_late w_firstOnly w_firstYear w_years w_place w_before w_closing w_likes w_likeSums w_namings w_products w_weights w_subtotals w_way ++ (wd_Box k b_a b_c0 b_z0 b_c1 b_z1 b_c2 b_z2 b_c3 b_z3 b_c4 b_z4 b_sg ++ (wd_Sums k s_a s_np s_total s_shares s_pairs s_crowds s_bestWay s_bestWeight s_answer s_mine s_theirs s_people s_heads))) (fun sz => cx_Ql D y (wd_Ways k w_a b_a s_a w_detail w_skipped w_early w_late w_firstOnly w_firstYear w_years w_place w_before w_closing w_likes w_likeSums w_namings w_products w_weights w_subtotals w_way ++ (wd_Box k b_a b_c0 b_z0 b_c1 b_z1 b_c2 b_z2 b_c3 b_z3 b_c4 b_z4 b_sg ++ (wd_Sums k s_a s_np s_total s_shares s_pairs s_crowds s_bestWay s_bestWeight s_answer s_mine s_theirs s_people s_heads))) (wd_Ways k w_a b_a s_a w_detail w_skipped w_early w_late w_firstOnly w_firstYear w_years w_place w_before w_closing w_likes w_likeSums w_namings w_products w_weights w_subtotals w_way ++ (wd_Box k b_a b_c0 b_z0 b_c1 b_z1 b_c2 b_z2 b_c3 b_z3 b_c4 b_z4 b_sg ++ (wd_Sums k s_a s_np s_total s_shares s_pairs s_crowds s_bestWay s_bestWeight s_answer s_mine s_theirs s_people s_heads))) sz) := by
  refine cx_met (own := "NamelessBox$Ways") (by decide) rfl (Nat.le_of_ble_eq_true rfl) ?_
  intro p e s m args below meth c A Q C hA hQ hr hlk
  refine cx_lv (lv' := [(0, .ref (w_a 0))]) [0] rfl ?_
  have L10 : ∀ (n10 : Nat) (x1_1 : Int64) (x3_2 : Int64) (x5_3 : Int32) (x6_4 : Int32), f_X7_yearsInOrder_L10w w_early w_late w_firstYear w_years w_closing w_products n10 x1_1 x3_2 x5_3 x6_4 = some y → cx_S p l e (cx_rm 1) s m args below meth c A D 8 0 0 Q 10 [(0, .ref (w_a 0)), (1, .long x1_1), (3, .long x3_2), (5, .int x5_3), (6, .int x6_4)] [] (wd_Ways k w_a b_a s_a w_detail w_skipped w_early w_late w_firstOnly w_firstYear w_years w_place w_before w_closing w_likes w_likeSums w_namings w_products w_weights w_subtotals w_way ++ (wd_Box k b_a b_c0 b_z0 b_c1 b_z1 b_c2 b_z2 b_c3 b_z3 b_c4 b_z4 b_sg ++ (wd_Sums k s_a s_np s_total s_shares s_pairs s_crowds s_bestWay s_bestWeight s_answer s_mine s_theirs s_people s_heads))) := by
    intro  n10
    induction n10 with
    | zero =>
      intro x1_1 x3_2 x5_3 x6_4 hf
      exact absurd (show (none : Option Int64) = some y from hf) (fun h => by cases h)
    | succ n10 ih10 =>
      intro x1_1 x3_2 x5_3 x6_4 hf
      have hf : f_X7_yearsInOrder_L10 w_early w_late w_firstYear w_years w_closing w_products (f_X7_yearsInOrder_L10w w_early w_late w_firstYear w_years w_closing w_products n10) x1_1 x3_2 x5_3 x6_4 = some y := hf
      have J98 : ∀ (x3_14 : Int64) (x5_15 : Int32), f_X7_yearsInOrder_J98 w_late w_closing w_products x1_1 x6_4 (f_X7_yearsInOrder_L10w w_early w_late w_firstYear w_years w_closing w_products n10) x3_14 x5_15 = some y → cx_S p l e (cx_rm 1) s m args below meth c A D 8 0 0 Q 98 [(0, .ref (w_a 0)), (1, .long x1_1), (3, .long x3_14), (5, .int x5_15), (6, .int x6_4)] [] (wd_Ways k w_a b_a s_a w_detail w_skipped w_early w_late w_firstOnly w_firstYear w_years w_place w_before w_closing w_likes w_likeSums w_namings w_products w_weights w_subtotals w_way ++ (wd_Box k b_a b_c0 b_z0 b_c1 b_z1 b_c2 b_z2 b_c3 b_z3 b_c4 b_z4 b_sg ++ (wd_Sums k s_a s_np s_total s_shares s_pairs s_crowds s_bestWay s_bestWeight s_answer s_mine s_theirs s_people s_heads))) := by
        intro x3_14 x5_15 hf
        unfold f_X7_yearsInOrder_J98 at hf
        refine cx_lload_n C dX7_yearsInOrder_98 1 rfl ?_
        refine cx_lload_n C dX7_yearsInOrder_99 2 rfl ?_
        refine cx_aload_n C dX7_yearsInOrder_100 0 rfl ?_
        refine cx_get (v := .ref (w_a 9)) (ci := 6) C iX7 dX7_yearsInOrder_101 0 rfl rfl 15 (by decide) hw_213 rfl ?_
        refine cx_aload_n C dX7_yearsInOrder_104 0 rfl ?_
        refine cx_get (v := .ref (w_a 5)) (ci := 6) C iX7 dX7_yearsInOrder_105 0 rfl rfl 11 (by decide) hw_209 rfl ?_
        refine cx_aload_n C dX7_yearsInOrder_108 0 rfl ?_
        refine cx_get (v := .int w_late) (ci := 6) C iX7 dX7_yearsInOrder_109 0 rfl rfl 5 (by decide) hw_203 rfl ?_
        obtain ⟨g16, hf⟩ := cx_gd_at hf
        refine cx_iald C dX7_yearsInOrder_112 5 rfl (cx_ib_in g16) ?_
        clear g16
        refine cx_bipush (v := 12) C dX7_yearsInOrder_113 (by decide) ?_
        refine cx_imul C dX7_yearsInOrder_115 ?_
        refine cx_iload C dX7_yearsInOrder_116 4 rfl ?_
        refine cx_iadd C dX7_yearsInOrder_118 ?_
        obtain ⟨g17, hf⟩ := cx_gd_at hf
        refine cx_lald C dX7_yearsInOrder_119 9 rfl (cx_ib_in g17) ?_
        clear g17
        refine cx_lmul C dX7_yearsInOrder_120 ?_
        refine cx_ladd C dX7_yearsInOrder_121 ?_
        refine cx_topl (fun v18 ev18 => ?_)
        have hf := cx_let_at hf ev18
        clear ev18
        refine cx_lstore_n (lv' := [(1, .long v18), (0, .ref (w_a 0)), (3, .long x3_14), (5, .int x5_15), (6, .int x6_4)]) C dX7_yearsInOrder_122 rfl (by decide) rfl ?_
        refine cx_iinc (v := x6_4 + 1) (lv' := [(6, .int (x6_4 + 1)), (1, .long v18), (0, .ref (w_a 0)), (3, .long x3_14), (5, .int x5_15)]) C dX7_yearsInOrder_123 4 rfl rfl (by decide) rfl ?_
        refine cx_goto (tgt := 10) C dX7_yearsInOrder_126 (by decide) ?_
        refine cx_lv [2, 1, 3, 4, 0] rfl ?_
        exact ih10 v18 x3_14 x5_15 (x6_4 + 1) hf
      have L38 : ∀ (x7_11 : Int32) (n38 : Nat) (x3_9 : Int64) (x5_10 : Int32), f_X7_yearsInOrder_L38w w_early w_late w_firstYear w_years w_closing w_products x1_1 x6_4 (f_X7_yearsInOrder_L10w w_early w_late w_firstYear w_years w_closing w_products n10) x7_11 n38 x3_9 x5_10 = some y → cx_S p l e (cx_rm 1) s m args below meth c A D 8 0 0 Q 38 [(0, .ref (w_a 0)), (1, .long x1_1), (3, .long x3_9), (5, .int x5_10), (6, .int x6_4), (7, .int x7_11)] [] (wd_Ways k w_a b_a s_a w_detail w_skipped w_early w_late w_firstOnly w_firstYear w_years w_place w_before w_closing w_likes w_likeSums w_namings w_products w_weights w_subtotals w_way ++ (wd_Box k b_a b_c0 b_z0 b_c1 b_z1 b_c2 b_z2 b_c3 b_z3 b_c4 b_z4 b_sg ++ (wd_Sums k s_a s_np s_total s_shares s_pairs s_crowds s_bestWay s_bestWeight s_answer s_mine s_theirs s_people s_heads))) := by
        intro x7_11 n38
        induction n38 with
        | zero =>
          intro x3_9 x5_10 hf
          exact absurd (show (none : Option Int64) = some y from hf) (fun h => by cases h)
        | succ n38 ih38 =>
          intro x3_9 x5_10 hf
          have hf : f_X7_yearsInOrder_L38 w_early w_late w_firstYear w_years w_closing w_products x1_1 x6_4 (f_X7_yearsInOrder_L10w w_early w_late w_firstYear w_years w_closing w_products n10) x7_11 (f_X7_yearsInOrder_L38w w_early w_late w_firstYear w_years w_closing w_products x1_1 x6_4 (f_X7_yearsInOrder_L10w w_early w_late w_firstYear w_years w_closing w_products n10) x7_11 n38) x3_9 x5_10 = some y := hf
          unfold f_X7_yearsInOrder_L38 at hf
          refine cx_iload C dX7_yearsInOrder_38 3 rfl ?_
          refine cx_aload_n C dX7_yearsInOrder_40 0 rfl ?_
          refine cx_get (v := .ref (w_a 2)) (ci := 6) C iX7 dX7_yearsInOrder_41 0 rfl rfl 8 (by decide) hw_206 rfl ?_
          refine cx_aload_n C dX7_yearsInOrder_44 0 rfl ?_
          refine cx_get (v := .int w_early) (ci := 6) C iX7 dX7_yearsInOrder_45 0 rfl rfl 4 (by decide) hw_202 rfl ?_
          obtain ⟨g12, hf⟩ := cx_gd_at hf
          refine cx_iald C dX7_yearsInOrder_48 2 rfl (cx_ib_in g12) ?_
          clear g12
          refine cx_icmp_ge (tgt := 98) C dX7_yearsInOrder_49 (by decide) (fun c13 => ?_) (fun c13 => ?_)
          · have hf := cx_if_t hf c13
            clear c13
            refine cx_lv [0, 1, 2, 3, 4] rfl ?_
            exact J98 x3_9 x5_10 hf
          · have hf := cx_if_f hf c13
            clear c13
            refine cx_aload_n C dX7_yearsInOrder_52 0 rfl ?_
            refine cx_get (v := .ref (w_a 1)) (ci := 6) C iX7 dX7_yearsInOrder_53 0 rfl rfl 7 (by decide) hw_205 rfl ?_
            refine cx_aload_n C dX7_yearsInOrder_56 0 rfl ?_
            refine cx_get (v := .int w_early) (ci := 6) C iX7 dX7_yearsInOrder_57 0 rfl rfl 4 (by decide) hw_202 rfl ?_
            obtain ⟨g19, hf⟩ := cx_gd_at hf
            refine cx_iald C dX7_yearsInOrder_60 1 rfl (cx_ib_in g19) ?_
            clear g19
            refine cx_iload C dX7_yearsInOrder_61 3 rfl ?_
            refine cx_iadd C dX7_yearsInOrder_63 ?_
            refine cx_iload C dX7_yearsInOrder_64 5 rfl ?_
            refine cx_icmp_ge (tgt := 98) C dX7_yearsInOrder_66 (by decide) (fun c20 => ?_) (fun c20 => ?_)
            · have hf := cx_if_t hf c20
              clear c20
              refine cx_lv [0, 1, 2, 3, 4] rfl ?_
              exact J98 x3_9 x5_10 hf
            · have hf := cx_if_f hf c20
              clear c20
              refine cx_lload_n C dX7_yearsInOrder_69 2 rfl ?_
              refine cx_aload_n C dX7_yearsInOrder_70 0 rfl ?_
              refine cx_get (v := .ref (w_a 9)) (ci := 6) C iX7 dX7_yearsInOrder_71 0 rfl rfl 15 (by decide) hw_213 rfl ?_
              refine cx_aload_n C dX7_yearsInOrder_74 0 rfl ?_
              refine cx_get (v := .ref (w_a 5)) (ci := 6) C iX7 dX7_yearsInOrder_75 0 rfl rfl 11 (by decide) hw_209 rfl ?_
              refine cx_aload_n C dX7_yearsInOrder_78 0 rfl ?_
              refine cx_get (v := .int w_early) (ci := 6) C iX7 dX7_yearsInOrder_79 0 rfl rfl 4 (by decide) hw_202 rfl ?_
              obtain ⟨g21, hf⟩ := cx_gd_at hf
              refine cx_iald C dX7_yearsInOrder_82 5 rfl (cx_ib_in g21) ?_
              clear g21
              refine cx_bipush (v := 12) C dX7_yearsInOrder_83 (by decide) ?_
              refine cx_imul C dX7_yearsInOrder_85 ?_
              refine cx_iload C dX7_yearsInOrder_86 3 rfl ?_
              refine cx_iadd C dX7_yearsInOrder_88 ?_
              obtain ⟨g22, hf⟩ := cx_gd_at hf
              refine cx_lald C dX7_yearsInOrder_89 9 rfl (cx_ib_in g22) ?_
              clear g22
              refine cx_ladd C dX7_yearsInOrder_90 ?_
              refine cx_topl (fun v23 ev23 => ?_)
              have hf := cx_let_at hf ev23
              clear ev23
              refine cx_lstore_n (lv' := [(3, .long v23), (0, .ref (w_a 0)), (1, .long x1_1), (5, .int x5_10), (6, .int x6_4), (7, .int x7_11)]) C dX7_yearsInOrder_91 rfl (by decide) rfl ?_
              refine cx_iinc (v := x5_10 + 1) (lv' := [(5, .int (x5_10 + 1)), (3, .long v23), (0, .ref (w_a 0)), (1, .long x1_1), (6, .int x6_4), (7, .int x7_11)]) C dX7_yearsInOrder_92 3 rfl rfl (by decide) rfl ?_
              refine cx_goto (tgt := 38) C dX7_yearsInOrder_95 (by decide) ?_
              refine cx_lv [2, 3, 1, 0, 4, 5] rfl ?_
              exact ih38 v23 (x5_10 + 1) hf
      unfold f_X7_yearsInOrder_L10 at hf
      refine cx_iload C dX7_yearsInOrder_10 4 rfl ?_
      refine cx_aload_n C dX7_yearsInOrder_12 0 rfl ?_
      refine cx_get (v := .ref (w_a 2)) (ci := 6) C iX7 dX7_yearsInOrder_13 0 rfl rfl 8 (by decide) hw_206 rfl ?_
      refine cx_aload_n C dX7_yearsInOrder_16 0 rfl ?_
      refine cx_get (v := .int w_late) (ci := 6) C iX7 dX7_yearsInOrder_17 0 rfl rfl 5 (by decide) hw_203 rfl ?_
      obtain ⟨g5, hf⟩ := cx_gd_at hf
      refine cx_iald C dX7_yearsInOrder_20 2 rfl (cx_ib_in g5) ?_
      clear g5
      refine cx_icmp_ge (tgt := 129) C dX7_yearsInOrder_21 (by decide) (fun c6 => ?_) (fun c6 => ?_)
      · have hf := cx_if_t hf c6
        clear c6
        refine cx_lload_n C dX7_yearsInOrder_129 1 rfl ?_
        obtain rfl := Option.some.inj hf
        exact cx_lret C hA hQ hr hlk dX7_yearsInOrder_130 rfl rfl
      · have hf := cx_if_f hf c6
        clear c6
        refine cx_aload_n C dX7_yearsInOrder_24 0 rfl ?_
        refine cx_get (v := .ref (w_a 1)) (ci := 6) C iX7 dX7_yearsInOrder_25 0 rfl rfl 7 (by decide) hw_205 rfl ?_
        refine cx_aload_n C dX7_yearsInOrder_28 0 rfl ?_
        refine cx_get (v := .int w_late) (ci := 6) C iX7 dX7_yearsInOrder_29 0 rfl rfl 5 (by decide) hw_203 rfl ?_
        obtain ⟨g7, hf⟩ := cx_gd_at hf
        refine cx_iald C dX7_yearsInOrder_32 1 rfl (cx_ib_in g7) ?_
        clear g7
        refine cx_iload C dX7_yearsInOrder_33 4 rfl ?_
        refine cx_iadd C dX7_yearsInOrder_35 ?_
        refine cx_topi (fun v8 ev8 => ?_)
        have hf := cx_let_at hf ev8
        clear ev8
        refine cx_istore (lv' := [(7, .int v8), (0, .ref (w_a 0)), (1, .long x1_1), (3, .long x3_2), (5, .int x5_3), (6, .int x6_4)]) C dX7_yearsInOrder_36 (by decide) rfl ?_
        refine cx_lv [1, 2, 3, 4, 5, 0] rfl ?_
        exact L38 v8 cx_N0 x3_2 x5_3 hf
  unfold f_X7_yearsInOrder at hf
  refine cx_lconst (v := 0) C dX7_yearsInOrder_0 (by decide) ?_
  refine cx_lstore_n (lv' := [(1, .long 0), (0, .ref (w_a 0))]) C dX7_yearsInOrder_1 rfl (by decide) rfl ?_
  refine cx_lconst (v := 0) C dX7_yearsInOrder_2 (by decide) ?_
  refine cx_lstore_n (lv' := [(3, .long 0), (1, .long 0), (0, .ref (w_a 0))]) C dX7_yearsInOrder_3 rfl (by decide) rfl ?_
  refine cx_iconst (v := 0) C dX7_yearsInOrder_4 (by decide) ?_
  refine cx_istore (lv' := [(5, .int 0), (3, .long 0), (1, .long 0), (0, .ref (w_a 0))]) C dX7_yearsInOrder_5 (by decide) rfl ?_
  refine cx_iconst (v := 0) C dX7_yearsInOrder_7 (by decide) ?_
  refine cx_istore (lv' := [(6, .int 0), (5, .int 0), (3, .long 0), (1, .long 0), (0, .ref (w_a 0))]) C dX7_yearsInOrder_8 (by decide) rfl ?_
  refine cx_lv [4, 3, 2, 1, 0] rfl ?_
  exact L10 cx_N0 0 0 0 0 hf
theorem dX7_takeEmptyPictures_0 : decode cX7_takeEmptyPictures 0 = .ok (.iconst 0, 1) := by decide +kernel
theorem dX7_takeEmptyPictures_1 : decode cX7_takeEmptyPictures 1 = .ok (.istore_n 1, 1) := by decide +kernel
theorem dX7_takeEmptyPictures_2 : decode cX7_takeEmptyPictures 2 = .ok (.iload_n 1, 1) := by decide +kernel
theorem dX7_takeEmptyPictures_3 : decode cX7_takeEmptyPictures 3 = .ok (.aload_n 0, 1) := by decide +kernel
theorem dX7_takeEmptyPictures_4 : decode cX7_takeEmptyPictures 4 = .ok (.getfield 68, 3) := by decide +kernel
theorem dX7_takeEmptyPictures_7 : decode cX7_takeEmptyPictures 7 = .ok (.getfield 82, 3) := by decide +kernel
theorem dX7_takeEmptyPictures_10 : decode cX7_takeEmptyPictures 10 = .ok (.getfield 88, 3) := by decide +kernel
theorem dX7_takeEmptyPictures_13 : decode cX7_takeEmptyPictures 13 = .ok (.if_icmp .ge 56, 3) := by decide +kernel
theorem dX7_takeEmptyPictures_16 : decode cX7_takeEmptyPictures 16 = .ok (.aload_n 0, 1) := by decide +kernel
theorem dX7_takeEmptyPictures_17 : decode cX7_takeEmptyPictures 17 = .ok (.getfield 41, 3) := by decide +kernel
theorem dX7_takeEmptyPictures_20 : decode cX7_takeEmptyPictures 20 = .ok (.iload_n 1, 1) := by decide +kernel
theorem dX7_takeEmptyPictures_21 : decode cX7_takeEmptyPictures 21 = .ok (.iaload, 1) := by decide +kernel
theorem dX7_takeEmptyPictures_22 : decode cX7_takeEmptyPictures 22 = .ok (.bipush 6, 2) := by decide +kernel
theorem dX7_takeEmptyPictures_24 : decode cX7_takeEmptyPictures 24 = .ok (.if_icmp .ne 39, 3) := by decide +kernel
theorem dX7_takeEmptyPictures_27 : decode cX7_takeEmptyPictures 27 = .ok (.iload_n 1, 1) := by decide +kernel
theorem dX7_takeEmptyPictures_28 : decode cX7_takeEmptyPictures 28 = .ok (.aload_n 0, 1) := by decide +kernel
theorem dX7_takeEmptyPictures_29 : decode cX7_takeEmptyPictures 29 = .ok (.getfield 18, 3) := by decide +kernel
theorem dX7_takeEmptyPictures_32 : decode cX7_takeEmptyPictures 32 = .ok (.if_icmp .eq 31, 3) := by decide +kernel
theorem dX7_takeEmptyPictures_35 : decode cX7_takeEmptyPictures 35 = .ok (.iload_n 1, 1) := by decide +kernel
theorem dX7_takeEmptyPictures_36 : decode cX7_takeEmptyPictures 36 = .ok (.aload_n 0, 1) := by decide +kernel
theorem dX7_takeEmptyPictures_37 : decode cX7_takeEmptyPictures 37 = .ok (.getfield 21, 3) := by decide +kernel
theorem dX7_takeEmptyPictures_40 : decode cX7_takeEmptyPictures 40 = .ok (.if_icmp .eq 23, 3) := by decide +kernel
theorem dX7_takeEmptyPictures_43 : decode cX7_takeEmptyPictures 43 = .ok (.aload_n 0, 1) := by decide +kernel
theorem dX7_takeEmptyPictures_44 : decode cX7_takeEmptyPictures 44 = .ok (.getfield 59, 3) := by decide +kernel
theorem dX7_takeEmptyPictures_47 : decode cX7_takeEmptyPictures 47 = .ok (.iconst 0, 1) := by decide +kernel
theorem dX7_takeEmptyPictures_48 : decode cX7_takeEmptyPictures 48 = .ok (.aload_n 0, 1) := by decide +kernel
theorem dX7_takeEmptyPictures_49 : decode cX7_takeEmptyPictures 49 = .ok (.getfield 59, 3) := by decide +kernel
theorem dX7_takeEmptyPictures_52 : decode cX7_takeEmptyPictures 52 = .ok (.iconst 0, 1) := by decide +kernel
theorem dX7_takeEmptyPictures_53 : decode cX7_takeEmptyPictures 53 = .ok (.aload_n 0, 1) := by decide +kernel
theorem dX7_takeEmptyPictures_54 : decode cX7_takeEmptyPictures 54 = .ok (.getfield 32, 3) := by decide +kernel
theorem dX7_takeEmptyPictures_57 : decode cX7_takeEmptyPictures 57 = .ok (.iload_n 1, 1) := by decide +kernel
theorem dX7_takeEmptyPictures_58 : decode cX7_takeEmptyPictures 58 = .ok (.iaload, 1) := by decide +kernel
theorem dX7_takeEmptyPictures_59 : decode cX7_takeEmptyPictures 59 = .ok (.i2l, 1) := by decide +kernel
theorem dX7_takeEmptyPictures_60 : decode cX7_takeEmptyPictures 60 = .ok (.invokestatic 166, 3) := by decide +kernel
theorem dX7_takeEmptyPictures_63 : decode cX7_takeEmptyPictures 63 = .ok (.iinc 1 1, 3) := by decide +kernel
theorem dX7_takeEmptyPictures_66 : decode cX7_takeEmptyPictures 66 = .ok (.goto (-64), 3) := by decide +kernel
theorem dX7_takeEmptyPictures_69 : decode cX7_takeEmptyPictures 69 = .ok (.aload_n 0, 1) := by decide +kernel
theorem dX7_takeEmptyPictures_70 : decode cX7_takeEmptyPictures 70 = .ok (.getfield 18, 3) := by decide +kernel
theorem dX7_takeEmptyPictures_73 : decode cX7_takeEmptyPictures 73 = .ok (.iconst (-1), 1) := by decide +kernel
theorem dX7_takeEmptyPictures_74 : decode cX7_takeEmptyPictures 74 = .ok (.if_icmp .eq 48, 3) := by decide +kernel
theorem dX7_takeEmptyPictures_77 : decode cX7_takeEmptyPictures 77 = .ok (.aload_n 0, 1) := by decide +kernel
theorem dX7_takeEmptyPictures_78 : decode cX7_takeEmptyPictures 78 = .ok (.getfield 41, 3) := by decide +kernel
theorem dX7_takeEmptyPictures_81 : decode cX7_takeEmptyPictures 81 = .ok (.aload_n 0, 1) := by decide +kernel
theorem dX7_takeEmptyPictures_82 : decode cX7_takeEmptyPictures 82 = .ok (.getfield 18, 3) := by decide +kernel
theorem dX7_takeEmptyPictures_85 : decode cX7_takeEmptyPictures 85 = .ok (.iaload, 1) := by decide +kernel
theorem dX7_takeEmptyPictures_86 : decode cX7_takeEmptyPictures 86 = .ok (.bipush 6, 2) := by decide +kernel
theorem dX7_takeEmptyPictures_88 : decode cX7_takeEmptyPictures 88 = .ok (.if_icmp .ne 34, 3) := by decide +kernel
theorem dX7_takeEmptyPictures_91 : decode cX7_takeEmptyPictures 91 = .ok (.aload_n 0, 1) := by decide +kernel
theorem dX7_takeEmptyPictures_92 : decode cX7_takeEmptyPictures 92 = .ok (.getfield 41, 3) := by decide +kernel
theorem dX7_takeEmptyPictures_95 : decode cX7_takeEmptyPictures 95 = .ok (.aload_n 0, 1) := by decide +kernel
theorem dX7_takeEmptyPictures_96 : decode cX7_takeEmptyPictures 96 = .ok (.getfield 21, 3) := by decide +kernel
theorem dX7_takeEmptyPictures_99 : decode cX7_takeEmptyPictures 99 = .ok (.iaload, 1) := by decide +kernel
theorem dX7_takeEmptyPictures_100 : decode cX7_takeEmptyPictures 100 = .ok (.bipush 6, 2) := by decide +kernel
theorem dX7_takeEmptyPictures_102 : decode cX7_takeEmptyPictures 102 = .ok (.if_icmp .ne 20, 3) := by decide +kernel
theorem dX7_takeEmptyPictures_105 : decode cX7_takeEmptyPictures 105 = .ok (.aload_n 0, 1) := by decide +kernel
theorem dX7_takeEmptyPictures_106 : decode cX7_takeEmptyPictures 106 = .ok (.getfield 59, 3) := by decide +kernel
theorem dX7_takeEmptyPictures_109 : decode cX7_takeEmptyPictures 109 = .ok (.iconst 0, 1) := by decide +kernel
theorem dX7_takeEmptyPictures_110 : decode cX7_takeEmptyPictures 110 = .ok (.aload_n 0, 1) := by decide +kernel
theorem dX7_takeEmptyPictures_111 : decode cX7_takeEmptyPictures 111 = .ok (.getfield 59, 3) := by decide +kernel
theorem dX7_takeEmptyPictures_114 : decode cX7_takeEmptyPictures 114 = .ok (.iconst 0, 1) := by decide +kernel
theorem dX7_takeEmptyPictures_115 : decode cX7_takeEmptyPictures 115 = .ok (.aload_n 0, 1) := by decide +kernel
theorem dX7_takeEmptyPictures_116 : decode cX7_takeEmptyPictures 116 = .ok (.invokevirtual 170, 3) := by decide +kernel
theorem dX7_takeEmptyPictures_119 : decode cX7_takeEmptyPictures 119 = .ok (.invokestatic 166, 3) := by decide +kernel
theorem dX7_takeEmptyPictures_122 : decode cX7_takeEmptyPictures 122 = .ok (.return_, 1) := by decide +kernel
theorem me_X7_takeEmptyPictures : cx_Mv yX7_takeEmptyPictures cX7_takeEmptyPictures 2 none 0 := ⟨⟨⟨by decide +kernel, by decide +kernel, by decide +kernel⟩, hw_7, hw_676⟩, hw_675, hs_14⟩
noncomputable def f_X7_takeEmptyPictures_J63 (x1_2 : Int32) (rc2 : (Nat → Int64) → Int32 → Option (Nat → Int64)) (a_15 : Nat → Int64) : Option (Nat → Int64) := rc2 a_15 (x1_2 + 1)
noncomputable def f_X7_takeEmptyPictures_L2 (w_early : Int32) (w_late : Int32) (w_firstYear : Nat → Int32) (w_years : Nat → Int32) (w_closing : Nat → Int32) (w_products : Nat → Int64) (b_z1 : Int32) (rc2 : (Nat → Int64) → Int32 → Option (Nat → Int64)) (a_1 : Nat → Int64) (x1_2 : Int32) : Option (Nat → Int64) := if b_z1 ≤ x1_2 then (if w_early = ((-1)) then (some a_1) else (cx_gd (cx_ib w_early 4) (if (w_closing (cx_ix w_early)) = 6 then (cx_gd (cx_ib w_late 4) (if (w_closing (cx_ix w_late)) = 6 then (Option.bind (f_X7_yearsInOrder w_early w_late w_firstYear w_years w_closing w_products) (fun u9 => Option.bind (f_X3_multiply_x_e0 28 a_1 0 0 u9) (fun u11 => some u11))) else (some a_1))) else (some a_1)))) else (cx_gd (cx_ib x1_2 4) (if (w_closing (cx_ix x1_2)) = 6 then (if x1_2 = w_early then (f_X7_takeEmptyPictures_J63 x1_2 rc2 a_1) else (if x1_2 = w_late then (f_X7_takeEmptyPictures_J63 x1_2 rc2 a_1) else (cx_gd (cx_ib x1_2 4) (Option.bind (f_X3_multiply_x_e0 28 a_1 0 0 (Int32.toInt64 (w_years (cx_ix x1_2)))) (fun u19 => f_X7_takeEmptyPictures_J63 x1_2 rc2 u19))))) else (f_X7_takeEmptyPictures_J63 x1_2 rc2 a_1)))
noncomputable def f_X7_takeEmptyPictures_L2w (w_early : Int32) (w_late : Int32) (w_firstYear : Nat → Int32) (w_years : Nat → Int32) (w_closing : Nat → Int32) (w_products : Nat → Int64) (b_z1 : Int32) (n : Nat) : (Nat → Int64) → Int32 → Option (Nat → Int64) := Nat.rec (fun _ _ => none) (fun _ r => f_X7_takeEmptyPictures_L2 w_early w_late w_firstYear w_years w_closing w_products b_z1 r) n
noncomputable def f_X7_takeEmptyPictures (w_early : Int32) (w_late : Int32) (w_firstYear : Nat → Int32) (w_years : Nat → Int32) (w_closing : Nat → Int32) (w_products : Nat → Int64) (w_weights : Nat → Int64) (b_z1 : Int32) : Option (Nat → Int64) := f_X7_takeEmptyPictures_L2w w_early w_late w_firstYear w_years w_closing w_products b_z1 cx_N0 w_weights 0
set_option maxHeartbeats 4000000 in
set_option maxRecDepth 100000 in
theorem c_X7_takeEmptyPictures (l : Launch) (D : va_G) (k : Nat → ClassId) (w_a : Nat → Nat) (b_a : Nat → Nat) (s_a : Nat → Nat) (w_detail : Int32) (w_skipped : Int32) (w_early : Int32) (w_late : Int32) (w_firstOnly : Int32) (w_firstYear : Nat → Int32) (w_years : Nat → Int32) (w_place : Nat → Int32) (w_before : Nat → Int32) (w_closing : Nat → Int32) (w_likes : Nat → Int32) (w_likeSums : Nat → Int32) (w_namings : Nat → Int32) (w_products : Nat → Int64) (w_weights : Nat → Int64) (w_subtotals : Nat → Int64) (w_way : Nat → Int32) (b_c0 : Nat → Int32) (b_z0 : Int32) (b_c1 : Nat → Int32) (b_z1 : Int32) (b_c2 : Nat → Int32) (b_z2 : Int32) (b_c3 : Nat → Int32) (b_z3 : Int32) (b_c4 : Nat → Int32) (b_z4 : Int32) (b_sg : Int32) (s_np : Nat) (s_total : Nat → Int64) (s_shares : Nat → Int64) (s_pairs : Nat → Int64) (s_crowds : Nat → Int64) (s_bestWay : Nat → Int32) (s_bestWeight : Nat → Int64) (s_answer : Nat → Int64) (s_mine : Nat → Int64) (s_theirs : Nat → Int64) (s_people : Int32) (s_heads : Int32) (y : Nat → Int64) (hf : f_X7_takeEmptyPictures w_early w_late w_firstYear w_years w_closing w_products w_weights b_z1 = some y) : cx_M l yX7_takeEmptyPictures cX7_takeEmptyPictures 2 none 2 D k [.ref (w_a 0)] (wd_Ways k w_a b_a s_a w_detail w_skipped w_early w_late w_firstOnly w_firstYear w_years w_place w_before w_closing w_likes w_likeSums w_namings w_products w_weights w_subtotals w_way ++ (wd_Box k b_a b_c0 b_z0 b_c1 b_z1 b_c2 b_z2 b_c3 b_z3 b_c4 b_z4 b_sg ++ (wd_Sums k s_a s_np s_total s_shares s_pairs s_crowds s_bestWay s_bestWeight s_answer s_mine s_theirs s_people s_heads))) (fun sz => cx_Qv D (wd_Ways k w_a b_a s_a w_detail w_skipped w_early w_late w_firstOnly w_firstYear w_years w_place w_before w_closing w_likes w_likeSums w_namings w_products w_weights w_subtotals w_way ++ (wd_Box k b_a b_c0 b_z0 b_c1 b_z1 b_c2 b_z2 b_c3 b_z3 b_c4 b_z4 b_sg ++ (wd_Sums k s_a s_np s_total s_shares s_pairs s_crowds s_bestWay s_bestWeight s_answer s_mine s_theirs s_people s_heads))) (wd_Ways k w_a b_a s_a w_detail w_skipped w_early w_late w_firstOnly w_firstYear w_years w_place w_before w_closing w_likes w_likeSums w_namings w_products y w_subtotals w_way ++ (wd_Box k b_a b_c0 b_z0 b_c1 b_z1 b_c2 b_z2 b_c3 b_z3 b_c4 b_z4 b_sg ++ (wd_Sums k s_a s_np s_total s_shares s_pairs s_crowds s_bestWay s_bestWeight s_answer s_mine s_theirs s_people s_heads))) sz) := by
  refine cx_met (own := "NamelessBox$Ways") (by decide) rfl (Nat.le_of_ble_eq_true rfl) ?_
  intro p e s m args below meth c A Q C hA hQ hr hlk
  refine cx_lv (lv' := [(0, .ref (w_a 0))]) [0] rfl ?_
  have L2 : ∀ (n2 : Nat) (a_1 : Nat → Int64) (x1_2 : Int32), f_X7_takeEmptyPictures_L2w w_early w_late w_firstYear w_years w_closing w_products b_z1 n2 a_1 x1_2 = some y → cx_S p l e (cx_rm 2) s m args below meth c A D 2 0 0 Q 2 [(0, .ref (w_a 0)), (1, .int x1_2)] [] (wd_Ways k w_a b_a s_a w_detail w_skipped w_early w_late w_firstOnly w_firstYear w_years w_place w_before w_closing w_likes w_likeSums w_namings w_products a_1 w_subtotals w_way ++ (wd_Box k b_a b_c0 b_z0 b_c1 b_z1 b_c2 b_z2 b_c3 b_z3 b_c4 b_z4 b_sg ++ (wd_Sums k s_a s_np s_total s_shares s_pairs s_crowds s_bestWay s_bestWeight s_answer s_mine s_theirs s_people s_heads))) := by
    intro  n2
    induction n2 with
    | zero =>
      intro a_1 x1_2 hf
      exact absurd (show (none : Option (Nat → Int64)) = some y from hf) (fun h => by cases h)
    | succ n2 ih2 =>
      intro a_1 x1_2 hf
      have hf : f_X7_takeEmptyPictures_L2 w_early w_late w_firstYear w_years w_closing w_products b_z1 (f_X7_takeEmptyPictures_L2w w_early w_late w_firstYear w_years w_closing w_products b_z1 n2) a_1 x1_2 = some y := hf
      have J63 : ∀ (a_15 : Nat → Int64), f_X7_takeEmptyPictures_J63 x1_2 (f_X7_takeEmptyPictures_L2w w_early w_late w_firstYear w_years w_closing w_products b_z1 n2) a_15 = some y → cx_S p l e (cx_rm 2) s m args below meth c A D 2 0 0 Q 63 [(0, .ref (w_a 0)), (1, .int x1_2)] [] (wd_Ways k w_a b_a s_a w_detail w_skipped w_early w_late w_firstOnly w_firstYear w_years w_place w_before w_closing w_likes w_likeSums w_namings w_products a_15 w_subtotals w_way ++ (wd_Box k b_a b_c0 b_z0 b_c1 b_z1 b_c2 b_z2 b_c3 b_z3 b_c4 b_z4 b_sg ++ (wd_Sums k s_a s_np s_total s_shares s_pairs s_crowds s_bestWay s_bestWeight s_answer s_mine s_theirs s_people s_heads))) := by
        intro a_15 hf
        unfold f_X7_takeEmptyPictures_J63 at hf
        refine cx_iinc (v := x1_2 + 1) (lv' := [(1, .int (x1_2 + 1)), (0, .ref (w_a 0))]) C dX7_takeEmptyPictures_63 1 rfl rfl (by decide) rfl ?_
        refine cx_goto (tgt := 2) C dX7_takeEmptyPictures_66 (by decide) ?_
        refine cx_lv [1, 0] rfl ?_
        exact ih2 a_15 (x1_2 + 1) hf
      unfold f_X7_takeEmptyPictures_L2 at hf
      refine cx_iload_n C dX7_takeEmptyPictures_2 1 rfl ?_
      refine cx_aload_n C dX7_takeEmptyPictures_3 0 rfl ?_
      refine cx_get (v := .ref (b_a 0)) (ci := 6) C iX7 dX7_takeEmptyPictures_4 0 rfl rfl 1 (by decide) hw_199 rfl ?_
      refine cx_get (v := .ref (b_a 3)) (ci := 1) C iX1 dX7_takeEmptyPictures_7 13 rfl rfl 1 (by decide) hw_65 rfl ?_
      refine cx_get (v := .int b_z1) (ci := 3) C iX4 dX7_takeEmptyPictures_10 16 rfl rfl 3 (by decide) hw_48 rfl ?_
      refine cx_icmp_ge (tgt := 69) C dX7_takeEmptyPictures_13 (by decide) (fun c3 => ?_) (fun c3 => ?_)
      · have hf := cx_if_t hf c3
        clear c3
        refine cx_aload_n C dX7_takeEmptyPictures_69 0 rfl ?_
        refine cx_get (v := .int w_early) (ci := 6) C iX7 dX7_takeEmptyPictures_70 0 rfl rfl 4 (by decide) hw_202 rfl ?_
        refine cx_iconst (v := (-1)) C dX7_takeEmptyPictures_73 (by decide) ?_
        refine cx_icmp_eq (tgt := 122) C dX7_takeEmptyPictures_74 (by decide) (fun c4 => ?_) (fun c4 => ?_)
        · have hf := cx_if_t hf c4
          clear c4
          obtain rfl := Option.some.inj hf
          exact cx_vret C hA hQ hr hlk dX7_takeEmptyPictures_122 rfl
        · have hf := cx_if_f hf c4
          clear c4
          refine cx_aload_n C dX7_takeEmptyPictures_77 0 rfl ?_
          refine cx_get (v := .ref (w_a 5)) (ci := 6) C iX7 dX7_takeEmptyPictures_78 0 rfl rfl 11 (by decide) hw_209 rfl ?_
          refine cx_aload_n C dX7_takeEmptyPictures_81 0 rfl ?_
          refine cx_get (v := .int w_early) (ci := 6) C iX7 dX7_takeEmptyPictures_82 0 rfl rfl 4 (by decide) hw_202 rfl ?_
          obtain ⟨g5, hf⟩ := cx_gd_at hf
          refine cx_iald C dX7_takeEmptyPictures_85 5 rfl (cx_ib_in g5) ?_
          clear g5
          refine cx_bipush (v := 6) C dX7_takeEmptyPictures_86 (by decide) ?_
          refine cx_icmp_ne (tgt := 122) C dX7_takeEmptyPictures_88 (by decide) (fun c6 => ?_) (fun c6 => ?_)
          · have hf := cx_if_f hf c6
            clear c6
            obtain rfl := Option.some.inj hf
            exact cx_vret C hA hQ hr hlk dX7_takeEmptyPictures_122 rfl
          · have hf := cx_if_t hf c6
            clear c6
            refine cx_aload_n C dX7_takeEmptyPictures_91 0 rfl ?_
            refine cx_get (v := .ref (w_a 5)) (ci := 6) C iX7 dX7_takeEmptyPictures_92 0 rfl rfl 11 (by decide) hw_209 rfl ?_
            refine cx_aload_n C dX7_takeEmptyPictures_95 0 rfl ?_
            refine cx_get (v := .int w_late) (ci := 6) C iX7 dX7_takeEmptyPictures_96 0 rfl rfl 5 (by decide) hw_203 rfl ?_
            obtain ⟨g7, hf⟩ := cx_gd_at hf
            refine cx_iald C dX7_takeEmptyPictures_99 5 rfl (cx_ib_in g7) ?_
            clear g7
            refine cx_bipush (v := 6) C dX7_takeEmptyPictures_100 (by decide) ?_
            refine cx_icmp_ne (tgt := 122) C dX7_takeEmptyPictures_102 (by decide) (fun c8 => ?_) (fun c8 => ?_)
            · have hf := cx_if_f hf c8
              clear c8
              obtain rfl := Option.some.inj hf
              exact cx_vret C hA hQ hr hlk dX7_takeEmptyPictures_122 rfl
            · have hf := cx_if_t hf c8
              clear c8
              refine cx_aload_n C dX7_takeEmptyPictures_105 0 rfl ?_
              refine cx_get (v := .ref (w_a 10)) (ci := 6) C iX7 dX7_takeEmptyPictures_106 0 rfl rfl 16 (by decide) hw_214 rfl ?_
              refine cx_iconst (v := 0) C dX7_takeEmptyPictures_109 (by decide) ?_
              refine cx_aload_n C dX7_takeEmptyPictures_110 0 rfl ?_
              refine cx_get (v := .ref (w_a 10)) (ci := 6) C iX7 dX7_takeEmptyPictures_111 0 rfl rfl 16 (by decide) hw_214 rfl ?_
              refine cx_iconst (v := 0) C dX7_takeEmptyPictures_114 (by decide) ?_
              refine cx_aload_n C dX7_takeEmptyPictures_115 0 rfl ?_
              obtain ⟨u9, e10, hf⟩ := cx_bd_at hf
              refine cx_Fvl (q := (RX7, TX7, 19)) (As := []) (rest := [.int 0, .ref (w_a 10), .int 0, .ref (w_a 10)]) (w1 := (wd_Ways k w_a b_a s_a w_detail w_skipped w_early w_late w_firstOnly w_firstYear w_years w_place w_before w_closing w_likes w_likeSums w_namings w_products a_1 w_subtotals w_way ++ (wd_Box k b_a b_c0 b_z0 b_c1 b_z1 b_c2 b_z2 b_c3 b_z3 b_c4 b_z4 b_sg ++ (wd_Sums k s_a s_np s_total s_shares s_pairs s_crowds s_bestWay s_bestWeight s_answer s_mine s_theirs s_people s_heads)))) hA C me_X7_yearsInOrder hw_681 (c_X7_yearsInOrder l D k w_a b_a s_a w_detail w_skipped w_early w_late w_firstOnly w_firstYear w_years w_place w_before w_closing w_likes w_likeSums w_namings w_products a_1 w_subtotals w_way b_c0 b_z0 b_c1 b_z1 b_c2 b_z2 b_c3 b_z3 b_c4 b_z4 b_sg s_np s_total s_shares s_pairs s_crowds s_bestWay s_bestWeight s_answer s_mine s_theirs s_people s_heads u9 e10) dX7_takeEmptyPictures_116 ⟨Nat.le_of_ble_eq_true rfl, Nat.le_of_ble_eq_true rfl⟩ ⟨Nat.zero_le _, Nat.zero_le _⟩ rfl rfl (Nat.le_of_ble_eq_true rfl) rfl rfl rfl ?_
              clear e10
              obtain ⟨u11, e12, hf⟩ := cx_bd_at hf
              refine cx_csv (As := [.ref (w_a 10), .int 0, .ref (w_a 10), .int 0, .long u9]) (rest := []) (ws' := (wd_Ways k w_a b_a s_a w_detail w_skipped w_early w_late w_firstOnly w_firstYear w_years w_place w_before w_closing w_likes w_likeSums w_namings w_products u11 w_subtotals w_way ++ (wd_Box k b_a b_c0 b_z0 b_c1 b_z1 b_c2 b_z2 b_c3 b_z3 b_c4 b_z4 b_sg ++ (wd_Sums k s_a s_np s_total s_shares s_pairs s_crowds s_bestWay s_bestWeight s_answer s_mine s_theirs s_people s_heads)))) hA C me_X3_multiply hw_677 (c_X3_multiply_x_e0 l D k (w_a 10) 28 a_1 0 0 u9 u11 e12) dX7_takeEmptyPictures_119 ⟨Nat.le_of_ble_eq_true rfl, Nat.le_of_ble_eq_true rfl⟩ ⟨Nat.zero_le _, Nat.zero_le _⟩ rfl rfl (Nat.le_of_ble_eq_true rfl) [10] rfl (by decide) rfl rfl ?_
              clear e12
              obtain rfl := Option.some.inj hf
              exact cx_vret C hA hQ hr hlk dX7_takeEmptyPictures_122 rfl
      · have hf := cx_if_f hf c3
        clear c3
        refine cx_aload_n C dX7_takeEmptyPictures_16 0 rfl ?_
        refine cx_get (v := .ref (w_a 5)) (ci := 6) C iX7 dX7_takeEmptyPictures_17 0 rfl rfl 11 (by decide) hw_209 rfl ?_
        refine cx_iload_n C dX7_takeEmptyPictures_20 1 rfl ?_
        obtain ⟨g13, hf⟩ := cx_gd_at hf
        refine cx_iald C dX7_takeEmptyPictures_21 5 rfl (cx_ib_in g13) ?_
        clear g13
        refine cx_bipush (v := 6) C dX7_takeEmptyPictures_22 (by decide) ?_
        refine cx_icmp_ne (tgt := 63) C dX7_takeEmptyPictures_24 (by decide) (fun c14 => ?_) (fun c14 => ?_)
        · have hf := cx_if_f hf c14
          clear c14
          exact J63 a_1 hf
        · have hf := cx_if_t hf c14
          clear c14
          refine cx_iload_n C dX7_takeEmptyPictures_27 1 rfl ?_
          refine cx_aload_n C dX7_takeEmptyPictures_28 0 rfl ?_
          refine cx_get (v := .int w_early) (ci := 6) C iX7 dX7_takeEmptyPictures_29 0 rfl rfl 4 (by decide) hw_202 rfl ?_
          refine cx_icmp_eq (tgt := 63) C dX7_takeEmptyPictures_32 (by decide) (fun c16 => ?_) (fun c16 => ?_)
          · have hf := cx_if_t hf c16
            clear c16
            exact J63 a_1 hf
          · have hf := cx_if_f hf c16
            clear c16
            refine cx_iload_n C dX7_takeEmptyPictures_35 1 rfl ?_
            refine cx_aload_n C dX7_takeEmptyPictures_36 0 rfl ?_
            refine cx_get (v := .int w_late) (ci := 6) C iX7 dX7_takeEmptyPictures_37 0 rfl rfl 5 (by decide) hw_203 rfl ?_
            refine cx_icmp_eq (tgt := 63) C dX7_takeEmptyPictures_40 (by decide) (fun c17 => ?_) (fun c17 => ?_)
            · have hf := cx_if_t hf c17
              clear c17
              exact J63 a_1 hf
            · have hf := cx_if_f hf c17
              clear c17
              refine cx_aload_n C dX7_takeEmptyPictures_43 0 rfl ?_
              refine cx_get (v := .ref (w_a 10)) (ci := 6) C iX7 dX7_takeEmptyPictures_44 0 rfl rfl 16 (by decide) hw_214 rfl ?_
              refine cx_iconst (v := 0) C dX7_takeEmptyPictures_47 (by decide) ?_
              refine cx_aload_n C dX7_takeEmptyPictures_48 0 rfl ?_
              refine cx_get (v := .ref (w_a 10)) (ci := 6) C iX7 dX7_takeEmptyPictures_49 0 rfl rfl 16 (by decide) hw_214 rfl ?_
              refine cx_iconst (v := 0) C dX7_takeEmptyPictures_52 (by decide) ?_
              refine cx_aload_n C dX7_takeEmptyPictures_53 0 rfl ?_
              refine cx_get (v := .ref (w_a 2)) (ci := 6) C iX7 dX7_takeEmptyPictures_54 0 rfl rfl 8 (by decide) hw_206 rfl ?_
              refine cx_iload_n C dX7_takeEmptyPictures_57 1 rfl ?_
              obtain ⟨g18, hf⟩ := cx_gd_at hf
              refine cx_iald C dX7_takeEmptyPictures_58 2 rfl (cx_ib_in g18) ?_
              clear g18
              refine cx_i2l C dX7_takeEmptyPictures_59 ?_
              obtain ⟨u19, e20, hf⟩ := cx_bd_at hf
              refine cx_csv (As := [.ref (w_a 10), .int 0, .ref (w_a 10), .int 0, .long (Int32.toInt64 (w_years (cx_ix x1_2)))]) (rest := []) (ws' := (wd_Ways k w_a b_a s_a w_detail w_skipped w_early w_late w_firstOnly w_firstYear w_years w_place w_before w_closing w_likes w_likeSums w_namings w_products u19 w_subtotals w_way ++ (wd_Box k b_a b_c0 b_z0 b_c1 b_z1 b_c2 b_z2 b_c3 b_z3 b_c4 b_z4 b_sg ++ (wd_Sums k s_a s_np s_total s_shares s_pairs s_crowds s_bestWay s_bestWeight s_answer s_mine s_theirs s_people s_heads)))) hA C me_X3_multiply hw_677 (c_X3_multiply_x_e0 l D k (w_a 10) 28 a_1 0 0 (Int32.toInt64 (w_years (cx_ix x1_2))) u19 e20) dX7_takeEmptyPictures_60 ⟨Nat.le_of_ble_eq_true rfl, Nat.le_of_ble_eq_true rfl⟩ ⟨Nat.zero_le _, Nat.zero_le _⟩ rfl rfl (Nat.le_of_ble_eq_true rfl) [10] rfl (by decide) rfl rfl ?_
              clear e20
              exact J63 u19 hf
  unfold f_X7_takeEmptyPictures at hf
  refine cx_iconst (v := 0) C dX7_takeEmptyPictures_0 (by decide) ?_
  refine cx_istore_n (lv' := [(1, .int 0), (0, .ref (w_a 0))]) C dX7_takeEmptyPictures_1 rfl (by decide) rfl ?_
  refine cx_lv [1, 0] rfl ?_
  exact L2 cx_N0 w_weights 0 hf
