theorem dX7_descend_0 : decode cX7_descend 0 = .ok (.iload_n 1, 1) := by decide +kernel
theorem dX7_descend_1 : decode cX7_descend 1 = .ok (.aload_n 0, 1) := by decide +kernel
theorem dX7_descend_2 : decode cX7_descend 2 = .ok (.getfield 68, 3) := by decide +kernel
theorem dX7_descend_5 : decode cX7_descend 5 = .ok (.getfield 109, 3) := by decide +kernel
theorem dX7_descend_8 : decode cX7_descend 8 = .ok (.getfield 88, 3) := by decide +kernel
theorem dX7_descend_11 : decode cX7_descend 11 = .ok (.if_icmp .lt 44, 3) := by decide +kernel
theorem dX7_descend_14 : decode cX7_descend 14 = .ok (.aload_n 0, 1) := by decide +kernel
theorem dX7_descend_15 : decode cX7_descend 15 = .ok (.getfield 62, 3) := by decide +kernel
theorem dX7_descend_18 : decode cX7_descend 18 = .ok (.iload_n 1, 1) := by decide +kernel
theorem dX7_descend_19 : decode cX7_descend 19 = .ok (.aload_n 0, 1) := by decide +kernel
theorem dX7_descend_20 : decode cX7_descend 20 = .ok (.getfield 59, 3) := by decide +kernel
theorem dX7_descend_23 : decode cX7_descend 23 = .ok (.iload_n 1, 1) := by decide +kernel
theorem dX7_descend_24 : decode cX7_descend 24 = .ok (.invokestatic 174, 3) := by decide +kernel
theorem dX7_descend_27 : decode cX7_descend 27 = .ok (.aload_n 0, 1) := by decide +kernel
theorem dX7_descend_28 : decode cX7_descend 28 = .ok (.getfield 9, 3) := by decide +kernel
theorem dX7_descend_31 : decode cX7_descend 31 = .ok (.ifCond .le 23, 3) := by decide +kernel
theorem dX7_descend_34 : decode cX7_descend 34 = .ok (.aload_n 0, 1) := by decide +kernel
theorem dX7_descend_35 : decode cX7_descend 35 = .ok (.getfield 72, 3) := by decide +kernel
theorem dX7_descend_38 : decode cX7_descend 38 = .ok (.aload_n 0, 1) := by decide +kernel
theorem dX7_descend_39 : decode cX7_descend 39 = .ok (.getfield 65, 3) := by decide +kernel
theorem dX7_descend_42 : decode cX7_descend 42 = .ok (.iload_n 2, 1) := by decide +kernel
theorem dX7_descend_43 : decode cX7_descend 43 = .ok (.bipush 31, 2) := by decide +kernel
theorem dX7_descend_45 : decode cX7_descend 45 = .ok (.iand, 1) := by decide +kernel
theorem dX7_descend_46 : decode cX7_descend 46 = .ok (.aload_n 0, 1) := by decide +kernel
theorem dX7_descend_47 : decode cX7_descend 47 = .ok (.getfield 59, 3) := by decide +kernel
theorem dX7_descend_50 : decode cX7_descend 50 = .ok (.iload_n 1, 1) := by decide +kernel
theorem dX7_descend_51 : decode cX7_descend 51 = .ok (.invokevirtual 178, 3) := by decide +kernel
theorem dX7_descend_54 : decode cX7_descend 54 = .ok (.return_, 1) := by decide +kernel
theorem dX7_descend_55 : decode cX7_descend 55 = .ok (.aload_n 0, 1) := by decide +kernel
theorem dX7_descend_56 : decode cX7_descend 56 = .ok (.getfield 62, 3) := by decide +kernel
theorem dX7_descend_59 : decode cX7_descend 59 = .ok (.iload_n 1, 1) := by decide +kernel
theorem dX7_descend_60 : decode cX7_descend 60 = .ok (.invokestatic 182, 3) := by decide +kernel
theorem dX7_descend_63 : decode cX7_descend 63 = .ok (.iconst 0, 1) := by decide +kernel
theorem dX7_descend_64 : decode cX7_descend 64 = .ok (.istore_n 3, 1) := by decide +kernel
theorem dX7_descend_65 : decode cX7_descend 65 = .ok (.iload_n 3, 1) := by decide +kernel
theorem dX7_descend_66 : decode cX7_descend 66 = .ok (.aload_n 0, 1) := by decide +kernel
theorem dX7_descend_67 : decode cX7_descend 67 = .ok (.getfield 68, 3) := by decide +kernel
theorem dX7_descend_70 : decode cX7_descend 70 = .ok (.getfield 106, 3) := by decide +kernel
theorem dX7_descend_73 : decode cX7_descend 73 = .ok (.getfield 88, 3) := by decide +kernel
theorem dX7_descend_76 : decode cX7_descend 76 = .ok (.if_icmp .gt 82, 3) := by decide +kernel
theorem dX7_descend_79 : decode cX7_descend 79 = .ok (.iload_n 3, 1) := by decide +kernel
theorem dX7_descend_80 : decode cX7_descend 80 = .ok (.aload_n 0, 1) := by decide +kernel
theorem dX7_descend_81 : decode cX7_descend 81 = .ok (.getfield 68, 3) := by decide +kernel
theorem dX7_descend_84 : decode cX7_descend 84 = .ok (.getfield 106, 3) := by decide +kernel
theorem dX7_descend_87 : decode cX7_descend 87 = .ok (.getfield 88, 3) := by decide +kernel
theorem dX7_descend_90 : decode cX7_descend 90 = .ok (.invokestatic 121, 3) := by decide +kernel
theorem dX7_descend_93 : decode cX7_descend 93 = .ok (.istore 4, 2) := by decide +kernel
theorem dX7_descend_95 : decode cX7_descend 95 = .ok (.aload_n 0, 1) := by decide +kernel
theorem dX7_descend_96 : decode cX7_descend 96 = .ok (.iload_n 1, 1) := by decide +kernel
theorem dX7_descend_97 : decode cX7_descend 97 = .ok (.iload 4, 2) := by decide +kernel
theorem dX7_descend_99 : decode cX7_descend 99 = .ok (.invokevirtual 185, 3) := by decide +kernel
theorem dX7_descend_102 : decode cX7_descend 102 = .ok (.ifCond .eq 50, 3) := by decide +kernel
theorem dX7_descend_105 : decode cX7_descend 105 = .ok (.aload_n 0, 1) := by decide +kernel
theorem dX7_descend_106 : decode cX7_descend 106 = .ok (.getfield 65, 3) := by decide +kernel
theorem dX7_descend_109 : decode cX7_descend 109 = .ok (.iload_n 1, 1) := by decide +kernel
theorem dX7_descend_110 : decode cX7_descend 110 = .ok (.iload 4, 2) := by decide +kernel
theorem dX7_descend_112 : decode cX7_descend 112 = .ok (.iastore, 1) := by decide +kernel
theorem dX7_descend_113 : decode cX7_descend 113 = .ok (.aload_n 0, 1) := by decide +kernel
theorem dX7_descend_114 : decode cX7_descend 114 = .ok (.iload_n 1, 1) := by decide +kernel
theorem dX7_descend_115 : decode cX7_descend 115 = .ok (.iconst 1, 1) := by decide +kernel
theorem dX7_descend_116 : decode cX7_descend 116 = .ok (.iadd, 1) := by decide +kernel
theorem dX7_descend_117 : decode cX7_descend 117 = .ok (.iload_n 2, 1) := by decide +kernel
theorem dX7_descend_118 : decode cX7_descend 118 = .ok (.iconst 1, 1) := by decide +kernel
theorem dX7_descend_119 : decode cX7_descend 119 = .ok (.iload 4, 2) := by decide +kernel
theorem dX7_descend_121 : decode cX7_descend 121 = .ok (.ishl, 1) := by decide +kernel
theorem dX7_descend_122 : decode cX7_descend 122 = .ok (.ior, 1) := by decide +kernel
theorem dX7_descend_123 : decode cX7_descend 123 = .ok (.invokevirtual 138, 3) := by decide +kernel
theorem dX7_descend_126 : decode cX7_descend 126 = .ok (.aload_n 0, 1) := by decide +kernel
theorem dX7_descend_127 : decode cX7_descend 127 = .ok (.iload_n 1, 1) := by decide +kernel
theorem dX7_descend_128 : decode cX7_descend 128 = .ok (.iload 4, 2) := by decide +kernel
theorem dX7_descend_130 : decode cX7_descend 130 = .ok (.invokevirtual 188, 3) := by decide +kernel
theorem dX7_descend_133 : decode cX7_descend 133 = .ok (.aload_n 0, 1) := by decide +kernel
theorem dX7_descend_134 : decode cX7_descend 134 = .ok (.getfield 24, 3) := by decide +kernel
theorem dX7_descend_137 : decode cX7_descend 137 = .ok (.ifCond .eq 15, 3) := by decide +kernel
theorem dX7_descend_140 : decode cX7_descend 140 = .ok (.aload_n 0, 1) := by decide +kernel
theorem dX7_descend_141 : decode cX7_descend 141 = .ok (.getfield 62, 3) := by decide +kernel
theorem dX7_descend_144 : decode cX7_descend 144 = .ok (.iload_n 1, 1) := by decide +kernel
theorem dX7_descend_145 : decode cX7_descend 145 = .ok (.invokestatic 191, 3) := by decide +kernel
theorem dX7_descend_148 : decode cX7_descend 148 = .ok (.ifCond .ne 4, 3) := by decide +kernel
theorem dX7_descend_151 : decode cX7_descend 151 = .ok (.return_, 1) := by decide +kernel
theorem dX7_descend_152 : decode cX7_descend 152 = .ok (.iinc 3 1, 3) := by decide +kernel
theorem dX7_descend_155 : decode cX7_descend 155 = .ok (.goto (-90), 3) := by decide +kernel
theorem dX7_descend_158 : decode cX7_descend 158 = .ok (.return_, 1) := by decide +kernel
theorem me_X7_descend : cx_Mv yX7_descend cX7_descend 5 none 2 := ⟨⟨⟨by decide +kernel, by decide +kernel, by decide +kernel⟩, hw_7, hw_688⟩, hw_687, hs_16⟩
noncomputable def f_X7_descend_J152 (x3_13 : Int32) (rc65 : (Nat → Int64) → (Nat → Int64) → (Nat → Int64) → (Nat → Int32) → (Nat → Int64) → (Nat → Int64) → (Nat → Int64) → (Nat → Int32) → (Nat → Int64) → Int32 → Option ((Nat → Int64) × (Nat → Int64) × (Nat → Int64) × (Nat → Int32) × (Nat → Int64) × (Nat → Int64) × (Nat → Int64) × (Nat → Int32) × (Nat → Int64))) (a_20 : Nat → Int64) (a_21 : Nat → Int64) (a_22 : Nat → Int64) (a_23 : Nat → Int32) (a_24 : Nat → Int64) (a_25 : Nat → Int64) (a_26 : Nat → Int64) (a_27 : Nat → Int32) (a_28 : Nat → Int64) : Option ((Nat → Int64) × (Nat → Int64) × (Nat → Int64) × (Nat → Int32) × (Nat → Int64) × (Nat → Int64) × (Nat → Int64) × (Nat → Int32) × (Nat → Int64)) := rc65 a_20 a_21 a_22 a_23 a_24 a_25 a_26 a_27 a_28 (x3_13 + 1)
noncomputable def f_X7_descend_L65 (w_detail : Int32) (w_early : Int32) (w_late : Int32) (w_firstOnly : Int32) (w_firstYear : Nat → Int32) (w_years : Nat → Int32) (w_place : Nat → Int32) (w_before : Nat → Int32) (w_closing : Nat → Int32) (w_likes : Nat → Int32) (w_likeSums : Nat → Int32) (w_namings : Nat → Int32) (b_z0 : Int32) (b_c4 : Nat → Int32) (b_z4 : Int32) (s_np : Nat) (p1 : Int32) (p2 : Int32) (rcS : (Nat → Int64) → (Nat → Int64) → (Nat → Int64) → (Nat → Int32) → (Nat → Int64) → (Nat → Int64) → (Nat → Int64) → (Nat → Int32) → (Nat → Int64) → Int32 → Int32 → Option ((Nat → Int64) × (Nat → Int64) × (Nat → Int64) × (Nat → Int32) × (Nat → Int64) × (Nat → Int64) × (Nat → Int64) × (Nat → Int32) × (Nat → Int64))) (rc65 : (Nat → Int64) → (Nat → Int64) → (Nat → Int64) → (Nat → Int32) → (Nat → Int64) → (Nat → Int64) → (Nat → Int64) → (Nat → Int32) → (Nat → Int64) → Int32 → Option ((Nat → Int64) × (Nat → Int64) × (Nat → Int64) × (Nat → Int32) × (Nat → Int64) × (Nat → Int64) × (Nat → Int64) × (Nat → Int32) × (Nat → Int64))) (a_4 : Nat → Int64) (a_5 : Nat → Int64) (a_6 : Nat → Int64) (a_7 : Nat → Int32) (a_8 : Nat → Int64) (a_9 : Nat → Int64) (a_10 : Nat → Int64) (a_11 : Nat → Int32) (a_12 : Nat → Int64) (x3_13 : Int32) : Option ((Nat → Int64) × (Nat → Int64) × (Nat → Int64) × (Nat → Int32) × (Nat → Int64) × (Nat → Int64) × (Nat → Int64) × (Nat → Int32) × (Nat → Int64)) := if b_z0 < x3_13 then (some ((a_4, a_5, a_6, a_7, a_8, a_9, a_10, a_11, a_12))) else (Option.bind (f_X8_whoAt x3_13 b_z0) (fun u15 => Option.bind (f_X7_goesOn w_early w_late w_firstYear w_years w_place w_before w_closing w_likes w_likeSums w_namings a_4 a_5 a_7 b_c4 b_z4 p1 u15) (fun u17 => if u17.1 = 0 then (f_X7_descend_J152 x3_13 rc65 u17.2.1 u17.2.2 a_6 a_7 a_8 a_9 a_10 a_11 a_12) else (cx_gd (cx_ib p1 6) (cx_let (upd a_7 (cx_ix p1) u15) (fun a30 => Option.bind (rcS u17.2.1 u17.2.2 a_6 a30 a_8 a_9 a_10 a_11 a_12 (p1 + 1) (p2 ||| (1 <<< (u15 &&& 31)))) (fun u31 => Option.bind (f_X7_gather w_detail u31.2.2.1 u31.2.2.2.1 s_np u31.2.2.2.2.1 u31.2.2.2.2.2.1 p1 u15) (fun u33 => if w_firstOnly = 0 then (f_X7_descend_J152 x3_13 rc65 u31.1 u31.2.1 u33.1 u31.2.2.2.1 u33.2.1 u33.2.2 u31.2.2.2.2.2.2.1 u31.2.2.2.2.2.2.2.1 u31.2.2.2.2.2.2.2.2) else (Option.bind (f_X3_isZero 28 u33.1 p1) (fun u36 => if u36 = 0 then (some ((u31.1, u31.2.1, u33.1, u31.2.2.2.1, u33.2.1, u33.2.2, u31.2.2.2.2.2.2.1, u31.2.2.2.2.2.2.2.1, u31.2.2.2.2.2.2.2.2))) else (f_X7_descend_J152 x3_13 rc65 u31.1 u31.2.1 u33.1 u31.2.2.2.1 u33.2.1 u33.2.2 u31.2.2.2.2.2.2.1 u31.2.2.2.2.2.2.2.1 u31.2.2.2.2.2.2.2.2)))))))))))
noncomputable def f_X7_descend_L65w (w_detail : Int32) (w_early : Int32) (w_late : Int32) (w_firstOnly : Int32) (w_firstYear : Nat → Int32) (w_years : Nat → Int32) (w_place : Nat → Int32) (w_before : Nat → Int32) (w_closing : Nat → Int32) (w_likes : Nat → Int32) (w_likeSums : Nat → Int32) (w_namings : Nat → Int32) (b_z0 : Int32) (b_c4 : Nat → Int32) (b_z4 : Int32) (s_np : Nat) (p1 : Int32) (p2 : Int32) (rcS : (Nat → Int64) → (Nat → Int64) → (Nat → Int64) → (Nat → Int32) → (Nat → Int64) → (Nat → Int64) → (Nat → Int64) → (Nat → Int32) → (Nat → Int64) → Int32 → Int32 → Option ((Nat → Int64) × (Nat → Int64) × (Nat → Int64) × (Nat → Int32) × (Nat → Int64) × (Nat → Int64) × (Nat → Int64) × (Nat → Int32) × (Nat → Int64))) (n : Nat) : (Nat → Int64) → (Nat → Int64) → (Nat → Int64) → (Nat → Int32) → (Nat → Int64) → (Nat → Int64) → (Nat → Int64) → (Nat → Int32) → (Nat → Int64) → Int32 → Option ((Nat → Int64) × (Nat → Int64) × (Nat → Int64) × (Nat → Int32) × (Nat → Int64) × (Nat → Int64) × (Nat → Int64) × (Nat → Int32) × (Nat → Int64)) := Nat.rec (fun _ _ _ _ _ _ _ _ _ _ => none) (fun _ r => f_X7_descend_L65 w_detail w_early w_late w_firstOnly w_firstYear w_years w_place w_before w_closing w_likes w_likeSums w_namings b_z0 b_c4 b_z4 s_np p1 p2 rcS r) n
noncomputable def f_X7_descend_B (w_detail : Int32) (w_early : Int32) (w_late : Int32) (w_firstOnly : Int32) (w_firstYear : Nat → Int32) (w_years : Nat → Int32) (w_place : Nat → Int32) (w_before : Nat → Int32) (w_closing : Nat → Int32) (w_likes : Nat → Int32) (w_likeSums : Nat → Int32) (w_namings : Nat → Int32) (b_z0 : Int32) (b_z2 : Int32) (b_c4 : Nat → Int32) (b_z4 : Int32) (s_np : Nat) (rcS : (Nat → Int64) → (Nat → Int64) → (Nat → Int64) → (Nat → Int32) → (Nat → Int64) → (Nat → Int64) → (Nat → Int64) → (Nat → Int32) → (Nat → Int64) → Int32 → Int32 → Option ((Nat → Int64) × (Nat → Int64) × (Nat → Int64) × (Nat → Int32) × (Nat → Int64) × (Nat → Int64) × (Nat → Int64) × (Nat → Int32) × (Nat → Int64))) (w_products : Nat → Int64) (w_weights : Nat → Int64) (w_subtotals : Nat → Int64) (w_way : Nat → Int32) (s_shares : Nat → Int64) (s_pairs : Nat → Int64) (s_crowds : Nat → Int64) (s_bestWay : Nat → Int32) (s_bestWeight : Nat → Int64) (p1 : Int32) (p2 : Int32) : Option ((Nat → Int64) × (Nat → Int64) × (Nat → Int64) × (Nat → Int32) × (Nat → Int64) × (Nat → Int64) × (Nat → Int64) × (Nat → Int32) × (Nat → Int64)) := if p1 < b_z2 then (Option.bind (f_X3_zero 28 w_subtotals p1) (fun u2 => f_X7_descend_L65w w_detail w_early w_late w_firstOnly w_firstYear w_years w_place w_before w_closing w_likes w_likeSums w_namings b_z0 b_c4 b_z4 s_np p1 p2 rcS cx_N0 w_products w_weights u2 w_way s_shares s_pairs s_crowds s_bestWay s_bestWeight 0)) else (Option.bind (f_X3_copy 28 w_subtotals p1 28 w_weights p1) (fun u39 => if w_detail ≤ 0 then (some ((w_products, w_weights, u39, w_way, s_shares, s_pairs, s_crowds, s_bestWay, s_bestWeight))) else (Option.bind (f_X5_addWay s_crowds s_bestWay s_bestWeight 6 w_way (p2 &&& 31) 28 w_weights p1) (fun u42 => some ((w_products, w_weights, u39, w_way, s_shares, s_pairs, u42.1, u42.2.1, u42.2.2))))))
noncomputable def f_X7_descend (w_detail : Int32) (w_early : Int32) (w_late : Int32) (w_firstOnly : Int32) (w_firstYear : Nat → Int32) (w_years : Nat → Int32) (w_place : Nat → Int32) (w_before : Nat → Int32) (w_closing : Nat → Int32) (w_likes : Nat → Int32) (w_likeSums : Nat → Int32) (w_namings : Nat → Int32) (b_z0 : Int32) (b_z2 : Int32) (b_c4 : Nat → Int32) (b_z4 : Int32) (s_np : Nat) (n : Nat) : (Nat → Int64) → (Nat → Int64) → (Nat → Int64) → (Nat → Int32) → (Nat → Int64) → (Nat → Int64) → (Nat → Int64) → (Nat → Int32) → (Nat → Int64) → Int32 → Int32 → Option ((Nat → Int64) × (Nat → Int64) × (Nat → Int64) × (Nat → Int32) × (Nat → Int64) × (Nat → Int64) × (Nat → Int64) × (Nat → Int32) × (Nat → Int64)) := Nat.rec (fun _ _ _ _ _ _ _ _ _ _ _ => none) (fun _ r => f_X7_descend_B w_detail w_early w_late w_firstOnly w_firstYear w_years w_place w_before w_closing w_likes w_likeSums w_namings b_z0 b_z2 b_c4 b_z4 s_np r) n
set_option maxHeartbeats 4000000 in
set_option maxRecDepth 100000 in
theorem c_X7_descend (l : Launch) (D : va_G) (k : Nat → ClassId) (w_a : Nat → Nat) (b_a : Nat → Nat) (s_a : Nat → Nat) (w_detail : Int32) (w_skipped : Int32) (w_early : Int32) (w_late : Int32) (w_firstOnly : Int32) (w_firstYear : Nat → Int32) (w_years : Nat → Int32) (w_place : Nat → Int32) (w_before : Nat → Int32) (w_closing : Nat → Int32) (w_likes : Nat → Int32) (w_likeSums : Nat → Int32) (w_namings : Nat → Int32) (b_c0 : Nat → Int32) (b_z0 : Int32) (b_c1 : Nat → Int32) (b_z1 : Int32) (b_c2 : Nat → Int32) (b_z2 : Int32) (b_c3 : Nat → Int32) (b_z3 : Int32) (b_c4 : Nat → Int32) (b_z4 : Int32) (b_sg : Int32) (s_np : Nat) (s_total : Nat → Int64) (s_answer : Nat → Int64) (s_mine : Nat → Int64) (s_theirs : Nat → Int64) (s_people : Int32) (s_heads : Int32) (nS : Nat) : ∀ (w_products : Nat → Int64) (w_weights : Nat → Int64) (w_subtotals : Nat → Int64) (w_way : Nat → Int32) (s_shares : Nat → Int64) (s_pairs : Nat → Int64) (s_crowds : Nat → Int64) (s_bestWay : Nat → Int32) (s_bestWeight : Nat → Int64) (p1 : Int32) (p2 : Int32) (y : (Nat → Int64) × (Nat → Int64) × (Nat → Int64) × (Nat → Int32) × (Nat → Int64) × (Nat → Int64) × (Nat → Int64) × (Nat → Int32) × (Nat → Int64)), f_X7_descend w_detail w_early w_late w_firstOnly w_firstYear w_years w_place w_before w_closing w_likes w_likeSums w_namings b_z0 b_z2 b_c4 b_z4 s_np nS w_products w_weights w_subtotals w_way s_shares s_pairs s_crowds s_bestWay s_bestWeight p1 p2 = some y → cx_M l yX7_descend cX7_descend 5 none (4 + nS) D k [.ref (w_a 0), .int p1, .int p2] (wd_Ways k w_a b_a s_a w_detail w_skipped w_early w_late w_firstOnly w_firstYear w_years w_place w_before w_closing w_likes w_likeSums w_namings w_products w_weights w_subtotals w_way ++ (wd_Box k b_a b_c0 b_z0 b_c1 b_z1 b_c2 b_z2 b_c3 b_z3 b_c4 b_z4 b_sg ++ (wd_Sums k s_a s_np s_total s_shares s_pairs s_crowds s_bestWay s_bestWeight s_answer s_mine s_theirs s_people s_heads))) (fun sz => cx_Qv D (wd_Ways k w_a b_a s_a w_detail w_skipped w_early w_late w_firstOnly w_firstYear w_years w_place w_before w_closing w_likes w_likeSums w_namings w_products w_weights w_subtotals w_way ++ (wd_Box k b_a b_c0 b_z0 b_c1 b_z1 b_c2 b_z2 b_c3 b_z3 b_c4 b_z4 b_sg ++ (wd_Sums k s_a s_np s_total s_shares s_pairs s_crowds s_bestWay s_bestWeight s_answer s_mine s_theirs s_people s_heads))) (wd_Ways k w_a b_a s_a w_detail w_skipped w_early w_late w_firstOnly w_firstYear w_years w_place w_before w_closing w_likes w_likeSums w_namings y.1 y.2.1 y.2.2.1 y.2.2.2.1 ++ (wd_Box k b_a b_c0 b_z0 b_c1 b_z1 b_c2 b_z2 b_c3 b_z3 b_c4 b_z4 b_sg ++ (wd_Sums k s_a s_np s_total y.2.2.2.2.1 y.2.2.2.2.2.1 y.2.2.2.2.2.2.1 y.2.2.2.2.2.2.2.1 y.2.2.2.2.2.2.2.2 s_answer s_mine s_theirs s_people s_heads))) sz) := by
  induction nS with
  | zero =>
    intro w_products w_weights w_subtotals w_way s_shares s_pairs s_crowds s_bestWay s_bestWeight p1 p2 y hf
    exact absurd (show (none : Option ((Nat → Int64) × (Nat → Int64) × (Nat → Int64) × (Nat → Int32) × (Nat → Int64) × (Nat → Int64) × (Nat → Int64) × (Nat → Int32) × (Nat → Int64))) = some y from hf) (fun h => by cases h)
  | succ nS ihS =>
    intro w_products w_weights w_subtotals w_way s_shares s_pairs s_crowds s_bestWay s_bestWeight p1 p2 y hf
    have hf : f_X7_descend_B w_detail w_early w_late w_firstOnly w_firstYear w_years w_place w_before w_closing w_likes w_likeSums w_namings b_z0 b_z2 b_c4 b_z4 s_np (f_X7_descend w_detail w_early w_late w_firstOnly w_firstYear w_years w_place w_before w_closing w_likes w_likeSums w_namings b_z0 b_z2 b_c4 b_z4 s_np nS) w_products w_weights w_subtotals w_way s_shares s_pairs s_crowds s_bestWay s_bestWeight p1 p2 = some y := hf
    refine cx_met (own := "NamelessBox$Ways") (by decide) rfl (Nat.le_of_ble_eq_true rfl) ?_
    intro p e s m args below meth c A Q C hA hQ hr hlk
    refine cx_lv (lv' := [(0, .ref (w_a 0)), (1, .int p1), (2, .int p2)]) [0, 1, 2] rfl ?_
    have L65 : ∀ (n65 : Nat) (a_4 : Nat → Int64) (a_5 : Nat → Int64) (a_6 : Nat → Int64) (a_7 : Nat → Int32) (a_8 : Nat → Int64) (a_9 : Nat → Int64) (a_10 : Nat → Int64) (a_11 : Nat → Int32) (a_12 : Nat → Int64) (x3_13 : Int32), f_X7_descend_L65w w_detail w_early w_late w_firstOnly w_firstYear w_years w_place w_before w_closing w_likes w_likeSums w_namings b_z0 b_c4 b_z4 s_np p1 p2 (f_X7_descend w_detail w_early w_late w_firstOnly w_firstYear w_years w_place w_before w_closing w_likes w_likeSums w_namings b_z0 b_z2 b_c4 b_z4 s_np nS) n65 a_4 a_5 a_6 a_7 a_8 a_9 a_10 a_11 a_12 x3_13 = some y → cx_S p l e (cx_rm (4 + (nS + 1))) s m args below meth c A D 5 0 0 Q 65 [(0, .ref (w_a 0)), (1, .int p1), (2, .int p2), (3, .int x3_13)] [] (wd_Ways k w_a b_a s_a w_detail w_skipped w_early w_late w_firstOnly w_firstYear w_years w_place w_before w_closing w_likes w_likeSums w_namings a_4 a_5 a_6 a_7 ++ (wd_Box k b_a b_c0 b_z0 b_c1 b_z1 b_c2 b_z2 b_c3 b_z3 b_c4 b_z4 b_sg ++ (wd_Sums k s_a s_np s_total a_8 a_9 a_10 a_11 a_12 s_answer s_mine s_theirs s_people s_heads))) := by
      intro  n65
      induction n65 with
      | zero =>
        intro a_4 a_5 a_6 a_7 a_8 a_9 a_10 a_11 a_12 x3_13 hf
        exact absurd (show (none : Option ((Nat → Int64) × (Nat → Int64) × (Nat → Int64) × (Nat → Int32) × (Nat → Int64) × (Nat → Int64) × (Nat → Int64) × (Nat → Int32) × (Nat → Int64))) = some y from hf) (fun h => by cases h)
      | succ n65 ih65 =>
        intro a_4 a_5 a_6 a_7 a_8 a_9 a_10 a_11 a_12 x3_13 hf
        have hf : f_X7_descend_L65 w_detail w_early w_late w_firstOnly w_firstYear w_years w_place w_before w_closing w_likes w_likeSums w_namings b_z0 b_c4 b_z4 s_np p1 p2 (f_X7_descend w_detail w_early w_late w_firstOnly w_firstYear w_years w_place w_before w_closing w_likes w_likeSums w_namings b_z0 b_z2 b_c4 b_z4 s_np nS) (f_X7_descend_L65w w_detail w_early w_late w_firstOnly w_firstYear w_years w_place w_before w_closing w_likes w_likeSums w_namings b_z0 b_c4 b_z4 s_np p1 p2 (f_X7_descend w_detail w_early w_late w_firstOnly w_firstYear w_years w_place w_before w_closing w_likes w_likeSums w_namings b_z0 b_z2 b_c4 b_z4 s_np nS) n65) a_4 a_5 a_6 a_7 a_8 a_9 a_10 a_11 a_12 x3_13 = some y := hf
        have J152 : ∀ (a_20 : Nat → Int64) (a_21 : Nat → Int64) (a_22 : Nat → Int64) (a_23 : Nat → Int32) (a_24 : Nat → Int64) (a_25 : Nat → Int64) (a_26 : Nat → Int64) (a_27 : Nat → Int32) (a_28 : Nat → Int64), f_X7_descend_J152 x3_13 (f_X7_descend_L65w w_detail w_early w_late w_firstOnly w_firstYear w_years w_place w_before w_closing w_likes w_likeSums w_namings b_z0 b_c4 b_z4 s_np p1 p2 (f_X7_descend w_detail w_early w_late w_firstOnly w_firstYear w_years w_place w_before w_closing w_likes w_likeSums w_namings b_z0 b_z2 b_c4 b_z4 s_np nS) n65) a_20 a_21 a_22 a_23 a_24 a_25 a_26 a_27 a_28 = some y → cx_S p l e (cx_rm (4 + (nS + 1))) s m args below meth c A D 5 0 0 Q 152 [(0, .ref (w_a 0)), (1, .int p1), (2, .int p2), (3, .int x3_13)] [] (wd_Ways k w_a b_a s_a w_detail w_skipped w_early w_late w_firstOnly w_firstYear w_years w_place w_before w_closing w_likes w_likeSums w_namings a_20 a_21 a_22 a_23 ++ (wd_Box k b_a b_c0 b_z0 b_c1 b_z1 b_c2 b_z2 b_c3 b_z3 b_c4 b_z4 b_sg ++ (wd_Sums k s_a s_np s_total a_24 a_25 a_26 a_27 a_28 s_answer s_mine s_theirs s_people s_heads))) := by
          intro a_20 a_21 a_22 a_23 a_24 a_25 a_26 a_27 a_28 hf
          unfold f_X7_descend_J152 at hf
          refine cx_iinc (v := x3_13 + 1) (lv' := [(3, .int (x3_13 + 1)), (0, .ref (w_a 0)), (1, .int p1), (2, .int p2)]) C dX7_descend_152 3 rfl rfl (by decide) rfl ?_
          refine cx_goto (tgt := 65) C dX7_descend_155 (by decide) ?_
          refine cx_lv [1, 2, 3, 0] rfl ?_
          exact ih65 a_20 a_21 a_22 a_23 a_24 a_25 a_26 a_27 a_28 (x3_13 + 1) hf
        unfold f_X7_descend_L65 at hf
        refine cx_iload_n C dX7_descend_65 3 rfl ?_
        refine cx_aload_n C dX7_descend_66 0 rfl ?_
        refine cx_get (v := .ref (b_a 0)) (ci := 6) C iX7 dX7_descend_67 0 rfl rfl 1 (by decide) hw_199 rfl ?_
        refine cx_get (v := .ref (b_a 1)) (ci := 1) C iX1 dX7_descend_70 13 rfl rfl 0 (by decide) hw_62 rfl ?_
        refine cx_get (v := .int b_z0) (ci := 3) C iX4 dX7_descend_73 14 rfl rfl 3 (by decide) hw_48 rfl ?_
        refine cx_icmp_gt (tgt := 158) C dX7_descend_76 (by decide) (fun c14 => ?_) (fun c14 => ?_)
        · have hf := cx_if_t hf c14
          clear c14
          obtain rfl := Option.some.inj hf
          exact cx_vret C hA hQ hr hlk dX7_descend_158 rfl
        · have hf := cx_if_f hf c14
          clear c14
          refine cx_iload_n C dX7_descend_79 3 rfl ?_
          refine cx_aload_n C dX7_descend_80 0 rfl ?_
          refine cx_get (v := .ref (b_a 0)) (ci := 6) C iX7 dX7_descend_81 0 rfl rfl 1 (by decide) hw_199 rfl ?_
          refine cx_get (v := .ref (b_a 1)) (ci := 1) C iX1 dX7_descend_84 13 rfl rfl 0 (by decide) hw_62 rfl ?_
          refine cx_get (v := .int b_z0) (ci := 3) C iX4 dX7_descend_87 14 rfl rfl 3 (by decide) hw_48 rfl ?_
          obtain ⟨u15, e16, hf⟩ := cx_bd_at hf
          refine cx_Kni (As := [.int x3_13, .int b_z0]) (rest := []) hA C me_X8_whoAt (fun h => h.2.2.2.2.1) (c_X8_whoAt l D k x3_13 b_z0 u15 e16) dX7_descend_90 (by simp only [cx_rm]; omega) ⟨Nat.zero_le _, Nat.zero_le _⟩ rfl rfl (Nat.le_of_ble_eq_true rfl) [] rfl (by decide) ?_
          clear e16
          refine cx_istore (lv' := [(4, .int u15), (0, .ref (w_a 0)), (1, .int p1), (2, .int p2), (3, .int x3_13)]) C dX7_descend_93 (by decide) rfl ?_
          refine cx_aload_n C dX7_descend_95 1 rfl ?_
          refine cx_iload_n C dX7_descend_96 2 rfl ?_
          refine cx_iload C dX7_descend_97 0 rfl ?_
          obtain ⟨u17, e18, hf⟩ := cx_bd_at hf
          refine cx_Fvi (q := (RX7, TX7, 19)) (As := [.int p1, .int u15]) (rest := []) (w1 := (wd_Ways k w_a b_a s_a w_detail w_skipped w_early w_late w_firstOnly w_firstYear w_years w_place w_before w_closing w_likes w_likeSums w_namings u17.2.1 u17.2.2 a_6 a_7 ++ (wd_Box k b_a b_c0 b_z0 b_c1 b_z1 b_c2 b_z2 b_c3 b_z3 b_c4 b_z4 b_sg ++ (wd_Sums k s_a s_np s_total a_8 a_9 a_10 a_11 a_12 s_answer s_mine s_theirs s_people s_heads)))) hA C me_X7_goesOn hw_709 (c_X7_goesOn l D k w_a b_a s_a w_detail w_skipped w_early w_late w_firstOnly w_firstYear w_years w_place w_before w_closing w_likes w_likeSums w_namings a_4 a_5 a_6 a_7 b_c0 b_z0 b_c1 b_z1 b_c2 b_z2 b_c3 b_z3 b_c4 b_z4 b_sg s_np s_total a_8 a_9 a_10 a_11 a_12 s_answer s_mine s_theirs s_people s_heads p1 u15 u17 e18) dX7_descend_99 (by simp only [cx_rm]; omega) ⟨Nat.zero_le _, Nat.zero_le _⟩ rfl rfl (Nat.le_of_ble_eq_true rfl) rfl rfl rfl ?_
          clear e18
          refine cx_if_eq (tgt := 152) C dX7_descend_102 (by decide) (fun c19 => ?_) (fun c19 => ?_)
          · have hf := cx_if_t hf c19
            clear c19
            refine cx_lv [1, 2, 3, 4] rfl ?_
            exact J152 u17.2.1 u17.2.2 a_6 a_7 a_8 a_9 a_10 a_11 a_12 hf
          · have hf := cx_if_f hf c19
            clear c19
            refine cx_aload_n C dX7_descend_105 1 rfl ?_
            refine cx_get (v := .ref (w_a 12)) (ci := 6) C iX7 dX7_descend_106 0 rfl rfl 18 (by decide) hw_216 rfl ?_
            refine cx_iload_n C dX7_descend_109 2 rfl ?_
            refine cx_iload C dX7_descend_110 0 rfl ?_
            obtain ⟨g29, hf⟩ := cx_gd_at hf
            obtain ⟨a30, ea30⟩ : ∃ z, z = upd a_7 (cx_ix p1) u15 := ⟨_, rfl⟩
            have hf := cx_let_at hf ea30
            refine cx_iast (ws' := (wd_Ways k w_a b_a s_a w_detail w_skipped w_early w_late w_firstOnly w_firstYear w_years w_place w_before w_closing w_likes w_likeSums w_namings u17.2.1 u17.2.2 a_6 a30 ++ (wd_Box k b_a b_c0 b_z0 b_c1 b_z1 b_c2 b_z2 b_c3 b_z3 b_c4 b_z4 b_sg ++ (wd_Sums k s_a s_np s_total a_8 a_9 a_10 a_11 a_12 s_answer s_mine s_theirs s_people s_heads)))) C dX7_descend_112 12 rfl (cx_ib_in g29) (by rw [ea30]; rfl) ?_
            clear ea30 g29
            refine cx_aload_n C dX7_descend_113 1 rfl ?_
            refine cx_iload_n C dX7_descend_114 2 rfl ?_
            refine cx_iconst (v := 1) C dX7_descend_115 (by decide) ?_
            refine cx_iadd C dX7_descend_116 ?_
            refine cx_iload_n C dX7_descend_117 3 rfl ?_
            refine cx_iconst (v := 1) C dX7_descend_118 (by decide) ?_
            refine cx_iload C dX7_descend_119 0 rfl ?_
            refine cx_ishl C dX7_descend_121 ?_
            refine cx_ior C dX7_descend_122 ?_
            obtain ⟨u31, e32, hf⟩ := cx_bd_at hf
            refine cx_Fvv (q := (RX7, TX7, 19)) (As := [.int (p1 + 1), .int (p2 ||| (1 <<< (u15 &&& 31)))]) (rest := []) (w1 := (wd_Ways k w_a b_a s_a w_detail w_skipped w_early w_late w_firstOnly w_firstYear w_years w_place w_before w_closing w_likes w_likeSums w_namings u31.1 u31.2.1 u31.2.2.1 u31.2.2.2.1 ++ (wd_Box k b_a b_c0 b_z0 b_c1 b_z1 b_c2 b_z2 b_c3 b_z3 b_c4 b_z4 b_sg ++ (wd_Sums k s_a s_np s_total u31.2.2.2.2.1 u31.2.2.2.2.2.1 u31.2.2.2.2.2.2.1 u31.2.2.2.2.2.2.2.1 u31.2.2.2.2.2.2.2.2 s_answer s_mine s_theirs s_people s_heads)))) hA C me_X7_descend hw_685 (ihS u17.2.1 u17.2.2 a_6 a30 a_8 a_9 a_10 a_11 a_12 (p1 + 1) (p2 ||| (1 <<< (u15 &&& 31))) u31 e32) dX7_descend_123 (by simp only [cx_rm]; omega) ⟨Nat.zero_le _, Nat.zero_le _⟩ rfl rfl (Nat.le_of_ble_eq_true rfl) rfl rfl rfl ?_
            clear e32
            refine cx_aload_n C dX7_descend_126 1 rfl ?_
            refine cx_iload_n C dX7_descend_127 2 rfl ?_
            refine cx_iload C dX7_descend_128 0 rfl ?_
            obtain ⟨u33, e34, hf⟩ := cx_bd_at hf
            refine cx_Fvv (q := (RX7, TX7, 19)) (As := [.int p1, .int u15]) (rest := []) (w1 := (wd_Ways k w_a b_a s_a w_detail w_skipped w_early w_late w_firstOnly w_firstYear w_years w_place w_before w_closing w_likes w_likeSums w_namings u31.1 u31.2.1 u33.1 u31.2.2.2.1 ++ (wd_Box k b_a b_c0 b_z0 b_c1 b_z1 b_c2 b_z2 b_c3 b_z3 b_c4 b_z4 b_sg ++ (wd_Sums k s_a s_np s_total u33.2.1 u33.2.2 u31.2.2.2.2.2.2.1 u31.2.2.2.2.2.2.2.1 u31.2.2.2.2.2.2.2.2 s_answer s_mine s_theirs s_people s_heads)))) hA C me_X7_gather hw_739 (c_X7_gather l D k w_a b_a s_a w_detail w_skipped w_early w_late w_firstOnly w_firstYear w_years w_place w_before w_closing w_likes w_likeSums w_namings u31.1 u31.2.1 u31.2.2.1 u31.2.2.2.1 b_c0 b_z0 b_c1 b_z1 b_c2 b_z2 b_c3 b_z3 b_c4 b_z4 b_sg s_np s_total u31.2.2.2.2.1 u31.2.2.2.2.2.1 u31.2.2.2.2.2.2.1 u31.2.2.2.2.2.2.2.1 u31.2.2.2.2.2.2.2.2 s_answer s_mine s_theirs s_people s_heads p1 u15 u33 e34) dX7_descend_130 (by simp only [cx_rm]; omega) ⟨Nat.zero_le _, Nat.zero_le _⟩ rfl rfl (Nat.le_of_ble_eq_true rfl) rfl rfl rfl ?_
            clear e34
            refine cx_aload_n C dX7_descend_133 1 rfl ?_
            refine cx_get (v := .int w_firstOnly) (ci := 6) C iX7 dX7_descend_134 0 rfl rfl 6 (by decide) hw_204 rfl ?_
            refine cx_if_eq (tgt := 152) C dX7_descend_137 (by decide) (fun c35 => ?_) (fun c35 => ?_)
            · have hf := cx_if_t hf c35
              clear c35
              refine cx_lv [1, 2, 3, 4] rfl ?_
              exact J152 u31.1 u31.2.1 u33.1 u31.2.2.2.1 u33.2.1 u33.2.2 u31.2.2.2.2.2.2.1 u31.2.2.2.2.2.2.2.1 u31.2.2.2.2.2.2.2.2 hf
            · have hf := cx_if_f hf c35
              clear c35
              refine cx_aload_n C dX7_descend_140 1 rfl ?_
              refine cx_get (v := .ref (w_a 11)) (ci := 6) C iX7 dX7_descend_141 0 rfl rfl 17 (by decide) hw_215 rfl ?_
              refine cx_iload_n C dX7_descend_144 2 rfl ?_
              obtain ⟨u36, e37, hf⟩ := cx_bd_at hf
              refine cx_Ksi (As := [.ref (w_a 11), .int p1]) (rest := []) hA C me_X3_isZero hw_751 (c_X3_isZero l D k (w_a 11) 28 u33.1 p1 u36 e37) dX7_descend_145 (by simp only [cx_rm]; omega) ⟨Nat.zero_le _, Nat.zero_le _⟩ rfl rfl (Nat.le_of_ble_eq_true rfl) [11] rfl (by decide) ?_
              clear e37
              refine cx_if_ne (tgt := 152) C dX7_descend_148 (by decide) (fun c38 => ?_) (fun c38 => ?_)
              · have hf := cx_if_f hf c38
                clear c38
                refine cx_lv [1, 2, 3, 4] rfl ?_
                exact J152 u31.1 u31.2.1 u33.1 u31.2.2.2.1 u33.2.1 u33.2.2 u31.2.2.2.2.2.2.1 u31.2.2.2.2.2.2.2.1 u31.2.2.2.2.2.2.2.2 hf
              · have hf := cx_if_t hf c38
                clear c38
                obtain rfl := Option.some.inj hf
                exact cx_vret C hA hQ hr hlk dX7_descend_151 rfl
    unfold f_X7_descend_B at hf
    refine cx_iload_n C dX7_descend_0 1 rfl ?_
    refine cx_aload_n C dX7_descend_1 0 rfl ?_
    refine cx_get (v := .ref (b_a 0)) (ci := 6) C iX7 dX7_descend_2 0 rfl rfl 1 (by decide) hw_199 rfl ?_
    refine cx_get (v := .ref (b_a 5)) (ci := 1) C iX1 dX7_descend_5 13 rfl rfl 2 (by decide) hw_69 rfl ?_
    refine cx_get (v := .int b_z2) (ci := 3) C iX4 dX7_descend_8 18 rfl rfl 3 (by decide) hw_48 rfl ?_
    refine cx_icmp_lt (tgt := 55) C dX7_descend_11 (by decide) (fun c1 => ?_) (fun c1 => ?_)
    · have hf := cx_if_t hf c1
      clear c1
      refine cx_aload_n C dX7_descend_55 0 rfl ?_
      refine cx_get (v := .ref (w_a 11)) (ci := 6) C iX7 dX7_descend_56 0 rfl rfl 17 (by decide) hw_215 rfl ?_
      refine cx_iload_n C dX7_descend_59 1 rfl ?_
      obtain ⟨u2, e3, hf⟩ := cx_bd_at hf
      refine cx_csv (As := [.ref (w_a 11), .int p1]) (rest := []) (ws' := (wd_Ways k w_a b_a s_a w_detail w_skipped w_early w_late w_firstOnly w_firstYear w_years w_place w_before w_closing w_likes w_likeSums w_namings w_products w_weights u2 w_way ++ (wd_Box k b_a b_c0 b_z0 b_c1 b_z1 b_c2 b_z2 b_c3 b_z3 b_c4 b_z4 b_sg ++ (wd_Sums k s_a s_np s_total s_shares s_pairs s_crowds s_bestWay s_bestWeight s_answer s_mine s_theirs s_people s_heads)))) hA C me_X3_zero hw_708 (c_X3_zero l D k (w_a 11) 28 w_subtotals p1 u2 e3) dX7_descend_60 (by simp only [cx_rm]; omega) ⟨Nat.zero_le _, Nat.zero_le _⟩ rfl rfl (Nat.le_of_ble_eq_true rfl) [11] rfl (by decide) rfl rfl ?_
      clear e3
      refine cx_iconst (v := 0) C dX7_descend_63 (by decide) ?_
      refine cx_istore_n (lv' := [(3, .int 0), (0, .ref (w_a 0)), (1, .int p1), (2, .int p2)]) C dX7_descend_64 rfl (by decide) rfl ?_
      refine cx_lv [1, 2, 3, 0] rfl ?_
      exact L65 cx_N0 w_products w_weights u2 w_way s_shares s_pairs s_crowds s_bestWay s_bestWeight 0 hf
    · have hf := cx_if_f hf c1
      clear c1
      refine cx_aload_n C dX7_descend_14 0 rfl ?_
      refine cx_get (v := .ref (w_a 11)) (ci := 6) C iX7 dX7_descend_15 0 rfl rfl 17 (by decide) hw_215 rfl ?_
      refine cx_iload_n C dX7_descend_18 1 rfl ?_
      refine cx_aload_n C dX7_descend_19 0 rfl ?_
      refine cx_get (v := .ref (w_a 10)) (ci := 6) C iX7 dX7_descend_20 0 rfl rfl 16 (by decide) hw_214 rfl ?_
      refine cx_iload_n C dX7_descend_23 1 rfl ?_
      obtain ⟨u39, e40, hf⟩ := cx_bd_at hf
      refine cx_csv (As := [.ref (w_a 11), .int p1, .ref (w_a 10), .int p1]) (rest := []) (ws' := (wd_Ways k w_a b_a s_a w_detail w_skipped w_early w_late w_firstOnly w_firstYear w_years w_place w_before w_closing w_likes w_likeSums w_namings w_products w_weights u39 w_way ++ (wd_Box k b_a b_c0 b_z0 b_c1 b_z1 b_c2 b_z2 b_c3 b_z3 b_c4 b_z4 b_sg ++ (wd_Sums k s_a s_np s_total s_shares s_pairs s_crowds s_bestWay s_bestWeight s_answer s_mine s_theirs s_people s_heads)))) hA C me_X3_copy hw_689 (c_X3_copy l D k (w_a 11) (w_a 10) 28 w_subtotals p1 28 w_weights p1 u39 e40) dX7_descend_24 (by simp only [cx_rm]; omega) ⟨Nat.zero_le _, Nat.zero_le _⟩ rfl rfl (Nat.le_of_ble_eq_true rfl) [11, 10] rfl (by decide) rfl rfl ?_
      clear e40
      refine cx_aload_n C dX7_descend_27 0 rfl ?_
      refine cx_get (v := .int w_detail) (ci := 6) C iX7 dX7_descend_28 0 rfl rfl 2 (by decide) hw_200 rfl ?_
      refine cx_if_le (tgt := 54) C dX7_descend_31 (by decide) (fun c41 => ?_) (fun c41 => ?_)
      · have hf := cx_if_t hf c41
        clear c41
        obtain rfl := Option.some.inj hf
        exact cx_vret C hA hQ hr hlk dX7_descend_54 rfl
      · have hf := cx_if_f hf c41
        clear c41
        refine cx_aload_n C dX7_descend_34 0 rfl ?_
        refine cx_get (v := .ref (s_a 0)) (ci := 6) C iX7 dX7_descend_35 0 rfl rfl 0 (by decide) hw_197 rfl ?_
        refine cx_aload_n C dX7_descend_38 0 rfl ?_
        refine cx_get (v := .ref (w_a 12)) (ci := 6) C iX7 dX7_descend_39 0 rfl rfl 18 (by decide) hw_216 rfl ?_
        refine cx_iload_n C dX7_descend_42 2 rfl ?_
        refine cx_bipush (v := 31) C dX7_descend_43 (by decide) ?_
        refine cx_iand C dX7_descend_45 ?_
        refine cx_aload_n C dX7_descend_46 0 rfl ?_
        refine cx_get (v := .ref (w_a 10)) (ci := 6) C iX7 dX7_descend_47 0 rfl rfl 16 (by decide) hw_214 rfl ?_
        refine cx_iload_n C dX7_descend_50 1 rfl ?_
        obtain ⟨u42, e43, hf⟩ := cx_bd_at hf
        refine cx_cvv (q := (RX5, TX5, 11)) (As := [.ref (w_a 12), .int (p2 &&& 31), .ref (w_a 10), .int p1]) (rest := []) (ws' := (wd_Ways k w_a b_a s_a w_detail w_skipped w_early w_late w_firstOnly w_firstYear w_years w_place w_before w_closing w_likes w_likeSums w_namings w_products w_weights u39 w_way ++ (wd_Box k b_a b_c0 b_z0 b_c1 b_z1 b_c2 b_z2 b_c3 b_z3 b_c4 b_z4 b_sg ++ (wd_Sums k s_a s_np s_total s_shares s_pairs u42.1 u42.2.1 u42.2.2 s_answer s_mine s_theirs s_people s_heads)))) hA C me_X5_addWay hw_693 (c_X5_addWay l D k s_a (w_a 12) (w_a 10) s_np s_total s_shares s_pairs s_crowds s_bestWay s_bestWeight s_answer s_mine s_theirs s_people s_heads 6 w_way (p2 &&& 31) 28 w_weights p1 u42 e43) dX7_descend_51 (by simp only [cx_rm]; omega) ⟨Nat.zero_le _, Nat.zero_le _⟩ rfl rfl (Nat.le_of_ble_eq_true rfl) rfl rfl [24, 25, 26, 27, 28, 29, 30, 31, 32, 33, 12, 10] rfl (by decide) rfl rfl ?_
        clear e43
        obtain rfl := Option.some.inj hf
        exact cx_vret C hA hQ hr hlk dX7_descend_54 rfl
theorem dX7_sumUp_0 : decode cX7_sumUp 0 = .ok (.aload_n 0, 1) := by decide +kernel
theorem dX7_sumUp_1 : decode cX7_sumUp 1 = .ok (.getfield 72, 3) := by decide +kernel
theorem dX7_sumUp_4 : decode cX7_sumUp 4 = .ok (.aload_n 0, 1) := by decide +kernel
theorem dX7_sumUp_5 : decode cX7_sumUp 5 = .ok (.getfield 68, 3) := by decide +kernel
theorem dX7_sumUp_8 : decode cX7_sumUp 8 = .ok (.getfield 106, 3) := by decide +kernel
theorem dX7_sumUp_11 : decode cX7_sumUp 11 = .ok (.getfield 88, 3) := by decide +kernel
theorem dX7_sumUp_14 : decode cX7_sumUp 14 = .ok (.aload_n 0, 1) := by decide +kernel
theorem dX7_sumUp_15 : decode cX7_sumUp 15 = .ok (.getfield 68, 3) := by decide +kernel
theorem dX7_sumUp_18 : decode cX7_sumUp 18 = .ok (.getfield 109, 3) := by decide +kernel
theorem dX7_sumUp_21 : decode cX7_sumUp 21 = .ok (.getfield 88, 3) := by decide +kernel
theorem dX7_sumUp_24 : decode cX7_sumUp 24 = .ok (.aload_n 0, 1) := by decide +kernel
theorem dX7_sumUp_25 : decode cX7_sumUp 25 = .ok (.getfield 9, 3) := by decide +kernel
theorem dX7_sumUp_28 : decode cX7_sumUp 28 = .ok (.invokevirtual 112, 3) := by decide +kernel
theorem dX7_sumUp_31 : decode cX7_sumUp 31 = .ok (.aload_n 0, 1) := by decide +kernel
theorem dX7_sumUp_32 : decode cX7_sumUp 32 = .ok (.invokevirtual 118, 3) := by decide +kernel
theorem dX7_sumUp_35 : decode cX7_sumUp 35 = .ok (.iconst 0, 1) := by decide +kernel
theorem dX7_sumUp_36 : decode cX7_sumUp 36 = .ok (.istore_n 1, 1) := by decide +kernel
theorem dX7_sumUp_37 : decode cX7_sumUp 37 = .ok (.iload_n 1, 1) := by decide +kernel
theorem dX7_sumUp_38 : decode cX7_sumUp 38 = .ok (.aload_n 0, 1) := by decide +kernel
theorem dX7_sumUp_39 : decode cX7_sumUp 39 = .ok (.getfield 68, 3) := by decide +kernel
theorem dX7_sumUp_42 : decode cX7_sumUp 42 = .ok (.getfield 109, 3) := by decide +kernel
theorem dX7_sumUp_45 : decode cX7_sumUp 45 = .ok (.getfield 88, 3) := by decide +kernel
theorem dX7_sumUp_48 : decode cX7_sumUp 48 = .ok (.if_icmp .ge 58, 3) := by decide +kernel
theorem dX7_sumUp_51 : decode cX7_sumUp 51 = .ok (.iconst 0, 1) := by decide +kernel
theorem dX7_sumUp_52 : decode cX7_sumUp 52 = .ok (.istore_n 2, 1) := by decide +kernel
theorem dX7_sumUp_53 : decode cX7_sumUp 53 = .ok (.iload_n 2, 1) := by decide +kernel
theorem dX7_sumUp_54 : decode cX7_sumUp 54 = .ok (.aload_n 0, 1) := by decide +kernel
theorem dX7_sumUp_55 : decode cX7_sumUp 55 = .ok (.getfield 68, 3) := by decide +kernel
theorem dX7_sumUp_58 : decode cX7_sumUp 58 = .ok (.getfield 106, 3) := by decide +kernel
theorem dX7_sumUp_61 : decode cX7_sumUp 61 = .ok (.getfield 88, 3) := by decide +kernel
theorem dX7_sumUp_64 : decode cX7_sumUp 64 = .ok (.if_icmp .gt 36, 3) := by decide +kernel
theorem dX7_sumUp_67 : decode cX7_sumUp 67 = .ok (.iload_n 2, 1) := by decide +kernel
theorem dX7_sumUp_68 : decode cX7_sumUp 68 = .ok (.aload_n 0, 1) := by decide +kernel
theorem dX7_sumUp_69 : decode cX7_sumUp 69 = .ok (.getfield 68, 3) := by decide +kernel
theorem dX7_sumUp_72 : decode cX7_sumUp 72 = .ok (.getfield 106, 3) := by decide +kernel
theorem dX7_sumUp_75 : decode cX7_sumUp 75 = .ok (.getfield 88, 3) := by decide +kernel
theorem dX7_sumUp_78 : decode cX7_sumUp 78 = .ok (.invokestatic 121, 3) := by decide +kernel
theorem dX7_sumUp_81 : decode cX7_sumUp 81 = .ok (.istore_n 3, 1) := by decide +kernel
theorem dX7_sumUp_82 : decode cX7_sumUp 82 = .ok (.aload_n 0, 1) := by decide +kernel
theorem dX7_sumUp_83 : decode cX7_sumUp 83 = .ok (.iload_n 1, 1) := by decide +kernel
theorem dX7_sumUp_84 : decode cX7_sumUp 84 = .ok (.iload_n 3, 1) := by decide +kernel
theorem dX7_sumUp_85 : decode cX7_sumUp 85 = .ok (.invokevirtual 124, 3) := by decide +kernel
theorem dX7_sumUp_88 : decode cX7_sumUp 88 = .ok (.aload_n 0, 1) := by decide +kernel
theorem dX7_sumUp_89 : decode cX7_sumUp 89 = .ok (.iload_n 1, 1) := by decide +kernel
theorem dX7_sumUp_90 : decode cX7_sumUp 90 = .ok (.iload_n 3, 1) := by decide +kernel
theorem dX7_sumUp_91 : decode cX7_sumUp 91 = .ok (.invokevirtual 128, 3) := by decide +kernel
theorem dX7_sumUp_94 : decode cX7_sumUp 94 = .ok (.iinc 2 1, 3) := by decide +kernel
theorem dX7_sumUp_97 : decode cX7_sumUp 97 = .ok (.goto (-44), 3) := by decide +kernel
theorem dX7_sumUp_100 : decode cX7_sumUp 100 = .ok (.iinc 1 1, 3) := by decide +kernel
theorem dX7_sumUp_103 : decode cX7_sumUp 103 = .ok (.goto (-66), 3) := by decide +kernel
theorem dX7_sumUp_106 : decode cX7_sumUp 106 = .ok (.aload_n 0, 1) := by decide +kernel
theorem dX7_sumUp_107 : decode cX7_sumUp 107 = .ok (.getfield 59, 3) := by decide +kernel
theorem dX7_sumUp_110 : decode cX7_sumUp 110 = .ok (.iconst 0, 1) := by decide +kernel
theorem dX7_sumUp_111 : decode cX7_sumUp 111 = .ok (.iconst 1, 1) := by decide +kernel
theorem dX7_sumUp_112 : decode cX7_sumUp 112 = .ok (.invokestatic 131, 3) := by decide +kernel
theorem dX7_sumUp_115 : decode cX7_sumUp 115 = .ok (.aload_n 0, 1) := by decide +kernel
theorem dX7_sumUp_116 : decode cX7_sumUp 116 = .ok (.invokevirtual 135, 3) := by decide +kernel
theorem dX7_sumUp_119 : decode cX7_sumUp 119 = .ok (.aload_n 0, 1) := by decide +kernel
theorem dX7_sumUp_120 : decode cX7_sumUp 120 = .ok (.iconst 0, 1) := by decide +kernel
theorem dX7_sumUp_121 : decode cX7_sumUp 121 = .ok (.iconst 0, 1) := by decide +kernel
theorem dX7_sumUp_122 : decode cX7_sumUp 122 = .ok (.invokevirtual 138, 3) := by decide +kernel
theorem dX7_sumUp_125 : decode cX7_sumUp 125 = .ok (.aload_n 0, 1) := by decide +kernel
theorem dX7_sumUp_126 : decode cX7_sumUp 126 = .ok (.getfield 72, 3) := by decide +kernel
theorem dX7_sumUp_129 : decode cX7_sumUp 129 = .ok (.aload_n 0, 1) := by decide +kernel
theorem dX7_sumUp_130 : decode cX7_sumUp 130 = .ok (.getfield 62, 3) := by decide +kernel
theorem dX7_sumUp_133 : decode cX7_sumUp 133 = .ok (.iconst 0, 1) := by decide +kernel
theorem dX7_sumUp_134 : decode cX7_sumUp 134 = .ok (.invokevirtual 141, 3) := by decide +kernel
theorem dX7_sumUp_137 : decode cX7_sumUp 137 = .ok (.return_, 1) := by decide +kernel
theorem me_X7_sumUp : cx_Mv yX7_sumUp cX7_sumUp 4 none 0 := ⟨⟨⟨by decide +kernel, by decide +kernel, by decide +kernel⟩, hw_7, hw_635⟩, hw_633, hw_634⟩
noncomputable def f_X7_sumUp_L53 (w_skipped : Int32) (w_firstYear : Nat → Int32) (w_years : Nat → Int32) (b_c0 : Nat → Int32) (b_z0 : Int32) (b_c2 : Nat → Int32) (b_z2 : Int32) (b_c3 : Nat → Int32) (b_z3 : Int32) (b_sg : Int32) (a_5 : Nat → Int32) (x1_18 : Int32) (rc37 : (Nat → Int32) → (Nat → Int32) → (Nat → Int32) → Int32 → Option ((Nat → Int32) × (Nat → Int32) × (Nat → Int32) × (Nat → Int32) × (Nat → Int32) × (Nat → Int32) × (Nat → Int64) × (Nat → Int64) × (Nat → Int64) × (Nat → Int32) × Int32 × Int32 × (Nat → Int64) × (Nat → Int64) × (Nat → Int64) × (Nat → Int64) × (Nat → Int32) × (Nat → Int64))) (rc53 : (Nat → Int32) → (Nat → Int32) → (Nat → Int32) → Int32 → Option ((Nat → Int32) × (Nat → Int32) × (Nat → Int32) × (Nat → Int32) × (Nat → Int32) × (Nat → Int32) × (Nat → Int64) × (Nat → Int64) × (Nat → Int64) × (Nat → Int32) × Int32 × Int32 × (Nat → Int64) × (Nat → Int64) × (Nat → Int64) × (Nat → Int64) × (Nat → Int32) × (Nat → Int64))) (a_28 : Nat → Int32) (a_29 : Nat → Int32) (a_30 : Nat → Int32) (x2_31 : Int32) : Option ((Nat → Int32) × (Nat → Int32) × (Nat → Int32) × (Nat → Int32) × (Nat → Int32) × (Nat → Int32) × (Nat → Int64) × (Nat → Int64) × (Nat → Int64) × (Nat → Int32) × Int32 × Int32 × (Nat → Int64) × (Nat → Int64) × (Nat → Int64) × (Nat → Int64) × (Nat → Int32) × (Nat → Int64)) := if b_z0 < x2_31 then (rc37 a_28 a_29 a_30 (x1_18 + 1)) else (Option.bind (f_X8_whoAt x2_31 b_z0) (fun u33 => Option.bind (f_X7_planLikes w_firstYear w_years a_5 a_28 a_29 b_c0 b_z0 b_c2 b_z2 b_sg x1_18 u33) (fun u35 => Option.bind (f_X7_planNamings w_skipped a_30 b_c0 b_z0 b_c3 b_z3 x1_18 u33) (fun u37 => rc53 u35.1 u35.2 u37 (x2_31 + 1)))))
noncomputable def f_X7_sumUp_L53w (w_skipped : Int32) (w_firstYear : Nat → Int32) (w_years : Nat → Int32) (b_c0 : Nat → Int32) (b_z0 : Int32) (b_c2 : Nat → Int32) (b_z2 : Int32) (b_c3 : Nat → Int32) (b_z3 : Int32) (b_sg : Int32) (a_5 : Nat → Int32) (x1_18 : Int32) (rc37 : (Nat → Int32) → (Nat → Int32) → (Nat → Int32) → Int32 → Option ((Nat → Int32) × (Nat → Int32) × (Nat → Int32) × (Nat → Int32) × (Nat → Int32) × (Nat → Int32) × (Nat → Int64) × (Nat → Int64) × (Nat → Int64) × (Nat → Int32) × Int32 × Int32 × (Nat → Int64) × (Nat → Int64) × (Nat → Int64) × (Nat → Int64) × (Nat → Int32) × (Nat → Int64))) (n : Nat) : (Nat → Int32) → (Nat → Int32) → (Nat → Int32) → Int32 → Option ((Nat → Int32) × (Nat → Int32) × (Nat → Int32) × (Nat → Int32) × (Nat → Int32) × (Nat → Int32) × (Nat → Int64) × (Nat → Int64) × (Nat → Int64) × (Nat → Int32) × Int32 × Int32 × (Nat → Int64) × (Nat → Int64) × (Nat → Int64) × (Nat → Int64) × (Nat → Int32) × (Nat → Int64)) := Nat.rec (fun _ _ _ _ => none) (fun _ r => f_X7_sumUp_L53 w_skipped w_firstYear w_years b_c0 b_z0 b_c2 b_z2 b_c3 b_z3 b_sg a_5 x1_18 rc37 r) n
noncomputable def f_X7_sumUp_L37 (w_detail : Int32) (w_skipped : Int32) (w_early : Int32) (w_late : Int32) (w_firstOnly : Int32) (w_firstYear : Nat → Int32) (w_years : Nat → Int32) (w_products : Nat → Int64) (w_weights : Nat → Int64) (w_subtotals : Nat → Int64) (w_way : Nat → Int32) (b_c0 : Nat → Int32) (b_z0 : Int32) (b_z1 : Int32) (b_c2 : Nat → Int32) (b_z2 : Int32) (b_c3 : Nat → Int32) (b_z3 : Int32) (b_c4 : Nat → Int32) (b_z4 : Int32) (b_sg : Int32) (s_np : Nat) (s_bestWay : Nat → Int32) (a_5 : Nat → Int32) (a_6 : Nat → Int32) (a_7 : Nat → Int32) (h_11 : Int32) (h_12 : Int32) (a_13 : Nat → Int64) (a_14 : Nat → Int64) (a_15 : Nat → Int64) (a_16 : Nat → Int64) (a_17 : Nat → Int64) (rc37 : (Nat → Int32) → (Nat → Int32) → (Nat → Int32) → Int32 → Option ((Nat → Int32) × (Nat → Int32) × (Nat → Int32) × (Nat → Int32) × (Nat → Int32) × (Nat → Int32) × (Nat → Int64) × (Nat → Int64) × (Nat → Int64) × (Nat → Int32) × Int32 × Int32 × (Nat → Int64) × (Nat → Int64) × (Nat → Int64) × (Nat → Int64) × (Nat → Int32) × (Nat → Int64))) (a_8 : Nat → Int32) (a_9 : Nat → Int32) (a_10 : Nat → Int32) (x1_18 : Int32) : Option ((Nat → Int32) × (Nat → Int32) × (Nat → Int32) × (Nat → Int32) × (Nat → Int32) × (Nat → Int32) × (Nat → Int64) × (Nat → Int64) × (Nat → Int64) × (Nat → Int32) × Int32 × Int32 × (Nat → Int64) × (Nat → Int64) × (Nat → Int64) × (Nat → Int64) × (Nat → Int32) × (Nat → Int64)) := if b_z2 ≤ x1_18 then (Option.bind (f_X3_set 28 w_weights 0 1) (fun u20 => Option.bind (f_X7_takeEmptyPictures w_early w_late w_firstYear w_years a_7 w_products u20 b_z1) (fun u22 => Option.bind (f_X7_descend w_detail w_early w_late w_firstOnly w_firstYear w_years a_5 a_6 a_7 a_8 a_9 a_10 b_z0 b_z2 b_c4 b_z4 s_np 8 w_products u22 w_subtotals w_way a_14 a_15 a_16 s_bestWay a_17 0 0) (fun u24 => Option.bind (f_X5_finish a_13 u24.2.2.2.2.1 28 u24.2.2.1 0) (fun u26 => some ((a_5, a_6, a_7, a_8, a_9, a_10, u24.1, u24.2.1, u24.2.2.1, u24.2.2.2.1, h_11, h_12, u26.1, u26.2, u24.2.2.2.2.2.1, u24.2.2.2.2.2.2.1, u24.2.2.2.2.2.2.2.1, u24.2.2.2.2.2.2.2.2))))))) else (f_X7_sumUp_L53w w_skipped w_firstYear w_years b_c0 b_z0 b_c2 b_z2 b_c3 b_z3 b_sg a_5 x1_18 rc37 cx_N0 a_8 a_9 a_10 0)
noncomputable def f_X7_sumUp_L37w (w_detail : Int32) (w_skipped : Int32) (w_early : Int32) (w_late : Int32) (w_firstOnly : Int32) (w_firstYear : Nat → Int32) (w_years : Nat → Int32) (w_products : Nat → Int64) (w_weights : Nat → Int64) (w_subtotals : Nat → Int64) (w_way : Nat → Int32) (b_c0 : Nat → Int32) (b_z0 : Int32) (b_z1 : Int32) (b_c2 : Nat → Int32) (b_z2 : Int32) (b_c3 : Nat → Int32) (b_z3 : Int32) (b_c4 : Nat → Int32) (b_z4 : Int32) (b_sg : Int32) (s_np : Nat) (s_bestWay : Nat → Int32) (a_5 : Nat → Int32) (a_6 : Nat → Int32) (a_7 : Nat → Int32) (h_11 : Int32) (h_12 : Int32) (a_13 : Nat → Int64) (a_14 : Nat → Int64) (a_15 : Nat → Int64) (a_16 : Nat → Int64) (a_17 : Nat → Int64) (n : Nat) : (Nat → Int32) → (Nat → Int32) → (Nat → Int32) → Int32 → Option ((Nat → Int32) × (Nat → Int32) × (Nat → Int32) × (Nat → Int32) × (Nat → Int32) × (Nat → Int32) × (Nat → Int64) × (Nat → Int64) × (Nat → Int64) × (Nat → Int32) × Int32 × Int32 × (Nat → Int64) × (Nat → Int64) × (Nat → Int64) × (Nat → Int64) × (Nat → Int32) × (Nat → Int64)) := Nat.rec (fun _ _ _ _ => none) (fun _ r => f_X7_sumUp_L37 w_detail w_skipped w_early w_late w_firstOnly w_firstYear w_years w_products w_weights w_subtotals w_way b_c0 b_z0 b_z1 b_c2 b_z2 b_c3 b_z3 b_c4 b_z4 b_sg s_np s_bestWay a_5 a_6 a_7 h_11 h_12 a_13 a_14 a_15 a_16 a_17 r) n
noncomputable def f_X7_sumUp (w_detail : Int32) (w_skipped : Int32) (w_early : Int32) (w_late : Int32) (w_firstOnly : Int32) (w_firstYear : Nat → Int32) (w_years : Nat → Int32) (w_place : Nat → Int32) (w_before : Nat → Int32) (w_closing : Nat → Int32) (w_likes : Nat → Int32) (w_likeSums : Nat → Int32) (w_namings : Nat → Int32) (w_products : Nat → Int64) (w_weights : Nat → Int64) (w_subtotals : Nat → Int64) (w_way : Nat → Int32) (b_c0 : Nat → Int32) (b_z0 : Int32) (b_z1 : Int32) (b_c2 : Nat → Int32) (b_z2 : Int32) (b_c3 : Nat → Int32) (b_z3 : Int32) (b_c4 : Nat → Int32) (b_z4 : Int32) (b_sg : Int32) (s_np : Nat) (s_total : Nat → Int64) (s_shares : Nat → Int64) (s_pairs : Nat → Int64) (s_crowds : Nat → Int64) (s_bestWay : Nat → Int32) (s_bestWeight : Nat → Int64) : Option ((Nat → Int32) × (Nat → Int32) × (Nat → Int32) × (Nat → Int32) × (Nat → Int32) × (Nat → Int32) × (Nat → Int64) × (Nat → Int64) × (Nat → Int64) × (Nat → Int32) × Int32 × Int32 × (Nat → Int64) × (Nat → Int64) × (Nat → Int64) × (Nat → Int64) × (Nat → Int32) × (Nat → Int64)) := Option.bind (f_X5_empty s_np s_total s_shares s_pairs s_crowds s_bestWeight b_z0 b_z2 w_detail) (fun u1 => Option.bind (f_X7_placeHeads w_place w_before w_closing b_c2 b_z2) (fun u3 => f_X7_sumUp_L37w w_detail w_skipped w_early w_late w_firstOnly w_firstYear w_years w_products w_weights w_subtotals w_way b_c0 b_z0 b_z1 b_c2 b_z2 b_c3 b_z3 b_c4 b_z4 b_sg s_np s_bestWay u3.1 u3.2.1 u3.2.2 u1.1 u1.2.1 u1.2.2.1 u1.2.2.2.1 u1.2.2.2.2.1 u1.2.2.2.2.2.1 u1.2.2.2.2.2.2 cx_N0 w_likes w_likeSums w_namings 0))
set_option maxHeartbeats 4000000 in
set_option maxRecDepth 100000 in
theorem c_X7_sumUp (l : Launch) (D : va_G) (k : Nat → ClassId) (w_a : Nat → Nat) (b_a : Nat → Nat) (s_a : Nat → Nat) (w_detail : Int32) (w_skipped : Int32) (w_early : Int32) (w_late : Int32) (w_firstOnly : Int32) (w_firstYear : Nat → Int32) (w_years : Nat → Int32) (w_place : Nat → Int32) (w_before : Nat → Int32) (w_closing : Nat → Int32) (w_likes : Nat → Int32) (w_likeSums : Nat → Int32) (w_namings : Nat → Int32) (w_products : Nat → Int64) (w_weights : Nat → Int64) (w_subtotals : Nat → Int64) (w_way : Nat → Int32) (b_c0 : Nat → Int32) (b_z0 : Int32) (b_c1 : Nat → Int32) (b_z1 : Int32) (b_c2 : Nat → Int32) (b_z2 : Int32) (b_c3 : Nat → Int32) (b_z3 : Int32) (b_c4 : Nat → Int32) (b_z4 : Int32) (b_sg : Int32) (s_np : Nat) (s_total : Nat → Int64) (s_shares : Nat → Int64) (s_pairs : Nat → Int64) (s_crowds : Nat → Int64) (s_bestWay : Nat → Int32) (s_bestWeight : Nat → Int64) (s_answer : Nat → Int64) (s_mine : Nat → Int64) (s_theirs : Nat → Int64) (s_people : Int32) (s_heads : Int32) (y : (Nat → Int32) × (Nat → Int32) × (Nat → Int32) × (Nat → Int32) × (Nat → Int32) × (Nat → Int32) × (Nat → Int64) × (Nat → Int64) × (Nat → Int64) × (Nat → Int32) × Int32 × Int32 × (Nat → Int64) × (Nat → Int64) × (Nat → Int64) × (Nat → Int64) × (Nat → Int32) × (Nat → Int64)) (hf : f_X7_sumUp w_detail w_skipped w_early w_late w_firstOnly w_firstYear w_years w_place w_before w_closing w_likes w_likeSums w_namings w_products w_weights w_subtotals w_way b_c0 b_z0 b_z1 b_c2 b_z2 b_c3 b_z3 b_c4 b_z4 b_sg s_np s_total s_shares s_pairs s_crowds s_bestWay s_bestWeight = some y) : cx_M l yX7_sumUp cX7_sumUp 4 none 13 D k [.ref (w_a 0)] (wd_Ways k w_a b_a s_a w_detail w_skipped w_early w_late w_firstOnly w_firstYear w_years w_place w_before w_closing w_likes w_likeSums w_namings w_products w_weights w_subtotals w_way ++ (wd_Box k b_a b_c0 b_z0 b_c1 b_z1 b_c2 b_z2 b_c3 b_z3 b_c4 b_z4 b_sg ++ (wd_Sums k s_a s_np s_total s_shares s_pairs s_crowds s_bestWay s_bestWeight s_answer s_mine s_theirs s_people s_heads))) (fun sz => cx_Qv D (wd_Ways k w_a b_a s_a w_detail w_skipped w_early w_late w_firstOnly w_firstYear w_years w_place w_before w_closing w_likes w_likeSums w_namings w_products w_weights w_subtotals w_way ++ (wd_Box k b_a b_c0 b_z0 b_c1 b_z1 b_c2 b_z2 b_c3 b_z3 b_c4 b_z4 b_sg ++ (wd_Sums k s_a s_np s_total s_shares s_pairs s_crowds s_bestWay s_bestWeight s_answer s_mine s_theirs s_people s_heads))) (wd_Ways k w_a b_a s_a w_detail w_skipped w_early w_late w_firstOnly w_firstYear w_years y.1 y.2.1 y.2.2.1 y.2.2.2.1 y.2.2.2.2.1 y.2.2.2.2.2.1 y.2.2.2.2.2.2.1 y.2.2.2.2.2.2.2.1 y.2.2.2.2.2.2.2.2.1 y.2.2.2.2.2.2.2.2.2.1 ++ (wd_Box k b_a b_c0 b_z0 b_c1 b_z1 b_c2 b_z2 b_c3 b_z3 b_c4 b_z4 b_sg ++ (wd_Sums k s_a s_np y.2.2.2.2.2.2.2.2.2.2.2.2.1 y.2.2.2.2.2.2.2.2.2.2.2.2.2.1 y.2.2.2.2.2.2.2.2.2.2.2.2.2.2.1 y.2.2.2.2.2.2.2.2.2.2.2.2.2.2.2.1 y.2.2.2.2.2.2.2.2.2.2.2.2.2.2.2.2.1 y.2.2.2.2.2.2.2.2.2.2.2.2.2.2.2.2.2 s_answer s_mine s_theirs y.2.2.2.2.2.2.2.2.2.2.1 y.2.2.2.2.2.2.2.2.2.2.2.1))) sz) := by
  refine cx_met (own := "NamelessBox$Ways") (by decide) rfl (Nat.le_of_ble_eq_true rfl) ?_
  intro p e s m args below meth c A Q C hA hQ hr hlk
  refine cx_lv (lv' := [(0, .ref (w_a 0))]) [0] rfl ?_
  have L37 : ∀ (a_5 : Nat → Int32) (a_6 : Nat → Int32) (a_7 : Nat → Int32) (h_11 : Int32) (h_12 : Int32) (a_13 : Nat → Int64) (a_14 : Nat → Int64) (a_15 : Nat → Int64) (a_16 : Nat → Int64) (a_17 : Nat → Int64) (n37 : Nat) (a_8 : Nat → Int32) (a_9 : Nat → Int32) (a_10 : Nat → Int32) (x1_18 : Int32), f_X7_sumUp_L37w w_detail w_skipped w_early w_late w_firstOnly w_firstYear w_years w_products w_weights w_subtotals w_way b_c0 b_z0 b_z1 b_c2 b_z2 b_c3 b_z3 b_c4 b_z4 b_sg s_np s_bestWay a_5 a_6 a_7 h_11 h_12 a_13 a_14 a_15 a_16 a_17 n37 a_8 a_9 a_10 x1_18 = some y → cx_S p l e (cx_rm 13) s m args below meth c A D 4 0 0 Q 37 [(0, .ref (w_a 0)), (1, .int x1_18)] [] (wd_Ways k w_a b_a s_a w_detail w_skipped w_early w_late w_firstOnly w_firstYear w_years a_5 a_6 a_7 a_8 a_9 a_10 w_products w_weights w_subtotals w_way ++ (wd_Box k b_a b_c0 b_z0 b_c1 b_z1 b_c2 b_z2 b_c3 b_z3 b_c4 b_z4 b_sg ++ (wd_Sums k s_a s_np a_13 a_14 a_15 a_16 s_bestWay a_17 s_answer s_mine s_theirs h_11 h_12))) := by
    intro a_5 a_6 a_7 h_11 h_12 a_13 a_14 a_15 a_16 a_17 n37
    induction n37 with
    | zero =>
      intro a_8 a_9 a_10 x1_18 hf
      exact absurd (show (none : Option ((Nat → Int32) × (Nat → Int32) × (Nat → Int32) × (Nat → Int32) × (Nat → Int32) × (Nat → Int32) × (Nat → Int64) × (Nat → Int64) × (Nat → Int64) × (Nat → Int32) × Int32 × Int32 × (Nat → Int64) × (Nat → Int64) × (Nat → Int64) × (Nat → Int64) × (Nat → Int32) × (Nat → Int64))) = some y from hf) (fun h => by cases h)
    | succ n37 ih37 =>
      intro a_8 a_9 a_10 x1_18 hf
      have hf : f_X7_sumUp_L37 w_detail w_skipped w_early w_late w_firstOnly w_firstYear w_years w_products w_weights w_subtotals w_way b_c0 b_z0 b_z1 b_c2 b_z2 b_c3 b_z3 b_c4 b_z4 b_sg s_np s_bestWay a_5 a_6 a_7 h_11 h_12 a_13 a_14 a_15 a_16 a_17 (f_X7_sumUp_L37w w_detail w_skipped w_early w_late w_firstOnly w_firstYear w_years w_products w_weights w_subtotals w_way b_c0 b_z0 b_z1 b_c2 b_z2 b_c3 b_z3 b_c4 b_z4 b_sg s_np s_bestWay a_5 a_6 a_7 h_11 h_12 a_13 a_14 a_15 a_16 a_17 n37) a_8 a_9 a_10 x1_18 = some y := hf
      have L53 : ∀ (n53 : Nat) (a_28 : Nat → Int32) (a_29 : Nat → Int32) (a_30 : Nat → Int32) (x2_31 : Int32), f_X7_sumUp_L53w w_skipped w_firstYear w_years b_c0 b_z0 b_c2 b_z2 b_c3 b_z3 b_sg a_5 x1_18 (f_X7_sumUp_L37w w_detail w_skipped w_early w_late w_firstOnly w_firstYear w_years w_products w_weights w_subtotals w_way b_c0 b_z0 b_z1 b_c2 b_z2 b_c3 b_z3 b_c4 b_z4 b_sg s_np s_bestWay a_5 a_6 a_7 h_11 h_12 a_13 a_14 a_15 a_16 a_17 n37) n53 a_28 a_29 a_30 x2_31 = some y → cx_S p l e (cx_rm 13) s m args below meth c A D 4 0 0 Q 53 [(0, .ref (w_a 0)), (1, .int x1_18), (2, .int x2_31)] [] (wd_Ways k w_a b_a s_a w_detail w_skipped w_early w_late w_firstOnly w_firstYear w_years a_5 a_6 a_7 a_28 a_29 a_30 w_products w_weights w_subtotals w_way ++ (wd_Box k b_a b_c0 b_z0 b_c1 b_z1 b_c2 b_z2 b_c3 b_z3 b_c4 b_z4 b_sg ++ (wd_Sums k s_a s_np a_13 a_14 a_15 a_16 s_bestWay a_17 s_answer s_mine s_theirs h_11 h_12))) := by
        intro  n53
        induction n53 with
        | zero =>
          intro a_28 a_29 a_30 x2_31 hf
          exact absurd (show (none : Option ((Nat → Int32) × (Nat → Int32) × (Nat → Int32) × (Nat → Int32) × (Nat → Int32) × (Nat → Int32) × (Nat → Int64) × (Nat → Int64) × (Nat → Int64) × (Nat → Int32) × Int32 × Int32 × (Nat → Int64) × (Nat → Int64) × (Nat → Int64) × (Nat → Int64) × (Nat → Int32) × (Nat → Int64))) = some y from hf) (fun h => by cases h)
        | succ n53 ih53 =>
          intro a_28 a_29 a_30 x2_31 hf
          have hf : f_X7_sumUp_L53 w_skipped w_firstYear w_years b_c0 b_z0 b_c2 b_z2 b_c3 b_z3 b_sg a_5 x1_18 (f_X7_sumUp_L37w w_detail w_skipped w_early w_late w_firstOnly w_firstYear w_years w_products w_weights w_subtotals w_way b_c0 b_z0 b_z1 b_c2 b_z2 b_c3 b_z3 b_c4 b_z4 b_sg s_np s_bestWay a_5 a_6 a_7 h_11 h_12 a_13 a_14 a_15 a_16 a_17 n37) (f_X7_sumUp_L53w w_skipped w_firstYear w_years b_c0 b_z0 b_c2 b_z2 b_c3 b_z3 b_sg a_5 x1_18 (f_X7_sumUp_L37w w_detail w_skipped w_early w_late w_firstOnly w_firstYear w_years w_products w_weights w_subtotals w_way b_c0 b_z0 b_z1 b_c2 b_z2 b_c3 b_z3 b_c4 b_z4 b_sg s_np s_bestWay a_5 a_6 a_7 h_11 h_12 a_13 a_14 a_15 a_16 a_17 n37) n53) a_28 a_29 a_30 x2_31 = some y := hf
          unfold f_X7_sumUp_L53 at hf
          refine cx_iload_n C dX7_sumUp_53 2 rfl ?_
          refine cx_aload_n C dX7_sumUp_54 0 rfl ?_
          refine cx_get (v := .ref (b_a 0)) (ci := 6) C iX7 dX7_sumUp_55 0 rfl rfl 1 (by decide) hw_199 rfl ?_
          refine cx_get (v := .ref (b_a 1)) (ci := 1) C iX1 dX7_sumUp_58 13 rfl rfl 0 (by decide) hw_62 rfl ?_
          refine cx_get (v := .int b_z0) (ci := 3) C iX4 dX7_sumUp_61 14 rfl rfl 3 (by decide) hw_48 rfl ?_
          refine cx_icmp_gt (tgt := 100) C dX7_sumUp_64 (by decide) (fun c32 => ?_) (fun c32 => ?_)
          · have hf := cx_if_t hf c32
            clear c32
            refine cx_iinc (v := x1_18 + 1) (lv' := [(1, .int (x1_18 + 1)), (0, .ref (w_a 0)), (2, .int x2_31)]) C dX7_sumUp_100 1 rfl rfl (by decide) rfl ?_
            refine cx_goto (tgt := 37) C dX7_sumUp_103 (by decide) ?_
            refine cx_lv [1, 0] rfl ?_
            exact ih37 a_28 a_29 a_30 (x1_18 + 1) hf
          · have hf := cx_if_f hf c32
            clear c32
            refine cx_iload_n C dX7_sumUp_67 2 rfl ?_
            refine cx_aload_n C dX7_sumUp_68 0 rfl ?_
            refine cx_get (v := .ref (b_a 0)) (ci := 6) C iX7 dX7_sumUp_69 0 rfl rfl 1 (by decide) hw_199 rfl ?_
            refine cx_get (v := .ref (b_a 1)) (ci := 1) C iX1 dX7_sumUp_72 13 rfl rfl 0 (by decide) hw_62 rfl ?_
            refine cx_get (v := .int b_z0) (ci := 3) C iX4 dX7_sumUp_75 14 rfl rfl 3 (by decide) hw_48 rfl ?_
            obtain ⟨u33, e34, hf⟩ := cx_bd_at hf
            refine cx_Kni (As := [.int x2_31, .int b_z0]) (rest := []) hA C me_X8_whoAt (fun h => h.2.2.2.2.1) (c_X8_whoAt l D k x2_31 b_z0 u33 e34) dX7_sumUp_78 ⟨Nat.le_of_ble_eq_true rfl, Nat.le_of_ble_eq_true rfl⟩ ⟨Nat.zero_le _, Nat.zero_le _⟩ rfl rfl (Nat.le_of_ble_eq_true rfl) [] rfl (by decide) ?_
            clear e34
            refine cx_istore_n (lv' := [(3, .int u33), (0, .ref (w_a 0)), (1, .int x1_18), (2, .int x2_31)]) C dX7_sumUp_81 rfl (by decide) rfl ?_
            refine cx_aload_n C dX7_sumUp_82 1 rfl ?_
            refine cx_iload_n C dX7_sumUp_83 2 rfl ?_
            refine cx_iload_n C dX7_sumUp_84 0 rfl ?_
            obtain ⟨u35, e36, hf⟩ := cx_bd_at hf
            refine cx_Fvv (q := (RX7, TX7, 19)) (As := [.int x1_18, .int u33]) (rest := []) (w1 := (wd_Ways k w_a b_a s_a w_detail w_skipped w_early w_late w_firstOnly w_firstYear w_years a_5 a_6 a_7 u35.1 u35.2 a_30 w_products w_weights w_subtotals w_way ++ (wd_Box k b_a b_c0 b_z0 b_c1 b_z1 b_c2 b_z2 b_c3 b_z3 b_c4 b_z4 b_sg ++ (wd_Sums k s_a s_np a_13 a_14 a_15 a_16 s_bestWay a_17 s_answer s_mine s_theirs h_11 h_12)))) hA C me_X7_planLikes hw_654 (c_X7_planLikes l D k w_a b_a s_a w_detail w_skipped w_early w_late w_firstOnly w_firstYear w_years a_5 a_6 a_7 a_28 a_29 a_30 w_products w_weights w_subtotals w_way b_c0 b_z0 b_c1 b_z1 b_c2 b_z2 b_c3 b_z3 b_c4 b_z4 b_sg s_np a_13 a_14 a_15 a_16 s_bestWay a_17 s_answer s_mine s_theirs h_11 h_12 x1_18 u33 u35 e36) dX7_sumUp_85 ⟨Nat.le_of_ble_eq_true rfl, Nat.le_of_ble_eq_true rfl⟩ ⟨Nat.zero_le _, Nat.zero_le _⟩ rfl rfl (Nat.le_of_ble_eq_true rfl) rfl rfl rfl ?_
            clear e36
            refine cx_aload_n C dX7_sumUp_88 1 rfl ?_
            refine cx_iload_n C dX7_sumUp_89 2 rfl ?_
            refine cx_iload_n C dX7_sumUp_90 0 rfl ?_
            obtain ⟨u37, e38, hf⟩ := cx_bd_at hf
            refine cx_Fvv (q := (RX7, TX7, 19)) (As := [.int x1_18, .int u33]) (rest := []) (w1 := (wd_Ways k w_a b_a s_a w_detail w_skipped w_early w_late w_firstOnly w_firstYear w_years a_5 a_6 a_7 u35.1 u35.2 u37 w_products w_weights w_subtotals w_way ++ (wd_Box k b_a b_c0 b_z0 b_c1 b_z1 b_c2 b_z2 b_c3 b_z3 b_c4 b_z4 b_sg ++ (wd_Sums k s_a s_np a_13 a_14 a_15 a_16 s_bestWay a_17 s_answer s_mine s_theirs h_11 h_12)))) hA C me_X7_planNamings hw_660 (c_X7_planNamings l D k w_a b_a s_a w_detail w_skipped w_early w_late w_firstOnly w_firstYear w_years a_5 a_6 a_7 u35.1 u35.2 a_30 w_products w_weights w_subtotals w_way b_c0 b_z0 b_c1 b_z1 b_c2 b_z2 b_c3 b_z3 b_c4 b_z4 b_sg s_np a_13 a_14 a_15 a_16 s_bestWay a_17 s_answer s_mine s_theirs h_11 h_12 x1_18 u33 u37 e38) dX7_sumUp_91 ⟨Nat.le_of_ble_eq_true rfl, Nat.le_of_ble_eq_true rfl⟩ ⟨Nat.zero_le _, Nat.zero_le _⟩ rfl rfl (Nat.le_of_ble_eq_true rfl) rfl rfl rfl ?_
            clear e38
            refine cx_iinc (v := x2_31 + 1) (lv' := [(2, .int (x2_31 + 1)), (3, .int u33), (0, .ref (w_a 0)), (1, .int x1_18)]) C dX7_sumUp_94 3 rfl rfl (by decide) rfl ?_
            refine cx_goto (tgt := 53) C dX7_sumUp_97 (by decide) ?_
            refine cx_lv [2, 3, 0] rfl ?_
            exact ih53 u35.1 u35.2 u37 (x2_31 + 1) hf
      unfold f_X7_sumUp_L37 at hf
      refine cx_iload_n C dX7_sumUp_37 1 rfl ?_
      refine cx_aload_n C dX7_sumUp_38 0 rfl ?_
      refine cx_get (v := .ref (b_a 0)) (ci := 6) C iX7 dX7_sumUp_39 0 rfl rfl 1 (by decide) hw_199 rfl ?_
      refine cx_get (v := .ref (b_a 5)) (ci := 1) C iX1 dX7_sumUp_42 13 rfl rfl 2 (by decide) hw_69 rfl ?_
      refine cx_get (v := .int b_z2) (ci := 3) C iX4 dX7_sumUp_45 18 rfl rfl 3 (by decide) hw_48 rfl ?_
      refine cx_icmp_ge (tgt := 106) C dX7_sumUp_48 (by decide) (fun c19 => ?_) (fun c19 => ?_)
      · have hf := cx_if_t hf c19
        clear c19
        refine cx_aload_n C dX7_sumUp_106 0 rfl ?_
        refine cx_get (v := .ref (w_a 10)) (ci := 6) C iX7 dX7_sumUp_107 0 rfl rfl 16 (by decide) hw_214 rfl ?_
        refine cx_iconst (v := 0) C dX7_sumUp_110 (by decide) ?_
        refine cx_iconst (v := 1) C dX7_sumUp_111 (by decide) ?_
        obtain ⟨u20, e21, hf⟩ := cx_bd_at hf
        refine cx_csv (As := [.ref (w_a 10), .int 0, .int 1]) (rest := []) (ws' := (wd_Ways k w_a b_a s_a w_detail w_skipped w_early w_late w_firstOnly w_firstYear w_years a_5 a_6 a_7 a_8 a_9 a_10 w_products u20 w_subtotals w_way ++ (wd_Box k b_a b_c0 b_z0 b_c1 b_z1 b_c2 b_z2 b_c3 b_z3 b_c4 b_z4 b_sg ++ (wd_Sums k s_a s_np a_13 a_14 a_15 a_16 s_bestWay a_17 s_answer s_mine s_theirs h_11 h_12)))) hA C me_X3_set hw_669 (c_X3_set l D k (w_a 10) 28 w_weights 0 1 u20 e21) dX7_sumUp_112 ⟨Nat.le_of_ble_eq_true rfl, Nat.le_of_ble_eq_true rfl⟩ ⟨Nat.zero_le _, Nat.zero_le _⟩ rfl rfl (Nat.le_of_ble_eq_true rfl) [10] rfl (by decide) rfl rfl ?_
        clear e21
        refine cx_aload_n C dX7_sumUp_115 0 rfl ?_
        obtain ⟨u22, e23, hf⟩ := cx_bd_at hf
        refine cx_Fvv (q := (RX7, TX7, 19)) (As := []) (rest := []) (w1 := (wd_Ways k w_a b_a s_a w_detail w_skipped w_early w_late w_firstOnly w_firstYear w_years a_5 a_6 a_7 a_8 a_9 a_10 w_products u22 w_subtotals w_way ++ (wd_Box k b_a b_c0 b_z0 b_c1 b_z1 b_c2 b_z2 b_c3 b_z3 b_c4 b_z4 b_sg ++ (wd_Sums k s_a s_np a_13 a_14 a_15 a_16 s_bestWay a_17 s_answer s_mine s_theirs h_11 h_12)))) hA C me_X7_takeEmptyPictures hw_673 (c_X7_takeEmptyPictures l D k w_a b_a s_a w_detail w_skipped w_early w_late w_firstOnly w_firstYear w_years a_5 a_6 a_7 a_8 a_9 a_10 w_products u20 w_subtotals w_way b_c0 b_z0 b_c1 b_z1 b_c2 b_z2 b_c3 b_z3 b_c4 b_z4 b_sg s_np a_13 a_14 a_15 a_16 s_bestWay a_17 s_answer s_mine s_theirs h_11 h_12 u22 e23) dX7_sumUp_116 ⟨Nat.le_of_ble_eq_true rfl, Nat.le_of_ble_eq_true rfl⟩ ⟨Nat.zero_le _, Nat.zero_le _⟩ rfl rfl (Nat.le_of_ble_eq_true rfl) rfl rfl rfl ?_
        clear e23
        refine cx_aload_n C dX7_sumUp_119 0 rfl ?_
        refine cx_iconst (v := 0) C dX7_sumUp_120 (by decide) ?_
        refine cx_iconst (v := 0) C dX7_sumUp_121 (by decide) ?_
        obtain ⟨u24, e25, hf⟩ := cx_bd_at hf
        refine cx_Fvv (q := (RX7, TX7, 19)) (As := [.int 0, .int 0]) (rest := []) (w1 := (wd_Ways k w_a b_a s_a w_detail w_skipped w_early w_late w_firstOnly w_firstYear w_years a_5 a_6 a_7 a_8 a_9 a_10 u24.1 u24.2.1 u24.2.2.1 u24.2.2.2.1 ++ (wd_Box k b_a b_c0 b_z0 b_c1 b_z1 b_c2 b_z2 b_c3 b_z3 b_c4 b_z4 b_sg ++ (wd_Sums k s_a s_np a_13 u24.2.2.2.2.1 u24.2.2.2.2.2.1 u24.2.2.2.2.2.2.1 u24.2.2.2.2.2.2.2.1 u24.2.2.2.2.2.2.2.2 s_answer s_mine s_theirs h_11 h_12)))) hA C me_X7_descend hw_685 (c_X7_descend l D k w_a b_a s_a w_detail w_skipped w_early w_late w_firstOnly w_firstYear w_years a_5 a_6 a_7 a_8 a_9 a_10 b_c0 b_z0 b_c1 b_z1 b_c2 b_z2 b_c3 b_z3 b_c4 b_z4 b_sg s_np a_13 s_answer s_mine s_theirs h_11 h_12 8 w_products u22 w_subtotals w_way a_14 a_15 a_16 s_bestWay a_17 0 0 u24 e25) dX7_sumUp_122 ⟨Nat.le_of_ble_eq_true rfl, Nat.le_of_ble_eq_true rfl⟩ ⟨Nat.zero_le _, Nat.zero_le _⟩ rfl rfl (Nat.le_of_ble_eq_true rfl) rfl rfl rfl ?_
        clear e25
        refine cx_aload_n C dX7_sumUp_125 0 rfl ?_
        refine cx_get (v := .ref (s_a 0)) (ci := 6) C iX7 dX7_sumUp_126 0 rfl rfl 0 (by decide) hw_197 rfl ?_
        refine cx_aload_n C dX7_sumUp_129 0 rfl ?_
        refine cx_get (v := .ref (w_a 11)) (ci := 6) C iX7 dX7_sumUp_130 0 rfl rfl 17 (by decide) hw_215 rfl ?_
        refine cx_iconst (v := 0) C dX7_sumUp_133 (by decide) ?_
        obtain ⟨u26, e27, hf⟩ := cx_bd_at hf
        refine cx_cvv (q := (RX5, TX5, 11)) (As := [.ref (w_a 11), .int 0]) (rest := []) (ws' := (wd_Ways k w_a b_a s_a w_detail w_skipped w_early w_late w_firstOnly w_firstYear w_years a_5 a_6 a_7 a_8 a_9 a_10 u24.1 u24.2.1 u24.2.2.1 u24.2.2.2.1 ++ (wd_Box k b_a b_c0 b_z0 b_c1 b_z1 b_c2 b_z2 b_c3 b_z3 b_c4 b_z4 b_sg ++ (wd_Sums k s_a s_np u26.1 u26.2 u24.2.2.2.2.2.1 u24.2.2.2.2.2.2.1 u24.2.2.2.2.2.2.2.1 u24.2.2.2.2.2.2.2.2 s_answer s_mine s_theirs h_11 h_12)))) hA C me_X5_finish hw_754 (c_X5_finish l D k s_a (w_a 11) s_np a_13 u24.2.2.2.2.1 u24.2.2.2.2.2.1 u24.2.2.2.2.2.2.1 u24.2.2.2.2.2.2.2.1 u24.2.2.2.2.2.2.2.2 s_answer s_mine s_theirs h_11 h_12 28 u24.2.2.1 0 u26 e27) dX7_sumUp_134 ⟨Nat.le_of_ble_eq_true rfl, Nat.le_of_ble_eq_true rfl⟩ ⟨Nat.zero_le _, Nat.zero_le _⟩ rfl rfl (Nat.le_of_ble_eq_true rfl) rfl rfl [24, 25, 26, 27, 28, 29, 30, 31, 32, 33, 11] rfl (by decide) rfl rfl ?_
        clear e27
        obtain rfl := Option.some.inj hf
        exact cx_vret C hA hQ hr hlk dX7_sumUp_137 rfl
      · have hf := cx_if_f hf c19
        clear c19
        refine cx_iconst (v := 0) C dX7_sumUp_51 (by decide) ?_
        refine cx_istore_n (lv' := [(2, .int 0), (0, .ref (w_a 0)), (1, .int x1_18)]) C dX7_sumUp_52 rfl (by decide) rfl ?_
        refine cx_lv [1, 2, 0] rfl ?_
        exact L53 cx_N0 a_8 a_9 a_10 0 hf
  unfold f_X7_sumUp at hf
  refine cx_aload_n C dX7_sumUp_0 0 rfl ?_
  refine cx_get (v := .ref (s_a 0)) (ci := 6) C iX7 dX7_sumUp_1 0 rfl rfl 0 (by decide) hw_197 rfl ?_
  refine cx_aload_n C dX7_sumUp_4 0 rfl ?_
  refine cx_get (v := .ref (b_a 0)) (ci := 6) C iX7 dX7_sumUp_5 0 rfl rfl 1 (by decide) hw_199 rfl ?_
  refine cx_get (v := .ref (b_a 1)) (ci := 1) C iX1 dX7_sumUp_8 13 rfl rfl 0 (by decide) hw_62 rfl ?_
  refine cx_get (v := .int b_z0) (ci := 3) C iX4 dX7_sumUp_11 14 rfl rfl 3 (by decide) hw_48 rfl ?_
  refine cx_aload_n C dX7_sumUp_14 0 rfl ?_
  refine cx_get (v := .ref (b_a 0)) (ci := 6) C iX7 dX7_sumUp_15 0 rfl rfl 1 (by decide) hw_199 rfl ?_
  refine cx_get (v := .ref (b_a 5)) (ci := 1) C iX1 dX7_sumUp_18 13 rfl rfl 2 (by decide) hw_69 rfl ?_
  refine cx_get (v := .int b_z2) (ci := 3) C iX4 dX7_sumUp_21 18 rfl rfl 3 (by decide) hw_48 rfl ?_
  refine cx_aload_n C dX7_sumUp_24 0 rfl ?_
  refine cx_get (v := .int w_detail) (ci := 6) C iX7 dX7_sumUp_25 0 rfl rfl 2 (by decide) hw_200 rfl ?_
  obtain ⟨u1, e2, hf⟩ := cx_bd_at hf
  refine cx_cvv (q := (RX5, TX5, 11)) (As := [.int b_z0, .int b_z2, .int w_detail]) (rest := []) (ws' := (wd_Ways k w_a b_a s_a w_detail w_skipped w_early w_late w_firstOnly w_firstYear w_years w_place w_before w_closing w_likes w_likeSums w_namings w_products w_weights w_subtotals w_way ++ (wd_Box k b_a b_c0 b_z0 b_c1 b_z1 b_c2 b_z2 b_c3 b_z3 b_c4 b_z4 b_sg ++ (wd_Sums k s_a s_np u1.2.2.1 u1.2.2.2.1 u1.2.2.2.2.1 u1.2.2.2.2.2.1 s_bestWay u1.2.2.2.2.2.2 s_answer s_mine s_theirs u1.1 u1.2.1)))) hA C me_X5_empty hw_636 (c_X5_empty l D k s_a s_np s_total s_shares s_pairs s_crowds s_bestWay s_bestWeight s_answer s_mine s_theirs s_people s_heads b_z0 b_z2 w_detail u1 e2) dX7_sumUp_28 ⟨Nat.le_of_ble_eq_true rfl, Nat.le_of_ble_eq_true rfl⟩ ⟨Nat.zero_le _, Nat.zero_le _⟩ rfl rfl (Nat.le_of_ble_eq_true rfl) rfl rfl [24, 25, 26, 27, 28, 29, 30, 31, 32, 33] rfl (by decide) rfl rfl ?_
  clear e2
  refine cx_aload_n C dX7_sumUp_31 0 rfl ?_
  obtain ⟨u3, e4, hf⟩ := cx_bd_at hf
  refine cx_Fvv (q := (RX7, TX7, 19)) (As := []) (rest := []) (w1 := (wd_Ways k w_a b_a s_a w_detail w_skipped w_early w_late w_firstOnly w_firstYear w_years u3.1 u3.2.1 u3.2.2 w_likes w_likeSums w_namings w_products w_weights w_subtotals w_way ++ (wd_Box k b_a b_c0 b_z0 b_c1 b_z1 b_c2 b_z2 b_c3 b_z3 b_c4 b_z4 b_sg ++ (wd_Sums k s_a s_np u1.2.2.1 u1.2.2.2.1 u1.2.2.2.2.1 u1.2.2.2.2.2.1 s_bestWay u1.2.2.2.2.2.2 s_answer s_mine s_theirs u1.1 u1.2.1)))) hA C me_X7_placeHeads hw_644 (c_X7_placeHeads l D k w_a b_a s_a w_detail w_skipped w_early w_late w_firstOnly w_firstYear w_years w_place w_before w_closing w_likes w_likeSums w_namings w_products w_weights w_subtotals w_way b_c0 b_z0 b_c1 b_z1 b_c2 b_z2 b_c3 b_z3 b_c4 b_z4 b_sg s_np u1.2.2.1 u1.2.2.2.1 u1.2.2.2.2.1 u1.2.2.2.2.2.1 s_bestWay u1.2.2.2.2.2.2 s_answer s_mine s_theirs u1.1 u1.2.1 u3 e4) dX7_sumUp_32 ⟨Nat.le_of_ble_eq_true rfl, Nat.le_of_ble_eq_true rfl⟩ ⟨Nat.zero_le _, Nat.zero_le _⟩ rfl rfl (Nat.le_of_ble_eq_true rfl) rfl rfl rfl ?_
  clear e4
  refine cx_iconst (v := 0) C dX7_sumUp_35 (by decide) ?_
  refine cx_istore_n (lv' := [(1, .int 0), (0, .ref (w_a 0))]) C dX7_sumUp_36 rfl (by decide) rfl ?_
  refine cx_lv [1, 0] rfl ?_
  exact L37 u3.1 u3.2.1 u3.2.2 u1.1 u1.2.1 u1.2.2.1 u1.2.2.2.1 u1.2.2.2.2.1 u1.2.2.2.2.2.1 u1.2.2.2.2.2.2 cx_N0 w_likes w_likeSums w_namings 0 hf
