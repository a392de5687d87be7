theorem dX0_planWrongly_0 : decode cX0_planWrongly 0 = .ok (.iconst 0, 1) := by decide +kernel
theorem dX0_planWrongly_1 : decode cX0_planWrongly 1 = .ok (.istore_n 3, 1) := by decide +kernel
theorem dX0_planWrongly_2 : decode cX0_planWrongly 2 = .ok (.iload_n 3, 1) := by decide +kernel
theorem dX0_planWrongly_3 : decode cX0_planWrongly 3 = .ok (.aload_n 0, 1) := by decide +kernel
theorem dX0_planWrongly_4 : decode cX0_planWrongly 4 = .ok (.getfield 32, 3) := by decide +kernel
theorem dX0_planWrongly_7 : decode cX0_planWrongly 7 = .ok (.getfield 64, 3) := by decide +kernel
theorem dX0_planWrongly_10 : decode cX0_planWrongly 10 = .ok (.getfield 46, 3) := by decide +kernel
theorem dX0_planWrongly_13 : decode cX0_planWrongly 13 = .ok (.if_icmp .gt 133, 3) := by decide +kernel
theorem dX0_planWrongly_16 : decode cX0_planWrongly 16 = .ok (.iload_n 3, 1) := by decide +kernel
theorem dX0_planWrongly_17 : decode cX0_planWrongly 17 = .ok (.aload_n 0, 1) := by decide +kernel
theorem dX0_planWrongly_18 : decode cX0_planWrongly 18 = .ok (.getfield 32, 3) := by decide +kernel
theorem dX0_planWrongly_21 : decode cX0_planWrongly 21 = .ok (.getfield 64, 3) := by decide +kernel
theorem dX0_planWrongly_24 : decode cX0_planWrongly 24 = .ok (.getfield 46, 3) := by decide +kernel
theorem dX0_planWrongly_27 : decode cX0_planWrongly 27 = .ok (.invokestatic 102, 3) := by decide +kernel
theorem dX0_planWrongly_30 : decode cX0_planWrongly 30 = .ok (.istore 4, 2) := by decide +kernel
theorem dX0_planWrongly_32 : decode cX0_planWrongly 32 = .ok (.aload_n 0, 1) := by decide +kernel
theorem dX0_planWrongly_33 : decode cX0_planWrongly 33 = .ok (.getfield 23, 3) := by decide +kernel
theorem dX0_planWrongly_36 : decode cX0_planWrongly 36 = .ok (.iload 4, 2) := by decide +kernel
theorem dX0_planWrongly_38 : decode cX0_planWrongly 38 = .ok (.invokestatic 67, 3) := by decide +kernel
theorem dX0_planWrongly_41 : decode cX0_planWrongly 41 = .ok (.iconst 0, 1) := by decide +kernel
theorem dX0_planWrongly_42 : decode cX0_planWrongly 42 = .ok (.istore 5, 2) := by decide +kernel
theorem dX0_planWrongly_44 : decode cX0_planWrongly 44 = .ok (.iload 5, 2) := by decide +kernel
theorem dX0_planWrongly_46 : decode cX0_planWrongly 46 = .ok (.aload_n 0, 1) := by decide +kernel
theorem dX0_planWrongly_47 : decode cX0_planWrongly 47 = .ok (.getfield 32, 3) := by decide +kernel
theorem dX0_planWrongly_50 : decode cX0_planWrongly 50 = .ok (.getfield 64, 3) := by decide +kernel
theorem dX0_planWrongly_53 : decode cX0_planWrongly 53 = .ok (.getfield 46, 3) := by decide +kernel
theorem dX0_planWrongly_56 : decode cX0_planWrongly 56 = .ok (.if_icmp .gt 84, 3) := by decide +kernel
theorem dX0_planWrongly_59 : decode cX0_planWrongly 59 = .ok (.iload 5, 2) := by decide +kernel
theorem dX0_planWrongly_61 : decode cX0_planWrongly 61 = .ok (.aload_n 0, 1) := by decide +kernel
theorem dX0_planWrongly_62 : decode cX0_planWrongly 62 = .ok (.getfield 32, 3) := by decide +kernel
theorem dX0_planWrongly_65 : decode cX0_planWrongly 65 = .ok (.getfield 64, 3) := by decide +kernel
theorem dX0_planWrongly_68 : decode cX0_planWrongly 68 = .ok (.getfield 46, 3) := by decide +kernel
theorem dX0_planWrongly_71 : decode cX0_planWrongly 71 = .ok (.invokestatic 102, 3) := by decide +kernel
theorem dX0_planWrongly_74 : decode cX0_planWrongly 74 = .ok (.istore 6, 2) := by decide +kernel
theorem dX0_planWrongly_76 : decode cX0_planWrongly 76 = .ok (.aload_n 0, 1) := by decide +kernel
theorem dX0_planWrongly_77 : decode cX0_planWrongly 77 = .ok (.getfield 36, 3) := by decide +kernel
theorem dX0_planWrongly_80 : decode cX0_planWrongly 80 = .ok (.aload_n 0, 1) := by decide +kernel
theorem dX0_planWrongly_81 : decode cX0_planWrongly 81 = .ok (.getfield 26, 3) := by decide +kernel
theorem dX0_planWrongly_84 : decode cX0_planWrongly 84 = .ok (.iconst 0, 1) := by decide +kernel
theorem dX0_planWrongly_85 : decode cX0_planWrongly 85 = .ok (.iload_n 1, 1) := by decide +kernel
theorem dX0_planWrongly_86 : decode cX0_planWrongly 86 = .ok (.iload 4, 2) := by decide +kernel
theorem dX0_planWrongly_88 : decode cX0_planWrongly 88 = .ok (.iload_n 2, 1) := by decide +kernel
theorem dX0_planWrongly_89 : decode cX0_planWrongly 89 = .ok (.iload 6, 2) := by decide +kernel
theorem dX0_planWrongly_91 : decode cX0_planWrongly 91 = .ok (.invokevirtual 106, 3) := by decide +kernel
theorem dX0_planWrongly_94 : decode cX0_planWrongly 94 = .ok (.aload_n 0, 1) := by decide +kernel
theorem dX0_planWrongly_95 : decode cX0_planWrongly 95 = .ok (.getfield 26, 3) := by decide +kernel
theorem dX0_planWrongly_98 : decode cX0_planWrongly 98 = .ok (.iconst 0, 1) := by decide +kernel
theorem dX0_planWrongly_99 : decode cX0_planWrongly 99 = .ok (.aload_n 0, 1) := by decide +kernel
theorem dX0_planWrongly_100 : decode cX0_planWrongly 100 = .ok (.getfield 26, 3) := by decide +kernel
theorem dX0_planWrongly_103 : decode cX0_planWrongly 103 = .ok (.iconst 0, 1) := by decide +kernel
theorem dX0_planWrongly_104 : decode cX0_planWrongly 104 = .ok (.bipush 10, 2) := by decide +kernel
theorem dX0_planWrongly_106 : decode cX0_planWrongly 106 = .ok (.aload_n 0, 1) := by decide +kernel
theorem dX0_planWrongly_107 : decode cX0_planWrongly 107 = .ok (.getfield 32, 3) := by decide +kernel
theorem dX0_planWrongly_110 : decode cX0_planWrongly 110 = .ok (.iload 6, 2) := by decide +kernel
theorem dX0_planWrongly_112 : decode cX0_planWrongly 112 = .ok (.invokevirtual 110, 3) := by decide +kernel
theorem dX0_planWrongly_115 : decode cX0_planWrongly 115 = .ok (.isub, 1) := by decide +kernel
theorem dX0_planWrongly_116 : decode cX0_planWrongly 116 = .ok (.i2l, 1) := by decide +kernel
theorem dX0_planWrongly_117 : decode cX0_planWrongly 117 = .ok (.invokestatic 76, 3) := by decide +kernel
theorem dX0_planWrongly_120 : decode cX0_planWrongly 120 = .ok (.aload_n 0, 1) := by decide +kernel
theorem dX0_planWrongly_121 : decode cX0_planWrongly 121 = .ok (.getfield 23, 3) := by decide +kernel
theorem dX0_planWrongly_124 : decode cX0_planWrongly 124 = .ok (.iload 4, 2) := by decide +kernel
theorem dX0_planWrongly_126 : decode cX0_planWrongly 126 = .ok (.aload_n 0, 1) := by decide +kernel
theorem dX0_planWrongly_127 : decode cX0_planWrongly 127 = .ok (.getfield 26, 3) := by decide +kernel
theorem dX0_planWrongly_130 : decode cX0_planWrongly 130 = .ok (.iconst 0, 1) := by decide +kernel
theorem dX0_planWrongly_131 : decode cX0_planWrongly 131 = .ok (.invokestatic 114, 3) := by decide +kernel
theorem dX0_planWrongly_134 : decode cX0_planWrongly 134 = .ok (.iinc 5 1, 3) := by decide +kernel
theorem dX0_planWrongly_137 : decode cX0_planWrongly 137 = .ok (.goto (-93), 3) := by decide +kernel
theorem dX0_planWrongly_140 : decode cX0_planWrongly 140 = .ok (.iinc 3 1, 3) := by decide +kernel
theorem dX0_planWrongly_143 : decode cX0_planWrongly 143 = .ok (.goto (-141), 3) := by decide +kernel
theorem dX0_planWrongly_146 : decode cX0_planWrongly 146 = .ok (.return_, 1) := by decide +kernel
theorem me_X0_planWrongly : cx_Mv yX0_planWrongly cX0_planWrongly 7 none 2 := ⟨⟨⟨by decide +kernel, by decide +kernel, by decide +kernel⟩, hw_10, hw_953⟩, hw_952, hs_33⟩
noncomputable def f_X0_planWrongly_L44 (b_c0 : Nat → Int32) (b_z0 : Int32) (s_np : Nat) (s_shares : Nat → Int64) (s_pairs : Nat → Int64) (p1 : Int32) (p2 : Int32) (x3_3 : Int32) (rc2 : (Nat → Int64) → (Nat → Int64) → Int32 → Option ((Nat → Int64) × (Nat → Int64))) (x4_11 : Int32) (rc44 : (Nat → Int64) → (Nat → Int64) → Int32 → Option ((Nat → Int64) × (Nat → Int64))) (a_9 : Nat → Int64) (a_10 : Nat → Int64) (x5_12 : Int32) : Option ((Nat → Int64) × (Nat → Int64)) := if b_z0 < x5_12 then (rc2 a_9 a_10 (x3_3 + 1)) else (Option.bind (f_X8_whoAt x5_12 b_z0) (fun u14 => Option.bind (f_X5_putJoint s_np s_shares s_pairs 4 a_10 0 p1 x4_11 p2 u14) (fun u16 => Option.bind (f_X1_auntTruth b_c0 b_z0 u14) (fun u18 => Option.bind (f_X3_multiply_x_e0 4 u16 0 0 (Int32.toInt64 (10 - u18))) (fun u20 => Option.bind (f_X3_add 24 a_9 x4_11 4 u20 0) (fun u22 => rc44 u22 u20 (x5_12 + 1)))))))
noncomputable def f_X0_planWrongly_L44w (b_c0 : Nat → Int32) (b_z0 : Int32) (s_np : Nat) (s_shares : Nat → Int64) (s_pairs : Nat → Int64) (p1 : Int32) (p2 : Int32) (x3_3 : Int32) (rc2 : (Nat → Int64) → (Nat → Int64) → Int32 → Option ((Nat → Int64) × (Nat → Int64))) (x4_11 : Int32) (n : Nat) : (Nat → Int64) → (Nat → Int64) → Int32 → Option ((Nat → Int64) × (Nat → Int64)) := Nat.rec (fun _ _ _ => none) (fun _ r => f_X0_planWrongly_L44 b_c0 b_z0 s_np s_shares s_pairs p1 p2 x3_3 rc2 x4_11 r) n
noncomputable def f_X0_planWrongly_L2 (b_c0 : Nat → Int32) (b_z0 : Int32) (s_np : Nat) (s_shares : Nat → Int64) (s_pairs : Nat → Int64) (p1 : Int32) (p2 : Int32) (rc2 : (Nat → Int64) → (Nat → Int64) → Int32 → Option ((Nat → Int64) × (Nat → Int64))) (a_1 : Nat → Int64) (a_2 : Nat → Int64) (x3_3 : Int32) : Option ((Nat → Int64) × (Nat → Int64)) := if b_z0 < x3_3 then (some ((a_1, a_2))) else (Option.bind (f_X8_whoAt x3_3 b_z0) (fun u5 => Option.bind (f_X3_zero 24 a_1 u5) (fun u7 => f_X0_planWrongly_L44w b_c0 b_z0 s_np s_shares s_pairs p1 p2 x3_3 rc2 u5 cx_N0 u7 a_2 0)))
noncomputable def f_X0_planWrongly_L2w (b_c0 : Nat → Int32) (b_z0 : Int32) (s_np : Nat) (s_shares : Nat → Int64) (s_pairs : Nat → Int64) (p1 : Int32) (p2 : Int32) (n : Nat) : (Nat → Int64) → (Nat → Int64) → Int32 → Option ((Nat → Int64) × (Nat → Int64)) := Nat.rec (fun _ _ _ => none) (fun _ r => f_X0_planWrongly_L2 b_c0 b_z0 s_np s_shares s_pairs p1 p2 r) n
noncomputable def f_X0_planWrongly (u_wrongly : Nat → Int64) (u_guess : Nat → Int64) (b_c0 : Nat → Int32) (b_z0 : Int32) (s_np : Nat) (s_shares : Nat → Int64) (s_pairs : Nat → Int64) (p1 : Int32) (p2 : Int32) : Option ((Nat → Int64) × (Nat → Int64)) := f_X0_planWrongly_L2w b_c0 b_z0 s_np s_shares s_pairs p1 p2 cx_N0 u_wrongly u_guess 0
set_option maxHeartbeats 4000000 in
set_option maxRecDepth 100000 in
theorem c_X0_planWrongly (l : Launch) (D : va_G) (k : Nat → ClassId) (u_a : Nat → Nat) (b_a : Nat → Nat) (s_a : Nat → Nat) (u_worth : Nat → Int64) (u_dearest : Nat → Int64) (u_unit : Nat → Int64) (u_wrongly : Nat → Int64) (u_guess : Nat → Int64) (u_most : Nat → Int64) (b_c0 : Nat → Int32) (b_z0 : Int32) (b_c1 : Nat → Int32) (b_z1 : Int32) (b_c2 : Nat → Int32) (b_z2 : Int32) (b_c3 : Nat → Int32) (b_z3 : Int32) (b_c4 : Nat → Int32) (b_z4 : Int32) (b_sg : Int32) (s_np : Nat) (s_total : Nat → Int64) (s_shares : Nat → Int64) (s_pairs : Nat → Int64) (s_crowds : Nat → Int64) (s_bestWay : Nat → Int32) (s_bestWeight : Nat → Int64) (s_answer : Nat → Int64) (s_mine : Nat → Int64) (s_theirs : Nat → Int64) (s_people : Int32) (s_heads : Int32) (p1 : Int32) (p2 : Int32) (y : (Nat → Int64) × (Nat → Int64)) (hf : f_X0_planWrongly u_wrongly u_guess b_c0 b_z0 s_np s_shares s_pairs p1 p2 = some y) : cx_M l yX0_planWrongly cX0_planWrongly 7 none 3 D k [.ref (u_a 0), .int p1, .int p2] (wd_Aunt k u_a b_a s_a u_worth u_dearest u_unit u_wrongly u_guess u_most ++ (wd_Box k b_a b_c0 b_z0 b_c1 b_z1 b_c2 b_z2 b_c3 b_z3 b_c4 b_z4 b_sg ++ (wd_Sums k s_a s_np s_total s_shares s_pairs s_crowds s_bestWay s_bestWeight s_answer s_mine s_theirs s_people s_heads))) (fun sz => cx_Qv D (wd_Aunt k u_a b_a s_a u_worth u_dearest u_unit u_wrongly u_guess u_most ++ (wd_Box k b_a b_c0 b_z0 b_c1 b_z1 b_c2 b_z2 b_c3 b_z3 b_c4 b_z4 b_sg ++ (wd_Sums k s_a s_np s_total s_shares s_pairs s_crowds s_bestWay s_bestWeight s_answer s_mine s_theirs s_people s_heads))) (wd_Aunt k u_a b_a s_a u_worth u_dearest u_unit y.1 y.2 u_most ++ (wd_Box k b_a b_c0 b_z0 b_c1 b_z1 b_c2 b_z2 b_c3 b_z3 b_c4 b_z4 b_sg ++ (wd_Sums k s_a s_np s_total s_shares s_pairs s_crowds s_bestWay s_bestWeight s_answer s_mine s_theirs s_people s_heads))) sz) := by
  refine cx_met (own := "NamelessBox$Aunt") (by decide) rfl (Nat.le_of_ble_eq_true rfl) ?_
  intro p e s m args below meth c A Q C hA hQ hr hlk
  refine cx_lv (lv' := [(0, .ref (u_a 0)), (1, .int p1), (2, .int p2)]) [0, 1, 2] rfl ?_
  have L2 : ∀ (n2 : Nat) (a_1 : Nat → Int64) (a_2 : Nat → Int64) (x3_3 : Int32), f_X0_planWrongly_L2w b_c0 b_z0 s_np s_shares s_pairs p1 p2 n2 a_1 a_2 x3_3 = some y → cx_S p l e (cx_rm 3) s m args below meth c A D 7 0 0 Q 2 [(0, .ref (u_a 0)), (1, .int p1), (2, .int p2), (3, .int x3_3)] [] (wd_Aunt k u_a b_a s_a u_worth u_dearest u_unit a_1 a_2 u_most ++ (wd_Box k b_a b_c0 b_z0 b_c1 b_z1 b_c2 b_z2 b_c3 b_z3 b_c4 b_z4 b_sg ++ (wd_Sums k s_a s_np s_total s_shares s_pairs s_crowds s_bestWay s_bestWeight s_answer s_mine s_theirs s_people s_heads))) := by
    intro  n2
    induction n2 with
    | zero =>
      intro a_1 a_2 x3_3 hf
      exact absurd (show (none : Option ((Nat → Int64) × (Nat → Int64))) = some y from hf) (fun h => by cases h)
    | succ n2 ih2 =>
      intro a_1 a_2 x3_3 hf
      have hf : f_X0_planWrongly_L2 b_c0 b_z0 s_np s_shares s_pairs p1 p2 (f_X0_planWrongly_L2w b_c0 b_z0 s_np s_shares s_pairs p1 p2 n2) a_1 a_2 x3_3 = some y := hf
      have L44 : ∀ (x4_11 : Int32) (n44 : Nat) (a_9 : Nat → Int64) (a_10 : Nat → Int64) (x5_12 : Int32), f_X0_planWrongly_L44w b_c0 b_z0 s_np s_shares s_pairs p1 p2 x3_3 (f_X0_planWrongly_L2w b_c0 b_z0 s_np s_shares s_pairs p1 p2 n2) x4_11 n44 a_9 a_10 x5_12 = some y → cx_S p l e (cx_rm 3) s m args below meth c A D 7 0 0 Q 44 [(0, .ref (u_a 0)), (1, .int p1), (2, .int p2), (3, .int x3_3), (4, .int x4_11), (5, .int x5_12)] [] (wd_Aunt k u_a b_a s_a u_worth u_dearest u_unit a_9 a_10 u_most ++ (wd_Box k b_a b_c0 b_z0 b_c1 b_z1 b_c2 b_z2 b_c3 b_z3 b_c4 b_z4 b_sg ++ (wd_Sums k s_a s_np s_total s_shares s_pairs s_crowds s_bestWay s_bestWeight s_answer s_mine s_theirs s_people s_heads))) := by
        intro x4_11 n44
        induction n44 with
        | zero =>
          intro a_9 a_10 x5_12 hf
          exact absurd (show (none : Option ((Nat → Int64) × (Nat → Int64))) = some y from hf) (fun h => by cases h)
        | succ n44 ih44 =>
          intro a_9 a_10 x5_12 hf
          have hf : f_X0_planWrongly_L44 b_c0 b_z0 s_np s_shares s_pairs p1 p2 x3_3 (f_X0_planWrongly_L2w b_c0 b_z0 s_np s_shares s_pairs p1 p2 n2) x4_11 (f_X0_planWrongly_L44w b_c0 b_z0 s_np s_shares s_pairs p1 p2 x3_3 (f_X0_planWrongly_L2w b_c0 b_z0 s_np s_shares s_pairs p1 p2 n2) x4_11 n44) a_9 a_10 x5_12 = some y := hf
          unfold f_X0_planWrongly_L44 at hf
          refine cx_iload C dX0_planWrongly_44 5 rfl ?_
          refine cx_aload_n C dX0_planWrongly_46 0 rfl ?_
          refine cx_get (v := .ref (b_a 0)) (ci := 0) C iX0 dX0_planWrongly_47 0 rfl rfl 3 (by decide) hw_268 rfl ?_
          refine cx_get (v := .ref (b_a 1)) (ci := 1) C iX1 dX0_planWrongly_50 7 rfl rfl 0 (by decide) hw_61 rfl ?_
          refine cx_get (v := .int b_z0) (ci := 3) C iX4 dX0_planWrongly_53 8 rfl rfl 3 (by decide) hw_47 rfl ?_
          refine cx_icmp_gt (tgt := 140) C dX0_planWrongly_56 (by decide) (fun c13 => ?_) (fun c13 => ?_)
          · have hf := cx_if_t hf c13
            clear c13
            refine cx_iinc (v := x3_3 + 1) (lv' := [(3, .int (x3_3 + 1)), (0, .ref (u_a 0)), (1, .int p1), (2, .int p2), (4, .int x4_11), (5, .int x5_12)]) C dX0_planWrongly_140 3 rfl rfl (by decide) rfl ?_
            refine cx_goto (tgt := 2) C dX0_planWrongly_143 (by decide) ?_
            refine cx_lv [1, 2, 3, 0] rfl ?_
            exact ih2 a_9 a_10 (x3_3 + 1) hf
          · have hf := cx_if_f hf c13
            clear c13
            refine cx_iload C dX0_planWrongly_59 5 rfl ?_
            refine cx_aload_n C dX0_planWrongly_61 0 rfl ?_
            refine cx_get (v := .ref (b_a 0)) (ci := 0) C iX0 dX0_planWrongly_62 0 rfl rfl 3 (by decide) hw_268 rfl ?_
            refine cx_get (v := .ref (b_a 1)) (ci := 1) C iX1 dX0_planWrongly_65 7 rfl rfl 0 (by decide) hw_61 rfl ?_
            refine cx_get (v := .int b_z0) (ci := 3) C iX4 dX0_planWrongly_68 8 rfl rfl 3 (by decide) hw_47 rfl ?_
            obtain ⟨u14, e15, hf⟩ := cx_bd_at hf
            refine cx_Kni (As := [.int x5_12, .int b_z0]) (rest := []) hA C me_X8_whoAt (fun h => h.2.2.2.2.2.2) (c_X8_whoAt l D k x5_12 b_z0 u14 e15) dX0_planWrongly_71 ⟨Nat.le_of_ble_eq_true rfl, Nat.le_of_ble_eq_true rfl⟩ ⟨Nat.zero_le _, Nat.zero_le _⟩ rfl rfl (Nat.le_of_ble_eq_true rfl) [] rfl (by decide) ?_
            clear e15
            refine cx_istore (lv' := [(6, .int u14), (0, .ref (u_a 0)), (1, .int p1), (2, .int p2), (3, .int x3_3), (4, .int x4_11), (5, .int x5_12)]) C dX0_planWrongly_74 (by decide) rfl ?_
            refine cx_aload_n C dX0_planWrongly_76 1 rfl ?_
            refine cx_get (v := .ref (s_a 0)) (ci := 0) C iX0 dX0_planWrongly_77 0 rfl rfl 4 (by decide) hw_269 rfl ?_
            refine cx_aload_n C dX0_planWrongly_80 1 rfl ?_
            refine cx_get (v := .ref (u_a 5)) (ci := 0) C iX0 dX0_planWrongly_81 0 rfl rfl 6 (by decide) hw_271 rfl ?_
            refine cx_iconst (v := 0) C dX0_planWrongly_84 (by decide) ?_
            refine cx_iload_n C dX0_planWrongly_85 2 rfl ?_
            refine cx_iload C dX0_planWrongly_86 5 rfl ?_
            refine cx_iload_n C dX0_planWrongly_88 3 rfl ?_
            refine cx_iload C dX0_planWrongly_89 0 rfl ?_
            obtain ⟨u16, e17, hf⟩ := cx_bd_at hf
            refine cx_cvv (q := (RX5, TX5, 11)) (As := [.ref (u_a 5), .int 0, .int p1, .int x4_11, .int p2, .int u14]) (rest := []) (ws' := (wd_Aunt k u_a b_a s_a u_worth u_dearest u_unit a_9 u16 u_most ++ (wd_Box k b_a b_c0 b_z0 b_c1 b_z1 b_c2 b_z2 b_c3 b_z3 b_c4 b_z4 b_sg ++ (wd_Sums k s_a s_np s_total s_shares s_pairs s_crowds s_bestWay s_bestWeight s_answer s_mine s_theirs s_people s_heads)))) hA C me_X5_putJoint hw_955 (c_X5_putJoint l D k s_a (u_a 5) s_np s_total s_shares s_pairs s_crowds s_bestWay s_bestWeight s_answer s_mine s_theirs s_people s_heads 4 a_10 0 p1 x4_11 p2 u14 u16 e17) dX0_planWrongly_91 ⟨Nat.le_of_ble_eq_true rfl, Nat.le_of_ble_eq_true rfl⟩ ⟨Nat.zero_le _, Nat.zero_le _⟩ rfl rfl (Nat.le_of_ble_eq_true rfl) rfl rfl [18, 19, 20, 21, 22, 23, 24, 25, 26, 27, 5] rfl (by decide) rfl rfl ?_
            clear e17
            refine cx_aload_n C dX0_planWrongly_94 1 rfl ?_
            refine cx_get (v := .ref (u_a 5)) (ci := 0) C iX0 dX0_planWrongly_95 0 rfl rfl 6 (by decide) hw_271 rfl ?_
            refine cx_iconst (v := 0) C dX0_planWrongly_98 (by decide) ?_
            refine cx_aload_n C dX0_planWrongly_99 1 rfl ?_
            refine cx_get (v := .ref (u_a 5)) (ci := 0) C iX0 dX0_planWrongly_100 0 rfl rfl 6 (by decide) hw_271 rfl ?_
            refine cx_iconst (v := 0) C dX0_planWrongly_103 (by decide) ?_
            refine cx_bipush (v := 10) C dX0_planWrongly_104 (by decide) ?_
            refine cx_aload_n C dX0_planWrongly_106 1 rfl ?_
            refine cx_get (v := .ref (b_a 0)) (ci := 0) C iX0 dX0_planWrongly_107 0 rfl rfl 3 (by decide) hw_268 rfl ?_
            refine cx_iload C dX0_planWrongly_110 0 rfl ?_
            obtain ⟨u18, e19, hf⟩ := cx_bd_at hf
            refine cx_Kvi (q := (RX1, TX1, 6)) (As := [.int u14]) (rest := [.int 10, .int 0, .ref (u_a 5), .int 0, .ref (u_a 5)]) hA C me_X1_auntTruth hw_956 (c_X1_auntTruth l D k b_a b_c0 b_z0 b_c1 b_z1 b_c2 b_z2 b_c3 b_z3 b_c4 b_z4 b_sg u14 u18 e19) dX0_planWrongly_112 ⟨Nat.le_of_ble_eq_true rfl, Nat.le_of_ble_eq_true rfl⟩ ⟨Nat.zero_le _, Nat.zero_le _⟩ rfl rfl (Nat.le_of_ble_eq_true rfl) rfl rfl [7, 8, 9, 10, 11, 12, 13, 14, 15, 16, 17] rfl (by decide) ?_
            clear e19
            refine cx_isub C dX0_planWrongly_115 ?_
            refine cx_i2l C dX0_planWrongly_116 ?_
            obtain ⟨u20, e21, hf⟩ := cx_bd_at hf
            refine cx_csv (As := [.ref (u_a 5), .int 0, .ref (u_a 5), .int 0, .long (Int32.toInt64 (10 - u18))]) (rest := []) (ws' := (wd_Aunt k u_a b_a s_a u_worth u_dearest u_unit a_9 u20 u_most ++ (wd_Box k b_a b_c0 b_z0 b_c1 b_z1 b_c2 b_z2 b_c3 b_z3 b_c4 b_z4 b_sg ++ (wd_Sums k s_a s_np s_total s_shares s_pairs s_crowds s_bestWay s_bestWeight s_answer s_mine s_theirs s_people s_heads)))) hA C me_X3_multiply hw_949 (c_X3_multiply_x_e0 l D k (u_a 5) 4 u16 0 0 (Int32.toInt64 (10 - u18)) u20 e21) dX0_planWrongly_117 ⟨Nat.le_of_ble_eq_true rfl, Nat.le_of_ble_eq_true rfl⟩ ⟨Nat.zero_le _, Nat.zero_le _⟩ rfl rfl (Nat.le_of_ble_eq_true rfl) [5] rfl (by decide) rfl rfl ?_
            clear e21
            refine cx_aload_n C dX0_planWrongly_120 1 rfl ?_
            refine cx_get (v := .ref (u_a 4)) (ci := 0) C iX0 dX0_planWrongly_121 0 rfl rfl 5 (by decide) hw_270 rfl ?_
            refine cx_iload C dX0_planWrongly_124 5 rfl ?_
            refine cx_aload_n C dX0_planWrongly_126 1 rfl ?_
            refine cx_get (v := .ref (u_a 5)) (ci := 0) C iX0 dX0_planWrongly_127 0 rfl rfl 6 (by decide) hw_271 rfl ?_
            refine cx_iconst (v := 0) C dX0_planWrongly_130 (by decide) ?_
            obtain ⟨u22, e23, hf⟩ := cx_bd_at hf
            refine cx_csv (As := [.ref (u_a 4), .int x4_11, .ref (u_a 5), .int 0]) (rest := []) (ws' := (wd_Aunt k u_a b_a s_a u_worth u_dearest u_unit u22 u20 u_most ++ (wd_Box k b_a b_c0 b_z0 b_c1 b_z1 b_c2 b_z2 b_c3 b_z3 b_c4 b_z4 b_sg ++ (wd_Sums k s_a s_np s_total s_shares s_pairs s_crowds s_bestWay s_bestWeight s_answer s_mine s_theirs s_people s_heads)))) hA C me_X3_add hw_960 (c_X3_add l D k (u_a 4) (u_a 5) 24 a_9 x4_11 4 u20 0 u22 e23) dX0_planWrongly_131 ⟨Nat.le_of_ble_eq_true rfl, Nat.le_of_ble_eq_true rfl⟩ ⟨Nat.zero_le _, Nat.zero_le _⟩ rfl rfl (Nat.le_of_ble_eq_true rfl) [4, 5] rfl (by decide) rfl rfl ?_
            clear e23
            refine cx_iinc (v := x5_12 + 1) (lv' := [(5, .int (x5_12 + 1)), (6, .int u14), (0, .ref (u_a 0)), (1, .int p1), (2, .int p2), (3, .int x3_3), (4, .int x4_11)]) C dX0_planWrongly_134 6 rfl rfl (by decide) rfl ?_
            refine cx_goto (tgt := 44) C dX0_planWrongly_137 (by decide) ?_
            refine cx_lv [2, 3, 4, 5, 6, 0] rfl ?_
            exact ih44 u22 u20 (x5_12 + 1) hf
      unfold f_X0_planWrongly_L2 at hf
      refine cx_iload_n C dX0_planWrongly_2 3 rfl ?_
      refine cx_aload_n C dX0_planWrongly_3 0 rfl ?_
      refine cx_get (v := .ref (b_a 0)) (ci := 0) C iX0 dX0_planWrongly_4 0 rfl rfl 3 (by decide) hw_268 rfl ?_
      refine cx_get (v := .ref (b_a 1)) (ci := 1) C iX1 dX0_planWrongly_7 7 rfl rfl 0 (by decide) hw_61 rfl ?_
      refine cx_get (v := .int b_z0) (ci := 3) C iX4 dX0_planWrongly_10 8 rfl rfl 3 (by decide) hw_47 rfl ?_
      refine cx_icmp_gt (tgt := 146) C dX0_planWrongly_13 (by decide) (fun c4 => ?_) (fun c4 => ?_)
      · have hf := cx_if_t hf c4
        clear c4
        obtain rfl := Option.some.inj hf
        exact cx_vret C hA hQ hr hlk dX0_planWrongly_146 rfl
      · have hf := cx_if_f hf c4
        clear c4
        refine cx_iload_n C dX0_planWrongly_16 3 rfl ?_
        refine cx_aload_n C dX0_planWrongly_17 0 rfl ?_
        refine cx_get (v := .ref (b_a 0)) (ci := 0) C iX0 dX0_planWrongly_18 0 rfl rfl 3 (by decide) hw_268 rfl ?_
        refine cx_get (v := .ref (b_a 1)) (ci := 1) C iX1 dX0_planWrongly_21 7 rfl rfl 0 (by decide) hw_61 rfl ?_
        refine cx_get (v := .int b_z0) (ci := 3) C iX4 dX0_planWrongly_24 8 rfl rfl 3 (by decide) hw_47 rfl ?_
        obtain ⟨u5, e6, hf⟩ := cx_bd_at hf
        refine cx_Kni (As := [.int x3_3, .int b_z0]) (rest := []) hA C me_X8_whoAt (fun h => h.2.2.2.2.2.2) (c_X8_whoAt l D k x3_3 b_z0 u5 e6) dX0_planWrongly_27 ⟨Nat.le_of_ble_eq_true rfl, Nat.le_of_ble_eq_true rfl⟩ ⟨Nat.zero_le _, Nat.zero_le _⟩ rfl rfl (Nat.le_of_ble_eq_true rfl) [] rfl (by decide) ?_
        clear e6
        refine cx_istore (lv' := [(4, .int u5), (0, .ref (u_a 0)), (1, .int p1), (2, .int p2), (3, .int x3_3)]) C dX0_planWrongly_30 (by decide) rfl ?_
        refine cx_aload_n C dX0_planWrongly_32 1 rfl ?_
        refine cx_get (v := .ref (u_a 4)) (ci := 0) C iX0 dX0_planWrongly_33 0 rfl rfl 5 (by decide) hw_270 rfl ?_
        refine cx_iload C dX0_planWrongly_36 0 rfl ?_
        obtain ⟨u7, e8, hf⟩ := cx_bd_at hf
        refine cx_csv (As := [.ref (u_a 4), .int u5]) (rest := []) (ws' := (wd_Aunt k u_a b_a s_a u_worth u_dearest u_unit u7 a_2 u_most ++ (wd_Box k b_a b_c0 b_z0 b_c1 b_z1 b_c2 b_z2 b_c3 b_z3 b_c4 b_z4 b_sg ++ (wd_Sums k s_a s_np s_total s_shares s_pairs s_crowds s_bestWay s_bestWeight s_answer s_mine s_theirs s_people s_heads)))) hA C me_X3_zero hw_947 (c_X3_zero l D k (u_a 4) 24 a_1 u5 u7 e8) dX0_planWrongly_38 ⟨Nat.le_of_ble_eq_true rfl, Nat.le_of_ble_eq_true rfl⟩ ⟨Nat.zero_le _, Nat.zero_le _⟩ rfl rfl (Nat.le_of_ble_eq_true rfl) [4] rfl (by decide) rfl rfl ?_
        clear e8
        refine cx_iconst (v := 0) C dX0_planWrongly_41 (by decide) ?_
        refine cx_istore (lv' := [(5, .int 0), (4, .int u5), (0, .ref (u_a 0)), (1, .int p1), (2, .int p2), (3, .int x3_3)]) C dX0_planWrongly_42 (by decide) rfl ?_
        refine cx_lv [2, 3, 4, 5, 1, 0] rfl ?_
        exact L44 u5 cx_N0 u7 a_2 0 hf
  unfold f_X0_planWrongly at hf
  refine cx_iconst (v := 0) C dX0_planWrongly_0 (by decide) ?_
  refine cx_istore_n (lv' := [(3, .int 0), (0, .ref (u_a 0)), (1, .int p1), (2, .int p2)]) C dX0_planWrongly_1 rfl (by decide) rfl ?_
  refine cx_lv [1, 2, 3, 0] rfl ?_
  exact L2 cx_N0 u_wrongly u_guess 0 hf
theorem dX0_addBehind_0 : decode cX0_addBehind 0 = .ok (.aload_n 0, 1) := by decide +kernel
theorem dX0_addBehind_1 : decode cX0_addBehind 1 = .ok (.getfield 32, 3) := by decide +kernel
theorem dX0_addBehind_4 : decode cX0_addBehind 4 = .ok (.getfield 64, 3) := by decide +kernel
theorem dX0_addBehind_7 : decode cX0_addBehind 7 = .ok (.getfield 46, 3) := by decide +kernel
theorem dX0_addBehind_10 : decode cX0_addBehind 10 = .ok (.istore_n 3, 1) := by decide +kernel
theorem dX0_addBehind_11 : decode cX0_addBehind 11 = .ok (.iconst 0, 1) := by decide +kernel
theorem dX0_addBehind_12 : decode cX0_addBehind 12 = .ok (.istore 4, 2) := by decide +kernel
theorem dX0_addBehind_14 : decode cX0_addBehind 14 = .ok (.iload 4, 2) := by decide +kernel
theorem dX0_addBehind_16 : decode cX0_addBehind 16 = .ok (.iload_n 3, 1) := by decide +kernel
theorem dX0_addBehind_17 : decode cX0_addBehind 17 = .ok (.if_icmp .gt 172, 3) := by decide +kernel
theorem dX0_addBehind_20 : decode cX0_addBehind 20 = .ok (.iload 4, 2) := by decide +kernel
theorem dX0_addBehind_22 : decode cX0_addBehind 22 = .ok (.iload_n 3, 1) := by decide +kernel
theorem dX0_addBehind_23 : decode cX0_addBehind 23 = .ok (.invokestatic 102, 3) := by decide +kernel
theorem dX0_addBehind_26 : decode cX0_addBehind 26 = .ok (.istore 5, 2) := by decide +kernel
theorem dX0_addBehind_28 : decode cX0_addBehind 28 = .ok (.iload_n 3, 1) := by decide +kernel
theorem dX0_addBehind_29 : decode cX0_addBehind 29 = .ok (.aload_n 0, 1) := by decide +kernel
theorem dX0_addBehind_30 : decode cX0_addBehind 30 = .ok (.getfield 32, 3) := by decide +kernel
theorem dX0_addBehind_33 : decode cX0_addBehind 33 = .ok (.iload 5, 2) := by decide +kernel
theorem dX0_addBehind_35 : decode cX0_addBehind 35 = .ok (.invokevirtual 110, 3) := by decide +kernel
theorem dX0_addBehind_38 : decode cX0_addBehind 38 = .ok (.imul, 1) := by decide +kernel
theorem dX0_addBehind_39 : decode cX0_addBehind 39 = .ok (.bipush 10, 2) := by decide +kernel
theorem dX0_addBehind_41 : decode cX0_addBehind 41 = .ok (.aload_n 0, 1) := by decide +kernel
theorem dX0_addBehind_42 : decode cX0_addBehind 42 = .ok (.getfield 32, 3) := by decide +kernel
theorem dX0_addBehind_45 : decode cX0_addBehind 45 = .ok (.iload 5, 2) := by decide +kernel
theorem dX0_addBehind_47 : decode cX0_addBehind 47 = .ok (.invokevirtual 110, 3) := by decide +kernel
theorem dX0_addBehind_50 : decode cX0_addBehind 50 = .ok (.isub, 1) := by decide +kernel
theorem dX0_addBehind_51 : decode cX0_addBehind 51 = .ok (.isub, 1) := by decide +kernel
theorem dX0_addBehind_52 : decode cX0_addBehind 52 = .ok (.istore 6, 2) := by decide +kernel
theorem dX0_addBehind_54 : decode cX0_addBehind 54 = .ok (.aload_n 0, 1) := by decide +kernel
theorem dX0_addBehind_55 : decode cX0_addBehind 55 = .ok (.getfield 29, 3) := by decide +kernel
theorem dX0_addBehind_58 : decode cX0_addBehind 58 = .ok (.iconst 0, 1) := by decide +kernel
theorem dX0_addBehind_59 : decode cX0_addBehind 59 = .ok (.invokestatic 67, 3) := by decide +kernel
theorem dX0_addBehind_62 : decode cX0_addBehind 62 = .ok (.iconst 0, 1) := by decide +kernel
theorem dX0_addBehind_63 : decode cX0_addBehind 63 = .ok (.istore 7, 2) := by decide +kernel
theorem dX0_addBehind_65 : decode cX0_addBehind 65 = .ok (.iload 7, 2) := by decide +kernel
theorem dX0_addBehind_67 : decode cX0_addBehind 67 = .ok (.iload_n 3, 1) := by decide +kernel
theorem dX0_addBehind_68 : decode cX0_addBehind 68 = .ok (.if_icmp .gt 102, 3) := by decide +kernel
theorem dX0_addBehind_71 : decode cX0_addBehind 71 = .ok (.iload 7, 2) := by decide +kernel
theorem dX0_addBehind_73 : decode cX0_addBehind 73 = .ok (.iload_n 3, 1) := by decide +kernel
theorem dX0_addBehind_74 : decode cX0_addBehind 74 = .ok (.invokestatic 102, 3) := by decide +kernel
theorem dX0_addBehind_77 : decode cX0_addBehind 77 = .ok (.istore 8, 2) := by decide +kernel
theorem dX0_addBehind_79 : decode cX0_addBehind 79 = .ok (.aload_n 0, 1) := by decide +kernel
theorem dX0_addBehind_80 : decode cX0_addBehind 80 = .ok (.getfield 36, 3) := by decide +kernel
theorem dX0_addBehind_83 : decode cX0_addBehind 83 = .ok (.aload_n 0, 1) := by decide +kernel
theorem dX0_addBehind_84 : decode cX0_addBehind 84 = .ok (.getfield 26, 3) := by decide +kernel
theorem dX0_addBehind_87 : decode cX0_addBehind 87 = .ok (.iconst 0, 1) := by decide +kernel
theorem dX0_addBehind_88 : decode cX0_addBehind 88 = .ok (.iload_n 1, 1) := by decide +kernel
theorem dX0_addBehind_89 : decode cX0_addBehind 89 = .ok (.iload 8, 2) := by decide +kernel
theorem dX0_addBehind_91 : decode cX0_addBehind 91 = .ok (.iload_n 2, 1) := by decide +kernel
theorem dX0_addBehind_92 : decode cX0_addBehind 92 = .ok (.iload 5, 2) := by decide +kernel
theorem dX0_addBehind_94 : decode cX0_addBehind 94 = .ok (.invokevirtual 106, 3) := by decide +kernel
theorem dX0_addBehind_97 : decode cX0_addBehind 97 = .ok (.aload_n 0, 1) := by decide +kernel
theorem dX0_addBehind_98 : decode cX0_addBehind 98 = .ok (.getfield 26, 3) := by decide +kernel
theorem dX0_addBehind_101 : decode cX0_addBehind 101 = .ok (.iconst 0, 1) := by decide +kernel
theorem dX0_addBehind_102 : decode cX0_addBehind 102 = .ok (.aload_n 0, 1) := by decide +kernel
theorem dX0_addBehind_103 : decode cX0_addBehind 103 = .ok (.getfield 26, 3) := by decide +kernel
theorem dX0_addBehind_106 : decode cX0_addBehind 106 = .ok (.iconst 0, 1) := by decide +kernel
theorem dX0_addBehind_107 : decode cX0_addBehind 107 = .ok (.iload 6, 2) := by decide +kernel
theorem dX0_addBehind_109 : decode cX0_addBehind 109 = .ok (.i2l, 1) := by decide +kernel
theorem dX0_addBehind_110 : decode cX0_addBehind 110 = .ok (.invokestatic 76, 3) := by decide +kernel
theorem dX0_addBehind_113 : decode cX0_addBehind 113 = .ok (.aload_n 0, 1) := by decide +kernel
theorem dX0_addBehind_114 : decode cX0_addBehind 114 = .ok (.getfield 26, 3) := by decide +kernel
theorem dX0_addBehind_117 : decode cX0_addBehind 117 = .ok (.iconst 0, 1) := by decide +kernel
theorem dX0_addBehind_118 : decode cX0_addBehind 118 = .ok (.aload_n 0, 1) := by decide +kernel
theorem dX0_addBehind_119 : decode cX0_addBehind 119 = .ok (.getfield 23, 3) := by decide +kernel
theorem dX0_addBehind_122 : decode cX0_addBehind 122 = .ok (.iload 8, 2) := by decide +kernel
theorem dX0_addBehind_124 : decode cX0_addBehind 124 = .ok (.invokestatic 114, 3) := by decide +kernel
theorem dX0_addBehind_127 : decode cX0_addBehind 127 = .ok (.aload_n 0, 1) := by decide +kernel
theorem dX0_addBehind_128 : decode cX0_addBehind 128 = .ok (.getfield 26, 3) := by decide +kernel
theorem dX0_addBehind_131 : decode cX0_addBehind 131 = .ok (.iconst 0, 1) := by decide +kernel
theorem dX0_addBehind_132 : decode cX0_addBehind 132 = .ok (.invokestatic 87, 3) := by decide +kernel
theorem dX0_addBehind_135 : decode cX0_addBehind 135 = .ok (.aload_n 0, 1) := by decide +kernel
theorem dX0_addBehind_136 : decode cX0_addBehind 136 = .ok (.getfield 26, 3) := by decide +kernel
theorem dX0_addBehind_139 : decode cX0_addBehind 139 = .ok (.iconst 0, 1) := by decide +kernel
theorem dX0_addBehind_140 : decode cX0_addBehind 140 = .ok (.aload_n 0, 1) := by decide +kernel
theorem dX0_addBehind_141 : decode cX0_addBehind 141 = .ok (.getfield 29, 3) := by decide +kernel
theorem dX0_addBehind_144 : decode cX0_addBehind 144 = .ok (.iconst 0, 1) := by decide +kernel
theorem dX0_addBehind_145 : decode cX0_addBehind 145 = .ok (.invokestatic 56, 3) := by decide +kernel
theorem dX0_addBehind_148 : decode cX0_addBehind 148 = .ok (.ifCond .le 16, 3) := by decide +kernel
theorem dX0_addBehind_151 : decode cX0_addBehind 151 = .ok (.aload_n 0, 1) := by decide +kernel
theorem dX0_addBehind_152 : decode cX0_addBehind 152 = .ok (.getfield 29, 3) := by decide +kernel
theorem dX0_addBehind_155 : decode cX0_addBehind 155 = .ok (.iconst 0, 1) := by decide +kernel
theorem dX0_addBehind_156 : decode cX0_addBehind 156 = .ok (.aload_n 0, 1) := by decide +kernel
theorem dX0_addBehind_157 : decode cX0_addBehind 157 = .ok (.getfield 26, 3) := by decide +kernel
theorem dX0_addBehind_160 : decode cX0_addBehind 160 = .ok (.iconst 0, 1) := by decide +kernel
theorem dX0_addBehind_161 : decode cX0_addBehind 161 = .ok (.invokestatic 60, 3) := by decide +kernel
theorem dX0_addBehind_164 : decode cX0_addBehind 164 = .ok (.iinc 7 1, 3) := by decide +kernel
theorem dX0_addBehind_167 : decode cX0_addBehind 167 = .ok (.goto (-102), 3) := by decide +kernel
theorem dX0_addBehind_170 : decode cX0_addBehind 170 = .ok (.aload_n 0, 1) := by decide +kernel
theorem dX0_addBehind_171 : decode cX0_addBehind 171 = .ok (.getfield 11, 3) := by decide +kernel
theorem dX0_addBehind_174 : decode cX0_addBehind 174 = .ok (.iconst 0, 1) := by decide +kernel
theorem dX0_addBehind_175 : decode cX0_addBehind 175 = .ok (.aload_n 0, 1) := by decide +kernel
theorem dX0_addBehind_176 : decode cX0_addBehind 176 = .ok (.getfield 29, 3) := by decide +kernel
theorem dX0_addBehind_179 : decode cX0_addBehind 179 = .ok (.iconst 0, 1) := by decide +kernel
theorem dX0_addBehind_180 : decode cX0_addBehind 180 = .ok (.invokestatic 114, 3) := by decide +kernel
theorem dX0_addBehind_183 : decode cX0_addBehind 183 = .ok (.iinc 4 1, 3) := by decide +kernel
theorem dX0_addBehind_186 : decode cX0_addBehind 186 = .ok (.goto (-172), 3) := by decide +kernel
theorem dX0_addBehind_189 : decode cX0_addBehind 189 = .ok (.return_, 1) := by decide +kernel
theorem me_X0_addBehind : cx_Mv yX0_addBehind cX0_addBehind 9 none 2 := ⟨⟨⟨by decide +kernel, by decide +kernel, by decide +kernel⟩, hw_10, hw_964⟩, hw_963, hs_34⟩
noncomputable def f_X0_addBehind_J164 (x7_18 : Int32) (rc65 : (Nat → Int64) → (Nat → Int64) → Int32 → Option ((Nat → Int64) × (Nat → Int64) × (Nat → Int64))) (a_35 : Nat → Int64) (a_36 : Nat → Int64) : Option ((Nat → Int64) × (Nat → Int64) × (Nat → Int64)) := rc65 a_35 a_36 (x7_18 + 1)
noncomputable def f_X0_addBehind_L65 (u_wrongly : Nat → Int64) (b_z0 : Int32) (s_np : Nat) (s_shares : Nat → Int64) (s_pairs : Nat → Int64) (p1 : Int32) (p2 : Int32) (a_1 : Nat → Int64) (x4_4 : Int32) (rc14 : (Nat → Int64) → (Nat → Int64) → (Nat → Int64) → Int32 → Option ((Nat → Int64) × (Nat → Int64) × (Nat → Int64))) (x5_16 : Int32) (x6_17 : Int32) (rc65 : (Nat → Int64) → (Nat → Int64) → Int32 → Option ((Nat → Int64) × (Nat → Int64) × (Nat → Int64))) (a_14 : Nat → Int64) (a_15 : Nat → Int64) (x7_18 : Int32) : Option ((Nat → Int64) × (Nat → Int64) × (Nat → Int64)) := if b_z0 < x7_18 then (Option.bind (f_X3_add 4 a_1 0 4 a_15 0) (fun u20 => rc14 u20 a_14 a_15 (x4_4 + 1))) else (Option.bind (f_X8_whoAt x7_18 b_z0) (fun u22 => Option.bind (f_X5_putJoint s_np s_shares s_pairs 4 a_14 0 p1 u22 p2 x5_16) (fun u24 => Option.bind (f_X3_multiply_x_e0 4 u24 0 0 (Int32.toInt64 x6_17)) (fun u26 => Option.bind (f_X3_add 4 u26 0 24 u_wrongly u22) (fun u28 => Option.bind (f_X3_carry 4 u28 0) (fun u30 => Option.bind (f_X3_compare 4 u30 0 4 a_15 0) (fun u32 => if u32 ≤ 0 then (f_X0_addBehind_J164 x7_18 rc65 u30 a_15) else (Option.bind (f_X3_copy 4 a_15 0 4 u30 0) (fun u37 => f_X0_addBehind_J164 x7_18 rc65 u30 u37)))))))))
noncomputable def f_X0_addBehind_L65w (u_wrongly : Nat → Int64) (b_z0 : Int32) (s_np : Nat) (s_shares : Nat → Int64) (s_pairs : Nat → Int64) (p1 : Int32) (p2 : Int32) (a_1 : Nat → Int64) (x4_4 : Int32) (rc14 : (Nat → Int64) → (Nat → Int64) → (Nat → Int64) → Int32 → Option ((Nat → Int64) × (Nat → Int64) × (Nat → Int64))) (x5_16 : Int32) (x6_17 : Int32) (n : Nat) : (Nat → Int64) → (Nat → Int64) → Int32 → Option ((Nat → Int64) × (Nat → Int64) × (Nat → Int64)) := Nat.rec (fun _ _ _ => none) (fun _ r => f_X0_addBehind_L65 u_wrongly b_z0 s_np s_shares s_pairs p1 p2 a_1 x4_4 rc14 x5_16 x6_17 r) n
noncomputable def f_X0_addBehind_L14 (u_wrongly : Nat → Int64) (b_c0 : Nat → Int32) (b_z0 : Int32) (s_np : Nat) (s_shares : Nat → Int64) (s_pairs : Nat → Int64) (p1 : Int32) (p2 : Int32) (rc14 : (Nat → Int64) → (Nat → Int64) → (Nat → Int64) → Int32 → Option ((Nat → Int64) × (Nat → Int64) × (Nat → Int64))) (a_1 : Nat → Int64) (a_2 : Nat → Int64) (a_3 : Nat → Int64) (x4_4 : Int32) : Option ((Nat → Int64) × (Nat → Int64) × (Nat → Int64)) := if b_z0 < x4_4 then (some ((a_1, a_2, a_3))) else (Option.bind (f_X8_whoAt x4_4 b_z0) (fun u6 => Option.bind (f_X1_auntTruth b_c0 b_z0 u6) (fun u8 => Option.bind (f_X1_auntTruth b_c0 b_z0 u6) (fun u10 => Option.bind (f_X3_zero 4 a_3 0) (fun u12 => f_X0_addBehind_L65w u_wrongly b_z0 s_np s_shares s_pairs p1 p2 a_1 x4_4 rc14 u6 ((b_z0 * u8) - (10 - u10)) cx_N0 a_2 u12 0)))))
noncomputable def f_X0_addBehind_L14w (u_wrongly : Nat → Int64) (b_c0 : Nat → Int32) (b_z0 : Int32) (s_np : Nat) (s_shares : Nat → Int64) (s_pairs : Nat → Int64) (p1 : Int32) (p2 : Int32) (n : Nat) : (Nat → Int64) → (Nat → Int64) → (Nat → Int64) → Int32 → Option ((Nat → Int64) × (Nat → Int64) × (Nat → Int64)) := Nat.rec (fun _ _ _ _ => none) (fun _ r => f_X0_addBehind_L14 u_wrongly b_c0 b_z0 s_np s_shares s_pairs p1 p2 r) n
noncomputable def f_X0_addBehind (u_worth : Nat → Int64) (u_wrongly : Nat → Int64) (u_guess : Nat → Int64) (u_most : Nat → Int64) (b_c0 : Nat → Int32) (b_z0 : Int32) (s_np : Nat) (s_shares : Nat → Int64) (s_pairs : Nat → Int64) (p1 : Int32) (p2 : Int32) : Option ((Nat → Int64) × (Nat → Int64) × (Nat → Int64)) := f_X0_addBehind_L14w u_wrongly b_c0 b_z0 s_np s_shares s_pairs p1 p2 cx_N0 u_worth u_guess u_most 0
set_option maxHeartbeats 4000000 in
set_option maxRecDepth 100000 in
theorem c_X0_addBehind (l : Launch) (D : va_G) (k : Nat → ClassId) (u_a : Nat → Nat) (b_a : Nat → Nat) (s_a : Nat → Nat) (u_worth : Nat → Int64) (u_dearest : Nat → Int64) (u_unit : Nat → Int64) (u_wrongly : Nat → Int64) (u_guess : Nat → Int64) (u_most : Nat → Int64) (b_c0 : Nat → Int32) (b_z0 : Int32) (b_c1 : Nat → Int32) (b_z1 : Int32) (b_c2 : Nat → Int32) (b_z2 : Int32) (b_c3 : Nat → Int32) (b_z3 : Int32) (b_c4 : Nat → Int32) (b_z4 : Int32) (b_sg : Int32) (s_np : Nat) (s_total : Nat → Int64) (s_shares : Nat → Int64) (s_pairs : Nat → Int64) (s_crowds : Nat → Int64) (s_bestWay : Nat → Int32) (s_bestWeight : Nat → Int64) (s_answer : Nat → Int64) (s_mine : Nat → Int64) (s_theirs : Nat → Int64) (s_people : Int32) (s_heads : Int32) (p1 : Int32) (p2 : Int32) (y : (Nat → Int64) × (Nat → Int64) × (Nat → Int64)) (hf : f_X0_addBehind u_worth u_wrongly u_guess u_most b_c0 b_z0 s_np s_shares s_pairs p1 p2 = some y) : cx_M l yX0_addBehind cX0_addBehind 9 none 3 D k [.ref (u_a 0), .int p1, .int p2] (wd_Aunt k u_a b_a s_a u_worth u_dearest u_unit u_wrongly u_guess u_most ++ (wd_Box k b_a b_c0 b_z0 b_c1 b_z1 b_c2 b_z2 b_c3 b_z3 b_c4 b_z4 b_sg ++ (wd_Sums k s_a s_np s_total s_shares s_pairs s_crowds s_bestWay s_bestWeight s_answer s_mine s_theirs s_people s_heads))) (fun sz => cx_Qv D (wd_Aunt k u_a b_a s_a u_worth u_dearest u_unit u_wrongly u_guess u_most ++ (wd_Box k b_a b_c0 b_z0 b_c1 b_z1 b_c2 b_z2 b_c3 b_z3 b_c4 b_z4 b_sg ++ (wd_Sums k s_a s_np s_total s_shares s_pairs s_crowds s_bestWay s_bestWeight s_answer s_mine s_theirs s_people s_heads))) (wd_Aunt k u_a b_a s_a y.1 u_dearest u_unit u_wrongly y.2.1 y.2.2 ++ (wd_Box k b_a b_c0 b_z0 b_c1 b_z1 b_c2 b_z2 b_c3 b_z3 b_c4 b_z4 b_sg ++ (wd_Sums k s_a s_np s_total s_shares s_pairs s_crowds s_bestWay s_bestWeight s_answer s_mine s_theirs s_people s_heads))) sz) := by
  refine cx_met (own := "NamelessBox$Aunt") (by decide) rfl (Nat.le_of_ble_eq_true rfl) ?_
  intro p e s m args below meth c A Q C hA hQ hr hlk
  refine cx_lv (lv' := [(0, .ref (u_a 0)), (1, .int p1), (2, .int p2)]) [0, 1, 2] rfl ?_
  have L14 : ∀ (n14 : Nat) (a_1 : Nat → Int64) (a_2 : Nat → Int64) (a_3 : Nat → Int64) (x4_4 : Int32), f_X0_addBehind_L14w u_wrongly b_c0 b_z0 s_np s_shares s_pairs p1 p2 n14 a_1 a_2 a_3 x4_4 = some y → cx_S p l e (cx_rm 3) s m args below meth c A D 9 0 0 Q 14 [(0, .ref (u_a 0)), (1, .int p1), (2, .int p2), (3, .int b_z0), (4, .int x4_4)] [] (wd_Aunt k u_a b_a s_a a_1 u_dearest u_unit u_wrongly a_2 a_3 ++ (wd_Box k b_a b_c0 b_z0 b_c1 b_z1 b_c2 b_z2 b_c3 b_z3 b_c4 b_z4 b_sg ++ (wd_Sums k s_a s_np s_total s_shares s_pairs s_crowds s_bestWay s_bestWeight s_answer s_mine s_theirs s_people s_heads))) := by
    intro  n14
    induction n14 with
    | zero =>
      intro a_1 a_2 a_3 x4_4 hf
      exact absurd (show (none : Option ((Nat → Int64) × (Nat → Int64) × (Nat → Int64))) = some y from hf) (fun h => by cases h)
    | succ n14 ih14 =>
      intro a_1 a_2 a_3 x4_4 hf
      have hf : f_X0_addBehind_L14 u_wrongly b_c0 b_z0 s_np s_shares s_pairs p1 p2 (f_X0_addBehind_L14w u_wrongly b_c0 b_z0 s_np s_shares s_pairs p1 p2 n14) a_1 a_2 a_3 x4_4 = some y := hf
      have L65 : ∀ (x5_16 : Int32) (x6_17 : Int32) (n65 : Nat) (a_14 : Nat → Int64) (a_15 : Nat → Int64) (x7_18 : Int32), f_X0_addBehind_L65w u_wrongly b_z0 s_np s_shares s_pairs p1 p2 a_1 x4_4 (f_X0_addBehind_L14w u_wrongly b_c0 b_z0 s_np s_shares s_pairs p1 p2 n14) x5_16 x6_17 n65 a_14 a_15 x7_18 = some y → cx_S p l e (cx_rm 3) s m args below meth c A D 9 0 0 Q 65 [(0, .ref (u_a 0)), (1, .int p1), (2, .int p2), (3, .int b_z0), (4, .int x4_4), (5, .int x5_16), (6, .int x6_17), (7, .int x7_18)] [] (wd_Aunt k u_a b_a s_a a_1 u_dearest u_unit u_wrongly a_14 a_15 ++ (wd_Box k b_a b_c0 b_z0 b_c1 b_z1 b_c2 b_z2 b_c3 b_z3 b_c4 b_z4 b_sg ++ (wd_Sums k s_a s_np s_total s_shares s_pairs s_crowds s_bestWay s_bestWeight s_answer s_mine s_theirs s_people s_heads))) := by
        intro x5_16 x6_17 n65
        induction n65 with
        | zero =>
          intro a_14 a_15 x7_18 hf
          exact absurd (show (none : Option ((Nat → Int64) × (Nat → Int64) × (Nat → Int64))) = some y from hf) (fun h => by cases h)
        | succ n65 ih65 =>
          intro a_14 a_15 x7_18 hf
          have hf : f_X0_addBehind_L65 u_wrongly b_z0 s_np s_shares s_pairs p1 p2 a_1 x4_4 (f_X0_addBehind_L14w u_wrongly b_c0 b_z0 s_np s_shares s_pairs p1 p2 n14) x5_16 x6_17 (f_X0_addBehind_L65w u_wrongly b_z0 s_np s_shares s_pairs p1 p2 a_1 x4_4 (f_X0_addBehind_L14w u_wrongly b_c0 b_z0 s_np s_shares s_pairs p1 p2 n14) x5_16 x6_17 n65) a_14 a_15 x7_18 = some y := hf
          have J164 : ∀ (a_35 : Nat → Int64) (a_36 : Nat → Int64), f_X0_addBehind_J164 x7_18 (f_X0_addBehind_L65w u_wrongly b_z0 s_np s_shares s_pairs p1 p2 a_1 x4_4 (f_X0_addBehind_L14w u_wrongly b_c0 b_z0 s_np s_shares s_pairs p1 p2 n14) x5_16 x6_17 n65) a_35 a_36 = some y → cx_S p l e (cx_rm 3) s m args below meth c A D 9 0 0 Q 164 [(0, .ref (u_a 0)), (1, .int p1), (2, .int p2), (3, .int b_z0), (4, .int x4_4), (5, .int x5_16), (6, .int x6_17), (7, .int x7_18)] [] (wd_Aunt k u_a b_a s_a a_1 u_dearest u_unit u_wrongly a_35 a_36 ++ (wd_Box k b_a b_c0 b_z0 b_c1 b_z1 b_c2 b_z2 b_c3 b_z3 b_c4 b_z4 b_sg ++ (wd_Sums k s_a s_np s_total s_shares s_pairs s_crowds s_bestWay s_bestWeight s_answer s_mine s_theirs s_people s_heads))) := by
            intro a_35 a_36 hf
            unfold f_X0_addBehind_J164 at hf
            refine cx_iinc (v := x7_18 + 1) (lv' := [(7, .int (x7_18 + 1)), (0, .ref (u_a 0)), (1, .int p1), (2, .int p2), (3, .int b_z0), (4, .int x4_4), (5, .int x5_16), (6, .int x6_17)]) C dX0_addBehind_164 7 rfl rfl (by decide) rfl ?_
            refine cx_goto (tgt := 65) C dX0_addBehind_167 (by decide) ?_
            refine cx_lv [1, 2, 3, 4, 5, 6, 7, 0] rfl ?_
            exact ih65 a_35 a_36 (x7_18 + 1) hf
          unfold f_X0_addBehind_L65 at hf
          refine cx_iload C dX0_addBehind_65 7 rfl ?_
          refine cx_iload_n C dX0_addBehind_67 3 rfl ?_
          refine cx_icmp_gt (tgt := 170) C dX0_addBehind_68 (by decide) (fun c19 => ?_) (fun c19 => ?_)
          · have hf := cx_if_t hf c19
            clear c19
            refine cx_aload_n C dX0_addBehind_170 0 rfl ?_
            refine cx_get (v := .ref (u_a 1)) (ci := 0) C iX0 dX0_addBehind_171 0 rfl rfl 0 (by decide) hw_262 rfl ?_
            refine cx_iconst (v := 0) C dX0_addBehind_174 (by decide) ?_
            refine cx_aload_n C dX0_addBehind_175 0 rfl ?_
            refine cx_get (v := .ref (u_a 6)) (ci := 0) C iX0 dX0_addBehind_176 0 rfl rfl 7 (by decide) hw_272 rfl ?_
            refine cx_iconst (v := 0) C dX0_addBehind_179 (by decide) ?_
            obtain ⟨u20, e21, hf⟩ := cx_bd_at hf
            refine cx_csv (As := [.ref (u_a 1), .int 0, .ref (u_a 6), .int 0]) (rest := []) (ws' := (wd_Aunt k u_a b_a s_a u20 u_dearest u_unit u_wrongly a_14 a_15 ++ (wd_Box k b_a b_c0 b_z0 b_c1 b_z1 b_c2 b_z2 b_c3 b_z3 b_c4 b_z4 b_sg ++ (wd_Sums k s_a s_np s_total s_shares s_pairs s_crowds s_bestWay s_bestWeight s_answer s_mine s_theirs s_people s_heads)))) hA C me_X3_add hw_960 (c_X3_add l D k (u_a 1) (u_a 6) 4 a_1 0 4 a_15 0 u20 e21) dX0_addBehind_180 ⟨Nat.le_of_ble_eq_true rfl, Nat.le_of_ble_eq_true rfl⟩ ⟨Nat.zero_le _, Nat.zero_le _⟩ rfl rfl (Nat.le_of_ble_eq_true rfl) [1, 6] rfl (by decide) rfl rfl ?_
            clear e21
            refine cx_iinc (v := x4_4 + 1) (lv' := [(4, .int (x4_4 + 1)), (0, .ref (u_a 0)), (1, .int p1), (2, .int p2), (3, .int b_z0), (5, .int x5_16), (6, .int x6_17), (7, .int x7_18)]) C dX0_addBehind_183 4 rfl rfl (by decide) rfl ?_
            refine cx_goto (tgt := 14) C dX0_addBehind_186 (by decide) ?_
            refine cx_lv [1, 2, 3, 4, 0] rfl ?_
            exact ih14 u20 a_14 a_15 (x4_4 + 1) hf
          · have hf := cx_if_f hf c19
            clear c19
            refine cx_iload C dX0_addBehind_71 7 rfl ?_
            refine cx_iload_n C dX0_addBehind_73 3 rfl ?_
            obtain ⟨u22, e23, hf⟩ := cx_bd_at hf
            refine cx_Kni (As := [.int x7_18, .int b_z0]) (rest := []) hA C me_X8_whoAt (fun h => h.2.2.2.2.2.2) (c_X8_whoAt l D k x7_18 b_z0 u22 e23) dX0_addBehind_74 ⟨Nat.le_of_ble_eq_true rfl, Nat.le_of_ble_eq_true rfl⟩ ⟨Nat.zero_le _, Nat.zero_le _⟩ rfl rfl (Nat.le_of_ble_eq_true rfl) [] rfl (by decide) ?_
            clear e23
            refine cx_istore (lv' := [(8, .int u22), (0, .ref (u_a 0)), (1, .int p1), (2, .int p2), (3, .int b_z0), (4, .int x4_4), (5, .int x5_16), (6, .int x6_17), (7, .int x7_18)]) C dX0_addBehind_77 (by decide) rfl ?_
            refine cx_aload_n C dX0_addBehind_79 1 rfl ?_
            refine cx_get (v := .ref (s_a 0)) (ci := 0) C iX0 dX0_addBehind_80 0 rfl rfl 4 (by decide) hw_269 rfl ?_
            refine cx_aload_n C dX0_addBehind_83 1 rfl ?_
            refine cx_get (v := .ref (u_a 5)) (ci := 0) C iX0 dX0_addBehind_84 0 rfl rfl 6 (by decide) hw_271 rfl ?_
            refine cx_iconst (v := 0) C dX0_addBehind_87 (by decide) ?_
            refine cx_iload_n C dX0_addBehind_88 2 rfl ?_
            refine cx_iload C dX0_addBehind_89 0 rfl ?_
            refine cx_iload_n C dX0_addBehind_91 3 rfl ?_
            refine cx_iload C dX0_addBehind_92 6 rfl ?_
            obtain ⟨u24, e25, hf⟩ := cx_bd_at hf
            refine cx_cvv (q := (RX5, TX5, 11)) (As := [.ref (u_a 5), .int 0, .int p1, .int u22, .int p2, .int x5_16]) (rest := []) (ws' := (wd_Aunt k u_a b_a s_a a_1 u_dearest u_unit u_wrongly u24 a_15 ++ (wd_Box k b_a b_c0 b_z0 b_c1 b_z1 b_c2 b_z2 b_c3 b_z3 b_c4 b_z4 b_sg ++ (wd_Sums k s_a s_np s_total s_shares s_pairs s_crowds s_bestWay s_bestWeight s_answer s_mine s_theirs s_people s_heads)))) hA C me_X5_putJoint hw_955 (c_X5_putJoint l D k s_a (u_a 5) s_np s_total s_shares s_pairs s_crowds s_bestWay s_bestWeight s_answer s_mine s_theirs s_people s_heads 4 a_14 0 p1 u22 p2 x5_16 u24 e25) dX0_addBehind_94 ⟨Nat.le_of_ble_eq_true rfl, Nat.le_of_ble_eq_true rfl⟩ ⟨Nat.zero_le _, Nat.zero_le _⟩ rfl rfl (Nat.le_of_ble_eq_true rfl) rfl rfl [18, 19, 20, 21, 22, 23, 24, 25, 26, 27, 5] rfl (by decide) rfl rfl ?_
            clear e25
            refine cx_aload_n C dX0_addBehind_97 1 rfl ?_
            refine cx_get (v := .ref (u_a 5)) (ci := 0) C iX0 dX0_addBehind_98 0 rfl rfl 6 (by decide) hw_271 rfl ?_
            refine cx_iconst (v := 0) C dX0_addBehind_101 (by decide) ?_
            refine cx_aload_n C dX0_addBehind_102 1 rfl ?_
            refine cx_get (v := .ref (u_a 5)) (ci := 0) C iX0 dX0_addBehind_103 0 rfl rfl 6 (by decide) hw_271 rfl ?_
            refine cx_iconst (v := 0) C dX0_addBehind_106 (by decide) ?_
            refine cx_iload C dX0_addBehind_107 7 rfl ?_
            refine cx_i2l C dX0_addBehind_109 ?_
            obtain ⟨u26, e27, hf⟩ := cx_bd_at hf
            refine cx_csv (As := [.ref (u_a 5), .int 0, .ref (u_a 5), .int 0, .long (Int32.toInt64 x6_17)]) (rest := []) (ws' := (wd_Aunt k u_a b_a s_a a_1 u_dearest u_unit u_wrongly u26 a_15 ++ (wd_Box k b_a b_c0 b_z0 b_c1 b_z1 b_c2 b_z2 b_c3 b_z3 b_c4 b_z4 b_sg ++ (wd_Sums k s_a s_np s_total s_shares s_pairs s_crowds s_bestWay s_bestWeight s_answer s_mine s_theirs s_people s_heads)))) hA C me_X3_multiply hw_949 (c_X3_multiply_x_e0 l D k (u_a 5) 4 u24 0 0 (Int32.toInt64 x6_17) u26 e27) dX0_addBehind_110 ⟨Nat.le_of_ble_eq_true rfl, Nat.le_of_ble_eq_true rfl⟩ ⟨Nat.zero_le _, Nat.zero_le _⟩ rfl rfl (Nat.le_of_ble_eq_true rfl) [5] rfl (by decide) rfl rfl ?_
            clear e27
            refine cx_aload_n C dX0_addBehind_113 1 rfl ?_
            refine cx_get (v := .ref (u_a 5)) (ci := 0) C iX0 dX0_addBehind_114 0 rfl rfl 6 (by decide) hw_271 rfl ?_
            refine cx_iconst (v := 0) C dX0_addBehind_117 (by decide) ?_
            refine cx_aload_n C dX0_addBehind_118 1 rfl ?_
            refine cx_get (v := .ref (u_a 4)) (ci := 0) C iX0 dX0_addBehind_119 0 rfl rfl 5 (by decide) hw_270 rfl ?_
            refine cx_iload C dX0_addBehind_122 0 rfl ?_
            obtain ⟨u28, e29, hf⟩ := cx_bd_at hf
            refine cx_csv (As := [.ref (u_a 5), .int 0, .ref (u_a 4), .int u22]) (rest := []) (ws' := (wd_Aunt k u_a b_a s_a a_1 u_dearest u_unit u_wrongly u28 a_15 ++ (wd_Box k b_a b_c0 b_z0 b_c1 b_z1 b_c2 b_z2 b_c3 b_z3 b_c4 b_z4 b_sg ++ (wd_Sums k s_a s_np s_total s_shares s_pairs s_crowds s_bestWay s_bestWeight s_answer s_mine s_theirs s_people s_heads)))) hA C me_X3_add hw_960 (c_X3_add l D k (u_a 5) (u_a 4) 4 u26 0 24 u_wrongly u22 u28 e29) dX0_addBehind_124 ⟨Nat.le_of_ble_eq_true rfl, Nat.le_of_ble_eq_true rfl⟩ ⟨Nat.zero_le _, Nat.zero_le _⟩ rfl rfl (Nat.le_of_ble_eq_true rfl) [5, 4] rfl (by decide) rfl rfl ?_
            clear e29
            refine cx_aload_n C dX0_addBehind_127 1 rfl ?_
            refine cx_get (v := .ref (u_a 5)) (ci := 0) C iX0 dX0_addBehind_128 0 rfl rfl 6 (by decide) hw_271 rfl ?_
            refine cx_iconst (v := 0) C dX0_addBehind_131 (by decide) ?_
            obtain ⟨u30, e31, hf⟩ := cx_bd_at hf
            refine cx_csv (As := [.ref (u_a 5), .int 0]) (rest := []) (ws' := (wd_Aunt k u_a b_a s_a a_1 u_dearest u_unit u_wrongly u30 a_15 ++ (wd_Box k b_a b_c0 b_z0 b_c1 b_z1 b_c2 b_z2 b_c3 b_z3 b_c4 b_z4 b_sg ++ (wd_Sums k s_a s_np s_total s_shares s_pairs s_crowds s_bestWay s_bestWeight s_answer s_mine s_theirs s_people s_heads)))) hA C me_X3_carry hw_965 (c_X3_carry l D k (u_a 5) 4 u28 0 u30 e31) dX0_addBehind_132 ⟨Nat.le_of_ble_eq_true rfl, Nat.le_of_ble_eq_true rfl⟩ ⟨Nat.zero_le _, Nat.zero_le _⟩ rfl rfl (Nat.le_of_ble_eq_true rfl) [5] rfl (by decide) rfl rfl ?_
            clear e31
            refine cx_aload_n C dX0_addBehind_135 1 rfl ?_
            refine cx_get (v := .ref (u_a 5)) (ci := 0) C iX0 dX0_addBehind_136 0 rfl rfl 6 (by decide) hw_271 rfl ?_
            refine cx_iconst (v := 0) C dX0_addBehind_139 (by decide) ?_
            refine cx_aload_n C dX0_addBehind_140 1 rfl ?_
            refine cx_get (v := .ref (u_a 6)) (ci := 0) C iX0 dX0_addBehind_141 0 rfl rfl 7 (by decide) hw_272 rfl ?_
            refine cx_iconst (v := 0) C dX0_addBehind_144 (by decide) ?_
            obtain ⟨u32, e33, hf⟩ := cx_bd_at hf
            refine cx_Ksi (As := [.ref (u_a 5), .int 0, .ref (u_a 6), .int 0]) (rest := []) hA C me_X3_compare hw_966 (c_X3_compare l D k (u_a 5) (u_a 6) 4 u30 0 4 a_15 0 u32 e33) dX0_addBehind_145 ⟨Nat.le_of_ble_eq_true rfl, Nat.le_of_ble_eq_true rfl⟩ ⟨Nat.zero_le _, Nat.zero_le _⟩ rfl rfl (Nat.le_of_ble_eq_true rfl) [5, 6] rfl (by decide) ?_
            clear e33
            refine cx_if_le (tgt := 164) C dX0_addBehind_148 (by decide) (fun c34 => ?_) (fun c34 => ?_)
            · have hf := cx_if_t hf c34
              clear c34
              refine cx_lv [1, 2, 3, 4, 5, 6, 7, 8] rfl ?_
              exact J164 u30 a_15 hf
            · have hf := cx_if_f hf c34
              clear c34
              refine cx_aload_n C dX0_addBehind_151 1 rfl ?_
              refine cx_get (v := .ref (u_a 6)) (ci := 0) C iX0 dX0_addBehind_152 0 rfl rfl 7 (by decide) hw_272 rfl ?_
              refine cx_iconst (v := 0) C dX0_addBehind_155 (by decide) ?_
              refine cx_aload_n C dX0_addBehind_156 1 rfl ?_
              refine cx_get (v := .ref (u_a 5)) (ci := 0) C iX0 dX0_addBehind_157 0 rfl rfl 6 (by decide) hw_271 rfl ?_
              refine cx_iconst (v := 0) C dX0_addBehind_160 (by decide) ?_
              obtain ⟨u37, e38, hf⟩ := cx_bd_at hf
              refine cx_csv (As := [.ref (u_a 6), .int 0, .ref (u_a 5), .int 0]) (rest := []) (ws' := (wd_Aunt k u_a b_a s_a a_1 u_dearest u_unit u_wrongly u30 u37 ++ (wd_Box k b_a b_c0 b_z0 b_c1 b_z1 b_c2 b_z2 b_c3 b_z3 b_c4 b_z4 b_sg ++ (wd_Sums k s_a s_np s_total s_shares s_pairs s_crowds s_bestWay s_bestWeight s_answer s_mine s_theirs s_people s_heads)))) hA C me_X3_copy hw_948 (c_X3_copy l D k (u_a 6) (u_a 5) 4 a_15 0 4 u30 0 u37 e38) dX0_addBehind_161 ⟨Nat.le_of_ble_eq_true rfl, Nat.le_of_ble_eq_true rfl⟩ ⟨Nat.zero_le _, Nat.zero_le _⟩ rfl rfl (Nat.le_of_ble_eq_true rfl) [6, 5] rfl (by decide) rfl rfl ?_
              clear e38
              refine cx_lv [1, 2, 3, 4, 5, 6, 7, 8] rfl ?_
              exact J164 u30 u37 hf
      unfold f_X0_addBehind_L14 at hf
      refine cx_iload C dX0_addBehind_14 4 rfl ?_
      refine cx_iload_n C dX0_addBehind_16 3 rfl ?_
      refine cx_icmp_gt (tgt := 189) C dX0_addBehind_17 (by decide) (fun c5 => ?_) (fun c5 => ?_)
      · have hf := cx_if_t hf c5
        clear c5
        obtain rfl := Option.some.inj hf
        exact cx_vret C hA hQ hr hlk dX0_addBehind_189 rfl
      · have hf := cx_if_f hf c5
        clear c5
        refine cx_iload C dX0_addBehind_20 4 rfl ?_
        refine cx_iload_n C dX0_addBehind_22 3 rfl ?_
        obtain ⟨u6, e7, hf⟩ := cx_bd_at hf
        refine cx_Kni (As := [.int x4_4, .int b_z0]) (rest := []) hA C me_X8_whoAt (fun h => h.2.2.2.2.2.2) (c_X8_whoAt l D k x4_4 b_z0 u6 e7) dX0_addBehind_23 ⟨Nat.le_of_ble_eq_true rfl, Nat.le_of_ble_eq_true rfl⟩ ⟨Nat.zero_le _, Nat.zero_le _⟩ rfl rfl (Nat.le_of_ble_eq_true rfl) [] rfl (by decide) ?_
        clear e7
        refine cx_istore (lv' := [(5, .int u6), (0, .ref (u_a 0)), (1, .int p1), (2, .int p2), (3, .int b_z0), (4, .int x4_4)]) C dX0_addBehind_26 (by decide) rfl ?_
        refine cx_iload_n C dX0_addBehind_28 4 rfl ?_
        refine cx_aload_n C dX0_addBehind_29 1 rfl ?_
        refine cx_get (v := .ref (b_a 0)) (ci := 0) C iX0 dX0_addBehind_30 0 rfl rfl 3 (by decide) hw_268 rfl ?_
        refine cx_iload C dX0_addBehind_33 0 rfl ?_
        obtain ⟨u8, e9, hf⟩ := cx_bd_at hf
        refine cx_Kvi (q := (RX1, TX1, 6)) (As := [.int u6]) (rest := [.int b_z0]) hA C me_X1_auntTruth hw_956 (c_X1_auntTruth l D k b_a b_c0 b_z0 b_c1 b_z1 b_c2 b_z2 b_c3 b_z3 b_c4 b_z4 b_sg u6 u8 e9) dX0_addBehind_35 ⟨Nat.le_of_ble_eq_true rfl, Nat.le_of_ble_eq_true rfl⟩ ⟨Nat.zero_le _, Nat.zero_le _⟩ rfl rfl (Nat.le_of_ble_eq_true rfl) rfl rfl [7, 8, 9, 10, 11, 12, 13, 14, 15, 16, 17] rfl (by decide) ?_
        clear e9
        refine cx_imul C dX0_addBehind_38 ?_
        refine cx_bipush (v := 10) C dX0_addBehind_39 (by decide) ?_
        refine cx_aload_n C dX0_addBehind_41 1 rfl ?_
        refine cx_get (v := .ref (b_a 0)) (ci := 0) C iX0 dX0_addBehind_42 0 rfl rfl 3 (by decide) hw_268 rfl ?_
        refine cx_iload C dX0_addBehind_45 0 rfl ?_
        obtain ⟨u10, e11, hf⟩ := cx_bd_at hf
        refine cx_Kvi (q := (RX1, TX1, 6)) (As := [.int u6]) (rest := [.int 10, .int (b_z0 * u8)]) hA C me_X1_auntTruth hw_956 (c_X1_auntTruth l D k b_a b_c0 b_z0 b_c1 b_z1 b_c2 b_z2 b_c3 b_z3 b_c4 b_z4 b_sg u6 u10 e11) dX0_addBehind_47 ⟨Nat.le_of_ble_eq_true rfl, Nat.le_of_ble_eq_true rfl⟩ ⟨Nat.zero_le _, Nat.zero_le _⟩ rfl rfl (Nat.le_of_ble_eq_true rfl) rfl rfl [7, 8, 9, 10, 11, 12, 13, 14, 15, 16, 17] rfl (by decide) ?_
        clear e11
        refine cx_isub C dX0_addBehind_50 ?_
        refine cx_isub C dX0_addBehind_51 ?_
        refine cx_istore (lv' := [(6, .int ((b_z0 * u8) - (10 - u10))), (5, .int u6), (0, .ref (u_a 0)), (1, .int p1), (2, .int p2), (3, .int b_z0), (4, .int x4_4)]) C dX0_addBehind_52 (by decide) rfl ?_
        refine cx_aload_n C dX0_addBehind_54 2 rfl ?_
        refine cx_get (v := .ref (u_a 6)) (ci := 0) C iX0 dX0_addBehind_55 0 rfl rfl 7 (by decide) hw_272 rfl ?_
        refine cx_iconst (v := 0) C dX0_addBehind_58 (by decide) ?_
        obtain ⟨u12, e13, hf⟩ := cx_bd_at hf
        refine cx_csv (As := [.ref (u_a 6), .int 0]) (rest := []) (ws' := (wd_Aunt k u_a b_a s_a a_1 u_dearest u_unit u_wrongly a_2 u12 ++ (wd_Box k b_a b_c0 b_z0 b_c1 b_z1 b_c2 b_z2 b_c3 b_z3 b_c4 b_z4 b_sg ++ (wd_Sums k s_a s_np s_total s_shares s_pairs s_crowds s_bestWay s_bestWeight s_answer s_mine s_theirs s_people s_heads)))) hA C me_X3_zero hw_947 (c_X3_zero l D k (u_a 6) 4 a_3 0 u12 e13) dX0_addBehind_59 ⟨Nat.le_of_ble_eq_true rfl, Nat.le_of_ble_eq_true rfl⟩ ⟨Nat.zero_le _, Nat.zero_le _⟩ rfl rfl (Nat.le_of_ble_eq_true rfl) [6] rfl (by decide) rfl rfl ?_
        clear e13
        refine cx_iconst (v := 0) C dX0_addBehind_62 (by decide) ?_
        refine cx_istore (lv' := [(7, .int 0), (6, .int ((b_z0 * u8) - (10 - u10))), (5, .int u6), (0, .ref (u_a 0)), (1, .int p1), (2, .int p2), (3, .int b_z0), (4, .int x4_4)]) C dX0_addBehind_63 (by decide) rfl ?_
        refine cx_lv [3, 4, 5, 6, 7, 2, 1, 0] rfl ?_
        exact L65 u6 ((b_z0 * u8) - (10 - u10)) cx_N0 a_2 u12 0 hf
  unfold f_X0_addBehind at hf
  refine cx_aload_n C dX0_addBehind_0 0 rfl ?_
  refine cx_get (v := .ref (b_a 0)) (ci := 0) C iX0 dX0_addBehind_1 0 rfl rfl 3 (by decide) hw_268 rfl ?_
  refine cx_get (v := .ref (b_a 1)) (ci := 1) C iX1 dX0_addBehind_4 7 rfl rfl 0 (by decide) hw_61 rfl ?_
  refine cx_get (v := .int b_z0) (ci := 3) C iX4 dX0_addBehind_7 8 rfl rfl 3 (by decide) hw_47 rfl ?_
  refine cx_istore_n (lv' := [(3, .int b_z0), (0, .ref (u_a 0)), (1, .int p1), (2, .int p2)]) C dX0_addBehind_10 rfl (by decide) rfl ?_
  refine cx_iconst (v := 0) C dX0_addBehind_11 (by decide) ?_
  refine cx_istore (lv' := [(4, .int 0), (3, .int b_z0), (0, .ref (u_a 0)), (1, .int p1), (2, .int p2)]) C dX0_addBehind_12 (by decide) rfl ?_
  refine cx_lv [2, 3, 4, 1, 0] rfl ?_
  exact L14 cx_N0 u_worth u_guess u_most 0 hf
theorem dX0_weigh_0 : decode cX0_weigh 0 = .ok (.aload_n 0, 1) := by decide +kernel
theorem dX0_weigh_1 : decode cX0_weigh 1 = .ok (.getfield 32, 3) := by decide +kernel
theorem dX0_weigh_4 : decode cX0_weigh 4 = .ok (.getfield 64, 3) := by decide +kernel
theorem dX0_weigh_7 : decode cX0_weigh 7 = .ok (.getfield 46, 3) := by decide +kernel
theorem dX0_weigh_10 : decode cX0_weigh 10 = .ok (.istore_n 2, 1) := by decide +kernel
theorem dX0_weigh_11 : decode cX0_weigh 11 = .ok (.aload_n 0, 1) := by decide +kernel
theorem dX0_weigh_12 : decode cX0_weigh 12 = .ok (.getfield 11, 3) := by decide +kernel
theorem dX0_weigh_15 : decode cX0_weigh 15 = .ok (.iconst 0, 1) := by decide +kernel
theorem dX0_weigh_16 : decode cX0_weigh 16 = .ok (.invokestatic 67, 3) := by decide +kernel
theorem dX0_weigh_19 : decode cX0_weigh 19 = .ok (.iload_n 2, 1) := by decide +kernel
theorem dX0_weigh_20 : decode cX0_weigh 20 = .ok (.ifCond .ne 20, 3) := by decide +kernel
theorem dX0_weigh_23 : decode cX0_weigh 23 = .ok (.aload_n 0, 1) := by decide +kernel
theorem dX0_weigh_24 : decode cX0_weigh 24 = .ok (.getfield 20, 3) := by decide +kernel
theorem dX0_weigh_27 : decode cX0_weigh 27 = .ok (.iconst 0, 1) := by decide +kernel
theorem dX0_weigh_28 : decode cX0_weigh 28 = .ok (.aload_n 0, 1) := by decide +kernel
theorem dX0_weigh_29 : decode cX0_weigh 29 = .ok (.getfield 36, 3) := by decide +kernel
theorem dX0_weigh_32 : decode cX0_weigh 32 = .ok (.getfield 71, 3) := by decide +kernel
theorem dX0_weigh_35 : decode cX0_weigh 35 = .ok (.iconst 0, 1) := by decide +kernel
theorem dX0_weigh_36 : decode cX0_weigh 36 = .ok (.invokestatic 60, 3) := by decide +kernel
theorem dX0_weigh_39 : decode cX0_weigh 39 = .ok (.return_, 1) := by decide +kernel
theorem dX0_weigh_40 : decode cX0_weigh 40 = .ok (.aload_n 0, 1) := by decide +kernel
theorem dX0_weigh_41 : decode cX0_weigh 41 = .ok (.getfield 20, 3) := by decide +kernel
theorem dX0_weigh_44 : decode cX0_weigh 44 = .ok (.iconst 0, 1) := by decide +kernel
theorem dX0_weigh_45 : decode cX0_weigh 45 = .ok (.aload_n 0, 1) := by decide +kernel
theorem dX0_weigh_46 : decode cX0_weigh 46 = .ok (.getfield 36, 3) := by decide +kernel
theorem dX0_weigh_49 : decode cX0_weigh 49 = .ok (.getfield 71, 3) := by decide +kernel
theorem dX0_weigh_52 : decode cX0_weigh 52 = .ok (.iconst 0, 1) := by decide +kernel
theorem dX0_weigh_53 : decode cX0_weigh 53 = .ok (.bipush 10, 2) := by decide +kernel
theorem dX0_weigh_55 : decode cX0_weigh 55 = .ok (.iload_n 2, 1) := by decide +kernel
theorem dX0_weigh_56 : decode cX0_weigh 56 = .ok (.imul, 1) := by decide +kernel
theorem dX0_weigh_57 : decode cX0_weigh 57 = .ok (.i2l, 1) := by decide +kernel
theorem dX0_weigh_58 : decode cX0_weigh 58 = .ok (.invokestatic 76, 3) := by decide +kernel
theorem dX0_weigh_61 : decode cX0_weigh 61 = .ok (.iconst 0, 1) := by decide +kernel
theorem dX0_weigh_62 : decode cX0_weigh 62 = .ok (.istore_n 3, 1) := by decide +kernel
theorem dX0_weigh_63 : decode cX0_weigh 63 = .ok (.iload_n 3, 1) := by decide +kernel
theorem dX0_weigh_64 : decode cX0_weigh 64 = .ok (.aload_n 0, 1) := by decide +kernel
theorem dX0_weigh_65 : decode cX0_weigh 65 = .ok (.getfield 32, 3) := by decide +kernel
theorem dX0_weigh_68 : decode cX0_weigh 68 = .ok (.getfield 40, 3) := by decide +kernel
theorem dX0_weigh_71 : decode cX0_weigh 71 = .ok (.getfield 46, 3) := by decide +kernel
theorem dX0_weigh_74 : decode cX0_weigh 74 = .ok (.if_icmp .ge 21, 3) := by decide +kernel
theorem dX0_weigh_77 : decode cX0_weigh 77 = .ok (.aload_n 0, 1) := by decide +kernel
theorem dX0_weigh_78 : decode cX0_weigh 78 = .ok (.iload_n 3, 1) := by decide +kernel
theorem dX0_weigh_79 : decode cX0_weigh 79 = .ok (.iload_n 1, 1) := by decide +kernel
theorem dX0_weigh_80 : decode cX0_weigh 80 = .ok (.invokevirtual 80, 3) := by decide +kernel
theorem dX0_weigh_83 : decode cX0_weigh 83 = .ok (.aload_n 0, 1) := by decide +kernel
theorem dX0_weigh_84 : decode cX0_weigh 84 = .ok (.iload_n 3, 1) := by decide +kernel
theorem dX0_weigh_85 : decode cX0_weigh 85 = .ok (.iload_n 1, 1) := by decide +kernel
theorem dX0_weigh_86 : decode cX0_weigh 86 = .ok (.invokevirtual 84, 3) := by decide +kernel
theorem dX0_weigh_89 : decode cX0_weigh 89 = .ok (.iinc 3 1, 3) := by decide +kernel
theorem dX0_weigh_92 : decode cX0_weigh 92 = .ok (.goto (-29), 3) := by decide +kernel
theorem dX0_weigh_95 : decode cX0_weigh 95 = .ok (.aload_n 0, 1) := by decide +kernel
theorem dX0_weigh_96 : decode cX0_weigh 96 = .ok (.getfield 11, 3) := by decide +kernel
theorem dX0_weigh_99 : decode cX0_weigh 99 = .ok (.iconst 0, 1) := by decide +kernel
theorem dX0_weigh_100 : decode cX0_weigh 100 = .ok (.invokestatic 87, 3) := by decide +kernel
theorem dX0_weigh_103 : decode cX0_weigh 103 = .ok (.aload_n 0, 1) := by decide +kernel
theorem dX0_weigh_104 : decode cX0_weigh 104 = .ok (.getfield 36, 3) := by decide +kernel
theorem dX0_weigh_107 : decode cX0_weigh 107 = .ok (.invokevirtual 90, 3) := by decide +kernel
theorem dX0_weigh_110 : decode cX0_weigh 110 = .ok (.aload_n 0, 1) := by decide +kernel
theorem dX0_weigh_111 : decode cX0_weigh 111 = .ok (.getfield 36, 3) := by decide +kernel
theorem dX0_weigh_114 : decode cX0_weigh 114 = .ok (.invokevirtual 93, 3) := by decide +kernel
theorem dX0_weigh_117 : decode cX0_weigh 117 = .ok (.aload_n 0, 1) := by decide +kernel
theorem dX0_weigh_118 : decode cX0_weigh 118 = .ok (.getfield 36, 3) := by decide +kernel
theorem dX0_weigh_121 : decode cX0_weigh 121 = .ok (.getfield 96, 3) := by decide +kernel
theorem dX0_weigh_124 : decode cX0_weigh 124 = .ok (.iconst 0, 1) := by decide +kernel
theorem dX0_weigh_125 : decode cX0_weigh 125 = .ok (.invokestatic 87, 3) := by decide +kernel
theorem dX0_weigh_128 : decode cX0_weigh 128 = .ok (.aload_n 0, 1) := by decide +kernel
theorem dX0_weigh_129 : decode cX0_weigh 129 = .ok (.getfield 26, 3) := by decide +kernel
theorem dX0_weigh_132 : decode cX0_weigh 132 = .ok (.iconst 0, 1) := by decide +kernel
theorem dX0_weigh_133 : decode cX0_weigh 133 = .ok (.aload_n 0, 1) := by decide +kernel
theorem dX0_weigh_134 : decode cX0_weigh 134 = .ok (.getfield 36, 3) := by decide +kernel
theorem dX0_weigh_137 : decode cX0_weigh 137 = .ok (.getfield 96, 3) := by decide +kernel
theorem dX0_weigh_140 : decode cX0_weigh 140 = .ok (.iconst 0, 1) := by decide +kernel
theorem dX0_weigh_141 : decode cX0_weigh 141 = .ok (.bipush 10, 2) := by decide +kernel
theorem dX0_weigh_143 : decode cX0_weigh 143 = .ok (.iload_n 2, 1) := by decide +kernel
theorem dX0_weigh_144 : decode cX0_weigh 144 = .ok (.imul, 1) := by decide +kernel
theorem dX0_weigh_145 : decode cX0_weigh 145 = .ok (.i2l, 1) := by decide +kernel
theorem dX0_weigh_146 : decode cX0_weigh 146 = .ok (.invokestatic 76, 3) := by decide +kernel
theorem dX0_weigh_149 : decode cX0_weigh 149 = .ok (.aload_n 0, 1) := by decide +kernel
theorem dX0_weigh_150 : decode cX0_weigh 150 = .ok (.getfield 11, 3) := by decide +kernel
theorem dX0_weigh_153 : decode cX0_weigh 153 = .ok (.iconst 0, 1) := by decide +kernel
theorem dX0_weigh_154 : decode cX0_weigh 154 = .ok (.aload_n 0, 1) := by decide +kernel
theorem dX0_weigh_155 : decode cX0_weigh 155 = .ok (.getfield 26, 3) := by decide +kernel
theorem dX0_weigh_158 : decode cX0_weigh 158 = .ok (.iconst 0, 1) := by decide +kernel
theorem dX0_weigh_159 : decode cX0_weigh 159 = .ok (.invokestatic 99, 3) := by decide +kernel
theorem dX0_weigh_162 : decode cX0_weigh 162 = .ok (.return_, 1) := by decide +kernel
theorem me_X0_weigh : cx_Mv yX0_weigh cX0_weigh 4 none 1 := ⟨⟨⟨by decide +kernel, by decide +kernel, by decide +kernel⟩, hw_10, hw_946⟩, hw_944, hw_945⟩
noncomputable def f_X0_weigh_L63 (b_c0 : Nat → Int32) (b_z0 : Int32) (b_z2 : Int32) (s_np : Nat) (s_shares : Nat → Int64) (s_pairs : Nat → Int64) (s_answer : Nat → Int64) (s_people : Int32) (s_heads : Int32) (p1 : Int32) (a_7 : Nat → Int64) (rc63 : (Nat → Int64) → (Nat → Int64) → (Nat → Int64) → (Nat → Int64) → Int32 → Option ((Nat → Int64) × (Nat → Int64) × (Nat → Int64) × (Nat → Int64) × (Nat → Int64) × (Nat → Int64))) (a_6 : Nat → Int64) (a_8 : Nat → Int64) (a_9 : Nat → Int64) (a_10 : Nat → Int64) (x3_11 : Int32) : Option ((Nat → Int64) × (Nat → Int64) × (Nat → Int64) × (Nat → Int64) × (Nat → Int64) × (Nat → Int64)) := if b_z2 ≤ x3_11 then (Option.bind (f_X3_carry 4 a_6 0) (fun u13 => Option.bind (f_X5_startAnswer s_answer) (fun u15 => Option.bind (f_X5_addLikeliest s_shares u15 s_people s_heads) (fun u17 => Option.bind (f_X3_carry 4 u17 0) (fun u19 => Option.bind (f_X3_multiply 4 a_9 0 4 u19 0 (Int32.toInt64 (10 * b_z0))) (fun u21 => Option.bind (f_X3_subtract 4 u13 0 4 u21 0) (fun u23 => some ((u23, a_7, a_8, u21, a_10, u19))))))))) else (Option.bind (f_X0_planWrongly a_8 a_9 b_c0 b_z0 s_np s_shares s_pairs x3_11 p1) (fun u25 => Option.bind (f_X0_addBehind a_6 u25.1 u25.2 a_10 b_c0 b_z0 s_np s_shares s_pairs x3_11 p1) (fun u27 => rc63 u27.1 u25.1 u27.2.1 u27.2.2 (x3_11 + 1))))
noncomputable def f_X0_weigh_L63w (b_c0 : Nat → Int32) (b_z0 : Int32) (b_z2 : Int32) (s_np : Nat) (s_shares : Nat → Int64) (s_pairs : Nat → Int64) (s_answer : Nat → Int64) (s_people : Int32) (s_heads : Int32) (p1 : Int32) (a_7 : Nat → Int64) (n : Nat) : (Nat → Int64) → (Nat → Int64) → (Nat → Int64) → (Nat → Int64) → Int32 → Option ((Nat → Int64) × (Nat → Int64) × (Nat → Int64) × (Nat → Int64) × (Nat → Int64) × (Nat → Int64)) := Nat.rec (fun _ _ _ _ _ => none) (fun _ r => f_X0_weigh_L63 b_c0 b_z0 b_z2 s_np s_shares s_pairs s_answer s_people s_heads p1 a_7 r) n
noncomputable def f_X0_weigh (u_worth : Nat → Int64) (u_unit : Nat → Int64) (u_wrongly : Nat → Int64) (u_guess : Nat → Int64) (u_most : Nat → Int64) (b_c0 : Nat → Int32) (b_z0 : Int32) (b_z2 : Int32) (s_np : Nat) (s_total : Nat → Int64) (s_shares : Nat → Int64) (s_pairs : Nat → Int64) (s_answer : Nat → Int64) (s_people : Int32) (s_heads : Int32) (p1 : Int32) : Option ((Nat → Int64) × (Nat → Int64) × (Nat → Int64) × (Nat → Int64) × (Nat → Int64) × (Nat → Int64)) := Option.bind (f_X3_zero 4 u_worth 0) (fun u1 => if b_z0 = 0 then (Option.bind (f_X3_copy 4 u_unit 0 4 s_total 0) (fun u29 => some ((u1, u29, u_wrongly, u_guess, u_most, s_answer)))) else (Option.bind (f_X3_multiply 4 u_unit 0 4 s_total 0 (Int32.toInt64 (10 * b_z0))) (fun u4 => f_X0_weigh_L63w b_c0 b_z0 b_z2 s_np s_shares s_pairs s_answer s_people s_heads p1 u4 cx_N0 u1 u_wrongly u_guess u_most 0)))
set_option maxHeartbeats 4000000 in
set_option maxRecDepth 100000 in
theorem c_X0_weigh (l : Launch) (D : va_G) (k : Nat → ClassId) (u_a : Nat → Nat) (b_a : Nat → Nat) (s_a : Nat → Nat) (u_worth : Nat → Int64) (u_dearest : Nat → Int64) (u_unit : Nat → Int64) (u_wrongly : Nat → Int64) (u_guess : Nat → Int64) (u_most : Nat → Int64) (b_c0 : Nat → Int32) (b_z0 : Int32) (b_c1 : Nat → Int32) (b_z1 : Int32) (b_c2 : Nat → Int32) (b_z2 : Int32) (b_c3 : Nat → Int32) (b_z3 : Int32) (b_c4 : Nat → Int32) (b_z4 : Int32) (b_sg : Int32) (s_np : Nat) (s_total : Nat → Int64) (s_shares : Nat → Int64) (s_pairs : Nat → Int64) (s_crowds : Nat → Int64) (s_bestWay : Nat → Int32) (s_bestWeight : Nat → Int64) (s_answer : Nat → Int64) (s_mine : Nat → Int64) (s_theirs : Nat → Int64) (s_people : Int32) (s_heads : Int32) (p1 : Int32) (y : (Nat → Int64) × (Nat → Int64) × (Nat → Int64) × (Nat → Int64) × (Nat → Int64) × (Nat → Int64)) (hf : f_X0_weigh u_worth u_unit u_wrongly u_guess u_most b_c0 b_z0 b_z2 s_np s_total s_shares s_pairs s_answer s_people s_heads p1 = some y) : cx_M l yX0_weigh cX0_weigh 4 none 5 D k [.ref (u_a 0), .int p1] (wd_Aunt k u_a b_a s_a u_worth u_dearest u_unit u_wrongly u_guess u_most ++ (wd_Box k b_a b_c0 b_z0 b_c1 b_z1 b_c2 b_z2 b_c3 b_z3 b_c4 b_z4 b_sg ++ (wd_Sums k s_a s_np s_total s_shares s_pairs s_crowds s_bestWay s_bestWeight s_answer s_mine s_theirs s_people s_heads))) (fun sz => cx_Qv D (wd_Aunt k u_a b_a s_a u_worth u_dearest u_unit u_wrongly u_guess u_most ++ (wd_Box k b_a b_c0 b_z0 b_c1 b_z1 b_c2 b_z2 b_c3 b_z3 b_c4 b_z4 b_sg ++ (wd_Sums k s_a s_np s_total s_shares s_pairs s_crowds s_bestWay s_bestWeight s_answer s_mine s_theirs s_people s_heads))) (wd_Aunt k u_a b_a s_a y.1 u_dearest y.2.1 y.2.2.1 y.2.2.2.1 y.2.2.2.2.1 ++ (wd_Box k b_a b_c0 b_z0 b_c1 b_z1 b_c2 b_z2 b_c3 b_z3 b_c4 b_z4 b_sg ++ (wd_Sums k s_a s_np s_total s_shares s_pairs s_crowds s_bestWay s_bestWeight y.2.2.2.2.2 s_mine s_theirs s_people s_heads))) sz) := by
  refine cx_met (own := "NamelessBox$Aunt") (by decide) rfl (Nat.le_of_ble_eq_true rfl) ?_
  intro p e s m args below meth c A Q C hA hQ hr hlk
  refine cx_lv (lv' := [(0, .ref (u_a 0)), (1, .int p1)]) [0, 1] rfl ?_
  have L63 : ∀ (a_7 : Nat → Int64) (n63 : Nat) (a_6 : Nat → Int64) (a_8 : Nat → Int64) (a_9 : Nat → Int64) (a_10 : Nat → Int64) (x3_11 : Int32), f_X0_weigh_L63w b_c0 b_z0 b_z2 s_np s_shares s_pairs s_answer s_people s_heads p1 a_7 n63 a_6 a_8 a_9 a_10 x3_11 = some y → cx_S p l e (cx_rm 5) s m args below meth c A D 4 0 0 Q 63 [(0, .ref (u_a 0)), (1, .int p1), (2, .int b_z0), (3, .int x3_11)] [] (wd_Aunt k u_a b_a s_a a_6 u_dearest a_7 a_8 a_9 a_10 ++ (wd_Box k b_a b_c0 b_z0 b_c1 b_z1 b_c2 b_z2 b_c3 b_z3 b_c4 b_z4 b_sg ++ (wd_Sums k s_a s_np s_total s_shares s_pairs s_crowds s_bestWay s_bestWeight s_answer s_mine s_theirs s_people s_heads))) := by
    intro a_7 n63
    induction n63 with
    | zero =>
      intro a_6 a_8 a_9 a_10 x3_11 hf
      exact absurd (show (none : Option ((Nat → Int64) × (Nat → Int64) × (Nat → Int64) × (Nat → Int64) × (Nat → Int64) × (Nat → Int64))) = some y from hf) (fun h => by cases h)
    | succ n63 ih63 =>
      intro a_6 a_8 a_9 a_10 x3_11 hf
      have hf : f_X0_weigh_L63 b_c0 b_z0 b_z2 s_np s_shares s_pairs s_answer s_people s_heads p1 a_7 (f_X0_weigh_L63w b_c0 b_z0 b_z2 s_np s_shares s_pairs s_answer s_people s_heads p1 a_7 n63) a_6 a_8 a_9 a_10 x3_11 = some y := hf
      unfold f_X0_weigh_L63 at hf
      refine cx_iload_n C dX0_weigh_63 3 rfl ?_
      refine cx_aload_n C dX0_weigh_64 0 rfl ?_
      refine cx_get (v := .ref (b_a 0)) (ci := 0) C iX0 dX0_weigh_65 0 rfl rfl 3 (by decide) hw_268 rfl ?_
      refine cx_get (v := .ref (b_a 5)) (ci := 1) C iX1 dX0_weigh_68 7 rfl rfl 2 (by decide) hw_68 rfl ?_
      refine cx_get (v := .int b_z2) (ci := 3) C iX4 dX0_weigh_71 12 rfl rfl 3 (by decide) hw_47 rfl ?_
      refine cx_icmp_ge (tgt := 95) C dX0_weigh_74 (by decide) (fun c12 => ?_) (fun c12 => ?_)
      · have hf := cx_if_t hf c12
        clear c12
        refine cx_aload_n C dX0_weigh_95 0 rfl ?_
        refine cx_get (v := .ref (u_a 1)) (ci := 0) C iX0 dX0_weigh_96 0 rfl rfl 0 (by decide) hw_262 rfl ?_
        refine cx_iconst (v := 0) C dX0_weigh_99 (by decide) ?_
        obtain ⟨u13, e14, hf⟩ := cx_bd_at hf
        refine cx_csv (As := [.ref (u_a 1), .int 0]) (rest := []) (ws' := (wd_Aunt k u_a b_a s_a u13 u_dearest a_7 a_8 a_9 a_10 ++ (wd_Box k b_a b_c0 b_z0 b_c1 b_z1 b_c2 b_z2 b_c3 b_z3 b_c4 b_z4 b_sg ++ (wd_Sums k s_a s_np s_total s_shares s_pairs s_crowds s_bestWay s_bestWeight s_answer s_mine s_theirs s_people s_heads)))) hA C me_X3_carry hw_965 (c_X3_carry l D k (u_a 1) 4 a_6 0 u13 e14) dX0_weigh_100 ⟨Nat.le_of_ble_eq_true rfl, Nat.le_of_ble_eq_true rfl⟩ ⟨Nat.zero_le _, Nat.zero_le _⟩ rfl rfl (Nat.le_of_ble_eq_true rfl) [1] rfl (by decide) rfl rfl ?_
        clear e14
        refine cx_aload_n C dX0_weigh_103 0 rfl ?_
        refine cx_get (v := .ref (s_a 0)) (ci := 0) C iX0 dX0_weigh_104 0 rfl rfl 4 (by decide) hw_269 rfl ?_
        obtain ⟨u15, e16, hf⟩ := cx_bd_at hf
        refine cx_cvv (q := (RX5, TX5, 11)) (As := []) (rest := []) (ws' := (wd_Aunt k u_a b_a s_a u13 u_dearest a_7 a_8 a_9 a_10 ++ (wd_Box k b_a b_c0 b_z0 b_c1 b_z1 b_c2 b_z2 b_c3 b_z3 b_c4 b_z4 b_sg ++ (wd_Sums k s_a s_np s_total s_shares s_pairs s_crowds s_bestWay s_bestWeight u15 s_mine s_theirs s_people s_heads)))) hA C me_X5_startAnswer hw_967 (c_X5_startAnswer l D k s_a s_np s_total s_shares s_pairs s_crowds s_bestWay s_bestWeight s_answer s_mine s_theirs s_people s_heads u15 e16) dX0_weigh_107 ⟨Nat.le_of_ble_eq_true rfl, Nat.le_of_ble_eq_true rfl⟩ ⟨Nat.zero_le _, Nat.zero_le _⟩ rfl rfl (Nat.le_of_ble_eq_true rfl) rfl rfl [18, 19, 20, 21, 22, 23, 24, 25, 26, 27] rfl (by decide) rfl rfl ?_
        clear e16
        refine cx_aload_n C dX0_weigh_110 0 rfl ?_
        refine cx_get (v := .ref (s_a 0)) (ci := 0) C iX0 dX0_weigh_111 0 rfl rfl 4 (by decide) hw_269 rfl ?_
        obtain ⟨u17, e18, hf⟩ := cx_bd_at hf
        refine cx_cvv (q := (RX5, TX5, 11)) (As := []) (rest := []) (ws' := (wd_Aunt k u_a b_a s_a u13 u_dearest a_7 a_8 a_9 a_10 ++ (wd_Box k b_a b_c0 b_z0 b_c1 b_z1 b_c2 b_z2 b_c3 b_z3 b_c4 b_z4 b_sg ++ (wd_Sums k s_a s_np s_total s_shares s_pairs s_crowds s_bestWay s_bestWeight u17 s_mine s_theirs s_people s_heads)))) hA C me_X5_addLikeliest hw_968 (c_X5_addLikeliest l D k s_a s_np s_total s_shares s_pairs s_crowds s_bestWay s_bestWeight u15 s_mine s_theirs s_people s_heads u17 e18) dX0_weigh_114 ⟨Nat.le_of_ble_eq_true rfl, Nat.le_of_ble_eq_true rfl⟩ ⟨Nat.zero_le _, Nat.zero_le _⟩ rfl rfl (Nat.le_of_ble_eq_true rfl) rfl rfl [18, 19, 20, 21, 22, 23, 24, 25, 26, 27] rfl (by decide) rfl rfl ?_
        clear e18
        refine cx_aload_n C dX0_weigh_117 0 rfl ?_
        refine cx_get (v := .ref (s_a 0)) (ci := 0) C iX0 dX0_weigh_118 0 rfl rfl 4 (by decide) hw_269 rfl ?_
        refine cx_get (v := .ref (s_a 7)) (ci := 4) C iX5 dX0_weigh_121 18 rfl rfl 6 (by decide) hw_161 rfl ?_
        refine cx_iconst (v := 0) C dX0_weigh_124 (by decide) ?_
        obtain ⟨u19, e20, hf⟩ := cx_bd_at hf
        refine cx_csv (As := [.ref (s_a 7), .int 0]) (rest := []) (ws' := (wd_Aunt k u_a b_a s_a u13 u_dearest a_7 a_8 a_9 a_10 ++ (wd_Box k b_a b_c0 b_z0 b_c1 b_z1 b_c2 b_z2 b_c3 b_z3 b_c4 b_z4 b_sg ++ (wd_Sums k s_a s_np s_total s_shares s_pairs s_crowds s_bestWay s_bestWeight u19 s_mine s_theirs s_people s_heads)))) hA C me_X3_carry hw_965 (c_X3_carry l D k (s_a 7) 4 u17 0 u19 e20) dX0_weigh_125 ⟨Nat.le_of_ble_eq_true rfl, Nat.le_of_ble_eq_true rfl⟩ ⟨Nat.zero_le _, Nat.zero_le _⟩ rfl rfl (Nat.le_of_ble_eq_true rfl) [25] rfl (by decide) rfl rfl ?_
        clear e20
        refine cx_aload_n C dX0_weigh_128 0 rfl ?_
        refine cx_get (v := .ref (u_a 5)) (ci := 0) C iX0 dX0_weigh_129 0 rfl rfl 6 (by decide) hw_271 rfl ?_
        refine cx_iconst (v := 0) C dX0_weigh_132 (by decide) ?_
        refine cx_aload_n C dX0_weigh_133 0 rfl ?_
        refine cx_get (v := .ref (s_a 0)) (ci := 0) C iX0 dX0_weigh_134 0 rfl rfl 4 (by decide) hw_269 rfl ?_
        refine cx_get (v := .ref (s_a 7)) (ci := 4) C iX5 dX0_weigh_137 18 rfl rfl 6 (by decide) hw_161 rfl ?_
        refine cx_iconst (v := 0) C dX0_weigh_140 (by decide) ?_
        refine cx_bipush (v := 10) C dX0_weigh_141 (by decide) ?_
        refine cx_iload_n C dX0_weigh_143 2 rfl ?_
        refine cx_imul C dX0_weigh_144 ?_
        refine cx_i2l C dX0_weigh_145 ?_
        obtain ⟨u21, e22, hf⟩ := cx_bd_at hf
        refine cx_csv (As := [.ref (u_a 5), .int 0, .ref (s_a 7), .int 0, .long (Int32.toInt64 (10 * b_z0))]) (rest := []) (ws' := (wd_Aunt k u_a b_a s_a u13 u_dearest a_7 a_8 u21 a_10 ++ (wd_Box k b_a b_c0 b_z0 b_c1 b_z1 b_c2 b_z2 b_c3 b_z3 b_c4 b_z4 b_sg ++ (wd_Sums k s_a s_np s_total s_shares s_pairs s_crowds s_bestWay s_bestWeight u19 s_mine s_theirs s_people s_heads)))) hA C me_X3_multiply hw_949 (c_X3_multiply l D k (u_a 5) (s_a 7) 4 a_9 0 4 u19 0 (Int32.toInt64 (10 * b_z0)) u21 e22) dX0_weigh_146 ⟨Nat.le_of_ble_eq_true rfl, Nat.le_of_ble_eq_true rfl⟩ ⟨Nat.zero_le _, Nat.zero_le _⟩ rfl rfl (Nat.le_of_ble_eq_true rfl) [5, 25] rfl (by decide) rfl rfl ?_
        clear e22
        refine cx_aload_n C dX0_weigh_149 0 rfl ?_
        refine cx_get (v := .ref (u_a 1)) (ci := 0) C iX0 dX0_weigh_150 0 rfl rfl 0 (by decide) hw_262 rfl ?_
        refine cx_iconst (v := 0) C dX0_weigh_153 (by decide) ?_
        refine cx_aload_n C dX0_weigh_154 0 rfl ?_
        refine cx_get (v := .ref (u_a 5)) (ci := 0) C iX0 dX0_weigh_155 0 rfl rfl 6 (by decide) hw_271 rfl ?_
        refine cx_iconst (v := 0) C dX0_weigh_158 (by decide) ?_
        obtain ⟨u23, e24, hf⟩ := cx_bd_at hf
        refine cx_csv (As := [.ref (u_a 1), .int 0, .ref (u_a 5), .int 0]) (rest := []) (ws' := (wd_Aunt k u_a b_a s_a u23 u_dearest a_7 a_8 u21 a_10 ++ (wd_Box k b_a b_c0 b_z0 b_c1 b_z1 b_c2 b_z2 b_c3 b_z3 b_c4 b_z4 b_sg ++ (wd_Sums k s_a s_np s_total s_shares s_pairs s_crowds s_bestWay s_bestWeight u19 s_mine s_theirs s_people s_heads)))) hA C me_X3_subtract hw_969 (c_X3_subtract l D k (u_a 1) (u_a 5) 4 u13 0 4 u21 0 u23 e24) dX0_weigh_159 ⟨Nat.le_of_ble_eq_true rfl, Nat.le_of_ble_eq_true rfl⟩ ⟨Nat.zero_le _, Nat.zero_le _⟩ rfl rfl (Nat.le_of_ble_eq_true rfl) [1, 5] rfl (by decide) rfl rfl ?_
        clear e24
        obtain rfl := Option.some.inj hf
        exact cx_vret C hA hQ hr hlk dX0_weigh_162 rfl
      · have hf := cx_if_f hf c12
        clear c12
        refine cx_aload_n C dX0_weigh_77 0 rfl ?_
        refine cx_iload_n C dX0_weigh_78 3 rfl ?_
        refine cx_iload_n C dX0_weigh_79 1 rfl ?_
        obtain ⟨u25, e26, hf⟩ := cx_bd_at hf
        refine cx_Fvv (q := (RX0, TX0, 8)) (As := [.int x3_11, .int p1]) (rest := []) (w1 := (wd_Aunt k u_a b_a s_a a_6 u_dearest a_7 u25.1 u25.2 a_10 ++ (wd_Box k b_a b_c0 b_z0 b_c1 b_z1 b_c2 b_z2 b_c3 b_z3 b_c4 b_z4 b_sg ++ (wd_Sums k s_a s_np s_total s_shares s_pairs s_crowds s_bestWay s_bestWeight s_answer s_mine s_theirs s_people s_heads)))) hA C me_X0_planWrongly hw_950 (c_X0_planWrongly l D k u_a b_a s_a a_6 u_dearest a_7 a_8 a_9 a_10 b_c0 b_z0 b_c1 b_z1 b_c2 b_z2 b_c3 b_z3 b_c4 b_z4 b_sg s_np s_total s_shares s_pairs s_crowds s_bestWay s_bestWeight s_answer s_mine s_theirs s_people s_heads x3_11 p1 u25 e26) dX0_weigh_80 ⟨Nat.le_of_ble_eq_true rfl, Nat.le_of_ble_eq_true rfl⟩ ⟨Nat.zero_le _, Nat.zero_le _⟩ rfl rfl (Nat.le_of_ble_eq_true rfl) rfl rfl rfl ?_
        clear e26
        refine cx_aload_n C dX0_weigh_83 0 rfl ?_
        refine cx_iload_n C dX0_weigh_84 3 rfl ?_
        refine cx_iload_n C dX0_weigh_85 1 rfl ?_
        obtain ⟨u27, e28, hf⟩ := cx_bd_at hf
        refine cx_Fvv (q := (RX0, TX0, 8)) (As := [.int x3_11, .int p1]) (rest := []) (w1 := (wd_Aunt k u_a b_a s_a u27.1 u_dearest a_7 u25.1 u27.2.1 u27.2.2 ++ (wd_Box k b_a b_c0 b_z0 b_c1 b_z1 b_c2 b_z2 b_c3 b_z3 b_c4 b_z4 b_sg ++ (wd_Sums k s_a s_np s_total s_shares s_pairs s_crowds s_bestWay s_bestWeight s_answer s_mine s_theirs s_people s_heads)))) hA C me_X0_addBehind hw_961 (c_X0_addBehind l D k u_a b_a s_a a_6 u_dearest a_7 u25.1 u25.2 a_10 b_c0 b_z0 b_c1 b_z1 b_c2 b_z2 b_c3 b_z3 b_c4 b_z4 b_sg s_np s_total s_shares s_pairs s_crowds s_bestWay s_bestWeight s_answer s_mine s_theirs s_people s_heads x3_11 p1 u27 e28) dX0_weigh_86 ⟨Nat.le_of_ble_eq_true rfl, Nat.le_of_ble_eq_true rfl⟩ ⟨Nat.zero_le _, Nat.zero_le _⟩ rfl rfl (Nat.le_of_ble_eq_true rfl) rfl rfl rfl ?_
        clear e28
        refine cx_iinc (v := x3_11 + 1) (lv' := [(3, .int (x3_11 + 1)), (0, .ref (u_a 0)), (1, .int p1), (2, .int b_z0)]) C dX0_weigh_89 3 rfl rfl (by decide) rfl ?_
        refine cx_goto (tgt := 63) C dX0_weigh_92 (by decide) ?_
        refine cx_lv [1, 2, 3, 0] rfl ?_
        exact ih63 u27.1 u25.1 u27.2.1 u27.2.2 (x3_11 + 1) hf
  unfold f_X0_weigh at hf
  refine cx_aload_n C dX0_weigh_0 0 rfl ?_
  refine cx_get (v := .ref (b_a 0)) (ci := 0) C iX0 dX0_weigh_1 0 rfl rfl 3 (by decide) hw_268 rfl ?_
  refine cx_get (v := .ref (b_a 1)) (ci := 1) C iX1 dX0_weigh_4 7 rfl rfl 0 (by decide) hw_61 rfl ?_
  refine cx_get (v := .int b_z0) (ci := 3) C iX4 dX0_weigh_7 8 rfl rfl 3 (by decide) hw_47 rfl ?_
  refine cx_istore_n (lv' := [(2, .int b_z0), (0, .ref (u_a 0)), (1, .int p1)]) C dX0_weigh_10 rfl (by decide) rfl ?_
  refine cx_aload_n C dX0_weigh_11 1 rfl ?_
  refine cx_get (v := .ref (u_a 1)) (ci := 0) C iX0 dX0_weigh_12 0 rfl rfl 0 (by decide) hw_262 rfl ?_
  refine cx_iconst (v := 0) C dX0_weigh_15 (by decide) ?_
  obtain ⟨u1, e2, hf⟩ := cx_bd_at hf
  refine cx_csv (As := [.ref (u_a 1), .int 0]) (rest := []) (ws' := (wd_Aunt k u_a b_a s_a u1 u_dearest u_unit u_wrongly u_guess u_most ++ (wd_Box k b_a b_c0 b_z0 b_c1 b_z1 b_c2 b_z2 b_c3 b_z3 b_c4 b_z4 b_sg ++ (wd_Sums k s_a s_np s_total s_shares s_pairs s_crowds s_bestWay s_bestWeight s_answer s_mine s_theirs s_people s_heads)))) hA C me_X3_zero hw_947 (c_X3_zero l D k (u_a 1) 4 u_worth 0 u1 e2) dX0_weigh_16 ⟨Nat.le_of_ble_eq_true rfl, Nat.le_of_ble_eq_true rfl⟩ ⟨Nat.zero_le _, Nat.zero_le _⟩ rfl rfl (Nat.le_of_ble_eq_true rfl) [1] rfl (by decide) rfl rfl ?_
  clear e2
  refine cx_iload_n C dX0_weigh_19 0 rfl ?_
  refine cx_if_ne (tgt := 40) C dX0_weigh_20 (by decide) (fun c3 => ?_) (fun c3 => ?_)
  · have hf := cx_if_f hf c3
    clear c3
    refine cx_aload_n C dX0_weigh_40 1 rfl ?_
    refine cx_get (v := .ref (u_a 3)) (ci := 0) C iX0 dX0_weigh_41 0 rfl rfl 2 (by decide) hw_266 rfl ?_
    refine cx_iconst (v := 0) C dX0_weigh_44 (by decide) ?_
    refine cx_aload_n C dX0_weigh_45 1 rfl ?_
    refine cx_get (v := .ref (s_a 0)) (ci := 0) C iX0 dX0_weigh_46 0 rfl rfl 4 (by decide) hw_269 rfl ?_
    refine cx_get (v := .ref (s_a 1)) (ci := 4) C iX5 dX0_weigh_49 18 rfl rfl 0 (by decide) hw_150 rfl ?_
    refine cx_iconst (v := 0) C dX0_weigh_52 (by decide) ?_
    refine cx_bipush (v := 10) C dX0_weigh_53 (by decide) ?_
    refine cx_iload_n C dX0_weigh_55 0 rfl ?_
    refine cx_imul C dX0_weigh_56 ?_
    refine cx_i2l C dX0_weigh_57 ?_
    obtain ⟨u4, e5, hf⟩ := cx_bd_at hf
    refine cx_csv (As := [.ref (u_a 3), .int 0, .ref (s_a 1), .int 0, .long (Int32.toInt64 (10 * b_z0))]) (rest := []) (ws' := (wd_Aunt k u_a b_a s_a u1 u_dearest u4 u_wrongly u_guess u_most ++ (wd_Box k b_a b_c0 b_z0 b_c1 b_z1 b_c2 b_z2 b_c3 b_z3 b_c4 b_z4 b_sg ++ (wd_Sums k s_a s_np s_total s_shares s_pairs s_crowds s_bestWay s_bestWeight s_answer s_mine s_theirs s_people s_heads)))) hA C me_X3_multiply hw_949 (c_X3_multiply l D k (u_a 3) (s_a 1) 4 u_unit 0 4 s_total 0 (Int32.toInt64 (10 * b_z0)) u4 e5) dX0_weigh_58 ⟨Nat.le_of_ble_eq_true rfl, Nat.le_of_ble_eq_true rfl⟩ ⟨Nat.zero_le _, Nat.zero_le _⟩ rfl rfl (Nat.le_of_ble_eq_true rfl) [3, 19] rfl (by decide) rfl rfl ?_
    clear e5
    refine cx_iconst (v := 0) C dX0_weigh_61 (by decide) ?_
    refine cx_istore_n (lv' := [(3, .int 0), (2, .int b_z0), (0, .ref (u_a 0)), (1, .int p1)]) C dX0_weigh_62 rfl (by decide) rfl ?_
    refine cx_lv [2, 3, 1, 0] rfl ?_
    exact L63 u4 cx_N0 u1 u_wrongly u_guess u_most 0 hf
  · have hf := cx_if_t hf c3
    clear c3
    refine cx_aload_n C dX0_weigh_23 1 rfl ?_
    refine cx_get (v := .ref (u_a 3)) (ci := 0) C iX0 dX0_weigh_24 0 rfl rfl 2 (by decide) hw_266 rfl ?_
    refine cx_iconst (v := 0) C dX0_weigh_27 (by decide) ?_
    refine cx_aload_n C dX0_weigh_28 1 rfl ?_
    refine cx_get (v := .ref (s_a 0)) (ci := 0) C iX0 dX0_weigh_29 0 rfl rfl 4 (by decide) hw_269 rfl ?_
    refine cx_get (v := .ref (s_a 1)) (ci := 4) C iX5 dX0_weigh_32 18 rfl rfl 0 (by decide) hw_150 rfl ?_
    refine cx_iconst (v := 0) C dX0_weigh_35 (by decide) ?_
    obtain ⟨u29, e30, hf⟩ := cx_bd_at hf
    refine cx_csv (As := [.ref (u_a 3), .int 0, .ref (s_a 1), .int 0]) (rest := []) (ws' := (wd_Aunt k u_a b_a s_a u1 u_dearest u29 u_wrongly u_guess u_most ++ (wd_Box k b_a b_c0 b_z0 b_c1 b_z1 b_c2 b_z2 b_c3 b_z3 b_c4 b_z4 b_sg ++ (wd_Sums k s_a s_np s_total s_shares s_pairs s_crowds s_bestWay s_bestWeight s_answer s_mine s_theirs s_people s_heads)))) hA C me_X3_copy hw_948 (c_X3_copy l D k (u_a 3) (s_a 1) 4 u_unit 0 4 s_total 0 u29 e30) dX0_weigh_36 ⟨Nat.le_of_ble_eq_true rfl, Nat.le_of_ble_eq_true rfl⟩ ⟨Nat.zero_le _, Nat.zero_le _⟩ rfl rfl (Nat.le_of_ble_eq_true rfl) [3, 19] rfl (by decide) rfl rfl ?_
    clear e30
    obtain rfl := Option.some.inj hf
    exact cx_vret C hA hQ hr hlk dX0_weigh_39 rfl
theorem dX0_findDearest_0 : decode cX0_findDearest 0 = .ok (.iconst 0, 1) := by decide +kernel
theorem dX0_findDearest_1 : decode cX0_findDearest 1 = .ok (.istore_n 1, 1) := by decide +kernel
theorem dX0_findDearest_2 : decode cX0_findDearest 2 = .ok (.iconst 0, 1) := by decide +kernel
theorem dX0_findDearest_3 : decode cX0_findDearest 3 = .ok (.istore_n 2, 1) := by decide +kernel
theorem dX0_findDearest_4 : decode cX0_findDearest 4 = .ok (.iload_n 2, 1) := by decide +kernel
theorem dX0_findDearest_5 : decode cX0_findDearest 5 = .ok (.aload_n 0, 1) := by decide +kernel
theorem dX0_findDearest_6 : decode cX0_findDearest 6 = .ok (.getfield 32, 3) := by decide +kernel
theorem dX0_findDearest_9 : decode cX0_findDearest 9 = .ok (.getfield 40, 3) := by decide +kernel
theorem dX0_findDearest_12 : decode cX0_findDearest 12 = .ok (.getfield 46, 3) := by decide +kernel
theorem dX0_findDearest_15 : decode cX0_findDearest 15 = .ok (.if_icmp .ge 49, 3) := by decide +kernel
theorem dX0_findDearest_18 : decode cX0_findDearest 18 = .ok (.aload_n 0, 1) := by decide +kernel
theorem dX0_findDearest_19 : decode cX0_findDearest 19 = .ok (.iload_n 2, 1) := by decide +kernel
theorem dX0_findDearest_20 : decode cX0_findDearest 20 = .ok (.invokevirtual 52, 3) := by decide +kernel
theorem dX0_findDearest_23 : decode cX0_findDearest 23 = .ok (.iload_n 2, 1) := by decide +kernel
theorem dX0_findDearest_24 : decode cX0_findDearest 24 = .ok (.ifCond .eq 19, 3) := by decide +kernel
theorem dX0_findDearest_27 : decode cX0_findDearest 27 = .ok (.aload_n 0, 1) := by decide +kernel
theorem dX0_findDearest_28 : decode cX0_findDearest 28 = .ok (.getfield 11, 3) := by decide +kernel
theorem dX0_findDearest_31 : decode cX0_findDearest 31 = .ok (.iconst 0, 1) := by decide +kernel
theorem dX0_findDearest_32 : decode cX0_findDearest 32 = .ok (.aload_n 0, 1) := by decide +kernel
theorem dX0_findDearest_33 : decode cX0_findDearest 33 = .ok (.getfield 17, 3) := by decide +kernel
theorem dX0_findDearest_36 : decode cX0_findDearest 36 = .ok (.iconst 0, 1) := by decide +kernel
theorem dX0_findDearest_37 : decode cX0_findDearest 37 = .ok (.invokestatic 56, 3) := by decide +kernel
theorem dX0_findDearest_40 : decode cX0_findDearest 40 = .ok (.ifCond .le 18, 3) := by decide +kernel
theorem dX0_findDearest_43 : decode cX0_findDearest 43 = .ok (.aload_n 0, 1) := by decide +kernel
theorem dX0_findDearest_44 : decode cX0_findDearest 44 = .ok (.getfield 17, 3) := by decide +kernel
theorem dX0_findDearest_47 : decode cX0_findDearest 47 = .ok (.iconst 0, 1) := by decide +kernel
theorem dX0_findDearest_48 : decode cX0_findDearest 48 = .ok (.aload_n 0, 1) := by decide +kernel
theorem dX0_findDearest_49 : decode cX0_findDearest 49 = .ok (.getfield 11, 3) := by decide +kernel
theorem dX0_findDearest_52 : decode cX0_findDearest 52 = .ok (.iconst 0, 1) := by decide +kernel
theorem dX0_findDearest_53 : decode cX0_findDearest 53 = .ok (.invokestatic 60, 3) := by decide +kernel
theorem dX0_findDearest_56 : decode cX0_findDearest 56 = .ok (.iload_n 2, 1) := by decide +kernel
theorem dX0_findDearest_57 : decode cX0_findDearest 57 = .ok (.istore_n 1, 1) := by decide +kernel
theorem dX0_findDearest_58 : decode cX0_findDearest 58 = .ok (.iinc 2 1, 3) := by decide +kernel
theorem dX0_findDearest_61 : decode cX0_findDearest 61 = .ok (.goto (-57), 3) := by decide +kernel
theorem dX0_findDearest_64 : decode cX0_findDearest 64 = .ok (.iload_n 1, 1) := by decide +kernel
theorem dX0_findDearest_65 : decode cX0_findDearest 65 = .ok (.ireturn, 1) := by decide +kernel
theorem me_X0_findDearest : cx_Mv yX0_findDearest cX0_findDearest 3 (some .int) 0 := ⟨⟨⟨by decide +kernel, by decide +kernel, by decide +kernel⟩, hw_10, hw_977⟩, hw_975, hw_976⟩
noncomputable def f_X0_findDearest_J58 (x2_9 : Int32) (rc4 : (Nat → Int64) → (Nat → Int64) → (Nat → Int64) → (Nat → Int64) → (Nat → Int64) → (Nat → Int64) → (Nat → Int64) → Int32 → Int32 → Option (Int32 × (Nat → Int64) × (Nat → Int64) × (Nat → Int64) × (Nat → Int64) × (Nat → Int64) × (Nat → Int64) × (Nat → Int64))) (a_22 : Nat → Int64) (a_23 : Nat → Int64) (a_24 : Nat → Int64) (a_25 : Nat → Int64) (a_26 : Nat → Int64) (a_27 : Nat → Int64) (a_28 : Nat → Int64) (x1_29 : Int32) : Option (Int32 × (Nat → Int64) × (Nat → Int64) × (Nat → Int64) × (Nat → Int64) × (Nat → Int64) × (Nat → Int64) × (Nat → Int64)) := rc4 a_22 a_23 a_24 a_25 a_26 a_27 a_28 x1_29 (x2_9 + 1)
noncomputable def f_X0_findDearest_J43 (a_2 : Nat → Int64) (x2_9 : Int32) (rc4 : (Nat → Int64) → (Nat → Int64) → (Nat → Int64) → (Nat → Int64) → (Nat → Int64) → (Nat → Int64) → (Nat → Int64) → Int32 → Int32 → Option (Int32 × (Nat → Int64) × (Nat → Int64) × (Nat → Int64) × (Nat → Int64) × (Nat → Int64) × (Nat → Int64) × (Nat → Int64))) (a_14 : Nat → Int64) (a_15 : Nat → Int64) (a_16 : Nat → Int64) (a_17 : Nat → Int64) (a_18 : Nat → Int64) (a_19 : Nat → Int64) : Option (Int32 × (Nat → Int64) × (Nat → Int64) × (Nat → Int64) × (Nat → Int64) × (Nat → Int64) × (Nat → Int64) × (Nat → Int64)) := Option.bind (f_X3_copy 4 a_2 0 4 a_14 0) (fun u20 => f_X0_findDearest_J58 x2_9 rc4 a_14 u20 a_15 a_16 a_17 a_18 a_19 x2_9)
noncomputable def f_X0_findDearest_L4 (b_c0 : Nat → Int32) (b_z0 : Int32) (b_z2 : Int32) (s_np : Nat) (s_total : Nat → Int64) (s_shares : Nat → Int64) (s_pairs : Nat → Int64) (s_people : Int32) (s_heads : Int32) (rc4 : (Nat → Int64) → (Nat → Int64) → (Nat → Int64) → (Nat → Int64) → (Nat → Int64) → (Nat → Int64) → (Nat → Int64) → Int32 → Int32 → Option (Int32 × (Nat → Int64) × (Nat → Int64) × (Nat → Int64) × (Nat → Int64) × (Nat → Int64) × (Nat → Int64) × (Nat → Int64))) (a_1 : Nat → Int64) (a_2 : Nat → Int64) (a_3 : Nat → Int64) (a_4 : Nat → Int64) (a_5 : Nat → Int64) (a_6 : Nat → Int64) (a_7 : Nat → Int64) (x1_8 : Int32) (x2_9 : Int32) : Option (Int32 × (Nat → Int64) × (Nat → Int64) × (Nat → Int64) × (Nat → Int64) × (Nat → Int64) × (Nat → Int64) × (Nat → Int64)) := if b_z2 ≤ x2_9 then (some ((x1_8, a_1, a_2, a_3, a_4, a_5, a_6, a_7))) else (Option.bind (f_X0_weigh a_1 a_3 a_4 a_5 a_6 b_c0 b_z0 b_z2 s_np s_total s_shares s_pairs a_7 s_people s_heads x2_9) (fun u11 => if x2_9 = 0 then (f_X0_findDearest_J43 a_2 x2_9 rc4 u11.1 u11.2.1 u11.2.2.1 u11.2.2.2.1 u11.2.2.2.2.1 u11.2.2.2.2.2) else (Option.bind (f_X3_compare 4 u11.1 0 4 a_2 0) (fun u30 => if u30 ≤ 0 then (f_X0_findDearest_J58 x2_9 rc4 u11.1 a_2 u11.2.1 u11.2.2.1 u11.2.2.2.1 u11.2.2.2.2.1 u11.2.2.2.2.2 x1_8) else (f_X0_findDearest_J43 a_2 x2_9 rc4 u11.1 u11.2.1 u11.2.2.1 u11.2.2.2.1 u11.2.2.2.2.1 u11.2.2.2.2.2)))))
noncomputable def f_X0_findDearest_L4w (b_c0 : Nat → Int32) (b_z0 : Int32) (b_z2 : Int32) (s_np : Nat) (s_total : Nat → Int64) (s_shares : Nat → Int64) (s_pairs : Nat → Int64) (s_people : Int32) (s_heads : Int32) (n : Nat) : (Nat → Int64) → (Nat → Int64) → (Nat → Int64) → (Nat → Int64) → (Nat → Int64) → (Nat → Int64) → (Nat → Int64) → Int32 → Int32 → Option (Int32 × (Nat → Int64) × (Nat → Int64) × (Nat → Int64) × (Nat → Int64) × (Nat → Int64) × (Nat → Int64) × (Nat → Int64)) := Nat.rec (fun _ _ _ _ _ _ _ _ _ => none) (fun _ r => f_X0_findDearest_L4 b_c0 b_z0 b_z2 s_np s_total s_shares s_pairs s_people s_heads r) n
noncomputable def f_X0_findDearest (u_worth : Nat → Int64) (u_dearest : Nat → Int64) (u_unit : Nat → Int64) (u_wrongly : Nat → Int64) (u_guess : Nat → Int64) (u_most : Nat → Int64) (b_c0 : Nat → Int32) (b_z0 : Int32) (b_z2 : Int32) (s_np : Nat) (s_total : Nat → Int64) (s_shares : Nat → Int64) (s_pairs : Nat → Int64) (s_answer : Nat → Int64) (s_people : Int32) (s_heads : Int32) : Option (Int32 × (Nat → Int64) × (Nat → Int64) × (Nat → Int64) × (Nat → Int64) × (Nat → Int64) × (Nat → Int64) × (Nat → Int64)) := f_X0_findDearest_L4w b_c0 b_z0 b_z2 s_np s_total s_shares s_pairs s_people s_heads cx_N0 u_worth u_dearest u_unit u_wrongly u_guess u_most s_answer 0 0
set_option maxHeartbeats 4000000 in
set_option maxRecDepth 100000 in
theorem c_X0_findDearest (l : Launch) (D : va_G) (k : Nat → ClassId) (u_a : Nat → Nat) (b_a : Nat → Nat) (s_a : Nat → Nat) (u_worth : Nat → Int64) (u_dearest : Nat → Int64) (u_unit : Nat → Int64) (u_wrongly : Nat → Int64) (u_guess : Nat → Int64) (u_most : Nat → Int64) (b_c0 : Nat → Int32) (b_z0 : Int32) (b_c1 : Nat → Int32) (b_z1 : Int32) (b_c2 : Nat → Int32) (b_z2 : Int32) (b_c3 : Nat → Int32) (b_z3 : Int32) (b_c4 : Nat → Int32) (b_z4 : Int32) (b_sg : Int32) (s_np : Nat) (s_total : Nat → Int64) (s_shares : Nat → Int64) (s_pairs : Nat → Int64) (s_crowds : Nat → Int64) (s_bestWay : Nat → Int32) (s_bestWeight : Nat → Int64) (s_answer : Nat → Int64) (s_mine : Nat → Int64) (s_theirs : Nat → Int64) (s_people : Int32) (s_heads : Int32) (y : Int32 × (Nat → Int64) × (Nat → Int64) × (Nat → Int64) × (Nat → Int64) × (Nat → Int64) × (Nat → Int64) × (Nat → Int64)) (hf : f_X0_findDearest u_worth u_dearest u_unit u_wrongly u_guess u_most b_c0 b_z0 b_z2 s_np s_total s_shares s_pairs s_answer s_people s_heads = some y) : cx_M l yX0_findDearest cX0_findDearest 3 (some .int) 6 D k [.ref (u_a 0)] (wd_Aunt k u_a b_a s_a u_worth u_dearest u_unit u_wrongly u_guess u_most ++ (wd_Box k b_a b_c0 b_z0 b_c1 b_z1 b_c2 b_z2 b_c3 b_z3 b_c4 b_z4 b_sg ++ (wd_Sums k s_a s_np s_total s_shares s_pairs s_crowds s_bestWay s_bestWeight s_answer s_mine s_theirs s_people s_heads))) (fun sz => cx_Qi D y.1 (wd_Aunt k u_a b_a s_a u_worth u_dearest u_unit u_wrongly u_guess u_most ++ (wd_Box k b_a b_c0 b_z0 b_c1 b_z1 b_c2 b_z2 b_c3 b_z3 b_c4 b_z4 b_sg ++ (wd_Sums k s_a s_np s_total s_shares s_pairs s_crowds s_bestWay s_bestWeight s_answer s_mine s_theirs s_people s_heads))) (wd_Aunt k u_a b_a s_a y.2.1 y.2.2.1 y.2.2.2.1 y.2.2.2.2.1 y.2.2.2.2.2.1 y.2.2.2.2.2.2.1 ++ (wd_Box k b_a b_c0 b_z0 b_c1 b_z1 b_c2 b_z2 b_c3 b_z3 b_c4 b_z4 b_sg ++ (wd_Sums k s_a s_np s_total s_shares s_pairs s_crowds s_bestWay s_bestWeight y.2.2.2.2.2.2.2 s_mine s_theirs s_people s_heads))) sz) := by
  refine cx_met (own := "NamelessBox$Aunt") (by decide) rfl (Nat.le_of_ble_eq_true rfl) ?_
  intro p e s m args below meth c A Q C hA hQ hr hlk
  refine cx_lv (lv' := [(0, .ref (u_a 0))]) [0] rfl ?_
  have L4 : ∀ (n4 : Nat) (a_1 : Nat → Int64) (a_2 : Nat → Int64) (a_3 : Nat → Int64) (a_4 : Nat → Int64) (a_5 : Nat → Int64) (a_6 : Nat → Int64) (a_7 : Nat → Int64) (x1_8 : Int32) (x2_9 : Int32), f_X0_findDearest_L4w b_c0 b_z0 b_z2 s_np s_total s_shares s_pairs s_people s_heads n4 a_1 a_2 a_3 a_4 a_5 a_6 a_7 x1_8 x2_9 = some y → cx_S p l e (cx_rm 6) s m args below meth c A D 3 0 0 Q 4 [(0, .ref (u_a 0)), (1, .int x1_8), (2, .int x2_9)] [] (wd_Aunt k u_a b_a s_a a_1 a_2 a_3 a_4 a_5 a_6 ++ (wd_Box k b_a b_c0 b_z0 b_c1 b_z1 b_c2 b_z2 b_c3 b_z3 b_c4 b_z4 b_sg ++ (wd_Sums k s_a s_np s_total s_shares s_pairs s_crowds s_bestWay s_bestWeight a_7 s_mine s_theirs s_people s_heads))) := by
    intro  n4
    induction n4 with
    | zero =>
      intro a_1 a_2 a_3 a_4 a_5 a_6 a_7 x1_8 x2_9 hf
      exact absurd (show (none : Option (Int32 × (Nat → Int64) × (Nat → Int64) × (Nat → Int64) × (Nat → Int64) × (Nat → Int64) × (Nat → Int64) × (Nat → Int64))) = some y from hf) (fun h => by cases h)
    | succ n4 ih4 =>
      intro a_1 a_2 a_3 a_4 a_5 a_6 a_7 x1_8 x2_9 hf
      have hf : f_X0_findDearest_L4 b_c0 b_z0 b_z2 s_np s_total s_shares s_pairs s_people s_heads (f_X0_findDearest_L4w b_c0 b_z0 b_z2 s_np s_total s_shares s_pairs s_people s_heads n4) a_1 a_2 a_3 a_4 a_5 a_6 a_7 x1_8 x2_9 = some y := hf
      have J58 : ∀ (a_22 : Nat → Int64) (a_23 : Nat → Int64) (a_24 : Nat → Int64) (a_25 : Nat → Int64) (a_26 : Nat → Int64) (a_27 : Nat → Int64) (a_28 : Nat → Int64) (x1_29 : Int32), f_X0_findDearest_J58 x2_9 (f_X0_findDearest_L4w b_c0 b_z0 b_z2 s_np s_total s_shares s_pairs s_people s_heads n4) a_22 a_23 a_24 a_25 a_26 a_27 a_28 x1_29 = some y → cx_S p l e (cx_rm 6) s m args below meth c A D 3 0 0 Q 58 [(0, .ref (u_a 0)), (1, .int x1_29), (2, .int x2_9)] [] (wd_Aunt k u_a b_a s_a a_22 a_23 a_24 a_25 a_26 a_27 ++ (wd_Box k b_a b_c0 b_z0 b_c1 b_z1 b_c2 b_z2 b_c3 b_z3 b_c4 b_z4 b_sg ++ (wd_Sums k s_a s_np s_total s_shares s_pairs s_crowds s_bestWay s_bestWeight a_28 s_mine s_theirs s_people s_heads))) := by
        intro a_22 a_23 a_24 a_25 a_26 a_27 a_28 x1_29 hf
        unfold f_X0_findDearest_J58 at hf
        refine cx_iinc (v := x2_9 + 1) (lv' := [(2, .int (x2_9 + 1)), (0, .ref (u_a 0)), (1, .int x1_29)]) C dX0_findDearest_58 2 rfl rfl (by decide) rfl ?_
        refine cx_goto (tgt := 4) C dX0_findDearest_61 (by decide) ?_
        refine cx_lv [1, 2, 0] rfl ?_
        exact ih4 a_22 a_23 a_24 a_25 a_26 a_27 a_28 x1_29 (x2_9 + 1) hf
      have J43 : ∀ (a_14 : Nat → Int64) (a_15 : Nat → Int64) (a_16 : Nat → Int64) (a_17 : Nat → Int64) (a_18 : Nat → Int64) (a_19 : Nat → Int64), f_X0_findDearest_J43 a_2 x2_9 (f_X0_findDearest_L4w b_c0 b_z0 b_z2 s_np s_total s_shares s_pairs s_people s_heads n4) a_14 a_15 a_16 a_17 a_18 a_19 = some y → cx_S p l e (cx_rm 6) s m args below meth c A D 3 0 0 Q 43 [(0, .ref (u_a 0)), (2, .int x2_9)] [] (wd_Aunt k u_a b_a s_a a_14 a_2 a_15 a_16 a_17 a_18 ++ (wd_Box k b_a b_c0 b_z0 b_c1 b_z1 b_c2 b_z2 b_c3 b_z3 b_c4 b_z4 b_sg ++ (wd_Sums k s_a s_np s_total s_shares s_pairs s_crowds s_bestWay s_bestWeight a_19 s_mine s_theirs s_people s_heads))) := by
        intro a_14 a_15 a_16 a_17 a_18 a_19 hf
        unfold f_X0_findDearest_J43 at hf
        refine cx_aload_n C dX0_findDearest_43 0 rfl ?_
        refine cx_get (v := .ref (u_a 2)) (ci := 0) C iX0 dX0_findDearest_44 0 rfl rfl 1 (by decide) hw_264 rfl ?_
        refine cx_iconst (v := 0) C dX0_findDearest_47 (by decide) ?_
        refine cx_aload_n C dX0_findDearest_48 0 rfl ?_
        refine cx_get (v := .ref (u_a 1)) (ci := 0) C iX0 dX0_findDearest_49 0 rfl rfl 0 (by decide) hw_262 rfl ?_
        refine cx_iconst (v := 0) C dX0_findDearest_52 (by decide) ?_
        obtain ⟨u20, e21, hf⟩ := cx_bd_at hf
        refine cx_csv (As := [.ref (u_a 2), .int 0, .ref (u_a 1), .int 0]) (rest := []) (ws' := (wd_Aunt k u_a b_a s_a a_14 u20 a_15 a_16 a_17 a_18 ++ (wd_Box k b_a b_c0 b_z0 b_c1 b_z1 b_c2 b_z2 b_c3 b_z3 b_c4 b_z4 b_sg ++ (wd_Sums k s_a s_np s_total s_shares s_pairs s_crowds s_bestWay s_bestWeight a_19 s_mine s_theirs s_people s_heads)))) hA C me_X3_copy hw_948 (c_X3_copy l D k (u_a 2) (u_a 1) 4 a_2 0 4 a_14 0 u20 e21) dX0_findDearest_53 ⟨Nat.le_of_ble_eq_true rfl, Nat.le_of_ble_eq_true rfl⟩ ⟨Nat.zero_le _, Nat.zero_le _⟩ rfl rfl (Nat.le_of_ble_eq_true rfl) [2, 1] rfl (by decide) rfl rfl ?_
        clear e21
        refine cx_iload_n C dX0_findDearest_56 1 rfl ?_
        refine cx_istore_n (lv' := [(1, .int x2_9), (0, .ref (u_a 0)), (2, .int x2_9)]) C dX0_findDearest_57 rfl (by decide) rfl ?_
        refine cx_lv [1, 0, 2] rfl ?_
        exact J58 a_14 u20 a_15 a_16 a_17 a_18 a_19 x2_9 hf
      unfold f_X0_findDearest_L4 at hf
      refine cx_iload_n C dX0_findDearest_4 2 rfl ?_
      refine cx_aload_n C dX0_findDearest_5 0 rfl ?_
      refine cx_get (v := .ref (b_a 0)) (ci := 0) C iX0 dX0_findDearest_6 0 rfl rfl 3 (by decide) hw_268 rfl ?_
      refine cx_get (v := .ref (b_a 5)) (ci := 1) C iX1 dX0_findDearest_9 7 rfl rfl 2 (by decide) hw_68 rfl ?_
      refine cx_get (v := .int b_z2) (ci := 3) C iX4 dX0_findDearest_12 12 rfl rfl 3 (by decide) hw_47 rfl ?_
      refine cx_icmp_ge (tgt := 64) C dX0_findDearest_15 (by decide) (fun c10 => ?_) (fun c10 => ?_)
      · have hf := cx_if_t hf c10
        clear c10
        refine cx_iload_n C dX0_findDearest_64 1 rfl ?_
        obtain rfl := Option.some.inj hf
        exact cx_iret C hA hQ hr hlk dX0_findDearest_65 rfl rfl
      · have hf := cx_if_f hf c10
        clear c10
        refine cx_aload_n C dX0_findDearest_18 0 rfl ?_
        refine cx_iload_n C dX0_findDearest_19 2 rfl ?_
        obtain ⟨u11, e12, hf⟩ := cx_bd_at hf
        refine cx_Fvv (q := (RX0, TX0, 8)) (As := [.int x2_9]) (rest := []) (w1 := (wd_Aunt k u_a b_a s_a u11.1 a_2 u11.2.1 u11.2.2.1 u11.2.2.2.1 u11.2.2.2.2.1 ++ (wd_Box k b_a b_c0 b_z0 b_c1 b_z1 b_c2 b_z2 b_c3 b_z3 b_c4 b_z4 b_sg ++ (wd_Sums k s_a s_np s_total s_shares s_pairs s_crowds s_bestWay s_bestWeight u11.2.2.2.2.2 s_mine s_theirs s_people s_heads)))) hA C me_X0_weigh hw_978 (c_X0_weigh l D k u_a b_a s_a a_1 a_2 a_3 a_4 a_5 a_6 b_c0 b_z0 b_c1 b_z1 b_c2 b_z2 b_c3 b_z3 b_c4 b_z4 b_sg s_np s_total s_shares s_pairs s_crowds s_bestWay s_bestWeight a_7 s_mine s_theirs s_people s_heads x2_9 u11 e12) dX0_findDearest_20 ⟨Nat.le_of_ble_eq_true rfl, Nat.le_of_ble_eq_true rfl⟩ ⟨Nat.zero_le _, Nat.zero_le _⟩ rfl rfl (Nat.le_of_ble_eq_true rfl) rfl rfl rfl ?_
        clear e12
        refine cx_iload_n C dX0_findDearest_23 2 rfl ?_
        refine cx_if_eq (tgt := 43) C dX0_findDearest_24 (by decide) (fun c13 => ?_) (fun c13 => ?_)
        · have hf := cx_if_t hf c13
          clear c13
          refine cx_lv [0, 2] rfl ?_
          exact J43 u11.1 u11.2.1 u11.2.2.1 u11.2.2.2.1 u11.2.2.2.2.1 u11.2.2.2.2.2 hf
        · have hf := cx_if_f hf c13
          clear c13
          refine cx_aload_n C dX0_findDearest_27 0 rfl ?_
          refine cx_get (v := .ref (u_a 1)) (ci := 0) C iX0 dX0_findDearest_28 0 rfl rfl 0 (by decide) hw_262 rfl ?_
          refine cx_iconst (v := 0) C dX0_findDearest_31 (by decide) ?_
          refine cx_aload_n C dX0_findDearest_32 0 rfl ?_
          refine cx_get (v := .ref (u_a 2)) (ci := 0) C iX0 dX0_findDearest_33 0 rfl rfl 1 (by decide) hw_264 rfl ?_
          refine cx_iconst (v := 0) C dX0_findDearest_36 (by decide) ?_
          obtain ⟨u30, e31, hf⟩ := cx_bd_at hf
          refine cx_Ksi (As := [.ref (u_a 1), .int 0, .ref (u_a 2), .int 0]) (rest := []) hA C me_X3_compare hw_966 (c_X3_compare l D k (u_a 1) (u_a 2) 4 u11.1 0 4 a_2 0 u30 e31) dX0_findDearest_37 ⟨Nat.le_of_ble_eq_true rfl, Nat.le_of_ble_eq_true rfl⟩ ⟨Nat.zero_le _, Nat.zero_le _⟩ rfl rfl (Nat.le_of_ble_eq_true rfl) [1, 2] rfl (by decide) ?_
          clear e31
          refine cx_if_le (tgt := 58) C dX0_findDearest_40 (by decide) (fun c32 => ?_) (fun c32 => ?_)
          · have hf := cx_if_t hf c32
            clear c32
            exact J58 u11.1 a_2 u11.2.1 u11.2.2.1 u11.2.2.2.1 u11.2.2.2.2.1 u11.2.2.2.2.2 x1_8 hf
          · have hf := cx_if_f hf c32
            clear c32
            refine cx_lv [0, 2] rfl ?_
            exact J43 u11.1 u11.2.1 u11.2.2.1 u11.2.2.2.1 u11.2.2.2.2.1 u11.2.2.2.2.2 hf
  unfold f_X0_findDearest at hf
  refine cx_iconst (v := 0) C dX0_findDearest_0 (by decide) ?_
  refine cx_istore_n (lv' := [(1, .int 0), (0, .ref (u_a 0))]) C dX0_findDearest_1 rfl (by decide) rfl ?_
  refine cx_iconst (v := 0) C dX0_findDearest_2 (by decide) ?_
  refine cx_istore_n (lv' := [(2, .int 0), (1, .int 0), (0, .ref (u_a 0))]) C dX0_findDearest_3 rfl (by decide) rfl ?_
  refine cx_lv [2, 1, 0] rfl ?_
  exact L4 cx_N0 u_worth u_dearest u_unit u_wrongly u_guess u_most s_answer 0 0 hf
