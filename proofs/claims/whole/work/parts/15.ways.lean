theorem dX7_lookAtAll_0 : decode cX7_lookAtAll 0 = .ok (.aload_n 0, 1) := by decide +kernel
theorem dX7_lookAtAll_1 : decode cX7_lookAtAll 1 = .ok (.iload_n 1, 1) := by decide +kernel
theorem dX7_lookAtAll_2 : decode cX7_lookAtAll 2 = .ok (.putfield 9, 3) := by decide +kernel
theorem dX7_lookAtAll_5 : decode cX7_lookAtAll 5 = .ok (.aload_n 0, 1) := by decide +kernel
theorem dX7_lookAtAll_6 : decode cX7_lookAtAll 6 = .ok (.iconst (-1), 1) := by decide +kernel
theorem dX7_lookAtAll_7 : decode cX7_lookAtAll 7 = .ok (.putfield 15, 3) := by decide +kernel
theorem dX7_lookAtAll_10 : decode cX7_lookAtAll 10 = .ok (.aload_n 0, 1) := by decide +kernel
theorem dX7_lookAtAll_11 : decode cX7_lookAtAll 11 = .ok (.iconst (-1), 1) := by decide +kernel
theorem dX7_lookAtAll_12 : decode cX7_lookAtAll 12 = .ok (.putfield 18, 3) := by decide +kernel
theorem dX7_lookAtAll_15 : decode cX7_lookAtAll 15 = .ok (.aload_n 0, 1) := by decide +kernel
theorem dX7_lookAtAll_16 : decode cX7_lookAtAll 16 = .ok (.iconst (-1), 1) := by decide +kernel
theorem dX7_lookAtAll_17 : decode cX7_lookAtAll 17 = .ok (.putfield 21, 3) := by decide +kernel
theorem dX7_lookAtAll_20 : decode cX7_lookAtAll 20 = .ok (.aload_n 0, 1) := by decide +kernel
theorem dX7_lookAtAll_21 : decode cX7_lookAtAll 21 = .ok (.iconst 0, 1) := by decide +kernel
theorem dX7_lookAtAll_22 : decode cX7_lookAtAll 22 = .ok (.putfield 24, 3) := by decide +kernel
theorem dX7_lookAtAll_25 : decode cX7_lookAtAll 25 = .ok (.iconst 0, 1) := by decide +kernel
theorem dX7_lookAtAll_26 : decode cX7_lookAtAll 26 = .ok (.istore_n 2, 1) := by decide +kernel
theorem dX7_lookAtAll_27 : decode cX7_lookAtAll 27 = .ok (.iload_n 2, 1) := by decide +kernel
theorem dX7_lookAtAll_28 : decode cX7_lookAtAll 28 = .ok (.aload_n 0, 1) := by decide +kernel
theorem dX7_lookAtAll_29 : decode cX7_lookAtAll 29 = .ok (.getfield 68, 3) := by decide +kernel
theorem dX7_lookAtAll_32 : decode cX7_lookAtAll 32 = .ok (.getfield 82, 3) := by decide +kernel
theorem dX7_lookAtAll_35 : decode cX7_lookAtAll 35 = .ok (.getfield 88, 3) := by decide +kernel
theorem dX7_lookAtAll_38 : decode cX7_lookAtAll 38 = .ok (.if_icmp .ge 59, 3) := by decide +kernel
theorem dX7_lookAtAll_41 : decode cX7_lookAtAll 41 = .ok (.aload_n 0, 1) := by decide +kernel
theorem dX7_lookAtAll_42 : decode cX7_lookAtAll 42 = .ok (.getfield 28, 3) := by decide +kernel
theorem dX7_lookAtAll_45 : decode cX7_lookAtAll 45 = .ok (.iload_n 2, 1) := by decide +kernel
theorem dX7_lookAtAll_46 : decode cX7_lookAtAll 46 = .ok (.aload_n 0, 1) := by decide +kernel
theorem dX7_lookAtAll_47 : decode cX7_lookAtAll 47 = .ok (.getfield 68, 3) := by decide +kernel
theorem dX7_lookAtAll_50 : decode cX7_lookAtAll 50 = .ok (.getfield 82, 3) := by decide +kernel
theorem dX7_lookAtAll_53 : decode cX7_lookAtAll 53 = .ok (.iload_n 2, 1) := by decide +kernel
theorem dX7_lookAtAll_54 : decode cX7_lookAtAll 54 = .ok (.iconst 0, 1) := by decide +kernel
theorem dX7_lookAtAll_55 : decode cX7_lookAtAll 55 = .ok (.invokevirtual 93, 3) := by decide +kernel
theorem dX7_lookAtAll_58 : decode cX7_lookAtAll 58 = .ok (.iastore, 1) := by decide +kernel
theorem dX7_lookAtAll_59 : decode cX7_lookAtAll 59 = .ok (.aload_n 0, 1) := by decide +kernel
theorem dX7_lookAtAll_60 : decode cX7_lookAtAll 60 = .ok (.getfield 32, 3) := by decide +kernel
theorem dX7_lookAtAll_63 : decode cX7_lookAtAll 63 = .ok (.iload_n 2, 1) := by decide +kernel
theorem dX7_lookAtAll_64 : decode cX7_lookAtAll 64 = .ok (.bipush 12, 2) := by decide +kernel
theorem dX7_lookAtAll_66 : decode cX7_lookAtAll 66 = .ok (.aload_n 0, 1) := by decide +kernel
theorem dX7_lookAtAll_67 : decode cX7_lookAtAll 67 = .ok (.getfield 68, 3) := by decide +kernel
theorem dX7_lookAtAll_70 : decode cX7_lookAtAll 70 = .ok (.getfield 82, 3) := by decide +kernel
theorem dX7_lookAtAll_73 : decode cX7_lookAtAll 73 = .ok (.iload_n 2, 1) := by decide +kernel
theorem dX7_lookAtAll_74 : decode cX7_lookAtAll 74 = .ok (.iconst 1, 1) := by decide +kernel
theorem dX7_lookAtAll_75 : decode cX7_lookAtAll 75 = .ok (.invokevirtual 93, 3) := by decide +kernel
theorem dX7_lookAtAll_78 : decode cX7_lookAtAll 78 = .ok (.aload_n 0, 1) := by decide +kernel
theorem dX7_lookAtAll_79 : decode cX7_lookAtAll 79 = .ok (.getfield 28, 3) := by decide +kernel
theorem dX7_lookAtAll_82 : decode cX7_lookAtAll 82 = .ok (.iload_n 2, 1) := by decide +kernel
theorem dX7_lookAtAll_83 : decode cX7_lookAtAll 83 = .ok (.iaload, 1) := by decide +kernel
theorem dX7_lookAtAll_84 : decode cX7_lookAtAll 84 = .ok (.isub, 1) := by decide +kernel
theorem dX7_lookAtAll_85 : decode cX7_lookAtAll 85 = .ok (.iconst 1, 1) := by decide +kernel
theorem dX7_lookAtAll_86 : decode cX7_lookAtAll 86 = .ok (.iadd, 1) := by decide +kernel
theorem dX7_lookAtAll_87 : decode cX7_lookAtAll 87 = .ok (.invokestatic 97, 3) := by decide +kernel
theorem dX7_lookAtAll_90 : decode cX7_lookAtAll 90 = .ok (.iastore, 1) := by decide +kernel
theorem dX7_lookAtAll_91 : decode cX7_lookAtAll 91 = .ok (.iinc 2 1, 3) := by decide +kernel
theorem dX7_lookAtAll_94 : decode cX7_lookAtAll 94 = .ok (.goto (-67), 3) := by decide +kernel
theorem dX7_lookAtAll_97 : decode cX7_lookAtAll 97 = .ok (.return_, 1) := by decide +kernel
theorem me_X7_lookAtAll : cx_Mv yX7_lookAtAll cX7_lookAtAll 3 none 1 := ⟨⟨⟨by decide +kernel, by decide +kernel, by decide +kernel⟩, hw_7, hw_629⟩, hw_627, hw_628⟩
noncomputable def f_X7_lookAtAll_L27 (b_c1 : Nat → Int32) (b_z1 : Int32) (p1 : Int32) (h_1 : Int32) (h_2 : Int32) (h_3 : Int32) (h_4 : Int32) (rc27 : (Nat → Int32) → (Nat → Int32) → Int32 → Option (Int32 × Int32 × Int32 × Int32 × Int32 × (Nat → Int32) × (Nat → Int32))) (a_5 : Nat → Int32) (a_6 : Nat → Int32) (x2_7 : Int32) : Option (Int32 × Int32 × Int32 × Int32 × Int32 × (Nat → Int32) × (Nat → Int32)) := if b_z1 ≤ x2_7 then (some ((p1, h_1, h_2, h_3, h_4, a_5, a_6))) else (Option.bind (f_X4_at 2 8 b_c1 b_z1 x2_7 0) (fun u9 => cx_gd (cx_ib x2_7 4) (cx_let (upd a_5 (cx_ix x2_7) u9) (fun a12 => Option.bind (f_X4_at 2 8 b_c1 b_z1 x2_7 1) (fun u13 => cx_gd (cx_ib x2_7 4) (cx_gd (cx_ib x2_7 4) (cx_let (upd a_6 (cx_ix x2_7) (if ((u13 - (a12 (cx_ix x2_7))) + 1) < 12 then ((u13 - (a12 (cx_ix x2_7))) + 1) else 12)) (fun a17 => rc27 a12 a17 (x2_7 + 1)))))))))
noncomputable def f_X7_lookAtAll_L27w (b_c1 : Nat → Int32) (b_z1 : Int32) (p1 : Int32) (h_1 : Int32) (h_2 : Int32) (h_3 : Int32) (h_4 : Int32) (n : Nat) : (Nat → Int32) → (Nat → Int32) → Int32 → Option (Int32 × Int32 × Int32 × Int32 × Int32 × (Nat → Int32) × (Nat → Int32)) := Nat.rec (fun _ _ _ => none) (fun _ r => f_X7_lookAtAll_L27 b_c1 b_z1 p1 h_1 h_2 h_3 h_4 r) n
noncomputable def f_X7_lookAtAll (w_firstYear : Nat → Int32) (w_years : Nat → Int32) (b_c1 : Nat → Int32) (b_z1 : Int32) (p1 : Int32) : Option (Int32 × Int32 × Int32 × Int32 × Int32 × (Nat → Int32) × (Nat → Int32)) := f_X7_lookAtAll_L27w b_c1 b_z1 p1 ((-1)) ((-1)) ((-1)) 0 cx_N0 w_firstYear w_years 0
set_option maxHeartbeats 4000000 in
set_option maxRecDepth 100000 in
theorem c_X7_lookAtAll (l : Launch) (D : va_G) (k : Nat → ClassId) (w_a : Nat → Nat) (b_a : Nat → Nat) (s_a : Nat → Nat) (w_detail : Int32) (w_skipped : Int32) (w_early : Int32) (w_late : Int32) (w_firstOnly : Int32) (w_firstYear : Nat → Int32) (w_years : Nat → Int32) (w_place : Nat → Int32) (w_before : Nat → Int32) (w_closing : Nat → Int32) (w_likes : Nat → Int32) (w_likeSums : Nat → Int32) (w_namings : Nat → Int32) (w_products : Nat → Int64) (w_weights : Nat → Int64) (w_subtotals : Nat → Int64) (w_way : Nat → Int32) (b_c0 : Nat → Int32) (b_z0 : Int32) (b_c1 : Nat → Int32) (b_z1 : Int32) (b_c2 : Nat → Int32) (b_z2 : Int32) (b_c3 : Nat → Int32) (b_z3 : Int32) (b_c4 : Nat → Int32) (b_z4 : Int32) (b_sg : Int32) (s_np : Nat) (s_total : Nat → Int64) (s_shares : Nat → Int64) (s_pairs : Nat → Int64) (s_crowds : Nat → Int64) (s_bestWay : Nat → Int32) (s_bestWeight : Nat → Int64) (s_answer : Nat → Int64) (s_mine : Nat → Int64) (s_theirs : Nat → Int64) (s_people : Int32) (s_heads : Int32) (p1 : Int32) (y : Int32 × Int32 × Int32 × Int32 × Int32 × (Nat → Int32) × (Nat → Int32)) (hf : f_X7_lookAtAll w_firstYear w_years b_c1 b_z1 p1 = some y) : cx_M l yX7_lookAtAll cX7_lookAtAll 3 none 2 D k [.ref (w_a 0), .int p1] (wd_Ways k w_a b_a s_a w_detail w_skipped w_early w_late w_firstOnly w_firstYear w_years w_place w_before w_closing w_likes w_likeSums w_namings w_products w_weights w_subtotals w_way ++ (wd_Box k b_a b_c0 b_z0 b_c1 b_z1 b_c2 b_z2 b_c3 b_z3 b_c4 b_z4 b_sg ++ (wd_Sums k s_a s_np s_total s_shares s_pairs s_crowds s_bestWay s_bestWeight s_answer s_mine s_theirs s_people s_heads))) (fun sz => cx_Qv D (wd_Ways k w_a b_a s_a w_detail w_skipped w_early w_late w_firstOnly w_firstYear w_years w_place w_before w_closing w_likes w_likeSums w_namings w_products w_weights w_subtotals w_way ++ (wd_Box k b_a b_c0 b_z0 b_c1 b_z1 b_c2 b_z2 b_c3 b_z3 b_c4 b_z4 b_sg ++ (wd_Sums k s_a s_np s_total s_shares s_pairs s_crowds s_bestWay s_bestWeight s_answer s_mine s_theirs s_people s_heads))) (wd_Ways k w_a b_a s_a y.1 y.2.1 y.2.2.1 y.2.2.2.1 y.2.2.2.2.1 y.2.2.2.2.2.1 y.2.2.2.2.2.2 w_place w_before w_closing w_likes w_likeSums w_namings w_products w_weights w_subtotals w_way ++ (wd_Box k b_a b_c0 b_z0 b_c1 b_z1 b_c2 b_z2 b_c3 b_z3 b_c4 b_z4 b_sg ++ (wd_Sums k s_a s_np s_total s_shares s_pairs s_crowds s_bestWay s_bestWeight s_answer s_mine s_theirs s_people s_heads))) sz) := by
  refine cx_met (own := "NamelessBox$Ways") (by decide) rfl (Nat.le_of_ble_eq_true rfl) ?_
  intro p e s m args below meth c A Q C hA hQ hr hlk
  refine cx_lv (lv' := [(0, .ref (w_a 0)), (1, .int p1)]) [0, 1] rfl ?_
  have L27 : ∀ (h_1 : Int32) (h_2 : Int32) (h_3 : Int32) (h_4 : Int32) (n27 : Nat) (a_5 : Nat → Int32) (a_6 : Nat → Int32) (x2_7 : Int32), f_X7_lookAtAll_L27w b_c1 b_z1 p1 h_1 h_2 h_3 h_4 n27 a_5 a_6 x2_7 = some y → cx_S p l e (cx_rm 2) s m args below meth c A D 3 0 0 Q 27 [(0, .ref (w_a 0)), (2, .int x2_7)] [] (wd_Ways k w_a b_a s_a p1 h_1 h_2 h_3 h_4 a_5 a_6 w_place w_before w_closing w_likes w_likeSums w_namings w_products w_weights w_subtotals w_way ++ (wd_Box k b_a b_c0 b_z0 b_c1 b_z1 b_c2 b_z2 b_c3 b_z3 b_c4 b_z4 b_sg ++ (wd_Sums k s_a s_np s_total s_shares s_pairs s_crowds s_bestWay s_bestWeight s_answer s_mine s_theirs s_people s_heads))) := by
    intro h_1 h_2 h_3 h_4 n27
    induction n27 with
    | zero =>
      intro a_5 a_6 x2_7 hf
      exact absurd (show (none : Option (Int32 × Int32 × Int32 × Int32 × Int32 × (Nat → Int32) × (Nat → Int32))) = some y from hf) (fun h => by cases h)
    | succ n27 ih27 =>
      intro a_5 a_6 x2_7 hf
      have hf : f_X7_lookAtAll_L27 b_c1 b_z1 p1 h_1 h_2 h_3 h_4 (f_X7_lookAtAll_L27w b_c1 b_z1 p1 h_1 h_2 h_3 h_4 n27) a_5 a_6 x2_7 = some y := hf
      unfold f_X7_lookAtAll_L27 at hf
      refine cx_iload_n C dX7_lookAtAll_27 1 rfl ?_
      refine cx_aload_n C dX7_lookAtAll_28 0 rfl ?_
      refine cx_get (v := .ref (b_a 0)) (ci := 6) C iX7 dX7_lookAtAll_29 0 rfl rfl 1 (by decide) hw_199 rfl ?_
      refine cx_get (v := .ref (b_a 3)) (ci := 1) C iX1 dX7_lookAtAll_32 13 rfl rfl 1 (by decide) hw_65 rfl ?_
      refine cx_get (v := .int b_z1) (ci := 3) C iX4 dX7_lookAtAll_35 16 rfl rfl 3 (by decide) hw_48 rfl ?_
      refine cx_icmp_ge (tgt := 97) C dX7_lookAtAll_38 (by decide) (fun c8 => ?_) (fun c8 => ?_)
      · have hf := cx_if_t hf c8
        clear c8
        obtain rfl := Option.some.inj hf
        exact cx_vret C hA hQ hr hlk dX7_lookAtAll_97 rfl
      · have hf := cx_if_f hf c8
        clear c8
        refine cx_aload_n C dX7_lookAtAll_41 0 rfl ?_
        refine cx_get (v := .ref (w_a 1)) (ci := 6) C iX7 dX7_lookAtAll_42 0 rfl rfl 7 (by decide) hw_205 rfl ?_
        refine cx_iload_n C dX7_lookAtAll_45 1 rfl ?_
        refine cx_aload_n C dX7_lookAtAll_46 0 rfl ?_
        refine cx_get (v := .ref (b_a 0)) (ci := 6) C iX7 dX7_lookAtAll_47 0 rfl rfl 1 (by decide) hw_199 rfl ?_
        refine cx_get (v := .ref (b_a 3)) (ci := 1) C iX1 dX7_lookAtAll_50 13 rfl rfl 1 (by decide) hw_65 rfl ?_
        refine cx_iload_n C dX7_lookAtAll_53 1 rfl ?_
        refine cx_iconst (v := 0) C dX7_lookAtAll_54 (by decide) ?_
        obtain ⟨u9, e10, hf⟩ := cx_bd_at hf
        refine cx_Kvi (q := (RX4, TX4, 4)) (As := [.int x2_7, .int 0]) (rest := [.int x2_7, .ref (w_a 1)]) hA C me_X4_at hw_630 (c_X4_at l D k (b_a 3) (b_a 4) 2 4 8 b_c1 b_z1 x2_7 0 u9 e10) dX7_lookAtAll_55 ⟨Nat.le_of_ble_eq_true rfl, Nat.le_of_ble_eq_true rfl⟩ ⟨Nat.zero_le _, Nat.zero_le _⟩ rfl rfl (Nat.le_of_ble_eq_true rfl) rfl rfl [16, 17] rfl (by decide) ?_
        clear e10
        obtain ⟨g11, hf⟩ := cx_gd_at hf
        obtain ⟨a12, ea12⟩ : ∃ z, z = upd a_5 (cx_ix x2_7) u9 := ⟨_, rfl⟩
        have hf := cx_let_at hf ea12
        refine cx_iast (ws' := (wd_Ways k w_a b_a s_a p1 h_1 h_2 h_3 h_4 a12 a_6 w_place w_before w_closing w_likes w_likeSums w_namings w_products w_weights w_subtotals w_way ++ (wd_Box k b_a b_c0 b_z0 b_c1 b_z1 b_c2 b_z2 b_c3 b_z3 b_c4 b_z4 b_sg ++ (wd_Sums k s_a s_np s_total s_shares s_pairs s_crowds s_bestWay s_bestWeight s_answer s_mine s_theirs s_people s_heads)))) C dX7_lookAtAll_58 1 rfl (cx_ib_in g11) (by rw [ea12]; rfl) ?_
        clear ea12 g11
        refine cx_aload_n C dX7_lookAtAll_59 0 rfl ?_
        refine cx_get (v := .ref (w_a 2)) (ci := 6) C iX7 dX7_lookAtAll_60 0 rfl rfl 8 (by decide) hw_206 rfl ?_
        refine cx_iload_n C dX7_lookAtAll_63 1 rfl ?_
        refine cx_bipush (v := 12) C dX7_lookAtAll_64 (by decide) ?_
        refine cx_aload_n C dX7_lookAtAll_66 0 rfl ?_
        refine cx_get (v := .ref (b_a 0)) (ci := 6) C iX7 dX7_lookAtAll_67 0 rfl rfl 1 (by decide) hw_199 rfl ?_
        refine cx_get (v := .ref (b_a 3)) (ci := 1) C iX1 dX7_lookAtAll_70 13 rfl rfl 1 (by decide) hw_65 rfl ?_
        refine cx_iload_n C dX7_lookAtAll_73 1 rfl ?_
        refine cx_iconst (v := 1) C dX7_lookAtAll_74 (by decide) ?_
        obtain ⟨u13, e14, hf⟩ := cx_bd_at hf
        refine cx_Kvi (q := (RX4, TX4, 4)) (As := [.int x2_7, .int 1]) (rest := [.int 12, .int x2_7, .ref (w_a 2)]) hA C me_X4_at hw_630 (c_X4_at l D k (b_a 3) (b_a 4) 2 4 8 b_c1 b_z1 x2_7 1 u13 e14) dX7_lookAtAll_75 ⟨Nat.le_of_ble_eq_true rfl, Nat.le_of_ble_eq_true rfl⟩ ⟨Nat.zero_le _, Nat.zero_le _⟩ rfl rfl (Nat.le_of_ble_eq_true rfl) rfl rfl [16, 17] rfl (by decide) ?_
        clear e14
        refine cx_aload_n C dX7_lookAtAll_78 0 rfl ?_
        refine cx_get (v := .ref (w_a 1)) (ci := 6) C iX7 dX7_lookAtAll_79 0 rfl rfl 7 (by decide) hw_205 rfl ?_
        refine cx_iload_n C dX7_lookAtAll_82 1 rfl ?_
        obtain ⟨g15, hf⟩ := cx_gd_at hf
        refine cx_iald C dX7_lookAtAll_83 1 rfl (cx_ib_in g15) ?_
        clear g15
        refine cx_isub C dX7_lookAtAll_84 ?_
        refine cx_iconst (v := 1) C dX7_lookAtAll_85 (by decide) ?_
        refine cx_iadd C dX7_lookAtAll_86 ?_
        refine cx_mmin C dX7_lookAtAll_87 hw_631 hw_612 hw_4 hw_613 (Nat.le_of_ble_eq_true rfl) (Nat.le_of_ble_eq_true rfl) ⟨Nat.zero_le _, Nat.zero_le _⟩ ?_
        obtain ⟨g16, hf⟩ := cx_gd_at hf
        obtain ⟨a17, ea17⟩ : ∃ z, z = upd a_6 (cx_ix x2_7) (if ((u13 - (a12 (cx_ix x2_7))) + 1) < 12 then ((u13 - (a12 (cx_ix x2_7))) + 1) else 12) := ⟨_, rfl⟩
        have hf := cx_let_at hf ea17
        refine cx_iast (ws' := (wd_Ways k w_a b_a s_a p1 h_1 h_2 h_3 h_4 a12 a17 w_place w_before w_closing w_likes w_likeSums w_namings w_products w_weights w_subtotals w_way ++ (wd_Box k b_a b_c0 b_z0 b_c1 b_z1 b_c2 b_z2 b_c3 b_z3 b_c4 b_z4 b_sg ++ (wd_Sums k s_a s_np s_total s_shares s_pairs s_crowds s_bestWay s_bestWeight s_answer s_mine s_theirs s_people s_heads)))) C dX7_lookAtAll_90 2 rfl (cx_ib_in g16) (by rw [ea17]; rfl) ?_
        clear ea17 g16
        refine cx_iinc (v := x2_7 + 1) (lv' := [(2, .int (x2_7 + 1)), (0, .ref (w_a 0))]) C dX7_lookAtAll_91 1 rfl rfl (by decide) rfl ?_
        refine cx_goto (tgt := 27) C dX7_lookAtAll_94 (by decide) ?_
        refine cx_lv [1, 0] rfl ?_
        exact ih27 a12 a17 (x2_7 + 1) hf
  unfold f_X7_lookAtAll at hf
  refine cx_aload_n C dX7_lookAtAll_0 0 rfl ?_
  refine cx_iload_n C dX7_lookAtAll_1 1 rfl ?_
  refine cx_putf (v := .int p1) (ty := .int) (ci := 6) (ws' := (wd_Ways k w_a b_a s_a p1 w_skipped w_early w_late w_firstOnly w_firstYear w_years w_place w_before w_closing w_likes w_likeSums w_namings w_products w_weights w_subtotals w_way ++ (wd_Box k b_a b_c0 b_z0 b_c1 b_z1 b_c2 b_z2 b_c3 b_z3 b_c4 b_z4 b_sg ++ (wd_Sums k s_a s_np s_total s_shares s_pairs s_crowds s_bestWay s_bestWeight s_answer s_mine s_theirs s_people s_heads)))) C iX7 tyX7 tyX7_ok nmX7 dX7_lookAtAll_2 0 rfl rfl 2 (by decide) hw_200 rfl (by decide +kernel) rfl rfl (Nat.le_of_ble_eq_true rfl) rfl ?_
  refine cx_aload_n C dX7_lookAtAll_5 0 rfl ?_
  refine cx_iconst (v := (-1)) C dX7_lookAtAll_6 (by decide) ?_
  refine cx_putf (v := .int ((-1))) (ty := .int) (ci := 6) (ws' := (wd_Ways k w_a b_a s_a p1 ((-1)) w_early w_late w_firstOnly w_firstYear w_years w_place w_before w_closing w_likes w_likeSums w_namings w_products w_weights w_subtotals w_way ++ (wd_Box k b_a b_c0 b_z0 b_c1 b_z1 b_c2 b_z2 b_c3 b_z3 b_c4 b_z4 b_sg ++ (wd_Sums k s_a s_np s_total s_shares s_pairs s_crowds s_bestWay s_bestWeight s_answer s_mine s_theirs s_people s_heads)))) C iX7 tyX7 tyX7_ok nmX7 dX7_lookAtAll_7 0 rfl rfl 3 (by decide) hw_201 rfl (by decide +kernel) rfl rfl (Nat.le_of_ble_eq_true rfl) rfl ?_
  refine cx_aload_n C dX7_lookAtAll_10 0 rfl ?_
  refine cx_iconst (v := (-1)) C dX7_lookAtAll_11 (by decide) ?_
  refine cx_putf (v := .int ((-1))) (ty := .int) (ci := 6) (ws' := (wd_Ways k w_a b_a s_a p1 ((-1)) ((-1)) w_late w_firstOnly w_firstYear w_years w_place w_before w_closing w_likes w_likeSums w_namings w_products w_weights w_subtotals w_way ++ (wd_Box k b_a b_c0 b_z0 b_c1 b_z1 b_c2 b_z2 b_c3 b_z3 b_c4 b_z4 b_sg ++ (wd_Sums k s_a s_np s_total s_shares s_pairs s_crowds s_bestWay s_bestWeight s_answer s_mine s_theirs s_people s_heads)))) C iX7 tyX7 tyX7_ok nmX7 dX7_lookAtAll_12 0 rfl rfl 4 (by decide) hw_202 rfl (by decide +kernel) rfl rfl (Nat.le_of_ble_eq_true rfl) rfl ?_
  refine cx_aload_n C dX7_lookAtAll_15 0 rfl ?_
  refine cx_iconst (v := (-1)) C dX7_lookAtAll_16 (by decide) ?_
  refine cx_putf (v := .int ((-1))) (ty := .int) (ci := 6) (ws' := (wd_Ways k w_a b_a s_a p1 ((-1)) ((-1)) ((-1)) w_firstOnly w_firstYear w_years w_place w_before w_closing w_likes w_likeSums w_namings w_products w_weights w_subtotals w_way ++ (wd_Box k b_a b_c0 b_z0 b_c1 b_z1 b_c2 b_z2 b_c3 b_z3 b_c4 b_z4 b_sg ++ (wd_Sums k s_a s_np s_total s_shares s_pairs s_crowds s_bestWay s_bestWeight s_answer s_mine s_theirs s_people s_heads)))) C iX7 tyX7 tyX7_ok nmX7 dX7_lookAtAll_17 0 rfl rfl 5 (by decide) hw_203 rfl (by decide +kernel) rfl rfl (Nat.le_of_ble_eq_true rfl) rfl ?_
  refine cx_aload_n C dX7_lookAtAll_20 0 rfl ?_
  refine cx_iconst (v := 0) C dX7_lookAtAll_21 (by decide) ?_
  refine cx_putf (v := .int 0) (ty := .boolean) (ci := 6) (ws' := (wd_Ways k w_a b_a s_a p1 ((-1)) ((-1)) ((-1)) 0 w_firstYear w_years w_place w_before w_closing w_likes w_likeSums w_namings w_products w_weights w_subtotals w_way ++ (wd_Box k b_a b_c0 b_z0 b_c1 b_z1 b_c2 b_z2 b_c3 b_z3 b_c4 b_z4 b_sg ++ (wd_Sums k s_a s_np s_total s_shares s_pairs s_crowds s_bestWay s_bestWeight s_answer s_mine s_theirs s_people s_heads)))) C iX7 tyX7 tyX7_ok nmX7 dX7_lookAtAll_22 0 rfl rfl 6 (by decide) hw_204 rfl (by decide +kernel) rfl rfl (Nat.le_of_ble_eq_true rfl) rfl ?_
  refine cx_iconst (v := 0) C dX7_lookAtAll_25 (by decide) ?_
  refine cx_istore_n (lv' := [(2, .int 0), (0, .ref (w_a 0)), (1, .int p1)]) C dX7_lookAtAll_26 rfl (by decide) rfl ?_
  refine cx_lv [1, 0] rfl ?_
  exact L27 ((-1)) ((-1)) ((-1)) 0 cx_N0 w_firstYear w_years 0 hf
theorem dX7_leaveOut_0 : decode cX7_leaveOut 0 = .ok (.aload_n 0, 1) := by decide +kernel
theorem dX7_leaveOut_1 : decode cX7_leaveOut 1 = .ok (.iload_n 1, 1) := by decide +kernel
theorem dX7_leaveOut_2 : decode cX7_leaveOut 2 = .ok (.putfield 15, 3) := by decide +kernel
theorem dX7_leaveOut_5 : decode cX7_leaveOut 5 = .ok (.return_, 1) := by decide +kernel
theorem me_X7_leaveOut : cx_Mv yX7_leaveOut cX7_leaveOut 2 none 1 := ⟨⟨⟨by decide +kernel, by decide +kernel, by decide +kernel⟩, hw_7, hw_843⟩, hw_841, hw_842⟩
noncomputable def f_X7_leaveOut (p1 : Int32) : Option Int32 := some p1
set_option maxHeartbeats 4000000 in
set_option maxRecDepth 100000 in
theorem c_X7_leaveOut (l : Launch) (D : va_G) (k : Nat → ClassId) (w_a : Nat → Nat) (b_a : Nat → Nat) (s_a : Nat → Nat) (w_detail : Int32) (w_skipped : Int32) (w_early : Int32) (w_late : Int32) (w_firstOnly : Int32) (w_firstYear : Nat → Int32) (w_years : Nat → Int32) (w_place : Nat → Int32) (w_before : Nat → Int32) (w_closing : Nat → Int32) (w_likes : Nat → Int32) (w_likeSums : Nat → Int32) (w_namings : Nat → Int32) (w_products : Nat → Int64) (w_weights : Nat → Int64) (w_subtotals : Nat → Int64) (w_way : Nat → Int32) (b_c0 : Nat → Int32) (b_z0 : Int32) (b_c1 : Nat → Int32) (b_z1 : Int32) (b_c2 : Nat → Int32) (b_z2 : Int32) (b_c3 : Nat → Int32) (b_z3 : Int32) (b_c4 : Nat → Int32) (b_z4 : Int32) (b_sg : Int32) (s_np : Nat) (s_total : Nat → Int64) (s_shares : Nat → Int64) (s_pairs : Nat → Int64) (s_crowds : Nat → Int64) (s_bestWay : Nat → Int32) (s_bestWeight : Nat → Int64) (s_answer : Nat → Int64) (s_mine : Nat → Int64) (s_theirs : Nat → Int64) (s_people : Int32) (s_heads : Int32) (p1 : Int32) (y : Int32) (hf : f_X7_leaveOut p1 = some y) : cx_M l yX7_leaveOut cX7_leaveOut 2 none 1 D k [.ref (w_a 0), .int p1] (wd_Ways k w_a b_a s_a w_detail w_skipped w_early w_late w_firstOnly w_firstYear w_years w_place w_before w_closing w_likes w_likeSums w_namings w_products w_weights w_subtotals w_way ++ (wd_Box k b_a b_c0 b_z0 b_c1 b_z1 b_c2 b_z2 b_c3 b_z3 b_c4 b_z4 b_sg ++ (wd_Sums k s_a s_np s_total s_shares s_pairs s_crowds s_bestWay s_bestWeight s_answer s_mine s_theirs s_people s_heads))) (fun sz => cx_Qv D (wd_Ways k w_a b_a s_a w_detail w_skipped w_early w_late w_firstOnly w_firstYear w_years w_place w_before w_closing w_likes w_likeSums w_namings w_products w_weights w_subtotals w_way ++ (wd_Box k b_a b_c0 b_z0 b_c1 b_z1 b_c2 b_z2 b_c3 b_z3 b_c4 b_z4 b_sg ++ (wd_Sums k s_a s_np s_total s_shares s_pairs s_crowds s_bestWay s_bestWeight s_answer s_mine s_theirs s_people s_heads))) (wd_Ways k w_a b_a s_a w_detail y w_early w_late w_firstOnly w_firstYear w_years w_place w_before w_closing w_likes w_likeSums w_namings w_products w_weights w_subtotals w_way ++ (wd_Box k b_a b_c0 b_z0 b_c1 b_z1 b_c2 b_z2 b_c3 b_z3 b_c4 b_z4 b_sg ++ (wd_Sums k s_a s_np s_total s_shares s_pairs s_crowds s_bestWay s_bestWeight s_answer s_mine s_theirs s_people s_heads))) sz) := by
  refine cx_met (own := "NamelessBox$Ways") (by decide) rfl (Nat.le_of_ble_eq_true rfl) ?_
  intro p e s m args below meth c A Q C hA hQ hr hlk
  refine cx_lv (lv' := [(0, .ref (w_a 0)), (1, .int p1)]) [0, 1] rfl ?_
  unfold f_X7_leaveOut at hf
  refine cx_aload_n C dX7_leaveOut_0 0 rfl ?_
  refine cx_iload_n C dX7_leaveOut_1 1 rfl ?_
  refine cx_putf (v := .int p1) (ty := .int) (ci := 6) (ws' := (wd_Ways k w_a b_a s_a w_detail p1 w_early w_late w_firstOnly w_firstYear w_years w_place w_before w_closing w_likes w_likeSums w_namings w_products w_weights w_subtotals w_way ++ (wd_Box k b_a b_c0 b_z0 b_c1 b_z1 b_c2 b_z2 b_c3 b_z3 b_c4 b_z4 b_sg ++ (wd_Sums k s_a s_np s_total s_shares s_pairs s_crowds s_bestWay s_bestWeight s_answer s_mine s_theirs s_people s_heads)))) C iX7 tyX7 tyX7_ok nmX7 dX7_leaveOut_2 0 rfl rfl 3 (by decide) hw_201 rfl (by decide +kernel) rfl rfl (Nat.le_of_ble_eq_true rfl) rfl ?_
  obtain rfl := Option.some.inj hf
  exact cx_vret C hA hQ hr hlk dX7_leaveOut_5 rfl
theorem dX7_lookAtYear_0 : decode cX7_lookAtYear 0 = .ok (.aload_n 0, 1) := by decide +kernel
theorem dX7_lookAtYear_1 : decode cX7_lookAtYear 1 = .ok (.getfield 68, 3) := by decide +kernel
theorem dX7_lookAtYear_4 : decode cX7_lookAtYear 4 = .ok (.getfield 82, 3) := by decide +kernel
theorem dX7_lookAtYear_7 : decode cX7_lookAtYear 7 = .ok (.iload_n 1, 1) := by decide +kernel
theorem dX7_lookAtYear_8 : decode cX7_lookAtYear 8 = .ok (.invokevirtual 102, 3) := by decide +kernel
theorem dX7_lookAtYear_11 : decode cX7_lookAtYear 11 = .ok (.ifCond .eq 17, 3) := by decide +kernel
theorem dX7_lookAtYear_14 : decode cX7_lookAtYear 14 = .ok (.aload_n 0, 1) := by decide +kernel
theorem dX7_lookAtYear_15 : decode cX7_lookAtYear 15 = .ok (.getfield 28, 3) := by decide +kernel
theorem dX7_lookAtYear_18 : decode cX7_lookAtYear 18 = .ok (.iload_n 1, 1) := by decide +kernel
theorem dX7_lookAtYear_19 : decode cX7_lookAtYear 19 = .ok (.iload_n 2, 1) := by decide +kernel
theorem dX7_lookAtYear_20 : decode cX7_lookAtYear 20 = .ok (.iastore, 1) := by decide +kernel
theorem dX7_lookAtYear_21 : decode cX7_lookAtYear 21 = .ok (.aload_n 0, 1) := by decide +kernel
theorem dX7_lookAtYear_22 : decode cX7_lookAtYear 22 = .ok (.getfield 32, 3) := by decide +kernel
theorem dX7_lookAtYear_25 : decode cX7_lookAtYear 25 = .ok (.iload_n 1, 1) := by decide +kernel
theorem dX7_lookAtYear_26 : decode cX7_lookAtYear 26 = .ok (.iconst 1, 1) := by decide +kernel
theorem dX7_lookAtYear_27 : decode cX7_lookAtYear 27 = .ok (.iastore, 1) := by decide +kernel
theorem dX7_lookAtYear_28 : decode cX7_lookAtYear 28 = .ok (.aload_n 0, 1) := by decide +kernel
theorem dX7_lookAtYear_29 : decode cX7_lookAtYear 29 = .ok (.iload_n 3, 1) := by decide +kernel
theorem dX7_lookAtYear_30 : decode cX7_lookAtYear 30 = .ok (.putfield 24, 3) := by decide +kernel
theorem dX7_lookAtYear_33 : decode cX7_lookAtYear 33 = .ok (.return_, 1) := by decide +kernel
theorem me_X7_lookAtYear : cx_Mv yX7_lookAtYear cX7_lookAtYear 4 none 3 := ⟨⟨⟨by decide +kernel, by decide +kernel, by decide +kernel⟩, hw_7, hw_901⟩, hw_899, hw_900⟩
noncomputable def f_X7_lookAtYear_J28 (p3 : Int32) (a_4 : Nat → Int32) (a_5 : Nat → Int32) : Option (Int32 × (Nat → Int32) × (Nat → Int32)) := cx_gd (decide (p3 = 0 ∨ p3 = 1)) (some ((p3, a_4, a_5)))
noncomputable def f_X7_lookAtYear (w_firstYear : Nat → Int32) (w_years : Nat → Int32) (b_z1 : Int32) (p1 : Int32) (p2 : Int32) (p3 : Int32) : Option (Int32 × (Nat → Int32) × (Nat → Int32)) := Option.bind (f_X4_has b_z1 p1) (fun u1 => if u1 = 0 then (f_X7_lookAtYear_J28 p3 w_firstYear w_years) else (cx_gd (cx_ib p1 4) (cx_let (upd w_firstYear (cx_ix p1) p2) (fun a8 => cx_gd (cx_ib p1 4) (cx_let (upd w_years (cx_ix p1) 1) (fun a10 => f_X7_lookAtYear_J28 p3 a8 a10))))))
set_option maxHeartbeats 4000000 in
set_option maxRecDepth 100000 in
theorem c_X7_lookAtYear (l : Launch) (D : va_G) (k : Nat → ClassId) (w_a : Nat → Nat) (b_a : Nat → Nat) (s_a : Nat → Nat) (w_detail : Int32) (w_skipped : Int32) (w_early : Int32) (w_late : Int32) (w_firstOnly : Int32) (w_firstYear : Nat → Int32) (w_years : Nat → Int32) (w_place : Nat → Int32) (w_before : Nat → Int32) (w_closing : Nat → Int32) (w_likes : Nat → Int32) (w_likeSums : Nat → Int32) (w_namings : Nat → Int32) (w_products : Nat → Int64) (w_weights : Nat → Int64) (w_subtotals : Nat → Int64) (w_way : Nat → Int32) (b_c0 : Nat → Int32) (b_z0 : Int32) (b_c1 : Nat → Int32) (b_z1 : Int32) (b_c2 : Nat → Int32) (b_z2 : Int32) (b_c3 : Nat → Int32) (b_z3 : Int32) (b_c4 : Nat → Int32) (b_z4 : Int32) (b_sg : Int32) (s_np : Nat) (s_total : Nat → Int64) (s_shares : Nat → Int64) (s_pairs : Nat → Int64) (s_crowds : Nat → Int64) (s_bestWay : Nat → Int32) (s_bestWeight : Nat → Int64) (s_answer : Nat → Int64) (s_mine : Nat → Int64) (s_theirs : Nat → Int64) (s_people : Int32) (s_heads : Int32) (p1 : Int32) (p2 : Int32) (p3 : Int32) (y : Int32 × (Nat → Int32) × (Nat → Int32)) (hf : f_X7_lookAtYear w_firstYear w_years b_z1 p1 p2 p3 = some y) : cx_M l yX7_lookAtYear cX7_lookAtYear 4 none 2 D k [.ref (w_a 0), .int p1, .int p2, .int p3] (wd_Ways k w_a b_a s_a w_detail w_skipped w_early w_late w_firstOnly w_firstYear w_years w_place w_before w_closing w_likes w_likeSums w_namings w_products w_weights w_subtotals w_way ++ (wd_Box k b_a b_c0 b_z0 b_c1 b_z1 b_c2 b_z2 b_c3 b_z3 b_c4 b_z4 b_sg ++ (wd_Sums k s_a s_np s_total s_shares s_pairs s_crowds s_bestWay s_bestWeight s_answer s_mine s_theirs s_people s_heads))) (fun sz => cx_Qv D (wd_Ways k w_a b_a s_a w_detail w_skipped w_early w_late w_firstOnly w_firstYear w_years w_place w_before w_closing w_likes w_likeSums w_namings w_products w_weights w_subtotals w_way ++ (wd_Box k b_a b_c0 b_z0 b_c1 b_z1 b_c2 b_z2 b_c3 b_z3 b_c4 b_z4 b_sg ++ (wd_Sums k s_a s_np s_total s_shares s_pairs s_crowds s_bestWay s_bestWeight s_answer s_mine s_theirs s_people s_heads))) (wd_Ways k w_a b_a s_a w_detail w_skipped w_early w_late y.1 y.2.1 y.2.2 w_place w_before w_closing w_likes w_likeSums w_namings w_products w_weights w_subtotals w_way ++ (wd_Box k b_a b_c0 b_z0 b_c1 b_z1 b_c2 b_z2 b_c3 b_z3 b_c4 b_z4 b_sg ++ (wd_Sums k s_a s_np s_total s_shares s_pairs s_crowds s_bestWay s_bestWeight s_answer s_mine s_theirs s_people s_heads))) sz) := by
  refine cx_met (own := "NamelessBox$Ways") (by decide) rfl (Nat.le_of_ble_eq_true rfl) ?_
  intro p e s m args below meth c A Q C hA hQ hr hlk
  refine cx_lv (lv' := [(0, .ref (w_a 0)), (1, .int p1), (2, .int p2), (3, .int p3)]) [0, 1, 2, 3] rfl ?_
  have J28 : ∀ (a_4 : Nat → Int32) (a_5 : Nat → Int32), f_X7_lookAtYear_J28 p3 a_4 a_5 = some y → cx_S p l e (cx_rm 2) s m args below meth c A D 4 0 0 Q 28 [(0, .ref (w_a 0)), (3, .int p3)] [] (wd_Ways k w_a b_a s_a w_detail w_skipped w_early w_late w_firstOnly a_4 a_5 w_place w_before w_closing w_likes w_likeSums w_namings w_products w_weights w_subtotals w_way ++ (wd_Box k b_a b_c0 b_z0 b_c1 b_z1 b_c2 b_z2 b_c3 b_z3 b_c4 b_z4 b_sg ++ (wd_Sums k s_a s_np s_total s_shares s_pairs s_crowds s_bestWay s_bestWeight s_answer s_mine s_theirs s_people s_heads))) := by
    intro a_4 a_5 hf
    unfold f_X7_lookAtYear_J28 at hf
    refine cx_aload_n C dX7_lookAtYear_28 0 rfl ?_
    refine cx_iload_n C dX7_lookAtYear_29 1 rfl ?_
    obtain ⟨b6, hf⟩ := cx_gd_at hf
    refine cx_putf (v := .int p3) (ty := .boolean) (ci := 6) (ws' := (wd_Ways k w_a b_a s_a w_detail w_skipped w_early w_late p3 a_4 a_5 w_place w_before w_closing w_likes w_likeSums w_namings w_products w_weights w_subtotals w_way ++ (wd_Box k b_a b_c0 b_z0 b_c1 b_z1 b_c2 b_z2 b_c3 b_z3 b_c4 b_z4 b_sg ++ (wd_Sums k s_a s_np s_total s_shares s_pairs s_crowds s_bestWay s_bestWeight s_answer s_mine s_theirs s_people s_heads)))) C iX7 tyX7 tyX7_ok nmX7 dX7_lookAtYear_30 0 rfl rfl 6 (by decide) hw_204 rfl (by decide +kernel) (cx_nz (of_decide_eq_true b6)).1 (cx_nz (of_decide_eq_true b6)).2 (Nat.le_of_ble_eq_true rfl) rfl ?_
    obtain rfl := Option.some.inj hf
    exact cx_vret C hA hQ hr hlk dX7_lookAtYear_33 rfl
  unfold f_X7_lookAtYear at hf
  refine cx_aload_n C dX7_lookAtYear_0 0 rfl ?_
  refine cx_get (v := .ref (b_a 0)) (ci := 6) C iX7 dX7_lookAtYear_1 0 rfl rfl 1 (by decide) hw_199 rfl ?_
  refine cx_get (v := .ref (b_a 3)) (ci := 1) C iX1 dX7_lookAtYear_4 13 rfl rfl 1 (by decide) hw_65 rfl ?_
  refine cx_iload_n C dX7_lookAtYear_7 1 rfl ?_
  obtain ⟨u1, e2, hf⟩ := cx_bd_at hf
  refine cx_Kvi (q := (RX4, TX4, 4)) (As := [.int p1]) (rest := []) hA C me_X4_has hw_902 (c_X4_has l D k (b_a 3) (b_a 4) 2 4 8 b_c1 b_z1 p1 u1 e2) dX7_lookAtYear_8 ⟨Nat.le_of_ble_eq_true rfl, Nat.le_of_ble_eq_true rfl⟩ ⟨Nat.zero_le _, Nat.zero_le _⟩ rfl rfl (Nat.le_of_ble_eq_true rfl) rfl rfl [16, 17] rfl (by decide) ?_
  clear e2
  refine cx_if_eq (tgt := 28) C dX7_lookAtYear_11 (by decide) (fun c3 => ?_) (fun c3 => ?_)
  · have hf := cx_if_t hf c3
    clear c3
    refine cx_lv [0, 3] rfl ?_
    exact J28 w_firstYear w_years hf
  · have hf := cx_if_f hf c3
    clear c3
    refine cx_aload_n C dX7_lookAtYear_14 0 rfl ?_
    refine cx_get (v := .ref (w_a 1)) (ci := 6) C iX7 dX7_lookAtYear_15 0 rfl rfl 7 (by decide) hw_205 rfl ?_
    refine cx_iload_n C dX7_lookAtYear_18 1 rfl ?_
    refine cx_iload_n C dX7_lookAtYear_19 2 rfl ?_
    obtain ⟨g7, hf⟩ := cx_gd_at hf
    obtain ⟨a8, ea8⟩ : ∃ z, z = upd w_firstYear (cx_ix p1) p2 := ⟨_, rfl⟩
    have hf := cx_let_at hf ea8
    refine cx_iast (ws' := (wd_Ways k w_a b_a s_a w_detail w_skipped w_early w_late w_firstOnly a8 w_years w_place w_before w_closing w_likes w_likeSums w_namings w_products w_weights w_subtotals w_way ++ (wd_Box k b_a b_c0 b_z0 b_c1 b_z1 b_c2 b_z2 b_c3 b_z3 b_c4 b_z4 b_sg ++ (wd_Sums k s_a s_np s_total s_shares s_pairs s_crowds s_bestWay s_bestWeight s_answer s_mine s_theirs s_people s_heads)))) C dX7_lookAtYear_20 1 rfl (cx_ib_in g7) (by rw [ea8]; rfl) ?_
    clear ea8 g7
    refine cx_aload_n C dX7_lookAtYear_21 0 rfl ?_
    refine cx_get (v := .ref (w_a 2)) (ci := 6) C iX7 dX7_lookAtYear_22 0 rfl rfl 8 (by decide) hw_206 rfl ?_
    refine cx_iload_n C dX7_lookAtYear_25 1 rfl ?_
    refine cx_iconst (v := 1) C dX7_lookAtYear_26 (by decide) ?_
    obtain ⟨g9, hf⟩ := cx_gd_at hf
    obtain ⟨a10, ea10⟩ : ∃ z, z = upd w_years (cx_ix p1) 1 := ⟨_, rfl⟩
    have hf := cx_let_at hf ea10
    refine cx_iast (ws' := (wd_Ways k w_a b_a s_a w_detail w_skipped w_early w_late w_firstOnly a8 a10 w_place w_before w_closing w_likes w_likeSums w_namings w_products w_weights w_subtotals w_way ++ (wd_Box k b_a b_c0 b_z0 b_c1 b_z1 b_c2 b_z2 b_c3 b_z3 b_c4 b_z4 b_sg ++ (wd_Sums k s_a s_np s_total s_shares s_pairs s_crowds s_bestWay s_bestWeight s_answer s_mine s_theirs s_people s_heads)))) C dX7_lookAtYear_27 2 rfl (cx_ib_in g9) (by rw [ea10]; rfl) ?_
    clear ea10 g9
    refine cx_lv [0, 3] rfl ?_
    exact J28 a8 a10 hf
theorem dX7_lookInOrder_0 : decode cX7_lookInOrder 0 = .ok (.aload_n 0, 1) := by decide +kernel
theorem dX7_lookInOrder_1 : decode cX7_lookInOrder 1 = .ok (.getfield 68, 3) := by decide +kernel
theorem dX7_lookInOrder_4 : decode cX7_lookInOrder 4 = .ok (.getfield 82, 3) := by decide +kernel
theorem dX7_lookInOrder_7 : decode cX7_lookInOrder 7 = .ok (.iload_n 1, 1) := by decide +kernel
theorem dX7_lookInOrder_8 : decode cX7_lookInOrder 8 = .ok (.invokevirtual 102, 3) := by decide +kernel
theorem dX7_lookInOrder_11 : decode cX7_lookInOrder 11 = .ok (.ifCond .eq 27, 3) := by decide +kernel
theorem dX7_lookInOrder_14 : decode cX7_lookInOrder 14 = .ok (.aload_n 0, 1) := by decide +kernel
theorem dX7_lookInOrder_15 : decode cX7_lookInOrder 15 = .ok (.getfield 68, 3) := by decide +kernel
theorem dX7_lookInOrder_18 : decode cX7_lookInOrder 18 = .ok (.getfield 82, 3) := by decide +kernel
theorem dX7_lookInOrder_21 : decode cX7_lookInOrder 21 = .ok (.iload_n 2, 1) := by decide +kernel
theorem dX7_lookInOrder_22 : decode cX7_lookInOrder 22 = .ok (.invokevirtual 102, 3) := by decide +kernel
theorem dX7_lookInOrder_25 : decode cX7_lookInOrder 25 = .ok (.ifCond .eq 13, 3) := by decide +kernel
theorem dX7_lookInOrder_28 : decode cX7_lookInOrder 28 = .ok (.aload_n 0, 1) := by decide +kernel
theorem dX7_lookInOrder_29 : decode cX7_lookInOrder 29 = .ok (.iload_n 1, 1) := by decide +kernel
theorem dX7_lookInOrder_30 : decode cX7_lookInOrder 30 = .ok (.putfield 18, 3) := by decide +kernel
theorem dX7_lookInOrder_33 : decode cX7_lookInOrder 33 = .ok (.aload_n 0, 1) := by decide +kernel
theorem dX7_lookInOrder_34 : decode cX7_lookInOrder 34 = .ok (.iload_n 2, 1) := by decide +kernel
theorem dX7_lookInOrder_35 : decode cX7_lookInOrder 35 = .ok (.putfield 21, 3) := by decide +kernel
theorem dX7_lookInOrder_38 : decode cX7_lookInOrder 38 = .ok (.return_, 1) := by decide +kernel
theorem me_X7_lookInOrder : cx_Mv yX7_lookInOrder cX7_lookInOrder 3 none 2 := ⟨⟨⟨by decide +kernel, by decide +kernel, by decide +kernel⟩, hw_7, hw_914⟩, hw_912, hw_913⟩
noncomputable def f_X7_lookInOrder (w_early : Int32) (w_late : Int32) (b_z1 : Int32) (p1 : Int32) (p2 : Int32) : Option (Int32 × Int32) := Option.bind (f_X4_has b_z1 p1) (fun u1 => if u1 = 0 then (some ((w_early, w_late))) else (Option.bind (f_X4_has b_z1 p2) (fun u4 => if u4 = 0 then (some ((w_early, w_late))) else (some ((p1, p2))))))
set_option maxHeartbeats 4000000 in
set_option maxRecDepth 100000 in
theorem c_X7_lookInOrder (l : Launch) (D : va_G) (k : Nat → ClassId) (w_a : Nat → Nat) (b_a : Nat → Nat) (s_a : Nat → Nat) (w_detail : Int32) (w_skipped : Int32) (w_early : Int32) (w_late : Int32) (w_firstOnly : Int32) (w_firstYear : Nat → Int32) (w_years : Nat → Int32) (w_place : Nat → Int32) (w_before : Nat → Int32) (w_closing : Nat → Int32) (w_likes : Nat → Int32) (w_likeSums : Nat → Int32) (w_namings : Nat → Int32) (w_products : Nat → Int64) (w_weights : Nat → Int64) (w_subtotals : Nat → Int64) (w_way : Nat → Int32) (b_c0 : Nat → Int32) (b_z0 : Int32) (b_c1 : Nat → Int32) (b_z1 : Int32) (b_c2 : Nat → Int32) (b_z2 : Int32) (b_c3 : Nat → Int32) (b_z3 : Int32) (b_c4 : Nat → Int32) (b_z4 : Int32) (b_sg : Int32) (s_np : Nat) (s_total : Nat → Int64) (s_shares : Nat → Int64) (s_pairs : Nat → Int64) (s_crowds : Nat → Int64) (s_bestWay : Nat → Int32) (s_bestWeight : Nat → Int64) (s_answer : Nat → Int64) (s_mine : Nat → Int64) (s_theirs : Nat → Int64) (s_people : Int32) (s_heads : Int32) (p1 : Int32) (p2 : Int32) (y : Int32 × Int32) (hf : f_X7_lookInOrder w_early w_late b_z1 p1 p2 = some y) : cx_M l yX7_lookInOrder cX7_lookInOrder 3 none 2 D k [.ref (w_a 0), .int p1, .int p2] (wd_Ways k w_a b_a s_a w_detail w_skipped w_early w_late w_firstOnly w_firstYear w_years w_place w_before w_closing w_likes w_likeSums w_namings w_products w_weights w_subtotals w_way ++ (wd_Box k b_a b_c0 b_z0 b_c1 b_z1 b_c2 b_z2 b_c3 b_z3 b_c4 b_z4 b_sg ++ (wd_Sums k s_a s_np s_total s_shares s_pairs s_crowds s_bestWay s_bestWeight s_answer s_mine s_theirs s_people s_heads))) (fun sz => cx_Qv D (wd_Ways k w_a b_a s_a w_detail w_skipped w_early w_late w_firstOnly w_firstYear w_years w_place w_before w_closing w_likes w_likeSums w_namings w_products w_weights w_subtotals w_way ++ (wd_Box k b_a b_c0 b_z0 b_c1 b_z1 b_c2 b_z2 b_c3 b_z3 b_c4 b_z4 b_sg ++ (wd_Sums k s_a s_np s_total s_shares s_pairs s_crowds s_bestWay s_bestWeight s_answer s_mine s_theirs s_people s_heads))) (wd_Ways k w_a b_a s_a w_detail w_skipped y.1 y.2 w_firstOnly w_firstYear w_years w_place w_before w_closing w_likes w_likeSums w_namings w_products w_weights w_subtotals w_way ++ (wd_Box k b_a b_c0 b_z0 b_c1 b_z1 b_c2 b_z2 b_c3 b_z3 b_c4 b_z4 b_sg ++ (wd_Sums k s_a s_np s_total s_shares s_pairs s_crowds s_bestWay s_bestWeight s_answer s_mine s_theirs s_people s_heads))) sz) := by
  refine cx_met (own := "NamelessBox$Ways") (by decide) rfl (Nat.le_of_ble_eq_true rfl) ?_
  intro p e s m args below meth c A Q C hA hQ hr hlk
  refine cx_lv (lv' := [(0, .ref (w_a 0)), (1, .int p1), (2, .int p2)]) [0, 1, 2] rfl ?_
  unfold f_X7_lookInOrder at hf
  refine cx_aload_n C dX7_lookInOrder_0 0 rfl ?_
  refine cx_get (v := .ref (b_a 0)) (ci := 6) C iX7 dX7_lookInOrder_1 0 rfl rfl 1 (by decide) hw_199 rfl ?_
  refine cx_get (v := .ref (b_a 3)) (ci := 1) C iX1 dX7_lookInOrder_4 13 rfl rfl 1 (by decide) hw_65 rfl ?_
  refine cx_iload_n C dX7_lookInOrder_7 1 rfl ?_
  obtain ⟨u1, e2, hf⟩ := cx_bd_at hf
  refine cx_Kvi (q := (RX4, TX4, 4)) (As := [.int p1]) (rest := []) hA C me_X4_has hw_902 (c_X4_has l D k (b_a 3) (b_a 4) 2 4 8 b_c1 b_z1 p1 u1 e2) dX7_lookInOrder_8 ⟨Nat.le_of_ble_eq_true rfl, Nat.le_of_ble_eq_true rfl⟩ ⟨Nat.zero_le _, Nat.zero_le _⟩ rfl rfl (Nat.le_of_ble_eq_true rfl) rfl rfl [16, 17] rfl (by decide) ?_
  clear e2
  refine cx_if_eq (tgt := 38) C dX7_lookInOrder_11 (by decide) (fun c3 => ?_) (fun c3 => ?_)
  · have hf := cx_if_t hf c3
    clear c3
    obtain rfl := Option.some.inj hf
    exact cx_vret C hA hQ hr hlk dX7_lookInOrder_38 rfl
  · have hf := cx_if_f hf c3
    clear c3
    refine cx_aload_n C dX7_lookInOrder_14 0 rfl ?_
    refine cx_get (v := .ref (b_a 0)) (ci := 6) C iX7 dX7_lookInOrder_15 0 rfl rfl 1 (by decide) hw_199 rfl ?_
    refine cx_get (v := .ref (b_a 3)) (ci := 1) C iX1 dX7_lookInOrder_18 13 rfl rfl 1 (by decide) hw_65 rfl ?_
    refine cx_iload_n C dX7_lookInOrder_21 2 rfl ?_
    obtain ⟨u4, e5, hf⟩ := cx_bd_at hf
    refine cx_Kvi (q := (RX4, TX4, 4)) (As := [.int p2]) (rest := []) hA C me_X4_has hw_902 (c_X4_has l D k (b_a 3) (b_a 4) 2 4 8 b_c1 b_z1 p2 u4 e5) dX7_lookInOrder_22 ⟨Nat.le_of_ble_eq_true rfl, Nat.le_of_ble_eq_true rfl⟩ ⟨Nat.zero_le _, Nat.zero_le _⟩ rfl rfl (Nat.le_of_ble_eq_true rfl) rfl rfl [16, 17] rfl (by decide) ?_
    clear e5
    refine cx_if_eq (tgt := 38) C dX7_lookInOrder_25 (by decide) (fun c6 => ?_) (fun c6 => ?_)
    · have hf := cx_if_t hf c6
      clear c6
      obtain rfl := Option.some.inj hf
      exact cx_vret C hA hQ hr hlk dX7_lookInOrder_38 rfl
    · have hf := cx_if_f hf c6
      clear c6
      refine cx_aload_n C dX7_lookInOrder_28 0 rfl ?_
      refine cx_iload_n C dX7_lookInOrder_29 1 rfl ?_
      refine cx_putf (v := .int p1) (ty := .int) (ci := 6) (ws' := (wd_Ways k w_a b_a s_a w_detail w_skipped p1 w_late w_firstOnly w_firstYear w_years w_place w_before w_closing w_likes w_likeSums w_namings w_products w_weights w_subtotals w_way ++ (wd_Box k b_a b_c0 b_z0 b_c1 b_z1 b_c2 b_z2 b_c3 b_z3 b_c4 b_z4 b_sg ++ (wd_Sums k s_a s_np s_total s_shares s_pairs s_crowds s_bestWay s_bestWeight s_answer s_mine s_theirs s_people s_heads)))) C iX7 tyX7 tyX7_ok nmX7 dX7_lookInOrder_30 0 rfl rfl 4 (by decide) hw_202 rfl (by decide +kernel) rfl rfl (Nat.le_of_ble_eq_true rfl) rfl ?_
      refine cx_aload_n C dX7_lookInOrder_33 0 rfl ?_
      refine cx_iload_n C dX7_lookInOrder_34 2 rfl ?_
      refine cx_putf (v := .int p2) (ty := .int) (ci := 6) (ws' := (wd_Ways k w_a b_a s_a w_detail w_skipped p1 p2 w_firstOnly w_firstYear w_years w_place w_before w_closing w_likes w_likeSums w_namings w_products w_weights w_subtotals w_way ++ (wd_Box k b_a b_c0 b_z0 b_c1 b_z1 b_c2 b_z2 b_c3 b_z3 b_c4 b_z4 b_sg ++ (wd_Sums k s_a s_np s_total s_shares s_pairs s_crowds s_bestWay s_bestWeight s_answer s_mine s_theirs s_people s_heads)))) C iX7 tyX7 tyX7_ok nmX7 dX7_lookInOrder_35 0 rfl rfl 5 (by decide) hw_203 rfl (by decide +kernel) rfl rfl (Nat.le_of_ble_eq_true rfl) rfl ?_
      obtain rfl := Option.some.inj hf
      exact cx_vret C hA hQ hr hlk dX7_lookInOrder_38 rfl
theorem dX7_placeHeads_0 : decode cX7_placeHeads 0 = .ok (.aload_n 0, 1) := by decide +kernel
theorem dX7_placeHeads_1 : decode cX7_placeHeads 1 = .ok (.getfield 41, 3) := by decide +kernel
theorem dX7_placeHeads_4 : decode cX7_placeHeads 4 = .ok (.bipush 6, 2) := by decide +kernel
theorem dX7_placeHeads_6 : decode cX7_placeHeads 6 = .ok (.invokestatic 145, 3) := by decide +kernel
theorem dX7_placeHeads_9 : decode cX7_placeHeads 9 = .ok (.iconst 0, 1) := by decide +kernel
theorem dX7_placeHeads_10 : decode cX7_placeHeads 10 = .ok (.istore_n 1, 1) := by decide +kernel
theorem dX7_placeHeads_11 : decode cX7_placeHeads 11 = .ok (.iload_n 1, 1) := by decide +kernel
theorem dX7_placeHeads_12 : decode cX7_placeHeads 12 = .ok (.aload_n 0, 1) := by decide +kernel
theorem dX7_placeHeads_13 : decode cX7_placeHeads 13 = .ok (.getfield 68, 3) := by decide +kernel
theorem dX7_placeHeads_16 : decode cX7_placeHeads 16 = .ok (.getfield 109, 3) := by decide +kernel
theorem dX7_placeHeads_19 : decode cX7_placeHeads 19 = .ok (.getfield 88, 3) := by decide +kernel
theorem dX7_placeHeads_22 : decode cX7_placeHeads 22 = .ok (.if_icmp .ge 48, 3) := by decide +kernel
theorem dX7_placeHeads_25 : decode cX7_placeHeads 25 = .ok (.aload_n 0, 1) := by decide +kernel
theorem dX7_placeHeads_26 : decode cX7_placeHeads 26 = .ok (.getfield 68, 3) := by decide +kernel
theorem dX7_placeHeads_29 : decode cX7_placeHeads 29 = .ok (.getfield 109, 3) := by decide +kernel
theorem dX7_placeHeads_32 : decode cX7_placeHeads 32 = .ok (.iload_n 1, 1) := by decide +kernel
theorem dX7_placeHeads_33 : decode cX7_placeHeads 33 = .ok (.iconst 0, 1) := by decide +kernel
theorem dX7_placeHeads_34 : decode cX7_placeHeads 34 = .ok (.invokevirtual 93, 3) := by decide +kernel
theorem dX7_placeHeads_37 : decode cX7_placeHeads 37 = .ok (.istore_n 2, 1) := by decide +kernel
theorem dX7_placeHeads_38 : decode cX7_placeHeads 38 = .ok (.aload_n 0, 1) := by decide +kernel
theorem dX7_placeHeads_39 : decode cX7_placeHeads 39 = .ok (.getfield 35, 3) := by decide +kernel
theorem dX7_placeHeads_42 : decode cX7_placeHeads 42 = .ok (.iload_n 1, 1) := by decide +kernel
theorem dX7_placeHeads_43 : decode cX7_placeHeads 43 = .ok (.iload_n 2, 1) := by decide +kernel
theorem dX7_placeHeads_44 : decode cX7_placeHeads 44 = .ok (.iastore, 1) := by decide +kernel
theorem dX7_placeHeads_45 : decode cX7_placeHeads 45 = .ok (.aload_n 0, 1) := by decide +kernel
theorem dX7_placeHeads_46 : decode cX7_placeHeads 46 = .ok (.getfield 38, 3) := by decide +kernel
theorem dX7_placeHeads_49 : decode cX7_placeHeads 49 = .ok (.iload_n 1, 1) := by decide +kernel
theorem dX7_placeHeads_50 : decode cX7_placeHeads 50 = .ok (.aload_n 0, 1) := by decide +kernel
theorem dX7_placeHeads_51 : decode cX7_placeHeads 51 = .ok (.getfield 41, 3) := by decide +kernel
theorem dX7_placeHeads_54 : decode cX7_placeHeads 54 = .ok (.iload_n 2, 1) := by decide +kernel
theorem dX7_placeHeads_55 : decode cX7_placeHeads 55 = .ok (.iaload, 1) := by decide +kernel
theorem dX7_placeHeads_56 : decode cX7_placeHeads 56 = .ok (.iastore, 1) := by decide +kernel
theorem dX7_placeHeads_57 : decode cX7_placeHeads 57 = .ok (.aload_n 0, 1) := by decide +kernel
theorem dX7_placeHeads_58 : decode cX7_placeHeads 58 = .ok (.getfield 41, 3) := by decide +kernel
theorem dX7_placeHeads_61 : decode cX7_placeHeads 61 = .ok (.iload_n 2, 1) := by decide +kernel
theorem dX7_placeHeads_62 : decode cX7_placeHeads 62 = .ok (.iload_n 1, 1) := by decide +kernel
theorem dX7_placeHeads_63 : decode cX7_placeHeads 63 = .ok (.iastore, 1) := by decide +kernel
theorem dX7_placeHeads_64 : decode cX7_placeHeads 64 = .ok (.iinc 1 1, 3) := by decide +kernel
theorem dX7_placeHeads_67 : decode cX7_placeHeads 67 = .ok (.goto (-56), 3) := by decide +kernel
theorem dX7_placeHeads_70 : decode cX7_placeHeads 70 = .ok (.return_, 1) := by decide +kernel
theorem me_X7_placeHeads : cx_Mv yX7_placeHeads cX7_placeHeads 3 none 0 := ⟨⟨⟨by decide +kernel, by decide +kernel, by decide +kernel⟩, hw_7, hw_647⟩, hw_646, hs_11⟩
noncomputable def f_X7_placeHeads_L11 (b_c2 : Nat → Int32) (b_z2 : Int32) (rc11 : (Nat → Int32) → (Nat → Int32) → (Nat → Int32) → Int32 → Option ((Nat → Int32) × (Nat → Int32) × (Nat → Int32))) (a_3 : Nat → Int32) (a_4 : Nat → Int32) (a_5 : Nat → Int32) (x1_6 : Int32) : Option ((Nat → Int32) × (Nat → Int32) × (Nat → Int32)) := if b_z2 ≤ x1_6 then (some ((a_3, a_4, a_5))) else (Option.bind (f_X4_at 5 30 b_c2 b_z2 x1_6 0) (fun u8 => cx_gd (cx_ib x1_6 6) (cx_let (upd a_3 (cx_ix x1_6) u8) (fun a11 => cx_gd (cx_ib u8 4) (cx_gd (cx_ib x1_6 6) (cx_let (upd a_4 (cx_ix x1_6) (a_5 (cx_ix u8))) (fun a14 => cx_gd (cx_ib u8 4) (cx_let (upd a_5 (cx_ix u8) x1_6) (fun a16 => rc11 a11 a14 a16 (x1_6 + 1))))))))))
noncomputable def f_X7_placeHeads_L11w (b_c2 : Nat → Int32) (b_z2 : Int32) (n : Nat) : (Nat → Int32) → (Nat → Int32) → (Nat → Int32) → Int32 → Option ((Nat → Int32) × (Nat → Int32) × (Nat → Int32)) := Nat.rec (fun _ _ _ _ => none) (fun _ r => f_X7_placeHeads_L11 b_c2 b_z2 r) n
noncomputable def f_X7_placeHeads (w_place : Nat → Int32) (w_before : Nat → Int32) (w_closing : Nat → Int32) (b_c2 : Nat → Int32) (b_z2 : Int32) : Option ((Nat → Int32) × (Nat → Int32) × (Nat → Int32)) := Option.bind (f_J7_fill_53178 4 w_closing 6) (fun u1 => f_X7_placeHeads_L11w b_c2 b_z2 cx_N0 w_place w_before u1 0)
set_option maxHeartbeats 4000000 in
set_option maxRecDepth 100000 in
theorem c_X7_placeHeads (l : Launch) (D : va_G) (k : Nat → ClassId) (w_a : Nat → Nat) (b_a : Nat → Nat) (s_a : Nat → Nat) (w_detail : Int32) (w_skipped : Int32) (w_early : Int32) (w_late : Int32) (w_firstOnly : Int32) (w_firstYear : Nat → Int32) (w_years : Nat → Int32) (w_place : Nat → Int32) (w_before : Nat → Int32) (w_closing : Nat → Int32) (w_likes : Nat → Int32) (w_likeSums : Nat → Int32) (w_namings : Nat → Int32) (w_products : Nat → Int64) (w_weights : Nat → Int64) (w_subtotals : Nat → Int64) (w_way : Nat → Int32) (b_c0 : Nat → Int32) (b_z0 : Int32) (b_c1 : Nat → Int32) (b_z1 : Int32) (b_c2 : Nat → Int32) (b_z2 : Int32) (b_c3 : Nat → Int32) (b_z3 : Int32) (b_c4 : Nat → Int32) (b_z4 : Int32) (b_sg : Int32) (s_np : Nat) (s_total : Nat → Int64) (s_shares : Nat → Int64) (s_pairs : Nat → Int64) (s_crowds : Nat → Int64) (s_bestWay : Nat → Int32) (s_bestWeight : Nat → Int64) (s_answer : Nat → Int64) (s_mine : Nat → Int64) (s_theirs : Nat → Int64) (s_people : Int32) (s_heads : Int32) (y : (Nat → Int32) × (Nat → Int32) × (Nat → Int32)) (hf : f_X7_placeHeads w_place w_before w_closing b_c2 b_z2 = some y) : cx_M l yX7_placeHeads cX7_placeHeads 3 none 2 D k [.ref (w_a 0)] (wd_Ways k w_a b_a s_a w_detail w_skipped w_early w_late w_firstOnly w_firstYear w_years w_place w_before w_closing w_likes w_likeSums w_namings w_products w_weights w_subtotals w_way ++ (wd_Box k b_a b_c0 b_z0 b_c1 b_z1 b_c2 b_z2 b_c3 b_z3 b_c4 b_z4 b_sg ++ (wd_Sums k s_a s_np s_total s_shares s_pairs s_crowds s_bestWay s_bestWeight s_answer s_mine s_theirs s_people s_heads))) (fun sz => cx_Qv D (wd_Ways k w_a b_a s_a w_detail w_skipped w_early w_late w_firstOnly w_firstYear w_years w_place w_before w_closing w_likes w_likeSums w_namings w_products w_weights w_subtotals w_way ++ (wd_Box k b_a b_c0 b_z0 b_c1 b_z1 b_c2 b_z2 b_c3 b_z3 b_c4 b_z4 b_sg ++ (wd_Sums k s_a s_np s_total s_shares s_pairs s_crowds s_bestWay s_bestWeight s_answer s_mine s_theirs s_people s_heads))) (wd_Ways k w_a b_a s_a w_detail w_skipped w_early w_late w_firstOnly w_firstYear w_years y.1 y.2.1 y.2.2 w_likes w_likeSums w_namings w_products w_weights w_subtotals w_way ++ (wd_Box k b_a b_c0 b_z0 b_c1 b_z1 b_c2 b_z2 b_c3 b_z3 b_c4 b_z4 b_sg ++ (wd_Sums k s_a s_np s_total s_shares s_pairs s_crowds s_bestWay s_bestWeight s_answer s_mine s_theirs s_people s_heads))) sz) := by
  refine cx_met (own := "NamelessBox$Ways") (by decide) rfl (Nat.le_of_ble_eq_true rfl) ?_
  intro p e s m args below meth c A Q C hA hQ hr hlk
  refine cx_lv (lv' := [(0, .ref (w_a 0))]) [0] rfl ?_
  have L11 : ∀ (n11 : Nat) (a_3 : Nat → Int32) (a_4 : Nat → Int32) (a_5 : Nat → Int32) (x1_6 : Int32), f_X7_placeHeads_L11w b_c2 b_z2 n11 a_3 a_4 a_5 x1_6 = some y → cx_S p l e (cx_rm 2) s m args below meth c A D 3 0 0 Q 11 [(0, .ref (w_a 0)), (1, .int x1_6)] [] (wd_Ways k w_a b_a s_a w_detail w_skipped w_early w_late w_firstOnly w_firstYear w_years a_3 a_4 a_5 w_likes w_likeSums w_namings w_products w_weights w_subtotals w_way ++ (wd_Box k b_a b_c0 b_z0 b_c1 b_z1 b_c2 b_z2 b_c3 b_z3 b_c4 b_z4 b_sg ++ (wd_Sums k s_a s_np s_total s_shares s_pairs s_crowds s_bestWay s_bestWeight s_answer s_mine s_theirs s_people s_heads))) := by
    intro  n11
    induction n11 with
    | zero =>
      intro a_3 a_4 a_5 x1_6 hf
      exact absurd (show (none : Option ((Nat → Int32) × (Nat → Int32) × (Nat → Int32))) = some y from hf) (fun h => by cases h)
    | succ n11 ih11 =>
      intro a_3 a_4 a_5 x1_6 hf
      have hf : f_X7_placeHeads_L11 b_c2 b_z2 (f_X7_placeHeads_L11w b_c2 b_z2 n11) a_3 a_4 a_5 x1_6 = some y := hf
      unfold f_X7_placeHeads_L11 at hf
      refine cx_iload_n C dX7_placeHeads_11 1 rfl ?_
      refine cx_aload_n C dX7_placeHeads_12 0 rfl ?_
      refine cx_get (v := .ref (b_a 0)) (ci := 6) C iX7 dX7_placeHeads_13 0 rfl rfl 1 (by decide) hw_199 rfl ?_
      refine cx_get (v := .ref (b_a 5)) (ci := 1) C iX1 dX7_placeHeads_16 13 rfl rfl 2 (by decide) hw_69 rfl ?_
      refine cx_get (v := .int b_z2) (ci := 3) C iX4 dX7_placeHeads_19 18 rfl rfl 3 (by decide) hw_48 rfl ?_
      refine cx_icmp_ge (tgt := 70) C dX7_placeHeads_22 (by decide) (fun c7 => ?_) (fun c7 => ?_)
      · have hf := cx_if_t hf c7
        clear c7
        obtain rfl := Option.some.inj hf
        exact cx_vret C hA hQ hr hlk dX7_placeHeads_70 rfl
      · have hf := cx_if_f hf c7
        clear c7
        refine cx_aload_n C dX7_placeHeads_25 0 rfl ?_
        refine cx_get (v := .ref (b_a 0)) (ci := 6) C iX7 dX7_placeHeads_26 0 rfl rfl 1 (by decide) hw_199 rfl ?_
        refine cx_get (v := .ref (b_a 5)) (ci := 1) C iX1 dX7_placeHeads_29 13 rfl rfl 2 (by decide) hw_69 rfl ?_
        refine cx_iload_n C dX7_placeHeads_32 1 rfl ?_
        refine cx_iconst (v := 0) C dX7_placeHeads_33 (by decide) ?_
        obtain ⟨u8, e9, hf⟩ := cx_bd_at hf
        refine cx_Kvi (q := (RX4, TX4, 4)) (As := [.int x1_6, .int 0]) (rest := []) hA C me_X4_at hw_630 (c_X4_at l D k (b_a 5) (b_a 6) 5 6 30 b_c2 b_z2 x1_6 0 u8 e9) dX7_placeHeads_34 ⟨Nat.le_of_ble_eq_true rfl, Nat.le_of_ble_eq_true rfl⟩ ⟨Nat.zero_le _, Nat.zero_le _⟩ rfl rfl (Nat.le_of_ble_eq_true rfl) rfl rfl [18, 19] rfl (by decide) ?_
        clear e9
        refine cx_istore_n (lv' := [(2, .int u8), (0, .ref (w_a 0)), (1, .int x1_6)]) C dX7_placeHeads_37 rfl (by decide) rfl ?_
        refine cx_aload_n C dX7_placeHeads_38 1 rfl ?_
        refine cx_get (v := .ref (w_a 3)) (ci := 6) C iX7 dX7_placeHeads_39 0 rfl rfl 9 (by decide) hw_207 rfl ?_
        refine cx_iload_n C dX7_placeHeads_42 2 rfl ?_
        refine cx_iload_n C dX7_placeHeads_43 0 rfl ?_
        obtain ⟨g10, hf⟩ := cx_gd_at hf
        obtain ⟨a11, ea11⟩ : ∃ z, z = upd a_3 (cx_ix x1_6) u8 := ⟨_, rfl⟩
        have hf := cx_let_at hf ea11
        refine cx_iast (ws' := (wd_Ways k w_a b_a s_a w_detail w_skipped w_early w_late w_firstOnly w_firstYear w_years a11 a_4 a_5 w_likes w_likeSums w_namings w_products w_weights w_subtotals w_way ++ (wd_Box k b_a b_c0 b_z0 b_c1 b_z1 b_c2 b_z2 b_c3 b_z3 b_c4 b_z4 b_sg ++ (wd_Sums k s_a s_np s_total s_shares s_pairs s_crowds s_bestWay s_bestWeight s_answer s_mine s_theirs s_people s_heads)))) C dX7_placeHeads_44 3 rfl (cx_ib_in g10) (by rw [ea11]; rfl) ?_
        clear ea11 g10
        refine cx_aload_n C dX7_placeHeads_45 1 rfl ?_
        refine cx_get (v := .ref (w_a 4)) (ci := 6) C iX7 dX7_placeHeads_46 0 rfl rfl 10 (by decide) hw_208 rfl ?_
        refine cx_iload_n C dX7_placeHeads_49 2 rfl ?_
        refine cx_aload_n C dX7_placeHeads_50 1 rfl ?_
        refine cx_get (v := .ref (w_a 5)) (ci := 6) C iX7 dX7_placeHeads_51 0 rfl rfl 11 (by decide) hw_209 rfl ?_
        refine cx_iload_n C dX7_placeHeads_54 0 rfl ?_
        obtain ⟨g12, hf⟩ := cx_gd_at hf
        refine cx_iald C dX7_placeHeads_55 5 rfl (cx_ib_in g12) ?_
        clear g12
        obtain ⟨g13, hf⟩ := cx_gd_at hf
        obtain ⟨a14, ea14⟩ : ∃ z, z = upd a_4 (cx_ix x1_6) (a_5 (cx_ix u8)) := ⟨_, rfl⟩
        have hf := cx_let_at hf ea14
        refine cx_iast (ws' := (wd_Ways k w_a b_a s_a w_detail w_skipped w_early w_late w_firstOnly w_firstYear w_years a11 a14 a_5 w_likes w_likeSums w_namings w_products w_weights w_subtotals w_way ++ (wd_Box k b_a b_c0 b_z0 b_c1 b_z1 b_c2 b_z2 b_c3 b_z3 b_c4 b_z4 b_sg ++ (wd_Sums k s_a s_np s_total s_shares s_pairs s_crowds s_bestWay s_bestWeight s_answer s_mine s_theirs s_people s_heads)))) C dX7_placeHeads_56 4 rfl (cx_ib_in g13) (by rw [ea14]; rfl) ?_
        clear ea14 g13
        refine cx_aload_n C dX7_placeHeads_57 1 rfl ?_
        refine cx_get (v := .ref (w_a 5)) (ci := 6) C iX7 dX7_placeHeads_58 0 rfl rfl 11 (by decide) hw_209 rfl ?_
        refine cx_iload_n C dX7_placeHeads_61 0 rfl ?_
        refine cx_iload_n C dX7_placeHeads_62 2 rfl ?_
        obtain ⟨g15, hf⟩ := cx_gd_at hf
        obtain ⟨a16, ea16⟩ : ∃ z, z = upd a_5 (cx_ix u8) x1_6 := ⟨_, rfl⟩
        have hf := cx_let_at hf ea16
        refine cx_iast (ws' := (wd_Ways k w_a b_a s_a w_detail w_skipped w_early w_late w_firstOnly w_firstYear w_years a11 a14 a16 w_likes w_likeSums w_namings w_products w_weights w_subtotals w_way ++ (wd_Box k b_a b_c0 b_z0 b_c1 b_z1 b_c2 b_z2 b_c3 b_z3 b_c4 b_z4 b_sg ++ (wd_Sums k s_a s_np s_total s_shares s_pairs s_crowds s_bestWay s_bestWeight s_answer s_mine s_theirs s_people s_heads)))) C dX7_placeHeads_63 5 rfl (cx_ib_in g15) (by rw [ea16]; rfl) ?_
        clear ea16 g15
        refine cx_iinc (v := x1_6 + 1) (lv' := [(1, .int (x1_6 + 1)), (2, .int u8), (0, .ref (w_a 0))]) C dX7_placeHeads_64 2 rfl rfl (by decide) rfl ?_
        refine cx_goto (tgt := 11) C dX7_placeHeads_67 (by decide) ?_
        refine cx_lv [2, 0] rfl ?_
        exact ih11 a11 a14 a16 (x1_6 + 1) hf
  unfold f_X7_placeHeads at hf
  refine cx_aload_n C dX7_placeHeads_0 0 rfl ?_
  refine cx_get (v := .ref (w_a 5)) (ci := 6) C iX7 dX7_placeHeads_1 0 rfl rfl 11 (by decide) hw_209 rfl ?_
  refine cx_bipush (v := 6) C dX7_placeHeads_4 (by decide) ?_
  obtain ⟨u1, e2, hf⟩ := cx_bd_at hf
  refine cx_csv (As := [.ref (w_a 5), .int 6]) (rest := []) (ws' := (wd_Ways k w_a b_a s_a w_detail w_skipped w_early w_late w_firstOnly w_firstYear w_years w_place w_before u1 w_likes w_likeSums w_namings w_products w_weights w_subtotals w_way ++ (wd_Box k b_a b_c0 b_z0 b_c1 b_z1 b_c2 b_z2 b_c3 b_z3 b_c4 b_z4 b_sg ++ (wd_Sums k s_a s_np s_total s_shares s_pairs s_crowds s_bestWay s_bestWeight s_answer s_mine s_theirs s_people s_heads)))) hA C me_J7_fill_53178 hw_648 (c_J7_fill_53178 l D k (w_a 5) 4 w_closing 6 u1 e2) dX7_placeHeads_6 ⟨Nat.le_of_ble_eq_true rfl, Nat.le_of_ble_eq_true rfl⟩ ⟨Nat.zero_le _, Nat.zero_le _⟩ rfl rfl (Nat.le_of_ble_eq_true rfl) [5] rfl (by decide) rfl rfl ?_
  clear e2
  refine cx_iconst (v := 0) C dX7_placeHeads_9 (by decide) ?_
  refine cx_istore_n (lv' := [(1, .int 0), (0, .ref (w_a 0))]) C dX7_placeHeads_10 rfl (by decide) rfl ?_
  refine cx_lv [1, 0] rfl ?_
  exact L11 cx_N0 w_place w_before u1 0 hf
theorem dX7_planLikes_0 : decode cX7_planLikes 0 = .ok (.aload_n 0, 1) := by decide +kernel
theorem dX7_planLikes_1 : decode cX7_planLikes 1 = .ok (.getfield 28, 3) := by decide +kernel
theorem dX7_planLikes_4 : decode cX7_planLikes 4 = .ok (.aload_n 0, 1) := by decide +kernel
theorem dX7_planLikes_5 : decode cX7_planLikes 5 = .ok (.getfield 35, 3) := by decide +kernel
theorem dX7_planLikes_8 : decode cX7_planLikes 8 = .ok (.iload_n 1, 1) := by decide +kernel
theorem dX7_planLikes_9 : decode cX7_planLikes 9 = .ok (.iaload, 1) := by decide +kernel
theorem dX7_planLikes_10 : decode cX7_planLikes 10 = .ok (.iaload, 1) := by decide +kernel
theorem dX7_planLikes_11 : decode cX7_planLikes 11 = .ok (.istore_n 3, 1) := by decide +kernel
theorem dX7_planLikes_12 : decode cX7_planLikes 12 = .ok (.aload_n 0, 1) := by decide +kernel
theorem dX7_planLikes_13 : decode cX7_planLikes 13 = .ok (.getfield 68, 3) := by decide +kernel
theorem dX7_planLikes_16 : decode cX7_planLikes 16 = .ok (.iload_n 1, 1) := by decide +kernel
theorem dX7_planLikes_17 : decode cX7_planLikes 17 = .ok (.iload_n 2, 1) := by decide +kernel
theorem dX7_planLikes_18 : decode cX7_planLikes 18 = .ok (.invokevirtual 148, 3) := by decide +kernel
theorem dX7_planLikes_21 : decode cX7_planLikes 21 = .ok (.istore 4, 2) := by decide +kernel
theorem dX7_planLikes_23 : decode cX7_planLikes 23 = .ok (.iload_n 1, 1) := by decide +kernel
theorem dX7_planLikes_24 : decode cX7_planLikes 24 = .ok (.bipush 6, 2) := by decide +kernel
theorem dX7_planLikes_26 : decode cX7_planLikes 26 = .ok (.imul, 1) := by decide +kernel
theorem dX7_planLikes_27 : decode cX7_planLikes 27 = .ok (.iload_n 2, 1) := by decide +kernel
theorem dX7_planLikes_28 : decode cX7_planLikes 28 = .ok (.iadd, 1) := by decide +kernel
theorem dX7_planLikes_29 : decode cX7_planLikes 29 = .ok (.istore 5, 2) := by decide +kernel
theorem dX7_planLikes_31 : decode cX7_planLikes 31 = .ok (.iconst 0, 1) := by decide +kernel
theorem dX7_planLikes_32 : decode cX7_planLikes 32 = .ok (.istore 6, 2) := by decide +kernel
theorem dX7_planLikes_34 : decode cX7_planLikes 34 = .ok (.iconst 0, 1) := by decide +kernel
theorem dX7_planLikes_35 : decode cX7_planLikes 35 = .ok (.istore 7, 2) := by decide +kernel
theorem dX7_planLikes_37 : decode cX7_planLikes 37 = .ok (.iload 7, 2) := by decide +kernel
theorem dX7_planLikes_39 : decode cX7_planLikes 39 = .ok (.aload_n 0, 1) := by decide +kernel
theorem dX7_planLikes_40 : decode cX7_planLikes 40 = .ok (.getfield 32, 3) := by decide +kernel
theorem dX7_planLikes_43 : decode cX7_planLikes 43 = .ok (.aload_n 0, 1) := by decide +kernel
theorem dX7_planLikes_44 : decode cX7_planLikes 44 = .ok (.getfield 35, 3) := by decide +kernel
theorem dX7_planLikes_47 : decode cX7_planLikes 47 = .ok (.iload_n 1, 1) := by decide +kernel
theorem dX7_planLikes_48 : decode cX7_planLikes 48 = .ok (.iaload, 1) := by decide +kernel
theorem dX7_planLikes_49 : decode cX7_planLikes 49 = .ok (.iaload, 1) := by decide +kernel
theorem dX7_planLikes_50 : decode cX7_planLikes 50 = .ok (.if_icmp .ge 49, 3) := by decide +kernel
theorem dX7_planLikes_53 : decode cX7_planLikes 53 = .ok (.iload 4, 2) := by decide +kernel
theorem dX7_planLikes_55 : decode cX7_planLikes 55 = .ok (.aload_n 0, 1) := by decide +kernel
theorem dX7_planLikes_56 : decode cX7_planLikes 56 = .ok (.getfield 68, 3) := by decide +kernel
theorem dX7_planLikes_59 : decode cX7_planLikes 59 = .ok (.iload_n 1, 1) := by decide +kernel
theorem dX7_planLikes_60 : decode cX7_planLikes 60 = .ok (.iload_n 2, 1) := by decide +kernel
theorem dX7_planLikes_61 : decode cX7_planLikes 61 = .ok (.iload_n 3, 1) := by decide +kernel
theorem dX7_planLikes_62 : decode cX7_planLikes 62 = .ok (.iload 7, 2) := by decide +kernel
theorem dX7_planLikes_64 : decode cX7_planLikes 64 = .ok (.iadd, 1) := by decide +kernel
theorem dX7_planLikes_65 : decode cX7_planLikes 65 = .ok (.invokevirtual 151, 3) := by decide +kernel
theorem dX7_planLikes_68 : decode cX7_planLikes 68 = .ok (.imul, 1) := by decide +kernel
theorem dX7_planLikes_69 : decode cX7_planLikes 69 = .ok (.istore 8, 2) := by decide +kernel
theorem dX7_planLikes_71 : decode cX7_planLikes 71 = .ok (.aload_n 0, 1) := by decide +kernel
theorem dX7_planLikes_72 : decode cX7_planLikes 72 = .ok (.getfield 44, 3) := by decide +kernel
theorem dX7_planLikes_75 : decode cX7_planLikes 75 = .ok (.iload 5, 2) := by decide +kernel
theorem dX7_planLikes_77 : decode cX7_planLikes 77 = .ok (.bipush 12, 2) := by decide +kernel
theorem dX7_planLikes_79 : decode cX7_planLikes 79 = .ok (.imul, 1) := by decide +kernel
theorem dX7_planLikes_80 : decode cX7_planLikes 80 = .ok (.iload 7, 2) := by decide +kernel
theorem dX7_planLikes_82 : decode cX7_planLikes 82 = .ok (.iadd, 1) := by decide +kernel
theorem dX7_planLikes_83 : decode cX7_planLikes 83 = .ok (.iload 8, 2) := by decide +kernel
theorem dX7_planLikes_85 : decode cX7_planLikes 85 = .ok (.iastore, 1) := by decide +kernel
theorem dX7_planLikes_86 : decode cX7_planLikes 86 = .ok (.iload 6, 2) := by decide +kernel
theorem dX7_planLikes_88 : decode cX7_planLikes 88 = .ok (.iload 8, 2) := by decide +kernel
theorem dX7_planLikes_90 : decode cX7_planLikes 90 = .ok (.iadd, 1) := by decide +kernel
theorem dX7_planLikes_91 : decode cX7_planLikes 91 = .ok (.istore 6, 2) := by decide +kernel
theorem dX7_planLikes_93 : decode cX7_planLikes 93 = .ok (.iinc 7 1, 3) := by decide +kernel
theorem dX7_planLikes_96 : decode cX7_planLikes 96 = .ok (.goto (-59), 3) := by decide +kernel
theorem dX7_planLikes_99 : decode cX7_planLikes 99 = .ok (.aload_n 0, 1) := by decide +kernel
theorem dX7_planLikes_100 : decode cX7_planLikes 100 = .ok (.getfield 47, 3) := by decide +kernel
theorem dX7_planLikes_103 : decode cX7_planLikes 103 = .ok (.iload 5, 2) := by decide +kernel
theorem dX7_planLikes_105 : decode cX7_planLikes 105 = .ok (.iload 6, 2) := by decide +kernel
theorem dX7_planLikes_107 : decode cX7_planLikes 107 = .ok (.iastore, 1) := by decide +kernel
theorem dX7_planLikes_108 : decode cX7_planLikes 108 = .ok (.return_, 1) := by decide +kernel
theorem me_X7_planLikes : cx_Mv yX7_planLikes cX7_planLikes 9 none 2 := ⟨⟨⟨by decide +kernel, by decide +kernel, by decide +kernel⟩, hw_7, hw_657⟩, hw_656, hs_12⟩
noncomputable def f_X7_planLikes_L37 (w_years : Nat → Int32) (w_place : Nat → Int32) (w_likeSums : Nat → Int32) (b_c0 : Nat → Int32) (b_z0 : Int32) (b_c2 : Nat → Int32) (b_z2 : Int32) (p1 : Int32) (p2 : Int32) (x3_7 : Int32) (x4_8 : Int32) (x5_9 : Int32) (rc37 : (Nat → Int32) → Int32 → Int32 → Option ((Nat → Int32) × (Nat → Int32))) (a_6 : Nat → Int32) (x6_10 : Int32) (x7_11 : Int32) : Option ((Nat → Int32) × (Nat → Int32)) := cx_gd (cx_ib p1 6) (cx_gd (cx_ib (w_place (cx_ix p1)) 4) (if (w_years (cx_ix (w_place (cx_ix p1)))) ≤ x7_11 then (cx_gd (cx_ib x5_9 36) (cx_let (upd w_likeSums (cx_ix x5_9) x6_10) (fun a16 => some ((a_6, a16))))) else (Option.bind (f_X1_ageLike b_c0 b_z0 b_c2 b_z2 p1 p2 (x3_7 + x7_11)) (fun u17 => cx_gd (cx_ib ((x5_9 * 12) + x7_11) 432) (cx_let (upd a_6 (cx_ix ((x5_9 * 12) + x7_11)) (x4_8 * u17)) (fun a20 => rc37 a20 (x6_10 + (x4_8 * u17)) (x7_11 + 1)))))))
noncomputable def f_X7_planLikes_L37w (w_years : Nat → Int32) (w_place : Nat → Int32) (w_likeSums : Nat → Int32) (b_c0 : Nat → Int32) (b_z0 : Int32) (b_c2 : Nat → Int32) (b_z2 : Int32) (p1 : Int32) (p2 : Int32) (x3_7 : Int32) (x4_8 : Int32) (x5_9 : Int32) (n : Nat) : (Nat → Int32) → Int32 → Int32 → Option ((Nat → Int32) × (Nat → Int32)) := Nat.rec (fun _ _ _ => none) (fun _ r => f_X7_planLikes_L37 w_years w_place w_likeSums b_c0 b_z0 b_c2 b_z2 p1 p2 x3_7 x4_8 x5_9 r) n
noncomputable def f_X7_planLikes (w_firstYear : Nat → Int32) (w_years : Nat → Int32) (w_place : Nat → Int32) (w_likes : Nat → Int32) (w_likeSums : Nat → Int32) (b_c0 : Nat → Int32) (b_z0 : Int32) (b_c2 : Nat → Int32) (b_z2 : Int32) (b_sg : Int32) (p1 : Int32) (p2 : Int32) : Option ((Nat → Int32) × (Nat → Int32)) := cx_gd (cx_ib p1 6) (cx_gd (cx_ib (w_place (cx_ix p1)) 4) (cx_let (w_firstYear (cx_ix (w_place (cx_ix p1)))) (fun v3 => Option.bind (f_X1_marksLike b_c0 b_z0 b_c2 b_z2 b_sg p1 p2) (fun u4 => f_X7_planLikes_L37w w_years w_place w_likeSums b_c0 b_z0 b_c2 b_z2 p1 p2 v3 u4 ((p1 * 6) + p2) cx_N0 w_likes 0 0))))
set_option maxHeartbeats 4000000 in
set_option maxRecDepth 100000 in
theorem c_X7_planLikes (l : Launch) (D : va_G) (k : Nat → ClassId) (w_a : Nat → Nat) (b_a : Nat → Nat) (s_a : Nat → Nat) (w_detail : Int32) (w_skipped : Int32) (w_early : Int32) (w_late : Int32) (w_firstOnly : Int32) (w_firstYear : Nat → Int32) (w_years : Nat → Int32) (w_place : Nat → Int32) (w_before : Nat → Int32) (w_closing : Nat → Int32) (w_likes : Nat → Int32) (w_likeSums : Nat → Int32) (w_namings : Nat → Int32) (w_products : Nat → Int64) (w_weights : Nat → Int64) (w_subtotals : Nat → Int64) (w_way : Nat → Int32) (b_c0 : Nat → Int32) (b_z0 : Int32) (b_c1 : Nat → Int32) (b_z1 : Int32) (b_c2 : Nat → Int32) (b_z2 : Int32) (b_c3 : Nat → Int32) (b_z3 : Int32) (b_c4 : Nat → Int32) (b_z4 : Int32) (b_sg : Int32) (s_np : Nat) (s_total : Nat → Int64) (s_shares : Nat → Int64) (s_pairs : Nat → Int64) (s_crowds : Nat → Int64) (s_bestWay : Nat → Int32) (s_bestWeight : Nat → Int64) (s_answer : Nat → Int64) (s_mine : Nat → Int64) (s_theirs : Nat → Int64) (s_people : Int32) (s_heads : Int32) (p1 : Int32) (p2 : Int32) (y : (Nat → Int32) × (Nat → Int32)) (hf : f_X7_planLikes w_firstYear w_years w_place w_likes w_likeSums b_c0 b_z0 b_c2 b_z2 b_sg p1 p2 = some y) : cx_M l yX7_planLikes cX7_planLikes 9 none 4 D k [.ref (w_a 0), .int p1, .int p2] (wd_Ways k w_a b_a s_a w_detail w_skipped w_early w_late w_firstOnly w_firstYear w_years w_place w_before w_closing w_likes w_likeSums w_namings w_products w_weights w_subtotals w_way ++ (wd_Box k b_a b_c0 b_z0 b_c1 b_z1 b_c2 b_z2 b_c3 b_z3 b_c4 b_z4 b_sg ++ (wd_Sums k s_a s_np s_total s_shares s_pairs s_crowds s_bestWay s_bestWeight s_answer s_mine s_theirs s_people s_heads))) (fun sz => cx_Qv D (wd_Ways k w_a b_a s_a w_detail w_skipped w_early w_late w_firstOnly w_firstYear w_years w_place w_before w_closing w_likes w_likeSums w_namings w_products w_weights w_subtotals w_way ++ (wd_Box k b_a b_c0 b_z0 b_c1 b_z1 b_c2 b_z2 b_c3 b_z3 b_c4 b_z4 b_sg ++ (wd_Sums k s_a s_np s_total s_shares s_pairs s_crowds s_bestWay s_bestWeight s_answer s_mine s_theirs s_people s_heads))) (wd_Ways k w_a b_a s_a w_detail w_skipped w_early w_late w_firstOnly w_firstYear w_years w_place w_before w_closing y.1 y.2 w_namings w_products w_weights w_subtotals w_way ++ (wd_Box k b_a b_c0 b_z0 b_c1 b_z1 b_c2 b_z2 b_c3 b_z3 b_c4 b_z4 b_sg ++ (wd_Sums k s_a s_np s_total s_shares s_pairs s_crowds s_bestWay s_bestWeight s_answer s_mine s_theirs s_people s_heads))) sz) := by
  refine cx_met (own := "NamelessBox$Ways") (by decide) rfl (Nat.le_of_ble_eq_true rfl) ?_
  intro p e s m args below meth c A Q C hA hQ hr hlk
  refine cx_lv (lv' := [(0, .ref (w_a 0)), (1, .int p1), (2, .int p2)]) [0, 1, 2] rfl ?_
  have L37 : ∀ (x3_7 : Int32) (x4_8 : Int32) (x5_9 : Int32) (n37 : Nat) (a_6 : Nat → Int32) (x6_10 : Int32) (x7_11 : Int32), f_X7_planLikes_L37w w_years w_place w_likeSums b_c0 b_z0 b_c2 b_z2 p1 p2 x3_7 x4_8 x5_9 n37 a_6 x6_10 x7_11 = some y → cx_S p l e (cx_rm 4) s m args below meth c A D 9 0 0 Q 37 [(0, .ref (w_a 0)), (1, .int p1), (2, .int p2), (3, .int x3_7), (4, .int x4_8), (5, .int x5_9), (6, .int x6_10), (7, .int x7_11)] [] (wd_Ways k w_a b_a s_a w_detail w_skipped w_early w_late w_firstOnly w_firstYear w_years w_place w_before w_closing a_6 w_likeSums w_namings w_products w_weights w_subtotals w_way ++ (wd_Box k b_a b_c0 b_z0 b_c1 b_z1 b_c2 b_z2 b_c3 b_z3 b_c4 b_z4 b_sg ++ (wd_Sums k s_a s_np s_total s_shares s_pairs s_crowds s_bestWay s_bestWeight s_answer s_mine s_theirs s_people s_heads))) := by
    intro x3_7 x4_8 x5_9 n37
    induction n37 with
    | zero =>
      intro a_6 x6_10 x7_11 hf
      exact absurd (show (none : Option ((Nat → Int32) × (Nat → Int32))) = some y from hf) (fun h => by cases h)
    | succ n37 ih37 =>
      intro a_6 x6_10 x7_11 hf
      have hf : f_X7_planLikes_L37 w_years w_place w_likeSums b_c0 b_z0 b_c2 b_z2 p1 p2 x3_7 x4_8 x5_9 (f_X7_planLikes_L37w w_years w_place w_likeSums b_c0 b_z0 b_c2 b_z2 p1 p2 x3_7 x4_8 x5_9 n37) a_6 x6_10 x7_11 = some y := hf
      unfold f_X7_planLikes_L37 at hf
      refine cx_iload C dX7_planLikes_37 7 rfl ?_
      refine cx_aload_n C dX7_planLikes_39 0 rfl ?_
      refine cx_get (v := .ref (w_a 2)) (ci := 6) C iX7 dX7_planLikes_40 0 rfl rfl 8 (by decide) hw_206 rfl ?_
      refine cx_aload_n C dX7_planLikes_43 0 rfl ?_
      refine cx_get (v := .ref (w_a 3)) (ci := 6) C iX7 dX7_planLikes_44 0 rfl rfl 9 (by decide) hw_207 rfl ?_
      refine cx_iload_n C dX7_planLikes_47 1 rfl ?_
      obtain ⟨g12, hf⟩ := cx_gd_at hf
      refine cx_iald C dX7_planLikes_48 3 rfl (cx_ib_in g12) ?_
      clear g12
      obtain ⟨g13, hf⟩ := cx_gd_at hf
      refine cx_iald C dX7_planLikes_49 2 rfl (cx_ib_in g13) ?_
      clear g13
      refine cx_icmp_ge (tgt := 99) C dX7_planLikes_50 (by decide) (fun c14 => ?_) (fun c14 => ?_)
      · have hf := cx_if_t hf c14
        clear c14
        refine cx_aload_n C dX7_planLikes_99 0 rfl ?_
        refine cx_get (v := .ref (w_a 7)) (ci := 6) C iX7 dX7_planLikes_100 0 rfl rfl 13 (by decide) hw_211 rfl ?_
        refine cx_iload C dX7_planLikes_103 5 rfl ?_
        refine cx_iload C dX7_planLikes_105 6 rfl ?_
        obtain ⟨g15, hf⟩ := cx_gd_at hf
        obtain ⟨a16, ea16⟩ : ∃ z, z = upd w_likeSums (cx_ix x5_9) x6_10 := ⟨_, rfl⟩
        have hf := cx_let_at hf ea16
        refine cx_iast (ws' := (wd_Ways k w_a b_a s_a w_detail w_skipped w_early w_late w_firstOnly w_firstYear w_years w_place w_before w_closing a_6 a16 w_namings w_products w_weights w_subtotals w_way ++ (wd_Box k b_a b_c0 b_z0 b_c1 b_z1 b_c2 b_z2 b_c3 b_z3 b_c4 b_z4 b_sg ++ (wd_Sums k s_a s_np s_total s_shares s_pairs s_crowds s_bestWay s_bestWeight s_answer s_mine s_theirs s_people s_heads)))) C dX7_planLikes_107 7 rfl (cx_ib_in g15) (by rw [ea16]; rfl) ?_
        clear ea16 g15
        obtain rfl := Option.some.inj hf
        exact cx_vret C hA hQ hr hlk dX7_planLikes_108 rfl
      · have hf := cx_if_f hf c14
        clear c14
        refine cx_iload C dX7_planLikes_53 4 rfl ?_
        refine cx_aload_n C dX7_planLikes_55 0 rfl ?_
        refine cx_get (v := .ref (b_a 0)) (ci := 6) C iX7 dX7_planLikes_56 0 rfl rfl 1 (by decide) hw_199 rfl ?_
        refine cx_iload_n C dX7_planLikes_59 1 rfl ?_
        refine cx_iload_n C dX7_planLikes_60 2 rfl ?_
        refine cx_iload_n C dX7_planLikes_61 3 rfl ?_
        refine cx_iload C dX7_planLikes_62 7 rfl ?_
        refine cx_iadd C dX7_planLikes_64 ?_
        obtain ⟨u17, e18, hf⟩ := cx_bd_at hf
        refine cx_Kvi (q := (RX1, TX1, 6)) (As := [.int p1, .int p2, .int (x3_7 + x7_11)]) (rest := [.int x4_8]) hA C me_X1_ageLike hw_659 (c_X1_ageLike l D k b_a b_c0 b_z0 b_c1 b_z1 b_c2 b_z2 b_c3 b_z3 b_c4 b_z4 b_sg p1 p2 (x3_7 + x7_11) u17 e18) dX7_planLikes_65 ⟨Nat.le_of_ble_eq_true rfl, Nat.le_of_ble_eq_true rfl⟩ ⟨Nat.zero_le _, Nat.zero_le _⟩ rfl rfl (Nat.le_of_ble_eq_true rfl) rfl rfl [13, 14, 15, 16, 17, 18, 19, 20, 21, 22, 23] rfl (by decide) ?_
        clear e18
        refine cx_imul C dX7_planLikes_68 ?_
        refine cx_istore (lv' := [(8, .int (x4_8 * u17)), (0, .ref (w_a 0)), (1, .int p1), (2, .int p2), (3, .int x3_7), (4, .int x4_8), (5, .int x5_9), (6, .int x6_10), (7, .int x7_11)]) C dX7_planLikes_69 (by decide) rfl ?_
        refine cx_aload_n C dX7_planLikes_71 1 rfl ?_
        refine cx_get (v := .ref (w_a 6)) (ci := 6) C iX7 dX7_planLikes_72 0 rfl rfl 12 (by decide) hw_210 rfl ?_
        refine cx_iload C dX7_planLikes_75 6 rfl ?_
        refine cx_bipush (v := 12) C dX7_planLikes_77 (by decide) ?_
        refine cx_imul C dX7_planLikes_79 ?_
        refine cx_iload C dX7_planLikes_80 8 rfl ?_
        refine cx_iadd C dX7_planLikes_82 ?_
        refine cx_iload C dX7_planLikes_83 0 rfl ?_
        obtain ⟨g19, hf⟩ := cx_gd_at hf
        obtain ⟨a20, ea20⟩ : ∃ z, z = upd a_6 (cx_ix ((x5_9 * 12) + x7_11)) (x4_8 * u17) := ⟨_, rfl⟩
        have hf := cx_let_at hf ea20
        refine cx_iast (ws' := (wd_Ways k w_a b_a s_a w_detail w_skipped w_early w_late w_firstOnly w_firstYear w_years w_place w_before w_closing a20 w_likeSums w_namings w_products w_weights w_subtotals w_way ++ (wd_Box k b_a b_c0 b_z0 b_c1 b_z1 b_c2 b_z2 b_c3 b_z3 b_c4 b_z4 b_sg ++ (wd_Sums k s_a s_np s_total s_shares s_pairs s_crowds s_bestWay s_bestWeight s_answer s_mine s_theirs s_people s_heads)))) C dX7_planLikes_85 6 rfl (cx_ib_in g19) (by rw [ea20]; rfl) ?_
        clear ea20 g19
        refine cx_iload C dX7_planLikes_86 7 rfl ?_
        refine cx_iload C dX7_planLikes_88 0 rfl ?_
        refine cx_iadd C dX7_planLikes_90 ?_
        refine cx_istore (lv' := [(6, .int (x6_10 + (x4_8 * u17))), (8, .int (x4_8 * u17)), (0, .ref (w_a 0)), (1, .int p1), (2, .int p2), (3, .int x3_7), (4, .int x4_8), (5, .int x5_9), (7, .int x7_11)]) C dX7_planLikes_91 (by decide) rfl ?_
        refine cx_iinc (v := x7_11 + 1) (lv' := [(7, .int (x7_11 + 1)), (6, .int (x6_10 + (x4_8 * u17))), (8, .int (x4_8 * u17)), (0, .ref (w_a 0)), (1, .int p1), (2, .int p2), (3, .int x3_7), (4, .int x4_8), (5, .int x5_9)]) C dX7_planLikes_93 8 rfl rfl (by decide) rfl ?_
        refine cx_goto (tgt := 37) C dX7_planLikes_96 (by decide) ?_
        refine cx_lv [3, 4, 5, 6, 7, 8, 1, 0] rfl ?_
        exact ih37 a20 (x6_10 + (x4_8 * u17)) (x7_11 + 1) hf
  unfold f_X7_planLikes at hf
  refine cx_aload_n C dX7_planLikes_0 0 rfl ?_
  refine cx_get (v := .ref (w_a 1)) (ci := 6) C iX7 dX7_planLikes_1 0 rfl rfl 7 (by decide) hw_205 rfl ?_
  refine cx_aload_n C dX7_planLikes_4 0 rfl ?_
  refine cx_get (v := .ref (w_a 3)) (ci := 6) C iX7 dX7_planLikes_5 0 rfl rfl 9 (by decide) hw_207 rfl ?_
  refine cx_iload_n C dX7_planLikes_8 1 rfl ?_
  obtain ⟨g1, hf⟩ := cx_gd_at hf
  refine cx_iald C dX7_planLikes_9 3 rfl (cx_ib_in g1) ?_
  clear g1
  obtain ⟨g2, hf⟩ := cx_gd_at hf
  refine cx_iald C dX7_planLikes_10 1 rfl (cx_ib_in g2) ?_
  clear g2
  refine cx_topi (fun v3 ev3 => ?_)
  have hf := cx_let_at hf ev3
  clear ev3
  refine cx_istore_n (lv' := [(3, .int v3), (0, .ref (w_a 0)), (1, .int p1), (2, .int p2)]) C dX7_planLikes_11 rfl (by decide) rfl ?_
  refine cx_aload_n C dX7_planLikes_12 1 rfl ?_
  refine cx_get (v := .ref (b_a 0)) (ci := 6) C iX7 dX7_planLikes_13 0 rfl rfl 1 (by decide) hw_199 rfl ?_
  refine cx_iload_n C dX7_planLikes_16 2 rfl ?_
  refine cx_iload_n C dX7_planLikes_17 3 rfl ?_
  obtain ⟨u4, e5, hf⟩ := cx_bd_at hf
  refine cx_Kvi (q := (RX1, TX1, 6)) (As := [.int p1, .int p2]) (rest := []) hA C me_X1_marksLike hw_658 (c_X1_marksLike l D k b_a b_c0 b_z0 b_c1 b_z1 b_c2 b_z2 b_c3 b_z3 b_c4 b_z4 b_sg p1 p2 u4 e5) dX7_planLikes_18 ⟨Nat.le_of_ble_eq_true rfl, Nat.le_of_ble_eq_true rfl⟩ ⟨Nat.zero_le _, Nat.zero_le _⟩ rfl rfl (Nat.le_of_ble_eq_true rfl) rfl rfl [13, 14, 15, 16, 17, 18, 19, 20, 21, 22, 23] rfl (by decide) ?_
  clear e5
  refine cx_istore (lv' := [(4, .int u4), (3, .int v3), (0, .ref (w_a 0)), (1, .int p1), (2, .int p2)]) C dX7_planLikes_21 (by decide) rfl ?_
  refine cx_iload_n C dX7_planLikes_23 3 rfl ?_
  refine cx_bipush (v := 6) C dX7_planLikes_24 (by decide) ?_
  refine cx_imul C dX7_planLikes_26 ?_
  refine cx_iload_n C dX7_planLikes_27 4 rfl ?_
  refine cx_iadd C dX7_planLikes_28 ?_
  refine cx_istore (lv' := [(5, .int ((p1 * 6) + p2)), (4, .int u4), (3, .int v3), (0, .ref (w_a 0)), (1, .int p1), (2, .int p2)]) C dX7_planLikes_29 (by decide) rfl ?_
  refine cx_iconst (v := 0) C dX7_planLikes_31 (by decide) ?_
  refine cx_istore (lv' := [(6, .int 0), (5, .int ((p1 * 6) + p2)), (4, .int u4), (3, .int v3), (0, .ref (w_a 0)), (1, .int p1), (2, .int p2)]) C dX7_planLikes_32 (by decide) rfl ?_
  refine cx_iconst (v := 0) C dX7_planLikes_34 (by decide) ?_
  refine cx_istore (lv' := [(7, .int 0), (6, .int 0), (5, .int ((p1 * 6) + p2)), (4, .int u4), (3, .int v3), (0, .ref (w_a 0)), (1, .int p1), (2, .int p2)]) C dX7_planLikes_35 (by decide) rfl ?_
  refine cx_lv [5, 6, 7, 4, 3, 2, 1, 0] rfl ?_
  exact L37 v3 u4 ((p1 * 6) + p2) cx_N0 w_likes 0 0 hf
theorem dX7_planNamings_0 : decode cX7_planNamings 0 = .ok (.iconst 1, 1) := by decide +kernel
theorem dX7_planNamings_1 : decode cX7_planNamings 1 = .ok (.istore_n 3, 1) := by decide +kernel
theorem dX7_planNamings_2 : decode cX7_planNamings 2 = .ok (.iconst 0, 1) := by decide +kernel
theorem dX7_planNamings_3 : decode cX7_planNamings 3 = .ok (.istore 4, 2) := by decide +kernel
theorem dX7_planNamings_5 : decode cX7_planNamings 5 = .ok (.iload 4, 2) := by decide +kernel
theorem dX7_planNamings_7 : decode cX7_planNamings 7 = .ok (.aload_n 0, 1) := by decide +kernel
theorem dX7_planNamings_8 : decode cX7_planNamings 8 = .ok (.getfield 68, 3) := by decide +kernel
theorem dX7_planNamings_11 : decode cX7_planNamings 11 = .ok (.getfield 155, 3) := by decide +kernel
theorem dX7_planNamings_14 : decode cX7_planNamings 14 = .ok (.getfield 88, 3) := by decide +kernel
theorem dX7_planNamings_17 : decode cX7_planNamings 17 = .ok (.if_icmp .ge 75, 3) := by decide +kernel
theorem dX7_planNamings_20 : decode cX7_planNamings 20 = .ok (.iload 4, 2) := by decide +kernel
theorem dX7_planNamings_22 : decode cX7_planNamings 22 = .ok (.aload_n 0, 1) := by decide +kernel
theorem dX7_planNamings_23 : decode cX7_planNamings 23 = .ok (.getfield 15, 3) := by decide +kernel
theorem dX7_planNamings_26 : decode cX7_planNamings 26 = .ok (.if_icmp .eq 60, 3) := by decide +kernel
theorem dX7_planNamings_29 : decode cX7_planNamings 29 = .ok (.aload_n 0, 1) := by decide +kernel
theorem dX7_planNamings_30 : decode cX7_planNamings 30 = .ok (.getfield 68, 3) := by decide +kernel
theorem dX7_planNamings_33 : decode cX7_planNamings 33 = .ok (.getfield 155, 3) := by decide +kernel
theorem dX7_planNamings_36 : decode cX7_planNamings 36 = .ok (.iload 4, 2) := by decide +kernel
theorem dX7_planNamings_38 : decode cX7_planNamings 38 = .ok (.iconst 1, 1) := by decide +kernel
theorem dX7_planNamings_39 : decode cX7_planNamings 39 = .ok (.invokevirtual 93, 3) := by decide +kernel
theorem dX7_planNamings_42 : decode cX7_planNamings 42 = .ok (.iload_n 1, 1) := by decide +kernel
theorem dX7_planNamings_43 : decode cX7_planNamings 43 = .ok (.if_icmp .ne 43, 3) := by decide +kernel
theorem dX7_planNamings_46 : decode cX7_planNamings 46 = .ok (.iload_n 3, 1) := by decide +kernel
theorem dX7_planNamings_47 : decode cX7_planNamings 47 = .ok (.aload_n 0, 1) := by decide +kernel
theorem dX7_planNamings_48 : decode cX7_planNamings 48 = .ok (.getfield 68, 3) := by decide +kernel
theorem dX7_planNamings_51 : decode cX7_planNamings 51 = .ok (.iload 4, 2) := by decide +kernel
theorem dX7_planNamings_53 : decode cX7_planNamings 53 = .ok (.iload_n 2, 1) := by decide +kernel
theorem dX7_planNamings_54 : decode cX7_planNamings 54 = .ok (.invokevirtual 158, 3) := by decide +kernel
theorem dX7_planNamings_57 : decode cX7_planNamings 57 = .ok (.ifCond .eq 15, 3) := by decide +kernel
theorem dX7_planNamings_60 : decode cX7_planNamings 60 = .ok (.aload_n 0, 1) := by decide +kernel
theorem dX7_planNamings_61 : decode cX7_planNamings 61 = .ok (.getfield 68, 3) := by decide +kernel
theorem dX7_planNamings_64 : decode cX7_planNamings 64 = .ok (.iload 4, 2) := by decide +kernel
theorem dX7_planNamings_66 : decode cX7_planNamings 66 = .ok (.invokevirtual 162, 3) := by decide +kernel
theorem dX7_planNamings_69 : decode cX7_planNamings 69 = .ok (.goto 15, 3) := by decide +kernel
theorem dX7_planNamings_72 : decode cX7_planNamings 72 = .ok (.bipush 10, 2) := by decide +kernel
theorem dX7_planNamings_74 : decode cX7_planNamings 74 = .ok (.aload_n 0, 1) := by decide +kernel
theorem dX7_planNamings_75 : decode cX7_planNamings 75 = .ok (.getfield 68, 3) := by decide +kernel
theorem dX7_planNamings_78 : decode cX7_planNamings 78 = .ok (.iload 4, 2) := by decide +kernel
theorem dX7_planNamings_80 : decode cX7_planNamings 80 = .ok (.invokevirtual 162, 3) := by decide +kernel
theorem dX7_planNamings_83 : decode cX7_planNamings 83 = .ok (.isub, 1) := by decide +kernel
theorem dX7_planNamings_84 : decode cX7_planNamings 84 = .ok (.imul, 1) := by decide +kernel
theorem dX7_planNamings_85 : decode cX7_planNamings 85 = .ok (.istore_n 3, 1) := by decide +kernel
theorem dX7_planNamings_86 : decode cX7_planNamings 86 = .ok (.iinc 4 1, 3) := by decide +kernel
theorem dX7_planNamings_89 : decode cX7_planNamings 89 = .ok (.goto (-84), 3) := by decide +kernel
theorem dX7_planNamings_92 : decode cX7_planNamings 92 = .ok (.aload_n 0, 1) := by decide +kernel
theorem dX7_planNamings_93 : decode cX7_planNamings 93 = .ok (.getfield 50, 3) := by decide +kernel
theorem dX7_planNamings_96 : decode cX7_planNamings 96 = .ok (.iload_n 1, 1) := by decide +kernel
theorem dX7_planNamings_97 : decode cX7_planNamings 97 = .ok (.bipush 6, 2) := by decide +kernel
theorem dX7_planNamings_99 : decode cX7_planNamings 99 = .ok (.imul, 1) := by decide +kernel
theorem dX7_planNamings_100 : decode cX7_planNamings 100 = .ok (.iload_n 2, 1) := by decide +kernel
theorem dX7_planNamings_101 : decode cX7_planNamings 101 = .ok (.iadd, 1) := by decide +kernel
theorem dX7_planNamings_102 : decode cX7_planNamings 102 = .ok (.iload_n 3, 1) := by decide +kernel
theorem dX7_planNamings_103 : decode cX7_planNamings 103 = .ok (.iastore, 1) := by decide +kernel
theorem dX7_planNamings_104 : decode cX7_planNamings 104 = .ok (.return_, 1) := by decide +kernel
theorem me_X7_planNamings : cx_Mv yX7_planNamings cX7_planNamings 5 none 2 := ⟨⟨⟨by decide +kernel, by decide +kernel, by decide +kernel⟩, hw_7, hw_663⟩, hw_662, hs_13⟩
noncomputable def f_X7_planNamings_J86 (x4_2 : Int32) (rc5 : Int32 → Int32 → Option (Nat → Int32)) (x3_7 : Int32) : Option (Nat → Int32) := rc5 x3_7 (x4_2 + 1)
noncomputable def f_X7_planNamings_J84 (x3_1 : Int32) (x4_2 : Int32) (rc5 : Int32 → Int32 → Option (Nat → Int32)) (s1_16 : Int32) : Option (Nat → Int32) := f_X7_planNamings_J86 x4_2 rc5 (x3_1 * s1_16)
noncomputable def f_X7_planNamings_L5 (w_skipped : Int32) (w_namings : Nat → Int32) (b_c0 : Nat → Int32) (b_z0 : Int32) (b_c3 : Nat → Int32) (b_z3 : Int32) (p1 : Int32) (p2 : Int32) (rc5 : Int32 → Int32 → Option (Nat → Int32)) (x3_1 : Int32) (x4_2 : Int32) : Option (Nat → Int32) := if b_z3 ≤ x4_2 then (cx_gd (cx_ib ((p1 * 6) + p2) 36) (cx_let (upd w_namings (cx_ix ((p1 * 6) + p2)) x3_1) (fun a5 => some a5))) else (if x4_2 = w_skipped then (f_X7_planNamings_J86 x4_2 rc5 x3_1) else (Option.bind (f_X4_at 4 16 b_c3 b_z3 x4_2 1) (fun u8 => if u8 = p1 then (Option.bind (f_X1_isSo b_c3 b_z3 x4_2 p2) (fun u11 => if u11 = 0 then (Option.bind (f_X1_truthOf b_c0 b_z0 b_c3 b_z3 x4_2) (fun u14 => f_X7_planNamings_J84 x3_1 x4_2 rc5 (10 - u14))) else (Option.bind (f_X1_truthOf b_c0 b_z0 b_c3 b_z3 x4_2) (fun u17 => f_X7_planNamings_J84 x3_1 x4_2 rc5 u17)))) else (f_X7_planNamings_J86 x4_2 rc5 x3_1))))
noncomputable def f_X7_planNamings_L5w (w_skipped : Int32) (w_namings : Nat → Int32) (b_c0 : Nat → Int32) (b_z0 : Int32) (b_c3 : Nat → Int32) (b_z3 : Int32) (p1 : Int32) (p2 : Int32) (n : Nat) : Int32 → Int32 → Option (Nat → Int32) := Nat.rec (fun _ _ => none) (fun _ r => f_X7_planNamings_L5 w_skipped w_namings b_c0 b_z0 b_c3 b_z3 p1 p2 r) n
noncomputable def f_X7_planNamings (w_skipped : Int32) (w_namings : Nat → Int32) (b_c0 : Nat → Int32) (b_z0 : Int32) (b_c3 : Nat → Int32) (b_z3 : Int32) (p1 : Int32) (p2 : Int32) : Option (Nat → Int32) := f_X7_planNamings_L5w w_skipped w_namings b_c0 b_z0 b_c3 b_z3 p1 p2 cx_N0 1 0
set_option maxHeartbeats 4000000 in
set_option maxRecDepth 100000 in
theorem c_X7_planNamings (l : Launch) (D : va_G) (k : Nat → ClassId) (w_a : Nat → Nat) (b_a : Nat → Nat) (s_a : Nat → Nat) (w_detail : Int32) (w_skipped : Int32) (w_early : Int32) (w_late : Int32) (w_firstOnly : Int32) (w_firstYear : Nat → Int32) (w_years : Nat → Int32) (w_place : Nat → Int32) (w_before : Nat → Int32) (w_closing : Nat → Int32) (w_likes : Nat → Int32) (w_likeSums : Nat → Int32) (w_namings : Nat → Int32) (w_products : Nat → Int64) (w_weights : Nat → Int64) (w_subtotals : Nat → Int64) (w_way : Nat → Int32) (b_c0 : Nat → Int32) (b_z0 : Int32) (b_c1 : Nat → Int32) (b_z1 : Int32) (b_c2 : Nat → Int32) (b_z2 : Int32) (b_c3 : Nat → Int32) (b_z3 : Int32) (b_c4 : Nat → Int32) (b_z4 : Int32) (b_sg : Int32) (s_np : Nat) (s_total : Nat → Int64) (s_shares : Nat → Int64) (s_pairs : Nat → Int64) (s_crowds : Nat → Int64) (s_bestWay : Nat → Int32) (s_bestWeight : Nat → Int64) (s_answer : Nat → Int64) (s_mine : Nat → Int64) (s_theirs : Nat → Int64) (s_people : Int32) (s_heads : Int32) (p1 : Int32) (p2 : Int32) (y : Nat → Int32) (hf : f_X7_planNamings w_skipped w_namings b_c0 b_z0 b_c3 b_z3 p1 p2 = some y) : cx_M l yX7_planNamings cX7_planNamings 5 none 3 D k [.ref (w_a 0), .int p1, .int p2] (wd_Ways k w_a b_a s_a w_detail w_skipped w_early w_late w_firstOnly w_firstYear w_years w_place w_before w_closing w_likes w_likeSums w_namings w_products w_weights w_subtotals w_way ++ (wd_Box k b_a b_c0 b_z0 b_c1 b_z1 b_c2 b_z2 b_c3 b_z3 b_c4 b_z4 b_sg ++ (wd_Sums k s_a s_np s_total s_shares s_pairs s_crowds s_bestWay s_bestWeight s_answer s_mine s_theirs s_people s_heads))) (fun sz => cx_Qv D (wd_Ways k w_a b_a s_a w_detail w_skipped w_early w_late w_firstOnly w_firstYear w_years w_place w_before w_closing w_likes w_likeSums w_namings w_products w_weights w_subtotals w_way ++ (wd_Box k b_a b_c0 b_z0 b_c1 b_z1 b_c2 b_z2 b_c3 b_z3 b_c4 b_z4 b_sg ++ (wd_Sums k s_a s_np s_total s_shares s_pairs s_crowds s_bestWay s_bestWeight s_answer s_mine s_theirs s_people s_heads))) (wd_Ways k w_a b_a s_a w_detail w_skipped w_early w_late w_firstOnly w_firstYear w_years w_place w_before w_closing w_likes w_likeSums y w_products w_weights w_subtotals w_way ++ (wd_Box k b_a b_c0 b_z0 b_c1 b_z1 b_c2 b_z2 b_c3 b_z3 b_c4 b_z4 b_sg ++ (wd_Sums k s_a s_np s_total s_shares s_pairs s_crowds s_bestWay s_bestWeight s_answer s_mine s_theirs s_people s_heads))) sz) := by
  refine cx_met (own := "NamelessBox$Ways") (by decide) rfl (Nat.le_of_ble_eq_true rfl) ?_
  intro p e s m args below meth c A Q C hA hQ hr hlk
  refine cx_lv (lv' := [(0, .ref (w_a 0)), (1, .int p1), (2, .int p2)]) [0, 1, 2] rfl ?_
  have L5 : ∀ (n5 : Nat) (x3_1 : Int32) (x4_2 : Int32), f_X7_planNamings_L5w w_skipped w_namings b_c0 b_z0 b_c3 b_z3 p1 p2 n5 x3_1 x4_2 = some y → cx_S p l e (cx_rm 3) s m args below meth c A D 5 0 0 Q 5 [(0, .ref (w_a 0)), (1, .int p1), (2, .int p2), (3, .int x3_1), (4, .int x4_2)] [] (wd_Ways k w_a b_a s_a w_detail w_skipped w_early w_late w_firstOnly w_firstYear w_years w_place w_before w_closing w_likes w_likeSums w_namings w_products w_weights w_subtotals w_way ++ (wd_Box k b_a b_c0 b_z0 b_c1 b_z1 b_c2 b_z2 b_c3 b_z3 b_c4 b_z4 b_sg ++ (wd_Sums k s_a s_np s_total s_shares s_pairs s_crowds s_bestWay s_bestWeight s_answer s_mine s_theirs s_people s_heads))) := by
    intro  n5
    induction n5 with
    | zero =>
      intro x3_1 x4_2 hf
      exact absurd (show (none : Option (Nat → Int32)) = some y from hf) (fun h => by cases h)
    | succ n5 ih5 =>
      intro x3_1 x4_2 hf
      have hf : f_X7_planNamings_L5 w_skipped w_namings b_c0 b_z0 b_c3 b_z3 p1 p2 (f_X7_planNamings_L5w w_skipped w_namings b_c0 b_z0 b_c3 b_z3 p1 p2 n5) x3_1 x4_2 = some y := hf
      have J86 : ∀ (x3_7 : Int32), f_X7_planNamings_J86 x4_2 (f_X7_planNamings_L5w w_skipped w_namings b_c0 b_z0 b_c3 b_z3 p1 p2 n5) x3_7 = some y → cx_S p l e (cx_rm 3) s m args below meth c A D 5 0 0 Q 86 [(0, .ref (w_a 0)), (1, .int p1), (2, .int p2), (3, .int x3_7), (4, .int x4_2)] [] (wd_Ways k w_a b_a s_a w_detail w_skipped w_early w_late w_firstOnly w_firstYear w_years w_place w_before w_closing w_likes w_likeSums w_namings w_products w_weights w_subtotals w_way ++ (wd_Box k b_a b_c0 b_z0 b_c1 b_z1 b_c2 b_z2 b_c3 b_z3 b_c4 b_z4 b_sg ++ (wd_Sums k s_a s_np s_total s_shares s_pairs s_crowds s_bestWay s_bestWeight s_answer s_mine s_theirs s_people s_heads))) := by
        intro x3_7 hf
        unfold f_X7_planNamings_J86 at hf
        refine cx_iinc (v := x4_2 + 1) (lv' := [(4, .int (x4_2 + 1)), (0, .ref (w_a 0)), (1, .int p1), (2, .int p2), (3, .int x3_7)]) C dX7_planNamings_86 4 rfl rfl (by decide) rfl ?_
        refine cx_goto (tgt := 5) C dX7_planNamings_89 (by decide) ?_
        refine cx_lv [1, 2, 3, 4, 0] rfl ?_
        exact ih5 x3_7 (x4_2 + 1) hf
      have J84 : ∀ (s1_16 : Int32), f_X7_planNamings_J84 x3_1 x4_2 (f_X7_planNamings_L5w w_skipped w_namings b_c0 b_z0 b_c3 b_z3 p1 p2 n5) s1_16 = some y → cx_S p l e (cx_rm 3) s m args below meth c A D 5 0 0 Q 84 [(0, .ref (w_a 0)), (1, .int p1), (2, .int p2), (4, .int x4_2)] [.int s1_16, .int x3_1] (wd_Ways k w_a b_a s_a w_detail w_skipped w_early w_late w_firstOnly w_firstYear w_years w_place w_before w_closing w_likes w_likeSums w_namings w_products w_weights w_subtotals w_way ++ (wd_Box k b_a b_c0 b_z0 b_c1 b_z1 b_c2 b_z2 b_c3 b_z3 b_c4 b_z4 b_sg ++ (wd_Sums k s_a s_np s_total s_shares s_pairs s_crowds s_bestWay s_bestWeight s_answer s_mine s_theirs s_people s_heads))) := by
        intro s1_16 hf
        unfold f_X7_planNamings_J84 at hf
        refine cx_imul C dX7_planNamings_84 ?_
        refine cx_istore_n (lv' := [(3, .int (x3_1 * s1_16)), (0, .ref (w_a 0)), (1, .int p1), (2, .int p2), (4, .int x4_2)]) C dX7_planNamings_85 rfl (by decide) rfl ?_
        refine cx_lv [1, 2, 3, 0, 4] rfl ?_
        exact J86 (x3_1 * s1_16) hf
      unfold f_X7_planNamings_L5 at hf
      refine cx_iload C dX7_planNamings_5 4 rfl ?_
      refine cx_aload_n C dX7_planNamings_7 0 rfl ?_
      refine cx_get (v := .ref (b_a 0)) (ci := 6) C iX7 dX7_planNamings_8 0 rfl rfl 1 (by decide) hw_199 rfl ?_
      refine cx_get (v := .ref (b_a 7)) (ci := 1) C iX1 dX7_planNamings_11 13 rfl rfl 3 (by decide) hw_72 rfl ?_
      refine cx_get (v := .int b_z3) (ci := 3) C iX4 dX7_planNamings_14 20 rfl rfl 3 (by decide) hw_48 rfl ?_
      refine cx_icmp_ge (tgt := 92) C dX7_planNamings_17 (by decide) (fun c3 => ?_) (fun c3 => ?_)
      · have hf := cx_if_t hf c3
        clear c3
        refine cx_aload_n C dX7_planNamings_92 0 rfl ?_
        refine cx_get (v := .ref (w_a 8)) (ci := 6) C iX7 dX7_planNamings_93 0 rfl rfl 14 (by decide) hw_212 rfl ?_
        refine cx_iload_n C dX7_planNamings_96 1 rfl ?_
        refine cx_bipush (v := 6) C dX7_planNamings_97 (by decide) ?_
        refine cx_imul C dX7_planNamings_99 ?_
        refine cx_iload_n C dX7_planNamings_100 2 rfl ?_
        refine cx_iadd C dX7_planNamings_101 ?_
        refine cx_iload_n C dX7_planNamings_102 3 rfl ?_
        obtain ⟨g4, hf⟩ := cx_gd_at hf
        obtain ⟨a5, ea5⟩ : ∃ z, z = upd w_namings (cx_ix ((p1 * 6) + p2)) x3_1 := ⟨_, rfl⟩
        have hf := cx_let_at hf ea5
        refine cx_iast (ws' := (wd_Ways k w_a b_a s_a w_detail w_skipped w_early w_late w_firstOnly w_firstYear w_years w_place w_before w_closing w_likes w_likeSums a5 w_products w_weights w_subtotals w_way ++ (wd_Box k b_a b_c0 b_z0 b_c1 b_z1 b_c2 b_z2 b_c3 b_z3 b_c4 b_z4 b_sg ++ (wd_Sums k s_a s_np s_total s_shares s_pairs s_crowds s_bestWay s_bestWeight s_answer s_mine s_theirs s_people s_heads)))) C dX7_planNamings_103 8 rfl (cx_ib_in g4) (by rw [ea5]; rfl) ?_
        clear ea5 g4
        obtain rfl := Option.some.inj hf
        exact cx_vret C hA hQ hr hlk dX7_planNamings_104 rfl
      · have hf := cx_if_f hf c3
        clear c3
        refine cx_iload C dX7_planNamings_20 4 rfl ?_
        refine cx_aload_n C dX7_planNamings_22 0 rfl ?_
        refine cx_get (v := .int w_skipped) (ci := 6) C iX7 dX7_planNamings_23 0 rfl rfl 3 (by decide) hw_201 rfl ?_
        refine cx_icmp_eq (tgt := 86) C dX7_planNamings_26 (by decide) (fun c6 => ?_) (fun c6 => ?_)
        · have hf := cx_if_t hf c6
          clear c6
          exact J86 x3_1 hf
        · have hf := cx_if_f hf c6
          clear c6
          refine cx_aload_n C dX7_planNamings_29 0 rfl ?_
          refine cx_get (v := .ref (b_a 0)) (ci := 6) C iX7 dX7_planNamings_30 0 rfl rfl 1 (by decide) hw_199 rfl ?_
          refine cx_get (v := .ref (b_a 7)) (ci := 1) C iX1 dX7_planNamings_33 13 rfl rfl 3 (by decide) hw_72 rfl ?_
          refine cx_iload C dX7_planNamings_36 4 rfl ?_
          refine cx_iconst (v := 1) C dX7_planNamings_38 (by decide) ?_
          obtain ⟨u8, e9, hf⟩ := cx_bd_at hf
          refine cx_Kvi (q := (RX4, TX4, 4)) (As := [.int x4_2, .int 1]) (rest := []) hA C me_X4_at hw_630 (c_X4_at l D k (b_a 7) (b_a 8) 4 4 16 b_c3 b_z3 x4_2 1 u8 e9) dX7_planNamings_39 ⟨Nat.le_of_ble_eq_true rfl, Nat.le_of_ble_eq_true rfl⟩ ⟨Nat.zero_le _, Nat.zero_le _⟩ rfl rfl (Nat.le_of_ble_eq_true rfl) rfl rfl [20, 21] rfl (by decide) ?_
          clear e9
          refine cx_iload_n C dX7_planNamings_42 1 rfl ?_
          refine cx_icmp_ne (tgt := 86) C dX7_planNamings_43 (by decide) (fun c10 => ?_) (fun c10 => ?_)
          · have hf := cx_if_f hf c10
            clear c10
            exact J86 x3_1 hf
          · have hf := cx_if_t hf c10
            clear c10
            refine cx_iload_n C dX7_planNamings_46 3 rfl ?_
            refine cx_aload_n C dX7_planNamings_47 0 rfl ?_
            refine cx_get (v := .ref (b_a 0)) (ci := 6) C iX7 dX7_planNamings_48 0 rfl rfl 1 (by decide) hw_199 rfl ?_
            refine cx_iload C dX7_planNamings_51 4 rfl ?_
            refine cx_iload_n C dX7_planNamings_53 2 rfl ?_
            obtain ⟨u11, e12, hf⟩ := cx_bd_at hf
            refine cx_Kvi (q := (RX1, TX1, 6)) (As := [.int x4_2, .int p2]) (rest := [.int x3_1]) hA C me_X1_isSo hw_664 (c_X1_isSo l D k b_a b_c0 b_z0 b_c1 b_z1 b_c2 b_z2 b_c3 b_z3 b_c4 b_z4 b_sg x4_2 p2 u11 e12) dX7_planNamings_54 ⟨Nat.le_of_ble_eq_true rfl, Nat.le_of_ble_eq_true rfl⟩ ⟨Nat.zero_le _, Nat.zero_le _⟩ rfl rfl (Nat.le_of_ble_eq_true rfl) rfl rfl [13, 14, 15, 16, 17, 18, 19, 20, 21, 22, 23] rfl (by decide) ?_
            clear e12
            refine cx_if_eq (tgt := 72) C dX7_planNamings_57 (by decide) (fun c13 => ?_) (fun c13 => ?_)
            · have hf := cx_if_t hf c13
              clear c13
              refine cx_bipush (v := 10) C dX7_planNamings_72 (by decide) ?_
              refine cx_aload_n C dX7_planNamings_74 0 rfl ?_
              refine cx_get (v := .ref (b_a 0)) (ci := 6) C iX7 dX7_planNamings_75 0 rfl rfl 1 (by decide) hw_199 rfl ?_
              refine cx_iload C dX7_planNamings_78 4 rfl ?_
              obtain ⟨u14, e15, hf⟩ := cx_bd_at hf
              refine cx_Kvi (q := (RX1, TX1, 6)) (As := [.int x4_2]) (rest := [.int 10, .int x3_1]) hA C me_X1_truthOf hw_668 (c_X1_truthOf l D k b_a b_c0 b_z0 b_c1 b_z1 b_c2 b_z2 b_c3 b_z3 b_c4 b_z4 b_sg x4_2 u14 e15) dX7_planNamings_80 ⟨Nat.le_of_ble_eq_true rfl, Nat.le_of_ble_eq_true rfl⟩ ⟨Nat.zero_le _, Nat.zero_le _⟩ rfl rfl (Nat.le_of_ble_eq_true rfl) rfl rfl [13, 14, 15, 16, 17, 18, 19, 20, 21, 22, 23] rfl (by decide) ?_
              clear e15
              refine cx_isub C dX7_planNamings_83 ?_
              refine cx_lv [0, 1, 2, 4] rfl ?_
              exact J84 (10 - u14) hf
            · have hf := cx_if_f hf c13
              clear c13
              refine cx_aload_n C dX7_planNamings_60 0 rfl ?_
              refine cx_get (v := .ref (b_a 0)) (ci := 6) C iX7 dX7_planNamings_61 0 rfl rfl 1 (by decide) hw_199 rfl ?_
              refine cx_iload C dX7_planNamings_64 4 rfl ?_
              obtain ⟨u17, e18, hf⟩ := cx_bd_at hf
              refine cx_Kvi (q := (RX1, TX1, 6)) (As := [.int x4_2]) (rest := [.int x3_1]) hA C me_X1_truthOf hw_668 (c_X1_truthOf l D k b_a b_c0 b_z0 b_c1 b_z1 b_c2 b_z2 b_c3 b_z3 b_c4 b_z4 b_sg x4_2 u17 e18) dX7_planNamings_66 ⟨Nat.le_of_ble_eq_true rfl, Nat.le_of_ble_eq_true rfl⟩ ⟨Nat.zero_le _, Nat.zero_le _⟩ rfl rfl (Nat.le_of_ble_eq_true rfl) rfl rfl [13, 14, 15, 16, 17, 18, 19, 20, 21, 22, 23] rfl (by decide) ?_
              clear e18
              refine cx_goto (tgt := 84) C dX7_planNamings_69 (by decide) ?_
              refine cx_lv [0, 1, 2, 4] rfl ?_
              exact J84 u17 hf
  unfold f_X7_planNamings at hf
  refine cx_iconst (v := 1) C dX7_planNamings_0 (by decide) ?_
  refine cx_istore_n (lv' := [(3, .int 1), (0, .ref (w_a 0)), (1, .int p1), (2, .int p2)]) C dX7_planNamings_1 rfl (by decide) rfl ?_
  refine cx_iconst (v := 0) C dX7_planNamings_2 (by decide) ?_
  refine cx_istore (lv' := [(4, .int 0), (3, .int 1), (0, .ref (w_a 0)), (1, .int p1), (2, .int p2)]) C dX7_planNamings_3 (by decide) rfl ?_
  refine cx_lv [2, 3, 4, 1, 0] rfl ?_
  exact L5 cx_N0 1 0 hf
theorem dX7_yearsInOrder_0 : decode cX7_yearsInOrder 0 = .ok (.lconst 0, 1) := by decide +kernel
theorem dX7_yearsInOrder_1 : decode cX7_yearsInOrder 1 = .ok (.lstore_n 1, 1) := by decide +kernel
theorem dX7_yearsInOrder_2 : decode cX7_yearsInOrder 2 = .ok (.lconst 0, 1) := by decide +kernel
theorem dX7_yearsInOrder_3 : decode cX7_yearsInOrder 3 = .ok (.lstore_n 3, 1) := by decide +kernel
theorem dX7_yearsInOrder_4 : decode cX7_yearsInOrder 4 = .ok (.iconst 0, 1) := by decide +kernel
theorem dX7_yearsInOrder_5 : decode cX7_yearsInOrder 5 = .ok (.istore 5, 2) := by decide +kernel
theorem dX7_yearsInOrder_7 : decode cX7_yearsInOrder 7 = .ok (.iconst 0, 1) := by decide +kernel
theorem dX7_yearsInOrder_8 : decode cX7_yearsInOrder 8 = .ok (.istore 6, 2) := by decide +kernel
theorem dX7_yearsInOrder_10 : decode cX7_yearsInOrder 10 = .ok (.iload 6, 2) := by decide +kernel
theorem dX7_yearsInOrder_12 : decode cX7_yearsInOrder 12 = .ok (.aload_n 0, 1) := by decide +kernel
theorem dX7_yearsInOrder_13 : decode cX7_yearsInOrder 13 = .ok (.getfield 32, 3) := by decide +kernel
theorem dX7_yearsInOrder_16 : decode cX7_yearsInOrder 16 = .ok (.aload_n 0, 1) := by decide +kernel
theorem dX7_yearsInOrder_17 : decode cX7_yearsInOrder 17 = .ok (.getfield 21, 3) := by decide +kernel
theorem dX7_yearsInOrder_20 : decode cX7_yearsInOrder 20 = .ok (.iaload, 1) := by decide +kernel
theorem dX7_yearsInOrder_21 : decode cX7_yearsInOrder 21 = .ok (.if_icmp .ge 108, 3) := by decide +kernel
theorem dX7_yearsInOrder_24 : decode cX7_yearsInOrder 24 = .ok (.aload_n 0, 1) := by decide +kernel
theorem dX7_yearsInOrder_25 : decode cX7_yearsInOrder 25 = .ok (.getfield 28, 3) := by decide +kernel
theorem dX7_yearsInOrder_28 : decode cX7_yearsInOrder 28 = .ok (.aload_n 0, 1) := by decide +kernel
theorem dX7_yearsInOrder_29 : decode cX7_yearsInOrder 29 = .ok (.getfield 21, 3) := by decide +kernel
theorem dX7_yearsInOrder_32 : decode cX7_yearsInOrder 32 = .ok (.iaload, 1) := by decide +kernel
theorem dX7_yearsInOrder_33 : decode cX7_yearsInOrder 33 = .ok (.iload 6, 2) := by decide +kernel
theorem dX7_yearsInOrder_35 : decode cX7_yearsInOrder 35 = .ok (.iadd, 1) := by decide +kernel
theorem dX7_yearsInOrder_36 : decode cX7_yearsInOrder 36 = .ok (.istore 7, 2) := by decide +kernel
theorem dX7_yearsInOrder_38 : decode cX7_yearsInOrder 38 = .ok (.iload 5, 2) := by decide +kernel
theorem dX7_yearsInOrder_40 : decode cX7_yearsInOrder 40 = .ok (.aload_n 0, 1) := by decide +kernel
theorem dX7_yearsInOrder_41 : decode cX7_yearsInOrder 41 = .ok (.getfield 32, 3) := by decide +kernel
theorem dX7_yearsInOrder_44 : decode cX7_yearsInOrder 44 = .ok (.aload_n 0, 1) := by decide +kernel
theorem dX7_yearsInOrder_45 : decode cX7_yearsInOrder 45 = .ok (.getfield 18, 3) := by decide +kernel
theorem dX7_yearsInOrder_48 : decode cX7_yearsInOrder 48 = .ok (.iaload, 1) := by decide +kernel
theorem dX7_yearsInOrder_49 : decode cX7_yearsInOrder 49 = .ok (.if_icmp .ge 49, 3) := by decide +kernel
theorem dX7_yearsInOrder_52 : decode cX7_yearsInOrder 52 = .ok (.aload_n 0, 1) := by decide +kernel
theorem dX7_yearsInOrder_53 : decode cX7_yearsInOrder 53 = .ok (.getfield 28, 3) := by decide +kernel
theorem dX7_yearsInOrder_56 : decode cX7_yearsInOrder 56 = .ok (.aload_n 0, 1) := by decide +kernel
theorem dX7_yearsInOrder_57 : decode cX7_yearsInOrder 57 = .ok (.getfield 18, 3) := by decide +kernel
theorem dX7_yearsInOrder_60 : decode cX7_yearsInOrder 60 = .ok (.iaload, 1) := by decide +kernel
theorem dX7_yearsInOrder_61 : decode cX7_yearsInOrder 61 = .ok (.iload 5, 2) := by decide +kernel
theorem dX7_yearsInOrder_63 : decode cX7_yearsInOrder 63 = .ok (.iadd, 1) := by decide +kernel
theorem dX7_yearsInOrder_64 : decode cX7_yearsInOrder 64 = .ok (.iload 7, 2) := by decide +kernel
theorem dX7_yearsInOrder_66 : decode cX7_yearsInOrder 66 = .ok (.if_icmp .ge 32, 3) := by decide +kernel
theorem dX7_yearsInOrder_69 : decode cX7_yearsInOrder 69 = .ok (.lload_n 3, 1) := by decide +kernel
theorem dX7_yearsInOrder_70 : decode cX7_yearsInOrder 70 = .ok (.aload_n 0, 1) := by decide +kernel
theorem dX7_yearsInOrder_71 : decode cX7_yearsInOrder 71 = .ok (.getfield 53, 3) := by decide +kernel
theorem dX7_yearsInOrder_74 : decode cX7_yearsInOrder 74 = .ok (.aload_n 0, 1) := by decide +kernel
theorem dX7_yearsInOrder_75 : decode cX7_yearsInOrder 75 = .ok (.getfield 41, 3) := by decide +kernel
theorem dX7_yearsInOrder_78 : decode cX7_yearsInOrder 78 = .ok (.aload_n 0, 1) := by decide +kernel
theorem dX7_yearsInOrder_79 : decode cX7_yearsInOrder 79 = .ok (.getfield 18, 3) := by decide +kernel
theorem dX7_yearsInOrder_82 : decode cX7_yearsInOrder 82 = .ok (.iaload, 1) := by decide +kernel
theorem dX7_yearsInOrder_83 : decode cX7_yearsInOrder 83 = .ok (.bipush 12, 2) := by decide +kernel
theorem dX7_yearsInOrder_85 : decode cX7_yearsInOrder 85 = .ok (.imul, 1) := by decide +kernel
theorem dX7_yearsInOrder_86 : decode cX7_yearsInOrder 86 = .ok (.iload 5, 2) := by decide +kernel
theorem dX7_yearsInOrder_88 : decode cX7_yearsInOrder 88 = .ok (.iadd, 1) := by decide +kernel
theorem dX7_yearsInOrder_89 : decode cX7_yearsInOrder 89 = .ok (.laload, 1) := by decide +kernel
theorem dX7_yearsInOrder_90 : decode cX7_yearsInOrder 90 = .ok (.ladd, 1) := by decide +kernel
theorem dX7_yearsInOrder_91 : decode cX7_yearsInOrder 91 = .ok (.lstore_n 3, 1) := by decide +kernel
theorem dX7_yearsInOrder_92 : decode cX7_yearsInOrder 92 = .ok (.iinc 5 1, 3) := by decide +kernel
theorem dX7_yearsInOrder_95 : decode cX7_yearsInOrder 95 = .ok (.goto (-57), 3) := by decide +kernel
theorem dX7_yearsInOrder_98 : decode cX7_yearsInOrder 98 = .ok (.lload_n 1, 1) := by decide +kernel
theorem dX7_yearsInOrder_99 : decode cX7_yearsInOrder 99 = .ok (.lload_n 3, 1) := by decide +kernel
theorem dX7_yearsInOrder_100 : decode cX7_yearsInOrder 100 = .ok (.aload_n 0, 1) := by decide +kernel
theorem dX7_yearsInOrder_101 : decode cX7_yearsInOrder 101 = .ok (.getfield 53, 3) := by decide +kernel
theorem dX7_yearsInOrder_104 : decode cX7_yearsInOrder 104 = .ok (.aload_n 0, 1) := by decide +kernel
theorem dX7_yearsInOrder_105 : decode cX7_yearsInOrder 105 = .ok (.getfield 41, 3) := by decide +kernel
theorem dX7_yearsInOrder_108 : decode cX7_yearsInOrder 108 = .ok (.aload_n 0, 1) := by decide +kernel
theorem dX7_yearsInOrder_109 : decode cX7_yearsInOrder 109 = .ok (.getfield 21, 3) := by decide +kernel
theorem dX7_yearsInOrder_112 : decode cX7_yearsInOrder 112 = .ok (.iaload, 1) := by decide +kernel
theorem dX7_yearsInOrder_113 : decode cX7_yearsInOrder 113 = .ok (.bipush 12, 2) := by decide +kernel
theorem dX7_yearsInOrder_115 : decode cX7_yearsInOrder 115 = .ok (.imul, 1) := by decide +kernel
theorem dX7_yearsInOrder_116 : decode cX7_yearsInOrder 116 = .ok (.iload 6, 2) := by decide +kernel
theorem dX7_yearsInOrder_118 : decode cX7_yearsInOrder 118 = .ok (.iadd, 1) := by decide +kernel
theorem dX7_yearsInOrder_119 : decode cX7_yearsInOrder 119 = .ok (.laload, 1) := by decide +kernel
theorem dX7_yearsInOrder_120 : decode cX7_yearsInOrder 120 = .ok (.lmul, 1) := by decide +kernel
theorem dX7_yearsInOrder_121 : decode cX7_yearsInOrder 121 = .ok (.ladd, 1) := by decide +kernel
theorem dX7_yearsInOrder_122 : decode cX7_yearsInOrder 122 = .ok (.lstore_n 1, 1) := by decide +kernel
theorem dX7_yearsInOrder_123 : decode cX7_yearsInOrder 123 = .ok (.iinc 6 1, 3) := by decide +kernel
theorem dX7_yearsInOrder_126 : decode cX7_yearsInOrder 126 = .ok (.goto (-116), 3) := by decide +kernel
theorem dX7_yearsInOrder_129 : decode cX7_yearsInOrder 129 = .ok (.lload_n 1, 1) := by decide +kernel
theorem dX7_yearsInOrder_130 : decode cX7_yearsInOrder 130 = .ok (.lreturn, 1) := by decide +kernel
theorem me_X7_yearsInOrder : cx_Mv yX7_yearsInOrder cX7_yearsInOrder 8 (some .long) 0 := ⟨⟨⟨by decide +kernel, by decide +kernel, by decide +kernel⟩, hw_7, hw_684⟩, hw_683, hs_15⟩
noncomputable def f_X7_yearsInOrder_J98 (w_late : Int32) (w_closing : Nat → Int32) (w_products : Nat → Int64) (x1_1 : Int64) (x6_4 : Int32) (rc10 : Int64 → Int64 → Int32 → Int32 → Option Int64) (x3_14 : Int64) (x5_15 : Int32) : Option Int64 := cx_gd (cx_ib w_late 4) (cx_gd (cx_ib (((w_closing (cx_ix w_late)) * 12) + x6_4) 84) (cx_let (x1_1 + (x3_14 * (w_products (cx_ix (((w_closing (cx_ix w_late)) * 12) + x6_4))))) (fun v18 => rc10 v18 x3_14 x5_15 (x6_4 + 1))))
noncomputable def f_X7_yearsInOrder_L38 (w_early : Int32) (w_late : Int32) (w_firstYear : Nat → Int32) (w_years : Nat → Int32) (w_closing : Nat → Int32) (w_products : Nat → Int64) (x1_1 : Int64) (x6_4 : Int32) (rc10 : Int64 → Int64 → Int32 → Int32 → Option Int64) (x7_11 : Int32) (rc38 : Int64 → Int32 → Option Int64) (x3_9 : Int64) (x5_10 : Int32) : Option Int64 := cx_gd (cx_ib w_early 4) (if (w_years (cx_ix w_early)) ≤ x5_10 then (f_X7_yearsInOrder_J98 w_late w_closing w_products x1_1 x6_4 rc10 x3_9 x5_10) else (cx_gd (cx_ib w_early 4) (if x7_11 ≤ ((w_firstYear (cx_ix w_early)) + x5_10) then (f_X7_yearsInOrder_J98 w_late w_closing w_products x1_1 x6_4 rc10 x3_9 x5_10) else (cx_gd (cx_ib w_early 4) (cx_gd (cx_ib (((w_closing (cx_ix w_early)) * 12) + x5_10) 84) (cx_let (x3_9 + (w_products (cx_ix (((w_closing (cx_ix w_early)) * 12) + x5_10)))) (fun v23 => rc38 v23 (x5_10 + 1))))))))
noncomputable def f_X7_yearsInOrder_L38w (w_early : Int32) (w_late : Int32) (w_firstYear : Nat → Int32) (w_years : Nat → Int32) (w_closing : Nat → Int32) (w_products : Nat → Int64) (x1_1 : Int64) (x6_4 : Int32) (rc10 : Int64 → Int64 → Int32 → Int32 → Option Int64) (x7_11 : Int32) (n : Nat) : Int64 → Int32 → Option Int64 := Nat.rec (fun _ _ => none) (fun _ r => f_X7_yearsInOrder_L38 w_early w_late w_firstYear w_years w_closing w_products x1_1 x6_4 rc10 x7_11 r) n
noncomputable def f_X7_yearsInOrder_L10 (w_early : Int32) (w_late : Int32) (w_firstYear : Nat → Int32) (w_years : Nat → Int32) (w_closing : Nat → Int32) (w_products : Nat → Int64) (rc10 : Int64 → Int64 → Int32 → Int32 → Option Int64) (x1_1 : Int64) (x3_2 : Int64) (x5_3 : Int32) (x6_4 : Int32) : Option Int64 := cx_gd (cx_ib w_late 4) (if (w_years (cx_ix w_late)) ≤ x6_4 then (some x1_1) else (cx_gd (cx_ib w_late 4) (cx_let ((w_firstYear (cx_ix w_late)) + x6_4) (fun v8 => f_X7_yearsInOrder_L38w w_early w_late w_firstYear w_years w_closing w_products x1_1 x6_4 rc10 v8 cx_N0 x3_2 x5_3))))
noncomputable def f_X7_yearsInOrder_L10w (w_early : Int32) (w_late : Int32) (w_firstYear : Nat → Int32) (w_years : Nat → Int32) (w_closing : Nat → Int32) (w_products : Nat → Int64) (n : Nat) : Int64 → Int64 → Int32 → Int32 → Option Int64 := Nat.rec (fun _ _ _ _ => none) (fun _ r => f_X7_yearsInOrder_L10 w_early w_late w_firstYear w_years w_closing w_products r) n
noncomputable def f_X7_yearsInOrder (w_early : Int32) (w_late : Int32) (w_firstYear : Nat → Int32) (w_years : Nat → Int32) (w_closing : Nat → Int32) (w_products : Nat → Int64) : Option Int64 := f_X7_yearsInOrder_L10w w_early w_late w_firstYear w_years w_closing w_products cx_N0 0 0 0 0
set_option maxHeartbeats 4000000 in
set_option maxRecDepth 100000 in
theorem c_X7_yearsInOrder (l : Launch) (D : va_G) (k : Nat → ClassId) (w_a : Nat → Nat) (b_a : Nat → Nat) (s_a : Nat → Nat) (w_detail : Int32) (w_skipped : Int32) (w_early : Int32) (w_late : Int32) (w_firstOnly : Int32) (w_firstYear : Nat → Int32) (w_years : Nat → Int32) (w_place : Nat → Int32) (w_before : Nat → Int32) (w_closing : Nat → Int32) (w_likes : Nat → Int32) (w_likeSums : Nat → Int32) (w_namings : Nat → Int32) (w_products : Nat → Int64) (w_weights : Nat → Int64) (w_subtotals : Nat → Int64) (w_way : Nat → Int32) (b_c0 : Nat → Int32) (b_z0 : Int32) (b_c1 : Nat → Int32) (b_z1 : Int32) (b_c2 : Nat → Int32) (b_z2 : Int32) (b_c3 : Nat → Int32) (b_z3 : Int32) (b_c4 : Nat → Int32) (b_z4 : Int32) (b_sg : Int32) (s_np : Nat) (s_total : Nat → Int64) (s_shares : Nat → Int64) (s_pairs : Nat → Int64) (s_crowds : Nat → Int64) (s_bestWay : Nat → Int32) (s_bestWeight : Nat → Int64) (s_answer : Nat → Int64) (s_mine : Nat → Int64) (s_theirs : Nat → Int64) (s_people : Int32) (s_heads : Int32) (y : Int64) (hf : f_X7_yearsInOrder w_early w_late w_firstYear w_years w_closing w_products = some y) : cx_M l yX7_yearsInOrder cX7_yearsInOrder 8 (some .long) 1 D k [.ref (w_a 0)] (wd_Ways k w_a b_a s_a w_detail w_skipped w_early w_late w_firstOnly w_firstYear w_years w_place w_before w_closing w_likes w_likeSums w_namings w_products w_weights w_subtotals w_way ++ (wd_Box k b_a b_c0 b_z0 b_c1 b_z1 b_c2 b_z2 b_c3 b_z3 b_c4 b_z4 b_sg ++ (wd_Sums k s_a s_np s_total s_shares s_pairs s_crowds s_bestWay s_bestWeight s_answer s_mine s_theirs s_people s_heads))) (fun sz => cx_Ql D y (wd_Ways k w_a b_a s_a w_detail w_skipped w_early w_late w_firstOnly w_firstYear w_years w_place w_before w_closing w_likes w_likeSums w_namings w_products w_weights w_subtotals w_way ++ (wd_Box k b_a b_c0 b_z0 b_c1 b_z1 b_c2 b_z2 b_c3 b_z3 b_c4 b_z4 b_sg ++ (wd_Sums k s_a s_np s_total s_shares s_pairs s_crowds s_bestWay s_bestWeight s_answer s_mine s_theirs s_people s_heads))) (wd_Ways k w_a b_a s_a w_detail w_skipped w_early w_late w_firstOnly w_firstYear w_years w_place w_before w_closing w_likes w_likeSums w_namings w_products w_weights w_subtotals w_way ++ (wd_Box k b_a b_c0 b_z0 b_c1 b_z1 b_c2 b_z2 b_c3 b_z3 b_c4 b_z4 b_sg ++ (wd_Sums k s_a s_np s_total s_shares s_pairs s_crowds s_bestWay s_bestWeight s_answer s_mine s_theirs s_people s_heads))) sz) := by
  refine cx_met (own := "NamelessBox$Ways") (by decide) rfl (Nat.le_of_ble_eq_true rfl) ?_
  intro p e s m args below meth c A Q C hA hQ hr hlk
  refine cx_lv (lv' := [(0, .ref (w_a 0))]) [0] rfl ?_
  have L10 : ∀ (n10 : Nat) (x1_1 : Int64) (x3_2 : Int64) (x5_3 : Int32) (x6_4 : Int32), f_X7_yearsInOrder_L10w w_early w_late w_firstYear w_years w_closing w_products n10 x1_1 x3_2 x5_3 x6_4 = some y → cx_S p l e (cx_rm 1) s m args below meth c A D 8 0 0 Q 10 [(0, .ref (w_a 0)), (1, .long x1_1), (3, .long x3_2), (5, .int x5_3), (6, .int x6_4)] [] (wd_Ways k w_a b_a s_a w_detail w_skipped w_early w_late w_firstOnly w_firstYear w_years w_place w_before w_closing w_likes w_likeSums w_namings w_products w_weights w_subtotals w_way ++ (wd_Box k b_a b_c0 b_z0 b_c1 b_z1 b_c2 b_z2 b_c3 b_z3 b_c4 b_z4 b_sg ++ (wd_Sums k s_a s_np s_total s_shares s_pairs s_crowds s_bestWay s_bestWeight s_answer s_mine s_theirs s_people s_heads))) := by
    intro  n10
    induction n10 with
    | zero =>
      intro x1_1 x3_2 x5_3 x6_4 hf
      exact absurd (show (none : Option Int64) = some y from hf) (fun h => by cases h)
    | succ n10 ih10 =>
      intro x1_1 x3_2 x5_3 x6_4 hf
      have hf : f_X7_yearsInOrder_L10 w_early w_late w_firstYear w_years w_closing w_products (f_X7_yearsInOrder_L10w w_early w_late w_firstYear w_years w_closing w_products n10) x1_1 x3_2 x5_3 x6_4 = some y := hf
      have J98 : ∀ (x3_14 : Int64) (x5_15 : Int32), f_X7_yearsInOrder_J98 w_late w_closing w_products x1_1 x6_4 (f_X7_yearsInOrder_L10w w_early w_late w_firstYear w_years w_closing w_products n10) x3_14 x5_15 = some y → cx_S p l e (cx_rm 1) s m args below meth c A D 8 0 0 Q 98 [(0, .ref (w_a 0)), (1, .long x1_1), (3, .long x3_14), (5, .int x5_15), (6, .int x6_4)] [] (wd_Ways k w_a b_a s_a w_detail w_skipped w_early w_late w_firstOnly w_firstYear w_years w_place w_before w_closing w_likes w_likeSums w_namings w_products w_weights w_subtotals w_way ++ (wd_Box k b_a b_c0 b_z0 b_c1 b_z1 b_c2 b_z2 b_c3 b_z3 b_c4 b_z4 b_sg ++ (wd_Sums k s_a s_np s_total s_shares s_pairs s_crowds s_bestWay s_bestWeight s_answer s_mine s_theirs s_people s_heads))) := by
        intro x3_14 x5_15 hf
        unfold f_X7_yearsInOrder_J98 at hf
        refine cx_lload_n C dX7_yearsInOrder_98 1 rfl ?_
        refine cx_lload_n C dX7_yearsInOrder_99 2 rfl ?_
        refine cx_aload_n C dX7_yearsInOrder_100 0 rfl ?_
        refine cx_get (v := .ref (w_a 9)) (ci := 6) C iX7 dX7_yearsInOrder_101 0 rfl rfl 15 (by decide) hw_213 rfl ?_
        refine cx_aload_n C dX7_yearsInOrder_104 0 rfl ?_
        refine cx_get (v := .ref (w_a 5)) (ci := 6) C iX7 dX7_yearsInOrder_105 0 rfl rfl 11 (by decide) hw_209 rfl ?_
        refine cx_aload_n C dX7_yearsInOrder_108 0 rfl ?_
        refine cx_get (v := .int w_late) (ci := 6) C iX7 dX7_yearsInOrder_109 0 rfl rfl 5 (by decide) hw_203 rfl ?_
        obtain ⟨g16, hf⟩ := cx_gd_at hf
        refine cx_iald C dX7_yearsInOrder_112 5 rfl (cx_ib_in g16) ?_
        clear g16
        refine cx_bipush (v := 12) C dX7_yearsInOrder_113 (by decide) ?_
        refine cx_imul C dX7_yearsInOrder_115 ?_
        refine cx_iload C dX7_yearsInOrder_116 4 rfl ?_
        refine cx_iadd C dX7_yearsInOrder_118 ?_
        obtain ⟨g17, hf⟩ := cx_gd_at hf
        refine cx_lald C dX7_yearsInOrder_119 9 rfl (cx_ib_in g17) ?_
        clear g17
        refine cx_lmul C dX7_yearsInOrder_120 ?_
        refine cx_ladd C dX7_yearsInOrder_121 ?_
        refine cx_topl (fun v18 ev18 => ?_)
        have hf := cx_let_at hf ev18
        clear ev18
        refine cx_lstore_n (lv' := [(1, .long v18), (0, .ref (w_a 0)), (3, .long x3_14), (5, .int x5_15), (6, .int x6_4)]) C dX7_yearsInOrder_122 rfl (by decide) rfl ?_
        refine cx_iinc (v := x6_4 + 1) (lv' := [(6, .int (x6_4 + 1)), (1, .long v18), (0, .ref (w_a 0)), (3, .long x3_14), (5, .int x5_15)]) C dX7_yearsInOrder_123 4 rfl rfl (by decide) rfl ?_
        refine cx_goto (tgt := 10) C dX7_yearsInOrder_126 (by decide) ?_
        refine cx_lv [2, 1, 3, 4, 0] rfl ?_
        exact ih10 v18 x3_14 x5_15 (x6_4 + 1) hf
      have L38 : ∀ (x7_11 : Int32) (n38 : Nat) (x3_9 : Int64) (x5_10 : Int32), f_X7_yearsInOrder_L38w w_early w_late w_firstYear w_years w_closing w_products x1_1 x6_4 (f_X7_yearsInOrder_L10w w_early w_late w_firstYear w_years w_closing w_products n10) x7_11 n38 x3_9 x5_10 = some y → cx_S p l e (cx_rm 1) s m args below meth c A D 8 0 0 Q 38 [(0, .ref (w_a 0)), (1, .long x1_1), (3, .long x3_9), (5, .int x5_10), (6, .int x6_4), (7, .int x7_11)] [] (wd_Ways k w_a b_a s_a w_detail w_skipped w_early w_late w_firstOnly w_firstYear w_years w_place w_before w_closing w_likes w_likeSums w_namings w_products w_weights w_subtotals w_way ++ (wd_Box k b_a b_c0 b_z0 b_c1 b_z1 b_c2 b_z2 b_c3 b_z3 b_c4 b_z4 b_sg ++ (wd_Sums k s_a s_np s_total s_shares s_pairs s_crowds s_bestWay s_bestWeight s_answer s_mine s_theirs s_people s_heads))) := by
        intro x7_11 n38
        induction n38 with
        | zero =>
          intro x3_9 x5_10 hf
          exact absurd (show (none : Option Int64) = some y from hf) (fun h => by cases h)
        | succ n38 ih38 =>
          intro x3_9 x5_10 hf
          have hf : f_X7_yearsInOrder_L38 w_early w_late w_firstYear w_years w_closing w_products x1_1 x6_4 (f_X7_yearsInOrder_L10w w_early w_late w_firstYear w_years w_closing w_products n10) x7_11 (f_X7_yearsInOrder_L38w w_early w_late w_firstYear w_years w_closing w_products x1_1 x6_4 (f_X7_yearsInOrder_L10w w_early w_late w_firstYear w_years w_closing w_products n10) x7_11 n38) x3_9 x5_10 = some y := hf
          unfold f_X7_yearsInOrder_L38 at hf
          refine cx_iload C dX7_yearsInOrder_38 3 rfl ?_
          refine cx_aload_n C dX7_yearsInOrder_40 0 rfl ?_
          refine cx_get (v := .ref (w_a 2)) (ci := 6) C iX7 dX7_yearsInOrder_41 0 rfl rfl 8 (by decide) hw_206 rfl ?_
          refine cx_aload_n C dX7_yearsInOrder_44 0 rfl ?_
          refine cx_get (v := .int w_early) (ci := 6) C iX7 dX7_yearsInOrder_45 0 rfl rfl 4 (by decide) hw_202 rfl ?_
          obtain ⟨g12, hf⟩ := cx_gd_at hf
          refine cx_iald C dX7_yearsInOrder_48 2 rfl (cx_ib_in g12) ?_
          clear g12
          refine cx_icmp_ge (tgt := 98) C dX7_yearsInOrder_49 (by decide) (fun c13 => ?_) (fun c13 => ?_)
          · have hf := cx_if_t hf c13
            clear c13
            refine cx_lv [0, 1, 2, 3, 4] rfl ?_
            exact J98 x3_9 x5_10 hf
          · have hf := cx_if_f hf c13
            clear c13
            refine cx_aload_n C dX7_yearsInOrder_52 0 rfl ?_
            refine cx_get (v := .ref (w_a 1)) (ci := 6) C iX7 dX7_yearsInOrder_53 0 rfl rfl 7 (by decide) hw_205 rfl ?_
            refine cx_aload_n C dX7_yearsInOrder_56 0 rfl ?_
            refine cx_get (v := .int w_early) (ci := 6) C iX7 dX7_yearsInOrder_57 0 rfl rfl 4 (by decide) hw_202 rfl ?_
            obtain ⟨g19, hf⟩ := cx_gd_at hf
            refine cx_iald C dX7_yearsInOrder_60 1 rfl (cx_ib_in g19) ?_
            clear g19
            refine cx_iload C dX7_yearsInOrder_61 3 rfl ?_
            refine cx_iadd C dX7_yearsInOrder_63 ?_
            refine cx_iload C dX7_yearsInOrder_64 5 rfl ?_
            refine cx_icmp_ge (tgt := 98) C dX7_yearsInOrder_66 (by decide) (fun c20 => ?_) (fun c20 => ?_)
            · have hf := cx_if_t hf c20
              clear c20
              refine cx_lv [0, 1, 2, 3, 4] rfl ?_
              exact J98 x3_9 x5_10 hf
            · have hf := cx_if_f hf c20
              clear c20
              refine cx_lload_n C dX7_yearsInOrder_69 2 rfl ?_
              refine cx_aload_n C dX7_yearsInOrder_70 0 rfl ?_
              refine cx_get (v := .ref (w_a 9)) (ci := 6) C iX7 dX7_yearsInOrder_71 0 rfl rfl 15 (by decide) hw_213 rfl ?_
              refine cx_aload_n C dX7_yearsInOrder_74 0 rfl ?_
              refine cx_get (v := .ref (w_a 5)) (ci := 6) C iX7 dX7_yearsInOrder_75 0 rfl rfl 11 (by decide) hw_209 rfl ?_
              refine cx_aload_n C dX7_yearsInOrder_78 0 rfl ?_
              refine cx_get (v := .int w_early) (ci := 6) C iX7 dX7_yearsInOrder_79 0 rfl rfl 4 (by decide) hw_202 rfl ?_
              obtain ⟨g21, hf⟩ := cx_gd_at hf
              refine cx_iald C dX7_yearsInOrder_82 5 rfl (cx_ib_in g21) ?_
              clear g21
              refine cx_bipush (v := 12) C dX7_yearsInOrder_83 (by decide) ?_
              refine cx_imul C dX7_yearsInOrder_85 ?_
              refine cx_iload C dX7_yearsInOrder_86 3 rfl ?_
              refine cx_iadd C dX7_yearsInOrder_88 ?_
              obtain ⟨g22, hf⟩ := cx_gd_at hf
              refine cx_lald C dX7_yearsInOrder_89 9 rfl (cx_ib_in g22) ?_
              clear g22
              refine cx_ladd C dX7_yearsInOrder_90 ?_
              refine cx_topl (fun v23 ev23 => ?_)
              have hf := cx_let_at hf ev23
              clear ev23
              refine cx_lstore_n (lv' := [(3, .long v23), (0, .ref (w_a 0)), (1, .long x1_1), (5, .int x5_10), (6, .int x6_4), (7, .int x7_11)]) C dX7_yearsInOrder_91 rfl (by decide) rfl ?_
              refine cx_iinc (v := x5_10 + 1) (lv' := [(5, .int (x5_10 + 1)), (3, .long v23), (0, .ref (w_a 0)), (1, .long x1_1), (6, .int x6_4), (7, .int x7_11)]) C dX7_yearsInOrder_92 3 rfl rfl (by decide) rfl ?_
              refine cx_goto (tgt := 38) C dX7_yearsInOrder_95 (by decide) ?_
              refine cx_lv [2, 3, 1, 0, 4, 5] rfl ?_
              exact ih38 v23 (x5_10 + 1) hf
      unfold f_X7_yearsInOrder_L10 at hf
      refine cx_iload C dX7_yearsInOrder_10 4 rfl ?_
      refine cx_aload_n C dX7_yearsInOrder_12 0 rfl ?_
      refine cx_get (v := .ref (w_a 2)) (ci := 6) C iX7 dX7_yearsInOrder_13 0 rfl rfl 8 (by decide) hw_206 rfl ?_
      refine cx_aload_n C dX7_yearsInOrder_16 0 rfl ?_
      refine cx_get (v := .int w_late) (ci := 6) C iX7 dX7_yearsInOrder_17 0 rfl rfl 5 (by decide) hw_203 rfl ?_
      obtain ⟨g5, hf⟩ := cx_gd_at hf
      refine cx_iald C dX7_yearsInOrder_20 2 rfl (cx_ib_in g5) ?_
      clear g5
      refine cx_icmp_ge (tgt := 129) C dX7_yearsInOrder_21 (by decide) (fun c6 => ?_) (fun c6 => ?_)
      · have hf := cx_if_t hf c6
        clear c6
        refine cx_lload_n C dX7_yearsInOrder_129 1 rfl ?_
        obtain rfl := Option.some.inj hf
        exact cx_lret C hA hQ hr hlk dX7_yearsInOrder_130 rfl rfl
      · have hf := cx_if_f hf c6
        clear c6
        refine cx_aload_n C dX7_yearsInOrder_24 0 rfl ?_
        refine cx_get (v := .ref (w_a 1)) (ci := 6) C iX7 dX7_yearsInOrder_25 0 rfl rfl 7 (by decide) hw_205 rfl ?_
        refine cx_aload_n C dX7_yearsInOrder_28 0 rfl ?_
        refine cx_get (v := .int w_late) (ci := 6) C iX7 dX7_yearsInOrder_29 0 rfl rfl 5 (by decide) hw_203 rfl ?_
        obtain ⟨g7, hf⟩ := cx_gd_at hf
        refine cx_iald C dX7_yearsInOrder_32 1 rfl (cx_ib_in g7) ?_
        clear g7
        refine cx_iload C dX7_yearsInOrder_33 4 rfl ?_
        refine cx_iadd C dX7_yearsInOrder_35 ?_
        refine cx_topi (fun v8 ev8 => ?_)
        have hf := cx_let_at hf ev8
        clear ev8
        refine cx_istore (lv' := [(7, .int v8), (0, .ref (w_a 0)), (1, .long x1_1), (3, .long x3_2), (5, .int x5_3), (6, .int x6_4)]) C dX7_yearsInOrder_36 (by decide) rfl ?_
        refine cx_lv [1, 2, 3, 4, 5, 0] rfl ?_
        exact L38 v8 cx_N0 x3_2 x5_3 hf
  unfold f_X7_yearsInOrder at hf
  refine cx_lconst (v := 0) C dX7_yearsInOrder_0 (by decide) ?_
  refine cx_lstore_n (lv' := [(1, .long 0), (0, .ref (w_a 0))]) C dX7_yearsInOrder_1 rfl (by decide) rfl ?_
  refine cx_lconst (v := 0) C dX7_yearsInOrder_2 (by decide) ?_
  refine cx_lstore_n (lv' := [(3, .long 0), (1, .long 0), (0, .ref (w_a 0))]) C dX7_yearsInOrder_3 rfl (by decide) rfl ?_
  refine cx_iconst (v := 0) C dX7_yearsInOrder_4 (by decide) ?_
  refine cx_istore (lv' := [(5, .int 0), (3, .long 0), (1, .long 0), (0, .ref (w_a 0))]) C dX7_yearsInOrder_5 (by decide) rfl ?_
  refine cx_iconst (v := 0) C dX7_yearsInOrder_7 (by decide) ?_
  refine cx_istore (lv' := [(6, .int 0), (5, .int 0), (3, .long 0), (1, .long 0), (0, .ref (w_a 0))]) C dX7_yearsInOrder_8 (by decide) rfl ?_
  refine cx_lv [4, 3, 2, 1, 0] rfl ?_
  exact L10 cx_N0 0 0 0 0 hf
theorem dX7_takeEmptyPictures_0 : decode cX7_takeEmptyPictures 0 = .ok (.iconst 0, 1) := by decide +kernel
theorem dX7_takeEmptyPictures_1 : decode cX7_takeEmptyPictures 1 = .ok (.istore_n 1, 1) := by decide +kernel
theorem dX7_takeEmptyPictures_2 : decode cX7_takeEmptyPictures 2 = .ok (.iload_n 1, 1) := by decide +kernel
theorem dX7_takeEmptyPictures_3 : decode cX7_takeEmptyPictures 3 = .ok (.aload_n 0, 1) := by decide +kernel
theorem dX7_takeEmptyPictures_4 : decode cX7_takeEmptyPictures 4 = .ok (.getfield 68, 3) := by decide +kernel
theorem dX7_takeEmptyPictures_7 : decode cX7_takeEmptyPictures 7 = .ok (.getfield 82, 3) := by decide +kernel
theorem dX7_takeEmptyPictures_10 : decode cX7_takeEmptyPictures 10 = .ok (.getfield 88, 3) := by decide +kernel
theorem dX7_takeEmptyPictures_13 : decode cX7_takeEmptyPictures 13 = .ok (.if_icmp .ge 56, 3) := by decide +kernel
theorem dX7_takeEmptyPictures_16 : decode cX7_takeEmptyPictures 16 = .ok (.aload_n 0, 1) := by decide +kernel
theorem dX7_takeEmptyPictures_17 : decode cX7_takeEmptyPictures 17 = .ok (.getfield 41, 3) := by decide +kernel
theorem dX7_takeEmptyPictures_20 : decode cX7_takeEmptyPictures 20 = .ok (.iload_n 1, 1) := by decide +kernel
theorem dX7_takeEmptyPictures_21 : decode cX7_takeEmptyPictures 21 = .ok (.iaload, 1) := by decide +kernel
theorem dX7_takeEmptyPictures_22 : decode cX7_takeEmptyPictures 22 = .ok (.bipush 6, 2) := by decide +kernel
theorem dX7_takeEmptyPictures_24 : decode cX7_takeEmptyPictures 24 = .ok (.if_icmp .ne 39, 3) := by decide +kernel
theorem dX7_takeEmptyPictures_27 : decode cX7_takeEmptyPictures 27 = .ok (.iload_n 1, 1) := by decide +kernel
theorem dX7_takeEmptyPictures_28 : decode cX7_takeEmptyPictures 28 = .ok (.aload_n 0, 1) := by decide +kernel
theorem dX7_takeEmptyPictures_29 : decode cX7_takeEmptyPictures 29 = .ok (.getfield 18, 3) := by decide +kernel
theorem dX7_takeEmptyPictures_32 : decode cX7_takeEmptyPictures 32 = .ok (.if_icmp .eq 31, 3) := by decide +kernel
theorem dX7_takeEmptyPictures_35 : decode cX7_takeEmptyPictures 35 = .ok (.iload_n 1, 1) := by decide +kernel
theorem dX7_takeEmptyPictures_36 : decode cX7_takeEmptyPictures 36 = .ok (.aload_n 0, 1) := by decide +kernel
theorem dX7_takeEmptyPictures_37 : decode cX7_takeEmptyPictures 37 = .ok (.getfield 21, 3) := by decide +kernel
theorem dX7_takeEmptyPictures_40 : decode cX7_takeEmptyPictures 40 = .ok (.if_icmp .eq 23, 3) := by decide +kernel
theorem dX7_takeEmptyPictures_43 : decode cX7_takeEmptyPictures 43 = .ok (.aload_n 0, 1) := by decide +kernel
theorem dX7_takeEmptyPictures_44 : decode cX7_takeEmptyPictures 44 = .ok (.getfield 59, 3) := by decide +kernel
theorem dX7_takeEmptyPictures_47 : decode cX7_takeEmptyPictures 47 = .ok (.iconst 0, 1) := by decide +kernel
theorem dX7_takeEmptyPictures_48 : decode cX7_takeEmptyPictures 48 = .ok (.aload_n 0, 1) := by decide +kernel
theorem dX7_takeEmptyPictures_49 : decode cX7_takeEmptyPictures 49 = .ok (.getfield 59, 3) := by decide +kernel
theorem dX7_takeEmptyPictures_52 : decode cX7_takeEmptyPictures 52 = .ok (.iconst 0, 1) := by decide +kernel
theorem dX7_takeEmptyPictures_53 : decode cX7_takeEmptyPictures 53 = .ok (.aload_n 0, 1) := by decide +kernel
theorem dX7_takeEmptyPictures_54 : decode cX7_takeEmptyPictures 54 = .ok (.getfield 32, 3) := by decide +kernel
theorem dX7_takeEmptyPictures_57 : decode cX7_takeEmptyPictures 57 = .ok (.iload_n 1, 1) := by decide +kernel
theorem dX7_takeEmptyPictures_58 : decode cX7_takeEmptyPictures 58 = .ok (.iaload, 1) := by decide +kernel
theorem dX7_takeEmptyPictures_59 : decode cX7_takeEmptyPictures 59 = .ok (.i2l, 1) := by decide +kernel
theorem dX7_takeEmptyPictures_60 : decode cX7_takeEmptyPictures 60 = .ok (.invokestatic 166, 3) := by decide +kernel
theorem dX7_takeEmptyPictures_63 : decode cX7_takeEmptyPictures 63 = .ok (.iinc 1 1, 3) := by decide +kernel
theorem dX7_takeEmptyPictures_66 : decode cX7_takeEmptyPictures 66 = .ok (.goto (-64), 3) := by decide +kernel
theorem dX7_takeEmptyPictures_69 : decode cX7_takeEmptyPictures 69 = .ok (.aload_n 0, 1) := by decide +kernel
theorem dX7_takeEmptyPictures_70 : decode cX7_takeEmptyPictures 70 = .ok (.getfield 18, 3) := by decide +kernel
theorem dX7_takeEmptyPictures_73 : decode cX7_takeEmptyPictures 73 = .ok (.iconst (-1), 1) := by decide +kernel
theorem dX7_takeEmptyPictures_74 : decode cX7_takeEmptyPictures 74 = .ok (.if_icmp .eq 48, 3) := by decide +kernel
theorem dX7_takeEmptyPictures_77 : decode cX7_takeEmptyPictures 77 = .ok (.aload_n 0, 1) := by decide +kernel
theorem dX7_takeEmptyPictures_78 : decode cX7_takeEmptyPictures 78 = .ok (.getfield 41, 3) := by decide +kernel
theorem dX7_takeEmptyPictures_81 : decode cX7_takeEmptyPictures 81 = .ok (.aload_n 0, 1) := by decide +kernel
theorem dX7_takeEmptyPictures_82 : decode cX7_takeEmptyPictures 82 = .ok (.getfield 18, 3) := by decide +kernel
theorem dX7_takeEmptyPictures_85 : decode cX7_takeEmptyPictures 85 = .ok (.iaload, 1) := by decide +kernel
theorem dX7_takeEmptyPictures_86 : decode cX7_takeEmptyPictures 86 = .ok (.bipush 6, 2) := by decide +kernel
theorem dX7_takeEmptyPictures_88 : decode cX7_takeEmptyPictures 88 = .ok (.if_icmp .ne 34, 3) := by decide +kernel
theorem dX7_takeEmptyPictures_91 : decode cX7_takeEmptyPictures 91 = .ok (.aload_n 0, 1) := by decide +kernel
theorem dX7_takeEmptyPictures_92 : decode cX7_takeEmptyPictures 92 = .ok (.getfield 41, 3) := by decide +kernel
theorem dX7_takeEmptyPictures_95 : decode cX7_takeEmptyPictures 95 = .ok (.aload_n 0, 1) := by decide +kernel
theorem dX7_takeEmptyPictures_96 : decode cX7_takeEmptyPictures 96 = .ok (.getfield 21, 3) := by decide +kernel
theorem dX7_takeEmptyPictures_99 : decode cX7_takeEmptyPictures 99 = .ok (.iaload, 1) := by decide +kernel
theorem dX7_takeEmptyPictures_100 : decode cX7_takeEmptyPictures 100 = .ok (.bipush 6, 2) := by decide +kernel
theorem dX7_takeEmptyPictures_102 : decode cX7_takeEmptyPictures 102 = .ok (.if_icmp .ne 20, 3) := by decide +kernel
theorem dX7_takeEmptyPictures_105 : decode cX7_takeEmptyPictures 105 = .ok (.aload_n 0, 1) := by decide +kernel
theorem dX7_takeEmptyPictures_106 : decode cX7_takeEmptyPictures 106 = .ok (.getfield 59, 3) := by decide +kernel
theorem dX7_takeEmptyPictures_109 : decode cX7_takeEmptyPictures 109 = .ok (.iconst 0, 1) := by decide +kernel
theorem dX7_takeEmptyPictures_110 : decode cX7_takeEmptyPictures 110 = .ok (.aload_n 0, 1) := by decide +kernel
theorem dX7_takeEmptyPictures_111 : decode cX7_takeEmptyPictures 111 = .ok (.getfield 59, 3) := by decide +kernel
theorem dX7_takeEmptyPictures_114 : decode cX7_takeEmptyPictures 114 = .ok (.iconst 0, 1) := by decide +kernel
theorem dX7_takeEmptyPictures_115 : decode cX7_takeEmptyPictures 115 = .ok (.aload_n 0, 1) := by decide +kernel
theorem dX7_takeEmptyPictures_116 : decode cX7_takeEmptyPictures 116 = .ok (.invokevirtual 170, 3) := by decide +kernel
theorem dX7_takeEmptyPictures_119 : decode cX7_takeEmptyPictures 119 = .ok (.invokestatic 166, 3) := by decide +kernel
theorem dX7_takeEmptyPictures_122 : decode cX7_takeEmptyPictures 122 = .ok (.return_, 1) := by decide +kernel
theorem me_X7_takeEmptyPictures : cx_Mv yX7_takeEmptyPictures cX7_takeEmptyPictures 2 none 0 := ⟨⟨⟨by decide +kernel, by decide +kernel, by decide +kernel⟩, hw_7, hw_676⟩, hw_675, hs_14⟩
noncomputable def f_X7_takeEmptyPictures_J63 (x1_2 : Int32) (rc2 : (Nat → Int64) → Int32 → Option (Nat → Int64)) (a_15 : Nat → Int64) : Option (Nat → Int64) := rc2 a_15 (x1_2 + 1)
noncomputable def f_X7_takeEmptyPictures_L2 (w_early : Int32) (w_late : Int32) (w_firstYear : Nat → Int32) (w_years : Nat → Int32) (w_closing : Nat → Int32) (w_products : Nat → Int64) (b_z1 : Int32) (rc2 : (Nat → Int64) → Int32 → Option (Nat → Int64)) (a_1 : Nat → Int64) (x1_2 : Int32) : Option (Nat → Int64) := if b_z1 ≤ x1_2 then (if w_early = ((-1)) then (some a_1) else (cx_gd (cx_ib w_early 4) (if (w_closing (cx_ix w_early)) = 6 then (cx_gd (cx_ib w_late 4) (if (w_closing (cx_ix w_late)) = 6 then (Option.bind (f_X7_yearsInOrder w_early w_late w_firstYear w_years w_closing w_products) (fun u9 => Option.bind (f_X3_multiply_x_e0 28 a_1 0 0 u9) (fun u11 => some u11))) else (some a_1))) else (some a_1)))) else (cx_gd (cx_ib x1_2 4) (if (w_closing (cx_ix x1_2)) = 6 then (if x1_2 = w_early then (f_X7_takeEmptyPictures_J63 x1_2 rc2 a_1) else (if x1_2 = w_late then (f_X7_takeEmptyPictures_J63 x1_2 rc2 a_1) else (cx_gd (cx_ib x1_2 4) (Option.bind (f_X3_multiply_x_e0 28 a_1 0 0 (Int32.toInt64 (w_years (cx_ix x1_2)))) (fun u19 => f_X7_takeEmptyPictures_J63 x1_2 rc2 u19))))) else (f_X7_takeEmptyPictures_J63 x1_2 rc2 a_1)))
noncomputable def f_X7_takeEmptyPictures_L2w (w_early : Int32) (w_late : Int32) (w_firstYear : Nat → Int32) (w_years : Nat → Int32) (w_closing : Nat → Int32) (w_products : Nat → Int64) (b_z1 : Int32) (n : Nat) : (Nat → Int64) → Int32 → Option (Nat → Int64) := Nat.rec (fun _ _ => none) (fun _ r => f_X7_takeEmptyPictures_L2 w_early w_late w_firstYear w_years w_closing w_products b_z1 r) n
noncomputable def f_X7_takeEmptyPictures (w_early : Int32) (w_late : Int32) (w_firstYear : Nat → Int32) (w_years : Nat → Int32) (w_closing : Nat → Int32) (w_products : Nat → Int64) (w_weights : Nat → Int64) (b_z1 : Int32) : Option (Nat → Int64) := f_X7_takeEmptyPictures_L2w w_early w_late w_firstYear w_years w_closing w_products b_z1 cx_N0 w_weights 0
set_option maxHeartbeats 4000000 in
set_option maxRecDepth 100000 in
theorem c_X7_takeEmptyPictures (l : Launch) (D : va_G) (k : Nat → ClassId) (w_a : Nat → Nat) (b_a : Nat → Nat) (s_a : Nat → Nat) (w_detail : Int32) (w_skipped : Int32) (w_early : Int32) (w_late : Int32) (w_firstOnly : Int32) (w_firstYear : Nat → Int32) (w_years : Nat → Int32) (w_place : Nat → Int32) (w_before : Nat → Int32) (w_closing : Nat → Int32) (w_likes : Nat → Int32) (w_likeSums : Nat → Int32) (w_namings : Nat → Int32) (w_products : Nat → Int64) (w_weights : Nat → Int64) (w_subtotals : Nat → Int64) (w_way : Nat → Int32) (b_c0 : Nat → Int32) (b_z0 : Int32) (b_c1 : Nat → Int32) (b_z1 : Int32) (b_c2 : Nat → Int32) (b_z2 : Int32) (b_c3 : Nat → Int32) (b_z3 : Int32) (b_c4 : Nat → Int32) (b_z4 : Int32) (b_sg : Int32) (s_np : Nat) (s_total : Nat → Int64) (s_shares : Nat → Int64) (s_pairs : Nat → Int64) (s_crowds : Nat → Int64) (s_bestWay : Nat → Int32) (s_bestWeight : Nat → Int64) (s_answer : Nat → Int64) (s_mine : Nat → Int64) (s_theirs : Nat → Int64) (s_people : Int32) (s_heads : Int32) (y : Nat → Int64) (hf : f_X7_takeEmptyPictures w_early w_late w_firstYear w_years w_closing w_products w_weights b_z1 = some y) : cx_M l yX7_takeEmptyPictures cX7_takeEmptyPictures 2 none 2 D k [.ref (w_a 0)] (wd_Ways k w_a b_a s_a w_detail w_skipped w_early w_late w_firstOnly w_firstYear w_years w_place w_before w_closing w_likes w_likeSums w_namings w_products w_weights w_subtotals w_way ++ (wd_Box k b_a b_c0 b_z0 b_c1 b_z1 b_c2 b_z2 b_c3 b_z3 b_c4 b_z4 b_sg ++ (wd_Sums k s_a s_np s_total s_shares s_pairs s_crowds s_bestWay s_bestWeight s_answer s_mine s_theirs s_people s_heads))) (fun sz => cx_Qv D (wd_Ways k w_a b_a s_a w_detail w_skipped w_early w_late w_firstOnly w_firstYear w_years w_place w_before w_closing w_likes w_likeSums w_namings w_products w_weights w_subtotals w_way ++ (wd_Box k b_a b_c0 b_z0 b_c1 b_z1 b_c2 b_z2 b_c3 b_z3 b_c4 b_z4 b_sg ++ (wd_Sums k s_a s_np s_total s_shares s_pairs s_crowds s_bestWay s_bestWeight s_answer s_mine s_theirs s_people s_heads))) (wd_Ways k w_a b_a s_a w_detail w_skipped w_early w_late w_firstOnly w_firstYear w_years w_place w_before w_closing w_likes w_likeSums w_namings w_products y w_subtotals w_way ++ (wd_Box k b_a b_c0 b_z0 b_c1 b_z1 b_c2 b_z2 b_c3 b_z3 b_c4 b_z4 b_sg ++ (wd_Sums k s_a s_np s_total s_shares s_pairs s_crowds s_bestWay s_bestWeight s_answer s_mine s_theirs s_people s_heads))) sz) := by
  refine cx_met (own := "NamelessBox$Ways") (by decide) rfl (Nat.le_of_ble_eq_true rfl) ?_
  intro p e s m args below meth c A Q C hA hQ hr hlk
  refine cx_lv (lv' := [(0, .ref (w_a 0))]) [0] rfl ?_
  have L2 : ∀ (n2 : Nat) (a_1 : Nat → Int64) (x1_2 : Int32), f_X7_takeEmptyPictures_L2w w_early w_late w_firstYear w_years w_closing w_products b_z1 n2 a_1 x1_2 = some y → cx_S p l e (cx_rm 2) s m args below meth c A D 2 0 0 Q 2 [(0, .ref (w_a 0)), (1, .int x1_2)] [] (wd_Ways k w_a b_a s_a w_detail w_skipped w_early w_late w_firstOnly w_firstYear w_years w_place w_before w_closing w_likes w_likeSums w_namings w_products a_1 w_subtotals w_way ++ (wd_Box k b_a b_c0 b_z0 b_c1 b_z1 b_c2 b_z2 b_c3 b_z3 b_c4 b_z4 b_sg ++ (wd_Sums k s_a s_np s_total s_shares s_pairs s_crowds s_bestWay s_bestWeight s_answer s_mine s_theirs s_people s_heads))) := by
    intro  n2
    induction n2 with
    | zero =>
      intro a_1 x1_2 hf
      exact absurd (show (none : Option (Nat → Int64)) = some y from hf) (fun h => by cases h)
    | succ n2 ih2 =>
      intro a_1 x1_2 hf
      have hf : f_X7_takeEmptyPictures_L2 w_early w_late w_firstYear w_years w_closing w_products b_z1 (f_X7_takeEmptyPictures_L2w w_early w_late w_firstYear w_years w_closing w_products b_z1 n2) a_1 x1_2 = some y := hf
      have J63 : ∀ (a_15 : Nat → Int64), f_X7_takeEmptyPictures_J63 x1_2 (f_X7_takeEmptyPictures_L2w w_early w_late w_firstYear w_years w_closing w_products b_z1 n2) a_15 = some y → cx_S p l e (cx_rm 2) s m args below meth c A D 2 0 0 Q 63 [(0, .ref (w_a 0)), (1, .int x1_2)] [] (wd_Ways k w_a b_a s_a w_detail w_skipped w_early w_late w_firstOnly w_firstYear w_years w_place w_before w_closing w_likes w_likeSums w_namings w_products a_15 w_subtotals w_way ++ (wd_Box k b_a b_c0 b_z0 b_c1 b_z1 b_c2 b_z2 b_c3 b_z3 b_c4 b_z4 b_sg ++ (wd_Sums k s_a s_np s_total s_shares s_pairs s_crowds s_bestWay s_bestWeight s_answer s_mine s_theirs s_people s_heads))) := by
        intro a_15 hf
        unfold f_X7_takeEmptyPictures_J63 at hf
        refine cx_iinc (v := x1_2 + 1) (lv' := [(1, .int (x1_2 + 1)), (0, .ref (w_a 0))]) C dX7_takeEmptyPictures_63 1 rfl rfl (by decide) rfl ?_
        refine cx_goto (tgt := 2) C dX7_takeEmptyPictures_66 (by decide) ?_
        refine cx_lv [1, 0] rfl ?_
        exact ih2 a_15 (x1_2 + 1) hf
      unfold f_X7_takeEmptyPictures_L2 at hf
      refine cx_iload_n C dX7_takeEmptyPictures_2 1 rfl ?_
      refine cx_aload_n C dX7_takeEmptyPictures_3 0 rfl ?_
      refine cx_get (v := .ref (b_a 0)) (ci := 6) C iX7 dX7_takeEmptyPictures_4 0 rfl rfl 1 (by decide) hw_199 rfl ?_
      refine cx_get (v := .ref (b_a 3)) (ci := 1) C iX1 dX7_takeEmptyPictures_7 13 rfl rfl 1 (by decide) hw_65 rfl ?_
      refine cx_get (v := .int b_z1) (ci := 3) C iX4 dX7_takeEmptyPictures_10 16 rfl rfl 3 (by decide) hw_48 rfl ?_
      refine cx_icmp_ge (tgt := 69) C dX7_takeEmptyPictures_13 (by decide) (fun c3 => ?_) (fun c3 => ?_)
      · have hf := cx_if_t hf c3
        clear c3
        refine cx_aload_n C dX7_takeEmptyPictures_69 0 rfl ?_
        refine cx_get (v := .int w_early) (ci := 6) C iX7 dX7_takeEmptyPictures_70 0 rfl rfl 4 (by decide) hw_202 rfl ?_
        refine cx_iconst (v := (-1)) C dX7_takeEmptyPictures_73 (by decide) ?_
        refine cx_icmp_eq (tgt := 122) C dX7_takeEmptyPictures_74 (by decide) (fun c4 => ?_) (fun c4 => ?_)
        · have hf := cx_if_t hf c4
          clear c4
          obtain rfl := Option.some.inj hf
          exact cx_vret C hA hQ hr hlk dX7_takeEmptyPictures_122 rfl
        · have hf := cx_if_f hf c4
          clear c4
          refine cx_aload_n C dX7_takeEmptyPictures_77 0 rfl ?_
          refine cx_get (v := .ref (w_a 5)) (ci := 6) C iX7 dX7_takeEmptyPictures_78 0 rfl rfl 11 (by decide) hw_209 rfl ?_
          refine cx_aload_n C dX7_takeEmptyPictures_81 0 rfl ?_
          refine cx_get (v := .int w_early) (ci := 6) C iX7 dX7_takeEmptyPictures_82 0 rfl rfl 4 (by decide) hw_202 rfl ?_
          obtain ⟨g5, hf⟩ := cx_gd_at hf
          refine cx_iald C dX7_takeEmptyPictures_85 5 rfl (cx_ib_in g5) ?_
          clear g5
          refine cx_bipush (v := 6) C dX7_takeEmptyPictures_86 (by decide) ?_
          refine cx_icmp_ne (tgt := 122) C dX7_takeEmptyPictures_88 (by decide) (fun c6 => ?_) (fun c6 => ?_)
          · have hf := cx_if_f hf c6
            clear c6
            obtain rfl := Option.some.inj hf
            exact cx_vret C hA hQ hr hlk dX7_takeEmptyPictures_122 rfl
          · have hf := cx_if_t hf c6
            clear c6
            refine cx_aload_n C dX7_takeEmptyPictures_91 0 rfl ?_
            refine cx_get (v := .ref (w_a 5)) (ci := 6) C iX7 dX7_takeEmptyPictures_92 0 rfl rfl 11 (by decide) hw_209 rfl ?_
            refine cx_aload_n C dX7_takeEmptyPictures_95 0 rfl ?_
            refine cx_get (v := .int w_late) (ci := 6) C iX7 dX7_takeEmptyPictures_96 0 rfl rfl 5 (by decide) hw_203 rfl ?_
            obtain ⟨g7, hf⟩ := cx_gd_at hf
            refine cx_iald C dX7_takeEmptyPictures_99 5 rfl (cx_ib_in g7) ?_
            clear g7
            refine cx_bipush (v := 6) C dX7_takeEmptyPictures_100 (by decide) ?_
            refine cx_icmp_ne (tgt := 122) C dX7_takeEmptyPictures_102 (by decide) (fun c8 => ?_) (fun c8 => ?_)
            · have hf := cx_if_f hf c8
              clear c8
              obtain rfl := Option.some.inj hf
              exact cx_vret C hA hQ hr hlk dX7_takeEmptyPictures_122 rfl
            · have hf := cx_if_t hf c8
              clear c8
              refine cx_aload_n C dX7_takeEmptyPictures_105 0 rfl ?_
              refine cx_get (v := .ref (w_a 10)) (ci := 6) C iX7 dX7_takeEmptyPictures_106 0 rfl rfl 16 (by decide) hw_214 rfl ?_
              refine cx_iconst (v := 0) C dX7_takeEmptyPictures_109 (by decide) ?_
              refine cx_aload_n C dX7_takeEmptyPictures_110 0 rfl ?_
              refine cx_get (v := .ref (w_a 10)) (ci := 6) C iX7 dX7_takeEmptyPictures_111 0 rfl rfl 16 (by decide) hw_214 rfl ?_
              refine cx_iconst (v := 0) C dX7_takeEmptyPictures_114 (by decide) ?_
              refine cx_aload_n C dX7_takeEmptyPictures_115 0 rfl ?_
              obtain ⟨u9, e10, hf⟩ := cx_bd_at hf
              refine cx_Fvl (q := (RX7, TX7, 19)) (As := []) (rest := [.int 0, .ref (w_a 10), .int 0, .ref (w_a 10)]) (w1 := (wd_Ways k w_a b_a s_a w_detail w_skipped w_early w_late w_firstOnly w_firstYear w_years w_place w_before w_closing w_likes w_likeSums w_namings w_products a_1 w_subtotals w_way ++ (wd_Box k b_a b_c0 b_z0 b_c1 b_z1 b_c2 b_z2 b_c3 b_z3 b_c4 b_z4 b_sg ++ (wd_Sums k s_a s_np s_total s_shares s_pairs s_crowds s_bestWay s_bestWeight s_answer s_mine s_theirs s_people s_heads)))) hA C me_X7_yearsInOrder hw_681 (c_X7_yearsInOrder l D k w_a b_a s_a w_detail w_skipped w_early w_late w_firstOnly w_firstYear w_years w_place w_before w_closing w_likes w_likeSums w_namings w_products a_1 w_subtotals w_way b_c0 b_z0 b_c1 b_z1 b_c2 b_z2 b_c3 b_z3 b_c4 b_z4 b_sg s_np s_total s_shares s_pairs s_crowds s_bestWay s_bestWeight s_answer s_mine s_theirs s_people s_heads u9 e10) dX7_takeEmptyPictures_116 ⟨Nat.le_of_ble_eq_true rfl, Nat.le_of_ble_eq_true rfl⟩ ⟨Nat.zero_le _, Nat.zero_le _⟩ rfl rfl (Nat.le_of_ble_eq_true rfl) rfl rfl rfl ?_
              clear e10
              obtain ⟨u11, e12, hf⟩ := cx_bd_at hf
              refine cx_csv (As := [.ref (w_a 10), .int 0, .ref (w_a 10), .int 0, .long u9]) (rest := []) (ws' := (wd_Ways k w_a b_a s_a w_detail w_skipped w_early w_late w_firstOnly w_firstYear w_years w_place w_before w_closing w_likes w_likeSums w_namings w_products u11 w_subtotals w_way ++ (wd_Box k b_a b_c0 b_z0 b_c1 b_z1 b_c2 b_z2 b_c3 b_z3 b_c4 b_z4 b_sg ++ (wd_Sums k s_a s_np s_total s_shares s_pairs s_crowds s_bestWay s_bestWeight s_answer s_mine s_theirs s_people s_heads)))) hA C me_X3_multiply hw_677 (c_X3_multiply_x_e0 l D k (w_a 10) 28 a_1 0 0 u9 u11 e12) dX7_takeEmptyPictures_119 ⟨Nat.le_of_ble_eq_true rfl, Nat.le_of_ble_eq_true rfl⟩ ⟨Nat.zero_le _, Nat.zero_le _⟩ rfl rfl (Nat.le_of_ble_eq_true rfl) [10] rfl (by decide) rfl rfl ?_
              clear e12
              obtain rfl := Option.some.inj hf
              exact cx_vret C hA hQ hr hlk dX7_takeEmptyPictures_122 rfl
      · have hf := cx_if_f hf c3
        clear c3
        refine cx_aload_n C dX7_takeEmptyPictures_16 0 rfl ?_
        refine cx_get (v := .ref (w_a 5)) (ci := 6) C iX7 dX7_takeEmptyPictures_17 0 rfl rfl 11 (by decide) hw_209 rfl ?_
        refine cx_iload_n C dX7_takeEmptyPictures_20 1 rfl ?_
        obtain ⟨g13, hf⟩ := cx_gd_at hf
        refine cx_iald C dX7_takeEmptyPictures_21 5 rfl (cx_ib_in g13) ?_
        clear g13
        refine cx_bipush (v := 6) C dX7_takeEmptyPictures_22 (by decide) ?_
        refine cx_icmp_ne (tgt := 63) C dX7_takeEmptyPictures_24 (by decide) (fun c14 => ?_) (fun c14 => ?_)
        · have hf := cx_if_f hf c14
          clear c14
          exact J63 a_1 hf
        · have hf := cx_if_t hf c14
          clear c14
          refine cx_iload_n C dX7_takeEmptyPictures_27 1 rfl ?_
          refine cx_aload_n C dX7_takeEmptyPictures_28 0 rfl ?_
          refine cx_get (v := .int w_early) (ci := 6) C iX7 dX7_takeEmptyPictures_29 0 rfl rfl 4 (by decide) hw_202 rfl ?_
          refine cx_icmp_eq (tgt := 63) C dX7_takeEmptyPictures_32 (by decide) (fun c16 => ?_) (fun c16 => ?_)
          · have hf := cx_if_t hf c16
            clear c16
            exact J63 a_1 hf
          · have hf := cx_if_f hf c16
            clear c16
            refine cx_iload_n C dX7_takeEmptyPictures_35 1 rfl ?_
            refine cx_aload_n C dX7_takeEmptyPictures_36 0 rfl ?_
            refine cx_get (v := .int w_late) (ci := 6) C iX7 dX7_takeEmptyPictures_37 0 rfl rfl 5 (by decide) hw_203 rfl ?_
            refine cx_icmp_eq (tgt := 63) C dX7_takeEmptyPictures_40 (by decide) (fun c17 => ?_) (fun c17 => ?_)
            · have hf := cx_if_t hf c17
              clear c17
              exact J63 a_1 hf
            · have hf := cx_if_f hf c17
              clear c17
              refine cx_aload_n C dX7_takeEmptyPictures_43 0 rfl ?_
              refine cx_get (v := .ref (w_a 10)) (ci := 6) C iX7 dX7_takeEmptyPictures_44 0 rfl rfl 16 (by decide) hw_214 rfl ?_
              refine cx_iconst (v := 0) C dX7_takeEmptyPictures_47 (by decide) ?_
              refine cx_aload_n C dX7_takeEmptyPictures_48 0 rfl ?_
              refine cx_get (v := .ref (w_a 10)) (ci := 6) C iX7 dX7_takeEmptyPictures_49 0 rfl rfl 16 (by decide) hw_214 rfl ?_
              refine cx_iconst (v := 0) C dX7_takeEmptyPictures_52 (by decide) ?_
              refine cx_aload_n C dX7_takeEmptyPictures_53 0 rfl ?_
              refine cx_get (v := .ref (w_a 2)) (ci := 6) C iX7 dX7_takeEmptyPictures_54 0 rfl rfl 8 (by decide) hw_206 rfl ?_
              refine cx_iload_n C dX7_takeEmptyPictures_57 1 rfl ?_
              obtain ⟨g18, hf⟩ := cx_gd_at hf
              refine cx_iald C dX7_takeEmptyPictures_58 2 rfl (cx_ib_in g18) ?_
              clear g18
              refine cx_i2l C dX7_takeEmptyPictures_59 ?_
              obtain ⟨u19, e20, hf⟩ := cx_bd_at hf
              refine cx_csv (As := [.ref (w_a 10), .int 0, .ref (w_a 10), .int 0, .long (Int32.toInt64 (w_years (cx_ix x1_2)))]) (rest := []) (ws' := (wd_Ways k w_a b_a s_a w_detail w_skipped w_early w_late w_firstOnly w_firstYear w_years w_place w_before w_closing w_likes w_likeSums w_namings w_products u19 w_subtotals w_way ++ (wd_Box k b_a b_c0 b_z0 b_c1 b_z1 b_c2 b_z2 b_c3 b_z3 b_c4 b_z4 b_sg ++ (wd_Sums k s_a s_np s_total s_shares s_pairs s_crowds s_bestWay s_bestWeight s_answer s_mine s_theirs s_people s_heads)))) hA C me_X3_multiply hw_677 (c_X3_multiply_x_e0 l D k (w_a 10) 28 a_1 0 0 (Int32.toInt64 (w_years (cx_ix x1_2))) u19 e20) dX7_takeEmptyPictures_60 ⟨Nat.le_of_ble_eq_true rfl, Nat.le_of_ble_eq_true rfl⟩ ⟨Nat.zero_le _, Nat.zero_le _⟩ rfl rfl (Nat.le_of_ble_eq_true rfl) [10] rfl (by decide) rfl rfl ?_
              clear e20
              exact J63 u19 hf
  unfold f_X7_takeEmptyPictures at hf
  refine cx_iconst (v := 0) C dX7_takeEmptyPictures_0 (by decide) ?_
  refine cx_istore_n (lv' := [(1, .int 0), (0, .ref (w_a 0))]) C dX7_takeEmptyPictures_1 rfl (by decide) rfl ?_
  refine cx_lv [1, 0] rfl ?_
  exact L2 cx_N0 w_weights 0 hf
theorem dX7_isThereAlready_0 : decode cX7_isThereAlready 0 = .ok (.aload_n 0, 1) := by decide +kernel
theorem dX7_isThereAlready_1 : decode cX7_isThereAlready 1 = .ok (.getfield 38, 3) := by decide +kernel
theorem dX7_isThereAlready_4 : decode cX7_isThereAlready 4 = .ok (.iload_n 1, 1) := by decide +kernel
theorem dX7_isThereAlready_5 : decode cX7_isThereAlready 5 = .ok (.iaload, 1) := by decide +kernel
theorem dX7_isThereAlready_6 : decode cX7_isThereAlready 6 = .ok (.istore_n 3, 1) := by decide +kernel
theorem dX7_isThereAlready_7 : decode cX7_isThereAlready 7 = .ok (.iconst 0, 1) := by decide +kernel
theorem dX7_isThereAlready_8 : decode cX7_isThereAlready 8 = .ok (.istore 4, 2) := by decide +kernel
theorem dX7_isThereAlready_10 : decode cX7_isThereAlready 10 = .ok (.iload 4, 2) := by decide +kernel
theorem dX7_isThereAlready_12 : decode cX7_isThereAlready 12 = .ok (.bipush 6, 2) := by decide +kernel
theorem dX7_isThereAlready_14 : decode cX7_isThereAlready 14 = .ok (.if_icmp .ge 39, 3) := by decide +kernel
theorem dX7_isThereAlready_17 : decode cX7_isThereAlready 17 = .ok (.iload_n 3, 1) := by decide +kernel
theorem dX7_isThereAlready_18 : decode cX7_isThereAlready 18 = .ok (.bipush 6, 2) := by decide +kernel
theorem dX7_isThereAlready_20 : decode cX7_isThereAlready 20 = .ok (.if_icmp .eq 33, 3) := by decide +kernel
theorem dX7_isThereAlready_23 : decode cX7_isThereAlready 23 = .ok (.iload_n 2, 1) := by decide +kernel
theorem dX7_isThereAlready_24 : decode cX7_isThereAlready 24 = .ok (.iconst 5, 1) := by decide +kernel
theorem dX7_isThereAlready_25 : decode cX7_isThereAlready 25 = .ok (.if_icmp .eq 28, 3) := by decide +kernel
theorem dX7_isThereAlready_28 : decode cX7_isThereAlready 28 = .ok (.aload_n 0, 1) := by decide +kernel
theorem dX7_isThereAlready_29 : decode cX7_isThereAlready 29 = .ok (.getfield 65, 3) := by decide +kernel
theorem dX7_isThereAlready_32 : decode cX7_isThereAlready 32 = .ok (.iload_n 3, 1) := by decide +kernel
theorem dX7_isThereAlready_33 : decode cX7_isThereAlready 33 = .ok (.iaload, 1) := by decide +kernel
theorem dX7_isThereAlready_34 : decode cX7_isThereAlready 34 = .ok (.iload_n 2, 1) := by decide +kernel
theorem dX7_isThereAlready_35 : decode cX7_isThereAlready 35 = .ok (.if_icmp .ne 5, 3) := by decide +kernel
theorem dX7_isThereAlready_38 : decode cX7_isThereAlready 38 = .ok (.iconst 1, 1) := by decide +kernel
theorem dX7_isThereAlready_39 : decode cX7_isThereAlready 39 = .ok (.ireturn, 1) := by decide +kernel
theorem dX7_isThereAlready_40 : decode cX7_isThereAlready 40 = .ok (.aload_n 0, 1) := by decide +kernel
theorem dX7_isThereAlready_41 : decode cX7_isThereAlready 41 = .ok (.getfield 38, 3) := by decide +kernel
theorem dX7_isThereAlready_44 : decode cX7_isThereAlready 44 = .ok (.iload_n 3, 1) := by decide +kernel
theorem dX7_isThereAlready_45 : decode cX7_isThereAlready 45 = .ok (.iaload, 1) := by decide +kernel
theorem dX7_isThereAlready_46 : decode cX7_isThereAlready 46 = .ok (.istore_n 3, 1) := by decide +kernel
theorem dX7_isThereAlready_47 : decode cX7_isThereAlready 47 = .ok (.iinc 4 1, 3) := by decide +kernel
theorem dX7_isThereAlready_50 : decode cX7_isThereAlready 50 = .ok (.goto (-40), 3) := by decide +kernel
theorem dX7_isThereAlready_53 : decode cX7_isThereAlready 53 = .ok (.iconst 0, 1) := by decide +kernel
theorem dX7_isThereAlready_54 : decode cX7_isThereAlready 54 = .ok (.ireturn, 1) := by decide +kernel
theorem me_X7_isThereAlready : cx_Mv yX7_isThereAlready cX7_isThereAlready 5 (some .boolean) 2 := ⟨⟨⟨by decide +kernel, by decide +kernel, by decide +kernel⟩, hw_7, hw_716⟩, hw_715, hs_18⟩
noncomputable def f_X7_isThereAlready_L10 (w_before : Nat → Int32) (w_way : Nat → Int32) (p2 : Int32) (rc10 : Int32 → Int32 → Option Int32) (x3_2 : Int32) (x4_3 : Int32) : Option Int32 := if 6 ≤ x4_3 then (some 0) else (if x3_2 = 6 then (some 0) else (if p2 = 5 then (some 0) else (cx_gd (cx_ib x3_2 6) (if (w_way (cx_ix x3_2)) = p2 then (some 1) else (cx_gd (cx_ib x3_2 6) (rc10 (w_before (cx_ix x3_2)) (x4_3 + 1)))))))
noncomputable def f_X7_isThereAlready_L10w (w_before : Nat → Int32) (w_way : Nat → Int32) (p2 : Int32) (n : Nat) : Int32 → Int32 → Option Int32 := Nat.rec (fun _ _ => none) (fun _ r => f_X7_isThereAlready_L10 w_before w_way p2 r) n
noncomputable def f_X7_isThereAlready (w_before : Nat → Int32) (w_way : Nat → Int32) (p1 : Int32) (p2 : Int32) : Option Int32 := cx_gd (cx_ib p1 6) (f_X7_isThereAlready_L10w w_before w_way p2 cx_N0 (w_before (cx_ix p1)) 0)
set_option maxHeartbeats 4000000 in
set_option maxRecDepth 100000 in
theorem c_X7_isThereAlready (l : Launch) (D : va_G) (k : Nat → ClassId) (w_a : Nat → Nat) (b_a : Nat → Nat) (s_a : Nat → Nat) (w_detail : Int32) (w_skipped : Int32) (w_early : Int32) (w_late : Int32) (w_firstOnly : Int32) (w_firstYear : Nat → Int32) (w_years : Nat → Int32) (w_place : Nat → Int32) (w_before : Nat → Int32) (w_closing : Nat → Int32) (w_likes : Nat → Int32) (w_likeSums : Nat → Int32) (w_namings : Nat → Int32) (w_products : Nat → Int64) (w_weights : Nat → Int64) (w_subtotals : Nat → Int64) (w_way : Nat → Int32) (b_c0 : Nat → Int32) (b_z0 : Int32) (b_c1 : Nat → Int32) (b_z1 : Int32) (b_c2 : Nat → Int32) (b_z2 : Int32) (b_c3 : Nat → Int32) (b_z3 : Int32) (b_c4 : Nat → Int32) (b_z4 : Int32) (b_sg : Int32) (s_np : Nat) (s_total : Nat → Int64) (s_shares : Nat → Int64) (s_pairs : Nat → Int64) (s_crowds : Nat → Int64) (s_bestWay : Nat → Int32) (s_bestWeight : Nat → Int64) (s_answer : Nat → Int64) (s_mine : Nat → Int64) (s_theirs : Nat → Int64) (s_people : Int32) (s_heads : Int32) (p1 : Int32) (p2 : Int32) (y : Int32) (hf : f_X7_isThereAlready w_before w_way p1 p2 = some y) : cx_M l yX7_isThereAlready cX7_isThereAlready 5 (some .boolean) 1 D k [.ref (w_a 0), .int p1, .int p2] (wd_Ways k w_a b_a s_a w_detail w_skipped w_early w_late w_firstOnly w_firstYear w_years w_place w_before w_closing w_likes w_likeSums w_namings w_products w_weights w_subtotals w_way ++ (wd_Box k b_a b_c0 b_z0 b_c1 b_z1 b_c2 b_z2 b_c3 b_z3 b_c4 b_z4 b_sg ++ (wd_Sums k s_a s_np s_total s_shares s_pairs s_crowds s_bestWay s_bestWeight s_answer s_mine s_theirs s_people s_heads))) (fun sz => cx_Qi D y (wd_Ways k w_a b_a s_a w_detail w_skipped w_early w_late w_firstOnly w_firstYear w_years w_place w_before w_closing w_likes w_likeSums w_namings w_products w_weights w_subtotals w_way ++ (wd_Box k b_a b_c0 b_z0 b_c1 b_z1 b_c2 b_z2 b_c3 b_z3 b_c4 b_z4 b_sg ++ (wd_Sums k s_a s_np s_total s_shares s_pairs s_crowds s_bestWay s_bestWeight s_answer s_mine s_theirs s_people s_heads))) (wd_Ways k w_a b_a s_a w_detail w_skipped w_early w_late w_firstOnly w_firstYear w_years w_place w_before w_closing w_likes w_likeSums w_namings w_products w_weights w_subtotals w_way ++ (wd_Box k b_a b_c0 b_z0 b_c1 b_z1 b_c2 b_z2 b_c3 b_z3 b_c4 b_z4 b_sg ++ (wd_Sums k s_a s_np s_total s_shares s_pairs s_crowds s_bestWay s_bestWeight s_answer s_mine s_theirs s_people s_heads))) sz) := by
  refine cx_met (own := "NamelessBox$Ways") (by decide) rfl (Nat.le_of_ble_eq_true rfl) ?_
  intro p e s m args below meth c A Q C hA hQ hr hlk
  refine cx_lv (lv' := [(0, .ref (w_a 0)), (1, .int p1), (2, .int p2)]) [0, 1, 2] rfl ?_
  have L10 : ∀ (n10 : Nat) (x3_2 : Int32) (x4_3 : Int32), f_X7_isThereAlready_L10w w_before w_way p2 n10 x3_2 x4_3 = some y → cx_S p l e (cx_rm 1) s m args below meth c A D 5 0 0 Q 10 [(0, .ref (w_a 0)), (2, .int p2), (3, .int x3_2), (4, .int x4_3)] [] (wd_Ways k w_a b_a s_a w_detail w_skipped w_early w_late w_firstOnly w_firstYear w_years w_place w_before w_closing w_likes w_likeSums w_namings w_products w_weights w_subtotals w_way ++ (wd_Box k b_a b_c0 b_z0 b_c1 b_z1 b_c2 b_z2 b_c3 b_z3 b_c4 b_z4 b_sg ++ (wd_Sums k s_a s_np s_total s_shares s_pairs s_crowds s_bestWay s_bestWeight s_answer s_mine s_theirs s_people s_heads))) := by
    intro  n10
    induction n10 with
    | zero =>
      intro x3_2 x4_3 hf
      exact absurd (show (none : Option Int32) = some y from hf) (fun h => by cases h)
    | succ n10 ih10 =>
      intro x3_2 x4_3 hf
      have hf : f_X7_isThereAlready_L10 w_before w_way p2 (f_X7_isThereAlready_L10w w_before w_way p2 n10) x3_2 x4_3 = some y := hf
      unfold f_X7_isThereAlready_L10 at hf
      refine cx_iload C dX7_isThereAlready_10 3 rfl ?_
      refine cx_bipush (v := 6) C dX7_isThereAlready_12 (by decide) ?_
      refine cx_icmp_ge (tgt := 53) C dX7_isThereAlready_14 (by decide) (fun c4 => ?_) (fun c4 => ?_)
      · have hf := cx_if_t hf c4
        clear c4
        refine cx_iconst (v := 0) C dX7_isThereAlready_53 (by decide) ?_
        obtain rfl := Option.some.inj hf
        exact cx_zret C hA hQ hr hlk dX7_isThereAlready_54 rfl rfl rfl
      · have hf := cx_if_f hf c4
        clear c4
        refine cx_iload_n C dX7_isThereAlready_17 2 rfl ?_
        refine cx_bipush (v := 6) C dX7_isThereAlready_18 (by decide) ?_
        refine cx_icmp_eq (tgt := 53) C dX7_isThereAlready_20 (by decide) (fun c5 => ?_) (fun c5 => ?_)
        · have hf := cx_if_t hf c5
          clear c5
          refine cx_iconst (v := 0) C dX7_isThereAlready_53 (by decide) ?_
          obtain rfl := Option.some.inj hf
          exact cx_zret C hA hQ hr hlk dX7_isThereAlready_54 rfl rfl rfl
        · have hf := cx_if_f hf c5
          clear c5
          refine cx_iload_n C dX7_isThereAlready_23 1 rfl ?_
          refine cx_iconst (v := 5) C dX7_isThereAlready_24 (by decide) ?_
          refine cx_icmp_eq (tgt := 53) C dX7_isThereAlready_25 (by decide) (fun c6 => ?_) (fun c6 => ?_)
          · have hf := cx_if_t hf c6
            clear c6
            refine cx_iconst (v := 0) C dX7_isThereAlready_53 (by decide) ?_
            obtain rfl := Option.some.inj hf
            exact cx_zret C hA hQ hr hlk dX7_isThereAlready_54 rfl rfl rfl
          · have hf := cx_if_f hf c6
            clear c6
            refine cx_aload_n C dX7_isThereAlready_28 0 rfl ?_
            refine cx_get (v := .ref (w_a 12)) (ci := 6) C iX7 dX7_isThereAlready_29 0 rfl rfl 18 (by decide) hw_216 rfl ?_
            refine cx_iload_n C dX7_isThereAlready_32 2 rfl ?_
            obtain ⟨g7, hf⟩ := cx_gd_at hf
            refine cx_iald C dX7_isThereAlready_33 12 rfl (cx_ib_in g7) ?_
            clear g7
            refine cx_iload_n C dX7_isThereAlready_34 1 rfl ?_
            refine cx_icmp_ne (tgt := 40) C dX7_isThereAlready_35 (by decide) (fun c8 => ?_) (fun c8 => ?_)
            · have hf := cx_if_f hf c8
              clear c8
              refine cx_aload_n C dX7_isThereAlready_40 0 rfl ?_
              refine cx_get (v := .ref (w_a 4)) (ci := 6) C iX7 dX7_isThereAlready_41 0 rfl rfl 10 (by decide) hw_208 rfl ?_
              refine cx_iload_n C dX7_isThereAlready_44 2 rfl ?_
              obtain ⟨g9, hf⟩ := cx_gd_at hf
              refine cx_iald C dX7_isThereAlready_45 4 rfl (cx_ib_in g9) ?_
              clear g9
              refine cx_istore_n (lv' := [(3, .int (w_before (cx_ix x3_2))), (0, .ref (w_a 0)), (2, .int p2), (4, .int x4_3)]) C dX7_isThereAlready_46 rfl (by decide) rfl ?_
              refine cx_iinc (v := x4_3 + 1) (lv' := [(4, .int (x4_3 + 1)), (3, .int (w_before (cx_ix x3_2))), (0, .ref (w_a 0)), (2, .int p2)]) C dX7_isThereAlready_47 3 rfl rfl (by decide) rfl ?_
              refine cx_goto (tgt := 10) C dX7_isThereAlready_50 (by decide) ?_
              refine cx_lv [2, 3, 1, 0] rfl ?_
              exact ih10 (w_before (cx_ix x3_2)) (x4_3 + 1) hf
            · have hf := cx_if_t hf c8
              clear c8
              refine cx_iconst (v := 1) C dX7_isThereAlready_38 (by decide) ?_
              obtain rfl := Option.some.inj hf
              exact cx_zret C hA hQ hr hlk dX7_isThereAlready_39 rfl rfl rfl
  unfold f_X7_isThereAlready at hf
  refine cx_aload_n C dX7_isThereAlready_0 0 rfl ?_
  refine cx_get (v := .ref (w_a 4)) (ci := 6) C iX7 dX7_isThereAlready_1 0 rfl rfl 10 (by decide) hw_208 rfl ?_
  refine cx_iload_n C dX7_isThereAlready_4 1 rfl ?_
  obtain ⟨g1, hf⟩ := cx_gd_at hf
  refine cx_iald C dX7_isThereAlready_5 4 rfl (cx_ib_in g1) ?_
  clear g1
  refine cx_istore_n (lv' := [(3, .int (w_before (cx_ix p1))), (0, .ref (w_a 0)), (1, .int p1), (2, .int p2)]) C dX7_isThereAlready_6 rfl (by decide) rfl ?_
  refine cx_iconst (v := 0) C dX7_isThereAlready_7 (by decide) ?_
  refine cx_istore (lv' := [(4, .int 0), (3, .int (w_before (cx_ix p1))), (0, .ref (w_a 0)), (1, .int p1), (2, .int p2)]) C dX7_isThereAlready_8 (by decide) rfl ?_
  refine cx_lv [2, 4, 1, 0] rfl ?_
  exact L10 cx_N0 (w_before (cx_ix p1)) 0 hf
theorem dX7_joinings_0 : decode cX7_joinings 0 = .ok (.iconst 1, 1) := by decide +kernel
theorem dX7_joinings_1 : decode cX7_joinings 1 = .ok (.istore_n 3, 1) := by decide +kernel
theorem dX7_joinings_2 : decode cX7_joinings 2 = .ok (.iconst 0, 1) := by decide +kernel
theorem dX7_joinings_3 : decode cX7_joinings 3 = .ok (.istore 4, 2) := by decide +kernel
theorem dX7_joinings_5 : decode cX7_joinings 5 = .ok (.iload 4, 2) := by decide +kernel
theorem dX7_joinings_7 : decode cX7_joinings 7 = .ok (.aload_n 0, 1) := by decide +kernel
theorem dX7_joinings_8 : decode cX7_joinings 8 = .ok (.getfield 68, 3) := by decide +kernel
theorem dX7_joinings_11 : decode cX7_joinings 11 = .ok (.getfield 217, 3) := by decide +kernel
theorem dX7_joinings_14 : decode cX7_joinings 14 = .ok (.getfield 88, 3) := by decide +kernel
theorem dX7_joinings_17 : decode cX7_joinings 17 = .ok (.if_icmp .ge 111, 3) := by decide +kernel
theorem dX7_joinings_20 : decode cX7_joinings 20 = .ok (.aload_n 0, 1) := by decide +kernel
theorem dX7_joinings_21 : decode cX7_joinings 21 = .ok (.getfield 68, 3) := by decide +kernel
theorem dX7_joinings_24 : decode cX7_joinings 24 = .ok (.getfield 217, 3) := by decide +kernel
theorem dX7_joinings_27 : decode cX7_joinings 27 = .ok (.iload 4, 2) := by decide +kernel
theorem dX7_joinings_29 : decode cX7_joinings 29 = .ok (.iconst 0, 1) := by decide +kernel
theorem dX7_joinings_30 : decode cX7_joinings 30 = .ok (.invokevirtual 93, 3) := by decide +kernel
theorem dX7_joinings_33 : decode cX7_joinings 33 = .ok (.istore 5, 2) := by decide +kernel
theorem dX7_joinings_35 : decode cX7_joinings 35 = .ok (.aload_n 0, 1) := by decide +kernel
theorem dX7_joinings_36 : decode cX7_joinings 36 = .ok (.getfield 68, 3) := by decide +kernel
theorem dX7_joinings_39 : decode cX7_joinings 39 = .ok (.getfield 217, 3) := by decide +kernel
theorem dX7_joinings_42 : decode cX7_joinings 42 = .ok (.iload 4, 2) := by decide +kernel
theorem dX7_joinings_44 : decode cX7_joinings 44 = .ok (.iconst 1, 1) := by decide +kernel
theorem dX7_joinings_45 : decode cX7_joinings 45 = .ok (.invokevirtual 93, 3) := by decide +kernel
theorem dX7_joinings_48 : decode cX7_joinings 48 = .ok (.istore 6, 2) := by decide +kernel
theorem dX7_joinings_50 : decode cX7_joinings 50 = .ok (.iload 5, 2) := by decide +kernel
theorem dX7_joinings_52 : decode cX7_joinings 52 = .ok (.iload 6, 2) := by decide +kernel
theorem dX7_joinings_54 : decode cX7_joinings 54 = .ok (.invokestatic 220, 3) := by decide +kernel
theorem dX7_joinings_57 : decode cX7_joinings 57 = .ok (.iload_n 1, 1) := by decide +kernel
theorem dX7_joinings_58 : decode cX7_joinings 58 = .ok (.if_icmp .ne 64, 3) := by decide +kernel
theorem dX7_joinings_61 : decode cX7_joinings 61 = .ok (.aload_n 0, 1) := by decide +kernel
theorem dX7_joinings_62 : decode cX7_joinings 62 = .ok (.getfield 68, 3) := by decide +kernel
theorem dX7_joinings_65 : decode cX7_joinings 65 = .ok (.getfield 217, 3) := by decide +kernel
theorem dX7_joinings_68 : decode cX7_joinings 68 = .ok (.iload 4, 2) := by decide +kernel
theorem dX7_joinings_70 : decode cX7_joinings 70 = .ok (.iconst 2, 1) := by decide +kernel
theorem dX7_joinings_71 : decode cX7_joinings 71 = .ok (.invokevirtual 93, 3) := by decide +kernel
theorem dX7_joinings_74 : decode cX7_joinings 74 = .ok (.istore 7, 2) := by decide +kernel
theorem dX7_joinings_76 : decode cX7_joinings 76 = .ok (.iload_n 2, 1) := by decide +kernel
theorem dX7_joinings_77 : decode cX7_joinings 77 = .ok (.iconst 5, 1) := by decide +kernel
theorem dX7_joinings_78 : decode cX7_joinings 78 = .ok (.if_icmp .eq 23, 3) := by decide +kernel
theorem dX7_joinings_81 : decode cX7_joinings 81 = .ok (.aload_n 0, 1) := by decide +kernel
theorem dX7_joinings_82 : decode cX7_joinings 82 = .ok (.getfield 65, 3) := by decide +kernel
theorem dX7_joinings_85 : decode cX7_joinings 85 = .ok (.iload 5, 2) := by decide +kernel
theorem dX7_joinings_87 : decode cX7_joinings 87 = .ok (.iload 6, 2) := by decide +kernel
theorem dX7_joinings_89 : decode cX7_joinings 89 = .ok (.invokestatic 97, 3) := by decide +kernel
theorem dX7_joinings_92 : decode cX7_joinings 92 = .ok (.iaload, 1) := by decide +kernel
theorem dX7_joinings_93 : decode cX7_joinings 93 = .ok (.iload_n 2, 1) := by decide +kernel
theorem dX7_joinings_94 : decode cX7_joinings 94 = .ok (.if_icmp .ne 7, 3) := by decide +kernel
theorem dX7_joinings_97 : decode cX7_joinings 97 = .ok (.iconst 1, 1) := by decide +kernel
theorem dX7_joinings_98 : decode cX7_joinings 98 = .ok (.goto 4, 3) := by decide +kernel
theorem dX7_joinings_101 : decode cX7_joinings 101 = .ok (.iconst 0, 1) := by decide +kernel
theorem dX7_joinings_102 : decode cX7_joinings 102 = .ok (.istore 8, 2) := by decide +kernel
theorem dX7_joinings_104 : decode cX7_joinings 104 = .ok (.iload_n 3, 1) := by decide +kernel
theorem dX7_joinings_105 : decode cX7_joinings 105 = .ok (.iload 8, 2) := by decide +kernel
theorem dX7_joinings_107 : decode cX7_joinings 107 = .ok (.ifCond .eq 8, 3) := by decide +kernel
theorem dX7_joinings_110 : decode cX7_joinings 110 = .ok (.iload 7, 2) := by decide +kernel
theorem dX7_joinings_112 : decode cX7_joinings 112 = .ok (.goto 8, 3) := by decide +kernel
theorem dX7_joinings_115 : decode cX7_joinings 115 = .ok (.bipush 10, 2) := by decide +kernel
theorem dX7_joinings_117 : decode cX7_joinings 117 = .ok (.iload 7, 2) := by decide +kernel
theorem dX7_joinings_119 : decode cX7_joinings 119 = .ok (.isub, 1) := by decide +kernel
theorem dX7_joinings_120 : decode cX7_joinings 120 = .ok (.imul, 1) := by decide +kernel
theorem dX7_joinings_121 : decode cX7_joinings 121 = .ok (.istore_n 3, 1) := by decide +kernel
theorem dX7_joinings_122 : decode cX7_joinings 122 = .ok (.iinc 4 1, 3) := by decide +kernel
theorem dX7_joinings_125 : decode cX7_joinings 125 = .ok (.goto (-120), 3) := by decide +kernel
theorem dX7_joinings_128 : decode cX7_joinings 128 = .ok (.iload_n 3, 1) := by decide +kernel
theorem dX7_joinings_129 : decode cX7_joinings 129 = .ok (.ireturn, 1) := by decide +kernel
theorem me_X7_joinings : cx_Mv yX7_joinings cX7_joinings 9 (some .int) 2 := ⟨⟨⟨by decide +kernel, by decide +kernel, by decide +kernel⟩, hw_7, hw_720⟩, hw_719, hs_19⟩
noncomputable def f_X7_joinings_J122 (x4_2 : Int32) (rc5 : Int32 → Int32 → Option Int32) (x3_9 : Int32) : Option Int32 := rc5 x3_9 (x4_2 + 1)
noncomputable def f_X7_joinings_J120 (x3_1 : Int32) (x4_2 : Int32) (rc5 : Int32 → Int32 → Option Int32) (s1_17 : Int32) : Option Int32 := f_X7_joinings_J122 x4_2 rc5 (x3_1 * s1_17)
noncomputable def f_X7_joinings_J102 (x3_1 : Int32) (x4_2 : Int32) (rc5 : Int32 → Int32 → Option Int32) (x7_14 : Int32) (s0_15 : Int32) : Option Int32 := if s0_15 = 0 then (f_X7_joinings_J120 x3_1 x4_2 rc5 (10 - x7_14)) else (f_X7_joinings_J120 x3_1 x4_2 rc5 x7_14)
noncomputable def f_X7_joinings_J101 (x3_1 : Int32) (x4_2 : Int32) (rc5 : Int32 → Int32 → Option Int32) (x7_13 : Int32) : Option Int32 := f_X7_joinings_J102 x3_1 x4_2 rc5 x7_13 0
noncomputable def f_X7_joinings_L5 (w_way : Nat → Int32) (b_c4 : Nat → Int32) (b_z4 : Int32) (p1 : Int32) (p2 : Int32) (rc5 : Int32 → Int32 → Option Int32) (x3_1 : Int32) (x4_2 : Int32) : Option Int32 := if b_z4 ≤ x4_2 then (some x3_1) else (Option.bind (f_X4_at 3 12 b_c4 b_z4 x4_2 0) (fun u4 => Option.bind (f_X4_at 3 12 b_c4 b_z4 x4_2 1) (fun u6 => if (if u4 < u6 then u6 else u4) = p1 then (Option.bind (f_X4_at 3 12 b_c4 b_z4 x4_2 2) (fun u10 => if p2 = 5 then (f_X7_joinings_J101 x3_1 x4_2 rc5 u10) else (cx_gd (cx_ib (if u6 < u4 then u6 else u4) 6) (if (w_way (cx_ix (if u6 < u4 then u6 else u4))) = p2 then (f_X7_joinings_J102 x3_1 x4_2 rc5 u10 1) else (f_X7_joinings_J101 x3_1 x4_2 rc5 u10))))) else (f_X7_joinings_J122 x4_2 rc5 x3_1))))
noncomputable def f_X7_joinings_L5w (w_way : Nat → Int32) (b_c4 : Nat → Int32) (b_z4 : Int32) (p1 : Int32) (p2 : Int32) (n : Nat) : Int32 → Int32 → Option Int32 := Nat.rec (fun _ _ => none) (fun _ r => f_X7_joinings_L5 w_way b_c4 b_z4 p1 p2 r) n
noncomputable def f_X7_joinings (w_way : Nat → Int32) (b_c4 : Nat → Int32) (b_z4 : Int32) (p1 : Int32) (p2 : Int32) : Option Int32 := f_X7_joinings_L5w w_way b_c4 b_z4 p1 p2 cx_N0 1 0
set_option maxHeartbeats 4000000 in
set_option maxRecDepth 100000 in
theorem c_X7_joinings (l : Launch) (D : va_G) (k : Nat → ClassId) (w_a : Nat → Nat) (b_a : Nat → Nat) (s_a : Nat → Nat) (w_detail : Int32) (w_skipped : Int32) (w_early : Int32) (w_late : Int32) (w_firstOnly : Int32) (w_firstYear : Nat → Int32) (w_years : Nat → Int32) (w_place : Nat → Int32) (w_before : Nat → Int32) (w_closing : Nat → Int32) (w_likes : Nat → Int32) (w_likeSums : Nat → Int32) (w_namings : Nat → Int32) (w_products : Nat → Int64) (w_weights : Nat → Int64) (w_subtotals : Nat → Int64) (w_way : Nat → Int32) (b_c0 : Nat → Int32) (b_z0 : Int32) (b_c1 : Nat → Int32) (b_z1 : Int32) (b_c2 : Nat → Int32) (b_z2 : Int32) (b_c3 : Nat → Int32) (b_z3 : Int32) (b_c4 : Nat → Int32) (b_z4 : Int32) (b_sg : Int32) (s_np : Nat) (s_total : Nat → Int64) (s_shares : Nat → Int64) (s_pairs : Nat → Int64) (s_crowds : Nat → Int64) (s_bestWay : Nat → Int32) (s_bestWeight : Nat → Int64) (s_answer : Nat → Int64) (s_mine : Nat → Int64) (s_theirs : Nat → Int64) (s_people : Int32) (s_heads : Int32) (p1 : Int32) (p2 : Int32) (y : Int32) (hf : f_X7_joinings w_way b_c4 b_z4 p1 p2 = some y) : cx_M l yX7_joinings cX7_joinings 9 (some .int) 2 D k [.ref (w_a 0), .int p1, .int p2] (wd_Ways k w_a b_a s_a w_detail w_skipped w_early w_late w_firstOnly w_firstYear w_years w_place w_before w_closing w_likes w_likeSums w_namings w_products w_weights w_subtotals w_way ++ (wd_Box k b_a b_c0 b_z0 b_c1 b_z1 b_c2 b_z2 b_c3 b_z3 b_c4 b_z4 b_sg ++ (wd_Sums k s_a s_np s_total s_shares s_pairs s_crowds s_bestWay s_bestWeight s_answer s_mine s_theirs s_people s_heads))) (fun sz => cx_Qi D y (wd_Ways k w_a b_a s_a w_detail w_skipped w_early w_late w_firstOnly w_firstYear w_years w_place w_before w_closing w_likes w_likeSums w_namings w_products w_weights w_subtotals w_way ++ (wd_Box k b_a b_c0 b_z0 b_c1 b_z1 b_c2 b_z2 b_c3 b_z3 b_c4 b_z4 b_sg ++ (wd_Sums k s_a s_np s_total s_shares s_pairs s_crowds s_bestWay s_bestWeight s_answer s_mine s_theirs s_people s_heads))) (wd_Ways k w_a b_a s_a w_detail w_skipped w_early w_late w_firstOnly w_firstYear w_years w_place w_before w_closing w_likes w_likeSums w_namings w_products w_weights w_subtotals w_way ++ (wd_Box k b_a b_c0 b_z0 b_c1 b_z1 b_c2 b_z2 b_c3 b_z3 b_c4 b_z4 b_sg ++ (wd_Sums k s_a s_np s_total s_shares s_pairs s_crowds s_bestWay s_bestWeight s_answer s_mine s_theirs s_people s_heads))) sz) := by
  refine cx_met (own := "NamelessBox$Ways") (by decide) rfl (Nat.le_of_ble_eq_true rfl) ?_
  intro p e s m args below meth c A Q C hA hQ hr hlk
  refine cx_lv (lv' := [(0, .ref (w_a 0)), (1, .int p1), (2, .int p2)]) [0, 1, 2] rfl ?_
  have L5 : ∀ (n5 : Nat) (x3_1 : Int32) (x4_2 : Int32), f_X7_joinings_L5w w_way b_c4 b_z4 p1 p2 n5 x3_1 x4_2 = some y → cx_S p l e (cx_rm 2) s m args below meth c A D 9 0 0 Q 5 [(0, .ref (w_a 0)), (1, .int p1), (2, .int p2), (3, .int x3_1), (4, .int x4_2)] [] (wd_Ways k w_a b_a s_a w_detail w_skipped w_early w_late w_firstOnly w_firstYear w_years w_place w_before w_closing w_likes w_likeSums w_namings w_products w_weights w_subtotals w_way ++ (wd_Box k b_a b_c0 b_z0 b_c1 b_z1 b_c2 b_z2 b_c3 b_z3 b_c4 b_z4 b_sg ++ (wd_Sums k s_a s_np s_total s_shares s_pairs s_crowds s_bestWay s_bestWeight s_answer s_mine s_theirs s_people s_heads))) := by
    intro  n5
    induction n5 with
    | zero =>
      intro x3_1 x4_2 hf
      exact absurd (show (none : Option Int32) = some y from hf) (fun h => by cases h)
    | succ n5 ih5 =>
      intro x3_1 x4_2 hf
      have hf : f_X7_joinings_L5 w_way b_c4 b_z4 p1 p2 (f_X7_joinings_L5w w_way b_c4 b_z4 p1 p2 n5) x3_1 x4_2 = some y := hf
      have J122 : ∀ (x3_9 : Int32), f_X7_joinings_J122 x4_2 (f_X7_joinings_L5w w_way b_c4 b_z4 p1 p2 n5) x3_9 = some y → cx_S p l e (cx_rm 2) s m args below meth c A D 9 0 0 Q 122 [(0, .ref (w_a 0)), (1, .int p1), (2, .int p2), (3, .int x3_9), (4, .int x4_2)] [] (wd_Ways k w_a b_a s_a w_detail w_skipped w_early w_late w_firstOnly w_firstYear w_years w_place w_before w_closing w_likes w_likeSums w_namings w_products w_weights w_subtotals w_way ++ (wd_Box k b_a b_c0 b_z0 b_c1 b_z1 b_c2 b_z2 b_c3 b_z3 b_c4 b_z4 b_sg ++ (wd_Sums k s_a s_np s_total s_shares s_pairs s_crowds s_bestWay s_bestWeight s_answer s_mine s_theirs s_people s_heads))) := by
        intro x3_9 hf
        unfold f_X7_joinings_J122 at hf
        refine cx_iinc (v := x4_2 + 1) (lv' := [(4, .int (x4_2 + 1)), (0, .ref (w_a 0)), (1, .int p1), (2, .int p2), (3, .int x3_9)]) C dX7_joinings_122 4 rfl rfl (by decide) rfl ?_
        refine cx_goto (tgt := 5) C dX7_joinings_125 (by decide) ?_
        refine cx_lv [1, 2, 3, 4, 0] rfl ?_
        exact ih5 x3_9 (x4_2 + 1) hf
      have J120 : ∀ (s1_17 : Int32), f_X7_joinings_J120 x3_1 x4_2 (f_X7_joinings_L5w w_way b_c4 b_z4 p1 p2 n5) s1_17 = some y → cx_S p l e (cx_rm 2) s m args below meth c A D 9 0 0 Q 120 [(0, .ref (w_a 0)), (1, .int p1), (2, .int p2), (4, .int x4_2)] [.int s1_17, .int x3_1] (wd_Ways k w_a b_a s_a w_detail w_skipped w_early w_late w_firstOnly w_firstYear w_years w_place w_before w_closing w_likes w_likeSums w_namings w_products w_weights w_subtotals w_way ++ (wd_Box k b_a b_c0 b_z0 b_c1 b_z1 b_c2 b_z2 b_c3 b_z3 b_c4 b_z4 b_sg ++ (wd_Sums k s_a s_np s_total s_shares s_pairs s_crowds s_bestWay s_bestWeight s_answer s_mine s_theirs s_people s_heads))) := by
        intro s1_17 hf
        unfold f_X7_joinings_J120 at hf
        refine cx_imul C dX7_joinings_120 ?_
        refine cx_istore_n (lv' := [(3, .int (x3_1 * s1_17)), (0, .ref (w_a 0)), (1, .int p1), (2, .int p2), (4, .int x4_2)]) C dX7_joinings_121 rfl (by decide) rfl ?_
        refine cx_lv [1, 2, 3, 0, 4] rfl ?_
        exact J122 (x3_1 * s1_17) hf
      have J102 : ∀ (x7_14 : Int32) (s0_15 : Int32), f_X7_joinings_J102 x3_1 x4_2 (f_X7_joinings_L5w w_way b_c4 b_z4 p1 p2 n5) x7_14 s0_15 = some y → cx_S p l e (cx_rm 2) s m args below meth c A D 9 0 0 Q 102 [(0, .ref (w_a 0)), (1, .int p1), (2, .int p2), (3, .int x3_1), (4, .int x4_2), (7, .int x7_14)] [.int s0_15] (wd_Ways k w_a b_a s_a w_detail w_skipped w_early w_late w_firstOnly w_firstYear w_years w_place w_before w_closing w_likes w_likeSums w_namings w_products w_weights w_subtotals w_way ++ (wd_Box k b_a b_c0 b_z0 b_c1 b_z1 b_c2 b_z2 b_c3 b_z3 b_c4 b_z4 b_sg ++ (wd_Sums k s_a s_np s_total s_shares s_pairs s_crowds s_bestWay s_bestWeight s_answer s_mine s_theirs s_people s_heads))) := by
        intro x7_14 s0_15 hf
        unfold f_X7_joinings_J102 at hf
        refine cx_istore (lv' := [(8, .int s0_15), (0, .ref (w_a 0)), (1, .int p1), (2, .int p2), (3, .int x3_1), (4, .int x4_2), (7, .int x7_14)]) C dX7_joinings_102 (by decide) rfl ?_
        refine cx_iload_n C dX7_joinings_104 4 rfl ?_
        refine cx_iload C dX7_joinings_105 0 rfl ?_
        refine cx_if_eq (tgt := 115) C dX7_joinings_107 (by decide) (fun c16 => ?_) (fun c16 => ?_)
        · have hf := cx_if_t hf c16
          clear c16
          refine cx_bipush (v := 10) C dX7_joinings_115 (by decide) ?_
          refine cx_iload C dX7_joinings_117 6 rfl ?_
          refine cx_isub C dX7_joinings_119 ?_
          refine cx_lv [1, 2, 3, 5] rfl ?_
          exact J120 (10 - x7_14) hf
        · have hf := cx_if_f hf c16
          clear c16
          refine cx_iload C dX7_joinings_110 6 rfl ?_
          refine cx_goto (tgt := 120) C dX7_joinings_112 (by decide) ?_
          refine cx_lv [1, 2, 3, 5] rfl ?_
          exact J120 x7_14 hf
      have J101 : ∀ (x7_13 : Int32), f_X7_joinings_J101 x3_1 x4_2 (f_X7_joinings_L5w w_way b_c4 b_z4 p1 p2 n5) x7_13 = some y → cx_S p l e (cx_rm 2) s m args below meth c A D 9 0 0 Q 101 [(0, .ref (w_a 0)), (1, .int p1), (2, .int p2), (3, .int x3_1), (4, .int x4_2), (7, .int x7_13)] [] (wd_Ways k w_a b_a s_a w_detail w_skipped w_early w_late w_firstOnly w_firstYear w_years w_place w_before w_closing w_likes w_likeSums w_namings w_products w_weights w_subtotals w_way ++ (wd_Box k b_a b_c0 b_z0 b_c1 b_z1 b_c2 b_z2 b_c3 b_z3 b_c4 b_z4 b_sg ++ (wd_Sums k s_a s_np s_total s_shares s_pairs s_crowds s_bestWay s_bestWeight s_answer s_mine s_theirs s_people s_heads))) := by
        intro x7_13 hf
        unfold f_X7_joinings_J101 at hf
        refine cx_iconst (v := 0) C dX7_joinings_101 (by decide) ?_
        exact J102 x7_13 0 hf
      unfold f_X7_joinings_L5 at hf
      refine cx_iload C dX7_joinings_5 4 rfl ?_
      refine cx_aload_n C dX7_joinings_7 0 rfl ?_
      refine cx_get (v := .ref (b_a 0)) (ci := 6) C iX7 dX7_joinings_8 0 rfl rfl 1 (by decide) hw_199 rfl ?_
      refine cx_get (v := .ref (b_a 9)) (ci := 1) C iX1 dX7_joinings_11 13 rfl rfl 4 (by decide) hw_75 rfl ?_
      refine cx_get (v := .int b_z4) (ci := 3) C iX4 dX7_joinings_14 22 rfl rfl 3 (by decide) hw_48 rfl ?_
      refine cx_icmp_ge (tgt := 128) C dX7_joinings_17 (by decide) (fun c3 => ?_) (fun c3 => ?_)
      · have hf := cx_if_t hf c3
        clear c3
        refine cx_iload_n C dX7_joinings_128 3 rfl ?_
        obtain rfl := Option.some.inj hf
        exact cx_iret C hA hQ hr hlk dX7_joinings_129 rfl rfl
      · have hf := cx_if_f hf c3
        clear c3
        refine cx_aload_n C dX7_joinings_20 0 rfl ?_
        refine cx_get (v := .ref (b_a 0)) (ci := 6) C iX7 dX7_joinings_21 0 rfl rfl 1 (by decide) hw_199 rfl ?_
        refine cx_get (v := .ref (b_a 9)) (ci := 1) C iX1 dX7_joinings_24 13 rfl rfl 4 (by decide) hw_75 rfl ?_
        refine cx_iload C dX7_joinings_27 4 rfl ?_
        refine cx_iconst (v := 0) C dX7_joinings_29 (by decide) ?_
        obtain ⟨u4, e5, hf⟩ := cx_bd_at hf
        refine cx_Kvi (q := (RX4, TX4, 4)) (As := [.int x4_2, .int 0]) (rest := []) hA C me_X4_at hw_630 (c_X4_at l D k (b_a 9) (b_a 10) 3 4 12 b_c4 b_z4 x4_2 0 u4 e5) dX7_joinings_30 ⟨Nat.le_of_ble_eq_true rfl, Nat.le_of_ble_eq_true rfl⟩ ⟨Nat.zero_le _, Nat.zero_le _⟩ rfl rfl (Nat.le_of_ble_eq_true rfl) rfl rfl [22, 23] rfl (by decide) ?_
        clear e5
        refine cx_istore (lv' := [(5, .int u4), (0, .ref (w_a 0)), (1, .int p1), (2, .int p2), (3, .int x3_1), (4, .int x4_2)]) C dX7_joinings_33 (by decide) rfl ?_
        refine cx_aload_n C dX7_joinings_35 1 rfl ?_
        refine cx_get (v := .ref (b_a 0)) (ci := 6) C iX7 dX7_joinings_36 0 rfl rfl 1 (by decide) hw_199 rfl ?_
        refine cx_get (v := .ref (b_a 9)) (ci := 1) C iX1 dX7_joinings_39 13 rfl rfl 4 (by decide) hw_75 rfl ?_
        refine cx_iload C dX7_joinings_42 5 rfl ?_
        refine cx_iconst (v := 1) C dX7_joinings_44 (by decide) ?_
        obtain ⟨u6, e7, hf⟩ := cx_bd_at hf
        refine cx_Kvi (q := (RX4, TX4, 4)) (As := [.int x4_2, .int 1]) (rest := []) hA C me_X4_at hw_630 (c_X4_at l D k (b_a 9) (b_a 10) 3 4 12 b_c4 b_z4 x4_2 1 u6 e7) dX7_joinings_45 ⟨Nat.le_of_ble_eq_true rfl, Nat.le_of_ble_eq_true rfl⟩ ⟨Nat.zero_le _, Nat.zero_le _⟩ rfl rfl (Nat.le_of_ble_eq_true rfl) rfl rfl [22, 23] rfl (by decide) ?_
        clear e7
        refine cx_istore (lv' := [(6, .int u6), (5, .int u4), (0, .ref (w_a 0)), (1, .int p1), (2, .int p2), (3, .int x3_1), (4, .int x4_2)]) C dX7_joinings_48 (by decide) rfl ?_
        refine cx_iload C dX7_joinings_50 1 rfl ?_
        refine cx_iload C dX7_joinings_52 0 rfl ?_
        refine cx_mmax C dX7_joinings_54 hw_721 hw_40 hw_4 hw_41 (Nat.le_of_ble_eq_true rfl) (Nat.le_of_ble_eq_true rfl) ⟨Nat.zero_le _, Nat.zero_le _⟩ ?_
        refine cx_iload_n C dX7_joinings_57 3 rfl ?_
        refine cx_icmp_ne (tgt := 122) C dX7_joinings_58 (by decide) (fun c8 => ?_) (fun c8 => ?_)
        · have hf := cx_if_f hf c8
          clear c8
          refine cx_lv [2, 3, 4, 5, 6] rfl ?_
          exact J122 x3_1 hf
        · have hf := cx_if_t hf c8
          clear c8
          refine cx_aload_n C dX7_joinings_61 2 rfl ?_
          refine cx_get (v := .ref (b_a 0)) (ci := 6) C iX7 dX7_joinings_62 0 rfl rfl 1 (by decide) hw_199 rfl ?_
          refine cx_get (v := .ref (b_a 9)) (ci := 1) C iX1 dX7_joinings_65 13 rfl rfl 4 (by decide) hw_75 rfl ?_
          refine cx_iload C dX7_joinings_68 6 rfl ?_
          refine cx_iconst (v := 2) C dX7_joinings_70 (by decide) ?_
          obtain ⟨u10, e11, hf⟩ := cx_bd_at hf
          refine cx_Kvi (q := (RX4, TX4, 4)) (As := [.int x4_2, .int 2]) (rest := []) hA C me_X4_at hw_630 (c_X4_at l D k (b_a 9) (b_a 10) 3 4 12 b_c4 b_z4 x4_2 2 u10 e11) dX7_joinings_71 ⟨Nat.le_of_ble_eq_true rfl, Nat.le_of_ble_eq_true rfl⟩ ⟨Nat.zero_le _, Nat.zero_le _⟩ rfl rfl (Nat.le_of_ble_eq_true rfl) rfl rfl [22, 23] rfl (by decide) ?_
          clear e11
          refine cx_istore (lv' := [(7, .int u10), (6, .int u6), (5, .int u4), (0, .ref (w_a 0)), (1, .int p1), (2, .int p2), (3, .int x3_1), (4, .int x4_2)]) C dX7_joinings_74 (by decide) rfl ?_
          refine cx_iload_n C dX7_joinings_76 5 rfl ?_
          refine cx_iconst (v := 5) C dX7_joinings_77 (by decide) ?_
          refine cx_icmp_eq (tgt := 101) C dX7_joinings_78 (by decide) (fun c12 => ?_) (fun c12 => ?_)
          · have hf := cx_if_t hf c12
            clear c12
            refine cx_lv [3, 4, 5, 6, 7, 0] rfl ?_
            exact J101 u10 hf
          · have hf := cx_if_f hf c12
            clear c12
            refine cx_aload_n C dX7_joinings_81 3 rfl ?_
            refine cx_get (v := .ref (w_a 12)) (ci := 6) C iX7 dX7_joinings_82 0 rfl rfl 18 (by decide) hw_216 rfl ?_
            refine cx_iload C dX7_joinings_85 2 rfl ?_
            refine cx_iload C dX7_joinings_87 1 rfl ?_
            refine cx_mmin C dX7_joinings_89 hw_631 hw_612 hw_4 hw_613 (Nat.le_of_ble_eq_true rfl) (Nat.le_of_ble_eq_true rfl) ⟨Nat.zero_le _, Nat.zero_le _⟩ ?_
            obtain ⟨g18, hf⟩ := cx_gd_at hf
            refine cx_iald C dX7_joinings_92 12 rfl (cx_ib_in g18) ?_
            clear g18
            refine cx_iload_n C dX7_joinings_93 5 rfl ?_
            refine cx_icmp_ne (tgt := 101) C dX7_joinings_94 (by decide) (fun c19 => ?_) (fun c19 => ?_)
            · have hf := cx_if_f hf c19
              clear c19
              refine cx_lv [3, 4, 5, 6, 7, 0] rfl ?_
              exact J101 u10 hf
            · have hf := cx_if_t hf c19
              clear c19
              refine cx_iconst (v := 1) C dX7_joinings_97 (by decide) ?_
              refine cx_goto (tgt := 102) C dX7_joinings_98 (by decide) ?_
              refine cx_lv [3, 4, 5, 6, 7, 0] rfl ?_
              exact J102 u10 1 hf
  unfold f_X7_joinings at hf
  refine cx_iconst (v := 1) C dX7_joinings_0 (by decide) ?_
  refine cx_istore_n (lv' := [(3, .int 1), (0, .ref (w_a 0)), (1, .int p1), (2, .int p2)]) C dX7_joinings_1 rfl (by decide) rfl ?_
  refine cx_iconst (v := 0) C dX7_joinings_2 (by decide) ?_
  refine cx_istore (lv' := [(4, .int 0), (3, .int 1), (0, .ref (w_a 0)), (1, .int p1), (2, .int p2)]) C dX7_joinings_3 (by decide) rfl ?_
  refine cx_lv [2, 3, 4, 1, 0] rfl ?_
  exact L5 cx_N0 1 0 hf
theorem dX7_areBothTold_0 : decode cX7_areBothTold 0 = .ok (.aload_n 0, 1) := by decide +kernel
theorem dX7_areBothTold_1 : decode cX7_areBothTold 1 = .ok (.getfield 41, 3) := by decide +kernel
theorem dX7_areBothTold_4 : decode cX7_areBothTold 4 = .ok (.aload_n 0, 1) := by decide +kernel
theorem dX7_areBothTold_5 : decode cX7_areBothTold 5 = .ok (.getfield 18, 3) := by decide +kernel
theorem dX7_areBothTold_8 : decode cX7_areBothTold 8 = .ok (.iaload, 1) := by decide +kernel
theorem dX7_areBothTold_9 : decode cX7_areBothTold 9 = .ok (.iload_n 1, 1) := by decide +kernel
theorem dX7_areBothTold_10 : decode cX7_areBothTold 10 = .ok (.if_icmp .le 17, 3) := by decide +kernel
theorem dX7_areBothTold_13 : decode cX7_areBothTold 13 = .ok (.aload_n 0, 1) := by decide +kernel
theorem dX7_areBothTold_14 : decode cX7_areBothTold 14 = .ok (.getfield 41, 3) := by decide +kernel
theorem dX7_areBothTold_17 : decode cX7_areBothTold 17 = .ok (.aload_n 0, 1) := by decide +kernel
theorem dX7_areBothTold_18 : decode cX7_areBothTold 18 = .ok (.getfield 18, 3) := by decide +kernel
theorem dX7_areBothTold_21 : decode cX7_areBothTold 21 = .ok (.iaload, 1) := by decide +kernel
theorem dX7_areBothTold_22 : decode cX7_areBothTold 22 = .ok (.bipush 6, 2) := by decide +kernel
theorem dX7_areBothTold_24 : decode cX7_areBothTold 24 = .ok (.if_icmp .ne 34, 3) := by decide +kernel
theorem dX7_areBothTold_27 : decode cX7_areBothTold 27 = .ok (.aload_n 0, 1) := by decide +kernel
theorem dX7_areBothTold_28 : decode cX7_areBothTold 28 = .ok (.getfield 41, 3) := by decide +kernel
theorem dX7_areBothTold_31 : decode cX7_areBothTold 31 = .ok (.aload_n 0, 1) := by decide +kernel
theorem dX7_areBothTold_32 : decode cX7_areBothTold 32 = .ok (.getfield 21, 3) := by decide +kernel
theorem dX7_areBothTold_35 : decode cX7_areBothTold 35 = .ok (.iaload, 1) := by decide +kernel
theorem dX7_areBothTold_36 : decode cX7_areBothTold 36 = .ok (.iload_n 1, 1) := by decide +kernel
theorem dX7_areBothTold_37 : decode cX7_areBothTold 37 = .ok (.if_icmp .le 17, 3) := by decide +kernel
theorem dX7_areBothTold_40 : decode cX7_areBothTold 40 = .ok (.aload_n 0, 1) := by decide +kernel
theorem dX7_areBothTold_41 : decode cX7_areBothTold 41 = .ok (.getfield 41, 3) := by decide +kernel
theorem dX7_areBothTold_44 : decode cX7_areBothTold 44 = .ok (.aload_n 0, 1) := by decide +kernel
theorem dX7_areBothTold_45 : decode cX7_areBothTold 45 = .ok (.getfield 21, 3) := by decide +kernel
theorem dX7_areBothTold_48 : decode cX7_areBothTold 48 = .ok (.iaload, 1) := by decide +kernel
theorem dX7_areBothTold_49 : decode cX7_areBothTold 49 = .ok (.bipush 6, 2) := by decide +kernel
theorem dX7_areBothTold_51 : decode cX7_areBothTold 51 = .ok (.if_icmp .ne 7, 3) := by decide +kernel
theorem dX7_areBothTold_54 : decode cX7_areBothTold 54 = .ok (.iconst 1, 1) := by decide +kernel
theorem dX7_areBothTold_55 : decode cX7_areBothTold 55 = .ok (.goto 4, 3) := by decide +kernel
theorem dX7_areBothTold_58 : decode cX7_areBothTold 58 = .ok (.iconst 0, 1) := by decide +kernel
theorem dX7_areBothTold_59 : decode cX7_areBothTold 59 = .ok (.ireturn, 1) := by decide +kernel
theorem me_X7_areBothTold : cx_Mv yX7_areBothTold cX7_areBothTold 2 (some .boolean) 1 := ⟨⟨⟨by decide +kernel, by decide +kernel, by decide +kernel⟩, hw_7, hw_737⟩, hw_736, hs_23⟩
noncomputable def f_X7_areBothTold_J54  : Option Int32 := some 1
noncomputable def f_X7_areBothTold_J27 (w_late : Int32) (w_closing : Nat → Int32) (p1 : Int32) : Option Int32 := cx_gd (cx_ib w_late 4) (if (w_closing (cx_ix w_late)) ≤ p1 then (f_X7_areBothTold_J54) else (cx_gd (cx_ib w_late 4) (if (w_closing (cx_ix w_late)) = 6 then (f_X7_areBothTold_J54) else (some 0))))
noncomputable def f_X7_areBothTold (w_early : Int32) (w_late : Int32) (w_closing : Nat → Int32) (p1 : Int32) : Option Int32 := cx_gd (cx_ib w_early 4) (if (w_closing (cx_ix w_early)) ≤ p1 then (f_X7_areBothTold_J27 w_late w_closing p1) else (cx_gd (cx_ib w_early 4) (if (w_closing (cx_ix w_early)) = 6 then (f_X7_areBothTold_J27 w_late w_closing p1) else (some 0))))
set_option maxHeartbeats 4000000 in
set_option maxRecDepth 100000 in
theorem c_X7_areBothTold (l : Launch) (D : va_G) (k : Nat → ClassId) (w_a : Nat → Nat) (b_a : Nat → Nat) (s_a : Nat → Nat) (w_detail : Int32) (w_skipped : Int32) (w_early : Int32) (w_late : Int32) (w_firstOnly : Int32) (w_firstYear : Nat → Int32) (w_years : Nat → Int32) (w_place : Nat → Int32) (w_before : Nat → Int32) (w_closing : Nat → Int32) (w_likes : Nat → Int32) (w_likeSums : Nat → Int32) (w_namings : Nat → Int32) (w_products : Nat → Int64) (w_weights : Nat → Int64) (w_subtotals : Nat → Int64) (w_way : Nat → Int32) (b_c0 : Nat → Int32) (b_z0 : Int32) (b_c1 : Nat → Int32) (b_z1 : Int32) (b_c2 : Nat → Int32) (b_z2 : Int32) (b_c3 : Nat → Int32) (b_z3 : Int32) (b_c4 : Nat → Int32) (b_z4 : Int32) (b_sg : Int32) (s_np : Nat) (s_total : Nat → Int64) (s_shares : Nat → Int64) (s_pairs : Nat → Int64) (s_crowds : Nat → Int64) (s_bestWay : Nat → Int32) (s_bestWeight : Nat → Int64) (s_answer : Nat → Int64) (s_mine : Nat → Int64) (s_theirs : Nat → Int64) (s_people : Int32) (s_heads : Int32) (p1 : Int32) (y : Int32) (hf : f_X7_areBothTold w_early w_late w_closing p1 = some y) : cx_M l yX7_areBothTold cX7_areBothTold 2 (some .boolean) 1 D k [.ref (w_a 0), .int p1] (wd_Ways k w_a b_a s_a w_detail w_skipped w_early w_late w_firstOnly w_firstYear w_years w_place w_before w_closing w_likes w_likeSums w_namings w_products w_weights w_subtotals w_way ++ (wd_Box k b_a b_c0 b_z0 b_c1 b_z1 b_c2 b_z2 b_c3 b_z3 b_c4 b_z4 b_sg ++ (wd_Sums k s_a s_np s_total s_shares s_pairs s_crowds s_bestWay s_bestWeight s_answer s_mine s_theirs s_people s_heads))) (fun sz => cx_Qi D y (wd_Ways k w_a b_a s_a w_detail w_skipped w_early w_late w_firstOnly w_firstYear w_years w_place w_before w_closing w_likes w_likeSums w_namings w_products w_weights w_subtotals w_way ++ (wd_Box k b_a b_c0 b_z0 b_c1 b_z1 b_c2 b_z2 b_c3 b_z3 b_c4 b_z4 b_sg ++ (wd_Sums k s_a s_np s_total s_shares s_pairs s_crowds s_bestWay s_bestWeight s_answer s_mine s_theirs s_people s_heads))) (wd_Ways k w_a b_a s_a w_detail w_skipped w_early w_late w_firstOnly w_firstYear w_years w_place w_before w_closing w_likes w_likeSums w_namings w_products w_weights w_subtotals w_way ++ (wd_Box k b_a b_c0 b_z0 b_c1 b_z1 b_c2 b_z2 b_c3 b_z3 b_c4 b_z4 b_sg ++ (wd_Sums k s_a s_np s_total s_shares s_pairs s_crowds s_bestWay s_bestWeight s_answer s_mine s_theirs s_people s_heads))) sz) := by
  refine cx_met (own := "NamelessBox$Ways") (by decide) rfl (Nat.le_of_ble_eq_true rfl) ?_
  intro p e s m args below meth c A Q C hA hQ hr hlk
  refine cx_lv (lv' := [(0, .ref (w_a 0)), (1, .int p1)]) [0, 1] rfl ?_
  have J54 : f_X7_areBothTold_J54 = some y → cx_S p l e (cx_rm 1) s m args below meth c A D 2 0 0 Q 54 [] [] (wd_Ways k w_a b_a s_a w_detail w_skipped w_early w_late w_firstOnly w_firstYear w_years w_place w_before w_closing w_likes w_likeSums w_namings w_products w_weights w_subtotals w_way ++ (wd_Box k b_a b_c0 b_z0 b_c1 b_z1 b_c2 b_z2 b_c3 b_z3 b_c4 b_z4 b_sg ++ (wd_Sums k s_a s_np s_total s_shares s_pairs s_crowds s_bestWay s_bestWeight s_answer s_mine s_theirs s_people s_heads))) := by
    intro  hf
    unfold f_X7_areBothTold_J54 at hf
    refine cx_iconst (v := 1) C dX7_areBothTold_54 (by decide) ?_
    refine cx_goto (tgt := 59) C dX7_areBothTold_55 (by decide) ?_
    obtain rfl := Option.some.inj hf
    exact cx_zret C hA hQ hr hlk dX7_areBothTold_59 rfl rfl rfl
  have J27 : f_X7_areBothTold_J27 w_late w_closing p1 = some y → cx_S p l e (cx_rm 1) s m args below meth c A D 2 0 0 Q 27 [(0, .ref (w_a 0)), (1, .int p1)] [] (wd_Ways k w_a b_a s_a w_detail w_skipped w_early w_late w_firstOnly w_firstYear w_years w_place w_before w_closing w_likes w_likeSums w_namings w_products w_weights w_subtotals w_way ++ (wd_Box k b_a b_c0 b_z0 b_c1 b_z1 b_c2 b_z2 b_c3 b_z3 b_c4 b_z4 b_sg ++ (wd_Sums k s_a s_np s_total s_shares s_pairs s_crowds s_bestWay s_bestWeight s_answer s_mine s_theirs s_people s_heads))) := by
    intro  hf
    unfold f_X7_areBothTold_J27 at hf
    refine cx_aload_n C dX7_areBothTold_27 0 rfl ?_
    refine cx_get (v := .ref (w_a 5)) (ci := 6) C iX7 dX7_areBothTold_28 0 rfl rfl 11 (by decide) hw_209 rfl ?_
    refine cx_aload_n C dX7_areBothTold_31 0 rfl ?_
    refine cx_get (v := .int w_late) (ci := 6) C iX7 dX7_areBothTold_32 0 rfl rfl 5 (by decide) hw_203 rfl ?_
    obtain ⟨g3, hf⟩ := cx_gd_at hf
    refine cx_iald C dX7_areBothTold_35 5 rfl (cx_ib_in g3) ?_
    clear g3
    refine cx_iload_n C dX7_areBothTold_36 1 rfl ?_
    refine cx_icmp_le (tgt := 54) C dX7_areBothTold_37 (by decide) (fun c4 => ?_) (fun c4 => ?_)
    · have hf := cx_if_t hf c4
      clear c4
      refine cx_lv [] rfl ?_
      exact J54 hf
    · have hf := cx_if_f hf c4
      clear c4
      refine cx_aload_n C dX7_areBothTold_40 0 rfl ?_
      refine cx_get (v := .ref (w_a 5)) (ci := 6) C iX7 dX7_areBothTold_41 0 rfl rfl 11 (by decide) hw_209 rfl ?_
      refine cx_aload_n C dX7_areBothTold_44 0 rfl ?_
      refine cx_get (v := .int w_late) (ci := 6) C iX7 dX7_areBothTold_45 0 rfl rfl 5 (by decide) hw_203 rfl ?_
      obtain ⟨g5, hf⟩ := cx_gd_at hf
      refine cx_iald C dX7_areBothTold_48 5 rfl (cx_ib_in g5) ?_
      clear g5
      refine cx_bipush (v := 6) C dX7_areBothTold_49 (by decide) ?_
      refine cx_icmp_ne (tgt := 58) C dX7_areBothTold_51 (by decide) (fun c6 => ?_) (fun c6 => ?_)
      · have hf := cx_if_f hf c6
        clear c6
        refine cx_iconst (v := 0) C dX7_areBothTold_58 (by decide) ?_
        obtain rfl := Option.some.inj hf
        exact cx_zret C hA hQ hr hlk dX7_areBothTold_59 rfl rfl rfl
      · have hf := cx_if_t hf c6
        clear c6
        refine cx_lv [] rfl ?_
        exact J54 hf
  unfold f_X7_areBothTold at hf
  refine cx_aload_n C dX7_areBothTold_0 0 rfl ?_
  refine cx_get (v := .ref (w_a 5)) (ci := 6) C iX7 dX7_areBothTold_1 0 rfl rfl 11 (by decide) hw_209 rfl ?_
  refine cx_aload_n C dX7_areBothTold_4 0 rfl ?_
  refine cx_get (v := .int w_early) (ci := 6) C iX7 dX7_areBothTold_5 0 rfl rfl 4 (by decide) hw_202 rfl ?_
  obtain ⟨g1, hf⟩ := cx_gd_at hf
  refine cx_iald C dX7_areBothTold_8 5 rfl (cx_ib_in g1) ?_
  clear g1
  refine cx_iload_n C dX7_areBothTold_9 1 rfl ?_
  refine cx_icmp_le (tgt := 27) C dX7_areBothTold_10 (by decide) (fun c2 => ?_) (fun c2 => ?_)
  · have hf := cx_if_t hf c2
    clear c2
    exact J27 hf
  · have hf := cx_if_f hf c2
    clear c2
    refine cx_aload_n C dX7_areBothTold_13 0 rfl ?_
    refine cx_get (v := .ref (w_a 5)) (ci := 6) C iX7 dX7_areBothTold_14 0 rfl rfl 11 (by decide) hw_209 rfl ?_
    refine cx_aload_n C dX7_areBothTold_17 0 rfl ?_
    refine cx_get (v := .int w_early) (ci := 6) C iX7 dX7_areBothTold_18 0 rfl rfl 4 (by decide) hw_202 rfl ?_
    obtain ⟨g7, hf⟩ := cx_gd_at hf
    refine cx_iald C dX7_areBothTold_21 5 rfl (cx_ib_in g7) ?_
    clear g7
    refine cx_bipush (v := 6) C dX7_areBothTold_22 (by decide) ?_
    refine cx_icmp_ne (tgt := 58) C dX7_areBothTold_24 (by decide) (fun c8 => ?_) (fun c8 => ?_)
    · have hf := cx_if_f hf c8
      clear c8
      refine cx_iconst (v := 0) C dX7_areBothTold_58 (by decide) ?_
      obtain rfl := Option.some.inj hf
      exact cx_zret C hA hQ hr hlk dX7_areBothTold_59 rfl rfl rfl
    · have hf := cx_if_t hf c8
      clear c8
      exact J27 hf
theorem dX7_multiplyYears_0 : decode cX7_multiplyYears 0 = .ok (.aload_n 0, 1) := by decide +kernel
theorem dX7_multiplyYears_1 : decode cX7_multiplyYears 1 = .ok (.getfield 38, 3) := by decide +kernel
theorem dX7_multiplyYears_4 : decode cX7_multiplyYears 4 = .ok (.iload_n 1, 1) := by decide +kernel
theorem dX7_multiplyYears_5 : decode cX7_multiplyYears 5 = .ok (.iaload, 1) := by decide +kernel
theorem dX7_multiplyYears_6 : decode cX7_multiplyYears 6 = .ok (.bipush 12, 2) := by decide +kernel
theorem dX7_multiplyYears_8 : decode cX7_multiplyYears 8 = .ok (.imul, 1) := by decide +kernel
theorem dX7_multiplyYears_9 : decode cX7_multiplyYears 9 = .ok (.istore_n 3, 1) := by decide +kernel
theorem dX7_multiplyYears_10 : decode cX7_multiplyYears 10 = .ok (.iload_n 1, 1) := by decide +kernel
theorem dX7_multiplyYears_11 : decode cX7_multiplyYears 11 = .ok (.bipush 6, 2) := by decide +kernel
theorem dX7_multiplyYears_13 : decode cX7_multiplyYears 13 = .ok (.imul, 1) := by decide +kernel
theorem dX7_multiplyYears_14 : decode cX7_multiplyYears 14 = .ok (.iload_n 2, 1) := by decide +kernel
theorem dX7_multiplyYears_15 : decode cX7_multiplyYears 15 = .ok (.iadd, 1) := by decide +kernel
theorem dX7_multiplyYears_16 : decode cX7_multiplyYears 16 = .ok (.bipush 12, 2) := by decide +kernel
theorem dX7_multiplyYears_18 : decode cX7_multiplyYears 18 = .ok (.imul, 1) := by decide +kernel
theorem dX7_multiplyYears_19 : decode cX7_multiplyYears 19 = .ok (.istore 4, 2) := by decide +kernel
theorem dX7_multiplyYears_21 : decode cX7_multiplyYears 21 = .ok (.aload_n 0, 1) := by decide +kernel
theorem dX7_multiplyYears_22 : decode cX7_multiplyYears 22 = .ok (.getfield 32, 3) := by decide +kernel
theorem dX7_multiplyYears_25 : decode cX7_multiplyYears 25 = .ok (.aload_n 0, 1) := by decide +kernel
theorem dX7_multiplyYears_26 : decode cX7_multiplyYears 26 = .ok (.getfield 35, 3) := by decide +kernel
theorem dX7_multiplyYears_29 : decode cX7_multiplyYears 29 = .ok (.iload_n 1, 1) := by decide +kernel
theorem dX7_multiplyYears_30 : decode cX7_multiplyYears 30 = .ok (.iaload, 1) := by decide +kernel
theorem dX7_multiplyYears_31 : decode cX7_multiplyYears 31 = .ok (.iaload, 1) := by decide +kernel
theorem dX7_multiplyYears_32 : decode cX7_multiplyYears 32 = .ok (.istore 5, 2) := by decide +kernel
theorem dX7_multiplyYears_34 : decode cX7_multiplyYears 34 = .ok (.iconst 0, 1) := by decide +kernel
theorem dX7_multiplyYears_35 : decode cX7_multiplyYears 35 = .ok (.istore 6, 2) := by decide +kernel
theorem dX7_multiplyYears_37 : decode cX7_multiplyYears 37 = .ok (.iconst 0, 1) := by decide +kernel
theorem dX7_multiplyYears_38 : decode cX7_multiplyYears 38 = .ok (.istore 7, 2) := by decide +kernel
theorem dX7_multiplyYears_40 : decode cX7_multiplyYears 40 = .ok (.iload 7, 2) := by decide +kernel
theorem dX7_multiplyYears_42 : decode cX7_multiplyYears 42 = .ok (.iload 5, 2) := by decide +kernel
theorem dX7_multiplyYears_44 : decode cX7_multiplyYears 44 = .ok (.if_icmp .ge 65, 3) := by decide +kernel
theorem dX7_multiplyYears_47 : decode cX7_multiplyYears 47 = .ok (.aload_n 0, 1) := by decide +kernel
theorem dX7_multiplyYears_48 : decode cX7_multiplyYears 48 = .ok (.getfield 53, 3) := by decide +kernel
theorem dX7_multiplyYears_51 : decode cX7_multiplyYears 51 = .ok (.iload_n 3, 1) := by decide +kernel
theorem dX7_multiplyYears_52 : decode cX7_multiplyYears 52 = .ok (.iload 7, 2) := by decide +kernel
theorem dX7_multiplyYears_54 : decode cX7_multiplyYears 54 = .ok (.iadd, 1) := by decide +kernel
theorem dX7_multiplyYears_55 : decode cX7_multiplyYears 55 = .ok (.laload, 1) := by decide +kernel
theorem dX7_multiplyYears_56 : decode cX7_multiplyYears 56 = .ok (.aload_n 0, 1) := by decide +kernel
theorem dX7_multiplyYears_57 : decode cX7_multiplyYears 57 = .ok (.getfield 44, 3) := by decide +kernel
theorem dX7_multiplyYears_60 : decode cX7_multiplyYears 60 = .ok (.iload 4, 2) := by decide +kernel
theorem dX7_multiplyYears_62 : decode cX7_multiplyYears 62 = .ok (.iload 7, 2) := by decide +kernel
theorem dX7_multiplyYears_64 : decode cX7_multiplyYears 64 = .ok (.iadd, 1) := by decide +kernel
theorem dX7_multiplyYears_65 : decode cX7_multiplyYears 65 = .ok (.iaload, 1) := by decide +kernel
theorem dX7_multiplyYears_66 : decode cX7_multiplyYears 66 = .ok (.i2l, 1) := by decide +kernel
theorem dX7_multiplyYears_67 : decode cX7_multiplyYears 67 = .ok (.lmul, 1) := by decide +kernel
theorem dX7_multiplyYears_68 : decode cX7_multiplyYears 68 = .ok (.lstore 8, 2) := by decide +kernel
theorem dX7_multiplyYears_70 : decode cX7_multiplyYears 70 = .ok (.aload_n 0, 1) := by decide +kernel
theorem dX7_multiplyYears_71 : decode cX7_multiplyYears 71 = .ok (.getfield 53, 3) := by decide +kernel
theorem dX7_multiplyYears_74 : decode cX7_multiplyYears 74 = .ok (.iload_n 1, 1) := by decide +kernel
theorem dX7_multiplyYears_75 : decode cX7_multiplyYears 75 = .ok (.bipush 12, 2) := by decide +kernel
theorem dX7_multiplyYears_77 : decode cX7_multiplyYears 77 = .ok (.imul, 1) := by decide +kernel
theorem dX7_multiplyYears_78 : decode cX7_multiplyYears 78 = .ok (.iload 7, 2) := by decide +kernel
theorem dX7_multiplyYears_80 : decode cX7_multiplyYears 80 = .ok (.iadd, 1) := by decide +kernel
theorem dX7_multiplyYears_81 : decode cX7_multiplyYears 81 = .ok (.lload 8, 2) := by decide +kernel
theorem dX7_multiplyYears_83 : decode cX7_multiplyYears 83 = .ok (.lastore, 1) := by decide +kernel
theorem dX7_multiplyYears_84 : decode cX7_multiplyYears 84 = .ok (.iload 6, 2) := by decide +kernel
theorem dX7_multiplyYears_86 : decode cX7_multiplyYears 86 = .ok (.ifCond .ne 10, 3) := by decide +kernel
theorem dX7_multiplyYears_89 : decode cX7_multiplyYears 89 = .ok (.lload 8, 2) := by decide +kernel
theorem dX7_multiplyYears_91 : decode cX7_multiplyYears 91 = .ok (.lconst 0, 1) := by decide +kernel
theorem dX7_multiplyYears_92 : decode cX7_multiplyYears 92 = .ok (.lcmp, 1) := by decide +kernel
theorem dX7_multiplyYears_93 : decode cX7_multiplyYears 93 = .ok (.ifCond .eq 7, 3) := by decide +kernel
theorem dX7_multiplyYears_96 : decode cX7_multiplyYears 96 = .ok (.iconst 1, 1) := by decide +kernel
theorem dX7_multiplyYears_97 : decode cX7_multiplyYears 97 = .ok (.goto 4, 3) := by decide +kernel
theorem dX7_multiplyYears_100 : decode cX7_multiplyYears 100 = .ok (.iconst 0, 1) := by decide +kernel
theorem dX7_multiplyYears_101 : decode cX7_multiplyYears 101 = .ok (.istore 6, 2) := by decide +kernel
theorem dX7_multiplyYears_103 : decode cX7_multiplyYears 103 = .ok (.iinc 7 1, 3) := by decide +kernel
theorem dX7_multiplyYears_106 : decode cX7_multiplyYears 106 = .ok (.goto (-66), 3) := by decide +kernel
theorem dX7_multiplyYears_109 : decode cX7_multiplyYears 109 = .ok (.iload 6, 2) := by decide +kernel
theorem dX7_multiplyYears_111 : decode cX7_multiplyYears 111 = .ok (.ireturn, 1) := by decide +kernel
theorem me_X7_multiplyYears : cx_Mv yX7_multiplyYears cX7_multiplyYears 10 (some .boolean) 2 := ⟨⟨⟨by decide +kernel, by decide +kernel, by decide +kernel⟩, hw_7, hw_733⟩, hw_732, hs_22⟩
noncomputable def f_X7_multiplyYears_J101 (x7_11 : Int32) (rc40 : (Nat → Int64) → Int32 → Int32 → Option (Int32 × (Nat → Int64))) (a_21 : Nat → Int64) (s0_22 : Int32) : Option (Int32 × (Nat → Int64)) := rc40 a_21 s0_22 (x7_11 + 1)
noncomputable def f_X7_multiplyYears_J96 (x7_11 : Int32) (rc40 : (Nat → Int64) → Int32 → Int32 → Option (Int32 × (Nat → Int64))) (a_20 : Nat → Int64) : Option (Int32 × (Nat → Int64)) := f_X7_multiplyYears_J101 x7_11 rc40 a_20 1
noncomputable def f_X7_multiplyYears_L40 (w_likes : Nat → Int32) (p1 : Int32) (x3_7 : Int32) (x4_8 : Int32) (x5_9 : Int32) (rc40 : (Nat → Int64) → Int32 → Int32 → Option (Int32 × (Nat → Int64))) (a_6 : Nat → Int64) (x6_10 : Int32) (x7_11 : Int32) : Option (Int32 × (Nat → Int64)) := if x5_9 ≤ x7_11 then (cx_gd (decide (x6_10 = 0 ∨ x6_10 = 1)) (some ((x6_10, a_6)))) else (cx_gd (cx_ib (x3_7 + x7_11) 84) (cx_gd (cx_ib (x4_8 + x7_11) 432) (cx_let ((a_6 (cx_ix (x3_7 + x7_11))) * (Int32.toInt64 (w_likes (cx_ix (x4_8 + x7_11))))) (fun v16 => cx_gd (cx_ib ((p1 * 12) + x7_11) 84) (cx_let (vp_updL a_6 (cx_ix ((p1 * 12) + x7_11)) v16) (fun a18 => if x6_10 = 0 then (if (lg_cmp v16 0) = 0 then (f_X7_multiplyYears_J101 x7_11 rc40 a18 0) else (f_X7_multiplyYears_J96 x7_11 rc40 a18)) else (f_X7_multiplyYears_J96 x7_11 rc40 a18)))))))
noncomputable def f_X7_multiplyYears_L40w (w_likes : Nat → Int32) (p1 : Int32) (x3_7 : Int32) (x4_8 : Int32) (x5_9 : Int32) (n : Nat) : (Nat → Int64) → Int32 → Int32 → Option (Int32 × (Nat → Int64)) := Nat.rec (fun _ _ _ => none) (fun _ r => f_X7_multiplyYears_L40 w_likes p1 x3_7 x4_8 x5_9 r) n
noncomputable def f_X7_multiplyYears (w_years : Nat → Int32) (w_place : Nat → Int32) (w_before : Nat → Int32) (w_likes : Nat → Int32) (w_products : Nat → Int64) (p1 : Int32) (p2 : Int32) : Option (Int32 × (Nat → Int64)) := cx_gd (cx_ib p1 6) (cx_let ((w_before (cx_ix p1)) * 12) (fun v2 => cx_gd (cx_ib p1 6) (cx_gd (cx_ib (w_place (cx_ix p1)) 4) (cx_let (w_years (cx_ix (w_place (cx_ix p1)))) (fun v5 => f_X7_multiplyYears_L40w w_likes p1 v2 (((p1 * 6) + p2) * 12) v5 cx_N0 w_products 0 0)))))
set_option maxHeartbeats 4000000 in
set_option maxRecDepth 100000 in
theorem c_X7_multiplyYears (l : Launch) (D : va_G) (k : Nat → ClassId) (w_a : Nat → Nat) (b_a : Nat → Nat) (s_a : Nat → Nat) (w_detail : Int32) (w_skipped : Int32) (w_early : Int32) (w_late : Int32) (w_firstOnly : Int32) (w_firstYear : Nat → Int32) (w_years : Nat → Int32) (w_place : Nat → Int32) (w_before : Nat → Int32) (w_closing : Nat → Int32) (w_likes : Nat → Int32) (w_likeSums : Nat → Int32) (w_namings : Nat → Int32) (w_products : Nat → Int64) (w_weights : Nat → Int64) (w_subtotals : Nat → Int64) (w_way : Nat → Int32) (b_c0 : Nat → Int32) (b_z0 : Int32) (b_c1 : Nat → Int32) (b_z1 : Int32) (b_c2 : Nat → Int32) (b_z2 : Int32) (b_c3 : Nat → Int32) (b_z3 : Int32) (b_c4 : Nat → Int32) (b_z4 : Int32) (b_sg : Int32) (s_np : Nat) (s_total : Nat → Int64) (s_shares : Nat → Int64) (s_pairs : Nat → Int64) (s_crowds : Nat → Int64) (s_bestWay : Nat → Int32) (s_bestWeight : Nat → Int64) (s_answer : Nat → Int64) (s_mine : Nat → Int64) (s_theirs : Nat → Int64) (s_people : Int32) (s_heads : Int32) (p1 : Int32) (p2 : Int32) (y : Int32 × (Nat → Int64)) (hf : f_X7_multiplyYears w_years w_place w_before w_likes w_products p1 p2 = some y) : cx_M l yX7_multiplyYears cX7_multiplyYears 10 (some .boolean) 1 D k [.ref (w_a 0), .int p1, .int p2] (wd_Ways k w_a b_a s_a w_detail w_skipped w_early w_late w_firstOnly w_firstYear w_years w_place w_before w_closing w_likes w_likeSums w_namings w_products w_weights w_subtotals w_way ++ (wd_Box k b_a b_c0 b_z0 b_c1 b_z1 b_c2 b_z2 b_c3 b_z3 b_c4 b_z4 b_sg ++ (wd_Sums k s_a s_np s_total s_shares s_pairs s_crowds s_bestWay s_bestWeight s_answer s_mine s_theirs s_people s_heads))) (fun sz => cx_Qi D y.1 (wd_Ways k w_a b_a s_a w_detail w_skipped w_early w_late w_firstOnly w_firstYear w_years w_place w_before w_closing w_likes w_likeSums w_namings w_products w_weights w_subtotals w_way ++ (wd_Box k b_a b_c0 b_z0 b_c1 b_z1 b_c2 b_z2 b_c3 b_z3 b_c4 b_z4 b_sg ++ (wd_Sums k s_a s_np s_total s_shares s_pairs s_crowds s_bestWay s_bestWeight s_answer s_mine s_theirs s_people s_heads))) (wd_Ways k w_a b_a s_a w_detail w_skipped w_early w_late w_firstOnly w_firstYear w_years w_place w_before w_closing w_likes w_likeSums w_namings y.2 w_weights w_subtotals w_way ++ (wd_Box k b_a b_c0 b_z0 b_c1 b_z1 b_c2 b_z2 b_c3 b_z3 b_c4 b_z4 b_sg ++ (wd_Sums k s_a s_np s_total s_shares s_pairs s_crowds s_bestWay s_bestWeight s_answer s_mine s_theirs s_people s_heads))) sz) := by
  refine cx_met (own := "NamelessBox$Ways") (by decide) rfl (Nat.le_of_ble_eq_true rfl) ?_
  intro p e s m args below meth c A Q C hA hQ hr hlk
  refine cx_lv (lv' := [(0, .ref (w_a 0)), (1, .int p1), (2, .int p2)]) [0, 1, 2] rfl ?_
  have L40 : ∀ (x3_7 : Int32) (x4_8 : Int32) (x5_9 : Int32) (n40 : Nat) (a_6 : Nat → Int64) (x6_10 : Int32) (x7_11 : Int32), f_X7_multiplyYears_L40w w_likes p1 x3_7 x4_8 x5_9 n40 a_6 x6_10 x7_11 = some y → cx_S p l e (cx_rm 1) s m args below meth c A D 10 0 0 Q 40 [(0, .ref (w_a 0)), (1, .int p1), (3, .int x3_7), (4, .int x4_8), (5, .int x5_9), (6, .int x6_10), (7, .int x7_11)] [] (wd_Ways k w_a b_a s_a w_detail w_skipped w_early w_late w_firstOnly w_firstYear w_years w_place w_before w_closing w_likes w_likeSums w_namings a_6 w_weights w_subtotals w_way ++ (wd_Box k b_a b_c0 b_z0 b_c1 b_z1 b_c2 b_z2 b_c3 b_z3 b_c4 b_z4 b_sg ++ (wd_Sums k s_a s_np s_total s_shares s_pairs s_crowds s_bestWay s_bestWeight s_answer s_mine s_theirs s_people s_heads))) := by
    intro x3_7 x4_8 x5_9 n40
    induction n40 with
    | zero =>
      intro a_6 x6_10 x7_11 hf
      exact absurd (show (none : Option (Int32 × (Nat → Int64))) = some y from hf) (fun h => by cases h)
    | succ n40 ih40 =>
      intro a_6 x6_10 x7_11 hf
      have hf : f_X7_multiplyYears_L40 w_likes p1 x3_7 x4_8 x5_9 (f_X7_multiplyYears_L40w w_likes p1 x3_7 x4_8 x5_9 n40) a_6 x6_10 x7_11 = some y := hf
      have J101 : ∀ (a_21 : Nat → Int64) (s0_22 : Int32), f_X7_multiplyYears_J101 x7_11 (f_X7_multiplyYears_L40w w_likes p1 x3_7 x4_8 x5_9 n40) a_21 s0_22 = some y → cx_S p l e (cx_rm 1) s m args below meth c A D 10 0 0 Q 101 [(0, .ref (w_a 0)), (1, .int p1), (3, .int x3_7), (4, .int x4_8), (5, .int x5_9), (7, .int x7_11)] [.int s0_22] (wd_Ways k w_a b_a s_a w_detail w_skipped w_early w_late w_firstOnly w_firstYear w_years w_place w_before w_closing w_likes w_likeSums w_namings a_21 w_weights w_subtotals w_way ++ (wd_Box k b_a b_c0 b_z0 b_c1 b_z1 b_c2 b_z2 b_c3 b_z3 b_c4 b_z4 b_sg ++ (wd_Sums k s_a s_np s_total s_shares s_pairs s_crowds s_bestWay s_bestWeight s_answer s_mine s_theirs s_people s_heads))) := by
        intro a_21 s0_22 hf
        unfold f_X7_multiplyYears_J101 at hf
        refine cx_istore (lv' := [(6, .int s0_22), (0, .ref (w_a 0)), (1, .int p1), (3, .int x3_7), (4, .int x4_8), (5, .int x5_9), (7, .int x7_11)]) C dX7_multiplyYears_101 (by decide) rfl ?_
        refine cx_iinc (v := x7_11 + 1) (lv' := [(7, .int (x7_11 + 1)), (6, .int s0_22), (0, .ref (w_a 0)), (1, .int p1), (3, .int x3_7), (4, .int x4_8), (5, .int x5_9)]) C dX7_multiplyYears_103 6 rfl rfl (by decide) rfl ?_
        refine cx_goto (tgt := 40) C dX7_multiplyYears_106 (by decide) ?_
        refine cx_lv [2, 3, 4, 5, 6, 1, 0] rfl ?_
        exact ih40 a_21 s0_22 (x7_11 + 1) hf
      have J96 : ∀ (a_20 : Nat → Int64), f_X7_multiplyYears_J96 x7_11 (f_X7_multiplyYears_L40w w_likes p1 x3_7 x4_8 x5_9 n40) a_20 = some y → cx_S p l e (cx_rm 1) s m args below meth c A D 10 0 0 Q 96 [(0, .ref (w_a 0)), (1, .int p1), (3, .int x3_7), (4, .int x4_8), (5, .int x5_9), (7, .int x7_11)] [] (wd_Ways k w_a b_a s_a w_detail w_skipped w_early w_late w_firstOnly w_firstYear w_years w_place w_before w_closing w_likes w_likeSums w_namings a_20 w_weights w_subtotals w_way ++ (wd_Box k b_a b_c0 b_z0 b_c1 b_z1 b_c2 b_z2 b_c3 b_z3 b_c4 b_z4 b_sg ++ (wd_Sums k s_a s_np s_total s_shares s_pairs s_crowds s_bestWay s_bestWeight s_answer s_mine s_theirs s_people s_heads))) := by
        intro a_20 hf
        unfold f_X7_multiplyYears_J96 at hf
        refine cx_iconst (v := 1) C dX7_multiplyYears_96 (by decide) ?_
        refine cx_goto (tgt := 101) C dX7_multiplyYears_97 (by decide) ?_
        exact J101 a_20 1 hf
      unfold f_X7_multiplyYears_L40 at hf
      refine cx_iload C dX7_multiplyYears_40 6 rfl ?_
      refine cx_iload C dX7_multiplyYears_42 4 rfl ?_
      refine cx_icmp_ge (tgt := 109) C dX7_multiplyYears_44 (by decide) (fun c12 => ?_) (fun c12 => ?_)
      · have hf := cx_if_t hf c12
        clear c12
        refine cx_iload C dX7_multiplyYears_109 5 rfl ?_
        obtain ⟨b13, hf⟩ := cx_gd_at hf
        obtain rfl := Option.some.inj hf
        exact cx_zret C hA hQ hr hlk dX7_multiplyYears_111 (cx_nz (of_decide_eq_true b13)).1 rfl rfl
      · have hf := cx_if_f hf c12
        clear c12
        refine cx_aload_n C dX7_multiplyYears_47 0 rfl ?_
        refine cx_get (v := .ref (w_a 9)) (ci := 6) C iX7 dX7_multiplyYears_48 0 rfl rfl 15 (by decide) hw_213 rfl ?_
        refine cx_iload_n C dX7_multiplyYears_51 2 rfl ?_
        refine cx_iload C dX7_multiplyYears_52 6 rfl ?_
        refine cx_iadd C dX7_multiplyYears_54 ?_
        obtain ⟨g14, hf⟩ := cx_gd_at hf
        refine cx_lald C dX7_multiplyYears_55 9 rfl (cx_ib_in g14) ?_
        clear g14
        refine cx_aload_n C dX7_multiplyYears_56 0 rfl ?_
        refine cx_get (v := .ref (w_a 6)) (ci := 6) C iX7 dX7_multiplyYears_57 0 rfl rfl 12 (by decide) hw_210 rfl ?_
        refine cx_iload C dX7_multiplyYears_60 3 rfl ?_
        refine cx_iload C dX7_multiplyYears_62 6 rfl ?_
        refine cx_iadd C dX7_multiplyYears_64 ?_
        obtain ⟨g15, hf⟩ := cx_gd_at hf
        refine cx_iald C dX7_multiplyYears_65 6 rfl (cx_ib_in g15) ?_
        clear g15
        refine cx_i2l C dX7_multiplyYears_66 ?_
        refine cx_lmul C dX7_multiplyYears_67 ?_
        refine cx_topl (fun v16 ev16 => ?_)
        have hf := cx_let_at hf ev16
        clear ev16
        refine cx_lstore (lv' := [(8, .long v16), (0, .ref (w_a 0)), (1, .int p1), (3, .int x3_7), (4, .int x4_8), (5, .int x5_9), (6, .int x6_10), (7, .int x7_11)]) C dX7_multiplyYears_68 (by decide) rfl ?_
        refine cx_aload_n C dX7_multiplyYears_70 1 rfl ?_
        refine cx_get (v := .ref (w_a 9)) (ci := 6) C iX7 dX7_multiplyYears_71 0 rfl rfl 15 (by decide) hw_213 rfl ?_
        refine cx_iload_n C dX7_multiplyYears_74 2 rfl ?_
        refine cx_bipush (v := 12) C dX7_multiplyYears_75 (by decide) ?_
        refine cx_imul C dX7_multiplyYears_77 ?_
        refine cx_iload C dX7_multiplyYears_78 7 rfl ?_
        refine cx_iadd C dX7_multiplyYears_80 ?_
        refine cx_lload C dX7_multiplyYears_81 0 rfl ?_
        obtain ⟨g17, hf⟩ := cx_gd_at hf
        obtain ⟨a18, ea18⟩ : ∃ z, z = vp_updL a_6 (cx_ix ((p1 * 12) + x7_11)) v16 := ⟨_, rfl⟩
        have hf := cx_let_at hf ea18
        refine cx_last (ws' := (wd_Ways k w_a b_a s_a w_detail w_skipped w_early w_late w_firstOnly w_firstYear w_years w_place w_before w_closing w_likes w_likeSums w_namings a18 w_weights w_subtotals w_way ++ (wd_Box k b_a b_c0 b_z0 b_c1 b_z1 b_c2 b_z2 b_c3 b_z3 b_c4 b_z4 b_sg ++ (wd_Sums k s_a s_np s_total s_shares s_pairs s_crowds s_bestWay s_bestWeight s_answer s_mine s_theirs s_people s_heads)))) C dX7_multiplyYears_83 9 rfl (cx_ib_in g17) (by rw [ea18]; rfl) ?_
        clear ea18 g17
        refine cx_iload C dX7_multiplyYears_84 6 rfl ?_
        refine cx_if_ne (tgt := 96) C dX7_multiplyYears_86 (by decide) (fun c19 => ?_) (fun c19 => ?_)
        · have hf := cx_if_f hf c19
          clear c19
          refine cx_lv [1, 2, 3, 4, 5, 7] rfl ?_
          exact J96 a18 hf
        · have hf := cx_if_t hf c19
          clear c19
          refine cx_lload C dX7_multiplyYears_89 0 rfl ?_
          refine cx_lconst (v := 0) C dX7_multiplyYears_91 (by decide) ?_
          refine cx_lcmp C dX7_multiplyYears_92 ?_
          refine cx_if_eq (tgt := 100) C dX7_multiplyYears_93 (by decide) (fun c23 => ?_) (fun c23 => ?_)
          · have hf := cx_if_t hf c23
            clear c23
            refine cx_iconst (v := 0) C dX7_multiplyYears_100 (by decide) ?_
            refine cx_lv [1, 2, 3, 4, 5, 7] rfl ?_
            exact J101 a18 0 hf
          · have hf := cx_if_f hf c23
            clear c23
            refine cx_lv [1, 2, 3, 4, 5, 7] rfl ?_
            exact J96 a18 hf
  unfold f_X7_multiplyYears at hf
  refine cx_aload_n C dX7_multiplyYears_0 0 rfl ?_
  refine cx_get (v := .ref (w_a 4)) (ci := 6) C iX7 dX7_multiplyYears_1 0 rfl rfl 10 (by decide) hw_208 rfl ?_
  refine cx_iload_n C dX7_multiplyYears_4 1 rfl ?_
  obtain ⟨g1, hf⟩ := cx_gd_at hf
  refine cx_iald C dX7_multiplyYears_5 4 rfl (cx_ib_in g1) ?_
  clear g1
  refine cx_bipush (v := 12) C dX7_multiplyYears_6 (by decide) ?_
  refine cx_imul C dX7_multiplyYears_8 ?_
  refine cx_topi (fun v2 ev2 => ?_)
  have hf := cx_let_at hf ev2
  clear ev2
  refine cx_istore_n (lv' := [(3, .int v2), (0, .ref (w_a 0)), (1, .int p1), (2, .int p2)]) C dX7_multiplyYears_9 rfl (by decide) rfl ?_
  refine cx_iload_n C dX7_multiplyYears_10 2 rfl ?_
  refine cx_bipush (v := 6) C dX7_multiplyYears_11 (by decide) ?_
  refine cx_imul C dX7_multiplyYears_13 ?_
  refine cx_iload_n C dX7_multiplyYears_14 3 rfl ?_
  refine cx_iadd C dX7_multiplyYears_15 ?_
  refine cx_bipush (v := 12) C dX7_multiplyYears_16 (by decide) ?_
  refine cx_imul C dX7_multiplyYears_18 ?_
  refine cx_istore (lv' := [(4, .int (((p1 * 6) + p2) * 12)), (3, .int v2), (0, .ref (w_a 0)), (1, .int p1), (2, .int p2)]) C dX7_multiplyYears_19 (by decide) rfl ?_
  refine cx_aload_n C dX7_multiplyYears_21 2 rfl ?_
  refine cx_get (v := .ref (w_a 2)) (ci := 6) C iX7 dX7_multiplyYears_22 0 rfl rfl 8 (by decide) hw_206 rfl ?_
  refine cx_aload_n C dX7_multiplyYears_25 2 rfl ?_
  refine cx_get (v := .ref (w_a 3)) (ci := 6) C iX7 dX7_multiplyYears_26 0 rfl rfl 9 (by decide) hw_207 rfl ?_
  refine cx_iload_n C dX7_multiplyYears_29 3 rfl ?_
  obtain ⟨g3, hf⟩ := cx_gd_at hf
  refine cx_iald C dX7_multiplyYears_30 3 rfl (cx_ib_in g3) ?_
  clear g3
  obtain ⟨g4, hf⟩ := cx_gd_at hf
  refine cx_iald C dX7_multiplyYears_31 2 rfl (cx_ib_in g4) ?_
  clear g4
  refine cx_topi (fun v5 ev5 => ?_)
  have hf := cx_let_at hf ev5
  clear ev5
  refine cx_istore (lv' := [(5, .int v5), (4, .int (((p1 * 6) + p2) * 12)), (3, .int v2), (0, .ref (w_a 0)), (1, .int p1), (2, .int p2)]) C dX7_multiplyYears_32 (by decide) rfl ?_
  refine cx_iconst (v := 0) C dX7_multiplyYears_34 (by decide) ?_
  refine cx_istore (lv' := [(6, .int 0), (5, .int v5), (4, .int (((p1 * 6) + p2) * 12)), (3, .int v2), (0, .ref (w_a 0)), (1, .int p1), (2, .int p2)]) C dX7_multiplyYears_35 (by decide) rfl ?_
  refine cx_iconst (v := 0) C dX7_multiplyYears_37 (by decide) ?_
  refine cx_istore (lv' := [(7, .int 0), (6, .int 0), (5, .int v5), (4, .int (((p1 * 6) + p2) * 12)), (3, .int v2), (0, .ref (w_a 0)), (1, .int p1), (2, .int p2)]) C dX7_multiplyYears_38 (by decide) rfl ?_
  refine cx_lv [5, 6, 4, 3, 2, 1, 0] rfl ?_
  exact L40 v2 (((p1 * 6) + p2) * 12) v5 cx_N0 w_products 0 0 hf
theorem dX7_sumYears_0 : decode cX7_sumYears 0 = .ok (.aload_n 0, 1) := by decide +kernel
theorem dX7_sumYears_1 : decode cX7_sumYears 1 = .ok (.getfield 38, 3) := by decide +kernel
theorem dX7_sumYears_4 : decode cX7_sumYears 4 = .ok (.iload_n 1, 1) := by decide +kernel
theorem dX7_sumYears_5 : decode cX7_sumYears 5 = .ok (.iaload, 1) := by decide +kernel
theorem dX7_sumYears_6 : decode cX7_sumYears 6 = .ok (.bipush 12, 2) := by decide +kernel
theorem dX7_sumYears_8 : decode cX7_sumYears 8 = .ok (.imul, 1) := by decide +kernel
theorem dX7_sumYears_9 : decode cX7_sumYears 9 = .ok (.istore_n 3, 1) := by decide +kernel
theorem dX7_sumYears_10 : decode cX7_sumYears 10 = .ok (.iload_n 1, 1) := by decide +kernel
theorem dX7_sumYears_11 : decode cX7_sumYears 11 = .ok (.bipush 6, 2) := by decide +kernel
theorem dX7_sumYears_13 : decode cX7_sumYears 13 = .ok (.imul, 1) := by decide +kernel
theorem dX7_sumYears_14 : decode cX7_sumYears 14 = .ok (.iload_n 2, 1) := by decide +kernel
theorem dX7_sumYears_15 : decode cX7_sumYears 15 = .ok (.iadd, 1) := by decide +kernel
theorem dX7_sumYears_16 : decode cX7_sumYears 16 = .ok (.bipush 12, 2) := by decide +kernel
theorem dX7_sumYears_18 : decode cX7_sumYears 18 = .ok (.imul, 1) := by decide +kernel
theorem dX7_sumYears_19 : decode cX7_sumYears 19 = .ok (.istore 4, 2) := by decide +kernel
theorem dX7_sumYears_21 : decode cX7_sumYears 21 = .ok (.aload_n 0, 1) := by decide +kernel
theorem dX7_sumYears_22 : decode cX7_sumYears 22 = .ok (.getfield 32, 3) := by decide +kernel
theorem dX7_sumYears_25 : decode cX7_sumYears 25 = .ok (.aload_n 0, 1) := by decide +kernel
theorem dX7_sumYears_26 : decode cX7_sumYears 26 = .ok (.getfield 35, 3) := by decide +kernel
theorem dX7_sumYears_29 : decode cX7_sumYears 29 = .ok (.iload_n 1, 1) := by decide +kernel
theorem dX7_sumYears_30 : decode cX7_sumYears 30 = .ok (.iaload, 1) := by decide +kernel
theorem dX7_sumYears_31 : decode cX7_sumYears 31 = .ok (.iaload, 1) := by decide +kernel
theorem dX7_sumYears_32 : decode cX7_sumYears 32 = .ok (.istore 5, 2) := by decide +kernel
theorem dX7_sumYears_34 : decode cX7_sumYears 34 = .ok (.lconst 0, 1) := by decide +kernel
theorem dX7_sumYears_35 : decode cX7_sumYears 35 = .ok (.lstore 6, 2) := by decide +kernel
theorem dX7_sumYears_37 : decode cX7_sumYears 37 = .ok (.iconst 0, 1) := by decide +kernel
theorem dX7_sumYears_38 : decode cX7_sumYears 38 = .ok (.istore 8, 2) := by decide +kernel
theorem dX7_sumYears_40 : decode cX7_sumYears 40 = .ok (.iload 8, 2) := by decide +kernel
theorem dX7_sumYears_42 : decode cX7_sumYears 42 = .ok (.iload 5, 2) := by decide +kernel
theorem dX7_sumYears_44 : decode cX7_sumYears 44 = .ok (.if_icmp .ge 35, 3) := by decide +kernel
theorem dX7_sumYears_47 : decode cX7_sumYears 47 = .ok (.lload 6, 2) := by decide +kernel
theorem dX7_sumYears_49 : decode cX7_sumYears 49 = .ok (.aload_n 0, 1) := by decide +kernel
theorem dX7_sumYears_50 : decode cX7_sumYears 50 = .ok (.getfield 53, 3) := by decide +kernel
theorem dX7_sumYears_53 : decode cX7_sumYears 53 = .ok (.iload_n 3, 1) := by decide +kernel
theorem dX7_sumYears_54 : decode cX7_sumYears 54 = .ok (.iload 8, 2) := by decide +kernel
theorem dX7_sumYears_56 : decode cX7_sumYears 56 = .ok (.iadd, 1) := by decide +kernel
theorem dX7_sumYears_57 : decode cX7_sumYears 57 = .ok (.laload, 1) := by decide +kernel
theorem dX7_sumYears_58 : decode cX7_sumYears 58 = .ok (.aload_n 0, 1) := by decide +kernel
theorem dX7_sumYears_59 : decode cX7_sumYears 59 = .ok (.getfield 44, 3) := by decide +kernel
theorem dX7_sumYears_62 : decode cX7_sumYears 62 = .ok (.iload 4, 2) := by decide +kernel
theorem dX7_sumYears_64 : decode cX7_sumYears 64 = .ok (.iload 8, 2) := by decide +kernel
theorem dX7_sumYears_66 : decode cX7_sumYears 66 = .ok (.iadd, 1) := by decide +kernel
theorem dX7_sumYears_67 : decode cX7_sumYears 67 = .ok (.iaload, 1) := by decide +kernel
theorem dX7_sumYears_68 : decode cX7_sumYears 68 = .ok (.i2l, 1) := by decide +kernel
theorem dX7_sumYears_69 : decode cX7_sumYears 69 = .ok (.lmul, 1) := by decide +kernel
theorem dX7_sumYears_70 : decode cX7_sumYears 70 = .ok (.ladd, 1) := by decide +kernel
theorem dX7_sumYears_71 : decode cX7_sumYears 71 = .ok (.lstore 6, 2) := by decide +kernel
theorem dX7_sumYears_73 : decode cX7_sumYears 73 = .ok (.iinc 8 1, 3) := by decide +kernel
theorem dX7_sumYears_76 : decode cX7_sumYears 76 = .ok (.goto (-36), 3) := by decide +kernel
theorem dX7_sumYears_79 : decode cX7_sumYears 79 = .ok (.lload 6, 2) := by decide +kernel
theorem dX7_sumYears_81 : decode cX7_sumYears 81 = .ok (.lreturn, 1) := by decide +kernel
theorem me_X7_sumYears : cx_Mv yX7_sumYears cX7_sumYears 9 (some .long) 2 := ⟨⟨⟨by decide +kernel, by decide +kernel, by decide +kernel⟩, hw_7, hw_729⟩, hw_728, hs_21⟩
noncomputable def f_X7_sumYears_L40 (w_likes : Nat → Int32) (w_products : Nat → Int64) (x3_6 : Int32) (x4_7 : Int32) (x5_8 : Int32) (rc40 : Int64 → Int32 → Option Int64) (x6_9 : Int64) (x8_10 : Int32) : Option Int64 := if x5_8 ≤ x8_10 then (some x6_9) else (cx_gd (cx_ib (x3_6 + x8_10) 84) (cx_gd (cx_ib (x4_7 + x8_10) 432) (cx_let (x6_9 + ((w_products (cx_ix (x3_6 + x8_10))) * (Int32.toInt64 (w_likes (cx_ix (x4_7 + x8_10)))))) (fun v14 => rc40 v14 (x8_10 + 1)))))
noncomputable def f_X7_sumYears_L40w (w_likes : Nat → Int32) (w_products : Nat → Int64) (x3_6 : Int32) (x4_7 : Int32) (x5_8 : Int32) (n : Nat) : Int64 → Int32 → Option Int64 := Nat.rec (fun _ _ => none) (fun _ r => f_X7_sumYears_L40 w_likes w_products x3_6 x4_7 x5_8 r) n
noncomputable def f_X7_sumYears (w_years : Nat → Int32) (w_place : Nat → Int32) (w_before : Nat → Int32) (w_likes : Nat → Int32) (w_products : Nat → Int64) (p1 : Int32) (p2 : Int32) : Option Int64 := cx_gd (cx_ib p1 6) (cx_let ((w_before (cx_ix p1)) * 12) (fun v2 => cx_gd (cx_ib p1 6) (cx_gd (cx_ib (w_place (cx_ix p1)) 4) (cx_let (w_years (cx_ix (w_place (cx_ix p1)))) (fun v5 => f_X7_sumYears_L40w w_likes w_products v2 (((p1 * 6) + p2) * 12) v5 cx_N0 0 0)))))
set_option maxHeartbeats 4000000 in
set_option maxRecDepth 100000 in
theorem c_X7_sumYears (l : Launch) (D : va_G) (k : Nat → ClassId) (w_a : Nat → Nat) (b_a : Nat → Nat) (s_a : Nat → Nat) (w_detail : Int32) (w_skipped : Int32) (w_early : Int32) (w_late : Int32) (w_firstOnly : Int32) (w_firstYear : Nat → Int32) (w_years : Nat → Int32) (w_place : Nat → Int32) (w_before : Nat → Int32) (w_closing : Nat → Int32) (w_likes : Nat → Int32) (w_likeSums : Nat → Int32) (w_namings : Nat → Int32) (w_products : Nat → Int64) (w_weights : Nat → Int64) (w_subtotals : Nat → Int64) (w_way : Nat → Int32) (b_c0 : Nat → Int32) (b_z0 : Int32) (b_c1 : Nat → Int32) (b_z1 : Int32) (b_c2 : Nat → Int32) (b_z2 : Int32) (b_c3 : Nat → Int32) (b_z3 : Int32) (b_c4 : Nat → Int32) (b_z4 : Int32) (b_sg : Int32) (s_np : Nat) (s_total : Nat → Int64) (s_shares : Nat → Int64) (s_pairs : Nat → Int64) (s_crowds : Nat → Int64) (s_bestWay : Nat → Int32) (s_bestWeight : Nat → Int64) (s_answer : Nat → Int64) (s_mine : Nat → Int64) (s_theirs : Nat → Int64) (s_people : Int32) (s_heads : Int32) (p1 : Int32) (p2 : Int32) (y : Int64) (hf : f_X7_sumYears w_years w_place w_before w_likes w_products p1 p2 = some y) : cx_M l yX7_sumYears cX7_sumYears 9 (some .long) 1 D k [.ref (w_a 0), .int p1, .int p2] (wd_Ways k w_a b_a s_a w_detail w_skipped w_early w_late w_firstOnly w_firstYear w_years w_place w_before w_closing w_likes w_likeSums w_namings w_products w_weights w_subtotals w_way ++ (wd_Box k b_a b_c0 b_z0 b_c1 b_z1 b_c2 b_z2 b_c3 b_z3 b_c4 b_z4 b_sg ++ (wd_Sums k s_a s_np s_total s_shares s_pairs s_crowds s_bestWay s_bestWeight s_answer s_mine s_theirs s_people s_heads))) (fun sz => cx_Ql D y (wd_Ways k w_a b_a s_a w_detail w_skipped w_early w_late w_firstOnly w_firstYear w_years w_place w_before w_closing w_likes w_likeSums w_namings w_products w_weights w_subtotals w_way ++ (wd_Box k b_a b_c0 b_z0 b_c1 b_z1 b_c2 b_z2 b_c3 b_z3 b_c4 b_z4 b_sg ++ (wd_Sums k s_a s_np s_total s_shares s_pairs s_crowds s_bestWay s_bestWeight s_answer s_mine s_theirs s_people s_heads))) (wd_Ways k w_a b_a s_a w_detail w_skipped w_early w_late w_firstOnly w_firstYear w_years w_place w_before w_closing w_likes w_likeSums w_namings w_products w_weights w_subtotals w_way ++ (wd_Box k b_a b_c0 b_z0 b_c1 b_z1 b_c2 b_z2 b_c3 b_z3 b_c4 b_z4 b_sg ++ (wd_Sums k s_a s_np s_total s_shares s_pairs s_crowds s_bestWay s_bestWeight s_answer s_mine s_theirs s_people s_heads))) sz) := by
  refine cx_met (own := "NamelessBox$Ways") (by decide) rfl (Nat.le_of_ble_eq_true rfl) ?_
  intro p e s m args below meth c A Q C hA hQ hr hlk
  refine cx_lv (lv' := [(0, .ref (w_a 0)), (1, .int p1), (2, .int p2)]) [0, 1, 2] rfl ?_
  have L40 : ∀ (x3_6 : Int32) (x4_7 : Int32) (x5_8 : Int32) (n40 : Nat) (x6_9 : Int64) (x8_10 : Int32), f_X7_sumYears_L40w w_likes w_products x3_6 x4_7 x5_8 n40 x6_9 x8_10 = some y → cx_S p l e (cx_rm 1) s m args below meth c A D 9 0 0 Q 40 [(0, .ref (w_a 0)), (3, .int x3_6), (4, .int x4_7), (5, .int x5_8), (6, .long x6_9), (8, .int x8_10)] [] (wd_Ways k w_a b_a s_a w_detail w_skipped w_early w_late w_firstOnly w_firstYear w_years w_place w_before w_closing w_likes w_likeSums w_namings w_products w_weights w_subtotals w_way ++ (wd_Box k b_a b_c0 b_z0 b_c1 b_z1 b_c2 b_z2 b_c3 b_z3 b_c4 b_z4 b_sg ++ (wd_Sums k s_a s_np s_total s_shares s_pairs s_crowds s_bestWay s_bestWeight s_answer s_mine s_theirs s_people s_heads))) := by
    intro x3_6 x4_7 x5_8 n40
    induction n40 with
    | zero =>
      intro x6_9 x8_10 hf
      exact absurd (show (none : Option Int64) = some y from hf) (fun h => by cases h)
    | succ n40 ih40 =>
      intro x6_9 x8_10 hf
      have hf : f_X7_sumYears_L40 w_likes w_products x3_6 x4_7 x5_8 (f_X7_sumYears_L40w w_likes w_products x3_6 x4_7 x5_8 n40) x6_9 x8_10 = some y := hf
      unfold f_X7_sumYears_L40 at hf
      refine cx_iload C dX7_sumYears_40 5 rfl ?_
      refine cx_iload C dX7_sumYears_42 3 rfl ?_
      refine cx_icmp_ge (tgt := 79) C dX7_sumYears_44 (by decide) (fun c11 => ?_) (fun c11 => ?_)
      · have hf := cx_if_t hf c11
        clear c11
        refine cx_lload C dX7_sumYears_79 4 rfl ?_
        obtain rfl := Option.some.inj hf
        exact cx_lret C hA hQ hr hlk dX7_sumYears_81 rfl rfl
      · have hf := cx_if_f hf c11
        clear c11
        refine cx_lload C dX7_sumYears_47 4 rfl ?_
        refine cx_aload_n C dX7_sumYears_49 0 rfl ?_
        refine cx_get (v := .ref (w_a 9)) (ci := 6) C iX7 dX7_sumYears_50 0 rfl rfl 15 (by decide) hw_213 rfl ?_
        refine cx_iload_n C dX7_sumYears_53 1 rfl ?_
        refine cx_iload C dX7_sumYears_54 5 rfl ?_
        refine cx_iadd C dX7_sumYears_56 ?_
        obtain ⟨g12, hf⟩ := cx_gd_at hf
        refine cx_lald C dX7_sumYears_57 9 rfl (cx_ib_in g12) ?_
        clear g12
        refine cx_aload_n C dX7_sumYears_58 0 rfl ?_
        refine cx_get (v := .ref (w_a 6)) (ci := 6) C iX7 dX7_sumYears_59 0 rfl rfl 12 (by decide) hw_210 rfl ?_
        refine cx_iload C dX7_sumYears_62 2 rfl ?_
        refine cx_iload C dX7_sumYears_64 5 rfl ?_
        refine cx_iadd C dX7_sumYears_66 ?_
        obtain ⟨g13, hf⟩ := cx_gd_at hf
        refine cx_iald C dX7_sumYears_67 6 rfl (cx_ib_in g13) ?_
        clear g13
        refine cx_i2l C dX7_sumYears_68 ?_
        refine cx_lmul C dX7_sumYears_69 ?_
        refine cx_ladd C dX7_sumYears_70 ?_
        refine cx_topl (fun v14 ev14 => ?_)
        have hf := cx_let_at hf ev14
        clear ev14
        refine cx_lstore (lv' := [(6, .long v14), (0, .ref (w_a 0)), (3, .int x3_6), (4, .int x4_7), (5, .int x5_8), (8, .int x8_10)]) C dX7_sumYears_71 (by decide) rfl ?_
        refine cx_iinc (v := x8_10 + 1) (lv' := [(8, .int (x8_10 + 1)), (6, .long v14), (0, .ref (w_a 0)), (3, .int x3_6), (4, .int x4_7), (5, .int x5_8)]) C dX7_sumYears_73 5 rfl rfl (by decide) rfl ?_
        refine cx_goto (tgt := 40) C dX7_sumYears_76 (by decide) ?_
        refine cx_lv [2, 3, 4, 5, 1, 0] rfl ?_
        exact ih40 v14 (x8_10 + 1) hf
  unfold f_X7_sumYears at hf
  refine cx_aload_n C dX7_sumYears_0 0 rfl ?_
  refine cx_get (v := .ref (w_a 4)) (ci := 6) C iX7 dX7_sumYears_1 0 rfl rfl 10 (by decide) hw_208 rfl ?_
  refine cx_iload_n C dX7_sumYears_4 1 rfl ?_
  obtain ⟨g1, hf⟩ := cx_gd_at hf
  refine cx_iald C dX7_sumYears_5 4 rfl (cx_ib_in g1) ?_
  clear g1
  refine cx_bipush (v := 12) C dX7_sumYears_6 (by decide) ?_
  refine cx_imul C dX7_sumYears_8 ?_
  refine cx_topi (fun v2 ev2 => ?_)
  have hf := cx_let_at hf ev2
  clear ev2
  refine cx_istore_n (lv' := [(3, .int v2), (0, .ref (w_a 0)), (1, .int p1), (2, .int p2)]) C dX7_sumYears_9 rfl (by decide) rfl ?_
  refine cx_iload_n C dX7_sumYears_10 2 rfl ?_
  refine cx_bipush (v := 6) C dX7_sumYears_11 (by decide) ?_
  refine cx_imul C dX7_sumYears_13 ?_
  refine cx_iload_n C dX7_sumYears_14 3 rfl ?_
  refine cx_iadd C dX7_sumYears_15 ?_
  refine cx_bipush (v := 12) C dX7_sumYears_16 (by decide) ?_
  refine cx_imul C dX7_sumYears_18 ?_
  refine cx_istore (lv' := [(4, .int (((p1 * 6) + p2) * 12)), (3, .int v2), (0, .ref (w_a 0)), (1, .int p1), (2, .int p2)]) C dX7_sumYears_19 (by decide) rfl ?_
  refine cx_aload_n C dX7_sumYears_21 2 rfl ?_
  refine cx_get (v := .ref (w_a 2)) (ci := 6) C iX7 dX7_sumYears_22 0 rfl rfl 8 (by decide) hw_206 rfl ?_
  refine cx_aload_n C dX7_sumYears_25 2 rfl ?_
  refine cx_get (v := .ref (w_a 3)) (ci := 6) C iX7 dX7_sumYears_26 0 rfl rfl 9 (by decide) hw_207 rfl ?_
  refine cx_iload_n C dX7_sumYears_29 3 rfl ?_
  obtain ⟨g3, hf⟩ := cx_gd_at hf
  refine cx_iald C dX7_sumYears_30 3 rfl (cx_ib_in g3) ?_
  clear g3
  obtain ⟨g4, hf⟩ := cx_gd_at hf
  refine cx_iald C dX7_sumYears_31 2 rfl (cx_ib_in g4) ?_
  clear g4
  refine cx_topi (fun v5 ev5 => ?_)
  have hf := cx_let_at hf ev5
  clear ev5
  refine cx_istore (lv' := [(5, .int v5), (4, .int (((p1 * 6) + p2) * 12)), (3, .int v2), (0, .ref (w_a 0)), (1, .int p1), (2, .int p2)]) C dX7_sumYears_32 (by decide) rfl ?_
  refine cx_lconst (v := 0) C dX7_sumYears_34 (by decide) ?_
  refine cx_lstore (lv' := [(6, .long 0), (5, .int v5), (4, .int (((p1 * 6) + p2) * 12)), (3, .int v2), (0, .ref (w_a 0)), (1, .int p1), (2, .int p2)]) C dX7_sumYears_35 (by decide) rfl ?_
  refine cx_iconst (v := 0) C dX7_sumYears_37 (by decide) ?_
  refine cx_istore (lv' := [(8, .int 0), (6, .long 0), (5, .int v5), (4, .int (((p1 * 6) + p2) * 12)), (3, .int v2), (0, .ref (w_a 0)), (1, .int p1), (2, .int p2)]) C dX7_sumYears_38 (by decide) rfl ?_
  refine cx_lv [5, 4, 3, 2, 1, 0] rfl ?_
  exact L40 v2 (((p1 * 6) + p2) * 12) v5 cx_N0 0 0 hf
theorem dX7_takings_0 : decode cX7_takings 0 = .ok (.aload_n 0, 1) := by decide +kernel
theorem dX7_takings_1 : decode cX7_takings 1 = .ok (.getfield 35, 3) := by decide +kernel
theorem dX7_takings_4 : decode cX7_takings 4 = .ok (.iload_n 1, 1) := by decide +kernel
theorem dX7_takings_5 : decode cX7_takings 5 = .ok (.iaload, 1) := by decide +kernel
theorem dX7_takings_6 : decode cX7_takings 6 = .ok (.istore_n 3, 1) := by decide +kernel
theorem dX7_takings_7 : decode cX7_takings 7 = .ok (.iload_n 3, 1) := by decide +kernel
theorem dX7_takings_8 : decode cX7_takings 8 = .ok (.aload_n 0, 1) := by decide +kernel
theorem dX7_takings_9 : decode cX7_takings 9 = .ok (.getfield 18, 3) := by decide +kernel
theorem dX7_takings_12 : decode cX7_takings 12 = .ok (.if_icmp .eq 11, 3) := by decide +kernel
theorem dX7_takings_15 : decode cX7_takings 15 = .ok (.iload_n 3, 1) := by decide +kernel
theorem dX7_takings_16 : decode cX7_takings 16 = .ok (.aload_n 0, 1) := by decide +kernel
theorem dX7_takings_17 : decode cX7_takings 17 = .ok (.getfield 21, 3) := by decide +kernel
theorem dX7_takings_20 : decode cX7_takings 20 = .ok (.if_icmp .ne 7, 3) := by decide +kernel
theorem dX7_takings_23 : decode cX7_takings 23 = .ok (.iconst 1, 1) := by decide +kernel
theorem dX7_takings_24 : decode cX7_takings 24 = .ok (.goto 4, 3) := by decide +kernel
theorem dX7_takings_27 : decode cX7_takings 27 = .ok (.iconst 0, 1) := by decide +kernel
theorem dX7_takings_28 : decode cX7_takings 28 = .ok (.istore 4, 2) := by decide +kernel
theorem dX7_takings_30 : decode cX7_takings 30 = .ok (.aload_n 0, 1) := by decide +kernel
theorem dX7_takings_31 : decode cX7_takings 31 = .ok (.getfield 41, 3) := by decide +kernel
theorem dX7_takings_34 : decode cX7_takings 34 = .ok (.iload_n 3, 1) := by decide +kernel
theorem dX7_takings_35 : decode cX7_takings 35 = .ok (.iaload, 1) := by decide +kernel
theorem dX7_takings_36 : decode cX7_takings 36 = .ok (.iload_n 1, 1) := by decide +kernel
theorem dX7_takings_37 : decode cX7_takings 37 = .ok (.if_icmp .ne 41, 3) := by decide +kernel
theorem dX7_takings_40 : decode cX7_takings 40 = .ok (.iload 4, 2) := by decide +kernel
theorem dX7_takings_42 : decode cX7_takings 42 = .ok (.ifCond .ne 36, 3) := by decide +kernel
theorem dX7_takings_45 : decode cX7_takings 45 = .ok (.aload_n 0, 1) := by decide +kernel
theorem dX7_takings_46 : decode cX7_takings 46 = .ok (.getfield 38, 3) := by decide +kernel
theorem dX7_takings_49 : decode cX7_takings 49 = .ok (.iload_n 1, 1) := by decide +kernel
theorem dX7_takings_50 : decode cX7_takings 50 = .ok (.iaload, 1) := by decide +kernel
theorem dX7_takings_51 : decode cX7_takings 51 = .ok (.bipush 6, 2) := by decide +kernel
theorem dX7_takings_53 : decode cX7_takings 53 = .ok (.if_icmp .ne 18, 3) := by decide +kernel
theorem dX7_takings_56 : decode cX7_takings 56 = .ok (.aload_n 0, 1) := by decide +kernel
theorem dX7_takings_57 : decode cX7_takings 57 = .ok (.getfield 47, 3) := by decide +kernel
theorem dX7_takings_60 : decode cX7_takings 60 = .ok (.iload_n 1, 1) := by decide +kernel
theorem dX7_takings_61 : decode cX7_takings 61 = .ok (.bipush 6, 2) := by decide +kernel
theorem dX7_takings_63 : decode cX7_takings 63 = .ok (.imul, 1) := by decide +kernel
theorem dX7_takings_64 : decode cX7_takings 64 = .ok (.iload_n 2, 1) := by decide +kernel
theorem dX7_takings_65 : decode cX7_takings 65 = .ok (.iadd, 1) := by decide +kernel
theorem dX7_takings_66 : decode cX7_takings 66 = .ok (.iaload, 1) := by decide +kernel
theorem dX7_takings_67 : decode cX7_takings 67 = .ok (.i2l, 1) := by decide +kernel
theorem dX7_takings_68 : decode cX7_takings 68 = .ok (.goto 9, 3) := by decide +kernel
theorem dX7_takings_71 : decode cX7_takings 71 = .ok (.aload_n 0, 1) := by decide +kernel
theorem dX7_takings_72 : decode cX7_takings 72 = .ok (.iload_n 1, 1) := by decide +kernel
theorem dX7_takings_73 : decode cX7_takings 73 = .ok (.iload_n 2, 1) := by decide +kernel
theorem dX7_takings_74 : decode cX7_takings 74 = .ok (.invokevirtual 223, 3) := by decide +kernel
theorem dX7_takings_77 : decode cX7_takings 77 = .ok (.lreturn, 1) := by decide +kernel
theorem dX7_takings_78 : decode cX7_takings 78 = .ok (.aload_n 0, 1) := by decide +kernel
theorem dX7_takings_79 : decode cX7_takings 79 = .ok (.iload_n 1, 1) := by decide +kernel
theorem dX7_takings_80 : decode cX7_takings 80 = .ok (.iload_n 2, 1) := by decide +kernel
theorem dX7_takings_81 : decode cX7_takings 81 = .ok (.invokevirtual 226, 3) := by decide +kernel
theorem dX7_takings_84 : decode cX7_takings 84 = .ok (.ifCond .ne 5, 3) := by decide +kernel
theorem dX7_takings_87 : decode cX7_takings 87 = .ok (.lconst 0, 1) := by decide +kernel
theorem dX7_takings_88 : decode cX7_takings 88 = .ok (.lreturn, 1) := by decide +kernel
theorem dX7_takings_89 : decode cX7_takings 89 = .ok (.iload 4, 2) := by decide +kernel
theorem dX7_takings_91 : decode cX7_takings 91 = .ok (.ifCond .eq 18, 3) := by decide +kernel
theorem dX7_takings_94 : decode cX7_takings 94 = .ok (.aload_n 0, 1) := by decide +kernel
theorem dX7_takings_95 : decode cX7_takings 95 = .ok (.iload_n 1, 1) := by decide +kernel
theorem dX7_takings_96 : decode cX7_takings 96 = .ok (.invokevirtual 229, 3) := by decide +kernel
theorem dX7_takings_99 : decode cX7_takings 99 = .ok (.ifCond .eq 10, 3) := by decide +kernel
theorem dX7_takings_102 : decode cX7_takings 102 = .ok (.aload_n 0, 1) := by decide +kernel
theorem dX7_takings_103 : decode cX7_takings 103 = .ok (.invokevirtual 170, 3) := by decide +kernel
theorem dX7_takings_106 : decode cX7_takings 106 = .ok (.goto 4, 3) := by decide +kernel
theorem dX7_takings_109 : decode cX7_takings 109 = .ok (.lconst 1, 1) := by decide +kernel
theorem dX7_takings_110 : decode cX7_takings 110 = .ok (.lreturn, 1) := by decide +kernel
theorem me_X7_takings : cx_Mv yX7_takings cX7_takings 5 (some .long) 2 := ⟨⟨⟨by decide +kernel, by decide +kernel, by decide +kernel⟩, hw_7, hw_725⟩, hw_724, hs_20⟩
noncomputable def f_X7_takings_J78 (w_early : Int32) (w_late : Int32) (w_firstYear : Nat → Int32) (w_years : Nat → Int32) (w_place : Nat → Int32) (w_before : Nat → Int32) (w_closing : Nat → Int32) (w_likes : Nat → Int32) (w_products : Nat → Int64) (p1 : Int32) (p2 : Int32) (x4_8 : Int32) : Option (Int64 × (Nat → Int64)) := Option.bind (f_X7_multiplyYears w_years w_place w_before w_likes w_products p1 p2) (fun u9 => if u9.1 = 0 then (some ((0, u9.2))) else (if x4_8 = 0 then (some ((1, u9.2))) else (Option.bind (f_X7_areBothTold w_early w_late w_closing p1) (fun u13 => if u13 = 0 then (some ((1, u9.2))) else (Option.bind (f_X7_yearsInOrder w_early w_late w_firstYear w_years w_closing u9.2) (fun u16 => some ((u16, u9.2))))))))
noncomputable def f_X7_takings_J28 (w_early : Int32) (w_late : Int32) (w_firstYear : Nat → Int32) (w_years : Nat → Int32) (w_place : Nat → Int32) (w_before : Nat → Int32) (w_closing : Nat → Int32) (w_likes : Nat → Int32) (w_likeSums : Nat → Int32) (w_products : Nat → Int64) (p1 : Int32) (p2 : Int32) (x3_4 : Int32) (s0_5 : Int32) : Option (Int64 × (Nat → Int64)) := cx_gd (cx_ib x3_4 4) (if (w_closing (cx_ix x3_4)) = p1 then (if s0_5 = 0 then (cx_gd (cx_ib p1 6) (if (w_before (cx_ix p1)) = 6 then (cx_gd (cx_ib ((p1 * 6) + p2) 36) (some ((Int32.toInt64 (w_likeSums (cx_ix ((p1 * 6) + p2))), w_products)))) else (Option.bind (f_X7_sumYears w_years w_place w_before w_likes w_products p1 p2) (fun u21 => some ((u21, w_products)))))) else (f_X7_takings_J78 w_early w_late w_firstYear w_years w_place w_before w_closing w_likes w_products p1 p2 s0_5)) else (f_X7_takings_J78 w_early w_late w_firstYear w_years w_place w_before w_closing w_likes w_products p1 p2 s0_5))
noncomputable def f_X7_takings_J23 (w_early : Int32) (w_late : Int32) (w_firstYear : Nat → Int32) (w_years : Nat → Int32) (w_place : Nat → Int32) (w_before : Nat → Int32) (w_closing : Nat → Int32) (w_likes : Nat → Int32) (w_likeSums : Nat → Int32) (w_products : Nat → Int64) (p1 : Int32) (p2 : Int32) (x3_3 : Int32) : Option (Int64 × (Nat → Int64)) := f_X7_takings_J28 w_early w_late w_firstYear w_years w_place w_before w_closing w_likes w_likeSums w_products p1 p2 x3_3 1
noncomputable def f_X7_takings (w_early : Int32) (w_late : Int32) (w_firstYear : Nat → Int32) (w_years : Nat → Int32) (w_place : Nat → Int32) (w_before : Nat → Int32) (w_closing : Nat → Int32) (w_likes : Nat → Int32) (w_likeSums : Nat → Int32) (w_products : Nat → Int64) (p1 : Int32) (p2 : Int32) : Option (Int64 × (Nat → Int64)) := cx_gd (cx_ib p1 6) (if (w_place (cx_ix p1)) = w_early then (f_X7_takings_J23 w_early w_late w_firstYear w_years w_place w_before w_closing w_likes w_likeSums w_products p1 p2 (w_place (cx_ix p1))) else (if (w_place (cx_ix p1)) = w_late then (f_X7_takings_J23 w_early w_late w_firstYear w_years w_place w_before w_closing w_likes w_likeSums w_products p1 p2 (w_place (cx_ix p1))) else (f_X7_takings_J28 w_early w_late w_firstYear w_years w_place w_before w_closing w_likes w_likeSums w_products p1 p2 (w_place (cx_ix p1)) 0)))
set_option maxHeartbeats 4000000 in
set_option maxRecDepth 100000 in
theorem c_X7_takings (l : Launch) (D : va_G) (k : Nat → ClassId) (w_a : Nat → Nat) (b_a : Nat → Nat) (s_a : Nat → Nat) (w_detail : Int32) (w_skipped : Int32) (w_early : Int32) (w_late : Int32) (w_firstOnly : Int32) (w_firstYear : Nat → Int32) (w_years : Nat → Int32) (w_place : Nat → Int32) (w_before : Nat → Int32) (w_closing : Nat → Int32) (w_likes : Nat → Int32) (w_likeSums : Nat → Int32) (w_namings : Nat → Int32) (w_products : Nat → Int64) (w_weights : Nat → Int64) (w_subtotals : Nat → Int64) (w_way : Nat → Int32) (b_c0 : Nat → Int32) (b_z0 : Int32) (b_c1 : Nat → Int32) (b_z1 : Int32) (b_c2 : Nat → Int32) (b_z2 : Int32) (b_c3 : Nat → Int32) (b_z3 : Int32) (b_c4 : Nat → Int32) (b_z4 : Int32) (b_sg : Int32) (s_np : Nat) (s_total : Nat → Int64) (s_shares : Nat → Int64) (s_pairs : Nat → Int64) (s_crowds : Nat → Int64) (s_bestWay : Nat → Int32) (s_bestWeight : Nat → Int64) (s_answer : Nat → Int64) (s_mine : Nat → Int64) (s_theirs : Nat → Int64) (s_people : Int32) (s_heads : Int32) (p1 : Int32) (p2 : Int32) (y : Int64 × (Nat → Int64)) (hf : f_X7_takings w_early w_late w_firstYear w_years w_place w_before w_closing w_likes w_likeSums w_products p1 p2 = some y) : cx_M l yX7_takings cX7_takings 5 (some .long) 2 D k [.ref (w_a 0), .int p1, .int p2] (wd_Ways k w_a b_a s_a w_detail w_skipped w_early w_late w_firstOnly w_firstYear w_years w_place w_before w_closing w_likes w_likeSums w_namings w_products w_weights w_subtotals w_way ++ (wd_Box k b_a b_c0 b_z0 b_c1 b_z1 b_c2 b_z2 b_c3 b_z3 b_c4 b_z4 b_sg ++ (wd_Sums k s_a s_np s_total s_shares s_pairs s_crowds s_bestWay s_bestWeight s_answer s_mine s_theirs s_people s_heads))) (fun sz => cx_Ql D y.1 (wd_Ways k w_a b_a s_a w_detail w_skipped w_early w_late w_firstOnly w_firstYear w_years w_place w_before w_closing w_likes w_likeSums w_namings w_products w_weights w_subtotals w_way ++ (wd_Box k b_a b_c0 b_z0 b_c1 b_z1 b_c2 b_z2 b_c3 b_z3 b_c4 b_z4 b_sg ++ (wd_Sums k s_a s_np s_total s_shares s_pairs s_crowds s_bestWay s_bestWeight s_answer s_mine s_theirs s_people s_heads))) (wd_Ways k w_a b_a s_a w_detail w_skipped w_early w_late w_firstOnly w_firstYear w_years w_place w_before w_closing w_likes w_likeSums w_namings y.2 w_weights w_subtotals w_way ++ (wd_Box k b_a b_c0 b_z0 b_c1 b_z1 b_c2 b_z2 b_c3 b_z3 b_c4 b_z4 b_sg ++ (wd_Sums k s_a s_np s_total s_shares s_pairs s_crowds s_bestWay s_bestWeight s_answer s_mine s_theirs s_people s_heads))) sz) := by
  refine cx_met (own := "NamelessBox$Ways") (by decide) rfl (Nat.le_of_ble_eq_true rfl) ?_
  intro p e s m args below meth c A Q C hA hQ hr hlk
  refine cx_lv (lv' := [(0, .ref (w_a 0)), (1, .int p1), (2, .int p2)]) [0, 1, 2] rfl ?_
  have J78 : ∀ (x4_8 : Int32), f_X7_takings_J78 w_early w_late w_firstYear w_years w_place w_before w_closing w_likes w_products p1 p2 x4_8 = some y → cx_S p l e (cx_rm 2) s m args below meth c A D 5 0 0 Q 78 [(0, .ref (w_a 0)), (1, .int p1), (2, .int p2), (4, .int x4_8)] [] (wd_Ways k w_a b_a s_a w_detail w_skipped w_early w_late w_firstOnly w_firstYear w_years w_place w_before w_closing w_likes w_likeSums w_namings w_products w_weights w_subtotals w_way ++ (wd_Box k b_a b_c0 b_z0 b_c1 b_z1 b_c2 b_z2 b_c3 b_z3 b_c4 b_z4 b_sg ++ (wd_Sums k s_a s_np s_total s_shares s_pairs s_crowds s_bestWay s_bestWeight s_answer s_mine s_theirs s_people s_heads))) := by
    intro x4_8 hf
    unfold f_X7_takings_J78 at hf
    refine cx_aload_n C dX7_takings_78 0 rfl ?_
    refine cx_iload_n C dX7_takings_79 1 rfl ?_
    refine cx_iload_n C dX7_takings_80 2 rfl ?_
    obtain ⟨u9, e10, hf⟩ := cx_bd_at hf
    refine cx_Fvi (q := (RX7, TX7, 19)) (As := [.int p1, .int p2]) (rest := []) (w1 := (wd_Ways k w_a b_a s_a w_detail w_skipped w_early w_late w_firstOnly w_firstYear w_years w_place w_before w_closing w_likes w_likeSums w_namings u9.2 w_weights w_subtotals w_way ++ (wd_Box k b_a b_c0 b_z0 b_c1 b_z1 b_c2 b_z2 b_c3 b_z3 b_c4 b_z4 b_sg ++ (wd_Sums k s_a s_np s_total s_shares s_pairs s_crowds s_bestWay s_bestWeight s_answer s_mine s_theirs s_people s_heads)))) hA C me_X7_multiplyYears hw_730 (c_X7_multiplyYears l D k w_a b_a s_a w_detail w_skipped w_early w_late w_firstOnly w_firstYear w_years w_place w_before w_closing w_likes w_likeSums w_namings w_products w_weights w_subtotals w_way b_c0 b_z0 b_c1 b_z1 b_c2 b_z2 b_c3 b_z3 b_c4 b_z4 b_sg s_np s_total s_shares s_pairs s_crowds s_bestWay s_bestWeight s_answer s_mine s_theirs s_people s_heads p1 p2 u9 e10) dX7_takings_81 ⟨Nat.le_of_ble_eq_true rfl, Nat.le_of_ble_eq_true rfl⟩ ⟨Nat.zero_le _, Nat.zero_le _⟩ rfl rfl (Nat.le_of_ble_eq_true rfl) rfl rfl rfl ?_
    clear e10
    refine cx_if_ne (tgt := 89) C dX7_takings_84 (by decide) (fun c11 => ?_) (fun c11 => ?_)
    · have hf := cx_if_f hf c11
      clear c11
      refine cx_iload C dX7_takings_89 3 rfl ?_
      refine cx_if_eq (tgt := 109) C dX7_takings_91 (by decide) (fun c12 => ?_) (fun c12 => ?_)
      · have hf := cx_if_t hf c12
        clear c12
        refine cx_lconst (v := 1) C dX7_takings_109 (by decide) ?_
        obtain rfl := Option.some.inj hf
        exact cx_lret C hA hQ hr hlk dX7_takings_110 rfl rfl
      · have hf := cx_if_f hf c12
        clear c12
        refine cx_aload_n C dX7_takings_94 0 rfl ?_
        refine cx_iload_n C dX7_takings_95 1 rfl ?_
        obtain ⟨u13, e14, hf⟩ := cx_bd_at hf
        refine cx_Fvi (q := (RX7, TX7, 19)) (As := [.int p1]) (rest := []) (w1 := (wd_Ways k w_a b_a s_a w_detail w_skipped w_early w_late w_firstOnly w_firstYear w_years w_place w_before w_closing w_likes w_likeSums w_namings u9.2 w_weights w_subtotals w_way ++ (wd_Box k b_a b_c0 b_z0 b_c1 b_z1 b_c2 b_z2 b_c3 b_z3 b_c4 b_z4 b_sg ++ (wd_Sums k s_a s_np s_total s_shares s_pairs s_crowds s_bestWay s_bestWeight s_answer s_mine s_theirs s_people s_heads)))) hA C me_X7_areBothTold hw_734 (c_X7_areBothTold l D k w_a b_a s_a w_detail w_skipped w_early w_late w_firstOnly w_firstYear w_years w_place w_before w_closing w_likes w_likeSums w_namings u9.2 w_weights w_subtotals w_way b_c0 b_z0 b_c1 b_z1 b_c2 b_z2 b_c3 b_z3 b_c4 b_z4 b_sg s_np s_total s_shares s_pairs s_crowds s_bestWay s_bestWeight s_answer s_mine s_theirs s_people s_heads p1 u13 e14) dX7_takings_96 ⟨Nat.le_of_ble_eq_true rfl, Nat.le_of_ble_eq_true rfl⟩ ⟨Nat.zero_le _, Nat.zero_le _⟩ rfl rfl (Nat.le_of_ble_eq_true rfl) rfl rfl rfl ?_
        clear e14
        refine cx_if_eq (tgt := 109) C dX7_takings_99 (by decide) (fun c15 => ?_) (fun c15 => ?_)
        · have hf := cx_if_t hf c15
          clear c15
          refine cx_lconst (v := 1) C dX7_takings_109 (by decide) ?_
          obtain rfl := Option.some.inj hf
          exact cx_lret C hA hQ hr hlk dX7_takings_110 rfl rfl
        · have hf := cx_if_f hf c15
          clear c15
          refine cx_aload_n C dX7_takings_102 0 rfl ?_
          obtain ⟨u16, e17, hf⟩ := cx_bd_at hf
          refine cx_Fvl (q := (RX7, TX7, 19)) (As := []) (rest := []) (w1 := (wd_Ways k w_a b_a s_a w_detail w_skipped w_early w_late w_firstOnly w_firstYear w_years w_place w_before w_closing w_likes w_likeSums w_namings u9.2 w_weights w_subtotals w_way ++ (wd_Box k b_a b_c0 b_z0 b_c1 b_z1 b_c2 b_z2 b_c3 b_z3 b_c4 b_z4 b_sg ++ (wd_Sums k s_a s_np s_total s_shares s_pairs s_crowds s_bestWay s_bestWeight s_answer s_mine s_theirs s_people s_heads)))) hA C me_X7_yearsInOrder hw_681 (c_X7_yearsInOrder l D k w_a b_a s_a w_detail w_skipped w_early w_late w_firstOnly w_firstYear w_years w_place w_before w_closing w_likes w_likeSums w_namings u9.2 w_weights w_subtotals w_way b_c0 b_z0 b_c1 b_z1 b_c2 b_z2 b_c3 b_z3 b_c4 b_z4 b_sg s_np s_total s_shares s_pairs s_crowds s_bestWay s_bestWeight s_answer s_mine s_theirs s_people s_heads u16 e17) dX7_takings_103 ⟨Nat.le_of_ble_eq_true rfl, Nat.le_of_ble_eq_true rfl⟩ ⟨Nat.zero_le _, Nat.zero_le _⟩ rfl rfl (Nat.le_of_ble_eq_true rfl) rfl rfl rfl ?_
          clear e17
          refine cx_goto (tgt := 110) C dX7_takings_106 (by decide) ?_
          obtain rfl := Option.some.inj hf
          exact cx_lret C hA hQ hr hlk dX7_takings_110 rfl rfl
    · have hf := cx_if_t hf c11
      clear c11
      refine cx_lconst (v := 0) C dX7_takings_87 (by decide) ?_
      obtain rfl := Option.some.inj hf
      exact cx_lret C hA hQ hr hlk dX7_takings_88 rfl rfl
  have J28 : ∀ (x3_4 : Int32) (s0_5 : Int32), f_X7_takings_J28 w_early w_late w_firstYear w_years w_place w_before w_closing w_likes w_likeSums w_products p1 p2 x3_4 s0_5 = some y → cx_S p l e (cx_rm 2) s m args below meth c A D 5 0 0 Q 28 [(0, .ref (w_a 0)), (1, .int p1), (2, .int p2), (3, .int x3_4)] [.int s0_5] (wd_Ways k w_a b_a s_a w_detail w_skipped w_early w_late w_firstOnly w_firstYear w_years w_place w_before w_closing w_likes w_likeSums w_namings w_products w_weights w_subtotals w_way ++ (wd_Box k b_a b_c0 b_z0 b_c1 b_z1 b_c2 b_z2 b_c3 b_z3 b_c4 b_z4 b_sg ++ (wd_Sums k s_a s_np s_total s_shares s_pairs s_crowds s_bestWay s_bestWeight s_answer s_mine s_theirs s_people s_heads))) := by
    intro x3_4 s0_5 hf
    unfold f_X7_takings_J28 at hf
    refine cx_istore (lv' := [(4, .int s0_5), (0, .ref (w_a 0)), (1, .int p1), (2, .int p2), (3, .int x3_4)]) C dX7_takings_28 (by decide) rfl ?_
    refine cx_aload_n C dX7_takings_30 1 rfl ?_
    refine cx_get (v := .ref (w_a 5)) (ci := 6) C iX7 dX7_takings_31 0 rfl rfl 11 (by decide) hw_209 rfl ?_
    refine cx_iload_n C dX7_takings_34 4 rfl ?_
    obtain ⟨g6, hf⟩ := cx_gd_at hf
    refine cx_iald C dX7_takings_35 5 rfl (cx_ib_in g6) ?_
    clear g6
    refine cx_iload_n C dX7_takings_36 2 rfl ?_
    refine cx_icmp_ne (tgt := 78) C dX7_takings_37 (by decide) (fun c7 => ?_) (fun c7 => ?_)
    · have hf := cx_if_f hf c7
      clear c7
      refine cx_lv [1, 2, 3, 0] rfl ?_
      exact J78 s0_5 hf
    · have hf := cx_if_t hf c7
      clear c7
      refine cx_iload C dX7_takings_40 0 rfl ?_
      refine cx_if_ne (tgt := 78) C dX7_takings_42 (by decide) (fun c18 => ?_) (fun c18 => ?_)
      · have hf := cx_if_f hf c18
        clear c18
        refine cx_lv [1, 2, 3, 0] rfl ?_
        exact J78 s0_5 hf
      · have hf := cx_if_t hf c18
        clear c18
        refine cx_aload_n C dX7_takings_45 1 rfl ?_
        refine cx_get (v := .ref (w_a 4)) (ci := 6) C iX7 dX7_takings_46 0 rfl rfl 10 (by decide) hw_208 rfl ?_
        refine cx_iload_n C dX7_takings_49 2 rfl ?_
        obtain ⟨g19, hf⟩ := cx_gd_at hf
        refine cx_iald C dX7_takings_50 4 rfl (cx_ib_in g19) ?_
        clear g19
        refine cx_bipush (v := 6) C dX7_takings_51 (by decide) ?_
        refine cx_icmp_ne (tgt := 71) C dX7_takings_53 (by decide) (fun c20 => ?_) (fun c20 => ?_)
        · have hf := cx_if_f hf c20
          clear c20
          refine cx_aload_n C dX7_takings_71 1 rfl ?_
          refine cx_iload_n C dX7_takings_72 2 rfl ?_
          refine cx_iload_n C dX7_takings_73 3 rfl ?_
          obtain ⟨u21, e22, hf⟩ := cx_bd_at hf
          refine cx_Fvl (q := (RX7, TX7, 19)) (As := [.int p1, .int p2]) (rest := []) (w1 := (wd_Ways k w_a b_a s_a w_detail w_skipped w_early w_late w_firstOnly w_firstYear w_years w_place w_before w_closing w_likes w_likeSums w_namings w_products w_weights w_subtotals w_way ++ (wd_Box k b_a b_c0 b_z0 b_c1 b_z1 b_c2 b_z2 b_c3 b_z3 b_c4 b_z4 b_sg ++ (wd_Sums k s_a s_np s_total s_shares s_pairs s_crowds s_bestWay s_bestWeight s_answer s_mine s_theirs s_people s_heads)))) hA C me_X7_sumYears hw_726 (c_X7_sumYears l D k w_a b_a s_a w_detail w_skipped w_early w_late w_firstOnly w_firstYear w_years w_place w_before w_closing w_likes w_likeSums w_namings w_products w_weights w_subtotals w_way b_c0 b_z0 b_c1 b_z1 b_c2 b_z2 b_c3 b_z3 b_c4 b_z4 b_sg s_np s_total s_shares s_pairs s_crowds s_bestWay s_bestWeight s_answer s_mine s_theirs s_people s_heads p1 p2 u21 e22) dX7_takings_74 ⟨Nat.le_of_ble_eq_true rfl, Nat.le_of_ble_eq_true rfl⟩ ⟨Nat.zero_le _, Nat.zero_le _⟩ rfl rfl (Nat.le_of_ble_eq_true rfl) rfl rfl rfl ?_
          clear e22
          obtain rfl := Option.some.inj hf
          exact cx_lret C hA hQ hr hlk dX7_takings_77 rfl rfl
        · have hf := cx_if_t hf c20
          clear c20
          refine cx_aload_n C dX7_takings_56 1 rfl ?_
          refine cx_get (v := .ref (w_a 7)) (ci := 6) C iX7 dX7_takings_57 0 rfl rfl 13 (by decide) hw_211 rfl ?_
          refine cx_iload_n C dX7_takings_60 2 rfl ?_
          refine cx_bipush (v := 6) C dX7_takings_61 (by decide) ?_
          refine cx_imul C dX7_takings_63 ?_
          refine cx_iload_n C dX7_takings_64 3 rfl ?_
          refine cx_iadd C dX7_takings_65 ?_
          obtain ⟨g23, hf⟩ := cx_gd_at hf
          refine cx_iald C dX7_takings_66 7 rfl (cx_ib_in g23) ?_
          clear g23
          refine cx_i2l C dX7_takings_67 ?_
          refine cx_goto (tgt := 77) C dX7_takings_68 (by decide) ?_
          obtain rfl := Option.some.inj hf
          exact cx_lret C hA hQ hr hlk dX7_takings_77 rfl rfl
  have J23 : ∀ (x3_3 : Int32), f_X7_takings_J23 w_early w_late w_firstYear w_years w_place w_before w_closing w_likes w_likeSums w_products p1 p2 x3_3 = some y → cx_S p l e (cx_rm 2) s m args below meth c A D 5 0 0 Q 23 [(0, .ref (w_a 0)), (1, .int p1), (2, .int p2), (3, .int x3_3)] [] (wd_Ways k w_a b_a s_a w_detail w_skipped w_early w_late w_firstOnly w_firstYear w_years w_place w_before w_closing w_likes w_likeSums w_namings w_products w_weights w_subtotals w_way ++ (wd_Box k b_a b_c0 b_z0 b_c1 b_z1 b_c2 b_z2 b_c3 b_z3 b_c4 b_z4 b_sg ++ (wd_Sums k s_a s_np s_total s_shares s_pairs s_crowds s_bestWay s_bestWeight s_answer s_mine s_theirs s_people s_heads))) := by
    intro x3_3 hf
    unfold f_X7_takings_J23 at hf
    refine cx_iconst (v := 1) C dX7_takings_23 (by decide) ?_
    refine cx_goto (tgt := 28) C dX7_takings_24 (by decide) ?_
    exact J28 x3_3 1 hf
  unfold f_X7_takings at hf
  refine cx_aload_n C dX7_takings_0 0 rfl ?_
  refine cx_get (v := .ref (w_a 3)) (ci := 6) C iX7 dX7_takings_1 0 rfl rfl 9 (by decide) hw_207 rfl ?_
  refine cx_iload_n C dX7_takings_4 1 rfl ?_
  obtain ⟨g1, hf⟩ := cx_gd_at hf
  refine cx_iald C dX7_takings_5 3 rfl (cx_ib_in g1) ?_
  clear g1
  refine cx_istore_n (lv' := [(3, .int (w_place (cx_ix p1))), (0, .ref (w_a 0)), (1, .int p1), (2, .int p2)]) C dX7_takings_6 rfl (by decide) rfl ?_
  refine cx_iload_n C dX7_takings_7 0 rfl ?_
  refine cx_aload_n C dX7_takings_8 1 rfl ?_
  refine cx_get (v := .int w_early) (ci := 6) C iX7 dX7_takings_9 0 rfl rfl 4 (by decide) hw_202 rfl ?_
  refine cx_icmp_eq (tgt := 23) C dX7_takings_12 (by decide) (fun c2 => ?_) (fun c2 => ?_)
  · have hf := cx_if_t hf c2
    clear c2
    refine cx_lv [1, 2, 3, 0] rfl ?_
    exact J23 (w_place (cx_ix p1)) hf
  · have hf := cx_if_f hf c2
    clear c2
    refine cx_iload_n C dX7_takings_15 0 rfl ?_
    refine cx_aload_n C dX7_takings_16 1 rfl ?_
    refine cx_get (v := .int w_late) (ci := 6) C iX7 dX7_takings_17 0 rfl rfl 5 (by decide) hw_203 rfl ?_
    refine cx_icmp_ne (tgt := 27) C dX7_takings_20 (by decide) (fun c24 => ?_) (fun c24 => ?_)
    · have hf := cx_if_f hf c24
      clear c24
      refine cx_iconst (v := 0) C dX7_takings_27 (by decide) ?_
      refine cx_lv [1, 2, 3, 0] rfl ?_
      exact J28 (w_place (cx_ix p1)) 0 hf
    · have hf := cx_if_t hf c24
      clear c24
      refine cx_lv [1, 2, 3, 0] rfl ?_
      exact J23 (w_place (cx_ix p1)) hf
theorem dX7_goesOn_0 : decode cX7_goesOn 0 = .ok (.aload_n 0, 1) := by decide +kernel
theorem dX7_goesOn_1 : decode cX7_goesOn 1 = .ok (.iload_n 1, 1) := by decide +kernel
theorem dX7_goesOn_2 : decode cX7_goesOn 2 = .ok (.iload_n 2, 1) := by decide +kernel
theorem dX7_goesOn_3 : decode cX7_goesOn 3 = .ok (.invokevirtual 205, 3) := by decide +kernel
theorem dX7_goesOn_6 : decode cX7_goesOn 6 = .ok (.ifCond .eq 5, 3) := by decide +kernel
theorem dX7_goesOn_9 : decode cX7_goesOn 9 = .ok (.iconst 0, 1) := by decide +kernel
theorem dX7_goesOn_10 : decode cX7_goesOn 10 = .ok (.ireturn, 1) := by decide +kernel
theorem dX7_goesOn_11 : decode cX7_goesOn 11 = .ok (.aload_n 0, 1) := by decide +kernel
theorem dX7_goesOn_12 : decode cX7_goesOn 12 = .ok (.getfield 50, 3) := by decide +kernel
theorem dX7_goesOn_15 : decode cX7_goesOn 15 = .ok (.iload_n 1, 1) := by decide +kernel
theorem dX7_goesOn_16 : decode cX7_goesOn 16 = .ok (.bipush 6, 2) := by decide +kernel
theorem dX7_goesOn_18 : decode cX7_goesOn 18 = .ok (.imul, 1) := by decide +kernel
theorem dX7_goesOn_19 : decode cX7_goesOn 19 = .ok (.iload_n 2, 1) := by decide +kernel
theorem dX7_goesOn_20 : decode cX7_goesOn 20 = .ok (.iadd, 1) := by decide +kernel
theorem dX7_goesOn_21 : decode cX7_goesOn 21 = .ok (.iaload, 1) := by decide +kernel
theorem dX7_goesOn_22 : decode cX7_goesOn 22 = .ok (.i2l, 1) := by decide +kernel
theorem dX7_goesOn_23 : decode cX7_goesOn 23 = .ok (.aload_n 0, 1) := by decide +kernel
theorem dX7_goesOn_24 : decode cX7_goesOn 24 = .ok (.iload_n 1, 1) := by decide +kernel
theorem dX7_goesOn_25 : decode cX7_goesOn 25 = .ok (.iload_n 2, 1) := by decide +kernel
theorem dX7_goesOn_26 : decode cX7_goesOn 26 = .ok (.invokevirtual 208, 3) := by decide +kernel
theorem dX7_goesOn_29 : decode cX7_goesOn 29 = .ok (.i2l, 1) := by decide +kernel
theorem dX7_goesOn_30 : decode cX7_goesOn 30 = .ok (.lmul, 1) := by decide +kernel
theorem dX7_goesOn_31 : decode cX7_goesOn 31 = .ok (.lstore_n 3, 1) := by decide +kernel
theorem dX7_goesOn_32 : decode cX7_goesOn 32 = .ok (.lload_n 3, 1) := by decide +kernel
theorem dX7_goesOn_33 : decode cX7_goesOn 33 = .ok (.lconst 0, 1) := by decide +kernel
theorem dX7_goesOn_34 : decode cX7_goesOn 34 = .ok (.lcmp, 1) := by decide +kernel
theorem dX7_goesOn_35 : decode cX7_goesOn 35 = .ok (.ifCond .ne 7, 3) := by decide +kernel
theorem dX7_goesOn_38 : decode cX7_goesOn 38 = .ok (.lconst 0, 1) := by decide +kernel
theorem dX7_goesOn_39 : decode cX7_goesOn 39 = .ok (.goto 9, 3) := by decide +kernel
theorem dX7_goesOn_42 : decode cX7_goesOn 42 = .ok (.aload_n 0, 1) := by decide +kernel
theorem dX7_goesOn_43 : decode cX7_goesOn 43 = .ok (.iload_n 1, 1) := by decide +kernel
theorem dX7_goesOn_44 : decode cX7_goesOn 44 = .ok (.iload_n 2, 1) := by decide +kernel
theorem dX7_goesOn_45 : decode cX7_goesOn 45 = .ok (.invokevirtual 211, 3) := by decide +kernel
theorem dX7_goesOn_48 : decode cX7_goesOn 48 = .ok (.lstore 5, 2) := by decide +kernel
theorem dX7_goesOn_50 : decode cX7_goesOn 50 = .ok (.lload 5, 2) := by decide +kernel
theorem dX7_goesOn_52 : decode cX7_goesOn 52 = .ok (.lconst 0, 1) := by decide +kernel
theorem dX7_goesOn_53 : decode cX7_goesOn 53 = .ok (.lcmp, 1) := by decide +kernel
theorem dX7_goesOn_54 : decode cX7_goesOn 54 = .ok (.ifCond .ne 5, 3) := by decide +kernel
theorem dX7_goesOn_57 : decode cX7_goesOn 57 = .ok (.iconst 0, 1) := by decide +kernel
theorem dX7_goesOn_58 : decode cX7_goesOn 58 = .ok (.ireturn, 1) := by decide +kernel
theorem dX7_goesOn_59 : decode cX7_goesOn 59 = .ok (.lload 5, 2) := by decide +kernel
theorem dX7_goesOn_61 : decode cX7_goesOn 61 = .ok (.ldc2_w 215, 3) := by decide +kernel
theorem dX7_goesOn_64 : decode cX7_goesOn 64 = .ok (.lcmp, 1) := by decide +kernel
theorem dX7_goesOn_65 : decode cX7_goesOn 65 = .ok (.ifCond .ge 25, 3) := by decide +kernel
theorem dX7_goesOn_68 : decode cX7_goesOn 68 = .ok (.aload_n 0, 1) := by decide +kernel
theorem dX7_goesOn_69 : decode cX7_goesOn 69 = .ok (.getfield 59, 3) := by decide +kernel
theorem dX7_goesOn_72 : decode cX7_goesOn 72 = .ok (.iload_n 1, 1) := by decide +kernel
theorem dX7_goesOn_73 : decode cX7_goesOn 73 = .ok (.iconst 1, 1) := by decide +kernel
theorem dX7_goesOn_74 : decode cX7_goesOn 74 = .ok (.iadd, 1) := by decide +kernel
theorem dX7_goesOn_75 : decode cX7_goesOn 75 = .ok (.aload_n 0, 1) := by decide +kernel
theorem dX7_goesOn_76 : decode cX7_goesOn 76 = .ok (.getfield 59, 3) := by decide +kernel
theorem dX7_goesOn_79 : decode cX7_goesOn 79 = .ok (.iload_n 1, 1) := by decide +kernel
theorem dX7_goesOn_80 : decode cX7_goesOn 80 = .ok (.lload_n 3, 1) := by decide +kernel
theorem dX7_goesOn_81 : decode cX7_goesOn 81 = .ok (.lload 5, 2) := by decide +kernel
theorem dX7_goesOn_83 : decode cX7_goesOn 83 = .ok (.lmul, 1) := by decide +kernel
theorem dX7_goesOn_84 : decode cX7_goesOn 84 = .ok (.invokestatic 166, 3) := by decide +kernel
theorem dX7_goesOn_87 : decode cX7_goesOn 87 = .ok (.goto 38, 3) := by decide +kernel
theorem dX7_goesOn_90 : decode cX7_goesOn 90 = .ok (.aload_n 0, 1) := by decide +kernel
theorem dX7_goesOn_91 : decode cX7_goesOn 91 = .ok (.getfield 59, 3) := by decide +kernel
theorem dX7_goesOn_94 : decode cX7_goesOn 94 = .ok (.iload_n 1, 1) := by decide +kernel
theorem dX7_goesOn_95 : decode cX7_goesOn 95 = .ok (.iconst 1, 1) := by decide +kernel
theorem dX7_goesOn_96 : decode cX7_goesOn 96 = .ok (.iadd, 1) := by decide +kernel
theorem dX7_goesOn_97 : decode cX7_goesOn 97 = .ok (.aload_n 0, 1) := by decide +kernel
theorem dX7_goesOn_98 : decode cX7_goesOn 98 = .ok (.getfield 59, 3) := by decide +kernel
theorem dX7_goesOn_101 : decode cX7_goesOn 101 = .ok (.iload_n 1, 1) := by decide +kernel
theorem dX7_goesOn_102 : decode cX7_goesOn 102 = .ok (.lload_n 3, 1) := by decide +kernel
theorem dX7_goesOn_103 : decode cX7_goesOn 103 = .ok (.invokestatic 166, 3) := by decide +kernel
theorem dX7_goesOn_106 : decode cX7_goesOn 106 = .ok (.aload_n 0, 1) := by decide +kernel
theorem dX7_goesOn_107 : decode cX7_goesOn 107 = .ok (.getfield 59, 3) := by decide +kernel
theorem dX7_goesOn_110 : decode cX7_goesOn 110 = .ok (.iload_n 1, 1) := by decide +kernel
theorem dX7_goesOn_111 : decode cX7_goesOn 111 = .ok (.iconst 1, 1) := by decide +kernel
theorem dX7_goesOn_112 : decode cX7_goesOn 112 = .ok (.iadd, 1) := by decide +kernel
theorem dX7_goesOn_113 : decode cX7_goesOn 113 = .ok (.aload_n 0, 1) := by decide +kernel
theorem dX7_goesOn_114 : decode cX7_goesOn 114 = .ok (.getfield 59, 3) := by decide +kernel
theorem dX7_goesOn_117 : decode cX7_goesOn 117 = .ok (.iload_n 1, 1) := by decide +kernel
theorem dX7_goesOn_118 : decode cX7_goesOn 118 = .ok (.iconst 1, 1) := by decide +kernel
theorem dX7_goesOn_119 : decode cX7_goesOn 119 = .ok (.iadd, 1) := by decide +kernel
theorem dX7_goesOn_120 : decode cX7_goesOn 120 = .ok (.lload 5, 2) := by decide +kernel
theorem dX7_goesOn_122 : decode cX7_goesOn 122 = .ok (.invokestatic 166, 3) := by decide +kernel
theorem dX7_goesOn_125 : decode cX7_goesOn 125 = .ok (.iconst 1, 1) := by decide +kernel
theorem dX7_goesOn_126 : decode cX7_goesOn 126 = .ok (.ireturn, 1) := by decide +kernel
theorem me_X7_goesOn : cx_Mv yX7_goesOn cX7_goesOn 7 (some .boolean) 2 := ⟨⟨⟨by decide +kernel, by decide +kernel, by decide +kernel⟩, hw_7, hw_712⟩, hw_711, hs_17⟩
noncomputable def f_X7_goesOn_J48 (w_weights : Nat → Int64) (p1 : Int32) (a_11 : Nat → Int64) (x3_12 : Int64) (s0_13 : Int64) : Option (Int32 × (Nat → Int64) × (Nat → Int64)) := if (lg_cmp s0_13 0) = 0 then (some ((0, a_11, w_weights))) else (if 0 ≤ (lg_cmp s0_13 8589934592) then (Option.bind (f_X3_multiply_x_e0 28 w_weights (p1 + 1) p1 x3_12) (fun u16 => Option.bind (f_X3_multiply_x_e0 28 u16 (p1 + 1) (p1 + 1) s0_13) (fun u18 => some ((1, a_11, u18))))) else (Option.bind (f_X3_multiply_x_e0 28 w_weights (p1 + 1) p1 (x3_12 * s0_13)) (fun u20 => some ((1, a_11, u20)))))
noncomputable def f_X7_goesOn (w_early : Int32) (w_late : Int32) (w_firstYear : Nat → Int32) (w_years : Nat → Int32) (w_place : Nat → Int32) (w_before : Nat → Int32) (w_closing : Nat → Int32) (w_likes : Nat → Int32) (w_likeSums : Nat → Int32) (w_namings : Nat → Int32) (w_products : Nat → Int64) (w_weights : Nat → Int64) (w_way : Nat → Int32) (b_c4 : Nat → Int32) (b_z4 : Int32) (p1 : Int32) (p2 : Int32) : Option (Int32 × (Nat → Int64) × (Nat → Int64)) := Option.bind (f_X7_isThereAlready w_before w_way p1 p2) (fun u1 => if u1 = 0 then (cx_gd (cx_ib ((p1 * 6) + p2) 36) (Option.bind (f_X7_joinings w_way b_c4 b_z4 p1 p2) (fun u5 => cx_let ((Int32.toInt64 (w_namings (cx_ix ((p1 * 6) + p2)))) * (Int32.toInt64 u5)) (fun v7 => if (lg_cmp v7 0) = 0 then (f_X7_goesOn_J48 w_weights p1 w_products v7 0) else (Option.bind (f_X7_takings w_early w_late w_firstYear w_years w_place w_before w_closing w_likes w_likeSums w_products p1 p2) (fun u9 => f_X7_goesOn_J48 w_weights p1 u9.2 v7 u9.1)))))) else (some ((0, w_products, w_weights))))
set_option maxHeartbeats 4000000 in
set_option maxRecDepth 100000 in
theorem c_X7_goesOn (l : Launch) (D : va_G) (k : Nat → ClassId) (w_a : Nat → Nat) (b_a : Nat → Nat) (s_a : Nat → Nat) (w_detail : Int32) (w_skipped : Int32) (w_early : Int32) (w_late : Int32) (w_firstOnly : Int32) (w_firstYear : Nat → Int32) (w_years : Nat → Int32) (w_place : Nat → Int32) (w_before : Nat → Int32) (w_closing : Nat → Int32) (w_likes : Nat → Int32) (w_likeSums : Nat → Int32) (w_namings : Nat → Int32) (w_products : Nat → Int64) (w_weights : Nat → Int64) (w_subtotals : Nat → Int64) (w_way : Nat → Int32) (b_c0 : Nat → Int32) (b_z0 : Int32) (b_c1 : Nat → Int32) (b_z1 : Int32) (b_c2 : Nat → Int32) (b_z2 : Int32) (b_c3 : Nat → Int32) (b_z3 : Int32) (b_c4 : Nat → Int32) (b_z4 : Int32) (b_sg : Int32) (s_np : Nat) (s_total : Nat → Int64) (s_shares : Nat → Int64) (s_pairs : Nat → Int64) (s_crowds : Nat → Int64) (s_bestWay : Nat → Int32) (s_bestWeight : Nat → Int64) (s_answer : Nat → Int64) (s_mine : Nat → Int64) (s_theirs : Nat → Int64) (s_people : Int32) (s_heads : Int32) (p1 : Int32) (p2 : Int32) (y : Int32 × (Nat → Int64) × (Nat → Int64)) (hf : f_X7_goesOn w_early w_late w_firstYear w_years w_place w_before w_closing w_likes w_likeSums w_namings w_products w_weights w_way b_c4 b_z4 p1 p2 = some y) : cx_M l yX7_goesOn cX7_goesOn 7 (some .boolean) 3 D k [.ref (w_a 0), .int p1, .int p2] (wd_Ways k w_a b_a s_a w_detail w_skipped w_early w_late w_firstOnly w_firstYear w_years w_place w_before w_closing w_likes w_likeSums w_namings w_products w_weights w_subtotals w_way ++ (wd_Box k b_a b_c0 b_z0 b_c1 b_z1 b_c2 b_z2 b_c3 b_z3 b_c4 b_z4 b_sg ++ (wd_Sums k s_a s_np s_total s_shares s_pairs s_crowds s_bestWay s_bestWeight s_answer s_mine s_theirs s_people s_heads))) (fun sz => cx_Qi D y.1 (wd_Ways k w_a b_a s_a w_detail w_skipped w_early w_late w_firstOnly w_firstYear w_years w_place w_before w_closing w_likes w_likeSums w_namings w_products w_weights w_subtotals w_way ++ (wd_Box k b_a b_c0 b_z0 b_c1 b_z1 b_c2 b_z2 b_c3 b_z3 b_c4 b_z4 b_sg ++ (wd_Sums k s_a s_np s_total s_shares s_pairs s_crowds s_bestWay s_bestWeight s_answer s_mine s_theirs s_people s_heads))) (wd_Ways k w_a b_a s_a w_detail w_skipped w_early w_late w_firstOnly w_firstYear w_years w_place w_before w_closing w_likes w_likeSums w_namings y.2.1 y.2.2 w_subtotals w_way ++ (wd_Box k b_a b_c0 b_z0 b_c1 b_z1 b_c2 b_z2 b_c3 b_z3 b_c4 b_z4 b_sg ++ (wd_Sums k s_a s_np s_total s_shares s_pairs s_crowds s_bestWay s_bestWeight s_answer s_mine s_theirs s_people s_heads))) sz) := by
  refine cx_met (own := "NamelessBox$Ways") (by decide) rfl (Nat.le_of_ble_eq_true rfl) ?_
  intro p e s m args below meth c A Q C hA hQ hr hlk
  refine cx_lv (lv' := [(0, .ref (w_a 0)), (1, .int p1), (2, .int p2)]) [0, 1, 2] rfl ?_
  have J48 : ∀ (a_11 : Nat → Int64) (x3_12 : Int64) (s0_13 : Int64), f_X7_goesOn_J48 w_weights p1 a_11 x3_12 s0_13 = some y → cx_S p l e (cx_rm 3) s m args below meth c A D 7 0 0 Q 48 [(0, .ref (w_a 0)), (1, .int p1), (3, .long x3_12)] [.long s0_13] (wd_Ways k w_a b_a s_a w_detail w_skipped w_early w_late w_firstOnly w_firstYear w_years w_place w_before w_closing w_likes w_likeSums w_namings a_11 w_weights w_subtotals w_way ++ (wd_Box k b_a b_c0 b_z0 b_c1 b_z1 b_c2 b_z2 b_c3 b_z3 b_c4 b_z4 b_sg ++ (wd_Sums k s_a s_np s_total s_shares s_pairs s_crowds s_bestWay s_bestWeight s_answer s_mine s_theirs s_people s_heads))) := by
    intro a_11 x3_12 s0_13 hf
    unfold f_X7_goesOn_J48 at hf
    refine cx_lstore (lv' := [(5, .long s0_13), (0, .ref (w_a 0)), (1, .int p1), (3, .long x3_12)]) C dX7_goesOn_48 (by decide) rfl ?_
    refine cx_lload C dX7_goesOn_50 0 rfl ?_
    refine cx_lconst (v := 0) C dX7_goesOn_52 (by decide) ?_
    refine cx_lcmp C dX7_goesOn_53 ?_
    refine cx_if_ne (tgt := 59) C dX7_goesOn_54 (by decide) (fun c14 => ?_) (fun c14 => ?_)
    · have hf := cx_if_f hf c14
      clear c14
      refine cx_lload C dX7_goesOn_59 0 rfl ?_
      refine cx_ldc2 (v := 8589934592) C dX7_goesOn_61 hw_738 ?_
      refine cx_lcmp C dX7_goesOn_64 ?_
      refine cx_if_ge (tgt := 90) C dX7_goesOn_65 (by decide) (fun c15 => ?_) (fun c15 => ?_)
      · have hf := cx_if_t hf c15
        clear c15
        refine cx_aload_n C dX7_goesOn_90 1 rfl ?_
        refine cx_get (v := .ref (w_a 10)) (ci := 6) C iX7 dX7_goesOn_91 0 rfl rfl 16 (by decide) hw_214 rfl ?_
        refine cx_iload_n C dX7_goesOn_94 2 rfl ?_
        refine cx_iconst (v := 1) C dX7_goesOn_95 (by decide) ?_
        refine cx_iadd C dX7_goesOn_96 ?_
        refine cx_aload_n C dX7_goesOn_97 1 rfl ?_
        refine cx_get (v := .ref (w_a 10)) (ci := 6) C iX7 dX7_goesOn_98 0 rfl rfl 16 (by decide) hw_214 rfl ?_
        refine cx_iload_n C dX7_goesOn_101 2 rfl ?_
        refine cx_lload_n C dX7_goesOn_102 3 rfl ?_
        obtain ⟨u16, e17, hf⟩ := cx_bd_at hf
        refine cx_csv (As := [.ref (w_a 10), .int (p1 + 1), .ref (w_a 10), .int p1, .long x3_12]) (rest := []) (ws' := (wd_Ways k w_a b_a s_a w_detail w_skipped w_early w_late w_firstOnly w_firstYear w_years w_place w_before w_closing w_likes w_likeSums w_namings a_11 u16 w_subtotals w_way ++ (wd_Box k b_a b_c0 b_z0 b_c1 b_z1 b_c2 b_z2 b_c3 b_z3 b_c4 b_z4 b_sg ++ (wd_Sums k s_a s_np s_total s_shares s_pairs s_crowds s_bestWay s_bestWeight s_answer s_mine s_theirs s_people s_heads)))) hA C me_X3_multiply hw_677 (c_X3_multiply_x_e0 l D k (w_a 10) 28 w_weights (p1 + 1) p1 x3_12 u16 e17) dX7_goesOn_103 ⟨Nat.le_of_ble_eq_true rfl, Nat.le_of_ble_eq_true rfl⟩ ⟨Nat.zero_le _, Nat.zero_le _⟩ rfl rfl (Nat.le_of_ble_eq_true rfl) [10] rfl (by decide) rfl rfl ?_
        clear e17
        refine cx_aload_n C dX7_goesOn_106 1 rfl ?_
        refine cx_get (v := .ref (w_a 10)) (ci := 6) C iX7 dX7_goesOn_107 0 rfl rfl 16 (by decide) hw_214 rfl ?_
        refine cx_iload_n C dX7_goesOn_110 2 rfl ?_
        refine cx_iconst (v := 1) C dX7_goesOn_111 (by decide) ?_
        refine cx_iadd C dX7_goesOn_112 ?_
        refine cx_aload_n C dX7_goesOn_113 1 rfl ?_
        refine cx_get (v := .ref (w_a 10)) (ci := 6) C iX7 dX7_goesOn_114 0 rfl rfl 16 (by decide) hw_214 rfl ?_
        refine cx_iload_n C dX7_goesOn_117 2 rfl ?_
        refine cx_iconst (v := 1) C dX7_goesOn_118 (by decide) ?_
        refine cx_iadd C dX7_goesOn_119 ?_
        refine cx_lload C dX7_goesOn_120 0 rfl ?_
        obtain ⟨u18, e19, hf⟩ := cx_bd_at hf
        refine cx_csv (As := [.ref (w_a 10), .int (p1 + 1), .ref (w_a 10), .int (p1 + 1), .long s0_13]) (rest := []) (ws' := (wd_Ways k w_a b_a s_a w_detail w_skipped w_early w_late w_firstOnly w_firstYear w_years w_place w_before w_closing w_likes w_likeSums w_namings a_11 u18 w_subtotals w_way ++ (wd_Box k b_a b_c0 b_z0 b_c1 b_z1 b_c2 b_z2 b_c3 b_z3 b_c4 b_z4 b_sg ++ (wd_Sums k s_a s_np s_total s_shares s_pairs s_crowds s_bestWay s_bestWeight s_answer s_mine s_theirs s_people s_heads)))) hA C me_X3_multiply hw_677 (c_X3_multiply_x_e0 l D k (w_a 10) 28 u16 (p1 + 1) (p1 + 1) s0_13 u18 e19) dX7_goesOn_122 ⟨Nat.le_of_ble_eq_true rfl, Nat.le_of_ble_eq_true rfl⟩ ⟨Nat.zero_le _, Nat.zero_le _⟩ rfl rfl (Nat.le_of_ble_eq_true rfl) [10] rfl (by decide) rfl rfl ?_
        clear e19
        refine cx_iconst (v := 1) C dX7_goesOn_125 (by decide) ?_
        obtain rfl := Option.some.inj hf
        exact cx_zret C hA hQ hr hlk dX7_goesOn_126 rfl rfl rfl
      · have hf := cx_if_f hf c15
        clear c15
        refine cx_aload_n C dX7_goesOn_68 1 rfl ?_
        refine cx_get (v := .ref (w_a 10)) (ci := 6) C iX7 dX7_goesOn_69 0 rfl rfl 16 (by decide) hw_214 rfl ?_
        refine cx_iload_n C dX7_goesOn_72 2 rfl ?_
        refine cx_iconst (v := 1) C dX7_goesOn_73 (by decide) ?_
        refine cx_iadd C dX7_goesOn_74 ?_
        refine cx_aload_n C dX7_goesOn_75 1 rfl ?_
        refine cx_get (v := .ref (w_a 10)) (ci := 6) C iX7 dX7_goesOn_76 0 rfl rfl 16 (by decide) hw_214 rfl ?_
        refine cx_iload_n C dX7_goesOn_79 2 rfl ?_
        refine cx_lload_n C dX7_goesOn_80 3 rfl ?_
        refine cx_lload C dX7_goesOn_81 0 rfl ?_
        refine cx_lmul C dX7_goesOn_83 ?_
        obtain ⟨u20, e21, hf⟩ := cx_bd_at hf
        refine cx_csv (As := [.ref (w_a 10), .int (p1 + 1), .ref (w_a 10), .int p1, .long (x3_12 * s0_13)]) (rest := []) (ws' := (wd_Ways k w_a b_a s_a w_detail w_skipped w_early w_late w_firstOnly w_firstYear w_years w_place w_before w_closing w_likes w_likeSums w_namings a_11 u20 w_subtotals w_way ++ (wd_Box k b_a b_c0 b_z0 b_c1 b_z1 b_c2 b_z2 b_c3 b_z3 b_c4 b_z4 b_sg ++ (wd_Sums k s_a s_np s_total s_shares s_pairs s_crowds s_bestWay s_bestWeight s_answer s_mine s_theirs s_people s_heads)))) hA C me_X3_multiply hw_677 (c_X3_multiply_x_e0 l D k (w_a 10) 28 w_weights (p1 + 1) p1 (x3_12 * s0_13) u20 e21) dX7_goesOn_84 ⟨Nat.le_of_ble_eq_true rfl, Nat.le_of_ble_eq_true rfl⟩ ⟨Nat.zero_le _, Nat.zero_le _⟩ rfl rfl (Nat.le_of_ble_eq_true rfl) [10] rfl (by decide) rfl rfl ?_
        clear e21
        refine cx_goto (tgt := 125) C dX7_goesOn_87 (by decide) ?_
        refine cx_iconst (v := 1) C dX7_goesOn_125 (by decide) ?_
        obtain rfl := Option.some.inj hf
        exact cx_zret C hA hQ hr hlk dX7_goesOn_126 rfl rfl rfl
    · have hf := cx_if_t hf c14
      clear c14
      refine cx_iconst (v := 0) C dX7_goesOn_57 (by decide) ?_
      obtain rfl := Option.some.inj hf
      exact cx_zret C hA hQ hr hlk dX7_goesOn_58 rfl rfl rfl
  unfold f_X7_goesOn at hf
  refine cx_aload_n C dX7_goesOn_0 0 rfl ?_
  refine cx_iload_n C dX7_goesOn_1 1 rfl ?_
  refine cx_iload_n C dX7_goesOn_2 2 rfl ?_
  obtain ⟨u1, e2, hf⟩ := cx_bd_at hf
  refine cx_Fvi (q := (RX7, TX7, 19)) (As := [.int p1, .int p2]) (rest := []) (w1 := (wd_Ways k w_a b_a s_a w_detail w_skipped w_early w_late w_firstOnly w_firstYear w_years w_place w_before w_closing w_likes w_likeSums w_namings w_products w_weights w_subtotals w_way ++ (wd_Box k b_a b_c0 b_z0 b_c1 b_z1 b_c2 b_z2 b_c3 b_z3 b_c4 b_z4 b_sg ++ (wd_Sums k s_a s_np s_total s_shares s_pairs s_crowds s_bestWay s_bestWeight s_answer s_mine s_theirs s_people s_heads)))) hA C me_X7_isThereAlready hw_713 (c_X7_isThereAlready l D k w_a b_a s_a w_detail w_skipped w_early w_late w_firstOnly w_firstYear w_years w_place w_before w_closing w_likes w_likeSums w_namings w_products w_weights w_subtotals w_way b_c0 b_z0 b_c1 b_z1 b_c2 b_z2 b_c3 b_z3 b_c4 b_z4 b_sg s_np s_total s_shares s_pairs s_crowds s_bestWay s_bestWeight s_answer s_mine s_theirs s_people s_heads p1 p2 u1 e2) dX7_goesOn_3 ⟨Nat.le_of_ble_eq_true rfl, Nat.le_of_ble_eq_true rfl⟩ ⟨Nat.zero_le _, Nat.zero_le _⟩ rfl rfl (Nat.le_of_ble_eq_true rfl) rfl rfl rfl ?_
  clear e2
  refine cx_if_eq (tgt := 11) C dX7_goesOn_6 (by decide) (fun c3 => ?_) (fun c3 => ?_)
  · have hf := cx_if_t hf c3
    clear c3
    refine cx_aload_n C dX7_goesOn_11 0 rfl ?_
    refine cx_get (v := .ref (w_a 8)) (ci := 6) C iX7 dX7_goesOn_12 0 rfl rfl 14 (by decide) hw_212 rfl ?_
    refine cx_iload_n C dX7_goesOn_15 1 rfl ?_
    refine cx_bipush (v := 6) C dX7_goesOn_16 (by decide) ?_
    refine cx_imul C dX7_goesOn_18 ?_
    refine cx_iload_n C dX7_goesOn_19 2 rfl ?_
    refine cx_iadd C dX7_goesOn_20 ?_
    obtain ⟨g4, hf⟩ := cx_gd_at hf
    refine cx_iald C dX7_goesOn_21 8 rfl (cx_ib_in g4) ?_
    clear g4
    refine cx_i2l C dX7_goesOn_22 ?_
    refine cx_aload_n C dX7_goesOn_23 0 rfl ?_
    refine cx_iload_n C dX7_goesOn_24 1 rfl ?_
    refine cx_iload_n C dX7_goesOn_25 2 rfl ?_
    obtain ⟨u5, e6, hf⟩ := cx_bd_at hf
    refine cx_Fvi (q := (RX7, TX7, 19)) (As := [.int p1, .int p2]) (rest := [.long (Int32.toInt64 (w_namings (cx_ix ((p1 * 6) + p2))))]) (w1 := (wd_Ways k w_a b_a s_a w_detail w_skipped w_early w_late w_firstOnly w_firstYear w_years w_place w_before w_closing w_likes w_likeSums w_namings w_products w_weights w_subtotals w_way ++ (wd_Box k b_a b_c0 b_z0 b_c1 b_z1 b_c2 b_z2 b_c3 b_z3 b_c4 b_z4 b_sg ++ (wd_Sums k s_a s_np s_total s_shares s_pairs s_crowds s_bestWay s_bestWeight s_answer s_mine s_theirs s_people s_heads)))) hA C me_X7_joinings hw_717 (c_X7_joinings l D k w_a b_a s_a w_detail w_skipped w_early w_late w_firstOnly w_firstYear w_years w_place w_before w_closing w_likes w_likeSums w_namings w_products w_weights w_subtotals w_way b_c0 b_z0 b_c1 b_z1 b_c2 b_z2 b_c3 b_z3 b_c4 b_z4 b_sg s_np s_total s_shares s_pairs s_crowds s_bestWay s_bestWeight s_answer s_mine s_theirs s_people s_heads p1 p2 u5 e6) dX7_goesOn_26 ⟨Nat.le_of_ble_eq_true rfl, Nat.le_of_ble_eq_true rfl⟩ ⟨Nat.zero_le _, Nat.zero_le _⟩ rfl rfl (Nat.le_of_ble_eq_true rfl) rfl rfl rfl ?_
    clear e6
    refine cx_i2l C dX7_goesOn_29 ?_
    refine cx_lmul C dX7_goesOn_30 ?_
    refine cx_topl (fun v7 ev7 => ?_)
    have hf := cx_let_at hf ev7
    clear ev7
    refine cx_lstore_n (lv' := [(3, .long v7), (0, .ref (w_a 0)), (1, .int p1), (2, .int p2)]) C dX7_goesOn_31 rfl (by decide) rfl ?_
    refine cx_lload_n C dX7_goesOn_32 0 rfl ?_
    refine cx_lconst (v := 0) C dX7_goesOn_33 (by decide) ?_
    refine cx_lcmp C dX7_goesOn_34 ?_
    refine cx_if_ne (tgt := 42) C dX7_goesOn_35 (by decide) (fun c8 => ?_) (fun c8 => ?_)
    · have hf := cx_if_f hf c8
      clear c8
      refine cx_aload_n C dX7_goesOn_42 1 rfl ?_
      refine cx_iload_n C dX7_goesOn_43 2 rfl ?_
      refine cx_iload_n C dX7_goesOn_44 3 rfl ?_
      obtain ⟨u9, e10, hf⟩ := cx_bd_at hf
      refine cx_Fvl (q := (RX7, TX7, 19)) (As := [.int p1, .int p2]) (rest := []) (w1 := (wd_Ways k w_a b_a s_a w_detail w_skipped w_early w_late w_firstOnly w_firstYear w_years w_place w_before w_closing w_likes w_likeSums w_namings u9.2 w_weights w_subtotals w_way ++ (wd_Box k b_a b_c0 b_z0 b_c1 b_z1 b_c2 b_z2 b_c3 b_z3 b_c4 b_z4 b_sg ++ (wd_Sums k s_a s_np s_total s_shares s_pairs s_crowds s_bestWay s_bestWeight s_answer s_mine s_theirs s_people s_heads)))) hA C me_X7_takings hw_722 (c_X7_takings l D k w_a b_a s_a w_detail w_skipped w_early w_late w_firstOnly w_firstYear w_years w_place w_before w_closing w_likes w_likeSums w_namings w_products w_weights w_subtotals w_way b_c0 b_z0 b_c1 b_z1 b_c2 b_z2 b_c3 b_z3 b_c4 b_z4 b_sg s_np s_total s_shares s_pairs s_crowds s_bestWay s_bestWeight s_answer s_mine s_theirs s_people s_heads p1 p2 u9 e10) dX7_goesOn_45 ⟨Nat.le_of_ble_eq_true rfl, Nat.le_of_ble_eq_true rfl⟩ ⟨Nat.zero_le _, Nat.zero_le _⟩ rfl rfl (Nat.le_of_ble_eq_true rfl) rfl rfl rfl ?_
      clear e10
      refine cx_lv [1, 2, 0] rfl ?_
      exact J48 u9.2 v7 u9.1 hf
    · have hf := cx_if_t hf c8
      clear c8
      refine cx_lconst (v := 0) C dX7_goesOn_38 (by decide) ?_
      refine cx_goto (tgt := 48) C dX7_goesOn_39 (by decide) ?_
      refine cx_lv [1, 2, 0] rfl ?_
      exact J48 w_products v7 0 hf
  · have hf := cx_if_f hf c3
    clear c3
    refine cx_iconst (v := 0) C dX7_goesOn_9 (by decide) ?_
    obtain rfl := Option.some.inj hf
    exact cx_zret C hA hQ hr hlk dX7_goesOn_10 rfl rfl rfl
theorem dX7_gather_0 : decode cX7_gather 0 = .ok (.aload_n 0, 1) := by decide +kernel
theorem dX7_gather_1 : decode cX7_gather 1 = .ok (.getfield 62, 3) := by decide +kernel
theorem dX7_gather_4 : decode cX7_gather 4 = .ok (.iload_n 1, 1) := by decide +kernel
theorem dX7_gather_5 : decode cX7_gather 5 = .ok (.aload_n 0, 1) := by decide +kernel
theorem dX7_gather_6 : decode cX7_gather 6 = .ok (.getfield 62, 3) := by decide +kernel
theorem dX7_gather_9 : decode cX7_gather 9 = .ok (.iload_n 1, 1) := by decide +kernel
theorem dX7_gather_10 : decode cX7_gather 10 = .ok (.iconst 1, 1) := by decide +kernel
theorem dX7_gather_11 : decode cX7_gather 11 = .ok (.iadd, 1) := by decide +kernel
theorem dX7_gather_12 : decode cX7_gather 12 = .ok (.invokestatic 195, 3) := by decide +kernel
theorem dX7_gather_15 : decode cX7_gather 15 = .ok (.aload_n 0, 1) := by decide +kernel
theorem dX7_gather_16 : decode cX7_gather 16 = .ok (.getfield 9, 3) := by decide +kernel
theorem dX7_gather_19 : decode cX7_gather 19 = .ok (.ifCond .le 26, 3) := by decide +kernel
theorem dX7_gather_22 : decode cX7_gather 22 = .ok (.aload_n 0, 1) := by decide +kernel
theorem dX7_gather_23 : decode cX7_gather 23 = .ok (.getfield 72, 3) := by decide +kernel
theorem dX7_gather_26 : decode cX7_gather 26 = .ok (.getfield 198, 3) := by decide +kernel
theorem dX7_gather_29 : decode cX7_gather 29 = .ok (.iload_n 1, 1) := by decide +kernel
theorem dX7_gather_30 : decode cX7_gather 30 = .ok (.bipush 6, 2) := by decide +kernel
theorem dX7_gather_32 : decode cX7_gather 32 = .ok (.imul, 1) := by decide +kernel
theorem dX7_gather_33 : decode cX7_gather 33 = .ok (.iload_n 2, 1) := by decide +kernel
theorem dX7_gather_34 : decode cX7_gather 34 = .ok (.iadd, 1) := by decide +kernel
theorem dX7_gather_35 : decode cX7_gather 35 = .ok (.aload_n 0, 1) := by decide +kernel
theorem dX7_gather_36 : decode cX7_gather 36 = .ok (.getfield 62, 3) := by decide +kernel
theorem dX7_gather_39 : decode cX7_gather 39 = .ok (.iload_n 1, 1) := by decide +kernel
theorem dX7_gather_40 : decode cX7_gather 40 = .ok (.iconst 1, 1) := by decide +kernel
theorem dX7_gather_41 : decode cX7_gather 41 = .ok (.iadd, 1) := by decide +kernel
theorem dX7_gather_42 : decode cX7_gather 42 = .ok (.invokestatic 195, 3) := by decide +kernel
theorem dX7_gather_45 : decode cX7_gather 45 = .ok (.aload_n 0, 1) := by decide +kernel
theorem dX7_gather_46 : decode cX7_gather 46 = .ok (.getfield 9, 3) := by decide +kernel
theorem dX7_gather_49 : decode cX7_gather 49 = .ok (.iconst 2, 1) := by decide +kernel
theorem dX7_gather_50 : decode cX7_gather 50 = .ok (.if_icmp .ne 39, 3) := by decide +kernel
theorem dX7_gather_53 : decode cX7_gather 53 = .ok (.iconst 0, 1) := by decide +kernel
theorem dX7_gather_54 : decode cX7_gather 54 = .ok (.istore_n 3, 1) := by decide +kernel
theorem dX7_gather_55 : decode cX7_gather 55 = .ok (.iload_n 3, 1) := by decide +kernel
theorem dX7_gather_56 : decode cX7_gather 56 = .ok (.iload_n 1, 1) := by decide +kernel
theorem dX7_gather_57 : decode cX7_gather 57 = .ok (.if_icmp .ge 32, 3) := by decide +kernel
theorem dX7_gather_60 : decode cX7_gather 60 = .ok (.aload_n 0, 1) := by decide +kernel
theorem dX7_gather_61 : decode cX7_gather 61 = .ok (.getfield 72, 3) := by decide +kernel
theorem dX7_gather_64 : decode cX7_gather 64 = .ok (.iload_n 3, 1) := by decide +kernel
theorem dX7_gather_65 : decode cX7_gather 65 = .ok (.aload_n 0, 1) := by decide +kernel
theorem dX7_gather_66 : decode cX7_gather 66 = .ok (.getfield 65, 3) := by decide +kernel
theorem dX7_gather_69 : decode cX7_gather 69 = .ok (.iload_n 3, 1) := by decide +kernel
theorem dX7_gather_70 : decode cX7_gather 70 = .ok (.iaload, 1) := by decide +kernel
theorem dX7_gather_71 : decode cX7_gather 71 = .ok (.iload_n 1, 1) := by decide +kernel
theorem dX7_gather_72 : decode cX7_gather 72 = .ok (.iload_n 2, 1) := by decide +kernel
theorem dX7_gather_73 : decode cX7_gather 73 = .ok (.aload_n 0, 1) := by decide +kernel
theorem dX7_gather_74 : decode cX7_gather 74 = .ok (.getfield 62, 3) := by decide +kernel
theorem dX7_gather_77 : decode cX7_gather 77 = .ok (.iload_n 1, 1) := by decide +kernel
theorem dX7_gather_78 : decode cX7_gather 78 = .ok (.iconst 1, 1) := by decide +kernel
theorem dX7_gather_79 : decode cX7_gather 79 = .ok (.iadd, 1) := by decide +kernel
theorem dX7_gather_80 : decode cX7_gather 80 = .ok (.invokevirtual 201, 3) := by decide +kernel
theorem dX7_gather_83 : decode cX7_gather 83 = .ok (.iinc 3 1, 3) := by decide +kernel
theorem dX7_gather_86 : decode cX7_gather 86 = .ok (.goto (-31), 3) := by decide +kernel
theorem dX7_gather_89 : decode cX7_gather 89 = .ok (.return_, 1) := by decide +kernel
theorem me_X7_gather : cx_Mv yX7_gather cX7_gather 4 none 2 := ⟨⟨⟨by decide +kernel, by decide +kernel, by decide +kernel⟩, hw_7, hw_742⟩, hw_741, hs_24⟩
noncomputable def f_X7_gather_L55 (w_way : Nat → Int32) (s_np : Nat) (p1 : Int32) (p2 : Int32) (a_7 : Nat → Int64) (a_8 : Nat → Int64) (rc55 : (Nat → Int64) → Int32 → Option ((Nat → Int64) × (Nat → Int64) × (Nat → Int64))) (a_9 : Nat → Int64) (x3_10 : Int32) : Option ((Nat → Int64) × (Nat → Int64) × (Nat → Int64)) := if p1 ≤ x3_10 then (some ((a_7, a_8, a_9))) else (cx_gd (cx_ib x3_10 6) (Option.bind (f_X5_addPair s_np a_9 x3_10 (w_way (cx_ix x3_10)) p1 p2 28 a_7 (p1 + 1)) (fun u13 => rc55 u13 (x3_10 + 1))))
noncomputable def f_X7_gather_L55w (w_way : Nat → Int32) (s_np : Nat) (p1 : Int32) (p2 : Int32) (a_7 : Nat → Int64) (a_8 : Nat → Int64) (n : Nat) : (Nat → Int64) → Int32 → Option ((Nat → Int64) × (Nat → Int64) × (Nat → Int64)) := Nat.rec (fun _ _ => none) (fun _ r => f_X7_gather_L55 w_way s_np p1 p2 a_7 a_8 r) n
noncomputable def f_X7_gather_J45 (w_detail : Int32) (w_way : Nat → Int32) (s_np : Nat) (s_pairs : Nat → Int64) (p1 : Int32) (p2 : Int32) (a_4 : Nat → Int64) (a_5 : Nat → Int64) : Option ((Nat → Int64) × (Nat → Int64) × (Nat → Int64)) := if w_detail = 2 then (f_X7_gather_L55w w_way s_np p1 p2 a_4 a_5 cx_N0 s_pairs 0) else (some ((a_4, a_5, s_pairs)))
noncomputable def f_X7_gather (w_detail : Int32) (w_subtotals : Nat → Int64) (w_way : Nat → Int32) (s_np : Nat) (s_shares : Nat → Int64) (s_pairs : Nat → Int64) (p1 : Int32) (p2 : Int32) : Option ((Nat → Int64) × (Nat → Int64) × (Nat → Int64)) := Option.bind (f_X3_add_x_e0 28 w_subtotals p1 (p1 + 1)) (fun u1 => if w_detail ≤ 0 then (f_X7_gather_J45 w_detail w_way s_np s_pairs p1 p2 u1 s_shares) else (Option.bind (f_X3_add 144 s_shares ((p1 * 6) + p2) 28 u1 (p1 + 1)) (fun u15 => f_X7_gather_J45 w_detail w_way s_np s_pairs p1 p2 u1 u15)))
set_option maxHeartbeats 4000000 in
set_option maxRecDepth 100000 in
theorem c_X7_gather (l : Launch) (D : va_G) (k : Nat → ClassId) (w_a : Nat → Nat) (b_a : Nat → Nat) (s_a : Nat → Nat) (w_detail : Int32) (w_skipped : Int32) (w_early : Int32) (w_late : Int32) (w_firstOnly : Int32) (w_firstYear : Nat → Int32) (w_years : Nat → Int32) (w_place : Nat → Int32) (w_before : Nat → Int32) (w_closing : Nat → Int32) (w_likes : Nat → Int32) (w_likeSums : Nat → Int32) (w_namings : Nat → Int32) (w_products : Nat → Int64) (w_weights : Nat → Int64) (w_subtotals : Nat → Int64) (w_way : Nat → Int32) (b_c0 : Nat → Int32) (b_z0 : Int32) (b_c1 : Nat → Int32) (b_z1 : Int32) (b_c2 : Nat → Int32) (b_z2 : Int32) (b_c3 : Nat → Int32) (b_z3 : Int32) (b_c4 : Nat → Int32) (b_z4 : Int32) (b_sg : Int32) (s_np : Nat) (s_total : Nat → Int64) (s_shares : Nat → Int64) (s_pairs : Nat → Int64) (s_crowds : Nat → Int64) (s_bestWay : Nat → Int32) (s_bestWeight : Nat → Int64) (s_answer : Nat → Int64) (s_mine : Nat → Int64) (s_theirs : Nat → Int64) (s_people : Int32) (s_heads : Int32) (p1 : Int32) (p2 : Int32) (y : (Nat → Int64) × (Nat → Int64) × (Nat → Int64)) (hf : f_X7_gather w_detail w_subtotals w_way s_np s_shares s_pairs p1 p2 = some y) : cx_M l yX7_gather cX7_gather 4 none 3 D k [.ref (w_a 0), .int p1, .int p2] (wd_Ways k w_a b_a s_a w_detail w_skipped w_early w_late w_firstOnly w_firstYear w_years w_place w_before w_closing w_likes w_likeSums w_namings w_products w_weights w_subtotals w_way ++ (wd_Box k b_a b_c0 b_z0 b_c1 b_z1 b_c2 b_z2 b_c3 b_z3 b_c4 b_z4 b_sg ++ (wd_Sums k s_a s_np s_total s_shares s_pairs s_crowds s_bestWay s_bestWeight s_answer s_mine s_theirs s_people s_heads))) (fun sz => cx_Qv D (wd_Ways k w_a b_a s_a w_detail w_skipped w_early w_late w_firstOnly w_firstYear w_years w_place w_before w_closing w_likes w_likeSums w_namings w_products w_weights w_subtotals w_way ++ (wd_Box k b_a b_c0 b_z0 b_c1 b_z1 b_c2 b_z2 b_c3 b_z3 b_c4 b_z4 b_sg ++ (wd_Sums k s_a s_np s_total s_shares s_pairs s_crowds s_bestWay s_bestWeight s_answer s_mine s_theirs s_people s_heads))) (wd_Ways k w_a b_a s_a w_detail w_skipped w_early w_late w_firstOnly w_firstYear w_years w_place w_before w_closing w_likes w_likeSums w_namings w_products w_weights y.1 w_way ++ (wd_Box k b_a b_c0 b_z0 b_c1 b_z1 b_c2 b_z2 b_c3 b_z3 b_c4 b_z4 b_sg ++ (wd_Sums k s_a s_np s_total y.2.1 y.2.2 s_crowds s_bestWay s_bestWeight s_answer s_mine s_theirs s_people s_heads))) sz) := by
  refine cx_met (own := "NamelessBox$Ways") (by decide) rfl (Nat.le_of_ble_eq_true rfl) ?_
  intro p e s m args below meth c A Q C hA hQ hr hlk
  refine cx_lv (lv' := [(0, .ref (w_a 0)), (1, .int p1), (2, .int p2)]) [0, 1, 2] rfl ?_
  have L55 : ∀ (a_7 : Nat → Int64) (a_8 : Nat → Int64) (n55 : Nat) (a_9 : Nat → Int64) (x3_10 : Int32), f_X7_gather_L55w w_way s_np p1 p2 a_7 a_8 n55 a_9 x3_10 = some y → cx_S p l e (cx_rm 3) s m args below meth c A D 4 0 0 Q 55 [(0, .ref (w_a 0)), (1, .int p1), (2, .int p2), (3, .int x3_10)] [] (wd_Ways k w_a b_a s_a w_detail w_skipped w_early w_late w_firstOnly w_firstYear w_years w_place w_before w_closing w_likes w_likeSums w_namings w_products w_weights a_7 w_way ++ (wd_Box k b_a b_c0 b_z0 b_c1 b_z1 b_c2 b_z2 b_c3 b_z3 b_c4 b_z4 b_sg ++ (wd_Sums k s_a s_np s_total a_8 a_9 s_crowds s_bestWay s_bestWeight s_answer s_mine s_theirs s_people s_heads))) := by
    intro a_7 a_8 n55
    induction n55 with
    | zero =>
      intro a_9 x3_10 hf
      exact absurd (show (none : Option ((Nat → Int64) × (Nat → Int64) × (Nat → Int64))) = some y from hf) (fun h => by cases h)
    | succ n55 ih55 =>
      intro a_9 x3_10 hf
      have hf : f_X7_gather_L55 w_way s_np p1 p2 a_7 a_8 (f_X7_gather_L55w w_way s_np p1 p2 a_7 a_8 n55) a_9 x3_10 = some y := hf
      unfold f_X7_gather_L55 at hf
      refine cx_iload_n C dX7_gather_55 3 rfl ?_
      refine cx_iload_n C dX7_gather_56 1 rfl ?_
      refine cx_icmp_ge (tgt := 89) C dX7_gather_57 (by decide) (fun c11 => ?_) (fun c11 => ?_)
      · have hf := cx_if_t hf c11
        clear c11
        obtain rfl := Option.some.inj hf
        exact cx_vret C hA hQ hr hlk dX7_gather_89 rfl
      · have hf := cx_if_f hf c11
        clear c11
        refine cx_aload_n C dX7_gather_60 0 rfl ?_
        refine cx_get (v := .ref (s_a 0)) (ci := 6) C iX7 dX7_gather_61 0 rfl rfl 0 (by decide) hw_197 rfl ?_
        refine cx_iload_n C dX7_gather_64 3 rfl ?_
        refine cx_aload_n C dX7_gather_65 0 rfl ?_
        refine cx_get (v := .ref (w_a 12)) (ci := 6) C iX7 dX7_gather_66 0 rfl rfl 18 (by decide) hw_216 rfl ?_
        refine cx_iload_n C dX7_gather_69 3 rfl ?_
        obtain ⟨g12, hf⟩ := cx_gd_at hf
        refine cx_iald C dX7_gather_70 12 rfl (cx_ib_in g12) ?_
        clear g12
        refine cx_iload_n C dX7_gather_71 1 rfl ?_
        refine cx_iload_n C dX7_gather_72 2 rfl ?_
        refine cx_aload_n C dX7_gather_73 0 rfl ?_
        refine cx_get (v := .ref (w_a 11)) (ci := 6) C iX7 dX7_gather_74 0 rfl rfl 17 (by decide) hw_215 rfl ?_
        refine cx_iload_n C dX7_gather_77 1 rfl ?_
        refine cx_iconst (v := 1) C dX7_gather_78 (by decide) ?_
        refine cx_iadd C dX7_gather_79 ?_
        obtain ⟨u13, e14, hf⟩ := cx_bd_at hf
        refine cx_cvv (q := (RX5, TX5, 11)) (As := [.int x3_10, .int (w_way (cx_ix x3_10)), .int p1, .int p2, .ref (w_a 11), .int (p1 + 1)]) (rest := []) (ws' := (wd_Ways k w_a b_a s_a w_detail w_skipped w_early w_late w_firstOnly w_firstYear w_years w_place w_before w_closing w_likes w_likeSums w_namings w_products w_weights a_7 w_way ++ (wd_Box k b_a b_c0 b_z0 b_c1 b_z1 b_c2 b_z2 b_c3 b_z3 b_c4 b_z4 b_sg ++ (wd_Sums k s_a s_np s_total a_8 u13 s_crowds s_bestWay s_bestWeight s_answer s_mine s_theirs s_people s_heads)))) hA C me_X5_addPair hw_744 (c_X5_addPair l D k s_a (w_a 11) s_np s_total a_8 a_9 s_crowds s_bestWay s_bestWeight s_answer s_mine s_theirs s_people s_heads x3_10 (w_way (cx_ix x3_10)) p1 p2 28 a_7 (p1 + 1) u13 e14) dX7_gather_80 ⟨Nat.le_of_ble_eq_true rfl, Nat.le_of_ble_eq_true rfl⟩ ⟨Nat.zero_le _, Nat.zero_le _⟩ rfl rfl (Nat.le_of_ble_eq_true rfl) rfl rfl [24, 25, 26, 27, 28, 29, 30, 31, 32, 33, 11] rfl (by decide) rfl rfl ?_
        clear e14
        refine cx_iinc (v := x3_10 + 1) (lv' := [(3, .int (x3_10 + 1)), (0, .ref (w_a 0)), (1, .int p1), (2, .int p2)]) C dX7_gather_83 3 rfl rfl (by decide) rfl ?_
        refine cx_goto (tgt := 55) C dX7_gather_86 (by decide) ?_
        refine cx_lv [1, 2, 3, 0] rfl ?_
        exact ih55 u13 (x3_10 + 1) hf
  have J45 : ∀ (a_4 : Nat → Int64) (a_5 : Nat → Int64), f_X7_gather_J45 w_detail w_way s_np s_pairs p1 p2 a_4 a_5 = some y → cx_S p l e (cx_rm 3) s m args below meth c A D 4 0 0 Q 45 [(0, .ref (w_a 0)), (1, .int p1), (2, .int p2)] [] (wd_Ways k w_a b_a s_a w_detail w_skipped w_early w_late w_firstOnly w_firstYear w_years w_place w_before w_closing w_likes w_likeSums w_namings w_products w_weights a_4 w_way ++ (wd_Box k b_a b_c0 b_z0 b_c1 b_z1 b_c2 b_z2 b_c3 b_z3 b_c4 b_z4 b_sg ++ (wd_Sums k s_a s_np s_total a_5 s_pairs s_crowds s_bestWay s_bestWeight s_answer s_mine s_theirs s_people s_heads))) := by
    intro a_4 a_5 hf
    unfold f_X7_gather_J45 at hf
    refine cx_aload_n C dX7_gather_45 0 rfl ?_
    refine cx_get (v := .int w_detail) (ci := 6) C iX7 dX7_gather_46 0 rfl rfl 2 (by decide) hw_200 rfl ?_
    refine cx_iconst (v := 2) C dX7_gather_49 (by decide) ?_
    refine cx_icmp_ne (tgt := 89) C dX7_gather_50 (by decide) (fun c6 => ?_) (fun c6 => ?_)
    · have hf := cx_if_f hf c6
      clear c6
      obtain rfl := Option.some.inj hf
      exact cx_vret C hA hQ hr hlk dX7_gather_89 rfl
    · have hf := cx_if_t hf c6
      clear c6
      refine cx_iconst (v := 0) C dX7_gather_53 (by decide) ?_
      refine cx_istore_n (lv' := [(3, .int 0), (0, .ref (w_a 0)), (1, .int p1), (2, .int p2)]) C dX7_gather_54 rfl (by decide) rfl ?_
      refine cx_lv [1, 2, 3, 0] rfl ?_
      exact L55 a_4 a_5 cx_N0 s_pairs 0 hf
  unfold f_X7_gather at hf
  refine cx_aload_n C dX7_gather_0 0 rfl ?_
  refine cx_get (v := .ref (w_a 11)) (ci := 6) C iX7 dX7_gather_1 0 rfl rfl 17 (by decide) hw_215 rfl ?_
  refine cx_iload_n C dX7_gather_4 1 rfl ?_
  refine cx_aload_n C dX7_gather_5 0 rfl ?_
  refine cx_get (v := .ref (w_a 11)) (ci := 6) C iX7 dX7_gather_6 0 rfl rfl 17 (by decide) hw_215 rfl ?_
  refine cx_iload_n C dX7_gather_9 1 rfl ?_
  refine cx_iconst (v := 1) C dX7_gather_10 (by decide) ?_
  refine cx_iadd C dX7_gather_11 ?_
  obtain ⟨u1, e2, hf⟩ := cx_bd_at hf
  refine cx_csv (As := [.ref (w_a 11), .int p1, .ref (w_a 11), .int (p1 + 1)]) (rest := []) (ws' := (wd_Ways k w_a b_a s_a w_detail w_skipped w_early w_late w_firstOnly w_firstYear w_years w_place w_before w_closing w_likes w_likeSums w_namings w_products w_weights u1 w_way ++ (wd_Box k b_a b_c0 b_z0 b_c1 b_z1 b_c2 b_z2 b_c3 b_z3 b_c4 b_z4 b_sg ++ (wd_Sums k s_a s_np s_total s_shares s_pairs s_crowds s_bestWay s_bestWeight s_answer s_mine s_theirs s_people s_heads)))) hA C me_X3_add hw_743 (c_X3_add_x_e0 l D k (w_a 11) 28 w_subtotals p1 (p1 + 1) u1 e2) dX7_gather_12 ⟨Nat.le_of_ble_eq_true rfl, Nat.le_of_ble_eq_true rfl⟩ ⟨Nat.zero_le _, Nat.zero_le _⟩ rfl rfl (Nat.le_of_ble_eq_true rfl) [11] rfl (by decide) rfl rfl ?_
  clear e2
  refine cx_aload_n C dX7_gather_15 0 rfl ?_
  refine cx_get (v := .int w_detail) (ci := 6) C iX7 dX7_gather_16 0 rfl rfl 2 (by decide) hw_200 rfl ?_
  refine cx_if_le (tgt := 45) C dX7_gather_19 (by decide) (fun c3 => ?_) (fun c3 => ?_)
  · have hf := cx_if_t hf c3
    clear c3
    exact J45 u1 s_shares hf
  · have hf := cx_if_f hf c3
    clear c3
    refine cx_aload_n C dX7_gather_22 0 rfl ?_
    refine cx_get (v := .ref (s_a 0)) (ci := 6) C iX7 dX7_gather_23 0 rfl rfl 0 (by decide) hw_197 rfl ?_
    refine cx_get (v := .ref (s_a 2)) (ci := 4) C iX5 dX7_gather_26 24 rfl rfl 1 (by decide) hw_153 rfl ?_
    refine cx_iload_n C dX7_gather_29 1 rfl ?_
    refine cx_bipush (v := 6) C dX7_gather_30 (by decide) ?_
    refine cx_imul C dX7_gather_32 ?_
    refine cx_iload_n C dX7_gather_33 2 rfl ?_
    refine cx_iadd C dX7_gather_34 ?_
    refine cx_aload_n C dX7_gather_35 0 rfl ?_
    refine cx_get (v := .ref (w_a 11)) (ci := 6) C iX7 dX7_gather_36 0 rfl rfl 17 (by decide) hw_215 rfl ?_
    refine cx_iload_n C dX7_gather_39 1 rfl ?_
    refine cx_iconst (v := 1) C dX7_gather_40 (by decide) ?_
    refine cx_iadd C dX7_gather_41 ?_
    obtain ⟨u15, e16, hf⟩ := cx_bd_at hf
    refine cx_csv (As := [.ref (s_a 2), .int ((p1 * 6) + p2), .ref (w_a 11), .int (p1 + 1)]) (rest := []) (ws' := (wd_Ways k w_a b_a s_a w_detail w_skipped w_early w_late w_firstOnly w_firstYear w_years w_place w_before w_closing w_likes w_likeSums w_namings w_products w_weights u1 w_way ++ (wd_Box k b_a b_c0 b_z0 b_c1 b_z1 b_c2 b_z2 b_c3 b_z3 b_c4 b_z4 b_sg ++ (wd_Sums k s_a s_np s_total u15 s_pairs s_crowds s_bestWay s_bestWeight s_answer s_mine s_theirs s_people s_heads)))) hA C me_X3_add hw_743 (c_X3_add l D k (s_a 2) (w_a 11) 144 s_shares ((p1 * 6) + p2) 28 u1 (p1 + 1) u15 e16) dX7_gather_42 ⟨Nat.le_of_ble_eq_true rfl, Nat.le_of_ble_eq_true rfl⟩ ⟨Nat.zero_le _, Nat.zero_le _⟩ rfl rfl (Nat.le_of_ble_eq_true rfl) [26, 11] rfl (by decide) rfl rfl ?_
    clear e16
    exact J45 u1 u15 hf
