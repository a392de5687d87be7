theorem dX5_empty_0 : decode cX5_empty 0 = .ok (.aload_n 0, 1) := by decide +kernel
theorem dX5_empty_1 : decode cX5_empty 1 = .ok (.iload_n 1, 1) := by decide +kernel
theorem dX5_empty_2 : decode cX5_empty 2 = .ok (.putfield 39, 3) := by decide +kernel
theorem dX5_empty_5 : decode cX5_empty 5 = .ok (.aload_n 0, 1) := by decide +kernel
theorem dX5_empty_6 : decode cX5_empty 6 = .ok (.iload_n 2, 1) := by decide +kernel
theorem dX5_empty_7 : decode cX5_empty 7 = .ok (.putfield 43, 3) := by decide +kernel
theorem dX5_empty_10 : decode cX5_empty 10 = .ok (.aload_n 0, 1) := by decide +kernel
theorem dX5_empty_11 : decode cX5_empty 11 = .ok (.getfield 11, 3) := by decide +kernel
theorem dX5_empty_14 : decode cX5_empty 14 = .ok (.iconst 0, 1) := by decide +kernel
theorem dX5_empty_15 : decode cX5_empty 15 = .ok (.invokestatic 49, 3) := by decide +kernel
theorem dX5_empty_18 : decode cX5_empty 18 = .ok (.aload_n 0, 1) := by decide +kernel
theorem dX5_empty_19 : decode cX5_empty 19 = .ok (.getfield 27, 3) := by decide +kernel
theorem dX5_empty_22 : decode cX5_empty 22 = .ok (.iconst 0, 1) := by decide +kernel
theorem dX5_empty_23 : decode cX5_empty 23 = .ok (.invokestatic 49, 3) := by decide +kernel
theorem dX5_empty_26 : decode cX5_empty 26 = .ok (.iload_n 3, 1) := by decide +kernel
theorem dX5_empty_27 : decode cX5_empty 27 = .ok (.ifCond .le 19, 3) := by decide +kernel
theorem dX5_empty_30 : decode cX5_empty 30 = .ok (.aload_n 0, 1) := by decide +kernel
theorem dX5_empty_31 : decode cX5_empty 31 = .ok (.getfield 17, 3) := by decide +kernel
theorem dX5_empty_34 : decode cX5_empty 34 = .ok (.lconst 0, 1) := by decide +kernel
theorem dX5_empty_35 : decode cX5_empty 35 = .ok (.invokestatic 53, 3) := by decide +kernel
theorem dX5_empty_38 : decode cX5_empty 38 = .ok (.aload_n 0, 1) := by decide +kernel
theorem dX5_empty_39 : decode cX5_empty 39 = .ok (.getfield 20, 3) := by decide +kernel
theorem dX5_empty_42 : decode cX5_empty 42 = .ok (.lconst 0, 1) := by decide +kernel
theorem dX5_empty_43 : decode cX5_empty 43 = .ok (.invokestatic 53, 3) := by decide +kernel
theorem dX5_empty_46 : decode cX5_empty 46 = .ok (.iload_n 3, 1) := by decide +kernel
theorem dX5_empty_47 : decode cX5_empty 47 = .ok (.iconst 2, 1) := by decide +kernel
theorem dX5_empty_48 : decode cX5_empty 48 = .ok (.if_icmp .ne 11, 3) := by decide +kernel
theorem dX5_empty_51 : decode cX5_empty 51 = .ok (.aload_n 0, 1) := by decide +kernel
theorem dX5_empty_52 : decode cX5_empty 52 = .ok (.getfield 46, 3) := by decide +kernel
theorem dX5_empty_55 : decode cX5_empty 55 = .ok (.lconst 0, 1) := by decide +kernel
theorem dX5_empty_56 : decode cX5_empty 56 = .ok (.invokestatic 53, 3) := by decide +kernel
theorem dX5_empty_59 : decode cX5_empty 59 = .ok (.return_, 1) := by decide +kernel
theorem me_X5_empty : cx_Mv yX5_empty cX5_empty 4 none 3 := ⟨⟨⟨by decide +kernel, by decide +kernel, by decide +kernel⟩, hw_8, hw_639⟩, hw_637, hw_638⟩
noncomputable def f_X5_empty_J46 (s_np : Nat) (s_pairs : Nat → Int64) (p1 : Int32) (p2 : Int32) (p3 : Int32) (a_6 : Nat → Int64) (a_7 : Nat → Int64) (a_8 : Nat → Int64) (a_9 : Nat → Int64) : Option (Int32 × Int32 × (Nat → Int64) × (Nat → Int64) × (Nat → Int64) × (Nat → Int64) × (Nat → Int64)) := if p3 = 2 then (Option.bind (f_J7_fill_d0a16 s_np s_pairs 0) (fun u11 => some ((p1, p2, a_6, a_7, u11, a_8, a_9)))) else (some ((p1, p2, a_6, a_7, s_pairs, a_8, a_9)))
noncomputable def f_X5_empty (s_np : Nat) (s_total : Nat → Int64) (s_shares : Nat → Int64) (s_pairs : Nat → Int64) (s_crowds : Nat → Int64) (s_bestWeight : Nat → Int64) (p1 : Int32) (p2 : Int32) (p3 : Int32) : Option (Int32 × Int32 × (Nat → Int64) × (Nat → Int64) × (Nat → Int64) × (Nat → Int64) × (Nat → Int64)) := Option.bind (f_X3_zero 4 s_total 0) (fun u1 => Option.bind (f_X3_zero 4 s_bestWeight 0) (fun u3 => if p3 ≤ 0 then (f_X5_empty_J46 s_np s_pairs p1 p2 p3 u1 s_shares s_crowds u3) else (Option.bind (f_J7_fill_d0a16 144 s_shares 0) (fun u13 => Option.bind (f_J7_fill_d0a16 128 s_crowds 0) (fun u15 => f_X5_empty_J46 s_np s_pairs p1 p2 p3 u1 u13 u15 u3)))))
set_option maxHeartbeats 4000000 in
set_option maxRecDepth 100000 in
theorem c_X5_empty (l : Launch) (D : va_G) (k : Nat → ClassId) (s_a : Nat → Nat) (s_np : Nat) (s_total : Nat → Int64) (s_shares : Nat → Int64) (s_pairs : Nat → Int64) (s_crowds : Nat → Int64) (s_bestWay : Nat → Int32) (s_bestWeight : Nat → Int64) (s_answer : Nat → Int64) (s_mine : Nat → Int64) (s_theirs : Nat → Int64) (s_people : Int32) (s_heads : Int32) (p1 : Int32) (p2 : Int32) (p3 : Int32) (y : Int32 × Int32 × (Nat → Int64) × (Nat → Int64) × (Nat → Int64) × (Nat → Int64) × (Nat → Int64)) (hf : f_X5_empty s_np s_total s_shares s_pairs s_crowds s_bestWeight p1 p2 p3 = some y) : cx_M l yX5_empty cX5_empty 4 none 2 D k [.ref (s_a 0), .int p1, .int p2, .int p3] (wd_Sums k s_a s_np s_total s_shares s_pairs s_crowds s_bestWay s_bestWeight s_answer s_mine s_theirs s_people s_heads) (fun sz => cx_Qv D (wd_Sums k s_a s_np s_total s_shares s_pairs s_crowds s_bestWay s_bestWeight s_answer s_mine s_theirs s_people s_heads) (wd_Sums k s_a s_np y.2.2.1 y.2.2.2.1 y.2.2.2.2.1 y.2.2.2.2.2.1 s_bestWay y.2.2.2.2.2.2 s_answer s_mine s_theirs y.1 y.2.1) sz) := by
  refine cx_met (own := "NamelessBox$Sums") (by decide) rfl (Nat.le_of_ble_eq_true rfl) ?_
  intro p e s m args below meth c A Q C hA hQ hr hlk
  refine cx_lv (lv' := [(0, .ref (s_a 0)), (1, .int p1), (2, .int p2), (3, .int p3)]) [0, 1, 2, 3] rfl ?_
  have J46 : ∀ (a_6 : Nat → Int64) (a_7 : Nat → Int64) (a_8 : Nat → Int64) (a_9 : Nat → Int64), f_X5_empty_J46 s_np s_pairs p1 p2 p3 a_6 a_7 a_8 a_9 = some y → cx_S p l e (cx_rm 2) s m args below meth c A D 4 0 0 Q 46 [(0, .ref (s_a 0)), (3, .int p3)] [] (wd_Sums k s_a s_np a_6 a_7 s_pairs a_8 s_bestWay a_9 s_answer s_mine s_theirs p1 p2) := by
    intro a_6 a_7 a_8 a_9 hf
    unfold f_X5_empty_J46 at hf
    refine cx_iload_n C dX5_empty_46 1 rfl ?_
    refine cx_iconst (v := 2) C dX5_empty_47 (by decide) ?_
    refine cx_icmp_ne (tgt := 59) C dX5_empty_48 (by decide) (fun c10 => ?_) (fun c10 => ?_)
    · have hf := cx_if_f hf c10
      clear c10
      obtain rfl := Option.some.inj hf
      exact cx_vret C hA hQ hr hlk dX5_empty_59 rfl
    · have hf := cx_if_t hf c10
      clear c10
      refine cx_aload_n C dX5_empty_51 0 rfl ?_
      refine cx_get (v := .ref (s_a 3)) (ci := 4) C iX5 dX5_empty_52 0 rfl rfl 2 (by decide) hw_155 rfl ?_
      refine cx_lconst (v := 0) C dX5_empty_55 (by decide) ?_
      obtain ⟨u11, e12, hf⟩ := cx_bd_at hf
      refine cx_csv (As := [.ref (s_a 3), .long 0]) (rest := []) (ws' := (wd_Sums k s_a s_np a_6 a_7 u11 a_8 s_bestWay a_9 s_answer s_mine s_theirs p1 p2)) hA C me_J7_fill_d0a16 hw_643 (c_J7_fill_d0a16 l D k (s_a 3) s_np s_pairs 0 u11 e12) dX5_empty_56 ⟨Nat.le_of_ble_eq_true rfl, Nat.le_of_ble_eq_true rfl⟩ ⟨Nat.zero_le _, Nat.zero_le _⟩ rfl rfl (Nat.le_of_ble_eq_true rfl) [3] rfl (by decide) rfl rfl ?_
      clear e12
      obtain rfl := Option.some.inj hf
      exact cx_vret C hA hQ hr hlk dX5_empty_59 rfl
  unfold f_X5_empty at hf
  refine cx_aload_n C dX5_empty_0 0 rfl ?_
  refine cx_iload_n C dX5_empty_1 1 rfl ?_
  refine cx_putf (v := .int p1) (ty := .int) (ci := 4) (ws' := (wd_Sums k s_a s_np s_total s_shares s_pairs s_crowds s_bestWay s_bestWeight s_answer s_mine s_theirs p1 s_heads)) C iX5 tyX5 tyX5_ok nmX5 dX5_empty_2 0 rfl rfl 9 (by decide) hw_165 rfl (by decide +kernel) rfl rfl (Nat.le_of_ble_eq_true rfl) rfl ?_
  refine cx_aload_n C dX5_empty_5 0 rfl ?_
  refine cx_iload_n C dX5_empty_6 2 rfl ?_
  refine cx_putf (v := .int p2) (ty := .int) (ci := 4) (ws' := (wd_Sums k s_a s_np s_total s_shares s_pairs s_crowds s_bestWay s_bestWeight s_answer s_mine s_theirs p1 p2)) C iX5 tyX5 tyX5_ok nmX5 dX5_empty_7 0 rfl rfl 10 (by decide) hw_166 rfl (by decide +kernel) rfl rfl (Nat.le_of_ble_eq_true rfl) rfl ?_
  refine cx_aload_n C dX5_empty_10 0 rfl ?_
  refine cx_get (v := .ref (s_a 1)) (ci := 4) C iX5 dX5_empty_11 0 rfl rfl 0 (by decide) hw_149 rfl ?_
  refine cx_iconst (v := 0) C dX5_empty_14 (by decide) ?_
  obtain ⟨u1, e2, hf⟩ := cx_bd_at hf
  refine cx_csv (As := [.ref (s_a 1), .int 0]) (rest := []) (ws' := (wd_Sums k s_a s_np u1 s_shares s_pairs s_crowds s_bestWay s_bestWeight s_answer s_mine s_theirs p1 p2)) hA C me_X3_zero hw_640 (c_X3_zero l D k (s_a 1) 4 s_total 0 u1 e2) dX5_empty_15 ⟨Nat.le_of_ble_eq_true rfl, Nat.le_of_ble_eq_true rfl⟩ ⟨Nat.zero_le _, Nat.zero_le _⟩ rfl rfl (Nat.le_of_ble_eq_true rfl) [1] rfl (by decide) rfl rfl ?_
  clear e2
  refine cx_aload_n C dX5_empty_18 0 rfl ?_
  refine cx_get (v := .ref (s_a 6)) (ci := 4) C iX5 dX5_empty_19 0 rfl rfl 5 (by decide) hw_159 rfl ?_
  refine cx_iconst (v := 0) C dX5_empty_22 (by decide) ?_
  obtain ⟨u3, e4, hf⟩ := cx_bd_at hf
  refine cx_csv (As := [.ref (s_a 6), .int 0]) (rest := []) (ws' := (wd_Sums k s_a s_np u1 s_shares s_pairs s_crowds s_bestWay u3 s_answer s_mine s_theirs p1 p2)) hA C me_X3_zero hw_640 (c_X3_zero l D k (s_a 6) 4 s_bestWeight 0 u3 e4) dX5_empty_23 ⟨Nat.le_of_ble_eq_true rfl, Nat.le_of_ble_eq_true rfl⟩ ⟨Nat.zero_le _, Nat.zero_le _⟩ rfl rfl (Nat.le_of_ble_eq_true rfl) [6] rfl (by decide) rfl rfl ?_
  clear e4
  refine cx_iload_n C dX5_empty_26 3 rfl ?_
  refine cx_if_le (tgt := 46) C dX5_empty_27 (by decide) (fun c5 => ?_) (fun c5 => ?_)
  · have hf := cx_if_t hf c5
    clear c5
    refine cx_lv [0, 3] rfl ?_
    exact J46 u1 s_shares s_crowds u3 hf
  · have hf := cx_if_f hf c5
    clear c5
    refine cx_aload_n C dX5_empty_30 0 rfl ?_
    refine cx_get (v := .ref (s_a 2)) (ci := 4) C iX5 dX5_empty_31 0 rfl rfl 1 (by decide) hw_152 rfl ?_
    refine cx_lconst (v := 0) C dX5_empty_34 (by decide) ?_
    obtain ⟨u13, e14, hf⟩ := cx_bd_at hf
    refine cx_csv (As := [.ref (s_a 2), .long 0]) (rest := []) (ws' := (wd_Sums k s_a s_np u1 u13 s_pairs s_crowds s_bestWay u3 s_answer s_mine s_theirs p1 p2)) hA C me_J7_fill_d0a16 hw_643 (c_J7_fill_d0a16 l D k (s_a 2) 144 s_shares 0 u13 e14) dX5_empty_35 ⟨Nat.le_of_ble_eq_true rfl, Nat.le_of_ble_eq_true rfl⟩ ⟨Nat.zero_le _, Nat.zero_le _⟩ rfl rfl (Nat.le_of_ble_eq_true rfl) [2] rfl (by decide) rfl rfl ?_
    clear e14
    refine cx_aload_n C dX5_empty_38 0 rfl ?_
    refine cx_get (v := .ref (s_a 4)) (ci := 4) C iX5 dX5_empty_39 0 rfl rfl 3 (by decide) hw_156 rfl ?_
    refine cx_lconst (v := 0) C dX5_empty_42 (by decide) ?_
    obtain ⟨u15, e16, hf⟩ := cx_bd_at hf
    refine cx_csv (As := [.ref (s_a 4), .long 0]) (rest := []) (ws' := (wd_Sums k s_a s_np u1 u13 s_pairs u15 s_bestWay u3 s_answer s_mine s_theirs p1 p2)) hA C me_J7_fill_d0a16 hw_643 (c_J7_fill_d0a16 l D k (s_a 4) 128 s_crowds 0 u15 e16) dX5_empty_43 ⟨Nat.le_of_ble_eq_true rfl, Nat.le_of_ble_eq_true rfl⟩ ⟨Nat.zero_le _, Nat.zero_le _⟩ rfl rfl (Nat.le_of_ble_eq_true rfl) [4] rfl (by decide) rfl rfl ?_
    clear e16
    refine cx_lv [0, 3] rfl ?_
    exact J46 u1 u13 u15 u3 hf
theorem dX5_addWay_0 : decode cX5_addWay 0 = .ok (.aload_n 0, 1) := by decide +kernel
theorem dX5_addWay_1 : decode cX5_addWay 1 = .ok (.getfield 20, 3) := by decide +kernel
theorem dX5_addWay_4 : decode cX5_addWay 4 = .ok (.iload_n 2, 1) := by decide +kernel
theorem dX5_addWay_5 : decode cX5_addWay 5 = .ok (.aload_n 3, 1) := by decide +kernel
theorem dX5_addWay_6 : decode cX5_addWay 6 = .ok (.iload 4, 2) := by decide +kernel
theorem dX5_addWay_8 : decode cX5_addWay 8 = .ok (.invokestatic 59, 3) := by decide +kernel
theorem dX5_addWay_11 : decode cX5_addWay 11 = .ok (.aload_n 3, 1) := by decide +kernel
theorem dX5_addWay_12 : decode cX5_addWay 12 = .ok (.iload 4, 2) := by decide +kernel
theorem dX5_addWay_14 : decode cX5_addWay 14 = .ok (.aload_n 0, 1) := by decide +kernel
theorem dX5_addWay_15 : decode cX5_addWay 15 = .ok (.getfield 27, 3) := by decide +kernel
theorem dX5_addWay_18 : decode cX5_addWay 18 = .ok (.iconst 0, 1) := by decide +kernel
theorem dX5_addWay_19 : decode cX5_addWay 19 = .ok (.invokestatic 63, 3) := by decide +kernel
theorem dX5_addWay_22 : decode cX5_addWay 22 = .ok (.ifCond .le 26, 3) := by decide +kernel
theorem dX5_addWay_25 : decode cX5_addWay 25 = .ok (.aload_n 0, 1) := by decide +kernel
theorem dX5_addWay_26 : decode cX5_addWay 26 = .ok (.getfield 27, 3) := by decide +kernel
theorem dX5_addWay_29 : decode cX5_addWay 29 = .ok (.iconst 0, 1) := by decide +kernel
theorem dX5_addWay_30 : decode cX5_addWay 30 = .ok (.aload_n 3, 1) := by decide +kernel
theorem dX5_addWay_31 : decode cX5_addWay 31 = .ok (.iload 4, 2) := by decide +kernel
theorem dX5_addWay_33 : decode cX5_addWay 33 = .ok (.invokestatic 67, 3) := by decide +kernel
theorem dX5_addWay_36 : decode cX5_addWay 36 = .ok (.aload_n 1, 1) := by decide +kernel
theorem dX5_addWay_37 : decode cX5_addWay 37 = .ok (.iconst 0, 1) := by decide +kernel
theorem dX5_addWay_38 : decode cX5_addWay 38 = .ok (.aload_n 0, 1) := by decide +kernel
theorem dX5_addWay_39 : decode cX5_addWay 39 = .ok (.getfield 23, 3) := by decide +kernel
theorem dX5_addWay_42 : decode cX5_addWay 42 = .ok (.iconst 0, 1) := by decide +kernel
theorem dX5_addWay_43 : decode cX5_addWay 43 = .ok (.bipush 6, 2) := by decide +kernel
theorem dX5_addWay_45 : decode cX5_addWay 45 = .ok (.invokestatic 70, 3) := by decide +kernel
theorem dX5_addWay_48 : decode cX5_addWay 48 = .ok (.return_, 1) := by decide +kernel
theorem me_X5_addWay : cx_Mv yX5_addWay cX5_addWay 5 none 4 := ⟨⟨⟨by decide +kernel, by decide +kernel, by decide +kernel⟩, hw_8, hw_696⟩, hw_694, hw_695⟩
noncomputable def f_X5_addWay (s_crowds : Nat → Int64) (s_bestWay : Nat → Int32) (s_bestWeight : Nat → Int64) (e1_n : Nat) (e1_x : Nat → Int32) (p2 : Int32) (e3_n : Nat) (e3_x : Nat → Int64) (p4 : Int32) : Option ((Nat → Int64) × (Nat → Int32) × (Nat → Int64)) := Option.bind (f_X3_add 128 s_crowds p2 e3_n e3_x p4) (fun u1 => Option.bind (f_X3_compare e3_n e3_x p4 4 s_bestWeight 0) (fun u3 => if u3 ≤ 0 then (some ((u1, s_bestWay, s_bestWeight))) else (Option.bind (f_X3_copy 4 s_bestWeight 0 e3_n e3_x p4) (fun u6 => cx_gd (cx_cb 0 0 6 e1_n 6) (cx_let (va_cpy e1_x s_bestWay (cx_ix 0) (cx_ix 0) (cx_ix 6)) (fun a9 => some ((u1, a9, u6))))))))
set_option maxHeartbeats 4000000 in
set_option maxRecDepth 100000 in
theorem c_X5_addWay (l : Launch) (D : va_G) (k : Nat → ClassId) (s_a : Nat → Nat) (e1_a : Nat) (e3_a : Nat) (s_np : Nat) (s_total : Nat → Int64) (s_shares : Nat → Int64) (s_pairs : Nat → Int64) (s_crowds : Nat → Int64) (s_bestWay : Nat → Int32) (s_bestWeight : Nat → Int64) (s_answer : Nat → Int64) (s_mine : Nat → Int64) (s_theirs : Nat → Int64) (s_people : Int32) (s_heads : Int32) (e1_n : Nat) (e1_x : Nat → Int32) (p2 : Int32) (e3_n : Nat) (e3_x : Nat → Int64) (p4 : Int32) (y : (Nat → Int64) × (Nat → Int32) × (Nat → Int64)) (hf : f_X5_addWay s_crowds s_bestWay s_bestWeight e1_n e1_x p2 e3_n e3_x p4 = some y) : cx_M l yX5_addWay cX5_addWay 5 none 3 D k [.ref (s_a 0), .ref e1_a, .int p2, .ref e3_a, .int p4] (wd_Sums k s_a s_np s_total s_shares s_pairs s_crowds s_bestWay s_bestWeight s_answer s_mine s_theirs s_people s_heads ++ (wd_IA k e1_a e1_n e1_x ++ (wd_LA k e3_a e3_n e3_x))) (fun sz => cx_Qv D (wd_Sums k s_a s_np s_total s_shares s_pairs s_crowds s_bestWay s_bestWeight s_answer s_mine s_theirs s_people s_heads ++ (wd_IA k e1_a e1_n e1_x ++ (wd_LA k e3_a e3_n e3_x))) (wd_Sums k s_a s_np s_total s_shares s_pairs y.1 y.2.1 y.2.2 s_answer s_mine s_theirs s_people s_heads ++ (wd_IA k e1_a e1_n e1_x ++ (wd_LA k e3_a e3_n e3_x))) sz) := by
  refine cx_met (own := "NamelessBox$Sums") (by decide) rfl (Nat.le_of_ble_eq_true rfl) ?_
  intro p e s m args below meth c A Q C hA hQ hr hlk
  refine cx_lv (lv' := [(0, .ref (s_a 0)), (1, .ref e1_a), (2, .int p2), (3, .ref e3_a), (4, .int p4)]) [0, 1, 2, 3, 4] rfl ?_
  unfold f_X5_addWay at hf
  refine cx_aload_n C dX5_addWay_0 0 rfl ?_
  refine cx_get (v := .ref (s_a 4)) (ci := 4) C iX5 dX5_addWay_1 0 rfl rfl 3 (by decide) hw_156 rfl ?_
  refine cx_iload_n C dX5_addWay_4 2 rfl ?_
  refine cx_aload_n C dX5_addWay_5 3 rfl ?_
  refine cx_iload C dX5_addWay_6 4 rfl ?_
  obtain ⟨u1, e2, hf⟩ := cx_bd_at hf
  refine cx_csv (As := [.ref (s_a 4), .int p2, .ref e3_a, .int p4]) (rest := []) (ws' := (wd_Sums k s_a s_np s_total s_shares s_pairs u1 s_bestWay s_bestWeight s_answer s_mine s_theirs s_people s_heads ++ (wd_IA k e1_a e1_n e1_x ++ (wd_LA k e3_a e3_n e3_x)))) hA C me_X3_add hw_697 (c_X3_add l D k (s_a 4) e3_a 128 s_crowds p2 e3_n e3_x p4 u1 e2) dX5_addWay_8 ⟨Nat.le_of_ble_eq_true rfl, Nat.le_of_ble_eq_true rfl⟩ ⟨Nat.zero_le _, Nat.zero_le _⟩ rfl rfl (Nat.le_of_ble_eq_true rfl) [4, 11] rfl (by decide) rfl rfl ?_
  clear e2
  refine cx_aload_n C dX5_addWay_11 3 rfl ?_
  refine cx_iload C dX5_addWay_12 4 rfl ?_
  refine cx_aload_n C dX5_addWay_14 0 rfl ?_
  refine cx_get (v := .ref (s_a 6)) (ci := 4) C iX5 dX5_addWay_15 0 rfl rfl 5 (by decide) hw_159 rfl ?_
  refine cx_iconst (v := 0) C dX5_addWay_18 (by decide) ?_
  obtain ⟨u3, e4, hf⟩ := cx_bd_at hf
  refine cx_Ksi (As := [.ref e3_a, .int p4, .ref (s_a 6), .int 0]) (rest := []) hA C me_X3_compare hw_700 (c_X3_compare l D k e3_a (s_a 6) e3_n e3_x p4 4 s_bestWeight 0 u3 e4) dX5_addWay_19 ⟨Nat.le_of_ble_eq_true rfl, Nat.le_of_ble_eq_true rfl⟩ ⟨Nat.zero_le _, Nat.zero_le _⟩ rfl rfl (Nat.le_of_ble_eq_true rfl) [11, 6] rfl (by decide) ?_
  clear e4
  refine cx_if_le (tgt := 48) C dX5_addWay_22 (by decide) (fun c5 => ?_) (fun c5 => ?_)
  · have hf := cx_if_t hf c5
    clear c5
    obtain rfl := Option.some.inj hf
    exact cx_vret C hA hQ hr hlk dX5_addWay_48 rfl
  · have hf := cx_if_f hf c5
    clear c5
    refine cx_aload_n C dX5_addWay_25 0 rfl ?_
    refine cx_get (v := .ref (s_a 6)) (ci := 4) C iX5 dX5_addWay_26 0 rfl rfl 5 (by decide) hw_159 rfl ?_
    refine cx_iconst (v := 0) C dX5_addWay_29 (by decide) ?_
    refine cx_aload_n C dX5_addWay_30 3 rfl ?_
    refine cx_iload C dX5_addWay_31 4 rfl ?_
    obtain ⟨u6, e7, hf⟩ := cx_bd_at hf
    refine cx_csv (As := [.ref (s_a 6), .int 0, .ref e3_a, .int p4]) (rest := []) (ws' := (wd_Sums k s_a s_np s_total s_shares s_pairs u1 s_bestWay u6 s_answer s_mine s_theirs s_people s_heads ++ (wd_IA k e1_a e1_n e1_x ++ (wd_LA k e3_a e3_n e3_x)))) hA C me_X3_copy hw_706 (c_X3_copy l D k (s_a 6) e3_a 4 s_bestWeight 0 e3_n e3_x p4 u6 e7) dX5_addWay_33 ⟨Nat.le_of_ble_eq_true rfl, Nat.le_of_ble_eq_true rfl⟩ ⟨Nat.zero_le _, Nat.zero_le _⟩ rfl rfl (Nat.le_of_ble_eq_true rfl) [6, 11] rfl (by decide) rfl rfl ?_
    clear e7
    refine cx_aload_n C dX5_addWay_36 1 rfl ?_
    refine cx_iconst (v := 0) C dX5_addWay_37 (by decide) ?_
    refine cx_aload_n C dX5_addWay_38 0 rfl ?_
    refine cx_get (v := .ref (s_a 5)) (ci := 4) C iX5 dX5_addWay_39 0 rfl rfl 4 (by decide) hw_157 rfl ?_
    refine cx_iconst (v := 0) C dX5_addWay_42 (by decide) ?_
    refine cx_bipush (v := 6) C dX5_addWay_43 (by decide) ?_
    obtain ⟨g8, hf⟩ := cx_gd_at hf
    obtain ⟨a9, ea9⟩ : ∃ z, z = va_cpy e1_x s_bestWay (cx_ix 0) (cx_ix 0) (cx_ix 6) := ⟨_, rfl⟩
    have hf := cx_let_at hf ea9
    refine cx_copyi (ws' := (wd_Sums k s_a s_np s_total s_shares s_pairs u1 a9 u6 s_answer s_mine s_theirs s_people s_heads ++ (wd_IA k e1_a e1_n e1_x ++ (wd_LA k e3_a e3_n e3_x)))) C dX5_addWay_45 hw_707 hw_616 hw_615 hw_16 10 5 rfl rfl g8 (fun _ => rfl) (Nat.le_of_ble_eq_true rfl) (Nat.le_of_ble_eq_true rfl) (by rw [ea9]; rfl) ?_
    clear ea9 g8
    obtain rfl := Option.some.inj hf
    exact cx_vret C hA hQ hr hlk dX5_addWay_48 rfl
theorem dX5_pairAt_0 : decode cX5_pairAt 0 = .ok (.iload_n 0, 1) := by decide +kernel
theorem dX5_pairAt_1 : decode cX5_pairAt 1 = .ok (.bipush 6, 2) := by decide +kernel
theorem dX5_pairAt_3 : decode cX5_pairAt 3 = .ok (.imul, 1) := by decide +kernel
theorem dX5_pairAt_4 : decode cX5_pairAt 4 = .ok (.iload_n 1, 1) := by decide +kernel
theorem dX5_pairAt_5 : decode cX5_pairAt 5 = .ok (.iadd, 1) := by decide +kernel
theorem dX5_pairAt_6 : decode cX5_pairAt 6 = .ok (.bipush 6, 2) := by decide +kernel
theorem dX5_pairAt_8 : decode cX5_pairAt 8 = .ok (.imul, 1) := by decide +kernel
theorem dX5_pairAt_9 : decode cX5_pairAt 9 = .ok (.iload_n 2, 1) := by decide +kernel
theorem dX5_pairAt_10 : decode cX5_pairAt 10 = .ok (.iadd, 1) := by decide +kernel
theorem dX5_pairAt_11 : decode cX5_pairAt 11 = .ok (.bipush 6, 2) := by decide +kernel
theorem dX5_pairAt_13 : decode cX5_pairAt 13 = .ok (.imul, 1) := by decide +kernel
theorem dX5_pairAt_14 : decode cX5_pairAt 14 = .ok (.iload_n 3, 1) := by decide +kernel
theorem dX5_pairAt_15 : decode cX5_pairAt 15 = .ok (.iadd, 1) := by decide +kernel
theorem dX5_pairAt_16 : decode cX5_pairAt 16 = .ok (.ireturn, 1) := by decide +kernel
theorem me_X5_pairAt : cx_Ms yX5_pairAt cX5_pairAt 4 (some .int) 4 := ⟨⟨⟨by decide +kernel, by decide +kernel, by decide +kernel⟩, hw_8, hw_750⟩, hw_749⟩
noncomputable def f_X5_pairAt (p0 : Int32) (p1 : Int32) (p2 : Int32) (p3 : Int32) : Option Int32 := some ((((((p0 * 6) + p1) * 6) + p2) * 6) + p3)
set_option maxHeartbeats 4000000 in
set_option maxRecDepth 100000 in
theorem c_X5_pairAt (l : Launch) (D : va_G) (k : Nat → ClassId) (p0 : Int32) (p1 : Int32) (p2 : Int32) (p3 : Int32) (y : Int32) (hf : f_X5_pairAt p0 p1 p2 p3 = some y) : cx_M l yX5_pairAt cX5_pairAt 4 (some .int) 1 D k [.int p0, .int p1, .int p2, .int p3] ([] : va_W) (fun sz => cx_Qi D y ([] : va_W) ([] : va_W) sz) := by
  refine cx_met (own := "NamelessBox$Sums") (by decide) rfl (Nat.le_of_ble_eq_true rfl) ?_
  intro p e s m args below meth c A Q C hA hQ hr hlk
  refine cx_lv (lv' := [(0, .int p0), (1, .int p1), (2, .int p2), (3, .int p3)]) [0, 1, 2, 3] rfl ?_
  unfold f_X5_pairAt at hf
  refine cx_iload_n C dX5_pairAt_0 0 rfl ?_
  refine cx_bipush (v := 6) C dX5_pairAt_1 (by decide) ?_
  refine cx_imul C dX5_pairAt_3 ?_
  refine cx_iload_n C dX5_pairAt_4 1 rfl ?_
  refine cx_iadd C dX5_pairAt_5 ?_
  refine cx_bipush (v := 6) C dX5_pairAt_6 (by decide) ?_
  refine cx_imul C dX5_pairAt_8 ?_
  refine cx_iload_n C dX5_pairAt_9 2 rfl ?_
  refine cx_iadd C dX5_pairAt_10 ?_
  refine cx_bipush (v := 6) C dX5_pairAt_11 (by decide) ?_
  refine cx_imul C dX5_pairAt_13 ?_
  refine cx_iload_n C dX5_pairAt_14 3 rfl ?_
  refine cx_iadd C dX5_pairAt_15 ?_
  obtain rfl := Option.some.inj hf
  exact cx_iret C hA hQ hr hlk dX5_pairAt_16 rfl rfl
theorem dX5_addPair_0 : decode cX5_addPair 0 = .ok (.iload_n 1, 1) := by decide +kernel
theorem dX5_addPair_1 : decode cX5_addPair 1 = .ok (.iload_n 2, 1) := by decide +kernel
theorem dX5_addPair_2 : decode cX5_addPair 2 = .ok (.iload_n 3, 1) := by decide +kernel
theorem dX5_addPair_3 : decode cX5_addPair 3 = .ok (.iload 4, 2) := by decide +kernel
theorem dX5_addPair_5 : decode cX5_addPair 5 = .ok (.invokestatic 76, 3) := by decide +kernel
theorem dX5_addPair_8 : decode cX5_addPair 8 = .ok (.istore 7, 2) := by decide +kernel
theorem dX5_addPair_10 : decode cX5_addPair 10 = .ok (.iload 7, 2) := by decide +kernel
theorem dX5_addPair_12 : decode cX5_addPair 12 = .ok (.iconst 4, 1) := by decide +kernel
theorem dX5_addPair_13 : decode cX5_addPair 13 = .ok (.imul, 1) := by decide +kernel
theorem dX5_addPair_14 : decode cX5_addPair 14 = .ok (.aload_n 0, 1) := by decide +kernel
theorem dX5_addPair_15 : decode cX5_addPair 15 = .ok (.getfield 46, 3) := by decide +kernel
theorem dX5_addPair_18 : decode cX5_addPair 18 = .ok (.arraylength, 1) := by decide +kernel
theorem dX5_addPair_19 : decode cX5_addPair 19 = .ok (.if_icmp .ge 16, 3) := by decide +kernel
theorem dX5_addPair_22 : decode cX5_addPair 22 = .ok (.aload_n 0, 1) := by decide +kernel
theorem dX5_addPair_23 : decode cX5_addPair 23 = .ok (.getfield 46, 3) := by decide +kernel
theorem dX5_addPair_26 : decode cX5_addPair 26 = .ok (.iload 7, 2) := by decide +kernel
theorem dX5_addPair_28 : decode cX5_addPair 28 = .ok (.aload 5, 2) := by decide +kernel
theorem dX5_addPair_30 : decode cX5_addPair 30 = .ok (.iload 6, 2) := by decide +kernel
theorem dX5_addPair_32 : decode cX5_addPair 32 = .ok (.invokestatic 59, 3) := by decide +kernel
theorem dX5_addPair_35 : decode cX5_addPair 35 = .ok (.return_, 1) := by decide +kernel
theorem me_X5_addPair : cx_Mv yX5_addPair cX5_addPair 8 none 6 := ⟨⟨⟨by decide +kernel, by decide +kernel, by decide +kernel⟩, hw_8, hw_747⟩, hw_745, hw_746⟩
noncomputable def f_X5_addPair (s_np : Nat) (s_pairs : Nat → Int64) (p1 : Int32) (p2 : Int32) (p3 : Int32) (p4 : Int32) (e5_n : Nat) (e5_x : Nat → Int64) (p6 : Int32) : Option (Nat → Int64) := Option.bind (f_X5_pairAt p1 p2 p3 p4) (fun u1 => if (Int32.ofNat s_np) ≤ (u1 * 4) then (some s_pairs) else (Option.bind (f_X3_add s_np s_pairs u1 e5_n e5_x p6) (fun u4 => some u4)))
set_option maxHeartbeats 4000000 in
set_option maxRecDepth 100000 in
theorem c_X5_addPair (l : Launch) (D : va_G) (k : Nat → ClassId) (s_a : Nat → Nat) (e5_a : Nat) (s_np : Nat) (s_total : Nat → Int64) (s_shares : Nat → Int64) (s_pairs : Nat → Int64) (s_crowds : Nat → Int64) (s_bestWay : Nat → Int32) (s_bestWeight : Nat → Int64) (s_answer : Nat → Int64) (s_mine : Nat → Int64) (s_theirs : Nat → Int64) (s_people : Int32) (s_heads : Int32) (p1 : Int32) (p2 : Int32) (p3 : Int32) (p4 : Int32) (e5_n : Nat) (e5_x : Nat → Int64) (p6 : Int32) (y : Nat → Int64) (hf : f_X5_addPair s_np s_pairs p1 p2 p3 p4 e5_n e5_x p6 = some y) : cx_M l yX5_addPair cX5_addPair 8 none 2 D k [.ref (s_a 0), .int p1, .int p2, .int p3, .int p4, .ref e5_a, .int p6] (wd_Sums k s_a s_np s_total s_shares s_pairs s_crowds s_bestWay s_bestWeight s_answer s_mine s_theirs s_people s_heads ++ (wd_LA k e5_a e5_n e5_x)) (fun sz => cx_Qv D (wd_Sums k s_a s_np s_total s_shares s_pairs s_crowds s_bestWay s_bestWeight s_answer s_mine s_theirs s_people s_heads ++ (wd_LA k e5_a e5_n e5_x)) (wd_Sums k s_a s_np s_total s_shares y s_crowds s_bestWay s_bestWeight s_answer s_mine s_theirs s_people s_heads ++ (wd_LA k e5_a e5_n e5_x)) sz) := by
  refine cx_met (own := "NamelessBox$Sums") (by decide) rfl (Nat.le_of_ble_eq_true rfl) ?_
  intro p e s m args below meth c A Q C hA hQ hr hlk
  refine cx_lv (lv' := [(0, .ref (s_a 0)), (1, .int p1), (2, .int p2), (3, .int p3), (4, .int p4), (5, .ref e5_a), (6, .int p6)]) [0, 1, 2, 3, 4, 5, 6] rfl ?_
  unfold f_X5_addPair at hf
  refine cx_iload_n C dX5_addPair_0 1 rfl ?_
  refine cx_iload_n C dX5_addPair_1 2 rfl ?_
  refine cx_iload_n C dX5_addPair_2 3 rfl ?_
  refine cx_iload C dX5_addPair_3 4 rfl ?_
  obtain ⟨u1, e2, hf⟩ := cx_bd_at hf
  refine cx_Ksi (As := [.int p1, .int p2, .int p3, .int p4]) (rest := []) hA C me_X5_pairAt hw_748 (c_X5_pairAt l D k p1 p2 p3 p4 u1 e2) dX5_addPair_5 ⟨Nat.le_of_ble_eq_true rfl, Nat.le_of_ble_eq_true rfl⟩ ⟨Nat.zero_le _, Nat.zero_le _⟩ rfl rfl (Nat.le_of_ble_eq_true rfl) [] rfl (by decide) ?_
  clear e2
  refine cx_istore (lv' := [(7, .int u1), (0, .ref (s_a 0)), (1, .int p1), (2, .int p2), (3, .int p3), (4, .int p4), (5, .ref e5_a), (6, .int p6)]) C dX5_addPair_8 (by decide) rfl ?_
  refine cx_iload C dX5_addPair_10 0 rfl ?_
  refine cx_iconst (v := 4) C dX5_addPair_12 (by decide) ?_
  refine cx_imul C dX5_addPair_13 ?_
  refine cx_aload_n C dX5_addPair_14 1 rfl ?_
  refine cx_get (v := .ref (s_a 3)) (ci := 4) C iX5 dX5_addPair_15 0 rfl rfl 2 (by decide) hw_155 rfl ?_
  refine cx_alen (v := Int32.ofNat s_np) C dX5_addPair_18 3 1 rfl rfl rfl ?_
  refine cx_icmp_ge (tgt := 35) C dX5_addPair_19 (by decide) (fun c3 => ?_) (fun c3 => ?_)
  · have hf := cx_if_t hf c3
    clear c3
    obtain rfl := Option.some.inj hf
    exact cx_vret C hA hQ hr hlk dX5_addPair_35 rfl
  · have hf := cx_if_f hf c3
    clear c3
    refine cx_aload_n C dX5_addPair_22 1 rfl ?_
    refine cx_get (v := .ref (s_a 3)) (ci := 4) C iX5 dX5_addPair_23 0 rfl rfl 2 (by decide) hw_155 rfl ?_
    refine cx_iload C dX5_addPair_26 0 rfl ?_
    refine cx_aload C dX5_addPair_28 6 rfl ?_
    refine cx_iload C dX5_addPair_30 7 rfl ?_
    obtain ⟨u4, e5, hf⟩ := cx_bd_at hf
    refine cx_csv (As := [.ref (s_a 3), .int u1, .ref e5_a, .int p6]) (rest := []) (ws' := (wd_Sums k s_a s_np s_total s_shares u4 s_crowds s_bestWay s_bestWeight s_answer s_mine s_theirs s_people s_heads ++ (wd_LA k e5_a e5_n e5_x))) hA C me_X3_add hw_697 (c_X3_add l D k (s_a 3) e5_a s_np s_pairs u1 e5_n e5_x p6 u4 e5) dX5_addPair_32 ⟨Nat.le_of_ble_eq_true rfl, Nat.le_of_ble_eq_true rfl⟩ ⟨Nat.zero_le _, Nat.zero_le _⟩ rfl rfl (Nat.le_of_ble_eq_true rfl) [3, 10] rfl (by decide) rfl rfl ?_
    clear e5
    obtain rfl := Option.some.inj hf
    exact cx_vret C hA hQ hr hlk dX5_addPair_35 rfl
theorem dX5_finish_0 : decode cX5_finish 0 = .ok (.aload_n 0, 1) := by decide +kernel
theorem dX5_finish_1 : decode cX5_finish 1 = .ok (.getfield 11, 3) := by decide +kernel
theorem dX5_finish_4 : decode cX5_finish 4 = .ok (.iconst 0, 1) := by decide +kernel
theorem dX5_finish_5 : decode cX5_finish 5 = .ok (.aload_n 1, 1) := by decide +kernel
theorem dX5_finish_6 : decode cX5_finish 6 = .ok (.iload_n 2, 1) := by decide +kernel
theorem dX5_finish_7 : decode cX5_finish 7 = .ok (.invokestatic 67, 3) := by decide +kernel
theorem dX5_finish_10 : decode cX5_finish 10 = .ok (.aload_n 0, 1) := by decide +kernel
theorem dX5_finish_11 : decode cX5_finish 11 = .ok (.getfield 11, 3) := by decide +kernel
theorem dX5_finish_14 : decode cX5_finish 14 = .ok (.iconst 0, 1) := by decide +kernel
theorem dX5_finish_15 : decode cX5_finish 15 = .ok (.invokestatic 80, 3) := by decide +kernel
theorem dX5_finish_18 : decode cX5_finish 18 = .ok (.iconst 0, 1) := by decide +kernel
theorem dX5_finish_19 : decode cX5_finish 19 = .ok (.istore_n 3, 1) := by decide +kernel
theorem dX5_finish_20 : decode cX5_finish 20 = .ok (.iload_n 3, 1) := by decide +kernel
theorem dX5_finish_21 : decode cX5_finish 21 = .ok (.bipush 36, 2) := by decide +kernel
theorem dX5_finish_23 : decode cX5_finish 23 = .ok (.if_icmp .ge 17, 3) := by decide +kernel
theorem dX5_finish_26 : decode cX5_finish 26 = .ok (.aload_n 0, 1) := by decide +kernel
theorem dX5_finish_27 : decode cX5_finish 27 = .ok (.getfield 17, 3) := by decide +kernel
theorem dX5_finish_30 : decode cX5_finish 30 = .ok (.iload_n 3, 1) := by decide +kernel
theorem dX5_finish_31 : decode cX5_finish 31 = .ok (.invokestatic 80, 3) := by decide +kernel
theorem dX5_finish_34 : decode cX5_finish 34 = .ok (.iinc 3 1, 3) := by decide +kernel
theorem dX5_finish_37 : decode cX5_finish 37 = .ok (.goto (-17), 3) := by decide +kernel
theorem dX5_finish_40 : decode cX5_finish 40 = .ok (.return_, 1) := by decide +kernel
theorem me_X5_finish : cx_Mv yX5_finish cX5_finish 4 none 2 := ⟨⟨⟨by decide +kernel, by decide +kernel, by decide +kernel⟩, hw_8, hw_757⟩, hw_755, hw_756⟩
noncomputable def f_X5_finish_L20 (a_5 : Nat → Int64) (rc20 : (Nat → Int64) → Int32 → Option ((Nat → Int64) × (Nat → Int64))) (a_6 : Nat → Int64) (x3_7 : Int32) : Option ((Nat → Int64) × (Nat → Int64)) := if 36 ≤ x3_7 then (some ((a_5, a_6))) else (Option.bind (f_X3_carry 144 a_6 x3_7) (fun u9 => rc20 u9 (x3_7 + 1)))
noncomputable def f_X5_finish_L20w (a_5 : Nat → Int64) (n : Nat) : (Nat → Int64) → Int32 → Option ((Nat → Int64) × (Nat → Int64)) := Nat.rec (fun _ _ => none) (fun _ r => f_X5_finish_L20 a_5 r) n
noncomputable def f_X5_finish (s_total : Nat → Int64) (s_shares : Nat → Int64) (e1_n : Nat) (e1_x : Nat → Int64) (p2 : Int32) : Option ((Nat → Int64) × (Nat → Int64)) := Option.bind (f_X3_copy 4 s_total 0 e1_n e1_x p2) (fun u1 => Option.bind (f_X3_carry 4 u1 0) (fun u3 => f_X5_finish_L20w u3 cx_N0 s_shares 0))
set_option maxHeartbeats 4000000 in
set_option maxRecDepth 100000 in
theorem c_X5_finish (l : Launch) (D : va_G) (k : Nat → ClassId) (s_a : Nat → Nat) (e1_a : Nat) (s_np : Nat) (s_total : Nat → Int64) (s_shares : Nat → Int64) (s_pairs : Nat → Int64) (s_crowds : Nat → Int64) (s_bestWay : Nat → Int32) (s_bestWeight : Nat → Int64) (s_answer : Nat → Int64) (s_mine : Nat → Int64) (s_theirs : Nat → Int64) (s_people : Int32) (s_heads : Int32) (e1_n : Nat) (e1_x : Nat → Int64) (p2 : Int32) (y : (Nat → Int64) × (Nat → Int64)) (hf : f_X5_finish s_total s_shares e1_n e1_x p2 = some y) : cx_M l yX5_finish cX5_finish 4 none 2 D k [.ref (s_a 0), .ref e1_a, .int p2] (wd_Sums k s_a s_np s_total s_shares s_pairs s_crowds s_bestWay s_bestWeight s_answer s_mine s_theirs s_people s_heads ++ (wd_LA k e1_a e1_n e1_x)) (fun sz => cx_Qv D (wd_Sums k s_a s_np s_total s_shares s_pairs s_crowds s_bestWay s_bestWeight s_answer s_mine s_theirs s_people s_heads ++ (wd_LA k e1_a e1_n e1_x)) (wd_Sums k s_a s_np y.1 y.2 s_pairs s_crowds s_bestWay s_bestWeight s_answer s_mine s_theirs s_people s_heads ++ (wd_LA k e1_a e1_n e1_x)) sz) := by
  refine cx_met (own := "NamelessBox$Sums") (by decide) rfl (Nat.le_of_ble_eq_true rfl) ?_
  intro p e s m args below meth c A Q C hA hQ hr hlk
  refine cx_lv (lv' := [(0, .ref (s_a 0)), (1, .ref e1_a), (2, .int p2)]) [0, 1, 2] rfl ?_
  have L20 : ∀ (a_5 : Nat → Int64) (n20 : Nat) (a_6 : Nat → Int64) (x3_7 : Int32), f_X5_finish_L20w a_5 n20 a_6 x3_7 = some y → cx_S p l e (cx_rm 2) s m args below meth c A D 4 0 0 Q 20 [(0, .ref (s_a 0)), (3, .int x3_7)] [] (wd_Sums k s_a s_np a_5 a_6 s_pairs s_crowds s_bestWay s_bestWeight s_answer s_mine s_theirs s_people s_heads ++ (wd_LA k e1_a e1_n e1_x)) := by
    intro a_5 n20
    induction n20 with
    | zero =>
      intro a_6 x3_7 hf
      exact absurd (show (none : Option ((Nat → Int64) × (Nat → Int64))) = some y from hf) (fun h => by cases h)
    | succ n20 ih20 =>
      intro a_6 x3_7 hf
      have hf : f_X5_finish_L20 a_5 (f_X5_finish_L20w a_5 n20) a_6 x3_7 = some y := hf
      unfold f_X5_finish_L20 at hf
      refine cx_iload_n C dX5_finish_20 1 rfl ?_
      refine cx_bipush (v := 36) C dX5_finish_21 (by decide) ?_
      refine cx_icmp_ge (tgt := 40) C dX5_finish_23 (by decide) (fun c8 => ?_) (fun c8 => ?_)
      · have hf := cx_if_t hf c8
        clear c8
        obtain rfl := Option.some.inj hf
        exact cx_vret C hA hQ hr hlk dX5_finish_40 rfl
      · have hf := cx_if_f hf c8
        clear c8
        refine cx_aload_n C dX5_finish_26 0 rfl ?_
        refine cx_get (v := .ref (s_a 2)) (ci := 4) C iX5 dX5_finish_27 0 rfl rfl 1 (by decide) hw_152 rfl ?_
        refine cx_iload_n C dX5_finish_30 1 rfl ?_
        obtain ⟨u9, e10, hf⟩ := cx_bd_at hf
        refine cx_csv (As := [.ref (s_a 2), .int x3_7]) (rest := []) (ws' := (wd_Sums k s_a s_np a_5 u9 s_pairs s_crowds s_bestWay s_bestWeight s_answer s_mine s_theirs s_people s_heads ++ (wd_LA k e1_a e1_n e1_x))) hA C me_X3_carry hw_758 (c_X3_carry l D k (s_a 2) 144 a_6 x3_7 u9 e10) dX5_finish_31 ⟨Nat.le_of_ble_eq_true rfl, Nat.le_of_ble_eq_true rfl⟩ ⟨Nat.zero_le _, Nat.zero_le _⟩ rfl rfl (Nat.le_of_ble_eq_true rfl) [2] rfl (by decide) rfl rfl ?_
        clear e10
        refine cx_iinc (v := x3_7 + 1) (lv' := [(3, .int (x3_7 + 1)), (0, .ref (s_a 0))]) C dX5_finish_34 1 rfl rfl (by decide) rfl ?_
        refine cx_goto (tgt := 20) C dX5_finish_37 (by decide) ?_
        refine cx_lv [1, 0] rfl ?_
        exact ih20 u9 (x3_7 + 1) hf
  unfold f_X5_finish at hf
  refine cx_aload_n C dX5_finish_0 0 rfl ?_
  refine cx_get (v := .ref (s_a 1)) (ci := 4) C iX5 dX5_finish_1 0 rfl rfl 0 (by decide) hw_149 rfl ?_
  refine cx_iconst (v := 0) C dX5_finish_4 (by decide) ?_
  refine cx_aload_n C dX5_finish_5 1 rfl ?_
  refine cx_iload_n C dX5_finish_6 2 rfl ?_
  obtain ⟨u1, e2, hf⟩ := cx_bd_at hf
  refine cx_csv (As := [.ref (s_a 1), .int 0, .ref e1_a, .int p2]) (rest := []) (ws' := (wd_Sums k s_a s_np u1 s_shares s_pairs s_crowds s_bestWay s_bestWeight s_answer s_mine s_theirs s_people s_heads ++ (wd_LA k e1_a e1_n e1_x))) hA C me_X3_copy hw_706 (c_X3_copy l D k (s_a 1) e1_a 4 s_total 0 e1_n e1_x p2 u1 e2) dX5_finish_7 ⟨Nat.le_of_ble_eq_true rfl, Nat.le_of_ble_eq_true rfl⟩ ⟨Nat.zero_le _, Nat.zero_le _⟩ rfl rfl (Nat.le_of_ble_eq_true rfl) [1, 10] rfl (by decide) rfl rfl ?_
  clear e2
  refine cx_aload_n C dX5_finish_10 0 rfl ?_
  refine cx_get (v := .ref (s_a 1)) (ci := 4) C iX5 dX5_finish_11 0 rfl rfl 0 (by decide) hw_149 rfl ?_
  refine cx_iconst (v := 0) C dX5_finish_14 (by decide) ?_
  obtain ⟨u3, e4, hf⟩ := cx_bd_at hf
  refine cx_csv (As := [.ref (s_a 1), .int 0]) (rest := []) (ws' := (wd_Sums k s_a s_np u3 s_shares s_pairs s_crowds s_bestWay s_bestWeight s_answer s_mine s_theirs s_people s_heads ++ (wd_LA k e1_a e1_n e1_x))) hA C me_X3_carry hw_758 (c_X3_carry l D k (s_a 1) 4 u1 0 u3 e4) dX5_finish_15 ⟨Nat.le_of_ble_eq_true rfl, Nat.le_of_ble_eq_true rfl⟩ ⟨Nat.zero_le _, Nat.zero_le _⟩ rfl rfl (Nat.le_of_ble_eq_true rfl) [1] rfl (by decide) rfl rfl ?_
  clear e4
  refine cx_iconst (v := 0) C dX5_finish_18 (by decide) ?_
  refine cx_istore_n (lv' := [(3, .int 0), (0, .ref (s_a 0)), (1, .ref e1_a), (2, .int p2)]) C dX5_finish_19 rfl (by decide) rfl ?_
  refine cx_lv [1, 0] rfl ?_
  exact L20 u3 cx_N0 s_shares 0 hf
theorem dX5_isNothing_0 : decode cX5_isNothing 0 = .ok (.aload_n 0, 1) := by decide +kernel
theorem dX5_isNothing_1 : decode cX5_isNothing 1 = .ok (.getfield 11, 3) := by decide +kernel
theorem dX5_isNothing_4 : decode cX5_isNothing 4 = .ok (.iconst 0, 1) := by decide +kernel
theorem dX5_isNothing_5 : decode cX5_isNothing 5 = .ok (.invokestatic 83, 3) := by decide +kernel
theorem dX5_isNothing_8 : decode cX5_isNothing 8 = .ok (.ireturn, 1) := by decide +kernel
theorem me_X5_isNothing : cx_Mv yX5_isNothing cX5_isNothing 1 (some .boolean) 0 := ⟨⟨⟨by decide +kernel, by decide +kernel, by decide +kernel⟩, hw_8, hw_764⟩, hw_762, hw_763⟩
noncomputable def f_X5_isNothing (s_total : Nat → Int64) : Option Int32 := Option.bind (f_X3_isZero 4 s_total 0) (fun u1 => cx_gd (decide (u1 = 0 ∨ u1 = 1)) (some u1))
set_option maxHeartbeats 4000000 in
set_option maxRecDepth 100000 in
theorem c_X5_isNothing (l : Launch) (D : va_G) (k : Nat → ClassId) (s_a : Nat → Nat) (s_np : Nat) (s_total : Nat → Int64) (s_shares : Nat → Int64) (s_pairs : Nat → Int64) (s_crowds : Nat → Int64) (s_bestWay : Nat → Int32) (s_bestWeight : Nat → Int64) (s_answer : Nat → Int64) (s_mine : Nat → Int64) (s_theirs : Nat → Int64) (s_people : Int32) (s_heads : Int32) (y : Int32) (hf : f_X5_isNothing s_total = some y) : cx_M l yX5_isNothing cX5_isNothing 1 (some .boolean) 2 D k [.ref (s_a 0)] (wd_Sums k s_a s_np s_total s_shares s_pairs s_crowds s_bestWay s_bestWeight s_answer s_mine s_theirs s_people s_heads) (fun sz => cx_Qi D y (wd_Sums k s_a s_np s_total s_shares s_pairs s_crowds s_bestWay s_bestWeight s_answer s_mine s_theirs s_people s_heads) (wd_Sums k s_a s_np s_total s_shares s_pairs s_crowds s_bestWay s_bestWeight s_answer s_mine s_theirs s_people s_heads) sz) := by
  refine cx_met (own := "NamelessBox$Sums") (by decide) rfl (Nat.le_of_ble_eq_true rfl) ?_
  intro p e s m args below meth c A Q C hA hQ hr hlk
  refine cx_lv (lv' := [(0, .ref (s_a 0))]) [0] rfl ?_
  unfold f_X5_isNothing at hf
  refine cx_aload_n C dX5_isNothing_0 0 rfl ?_
  refine cx_get (v := .ref (s_a 1)) (ci := 4) C iX5 dX5_isNothing_1 0 rfl rfl 0 (by decide) hw_149 rfl ?_
  refine cx_iconst (v := 0) C dX5_isNothing_4 (by decide) ?_
  obtain ⟨u1, e2, hf⟩ := cx_bd_at hf
  refine cx_Ksi (As := [.ref (s_a 1), .int 0]) (rest := []) hA C me_X3_isZero hw_765 (c_X3_isZero l D k (s_a 1) 4 s_total 0 u1 e2) dX5_isNothing_5 ⟨Nat.le_of_ble_eq_true rfl, Nat.le_of_ble_eq_true rfl⟩ ⟨Nat.zero_le _, Nat.zero_le _⟩ rfl rfl (Nat.le_of_ble_eq_true rfl) [1] rfl (by decide) ?_
  clear e2
  obtain ⟨b3, hf⟩ := cx_gd_at hf
  obtain rfl := Option.some.inj hf
  exact cx_zret C hA hQ hr hlk dX5_isNothing_8 (cx_nz (of_decide_eq_true b3)).1 rfl rfl
theorem dX5_startAnswer_0 : decode cX5_startAnswer 0 = .ok (.aload_n 0, 1) := by decide +kernel
theorem dX5_startAnswer_1 : decode cX5_startAnswer 1 = .ok (.getfield 30, 3) := by decide +kernel
theorem dX5_startAnswer_4 : decode cX5_startAnswer 4 = .ok (.iconst 0, 1) := by decide +kernel
theorem dX5_startAnswer_5 : decode cX5_startAnswer 5 = .ok (.invokestatic 49, 3) := by decide +kernel
theorem dX5_startAnswer_8 : decode cX5_startAnswer 8 = .ok (.return_, 1) := by decide +kernel
theorem me_X5_startAnswer : cx_Mv yX5_startAnswer cX5_startAnswer 1 none 0 := ⟨⟨⟨by decide +kernel, by decide +kernel, by decide +kernel⟩, hw_8, hw_855⟩, hw_853, hw_854⟩
noncomputable def f_X5_startAnswer (s_answer : Nat → Int64) : Option (Nat → Int64) := Option.bind (f_X3_zero 4 s_answer 0) (fun u1 => some u1)
set_option maxHeartbeats 4000000 in
set_option maxRecDepth 100000 in
theorem c_X5_startAnswer (l : Launch) (D : va_G) (k : Nat → ClassId) (s_a : Nat → Nat) (s_np : Nat) (s_total : Nat → Int64) (s_shares : Nat → Int64) (s_pairs : Nat → Int64) (s_crowds : Nat → Int64) (s_bestWay : Nat → Int32) (s_bestWeight : Nat → Int64) (s_answer : Nat → Int64) (s_mine : Nat → Int64) (s_theirs : Nat → Int64) (s_people : Int32) (s_heads : Int32) (y : Nat → Int64) (hf : f_X5_startAnswer s_answer = some y) : cx_M l yX5_startAnswer cX5_startAnswer 1 none 2 D k [.ref (s_a 0)] (wd_Sums k s_a s_np s_total s_shares s_pairs s_crowds s_bestWay s_bestWeight s_answer s_mine s_theirs s_people s_heads) (fun sz => cx_Qv D (wd_Sums k s_a s_np s_total s_shares s_pairs s_crowds s_bestWay s_bestWeight s_answer s_mine s_theirs s_people s_heads) (wd_Sums k s_a s_np s_total s_shares s_pairs s_crowds s_bestWay s_bestWeight y s_mine s_theirs s_people s_heads) sz) := by
  refine cx_met (own := "NamelessBox$Sums") (by decide) rfl (Nat.le_of_ble_eq_true rfl) ?_
  intro p e s m args below meth c A Q C hA hQ hr hlk
  refine cx_lv (lv' := [(0, .ref (s_a 0))]) [0] rfl ?_
  unfold f_X5_startAnswer at hf
  refine cx_aload_n C dX5_startAnswer_0 0 rfl ?_
  refine cx_get (v := .ref (s_a 7)) (ci := 4) C iX5 dX5_startAnswer_1 0 rfl rfl 6 (by decide) hw_160 rfl ?_
  refine cx_iconst (v := 0) C dX5_startAnswer_4 (by decide) ?_
  obtain ⟨u1, e2, hf⟩ := cx_bd_at hf
  refine cx_csv (As := [.ref (s_a 7), .int 0]) (rest := []) (ws' := (wd_Sums k s_a s_np s_total s_shares s_pairs s_crowds s_bestWay s_bestWeight u1 s_mine s_theirs s_people s_heads)) hA C me_X3_zero hw_640 (c_X3_zero l D k (s_a 7) 4 s_answer 0 u1 e2) dX5_startAnswer_5 ⟨Nat.le_of_ble_eq_true rfl, Nat.le_of_ble_eq_true rfl⟩ ⟨Nat.zero_le _, Nat.zero_le _⟩ rfl rfl (Nat.le_of_ble_eq_true rfl) [7] rfl (by decide) rfl rfl ?_
  clear e2
  obtain rfl := Option.some.inj hf
  exact cx_vret C hA hQ hr hlk dX5_startAnswer_8 rfl
theorem dX5_putJoint_0 : decode cX5_putJoint 0 = .ok (.iload_n 3, 1) := by decide +kernel
theorem dX5_putJoint_1 : decode cX5_putJoint 1 = .ok (.iload 5, 2) := by decide +kernel
theorem dX5_putJoint_3 : decode cX5_putJoint 3 = .ok (.if_icmp .ge 16, 3) := by decide +kernel
theorem dX5_putJoint_6 : decode cX5_putJoint 6 = .ok (.iload_n 3, 1) := by decide +kernel
theorem dX5_putJoint_7 : decode cX5_putJoint 7 = .ok (.iload 4, 2) := by decide +kernel
theorem dX5_putJoint_9 : decode cX5_putJoint 9 = .ok (.iload 5, 2) := by decide +kernel
theorem dX5_putJoint_11 : decode cX5_putJoint 11 = .ok (.iload 6, 2) := by decide +kernel
theorem dX5_putJoint_13 : decode cX5_putJoint 13 = .ok (.invokestatic 76, 3) := by decide +kernel
theorem dX5_putJoint_16 : decode cX5_putJoint 16 = .ok (.goto 13, 3) := by decide +kernel
theorem dX5_putJoint_19 : decode cX5_putJoint 19 = .ok (.iload 5, 2) := by decide +kernel
theorem dX5_putJoint_21 : decode cX5_putJoint 21 = .ok (.iload 6, 2) := by decide +kernel
theorem dX5_putJoint_23 : decode cX5_putJoint 23 = .ok (.iload_n 3, 1) := by decide +kernel
theorem dX5_putJoint_24 : decode cX5_putJoint 24 = .ok (.iload 4, 2) := by decide +kernel
theorem dX5_putJoint_26 : decode cX5_putJoint 26 = .ok (.invokestatic 76, 3) := by decide +kernel
theorem dX5_putJoint_29 : decode cX5_putJoint 29 = .ok (.istore 7, 2) := by decide +kernel
theorem dX5_putJoint_31 : decode cX5_putJoint 31 = .ok (.iload_n 3, 1) := by decide +kernel
theorem dX5_putJoint_32 : decode cX5_putJoint 32 = .ok (.iload 5, 2) := by decide +kernel
theorem dX5_putJoint_34 : decode cX5_putJoint 34 = .ok (.if_icmp .ne 29, 3) := by decide +kernel
theorem dX5_putJoint_37 : decode cX5_putJoint 37 = .ok (.iload 4, 2) := by decide +kernel
theorem dX5_putJoint_39 : decode cX5_putJoint 39 = .ok (.iload 6, 2) := by decide +kernel
theorem dX5_putJoint_41 : decode cX5_putJoint 41 = .ok (.if_icmp .ne 22, 3) := by decide +kernel
theorem dX5_putJoint_44 : decode cX5_putJoint 44 = .ok (.aload_n 1, 1) := by decide +kernel
theorem dX5_putJoint_45 : decode cX5_putJoint 45 = .ok (.iload_n 2, 1) := by decide +kernel
theorem dX5_putJoint_46 : decode cX5_putJoint 46 = .ok (.aload_n 0, 1) := by decide +kernel
theorem dX5_putJoint_47 : decode cX5_putJoint 47 = .ok (.getfield 17, 3) := by decide +kernel
theorem dX5_putJoint_50 : decode cX5_putJoint 50 = .ok (.iload_n 3, 1) := by decide +kernel
theorem dX5_putJoint_51 : decode cX5_putJoint 51 = .ok (.bipush 6, 2) := by decide +kernel
theorem dX5_putJoint_53 : decode cX5_putJoint 53 = .ok (.imul, 1) := by decide +kernel
theorem dX5_putJoint_54 : decode cX5_putJoint 54 = .ok (.iload 4, 2) := by decide +kernel
theorem dX5_putJoint_56 : decode cX5_putJoint 56 = .ok (.iadd, 1) := by decide +kernel
theorem dX5_putJoint_57 : decode cX5_putJoint 57 = .ok (.invokestatic 67, 3) := by decide +kernel
theorem dX5_putJoint_60 : decode cX5_putJoint 60 = .ok (.goto 45, 3) := by decide +kernel
theorem dX5_putJoint_63 : decode cX5_putJoint 63 = .ok (.iload_n 3, 1) := by decide +kernel
theorem dX5_putJoint_64 : decode cX5_putJoint 64 = .ok (.iload 5, 2) := by decide +kernel
theorem dX5_putJoint_66 : decode cX5_putJoint 66 = .ok (.if_icmp .eq 34, 3) := by decide +kernel
theorem dX5_putJoint_69 : decode cX5_putJoint 69 = .ok (.iload 7, 2) := by decide +kernel
theorem dX5_putJoint_71 : decode cX5_putJoint 71 = .ok (.iconst 4, 1) := by decide +kernel
theorem dX5_putJoint_72 : decode cX5_putJoint 72 = .ok (.imul, 1) := by decide +kernel
theorem dX5_putJoint_73 : decode cX5_putJoint 73 = .ok (.aload_n 0, 1) := by decide +kernel
theorem dX5_putJoint_74 : decode cX5_putJoint 74 = .ok (.getfield 46, 3) := by decide +kernel
theorem dX5_putJoint_77 : decode cX5_putJoint 77 = .ok (.arraylength, 1) := by decide +kernel
theorem dX5_putJoint_78 : decode cX5_putJoint 78 = .ok (.if_icmp .ge 22, 3) := by decide +kernel
theorem dX5_putJoint_81 : decode cX5_putJoint 81 = .ok (.aload_n 1, 1) := by decide +kernel
theorem dX5_putJoint_82 : decode cX5_putJoint 82 = .ok (.iload_n 2, 1) := by decide +kernel
theorem dX5_putJoint_83 : decode cX5_putJoint 83 = .ok (.aload_n 0, 1) := by decide +kernel
theorem dX5_putJoint_84 : decode cX5_putJoint 84 = .ok (.getfield 46, 3) := by decide +kernel
theorem dX5_putJoint_87 : decode cX5_putJoint 87 = .ok (.iload 7, 2) := by decide +kernel
theorem dX5_putJoint_89 : decode cX5_putJoint 89 = .ok (.invokestatic 67, 3) := by decide +kernel
theorem dX5_putJoint_92 : decode cX5_putJoint 92 = .ok (.aload_n 1, 1) := by decide +kernel
theorem dX5_putJoint_93 : decode cX5_putJoint 93 = .ok (.iload_n 2, 1) := by decide +kernel
theorem dX5_putJoint_94 : decode cX5_putJoint 94 = .ok (.invokestatic 80, 3) := by decide +kernel
theorem dX5_putJoint_97 : decode cX5_putJoint 97 = .ok (.goto 8, 3) := by decide +kernel
theorem dX5_putJoint_100 : decode cX5_putJoint 100 = .ok (.aload_n 1, 1) := by decide +kernel
theorem dX5_putJoint_101 : decode cX5_putJoint 101 = .ok (.iload_n 2, 1) := by decide +kernel
theorem dX5_putJoint_102 : decode cX5_putJoint 102 = .ok (.invokestatic 49, 3) := by decide +kernel
theorem dX5_putJoint_105 : decode cX5_putJoint 105 = .ok (.return_, 1) := by decide +kernel
theorem me_X5_putJoint : cx_Mv yX5_putJoint cX5_putJoint 8 none 6 := ⟨⟨⟨by decide +kernel, by decide +kernel, by decide +kernel⟩, hw_8, hw_863⟩, hw_861, hw_862⟩
noncomputable def f_X5_putJoint_J100 (e1_n : Nat) (e1_x : Nat → Int64) (p2 : Int32) : Option (Nat → Int64) := Option.bind (f_X3_zero e1_n e1_x p2) (fun u8 => some u8)
noncomputable def f_X5_putJoint_J63 (s_np : Nat) (s_pairs : Nat → Int64) (e1_n : Nat) (e1_x : Nat → Int64) (p2 : Int32) (p3 : Int32) (p5 : Int32) (x7_6 : Int32) : Option (Nat → Int64) := if p3 = p5 then (f_X5_putJoint_J100 e1_n e1_x p2) else (if (Int32.ofNat s_np) ≤ (x7_6 * 4) then (f_X5_putJoint_J100 e1_n e1_x p2) else (Option.bind (f_X3_copy e1_n e1_x p2 s_np s_pairs x7_6) (fun u11 => Option.bind (f_X3_carry e1_n u11 p2) (fun u13 => some u13))))
noncomputable def f_X5_putJoint_J29 (s_np : Nat) (s_shares : Nat → Int64) (s_pairs : Nat → Int64) (e1_n : Nat) (e1_x : Nat → Int64) (p2 : Int32) (p3 : Int32) (p4 : Int32) (p5 : Int32) (p6 : Int32) (s0_4 : Int32) : Option (Nat → Int64) := if p3 = p5 then (if p4 = p6 then (Option.bind (f_X3_copy e1_n e1_x p2 144 s_shares ((p3 * 6) + p4)) (fun u16 => some u16)) else (f_X5_putJoint_J63 s_np s_pairs e1_n e1_x p2 p3 p5 s0_4)) else (f_X5_putJoint_J63 s_np s_pairs e1_n e1_x p2 p3 p5 s0_4)
noncomputable def f_X5_putJoint (s_np : Nat) (s_shares : Nat → Int64) (s_pairs : Nat → Int64) (e1_n : Nat) (e1_x : Nat → Int64) (p2 : Int32) (p3 : Int32) (p4 : Int32) (p5 : Int32) (p6 : Int32) : Option (Nat → Int64) := if p5 ≤ p3 then (Option.bind (f_X5_pairAt p5 p6 p3 p4) (fun u2 => f_X5_putJoint_J29 s_np s_shares s_pairs e1_n e1_x p2 p3 p4 p5 p6 u2)) else (Option.bind (f_X5_pairAt p3 p4 p5 p6) (fun u18 => f_X5_putJoint_J29 s_np s_shares s_pairs e1_n e1_x p2 p3 p4 p5 p6 u18))
set_option maxHeartbeats 4000000 in
set_option maxRecDepth 100000 in
theorem c_X5_putJoint (l : Launch) (D : va_G) (k : Nat → ClassId) (s_a : Nat → Nat) (e1_a : Nat) (s_np : Nat) (s_total : Nat → Int64) (s_shares : Nat → Int64) (s_pairs : Nat → Int64) (s_crowds : Nat → Int64) (s_bestWay : Nat → Int32) (s_bestWeight : Nat → Int64) (s_answer : Nat → Int64) (s_mine : Nat → Int64) (s_theirs : Nat → Int64) (s_people : Int32) (s_heads : Int32) (e1_n : Nat) (e1_x : Nat → Int64) (p2 : Int32) (p3 : Int32) (p4 : Int32) (p5 : Int32) (p6 : Int32) (y : Nat → Int64) (hf : f_X5_putJoint s_np s_shares s_pairs e1_n e1_x p2 p3 p4 p5 p6 = some y) : cx_M l yX5_putJoint cX5_putJoint 8 none 2 D k [.ref (s_a 0), .ref e1_a, .int p2, .int p3, .int p4, .int p5, .int p6] (wd_Sums k s_a s_np s_total s_shares s_pairs s_crowds s_bestWay s_bestWeight s_answer s_mine s_theirs s_people s_heads ++ (wd_LA k e1_a e1_n e1_x)) (fun sz => cx_Qv D (wd_Sums k s_a s_np s_total s_shares s_pairs s_crowds s_bestWay s_bestWeight s_answer s_mine s_theirs s_people s_heads ++ (wd_LA k e1_a e1_n e1_x)) (wd_Sums k s_a s_np s_total s_shares s_pairs s_crowds s_bestWay s_bestWeight s_answer s_mine s_theirs s_people s_heads ++ (wd_LA k e1_a e1_n y)) sz) := by
  refine cx_met (own := "NamelessBox$Sums") (by decide) rfl (Nat.le_of_ble_eq_true rfl) ?_
  intro p e s m args below meth c A Q C hA hQ hr hlk
  refine cx_lv (lv' := [(0, .ref (s_a 0)), (1, .ref e1_a), (2, .int p2), (3, .int p3), (4, .int p4), (5, .int p5), (6, .int p6)]) [0, 1, 2, 3, 4, 5, 6] rfl ?_
  have J100 : f_X5_putJoint_J100 e1_n e1_x p2 = some y → cx_S p l e (cx_rm 2) s m args below meth c A D 8 0 0 Q 100 [(1, .ref e1_a), (2, .int p2)] [] (wd_Sums k s_a s_np s_total s_shares s_pairs s_crowds s_bestWay s_bestWeight s_answer s_mine s_theirs s_people s_heads ++ (wd_LA k e1_a e1_n e1_x)) := by
    intro  hf
    unfold f_X5_putJoint_J100 at hf
    refine cx_aload_n C dX5_putJoint_100 0 rfl ?_
    refine cx_iload_n C dX5_putJoint_101 1 rfl ?_
    obtain ⟨u8, e9, hf⟩ := cx_bd_at hf
    refine cx_csv (As := [.ref e1_a, .int p2]) (rest := []) (ws' := (wd_Sums k s_a s_np s_total s_shares s_pairs s_crowds s_bestWay s_bestWeight s_answer s_mine s_theirs s_people s_heads ++ (wd_LA k e1_a e1_n u8))) hA C me_X3_zero hw_640 (c_X3_zero l D k e1_a e1_n e1_x p2 u8 e9) dX5_putJoint_102 ⟨Nat.le_of_ble_eq_true rfl, Nat.le_of_ble_eq_true rfl⟩ ⟨Nat.zero_le _, Nat.zero_le _⟩ rfl rfl (Nat.le_of_ble_eq_true rfl) [10] rfl (by decide) rfl rfl ?_
    clear e9
    obtain rfl := Option.some.inj hf
    exact cx_vret C hA hQ hr hlk dX5_putJoint_105 rfl
  have J63 : ∀ (x7_6 : Int32), f_X5_putJoint_J63 s_np s_pairs e1_n e1_x p2 p3 p5 x7_6 = some y → cx_S p l e (cx_rm 2) s m args below meth c A D 8 0 0 Q 63 [(0, .ref (s_a 0)), (1, .ref e1_a), (2, .int p2), (3, .int p3), (5, .int p5), (7, .int x7_6)] [] (wd_Sums k s_a s_np s_total s_shares s_pairs s_crowds s_bestWay s_bestWeight s_answer s_mine s_theirs s_people s_heads ++ (wd_LA k e1_a e1_n e1_x)) := by
    intro x7_6 hf
    unfold f_X5_putJoint_J63 at hf
    refine cx_iload_n C dX5_putJoint_63 3 rfl ?_
    refine cx_iload C dX5_putJoint_64 4 rfl ?_
    refine cx_icmp_eq (tgt := 100) C dX5_putJoint_66 (by decide) (fun c7 => ?_) (fun c7 => ?_)
    · have hf := cx_if_t hf c7
      clear c7
      refine cx_lv [1, 2] rfl ?_
      exact J100 hf
    · have hf := cx_if_f hf c7
      clear c7
      refine cx_iload C dX5_putJoint_69 5 rfl ?_
      refine cx_iconst (v := 4) C dX5_putJoint_71 (by decide) ?_
      refine cx_imul C dX5_putJoint_72 ?_
      refine cx_aload_n C dX5_putJoint_73 0 rfl ?_
      refine cx_get (v := .ref (s_a 3)) (ci := 4) C iX5 dX5_putJoint_74 0 rfl rfl 2 (by decide) hw_155 rfl ?_
      refine cx_alen (v := Int32.ofNat s_np) C dX5_putJoint_77 3 1 rfl rfl rfl ?_
      refine cx_icmp_ge (tgt := 100) C dX5_putJoint_78 (by decide) (fun c10 => ?_) (fun c10 => ?_)
      · have hf := cx_if_t hf c10
        clear c10
        refine cx_lv [1, 2] rfl ?_
        exact J100 hf
      · have hf := cx_if_f hf c10
        clear c10
        refine cx_aload_n C dX5_putJoint_81 1 rfl ?_
        refine cx_iload_n C dX5_putJoint_82 2 rfl ?_
        refine cx_aload_n C dX5_putJoint_83 0 rfl ?_
        refine cx_get (v := .ref (s_a 3)) (ci := 4) C iX5 dX5_putJoint_84 0 rfl rfl 2 (by decide) hw_155 rfl ?_
        refine cx_iload C dX5_putJoint_87 5 rfl ?_
        obtain ⟨u11, e12, hf⟩ := cx_bd_at hf
        refine cx_csv (As := [.ref e1_a, .int p2, .ref (s_a 3), .int x7_6]) (rest := []) (ws' := (wd_Sums k s_a s_np s_total s_shares s_pairs s_crowds s_bestWay s_bestWeight s_answer s_mine s_theirs s_people s_heads ++ (wd_LA k e1_a e1_n u11))) hA C me_X3_copy hw_706 (c_X3_copy l D k e1_a (s_a 3) e1_n e1_x p2 s_np s_pairs x7_6 u11 e12) dX5_putJoint_89 ⟨Nat.le_of_ble_eq_true rfl, Nat.le_of_ble_eq_true rfl⟩ ⟨Nat.zero_le _, Nat.zero_le _⟩ rfl rfl (Nat.le_of_ble_eq_true rfl) [10, 3] rfl (by decide) rfl rfl ?_
        clear e12
        refine cx_aload_n C dX5_putJoint_92 1 rfl ?_
        refine cx_iload_n C dX5_putJoint_93 2 rfl ?_
        obtain ⟨u13, e14, hf⟩ := cx_bd_at hf
        refine cx_csv (As := [.ref e1_a, .int p2]) (rest := []) (ws' := (wd_Sums k s_a s_np s_total s_shares s_pairs s_crowds s_bestWay s_bestWeight s_answer s_mine s_theirs s_people s_heads ++ (wd_LA k e1_a e1_n u13))) hA C me_X3_carry hw_758 (c_X3_carry l D k e1_a e1_n u11 p2 u13 e14) dX5_putJoint_94 ⟨Nat.le_of_ble_eq_true rfl, Nat.le_of_ble_eq_true rfl⟩ ⟨Nat.zero_le _, Nat.zero_le _⟩ rfl rfl (Nat.le_of_ble_eq_true rfl) [10] rfl (by decide) rfl rfl ?_
        clear e14
        refine cx_goto (tgt := 105) C dX5_putJoint_97 (by decide) ?_
        obtain rfl := Option.some.inj hf
        exact cx_vret C hA hQ hr hlk dX5_putJoint_105 rfl
  have J29 : ∀ (s0_4 : Int32), f_X5_putJoint_J29 s_np s_shares s_pairs e1_n e1_x p2 p3 p4 p5 p6 s0_4 = some y → cx_S p l e (cx_rm 2) s m args below meth c A D 8 0 0 Q 29 [(0, .ref (s_a 0)), (1, .ref e1_a), (2, .int p2), (3, .int p3), (4, .int p4), (5, .int p5), (6, .int p6)] [.int s0_4] (wd_Sums k s_a s_np s_total s_shares s_pairs s_crowds s_bestWay s_bestWeight s_answer s_mine s_theirs s_people s_heads ++ (wd_LA k e1_a e1_n e1_x)) := by
    intro s0_4 hf
    unfold f_X5_putJoint_J29 at hf
    refine cx_istore (lv' := [(7, .int s0_4), (0, .ref (s_a 0)), (1, .ref e1_a), (2, .int p2), (3, .int p3), (4, .int p4), (5, .int p5), (6, .int p6)]) C dX5_putJoint_29 (by decide) rfl ?_
    refine cx_iload_n C dX5_putJoint_31 4 rfl ?_
    refine cx_iload C dX5_putJoint_32 6 rfl ?_
    refine cx_icmp_ne (tgt := 63) C dX5_putJoint_34 (by decide) (fun c5 => ?_) (fun c5 => ?_)
    · have hf := cx_if_f hf c5
      clear c5
      refine cx_lv [1, 2, 3, 4, 6, 0] rfl ?_
      exact J63 s0_4 hf
    · have hf := cx_if_t hf c5
      clear c5
      refine cx_iload C dX5_putJoint_37 5 rfl ?_
      refine cx_iload C dX5_putJoint_39 7 rfl ?_
      refine cx_icmp_ne (tgt := 63) C dX5_putJoint_41 (by decide) (fun c15 => ?_) (fun c15 => ?_)
      · have hf := cx_if_f hf c15
        clear c15
        refine cx_lv [1, 2, 3, 4, 6, 0] rfl ?_
        exact J63 s0_4 hf
      · have hf := cx_if_t hf c15
        clear c15
        refine cx_aload_n C dX5_putJoint_44 2 rfl ?_
        refine cx_iload_n C dX5_putJoint_45 3 rfl ?_
        refine cx_aload_n C dX5_putJoint_46 1 rfl ?_
        refine cx_get (v := .ref (s_a 2)) (ci := 4) C iX5 dX5_putJoint_47 0 rfl rfl 1 (by decide) hw_152 rfl ?_
        refine cx_iload_n C dX5_putJoint_50 4 rfl ?_
        refine cx_bipush (v := 6) C dX5_putJoint_51 (by decide) ?_
        refine cx_imul C dX5_putJoint_53 ?_
        refine cx_iload C dX5_putJoint_54 5 rfl ?_
        refine cx_iadd C dX5_putJoint_56 ?_
        obtain ⟨u16, e17, hf⟩ := cx_bd_at hf
        refine cx_csv (As := [.ref e1_a, .int p2, .ref (s_a 2), .int ((p3 * 6) + p4)]) (rest := []) (ws' := (wd_Sums k s_a s_np s_total s_shares s_pairs s_crowds s_bestWay s_bestWeight s_answer s_mine s_theirs s_people s_heads ++ (wd_LA k e1_a e1_n u16))) hA C me_X3_copy hw_706 (c_X3_copy l D k e1_a (s_a 2) e1_n e1_x p2 144 s_shares ((p3 * 6) + p4) u16 e17) dX5_putJoint_57 ⟨Nat.le_of_ble_eq_true rfl, Nat.le_of_ble_eq_true rfl⟩ ⟨Nat.zero_le _, Nat.zero_le _⟩ rfl rfl (Nat.le_of_ble_eq_true rfl) [10, 2] rfl (by decide) rfl rfl ?_
        clear e17
        refine cx_goto (tgt := 105) C dX5_putJoint_60 (by decide) ?_
        obtain rfl := Option.some.inj hf
        exact cx_vret C hA hQ hr hlk dX5_putJoint_105 rfl
  unfold f_X5_putJoint at hf
  refine cx_iload_n C dX5_putJoint_0 3 rfl ?_
  refine cx_iload C dX5_putJoint_1 5 rfl ?_
  refine cx_icmp_ge (tgt := 19) C dX5_putJoint_3 (by decide) (fun c1 => ?_) (fun c1 => ?_)
  · have hf := cx_if_t hf c1
    clear c1
    refine cx_iload C dX5_putJoint_19 5 rfl ?_
    refine cx_iload C dX5_putJoint_21 6 rfl ?_
    refine cx_iload_n C dX5_putJoint_23 3 rfl ?_
    refine cx_iload C dX5_putJoint_24 4 rfl ?_
    obtain ⟨u2, e3, hf⟩ := cx_bd_at hf
    refine cx_Ksi (As := [.int p5, .int p6, .int p3, .int p4]) (rest := []) hA C me_X5_pairAt hw_748 (c_X5_pairAt l D k p5 p6 p3 p4 u2 e3) dX5_putJoint_26 ⟨Nat.le_of_ble_eq_true rfl, Nat.le_of_ble_eq_true rfl⟩ ⟨Nat.zero_le _, Nat.zero_le _⟩ rfl rfl (Nat.le_of_ble_eq_true rfl) [] rfl (by decide) ?_
    clear e3
    exact J29 u2 hf
  · have hf := cx_if_f hf c1
    clear c1
    refine cx_iload_n C dX5_putJoint_6 3 rfl ?_
    refine cx_iload C dX5_putJoint_7 4 rfl ?_
    refine cx_iload C dX5_putJoint_9 5 rfl ?_
    refine cx_iload C dX5_putJoint_11 6 rfl ?_
    obtain ⟨u18, e19, hf⟩ := cx_bd_at hf
    refine cx_Ksi (As := [.int p3, .int p4, .int p5, .int p6]) (rest := []) hA C me_X5_pairAt hw_748 (c_X5_pairAt l D k p3 p4 p5 p6 u18 e19) dX5_putJoint_13 ⟨Nat.le_of_ble_eq_true rfl, Nat.le_of_ble_eq_true rfl⟩ ⟨Nat.zero_le _, Nat.zero_le _⟩ rfl rfl (Nat.le_of_ble_eq_true rfl) [] rfl (by decide) ?_
    clear e19
    refine cx_goto (tgt := 29) C dX5_putJoint_16 (by decide) ?_
    exact J29 u18 hf
noncomputable def f_X5_putJoint_p8_J100 (s_mine : Nat → Int64) (p2 : Int32) : Option (Nat → Int64) := Option.bind (f_X3_zero 4 s_mine p2) (fun u8 => some u8)
noncomputable def f_X5_putJoint_p8_J63 (s_np : Nat) (s_pairs : Nat → Int64) (s_mine : Nat → Int64) (p2 : Int32) (p3 : Int32) (p5 : Int32) (x7_6 : Int32) : Option (Nat → Int64) := if p3 = p5 then (f_X5_putJoint_p8_J100 s_mine p2) else (if (Int32.ofNat s_np) ≤ (x7_6 * 4) then (f_X5_putJoint_p8_J100 s_mine p2) else (Option.bind (f_X3_copy 4 s_mine p2 s_np s_pairs x7_6) (fun u11 => Option.bind (f_X3_carry 4 u11 p2) (fun u13 => some u13))))
noncomputable def f_X5_putJoint_p8_J29 (s_np : Nat) (s_shares : Nat → Int64) (s_pairs : Nat → Int64) (s_mine : Nat → Int64) (p2 : Int32) (p3 : Int32) (p4 : Int32) (p5 : Int32) (p6 : Int32) (s0_4 : Int32) : Option (Nat → Int64) := if p3 = p5 then (if p4 = p6 then (Option.bind (f_X3_copy 4 s_mine p2 144 s_shares ((p3 * 6) + p4)) (fun u16 => some u16)) else (f_X5_putJoint_p8_J63 s_np s_pairs s_mine p2 p3 p5 s0_4)) else (f_X5_putJoint_p8_J63 s_np s_pairs s_mine p2 p3 p5 s0_4)
noncomputable def f_X5_putJoint_p8 (s_np : Nat) (s_shares : Nat → Int64) (s_pairs : Nat → Int64) (s_mine : Nat → Int64) (p2 : Int32) (p3 : Int32) (p4 : Int32) (p5 : Int32) (p6 : Int32) : Option (Nat → Int64) := if p5 ≤ p3 then (Option.bind (f_X5_pairAt p5 p6 p3 p4) (fun u2 => f_X5_putJoint_p8_J29 s_np s_shares s_pairs s_mine p2 p3 p4 p5 p6 u2)) else (Option.bind (f_X5_pairAt p3 p4 p5 p6) (fun u18 => f_X5_putJoint_p8_J29 s_np s_shares s_pairs s_mine p2 p3 p4 p5 p6 u18))
set_option maxHeartbeats 4000000 in
set_option maxRecDepth 100000 in
theorem c_X5_putJoint_p8 (l : Launch) (D : va_G) (k : Nat → ClassId) (s_a : Nat → Nat) (s_np : Nat) (s_total : Nat → Int64) (s_shares : Nat → Int64) (s_pairs : Nat → Int64) (s_crowds : Nat → Int64) (s_bestWay : Nat → Int32) (s_bestWeight : Nat → Int64) (s_answer : Nat → Int64) (s_mine : Nat → Int64) (s_theirs : Nat → Int64) (s_people : Int32) (s_heads : Int32) (p2 : Int32) (p3 : Int32) (p4 : Int32) (p5 : Int32) (p6 : Int32) (y : Nat → Int64) (hf : f_X5_putJoint_p8 s_np s_shares s_pairs s_mine p2 p3 p4 p5 p6 = some y) : cx_M l yX5_putJoint cX5_putJoint 8 none 2 D k [.ref (s_a 0), .ref (s_a 8), .int p2, .int p3, .int p4, .int p5, .int p6] (wd_Sums k s_a s_np s_total s_shares s_pairs s_crowds s_bestWay s_bestWeight s_answer s_mine s_theirs s_people s_heads) (fun sz => cx_Qv D (wd_Sums k s_a s_np s_total s_shares s_pairs s_crowds s_bestWay s_bestWeight s_answer s_mine s_theirs s_people s_heads) (wd_Sums k s_a s_np s_total s_shares s_pairs s_crowds s_bestWay s_bestWeight s_answer y s_theirs s_people s_heads) sz) := by
  refine cx_met (own := "NamelessBox$Sums") (by decide) rfl (Nat.le_of_ble_eq_true rfl) ?_
  intro p e s m args below meth c A Q C hA hQ hr hlk
  refine cx_lv (lv' := [(0, .ref (s_a 0)), (1, .ref (s_a 8)), (2, .int p2), (3, .int p3), (4, .int p4), (5, .int p5), (6, .int p6)]) [0, 1, 2, 3, 4, 5, 6] rfl ?_
  have J100 : f_X5_putJoint_p8_J100 s_mine p2 = some y → cx_S p l e (cx_rm 2) s m args below meth c A D 8 0 0 Q 100 [(1, .ref (s_a 8)), (2, .int p2)] [] (wd_Sums k s_a s_np s_total s_shares s_pairs s_crowds s_bestWay s_bestWeight s_answer s_mine s_theirs s_people s_heads) := by
    intro  hf
    unfold f_X5_putJoint_p8_J100 at hf
    refine cx_aload_n C dX5_putJoint_100 0 rfl ?_
    refine cx_iload_n C dX5_putJoint_101 1 rfl ?_
    obtain ⟨u8, e9, hf⟩ := cx_bd_at hf
    refine cx_csv (As := [.ref (s_a 8), .int p2]) (rest := []) (ws' := (wd_Sums k s_a s_np s_total s_shares s_pairs s_crowds s_bestWay s_bestWeight s_answer u8 s_theirs s_people s_heads)) hA C me_X3_zero hw_640 (c_X3_zero l D k (s_a 8) 4 s_mine p2 u8 e9) dX5_putJoint_102 ⟨Nat.le_of_ble_eq_true rfl, Nat.le_of_ble_eq_true rfl⟩ ⟨Nat.zero_le _, Nat.zero_le _⟩ rfl rfl (Nat.le_of_ble_eq_true rfl) [8] rfl (by decide) rfl rfl ?_
    clear e9
    obtain rfl := Option.some.inj hf
    exact cx_vret C hA hQ hr hlk dX5_putJoint_105 rfl
  have J63 : ∀ (x7_6 : Int32), f_X5_putJoint_p8_J63 s_np s_pairs s_mine p2 p3 p5 x7_6 = some y → cx_S p l e (cx_rm 2) s m args below meth c A D 8 0 0 Q 63 [(0, .ref (s_a 0)), (1, .ref (s_a 8)), (2, .int p2), (3, .int p3), (5, .int p5), (7, .int x7_6)] [] (wd_Sums k s_a s_np s_total s_shares s_pairs s_crowds s_bestWay s_bestWeight s_answer s_mine s_theirs s_people s_heads) := by
    intro x7_6 hf
    unfold f_X5_putJoint_p8_J63 at hf
    refine cx_iload_n C dX5_putJoint_63 3 rfl ?_
    refine cx_iload C dX5_putJoint_64 4 rfl ?_
    refine cx_icmp_eq (tgt := 100) C dX5_putJoint_66 (by decide) (fun c7 => ?_) (fun c7 => ?_)
    · have hf := cx_if_t hf c7
      clear c7
      refine cx_lv [1, 2] rfl ?_
      exact J100 hf
    · have hf := cx_if_f hf c7
      clear c7
      refine cx_iload C dX5_putJoint_69 5 rfl ?_
      refine cx_iconst (v := 4) C dX5_putJoint_71 (by decide) ?_
      refine cx_imul C dX5_putJoint_72 ?_
      refine cx_aload_n C dX5_putJoint_73 0 rfl ?_
      refine cx_get (v := .ref (s_a 3)) (ci := 4) C iX5 dX5_putJoint_74 0 rfl rfl 2 (by decide) hw_155 rfl ?_
      refine cx_alen (v := Int32.ofNat s_np) C dX5_putJoint_77 3 1 rfl rfl rfl ?_
      refine cx_icmp_ge (tgt := 100) C dX5_putJoint_78 (by decide) (fun c10 => ?_) (fun c10 => ?_)
      · have hf := cx_if_t hf c10
        clear c10
        refine cx_lv [1, 2] rfl ?_
        exact J100 hf
      · have hf := cx_if_f hf c10
        clear c10
        refine cx_aload_n C dX5_putJoint_81 1 rfl ?_
        refine cx_iload_n C dX5_putJoint_82 2 rfl ?_
        refine cx_aload_n C dX5_putJoint_83 0 rfl ?_
        refine cx_get (v := .ref (s_a 3)) (ci := 4) C iX5 dX5_putJoint_84 0 rfl rfl 2 (by decide) hw_155 rfl ?_
        refine cx_iload C dX5_putJoint_87 5 rfl ?_
        obtain ⟨u11, e12, hf⟩ := cx_bd_at hf
        refine cx_csv (As := [.ref (s_a 8), .int p2, .ref (s_a 3), .int x7_6]) (rest := []) (ws' := (wd_Sums k s_a s_np s_total s_shares s_pairs s_crowds s_bestWay s_bestWeight s_answer u11 s_theirs s_people s_heads)) hA C me_X3_copy hw_706 (c_X3_copy l D k (s_a 8) (s_a 3) 4 s_mine p2 s_np s_pairs x7_6 u11 e12) dX5_putJoint_89 ⟨Nat.le_of_ble_eq_true rfl, Nat.le_of_ble_eq_true rfl⟩ ⟨Nat.zero_le _, Nat.zero_le _⟩ rfl rfl (Nat.le_of_ble_eq_true rfl) [8, 3] rfl (by decide) rfl rfl ?_
        clear e12
        refine cx_aload_n C dX5_putJoint_92 1 rfl ?_
        refine cx_iload_n C dX5_putJoint_93 2 rfl ?_
        obtain ⟨u13, e14, hf⟩ := cx_bd_at hf
        refine cx_csv (As := [.ref (s_a 8), .int p2]) (rest := []) (ws' := (wd_Sums k s_a s_np s_total s_shares s_pairs s_crowds s_bestWay s_bestWeight s_answer u13 s_theirs s_people s_heads)) hA C me_X3_carry hw_758 (c_X3_carry l D k (s_a 8) 4 u11 p2 u13 e14) dX5_putJoint_94 ⟨Nat.le_of_ble_eq_true rfl, Nat.le_of_ble_eq_true rfl⟩ ⟨Nat.zero_le _, Nat.zero_le _⟩ rfl rfl (Nat.le_of_ble_eq_true rfl) [8] rfl (by decide) rfl rfl ?_
        clear e14
        refine cx_goto (tgt := 105) C dX5_putJoint_97 (by decide) ?_
        obtain rfl := Option.some.inj hf
        exact cx_vret C hA hQ hr hlk dX5_putJoint_105 rfl
  have J29 : ∀ (s0_4 : Int32), f_X5_putJoint_p8_J29 s_np s_shares s_pairs s_mine p2 p3 p4 p5 p6 s0_4 = some y → cx_S p l e (cx_rm 2) s m args below meth c A D 8 0 0 Q 29 [(0, .ref (s_a 0)), (1, .ref (s_a 8)), (2, .int p2), (3, .int p3), (4, .int p4), (5, .int p5), (6, .int p6)] [.int s0_4] (wd_Sums k s_a s_np s_total s_shares s_pairs s_crowds s_bestWay s_bestWeight s_answer s_mine s_theirs s_people s_heads) := by
    intro s0_4 hf
    unfold f_X5_putJoint_p8_J29 at hf
    refine cx_istore (lv' := [(7, .int s0_4), (0, .ref (s_a 0)), (1, .ref (s_a 8)), (2, .int p2), (3, .int p3), (4, .int p4), (5, .int p5), (6, .int p6)]) C dX5_putJoint_29 (by decide) rfl ?_
    refine cx_iload_n C dX5_putJoint_31 4 rfl ?_
    refine cx_iload C dX5_putJoint_32 6 rfl ?_
    refine cx_icmp_ne (tgt := 63) C dX5_putJoint_34 (by decide) (fun c5 => ?_) (fun c5 => ?_)
    · have hf := cx_if_f hf c5
      clear c5
      refine cx_lv [1, 2, 3, 4, 6, 0] rfl ?_
      exact J63 s0_4 hf
    · have hf := cx_if_t hf c5
      clear c5
      refine cx_iload C dX5_putJoint_37 5 rfl ?_
      refine cx_iload C dX5_putJoint_39 7 rfl ?_
      refine cx_icmp_ne (tgt := 63) C dX5_putJoint_41 (by decide) (fun c15 => ?_) (fun c15 => ?_)
      · have hf := cx_if_f hf c15
        clear c15
        refine cx_lv [1, 2, 3, 4, 6, 0] rfl ?_
        exact J63 s0_4 hf
      · have hf := cx_if_t hf c15
        clear c15
        refine cx_aload_n C dX5_putJoint_44 2 rfl ?_
        refine cx_iload_n C dX5_putJoint_45 3 rfl ?_
        refine cx_aload_n C dX5_putJoint_46 1 rfl ?_
        refine cx_get (v := .ref (s_a 2)) (ci := 4) C iX5 dX5_putJoint_47 0 rfl rfl 1 (by decide) hw_152 rfl ?_
        refine cx_iload_n C dX5_putJoint_50 4 rfl ?_
        refine cx_bipush (v := 6) C dX5_putJoint_51 (by decide) ?_
        refine cx_imul C dX5_putJoint_53 ?_
        refine cx_iload C dX5_putJoint_54 5 rfl ?_
        refine cx_iadd C dX5_putJoint_56 ?_
        obtain ⟨u16, e17, hf⟩ := cx_bd_at hf
        refine cx_csv (As := [.ref (s_a 8), .int p2, .ref (s_a 2), .int ((p3 * 6) + p4)]) (rest := []) (ws' := (wd_Sums k s_a s_np s_total s_shares s_pairs s_crowds s_bestWay s_bestWeight s_answer u16 s_theirs s_people s_heads)) hA C me_X3_copy hw_706 (c_X3_copy l D k (s_a 8) (s_a 2) 4 s_mine p2 144 s_shares ((p3 * 6) + p4) u16 e17) dX5_putJoint_57 ⟨Nat.le_of_ble_eq_true rfl, Nat.le_of_ble_eq_true rfl⟩ ⟨Nat.zero_le _, Nat.zero_le _⟩ rfl rfl (Nat.le_of_ble_eq_true rfl) [8, 2] rfl (by decide) rfl rfl ?_
        clear e17
        refine cx_goto (tgt := 105) C dX5_putJoint_60 (by decide) ?_
        obtain rfl := Option.some.inj hf
        exact cx_vret C hA hQ hr hlk dX5_putJoint_105 rfl
  unfold f_X5_putJoint_p8 at hf
  refine cx_iload_n C dX5_putJoint_0 3 rfl ?_
  refine cx_iload C dX5_putJoint_1 5 rfl ?_
  refine cx_icmp_ge (tgt := 19) C dX5_putJoint_3 (by decide) (fun c1 => ?_) (fun c1 => ?_)
  · have hf := cx_if_t hf c1
    clear c1
    refine cx_iload C dX5_putJoint_19 5 rfl ?_
    refine cx_iload C dX5_putJoint_21 6 rfl ?_
    refine cx_iload_n C dX5_putJoint_23 3 rfl ?_
    refine cx_iload C dX5_putJoint_24 4 rfl ?_
    obtain ⟨u2, e3, hf⟩ := cx_bd_at hf
    refine cx_Ksi (As := [.int p5, .int p6, .int p3, .int p4]) (rest := []) hA C me_X5_pairAt hw_748 (c_X5_pairAt l D k p5 p6 p3 p4 u2 e3) dX5_putJoint_26 ⟨Nat.le_of_ble_eq_true rfl, Nat.le_of_ble_eq_true rfl⟩ ⟨Nat.zero_le _, Nat.zero_le _⟩ rfl rfl (Nat.le_of_ble_eq_true rfl) [] rfl (by decide) ?_
    clear e3
    exact J29 u2 hf
  · have hf := cx_if_f hf c1
    clear c1
    refine cx_iload_n C dX5_putJoint_6 3 rfl ?_
    refine cx_iload C dX5_putJoint_7 4 rfl ?_
    refine cx_iload C dX5_putJoint_9 5 rfl ?_
    refine cx_iload C dX5_putJoint_11 6 rfl ?_
    obtain ⟨u18, e19, hf⟩ := cx_bd_at hf
    refine cx_Ksi (As := [.int p3, .int p4, .int p5, .int p6]) (rest := []) hA C me_X5_pairAt hw_748 (c_X5_pairAt l D k p3 p4 p5 p6 u18 e19) dX5_putJoint_13 ⟨Nat.le_of_ble_eq_true rfl, Nat.le_of_ble_eq_true rfl⟩ ⟨Nat.zero_le _, Nat.zero_le _⟩ rfl rfl (Nat.le_of_ble_eq_true rfl) [] rfl (by decide) ?_
    clear e19
    refine cx_goto (tgt := 29) C dX5_putJoint_16 (by decide) ?_
    exact J29 u18 hf
theorem dX5_addJoint_0 : decode cX5_addJoint 0 = .ok (.aload_n 0, 1) := by decide +kernel
theorem dX5_addJoint_1 : decode cX5_addJoint 1 = .ok (.aload_n 0, 1) := by decide +kernel
theorem dX5_addJoint_2 : decode cX5_addJoint 2 = .ok (.getfield 33, 3) := by decide +kernel
theorem dX5_addJoint_5 : decode cX5_addJoint 5 = .ok (.iconst 0, 1) := by decide +kernel
theorem dX5_addJoint_6 : decode cX5_addJoint 6 = .ok (.iload_n 1, 1) := by decide +kernel
theorem dX5_addJoint_7 : decode cX5_addJoint 7 = .ok (.iload_n 2, 1) := by decide +kernel
theorem dX5_addJoint_8 : decode cX5_addJoint 8 = .ok (.iload_n 3, 1) := by decide +kernel
theorem dX5_addJoint_9 : decode cX5_addJoint 9 = .ok (.iload 4, 2) := by decide +kernel
theorem dX5_addJoint_11 : decode cX5_addJoint 11 = .ok (.invokevirtual 87, 3) := by decide +kernel
theorem dX5_addJoint_14 : decode cX5_addJoint 14 = .ok (.aload_n 0, 1) := by decide +kernel
theorem dX5_addJoint_15 : decode cX5_addJoint 15 = .ok (.getfield 30, 3) := by decide +kernel
theorem dX5_addJoint_18 : decode cX5_addJoint 18 = .ok (.iconst 0, 1) := by decide +kernel
theorem dX5_addJoint_19 : decode cX5_addJoint 19 = .ok (.aload_n 0, 1) := by decide +kernel
theorem dX5_addJoint_20 : decode cX5_addJoint 20 = .ok (.getfield 33, 3) := by decide +kernel
theorem dX5_addJoint_23 : decode cX5_addJoint 23 = .ok (.iconst 0, 1) := by decide +kernel
theorem dX5_addJoint_24 : decode cX5_addJoint 24 = .ok (.invokestatic 59, 3) := by decide +kernel
theorem dX5_addJoint_27 : decode cX5_addJoint 27 = .ok (.return_, 1) := by decide +kernel
theorem me_X5_addJoint : cx_Mv yX5_addJoint cX5_addJoint 5 none 4 := ⟨⟨⟨by decide +kernel, by decide +kernel, by decide +kernel⟩, hw_8, hw_859⟩, hw_857, hw_858⟩
noncomputable def f_X5_addJoint (s_np : Nat) (s_shares : Nat → Int64) (s_pairs : Nat → Int64) (s_answer : Nat → Int64) (s_mine : Nat → Int64) (p1 : Int32) (p2 : Int32) (p3 : Int32) (p4 : Int32) : Option ((Nat → Int64) × (Nat → Int64)) := Option.bind (f_X5_putJoint_p8 s_np s_shares s_pairs s_mine 0 p1 p2 p3 p4) (fun u1 => Option.bind (f_X3_add 4 s_answer 0 4 u1 0) (fun u3 => some ((u3, u1))))
set_option maxHeartbeats 4000000 in
set_option maxRecDepth 100000 in
theorem c_X5_addJoint (l : Launch) (D : va_G) (k : Nat → ClassId) (s_a : Nat → Nat) (s_np : Nat) (s_total : Nat → Int64) (s_shares : Nat → Int64) (s_pairs : Nat → Int64) (s_crowds : Nat → Int64) (s_bestWay : Nat → Int32) (s_bestWeight : Nat → Int64) (s_answer : Nat → Int64) (s_mine : Nat → Int64) (s_theirs : Nat → Int64) (s_people : Int32) (s_heads : Int32) (p1 : Int32) (p2 : Int32) (p3 : Int32) (p4 : Int32) (y : (Nat → Int64) × (Nat → Int64)) (hf : f_X5_addJoint s_np s_shares s_pairs s_answer s_mine p1 p2 p3 p4 = some y) : cx_M l yX5_addJoint cX5_addJoint 5 none 3 D k [.ref (s_a 0), .int p1, .int p2, .int p3, .int p4] (wd_Sums k s_a s_np s_total s_shares s_pairs s_crowds s_bestWay s_bestWeight s_answer s_mine s_theirs s_people s_heads) (fun sz => cx_Qv D (wd_Sums k s_a s_np s_total s_shares s_pairs s_crowds s_bestWay s_bestWeight s_answer s_mine s_theirs s_people s_heads) (wd_Sums k s_a s_np s_total s_shares s_pairs s_crowds s_bestWay s_bestWeight y.1 y.2 s_theirs s_people s_heads) sz) := by
  refine cx_met (own := "NamelessBox$Sums") (by decide) rfl (Nat.le_of_ble_eq_true rfl) ?_
  intro p e s m args below meth c A Q C hA hQ hr hlk
  refine cx_lv (lv' := [(0, .ref (s_a 0)), (1, .int p1), (2, .int p2), (3, .int p3), (4, .int p4)]) [0, 1, 2, 3, 4] rfl ?_
  unfold f_X5_addJoint at hf
  refine cx_aload_n C dX5_addJoint_0 0 rfl ?_
  refine cx_aload_n C dX5_addJoint_1 0 rfl ?_
  refine cx_get (v := .ref (s_a 8)) (ci := 4) C iX5 dX5_addJoint_2 0 rfl rfl 7 (by decide) hw_163 rfl ?_
  refine cx_iconst (v := 0) C dX5_addJoint_5 (by decide) ?_
  refine cx_iload_n C dX5_addJoint_6 1 rfl ?_
  refine cx_iload_n C dX5_addJoint_7 2 rfl ?_
  refine cx_iload_n C dX5_addJoint_8 3 rfl ?_
  refine cx_iload C dX5_addJoint_9 4 rfl ?_
  obtain ⟨u1, e2, hf⟩ := cx_bd_at hf
  refine cx_Fvv (q := (RX5, TX5, 11)) (As := [.ref (s_a 8), .int 0, .int p1, .int p2, .int p3, .int p4]) (rest := []) (w1 := (wd_Sums k s_a s_np s_total s_shares s_pairs s_crowds s_bestWay s_bestWeight s_answer u1 s_theirs s_people s_heads)) hA C me_X5_putJoint hw_860 (c_X5_putJoint_p8 l D k s_a s_np s_total s_shares s_pairs s_crowds s_bestWay s_bestWeight s_answer s_mine s_theirs s_people s_heads 0 p1 p2 p3 p4 u1 e2) dX5_addJoint_11 ⟨Nat.le_of_ble_eq_true rfl, Nat.le_of_ble_eq_true rfl⟩ ⟨Nat.zero_le _, Nat.zero_le _⟩ rfl rfl (Nat.le_of_ble_eq_true rfl) rfl rfl rfl ?_
  clear e2
  refine cx_aload_n C dX5_addJoint_14 0 rfl ?_
  refine cx_get (v := .ref (s_a 7)) (ci := 4) C iX5 dX5_addJoint_15 0 rfl rfl 6 (by decide) hw_160 rfl ?_
  refine cx_iconst (v := 0) C dX5_addJoint_18 (by decide) ?_
  refine cx_aload_n C dX5_addJoint_19 0 rfl ?_
  refine cx_get (v := .ref (s_a 8)) (ci := 4) C iX5 dX5_addJoint_20 0 rfl rfl 7 (by decide) hw_163 rfl ?_
  refine cx_iconst (v := 0) C dX5_addJoint_23 (by decide) ?_
  obtain ⟨u3, e4, hf⟩ := cx_bd_at hf
  refine cx_csv (As := [.ref (s_a 7), .int 0, .ref (s_a 8), .int 0]) (rest := []) (ws' := (wd_Sums k s_a s_np s_total s_shares s_pairs s_crowds s_bestWay s_bestWeight u3 u1 s_theirs s_people s_heads)) hA C me_X3_add hw_697 (c_X3_add l D k (s_a 7) (s_a 8) 4 s_answer 0 4 u1 0 u3 e4) dX5_addJoint_24 ⟨Nat.le_of_ble_eq_true rfl, Nat.le_of_ble_eq_true rfl⟩ ⟨Nat.zero_le _, Nat.zero_le _⟩ rfl rfl (Nat.le_of_ble_eq_true rfl) [7, 8] rfl (by decide) rfl rfl ?_
  clear e4
  obtain rfl := Option.some.inj hf
  exact cx_vret C hA hQ hr hlk dX5_addJoint_27 rfl
theorem dX5_addCrowdsWithout_0 : decode cX5_addCrowdsWithout 0 = .ok (.iconst 0, 1) := by decide +kernel
theorem dX5_addCrowdsWithout_1 : decode cX5_addCrowdsWithout 1 = .ok (.istore_n 2, 1) := by decide +kernel
theorem dX5_addCrowdsWithout_2 : decode cX5_addCrowdsWithout 2 = .ok (.iload_n 2, 1) := by decide +kernel
theorem dX5_addCrowdsWithout_3 : decode cX5_addCrowdsWithout 3 = .ok (.bipush 32, 2) := by decide +kernel
theorem dX5_addCrowdsWithout_5 : decode cX5_addCrowdsWithout 5 = .ok (.if_icmp .ge 30, 3) := by decide +kernel
theorem dX5_addCrowdsWithout_8 : decode cX5_addCrowdsWithout 8 = .ok (.iload_n 2, 1) := by decide +kernel
theorem dX5_addCrowdsWithout_9 : decode cX5_addCrowdsWithout 9 = .ok (.iload_n 1, 1) := by decide +kernel
theorem dX5_addCrowdsWithout_10 : decode cX5_addCrowdsWithout 10 = .ok (.ishr, 1) := by decide +kernel
theorem dX5_addCrowdsWithout_11 : decode cX5_addCrowdsWithout 11 = .ok (.iconst 1, 1) := by decide +kernel
theorem dX5_addCrowdsWithout_12 : decode cX5_addCrowdsWithout 12 = .ok (.iand, 1) := by decide +kernel
theorem dX5_addCrowdsWithout_13 : decode cX5_addCrowdsWithout 13 = .ok (.ifCond .ne 16, 3) := by decide +kernel
theorem dX5_addCrowdsWithout_16 : decode cX5_addCrowdsWithout 16 = .ok (.aload_n 0, 1) := by decide +kernel
theorem dX5_addCrowdsWithout_17 : decode cX5_addCrowdsWithout 17 = .ok (.getfield 30, 3) := by decide +kernel
theorem dX5_addCrowdsWithout_20 : decode cX5_addCrowdsWithout 20 = .ok (.iconst 0, 1) := by decide +kernel
theorem dX5_addCrowdsWithout_21 : decode cX5_addCrowdsWithout 21 = .ok (.aload_n 0, 1) := by decide +kernel
theorem dX5_addCrowdsWithout_22 : decode cX5_addCrowdsWithout 22 = .ok (.getfield 20, 3) := by decide +kernel
theorem dX5_addCrowdsWithout_25 : decode cX5_addCrowdsWithout 25 = .ok (.iload_n 2, 1) := by decide +kernel
theorem dX5_addCrowdsWithout_26 : decode cX5_addCrowdsWithout 26 = .ok (.invokestatic 59, 3) := by decide +kernel
theorem dX5_addCrowdsWithout_29 : decode cX5_addCrowdsWithout 29 = .ok (.iinc 2 1, 3) := by decide +kernel
theorem dX5_addCrowdsWithout_32 : decode cX5_addCrowdsWithout 32 = .ok (.goto (-30), 3) := by decide +kernel
theorem dX5_addCrowdsWithout_35 : decode cX5_addCrowdsWithout 35 = .ok (.return_, 1) := by decide +kernel
theorem me_X5_addCrowdsWithout : cx_Mv yX5_addCrowdsWithout cX5_addCrowdsWithout 3 none 1 := ⟨⟨⟨by decide +kernel, by decide +kernel, by decide +kernel⟩, hw_8, hw_876⟩, hw_874, hw_875⟩
noncomputable def f_X5_addCrowdsWithout_J29 (x2_2 : Int32) (rc2 : (Nat → Int64) → Int32 → Option (Nat → Int64)) (a_5 : Nat → Int64) : Option (Nat → Int64) := rc2 a_5 (x2_2 + 1)
noncomputable def f_X5_addCrowdsWithout_L2 (s_crowds : Nat → Int64) (p1 : Int32) (rc2 : (Nat → Int64) → Int32 → Option (Nat → Int64)) (a_1 : Nat → Int64) (x2_2 : Int32) : Option (Nat → Int64) := if 32 ≤ x2_2 then (some a_1) else (if ((x2_2 >>> (p1 &&& 31)) &&& 1) = 0 then (Option.bind (f_X3_add 4 a_1 0 128 s_crowds x2_2) (fun u6 => f_X5_addCrowdsWithout_J29 x2_2 rc2 u6)) else (f_X5_addCrowdsWithout_J29 x2_2 rc2 a_1))
noncomputable def f_X5_addCrowdsWithout_L2w (s_crowds : Nat → Int64) (p1 : Int32) (n : Nat) : (Nat → Int64) → Int32 → Option (Nat → Int64) := Nat.rec (fun _ _ => none) (fun _ r => f_X5_addCrowdsWithout_L2 s_crowds p1 r) n
noncomputable def f_X5_addCrowdsWithout (s_crowds : Nat → Int64) (s_answer : Nat → Int64) (p1 : Int32) : Option (Nat → Int64) := f_X5_addCrowdsWithout_L2w s_crowds p1 cx_N0 s_answer 0
set_option maxHeartbeats 4000000 in
set_option maxRecDepth 100000 in
theorem c_X5_addCrowdsWithout (l : Launch) (D : va_G) (k : Nat → ClassId) (s_a : Nat → Nat) (s_np : Nat) (s_total : Nat → Int64) (s_shares : Nat → Int64) (s_pairs : Nat → Int64) (s_crowds : Nat → Int64) (s_bestWay : Nat → Int32) (s_bestWeight : Nat → Int64) (s_answer : Nat → Int64) (s_mine : Nat → Int64) (s_theirs : Nat → Int64) (s_people : Int32) (s_heads : Int32) (p1 : Int32) (y : Nat → Int64) (hf : f_X5_addCrowdsWithout s_crowds s_answer p1 = some y) : cx_M l yX5_addCrowdsWithout cX5_addCrowdsWithout 3 none 2 D k [.ref (s_a 0), .int p1] (wd_Sums k s_a s_np s_total s_shares s_pairs s_crowds s_bestWay s_bestWeight s_answer s_mine s_theirs s_people s_heads) (fun sz => cx_Qv D (wd_Sums k s_a s_np s_total s_shares s_pairs s_crowds s_bestWay s_bestWeight s_answer s_mine s_theirs s_people s_heads) (wd_Sums k s_a s_np s_total s_shares s_pairs s_crowds s_bestWay s_bestWeight y s_mine s_theirs s_people s_heads) sz) := by
  refine cx_met (own := "NamelessBox$Sums") (by decide) rfl (Nat.le_of_ble_eq_true rfl) ?_
  intro p e s m args below meth c A Q C hA hQ hr hlk
  refine cx_lv (lv' := [(0, .ref (s_a 0)), (1, .int p1)]) [0, 1] rfl ?_
  have L2 : ∀ (n2 : Nat) (a_1 : Nat → Int64) (x2_2 : Int32), f_X5_addCrowdsWithout_L2w s_crowds p1 n2 a_1 x2_2 = some y → cx_S p l e (cx_rm 2) s m args below meth c A D 3 0 0 Q 2 [(0, .ref (s_a 0)), (1, .int p1), (2, .int x2_2)] [] (wd_Sums k s_a s_np s_total s_shares s_pairs s_crowds s_bestWay s_bestWeight a_1 s_mine s_theirs s_people s_heads) := by
    intro  n2
    induction n2 with
    | zero =>
      intro a_1 x2_2 hf
      exact absurd (show (none : Option (Nat → Int64)) = some y from hf) (fun h => by cases h)
    | succ n2 ih2 =>
      intro a_1 x2_2 hf
      have hf : f_X5_addCrowdsWithout_L2 s_crowds p1 (f_X5_addCrowdsWithout_L2w s_crowds p1 n2) a_1 x2_2 = some y := hf
      have J29 : ∀ (a_5 : Nat → Int64), f_X5_addCrowdsWithout_J29 x2_2 (f_X5_addCrowdsWithout_L2w s_crowds p1 n2) a_5 = some y → cx_S p l e (cx_rm 2) s m args below meth c A D 3 0 0 Q 29 [(0, .ref (s_a 0)), (1, .int p1), (2, .int x2_2)] [] (wd_Sums k s_a s_np s_total s_shares s_pairs s_crowds s_bestWay s_bestWeight a_5 s_mine s_theirs s_people s_heads) := by
        intro a_5 hf
        unfold f_X5_addCrowdsWithout_J29 at hf
        refine cx_iinc (v := x2_2 + 1) (lv' := [(2, .int (x2_2 + 1)), (0, .ref (s_a 0)), (1, .int p1)]) C dX5_addCrowdsWithout_29 2 rfl rfl (by decide) rfl ?_
        refine cx_goto (tgt := 2) C dX5_addCrowdsWithout_32 (by decide) ?_
        refine cx_lv [1, 2, 0] rfl ?_
        exact ih2 a_5 (x2_2 + 1) hf
      unfold f_X5_addCrowdsWithout_L2 at hf
      refine cx_iload_n C dX5_addCrowdsWithout_2 2 rfl ?_
      refine cx_bipush (v := 32) C dX5_addCrowdsWithout_3 (by decide) ?_
      refine cx_icmp_ge (tgt := 35) C dX5_addCrowdsWithout_5 (by decide) (fun c3 => ?_) (fun c3 => ?_)
      · have hf := cx_if_t hf c3
        clear c3
        obtain rfl := Option.some.inj hf
        exact cx_vret C hA hQ hr hlk dX5_addCrowdsWithout_35 rfl
      · have hf := cx_if_f hf c3
        clear c3
        refine cx_iload_n C dX5_addCrowdsWithout_8 2 rfl ?_
        refine cx_iload_n C dX5_addCrowdsWithout_9 1 rfl ?_
        refine cx_ishr C dX5_addCrowdsWithout_10 ?_
        refine cx_iconst (v := 1) C dX5_addCrowdsWithout_11 (by decide) ?_
        refine cx_iand C dX5_addCrowdsWithout_12 ?_
        refine cx_if_ne (tgt := 29) C dX5_addCrowdsWithout_13 (by decide) (fun c4 => ?_) (fun c4 => ?_)
        · have hf := cx_if_f hf c4
          clear c4
          exact J29 a_1 hf
        · have hf := cx_if_t hf c4
          clear c4
          refine cx_aload_n C dX5_addCrowdsWithout_16 0 rfl ?_
          refine cx_get (v := .ref (s_a 7)) (ci := 4) C iX5 dX5_addCrowdsWithout_17 0 rfl rfl 6 (by decide) hw_160 rfl ?_
          refine cx_iconst (v := 0) C dX5_addCrowdsWithout_20 (by decide) ?_
          refine cx_aload_n C dX5_addCrowdsWithout_21 0 rfl ?_
          refine cx_get (v := .ref (s_a 4)) (ci := 4) C iX5 dX5_addCrowdsWithout_22 0 rfl rfl 3 (by decide) hw_156 rfl ?_
          refine cx_iload_n C dX5_addCrowdsWithout_25 2 rfl ?_
          obtain ⟨u6, e7, hf⟩ := cx_bd_at hf
          refine cx_csv (As := [.ref (s_a 7), .int 0, .ref (s_a 4), .int x2_2]) (rest := []) (ws' := (wd_Sums k s_a s_np s_total s_shares s_pairs s_crowds s_bestWay s_bestWeight u6 s_mine s_theirs s_people s_heads)) hA C me_X3_add hw_697 (c_X3_add l D k (s_a 7) (s_a 4) 4 a_1 0 128 s_crowds x2_2 u6 e7) dX5_addCrowdsWithout_26 ⟨Nat.le_of_ble_eq_true rfl, Nat.le_of_ble_eq_true rfl⟩ ⟨Nat.zero_le _, Nat.zero_le _⟩ rfl rfl (Nat.le_of_ble_eq_true rfl) [7, 4] rfl (by decide) rfl rfl ?_
          clear e7
          exact J29 u6 hf
  unfold f_X5_addCrowdsWithout at hf
  refine cx_iconst (v := 0) C dX5_addCrowdsWithout_0 (by decide) ?_
  refine cx_istore_n (lv' := [(2, .int 0), (0, .ref (s_a 0)), (1, .int p1)]) C dX5_addCrowdsWithout_1 rfl (by decide) rfl ?_
  refine cx_lv [1, 2, 0] rfl ?_
  exact L2 cx_N0 s_answer 0 hf
theorem dX5_likeliest_0 : decode cX5_likeliest 0 = .ok (.iconst 0, 1) := by decide +kernel
theorem dX5_likeliest_1 : decode cX5_likeliest 1 = .ok (.aload_n 0, 1) := by decide +kernel
theorem dX5_likeliest_2 : decode cX5_likeliest 2 = .ok (.getfield 39, 3) := by decide +kernel
theorem dX5_likeliest_5 : decode cX5_likeliest 5 = .ok (.invokestatic 91, 3) := by decide +kernel
theorem dX5_likeliest_8 : decode cX5_likeliest 8 = .ok (.istore_n 2, 1) := by decide +kernel
theorem dX5_likeliest_9 : decode cX5_likeliest 9 = .ok (.iconst 1, 1) := by decide +kernel
theorem dX5_likeliest_10 : decode cX5_likeliest 10 = .ok (.istore_n 3, 1) := by decide +kernel
theorem dX5_likeliest_11 : decode cX5_likeliest 11 = .ok (.iload_n 3, 1) := by decide +kernel
theorem dX5_likeliest_12 : decode cX5_likeliest 12 = .ok (.aload_n 0, 1) := by decide +kernel
theorem dX5_likeliest_13 : decode cX5_likeliest 13 = .ok (.getfield 39, 3) := by decide +kernel
theorem dX5_likeliest_16 : decode cX5_likeliest 16 = .ok (.if_icmp .gt 49, 3) := by decide +kernel
theorem dX5_likeliest_19 : decode cX5_likeliest 19 = .ok (.iload_n 3, 1) := by decide +kernel
theorem dX5_likeliest_20 : decode cX5_likeliest 20 = .ok (.aload_n 0, 1) := by decide +kernel
theorem dX5_likeliest_21 : decode cX5_likeliest 21 = .ok (.getfield 39, 3) := by decide +kernel
theorem dX5_likeliest_24 : decode cX5_likeliest 24 = .ok (.invokestatic 91, 3) := by decide +kernel
theorem dX5_likeliest_27 : decode cX5_likeliest 27 = .ok (.istore 4, 2) := by decide +kernel
theorem dX5_likeliest_29 : decode cX5_likeliest 29 = .ok (.aload_n 0, 1) := by decide +kernel
theorem dX5_likeliest_30 : decode cX5_likeliest 30 = .ok (.getfield 17, 3) := by decide +kernel
theorem dX5_likeliest_33 : decode cX5_likeliest 33 = .ok (.iload_n 1, 1) := by decide +kernel
theorem dX5_likeliest_34 : decode cX5_likeliest 34 = .ok (.bipush 6, 2) := by decide +kernel
theorem dX5_likeliest_36 : decode cX5_likeliest 36 = .ok (.imul, 1) := by decide +kernel
theorem dX5_likeliest_37 : decode cX5_likeliest 37 = .ok (.iload 4, 2) := by decide +kernel
theorem dX5_likeliest_39 : decode cX5_likeliest 39 = .ok (.iadd, 1) := by decide +kernel
theorem dX5_likeliest_40 : decode cX5_likeliest 40 = .ok (.aload_n 0, 1) := by decide +kernel
theorem dX5_likeliest_41 : decode cX5_likeliest 41 = .ok (.getfield 17, 3) := by decide +kernel
theorem dX5_likeliest_44 : decode cX5_likeliest 44 = .ok (.iload_n 1, 1) := by decide +kernel
theorem dX5_likeliest_45 : decode cX5_likeliest 45 = .ok (.bipush 6, 2) := by decide +kernel
theorem dX5_likeliest_47 : decode cX5_likeliest 47 = .ok (.imul, 1) := by decide +kernel
theorem dX5_likeliest_48 : decode cX5_likeliest 48 = .ok (.iload_n 2, 1) := by decide +kernel
theorem dX5_likeliest_49 : decode cX5_likeliest 49 = .ok (.iadd, 1) := by decide +kernel
theorem dX5_likeliest_50 : decode cX5_likeliest 50 = .ok (.invokestatic 63, 3) := by decide +kernel
theorem dX5_likeliest_53 : decode cX5_likeliest 53 = .ok (.ifCond .le 6, 3) := by decide +kernel
theorem dX5_likeliest_56 : decode cX5_likeliest 56 = .ok (.iload 4, 2) := by decide +kernel
theorem dX5_likeliest_58 : decode cX5_likeliest 58 = .ok (.istore_n 2, 1) := by decide +kernel
theorem dX5_likeliest_59 : decode cX5_likeliest 59 = .ok (.iinc 3 1, 3) := by decide +kernel
theorem dX5_likeliest_62 : decode cX5_likeliest 62 = .ok (.goto (-51), 3) := by decide +kernel
theorem dX5_likeliest_65 : decode cX5_likeliest 65 = .ok (.iload_n 2, 1) := by decide +kernel
theorem dX5_likeliest_66 : decode cX5_likeliest 66 = .ok (.ireturn, 1) := by decide +kernel
theorem me_X5_likeliest : cx_Mv yX5_likeliest cX5_likeliest 5 (some .int) 1 := ⟨⟨⟨by decide +kernel, by decide +kernel, by decide +kernel⟩, hw_8, hw_811⟩, hw_809, hw_810⟩
noncomputable def f_X5_likeliest_J59 (x3_4 : Int32) (rc11 : Int32 → Int32 → Option Int32) (x2_11 : Int32) : Option Int32 := rc11 x2_11 (x3_4 + 1)
noncomputable def f_X5_likeliest_L11 (s_shares : Nat → Int64) (s_people : Int32) (p1 : Int32) (rc11 : Int32 → Int32 → Option Int32) (x2_3 : Int32) (x3_4 : Int32) : Option Int32 := if s_people < x3_4 then (some x2_3) else (Option.bind (f_X8_whoAt x3_4 s_people) (fun u6 => Option.bind (f_X3_compare_x_e0 144 s_shares ((p1 * 6) + u6) ((p1 * 6) + x2_3)) (fun u8 => if u8 ≤ 0 then (f_X5_likeliest_J59 x3_4 rc11 x2_3) else (f_X5_likeliest_J59 x3_4 rc11 u6))))
noncomputable def f_X5_likeliest_L11w (s_shares : Nat → Int64) (s_people : Int32) (p1 : Int32) (n : Nat) : Int32 → Int32 → Option Int32 := Nat.rec (fun _ _ => none) (fun _ r => f_X5_likeliest_L11 s_shares s_people p1 r) n
noncomputable def f_X5_likeliest (s_shares : Nat → Int64) (s_people : Int32) (p1 : Int32) : Option Int32 := Option.bind (f_X8_whoAt 0 s_people) (fun u1 => f_X5_likeliest_L11w s_shares s_people p1 cx_N0 u1 1)
set_option maxHeartbeats 4000000 in
set_option maxRecDepth 100000 in
theorem c_X5_likeliest (l : Launch) (D : va_G) (k : Nat → ClassId) (s_a : Nat → Nat) (s_np : Nat) (s_total : Nat → Int64) (s_shares : Nat → Int64) (s_pairs : Nat → Int64) (s_crowds : Nat → Int64) (s_bestWay : Nat → Int32) (s_bestWeight : Nat → Int64) (s_answer : Nat → Int64) (s_mine : Nat → Int64) (s_theirs : Nat → Int64) (s_people : Int32) (s_heads : Int32) (p1 : Int32) (y : Int32) (hf : f_X5_likeliest s_shares s_people p1 = some y) : cx_M l yX5_likeliest cX5_likeliest 5 (some .int) 3 D k [.ref (s_a 0), .int p1] (wd_Sums k s_a s_np s_total s_shares s_pairs s_crowds s_bestWay s_bestWeight s_answer s_mine s_theirs s_people s_heads) (fun sz => cx_Qi D y (wd_Sums k s_a s_np s_total s_shares s_pairs s_crowds s_bestWay s_bestWeight s_answer s_mine s_theirs s_people s_heads) (wd_Sums k s_a s_np s_total s_shares s_pairs s_crowds s_bestWay s_bestWeight s_answer s_mine s_theirs s_people s_heads) sz) := by
  refine cx_met (own := "NamelessBox$Sums") (by decide) rfl (Nat.le_of_ble_eq_true rfl) ?_
  intro p e s m args below meth c A Q C hA hQ hr hlk
  refine cx_lv (lv' := [(0, .ref (s_a 0)), (1, .int p1)]) [0, 1] rfl ?_
  have L11 : ∀ (n11 : Nat) (x2_3 : Int32) (x3_4 : Int32), f_X5_likeliest_L11w s_shares s_people p1 n11 x2_3 x3_4 = some y → cx_S p l e (cx_rm 3) s m args below meth c A D 5 0 0 Q 11 [(0, .ref (s_a 0)), (1, .int p1), (2, .int x2_3), (3, .int x3_4)] [] (wd_Sums k s_a s_np s_total s_shares s_pairs s_crowds s_bestWay s_bestWeight s_answer s_mine s_theirs s_people s_heads) := by
    intro  n11
    induction n11 with
    | zero =>
      intro x2_3 x3_4 hf
      exact absurd (show (none : Option Int32) = some y from hf) (fun h => by cases h)
    | succ n11 ih11 =>
      intro x2_3 x3_4 hf
      have hf : f_X5_likeliest_L11 s_shares s_people p1 (f_X5_likeliest_L11w s_shares s_people p1 n11) x2_3 x3_4 = some y := hf
      have J59 : ∀ (x2_11 : Int32), f_X5_likeliest_J59 x3_4 (f_X5_likeliest_L11w s_shares s_people p1 n11) x2_11 = some y → cx_S p l e (cx_rm 3) s m args below meth c A D 5 0 0 Q 59 [(0, .ref (s_a 0)), (1, .int p1), (2, .int x2_11), (3, .int x3_4)] [] (wd_Sums k s_a s_np s_total s_shares s_pairs s_crowds s_bestWay s_bestWeight s_answer s_mine s_theirs s_people s_heads) := by
        intro x2_11 hf
        unfold f_X5_likeliest_J59 at hf
        refine cx_iinc (v := x3_4 + 1) (lv' := [(3, .int (x3_4 + 1)), (0, .ref (s_a 0)), (1, .int p1), (2, .int x2_11)]) C dX5_likeliest_59 3 rfl rfl (by decide) rfl ?_
        refine cx_goto (tgt := 11) C dX5_likeliest_62 (by decide) ?_
        refine cx_lv [1, 2, 3, 0] rfl ?_
        exact ih11 x2_11 (x3_4 + 1) hf
      unfold f_X5_likeliest_L11 at hf
      refine cx_iload_n C dX5_likeliest_11 3 rfl ?_
      refine cx_aload_n C dX5_likeliest_12 0 rfl ?_
      refine cx_get (v := .int s_people) (ci := 4) C iX5 dX5_likeliest_13 0 rfl rfl 9 (by decide) hw_165 rfl ?_
      refine cx_icmp_gt (tgt := 65) C dX5_likeliest_16 (by decide) (fun c5 => ?_) (fun c5 => ?_)
      · have hf := cx_if_t hf c5
        clear c5
        refine cx_iload_n C dX5_likeliest_65 2 rfl ?_
        obtain rfl := Option.some.inj hf
        exact cx_iret C hA hQ hr hlk dX5_likeliest_66 rfl rfl
      · have hf := cx_if_f hf c5
        clear c5
        refine cx_iload_n C dX5_likeliest_19 3 rfl ?_
        refine cx_aload_n C dX5_likeliest_20 0 rfl ?_
        refine cx_get (v := .int s_people) (ci := 4) C iX5 dX5_likeliest_21 0 rfl rfl 9 (by decide) hw_165 rfl ?_
        obtain ⟨u6, e7, hf⟩ := cx_bd_at hf
        refine cx_Kni (As := [.int x3_4, .int s_people]) (rest := []) hA C me_X8_whoAt (fun h => h.2.2.2.2.2.1) (c_X8_whoAt l D k x3_4 s_people u6 e7) dX5_likeliest_24 ⟨Nat.le_of_ble_eq_true rfl, Nat.le_of_ble_eq_true rfl⟩ ⟨Nat.zero_le _, Nat.zero_le _⟩ rfl rfl (Nat.le_of_ble_eq_true rfl) [] rfl (by decide) ?_
        clear e7
        refine cx_istore (lv' := [(4, .int u6), (0, .ref (s_a 0)), (1, .int p1), (2, .int x2_3), (3, .int x3_4)]) C dX5_likeliest_27 (by decide) rfl ?_
        refine cx_aload_n C dX5_likeliest_29 1 rfl ?_
        refine cx_get (v := .ref (s_a 2)) (ci := 4) C iX5 dX5_likeliest_30 0 rfl rfl 1 (by decide) hw_152 rfl ?_
        refine cx_iload_n C dX5_likeliest_33 2 rfl ?_
        refine cx_bipush (v := 6) C dX5_likeliest_34 (by decide) ?_
        refine cx_imul C dX5_likeliest_36 ?_
        refine cx_iload C dX5_likeliest_37 0 rfl ?_
        refine cx_iadd C dX5_likeliest_39 ?_
        refine cx_aload_n C dX5_likeliest_40 1 rfl ?_
        refine cx_get (v := .ref (s_a 2)) (ci := 4) C iX5 dX5_likeliest_41 0 rfl rfl 1 (by decide) hw_152 rfl ?_
        refine cx_iload_n C dX5_likeliest_44 2 rfl ?_
        refine cx_bipush (v := 6) C dX5_likeliest_45 (by decide) ?_
        refine cx_imul C dX5_likeliest_47 ?_
        refine cx_iload_n C dX5_likeliest_48 3 rfl ?_
        refine cx_iadd C dX5_likeliest_49 ?_
        obtain ⟨u8, e9, hf⟩ := cx_bd_at hf
        refine cx_Ksi (As := [.ref (s_a 2), .int ((p1 * 6) + u6), .ref (s_a 2), .int ((p1 * 6) + x2_3)]) (rest := []) hA C me_X3_compare hw_700 (c_X3_compare_x_e0 l D k (s_a 2) 144 s_shares ((p1 * 6) + u6) ((p1 * 6) + x2_3) u8 e9) dX5_likeliest_50 ⟨Nat.le_of_ble_eq_true rfl, Nat.le_of_ble_eq_true rfl⟩ ⟨Nat.zero_le _, Nat.zero_le _⟩ rfl rfl (Nat.le_of_ble_eq_true rfl) [2] rfl (by decide) ?_
        clear e9
        refine cx_if_le (tgt := 59) C dX5_likeliest_53 (by decide) (fun c10 => ?_) (fun c10 => ?_)
        · have hf := cx_if_t hf c10
          clear c10
          refine cx_lv [1, 2, 3, 4] rfl ?_
          exact J59 x2_3 hf
        · have hf := cx_if_f hf c10
          clear c10
          refine cx_iload C dX5_likeliest_56 0 rfl ?_
          refine cx_istore_n (lv' := [(2, .int u6), (4, .int u6), (0, .ref (s_a 0)), (1, .int p1), (3, .int x3_4)]) C dX5_likeliest_58 rfl (by decide) rfl ?_
          refine cx_lv [2, 3, 0, 4] rfl ?_
          exact J59 u6 hf
  unfold f_X5_likeliest at hf
  refine cx_iconst (v := 0) C dX5_likeliest_0 (by decide) ?_
  refine cx_aload_n C dX5_likeliest_1 0 rfl ?_
  refine cx_get (v := .int s_people) (ci := 4) C iX5 dX5_likeliest_2 0 rfl rfl 9 (by decide) hw_165 rfl ?_
  obtain ⟨u1, e2, hf⟩ := cx_bd_at hf
  refine cx_Kni (As := [.int 0, .int s_people]) (rest := []) hA C me_X8_whoAt (fun h => h.2.2.2.2.2.1) (c_X8_whoAt l D k 0 s_people u1 e2) dX5_likeliest_5 ⟨Nat.le_of_ble_eq_true rfl, Nat.le_of_ble_eq_true rfl⟩ ⟨Nat.zero_le _, Nat.zero_le _⟩ rfl rfl (Nat.le_of_ble_eq_true rfl) [] rfl (by decide) ?_
  clear e2
  refine cx_istore_n (lv' := [(2, .int u1), (0, .ref (s_a 0)), (1, .int p1)]) C dX5_likeliest_8 rfl (by decide) rfl ?_
  refine cx_iconst (v := 1) C dX5_likeliest_9 (by decide) ?_
  refine cx_istore_n (lv' := [(3, .int 1), (2, .int u1), (0, .ref (s_a 0)), (1, .int p1)]) C dX5_likeliest_10 rfl (by decide) rfl ?_
  refine cx_lv [2, 3, 1, 0] rfl ?_
  exact L11 cx_N0 u1 1 hf
theorem dX5_addLikeliest_0 : decode cX5_addLikeliest 0 = .ok (.iconst 0, 1) := by decide +kernel
theorem dX5_addLikeliest_1 : decode cX5_addLikeliest 1 = .ok (.istore_n 1, 1) := by decide +kernel
theorem dX5_addLikeliest_2 : decode cX5_addLikeliest 2 = .ok (.iload_n 1, 1) := by decide +kernel
theorem dX5_addLikeliest_3 : decode cX5_addLikeliest 3 = .ok (.aload_n 0, 1) := by decide +kernel
theorem dX5_addLikeliest_4 : decode cX5_addLikeliest 4 = .ok (.getfield 43, 3) := by decide +kernel
theorem dX5_addLikeliest_7 : decode cX5_addLikeliest 7 = .ok (.if_icmp .ge 31, 3) := by decide +kernel
theorem dX5_addLikeliest_10 : decode cX5_addLikeliest 10 = .ok (.aload_n 0, 1) := by decide +kernel
theorem dX5_addLikeliest_11 : decode cX5_addLikeliest 11 = .ok (.getfield 30, 3) := by decide +kernel
theorem dX5_addLikeliest_14 : decode cX5_addLikeliest 14 = .ok (.iconst 0, 1) := by decide +kernel
theorem dX5_addLikeliest_15 : decode cX5_addLikeliest 15 = .ok (.aload_n 0, 1) := by decide +kernel
theorem dX5_addLikeliest_16 : decode cX5_addLikeliest 16 = .ok (.getfield 17, 3) := by decide +kernel
theorem dX5_addLikeliest_19 : decode cX5_addLikeliest 19 = .ok (.iload_n 1, 1) := by decide +kernel
theorem dX5_addLikeliest_20 : decode cX5_addLikeliest 20 = .ok (.bipush 6, 2) := by decide +kernel
theorem dX5_addLikeliest_22 : decode cX5_addLikeliest 22 = .ok (.imul, 1) := by decide +kernel
theorem dX5_addLikeliest_23 : decode cX5_addLikeliest 23 = .ok (.aload_n 0, 1) := by decide +kernel
theorem dX5_addLikeliest_24 : decode cX5_addLikeliest 24 = .ok (.iload_n 1, 1) := by decide +kernel
theorem dX5_addLikeliest_25 : decode cX5_addLikeliest 25 = .ok (.invokevirtual 95, 3) := by decide +kernel
theorem dX5_addLikeliest_28 : decode cX5_addLikeliest 28 = .ok (.iadd, 1) := by decide +kernel
theorem dX5_addLikeliest_29 : decode cX5_addLikeliest 29 = .ok (.invokestatic 59, 3) := by decide +kernel
theorem dX5_addLikeliest_32 : decode cX5_addLikeliest 32 = .ok (.iinc 1 1, 3) := by decide +kernel
theorem dX5_addLikeliest_35 : decode cX5_addLikeliest 35 = .ok (.goto (-33), 3) := by decide +kernel
theorem dX5_addLikeliest_38 : decode cX5_addLikeliest 38 = .ok (.return_, 1) := by decide +kernel
theorem me_X5_addLikeliest : cx_Mv yX5_addLikeliest cX5_addLikeliest 2 none 0 := ⟨⟨⟨by decide +kernel, by decide +kernel, by decide +kernel⟩, hw_8, hw_938⟩, hw_936, hw_937⟩
noncomputable def f_X5_addLikeliest_L2 (s_shares : Nat → Int64) (s_people : Int32) (s_heads : Int32) (rc2 : (Nat → Int64) → Int32 → Option (Nat → Int64)) (a_1 : Nat → Int64) (x1_2 : Int32) : Option (Nat → Int64) := if s_heads ≤ x1_2 then (some a_1) else (Option.bind (f_X5_likeliest s_shares s_people x1_2) (fun u4 => Option.bind (f_X3_add 4 a_1 0 144 s_shares ((x1_2 * 6) + u4)) (fun u6 => rc2 u6 (x1_2 + 1))))
noncomputable def f_X5_addLikeliest_L2w (s_shares : Nat → Int64) (s_people : Int32) (s_heads : Int32) (n : Nat) : (Nat → Int64) → Int32 → Option (Nat → Int64) := Nat.rec (fun _ _ => none) (fun _ r => f_X5_addLikeliest_L2 s_shares s_people s_heads r) n
noncomputable def f_X5_addLikeliest (s_shares : Nat → Int64) (s_answer : Nat → Int64) (s_people : Int32) (s_heads : Int32) : Option (Nat → Int64) := f_X5_addLikeliest_L2w s_shares s_people s_heads cx_N0 s_answer 0
set_option maxHeartbeats 4000000 in
set_option maxRecDepth 100000 in
theorem c_X5_addLikeliest (l : Launch) (D : va_G) (k : Nat → ClassId) (s_a : Nat → Nat) (s_np : Nat) (s_total : Nat → Int64) (s_shares : Nat → Int64) (s_pairs : Nat → Int64) (s_crowds : Nat → Int64) (s_bestWay : Nat → Int32) (s_bestWeight : Nat → Int64) (s_answer : Nat → Int64) (s_mine : Nat → Int64) (s_theirs : Nat → Int64) (s_people : Int32) (s_heads : Int32) (y : Nat → Int64) (hf : f_X5_addLikeliest s_shares s_answer s_people s_heads = some y) : cx_M l yX5_addLikeliest cX5_addLikeliest 2 none 4 D k [.ref (s_a 0)] (wd_Sums k s_a s_np s_total s_shares s_pairs s_crowds s_bestWay s_bestWeight s_answer s_mine s_theirs s_people s_heads) (fun sz => cx_Qv D (wd_Sums k s_a s_np s_total s_shares s_pairs s_crowds s_bestWay s_bestWeight s_answer s_mine s_theirs s_people s_heads) (wd_Sums k s_a s_np s_total s_shares s_pairs s_crowds s_bestWay s_bestWeight y s_mine s_theirs s_people s_heads) sz) := by
  refine cx_met (own := "NamelessBox$Sums") (by decide) rfl (Nat.le_of_ble_eq_true rfl) ?_
  intro p e s m args below meth c A Q C hA hQ hr hlk
  refine cx_lv (lv' := [(0, .ref (s_a 0))]) [0] rfl ?_
  have L2 : ∀ (n2 : Nat) (a_1 : Nat → Int64) (x1_2 : Int32), f_X5_addLikeliest_L2w s_shares s_people s_heads n2 a_1 x1_2 = some y → cx_S p l e (cx_rm 4) s m args below meth c A D 2 0 0 Q 2 [(0, .ref (s_a 0)), (1, .int x1_2)] [] (wd_Sums k s_a s_np s_total s_shares s_pairs s_crowds s_bestWay s_bestWeight a_1 s_mine s_theirs s_people s_heads) := by
    intro  n2
    induction n2 with
    | zero =>
      intro a_1 x1_2 hf
      exact absurd (show (none : Option (Nat → Int64)) = some y from hf) (fun h => by cases h)
    | succ n2 ih2 =>
      intro a_1 x1_2 hf
      have hf : f_X5_addLikeliest_L2 s_shares s_people s_heads (f_X5_addLikeliest_L2w s_shares s_people s_heads n2) a_1 x1_2 = some y := hf
      unfold f_X5_addLikeliest_L2 at hf
      refine cx_iload_n C dX5_addLikeliest_2 1 rfl ?_
      refine cx_aload_n C dX5_addLikeliest_3 0 rfl ?_
      refine cx_get (v := .int s_heads) (ci := 4) C iX5 dX5_addLikeliest_4 0 rfl rfl 10 (by decide) hw_166 rfl ?_
      refine cx_icmp_ge (tgt := 38) C dX5_addLikeliest_7 (by decide) (fun c3 => ?_) (fun c3 => ?_)
      · have hf := cx_if_t hf c3
        clear c3
        obtain rfl := Option.some.inj hf
        exact cx_vret C hA hQ hr hlk dX5_addLikeliest_38 rfl
      · have hf := cx_if_f hf c3
        clear c3
        refine cx_aload_n C dX5_addLikeliest_10 0 rfl ?_
        refine cx_get (v := .ref (s_a 7)) (ci := 4) C iX5 dX5_addLikeliest_11 0 rfl rfl 6 (by decide) hw_160 rfl ?_
        refine cx_iconst (v := 0) C dX5_addLikeliest_14 (by decide) ?_
        refine cx_aload_n C dX5_addLikeliest_15 0 rfl ?_
        refine cx_get (v := .ref (s_a 2)) (ci := 4) C iX5 dX5_addLikeliest_16 0 rfl rfl 1 (by decide) hw_152 rfl ?_
        refine cx_iload_n C dX5_addLikeliest_19 1 rfl ?_
        refine cx_bipush (v := 6) C dX5_addLikeliest_20 (by decide) ?_
        refine cx_imul C dX5_addLikeliest_22 ?_
        refine cx_aload_n C dX5_addLikeliest_23 0 rfl ?_
        refine cx_iload_n C dX5_addLikeliest_24 1 rfl ?_
        obtain ⟨u4, e5, hf⟩ := cx_bd_at hf
        refine cx_Fvi (q := (RX5, TX5, 11)) (As := [.int x1_2]) (rest := [.int (x1_2 * 6), .ref (s_a 2), .int 0, .ref (s_a 7)]) (w1 := (wd_Sums k s_a s_np s_total s_shares s_pairs s_crowds s_bestWay s_bestWeight a_1 s_mine s_theirs s_people s_heads)) hA C me_X5_likeliest hw_833 (c_X5_likeliest l D k s_a s_np s_total s_shares s_pairs s_crowds s_bestWay s_bestWeight a_1 s_mine s_theirs s_people s_heads x1_2 u4 e5) dX5_addLikeliest_25 ⟨Nat.le_of_ble_eq_true rfl, Nat.le_of_ble_eq_true rfl⟩ ⟨Nat.zero_le _, Nat.zero_le _⟩ rfl rfl (Nat.le_of_ble_eq_true rfl) rfl rfl rfl ?_
        clear e5
        refine cx_iadd C dX5_addLikeliest_28 ?_
        obtain ⟨u6, e7, hf⟩ := cx_bd_at hf
        refine cx_csv (As := [.ref (s_a 7), .int 0, .ref (s_a 2), .int ((x1_2 * 6) + u4)]) (rest := []) (ws' := (wd_Sums k s_a s_np s_total s_shares s_pairs s_crowds s_bestWay s_bestWeight u6 s_mine s_theirs s_people s_heads)) hA C me_X3_add hw_697 (c_X3_add l D k (s_a 7) (s_a 2) 4 a_1 0 144 s_shares ((x1_2 * 6) + u4) u6 e7) dX5_addLikeliest_29 ⟨Nat.le_of_ble_eq_true rfl, Nat.le_of_ble_eq_true rfl⟩ ⟨Nat.zero_le _, Nat.zero_le _⟩ rfl rfl (Nat.le_of_ble_eq_true rfl) [7, 2] rfl (by decide) rfl rfl ?_
        clear e7
        refine cx_iinc (v := x1_2 + 1) (lv' := [(1, .int (x1_2 + 1)), (0, .ref (s_a 0))]) C dX5_addLikeliest_32 1 rfl rfl (by decide) rfl ?_
        refine cx_goto (tgt := 2) C dX5_addLikeliest_35 (by decide) ?_
        refine cx_lv [1, 0] rfl ?_
        exact ih2 u6 (x1_2 + 1) hf
  unfold f_X5_addLikeliest at hf
  refine cx_iconst (v := 0) C dX5_addLikeliest_0 (by decide) ?_
  refine cx_istore_n (lv' := [(1, .int 0), (0, .ref (s_a 0))]) C dX5_addLikeliest_1 rfl (by decide) rfl ?_
  refine cx_lv [1, 0] rfl ?_
  exact L2 cx_N0 s_answer 0 hf
theorem dX5_isSure_0 : decode cX5_isSure 0 = .ok (.aload_n 0, 1) := by decide +kernel
theorem dX5_isSure_1 : decode cX5_isSure 1 = .ok (.getfield 33, 3) := by decide +kernel
theorem dX5_isSure_4 : decode cX5_isSure 4 = .ok (.iconst 0, 1) := by decide +kernel
theorem dX5_isSure_5 : decode cX5_isSure 5 = .ok (.aload_n 0, 1) := by decide +kernel
theorem dX5_isSure_6 : decode cX5_isSure 6 = .ok (.getfield 17, 3) := by decide +kernel
theorem dX5_isSure_9 : decode cX5_isSure 9 = .ok (.iload_n 1, 1) := by decide +kernel
theorem dX5_isSure_10 : decode cX5_isSure 10 = .ok (.bipush 6, 2) := by decide +kernel
theorem dX5_isSure_12 : decode cX5_isSure 12 = .ok (.imul, 1) := by decide +kernel
theorem dX5_isSure_13 : decode cX5_isSure 13 = .ok (.aload_n 0, 1) := by decide +kernel
theorem dX5_isSure_14 : decode cX5_isSure 14 = .ok (.iload_n 1, 1) := by decide +kernel
theorem dX5_isSure_15 : decode cX5_isSure 15 = .ok (.invokevirtual 95, 3) := by decide +kernel
theorem dX5_isSure_18 : decode cX5_isSure 18 = .ok (.iadd, 1) := by decide +kernel
theorem dX5_isSure_19 : decode cX5_isSure 19 = .ok (.ldc2_w 99, 3) := by decide +kernel
theorem dX5_isSure_22 : decode cX5_isSure 22 = .ok (.invokestatic 101, 3) := by decide +kernel
theorem dX5_isSure_25 : decode cX5_isSure 25 = .ok (.aload_n 0, 1) := by decide +kernel
theorem dX5_isSure_26 : decode cX5_isSure 26 = .ok (.getfield 36, 3) := by decide +kernel
theorem dX5_isSure_29 : decode cX5_isSure 29 = .ok (.iconst 0, 1) := by decide +kernel
theorem dX5_isSure_30 : decode cX5_isSure 30 = .ok (.aload_n 0, 1) := by decide +kernel
theorem dX5_isSure_31 : decode cX5_isSure 31 = .ok (.getfield 11, 3) := by decide +kernel
theorem dX5_isSure_34 : decode cX5_isSure 34 = .ok (.iconst 0, 1) := by decide +kernel
theorem dX5_isSure_35 : decode cX5_isSure 35 = .ok (.iload_n 2, 1) := by decide +kernel
theorem dX5_isSure_36 : decode cX5_isSure 36 = .ok (.i2l, 1) := by decide +kernel
theorem dX5_isSure_37 : decode cX5_isSure 37 = .ok (.invokestatic 101, 3) := by decide +kernel
theorem dX5_isSure_40 : decode cX5_isSure 40 = .ok (.aload_n 0, 1) := by decide +kernel
theorem dX5_isSure_41 : decode cX5_isSure 41 = .ok (.getfield 33, 3) := by decide +kernel
theorem dX5_isSure_44 : decode cX5_isSure 44 = .ok (.iconst 0, 1) := by decide +kernel
theorem dX5_isSure_45 : decode cX5_isSure 45 = .ok (.aload_n 0, 1) := by decide +kernel
theorem dX5_isSure_46 : decode cX5_isSure 46 = .ok (.getfield 36, 3) := by decide +kernel
theorem dX5_isSure_49 : decode cX5_isSure 49 = .ok (.iconst 0, 1) := by decide +kernel
theorem dX5_isSure_50 : decode cX5_isSure 50 = .ok (.invokestatic 63, 3) := by decide +kernel
theorem dX5_isSure_53 : decode cX5_isSure 53 = .ok (.ifCond .lt 7, 3) := by decide +kernel
theorem dX5_isSure_56 : decode cX5_isSure 56 = .ok (.iconst 1, 1) := by decide +kernel
theorem dX5_isSure_57 : decode cX5_isSure 57 = .ok (.goto 4, 3) := by decide +kernel
theorem dX5_isSure_60 : decode cX5_isSure 60 = .ok (.iconst 0, 1) := by decide +kernel
theorem dX5_isSure_61 : decode cX5_isSure 61 = .ok (.ireturn, 1) := by decide +kernel
theorem me_X5_isSure : cx_Mv yX5_isSure cX5_isSure 3 (some .boolean) 2 := ⟨⟨⟨by decide +kernel, by decide +kernel, by decide +kernel⟩, hw_8, hw_832⟩, hw_830, hw_831⟩
noncomputable def f_X5_isSure (s_total : Nat → Int64) (s_shares : Nat → Int64) (s_mine : Nat → Int64) (s_theirs : Nat → Int64) (s_people : Int32) (p1 : Int32) (p2 : Int32) : Option (Int32 × (Nat → Int64) × (Nat → Int64)) := Option.bind (f_X5_likeliest s_shares s_people p1) (fun u1 => Option.bind (f_X3_multiply 4 s_mine 0 144 s_shares ((p1 * 6) + u1) 100) (fun u3 => Option.bind (f_X3_multiply 4 s_theirs 0 4 s_total 0 (Int32.toInt64 p2)) (fun u5 => Option.bind (f_X3_compare 4 u3 0 4 u5 0) (fun u7 => if u7 < 0 then (some ((0, u3, u5))) else (some ((1, u3, u5)))))))
set_option maxHeartbeats 4000000 in
set_option maxRecDepth 100000 in
theorem c_X5_isSure (l : Launch) (D : va_G) (k : Nat → ClassId) (s_a : Nat → Nat) (s_np : Nat) (s_total : Nat → Int64) (s_shares : Nat → Int64) (s_pairs : Nat → Int64) (s_crowds : Nat → Int64) (s_bestWay : Nat → Int32) (s_bestWeight : Nat → Int64) (s_answer : Nat → Int64) (s_mine : Nat → Int64) (s_theirs : Nat → Int64) (s_people : Int32) (s_heads : Int32) (p1 : Int32) (p2 : Int32) (y : Int32 × (Nat → Int64) × (Nat → Int64)) (hf : f_X5_isSure s_total s_shares s_mine s_theirs s_people p1 p2 = some y) : cx_M l yX5_isSure cX5_isSure 3 (some .boolean) 4 D k [.ref (s_a 0), .int p1, .int p2] (wd_Sums k s_a s_np s_total s_shares s_pairs s_crowds s_bestWay s_bestWeight s_answer s_mine s_theirs s_people s_heads) (fun sz => cx_Qi D y.1 (wd_Sums k s_a s_np s_total s_shares s_pairs s_crowds s_bestWay s_bestWeight s_answer s_mine s_theirs s_people s_heads) (wd_Sums k s_a s_np s_total s_shares s_pairs s_crowds s_bestWay s_bestWeight s_answer y.2.1 y.2.2 s_people s_heads) sz) := by
  refine cx_met (own := "NamelessBox$Sums") (by decide) rfl (Nat.le_of_ble_eq_true rfl) ?_
  intro p e s m args below meth c A Q C hA hQ hr hlk
  refine cx_lv (lv' := [(0, .ref (s_a 0)), (1, .int p1), (2, .int p2)]) [0, 1, 2] rfl ?_
  unfold f_X5_isSure at hf
  refine cx_aload_n C dX5_isSure_0 0 rfl ?_
  refine cx_get (v := .ref (s_a 8)) (ci := 4) C iX5 dX5_isSure_1 0 rfl rfl 7 (by decide) hw_163 rfl ?_
  refine cx_iconst (v := 0) C dX5_isSure_4 (by decide) ?_
  refine cx_aload_n C dX5_isSure_5 0 rfl ?_
  refine cx_get (v := .ref (s_a 2)) (ci := 4) C iX5 dX5_isSure_6 0 rfl rfl 1 (by decide) hw_152 rfl ?_
  refine cx_iload_n C dX5_isSure_9 1 rfl ?_
  refine cx_bipush (v := 6) C dX5_isSure_10 (by decide) ?_
  refine cx_imul C dX5_isSure_12 ?_
  refine cx_aload_n C dX5_isSure_13 0 rfl ?_
  refine cx_iload_n C dX5_isSure_14 1 rfl ?_
  obtain ⟨u1, e2, hf⟩ := cx_bd_at hf
  refine cx_Fvi (q := (RX5, TX5, 11)) (As := [.int p1]) (rest := [.int (p1 * 6), .ref (s_a 2), .int 0, .ref (s_a 8)]) (w1 := (wd_Sums k s_a s_np s_total s_shares s_pairs s_crowds s_bestWay s_bestWeight s_answer s_mine s_theirs s_people s_heads)) hA C me_X5_likeliest hw_833 (c_X5_likeliest l D k s_a s_np s_total s_shares s_pairs s_crowds s_bestWay s_bestWeight s_answer s_mine s_theirs s_people s_heads p1 u1 e2) dX5_isSure_15 ⟨Nat.le_of_ble_eq_true rfl, Nat.le_of_ble_eq_true rfl⟩ ⟨Nat.zero_le _, Nat.zero_le _⟩ rfl rfl (Nat.le_of_ble_eq_true rfl) rfl rfl rfl ?_
  clear e2
  refine cx_iadd C dX5_isSure_18 ?_
  refine cx_ldc2 (v := 100) C dX5_isSure_19 hw_834 ?_
  obtain ⟨u3, e4, hf⟩ := cx_bd_at hf
  refine cx_csv (As := [.ref (s_a 8), .int 0, .ref (s_a 2), .int ((p1 * 6) + u1), .long 100]) (rest := []) (ws' := (wd_Sums k s_a s_np s_total s_shares s_pairs s_crowds s_bestWay s_bestWeight s_answer u3 s_theirs s_people s_heads)) hA C me_X3_multiply hw_835 (c_X3_multiply l D k (s_a 8) (s_a 2) 4 s_mine 0 144 s_shares ((p1 * 6) + u1) 100 u3 e4) dX5_isSure_22 ⟨Nat.le_of_ble_eq_true rfl, Nat.le_of_ble_eq_true rfl⟩ ⟨Nat.zero_le _, Nat.zero_le _⟩ rfl rfl (Nat.le_of_ble_eq_true rfl) [8, 2] rfl (by decide) rfl rfl ?_
  clear e4
  refine cx_aload_n C dX5_isSure_25 0 rfl ?_
  refine cx_get (v := .ref (s_a 9)) (ci := 4) C iX5 dX5_isSure_26 0 rfl rfl 8 (by decide) hw_164 rfl ?_
  refine cx_iconst (v := 0) C dX5_isSure_29 (by decide) ?_
  refine cx_aload_n C dX5_isSure_30 0 rfl ?_
  refine cx_get (v := .ref (s_a 1)) (ci := 4) C iX5 dX5_isSure_31 0 rfl rfl 0 (by decide) hw_149 rfl ?_
  refine cx_iconst (v := 0) C dX5_isSure_34 (by decide) ?_
  refine cx_iload_n C dX5_isSure_35 2 rfl ?_
  refine cx_i2l C dX5_isSure_36 ?_
  obtain ⟨u5, e6, hf⟩ := cx_bd_at hf
  refine cx_csv (As := [.ref (s_a 9), .int 0, .ref (s_a 1), .int 0, .long (Int32.toInt64 p2)]) (rest := []) (ws' := (wd_Sums k s_a s_np s_total s_shares s_pairs s_crowds s_bestWay s_bestWeight s_answer u3 u5 s_people s_heads)) hA C me_X3_multiply hw_835 (c_X3_multiply l D k (s_a 9) (s_a 1) 4 s_theirs 0 4 s_total 0 (Int32.toInt64 p2) u5 e6) dX5_isSure_37 ⟨Nat.le_of_ble_eq_true rfl, Nat.le_of_ble_eq_true rfl⟩ ⟨Nat.zero_le _, Nat.zero_le _⟩ rfl rfl (Nat.le_of_ble_eq_true rfl) [9, 1] rfl (by decide) rfl rfl ?_
  clear e6
  refine cx_aload_n C dX5_isSure_40 0 rfl ?_
  refine cx_get (v := .ref (s_a 8)) (ci := 4) C iX5 dX5_isSure_41 0 rfl rfl 7 (by decide) hw_163 rfl ?_
  refine cx_iconst (v := 0) C dX5_isSure_44 (by decide) ?_
  refine cx_aload_n C dX5_isSure_45 0 rfl ?_
  refine cx_get (v := .ref (s_a 9)) (ci := 4) C iX5 dX5_isSure_46 0 rfl rfl 8 (by decide) hw_164 rfl ?_
  refine cx_iconst (v := 0) C dX5_isSure_49 (by decide) ?_
  obtain ⟨u7, e8, hf⟩ := cx_bd_at hf
  refine cx_Ksi (As := [.ref (s_a 8), .int 0, .ref (s_a 9), .int 0]) (rest := []) hA C me_X3_compare hw_700 (c_X3_compare l D k (s_a 8) (s_a 9) 4 u3 0 4 u5 0 u7 e8) dX5_isSure_50 ⟨Nat.le_of_ble_eq_true rfl, Nat.le_of_ble_eq_true rfl⟩ ⟨Nat.zero_le _, Nat.zero_le _⟩ rfl rfl (Nat.le_of_ble_eq_true rfl) [8, 9] rfl (by decide) ?_
  clear e8
  refine cx_if_lt (tgt := 60) C dX5_isSure_53 (by decide) (fun c9 => ?_) (fun c9 => ?_)
  · have hf := cx_if_t hf c9
    clear c9
    refine cx_iconst (v := 0) C dX5_isSure_60 (by decide) ?_
    obtain rfl := Option.some.inj hf
    exact cx_zret C hA hQ hr hlk dX5_isSure_61 rfl rfl rfl
  · have hf := cx_if_f hf c9
    clear c9
    refine cx_iconst (v := 1) C dX5_isSure_56 (by decide) ?_
    refine cx_goto (tgt := 61) C dX5_isSure_57 (by decide) ?_
    obtain rfl := Option.some.inj hf
    exact cx_zret C hA hQ hr hlk dX5_isSure_61 rfl rfl rfl
theorem dX5_closestHead_0 : decode cX5_closestHead 0 = .ok (.iconst (-1), 1) := by decide +kernel
theorem dX5_closestHead_1 : decode cX5_closestHead 1 = .ok (.istore_n 3, 1) := by decide +kernel
theorem dX5_closestHead_2 : decode cX5_closestHead 2 = .ok (.aload_n 0, 1) := by decide +kernel
theorem dX5_closestHead_3 : decode cX5_closestHead 3 = .ok (.getfield 33, 3) := by decide +kernel
theorem dX5_closestHead_6 : decode cX5_closestHead 6 = .ok (.iconst 0, 1) := by decide +kernel
theorem dX5_closestHead_7 : decode cX5_closestHead 7 = .ok (.invokestatic 49, 3) := by decide +kernel
theorem dX5_closestHead_10 : decode cX5_closestHead 10 = .ok (.iconst 0, 1) := by decide +kernel
theorem dX5_closestHead_11 : decode cX5_closestHead 11 = .ok (.istore 4, 2) := by decide +kernel
theorem dX5_closestHead_13 : decode cX5_closestHead 13 = .ok (.iload 4, 2) := by decide +kernel
theorem dX5_closestHead_15 : decode cX5_closestHead 15 = .ok (.aload_n 0, 1) := by decide +kernel
theorem dX5_closestHead_16 : decode cX5_closestHead 16 = .ok (.getfield 43, 3) := by decide +kernel
theorem dX5_closestHead_19 : decode cX5_closestHead 19 = .ok (.if_icmp .ge 88, 3) := by decide +kernel
theorem dX5_closestHead_22 : decode cX5_closestHead 22 = .ok (.iload 4, 2) := by decide +kernel
theorem dX5_closestHead_24 : decode cX5_closestHead 24 = .ok (.bipush 6, 2) := by decide +kernel
theorem dX5_closestHead_26 : decode cX5_closestHead 26 = .ok (.imul, 1) := by decide +kernel
theorem dX5_closestHead_27 : decode cX5_closestHead 27 = .ok (.iload_n 1, 1) := by decide +kernel
theorem dX5_closestHead_28 : decode cX5_closestHead 28 = .ok (.iadd, 1) := by decide +kernel
theorem dX5_closestHead_29 : decode cX5_closestHead 29 = .ok (.istore 5, 2) := by decide +kernel
theorem dX5_closestHead_31 : decode cX5_closestHead 31 = .ok (.iload 4, 2) := by decide +kernel
theorem dX5_closestHead_33 : decode cX5_closestHead 33 = .ok (.bipush 6, 2) := by decide +kernel
theorem dX5_closestHead_35 : decode cX5_closestHead 35 = .ok (.imul, 1) := by decide +kernel
theorem dX5_closestHead_36 : decode cX5_closestHead 36 = .ok (.iload_n 2, 1) := by decide +kernel
theorem dX5_closestHead_37 : decode cX5_closestHead 37 = .ok (.iadd, 1) := by decide +kernel
theorem dX5_closestHead_38 : decode cX5_closestHead 38 = .ok (.istore 6, 2) := by decide +kernel
theorem dX5_closestHead_40 : decode cX5_closestHead 40 = .ok (.aload_n 0, 1) := by decide +kernel
theorem dX5_closestHead_41 : decode cX5_closestHead 41 = .ok (.getfield 17, 3) := by decide +kernel
theorem dX5_closestHead_44 : decode cX5_closestHead 44 = .ok (.iload 5, 2) := by decide +kernel
theorem dX5_closestHead_46 : decode cX5_closestHead 46 = .ok (.aload_n 0, 1) := by decide +kernel
theorem dX5_closestHead_47 : decode cX5_closestHead 47 = .ok (.getfield 17, 3) := by decide +kernel
theorem dX5_closestHead_50 : decode cX5_closestHead 50 = .ok (.iload 6, 2) := by decide +kernel
theorem dX5_closestHead_52 : decode cX5_closestHead 52 = .ok (.invokestatic 63, 3) := by decide +kernel
theorem dX5_closestHead_55 : decode cX5_closestHead 55 = .ok (.ifCond .ge 8, 3) := by decide +kernel
theorem dX5_closestHead_58 : decode cX5_closestHead 58 = .ok (.iload 5, 2) := by decide +kernel
theorem dX5_closestHead_60 : decode cX5_closestHead 60 = .ok (.goto 5, 3) := by decide +kernel
theorem dX5_closestHead_63 : decode cX5_closestHead 63 = .ok (.iload 6, 2) := by decide +kernel
theorem dX5_closestHead_65 : decode cX5_closestHead 65 = .ok (.istore 7, 2) := by decide +kernel
theorem dX5_closestHead_67 : decode cX5_closestHead 67 = .ok (.aload_n 0, 1) := by decide +kernel
theorem dX5_closestHead_68 : decode cX5_closestHead 68 = .ok (.getfield 17, 3) := by decide +kernel
theorem dX5_closestHead_71 : decode cX5_closestHead 71 = .ok (.iload 7, 2) := by decide +kernel
theorem dX5_closestHead_73 : decode cX5_closestHead 73 = .ok (.aload_n 0, 1) := by decide +kernel
theorem dX5_closestHead_74 : decode cX5_closestHead 74 = .ok (.getfield 33, 3) := by decide +kernel
theorem dX5_closestHead_77 : decode cX5_closestHead 77 = .ok (.iconst 0, 1) := by decide +kernel
theorem dX5_closestHead_78 : decode cX5_closestHead 78 = .ok (.invokestatic 63, 3) := by decide +kernel
theorem dX5_closestHead_81 : decode cX5_closestHead 81 = .ok (.ifCond .le 20, 3) := by decide +kernel
theorem dX5_closestHead_84 : decode cX5_closestHead 84 = .ok (.aload_n 0, 1) := by decide +kernel
theorem dX5_closestHead_85 : decode cX5_closestHead 85 = .ok (.getfield 33, 3) := by decide +kernel
theorem dX5_closestHead_88 : decode cX5_closestHead 88 = .ok (.iconst 0, 1) := by decide +kernel
theorem dX5_closestHead_89 : decode cX5_closestHead 89 = .ok (.aload_n 0, 1) := by decide +kernel
theorem dX5_closestHead_90 : decode cX5_closestHead 90 = .ok (.getfield 17, 3) := by decide +kernel
theorem dX5_closestHead_93 : decode cX5_closestHead 93 = .ok (.iload 7, 2) := by decide +kernel
theorem dX5_closestHead_95 : decode cX5_closestHead 95 = .ok (.invokestatic 67, 3) := by decide +kernel
theorem dX5_closestHead_98 : decode cX5_closestHead 98 = .ok (.iload 4, 2) := by decide +kernel
theorem dX5_closestHead_100 : decode cX5_closestHead 100 = .ok (.istore_n 3, 1) := by decide +kernel
theorem dX5_closestHead_101 : decode cX5_closestHead 101 = .ok (.iinc 4 1, 3) := by decide +kernel
theorem dX5_closestHead_104 : decode cX5_closestHead 104 = .ok (.goto (-91), 3) := by decide +kernel
theorem dX5_closestHead_107 : decode cX5_closestHead 107 = .ok (.iload_n 3, 1) := by decide +kernel
theorem dX5_closestHead_108 : decode cX5_closestHead 108 = .ok (.ireturn, 1) := by decide +kernel
theorem me_X5_closestHead : cx_Mv yX5_closestHead cX5_closestHead 8 (some .int) 2 := ⟨⟨⟨by decide +kernel, by decide +kernel, by decide +kernel⟩, hw_8, hw_930⟩, hw_928, hw_929⟩
noncomputable def f_X5_closestHead_J101 (x4_5 : Int32) (rc13 : (Nat → Int64) → Int32 → Int32 → Option (Int32 × (Nat → Int64))) (a_14 : Nat → Int64) (x3_15 : Int32) : Option (Int32 × (Nat → Int64)) := rc13 a_14 x3_15 (x4_5 + 1)
noncomputable def f_X5_closestHead_J65 (s_shares : Nat → Int64) (a_3 : Nat → Int64) (x3_4 : Int32) (x4_5 : Int32) (rc13 : (Nat → Int64) → Int32 → Int32 → Option (Int32 × (Nat → Int64))) (s0_10 : Int32) : Option (Int32 × (Nat → Int64)) := Option.bind (f_X3_compare 144 s_shares s0_10 4 a_3 0) (fun u11 => if u11 ≤ 0 then (f_X5_closestHead_J101 x4_5 rc13 a_3 x3_4) else (Option.bind (f_X3_copy 4 a_3 0 144 s_shares s0_10) (fun u16 => f_X5_closestHead_J101 x4_5 rc13 u16 x4_5)))
noncomputable def f_X5_closestHead_L13 (s_shares : Nat → Int64) (s_heads : Int32) (p1 : Int32) (p2 : Int32) (rc13 : (Nat → Int64) → Int32 → Int32 → Option (Int32 × (Nat → Int64))) (a_3 : Nat → Int64) (x3_4 : Int32) (x4_5 : Int32) : Option (Int32 × (Nat → Int64)) := if s_heads ≤ x4_5 then (some ((x3_4, a_3))) else (Option.bind (f_X3_compare_x_e0 144 s_shares ((x4_5 * 6) + p1) ((x4_5 * 6) + p2)) (fun u7 => if 0 ≤ u7 then (f_X5_closestHead_J65 s_shares a_3 x3_4 x4_5 rc13 ((x4_5 * 6) + p2)) else (f_X5_closestHead_J65 s_shares a_3 x3_4 x4_5 rc13 ((x4_5 * 6) + p1))))
noncomputable def f_X5_closestHead_L13w (s_shares : Nat → Int64) (s_heads : Int32) (p1 : Int32) (p2 : Int32) (n : Nat) : (Nat → Int64) → Int32 → Int32 → Option (Int32 × (Nat → Int64)) := Nat.rec (fun _ _ _ => none) (fun _ r => f_X5_closestHead_L13 s_shares s_heads p1 p2 r) n
noncomputable def f_X5_closestHead (s_shares : Nat → Int64) (s_mine : Nat → Int64) (s_heads : Int32) (p1 : Int32) (p2 : Int32) : Option (Int32 × (Nat → Int64)) := Option.bind (f_X3_zero 4 s_mine 0) (fun u1 => f_X5_closestHead_L13w s_shares s_heads p1 p2 cx_N0 u1 ((-1)) 0)
set_option maxHeartbeats 4000000 in
set_option maxRecDepth 100000 in
theorem c_X5_closestHead (l : Launch) (D : va_G) (k : Nat → ClassId) (s_a : Nat → Nat) (s_np : Nat) (s_total : Nat → Int64) (s_shares : Nat → Int64) (s_pairs : Nat → Int64) (s_crowds : Nat → Int64) (s_bestWay : Nat → Int32) (s_bestWeight : Nat → Int64) (s_answer : Nat → Int64) (s_mine : Nat → Int64) (s_theirs : Nat → Int64) (s_people : Int32) (s_heads : Int32) (p1 : Int32) (p2 : Int32) (y : Int32 × (Nat → Int64)) (hf : f_X5_closestHead s_shares s_mine s_heads p1 p2 = some y) : cx_M l yX5_closestHead cX5_closestHead 8 (some .int) 3 D k [.ref (s_a 0), .int p1, .int p2] (wd_Sums k s_a s_np s_total s_shares s_pairs s_crowds s_bestWay s_bestWeight s_answer s_mine s_theirs s_people s_heads) (fun sz => cx_Qi D y.1 (wd_Sums k s_a s_np s_total s_shares s_pairs s_crowds s_bestWay s_bestWeight s_answer s_mine s_theirs s_people s_heads) (wd_Sums k s_a s_np s_total s_shares s_pairs s_crowds s_bestWay s_bestWeight s_answer y.2 s_theirs s_people s_heads) sz) := by
  refine cx_met (own := "NamelessBox$Sums") (by decide) rfl (Nat.le_of_ble_eq_true rfl) ?_
  intro p e s m args below meth c A Q C hA hQ hr hlk
  refine cx_lv (lv' := [(0, .ref (s_a 0)), (1, .int p1), (2, .int p2)]) [0, 1, 2] rfl ?_
  have L13 : ∀ (n13 : Nat) (a_3 : Nat → Int64) (x3_4 : Int32) (x4_5 : Int32), f_X5_closestHead_L13w s_shares s_heads p1 p2 n13 a_3 x3_4 x4_5 = some y → cx_S p l e (cx_rm 3) s m args below meth c A D 8 0 0 Q 13 [(0, .ref (s_a 0)), (1, .int p1), (2, .int p2), (3, .int x3_4), (4, .int x4_5)] [] (wd_Sums k s_a s_np s_total s_shares s_pairs s_crowds s_bestWay s_bestWeight s_answer a_3 s_theirs s_people s_heads) := by
    intro  n13
    induction n13 with
    | zero =>
      intro a_3 x3_4 x4_5 hf
      exact absurd (show (none : Option (Int32 × (Nat → Int64))) = some y from hf) (fun h => by cases h)
    | succ n13 ih13 =>
      intro a_3 x3_4 x4_5 hf
      have hf : f_X5_closestHead_L13 s_shares s_heads p1 p2 (f_X5_closestHead_L13w s_shares s_heads p1 p2 n13) a_3 x3_4 x4_5 = some y := hf
      have J101 : ∀ (a_14 : Nat → Int64) (x3_15 : Int32), f_X5_closestHead_J101 x4_5 (f_X5_closestHead_L13w s_shares s_heads p1 p2 n13) a_14 x3_15 = some y → cx_S p l e (cx_rm 3) s m args below meth c A D 8 0 0 Q 101 [(0, .ref (s_a 0)), (1, .int p1), (2, .int p2), (3, .int x3_15), (4, .int x4_5)] [] (wd_Sums k s_a s_np s_total s_shares s_pairs s_crowds s_bestWay s_bestWeight s_answer a_14 s_theirs s_people s_heads) := by
        intro a_14 x3_15 hf
        unfold f_X5_closestHead_J101 at hf
        refine cx_iinc (v := x4_5 + 1) (lv' := [(4, .int (x4_5 + 1)), (0, .ref (s_a 0)), (1, .int p1), (2, .int p2), (3, .int x3_15)]) C dX5_closestHead_101 4 rfl rfl (by decide) rfl ?_
        refine cx_goto (tgt := 13) C dX5_closestHead_104 (by decide) ?_
        refine cx_lv [1, 2, 3, 4, 0] rfl ?_
        exact ih13 a_14 x3_15 (x4_5 + 1) hf
      have J65 : ∀ (s0_10 : Int32), f_X5_closestHead_J65 s_shares a_3 x3_4 x4_5 (f_X5_closestHead_L13w s_shares s_heads p1 p2 n13) s0_10 = some y → cx_S p l e (cx_rm 3) s m args below meth c A D 8 0 0 Q 65 [(0, .ref (s_a 0)), (1, .int p1), (2, .int p2), (3, .int x3_4), (4, .int x4_5)] [.int s0_10] (wd_Sums k s_a s_np s_total s_shares s_pairs s_crowds s_bestWay s_bestWeight s_answer a_3 s_theirs s_people s_heads) := by
        intro s0_10 hf
        unfold f_X5_closestHead_J65 at hf
        refine cx_istore (lv' := [(7, .int s0_10), (0, .ref (s_a 0)), (1, .int p1), (2, .int p2), (3, .int x3_4), (4, .int x4_5)]) C dX5_closestHead_65 (by decide) rfl ?_
        refine cx_aload_n C dX5_closestHead_67 1 rfl ?_
        refine cx_get (v := .ref (s_a 2)) (ci := 4) C iX5 dX5_closestHead_68 0 rfl rfl 1 (by decide) hw_152 rfl ?_
        refine cx_iload C dX5_closestHead_71 0 rfl ?_
        refine cx_aload_n C dX5_closestHead_73 1 rfl ?_
        refine cx_get (v := .ref (s_a 8)) (ci := 4) C iX5 dX5_closestHead_74 0 rfl rfl 7 (by decide) hw_163 rfl ?_
        refine cx_iconst (v := 0) C dX5_closestHead_77 (by decide) ?_
        obtain ⟨u11, e12, hf⟩ := cx_bd_at hf
        refine cx_Ksi (As := [.ref (s_a 2), .int s0_10, .ref (s_a 8), .int 0]) (rest := []) hA C me_X3_compare hw_700 (c_X3_compare l D k (s_a 2) (s_a 8) 144 s_shares s0_10 4 a_3 0 u11 e12) dX5_closestHead_78 ⟨Nat.le_of_ble_eq_true rfl, Nat.le_of_ble_eq_true rfl⟩ ⟨Nat.zero_le _, Nat.zero_le _⟩ rfl rfl (Nat.le_of_ble_eq_true rfl) [2, 8] rfl (by decide) ?_
        clear e12
        refine cx_if_le (tgt := 101) C dX5_closestHead_81 (by decide) (fun c13 => ?_) (fun c13 => ?_)
        · have hf := cx_if_t hf c13
          clear c13
          refine cx_lv [1, 2, 3, 4, 5] rfl ?_
          exact J101 a_3 x3_4 hf
        · have hf := cx_if_f hf c13
          clear c13
          refine cx_aload_n C dX5_closestHead_84 1 rfl ?_
          refine cx_get (v := .ref (s_a 8)) (ci := 4) C iX5 dX5_closestHead_85 0 rfl rfl 7 (by decide) hw_163 rfl ?_
          refine cx_iconst (v := 0) C dX5_closestHead_88 (by decide) ?_
          refine cx_aload_n C dX5_closestHead_89 1 rfl ?_
          refine cx_get (v := .ref (s_a 2)) (ci := 4) C iX5 dX5_closestHead_90 0 rfl rfl 1 (by decide) hw_152 rfl ?_
          refine cx_iload C dX5_closestHead_93 0 rfl ?_
          obtain ⟨u16, e17, hf⟩ := cx_bd_at hf
          refine cx_csv (As := [.ref (s_a 8), .int 0, .ref (s_a 2), .int s0_10]) (rest := []) (ws' := (wd_Sums k s_a s_np s_total s_shares s_pairs s_crowds s_bestWay s_bestWeight s_answer u16 s_theirs s_people s_heads)) hA C me_X3_copy hw_706 (c_X3_copy l D k (s_a 8) (s_a 2) 4 a_3 0 144 s_shares s0_10 u16 e17) dX5_closestHead_95 ⟨Nat.le_of_ble_eq_true rfl, Nat.le_of_ble_eq_true rfl⟩ ⟨Nat.zero_le _, Nat.zero_le _⟩ rfl rfl (Nat.le_of_ble_eq_true rfl) [8, 2] rfl (by decide) rfl rfl ?_
          clear e17
          refine cx_iload C dX5_closestHead_98 5 rfl ?_
          refine cx_istore_n (lv' := [(3, .int x4_5), (7, .int s0_10), (0, .ref (s_a 0)), (1, .int p1), (2, .int p2), (4, .int x4_5)]) C dX5_closestHead_100 rfl (by decide) rfl ?_
          refine cx_lv [2, 3, 4, 0, 5] rfl ?_
          exact J101 u16 x4_5 hf
      unfold f_X5_closestHead_L13 at hf
      refine cx_iload C dX5_closestHead_13 4 rfl ?_
      refine cx_aload_n C dX5_closestHead_15 0 rfl ?_
      refine cx_get (v := .int s_heads) (ci := 4) C iX5 dX5_closestHead_16 0 rfl rfl 10 (by decide) hw_166 rfl ?_
      refine cx_icmp_ge (tgt := 107) C dX5_closestHead_19 (by decide) (fun c6 => ?_) (fun c6 => ?_)
      · have hf := cx_if_t hf c6
        clear c6
        refine cx_iload_n C dX5_closestHead_107 3 rfl ?_
        obtain rfl := Option.some.inj hf
        exact cx_iret C hA hQ hr hlk dX5_closestHead_108 rfl rfl
      · have hf := cx_if_f hf c6
        clear c6
        refine cx_iload C dX5_closestHead_22 4 rfl ?_
        refine cx_bipush (v := 6) C dX5_closestHead_24 (by decide) ?_
        refine cx_imul C dX5_closestHead_26 ?_
        refine cx_iload_n C dX5_closestHead_27 1 rfl ?_
        refine cx_iadd C dX5_closestHead_28 ?_
        refine cx_istore (lv' := [(5, .int ((x4_5 * 6) + p1)), (0, .ref (s_a 0)), (1, .int p1), (2, .int p2), (3, .int x3_4), (4, .int x4_5)]) C dX5_closestHead_29 (by decide) rfl ?_
        refine cx_iload C dX5_closestHead_31 5 rfl ?_
        refine cx_bipush (v := 6) C dX5_closestHead_33 (by decide) ?_
        refine cx_imul C dX5_closestHead_35 ?_
        refine cx_iload_n C dX5_closestHead_36 3 rfl ?_
        refine cx_iadd C dX5_closestHead_37 ?_
        refine cx_istore (lv' := [(6, .int ((x4_5 * 6) + p2)), (5, .int ((x4_5 * 6) + p1)), (0, .ref (s_a 0)), (1, .int p1), (2, .int p2), (3, .int x3_4), (4, .int x4_5)]) C dX5_closestHead_38 (by decide) rfl ?_
        refine cx_aload_n C dX5_closestHead_40 2 rfl ?_
        refine cx_get (v := .ref (s_a 2)) (ci := 4) C iX5 dX5_closestHead_41 0 rfl rfl 1 (by decide) hw_152 rfl ?_
        refine cx_iload C dX5_closestHead_44 1 rfl ?_
        refine cx_aload_n C dX5_closestHead_46 2 rfl ?_
        refine cx_get (v := .ref (s_a 2)) (ci := 4) C iX5 dX5_closestHead_47 0 rfl rfl 1 (by decide) hw_152 rfl ?_
        refine cx_iload C dX5_closestHead_50 0 rfl ?_
        obtain ⟨u7, e8, hf⟩ := cx_bd_at hf
        refine cx_Ksi (As := [.ref (s_a 2), .int ((x4_5 * 6) + p1), .ref (s_a 2), .int ((x4_5 * 6) + p2)]) (rest := []) hA C me_X3_compare hw_700 (c_X3_compare_x_e0 l D k (s_a 2) 144 s_shares ((x4_5 * 6) + p1) ((x4_5 * 6) + p2) u7 e8) dX5_closestHead_52 ⟨Nat.le_of_ble_eq_true rfl, Nat.le_of_ble_eq_true rfl⟩ ⟨Nat.zero_le _, Nat.zero_le _⟩ rfl rfl (Nat.le_of_ble_eq_true rfl) [2] rfl (by decide) ?_
        clear e8
        refine cx_if_ge (tgt := 63) C dX5_closestHead_55 (by decide) (fun c9 => ?_) (fun c9 => ?_)
        · have hf := cx_if_t hf c9
          clear c9
          refine cx_iload C dX5_closestHead_63 0 rfl ?_
          refine cx_lv [2, 3, 4, 5, 6] rfl ?_
          exact J65 ((x4_5 * 6) + p2) hf
        · have hf := cx_if_f hf c9
          clear c9
          refine cx_iload C dX5_closestHead_58 1 rfl ?_
          refine cx_goto (tgt := 65) C dX5_closestHead_60 (by decide) ?_
          refine cx_lv [2, 3, 4, 5, 6] rfl ?_
          exact J65 ((x4_5 * 6) + p1) hf
  unfold f_X5_closestHead at hf
  refine cx_iconst (v := (-1)) C dX5_closestHead_0 (by decide) ?_
  refine cx_istore_n (lv' := [(3, .int ((-1))), (0, .ref (s_a 0)), (1, .int p1), (2, .int p2)]) C dX5_closestHead_1 rfl (by decide) rfl ?_
  refine cx_aload_n C dX5_closestHead_2 1 rfl ?_
  refine cx_get (v := .ref (s_a 8)) (ci := 4) C iX5 dX5_closestHead_3 0 rfl rfl 7 (by decide) hw_163 rfl ?_
  refine cx_iconst (v := 0) C dX5_closestHead_6 (by decide) ?_
  obtain ⟨u1, e2, hf⟩ := cx_bd_at hf
  refine cx_csv (As := [.ref (s_a 8), .int 0]) (rest := []) (ws' := (wd_Sums k s_a s_np s_total s_shares s_pairs s_crowds s_bestWay s_bestWeight s_answer u1 s_theirs s_people s_heads)) hA C me_X3_zero hw_640 (c_X3_zero l D k (s_a 8) 4 s_mine 0 u1 e2) dX5_closestHead_7 ⟨Nat.le_of_ble_eq_true rfl, Nat.le_of_ble_eq_true rfl⟩ ⟨Nat.zero_le _, Nat.zero_le _⟩ rfl rfl (Nat.le_of_ble_eq_true rfl) [8] rfl (by decide) rfl rfl ?_
  clear e2
  refine cx_iconst (v := 0) C dX5_closestHead_10 (by decide) ?_
  refine cx_istore (lv' := [(4, .int 0), (3, .int ((-1))), (0, .ref (s_a 0)), (1, .int p1), (2, .int p2)]) C dX5_closestHead_11 (by decide) rfl ?_
  refine cx_lv [2, 3, 4, 1, 0] rfl ?_
  exact L13 cx_N0 u1 ((-1)) 0 hf
