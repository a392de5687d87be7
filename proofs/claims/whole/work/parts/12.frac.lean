theorem dX2_isZero_0 : decode cX2_isZero 0 = .ok (.aload_n 0, 1) := by decide +kernel
theorem dX2_isZero_1 : decode cX2_isZero 1 = .ok (.getfield 9, 3) := by decide +kernel
theorem dX2_isZero_4 : decode cX2_isZero 4 = .ok (.iconst 0, 1) := by decide +kernel
theorem dX2_isZero_5 : decode cX2_isZero 5 = .ok (.invokestatic 24, 3) := by decide +kernel
theorem dX2_isZero_8 : decode cX2_isZero 8 = .ok (.ireturn, 1) := by decide +kernel
theorem me_X2_isZero : cx_Mv yX2_isZero cX2_isZero 1 (some .boolean) 0 := ⟨⟨⟨by decide +kernel, by decide +kernel, by decide +kernel⟩, hw_6, hw_986⟩, hw_984, hw_985⟩
noncomputable def f_X2_isZero (f_above : Nat → Int64) : Option Int32 := Option.bind (f_X3_isZero 4 f_above 0) (fun u1 => cx_gd (decide (u1 = 0 ∨ u1 = 1)) (some u1))
set_option maxHeartbeats 4000000 in
set_option maxRecDepth 100000 in
theorem c_X2_isZero (l : Launch) (D : va_G) (k : Nat → ClassId) (f_a : Nat → Nat) (f_above : Nat → Int64) (f_below : Nat → Int64) (f_one : Nat → Int64) (f_other : Nat → Int64) (y : Int32) (hf : f_X2_isZero f_above = some y) : cx_M l yX2_isZero cX2_isZero 1 (some .boolean) 2 D k [.ref (f_a 0)] (wd_Frac k f_a f_above f_below f_one f_other) (fun sz => cx_Qi D y (wd_Frac k f_a f_above f_below f_one f_other) (wd_Frac k f_a f_above f_below f_one f_other) sz) := by
  refine cx_met (own := "NamelessBox$Fraction") (by decide) rfl (Nat.le_of_ble_eq_true rfl) ?_
  intro p e s m args below meth c A Q C hA hQ hr hlk
  refine cx_lv (lv' := [(0, .ref (f_a 0))]) [0] rfl ?_
  unfold f_X2_isZero at hf
  refine cx_aload_n C dX2_isZero_0 0 rfl ?_
  refine cx_get (v := .ref (f_a 1)) (ci := 2) C iX2 dX2_isZero_1 0 rfl rfl 0 (by decide) hw_125 rfl ?_
  refine cx_iconst (v := 0) C dX2_isZero_4 (by decide) ?_
  obtain ⟨u1, e2, hf⟩ := cx_bd_at hf
  refine cx_Ksi (As := [.ref (f_a 1), .int 0]) (rest := []) hA C me_X3_isZero hw_774 (c_X3_isZero l D k (f_a 1) 4 f_above 0 u1 e2) dX2_isZero_5 ⟨Nat.le_of_ble_eq_true rfl, Nat.le_of_ble_eq_true rfl⟩ ⟨Nat.zero_le _, Nat.zero_le _⟩ rfl rfl (Nat.le_of_ble_eq_true rfl) [1] rfl (by decide) ?_
  clear e2
  obtain ⟨b3, hf⟩ := cx_gd_at hf
  obtain rfl := Option.some.inj hf
  exact cx_zret C hA hQ hr hlk dX2_isZero_8 (cx_nz (of_decide_eq_true b3)).1 rfl rfl
theorem dX2_setWhole_0 : decode cX2_setWhole 0 = .ok (.aload_n 0, 1) := by decide +kernel
theorem dX2_setWhole_1 : decode cX2_setWhole 1 = .ok (.getfield 9, 3) := by decide +kernel
theorem dX2_setWhole_4 : decode cX2_setWhole 4 = .ok (.iconst 0, 1) := by decide +kernel
theorem dX2_setWhole_5 : decode cX2_setWhole 5 = .ok (.aload_n 1, 1) := by decide +kernel
theorem dX2_setWhole_6 : decode cX2_setWhole 6 = .ok (.iload_n 2, 1) := by decide +kernel
theorem dX2_setWhole_7 : decode cX2_setWhole 7 = .ok (.invokestatic 28, 3) := by decide +kernel
theorem dX2_setWhole_10 : decode cX2_setWhole 10 = .ok (.aload_n 0, 1) := by decide +kernel
theorem dX2_setWhole_11 : decode cX2_setWhole 11 = .ok (.getfield 15, 3) := by decide +kernel
theorem dX2_setWhole_14 : decode cX2_setWhole 14 = .ok (.iconst 0, 1) := by decide +kernel
theorem dX2_setWhole_15 : decode cX2_setWhole 15 = .ok (.iconst 1, 1) := by decide +kernel
theorem dX2_setWhole_16 : decode cX2_setWhole 16 = .ok (.invokestatic 32, 3) := by decide +kernel
theorem dX2_setWhole_19 : decode cX2_setWhole 19 = .ok (.return_, 1) := by decide +kernel
theorem me_X2_setWhole : cx_Mv yX2_setWhole cX2_setWhole 3 none 2 := ⟨⟨⟨by decide +kernel, by decide +kernel, by decide +kernel⟩, hw_6, hw_824⟩, hw_822, hw_823⟩
noncomputable def f_X2_setWhole (f_above : Nat → Int64) (f_below : Nat → Int64) (e1_n : Nat) (e1_x : Nat → Int64) (p2 : Int32) : Option ((Nat → Int64) × (Nat → Int64)) := Option.bind (f_X3_copy 4 f_above 0 e1_n e1_x p2) (fun u1 => Option.bind (f_X3_set 4 f_below 0 1) (fun u3 => some ((u1, u3))))
set_option maxHeartbeats 4000000 in
set_option maxRecDepth 100000 in
theorem c_X2_setWhole (l : Launch) (D : va_G) (k : Nat → ClassId) (f_a : Nat → Nat) (e1_a : Nat) (f_above : Nat → Int64) (f_below : Nat → Int64) (f_one : Nat → Int64) (f_other : Nat → Int64) (e1_n : Nat) (e1_x : Nat → Int64) (p2 : Int32) (y : (Nat → Int64) × (Nat → Int64)) (hf : f_X2_setWhole f_above f_below e1_n e1_x p2 = some y) : cx_M l yX2_setWhole cX2_setWhole 3 none 3 D k [.ref (f_a 0), .ref e1_a, .int p2] (wd_Frac k f_a f_above f_below f_one f_other ++ (wd_LA k e1_a e1_n e1_x)) (fun sz => cx_Qv D (wd_Frac k f_a f_above f_below f_one f_other ++ (wd_LA k e1_a e1_n e1_x)) (wd_Frac k f_a y.1 y.2 f_one f_other ++ (wd_LA k e1_a e1_n e1_x)) sz) := by
  refine cx_met (own := "NamelessBox$Fraction") (by decide) rfl (Nat.le_of_ble_eq_true rfl) ?_
  intro p e s m args below meth c A Q C hA hQ hr hlk
  refine cx_lv (lv' := [(0, .ref (f_a 0)), (1, .ref e1_a), (2, .int p2)]) [0, 1, 2] rfl ?_
  unfold f_X2_setWhole at hf
  refine cx_aload_n C dX2_setWhole_0 0 rfl ?_
  refine cx_get (v := .ref (f_a 1)) (ci := 2) C iX2 dX2_setWhole_1 0 rfl rfl 0 (by decide) hw_125 rfl ?_
  refine cx_iconst (v := 0) C dX2_setWhole_4 (by decide) ?_
  refine cx_aload_n C dX2_setWhole_5 1 rfl ?_
  refine cx_iload_n C dX2_setWhole_6 2 rfl ?_
  obtain ⟨u1, e2, hf⟩ := cx_bd_at hf
  refine cx_csv (As := [.ref (f_a 1), .int 0, .ref e1_a, .int p2]) (rest := []) (ws' := (wd_Frac k f_a u1 f_below f_one f_other ++ (wd_LA k e1_a e1_n e1_x))) hA C me_X3_copy hw_777 (c_X3_copy l D k (f_a 1) e1_a 4 f_above 0 e1_n e1_x p2 u1 e2) dX2_setWhole_7 ⟨Nat.le_of_ble_eq_true rfl, Nat.le_of_ble_eq_true rfl⟩ ⟨Nat.zero_le _, Nat.zero_le _⟩ rfl rfl (Nat.le_of_ble_eq_true rfl) [1, 5] rfl (by decide) rfl rfl ?_
  clear e2
  refine cx_aload_n C dX2_setWhole_10 0 rfl ?_
  refine cx_get (v := .ref (f_a 2)) (ci := 2) C iX2 dX2_setWhole_11 0 rfl rfl 1 (by decide) hw_127 rfl ?_
  refine cx_iconst (v := 0) C dX2_setWhole_14 (by decide) ?_
  refine cx_iconst (v := 1) C dX2_setWhole_15 (by decide) ?_
  obtain ⟨u3, e4, hf⟩ := cx_bd_at hf
  refine cx_csv (As := [.ref (f_a 2), .int 0, .int 1]) (rest := []) (ws' := (wd_Frac k f_a u1 u3 f_one f_other ++ (wd_LA k e1_a e1_n e1_x))) hA C me_X3_set hw_776 (c_X3_set l D k (f_a 2) 4 f_below 0 1 u3 e4) dX2_setWhole_16 ⟨Nat.le_of_ble_eq_true rfl, Nat.le_of_ble_eq_true rfl⟩ ⟨Nat.zero_le _, Nat.zero_le _⟩ rfl rfl (Nat.le_of_ble_eq_true rfl) [2] rfl (by decide) rfl rfl ?_
  clear e4
  obtain rfl := Option.some.inj hf
  exact cx_vret C hA hQ hr hlk dX2_setWhole_19 rfl
theorem dX2_halveBoth_0 : decode cX2_halveBoth 0 = .ok (.iconst 0, 1) := by decide +kernel
theorem dX2_halveBoth_1 : decode cX2_halveBoth 1 = .ok (.istore_n 1, 1) := by decide +kernel
theorem dX2_halveBoth_2 : decode cX2_halveBoth 2 = .ok (.iload_n 1, 1) := by decide +kernel
theorem dX2_halveBoth_3 : decode cX2_halveBoth 3 = .ok (.sipush 512, 3) := by decide +kernel
theorem dX2_halveBoth_6 : decode cX2_halveBoth 6 = .ok (.if_icmp .ge 47, 3) := by decide +kernel
theorem dX2_halveBoth_9 : decode cX2_halveBoth 9 = .ok (.aload_n 0, 1) := by decide +kernel
theorem dX2_halveBoth_10 : decode cX2_halveBoth 10 = .ok (.getfield 9, 3) := by decide +kernel
theorem dX2_halveBoth_13 : decode cX2_halveBoth 13 = .ok (.iconst 0, 1) := by decide +kernel
theorem dX2_halveBoth_14 : decode cX2_halveBoth 14 = .ok (.invokestatic 49, 3) := by decide +kernel
theorem dX2_halveBoth_17 : decode cX2_halveBoth 17 = .ok (.ifCond .eq 36, 3) := by decide +kernel
theorem dX2_halveBoth_20 : decode cX2_halveBoth 20 = .ok (.aload_n 0, 1) := by decide +kernel
theorem dX2_halveBoth_21 : decode cX2_halveBoth 21 = .ok (.getfield 15, 3) := by decide +kernel
theorem dX2_halveBoth_24 : decode cX2_halveBoth 24 = .ok (.iconst 0, 1) := by decide +kernel
theorem dX2_halveBoth_25 : decode cX2_halveBoth 25 = .ok (.invokestatic 49, 3) := by decide +kernel
theorem dX2_halveBoth_28 : decode cX2_halveBoth 28 = .ok (.ifCond .eq 25, 3) := by decide +kernel
theorem dX2_halveBoth_31 : decode cX2_halveBoth 31 = .ok (.aload_n 0, 1) := by decide +kernel
theorem dX2_halveBoth_32 : decode cX2_halveBoth 32 = .ok (.getfield 9, 3) := by decide +kernel
theorem dX2_halveBoth_35 : decode cX2_halveBoth 35 = .ok (.iconst 0, 1) := by decide +kernel
theorem dX2_halveBoth_36 : decode cX2_halveBoth 36 = .ok (.invokestatic 52, 3) := by decide +kernel
theorem dX2_halveBoth_39 : decode cX2_halveBoth 39 = .ok (.aload_n 0, 1) := by decide +kernel
theorem dX2_halveBoth_40 : decode cX2_halveBoth 40 = .ok (.getfield 15, 3) := by decide +kernel
theorem dX2_halveBoth_43 : decode cX2_halveBoth 43 = .ok (.iconst 0, 1) := by decide +kernel
theorem dX2_halveBoth_44 : decode cX2_halveBoth 44 = .ok (.invokestatic 52, 3) := by decide +kernel
theorem dX2_halveBoth_47 : decode cX2_halveBoth 47 = .ok (.iinc 1 1, 3) := by decide +kernel
theorem dX2_halveBoth_50 : decode cX2_halveBoth 50 = .ok (.goto (-48), 3) := by decide +kernel
theorem dX2_halveBoth_53 : decode cX2_halveBoth 53 = .ok (.return_, 1) := by decide +kernel
theorem me_X2_halveBoth : cx_Mv yX2_halveBoth cX2_halveBoth 2 none 0 := ⟨⟨⟨by decide +kernel, by decide +kernel, by decide +kernel⟩, hw_6, hw_781⟩, hw_780, hs_26⟩
noncomputable def f_X2_halveBoth_L2  (rc2 : (Nat → Int64) → (Nat → Int64) → Int32 → Option ((Nat → Int64) × (Nat → Int64))) (a_1 : Nat → Int64) (a_2 : Nat → Int64) (x1_3 : Int32) : Option ((Nat → Int64) × (Nat → Int64)) := if 512 ≤ x1_3 then (some ((a_1, a_2))) else (Option.bind (f_X3_isEven 4 a_1 0) (fun u5 => if u5 = 0 then (some ((a_1, a_2))) else (Option.bind (f_X3_isEven 4 a_2 0) (fun u8 => if u8 = 0 then (some ((a_1, a_2))) else (Option.bind (f_X3_halve 4 a_1 0) (fun u11 => Option.bind (f_X3_halve 4 a_2 0) (fun u13 => rc2 u11 u13 (x1_3 + 1))))))))
noncomputable def f_X2_halveBoth_L2w  (n : Nat) : (Nat → Int64) → (Nat → Int64) → Int32 → Option ((Nat → Int64) × (Nat → Int64)) := Nat.rec (fun _ _ _ => none) (fun _ r => f_X2_halveBoth_L2 r) n
noncomputable def f_X2_halveBoth (f_above : Nat → Int64) (f_below : Nat → Int64) : Option ((Nat → Int64) × (Nat → Int64)) := f_X2_halveBoth_L2w cx_N0 f_above f_below 0
set_option maxHeartbeats 4000000 in
set_option maxRecDepth 100000 in
theorem c_X2_halveBoth (l : Launch) (D : va_G) (k : Nat → ClassId) (f_a : Nat → Nat) (f_above : Nat → Int64) (f_below : Nat → Int64) (f_one : Nat → Int64) (f_other : Nat → Int64) (y : (Nat → Int64) × (Nat → Int64)) (hf : f_X2_halveBoth f_above f_below = some y) : cx_M l yX2_halveBoth cX2_halveBoth 2 none 2 D k [.ref (f_a 0)] (wd_Frac k f_a f_above f_below f_one f_other) (fun sz => cx_Qv D (wd_Frac k f_a f_above f_below f_one f_other) (wd_Frac k f_a y.1 y.2 f_one f_other) sz) := by
  refine cx_met (own := "NamelessBox$Fraction") (by decide) rfl (Nat.le_of_ble_eq_true rfl) ?_
  intro p e s m args below meth c A Q C hA hQ hr hlk
  refine cx_lv (lv' := [(0, .ref (f_a 0))]) [0] rfl ?_
  have L2 : ∀ (n2 : Nat) (a_1 : Nat → Int64) (a_2 : Nat → Int64) (x1_3 : Int32), f_X2_halveBoth_L2w n2 a_1 a_2 x1_3 = some y → cx_S p l e (cx_rm 2) s m args below meth c A D 2 0 0 Q 2 [(0, .ref (f_a 0)), (1, .int x1_3)] [] (wd_Frac k f_a a_1 a_2 f_one f_other) := by
    intro  n2
    induction n2 with
    | zero =>
      intro a_1 a_2 x1_3 hf
      exact absurd (show (none : Option ((Nat → Int64) × (Nat → Int64))) = some y from hf) (fun h => by cases h)
    | succ n2 ih2 =>
      intro a_1 a_2 x1_3 hf
      have hf : f_X2_halveBoth_L2 (f_X2_halveBoth_L2w n2) a_1 a_2 x1_3 = some y := hf
      unfold f_X2_halveBoth_L2 at hf
      refine cx_iload_n C dX2_halveBoth_2 1 rfl ?_
      refine cx_sipush (v := 512) C dX2_halveBoth_3 (by decide) ?_
      refine cx_icmp_ge (tgt := 53) C dX2_halveBoth_6 (by decide) (fun c4 => ?_) (fun c4 => ?_)
      · have hf := cx_if_t hf c4
        clear c4
        obtain rfl := Option.some.inj hf
        exact cx_vret C hA hQ hr hlk dX2_halveBoth_53 rfl
      · have hf := cx_if_f hf c4
        clear c4
        refine cx_aload_n C dX2_halveBoth_9 0 rfl ?_
        refine cx_get (v := .ref (f_a 1)) (ci := 2) C iX2 dX2_halveBoth_10 0 rfl rfl 0 (by decide) hw_125 rfl ?_
        refine cx_iconst (v := 0) C dX2_halveBoth_13 (by decide) ?_
        obtain ⟨u5, e6, hf⟩ := cx_bd_at hf
        refine cx_Ksi (As := [.ref (f_a 1), .int 0]) (rest := []) hA C me_X3_isEven hw_782 (c_X3_isEven l D k (f_a 1) 4 a_1 0 u5 e6) dX2_halveBoth_14 ⟨Nat.le_of_ble_eq_true rfl, Nat.le_of_ble_eq_true rfl⟩ ⟨Nat.zero_le _, Nat.zero_le _⟩ rfl rfl (Nat.le_of_ble_eq_true rfl) [1] rfl (by decide) ?_
        clear e6
        refine cx_if_eq (tgt := 53) C dX2_halveBoth_17 (by decide) (fun c7 => ?_) (fun c7 => ?_)
        · have hf := cx_if_t hf c7
          clear c7
          obtain rfl := Option.some.inj hf
          exact cx_vret C hA hQ hr hlk dX2_halveBoth_53 rfl
        · have hf := cx_if_f hf c7
          clear c7
          refine cx_aload_n C dX2_halveBoth_20 0 rfl ?_
          refine cx_get (v := .ref (f_a 2)) (ci := 2) C iX2 dX2_halveBoth_21 0 rfl rfl 1 (by decide) hw_127 rfl ?_
          refine cx_iconst (v := 0) C dX2_halveBoth_24 (by decide) ?_
          obtain ⟨u8, e9, hf⟩ := cx_bd_at hf
          refine cx_Ksi (As := [.ref (f_a 2), .int 0]) (rest := []) hA C me_X3_isEven hw_782 (c_X3_isEven l D k (f_a 2) 4 a_2 0 u8 e9) dX2_halveBoth_25 ⟨Nat.le_of_ble_eq_true rfl, Nat.le_of_ble_eq_true rfl⟩ ⟨Nat.zero_le _, Nat.zero_le _⟩ rfl rfl (Nat.le_of_ble_eq_true rfl) [2] rfl (by decide) ?_
          clear e9
          refine cx_if_eq (tgt := 53) C dX2_halveBoth_28 (by decide) (fun c10 => ?_) (fun c10 => ?_)
          · have hf := cx_if_t hf c10
            clear c10
            obtain rfl := Option.some.inj hf
            exact cx_vret C hA hQ hr hlk dX2_halveBoth_53 rfl
          · have hf := cx_if_f hf c10
            clear c10
            refine cx_aload_n C dX2_halveBoth_31 0 rfl ?_
            refine cx_get (v := .ref (f_a 1)) (ci := 2) C iX2 dX2_halveBoth_32 0 rfl rfl 0 (by decide) hw_125 rfl ?_
            refine cx_iconst (v := 0) C dX2_halveBoth_35 (by decide) ?_
            obtain ⟨u11, e12, hf⟩ := cx_bd_at hf
            refine cx_csv (As := [.ref (f_a 1), .int 0]) (rest := []) (ws' := (wd_Frac k f_a u11 a_2 f_one f_other)) hA C me_X3_halve hw_785 (c_X3_halve l D k (f_a 1) 4 a_1 0 u11 e12) dX2_halveBoth_36 ⟨Nat.le_of_ble_eq_true rfl, Nat.le_of_ble_eq_true rfl⟩ ⟨Nat.zero_le _, Nat.zero_le _⟩ rfl rfl (Nat.le_of_ble_eq_true rfl) [1] rfl (by decide) rfl rfl ?_
            clear e12
            refine cx_aload_n C dX2_halveBoth_39 0 rfl ?_
            refine cx_get (v := .ref (f_a 2)) (ci := 2) C iX2 dX2_halveBoth_40 0 rfl rfl 1 (by decide) hw_127 rfl ?_
            refine cx_iconst (v := 0) C dX2_halveBoth_43 (by decide) ?_
            obtain ⟨u13, e14, hf⟩ := cx_bd_at hf
            refine cx_csv (As := [.ref (f_a 2), .int 0]) (rest := []) (ws' := (wd_Frac k f_a u11 u13 f_one f_other)) hA C me_X3_halve hw_785 (c_X3_halve l D k (f_a 2) 4 a_2 0 u13 e14) dX2_halveBoth_44 ⟨Nat.le_of_ble_eq_true rfl, Nat.le_of_ble_eq_true rfl⟩ ⟨Nat.zero_le _, Nat.zero_le _⟩ rfl rfl (Nat.le_of_ble_eq_true rfl) [2] rfl (by decide) rfl rfl ?_
            clear e14
            refine cx_iinc (v := x1_3 + 1) (lv' := [(1, .int (x1_3 + 1)), (0, .ref (f_a 0))]) C dX2_halveBoth_47 1 rfl rfl (by decide) rfl ?_
            refine cx_goto (tgt := 2) C dX2_halveBoth_50 (by decide) ?_
            refine cx_lv [1, 0] rfl ?_
            exact ih2 u11 u13 (x1_3 + 1) hf
  unfold f_X2_halveBoth at hf
  refine cx_iconst (v := 0) C dX2_halveBoth_0 (by decide) ?_
  refine cx_istore_n (lv' := [(1, .int 0), (0, .ref (f_a 0))]) C dX2_halveBoth_1 rfl (by decide) rfl ?_
  refine cx_lv [1, 0] rfl ?_
  exact L2 cx_N0 f_above f_below 0 hf
theorem dX2_findOddDivisor_0 : decode cX2_findOddDivisor 0 = .ok (.aload_n 0, 1) := by decide +kernel
theorem dX2_findOddDivisor_1 : decode cX2_findOddDivisor 1 = .ok (.getfield 18, 3) := by decide +kernel
theorem dX2_findOddDivisor_4 : decode cX2_findOddDivisor 4 = .ok (.iconst 0, 1) := by decide +kernel
theorem dX2_findOddDivisor_5 : decode cX2_findOddDivisor 5 = .ok (.aload_n 0, 1) := by decide +kernel
theorem dX2_findOddDivisor_6 : decode cX2_findOddDivisor 6 = .ok (.getfield 9, 3) := by decide +kernel
theorem dX2_findOddDivisor_9 : decode cX2_findOddDivisor 9 = .ok (.iconst 0, 1) := by decide +kernel
theorem dX2_findOddDivisor_10 : decode cX2_findOddDivisor 10 = .ok (.invokestatic 28, 3) := by decide +kernel
theorem dX2_findOddDivisor_13 : decode cX2_findOddDivisor 13 = .ok (.aload_n 0, 1) := by decide +kernel
theorem dX2_findOddDivisor_14 : decode cX2_findOddDivisor 14 = .ok (.getfield 21, 3) := by decide +kernel
theorem dX2_findOddDivisor_17 : decode cX2_findOddDivisor 17 = .ok (.iconst 0, 1) := by decide +kernel
theorem dX2_findOddDivisor_18 : decode cX2_findOddDivisor 18 = .ok (.aload_n 0, 1) := by decide +kernel
theorem dX2_findOddDivisor_19 : decode cX2_findOddDivisor 19 = .ok (.getfield 15, 3) := by decide +kernel
theorem dX2_findOddDivisor_22 : decode cX2_findOddDivisor 22 = .ok (.iconst 0, 1) := by decide +kernel
theorem dX2_findOddDivisor_23 : decode cX2_findOddDivisor 23 = .ok (.invokestatic 28, 3) := by decide +kernel
theorem dX2_findOddDivisor_26 : decode cX2_findOddDivisor 26 = .ok (.iconst 0, 1) := by decide +kernel
theorem dX2_findOddDivisor_27 : decode cX2_findOddDivisor 27 = .ok (.istore_n 1, 1) := by decide +kernel
theorem dX2_findOddDivisor_28 : decode cX2_findOddDivisor 28 = .ok (.iload_n 1, 1) := by decide +kernel
theorem dX2_findOddDivisor_29 : decode cX2_findOddDivisor 29 = .ok (.sipush 512, 3) := by decide +kernel
theorem dX2_findOddDivisor_32 : decode cX2_findOddDivisor 32 = .ok (.if_icmp .ge 109, 3) := by decide +kernel
theorem dX2_findOddDivisor_35 : decode cX2_findOddDivisor 35 = .ok (.aload_n 0, 1) := by decide +kernel
theorem dX2_findOddDivisor_36 : decode cX2_findOddDivisor 36 = .ok (.getfield 18, 3) := by decide +kernel
theorem dX2_findOddDivisor_39 : decode cX2_findOddDivisor 39 = .ok (.iconst 0, 1) := by decide +kernel
theorem dX2_findOddDivisor_40 : decode cX2_findOddDivisor 40 = .ok (.invokestatic 24, 3) := by decide +kernel
theorem dX2_findOddDivisor_43 : decode cX2_findOddDivisor 43 = .ok (.ifCond .ne 98, 3) := by decide +kernel
theorem dX2_findOddDivisor_46 : decode cX2_findOddDivisor 46 = .ok (.aload_n 0, 1) := by decide +kernel
theorem dX2_findOddDivisor_47 : decode cX2_findOddDivisor 47 = .ok (.getfield 18, 3) := by decide +kernel
theorem dX2_findOddDivisor_50 : decode cX2_findOddDivisor 50 = .ok (.iconst 0, 1) := by decide +kernel
theorem dX2_findOddDivisor_51 : decode cX2_findOddDivisor 51 = .ok (.invokestatic 49, 3) := by decide +kernel
theorem dX2_findOddDivisor_54 : decode cX2_findOddDivisor 54 = .ok (.ifCond .eq 14, 3) := by decide +kernel
theorem dX2_findOddDivisor_57 : decode cX2_findOddDivisor 57 = .ok (.aload_n 0, 1) := by decide +kernel
theorem dX2_findOddDivisor_58 : decode cX2_findOddDivisor 58 = .ok (.getfield 18, 3) := by decide +kernel
theorem dX2_findOddDivisor_61 : decode cX2_findOddDivisor 61 = .ok (.iconst 0, 1) := by decide +kernel
theorem dX2_findOddDivisor_62 : decode cX2_findOddDivisor 62 = .ok (.invokestatic 52, 3) := by decide +kernel
theorem dX2_findOddDivisor_65 : decode cX2_findOddDivisor 65 = .ok (.goto 70, 3) := by decide +kernel
theorem dX2_findOddDivisor_68 : decode cX2_findOddDivisor 68 = .ok (.aload_n 0, 1) := by decide +kernel
theorem dX2_findOddDivisor_69 : decode cX2_findOddDivisor 69 = .ok (.getfield 21, 3) := by decide +kernel
theorem dX2_findOddDivisor_72 : decode cX2_findOddDivisor 72 = .ok (.iconst 0, 1) := by decide +kernel
theorem dX2_findOddDivisor_73 : decode cX2_findOddDivisor 73 = .ok (.invokestatic 49, 3) := by decide +kernel
theorem dX2_findOddDivisor_76 : decode cX2_findOddDivisor 76 = .ok (.ifCond .eq 14, 3) := by decide +kernel
theorem dX2_findOddDivisor_79 : decode cX2_findOddDivisor 79 = .ok (.aload_n 0, 1) := by decide +kernel
theorem dX2_findOddDivisor_80 : decode cX2_findOddDivisor 80 = .ok (.getfield 21, 3) := by decide +kernel
theorem dX2_findOddDivisor_83 : decode cX2_findOddDivisor 83 = .ok (.iconst 0, 1) := by decide +kernel
theorem dX2_findOddDivisor_84 : decode cX2_findOddDivisor 84 = .ok (.invokestatic 52, 3) := by decide +kernel
theorem dX2_findOddDivisor_87 : decode cX2_findOddDivisor 87 = .ok (.goto 48, 3) := by decide +kernel
theorem dX2_findOddDivisor_90 : decode cX2_findOddDivisor 90 = .ok (.aload_n 0, 1) := by decide +kernel
theorem dX2_findOddDivisor_91 : decode cX2_findOddDivisor 91 = .ok (.getfield 18, 3) := by decide +kernel
theorem dX2_findOddDivisor_94 : decode cX2_findOddDivisor 94 = .ok (.iconst 0, 1) := by decide +kernel
theorem dX2_findOddDivisor_95 : decode cX2_findOddDivisor 95 = .ok (.aload_n 0, 1) := by decide +kernel
theorem dX2_findOddDivisor_96 : decode cX2_findOddDivisor 96 = .ok (.getfield 21, 3) := by decide +kernel
theorem dX2_findOddDivisor_99 : decode cX2_findOddDivisor 99 = .ok (.iconst 0, 1) := by decide +kernel
theorem dX2_findOddDivisor_100 : decode cX2_findOddDivisor 100 = .ok (.invokestatic 55, 3) := by decide +kernel
theorem dX2_findOddDivisor_103 : decode cX2_findOddDivisor 103 = .ok (.ifCond .lt 19, 3) := by decide +kernel
theorem dX2_findOddDivisor_106 : decode cX2_findOddDivisor 106 = .ok (.aload_n 0, 1) := by decide +kernel
theorem dX2_findOddDivisor_107 : decode cX2_findOddDivisor 107 = .ok (.getfield 18, 3) := by decide +kernel
theorem dX2_findOddDivisor_110 : decode cX2_findOddDivisor 110 = .ok (.iconst 0, 1) := by decide +kernel
theorem dX2_findOddDivisor_111 : decode cX2_findOddDivisor 111 = .ok (.aload_n 0, 1) := by decide +kernel
theorem dX2_findOddDivisor_112 : decode cX2_findOddDivisor 112 = .ok (.getfield 21, 3) := by decide +kernel
theorem dX2_findOddDivisor_115 : decode cX2_findOddDivisor 115 = .ok (.iconst 0, 1) := by decide +kernel
theorem dX2_findOddDivisor_116 : decode cX2_findOddDivisor 116 = .ok (.invokestatic 59, 3) := by decide +kernel
theorem dX2_findOddDivisor_119 : decode cX2_findOddDivisor 119 = .ok (.goto 16, 3) := by decide +kernel
theorem dX2_findOddDivisor_122 : decode cX2_findOddDivisor 122 = .ok (.aload_n 0, 1) := by decide +kernel
theorem dX2_findOddDivisor_123 : decode cX2_findOddDivisor 123 = .ok (.getfield 21, 3) := by decide +kernel
theorem dX2_findOddDivisor_126 : decode cX2_findOddDivisor 126 = .ok (.iconst 0, 1) := by decide +kernel
theorem dX2_findOddDivisor_127 : decode cX2_findOddDivisor 127 = .ok (.aload_n 0, 1) := by decide +kernel
theorem dX2_findOddDivisor_128 : decode cX2_findOddDivisor 128 = .ok (.getfield 18, 3) := by decide +kernel
theorem dX2_findOddDivisor_131 : decode cX2_findOddDivisor 131 = .ok (.iconst 0, 1) := by decide +kernel
theorem dX2_findOddDivisor_132 : decode cX2_findOddDivisor 132 = .ok (.invokestatic 59, 3) := by decide +kernel
theorem dX2_findOddDivisor_135 : decode cX2_findOddDivisor 135 = .ok (.iinc 1 1, 3) := by decide +kernel
theorem dX2_findOddDivisor_138 : decode cX2_findOddDivisor 138 = .ok (.goto (-110), 3) := by decide +kernel
theorem dX2_findOddDivisor_141 : decode cX2_findOddDivisor 141 = .ok (.return_, 1) := by decide +kernel
theorem me_X2_findOddDivisor : cx_Mv yX2_findOddDivisor cX2_findOddDivisor 2 none 0 := ⟨⟨⟨by decide +kernel, by decide +kernel, by decide +kernel⟩, hw_6, hw_791⟩, hw_790, hs_27⟩
noncomputable def f_X2_findOddDivisor_J135 (x1_7 : Int32) (rc28 : (Nat → Int64) → (Nat → Int64) → Int32 → Option ((Nat → Int64) × (Nat → Int64))) (a_23 : Nat → Int64) (a_24 : Nat → Int64) : Option ((Nat → Int64) × (Nat → Int64)) := rc28 a_23 a_24 (x1_7 + 1)
noncomputable def f_X2_findOddDivisor_L28  (rc28 : (Nat → Int64) → (Nat → Int64) → Int32 → Option ((Nat → Int64) × (Nat → Int64))) (a_5 : Nat → Int64) (a_6 : Nat → Int64) (x1_7 : Int32) : Option ((Nat → Int64) × (Nat → Int64)) := if 512 ≤ x1_7 then (some ((a_5, a_6))) else (Option.bind (f_X3_isZero 4 a_5 0) (fun u9 => if u9 = 0 then (Option.bind (f_X3_isEven 4 a_5 0) (fun u12 => if u12 = 0 then (Option.bind (f_X3_isEven 4 a_6 0) (fun u15 => if u15 = 0 then (Option.bind (f_X3_compare 4 a_5 0 4 a_6 0) (fun u18 => if u18 < 0 then (Option.bind (f_X3_subtract 4 a_6 0 4 a_5 0) (fun u21 => f_X2_findOddDivisor_J135 x1_7 rc28 a_5 u21)) else (Option.bind (f_X3_subtract 4 a_5 0 4 a_6 0) (fun u25 => f_X2_findOddDivisor_J135 x1_7 rc28 u25 a_6)))) else (Option.bind (f_X3_halve 4 a_6 0) (fun u27 => f_X2_findOddDivisor_J135 x1_7 rc28 a_5 u27)))) else (Option.bind (f_X3_halve 4 a_5 0) (fun u29 => f_X2_findOddDivisor_J135 x1_7 rc28 u29 a_6)))) else (some ((a_5, a_6)))))
noncomputable def f_X2_findOddDivisor_L28w  (n : Nat) : (Nat → Int64) → (Nat → Int64) → Int32 → Option ((Nat → Int64) × (Nat → Int64)) := Nat.rec (fun _ _ _ => none) (fun _ r => f_X2_findOddDivisor_L28 r) n
noncomputable def f_X2_findOddDivisor (f_above : Nat → Int64) (f_below : Nat → Int64) (f_one : Nat → Int64) (f_other : Nat → Int64) : Option ((Nat → Int64) × (Nat → Int64)) := Option.bind (f_X3_copy 4 f_one 0 4 f_above 0) (fun u1 => Option.bind (f_X3_copy 4 f_other 0 4 f_below 0) (fun u3 => f_X2_findOddDivisor_L28w cx_N0 u1 u3 0))
set_option maxHeartbeats 4000000 in
set_option maxRecDepth 100000 in
theorem c_X2_findOddDivisor (l : Launch) (D : va_G) (k : Nat → ClassId) (f_a : Nat → Nat) (f_above : Nat → Int64) (f_below : Nat → Int64) (f_one : Nat → Int64) (f_other : Nat → Int64) (y : (Nat → Int64) × (Nat → Int64)) (hf : f_X2_findOddDivisor f_above f_below f_one f_other = some y) : cx_M l yX2_findOddDivisor cX2_findOddDivisor 2 none 3 D k [.ref (f_a 0)] (wd_Frac k f_a f_above f_below f_one f_other) (fun sz => cx_Qv D (wd_Frac k f_a f_above f_below f_one f_other) (wd_Frac k f_a f_above f_below y.1 y.2) sz) := by
  refine cx_met (own := "NamelessBox$Fraction") (by decide) rfl (Nat.le_of_ble_eq_true rfl) ?_
  intro p e s m args below meth c A Q C hA hQ hr hlk
  refine cx_lv (lv' := [(0, .ref (f_a 0))]) [0] rfl ?_
  have L28 : ∀ (n28 : Nat) (a_5 : Nat → Int64) (a_6 : Nat → Int64) (x1_7 : Int32), f_X2_findOddDivisor_L28w n28 a_5 a_6 x1_7 = some y → cx_S p l e (cx_rm 3) s m args below meth c A D 2 0 0 Q 28 [(0, .ref (f_a 0)), (1, .int x1_7)] [] (wd_Frac k f_a f_above f_below a_5 a_6) := by
    intro  n28
    induction n28 with
    | zero =>
      intro a_5 a_6 x1_7 hf
      exact absurd (show (none : Option ((Nat → Int64) × (Nat → Int64))) = some y from hf) (fun h => by cases h)
    | succ n28 ih28 =>
      intro a_5 a_6 x1_7 hf
      have hf : f_X2_findOddDivisor_L28 (f_X2_findOddDivisor_L28w n28) a_5 a_6 x1_7 = some y := hf
      have J135 : ∀ (a_23 : Nat → Int64) (a_24 : Nat → Int64), f_X2_findOddDivisor_J135 x1_7 (f_X2_findOddDivisor_L28w n28) a_23 a_24 = some y → cx_S p l e (cx_rm 3) s m args below meth c A D 2 0 0 Q 135 [(0, .ref (f_a 0)), (1, .int x1_7)] [] (wd_Frac k f_a f_above f_below a_23 a_24) := by
        intro a_23 a_24 hf
        unfold f_X2_findOddDivisor_J135 at hf
        refine cx_iinc (v := x1_7 + 1) (lv' := [(1, .int (x1_7 + 1)), (0, .ref (f_a 0))]) C dX2_findOddDivisor_135 1 rfl rfl (by decide) rfl ?_
        refine cx_goto (tgt := 28) C dX2_findOddDivisor_138 (by decide) ?_
        refine cx_lv [1, 0] rfl ?_
        exact ih28 a_23 a_24 (x1_7 + 1) hf
      unfold f_X2_findOddDivisor_L28 at hf
      refine cx_iload_n C dX2_findOddDivisor_28 1 rfl ?_
      refine cx_sipush (v := 512) C dX2_findOddDivisor_29 (by decide) ?_
      refine cx_icmp_ge (tgt := 141) C dX2_findOddDivisor_32 (by decide) (fun c8 => ?_) (fun c8 => ?_)
      · have hf := cx_if_t hf c8
        clear c8
        obtain rfl := Option.some.inj hf
        exact cx_vret C hA hQ hr hlk dX2_findOddDivisor_141 rfl
      · have hf := cx_if_f hf c8
        clear c8
        refine cx_aload_n C dX2_findOddDivisor_35 0 rfl ?_
        refine cx_get (v := .ref (f_a 3)) (ci := 2) C iX2 dX2_findOddDivisor_36 0 rfl rfl 2 (by decide) hw_129 rfl ?_
        refine cx_iconst (v := 0) C dX2_findOddDivisor_39 (by decide) ?_
        obtain ⟨u9, e10, hf⟩ := cx_bd_at hf
        refine cx_Ksi (As := [.ref (f_a 3), .int 0]) (rest := []) hA C me_X3_isZero hw_774 (c_X3_isZero l D k (f_a 3) 4 a_5 0 u9 e10) dX2_findOddDivisor_40 ⟨Nat.le_of_ble_eq_true rfl, Nat.le_of_ble_eq_true rfl⟩ ⟨Nat.zero_le _, Nat.zero_le _⟩ rfl rfl (Nat.le_of_ble_eq_true rfl) [3] rfl (by decide) ?_
        clear e10
        refine cx_if_ne (tgt := 141) C dX2_findOddDivisor_43 (by decide) (fun c11 => ?_) (fun c11 => ?_)
        · have hf := cx_if_f hf c11
          clear c11
          obtain rfl := Option.some.inj hf
          exact cx_vret C hA hQ hr hlk dX2_findOddDivisor_141 rfl
        · have hf := cx_if_t hf c11
          clear c11
          refine cx_aload_n C dX2_findOddDivisor_46 0 rfl ?_
          refine cx_get (v := .ref (f_a 3)) (ci := 2) C iX2 dX2_findOddDivisor_47 0 rfl rfl 2 (by decide) hw_129 rfl ?_
          refine cx_iconst (v := 0) C dX2_findOddDivisor_50 (by decide) ?_
          obtain ⟨u12, e13, hf⟩ := cx_bd_at hf
          refine cx_Ksi (As := [.ref (f_a 3), .int 0]) (rest := []) hA C me_X3_isEven hw_782 (c_X3_isEven l D k (f_a 3) 4 a_5 0 u12 e13) dX2_findOddDivisor_51 ⟨Nat.le_of_ble_eq_true rfl, Nat.le_of_ble_eq_true rfl⟩ ⟨Nat.zero_le _, Nat.zero_le _⟩ rfl rfl (Nat.le_of_ble_eq_true rfl) [3] rfl (by decide) ?_
          clear e13
          refine cx_if_eq (tgt := 68) C dX2_findOddDivisor_54 (by decide) (fun c14 => ?_) (fun c14 => ?_)
          · have hf := cx_if_t hf c14
            clear c14
            refine cx_aload_n C dX2_findOddDivisor_68 0 rfl ?_
            refine cx_get (v := .ref (f_a 4)) (ci := 2) C iX2 dX2_findOddDivisor_69 0 rfl rfl 3 (by decide) hw_130 rfl ?_
            refine cx_iconst (v := 0) C dX2_findOddDivisor_72 (by decide) ?_
            obtain ⟨u15, e16, hf⟩ := cx_bd_at hf
            refine cx_Ksi (As := [.ref (f_a 4), .int 0]) (rest := []) hA C me_X3_isEven hw_782 (c_X3_isEven l D k (f_a 4) 4 a_6 0 u15 e16) dX2_findOddDivisor_73 ⟨Nat.le_of_ble_eq_true rfl, Nat.le_of_ble_eq_true rfl⟩ ⟨Nat.zero_le _, Nat.zero_le _⟩ rfl rfl (Nat.le_of_ble_eq_true rfl) [4] rfl (by decide) ?_
            clear e16
            refine cx_if_eq (tgt := 90) C dX2_findOddDivisor_76 (by decide) (fun c17 => ?_) (fun c17 => ?_)
            · have hf := cx_if_t hf c17
              clear c17
              refine cx_aload_n C dX2_findOddDivisor_90 0 rfl ?_
              refine cx_get (v := .ref (f_a 3)) (ci := 2) C iX2 dX2_findOddDivisor_91 0 rfl rfl 2 (by decide) hw_129 rfl ?_
              refine cx_iconst (v := 0) C dX2_findOddDivisor_94 (by decide) ?_
              refine cx_aload_n C dX2_findOddDivisor_95 0 rfl ?_
              refine cx_get (v := .ref (f_a 4)) (ci := 2) C iX2 dX2_findOddDivisor_96 0 rfl rfl 3 (by decide) hw_130 rfl ?_
              refine cx_iconst (v := 0) C dX2_findOddDivisor_99 (by decide) ?_
              obtain ⟨u18, e19, hf⟩ := cx_bd_at hf
              refine cx_Ksi (As := [.ref (f_a 3), .int 0, .ref (f_a 4), .int 0]) (rest := []) hA C me_X3_compare hw_792 (c_X3_compare l D k (f_a 3) (f_a 4) 4 a_5 0 4 a_6 0 u18 e19) dX2_findOddDivisor_100 ⟨Nat.le_of_ble_eq_true rfl, Nat.le_of_ble_eq_true rfl⟩ ⟨Nat.zero_le _, Nat.zero_le _⟩ rfl rfl (Nat.le_of_ble_eq_true rfl) [3, 4] rfl (by decide) ?_
              clear e19
              refine cx_if_lt (tgt := 122) C dX2_findOddDivisor_103 (by decide) (fun c20 => ?_) (fun c20 => ?_)
              · have hf := cx_if_t hf c20
                clear c20
                refine cx_aload_n C dX2_findOddDivisor_122 0 rfl ?_
                refine cx_get (v := .ref (f_a 4)) (ci := 2) C iX2 dX2_findOddDivisor_123 0 rfl rfl 3 (by decide) hw_130 rfl ?_
                refine cx_iconst (v := 0) C dX2_findOddDivisor_126 (by decide) ?_
                refine cx_aload_n C dX2_findOddDivisor_127 0 rfl ?_
                refine cx_get (v := .ref (f_a 3)) (ci := 2) C iX2 dX2_findOddDivisor_128 0 rfl rfl 2 (by decide) hw_129 rfl ?_
                refine cx_iconst (v := 0) C dX2_findOddDivisor_131 (by decide) ?_
                obtain ⟨u21, e22, hf⟩ := cx_bd_at hf
                refine cx_csv (As := [.ref (f_a 4), .int 0, .ref (f_a 3), .int 0]) (rest := []) (ws' := (wd_Frac k f_a f_above f_below a_5 u21)) hA C me_X3_subtract hw_793 (c_X3_subtract l D k (f_a 4) (f_a 3) 4 a_6 0 4 a_5 0 u21 e22) dX2_findOddDivisor_132 ⟨Nat.le_of_ble_eq_true rfl, Nat.le_of_ble_eq_true rfl⟩ ⟨Nat.zero_le _, Nat.zero_le _⟩ rfl rfl (Nat.le_of_ble_eq_true rfl) [4, 3] rfl (by decide) rfl rfl ?_
                clear e22
                exact J135 a_5 u21 hf
              · have hf := cx_if_f hf c20
                clear c20
                refine cx_aload_n C dX2_findOddDivisor_106 0 rfl ?_
                refine cx_get (v := .ref (f_a 3)) (ci := 2) C iX2 dX2_findOddDivisor_107 0 rfl rfl 2 (by decide) hw_129 rfl ?_
                refine cx_iconst (v := 0) C dX2_findOddDivisor_110 (by decide) ?_
                refine cx_aload_n C dX2_findOddDivisor_111 0 rfl ?_
                refine cx_get (v := .ref (f_a 4)) (ci := 2) C iX2 dX2_findOddDivisor_112 0 rfl rfl 3 (by decide) hw_130 rfl ?_
                refine cx_iconst (v := 0) C dX2_findOddDivisor_115 (by decide) ?_
                obtain ⟨u25, e26, hf⟩ := cx_bd_at hf
                refine cx_csv (As := [.ref (f_a 3), .int 0, .ref (f_a 4), .int 0]) (rest := []) (ws' := (wd_Frac k f_a f_above f_below u25 a_6)) hA C me_X3_subtract hw_793 (c_X3_subtract l D k (f_a 3) (f_a 4) 4 a_5 0 4 a_6 0 u25 e26) dX2_findOddDivisor_116 ⟨Nat.le_of_ble_eq_true rfl, Nat.le_of_ble_eq_true rfl⟩ ⟨Nat.zero_le _, Nat.zero_le _⟩ rfl rfl (Nat.le_of_ble_eq_true rfl) [3, 4] rfl (by decide) rfl rfl ?_
                clear e26
                refine cx_goto (tgt := 135) C dX2_findOddDivisor_119 (by decide) ?_
                exact J135 u25 a_6 hf
            · have hf := cx_if_f hf c17
              clear c17
              refine cx_aload_n C dX2_findOddDivisor_79 0 rfl ?_
              refine cx_get (v := .ref (f_a 4)) (ci := 2) C iX2 dX2_findOddDivisor_80 0 rfl rfl 3 (by decide) hw_130 rfl ?_
              refine cx_iconst (v := 0) C dX2_findOddDivisor_83 (by decide) ?_
              obtain ⟨u27, e28, hf⟩ := cx_bd_at hf
              refine cx_csv (As := [.ref (f_a 4), .int 0]) (rest := []) (ws' := (wd_Frac k f_a f_above f_below a_5 u27)) hA C me_X3_halve hw_785 (c_X3_halve l D k (f_a 4) 4 a_6 0 u27 e28) dX2_findOddDivisor_84 ⟨Nat.le_of_ble_eq_true rfl, Nat.le_of_ble_eq_true rfl⟩ ⟨Nat.zero_le _, Nat.zero_le _⟩ rfl rfl (Nat.le_of_ble_eq_true rfl) [4] rfl (by decide) rfl rfl ?_
              clear e28
              refine cx_goto (tgt := 135) C dX2_findOddDivisor_87 (by decide) ?_
              exact J135 a_5 u27 hf
          · have hf := cx_if_f hf c14
            clear c14
            refine cx_aload_n C dX2_findOddDivisor_57 0 rfl ?_
            refine cx_get (v := .ref (f_a 3)) (ci := 2) C iX2 dX2_findOddDivisor_58 0 rfl rfl 2 (by decide) hw_129 rfl ?_
            refine cx_iconst (v := 0) C dX2_findOddDivisor_61 (by decide) ?_
            obtain ⟨u29, e30, hf⟩ := cx_bd_at hf
            refine cx_csv (As := [.ref (f_a 3), .int 0]) (rest := []) (ws' := (wd_Frac k f_a f_above f_below u29 a_6)) hA C me_X3_halve hw_785 (c_X3_halve l D k (f_a 3) 4 a_5 0 u29 e30) dX2_findOddDivisor_62 ⟨Nat.le_of_ble_eq_true rfl, Nat.le_of_ble_eq_true rfl⟩ ⟨Nat.zero_le _, Nat.zero_le _⟩ rfl rfl (Nat.le_of_ble_eq_true rfl) [3] rfl (by decide) rfl rfl ?_
            clear e30
            refine cx_goto (tgt := 135) C dX2_findOddDivisor_65 (by decide) ?_
            exact J135 u29 a_6 hf
  unfold f_X2_findOddDivisor at hf
  refine cx_aload_n C dX2_findOddDivisor_0 0 rfl ?_
  refine cx_get (v := .ref (f_a 3)) (ci := 2) C iX2 dX2_findOddDivisor_1 0 rfl rfl 2 (by decide) hw_129 rfl ?_
  refine cx_iconst (v := 0) C dX2_findOddDivisor_4 (by decide) ?_
  refine cx_aload_n C dX2_findOddDivisor_5 0 rfl ?_
  refine cx_get (v := .ref (f_a 1)) (ci := 2) C iX2 dX2_findOddDivisor_6 0 rfl rfl 0 (by decide) hw_125 rfl ?_
  refine cx_iconst (v := 0) C dX2_findOddDivisor_9 (by decide) ?_
  obtain ⟨u1, e2, hf⟩ := cx_bd_at hf
  refine cx_csv (As := [.ref (f_a 3), .int 0, .ref (f_a 1), .int 0]) (rest := []) (ws' := (wd_Frac k f_a f_above f_below u1 f_other)) hA C me_X3_copy hw_777 (c_X3_copy l D k (f_a 3) (f_a 1) 4 f_one 0 4 f_above 0 u1 e2) dX2_findOddDivisor_10 ⟨Nat.le_of_ble_eq_true rfl, Nat.le_of_ble_eq_true rfl⟩ ⟨Nat.zero_le _, Nat.zero_le _⟩ rfl rfl (Nat.le_of_ble_eq_true rfl) [3, 1] rfl (by decide) rfl rfl ?_
  clear e2
  refine cx_aload_n C dX2_findOddDivisor_13 0 rfl ?_
  refine cx_get (v := .ref (f_a 4)) (ci := 2) C iX2 dX2_findOddDivisor_14 0 rfl rfl 3 (by decide) hw_130 rfl ?_
  refine cx_iconst (v := 0) C dX2_findOddDivisor_17 (by decide) ?_
  refine cx_aload_n C dX2_findOddDivisor_18 0 rfl ?_
  refine cx_get (v := .ref (f_a 2)) (ci := 2) C iX2 dX2_findOddDivisor_19 0 rfl rfl 1 (by decide) hw_127 rfl ?_
  refine cx_iconst (v := 0) C dX2_findOddDivisor_22 (by decide) ?_
  obtain ⟨u3, e4, hf⟩ := cx_bd_at hf
  refine cx_csv (As := [.ref (f_a 4), .int 0, .ref (f_a 2), .int 0]) (rest := []) (ws' := (wd_Frac k f_a f_above f_below u1 u3)) hA C me_X3_copy hw_777 (c_X3_copy l D k (f_a 4) (f_a 2) 4 f_other 0 4 f_below 0 u3 e4) dX2_findOddDivisor_23 ⟨Nat.le_of_ble_eq_true rfl, Nat.le_of_ble_eq_true rfl⟩ ⟨Nat.zero_le _, Nat.zero_le _⟩ rfl rfl (Nat.le_of_ble_eq_true rfl) [4, 2] rfl (by decide) rfl rfl ?_
  clear e4
  refine cx_iconst (v := 0) C dX2_findOddDivisor_26 (by decide) ?_
  refine cx_istore_n (lv' := [(1, .int 0), (0, .ref (f_a 0))]) C dX2_findOddDivisor_27 rfl (by decide) rfl ?_
  refine cx_lv [1, 0] rfl ?_
  exact L28 cx_N0 u1 u3 0 hf
theorem dX2_set_0 : decode cX2_set 0 = .ok (.aload_n 1, 1) := by decide +kernel
theorem dX2_set_1 : decode cX2_set 1 = .ok (.iload_n 2, 1) := by decide +kernel
theorem dX2_set_2 : decode cX2_set 2 = .ok (.invokestatic 24, 3) := by decide +kernel
theorem dX2_set_5 : decode cX2_set 5 = .ok (.ifCond .ne 12, 3) := by decide +kernel
theorem dX2_set_8 : decode cX2_set 8 = .ok (.aload_n 3, 1) := by decide +kernel
theorem dX2_set_9 : decode cX2_set 9 = .ok (.iload 4, 2) := by decide +kernel
theorem dX2_set_11 : decode cX2_set 11 = .ok (.invokestatic 24, 3) := by decide +kernel
theorem dX2_set_14 : decode cX2_set 14 = .ok (.ifCond .eq 21, 3) := by decide +kernel
theorem dX2_set_17 : decode cX2_set 17 = .ok (.aload_n 0, 1) := by decide +kernel
theorem dX2_set_18 : decode cX2_set 18 = .ok (.getfield 9, 3) := by decide +kernel
theorem dX2_set_21 : decode cX2_set 21 = .ok (.iconst 0, 1) := by decide +kernel
theorem dX2_set_22 : decode cX2_set 22 = .ok (.invokestatic 36, 3) := by decide +kernel
theorem dX2_set_25 : decode cX2_set 25 = .ok (.aload_n 0, 1) := by decide +kernel
theorem dX2_set_26 : decode cX2_set 26 = .ok (.getfield 15, 3) := by decide +kernel
theorem dX2_set_29 : decode cX2_set 29 = .ok (.iconst 0, 1) := by decide +kernel
theorem dX2_set_30 : decode cX2_set 30 = .ok (.iconst 1, 1) := by decide +kernel
theorem dX2_set_31 : decode cX2_set 31 = .ok (.invokestatic 32, 3) := by decide +kernel
theorem dX2_set_34 : decode cX2_set 34 = .ok (.return_, 1) := by decide +kernel
theorem dX2_set_35 : decode cX2_set 35 = .ok (.aload_n 0, 1) := by decide +kernel
theorem dX2_set_36 : decode cX2_set 36 = .ok (.getfield 9, 3) := by decide +kernel
theorem dX2_set_39 : decode cX2_set 39 = .ok (.iconst 0, 1) := by decide +kernel
theorem dX2_set_40 : decode cX2_set 40 = .ok (.aload_n 1, 1) := by decide +kernel
theorem dX2_set_41 : decode cX2_set 41 = .ok (.iload_n 2, 1) := by decide +kernel
theorem dX2_set_42 : decode cX2_set 42 = .ok (.invokestatic 28, 3) := by decide +kernel
theorem dX2_set_45 : decode cX2_set 45 = .ok (.aload_n 0, 1) := by decide +kernel
theorem dX2_set_46 : decode cX2_set 46 = .ok (.getfield 15, 3) := by decide +kernel
theorem dX2_set_49 : decode cX2_set 49 = .ok (.iconst 0, 1) := by decide +kernel
theorem dX2_set_50 : decode cX2_set 50 = .ok (.aload_n 3, 1) := by decide +kernel
theorem dX2_set_51 : decode cX2_set 51 = .ok (.iload 4, 2) := by decide +kernel
theorem dX2_set_53 : decode cX2_set 53 = .ok (.invokestatic 28, 3) := by decide +kernel
theorem dX2_set_56 : decode cX2_set 56 = .ok (.aload_n 0, 1) := by decide +kernel
theorem dX2_set_57 : decode cX2_set 57 = .ok (.invokevirtual 40, 3) := by decide +kernel
theorem dX2_set_60 : decode cX2_set 60 = .ok (.aload_n 0, 1) := by decide +kernel
theorem dX2_set_61 : decode cX2_set 61 = .ok (.invokevirtual 43, 3) := by decide +kernel
theorem dX2_set_64 : decode cX2_set 64 = .ok (.aload_n 0, 1) := by decide +kernel
theorem dX2_set_65 : decode cX2_set 65 = .ok (.getfield 9, 3) := by decide +kernel
theorem dX2_set_68 : decode cX2_set 68 = .ok (.iconst 0, 1) := by decide +kernel
theorem dX2_set_69 : decode cX2_set 69 = .ok (.aload_n 0, 1) := by decide +kernel
theorem dX2_set_70 : decode cX2_set 70 = .ok (.getfield 21, 3) := by decide +kernel
theorem dX2_set_73 : decode cX2_set 73 = .ok (.iconst 0, 1) := by decide +kernel
theorem dX2_set_74 : decode cX2_set 74 = .ok (.invokestatic 46, 3) := by decide +kernel
theorem dX2_set_77 : decode cX2_set 77 = .ok (.aload_n 0, 1) := by decide +kernel
theorem dX2_set_78 : decode cX2_set 78 = .ok (.getfield 15, 3) := by decide +kernel
theorem dX2_set_81 : decode cX2_set 81 = .ok (.iconst 0, 1) := by decide +kernel
theorem dX2_set_82 : decode cX2_set 82 = .ok (.aload_n 0, 1) := by decide +kernel
theorem dX2_set_83 : decode cX2_set 83 = .ok (.getfield 21, 3) := by decide +kernel
theorem dX2_set_86 : decode cX2_set 86 = .ok (.iconst 0, 1) := by decide +kernel
theorem dX2_set_87 : decode cX2_set 87 = .ok (.invokestatic 46, 3) := by decide +kernel
theorem dX2_set_90 : decode cX2_set 90 = .ok (.return_, 1) := by decide +kernel
theorem me_X2_set : cx_Mv yX2_set cX2_set 5 none 4 := ⟨⟨⟨by decide +kernel, by decide +kernel, by decide +kernel⟩, hw_6, hw_773⟩, hw_771, hw_772⟩
noncomputable def f_X2_set_J17 (f_above : Nat → Int64) (f_below : Nat → Int64) (f_one : Nat → Int64) (f_other : Nat → Int64) : Option ((Nat → Int64) × (Nat → Int64) × (Nat → Int64) × (Nat → Int64)) := Option.bind (f_X3_zero 4 f_above 0) (fun u4 => Option.bind (f_X3_set 4 f_below 0 1) (fun u6 => some ((u4, u6, f_one, f_other))))
noncomputable def f_X2_set (f_above : Nat → Int64) (f_below : Nat → Int64) (f_one : Nat → Int64) (f_other : Nat → Int64) (e1_n : Nat) (e1_x : Nat → Int64) (p2 : Int32) (e3_n : Nat) (e3_x : Nat → Int64) (p4 : Int32) : Option ((Nat → Int64) × (Nat → Int64) × (Nat → Int64) × (Nat → Int64)) := Option.bind (f_X3_isZero e1_n e1_x p2) (fun u1 => if u1 = 0 then (Option.bind (f_X3_isZero e3_n e3_x p4) (fun u8 => if u8 = 0 then (Option.bind (f_X3_copy 4 f_above 0 e1_n e1_x p2) (fun u11 => Option.bind (f_X3_copy 4 f_below 0 e3_n e3_x p4) (fun u13 => Option.bind (f_X2_halveBoth u11 u13) (fun u15 => Option.bind (f_X2_findOddDivisor u15.1 u15.2 f_one f_other) (fun u17 => Option.bind (f_X3_divide 4 u15.1 0 4 u17.2 0) (fun u19 => Option.bind (f_X3_divide 4 u15.2 0 4 u17.2 0) (fun u21 => some ((u19, u21, u17.1, u17.2))))))))) else (f_X2_set_J17 f_above f_below f_one f_other))) else (f_X2_set_J17 f_above f_below f_one f_other))
set_option maxHeartbeats 4000000 in
set_option maxRecDepth 100000 in
theorem c_X2_set (l : Launch) (D : va_G) (k : Nat → ClassId) (f_a : Nat → Nat) (e1_a : Nat) (e3_a : Nat) (f_above : Nat → Int64) (f_below : Nat → Int64) (f_one : Nat → Int64) (f_other : Nat → Int64) (e1_n : Nat) (e1_x : Nat → Int64) (p2 : Int32) (e3_n : Nat) (e3_x : Nat → Int64) (p4 : Int32) (y : (Nat → Int64) × (Nat → Int64) × (Nat → Int64) × (Nat → Int64)) (hf : f_X2_set f_above f_below f_one f_other e1_n e1_x p2 e3_n e3_x p4 = some y) : cx_M l yX2_set cX2_set 5 none 4 D k [.ref (f_a 0), .ref e1_a, .int p2, .ref e3_a, .int p4] (wd_Frac k f_a f_above f_below f_one f_other ++ (wd_LA k e1_a e1_n e1_x ++ (wd_LA k e3_a e3_n e3_x))) (fun sz => cx_Qv D (wd_Frac k f_a f_above f_below f_one f_other ++ (wd_LA k e1_a e1_n e1_x ++ (wd_LA k e3_a e3_n e3_x))) (wd_Frac k f_a y.1 y.2.1 y.2.2.1 y.2.2.2 ++ (wd_LA k e1_a e1_n e1_x ++ (wd_LA k e3_a e3_n e3_x))) sz) := by
  refine cx_met (own := "NamelessBox$Fraction") (by decide) rfl (Nat.le_of_ble_eq_true rfl) ?_
  intro p e s m args below meth c A Q C hA hQ hr hlk
  refine cx_lv (lv' := [(0, .ref (f_a 0)), (1, .ref e1_a), (2, .int p2), (3, .ref e3_a), (4, .int p4)]) [0, 1, 2, 3, 4] rfl ?_
  have J17 : f_X2_set_J17 f_above f_below f_one f_other = some y → cx_S p l e (cx_rm 4) s m args below meth c A D 5 0 0 Q 17 [(0, .ref (f_a 0))] [] (wd_Frac k f_a f_above f_below f_one f_other ++ (wd_LA k e1_a e1_n e1_x ++ (wd_LA k e3_a e3_n e3_x))) := by
    intro  hf
    unfold f_X2_set_J17 at hf
    refine cx_aload_n C dX2_set_17 0 rfl ?_
    refine cx_get (v := .ref (f_a 1)) (ci := 2) C iX2 dX2_set_18 0 rfl rfl 0 (by decide) hw_125 rfl ?_
    refine cx_iconst (v := 0) C dX2_set_21 (by decide) ?_
    obtain ⟨u4, e5, hf⟩ := cx_bd_at hf
    refine cx_csv (As := [.ref (f_a 1), .int 0]) (rest := []) (ws' := (wd_Frac k f_a u4 f_below f_one f_other ++ (wd_LA k e1_a e1_n e1_x ++ (wd_LA k e3_a e3_n e3_x)))) hA C me_X3_zero hw_775 (c_X3_zero l D k (f_a 1) 4 f_above 0 u4 e5) dX2_set_22 ⟨Nat.le_of_ble_eq_true rfl, Nat.le_of_ble_eq_true rfl⟩ ⟨Nat.zero_le _, Nat.zero_le _⟩ rfl rfl (Nat.le_of_ble_eq_true rfl) [1] rfl (by decide) rfl rfl ?_
    clear e5
    refine cx_aload_n C dX2_set_25 0 rfl ?_
    refine cx_get (v := .ref (f_a 2)) (ci := 2) C iX2 dX2_set_26 0 rfl rfl 1 (by decide) hw_127 rfl ?_
    refine cx_iconst (v := 0) C dX2_set_29 (by decide) ?_
    refine cx_iconst (v := 1) C dX2_set_30 (by decide) ?_
    obtain ⟨u6, e7, hf⟩ := cx_bd_at hf
    refine cx_csv (As := [.ref (f_a 2), .int 0, .int 1]) (rest := []) (ws' := (wd_Frac k f_a u4 u6 f_one f_other ++ (wd_LA k e1_a e1_n e1_x ++ (wd_LA k e3_a e3_n e3_x)))) hA C me_X3_set hw_776 (c_X3_set l D k (f_a 2) 4 f_below 0 1 u6 e7) dX2_set_31 ⟨Nat.le_of_ble_eq_true rfl, Nat.le_of_ble_eq_true rfl⟩ ⟨Nat.zero_le _, Nat.zero_le _⟩ rfl rfl (Nat.le_of_ble_eq_true rfl) [2] rfl (by decide) rfl rfl ?_
    clear e7
    obtain rfl := Option.some.inj hf
    exact cx_vret C hA hQ hr hlk dX2_set_34 rfl
  unfold f_X2_set at hf
  refine cx_aload_n C dX2_set_0 1 rfl ?_
  refine cx_iload_n C dX2_set_1 2 rfl ?_
  obtain ⟨u1, e2, hf⟩ := cx_bd_at hf
  refine cx_Ksi (As := [.ref e1_a, .int p2]) (rest := []) hA C me_X3_isZero hw_774 (c_X3_isZero l D k e1_a e1_n e1_x p2 u1 e2) dX2_set_2 ⟨Nat.le_of_ble_eq_true rfl, Nat.le_of_ble_eq_true rfl⟩ ⟨Nat.zero_le _, Nat.zero_le _⟩ rfl rfl (Nat.le_of_ble_eq_true rfl) [5] rfl (by decide) ?_
  clear e2
  refine cx_if_ne (tgt := 17) C dX2_set_5 (by decide) (fun c3 => ?_) (fun c3 => ?_)
  · have hf := cx_if_f hf c3
    clear c3
    refine cx_lv [0] rfl ?_
    exact J17 hf
  · have hf := cx_if_t hf c3
    clear c3
    refine cx_aload_n C dX2_set_8 3 rfl ?_
    refine cx_iload C dX2_set_9 4 rfl ?_
    obtain ⟨u8, e9, hf⟩ := cx_bd_at hf
    refine cx_Ksi (As := [.ref e3_a, .int p4]) (rest := []) hA C me_X3_isZero hw_774 (c_X3_isZero l D k e3_a e3_n e3_x p4 u8 e9) dX2_set_11 ⟨Nat.le_of_ble_eq_true rfl, Nat.le_of_ble_eq_true rfl⟩ ⟨Nat.zero_le _, Nat.zero_le _⟩ rfl rfl (Nat.le_of_ble_eq_true rfl) [6] rfl (by decide) ?_
    clear e9
    refine cx_if_eq (tgt := 35) C dX2_set_14 (by decide) (fun c10 => ?_) (fun c10 => ?_)
    · have hf := cx_if_t hf c10
      clear c10
      refine cx_aload_n C dX2_set_35 0 rfl ?_
      refine cx_get (v := .ref (f_a 1)) (ci := 2) C iX2 dX2_set_36 0 rfl rfl 0 (by decide) hw_125 rfl ?_
      refine cx_iconst (v := 0) C dX2_set_39 (by decide) ?_
      refine cx_aload_n C dX2_set_40 1 rfl ?_
      refine cx_iload_n C dX2_set_41 2 rfl ?_
      obtain ⟨u11, e12, hf⟩ := cx_bd_at hf
      refine cx_csv (As := [.ref (f_a 1), .int 0, .ref e1_a, .int p2]) (rest := []) (ws' := (wd_Frac k f_a u11 f_below f_one f_other ++ (wd_LA k e1_a e1_n e1_x ++ (wd_LA k e3_a e3_n e3_x)))) hA C me_X3_copy hw_777 (c_X3_copy l D k (f_a 1) e1_a 4 f_above 0 e1_n e1_x p2 u11 e12) dX2_set_42 ⟨Nat.le_of_ble_eq_true rfl, Nat.le_of_ble_eq_true rfl⟩ ⟨Nat.zero_le _, Nat.zero_le _⟩ rfl rfl (Nat.le_of_ble_eq_true rfl) [1, 5] rfl (by decide) rfl rfl ?_
      clear e12
      refine cx_aload_n C dX2_set_45 0 rfl ?_
      refine cx_get (v := .ref (f_a 2)) (ci := 2) C iX2 dX2_set_46 0 rfl rfl 1 (by decide) hw_127 rfl ?_
      refine cx_iconst (v := 0) C dX2_set_49 (by decide) ?_
      refine cx_aload_n C dX2_set_50 3 rfl ?_
      refine cx_iload C dX2_set_51 4 rfl ?_
      obtain ⟨u13, e14, hf⟩ := cx_bd_at hf
      refine cx_csv (As := [.ref (f_a 2), .int 0, .ref e3_a, .int p4]) (rest := []) (ws' := (wd_Frac k f_a u11 u13 f_one f_other ++ (wd_LA k e1_a e1_n e1_x ++ (wd_LA k e3_a e3_n e3_x)))) hA C me_X3_copy hw_777 (c_X3_copy l D k (f_a 2) e3_a 4 f_below 0 e3_n e3_x p4 u13 e14) dX2_set_53 ⟨Nat.le_of_ble_eq_true rfl, Nat.le_of_ble_eq_true rfl⟩ ⟨Nat.zero_le _, Nat.zero_le _⟩ rfl rfl (Nat.le_of_ble_eq_true rfl) [2, 6] rfl (by decide) rfl rfl ?_
      clear e14
      refine cx_aload_n C dX2_set_56 0 rfl ?_
      obtain ⟨u15, e16, hf⟩ := cx_bd_at hf
      refine cx_cvv (q := (RX2, TX2, 4)) (As := []) (rest := []) (ws' := (wd_Frac k f_a u15.1 u15.2 f_one f_other ++ (wd_LA k e1_a e1_n e1_x ++ (wd_LA k e3_a e3_n e3_x)))) hA C me_X2_halveBoth hw_778 (c_X2_halveBoth l D k f_a u11 u13 f_one f_other u15 e16) dX2_set_57 ⟨Nat.le_of_ble_eq_true rfl, Nat.le_of_ble_eq_true rfl⟩ ⟨Nat.zero_le _, Nat.zero_le _⟩ rfl rfl (Nat.le_of_ble_eq_true rfl) rfl rfl [0, 1, 2, 3, 4] rfl (by decide) rfl rfl ?_
      clear e16
      refine cx_aload_n C dX2_set_60 0 rfl ?_
      obtain ⟨u17, e18, hf⟩ := cx_bd_at hf
      refine cx_cvv (q := (RX2, TX2, 4)) (As := []) (rest := []) (ws' := (wd_Frac k f_a u15.1 u15.2 u17.1 u17.2 ++ (wd_LA k e1_a e1_n e1_x ++ (wd_LA k e3_a e3_n e3_x)))) hA C me_X2_findOddDivisor hw_788 (c_X2_findOddDivisor l D k f_a u15.1 u15.2 f_one f_other u17 e18) dX2_set_61 ⟨Nat.le_of_ble_eq_true rfl, Nat.le_of_ble_eq_true rfl⟩ ⟨Nat.zero_le _, Nat.zero_le _⟩ rfl rfl (Nat.le_of_ble_eq_true rfl) rfl rfl [0, 1, 2, 3, 4] rfl (by decide) rfl rfl ?_
      clear e18
      refine cx_aload_n C dX2_set_64 0 rfl ?_
      refine cx_get (v := .ref (f_a 1)) (ci := 2) C iX2 dX2_set_65 0 rfl rfl 0 (by decide) hw_125 rfl ?_
      refine cx_iconst (v := 0) C dX2_set_68 (by decide) ?_
      refine cx_aload_n C dX2_set_69 0 rfl ?_
      refine cx_get (v := .ref (f_a 4)) (ci := 2) C iX2 dX2_set_70 0 rfl rfl 3 (by decide) hw_130 rfl ?_
      refine cx_iconst (v := 0) C dX2_set_73 (by decide) ?_
      obtain ⟨u19, e20, hf⟩ := cx_bd_at hf
      refine cx_csv (As := [.ref (f_a 1), .int 0, .ref (f_a 4), .int 0]) (rest := []) (ws' := (wd_Frac k f_a u19 u15.2 u17.1 u17.2 ++ (wd_LA k e1_a e1_n e1_x ++ (wd_LA k e3_a e3_n e3_x)))) hA C me_X3_divide hw_797 (c_X3_divide l D k (f_a 1) (f_a 4) 4 u15.1 0 4 u17.2 0 u19 e20) dX2_set_74 ⟨Nat.le_of_ble_eq_true rfl, Nat.le_of_ble_eq_true rfl⟩ ⟨Nat.zero_le _, Nat.zero_le _⟩ rfl rfl (Nat.le_of_ble_eq_true rfl) [1, 4] rfl (by decide) rfl rfl ?_
      clear e20
      refine cx_aload_n C dX2_set_77 0 rfl ?_
      refine cx_get (v := .ref (f_a 2)) (ci := 2) C iX2 dX2_set_78 0 rfl rfl 1 (by decide) hw_127 rfl ?_
      refine cx_iconst (v := 0) C dX2_set_81 (by decide) ?_
      refine cx_aload_n C dX2_set_82 0 rfl ?_
      refine cx_get (v := .ref (f_a 4)) (ci := 2) C iX2 dX2_set_83 0 rfl rfl 3 (by decide) hw_130 rfl ?_
      refine cx_iconst (v := 0) C dX2_set_86 (by decide) ?_
      obtain ⟨u21, e22, hf⟩ := cx_bd_at hf
      refine cx_csv (As := [.ref (f_a 2), .int 0, .ref (f_a 4), .int 0]) (rest := []) (ws' := (wd_Frac k f_a u19 u21 u17.1 u17.2 ++ (wd_LA k e1_a e1_n e1_x ++ (wd_LA k e3_a e3_n e3_x)))) hA C me_X3_divide hw_797 (c_X3_divide l D k (f_a 2) (f_a 4) 4 u15.2 0 4 u17.2 0 u21 e22) dX2_set_87 ⟨Nat.le_of_ble_eq_true rfl, Nat.le_of_ble_eq_true rfl⟩ ⟨Nat.zero_le _, Nat.zero_le _⟩ rfl rfl (Nat.le_of_ble_eq_true rfl) [2, 4] rfl (by decide) rfl rfl ?_
      clear e22
      obtain rfl := Option.some.inj hf
      exact cx_vret C hA hQ hr hlk dX2_set_90 rfl
    · have hf := cx_if_f hf c10
      clear c10
      refine cx_lv [0] rfl ?_
      exact J17 hf
