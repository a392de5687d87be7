set_option maxHeartbeats 4000000 in
set_option maxRecDepth 100000 in
/-- THE LAW, from its entry, over an invariant of the two states and the calls that keep it -/
theorem whole_open {p : Program} {e : Env} {s : State} {m : MethodId} {below : List Frame} {meth : Method} {c : Code} (l : Launch) {b L : Nat} {xs : Nat → Int32} (Inv : cx_St → cx_St → Prop) (o0 : ob_person Inv) (o1 : ob_parent Inv) (o2 : ob_near Inv) (o3 : ob_picture Inv) (o4 : ob_head Inv) (o5 : ob_name Inv) (o6 : ob_join Inv) (o7 : ob_strange Inv) (o8 : ob_mark Inv) (o9 : ob_like Inv) (o10 : ob_truth Inv) (o11 : ob_type Inv) (o12 : ob_clear Inv) (o13 : ob_read Inv) (o14 : ob_who Inv) (o15 : ob_named Inv) (o16 : ob_best Inv) (o17 : ob_all Inv) (o18 : ob_sure Inv) (o19 : ob_falls Inv) (o20 : ob_same Inv) (o21 : ob_noneOf Inv) (o22 : ob_friend Inv) (o23 : ob_of Inv) (o24 : ob_when Inv) (o25 : ob_span Inv) (o26 : ob_ahead Inv) (o27 : ob_parts Inv) (o28 : ob_doubt Inv) (o29 : ob_right Inv) (o30 : ob_ask Inv) (o31 : ob_next Inv) (o32 : ob_sign Inv) (o33 : ob_limb Inv) (o34 : ob_image Inv) (o35 : ob_from Inv) (o36 : ob_status Inv) (o37 : ob_count Inv) (o38 : ob_digest Inv) (yf : Nat → Int64) (hyf : f_J7_fill_d0a16 84 (fun _ => 0) 1 = some yf) (zf : (Nat → Int32) × (Nat → Int32)) (hzf : f_X9_sets ((fun _ => 0)) ((fun _ => 0)) 1 1 = some zf) (hI : Inv (st_N yf) (st_M zf)) (hL : L ≤ 384) (C0 : lw_At p s m meth c b L xs) : W p l e room_1 s m #[Value.ref b] below meth c s.heap [] 0 0 (lw_Z below #[Value.ref b] s) (entryFrame m ([Value.ref b] : List Value).toArray 4) := by
  obtain ⟨hx, hb, hr, hml, hown, hts, hX, hbl, hlk, hgv⟩ := C0
  obtain ⟨D, k, hK⟩ := cx_start hts
  obtain ⟨te, adK, adV, hE⟩ := cx_env hts hgv
  have C : cx_C p s m #[Value.ref b] c code 4 "NamelessBoxLaw" D k := ⟨hx, hb, hml, hown, fun w hw => hts w (List.mem_filter.mp hw).1, hK⟩
  have hbA : ¬ va_A [] s.heap.size b := cx_outA b hbl
  have key : cx_S p l e room_1 s m #[Value.ref b] below meth c (va_A [] s.heap.size) D 4 0 0 (lw_Z below #[Value.ref b] s) 0 (lv_args 0 [Value.ref b]) [] ([] : va_W) := by
    refine cx_lv (lv' := [(0, .ref b)]) [0] rfl ?_
    refine cx_new (w0 := []) (ci := 7) (fs := [.null, .null, .null, .null, .null, .null, .null, .null, .null, .null, .null, .int 0]) C rfl iX8 tyX8 tyX8_ok dL_law_0 hw_19 hw_20 hw_1 rfl (fun j hj => by rcases (show j = 0 ∨ j = 1 ∨ j = 2 ∨ j = 3 ∨ j = 4 ∨ j = 5 ∨ j = 6 ∨ j = 7 ∨ j = 8 ∨ j = 9 ∨ j = 10 ∨ j = 11 by omega) with rfl | rfl | rfl | rfl | rfl | rfl | rfl | rfl | rfl | rfl | rfl | rfl <;> rfl) (Nat.le_of_ble_eq_true rfl) (Nat.le_of_ble_eq_true rfl) (fun q1 => ?_)
    refine cx_dup C dL_law_3 rfl ?_
    refine cx_ctor (w0 := []) (pre := []) (As := []) (rest := [.ref q1]) rfl C mi_X8_init rfl hw_22 hw_21 (c_X8_init l D k q1 yf hyf) dL_law_4 ⟨(Nat.le_of_ble_eq_true rfl), (Nat.le_of_ble_eq_true rfl)⟩ ⟨(Nat.le_of_ble_eq_true rfl), (Nat.le_of_ble_eq_true rfl)⟩ rfl rfl (Nat.le_of_ble_eq_true rfl) rfl (fun U hU => ?_)
    have hU : U 0 0 = q1 := hU
    subst hU
    refine cx_wsE (ws' := wN k U (st_N yf)) rfl ?_
    refine cx_astore_n (lv' := [(1, .ref (U 0 0)), (0, .ref b)]) C dL_law_7 rfl (by decide) rfl ?_
    refine cx_new (w0 := []) (ci := 8) (fs := [.null, .null, .null, .null, .null, .null, .null, .int 0, .null, .int 0, .int 0, .int 0, .int 0, .int 0, .null, .int 0, .null, .null, .int 0, .int 0, .int 0, .int 0, .int 0, .null]) C rfl iX9 tyX9 tyX9_ok dL_law_8 hw_1039 hw_1040 hw_11 rfl (fun j hj => by rcases (show j = 0 ∨ j = 1 ∨ j = 2 ∨ j = 3 ∨ j = 4 ∨ j = 5 ∨ j = 6 ∨ j = 7 ∨ j = 8 ∨ j = 9 ∨ j = 10 ∨ j = 11 ∨ j = 12 ∨ j = 13 ∨ j = 14 ∨ j = 15 ∨ j = 16 ∨ j = 17 ∨ j = 18 ∨ j = 19 ∨ j = 20 ∨ j = 21 ∨ j = 22 ∨ j = 23 by omega) with rfl | rfl | rfl | rfl | rfl | rfl | rfl | rfl | rfl | rfl | rfl | rfl | rfl | rfl | rfl | rfl | rfl | rfl | rfl | rfl | rfl | rfl | rfl | rfl <;> rfl) (Nat.le_of_ble_eq_true rfl) (Nat.le_of_ble_eq_true rfl) (fun q2 => ?_)
    refine cx_dup C dL_law_11 rfl ?_
    refine cx_ctor (w0 := []) (pre := wN k U (st_N yf)) (As := []) (rest := [.ref q2]) rfl C mi_X9_init rfl hw_1042 hw_1041 (c_X9_init l D k q2 zf hzf) dL_law_12 ⟨(Nat.le_of_ble_eq_true rfl), (Nat.le_of_ble_eq_true rfl)⟩ ⟨(Nat.le_of_ble_eq_true rfl), (Nat.le_of_ble_eq_true rfl)⟩ rfl rfl (Nat.le_of_ble_eq_true rfl) rfl (fun V hV => ?_)
    have hV : V 0 = q2 := hV
    subst hV
    refine cx_wsE (ws' := wN k U (st_N yf) ++ wM k V (st_M zf)) rfl ?_
    refine cx_astore_n (lv' := [(2, .ref (V 0)), (1, .ref (U 0 0)), (0, .ref b)]) C dL_law_15 rfl (by decide) rfl ?_
    refine cx_iconst (v := 0) C dL_law_16 (by decide) ?_
    refine cx_istore_n (lv' := [(3, .int 0), (2, .ref (V 0)), (1, .ref (U 0 0)), (0, .ref b)]) C dL_law_17 rfl (by decide) rfl ?_
    refine cx_lv [3, 2, 1, 0] rfl ?_
    refine cx_wid (c2 := 600000) (s2 := 7302249) (Nat.le_of_ble_eq_true rfl) (Nat.le_of_ble_eq_true rfl) ?_
    exact law_loop o0 o1 o2 o3 o4 o5 o6 o7 o8 o9 o10 o11 o12 o13 o14 o15 o16 o17 o18 o19 o20 o21 o22 o23 o24 o25 o26 o27 o28 o29 o30 o31 o32 o33 o34 o35 o36 o37 o38 hL hr hlk rfl C hE hX hbl hbA (L + 1) 0 (st_N yf) (st_M zf) (by omega) (Nat.zero_le _) hI
  rw [lg_entry_eq]
  exact key s.heap [] _ (fun i q h => by simp at h) ⟨fun i j x y h => by simp at h, fun i q h => by simp at h⟩ va_S.rf (lv_entry [Value.ref b] (n := 4) (Nat.le_of_ble_eq_true rfl))
