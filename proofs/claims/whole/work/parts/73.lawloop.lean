def st_N (yf : Nat → Int64) : cx_St := ((fun i => ([(fun _ => 0), (fun _ => 0), (fun _ => 0), (fun _ => 0), (fun _ => 0), (fun _ => 0), (fun _ => 0), (fun _ => 0), (fun _ => 0), (fun _ => 0), (fun _ => 0), (fun _ => 0), (fun _ => 0), (fun _ => 0), (fun _ => 0), (fun _ => 0), (fun _ => 0), (fun _ => 0), (fun _ => 0), (fun _ => 0), (fun _ => 0), (fun _ => 0), (fun _ => 0), (fun _ => 0), (fun _ => 0), (fun _ => 0), (fun _ => 0), (fun _ => 0), (fun _ => 0), (fun _ => 0), (fun _ => 0), (fun _ => 0), (fun _ => 0), (fun _ => 0), (fun _ => 0), (fun _ => 0), (fun _ => 0), (fun _ => 0), (fun _ => 0), (fun _ => 0), (fun _ => 0), (fun _ => 0), (fun _ => 0), (fun _ => 0)] : List (Nat → Int32)).getD i (fun _ => 0)), (fun i => ([(fun _ => 0), vp_updL ((fun _ => 0)) (cx_ix 0) 1, (fun _ => 0), (fun _ => 0), yf, (fun _ => 0), (fun _ => 0), yf, (fun _ => 0), (fun _ => 0), (fun _ => 0), (fun _ => 0), (fun _ => 0), (fun _ => 0), (fun _ => 0), (fun _ => 0), (fun _ => 0), (fun _ => 0), (fun _ => 0), (fun _ => 0), (fun _ => 0), (fun _ => 0), (fun _ => 0), (fun _ => 0), (fun _ => 0), (fun _ => 0), (fun _ => 0), (fun _ => 0), (fun _ => 0), (fun _ => 0), (fun _ => 0), (fun _ => 0)] : List (Nat → Int64)).getD i (fun _ => 0)), (fun i => ([(-1), 0, 0, 0, 0, 0, 1, 0, 0, 0, 0, 0, 1, 0, 0, 0, 0, 0, 1, 0, 0, 0, 0, 0, 1, 0, 0, 0, 0, 0, (-1), (-1), (-1), 0, 0, (-1), (-1), (-1), 0, 0, 0, 0, 0] : List Int32).getD i 0))
def st_M (yf : (Nat → Int32) × (Nat → Int32)) : cx_St := ((fun i => ([yf.1, yf.2, upd ((fun _ => 0)) (cx_ix 5) 1, (fun _ => 0), (fun _ => 0), (fun _ => 0), (fun _ => 0), (fun _ => 0), (fun _ => 0), (fun _ => 0), (fun _ => 0), (fun _ => 0)] : List (Nat → Int32)).getD i (fun _ => 0)), (fun i => ([] : List (Nat → Int64)).getD i (fun _ => 0)), (fun i => ([0, 0, 0, 0, 0, 0, 0, 0, 0, 0, 0, 0] : List Int32).getD i 0))
section LAWS
variable {p : Program} {l : Launch} {e : Env} {s : State} {m : MethodId} {below : List Frame} {meth : Method} {c : Code} {A : Nat → Prop} {D : va_G} {k : Nat → ClassId} {b L te : Nat} {adK adV : Nat → Nat} {xs : Nat → Int32} {U : Nat → Nat → Nat} {V : Nat → Nat} {Inv : cx_St → cx_St → Prop}
set_option maxHeartbeats 4000000 in
set_option maxRecDepth 100000 in
theorem law_loop (o0 : ob_person Inv) (o1 : ob_parent Inv) (o2 : ob_near Inv) (o3 : ob_picture Inv) (o4 : ob_head Inv) (o5 : ob_name Inv) (o6 : ob_join Inv) (o7 : ob_strange Inv) (o8 : ob_mark Inv) (o9 : ob_like Inv) (o10 : ob_truth Inv) (o11 : ob_type Inv) (o12 : ob_clear Inv) (o13 : ob_read Inv) (o14 : ob_who Inv) (o15 : ob_named Inv) (o16 : ob_best Inv) (o17 : ob_all Inv) (o18 : ob_sure Inv) (o19 : ob_falls Inv) (o20 : ob_same Inv) (o21 : ob_noneOf Inv) (o22 : ob_friend Inv) (o23 : ob_of Inv) (o24 : ob_when Inv) (o25 : ob_span Inv) (o26 : ob_ahead Inv) (o27 : ob_parts Inv) (o28 : ob_doubt Inv) (o29 : ob_right Inv) (o30 : ob_ask Inv) (o31 : ob_next Inv) (o32 : ob_sign Inv) (o33 : ob_limb Inv) (o34 : ob_image Inv) (o35 : ob_from Inv) (o36 : ob_status Inv) (o37 : ob_count Inv) (o38 : ob_digest Inv) (hL : L ≤ 384) (hr : meth.sig.returnType = ret) (hlk : meth.locks = false) (hA : A = va_A [] s.heap.size) (C : cx_C p s m #[Value.ref b] c code 4 "NamelessBoxLaw" D k) (hE : cx_E te adK adV A s s.heap) (hX : va_X b L xs s s.heap) (hbl : b < s.heap.size) (hbA : ¬ A b) : ∀ (n i : Nat) (σ τ : cx_St), L + 1 ≤ i + n → i ≤ L → Inv σ τ → cx_S p l e room_1 s m #[Value.ref b] below meth c A D 4 600000 7302249 (lw_Z below #[Value.ref b] s) 18 [(0, .ref b), (1, .ref (U 0 0)), (2, .ref (V 0)), (3, .int (nI i))] [] (wN k U σ ++ wM k V τ) := by
  intro n
  induction n with
  | zero =>
    intro i σ τ h1 h2 hv
    exact absurd h1 (by omega)
  | succ n ih =>
    intro i σ τ h1 h2 hv
    refine cx_iload_n C dL_law_18 3 rfl ?_
    refine cx_aload_n C dL_law_19 0 rfl ?_
    refine cx_slen C hX hbl hbA dL_law_20 ?_
    refine cx_bipush (v := 6) C dL_law_21 (by decide) ?_
    refine cx_isub C dL_law_23 ?_
    refine cx_icmp_gt (tgt := 1368) C dL_law_24 (by decide) (fun _ => ?_) (fun hc => ?_)
    · refine cx_iconst (v := 1) C dL_law_1368 (by decide) ?_
      intro H locs ls hP hD hS hl
      refine va_forget (fun q hq => ?_) ?_
      · have h9 := hS.2.2 q hq
        rw [hA] at h9
        rcases h9 with ⟨n9, e9, h9⟩ | h9
        · simp at h9
        · exact h9
      · exact lw_ret C.1 C.2.1 hr hlk dL_law_1369
    · have hlt : i + 6 ≤ L := law_lt (by omega) hL hc
      have hN : ∀ σ τ : cx_St, Inv σ τ → cx_S p l e room_1 s m #[Value.ref b] below meth c A D 4 600000 7302249 (lw_Z below #[Value.ref b] s) 1362 [(0, .ref b), (1, .ref (U 0 0)), (2, .ref (V 0)), (3, .int (nI i))] [] (wN k U σ ++ wM k V τ) := by
        intro σ τ hv
        refine cx_iinc (v := nI (i + 6)) (lv' := [(3, .int (nI (i + 6))), (0, .ref b), (1, .ref (U 0 0)), (2, .ref (V 0))]) C dL_law_1362 3 rfl (by rw [show Int32.ofInt 6 = nI 6 from by decide]; exact nI_add i 6) (by decide) rfl ?_
        refine cx_goto (tgt := 18) C dL_law_1365 (by decide) ?_
        refine cx_lv [1, 2, 3, 0] rfl ?_
        exact ih (i + 6) σ τ (by omega) hlt hv
      refine cx_aload_n C dL_law_27 0 rfl ?_
      refine cx_iload_n C dL_law_28 3 rfl ?_
      refine cx_sld C hX hbl hbA dL_law_29 (vp_in_nI (by omega) (by omega)) ?_
      refine cx_bipush (v := 63) C dL_law_30 (by decide) ?_
      refine cx_iand C dL_law_32 ?_
      refine cx_topi (fun x ex => ?_)
      clear ex
      by_cases c_0 : x = 0
      · refine cx_tabIn (off := 171) (tgt := 204) C dL_law_33 (by rw [c_0]; decide) (by rw [c_0]; decide) (by rw [c_0]; decide) (by decide) ?_
        exact law_c0 i σ τ hL hlt o0 hv hA C hE hX hbl hbA hN
      by_cases c_1 : x = 1
      · refine cx_tabIn (off := 224) (tgt := 257) C dL_law_33 (by rw [c_1]; decide) (by rw [c_1]; decide) (by rw [c_1]; decide) (by decide) ?_
        exact law_c1 i σ τ hL hlt o1 hv hA C hE hX hbl hbA hN
      by_cases c_2 : x = 2
      · refine cx_tabIn (off := 257) (tgt := 290) C dL_law_33 (by rw [c_2]; decide) (by rw [c_2]; decide) (by rw [c_2]; decide) (by decide) ?_
        exact law_c2 i σ τ hL hlt o2 hv hA C hE hX hbl hbA hN
      by_cases c_3 : x = 3
      · refine cx_tabIn (off := 290) (tgt := 323) C dL_law_33 (by rw [c_3]; decide) (by rw [c_3]; decide) (by rw [c_3]; decide) (by decide) ?_
        exact law_c3 i σ τ hL hlt o3 hv hA C hE hX hbl hbA hN
      by_cases c_4 : x = 4
      · refine cx_tabIn (off := 323) (tgt := 356) C dL_law_33 (by rw [c_4]; decide) (by rw [c_4]; decide) (by rw [c_4]; decide) (by decide) ?_
        exact law_c4 i σ τ hL hlt o4 hv hA C hE hX hbl hbA hN
      by_cases c_5 : x = 5
      · refine cx_tabIn (off := 386) (tgt := 419) C dL_law_33 (by rw [c_5]; decide) (by rw [c_5]; decide) (by rw [c_5]; decide) (by decide) ?_
        exact law_c5 i σ τ hL hlt o5 hv hA C hE hX hbl hbA hN
      by_cases c_6 : x = 6
      · refine cx_tabIn (off := 439) (tgt := 472) C dL_law_33 (by rw [c_6]; decide) (by rw [c_6]; decide) (by rw [c_6]; decide) (by decide) ?_
        exact law_c6 i σ τ hL hlt o6 hv hA C hE hX hbl hbA hN
      by_cases c_7 : x = 7
      · refine cx_tabIn (off := 482) (tgt := 515) C dL_law_33 (by rw [c_7]; decide) (by rw [c_7]; decide) (by rw [c_7]; decide) (by decide) ?_
        exact law_c7 i σ τ hL hlt o7 hv hA C hE hX hbl hbA hN
      by_cases c_8 : x = 8
      · refine cx_tabIn (off := 505) (tgt := 538) C dL_law_33 (by rw [c_8]; decide) (by rw [c_8]; decide) (by rw [c_8]; decide) (by decide) ?_
        exact law_c8 i σ τ hL hlt o8 hv hA C hE hX hbl hbA hN
      by_cases c_9 : x = 9
      · refine cx_tabIn (off := 538) (tgt := 571) C dL_law_33 (by rw [c_9]; decide) (by rw [c_9]; decide) (by rw [c_9]; decide) (by decide) ?_
        exact law_c9 i σ τ hL hlt o9 hv hA C hE hX hbl hbA hN
      by_cases c_10 : x = 10
      · refine cx_tabIn (off := 581) (tgt := 614) C dL_law_33 (by rw [c_10]; decide) (by rw [c_10]; decide) (by rw [c_10]; decide) (by decide) ?_
        exact law_c10 i σ τ hL hlt o10 hv hA C hE hX hbl hbA hN
      by_cases c_11 : x = 11
      · refine cx_tabIn (off := 604) (tgt := 637) C dL_law_33 (by rw [c_11]; decide) (by rw [c_11]; decide) (by rw [c_11]; decide) (by decide) ?_
        exact law_c11 i σ τ hL hlt o11 hv hA C hE hX hbl hbA hN
      by_cases c_12 : x = 12
      · refine cx_tabIn (off := 667) (tgt := 700) C dL_law_33 (by rw [c_12]; decide) (by rw [c_12]; decide) (by rw [c_12]; decide) (by decide) ?_
        exact law_c12 i σ τ hL hlt o12 hv hA C hE hX hbl hbA hN
      by_cases c_13 : x = 13
      · refine cx_tabIn (off := 680) (tgt := 713) C dL_law_33 (by rw [c_13]; decide) (by rw [c_13]; decide) (by rw [c_13]; decide) (by decide) ?_
        exact law_c13 i σ τ hL hlt o13 hv hA C hE hX hbl hbA hN
      by_cases c_14 : x = 14
      · refine cx_tabIn (off := 693) (tgt := 726) C dL_law_33 (by rw [c_14]; decide) (by rw [c_14]; decide) (by rw [c_14]; decide) (by decide) ?_
        exact law_c14 i σ τ hL hlt o14 hv hA C hE hX hbl hbA hN
      by_cases c_15 : x = 15
      · refine cx_tabIn (off := 726) (tgt := 759) C dL_law_33 (by rw [c_15]; decide) (by rw [c_15]; decide) (by rw [c_15]; decide) (by decide) ?_
        exact law_c15 i σ τ hL hlt o15 hv hA C hE hX hbl hbA hN
      by_cases c_16 : x = 16
      · refine cx_tabIn (off := 749) (tgt := 782) C dL_law_33 (by rw [c_16]; decide) (by rw [c_16]; decide) (by rw [c_16]; decide) (by decide) ?_
        exact law_c16 i σ τ hL hlt o16 hv hA C hE hX hbl hbA hN
      by_cases c_17 : x = 17
      · refine cx_tabIn (off := 772) (tgt := 805) C dL_law_33 (by rw [c_17]; decide) (by rw [c_17]; decide) (by rw [c_17]; decide) (by decide) ?_
        exact law_c17 i σ τ hL hlt o17 hv hA C hE hX hbl hbA hN
      by_cases c_18 : x = 18
      · refine cx_tabIn (off := 785) (tgt := 818) C dL_law_33 (by rw [c_18]; decide) (by rw [c_18]; decide) (by rw [c_18]; decide) (by decide) ?_
        exact law_c18 i σ τ hL hlt o18 hv hA C hE hX hbl hbA hN
      by_cases c_19 : x = 19
      · refine cx_tabIn (off := 808) (tgt := 841) C dL_law_33 (by rw [c_19]; decide) (by rw [c_19]; decide) (by rw [c_19]; decide) (by decide) ?_
        exact law_c19 i σ τ hL hlt o19 hv hA C hE hX hbl hbA hN
      by_cases c_20 : x = 20
      · refine cx_tabIn (off := 841) (tgt := 874) C dL_law_33 (by rw [c_20]; decide) (by rw [c_20]; decide) (by rw [c_20]; decide) (by decide) ?_
        exact law_c20 i σ τ hL hlt o20 hv hA C hE hX hbl hbA hN
      by_cases c_21 : x = 21
      · refine cx_tabIn (off := 874) (tgt := 907) C dL_law_33 (by rw [c_21]; decide) (by rw [c_21]; decide) (by rw [c_21]; decide) (by decide) ?_
        exact law_c21 i σ τ hL hlt o21 hv hA C hE hX hbl hbA hN
      by_cases c_22 : x = 22
      · refine cx_tabIn (off := 897) (tgt := 930) C dL_law_33 (by rw [c_22]; decide) (by rw [c_22]; decide) (by rw [c_22]; decide) (by decide) ?_
        exact law_c22 i σ τ hL hlt o22 hv hA C hE hX hbl hbA hN
      by_cases c_23 : x = 23
      · refine cx_tabIn (off := 920) (tgt := 953) C dL_law_33 (by rw [c_23]; decide) (by rw [c_23]; decide) (by rw [c_23]; decide) (by decide) ?_
        exact law_c23 i σ τ hL hlt o23 hv hA C hE hX hbl hbA hN
      by_cases c_24 : x = 24
      · refine cx_tabIn (off := 953) (tgt := 986) C dL_law_33 (by rw [c_24]; decide) (by rw [c_24]; decide) (by rw [c_24]; decide) (by decide) ?_
        exact law_c24 i σ τ hL hlt o24 hv hA C hE hX hbl hbA hN
      by_cases c_25 : x = 25
      · refine cx_tabIn (off := 986) (tgt := 1019) C dL_law_33 (by rw [c_25]; decide) (by rw [c_25]; decide) (by rw [c_25]; decide) (by decide) ?_
        exact law_c25 i σ τ hL hlt o25 hv hA C hE hX hbl hbA hN
      by_cases c_26 : x = 26
      · refine cx_tabIn (off := 1019) (tgt := 1052) C dL_law_33 (by rw [c_26]; decide) (by rw [c_26]; decide) (by rw [c_26]; decide) (by decide) ?_
        exact law_c26 i σ τ hL hlt o26 hv hA C hE hX hbl hbA hN
      by_cases c_27 : x = 27
      · refine cx_tabIn (off := 1052) (tgt := 1085) C dL_law_33 (by rw [c_27]; decide) (by rw [c_27]; decide) (by rw [c_27]; decide) (by decide) ?_
        exact law_c27 i σ τ hL hlt o27 hv hA C hE hX hbl hbA hN
      by_cases c_28 : x = 28
      · refine cx_tabIn (off := 1085) (tgt := 1118) C dL_law_33 (by rw [c_28]; decide) (by rw [c_28]; decide) (by rw [c_28]; decide) (by decide) ?_
        exact law_c28 i σ τ hL hlt o28 hv hA C hE hX hbl hbA hN
      by_cases c_29 : x = 29
      · refine cx_tabIn (off := 1118) (tgt := 1151) C dL_law_33 (by rw [c_29]; decide) (by rw [c_29]; decide) (by rw [c_29]; decide) (by decide) ?_
        exact law_c29 i σ τ hL hlt o29 hv hA C hE hX hbl hbA hN
      by_cases c_30 : x = 30
      · refine cx_tabIn (off := 1131) (tgt := 1164) C dL_law_33 (by rw [c_30]; decide) (by rw [c_30]; decide) (by rw [c_30]; decide) (by decide) ?_
        exact law_c30 i σ τ hL hlt o30 hv hA C hE hX hbl hbA hN
      by_cases c_31 : x = 31
      · refine cx_tabIn (off := 1154) (tgt := 1187) C dL_law_33 (by rw [c_31]; decide) (by rw [c_31]; decide) (by rw [c_31]; decide) (by decide) ?_
        exact law_c31 i σ τ hL hlt o31 hv hA C hE hX hbl hbA hN
      by_cases c_32 : x = 32
      · refine cx_tabIn (off := 1167) (tgt := 1200) C dL_law_33 (by rw [c_32]; decide) (by rw [c_32]; decide) (by rw [c_32]; decide) (by decide) ?_
        exact law_c32 i σ τ hL hlt o32 hv hA C hE hX hbl hbA hN
      by_cases c_33 : x = 33
      · refine cx_tabIn (off := 1190) (tgt := 1223) C dL_law_33 (by rw [c_33]; decide) (by rw [c_33]; decide) (by rw [c_33]; decide) (by decide) ?_
        exact law_c33 i σ τ hL hlt o33 hv hA C hE hX hbl hbA hN
      by_cases c_34 : x = 34
      · refine cx_tabIn (off := 1223) (tgt := 1256) C dL_law_33 (by rw [c_34]; decide) (by rw [c_34]; decide) (by rw [c_34]; decide) (by decide) ?_
        exact law_c34 i σ τ hL hlt o34 hv hA C hE hX hbl hbA hN
      by_cases c_35 : x = 35
      · refine cx_tabIn (off := 1246) (tgt := 1279) C dL_law_33 (by rw [c_35]; decide) (by rw [c_35]; decide) (by rw [c_35]; decide) (by decide) ?_
        exact law_c35 i σ τ hL hlt o35 hv hA C hE hX hbl hbA hN
      by_cases c_36 : x = 36
      · refine cx_tabIn (off := 1269) (tgt := 1302) C dL_law_33 (by rw [c_36]; decide) (by rw [c_36]; decide) (by rw [c_36]; decide) (by decide) ?_
        exact law_c36 i σ τ hL hlt o36 hv hA C hE hX hbl hbA hN
      by_cases c_37 : x = 37
      · refine cx_tabIn (off := 1292) (tgt := 1325) C dL_law_33 (by rw [c_37]; decide) (by rw [c_37]; decide) (by rw [c_37]; decide) (by decide) ?_
        exact law_c37 i σ τ hL hlt o37 hv hA C hE hX hbl hbA hN
      by_cases c_38 : x = 38
      · refine cx_tabIn (off := 1315) (tgt := 1348) C dL_law_33 (by rw [c_38]; decide) (by rw [c_38]; decide) (by rw [c_38]; decide) (by decide) ?_
        exact law_c38 i σ τ hL hlt o38 hv hA C hE hX hbl hbA hN
      refine cx_tabOut (tgt := 1362) C dL_law_33 (by have q0 := lv_neT (a := 0) c_0 (by decide); have q1 := lv_neT (a := 1) c_1 (by decide); have q2 := lv_neT (a := 2) c_2 (by decide); have q3 := lv_neT (a := 3) c_3 (by decide); have q4 := lv_neT (a := 4) c_4 (by decide); have q5 := lv_neT (a := 5) c_5 (by decide); have q6 := lv_neT (a := 6) c_6 (by decide); have q7 := lv_neT (a := 7) c_7 (by decide); have q8 := lv_neT (a := 8) c_8 (by decide); have q9 := lv_neT (a := 9) c_9 (by decide); have q10 := lv_neT (a := 10) c_10 (by decide); have q11 := lv_neT (a := 11) c_11 (by decide); have q12 := lv_neT (a := 12) c_12 (by decide); have q13 := lv_neT (a := 13) c_13 (by decide); have q14 := lv_neT (a := 14) c_14 (by decide); have q15 := lv_neT (a := 15) c_15 (by decide); have q16 := lv_neT (a := 16) c_16 (by decide); have q17 := lv_neT (a := 17) c_17 (by decide); have q18 := lv_neT (a := 18) c_18 (by decide); have q19 := lv_neT (a := 19) c_19 (by decide); have q20 := lv_neT (a := 20) c_20 (by decide); have q21 := lv_neT (a := 21) c_21 (by decide); have q22 := lv_neT (a := 22) c_22 (by decide); have q23 := lv_neT (a := 23) c_23 (by decide); have q24 := lv_neT (a := 24) c_24 (by decide); have q25 := lv_neT (a := 25) c_25 (by decide); have q26 := lv_neT (a := 26) c_26 (by decide); have q27 := lv_neT (a := 27) c_27 (by decide); have q28 := lv_neT (a := 28) c_28 (by decide); have q29 := lv_neT (a := 29) c_29 (by decide); have q30 := lv_neT (a := 30) c_30 (by decide); have q31 := lv_neT (a := 31) c_31 (by decide); have q32 := lv_neT (a := 32) c_32 (by decide); have q33 := lv_neT (a := 33) c_33 (by decide); have q34 := lv_neT (a := 34) c_34 (by decide); have q35 := lv_neT (a := 35) c_35 (by decide); have q36 := lv_neT (a := 36) c_36 (by decide); have q37 := lv_neT (a := 37) c_37 (by decide); have q38 := lv_neT (a := 38) c_38 (by decide); omega) (by decide) ?_
      exact hN σ τ hv
end LAWS
