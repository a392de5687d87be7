def lw_Zx : Nat := 0
section LAWL
variable {p : Program} {l : Launch} {e : Env} {s : State} {m : MethodId} {below : List Frame} {meth : Method} {c : Code} {A : Nat → Prop} {D : va_G} {k : Nat → ClassId} {b L te : Nat} {adK adV : Nat → Nat} {xs : Nat → Int32} {U : Nat → Nat → Nat} {V : Nat → Nat} {Inv : cx_St → cx_St → Prop}
set_option maxHeartbeats 4000000 in
set_option maxRecDepth 100000 in
theorem law_c0 (i : Nat) (σ τ : cx_St) (hL : L ≤ 384) (hlt : i + 6 ≤ L) (ho : ob_person Inv) (hv : Inv σ τ) (hA : A = va_A [] s.heap.size) (C : cx_C p s m #[Value.ref b] c code 4 "NamelessBoxLaw" D k) (hE : cx_E te adK adV A s s.heap) (hX : va_X b L xs s s.heap) (hbl : b < s.heap.size) (hbA : ¬ A b) (hN : ∀ σ τ : cx_St, Inv σ τ → cx_S p l e room_1 s m #[Value.ref b] below meth c A D 4 600000 7302249 (lw_Z below #[Value.ref b] s) 1362 [(0, .ref b), (1, .ref (U 0 0)), (2, .ref (V 0)), (3, .int (nI i))] [] (wN k U σ ++ wM k V τ)) : cx_S p l e room_1 s m #[Value.ref b] below meth c A D 4 600000 7302249 (lw_Z below #[Value.ref b] s) 204 [(0, .ref b), (1, .ref (U 0 0)), (2, .ref (V 0)), (3, .int (nI i))] [] (wN k U σ ++ wM k V τ) := by
  obtain ⟨y1, y2, e1, e2, e3, hI⟩ := ho σ τ (xs (cx_ix (nI i + 1))) (xs (cx_ix (nI i + 2))) (xs (cx_ix (nI i + 3))) (xs (cx_ix (nI i + 4))) hv
  refine cx_aload_n C dL_law_204 1 rfl ?_
  refine cx_aload_n C dL_law_205 0 rfl ?_
  refine cx_iload_n C dL_law_206 3 rfl ?_
  refine cx_iconst (v := 1) C dL_law_207 (by decide) ?_
  refine cx_iadd C dL_law_208 ?_
  refine cx_sld C hX hbl hbA dL_law_209 (law_in (j := 1) hL hlt (by decide)) ?_
  refine cx_aload_n C dL_law_210 0 rfl ?_
  refine cx_iload_n C dL_law_211 3 rfl ?_
  refine cx_iconst (v := 2) C dL_law_212 (by decide) ?_
  refine cx_iadd C dL_law_213 ?_
  refine cx_sld C hX hbl hbA dL_law_214 (law_in (j := 2) hL hlt (by decide)) ?_
  refine cx_aload_n C dL_law_215 0 rfl ?_
  refine cx_iload_n C dL_law_216 3 rfl ?_
  refine cx_iconst (v := 3) C dL_law_217 (by decide) ?_
  refine cx_iadd C dL_law_218 ?_
  refine cx_sld C hX hbl hbA dL_law_219 (law_in (j := 3) hL hlt (by decide)) ?_
  refine cx_aload_n C dL_law_220 0 rfl ?_
  refine cx_iload_n C dL_law_221 3 rfl ?_
  refine cx_iconst (v := 4) C dL_law_222 (by decide) ?_
  refine cx_iadd C dL_law_223 ?_
  refine cx_sld C hX hbl hbA dL_law_224 (law_in (j := 4) hL hlt (by decide)) ?_
  refine cx_LLi (q := (RX8, TX8, 12)) (As := [.int (xs (cx_ix (nI i + 1))), .int (xs (cx_ix (nI i + 2))), .int (xs (cx_ix (nI i + 3))), .int (xs (cx_ix (nI i + 4)))]) (rest := []) (w1 := (wN k U (cx_sI (cx_sZ (cx_sI (cx_sZ σ 0 y1.2.1) 1 y1.2.2.1) 1 y1.2.2.2.1) 2 y1.2.2.2.2))) hA C me_X8_person hw_327 (c_X8_person l D k (U 0) (U 1) (U 2) (U 3) (U 4) (U 5) (U 6) (U 7) (U 8) (U 9) (U 10) (U 11) (σ.1 0) (σ.1 1) (σ.2.2 0) (σ.1 2) (σ.2.2 1) (σ.1 3) (σ.2.2 2) (σ.1 4) (σ.2.2 3) (σ.1 5) (σ.2.2 4) (σ.1 6) (σ.2.2 5) (σ.2.2 6) (σ.1 7) (σ.2.2 7) (σ.1 8) (σ.2.2 8) (σ.1 9) (σ.2.2 9) (σ.1 10) (σ.2.2 10) (σ.1 11) (σ.2.2 11) (σ.2.2 12) (σ.1 12) (σ.2.2 13) (σ.1 13) (σ.2.2 14) (σ.1 14) (σ.2.2 15) (σ.1 15) (σ.2.2 16) (σ.1 16) (σ.2.2 17) (σ.2.2 18) (σ.1 17) (σ.2.2 19) (σ.1 18) (σ.2.2 20) (σ.1 19) (σ.2.2 21) (σ.1 20) (σ.2.2 22) (σ.1 21) (σ.2.2 23) (σ.2.2 24) (σ.1 22) (σ.2.2 25) (σ.2.2 26) (σ.2.2 27) (σ.2.2 28) (σ.1 23) (σ.2.1 0) (σ.2.1 1) (σ.2.1 2) (σ.2.1 3) (σ.2.2 29) (σ.2.2 30) (σ.2.2 31) (σ.2.2 32) (σ.2.2 33) (σ.1 24) (σ.1 25) (σ.1 26) (σ.1 27) (σ.1 28) (σ.1 29) (σ.1 30) (σ.1 31) (σ.2.1 4) (σ.2.1 5) (σ.2.1 6) (σ.1 32) (σ.2.2 34) (σ.2.2 35) (σ.2.2 36) (σ.2.2 37) (σ.2.2 38) (σ.1 33) (σ.1 34) (σ.1 35) (σ.1 36) (σ.1 37) (σ.1 38) (σ.1 39) (σ.1 40) (σ.2.1 7) (σ.2.1 8) (σ.2.1 9) (σ.1 41) (σ.2.1 10) (σ.2.1 11) (σ.2.1 12) (σ.2.1 13) (σ.1 42) (σ.2.1 14) (σ.2.1 15) (σ.2.1 16) (σ.2.1 17) (σ.2.2 39) (σ.2.2 40) (σ.2.1 18) (σ.2.1 19) (σ.2.1 20) (σ.2.1 21) (σ.1 43) (σ.2.1 22) (σ.2.1 23) (σ.2.1 24) (σ.2.1 25) (σ.2.2 41) (σ.2.2 42) (σ.2.1 26) (σ.2.1 27) (σ.2.1 28) (σ.2.1 29) (σ.2.1 30) (σ.2.1 31) (xs (cx_ix (nI i + 1))) (xs (cx_ix (nI i + 2))) (xs (cx_ix (nI i + 3))) (xs (cx_ix (nI i + 4))) y1 e1) dL_law_225 ⟨(Nat.le_of_ble_eq_true rfl), (Nat.le_of_ble_eq_true rfl)⟩ ⟨Nat.le_refl _, Nat.le_refl _⟩ rfl rfl (Nat.le_of_ble_eq_true rfl) rfl rfl rfl ?_
  refine cx_aload_n C dL_law_228 2 rfl ?_
  refine cx_aload_n C dL_law_229 0 rfl ?_
  refine cx_iload_n C dL_law_230 3 rfl ?_
  refine cx_iconst (v := 1) C dL_law_231 (by decide) ?_
  refine cx_iadd C dL_law_232 ?_
  refine cx_sld C hX hbl hbA dL_law_233 (law_in (j := 1) hL hlt (by decide)) ?_
  refine cx_aload_n C dL_law_234 0 rfl ?_
  refine cx_iload_n C dL_law_235 3 rfl ?_
  refine cx_iconst (v := 2) C dL_law_236 (by decide) ?_
  refine cx_iadd C dL_law_237 ?_
  refine cx_sld C hX hbl hbA dL_law_238 (law_in (j := 2) hL hlt (by decide)) ?_
  refine cx_aload_n C dL_law_239 0 rfl ?_
  refine cx_iload_n C dL_law_240 3 rfl ?_
  refine cx_iconst (v := 3) C dL_law_241 (by decide) ?_
  refine cx_iadd C dL_law_242 ?_
  refine cx_sld C hX hbl hbA dL_law_243 (law_in (j := 3) hL hlt (by decide)) ?_
  refine cx_aload_n C dL_law_244 0 rfl ?_
  refine cx_iload_n C dL_law_245 3 rfl ?_
  refine cx_iconst (v := 4) C dL_law_246 (by decide) ?_
  refine cx_iadd C dL_law_247 ?_
  refine cx_sld C hX hbl hbA dL_law_248 (law_in (j := 4) hL hlt (by decide)) ?_
  refine cx_LRi (q := (RX9, TX9, 24)) (As := [.int (xs (cx_ix (nI i + 1))), .int (xs (cx_ix (nI i + 2))), .int (xs (cx_ix (nI i + 3))), .int (xs (cx_ix (nI i + 4)))]) (rest := [.int y1.1]) (w1 := (wM k V (cx_sI (cx_sI τ 2 y2.2.1) 6 y2.2.2))) hA C me_X9_person hw_1127 (c_X9_person l D k V (τ.1 0) (τ.1 1) (τ.1 2) (τ.1 3) (τ.1 4) (τ.1 5) (τ.1 6) (τ.2.2 0) (τ.1 7) (τ.2.2 1) (τ.2.2 2) (τ.2.2 3) (τ.2.2 4) (τ.2.2 5) (τ.1 8) (τ.2.2 6) (τ.1 9) (τ.1 10) (τ.2.2 7) (τ.2.2 8) (τ.2.2 9) (τ.2.2 10) (τ.2.2 11) (τ.1 11) (xs (cx_ix (nI i + 1))) (xs (cx_ix (nI i + 2))) (xs (cx_ix (nI i + 3))) (xs (cx_ix (nI i + 4))) y2 e2) dL_law_249 ⟨(Nat.le_of_ble_eq_true rfl), (Nat.le_of_ble_eq_true rfl)⟩ ⟨Nat.le_refl _, Nat.le_refl _⟩ rfl rfl (Nat.le_of_ble_eq_true rfl) rfl rfl rfl ?_
  refine cx_icmp_eq (tgt := 1362) C dL_law_252 (by decide) (fun _ => ?_) (fun q => absurd e3 q)
  exact hN _ _ hI
set_option maxHeartbeats 4000000 in
set_option maxRecDepth 100000 in
theorem law_c1 (i : Nat) (σ τ : cx_St) (hL : L ≤ 384) (hlt : i + 6 ≤ L) (ho : ob_parent Inv) (hv : Inv σ τ) (hA : A = va_A [] s.heap.size) (C : cx_C p s m #[Value.ref b] c code 4 "NamelessBoxLaw" D k) (hE : cx_E te adK adV A s s.heap) (hX : va_X b L xs s s.heap) (hbl : b < s.heap.size) (hbA : ¬ A b) (hN : ∀ σ τ : cx_St, Inv σ τ → cx_S p l e room_1 s m #[Value.ref b] below meth c A D 4 600000 7302249 (lw_Z below #[Value.ref b] s) 1362 [(0, .ref b), (1, .ref (U 0 0)), (2, .ref (V 0)), (3, .int (nI i))] [] (wN k U σ ++ wM k V τ)) : cx_S p l e room_1 s m #[Value.ref b] below meth c A D 4 600000 7302249 (lw_Z below #[Value.ref b] s) 257 [(0, .ref b), (1, .ref (U 0 0)), (2, .ref (V 0)), (3, .int (nI i))] [] (wN k U σ ++ wM k V τ) := by
  obtain ⟨y1, y2, e1, e2, e3, hI⟩ := ho σ τ (xs (cx_ix (nI i + 1))) (xs (cx_ix (nI i + 2))) hv
  refine cx_aload_n C dL_law_257 1 rfl ?_
  refine cx_aload_n C dL_law_258 0 rfl ?_
  refine cx_iload_n C dL_law_259 3 rfl ?_
  refine cx_iconst (v := 1) C dL_law_260 (by decide) ?_
  refine cx_iadd C dL_law_261 ?_
  refine cx_sld C hX hbl hbA dL_law_262 (law_in (j := 1) hL hlt (by decide)) ?_
  refine cx_aload_n C dL_law_263 0 rfl ?_
  refine cx_iload_n C dL_law_264 3 rfl ?_
  refine cx_iconst (v := 2) C dL_law_265 (by decide) ?_
  refine cx_iadd C dL_law_266 ?_
  refine cx_sld C hX hbl hbA dL_law_267 (law_in (j := 2) hL hlt (by decide)) ?_
  refine cx_LLi (q := (RX8, TX8, 12)) (As := [.int (xs (cx_ix (nI i + 1))), .int (xs (cx_ix (nI i + 2)))]) (rest := []) (w1 := (wN k U (cx_sI (cx_sI (cx_sZ σ 0 y1.2.1) 1 y1.2.2.1) 2 y1.2.2.2))) hA C me_X8_parent hw_364 (c_X8_parent l D k (U 0) (U 1) (U 2) (U 3) (U 4) (U 5) (U 6) (U 7) (U 8) (U 9) (U 10) (U 11) (σ.1 0) (σ.1 1) (σ.2.2 0) (σ.1 2) (σ.2.2 1) (σ.1 3) (σ.2.2 2) (σ.1 4) (σ.2.2 3) (σ.1 5) (σ.2.2 4) (σ.1 6) (σ.2.2 5) (σ.2.2 6) (σ.1 7) (σ.2.2 7) (σ.1 8) (σ.2.2 8) (σ.1 9) (σ.2.2 9) (σ.1 10) (σ.2.2 10) (σ.1 11) (σ.2.2 11) (σ.2.2 12) (σ.1 12) (σ.2.2 13) (σ.1 13) (σ.2.2 14) (σ.1 14) (σ.2.2 15) (σ.1 15) (σ.2.2 16) (σ.1 16) (σ.2.2 17) (σ.2.2 18) (σ.1 17) (σ.2.2 19) (σ.1 18) (σ.2.2 20) (σ.1 19) (σ.2.2 21) (σ.1 20) (σ.2.2 22) (σ.1 21) (σ.2.2 23) (σ.2.2 24) (σ.1 22) (σ.2.2 25) (σ.2.2 26) (σ.2.2 27) (σ.2.2 28) (σ.1 23) (σ.2.1 0) (σ.2.1 1) (σ.2.1 2) (σ.2.1 3) (σ.2.2 29) (σ.2.2 30) (σ.2.2 31) (σ.2.2 32) (σ.2.2 33) (σ.1 24) (σ.1 25) (σ.1 26) (σ.1 27) (σ.1 28) (σ.1 29) (σ.1 30) (σ.1 31) (σ.2.1 4) (σ.2.1 5) (σ.2.1 6) (σ.1 32) (σ.2.2 34) (σ.2.2 35) (σ.2.2 36) (σ.2.2 37) (σ.2.2 38) (σ.1 33) (σ.1 34) (σ.1 35) (σ.1 36) (σ.1 37) (σ.1 38) (σ.1 39) (σ.1 40) (σ.2.1 7) (σ.2.1 8) (σ.2.1 9) (σ.1 41) (σ.2.1 10) (σ.2.1 11) (σ.2.1 12) (σ.2.1 13) (σ.1 42) (σ.2.1 14) (σ.2.1 15) (σ.2.1 16) (σ.2.1 17) (σ.2.2 39) (σ.2.2 40) (σ.2.1 18) (σ.2.1 19) (σ.2.1 20) (σ.2.1 21) (σ.1 43) (σ.2.1 22) (σ.2.1 23) (σ.2.1 24) (σ.2.1 25) (σ.2.2 41) (σ.2.2 42) (σ.2.1 26) (σ.2.1 27) (σ.2.1 28) (σ.2.1 29) (σ.2.1 30) (σ.2.1 31) (xs (cx_ix (nI i + 1))) (xs (cx_ix (nI i + 2))) y1 e1) dL_law_268 ⟨(Nat.le_of_ble_eq_true rfl), (Nat.le_of_ble_eq_true rfl)⟩ ⟨Nat.le_refl _, Nat.le_refl _⟩ rfl rfl (Nat.le_of_ble_eq_true rfl) rfl rfl rfl ?_
  refine cx_aload_n C dL_law_271 2 rfl ?_
  refine cx_aload_n C dL_law_272 0 rfl ?_
  refine cx_iload_n C dL_law_273 3 rfl ?_
  refine cx_iconst (v := 1) C dL_law_274 (by decide) ?_
  refine cx_iadd C dL_law_275 ?_
  refine cx_sld C hX hbl hbA dL_law_276 (law_in (j := 1) hL hlt (by decide)) ?_
  refine cx_aload_n C dL_law_277 0 rfl ?_
  refine cx_iload_n C dL_law_278 3 rfl ?_
  refine cx_iconst (v := 2) C dL_law_279 (by decide) ?_
  refine cx_iadd C dL_law_280 ?_
  refine cx_sld C hX hbl hbA dL_law_281 (law_in (j := 2) hL hlt (by decide)) ?_
  refine cx_LRi (q := (RX9, TX9, 24)) (As := [.int (xs (cx_ix (nI i + 1))), .int (xs (cx_ix (nI i + 2)))]) (rest := [.int y1.1]) (w1 := (wM k V (cx_sI (cx_sI τ 2 y2.2.1) 6 y2.2.2))) hA C me_X9_parent hw_1149 (c_X9_parent l D k V (τ.1 0) (τ.1 1) (τ.1 2) (τ.1 3) (τ.1 4) (τ.1 5) (τ.1 6) (τ.2.2 0) (τ.1 7) (τ.2.2 1) (τ.2.2 2) (τ.2.2 3) (τ.2.2 4) (τ.2.2 5) (τ.1 8) (τ.2.2 6) (τ.1 9) (τ.1 10) (τ.2.2 7) (τ.2.2 8) (τ.2.2 9) (τ.2.2 10) (τ.2.2 11) (τ.1 11) (xs (cx_ix (nI i + 1))) (xs (cx_ix (nI i + 2))) y2 e2) dL_law_282 ⟨(Nat.le_of_ble_eq_true rfl), (Nat.le_of_ble_eq_true rfl)⟩ ⟨Nat.le_refl _, Nat.le_refl _⟩ rfl rfl (Nat.le_of_ble_eq_true rfl) rfl rfl rfl ?_
  refine cx_icmp_eq (tgt := 1362) C dL_law_285 (by decide) (fun _ => ?_) (fun q => absurd e3 q)
  exact hN _ _ hI
set_option maxHeartbeats 4000000 in
set_option maxRecDepth 100000 in
theorem law_c2 (i : Nat) (σ τ : cx_St) (hL : L ≤ 384) (hlt : i + 6 ≤ L) (ho : ob_near Inv) (hv : Inv σ τ) (hA : A = va_A [] s.heap.size) (C : cx_C p s m #[Value.ref b] c code 4 "NamelessBoxLaw" D k) (hE : cx_E te adK adV A s s.heap) (hX : va_X b L xs s s.heap) (hbl : b < s.heap.size) (hbA : ¬ A b) (hN : ∀ σ τ : cx_St, Inv σ τ → cx_S p l e room_1 s m #[Value.ref b] below meth c A D 4 600000 7302249 (lw_Z below #[Value.ref b] s) 1362 [(0, .ref b), (1, .ref (U 0 0)), (2, .ref (V 0)), (3, .int (nI i))] [] (wN k U σ ++ wM k V τ)) : cx_S p l e room_1 s m #[Value.ref b] below meth c A D 4 600000 7302249 (lw_Z below #[Value.ref b] s) 290 [(0, .ref b), (1, .ref (U 0 0)), (2, .ref (V 0)), (3, .int (nI i))] [] (wN k U σ ++ wM k V τ) := by
  obtain ⟨y1, y2, e1, e2, e3, hI⟩ := ho σ τ (xs (cx_ix (nI i + 1))) (xs (cx_ix (nI i + 2))) hv
  refine cx_aload_n C dL_law_290 1 rfl ?_
  refine cx_aload_n C dL_law_291 0 rfl ?_
  refine cx_iload_n C dL_law_292 3 rfl ?_
  refine cx_iconst (v := 1) C dL_law_293 (by decide) ?_
  refine cx_iadd C dL_law_294 ?_
  refine cx_sld C hX hbl hbA dL_law_295 (law_in (j := 1) hL hlt (by decide)) ?_
  refine cx_aload_n C dL_law_296 0 rfl ?_
  refine cx_iload_n C dL_law_297 3 rfl ?_
  refine cx_iconst (v := 2) C dL_law_298 (by decide) ?_
  refine cx_iadd C dL_law_299 ?_
  refine cx_sld C hX hbl hbA dL_law_300 (law_in (j := 2) hL hlt (by decide)) ?_
  refine cx_LLi (q := (RX8, TX8, 12)) (As := [.int (xs (cx_ix (nI i + 1))), .int (xs (cx_ix (nI i + 2)))]) (rest := []) (w1 := (wN k U (cx_sI (cx_sI (cx_sZ σ 0 y1.2.1) 1 y1.2.2.1) 2 y1.2.2.2))) hA C me_X8_near hw_381 (c_X8_near l D k (U 0) (U 1) (U 2) (U 3) (U 4) (U 5) (U 6) (U 7) (U 8) (U 9) (U 10) (U 11) (σ.1 0) (σ.1 1) (σ.2.2 0) (σ.1 2) (σ.2.2 1) (σ.1 3) (σ.2.2 2) (σ.1 4) (σ.2.2 3) (σ.1 5) (σ.2.2 4) (σ.1 6) (σ.2.2 5) (σ.2.2 6) (σ.1 7) (σ.2.2 7) (σ.1 8) (σ.2.2 8) (σ.1 9) (σ.2.2 9) (σ.1 10) (σ.2.2 10) (σ.1 11) (σ.2.2 11) (σ.2.2 12) (σ.1 12) (σ.2.2 13) (σ.1 13) (σ.2.2 14) (σ.1 14) (σ.2.2 15) (σ.1 15) (σ.2.2 16) (σ.1 16) (σ.2.2 17) (σ.2.2 18) (σ.1 17) (σ.2.2 19) (σ.1 18) (σ.2.2 20) (σ.1 19) (σ.2.2 21) (σ.1 20) (σ.2.2 22) (σ.1 21) (σ.2.2 23) (σ.2.2 24) (σ.1 22) (σ.2.2 25) (σ.2.2 26) (σ.2.2 27) (σ.2.2 28) (σ.1 23) (σ.2.1 0) (σ.2.1 1) (σ.2.1 2) (σ.2.1 3) (σ.2.2 29) (σ.2.2 30) (σ.2.2 31) (σ.2.2 32) (σ.2.2 33) (σ.1 24) (σ.1 25) (σ.1 26) (σ.1 27) (σ.1 28) (σ.1 29) (σ.1 30) (σ.1 31) (σ.2.1 4) (σ.2.1 5) (σ.2.1 6) (σ.1 32) (σ.2.2 34) (σ.2.2 35) (σ.2.2 36) (σ.2.2 37) (σ.2.2 38) (σ.1 33) (σ.1 34) (σ.1 35) (σ.1 36) (σ.1 37) (σ.1 38) (σ.1 39) (σ.1 40) (σ.2.1 7) (σ.2.1 8) (σ.2.1 9) (σ.1 41) (σ.2.1 10) (σ.2.1 11) (σ.2.1 12) (σ.2.1 13) (σ.1 42) (σ.2.1 14) (σ.2.1 15) (σ.2.1 16) (σ.2.1 17) (σ.2.2 39) (σ.2.2 40) (σ.2.1 18) (σ.2.1 19) (σ.2.1 20) (σ.2.1 21) (σ.1 43) (σ.2.1 22) (σ.2.1 23) (σ.2.1 24) (σ.2.1 25) (σ.2.2 41) (σ.2.2 42) (σ.2.1 26) (σ.2.1 27) (σ.2.1 28) (σ.2.1 29) (σ.2.1 30) (σ.2.1 31) (xs (cx_ix (nI i + 1))) (xs (cx_ix (nI i + 2))) y1 e1) dL_law_301 ⟨(Nat.le_of_ble_eq_true rfl), (Nat.le_of_ble_eq_true rfl)⟩ ⟨Nat.le_refl _, Nat.le_refl _⟩ rfl rfl (Nat.le_of_ble_eq_true rfl) rfl rfl rfl ?_
  refine cx_aload_n C dL_law_304 2 rfl ?_
  refine cx_aload_n C dL_law_305 0 rfl ?_
  refine cx_iload_n C dL_law_306 3 rfl ?_
  refine cx_iconst (v := 1) C dL_law_307 (by decide) ?_
  refine cx_iadd C dL_law_308 ?_
  refine cx_sld C hX hbl hbA dL_law_309 (law_in (j := 1) hL hlt (by decide)) ?_
  refine cx_aload_n C dL_law_310 0 rfl ?_
  refine cx_iload_n C dL_law_311 3 rfl ?_
  refine cx_iconst (v := 2) C dL_law_312 (by decide) ?_
  refine cx_iadd C dL_law_313 ?_
  refine cx_sld C hX hbl hbA dL_law_314 (law_in (j := 2) hL hlt (by decide)) ?_
  refine cx_LRi (q := (RX9, TX9, 24)) (As := [.int (xs (cx_ix (nI i + 1))), .int (xs (cx_ix (nI i + 2)))]) (rest := [.int y1.1]) (w1 := (wM k V (cx_sI (cx_sI τ 2 y2.2.1) 6 y2.2.2))) hA C me_X9_near hw_1161 (c_X9_near l D k V (τ.1 0) (τ.1 1) (τ.1 2) (τ.1 3) (τ.1 4) (τ.1 5) (τ.1 6) (τ.2.2 0) (τ.1 7) (τ.2.2 1) (τ.2.2 2) (τ.2.2 3) (τ.2.2 4) (τ.2.2 5) (τ.1 8) (τ.2.2 6) (τ.1 9) (τ.1 10) (τ.2.2 7) (τ.2.2 8) (τ.2.2 9) (τ.2.2 10) (τ.2.2 11) (τ.1 11) (xs (cx_ix (nI i + 1))) (xs (cx_ix (nI i + 2))) y2 e2) dL_law_315 ⟨(Nat.le_of_ble_eq_true rfl), (Nat.le_of_ble_eq_true rfl)⟩ ⟨Nat.le_refl _, Nat.le_refl _⟩ rfl rfl (Nat.le_of_ble_eq_true rfl) rfl rfl rfl ?_
  refine cx_icmp_eq (tgt := 1362) C dL_law_318 (by decide) (fun _ => ?_) (fun q => absurd e3 q)
  exact hN _ _ hI
set_option maxHeartbeats 4000000 in
set_option maxRecDepth 100000 in
theorem law_c3 (i : Nat) (σ τ : cx_St) (hL : L ≤ 384) (hlt : i + 6 ≤ L) (ho : ob_picture Inv) (hv : Inv σ τ) (hA : A = va_A [] s.heap.size) (C : cx_C p s m #[Value.ref b] c code 4 "NamelessBoxLaw" D k) (hE : cx_E te adK adV A s s.heap) (hX : va_X b L xs s s.heap) (hbl : b < s.heap.size) (hbA : ¬ A b) (hN : ∀ σ τ : cx_St, Inv σ τ → cx_S p l e room_1 s m #[Value.ref b] below meth c A D 4 600000 7302249 (lw_Z below #[Value.ref b] s) 1362 [(0, .ref b), (1, .ref (U 0 0)), (2, .ref (V 0)), (3, .int (nI i))] [] (wN k U σ ++ wM k V τ)) : cx_S p l e room_1 s m #[Value.ref b] below meth c A D 4 600000 7302249 (lw_Z below #[Value.ref b] s) 323 [(0, .ref b), (1, .ref (U 0 0)), (2, .ref (V 0)), (3, .int (nI i))] [] (wN k U σ ++ wM k V τ) := by
  obtain ⟨y1, y2, e1, e2, e3, hI⟩ := ho σ τ (xs (cx_ix (nI i + 1))) (xs (cx_ix (nI i + 2))) hv
  refine cx_aload_n C dL_law_323 1 rfl ?_
  refine cx_aload_n C dL_law_324 0 rfl ?_
  refine cx_iload_n C dL_law_325 3 rfl ?_
  refine cx_iconst (v := 1) C dL_law_326 (by decide) ?_
  refine cx_iadd C dL_law_327 ?_
  refine cx_sld C hX hbl hbA dL_law_328 (law_in (j := 1) hL hlt (by decide)) ?_
  refine cx_aload_n C dL_law_329 0 rfl ?_
  refine cx_iload_n C dL_law_330 3 rfl ?_
  refine cx_iconst (v := 2) C dL_law_331 (by decide) ?_
  refine cx_iadd C dL_law_332 ?_
  refine cx_sld C hX hbl hbA dL_law_333 (law_in (j := 2) hL hlt (by decide)) ?_
  refine cx_LLi (q := (RX8, TX8, 12)) (As := [.int (xs (cx_ix (nI i + 1))), .int (xs (cx_ix (nI i + 2)))]) (rest := []) (w1 := (wN k U (cx_sI (cx_sZ (cx_sI (cx_sZ σ 0 y1.2.1) 1 y1.2.2.1) 2 y1.2.2.2.1) 3 y1.2.2.2.2))) hA C me_X8_picture hw_389 (c_X8_picture l D k (U 0) (U 1) (U 2) (U 3) (U 4) (U 5) (U 6) (U 7) (U 8) (U 9) (U 10) (U 11) (σ.1 0) (σ.1 1) (σ.2.2 0) (σ.1 2) (σ.2.2 1) (σ.1 3) (σ.2.2 2) (σ.1 4) (σ.2.2 3) (σ.1 5) (σ.2.2 4) (σ.1 6) (σ.2.2 5) (σ.2.2 6) (σ.1 7) (σ.2.2 7) (σ.1 8) (σ.2.2 8) (σ.1 9) (σ.2.2 9) (σ.1 10) (σ.2.2 10) (σ.1 11) (σ.2.2 11) (σ.2.2 12) (σ.1 12) (σ.2.2 13) (σ.1 13) (σ.2.2 14) (σ.1 14) (σ.2.2 15) (σ.1 15) (σ.2.2 16) (σ.1 16) (σ.2.2 17) (σ.2.2 18) (σ.1 17) (σ.2.2 19) (σ.1 18) (σ.2.2 20) (σ.1 19) (σ.2.2 21) (σ.1 20) (σ.2.2 22) (σ.1 21) (σ.2.2 23) (σ.2.2 24) (σ.1 22) (σ.2.2 25) (σ.2.2 26) (σ.2.2 27) (σ.2.2 28) (σ.1 23) (σ.2.1 0) (σ.2.1 1) (σ.2.1 2) (σ.2.1 3) (σ.2.2 29) (σ.2.2 30) (σ.2.2 31) (σ.2.2 32) (σ.2.2 33) (σ.1 24) (σ.1 25) (σ.1 26) (σ.1 27) (σ.1 28) (σ.1 29) (σ.1 30) (σ.1 31) (σ.2.1 4) (σ.2.1 5) (σ.2.1 6) (σ.1 32) (σ.2.2 34) (σ.2.2 35) (σ.2.2 36) (σ.2.2 37) (σ.2.2 38) (σ.1 33) (σ.1 34) (σ.1 35) (σ.1 36) (σ.1 37) (σ.1 38) (σ.1 39) (σ.1 40) (σ.2.1 7) (σ.2.1 8) (σ.2.1 9) (σ.1 41) (σ.2.1 10) (σ.2.1 11) (σ.2.1 12) (σ.2.1 13) (σ.1 42) (σ.2.1 14) (σ.2.1 15) (σ.2.1 16) (σ.2.1 17) (σ.2.2 39) (σ.2.2 40) (σ.2.1 18) (σ.2.1 19) (σ.2.1 20) (σ.2.1 21) (σ.1 43) (σ.2.1 22) (σ.2.1 23) (σ.2.1 24) (σ.2.1 25) (σ.2.2 41) (σ.2.2 42) (σ.2.1 26) (σ.2.1 27) (σ.2.1 28) (σ.2.1 29) (σ.2.1 30) (σ.2.1 31) (xs (cx_ix (nI i + 1))) (xs (cx_ix (nI i + 2))) y1 e1) dL_law_334 ⟨(Nat.le_of_ble_eq_true rfl), (Nat.le_of_ble_eq_true rfl)⟩ ⟨Nat.le_refl _, Nat.le_refl _⟩ rfl rfl (Nat.le_of_ble_eq_true rfl) rfl rfl rfl ?_
  refine cx_aload_n C dL_law_337 2 rfl ?_
  refine cx_aload_n C dL_law_338 0 rfl ?_
  refine cx_iload_n C dL_law_339 3 rfl ?_
  refine cx_iconst (v := 1) C dL_law_340 (by decide) ?_
  refine cx_iadd C dL_law_341 ?_
  refine cx_sld C hX hbl hbA dL_law_342 (law_in (j := 1) hL hlt (by decide)) ?_
  refine cx_aload_n C dL_law_343 0 rfl ?_
  refine cx_iload_n C dL_law_344 3 rfl ?_
  refine cx_iconst (v := 2) C dL_law_345 (by decide) ?_
  refine cx_iadd C dL_law_346 ?_
  refine cx_sld C hX hbl hbA dL_law_347 (law_in (j := 2) hL hlt (by decide)) ?_
  refine cx_LRi (q := (RX9, TX9, 24)) (As := [.int (xs (cx_ix (nI i + 1))), .int (xs (cx_ix (nI i + 2)))]) (rest := [.int y1.1]) (w1 := (wM k V (cx_sI (cx_sI τ 2 y2.2.1) 6 y2.2.2))) hA C me_X9_picture hw_1166 (c_X9_picture l D k V (τ.1 0) (τ.1 1) (τ.1 2) (τ.1 3) (τ.1 4) (τ.1 5) (τ.1 6) (τ.2.2 0) (τ.1 7) (τ.2.2 1) (τ.2.2 2) (τ.2.2 3) (τ.2.2 4) (τ.2.2 5) (τ.1 8) (τ.2.2 6) (τ.1 9) (τ.1 10) (τ.2.2 7) (τ.2.2 8) (τ.2.2 9) (τ.2.2 10) (τ.2.2 11) (τ.1 11) (xs (cx_ix (nI i + 1))) (xs (cx_ix (nI i + 2))) y2 e2) dL_law_348 ⟨(Nat.le_of_ble_eq_true rfl), (Nat.le_of_ble_eq_true rfl)⟩ ⟨Nat.le_refl _, Nat.le_refl _⟩ rfl rfl (Nat.le_of_ble_eq_true rfl) rfl rfl rfl ?_
  refine cx_icmp_eq (tgt := 1362) C dL_law_351 (by decide) (fun _ => ?_) (fun q => absurd e3 q)
  exact hN _ _ hI
set_option maxHeartbeats 4000000 in
set_option maxRecDepth 100000 in
theorem law_c4 (i : Nat) (σ τ : cx_St) (hL : L ≤ 384) (hlt : i + 6 ≤ L) (ho : ob_head Inv) (hv : Inv σ τ) (hA : A = va_A [] s.heap.size) (C : cx_C p s m #[Value.ref b] c code 4 "NamelessBoxLaw" D k) (hE : cx_E te adK adV A s s.heap) (hX : va_X b L xs s s.heap) (hbl : b < s.heap.size) (hbA : ¬ A b) (hN : ∀ σ τ : cx_St, Inv σ τ → cx_S p l e room_1 s m #[Value.ref b] below meth c A D 4 600000 7302249 (lw_Z below #[Value.ref b] s) 1362 [(0, .ref b), (1, .ref (U 0 0)), (2, .ref (V 0)), (3, .int (nI i))] [] (wN k U σ ++ wM k V τ)) : cx_S p l e room_1 s m #[Value.ref b] below meth c A D 4 600000 7302249 (lw_Z below #[Value.ref b] s) 356 [(0, .ref b), (1, .ref (U 0 0)), (2, .ref (V 0)), (3, .int (nI i))] [] (wN k U σ ++ wM k V τ) := by
  obtain ⟨y1, y2, e1, e2, e3, hI⟩ := ho σ τ (xs (cx_ix (nI i + 1))) (xs (cx_ix (nI i + 2))) (xs (cx_ix (nI i + 3))) (xs (cx_ix (nI i + 4))) (xs (cx_ix (nI i + 5))) hv
  refine cx_aload_n C dL_law_356 1 rfl ?_
  refine cx_aload_n C dL_law_357 0 rfl ?_
  refine cx_iload_n C dL_law_358 3 rfl ?_
  refine cx_iconst (v := 1) C dL_law_359 (by decide) ?_
  refine cx_iadd C dL_law_360 ?_
  refine cx_sld C hX hbl hbA dL_law_361 (law_in (j := 1) hL hlt (by decide)) ?_
  refine cx_aload_n C dL_law_362 0 rfl ?_
  refine cx_iload_n C dL_law_363 3 rfl ?_
  refine cx_iconst (v := 2) C dL_law_364 (by decide) ?_
  refine cx_iadd C dL_law_365 ?_
  refine cx_sld C hX hbl hbA dL_law_366 (law_in (j := 2) hL hlt (by decide)) ?_
  refine cx_aload_n C dL_law_367 0 rfl ?_
  refine cx_iload_n C dL_law_368 3 rfl ?_
  refine cx_iconst (v := 3) C dL_law_369 (by decide) ?_
  refine cx_iadd C dL_law_370 ?_
  refine cx_sld C hX hbl hbA dL_law_371 (law_in (j := 3) hL hlt (by decide)) ?_
  refine cx_aload_n C dL_law_372 0 rfl ?_
  refine cx_iload_n C dL_law_373 3 rfl ?_
  refine cx_iconst (v := 4) C dL_law_374 (by decide) ?_
  refine cx_iadd C dL_law_375 ?_
  refine cx_sld C hX hbl hbA dL_law_376 (law_in (j := 4) hL hlt (by decide)) ?_
  refine cx_aload_n C dL_law_377 0 rfl ?_
  refine cx_iload_n C dL_law_378 3 rfl ?_
  refine cx_iconst (v := 5) C dL_law_379 (by decide) ?_
  refine cx_iadd C dL_law_380 ?_
  refine cx_sld C hX hbl hbA dL_law_381 (law_in (j := 5) hL hlt (by decide)) ?_
  refine cx_LLi (q := (RX8, TX8, 12)) (As := [.int (xs (cx_ix (nI i + 1))), .int (xs (cx_ix (nI i + 2))), .int (xs (cx_ix (nI i + 3))), .int (xs (cx_ix (nI i + 4))), .int (xs (cx_ix (nI i + 5)))]) (rest := []) (w1 := (wN k U (cx_sI (cx_sZ (cx_sI (cx_sZ σ 0 y1.2.1) 1 y1.2.2.1) 3 y1.2.2.2.1) 4 y1.2.2.2.2))) hA C me_X8_head hw_397 (c_X8_head l D k (U 0) (U 1) (U 2) (U 3) (U 4) (U 5) (U 6) (U 7) (U 8) (U 9) (U 10) (U 11) (σ.1 0) (σ.1 1) (σ.2.2 0) (σ.1 2) (σ.2.2 1) (σ.1 3) (σ.2.2 2) (σ.1 4) (σ.2.2 3) (σ.1 5) (σ.2.2 4) (σ.1 6) (σ.2.2 5) (σ.2.2 6) (σ.1 7) (σ.2.2 7) (σ.1 8) (σ.2.2 8) (σ.1 9) (σ.2.2 9) (σ.1 10) (σ.2.2 10) (σ.1 11) (σ.2.2 11) (σ.2.2 12) (σ.1 12) (σ.2.2 13) (σ.1 13) (σ.2.2 14) (σ.1 14) (σ.2.2 15) (σ.1 15) (σ.2.2 16) (σ.1 16) (σ.2.2 17) (σ.2.2 18) (σ.1 17) (σ.2.2 19) (σ.1 18) (σ.2.2 20) (σ.1 19) (σ.2.2 21) (σ.1 20) (σ.2.2 22) (σ.1 21) (σ.2.2 23) (σ.2.2 24) (σ.1 22) (σ.2.2 25) (σ.2.2 26) (σ.2.2 27) (σ.2.2 28) (σ.1 23) (σ.2.1 0) (σ.2.1 1) (σ.2.1 2) (σ.2.1 3) (σ.2.2 29) (σ.2.2 30) (σ.2.2 31) (σ.2.2 32) (σ.2.2 33) (σ.1 24) (σ.1 25) (σ.1 26) (σ.1 27) (σ.1 28) (σ.1 29) (σ.1 30) (σ.1 31) (σ.2.1 4) (σ.2.1 5) (σ.2.1 6) (σ.1 32) (σ.2.2 34) (σ.2.2 35) (σ.2.2 36) (σ.2.2 37) (σ.2.2 38) (σ.1 33) (σ.1 34) (σ.1 35) (σ.1 36) (σ.1 37) (σ.1 38) (σ.1 39) (σ.1 40) (σ.2.1 7) (σ.2.1 8) (σ.2.1 9) (σ.1 41) (σ.2.1 10) (σ.2.1 11) (σ.2.1 12) (σ.2.1 13) (σ.1 42) (σ.2.1 14) (σ.2.1 15) (σ.2.1 16) (σ.2.1 17) (σ.2.2 39) (σ.2.2 40) (σ.2.1 18) (σ.2.1 19) (σ.2.1 20) (σ.2.1 21) (σ.1 43) (σ.2.1 22) (σ.2.1 23) (σ.2.1 24) (σ.2.1 25) (σ.2.2 41) (σ.2.2 42) (σ.2.1 26) (σ.2.1 27) (σ.2.1 28) (σ.2.1 29) (σ.2.1 30) (σ.2.1 31) (xs (cx_ix (nI i + 1))) (xs (cx_ix (nI i + 2))) (xs (cx_ix (nI i + 3))) (xs (cx_ix (nI i + 4))) (xs (cx_ix (nI i + 5))) y1 e1) dL_law_382 ⟨(Nat.le_of_ble_eq_true rfl), (Nat.le_of_ble_eq_true rfl)⟩ ⟨Nat.le_refl _, Nat.le_refl _⟩ rfl rfl (Nat.le_of_ble_eq_true rfl) rfl rfl rfl ?_
  refine cx_aload_n C dL_law_385 2 rfl ?_
  refine cx_aload_n C dL_law_386 0 rfl ?_
  refine cx_iload_n C dL_law_387 3 rfl ?_
  refine cx_iconst (v := 1) C dL_law_388 (by decide) ?_
  refine cx_iadd C dL_law_389 ?_
  refine cx_sld C hX hbl hbA dL_law_390 (law_in (j := 1) hL hlt (by decide)) ?_
  refine cx_aload_n C dL_law_391 0 rfl ?_
  refine cx_iload_n C dL_law_392 3 rfl ?_
  refine cx_iconst (v := 2) C dL_law_393 (by decide) ?_
  refine cx_iadd C dL_law_394 ?_
  refine cx_sld C hX hbl hbA dL_law_395 (law_in (j := 2) hL hlt (by decide)) ?_
  refine cx_aload_n C dL_law_396 0 rfl ?_
  refine cx_iload_n C dL_law_397 3 rfl ?_
  refine cx_iconst (v := 3) C dL_law_398 (by decide) ?_
  refine cx_iadd C dL_law_399 ?_
  refine cx_sld C hX hbl hbA dL_law_400 (law_in (j := 3) hL hlt (by decide)) ?_
  refine cx_aload_n C dL_law_401 0 rfl ?_
  refine cx_iload_n C dL_law_402 3 rfl ?_
  refine cx_iconst (v := 4) C dL_law_403 (by decide) ?_
  refine cx_iadd C dL_law_404 ?_
  refine cx_sld C hX hbl hbA dL_law_405 (law_in (j := 4) hL hlt (by decide)) ?_
  refine cx_aload_n C dL_law_406 0 rfl ?_
  refine cx_iload_n C dL_law_407 3 rfl ?_
  refine cx_iconst (v := 5) C dL_law_408 (by decide) ?_
  refine cx_iadd C dL_law_409 ?_
  refine cx_sld C hX hbl hbA dL_law_410 (law_in (j := 5) hL hlt (by decide)) ?_
  refine cx_LRi (q := (RX9, TX9, 24)) (As := [.int (xs (cx_ix (nI i + 1))), .int (xs (cx_ix (nI i + 2))), .int (xs (cx_ix (nI i + 3))), .int (xs (cx_ix (nI i + 4))), .int (xs (cx_ix (nI i + 5)))]) (rest := [.int y1.1]) (w1 := (wM k V (cx_sI (cx_sI τ 2 y2.2.1) 6 y2.2.2))) hA C me_X9_head hw_1170 (c_X9_head l D k V (τ.1 0) (τ.1 1) (τ.1 2) (τ.1 3) (τ.1 4) (τ.1 5) (τ.1 6) (τ.2.2 0) (τ.1 7) (τ.2.2 1) (τ.2.2 2) (τ.2.2 3) (τ.2.2 4) (τ.2.2 5) (τ.1 8) (τ.2.2 6) (τ.1 9) (τ.1 10) (τ.2.2 7) (τ.2.2 8) (τ.2.2 9) (τ.2.2 10) (τ.2.2 11) (τ.1 11) (xs (cx_ix (nI i + 1))) (xs (cx_ix (nI i + 2))) (xs (cx_ix (nI i + 3))) (xs (cx_ix (nI i + 4))) (xs (cx_ix (nI i + 5))) y2 e2) dL_law_411 ⟨(Nat.le_of_ble_eq_true rfl), (Nat.le_of_ble_eq_true rfl)⟩ ⟨Nat.le_refl _, Nat.le_refl _⟩ rfl rfl (Nat.le_of_ble_eq_true rfl) rfl rfl rfl ?_
  refine cx_icmp_eq (tgt := 1362) C dL_law_414 (by decide) (fun _ => ?_) (fun q => absurd e3 q)
  exact hN _ _ hI
set_option maxHeartbeats 4000000 in
set_option maxRecDepth 100000 in
theorem law_c5 (i : Nat) (σ τ : cx_St) (hL : L ≤ 384) (hlt : i + 6 ≤ L) (ho : ob_name Inv) (hv : Inv σ τ) (hA : A = va_A [] s.heap.size) (C : cx_C p s m #[Value.ref b] c code 4 "NamelessBoxLaw" D k) (hE : cx_E te adK adV A s s.heap) (hX : va_X b L xs s s.heap) (hbl : b < s.heap.size) (hbA : ¬ A b) (hN : ∀ σ τ : cx_St, Inv σ τ → cx_S p l e room_1 s m #[Value.ref b] below meth c A D 4 600000 7302249 (lw_Z below #[Value.ref b] s) 1362 [(0, .ref b), (1, .ref (U 0 0)), (2, .ref (V 0)), (3, .int (nI i))] [] (wN k U σ ++ wM k V τ)) : cx_S p l e room_1 s m #[Value.ref b] below meth c A D 4 600000 7302249 (lw_Z below #[Value.ref b] s) 419 [(0, .ref b), (1, .ref (U 0 0)), (2, .ref (V 0)), (3, .int (nI i))] [] (wN k U σ ++ wM k V τ) := by
  obtain ⟨y1, y2, e1, e2, e3, hI⟩ := ho σ τ (xs (cx_ix (nI i + 1))) (xs (cx_ix (nI i + 2))) (xs (cx_ix (nI i + 3))) (xs (cx_ix (nI i + 4))) hv
  refine cx_aload_n C dL_law_419 1 rfl ?_
  refine cx_aload_n C dL_law_420 0 rfl ?_
  refine cx_iload_n C dL_law_421 3 rfl ?_
  refine cx_iconst (v := 1) C dL_law_422 (by decide) ?_
  refine cx_iadd C dL_law_423 ?_
  refine cx_sld C hX hbl hbA dL_law_424 (law_in (j := 1) hL hlt (by decide)) ?_
  refine cx_aload_n C dL_law_425 0 rfl ?_
  refine cx_iload_n C dL_law_426 3 rfl ?_
  refine cx_iconst (v := 2) C dL_law_427 (by decide) ?_
  refine cx_iadd C dL_law_428 ?_
  refine cx_sld C hX hbl hbA dL_law_429 (law_in (j := 2) hL hlt (by decide)) ?_
  refine cx_aload_n C dL_law_430 0 rfl ?_
  refine cx_iload_n C dL_law_431 3 rfl ?_
  refine cx_iconst (v := 3) C dL_law_432 (by decide) ?_
  refine cx_iadd C dL_law_433 ?_
  refine cx_sld C hX hbl hbA dL_law_434 (law_in (j := 3) hL hlt (by decide)) ?_
  refine cx_aload_n C dL_law_435 0 rfl ?_
  refine cx_iload_n C dL_law_436 3 rfl ?_
  refine cx_iconst (v := 4) C dL_law_437 (by decide) ?_
  refine cx_iadd C dL_law_438 ?_
  refine cx_sld C hX hbl hbA dL_law_439 (law_in (j := 4) hL hlt (by decide)) ?_
  refine cx_LLi (q := (RX8, TX8, 12)) (As := [.int (xs (cx_ix (nI i + 1))), .int (xs (cx_ix (nI i + 2))), .int (xs (cx_ix (nI i + 3))), .int (xs (cx_ix (nI i + 4)))]) (rest := []) (w1 := (wN k U (cx_sI (cx_sZ (cx_sI (cx_sZ σ 0 y1.2.1) 1 y1.2.2.1) 4 y1.2.2.2.1) 5 y1.2.2.2.2))) hA C me_X8_name hw_405 (c_X8_name l D k (U 0) (U 1) (U 2) (U 3) (U 4) (U 5) (U 6) (U 7) (U 8) (U 9) (U 10) (U 11) (σ.1 0) (σ.1 1) (σ.2.2 0) (σ.1 2) (σ.2.2 1) (σ.1 3) (σ.2.2 2) (σ.1 4) (σ.2.2 3) (σ.1 5) (σ.2.2 4) (σ.1 6) (σ.2.2 5) (σ.2.2 6) (σ.1 7) (σ.2.2 7) (σ.1 8) (σ.2.2 8) (σ.1 9) (σ.2.2 9) (σ.1 10) (σ.2.2 10) (σ.1 11) (σ.2.2 11) (σ.2.2 12) (σ.1 12) (σ.2.2 13) (σ.1 13) (σ.2.2 14) (σ.1 14) (σ.2.2 15) (σ.1 15) (σ.2.2 16) (σ.1 16) (σ.2.2 17) (σ.2.2 18) (σ.1 17) (σ.2.2 19) (σ.1 18) (σ.2.2 20) (σ.1 19) (σ.2.2 21) (σ.1 20) (σ.2.2 22) (σ.1 21) (σ.2.2 23) (σ.2.2 24) (σ.1 22) (σ.2.2 25) (σ.2.2 26) (σ.2.2 27) (σ.2.2 28) (σ.1 23) (σ.2.1 0) (σ.2.1 1) (σ.2.1 2) (σ.2.1 3) (σ.2.2 29) (σ.2.2 30) (σ.2.2 31) (σ.2.2 32) (σ.2.2 33) (σ.1 24) (σ.1 25) (σ.1 26) (σ.1 27) (σ.1 28) (σ.1 29) (σ.1 30) (σ.1 31) (σ.2.1 4) (σ.2.1 5) (σ.2.1 6) (σ.1 32) (σ.2.2 34) (σ.2.2 35) (σ.2.2 36) (σ.2.2 37) (σ.2.2 38) (σ.1 33) (σ.1 34) (σ.1 35) (σ.1 36) (σ.1 37) (σ.1 38) (σ.1 39) (σ.1 40) (σ.2.1 7) (σ.2.1 8) (σ.2.1 9) (σ.1 41) (σ.2.1 10) (σ.2.1 11) (σ.2.1 12) (σ.2.1 13) (σ.1 42) (σ.2.1 14) (σ.2.1 15) (σ.2.1 16) (σ.2.1 17) (σ.2.2 39) (σ.2.2 40) (σ.2.1 18) (σ.2.1 19) (σ.2.1 20) (σ.2.1 21) (σ.1 43) (σ.2.1 22) (σ.2.1 23) (σ.2.1 24) (σ.2.1 25) (σ.2.2 41) (σ.2.2 42) (σ.2.1 26) (σ.2.1 27) (σ.2.1 28) (σ.2.1 29) (σ.2.1 30) (σ.2.1 31) (xs (cx_ix (nI i + 1))) (xs (cx_ix (nI i + 2))) (xs (cx_ix (nI i + 3))) (xs (cx_ix (nI i + 4))) y1 e1) dL_law_440 ⟨(Nat.le_of_ble_eq_true rfl), (Nat.le_of_ble_eq_true rfl)⟩ ⟨Nat.le_refl _, Nat.le_refl _⟩ rfl rfl (Nat.le_of_ble_eq_true rfl) rfl rfl rfl ?_
  refine cx_aload_n C dL_law_443 2 rfl ?_
  refine cx_aload_n C dL_law_444 0 rfl ?_
  refine cx_iload_n C dL_law_445 3 rfl ?_
  refine cx_iconst (v := 1) C dL_law_446 (by decide) ?_
  refine cx_iadd C dL_law_447 ?_
  refine cx_sld C hX hbl hbA dL_law_448 (law_in (j := 1) hL hlt (by decide)) ?_
  refine cx_aload_n C dL_law_449 0 rfl ?_
  refine cx_iload_n C dL_law_450 3 rfl ?_
  refine cx_iconst (v := 2) C dL_law_451 (by decide) ?_
  refine cx_iadd C dL_law_452 ?_
  refine cx_sld C hX hbl hbA dL_law_453 (law_in (j := 2) hL hlt (by decide)) ?_
  refine cx_aload_n C dL_law_454 0 rfl ?_
  refine cx_iload_n C dL_law_455 3 rfl ?_
  refine cx_iconst (v := 3) C dL_law_456 (by decide) ?_
  refine cx_iadd C dL_law_457 ?_
  refine cx_sld C hX hbl hbA dL_law_458 (law_in (j := 3) hL hlt (by decide)) ?_
  refine cx_aload_n C dL_law_459 0 rfl ?_
  refine cx_iload_n C dL_law_460 3 rfl ?_
  refine cx_iconst (v := 4) C dL_law_461 (by decide) ?_
  refine cx_iadd C dL_law_462 ?_
  refine cx_sld C hX hbl hbA dL_law_463 (law_in (j := 4) hL hlt (by decide)) ?_
  refine cx_LRi (q := (RX9, TX9, 24)) (As := [.int (xs (cx_ix (nI i + 1))), .int (xs (cx_ix (nI i + 2))), .int (xs (cx_ix (nI i + 3))), .int (xs (cx_ix (nI i + 4)))]) (rest := [.int y1.1]) (w1 := (wM k V (cx_sI (cx_sI τ 2 y2.2.1) 6 y2.2.2))) hA C me_X9_name hw_1178 (c_X9_name l D k V (τ.1 0) (τ.1 1) (τ.1 2) (τ.1 3) (τ.1 4) (τ.1 5) (τ.1 6) (τ.2.2 0) (τ.1 7) (τ.2.2 1) (τ.2.2 2) (τ.2.2 3) (τ.2.2 4) (τ.2.2 5) (τ.1 8) (τ.2.2 6) (τ.1 9) (τ.1 10) (τ.2.2 7) (τ.2.2 8) (τ.2.2 9) (τ.2.2 10) (τ.2.2 11) (τ.1 11) (xs (cx_ix (nI i + 1))) (xs (cx_ix (nI i + 2))) (xs (cx_ix (nI i + 3))) (xs (cx_ix (nI i + 4))) y2 e2) dL_law_464 ⟨(Nat.le_of_ble_eq_true rfl), (Nat.le_of_ble_eq_true rfl)⟩ ⟨Nat.le_refl _, Nat.le_refl _⟩ rfl rfl (Nat.le_of_ble_eq_true rfl) rfl rfl rfl ?_
  refine cx_icmp_eq (tgt := 1362) C dL_law_467 (by decide) (fun _ => ?_) (fun q => absurd e3 q)
  exact hN _ _ hI
set_option maxHeartbeats 4000000 in
set_option maxRecDepth 100000 in
theorem law_c6 (i : Nat) (σ τ : cx_St) (hL : L ≤ 384) (hlt : i + 6 ≤ L) (ho : ob_join Inv) (hv : Inv σ τ) (hA : A = va_A [] s.heap.size) (C : cx_C p s m #[Value.ref b] c code 4 "NamelessBoxLaw" D k) (hE : cx_E te adK adV A s s.heap) (hX : va_X b L xs s s.heap) (hbl : b < s.heap.size) (hbA : ¬ A b) (hN : ∀ σ τ : cx_St, Inv σ τ → cx_S p l e room_1 s m #[Value.ref b] below meth c A D 4 600000 7302249 (lw_Z below #[Value.ref b] s) 1362 [(0, .ref b), (1, .ref (U 0 0)), (2, .ref (V 0)), (3, .int (nI i))] [] (wN k U σ ++ wM k V τ)) : cx_S p l e room_1 s m #[Value.ref b] below meth c A D 4 600000 7302249 (lw_Z below #[Value.ref b] s) 472 [(0, .ref b), (1, .ref (U 0 0)), (2, .ref (V 0)), (3, .int (nI i))] [] (wN k U σ ++ wM k V τ) := by
  obtain ⟨y1, y2, e1, e2, e3, hI⟩ := ho σ τ (xs (cx_ix (nI i + 1))) (xs (cx_ix (nI i + 2))) (xs (cx_ix (nI i + 3))) hv
  refine cx_aload_n C dL_law_472 1 rfl ?_
  refine cx_aload_n C dL_law_473 0 rfl ?_
  refine cx_iload_n C dL_law_474 3 rfl ?_
  refine cx_iconst (v := 1) C dL_law_475 (by decide) ?_
  refine cx_iadd C dL_law_476 ?_
  refine cx_sld C hX hbl hbA dL_law_477 (law_in (j := 1) hL hlt (by decide)) ?_
  refine cx_aload_n C dL_law_478 0 rfl ?_
  refine cx_iload_n C dL_law_479 3 rfl ?_
  refine cx_iconst (v := 2) C dL_law_480 (by decide) ?_
  refine cx_iadd C dL_law_481 ?_
  refine cx_sld C hX hbl hbA dL_law_482 (law_in (j := 2) hL hlt (by decide)) ?_
  refine cx_aload_n C dL_law_483 0 rfl ?_
  refine cx_iload_n C dL_law_484 3 rfl ?_
  refine cx_iconst (v := 3) C dL_law_485 (by decide) ?_
  refine cx_iadd C dL_law_486 ?_
  refine cx_sld C hX hbl hbA dL_law_487 (law_in (j := 3) hL hlt (by decide)) ?_
  refine cx_LLi (q := (RX8, TX8, 12)) (As := [.int (xs (cx_ix (nI i + 1))), .int (xs (cx_ix (nI i + 2))), .int (xs (cx_ix (nI i + 3)))]) (rest := []) (w1 := (wN k U (cx_sI (cx_sZ (cx_sI (cx_sZ σ 0 y1.2.1) 1 y1.2.2.1) 5 y1.2.2.2.1) 6 y1.2.2.2.2))) hA C me_X8_join hw_413 (c_X8_join l D k (U 0) (U 1) (U 2) (U 3) (U 4) (U 5) (U 6) (U 7) (U 8) (U 9) (U 10) (U 11) (σ.1 0) (σ.1 1) (σ.2.2 0) (σ.1 2) (σ.2.2 1) (σ.1 3) (σ.2.2 2) (σ.1 4) (σ.2.2 3) (σ.1 5) (σ.2.2 4) (σ.1 6) (σ.2.2 5) (σ.2.2 6) (σ.1 7) (σ.2.2 7) (σ.1 8) (σ.2.2 8) (σ.1 9) (σ.2.2 9) (σ.1 10) (σ.2.2 10) (σ.1 11) (σ.2.2 11) (σ.2.2 12) (σ.1 12) (σ.2.2 13) (σ.1 13) (σ.2.2 14) (σ.1 14) (σ.2.2 15) (σ.1 15) (σ.2.2 16) (σ.1 16) (σ.2.2 17) (σ.2.2 18) (σ.1 17) (σ.2.2 19) (σ.1 18) (σ.2.2 20) (σ.1 19) (σ.2.2 21) (σ.1 20) (σ.2.2 22) (σ.1 21) (σ.2.2 23) (σ.2.2 24) (σ.1 22) (σ.2.2 25) (σ.2.2 26) (σ.2.2 27) (σ.2.2 28) (σ.1 23) (σ.2.1 0) (σ.2.1 1) (σ.2.1 2) (σ.2.1 3) (σ.2.2 29) (σ.2.2 30) (σ.2.2 31) (σ.2.2 32) (σ.2.2 33) (σ.1 24) (σ.1 25) (σ.1 26) (σ.1 27) (σ.1 28) (σ.1 29) (σ.1 30) (σ.1 31) (σ.2.1 4) (σ.2.1 5) (σ.2.1 6) (σ.1 32) (σ.2.2 34) (σ.2.2 35) (σ.2.2 36) (σ.2.2 37) (σ.2.2 38) (σ.1 33) (σ.1 34) (σ.1 35) (σ.1 36) (σ.1 37) (σ.1 38) (σ.1 39) (σ.1 40) (σ.2.1 7) (σ.2.1 8) (σ.2.1 9) (σ.1 41) (σ.2.1 10) (σ.2.1 11) (σ.2.1 12) (σ.2.1 13) (σ.1 42) (σ.2.1 14) (σ.2.1 15) (σ.2.1 16) (σ.2.1 17) (σ.2.2 39) (σ.2.2 40) (σ.2.1 18) (σ.2.1 19) (σ.2.1 20) (σ.2.1 21) (σ.1 43) (σ.2.1 22) (σ.2.1 23) (σ.2.1 24) (σ.2.1 25) (σ.2.2 41) (σ.2.2 42) (σ.2.1 26) (σ.2.1 27) (σ.2.1 28) (σ.2.1 29) (σ.2.1 30) (σ.2.1 31) (xs (cx_ix (nI i + 1))) (xs (cx_ix (nI i + 2))) (xs (cx_ix (nI i + 3))) y1 e1) dL_law_488 ⟨(Nat.le_of_ble_eq_true rfl), (Nat.le_of_ble_eq_true rfl)⟩ ⟨Nat.le_refl _, Nat.le_refl _⟩ rfl rfl (Nat.le_of_ble_eq_true rfl) rfl rfl rfl ?_
  refine cx_aload_n C dL_law_491 2 rfl ?_
  refine cx_aload_n C dL_law_492 0 rfl ?_
  refine cx_iload_n C dL_law_493 3 rfl ?_
  refine cx_iconst (v := 1) C dL_law_494 (by decide) ?_
  refine cx_iadd C dL_law_495 ?_
  refine cx_sld C hX hbl hbA dL_law_496 (law_in (j := 1) hL hlt (by decide)) ?_
  refine cx_aload_n C dL_law_497 0 rfl ?_
  refine cx_iload_n C dL_law_498 3 rfl ?_
  refine cx_iconst (v := 2) C dL_law_499 (by decide) ?_
  refine cx_iadd C dL_law_500 ?_
  refine cx_sld C hX hbl hbA dL_law_501 (law_in (j := 2) hL hlt (by decide)) ?_
  refine cx_aload_n C dL_law_502 0 rfl ?_
  refine cx_iload_n C dL_law_503 3 rfl ?_
  refine cx_iconst (v := 3) C dL_law_504 (by decide) ?_
  refine cx_iadd C dL_law_505 ?_
  refine cx_sld C hX hbl hbA dL_law_506 (law_in (j := 3) hL hlt (by decide)) ?_
  refine cx_LRi (q := (RX9, TX9, 24)) (As := [.int (xs (cx_ix (nI i + 1))), .int (xs (cx_ix (nI i + 2))), .int (xs (cx_ix (nI i + 3)))]) (rest := [.int y1.1]) (w1 := (wM k V (cx_sI (cx_sI τ 2 y2.2.1) 6 y2.2.2))) hA C me_X9_join hw_1187 (c_X9_join l D k V (τ.1 0) (τ.1 1) (τ.1 2) (τ.1 3) (τ.1 4) (τ.1 5) (τ.1 6) (τ.2.2 0) (τ.1 7) (τ.2.2 1) (τ.2.2 2) (τ.2.2 3) (τ.2.2 4) (τ.2.2 5) (τ.1 8) (τ.2.2 6) (τ.1 9) (τ.1 10) (τ.2.2 7) (τ.2.2 8) (τ.2.2 9) (τ.2.2 10) (τ.2.2 11) (τ.1 11) (xs (cx_ix (nI i + 1))) (xs (cx_ix (nI i + 2))) (xs (cx_ix (nI i + 3))) y2 e2) dL_law_507 ⟨(Nat.le_of_ble_eq_true rfl), (Nat.le_of_ble_eq_true rfl)⟩ ⟨Nat.le_refl _, Nat.le_refl _⟩ rfl rfl (Nat.le_of_ble_eq_true rfl) rfl rfl rfl ?_
  refine cx_icmp_eq (tgt := 1362) C dL_law_510 (by decide) (fun _ => ?_) (fun q => absurd e3 q)
  exact hN _ _ hI
set_option maxHeartbeats 4000000 in
set_option maxRecDepth 100000 in
theorem law_c7 (i : Nat) (σ τ : cx_St) (hL : L ≤ 384) (hlt : i + 6 ≤ L) (ho : ob_strange Inv) (hv : Inv σ τ) (hA : A = va_A [] s.heap.size) (C : cx_C p s m #[Value.ref b] c code 4 "NamelessBoxLaw" D k) (hE : cx_E te adK adV A s s.heap) (hX : va_X b L xs s s.heap) (hbl : b < s.heap.size) (hbA : ¬ A b) (hN : ∀ σ τ : cx_St, Inv σ τ → cx_S p l e room_1 s m #[Value.ref b] below meth c A D 4 600000 7302249 (lw_Z below #[Value.ref b] s) 1362 [(0, .ref b), (1, .ref (U 0 0)), (2, .ref (V 0)), (3, .int (nI i))] [] (wN k U σ ++ wM k V τ)) : cx_S p l e room_1 s m #[Value.ref b] below meth c A D 4 600000 7302249 (lw_Z below #[Value.ref b] s) 515 [(0, .ref b), (1, .ref (U 0 0)), (2, .ref (V 0)), (3, .int (nI i))] [] (wN k U σ ++ wM k V τ) := by
  obtain ⟨y1, y2, e1, e2, e3, hI⟩ := ho σ τ (xs (cx_ix (nI i + 1))) hv
  refine cx_aload_n C dL_law_515 1 rfl ?_
  refine cx_aload_n C dL_law_516 0 rfl ?_
  refine cx_iload_n C dL_law_517 3 rfl ?_
  refine cx_iconst (v := 1) C dL_law_518 (by decide) ?_
  refine cx_iadd C dL_law_519 ?_
  refine cx_sld C hX hbl hbA dL_law_520 (law_in (j := 1) hL hlt (by decide)) ?_
  refine cx_LLi (q := (RX8, TX8, 12)) (As := [.int (xs (cx_ix (nI i + 1)))]) (rest := []) (w1 := (wN k U (cx_sZ (cx_sI (cx_sZ σ 0 y1.2.1) 1 y1.2.2.1) 6 y1.2.2.2))) hA C me_X8_strange hw_421 (c_X8_strange l D k (U 0) (U 1) (U 2) (U 3) (U 4) (U 5) (U 6) (U 7) (U 8) (U 9) (U 10) (U 11) (σ.1 0) (σ.1 1) (σ.2.2 0) (σ.1 2) (σ.2.2 1) (σ.1 3) (σ.2.2 2) (σ.1 4) (σ.2.2 3) (σ.1 5) (σ.2.2 4) (σ.1 6) (σ.2.2 5) (σ.2.2 6) (σ.1 7) (σ.2.2 7) (σ.1 8) (σ.2.2 8) (σ.1 9) (σ.2.2 9) (σ.1 10) (σ.2.2 10) (σ.1 11) (σ.2.2 11) (σ.2.2 12) (σ.1 12) (σ.2.2 13) (σ.1 13) (σ.2.2 14) (σ.1 14) (σ.2.2 15) (σ.1 15) (σ.2.2 16) (σ.1 16) (σ.2.2 17) (σ.2.2 18) (σ.1 17) (σ.2.2 19) (σ.1 18) (σ.2.2 20) (σ.1 19) (σ.2.2 21) (σ.1 20) (σ.2.2 22) (σ.1 21) (σ.2.2 23) (σ.2.2 24) (σ.1 22) (σ.2.2 25) (σ.2.2 26) (σ.2.2 27) (σ.2.2 28) (σ.1 23) (σ.2.1 0) (σ.2.1 1) (σ.2.1 2) (σ.2.1 3) (σ.2.2 29) (σ.2.2 30) (σ.2.2 31) (σ.2.2 32) (σ.2.2 33) (σ.1 24) (σ.1 25) (σ.1 26) (σ.1 27) (σ.1 28) (σ.1 29) (σ.1 30) (σ.1 31) (σ.2.1 4) (σ.2.1 5) (σ.2.1 6) (σ.1 32) (σ.2.2 34) (σ.2.2 35) (σ.2.2 36) (σ.2.2 37) (σ.2.2 38) (σ.1 33) (σ.1 34) (σ.1 35) (σ.1 36) (σ.1 37) (σ.1 38) (σ.1 39) (σ.1 40) (σ.2.1 7) (σ.2.1 8) (σ.2.1 9) (σ.1 41) (σ.2.1 10) (σ.2.1 11) (σ.2.1 12) (σ.2.1 13) (σ.1 42) (σ.2.1 14) (σ.2.1 15) (σ.2.1 16) (σ.2.1 17) (σ.2.2 39) (σ.2.2 40) (σ.2.1 18) (σ.2.1 19) (σ.2.1 20) (σ.2.1 21) (σ.1 43) (σ.2.1 22) (σ.2.1 23) (σ.2.1 24) (σ.2.1 25) (σ.2.2 41) (σ.2.2 42) (σ.2.1 26) (σ.2.1 27) (σ.2.1 28) (σ.2.1 29) (σ.2.1 30) (σ.2.1 31) (xs (cx_ix (nI i + 1))) y1 e1) dL_law_521 ⟨(Nat.le_of_ble_eq_true rfl), (Nat.le_of_ble_eq_true rfl)⟩ ⟨Nat.le_refl _, Nat.le_refl _⟩ rfl rfl (Nat.le_of_ble_eq_true rfl) rfl rfl rfl ?_
  refine cx_aload_n C dL_law_524 2 rfl ?_
  refine cx_aload_n C dL_law_525 0 rfl ?_
  refine cx_iload_n C dL_law_526 3 rfl ?_
  refine cx_iconst (v := 1) C dL_law_527 (by decide) ?_
  refine cx_iadd C dL_law_528 ?_
  refine cx_sld C hX hbl hbA dL_law_529 (law_in (j := 1) hL hlt (by decide)) ?_
  refine cx_LRi (q := (RX9, TX9, 24)) (As := [.int (xs (cx_ix (nI i + 1)))]) (rest := [.int y1.1]) (w1 := (wM k V (cx_sI (cx_sI τ 2 y2.2.1) 6 y2.2.2))) hA C me_X9_strange hw_1196 (c_X9_strange l D k V (τ.1 0) (τ.1 1) (τ.1 2) (τ.1 3) (τ.1 4) (τ.1 5) (τ.1 6) (τ.2.2 0) (τ.1 7) (τ.2.2 1) (τ.2.2 2) (τ.2.2 3) (τ.2.2 4) (τ.2.2 5) (τ.1 8) (τ.2.2 6) (τ.1 9) (τ.1 10) (τ.2.2 7) (τ.2.2 8) (τ.2.2 9) (τ.2.2 10) (τ.2.2 11) (τ.1 11) (xs (cx_ix (nI i + 1))) y2 e2) dL_law_530 ⟨(Nat.le_of_ble_eq_true rfl), (Nat.le_of_ble_eq_true rfl)⟩ ⟨Nat.le_refl _, Nat.le_refl _⟩ rfl rfl (Nat.le_of_ble_eq_true rfl) rfl rfl rfl ?_
  refine cx_icmp_eq (tgt := 1362) C dL_law_533 (by decide) (fun _ => ?_) (fun q => absurd e3 q)
  exact hN _ _ hI
set_option maxHeartbeats 4000000 in
set_option maxRecDepth 100000 in
theorem law_c8 (i : Nat) (σ τ : cx_St) (hL : L ≤ 384) (hlt : i + 6 ≤ L) (ho : ob_mark Inv) (hv : Inv σ τ) (hA : A = va_A [] s.heap.size) (C : cx_C p s m #[Value.ref b] c code 4 "NamelessBoxLaw" D k) (hE : cx_E te adK adV A s s.heap) (hX : va_X b L xs s s.heap) (hbl : b < s.heap.size) (hbA : ¬ A b) (hN : ∀ σ τ : cx_St, Inv σ τ → cx_S p l e room_1 s m #[Value.ref b] below meth c A D 4 600000 7302249 (lw_Z below #[Value.ref b] s) 1362 [(0, .ref b), (1, .ref (U 0 0)), (2, .ref (V 0)), (3, .int (nI i))] [] (wN k U σ ++ wM k V τ)) : cx_S p l e room_1 s m #[Value.ref b] below meth c A D 4 600000 7302249 (lw_Z below #[Value.ref b] s) 538 [(0, .ref b), (1, .ref (U 0 0)), (2, .ref (V 0)), (3, .int (nI i))] [] (wN k U σ ++ wM k V τ) := by
  obtain ⟨y1, y2, e1, e2, e3, hI⟩ := ho σ τ (xs (cx_ix (nI i + 1))) (xs (cx_ix (nI i + 2))) hv
  refine cx_aload_n C dL_law_538 1 rfl ?_
  refine cx_aload_n C dL_law_539 0 rfl ?_
  refine cx_iload_n C dL_law_540 3 rfl ?_
  refine cx_iconst (v := 1) C dL_law_541 (by decide) ?_
  refine cx_iadd C dL_law_542 ?_
  refine cx_sld C hX hbl hbA dL_law_543 (law_in (j := 1) hL hlt (by decide)) ?_
  refine cx_aload_n C dL_law_544 0 rfl ?_
  refine cx_iload_n C dL_law_545 3 rfl ?_
  refine cx_iconst (v := 2) C dL_law_546 (by decide) ?_
  refine cx_iadd C dL_law_547 ?_
  refine cx_sld C hX hbl hbA dL_law_548 (law_in (j := 2) hL hlt (by decide)) ?_
  refine cx_LLi (q := (RX8, TX8, 12)) (As := [.int (xs (cx_ix (nI i + 1))), .int (xs (cx_ix (nI i + 2)))]) (rest := []) (w1 := (wN k U (cx_sI σ 1 y1.2))) hA C me_X8_mark hw_429 (c_X8_mark l D k (U 0) (U 1) (U 2) (U 3) (U 4) (U 5) (U 6) (U 7) (U 8) (U 9) (U 10) (U 11) (σ.1 0) (σ.1 1) (σ.2.2 0) (σ.1 2) (σ.2.2 1) (σ.1 3) (σ.2.2 2) (σ.1 4) (σ.2.2 3) (σ.1 5) (σ.2.2 4) (σ.1 6) (σ.2.2 5) (σ.2.2 6) (σ.1 7) (σ.2.2 7) (σ.1 8) (σ.2.2 8) (σ.1 9) (σ.2.2 9) (σ.1 10) (σ.2.2 10) (σ.1 11) (σ.2.2 11) (σ.2.2 12) (σ.1 12) (σ.2.2 13) (σ.1 13) (σ.2.2 14) (σ.1 14) (σ.2.2 15) (σ.1 15) (σ.2.2 16) (σ.1 16) (σ.2.2 17) (σ.2.2 18) (σ.1 17) (σ.2.2 19) (σ.1 18) (σ.2.2 20) (σ.1 19) (σ.2.2 21) (σ.1 20) (σ.2.2 22) (σ.1 21) (σ.2.2 23) (σ.2.2 24) (σ.1 22) (σ.2.2 25) (σ.2.2 26) (σ.2.2 27) (σ.2.2 28) (σ.1 23) (σ.2.1 0) (σ.2.1 1) (σ.2.1 2) (σ.2.1 3) (σ.2.2 29) (σ.2.2 30) (σ.2.2 31) (σ.2.2 32) (σ.2.2 33) (σ.1 24) (σ.1 25) (σ.1 26) (σ.1 27) (σ.1 28) (σ.1 29) (σ.1 30) (σ.1 31) (σ.2.1 4) (σ.2.1 5) (σ.2.1 6) (σ.1 32) (σ.2.2 34) (σ.2.2 35) (σ.2.2 36) (σ.2.2 37) (σ.2.2 38) (σ.1 33) (σ.1 34) (σ.1 35) (σ.1 36) (σ.1 37) (σ.1 38) (σ.1 39) (σ.1 40) (σ.2.1 7) (σ.2.1 8) (σ.2.1 9) (σ.1 41) (σ.2.1 10) (σ.2.1 11) (σ.2.1 12) (σ.2.1 13) (σ.1 42) (σ.2.1 14) (σ.2.1 15) (σ.2.1 16) (σ.2.1 17) (σ.2.2 39) (σ.2.2 40) (σ.2.1 18) (σ.2.1 19) (σ.2.1 20) (σ.2.1 21) (σ.1 43) (σ.2.1 22) (σ.2.1 23) (σ.2.1 24) (σ.2.1 25) (σ.2.2 41) (σ.2.2 42) (σ.2.1 26) (σ.2.1 27) (σ.2.1 28) (σ.2.1 29) (σ.2.1 30) (σ.2.1 31) (xs (cx_ix (nI i + 1))) (xs (cx_ix (nI i + 2))) y1 e1) dL_law_549 ⟨(Nat.le_of_ble_eq_true rfl), (Nat.le_of_ble_eq_true rfl)⟩ ⟨Nat.le_refl _, Nat.le_refl _⟩ rfl rfl (Nat.le_of_ble_eq_true rfl) rfl rfl rfl ?_
  refine cx_aload_n C dL_law_552 2 rfl ?_
  refine cx_aload_n C dL_law_553 0 rfl ?_
  refine cx_iload_n C dL_law_554 3 rfl ?_
  refine cx_iconst (v := 1) C dL_law_555 (by decide) ?_
  refine cx_iadd C dL_law_556 ?_
  refine cx_sld C hX hbl hbA dL_law_557 (law_in (j := 1) hL hlt (by decide)) ?_
  refine cx_aload_n C dL_law_558 0 rfl ?_
  refine cx_iload_n C dL_law_559 3 rfl ?_
  refine cx_iconst (v := 2) C dL_law_560 (by decide) ?_
  refine cx_iadd C dL_law_561 ?_
  refine cx_sld C hX hbl hbA dL_law_562 (law_in (j := 2) hL hlt (by decide)) ?_
  refine cx_LRi (q := (RX9, TX9, 24)) (As := [.int (xs (cx_ix (nI i + 1))), .int (xs (cx_ix (nI i + 2)))]) (rest := [.int y1.1]) (w1 := (wM k V (cx_sI τ 6 y2.2))) hA C me_X9_mark hw_1201 (c_X9_mark l D k V (τ.1 0) (τ.1 1) (τ.1 2) (τ.1 3) (τ.1 4) (τ.1 5) (τ.1 6) (τ.2.2 0) (τ.1 7) (τ.2.2 1) (τ.2.2 2) (τ.2.2 3) (τ.2.2 4) (τ.2.2 5) (τ.1 8) (τ.2.2 6) (τ.1 9) (τ.1 10) (τ.2.2 7) (τ.2.2 8) (τ.2.2 9) (τ.2.2 10) (τ.2.2 11) (τ.1 11) (xs (cx_ix (nI i + 1))) (xs (cx_ix (nI i + 2))) y2 e2) dL_law_563 ⟨(Nat.le_of_ble_eq_true rfl), (Nat.le_of_ble_eq_true rfl)⟩ ⟨Nat.le_refl _, Nat.le_refl _⟩ rfl rfl (Nat.le_of_ble_eq_true rfl) rfl rfl rfl ?_
  refine cx_icmp_eq (tgt := 1362) C dL_law_566 (by decide) (fun _ => ?_) (fun q => absurd e3 q)
  exact hN _ _ hI
set_option maxHeartbeats 4000000 in
set_option maxRecDepth 100000 in
theorem law_c9 (i : Nat) (σ τ : cx_St) (hL : L ≤ 384) (hlt : i + 6 ≤ L) (ho : ob_like Inv) (hv : Inv σ τ) (hA : A = va_A [] s.heap.size) (C : cx_C p s m #[Value.ref b] c code 4 "NamelessBoxLaw" D k) (hE : cx_E te adK adV A s s.heap) (hX : va_X b L xs s s.heap) (hbl : b < s.heap.size) (hbA : ¬ A b) (hN : ∀ σ τ : cx_St, Inv σ τ → cx_S p l e room_1 s m #[Value.ref b] below meth c A D 4 600000 7302249 (lw_Z below #[Value.ref b] s) 1362 [(0, .ref b), (1, .ref (U 0 0)), (2, .ref (V 0)), (3, .int (nI i))] [] (wN k U σ ++ wM k V τ)) : cx_S p l e room_1 s m #[Value.ref b] below meth c A D 4 600000 7302249 (lw_Z below #[Value.ref b] s) 571 [(0, .ref b), (1, .ref (U 0 0)), (2, .ref (V 0)), (3, .int (nI i))] [] (wN k U σ ++ wM k V τ) := by
  obtain ⟨y1, y2, e1, e2, e3, hI⟩ := ho σ τ (xs (cx_ix (nI i + 1))) (xs (cx_ix (nI i + 2))) (xs (cx_ix (nI i + 3))) hv
  refine cx_aload_n C dL_law_571 1 rfl ?_
  refine cx_aload_n C dL_law_572 0 rfl ?_
  refine cx_iload_n C dL_law_573 3 rfl ?_
  refine cx_iconst (v := 1) C dL_law_574 (by decide) ?_
  refine cx_iadd C dL_law_575 ?_
  refine cx_sld C hX hbl hbA dL_law_576 (law_in (j := 1) hL hlt (by decide)) ?_
  refine cx_aload_n C dL_law_577 0 rfl ?_
  refine cx_iload_n C dL_law_578 3 rfl ?_
  refine cx_iconst (v := 2) C dL_law_579 (by decide) ?_
  refine cx_iadd C dL_law_580 ?_
  refine cx_sld C hX hbl hbA dL_law_581 (law_in (j := 2) hL hlt (by decide)) ?_
  refine cx_aload_n C dL_law_582 0 rfl ?_
  refine cx_iload_n C dL_law_583 3 rfl ?_
  refine cx_iconst (v := 3) C dL_law_584 (by decide) ?_
  refine cx_iadd C dL_law_585 ?_
  refine cx_sld C hX hbl hbA dL_law_586 (law_in (j := 3) hL hlt (by decide)) ?_
  refine cx_LLi (q := (RX8, TX8, 12)) (As := [.int (xs (cx_ix (nI i + 1))), .int (xs (cx_ix (nI i + 2))), .int (xs (cx_ix (nI i + 3)))]) (rest := []) (w1 := (wN k U (cx_sI σ 1 y1.2))) hA C me_X8_like hw_439 (c_X8_like l D k (U 0) (U 1) (U 2) (U 3) (U 4) (U 5) (U 6) (U 7) (U 8) (U 9) (U 10) (U 11) (σ.1 0) (σ.1 1) (σ.2.2 0) (σ.1 2) (σ.2.2 1) (σ.1 3) (σ.2.2 2) (σ.1 4) (σ.2.2 3) (σ.1 5) (σ.2.2 4) (σ.1 6) (σ.2.2 5) (σ.2.2 6) (σ.1 7) (σ.2.2 7) (σ.1 8) (σ.2.2 8) (σ.1 9) (σ.2.2 9) (σ.1 10) (σ.2.2 10) (σ.1 11) (σ.2.2 11) (σ.2.2 12) (σ.1 12) (σ.2.2 13) (σ.1 13) (σ.2.2 14) (σ.1 14) (σ.2.2 15) (σ.1 15) (σ.2.2 16) (σ.1 16) (σ.2.2 17) (σ.2.2 18) (σ.1 17) (σ.2.2 19) (σ.1 18) (σ.2.2 20) (σ.1 19) (σ.2.2 21) (σ.1 20) (σ.2.2 22) (σ.1 21) (σ.2.2 23) (σ.2.2 24) (σ.1 22) (σ.2.2 25) (σ.2.2 26) (σ.2.2 27) (σ.2.2 28) (σ.1 23) (σ.2.1 0) (σ.2.1 1) (σ.2.1 2) (σ.2.1 3) (σ.2.2 29) (σ.2.2 30) (σ.2.2 31) (σ.2.2 32) (σ.2.2 33) (σ.1 24) (σ.1 25) (σ.1 26) (σ.1 27) (σ.1 28) (σ.1 29) (σ.1 30) (σ.1 31) (σ.2.1 4) (σ.2.1 5) (σ.2.1 6) (σ.1 32) (σ.2.2 34) (σ.2.2 35) (σ.2.2 36) (σ.2.2 37) (σ.2.2 38) (σ.1 33) (σ.1 34) (σ.1 35) (σ.1 36) (σ.1 37) (σ.1 38) (σ.1 39) (σ.1 40) (σ.2.1 7) (σ.2.1 8) (σ.2.1 9) (σ.1 41) (σ.2.1 10) (σ.2.1 11) (σ.2.1 12) (σ.2.1 13) (σ.1 42) (σ.2.1 14) (σ.2.1 15) (σ.2.1 16) (σ.2.1 17) (σ.2.2 39) (σ.2.2 40) (σ.2.1 18) (σ.2.1 19) (σ.2.1 20) (σ.2.1 21) (σ.1 43) (σ.2.1 22) (σ.2.1 23) (σ.2.1 24) (σ.2.1 25) (σ.2.2 41) (σ.2.2 42) (σ.2.1 26) (σ.2.1 27) (σ.2.1 28) (σ.2.1 29) (σ.2.1 30) (σ.2.1 31) (xs (cx_ix (nI i + 1))) (xs (cx_ix (nI i + 2))) (xs (cx_ix (nI i + 3))) y1 e1) dL_law_587 ⟨(Nat.le_of_ble_eq_true rfl), (Nat.le_of_ble_eq_true rfl)⟩ ⟨Nat.le_refl _, Nat.le_refl _⟩ rfl rfl (Nat.le_of_ble_eq_true rfl) rfl rfl rfl ?_
  refine cx_aload_n C dL_law_590 2 rfl ?_
  refine cx_aload_n C dL_law_591 0 rfl ?_
  refine cx_iload_n C dL_law_592 3 rfl ?_
  refine cx_iconst (v := 1) C dL_law_593 (by decide) ?_
  refine cx_iadd C dL_law_594 ?_
  refine cx_sld C hX hbl hbA dL_law_595 (law_in (j := 1) hL hlt (by decide)) ?_
  refine cx_aload_n C dL_law_596 0 rfl ?_
  refine cx_iload_n C dL_law_597 3 rfl ?_
  refine cx_iconst (v := 2) C dL_law_598 (by decide) ?_
  refine cx_iadd C dL_law_599 ?_
  refine cx_sld C hX hbl hbA dL_law_600 (law_in (j := 2) hL hlt (by decide)) ?_
  refine cx_aload_n C dL_law_601 0 rfl ?_
  refine cx_iload_n C dL_law_602 3 rfl ?_
  refine cx_iconst (v := 3) C dL_law_603 (by decide) ?_
  refine cx_iadd C dL_law_604 ?_
  refine cx_sld C hX hbl hbA dL_law_605 (law_in (j := 3) hL hlt (by decide)) ?_
  refine cx_LRi (q := (RX9, TX9, 24)) (As := [.int (xs (cx_ix (nI i + 1))), .int (xs (cx_ix (nI i + 2))), .int (xs (cx_ix (nI i + 3)))]) (rest := [.int y1.1]) (w1 := (wM k V (cx_sI τ 6 y2.2))) hA C me_X9_like hw_1210 (c_X9_like l D k V (τ.1 0) (τ.1 1) (τ.1 2) (τ.1 3) (τ.1 4) (τ.1 5) (τ.1 6) (τ.2.2 0) (τ.1 7) (τ.2.2 1) (τ.2.2 2) (τ.2.2 3) (τ.2.2 4) (τ.2.2 5) (τ.1 8) (τ.2.2 6) (τ.1 9) (τ.1 10) (τ.2.2 7) (τ.2.2 8) (τ.2.2 9) (τ.2.2 10) (τ.2.2 11) (τ.1 11) (xs (cx_ix (nI i + 1))) (xs (cx_ix (nI i + 2))) (xs (cx_ix (nI i + 3))) y2 e2) dL_law_606 ⟨(Nat.le_of_ble_eq_true rfl), (Nat.le_of_ble_eq_true rfl)⟩ ⟨Nat.le_refl _, Nat.le_refl _⟩ rfl rfl (Nat.le_of_ble_eq_true rfl) rfl rfl rfl ?_
  refine cx_icmp_eq (tgt := 1362) C dL_law_609 (by decide) (fun _ => ?_) (fun q => absurd e3 q)
  exact hN _ _ hI
set_option maxHeartbeats 4000000 in
set_option maxRecDepth 100000 in
theorem law_c10 (i : Nat) (σ τ : cx_St) (hL : L ≤ 384) (hlt : i + 6 ≤ L) (ho : ob_truth Inv) (hv : Inv σ τ) (hA : A = va_A [] s.heap.size) (C : cx_C p s m #[Value.ref b] c code 4 "NamelessBoxLaw" D k) (hE : cx_E te adK adV A s s.heap) (hX : va_X b L xs s s.heap) (hbl : b < s.heap.size) (hbA : ¬ A b) (hN : ∀ σ τ : cx_St, Inv σ τ → cx_S p l e room_1 s m #[Value.ref b] below meth c A D 4 600000 7302249 (lw_Z below #[Value.ref b] s) 1362 [(0, .ref b), (1, .ref (U 0 0)), (2, .ref (V 0)), (3, .int (nI i))] [] (wN k U σ ++ wM k V τ)) : cx_S p l e room_1 s m #[Value.ref b] below meth c A D 4 600000 7302249 (lw_Z below #[Value.ref b] s) 614 [(0, .ref b), (1, .ref (U 0 0)), (2, .ref (V 0)), (3, .int (nI i))] [] (wN k U σ ++ wM k V τ) := by
  obtain ⟨y1, y2, e1, e2, e3, hI⟩ := ho σ τ (xs (cx_ix (nI i + 1))) hv
  refine cx_aload_n C dL_law_614 1 rfl ?_
  refine cx_aload_n C dL_law_615 0 rfl ?_
  refine cx_iload_n C dL_law_616 3 rfl ?_
  refine cx_iconst (v := 1) C dL_law_617 (by decide) ?_
  refine cx_iadd C dL_law_618 ?_
  refine cx_sld C hX hbl hbA dL_law_619 (law_in (j := 1) hL hlt (by decide)) ?_
  refine cx_LLi (q := (RX8, TX8, 12)) (As := [.int (xs (cx_ix (nI i + 1)))]) (rest := []) (w1 := (wN k U (cx_sI σ 1 y1.2))) hA C me_X8_truth hw_459 (c_X8_truth l D k (U 0) (U 1) (U 2) (U 3) (U 4) (U 5) (U 6) (U 7) (U 8) (U 9) (U 10) (U 11) (σ.1 0) (σ.1 1) (σ.2.2 0) (σ.1 2) (σ.2.2 1) (σ.1 3) (σ.2.2 2) (σ.1 4) (σ.2.2 3) (σ.1 5) (σ.2.2 4) (σ.1 6) (σ.2.2 5) (σ.2.2 6) (σ.1 7) (σ.2.2 7) (σ.1 8) (σ.2.2 8) (σ.1 9) (σ.2.2 9) (σ.1 10) (σ.2.2 10) (σ.1 11) (σ.2.2 11) (σ.2.2 12) (σ.1 12) (σ.2.2 13) (σ.1 13) (σ.2.2 14) (σ.1 14) (σ.2.2 15) (σ.1 15) (σ.2.2 16) (σ.1 16) (σ.2.2 17) (σ.2.2 18) (σ.1 17) (σ.2.2 19) (σ.1 18) (σ.2.2 20) (σ.1 19) (σ.2.2 21) (σ.1 20) (σ.2.2 22) (σ.1 21) (σ.2.2 23) (σ.2.2 24) (σ.1 22) (σ.2.2 25) (σ.2.2 26) (σ.2.2 27) (σ.2.2 28) (σ.1 23) (σ.2.1 0) (σ.2.1 1) (σ.2.1 2) (σ.2.1 3) (σ.2.2 29) (σ.2.2 30) (σ.2.2 31) (σ.2.2 32) (σ.2.2 33) (σ.1 24) (σ.1 25) (σ.1 26) (σ.1 27) (σ.1 28) (σ.1 29) (σ.1 30) (σ.1 31) (σ.2.1 4) (σ.2.1 5) (σ.2.1 6) (σ.1 32) (σ.2.2 34) (σ.2.2 35) (σ.2.2 36) (σ.2.2 37) (σ.2.2 38) (σ.1 33) (σ.1 34) (σ.1 35) (σ.1 36) (σ.1 37) (σ.1 38) (σ.1 39) (σ.1 40) (σ.2.1 7) (σ.2.1 8) (σ.2.1 9) (σ.1 41) (σ.2.1 10) (σ.2.1 11) (σ.2.1 12) (σ.2.1 13) (σ.1 42) (σ.2.1 14) (σ.2.1 15) (σ.2.1 16) (σ.2.1 17) (σ.2.2 39) (σ.2.2 40) (σ.2.1 18) (σ.2.1 19) (σ.2.1 20) (σ.2.1 21) (σ.1 43) (σ.2.1 22) (σ.2.1 23) (σ.2.1 24) (σ.2.1 25) (σ.2.2 41) (σ.2.2 42) (σ.2.1 26) (σ.2.1 27) (σ.2.1 28) (σ.2.1 29) (σ.2.1 30) (σ.2.1 31) (xs (cx_ix (nI i + 1))) y1 e1) dL_law_620 ⟨(Nat.le_of_ble_eq_true rfl), (Nat.le_of_ble_eq_true rfl)⟩ ⟨Nat.le_refl _, Nat.le_refl _⟩ rfl rfl (Nat.le_of_ble_eq_true rfl) rfl rfl rfl ?_
  refine cx_aload_n C dL_law_623 2 rfl ?_
  refine cx_aload_n C dL_law_624 0 rfl ?_
  refine cx_iload_n C dL_law_625 3 rfl ?_
  refine cx_iconst (v := 1) C dL_law_626 (by decide) ?_
  refine cx_iadd C dL_law_627 ?_
  refine cx_sld C hX hbl hbA dL_law_628 (law_in (j := 1) hL hlt (by decide)) ?_
  refine cx_LRi (q := (RX9, TX9, 24)) (As := [.int (xs (cx_ix (nI i + 1)))]) (rest := [.int y1.1]) (w1 := (wM k V (cx_sI τ 6 y2.2))) hA C me_X9_truth hw_1218 (c_X9_truth l D k V (τ.1 0) (τ.1 1) (τ.1 2) (τ.1 3) (τ.1 4) (τ.1 5) (τ.1 6) (τ.2.2 0) (τ.1 7) (τ.2.2 1) (τ.2.2 2) (τ.2.2 3) (τ.2.2 4) (τ.2.2 5) (τ.1 8) (τ.2.2 6) (τ.1 9) (τ.1 10) (τ.2.2 7) (τ.2.2 8) (τ.2.2 9) (τ.2.2 10) (τ.2.2 11) (τ.1 11) (xs (cx_ix (nI i + 1))) y2 e2) dL_law_629 ⟨(Nat.le_of_ble_eq_true rfl), (Nat.le_of_ble_eq_true rfl)⟩ ⟨Nat.le_refl _, Nat.le_refl _⟩ rfl rfl (Nat.le_of_ble_eq_true rfl) rfl rfl rfl ?_
  refine cx_icmp_eq (tgt := 1362) C dL_law_632 (by decide) (fun _ => ?_) (fun q => absurd e3 q)
  exact hN _ _ hI
set_option maxHeartbeats 4000000 in
set_option maxRecDepth 100000 in
theorem law_c11 (i : Nat) (σ τ : cx_St) (hL : L ≤ 384) (hlt : i + 6 ≤ L) (ho : ob_type Inv) (hv : Inv σ τ) (hA : A = va_A [] s.heap.size) (C : cx_C p s m #[Value.ref b] c code 4 "NamelessBoxLaw" D k) (hE : cx_E te adK adV A s s.heap) (hX : va_X b L xs s s.heap) (hbl : b < s.heap.size) (hbA : ¬ A b) (hN : ∀ σ τ : cx_St, Inv σ τ → cx_S p l e room_1 s m #[Value.ref b] below meth c A D 4 600000 7302249 (lw_Z below #[Value.ref b] s) 1362 [(0, .ref b), (1, .ref (U 0 0)), (2, .ref (V 0)), (3, .int (nI i))] [] (wN k U σ ++ wM k V τ)) : cx_S p l e room_1 s m #[Value.ref b] below meth c A D 4 600000 7302249 (lw_Z below #[Value.ref b] s) 637 [(0, .ref b), (1, .ref (U 0 0)), (2, .ref (V 0)), (3, .int (nI i))] [] (wN k U σ ++ wM k V τ) := by
  obtain ⟨y1, y2, e1, e2, e3, hI⟩ := ho σ τ (((Int32.toInt64 (xs (cx_ix (nI i + 1)))) <<< (Int32.toInt64 32 &&& 63)) ||| ((Int32.toInt64 (xs (cx_ix (nI i + 2)))) &&& 4294967295)) (xs (cx_ix (nI i + 3))) hv
  refine cx_aload_n C dL_law_637 1 rfl ?_
  refine cx_aload_n C dL_law_638 0 rfl ?_
  refine cx_iload_n C dL_law_639 3 rfl ?_
  refine cx_iconst (v := 1) C dL_law_640 (by decide) ?_
  refine cx_iadd C dL_law_641 ?_
  refine cx_sld C hX hbl hbA dL_law_642 (law_in (j := 1) hL hlt (by decide)) ?_
  refine cx_i2l C dL_law_643 ?_
  refine cx_bipush (v := 32) C dL_law_644 (by decide) ?_
  refine cx_lshl C dL_law_646 ?_
  refine cx_aload_n C dL_law_647 0 rfl ?_
  refine cx_iload_n C dL_law_648 3 rfl ?_
  refine cx_iconst (v := 2) C dL_law_649 (by decide) ?_
  refine cx_iadd C dL_law_650 ?_
  refine cx_sld C hX hbl hbA dL_law_651 (law_in (j := 2) hL hlt (by decide)) ?_
  refine cx_i2l C dL_law_652 ?_
  refine cx_ldc2 (v := 4294967295) C dL_law_653 hw_1528 ?_
  refine cx_land C dL_law_656 ?_
  refine cx_lor C dL_law_657 ?_
  refine cx_aload_n C dL_law_658 0 rfl ?_
  refine cx_iload_n C dL_law_659 3 rfl ?_
  refine cx_iconst (v := 3) C dL_law_660 (by decide) ?_
  refine cx_iadd C dL_law_661 ?_
  refine cx_sld C hX hbl hbA dL_law_662 (law_in (j := 3) hL hlt (by decide)) ?_
  refine cx_LLi (q := (RX8, TX8, 12)) (As := [.long (((Int32.toInt64 (xs (cx_ix (nI i + 1)))) <<< (Int32.toInt64 32 &&& 63)) ||| ((Int32.toInt64 (xs (cx_ix (nI i + 2)))) &&& 4294967295)), .int (xs (cx_ix (nI i + 3)))]) (rest := []) (w1 := (wN k U (cx_sI (cx_sZ (cx_sI σ 1 y1.2.1) 25 y1.2.2.1) 22 y1.2.2.2))) hA C me_X8_type hw_467 (c_X8_type l D k (U 0) (U 1) (U 2) (U 3) (U 4) (U 5) (U 6) (U 7) (U 8) (U 9) (U 10) (U 11) (σ.1 0) (σ.1 1) (σ.2.2 0) (σ.1 2) (σ.2.2 1) (σ.1 3) (σ.2.2 2) (σ.1 4) (σ.2.2 3) (σ.1 5) (σ.2.2 4) (σ.1 6) (σ.2.2 5) (σ.2.2 6) (σ.1 7) (σ.2.2 7) (σ.1 8) (σ.2.2 8) (σ.1 9) (σ.2.2 9) (σ.1 10) (σ.2.2 10) (σ.1 11) (σ.2.2 11) (σ.2.2 12) (σ.1 12) (σ.2.2 13) (σ.1 13) (σ.2.2 14) (σ.1 14) (σ.2.2 15) (σ.1 15) (σ.2.2 16) (σ.1 16) (σ.2.2 17) (σ.2.2 18) (σ.1 17) (σ.2.2 19) (σ.1 18) (σ.2.2 20) (σ.1 19) (σ.2.2 21) (σ.1 20) (σ.2.2 22) (σ.1 21) (σ.2.2 23) (σ.2.2 24) (σ.1 22) (σ.2.2 25) (σ.2.2 26) (σ.2.2 27) (σ.2.2 28) (σ.1 23) (σ.2.1 0) (σ.2.1 1) (σ.2.1 2) (σ.2.1 3) (σ.2.2 29) (σ.2.2 30) (σ.2.2 31) (σ.2.2 32) (σ.2.2 33) (σ.1 24) (σ.1 25) (σ.1 26) (σ.1 27) (σ.1 28) (σ.1 29) (σ.1 30) (σ.1 31) (σ.2.1 4) (σ.2.1 5) (σ.2.1 6) (σ.1 32) (σ.2.2 34) (σ.2.2 35) (σ.2.2 36) (σ.2.2 37) (σ.2.2 38) (σ.1 33) (σ.1 34) (σ.1 35) (σ.1 36) (σ.1 37) (σ.1 38) (σ.1 39) (σ.1 40) (σ.2.1 7) (σ.2.1 8) (σ.2.1 9) (σ.1 41) (σ.2.1 10) (σ.2.1 11) (σ.2.1 12) (σ.2.1 13) (σ.1 42) (σ.2.1 14) (σ.2.1 15) (σ.2.1 16) (σ.2.1 17) (σ.2.2 39) (σ.2.2 40) (σ.2.1 18) (σ.2.1 19) (σ.2.1 20) (σ.2.1 21) (σ.1 43) (σ.2.1 22) (σ.2.1 23) (σ.2.1 24) (σ.2.1 25) (σ.2.2 41) (σ.2.2 42) (σ.2.1 26) (σ.2.1 27) (σ.2.1 28) (σ.2.1 29) (σ.2.1 30) (σ.2.1 31) (((Int32.toInt64 (xs (cx_ix (nI i + 1)))) <<< (Int32.toInt64 32 &&& 63)) ||| ((Int32.toInt64 (xs (cx_ix (nI i + 2)))) &&& 4294967295)) (xs (cx_ix (nI i + 3))) y1 e1) dL_law_663 ⟨(Nat.le_of_ble_eq_true rfl), (Nat.le_of_ble_eq_true rfl)⟩ ⟨Nat.le_refl _, Nat.le_refl _⟩ rfl rfl (Nat.le_of_ble_eq_true rfl) rfl rfl rfl ?_
  refine cx_aload_n C dL_law_666 2 rfl ?_
  refine cx_aload_n C dL_law_667 0 rfl ?_
  refine cx_iload_n C dL_law_668 3 rfl ?_
  refine cx_iconst (v := 1) C dL_law_669 (by decide) ?_
  refine cx_iadd C dL_law_670 ?_
  refine cx_sld C hX hbl hbA dL_law_671 (law_in (j := 1) hL hlt (by decide)) ?_
  refine cx_i2l C dL_law_672 ?_
  refine cx_bipush (v := 32) C dL_law_673 (by decide) ?_
  refine cx_lshl C dL_law_675 ?_
  refine cx_aload_n C dL_law_676 0 rfl ?_
  refine cx_iload_n C dL_law_677 3 rfl ?_
  refine cx_iconst (v := 2) C dL_law_678 (by decide) ?_
  refine cx_iadd C dL_law_679 ?_
  refine cx_sld C hX hbl hbA dL_law_680 (law_in (j := 2) hL hlt (by decide)) ?_
  refine cx_i2l C dL_law_681 ?_
  refine cx_ldc2 (v := 4294967295) C dL_law_682 hw_1528 ?_
  refine cx_land C dL_law_685 ?_
  refine cx_lor C dL_law_686 ?_
  refine cx_aload_n C dL_law_687 0 rfl ?_
  refine cx_iload_n C dL_law_688 3 rfl ?_
  refine cx_iconst (v := 3) C dL_law_689 (by decide) ?_
  refine cx_iadd C dL_law_690 ?_
  refine cx_sld C hX hbl hbA dL_law_691 (law_in (j := 3) hL hlt (by decide)) ?_
  refine cx_LRi (q := (RX9, TX9, 24)) (As := [.long (((Int32.toInt64 (xs (cx_ix (nI i + 1)))) <<< (Int32.toInt64 32 &&& 63)) ||| ((Int32.toInt64 (xs (cx_ix (nI i + 2)))) &&& 4294967295)), .int (xs (cx_ix (nI i + 3)))]) (rest := [.int y1.1]) (w1 := (wM k V (cx_sI (cx_sI (cx_sZ τ 1 y2.2.1) 6 y2.2.2.1) 7 y2.2.2.2))) hA C me_X9_type hw_1226 (c_X9_type l D k V (τ.1 0) (τ.1 1) (τ.1 2) (τ.1 3) (τ.1 4) (τ.1 5) (τ.1 6) (τ.2.2 0) (τ.1 7) (τ.2.2 1) (τ.2.2 2) (τ.2.2 3) (τ.2.2 4) (τ.2.2 5) (τ.1 8) (τ.2.2 6) (τ.1 9) (τ.1 10) (τ.2.2 7) (τ.2.2 8) (τ.2.2 9) (τ.2.2 10) (τ.2.2 11) (τ.1 11) (((Int32.toInt64 (xs (cx_ix (nI i + 1)))) <<< (Int32.toInt64 32 &&& 63)) ||| ((Int32.toInt64 (xs (cx_ix (nI i + 2)))) &&& 4294967295)) (xs (cx_ix (nI i + 3))) y2 e2) dL_law_692 ⟨(Nat.le_of_ble_eq_true rfl), (Nat.le_of_ble_eq_true rfl)⟩ ⟨Nat.le_refl _, Nat.le_refl _⟩ rfl rfl (Nat.le_of_ble_eq_true rfl) rfl rfl rfl ?_
  refine cx_icmp_eq (tgt := 1362) C dL_law_695 (by decide) (fun _ => ?_) (fun q => absurd e3 q)
  exact hN _ _ hI
set_option maxHeartbeats 4000000 in
set_option maxRecDepth 100000 in
theorem law_c12 (i : Nat) (σ τ : cx_St) (hL : L ≤ 384) (hlt : i + 6 ≤ L) (ho : ob_clear Inv) (hv : Inv σ τ) (hA : A = va_A [] s.heap.size) (C : cx_C p s m #[Value.ref b] c code 4 "NamelessBoxLaw" D k) (hE : cx_E te adK adV A s s.heap) (hX : va_X b L xs s s.heap) (hbl : b < s.heap.size) (hbA : ¬ A b) (hN : ∀ σ τ : cx_St, Inv σ τ → cx_S p l e room_1 s m #[Value.ref b] below meth c A D 4 600000 7302249 (lw_Z below #[Value.ref b] s) 1362 [(0, .ref b), (1, .ref (U 0 0)), (2, .ref (V 0)), (3, .int (nI i))] [] (wN k U σ ++ wM k V τ)) : cx_S p l e room_1 s m #[Value.ref b] below meth c A D 4 600000 7302249 (lw_Z below #[Value.ref b] s) 700 [(0, .ref b), (1, .ref (U 0 0)), (2, .ref (V 0)), (3, .int (nI i))] [] (wN k U σ ++ wM k V τ) := by
  obtain ⟨y1, y2, e1, e2, e3, hI⟩ := ho σ τ  hv
  refine cx_aload_n C dL_law_700 1 rfl ?_
  refine cx_LLi (q := (RX8, TX8, 12)) (As := []) (rest := []) (w1 := (wN k U (cx_sZ σ 25 y1.2))) hA C me_X8_clear hw_480 (c_X8_clear l D k (U 0) (U 1) (U 2) (U 3) (U 4) (U 5) (U 6) (U 7) (U 8) (U 9) (U 10) (U 11) (σ.1 0) (σ.1 1) (σ.2.2 0) (σ.1 2) (σ.2.2 1) (σ.1 3) (σ.2.2 2) (σ.1 4) (σ.2.2 3) (σ.1 5) (σ.2.2 4) (σ.1 6) (σ.2.2 5) (σ.2.2 6) (σ.1 7) (σ.2.2 7) (σ.1 8) (σ.2.2 8) (σ.1 9) (σ.2.2 9) (σ.1 10) (σ.2.2 10) (σ.1 11) (σ.2.2 11) (σ.2.2 12) (σ.1 12) (σ.2.2 13) (σ.1 13) (σ.2.2 14) (σ.1 14) (σ.2.2 15) (σ.1 15) (σ.2.2 16) (σ.1 16) (σ.2.2 17) (σ.2.2 18) (σ.1 17) (σ.2.2 19) (σ.1 18) (σ.2.2 20) (σ.1 19) (σ.2.2 21) (σ.1 20) (σ.2.2 22) (σ.1 21) (σ.2.2 23) (σ.2.2 24) (σ.1 22) (σ.2.2 25) (σ.2.2 26) (σ.2.2 27) (σ.2.2 28) (σ.1 23) (σ.2.1 0) (σ.2.1 1) (σ.2.1 2) (σ.2.1 3) (σ.2.2 29) (σ.2.2 30) (σ.2.2 31) (σ.2.2 32) (σ.2.2 33) (σ.1 24) (σ.1 25) (σ.1 26) (σ.1 27) (σ.1 28) (σ.1 29) (σ.1 30) (σ.1 31) (σ.2.1 4) (σ.2.1 5) (σ.2.1 6) (σ.1 32) (σ.2.2 34) (σ.2.2 35) (σ.2.2 36) (σ.2.2 37) (σ.2.2 38) (σ.1 33) (σ.1 34) (σ.1 35) (σ.1 36) (σ.1 37) (σ.1 38) (σ.1 39) (σ.1 40) (σ.2.1 7) (σ.2.1 8) (σ.2.1 9) (σ.1 41) (σ.2.1 10) (σ.2.1 11) (σ.2.1 12) (σ.2.1 13) (σ.1 42) (σ.2.1 14) (σ.2.1 15) (σ.2.1 16) (σ.2.1 17) (σ.2.2 39) (σ.2.2 40) (σ.2.1 18) (σ.2.1 19) (σ.2.1 20) (σ.2.1 21) (σ.1 43) (σ.2.1 22) (σ.2.1 23) (σ.2.1 24) (σ.2.1 25) (σ.2.2 41) (σ.2.2 42) (σ.2.1 26) (σ.2.1 27) (σ.2.1 28) (σ.2.1 29) (σ.2.1 30) (σ.2.1 31) y1 e1) dL_law_701 ⟨(Nat.le_of_ble_eq_true rfl), (Nat.le_of_ble_eq_true rfl)⟩ ⟨Nat.le_refl _, Nat.le_refl _⟩ rfl rfl (Nat.le_of_ble_eq_true rfl) rfl rfl rfl ?_
  refine cx_aload_n C dL_law_704 2 rfl ?_
  refine cx_LRi (q := (RX9, TX9, 24)) (As := []) (rest := [.int y1.1]) (w1 := (wM k V (cx_sZ τ 1 y2.2))) hA C me_X9_clear hw_1232 (c_X9_clear l D k V (τ.1 0) (τ.1 1) (τ.1 2) (τ.1 3) (τ.1 4) (τ.1 5) (τ.1 6) (τ.2.2 0) (τ.1 7) (τ.2.2 1) (τ.2.2 2) (τ.2.2 3) (τ.2.2 4) (τ.2.2 5) (τ.1 8) (τ.2.2 6) (τ.1 9) (τ.1 10) (τ.2.2 7) (τ.2.2 8) (τ.2.2 9) (τ.2.2 10) (τ.2.2 11) (τ.1 11) y2 e2) dL_law_705 ⟨(Nat.le_of_ble_eq_true rfl), (Nat.le_of_ble_eq_true rfl)⟩ ⟨Nat.le_refl _, Nat.le_refl _⟩ rfl rfl (Nat.le_of_ble_eq_true rfl) rfl rfl rfl ?_
  refine cx_icmp_eq (tgt := 1362) C dL_law_708 (by decide) (fun _ => ?_) (fun q => absurd e3 q)
  exact hN _ _ hI
set_option maxHeartbeats 4000000 in
set_option maxRecDepth 100000 in
theorem law_c13 (i : Nat) (σ τ : cx_St) (hL : L ≤ 384) (hlt : i + 6 ≤ L) (ho : ob_read Inv) (hv : Inv σ τ) (hA : A = va_A [] s.heap.size) (C : cx_C p s m #[Value.ref b] c code 4 "NamelessBoxLaw" D k) (hE : cx_E te adK adV A s s.heap) (hX : va_X b L xs s s.heap) (hbl : b < s.heap.size) (hbA : ¬ A b) (hN : ∀ σ τ : cx_St, Inv σ τ → cx_S p l e room_1 s m #[Value.ref b] below meth c A D 4 600000 7302249 (lw_Z below #[Value.ref b] s) 1362 [(0, .ref b), (1, .ref (U 0 0)), (2, .ref (V 0)), (3, .int (nI i))] [] (wN k U σ ++ wM k V τ)) : cx_S p l e room_1 s m #[Value.ref b] below meth c A D 4 600000 7302249 (lw_Z below #[Value.ref b] s) 713 [(0, .ref b), (1, .ref (U 0 0)), (2, .ref (V 0)), (3, .int (nI i))] [] (wN k U σ ++ wM k V τ) := by
  obtain ⟨y1, y2, e1, e2, e3, hI⟩ := ho σ τ  hv
  refine cx_aload_n C dL_law_713 1 rfl ?_
  refine cx_ELLi (q := (RX8, TX8, 12)) (As := []) (rest := []) (w1 := (wN k U (cx_sI (cx_sZ (cx_sZ (cx_sZ (cx_sI (cx_sZ (cx_sI (cx_sZ (cx_sI (cx_sZ (cx_sI (cx_sZ (cx_sI (cx_sZ (cx_sZ (cx_sI (cx_sZ (cx_sI (cx_sZ (cx_sI (cx_sZ (cx_sI (cx_sZ (cx_sI (cx_sZ (cx_sZ (cx_sZ σ 0 y1.2.1) 6 y1.2.2.1) 1 y1.2.2.2.1) 2 y1.2.2.2.2.1) 2 y1.2.2.2.2.2.1) 3 y1.2.2.2.2.2.2.1) 3 y1.2.2.2.2.2.2.2.1) 4 y1.2.2.2.2.2.2.2.2.1) 4 y1.2.2.2.2.2.2.2.2.2.1) 5 y1.2.2.2.2.2.2.2.2.2.2.1) 5 y1.2.2.2.2.2.2.2.2.2.2.2.1) 6 y1.2.2.2.2.2.2.2.2.2.2.2.2.1) 12 y1.2.2.2.2.2.2.2.2.2.2.2.2.2.1) 7 y1.2.2.2.2.2.2.2.2.2.2.2.2.2.2.1) 7 y1.2.2.2.2.2.2.2.2.2.2.2.2.2.2.2.1) 8 y1.2.2.2.2.2.2.2.2.2.2.2.2.2.2.2.2.1) 8 y1.2.2.2.2.2.2.2.2.2.2.2.2.2.2.2.2.2.1) 9 y1.2.2.2.2.2.2.2.2.2.2.2.2.2.2.2.2.2.2.1) 9 y1.2.2.2.2.2.2.2.2.2.2.2.2.2.2.2.2.2.2.2.1) 10 y1.2.2.2.2.2.2.2.2.2.2.2.2.2.2.2.2.2.2.2.2.1) 10 y1.2.2.2.2.2.2.2.2.2.2.2.2.2.2.2.2.2.2.2.2.2.1) 11 y1.2.2.2.2.2.2.2.2.2.2.2.2.2.2.2.2.2.2.2.2.2.2.1) 11 y1.2.2.2.2.2.2.2.2.2.2.2.2.2.2.2.2.2.2.2.2.2.2.2.1) 26 y1.2.2.2.2.2.2.2.2.2.2.2.2.2.2.2.2.2.2.2.2.2.2.2.2.1) 27 y1.2.2.2.2.2.2.2.2.2.2.2.2.2.2.2.2.2.2.2.2.2.2.2.2.2.1) 28 y1.2.2.2.2.2.2.2.2.2.2.2.2.2.2.2.2.2.2.2.2.2.2.2.2.2.2.1) 23 y1.2.2.2.2.2.2.2.2.2.2.2.2.2.2.2.2.2.2.2.2.2.2.2.2.2.2.2))) hE hA C me_X8_read hw_488 (c_X8_read l D k te adK adV (U 0) (U 1) (U 2) (U 3) (U 4) (U 5) (U 6) (U 7) (U 8) (U 9) (U 10) (U 11) (σ.1 0) (σ.1 1) (σ.2.2 0) (σ.1 2) (σ.2.2 1) (σ.1 3) (σ.2.2 2) (σ.1 4) (σ.2.2 3) (σ.1 5) (σ.2.2 4) (σ.1 6) (σ.2.2 5) (σ.2.2 6) (σ.1 7) (σ.2.2 7) (σ.1 8) (σ.2.2 8) (σ.1 9) (σ.2.2 9) (σ.1 10) (σ.2.2 10) (σ.1 11) (σ.2.2 11) (σ.2.2 12) (σ.1 12) (σ.2.2 13) (σ.1 13) (σ.2.2 14) (σ.1 14) (σ.2.2 15) (σ.1 15) (σ.2.2 16) (σ.1 16) (σ.2.2 17) (σ.2.2 18) (σ.1 17) (σ.2.2 19) (σ.1 18) (σ.2.2 20) (σ.1 19) (σ.2.2 21) (σ.1 20) (σ.2.2 22) (σ.1 21) (σ.2.2 23) (σ.2.2 24) (σ.1 22) (σ.2.2 25) (σ.2.2 26) (σ.2.2 27) (σ.2.2 28) (σ.1 23) (σ.2.1 0) (σ.2.1 1) (σ.2.1 2) (σ.2.1 3) (σ.2.2 29) (σ.2.2 30) (σ.2.2 31) (σ.2.2 32) (σ.2.2 33) (σ.1 24) (σ.1 25) (σ.1 26) (σ.1 27) (σ.1 28) (σ.1 29) (σ.1 30) (σ.1 31) (σ.2.1 4) (σ.2.1 5) (σ.2.1 6) (σ.1 32) (σ.2.2 34) (σ.2.2 35) (σ.2.2 36) (σ.2.2 37) (σ.2.2 38) (σ.1 33) (σ.1 34) (σ.1 35) (σ.1 36) (σ.1 37) (σ.1 38) (σ.1 39) (σ.1 40) (σ.2.1 7) (σ.2.1 8) (σ.2.1 9) (σ.1 41) (σ.2.1 10) (σ.2.1 11) (σ.2.1 12) (σ.2.1 13) (σ.1 42) (σ.2.1 14) (σ.2.1 15) (σ.2.1 16) (σ.2.1 17) (σ.2.2 39) (σ.2.2 40) (σ.2.1 18) (σ.2.1 19) (σ.2.1 20) (σ.2.1 21) (σ.1 43) (σ.2.1 22) (σ.2.1 23) (σ.2.1 24) (σ.2.1 25) (σ.2.2 41) (σ.2.2 42) (σ.2.1 26) (σ.2.1 27) (σ.2.1 28) (σ.2.1 29) (σ.2.1 30) (σ.2.1 31) y1 e1) dL_law_714 ⟨(Nat.le_of_ble_eq_true rfl), (Nat.le_of_ble_eq_true rfl)⟩ ⟨Nat.le_refl _, Nat.le_refl _⟩ rfl rfl (Nat.le_of_ble_eq_true rfl) rfl rfl rfl ?_
  refine cx_aload_n C dL_law_717 2 rfl ?_
  refine cx_LRi (q := (RX9, TX9, 24)) (As := []) (rest := [.int y1.1]) (w1 := (wM k V (cx_sI (cx_sI (cx_sI (cx_sI (cx_sZ (cx_sZ (cx_sZ (cx_sZ (cx_sZ (cx_sZ τ 0 y2.2.1) 2 y2.2.2.1) 3 y2.2.2.2.1) 4 y2.2.2.2.2.1) 5 y2.2.2.2.2.2.1) 6 y2.2.2.2.2.2.2.1) 2 y2.2.2.2.2.2.2.2.1) 5 y2.2.2.2.2.2.2.2.2.1) 6 y2.2.2.2.2.2.2.2.2.2.1) 8 y2.2.2.2.2.2.2.2.2.2.2))) hA C me_X9_read hw_1236 (c_X9_read l D k V (τ.1 0) (τ.1 1) (τ.1 2) (τ.1 3) (τ.1 4) (τ.1 5) (τ.1 6) (τ.2.2 0) (τ.1 7) (τ.2.2 1) (τ.2.2 2) (τ.2.2 3) (τ.2.2 4) (τ.2.2 5) (τ.1 8) (τ.2.2 6) (τ.1 9) (τ.1 10) (τ.2.2 7) (τ.2.2 8) (τ.2.2 9) (τ.2.2 10) (τ.2.2 11) (τ.1 11) y2 e2) dL_law_718 ⟨(Nat.le_of_ble_eq_true rfl), (Nat.le_of_ble_eq_true rfl)⟩ ⟨Nat.le_refl _, Nat.le_refl _⟩ rfl rfl (Nat.le_of_ble_eq_true rfl) rfl rfl rfl ?_
  refine cx_icmp_eq (tgt := 1362) C dL_law_721 (by decide) (fun _ => ?_) (fun q => absurd e3 q)
  exact hN _ _ hI
set_option maxHeartbeats 4000000 in
set_option maxRecDepth 100000 in
theorem law_c14 (i : Nat) (σ τ : cx_St) (hL : L ≤ 384) (hlt : i + 6 ≤ L) (ho : ob_who Inv) (hv : Inv σ τ) (hA : A = va_A [] s.heap.size) (C : cx_C p s m #[Value.ref b] c code 4 "NamelessBoxLaw" D k) (hE : cx_E te adK adV A s s.heap) (hX : va_X b L xs s s.heap) (hbl : b < s.heap.size) (hbA : ¬ A b) (hN : ∀ σ τ : cx_St, Inv σ τ → cx_S p l e room_1 s m #[Value.ref b] below meth c A D 4 600000 7302249 (lw_Z below #[Value.ref b] s) 1362 [(0, .ref b), (1, .ref (U 0 0)), (2, .ref (V 0)), (3, .int (nI i))] [] (wN k U σ ++ wM k V τ)) : cx_S p l e room_1 s m #[Value.ref b] below meth c A D 4 600000 7302249 (lw_Z below #[Value.ref b] s) 726 [(0, .ref b), (1, .ref (U 0 0)), (2, .ref (V 0)), (3, .int (nI i))] [] (wN k U σ ++ wM k V τ) := by
  obtain ⟨y1, y2, e1, e2, e3, hI⟩ := ho σ τ (xs (cx_ix (nI i + 1))) (xs (cx_ix (nI i + 2))) hv
  refine cx_aload_n C dL_law_726 1 rfl ?_
  refine cx_aload_n C dL_law_727 0 rfl ?_
  refine cx_iload_n C dL_law_728 3 rfl ?_
  refine cx_iconst (v := 1) C dL_law_729 (by decide) ?_
  refine cx_iadd C dL_law_730 ?_
  refine cx_sld C hX hbl hbA dL_law_731 (law_in (j := 1) hL hlt (by decide)) ?_
  refine cx_aload_n C dL_law_732 0 rfl ?_
  refine cx_iload_n C dL_law_733 3 rfl ?_
  refine cx_iconst (v := 2) C dL_law_734 (by decide) ?_
  refine cx_iadd C dL_law_735 ?_
  refine cx_sld C hX hbl hbA dL_law_736 (law_in (j := 2) hL hlt (by decide)) ?_
  refine cx_LLi (q := (RX8, TX8, 12)) (As := [.int (xs (cx_ix (nI i + 1))), .int (xs (cx_ix (nI i + 2)))]) (rest := []) (w1 := (wN k U (cx_sL (cx_sI (cx_sL (cx_sL (cx_sL (cx_sL (cx_sZ (cx_sZ (cx_sI (cx_sL (cx_sL (cx_sL (cx_sI (cx_sI (cx_sI (cx_sI (cx_sI (cx_sI (cx_sI (cx_sI (cx_sZ (cx_sZ (cx_sZ (cx_sZ (cx_sZ (cx_sL (cx_sL (cx_sL (cx_sL (cx_sI (cx_sZ σ 0 y1.2.1) 1 y1.2.2.1) 0 y1.2.2.2.1) 1 y1.2.2.2.2.1) 2 y1.2.2.2.2.2.1) 3 y1.2.2.2.2.2.2.1) 29 y1.2.2.2.2.2.2.2.1) 30 y1.2.2.2.2.2.2.2.2.1) 31 y1.2.2.2.2.2.2.2.2.2.1) 32 y1.2.2.2.2.2.2.2.2.2.2.1) 33 y1.2.2.2.2.2.2.2.2.2.2.2.1) 24 y1.2.2.2.2.2.2.2.2.2.2.2.2.1) 25 y1.2.2.2.2.2.2.2.2.2.2.2.2.2.1) 26 y1.2.2.2.2.2.2.2.2.2.2.2.2.2.2.1) 27 y1.2.2.2.2.2.2.2.2.2.2.2.2.2.2.2.1) 28 y1.2.2.2.2.2.2.2.2.2.2.2.2.2.2.2.2.1) 29 y1.2.2.2.2.2.2.2.2.2.2.2.2.2.2.2.2.2.1) 30 y1.2.2.2.2.2.2.2.2.2.2.2.2.2.2.2.2.2.2.1) 31 y1.2.2.2.2.2.2.2.2.2.2.2.2.2.2.2.2.2.2.2.1) 4 y1.2.2.2.2.2.2.2.2.2.2.2.2.2.2.2.2.2.2.2.2.1) 5 y1.2.2.2.2.2.2.2.2.2.2.2.2.2.2.2.2.2.2.2.2.2.1) 6 y1.2.2.2.2.2.2.2.2.2.2.2.2.2.2.2.2.2.2.2.2.2.2.1) 32 y1.2.2.2.2.2.2.2.2.2.2.2.2.2.2.2.2.2.2.2.2.2.2.2.1) 39 y1.2.2.2.2.2.2.2.2.2.2.2.2.2.2.2.2.2.2.2.2.2.2.2.2.1) 40 y1.2.2.2.2.2.2.2.2.2.2.2.2.2.2.2.2.2.2.2.2.2.2.2.2.2.1) 10 y1.2.2.2.2.2.2.2.2.2.2.2.2.2.2.2.2.2.2.2.2.2.2.2.2.2.2.1) 11 y1.2.2.2.2.2.2.2.2.2.2.2.2.2.2.2.2.2.2.2.2.2.2.2.2.2.2.2.1) 12 y1.2.2.2.2.2.2.2.2.2.2.2.2.2.2.2.2.2.2.2.2.2.2.2.2.2.2.2.2.1) 13 y1.2.2.2.2.2.2.2.2.2.2.2.2.2.2.2.2.2.2.2.2.2.2.2.2.2.2.2.2.2.1) 42 y1.2.2.2.2.2.2.2.2.2.2.2.2.2.2.2.2.2.2.2.2.2.2.2.2.2.2.2.2.2.2.1) 14 y1.2.2.2.2.2.2.2.2.2.2.2.2.2.2.2.2.2.2.2.2.2.2.2.2.2.2.2.2.2.2.2))) hA C me_X8_who hw_618 (c_X8_who l D k (U 0) (U 1) (U 2) (U 3) (U 4) (U 5) (U 6) (U 7) (U 8) (U 9) (U 10) (U 11) (σ.1 0) (σ.1 1) (σ.2.2 0) (σ.1 2) (σ.2.2 1) (σ.1 3) (σ.2.2 2) (σ.1 4) (σ.2.2 3) (σ.1 5) (σ.2.2 4) (σ.1 6) (σ.2.2 5) (σ.2.2 6) (σ.1 7) (σ.2.2 7) (σ.1 8) (σ.2.2 8) (σ.1 9) (σ.2.2 9) (σ.1 10) (σ.2.2 10) (σ.1 11) (σ.2.2 11) (σ.2.2 12) (σ.1 12) (σ.2.2 13) (σ.1 13) (σ.2.2 14) (σ.1 14) (σ.2.2 15) (σ.1 15) (σ.2.2 16) (σ.1 16) (σ.2.2 17) (σ.2.2 18) (σ.1 17) (σ.2.2 19) (σ.1 18) (σ.2.2 20) (σ.1 19) (σ.2.2 21) (σ.1 20) (σ.2.2 22) (σ.1 21) (σ.2.2 23) (σ.2.2 24) (σ.1 22) (σ.2.2 25) (σ.2.2 26) (σ.2.2 27) (σ.2.2 28) (σ.1 23) (σ.2.1 0) (σ.2.1 1) (σ.2.1 2) (σ.2.1 3) (σ.2.2 29) (σ.2.2 30) (σ.2.2 31) (σ.2.2 32) (σ.2.2 33) (σ.1 24) (σ.1 25) (σ.1 26) (σ.1 27) (σ.1 28) (σ.1 29) (σ.1 30) (σ.1 31) (σ.2.1 4) (σ.2.1 5) (σ.2.1 6) (σ.1 32) (σ.2.2 34) (σ.2.2 35) (σ.2.2 36) (σ.2.2 37) (σ.2.2 38) (σ.1 33) (σ.1 34) (σ.1 35) (σ.1 36) (σ.1 37) (σ.1 38) (σ.1 39) (σ.1 40) (σ.2.1 7) (σ.2.1 8) (σ.2.1 9) (σ.1 41) (σ.2.1 10) (σ.2.1 11) (σ.2.1 12) (σ.2.1 13) (σ.1 42) (σ.2.1 14) (σ.2.1 15) (σ.2.1 16) (σ.2.1 17) (σ.2.2 39) (σ.2.2 40) (σ.2.1 18) (σ.2.1 19) (σ.2.1 20) (σ.2.1 21) (σ.1 43) (σ.2.1 22) (σ.2.1 23) (σ.2.1 24) (σ.2.1 25) (σ.2.2 41) (σ.2.2 42) (σ.2.1 26) (σ.2.1 27) (σ.2.1 28) (σ.2.1 29) (σ.2.1 30) (σ.2.1 31) (xs (cx_ix (nI i + 1))) (xs (cx_ix (nI i + 2))) y1 e1) dL_law_737 ⟨(Nat.le_of_ble_eq_true rfl), (Nat.le_of_ble_eq_true rfl)⟩ ⟨Nat.le_refl _, Nat.le_refl _⟩ rfl rfl (Nat.le_of_ble_eq_true rfl) rfl rfl rfl ?_
  refine cx_aload_n C dL_law_740 2 rfl ?_
  refine cx_aload_n C dL_law_741 0 rfl ?_
  refine cx_iload_n C dL_law_742 3 rfl ?_
  refine cx_iconst (v := 1) C dL_law_743 (by decide) ?_
  refine cx_iadd C dL_law_744 ?_
  refine cx_sld C hX hbl hbA dL_law_745 (law_in (j := 1) hL hlt (by decide)) ?_
  refine cx_aload_n C dL_law_746 0 rfl ?_
  refine cx_iload_n C dL_law_747 3 rfl ?_
  refine cx_iconst (v := 2) C dL_law_748 (by decide) ?_
  refine cx_iadd C dL_law_749 ?_
  refine cx_sld C hX hbl hbA dL_law_750 (law_in (j := 2) hL hlt (by decide)) ?_
  refine cx_LRi (q := (RX9, TX9, 24)) (As := [.int (xs (cx_ix (nI i + 1))), .int (xs (cx_ix (nI i + 2)))]) (rest := [.int y1.1]) (w1 := (wM k V (cx_sI (cx_sI (cx_sI (cx_sI (cx_sI (cx_sZ (cx_sZ (cx_sZ τ 7 y2.2.1) 8 y2.2.2.1) 10 y2.2.2.2.1) 0 y2.2.2.2.2.1) 1 y2.2.2.2.2.2.1) 6 y2.2.2.2.2.2.2.1) 9 y2.2.2.2.2.2.2.2.1) 10 y2.2.2.2.2.2.2.2.2))) hA C me_X9_who hw_1280 (c_X9_who l D k V (τ.1 0) (τ.1 1) (τ.1 2) (τ.1 3) (τ.1 4) (τ.1 5) (τ.1 6) (τ.2.2 0) (τ.1 7) (τ.2.2 1) (τ.2.2 2) (τ.2.2 3) (τ.2.2 4) (τ.2.2 5) (τ.1 8) (τ.2.2 6) (τ.1 9) (τ.1 10) (τ.2.2 7) (τ.2.2 8) (τ.2.2 9) (τ.2.2 10) (τ.2.2 11) (τ.1 11) (xs (cx_ix (nI i + 1))) (xs (cx_ix (nI i + 2))) y2 e2) dL_law_751 ⟨(Nat.le_of_ble_eq_true rfl), (Nat.le_of_ble_eq_true rfl)⟩ ⟨Nat.le_refl _, Nat.le_refl _⟩ rfl rfl (Nat.le_of_ble_eq_true rfl) rfl rfl rfl ?_
  refine cx_icmp_eq (tgt := 1362) C dL_law_754 (by decide) (fun _ => ?_) (fun q => absurd e3 q)
  exact hN _ _ hI
set_option maxHeartbeats 4000000 in
set_option maxRecDepth 100000 in
theorem law_c15 (i : Nat) (σ τ : cx_St) (hL : L ≤ 384) (hlt : i + 6 ≤ L) (ho : ob_named Inv) (hv : Inv σ τ) (hA : A = va_A [] s.heap.size) (C : cx_C p s m #[Value.ref b] c code 4 "NamelessBoxLaw" D k) (hE : cx_E te adK adV A s s.heap) (hX : va_X b L xs s s.heap) (hbl : b < s.heap.size) (hbA : ¬ A b) (hN : ∀ σ τ : cx_St, Inv σ τ → cx_S p l e room_1 s m #[Value.ref b] below meth c A D 4 600000 7302249 (lw_Z below #[Value.ref b] s) 1362 [(0, .ref b), (1, .ref (U 0 0)), (2, .ref (V 0)), (3, .int (nI i))] [] (wN k U σ ++ wM k V τ)) : cx_S p l e room_1 s m #[Value.ref b] below meth c A D 4 600000 7302249 (lw_Z below #[Value.ref b] s) 759 [(0, .ref b), (1, .ref (U 0 0)), (2, .ref (V 0)), (3, .int (nI i))] [] (wN k U σ ++ wM k V τ) := by
  obtain ⟨y1, y2, e1, e2, e3, hI⟩ := ho σ τ (xs (cx_ix (nI i + 1))) hv
  refine cx_aload_n C dL_law_759 1 rfl ?_
  refine cx_aload_n C dL_law_760 0 rfl ?_
  refine cx_iload_n C dL_law_761 3 rfl ?_
  refine cx_iconst (v := 1) C dL_law_762 (by decide) ?_
  refine cx_iadd C dL_law_763 ?_
  refine cx_sld C hX hbl hbA dL_law_764 (law_in (j := 1) hL hlt (by decide)) ?_
  refine cx_LLi (q := (RX8, TX8, 12)) (As := [.int (xs (cx_ix (nI i + 1)))]) (rest := []) (w1 := (wN k U (cx_sL (cx_sI (cx_sL (cx_sL (cx_sL (cx_sL (cx_sZ (cx_sZ (cx_sI (cx_sL (cx_sL (cx_sL (cx_sI (cx_sI (cx_sI (cx_sI (cx_sI (cx_sI (cx_sI (cx_sI (cx_sZ (cx_sZ (cx_sZ (cx_sZ (cx_sZ (cx_sL (cx_sL (cx_sL (cx_sL (cx_sI (cx_sZ σ 0 y1.2.1) 1 y1.2.2.1) 0 y1.2.2.2.1) 1 y1.2.2.2.2.1) 2 y1.2.2.2.2.2.1) 3 y1.2.2.2.2.2.2.1) 29 y1.2.2.2.2.2.2.2.1) 30 y1.2.2.2.2.2.2.2.2.1) 31 y1.2.2.2.2.2.2.2.2.2.1) 32 y1.2.2.2.2.2.2.2.2.2.2.1) 33 y1.2.2.2.2.2.2.2.2.2.2.2.1) 24 y1.2.2.2.2.2.2.2.2.2.2.2.2.1) 25 y1.2.2.2.2.2.2.2.2.2.2.2.2.2.1) 26 y1.2.2.2.2.2.2.2.2.2.2.2.2.2.2.1) 27 y1.2.2.2.2.2.2.2.2.2.2.2.2.2.2.2.1) 28 y1.2.2.2.2.2.2.2.2.2.2.2.2.2.2.2.2.1) 29 y1.2.2.2.2.2.2.2.2.2.2.2.2.2.2.2.2.2.1) 30 y1.2.2.2.2.2.2.2.2.2.2.2.2.2.2.2.2.2.2.1) 31 y1.2.2.2.2.2.2.2.2.2.2.2.2.2.2.2.2.2.2.2.1) 4 y1.2.2.2.2.2.2.2.2.2.2.2.2.2.2.2.2.2.2.2.2.1) 5 y1.2.2.2.2.2.2.2.2.2.2.2.2.2.2.2.2.2.2.2.2.2.1) 6 y1.2.2.2.2.2.2.2.2.2.2.2.2.2.2.2.2.2.2.2.2.2.2.1) 32 y1.2.2.2.2.2.2.2.2.2.2.2.2.2.2.2.2.2.2.2.2.2.2.2.1) 39 y1.2.2.2.2.2.2.2.2.2.2.2.2.2.2.2.2.2.2.2.2.2.2.2.2.1) 40 y1.2.2.2.2.2.2.2.2.2.2.2.2.2.2.2.2.2.2.2.2.2.2.2.2.2.1) 10 y1.2.2.2.2.2.2.2.2.2.2.2.2.2.2.2.2.2.2.2.2.2.2.2.2.2.2.1) 11 y1.2.2.2.2.2.2.2.2.2.2.2.2.2.2.2.2.2.2.2.2.2.2.2.2.2.2.2.1) 12 y1.2.2.2.2.2.2.2.2.2.2.2.2.2.2.2.2.2.2.2.2.2.2.2.2.2.2.2.2.1) 13 y1.2.2.2.2.2.2.2.2.2.2.2.2.2.2.2.2.2.2.2.2.2.2.2.2.2.2.2.2.2.1) 42 y1.2.2.2.2.2.2.2.2.2.2.2.2.2.2.2.2.2.2.2.2.2.2.2.2.2.2.2.2.2.2.1) 14 y1.2.2.2.2.2.2.2.2.2.2.2.2.2.2.2.2.2.2.2.2.2.2.2.2.2.2.2.2.2.2.2))) hA C me_X8_named hw_804 (c_X8_named l D k (U 0) (U 1) (U 2) (U 3) (U 4) (U 5) (U 6) (U 7) (U 8) (U 9) (U 10) (U 11) (σ.1 0) (σ.1 1) (σ.2.2 0) (σ.1 2) (σ.2.2 1) (σ.1 3) (σ.2.2 2) (σ.1 4) (σ.2.2 3) (σ.1 5) (σ.2.2 4) (σ.1 6) (σ.2.2 5) (σ.2.2 6) (σ.1 7) (σ.2.2 7) (σ.1 8) (σ.2.2 8) (σ.1 9) (σ.2.2 9) (σ.1 10) (σ.2.2 10) (σ.1 11) (σ.2.2 11) (σ.2.2 12) (σ.1 12) (σ.2.2 13) (σ.1 13) (σ.2.2 14) (σ.1 14) (σ.2.2 15) (σ.1 15) (σ.2.2 16) (σ.1 16) (σ.2.2 17) (σ.2.2 18) (σ.1 17) (σ.2.2 19) (σ.1 18) (σ.2.2 20) (σ.1 19) (σ.2.2 21) (σ.1 20) (σ.2.2 22) (σ.1 21) (σ.2.2 23) (σ.2.2 24) (σ.1 22) (σ.2.2 25) (σ.2.2 26) (σ.2.2 27) (σ.2.2 28) (σ.1 23) (σ.2.1 0) (σ.2.1 1) (σ.2.1 2) (σ.2.1 3) (σ.2.2 29) (σ.2.2 30) (σ.2.2 31) (σ.2.2 32) (σ.2.2 33) (σ.1 24) (σ.1 25) (σ.1 26) (σ.1 27) (σ.1 28) (σ.1 29) (σ.1 30) (σ.1 31) (σ.2.1 4) (σ.2.1 5) (σ.2.1 6) (σ.1 32) (σ.2.2 34) (σ.2.2 35) (σ.2.2 36) (σ.2.2 37) (σ.2.2 38) (σ.1 33) (σ.1 34) (σ.1 35) (σ.1 36) (σ.1 37) (σ.1 38) (σ.1 39) (σ.1 40) (σ.2.1 7) (σ.2.1 8) (σ.2.1 9) (σ.1 41) (σ.2.1 10) (σ.2.1 11) (σ.2.1 12) (σ.2.1 13) (σ.1 42) (σ.2.1 14) (σ.2.1 15) (σ.2.1 16) (σ.2.1 17) (σ.2.2 39) (σ.2.2 40) (σ.2.1 18) (σ.2.1 19) (σ.2.1 20) (σ.2.1 21) (σ.1 43) (σ.2.1 22) (σ.2.1 23) (σ.2.1 24) (σ.2.1 25) (σ.2.2 41) (σ.2.2 42) (σ.2.1 26) (σ.2.1 27) (σ.2.1 28) (σ.2.1 29) (σ.2.1 30) (σ.2.1 31) (xs (cx_ix (nI i + 1))) y1 e1) dL_law_765 ⟨(Nat.le_of_ble_eq_true rfl), (Nat.le_of_ble_eq_true rfl)⟩ ⟨Nat.le_refl _, Nat.le_refl _⟩ rfl rfl (Nat.le_of_ble_eq_true rfl) rfl rfl rfl ?_
  refine cx_aload_n C dL_law_768 2 rfl ?_
  refine cx_aload_n C dL_law_769 0 rfl ?_
  refine cx_iload_n C dL_law_770 3 rfl ?_
  refine cx_iconst (v := 1) C dL_law_771 (by decide) ?_
  refine cx_iadd C dL_law_772 ?_
  refine cx_sld C hX hbl hbA dL_law_773 (law_in (j := 1) hL hlt (by decide)) ?_
  refine cx_LRi (q := (RX9, TX9, 24)) (As := [.int (xs (cx_ix (nI i + 1)))]) (rest := [.int y1.1]) (w1 := (wM k V (cx_sI (cx_sI (cx_sI (cx_sI (cx_sI (cx_sZ (cx_sZ (cx_sZ τ 7 y2.2.1) 8 y2.2.2.1) 10 y2.2.2.2.1) 0 y2.2.2.2.2.1) 1 y2.2.2.2.2.2.1) 6 y2.2.2.2.2.2.2.1) 9 y2.2.2.2.2.2.2.2.1) 10 y2.2.2.2.2.2.2.2.2))) hA C me_X9_named hw_1369 (c_X9_named l D k V (τ.1 0) (τ.1 1) (τ.1 2) (τ.1 3) (τ.1 4) (τ.1 5) (τ.1 6) (τ.2.2 0) (τ.1 7) (τ.2.2 1) (τ.2.2 2) (τ.2.2 3) (τ.2.2 4) (τ.2.2 5) (τ.1 8) (τ.2.2 6) (τ.1 9) (τ.1 10) (τ.2.2 7) (τ.2.2 8) (τ.2.2 9) (τ.2.2 10) (τ.2.2 11) (τ.1 11) (xs (cx_ix (nI i + 1))) y2 e2) dL_law_774 ⟨(Nat.le_of_ble_eq_true rfl), (Nat.le_of_ble_eq_true rfl)⟩ ⟨Nat.le_refl _, Nat.le_refl _⟩ rfl rfl (Nat.le_of_ble_eq_true rfl) rfl rfl rfl ?_
  refine cx_icmp_eq (tgt := 1362) C dL_law_777 (by decide) (fun _ => ?_) (fun q => absurd e3 q)
  exact hN _ _ hI
set_option maxHeartbeats 4000000 in
set_option maxRecDepth 100000 in
theorem law_c16 (i : Nat) (σ τ : cx_St) (hL : L ≤ 384) (hlt : i + 6 ≤ L) (ho : ob_best Inv) (hv : Inv σ τ) (hA : A = va_A [] s.heap.size) (C : cx_C p s m #[Value.ref b] c code 4 "NamelessBoxLaw" D k) (hE : cx_E te adK adV A s s.heap) (hX : va_X b L xs s s.heap) (hbl : b < s.heap.size) (hbA : ¬ A b) (hN : ∀ σ τ : cx_St, Inv σ τ → cx_S p l e room_1 s m #[Value.ref b] below meth c A D 4 600000 7302249 (lw_Z below #[Value.ref b] s) 1362 [(0, .ref b), (1, .ref (U 0 0)), (2, .ref (V 0)), (3, .int (nI i))] [] (wN k U σ ++ wM k V τ)) : cx_S p l e room_1 s m #[Value.ref b] below meth c A D 4 600000 7302249 (lw_Z below #[Value.ref b] s) 782 [(0, .ref b), (1, .ref (U 0 0)), (2, .ref (V 0)), (3, .int (nI i))] [] (wN k U σ ++ wM k V τ) := by
  obtain ⟨y1, y2, e1, e2, e3, hI⟩ := ho σ τ (xs (cx_ix (nI i + 1))) hv
  refine cx_aload_n C dL_law_782 1 rfl ?_
  refine cx_aload_n C dL_law_783 0 rfl ?_
  refine cx_iload_n C dL_law_784 3 rfl ?_
  refine cx_iconst (v := 1) C dL_law_785 (by decide) ?_
  refine cx_iadd C dL_law_786 ?_
  refine cx_sld C hX hbl hbA dL_law_787 (law_in (j := 1) hL hlt (by decide)) ?_
  refine cx_LLi (q := (RX8, TX8, 12)) (As := [.int (xs (cx_ix (nI i + 1)))]) (rest := []) (w1 := (wN k U (cx_sL (cx_sI (cx_sL (cx_sL (cx_sL (cx_sL (cx_sZ (cx_sZ (cx_sI (cx_sL (cx_sL (cx_sL (cx_sI (cx_sI (cx_sI (cx_sI (cx_sI (cx_sI (cx_sI (cx_sI (cx_sZ (cx_sZ (cx_sZ (cx_sZ (cx_sZ (cx_sI (cx_sZ σ 0 y1.2.1) 1 y1.2.2.1) 29 y1.2.2.2.1) 30 y1.2.2.2.2.1) 31 y1.2.2.2.2.2.1) 32 y1.2.2.2.2.2.2.1) 33 y1.2.2.2.2.2.2.2.1) 24 y1.2.2.2.2.2.2.2.2.1) 25 y1.2.2.2.2.2.2.2.2.2.1) 26 y1.2.2.2.2.2.2.2.2.2.2.1) 27 y1.2.2.2.2.2.2.2.2.2.2.2.1) 28 y1.2.2.2.2.2.2.2.2.2.2.2.2.1) 29 y1.2.2.2.2.2.2.2.2.2.2.2.2.2.1) 30 y1.2.2.2.2.2.2.2.2.2.2.2.2.2.2.1) 31 y1.2.2.2.2.2.2.2.2.2.2.2.2.2.2.2.1) 4 y1.2.2.2.2.2.2.2.2.2.2.2.2.2.2.2.2.1) 5 y1.2.2.2.2.2.2.2.2.2.2.2.2.2.2.2.2.2.1) 6 y1.2.2.2.2.2.2.2.2.2.2.2.2.2.2.2.2.2.2.1) 32 y1.2.2.2.2.2.2.2.2.2.2.2.2.2.2.2.2.2.2.2.1) 39 y1.2.2.2.2.2.2.2.2.2.2.2.2.2.2.2.2.2.2.2.2.1) 40 y1.2.2.2.2.2.2.2.2.2.2.2.2.2.2.2.2.2.2.2.2.2.1) 10 y1.2.2.2.2.2.2.2.2.2.2.2.2.2.2.2.2.2.2.2.2.2.2.1) 11 y1.2.2.2.2.2.2.2.2.2.2.2.2.2.2.2.2.2.2.2.2.2.2.2.1) 12 y1.2.2.2.2.2.2.2.2.2.2.2.2.2.2.2.2.2.2.2.2.2.2.2.2.1) 13 y1.2.2.2.2.2.2.2.2.2.2.2.2.2.2.2.2.2.2.2.2.2.2.2.2.2.1) 42 y1.2.2.2.2.2.2.2.2.2.2.2.2.2.2.2.2.2.2.2.2.2.2.2.2.2.2.1) 14 y1.2.2.2.2.2.2.2.2.2.2.2.2.2.2.2.2.2.2.2.2.2.2.2.2.2.2.2))) hA C me_X8_best hw_813 (c_X8_best l D k (U 0) (U 1) (U 2) (U 3) (U 4) (U 5) (U 6) (U 7) (U 8) (U 9) (U 10) (U 11) (σ.1 0) (σ.1 1) (σ.2.2 0) (σ.1 2) (σ.2.2 1) (σ.1 3) (σ.2.2 2) (σ.1 4) (σ.2.2 3) (σ.1 5) (σ.2.2 4) (σ.1 6) (σ.2.2 5) (σ.2.2 6) (σ.1 7) (σ.2.2 7) (σ.1 8) (σ.2.2 8) (σ.1 9) (σ.2.2 9) (σ.1 10) (σ.2.2 10) (σ.1 11) (σ.2.2 11) (σ.2.2 12) (σ.1 12) (σ.2.2 13) (σ.1 13) (σ.2.2 14) (σ.1 14) (σ.2.2 15) (σ.1 15) (σ.2.2 16) (σ.1 16) (σ.2.2 17) (σ.2.2 18) (σ.1 17) (σ.2.2 19) (σ.1 18) (σ.2.2 20) (σ.1 19) (σ.2.2 21) (σ.1 20) (σ.2.2 22) (σ.1 21) (σ.2.2 23) (σ.2.2 24) (σ.1 22) (σ.2.2 25) (σ.2.2 26) (σ.2.2 27) (σ.2.2 28) (σ.1 23) (σ.2.1 0) (σ.2.1 1) (σ.2.1 2) (σ.2.1 3) (σ.2.2 29) (σ.2.2 30) (σ.2.2 31) (σ.2.2 32) (σ.2.2 33) (σ.1 24) (σ.1 25) (σ.1 26) (σ.1 27) (σ.1 28) (σ.1 29) (σ.1 30) (σ.1 31) (σ.2.1 4) (σ.2.1 5) (σ.2.1 6) (σ.1 32) (σ.2.2 34) (σ.2.2 35) (σ.2.2 36) (σ.2.2 37) (σ.2.2 38) (σ.1 33) (σ.1 34) (σ.1 35) (σ.1 36) (σ.1 37) (σ.1 38) (σ.1 39) (σ.1 40) (σ.2.1 7) (σ.2.1 8) (σ.2.1 9) (σ.1 41) (σ.2.1 10) (σ.2.1 11) (σ.2.1 12) (σ.2.1 13) (σ.1 42) (σ.2.1 14) (σ.2.1 15) (σ.2.1 16) (σ.2.1 17) (σ.2.2 39) (σ.2.2 40) (σ.2.1 18) (σ.2.1 19) (σ.2.1 20) (σ.2.1 21) (σ.1 43) (σ.2.1 22) (σ.2.1 23) (σ.2.1 24) (σ.2.1 25) (σ.2.2 41) (σ.2.2 42) (σ.2.1 26) (σ.2.1 27) (σ.2.1 28) (σ.2.1 29) (σ.2.1 30) (σ.2.1 31) (xs (cx_ix (nI i + 1))) y1 e1) dL_law_788 ⟨(Nat.le_of_ble_eq_true rfl), (Nat.le_of_ble_eq_true rfl)⟩ ⟨Nat.le_refl _, Nat.le_refl _⟩ rfl rfl (Nat.le_of_ble_eq_true rfl) rfl rfl rfl ?_
  refine cx_aload_n C dL_law_791 2 rfl ?_
  refine cx_aload_n C dL_law_792 0 rfl ?_
  refine cx_iload_n C dL_law_793 3 rfl ?_
  refine cx_iconst (v := 1) C dL_law_794 (by decide) ?_
  refine cx_iadd C dL_law_795 ?_
  refine cx_sld C hX hbl hbA dL_law_796 (law_in (j := 1) hL hlt (by decide)) ?_
  refine cx_LRi (q := (RX9, TX9, 24)) (As := [.int (xs (cx_ix (nI i + 1)))]) (rest := [.int y1.1]) (w1 := (wM k V (cx_sI (cx_sI (cx_sI (cx_sI (cx_sI (cx_sZ (cx_sZ (cx_sZ τ 7 y2.2.1) 8 y2.2.2.1) 10 y2.2.2.2.1) 0 y2.2.2.2.2.1) 1 y2.2.2.2.2.2.1) 6 y2.2.2.2.2.2.2.1) 9 y2.2.2.2.2.2.2.2.1) 10 y2.2.2.2.2.2.2.2.2))) hA C me_X9_best hw_1377 (c_X9_best l D k V (τ.1 0) (τ.1 1) (τ.1 2) (τ.1 3) (τ.1 4) (τ.1 5) (τ.1 6) (τ.2.2 0) (τ.1 7) (τ.2.2 1) (τ.2.2 2) (τ.2.2 3) (τ.2.2 4) (τ.2.2 5) (τ.1 8) (τ.2.2 6) (τ.1 9) (τ.1 10) (τ.2.2 7) (τ.2.2 8) (τ.2.2 9) (τ.2.2 10) (τ.2.2 11) (τ.1 11) (xs (cx_ix (nI i + 1))) y2 e2) dL_law_797 ⟨(Nat.le_of_ble_eq_true rfl), (Nat.le_of_ble_eq_true rfl)⟩ ⟨Nat.le_refl _, Nat.le_refl _⟩ rfl rfl (Nat.le_of_ble_eq_true rfl) rfl rfl rfl ?_
  refine cx_icmp_eq (tgt := 1362) C dL_law_800 (by decide) (fun _ => ?_) (fun q => absurd e3 q)
  exact hN _ _ hI
set_option maxHeartbeats 4000000 in
set_option maxRecDepth 100000 in
theorem law_c17 (i : Nat) (σ τ : cx_St) (hL : L ≤ 384) (hlt : i + 6 ≤ L) (ho : ob_all Inv) (hv : Inv σ τ) (hA : A = va_A [] s.heap.size) (C : cx_C p s m #[Value.ref b] c code 4 "NamelessBoxLaw" D k) (hE : cx_E te adK adV A s s.heap) (hX : va_X b L xs s s.heap) (hbl : b < s.heap.size) (hbA : ¬ A b) (hN : ∀ σ τ : cx_St, Inv σ τ → cx_S p l e room_1 s m #[Value.ref b] below meth c A D 4 600000 7302249 (lw_Z below #[Value.ref b] s) 1362 [(0, .ref b), (1, .ref (U 0 0)), (2, .ref (V 0)), (3, .int (nI i))] [] (wN k U σ ++ wM k V τ)) : cx_S p l e room_1 s m #[Value.ref b] below meth c A D 4 600000 7302249 (lw_Z below #[Value.ref b] s) 805 [(0, .ref b), (1, .ref (U 0 0)), (2, .ref (V 0)), (3, .int (nI i))] [] (wN k U σ ++ wM k V τ) := by
  obtain ⟨y1, y2, e1, e2, e3, hI⟩ := ho σ τ  hv
  refine cx_aload_n C dL_law_805 1 rfl ?_
  refine cx_LLi (q := (RX8, TX8, 12)) (As := []) (rest := []) (w1 := (wN k U (cx_sL (cx_sI (cx_sL (cx_sL (cx_sL (cx_sL (cx_sZ (cx_sZ (cx_sI (cx_sL (cx_sL (cx_sL (cx_sI (cx_sI (cx_sI (cx_sI (cx_sI (cx_sI (cx_sI (cx_sI (cx_sZ (cx_sZ (cx_sZ (cx_sZ (cx_sZ (cx_sL (cx_sL (cx_sI (cx_sZ σ 0 y1.2.1) 1 y1.2.2.1) 0 y1.2.2.2.1) 1 y1.2.2.2.2.1) 29 y1.2.2.2.2.2.1) 30 y1.2.2.2.2.2.2.1) 31 y1.2.2.2.2.2.2.2.1) 32 y1.2.2.2.2.2.2.2.2.1) 33 y1.2.2.2.2.2.2.2.2.2.1) 24 y1.2.2.2.2.2.2.2.2.2.2.1) 25 y1.2.2.2.2.2.2.2.2.2.2.2.1) 26 y1.2.2.2.2.2.2.2.2.2.2.2.2.1) 27 y1.2.2.2.2.2.2.2.2.2.2.2.2.2.1) 28 y1.2.2.2.2.2.2.2.2.2.2.2.2.2.2.1) 29 y1.2.2.2.2.2.2.2.2.2.2.2.2.2.2.2.1) 30 y1.2.2.2.2.2.2.2.2.2.2.2.2.2.2.2.2.1) 31 y1.2.2.2.2.2.2.2.2.2.2.2.2.2.2.2.2.2.1) 4 y1.2.2.2.2.2.2.2.2.2.2.2.2.2.2.2.2.2.2.1) 5 y1.2.2.2.2.2.2.2.2.2.2.2.2.2.2.2.2.2.2.2.1) 6 y1.2.2.2.2.2.2.2.2.2.2.2.2.2.2.2.2.2.2.2.2.1) 32 y1.2.2.2.2.2.2.2.2.2.2.2.2.2.2.2.2.2.2.2.2.2.1) 39 y1.2.2.2.2.2.2.2.2.2.2.2.2.2.2.2.2.2.2.2.2.2.2.1) 40 y1.2.2.2.2.2.2.2.2.2.2.2.2.2.2.2.2.2.2.2.2.2.2.2.1) 10 y1.2.2.2.2.2.2.2.2.2.2.2.2.2.2.2.2.2.2.2.2.2.2.2.2.1) 11 y1.2.2.2.2.2.2.2.2.2.2.2.2.2.2.2.2.2.2.2.2.2.2.2.2.2.1) 12 y1.2.2.2.2.2.2.2.2.2.2.2.2.2.2.2.2.2.2.2.2.2.2.2.2.2.2.1) 13 y1.2.2.2.2.2.2.2.2.2.2.2.2.2.2.2.2.2.2.2.2.2.2.2.2.2.2.2.1) 42 y1.2.2.2.2.2.2.2.2.2.2.2.2.2.2.2.2.2.2.2.2.2.2.2.2.2.2.2.2.1) 14 y1.2.2.2.2.2.2.2.2.2.2.2.2.2.2.2.2.2.2.2.2.2.2.2.2.2.2.2.2.2))) hA C me_X8_all hw_817 (c_X8_all l D k (U 0) (U 1) (U 2) (U 3) (U 4) (U 5) (U 6) (U 7) (U 8) (U 9) (U 10) (U 11) (σ.1 0) (σ.1 1) (σ.2.2 0) (σ.1 2) (σ.2.2 1) (σ.1 3) (σ.2.2 2) (σ.1 4) (σ.2.2 3) (σ.1 5) (σ.2.2 4) (σ.1 6) (σ.2.2 5) (σ.2.2 6) (σ.1 7) (σ.2.2 7) (σ.1 8) (σ.2.2 8) (σ.1 9) (σ.2.2 9) (σ.1 10) (σ.2.2 10) (σ.1 11) (σ.2.2 11) (σ.2.2 12) (σ.1 12) (σ.2.2 13) (σ.1 13) (σ.2.2 14) (σ.1 14) (σ.2.2 15) (σ.1 15) (σ.2.2 16) (σ.1 16) (σ.2.2 17) (σ.2.2 18) (σ.1 17) (σ.2.2 19) (σ.1 18) (σ.2.2 20) (σ.1 19) (σ.2.2 21) (σ.1 20) (σ.2.2 22) (σ.1 21) (σ.2.2 23) (σ.2.2 24) (σ.1 22) (σ.2.2 25) (σ.2.2 26) (σ.2.2 27) (σ.2.2 28) (σ.1 23) (σ.2.1 0) (σ.2.1 1) (σ.2.1 2) (σ.2.1 3) (σ.2.2 29) (σ.2.2 30) (σ.2.2 31) (σ.2.2 32) (σ.2.2 33) (σ.1 24) (σ.1 25) (σ.1 26) (σ.1 27) (σ.1 28) (σ.1 29) (σ.1 30) (σ.1 31) (σ.2.1 4) (σ.2.1 5) (σ.2.1 6) (σ.1 32) (σ.2.2 34) (σ.2.2 35) (σ.2.2 36) (σ.2.2 37) (σ.2.2 38) (σ.1 33) (σ.1 34) (σ.1 35) (σ.1 36) (σ.1 37) (σ.1 38) (σ.1 39) (σ.1 40) (σ.2.1 7) (σ.2.1 8) (σ.2.1 9) (σ.1 41) (σ.2.1 10) (σ.2.1 11) (σ.2.1 12) (σ.2.1 13) (σ.1 42) (σ.2.1 14) (σ.2.1 15) (σ.2.1 16) (σ.2.1 17) (σ.2.2 39) (σ.2.2 40) (σ.2.1 18) (σ.2.1 19) (σ.2.1 20) (σ.2.1 21) (σ.1 43) (σ.2.1 22) (σ.2.1 23) (σ.2.1 24) (σ.2.1 25) (σ.2.2 41) (σ.2.2 42) (σ.2.1 26) (σ.2.1 27) (σ.2.1 28) (σ.2.1 29) (σ.2.1 30) (σ.2.1 31) y1 e1) dL_law_806 ⟨(Nat.le_of_ble_eq_true rfl), (Nat.le_of_ble_eq_true rfl)⟩ ⟨Nat.le_refl _, Nat.le_refl _⟩ rfl rfl (Nat.le_of_ble_eq_true rfl) rfl rfl rfl ?_
  refine cx_aload_n C dL_law_809 2 rfl ?_
  refine cx_LRi (q := (RX9, TX9, 24)) (As := []) (rest := [.int y1.1]) (w1 := (wM k V (cx_sI (cx_sI (cx_sI (cx_sI (cx_sI (cx_sZ (cx_sZ (cx_sZ τ 7 y2.2.1) 8 y2.2.2.1) 10 y2.2.2.2.1) 0 y2.2.2.2.2.1) 1 y2.2.2.2.2.2.1) 6 y2.2.2.2.2.2.2.1) 9 y2.2.2.2.2.2.2.2.1) 10 y2.2.2.2.2.2.2.2.2))) hA C me_X9_all hw_1381 (c_X9_all l D k V (τ.1 0) (τ.1 1) (τ.1 2) (τ.1 3) (τ.1 4) (τ.1 5) (τ.1 6) (τ.2.2 0) (τ.1 7) (τ.2.2 1) (τ.2.2 2) (τ.2.2 3) (τ.2.2 4) (τ.2.2 5) (τ.1 8) (τ.2.2 6) (τ.1 9) (τ.1 10) (τ.2.2 7) (τ.2.2 8) (τ.2.2 9) (τ.2.2 10) (τ.2.2 11) (τ.1 11) y2 e2) dL_law_810 ⟨(Nat.le_of_ble_eq_true rfl), (Nat.le_of_ble_eq_true rfl)⟩ ⟨Nat.le_refl _, Nat.le_refl _⟩ rfl rfl (Nat.le_of_ble_eq_true rfl) rfl rfl rfl ?_
  refine cx_icmp_eq (tgt := 1362) C dL_law_813 (by decide) (fun _ => ?_) (fun q => absurd e3 q)
  exact hN _ _ hI
set_option maxHeartbeats 4000000 in
set_option maxRecDepth 100000 in
theorem law_c18 (i : Nat) (σ τ : cx_St) (hL : L ≤ 384) (hlt : i + 6 ≤ L) (ho : ob_sure Inv) (hv : Inv σ τ) (hA : A = va_A [] s.heap.size) (C : cx_C p s m #[Value.ref b] c code 4 "NamelessBoxLaw" D k) (hE : cx_E te adK adV A s s.heap) (hX : va_X b L xs s s.heap) (hbl : b < s.heap.size) (hbA : ¬ A b) (hN : ∀ σ τ : cx_St, Inv σ τ → cx_S p l e room_1 s m #[Value.ref b] below meth c A D 4 600000 7302249 (lw_Z below #[Value.ref b] s) 1362 [(0, .ref b), (1, .ref (U 0 0)), (2, .ref (V 0)), (3, .int (nI i))] [] (wN k U σ ++ wM k V τ)) : cx_S p l e room_1 s m #[Value.ref b] below meth c A D 4 600000 7302249 (lw_Z below #[Value.ref b] s) 818 [(0, .ref b), (1, .ref (U 0 0)), (2, .ref (V 0)), (3, .int (nI i))] [] (wN k U σ ++ wM k V τ) := by
  obtain ⟨y1, y2, e1, e2, e3, hI⟩ := ho σ τ (xs (cx_ix (nI i + 1))) hv
  refine cx_aload_n C dL_law_818 1 rfl ?_
  refine cx_aload_n C dL_law_819 0 rfl ?_
  refine cx_iload_n C dL_law_820 3 rfl ?_
  refine cx_iconst (v := 1) C dL_law_821 (by decide) ?_
  refine cx_iadd C dL_law_822 ?_
  refine cx_sld C hX hbl hbA dL_law_823 (law_in (j := 1) hL hlt (by decide)) ?_
  refine cx_LLi (q := (RX8, TX8, 12)) (As := [.int (xs (cx_ix (nI i + 1)))]) (rest := []) (w1 := (wN k U (cx_sL (cx_sL (cx_sL (cx_sI (cx_sL (cx_sL (cx_sL (cx_sL (cx_sZ (cx_sZ (cx_sI (cx_sL (cx_sL (cx_sL (cx_sI (cx_sI (cx_sI (cx_sI (cx_sI (cx_sI (cx_sI (cx_sI (cx_sZ (cx_sZ (cx_sZ (cx_sZ (cx_sZ (cx_sI (cx_sZ σ 0 y1.2.1) 1 y1.2.2.1) 29 y1.2.2.2.1) 30 y1.2.2.2.2.1) 31 y1.2.2.2.2.2.1) 32 y1.2.2.2.2.2.2.1) 33 y1.2.2.2.2.2.2.2.1) 24 y1.2.2.2.2.2.2.2.2.1) 25 y1.2.2.2.2.2.2.2.2.2.1) 26 y1.2.2.2.2.2.2.2.2.2.2.1) 27 y1.2.2.2.2.2.2.2.2.2.2.2.1) 28 y1.2.2.2.2.2.2.2.2.2.2.2.2.1) 29 y1.2.2.2.2.2.2.2.2.2.2.2.2.2.1) 30 y1.2.2.2.2.2.2.2.2.2.2.2.2.2.2.1) 31 y1.2.2.2.2.2.2.2.2.2.2.2.2.2.2.2.1) 4 y1.2.2.2.2.2.2.2.2.2.2.2.2.2.2.2.2.1) 5 y1.2.2.2.2.2.2.2.2.2.2.2.2.2.2.2.2.2.1) 6 y1.2.2.2.2.2.2.2.2.2.2.2.2.2.2.2.2.2.2.1) 32 y1.2.2.2.2.2.2.2.2.2.2.2.2.2.2.2.2.2.2.2.1) 39 y1.2.2.2.2.2.2.2.2.2.2.2.2.2.2.2.2.2.2.2.2.1) 40 y1.2.2.2.2.2.2.2.2.2.2.2.2.2.2.2.2.2.2.2.2.2.1) 10 y1.2.2.2.2.2.2.2.2.2.2.2.2.2.2.2.2.2.2.2.2.2.2.1) 11 y1.2.2.2.2.2.2.2.2.2.2.2.2.2.2.2.2.2.2.2.2.2.2.2.1) 12 y1.2.2.2.2.2.2.2.2.2.2.2.2.2.2.2.2.2.2.2.2.2.2.2.2.1) 13 y1.2.2.2.2.2.2.2.2.2.2.2.2.2.2.2.2.2.2.2.2.2.2.2.2.2.1) 42 y1.2.2.2.2.2.2.2.2.2.2.2.2.2.2.2.2.2.2.2.2.2.2.2.2.2.2.1) 14 y1.2.2.2.2.2.2.2.2.2.2.2.2.2.2.2.2.2.2.2.2.2.2.2.2.2.2.2.1) 16 y1.2.2.2.2.2.2.2.2.2.2.2.2.2.2.2.2.2.2.2.2.2.2.2.2.2.2.2.2.1) 17 y1.2.2.2.2.2.2.2.2.2.2.2.2.2.2.2.2.2.2.2.2.2.2.2.2.2.2.2.2.2))) hA C me_X8_sure hw_825 (c_X8_sure l D k (U 0) (U 1) (U 2) (U 3) (U 4) (U 5) (U 6) (U 7) (U 8) (U 9) (U 10) (U 11) (σ.1 0) (σ.1 1) (σ.2.2 0) (σ.1 2) (σ.2.2 1) (σ.1 3) (σ.2.2 2) (σ.1 4) (σ.2.2 3) (σ.1 5) (σ.2.2 4) (σ.1 6) (σ.2.2 5) (σ.2.2 6) (σ.1 7) (σ.2.2 7) (σ.1 8) (σ.2.2 8) (σ.1 9) (σ.2.2 9) (σ.1 10) (σ.2.2 10) (σ.1 11) (σ.2.2 11) (σ.2.2 12) (σ.1 12) (σ.2.2 13) (σ.1 13) (σ.2.2 14) (σ.1 14) (σ.2.2 15) (σ.1 15) (σ.2.2 16) (σ.1 16) (σ.2.2 17) (σ.2.2 18) (σ.1 17) (σ.2.2 19) (σ.1 18) (σ.2.2 20) (σ.1 19) (σ.2.2 21) (σ.1 20) (σ.2.2 22) (σ.1 21) (σ.2.2 23) (σ.2.2 24) (σ.1 22) (σ.2.2 25) (σ.2.2 26) (σ.2.2 27) (σ.2.2 28) (σ.1 23) (σ.2.1 0) (σ.2.1 1) (σ.2.1 2) (σ.2.1 3) (σ.2.2 29) (σ.2.2 30) (σ.2.2 31) (σ.2.2 32) (σ.2.2 33) (σ.1 24) (σ.1 25) (σ.1 26) (σ.1 27) (σ.1 28) (σ.1 29) (σ.1 30) (σ.1 31) (σ.2.1 4) (σ.2.1 5) (σ.2.1 6) (σ.1 32) (σ.2.2 34) (σ.2.2 35) (σ.2.2 36) (σ.2.2 37) (σ.2.2 38) (σ.1 33) (σ.1 34) (σ.1 35) (σ.1 36) (σ.1 37) (σ.1 38) (σ.1 39) (σ.1 40) (σ.2.1 7) (σ.2.1 8) (σ.2.1 9) (σ.1 41) (σ.2.1 10) (σ.2.1 11) (σ.2.1 12) (σ.2.1 13) (σ.1 42) (σ.2.1 14) (σ.2.1 15) (σ.2.1 16) (σ.2.1 17) (σ.2.2 39) (σ.2.2 40) (σ.2.1 18) (σ.2.1 19) (σ.2.1 20) (σ.2.1 21) (σ.1 43) (σ.2.1 22) (σ.2.1 23) (σ.2.1 24) (σ.2.1 25) (σ.2.2 41) (σ.2.2 42) (σ.2.1 26) (σ.2.1 27) (σ.2.1 28) (σ.2.1 29) (σ.2.1 30) (σ.2.1 31) (xs (cx_ix (nI i + 1))) y1 e1) dL_law_824 ⟨(Nat.le_of_ble_eq_true rfl), (Nat.le_of_ble_eq_true rfl)⟩ ⟨Nat.le_refl _, Nat.le_refl _⟩ rfl rfl (Nat.le_of_ble_eq_true rfl) rfl rfl rfl ?_
  refine cx_aload_n C dL_law_827 2 rfl ?_
  refine cx_aload_n C dL_law_828 0 rfl ?_
  refine cx_iload_n C dL_law_829 3 rfl ?_
  refine cx_iconst (v := 1) C dL_law_830 (by decide) ?_
  refine cx_iadd C dL_law_831 ?_
  refine cx_sld C hX hbl hbA dL_law_832 (law_in (j := 1) hL hlt (by decide)) ?_
  refine cx_LRi (q := (RX9, TX9, 24)) (As := [.int (xs (cx_ix (nI i + 1)))]) (rest := [.int y1.1]) (w1 := (wM k V (cx_sI (cx_sI (cx_sI (cx_sI (cx_sI (cx_sZ (cx_sZ (cx_sZ τ 7 y2.2.1) 8 y2.2.2.1) 10 y2.2.2.2.1) 0 y2.2.2.2.2.1) 1 y2.2.2.2.2.2.1) 6 y2.2.2.2.2.2.2.1) 9 y2.2.2.2.2.2.2.2.1) 10 y2.2.2.2.2.2.2.2.2))) hA C me_X9_sure hw_1397 (c_X9_sure l D k V (τ.1 0) (τ.1 1) (τ.1 2) (τ.1 3) (τ.1 4) (τ.1 5) (τ.1 6) (τ.2.2 0) (τ.1 7) (τ.2.2 1) (τ.2.2 2) (τ.2.2 3) (τ.2.2 4) (τ.2.2 5) (τ.1 8) (τ.2.2 6) (τ.1 9) (τ.1 10) (τ.2.2 7) (τ.2.2 8) (τ.2.2 9) (τ.2.2 10) (τ.2.2 11) (τ.1 11) (xs (cx_ix (nI i + 1))) y2 e2) dL_law_833 ⟨(Nat.le_of_ble_eq_true rfl), (Nat.le_of_ble_eq_true rfl)⟩ ⟨Nat.le_refl _, Nat.le_refl _⟩ rfl rfl (Nat.le_of_ble_eq_true rfl) rfl rfl rfl ?_
  refine cx_icmp_eq (tgt := 1362) C dL_law_836 (by decide) (fun _ => ?_) (fun q => absurd e3 q)
  exact hN _ _ hI
set_option maxHeartbeats 4000000 in
set_option maxRecDepth 100000 in
theorem law_c19 (i : Nat) (σ τ : cx_St) (hL : L ≤ 384) (hlt : i + 6 ≤ L) (ho : ob_falls Inv) (hv : Inv σ τ) (hA : A = va_A [] s.heap.size) (C : cx_C p s m #[Value.ref b] c code 4 "NamelessBoxLaw" D k) (hE : cx_E te adK adV A s s.heap) (hX : va_X b L xs s s.heap) (hbl : b < s.heap.size) (hbA : ¬ A b) (hN : ∀ σ τ : cx_St, Inv σ τ → cx_S p l e room_1 s m #[Value.ref b] below meth c A D 4 600000 7302249 (lw_Z below #[Value.ref b] s) 1362 [(0, .ref b), (1, .ref (U 0 0)), (2, .ref (V 0)), (3, .int (nI i))] [] (wN k U σ ++ wM k V τ)) : cx_S p l e room_1 s m #[Value.ref b] below meth c A D 4 600000 7302249 (lw_Z below #[Value.ref b] s) 841 [(0, .ref b), (1, .ref (U 0 0)), (2, .ref (V 0)), (3, .int (nI i))] [] (wN k U σ ++ wM k V τ) := by
  obtain ⟨y1, y2, e1, e2, e3, hI⟩ := ho σ τ (xs (cx_ix (nI i + 1))) (xs (cx_ix (nI i + 2))) hv
  refine cx_aload_n C dL_law_841 1 rfl ?_
  refine cx_aload_n C dL_law_842 0 rfl ?_
  refine cx_iload_n C dL_law_843 3 rfl ?_
  refine cx_iconst (v := 1) C dL_law_844 (by decide) ?_
  refine cx_iadd C dL_law_845 ?_
  refine cx_sld C hX hbl hbA dL_law_846 (law_in (j := 1) hL hlt (by decide)) ?_
  refine cx_aload_n C dL_law_847 0 rfl ?_
  refine cx_iload_n C dL_law_848 3 rfl ?_
  refine cx_iconst (v := 2) C dL_law_849 (by decide) ?_
  refine cx_iadd C dL_law_850 ?_
  refine cx_sld C hX hbl hbA dL_law_851 (law_in (j := 2) hL hlt (by decide)) ?_
  refine cx_LLi (q := (RX8, TX8, 12)) (As := [.int (xs (cx_ix (nI i + 1))), .int (xs (cx_ix (nI i + 2)))]) (rest := []) (w1 := (wN k U (cx_sL (cx_sL (cx_sL (cx_sI (cx_sL (cx_sL (cx_sL (cx_sL (cx_sZ (cx_sZ (cx_sL (cx_sL (cx_sL (cx_sI (cx_sL (cx_sL (cx_sL (cx_sL (cx_sZ (cx_sZ (cx_sI (cx_sL (cx_sL (cx_sL (cx_sI (cx_sI (cx_sI (cx_sI (cx_sI (cx_sI (cx_sI (cx_sI (cx_sZ (cx_sZ (cx_sZ (cx_sZ (cx_sZ (cx_sI (cx_sL (cx_sL (cx_sL (cx_sI (cx_sI (cx_sI (cx_sI (cx_sI (cx_sI (cx_sI (cx_sI (cx_sZ (cx_sZ (cx_sZ (cx_sZ (cx_sZ (cx_sI (cx_sZ σ 0 y1.2.1) 1 y1.2.2.1) 29 y1.2.2.2.1) 30 y1.2.2.2.2.1) 31 y1.2.2.2.2.2.1) 32 y1.2.2.2.2.2.2.1) 33 y1.2.2.2.2.2.2.2.1) 24 y1.2.2.2.2.2.2.2.2.1) 25 y1.2.2.2.2.2.2.2.2.2.1) 26 y1.2.2.2.2.2.2.2.2.2.2.1) 27 y1.2.2.2.2.2.2.2.2.2.2.2.1) 28 y1.2.2.2.2.2.2.2.2.2.2.2.2.1) 29 y1.2.2.2.2.2.2.2.2.2.2.2.2.2.1) 30 y1.2.2.2.2.2.2.2.2.2.2.2.2.2.2.1) 31 y1.2.2.2.2.2.2.2.2.2.2.2.2.2.2.2.1) 4 y1.2.2.2.2.2.2.2.2.2.2.2.2.2.2.2.2.1) 5 y1.2.2.2.2.2.2.2.2.2.2.2.2.2.2.2.2.2.1) 6 y1.2.2.2.2.2.2.2.2.2.2.2.2.2.2.2.2.2.2.1) 32 y1.2.2.2.2.2.2.2.2.2.2.2.2.2.2.2.2.2.2.2.1) 34 y1.2.2.2.2.2.2.2.2.2.2.2.2.2.2.2.2.2.2.2.2.1) 35 y1.2.2.2.2.2.2.2.2.2.2.2.2.2.2.2.2.2.2.2.2.2.1) 36 y1.2.2.2.2.2.2.2.2.2.2.2.2.2.2.2.2.2.2.2.2.2.2.1) 37 y1.2.2.2.2.2.2.2.2.2.2.2.2.2.2.2.2.2.2.2.2.2.2.2.1) 38 y1.2.2.2.2.2.2.2.2.2.2.2.2.2.2.2.2.2.2.2.2.2.2.2.2.1) 33 y1.2.2.2.2.2.2.2.2.2.2.2.2.2.2.2.2.2.2.2.2.2.2.2.2.2.1) 34 y1.2.2.2.2.2.2.2.2.2.2.2.2.2.2.2.2.2.2.2.2.2.2.2.2.2.2.1) 35 y1.2.2.2.2.2.2.2.2.2.2.2.2.2.2.2.2.2.2.2.2.2.2.2.2.2.2.2.1) 36 y1.2.2.2.2.2.2.2.2.2.2.2.2.2.2.2.2.2.2.2.2.2.2.2.2.2.2.2.2.1) 37 y1.2.2.2.2.2.2.2.2.2.2.2.2.2.2.2.2.2.2.2.2.2.2.2.2.2.2.2.2.2.1) 38 y1.2.2.2.2.2.2.2.2.2.2.2.2.2.2.2.2.2.2.2.2.2.2.2.2.2.2.2.2.2.2.1) 39 y1.2.2.2.2.2.2.2.2.2.2.2.2.2.2.2.2.2.2.2.2.2.2.2.2.2.2.2.2.2.2.2.1) 40 y1.2.2.2.2.2.2.2.2.2.2.2.2.2.2.2.2.2.2.2.2.2.2.2.2.2.2.2.2.2.2.2.2.1) 7 y1.2.2.2.2.2.2.2.2.2.2.2.2.2.2.2.2.2.2.2.2.2.2.2.2.2.2.2.2.2.2.2.2.2.1) 8 y1.2.2.2.2.2.2.2.2.2.2.2.2.2.2.2.2.2.2.2.2.2.2.2.2.2.2.2.2.2.2.2.2.2.2.1) 9 y1.2.2.2.2.2.2.2.2.2.2.2.2.2.2.2.2.2.2.2.2.2.2.2.2.2.2.2.2.2.2.2.2.2.2.2.1) 41 y1.2.2.2.2.2.2.2.2.2.2.2.2.2.2.2.2.2.2.2.2.2.2.2.2.2.2.2.2.2.2.2.2.2.2.2.2.1) 39 y1.2.2.2.2.2.2.2.2.2.2.2.2.2.2.2.2.2.2.2.2.2.2.2.2.2.2.2.2.2.2.2.2.2.2.2.2.2.1) 40 y1.2.2.2.2.2.2.2.2.2.2.2.2.2.2.2.2.2.2.2.2.2.2.2.2.2.2.2.2.2.2.2.2.2.2.2.2.2.2.1) 10 y1.2.2.2.2.2.2.2.2.2.2.2.2.2.2.2.2.2.2.2.2.2.2.2.2.2.2.2.2.2.2.2.2.2.2.2.2.2.2.2.1) 11 y1.2.2.2.2.2.2.2.2.2.2.2.2.2.2.2.2.2.2.2.2.2.2.2.2.2.2.2.2.2.2.2.2.2.2.2.2.2.2.2.2.1) 12 y1.2.2.2.2.2.2.2.2.2.2.2.2.2.2.2.2.2.2.2.2.2.2.2.2.2.2.2.2.2.2.2.2.2.2.2.2.2.2.2.2.2.1) 13 y1.2.2.2.2.2.2.2.2.2.2.2.2.2.2.2.2.2.2.2.2.2.2.2.2.2.2.2.2.2.2.2.2.2.2.2.2.2.2.2.2.2.2.1) 42 y1.2.2.2.2.2.2.2.2.2.2.2.2.2.2.2.2.2.2.2.2.2.2.2.2.2.2.2.2.2.2.2.2.2.2.2.2.2.2.2.2.2.2.2.1) 14 y1.2.2.2.2.2.2.2.2.2.2.2.2.2.2.2.2.2.2.2.2.2.2.2.2.2.2.2.2.2.2.2.2.2.2.2.2.2.2.2.2.2.2.2.2.1) 16 y1.2.2.2.2.2.2.2.2.2.2.2.2.2.2.2.2.2.2.2.2.2.2.2.2.2.2.2.2.2.2.2.2.2.2.2.2.2.2.2.2.2.2.2.2.2.1) 17 y1.2.2.2.2.2.2.2.2.2.2.2.2.2.2.2.2.2.2.2.2.2.2.2.2.2.2.2.2.2.2.2.2.2.2.2.2.2.2.2.2.2.2.2.2.2.2.1) 41 y1.2.2.2.2.2.2.2.2.2.2.2.2.2.2.2.2.2.2.2.2.2.2.2.2.2.2.2.2.2.2.2.2.2.2.2.2.2.2.2.2.2.2.2.2.2.2.2.1) 42 y1.2.2.2.2.2.2.2.2.2.2.2.2.2.2.2.2.2.2.2.2.2.2.2.2.2.2.2.2.2.2.2.2.2.2.2.2.2.2.2.2.2.2.2.2.2.2.2.2.1) 18 y1.2.2.2.2.2.2.2.2.2.2.2.2.2.2.2.2.2.2.2.2.2.2.2.2.2.2.2.2.2.2.2.2.2.2.2.2.2.2.2.2.2.2.2.2.2.2.2.2.2.1) 19 y1.2.2.2.2.2.2.2.2.2.2.2.2.2.2.2.2.2.2.2.2.2.2.2.2.2.2.2.2.2.2.2.2.2.2.2.2.2.2.2.2.2.2.2.2.2.2.2.2.2.2.1) 20 y1.2.2.2.2.2.2.2.2.2.2.2.2.2.2.2.2.2.2.2.2.2.2.2.2.2.2.2.2.2.2.2.2.2.2.2.2.2.2.2.2.2.2.2.2.2.2.2.2.2.2.2.1) 21 y1.2.2.2.2.2.2.2.2.2.2.2.2.2.2.2.2.2.2.2.2.2.2.2.2.2.2.2.2.2.2.2.2.2.2.2.2.2.2.2.2.2.2.2.2.2.2.2.2.2.2.2.2.1) 43 y1.2.2.2.2.2.2.2.2.2.2.2.2.2.2.2.2.2.2.2.2.2.2.2.2.2.2.2.2.2.2.2.2.2.2.2.2.2.2.2.2.2.2.2.2.2.2.2.2.2.2.2.2.2.1) 22 y1.2.2.2.2.2.2.2.2.2.2.2.2.2.2.2.2.2.2.2.2.2.2.2.2.2.2.2.2.2.2.2.2.2.2.2.2.2.2.2.2.2.2.2.2.2.2.2.2.2.2.2.2.2.2.1) 24 y1.2.2.2.2.2.2.2.2.2.2.2.2.2.2.2.2.2.2.2.2.2.2.2.2.2.2.2.2.2.2.2.2.2.2.2.2.2.2.2.2.2.2.2.2.2.2.2.2.2.2.2.2.2.2.2.1) 25 y1.2.2.2.2.2.2.2.2.2.2.2.2.2.2.2.2.2.2.2.2.2.2.2.2.2.2.2.2.2.2.2.2.2.2.2.2.2.2.2.2.2.2.2.2.2.2.2.2.2.2.2.2.2.2.2.2))) hA C me_X8_falls hw_836 (c_X8_falls l D k (U 0) (U 1) (U 2) (U 3) (U 4) (U 5) (U 6) (U 7) (U 8) (U 9) (U 10) (U 11) (σ.1 0) (σ.1 1) (σ.2.2 0) (σ.1 2) (σ.2.2 1) (σ.1 3) (σ.2.2 2) (σ.1 4) (σ.2.2 3) (σ.1 5) (σ.2.2 4) (σ.1 6) (σ.2.2 5) (σ.2.2 6) (σ.1 7) (σ.2.2 7) (σ.1 8) (σ.2.2 8) (σ.1 9) (σ.2.2 9) (σ.1 10) (σ.2.2 10) (σ.1 11) (σ.2.2 11) (σ.2.2 12) (σ.1 12) (σ.2.2 13) (σ.1 13) (σ.2.2 14) (σ.1 14) (σ.2.2 15) (σ.1 15) (σ.2.2 16) (σ.1 16) (σ.2.2 17) (σ.2.2 18) (σ.1 17) (σ.2.2 19) (σ.1 18) (σ.2.2 20) (σ.1 19) (σ.2.2 21) (σ.1 20) (σ.2.2 22) (σ.1 21) (σ.2.2 23) (σ.2.2 24) (σ.1 22) (σ.2.2 25) (σ.2.2 26) (σ.2.2 27) (σ.2.2 28) (σ.1 23) (σ.2.1 0) (σ.2.1 1) (σ.2.1 2) (σ.2.1 3) (σ.2.2 29) (σ.2.2 30) (σ.2.2 31) (σ.2.2 32) (σ.2.2 33) (σ.1 24) (σ.1 25) (σ.1 26) (σ.1 27) (σ.1 28) (σ.1 29) (σ.1 30) (σ.1 31) (σ.2.1 4) (σ.2.1 5) (σ.2.1 6) (σ.1 32) (σ.2.2 34) (σ.2.2 35) (σ.2.2 36) (σ.2.2 37) (σ.2.2 38) (σ.1 33) (σ.1 34) (σ.1 35) (σ.1 36) (σ.1 37) (σ.1 38) (σ.1 39) (σ.1 40) (σ.2.1 7) (σ.2.1 8) (σ.2.1 9) (σ.1 41) (σ.2.1 10) (σ.2.1 11) (σ.2.1 12) (σ.2.1 13) (σ.1 42) (σ.2.1 14) (σ.2.1 15) (σ.2.1 16) (σ.2.1 17) (σ.2.2 39) (σ.2.2 40) (σ.2.1 18) (σ.2.1 19) (σ.2.1 20) (σ.2.1 21) (σ.1 43) (σ.2.1 22) (σ.2.1 23) (σ.2.1 24) (σ.2.1 25) (σ.2.2 41) (σ.2.2 42) (σ.2.1 26) (σ.2.1 27) (σ.2.1 28) (σ.2.1 29) (σ.2.1 30) (σ.2.1 31) (xs (cx_ix (nI i + 1))) (xs (cx_ix (nI i + 2))) y1 e1) dL_law_852 ⟨(Nat.le_of_ble_eq_true rfl), (Nat.le_of_ble_eq_true rfl)⟩ ⟨Nat.le_refl _, Nat.le_refl _⟩ rfl rfl (Nat.le_of_ble_eq_true rfl) rfl rfl rfl ?_
  refine cx_aload_n C dL_law_855 2 rfl ?_
  refine cx_aload_n C dL_law_856 0 rfl ?_
  refine cx_iload_n C dL_law_857 3 rfl ?_
  refine cx_iconst (v := 1) C dL_law_858 (by decide) ?_
  refine cx_iadd C dL_law_859 ?_
  refine cx_sld C hX hbl hbA dL_law_860 (law_in (j := 1) hL hlt (by decide)) ?_
  refine cx_aload_n C dL_law_861 0 rfl ?_
  refine cx_iload_n C dL_law_862 3 rfl ?_
  refine cx_iconst (v := 2) C dL_law_863 (by decide) ?_
  refine cx_iadd C dL_law_864 ?_
  refine cx_sld C hX hbl hbA dL_law_865 (law_in (j := 2) hL hlt (by decide)) ?_
  refine cx_LRi (q := (RX9, TX9, 24)) (As := [.int (xs (cx_ix (nI i + 1))), .int (xs (cx_ix (nI i + 2)))]) (rest := [.int y1.1]) (w1 := (wM k V (cx_sI (cx_sI (cx_sI (cx_sI (cx_sI (cx_sI (cx_sZ (cx_sZ (cx_sZ τ 7 y2.2.1) 8 y2.2.2.1) 10 y2.2.2.2.1) 0 y2.2.2.2.2.1) 1 y2.2.2.2.2.2.1) 6 y2.2.2.2.2.2.2.1) 9 y2.2.2.2.2.2.2.2.1) 10 y2.2.2.2.2.2.2.2.2.1) 11 y2.2.2.2.2.2.2.2.2.2))) hA C me_X9_falls hw_1405 (c_X9_falls l D k V (τ.1 0) (τ.1 1) (τ.1 2) (τ.1 3) (τ.1 4) (τ.1 5) (τ.1 6) (τ.2.2 0) (τ.1 7) (τ.2.2 1) (τ.2.2 2) (τ.2.2 3) (τ.2.2 4) (τ.2.2 5) (τ.1 8) (τ.2.2 6) (τ.1 9) (τ.1 10) (τ.2.2 7) (τ.2.2 8) (τ.2.2 9) (τ.2.2 10) (τ.2.2 11) (τ.1 11) (xs (cx_ix (nI i + 1))) (xs (cx_ix (nI i + 2))) y2 e2) dL_law_866 ⟨(Nat.le_of_ble_eq_true rfl), (Nat.le_of_ble_eq_true rfl)⟩ ⟨Nat.le_refl _, Nat.le_refl _⟩ rfl rfl (Nat.le_of_ble_eq_true rfl) rfl rfl rfl ?_
  refine cx_icmp_eq (tgt := 1362) C dL_law_869 (by decide) (fun _ => ?_) (fun q => absurd e3 q)
  exact hN _ _ hI
set_option maxHeartbeats 4000000 in
set_option maxRecDepth 100000 in
theorem law_c20 (i : Nat) (σ τ : cx_St) (hL : L ≤ 384) (hlt : i + 6 ≤ L) (ho : ob_same Inv) (hv : Inv σ τ) (hA : A = va_A [] s.heap.size) (C : cx_C p s m #[Value.ref b] c code 4 "NamelessBoxLaw" D k) (hE : cx_E te adK adV A s s.heap) (hX : va_X b L xs s s.heap) (hbl : b < s.heap.size) (hbA : ¬ A b) (hN : ∀ σ τ : cx_St, Inv σ τ → cx_S p l e room_1 s m #[Value.ref b] below meth c A D 4 600000 7302249 (lw_Z below #[Value.ref b] s) 1362 [(0, .ref b), (1, .ref (U 0 0)), (2, .ref (V 0)), (3, .int (nI i))] [] (wN k U σ ++ wM k V τ)) : cx_S p l e room_1 s m #[Value.ref b] below meth c A D 4 600000 7302249 (lw_Z below #[Value.ref b] s) 874 [(0, .ref b), (1, .ref (U 0 0)), (2, .ref (V 0)), (3, .int (nI i))] [] (wN k U σ ++ wM k V τ) := by
  obtain ⟨y1, y2, e1, e2, e3, hI⟩ := ho σ τ (xs (cx_ix (nI i + 1))) (xs (cx_ix (nI i + 2))) hv
  refine cx_aload_n C dL_law_874 1 rfl ?_
  refine cx_aload_n C dL_law_875 0 rfl ?_
  refine cx_iload_n C dL_law_876 3 rfl ?_
  refine cx_iconst (v := 1) C dL_law_877 (by decide) ?_
  refine cx_iadd C dL_law_878 ?_
  refine cx_sld C hX hbl hbA dL_law_879 (law_in (j := 1) hL hlt (by decide)) ?_
  refine cx_aload_n C dL_law_880 0 rfl ?_
  refine cx_iload_n C dL_law_881 3 rfl ?_
  refine cx_iconst (v := 2) C dL_law_882 (by decide) ?_
  refine cx_iadd C dL_law_883 ?_
  refine cx_sld C hX hbl hbA dL_law_884 (law_in (j := 2) hL hlt (by decide)) ?_
  refine cx_LLi (q := (RX8, TX8, 12)) (As := [.int (xs (cx_ix (nI i + 1))), .int (xs (cx_ix (nI i + 2)))]) (rest := []) (w1 := (wN k U (cx_sL (cx_sL (cx_sL (cx_sI (cx_sL (cx_sL (cx_sL (cx_sL (cx_sZ (cx_sZ (cx_sI (cx_sL (cx_sL (cx_sL (cx_sI (cx_sI (cx_sI (cx_sI (cx_sI (cx_sI (cx_sI (cx_sI (cx_sZ (cx_sZ (cx_sZ (cx_sZ (cx_sZ (cx_sL (cx_sL (cx_sL (cx_sL (cx_sI (cx_sZ σ 0 y1.2.1) 1 y1.2.2.1) 0 y1.2.2.2.1) 1 y1.2.2.2.2.1) 2 y1.2.2.2.2.2.1) 3 y1.2.2.2.2.2.2.1) 29 y1.2.2.2.2.2.2.2.1) 30 y1.2.2.2.2.2.2.2.2.1) 31 y1.2.2.2.2.2.2.2.2.2.1) 32 y1.2.2.2.2.2.2.2.2.2.2.1) 33 y1.2.2.2.2.2.2.2.2.2.2.2.1) 24 y1.2.2.2.2.2.2.2.2.2.2.2.2.1) 25 y1.2.2.2.2.2.2.2.2.2.2.2.2.2.1) 26 y1.2.2.2.2.2.2.2.2.2.2.2.2.2.2.1) 27 y1.2.2.2.2.2.2.2.2.2.2.2.2.2.2.2.1) 28 y1.2.2.2.2.2.2.2.2.2.2.2.2.2.2.2.2.1) 29 y1.2.2.2.2.2.2.2.2.2.2.2.2.2.2.2.2.2.1) 30 y1.2.2.2.2.2.2.2.2.2.2.2.2.2.2.2.2.2.2.1) 31 y1.2.2.2.2.2.2.2.2.2.2.2.2.2.2.2.2.2.2.2.1) 4 y1.2.2.2.2.2.2.2.2.2.2.2.2.2.2.2.2.2.2.2.2.1) 5 y1.2.2.2.2.2.2.2.2.2.2.2.2.2.2.2.2.2.2.2.2.2.1) 6 y1.2.2.2.2.2.2.2.2.2.2.2.2.2.2.2.2.2.2.2.2.2.2.1) 32 y1.2.2.2.2.2.2.2.2.2.2.2.2.2.2.2.2.2.2.2.2.2.2.2.1) 39 y1.2.2.2.2.2.2.2.2.2.2.2.2.2.2.2.2.2.2.2.2.2.2.2.2.1) 40 y1.2.2.2.2.2.2.2.2.2.2.2.2.2.2.2.2.2.2.2.2.2.2.2.2.2.1) 10 y1.2.2.2.2.2.2.2.2.2.2.2.2.2.2.2.2.2.2.2.2.2.2.2.2.2.2.1) 11 y1.2.2.2.2.2.2.2.2.2.2.2.2.2.2.2.2.2.2.2.2.2.2.2.2.2.2.2.1) 12 y1.2.2.2.2.2.2.2.2.2.2.2.2.2.2.2.2.2.2.2.2.2.2.2.2.2.2.2.2.1) 13 y1.2.2.2.2.2.2.2.2.2.2.2.2.2.2.2.2.2.2.2.2.2.2.2.2.2.2.2.2.2.1) 42 y1.2.2.2.2.2.2.2.2.2.2.2.2.2.2.2.2.2.2.2.2.2.2.2.2.2.2.2.2.2.2.1) 14 y1.2.2.2.2.2.2.2.2.2.2.2.2.2.2.2.2.2.2.2.2.2.2.2.2.2.2.2.2.2.2.2.1) 15 y1.2.2.2.2.2.2.2.2.2.2.2.2.2.2.2.2.2.2.2.2.2.2.2.2.2.2.2.2.2.2.2.2.1) 16 y1.2.2.2.2.2.2.2.2.2.2.2.2.2.2.2.2.2.2.2.2.2.2.2.2.2.2.2.2.2.2.2.2.2))) hA C me_X8_same hw_848 (c_X8_same l D k (U 0) (U 1) (U 2) (U 3) (U 4) (U 5) (U 6) (U 7) (U 8) (U 9) (U 10) (U 11) (σ.1 0) (σ.1 1) (σ.2.2 0) (σ.1 2) (σ.2.2 1) (σ.1 3) (σ.2.2 2) (σ.1 4) (σ.2.2 3) (σ.1 5) (σ.2.2 4) (σ.1 6) (σ.2.2 5) (σ.2.2 6) (σ.1 7) (σ.2.2 7) (σ.1 8) (σ.2.2 8) (σ.1 9) (σ.2.2 9) (σ.1 10) (σ.2.2 10) (σ.1 11) (σ.2.2 11) (σ.2.2 12) (σ.1 12) (σ.2.2 13) (σ.1 13) (σ.2.2 14) (σ.1 14) (σ.2.2 15) (σ.1 15) (σ.2.2 16) (σ.1 16) (σ.2.2 17) (σ.2.2 18) (σ.1 17) (σ.2.2 19) (σ.1 18) (σ.2.2 20) (σ.1 19) (σ.2.2 21) (σ.1 20) (σ.2.2 22) (σ.1 21) (σ.2.2 23) (σ.2.2 24) (σ.1 22) (σ.2.2 25) (σ.2.2 26) (σ.2.2 27) (σ.2.2 28) (σ.1 23) (σ.2.1 0) (σ.2.1 1) (σ.2.1 2) (σ.2.1 3) (σ.2.2 29) (σ.2.2 30) (σ.2.2 31) (σ.2.2 32) (σ.2.2 33) (σ.1 24) (σ.1 25) (σ.1 26) (σ.1 27) (σ.1 28) (σ.1 29) (σ.1 30) (σ.1 31) (σ.2.1 4) (σ.2.1 5) (σ.2.1 6) (σ.1 32) (σ.2.2 34) (σ.2.2 35) (σ.2.2 36) (σ.2.2 37) (σ.2.2 38) (σ.1 33) (σ.1 34) (σ.1 35) (σ.1 36) (σ.1 37) (σ.1 38) (σ.1 39) (σ.1 40) (σ.2.1 7) (σ.2.1 8) (σ.2.1 9) (σ.1 41) (σ.2.1 10) (σ.2.1 11) (σ.2.1 12) (σ.2.1 13) (σ.1 42) (σ.2.1 14) (σ.2.1 15) (σ.2.1 16) (σ.2.1 17) (σ.2.2 39) (σ.2.2 40) (σ.2.1 18) (σ.2.1 19) (σ.2.1 20) (σ.2.1 21) (σ.1 43) (σ.2.1 22) (σ.2.1 23) (σ.2.1 24) (σ.2.1 25) (σ.2.2 41) (σ.2.2 42) (σ.2.1 26) (σ.2.1 27) (σ.2.1 28) (σ.2.1 29) (σ.2.1 30) (σ.2.1 31) (xs (cx_ix (nI i + 1))) (xs (cx_ix (nI i + 2))) y1 e1) dL_law_885 ⟨(Nat.le_of_ble_eq_true rfl), (Nat.le_of_ble_eq_true rfl)⟩ ⟨Nat.le_refl _, Nat.le_refl _⟩ rfl rfl (Nat.le_of_ble_eq_true rfl) rfl rfl rfl ?_
  refine cx_aload_n C dL_law_888 2 rfl ?_
  refine cx_aload_n C dL_law_889 0 rfl ?_
  refine cx_iload_n C dL_law_890 3 rfl ?_
  refine cx_iconst (v := 1) C dL_law_891 (by decide) ?_
  refine cx_iadd C dL_law_892 ?_
  refine cx_sld C hX hbl hbA dL_law_893 (law_in (j := 1) hL hlt (by decide)) ?_
  refine cx_aload_n C dL_law_894 0 rfl ?_
  refine cx_iload_n C dL_law_895 3 rfl ?_
  refine cx_iconst (v := 2) C dL_law_896 (by decide) ?_
  refine cx_iadd C dL_law_897 ?_
  refine cx_sld C hX hbl hbA dL_law_898 (law_in (j := 2) hL hlt (by decide)) ?_
  refine cx_LRi (q := (RX9, TX9, 24)) (As := [.int (xs (cx_ix (nI i + 1))), .int (xs (cx_ix (nI i + 2)))]) (rest := [.int y1.1]) (w1 := (wM k V (cx_sI (cx_sI (cx_sI (cx_sI (cx_sI (cx_sZ (cx_sZ (cx_sZ τ 7 y2.2.1) 8 y2.2.2.1) 10 y2.2.2.2.1) 0 y2.2.2.2.2.1) 1 y2.2.2.2.2.2.1) 6 y2.2.2.2.2.2.2.1) 9 y2.2.2.2.2.2.2.2.1) 10 y2.2.2.2.2.2.2.2.2))) hA C me_X9_same hw_1409 (c_X9_same l D k V (τ.1 0) (τ.1 1) (τ.1 2) (τ.1 3) (τ.1 4) (τ.1 5) (τ.1 6) (τ.2.2 0) (τ.1 7) (τ.2.2 1) (τ.2.2 2) (τ.2.2 3) (τ.2.2 4) (τ.2.2 5) (τ.1 8) (τ.2.2 6) (τ.1 9) (τ.1 10) (τ.2.2 7) (τ.2.2 8) (τ.2.2 9) (τ.2.2 10) (τ.2.2 11) (τ.1 11) (xs (cx_ix (nI i + 1))) (xs (cx_ix (nI i + 2))) y2 e2) dL_law_899 ⟨(Nat.le_of_ble_eq_true rfl), (Nat.le_of_ble_eq_true rfl)⟩ ⟨Nat.le_refl _, Nat.le_refl _⟩ rfl rfl (Nat.le_of_ble_eq_true rfl) rfl rfl rfl ?_
  refine cx_icmp_eq (tgt := 1362) C dL_law_902 (by decide) (fun _ => ?_) (fun q => absurd e3 q)
  exact hN _ _ hI
set_option maxHeartbeats 4000000 in
set_option maxRecDepth 100000 in
theorem law_c21 (i : Nat) (σ τ : cx_St) (hL : L ≤ 384) (hlt : i + 6 ≤ L) (ho : ob_noneOf Inv) (hv : Inv σ τ) (hA : A = va_A [] s.heap.size) (C : cx_C p s m #[Value.ref b] c code 4 "NamelessBoxLaw" D k) (hE : cx_E te adK adV A s s.heap) (hX : va_X b L xs s s.heap) (hbl : b < s.heap.size) (hbA : ¬ A b) (hN : ∀ σ τ : cx_St, Inv σ τ → cx_S p l e room_1 s m #[Value.ref b] below meth c A D 4 600000 7302249 (lw_Z below #[Value.ref b] s) 1362 [(0, .ref b), (1, .ref (U 0 0)), (2, .ref (V 0)), (3, .int (nI i))] [] (wN k U σ ++ wM k V τ)) : cx_S p l e room_1 s m #[Value.ref b] below meth c A D 4 600000 7302249 (lw_Z below #[Value.ref b] s) 907 [(0, .ref b), (1, .ref (U 0 0)), (2, .ref (V 0)), (3, .int (nI i))] [] (wN k U σ ++ wM k V τ) := by
  obtain ⟨y1, y2, e1, e2, e3, hI⟩ := ho σ τ (xs (cx_ix (nI i + 1))) hv
  refine cx_aload_n C dL_law_907 1 rfl ?_
  refine cx_aload_n C dL_law_908 0 rfl ?_
  refine cx_iload_n C dL_law_909 3 rfl ?_
  refine cx_iconst (v := 1) C dL_law_910 (by decide) ?_
  refine cx_iadd C dL_law_911 ?_
  refine cx_sld C hX hbl hbA dL_law_912 (law_in (j := 1) hL hlt (by decide)) ?_
  refine cx_LLi (q := (RX8, TX8, 12)) (As := [.int (xs (cx_ix (nI i + 1)))]) (rest := []) (w1 := (wN k U (cx_sL (cx_sL (cx_sI (cx_sL (cx_sL (cx_sL (cx_sL (cx_sZ (cx_sZ (cx_sI (cx_sL (cx_sL (cx_sL (cx_sI (cx_sI (cx_sI (cx_sI (cx_sI (cx_sI (cx_sI (cx_sI (cx_sZ (cx_sZ (cx_sZ (cx_sZ (cx_sZ (cx_sL (cx_sL (cx_sL (cx_sL (cx_sI (cx_sZ σ 0 y1.2.1) 1 y1.2.2.1) 0 y1.2.2.2.1) 1 y1.2.2.2.2.1) 2 y1.2.2.2.2.2.1) 3 y1.2.2.2.2.2.2.1) 29 y1.2.2.2.2.2.2.2.1) 30 y1.2.2.2.2.2.2.2.2.1) 31 y1.2.2.2.2.2.2.2.2.2.1) 32 y1.2.2.2.2.2.2.2.2.2.2.1) 33 y1.2.2.2.2.2.2.2.2.2.2.2.1) 24 y1.2.2.2.2.2.2.2.2.2.2.2.2.1) 25 y1.2.2.2.2.2.2.2.2.2.2.2.2.2.1) 26 y1.2.2.2.2.2.2.2.2.2.2.2.2.2.2.1) 27 y1.2.2.2.2.2.2.2.2.2.2.2.2.2.2.2.1) 28 y1.2.2.2.2.2.2.2.2.2.2.2.2.2.2.2.2.1) 29 y1.2.2.2.2.2.2.2.2.2.2.2.2.2.2.2.2.2.1) 30 y1.2.2.2.2.2.2.2.2.2.2.2.2.2.2.2.2.2.2.1) 31 y1.2.2.2.2.2.2.2.2.2.2.2.2.2.2.2.2.2.2.2.1) 4 y1.2.2.2.2.2.2.2.2.2.2.2.2.2.2.2.2.2.2.2.2.1) 5 y1.2.2.2.2.2.2.2.2.2.2.2.2.2.2.2.2.2.2.2.2.2.1) 6 y1.2.2.2.2.2.2.2.2.2.2.2.2.2.2.2.2.2.2.2.2.2.2.1) 32 y1.2.2.2.2.2.2.2.2.2.2.2.2.2.2.2.2.2.2.2.2.2.2.2.1) 39 y1.2.2.2.2.2.2.2.2.2.2.2.2.2.2.2.2.2.2.2.2.2.2.2.2.1) 40 y1.2.2.2.2.2.2.2.2.2.2.2.2.2.2.2.2.2.2.2.2.2.2.2.2.2.1) 10 y1.2.2.2.2.2.2.2.2.2.2.2.2.2.2.2.2.2.2.2.2.2.2.2.2.2.2.1) 11 y1.2.2.2.2.2.2.2.2.2.2.2.2.2.2.2.2.2.2.2.2.2.2.2.2.2.2.2.1) 12 y1.2.2.2.2.2.2.2.2.2.2.2.2.2.2.2.2.2.2.2.2.2.2.2.2.2.2.2.2.1) 13 y1.2.2.2.2.2.2.2.2.2.2.2.2.2.2.2.2.2.2.2.2.2.2.2.2.2.2.2.2.2.1) 42 y1.2.2.2.2.2.2.2.2.2.2.2.2.2.2.2.2.2.2.2.2.2.2.2.2.2.2.2.2.2.2.1) 14 y1.2.2.2.2.2.2.2.2.2.2.2.2.2.2.2.2.2.2.2.2.2.2.2.2.2.2.2.2.2.2.2.1) 15 y1.2.2.2.2.2.2.2.2.2.2.2.2.2.2.2.2.2.2.2.2.2.2.2.2.2.2.2.2.2.2.2.2))) hA C me_X8_noneOf hw_869 (c_X8_noneOf l D k (U 0) (U 1) (U 2) (U 3) (U 4) (U 5) (U 6) (U 7) (U 8) (U 9) (U 10) (U 11) (σ.1 0) (σ.1 1) (σ.2.2 0) (σ.1 2) (σ.2.2 1) (σ.1 3) (σ.2.2 2) (σ.1 4) (σ.2.2 3) (σ.1 5) (σ.2.2 4) (σ.1 6) (σ.2.2 5) (σ.2.2 6) (σ.1 7) (σ.2.2 7) (σ.1 8) (σ.2.2 8) (σ.1 9) (σ.2.2 9) (σ.1 10) (σ.2.2 10) (σ.1 11) (σ.2.2 11) (σ.2.2 12) (σ.1 12) (σ.2.2 13) (σ.1 13) (σ.2.2 14) (σ.1 14) (σ.2.2 15) (σ.1 15) (σ.2.2 16) (σ.1 16) (σ.2.2 17) (σ.2.2 18) (σ.1 17) (σ.2.2 19) (σ.1 18) (σ.2.2 20) (σ.1 19) (σ.2.2 21) (σ.1 20) (σ.2.2 22) (σ.1 21) (σ.2.2 23) (σ.2.2 24) (σ.1 22) (σ.2.2 25) (σ.2.2 26) (σ.2.2 27) (σ.2.2 28) (σ.1 23) (σ.2.1 0) (σ.2.1 1) (σ.2.1 2) (σ.2.1 3) (σ.2.2 29) (σ.2.2 30) (σ.2.2 31) (σ.2.2 32) (σ.2.2 33) (σ.1 24) (σ.1 25) (σ.1 26) (σ.1 27) (σ.1 28) (σ.1 29) (σ.1 30) (σ.1 31) (σ.2.1 4) (σ.2.1 5) (σ.2.1 6) (σ.1 32) (σ.2.2 34) (σ.2.2 35) (σ.2.2 36) (σ.2.2 37) (σ.2.2 38) (σ.1 33) (σ.1 34) (σ.1 35) (σ.1 36) (σ.1 37) (σ.1 38) (σ.1 39) (σ.1 40) (σ.2.1 7) (σ.2.1 8) (σ.2.1 9) (σ.1 41) (σ.2.1 10) (σ.2.1 11) (σ.2.1 12) (σ.2.1 13) (σ.1 42) (σ.2.1 14) (σ.2.1 15) (σ.2.1 16) (σ.2.1 17) (σ.2.2 39) (σ.2.2 40) (σ.2.1 18) (σ.2.1 19) (σ.2.1 20) (σ.2.1 21) (σ.1 43) (σ.2.1 22) (σ.2.1 23) (σ.2.1 24) (σ.2.1 25) (σ.2.2 41) (σ.2.2 42) (σ.2.1 26) (σ.2.1 27) (σ.2.1 28) (σ.2.1 29) (σ.2.1 30) (σ.2.1 31) (xs (cx_ix (nI i + 1))) y1 e1) dL_law_913 ⟨(Nat.le_of_ble_eq_true rfl), (Nat.le_of_ble_eq_true rfl)⟩ ⟨Nat.le_refl _, Nat.le_refl _⟩ rfl rfl (Nat.le_of_ble_eq_true rfl) rfl rfl rfl ?_
  refine cx_aload_n C dL_law_916 2 rfl ?_
  refine cx_aload_n C dL_law_917 0 rfl ?_
  refine cx_iload_n C dL_law_918 3 rfl ?_
  refine cx_iconst (v := 1) C dL_law_919 (by decide) ?_
  refine cx_iadd C dL_law_920 ?_
  refine cx_sld C hX hbl hbA dL_law_921 (law_in (j := 1) hL hlt (by decide)) ?_
  refine cx_LRi (q := (RX9, TX9, 24)) (As := [.int (xs (cx_ix (nI i + 1)))]) (rest := [.int y1.1]) (w1 := (wM k V (cx_sI (cx_sI (cx_sI (cx_sI (cx_sI (cx_sZ (cx_sZ (cx_sZ τ 7 y2.2.1) 8 y2.2.2.1) 10 y2.2.2.2.1) 0 y2.2.2.2.2.1) 1 y2.2.2.2.2.2.1) 6 y2.2.2.2.2.2.2.1) 9 y2.2.2.2.2.2.2.2.1) 10 y2.2.2.2.2.2.2.2.2))) hA C me_X9_noneOf hw_1417 (c_X9_noneOf l D k V (τ.1 0) (τ.1 1) (τ.1 2) (τ.1 3) (τ.1 4) (τ.1 5) (τ.1 6) (τ.2.2 0) (τ.1 7) (τ.2.2 1) (τ.2.2 2) (τ.2.2 3) (τ.2.2 4) (τ.2.2 5) (τ.1 8) (τ.2.2 6) (τ.1 9) (τ.1 10) (τ.2.2 7) (τ.2.2 8) (τ.2.2 9) (τ.2.2 10) (τ.2.2 11) (τ.1 11) (xs (cx_ix (nI i + 1))) y2 e2) dL_law_922 ⟨(Nat.le_of_ble_eq_true rfl), (Nat.le_of_ble_eq_true rfl)⟩ ⟨Nat.le_refl _, Nat.le_refl _⟩ rfl rfl (Nat.le_of_ble_eq_true rfl) rfl rfl rfl ?_
  refine cx_icmp_eq (tgt := 1362) C dL_law_925 (by decide) (fun _ => ?_) (fun q => absurd e3 q)
  exact hN _ _ hI
set_option maxHeartbeats 4000000 in
set_option maxRecDepth 100000 in
theorem law_c22 (i : Nat) (σ τ : cx_St) (hL : L ≤ 384) (hlt : i + 6 ≤ L) (ho : ob_friend Inv) (hv : Inv σ τ) (hA : A = va_A [] s.heap.size) (C : cx_C p s m #[Value.ref b] c code 4 "NamelessBoxLaw" D k) (hE : cx_E te adK adV A s s.heap) (hX : va_X b L xs s s.heap) (hbl : b < s.heap.size) (hbA : ¬ A b) (hN : ∀ σ τ : cx_St, Inv σ τ → cx_S p l e room_1 s m #[Value.ref b] below meth c A D 4 600000 7302249 (lw_Z below #[Value.ref b] s) 1362 [(0, .ref b), (1, .ref (U 0 0)), (2, .ref (V 0)), (3, .int (nI i))] [] (wN k U σ ++ wM k V τ)) : cx_S p l e room_1 s m #[Value.ref b] below meth c A D 4 600000 7302249 (lw_Z below #[Value.ref b] s) 930 [(0, .ref b), (1, .ref (U 0 0)), (2, .ref (V 0)), (3, .int (nI i))] [] (wN k U σ ++ wM k V τ) := by
  obtain ⟨y1, y2, e1, e2, e3, hI⟩ := ho σ τ (xs (cx_ix (nI i + 1))) hv
  refine cx_aload_n C dL_law_930 1 rfl ?_
  refine cx_aload_n C dL_law_931 0 rfl ?_
  refine cx_iload_n C dL_law_932 3 rfl ?_
  refine cx_iconst (v := 1) C dL_law_933 (by decide) ?_
  refine cx_iadd C dL_law_934 ?_
  refine cx_sld C hX hbl hbA dL_law_935 (law_in (j := 1) hL hlt (by decide)) ?_
  refine cx_LLi (q := (RX8, TX8, 12)) (As := [.int (xs (cx_ix (nI i + 1)))]) (rest := []) (w1 := (wN k U (cx_sL (cx_sL (cx_sL (cx_sI (cx_sL (cx_sL (cx_sL (cx_sL (cx_sZ (cx_sZ (cx_sI (cx_sL (cx_sL (cx_sL (cx_sI (cx_sI (cx_sI (cx_sI (cx_sI (cx_sI (cx_sI (cx_sI (cx_sZ (cx_sZ (cx_sZ (cx_sZ (cx_sZ (cx_sL (cx_sL (cx_sL (cx_sL (cx_sI (cx_sZ σ 0 y1.2.1) 1 y1.2.2.1) 0 y1.2.2.2.1) 1 y1.2.2.2.2.1) 2 y1.2.2.2.2.2.1) 3 y1.2.2.2.2.2.2.1) 29 y1.2.2.2.2.2.2.2.1) 30 y1.2.2.2.2.2.2.2.2.1) 31 y1.2.2.2.2.2.2.2.2.2.1) 32 y1.2.2.2.2.2.2.2.2.2.2.1) 33 y1.2.2.2.2.2.2.2.2.2.2.2.1) 24 y1.2.2.2.2.2.2.2.2.2.2.2.2.1) 25 y1.2.2.2.2.2.2.2.2.2.2.2.2.2.1) 26 y1.2.2.2.2.2.2.2.2.2.2.2.2.2.2.1) 27 y1.2.2.2.2.2.2.2.2.2.2.2.2.2.2.2.1) 28 y1.2.2.2.2.2.2.2.2.2.2.2.2.2.2.2.2.1) 29 y1.2.2.2.2.2.2.2.2.2.2.2.2.2.2.2.2.2.1) 30 y1.2.2.2.2.2.2.2.2.2.2.2.2.2.2.2.2.2.2.1) 31 y1.2.2.2.2.2.2.2.2.2.2.2.2.2.2.2.2.2.2.2.1) 4 y1.2.2.2.2.2.2.2.2.2.2.2.2.2.2.2.2.2.2.2.2.1) 5 y1.2.2.2.2.2.2.2.2.2.2.2.2.2.2.2.2.2.2.2.2.2.1) 6 y1.2.2.2.2.2.2.2.2.2.2.2.2.2.2.2.2.2.2.2.2.2.2.1) 32 y1.2.2.2.2.2.2.2.2.2.2.2.2.2.2.2.2.2.2.2.2.2.2.2.1) 39 y1.2.2.2.2.2.2.2.2.2.2.2.2.2.2.2.2.2.2.2.2.2.2.2.2.1) 40 y1.2.2.2.2.2.2.2.2.2.2.2.2.2.2.2.2.2.2.2.2.2.2.2.2.2.1) 10 y1.2.2.2.2.2.2.2.2.2.2.2.2.2.2.2.2.2.2.2.2.2.2.2.2.2.2.1) 11 y1.2.2.2.2.2.2.2.2.2.2.2.2.2.2.2.2.2.2.2.2.2.2.2.2.2.2.2.1) 12 y1.2.2.2.2.2.2.2.2.2.2.2.2.2.2.2.2.2.2.2.2.2.2.2.2.2.2.2.2.1) 13 y1.2.2.2.2.2.2.2.2.2.2.2.2.2.2.2.2.2.2.2.2.2.2.2.2.2.2.2.2.2.1) 42 y1.2.2.2.2.2.2.2.2.2.2.2.2.2.2.2.2.2.2.2.2.2.2.2.2.2.2.2.2.2.2.1) 14 y1.2.2.2.2.2.2.2.2.2.2.2.2.2.2.2.2.2.2.2.2.2.2.2.2.2.2.2.2.2.2.2.1) 15 y1.2.2.2.2.2.2.2.2.2.2.2.2.2.2.2.2.2.2.2.2.2.2.2.2.2.2.2.2.2.2.2.2.1) 16 y1.2.2.2.2.2.2.2.2.2.2.2.2.2.2.2.2.2.2.2.2.2.2.2.2.2.2.2.2.2.2.2.2.2))) hA C me_X8_friend hw_877 (c_X8_friend l D k (U 0) (U 1) (U 2) (U 3) (U 4) (U 5) (U 6) (U 7) (U 8) (U 9) (U 10) (U 11) (σ.1 0) (σ.1 1) (σ.2.2 0) (σ.1 2) (σ.2.2 1) (σ.1 3) (σ.2.2 2) (σ.1 4) (σ.2.2 3) (σ.1 5) (σ.2.2 4) (σ.1 6) (σ.2.2 5) (σ.2.2 6) (σ.1 7) (σ.2.2 7) (σ.1 8) (σ.2.2 8) (σ.1 9) (σ.2.2 9) (σ.1 10) (σ.2.2 10) (σ.1 11) (σ.2.2 11) (σ.2.2 12) (σ.1 12) (σ.2.2 13) (σ.1 13) (σ.2.2 14) (σ.1 14) (σ.2.2 15) (σ.1 15) (σ.2.2 16) (σ.1 16) (σ.2.2 17) (σ.2.2 18) (σ.1 17) (σ.2.2 19) (σ.1 18) (σ.2.2 20) (σ.1 19) (σ.2.2 21) (σ.1 20) (σ.2.2 22) (σ.1 21) (σ.2.2 23) (σ.2.2 24) (σ.1 22) (σ.2.2 25) (σ.2.2 26) (σ.2.2 27) (σ.2.2 28) (σ.1 23) (σ.2.1 0) (σ.2.1 1) (σ.2.1 2) (σ.2.1 3) (σ.2.2 29) (σ.2.2 30) (σ.2.2 31) (σ.2.2 32) (σ.2.2 33) (σ.1 24) (σ.1 25) (σ.1 26) (σ.1 27) (σ.1 28) (σ.1 29) (σ.1 30) (σ.1 31) (σ.2.1 4) (σ.2.1 5) (σ.2.1 6) (σ.1 32) (σ.2.2 34) (σ.2.2 35) (σ.2.2 36) (σ.2.2 37) (σ.2.2 38) (σ.1 33) (σ.1 34) (σ.1 35) (σ.1 36) (σ.1 37) (σ.1 38) (σ.1 39) (σ.1 40) (σ.2.1 7) (σ.2.1 8) (σ.2.1 9) (σ.1 41) (σ.2.1 10) (σ.2.1 11) (σ.2.1 12) (σ.2.1 13) (σ.1 42) (σ.2.1 14) (σ.2.1 15) (σ.2.1 16) (σ.2.1 17) (σ.2.2 39) (σ.2.2 40) (σ.2.1 18) (σ.2.1 19) (σ.2.1 20) (σ.2.1 21) (σ.1 43) (σ.2.1 22) (σ.2.1 23) (σ.2.1 24) (σ.2.1 25) (σ.2.2 41) (σ.2.2 42) (σ.2.1 26) (σ.2.1 27) (σ.2.1 28) (σ.2.1 29) (σ.2.1 30) (σ.2.1 31) (xs (cx_ix (nI i + 1))) y1 e1) dL_law_936 ⟨(Nat.le_of_ble_eq_true rfl), (Nat.le_of_ble_eq_true rfl)⟩ ⟨Nat.le_refl _, Nat.le_refl _⟩ rfl rfl (Nat.le_of_ble_eq_true rfl) rfl rfl rfl ?_
  refine cx_aload_n C dL_law_939 2 rfl ?_
  refine cx_aload_n C dL_law_940 0 rfl ?_
  refine cx_iload_n C dL_law_941 3 rfl ?_
  refine cx_iconst (v := 1) C dL_law_942 (by decide) ?_
  refine cx_iadd C dL_law_943 ?_
  refine cx_sld C hX hbl hbA dL_law_944 (law_in (j := 1) hL hlt (by decide)) ?_
  refine cx_LRi (q := (RX9, TX9, 24)) (As := [.int (xs (cx_ix (nI i + 1)))]) (rest := [.int y1.1]) (w1 := (wM k V (cx_sI (cx_sI (cx_sI (cx_sI (cx_sI (cx_sZ (cx_sZ (cx_sZ τ 7 y2.2.1) 8 y2.2.2.1) 10 y2.2.2.2.1) 0 y2.2.2.2.2.1) 1 y2.2.2.2.2.2.1) 6 y2.2.2.2.2.2.2.1) 9 y2.2.2.2.2.2.2.2.1) 10 y2.2.2.2.2.2.2.2.2))) hA C me_X9_friend hw_1421 (c_X9_friend l D k V (τ.1 0) (τ.1 1) (τ.1 2) (τ.1 3) (τ.1 4) (τ.1 5) (τ.1 6) (τ.2.2 0) (τ.1 7) (τ.2.2 1) (τ.2.2 2) (τ.2.2 3) (τ.2.2 4) (τ.2.2 5) (τ.1 8) (τ.2.2 6) (τ.1 9) (τ.1 10) (τ.2.2 7) (τ.2.2 8) (τ.2.2 9) (τ.2.2 10) (τ.2.2 11) (τ.1 11) (xs (cx_ix (nI i + 1))) y2 e2) dL_law_945 ⟨(Nat.le_of_ble_eq_true rfl), (Nat.le_of_ble_eq_true rfl)⟩ ⟨Nat.le_refl _, Nat.le_refl _⟩ rfl rfl (Nat.le_of_ble_eq_true rfl) rfl rfl rfl ?_
  refine cx_icmp_eq (tgt := 1362) C dL_law_948 (by decide) (fun _ => ?_) (fun q => absurd e3 q)
  exact hN _ _ hI
set_option maxHeartbeats 4000000 in
set_option maxRecDepth 100000 in
theorem law_c23 (i : Nat) (σ τ : cx_St) (hL : L ≤ 384) (hlt : i + 6 ≤ L) (ho : ob_of Inv) (hv : Inv σ τ) (hA : A = va_A [] s.heap.size) (C : cx_C p s m #[Value.ref b] c code 4 "NamelessBoxLaw" D k) (hE : cx_E te adK adV A s s.heap) (hX : va_X b L xs s s.heap) (hbl : b < s.heap.size) (hbA : ¬ A b) (hN : ∀ σ τ : cx_St, Inv σ τ → cx_S p l e room_1 s m #[Value.ref b] below meth c A D 4 600000 7302249 (lw_Z below #[Value.ref b] s) 1362 [(0, .ref b), (1, .ref (U 0 0)), (2, .ref (V 0)), (3, .int (nI i))] [] (wN k U σ ++ wM k V τ)) : cx_S p l e room_1 s m #[Value.ref b] below meth c A D 4 600000 7302249 (lw_Z below #[Value.ref b] s) 953 [(0, .ref b), (1, .ref (U 0 0)), (2, .ref (V 0)), (3, .int (nI i))] [] (wN k U σ ++ wM k V τ) := by
  obtain ⟨y1, y2, e1, e2, e3, hI⟩ := ho σ τ (xs (cx_ix (nI i + 1))) (xs (cx_ix (nI i + 2))) hv
  refine cx_aload_n C dL_law_953 1 rfl ?_
  refine cx_aload_n C dL_law_954 0 rfl ?_
  refine cx_iload_n C dL_law_955 3 rfl ?_
  refine cx_iconst (v := 1) C dL_law_956 (by decide) ?_
  refine cx_iadd C dL_law_957 ?_
  refine cx_sld C hX hbl hbA dL_law_958 (law_in (j := 1) hL hlt (by decide)) ?_
  refine cx_aload_n C dL_law_959 0 rfl ?_
  refine cx_iload_n C dL_law_960 3 rfl ?_
  refine cx_iconst (v := 2) C dL_law_961 (by decide) ?_
  refine cx_iadd C dL_law_962 ?_
  refine cx_sld C hX hbl hbA dL_law_963 (law_in (j := 2) hL hlt (by decide)) ?_
  refine cx_LLi (q := (RX8, TX8, 12)) (As := [.int (xs (cx_ix (nI i + 1))), .int (xs (cx_ix (nI i + 2)))]) (rest := []) (w1 := (wN k U (cx_sL (cx_sL (cx_sL (cx_sI (cx_sL (cx_sL (cx_sL (cx_sL (cx_sZ (cx_sZ (cx_sI (cx_sL (cx_sL (cx_sL (cx_sI (cx_sI (cx_sI (cx_sI (cx_sI (cx_sI (cx_sI (cx_sI (cx_sZ (cx_sZ (cx_sZ (cx_sZ (cx_sZ (cx_sL (cx_sL (cx_sL (cx_sL (cx_sI (cx_sZ σ 0 y1.2.1) 1 y1.2.2.1) 0 y1.2.2.2.1) 1 y1.2.2.2.2.1) 2 y1.2.2.2.2.2.1) 3 y1.2.2.2.2.2.2.1) 29 y1.2.2.2.2.2.2.2.1) 30 y1.2.2.2.2.2.2.2.2.1) 31 y1.2.2.2.2.2.2.2.2.2.1) 32 y1.2.2.2.2.2.2.2.2.2.2.1) 33 y1.2.2.2.2.2.2.2.2.2.2.2.1) 24 y1.2.2.2.2.2.2.2.2.2.2.2.2.1) 25 y1.2.2.2.2.2.2.2.2.2.2.2.2.2.1) 26 y1.2.2.2.2.2.2.2.2.2.2.2.2.2.2.1) 27 y1.2.2.2.2.2.2.2.2.2.2.2.2.2.2.2.1) 28 y1.2.2.2.2.2.2.2.2.2.2.2.2.2.2.2.2.1) 29 y1.2.2.2.2.2.2.2.2.2.2.2.2.2.2.2.2.2.1) 30 y1.2.2.2.2.2.2.2.2.2.2.2.2.2.2.2.2.2.2.1) 31 y1.2.2.2.2.2.2.2.2.2.2.2.2.2.2.2.2.2.2.2.1) 4 y1.2.2.2.2.2.2.2.2.2.2.2.2.2.2.2.2.2.2.2.2.1) 5 y1.2.2.2.2.2.2.2.2.2.2.2.2.2.2.2.2.2.2.2.2.2.1) 6 y1.2.2.2.2.2.2.2.2.2.2.2.2.2.2.2.2.2.2.2.2.2.2.1) 32 y1.2.2.2.2.2.2.2.2.2.2.2.2.2.2.2.2.2.2.2.2.2.2.2.1) 39 y1.2.2.2.2.2.2.2.2.2.2.2.2.2.2.2.2.2.2.2.2.2.2.2.2.1) 40 y1.2.2.2.2.2.2.2.2.2.2.2.2.2.2.2.2.2.2.2.2.2.2.2.2.2.1) 10 y1.2.2.2.2.2.2.2.2.2.2.2.2.2.2.2.2.2.2.2.2.2.2.2.2.2.2.1) 11 y1.2.2.2.2.2.2.2.2.2.2.2.2.2.2.2.2.2.2.2.2.2.2.2.2.2.2.2.1) 12 y1.2.2.2.2.2.2.2.2.2.2.2.2.2.2.2.2.2.2.2.2.2.2.2.2.2.2.2.2.1) 13 y1.2.2.2.2.2.2.2.2.2.2.2.2.2.2.2.2.2.2.2.2.2.2.2.2.2.2.2.2.2.1) 42 y1.2.2.2.2.2.2.2.2.2.2.2.2.2.2.2.2.2.2.2.2.2.2.2.2.2.2.2.2.2.2.1) 14 y1.2.2.2.2.2.2.2.2.2.2.2.2.2.2.2.2.2.2.2.2.2.2.2.2.2.2.2.2.2.2.2.1) 15 y1.2.2.2.2.2.2.2.2.2.2.2.2.2.2.2.2.2.2.2.2.2.2.2.2.2.2.2.2.2.2.2.2.1) 16 y1.2.2.2.2.2.2.2.2.2.2.2.2.2.2.2.2.2.2.2.2.2.2.2.2.2.2.2.2.2.2.2.2.2))) hA C me_X8_of hw_886 (c_X8_of l D k (U 0) (U 1) (U 2) (U 3) (U 4) (U 5) (U 6) (U 7) (U 8) (U 9) (U 10) (U 11) (σ.1 0) (σ.1 1) (σ.2.2 0) (σ.1 2) (σ.2.2 1) (σ.1 3) (σ.2.2 2) (σ.1 4) (σ.2.2 3) (σ.1 5) (σ.2.2 4) (σ.1 6) (σ.2.2 5) (σ.2.2 6) (σ.1 7) (σ.2.2 7) (σ.1 8) (σ.2.2 8) (σ.1 9) (σ.2.2 9) (σ.1 10) (σ.2.2 10) (σ.1 11) (σ.2.2 11) (σ.2.2 12) (σ.1 12) (σ.2.2 13) (σ.1 13) (σ.2.2 14) (σ.1 14) (σ.2.2 15) (σ.1 15) (σ.2.2 16) (σ.1 16) (σ.2.2 17) (σ.2.2 18) (σ.1 17) (σ.2.2 19) (σ.1 18) (σ.2.2 20) (σ.1 19) (σ.2.2 21) (σ.1 20) (σ.2.2 22) (σ.1 21) (σ.2.2 23) (σ.2.2 24) (σ.1 22) (σ.2.2 25) (σ.2.2 26) (σ.2.2 27) (σ.2.2 28) (σ.1 23) (σ.2.1 0) (σ.2.1 1) (σ.2.1 2) (σ.2.1 3) (σ.2.2 29) (σ.2.2 30) (σ.2.2 31) (σ.2.2 32) (σ.2.2 33) (σ.1 24) (σ.1 25) (σ.1 26) (σ.1 27) (σ.1 28) (σ.1 29) (σ.1 30) (σ.1 31) (σ.2.1 4) (σ.2.1 5) (σ.2.1 6) (σ.1 32) (σ.2.2 34) (σ.2.2 35) (σ.2.2 36) (σ.2.2 37) (σ.2.2 38) (σ.1 33) (σ.1 34) (σ.1 35) (σ.1 36) (σ.1 37) (σ.1 38) (σ.1 39) (σ.1 40) (σ.2.1 7) (σ.2.1 8) (σ.2.1 9) (σ.1 41) (σ.2.1 10) (σ.2.1 11) (σ.2.1 12) (σ.2.1 13) (σ.1 42) (σ.2.1 14) (σ.2.1 15) (σ.2.1 16) (σ.2.1 17) (σ.2.2 39) (σ.2.2 40) (σ.2.1 18) (σ.2.1 19) (σ.2.1 20) (σ.2.1 21) (σ.1 43) (σ.2.1 22) (σ.2.1 23) (σ.2.1 24) (σ.2.1 25) (σ.2.2 41) (σ.2.2 42) (σ.2.1 26) (σ.2.1 27) (σ.2.1 28) (σ.2.1 29) (σ.2.1 30) (σ.2.1 31) (xs (cx_ix (nI i + 1))) (xs (cx_ix (nI i + 2))) y1 e1) dL_law_964 ⟨(Nat.le_of_ble_eq_true rfl), (Nat.le_of_ble_eq_true rfl)⟩ ⟨Nat.le_refl _, Nat.le_refl _⟩ rfl rfl (Nat.le_of_ble_eq_true rfl) rfl rfl rfl ?_
  refine cx_aload_n C dL_law_967 2 rfl ?_
  refine cx_aload_n C dL_law_968 0 rfl ?_
  refine cx_iload_n C dL_law_969 3 rfl ?_
  refine cx_iconst (v := 1) C dL_law_970 (by decide) ?_
  refine cx_iadd C dL_law_971 ?_
  refine cx_sld C hX hbl hbA dL_law_972 (law_in (j := 1) hL hlt (by decide)) ?_
  refine cx_aload_n C dL_law_973 0 rfl ?_
  refine cx_iload_n C dL_law_974 3 rfl ?_
  refine cx_iconst (v := 2) C dL_law_975 (by decide) ?_
  refine cx_iadd C dL_law_976 ?_
  refine cx_sld C hX hbl hbA dL_law_977 (law_in (j := 2) hL hlt (by decide)) ?_
  refine cx_LRi (q := (RX9, TX9, 24)) (As := [.int (xs (cx_ix (nI i + 1))), .int (xs (cx_ix (nI i + 2)))]) (rest := [.int y1.1]) (w1 := (wM k V (cx_sI (cx_sI (cx_sI (cx_sI (cx_sI (cx_sZ (cx_sZ (cx_sZ τ 7 y2.2.1) 8 y2.2.2.1) 10 y2.2.2.2.1) 0 y2.2.2.2.2.1) 1 y2.2.2.2.2.2.1) 6 y2.2.2.2.2.2.2.1) 9 y2.2.2.2.2.2.2.2.1) 10 y2.2.2.2.2.2.2.2.2))) hA C me_X9_of hw_1425 (c_X9_of l D k V (τ.1 0) (τ.1 1) (τ.1 2) (τ.1 3) (τ.1 4) (τ.1 5) (τ.1 6) (τ.2.2 0) (τ.1 7) (τ.2.2 1) (τ.2.2 2) (τ.2.2 3) (τ.2.2 4) (τ.2.2 5) (τ.1 8) (τ.2.2 6) (τ.1 9) (τ.1 10) (τ.2.2 7) (τ.2.2 8) (τ.2.2 9) (τ.2.2 10) (τ.2.2 11) (τ.1 11) (xs (cx_ix (nI i + 1))) (xs (cx_ix (nI i + 2))) y2 e2) dL_law_978 ⟨(Nat.le_of_ble_eq_true rfl), (Nat.le_of_ble_eq_true rfl)⟩ ⟨Nat.le_refl _, Nat.le_refl _⟩ rfl rfl (Nat.le_of_ble_eq_true rfl) rfl rfl rfl ?_
  refine cx_icmp_eq (tgt := 1362) C dL_law_981 (by decide) (fun _ => ?_) (fun q => absurd e3 q)
  exact hN _ _ hI
set_option maxHeartbeats 4000000 in
set_option maxRecDepth 100000 in
theorem law_c24 (i : Nat) (σ τ : cx_St) (hL : L ≤ 384) (hlt : i + 6 ≤ L) (ho : ob_when Inv) (hv : Inv σ τ) (hA : A = va_A [] s.heap.size) (C : cx_C p s m #[Value.ref b] c code 4 "NamelessBoxLaw" D k) (hE : cx_E te adK adV A s s.heap) (hX : va_X b L xs s s.heap) (hbl : b < s.heap.size) (hbA : ¬ A b) (hN : ∀ σ τ : cx_St, Inv σ τ → cx_S p l e room_1 s m #[Value.ref b] below meth c A D 4 600000 7302249 (lw_Z below #[Value.ref b] s) 1362 [(0, .ref b), (1, .ref (U 0 0)), (2, .ref (V 0)), (3, .int (nI i))] [] (wN k U σ ++ wM k V τ)) : cx_S p l e room_1 s m #[Value.ref b] below meth c A D 4 600000 7302249 (lw_Z below #[Value.ref b] s) 986 [(0, .ref b), (1, .ref (U 0 0)), (2, .ref (V 0)), (3, .int (nI i))] [] (wN k U σ ++ wM k V τ) := by
  obtain ⟨y1, y2, e1, e2, e3, hI⟩ := ho σ τ (xs (cx_ix (nI i + 1))) (xs (cx_ix (nI i + 2))) hv
  refine cx_aload_n C dL_law_986 1 rfl ?_
  refine cx_aload_n C dL_law_987 0 rfl ?_
  refine cx_iload_n C dL_law_988 3 rfl ?_
  refine cx_iconst (v := 1) C dL_law_989 (by decide) ?_
  refine cx_iadd C dL_law_990 ?_
  refine cx_sld C hX hbl hbA dL_law_991 (law_in (j := 1) hL hlt (by decide)) ?_
  refine cx_aload_n C dL_law_992 0 rfl ?_
  refine cx_iload_n C dL_law_993 3 rfl ?_
  refine cx_iconst (v := 2) C dL_law_994 (by decide) ?_
  refine cx_iadd C dL_law_995 ?_
  refine cx_sld C hX hbl hbA dL_law_996 (law_in (j := 2) hL hlt (by decide)) ?_
  refine cx_LLi (q := (RX8, TX8, 12)) (As := [.int (xs (cx_ix (nI i + 1))), .int (xs (cx_ix (nI i + 2)))]) (rest := []) (w1 := (wN k U (cx_sL (cx_sI (cx_sL (cx_sL (cx_sL (cx_sL (cx_sZ (cx_sZ (cx_sL (cx_sI (cx_sL (cx_sL (cx_sL (cx_sL (cx_sZ (cx_sZ (cx_sI (cx_sL (cx_sL (cx_sL (cx_sI (cx_sI (cx_sI (cx_sI (cx_sI (cx_sI (cx_sI (cx_sI (cx_sZ (cx_sZ (cx_sZ (cx_sZ (cx_sZ (cx_sI (cx_sL (cx_sL (cx_sL (cx_sI (cx_sI (cx_sI (cx_sI (cx_sI (cx_sI (cx_sI (cx_sI (cx_sZ (cx_sZ (cx_sZ (cx_sZ (cx_sZ (cx_sL (cx_sL (cx_sL (cx_sL (cx_sI (cx_sZ σ 0 y1.2.1) 1 y1.2.2.1) 0 y1.2.2.2.1) 1 y1.2.2.2.2.1) 2 y1.2.2.2.2.2.1) 3 y1.2.2.2.2.2.2.1) 29 y1.2.2.2.2.2.2.2.1) 30 y1.2.2.2.2.2.2.2.2.1) 31 y1.2.2.2.2.2.2.2.2.2.1) 32 y1.2.2.2.2.2.2.2.2.2.2.1) 33 y1.2.2.2.2.2.2.2.2.2.2.2.1) 24 y1.2.2.2.2.2.2.2.2.2.2.2.2.1) 25 y1.2.2.2.2.2.2.2.2.2.2.2.2.2.1) 26 y1.2.2.2.2.2.2.2.2.2.2.2.2.2.2.1) 27 y1.2.2.2.2.2.2.2.2.2.2.2.2.2.2.2.1) 28 y1.2.2.2.2.2.2.2.2.2.2.2.2.2.2.2.2.1) 29 y1.2.2.2.2.2.2.2.2.2.2.2.2.2.2.2.2.2.1) 30 y1.2.2.2.2.2.2.2.2.2.2.2.2.2.2.2.2.2.2.1) 31 y1.2.2.2.2.2.2.2.2.2.2.2.2.2.2.2.2.2.2.2.1) 4 y1.2.2.2.2.2.2.2.2.2.2.2.2.2.2.2.2.2.2.2.2.1) 5 y1.2.2.2.2.2.2.2.2.2.2.2.2.2.2.2.2.2.2.2.2.2.1) 6 y1.2.2.2.2.2.2.2.2.2.2.2.2.2.2.2.2.2.2.2.2.2.2.1) 32 y1.2.2.2.2.2.2.2.2.2.2.2.2.2.2.2.2.2.2.2.2.2.2.2.1) 34 y1.2.2.2.2.2.2.2.2.2.2.2.2.2.2.2.2.2.2.2.2.2.2.2.2.1) 35 y1.2.2.2.2.2.2.2.2.2.2.2.2.2.2.2.2.2.2.2.2.2.2.2.2.2.1) 36 y1.2.2.2.2.2.2.2.2.2.2.2.2.2.2.2.2.2.2.2.2.2.2.2.2.2.2.1) 37 y1.2.2.2.2.2.2.2.2.2.2.2.2.2.2.2.2.2.2.2.2.2.2.2.2.2.2.2.1) 38 y1.2.2.2.2.2.2.2.2.2.2.2.2.2.2.2.2.2.2.2.2.2.2.2.2.2.2.2.2.1) 33 y1.2.2.2.2.2.2.2.2.2.2.2.2.2.2.2.2.2.2.2.2.2.2.2.2.2.2.2.2.2.1) 34 y1.2.2.2.2.2.2.2.2.2.2.2.2.2.2.2.2.2.2.2.2.2.2.2.2.2.2.2.2.2.2.1) 35 y1.2.2.2.2.2.2.2.2.2.2.2.2.2.2.2.2.2.2.2.2.2.2.2.2.2.2.2.2.2.2.2.1) 36 y1.2.2.2.2.2.2.2.2.2.2.2.2.2.2.2.2.2.2.2.2.2.2.2.2.2.2.2.2.2.2.2.2.1) 37 y1.2.2.2.2.2.2.2.2.2.2.2.2.2.2.2.2.2.2.2.2.2.2.2.2.2.2.2.2.2.2.2.2.2.1) 38 y1.2.2.2.2.2.2.2.2.2.2.2.2.2.2.2.2.2.2.2.2.2.2.2.2.2.2.2.2.2.2.2.2.2.2.1) 39 y1.2.2.2.2.2.2.2.2.2.2.2.2.2.2.2.2.2.2.2.2.2.2.2.2.2.2.2.2.2.2.2.2.2.2.2.1) 40 y1.2.2.2.2.2.2.2.2.2.2.2.2.2.2.2.2.2.2.2.2.2.2.2.2.2.2.2.2.2.2.2.2.2.2.2.2.1) 7 y1.2.2.2.2.2.2.2.2.2.2.2.2.2.2.2.2.2.2.2.2.2.2.2.2.2.2.2.2.2.2.2.2.2.2.2.2.2.1) 8 y1.2.2.2.2.2.2.2.2.2.2.2.2.2.2.2.2.2.2.2.2.2.2.2.2.2.2.2.2.2.2.2.2.2.2.2.2.2.2.1) 9 y1.2.2.2.2.2.2.2.2.2.2.2.2.2.2.2.2.2.2.2.2.2.2.2.2.2.2.2.2.2.2.2.2.2.2.2.2.2.2.2.1) 41 y1.2.2.2.2.2.2.2.2.2.2.2.2.2.2.2.2.2.2.2.2.2.2.2.2.2.2.2.2.2.2.2.2.2.2.2.2.2.2.2.2.1) 39 y1.2.2.2.2.2.2.2.2.2.2.2.2.2.2.2.2.2.2.2.2.2.2.2.2.2.2.2.2.2.2.2.2.2.2.2.2.2.2.2.2.2.1) 40 y1.2.2.2.2.2.2.2.2.2.2.2.2.2.2.2.2.2.2.2.2.2.2.2.2.2.2.2.2.2.2.2.2.2.2.2.2.2.2.2.2.2.2.1) 10 y1.2.2.2.2.2.2.2.2.2.2.2.2.2.2.2.2.2.2.2.2.2.2.2.2.2.2.2.2.2.2.2.2.2.2.2.2.2.2.2.2.2.2.2.1) 11 y1.2.2.2.2.2.2.2.2.2.2.2.2.2.2.2.2.2.2.2.2.2.2.2.2.2.2.2.2.2.2.2.2.2.2.2.2.2.2.2.2.2.2.2.2.1) 12 y1.2.2.2.2.2.2.2.2.2.2.2.2.2.2.2.2.2.2.2.2.2.2.2.2.2.2.2.2.2.2.2.2.2.2.2.2.2.2.2.2.2.2.2.2.2.1) 13 y1.2.2.2.2.2.2.2.2.2.2.2.2.2.2.2.2.2.2.2.2.2.2.2.2.2.2.2.2.2.2.2.2.2.2.2.2.2.2.2.2.2.2.2.2.2.2.1) 42 y1.2.2.2.2.2.2.2.2.2.2.2.2.2.2.2.2.2.2.2.2.2.2.2.2.2.2.2.2.2.2.2.2.2.2.2.2.2.2.2.2.2.2.2.2.2.2.2.1) 14 y1.2.2.2.2.2.2.2.2.2.2.2.2.2.2.2.2.2.2.2.2.2.2.2.2.2.2.2.2.2.2.2.2.2.2.2.2.2.2.2.2.2.2.2.2.2.2.2.2.1) 41 y1.2.2.2.2.2.2.2.2.2.2.2.2.2.2.2.2.2.2.2.2.2.2.2.2.2.2.2.2.2.2.2.2.2.2.2.2.2.2.2.2.2.2.2.2.2.2.2.2.2.1) 42 y1.2.2.2.2.2.2.2.2.2.2.2.2.2.2.2.2.2.2.2.2.2.2.2.2.2.2.2.2.2.2.2.2.2.2.2.2.2.2.2.2.2.2.2.2.2.2.2.2.2.2.1) 18 y1.2.2.2.2.2.2.2.2.2.2.2.2.2.2.2.2.2.2.2.2.2.2.2.2.2.2.2.2.2.2.2.2.2.2.2.2.2.2.2.2.2.2.2.2.2.2.2.2.2.2.2.1) 19 y1.2.2.2.2.2.2.2.2.2.2.2.2.2.2.2.2.2.2.2.2.2.2.2.2.2.2.2.2.2.2.2.2.2.2.2.2.2.2.2.2.2.2.2.2.2.2.2.2.2.2.2.2.1) 20 y1.2.2.2.2.2.2.2.2.2.2.2.2.2.2.2.2.2.2.2.2.2.2.2.2.2.2.2.2.2.2.2.2.2.2.2.2.2.2.2.2.2.2.2.2.2.2.2.2.2.2.2.2.2.1) 21 y1.2.2.2.2.2.2.2.2.2.2.2.2.2.2.2.2.2.2.2.2.2.2.2.2.2.2.2.2.2.2.2.2.2.2.2.2.2.2.2.2.2.2.2.2.2.2.2.2.2.2.2.2.2.2.1) 43 y1.2.2.2.2.2.2.2.2.2.2.2.2.2.2.2.2.2.2.2.2.2.2.2.2.2.2.2.2.2.2.2.2.2.2.2.2.2.2.2.2.2.2.2.2.2.2.2.2.2.2.2.2.2.2.2.1) 22 y1.2.2.2.2.2.2.2.2.2.2.2.2.2.2.2.2.2.2.2.2.2.2.2.2.2.2.2.2.2.2.2.2.2.2.2.2.2.2.2.2.2.2.2.2.2.2.2.2.2.2.2.2.2.2.2.2))) hA C me_X8_when hw_890 (c_X8_when l D k (U 0) (U 1) (U 2) (U 3) (U 4) (U 5) (U 6) (U 7) (U 8) (U 9) (U 10) (U 11) (σ.1 0) (σ.1 1) (σ.2.2 0) (σ.1 2) (σ.2.2 1) (σ.1 3) (σ.2.2 2) (σ.1 4) (σ.2.2 3) (σ.1 5) (σ.2.2 4) (σ.1 6) (σ.2.2 5) (σ.2.2 6) (σ.1 7) (σ.2.2 7) (σ.1 8) (σ.2.2 8) (σ.1 9) (σ.2.2 9) (σ.1 10) (σ.2.2 10) (σ.1 11) (σ.2.2 11) (σ.2.2 12) (σ.1 12) (σ.2.2 13) (σ.1 13) (σ.2.2 14) (σ.1 14) (σ.2.2 15) (σ.1 15) (σ.2.2 16) (σ.1 16) (σ.2.2 17) (σ.2.2 18) (σ.1 17) (σ.2.2 19) (σ.1 18) (σ.2.2 20) (σ.1 19) (σ.2.2 21) (σ.1 20) (σ.2.2 22) (σ.1 21) (σ.2.2 23) (σ.2.2 24) (σ.1 22) (σ.2.2 25) (σ.2.2 26) (σ.2.2 27) (σ.2.2 28) (σ.1 23) (σ.2.1 0) (σ.2.1 1) (σ.2.1 2) (σ.2.1 3) (σ.2.2 29) (σ.2.2 30) (σ.2.2 31) (σ.2.2 32) (σ.2.2 33) (σ.1 24) (σ.1 25) (σ.1 26) (σ.1 27) (σ.1 28) (σ.1 29) (σ.1 30) (σ.1 31) (σ.2.1 4) (σ.2.1 5) (σ.2.1 6) (σ.1 32) (σ.2.2 34) (σ.2.2 35) (σ.2.2 36) (σ.2.2 37) (σ.2.2 38) (σ.1 33) (σ.1 34) (σ.1 35) (σ.1 36) (σ.1 37) (σ.1 38) (σ.1 39) (σ.1 40) (σ.2.1 7) (σ.2.1 8) (σ.2.1 9) (σ.1 41) (σ.2.1 10) (σ.2.1 11) (σ.2.1 12) (σ.2.1 13) (σ.1 42) (σ.2.1 14) (σ.2.1 15) (σ.2.1 16) (σ.2.1 17) (σ.2.2 39) (σ.2.2 40) (σ.2.1 18) (σ.2.1 19) (σ.2.1 20) (σ.2.1 21) (σ.1 43) (σ.2.1 22) (σ.2.1 23) (σ.2.1 24) (σ.2.1 25) (σ.2.2 41) (σ.2.2 42) (σ.2.1 26) (σ.2.1 27) (σ.2.1 28) (σ.2.1 29) (σ.2.1 30) (σ.2.1 31) (xs (cx_ix (nI i + 1))) (xs (cx_ix (nI i + 2))) y1 e1) dL_law_997 ⟨(Nat.le_of_ble_eq_true rfl), (Nat.le_of_ble_eq_true rfl)⟩ ⟨Nat.le_refl _, Nat.le_refl _⟩ rfl rfl (Nat.le_of_ble_eq_true rfl) rfl rfl rfl ?_
  refine cx_aload_n C dL_law_1000 2 rfl ?_
  refine cx_aload_n C dL_law_1001 0 rfl ?_
  refine cx_iload_n C dL_law_1002 3 rfl ?_
  refine cx_iconst (v := 1) C dL_law_1003 (by decide) ?_
  refine cx_iadd C dL_law_1004 ?_
  refine cx_sld C hX hbl hbA dL_law_1005 (law_in (j := 1) hL hlt (by decide)) ?_
  refine cx_aload_n C dL_law_1006 0 rfl ?_
  refine cx_iload_n C dL_law_1007 3 rfl ?_
  refine cx_iconst (v := 2) C dL_law_1008 (by decide) ?_
  refine cx_iadd C dL_law_1009 ?_
  refine cx_sld C hX hbl hbA dL_law_1010 (law_in (j := 2) hL hlt (by decide)) ?_
  refine cx_LRi (q := (RX9, TX9, 24)) (As := [.int (xs (cx_ix (nI i + 1))), .int (xs (cx_ix (nI i + 2)))]) (rest := [.int y1.1]) (w1 := (wM k V (cx_sI (cx_sI (cx_sI (cx_sI (cx_sI (cx_sZ (cx_sZ (cx_sZ (cx_sZ (cx_sZ τ 7 y2.2.1) 8 y2.2.2.1) 9 y2.2.2.2.1) 10 y2.2.2.2.2.1) 11 y2.2.2.2.2.2.1) 0 y2.2.2.2.2.2.2.1) 1 y2.2.2.2.2.2.2.2.1) 6 y2.2.2.2.2.2.2.2.2.1) 9 y2.2.2.2.2.2.2.2.2.2.1) 10 y2.2.2.2.2.2.2.2.2.2.2))) hA C me_X9_when hw_1429 (c_X9_when l D k V (τ.1 0) (τ.1 1) (τ.1 2) (τ.1 3) (τ.1 4) (τ.1 5) (τ.1 6) (τ.2.2 0) (τ.1 7) (τ.2.2 1) (τ.2.2 2) (τ.2.2 3) (τ.2.2 4) (τ.2.2 5) (τ.1 8) (τ.2.2 6) (τ.1 9) (τ.1 10) (τ.2.2 7) (τ.2.2 8) (τ.2.2 9) (τ.2.2 10) (τ.2.2 11) (τ.1 11) (xs (cx_ix (nI i + 1))) (xs (cx_ix (nI i + 2))) y2 e2) dL_law_1011 ⟨(Nat.le_of_ble_eq_true rfl), (Nat.le_of_ble_eq_true rfl)⟩ ⟨Nat.le_refl _, Nat.le_refl _⟩ rfl rfl (Nat.le_of_ble_eq_true rfl) rfl rfl rfl ?_
  refine cx_icmp_eq (tgt := 1362) C dL_law_1014 (by decide) (fun _ => ?_) (fun q => absurd e3 q)
  exact hN _ _ hI
set_option maxHeartbeats 4000000 in
set_option maxRecDepth 100000 in
theorem law_c25 (i : Nat) (σ τ : cx_St) (hL : L ≤ 384) (hlt : i + 6 ≤ L) (ho : ob_span Inv) (hv : Inv σ τ) (hA : A = va_A [] s.heap.size) (C : cx_C p s m #[Value.ref b] c code 4 "NamelessBoxLaw" D k) (hE : cx_E te adK adV A s s.heap) (hX : va_X b L xs s s.heap) (hbl : b < s.heap.size) (hbA : ¬ A b) (hN : ∀ σ τ : cx_St, Inv σ τ → cx_S p l e room_1 s m #[Value.ref b] below meth c A D 4 600000 7302249 (lw_Z below #[Value.ref b] s) 1362 [(0, .ref b), (1, .ref (U 0 0)), (2, .ref (V 0)), (3, .int (nI i))] [] (wN k U σ ++ wM k V τ)) : cx_S p l e room_1 s m #[Value.ref b] below meth c A D 4 600000 7302249 (lw_Z below #[Value.ref b] s) 1019 [(0, .ref b), (1, .ref (U 0 0)), (2, .ref (V 0)), (3, .int (nI i))] [] (wN k U σ ++ wM k V τ) := by
  obtain ⟨y1, y2, e1, e2, e3, hI⟩ := ho σ τ (xs (cx_ix (nI i + 1))) (xs (cx_ix (nI i + 2))) hv
  refine cx_aload_n C dL_law_1019 1 rfl ?_
  refine cx_aload_n C dL_law_1020 0 rfl ?_
  refine cx_iload_n C dL_law_1021 3 rfl ?_
  refine cx_iconst (v := 1) C dL_law_1022 (by decide) ?_
  refine cx_iadd C dL_law_1023 ?_
  refine cx_sld C hX hbl hbA dL_law_1024 (law_in (j := 1) hL hlt (by decide)) ?_
  refine cx_aload_n C dL_law_1025 0 rfl ?_
  refine cx_iload_n C dL_law_1026 3 rfl ?_
  refine cx_iconst (v := 2) C dL_law_1027 (by decide) ?_
  refine cx_iadd C dL_law_1028 ?_
  refine cx_sld C hX hbl hbA dL_law_1029 (law_in (j := 2) hL hlt (by decide)) ?_
  refine cx_LLi (q := (RX8, TX8, 12)) (As := [.int (xs (cx_ix (nI i + 1))), .int (xs (cx_ix (nI i + 2)))]) (rest := []) (w1 := (wN k U (cx_sL (cx_sI (cx_sL (cx_sL (cx_sL (cx_sL (cx_sZ (cx_sZ (cx_sL (cx_sI (cx_sL (cx_sL (cx_sL (cx_sL (cx_sZ (cx_sZ (cx_sI (cx_sL (cx_sL (cx_sL (cx_sI (cx_sI (cx_sI (cx_sI (cx_sI (cx_sI (cx_sI (cx_sI (cx_sZ (cx_sZ (cx_sZ (cx_sZ (cx_sZ (cx_sI (cx_sL (cx_sL (cx_sL (cx_sI (cx_sI (cx_sI (cx_sI (cx_sI (cx_sI (cx_sI (cx_sI (cx_sZ (cx_sZ (cx_sZ (cx_sZ (cx_sZ (cx_sI (cx_sZ σ 0 y1.2.1) 1 y1.2.2.1) 29 y1.2.2.2.1) 30 y1.2.2.2.2.1) 31 y1.2.2.2.2.2.1) 32 y1.2.2.2.2.2.2.1) 33 y1.2.2.2.2.2.2.2.1) 24 y1.2.2.2.2.2.2.2.2.1) 25 y1.2.2.2.2.2.2.2.2.2.1) 26 y1.2.2.2.2.2.2.2.2.2.2.1) 27 y1.2.2.2.2.2.2.2.2.2.2.2.1) 28 y1.2.2.2.2.2.2.2.2.2.2.2.2.1) 29 y1.2.2.2.2.2.2.2.2.2.2.2.2.2.1) 30 y1.2.2.2.2.2.2.2.2.2.2.2.2.2.2.1) 31 y1.2.2.2.2.2.2.2.2.2.2.2.2.2.2.2.1) 4 y1.2.2.2.2.2.2.2.2.2.2.2.2.2.2.2.2.1) 5 y1.2.2.2.2.2.2.2.2.2.2.2.2.2.2.2.2.2.1) 6 y1.2.2.2.2.2.2.2.2.2.2.2.2.2.2.2.2.2.2.1) 32 y1.2.2.2.2.2.2.2.2.2.2.2.2.2.2.2.2.2.2.2.1) 34 y1.2.2.2.2.2.2.2.2.2.2.2.2.2.2.2.2.2.2.2.2.1) 35 y1.2.2.2.2.2.2.2.2.2.2.2.2.2.2.2.2.2.2.2.2.2.1) 36 y1.2.2.2.2.2.2.2.2.2.2.2.2.2.2.2.2.2.2.2.2.2.2.1) 37 y1.2.2.2.2.2.2.2.2.2.2.2.2.2.2.2.2.2.2.2.2.2.2.2.1) 38 y1.2.2.2.2.2.2.2.2.2.2.2.2.2.2.2.2.2.2.2.2.2.2.2.2.1) 33 y1.2.2.2.2.2.2.2.2.2.2.2.2.2.2.2.2.2.2.2.2.2.2.2.2.2.1) 34 y1.2.2.2.2.2.2.2.2.2.2.2.2.2.2.2.2.2.2.2.2.2.2.2.2.2.2.1) 35 y1.2.2.2.2.2.2.2.2.2.2.2.2.2.2.2.2.2.2.2.2.2.2.2.2.2.2.2.1) 36 y1.2.2.2.2.2.2.2.2.2.2.2.2.2.2.2.2.2.2.2.2.2.2.2.2.2.2.2.2.1) 37 y1.2.2.2.2.2.2.2.2.2.2.2.2.2.2.2.2.2.2.2.2.2.2.2.2.2.2.2.2.2.1) 38 y1.2.2.2.2.2.2.2.2.2.2.2.2.2.2.2.2.2.2.2.2.2.2.2.2.2.2.2.2.2.2.1) 39 y1.2.2.2.2.2.2.2.2.2.2.2.2.2.2.2.2.2.2.2.2.2.2.2.2.2.2.2.2.2.2.2.1) 40 y1.2.2.2.2.2.2.2.2.2.2.2.2.2.2.2.2.2.2.2.2.2.2.2.2.2.2.2.2.2.2.2.2.1) 7 y1.2.2.2.2.2.2.2.2.2.2.2.2.2.2.2.2.2.2.2.2.2.2.2.2.2.2.2.2.2.2.2.2.2.1) 8 y1.2.2.2.2.2.2.2.2.2.2.2.2.2.2.2.2.2.2.2.2.2.2.2.2.2.2.2.2.2.2.2.2.2.2.1) 9 y1.2.2.2.2.2.2.2.2.2.2.2.2.2.2.2.2.2.2.2.2.2.2.2.2.2.2.2.2.2.2.2.2.2.2.2.1) 41 y1.2.2.2.2.2.2.2.2.2.2.2.2.2.2.2.2.2.2.2.2.2.2.2.2.2.2.2.2.2.2.2.2.2.2.2.2.1) 39 y1.2.2.2.2.2.2.2.2.2.2.2.2.2.2.2.2.2.2.2.2.2.2.2.2.2.2.2.2.2.2.2.2.2.2.2.2.2.1) 40 y1.2.2.2.2.2.2.2.2.2.2.2.2.2.2.2.2.2.2.2.2.2.2.2.2.2.2.2.2.2.2.2.2.2.2.2.2.2.2.1) 10 y1.2.2.2.2.2.2.2.2.2.2.2.2.2.2.2.2.2.2.2.2.2.2.2.2.2.2.2.2.2.2.2.2.2.2.2.2.2.2.2.1) 11 y1.2.2.2.2.2.2.2.2.2.2.2.2.2.2.2.2.2.2.2.2.2.2.2.2.2.2.2.2.2.2.2.2.2.2.2.2.2.2.2.2.1) 12 y1.2.2.2.2.2.2.2.2.2.2.2.2.2.2.2.2.2.2.2.2.2.2.2.2.2.2.2.2.2.2.2.2.2.2.2.2.2.2.2.2.2.1) 13 y1.2.2.2.2.2.2.2.2.2.2.2.2.2.2.2.2.2.2.2.2.2.2.2.2.2.2.2.2.2.2.2.2.2.2.2.2.2.2.2.2.2.2.1) 42 y1.2.2.2.2.2.2.2.2.2.2.2.2.2.2.2.2.2.2.2.2.2.2.2.2.2.2.2.2.2.2.2.2.2.2.2.2.2.2.2.2.2.2.2.1) 14 y1.2.2.2.2.2.2.2.2.2.2.2.2.2.2.2.2.2.2.2.2.2.2.2.2.2.2.2.2.2.2.2.2.2.2.2.2.2.2.2.2.2.2.2.2.1) 41 y1.2.2.2.2.2.2.2.2.2.2.2.2.2.2.2.2.2.2.2.2.2.2.2.2.2.2.2.2.2.2.2.2.2.2.2.2.2.2.2.2.2.2.2.2.2.1) 42 y1.2.2.2.2.2.2.2.2.2.2.2.2.2.2.2.2.2.2.2.2.2.2.2.2.2.2.2.2.2.2.2.2.2.2.2.2.2.2.2.2.2.2.2.2.2.2.1) 18 y1.2.2.2.2.2.2.2.2.2.2.2.2.2.2.2.2.2.2.2.2.2.2.2.2.2.2.2.2.2.2.2.2.2.2.2.2.2.2.2.2.2.2.2.2.2.2.2.1) 19 y1.2.2.2.2.2.2.2.2.2.2.2.2.2.2.2.2.2.2.2.2.2.2.2.2.2.2.2.2.2.2.2.2.2.2.2.2.2.2.2.2.2.2.2.2.2.2.2.2.1) 20 y1.2.2.2.2.2.2.2.2.2.2.2.2.2.2.2.2.2.2.2.2.2.2.2.2.2.2.2.2.2.2.2.2.2.2.2.2.2.2.2.2.2.2.2.2.2.2.2.2.2.1) 21 y1.2.2.2.2.2.2.2.2.2.2.2.2.2.2.2.2.2.2.2.2.2.2.2.2.2.2.2.2.2.2.2.2.2.2.2.2.2.2.2.2.2.2.2.2.2.2.2.2.2.2.1) 43 y1.2.2.2.2.2.2.2.2.2.2.2.2.2.2.2.2.2.2.2.2.2.2.2.2.2.2.2.2.2.2.2.2.2.2.2.2.2.2.2.2.2.2.2.2.2.2.2.2.2.2.2.1) 22 y1.2.2.2.2.2.2.2.2.2.2.2.2.2.2.2.2.2.2.2.2.2.2.2.2.2.2.2.2.2.2.2.2.2.2.2.2.2.2.2.2.2.2.2.2.2.2.2.2.2.2.2.2))) hA C me_X8_span hw_903 (c_X8_span l D k (U 0) (U 1) (U 2) (U 3) (U 4) (U 5) (U 6) (U 7) (U 8) (U 9) (U 10) (U 11) (σ.1 0) (σ.1 1) (σ.2.2 0) (σ.1 2) (σ.2.2 1) (σ.1 3) (σ.2.2 2) (σ.1 4) (σ.2.2 3) (σ.1 5) (σ.2.2 4) (σ.1 6) (σ.2.2 5) (σ.2.2 6) (σ.1 7) (σ.2.2 7) (σ.1 8) (σ.2.2 8) (σ.1 9) (σ.2.2 9) (σ.1 10) (σ.2.2 10) (σ.1 11) (σ.2.2 11) (σ.2.2 12) (σ.1 12) (σ.2.2 13) (σ.1 13) (σ.2.2 14) (σ.1 14) (σ.2.2 15) (σ.1 15) (σ.2.2 16) (σ.1 16) (σ.2.2 17) (σ.2.2 18) (σ.1 17) (σ.2.2 19) (σ.1 18) (σ.2.2 20) (σ.1 19) (σ.2.2 21) (σ.1 20) (σ.2.2 22) (σ.1 21) (σ.2.2 23) (σ.2.2 24) (σ.1 22) (σ.2.2 25) (σ.2.2 26) (σ.2.2 27) (σ.2.2 28) (σ.1 23) (σ.2.1 0) (σ.2.1 1) (σ.2.1 2) (σ.2.1 3) (σ.2.2 29) (σ.2.2 30) (σ.2.2 31) (σ.2.2 32) (σ.2.2 33) (σ.1 24) (σ.1 25) (σ.1 26) (σ.1 27) (σ.1 28) (σ.1 29) (σ.1 30) (σ.1 31) (σ.2.1 4) (σ.2.1 5) (σ.2.1 6) (σ.1 32) (σ.2.2 34) (σ.2.2 35) (σ.2.2 36) (σ.2.2 37) (σ.2.2 38) (σ.1 33) (σ.1 34) (σ.1 35) (σ.1 36) (σ.1 37) (σ.1 38) (σ.1 39) (σ.1 40) (σ.2.1 7) (σ.2.1 8) (σ.2.1 9) (σ.1 41) (σ.2.1 10) (σ.2.1 11) (σ.2.1 12) (σ.2.1 13) (σ.1 42) (σ.2.1 14) (σ.2.1 15) (σ.2.1 16) (σ.2.1 17) (σ.2.2 39) (σ.2.2 40) (σ.2.1 18) (σ.2.1 19) (σ.2.1 20) (σ.2.1 21) (σ.1 43) (σ.2.1 22) (σ.2.1 23) (σ.2.1 24) (σ.2.1 25) (σ.2.2 41) (σ.2.2 42) (σ.2.1 26) (σ.2.1 27) (σ.2.1 28) (σ.2.1 29) (σ.2.1 30) (σ.2.1 31) (xs (cx_ix (nI i + 1))) (xs (cx_ix (nI i + 2))) y1 e1) dL_law_1030 ⟨(Nat.le_of_ble_eq_true rfl), (Nat.le_of_ble_eq_true rfl)⟩ ⟨Nat.le_refl _, Nat.le_refl _⟩ rfl rfl (Nat.le_of_ble_eq_true rfl) rfl rfl rfl ?_
  refine cx_aload_n C dL_law_1033 2 rfl ?_
  refine cx_aload_n C dL_law_1034 0 rfl ?_
  refine cx_iload_n C dL_law_1035 3 rfl ?_
  refine cx_iconst (v := 1) C dL_law_1036 (by decide) ?_
  refine cx_iadd C dL_law_1037 ?_
  refine cx_sld C hX hbl hbA dL_law_1038 (law_in (j := 1) hL hlt (by decide)) ?_
  refine cx_aload_n C dL_law_1039 0 rfl ?_
  refine cx_iload_n C dL_law_1040 3 rfl ?_
  refine cx_iconst (v := 2) C dL_law_1041 (by decide) ?_
  refine cx_iadd C dL_law_1042 ?_
  refine cx_sld C hX hbl hbA dL_law_1043 (law_in (j := 2) hL hlt (by decide)) ?_
  refine cx_LRi (q := (RX9, TX9, 24)) (As := [.int (xs (cx_ix (nI i + 1))), .int (xs (cx_ix (nI i + 2)))]) (rest := [.int y1.1]) (w1 := (wM k V (cx_sI (cx_sI (cx_sI (cx_sI (cx_sI (cx_sZ (cx_sZ (cx_sZ (cx_sZ (cx_sZ τ 7 y2.2.1) 8 y2.2.2.1) 9 y2.2.2.2.1) 10 y2.2.2.2.2.1) 11 y2.2.2.2.2.2.1) 0 y2.2.2.2.2.2.2.1) 1 y2.2.2.2.2.2.2.2.1) 6 y2.2.2.2.2.2.2.2.2.1) 9 y2.2.2.2.2.2.2.2.2.2.1) 10 y2.2.2.2.2.2.2.2.2.2.2))) hA C me_X9_span hw_1437 (c_X9_span l D k V (τ.1 0) (τ.1 1) (τ.1 2) (τ.1 3) (τ.1 4) (τ.1 5) (τ.1 6) (τ.2.2 0) (τ.1 7) (τ.2.2 1) (τ.2.2 2) (τ.2.2 3) (τ.2.2 4) (τ.2.2 5) (τ.1 8) (τ.2.2 6) (τ.1 9) (τ.1 10) (τ.2.2 7) (τ.2.2 8) (τ.2.2 9) (τ.2.2 10) (τ.2.2 11) (τ.1 11) (xs (cx_ix (nI i + 1))) (xs (cx_ix (nI i + 2))) y2 e2) dL_law_1044 ⟨(Nat.le_of_ble_eq_true rfl), (Nat.le_of_ble_eq_true rfl)⟩ ⟨Nat.le_refl _, Nat.le_refl _⟩ rfl rfl (Nat.le_of_ble_eq_true rfl) rfl rfl rfl ?_
  refine cx_icmp_eq (tgt := 1362) C dL_law_1047 (by decide) (fun _ => ?_) (fun q => absurd e3 q)
  exact hN _ _ hI
set_option maxHeartbeats 4000000 in
set_option maxRecDepth 100000 in
theorem law_c26 (i : Nat) (σ τ : cx_St) (hL : L ≤ 384) (hlt : i + 6 ≤ L) (ho : ob_ahead Inv) (hv : Inv σ τ) (hA : A = va_A [] s.heap.size) (C : cx_C p s m #[Value.ref b] c code 4 "NamelessBoxLaw" D k) (hE : cx_E te adK adV A s s.heap) (hX : va_X b L xs s s.heap) (hbl : b < s.heap.size) (hbA : ¬ A b) (hN : ∀ σ τ : cx_St, Inv σ τ → cx_S p l e room_1 s m #[Value.ref b] below meth c A D 4 600000 7302249 (lw_Z below #[Value.ref b] s) 1362 [(0, .ref b), (1, .ref (U 0 0)), (2, .ref (V 0)), (3, .int (nI i))] [] (wN k U σ ++ wM k V τ)) : cx_S p l e room_1 s m #[Value.ref b] below meth c A D 4 600000 7302249 (lw_Z below #[Value.ref b] s) 1052 [(0, .ref b), (1, .ref (U 0 0)), (2, .ref (V 0)), (3, .int (nI i))] [] (wN k U σ ++ wM k V τ) := by
  obtain ⟨y1, y2, e1, e2, e3, hI⟩ := ho σ τ (xs (cx_ix (nI i + 1))) (xs (cx_ix (nI i + 2))) hv
  refine cx_aload_n C dL_law_1052 1 rfl ?_
  refine cx_aload_n C dL_law_1053 0 rfl ?_
  refine cx_iload_n C dL_law_1054 3 rfl ?_
  refine cx_iconst (v := 1) C dL_law_1055 (by decide) ?_
  refine cx_iadd C dL_law_1056 ?_
  refine cx_sld C hX hbl hbA dL_law_1057 (law_in (j := 1) hL hlt (by decide)) ?_
  refine cx_aload_n C dL_law_1058 0 rfl ?_
  refine cx_iload_n C dL_law_1059 3 rfl ?_
  refine cx_iconst (v := 2) C dL_law_1060 (by decide) ?_
  refine cx_iadd C dL_law_1061 ?_
  refine cx_sld C hX hbl hbA dL_law_1062 (law_in (j := 2) hL hlt (by decide)) ?_
  refine cx_LLi (q := (RX8, TX8, 12)) (As := [.int (xs (cx_ix (nI i + 1))), .int (xs (cx_ix (nI i + 2)))]) (rest := []) (w1 := (wN k U (cx_sL (cx_sI (cx_sL (cx_sL (cx_sL (cx_sL (cx_sZ (cx_sZ (cx_sL (cx_sI (cx_sL (cx_sL (cx_sL (cx_sL (cx_sZ (cx_sZ (cx_sI (cx_sL (cx_sL (cx_sL (cx_sI (cx_sI (cx_sI (cx_sI (cx_sI (cx_sI (cx_sI (cx_sI (cx_sZ (cx_sZ (cx_sZ (cx_sZ (cx_sZ (cx_sI (cx_sL (cx_sL (cx_sL (cx_sI (cx_sI (cx_sI (cx_sI (cx_sI (cx_sI (cx_sI (cx_sI (cx_sZ (cx_sZ (cx_sZ (cx_sZ (cx_sZ (cx_sL (cx_sL (cx_sL (cx_sL (cx_sI (cx_sZ σ 0 y1.2.1) 1 y1.2.2.1) 0 y1.2.2.2.1) 1 y1.2.2.2.2.1) 2 y1.2.2.2.2.2.1) 3 y1.2.2.2.2.2.2.1) 29 y1.2.2.2.2.2.2.2.1) 30 y1.2.2.2.2.2.2.2.2.1) 31 y1.2.2.2.2.2.2.2.2.2.1) 32 y1.2.2.2.2.2.2.2.2.2.2.1) 33 y1.2.2.2.2.2.2.2.2.2.2.2.1) 24 y1.2.2.2.2.2.2.2.2.2.2.2.2.1) 25 y1.2.2.2.2.2.2.2.2.2.2.2.2.2.1) 26 y1.2.2.2.2.2.2.2.2.2.2.2.2.2.2.1) 27 y1.2.2.2.2.2.2.2.2.2.2.2.2.2.2.2.1) 28 y1.2.2.2.2.2.2.2.2.2.2.2.2.2.2.2.2.1) 29 y1.2.2.2.2.2.2.2.2.2.2.2.2.2.2.2.2.2.1) 30 y1.2.2.2.2.2.2.2.2.2.2.2.2.2.2.2.2.2.2.1) 31 y1.2.2.2.2.2.2.2.2.2.2.2.2.2.2.2.2.2.2.2.1) 4 y1.2.2.2.2.2.2.2.2.2.2.2.2.2.2.2.2.2.2.2.2.1) 5 y1.2.2.2.2.2.2.2.2.2.2.2.2.2.2.2.2.2.2.2.2.2.1) 6 y1.2.2.2.2.2.2.2.2.2.2.2.2.2.2.2.2.2.2.2.2.2.2.1) 32 y1.2.2.2.2.2.2.2.2.2.2.2.2.2.2.2.2.2.2.2.2.2.2.2.1) 34 y1.2.2.2.2.2.2.2.2.2.2.2.2.2.2.2.2.2.2.2.2.2.2.2.2.1) 35 y1.2.2.2.2.2.2.2.2.2.2.2.2.2.2.2.2.2.2.2.2.2.2.2.2.2.1) 36 y1.2.2.2.2.2.2.2.2.2.2.2.2.2.2.2.2.2.2.2.2.2.2.2.2.2.2.1) 37 y1.2.2.2.2.2.2.2.2.2.2.2.2.2.2.2.2.2.2.2.2.2.2.2.2.2.2.2.1) 38 y1.2.2.2.2.2.2.2.2.2.2.2.2.2.2.2.2.2.2.2.2.2.2.2.2.2.2.2.2.1) 33 y1.2.2.2.2.2.2.2.2.2.2.2.2.2.2.2.2.2.2.2.2.2.2.2.2.2.2.2.2.2.1) 34 y1.2.2.2.2.2.2.2.2.2.2.2.2.2.2.2.2.2.2.2.2.2.2.2.2.2.2.2.2.2.2.1) 35 y1.2.2.2.2.2.2.2.2.2.2.2.2.2.2.2.2.2.2.2.2.2.2.2.2.2.2.2.2.2.2.2.1) 36 y1.2.2.2.2.2.2.2.2.2.2.2.2.2.2.2.2.2.2.2.2.2.2.2.2.2.2.2.2.2.2.2.2.1) 37 y1.2.2.2.2.2.2.2.2.2.2.2.2.2.2.2.2.2.2.2.2.2.2.2.2.2.2.2.2.2.2.2.2.2.1) 38 y1.2.2.2.2.2.2.2.2.2.2.2.2.2.2.2.2.2.2.2.2.2.2.2.2.2.2.2.2.2.2.2.2.2.2.1) 39 y1.2.2.2.2.2.2.2.2.2.2.2.2.2.2.2.2.2.2.2.2.2.2.2.2.2.2.2.2.2.2.2.2.2.2.2.1) 40 y1.2.2.2.2.2.2.2.2.2.2.2.2.2.2.2.2.2.2.2.2.2.2.2.2.2.2.2.2.2.2.2.2.2.2.2.2.1) 7 y1.2.2.2.2.2.2.2.2.2.2.2.2.2.2.2.2.2.2.2.2.2.2.2.2.2.2.2.2.2.2.2.2.2.2.2.2.2.1) 8 y1.2.2.2.2.2.2.2.2.2.2.2.2.2.2.2.2.2.2.2.2.2.2.2.2.2.2.2.2.2.2.2.2.2.2.2.2.2.2.1) 9 y1.2.2.2.2.2.2.2.2.2.2.2.2.2.2.2.2.2.2.2.2.2.2.2.2.2.2.2.2.2.2.2.2.2.2.2.2.2.2.2.1) 41 y1.2.2.2.2.2.2.2.2.2.2.2.2.2.2.2.2.2.2.2.2.2.2.2.2.2.2.2.2.2.2.2.2.2.2.2.2.2.2.2.2.1) 39 y1.2.2.2.2.2.2.2.2.2.2.2.2.2.2.2.2.2.2.2.2.2.2.2.2.2.2.2.2.2.2.2.2.2.2.2.2.2.2.2.2.2.1) 40 y1.2.2.2.2.2.2.2.2.2.2.2.2.2.2.2.2.2.2.2.2.2.2.2.2.2.2.2.2.2.2.2.2.2.2.2.2.2.2.2.2.2.2.1) 10 y1.2.2.2.2.2.2.2.2.2.2.2.2.2.2.2.2.2.2.2.2.2.2.2.2.2.2.2.2.2.2.2.2.2.2.2.2.2.2.2.2.2.2.2.1) 11 y1.2.2.2.2.2.2.2.2.2.2.2.2.2.2.2.2.2.2.2.2.2.2.2.2.2.2.2.2.2.2.2.2.2.2.2.2.2.2.2.2.2.2.2.2.1) 12 y1.2.2.2.2.2.2.2.2.2.2.2.2.2.2.2.2.2.2.2.2.2.2.2.2.2.2.2.2.2.2.2.2.2.2.2.2.2.2.2.2.2.2.2.2.2.1) 13 y1.2.2.2.2.2.2.2.2.2.2.2.2.2.2.2.2.2.2.2.2.2.2.2.2.2.2.2.2.2.2.2.2.2.2.2.2.2.2.2.2.2.2.2.2.2.2.1) 42 y1.2.2.2.2.2.2.2.2.2.2.2.2.2.2.2.2.2.2.2.2.2.2.2.2.2.2.2.2.2.2.2.2.2.2.2.2.2.2.2.2.2.2.2.2.2.2.2.1) 14 y1.2.2.2.2.2.2.2.2.2.2.2.2.2.2.2.2.2.2.2.2.2.2.2.2.2.2.2.2.2.2.2.2.2.2.2.2.2.2.2.2.2.2.2.2.2.2.2.2.1) 41 y1.2.2.2.2.2.2.2.2.2.2.2.2.2.2.2.2.2.2.2.2.2.2.2.2.2.2.2.2.2.2.2.2.2.2.2.2.2.2.2.2.2.2.2.2.2.2.2.2.2.1) 42 y1.2.2.2.2.2.2.2.2.2.2.2.2.2.2.2.2.2.2.2.2.2.2.2.2.2.2.2.2.2.2.2.2.2.2.2.2.2.2.2.2.2.2.2.2.2.2.2.2.2.2.1) 18 y1.2.2.2.2.2.2.2.2.2.2.2.2.2.2.2.2.2.2.2.2.2.2.2.2.2.2.2.2.2.2.2.2.2.2.2.2.2.2.2.2.2.2.2.2.2.2.2.2.2.2.2.1) 19 y1.2.2.2.2.2.2.2.2.2.2.2.2.2.2.2.2.2.2.2.2.2.2.2.2.2.2.2.2.2.2.2.2.2.2.2.2.2.2.2.2.2.2.2.2.2.2.2.2.2.2.2.2.1) 20 y1.2.2.2.2.2.2.2.2.2.2.2.2.2.2.2.2.2.2.2.2.2.2.2.2.2.2.2.2.2.2.2.2.2.2.2.2.2.2.2.2.2.2.2.2.2.2.2.2.2.2.2.2.2.1) 21 y1.2.2.2.2.2.2.2.2.2.2.2.2.2.2.2.2.2.2.2.2.2.2.2.2.2.2.2.2.2.2.2.2.2.2.2.2.2.2.2.2.2.2.2.2.2.2.2.2.2.2.2.2.2.2.1) 43 y1.2.2.2.2.2.2.2.2.2.2.2.2.2.2.2.2.2.2.2.2.2.2.2.2.2.2.2.2.2.2.2.2.2.2.2.2.2.2.2.2.2.2.2.2.2.2.2.2.2.2.2.2.2.2.2.1) 22 y1.2.2.2.2.2.2.2.2.2.2.2.2.2.2.2.2.2.2.2.2.2.2.2.2.2.2.2.2.2.2.2.2.2.2.2.2.2.2.2.2.2.2.2.2.2.2.2.2.2.2.2.2.2.2.2.2))) hA C me_X8_ahead hw_907 (c_X8_ahead l D k (U 0) (U 1) (U 2) (U 3) (U 4) (U 5) (U 6) (U 7) (U 8) (U 9) (U 10) (U 11) (σ.1 0) (σ.1 1) (σ.2.2 0) (σ.1 2) (σ.2.2 1) (σ.1 3) (σ.2.2 2) (σ.1 4) (σ.2.2 3) (σ.1 5) (σ.2.2 4) (σ.1 6) (σ.2.2 5) (σ.2.2 6) (σ.1 7) (σ.2.2 7) (σ.1 8) (σ.2.2 8) (σ.1 9) (σ.2.2 9) (σ.1 10) (σ.2.2 10) (σ.1 11) (σ.2.2 11) (σ.2.2 12) (σ.1 12) (σ.2.2 13) (σ.1 13) (σ.2.2 14) (σ.1 14) (σ.2.2 15) (σ.1 15) (σ.2.2 16) (σ.1 16) (σ.2.2 17) (σ.2.2 18) (σ.1 17) (σ.2.2 19) (σ.1 18) (σ.2.2 20) (σ.1 19) (σ.2.2 21) (σ.1 20) (σ.2.2 22) (σ.1 21) (σ.2.2 23) (σ.2.2 24) (σ.1 22) (σ.2.2 25) (σ.2.2 26) (σ.2.2 27) (σ.2.2 28) (σ.1 23) (σ.2.1 0) (σ.2.1 1) (σ.2.1 2) (σ.2.1 3) (σ.2.2 29) (σ.2.2 30) (σ.2.2 31) (σ.2.2 32) (σ.2.2 33) (σ.1 24) (σ.1 25) (σ.1 26) (σ.1 27) (σ.1 28) (σ.1 29) (σ.1 30) (σ.1 31) (σ.2.1 4) (σ.2.1 5) (σ.2.1 6) (σ.1 32) (σ.2.2 34) (σ.2.2 35) (σ.2.2 36) (σ.2.2 37) (σ.2.2 38) (σ.1 33) (σ.1 34) (σ.1 35) (σ.1 36) (σ.1 37) (σ.1 38) (σ.1 39) (σ.1 40) (σ.2.1 7) (σ.2.1 8) (σ.2.1 9) (σ.1 41) (σ.2.1 10) (σ.2.1 11) (σ.2.1 12) (σ.2.1 13) (σ.1 42) (σ.2.1 14) (σ.2.1 15) (σ.2.1 16) (σ.2.1 17) (σ.2.2 39) (σ.2.2 40) (σ.2.1 18) (σ.2.1 19) (σ.2.1 20) (σ.2.1 21) (σ.1 43) (σ.2.1 22) (σ.2.1 23) (σ.2.1 24) (σ.2.1 25) (σ.2.2 41) (σ.2.2 42) (σ.2.1 26) (σ.2.1 27) (σ.2.1 28) (σ.2.1 29) (σ.2.1 30) (σ.2.1 31) (xs (cx_ix (nI i + 1))) (xs (cx_ix (nI i + 2))) y1 e1) dL_law_1063 ⟨(Nat.le_of_ble_eq_true rfl), (Nat.le_of_ble_eq_true rfl)⟩ ⟨Nat.le_refl _, Nat.le_refl _⟩ rfl rfl (Nat.le_of_ble_eq_true rfl) rfl rfl rfl ?_
  refine cx_aload_n C dL_law_1066 2 rfl ?_
  refine cx_aload_n C dL_law_1067 0 rfl ?_
  refine cx_iload_n C dL_law_1068 3 rfl ?_
  refine cx_iconst (v := 1) C dL_law_1069 (by decide) ?_
  refine cx_iadd C dL_law_1070 ?_
  refine cx_sld C hX hbl hbA dL_law_1071 (law_in (j := 1) hL hlt (by decide)) ?_
  refine cx_aload_n C dL_law_1072 0 rfl ?_
  refine cx_iload_n C dL_law_1073 3 rfl ?_
  refine cx_iconst (v := 2) C dL_law_1074 (by decide) ?_
  refine cx_iadd C dL_law_1075 ?_
  refine cx_sld C hX hbl hbA dL_law_1076 (law_in (j := 2) hL hlt (by decide)) ?_
  refine cx_LRi (q := (RX9, TX9, 24)) (As := [.int (xs (cx_ix (nI i + 1))), .int (xs (cx_ix (nI i + 2)))]) (rest := [.int y1.1]) (w1 := (wM k V (cx_sI (cx_sI (cx_sI (cx_sI (cx_sI (cx_sZ (cx_sZ (cx_sZ (cx_sZ (cx_sZ τ 7 y2.2.1) 8 y2.2.2.1) 9 y2.2.2.2.1) 10 y2.2.2.2.2.1) 11 y2.2.2.2.2.2.1) 0 y2.2.2.2.2.2.2.1) 1 y2.2.2.2.2.2.2.2.1) 6 y2.2.2.2.2.2.2.2.2.1) 9 y2.2.2.2.2.2.2.2.2.2.1) 10 y2.2.2.2.2.2.2.2.2.2.2))) hA C me_X9_ahead hw_1441 (c_X9_ahead l D k V (τ.1 0) (τ.1 1) (τ.1 2) (τ.1 3) (τ.1 4) (τ.1 5) (τ.1 6) (τ.2.2 0) (τ.1 7) (τ.2.2 1) (τ.2.2 2) (τ.2.2 3) (τ.2.2 4) (τ.2.2 5) (τ.1 8) (τ.2.2 6) (τ.1 9) (τ.1 10) (τ.2.2 7) (τ.2.2 8) (τ.2.2 9) (τ.2.2 10) (τ.2.2 11) (τ.1 11) (xs (cx_ix (nI i + 1))) (xs (cx_ix (nI i + 2))) y2 e2) dL_law_1077 ⟨(Nat.le_of_ble_eq_true rfl), (Nat.le_of_ble_eq_true rfl)⟩ ⟨Nat.le_refl _, Nat.le_refl _⟩ rfl rfl (Nat.le_of_ble_eq_true rfl) rfl rfl rfl ?_
  refine cx_icmp_eq (tgt := 1362) C dL_law_1080 (by decide) (fun _ => ?_) (fun q => absurd e3 q)
  exact hN _ _ hI
set_option maxHeartbeats 4000000 in
set_option maxRecDepth 100000 in
theorem law_c27 (i : Nat) (σ τ : cx_St) (hL : L ≤ 384) (hlt : i + 6 ≤ L) (ho : ob_parts Inv) (hv : Inv σ τ) (hA : A = va_A [] s.heap.size) (C : cx_C p s m #[Value.ref b] c code 4 "NamelessBoxLaw" D k) (hE : cx_E te adK adV A s s.heap) (hX : va_X b L xs s s.heap) (hbl : b < s.heap.size) (hbA : ¬ A b) (hN : ∀ σ τ : cx_St, Inv σ τ → cx_S p l e room_1 s m #[Value.ref b] below meth c A D 4 600000 7302249 (lw_Z below #[Value.ref b] s) 1362 [(0, .ref b), (1, .ref (U 0 0)), (2, .ref (V 0)), (3, .int (nI i))] [] (wN k U σ ++ wM k V τ)) : cx_S p l e room_1 s m #[Value.ref b] below meth c A D 4 600000 7302249 (lw_Z below #[Value.ref b] s) 1085 [(0, .ref b), (1, .ref (U 0 0)), (2, .ref (V 0)), (3, .int (nI i))] [] (wN k U σ ++ wM k V τ) := by
  obtain ⟨y1, y2, e1, e2, e3, hI⟩ := ho σ τ (xs (cx_ix (nI i + 1))) (xs (cx_ix (nI i + 2))) hv
  refine cx_aload_n C dL_law_1085 1 rfl ?_
  refine cx_aload_n C dL_law_1086 0 rfl ?_
  refine cx_iload_n C dL_law_1087 3 rfl ?_
  refine cx_iconst (v := 1) C dL_law_1088 (by decide) ?_
  refine cx_iadd C dL_law_1089 ?_
  refine cx_sld C hX hbl hbA dL_law_1090 (law_in (j := 1) hL hlt (by decide)) ?_
  refine cx_aload_n C dL_law_1091 0 rfl ?_
  refine cx_iload_n C dL_law_1092 3 rfl ?_
  refine cx_iconst (v := 2) C dL_law_1093 (by decide) ?_
  refine cx_iadd C dL_law_1094 ?_
  refine cx_sld C hX hbl hbA dL_law_1095 (law_in (j := 2) hL hlt (by decide)) ?_
  refine cx_LLi (q := (RX8, TX8, 12)) (As := [.int (xs (cx_ix (nI i + 1))), .int (xs (cx_ix (nI i + 2)))]) (rest := []) (w1 := (wN k U (cx_sI σ 1 y1.2))) hA C me_X8_parts hw_915 (c_X8_parts l D k (U 0) (U 1) (U 2) (U 3) (U 4) (U 5) (U 6) (U 7) (U 8) (U 9) (U 10) (U 11) (σ.1 0) (σ.1 1) (σ.2.2 0) (σ.1 2) (σ.2.2 1) (σ.1 3) (σ.2.2 2) (σ.1 4) (σ.2.2 3) (σ.1 5) (σ.2.2 4) (σ.1 6) (σ.2.2 5) (σ.2.2 6) (σ.1 7) (σ.2.2 7) (σ.1 8) (σ.2.2 8) (σ.1 9) (σ.2.2 9) (σ.1 10) (σ.2.2 10) (σ.1 11) (σ.2.2 11) (σ.2.2 12) (σ.1 12) (σ.2.2 13) (σ.1 13) (σ.2.2 14) (σ.1 14) (σ.2.2 15) (σ.1 15) (σ.2.2 16) (σ.1 16) (σ.2.2 17) (σ.2.2 18) (σ.1 17) (σ.2.2 19) (σ.1 18) (σ.2.2 20) (σ.1 19) (σ.2.2 21) (σ.1 20) (σ.2.2 22) (σ.1 21) (σ.2.2 23) (σ.2.2 24) (σ.1 22) (σ.2.2 25) (σ.2.2 26) (σ.2.2 27) (σ.2.2 28) (σ.1 23) (σ.2.1 0) (σ.2.1 1) (σ.2.1 2) (σ.2.1 3) (σ.2.2 29) (σ.2.2 30) (σ.2.2 31) (σ.2.2 32) (σ.2.2 33) (σ.1 24) (σ.1 25) (σ.1 26) (σ.1 27) (σ.1 28) (σ.1 29) (σ.1 30) (σ.1 31) (σ.2.1 4) (σ.2.1 5) (σ.2.1 6) (σ.1 32) (σ.2.2 34) (σ.2.2 35) (σ.2.2 36) (σ.2.2 37) (σ.2.2 38) (σ.1 33) (σ.1 34) (σ.1 35) (σ.1 36) (σ.1 37) (σ.1 38) (σ.1 39) (σ.1 40) (σ.2.1 7) (σ.2.1 8) (σ.2.1 9) (σ.1 41) (σ.2.1 10) (σ.2.1 11) (σ.2.1 12) (σ.2.1 13) (σ.1 42) (σ.2.1 14) (σ.2.1 15) (σ.2.1 16) (σ.2.1 17) (σ.2.2 39) (σ.2.2 40) (σ.2.1 18) (σ.2.1 19) (σ.2.1 20) (σ.2.1 21) (σ.1 43) (σ.2.1 22) (σ.2.1 23) (σ.2.1 24) (σ.2.1 25) (σ.2.2 41) (σ.2.2 42) (σ.2.1 26) (σ.2.1 27) (σ.2.1 28) (σ.2.1 29) (σ.2.1 30) (σ.2.1 31) (xs (cx_ix (nI i + 1))) (xs (cx_ix (nI i + 2))) y1 e1) dL_law_1096 ⟨(Nat.le_of_ble_eq_true rfl), (Nat.le_of_ble_eq_true rfl)⟩ ⟨Nat.le_refl _, Nat.le_refl _⟩ rfl rfl (Nat.le_of_ble_eq_true rfl) rfl rfl rfl ?_
  refine cx_aload_n C dL_law_1099 2 rfl ?_
  refine cx_aload_n C dL_law_1100 0 rfl ?_
  refine cx_iload_n C dL_law_1101 3 rfl ?_
  refine cx_iconst (v := 1) C dL_law_1102 (by decide) ?_
  refine cx_iadd C dL_law_1103 ?_
  refine cx_sld C hX hbl hbA dL_law_1104 (law_in (j := 1) hL hlt (by decide)) ?_
  refine cx_aload_n C dL_law_1105 0 rfl ?_
  refine cx_iload_n C dL_law_1106 3 rfl ?_
  refine cx_iconst (v := 2) C dL_law_1107 (by decide) ?_
  refine cx_iadd C dL_law_1108 ?_
  refine cx_sld C hX hbl hbA dL_law_1109 (law_in (j := 2) hL hlt (by decide)) ?_
  refine cx_LRi (q := (RX9, TX9, 24)) (As := [.int (xs (cx_ix (nI i + 1))), .int (xs (cx_ix (nI i + 2)))]) (rest := [.int y1.1]) (w1 := (wM k V (cx_sI τ 6 y2.2))) hA C me_X9_parts hw_1445 (c_X9_parts l D k V (τ.1 0) (τ.1 1) (τ.1 2) (τ.1 3) (τ.1 4) (τ.1 5) (τ.1 6) (τ.2.2 0) (τ.1 7) (τ.2.2 1) (τ.2.2 2) (τ.2.2 3) (τ.2.2 4) (τ.2.2 5) (τ.1 8) (τ.2.2 6) (τ.1 9) (τ.1 10) (τ.2.2 7) (τ.2.2 8) (τ.2.2 9) (τ.2.2 10) (τ.2.2 11) (τ.1 11) (xs (cx_ix (nI i + 1))) (xs (cx_ix (nI i + 2))) y2 e2) dL_law_1110 ⟨(Nat.le_of_ble_eq_true rfl), (Nat.le_of_ble_eq_true rfl)⟩ ⟨Nat.le_refl _, Nat.le_refl _⟩ rfl rfl (Nat.le_of_ble_eq_true rfl) rfl rfl rfl ?_
  refine cx_icmp_eq (tgt := 1362) C dL_law_1113 (by decide) (fun _ => ?_) (fun q => absurd e3 q)
  exact hN _ _ hI
set_option maxHeartbeats 4000000 in
set_option maxRecDepth 100000 in
theorem law_c28 (i : Nat) (σ τ : cx_St) (hL : L ≤ 384) (hlt : i + 6 ≤ L) (ho : ob_doubt Inv) (hv : Inv σ τ) (hA : A = va_A [] s.heap.size) (C : cx_C p s m #[Value.ref b] c code 4 "NamelessBoxLaw" D k) (hE : cx_E te adK adV A s s.heap) (hX : va_X b L xs s s.heap) (hbl : b < s.heap.size) (hbA : ¬ A b) (hN : ∀ σ τ : cx_St, Inv σ τ → cx_S p l e room_1 s m #[Value.ref b] below meth c A D 4 600000 7302249 (lw_Z below #[Value.ref b] s) 1362 [(0, .ref b), (1, .ref (U 0 0)), (2, .ref (V 0)), (3, .int (nI i))] [] (wN k U σ ++ wM k V τ)) : cx_S p l e room_1 s m #[Value.ref b] below meth c A D 4 600000 7302249 (lw_Z below #[Value.ref b] s) 1118 [(0, .ref b), (1, .ref (U 0 0)), (2, .ref (V 0)), (3, .int (nI i))] [] (wN k U σ ++ wM k V τ) := by
  obtain ⟨y1, y2, e1, e2, e3, hI⟩ := ho σ τ (xs (cx_ix (nI i + 1))) (xs (cx_ix (nI i + 2))) hv
  refine cx_aload_n C dL_law_1118 1 rfl ?_
  refine cx_aload_n C dL_law_1119 0 rfl ?_
  refine cx_iload_n C dL_law_1120 3 rfl ?_
  refine cx_iconst (v := 1) C dL_law_1121 (by decide) ?_
  refine cx_iadd C dL_law_1122 ?_
  refine cx_sld C hX hbl hbA dL_law_1123 (law_in (j := 1) hL hlt (by decide)) ?_
  refine cx_aload_n C dL_law_1124 0 rfl ?_
  refine cx_iload_n C dL_law_1125 3 rfl ?_
  refine cx_iconst (v := 2) C dL_law_1126 (by decide) ?_
  refine cx_iadd C dL_law_1127 ?_
  refine cx_sld C hX hbl hbA dL_law_1128 (law_in (j := 2) hL hlt (by decide)) ?_
  refine cx_LLi (q := (RX8, TX8, 12)) (As := [.int (xs (cx_ix (nI i + 1))), .int (xs (cx_ix (nI i + 2)))]) (rest := []) (w1 := (wN k U (cx_sL (cx_sL (cx_sI (cx_sL (cx_sL (cx_sL (cx_sL (cx_sZ (cx_sZ (cx_sI (cx_sL (cx_sL (cx_sL (cx_sI (cx_sI (cx_sI (cx_sI (cx_sI (cx_sI (cx_sI (cx_sI (cx_sZ (cx_sZ (cx_sZ (cx_sZ (cx_sZ (cx_sI (cx_sZ σ 0 y1.2.1) 1 y1.2.2.1) 29 y1.2.2.2.1) 30 y1.2.2.2.2.1) 31 y1.2.2.2.2.2.1) 32 y1.2.2.2.2.2.2.1) 33 y1.2.2.2.2.2.2.2.1) 24 y1.2.2.2.2.2.2.2.2.1) 25 y1.2.2.2.2.2.2.2.2.2.1) 26 y1.2.2.2.2.2.2.2.2.2.2.1) 27 y1.2.2.2.2.2.2.2.2.2.2.2.1) 28 y1.2.2.2.2.2.2.2.2.2.2.2.2.1) 29 y1.2.2.2.2.2.2.2.2.2.2.2.2.2.1) 30 y1.2.2.2.2.2.2.2.2.2.2.2.2.2.2.1) 31 y1.2.2.2.2.2.2.2.2.2.2.2.2.2.2.2.1) 4 y1.2.2.2.2.2.2.2.2.2.2.2.2.2.2.2.2.1) 5 y1.2.2.2.2.2.2.2.2.2.2.2.2.2.2.2.2.2.1) 6 y1.2.2.2.2.2.2.2.2.2.2.2.2.2.2.2.2.2.2.1) 32 y1.2.2.2.2.2.2.2.2.2.2.2.2.2.2.2.2.2.2.2.1) 39 y1.2.2.2.2.2.2.2.2.2.2.2.2.2.2.2.2.2.2.2.2.1) 40 y1.2.2.2.2.2.2.2.2.2.2.2.2.2.2.2.2.2.2.2.2.2.1) 10 y1.2.2.2.2.2.2.2.2.2.2.2.2.2.2.2.2.2.2.2.2.2.2.1) 11 y1.2.2.2.2.2.2.2.2.2.2.2.2.2.2.2.2.2.2.2.2.2.2.2.1) 12 y1.2.2.2.2.2.2.2.2.2.2.2.2.2.2.2.2.2.2.2.2.2.2.2.2.1) 13 y1.2.2.2.2.2.2.2.2.2.2.2.2.2.2.2.2.2.2.2.2.2.2.2.2.2.1) 42 y1.2.2.2.2.2.2.2.2.2.2.2.2.2.2.2.2.2.2.2.2.2.2.2.2.2.2.1) 14 y1.2.2.2.2.2.2.2.2.2.2.2.2.2.2.2.2.2.2.2.2.2.2.2.2.2.2.2.1) 16 y1.2.2.2.2.2.2.2.2.2.2.2.2.2.2.2.2.2.2.2.2.2.2.2.2.2.2.2.2))) hA C me_X8_doubt hw_923 (c_X8_doubt l D k (U 0) (U 1) (U 2) (U 3) (U 4) (U 5) (U 6) (U 7) (U 8) (U 9) (U 10) (U 11) (σ.1 0) (σ.1 1) (σ.2.2 0) (σ.1 2) (σ.2.2 1) (σ.1 3) (σ.2.2 2) (σ.1 4) (σ.2.2 3) (σ.1 5) (σ.2.2 4) (σ.1 6) (σ.2.2 5) (σ.2.2 6) (σ.1 7) (σ.2.2 7) (σ.1 8) (σ.2.2 8) (σ.1 9) (σ.2.2 9) (σ.1 10) (σ.2.2 10) (σ.1 11) (σ.2.2 11) (σ.2.2 12) (σ.1 12) (σ.2.2 13) (σ.1 13) (σ.2.2 14) (σ.1 14) (σ.2.2 15) (σ.1 15) (σ.2.2 16) (σ.1 16) (σ.2.2 17) (σ.2.2 18) (σ.1 17) (σ.2.2 19) (σ.1 18) (σ.2.2 20) (σ.1 19) (σ.2.2 21) (σ.1 20) (σ.2.2 22) (σ.1 21) (σ.2.2 23) (σ.2.2 24) (σ.1 22) (σ.2.2 25) (σ.2.2 26) (σ.2.2 27) (σ.2.2 28) (σ.1 23) (σ.2.1 0) (σ.2.1 1) (σ.2.1 2) (σ.2.1 3) (σ.2.2 29) (σ.2.2 30) (σ.2.2 31) (σ.2.2 32) (σ.2.2 33) (σ.1 24) (σ.1 25) (σ.1 26) (σ.1 27) (σ.1 28) (σ.1 29) (σ.1 30) (σ.1 31) (σ.2.1 4) (σ.2.1 5) (σ.2.1 6) (σ.1 32) (σ.2.2 34) (σ.2.2 35) (σ.2.2 36) (σ.2.2 37) (σ.2.2 38) (σ.1 33) (σ.1 34) (σ.1 35) (σ.1 36) (σ.1 37) (σ.1 38) (σ.1 39) (σ.1 40) (σ.2.1 7) (σ.2.1 8) (σ.2.1 9) (σ.1 41) (σ.2.1 10) (σ.2.1 11) (σ.2.1 12) (σ.2.1 13) (σ.1 42) (σ.2.1 14) (σ.2.1 15) (σ.2.1 16) (σ.2.1 17) (σ.2.2 39) (σ.2.2 40) (σ.2.1 18) (σ.2.1 19) (σ.2.1 20) (σ.2.1 21) (σ.1 43) (σ.2.1 22) (σ.2.1 23) (σ.2.1 24) (σ.2.1 25) (σ.2.2 41) (σ.2.2 42) (σ.2.1 26) (σ.2.1 27) (σ.2.1 28) (σ.2.1 29) (σ.2.1 30) (σ.2.1 31) (xs (cx_ix (nI i + 1))) (xs (cx_ix (nI i + 2))) y1 e1) dL_law_1129 ⟨(Nat.le_of_ble_eq_true rfl), (Nat.le_of_ble_eq_true rfl)⟩ ⟨Nat.le_refl _, Nat.le_refl _⟩ rfl rfl (Nat.le_of_ble_eq_true rfl) rfl rfl rfl ?_
  refine cx_aload_n C dL_law_1132 2 rfl ?_
  refine cx_aload_n C dL_law_1133 0 rfl ?_
  refine cx_iload_n C dL_law_1134 3 rfl ?_
  refine cx_iconst (v := 1) C dL_law_1135 (by decide) ?_
  refine cx_iadd C dL_law_1136 ?_
  refine cx_sld C hX hbl hbA dL_law_1137 (law_in (j := 1) hL hlt (by decide)) ?_
  refine cx_aload_n C dL_law_1138 0 rfl ?_
  refine cx_iload_n C dL_law_1139 3 rfl ?_
  refine cx_iconst (v := 2) C dL_law_1140 (by decide) ?_
  refine cx_iadd C dL_law_1141 ?_
  refine cx_sld C hX hbl hbA dL_law_1142 (law_in (j := 2) hL hlt (by decide)) ?_
  refine cx_LRi (q := (RX9, TX9, 24)) (As := [.int (xs (cx_ix (nI i + 1))), .int (xs (cx_ix (nI i + 2)))]) (rest := [.int y1.1]) (w1 := (wM k V (cx_sI (cx_sI (cx_sI (cx_sI (cx_sI (cx_sZ (cx_sZ (cx_sZ τ 7 y2.2.1) 8 y2.2.2.1) 10 y2.2.2.2.1) 0 y2.2.2.2.2.1) 1 y2.2.2.2.2.2.1) 6 y2.2.2.2.2.2.2.1) 9 y2.2.2.2.2.2.2.2.1) 10 y2.2.2.2.2.2.2.2.2))) hA C me_X9_doubt hw_1449 (c_X9_doubt l D k V (τ.1 0) (τ.1 1) (τ.1 2) (τ.1 3) (τ.1 4) (τ.1 5) (τ.1 6) (τ.2.2 0) (τ.1 7) (τ.2.2 1) (τ.2.2 2) (τ.2.2 3) (τ.2.2 4) (τ.2.2 5) (τ.1 8) (τ.2.2 6) (τ.1 9) (τ.1 10) (τ.2.2 7) (τ.2.2 8) (τ.2.2 9) (τ.2.2 10) (τ.2.2 11) (τ.1 11) (xs (cx_ix (nI i + 1))) (xs (cx_ix (nI i + 2))) y2 e2) dL_law_1143 ⟨(Nat.le_of_ble_eq_true rfl), (Nat.le_of_ble_eq_true rfl)⟩ ⟨Nat.le_refl _, Nat.le_refl _⟩ rfl rfl (Nat.le_of_ble_eq_true rfl) rfl rfl rfl ?_
  refine cx_icmp_eq (tgt := 1362) C dL_law_1146 (by decide) (fun _ => ?_) (fun q => absurd e3 q)
  exact hN _ _ hI
set_option maxHeartbeats 4000000 in
set_option maxRecDepth 100000 in
theorem law_c29 (i : Nat) (σ τ : cx_St) (hL : L ≤ 384) (hlt : i + 6 ≤ L) (ho : ob_right Inv) (hv : Inv σ τ) (hA : A = va_A [] s.heap.size) (C : cx_C p s m #[Value.ref b] c code 4 "NamelessBoxLaw" D k) (hE : cx_E te adK adV A s s.heap) (hX : va_X b L xs s s.heap) (hbl : b < s.heap.size) (hbA : ¬ A b) (hN : ∀ σ τ : cx_St, Inv σ τ → cx_S p l e room_1 s m #[Value.ref b] below meth c A D 4 600000 7302249 (lw_Z below #[Value.ref b] s) 1362 [(0, .ref b), (1, .ref (U 0 0)), (2, .ref (V 0)), (3, .int (nI i))] [] (wN k U σ ++ wM k V τ)) : cx_S p l e room_1 s m #[Value.ref b] below meth c A D 4 600000 7302249 (lw_Z below #[Value.ref b] s) 1151 [(0, .ref b), (1, .ref (U 0 0)), (2, .ref (V 0)), (3, .int (nI i))] [] (wN k U σ ++ wM k V τ) := by
  obtain ⟨y1, y2, e1, e2, e3, hI⟩ := ho σ τ  hv
  refine cx_aload_n C dL_law_1151 1 rfl ?_
  refine cx_LLi (q := (RX8, TX8, 12)) (As := []) (rest := []) (w1 := (wN k U (cx_sL (cx_sL (cx_sI (cx_sL (cx_sL (cx_sL (cx_sL (cx_sZ (cx_sZ (cx_sI (cx_sL (cx_sL (cx_sL (cx_sI (cx_sI (cx_sI (cx_sI (cx_sI (cx_sI (cx_sI (cx_sI (cx_sZ (cx_sZ (cx_sZ (cx_sZ (cx_sZ (cx_sL (cx_sL (cx_sL (cx_sL (cx_sI (cx_sZ σ 0 y1.2.1) 1 y1.2.2.1) 0 y1.2.2.2.1) 1 y1.2.2.2.2.1) 2 y1.2.2.2.2.2.1) 3 y1.2.2.2.2.2.2.1) 29 y1.2.2.2.2.2.2.2.1) 30 y1.2.2.2.2.2.2.2.2.1) 31 y1.2.2.2.2.2.2.2.2.2.1) 32 y1.2.2.2.2.2.2.2.2.2.2.1) 33 y1.2.2.2.2.2.2.2.2.2.2.2.1) 24 y1.2.2.2.2.2.2.2.2.2.2.2.2.1) 25 y1.2.2.2.2.2.2.2.2.2.2.2.2.2.1) 26 y1.2.2.2.2.2.2.2.2.2.2.2.2.2.2.1) 27 y1.2.2.2.2.2.2.2.2.2.2.2.2.2.2.2.1) 28 y1.2.2.2.2.2.2.2.2.2.2.2.2.2.2.2.2.1) 29 y1.2.2.2.2.2.2.2.2.2.2.2.2.2.2.2.2.2.1) 30 y1.2.2.2.2.2.2.2.2.2.2.2.2.2.2.2.2.2.2.1) 31 y1.2.2.2.2.2.2.2.2.2.2.2.2.2.2.2.2.2.2.2.1) 4 y1.2.2.2.2.2.2.2.2.2.2.2.2.2.2.2.2.2.2.2.2.1) 5 y1.2.2.2.2.2.2.2.2.2.2.2.2.2.2.2.2.2.2.2.2.2.1) 6 y1.2.2.2.2.2.2.2.2.2.2.2.2.2.2.2.2.2.2.2.2.2.2.1) 32 y1.2.2.2.2.2.2.2.2.2.2.2.2.2.2.2.2.2.2.2.2.2.2.2.1) 39 y1.2.2.2.2.2.2.2.2.2.2.2.2.2.2.2.2.2.2.2.2.2.2.2.2.1) 40 y1.2.2.2.2.2.2.2.2.2.2.2.2.2.2.2.2.2.2.2.2.2.2.2.2.2.1) 10 y1.2.2.2.2.2.2.2.2.2.2.2.2.2.2.2.2.2.2.2.2.2.2.2.2.2.2.1) 11 y1.2.2.2.2.2.2.2.2.2.2.2.2.2.2.2.2.2.2.2.2.2.2.2.2.2.2.2.1) 12 y1.2.2.2.2.2.2.2.2.2.2.2.2.2.2.2.2.2.2.2.2.2.2.2.2.2.2.2.2.1) 13 y1.2.2.2.2.2.2.2.2.2.2.2.2.2.2.2.2.2.2.2.2.2.2.2.2.2.2.2.2.2.1) 42 y1.2.2.2.2.2.2.2.2.2.2.2.2.2.2.2.2.2.2.2.2.2.2.2.2.2.2.2.2.2.2.1) 14 y1.2.2.2.2.2.2.2.2.2.2.2.2.2.2.2.2.2.2.2.2.2.2.2.2.2.2.2.2.2.2.2.1) 15 y1.2.2.2.2.2.2.2.2.2.2.2.2.2.2.2.2.2.2.2.2.2.2.2.2.2.2.2.2.2.2.2.2))) hA C me_X8_right hw_931 (c_X8_right l D k (U 0) (U 1) (U 2) (U 3) (U 4) (U 5) (U 6) (U 7) (U 8) (U 9) (U 10) (U 11) (σ.1 0) (σ.1 1) (σ.2.2 0) (σ.1 2) (σ.2.2 1) (σ.1 3) (σ.2.2 2) (σ.1 4) (σ.2.2 3) (σ.1 5) (σ.2.2 4) (σ.1 6) (σ.2.2 5) (σ.2.2 6) (σ.1 7) (σ.2.2 7) (σ.1 8) (σ.2.2 8) (σ.1 9) (σ.2.2 9) (σ.1 10) (σ.2.2 10) (σ.1 11) (σ.2.2 11) (σ.2.2 12) (σ.1 12) (σ.2.2 13) (σ.1 13) (σ.2.2 14) (σ.1 14) (σ.2.2 15) (σ.1 15) (σ.2.2 16) (σ.1 16) (σ.2.2 17) (σ.2.2 18) (σ.1 17) (σ.2.2 19) (σ.1 18) (σ.2.2 20) (σ.1 19) (σ.2.2 21) (σ.1 20) (σ.2.2 22) (σ.1 21) (σ.2.2 23) (σ.2.2 24) (σ.1 22) (σ.2.2 25) (σ.2.2 26) (σ.2.2 27) (σ.2.2 28) (σ.1 23) (σ.2.1 0) (σ.2.1 1) (σ.2.1 2) (σ.2.1 3) (σ.2.2 29) (σ.2.2 30) (σ.2.2 31) (σ.2.2 32) (σ.2.2 33) (σ.1 24) (σ.1 25) (σ.1 26) (σ.1 27) (σ.1 28) (σ.1 29) (σ.1 30) (σ.1 31) (σ.2.1 4) (σ.2.1 5) (σ.2.1 6) (σ.1 32) (σ.2.2 34) (σ.2.2 35) (σ.2.2 36) (σ.2.2 37) (σ.2.2 38) (σ.1 33) (σ.1 34) (σ.1 35) (σ.1 36) (σ.1 37) (σ.1 38) (σ.1 39) (σ.1 40) (σ.2.1 7) (σ.2.1 8) (σ.2.1 9) (σ.1 41) (σ.2.1 10) (σ.2.1 11) (σ.2.1 12) (σ.2.1 13) (σ.1 42) (σ.2.1 14) (σ.2.1 15) (σ.2.1 16) (σ.2.1 17) (σ.2.2 39) (σ.2.2 40) (σ.2.1 18) (σ.2.1 19) (σ.2.1 20) (σ.2.1 21) (σ.1 43) (σ.2.1 22) (σ.2.1 23) (σ.2.1 24) (σ.2.1 25) (σ.2.2 41) (σ.2.2 42) (σ.2.1 26) (σ.2.1 27) (σ.2.1 28) (σ.2.1 29) (σ.2.1 30) (σ.2.1 31) y1 e1) dL_law_1152 ⟨(Nat.le_of_ble_eq_true rfl), (Nat.le_of_ble_eq_true rfl)⟩ ⟨Nat.le_refl _, Nat.le_refl _⟩ rfl rfl (Nat.le_of_ble_eq_true rfl) rfl rfl rfl ?_
  refine cx_aload_n C dL_law_1155 2 rfl ?_
  refine cx_LRi (q := (RX9, TX9, 24)) (As := []) (rest := [.int y1.1]) (w1 := (wM k V (cx_sI (cx_sI (cx_sI (cx_sI (cx_sI (cx_sZ (cx_sZ (cx_sZ τ 7 y2.2.1) 8 y2.2.2.1) 10 y2.2.2.2.1) 0 y2.2.2.2.2.1) 1 y2.2.2.2.2.2.1) 6 y2.2.2.2.2.2.2.1) 9 y2.2.2.2.2.2.2.2.1) 10 y2.2.2.2.2.2.2.2.2))) hA C me_X9_right hw_1453 (c_X9_right l D k V (τ.1 0) (τ.1 1) (τ.1 2) (τ.1 3) (τ.1 4) (τ.1 5) (τ.1 6) (τ.2.2 0) (τ.1 7) (τ.2.2 1) (τ.2.2 2) (τ.2.2 3) (τ.2.2 4) (τ.2.2 5) (τ.1 8) (τ.2.2 6) (τ.1 9) (τ.1 10) (τ.2.2 7) (τ.2.2 8) (τ.2.2 9) (τ.2.2 10) (τ.2.2 11) (τ.1 11) y2 e2) dL_law_1156 ⟨(Nat.le_of_ble_eq_true rfl), (Nat.le_of_ble_eq_true rfl)⟩ ⟨Nat.le_refl _, Nat.le_refl _⟩ rfl rfl (Nat.le_of_ble_eq_true rfl) rfl rfl rfl ?_
  refine cx_icmp_eq (tgt := 1362) C dL_law_1159 (by decide) (fun _ => ?_) (fun q => absurd e3 q)
  exact hN _ _ hI
set_option maxHeartbeats 4000000 in
set_option maxRecDepth 100000 in
theorem law_c30 (i : Nat) (σ τ : cx_St) (hL : L ≤ 384) (hlt : i + 6 ≤ L) (ho : ob_ask Inv) (hv : Inv σ τ) (hA : A = va_A [] s.heap.size) (C : cx_C p s m #[Value.ref b] c code 4 "NamelessBoxLaw" D k) (hE : cx_E te adK adV A s s.heap) (hX : va_X b L xs s s.heap) (hbl : b < s.heap.size) (hbA : ¬ A b) (hN : ∀ σ τ : cx_St, Inv σ τ → cx_S p l e room_1 s m #[Value.ref b] below meth c A D 4 600000 7302249 (lw_Z below #[Value.ref b] s) 1362 [(0, .ref b), (1, .ref (U 0 0)), (2, .ref (V 0)), (3, .int (nI i))] [] (wN k U σ ++ wM k V τ)) : cx_S p l e room_1 s m #[Value.ref b] below meth c A D 4 600000 7302249 (lw_Z below #[Value.ref b] s) 1164 [(0, .ref b), (1, .ref (U 0 0)), (2, .ref (V 0)), (3, .int (nI i))] [] (wN k U σ ++ wM k V τ) := by
  obtain ⟨y1, y2, e1, e2, e3, hI⟩ := ho σ τ (xs (cx_ix (nI i + 1))) hv
  refine cx_aload_n C dL_law_1164 1 rfl ?_
  refine cx_aload_n C dL_law_1165 0 rfl ?_
  refine cx_iload_n C dL_law_1166 3 rfl ?_
  refine cx_iconst (v := 1) C dL_law_1167 (by decide) ?_
  refine cx_iadd C dL_law_1168 ?_
  refine cx_sld C hX hbl hbA dL_law_1169 (law_in (j := 1) hL hlt (by decide)) ?_
  refine cx_LLi (q := (RX8, TX8, 12)) (As := [.int (xs (cx_ix (nI i + 1)))]) (rest := []) (w1 := (wN k U (cx_sL (cx_sL (cx_sL (cx_sL (cx_sL (cx_sL (cx_sL (cx_sI (cx_sL (cx_sL (cx_sL (cx_sL (cx_sZ (cx_sZ (cx_sI (cx_sL (cx_sL (cx_sL (cx_sI (cx_sI (cx_sI (cx_sI (cx_sI (cx_sI (cx_sI (cx_sI (cx_sZ (cx_sZ (cx_sZ (cx_sZ (cx_sZ (cx_sL (cx_sL (cx_sL (cx_sL (cx_sI (cx_sZ σ 0 y1.2.1) 1 y1.2.2.1) 0 y1.2.2.2.1) 1 y1.2.2.2.2.1) 2 y1.2.2.2.2.2.1) 3 y1.2.2.2.2.2.2.1) 29 y1.2.2.2.2.2.2.2.1) 30 y1.2.2.2.2.2.2.2.2.1) 31 y1.2.2.2.2.2.2.2.2.2.1) 32 y1.2.2.2.2.2.2.2.2.2.2.1) 33 y1.2.2.2.2.2.2.2.2.2.2.2.1) 24 y1.2.2.2.2.2.2.2.2.2.2.2.2.1) 25 y1.2.2.2.2.2.2.2.2.2.2.2.2.2.1) 26 y1.2.2.2.2.2.2.2.2.2.2.2.2.2.2.1) 27 y1.2.2.2.2.2.2.2.2.2.2.2.2.2.2.2.1) 28 y1.2.2.2.2.2.2.2.2.2.2.2.2.2.2.2.2.1) 29 y1.2.2.2.2.2.2.2.2.2.2.2.2.2.2.2.2.2.1) 30 y1.2.2.2.2.2.2.2.2.2.2.2.2.2.2.2.2.2.2.1) 31 y1.2.2.2.2.2.2.2.2.2.2.2.2.2.2.2.2.2.2.2.1) 4 y1.2.2.2.2.2.2.2.2.2.2.2.2.2.2.2.2.2.2.2.2.1) 5 y1.2.2.2.2.2.2.2.2.2.2.2.2.2.2.2.2.2.2.2.2.2.1) 6 y1.2.2.2.2.2.2.2.2.2.2.2.2.2.2.2.2.2.2.2.2.2.2.1) 32 y1.2.2.2.2.2.2.2.2.2.2.2.2.2.2.2.2.2.2.2.2.2.2.2.1) 39 y1.2.2.2.2.2.2.2.2.2.2.2.2.2.2.2.2.2.2.2.2.2.2.2.2.1) 40 y1.2.2.2.2.2.2.2.2.2.2.2.2.2.2.2.2.2.2.2.2.2.2.2.2.2.1) 10 y1.2.2.2.2.2.2.2.2.2.2.2.2.2.2.2.2.2.2.2.2.2.2.2.2.2.2.1) 11 y1.2.2.2.2.2.2.2.2.2.2.2.2.2.2.2.2.2.2.2.2.2.2.2.2.2.2.2.1) 12 y1.2.2.2.2.2.2.2.2.2.2.2.2.2.2.2.2.2.2.2.2.2.2.2.2.2.2.2.2.1) 13 y1.2.2.2.2.2.2.2.2.2.2.2.2.2.2.2.2.2.2.2.2.2.2.2.2.2.2.2.2.2.1) 42 y1.2.2.2.2.2.2.2.2.2.2.2.2.2.2.2.2.2.2.2.2.2.2.2.2.2.2.2.2.2.2.1) 14 y1.2.2.2.2.2.2.2.2.2.2.2.2.2.2.2.2.2.2.2.2.2.2.2.2.2.2.2.2.2.2.2.1) 15 y1.2.2.2.2.2.2.2.2.2.2.2.2.2.2.2.2.2.2.2.2.2.2.2.2.2.2.2.2.2.2.2.2.1) 26 y1.2.2.2.2.2.2.2.2.2.2.2.2.2.2.2.2.2.2.2.2.2.2.2.2.2.2.2.2.2.2.2.2.2.1) 28 y1.2.2.2.2.2.2.2.2.2.2.2.2.2.2.2.2.2.2.2.2.2.2.2.2.2.2.2.2.2.2.2.2.2.2.1) 29 y1.2.2.2.2.2.2.2.2.2.2.2.2.2.2.2.2.2.2.2.2.2.2.2.2.2.2.2.2.2.2.2.2.2.2.2.1) 30 y1.2.2.2.2.2.2.2.2.2.2.2.2.2.2.2.2.2.2.2.2.2.2.2.2.2.2.2.2.2.2.2.2.2.2.2.2.1) 31 y1.2.2.2.2.2.2.2.2.2.2.2.2.2.2.2.2.2.2.2.2.2.2.2.2.2.2.2.2.2.2.2.2.2.2.2.2.2))) hA C me_X8_ask hw_939 (c_X8_ask l D k (U 0) (U 1) (U 2) (U 3) (U 4) (U 5) (U 6) (U 7) (U 8) (U 9) (U 10) (U 11) (σ.1 0) (σ.1 1) (σ.2.2 0) (σ.1 2) (σ.2.2 1) (σ.1 3) (σ.2.2 2) (σ.1 4) (σ.2.2 3) (σ.1 5) (σ.2.2 4) (σ.1 6) (σ.2.2 5) (σ.2.2 6) (σ.1 7) (σ.2.2 7) (σ.1 8) (σ.2.2 8) (σ.1 9) (σ.2.2 9) (σ.1 10) (σ.2.2 10) (σ.1 11) (σ.2.2 11) (σ.2.2 12) (σ.1 12) (σ.2.2 13) (σ.1 13) (σ.2.2 14) (σ.1 14) (σ.2.2 15) (σ.1 15) (σ.2.2 16) (σ.1 16) (σ.2.2 17) (σ.2.2 18) (σ.1 17) (σ.2.2 19) (σ.1 18) (σ.2.2 20) (σ.1 19) (σ.2.2 21) (σ.1 20) (σ.2.2 22) (σ.1 21) (σ.2.2 23) (σ.2.2 24) (σ.1 22) (σ.2.2 25) (σ.2.2 26) (σ.2.2 27) (σ.2.2 28) (σ.1 23) (σ.2.1 0) (σ.2.1 1) (σ.2.1 2) (σ.2.1 3) (σ.2.2 29) (σ.2.2 30) (σ.2.2 31) (σ.2.2 32) (σ.2.2 33) (σ.1 24) (σ.1 25) (σ.1 26) (σ.1 27) (σ.1 28) (σ.1 29) (σ.1 30) (σ.1 31) (σ.2.1 4) (σ.2.1 5) (σ.2.1 6) (σ.1 32) (σ.2.2 34) (σ.2.2 35) (σ.2.2 36) (σ.2.2 37) (σ.2.2 38) (σ.1 33) (σ.1 34) (σ.1 35) (σ.1 36) (σ.1 37) (σ.1 38) (σ.1 39) (σ.1 40) (σ.2.1 7) (σ.2.1 8) (σ.2.1 9) (σ.1 41) (σ.2.1 10) (σ.2.1 11) (σ.2.1 12) (σ.2.1 13) (σ.1 42) (σ.2.1 14) (σ.2.1 15) (σ.2.1 16) (σ.2.1 17) (σ.2.2 39) (σ.2.2 40) (σ.2.1 18) (σ.2.1 19) (σ.2.1 20) (σ.2.1 21) (σ.1 43) (σ.2.1 22) (σ.2.1 23) (σ.2.1 24) (σ.2.1 25) (σ.2.2 41) (σ.2.2 42) (σ.2.1 26) (σ.2.1 27) (σ.2.1 28) (σ.2.1 29) (σ.2.1 30) (σ.2.1 31) (xs (cx_ix (nI i + 1))) y1 e1) dL_law_1170 ⟨(Nat.le_of_ble_eq_true rfl), (Nat.le_of_ble_eq_true rfl)⟩ ⟨Nat.le_refl _, Nat.le_refl _⟩ rfl rfl (Nat.le_of_ble_eq_true rfl) rfl rfl rfl ?_
  refine cx_aload_n C dL_law_1173 2 rfl ?_
  refine cx_aload_n C dL_law_1174 0 rfl ?_
  refine cx_iload_n C dL_law_1175 3 rfl ?_
  refine cx_iconst (v := 1) C dL_law_1176 (by decide) ?_
  refine cx_iadd C dL_law_1177 ?_
  refine cx_sld C hX hbl hbA dL_law_1178 (law_in (j := 1) hL hlt (by decide)) ?_
  refine cx_LRi (q := (RX9, TX9, 24)) (As := [.int (xs (cx_ix (nI i + 1)))]) (rest := [.int y1.1]) (w1 := (wM k V (cx_sI (cx_sI (cx_sI (cx_sI (cx_sI (cx_sZ (cx_sZ (cx_sZ τ 7 y2.2.1) 8 y2.2.2.1) 10 y2.2.2.2.1) 0 y2.2.2.2.2.1) 1 y2.2.2.2.2.2.1) 6 y2.2.2.2.2.2.2.1) 9 y2.2.2.2.2.2.2.2.1) 10 y2.2.2.2.2.2.2.2.2))) hA C me_X9_ask hw_1461 (c_X9_ask l D k V (τ.1 0) (τ.1 1) (τ.1 2) (τ.1 3) (τ.1 4) (τ.1 5) (τ.1 6) (τ.2.2 0) (τ.1 7) (τ.2.2 1) (τ.2.2 2) (τ.2.2 3) (τ.2.2 4) (τ.2.2 5) (τ.1 8) (τ.2.2 6) (τ.1 9) (τ.1 10) (τ.2.2 7) (τ.2.2 8) (τ.2.2 9) (τ.2.2 10) (τ.2.2 11) (τ.1 11) (xs (cx_ix (nI i + 1))) y2 e2) dL_law_1179 ⟨(Nat.le_of_ble_eq_true rfl), (Nat.le_of_ble_eq_true rfl)⟩ ⟨Nat.le_refl _, Nat.le_refl _⟩ rfl rfl (Nat.le_of_ble_eq_true rfl) rfl rfl rfl ?_
  refine cx_icmp_eq (tgt := 1362) C dL_law_1182 (by decide) (fun _ => ?_) (fun q => absurd e3 q)
  exact hN _ _ hI
set_option maxHeartbeats 4000000 in
set_option maxRecDepth 100000 in
theorem law_c31 (i : Nat) (σ τ : cx_St) (hL : L ≤ 384) (hlt : i + 6 ≤ L) (ho : ob_next Inv) (hv : Inv σ τ) (hA : A = va_A [] s.heap.size) (C : cx_C p s m #[Value.ref b] c code 4 "NamelessBoxLaw" D k) (hE : cx_E te adK adV A s s.heap) (hX : va_X b L xs s s.heap) (hbl : b < s.heap.size) (hbA : ¬ A b) (hN : ∀ σ τ : cx_St, Inv σ τ → cx_S p l e room_1 s m #[Value.ref b] below meth c A D 4 600000 7302249 (lw_Z below #[Value.ref b] s) 1362 [(0, .ref b), (1, .ref (U 0 0)), (2, .ref (V 0)), (3, .int (nI i))] [] (wN k U σ ++ wM k V τ)) : cx_S p l e room_1 s m #[Value.ref b] below meth c A D 4 600000 7302249 (lw_Z below #[Value.ref b] s) 1187 [(0, .ref b), (1, .ref (U 0 0)), (2, .ref (V 0)), (3, .int (nI i))] [] (wN k U σ ++ wM k V τ) := by
  obtain ⟨y1, y2, e1, e2, e3, hI⟩ := ho σ τ  hv
  refine cx_aload_n C dL_law_1187 1 rfl ?_
  refine cx_LLi (q := (RX8, TX8, 12)) (As := []) (rest := []) (w1 := (wN k U (cx_sL (cx_sL (cx_sL (cx_sL (cx_sL (cx_sL (cx_sL (cx_sL (cx_sI (cx_sL (cx_sL (cx_sL (cx_sL (cx_sZ (cx_sZ (cx_sI (cx_sL (cx_sL (cx_sL (cx_sI (cx_sI (cx_sI (cx_sI (cx_sI (cx_sI (cx_sI (cx_sI (cx_sZ (cx_sZ (cx_sZ (cx_sZ (cx_sZ (cx_sL (cx_sL (cx_sL (cx_sL (cx_sI (cx_sZ σ 0 y1.2.1) 1 y1.2.2.1) 0 y1.2.2.2.1) 1 y1.2.2.2.2.1) 2 y1.2.2.2.2.2.1) 3 y1.2.2.2.2.2.2.1) 29 y1.2.2.2.2.2.2.2.1) 30 y1.2.2.2.2.2.2.2.2.1) 31 y1.2.2.2.2.2.2.2.2.2.1) 32 y1.2.2.2.2.2.2.2.2.2.2.1) 33 y1.2.2.2.2.2.2.2.2.2.2.2.1) 24 y1.2.2.2.2.2.2.2.2.2.2.2.2.1) 25 y1.2.2.2.2.2.2.2.2.2.2.2.2.2.1) 26 y1.2.2.2.2.2.2.2.2.2.2.2.2.2.2.1) 27 y1.2.2.2.2.2.2.2.2.2.2.2.2.2.2.2.1) 28 y1.2.2.2.2.2.2.2.2.2.2.2.2.2.2.2.2.1) 29 y1.2.2.2.2.2.2.2.2.2.2.2.2.2.2.2.2.2.1) 30 y1.2.2.2.2.2.2.2.2.2.2.2.2.2.2.2.2.2.2.1) 31 y1.2.2.2.2.2.2.2.2.2.2.2.2.2.2.2.2.2.2.2.1) 4 y1.2.2.2.2.2.2.2.2.2.2.2.2.2.2.2.2.2.2.2.2.1) 5 y1.2.2.2.2.2.2.2.2.2.2.2.2.2.2.2.2.2.2.2.2.2.1) 6 y1.2.2.2.2.2.2.2.2.2.2.2.2.2.2.2.2.2.2.2.2.2.2.1) 32 y1.2.2.2.2.2.2.2.2.2.2.2.2.2.2.2.2.2.2.2.2.2.2.2.1) 39 y1.2.2.2.2.2.2.2.2.2.2.2.2.2.2.2.2.2.2.2.2.2.2.2.2.1) 40 y1.2.2.2.2.2.2.2.2.2.2.2.2.2.2.2.2.2.2.2.2.2.2.2.2.2.1) 10 y1.2.2.2.2.2.2.2.2.2.2.2.2.2.2.2.2.2.2.2.2.2.2.2.2.2.2.1) 11 y1.2.2.2.2.2.2.2.2.2.2.2.2.2.2.2.2.2.2.2.2.2.2.2.2.2.2.2.1) 12 y1.2.2.2.2.2.2.2.2.2.2.2.2.2.2.2.2.2.2.2.2.2.2.2.2.2.2.2.2.1) 13 y1.2.2.2.2.2.2.2.2.2.2.2.2.2.2.2.2.2.2.2.2.2.2.2.2.2.2.2.2.2.1) 42 y1.2.2.2.2.2.2.2.2.2.2.2.2.2.2.2.2.2.2.2.2.2.2.2.2.2.2.2.2.2.2.1) 14 y1.2.2.2.2.2.2.2.2.2.2.2.2.2.2.2.2.2.2.2.2.2.2.2.2.2.2.2.2.2.2.2.1) 15 y1.2.2.2.2.2.2.2.2.2.2.2.2.2.2.2.2.2.2.2.2.2.2.2.2.2.2.2.2.2.2.2.2.1) 26 y1.2.2.2.2.2.2.2.2.2.2.2.2.2.2.2.2.2.2.2.2.2.2.2.2.2.2.2.2.2.2.2.2.2.1) 27 y1.2.2.2.2.2.2.2.2.2.2.2.2.2.2.2.2.2.2.2.2.2.2.2.2.2.2.2.2.2.2.2.2.2.2.1) 28 y1.2.2.2.2.2.2.2.2.2.2.2.2.2.2.2.2.2.2.2.2.2.2.2.2.2.2.2.2.2.2.2.2.2.2.2.1) 29 y1.2.2.2.2.2.2.2.2.2.2.2.2.2.2.2.2.2.2.2.2.2.2.2.2.2.2.2.2.2.2.2.2.2.2.2.2.1) 30 y1.2.2.2.2.2.2.2.2.2.2.2.2.2.2.2.2.2.2.2.2.2.2.2.2.2.2.2.2.2.2.2.2.2.2.2.2.2.1) 31 y1.2.2.2.2.2.2.2.2.2.2.2.2.2.2.2.2.2.2.2.2.2.2.2.2.2.2.2.2.2.2.2.2.2.2.2.2.2.2))) hA C me_X8_next hw_970 (c_X8_next l D k (U 0) (U 1) (U 2) (U 3) (U 4) (U 5) (U 6) (U 7) (U 8) (U 9) (U 10) (U 11) (σ.1 0) (σ.1 1) (σ.2.2 0) (σ.1 2) (σ.2.2 1) (σ.1 3) (σ.2.2 2) (σ.1 4) (σ.2.2 3) (σ.1 5) (σ.2.2 4) (σ.1 6) (σ.2.2 5) (σ.2.2 6) (σ.1 7) (σ.2.2 7) (σ.1 8) (σ.2.2 8) (σ.1 9) (σ.2.2 9) (σ.1 10) (σ.2.2 10) (σ.1 11) (σ.2.2 11) (σ.2.2 12) (σ.1 12) (σ.2.2 13) (σ.1 13) (σ.2.2 14) (σ.1 14) (σ.2.2 15) (σ.1 15) (σ.2.2 16) (σ.1 16) (σ.2.2 17) (σ.2.2 18) (σ.1 17) (σ.2.2 19) (σ.1 18) (σ.2.2 20) (σ.1 19) (σ.2.2 21) (σ.1 20) (σ.2.2 22) (σ.1 21) (σ.2.2 23) (σ.2.2 24) (σ.1 22) (σ.2.2 25) (σ.2.2 26) (σ.2.2 27) (σ.2.2 28) (σ.1 23) (σ.2.1 0) (σ.2.1 1) (σ.2.1 2) (σ.2.1 3) (σ.2.2 29) (σ.2.2 30) (σ.2.2 31) (σ.2.2 32) (σ.2.2 33) (σ.1 24) (σ.1 25) (σ.1 26) (σ.1 27) (σ.1 28) (σ.1 29) (σ.1 30) (σ.1 31) (σ.2.1 4) (σ.2.1 5) (σ.2.1 6) (σ.1 32) (σ.2.2 34) (σ.2.2 35) (σ.2.2 36) (σ.2.2 37) (σ.2.2 38) (σ.1 33) (σ.1 34) (σ.1 35) (σ.1 36) (σ.1 37) (σ.1 38) (σ.1 39) (σ.1 40) (σ.2.1 7) (σ.2.1 8) (σ.2.1 9) (σ.1 41) (σ.2.1 10) (σ.2.1 11) (σ.2.1 12) (σ.2.1 13) (σ.1 42) (σ.2.1 14) (σ.2.1 15) (σ.2.1 16) (σ.2.1 17) (σ.2.2 39) (σ.2.2 40) (σ.2.1 18) (σ.2.1 19) (σ.2.1 20) (σ.2.1 21) (σ.1 43) (σ.2.1 22) (σ.2.1 23) (σ.2.1 24) (σ.2.1 25) (σ.2.2 41) (σ.2.2 42) (σ.2.1 26) (σ.2.1 27) (σ.2.1 28) (σ.2.1 29) (σ.2.1 30) (σ.2.1 31) y1 e1) dL_law_1188 ⟨(Nat.le_of_ble_eq_true rfl), (Nat.le_of_ble_eq_true rfl)⟩ ⟨Nat.le_refl _, Nat.le_refl _⟩ rfl rfl (Nat.le_of_ble_eq_true rfl) rfl rfl rfl ?_
  refine cx_aload_n C dL_law_1191 2 rfl ?_
  refine cx_LRi (q := (RX9, TX9, 24)) (As := []) (rest := [.int y1.1]) (w1 := (wM k V (cx_sI (cx_sI (cx_sI (cx_sI (cx_sI (cx_sZ (cx_sZ (cx_sZ τ 7 y2.2.1) 8 y2.2.2.1) 10 y2.2.2.2.1) 0 y2.2.2.2.2.1) 1 y2.2.2.2.2.2.1) 6 y2.2.2.2.2.2.2.1) 9 y2.2.2.2.2.2.2.2.1) 10 y2.2.2.2.2.2.2.2.2))) hA C me_X9_next hw_1481 (c_X9_next l D k V (τ.1 0) (τ.1 1) (τ.1 2) (τ.1 3) (τ.1 4) (τ.1 5) (τ.1 6) (τ.2.2 0) (τ.1 7) (τ.2.2 1) (τ.2.2 2) (τ.2.2 3) (τ.2.2 4) (τ.2.2 5) (τ.1 8) (τ.2.2 6) (τ.1 9) (τ.1 10) (τ.2.2 7) (τ.2.2 8) (τ.2.2 9) (τ.2.2 10) (τ.2.2 11) (τ.1 11) y2 e2) dL_law_1192 ⟨(Nat.le_of_ble_eq_true rfl), (Nat.le_of_ble_eq_true rfl)⟩ ⟨Nat.le_refl _, Nat.le_refl _⟩ rfl rfl (Nat.le_of_ble_eq_true rfl) rfl rfl rfl ?_
  refine cx_icmp_eq (tgt := 1362) C dL_law_1195 (by decide) (fun _ => ?_) (fun q => absurd e3 q)
  exact hN _ _ hI
set_option maxHeartbeats 4000000 in
set_option maxRecDepth 100000 in
theorem law_c32 (i : Nat) (σ τ : cx_St) (hL : L ≤ 384) (hlt : i + 6 ≤ L) (ho : ob_sign Inv) (hv : Inv σ τ) (hA : A = va_A [] s.heap.size) (C : cx_C p s m #[Value.ref b] c code 4 "NamelessBoxLaw" D k) (hE : cx_E te adK adV A s s.heap) (hX : va_X b L xs s s.heap) (hbl : b < s.heap.size) (hbA : ¬ A b) (hN : ∀ σ τ : cx_St, Inv σ τ → cx_S p l e room_1 s m #[Value.ref b] below meth c A D 4 600000 7302249 (lw_Z below #[Value.ref b] s) 1362 [(0, .ref b), (1, .ref (U 0 0)), (2, .ref (V 0)), (3, .int (nI i))] [] (wN k U σ ++ wM k V τ)) : cx_S p l e room_1 s m #[Value.ref b] below meth c A D 4 600000 7302249 (lw_Z below #[Value.ref b] s) 1200 [(0, .ref b), (1, .ref (U 0 0)), (2, .ref (V 0)), (3, .int (nI i))] [] (wN k U σ ++ wM k V τ) := by
  obtain ⟨y1, y2, e1, e2, e3, hI⟩ := ho σ τ (xs (cx_ix (nI i + 1))) hv
  refine cx_aload_n C dL_law_1200 1 rfl ?_
  refine cx_aload_n C dL_law_1201 0 rfl ?_
  refine cx_iload_n C dL_law_1202 3 rfl ?_
  refine cx_iconst (v := 1) C dL_law_1203 (by decide) ?_
  refine cx_iadd C dL_law_1204 ?_
  refine cx_sld C hX hbl hbA dL_law_1205 (law_in (j := 1) hL hlt (by decide)) ?_
  refine cx_LLi (q := (RX8, TX8, 12)) (As := [.int (xs (cx_ix (nI i + 1)))]) (rest := []) (w1 := (wN k U (cx_sI σ 1 y1.2))) hA C me_X8_sign hw_979 (c_X8_sign l D k (U 0) (U 1) (U 2) (U 3) (U 4) (U 5) (U 6) (U 7) (U 8) (U 9) (U 10) (U 11) (σ.1 0) (σ.1 1) (σ.2.2 0) (σ.1 2) (σ.2.2 1) (σ.1 3) (σ.2.2 2) (σ.1 4) (σ.2.2 3) (σ.1 5) (σ.2.2 4) (σ.1 6) (σ.2.2 5) (σ.2.2 6) (σ.1 7) (σ.2.2 7) (σ.1 8) (σ.2.2 8) (σ.1 9) (σ.2.2 9) (σ.1 10) (σ.2.2 10) (σ.1 11) (σ.2.2 11) (σ.2.2 12) (σ.1 12) (σ.2.2 13) (σ.1 13) (σ.2.2 14) (σ.1 14) (σ.2.2 15) (σ.1 15) (σ.2.2 16) (σ.1 16) (σ.2.2 17) (σ.2.2 18) (σ.1 17) (σ.2.2 19) (σ.1 18) (σ.2.2 20) (σ.1 19) (σ.2.2 21) (σ.1 20) (σ.2.2 22) (σ.1 21) (σ.2.2 23) (σ.2.2 24) (σ.1 22) (σ.2.2 25) (σ.2.2 26) (σ.2.2 27) (σ.2.2 28) (σ.1 23) (σ.2.1 0) (σ.2.1 1) (σ.2.1 2) (σ.2.1 3) (σ.2.2 29) (σ.2.2 30) (σ.2.2 31) (σ.2.2 32) (σ.2.2 33) (σ.1 24) (σ.1 25) (σ.1 26) (σ.1 27) (σ.1 28) (σ.1 29) (σ.1 30) (σ.1 31) (σ.2.1 4) (σ.2.1 5) (σ.2.1 6) (σ.1 32) (σ.2.2 34) (σ.2.2 35) (σ.2.2 36) (σ.2.2 37) (σ.2.2 38) (σ.1 33) (σ.1 34) (σ.1 35) (σ.1 36) (σ.1 37) (σ.1 38) (σ.1 39) (σ.1 40) (σ.2.1 7) (σ.2.1 8) (σ.2.1 9) (σ.1 41) (σ.2.1 10) (σ.2.1 11) (σ.2.1 12) (σ.2.1 13) (σ.1 42) (σ.2.1 14) (σ.2.1 15) (σ.2.1 16) (σ.2.1 17) (σ.2.2 39) (σ.2.2 40) (σ.2.1 18) (σ.2.1 19) (σ.2.1 20) (σ.2.1 21) (σ.1 43) (σ.2.1 22) (σ.2.1 23) (σ.2.1 24) (σ.2.1 25) (σ.2.2 41) (σ.2.2 42) (σ.2.1 26) (σ.2.1 27) (σ.2.1 28) (σ.2.1 29) (σ.2.1 30) (σ.2.1 31) (xs (cx_ix (nI i + 1))) y1 e1) dL_law_1206 ⟨(Nat.le_of_ble_eq_true rfl), (Nat.le_of_ble_eq_true rfl)⟩ ⟨Nat.le_refl _, Nat.le_refl _⟩ rfl rfl (Nat.le_of_ble_eq_true rfl) rfl rfl rfl ?_
  refine cx_aload_n C dL_law_1209 2 rfl ?_
  refine cx_aload_n C dL_law_1210 0 rfl ?_
  refine cx_iload_n C dL_law_1211 3 rfl ?_
  refine cx_iconst (v := 1) C dL_law_1212 (by decide) ?_
  refine cx_iadd C dL_law_1213 ?_
  refine cx_sld C hX hbl hbA dL_law_1214 (law_in (j := 1) hL hlt (by decide)) ?_
  refine cx_LRi (q := (RX9, TX9, 24)) (As := [.int (xs (cx_ix (nI i + 1)))]) (rest := [.int y1.1]) (w1 := (wM k V (cx_sI τ 6 y2.2))) hA C me_X9_sign hw_1485 (c_X9_sign l D k V (τ.1 0) (τ.1 1) (τ.1 2) (τ.1 3) (τ.1 4) (τ.1 5) (τ.1 6) (τ.2.2 0) (τ.1 7) (τ.2.2 1) (τ.2.2 2) (τ.2.2 3) (τ.2.2 4) (τ.2.2 5) (τ.1 8) (τ.2.2 6) (τ.1 9) (τ.1 10) (τ.2.2 7) (τ.2.2 8) (τ.2.2 9) (τ.2.2 10) (τ.2.2 11) (τ.1 11) (xs (cx_ix (nI i + 1))) y2 e2) dL_law_1215 ⟨(Nat.le_of_ble_eq_true rfl), (Nat.le_of_ble_eq_true rfl)⟩ ⟨Nat.le_refl _, Nat.le_refl _⟩ rfl rfl (Nat.le_of_ble_eq_true rfl) rfl rfl rfl ?_
  refine cx_icmp_eq (tgt := 1362) C dL_law_1218 (by decide) (fun _ => ?_) (fun q => absurd e3 q)
  exact hN _ _ hI
set_option maxHeartbeats 4000000 in
set_option maxRecDepth 100000 in
theorem law_c33 (i : Nat) (σ τ : cx_St) (hL : L ≤ 384) (hlt : i + 6 ≤ L) (ho : ob_limb Inv) (hv : Inv σ τ) (hA : A = va_A [] s.heap.size) (C : cx_C p s m #[Value.ref b] c code 4 "NamelessBoxLaw" D k) (hE : cx_E te adK adV A s s.heap) (hX : va_X b L xs s s.heap) (hbl : b < s.heap.size) (hbA : ¬ A b) (hN : ∀ σ τ : cx_St, Inv σ τ → cx_S p l e room_1 s m #[Value.ref b] below meth c A D 4 600000 7302249 (lw_Z below #[Value.ref b] s) 1362 [(0, .ref b), (1, .ref (U 0 0)), (2, .ref (V 0)), (3, .int (nI i))] [] (wN k U σ ++ wM k V τ)) : cx_S p l e room_1 s m #[Value.ref b] below meth c A D 4 600000 7302249 (lw_Z below #[Value.ref b] s) 1223 [(0, .ref b), (1, .ref (U 0 0)), (2, .ref (V 0)), (3, .int (nI i))] [] (wN k U σ ++ wM k V τ) := by
  obtain ⟨y1, y2, e1, e2, e3, hI⟩ := ho σ τ (xs (cx_ix (nI i + 1))) (xs (cx_ix (nI i + 2))) hv
  refine cx_aload_n C dL_law_1223 1 rfl ?_
  refine cx_aload_n C dL_law_1224 0 rfl ?_
  refine cx_iload_n C dL_law_1225 3 rfl ?_
  refine cx_iconst (v := 1) C dL_law_1226 (by decide) ?_
  refine cx_iadd C dL_law_1227 ?_
  refine cx_sld C hX hbl hbA dL_law_1228 (law_in (j := 1) hL hlt (by decide)) ?_
  refine cx_aload_n C dL_law_1229 0 rfl ?_
  refine cx_iload_n C dL_law_1230 3 rfl ?_
  refine cx_iconst (v := 2) C dL_law_1231 (by decide) ?_
  refine cx_iadd C dL_law_1232 ?_
  refine cx_sld C hX hbl hbA dL_law_1233 (law_in (j := 2) hL hlt (by decide)) ?_
  refine cx_LLi (q := (RX8, TX8, 12)) (As := [.int (xs (cx_ix (nI i + 1))), .int (xs (cx_ix (nI i + 2)))]) (rest := []) (w1 := (wN k U (cx_sI σ 1 y1.2))) hA C me_X8_limb hw_990 (c_X8_limb l D k (U 0) (U 1) (U 2) (U 3) (U 4) (U 5) (U 6) (U 7) (U 8) (U 9) (U 10) (U 11) (σ.1 0) (σ.1 1) (σ.2.2 0) (σ.1 2) (σ.2.2 1) (σ.1 3) (σ.2.2 2) (σ.1 4) (σ.2.2 3) (σ.1 5) (σ.2.2 4) (σ.1 6) (σ.2.2 5) (σ.2.2 6) (σ.1 7) (σ.2.2 7) (σ.1 8) (σ.2.2 8) (σ.1 9) (σ.2.2 9) (σ.1 10) (σ.2.2 10) (σ.1 11) (σ.2.2 11) (σ.2.2 12) (σ.1 12) (σ.2.2 13) (σ.1 13) (σ.2.2 14) (σ.1 14) (σ.2.2 15) (σ.1 15) (σ.2.2 16) (σ.1 16) (σ.2.2 17) (σ.2.2 18) (σ.1 17) (σ.2.2 19) (σ.1 18) (σ.2.2 20) (σ.1 19) (σ.2.2 21) (σ.1 20) (σ.2.2 22) (σ.1 21) (σ.2.2 23) (σ.2.2 24) (σ.1 22) (σ.2.2 25) (σ.2.2 26) (σ.2.2 27) (σ.2.2 28) (σ.1 23) (σ.2.1 0) (σ.2.1 1) (σ.2.1 2) (σ.2.1 3) (σ.2.2 29) (σ.2.2 30) (σ.2.2 31) (σ.2.2 32) (σ.2.2 33) (σ.1 24) (σ.1 25) (σ.1 26) (σ.1 27) (σ.1 28) (σ.1 29) (σ.1 30) (σ.1 31) (σ.2.1 4) (σ.2.1 5) (σ.2.1 6) (σ.1 32) (σ.2.2 34) (σ.2.2 35) (σ.2.2 36) (σ.2.2 37) (σ.2.2 38) (σ.1 33) (σ.1 34) (σ.1 35) (σ.1 36) (σ.1 37) (σ.1 38) (σ.1 39) (σ.1 40) (σ.2.1 7) (σ.2.1 8) (σ.2.1 9) (σ.1 41) (σ.2.1 10) (σ.2.1 11) (σ.2.1 12) (σ.2.1 13) (σ.1 42) (σ.2.1 14) (σ.2.1 15) (σ.2.1 16) (σ.2.1 17) (σ.2.2 39) (σ.2.2 40) (σ.2.1 18) (σ.2.1 19) (σ.2.1 20) (σ.2.1 21) (σ.1 43) (σ.2.1 22) (σ.2.1 23) (σ.2.1 24) (σ.2.1 25) (σ.2.2 41) (σ.2.2 42) (σ.2.1 26) (σ.2.1 27) (σ.2.1 28) (σ.2.1 29) (σ.2.1 30) (σ.2.1 31) (xs (cx_ix (nI i + 1))) (xs (cx_ix (nI i + 2))) y1 e1) dL_law_1234 ⟨(Nat.le_of_ble_eq_true rfl), (Nat.le_of_ble_eq_true rfl)⟩ ⟨Nat.le_refl _, Nat.le_refl _⟩ rfl rfl (Nat.le_of_ble_eq_true rfl) rfl rfl rfl ?_
  refine cx_aload_n C dL_law_1237 2 rfl ?_
  refine cx_aload_n C dL_law_1238 0 rfl ?_
  refine cx_iload_n C dL_law_1239 3 rfl ?_
  refine cx_iconst (v := 1) C dL_law_1240 (by decide) ?_
  refine cx_iadd C dL_law_1241 ?_
  refine cx_sld C hX hbl hbA dL_law_1242 (law_in (j := 1) hL hlt (by decide)) ?_
  refine cx_aload_n C dL_law_1243 0 rfl ?_
  refine cx_iload_n C dL_law_1244 3 rfl ?_
  refine cx_iconst (v := 2) C dL_law_1245 (by decide) ?_
  refine cx_iadd C dL_law_1246 ?_
  refine cx_sld C hX hbl hbA dL_law_1247 (law_in (j := 2) hL hlt (by decide)) ?_
  refine cx_LRi (q := (RX9, TX9, 24)) (As := [.int (xs (cx_ix (nI i + 1))), .int (xs (cx_ix (nI i + 2)))]) (rest := [.int y1.1]) (w1 := (wM k V (cx_sI τ 6 y2.2))) hA C me_X9_limb hw_1493 (c_X9_limb l D k V (τ.1 0) (τ.1 1) (τ.1 2) (τ.1 3) (τ.1 4) (τ.1 5) (τ.1 6) (τ.2.2 0) (τ.1 7) (τ.2.2 1) (τ.2.2 2) (τ.2.2 3) (τ.2.2 4) (τ.2.2 5) (τ.1 8) (τ.2.2 6) (τ.1 9) (τ.1 10) (τ.2.2 7) (τ.2.2 8) (τ.2.2 9) (τ.2.2 10) (τ.2.2 11) (τ.1 11) (xs (cx_ix (nI i + 1))) (xs (cx_ix (nI i + 2))) y2 e2) dL_law_1248 ⟨(Nat.le_of_ble_eq_true rfl), (Nat.le_of_ble_eq_true rfl)⟩ ⟨Nat.le_refl _, Nat.le_refl _⟩ rfl rfl (Nat.le_of_ble_eq_true rfl) rfl rfl rfl ?_
  refine cx_icmp_eq (tgt := 1362) C dL_law_1251 (by decide) (fun _ => ?_) (fun q => absurd e3 q)
  exact hN _ _ hI
set_option maxHeartbeats 4000000 in
set_option maxRecDepth 100000 in
theorem law_c34 (i : Nat) (σ τ : cx_St) (hL : L ≤ 384) (hlt : i + 6 ≤ L) (ho : ob_image Inv) (hv : Inv σ τ) (hA : A = va_A [] s.heap.size) (C : cx_C p s m #[Value.ref b] c code 4 "NamelessBoxLaw" D k) (hE : cx_E te adK adV A s s.heap) (hX : va_X b L xs s s.heap) (hbl : b < s.heap.size) (hbA : ¬ A b) (hN : ∀ σ τ : cx_St, Inv σ τ → cx_S p l e room_1 s m #[Value.ref b] below meth c A D 4 600000 7302249 (lw_Z below #[Value.ref b] s) 1362 [(0, .ref b), (1, .ref (U 0 0)), (2, .ref (V 0)), (3, .int (nI i))] [] (wN k U σ ++ wM k V τ)) : cx_S p l e room_1 s m #[Value.ref b] below meth c A D 4 600000 7302249 (lw_Z below #[Value.ref b] s) 1256 [(0, .ref b), (1, .ref (U 0 0)), (2, .ref (V 0)), (3, .int (nI i))] [] (wN k U σ ++ wM k V τ) := by
  obtain ⟨y1, y2, e1, e2, e3, hI⟩ := ho σ τ (xs (cx_ix (nI i + 1))) hv
  refine cx_aload_n C dL_law_1256 1 rfl ?_
  refine cx_aload_n C dL_law_1257 0 rfl ?_
  refine cx_iload_n C dL_law_1258 3 rfl ?_
  refine cx_iconst (v := 1) C dL_law_1259 (by decide) ?_
  refine cx_iadd C dL_law_1260 ?_
  refine cx_sld C hX hbl hbA dL_law_1261 (law_in (j := 1) hL hlt (by decide)) ?_
  refine cx_LLi (q := (RX8, TX8, 12)) (As := [.int (xs (cx_ix (nI i + 1)))]) (rest := []) (w1 := (wN k U (cx_sI (cx_sZ (cx_sI (cx_sZ (cx_sI (cx_sZ (cx_sI (cx_sZ (cx_sI (cx_sZ (cx_sZ (cx_sI (cx_sZ (cx_sI (cx_sZ (cx_sI (cx_sZ (cx_sI (cx_sZ (cx_sI (cx_sZ (cx_sZ (cx_sI (cx_sI σ 0 y1.2.1) 1 y1.2.2.1) 18 y1.2.2.2.1) 13 y1.2.2.2.2.1) 12 y1.2.2.2.2.2.1) 14 y1.2.2.2.2.2.2.1) 13 y1.2.2.2.2.2.2.2.1) 15 y1.2.2.2.2.2.2.2.2.1) 14 y1.2.2.2.2.2.2.2.2.2.1) 16 y1.2.2.2.2.2.2.2.2.2.2.1) 15 y1.2.2.2.2.2.2.2.2.2.2.2.1) 17 y1.2.2.2.2.2.2.2.2.2.2.2.2.1) 16 y1.2.2.2.2.2.2.2.2.2.2.2.2.2.1) 24 y1.2.2.2.2.2.2.2.2.2.2.2.2.2.2.1) 19 y1.2.2.2.2.2.2.2.2.2.2.2.2.2.2.2.1) 17 y1.2.2.2.2.2.2.2.2.2.2.2.2.2.2.2.2.1) 20 y1.2.2.2.2.2.2.2.2.2.2.2.2.2.2.2.2.2.1) 18 y1.2.2.2.2.2.2.2.2.2.2.2.2.2.2.2.2.2.2.1) 21 y1.2.2.2.2.2.2.2.2.2.2.2.2.2.2.2.2.2.2.2.1) 19 y1.2.2.2.2.2.2.2.2.2.2.2.2.2.2.2.2.2.2.2.2.1) 22 y1.2.2.2.2.2.2.2.2.2.2.2.2.2.2.2.2.2.2.2.2.2.1) 20 y1.2.2.2.2.2.2.2.2.2.2.2.2.2.2.2.2.2.2.2.2.2.2.1) 23 y1.2.2.2.2.2.2.2.2.2.2.2.2.2.2.2.2.2.2.2.2.2.2.2.1) 21 y1.2.2.2.2.2.2.2.2.2.2.2.2.2.2.2.2.2.2.2.2.2.2.2.2))) hA C me_X8_image hw_994 (c_X8_image l D k (U 0) (U 1) (U 2) (U 3) (U 4) (U 5) (U 6) (U 7) (U 8) (U 9) (U 10) (U 11) (σ.1 0) (σ.1 1) (σ.2.2 0) (σ.1 2) (σ.2.2 1) (σ.1 3) (σ.2.2 2) (σ.1 4) (σ.2.2 3) (σ.1 5) (σ.2.2 4) (σ.1 6) (σ.2.2 5) (σ.2.2 6) (σ.1 7) (σ.2.2 7) (σ.1 8) (σ.2.2 8) (σ.1 9) (σ.2.2 9) (σ.1 10) (σ.2.2 10) (σ.1 11) (σ.2.2 11) (σ.2.2 12) (σ.1 12) (σ.2.2 13) (σ.1 13) (σ.2.2 14) (σ.1 14) (σ.2.2 15) (σ.1 15) (σ.2.2 16) (σ.1 16) (σ.2.2 17) (σ.2.2 18) (σ.1 17) (σ.2.2 19) (σ.1 18) (σ.2.2 20) (σ.1 19) (σ.2.2 21) (σ.1 20) (σ.2.2 22) (σ.1 21) (σ.2.2 23) (σ.2.2 24) (σ.1 22) (σ.2.2 25) (σ.2.2 26) (σ.2.2 27) (σ.2.2 28) (σ.1 23) (σ.2.1 0) (σ.2.1 1) (σ.2.1 2) (σ.2.1 3) (σ.2.2 29) (σ.2.2 30) (σ.2.2 31) (σ.2.2 32) (σ.2.2 33) (σ.1 24) (σ.1 25) (σ.1 26) (σ.1 27) (σ.1 28) (σ.1 29) (σ.1 30) (σ.1 31) (σ.2.1 4) (σ.2.1 5) (σ.2.1 6) (σ.1 32) (σ.2.2 34) (σ.2.2 35) (σ.2.2 36) (σ.2.2 37) (σ.2.2 38) (σ.1 33) (σ.1 34) (σ.1 35) (σ.1 36) (σ.1 37) (σ.1 38) (σ.1 39) (σ.1 40) (σ.2.1 7) (σ.2.1 8) (σ.2.1 9) (σ.1 41) (σ.2.1 10) (σ.2.1 11) (σ.2.1 12) (σ.2.1 13) (σ.1 42) (σ.2.1 14) (σ.2.1 15) (σ.2.1 16) (σ.2.1 17) (σ.2.2 39) (σ.2.2 40) (σ.2.1 18) (σ.2.1 19) (σ.2.1 20) (σ.2.1 21) (σ.1 43) (σ.2.1 22) (σ.2.1 23) (σ.2.1 24) (σ.2.1 25) (σ.2.2 41) (σ.2.2 42) (σ.2.1 26) (σ.2.1 27) (σ.2.1 28) (σ.2.1 29) (σ.2.1 30) (σ.2.1 31) (xs (cx_ix (nI i + 1))) y1 e1) dL_law_1262 ⟨(Nat.le_of_ble_eq_true rfl), (Nat.le_of_ble_eq_true rfl)⟩ ⟨Nat.le_refl _, Nat.le_refl _⟩ rfl rfl (Nat.le_of_ble_eq_true rfl) rfl rfl rfl ?_
  refine cx_aload_n C dL_law_1265 2 rfl ?_
  refine cx_aload_n C dL_law_1266 0 rfl ?_
  refine cx_iload_n C dL_law_1267 3 rfl ?_
  refine cx_iconst (v := 1) C dL_law_1268 (by decide) ?_
  refine cx_iadd C dL_law_1269 ?_
  refine cx_sld C hX hbl hbA dL_law_1270 (law_in (j := 1) hL hlt (by decide)) ?_
  refine cx_LRi (q := (RX9, TX9, 24)) (As := [.int (xs (cx_ix (nI i + 1)))]) (rest := [.int y1.1]) (w1 := (wM k V (cx_sI (cx_sI (cx_sI τ 3 y2.2.1) 4 y2.2.2.1) 6 y2.2.2.2))) hA C me_X9_image hw_1497 (c_X9_image l D k V (τ.1 0) (τ.1 1) (τ.1 2) (τ.1 3) (τ.1 4) (τ.1 5) (τ.1 6) (τ.2.2 0) (τ.1 7) (τ.2.2 1) (τ.2.2 2) (τ.2.2 3) (τ.2.2 4) (τ.2.2 5) (τ.1 8) (τ.2.2 6) (τ.1 9) (τ.1 10) (τ.2.2 7) (τ.2.2 8) (τ.2.2 9) (τ.2.2 10) (τ.2.2 11) (τ.1 11) (xs (cx_ix (nI i + 1))) y2 e2) dL_law_1271 ⟨(Nat.le_of_ble_eq_true rfl), (Nat.le_of_ble_eq_true rfl)⟩ ⟨Nat.le_refl _, Nat.le_refl _⟩ rfl rfl (Nat.le_of_ble_eq_true rfl) rfl rfl rfl ?_
  refine cx_icmp_eq (tgt := 1362) C dL_law_1274 (by decide) (fun _ => ?_) (fun q => absurd e3 q)
  exact hN _ _ hI
set_option maxHeartbeats 4000000 in
set_option maxRecDepth 100000 in
theorem law_c35 (i : Nat) (σ τ : cx_St) (hL : L ≤ 384) (hlt : i + 6 ≤ L) (ho : ob_from Inv) (hv : Inv σ τ) (hA : A = va_A [] s.heap.size) (C : cx_C p s m #[Value.ref b] c code 4 "NamelessBoxLaw" D k) (hE : cx_E te adK adV A s s.heap) (hX : va_X b L xs s s.heap) (hbl : b < s.heap.size) (hbA : ¬ A b) (hN : ∀ σ τ : cx_St, Inv σ τ → cx_S p l e room_1 s m #[Value.ref b] below meth c A D 4 600000 7302249 (lw_Z below #[Value.ref b] s) 1362 [(0, .ref b), (1, .ref (U 0 0)), (2, .ref (V 0)), (3, .int (nI i))] [] (wN k U σ ++ wM k V τ)) : cx_S p l e room_1 s m #[Value.ref b] below meth c A D 4 600000 7302249 (lw_Z below #[Value.ref b] s) 1279 [(0, .ref b), (1, .ref (U 0 0)), (2, .ref (V 0)), (3, .int (nI i))] [] (wN k U σ ++ wM k V τ) := by
  obtain ⟨y1, y2, e1, e2, e3, hI⟩ := ho σ τ (xs (cx_ix (nI i + 1))) hv
  refine cx_aload_n C dL_law_1279 1 rfl ?_
  refine cx_aload_n C dL_law_1280 0 rfl ?_
  refine cx_iload_n C dL_law_1281 3 rfl ?_
  refine cx_iconst (v := 1) C dL_law_1282 (by decide) ?_
  refine cx_iadd C dL_law_1283 ?_
  refine cx_sld C hX hbl hbA dL_law_1284 (law_in (j := 1) hL hlt (by decide)) ?_
  refine cx_LLi (q := (RX8, TX8, 12)) (As := [.int (xs (cx_ix (nI i + 1)))]) (rest := []) (w1 := (wN k U (cx_sI (cx_sZ (cx_sI (cx_sZ (cx_sI (cx_sZ (cx_sI (cx_sZ (cx_sI (cx_sZ (cx_sZ (cx_sI (cx_sZ σ 0 y1.2.1) 1 y1.2.2.1) 6 y1.2.2.2.1) 1 y1.2.2.2.2.1) 2 y1.2.2.2.2.2.1) 2 y1.2.2.2.2.2.2.1) 3 y1.2.2.2.2.2.2.2.1) 3 y1.2.2.2.2.2.2.2.2.1) 4 y1.2.2.2.2.2.2.2.2.2.1) 4 y1.2.2.2.2.2.2.2.2.2.2.1) 5 y1.2.2.2.2.2.2.2.2.2.2.2.1) 5 y1.2.2.2.2.2.2.2.2.2.2.2.2.1) 6 y1.2.2.2.2.2.2.2.2.2.2.2.2.2))) hA C me_X8_from hw_1002 (c_X8_from l D k (U 0) (U 1) (U 2) (U 3) (U 4) (U 5) (U 6) (U 7) (U 8) (U 9) (U 10) (U 11) (σ.1 0) (σ.1 1) (σ.2.2 0) (σ.1 2) (σ.2.2 1) (σ.1 3) (σ.2.2 2) (σ.1 4) (σ.2.2 3) (σ.1 5) (σ.2.2 4) (σ.1 6) (σ.2.2 5) (σ.2.2 6) (σ.1 7) (σ.2.2 7) (σ.1 8) (σ.2.2 8) (σ.1 9) (σ.2.2 9) (σ.1 10) (σ.2.2 10) (σ.1 11) (σ.2.2 11) (σ.2.2 12) (σ.1 12) (σ.2.2 13) (σ.1 13) (σ.2.2 14) (σ.1 14) (σ.2.2 15) (σ.1 15) (σ.2.2 16) (σ.1 16) (σ.2.2 17) (σ.2.2 18) (σ.1 17) (σ.2.2 19) (σ.1 18) (σ.2.2 20) (σ.1 19) (σ.2.2 21) (σ.1 20) (σ.2.2 22) (σ.1 21) (σ.2.2 23) (σ.2.2 24) (σ.1 22) (σ.2.2 25) (σ.2.2 26) (σ.2.2 27) (σ.2.2 28) (σ.1 23) (σ.2.1 0) (σ.2.1 1) (σ.2.1 2) (σ.2.1 3) (σ.2.2 29) (σ.2.2 30) (σ.2.2 31) (σ.2.2 32) (σ.2.2 33) (σ.1 24) (σ.1 25) (σ.1 26) (σ.1 27) (σ.1 28) (σ.1 29) (σ.1 30) (σ.1 31) (σ.2.1 4) (σ.2.1 5) (σ.2.1 6) (σ.1 32) (σ.2.2 34) (σ.2.2 35) (σ.2.2 36) (σ.2.2 37) (σ.2.2 38) (σ.1 33) (σ.1 34) (σ.1 35) (σ.1 36) (σ.1 37) (σ.1 38) (σ.1 39) (σ.1 40) (σ.2.1 7) (σ.2.1 8) (σ.2.1 9) (σ.1 41) (σ.2.1 10) (σ.2.1 11) (σ.2.1 12) (σ.2.1 13) (σ.1 42) (σ.2.1 14) (σ.2.1 15) (σ.2.1 16) (σ.2.1 17) (σ.2.2 39) (σ.2.2 40) (σ.2.1 18) (σ.2.1 19) (σ.2.1 20) (σ.2.1 21) (σ.1 43) (σ.2.1 22) (σ.2.1 23) (σ.2.1 24) (σ.2.1 25) (σ.2.2 41) (σ.2.2 42) (σ.2.1 26) (σ.2.1 27) (σ.2.1 28) (σ.2.1 29) (σ.2.1 30) (σ.2.1 31) (xs (cx_ix (nI i + 1))) y1 e1) dL_law_1285 ⟨(Nat.le_of_ble_eq_true rfl), (Nat.le_of_ble_eq_true rfl)⟩ ⟨Nat.le_refl _, Nat.le_refl _⟩ rfl rfl (Nat.le_of_ble_eq_true rfl) rfl rfl rfl ?_
  refine cx_aload_n C dL_law_1288 2 rfl ?_
  refine cx_aload_n C dL_law_1289 0 rfl ?_
  refine cx_iload_n C dL_law_1290 3 rfl ?_
  refine cx_iconst (v := 1) C dL_law_1291 (by decide) ?_
  refine cx_iadd C dL_law_1292 ?_
  refine cx_sld C hX hbl hbA dL_law_1293 (law_in (j := 1) hL hlt (by decide)) ?_
  refine cx_LRi (q := (RX9, TX9, 24)) (As := [.int (xs (cx_ix (nI i + 1)))]) (rest := [.int y1.1]) (w1 := (wM k V (cx_sI (cx_sI τ 2 y2.2.1) 6 y2.2.2))) hA C me_X9_from hw_1501 (c_X9_from l D k V (τ.1 0) (τ.1 1) (τ.1 2) (τ.1 3) (τ.1 4) (τ.1 5) (τ.1 6) (τ.2.2 0) (τ.1 7) (τ.2.2 1) (τ.2.2 2) (τ.2.2 3) (τ.2.2 4) (τ.2.2 5) (τ.1 8) (τ.2.2 6) (τ.1 9) (τ.1 10) (τ.2.2 7) (τ.2.2 8) (τ.2.2 9) (τ.2.2 10) (τ.2.2 11) (τ.1 11) (xs (cx_ix (nI i + 1))) y2 e2) dL_law_1294 ⟨(Nat.le_of_ble_eq_true rfl), (Nat.le_of_ble_eq_true rfl)⟩ ⟨Nat.le_refl _, Nat.le_refl _⟩ rfl rfl (Nat.le_of_ble_eq_true rfl) rfl rfl rfl ?_
  refine cx_icmp_eq (tgt := 1362) C dL_law_1297 (by decide) (fun _ => ?_) (fun q => absurd e3 q)
  exact hN _ _ hI
set_option maxHeartbeats 4000000 in
set_option maxRecDepth 100000 in
theorem law_c36 (i : Nat) (σ τ : cx_St) (hL : L ≤ 384) (hlt : i + 6 ≤ L) (ho : ob_status Inv) (hv : Inv σ τ) (hA : A = va_A [] s.heap.size) (C : cx_C p s m #[Value.ref b] c code 4 "NamelessBoxLaw" D k) (hE : cx_E te adK adV A s s.heap) (hX : va_X b L xs s s.heap) (hbl : b < s.heap.size) (hbA : ¬ A b) (hN : ∀ σ τ : cx_St, Inv σ τ → cx_S p l e room_1 s m #[Value.ref b] below meth c A D 4 600000 7302249 (lw_Z below #[Value.ref b] s) 1362 [(0, .ref b), (1, .ref (U 0 0)), (2, .ref (V 0)), (3, .int (nI i))] [] (wN k U σ ++ wM k V τ)) : cx_S p l e room_1 s m #[Value.ref b] below meth c A D 4 600000 7302249 (lw_Z below #[Value.ref b] s) 1302 [(0, .ref b), (1, .ref (U 0 0)), (2, .ref (V 0)), (3, .int (nI i))] [] (wN k U σ ++ wM k V τ) := by
  obtain ⟨y1, y2, e1, e2, e3, hI⟩ := ho σ τ (xs (cx_ix (nI i + 1))) hv
  refine cx_aload_n C dL_law_1302 1 rfl ?_
  refine cx_aload_n C dL_law_1303 0 rfl ?_
  refine cx_iload_n C dL_law_1304 3 rfl ?_
  refine cx_iconst (v := 1) C dL_law_1305 (by decide) ?_
  refine cx_iadd C dL_law_1306 ?_
  refine cx_sld C hX hbl hbA dL_law_1307 (law_in (j := 1) hL hlt (by decide)) ?_
  refine cx_LLi (q := (RX8, TX8, 12)) (As := [.int (xs (cx_ix (nI i + 1)))]) (rest := []) (w1 := (wN k U (cx_sI σ 1 y1.2))) hA C me_X8_status hw_1006 (c_X8_status l D k (U 0) (U 1) (U 2) (U 3) (U 4) (U 5) (U 6) (U 7) (U 8) (U 9) (U 10) (U 11) (σ.1 0) (σ.1 1) (σ.2.2 0) (σ.1 2) (σ.2.2 1) (σ.1 3) (σ.2.2 2) (σ.1 4) (σ.2.2 3) (σ.1 5) (σ.2.2 4) (σ.1 6) (σ.2.2 5) (σ.2.2 6) (σ.1 7) (σ.2.2 7) (σ.1 8) (σ.2.2 8) (σ.1 9) (σ.2.2 9) (σ.1 10) (σ.2.2 10) (σ.1 11) (σ.2.2 11) (σ.2.2 12) (σ.1 12) (σ.2.2 13) (σ.1 13) (σ.2.2 14) (σ.1 14) (σ.2.2 15) (σ.1 15) (σ.2.2 16) (σ.1 16) (σ.2.2 17) (σ.2.2 18) (σ.1 17) (σ.2.2 19) (σ.1 18) (σ.2.2 20) (σ.1 19) (σ.2.2 21) (σ.1 20) (σ.2.2 22) (σ.1 21) (σ.2.2 23) (σ.2.2 24) (σ.1 22) (σ.2.2 25) (σ.2.2 26) (σ.2.2 27) (σ.2.2 28) (σ.1 23) (σ.2.1 0) (σ.2.1 1) (σ.2.1 2) (σ.2.1 3) (σ.2.2 29) (σ.2.2 30) (σ.2.2 31) (σ.2.2 32) (σ.2.2 33) (σ.1 24) (σ.1 25) (σ.1 26) (σ.1 27) (σ.1 28) (σ.1 29) (σ.1 30) (σ.1 31) (σ.2.1 4) (σ.2.1 5) (σ.2.1 6) (σ.1 32) (σ.2.2 34) (σ.2.2 35) (σ.2.2 36) (σ.2.2 37) (σ.2.2 38) (σ.1 33) (σ.1 34) (σ.1 35) (σ.1 36) (σ.1 37) (σ.1 38) (σ.1 39) (σ.1 40) (σ.2.1 7) (σ.2.1 8) (σ.2.1 9) (σ.1 41) (σ.2.1 10) (σ.2.1 11) (σ.2.1 12) (σ.2.1 13) (σ.1 42) (σ.2.1 14) (σ.2.1 15) (σ.2.1 16) (σ.2.1 17) (σ.2.2 39) (σ.2.2 40) (σ.2.1 18) (σ.2.1 19) (σ.2.1 20) (σ.2.1 21) (σ.1 43) (σ.2.1 22) (σ.2.1 23) (σ.2.1 24) (σ.2.1 25) (σ.2.2 41) (σ.2.2 42) (σ.2.1 26) (σ.2.1 27) (σ.2.1 28) (σ.2.1 29) (σ.2.1 30) (σ.2.1 31) (xs (cx_ix (nI i + 1))) y1 e1) dL_law_1308 ⟨(Nat.le_of_ble_eq_true rfl), (Nat.le_of_ble_eq_true rfl)⟩ ⟨Nat.le_refl _, Nat.le_refl _⟩ rfl rfl (Nat.le_of_ble_eq_true rfl) rfl rfl rfl ?_
  refine cx_aload_n C dL_law_1311 2 rfl ?_
  refine cx_aload_n C dL_law_1312 0 rfl ?_
  refine cx_iload_n C dL_law_1313 3 rfl ?_
  refine cx_iconst (v := 1) C dL_law_1314 (by decide) ?_
  refine cx_iadd C dL_law_1315 ?_
  refine cx_sld C hX hbl hbA dL_law_1316 (law_in (j := 1) hL hlt (by decide)) ?_
  refine cx_LRi (q := (RX9, TX9, 24)) (As := [.int (xs (cx_ix (nI i + 1)))]) (rest := [.int y1.1]) (w1 := (wM k V (cx_sI τ 6 y2.2))) hA C me_X9_status hw_1505 (c_X9_status l D k V (τ.1 0) (τ.1 1) (τ.1 2) (τ.1 3) (τ.1 4) (τ.1 5) (τ.1 6) (τ.2.2 0) (τ.1 7) (τ.2.2 1) (τ.2.2 2) (τ.2.2 3) (τ.2.2 4) (τ.2.2 5) (τ.1 8) (τ.2.2 6) (τ.1 9) (τ.1 10) (τ.2.2 7) (τ.2.2 8) (τ.2.2 9) (τ.2.2 10) (τ.2.2 11) (τ.1 11) (xs (cx_ix (nI i + 1))) y2 e2) dL_law_1317 ⟨(Nat.le_of_ble_eq_true rfl), (Nat.le_of_ble_eq_true rfl)⟩ ⟨Nat.le_refl _, Nat.le_refl _⟩ rfl rfl (Nat.le_of_ble_eq_true rfl) rfl rfl rfl ?_
  refine cx_icmp_eq (tgt := 1362) C dL_law_1320 (by decide) (fun _ => ?_) (fun q => absurd e3 q)
  exact hN _ _ hI
set_option maxHeartbeats 4000000 in
set_option maxRecDepth 100000 in
theorem law_c37 (i : Nat) (σ τ : cx_St) (hL : L ≤ 384) (hlt : i + 6 ≤ L) (ho : ob_count Inv) (hv : Inv σ τ) (hA : A = va_A [] s.heap.size) (C : cx_C p s m #[Value.ref b] c code 4 "NamelessBoxLaw" D k) (hE : cx_E te adK adV A s s.heap) (hX : va_X b L xs s s.heap) (hbl : b < s.heap.size) (hbA : ¬ A b) (hN : ∀ σ τ : cx_St, Inv σ τ → cx_S p l e room_1 s m #[Value.ref b] below meth c A D 4 600000 7302249 (lw_Z below #[Value.ref b] s) 1362 [(0, .ref b), (1, .ref (U 0 0)), (2, .ref (V 0)), (3, .int (nI i))] [] (wN k U σ ++ wM k V τ)) : cx_S p l e room_1 s m #[Value.ref b] below meth c A D 4 600000 7302249 (lw_Z below #[Value.ref b] s) 1325 [(0, .ref b), (1, .ref (U 0 0)), (2, .ref (V 0)), (3, .int (nI i))] [] (wN k U σ ++ wM k V τ) := by
  obtain ⟨y1, y2, e1, e2, e3, hI⟩ := ho σ τ (xs (cx_ix (nI i + 1))) hv
  refine cx_aload_n C dL_law_1325 1 rfl ?_
  refine cx_aload_n C dL_law_1326 0 rfl ?_
  refine cx_iload_n C dL_law_1327 3 rfl ?_
  refine cx_iconst (v := 1) C dL_law_1328 (by decide) ?_
  refine cx_iadd C dL_law_1329 ?_
  refine cx_sld C hX hbl hbA dL_law_1330 (law_in (j := 1) hL hlt (by decide)) ?_
  refine cx_LLi (q := (RX8, TX8, 12)) (As := [.int (xs (cx_ix (nI i + 1)))]) (rest := []) (w1 := (wN k U (cx_sI σ 1 y1.2))) hA C me_X8_count hw_1010 (c_X8_count l D k (U 0) (U 1) (U 2) (U 3) (U 4) (U 5) (U 6) (U 7) (U 8) (U 9) (U 10) (U 11) (σ.1 0) (σ.1 1) (σ.2.2 0) (σ.1 2) (σ.2.2 1) (σ.1 3) (σ.2.2 2) (σ.1 4) (σ.2.2 3) (σ.1 5) (σ.2.2 4) (σ.1 6) (σ.2.2 5) (σ.2.2 6) (σ.1 7) (σ.2.2 7) (σ.1 8) (σ.2.2 8) (σ.1 9) (σ.2.2 9) (σ.1 10) (σ.2.2 10) (σ.1 11) (σ.2.2 11) (σ.2.2 12) (σ.1 12) (σ.2.2 13) (σ.1 13) (σ.2.2 14) (σ.1 14) (σ.2.2 15) (σ.1 15) (σ.2.2 16) (σ.1 16) (σ.2.2 17) (σ.2.2 18) (σ.1 17) (σ.2.2 19) (σ.1 18) (σ.2.2 20) (σ.1 19) (σ.2.2 21) (σ.1 20) (σ.2.2 22) (σ.1 21) (σ.2.2 23) (σ.2.2 24) (σ.1 22) (σ.2.2 25) (σ.2.2 26) (σ.2.2 27) (σ.2.2 28) (σ.1 23) (σ.2.1 0) (σ.2.1 1) (σ.2.1 2) (σ.2.1 3) (σ.2.2 29) (σ.2.2 30) (σ.2.2 31) (σ.2.2 32) (σ.2.2 33) (σ.1 24) (σ.1 25) (σ.1 26) (σ.1 27) (σ.1 28) (σ.1 29) (σ.1 30) (σ.1 31) (σ.2.1 4) (σ.2.1 5) (σ.2.1 6) (σ.1 32) (σ.2.2 34) (σ.2.2 35) (σ.2.2 36) (σ.2.2 37) (σ.2.2 38) (σ.1 33) (σ.1 34) (σ.1 35) (σ.1 36) (σ.1 37) (σ.1 38) (σ.1 39) (σ.1 40) (σ.2.1 7) (σ.2.1 8) (σ.2.1 9) (σ.1 41) (σ.2.1 10) (σ.2.1 11) (σ.2.1 12) (σ.2.1 13) (σ.1 42) (σ.2.1 14) (σ.2.1 15) (σ.2.1 16) (σ.2.1 17) (σ.2.2 39) (σ.2.2 40) (σ.2.1 18) (σ.2.1 19) (σ.2.1 20) (σ.2.1 21) (σ.1 43) (σ.2.1 22) (σ.2.1 23) (σ.2.1 24) (σ.2.1 25) (σ.2.2 41) (σ.2.2 42) (σ.2.1 26) (σ.2.1 27) (σ.2.1 28) (σ.2.1 29) (σ.2.1 30) (σ.2.1 31) (xs (cx_ix (nI i + 1))) y1 e1) dL_law_1331 ⟨(Nat.le_of_ble_eq_true rfl), (Nat.le_of_ble_eq_true rfl)⟩ ⟨Nat.le_refl _, Nat.le_refl _⟩ rfl rfl (Nat.le_of_ble_eq_true rfl) rfl rfl rfl ?_
  refine cx_aload_n C dL_law_1334 2 rfl ?_
  refine cx_aload_n C dL_law_1335 0 rfl ?_
  refine cx_iload_n C dL_law_1336 3 rfl ?_
  refine cx_iconst (v := 1) C dL_law_1337 (by decide) ?_
  refine cx_iadd C dL_law_1338 ?_
  refine cx_sld C hX hbl hbA dL_law_1339 (law_in (j := 1) hL hlt (by decide)) ?_
  refine cx_LRi (q := (RX9, TX9, 24)) (As := [.int (xs (cx_ix (nI i + 1)))]) (rest := [.int y1.1]) (w1 := (wM k V (cx_sI τ 6 y2.2))) hA C me_X9_count hw_1510 (c_X9_count l D k V (τ.1 0) (τ.1 1) (τ.1 2) (τ.1 3) (τ.1 4) (τ.1 5) (τ.1 6) (τ.2.2 0) (τ.1 7) (τ.2.2 1) (τ.2.2 2) (τ.2.2 3) (τ.2.2 4) (τ.2.2 5) (τ.1 8) (τ.2.2 6) (τ.1 9) (τ.1 10) (τ.2.2 7) (τ.2.2 8) (τ.2.2 9) (τ.2.2 10) (τ.2.2 11) (τ.1 11) (xs (cx_ix (nI i + 1))) y2 e2) dL_law_1340 ⟨(Nat.le_of_ble_eq_true rfl), (Nat.le_of_ble_eq_true rfl)⟩ ⟨Nat.le_refl _, Nat.le_refl _⟩ rfl rfl (Nat.le_of_ble_eq_true rfl) rfl rfl rfl ?_
  refine cx_icmp_eq (tgt := 1362) C dL_law_1343 (by decide) (fun _ => ?_) (fun q => absurd e3 q)
  exact hN _ _ hI
set_option maxHeartbeats 4000000 in
set_option maxRecDepth 100000 in
theorem law_c38 (i : Nat) (σ τ : cx_St) (hL : L ≤ 384) (hlt : i + 6 ≤ L) (ho : ob_digest Inv) (hv : Inv σ τ) (hA : A = va_A [] s.heap.size) (C : cx_C p s m #[Value.ref b] c code 4 "NamelessBoxLaw" D k) (hE : cx_E te adK adV A s s.heap) (hX : va_X b L xs s s.heap) (hbl : b < s.heap.size) (hbA : ¬ A b) (hN : ∀ σ τ : cx_St, Inv σ τ → cx_S p l e room_1 s m #[Value.ref b] below meth c A D 4 600000 7302249 (lw_Z below #[Value.ref b] s) 1362 [(0, .ref b), (1, .ref (U 0 0)), (2, .ref (V 0)), (3, .int (nI i))] [] (wN k U σ ++ wM k V τ)) : cx_S p l e room_1 s m #[Value.ref b] below meth c A D 4 600000 7302249 (lw_Z below #[Value.ref b] s) 1348 [(0, .ref b), (1, .ref (U 0 0)), (2, .ref (V 0)), (3, .int (nI i))] [] (wN k U σ ++ wM k V τ) := by
  obtain ⟨y1, y2, e1, e2, e3, hI⟩ := ho σ τ  hv
  refine cx_aload_n C dL_law_1348 1 rfl ?_
  refine cx_LLl (q := (RX8, TX8, 12)) (As := []) (rest := []) (w1 := (wN k U σ)) hA C me_X8_digest hw_1018 (c_X8_digest l D k (U 0) (U 1) (U 2) (U 3) (U 4) (U 5) (U 6) (U 7) (U 8) (U 9) (U 10) (U 11) (σ.1 0) (σ.1 1) (σ.2.2 0) (σ.1 2) (σ.2.2 1) (σ.1 3) (σ.2.2 2) (σ.1 4) (σ.2.2 3) (σ.1 5) (σ.2.2 4) (σ.1 6) (σ.2.2 5) (σ.2.2 6) (σ.1 7) (σ.2.2 7) (σ.1 8) (σ.2.2 8) (σ.1 9) (σ.2.2 9) (σ.1 10) (σ.2.2 10) (σ.1 11) (σ.2.2 11) (σ.2.2 12) (σ.1 12) (σ.2.2 13) (σ.1 13) (σ.2.2 14) (σ.1 14) (σ.2.2 15) (σ.1 15) (σ.2.2 16) (σ.1 16) (σ.2.2 17) (σ.2.2 18) (σ.1 17) (σ.2.2 19) (σ.1 18) (σ.2.2 20) (σ.1 19) (σ.2.2 21) (σ.1 20) (σ.2.2 22) (σ.1 21) (σ.2.2 23) (σ.2.2 24) (σ.1 22) (σ.2.2 25) (σ.2.2 26) (σ.2.2 27) (σ.2.2 28) (σ.1 23) (σ.2.1 0) (σ.2.1 1) (σ.2.1 2) (σ.2.1 3) (σ.2.2 29) (σ.2.2 30) (σ.2.2 31) (σ.2.2 32) (σ.2.2 33) (σ.1 24) (σ.1 25) (σ.1 26) (σ.1 27) (σ.1 28) (σ.1 29) (σ.1 30) (σ.1 31) (σ.2.1 4) (σ.2.1 5) (σ.2.1 6) (σ.1 32) (σ.2.2 34) (σ.2.2 35) (σ.2.2 36) (σ.2.2 37) (σ.2.2 38) (σ.1 33) (σ.1 34) (σ.1 35) (σ.1 36) (σ.1 37) (σ.1 38) (σ.1 39) (σ.1 40) (σ.2.1 7) (σ.2.1 8) (σ.2.1 9) (σ.1 41) (σ.2.1 10) (σ.2.1 11) (σ.2.1 12) (σ.2.1 13) (σ.1 42) (σ.2.1 14) (σ.2.1 15) (σ.2.1 16) (σ.2.1 17) (σ.2.2 39) (σ.2.2 40) (σ.2.1 18) (σ.2.1 19) (σ.2.1 20) (σ.2.1 21) (σ.1 43) (σ.2.1 22) (σ.2.1 23) (σ.2.1 24) (σ.2.1 25) (σ.2.2 41) (σ.2.2 42) (σ.2.1 26) (σ.2.1 27) (σ.2.1 28) (σ.2.1 29) (σ.2.1 30) (σ.2.1 31) y1 e1) dL_law_1349 ⟨(Nat.le_of_ble_eq_true rfl), (Nat.le_of_ble_eq_true rfl)⟩ ⟨Nat.le_refl _, Nat.le_refl _⟩ rfl rfl (Nat.le_of_ble_eq_true rfl) rfl rfl rfl ?_
  refine cx_aload_n C dL_law_1352 2 rfl ?_
  refine cx_LRl (q := (RX9, TX9, 24)) (As := []) (rest := [.long y1]) (w1 := (wM k V τ)) hA C me_X9_digest hw_1518 (c_X9_digest l D k V (τ.1 0) (τ.1 1) (τ.1 2) (τ.1 3) (τ.1 4) (τ.1 5) (τ.1 6) (τ.2.2 0) (τ.1 7) (τ.2.2 1) (τ.2.2 2) (τ.2.2 3) (τ.2.2 4) (τ.2.2 5) (τ.1 8) (τ.2.2 6) (τ.1 9) (τ.1 10) (τ.2.2 7) (τ.2.2 8) (τ.2.2 9) (τ.2.2 10) (τ.2.2 11) (τ.1 11) y2 e2) dL_law_1353 ⟨(Nat.le_of_ble_eq_true rfl), (Nat.le_of_ble_eq_true rfl)⟩ ⟨Nat.le_refl _, Nat.le_refl _⟩ rfl rfl (Nat.le_of_ble_eq_true rfl) rfl rfl rfl ?_
  refine cx_lcmp C dL_law_1356 ?_
  refine cx_if_eq (tgt := 1362) C dL_law_1357 (by decide) (fun _ => ?_) (fun q => absurd (by rw [e3]; simp [lg_cmp]) q)
  exact hN _ _ hI
end LAWL
