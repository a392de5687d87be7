/-- cells changed by a mask: none keeps the cell, some i takes the i-th of the callee's -/
def cx_mg (w1 : va_W) : List (Option Nat) → va_W → va_W
  | none :: ms, c :: ws => c :: cx_mg w1 ms ws
  | some i :: ms, c :: ws => (w1[i]?).getD c :: cx_mg w1 ms ws
  | _, _ => []
theorem cx_mg_get (w1 : va_W) : ∀ (ms : List (Option Nat)) (ws : va_W) (j : Nat) (q : Nat × va_E), (cx_mg w1 ms ws)[j]? = some q → (ms[j]? = some none ∧ ws[j]? = some q) ∨ ∃ (i : Nat) (c : Nat × va_E), ms[j]? = some (some i) ∧ ws[j]? = some c ∧ (w1[i]?).getD c = q
  | [], ws, j, q, h => by simp [cx_mg] at h
  | m :: ms, [], j, q, h => by cases m <;> simp [cx_mg] at h
  | none :: ms, c :: ws, 0, q, h => by left; simp [cx_mg] at h ⊢; exact h
  | some i :: ms, c :: ws, 0, q, h => by right; exact ⟨i, c, rfl, rfl, by simpa [cx_mg] using h⟩
  | none :: ms, c :: ws, j + 1, q, h => by
    have h2 : (cx_mg w1 ms ws)[j]? = some q := by simpa [cx_mg] using h
    simpa using cx_mg_get w1 ms ws j q h2
  | some i :: ms, c :: ws, j + 1, q, h => by
    have h2 : (cx_mg w1 ms ws)[j]? = some q := by simpa [cx_mg] using h
    simpa using cx_mg_get w1 ms ws j q h2
/-- the mask fits the places -/
def cx_okm (ms : List (Option Nat)) (is : List Nat) (n : Nat) : Bool := (List.range ms.length).all (fun j => match ms[j]? with
  | some (some i) => decide (is[i]? = some j) && decide (i < n)
  | _ => decide (j ∉ is))
theorem cx_okm_n {ms : List (Option Nat)} {is : List Nat} {n j : Nat} (h : cx_okm ms is n = true) (hj : ms[j]? = some none) : j ∉ is := by
  have hl : j < ms.length := (List.getElem?_eq_some_iff.mp hj).1
  have h1 := List.all_eq_true.mp h j (List.mem_range.mpr hl)
  rw [hj] at h1
  simpa using h1
theorem cx_okm_s {ms : List (Option Nat)} {is : List Nat} {n j i : Nat} (h : cx_okm ms is n = true) (hj : ms[j]? = some (some i)) : is[i]? = some j ∧ i < n := by
  have hl : j < ms.length := (List.getElem?_eq_some_iff.mp hj).1
  have h1 := List.all_eq_true.mp h j (List.mem_range.mpr hl)
  rw [hj] at h1
  simpa using h1
theorem cx_joinM {A0 : Nat → Prop} {D : va_G} {cl : List vw_C} {ws wc w1 : va_W} {H H1 : Heap} (hP : va_P D cl ws H) (hD : va_D A0 ws) (is : List Nat) (hC : is.map (fun i => ws[i]?) = wc.map some) (ha : w1.map Prod.fst = wc.map Prod.fst) (ms : List (Option Nat)) (hok : cx_okm ms is w1.length = true)
    (hk : ∀ q : Nat, q < H.size → ¬ va_A wc H.size q → H1[q]? = H[q]?) (hP1 : va_P D cl w1 H1) : va_P D cl (cx_mg w1 ms ws) H1 ∧ va_D A0 (cx_mg w1 ms ws) := by
  have key : ∀ (j : Nat) (q : Nat × va_E), (cx_mg w1 ms ws)[j]? = some q → va_at D cl q H1 ∧ ∃ e : va_E, ws[j]? = some (q.1, e) := by
    intro j q h
    rcases cx_mg_get w1 ms ws j q h with ⟨h1, h2⟩ | ⟨i, c, h1, h2, h3⟩
    · refine ⟨(hP j q h2).kept (hk q.1 (hP j q h2).lt ?_), q.2, h2⟩
      rintro (⟨n, e, g3⟩ | g3)
      · have g4 : (is.map (fun i => ws[i]?))[n]? = some (some (q.1, e)) := by rw [hC, List.getElem?_map, g3]; rfl
        rw [List.getElem?_map] at g4
        cases g5 : is[n]? with
        | none => rw [g5] at g4; cases g4
        | some i =>
          rw [g5] at g4
          have g6 : ws[i]? = some (q.1, e) := Option.some.inj g4
          have g7 := hD.1 j i q (q.1, e) h2 g6 rfl
          subst g7
          exact cx_okm_n hok h1 (List.mem_of_getElem? g5)
      · have := (hP j q h2).lt
        omega
    · obtain ⟨g1, g2⟩ := cx_okm_s hok h1
      have g3 : w1[i]? = some q := by
        rw [List.getElem?_eq_getElem g2] at h3 ⊢
        simpa using h3
      have g4 : (is.map (fun i => ws[i]?))[i]? = some ws[j]? := by rw [List.getElem?_map, g1]; rfl
      have g5 : (w1.map Prod.fst)[i]? = some q.1 := by rw [List.getElem?_map, g3]; rfl
      rw [ha, List.getElem?_map] at g5
      cases g6 : wc[i]? with
      | none => rw [g6] at g5; cases g5
      | some x =>
        rw [g6] at g5
        have g7 : x.1 = q.1 := Option.some.inj g5
        rw [hC, List.getElem?_map, g6] at g4
        have g8 : some x = ws[j]? := Option.some.inj g4
        exact ⟨hP1 i q g3, x.2, by rw [← g8, ← g7]⟩
  refine ⟨fun j q h => (key j q h).1, fun i j x y hx hy hxy => ?_, fun j q h => ?_⟩
  · obtain ⟨-, e1, g1⟩ := key i x hx
    obtain ⟨-, e2, g2⟩ := key j y hy
    exact hD.1 i j _ _ g1 g2 hxy
  · obtain ⟨-, e1, g1⟩ := key j q h
    exact hD.2 j (q.1, e1) g1
section CXC3
variable {p : Program} {l : Launch} {e : Env} {R : Room} {s : State} {m : MethodId} {args : Array Value} {below : List Frame} {meth : Method} {c : Code} {A : Nat → Prop} {D : va_G} {nL cells slots : Nat} {Q : State → Prop} {cc : ByteArray} {own : String} {k : Nat → ClassId} {pc : Nat} {lv : List (Nat × Value)} {st : List Value} {ws : va_W}
variable {y : MethodName} {bytes : ByteArray} {maxL d idx n2 b ci : Nat} {ret : Option FieldType} {As rest st0 : List Value} {wc w1 ws' : va_W} {is : List Nat} {fs : List Value} {q : vw_C}
theorem cx_Gvi {r : Int32} {w0 : va_W}  (hA : A = va_A w0 s.heap.size) (C : cx_C p s m args c cc nL own D k) (hy : cx_Mv y bytes maxL ret n2) (hlk : Cond.methodLink own idx y ∈ cx_G) (hM : cx_M l y bytes maxL ret d D k (.ref b :: As) wc (fun sz => cx_Qi D r wc w1 sz)) (hd : decode cc pc = .ok (.invokevirtual idx, 3)) (hR : d + 1 ≤ R.frames ∧ 8 + (maxL + 11) + 40 * d ≤ R.locals) (hcs : cells ≤ R.cells ∧ slots ≤ R.slots) (hn : As.length = n2) (hst : st0 = As.reverse ++ .ref b :: rest) (hro : (rest.map fun v => v.category).sum ≤ 8) (he : wc[0]? = some (b, .inr (ci, fs))) (hci : cx_cl[ci]? = some (y.cls, q.2)) (is : List Nat) (hC : is.map (fun i => ws[i]?) = wc.map some) (hnd : va_nd is = true) (ha : w1.map Prod.fst = wc.map Prod.fst) (ms : List (Option Nat)) (n1 : Nat) (hn1 : w1.length = n1) (hok : cx_okm ms is n1 = true) (hw' : cx_mg w1 ms ws = ws') (h : cx_S p l e R s m args below meth c A D nL cells slots Q (pc + 3) lv (.int r :: rest) ws') : cx_S p l e R s m args below meth c A D nL cells slots Q pc lv st0 ws := by
  intro H locs ls hP hD hS hl
  have hPc : va_P D cx_cl wc H := hP.sub is (by
    have e := congrArg (fun z => z.filterMap id) hC
    simpa [List.filterMap_map, Function.comp_def] using e)
  have hDc : va_D A wc := hD.sub is hnd hC
  have hFc := cx_freeC hD hS is hC (fun q h => by rw [hA]; exact Or.inr h)
  refine va_calli (va_runV (As := As) (rest := rest) ⟨C.1, C.2.1, C.2.2.1, C.2.2.2.1, C.2.2.2.2.1⟩ (hM H.size) ⟨cx_callB C hy.1 hlk hR, C.2.2.2.2.1 _ hy.2.1, C.2.2.2.2.1 _ hy.2.2⟩ ⟨cx_P.blind, va_recv C.2.2.2.2.2.1 hPc hci he, cx_pre C hPc hDc⟩ rfl hn hl.1 hst (lv_room hro) hd ⟨hcs.1, hcs.2⟩) hS (fun q _ h => hFc q h) hFc (fun r1 u t H1 locs1 ht _ hw hB _ hk1 hS1 => ?_)
  · subst hw
    obtain ⟨hP2, hD2⟩ := cx_joinM hP hD is hC ha ms (by rw [hn1]; exact hok) hk1 (ht ▸ hB)
    rw [hw'] at hP2 hD2
    exact h H1 locs1 ls hP2 hD2 hS1 hl
theorem cx_Gvl {r : Int64} {w0 : va_W}  (hA : A = va_A w0 s.heap.size) (C : cx_C p s m args c cc nL own D k) (hy : cx_Mv y bytes maxL ret n2) (hlk : Cond.methodLink own idx y ∈ cx_G) (hM : cx_M l y bytes maxL ret d D k (.ref b :: As) wc (fun sz => cx_Ql D r wc w1 sz)) (hd : decode cc pc = .ok (.invokevirtual idx, 3)) (hR : d + 1 ≤ R.frames ∧ 8 + (maxL + 11) + 40 * d ≤ R.locals) (hcs : cells ≤ R.cells ∧ slots ≤ R.slots) (hn : As.length = n2) (hst : st0 = As.reverse ++ .ref b :: rest) (hro : (rest.map fun v => v.category).sum ≤ 8) (he : wc[0]? = some (b, .inr (ci, fs))) (hci : cx_cl[ci]? = some (y.cls, q.2)) (is : List Nat) (hC : is.map (fun i => ws[i]?) = wc.map some) (hnd : va_nd is = true) (ha : w1.map Prod.fst = wc.map Prod.fst) (ms : List (Option Nat)) (n1 : Nat) (hn1 : w1.length = n1) (hok : cx_okm ms is n1 = true) (hw' : cx_mg w1 ms ws = ws') (h : cx_S p l e R s m args below meth c A D nL cells slots Q (pc + 3) lv (.long r :: rest) ws') : cx_S p l e R s m args below meth c A D nL cells slots Q pc lv st0 ws := by
  intro H locs ls hP hD hS hl
  have hPc : va_P D cx_cl wc H := hP.sub is (by
    have e := congrArg (fun z => z.filterMap id) hC
    simpa [List.filterMap_map, Function.comp_def] using e)
  have hDc : va_D A wc := hD.sub is hnd hC
  have hFc := cx_freeC hD hS is hC (fun q h => by rw [hA]; exact Or.inr h)
  refine va_calll (va_runV (As := As) (rest := rest) ⟨C.1, C.2.1, C.2.2.1, C.2.2.2.1, C.2.2.2.2.1⟩ (hM H.size) ⟨cx_callB C hy.1 hlk hR, C.2.2.2.2.1 _ hy.2.1, C.2.2.2.2.1 _ hy.2.2⟩ ⟨cx_P.blind, va_recv C.2.2.2.2.2.1 hPc hci he, cx_pre C hPc hDc⟩ rfl hn hl.1 hst (lv_room hro) hd ⟨hcs.1, hcs.2⟩) hS (fun q _ h => hFc q h) hFc (fun r1 u t H1 locs1 ht _ hw hB _ hk1 hS1 => ?_)
  · subst hw
    obtain ⟨hP2, hD2⟩ := cx_joinM hP hD is hC ha ms (by rw [hn1]; exact hok) hk1 (ht ▸ hB)
    rw [hw'] at hP2 hD2
    exact h H1 locs1 ls hP2 hD2 hS1 hl
theorem cx_Gvv  {w0 : va_W}  (hA : A = va_A w0 s.heap.size) (C : cx_C p s m args c cc nL own D k) (hy : cx_Mv y bytes maxL ret n2) (hlk : Cond.methodLink own idx y ∈ cx_G) (hM : cx_M l y bytes maxL ret d D k (.ref b :: As) wc (fun sz => cx_Qv D wc w1 sz)) (hd : decode cc pc = .ok (.invokevirtual idx, 3)) (hR : d + 1 ≤ R.frames ∧ 8 + (maxL + 11) + 40 * d ≤ R.locals) (hcs : cells ≤ R.cells ∧ slots ≤ R.slots) (hn : As.length = n2) (hst : st0 = As.reverse ++ .ref b :: rest) (hro : (rest.map fun v => v.category).sum ≤ 8) (he : wc[0]? = some (b, .inr (ci, fs))) (hci : cx_cl[ci]? = some (y.cls, q.2)) (is : List Nat) (hC : is.map (fun i => ws[i]?) = wc.map some) (hnd : va_nd is = true) (ha : w1.map Prod.fst = wc.map Prod.fst) (ms : List (Option Nat)) (n1 : Nat) (hn1 : w1.length = n1) (hok : cx_okm ms is n1 = true) (hw' : cx_mg w1 ms ws = ws') (h : cx_S p l e R s m args below meth c A D nL cells slots Q (pc + 3) lv (rest) ws') : cx_S p l e R s m args below meth c A D nL cells slots Q pc lv st0 ws := by
  intro H locs ls hP hD hS hl
  have hPc : va_P D cx_cl wc H := hP.sub is (by
    have e := congrArg (fun z => z.filterMap id) hC
    simpa [List.filterMap_map, Function.comp_def] using e)
  have hDc : va_D A wc := hD.sub is hnd hC
  have hFc := cx_freeC hD hS is hC (fun q h => by rw [hA]; exact Or.inr h)
  refine va_callv (va_runV (As := As) (rest := rest) ⟨C.1, C.2.1, C.2.2.1, C.2.2.2.1, C.2.2.2.2.1⟩ (hM H.size) ⟨cx_callB C hy.1 hlk hR, C.2.2.2.2.1 _ hy.2.1, C.2.2.2.2.1 _ hy.2.2⟩ ⟨cx_P.blind, va_recv C.2.2.2.2.2.1 hPc hci he, cx_pre C hPc hDc⟩ rfl hn hl.1 hst (lv_room hro) hd ⟨hcs.1, hcs.2⟩) hS (fun q _ h => hFc q h) hFc (fun u t H1 locs1 ht _ hw hB _ hk1 hS1 => ?_)
  · obtain ⟨hP2, hD2⟩ := cx_joinM hP hD is hC ha ms (by rw [hn1]; exact hok) hk1 (ht ▸ hB)
    rw [hw'] at hP2 hD2
    exact h H1 locs1 ls hP2 hD2 hS1 hl
theorem cx_Gsi {r : Int32} {w0 : va_W}  (hA : A = va_A w0 s.heap.size) (C : cx_C p s m args c cc nL own D k) (hy : cx_Ms y bytes maxL ret n2) (hlk : Cond.methodLink own idx y ∈ cx_G) (hM : cx_M l y bytes maxL ret d D k (As) wc (fun sz => cx_Qi D r wc w1 sz)) (hd : decode cc pc = .ok (.invokestatic idx, 3)) (hR : d + 1 ≤ R.frames ∧ 8 + (maxL + 11) + 40 * d ≤ R.locals) (hcs : cells ≤ R.cells ∧ slots ≤ R.slots) (hn : As.length = n2) (hst : st0 = As.reverse ++ rest) (hro : (rest.map fun v => v.category).sum ≤ 8)  (is : List Nat) (hC : is.map (fun i => ws[i]?) = wc.map some) (hnd : va_nd is = true) (ha : w1.map Prod.fst = wc.map Prod.fst) (ms : List (Option Nat)) (n1 : Nat) (hn1 : w1.length = n1) (hok : cx_okm ms is n1 = true) (hw' : cx_mg w1 ms ws = ws') (h : cx_S p l e R s m args below meth c A D nL cells slots Q (pc + 3) lv (.int r :: rest) ws') : cx_S p l e R s m args below meth c A D nL cells slots Q pc lv st0 ws := by
  intro H locs ls hP hD hS hl
  have hPc : va_P D cx_cl wc H := hP.sub is (by
    have e := congrArg (fun z => z.filterMap id) hC
    simpa [List.filterMap_map, Function.comp_def] using e)
  have hDc : va_D A wc := hD.sub is hnd hC
  have hFc := cx_freeC hD hS is hC (fun q h => by rw [hA]; exact Or.inr h)
  refine va_calli (va_runS (As := As) (rest := rest) ⟨C.1, C.2.1, C.2.2.1, C.2.2.2.1, C.2.2.2.2.1⟩ (hM H.size) ⟨cx_callB C hy.1 hlk hR, C.2.2.2.2.1 _ hy.2⟩ ⟨cx_P.blind, cx_pre C hPc hDc⟩ rfl hn hl.1 hst (lv_room hro) hd ⟨hcs.1, hcs.2⟩) hS (fun q _ h => hFc q h) hFc (fun r1 u t H1 locs1 ht _ hw hB _ hk1 hS1 => ?_)
  · subst hw
    obtain ⟨hP2, hD2⟩ := cx_joinM hP hD is hC ha ms (by rw [hn1]; exact hok) hk1 (ht ▸ hB)
    rw [hw'] at hP2 hD2
    exact h H1 locs1 ls hP2 hD2 hS1 hl
theorem cx_Gsl {r : Int64} {w0 : va_W}  (hA : A = va_A w0 s.heap.size) (C : cx_C p s m args c cc nL own D k) (hy : cx_Ms y bytes maxL ret n2) (hlk : Cond.methodLink own idx y ∈ cx_G) (hM : cx_M l y bytes maxL ret d D k (As) wc (fun sz => cx_Ql D r wc w1 sz)) (hd : decode cc pc = .ok (.invokestatic idx, 3)) (hR : d + 1 ≤ R.frames ∧ 8 + (maxL + 11) + 40 * d ≤ R.locals) (hcs : cells ≤ R.cells ∧ slots ≤ R.slots) (hn : As.length = n2) (hst : st0 = As.reverse ++ rest) (hro : (rest.map fun v => v.category).sum ≤ 8)  (is : List Nat) (hC : is.map (fun i => ws[i]?) = wc.map some) (hnd : va_nd is = true) (ha : w1.map Prod.fst = wc.map Prod.fst) (ms : List (Option Nat)) (n1 : Nat) (hn1 : w1.length = n1) (hok : cx_okm ms is n1 = true) (hw' : cx_mg w1 ms ws = ws') (h : cx_S p l e R s m args below meth c A D nL cells slots Q (pc + 3) lv (.long r :: rest) ws') : cx_S p l e R s m args below meth c A D nL cells slots Q pc lv st0 ws := by
  intro H locs ls hP hD hS hl
  have hPc : va_P D cx_cl wc H := hP.sub is (by
    have e := congrArg (fun z => z.filterMap id) hC
    simpa [List.filterMap_map, Function.comp_def] using e)
  have hDc : va_D A wc := hD.sub is hnd hC
  have hFc := cx_freeC hD hS is hC (fun q h => by rw [hA]; exact Or.inr h)
  refine va_calll (va_runS (As := As) (rest := rest) ⟨C.1, C.2.1, C.2.2.1, C.2.2.2.1, C.2.2.2.2.1⟩ (hM H.size) ⟨cx_callB C hy.1 hlk hR, C.2.2.2.2.1 _ hy.2⟩ ⟨cx_P.blind, cx_pre C hPc hDc⟩ rfl hn hl.1 hst (lv_room hro) hd ⟨hcs.1, hcs.2⟩) hS (fun q _ h => hFc q h) hFc (fun r1 u t H1 locs1 ht _ hw hB _ hk1 hS1 => ?_)
  · subst hw
    obtain ⟨hP2, hD2⟩ := cx_joinM hP hD is hC ha ms (by rw [hn1]; exact hok) hk1 (ht ▸ hB)
    rw [hw'] at hP2 hD2
    exact h H1 locs1 ls hP2 hD2 hS1 hl
theorem cx_Gsv  {w0 : va_W}  (hA : A = va_A w0 s.heap.size) (C : cx_C p s m args c cc nL own D k) (hy : cx_Ms y bytes maxL ret n2) (hlk : Cond.methodLink own idx y ∈ cx_G) (hM : cx_M l y bytes maxL ret d D k (As) wc (fun sz => cx_Qv D wc w1 sz)) (hd : decode cc pc = .ok (.invokestatic idx, 3)) (hR : d + 1 ≤ R.frames ∧ 8 + (maxL + 11) + 40 * d ≤ R.locals) (hcs : cells ≤ R.cells ∧ slots ≤ R.slots) (hn : As.length = n2) (hst : st0 = As.reverse ++ rest) (hro : (rest.map fun v => v.category).sum ≤ 8)  (is : List Nat) (hC : is.map (fun i => ws[i]?) = wc.map some) (hnd : va_nd is = true) (ha : w1.map Prod.fst = wc.map Prod.fst) (ms : List (Option Nat)) (n1 : Nat) (hn1 : w1.length = n1) (hok : cx_okm ms is n1 = true) (hw' : cx_mg w1 ms ws = ws') (h : cx_S p l e R s m args below meth c A D nL cells slots Q (pc + 3) lv (rest) ws') : cx_S p l e R s m args below meth c A D nL cells slots Q pc lv st0 ws := by
  intro H locs ls hP hD hS hl
  have hPc : va_P D cx_cl wc H := hP.sub is (by
    have e := congrArg (fun z => z.filterMap id) hC
    simpa [List.filterMap_map, Function.comp_def] using e)
  have hDc : va_D A wc := hD.sub is hnd hC
  have hFc := cx_freeC hD hS is hC (fun q h => by rw [hA]; exact Or.inr h)
  refine va_callv (va_runS (As := As) (rest := rest) ⟨C.1, C.2.1, C.2.2.1, C.2.2.2.1, C.2.2.2.2.1⟩ (hM H.size) ⟨cx_callB C hy.1 hlk hR, C.2.2.2.2.1 _ hy.2⟩ ⟨cx_P.blind, cx_pre C hPc hDc⟩ rfl hn hl.1 hst (lv_room hro) hd ⟨hcs.1, hcs.2⟩) hS (fun q _ h => hFc q h) hFc (fun u t H1 locs1 ht _ hw hB _ hk1 hS1 => ?_)
  · obtain ⟨hP2, hD2⟩ := cx_joinM hP hD is hC ha ms (by rw [hn1]; exact hok) hk1 (ht ▸ hB)
    rw [hw'] at hP2 hD2
    exact h H1 locs1 ls hP2 hD2 hS1 hl
end CXC3
