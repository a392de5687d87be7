theorem cx_keep {A0 : Nat → Prop} {D : va_G} {cl : List vw_C} {ws wc : va_W} {H H1 : Heap} (hP : va_P D cl ws H) (hD : va_D A0 ws) (is : List Nat) (hC : is.map (fun i => ws[i]?) = wc.map some)
    (hk : ∀ q : Nat, q < H.size → ¬ va_A wc H.size q → H1[q]? = H[q]?) (hP1 : va_P D cl wc H1) : va_P D cl ws H1 := by
  intro j q h
  by_cases hx : ∃ (n : Nat) (e : va_E), wc[n]? = some (q.1, e)
  · obtain ⟨n, e, h3⟩ := hx
    have h4 : (is.map (fun i => ws[i]?))[n]? = some (some (q.1, e)) := by rw [hC, List.getElem?_map, h3]; rfl
    rw [List.getElem?_map] at h4
    cases h5 : is[n]? with
    | none => rw [h5] at h4; cases h4
    | some i =>
      rw [h5] at h4
      have h6 : ws[i]? = some (q.1, e) := Option.some.inj h4
      have h7 := hD.1 j i q (q.1, e) h h6 rfl
      subst h7
      rw [h] at h6
      have h8 : q = (q.1, e) := Option.some.inj h6
      rw [h8]
      exact hP1 n (q.1, e) h3
  · refine (hP j q h).kept (hk q.1 (hP j q h).lt ?_)
    rintro (⟨n, e, h3⟩ | h3)
    · exact hx ⟨n, e, h3⟩
    · have := (hP j q h).lt
      omega
theorem cx_Dm {A0 : Nat → Prop} {ws w1 : va_W} (hD : va_D A0 ws) (ha : w1.map Prod.fst = ws.map Prod.fst) : va_D A0 w1 := by
  have key : ∀ (j : Nat) (q : Nat × va_E), w1[j]? = some q → ∃ e : va_E, ws[j]? = some (q.1, e) := by
    intro j q h
    have h4 : (w1.map Prod.fst)[j]? = some q.1 := by rw [List.getElem?_map, h]; rfl
    rw [ha, List.getElem?_map] at h4
    cases h5 : ws[j]? with
    | none => rw [h5] at h4; cases h4
    | some x =>
      rw [h5] at h4
      have h6 : x.1 = q.1 := Option.some.inj h4
      exact ⟨x.2, by rw [← h6]⟩
  refine ⟨fun i j x y hx hy hxy => ?_, fun j q h => ?_⟩
  · obtain ⟨e1, g1⟩ := key i x hx
    obtain ⟨e2, g2⟩ := key j y hy
    exact hD.1 i j _ _ g1 g2 hxy
  · obtain ⟨e1, g1⟩ := key j q h
    exact hD.2 j (q.1, e1) g1
section CXC2
variable {p : Program} {l : Launch} {e : Env} {R : Room} {s : State} {m : MethodId} {args : Array Value} {below : List Frame} {meth : Method} {c : Code} {A : Nat → Prop} {D : va_G} {nL cells slots : Nat} {Q : State → Prop} {cc : ByteArray} {own : String} {k : Nat → ClassId} {pc : Nat} {lv : List (Nat × Value)} {st : List Value} {ws : va_W}
variable {y : MethodName} {bytes : ByteArray} {maxL d idx n2 b ci : Nat} {ret : Option FieldType} {As rest st0 : List Value} {wc w1 ws' : va_W} {is : List Nat} {fs : List Value} {q : vw_C}
theorem cx_Kvi {r : Int32} {w0 : va_W}  (hA : A = va_A w0 s.heap.size) (C : cx_C p s m args c cc nL own D k) (hy : cx_Mv y bytes maxL ret n2) (hlk : Cond.methodLink own idx y ∈ cx_G) (hM : cx_M l y bytes maxL ret d D k (.ref b :: As) wc (fun sz => cx_Qi D r wc wc sz)) (hd : decode cc pc = .ok (.invokevirtual idx, 3)) (hR : d + 1 ≤ R.frames ∧ 8 + (maxL + 11) + 40 * d ≤ R.locals) (hcs : cells ≤ R.cells ∧ slots ≤ R.slots) (hn : As.length = n2) (hst : st0 = As.reverse ++ .ref b :: rest) (hro : (rest.map fun v => v.category).sum ≤ 8) (he : wc[0]? = some (b, .inr (ci, fs))) (hci : cx_cl[ci]? = some (y.cls, q.2)) (is : List Nat) (hC : is.map (fun i => ws[i]?) = wc.map some) (hnd : va_nd is = true) (h : cx_S p l e R s m args below meth c A D nL cells slots Q (pc + 3) lv (.int r :: rest) ws) : cx_S p l e R s m args below meth c A D nL cells slots Q pc lv st0 ws := by
  intro H locs ls hP hD hS hl
  have hPc : va_P D cx_cl wc H := hP.sub is (by
    have e := congrArg (fun z => z.filterMap id) hC
    simpa [List.filterMap_map, Function.comp_def] using e)
  have hDc : va_D A wc := hD.sub is hnd hC
  have hFc := cx_freeC hD hS is hC (fun q h => by rw [hA]; exact Or.inr h)
  refine va_calli (va_runV (As := As) (rest := rest) ⟨C.1, C.2.1, C.2.2.1, C.2.2.2.1, C.2.2.2.2.1⟩ (hM H.size) ⟨cx_callB C hy.1 hlk hR, C.2.2.2.2.1 _ hy.2.1, C.2.2.2.2.1 _ hy.2.2⟩ ⟨cx_P.blind, va_recv C.2.2.2.2.2.1 hPc hci he, cx_pre C hPc hDc⟩ rfl hn hl.1 hst (lv_room hro) hd ⟨hcs.1, hcs.2⟩) hS (fun q _ h => hFc q h) hFc (fun r1 u t H1 locs1 ht _ hw hB _ hk1 hS1 => ?_)
  · subst hw
    exact h H1 locs1 ls (cx_keep hP hD is hC hk1 (ht ▸ hB)) hD hS1 hl
theorem cx_Kvl {r : Int64} {w0 : va_W}  (hA : A = va_A w0 s.heap.size) (C : cx_C p s m args c cc nL own D k) (hy : cx_Mv y bytes maxL ret n2) (hlk : Cond.methodLink own idx y ∈ cx_G) (hM : cx_M l y bytes maxL ret d D k (.ref b :: As) wc (fun sz => cx_Ql D r wc wc sz)) (hd : decode cc pc = .ok (.invokevirtual idx, 3)) (hR : d + 1 ≤ R.frames ∧ 8 + (maxL + 11) + 40 * d ≤ R.locals) (hcs : cells ≤ R.cells ∧ slots ≤ R.slots) (hn : As.length = n2) (hst : st0 = As.reverse ++ .ref b :: rest) (hro : (rest.map fun v => v.category).sum ≤ 8) (he : wc[0]? = some (b, .inr (ci, fs))) (hci : cx_cl[ci]? = some (y.cls, q.2)) (is : List Nat) (hC : is.map (fun i => ws[i]?) = wc.map some) (hnd : va_nd is = true) (h : cx_S p l e R s m args below meth c A D nL cells slots Q (pc + 3) lv (.long r :: rest) ws) : cx_S p l e R s m args below meth c A D nL cells slots Q pc lv st0 ws := by
  intro H locs ls hP hD hS hl
  have hPc : va_P D cx_cl wc H := hP.sub is (by
    have e := congrArg (fun z => z.filterMap id) hC
    simpa [List.filterMap_map, Function.comp_def] using e)
  have hDc : va_D A wc := hD.sub is hnd hC
  have hFc := cx_freeC hD hS is hC (fun q h => by rw [hA]; exact Or.inr h)
  refine va_calll (va_runV (As := As) (rest := rest) ⟨C.1, C.2.1, C.2.2.1, C.2.2.2.1, C.2.2.2.2.1⟩ (hM H.size) ⟨cx_callB C hy.1 hlk hR, C.2.2.2.2.1 _ hy.2.1, C.2.2.2.2.1 _ hy.2.2⟩ ⟨cx_P.blind, va_recv C.2.2.2.2.2.1 hPc hci he, cx_pre C hPc hDc⟩ rfl hn hl.1 hst (lv_room hro) hd ⟨hcs.1, hcs.2⟩) hS (fun q _ h => hFc q h) hFc (fun r1 u t H1 locs1 ht _ hw hB _ hk1 hS1 => ?_)
  · subst hw
    exact h H1 locs1 ls (cx_keep hP hD is hC hk1 (ht ▸ hB)) hD hS1 hl
theorem cx_Kvv  {w0 : va_W}  (hA : A = va_A w0 s.heap.size) (C : cx_C p s m args c cc nL own D k) (hy : cx_Mv y bytes maxL ret n2) (hlk : Cond.methodLink own idx y ∈ cx_G) (hM : cx_M l y bytes maxL ret d D k (.ref b :: As) wc (fun sz => cx_Qv D wc wc sz)) (hd : decode cc pc = .ok (.invokevirtual idx, 3)) (hR : d + 1 ≤ R.frames ∧ 8 + (maxL + 11) + 40 * d ≤ R.locals) (hcs : cells ≤ R.cells ∧ slots ≤ R.slots) (hn : As.length = n2) (hst : st0 = As.reverse ++ .ref b :: rest) (hro : (rest.map fun v => v.category).sum ≤ 8) (he : wc[0]? = some (b, .inr (ci, fs))) (hci : cx_cl[ci]? = some (y.cls, q.2)) (is : List Nat) (hC : is.map (fun i => ws[i]?) = wc.map some) (hnd : va_nd is = true) (h : cx_S p l e R s m args below meth c A D nL cells slots Q (pc + 3) lv (rest) ws) : cx_S p l e R s m args below meth c A D nL cells slots Q pc lv st0 ws := by
  intro H locs ls hP hD hS hl
  have hPc : va_P D cx_cl wc H := hP.sub is (by
    have e := congrArg (fun z => z.filterMap id) hC
    simpa [List.filterMap_map, Function.comp_def] using e)
  have hDc : va_D A wc := hD.sub is hnd hC
  have hFc := cx_freeC hD hS is hC (fun q h => by rw [hA]; exact Or.inr h)
  refine va_callv (va_runV (As := As) (rest := rest) ⟨C.1, C.2.1, C.2.2.1, C.2.2.2.1, C.2.2.2.2.1⟩ (hM H.size) ⟨cx_callB C hy.1 hlk hR, C.2.2.2.2.1 _ hy.2.1, C.2.2.2.2.1 _ hy.2.2⟩ ⟨cx_P.blind, va_recv C.2.2.2.2.2.1 hPc hci he, cx_pre C hPc hDc⟩ rfl hn hl.1 hst (lv_room hro) hd ⟨hcs.1, hcs.2⟩) hS (fun q _ h => hFc q h) hFc (fun u t H1 locs1 ht _ hw hB _ hk1 hS1 => ?_)
  · exact h H1 locs1 ls (cx_keep hP hD is hC hk1 (ht ▸ hB)) hD hS1 hl
theorem cx_Kvr {r : Nat} {w0 : va_W}  (hA : A = va_A w0 s.heap.size) (C : cx_C p s m args c cc nL own D k) (hy : cx_Mv y bytes maxL ret n2) (hlk : Cond.methodLink own idx y ∈ cx_G) (hM : cx_M l y bytes maxL ret d D k (.ref b :: As) wc (fun sz => cx_Qr D r wc wc sz)) (hd : decode cc pc = .ok (.invokevirtual idx, 3)) (hR : d + 1 ≤ R.frames ∧ 8 + (maxL + 11) + 40 * d ≤ R.locals) (hcs : cells ≤ R.cells ∧ slots ≤ R.slots) (hn : As.length = n2) (hst : st0 = As.reverse ++ .ref b :: rest) (hro : (rest.map fun v => v.category).sum ≤ 8) (he : wc[0]? = some (b, .inr (ci, fs))) (hci : cx_cl[ci]? = some (y.cls, q.2)) (is : List Nat) (hC : is.map (fun i => ws[i]?) = wc.map some) (hnd : va_nd is = true) (h : cx_S p l e R s m args below meth c A D nL cells slots Q (pc + 3) lv (.ref r :: rest) ws) : cx_S p l e R s m args below meth c A D nL cells slots Q pc lv st0 ws := by
  intro H locs ls hP hD hS hl
  have hPc : va_P D cx_cl wc H := hP.sub is (by
    have e := congrArg (fun z => z.filterMap id) hC
    simpa [List.filterMap_map, Function.comp_def] using e)
  have hDc : va_D A wc := hD.sub is hnd hC
  have hFc := cx_freeC hD hS is hC (fun q h => by rw [hA]; exact Or.inr h)
  refine va_callr (va_runV (As := As) (rest := rest) ⟨C.1, C.2.1, C.2.2.1, C.2.2.2.1, C.2.2.2.2.1⟩ (hM H.size) ⟨cx_callB C hy.1 hlk hR, C.2.2.2.2.1 _ hy.2.1, C.2.2.2.2.1 _ hy.2.2⟩ ⟨cx_P.blind, va_recv C.2.2.2.2.2.1 hPc hci he, cx_pre C hPc hDc⟩ rfl hn hl.1 hst (lv_room hro) hd ⟨hcs.1, hcs.2⟩) hS (fun q _ h => hFc q h) hFc (fun u ra t H1 locs1 ht _ hw hB _ hk1 hS1 => ?_)
  · obtain ⟨hra, hB⟩ := hB
    subst hra
    exact h H1 locs1 ls (cx_keep hP hD is hC hk1 (ht ▸ hB)) hD hS1 hl
theorem cx_Ksi {r : Int32} {w0 : va_W}  (hA : A = va_A w0 s.heap.size) (C : cx_C p s m args c cc nL own D k) (hy : cx_Ms y bytes maxL ret n2) (hlk : Cond.methodLink own idx y ∈ cx_G) (hM : cx_M l y bytes maxL ret d D k (As) wc (fun sz => cx_Qi D r wc wc sz)) (hd : decode cc pc = .ok (.invokestatic idx, 3)) (hR : d + 1 ≤ R.frames ∧ 8 + (maxL + 11) + 40 * d ≤ R.locals) (hcs : cells ≤ R.cells ∧ slots ≤ R.slots) (hn : As.length = n2) (hst : st0 = As.reverse ++ rest) (hro : (rest.map fun v => v.category).sum ≤ 8)  (is : List Nat) (hC : is.map (fun i => ws[i]?) = wc.map some) (hnd : va_nd is = true) (h : cx_S p l e R s m args below meth c A D nL cells slots Q (pc + 3) lv (.int r :: rest) ws) : cx_S p l e R s m args below meth c A D nL cells slots Q pc lv st0 ws := by
  intro H locs ls hP hD hS hl
  have hPc : va_P D cx_cl wc H := hP.sub is (by
    have e := congrArg (fun z => z.filterMap id) hC
    simpa [List.filterMap_map, Function.comp_def] using e)
  have hDc : va_D A wc := hD.sub is hnd hC
  have hFc := cx_freeC hD hS is hC (fun q h => by rw [hA]; exact Or.inr h)
  refine va_calli (va_runS (As := As) (rest := rest) ⟨C.1, C.2.1, C.2.2.1, C.2.2.2.1, C.2.2.2.2.1⟩ (hM H.size) ⟨cx_callB C hy.1 hlk hR, C.2.2.2.2.1 _ hy.2⟩ ⟨cx_P.blind, cx_pre C hPc hDc⟩ rfl hn hl.1 hst (lv_room hro) hd ⟨hcs.1, hcs.2⟩) hS (fun q _ h => hFc q h) hFc (fun r1 u t H1 locs1 ht _ hw hB _ hk1 hS1 => ?_)
  · subst hw
    exact h H1 locs1 ls (cx_keep hP hD is hC hk1 (ht ▸ hB)) hD hS1 hl
theorem cx_Ksl {r : Int64} {w0 : va_W}  (hA : A = va_A w0 s.heap.size) (C : cx_C p s m args c cc nL own D k) (hy : cx_Ms y bytes maxL ret n2) (hlk : Cond.methodLink own idx y ∈ cx_G) (hM : cx_M l y bytes maxL ret d D k (As) wc (fun sz => cx_Ql D r wc wc sz)) (hd : decode cc pc = .ok (.invokestatic idx, 3)) (hR : d + 1 ≤ R.frames ∧ 8 + (maxL + 11) + 40 * d ≤ R.locals) (hcs : cells ≤ R.cells ∧ slots ≤ R.slots) (hn : As.length = n2) (hst : st0 = As.reverse ++ rest) (hro : (rest.map fun v => v.category).sum ≤ 8)  (is : List Nat) (hC : is.map (fun i => ws[i]?) = wc.map some) (hnd : va_nd is = true) (h : cx_S p l e R s m args below meth c A D nL cells slots Q (pc + 3) lv (.long r :: rest) ws) : cx_S p l e R s m args below meth c A D nL cells slots Q pc lv st0 ws := by
  intro H locs ls hP hD hS hl
  have hPc : va_P D cx_cl wc H := hP.sub is (by
    have e := congrArg (fun z => z.filterMap id) hC
    simpa [List.filterMap_map, Function.comp_def] using e)
  have hDc : va_D A wc := hD.sub is hnd hC
  have hFc := cx_freeC hD hS is hC (fun q h => by rw [hA]; exact Or.inr h)
  refine va_calll (va_runS (As := As) (rest := rest) ⟨C.1, C.2.1, C.2.2.1, C.2.2.2.1, C.2.2.2.2.1⟩ (hM H.size) ⟨cx_callB C hy.1 hlk hR, C.2.2.2.2.1 _ hy.2⟩ ⟨cx_P.blind, cx_pre C hPc hDc⟩ rfl hn hl.1 hst (lv_room hro) hd ⟨hcs.1, hcs.2⟩) hS (fun q _ h => hFc q h) hFc (fun r1 u t H1 locs1 ht _ hw hB _ hk1 hS1 => ?_)
  · subst hw
    exact h H1 locs1 ls (cx_keep hP hD is hC hk1 (ht ▸ hB)) hD hS1 hl
theorem cx_Ksv  {w0 : va_W}  (hA : A = va_A w0 s.heap.size) (C : cx_C p s m args c cc nL own D k) (hy : cx_Ms y bytes maxL ret n2) (hlk : Cond.methodLink own idx y ∈ cx_G) (hM : cx_M l y bytes maxL ret d D k (As) wc (fun sz => cx_Qv D wc wc sz)) (hd : decode cc pc = .ok (.invokestatic idx, 3)) (hR : d + 1 ≤ R.frames ∧ 8 + (maxL + 11) + 40 * d ≤ R.locals) (hcs : cells ≤ R.cells ∧ slots ≤ R.slots) (hn : As.length = n2) (hst : st0 = As.reverse ++ rest) (hro : (rest.map fun v => v.category).sum ≤ 8)  (is : List Nat) (hC : is.map (fun i => ws[i]?) = wc.map some) (hnd : va_nd is = true) (h : cx_S p l e R s m args below meth c A D nL cells slots Q (pc + 3) lv (rest) ws) : cx_S p l e R s m args below meth c A D nL cells slots Q pc lv st0 ws := by
  intro H locs ls hP hD hS hl
  have hPc : va_P D cx_cl wc H := hP.sub is (by
    have e := congrArg (fun z => z.filterMap id) hC
    simpa [List.filterMap_map, Function.comp_def] using e)
  have hDc : va_D A wc := hD.sub is hnd hC
  have hFc := cx_freeC hD hS is hC (fun q h => by rw [hA]; exact Or.inr h)
  refine va_callv (va_runS (As := As) (rest := rest) ⟨C.1, C.2.1, C.2.2.1, C.2.2.2.1, C.2.2.2.2.1⟩ (hM H.size) ⟨cx_callB C hy.1 hlk hR, C.2.2.2.2.1 _ hy.2⟩ ⟨cx_P.blind, cx_pre C hPc hDc⟩ rfl hn hl.1 hst (lv_room hro) hd ⟨hcs.1, hcs.2⟩) hS (fun q _ h => hFc q h) hFc (fun u t H1 locs1 ht _ hw hB _ hk1 hS1 => ?_)
  · exact h H1 locs1 ls (cx_keep hP hD is hC hk1 (ht ▸ hB)) hD hS1 hl
theorem cx_Kni {r : Int32} {w0 : va_W} {host : String} (hA : A = va_A w0 s.heap.size) (C : cx_C p s m args c cc nL own D k) (hy : cx_Ms y bytes maxL ret n2) (hlk : ∀ {U : State}, cx_N U → va_Nw (.methodLinkNest own idx y host) U) (hM : cx_M l y bytes maxL ret d D k (As) wc (fun sz => cx_Qi D r wc wc sz)) (hd : decode cc pc = .ok (.invokestatic idx, 3)) (hR : d + 1 ≤ R.frames ∧ 8 + (maxL + 11) + 40 * d ≤ R.locals) (hcs : cells ≤ R.cells ∧ slots ≤ R.slots) (hn : As.length = n2) (hst : st0 = As.reverse ++ rest) (hro : (rest.map fun v => v.category).sum ≤ 8)  (is : List Nat) (hC : is.map (fun i => ws[i]?) = wc.map some) (hnd : va_nd is = true) (h : cx_S p l e R s m args below meth c A D nL cells slots Q (pc + 3) lv (.int r :: rest) ws) : cx_S p l e R s m args below meth c A D nL cells slots Q pc lv st0 ws := by
  intro H locs ls hP hD hS hl
  have hPc : va_P D cx_cl wc H := hP.sub is (by
    have e := congrArg (fun z => z.filterMap id) hC
    simpa [List.filterMap_map, Function.comp_def] using e)
  have hDc : va_D A wc := hD.sub is hnd hC
  have hFc := cx_freeC hD hS is hC (fun q h => by rw [hA]; exact Or.inr h)
  refine va_calli (va_runSN (As := As) (rest := rest) (host := host) ⟨C.1, C.2.1, C.2.2.1, C.2.2.2.1, C.2.2.2.2.1⟩ (hM H.size) ⟨va_cnB n2 C.2.2.2.2.1 (cx_goodG hy.1.2.2) rfl rfl rfl (hlk C.2.2.2.2.2.2) (C.2.2.2.2.1 _ hy.1.2.1) hy.1.1 hR, C.2.2.2.2.1 _ hy.2, trivial⟩ ⟨cx_P.blind, cx_pre C hPc hDc⟩ rfl hn hl.1 hst (lv_room hro) hd ⟨hcs.1, hcs.2⟩) hS (fun q _ h => hFc q h) hFc (fun r1 u t H1 locs1 ht _ hw hB _ hk1 hS1 => ?_)
  · subst hw
    exact h H1 locs1 ls (cx_keep hP hD is hC hk1 (ht ▸ hB)) hD hS1 hl
theorem cx_Knl {r : Int64} {w0 : va_W} {host : String} (hA : A = va_A w0 s.heap.size) (C : cx_C p s m args c cc nL own D k) (hy : cx_Ms y bytes maxL ret n2) (hlk : ∀ {U : State}, cx_N U → va_Nw (.methodLinkNest own idx y host) U) (hM : cx_M l y bytes maxL ret d D k (As) wc (fun sz => cx_Ql D r wc wc sz)) (hd : decode cc pc = .ok (.invokestatic idx, 3)) (hR : d + 1 ≤ R.frames ∧ 8 + (maxL + 11) + 40 * d ≤ R.locals) (hcs : cells ≤ R.cells ∧ slots ≤ R.slots) (hn : As.length = n2) (hst : st0 = As.reverse ++ rest) (hro : (rest.map fun v => v.category).sum ≤ 8)  (is : List Nat) (hC : is.map (fun i => ws[i]?) = wc.map some) (hnd : va_nd is = true) (h : cx_S p l e R s m args below meth c A D nL cells slots Q (pc + 3) lv (.long r :: rest) ws) : cx_S p l e R s m args below meth c A D nL cells slots Q pc lv st0 ws := by
  intro H locs ls hP hD hS hl
  have hPc : va_P D cx_cl wc H := hP.sub is (by
    have e := congrArg (fun z => z.filterMap id) hC
    simpa [List.filterMap_map, Function.comp_def] using e)
  have hDc : va_D A wc := hD.sub is hnd hC
  have hFc := cx_freeC hD hS is hC (fun q h => by rw [hA]; exact Or.inr h)
  refine va_calll (va_runSN (As := As) (rest := rest) (host := host) ⟨C.1, C.2.1, C.2.2.1, C.2.2.2.1, C.2.2.2.2.1⟩ (hM H.size) ⟨va_cnB n2 C.2.2.2.2.1 (cx_goodG hy.1.2.2) rfl rfl rfl (hlk C.2.2.2.2.2.2) (C.2.2.2.2.1 _ hy.1.2.1) hy.1.1 hR, C.2.2.2.2.1 _ hy.2, trivial⟩ ⟨cx_P.blind, cx_pre C hPc hDc⟩ rfl hn hl.1 hst (lv_room hro) hd ⟨hcs.1, hcs.2⟩) hS (fun q _ h => hFc q h) hFc (fun r1 u t H1 locs1 ht _ hw hB _ hk1 hS1 => ?_)
  · subst hw
    exact h H1 locs1 ls (cx_keep hP hD is hC hk1 (ht ▸ hB)) hD hS1 hl
theorem cx_Knv  {w0 : va_W} {host : String} (hA : A = va_A w0 s.heap.size) (C : cx_C p s m args c cc nL own D k) (hy : cx_Ms y bytes maxL ret n2) (hlk : ∀ {U : State}, cx_N U → va_Nw (.methodLinkNest own idx y host) U) (hM : cx_M l y bytes maxL ret d D k (As) wc (fun sz => cx_Qv D wc wc sz)) (hd : decode cc pc = .ok (.invokestatic idx, 3)) (hR : d + 1 ≤ R.frames ∧ 8 + (maxL + 11) + 40 * d ≤ R.locals) (hcs : cells ≤ R.cells ∧ slots ≤ R.slots) (hn : As.length = n2) (hst : st0 = As.reverse ++ rest) (hro : (rest.map fun v => v.category).sum ≤ 8)  (is : List Nat) (hC : is.map (fun i => ws[i]?) = wc.map some) (hnd : va_nd is = true) (h : cx_S p l e R s m args below meth c A D nL cells slots Q (pc + 3) lv (rest) ws) : cx_S p l e R s m args below meth c A D nL cells slots Q pc lv st0 ws := by
  intro H locs ls hP hD hS hl
  have hPc : va_P D cx_cl wc H := hP.sub is (by
    have e := congrArg (fun z => z.filterMap id) hC
    simpa [List.filterMap_map, Function.comp_def] using e)
  have hDc : va_D A wc := hD.sub is hnd hC
  have hFc := cx_freeC hD hS is hC (fun q h => by rw [hA]; exact Or.inr h)
  refine va_callv (va_runSN (As := As) (rest := rest) (host := host) ⟨C.1, C.2.1, C.2.2.1, C.2.2.2.1, C.2.2.2.2.1⟩ (hM H.size) ⟨va_cnB n2 C.2.2.2.2.1 (cx_goodG hy.1.2.2) rfl rfl rfl (hlk C.2.2.2.2.2.2) (C.2.2.2.2.1 _ hy.1.2.1) hy.1.1 hR, C.2.2.2.2.1 _ hy.2, trivial⟩ ⟨cx_P.blind, cx_pre C hPc hDc⟩ rfl hn hl.1 hst (lv_room hro) hd ⟨hcs.1, hcs.2⟩) hS (fun q _ h => hFc q h) hFc (fun u t H1 locs1 ht _ hw hB _ hk1 hS1 => ?_)
  · exact h H1 locs1 ls (cx_keep hP hD is hC hk1 (ht ▸ hB)) hD hS1 hl
theorem cx_Fvi {r : Int32} {w0 : va_W}  (hA : A = va_A w0 s.heap.size) (C : cx_C p s m args c cc nL own D k) (hy : cx_Mv y bytes maxL ret n2) (hlk : Cond.methodLink own idx y ∈ cx_G) (hM : cx_M l y bytes maxL ret d D k (.ref b :: As) ws (fun sz => cx_Qi D r ws w1 sz)) (hd : decode cc pc = .ok (.invokevirtual idx, 3)) (hR : d + 1 ≤ R.frames ∧ 8 + (maxL + 11) + 40 * d ≤ R.locals) (hcs : cells ≤ R.cells ∧ slots ≤ R.slots) (hn : As.length = n2) (hst : st0 = As.reverse ++ .ref b :: rest) (hro : (rest.map fun v => v.category).sum ≤ 8) (he : ws[0]? = some (b, .inr (ci, fs))) (hci : cx_cl[ci]? = some (y.cls, q.2)) (ha : w1.map Prod.fst = ws.map Prod.fst) (h : cx_S p l e R s m args below meth c A D nL cells slots Q (pc + 3) lv (.int r :: rest) w1) : cx_S p l e R s m args below meth c A D nL cells slots Q pc lv st0 ws := by
  intro H locs ls hP hD hS hl
  have hPc : va_P D cx_cl ws H := hP
  have hDc : va_D A ws := hD
  have hFc : ∀ q, va_A ws H.size q → A q := by
    intro q hq
    rcases hq with ⟨n, e, h3⟩ | h3
    · exact hD.2 n (q, e) h3
    · rw [hA]; exact Or.inr (Nat.le_trans hS.1 h3)
  refine va_calli (va_runV (As := As) (rest := rest) ⟨C.1, C.2.1, C.2.2.1, C.2.2.2.1, C.2.2.2.2.1⟩ (hM H.size) ⟨cx_callB C hy.1 hlk hR, C.2.2.2.2.1 _ hy.2.1, C.2.2.2.2.1 _ hy.2.2⟩ ⟨cx_P.blind, va_recv C.2.2.2.2.2.1 hPc hci he, cx_pre C hPc hDc⟩ rfl hn hl.1 hst (lv_room hro) hd ⟨hcs.1, hcs.2⟩) hS (fun q _ h => hFc q h) hFc (fun r1 u t H1 locs1 ht _ hw hB _ hk1 hS1 => ?_)
  · subst hw
    exact h H1 locs1 ls (ht ▸ hB) (cx_Dm hD ha) hS1 hl
theorem cx_Fvl {r : Int64} {w0 : va_W}  (hA : A = va_A w0 s.heap.size) (C : cx_C p s m args c cc nL own D k) (hy : cx_Mv y bytes maxL ret n2) (hlk : Cond.methodLink own idx y ∈ cx_G) (hM : cx_M l y bytes maxL ret d D k (.ref b :: As) ws (fun sz => cx_Ql D r ws w1 sz)) (hd : decode cc pc = .ok (.invokevirtual idx, 3)) (hR : d + 1 ≤ R.frames ∧ 8 + (maxL + 11) + 40 * d ≤ R.locals) (hcs : cells ≤ R.cells ∧ slots ≤ R.slots) (hn : As.length = n2) (hst : st0 = As.reverse ++ .ref b :: rest) (hro : (rest.map fun v => v.category).sum ≤ 8) (he : ws[0]? = some (b, .inr (ci, fs))) (hci : cx_cl[ci]? = some (y.cls, q.2)) (ha : w1.map Prod.fst = ws.map Prod.fst) (h : cx_S p l e R s m args below meth c A D nL cells slots Q (pc + 3) lv (.long r :: rest) w1) : cx_S p l e R s m args below meth c A D nL cells slots Q pc lv st0 ws := by
  intro H locs ls hP hD hS hl
  have hPc : va_P D cx_cl ws H := hP
  have hDc : va_D A ws := hD
  have hFc : ∀ q, va_A ws H.size q → A q := by
    intro q hq
    rcases hq with ⟨n, e, h3⟩ | h3
    · exact hD.2 n (q, e) h3
    · rw [hA]; exact Or.inr (Nat.le_trans hS.1 h3)
  refine va_calll (va_runV (As := As) (rest := rest) ⟨C.1, C.2.1, C.2.2.1, C.2.2.2.1, C.2.2.2.2.1⟩ (hM H.size) ⟨cx_callB C hy.1 hlk hR, C.2.2.2.2.1 _ hy.2.1, C.2.2.2.2.1 _ hy.2.2⟩ ⟨cx_P.blind, va_recv C.2.2.2.2.2.1 hPc hci he, cx_pre C hPc hDc⟩ rfl hn hl.1 hst (lv_room hro) hd ⟨hcs.1, hcs.2⟩) hS (fun q _ h => hFc q h) hFc (fun r1 u t H1 locs1 ht _ hw hB _ hk1 hS1 => ?_)
  · subst hw
    exact h H1 locs1 ls (ht ▸ hB) (cx_Dm hD ha) hS1 hl
theorem cx_Fvv  {w0 : va_W}  (hA : A = va_A w0 s.heap.size) (C : cx_C p s m args c cc nL own D k) (hy : cx_Mv y bytes maxL ret n2) (hlk : Cond.methodLink own idx y ∈ cx_G) (hM : cx_M l y bytes maxL ret d D k (.ref b :: As) ws (fun sz => cx_Qv D ws w1 sz)) (hd : decode cc pc = .ok (.invokevirtual idx, 3)) (hR : d + 1 ≤ R.frames ∧ 8 + (maxL + 11) + 40 * d ≤ R.locals) (hcs : cells ≤ R.cells ∧ slots ≤ R.slots) (hn : As.length = n2) (hst : st0 = As.reverse ++ .ref b :: rest) (hro : (rest.map fun v => v.category).sum ≤ 8) (he : ws[0]? = some (b, .inr (ci, fs))) (hci : cx_cl[ci]? = some (y.cls, q.2)) (ha : w1.map Prod.fst = ws.map Prod.fst) (h : cx_S p l e R s m args below meth c A D nL cells slots Q (pc + 3) lv (rest) w1) : cx_S p l e R s m args below meth c A D nL cells slots Q pc lv st0 ws := by
  intro H locs ls hP hD hS hl
  have hPc : va_P D cx_cl ws H := hP
  have hDc : va_D A ws := hD
  have hFc : ∀ q, va_A ws H.size q → A q := by
    intro q hq
    rcases hq with ⟨n, e, h3⟩ | h3
    · exact hD.2 n (q, e) h3
    · rw [hA]; exact Or.inr (Nat.le_trans hS.1 h3)
  refine va_callv (va_runV (As := As) (rest := rest) ⟨C.1, C.2.1, C.2.2.1, C.2.2.2.1, C.2.2.2.2.1⟩ (hM H.size) ⟨cx_callB C hy.1 hlk hR, C.2.2.2.2.1 _ hy.2.1, C.2.2.2.2.1 _ hy.2.2⟩ ⟨cx_P.blind, va_recv C.2.2.2.2.2.1 hPc hci he, cx_pre C hPc hDc⟩ rfl hn hl.1 hst (lv_room hro) hd ⟨hcs.1, hcs.2⟩) hS (fun q _ h => hFc q h) hFc (fun u t H1 locs1 ht _ hw hB _ hk1 hS1 => ?_)
  · exact h H1 locs1 ls (ht ▸ hB) (cx_Dm hD ha) hS1 hl
theorem cx_Fvr {r : Nat} {w0 : va_W}  (hA : A = va_A w0 s.heap.size) (C : cx_C p s m args c cc nL own D k) (hy : cx_Mv y bytes maxL ret n2) (hlk : Cond.methodLink own idx y ∈ cx_G) (hM : cx_M l y bytes maxL ret d D k (.ref b :: As) ws (fun sz => cx_Qr D r ws w1 sz)) (hd : decode cc pc = .ok (.invokevirtual idx, 3)) (hR : d + 1 ≤ R.frames ∧ 8 + (maxL + 11) + 40 * d ≤ R.locals) (hcs : cells ≤ R.cells ∧ slots ≤ R.slots) (hn : As.length = n2) (hst : st0 = As.reverse ++ .ref b :: rest) (hro : (rest.map fun v => v.category).sum ≤ 8) (he : ws[0]? = some (b, .inr (ci, fs))) (hci : cx_cl[ci]? = some (y.cls, q.2)) (ha : w1.map Prod.fst = ws.map Prod.fst) (h : cx_S p l e R s m args below meth c A D nL cells slots Q (pc + 3) lv (.ref r :: rest) w1) : cx_S p l e R s m args below meth c A D nL cells slots Q pc lv st0 ws := by
  intro H locs ls hP hD hS hl
  have hPc : va_P D cx_cl ws H := hP
  have hDc : va_D A ws := hD
  have hFc : ∀ q, va_A ws H.size q → A q := by
    intro q hq
    rcases hq with ⟨n, e, h3⟩ | h3
    · exact hD.2 n (q, e) h3
    · rw [hA]; exact Or.inr (Nat.le_trans hS.1 h3)
  refine va_callr (va_runV (As := As) (rest := rest) ⟨C.1, C.2.1, C.2.2.1, C.2.2.2.1, C.2.2.2.2.1⟩ (hM H.size) ⟨cx_callB C hy.1 hlk hR, C.2.2.2.2.1 _ hy.2.1, C.2.2.2.2.1 _ hy.2.2⟩ ⟨cx_P.blind, va_recv C.2.2.2.2.2.1 hPc hci he, cx_pre C hPc hDc⟩ rfl hn hl.1 hst (lv_room hro) hd ⟨hcs.1, hcs.2⟩) hS (fun q _ h => hFc q h) hFc (fun u ra t H1 locs1 ht _ hw hB _ hk1 hS1 => ?_)
  · obtain ⟨hra, hB⟩ := hB
    subst hra
    exact h H1 locs1 ls (ht ▸ hB) (cx_Dm hD ha) hS1 hl
end CXC2
