def cx_lens : List Nat := [6, 6, 4, 7, 4, 4, 4, 7]
def cx_byts : List (List Int32) := [[112, 101, 114, 115, 111, 110], [112, 97, 114, 101, 110, 116], [110, 101, 97, 114], [112, 105, 99, 116, 117, 114, 101], [104, 101, 97, 100], [110, 97, 109, 101], [106, 111, 105, 110], [115, 116, 114, 97, 110, 103, 101]]
def cx_txts : List String := ["person", "parent", "near", "picture", "head", "name", "join", "strange"]
def cx_tabs : List Int32 := [4, 2, 2, 2, 5, 4, 3, 1]
/-- what the text's reader needs of the start: the table of numbers, the words -/
def cx_E (te : Nat) (adK adV : Nat → Nat) (A : Nat → Prop) (U : State) (H : Heap) : Prop :=
  va_Z "NamelessBox$Text" "NUMBERS_OF" "[I" (.ref te) A U H ∧ va_T .int te 8 (fun j => .int (cx_tabs.getD j 0)) A U H ∧ va_Z "java/lang/String" "COMPACT_STRINGS" "Z" (.int 1) A U H ∧ va_Zq "jdk/internal/util/Preconditions" "SIOOBE_FORMATTER" "Ljava/util/function/BiFunction;" A U H ∧ vk_S 8 cx_lens cx_byts adK adV A U H ∧ ∀ i : Nat, i < 8 → vk_R "NamelessBox$Text" (89 + 2 * i) (cx_txts.getD i "") (adK i) U
theorem cx_E.go {te : Nat} {adK adV : Nat → Nat} {A B : Nat → Prop} {s U : State} (h : cx_E te adK adV A s s.heap) (hW : s.WarmedH U.vm) (hq : ∀ a : Nat, a < s.heap.size → ¬ A a → U.heap[a]? = s.heap[a]?) (hAB : ∀ q, B q → A q) : cx_E te adK adV B U U.heap :=
  ⟨((h.1.kept hq).moved hW.alike).narrow hAB, ((h.2.1.kept hq).moved hW.alike).narrow hAB, ((h.2.2.1.kept hq).moved hW.alike).narrow hAB, ((h.2.2.2.1.kept hq).moved hW.alike).narrow hAB, ((h.2.2.2.2.1.kept hq).moved hW.alike).narrow hAB, fun i hi => (h.2.2.2.2.2 i hi).warm hW⟩
theorem cx_E.same {te : Nat} {adK adV : Nat → Nat} {A : Nat → Prop} {s U : State} (h : cx_E te adK adV A s s.heap) (hv : s.vm = U.vm) (hh : U.heap = s.heap) : cx_E te adK adV A U U.heap := by
  have ha : s.vm.Alike U.vm := hv ▸ Vm.Alike.refl s.vm
  rw [hh]
  exact ⟨h.1.moved ha, h.2.1.moved ha, h.2.2.1.moved ha, h.2.2.2.1.moved ha, h.2.2.2.2.1.moved ha, fun i hi => (h.2.2.2.2.2 i hi).same hv.symm⟩
def cx_PE (D : va_G) (k : Nat → ClassId) (te : Nat) (adK adV : Nat → Nat) (av : List Value) (ws : va_W) (sz : Nat) : Array Value → State → Prop := va_Pc av (fun U => U.heap.size = sz ∧ va_P D cx_cl ws U.heap ∧ cx_K D k U ∧ va_D (fun _ => True) ws ∧ cx_E te adK adV (va_A ws sz) U U.heap)
theorem cx_PE.blind {D : va_G} {k : Nat → ClassId} {te : Nat} {adK adV : Nat → Nat} {av : List Value} {ws : va_W} {sz : Nat} : FrameBlind (cx_PE D k te adK adV av ws sz) := fun a U g mk q => by
  obtain ⟨q0, q1, q2, q3, q4, q5⟩ := q
  exact ⟨q0, q1, q2, ⟨va_K.moved (u := U) (U := U.calling g mk a) (Vm.Alike.refl U.vm) q3.1, q3.2.same rfl⟩, q4, q5.same rfl rfl⟩
abbrev cx_ME (l : Launch) (y : MethodName) (bytes : ByteArray) (maxL : Nat) (ret : Option FieldType) (d : Nat) (D : va_G) (k : Nat → ClassId) (te : Nat) (adK adV : Nat → Nat) (av : List Value) (w0 : va_W) (Qc : Nat → Array Value → State → Outcome → State → Prop) : Prop :=
  ∀ sz : Nat, Met l y (.code y bytes maxL ret :: cx_G) (cx_rm d) (cx_PE D k te adK adV av w0 sz) (Qc sz) 0 0 (va_A w0 sz)
theorem cx_metE {l : Launch} {y : MethodName} {cc : ByteArray} {maxL d : Nat} {ret : Option FieldType} {D : va_G} {k : Nat → ClassId} {te : Nat} {adK adV : Nat → Nat} {av : List Value} {w0 : va_W} {Qc : Nat → Array Value → State → Outcome → State → Prop} {own : String} (hy : plainName y.cls = true) (ho : y.cls = own) (hn : (lg_sl av).length ≤ maxL)
    (body : ∀ (p : Program) (e : Env) (s : State) (m : MethodId) (args : Array Value) (below : List Frame) (meth : Method) (c : Code) (A : Nat → Prop) (Q : State → Prop), cx_C p s m args c cc maxL own D k → cx_E te adK adV A s s.heap → A = va_A w0 s.heap.size → Q = MQ below (Qc s.heap.size) args s 0 0 (va_A w0 s.heap.size) → meth.sig.returnType = ret → meth.locks = false →
      cx_S p l e (cx_rm d) s m args below meth c A D maxL 0 0 Q 0 (lv_args 0 av) [] w0) : cx_ME l y cc maxL ret d D k te adK adV av w0 Qc := by
  intro sz
  refine Met.ofW (cc := cc) (maxL := maxL) (ret := ret) hy rfl ?_
  intro p e s m args below meth c s₁ B hml hv
  obtain ⟨rfl, hsz, hP, hK, hD0, hE⟩ := hv
  have hts := atoms_spec (ws := .code y cc maxL ret :: cx_G) B.pre
  have hown : s.vm.findClass own = some m.cls := ho ▸ findClass_of_methodNamed B.named
  subst hsz
  have hl := lv_entry av (n := maxL) hn
  rw [lg_entry_eq]
  exact body p e s m av.toArray below meth c _ _ ⟨B.exec, B.bytes, hml, hown, fun w hw => hts w (List.mem_cons_of_mem _ hw), hK⟩ hE rfl rfl B.returns B.notSynchronized s.heap [] _ hP hD0.self va_S.rf hl
section CXE
variable {p : Program} {l : Launch} {e : Env} {R : Room} {s : State} {m : MethodId} {args : Array Value} {below : List Frame} {meth : Method} {c : Code} {A : Nat → Prop} {D : va_G} {nL cells slots : Nat} {Q : State → Prop} {cc : ByteArray} {own : String} {k : Nat → ClassId} {pc : Nat} {lv : List (Nat × Value)} {st : List Value} {ws : va_W}
variable {te : Nat} {adK adV : Nat → Nat}
theorem cx_preE {wc : va_W} {H : Heap} {locs : List Loc} (C : cx_C p s m args c cc nL own D k) (hE : cx_E te adK adV A s s.heap) (hS : va_S A s.heap H locs) (hFc : ∀ q, va_A wc H.size q → A q) {av : List Value} (hP : va_P D cx_cl wc H) (hD : va_D A wc) : ∀ U : State, U.heap = H → s.WarmedH U.vm → cx_PE D k te adK adV av wc H.size av.toArray U := fun U hU hW => ⟨rfl, by rw [hU], by rw [hU]; exact hP, C.2.2.2.2.2.warm hW, hD.weaken (fun _ _ _ _ => trivial), hE.go hW (by rw [hU]; exact hS.2.1) hFc⟩
theorem cx_gets (C : cx_C p s m args c cc nL own D k) {Cn n dd : String} {v : Value} {idx : Nat} (hd : decode cc pc = .ok (.getstatic idx, 3)) (hZ : va_Z Cn n dd v A s s.heap) (hw : Cond.fieldLink own idx Cn n dd ∈ cx_G) (h : cx_S p l e R s m args below meth c A D nL cells slots Q (pc + 3) lv (v :: st) ws) : cx_S p l e R s m args below meth c A D nL cells slots Q (pc) lv (st) ws := fun H locs ls hP hD hS hl => va_gets C.1 C.2.1 hZ hS C.2.2.2.1 (C.2.2.2.2.1 _ hw) (fun _ h9 => h9) hd (h H locs ls hP hD hS hl)
theorem cx_ti (C : cx_C p s m args c cc nL own D k) {t N : Nat} {f : Nat → Int32} {i : Int32} (hd : decode cc pc = .ok (.iaload, 1)) (hT : va_T .int t N (fun j => .int (f j)) A s s.heap) (hi : vp_in i N) (h : cx_S p l e R s m args below meth c A D nL cells slots Q (pc + 1) lv (.int (f (cx_ix i)) :: st) ws) : cx_S p l e R s m args below meth c A D nL cells slots Q (pc) lv (.int i :: .ref t :: st) ws := fun H locs ls hP hD hS hl => va_ti C.1 C.2.1 hT hS hi rfl hd (h H locs ls hP hD hS hl)
theorem cx_tb (C : cx_C p s m args c cc nL own D k) {t N : Nat} {f : Nat → Int32} {i : Int32} (hd : decode cc pc = .ok (.baload, 1)) (hT : va_T .byte t N (fun j => .int (f j)) A s s.heap) (hi : vp_in i N) (h : cx_S p l e R s m args below meth c A D nL cells slots Q (pc + 1) lv (.int (f (cx_ix i)) :: st) ws) : cx_S p l e R s m args below meth c A D nL cells slots Q (pc) lv (.int i :: .ref t :: st) ws := fun H locs ls hP hD hS hl => va_tb C.1 C.2.1 hT hS hi rfl hd (h H locs ls hP hD hS hl)
theorem cx_tlen (C : cx_C p s m args c cc nL own D k) {t N : Nat} {ty : FieldType} {f : Nat → Value} (hd : decode cc pc = .ok (.arraylength, 1)) (hT : va_T ty t N f A s s.heap) (h : cx_S p l e R s m args below meth c A D nL cells slots Q (pc + 1) lv (.int (Int32.ofNat N) :: st) ws) : cx_S p l e R s m args below meth c A D nL cells slots Q (pc) lv (.ref t :: st) ws := fun H locs ls hP hD hS hl => va_tlen C.1 C.2.1 hT hS rfl hd (h H locs ls hP hD hS hl)
theorem cx_getS (C : cx_C p s m args c cc nL own D k) {oo n dd : String} {v : Value} {idx a : Nat} (hd : decode cc pc = .ok (.getfield idx, 3)) (hO : va_OF oo n dd v a A s s.heap) (hw : Cond.fieldLink own idx oo n dd ∈ cx_G) (h : cx_S p l e R s m args below meth c A D nL cells slots Q (pc + 3) lv (v :: st) ws) : cx_S p l e R s m args below meth c A D nL cells slots Q (pc) lv (.ref a :: st) ws := fun H locs ls hP hD hS hl => vk_getf C.1 C.2.1 hO hS C.2.2.2.1 (C.2.2.2.2.1 _ hw) (fun _ h9 => h9) hd (h H locs ls hP hD hS hl)
theorem cx_ldcS (C : cx_C p s m args c cc nL own D k) {idx a : Nat} {tx : String} (hd : decode cc pc = .ok (.ldc idx, 2)) (hR : vk_R own idx tx a s) (h : cx_S p l e R s m args below meth c A D nL cells slots Q (pc + 2) lv (.ref a :: st) ws) : cx_S p l e R s m args below meth c A D nL cells slots Q (pc) lv (st) ws := fun H locs ls hP hD hS hl => va_ldcS C.1 C.2.1 C.2.2.2.1 hR hd (h H locs ls hP hD hS hl)
variable {y : MethodName} {bytes : ByteArray} {maxL d idx n2 b ci : Nat} {ret : Option FieldType} {As rest st0 : List Value} {wc w1 ws' : va_W} {is : List Nat} {fs : List Value} {q : vw_C}
theorem cx_EKvi {r : Int32} {w0 : va_W} (hE : cx_E te adK adV A s s.heap) (hA : A = va_A w0 s.heap.size) (C : cx_C p s m args c cc nL own D k) (hy : cx_Mv y bytes maxL ret n2) (hlk : Cond.methodLink own idx y ∈ cx_G) (hM : cx_ME l y bytes maxL ret d D k te adK adV (.ref b :: As) wc (fun sz => cx_Qi D r wc wc sz)) (hd : decode cc pc = .ok (.invokevirtual idx, 3)) (hR : d + 1 ≤ R.frames ∧ 8 + (maxL + 11) + 40 * d ≤ R.locals) (hcs : cells ≤ R.cells ∧ slots ≤ R.slots) (hn : As.length = n2) (hst : st0 = As.reverse ++ .ref b :: rest) (hro : (rest.map fun v => v.category).sum ≤ 8) (he : wc[0]? = some (b, .inr (ci, fs))) (hci : cx_cl[ci]? = some (y.cls, q.2)) (is : List Nat) (hC : is.map (fun i => ws[i]?) = wc.map some) (hnd : va_nd is = true) (h : cx_S p l e R s m args below meth c A D nL cells slots Q (pc + 3) lv (.int r :: rest) ws) : cx_S p l e R s m args below meth c A D nL cells slots Q pc lv st0 ws := by
  intro H locs ls hP hD hS hl
  have hPc : va_P D cx_cl wc H := hP.sub is (by
    have e := congrArg (fun z => z.filterMap id) hC
    simpa [List.filterMap_map, Function.comp_def] using e)
  have hDc : va_D A wc := hD.sub is hnd hC
  have hFc := cx_freeC hD hS is hC (fun q h => by rw [hA]; exact Or.inr h)
  refine va_calli (va_runV (As := As) (rest := rest) ⟨C.1, C.2.1, C.2.2.1, C.2.2.2.1, C.2.2.2.2.1⟩ (hM H.size) ⟨cx_callB C hy.1 hlk hR, C.2.2.2.2.1 _ hy.2.1, C.2.2.2.2.1 _ hy.2.2⟩ ⟨cx_PE.blind, va_recv C.2.2.2.2.2.1 hPc hci he, cx_preE C hE hS hFc hPc hDc⟩ rfl hn hl.1 hst (lv_room hro) hd ⟨hcs.1, hcs.2⟩) hS (fun q _ h => hFc q h) hFc (fun r1 u t H1 locs1 ht _ hw hB _ hk1 hS1 => ?_)
  · subst hw
    exact h H1 locs1 ls (cx_keep hP hD is hC hk1 (ht ▸ hB)) hD hS1 hl
theorem cx_EKsi {r : Int32} {w0 : va_W} (hE : cx_E te adK adV A s s.heap) (hA : A = va_A w0 s.heap.size) (C : cx_C p s m args c cc nL own D k) (hy : cx_Ms y bytes maxL ret n2) (hlk : Cond.methodLink own idx y ∈ cx_G) (hM : cx_ME l y bytes maxL ret d D k te adK adV (As) wc (fun sz => cx_Qi D r wc wc sz)) (hd : decode cc pc = .ok (.invokestatic idx, 3)) (hR : d + 1 ≤ R.frames ∧ 8 + (maxL + 11) + 40 * d ≤ R.locals) (hcs : cells ≤ R.cells ∧ slots ≤ R.slots) (hn : As.length = n2) (hst : st0 = As.reverse ++ rest) (hro : (rest.map fun v => v.category).sum ≤ 8)  (is : List Nat) (hC : is.map (fun i => ws[i]?) = wc.map some) (hnd : va_nd is = true) (h : cx_S p l e R s m args below meth c A D nL cells slots Q (pc + 3) lv (.int r :: rest) ws) : cx_S p l e R s m args below meth c A D nL cells slots Q pc lv st0 ws := by
  intro H locs ls hP hD hS hl
  have hPc : va_P D cx_cl wc H := hP.sub is (by
    have e := congrArg (fun z => z.filterMap id) hC
    simpa [List.filterMap_map, Function.comp_def] using e)
  have hDc : va_D A wc := hD.sub is hnd hC
  have hFc := cx_freeC hD hS is hC (fun q h => by rw [hA]; exact Or.inr h)
  refine va_calli (va_runS (As := As) (rest := rest) ⟨C.1, C.2.1, C.2.2.1, C.2.2.2.1, C.2.2.2.2.1⟩ (hM H.size) ⟨cx_callB C hy.1 hlk hR, C.2.2.2.2.1 _ hy.2⟩ ⟨cx_PE.blind, cx_preE C hE hS hFc hPc hDc⟩ rfl hn hl.1 hst (lv_room hro) hd ⟨hcs.1, hcs.2⟩) hS (fun q _ h => hFc q h) hFc (fun r1 u t H1 locs1 ht _ hw hB _ hk1 hS1 => ?_)
  · subst hw
    exact h H1 locs1 ls (cx_keep hP hD is hC hk1 (ht ▸ hB)) hD hS1 hl
theorem cx_EKsv  {w0 : va_W} (hE : cx_E te adK adV A s s.heap) (hA : A = va_A w0 s.heap.size) (C : cx_C p s m args c cc nL own D k) (hy : cx_Ms y bytes maxL ret n2) (hlk : Cond.methodLink own idx y ∈ cx_G) (hM : cx_ME l y bytes maxL ret d D k te adK adV (As) wc (fun sz => cx_Qv D wc wc sz)) (hd : decode cc pc = .ok (.invokestatic idx, 3)) (hR : d + 1 ≤ R.frames ∧ 8 + (maxL + 11) + 40 * d ≤ R.locals) (hcs : cells ≤ R.cells ∧ slots ≤ R.slots) (hn : As.length = n2) (hst : st0 = As.reverse ++ rest) (hro : (rest.map fun v => v.category).sum ≤ 8)  (is : List Nat) (hC : is.map (fun i => ws[i]?) = wc.map some) (hnd : va_nd is = true) (h : cx_S p l e R s m args below meth c A D nL cells slots Q (pc + 3) lv (rest) ws) : cx_S p l e R s m args below meth c A D nL cells slots Q pc lv st0 ws := by
  intro H locs ls hP hD hS hl
  have hPc : va_P D cx_cl wc H := hP.sub is (by
    have e := congrArg (fun z => z.filterMap id) hC
    simpa [List.filterMap_map, Function.comp_def] using e)
  have hDc : va_D A wc := hD.sub is hnd hC
  have hFc := cx_freeC hD hS is hC (fun q h => by rw [hA]; exact Or.inr h)
  refine va_callv (va_runS (As := As) (rest := rest) ⟨C.1, C.2.1, C.2.2.1, C.2.2.2.1, C.2.2.2.2.1⟩ (hM H.size) ⟨cx_callB C hy.1 hlk hR, C.2.2.2.2.1 _ hy.2⟩ ⟨cx_PE.blind, cx_preE C hE hS hFc hPc hDc⟩ rfl hn hl.1 hst (lv_room hro) hd ⟨hcs.1, hcs.2⟩) hS (fun q _ h => hFc q h) hFc (fun u t H1 locs1 ht _ hw hB _ hk1 hS1 => ?_)
  · exact h H1 locs1 ls (cx_keep hP hD is hC hk1 (ht ▸ hB)) hD hS1 hl
theorem cx_EKsr {r : Nat} {w0 : va_W} (hE : cx_E te adK adV A s s.heap) (hA : A = va_A w0 s.heap.size) (C : cx_C p s m args c cc nL own D k) (hy : cx_Ms y bytes maxL ret n2) (hlk : Cond.methodLink own idx y ∈ cx_G) (hM : cx_ME l y bytes maxL ret d D k te adK adV (As) wc (fun sz => cx_Qr D r wc wc sz)) (hd : decode cc pc = .ok (.invokestatic idx, 3)) (hR : d + 1 ≤ R.frames ∧ 8 + (maxL + 11) + 40 * d ≤ R.locals) (hcs : cells ≤ R.cells ∧ slots ≤ R.slots) (hn : As.length = n2) (hst : st0 = As.reverse ++ rest) (hro : (rest.map fun v => v.category).sum ≤ 8)  (is : List Nat) (hC : is.map (fun i => ws[i]?) = wc.map some) (hnd : va_nd is = true) (h : cx_S p l e R s m args below meth c A D nL cells slots Q (pc + 3) lv (.ref r :: rest) ws) : cx_S p l e R s m args below meth c A D nL cells slots Q pc lv st0 ws := by
  intro H locs ls hP hD hS hl
  have hPc : va_P D cx_cl wc H := hP.sub is (by
    have e := congrArg (fun z => z.filterMap id) hC
    simpa [List.filterMap_map, Function.comp_def] using e)
  have hDc : va_D A wc := hD.sub is hnd hC
  have hFc := cx_freeC hD hS is hC (fun q h => by rw [hA]; exact Or.inr h)
  refine va_callr (va_runS (As := As) (rest := rest) ⟨C.1, C.2.1, C.2.2.1, C.2.2.2.1, C.2.2.2.2.1⟩ (hM H.size) ⟨cx_callB C hy.1 hlk hR, C.2.2.2.2.1 _ hy.2⟩ ⟨cx_PE.blind, cx_preE C hE hS hFc hPc hDc⟩ rfl hn hl.1 hst (lv_room hro) hd ⟨hcs.1, hcs.2⟩) hS (fun q _ h => hFc q h) hFc (fun u ra t H1 locs1 ht _ hw hB _ hk1 hS1 => ?_)
  · obtain ⟨hra, hB⟩ := hB
    subst hra
    exact h H1 locs1 ls (cx_keep hP hD is hC hk1 (ht ▸ hB)) hD hS1 hl
theorem cx_EKzi {r : Int32} {w0 : va_W} (hE : cx_E te adK adV A s s.heap) (hA : A = va_A w0 s.heap.size) (C : cx_C p s m args c cc nL own D k) (hy : cx_Mv y bytes maxL ret n2) (hlk : Cond.methodLink own idx y ∈ cx_G) (hM : cx_ME l y bytes maxL ret d D k te adK adV (.ref b :: As) wc (fun sz => cx_Qi D r wc wc sz)) (hd : decode cc pc = .ok (.invokevirtual idx, 3)) (hR : d + 1 ≤ R.frames ∧ 8 + (maxL + 11) + 40 * d ≤ R.locals) (hcs : cells ≤ R.cells ∧ slots ≤ R.slots) (hn : As.length = n2) (hst : st0 = As.reverse ++ .ref b :: rest) (hro : (rest.map fun v => v.category).sum ≤ 8) (hzr : ∀ {H : Heap} {locs : List Loc}, va_S A s.heap H locs → ∃ cell : Cell, H[b]? = some cell ∧ cell.vm.isStatics = false ∧ s.vm.findClass y.cls = some cell.cls) (is : List Nat) (hC : is.map (fun i => ws[i]?) = wc.map some) (hnd : va_nd is = true) (h : cx_S p l e R s m args below meth c A D nL cells slots Q (pc + 3) lv (.int r :: rest) ws) : cx_S p l e R s m args below meth c A D nL cells slots Q pc lv st0 ws := by
  intro H locs ls hP hD hS hl
  have hPc : va_P D cx_cl wc H := hP.sub is (by
    have e := congrArg (fun z => z.filterMap id) hC
    simpa [List.filterMap_map, Function.comp_def] using e)
  have hDc : va_D A wc := hD.sub is hnd hC
  have hFc := cx_freeC hD hS is hC (fun q h => by rw [hA]; exact Or.inr h)
  refine va_calli (va_runV (As := As) (rest := rest) ⟨C.1, C.2.1, C.2.2.1, C.2.2.2.1, C.2.2.2.2.1⟩ (hM H.size) ⟨cx_callB C hy.1 hlk hR, C.2.2.2.2.1 _ hy.2.1, C.2.2.2.2.1 _ hy.2.2⟩ ⟨cx_PE.blind, hzr hS, cx_preE C hE hS hFc hPc hDc⟩ rfl hn hl.1 hst (lv_room hro) hd ⟨hcs.1, hcs.2⟩) hS (fun q _ h => hFc q h) hFc (fun r1 u t H1 locs1 ht _ hw hB _ hk1 hS1 => ?_)
  · subst hw
    exact h H1 locs1 ls (cx_keep hP hD is hC hk1 (ht ▸ hB)) hD hS1 hl
theorem cx_EFvi {r : Int32} {w0 : va_W} (hE : cx_E te adK adV A s s.heap) (hA : A = va_A w0 s.heap.size) (C : cx_C p s m args c cc nL own D k) (hy : cx_Mv y bytes maxL ret n2) (hlk : Cond.methodLink own idx y ∈ cx_G) (hM : cx_ME l y bytes maxL ret d D k te adK adV (.ref b :: As) ws (fun sz => cx_Qi D r ws w1 sz)) (hd : decode cc pc = .ok (.invokevirtual idx, 3)) (hR : d + 1 ≤ R.frames ∧ 8 + (maxL + 11) + 40 * d ≤ R.locals) (hcs : cells ≤ R.cells ∧ slots ≤ R.slots) (hn : As.length = n2) (hst : st0 = As.reverse ++ .ref b :: rest) (hro : (rest.map fun v => v.category).sum ≤ 8) (he : ws[0]? = some (b, .inr (ci, fs))) (hci : cx_cl[ci]? = some (y.cls, q.2)) (ha : w1.map Prod.fst = ws.map Prod.fst) (h : cx_S p l e R s m args below meth c A D nL cells slots Q (pc + 3) lv (.int r :: rest) w1) : cx_S p l e R s m args below meth c A D nL cells slots Q pc lv st0 ws := by
  intro H locs ls hP hD hS hl
  have hPc : va_P D cx_cl ws H := hP
  have hDc : va_D A ws := hD
  have hFc : ∀ q, va_A ws H.size q → A q := by
    intro q hq
    rcases hq with ⟨n, e, h3⟩ | h3
    · exact hD.2 n (q, e) h3
    · rw [hA]; exact Or.inr (Nat.le_trans hS.1 h3)
  refine va_calli (va_runV (As := As) (rest := rest) ⟨C.1, C.2.1, C.2.2.1, C.2.2.2.1, C.2.2.2.2.1⟩ (hM H.size) ⟨cx_callB C hy.1 hlk hR, C.2.2.2.2.1 _ hy.2.1, C.2.2.2.2.1 _ hy.2.2⟩ ⟨cx_PE.blind, va_recv C.2.2.2.2.2.1 hPc hci he, cx_preE C hE hS hFc hPc hDc⟩ rfl hn hl.1 hst (lv_room hro) hd ⟨hcs.1, hcs.2⟩) hS (fun q _ h => hFc q h) hFc (fun r1 u t H1 locs1 ht _ hw hB _ hk1 hS1 => ?_)
  · subst hw
    exact h H1 locs1 ls (ht ▸ hB) (cx_Dm hD ha) hS1 hl
theorem cx_Ecvi {r : Int32} {w0 : va_W} (hE : cx_E te adK adV A s s.heap) (hA : A = va_A w0 s.heap.size) (C : cx_C p s m args c cc nL own D k) (hy : cx_Mv y bytes maxL ret n2) (hlk : Cond.methodLink own idx y ∈ cx_G) (hM : cx_ME l y bytes maxL ret d D k te adK adV (.ref b :: As) wc (fun sz => cx_Qi D r wc w1 sz)) (hd : decode cc pc = .ok (.invokevirtual idx, 3)) (hR : d + 1 ≤ R.frames ∧ 8 + (maxL + 11) + 40 * d ≤ R.locals) (hcs : cells ≤ R.cells ∧ slots ≤ R.slots) (hn : As.length = n2) (hst : st0 = As.reverse ++ .ref b :: rest) (hro : (rest.map fun v => v.category).sum ≤ 8) (he : wc[0]? = some (b, .inr (ci, fs))) (hci : cx_cl[ci]? = some (y.cls, q.2)) (is : List Nat) (hC : is.map (fun i => ws[i]?) = wc.map some) (hnd : va_nd is = true) (ha : w1.map Prod.fst = wc.map Prod.fst) (hw' : cx_put ws is w1 = ws') (h : cx_S p l e R s m args below meth c A D nL cells slots Q (pc + 3) lv (.int r :: rest) ws') : cx_S p l e R s m args below meth c A D nL cells slots Q pc lv st0 ws := by
  intro H locs ls hP hD hS hl
  have hPc : va_P D cx_cl wc H := hP.sub is (by
    have e := congrArg (fun z => z.filterMap id) hC
    simpa [List.filterMap_map, Function.comp_def] using e)
  have hDc : va_D A wc := hD.sub is hnd hC
  have hFc := cx_freeC hD hS is hC (fun q h => by rw [hA]; exact Or.inr h)
  refine va_calli (va_runV (As := As) (rest := rest) ⟨C.1, C.2.1, C.2.2.1, C.2.2.2.1, C.2.2.2.2.1⟩ (hM H.size) ⟨cx_callB C hy.1 hlk hR, C.2.2.2.2.1 _ hy.2.1, C.2.2.2.2.1 _ hy.2.2⟩ ⟨cx_PE.blind, va_recv C.2.2.2.2.2.1 hPc hci he, cx_preE C hE hS hFc hPc hDc⟩ rfl hn hl.1 hst (lv_room hro) hd ⟨hcs.1, hcs.2⟩) hS (fun q _ h => hFc q h) hFc (fun r1 u t H1 locs1 ht _ hw hB _ hk1 hS1 => ?_)
  · subst hw
    obtain ⟨hP2, hD2⟩ := cx_join hP hD is hC ha hk1 (ht ▸ hB)
    rw [hw'] at hP2 hD2
    exact h H1 locs1 ls hP2 hD2 hS1 hl
theorem cx_EGvi {r : Int32} {w0 : va_W} (hE : cx_E te adK adV A s s.heap) (hA : A = va_A w0 s.heap.size) (C : cx_C p s m args c cc nL own D k) (hy : cx_Mv y bytes maxL ret n2) (hlk : Cond.methodLink own idx y ∈ cx_G) (hM : cx_ME l y bytes maxL ret d D k te adK adV (.ref b :: As) wc (fun sz => cx_Qi D r wc w1 sz)) (hd : decode cc pc = .ok (.invokevirtual idx, 3)) (hR : d + 1 ≤ R.frames ∧ 8 + (maxL + 11) + 40 * d ≤ R.locals) (hcs : cells ≤ R.cells ∧ slots ≤ R.slots) (hn : As.length = n2) (hst : st0 = As.reverse ++ .ref b :: rest) (hro : (rest.map fun v => v.category).sum ≤ 8) (he : wc[0]? = some (b, .inr (ci, fs))) (hci : cx_cl[ci]? = some (y.cls, q.2)) (is : List Nat) (hC : is.map (fun i => ws[i]?) = wc.map some) (hnd : va_nd is = true) (ha : w1.map Prod.fst = wc.map Prod.fst) (ms : List (Option Nat)) (n1 : Nat) (hn1 : w1.length = n1) (hok : cx_okm ms is n1 = true) (hw' : cx_mg w1 ms ws = ws') (h : cx_S p l e R s m args below meth c A D nL cells slots Q (pc + 3) lv (.int r :: rest) ws') : cx_S p l e R s m args below meth c A D nL cells slots Q pc lv st0 ws := by
  intro H locs ls hP hD hS hl
  have hPc : va_P D cx_cl wc H := hP.sub is (by
    have e := congrArg (fun z => z.filterMap id) hC
    simpa [List.filterMap_map, Function.comp_def] using e)
  have hDc : va_D A wc := hD.sub is hnd hC
  have hFc := cx_freeC hD hS is hC (fun q h => by rw [hA]; exact Or.inr h)
  refine va_calli (va_runV (As := As) (rest := rest) ⟨C.1, C.2.1, C.2.2.1, C.2.2.2.1, C.2.2.2.2.1⟩ (hM H.size) ⟨cx_callB C hy.1 hlk hR, C.2.2.2.2.1 _ hy.2.1, C.2.2.2.2.1 _ hy.2.2⟩ ⟨cx_PE.blind, va_recv C.2.2.2.2.2.1 hPc hci he, cx_preE C hE hS hFc hPc hDc⟩ rfl hn hl.1 hst (lv_room hro) hd ⟨hcs.1, hcs.2⟩) hS (fun q _ h => hFc q h) hFc (fun r1 u t H1 locs1 ht _ hw hB _ hk1 hS1 => ?_)
  · subst hw
    obtain ⟨hP2, hD2⟩ := cx_joinM hP hD is hC ha ms (by rw [hn1]; exact hok) hk1 (ht ▸ hB)
    rw [hw'] at hP2 hD2
    exact h H1 locs1 ls hP2 hD2 hS1 hl
end CXE
theorem dJ0_coder_7d493_0 : decode cJ0_coder_7d493 0 = .ok (.getstatic 38, 3) := by decide +kernel
theorem dJ0_coder_7d493_3 : decode cJ0_coder_7d493 3 = .ok (.ifCond .eq 10, 3) := by decide +kernel
theorem dJ0_coder_7d493_6 : decode cJ0_coder_7d493 6 = .ok (.aload_n 0, 1) := by decide +kernel
theorem dJ0_coder_7d493_7 : decode cJ0_coder_7d493 7 = .ok (.getfield 15, 3) := by decide +kernel
theorem dJ0_coder_7d493_10 : decode cJ0_coder_7d493 10 = .ok (.goto 4, 3) := by decide +kernel
theorem dJ0_coder_7d493_13 : decode cJ0_coder_7d493 13 = .ok (.iconst 1, 1) := by decide +kernel
theorem dJ0_coder_7d493_14 : decode cJ0_coder_7d493 14 = .ok (.ireturn, 1) := by decide +kernel
theorem dJ0_isLatin1_aae02_0 : decode cJ0_isLatin1_aae02 0 = .ok (.getstatic 38, 3) := by decide +kernel
theorem dJ0_isLatin1_aae02_3 : decode cJ0_isLatin1_aae02 3 = .ok (.ifCond .eq 14, 3) := by decide +kernel
theorem dJ0_isLatin1_aae02_6 : decode cJ0_isLatin1_aae02 6 = .ok (.aload_n 0, 1) := by decide +kernel
theorem dJ0_isLatin1_aae02_7 : decode cJ0_isLatin1_aae02 7 = .ok (.getfield 15, 3) := by decide +kernel
theorem dJ0_isLatin1_aae02_10 : decode cJ0_isLatin1_aae02 10 = .ok (.ifCond .ne 7, 3) := by decide +kernel
theorem dJ0_isLatin1_aae02_13 : decode cJ0_isLatin1_aae02 13 = .ok (.iconst 1, 1) := by decide +kernel
theorem dJ0_isLatin1_aae02_14 : decode cJ0_isLatin1_aae02 14 = .ok (.goto 4, 3) := by decide +kernel
theorem dJ0_isLatin1_aae02_17 : decode cJ0_isLatin1_aae02 17 = .ok (.iconst 0, 1) := by decide +kernel
theorem dJ0_isLatin1_aae02_18 : decode cJ0_isLatin1_aae02 18 = .ok (.ireturn, 1) := by decide +kernel
theorem dJ0_length_8abf5_0 : decode cJ0_length_8abf5 0 = .ok (.aload_n 0, 1) := by decide +kernel
theorem dJ0_length_8abf5_1 : decode cJ0_length_8abf5 1 = .ok (.getfield 9, 3) := by decide +kernel
theorem dJ0_length_8abf5_4 : decode cJ0_length_8abf5 4 = .ok (.arraylength, 1) := by decide +kernel
theorem dJ0_length_8abf5_5 : decode cJ0_length_8abf5 5 = .ok (.aload_n 0, 1) := by decide +kernel
theorem dJ0_length_8abf5_6 : decode cJ0_length_8abf5 6 = .ok (.invokevirtual 335, 3) := by decide +kernel
theorem dJ0_length_8abf5_9 : decode cJ0_length_8abf5 9 = .ok (.ishr, 1) := by decide +kernel
theorem dJ0_length_8abf5_10 : decode cJ0_length_8abf5 10 = .ok (.ireturn, 1) := by decide +kernel
theorem dJ3_checkIndex_8e157_0 : decode cJ3_checkIndex_8e157 0 = .ok (.iload_n 0, 1) := by decide +kernel
theorem dJ3_checkIndex_8e157_1 : decode cJ3_checkIndex_8e157 1 = .ok (.ifCond .lt 8, 3) := by decide +kernel
theorem dJ3_checkIndex_8e157_4 : decode cJ3_checkIndex_8e157 4 = .ok (.iload_n 0, 1) := by decide +kernel
theorem dJ3_checkIndex_8e157_5 : decode cJ3_checkIndex_8e157 5 = .ok (.iload_n 1, 1) := by decide +kernel
theorem dJ3_checkIndex_8e157_6 : decode cJ3_checkIndex_8e157 6 = .ok (.if_icmp .lt 10, 3) := by decide +kernel
theorem dJ3_checkIndex_8e157_9 : decode cJ3_checkIndex_8e157 9 = .ok (.aload_n 2, 1) := by decide +kernel
theorem dJ3_checkIndex_8e157_10 : decode cJ3_checkIndex_8e157 10 = .ok (.iload_n 0, 1) := by decide +kernel
theorem dJ3_checkIndex_8e157_11 : decode cJ3_checkIndex_8e157 11 = .ok (.iload_n 1, 1) := by decide +kernel
theorem dJ3_checkIndex_8e157_12 : decode cJ3_checkIndex_8e157 12 = .ok (.invokestatic 95, 3) := by decide +kernel
theorem dJ3_checkIndex_8e157_15 : decode cJ3_checkIndex_8e157 15 = .ok (.athrow, 1) := by decide +kernel
theorem dJ3_checkIndex_8e157_16 : decode cJ3_checkIndex_8e157 16 = .ok (.iload_n 0, 1) := by decide +kernel
theorem dJ3_checkIndex_8e157_17 : decode cJ3_checkIndex_8e157 17 = .ok (.ireturn, 1) := by decide +kernel
theorem dJ0_checkIndex_df160_0 : decode cJ0_checkIndex_df160 0 = .ok (.iload_n 0, 1) := by decide +kernel
theorem dJ0_checkIndex_df160_1 : decode cJ0_checkIndex_df160 1 = .ok (.iload_n 1, 1) := by decide +kernel
theorem dJ0_checkIndex_df160_2 : decode cJ0_checkIndex_df160 2 = .ok (.getstatic 1053, 3) := by decide +kernel
theorem dJ0_checkIndex_df160_5 : decode cJ0_checkIndex_df160 5 = .ok (.invokestatic 1059, 3) := by decide +kernel
theorem dJ0_checkIndex_df160_8 : decode cJ0_checkIndex_df160 8 = .ok (.pop, 1) := by decide +kernel
theorem dJ0_checkIndex_df160_9 : decode cJ0_checkIndex_df160 9 = .ok (.return_, 1) := by decide +kernel
theorem dJ1_charAt_3b067_0 : decode cJ1_charAt_3b067 0 = .ok (.iload_n 1, 1) := by decide +kernel
theorem dJ1_charAt_3b067_1 : decode cJ1_charAt_3b067 1 = .ok (.aload_n 0, 1) := by decide +kernel
theorem dJ1_charAt_3b067_2 : decode cJ1_charAt_3b067 2 = .ok (.arraylength, 1) := by decide +kernel
theorem dJ1_charAt_3b067_3 : decode cJ1_charAt_3b067 3 = .ok (.invokestatic 9, 3) := by decide +kernel
theorem dJ1_charAt_3b067_6 : decode cJ1_charAt_3b067 6 = .ok (.aload_n 0, 1) := by decide +kernel
theorem dJ1_charAt_3b067_7 : decode cJ1_charAt_3b067 7 = .ok (.iload_n 1, 1) := by decide +kernel
theorem dJ1_charAt_3b067_8 : decode cJ1_charAt_3b067 8 = .ok (.baload, 1) := by decide +kernel
theorem dJ1_charAt_3b067_9 : decode cJ1_charAt_3b067 9 = .ok (.sipush 255, 3) := by decide +kernel
theorem dJ1_charAt_3b067_12 : decode cJ1_charAt_3b067 12 = .ok (.iand, 1) := by decide +kernel
theorem dJ1_charAt_3b067_13 : decode cJ1_charAt_3b067 13 = .ok (.i2c, 1) := by decide +kernel
theorem dJ1_charAt_3b067_14 : decode cJ1_charAt_3b067 14 = .ok (.ireturn, 1) := by decide +kernel
theorem dJ0_charAt_5068e_0 : decode cJ0_charAt_5068e 0 = .ok (.aload_n 0, 1) := by decide +kernel
theorem dJ0_charAt_5068e_1 : decode cJ0_charAt_5068e 1 = .ok (.invokevirtual 492, 3) := by decide +kernel
theorem dJ0_charAt_5068e_4 : decode cJ0_charAt_5068e 4 = .ok (.ifCond .eq 12, 3) := by decide +kernel
theorem dJ0_charAt_5068e_7 : decode cJ0_charAt_5068e 7 = .ok (.aload_n 0, 1) := by decide +kernel
theorem dJ0_charAt_5068e_8 : decode cJ0_charAt_5068e 8 = .ok (.getfield 9, 3) := by decide +kernel
theorem dJ0_charAt_5068e_11 : decode cJ0_charAt_5068e 11 = .ok (.iload_n 1, 1) := by decide +kernel
theorem dJ0_charAt_5068e_12 : decode cJ0_charAt_5068e 12 = .ok (.invokestatic 495, 3) := by decide +kernel
theorem dJ0_charAt_5068e_15 : decode cJ0_charAt_5068e 15 = .ok (.ireturn, 1) := by decide +kernel
theorem dJ0_charAt_5068e_16 : decode cJ0_charAt_5068e 16 = .ok (.aload_n 0, 1) := by decide +kernel
theorem dJ0_charAt_5068e_17 : decode cJ0_charAt_5068e 17 = .ok (.getfield 9, 3) := by decide +kernel
theorem dJ0_charAt_5068e_20 : decode cJ0_charAt_5068e 20 = .ok (.iload_n 1, 1) := by decide +kernel
theorem dJ0_charAt_5068e_21 : decode cJ0_charAt_5068e 21 = .ok (.invokestatic 498, 3) := by decide +kernel
theorem dJ0_charAt_5068e_24 : decode cJ0_charAt_5068e 24 = .ok (.ireturn, 1) := by decide +kernel
theorem me_J0_coder_7d493 : cx_Mv yJ0_coder_7d493 cJ0_coder_7d493 1 (some .byte) 0 := ⟨⟨⟨by decide +kernel, by decide +kernel, by decide +kernel⟩, hw_12, hw_536⟩, hw_534, hw_535⟩
theorem me_J0_isLatin1_aae02 : cx_Mv yJ0_isLatin1_aae02 cJ0_isLatin1_aae02 1 (some .boolean) 0 := ⟨⟨⟨by decide +kernel, by decide +kernel, by decide +kernel⟩, hw_12, hw_546⟩, hw_544, hw_545⟩
theorem me_J0_length_8abf5 : cx_Mv yJ0_length_8abf5 cJ0_length_8abf5 1 (some .int) 0 := ⟨⟨⟨by decide +kernel, by decide +kernel, by decide +kernel⟩, hw_12, hw_532⟩, hw_530, hw_531⟩
theorem me_J3_checkIndex_8e157 : cx_Ms yJ3_checkIndex_8e157 cJ3_checkIndex_8e157 3 (some .int) 3 := ⟨⟨⟨by decide +kernel, by decide +kernel, by decide +kernel⟩, hw_14, hw_557⟩, hw_556⟩
theorem me_J0_checkIndex_df160 : cx_Ms yJ0_checkIndex_df160 cJ0_checkIndex_df160 2 none 2 := ⟨⟨⟨by decide +kernel, by decide +kernel, by decide +kernel⟩, hw_12, hw_552⟩, hw_551⟩
theorem me_J1_charAt_3b067 : cx_Ms yJ1_charAt_3b067 cJ1_charAt_3b067 2 (some .char) 2 := ⟨⟨⟨by decide +kernel, by decide +kernel, by decide +kernel⟩, hw_13, hw_549⟩, hw_548⟩
theorem me_J0_charAt_5068e : cx_Mv yJ0_charAt_5068e cJ0_charAt_5068e 2 (some .char) 1 := ⟨⟨⟨by decide +kernel, by decide +kernel, by decide +kernel⟩, hw_12, hw_542⟩, hw_540, hw_541⟩
def cx_sl (i : Nat) : Int32 := Int32.ofNat (cx_lens.getD i 0) >>> ((0 : Int32) &&& 31)
def cx_sc (i : Nat) (j : Int32) : Int32 := ((((cx_byts.getD i []).getD (cx_ix j) 0) &&& 255).toUInt32 % 65536).toInt32
theorem c_coder (l : Launch) (D : va_G) (k : Nat → ClassId) (te : Nat) (adK adV : Nat → Nat) (i : Nat) (hi : i < 8) : cx_ME l yJ0_coder_7d493 cJ0_coder_7d493 1 (some .byte) 1 D k te adK adV [.ref (adK i)] ([] : va_W) (fun sz => cx_Qi D 0 ([] : va_W) ([] : va_W) sz) := by
  refine cx_metE (own := "java/lang/String") (by decide) rfl (Nat.le_of_ble_eq_true rfl) ?_
  intro p e s m args below meth c A Q C hE hA hQ hr hlk
  refine cx_lv (lv' := [(0, .ref (adK i))]) [0] rfl ?_
  refine cx_gets (v := .int 1) C dJ0_coder_7d493_0 hE.2.2.1 hw_537 ?_
  refine cx_if_eq (tgt := 13) C dJ0_coder_7d493_3 (by decide) (fun q => absurd q (by decide)) (fun _ => ?_)
  refine cx_aload_n C dJ0_coder_7d493_6 0 rfl ?_
  refine cx_getS (v := .int 0) C dJ0_coder_7d493_7 (hE.2.2.2.2.1.1 i hi).2.1 hw_1530 ?_
  refine cx_goto (tgt := 14) C dJ0_coder_7d493_10 (by decide) ?_
  exact cx_zret C hA hQ hr hlk dJ0_coder_7d493_14 (by decide) rfl rfl
theorem c_isLatin1 (l : Launch) (D : va_G) (k : Nat → ClassId) (te : Nat) (adK adV : Nat → Nat) (i : Nat) (hi : i < 8) : cx_ME l yJ0_isLatin1_aae02 cJ0_isLatin1_aae02 1 (some .boolean) 1 D k te adK adV [.ref (adK i)] ([] : va_W) (fun sz => cx_Qi D 1 ([] : va_W) ([] : va_W) sz) := by
  refine cx_metE (own := "java/lang/String") (by decide) rfl (Nat.le_of_ble_eq_true rfl) ?_
  intro p e s m args below meth c A Q C hE hA hQ hr hlk
  refine cx_lv (lv' := [(0, .ref (adK i))]) [0] rfl ?_
  refine cx_gets (v := .int 1) C dJ0_isLatin1_aae02_0 hE.2.2.1 hw_537 ?_
  refine cx_if_eq (tgt := 17) C dJ0_isLatin1_aae02_3 (by decide) (fun q => absurd q (by decide)) (fun _ => ?_)
  refine cx_aload_n C dJ0_isLatin1_aae02_6 0 rfl ?_
  refine cx_getS (v := .int 0) C dJ0_isLatin1_aae02_7 (hE.2.2.2.2.1.1 i hi).2.1 hw_1530 ?_
  refine cx_if_ne (tgt := 17) C dJ0_isLatin1_aae02_10 (by decide) (fun q => absurd rfl q) (fun _ => ?_)
  refine cx_iconst (v := 1) C dJ0_isLatin1_aae02_13 (by decide) ?_
  refine cx_goto (tgt := 18) C dJ0_isLatin1_aae02_14 (by decide) ?_
  exact cx_zret C hA hQ hr hlk dJ0_isLatin1_aae02_18 (by decide) rfl rfl
theorem c_slen (l : Launch) (D : va_G) (k : Nat → ClassId) (te : Nat) (adK adV : Nat → Nat) (i : Nat) (hi : i < 8) : cx_ME l yJ0_length_8abf5 cJ0_length_8abf5 1 (some .int) 2 D k te adK adV [.ref (adK i)] ([] : va_W) (fun sz => cx_Qi D (cx_sl i) ([] : va_W) ([] : va_W) sz) := by
  refine cx_metE (own := "java/lang/String") (by decide) rfl (Nat.le_of_ble_eq_true rfl) ?_
  intro p e s m args below meth c A Q C hE hA hQ hr hlk
  refine cx_lv (lv' := [(0, .ref (adK i))]) [0] rfl ?_
  refine cx_aload_n C dJ0_length_8abf5_0 0 rfl ?_
  refine cx_getS (v := .ref (adV i)) C dJ0_length_8abf5_1 (hE.2.2.2.2.1.1 i hi).2.2.1 hw_1529 ?_
  refine cx_tlen C dJ0_length_8abf5_4 (hE.2.2.2.2.1.1 i hi).2.2.2 ?_
  refine cx_aload_n C dJ0_length_8abf5_5 0 rfl ?_
  refine cx_EKzi (As := []) (rest := [.int (Int32.ofNat (cx_lens.getD i 0))]) hE hA C me_J0_coder_7d493 hw_533 (c_coder l D k te adK adV i hi) dJ0_length_8abf5_6 ⟨Nat.le_of_ble_eq_true rfl, Nat.le_of_ble_eq_true rfl⟩ ⟨Nat.zero_le _, Nat.zero_le _⟩ rfl rfl (Nat.le_of_ble_eq_true rfl) (fun hS => vk_recv hE.2.2.2.2.1 hi hS) [] rfl (by decide) ?_
  refine cx_ishr C dJ0_length_8abf5_9 ?_
  exact cx_iret C hA hQ hr hlk dJ0_length_8abf5_10 rfl rfl
theorem c_pcheckN (l : Launch) (D : va_G) (k : Nat → ClassId) (te : Nat) (adK adV : Nat → Nat) (i n : Int32) (h1 : ¬ i < 0) (h2 : i < n) : cx_ME l yJ3_checkIndex_8e157 cJ3_checkIndex_8e157 3 (some .int) 1 D k te adK adV [.int i, .int n, .null] ([] : va_W) (fun sz => cx_Qi D i ([] : va_W) ([] : va_W) sz) := by
  refine cx_metE (own := "jdk/internal/util/Preconditions") (by decide) rfl (Nat.le_of_ble_eq_true rfl) ?_
  intro p e s m args below meth c A Q C hE hA hQ hr hlk
  refine cx_lv (lv' := [(0, .int i), (1, .int n)]) [0, 1] rfl ?_
  refine cx_iload_n C dJ3_checkIndex_8e157_0 0 rfl ?_
  refine cx_if_lt (tgt := 9) C dJ3_checkIndex_8e157_1 (by decide) (fun q => absurd q h1) (fun _ => ?_)
  refine cx_iload_n C dJ3_checkIndex_8e157_4 0 rfl ?_
  refine cx_iload_n C dJ3_checkIndex_8e157_5 1 rfl ?_
  refine cx_icmp_lt (tgt := 16) C dJ3_checkIndex_8e157_6 (by decide) (fun _ => ?_) (fun q => absurd h2 q)
  refine cx_iload_n C dJ3_checkIndex_8e157_16 0 rfl ?_
  exact cx_iret C hA hQ hr hlk dJ3_checkIndex_8e157_17 rfl rfl
theorem c_pcheckR (l : Launch) (D : va_G) (k : Nat → ClassId) (te : Nat) (adK adV : Nat → Nat) (i n : Int32) (a : Nat) (h1 : ¬ i < 0) (h2 : i < n) : cx_ME l yJ3_checkIndex_8e157 cJ3_checkIndex_8e157 3 (some .int) 1 D k te adK adV [.int i, .int n, .ref a] ([] : va_W) (fun sz => cx_Qi D i ([] : va_W) ([] : va_W) sz) := by
  refine cx_metE (own := "jdk/internal/util/Preconditions") (by decide) rfl (Nat.le_of_ble_eq_true rfl) ?_
  intro p e s m args below meth c A Q C hE hA hQ hr hlk
  refine cx_lv (lv' := [(0, .int i), (1, .int n)]) [0, 1] rfl ?_
  refine cx_iload_n C dJ3_checkIndex_8e157_0 0 rfl ?_
  refine cx_if_lt (tgt := 9) C dJ3_checkIndex_8e157_1 (by decide) (fun q => absurd q h1) (fun _ => ?_)
  refine cx_iload_n C dJ3_checkIndex_8e157_4 0 rfl ?_
  refine cx_iload_n C dJ3_checkIndex_8e157_5 1 rfl ?_
  refine cx_icmp_lt (tgt := 16) C dJ3_checkIndex_8e157_6 (by decide) (fun _ => ?_) (fun q => absurd h2 q)
  refine cx_iload_n C dJ3_checkIndex_8e157_16 0 rfl ?_
  exact cx_iret C hA hQ hr hlk dJ3_checkIndex_8e157_17 rfl rfl
theorem c_scheck (l : Launch) (D : va_G) (k : Nat → ClassId) (te : Nat) (adK adV : Nat → Nat) (i n : Int32) (h1 : ¬ i < 0) (h2 : i < n) : cx_ME l yJ0_checkIndex_df160 cJ0_checkIndex_df160 2 none 2 D k te adK adV [.int i, .int n] ([] : va_W) (fun sz => cx_Qv D ([] : va_W) ([] : va_W) sz) := by
  refine cx_metE (own := "java/lang/String") (by decide) rfl (Nat.le_of_ble_eq_true rfl) ?_
  intro p e s m args below meth c A Q C hE hA hQ hr hlk
  refine cx_lv (lv' := [(0, .int i), (1, .int n)]) [0, 1] rfl ?_
  refine cx_iload_n C dJ0_checkIndex_df160_0 0 rfl ?_
  refine cx_iload_n C dJ0_checkIndex_df160_1 1 rfl ?_
  rcases hE.2.2.2.1 with hz | ⟨a, hz⟩
  · refine cx_gets (v := .null) C dJ0_checkIndex_df160_2 hz hw_553 ?_
    refine cx_EKsi (As := [.int i, .int n, .null]) (rest := []) hE hA C me_J3_checkIndex_8e157 hw_555 (c_pcheckN l D k te adK adV i n h1 h2) dJ0_checkIndex_df160_5 ⟨Nat.le_of_ble_eq_true rfl, Nat.le_of_ble_eq_true rfl⟩ ⟨Nat.zero_le _, Nat.zero_le _⟩ rfl rfl (Nat.le_of_ble_eq_true rfl) [] rfl (by decide) ?_
    refine cx_pop C dJ0_checkIndex_df160_8 rfl ?_
    exact cx_vret C hA hQ hr hlk dJ0_checkIndex_df160_9 rfl
  · refine cx_gets (v := .ref a) C dJ0_checkIndex_df160_2 hz hw_553 ?_
    refine cx_EKsi (As := [.int i, .int n, .ref a]) (rest := []) hE hA C me_J3_checkIndex_8e157 hw_555 (c_pcheckR l D k te adK adV i n a h1 h2) dJ0_checkIndex_df160_5 ⟨Nat.le_of_ble_eq_true rfl, Nat.le_of_ble_eq_true rfl⟩ ⟨Nat.zero_le _, Nat.zero_le _⟩ rfl rfl (Nat.le_of_ble_eq_true rfl) [] rfl (by decide) ?_
    refine cx_pop C dJ0_checkIndex_df160_8 rfl ?_
    exact cx_vret C hA hQ hr hlk dJ0_checkIndex_df160_9 rfl
theorem cx_ofN {i : Int32} {n : Nat} (hn : n < 2 ^ 31) (h : vp_in i n) : ¬ i < 0 ∧ i < Int32.ofNat n := by
  obtain ⟨j, hj, rfl⟩ := vp_in_of h hn
  exact ⟨nI_pos (by omega), nI_lt hj hn⟩
theorem cx_lens_lt (i : Nat) (hi : i < 8) : cx_lens.getD i 0 < 2 ^ 31 := by
  have h : ∀ i, i < 8 → cx_lens.getD i 0 < 2 ^ 31 := by decide
  exact h i hi
theorem c_lchar (l : Launch) (D : va_G) (k : Nat → ClassId) (te : Nat) (adK adV : Nat → Nat) (i : Nat) (hi : i < 8) (j : Int32) (hj : vp_in j (cx_lens.getD i 0)) : cx_ME l yJ1_charAt_3b067 cJ1_charAt_3b067 2 (some .char) 3 D k te adK adV [.ref (adV i), .int j] ([] : va_W) (fun sz => cx_Qi D (cx_sc i j) ([] : va_W) ([] : va_W) sz) := by
  refine cx_metE (own := "java/lang/StringLatin1") (by decide) rfl (Nat.le_of_ble_eq_true rfl) ?_
  intro p e s m args below meth c A Q C hE hA hQ hr hlk
  refine cx_lv (lv' := [(0, .ref (adV i)), (1, .int j)]) [0, 1] rfl ?_
  refine cx_iload_n C dJ1_charAt_3b067_0 1 rfl ?_
  refine cx_aload_n C dJ1_charAt_3b067_1 0 rfl ?_
  refine cx_tlen C dJ1_charAt_3b067_2 (hE.2.2.2.2.1.1 i hi).2.2.2 ?_
  have hb := cx_ofN (cx_lens_lt i hi) hj
  refine cx_EKsv (As := [.int j, .int (Int32.ofNat (cx_lens.getD i 0))]) (rest := []) hE hA C me_J0_checkIndex_df160 hw_550 (c_scheck l D k te adK adV j (Int32.ofNat (cx_lens.getD i 0)) hb.1 hb.2) dJ1_charAt_3b067_3 ⟨Nat.le_of_ble_eq_true rfl, Nat.le_of_ble_eq_true rfl⟩ ⟨Nat.zero_le _, Nat.zero_le _⟩ rfl rfl (Nat.le_of_ble_eq_true rfl) [] rfl (by decide) ?_
  refine cx_aload_n C dJ1_charAt_3b067_6 0 rfl ?_
  refine cx_iload_n C dJ1_charAt_3b067_7 1 rfl ?_
  refine cx_tb (f := fun q => (cx_byts.getD i []).getD q 0) C dJ1_charAt_3b067_8 (hE.2.2.2.2.1.1 i hi).2.2.2 hj ?_
  refine cx_sipush (v := 255) C dJ1_charAt_3b067_9 (by decide) ?_
  refine cx_iand C dJ1_charAt_3b067_12 ?_
  refine cx_i2c C dJ1_charAt_3b067_13 ?_
  exact cx_zret C hA hQ hr hlk dJ1_charAt_3b067_14 (pk_nc _) rfl rfl
theorem c_schar (l : Launch) (D : va_G) (k : Nat → ClassId) (te : Nat) (adK adV : Nat → Nat) (i : Nat) (hi : i < 8) (j : Int32) (hj : vp_in j (cx_lens.getD i 0)) : cx_ME l yJ0_charAt_5068e cJ0_charAt_5068e 2 (some .char) 4 D k te adK adV [.ref (adK i), .int j] ([] : va_W) (fun sz => cx_Qi D (cx_sc i j) ([] : va_W) ([] : va_W) sz) := by
  refine cx_metE (own := "java/lang/String") (by decide) rfl (Nat.le_of_ble_eq_true rfl) ?_
  intro p e s m args below meth c A Q C hE hA hQ hr hlk
  refine cx_lv (lv' := [(0, .ref (adK i)), (1, .int j)]) [0, 1] rfl ?_
  refine cx_aload_n C dJ0_charAt_5068e_0 0 rfl ?_
  refine cx_EKzi (As := []) (rest := []) hE hA C me_J0_isLatin1_aae02 hw_543 (c_isLatin1 l D k te adK adV i hi) dJ0_charAt_5068e_1 ⟨Nat.le_of_ble_eq_true rfl, Nat.le_of_ble_eq_true rfl⟩ ⟨Nat.zero_le _, Nat.zero_le _⟩ rfl rfl (Nat.le_of_ble_eq_true rfl) (fun hS => vk_recv hE.2.2.2.2.1 hi hS) [] rfl (by decide) ?_
  refine cx_if_eq (tgt := 16) C dJ0_charAt_5068e_4 (by decide) (fun q => absurd q (by decide)) (fun _ => ?_)
  refine cx_aload_n C dJ0_charAt_5068e_7 0 rfl ?_
  refine cx_getS (v := .ref (adV i)) C dJ0_charAt_5068e_8 (hE.2.2.2.2.1.1 i hi).2.2.1 hw_1529 ?_
  refine cx_iload_n C dJ0_charAt_5068e_11 1 rfl ?_
  refine cx_EKsi (As := [.ref (adV i), .int j]) (rest := []) hE hA C me_J1_charAt_3b067 hw_547 (c_lchar l D k te adK adV i hi j hj) dJ0_charAt_5068e_12 ⟨Nat.le_of_ble_eq_true rfl, Nat.le_of_ble_eq_true rfl⟩ ⟨Nat.zero_le _, Nat.zero_le _⟩ rfl rfl (Nat.le_of_ble_eq_true rfl) [] rfl (by decide) ?_
  exact cx_zret C hA hQ hr hlk dJ0_charAt_5068e_15 (pk_nc _) rfl rfl
