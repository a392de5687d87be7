/-! methods that make cells: the constructors -/
def cx_rmI (d mc ms : Nat) : Room := { frames := d, cells := mc, slots := ms, locals := 40 * d }
abbrev cx_li (l : List Nat) : Nat → Nat := fun n => l.getD n 0
abbrev cx_MI (l : Launch) (y : MethodName) (bytes : ByteArray) (maxL : Nat) (d mc ms : Nat) (D : va_G) (k : Nat → ClassId) (av : List Value) (w0 : va_W) (Qc : Nat → Array Value → State → Outcome → State → Prop) : Prop :=
  ∀ sz : Nat, Met l y (.code y bytes maxL none :: cx_G) (cx_rmI d mc ms) (cx_P D k av w0 sz) (Qc sz) mc ms (va_A w0 sz)
def cx_QI {S : Type} (D : va_G) (post : S → Prop) (w0 : va_W) (w1 : S → va_W) (sz : Nat) : Array Value → State → Outcome → State → Prop := va_Qv post (fun u t => va_P D cx_cl (w1 u) t.heap ∧ va_D (va_A w0 sz) (w1 u)) (va_A w0 sz)
theorem cx_metI {l : Launch} {y : MethodName} {cc : ByteArray} {maxL d mc ms : Nat} {D : va_G} {k : Nat → ClassId} {av : List Value} {w0 : va_W} {Qc : Nat → Array Value → State → Outcome → State → Prop} {own : String} (hy : plainName y.cls = true) (ho : y.cls = own) (hyn : y.name = "<init>") (hn : (lg_sl av).length ≤ maxL)
    (body : ∀ (p : Program) (e : Env) (s : State) (m : MethodId) (args : Array Value) (below : List Frame) (meth : Method) (c : Code) (A : Nat → Prop) (Q : State → Prop), cx_C p s m args c cc maxL own D k → A = va_A w0 s.heap.size → Q = MQ below (Qc s.heap.size) args s mc ms (va_A w0 s.heap.size) → meth.sig.returnType = none → meth.locks = false → meth.name = "<init>" →
      cx_S p l e (cx_rmI d mc ms) s m args below meth c A D maxL 0 0 Q 0 (lv_args 0 av) [] w0) : cx_MI l y cc maxL d mc ms D k av w0 Qc := by
  intro sz
  refine Met.ofW (cc := cc) (maxL := maxL) (ret := none) hy rfl ?_
  intro p e s m args below meth c s₁ B hml hv
  obtain ⟨rfl, hsz, hP, hK, hD0⟩ := hv
  have hts := atoms_spec (ws := .code y cc maxL none :: cx_G) B.pre
  have hown : s.vm.findClass own = some m.cls := ho ▸ findClass_of_methodNamed B.named
  subst hsz
  have hl := lv_entry av (n := maxL) hn
  rw [lg_entry_eq]
  exact body p e s m av.toArray below meth c _ _ ⟨B.exec, B.bytes, hml, hown, fun w hw => hts w (List.mem_cons_of_mem _ hw), hK⟩ rfl rfl B.returns B.notSynchronized ((name_of_methodNamed B.named B.method).1.trans hyn) s.heap [] _ hP hD0.self va_S.rf hl
theorem cx_arrU {s : State} {a b : ClassId} {ty : FieldType} (hp : ty = .int ∨ ty = .long ∨ ty = .char ∨ ty = .boolean) (h1 : va_RA s a ty) (h2 : va_RA s b ty) : a = b := by
  rcases hp with rfl | rfl | rfl | rfl <;> exact Option.some.inj (h1.symm.trans h2)
theorem cx_appP {A0 : Nat → Prop} {D : va_G} {cl : List vw_C} {pre w1 : va_W} {x : Nat × va_E} {H H1 : Heap} (hP : va_P D cl (pre ++ [x]) H) (hD : va_D A0 (pre ++ [x])) (hk : ∀ q : Nat, q < H.size → ¬ va_A [x] H.size q → H1[q]? = H[q]?) (hF : ∀ q, va_A [x] H.size q → A0 q) (hP1 : va_P D cl w1 H1) (hD1 : va_D (va_A [x] H.size) w1) : va_P D cl (pre ++ w1) H1 ∧ va_D A0 (pre ++ w1) := by
  have hin : ∀ (i : Nat) (q : Nat × va_E), pre[i]? = some q → (pre ++ [x])[i]? = some q ∧ i < pre.length := by
    intro i q h
    have hl : i < pre.length := (List.getElem?_eq_some_iff.mp h).1
    exact ⟨by rw [List.getElem?_append_left hl]; exact h, hl⟩
  have hlast : (pre ++ [x])[pre.length]? = some x := by simp
  have apart : ∀ (i : Nat) (q : Nat × va_E), pre[i]? = some q → q.1 < H.size ∧ ¬ va_A [x] H.size q.1 := by
    intro i q h
    obtain ⟨h1, h2⟩ := hin i q h
    have hlt := (hP i q h1).lt
    refine ⟨hlt, ?_⟩
    rintro (⟨n, e, h3⟩ | h3)
    · have hx : x.1 = q.1 := by
        cases n with
        | zero =>
          have : x = (q.1, e) := by simpa using h3
          rw [this]
        | succ n => simp at h3
      have := hD.1 i pre.length q x h1 hlast hx.symm
      omega
    · omega
  refine ⟨va_P.app (fun i q h => (hP i q (hin i q h).1).kept (hk q.1 (apart i q h).1 (apart i q h).2)) hP1, va_D.app ⟨fun i j a b ha hb hab => hD.1 i j a b (hin i a ha).1 (hin j b hb).1 hab, fun i q h => hD.2 i q (hin i q h).1⟩ (hD1.weaken (fun k q _ h => hF q.1 h)) (fun i j a b ha hb hab => ?_)⟩
  exact (apart i a ha).2 (by rw [hab]; exact hD1.2 j b hb)
section CXI
variable {p : Program} {l : Launch} {e : Env} {R : Room} {s : State} {m : MethodId} {args : Array Value} {below : List Frame} {meth : Method} {c : Code} {A : Nat → Prop} {D : va_G} {nL cells slots : Nat} {Q : State → Prop} {cc : ByteArray} {own : String} {k : Nat → ClassId} {pc : Nat} {lv : List (Nat × Value)} {st : List Value} {ws : va_W}
variable {w0 : va_W}
theorem cx_objI (C : cx_C p s m args c cc nL own D k) {idx a : Nat} (hd : decode cc pc = .ok (.invokespecial idx, 3)) (h1 : Cond.methodLink own idx Lib.objectInit ∈ cx_G) (h2 : Cond.instanceMethod Lib.objectInit ∈ cx_G) (h3 : Cond.code Lib.objectInit ⟨#[0xb1]⟩ 1 none ∈ cx_G) (hf : 1 ≤ R.frames) (hlo : (st.map fun v => v.category).sum + 12 ≤ R.locals) (h : cx_S p l e R s m args below meth c A D nL cells slots Q (pc + 3) lv (st) ws) : cx_S p l e R s m args below meth c A D nL cells slots Q (pc) lv (.ref a :: st) ws := fun H locs ls hP hD hS hl => W.objInit C.1 C.2.1 C.2.2.2.1 (C.2.2.2.2.1 _ h1) (C.2.2.2.2.1 _ h2) (C.2.2.2.2.1 _ h3) (g := F0 m pc ls (.ref a :: st)) rfl (hl.1.trans C.2.2.1.symm) rfl hd hf (by show 2 * 0 + _ + 12 ≤ _; omega) (W.eq rfl (h H locs ls hP hD hS hl))
theorem cx_new (C : cx_C p s m args c cc nL own D k) {Cn : String} {T : u_T} {N ci idx : Nat} {fs : List Value} (hA : A = va_A w0 s.heap.size) (hin : ∀ w ∈ u_ws Cn T N, w ∈ cx_G) (ty : Nat → FieldType) (hty : ∀ k, k < N → parseFieldDescriptor (T k).2.2.1 = some (ty k)) (hd : decode cc pc = .ok (.new idx, 3)) (h1 : Cond.classLink own idx Cn ∈ cx_G) (h2 : Cond.instantiable Cn N ∈ cx_G) (h3 : Cond.initialized Cn ∈ cx_G) (hc : cx_cl[ci]? = some (Cn, T, N)) (hfs : ∀ j, j < N → defaultValue (ty j) = vp_V fs j) (hcells : cells + 1 ≤ R.cells) (hslots : slots + N ≤ R.slots) (h : ∀ q : Nat, cx_S p l e R s m args below meth c A D nL (cells + 1) (slots + N) Q (pc + 3) lv (.ref q :: st) (ws ++ [(q, .inr (ci, fs))])) : cx_S p l e R s m args below meth c A D nL cells slots Q (pc) lv (st) ws := fun H locs ls hP hD hS hl => va_new (D := D) (cl := cx_cl) C.1 C.2.1 C.2.2.2.2.1 hin ty hty C.2.2.2.1 (C.2.2.2.2.1 _ h1) (C.2.2.2.2.1 _ h2) (C.2.2.2.2.1 _ h3) C.2.2.2.2.2.1 hP hD hS (fun q hq => by rw [hA]; exact Or.inr hq) hc hfs hcells hslots hd (fun q H1 p1 d1 s1 => h q H1 locs ls p1 d1 s1 hl)
theorem cx_newa (C : cx_C p s m args c cc nL own D k) {atype : ArrayType} {ty : FieldType} {n : Int32} {N : Nat} {a0 : vp_A} (hA : A = va_A w0 s.heap.size) (t0 : Nat) (ht0 : (cx_ty k)[t0]? = some (k t0, ty)) (hp : ty = .int ∨ ty = .long ∨ ty = .char ∨ ty = .boolean) (hd : decode cc pc = .ok (.newarray atype, 2)) (hty : newarray.typeOf atype = ty) (hw : Cond.arrayClass (newarray.typeOf atype) ∈ cx_G) (ha : ∀ cA : ClassId, vp_cell cA a0 = arrV cA N (fun _ => defaultValue ty)) (hn : ¬ n < 0) (hN : n.toNatClampNeg = N) (hbytes : N * componentBytes ty ≤ 536870912) (hcells : cells + 1 ≤ R.cells) (hslots : slots + N ≤ R.slots) (h : ∀ q : Nat, cx_S p l e R s m args below meth c A D nL (cells + 1) (slots + N) Q (pc + 2) lv (.ref q :: st) (ws ++ [(q, .inl (k t0, a0))])) : cx_S p l e R s m args below meth c A D nL cells slots Q (pc) lv (.int n :: st) ws := by
  intro H locs ls hP hD hS hl
  refine va_newa (D := D) (cl := cx_cl) C.1 C.2.1 (C.2.2.2.2.1 _ hw) hty C.2.2.2.2.2.1 hP hD hS (fun q hq => by rw [hA]; exact Or.inr hq) ha hn hN hbytes hcells hslots hd (fun q cA H1 k1 p1 d1 s1 => ?_)
  have e1 : va_RA s cA ty := (k1.2 (cx_ty k).length (cA, ty) (by simp)).2
  have e2 : va_RA s (k t0) ty := (C.2.2.2.2.2.1.2 t0 (k t0, ty) ht0).2
  have e3 : cA = k t0 := cx_arrU hp e1 e2
  subst e3
  exact h q H1 locs ls p1 d1 s1 hl
theorem cx_putF (C : cx_C p s m args c cc nL own D k) {Cn : String} {T : u_T} {N ci idx a : Nat} {fs : List Value} {v : Value} {ty : FieldType} {ws' : va_W} (hnm2 : meth.name = "<init>") (hin : ∀ w ∈ u_ws Cn T N, w ∈ cx_G) (ty0 : Nat → FieldType) (hty : ∀ k, k < N → parseFieldDescriptor (T k).2.2.1 = some (ty0 k)) (hnm : ∀ a, a < N → ∀ b, b < N → a ≠ b → (T a).2.1 ≠ (T b).2.1) (hd : decode cc pc = .ok (.putfield idx, 3)) (q0 : Nat) (he : ws[q0]? = some (a, .inr (ci, fs))) (hc : cx_cl[ci]? = some (Cn, T, N)) (j : Nat) (hj : j < N) (hw : Cond.fieldLink own idx (T j).1 (T j).2.1 (T j).2.2.1 ∈ cx_G) (hfin : (T j).2.2.2 = true) (hdecl : (T j).1 = own) (hdesc : parseFieldDescriptor (T j).2.2.1 = some ty) (hn : narrow ty v = v) (hfit : fits ty v = true) (hl9 : j < fs.length) (hw' : ws.set q0 (a, .inr (ci, fs.set j v)) = ws') (h : cx_S p l e R s m args below meth c A D nL cells slots Q (pc + 3) lv (st) ws') : cx_S p l e R s m args below meth c A D nL cells slots Q (pc) lv (v :: .ref a :: st) ws := fun H locs ls hP hD hS hl => va_putF (D := D) (cl := cx_cl) C.1 C.2.1 C.2.2.2.2.1 hin ty0 hty hnm C.2.2.2.1 C.2.2.2.2.2.1 hP hD hS q0 he hc j hj (C.2.2.2.2.1 _ hw) (fun _ h9 => h9) hfin hnm2 hdecl hdesc hn hfit hl9 hd (fun H1 locs1 p1 d1 s1 => h H1 locs1 ls (hw' ▸ p1) (hw' ▸ d1) s1 hl)
theorem cx_wsE {ws' : va_W} (hw : ws = ws') (h : cx_S p l e R s m args below meth c A D nL cells slots Q (pc) lv (st) ws') : cx_S p l e R s m args below meth c A D nL cells slots Q (pc) lv (st) ws := hw ▸ h
theorem cx_perm {ws' : va_W} (is : List Nat) (hn : va_nd is = true) (hs : is.map (fun i => ws[i]?) = ws'.map some) (h : cx_S p l e R s m args below meth c A D nL cells slots Q (pc) lv (st) ws') : cx_S p l e R s m args below meth c A D nL cells slots Q (pc) lv (st) ws := fun H locs ls hP hD hS hl => h H locs ls (hP.sub is (by
    have e := congrArg (fun z => z.filterMap id) hs
    simpa [List.filterMap_map, Function.comp_def] using e)) (hD.sub is hn hs) hS hl
theorem cx_wid {c2 s2 : Nat} (h1 : cells ≤ c2) (h2 : slots ≤ s2) (h : cx_S p l e R s m args below meth c A D nL c2 s2 Q pc lv st ws) : cx_S p l e R s m args below meth c A D nL cells slots Q (pc) lv (st) ws := fun H locs ls hP hD hS hl => W.widen h1 h2 (h H locs ls hP hD hS hl)
theorem cx_vretI (C : cx_C p s m args c cc nL own D k) {Sg : Type} {post : Sg → Prop} {w1 : Sg → va_W} (u : Sg) (hA : A = va_A w0 s.heap.size) (hQ : Q = MQ below (cx_QI D post w0 w1 s.heap.size) args s cells slots (va_A w0 s.heap.size)) (hr : meth.sig.returnType = none) (hlocks : meth.locks = false) (hd : decode cc pc = .ok (.return_, 1)) (hp : post u) (hw : ws = w1 u) : cx_S p l e R s m args below meth c A D nL cells slots Q (pc) lv ([]) ws := by
  subst hA hQ
  exact fun H locs ls hP hD hS hl => W.vret C.1 C.2.1 hr (fun t ht _ => ⟨⟨u, rfl, hp, by rw [ht, ← hw]; exact hP, by rw [← hw]; exact hD⟩, hS.F ht⟩) hS.2.2 hd hlocks
variable {y : MethodName} {bytes : ByteArray} {maxL d idx n2 b ci mc ms : Nat} {As rest st0 : List Value} {pre : va_W} {fs : List Value}
theorem cx_ctor {Sg : Type} {post : Sg → Prop} {w1 : Sg → va_W}  (hA : A = va_A w0 s.heap.size) (C : cx_C p s m args c cc nL own D k) (hy : cx_Me y bytes maxL none n2) (hyn : y.name = "<init>") (hyi : Cond.instanceMethod y ∈ cx_G) (hlk : Cond.methodLink own idx y ∈ cx_G) (hM : cx_MI l y bytes maxL d mc ms D k (.ref b :: As) [(b, .inr (ci, fs))] (fun sz => cx_QI D post [(b, .inr (ci, fs))] w1 sz)) (hd : decode cc pc = .ok (.invokespecial idx, 3)) (hR : d + 1 ≤ R.frames ∧ 8 + (maxL + 11) + 40 * d ≤ R.locals) (hcs : cells + mc ≤ R.cells ∧ slots + ms ≤ R.slots) (hn : As.length = n2) (hst : st0 = As.reverse ++ .ref b :: rest) (hro : (rest.map fun v => v.category).sum ≤ 8) (hw : ws = pre ++ [(b, .inr (ci, fs))]) (h : ∀ u : Sg, post u → cx_S p l e R s m args below meth c A D nL (cells + mc) (slots + ms) Q (pc + 3) lv rest (pre ++ w1 u)) : cx_S p l e R s m args below meth c A D nL cells slots Q (pc) lv (st0) ws := by
  subst hw
  intro H locs ls hP hD hS hl
  have hPc : va_P D cx_cl [(b, .inr (ci, fs))] H := fun i x hx => by
    cases i with
    | zero => exact hP pre.length x (by simpa using hx)
    | succ i => simp at hx
  have hDc : va_D A [(b, .inr (ci, fs))] := ⟨fun i j x y hx hy _ => by
    have h1 : i < 1 := (List.getElem?_eq_some_iff.mp hx).1
    have h2 : j < 1 := (List.getElem?_eq_some_iff.mp hy).1
    omega, fun i x hx => by
    cases i with
    | zero => exact hD.2 pre.length x (by simpa using hx)
    | succ i => simp at hx⟩
  have hFc : ∀ q, va_A [(b, .inr (ci, fs))] H.size q → A q := by
    intro q hq
    rcases hq with ⟨n, e, h3⟩ | h3
    · exact hDc.2 n (q, e) h3
    · rw [hA]; exact Or.inr (Nat.le_trans hS.1 h3)
  refine va_callv (va_runI (As := As) (rest := rest) ⟨C.1, C.2.1, C.2.2.1, C.2.2.2.1, C.2.2.2.2.1⟩ (hM H.size) ⟨callB_of n2 C.2.2.2.2.1 (cx_goodG hy.2.2) rfl rfl rfl (C.2.2.2.2.1 _ hy.2.1) (C.2.2.2.2.1 _ hlk) hy.1 hR, hyn, C.2.2.2.2.1 _ hyi⟩ ⟨cx_P.blind, cx_pre C hPc hDc⟩ rfl hn hl.1 hst (lv_room hro) hd hcs) hS (fun q _ h => hFc q h) hFc (fun u t H1 locs1 ht _ hpu hB _ hk1 hS1 => ?_)
  obtain ⟨hB1, hB2⟩ := hB
  obtain ⟨hP2, hD2⟩ := cx_appP hP hD hk1 hFc (ht ▸ hB1) hB2
  exact h u hpu H1 locs1 ls hP2 hD2 hS1 hl
theorem cx_ctorN {Sg : Type} {post : Sg → Prop} {w1 : Sg → va_W} {host : String} (hA : A = va_A w0 s.heap.size) (C : cx_C p s m args c cc nL own D k) (hy : cx_Me y bytes maxL none n2) (hyn : y.name = "<init>") (hyi : Cond.instanceMethod y ∈ cx_G) (hlk : ∀ {U : State}, cx_N U → va_Nw (.methodLinkNest own idx y host) U) (hM : cx_MI l y bytes maxL d mc ms D k (.ref b :: As) [(b, .inr (ci, fs))] (fun sz => cx_QI D post [(b, .inr (ci, fs))] w1 sz)) (hd : decode cc pc = .ok (.invokespecial idx, 3)) (hR : d + 1 ≤ R.frames ∧ 8 + (maxL + 11) + 40 * d ≤ R.locals) (hcs : cells + mc ≤ R.cells ∧ slots + ms ≤ R.slots) (hn : As.length = n2) (hst : st0 = As.reverse ++ .ref b :: rest) (hro : (rest.map fun v => v.category).sum ≤ 8) (hw : ws = pre ++ [(b, .inr (ci, fs))]) (h : ∀ u : Sg, post u → cx_S p l e R s m args below meth c A D nL (cells + mc) (slots + ms) Q (pc + 3) lv rest (pre ++ w1 u)) : cx_S p l e R s m args below meth c A D nL cells slots Q (pc) lv (st0) ws := by
  subst hw
  intro H locs ls hP hD hS hl
  have hPc : va_P D cx_cl [(b, .inr (ci, fs))] H := fun i x hx => by
    cases i with
    | zero => exact hP pre.length x (by simpa using hx)
    | succ i => simp at hx
  have hDc : va_D A [(b, .inr (ci, fs))] := ⟨fun i j x y hx hy _ => by
    have h1 : i < 1 := (List.getElem?_eq_some_iff.mp hx).1
    have h2 : j < 1 := (List.getElem?_eq_some_iff.mp hy).1
    omega, fun i x hx => by
    cases i with
    | zero => exact hD.2 pre.length x (by simpa using hx)
    | succ i => simp at hx⟩
  have hFc : ∀ q, va_A [(b, .inr (ci, fs))] H.size q → A q := by
    intro q hq
    rcases hq with ⟨n, e, h3⟩ | h3
    · exact hDc.2 n (q, e) h3
    · rw [hA]; exact Or.inr (Nat.le_trans hS.1 h3)
  refine va_callv (va_runIN (As := As) (rest := rest) (host := host) ⟨C.1, C.2.1, C.2.2.1, C.2.2.2.1, C.2.2.2.2.1⟩ (hM H.size) ⟨va_cnB n2 C.2.2.2.2.1 (cx_goodG hy.2.2) rfl rfl rfl (hlk C.2.2.2.2.2.2) (C.2.2.2.2.1 _ hy.2.1) hy.1 hR, hyn, C.2.2.2.2.1 _ hyi⟩ ⟨cx_P.blind, cx_pre C hPc hDc⟩ rfl hn hl.1 hst (lv_room hro) hd hcs) hS (fun q _ h => hFc q h) hFc (fun u t H1 locs1 ht _ hpu hB _ hk1 hS1 => ?_)
  obtain ⟨hB1, hB2⟩ := hB
  obtain ⟨hP2, hD2⟩ := cx_appP hP hD hk1 hFc (ht ▸ hB1) hB2
  exact h u hpu H1 locs1 ls hP2 hD2 hS1 hl
end CXI
