/-! DESCEND: through all ways -/
def p8_bs (F : (Nat → Nat) → Nat) (ω : Nat → Nat) (s : Nat × (Nat → Nat)) : Nat × (Nat → Nat) := if s.1 < F ω then (F ω, ω) else s
def p8_ACC (d np n2 : Nat) (sh pa cr bt : Nat → Int64) (bw : Nat → Int32) (S : Nat → Nat → Nat) (Q : Nat → Nat → Nat → Nat → Nat) (C : Nat → Nat) (bb : Nat × (Nat → Nat)) (M : Nat) : Prop :=
  (1 ≤ d → p8_S2 sh S M ∧ p8_C1 cr C M ∧ p3_N bt 0 bb.1 ∧ (bb.1 ≠ 0 → ∀ e, e < n2 → bw e = nI (bb.2 e))) ∧ (d = 2 → np = 5184 ∧ p8_P4 pa Q M)
def p8_cS (n0 n2 : Nat) (F : (Nat → Nat) → Nat) (l m h : Nat) (ω : Nat → Nat) (k x : Nat) : Nat := if l ≤ k ∧ k < n2 then p6_ws n0 (fun ω => if ω k = x then F ω else 0) m h ω else 0
def p8_cQ (n0 n2 : Nat) (F : (Nat → Nat) → Nat) (l m h : Nat) (ω : Nat → Nat) (e v k y : Nat) : Nat := if l ≤ k ∧ k < n2 ∧ e < k then p6_ws n0 (fun ω => if ω e = v ∧ ω k = y then F ω else 0) m h ω else 0
def p8_cC (n0 n2 : Nat) (F : (Nat → Nat) → Nat) (m h : Nat) (ω : Nat → Nat) (c : Nat) : Nat := p6_ws n0 (fun ω => if p8_crd ω n2 % 32 = c then F ω else 0) m h ω
def p8_D (hp : Nat → Nat) (L : Nat → Nat → Nat → Nat) (yc : Nat → Nat) (n0 n2 : Nat) (od : Bool) (ea la d np fo : Nat) (F : (Nat → Nat) → Nat) (PW : (Nat → Nat) → Nat → Nat) (m h : Nat) (R : (Nat → Int64) → (Nat → Int64) → (Nat → Int64) → (Nat → Int32) → (Nat → Int64) → (Nat → Int64) → (Nat → Int64) → (Nat → Int32) → (Nat → Int64) → Int32 → Int32 → Option ((Nat → Int64) × (Nat → Int64) × (Nat → Int64) × (Nat → Int32) × (Nat → Int64) × (Nat → Int64) × (Nat → Int64) × (Nat → Int32) × (Nat → Int64))) : Prop :=
  ∀ (ω : Nat → Nat) (pr ws sub : Nat → Int64) (wy : Nat → Int32) (sh pa cr : Nat → Int64) (bw : Nat → Int32) (bt : Nat → Int64) (S : Nat → Nat → Nat) (Q : Nat → Nat → Nat → Nat → Nat) (C : Nat → Nat) (bb : Nat × (Nat → Nat)) (M : Nat),
    p8_PR hp L yc n2 od ea la pr h ω → p3_N ws h (PW ω h) → (∀ e, e < h → wy e = nI (ω e)) → (∀ e, e < h → k_w n0 (ω e)) → p8_twb hp ω h = false → p8_ACC d np n2 sh pa cr bt bw S Q C bb M →
    ∃ (pr' ws' sub' : Nat → Int64) (wy' : Nat → Int32) (sh' pa' cr' : Nat → Int64) (bw' : Nat → Int32) (bt' : Nat → Int64) (v : Nat), R pr ws sub wy sh pa cr bw bt (nI h) (nI (p8_crd ω h)) = some (pr', ws', sub', wy', sh', pa', cr', bw', bt') ∧
      (∀ j, (j < h * 12 ∨ 72 ≤ j) → pr' j = pr j) ∧ (∀ j, j < (h + 1) * 4 → ws' j = ws j) ∧ (∀ j, j < h * 4 → sub' j = sub j) ∧ (∀ e, e < h → wy' e = wy e) ∧
      p3_U sub' h v (12 ^ m * 1073741824) ∧ ((fo = 0 → v = p6_ws n0 F m h ω) ∧ v ≤ p6_ws n0 F m h ω) ∧ (v = 0 ↔ p6_ws n0 F m h ω = 0) ∧
      p8_ACC d np n2 sh' pa' cr' bt' bw' (fun k x => S k x + p8_cS n0 n2 F h m h ω k x) (fun e v k y => Q e v k y + p8_cQ n0 n2 F h m h ω e v k y) (fun c => C c + p8_cC n0 n2 F m h ω c) (p6_wf n0 (p8_bs F) m h ω bb) (M + 12 ^ m * 1073741824) ∧ (d = 0 → sh' = sh ∧ cr' = cr ∧ bw' = bw ∧ bt' = bt) ∧ (d ≠ 2 → pa' = pa)
theorem p8_bs_z {F : (Nat → Nat) → Nat} {ω : Nat → Nat} {s : Nat × (Nat → Nat)} (h : F ω = 0) : p8_bs F ω s = s := by
  unfold p8_bs
  rw [h, if_neg (by omega)]
/-- a child and what is gathered of it -/
theorem p8_cS_child (n0 n2 : Nat) (F : (Nat → Nat) → Nat) (m h w : Nat) (ω : Nat → Nat) (k x : Nat) (hh : h < n2) : p8_cS n0 n2 F (h + 1) m (h + 1) (p4_u ω h w) k x + (if k = h ∧ x = w then p6_ws n0 F m (h + 1) (p4_u ω h w) else 0) = p8_cS n0 n2 F h m (h + 1) (p4_u ω h w) k x := by
  by_cases q : k = h
  · subst q
    have e1 : p8_cS n0 n2 F (k + 1) m (k + 1) (p4_u ω k w) k x = 0 := if_neg (by omega)
    have e2 : p8_cS n0 n2 F k m (k + 1) (p4_u ω k w) k x = p6_ws n0 (fun ω => if ω k = x then F ω else 0) m (k + 1) (p4_u ω k w) := if_pos ⟨Nat.le_refl _, hh⟩
    have := p6_ws_if n0 F m (k + 1) (p4_u ω k w) (fun ω => decide (ω k = x)) (fun ω' q => by rw [q k (by omega)])
    simp only [decide_eq_true_iff] at this
    rw [e1, e2, this, p4_us, Nat.zero_add]
    by_cases e : x = w
    · rw [if_pos ⟨rfl, e⟩, if_pos e.symm]
    · rw [if_neg (fun z => e z.2), if_neg (fun z => e z.symm)]
  · rw [if_neg (show ¬ (k = h ∧ x = w) from fun z => q z.1), Nat.add_zero]
    unfold p8_cS
    by_cases q2 : h ≤ k ∧ k < n2
    · rw [if_pos (show h + 1 ≤ k ∧ k < n2 from ⟨by omega, q2.2⟩), if_pos q2]
    · rw [if_neg (show ¬ (h + 1 ≤ k ∧ k < n2) from fun z => q2 ⟨by omega, z.2⟩), if_neg q2]
theorem p8_cQ_child (n0 n2 : Nat) (F : (Nat → Nat) → Nat) (m h w : Nat) (ω : Nat → Nat) (e v k y : Nat) (hh : h < n2) : p8_cQ n0 n2 F (h + 1) m (h + 1) (p4_u ω h w) e v k y + (if k = h ∧ y = w ∧ e < h ∧ ω e = v then p6_ws n0 F m (h + 1) (p4_u ω h w) else 0) = p8_cQ n0 n2 F h m (h + 1) (p4_u ω h w) e v k y := by
  by_cases q : k = h
  · subst q
    have e1 : p8_cQ n0 n2 F (k + 1) m (k + 1) (p4_u ω k w) e v k y = 0 := if_neg (by omega)
    rw [e1, Nat.zero_add]
    by_cases he : e < k
    · have e2 : p8_cQ n0 n2 F k m (k + 1) (p4_u ω k w) e v k y = p6_ws n0 (fun ω => if ω e = v ∧ ω k = y then F ω else 0) m (k + 1) (p4_u ω k w) := if_pos ⟨Nat.le_refl _, hh, he⟩
      have := p6_ws_if n0 F m (k + 1) (p4_u ω k w) (fun ω => decide (ω e = v ∧ ω k = y)) (fun ω' q => by rw [q k (by omega), q e (by omega)])
      simp only [decide_eq_true_iff] at this
      rw [e2, this, p4_us, p4_un (by omega)]
      by_cases c : y = w ∧ ω e = v
      · rw [if_pos ⟨rfl, c.1, he, c.2⟩, if_pos ⟨c.2, c.1.symm⟩]
      · rw [if_neg (fun z => c ⟨z.2.1, z.2.2.2⟩), if_neg (fun z => c ⟨z.2.symm, z.1⟩)]
    · have e2 : p8_cQ n0 n2 F k m (k + 1) (p4_u ω k w) e v k y = 0 := if_neg (fun z => he z.2.2)
      rw [e2, if_neg (fun z => he z.2.2.1)]
  · rw [if_neg (show ¬ (k = h ∧ y = w ∧ e < h ∧ ω e = v) from fun z => q z.1), Nat.add_zero]
    unfold p8_cQ
    by_cases q2 : h ≤ k ∧ k < n2 ∧ e < k
    · rw [if_pos (show h + 1 ≤ k ∧ k < n2 ∧ e < k from ⟨by omega, q2.2⟩), if_pos q2]
    · rw [if_neg (show ¬ (h + 1 ≤ k ∧ k < n2 ∧ e < k) from fun z => q2 ⟨by omega, z.2⟩), if_neg q2]
theorem p8_cS_all (n0 n2 : Nat) (F : (Nat → Nat) → Nat) (m h : Nat) (ω : Nat → Nat) (k x : Nat) : p6_sm (n0 + 1) (fun t => p8_cS n0 n2 F h m (h + 1) (p4_u ω h (p6_who n0 (0 + t))) k x) = p8_cS n0 n2 F h (m + 1) h ω k x := by
  unfold p8_cS
  by_cases q : h ≤ k ∧ k < n2
  · rw [if_pos q, p6_ws]
    exact p6_sm_congr (fun t _ => by rw [if_pos q, Nat.zero_add])
  · rw [if_neg q]
    exact p6_sm_zero (fun t _ => if_neg q)
theorem p8_cQ_all (n0 n2 : Nat) (F : (Nat → Nat) → Nat) (m h : Nat) (ω : Nat → Nat) (e v k y : Nat) : p6_sm (n0 + 1) (fun t => p8_cQ n0 n2 F h m (h + 1) (p4_u ω h (p6_who n0 (0 + t))) e v k y) = p8_cQ n0 n2 F h (m + 1) h ω e v k y := by
  unfold p8_cQ
  by_cases q : h ≤ k ∧ k < n2 ∧ e < k
  · rw [if_pos q, p6_ws]
    exact p6_sm_congr (fun t _ => by rw [if_pos q, Nat.zero_add])
  · rw [if_neg q]
    exact p6_sm_zero (fun t _ => if_neg q)
theorem p8_c_zero (n0 n2 : Nat) (F : (Nat → Nat) → Nat) (m h : Nat) (ω : Nat → Nat) (hz : ∀ ω', p6_on h ω ω' → F ω' = 0) : (∀ l k x, p8_cS n0 n2 F l m h ω k x = 0) ∧ (∀ l e v k y, p8_cQ n0 n2 F l m h ω e v k y = 0) ∧ (∀ c, p8_cC n0 n2 F m h ω c = 0) ∧ p6_ws n0 F m h ω = 0 ∧ ∀ s, p6_wf n0 (p8_bs F) m h ω s = s := by
  refine ⟨fun l k x => ?_, fun l e v k y => ?_, fun c => ?_, p6_ws_zero n0 F m h ω hz, fun s => p6_wf_id n0 _ m h ω s (fun ω' s q => p8_bs_z (hz ω' q))⟩
  · unfold p8_cS
    split
    · exact p6_ws_zero n0 _ m h ω (fun ω' q => by rw [hz ω' q]; split <;> rfl)
    · rfl
  · unfold p8_cQ
    split
    · exact p6_ws_zero n0 _ m h ω (fun ω' q => by rw [hz ω' q]; split <;> rfl)
    · rfl
  · exact p6_ws_zero n0 _ m h ω (fun ω' q => by rw [hz ω' q]; split <;> rfl)
theorem p8_ACC.mono {d np n2 : Nat} {sh pa cr bt : Nat → Int64} {bw : Nat → Int32} {S S' : Nat → Nat → Nat} {Q Q' : Nat → Nat → Nat → Nat → Nat} {C C' : Nat → Nat} {bb bb' : Nat × (Nat → Nat)} {M M' : Nat} (h : p8_ACC d np n2 sh pa cr bt bw S Q C bb M) (hM : M ≤ M') (hS : ∀ k x, S k x = S' k x) (hQ : ∀ e v k y, Q e v k y = Q' e v k y) (hC : ∀ c, C c = C' c) (hb : bb = bb') : p8_ACC d np n2 sh pa cr bt bw S' Q' C' bb' M' := by
  subst hb
  refine ⟨fun q => ?_, fun q => ?_⟩
  · obtain ⟨a, b, c, e⟩ := h.1 q
    exact ⟨fun k w hk hw => by rw [← hS]; exact (a k w hk hw).mono hM, fun i hi => by rw [← hC]; exact (b i hi).mono hM, c, e⟩
  · obtain ⟨a, b⟩ := h.2 q
    exact ⟨a, fun e v k w h1 h2 h3 h4 => by rw [← hQ]; exact (b e v k w h1 h2 h3 h4).mono hM⟩
section DS
variable {hp : Nat → Nat} {L : Nat → Nat → Nat → Nat} {yc fy : Nat → Nat} {n0 n1 n2 n3 n4 : Nat} {od : Bool} {ea la : Nat} {nh : Nat → Nat} {nf : Nat → Nat → Nat} {ja jb jw : Nat → Nat}
variable {eI lI z4 : Int32} {fyA ycA plA bfA clA lkA lsA nmA c4 bk : Nat → Int32} {d np fo : Nat} {F : (Nat → Nat) → Nat} {PW : (Nat → Nat) → Nat → Nat}
/-- at the end of a way -/
theorem p8_leaf (hOK : p8_OK hp L yc fy n0 n1 n2 n3 n4 od ea la nh nf ja jb jw) (hF : ∀ ω, F ω = p8_Wt hp L yc fy n1 n2 n3 n4 od ea la nh nf ja jb jw ω) (hPW : ∀ ω k, PW ω k = p6_PW hp L yc fy n1 n2 n3 n4 od ea la nh nf ja jb jw ω k) (hd : d ≤ 2) (R : (Nat → Int64) → (Nat → Int64) → (Nat → Int64) → (Nat → Int32) → (Nat → Int64) → (Nat → Int64) → (Nat → Int64) → (Nat → Int32) → (Nat → Int64) → Int32 → Int32 → Option ((Nat → Int64) × (Nat → Int64) × (Nat → Int64) × (Nat → Int32) × (Nat → Int64) × (Nat → Int64) × (Nat → Int64) × (Nat → Int32) × (Nat → Int64))) : p8_D hp L yc n0 n2 od ea la d np fo F PW 0 n2 (f_X7_descend_B (nI d) eI lI (nI fo) fyA ycA plA bfA clA lkA lsA nmA (nI n0) (nI n2) c4 z4 np R) := by
  obtain ⟨on0, on1, on2, on3, on4, ohp, ood, oyc, ofy, oL, onh, oj⟩ := id hOK
  intro ω pr ws sub wy sh pa cr bw bt S Q C bb M hPR hws hwy hω htw hACC
  have hFω : F ω = PW ω n2 := by
    rw [hF, hPW]
    unfold p8_Wt
    rw [htw, if_neg (by decide)]
    exact p6_W_PW on2 ohp (fun q => (ood q).1) (fun n hn => (onh n hn).1) (fun j hj => ⟨(oj j hj).1, (oj j hj).2.1⟩)
  obtain ⟨sub', a1, a2, a3⟩ := p3_copy (n := 28) (i := n2) (n' := 28) (j := n2) sub (by omega) (by decide) (by omega) (by decide) hws
  rw [← hFω] at a3 hws
  have hω6 : ∀ e, e < n2 → ω e < 6 := fun e he => k_w_lt on0 (hω e he)
  have hcl := p8_crd_lt hω6
  unfold f_X7_descend_B
  rw [if_neg (by rw [nI_ltI (by omega) (by omega)]; omega), a1, Option.bind_some]
  have hws0 : p6_ws n0 F 0 n2 ω = F ω := rfl
  have hU : p3_U sub' n2 (F ω) (12 ^ 0 * 1073741824) := a3.U.mono (by decide)
  by_cases h0 : d = 0
  · rw [if_pos (by rw [h0]; decide)]
    refine ⟨pr, ws, sub', wy, sh, pa, cr, bw, bt, F ω, rfl, fun _ _ => rfl, fun _ _ => rfl, fun j hj => a2 j (by omega), fun _ _ => rfl, hU, ⟨fun _ => rfl, Nat.le_refl _⟩, Iff.rfl, ⟨fun q => by omega, fun q => by omega⟩, fun _ => ⟨rfl, rfl, rfl, rfl⟩, fun _ => rfl⟩
  · obtain ⟨b1, b2, b3, b4⟩ := hACC.1 (by omega)
    obtain ⟨cr', bw', bt', c1, c2, c3, c4', c5⟩ := p8_addWay wy bw cr ws bt (p8_crd ω n2 % 32) n2 (F ω) bb.1 M C (Nat.mod_lt _ (by decide)) on2 hws b3 b2
    rw [if_neg (nI_nle (by omega) (by omega)), show nI (p8_crd ω n2) &&& 31 = nI (p8_crd ω n2 % 32) from pk_andN (by omega) 5 (by decide), c1, Option.bind_some]
    refine ⟨pr, ws, sub', wy, sh, pa, cr', bw', bt', F ω, rfl, fun _ _ => rfl, fun _ _ => rfl, fun j hj => a2 j (by omega), fun _ _ => rfl, hU, ⟨fun _ => rfl, Nat.le_refl _⟩, Iff.rfl, ⟨fun _ => ⟨?_, ?_, ?_, ?_⟩, fun q => ?_⟩, fun q => absurd q h0, fun _ => rfl⟩
    · intro k w hk hw
      have : p8_cS n0 n2 F n2 0 n2 ω k w = 0 := if_neg (by omega)
      dsimp only
      rw [this, Nat.add_zero]
      exact (b1 k w hk hw).mono (by omega)
    · intro i hi
      have := c2 i hi
      dsimp only at this
      have e : p8_cC n0 n2 F 0 n2 ω i = if i = p8_crd ω n2 % 32 then F ω else 0 := by
        show (if p8_crd ω n2 % 32 = i then F ω else 0) = _
        by_cases q : i = p8_crd ω n2 % 32
        · rw [if_pos q, if_pos q.symm]
        · rw [if_neg q, if_neg (fun z => q z.symm)]
      dsimp only
      rw [e]
      exact this.mono (by omega)
    · show p3_N bt' 0 (p8_bs F ω bb).1
      unfold p8_bs
      by_cases q : bb.1 < F ω
      · rw [if_pos q]
        rw [if_pos q] at c3
        exact c3
      · rw [if_neg q]
        rw [if_neg q] at c3
        exact c3
    · show (p8_bs F ω bb).1 ≠ 0 → ∀ e, e < n2 → bw' e = nI ((p8_bs F ω bb).2 e)
      unfold p8_bs
      by_cases q : bb.1 < F ω
      · rw [if_pos q]
        intro _ e he
        rw [c4' q e (by omega), hwy e he]
      · rw [if_neg q, c5 q]
        exact b4
    · obtain ⟨d1, d2⟩ := hACC.2 q
      refine ⟨d1, fun e v k y h1 h2 h3 h4 => ?_⟩
      have : p8_cQ n0 n2 F n2 0 n2 ω e v k y = 0 := if_neg (by omega)
      dsimp only
      rw [this, Nat.add_zero]
      exact (d2 e v k y h1 h2 h3 h4).mono (by omega)
end DS
