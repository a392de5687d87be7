/-! THE INVARIANT -/
/-- the weight, all looked at -/
abbrev q_G0 (bk : Nat → Int32) (n1 n2 n3 n4 : Nat) : (Nat → Nat) → Nat := q_G bk n1 n2 n3 n4 false 0 0 4 false 0 0
def q_A (bk : Nat → Int32) (n0 n1 n2 n3 n4 : Nat) : Nat := p6_ws n0 (q_G0 bk n1 n2 n3 n4) n2 0 q_0
def q_S (bk : Nat → Int32) (n0 n1 n2 n3 n4 k x : Nat) : Nat := p6_ws n0 (fun ω => if ω k = x then q_G0 bk n1 n2 n3 n4 ω else 0) n2 0 q_0
def q_C (bk : Nat → Int32) (n0 n1 n2 n3 n4 c : Nat) : Nat := p8_cC n0 n2 (q_G0 bk n1 n2 n3 n4) n2 0 q_0 c
def q_Q (bk : Nat → Int32) (n0 n1 n2 n3 n4 e v k y : Nat) : Nat := p8_cQ n0 n2 (q_G0 bk n1 n2 n3 n4) 0 n2 0 q_0 e v k y
def q_B (bk : Nat → Int32) (n0 n1 n2 n3 n4 : Nat) : Nat × (Nat → Nat) := p6_wf n0 (p8_bs (q_G0 bk n1 n2 n3 n4)) n2 0 q_0 (0, q_0)
/-- the sums are those of the book, as far as d says -/
def i_SM (bk : Nat → Int32) (n0 n1 n2 n3 n4 d : Nat) (pe he : Int32) (to sh pa cr : Nat → Int64) (bw : Nat → Int32) : Prop := pe = nI n0 ∧ he = nI n2 ∧ p3_N to 0 (q_A bk n0 n1 n2 n3 n4) ∧ (∀ k x, k < n2 → x < 6 → p3_N sh (k * 6 + x) (q_S bk n0 n1 n2 n3 n4 k x)) ∧ p8_C1 cr (q_C bk n0 n1 n2 n3 n4) 4503599627370496 ∧ ((q_B bk n0 n1 n2 n3 n4).1 ≠ 0 → ∀ e, e < n2 → bw e = nI ((q_B bk n0 n1 n2 n3 n4).2 e)) ∧ (d = 2 → p8_P4 pa (q_Q bk n0 n1 n2 n3 n4) 4503599627370496)
def i_sm (bk : Nat → Int32) (n0 n1 n2 n3 n4 : Nat) (sm pe he : Int32) (to sh pa cr : Nat → Int64) (bw : Nat → Int32) : Prop := sm = -1 ∨ ∃ d, 1 ≤ d ∧ d ≤ 2 ∧ sm = nI d ∧ i_SM bk n0 n1 n2 n3 n4 d pe he to sh pa cr bw
def i_A (c0 : Nat → Int32) (z0 : Int32) (c1 : Nat → Int32) (z1 : Int32) (c2 : Nat → Int32) (z2 : Int32) (c3 : Nat → Int32) (z3 : Int32) (c4 : Nat → Int32) (z4 sg : Int32) (bk : Nat → Int32) (sm pe he : Int32) (to sh pa cr : Nat → Int64) (bw : Nat → Int32) : Prop := ∃ n0 n1 n2 n3 n4, p2_RB c0 z0 c1 z1 c2 z2 c3 z3 c4 z4 sg bk n0 n1 n2 n3 n4 ∧ i_sm bk n0 n1 n2 n3 n4 sm pe he to sh pa cr bw
def i_R (q : Int32) (rf mf : Nat → Int32) : Prop := q = 0 ∧ ∀ i, i < 3 → rf i = mf i
def i_K1 (kp mk : Nat → Int32) (i : Nat) (c0 : Nat → Int32) (z0 : Int32) (c1 : Nat → Int32) (z1 : Int32) (c2 : Nat → Int32) (z2 : Int32) (c3 : Nat → Int32) (z3 : Int32) (c4 : Nat → Int32) (z4 sg : Int32) (im : Nat → Int32) : Prop := kp i = mk i ∧ (kp i = 0 ∨ kp i = 1) ∧ (kp i ≠ 0 → ∃ n0 n1 n2 n3 n4, p2_RB c0 z0 c1 z1 c2 z2 c3 z3 c4 z4 sg (fun j => im (140 * i + j)) n0 n1 n2 n3 n4)
def i_T (by' : Nat → Int32) (le : Int32) (tx : Nat → Int32) (ty : Int32) : Prop := ∃ L : Nat, L ≤ 300 ∧ le = nI L ∧ ty = nI L ∧ ∀ j, j < L → by' j = tx j ∧ 0 ≤ (tx j).toInt ∧ (tx j).toInt ≤ 255
def i_F (ab be : Nat → Int64) (l w : Nat → Int32) : Prop := ∃ V : Nat → Nat, p4_S l w V ∧ p3_N ab 0 (V 0) ∧ p3_N be 0 (V 1) ∧ 0 < V 1
def i_on (pr : Nat → Int64) : Prop := ∀ y, y < 12 → pr (72 + y) = lN 1
def i_sn (sh : Nat → Int64) : Prop := ∀ k, k < 36 → ∃ v, p3_N sh k v
def i_Inv (σ τ : cx_St) : Prop :=
  i_A (σ.1 2) (σ.2.2 1) (σ.1 3) (σ.2.2 2) (σ.1 4) (σ.2.2 3) (σ.1 5) (σ.2.2 4) (σ.1 6) (σ.2.2 5) (σ.2.2 6) (τ.1 2) (σ.2.2 0) (σ.2.2 39) (σ.2.2 40) (σ.2.1 10) (σ.2.1 11) (σ.2.1 12) (σ.2.1 13) (σ.1 42) ∧
  i_R (τ.2.2 0) (σ.1 1) (τ.1 6) ∧
  i_K1 (σ.1 0) (τ.1 4) 0 (σ.1 12) (σ.2.2 13) (σ.1 13) (σ.2.2 14) (σ.1 14) (σ.2.2 15) (σ.1 15) (σ.2.2 16) (σ.1 16) (σ.2.2 17) (σ.2.2 18) (τ.1 3) ∧
  i_K1 (σ.1 0) (τ.1 4) 1 (σ.1 17) (σ.2.2 19) (σ.1 18) (σ.2.2 20) (σ.1 19) (σ.2.2 21) (σ.1 20) (σ.2.2 22) (σ.1 21) (σ.2.2 23) (σ.2.2 24) (τ.1 3) ∧
  i_T (σ.1 22) (σ.2.2 25) (τ.1 7) (τ.2.2 1) ∧ i_F (σ.2.1 0) (σ.2.1 1) (τ.1 0) (τ.1 1) ∧ i_on (σ.2.1 4) ∧ i_on (σ.2.1 7) ∧ i_sn (σ.2.1 11) ∧ i_sn (σ.2.1 19)
section IV
variable {c0 c1 c2 c3 c4 : Nat → Int32} {z0 z1 z2 z3 z4 sg : Int32} {bk : Nat → Int32} {n0 n1 n2 n3 n4 : Nat}
/-- lookAtAll -/
theorem i_look (hRB : p2_RB c0 z0 c1 z1 c2 z2 c3 z3 c4 z4 sg bk n0 n1 n2 n3 n4) (fyA ycA : Nat → Int32) (d : Int32) : ∃ fy' yc', f_X7_lookAtAll fyA ycA c1 z1 d = some (d, -1, -1, -1, 0, fy', yc') ∧ (∀ p, p < n1 → fy' p = nI (k_fr bk p) ∧ yc' p = nI (k_to bk p - k_fr bk p + 1)) ∧ (∀ p, n1 ≤ p → fy' p = fyA p ∧ yc' p = ycA p) := by
  have hB := q_BK_of hRB
  obtain ⟨r0, r1, r2, r3, r4, rs, v0, v1, v2, v3, v4, v5⟩ := id hRB
  have hn1 := r1.1
  have hz1 := r1.2.1
  have loop : ∀ (r p m : Nat) (fyA ycA : Nat → Int32), p + r = n1 → r < m → (∀ e, e < p → fyA e = nI (k_fr bk e) ∧ ycA e = nI (k_to bk e - k_fr bk e + 1)) → ∃ fy' yc', f_X7_lookAtAll_L27w c1 z1 d (-1) (-1) (-1) 0 m fyA ycA (nI p) = some (d, -1, -1, -1, 0, fy', yc') ∧ (∀ p, p < n1 → fy' p = nI (k_fr bk p) ∧ yc' p = nI (k_to bk p - k_fr bk p + 1)) ∧ (∀ p, n1 ≤ p → fy' p = fyA p ∧ yc' p = ycA p) := by
    intro r
    induction r with
    | zero =>
      intro p m fyA ycA h1 h2 h3
      obtain ⟨m, rfl⟩ : ∃ j, m = j + 1 := ⟨m - 1, by omega⟩
      refine ⟨fyA, ycA, ?_, fun q hq => h3 q (by omega), fun _ _ => ⟨rfl, rfl⟩⟩
      show f_X7_lookAtAll_L27 c1 z1 d (-1) (-1) (-1) 0 (f_X7_lookAtAll_L27w c1 z1 d (-1) (-1) (-1) 0 m) fyA ycA (nI p) = _
      unfold f_X7_lookAtAll_L27
      rw [hz1, if_pos (nI_le (by omega) (by omega))]
    | succ r ih =>
      intro p m fyA ycA h1 h2 h3
      obtain ⟨m, rfl⟩ : ∃ j, m = j + 1 := ⟨m - 1, by omega⟩
      obtain ⟨q1, q2, q3, q4, q5⟩ := k_pic_spec (v1 p (by omega))
      have a0 : f_X4_at 2 8 c1 z1 (nI p) 0 = some (nI (k_fr bk p)) := by rw [← q1]; exact p2_atQ r1 p 0 (by omega) (by decide)
      have a1 : f_X4_at 2 8 c1 z1 (nI p) 1 = some (nI (k_to bk p)) := by rw [← q2]; exact p2_atQ r1 p 1 (by omega) (by decide)
      obtain ⟨fy', yc', g1, g2, g3⟩ := ih (p + 1) m (upd fyA p (nI (k_fr bk p))) (upd ycA p (nI (k_to bk p - k_fr bk p + 1))) (by omega) (by omega) (fun e he => by
        by_cases q : e = p
        · subst q; rw [p2_us, p2_us]; exact ⟨rfl, rfl⟩
        · rw [p2_un q, p2_un q]; exact h3 e (by omega))
      refine ⟨fy', yc', ?_, g2, fun q hq => by rw [(g3 q hq).1, (g3 q hq).2, p2_un (by omega), p2_un (by omega)]; exact ⟨rfl, rfl⟩⟩
      rw [← g1]
      show f_X7_lookAtAll_L27 c1 z1 d (-1) (-1) (-1) 0 (f_X7_lookAtAll_L27w c1 z1 d (-1) (-1) (-1) 0 m) fyA ycA (nI p) = _
      unfold f_X7_lookAtAll_L27
      have hz : ¬ z1 ≤ nI p := by rw [hz1]; exact nI_ge (by omega) (by omega)
      rw [if_neg hz, a0, Option.bind_some, p2_gd (p2_ib (by omega) (by decide)), p2_ix (n := p) (by omega)]
      simp only [cx_let]
      rw [a1, Option.bind_some, p2_gd (p2_ib (by omega) (by decide)), p2_gd (p2_ib (by omega) (by decide)), p2_us, pk_sub q3, nI_1, show (12 : Int32) = nI 12 from rfl]
      have : (if nI (k_to bk p - k_fr bk p + 1) < nI 12 then nI (k_to bk p - k_fr bk p + 1) else nI 12) = nI (k_to bk p - k_fr bk p + 1) := by
        by_cases c : k_to bk p - k_fr bk p + 1 < 12
        · rw [if_pos ((nI_ltI (by omega) (by omega)).mpr c)]
        · rw [if_neg (fun z => c ((nI_ltI (by omega) (by omega)).mp z)), show k_to bk p - k_fr bk p + 1 = 12 by omega]
      rw [this, nI_1]
  unfold f_X7_lookAtAll
  exact loop n1 0 cx_N0 fyA ycA (by omega) (by unfold cx_N0; omega) (fun e he => by omega)
theorem i_LM0 (hRB : p2_RB c0 z0 c1 z1 c2 z2 c3 z3 c4 z4 sg bk n0 n1 n2 n3 n4) (oY se : Int32) : q_LM bk n1 n3 false 0 0 4 false 0 0 (-1) (-1) oY (-1) se := by
  have hn3 := hRB.2.2.2.1.1
  exact ⟨fun n hn => ⟨fun q => absurd q (p2_nIne n (by omega)), fun q => by omega⟩, fun q => (by cases q), fun _ => rfl, fun q => (by cases q), fun _ => rfl, fun q => (by cases q)⟩
theorem i_LA0 (hRB : p2_RB c0 z0 c1 z1 c2 z2 c3 z3 c4 z4 sg bk n0 n1 n2 n3 n4) (fyA ycA : Nat → Int32) (h : ∀ p, p < n1 → fyA p = nI (k_fr bk p) ∧ ycA p = nI (k_to bk p - k_fr bk p + 1)) : q_LA n1 n3 (q_fy bk n1 false 0 0) (q_yc bk n1 false 0) 4 false 0 0 (-1) (-1) (-1) fyA ycA := by
  have hn3 := hRB.2.2.2.1.1
  refine ⟨fun p hp => ?_, fun n hn => ⟨fun q => absurd q (p2_nIne n (by omega)), fun q => by omega⟩, fun q => (by cases q), fun _ => ⟨rfl, rfl⟩⟩
  unfold q_fy q_yc
  rw [if_pos hp, if_pos hp, if_neg (fun q => by cases q.1), if_neg (fun q => by cases q.1)]
  exact h p hp
/-- anyWay -/
theorem i_anyWay (hRB : p2_RB c0 z0 c1 z1 c2 z2 c3 z3 c4 z4 sg bk n0 n1 n2 n3 n4) {sm pe he : Int32} {to sh pa cr : Nat → Int64} {bw : Nat → Int32} (hsm : i_sm bk n0 n1 n2 n3 n4 sm pe he to sh pa cr bw) (wd wsk we wl wf : Int32) (fyA ycA pl bf cl lk ls nm : Nat → Int32) (pr ws sub : Nat → Int64) (wy : Nat → Int32) (bt : Nat → Int64) (hon : i_on pr) (hsn : i_sn sh) (need : Nat) (hn1 : 1 ≤ need) (hn2 : need ≤ 2) :
    ∃ y, f_X8_anyWay sm c0 z0 c1 z1 c2 z2 c3 z3 c4 z4 sg wd wsk we wl wf fyA ycA pl bf cl lk ls nm pr ws sub wy to sh pa cr bw bt pe he (nI need) = some y ∧ y.1 = p2_b (q_A bk n0 n1 n2 n3 n4 ≠ 0) ∧ (∃ d, need ≤ d ∧ 1 ≤ d ∧ d ≤ 2 ∧ y.2.1 = nI d ∧ i_SM bk n0 n1 n2 n3 n4 d y.2.2.2.2.2.2.2.2.2.2.2.2.2.2.2.2.2.2.2.1 y.2.2.2.2.2.2.2.2.2.2.2.2.2.2.2.2.2.2.2.2.1 y.2.2.2.2.2.2.2.2.2.2.2.2.2.2.2.2.2.2.2.2.2.1 y.2.2.2.2.2.2.2.2.2.2.2.2.2.2.2.2.2.2.2.2.2.2.1 y.2.2.2.2.2.2.2.2.2.2.2.2.2.2.2.2.2.2.2.2.2.2.2.1 y.2.2.2.2.2.2.2.2.2.2.2.2.2.2.2.2.2.2.2.2.2.2.2.2.1 y.2.2.2.2.2.2.2.2.2.2.2.2.2.2.2.2.2.2.2.2.2.2.2.2.2.1) ∧ i_on y.2.2.2.2.2.2.2.2.2.2.2.2.2.2.2.1 ∧ i_sn y.2.2.2.2.2.2.2.2.2.2.2.2.2.2.2.2.2.2.2.2.2.2.1 := by
  have J28 : ∀ (d : Nat) (wd wsk we wl wf : Int32) (fyA ycA pl bf cl lk ls nm : Nat → Int32) (pr ws sub : Nat → Int64) (wy : Nat → Int32) (pe he : Int32) (to sh pa cr : Nat → Int64) (bw : Nat → Int32) (bt : Nat → Int64), need ≤ d → d ≤ 2 → i_SM bk n0 n1 n2 n3 n4 d pe he to sh pa cr bw → i_on pr → i_sn sh → ∃ y, f_X8_anyWay_J28 (nI d) wd wsk we wl wf fyA ycA pl bf cl lk ls nm pr ws sub wy pe he to sh pa cr bw bt = some y ∧ y.1 = p2_b (q_A bk n0 n1 n2 n3 n4 ≠ 0) ∧ (∃ d, need ≤ d ∧ 1 ≤ d ∧ d ≤ 2 ∧ y.2.1 = nI d ∧ i_SM bk n0 n1 n2 n3 n4 d y.2.2.2.2.2.2.2.2.2.2.2.2.2.2.2.2.2.2.2.1 y.2.2.2.2.2.2.2.2.2.2.2.2.2.2.2.2.2.2.2.2.1 y.2.2.2.2.2.2.2.2.2.2.2.2.2.2.2.2.2.2.2.2.2.1 y.2.2.2.2.2.2.2.2.2.2.2.2.2.2.2.2.2.2.2.2.2.2.1 y.2.2.2.2.2.2.2.2.2.2.2.2.2.2.2.2.2.2.2.2.2.2.2.1 y.2.2.2.2.2.2.2.2.2.2.2.2.2.2.2.2.2.2.2.2.2.2.2.2.1 y.2.2.2.2.2.2.2.2.2.2.2.2.2.2.2.2.2.2.2.2.2.2.2.2.2.1) ∧ i_on y.2.2.2.2.2.2.2.2.2.2.2.2.2.2.2.1 ∧ i_sn y.2.2.2.2.2.2.2.2.2.2.2.2.2.2.2.2.2.2.2.2.2.2.1 := by
    intro d wd wsk we wl wf fyA ycA pl bf cl lk ls nm pr ws sub wy pe he to sh pa cr bw bt h1 h2 h3 h4 h5
    unfold f_X8_anyWay_J28 f_X5_isNothing
    have hz : f_X3_isZero 4 to 0 = _ := p3_isZero (i := 0) (by decide) (by decide) h3.2.2.1
    rw [hz, Option.bind_some, p2_gd (by simp only [p2_b]; split <;> decide), Option.bind_some, p4_bt]
    by_cases hA : q_A bk n0 n1 n2 n3 n4 = 0
    · rw [if_pos hA]
      exact ⟨_, rfl, by rw [p2_b, if_neg (fun q => q hA)], ⟨d, h1, by omega, h2, rfl, h3⟩, h4, h5⟩
    · rw [if_neg hA]
      exact ⟨_, rfl, by rw [p2_b, if_pos hA], ⟨d, h1, by omega, h2, rfl, h3⟩, h4, h5⟩
  unfold f_X8_anyWay
  have hcase : (∃ d, need ≤ d ∧ 1 ≤ d ∧ d ≤ 2 ∧ sm = nI d ∧ i_SM bk n0 n1 n2 n3 n4 d pe he to sh pa cr bw) ∨ ¬ nI need ≤ sm := by
    rcases hsm with h | ⟨d, d1, d2, d3, d4⟩
    · right
      rw [h]
      intro q
      have := p2_le.mp q
      have e : (-1 : Int32).toInt = -1 := rfl
      rw [nI_toInt (by omega), e] at this
      omega
    · by_cases hd : need ≤ d
      · exact Or.inl ⟨d, hd, d1, d2, d3, d4⟩
      · right
        rw [d3]
        exact nI_ge (by omega) (by omega)
  rcases hcase with ⟨d, h1, h2, h3, h4, h5⟩ | hno
  · rw [if_pos (by rw [h4]; exact nI_le h1 (by omega)), h4]
    exact J28 d wd wsk we wl wf fyA ycA pl bf cl lk ls nm pr ws sub wy pe he to sh pa cr bw bt h1 h3 h5 hon hsn
  · rw [if_neg hno]
    obtain ⟨fy', yc', a1, a2, a3⟩ := i_look hRB fyA ycA (nI need)
    have hLK := q_LK_of (q_BK_of hRB) (i_LM0 hRB 0 0)
    obtain ⟨pl', bf', cl', lk', ls', nm', pr', ws', sub', wy', to', sh', pa', cr', bw', bt', v, b1, b2, b3, b4, b5, b6, b7, b8⟩ := p9_sumUp hRB hLK (i_LA0 hRB fy' yc' a2) need 5184 0 hn2 (by decide) (fun q => by cases q) (by decide) (fun _ => rfl) pl bf cl lk ls nm pr ws sub wy to sh pa cr bw bt hon hsn
    rw [a1, Option.bind_some]
    dsimp only
    rw [show f_X7_sumUp (nI need) (-1) (-1) (-1) 0 fy' yc' pl bf cl lk ls nm pr ws sub wy c0 z0 z1 c2 z2 c3 z3 c4 z4 sg 5184 to sh pa cr bw bt = _ from b1, Option.bind_some]
    dsimp only
    obtain ⟨s1, s2, s3⟩ := b7 hn1
    refine J28 need _ _ _ _ _ _ _ _ _ _ _ _ _ _ _ _ _ _ _ _ _ _ _ _ _ (Nat.le_refl _) hn2 ⟨hRB.1.2.1, hRB.2.2.1.2.1, ?_, s1, s2, s3, b8⟩ b2 b3
    have := b5 rfl
    rw [this] at b4
    exact b4
end IV
