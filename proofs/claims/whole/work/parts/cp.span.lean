/-! SPAN -/
theorem p6_pr_out (f : Nat → Nat) {n p : Nat} (hp : p < n) : p6_pr n f = p6_pr n (fun i => if i = p then 1 else f i) * f p := by
  have e1 : p6_pr n (fun i => if i = p then f i else 1) = f p := by
    rw [p6_pr_single hp (fun i _ hi => if_neg hi), if_pos rfl]
  rw [← e1, ← p6_pr_mul]
  exact p6_pr_congr (fun i _ => by
    by_cases c : i = p
    · rw [if_pos c, if_pos c, Nat.one_mul]
    · rw [if_neg c, if_neg c, Nat.mul_one])
theorem p6_pr_sm (f : Nat → Nat) (g : Nat → Nat → Nat) {n p N : Nat} (hp : p < n) (h1 : ∀ y i, i < n → i ≠ p → g y i = f i) (h2 : f p = p6_sm N (fun y => g y p)) : p6_pr n f = p6_sm N (fun y => p6_pr n (g y)) := by
  rw [p6_pr_out f hp, h2, ← p6_sm_mul]
  refine p6_sm_congr (fun y _ => ?_)
  rw [p6_pr_out (g y) hp]
  congr 1
  exact p6_pr_congr (fun i hi => by
    by_cases c : i = p
    · rw [if_pos c, if_pos c]
    · rw [if_neg c, if_neg c, h1 y i hi c])
section SP
variable {c0 c1 c2 c3 c4 : Nat → Int32} {z0 z1 z2 z3 z4 sg : Int32} {bk : Nat → Int32} {n0 n1 n2 n3 n4 : Nat}
theorem q_PS (hB : q_BK bk n0 n1 n2 n3 n4) (on : Bool) (p0 y0 : Nat) (ω : Nat → Nat) (p : Nat) (hp : p < n1) : p6_PS (k_hp bk) (q_L bk (q_fy bk n1 on p0 y0)) (q_yc bk n1 on p0) n2 ω p = p6_sm (q_yc bk n1 on p0 p) (fun y => p6_T (k_hp bk) (q_L bk (k_fr bk)) ω n2 p (q_of on p0 y0 p + y)) := by
  unfold p6_PS
  exact p6_sm_congr (fun y _ => q_T hB p y hp n2)
/-- all years of a picture, one by one -/
theorem q_byYear (hB : q_BK bk n0 n1 n2 n3 n4) (sk : Nat) {p : Nat} (hp : p < n1) (ω : Nat → Nat) : q_G bk n1 n2 n3 n4 false 0 0 sk false 0 0 ω = p6_sm (k_to bk p - k_fr bk p + 1) (fun y => q_G bk n1 n2 n3 n4 true p y sk false 0 0 ω) := by
  unfold q_G q_F p8_Wt
  by_cases c : p8_twb (k_hp bk) ω n2 = true
  · rw [if_pos c]
    exact (p6_sm_zero (fun y _ => if_pos c)).symm
  · rw [if_neg c]
    have : ∀ y, (if p8_twb (k_hp bk) ω n2 = true then 0 else p6_W (k_hp bk) (q_L bk (q_fy bk n1 true p y)) (q_yc bk n1 true p) (q_fy bk n1 true p y) n1 n2 n3 n4 false 0 0 (k_nh bk) (k_nf bk sk) (k_ja bk) (k_jb bk) (k_jw bk) ω) = p6_pr n1 (p6_pf (k_hp bk) (q_L bk (q_fy bk n1 true p y)) (q_yc bk n1 true p) (q_fy bk n1 true p y) n2 false 0 0 ω) * p6_pr n3 (fun n => k_nf bk sk n (ω (k_nh bk n))) * p6_pr n4 (p6_jf (k_ja bk) (k_jb bk) (k_jw bk) ω) := fun y => if_neg c
    rw [p6_sm_congr (fun y _ => this y), p6_sm_mulr, p6_sm_mulr]
    unfold p6_W
    congr 2
    have pf : ∀ (on : Bool) (p0 y0 i : Nat), i < n1 → p6_pf (k_hp bk) (q_L bk (q_fy bk n1 on p0 y0)) (q_yc bk n1 on p0) (q_fy bk n1 on p0 y0) n2 false 0 0 ω i = p6_sm (q_yc bk n1 on p0 i) (fun y => p6_T (k_hp bk) (q_L bk (k_fr bk)) ω n2 i (q_of on p0 y0 i + y)) := fun on p0 y0 i hi => by
      unfold p6_pf
      rw [if_neg (fun q => by cases q), q_PS hB on p0 y0 ω i hi]
    have yF : ∀ i, i < n1 → q_yc bk n1 false 0 i = k_to bk i - k_fr bk i + 1 := fun i hi => by
      unfold q_yc; rw [if_pos hi]; exact if_neg (fun q => absurd q.1 (by decide))
    have yT : ∀ i, i < n1 → i ≠ p → q_yc bk n1 true p i = k_to bk i - k_fr bk i + 1 := fun i hi hne => by
      unfold q_yc; rw [if_pos hi]; exact if_neg (fun q => hne q.2)
    have yP : q_yc bk n1 true p p = 1 := by
      unfold q_yc; rw [if_pos hp]; exact if_pos ⟨rfl, rfl⟩
    have oF : ∀ i, q_of false 0 0 i = 0 := fun i => if_neg (fun q => absurd q.1 (by decide))
    have oT : ∀ i y, i ≠ p → q_of true p y i = 0 := fun i y hne => if_neg (fun q => hne q.2)
    have oP : ∀ y, q_of true p y p = y := fun y => if_pos ⟨rfl, rfl⟩
    refine p6_pr_sm _ _ hp (fun y i hi hne => ?_) ?_
    · rw [pf true p y i hi, pf false 0 0 i hi, yT i hi hne, yF i hi, oT i y hne, oF i]
    · rw [pf false 0 0 p hp, yF p hp, oF p]
      refine p6_sm_congr (fun y _ => ?_)
      rw [pf true p y p hp, yP, oP]
      show _ = 0 + _
      rw [Nat.zero_add, Nat.zero_add]
      rfl
def k_Z (bk : Nat → Int32) (n0 n1 n2 n3 n4 p y : Nat) : Nat := p6_ws n0 (q_G bk n1 n2 n3 n4 true p y 4 false 0 0) n2 0 q_0
theorem k_Z_all (hB : q_BK bk n0 n1 n2 n3 n4) {p : Nat} (hp : p < n1) (h : ∀ y, y < k_to bk p - k_fr bk p + 1 → k_Z bk n0 n1 n2 n3 n4 p y = 0) : q_A bk n0 n1 n2 n3 n4 = 0 := by
  unfold q_A
  rw [p6_ws_congr n0 (q_G0 bk n1 n2 n3 n4) (fun ω => p6_sm (k_to bk p - k_fr bk p + 1) (fun y => q_G bk n1 n2 n3 n4 true p y 4 false 0 0 ω)) n2 0 q_0 (fun ω _ => q_byYear hB 4 hp ω), p6_ws_sm]
  exact p6_sm_zero (fun y hy => h y hy)
end SP
/-- the first that is not nothing, or the last -/
def k_sp (Z : Nat → Nat) : Nat → Nat → Nat
  | 0, i => i
  | r + 1, i => if Z i ≠ 0 then i else k_sp Z r (i + 1)
theorem i_wle {l w : Nat → Int32} {V : Nat → Nat} (hS : p4_S l w V) {r : Nat} (hr : r < 270) (h4 : r ≠ 4) : w r ≤ 0 ↔ V r = 0 := by
  obtain ⟨n, n1, n2, n3⟩ := p4_wpos (hS r hr h4)
  rw [n2, ← n3]
  constructor
  · intro q
    by_cases c : n = 0
    · exact c
    · exact absurd q (nI_nle (Nat.pos_of_ne_zero c) (by omega))
  · intro q
    rw [q]; decide
theorem i_nothing {to : Nat → Int64} {v : Nat} (h : p3_N to 0 v) : f_X5_isNothing to = some (p2_b (v = 0)) := by
  unfold f_X5_isNothing
  have hz : f_X3_isZero 4 to 0 = _ := p3_isZero (i := 0) (by decide) (by decide) h
  rw [hz, Option.bind_some, p2_gd (by simp only [p2_b]; split <;> decide)]
theorem i_span : ob_span i_Inv := by
  intro σ τ p1 p2 h
  obtain ⟨⟨n0, n1, n2, n3, n4, hRB, hsm⟩, hR, hK0, hK1, hT, hF, hO1, hO2, hS1, hS2⟩ := h
  obtain ⟨r0, r1, r2, r3, r4, rs, v0, v1, v2, v3, v4, v5⟩ := id hRB
  have hn0 := r0.1
  have hn1 := r1.1
  have hn2 := r2.1
  have hn3 := r3.1
  have hn4 := r4.1
  rcases p2_num p1 n1 (by omega) with ⟨pp, hpp, rfl⟩ | hp
  · have hh := i_has1 hpp (by omega)
    obtain ⟨q1, q2, q3, q4, q5⟩ := k_pic_spec (v1 pp hpp)
    by_cases hw : (0 : Int32).toInt ≤ p2.toInt ∧ p2.toInt ≤ (1 : Int32).toInt
    · obtain ⟨y, y1, y2, ⟨d, d1, d2, d3, d4, hSM⟩, hon, hsn⟩ := i_any hRB hsm hO1 hS1 1 (by omega) (by omega)
      obtain ⟨V, hV, hV0, hV1, hV2⟩ := id hF
      have hw1 : f_X8_within p2 0 1 = some 1 := by rw [p2_within, p2_b, if_pos hw]
      have hw2 : f_X9_in (Int32.toInt64 p2) 0 1 = some 1 := by rw [p2_in, p2_b, if_pos (by rw [p2_l]; exact hw)]
      have hyrs := (m_years (q_BK_of hRB) pp hpp).1
      have hfr : (τ.1 2) (cx_ix (40 + 2 * nI pp)) = nI (k_fr (τ.1 2) pp) := by rw [i_40, p2_ix (by omega)]; exact q1
      have ib1 : cx_ib (40 + 2 * nI pp) 140 = true := by rw [i_40]; exact p2_ib (by omega) (by decide)
      generalize hfe : k_fr (τ.1 2) pp = fr at *
      generalize hte : k_to (τ.1 2) pp = to at *
      obtain ⟨E, hE0, hE1, hEl⟩ : ∃ E : Nat → Nat, (p2 = 0 → ∀ i, E i = i) ∧ (p2 ≠ 0 → ∀ i, E i = to - fr - i) ∧ (∀ i, i ≤ to - fr → E i ≤ to - fr) := by
        by_cases c : p2 = 0
        · exact ⟨fun i => i, fun _ _ => rfl, fun q => absurd c q, fun i hi => hi⟩
        · exact ⟨fun i => to - fr - i, fun q => absurd q c, fun _ _ => rfl, fun i hi => Nat.sub_le _ _⟩
      by_cases hA : q_A (τ.1 2) n0 n1 n2 n3 n4 = 0
      · have hLM := i_LMy hRB (p := pp) (y := E 0) hpp (by rw [hfe, hte]; have := hEl 0 (by omega); omega)
        obtain ⟨li, l1, w1, is1, V1, s1, s2, s3, s4, s5, s6⟩ := m_years2 hRB hV (τ.1 10) (τ.1 9) (τ.2.2 9) (τ.2.2 11) hLM
        apply i_ex
        · unfold f_X8_span
          rw [i_has r1.2.1 (by omega), Option.bind_some, if_neg (by rw [p2_b, if_pos hh]; decide), hw1, Option.bind_some, if_neg (by decide), show f_X8_anyWay (σ.2.2 0) (σ.1 2) (σ.2.2 1) (σ.1 3) (σ.2.2 2) (σ.1 4) (σ.2.2 3) (σ.1 5) (σ.2.2 4) (σ.1 6) (σ.2.2 5) (σ.2.2 6) (σ.2.2 29) (σ.2.2 30) (σ.2.2 31) (σ.2.2 32) (σ.2.2 33) (σ.1 24) (σ.1 25) (σ.1 26) (σ.1 27) (σ.1 28) (σ.1 29) (σ.1 30) (σ.1 31) (σ.2.1 4) (σ.2.1 5) (σ.2.1 6) (σ.1 32) (σ.2.1 10) (σ.2.1 11) (σ.2.1 12) (σ.2.1 13) (σ.1 42) (σ.2.1 14) (σ.2.2 39) (σ.2.2 40) 1 = _ from y1, Option.bind_some, if_pos (by rw [y2, p2_b, if_neg (fun q => q hA)]), i_no, Option.bind_some]
        · have hJ : ∀ rc X, X = nI (E 0) → f_X9_span_J53 (τ.1 2) (τ.1 6) (τ.2.2 0) (nI pp) (τ.2.2 9) (τ.2.2 11) (τ.1 0) (τ.1 1) (τ.1 9) (τ.1 10) 0 rc X = some (-3, -1, nI pp, nI (E 0), -1, -1, l1, w1, p2_rf (τ.1 6) (τ.2.2 0) 1, is1, li) := fun rc X hX => by
            rw [hX]
            unfold f_X9_span_J53
            rw [s1, Option.bind_some, if_pos (show p2_b (q_A (τ.1 2) n0 n1 n2 n3 n4 ≠ 0) = 0 by rw [p2_b, if_neg (fun q => q hA)]), p2_no, Option.bind_some]
          have hL : f_X9_span_L32w (τ.1 2) (τ.1 6) (τ.2.2 0) (nI pp) p2 (nI (to - fr + 1)) cx_N0 (τ.2.2 7) (τ.2.2 8) (τ.2.2 9) (τ.2.2 10) (τ.2.2 11) (τ.1 0) (τ.1 1) (τ.1 9) (τ.1 10) 0 = some (-3, -1, nI pp, nI (E 0), -1, -1, l1, w1, p2_rf (τ.1 6) (τ.2.2 0) 1, is1, li) := by
            show f_X9_span_L32 (τ.1 2) (τ.1 6) (τ.2.2 0) (nI pp) p2 (nI (to - fr + 1)) (f_X9_span_L32w (τ.1 2) (τ.1 6) (τ.2.2 0) (nI pp) p2 (nI (to - fr + 1)) 9999999999) _ _ _ _ _ _ _ _ _ 0 = _
            unfold f_X9_span_L32
            rw [if_neg (show ¬ nI (to - fr + 1) ≤ 0 from nI_nle (by omega) (by omega))]
            by_cases c : p2 = 0
            · rw [if_pos c]
              exact hJ _ _ (by rw [hE0 c]; rfl)
            · rw [if_neg c]
              exact hJ _ _ (by rw [nI_pred, show (0 : Int32) = nI 0 from rfl, pk_sub (by omega), hE1 c])
          unfold f_X9_span
          rw [p2_isPicture _ r1.2.2.1 hn1, Option.bind_some, if_neg (by rw [p2_b, if_pos hh]; decide), hw2, Option.bind_some, if_neg (by decide), hyrs, Option.bind_some]
          exact hL
        · exact ⟨rfl, ⟨n0, n1, n2, n3, n4, hRB, Or.inr ⟨d, d2, d3, d4, hSM⟩⟩, i_Rup hR 1 (by decide), hK0, hK1, hT, ⟨V1, s2, by rw [s5]; exact hV0, by rw [s6]; exact hV1, by rw [s6]; exact hV2⟩, hon, hO2, hsn, hS2⟩
      · have hlast : (∀ j, j < to - fr → k_Z (τ.1 2) n0 n1 n2 n3 n4 pp (E j) = 0) → k_Z (τ.1 2) n0 n1 n2 n3 n4 pp (E (to - fr)) ≠ 0 := fun q1 q2 => hA (k_Z_all (q_BK_of hRB) hpp (fun z hz => by
          rw [hfe, hte] at hz
          obtain ⟨j, hj, rfl⟩ : ∃ j, j ≤ to - fr ∧ E j = z := by
            by_cases c : p2 = 0
            · exact ⟨z, by omega, hE0 c z⟩
            · exact ⟨to - fr - z, by omega, by rw [hE1 c]; omega⟩
          by_cases c : j = to - fr
          · rw [c]; exact q2
          · exact q1 j (by omega)))
        have cl : ∀ (r i m : Nat) (vd vs ve vl vf : Int32) (fyA ycA pl bf cl lk ls nm : Nat → Int32) (pr ws sub : Nat → Int64) (wy : Nat → Int32) (pe he : Int32) (ta sh pa cr : Nat → Int64) (bw : Nat → Int32) (bt : Nat → Int64), i + r = to - fr → r < m → i_on pr → i_sn sh → ∃ (vd' vs' ve' vl' vf' : Int32) (fyA' ycA' pl' bf' cl' lk' ls' nm' : Nat → Int32) (pr' ws' sub' : Nat → Int64) (wy' : Nat → Int32) (pe' he' : Int32) (ta' sh' pa' cr' : Nat → Int64) (bw' : Nat → Int32) (bt' : Nat → Int64), f_X8_span_L75w (σ.1 1) (σ.1 2) (σ.2.2 1) (σ.1 3) (σ.2.2 2) (σ.1 4) (σ.2.2 3) (σ.1 5) (σ.2.2 4) (σ.1 6) (σ.2.2 5) (σ.2.2 6) (nI pp) p2 y.2.1 y.2.2.1 y.2.2.2.1 y.2.2.2.2.1 y.2.2.2.2.2.1 y.2.2.2.2.2.2.1 y.2.2.2.2.2.2.2.1 y.2.2.2.2.2.2.2.2.1 y.2.2.2.2.2.2.2.2.2.1 y.2.2.2.2.2.2.2.2.2.2.1 y.2.2.2.2.2.2.2.2.2.2.2.1 y.2.2.2.2.2.2.2.2.2.2.2.2.1 y.2.2.2.2.2.2.2.2.2.2.2.2.2.1 y.2.2.2.2.2.2.2.2.2.2.2.2.2.2.1 y.2.2.2.2.2.2.2.2.2.2.2.2.2.2.2.1 y.2.2.2.2.2.2.2.2.2.2.2.2.2.2.2.2.1 y.2.2.2.2.2.2.2.2.2.2.2.2.2.2.2.2.2.1 y.2.2.2.2.2.2.2.2.2.2.2.2.2.2.2.2.2.2.1 y.2.2.2.2.2.2.2.2.2.2.2.2.2.2.2.2.2.2.2.1 y.2.2.2.2.2.2.2.2.2.2.2.2.2.2.2.2.2.2.2.2.1 y.2.2.2.2.2.2.2.2.2.2.2.2.2.2.2.2.2.2.2.2.2.1 y.2.2.2.2.2.2.2.2.2.2.2.2.2.2.2.2.2.2.2.2.2.2.1 y.2.2.2.2.2.2.2.2.2.2.2.2.2.2.2.2.2.2.2.2.2.2.2.1 y.2.2.2.2.2.2.2.2.2.2.2.2.2.2.2.2.2.2.2.2.2.2.2.2.1 y.2.2.2.2.2.2.2.2.2.2.2.2.2.2.2.2.2.2.2.2.2.2.2.2.2.1 y.2.2.2.2.2.2.2.2.2.2.2.2.2.2.2.2.2.2.2.2.2.2.2.2.2.2 (nI fr) (nI to) m vd vs ve vl vf fyA ycA pl bf cl lk ls nm pr ws sub wy pe he ta sh pa cr bw bt (nI i) = some (nI (fr + E (k_sp (fun j => k_Z (τ.1 2) n0 n1 n2 n3 n4 pp (E j)) r i)), y.2.1, σ.1 1, y.2.2.1, y.2.2.2.1, y.2.2.2.2.1, y.2.2.2.2.2.1, y.2.2.2.2.2.2.1, y.2.2.2.2.2.2.2.1, y.2.2.2.2.2.2.2.2.1, y.2.2.2.2.2.2.2.2.2.1, y.2.2.2.2.2.2.2.2.2.2.1, y.2.2.2.2.2.2.2.2.2.2.2.1, y.2.2.2.2.2.2.2.2.2.2.2.2.1, y.2.2.2.2.2.2.2.2.2.2.2.2.2.1, y.2.2.2.2.2.2.2.2.2.2.2.2.2.2.1, y.2.2.2.2.2.2.2.2.2.2.2.2.2.2.2.1, y.2.2.2.2.2.2.2.2.2.2.2.2.2.2.2.2.1, y.2.2.2.2.2.2.2.2.2.2.2.2.2.2.2.2.2.1, y.2.2.2.2.2.2.2.2.2.2.2.2.2.2.2.2.2.2.1, vd', vs', ve', vl', vf', fyA', ycA', pl', bf', cl', lk', ls', nm', pr', ws', sub', wy', y.2.2.2.2.2.2.2.2.2.2.2.2.2.2.2.2.2.2.2.1, y.2.2.2.2.2.2.2.2.2.2.2.2.2.2.2.2.2.2.2.2.1, y.2.2.2.2.2.2.2.2.2.2.2.2.2.2.2.2.2.2.2.2.2.1, y.2.2.2.2.2.2.2.2.2.2.2.2.2.2.2.2.2.2.2.2.2.2.1, y.2.2.2.2.2.2.2.2.2.2.2.2.2.2.2.2.2.2.2.2.2.2.2.1, y.2.2.2.2.2.2.2.2.2.2.2.2.2.2.2.2.2.2.2.2.2.2.2.2.1, y.2.2.2.2.2.2.2.2.2.2.2.2.2.2.2.2.2.2.2.2.2.2.2.2.2.1, y.2.2.2.2.2.2.2.2.2.2.2.2.2.2.2.2.2.2.2.2.2.2.2.2.2.2, pe', he', ta', sh', pa', cr', bw', bt') ∧ i_on pr' ∧ i_sn sh' := by
          intro r
          induction r with
          | zero =>
            intro i m vd vs ve vl vf fyA ycA pl bf cl lk ls nm pr ws sub wy pe he ta sh pa cr bw bt h1 h2 h3 h4
            obtain ⟨m, rfl⟩ : ∃ j, m = j + 1 := ⟨m - 1, by omega⟩
            refine ⟨vd, vs, ve, vl, vf, fyA, ycA, pl, bf, cl, lk, ls, nm, pr, ws, sub, wy, pe, he, ta, sh, pa, cr, bw, bt, ?_, h3, h4⟩
            show f_X8_span_L75 (σ.1 1) (σ.1 2) (σ.2.2 1) (σ.1 3) (σ.2.2 2) (σ.1 4) (σ.2.2 3) (σ.1 5) (σ.2.2 4) (σ.1 6) (σ.2.2 5) (σ.2.2 6) (nI pp) p2 y.2.1 y.2.2.1 y.2.2.2.1 y.2.2.2.2.1 y.2.2.2.2.2.1 y.2.2.2.2.2.2.1 y.2.2.2.2.2.2.2.1 y.2.2.2.2.2.2.2.2.1 y.2.2.2.2.2.2.2.2.2.1 y.2.2.2.2.2.2.2.2.2.2.1 y.2.2.2.2.2.2.2.2.2.2.2.1 y.2.2.2.2.2.2.2.2.2.2.2.2.1 y.2.2.2.2.2.2.2.2.2.2.2.2.2.1 y.2.2.2.2.2.2.2.2.2.2.2.2.2.2.1 y.2.2.2.2.2.2.2.2.2.2.2.2.2.2.2.1 y.2.2.2.2.2.2.2.2.2.2.2.2.2.2.2.2.1 y.2.2.2.2.2.2.2.2.2.2.2.2.2.2.2.2.2.1 y.2.2.2.2.2.2.2.2.2.2.2.2.2.2.2.2.2.2.1 y.2.2.2.2.2.2.2.2.2.2.2.2.2.2.2.2.2.2.2.1 y.2.2.2.2.2.2.2.2.2.2.2.2.2.2.2.2.2.2.2.2.1 y.2.2.2.2.2.2.2.2.2.2.2.2.2.2.2.2.2.2.2.2.2.1 y.2.2.2.2.2.2.2.2.2.2.2.2.2.2.2.2.2.2.2.2.2.2.1 y.2.2.2.2.2.2.2.2.2.2.2.2.2.2.2.2.2.2.2.2.2.2.2.1 y.2.2.2.2.2.2.2.2.2.2.2.2.2.2.2.2.2.2.2.2.2.2.2.2.1 y.2.2.2.2.2.2.2.2.2.2.2.2.2.2.2.2.2.2.2.2.2.2.2.2.2.1 y.2.2.2.2.2.2.2.2.2.2.2.2.2.2.2.2.2.2.2.2.2.2.2.2.2.2 (nI fr) (nI to) (f_X8_span_L75w (σ.1 1) (σ.1 2) (σ.2.2 1) (σ.1 3) (σ.2.2 2) (σ.1 4) (σ.2.2 3) (σ.1 5) (σ.2.2 4) (σ.1 6) (σ.2.2 5) (σ.2.2 6) (nI pp) p2 y.2.1 y.2.2.1 y.2.2.2.1 y.2.2.2.2.1 y.2.2.2.2.2.1 y.2.2.2.2.2.2.1 y.2.2.2.2.2.2.2.1 y.2.2.2.2.2.2.2.2.1 y.2.2.2.2.2.2.2.2.2.1 y.2.2.2.2.2.2.2.2.2.2.1 y.2.2.2.2.2.2.2.2.2.2.2.1 y.2.2.2.2.2.2.2.2.2.2.2.2.1 y.2.2.2.2.2.2.2.2.2.2.2.2.2.1 y.2.2.2.2.2.2.2.2.2.2.2.2.2.2.1 y.2.2.2.2.2.2.2.2.2.2.2.2.2.2.2.1 y.2.2.2.2.2.2.2.2.2.2.2.2.2.2.2.2.1 y.2.2.2.2.2.2.2.2.2.2.2.2.2.2.2.2.2.1 y.2.2.2.2.2.2.2.2.2.2.2.2.2.2.2.2.2.2.1 y.2.2.2.2.2.2.2.2.2.2.2.2.2.2.2.2.2.2.2.1 y.2.2.2.2.2.2.2.2.2.2.2.2.2.2.2.2.2.2.2.2.1 y.2.2.2.2.2.2.2.2.2.2.2.2.2.2.2.2.2.2.2.2.2.1 y.2.2.2.2.2.2.2.2.2.2.2.2.2.2.2.2.2.2.2.2.2.2.1 y.2.2.2.2.2.2.2.2.2.2.2.2.2.2.2.2.2.2.2.2.2.2.2.1 y.2.2.2.2.2.2.2.2.2.2.2.2.2.2.2.2.2.2.2.2.2.2.2.2.1 y.2.2.2.2.2.2.2.2.2.2.2.2.2.2.2.2.2.2.2.2.2.2.2.2.2.1 y.2.2.2.2.2.2.2.2.2.2.2.2.2.2.2.2.2.2.2.2.2.2.2.2.2.2 (nI fr) (nI to) m) vd vs ve vl vf fyA ycA pl bf cl lk ls nm pr ws sub wy pe he ta sh pa cr bw bt (nI i) = _
            unfold f_X8_span_L75
            rw [pk_sub (by omega), if_pos (nI_le (by omega) (by omega)), k_sp]
            by_cases c : p2 = 0
            · rw [if_pos c, hE0 c, show fr + i = to by omega]
            · rw [if_neg c, hE1 c, show fr + (to - fr - i) = fr by omega]
          | succ r ih =>
            intro i m vd vs ve vl vf fyA ycA pl bf cl lk ls nm pr ws sub wy pe he ta sh pa cr bw bt h1 h2 h3 h4
            obtain ⟨m, rfl⟩ : ∃ j, m = j + 1 := ⟨m - 1, by omega⟩
            have hEi : E i < to - fr + 1 := by have := hEl i (by omega); omega
            have hLM := i_LMy hRB (p := pp) (y := E i) hpp (by rw [hfe, hte]; exact hEi)
            have hLK := q_LK_of (q_BK_of hRB) hLM
            obtain ⟨fy', yc', a1, a2, a3⟩ := i_look hRB fyA ycA 0
            obtain ⟨pl', bf', cl', lk', ls', nm', pr', ws', sub', wy', to', sh', pa', cr', bw', bt', v, b1, b2, b3, b4, b5, b6, b7, b8⟩ := p9_sumUp hRB hLK (i_LAy hRB (y := E i) hpp fy' yc' a2) 0 0 1 (by decide) (by decide) (fun _ => rfl) (by decide) (fun q => by cases q) pl bf cl lk ls nm pr ws sub wy ta sh pa cr bw bt h3 h4
            have hlk : f_X7_lookAtYear fy' yc' (σ.2.2 2) (nI pp) (nI (fr + E i)) 1 = some (1, upd fy' pp (nI (fr + E i)), upd yc' pp 1) := i_lookY hRB hpp fy' yc' (nI (fr + E i)) 1 (by decide)
            rw [hfe] at b1
            have hk : ∀ X, X = nI (fr + E i) → ∃ (vd' vs' ve' vl' vf' : Int32) (fyA' ycA' pl' bf' cl' lk' ls' nm' : Nat → Int32) (pr' ws' sub' : Nat → Int64) (wy' : Nat → Int32) (pe' he' : Int32) (ta' sh' pa' cr' : Nat → Int64) (bw' : Nat → Int32) (bt' : Nat → Int64), f_X8_span_J100 (σ.1 1) (σ.1 2) (σ.2.2 1) (σ.1 3) (σ.2.2 2) (σ.1 4) (σ.2.2 3) (σ.1 5) (σ.2.2 4) (σ.1 6) (σ.2.2 5) (σ.2.2 6) (nI pp) y.2.1 y.2.2.1 y.2.2.2.1 y.2.2.2.2.1 y.2.2.2.2.2.1 y.2.2.2.2.2.2.1 y.2.2.2.2.2.2.2.1 y.2.2.2.2.2.2.2.2.1 y.2.2.2.2.2.2.2.2.2.1 y.2.2.2.2.2.2.2.2.2.2.1 y.2.2.2.2.2.2.2.2.2.2.2.1 y.2.2.2.2.2.2.2.2.2.2.2.2.1 y.2.2.2.2.2.2.2.2.2.2.2.2.2.1 y.2.2.2.2.2.2.2.2.2.2.2.2.2.2.1 y.2.2.2.2.2.2.2.2.2.2.2.2.2.2.2.1 y.2.2.2.2.2.2.2.2.2.2.2.2.2.2.2.2.1 y.2.2.2.2.2.2.2.2.2.2.2.2.2.2.2.2.2.1 y.2.2.2.2.2.2.2.2.2.2.2.2.2.2.2.2.2.2.1 fyA ycA pl bf cl lk ls nm pr ws sub wy y.2.2.2.2.2.2.2.2.2.2.2.2.2.2.2.2.2.2.2.1 y.2.2.2.2.2.2.2.2.2.2.2.2.2.2.2.2.2.2.2.2.1 y.2.2.2.2.2.2.2.2.2.2.2.2.2.2.2.2.2.2.2.2.2.1 y.2.2.2.2.2.2.2.2.2.2.2.2.2.2.2.2.2.2.2.2.2.2.1 y.2.2.2.2.2.2.2.2.2.2.2.2.2.2.2.2.2.2.2.2.2.2.2.1 y.2.2.2.2.2.2.2.2.2.2.2.2.2.2.2.2.2.2.2.2.2.2.2.2.1 y.2.2.2.2.2.2.2.2.2.2.2.2.2.2.2.2.2.2.2.2.2.2.2.2.2.1 y.2.2.2.2.2.2.2.2.2.2.2.2.2.2.2.2.2.2.2.2.2.2.2.2.2.2 ta sh pa cr bw bt (nI i) (f_X8_span_L75w (σ.1 1) (σ.1 2) (σ.2.2 1) (σ.1 3) (σ.2.2 2) (σ.1 4) (σ.2.2 3) (σ.1 5) (σ.2.2 4) (σ.1 6) (σ.2.2 5) (σ.2.2 6) (nI pp) p2 y.2.1 y.2.2.1 y.2.2.2.1 y.2.2.2.2.1 y.2.2.2.2.2.1 y.2.2.2.2.2.2.1 y.2.2.2.2.2.2.2.1 y.2.2.2.2.2.2.2.2.1 y.2.2.2.2.2.2.2.2.2.1 y.2.2.2.2.2.2.2.2.2.2.1 y.2.2.2.2.2.2.2.2.2.2.2.1 y.2.2.2.2.2.2.2.2.2.2.2.2.1 y.2.2.2.2.2.2.2.2.2.2.2.2.2.1 y.2.2.2.2.2.2.2.2.2.2.2.2.2.2.1 y.2.2.2.2.2.2.2.2.2.2.2.2.2.2.2.1 y.2.2.2.2.2.2.2.2.2.2.2.2.2.2.2.2.1 y.2.2.2.2.2.2.2.2.2.2.2.2.2.2.2.2.2.1 y.2.2.2.2.2.2.2.2.2.2.2.2.2.2.2.2.2.2.1 y.2.2.2.2.2.2.2.2.2.2.2.2.2.2.2.2.2.2.2.1 y.2.2.2.2.2.2.2.2.2.2.2.2.2.2.2.2.2.2.2.2.1 y.2.2.2.2.2.2.2.2.2.2.2.2.2.2.2.2.2.2.2.2.2.1 y.2.2.2.2.2.2.2.2.2.2.2.2.2.2.2.2.2.2.2.2.2.2.1 y.2.2.2.2.2.2.2.2.2.2.2.2.2.2.2.2.2.2.2.2.2.2.2.1 y.2.2.2.2.2.2.2.2.2.2.2.2.2.2.2.2.2.2.2.2.2.2.2.2.1 y.2.2.2.2.2.2.2.2.2.2.2.2.2.2.2.2.2.2.2.2.2.2.2.2.2.1 y.2.2.2.2.2.2.2.2.2.2.2.2.2.2.2.2.2.2.2.2.2.2.2.2.2.2 (nI fr) (nI to) m) X = some (nI (fr + E (k_sp (fun j => k_Z (τ.1 2) n0 n1 n2 n3 n4 pp (E j)) (r + 1) i)), y.2.1, σ.1 1, y.2.2.1, y.2.2.2.1, y.2.2.2.2.1, y.2.2.2.2.2.1, y.2.2.2.2.2.2.1, y.2.2.2.2.2.2.2.1, y.2.2.2.2.2.2.2.2.1, y.2.2.2.2.2.2.2.2.2.1, y.2.2.2.2.2.2.2.2.2.2.1, y.2.2.2.2.2.2.2.2.2.2.2.1, y.2.2.2.2.2.2.2.2.2.2.2.2.1, y.2.2.2.2.2.2.2.2.2.2.2.2.2.1, y.2.2.2.2.2.2.2.2.2.2.2.2.2.2.1, y.2.2.2.2.2.2.2.2.2.2.2.2.2.2.2.1, y.2.2.2.2.2.2.2.2.2.2.2.2.2.2.2.2.1, y.2.2.2.2.2.2.2.2.2.2.2.2.2.2.2.2.2.1, y.2.2.2.2.2.2.2.2.2.2.2.2.2.2.2.2.2.2.1, vd', vs', ve', vl', vf', fyA', ycA', pl', bf', cl', lk', ls', nm', pr', ws', sub', wy', y.2.2.2.2.2.2.2.2.2.2.2.2.2.2.2.2.2.2.2.1, y.2.2.2.2.2.2.2.2.2.2.2.2.2.2.2.2.2.2.2.2.1, y.2.2.2.2.2.2.2.2.2.2.2.2.2.2.2.2.2.2.2.2.2.1, y.2.2.2.2.2.2.2.2.2.2.2.2.2.2.2.2.2.2.2.2.2.2.1, y.2.2.2.2.2.2.2.2.2.2.2.2.2.2.2.2.2.2.2.2.2.2.2.1, y.2.2.2.2.2.2.2.2.2.2.2.2.2.2.2.2.2.2.2.2.2.2.2.2.1, y.2.2.2.2.2.2.2.2.2.2.2.2.2.2.2.2.2.2.2.2.2.2.2.2.2.1, y.2.2.2.2.2.2.2.2.2.2.2.2.2.2.2.2.2.2.2.2.2.2.2.2.2.2, pe', he', ta', sh', pa', cr', bw', bt') ∧ i_on pr' ∧ i_sn sh' := by
              intro X hX
              rw [hX, k_sp]
              unfold f_X8_span_J100
              rw [a1, Option.bind_some, hlk, Option.bind_some, show f_X7_sumUp 0 (-1) (-1) (-1) 1 _ _ _ _ _ _ _ _ _ _ _ _ _ _ _ _ _ _ _ _ _ _ 0 _ _ _ _ _ _ = _ from b1, Option.bind_some, i_nothing b4, Option.bind_some, p4_bt]
              by_cases hv : v = 0
              · rw [if_pos hv, if_neg (fun q => q (b6.mp hv)), nI_1]
                exact ih (i + 1) m _ _ _ _ _ _ _ _ _ _ _ _ _ _ _ _ _ _ _ _ _ _ _ _ _ (by omega) (by omega) b2 b3
              · rw [if_neg hv, if_pos (show k_Z (τ.1 2) n0 n1 n2 n3 n4 pp (E i) ≠ 0 from fun q => hv (b6.mpr q))]
                exact ⟨_, _, _, _, _, _, _, _, _, _, _, _, _, _, _, _, _, _, _, _, _, _, _, _, _, rfl, b2, b3⟩
            show ∃ (vd' vs' ve' vl' vf' : Int32) (fyA' ycA' pl' bf' cl' lk' ls' nm' : Nat → Int32) (pr' ws' sub' : Nat → Int64) (wy' : Nat → Int32) (pe' he' : Int32) (ta' sh' pa' cr' : Nat → Int64) (bw' : Nat → Int32) (bt' : Nat → Int64), f_X8_span_L75 (σ.1 1) (σ.1 2) (σ.2.2 1) (σ.1 3) (σ.2.2 2) (σ.1 4) (σ.2.2 3) (σ.1 5) (σ.2.2 4) (σ.1 6) (σ.2.2 5) (σ.2.2 6) (nI pp) p2 y.2.1 y.2.2.1 y.2.2.2.1 y.2.2.2.2.1 y.2.2.2.2.2.1 y.2.2.2.2.2.2.1 y.2.2.2.2.2.2.2.1 y.2.2.2.2.2.2.2.2.1 y.2.2.2.2.2.2.2.2.2.1 y.2.2.2.2.2.2.2.2.2.2.1 y.2.2.2.2.2.2.2.2.2.2.2.1 y.2.2.2.2.2.2.2.2.2.2.2.2.1 y.2.2.2.2.2.2.2.2.2.2.2.2.2.1 y.2.2.2.2.2.2.2.2.2.2.2.2.2.2.1 y.2.2.2.2.2.2.2.2.2.2.2.2.2.2.2.1 y.2.2.2.2.2.2.2.2.2.2.2.2.2.2.2.2.1 y.2.2.2.2.2.2.2.2.2.2.2.2.2.2.2.2.2.1 y.2.2.2.2.2.2.2.2.2.2.2.2.2.2.2.2.2.2.1 y.2.2.2.2.2.2.2.2.2.2.2.2.2.2.2.2.2.2.2.1 y.2.2.2.2.2.2.2.2.2.2.2.2.2.2.2.2.2.2.2.2.1 y.2.2.2.2.2.2.2.2.2.2.2.2.2.2.2.2.2.2.2.2.2.1 y.2.2.2.2.2.2.2.2.2.2.2.2.2.2.2.2.2.2.2.2.2.2.1 y.2.2.2.2.2.2.2.2.2.2.2.2.2.2.2.2.2.2.2.2.2.2.2.1 y.2.2.2.2.2.2.2.2.2.2.2.2.2.2.2.2.2.2.2.2.2.2.2.2.1 y.2.2.2.2.2.2.2.2.2.2.2.2.2.2.2.2.2.2.2.2.2.2.2.2.2.1 y.2.2.2.2.2.2.2.2.2.2.2.2.2.2.2.2.2.2.2.2.2.2.2.2.2.2 (nI fr) (nI to) (f_X8_span_L75w (σ.1 1) (σ.1 2) (σ.2.2 1) (σ.1 3) (σ.2.2 2) (σ.1 4) (σ.2.2 3) (σ.1 5) (σ.2.2 4) (σ.1 6) (σ.2.2 5) (σ.2.2 6) (nI pp) p2 y.2.1 y.2.2.1 y.2.2.2.1 y.2.2.2.2.1 y.2.2.2.2.2.1 y.2.2.2.2.2.2.1 y.2.2.2.2.2.2.2.1 y.2.2.2.2.2.2.2.2.1 y.2.2.2.2.2.2.2.2.2.1 y.2.2.2.2.2.2.2.2.2.2.1 y.2.2.2.2.2.2.2.2.2.2.2.1 y.2.2.2.2.2.2.2.2.2.2.2.2.1 y.2.2.2.2.2.2.2.2.2.2.2.2.2.1 y.2.2.2.2.2.2.2.2.2.2.2.2.2.2.1 y.2.2.2.2.2.2.2.2.2.2.2.2.2.2.2.1 y.2.2.2.2.2.2.2.2.2.2.2.2.2.2.2.2.1 y.2.2.2.2.2.2.2.2.2.2.2.2.2.2.2.2.2.1 y.2.2.2.2.2.2.2.2.2.2.2.2.2.2.2.2.2.2.1 y.2.2.2.2.2.2.2.2.2.2.2.2.2.2.2.2.2.2.2.1 y.2.2.2.2.2.2.2.2.2.2.2.2.2.2.2.2.2.2.2.2.1 y.2.2.2.2.2.2.2.2.2.2.2.2.2.2.2.2.2.2.2.2.2.1 y.2.2.2.2.2.2.2.2.2.2.2.2.2.2.2.2.2.2.2.2.2.2.1 y.2.2.2.2.2.2.2.2.2.2.2.2.2.2.2.2.2.2.2.2.2.2.2.1 y.2.2.2.2.2.2.2.2.2.2.2.2.2.2.2.2.2.2.2.2.2.2.2.2.1 y.2.2.2.2.2.2.2.2.2.2.2.2.2.2.2.2.2.2.2.2.2.2.2.2.2.1 y.2.2.2.2.2.2.2.2.2.2.2.2.2.2.2.2.2.2.2.2.2.2.2.2.2.2 (nI fr) (nI to) m) vd vs ve vl vf fyA ycA pl bf cl lk ls nm pr ws sub wy pe he ta sh pa cr bw bt (nI i) = _ ∧ _ ∧ _
            unfold f_X8_span_L75
            rw [pk_sub (by omega), if_neg (nI_ge (by omega) (by omega))]
            by_cases c : p2 = 0
            · rw [if_pos c]
              exact hk _ (by rw [nI_add, hE0 c])
            · rw [if_neg c]
              exact hk _ (by rw [pk_sub (by omega), hE1 c]; congr 1; omega)
        have ml : ∀ (r i m : Nat) (wo oP oY fi se : Int32) (l w is li : Nat → Int32) (V : Nat → Nat), i + r = to - fr → r + 1 < m → (∀ j, j < i → k_Z (τ.1 2) n0 n1 n2 n3 n4 pp (E j) = 0) → p4_S l w V → p3_N (σ.2.1 0) 0 (V 0) → p3_N (σ.2.1 1) 0 (V 1) → 0 < V 1 → ∃ (wo' oP' oY' fi' se' : Int32) (l' w' is' li' : Nat → Int32), f_X9_span_L32w (τ.1 2) (τ.1 6) (τ.2.2 0) (nI pp) p2 (nI (to - fr + 1)) m wo oP oY fi se l w is li (nI i) = some (nI (fr + E (k_sp (fun j => k_Z (τ.1 2) n0 n1 n2 n3 n4 pp (E j)) r i)), wo', oP', oY', fi', se', l', w', τ.1 6, is', li') ∧ i_F (σ.2.1 0) (σ.2.1 1) l' w' := by
          intro r
          induction r with
          | zero =>
            intro i m wo oP oY fi se l w is li V h1 h2 h3 h4 h5 h6 h7
            obtain ⟨m, rfl⟩ : ∃ j, m = j + 1 := ⟨m - 1, by omega⟩
            have hEi : E i < to - fr + 1 := by have := hEl i (by omega); omega
            have hLM := i_LMy hRB (p := pp) (y := E i) hpp (by rw [hfe, hte]; exact hEi)
            obtain ⟨li1, l1, w1, is1, V1, s1, s2, s3, s4, s5, s6⟩ := m_years2 hRB h4 li is oY se hLM
            have hz : k_Z (τ.1 2) n0 n1 n2 n3 n4 pp (E i) ≠ 0 := by
              rw [show i = to - fr by omega] at h3 ⊢
              exact hlast h3
            have hk : ∀ rc X, X = nI (E i) → f_X9_span_J53 (τ.1 2) (τ.1 6) (τ.2.2 0) (nI pp) oY se l w is li (nI i) rc X = some (nI (fr + E i), -1, nI pp, nI (E i), -1, -1, l1, w1, τ.1 6, is1, li1) := by
              intro rc X hX
              rw [hX]
              unfold f_X9_span_J53
              rw [s1, Option.bind_some, if_neg (show ¬ p2_b (q_A (τ.1 2) n0 n1 n2 n3 n4 ≠ 0) = 0 by rw [p2_b, if_pos hA]; decide), p2_gd (by decide), if_neg (show ¬ w1 (cx_ix 7) ≤ 0 from fun q => hz (s4.symm.trans ((i_wle s2 (r := 7) (by decide) (by decide)).mp q))), p2_gd ib1, hfr, nI_add]
            refine ⟨-1, nI pp, nI (E i), -1, -1, l1, w1, is1, li1, ?_, ⟨V1, s2, by rw [s5]; exact h5, by rw [s6]; exact h6, by rw [s6]; exact h7⟩⟩
            show f_X9_span_L32 (τ.1 2) (τ.1 6) (τ.2.2 0) (nI pp) p2 (nI (to - fr + 1)) (f_X9_span_L32w (τ.1 2) (τ.1 6) (τ.2.2 0) (nI pp) p2 (nI (to - fr + 1)) m) wo oP oY fi se l w is li (nI i) = _
            unfold f_X9_span_L32
            rw [if_neg (nI_ge (by omega) (by omega)), k_sp]
            by_cases c : p2 = 0
            · rw [if_pos c]
              exact hk _ _ (by rw [hE0 c])
            · rw [if_neg c]
              exact hk _ _ (by rw [nI_pred, pk_sub (by omega), hE1 c])
          | succ r ih =>
            intro i m wo oP oY fi se l w is li V h1 h2 h3 h4 h5 h6 h7
            obtain ⟨m, rfl⟩ : ∃ j, m = j + 1 := ⟨m - 1, by omega⟩
            have hEi : E i < to - fr + 1 := by have := hEl i (by omega); omega
            have hLM := i_LMy hRB (p := pp) (y := E i) hpp (by rw [hfe, hte]; exact hEi)
            obtain ⟨li1, l1, w1, is1, V1, s1, s2, s3, s4, s5, s6⟩ := m_years2 hRB h4 li is oY se hLM
            have hk : ∀ X, X = nI (E i) → ∃ (wo' oP' oY' fi' se' : Int32) (l' w' is' li' : Nat → Int32), f_X9_span_J53 (τ.1 2) (τ.1 6) (τ.2.2 0) (nI pp) oY se l w is li (nI i) (f_X9_span_L32w (τ.1 2) (τ.1 6) (τ.2.2 0) (nI pp) p2 (nI (to - fr + 1)) m) X = some (nI (fr + E (k_sp (fun j => k_Z (τ.1 2) n0 n1 n2 n3 n4 pp (E j)) (r + 1) i)), wo', oP', oY', fi', se', l', w', τ.1 6, is', li') ∧ i_F (σ.2.1 0) (σ.2.1 1) l' w' := by
              intro X hX
              rw [hX, k_sp]
              unfold f_X9_span_J53
              rw [s1, Option.bind_some, if_neg (show ¬ p2_b (q_A (τ.1 2) n0 n1 n2 n3 n4 ≠ 0) = 0 by rw [p2_b, if_pos hA]; decide), p2_gd (by decide)]
              have hle : w1 (cx_ix 7) ≤ 0 ↔ k_Z (τ.1 2) n0 n1 n2 n3 n4 pp (E i) = 0 := by
                have := i_wle s2 (r := 7) (by decide) (by decide)
                rw [s4] at this
                exact this
              by_cases hv : k_Z (τ.1 2) n0 n1 n2 n3 n4 pp (E i) = 0
              · rw [if_pos (hle.mpr hv), if_neg (fun q => q hv), nI_1]
                exact ih (i + 1) m _ _ _ _ _ _ _ _ _ V1 (by omega) (by omega) (fun j hj => by
                  by_cases c : j = i
                  · rw [c]; exact hv
                  · exact h3 j (by omega)) s2 (by rw [s5]; exact h5) (by rw [s6]; exact h6) (by rw [s6]; exact h7)
              · rw [if_neg (fun q => hv (hle.mp q)), if_pos hv, p2_gd ib1, hfr, nI_add]
                exact ⟨_, _, _, _, _, _, _, _, _, rfl, ⟨V1, s2, by rw [s5]; exact h5, by rw [s6]; exact h6, by rw [s6]; exact h7⟩⟩
            show ∃ (wo' oP' oY' fi' se' : Int32) (l' w' is' li' : Nat → Int32), f_X9_span_L32 (τ.1 2) (τ.1 6) (τ.2.2 0) (nI pp) p2 (nI (to - fr + 1)) (f_X9_span_L32w (τ.1 2) (τ.1 6) (τ.2.2 0) (nI pp) p2 (nI (to - fr + 1)) m) wo oP oY fi se l w is li (nI i) = _ ∧ _
            unfold f_X9_span_L32
            rw [if_neg (nI_ge (by omega) (by omega))]
            by_cases c : p2 = 0
            · rw [if_pos c]
              exact hk _ (by rw [hE0 c])
            · rw [if_neg c]
              exact hk _ (by rw [nI_pred, pk_sub (by omega), hE1 c])
        obtain ⟨vd', vs', ve', vl', vf', fyA', ycA', pl', bf', cl', lk', ls', nm', pr', ws', sub', wy', pe', he', ta', sh', pa', cr', bw', bt', c1, c2, c3⟩ := cl (to - fr) 0 cx_N0 (σ.2.2 34) (σ.2.2 35) (σ.2.2 36) (σ.2.2 37) (σ.2.2 38) (σ.1 33) (σ.1 34) (σ.1 35) (σ.1 36) (σ.1 37) (σ.1 38) (σ.1 39) (σ.1 40) (σ.2.1 7) (σ.2.1 8) (σ.2.1 9) (σ.1 41) (σ.2.2 41) (σ.2.2 42) (σ.2.1 18) (σ.2.1 19) (σ.2.1 20) (σ.2.1 21) (σ.1 43) (σ.2.1 22) (by omega) (by unfold cx_N0; omega) hO2 hS2
        obtain ⟨wo', oP', oY', fi', se', l', w', is', li', m1, m2⟩ := ml (to - fr) 0 cx_N0 (τ.2.2 7) (τ.2.2 8) (τ.2.2 9) (τ.2.2 10) (τ.2.2 11) (τ.1 0) (τ.1 1) (τ.1 9) (τ.1 10) V (by omega) (by unfold cx_N0; omega) (fun j hj => by omega) hV hV0 hV1 hV2
        apply i_ex
        · unfold f_X8_span
          rw [i_has r1.2.1 (by omega), Option.bind_some, if_neg (by rw [p2_b, if_pos hh]; decide), hw1, Option.bind_some, if_neg (by decide), show f_X8_anyWay (σ.2.2 0) (σ.1 2) (σ.2.2 1) (σ.1 3) (σ.2.2 2) (σ.1 4) (σ.2.2 3) (σ.1 5) (σ.2.2 4) (σ.1 6) (σ.2.2 5) (σ.2.2 6) (σ.2.2 29) (σ.2.2 30) (σ.2.2 31) (σ.2.2 32) (σ.2.2 33) (σ.1 24) (σ.1 25) (σ.1 26) (σ.1 27) (σ.1 28) (σ.1 29) (σ.1 30) (σ.1 31) (σ.2.1 4) (σ.2.1 5) (σ.2.1 6) (σ.1 32) (σ.2.1 10) (σ.2.1 11) (σ.2.1 12) (σ.2.1 13) (σ.1 42) (σ.2.1 14) (σ.2.2 39) (σ.2.2 40) 1 = _ from y1, Option.bind_some, if_neg (by rw [y2, p2_b, if_pos hA]; decide), show f_X4_at 2 8 (σ.1 3) (σ.2.2 2) (nI pp) 0 = _ from p2_atQ r1 pp 0 hpp (by decide), Option.bind_some, show f_X4_at 2 8 (σ.1 3) (σ.2.2 2) (nI pp) 1 = _ from p2_atQ r1 pp 1 hpp (by decide), Option.bind_some, q1, q2]
          exact c1
        · unfold f_X9_span
          rw [p2_isPicture _ r1.2.2.1 hn1, Option.bind_some, if_neg (by rw [p2_b, if_pos hh]; decide), hw2, Option.bind_some, if_neg (by decide), hyrs, Option.bind_some]
          exact m1
        · exact ⟨rfl, ⟨n0, n1, n2, n3, n4, hRB, Or.inr ⟨d, d2, d3, d4, hSM⟩⟩, hR, hK0, hK1, hT, m2, hon, c2, hsn, c3⟩
    · apply i_ex
      · unfold f_X8_span f_X8_span_J23
        rw [i_has r1.2.1 (by omega), Option.bind_some, if_neg (by rw [p2_b, if_pos hh]; decide), p2_within, Option.bind_some, if_pos (p2_b0.mpr hw), p2_refused2, Option.bind_some]
      · unfold f_X9_span f_X9_span_J18
        rw [p2_isPicture _ r1.2.2.1 hn1, Option.bind_some, if_neg (by rw [p2_b, if_pos hh]; decide), p2_in, Option.bind_some, if_pos (p2_b0.mpr (by rw [p2_l]; exact hw)), p2_bad, Option.bind_some]
      · exact ⟨rfl, ⟨n0, n1, n2, n3, n4, hRB, hsm⟩, i_Rup hR 0 (by decide), hK0, hK1, hT, hF, hO1, hO2, hS1, hS2⟩
  · apply i_ex
    · unfold f_X8_span f_X8_span_J23
      rw [i_has r1.2.1 (by omega), Option.bind_some, if_pos (p2_b0.mpr hp), p2_refused2, Option.bind_some]
    · unfold f_X9_span f_X9_span_J18
      rw [p2_isPicture _ r1.2.2.1 hn1, Option.bind_some, if_pos (p2_b0.mpr hp), p2_bad, Option.bind_some]
    · exact ⟨rfl, ⟨n0, n1, n2, n3, n4, hRB, hsm⟩, i_Rup hR 0 (by decide), hK0, hK1, hT, hF, hO1, hO2, hS1, hS2⟩
