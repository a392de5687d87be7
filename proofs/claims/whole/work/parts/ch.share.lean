/-! SHARES: bounds, and the reference's side of a question by shares -/
theorem i_S_z (F : (Nat → Nat) → Nat) {n0 n2 k x : Nat} (hk : k < n2) (h : ¬ k_w n0 x) : p6_ws n0 (fun ω => if ω k = x then F ω else 0) n2 0 q_0 = 0 := by
  rw [p6_ws_congr2 n0 (fun ω => if ω k = x then F ω else 0) (fun _ => 0) n2 0 q_0 (fun ω' _ hv => show (if ω' k = x then F ω' else 0) = 0 from if_neg (fun q => h (by rw [← q]; exact hv k (by omega) (by omega))))]
  exact p6_ws_zero n0 (fun _ => 0) n2 0 q_0 (fun _ _ => rfl)
theorem i_S_5 (F : (Nat → Nat) → Nat) {n2 k : Nat} (hk : k < n2) : p6_ws 0 (fun ω => if ω k = 5 then F ω else 0) n2 0 q_0 = p6_ws 0 F n2 0 q_0 :=
  p6_ws_congr2 0 _ F n2 0 q_0 (fun ω' _ hv => if_pos (by rcases hv k (by omega) (by omega) with q | q; exact q; omega))
theorem i_S_le (F : (Nat → Nat) → Nat) (n0 n2 k x : Nat) : p6_ws n0 (fun ω => if ω k = x then F ω else 0) n2 0 q_0 ≤ p6_ws n0 F n2 0 q_0 :=
  p6_ws_mono n0 _ F n2 0 q_0 (fun ω' => by show (if ω' k = x then F ω' else 0) ≤ F ω'; split; exact Nat.le_refl _; exact Nat.zero_le _)
section SH
variable {c0 c1 c2 c3 c4 : Nat → Int32} {z0 z1 z2 z3 z4 sg : Int32} {bk : Nat → Int32} {n0 n1 n2 n3 n4 : Nat}
variable {fy yc : Nat → Nat} {sk : Nat} {od : Bool} {ea la : Nat}
theorem i_ws_lt (hRB : p2_RB c0 z0 c1 z1 c2 z2 c3 z3 c4 z4 sg bk n0 n1 n2 n3 n4) (hLK : q_LK n1 n3 fy yc sk od ea la) : p6_ws n0 (q_F bk n1 n2 n3 n4 fy yc sk od ea la) n2 0 q_0 ≤ 111918671858621262436761600000000 := p8_ws_lt (q_OK hRB hLK) _ (fun _ => Nat.le_refl _)
theorem i_A_lt (hRB : p2_RB c0 z0 c1 z1 c2 z2 c3 z3 c4 z4 sg bk n0 n1 n2 n3 n4) : q_A bk n0 n1 n2 n3 n4 ≤ 111918671858621262436761600000000 := i_ws_lt hRB (q_LK_of (q_BK_of hRB) (i_LM0 hRB 0 0))
theorem i_P4_lt {v : Nat} (h : v ≤ 1119186718586212624367616000000000000) : v < 1073741824 ^ 4 := Nat.lt_of_le_of_lt h (by decide)
theorem i_P15_lt {v : Nat} (h : v ≤ 1119186718586212624367616000000000000) : v < 1073741824 ^ 15 := Nat.lt_of_le_of_lt h (by decide)
theorem i_P16_lt {v : Nat} (h : v ≤ 1119186718586212624367616000000000000) : v < 1073741824 ^ 16 := Nat.lt_of_le_of_lt h (by decide)
theorem i_ref (hRB : p2_RB c0 z0 c1 z1 c2 z2 c3 z3 c4 z4 sg bk n0 n1 n2 n3 n4) {ab be : Nat → Int64} {l w : Nat → Int32} (hF : i_F ab be l w) (li0 is0 : Nat → Int32) (oY se : Int32) : ∃ li l1 w1 is1 V1, f_X9_begins bk li0 = some (-1, -1, -1, li) ∧ f_X9_shares l w bk is0 li (-1) (-1) oY (-1) se (-1) = some (l1, w1, is1) ∧ p4_S l1 w1 V1 ∧ V1 6 = q_A bk n0 n1 n2 n3 n4 ∧ (∀ k x, k < n2 → x < 6 → V1 (12 + 6 * k + x) = q_S bk n0 n1 n2 n3 n4 k x) ∧ (p3_N ab 0 (V1 0) ∧ p3_N be 0 (V1 1) ∧ 0 < V1 1) ∧ (w1 (cx_ix 6) = 0 ↔ q_A bk n0 n1 n2 n3 n4 = 0) ∧ q_LI bk n0 n2 li := by
  obtain ⟨V, hV, hV0, hV1, hV2⟩ := hF
  obtain ⟨li, b1, b2⟩ := m_begins hRB li0
  obtain ⟨l1, w1, is1, V1, s1, s2, s3, s4, s5, s6⟩ := m_shares hRB b2 (i_LM0 hRB oY se) l w is0 V hV (as := false) (aq := 0) (aI := -1) (fun q => by cases q) (fun _ => rfl)
  have w6 := i_w6 s2 (r := 6) (by decide) (by decide)
  have e0 := s6 0 (by decide) (by decide) (by decide) (by decide)
  have e1 := s6 1 (by decide) (by decide) (by decide) (by decide)
  refine ⟨li, l1, w1, is1, V1, b1, s1, s2, s3, s4, ⟨by rw [e0]; exact hV0, by rw [e1]; exact hV1, by rw [e1]; exact hV2⟩, ?_, b2⟩
  have : w1 (cx_ix 6) = 0 ↔ V1 6 = 0 := w6
  rw [this, s3]
  exact Iff.rfl
/-- namedNow, of the shares of a look -/
theorem i_nn (hRB : p2_RB c0 z0 c1 z1 c2 z2 c3 z3 c4 z4 sg bk n0 n1 n2 n3 n4) {l w : Nat → Int32} {V : Nat → Nat} {F : (Nat → Nat) → Nat} (hS : p4_S l w V) (hA : p6_ws n0 F n2 0 q_0 ≠ 0) {k : Nat} (hk : k < n2) (hV : ∀ x, x < 6 → V (12 + 6 * k + x) = p6_ws n0 (fun ω => if ω k = x then F ω else 0) n2 0 q_0) : f_X9_namedNow l w bk (nI k) = some (nI (k_ll n0 (fun x => p6_ws n0 (fun ω => if ω k = x then F ω else 0) n2 0 q_0) n0)) := by
  have hn0 := hRB.1.1
  have hn2 := hRB.2.2.1.1
  refine m_namedNow hn0 hRB.1.2.2.1 (by omega) hS hV (fun x h1 h2 => i_S_z F hk (fun q => by rcases q with q | q <;> omega)) (fun e => ?_)
  subst e
  rw [i_S_5 F hk]
  exact hA
/-- isSure, on both sides -/
theorem i_isSureC {to sh mi th : Nat → Int64} {S : Nat → Nat} {A c k : Nat} (hn0 : n0 ≤ 5) (hk : k < 6) (hto : p3_N to 0 A) (hS : ∀ x, x < 6 → p3_N sh (k * 6 + x) (S x)) (hA : A ≤ 111918671858621262436761600000000) (hSA : ∀ x, S x ≤ A) (hc : c ≤ 100) : ∃ mi' th', f_X5_isSure to sh mi th (nI n0) (nI k) (nI c) = some (p2_b (¬ S (k_ll n0 S n0) * 100 < A * c), mi', th') := by
  have w2 := k_w_lt hn0 (k_ll_w n0 S n0)
  have b1 := hSA (k_ll n0 S n0)
  have b2 : A * c ≤ A * 100 := Nat.mul_le_mul_left A hc
  obtain ⟨mi', a1, a2, a3⟩ := p3_multiply (n := 4) (i := 0) (n' := 144) (j := k * 6 + k_ll n0 S n0) (mm := 100) (x := mi) (by decide) (by decide) (by omega) (by decide) (hS _ w2) (by decide) (i_P4_lt (by omega))
  obtain ⟨th', c1, c2, c3⟩ := p3_multiply (n := 4) (i := 0) (n' := 4) (j := 0) (mm := c) (x := th) (by decide) (by decide) (by decide) (by decide) hto (by omega) (i_P4_lt (by omega))
  refine ⟨mi', th', ?_⟩
  unfold f_X5_isSure
  rw [i_likeliest hn0 hk hS, Option.bind_some, i_rgc, show f_X3_multiply 4 mi 0 144 sh (nI (k * 6 + k_ll n0 S n0)) 100 = _ from a1, Option.bind_some, nI_l (by omega), show f_X3_multiply 4 th 0 4 to 0 (lN c) = _ from c1, Option.bind_some, show f_X3_compare 4 mi' 0 4 th' 0 = _ from p3_compare (i := 0) (j := 0) (by decide) (by decide) (by decide) (by decide) a3 c3, Option.bind_some]
  by_cases q : S (k_ll n0 S n0) * 100 < A * c
  · rw [if_pos (p3_cmp0.1.mpr q), p2_b, if_neg (fun z => z q)]
  · rw [if_neg (fun z => q (p3_cmp0.1.mp z)), p2_b, if_pos q]
theorem i_isSureM {l w : Nat → Int32} {V S : Nat → Nat} {A c k : Nat} (hn0 : n0 ≤ 5) (hk : k < 6) (hS : p4_S l w V) (hV : ∀ x, x < 6 → V (12 + 6 * k + x) = S x) (hV6 : V 6 = A) (hA : A ≤ 111918671858621262436761600000000) (hSA : ∀ x, S x ≤ A) (hc : c ≤ 100) (hnn : f_X9_namedNow l w bk (nI k) = some (nI (k_ll n0 S n0))) : ∃ l' w' V', f_X9_isSure l w bk (nI k) (nI c) = some (p2_b (¬ S (k_ll n0 S n0) * 100 < A * c), l', w') ∧ p4_S l' w' V' ∧ ∀ s, s ≠ 8 → s ≠ 9 → V' s = V s := by
  have w2 := k_w_lt hn0 (k_ll_w n0 S n0)
  have b1 := hSA (k_ll n0 S n0)
  have b2 : A * c ≤ A * 100 := Nat.mul_le_mul_left A hc
  obtain ⟨l1, w1, a1, a2, a3⟩ := p4_takes (r := 8) (o := 12 + 6 * k + k_ll n0 S n0) (by decide) (by omega) (by omega) (hS _ (by omega) (by omega))
  have s1 := hS.set a2 a3
  rw [hV _ w2] at s1
  have r8 := s1 8 (by decide) (by decide)
  rw [p4_us] at r8
  obtain ⟨l2, w2', c1, c2, c3⟩ := p4_times (r := 8) (b := 100) (by decide) (by decide) r8 (i_P16_lt (by omega))
  have s2 := s1.set c2 c3
  have r6 := s2 6 (by decide) (by decide)
  rw [p4_un (by decide), p4_un (by decide), hV6] at r6
  obtain ⟨l3, w3, d1, d2, d3⟩ := p4_takes (r := 9) (o := 6) (by decide) (by decide) (by decide) r6
  have s3 := s2.set d2 d3
  have r9 := s3 9 (by decide) (by decide)
  rw [p4_us] at r9
  obtain ⟨l4, w4, e1, e2, e3⟩ := p4_times (r := 9) (b := c) (by decide) (by omega) r9 (i_P16_lt (by omega))
  have s4 := s3.set e2 e3
  have t8 := s4 8 (by decide) (by decide)
  rw [p4_un (by decide), p4_un (by decide), p4_us] at t8
  have t9 := s4 9 (by decide) (by decide)
  rw [p4_us] at t9
  refine ⟨l4, w4, _, ?_, s4, fun s h1 h2 => by rw [p4_un h2, p4_un h2, p4_un h1, p4_un h1]⟩
  unfold f_X9_isSure
  rw [hnn, Option.bind_some, i_rg, show f_X9_takes l w 8 (nI (12 + 6 * k + k_ll n0 S n0)) = _ from a1, Option.bind_some, show f_X9_times l1 w1 8 100 = _ from c1, Option.bind_some, show f_X9_takes l2 w2' 9 6 = _ from d1, Option.bind_some, show f_X9_times l3 w3 9 (nI c) = _ from e1, Option.bind_some, show f_X9_against l4 w4 8 9 = _ from p4_against (r := 8) (o := 9) (by decide) (by decide) t8 t9, Option.bind_some]
  by_cases q : S (k_ll n0 S n0) * 100 < A * c
  · rw [if_pos (p3_cmp0.1.mpr q), p2_b, if_neg (fun z => z q)]
  · rw [if_neg (fun z => q (p3_cmp0.1.mp z)), p2_b, if_pos q]
end SH
theorem i_named : ob_named i_Inv := by
  intro σ τ p1 h
  obtain ⟨⟨n0, n1, n2, n3, n4, hRB, hsm⟩, hR, hK0, hK1, hT, hF, hO1, hO2, hS1, hS2⟩ := h
  obtain ⟨r0, r1, r2, r3, r4, rs, v0, v1, v2, v3, v4, v5⟩ := id hRB
  have hn0 := r0.1
  have hn1 := r1.1
  have hn2 := r2.1
  have hn3 := r3.1
  have hn4 := r4.1
  rcases p2_num p1 n2 (by omega) with ⟨hd, hhd, rfl⟩ | hh
  · have hh := i_has1 hhd (by omega)
    obtain ⟨y, y1, y2, ⟨d, d1, d2, d3, d4, hSM⟩, hon, hsn⟩ := i_any hRB hsm hO1 hS1 1 (by omega) (by omega)
    obtain ⟨li, l1, w1, is1, V1, b1, s1, s2, s3, s4, ⟨g1, g2, g3⟩, w6, hLI⟩ := i_ref hRB hF (τ.1 10) (τ.1 9) (τ.2.2 9) (τ.2.2 11)
    by_cases hA : q_A (τ.1 2) n0 n1 n2 n3 n4 = 0
    · apply i_ex
      · unfold f_X8_named
        rw [i_has r2.2.1 (by omega), Option.bind_some, if_neg (by rw [p2_b, if_pos hh]; decide), show f_X8_anyWay (σ.2.2 0) (σ.1 2) (σ.2.2 1) (σ.1 3) (σ.2.2 2) (σ.1 4) (σ.2.2 3) (σ.1 5) (σ.2.2 4) (σ.1 6) (σ.2.2 5) (σ.2.2 6) (σ.2.2 29) (σ.2.2 30) (σ.2.2 31) (σ.2.2 32) (σ.2.2 33) (σ.1 24) (σ.1 25) (σ.1 26) (σ.1 27) (σ.1 28) (σ.1 29) (σ.1 30) (σ.1 31) (σ.2.1 4) (σ.2.1 5) (σ.2.1 6) (σ.1 32) (σ.2.1 10) (σ.2.1 11) (σ.2.1 12) (σ.2.1 13) (σ.1 42) (σ.2.1 14) (σ.2.2 39) (σ.2.2 40) 1 = _ from y1, Option.bind_some, if_pos (by rw [y2, p2_b, if_neg (fun q => q hA)]), i_no, Option.bind_some]
      · unfold f_X9_named
        rw [p2_isHead _ r2.2.2.1 hn2, Option.bind_some, if_neg (by rw [p2_b, if_pos hh]; decide), b1, Option.bind_some, show f_X9_shares (τ.1 0) (τ.1 1) (τ.1 2) (τ.1 9) li (-1) (-1) (τ.2.2 9) (-1) (τ.2.2 11) (-1) = _ from s1, Option.bind_some, p2_gd (by decide), if_pos (w6.mpr hA), p2_no, Option.bind_some]
      · exact ⟨rfl, ⟨n0, n1, n2, n3, n4, hRB, Or.inr ⟨d, d2, d3, d4, hSM⟩⟩, i_Rup hR 1 (by decide), hK0, hK1, hT, ⟨V1, s2, g1, g2, g3⟩, hon, hO2, hsn, hS2⟩
    · have hll := i_likeliest (k := hd) hn0 (by omega) (fun x hx => hSM.2.2.2.1 hd x hhd hx)
      have hnn := i_nn hRB s2 (F := q_G0 (τ.1 2) n1 n2 n3 n4) hA hhd (fun x hx => s4 hd x hhd hx)
      have hw6 := k_w_lt hn0 (k_ll_w n0 (q_S (τ.1 2) n0 n1 n2 n3 n4 hd) n0)
      generalize hw : k_ll n0 (q_S (τ.1 2) n0 n1 n2 n3 n4 hd) n0 = w at hll hw6
      have hnn : f_X9_namedNow l1 w1 (τ.1 2) (nI hd) = some (nI w) := by rw [← hw]; exact hnn
      obtain ⟨u1, u2, u3, u4, t1, t2, t3⟩ := i_p83 (σ.2.1 0) (σ.2.1 1) (σ.2.1 2) (σ.2.1 3) (i := hd * 6 + w) (by omega) (hSM.2.2.2.1 hd w hhd hw6) hSM.2.2.1 (Nat.pos_of_ne_zero hA)
      obtain ⟨l2, w2, e1, e2, e3⟩ := p4_takes (r := 7) (o := 12 + 6 * hd + w) (by decide) (by omega) (by omega) (s2 _ (by omega) (by omega))
      obtain ⟨l4, w4, V4, k1, k2, k3, k4, k5⟩ := i_tellsHit (s2.set e2 e3) (by rw [p4_un (by decide), s3]; exact Nat.pos_of_ne_zero hA)
      rw [p4_us, p4_un (by decide), s3, s4 hd w hhd hw6] at k3 k4
      have hpe := hSM.1
      apply i_ex
      · unfold f_X8_named
        rw [i_has r2.2.1 (by omega), Option.bind_some, if_neg (by rw [p2_b, if_pos hh]; decide), show f_X8_anyWay (σ.2.2 0) (σ.1 2) (σ.2.2 1) (σ.1 3) (σ.2.2 2) (σ.1 4) (σ.2.2 3) (σ.1 5) (σ.2.2 4) (σ.1 6) (σ.2.2 5) (σ.2.2 6) (σ.2.2 29) (σ.2.2 30) (σ.2.2 31) (σ.2.2 32) (σ.2.2 33) (σ.1 24) (σ.1 25) (σ.1 26) (σ.1 27) (σ.1 28) (σ.1 29) (σ.1 30) (σ.1 31) (σ.2.1 4) (σ.2.1 5) (σ.2.1 6) (σ.1 32) (σ.2.1 10) (σ.2.1 11) (σ.2.1 12) (σ.2.1 13) (σ.1 42) (σ.2.1 14) (σ.2.2 39) (σ.2.2 40) 1 = _ from y1, Option.bind_some, if_neg (by rw [y2, p2_b, if_pos hA]; decide), hpe, hll, Option.bind_some, i_rgc, t1, Option.bind_some]
      · unfold f_X9_named
        rw [p2_isHead _ r2.2.2.1 hn2, Option.bind_some, if_neg (by rw [p2_b, if_pos hh]; decide), b1, Option.bind_some, show f_X9_shares (τ.1 0) (τ.1 1) (τ.1 2) (τ.1 9) li (-1) (-1) (τ.2.2 9) (-1) (τ.2.2 11) (-1) = _ from s1, Option.bind_some, p2_gd (by decide), if_neg (fun q => hA (w6.mp q)), hnn, Option.bind_some, i_rg, show f_X9_takes l1 w1 7 (nI (12 + 6 * hd + w)) = _ from e1, Option.bind_some, k1, Option.bind_some]
      · exact ⟨rfl, ⟨n0, n1, n2, n3, n4, hRB, Or.inr ⟨d, d2, d3, d4, by rw [← hpe]; exact hSM⟩⟩, hR, hK0, hK1, hT, i_Fmk k2 k3 k4 t2 t3 (Nat.pos_of_ne_zero hA), hon, hO2, hsn, hS2⟩
  · apply i_ex
    · unfold f_X8_named
      rw [i_has r2.2.1 (by omega), Option.bind_some, if_pos (p2_b0.mpr hh), p2_refused2, Option.bind_some]
    · unfold f_X9_named
      rw [p2_isHead _ r2.2.2.1 hn2, Option.bind_some, if_pos (p2_b0.mpr hh), p2_bad, Option.bind_some]
    · exact ⟨rfl, ⟨n0, n1, n2, n3, n4, hRB, hsm⟩, i_Rup hR 0 (by decide), hK0, hK1, hT, hF, hO1, hO2, hS1, hS2⟩
