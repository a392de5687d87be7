/-! ASK, NEXT -/
theorem i_ask : ob_ask i_Inv := by
  intro σ τ p1 h
  obtain ⟨⟨n0, n1, n2, n3, n4, hRB, hsm⟩, hR, hK0, hK1, hT, hF, hO1, hO2, hS1, hS2⟩ := h
  obtain ⟨r0, r1, r2, r3, r4, rs, v0, v1, v2, v3, v4, v5⟩ := id hRB
  have hn0 := r0.1
  have hn1 := r1.1
  have hn2 := r2.1
  have hn3 := r3.1
  have hn4 := r4.1
  rcases p2_num p1 n2 (by omega) with ⟨hd, hhd, rfl⟩ | hh
  · have hh := i_has1 hhd (by omega)
    obtain ⟨y, y1, y2, ⟨d, d1, d2, d3, d4, hSM⟩, hon, hsn⟩ := i_any hRB hsm hO1 hS1 2 (by omega) (by omega)
    obtain ⟨V, hV, hV0, hV1, hV2⟩ := id hF
    obtain ⟨li, b1, b2⟩ := m_begins hRB (τ.1 10)
    obtain ⟨l1, w1, is1, V1, s1, s2, s3, s4, s5, s6, s7⟩ := m_worths hRB hV b2 (τ.1 9) (τ.2.2 9) (τ.2.2 11) hhd
    by_cases hA : q_A (τ.1 2) n0 n1 n2 n3 n4 = 0
    · rw [p2_bF (fun q => q hA)] at s1
      apply i_ex
      · unfold f_X8_ask
        rw [i_has r2.2.1 (by omega), Option.bind_some, if_neg (by rw [p2_b, if_pos hh]; decide), show f_X8_anyWay (σ.2.2 0) (σ.1 2) (σ.2.2 1) (σ.1 3) (σ.2.2 2) (σ.1 4) (σ.2.2 3) (σ.1 5) (σ.2.2 4) (σ.1 6) (σ.2.2 5) (σ.2.2 6) (σ.2.2 29) (σ.2.2 30) (σ.2.2 31) (σ.2.2 32) (σ.2.2 33) (σ.1 24) (σ.1 25) (σ.1 26) (σ.1 27) (σ.1 28) (σ.1 29) (σ.1 30) (σ.1 31) (σ.2.1 4) (σ.2.1 5) (σ.2.1 6) (σ.1 32) (σ.2.1 10) (σ.2.1 11) (σ.2.1 12) (σ.2.1 13) (σ.1 42) (σ.2.1 14) (σ.2.2 39) (σ.2.2 40) 2 = _ from y1, Option.bind_some, if_pos (by rw [y2, p2_b, if_neg (fun q => q hA)]), i_no, Option.bind_some]
      · unfold f_X9_ask
        rw [p2_isHead _ r2.2.2.1 hn2, Option.bind_some, if_neg (by rw [p2_b, if_pos hh]; decide), b1, Option.bind_some, s1, Option.bind_some, if_pos rfl, p2_no, Option.bind_some]
      · exact ⟨rfl, ⟨n0, n1, n2, n3, n4, hRB, Or.inr ⟨d, d2, d3, d4, hSM⟩⟩, i_Rup hR 1 (by decide), hK0, hK1, hT, ⟨V1, s2, by rw [s4]; exact hV0, by rw [s5]; exact hV1, by rw [s5]; exact hV2⟩, hon, hO2, hsn, hS2⟩
    · rw [p2_bT hA] at s1
      have hd2 : d = 2 := by omega
      obtain ⟨wo', un', wr', gu', mo', an', c1, c2, c3⟩ := i_weigh hRB (σ.2.1 26) (σ.2.1 28) (σ.2.1 29) (σ.2.1 30) (σ.2.1 31) y.2.2.2.2.2.2.2.2.2.2.2.2.2.2.2.2.2.2.2.2.2.1 (σ.2.1 15) y.2.2.2.2.2.2.2.2.2.2.2.2.2.2.2.2.2.2.2.1 y.2.2.2.2.2.2.2.2.2.2.2.2.2.2.2.2.2.2.2.2.1 hhd hSM.1 hSM.2.1 hSM.2.2.1 hSM.2.2.2.1 (hSM.2.2.2.2.2.2 hd2)
      have hJ : ∃ l2 w2 V2, (if (τ.1 2) (cx_ix 0) = 0 then Option.bind (f_X9_sets l1 w1 9 0) (fun u20 => f_X9_ask_J46 (τ.1 2) (τ.1 6) (-1) (-1) (-1) u20.1 u20.2 is1 li) else f_X9_ask_J46 (τ.1 2) (τ.1 6) (-1) (-1) (-1) l1 w1 is1 li) = some (1, -1, -1, -1, l2, w2, τ.1 6, is1, li) ∧ p4_S l2 w2 V2 ∧ V2 0 = q_wv (τ.1 2) n0 n1 n2 n3 n4 hd / Nat.gcd (q_wv (τ.1 2) n0 n1 n2 n3 n4 hd) (q_un (τ.1 2) n0 n1 n2 n3 n4) ∧ V2 1 = q_un (τ.1 2) n0 n1 n2 n3 n4 / Nat.gcd (q_wv (τ.1 2) n0 n1 n2 n3 n4 hd) (q_un (τ.1 2) n0 n1 n2 n3 n4) ∧ 0 < q_un (τ.1 2) n0 n1 n2 n3 n4 := by
        unfold f_X9_ask_J46
        rw [show (τ.1 2) (cx_ix 0) = nI n0 from r0.2.2.1]
        by_cases h0 : n0 = 0
        · obtain ⟨l2, w2, g1, g2, g3⟩ := p4_sets (l := l1) (w := w1) (r := 9) (v := 0) (by decide) (by decide)
          have S2 := s2.set g2 g3
          obtain ⟨l3, w3, V3, k1, k2, k3, k4, k5⟩ := m_tellsW hRB S2 (Or.inl rfl) p4_us (by rw [p4_un (by decide)]; exact s3) hA
          rw [if_pos (by rw [h0]; rfl), show f_X9_sets l1 w1 9 0 = _ from g1, Option.bind_some, show f_X9_tellsWorth l2 w2 (τ.1 2) 9 = _ from k1, Option.bind_some]
          refine ⟨l3, w3, V3, rfl, k2, ?_, ?_, k5⟩
          · rw [k3, show q_wv (τ.1 2) n0 n1 n2 n3 n4 hd = 0 from if_pos h0]
          · rw [k4, show q_wv (τ.1 2) n0 n1 n2 n3 n4 hd = 0 from if_pos h0]
        · obtain ⟨l3, w3, V3, k1, k2, k3, k4, k5⟩ := m_tellsW hRB s2 (Or.inl rfl) (s7 hA) s3 hA
          rw [if_neg (nI_ne0 (by omega) (by omega)), show f_X9_tellsWorth l1 w1 (τ.1 2) 9 = _ from k1, Option.bind_some]
          refine ⟨l3, w3, V3, rfl, k2, ?_, ?_, k5⟩
          · rw [k3, show q_wv (τ.1 2) n0 n1 n2 n3 n4 hd = _ from if_neg h0]
          · rw [k4, show q_wv (τ.1 2) n0 n1 n2 n3 n4 hd = _ from if_neg h0]
      obtain ⟨l2, w2, V2, j1, j2, j3, j4, j5⟩ := hJ
      obtain ⟨u1, u2, u3, u4, e1, e2, e3⟩ := p5_set (n := 4) (n' := 4) (i := 0) (j := 0) (σ.2.1 0) (σ.2.1 1) (σ.2.1 2) (σ.2.1 3) (by decide) (by decide) (by decide) (by decide) c2 c3 j5
      apply i_ex
      · unfold f_X8_ask
        rw [i_has r2.2.1 (by omega), Option.bind_some, if_neg (by rw [p2_b, if_pos hh]; decide), show f_X8_anyWay (σ.2.2 0) (σ.1 2) (σ.2.2 1) (σ.1 3) (σ.2.2 2) (σ.1 4) (σ.2.2 3) (σ.1 5) (σ.2.2 4) (σ.1 6) (σ.2.2 5) (σ.2.2 6) (σ.2.2 29) (σ.2.2 30) (σ.2.2 31) (σ.2.2 32) (σ.2.2 33) (σ.1 24) (σ.1 25) (σ.1 26) (σ.1 27) (σ.1 28) (σ.1 29) (σ.1 30) (σ.1 31) (σ.2.1 4) (σ.2.1 5) (σ.2.1 6) (σ.1 32) (σ.2.1 10) (σ.2.1 11) (σ.2.1 12) (σ.2.1 13) (σ.1 42) (σ.2.1 14) (σ.2.2 39) (σ.2.2 40) 2 = _ from y1, Option.bind_some, if_neg (by rw [y2, p2_b, if_pos hA]; decide), c1, Option.bind_some, show f_X2_set (σ.2.1 0) (σ.2.1 1) (σ.2.1 2) (σ.2.1 3) 4 wo' 0 4 un' 0 = _ from e1, Option.bind_some]
      · unfold f_X9_ask
        rw [p2_isHead _ r2.2.2.1 hn2, Option.bind_some, if_neg (by rw [p2_b, if_pos hh]; decide), b1, Option.bind_some, s1, Option.bind_some, if_neg (show ¬ (1 : Int32) = 0 by decide), p2_gd (by decide)]
        exact j1
      · exact ⟨rfl, ⟨n0, n1, n2, n3, n4, hRB, Or.inr ⟨d, d2, d3, d4, hSM⟩⟩, hR, hK0, hK1, hT, i_Fmk j2 j3 j4 e2 e3 j5, hon, hO2, hsn, hS2⟩
  · apply i_ex
    · unfold f_X8_ask
      rw [i_has r2.2.1 (by omega), Option.bind_some, if_pos (p2_b0.mpr hh), p2_refused2, Option.bind_some]
    · unfold f_X9_ask
      rw [p2_isHead _ r2.2.2.1 hn2, Option.bind_some, if_pos (p2_b0.mpr hh), p2_bad, Option.bind_some]
    · exact ⟨rfl, ⟨n0, n1, n2, n3, n4, hRB, hsm⟩, i_Rup hR 0 (by decide), hK0, hK1, hT, hF, hO1, hO2, hS1, hS2⟩
/-- without a head there is one way -/
theorem q_A_none {bk : Nat → Int32} {n0 n1 n3 n4 : Nat} (hB : q_BK bk n0 n1 0 n3 n4) : q_A bk n0 n1 0 n3 n4 ≠ 0 := by
  obtain ⟨b0, b1, b2, b3, b4, e0, e1, e2, e3, e4, v0, v1, v2, v3, v4, v5⟩ := id hB
  have h3 : n3 = 0 := by
    rcases Nat.eq_zero_or_pos n3 with q | q
    · exact q
    · have := (k_name_spec (v3 0 q)).2.2.2.1
      omega
  have h4 : n4 = 0 := by
    rcases Nat.eq_zero_or_pos n4 with q | q
    · exact q
    · have := (k_join_spec (by decide) (v4 0 q)).2.1
      omega
  subst h3
  subst h4
  have e : q_A bk n0 n1 0 0 0 = p6_pr n1 (p6_pf (k_hp bk) (q_L bk (q_fy bk n1 false 0 0)) (q_yc bk n1 false 0) (q_fy bk n1 false 0 0) 0 false 0 0 q_0) * 1 * 1 := rfl
  rw [e, Nat.mul_one, Nat.mul_one]
  have : 1 ≤ p6_pr n1 (p6_pf (k_hp bk) (q_L bk (q_fy bk n1 false 0 0)) (q_yc bk n1 false 0) (q_fy bk n1 false 0 0) 0 false 0 0 q_0) := p6_pr_pos (fun i hi => by
    have : p6_pf (k_hp bk) (q_L bk (q_fy bk n1 false 0 0)) (q_yc bk n1 false 0) (q_fy bk n1 false 0 0) 0 false 0 0 q_0 i = p6_PS (k_hp bk) (q_L bk (q_fy bk n1 false 0 0)) (q_yc bk n1 false 0) 0 q_0 i := if_neg (fun q => by cases q)
    rw [this, p6_PS_empty (fun e he => by omega)]
    unfold q_yc
    rw [if_pos hi, if_neg (fun q => absurd q.1 (by decide))]
    omega)
  omega
/-- the dearest of h heads: who, and how dear -/
def k_dr (v : Nat → Nat) : Nat → Nat × Nat
  | 0 => (0, 0)
  | h + 1 => if h = 0 ∨ (k_dr v h).2 < v h then (h, v h) else k_dr v h
theorem k_dr_lt (v : Nat → Nat) : ∀ h, (k_dr v h).1 ≤ h := by
  intro h
  induction h with
  | zero => exact Nat.le_refl _
  | succ h ih =>
    rw [k_dr]
    split
    · exact Nat.le_succ _
    · omega
theorem i_next : ob_next i_Inv := by
  intro σ τ h
  obtain ⟨⟨n0, n1, n2, n3, n4, hRB, hsm⟩, hR, hK0, hK1, hT, hF, hO1, hO2, hS1, hS2⟩ := h
  obtain ⟨r0, r1, r2, r3, r4, rs, v0, v1, v2, v3, v4, v5⟩ := id hRB
  have hn0 := r0.1
  have hn1 := r1.1
  have hn2 := r2.1
  have hn3 := r3.1
  have hn4 := r4.1
  obtain ⟨V, hV, hV0, hV1, hV2⟩ := id hF
  obtain ⟨li, b1, b2⟩ := m_begins hRB (τ.1 10)
  by_cases h2 : n2 = 0
  · subst h2
    obtain ⟨l1, w1, is1, V1, s1, s2, s3, s4, s5⟩ := m_sums hRB b2 (i_LM0 hRB (τ.2.2 9) (τ.2.2 11)) (τ.1 0) (τ.1 1) (τ.1 9) V hV 0 0 0 (by omega) (fun q => by omega) (fun q => by omega) (fun q => by omega)
    have s3' : V1 6 = q_A (τ.1 2) n0 n1 0 n3 n4 := s3
    have w6 := i_w6 s2 (r := 6) (by decide) (by decide)
    have hA := q_A_none (q_BK_of hRB)
    apply i_ex
    · unfold f_X8_next
      rw [if_pos (by rw [r2.2.1]; rfl)]
    · unfold f_X9_next
      rw [b1, Option.bind_some, p2_gd (by decide), if_pos (show (τ.1 2) (cx_ix 2) = 0 from r2.2.2.1), show f_X9_sums (τ.1 0) (τ.1 1) (τ.1 2) (τ.1 9) li (-1) (-1) (τ.2.2 9) (-1) (τ.2.2 11) 0 0 0 = _ from s1, Option.bind_some, p2_gd (by decide), if_neg (show ¬ w1 (cx_ix 6) = 0 from fun q => hA (s3'.symm.trans (w6.mp q)))]
    · exact ⟨rfl, ⟨n0, n1, 0, n3, n4, hRB, hsm⟩, hR, hK0, hK1, hT, ⟨V1, s2, by rw [s5 0 (by decide) (by decide) (by decide) (by decide)]; exact hV0, by rw [s5 1 (by decide) (by decide) (by decide) (by decide)]; exact hV1, by rw [s5 1 (by decide) (by decide) (by decide) (by decide)]; exact hV2⟩, hO1, hO2, hS1, hS2⟩
  · obtain ⟨y, y1, y2, ⟨d, d1, d2, d3, d4, hSM⟩, hon, hsn⟩ := i_any hRB hsm hO1 hS1 2 (by omega) (by omega)
    have hz2 : ¬ σ.2.2 3 = 0 := by rw [r2.2.1]; exact nI_ne0 (by omega) (by omega)
    have hb2 : (τ.1 2) (cx_ix 2) = nI n2 := r2.2.2.1
    have hb2' : ¬ (τ.1 2) (cx_ix 2) = 0 := by rw [hb2]; exact nI_ne0 (by omega) (by omega)
    by_cases hA : q_A (τ.1 2) n0 n1 n2 n3 n4 = 0
    · obtain ⟨l1, w1, is1, V1, s1, s2, s3, s4, s5, s6, s7⟩ := m_worths hRB hV b2 (τ.1 9) (τ.2.2 9) (τ.2.2 11) (show 0 < n2 by omega)
      rw [p2_bF (fun q => q hA)] at s1
      have hL : ∀ m, f_X9_next_L43w (τ.1 2) (τ.1 6) (τ.2.2 0) (τ.2.2 9) (τ.2.2 11) (-1) (-1) (-1) li (m + 1) (τ.1 0) (τ.1 1) (τ.1 9) (-1) 0 = some (-3, -1, -1, -1, l1, w1, p2_rf (τ.1 6) (τ.2.2 0) 1, is1, li) := by
        intro m
        show f_X9_next_L43 (τ.1 2) (τ.1 6) (τ.2.2 0) (τ.2.2 9) (τ.2.2 11) (-1) (-1) (-1) li (f_X9_next_L43w (τ.1 2) (τ.1 6) (τ.2.2 0) (τ.2.2 9) (τ.2.2 11) (-1) (-1) (-1) li m) (τ.1 0) (τ.1 1) (τ.1 9) (-1) 0 = _
        unfold f_X9_next_L43
        rw [p2_gd (by decide), if_neg (show ¬ (τ.1 2) (cx_ix 2) ≤ 0 by rw [hb2]; exact nI_nle (by omega) (by omega)), show f_X9_worths (τ.1 0) (τ.1 1) (τ.1 2) (τ.1 9) li (-1) (-1) (τ.2.2 9) (-1) (τ.2.2 11) 0 = _ from s1, Option.bind_some, if_pos rfl, p2_no, Option.bind_some]
      have hL := hL 9999999999
      apply i_ex
      · unfold f_X8_next
        rw [if_neg hz2, show f_X8_anyWay (σ.2.2 0) (σ.1 2) (σ.2.2 1) (σ.1 3) (σ.2.2 2) (σ.1 4) (σ.2.2 3) (σ.1 5) (σ.2.2 4) (σ.1 6) (σ.2.2 5) (σ.2.2 6) (σ.2.2 29) (σ.2.2 30) (σ.2.2 31) (σ.2.2 32) (σ.2.2 33) (σ.1 24) (σ.1 25) (σ.1 26) (σ.1 27) (σ.1 28) (σ.1 29) (σ.1 30) (σ.1 31) (σ.2.1 4) (σ.2.1 5) (σ.2.1 6) (σ.1 32) (σ.2.1 10) (σ.2.1 11) (σ.2.1 12) (σ.2.1 13) (σ.1 42) (σ.2.1 14) (σ.2.2 39) (σ.2.2 40) 2 = _ from y1, Option.bind_some, if_pos (by rw [y2, p2_b, if_neg (fun q => q hA)]), i_no, Option.bind_some]
      · unfold f_X9_next
        rw [b1, Option.bind_some, p2_gd (by decide), if_neg hb2']
        exact hL
      · exact ⟨rfl, ⟨n0, n1, n2, n3, n4, hRB, Or.inr ⟨d, d2, d3, d4, hSM⟩⟩, i_Rup hR 1 (by decide), hK0, hK1, hT, ⟨V1, s2, by rw [s4]; exact hV0, by rw [s5]; exact hV1, by rw [s5]; exact hV2⟩, hon, hO2, hsn, hS2⟩
    · have hd2 : d = 2 := by omega
      -- the class
      have cl : ∀ (r h m : Nat) (wo de un wr gu mo an : Nat → Int64) (x1 : Int32), h + r = n2 → r < m → (0 < h → x1 = nI (k_dr (q_wv (τ.1 2) n0 n1 n2 n3 n4) h).1 ∧ p3_N de 0 (k_dr (q_wv (τ.1 2) n0 n1 n2 n3 n4) h).2 ∧ p3_N un 0 (q_un (τ.1 2) n0 n1 n2 n3 n4)) → ∃ wo' de' un' wr' gu' mo' an', f_X0_findDearest_L4w (σ.1 2) (σ.2.2 1) (σ.2.2 3) 5184 y.2.2.2.2.2.2.2.2.2.2.2.2.2.2.2.2.2.2.2.2.2.1 y.2.2.2.2.2.2.2.2.2.2.2.2.2.2.2.2.2.2.2.2.2.2.1 y.2.2.2.2.2.2.2.2.2.2.2.2.2.2.2.2.2.2.2.2.2.2.2.1 y.2.2.2.2.2.2.2.2.2.2.2.2.2.2.2.2.2.2.2.1 y.2.2.2.2.2.2.2.2.2.2.2.2.2.2.2.2.2.2.2.2.1 m wo de un wr gu mo an x1 (nI h) = some (nI (k_dr (q_wv (τ.1 2) n0 n1 n2 n3 n4) n2).1, wo', de', un', wr', gu', mo', an') ∧ p3_N de' 0 (k_dr (q_wv (τ.1 2) n0 n1 n2 n3 n4) n2).2 ∧ p3_N un' 0 (q_un (τ.1 2) n0 n1 n2 n3 n4) := by
        intro r
        induction r with
        | zero =>
          intro h m wo de un wr gu mo an x1 g1 g2 g3
          obtain ⟨m, rfl⟩ : ∃ j, m = j + 1 := ⟨m - 1, by omega⟩
          obtain rfl : h = n2 := by omega
          obtain ⟨k1, k2, k3⟩ := g3 (by omega)
          refine ⟨wo, de, un, wr, gu, mo, an, ?_, k2, k3⟩
          show f_X0_findDearest_L4 (σ.1 2) (σ.2.2 1) (σ.2.2 3) 5184 y.2.2.2.2.2.2.2.2.2.2.2.2.2.2.2.2.2.2.2.2.2.1 y.2.2.2.2.2.2.2.2.2.2.2.2.2.2.2.2.2.2.2.2.2.2.1 y.2.2.2.2.2.2.2.2.2.2.2.2.2.2.2.2.2.2.2.2.2.2.2.1 y.2.2.2.2.2.2.2.2.2.2.2.2.2.2.2.2.2.2.2.1 y.2.2.2.2.2.2.2.2.2.2.2.2.2.2.2.2.2.2.2.2.1 (f_X0_findDearest_L4w (σ.1 2) (σ.2.2 1) (σ.2.2 3) 5184 y.2.2.2.2.2.2.2.2.2.2.2.2.2.2.2.2.2.2.2.2.2.1 y.2.2.2.2.2.2.2.2.2.2.2.2.2.2.2.2.2.2.2.2.2.2.1 y.2.2.2.2.2.2.2.2.2.2.2.2.2.2.2.2.2.2.2.2.2.2.2.1 y.2.2.2.2.2.2.2.2.2.2.2.2.2.2.2.2.2.2.2.1 y.2.2.2.2.2.2.2.2.2.2.2.2.2.2.2.2.2.2.2.2.1 m) wo de un wr gu mo an x1 (nI h) = _
          unfold f_X0_findDearest_L4
          rw [if_pos (by rw [r2.2.1]; exact nI_le (by omega) (by omega)), k1]
        | succ r ih =>
          intro h m wo de un wr gu mo an x1 g1 g2 g3
          obtain ⟨m, rfl⟩ : ∃ j, m = j + 1 := ⟨m - 1, by omega⟩
          obtain ⟨wo', un', wr', gu', mo', an', c1, c2, c3⟩ := i_weigh hRB wo un wr gu mo y.2.2.2.2.2.2.2.2.2.2.2.2.2.2.2.2.2.2.2.2.2.1 an y.2.2.2.2.2.2.2.2.2.2.2.2.2.2.2.2.2.2.2.1 y.2.2.2.2.2.2.2.2.2.2.2.2.2.2.2.2.2.2.2.2.1 (show h < n2 by omega) hSM.1 hSM.2.1 hSM.2.2.1 hSM.2.2.2.1 (hSM.2.2.2.2.2.2 hd2)
          obtain ⟨de1, e1, e2, e3⟩ := p3_copy (n := 4) (i := 0) (n' := 4) (j := 0) de (by decide) (by decide) (by decide) (by decide) c2
          show ∃ wo' de' un' wr' gu' mo' an', f_X0_findDearest_L4 (σ.1 2) (σ.2.2 1) (σ.2.2 3) 5184 y.2.2.2.2.2.2.2.2.2.2.2.2.2.2.2.2.2.2.2.2.2.1 y.2.2.2.2.2.2.2.2.2.2.2.2.2.2.2.2.2.2.2.2.2.2.1 y.2.2.2.2.2.2.2.2.2.2.2.2.2.2.2.2.2.2.2.2.2.2.2.1 y.2.2.2.2.2.2.2.2.2.2.2.2.2.2.2.2.2.2.2.1 y.2.2.2.2.2.2.2.2.2.2.2.2.2.2.2.2.2.2.2.2.1 (f_X0_findDearest_L4w (σ.1 2) (σ.2.2 1) (σ.2.2 3) 5184 y.2.2.2.2.2.2.2.2.2.2.2.2.2.2.2.2.2.2.2.2.2.1 y.2.2.2.2.2.2.2.2.2.2.2.2.2.2.2.2.2.2.2.2.2.2.1 y.2.2.2.2.2.2.2.2.2.2.2.2.2.2.2.2.2.2.2.2.2.2.2.1 y.2.2.2.2.2.2.2.2.2.2.2.2.2.2.2.2.2.2.2.1 y.2.2.2.2.2.2.2.2.2.2.2.2.2.2.2.2.2.2.2.2.1 m) wo de un wr gu mo an x1 (nI h) = _ ∧ _
          unfold f_X0_findDearest_L4 f_X0_findDearest_J43 f_X0_findDearest_J58
          rw [if_neg (by rw [r2.2.1]; exact nI_ge (by omega) (by omega)), c1, Option.bind_some, show f_X3_copy 4 de 0 4 wo' 0 = _ from e1, Option.bind_some, nI_1]
          by_cases c : h = 0
          · rw [if_pos (by rw [c]; rfl)]
            exact ih (h + 1) m _ _ _ _ _ _ _ _ (by omega) (by omega) (fun _ => by rw [k_dr, if_pos (Or.inl c)]; exact ⟨rfl, e3, c3⟩)
          · obtain ⟨k1, k2, k3⟩ := g3 (by omega)
            rw [if_neg (nI_ne0 (by omega) (by omega)), show f_X3_compare 4 wo' 0 4 de 0 = _ from p3_compare (i := 0) (j := 0) (by decide) (by decide) (by decide) (by decide) c2 k2, Option.bind_some]
            by_cases q : (k_dr (q_wv (τ.1 2) n0 n1 n2 n3 n4) h).2 < q_wv (τ.1 2) n0 n1 n2 n3 n4 h
            · rw [if_neg (fun z => i_cmpLe.mp z q)]
              exact ih (h + 1) m _ _ _ _ _ _ _ _ (by omega) (by omega) (fun _ => by rw [k_dr, if_pos (Or.inr q)]; exact ⟨rfl, e3, c3⟩)
            · rw [if_pos (i_cmpLe.mpr q)]
              exact ih (h + 1) m _ _ _ _ _ _ _ _ (by omega) (by omega) (fun _ => by rw [k_dr, if_neg (fun z => by rcases z with z | z; exact c z; exact q z)]; exact ⟨k1, k2, c3⟩)
      -- the reference
      have ml : ∀ (r h m : Nat) (l w is : Nat → Int32) (V1 : Nat → Nat) (x1 : Int32), h + r = n2 → r < m → p4_S l w V1 → (h = 0 → x1 = -1) → (0 < h → x1 = nI (k_dr (q_wv (τ.1 2) n0 n1 n2 n3 n4) h).1 ∧ V1 10 = (k_dr (q_wv (τ.1 2) n0 n1 n2 n3 n4) h).2 ∧ V1 6 = q_A (τ.1 2) n0 n1 n2 n3 n4) → ∃ l' w' is' V', f_X9_next_L43w (τ.1 2) (τ.1 6) (τ.2.2 0) (τ.2.2 9) (τ.2.2 11) (-1) (-1) (-1) li m l w is x1 (nI h) = some (nI (k_dr (q_wv (τ.1 2) n0 n1 n2 n3 n4) n2).1, -1, -1, -1, l', w', τ.1 6, is', li) ∧ p4_S l' w' V' ∧ V' 0 = (k_dr (q_wv (τ.1 2) n0 n1 n2 n3 n4) n2).2 / Nat.gcd (k_dr (q_wv (τ.1 2) n0 n1 n2 n3 n4) n2).2 (q_un (τ.1 2) n0 n1 n2 n3 n4) ∧ V' 1 = q_un (τ.1 2) n0 n1 n2 n3 n4 / Nat.gcd (k_dr (q_wv (τ.1 2) n0 n1 n2 n3 n4) n2).2 (q_un (τ.1 2) n0 n1 n2 n3 n4) ∧ 0 < q_un (τ.1 2) n0 n1 n2 n3 n4 := by
        intro r
        induction r with
        | zero =>
          intro h m l w is V1 x1 g1 g2 g3 g4 g5
          obtain ⟨m, rfl⟩ : ∃ j, m = j + 1 := ⟨m - 1, by omega⟩
          obtain rfl : h = n2 := by omega
          obtain ⟨k1, k2, k3⟩ := g5 (by omega)
          obtain ⟨l3, w3, V3, j1, j2, j3⟩ := m_tellsW hRB g3 (Or.inr rfl) k2 k3 hA
          refine ⟨l3, w3, is, V3, ?_, j2, j3⟩
          show f_X9_next_L43 (τ.1 2) (τ.1 6) (τ.2.2 0) (τ.2.2 9) (τ.2.2 11) (-1) (-1) (-1) li (f_X9_next_L43w (τ.1 2) (τ.1 6) (τ.2.2 0) (τ.2.2 9) (τ.2.2 11) (-1) (-1) (-1) li m) l w is x1 (nI h) = _
          unfold f_X9_next_L43
          rw [p2_gd (by decide), if_pos (by rw [hb2]; exact nI_le (by omega) (by omega)), show f_X9_tellsWorth l w (τ.1 2) 10 = _ from j1, Option.bind_some, k1]
        | succ r ih =>
          intro h m l w is V1 x1 g1 g2 g3 g4 g5
          obtain ⟨m, rfl⟩ : ∃ j, m = j + 1 := ⟨m - 1, by omega⟩
          obtain ⟨l1, w1, is1, V2, s1, s2, s3, s4, s5, s6, s7⟩ := m_worths hRB g3 b2 is (τ.2.2 9) (τ.2.2 11) (show h < n2 by omega)
          rw [p2_bT hA] at s1
          have j82 : ∀ (l2 w2 : Nat → Int32) (V3 : Nat → Nat), p4_S l2 w2 V3 → V3 9 = q_wv (τ.1 2) n0 n1 n2 n3 n4 h → V3 10 = V2 10 → V3 6 = q_A (τ.1 2) n0 n1 n2 n3 n4 → ∃ l' w' is' V', f_X9_next_J82 x1 (nI h) (f_X9_next_L43w (τ.1 2) (τ.1 6) (τ.2.2 0) (τ.2.2 9) (τ.2.2 11) (-1) (-1) (-1) li m) l2 w2 is1 = some (nI (k_dr (q_wv (τ.1 2) n0 n1 n2 n3 n4) n2).1, -1, -1, -1, l', w', τ.1 6, is', li) ∧ p4_S l' w' V' ∧ V' 0 = (k_dr (q_wv (τ.1 2) n0 n1 n2 n3 n4) n2).2 / Nat.gcd (k_dr (q_wv (τ.1 2) n0 n1 n2 n3 n4) n2).2 (q_un (τ.1 2) n0 n1 n2 n3 n4) ∧ V' 1 = q_un (τ.1 2) n0 n1 n2 n3 n4 / Nat.gcd (k_dr (q_wv (τ.1 2) n0 n1 n2 n3 n4) n2).2 (q_un (τ.1 2) n0 n1 n2 n3 n4) ∧ 0 < q_un (τ.1 2) n0 n1 n2 n3 n4 := by
            intro l2 w2 V3 t1 t2 t3 t4
            have R9 := t1 9 (by decide) (by decide)
            rw [t2] at R9
            obtain ⟨l3, w3, c1, c2, c3⟩ := p4_takes (r := 10) (o := 9) (by decide) (by decide) (by decide) R9
            unfold f_X9_next_J82 f_X9_next_J98 f_X9_next_J108
            rw [show f_X9_takes l2 w2 10 9 = _ from c1, Option.bind_some, nI_1]
            by_cases c : h = 0
            · rw [if_pos (g4 c)]
              exact ih (h + 1) m l3 w3 is1 _ _ (by omega) (by omega) (t1.set c2 c3) (fun q => by omega) (fun _ => by rw [k_dr, if_pos (Or.inl c)]; exact ⟨rfl, p4_us, by rw [p4_un (by decide)]; exact t4⟩)
            · obtain ⟨k1, k2, k3⟩ := g5 (by omega)
              have hlt := k_dr_lt (q_wv (τ.1 2) n0 n1 n2 n3 n4) h
              have R10 := t1 10 (by decide) (by decide)
              rw [t3, s6, k2] at R10
              rw [if_neg (by rw [k1]; exact p2_nIne _ (by omega)), show f_X9_against l2 w2 9 10 = _ from p4_against (r := 9) (o := 10) (by decide) (by decide) R9 R10, Option.bind_some]
              by_cases q : (k_dr (q_wv (τ.1 2) n0 n1 n2 n3 n4) h).2 < q_wv (τ.1 2) n0 n1 n2 n3 n4 h
              · rw [if_neg (fun z => i_cmpLe.mp z q)]
                exact ih (h + 1) m l3 w3 is1 _ _ (by omega) (by omega) (t1.set c2 c3) (fun q => by omega) (fun _ => by rw [k_dr, if_pos (Or.inr q)]; exact ⟨rfl, p4_us, by rw [p4_un (by decide)]; exact t4⟩)
              · rw [if_pos (i_cmpLe.mpr q)]
                exact ih (h + 1) m l2 w2 is1 _ _ (by omega) (by omega) t1 (fun q => by omega) (fun _ => by rw [k_dr, if_neg (fun z => by rcases z with z | z; exact c z; exact q z)]; exact ⟨k1, by rw [t3, s6, k2], t4⟩)
          show ∃ l' w' is' V', f_X9_next_L43 (τ.1 2) (τ.1 6) (τ.2.2 0) (τ.2.2 9) (τ.2.2 11) (-1) (-1) (-1) li (f_X9_next_L43w (τ.1 2) (τ.1 6) (τ.2.2 0) (τ.2.2 9) (τ.2.2 11) (-1) (-1) (-1) li m) l w is x1 (nI h) = _ ∧ _
          unfold f_X9_next_L43
          rw [p2_gd (by decide), if_neg (by rw [hb2]; exact nI_ge (by omega) (by omega)), s1, Option.bind_some, if_neg (show ¬ (1 : Int32) = 0 by decide), p2_gd (by decide), show (τ.1 2) (cx_ix 0) = nI n0 from r0.2.2.1]
          by_cases h0 : n0 = 0
          · obtain ⟨l2, w2, c1, c2, c3⟩ := p4_sets (l := l1) (w := w1) (r := 9) (v := 0) (by decide) (by decide)
            rw [if_pos (by rw [h0]; rfl), show f_X9_sets l1 w1 9 0 = _ from c1, Option.bind_some]
            exact j82 l2 w2 _ (s2.set c2 c3) (by rw [p4_us, show q_wv (τ.1 2) n0 n1 n2 n3 n4 h = 0 from if_pos h0]) (p4_un (by decide)) (by rw [p4_un (by decide)]; exact s3)
          · rw [if_neg (nI_ne0 (by omega) (by omega))]
            exact j82 l1 w1 V2 s2 (by rw [s7 hA, show q_wv (τ.1 2) n0 n1 n2 n3 n4 h = _ from if_neg h0]) rfl s3
      obtain ⟨wo', de', un', wr', gu', mo', an', c1, c2, c3⟩ := cl n2 0 cx_N0 (σ.2.1 26) (σ.2.1 27) (σ.2.1 28) (σ.2.1 29) (σ.2.1 30) (σ.2.1 31) (σ.2.1 15) 0 (by omega) (by unfold cx_N0; omega) (fun q => by omega)
      obtain ⟨l', w', is', V', j1, j2, j3, j4, j5⟩ := ml n2 0 cx_N0 (τ.1 0) (τ.1 1) (τ.1 9) V (-1) (by omega) (by unfold cx_N0; omega) hV (fun _ => rfl) (fun q => by omega)
      obtain ⟨u1, u2, u3, u4, e1, e2, e3⟩ := p5_set (n := 4) (n' := 4) (i := 0) (j := 0) (σ.2.1 0) (σ.2.1 1) (σ.2.1 2) (σ.2.1 3) (by decide) (by decide) (by decide) (by decide) c2 c3 j5
      apply i_ex
      · unfold f_X8_next f_X0_findDearest
        rw [if_neg hz2, show f_X8_anyWay (σ.2.2 0) (σ.1 2) (σ.2.2 1) (σ.1 3) (σ.2.2 2) (σ.1 4) (σ.2.2 3) (σ.1 5) (σ.2.2 4) (σ.1 6) (σ.2.2 5) (σ.2.2 6) (σ.2.2 29) (σ.2.2 30) (σ.2.2 31) (σ.2.2 32) (σ.2.2 33) (σ.1 24) (σ.1 25) (σ.1 26) (σ.1 27) (σ.1 28) (σ.1 29) (σ.1 30) (σ.1 31) (σ.2.1 4) (σ.2.1 5) (σ.2.1 6) (σ.1 32) (σ.2.1 10) (σ.2.1 11) (σ.2.1 12) (σ.2.1 13) (σ.1 42) (σ.2.1 14) (σ.2.2 39) (σ.2.2 40) 2 = _ from y1, Option.bind_some, if_neg (by rw [y2, p2_b, if_pos hA]; decide), show f_X0_findDearest_L4w (σ.1 2) (σ.2.2 1) (σ.2.2 3) 5184 y.2.2.2.2.2.2.2.2.2.2.2.2.2.2.2.2.2.2.2.2.2.1 y.2.2.2.2.2.2.2.2.2.2.2.2.2.2.2.2.2.2.2.2.2.2.1 y.2.2.2.2.2.2.2.2.2.2.2.2.2.2.2.2.2.2.2.2.2.2.2.1 y.2.2.2.2.2.2.2.2.2.2.2.2.2.2.2.2.2.2.2.1 y.2.2.2.2.2.2.2.2.2.2.2.2.2.2.2.2.2.2.2.2.1 cx_N0 (σ.2.1 26) (σ.2.1 27) (σ.2.1 28) (σ.2.1 29) (σ.2.1 30) (σ.2.1 31) (σ.2.1 15) 0 0 = _ from c1, Option.bind_some, show f_X2_set (σ.2.1 0) (σ.2.1 1) (σ.2.1 2) (σ.2.1 3) 4 de' 0 4 un' 0 = _ from e1, Option.bind_some]
      · unfold f_X9_next
        rw [b1, Option.bind_some, p2_gd (by decide), if_neg hb2']
        exact j1
      · exact ⟨rfl, ⟨n0, n1, n2, n3, n4, hRB, Or.inr ⟨d, d2, d3, d4, hSM⟩⟩, hR, hK0, hK1, hT, i_Fmk j2 j3 j4 e2 e3 j5, hon, hO2, hsn, hS2⟩
