/-! SAME, NONEOF, FRIEND, OF: the obligations -/
theorem i_noneOf : ob_noneOf i_Inv := by
  intro σ τ p1 h
  obtain ⟨⟨n0, n1, n2, n3, n4, hRB, hsm⟩, hR, hK0, hK1, hT, hF, hO1, hO2, hS1, hS2⟩ := h
  obtain ⟨r0, r1, r2, r3, r4, rs, v0, v1, v2, v3, v4, v5⟩ := id hRB
  have hn0 := r0.1
  have hn1 := r1.1
  have hn2 := r2.1
  have hn3 := r3.1
  have hn4 := r4.1
  rcases p2_num p1 n0 (by omega) with ⟨p, hp, rfl⟩ | hh
  · have hh := i_has1 hp (by omega)
    obtain ⟨y, y1, y2, ⟨d, d1, d2, d3, d4, hSM⟩, hon, hsn⟩ := i_any hRB hsm hO1 hS1 1 (by omega) (by omega)
    obtain ⟨li, l1, w1, is1, m1, m2⟩ := i_asks hRB hF (τ.1 6) (τ.1 10) (τ.1 9) (τ.2.2 0) (τ.2.2 9) (τ.2.2 11) 2 p 0 (by omega) (fun q => by omega) (fun _ => by omega) (fun q => by omega)
    by_cases hA : q_A (τ.1 2) n0 n1 n2 n3 n4 = 0
    · obtain ⟨m3, m4⟩ := m1 hA
      apply i_ex
      · unfold f_X8_noneOf
        rw [i_has r0.2.1 (by omega), Option.bind_some, if_neg (by rw [p2_b, if_pos hh]; decide), show f_X8_anyWay (σ.2.2 0) (σ.1 2) (σ.2.2 1) (σ.1 3) (σ.2.2 2) (σ.1 4) (σ.2.2 3) (σ.1 5) (σ.2.2 4) (σ.1 6) (σ.2.2 5) (σ.2.2 6) (σ.2.2 29) (σ.2.2 30) (σ.2.2 31) (σ.2.2 32) (σ.2.2 33) (σ.1 24) (σ.1 25) (σ.1 26) (σ.1 27) (σ.1 28) (σ.1 29) (σ.1 30) (σ.1 31) (σ.2.1 4) (σ.2.1 5) (σ.2.1 6) (σ.1 32) (σ.2.1 10) (σ.2.1 11) (σ.2.1 12) (σ.2.1 13) (σ.1 42) (σ.2.1 14) (σ.2.2 39) (σ.2.2 40) 1 = _ from y1, Option.bind_some, if_pos (by rw [y2, p2_b, if_neg (fun q => q hA)]), i_no, Option.bind_some]
      · unfold f_X9_noneOf
        rw [p2_isPerson _ r0.2.2.1 hn0, Option.bind_some, if_neg (by rw [p2_b, if_pos hh]; decide), show f_X9_asks (τ.1 0) (τ.1 1) (τ.1 2) (τ.1 6) (τ.2.2 0) (τ.1 9) (τ.1 10) (τ.2.2 9) (τ.2.2 11) 2 (nI p) 0 = _ from m3, Option.bind_some]
      · exact ⟨rfl, ⟨n0, n1, n2, n3, n4, hRB, Or.inr ⟨d, d2, d3, d4, hSM⟩⟩, i_Rup hR 1 (by decide), hK0, hK1, hT, m4, hon, hO2, hsn, hS2⟩
    · obtain ⟨m3, V4, k2, k3, k4⟩ := m2 hA
      have hAl := i_A_lt hRB
      obtain ⟨a1, e1, e2⟩ := i_start (σ.2.1 15)
      obtain ⟨a2, f1, f2⟩ := i_crowds a1 (p := p) (by omega) hSM.2.2.2.2.1 e2
      have bd : p6_sm 32 (fun c => if c / 2 ^ p % 2 = 0 then q_C (τ.1 2) n0 n1 n2 n3 n4 c else 0) ≤ 32 * q_A (τ.1 2) n0 n1 n2 n3 n4 := by
        rw [← p6_sm_const]; exact p6_sm_le (fun i _ => by split; exact i_C_le _ _ _ _ _ _ _; exact Nat.zero_le _)
      obtain ⟨u1, u2, u3, u4, u5, t1, t2, t3⟩ := i_ansShare (σ.2.1 0) (σ.2.1 1) (σ.2.1 2) (σ.2.1 3) f2 (by decide) (i_P4_lt (by omega)) hSM.2.2.1 (Nat.pos_of_ne_zero hA)
      rw [i_none_sum (τ.1 2) n0 n1 n2 n3 n4 (by omega)] at t2 t3
      apply i_ex
      · unfold f_X8_noneOf
        rw [i_has r0.2.1 (by omega), Option.bind_some, if_neg (by rw [p2_b, if_pos hh]; decide), show f_X8_anyWay (σ.2.2 0) (σ.1 2) (σ.2.2 1) (σ.1 3) (σ.2.2 2) (σ.1 4) (σ.2.2 3) (σ.1 5) (σ.2.2 4) (σ.1 6) (σ.2.2 5) (σ.2.2 6) (σ.2.2 29) (σ.2.2 30) (σ.2.2 31) (σ.2.2 32) (σ.2.2 33) (σ.1 24) (σ.1 25) (σ.1 26) (σ.1 27) (σ.1 28) (σ.1 29) (σ.1 30) (σ.1 31) (σ.2.1 4) (σ.2.1 5) (σ.2.1 6) (σ.1 32) (σ.2.1 10) (σ.2.1 11) (σ.2.1 12) (σ.2.1 13) (σ.1 42) (σ.2.1 14) (σ.2.2 39) (σ.2.2 40) 1 = _ from y1, Option.bind_some, if_neg (by rw [y2, p2_b, if_pos hA]; decide), e1, Option.bind_some, f1, Option.bind_some, t1, Option.bind_some]
      · unfold f_X9_noneOf
        rw [p2_isPerson _ r0.2.2.1 hn0, Option.bind_some, if_neg (by rw [p2_b, if_pos hh]; decide), show f_X9_asks (τ.1 0) (τ.1 1) (τ.1 2) (τ.1 6) (τ.2.2 0) (τ.1 9) (τ.1 10) (τ.2.2 9) (τ.2.2 11) 2 (nI p) 0 = _ from m3, Option.bind_some]
      · exact ⟨rfl, ⟨n0, n1, n2, n3, n4, hRB, Or.inr ⟨d, d2, d3, d4, hSM⟩⟩, hR, hK0, hK1, hT, i_Fmk k2 k3 k4 t2 t3 (Nat.pos_of_ne_zero hA), hon, hO2, hsn, hS2⟩
  · apply i_ex
    · unfold f_X8_noneOf
      rw [i_has r0.2.1 (by omega), Option.bind_some, if_pos (p2_b0.mpr hh), p2_refused2, Option.bind_some]
    · unfold f_X9_noneOf
      rw [p2_isPerson _ r0.2.2.1 hn0, Option.bind_some, if_pos (p2_b0.mpr hh), p2_bad, Option.bind_some]
    · exact ⟨rfl, ⟨n0, n1, n2, n3, n4, hRB, hsm⟩, i_Rup hR 0 (by decide), hK0, hK1, hT, hF, hO1, hO2, hS1, hS2⟩
theorem i_of : ob_of i_Inv := by
  intro σ τ p1 p2 h
  obtain ⟨⟨n0, n1, n2, n3, n4, hRB, hsm⟩, hR, hK0, hK1, hT, hF, hO1, hO2, hS1, hS2⟩ := h
  obtain ⟨r0, r1, r2, r3, r4, rs, v0, v1, v2, v3, v4, v5⟩ := id hRB
  have hn0 := r0.1
  have hn1 := r1.1
  have hn2 := r2.1
  have hn3 := r3.1
  have hn4 := r4.1
  rcases p2_num p1 n2 (by omega) with ⟨hd, hhd, rfl⟩ | hh
  · have hh1 := i_has1 hhd (by omega)
    rcases p2_num p2 n0 (by omega) with ⟨p, hp, rfl⟩ | hh
    · have hh := i_has1 hp (by omega)
      obtain ⟨y, y1, y2, ⟨d, d1, d2, d3, d4, hSM⟩, hon, hsn⟩ := i_any hRB hsm hO1 hS1 2 (by omega) (by omega)
      obtain ⟨li, l1, w1, is1, m1, m2⟩ := i_asks hRB hF (τ.1 6) (τ.1 10) (τ.1 9) (τ.2.2 0) (τ.2.2 9) (τ.2.2 11) 4 hd p (by omega) (fun q => by omega) (fun q => by omega) (fun _ => ⟨hhd, by omega⟩)
      by_cases hA : q_A (τ.1 2) n0 n1 n2 n3 n4 = 0
      · obtain ⟨m3, m4⟩ := m1 hA
        apply i_ex
        · unfold f_X8_of
          rw [i_has r2.2.1 (by omega), Option.bind_some, if_neg (by rw [p2_b, if_pos hh1]; decide), i_has r0.2.1 (by omega), Option.bind_some, if_neg (by rw [p2_b, if_pos hh]; decide), show f_X8_anyWay (σ.2.2 0) (σ.1 2) (σ.2.2 1) (σ.1 3) (σ.2.2 2) (σ.1 4) (σ.2.2 3) (σ.1 5) (σ.2.2 4) (σ.1 6) (σ.2.2 5) (σ.2.2 6) (σ.2.2 29) (σ.2.2 30) (σ.2.2 31) (σ.2.2 32) (σ.2.2 33) (σ.1 24) (σ.1 25) (σ.1 26) (σ.1 27) (σ.1 28) (σ.1 29) (σ.1 30) (σ.1 31) (σ.2.1 4) (σ.2.1 5) (σ.2.1 6) (σ.1 32) (σ.2.1 10) (σ.2.1 11) (σ.2.1 12) (σ.2.1 13) (σ.1 42) (σ.2.1 14) (σ.2.2 39) (σ.2.2 40) 2 = _ from y1, Option.bind_some, if_pos (by rw [y2, p2_b, if_neg (fun q => q hA)]), i_no, Option.bind_some]
        · unfold f_X9_of
          rw [p2_isHead _ r2.2.2.1 hn2, Option.bind_some, if_neg (by rw [p2_b, if_pos hh1]; decide), p2_isPerson _ r0.2.2.1 hn0, Option.bind_some, if_neg (by rw [p2_b, if_pos hh]; decide), show f_X9_asks (τ.1 0) (τ.1 1) (τ.1 2) (τ.1 6) (τ.2.2 0) (τ.1 9) (τ.1 10) (τ.2.2 9) (τ.2.2 11) 4 (nI hd) (nI p) = _ from m3, Option.bind_some]
        · exact ⟨rfl, ⟨n0, n1, n2, n3, n4, hRB, Or.inr ⟨d, d2, d3, d4, hSM⟩⟩, i_Rup hR 1 (by decide), hK0, hK1, hT, m4, hon, hO2, hsn, hS2⟩
      · obtain ⟨m3, V4, k2, k3, k4⟩ := m2 hA
        have hAl := i_A_lt hRB
        have hPa := hSM.2.2.2.2.2.2 (by omega)
        obtain ⟨a1, e1, e2⟩ := i_start (σ.2.1 15)
        obtain ⟨a2, mi2, f1, f2⟩ := i_beside hRB a1 (σ.2.1 16) hhd hp hSM.2.2.2.1 hPa e2
        rw [Nat.zero_add, Nat.zero_add] at f2
        have bd := i_bs_le (τ.1 2) n0 n1 n2 n3 n4 hd p n2
        have bd2 : n2 * q_A (τ.1 2) n0 n1 n2 n3 n4 ≤ 6 * q_A (τ.1 2) n0 n1 n2 n3 n4 := Nat.mul_le_mul_right _ hn2
        obtain ⟨u1, u2, u3, u4, u5, t1, t2, t3⟩ := i_ansShare (σ.2.1 0) (σ.2.1 1) (σ.2.1 2) (σ.2.1 3) f2 (by omega) (i_P4_lt (by omega)) hSM.2.2.1 (Nat.pos_of_ne_zero hA)
        rw [i_bs_sum (τ.1 2) n0 n1 n2 n3 n4 (by omega)] at t2 t3
        apply i_ex
        · unfold f_X8_of
          rw [i_has r2.2.1 (by omega), Option.bind_some, if_neg (by rw [p2_b, if_pos hh1]; decide), i_has r0.2.1 (by omega), Option.bind_some, if_neg (by rw [p2_b, if_pos hh]; decide), show f_X8_anyWay (σ.2.2 0) (σ.1 2) (σ.2.2 1) (σ.1 3) (σ.2.2 2) (σ.1 4) (σ.2.2 3) (σ.1 5) (σ.2.2 4) (σ.1 6) (σ.2.2 5) (σ.2.2 6) (σ.2.2 29) (σ.2.2 30) (σ.2.2 31) (σ.2.2 32) (σ.2.2 33) (σ.1 24) (σ.1 25) (σ.1 26) (σ.1 27) (σ.1 28) (σ.1 29) (σ.1 30) (σ.1 31) (σ.2.1 4) (σ.2.1 5) (σ.2.1 6) (σ.1 32) (σ.2.1 10) (σ.2.1 11) (σ.2.1 12) (σ.2.1 13) (σ.1 42) (σ.2.1 14) (σ.2.2 39) (σ.2.2 40) 2 = _ from y1, Option.bind_some, if_neg (by rw [y2, p2_b, if_pos hA]; decide), e1, Option.bind_some, f1, Option.bind_some, t1, Option.bind_some]
        · unfold f_X9_of
          rw [p2_isHead _ r2.2.2.1 hn2, Option.bind_some, if_neg (by rw [p2_b, if_pos hh1]; decide), p2_isPerson _ r0.2.2.1 hn0, Option.bind_some, if_neg (by rw [p2_b, if_pos hh]; decide), show f_X9_asks (τ.1 0) (τ.1 1) (τ.1 2) (τ.1 6) (τ.2.2 0) (τ.1 9) (τ.1 10) (τ.2.2 9) (τ.2.2 11) 4 (nI hd) (nI p) = _ from m3, Option.bind_some]
        · exact ⟨rfl, ⟨n0, n1, n2, n3, n4, hRB, Or.inr ⟨d, d2, d3, d4, hSM⟩⟩, hR, hK0, hK1, hT, i_Fmk k2 k3 k4 t2 t3 (Nat.pos_of_ne_zero hA), hon, hO2, hsn, hS2⟩
    · apply i_ex
      · unfold f_X8_of f_X8_of_J28
        rw [i_has r2.2.1 (by omega), Option.bind_some, if_neg (by rw [p2_b, if_pos hh1]; decide), i_has r0.2.1 (by omega), Option.bind_some, if_pos (p2_b0.mpr hh), p2_refused2, Option.bind_some]
      · unfold f_X9_of f_X9_of_J26
        rw [p2_isHead _ r2.2.2.1 hn2, Option.bind_some, if_neg (by rw [p2_b, if_pos hh1]; decide), p2_isPerson _ r0.2.2.1 hn0, Option.bind_some, if_pos (p2_b0.mpr hh), p2_bad, Option.bind_some]
      · exact ⟨rfl, ⟨n0, n1, n2, n3, n4, hRB, hsm⟩, i_Rup hR 0 (by decide), hK0, hK1, hT, hF, hO1, hO2, hS1, hS2⟩
  · apply i_ex
    · unfold f_X8_of f_X8_of_J28
      rw [i_has r2.2.1 (by omega), Option.bind_some, if_pos (p2_b0.mpr hh), p2_refused2, Option.bind_some]
    · unfold f_X9_of f_X9_of_J26
      rw [p2_isHead _ r2.2.2.1 hn2, Option.bind_some, if_pos (p2_b0.mpr hh), p2_bad, Option.bind_some]
    · exact ⟨rfl, ⟨n0, n1, n2, n3, n4, hRB, hsm⟩, i_Rup hR 0 (by decide), hK0, hK1, hT, hF, hO1, hO2, hS1, hS2⟩
theorem i_friend : ob_friend i_Inv := by
  intro σ τ p1 h
  obtain ⟨⟨n0, n1, n2, n3, n4, hRB, hsm⟩, hR, hK0, hK1, hT, hF, hO1, hO2, hS1, hS2⟩ := h
  obtain ⟨r0, r1, r2, r3, r4, rs, v0, v1, v2, v3, v4, v5⟩ := id hRB
  have hn0 := r0.1
  have hn1 := r1.1
  have hn2 := r2.1
  have hn3 := r3.1
  have hn4 := r4.1
  rcases p2_num p1 n0 (by omega) with ⟨p, hp, rfl⟩ | hh
  · have hh := i_has1 hp (by omega)
    obtain ⟨y, y1, y2, ⟨d, d1, d2, d3, d4, hSM⟩, hon, hsn⟩ := i_any hRB hsm hO1 hS1 2 (by omega) (by omega)
    obtain ⟨li, l1, w1, is1, m1, m2⟩ := i_asks hRB hF (τ.1 6) (τ.1 10) (τ.1 9) (τ.2.2 0) (τ.2.2 9) (τ.2.2 11) 3 p 0 (by omega) (fun q => by omega) (fun _ => by omega) (fun q => by omega)
    by_cases hA : q_A (τ.1 2) n0 n1 n2 n3 n4 = 0
    · obtain ⟨m3, m4⟩ := m1 hA
      apply i_ex
      · unfold f_X8_friend
        rw [i_has r0.2.1 (by omega), Option.bind_some, if_neg (by rw [p2_b, if_pos hh]; decide), show f_X8_anyWay (σ.2.2 0) (σ.1 2) (σ.2.2 1) (σ.1 3) (σ.2.2 2) (σ.1 4) (σ.2.2 3) (σ.1 5) (σ.2.2 4) (σ.1 6) (σ.2.2 5) (σ.2.2 6) (σ.2.2 29) (σ.2.2 30) (σ.2.2 31) (σ.2.2 32) (σ.2.2 33) (σ.1 24) (σ.1 25) (σ.1 26) (σ.1 27) (σ.1 28) (σ.1 29) (σ.1 30) (σ.1 31) (σ.2.1 4) (σ.2.1 5) (σ.2.1 6) (σ.1 32) (σ.2.1 10) (σ.2.1 11) (σ.2.1 12) (σ.2.1 13) (σ.1 42) (σ.2.1 14) (σ.2.2 39) (σ.2.2 40) 2 = _ from y1, Option.bind_some, if_pos (by rw [y2, p2_b, if_neg (fun q => q hA)]), i_no, Option.bind_some]
      · unfold f_X9_friend
        rw [p2_isPerson _ r0.2.2.1 hn0, Option.bind_some, if_neg (by rw [p2_b, if_pos hh]; decide), show f_X9_asks (τ.1 0) (τ.1 1) (τ.1 2) (τ.1 6) (τ.2.2 0) (τ.1 9) (τ.1 10) (τ.2.2 9) (τ.2.2 11) 3 (nI p) 0 = _ from m3, Option.bind_some]
      · exact ⟨rfl, ⟨n0, n1, n2, n3, n4, hRB, Or.inr ⟨d, d2, d3, d4, hSM⟩⟩, i_Rup hR 1 (by decide), hK0, hK1, hT, m4, hon, hO2, hsn, hS2⟩
    · obtain ⟨m3, V4, k2, k3, k4⟩ := m2 hA
      have hAl := i_A_lt hRB
      have hPa := hSM.2.2.2.2.2.2 (by omega)
      have hG : Nat.gcd (p6_sm n2 (fun h => q_bs (τ.1 2) n0 n1 n2 n3 n4 h p n2)) (q_A (τ.1 2) n0 n1 n2 n3 n4) = Nat.gcd (p6_ws n0 (fun ω => q_G0 (τ.1 2) n1 n2 n3 n4 ω * k_ct (τ.1 2) n1 n2 3 p 0 ω) n2 0 q_0) (q_A (τ.1 2) n0 n1 n2 n3 n4) := by rw [i_friend_sum (τ.1 2) n0 n1 n2 n3 n4 (by omega)]
      have loop : ∀ (r h m : Nat) (a mi : Nat → Int64), h + r = n2 → r < m → p3_U a 0 (p6_sm h (fun h => q_bs (τ.1 2) n0 n1 n2 n3 n4 h p n2)) (h * (n2 * 1073741823)) → ∃ u1 u2 u3 u4 u5 u6, f_X8_friend_L48w (σ.1 1) (σ.1 4) (σ.2.2 3) (σ.2.1 0) (σ.2.1 1) (σ.2.1 2) (σ.2.1 3) (nI p) y.2.1 y.2.2.1 y.2.2.2.1 y.2.2.2.2.1 y.2.2.2.2.2.1 y.2.2.2.2.2.2.1 y.2.2.2.2.2.2.2.1 y.2.2.2.2.2.2.2.2.1 y.2.2.2.2.2.2.2.2.2.1 y.2.2.2.2.2.2.2.2.2.2.1 y.2.2.2.2.2.2.2.2.2.2.2.1 y.2.2.2.2.2.2.2.2.2.2.2.2.1 y.2.2.2.2.2.2.2.2.2.2.2.2.2.1 y.2.2.2.2.2.2.2.2.2.2.2.2.2.2.1 y.2.2.2.2.2.2.2.2.2.2.2.2.2.2.2.1 y.2.2.2.2.2.2.2.2.2.2.2.2.2.2.2.2.1 y.2.2.2.2.2.2.2.2.2.2.2.2.2.2.2.2.2.1 y.2.2.2.2.2.2.2.2.2.2.2.2.2.2.2.2.2.2.1 y.2.2.2.2.2.2.2.2.2.2.2.2.2.2.2.2.2.2.2.1 y.2.2.2.2.2.2.2.2.2.2.2.2.2.2.2.2.2.2.2.2.1 y.2.2.2.2.2.2.2.2.2.2.2.2.2.2.2.2.2.2.2.2.2.1 y.2.2.2.2.2.2.2.2.2.2.2.2.2.2.2.2.2.2.2.2.2.2.1 y.2.2.2.2.2.2.2.2.2.2.2.2.2.2.2.2.2.2.2.2.2.2.2.1 y.2.2.2.2.2.2.2.2.2.2.2.2.2.2.2.2.2.2.2.2.2.2.2.2.1 y.2.2.2.2.2.2.2.2.2.2.2.2.2.2.2.2.2.2.2.2.2.2.2.2.2.1 y.2.2.2.2.2.2.2.2.2.2.2.2.2.2.2.2.2.2.2.2.2.2.2.2.2.2 m a mi (nI h) = some (1, y.2.1, σ.1 1, u1, u2, u3, u4, y.2.2.1, y.2.2.2.1, y.2.2.2.2.1, y.2.2.2.2.2.1, y.2.2.2.2.2.2.1, y.2.2.2.2.2.2.2.1, y.2.2.2.2.2.2.2.2.1, y.2.2.2.2.2.2.2.2.2.1, y.2.2.2.2.2.2.2.2.2.2.1, y.2.2.2.2.2.2.2.2.2.2.2.1, y.2.2.2.2.2.2.2.2.2.2.2.2.1, y.2.2.2.2.2.2.2.2.2.2.2.2.2.1, y.2.2.2.2.2.2.2.2.2.2.2.2.2.2.1, y.2.2.2.2.2.2.2.2.2.2.2.2.2.2.2.1, y.2.2.2.2.2.2.2.2.2.2.2.2.2.2.2.2.1, y.2.2.2.2.2.2.2.2.2.2.2.2.2.2.2.2.2.1, y.2.2.2.2.2.2.2.2.2.2.2.2.2.2.2.2.2.2.1, y.2.2.2.2.2.2.2.2.2.2.2.2.2.2.2.2.2.2.2.1, y.2.2.2.2.2.2.2.2.2.2.2.2.2.2.2.2.2.2.2.2.1, y.2.2.2.2.2.2.2.2.2.2.2.2.2.2.2.2.2.2.2.2.2.1, y.2.2.2.2.2.2.2.2.2.2.2.2.2.2.2.2.2.2.2.2.2.2.1, y.2.2.2.2.2.2.2.2.2.2.2.2.2.2.2.2.2.2.2.2.2.2.2.1, y.2.2.2.2.2.2.2.2.2.2.2.2.2.2.2.2.2.2.2.2.2.2.2.2.1, y.2.2.2.2.2.2.2.2.2.2.2.2.2.2.2.2.2.2.2.2.2.2.2.2.2.1, y.2.2.2.2.2.2.2.2.2.2.2.2.2.2.2.2.2.2.2.2.2.2.2.2.2.2, u5, u6) ∧ p3_N u1 0 (p6_sm n2 (fun h => q_bs (τ.1 2) n0 n1 n2 n3 n4 h p n2) / Nat.gcd (p6_sm n2 (fun h => q_bs (τ.1 2) n0 n1 n2 n3 n4 h p n2)) (q_A (τ.1 2) n0 n1 n2 n3 n4)) ∧ p3_N u2 0 (q_A (τ.1 2) n0 n1 n2 n3 n4 / Nat.gcd (p6_sm n2 (fun h => q_bs (τ.1 2) n0 n1 n2 n3 n4 h p n2)) (q_A (τ.1 2) n0 n1 n2 n3 n4)) := by
        intro r
        induction r with
        | zero =>
          intro h m a mi h1 h2 h3
          obtain ⟨m, rfl⟩ : ∃ j, m = j + 1 := ⟨m - 1, by omega⟩
          obtain rfl : h = n2 := by omega
          have bd : p6_sm h (fun e => q_bs (τ.1 2) n0 n1 h n3 n4 e p h) ≤ h * (h * q_A (τ.1 2) n0 n1 h n3 n4) := by
            rw [← p6_sm_const]; exact p6_sm_le (fun i _ => i_bs_le _ _ _ _ _ _ _ _ _)
          have bd2 : h * (h * q_A (τ.1 2) n0 n1 h n3 n4) ≤ 6 * (6 * q_A (τ.1 2) n0 n1 h n3 n4) := Nat.mul_le_mul hn2 (Nat.mul_le_mul_right _ hn2)
          have bd3 : h * (h * 1073741823) ≤ 6 * (6 * 1073741823) := Nat.mul_le_mul hn2 (Nat.mul_le_mul_right _ hn2)
          obtain ⟨u1, u2, u3, u4, u5, t1, t2, t3⟩ := i_ansShare (σ.2.1 0) (σ.2.1 1) (σ.2.1 2) (σ.2.1 3) h3 (Nat.le_trans bd3 (by decide)) (i_P4_lt (by omega)) hSM.2.2.1 (Nat.pos_of_ne_zero hA)
          refine ⟨u1, u2, u3, u4, u5, mi, ?_, t2, t3⟩
          show f_X8_friend_L48 (σ.1 1) (σ.1 4) (σ.2.2 3) (σ.2.1 0) (σ.2.1 1) (σ.2.1 2) (σ.2.1 3) (nI p) y.2.1 y.2.2.1 y.2.2.2.1 y.2.2.2.2.1 y.2.2.2.2.2.1 y.2.2.2.2.2.2.1 y.2.2.2.2.2.2.2.1 y.2.2.2.2.2.2.2.2.1 y.2.2.2.2.2.2.2.2.2.1 y.2.2.2.2.2.2.2.2.2.2.1 y.2.2.2.2.2.2.2.2.2.2.2.1 y.2.2.2.2.2.2.2.2.2.2.2.2.1 y.2.2.2.2.2.2.2.2.2.2.2.2.2.1 y.2.2.2.2.2.2.2.2.2.2.2.2.2.2.1 y.2.2.2.2.2.2.2.2.2.2.2.2.2.2.2.1 y.2.2.2.2.2.2.2.2.2.2.2.2.2.2.2.2.1 y.2.2.2.2.2.2.2.2.2.2.2.2.2.2.2.2.2.1 y.2.2.2.2.2.2.2.2.2.2.2.2.2.2.2.2.2.2.1 y.2.2.2.2.2.2.2.2.2.2.2.2.2.2.2.2.2.2.2.1 y.2.2.2.2.2.2.2.2.2.2.2.2.2.2.2.2.2.2.2.2.1 y.2.2.2.2.2.2.2.2.2.2.2.2.2.2.2.2.2.2.2.2.2.1 y.2.2.2.2.2.2.2.2.2.2.2.2.2.2.2.2.2.2.2.2.2.2.1 y.2.2.2.2.2.2.2.2.2.2.2.2.2.2.2.2.2.2.2.2.2.2.2.1 y.2.2.2.2.2.2.2.2.2.2.2.2.2.2.2.2.2.2.2.2.2.2.2.2.1 y.2.2.2.2.2.2.2.2.2.2.2.2.2.2.2.2.2.2.2.2.2.2.2.2.2.1 y.2.2.2.2.2.2.2.2.2.2.2.2.2.2.2.2.2.2.2.2.2.2.2.2.2.2 (f_X8_friend_L48w (σ.1 1) (σ.1 4) (σ.2.2 3) (σ.2.1 0) (σ.2.1 1) (σ.2.1 2) (σ.2.1 3) (nI p) y.2.1 y.2.2.1 y.2.2.2.1 y.2.2.2.2.1 y.2.2.2.2.2.1 y.2.2.2.2.2.2.1 y.2.2.2.2.2.2.2.1 y.2.2.2.2.2.2.2.2.1 y.2.2.2.2.2.2.2.2.2.1 y.2.2.2.2.2.2.2.2.2.2.1 y.2.2.2.2.2.2.2.2.2.2.2.1 y.2.2.2.2.2.2.2.2.2.2.2.2.1 y.2.2.2.2.2.2.2.2.2.2.2.2.2.1 y.2.2.2.2.2.2.2.2.2.2.2.2.2.2.1 y.2.2.2.2.2.2.2.2.2.2.2.2.2.2.2.1 y.2.2.2.2.2.2.2.2.2.2.2.2.2.2.2.2.1 y.2.2.2.2.2.2.2.2.2.2.2.2.2.2.2.2.2.1 y.2.2.2.2.2.2.2.2.2.2.2.2.2.2.2.2.2.2.1 y.2.2.2.2.2.2.2.2.2.2.2.2.2.2.2.2.2.2.2.1 y.2.2.2.2.2.2.2.2.2.2.2.2.2.2.2.2.2.2.2.2.1 y.2.2.2.2.2.2.2.2.2.2.2.2.2.2.2.2.2.2.2.2.2.1 y.2.2.2.2.2.2.2.2.2.2.2.2.2.2.2.2.2.2.2.2.2.2.1 y.2.2.2.2.2.2.2.2.2.2.2.2.2.2.2.2.2.2.2.2.2.2.2.1 y.2.2.2.2.2.2.2.2.2.2.2.2.2.2.2.2.2.2.2.2.2.2.2.2.1 y.2.2.2.2.2.2.2.2.2.2.2.2.2.2.2.2.2.2.2.2.2.2.2.2.2.1 y.2.2.2.2.2.2.2.2.2.2.2.2.2.2.2.2.2.2.2.2.2.2.2.2.2.2 m) a mi _ = _
          unfold f_X8_friend_L48
          rw [if_pos (by rw [r2.2.1]; exact nI_le (by omega) (by omega)), t1, Option.bind_some]
        | succ r ih =>
          intro h m a mi h1 h2 h3
          obtain ⟨m, rfl⟩ : ∃ j, m = j + 1 := ⟨m - 1, by omega⟩
          obtain ⟨a2, mi2, f1, f2⟩ := i_beside hRB a mi (hd := h) (by omega) hp hSM.2.2.2.1 hPa h3
          obtain ⟨u1, u2, u3, u4, u5, u6, i1, i2⟩ := ih (h + 1) m a2 mi2 (by omega) (by omega) (by rw [p6_sm, Nat.succ_mul]; exact f2)
          refine ⟨u1, u2, u3, u4, u5, u6, ?_, i2⟩
          rw [← i1]
          show f_X8_friend_L48 (σ.1 1) (σ.1 4) (σ.2.2 3) (σ.2.1 0) (σ.2.1 1) (σ.2.1 2) (σ.2.1 3) (nI p) y.2.1 y.2.2.1 y.2.2.2.1 y.2.2.2.2.1 y.2.2.2.2.2.1 y.2.2.2.2.2.2.1 y.2.2.2.2.2.2.2.1 y.2.2.2.2.2.2.2.2.1 y.2.2.2.2.2.2.2.2.2.1 y.2.2.2.2.2.2.2.2.2.2.1 y.2.2.2.2.2.2.2.2.2.2.2.1 y.2.2.2.2.2.2.2.2.2.2.2.2.1 y.2.2.2.2.2.2.2.2.2.2.2.2.2.1 y.2.2.2.2.2.2.2.2.2.2.2.2.2.2.1 y.2.2.2.2.2.2.2.2.2.2.2.2.2.2.2.1 y.2.2.2.2.2.2.2.2.2.2.2.2.2.2.2.2.1 y.2.2.2.2.2.2.2.2.2.2.2.2.2.2.2.2.2.1 y.2.2.2.2.2.2.2.2.2.2.2.2.2.2.2.2.2.2.1 y.2.2.2.2.2.2.2.2.2.2.2.2.2.2.2.2.2.2.2.1 y.2.2.2.2.2.2.2.2.2.2.2.2.2.2.2.2.2.2.2.2.1 y.2.2.2.2.2.2.2.2.2.2.2.2.2.2.2.2.2.2.2.2.2.1 y.2.2.2.2.2.2.2.2.2.2.2.2.2.2.2.2.2.2.2.2.2.2.1 y.2.2.2.2.2.2.2.2.2.2.2.2.2.2.2.2.2.2.2.2.2.2.2.1 y.2.2.2.2.2.2.2.2.2.2.2.2.2.2.2.2.2.2.2.2.2.2.2.2.1 y.2.2.2.2.2.2.2.2.2.2.2.2.2.2.2.2.2.2.2.2.2.2.2.2.2.1 y.2.2.2.2.2.2.2.2.2.2.2.2.2.2.2.2.2.2.2.2.2.2.2.2.2.2 (f_X8_friend_L48w (σ.1 1) (σ.1 4) (σ.2.2 3) (σ.2.1 0) (σ.2.1 1) (σ.2.1 2) (σ.2.1 3) (nI p) y.2.1 y.2.2.1 y.2.2.2.1 y.2.2.2.2.1 y.2.2.2.2.2.1 y.2.2.2.2.2.2.1 y.2.2.2.2.2.2.2.1 y.2.2.2.2.2.2.2.2.1 y.2.2.2.2.2.2.2.2.2.1 y.2.2.2.2.2.2.2.2.2.2.1 y.2.2.2.2.2.2.2.2.2.2.2.1 y.2.2.2.2.2.2.2.2.2.2.2.2.1 y.2.2.2.2.2.2.2.2.2.2.2.2.2.1 y.2.2.2.2.2.2.2.2.2.2.2.2.2.2.1 y.2.2.2.2.2.2.2.2.2.2.2.2.2.2.2.1 y.2.2.2.2.2.2.2.2.2.2.2.2.2.2.2.2.1 y.2.2.2.2.2.2.2.2.2.2.2.2.2.2.2.2.2.1 y.2.2.2.2.2.2.2.2.2.2.2.2.2.2.2.2.2.2.1 y.2.2.2.2.2.2.2.2.2.2.2.2.2.2.2.2.2.2.2.1 y.2.2.2.2.2.2.2.2.2.2.2.2.2.2.2.2.2.2.2.2.1 y.2.2.2.2.2.2.2.2.2.2.2.2.2.2.2.2.2.2.2.2.2.1 y.2.2.2.2.2.2.2.2.2.2.2.2.2.2.2.2.2.2.2.2.2.2.1 y.2.2.2.2.2.2.2.2.2.2.2.2.2.2.2.2.2.2.2.2.2.2.2.1 y.2.2.2.2.2.2.2.2.2.2.2.2.2.2.2.2.2.2.2.2.2.2.2.2.1 y.2.2.2.2.2.2.2.2.2.2.2.2.2.2.2.2.2.2.2.2.2.2.2.2.2.1 y.2.2.2.2.2.2.2.2.2.2.2.2.2.2.2.2.2.2.2.2.2.2.2.2.2.2 m) a mi _ = _
          unfold f_X8_friend_L48
          rw [if_neg (by rw [r2.2.1]; exact nI_ge (by omega) (by omega)), f1, Option.bind_some, nI_1]
      obtain ⟨a1, e1, e2⟩ := i_start (σ.2.1 15)
      obtain ⟨u1, u2, u3, u4, u5, u6, t1, t2, t3⟩ := loop n2 0 cx_N0 a1 (σ.2.1 16) (by omega) (by unfold cx_N0; omega) (by rw [Nat.zero_mul]; exact e2)
      rw [i_friend_sum (τ.1 2) n0 n1 n2 n3 n4 (by omega)] at t2 t3
      apply i_ex
      · unfold f_X8_friend
        rw [i_has r0.2.1 (by omega), Option.bind_some, if_neg (by rw [p2_b, if_pos hh]; decide), show f_X8_anyWay (σ.2.2 0) (σ.1 2) (σ.2.2 1) (σ.1 3) (σ.2.2 2) (σ.1 4) (σ.2.2 3) (σ.1 5) (σ.2.2 4) (σ.1 6) (σ.2.2 5) (σ.2.2 6) (σ.2.2 29) (σ.2.2 30) (σ.2.2 31) (σ.2.2 32) (σ.2.2 33) (σ.1 24) (σ.1 25) (σ.1 26) (σ.1 27) (σ.1 28) (σ.1 29) (σ.1 30) (σ.1 31) (σ.2.1 4) (σ.2.1 5) (σ.2.1 6) (σ.1 32) (σ.2.1 10) (σ.2.1 11) (σ.2.1 12) (σ.2.1 13) (σ.1 42) (σ.2.1 14) (σ.2.2 39) (σ.2.2 40) 2 = _ from y1, Option.bind_some, if_neg (by rw [y2, p2_b, if_pos hA]; decide), e1, Option.bind_some]
        exact t1
      · unfold f_X9_friend
        rw [p2_isPerson _ r0.2.2.1 hn0, Option.bind_some, if_neg (by rw [p2_b, if_pos hh]; decide), show f_X9_asks (τ.1 0) (τ.1 1) (τ.1 2) (τ.1 6) (τ.2.2 0) (τ.1 9) (τ.1 10) (τ.2.2 9) (τ.2.2 11) 3 (nI p) 0 = _ from m3, Option.bind_some]
      · exact ⟨rfl, ⟨n0, n1, n2, n3, n4, hRB, Or.inr ⟨d, d2, d3, d4, hSM⟩⟩, hR, hK0, hK1, hT, i_Fmk k2 k3 k4 t2 t3 (Nat.pos_of_ne_zero hA), hon, hO2, hsn, hS2⟩
  · apply i_ex
    · unfold f_X8_friend
      rw [i_has r0.2.1 (by omega), Option.bind_some, if_pos (p2_b0.mpr hh), p2_refused2, Option.bind_some]
    · unfold f_X9_friend
      rw [p2_isPerson _ r0.2.2.1 hn0, Option.bind_some, if_pos (p2_b0.mpr hh), p2_bad, Option.bind_some]
    · exact ⟨rfl, ⟨n0, n1, n2, n3, n4, hRB, hsm⟩, i_Rup hR 0 (by decide), hK0, hK1, hT, hF, hO1, hO2, hS1, hS2⟩
theorem i_same : ob_same i_Inv := by
  intro σ τ p1 p2 h
  obtain ⟨⟨n0, n1, n2, n3, n4, hRB, hsm⟩, hR, hK0, hK1, hT, hF, hO1, hO2, hS1, hS2⟩ := h
  obtain ⟨r0, r1, r2, r3, r4, rs, v0, v1, v2, v3, v4, v5⟩ := id hRB
  have hn0 := r0.1
  have hn1 := r1.1
  have hn2 := r2.1
  have hn3 := r3.1
  have hn4 := r4.1
  rcases p2_num p1 n2 (by omega) with ⟨a, ha, rfl⟩ | hh
  · have hh1 := i_has1 ha (by omega)
    rcases p2_num p2 n2 (by omega) with ⟨b, hb, rfl⟩ | hh
    · have hh := i_has1 hb (by omega)
      by_cases hne : nI a = nI b
      · apply i_ex
        · unfold f_X8_same f_X8_same_J33
          rw [i_has r2.2.1 (by omega), Option.bind_some, if_neg (by rw [p2_b, if_pos hh1]; decide), i_has r2.2.1 (by omega), Option.bind_some, if_neg (by rw [p2_b, if_pos hh]; decide), if_pos hne, p2_refused2, Option.bind_some]
        · unfold f_X9_same f_X9_same_J31
          rw [p2_isHead _ r2.2.2.1 hn2, Option.bind_some, if_neg (by rw [p2_b, if_pos hh1]; decide), p2_isHead _ r2.2.2.1 hn2, Option.bind_some, if_neg (by rw [p2_b, if_pos hh]; decide), if_pos hne, p2_bad, Option.bind_some]
        · exact ⟨rfl, ⟨n0, n1, n2, n3, n4, hRB, hsm⟩, i_Rup hR 0 (by decide), hK0, hK1, hT, hF, hO1, hO2, hS1, hS2⟩
      · obtain ⟨y, y1, y2, ⟨d, d1, d2, d3, d4, hSM⟩, hon, hsn⟩ := i_any hRB hsm hO1 hS1 2 (by omega) (by omega)
        obtain ⟨li, l1, w1, is1, m1, m2⟩ := i_asks hRB hF (τ.1 6) (τ.1 10) (τ.1 9) (τ.2.2 0) (τ.2.2 9) (τ.2.2 11) 1 a b (by omega) (fun _ => ⟨ha, hb⟩) (fun q => by omega) (fun q => by omega)
        by_cases hA : q_A (τ.1 2) n0 n1 n2 n3 n4 = 0
        · obtain ⟨m3, m4⟩ := m1 hA
          apply i_ex
          · unfold f_X8_same
            rw [i_has r2.2.1 (by omega), Option.bind_some, if_neg (by rw [p2_b, if_pos hh1]; decide), i_has r2.2.1 (by omega), Option.bind_some, if_neg (by rw [p2_b, if_pos hh]; decide), if_neg hne, show f_X8_anyWay (σ.2.2 0) (σ.1 2) (σ.2.2 1) (σ.1 3) (σ.2.2 2) (σ.1 4) (σ.2.2 3) (σ.1 5) (σ.2.2 4) (σ.1 6) (σ.2.2 5) (σ.2.2 6) (σ.2.2 29) (σ.2.2 30) (σ.2.2 31) (σ.2.2 32) (σ.2.2 33) (σ.1 24) (σ.1 25) (σ.1 26) (σ.1 27) (σ.1 28) (σ.1 29) (σ.1 30) (σ.1 31) (σ.2.1 4) (σ.2.1 5) (σ.2.1 6) (σ.1 32) (σ.2.1 10) (σ.2.1 11) (σ.2.1 12) (σ.2.1 13) (σ.1 42) (σ.2.1 14) (σ.2.2 39) (σ.2.2 40) 2 = _ from y1, Option.bind_some, if_pos (by rw [y2, p2_b, if_neg (fun q => q hA)]), i_no, Option.bind_some]
          · unfold f_X9_same
            rw [p2_isHead _ r2.2.2.1 hn2, Option.bind_some, if_neg (by rw [p2_b, if_pos hh1]; decide), p2_isHead _ r2.2.2.1 hn2, Option.bind_some, if_neg (by rw [p2_b, if_pos hh]; decide), if_neg hne, show f_X9_asks (τ.1 0) (τ.1 1) (τ.1 2) (τ.1 6) (τ.2.2 0) (τ.1 9) (τ.1 10) (τ.2.2 9) (τ.2.2 11) 1 (nI a) (nI b) = _ from m3, Option.bind_some]
          · exact ⟨rfl, ⟨n0, n1, n2, n3, n4, hRB, Or.inr ⟨d, d2, d3, d4, hSM⟩⟩, i_Rup hR 1 (by decide), hK0, hK1, hT, m4, hon, hO2, hsn, hS2⟩
        · obtain ⟨m3, V4, k2, k3, k4⟩ := m2 hA
          have hAl := i_A_lt hRB
          have hPa := hSM.2.2.2.2.2.2 (by omega)
          have loop : ∀ (r p m : Nat) (x mi : Nat → Int64), p + r = n0 → r < m → p3_U x 0 (p6_sm p (fun p => q_J (τ.1 2) n0 n1 n2 n3 n4 a p b p)) (p * 1073741823) → ∃ u1 u2 u3 u4 u5 u6, f_X8_same_L67w (σ.1 1) (σ.2.2 1) (σ.2.1 0) (σ.2.1 1) (σ.2.1 2) (σ.2.1 3) (nI a) (nI b) y.2.1 y.2.2.1 y.2.2.2.1 y.2.2.2.2.1 y.2.2.2.2.2.1 y.2.2.2.2.2.2.1 y.2.2.2.2.2.2.2.1 y.2.2.2.2.2.2.2.2.1 y.2.2.2.2.2.2.2.2.2.1 y.2.2.2.2.2.2.2.2.2.2.1 y.2.2.2.2.2.2.2.2.2.2.2.1 y.2.2.2.2.2.2.2.2.2.2.2.2.1 y.2.2.2.2.2.2.2.2.2.2.2.2.2.1 y.2.2.2.2.2.2.2.2.2.2.2.2.2.2.1 y.2.2.2.2.2.2.2.2.2.2.2.2.2.2.2.1 y.2.2.2.2.2.2.2.2.2.2.2.2.2.2.2.2.1 y.2.2.2.2.2.2.2.2.2.2.2.2.2.2.2.2.2.1 y.2.2.2.2.2.2.2.2.2.2.2.2.2.2.2.2.2.2.1 y.2.2.2.2.2.2.2.2.2.2.2.2.2.2.2.2.2.2.2.1 y.2.2.2.2.2.2.2.2.2.2.2.2.2.2.2.2.2.2.2.2.1 y.2.2.2.2.2.2.2.2.2.2.2.2.2.2.2.2.2.2.2.2.2.1 y.2.2.2.2.2.2.2.2.2.2.2.2.2.2.2.2.2.2.2.2.2.2.1 y.2.2.2.2.2.2.2.2.2.2.2.2.2.2.2.2.2.2.2.2.2.2.2.1 y.2.2.2.2.2.2.2.2.2.2.2.2.2.2.2.2.2.2.2.2.2.2.2.2.1 y.2.2.2.2.2.2.2.2.2.2.2.2.2.2.2.2.2.2.2.2.2.2.2.2.2.1 y.2.2.2.2.2.2.2.2.2.2.2.2.2.2.2.2.2.2.2.2.2.2.2.2.2.2 m x mi (nI p) = some (1, y.2.1, σ.1 1, u1, u2, u3, u4, y.2.2.1, y.2.2.2.1, y.2.2.2.2.1, y.2.2.2.2.2.1, y.2.2.2.2.2.2.1, y.2.2.2.2.2.2.2.1, y.2.2.2.2.2.2.2.2.1, y.2.2.2.2.2.2.2.2.2.1, y.2.2.2.2.2.2.2.2.2.2.1, y.2.2.2.2.2.2.2.2.2.2.2.1, y.2.2.2.2.2.2.2.2.2.2.2.2.1, y.2.2.2.2.2.2.2.2.2.2.2.2.2.1, y.2.2.2.2.2.2.2.2.2.2.2.2.2.2.1, y.2.2.2.2.2.2.2.2.2.2.2.2.2.2.2.1, y.2.2.2.2.2.2.2.2.2.2.2.2.2.2.2.2.1, y.2.2.2.2.2.2.2.2.2.2.2.2.2.2.2.2.2.1, y.2.2.2.2.2.2.2.2.2.2.2.2.2.2.2.2.2.2.1, y.2.2.2.2.2.2.2.2.2.2.2.2.2.2.2.2.2.2.2.1, y.2.2.2.2.2.2.2.2.2.2.2.2.2.2.2.2.2.2.2.2.1, y.2.2.2.2.2.2.2.2.2.2.2.2.2.2.2.2.2.2.2.2.2.1, y.2.2.2.2.2.2.2.2.2.2.2.2.2.2.2.2.2.2.2.2.2.2.1, y.2.2.2.2.2.2.2.2.2.2.2.2.2.2.2.2.2.2.2.2.2.2.2.1, y.2.2.2.2.2.2.2.2.2.2.2.2.2.2.2.2.2.2.2.2.2.2.2.2.1, y.2.2.2.2.2.2.2.2.2.2.2.2.2.2.2.2.2.2.2.2.2.2.2.2.2.1, y.2.2.2.2.2.2.2.2.2.2.2.2.2.2.2.2.2.2.2.2.2.2.2.2.2.2, u5, u6) ∧ p3_N u1 0 (p6_sm n0 (fun p => q_J (τ.1 2) n0 n1 n2 n3 n4 a p b p) / Nat.gcd (p6_sm n0 (fun p => q_J (τ.1 2) n0 n1 n2 n3 n4 a p b p)) (q_A (τ.1 2) n0 n1 n2 n3 n4)) ∧ p3_N u2 0 (q_A (τ.1 2) n0 n1 n2 n3 n4 / Nat.gcd (p6_sm n0 (fun p => q_J (τ.1 2) n0 n1 n2 n3 n4 a p b p)) (q_A (τ.1 2) n0 n1 n2 n3 n4)) := by
            intro r
            induction r with
            | zero =>
              intro p m x mi h1 h2 h3
              obtain ⟨m, rfl⟩ : ∃ j, m = j + 1 := ⟨m - 1, by omega⟩
              obtain rfl : p = n0 := by omega
              have bd : p6_sm p (fun e => q_J (τ.1 2) p n1 n2 n3 n4 a e b e) ≤ p * q_A (τ.1 2) p n1 n2 n3 n4 := by
                rw [← p6_sm_const]; exact p6_sm_le (fun i _ => i_J_le _ _ _ _ _ _ _ _ _ _)
              have bd2 : p * q_A (τ.1 2) p n1 n2 n3 n4 ≤ 5 * q_A (τ.1 2) p n1 n2 n3 n4 := Nat.mul_le_mul_right _ hn0
              obtain ⟨u1, u2, u3, u4, u5, t1, t2, t3⟩ := i_ansShare (σ.2.1 0) (σ.2.1 1) (σ.2.1 2) (σ.2.1 3) h3 (by omega) (i_P4_lt (by omega)) hSM.2.2.1 (Nat.pos_of_ne_zero hA)
              refine ⟨u1, u2, u3, u4, u5, mi, ?_, t2, t3⟩
              show f_X8_same_L67 (σ.1 1) (σ.2.2 1) (σ.2.1 0) (σ.2.1 1) (σ.2.1 2) (σ.2.1 3) (nI a) (nI b) y.2.1 y.2.2.1 y.2.2.2.1 y.2.2.2.2.1 y.2.2.2.2.2.1 y.2.2.2.2.2.2.1 y.2.2.2.2.2.2.2.1 y.2.2.2.2.2.2.2.2.1 y.2.2.2.2.2.2.2.2.2.1 y.2.2.2.2.2.2.2.2.2.2.1 y.2.2.2.2.2.2.2.2.2.2.2.1 y.2.2.2.2.2.2.2.2.2.2.2.2.1 y.2.2.2.2.2.2.2.2.2.2.2.2.2.1 y.2.2.2.2.2.2.2.2.2.2.2.2.2.2.1 y.2.2.2.2.2.2.2.2.2.2.2.2.2.2.2.1 y.2.2.2.2.2.2.2.2.2.2.2.2.2.2.2.2.1 y.2.2.2.2.2.2.2.2.2.2.2.2.2.2.2.2.2.1 y.2.2.2.2.2.2.2.2.2.2.2.2.2.2.2.2.2.2.1 y.2.2.2.2.2.2.2.2.2.2.2.2.2.2.2.2.2.2.2.1 y.2.2.2.2.2.2.2.2.2.2.2.2.2.2.2.2.2.2.2.2.1 y.2.2.2.2.2.2.2.2.2.2.2.2.2.2.2.2.2.2.2.2.2.1 y.2.2.2.2.2.2.2.2.2.2.2.2.2.2.2.2.2.2.2.2.2.2.1 y.2.2.2.2.2.2.2.2.2.2.2.2.2.2.2.2.2.2.2.2.2.2.2.1 y.2.2.2.2.2.2.2.2.2.2.2.2.2.2.2.2.2.2.2.2.2.2.2.2.1 y.2.2.2.2.2.2.2.2.2.2.2.2.2.2.2.2.2.2.2.2.2.2.2.2.2.1 y.2.2.2.2.2.2.2.2.2.2.2.2.2.2.2.2.2.2.2.2.2.2.2.2.2.2 (f_X8_same_L67w (σ.1 1) (σ.2.2 1) (σ.2.1 0) (σ.2.1 1) (σ.2.1 2) (σ.2.1 3) (nI a) (nI b) y.2.1 y.2.2.1 y.2.2.2.1 y.2.2.2.2.1 y.2.2.2.2.2.1 y.2.2.2.2.2.2.1 y.2.2.2.2.2.2.2.1 y.2.2.2.2.2.2.2.2.1 y.2.2.2.2.2.2.2.2.2.1 y.2.2.2.2.2.2.2.2.2.2.1 y.2.2.2.2.2.2.2.2.2.2.2.1 y.2.2.2.2.2.2.2.2.2.2.2.2.1 y.2.2.2.2.2.2.2.2.2.2.2.2.2.1 y.2.2.2.2.2.2.2.2.2.2.2.2.2.2.1 y.2.2.2.2.2.2.2.2.2.2.2.2.2.2.2.1 y.2.2.2.2.2.2.2.2.2.2.2.2.2.2.2.2.1 y.2.2.2.2.2.2.2.2.2.2.2.2.2.2.2.2.2.1 y.2.2.2.2.2.2.2.2.2.2.2.2.2.2.2.2.2.2.1 y.2.2.2.2.2.2.2.2.2.2.2.2.2.2.2.2.2.2.2.1 y.2.2.2.2.2.2.2.2.2.2.2.2.2.2.2.2.2.2.2.2.1 y.2.2.2.2.2.2.2.2.2.2.2.2.2.2.2.2.2.2.2.2.2.1 y.2.2.2.2.2.2.2.2.2.2.2.2.2.2.2.2.2.2.2.2.2.2.1 y.2.2.2.2.2.2.2.2.2.2.2.2.2.2.2.2.2.2.2.2.2.2.2.1 y.2.2.2.2.2.2.2.2.2.2.2.2.2.2.2.2.2.2.2.2.2.2.2.2.1 y.2.2.2.2.2.2.2.2.2.2.2.2.2.2.2.2.2.2.2.2.2.2.2.2.2.1 y.2.2.2.2.2.2.2.2.2.2.2.2.2.2.2.2.2.2.2.2.2.2.2.2.2.2 m) x mi _ = _
              unfold f_X8_same_L67
              rw [if_pos (by rw [r0.2.1]; exact nI_le (by omega) (by omega)), t1, Option.bind_some]
            | succ r ih =>
              intro p m x mi h1 h2 h3
              obtain ⟨m, rfl⟩ : ∃ j, m = j + 1 := ⟨m - 1, by omega⟩
              obtain ⟨a2, mi2, f1, f2⟩ := i_addJ (bk := τ.1 2) (n0 := n0) (n1 := n1) (n3 := n3) (n4 := n4) x mi hn2 ha hb (show p < 6 by omega) (show p < 6 by omega) hAl hSM.2.2.2.1 hPa h3
              obtain ⟨u1, u2, u3, u4, u5, u6, i1, i2⟩ := ih (p + 1) m a2 mi2 (by omega) (by omega) (by rw [p6_sm, Nat.succ_mul]; exact f2)
              refine ⟨u1, u2, u3, u4, u5, u6, ?_, i2⟩
              rw [← i1]
              show f_X8_same_L67 (σ.1 1) (σ.2.2 1) (σ.2.1 0) (σ.2.1 1) (σ.2.1 2) (σ.2.1 3) (nI a) (nI b) y.2.1 y.2.2.1 y.2.2.2.1 y.2.2.2.2.1 y.2.2.2.2.2.1 y.2.2.2.2.2.2.1 y.2.2.2.2.2.2.2.1 y.2.2.2.2.2.2.2.2.1 y.2.2.2.2.2.2.2.2.2.1 y.2.2.2.2.2.2.2.2.2.2.1 y.2.2.2.2.2.2.2.2.2.2.2.1 y.2.2.2.2.2.2.2.2.2.2.2.2.1 y.2.2.2.2.2.2.2.2.2.2.2.2.2.1 y.2.2.2.2.2.2.2.2.2.2.2.2.2.2.1 y.2.2.2.2.2.2.2.2.2.2.2.2.2.2.2.1 y.2.2.2.2.2.2.2.2.2.2.2.2.2.2.2.2.1 y.2.2.2.2.2.2.2.2.2.2.2.2.2.2.2.2.2.1 y.2.2.2.2.2.2.2.2.2.2.2.2.2.2.2.2.2.2.1 y.2.2.2.2.2.2.2.2.2.2.2.2.2.2.2.2.2.2.2.1 y.2.2.2.2.2.2.2.2.2.2.2.2.2.2.2.2.2.2.2.2.1 y.2.2.2.2.2.2.2.2.2.2.2.2.2.2.2.2.2.2.2.2.2.1 y.2.2.2.2.2.2.2.2.2.2.2.2.2.2.2.2.2.2.2.2.2.2.1 y.2.2.2.2.2.2.2.2.2.2.2.2.2.2.2.2.2.2.2.2.2.2.2.1 y.2.2.2.2.2.2.2.2.2.2.2.2.2.2.2.2.2.2.2.2.2.2.2.2.1 y.2.2.2.2.2.2.2.2.2.2.2.2.2.2.2.2.2.2.2.2.2.2.2.2.2.1 y.2.2.2.2.2.2.2.2.2.2.2.2.2.2.2.2.2.2.2.2.2.2.2.2.2.2 (f_X8_same_L67w (σ.1 1) (σ.2.2 1) (σ.2.1 0) (σ.2.1 1) (σ.2.1 2) (σ.2.1 3) (nI a) (nI b) y.2.1 y.2.2.1 y.2.2.2.1 y.2.2.2.2.1 y.2.2.2.2.2.1 y.2.2.2.2.2.2.1 y.2.2.2.2.2.2.2.1 y.2.2.2.2.2.2.2.2.1 y.2.2.2.2.2.2.2.2.2.1 y.2.2.2.2.2.2.2.2.2.2.1 y.2.2.2.2.2.2.2.2.2.2.2.1 y.2.2.2.2.2.2.2.2.2.2.2.2.1 y.2.2.2.2.2.2.2.2.2.2.2.2.2.1 y.2.2.2.2.2.2.2.2.2.2.2.2.2.2.1 y.2.2.2.2.2.2.2.2.2.2.2.2.2.2.2.1 y.2.2.2.2.2.2.2.2.2.2.2.2.2.2.2.2.1 y.2.2.2.2.2.2.2.2.2.2.2.2.2.2.2.2.2.1 y.2.2.2.2.2.2.2.2.2.2.2.2.2.2.2.2.2.2.1 y.2.2.2.2.2.2.2.2.2.2.2.2.2.2.2.2.2.2.2.1 y.2.2.2.2.2.2.2.2.2.2.2.2.2.2.2.2.2.2.2.2.1 y.2.2.2.2.2.2.2.2.2.2.2.2.2.2.2.2.2.2.2.2.2.1 y.2.2.2.2.2.2.2.2.2.2.2.2.2.2.2.2.2.2.2.2.2.2.1 y.2.2.2.2.2.2.2.2.2.2.2.2.2.2.2.2.2.2.2.2.2.2.2.1 y.2.2.2.2.2.2.2.2.2.2.2.2.2.2.2.2.2.2.2.2.2.2.2.2.1 y.2.2.2.2.2.2.2.2.2.2.2.2.2.2.2.2.2.2.2.2.2.2.2.2.2.1 y.2.2.2.2.2.2.2.2.2.2.2.2.2.2.2.2.2.2.2.2.2.2.2.2.2.2 m) x mi _ = _
              unfold f_X8_same_L67
              rw [if_neg (by rw [r0.2.1]; exact nI_ge (by omega) (by omega)), f1, Option.bind_some, nI_1]
          obtain ⟨a1, e1, e2⟩ := i_start (σ.2.1 15)
          obtain ⟨u1, u2, u3, u4, u5, u6, t1, t2, t3⟩ := loop n0 0 cx_N0 a1 (σ.2.1 16) (by omega) (by unfold cx_N0; omega) (by rw [Nat.zero_mul]; exact e2)
          rw [i_same_sum (τ.1 2) n0 n1 n2 n3 n4 hn0 ha] at t2 t3
          apply i_ex
          · unfold f_X8_same
            rw [i_has r2.2.1 (by omega), Option.bind_some, if_neg (by rw [p2_b, if_pos hh1]; decide), i_has r2.2.1 (by omega), Option.bind_some, if_neg (by rw [p2_b, if_pos hh]; decide), if_neg hne, show f_X8_anyWay (σ.2.2 0) (σ.1 2) (σ.2.2 1) (σ.1 3) (σ.2.2 2) (σ.1 4) (σ.2.2 3) (σ.1 5) (σ.2.2 4) (σ.1 6) (σ.2.2 5) (σ.2.2 6) (σ.2.2 29) (σ.2.2 30) (σ.2.2 31) (σ.2.2 32) (σ.2.2 33) (σ.1 24) (σ.1 25) (σ.1 26) (σ.1 27) (σ.1 28) (σ.1 29) (σ.1 30) (σ.1 31) (σ.2.1 4) (σ.2.1 5) (σ.2.1 6) (σ.1 32) (σ.2.1 10) (σ.2.1 11) (σ.2.1 12) (σ.2.1 13) (σ.1 42) (σ.2.1 14) (σ.2.2 39) (σ.2.2 40) 2 = _ from y1, Option.bind_some, if_neg (by rw [y2, p2_b, if_pos hA]; decide), e1, Option.bind_some]
            exact t1
          · unfold f_X9_same
            rw [p2_isHead _ r2.2.2.1 hn2, Option.bind_some, if_neg (by rw [p2_b, if_pos hh1]; decide), p2_isHead _ r2.2.2.1 hn2, Option.bind_some, if_neg (by rw [p2_b, if_pos hh]; decide), if_neg hne, show f_X9_asks (τ.1 0) (τ.1 1) (τ.1 2) (τ.1 6) (τ.2.2 0) (τ.1 9) (τ.1 10) (τ.2.2 9) (τ.2.2 11) 1 (nI a) (nI b) = _ from m3, Option.bind_some]
          · exact ⟨rfl, ⟨n0, n1, n2, n3, n4, hRB, Or.inr ⟨d, d2, d3, d4, hSM⟩⟩, hR, hK0, hK1, hT, i_Fmk k2 k3 k4 t2 t3 (Nat.pos_of_ne_zero hA), hon, hO2, hsn, hS2⟩
    · apply i_ex
      · unfold f_X8_same f_X8_same_J33
        rw [i_has r2.2.1 (by omega), Option.bind_some, if_neg (by rw [p2_b, if_pos hh1]; decide), i_has r2.2.1 (by omega), Option.bind_some, if_pos (p2_b0.mpr hh), p2_refused2, Option.bind_some]
      · unfold f_X9_same f_X9_same_J31
        rw [p2_isHead _ r2.2.2.1 hn2, Option.bind_some, if_neg (by rw [p2_b, if_pos hh1]; decide), p2_isHead _ r2.2.2.1 hn2, Option.bind_some, if_pos (p2_b0.mpr hh), p2_bad, Option.bind_some]
      · exact ⟨rfl, ⟨n0, n1, n2, n3, n4, hRB, hsm⟩, i_Rup hR 0 (by decide), hK0, hK1, hT, hF, hO1, hO2, hS1, hS2⟩
  · apply i_ex
    · unfold f_X8_same f_X8_same_J33
      rw [i_has r2.2.1 (by omega), Option.bind_some, if_pos (p2_b0.mpr hh), p2_refused2, Option.bind_some]
    · unfold f_X9_same f_X9_same_J31
      rw [p2_isHead _ r2.2.2.1 hn2, Option.bind_some, if_pos (p2_b0.mpr hh), p2_bad, Option.bind_some]
    · exact ⟨rfl, ⟨n0, n1, n2, n3, n4, hRB, hsm⟩, i_Rup hR 0 (by decide), hK0, hK1, hT, hF, hO1, hO2, hS1, hS2⟩
