/-! WHEN, AHEAD: a look aside -/
section WH
variable {c0 c1 c2 c3 c4 : Nat → Int32} {z0 z1 z2 z3 z4 sg : Int32} {bk : Nat → Int32} {n0 n1 n2 n3 n4 : Nat}
variable {on od : Bool} {p0 y0 ea la : Nat} {oP oY fi se : Int32}
/-- the reference: all ways, then those of a look -/
theorem m_years2 (hRB : p2_RB c0 z0 c1 z1 c2 z2 c3 z3 c4 z4 sg bk n0 n1 n2 n3 n4) {l w : Nat → Int32} {V : Nat → Nat} (hV : p4_S l w V) (li0 is0 : Nat → Int32) (oY0 se0 : Int32) (hLM : q_LM bk n1 n3 on p0 y0 4 od ea la (-1) oP oY fi se) : ∃ li l' w' is' V', f_X9_years2 l w bk is0 li0 oY0 se0 oP oY fi se = some (p2_b (q_A bk n0 n1 n2 n3 n4 ≠ 0), -1, oP, oY, fi, se, l', w', is', li) ∧ p4_S l' w' V' ∧ V' 6 = q_A bk n0 n1 n2 n3 n4 ∧ V' 7 = p6_ws n0 (q_G bk n1 n2 n3 n4 on p0 y0 4 od ea la) n2 0 q_0 ∧ V' 0 = V 0 ∧ V' 1 = V 1 := by
  obtain ⟨li, b1, b2⟩ := m_begins hRB li0
  obtain ⟨l1, w1, is1, V1, s1, s2, s3, s4, s5⟩ := m_sums hRB b2 (i_LM0 hRB oY0 se0) l w is0 V hV 0 0 0 (by omega) (fun q => by omega) (fun q => by omega) (fun q => by omega)
  have s3' : V1 6 = q_A bk n0 n1 n2 n3 n4 := s3
  obtain ⟨l2, w2, t1, t2, t3⟩ := p4_takes (r := 10) (o := 6) (by decide) (by decide) (by decide) (s2 6 (by decide) (by decide))
  have S2 := s2.set t2 t3
  obtain ⟨l3, w3, is3, V3, u1, u2, u3, u4, u5⟩ := m_sums hRB b2 hLM l2 w2 is1 _ S2 0 0 0 (by omega) (fun q => by omega) (fun q => by omega) (fun q => by omega)
  obtain ⟨l4, w4, v1, v2, v3⟩ := p4_takes (r := 7) (o := 6) (by decide) (by decide) (by decide) (u2 6 (by decide) (by decide))
  have S4 := u2.set v2 v3
  have R10 := S4 10 (by decide) (by decide)
  rw [p4_un (by decide), u5 10 (by decide) (by decide) (by decide) (by decide), p4_us, s3'] at R10
  obtain ⟨l5, w5, x1, x2, x3⟩ := p4_takes (r := 6) (o := 10) (by decide) (by decide) (by decide) R10
  have S5 := S4.set x2 x3
  obtain ⟨n, g1, g2, g3⟩ := p4_wpos (S5 6 (by decide) (by decide))
  rw [p4_us] at g3
  refine ⟨li, l5, w5, is3, _, ?_, S5, p4_us, by rw [p4_un (by decide), p4_us, u3], by rw [p4_un (by decide), p4_un (by decide), u5 0 (by decide) (by decide) (by decide) (by decide), p4_un (by decide), s5 0 (by decide) (by decide) (by decide) (by decide)], by rw [p4_un (by decide), p4_un (by decide), u5 1 (by decide) (by decide) (by decide) (by decide), p4_un (by decide), s5 1 (by decide) (by decide) (by decide) (by decide)]⟩
  unfold f_X9_years2
  rw [b1, Option.bind_some, show f_X9_sums l w bk is0 li (-1) (-1) oY0 (-1) se0 0 0 0 = _ from s1, Option.bind_some, show f_X9_takes l1 w1 10 6 = _ from t1, Option.bind_some, show f_X9_sums l2 w2 bk is1 li (-1) oP oY fi se 0 0 0 = _ from u1, Option.bind_some, show f_X9_takes l3 w3 7 6 = _ from v1, Option.bind_some, show f_X9_takes l4 w4 6 10 = _ from x1, Option.bind_some, p2_gd (by decide)]
  by_cases hA : q_A bk n0 n1 n2 n3 n4 = 0
  · rw [if_pos (show w5 (cx_ix 6) ≤ 0 by rw [show w5 (cx_ix 6) = nI n from g2, g3.mpr hA]; decide), p2_b, if_neg (fun q => q hA)]
  · rw [if_neg (show ¬ w5 (cx_ix 6) ≤ 0 by rw [show w5 (cx_ix 6) = nI n from g2]; exact nI_nle (Nat.pos_of_ne_zero (fun q => hA (g3.mp q))) (by omega)), p2_b, if_pos hA]
theorem i_p92 {a b : Nat} {x y : Nat → Int64} (fa fb fo ft : Nat → Int64) (hx : p3_N x 0 a) (hy : p3_N y 0 b) (hb : 0 < b) : ∃ u1 u2 u3 u4, f_X8_share_p92 fa fb fo ft y x 0 = some (1, u1, u2, u3, u4) ∧ p3_N u1 0 (a / Nat.gcd a b) ∧ p3_N u2 0 (b / Nat.gcd a b) := by
  obtain ⟨u1, u2, u3, u4, e1, e2, e3⟩ := p5_set (n := 4) (n' := 4) fa fb fo ft (by decide) (by decide) (by decide) (by decide) hx hy hb
  refine ⟨u1, u2, u3, u4, ?_, e2, e3⟩
  unfold f_X8_share_p92
  rw [show f_X2_set fa fb fo ft 4 x 0 4 y 0 = _ from e1, Option.bind_some]
theorem i_LMy (hRB : p2_RB c0 z0 c1 z1 c2 z2 c3 z3 c4 z4 sg bk n0 n1 n2 n3 n4) {p y : Nat} (hp : p < n1) (hy : y < k_to bk p - k_fr bk p + 1) : q_LM bk n1 n3 true p y 4 false 0 0 (-1) (nI p) (nI y) (-1) (-1) := by
  have hn3 := hRB.2.2.2.1.1
  exact ⟨fun n hn => ⟨fun q => absurd q (p2_nIne n (by omega)), fun q => by omega⟩, fun _ => ⟨rfl, rfl, hp, hy⟩, fun q => (by cases q), fun q => (by cases q), fun _ => rfl, fun q => (by cases q)⟩
theorem i_LAy (hRB : p2_RB c0 z0 c1 z1 c2 z2 c3 z3 c4 z4 sg bk n0 n1 n2 n3 n4) {p y : Nat} (hp : p < n1) (fyA ycA : Nat → Int32) (h : ∀ p, p < n1 → fyA p = nI (k_fr bk p) ∧ ycA p = nI (k_to bk p - k_fr bk p + 1)) : q_LA n1 n3 (q_fy bk n1 true p y) (q_yc bk n1 true p) 4 false 0 0 (-1) (-1) (-1) (upd fyA p (nI (k_fr bk p + y))) (upd ycA p 1) := by
  have hn3 := hRB.2.2.2.1.1
  refine ⟨fun e he => ?_, fun n hn => ⟨fun q => absurd q (p2_nIne n (by omega)), fun q => by omega⟩, fun q => (by cases q), fun _ => ⟨rfl, rfl⟩⟩
  unfold q_fy q_yc
  rw [if_pos he, if_pos he]
  by_cases c : e = p
  · subst c
    rw [if_pos ⟨rfl, rfl⟩, if_pos ⟨rfl, rfl⟩, p2_us, p2_us]
    exact ⟨rfl, rfl⟩
  · rw [if_neg (fun q => c q.2), if_neg (fun q => c q.2), p2_un c, p2_un c]
    exact h e he
theorem i_LMo (hRB : p2_RB c0 z0 c1 z1 c2 z2 c3 z3 c4 z4 sg bk n0 n1 n2 n3 n4) {a b : Nat} (ha : a < n1) (hb : b < n1) (hne : a ≠ b) : q_LM bk n1 n3 false 0 0 4 true a b (-1) (-1) 0 (nI a) (nI b) := by
  have hn3 := hRB.2.2.2.1.1
  exact ⟨fun n hn => ⟨fun q => absurd q (p2_nIne n (by omega)), fun q => by omega⟩, fun q => (by cases q), fun _ => rfl, fun _ => ⟨rfl, rfl, ha, hb, hne⟩, fun q => (by cases q), fun _ => rfl⟩
theorem i_LAo (hRB : p2_RB c0 z0 c1 z1 c2 z2 c3 z3 c4 z4 sg bk n0 n1 n2 n3 n4) {a b : Nat} (fyA ycA : Nat → Int32) (h : ∀ p, p < n1 → fyA p = nI (k_fr bk p) ∧ ycA p = nI (k_to bk p - k_fr bk p + 1)) : q_LA n1 n3 (q_fy bk n1 false 0 0) (q_yc bk n1 false 0) 4 true a b (-1) (nI a) (nI b) fyA ycA := by
  have hn3 := hRB.2.2.2.1.1
  refine ⟨fun p hp => ?_, fun n hn => ⟨fun q => absurd q (p2_nIne n (by omega)), fun q => by omega⟩, fun _ => ⟨rfl, rfl⟩, fun q => (by cases q)⟩
  unfold q_fy q_yc
  rw [if_pos hp, if_pos hp, if_neg (fun q => by cases q.1), if_neg (fun q => by cases q.1)]
  exact h p hp
/-- lookAtYear -/
theorem i_lookY (hRB : p2_RB c0 z0 c1 z1 c2 z2 c3 z3 c4 z4 sg bk n0 n1 n2 n3 n4) {p : Nat} (hp : p < n1) (fyA ycA : Nat → Int32) (yr : Int32) (fo : Nat) (hfo : fo ≤ 1) : f_X7_lookAtYear fyA ycA z1 (nI p) yr (nI fo) = some (nI fo, upd fyA p yr, upd ycA p 1) := by
  have hn1 := hRB.2.1.1
  unfold f_X7_lookAtYear f_X7_lookAtYear_J28
  rw [i_has hRB.2.1.2.1 (by omega), Option.bind_some, if_neg (by rw [p2_b, if_pos (i_has1 hp (by omega))]; decide), p2_gd (p2_ib (by omega) (by decide))]
  simp only [cx_let]
  rw [p2_gd (p2_ib (by omega) (by decide)), p2_ix (by omega), p2_gd]
  rcases (show fo = 0 ∨ fo = 1 by omega) with q | q <;> rw [q] <;> decide
theorem i_40 (p : Nat) : (40 : Int32) + 2 * nI p = nI (40 + 2 * p) := by rw [show (40 : Int32) = nI 40 from rfl, show (2 : Int32) = nI 2 from rfl, pk_mul, nI_add]
end WH
theorem i_when : ob_when i_Inv := by
  intro σ τ p1 p2 h
  obtain ⟨⟨n0, n1, n2, n3, n4, hRB, hsm⟩, hR, hK0, hK1, hT, hF, hO1, hO2, hS1, hS2⟩ := h
  obtain ⟨r0, r1, r2, r3, r4, rs, v0, v1, v2, v3, v4, v5⟩ := id hRB
  have hn0 := r0.1
  have hn1 := r1.1
  have hn2 := r2.1
  have hn3 := r3.1
  have hn4 := r4.1
  rcases p2_num p1 n1 (by omega) with ⟨pp, hpp, rfl⟩ | hp
  · have hh := i_has1 hpp (by omega)
    obtain ⟨q1, q2, q3, q4, q5⟩ := k_pic_spec (v1 pp hpp)
    have hY : f_X8_isYearOf (σ.1 3) (σ.2.2 2) (nI pp) p2 = some (p2_b ((nI (k_fr (τ.1 2) pp)).toInt ≤ p2.toInt ∧ p2.toInt ≤ (nI (k_to (τ.1 2) pp)).toInt)) := by
      unfold f_X8_isYearOf
      rw [show f_X4_at 2 8 (σ.1 3) (σ.2.2 2) (nI pp) 0 = _ from p2_atQ r1 pp 0 hpp (by decide), Option.bind_some, show f_X4_at 2 8 (σ.1 3) (σ.2.2 2) (nI pp) 1 = _ from p2_atQ r1 pp 1 hpp (by decide), Option.bind_some, q1, q2, p2_within, Option.bind_some, p2_gd (by simp only [p2_b]; split <;> decide)]
    have ib1 : cx_ib (40 + 2 * nI pp) 140 = true := by rw [i_40]; exact p2_ib (by omega) (by decide)
    have ib2 : cx_ib (40 + 2 * nI pp + 1) 140 = true := by rw [i_40, nI_1]; exact p2_ib (by omega) (by decide)
    have hfr : (τ.1 2) (cx_ix (40 + 2 * nI pp)) = nI (k_fr (τ.1 2) pp) := by rw [i_40, p2_ix (by omega)]; exact q1
    have hM : f_X9_in (Int32.toInt64 p2) (Int32.toInt64 ((τ.1 2) (cx_ix (40 + 2 * nI pp)))) (Int32.toInt64 ((τ.1 2) (cx_ix (40 + 2 * nI pp + 1)))) = some (p2_b ((nI (k_fr (τ.1 2) pp)).toInt ≤ p2.toInt ∧ p2.toInt ≤ (nI (k_to (τ.1 2) pp)).toInt)) := by
      rw [hfr, i_40, nI_1, p2_ix (by omega), q2, p2_in, p2_l, p2_l, p2_l]
    by_cases hy : (nI (k_fr (τ.1 2) pp)).toInt ≤ p2.toInt ∧ p2.toInt ≤ (nI (k_to (τ.1 2) pp)).toInt
    · have hy' := hy
      rw [nI_toInt (by omega), nI_toInt (by omega)] at hy'
      obtain ⟨yr, hyr, rfl⟩ := nI_of (x := p2) (fun q => by have := p2_lt.mp q; have e0 : (0 : Int32).toInt = 0 := rfl; omega)
      rw [nI_toInt hyr] at hy'
      obtain ⟨y, rfl⟩ : ∃ y, yr = k_fr (τ.1 2) pp + y := ⟨yr - k_fr (τ.1 2) pp, by omega⟩
      have hyl : y < k_to (τ.1 2) pp - k_fr (τ.1 2) pp + 1 := by omega
      obtain ⟨u, y1, y2, ⟨d, d1, d2, d3, d4, hSM⟩, hon, hsn⟩ := i_any hRB hsm hO1 hS1 1 (by omega) (by omega)
      obtain ⟨V, hV, hV0, hV1, hV2⟩ := id hF
      have hLM := i_LMy hRB hpp hyl
      obtain ⟨li, l1, w1, is1, V1, s1, s2, s3, s4, s5, s6⟩ := m_years2 hRB hV (τ.1 10) (τ.1 9) (τ.2.2 9) (τ.2.2 11) hLM
      have hsub : nI (k_fr (τ.1 2) pp + y) - nI (k_fr (τ.1 2) pp) = nI y := by rw [pk_sub (by omega), Nat.add_sub_cancel_left]
      by_cases hA : q_A (τ.1 2) n0 n1 n2 n3 n4 = 0
      · apply i_ex
        · unfold f_X8_when
          rw [i_has r1.2.1 (by omega), Option.bind_some, if_neg (by rw [p2_b, if_pos hh]; decide), hY, Option.bind_some, if_neg (by rw [p2_b, if_pos hy]; decide), show f_X8_anyWay (σ.2.2 0) (σ.1 2) (σ.2.2 1) (σ.1 3) (σ.2.2 2) (σ.1 4) (σ.2.2 3) (σ.1 5) (σ.2.2 4) (σ.1 6) (σ.2.2 5) (σ.2.2 6) (σ.2.2 29) (σ.2.2 30) (σ.2.2 31) (σ.2.2 32) (σ.2.2 33) (σ.1 24) (σ.1 25) (σ.1 26) (σ.1 27) (σ.1 28) (σ.1 29) (σ.1 30) (σ.1 31) (σ.2.1 4) (σ.2.1 5) (σ.2.1 6) (σ.1 32) (σ.2.1 10) (σ.2.1 11) (σ.2.1 12) (σ.2.1 13) (σ.1 42) (σ.2.1 14) (σ.2.2 39) (σ.2.2 40) 1 = _ from y1, Option.bind_some, if_pos (by rw [y2, p2_b, if_neg (fun q => q hA)]), i_no, Option.bind_some]
        · unfold f_X9_when
          rw [p2_isPicture _ r1.2.2.1 hn1, Option.bind_some, if_neg (by rw [p2_b, if_pos hh]; decide), p2_gd ib1, p2_gd ib2, hM, Option.bind_some, if_neg (by rw [p2_b, if_pos hy]; decide), p2_gd ib1, hfr, hsub, s1, Option.bind_some, if_pos (by rw [p2_b, if_neg (fun q => q hA)]), p2_no, Option.bind_some]
        · exact ⟨rfl, ⟨n0, n1, n2, n3, n4, hRB, Or.inr ⟨d, d2, d3, d4, hSM⟩⟩, i_Rup hR 1 (by decide), hK0, hK1, hT, ⟨V1, s2, by rw [s5]; exact hV0, by rw [s6]; exact hV1, by rw [s6]; exact hV2⟩, hon, hO2, hsn, hS2⟩
      · obtain ⟨fy', yc', a1, a2, a3⟩ := i_look hRB (σ.1 33) (σ.1 34) 0
        have hLK := q_LK_of (q_BK_of hRB) hLM
        obtain ⟨pl', bf', cl', lk', ls', nm', pr', ws', sub', wy', to', sh', pa', cr', bw', bt', v, b1, b2, b3, b4, b5, b6, b7, b8⟩ := p9_sumUp hRB hLK (i_LAy hRB (y := y) hpp fy' yc' a2) 0 0 0 (by decide) (by decide) (fun q => by cases q) (by decide) (fun q => by cases q) (σ.1 35) (σ.1 36) (σ.1 37) (σ.1 38) (σ.1 39) (σ.1 40) (σ.2.1 7) (σ.2.1 8) (σ.2.1 9) (σ.1 41) (σ.2.1 18) (σ.2.1 19) (σ.2.1 20) (σ.2.1 21) (σ.1 43) (σ.2.1 22) hO2 hS2
        have hv := b5 rfl
        obtain ⟨u1, u2, u3, u4, t1, t2, t3⟩ := i_p92 (σ.2.1 0) (σ.2.1 1) (σ.2.1 2) (σ.2.1 3) b4 hSM.2.2.1 (Nat.pos_of_ne_zero hA)
        obtain ⟨l4, w4, V4, k1, k2, k3, k4, k5⟩ := i_tellsHit s2 (by rw [s3]; exact Nat.pos_of_ne_zero hA)
        rw [s3, s4] at k3 k4
        rw [hv] at t2 t3
        have hlk : f_X7_lookAtYear fy' yc' (σ.2.2 2) (nI pp) (nI (k_fr (τ.1 2) pp + y)) 0 = some (0, upd fy' pp (nI (k_fr (τ.1 2) pp + y)), upd yc' pp 1) := i_lookY hRB hpp fy' yc' (nI (k_fr (τ.1 2) pp + y)) 0 (by decide)
        apply i_ex
        · unfold f_X8_when
          rw [i_has r1.2.1 (by omega), Option.bind_some, if_neg (by rw [p2_b, if_pos hh]; decide), hY, Option.bind_some, if_neg (by rw [p2_b, if_pos hy]; decide), show f_X8_anyWay (σ.2.2 0) (σ.1 2) (σ.2.2 1) (σ.1 3) (σ.2.2 2) (σ.1 4) (σ.2.2 3) (σ.1 5) (σ.2.2 4) (σ.1 6) (σ.2.2 5) (σ.2.2 6) (σ.2.2 29) (σ.2.2 30) (σ.2.2 31) (σ.2.2 32) (σ.2.2 33) (σ.1 24) (σ.1 25) (σ.1 26) (σ.1 27) (σ.1 28) (σ.1 29) (σ.1 30) (σ.1 31) (σ.2.1 4) (σ.2.1 5) (σ.2.1 6) (σ.1 32) (σ.2.1 10) (σ.2.1 11) (σ.2.1 12) (σ.2.1 13) (σ.1 42) (σ.2.1 14) (σ.2.2 39) (σ.2.2 40) 1 = _ from y1, Option.bind_some, if_neg (by rw [y2, p2_b, if_pos hA]; decide), a1, Option.bind_some, hlk, Option.bind_some, show f_X7_sumUp 0 (-1) (-1) (-1) 0 _ _ _ _ _ _ _ _ _ _ _ _ _ _ _ _ _ _ _ _ _ _ 0 _ _ _ _ _ _ = _ from b1, Option.bind_some, t1, Option.bind_some]
        · unfold f_X9_when
          rw [p2_isPicture _ r1.2.2.1 hn1, Option.bind_some, if_neg (by rw [p2_b, if_pos hh]; decide), p2_gd ib1, p2_gd ib2, hM, Option.bind_some, if_neg (by rw [p2_b, if_pos hy]; decide), p2_gd ib1, hfr, hsub, s1, Option.bind_some, if_neg (show ¬ p2_b (q_A (τ.1 2) n0 n1 n2 n3 n4 ≠ 0) = 0 by rw [p2_b, if_pos hA]; decide), k1, Option.bind_some]
        · exact ⟨rfl, ⟨n0, n1, n2, n3, n4, hRB, Or.inr ⟨d, d2, d3, d4, hSM⟩⟩, hR, hK0, hK1, hT, i_Fmk k2 k3 k4 t2 t3 (Nat.pos_of_ne_zero hA), hon, b2, hsn, b3⟩
    · apply i_ex
      · unfold f_X8_when f_X8_when_J23
        rw [i_has r1.2.1 (by omega), Option.bind_some, if_neg (by rw [p2_b, if_pos hh]; decide), hY, Option.bind_some, if_pos (p2_b0.mpr hy), p2_refused2, Option.bind_some]
      · unfold f_X9_when f_X9_when_J42
        rw [p2_isPicture _ r1.2.2.1 hn1, Option.bind_some, if_neg (by rw [p2_b, if_pos hh]; decide), p2_gd ib1, p2_gd ib2, hM, Option.bind_some, if_pos (p2_b0.mpr hy), p2_bad, Option.bind_some]
      · exact ⟨rfl, ⟨n0, n1, n2, n3, n4, hRB, hsm⟩, i_Rup hR 0 (by decide), hK0, hK1, hT, hF, hO1, hO2, hS1, hS2⟩
  · apply i_ex
    · unfold f_X8_when f_X8_when_J23
      rw [i_has r1.2.1 (by omega), Option.bind_some, if_pos (p2_b0.mpr hp), p2_refused2, Option.bind_some]
    · unfold f_X9_when f_X9_when_J42
      rw [p2_isPicture _ r1.2.2.1 hn1, Option.bind_some, if_pos (p2_b0.mpr hp), p2_bad, Option.bind_some]
    · exact ⟨rfl, ⟨n0, n1, n2, n3, n4, hRB, hsm⟩, i_Rup hR 0 (by decide), hK0, hK1, hT, hF, hO1, hO2, hS1, hS2⟩
theorem i_ahead : ob_ahead i_Inv := by
  intro σ τ p1 p2 h
  obtain ⟨⟨n0, n1, n2, n3, n4, hRB, hsm⟩, hR, hK0, hK1, hT, hF, hO1, hO2, hS1, hS2⟩ := h
  obtain ⟨r0, r1, r2, r3, r4, rs, v0, v1, v2, v3, v4, v5⟩ := id hRB
  have hn0 := r0.1
  have hn1 := r1.1
  have hn2 := r2.1
  have hn3 := r3.1
  have hn4 := r4.1
  rcases p2_num p1 n1 (by omega) with ⟨a, ha, rfl⟩ | hp
  · have hh := i_has1 ha (by omega)
    rcases p2_num p2 n1 (by omega) with ⟨b, hb, rfl⟩ | hp2
    · have hh2 := i_has1 hb (by omega)
      by_cases hab : a = b
      · apply i_ex
        · unfold f_X8_ahead f_X8_ahead_J33
          rw [i_has r1.2.1 (by omega), Option.bind_some, if_neg (by rw [p2_b, if_pos hh]; decide), i_has r1.2.1 (by omega), Option.bind_some, if_neg (by rw [p2_b, if_pos hh2]; decide), if_pos (by rw [hab]), p2_refused2, Option.bind_some]
        · unfold f_X9_ahead f_X9_ahead_J21
          rw [p2_isPicture _ r1.2.2.1 hn1, Option.bind_some, if_neg (by rw [p2_b, if_pos hh]; decide), p2_isPicture _ r1.2.2.1 hn1, Option.bind_some, if_neg (by rw [p2_b, if_pos hh2]; decide), if_pos (by rw [hab]), p2_bad, Option.bind_some]
        · exact ⟨rfl, ⟨n0, n1, n2, n3, n4, hRB, hsm⟩, i_Rup hR 0 (by decide), hK0, hK1, hT, hF, hO1, hO2, hS1, hS2⟩
      · have hne : ¬ nI a = nI b := fun q => hab ((nI_eq (by omega) (by omega)).mp q)
        obtain ⟨u, y1, y2, ⟨d, d1, d2, d3, d4, hSM⟩, hon, hsn⟩ := i_any hRB hsm hO1 hS1 1 (by omega) (by omega)
        obtain ⟨V, hV, hV0, hV1, hV2⟩ := id hF
        have hLM := i_LMo hRB ha hb hab
        obtain ⟨li, l1, w1, is1, V1, s1, s2, s3, s4, s5, s6⟩ := m_years2 hRB hV (τ.1 10) (τ.1 9) (τ.2.2 9) (τ.2.2 11) hLM
        by_cases hA : q_A (τ.1 2) n0 n1 n2 n3 n4 = 0
        · apply i_ex
          · unfold f_X8_ahead
            rw [i_has r1.2.1 (by omega), Option.bind_some, if_neg (by rw [p2_b, if_pos hh]; decide), i_has r1.2.1 (by omega), Option.bind_some, if_neg (by rw [p2_b, if_pos hh2]; decide), if_neg hne, show f_X8_anyWay (σ.2.2 0) (σ.1 2) (σ.2.2 1) (σ.1 3) (σ.2.2 2) (σ.1 4) (σ.2.2 3) (σ.1 5) (σ.2.2 4) (σ.1 6) (σ.2.2 5) (σ.2.2 6) (σ.2.2 29) (σ.2.2 30) (σ.2.2 31) (σ.2.2 32) (σ.2.2 33) (σ.1 24) (σ.1 25) (σ.1 26) (σ.1 27) (σ.1 28) (σ.1 29) (σ.1 30) (σ.1 31) (σ.2.1 4) (σ.2.1 5) (σ.2.1 6) (σ.1 32) (σ.2.1 10) (σ.2.1 11) (σ.2.1 12) (σ.2.1 13) (σ.1 42) (σ.2.1 14) (σ.2.2 39) (σ.2.2 40) 1 = _ from y1, Option.bind_some, if_pos (by rw [y2, p2_b, if_neg (fun q => q hA)]), i_no, Option.bind_some]
          · unfold f_X9_ahead
            rw [p2_isPicture _ r1.2.2.1 hn1, Option.bind_some, if_neg (by rw [p2_b, if_pos hh]; decide), p2_isPicture _ r1.2.2.1 hn1, Option.bind_some, if_neg (by rw [p2_b, if_pos hh2]; decide), if_neg hne, s1, Option.bind_some, if_pos (by rw [p2_b, if_neg (fun q => q hA)]), p2_no, Option.bind_some]
          · exact ⟨rfl, ⟨n0, n1, n2, n3, n4, hRB, Or.inr ⟨d, d2, d3, d4, hSM⟩⟩, i_Rup hR 1 (by decide), hK0, hK1, hT, ⟨V1, s2, by rw [s5]; exact hV0, by rw [s6]; exact hV1, by rw [s6]; exact hV2⟩, hon, hO2, hsn, hS2⟩
        · obtain ⟨fy', yc', a1, a2, a3⟩ := i_look hRB (σ.1 33) (σ.1 34) 0
          have hLK := q_LK_of (q_BK_of hRB) hLM
          obtain ⟨pl', bf', cl', lk', ls', nm', pr', ws', sub', wy', to', sh', pa', cr', bw', bt', v, b1, b2, b3, b4, b5, b6, b7, b8⟩ := p9_sumUp hRB hLK (i_LAo hRB (a := a) (b := b) fy' yc' a2) 0 0 0 (by decide) (by decide) (fun q => by cases q) (by decide) (fun q => by cases q) (σ.1 35) (σ.1 36) (σ.1 37) (σ.1 38) (σ.1 39) (σ.1 40) (σ.2.1 7) (σ.2.1 8) (σ.2.1 9) (σ.1 41) (σ.2.1 18) (σ.2.1 19) (σ.2.1 20) (σ.2.1 21) (σ.1 43) (σ.2.1 22) hO2 hS2
          have hv := b5 rfl
          obtain ⟨u1, u2, u3, u4, t1, t2, t3⟩ := i_p92 (σ.2.1 0) (σ.2.1 1) (σ.2.1 2) (σ.2.1 3) b4 hSM.2.2.1 (Nat.pos_of_ne_zero hA)
          obtain ⟨l4, w4, V4, k1, k2, k3, k4, k5⟩ := i_tellsHit s2 (by rw [s3]; exact Nat.pos_of_ne_zero hA)
          rw [s3, s4] at k3 k4
          rw [hv] at t2 t3
          have hlk : f_X7_lookInOrder (-1) (-1) (σ.2.2 2) (nI a) (nI b) = some (nI a, nI b) := by
            unfold f_X7_lookInOrder
            rw [i_has r1.2.1 (by omega), Option.bind_some, if_neg (by rw [p2_b, if_pos hh]; decide), i_has r1.2.1 (by omega), Option.bind_some, if_neg (by rw [p2_b, if_pos hh2]; decide)]
          apply i_ex
          · unfold f_X8_ahead
            rw [i_has r1.2.1 (by omega), Option.bind_some, if_neg (by rw [p2_b, if_pos hh]; decide), i_has r1.2.1 (by omega), Option.bind_some, if_neg (by rw [p2_b, if_pos hh2]; decide), if_neg hne, show f_X8_anyWay (σ.2.2 0) (σ.1 2) (σ.2.2 1) (σ.1 3) (σ.2.2 2) (σ.1 4) (σ.2.2 3) (σ.1 5) (σ.2.2 4) (σ.1 6) (σ.2.2 5) (σ.2.2 6) (σ.2.2 29) (σ.2.2 30) (σ.2.2 31) (σ.2.2 32) (σ.2.2 33) (σ.1 24) (σ.1 25) (σ.1 26) (σ.1 27) (σ.1 28) (σ.1 29) (σ.1 30) (σ.1 31) (σ.2.1 4) (σ.2.1 5) (σ.2.1 6) (σ.1 32) (σ.2.1 10) (σ.2.1 11) (σ.2.1 12) (σ.2.1 13) (σ.1 42) (σ.2.1 14) (σ.2.2 39) (σ.2.2 40) 1 = _ from y1, Option.bind_some, if_neg (by rw [y2, p2_b, if_pos hA]; decide), a1, Option.bind_some, hlk, Option.bind_some, show f_X7_sumUp 0 (-1) (nI a) (nI b) 0 _ _ _ _ _ _ _ _ _ _ _ _ _ _ _ _ _ _ _ _ _ _ 0 _ _ _ _ _ _ = _ from b1, Option.bind_some, t1, Option.bind_some]
          · unfold f_X9_ahead
            rw [p2_isPicture _ r1.2.2.1 hn1, Option.bind_some, if_neg (by rw [p2_b, if_pos hh]; decide), p2_isPicture _ r1.2.2.1 hn1, Option.bind_some, if_neg (by rw [p2_b, if_pos hh2]; decide), if_neg hne, s1, Option.bind_some, if_neg (show ¬ p2_b (q_A (τ.1 2) n0 n1 n2 n3 n4 ≠ 0) = 0 by rw [p2_b, if_pos hA]; decide), k1, Option.bind_some]
          · exact ⟨rfl, ⟨n0, n1, n2, n3, n4, hRB, Or.inr ⟨d, d2, d3, d4, hSM⟩⟩, hR, hK0, hK1, hT, i_Fmk k2 k3 k4 t2 t3 (Nat.pos_of_ne_zero hA), hon, b2, hsn, b3⟩
    · apply i_ex
      · unfold f_X8_ahead f_X8_ahead_J33
        rw [i_has r1.2.1 (by omega), Option.bind_some, if_neg (by rw [p2_b, if_pos hh]; decide), i_has r1.2.1 (by omega), Option.bind_some, if_pos (p2_b0.mpr hp2), p2_refused2, Option.bind_some]
      · unfold f_X9_ahead f_X9_ahead_J21
        rw [p2_isPicture _ r1.2.2.1 hn1, Option.bind_some, if_neg (by rw [p2_b, if_pos hh]; decide), p2_isPicture _ r1.2.2.1 hn1, Option.bind_some, if_pos (p2_b0.mpr hp2), p2_bad, Option.bind_some]
      · exact ⟨rfl, ⟨n0, n1, n2, n3, n4, hRB, hsm⟩, i_Rup hR 0 (by decide), hK0, hK1, hT, hF, hO1, hO2, hS1, hS2⟩
  · apply i_ex
    · unfold f_X8_ahead f_X8_ahead_J33
      rw [i_has r1.2.1 (by omega), Option.bind_some, if_pos (p2_b0.mpr hp), p2_refused2, Option.bind_some]
    · unfold f_X9_ahead f_X9_ahead_J21
      rw [p2_isPicture _ r1.2.2.1 hn1, Option.bind_some, if_pos (p2_b0.mpr hp), p2_bad, Option.bind_some]
    · exact ⟨rfl, ⟨n0, n1, n2, n3, n4, hRB, hsm⟩, i_Rup hR 0 (by decide), hK0, hK1, hT, hF, hO1, hO2, hS1, hS2⟩
