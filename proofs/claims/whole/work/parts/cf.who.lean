/-! who, named, ... -/
theorem i_rg (k w : Nat) : (12 : Int32) + 6 * nI k + nI w = nI (12 + 6 * k + w) := by
  rw [show (12 : Int32) = nI 12 from rfl, show (6 : Int32) = nI 6 from rfl, pk_mul, nI_add, nI_add]
theorem i_rgc (k w : Nat) : nI k * 6 + nI w = nI (k * 6 + w) := by
  rw [show (6 : Int32) = nI 6 from rfl, pk_mul, nI_add]
theorem i_who : ob_who i_Inv := by
  intro σ τ p1 p2 h
  obtain ⟨⟨n0, n1, n2, n3, n4, hRB, hsm⟩, hR, hK0, hK1, hT, hF, hO1, hO2, hS1, hS2⟩ := h
  obtain ⟨r0, r1, r2, r3, r4, rs, v0, v1, v2, v3, v4, v5⟩ := id hRB
  have hn0 := r0.1
  have hn1 := r1.1
  have hn2 := r2.1
  have hn3 := r3.1
  rcases p2_num p1 n2 (by omega) with ⟨hd, hhd, rfl⟩ | hh
  · have hh := i_has1 hhd (by omega)
    rcases i_whoIs p2 n0 hn0 with ⟨w, hw, hor, hwe⟩ | ⟨hp1, hp2⟩
    · have hw6 : w < 6 := by rcases hw with q | q <;> omega
      have hwho : f_X8_isWho (σ.2.2 1) p2 = some 1 := by
        unfold f_X8_isWho f_X8_isWho_J19
        rw [i_has r0.2.1 (by omega), Option.bind_some, p4_bt]
        rcases hor with z | z
        · rw [if_pos z]
        · rw [if_pos z]; split <;> rfl
      have hwis : f_X8_whoIs p2 = some (nI w) := by
        unfold f_X8_whoIs
        rw [← hwe]; split <;> rfl
      have hmw : ∀ {A : Type} (X Z : Option A), (if p2 = -1 then X else (if 0 ≤ p2.toInt ∧ p2.toInt < (n0 : Int) then X else Z)) = X := fun X Z => by
        rcases hor with z | z
        · rw [if_pos z]
        · rw [if_pos z]; split <;> rfl
      have hmf : ∀ {A : Type} (f : Int32 → A), (if p2 = -1 then f 5 else f p2) = f (nI w) := fun f => by rw [← hwe]; split <;> rfl
      obtain ⟨y, y1, y2, ⟨d, d1, d2, d3, d4, hSM⟩, hon, hsn⟩ := i_any hRB hsm hO1 hS1 1 (by omega) (by omega)
      obtain ⟨V, hV, hV0, hV1, hV2⟩ := id hF
      obtain ⟨li, b1, b2⟩ := m_begins hRB (τ.1 10)
      obtain ⟨l1, w1, is1, V1, s1, s2, s3, s4, s5, s6⟩ := m_shares hRB b2 (i_LM0 hRB (τ.2.2 9) (τ.2.2 11)) (τ.1 0) (τ.1 1) (τ.1 9) V hV (as := false) (aq := 0) (aI := -1) (fun q => by cases q) (fun _ => rfl)
      have w6 := i_w6 s2 (r := 6) (by decide) (by decide)
      have s3' : V1 6 = q_A (τ.1 2) n0 n1 n2 n3 n4 := s3
      have s4' : ∀ k x, k < n2 → x < 6 → V1 (12 + 6 * k + x) = q_S (τ.1 2) n0 n1 n2 n3 n4 k x := s4
      have hF1 : i_F (σ.2.1 0) (σ.2.1 1) l1 w1 := ⟨V1, s2, by rw [s6 0 (by decide) (by decide) (by decide) (by decide)]; exact hV0, by rw [s6 1 (by decide) (by decide) (by decide) (by decide)]; exact hV1, by rw [s6 1 (by decide) (by decide) (by decide) (by decide)]; exact hV2⟩
      by_cases hA : q_A (τ.1 2) n0 n1 n2 n3 n4 = 0
      · apply i_ex
        · unfold f_X8_who
          rw [i_has r2.2.1 (by omega), Option.bind_some, if_neg (by rw [p2_b, if_pos hh]; decide), hwho, Option.bind_some, if_neg (by decide), show f_X8_anyWay (σ.2.2 0) (σ.1 2) (σ.2.2 1) (σ.1 3) (σ.2.2 2) (σ.1 4) (σ.2.2 3) (σ.1 5) (σ.2.2 4) (σ.1 6) (σ.2.2 5) (σ.2.2 6) (σ.2.2 29) (σ.2.2 30) (σ.2.2 31) (σ.2.2 32) (σ.2.2 33) (σ.1 24) (σ.1 25) (σ.1 26) (σ.1 27) (σ.1 28) (σ.1 29) (σ.1 30) (σ.1 31) (σ.2.1 4) (σ.2.1 5) (σ.2.1 6) (σ.1 32) (σ.2.1 10) (σ.2.1 11) (σ.2.1 12) (σ.2.1 13) (σ.1 42) (σ.2.1 14) (σ.2.2 39) (σ.2.2 40) 1 = _ from y1, Option.bind_some, if_pos (by rw [y2, p2_b, if_neg (fun q => q hA)]), i_no, Option.bind_some]
        · unfold f_X9_who f_X9_who_J26
          rw [p2_isHead _ r2.2.2.1 hn2, Option.bind_some, if_neg (by rw [p2_b, if_pos hh]; decide), p2_isPerson _ r0.2.2.1 hn0, Option.bind_some, p4_bt, hmw, b1, Option.bind_some, show f_X9_shares (τ.1 0) (τ.1 1) (τ.1 2) (τ.1 9) li (-1) (-1) (τ.2.2 9) (-1) (τ.2.2 11) (-1) = _ from s1, Option.bind_some, p2_gd (by decide), if_pos (show w1 (cx_ix 6) = 0 from w6.mpr (s3'.trans hA)), p2_no, Option.bind_some]
        · exact ⟨rfl, ⟨n0, n1, n2, n3, n4, hRB, Or.inr ⟨d, d2, d3, d4, hSM⟩⟩, i_Rup hR 1 (by decide), hK0, hK1, hT, hF1, hon, hO2, hsn, hS2⟩
      · obtain ⟨u1, u2, u3, u4, t1, t2, t3⟩ := i_p83 (σ.2.1 0) (σ.2.1 1) (σ.2.1 2) (σ.2.1 3) (i := hd * 6 + w) (by omega) (hSM.2.2.2.1 hd w hhd hw6) hSM.2.2.1 (Nat.pos_of_ne_zero hA)
        obtain ⟨l2, w2, e1, e2, e3⟩ := p4_takes (r := 7) (o := 12 + 6 * hd + w) (by decide) (by omega) (by omega) (s2 _ (by omega) (by omega))
        obtain ⟨l4, w4, V4, k1, k2, k3, k4, k5⟩ := i_tellsHit (s2.set e2 e3) (by rw [p4_un (by decide), s3']; exact Nat.pos_of_ne_zero hA)
        rw [p4_us, p4_un (by decide), s3', s4' hd w hhd hw6] at k3 k4
        apply i_ex
        · unfold f_X8_who
          rw [i_has r2.2.1 (by omega), Option.bind_some, if_neg (by rw [p2_b, if_pos hh]; decide), hwho, Option.bind_some, if_neg (by decide), show f_X8_anyWay (σ.2.2 0) (σ.1 2) (σ.2.2 1) (σ.1 3) (σ.2.2 2) (σ.1 4) (σ.2.2 3) (σ.1 5) (σ.2.2 4) (σ.1 6) (σ.2.2 5) (σ.2.2 6) (σ.2.2 29) (σ.2.2 30) (σ.2.2 31) (σ.2.2 32) (σ.2.2 33) (σ.1 24) (σ.1 25) (σ.1 26) (σ.1 27) (σ.1 28) (σ.1 29) (σ.1 30) (σ.1 31) (σ.2.1 4) (σ.2.1 5) (σ.2.1 6) (σ.1 32) (σ.2.1 10) (σ.2.1 11) (σ.2.1 12) (σ.2.1 13) (σ.1 42) (σ.2.1 14) (σ.2.2 39) (σ.2.2 40) 1 = _ from y1, Option.bind_some, if_neg (by rw [y2, p2_b, if_pos hA]; decide), hwis, Option.bind_some, i_rgc, t1, Option.bind_some]
        · unfold f_X9_who f_X9_who_J26
          rw [p2_isHead _ r2.2.2.1 hn2, Option.bind_some, if_neg (by rw [p2_b, if_pos hh]; decide), p2_isPerson _ r0.2.2.1 hn0, Option.bind_some, p4_bt, hmw, b1, Option.bind_some, show f_X9_shares (τ.1 0) (τ.1 1) (τ.1 2) (τ.1 9) li (-1) (-1) (τ.2.2 9) (-1) (τ.2.2 11) (-1) = _ from s1, Option.bind_some, p2_gd (by decide), if_neg (show ¬ w1 (cx_ix 6) = 0 from fun q => hA (s3'.symm.trans (w6.mp q))), hmf (fun x => f_X9_who_J70 (τ.1 6) (-1) (-1) (-1) l1 w1 is1 li 7 (12 + 6 * nI hd) x)]
          unfold f_X9_who_J70
          rw [i_rg, show f_X9_takes l1 w1 7 (nI (12 + 6 * hd + w)) = _ from e1, Option.bind_some, k1, Option.bind_some]
        · exact ⟨rfl, ⟨n0, n1, n2, n3, n4, hRB, Or.inr ⟨d, d2, d3, d4, hSM⟩⟩, hR, hK0, hK1, hT, i_Fmk k2 k3 k4 t2 t3 (Nat.pos_of_ne_zero hA), hon, hO2, hsn, hS2⟩
    · have hnw : f_X8_isWho (σ.2.2 1) p2 = some 0 := by
        unfold f_X8_isWho f_X8_isWho_J19
        rw [i_has r0.2.1 (by omega), Option.bind_some, p4_bt, if_neg hp1, if_neg hp2]
      apply i_ex
      · unfold f_X8_who f_X8_who_J22
        rw [i_has r2.2.1 (by omega), Option.bind_some, if_neg (by rw [p2_b, if_pos hh]; decide), hnw, Option.bind_some, if_pos rfl, p2_refused2, Option.bind_some]
      · unfold f_X9_who f_X9_who_J21
        rw [p2_isHead _ r2.2.2.1 hn2, Option.bind_some, if_neg (by rw [p2_b, if_pos hh]; decide), if_neg hp1, p2_isPerson _ r0.2.2.1 hn0, Option.bind_some, if_pos (p2_b0.mpr hp2), p2_bad, Option.bind_some]
      · exact ⟨rfl, ⟨n0, n1, n2, n3, n4, hRB, hsm⟩, i_Rup hR 0 (by decide), hK0, hK1, hT, hF, hO1, hO2, hS1, hS2⟩
  · apply i_ex
    · unfold f_X8_who f_X8_who_J22
      rw [i_has r2.2.1 (by omega), Option.bind_some, if_pos (p2_b0.mpr hh), p2_refused2, Option.bind_some]
    · unfold f_X9_who f_X9_who_J21
      rw [p2_isHead _ r2.2.2.1 hn2, Option.bind_some, if_pos (p2_b0.mpr hh), p2_bad, Option.bind_some]
    · exact ⟨rfl, ⟨n0, n1, n2, n3, n4, hRB, hsm⟩, i_Rup hR 0 (by decide), hK0, hK1, hT, hF, hO1, hO2, hS1, hS2⟩
