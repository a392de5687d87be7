theorem p8_lt6 (hp : Nat → Nat) (k p : Nat) (hk : k ≤ 6) : p6_cl hp k p ≤ 6 := by
  by_cases q : p6_cl hp k p = 6
  · omega
  · have := (p6_cl_lt q).1; omega
theorem p8_6 {a : Nat} (h : a < 2 ^ 31) : nI a = 6 ↔ a = 6 := nI_eq h (by decide)
section W3
variable {hp : Nat → Nat} {L : Nat → Nat → Nat → Nat} {yc fy : Nat → Nat} {n0 n1 n2 n3 n4 : Nat} {od : Bool} {ea la : Nat} {nh : Nat → Nat} {nf : Nat → Nat → Nat} {ja jb jw : Nat → Nat} {ω : Nat → Nat}
variable {eI lI : Int32} {fyA ycA plA bfA clA lkA lsA nmA wy c4 : Nat → Int32} {z4 : Int32} {pr : Nat → Int64}
/-- a head more on the picture -/
theorem p8_T_next {h w y : Nat} : p6_T hp L (p4_u ω h w) (h + 1) (hp h) y = p6_T hp L ω h (hp h) y * L h w y := by
  rw [p6_T_s, if_pos rfl, p4_us]
  congr 1
  exact p6_T_congr (fun e he => p4_un (by omega))
theorem p8_PR_w {h w : Nat} {pr' : Nat → Int64} (hPR : p8_PR hp L yc n2 od ea la pr h ω) (hh : h < 6) (hyc : ∀ p, yc p ≤ 12) (hfr : ∀ j, (j < h * 12 ∨ h * 12 + 12 ≤ j) → pr' j = pr j) (hrow : (p6_cl hp n2 (hp h) ≠ h ∨ p6_iob od ea la (hp h) = true) → ∀ y, y < yc (hp h) → pr' (h * 12 + y) = lN (p6_T hp L (p4_u ω h w) (h + 1) (hp h) y)) : p8_PR hp L yc n2 od ea la pr' (h + 1) (p4_u ω h w) := by
  refine ⟨fun y hy => by rw [hfr _ (by omega)]; exact hPR.1 y hy, fun e he hc y hy => ?_⟩
  by_cases q : e = h
  · subst q
    exact hrow hc y hy
  · have := hyc (hp e)
    rw [hfr _ (by omega), hPR.2 e (by omega) hc y hy]
    congr 1
    exact p6_T_congr (fun i hi => (p4_un (by omega)).symm)
/-- takings -/
theorem p8_takings (hOK : p8_OK hp L yc fy n0 n1 n2 n3 n4 od ea la nh nf ja jb jw) (hST : p8_ST hp L yc fy n0 n1 n2 n3 od ea la nh nf eI lI fyA ycA plA bfA clA lkA lsA nmA) (h w : Nat) (hh : h < n2) (hw : k_w n0 w) (hω : ∀ e, e < h → k_w n0 (ω e)) (hPR : p8_PR hp L yc n2 od ea la pr h ω) : ∃ t pr', f_X7_takings eI lI fyA ycA plA bfA clA lkA lsA pr (nI h) (nI w) = some (lN t, pr') ∧ t ≤ 166583718925369344 ∧ (∀ j, (j < h * 12 ∨ h * 12 + 12 ≤ j) → pr' j = pr j) ∧ p8_PR hp L yc n2 od ea la pr' (h + 1) (p4_u ω h w) ∧ (t ≠ 0 → t = p6_tk hp L yc fy n2 od ea la (p4_u ω h w) h) ∧ (t = 0 → p6_tk hp L yc fy n2 od ea la (p4_u ω h w) h = 0 ∨ ∀ y, y < yc (hp h) → p6_T hp L (p4_u ω h w) (h + 1) (hp h) y = 0) := by
  obtain ⟨on0, on1, on2, on3, on4, ohp, ood, oyc, ofy, oL, onh, oj⟩ := hOK
  obtain ⟨s1, s2, s3, s4, s5, s6⟩ := hST
  obtain ⟨a1, a2, a3⟩ := s4 h w hh hw
  have hw6 := k_w_lt on0 hw
  have hph := ohp h hh
  have hyc := oyc (hp h)
  have hfA := s1 (hp h) hph
  have hrow := p8_row hPR on2 hh hyc
  have hbl := p8_lt6 hp h (hp h) (by omega)
  have hbne : p6_cl hp h (hp h) ≠ h := by
    by_cases q : p6_cl hp h (hp h) = 6
    · omega
    · have := (p6_cl_lt q).1; omega
  have hLle : ∀ y, L h w y ≤ 324 := fun y => oL h w y hh hw
  have hTle : ∀ y, p6_T hp L ω h (hp h) y ≤ 1156831381426176 := fun y => p8_T_bd (by omega) (fun e he => oL e _ y (by omega) (hω e he))
  have hL' : ∀ e y, e < n2 → e ≤ h → L e (p4_u ω h w e) y ≤ 324 := fun e y he hle => by
    by_cases q : e = h
    · subst q; rw [p4_us]; exact hLle y
    · rw [p4_un q]; exact oL e _ y he (hω e (by omega))
  have hclh : clA (hp h) = nI (p6_cl hp n2 (hp h)) := s3 (hp h) hph
  have hc6 := p8_lt6 hp n2 (hp h) on2
  -- multiplyYears
  obtain ⟨pm, fm, m1, m2, m3, m4⟩ := p8_mulYearsL lkA (fun y => p6_T hp L ω h (hp h) y) (fun y => L h w y) (p6_cl hp h (hp h) * 12) ((h * 6 + w) * 12) h (yc (hp h)) (by omega) (by omega) (by omega) hyc (by omega) (fun y hy => ⟨a1 y hy, hLle y⟩) (fun y _ => hTle y) (yc (hp h)) 0 cx_N0 pr false (by omega) (by unfold cx_N0; omega) hrow (fun t ht => by omega) ⟨fun q => (by cases q), fun ⟨t, ht, _⟩ => by omega⟩
  have hmul : f_X7_multiplyYears ycA plA bfA lkA pr (nI h) (nI w) = some (p2_b (fm = true), pm) := by
    unfold f_X7_multiplyYears
    rw [p2_gd (p2_ib (by omega) (by decide)), p2_ix (n := h) (by omega), (s2 h hh).1, (s2 h hh).2]
    simp only [cx_let]
    rw [p2_gd (p2_ib (by omega) (by decide)), p2_gd (p2_ib (by omega) (by decide)), p2_ix (n := hp h) (by omega), hfA.2, show (12 : Int32) = nI 12 from rfl, show (6 : Int32) = nI 6 from rfl, pk_mul, pk_mul, nI_add, pk_mul]
    exact m1
  have hrow' : ∀ y, y < yc (hp h) → pm (h * 12 + y) = lN (p6_T hp L (p4_u ω h w) (h + 1) (hp h) y) := fun y hy => by rw [m3 y hy, p8_T_next]
  have hPR' : p8_PR hp L yc n2 od ea la pm (h + 1) (p4_u ω h w) := p8_PR_w hPR (by omega) oyc m2 (fun _ => hrow')
  have hzero : fm = false → ∀ y, y < yc (hp h) → p6_T hp L (p4_u ω h w) (h + 1) (hp h) y = 0 := fun hf y hy => by
    rw [p8_T_next]
    by_cases q : p6_T hp L ω h (hp h) y * L h w y = 0
    · exact q
    · exact absurd (m4.mpr ⟨y, hy, q⟩) (by rw [hf]; decide)
  -- the road through J78
  have J78 : ∀ (s0 : Int32), (p6_iob od ea la (hp h) = true ↔ s0 ≠ 0) → (p6_iob od ea la (hp h) = true ∨ p6_cl hp n2 (hp h) ≠ h) → ∃ t pr', f_X7_takings_J78 eI lI fyA ycA plA bfA clA lkA pr (nI h) (nI w) s0 = some (lN t, pr') ∧ t ≤ 166583718925369344 ∧ (∀ j, (j < h * 12 ∨ h * 12 + 12 ≤ j) → pr' j = pr j) ∧ p8_PR hp L yc n2 od ea la pr' (h + 1) (p4_u ω h w) ∧ (t ≠ 0 → t = p6_tk hp L yc fy n2 od ea la (p4_u ω h w) h) ∧ (t = 0 → p6_tk hp L yc fy n2 od ea la (p4_u ω h w) h = 0 ∨ ∀ y, y < yc (hp h) → p6_T hp L (p4_u ω h w) (h + 1) (hp h) y = 0) := by
    intro s0 hs0 hor
    unfold f_X7_takings_J78
    rw [hmul, Option.bind_some]
    dsimp only
    rw [p4_bt]
    by_cases hf : fm = true
    · rw [if_pos hf]
      by_cases hi : p6_iob od ea la (hp h) = true
      · obtain ⟨ho, hio⟩ := p6_iob_t.mp hi
        obtain ⟨q1, q2, q3⟩ := ood ho
        obtain ⟨q4, q5⟩ := s5 ho
        rw [if_neg (hs0.mp hi), p8_both (hp := hp) (n2 := n2) (ea := ea) (la := la) h hh on2 (by omega) (by omega) q4 q5 (s3 ea q1) (s3 la q2), Option.bind_some, p4_bt]
        by_cases hb : p6_bt hp n2 ea la h = true
        · rw [if_pos hb]
          obtain ⟨b1, b2⟩ := p6_bt_t.mp hb
          -- the two rows
          have hR : ∀ p, (p = ea ∨ p = la) → (p6_cl hp n2 p ≤ h ∨ p6_cl hp n2 p = 6) → ∀ y, y < yc p → pm (p6_cl hp n2 p * 12 + y) = lN (p6_T hp L (p4_u ω h w) n2 p y) := by
            intro p hp1 hp2 y hy
            have hyp := oyc p
            by_cases q6 : p6_cl hp n2 p = 6
            · rw [q6, p6_T_empty (p6_cl_6 on2 q6)]
              exact hPR'.1 y (by omega)
            · obtain ⟨l1, l2, l3⟩ := p6_cl_lt q6
              have hle : p6_cl hp n2 p ≤ h := by rcases hp2 with z | z; exact z; exact absurd z q6
              generalize hec : p6_cl hp n2 p = e at *
              have hrw : pm (e * 12 + y) = lN (p6_T hp L (p4_u ω h w) (e + 1) p y) := by
                have := hPR'.2 e (by omega) (Or.inr (by rw [l2]; exact p6_iob_t.mpr ⟨ho, hp1⟩)) y (by rw [l2]; exact hy)
                rw [l2] at this
                exact this
              rw [hrw]
              congr 1
              exact (p6_pr_cut (by omega) (fun i i1 i2 => if_neg (l3 i (by omega) i2))).symm
          have hyo : f_X7_yearsInOrder eI lI fyA ycA clA pm = some (lN (p6_PO hp L yc fy n2 ea la (p4_u ω h w))) := by
            unfold f_X7_yearsInOrder p6_PO
            exact p8_orderO (pr := pm) (ea := ea) (la := la) eI lI fyA ycA clA (fun y => p6_T hp L (p4_u ω h w) n2 ea y) (fun z => p6_T hp L (p4_u ω h w) n2 la z) (p6_cl hp n2 ea) (p6_cl hp n2 la) (yc ea) (yc la) (fy ea) (fy la) (by omega) (by omega) q4 q5 (s1 ea q1).2 (s1 ea q1).1 (s3 ea q1) (s1 la q2).2 (s1 la q2).1 (s3 la q2) (p8_lt6 hp n2 ea on2) (p8_lt6 hp n2 la on2) (oyc ea) (oyc la) (ofy ea) (ofy la) (hR ea (Or.inl rfl) b1) (hR la (Or.inr rfl) b2) (yc la) 0 0 cx_N0 (by omega) (by unfold cx_N0; have := oyc la; omega) (by omega)
          rw [hyo, Option.bind_some]
          have htk : p6_tk hp L yc fy n2 od ea la (p4_u ω h w) h = p6_PO hp L yc fy n2 ea la (p4_u ω h w) := by
            unfold p6_tk
            rw [if_pos hi, if_pos hb]
          refine ⟨_, pm, rfl, ?_, m2, hPR', fun _ => htk.symm, fun q => Or.inl (htk.trans q)⟩
          -- only heads up to h count here
          have hcg : p6_PO hp L yc fy n2 ea la (p4_u ω h w) = p6_PO hp L yc fy n2 ea la (fun e => if e ≤ h then p4_u ω h w e else 5) := p6_PO_congr (fun y => by
            rw [p6_T_cut on2 hh b1, p6_T_cut on2 hh b1]
            exact p6_T_congr (fun e he => (if_pos (by omega)).symm)) (fun y => by
            rw [p6_T_cut on2 hh b2, p6_T_cut on2 hh b2]
            exact p6_T_congr (fun e he => (if_pos (by omega)).symm))
          rw [hcg]
          refine Nat.le_trans (p6_PO_le (oyc _) (oyc _) (fun e y he hy => ?_)) ?_
          · by_cases q : e ≤ h
            · rw [if_pos q]; exact hL' e y he q
            · rw [if_neg q]; exact oL e 5 y he (Or.inl rfl)
          · have g2 := p6_G2_le (hp := hp) (k := n2) q3
            have p6 : 324 ^ n2 ≤ 324 ^ 6 := Nat.pow_le_pow_right (by decide) on2
            rw [Nat.mul_mul_mul_comm]
            have := Nat.mul_le_mul_left (12 * 12) (Nat.le_trans g2 p6)
            exact Nat.le_trans this (by decide)
        · rw [if_neg hb]
          have htk : p6_tk hp L yc fy n2 od ea la (p4_u ω h w) h = 1 := by
            unfold p6_tk
            rw [if_pos hi, if_neg hb]
          exact ⟨1, pm, rfl, by decide, m2, hPR', fun _ => htk.symm, fun q => by cases q⟩
      · have hne : p6_cl hp n2 (hp h) ≠ h := by rcases hor with z | z; exact absurd z hi; exact z
        have e0 : s0 = 0 := by
          by_cases q : s0 = 0
          · exact q
          · exact absurd (hs0.mpr q) hi
        rw [if_pos e0]
        have htk : p6_tk hp L yc fy n2 od ea la (p4_u ω h w) h = 1 := by
          unfold p6_tk
          rw [if_neg hi, if_neg hne]
        exact ⟨1, pm, rfl, by decide, m2, hPR', fun _ => htk.symm, fun q => by cases q⟩
    · rw [if_neg hf]
      exact ⟨0, pm, rfl, by decide, m2, hPR', fun q => absurd rfl q, fun _ => Or.inr (hzero (by simpa using hf))⟩
  -- the closing head of a picture not in order
  have J28 : ∀ (s0 : Int32), (p6_iob od ea la (hp h) = true ↔ s0 ≠ 0) → ∃ t pr', f_X7_takings_J28 eI lI fyA ycA plA bfA clA lkA lsA pr (nI h) (nI w) (nI (hp h)) s0 = some (lN t, pr') ∧ t ≤ 166583718925369344 ∧ (∀ j, (j < h * 12 ∨ h * 12 + 12 ≤ j) → pr' j = pr j) ∧ p8_PR hp L yc n2 od ea la pr' (h + 1) (p4_u ω h w) ∧ (t ≠ 0 → t = p6_tk hp L yc fy n2 od ea la (p4_u ω h w) h) ∧ (t = 0 → p6_tk hp L yc fy n2 od ea la (p4_u ω h w) h = 0 ∨ ∀ y, y < yc (hp h) → p6_T hp L (p4_u ω h w) (h + 1) (hp h) y = 0) := by
    intro s0 hs0
    unfold f_X7_takings_J28
    rw [p2_gd (p2_ib (by omega) (by decide)), p2_ix (n := hp h) (by omega), hclh]
    by_cases hc : p6_cl hp n2 (hp h) = h
    · rw [if_pos (by rw [hc])]
      by_cases e0 : s0 = 0
      · rw [if_pos e0]
        have hi : ¬ p6_iob od ea la (hp h) = true := fun q => (hs0.mp q) e0
        have hPS : p6_PS hp L yc n2 (p4_u ω h w) (hp h) = p6_sm (yc (hp h)) (fun y => p6_T hp L ω h (hp h) y * L h w y) := by
          unfold p6_PS
          exact p6_sm_congr (fun y _ => by rw [p6_T_cut on2 hh (Or.inl (Nat.le_of_eq hc)), p8_T_next])
        have htk : p6_tk hp L yc fy n2 od ea la (p4_u ω h w) h = p6_sm (yc (hp h)) (fun y => p6_T hp L ω h (hp h) y * L h w y) := by
          unfold p6_tk
          rw [if_neg hi, if_pos hc, hPS]
        have hbd : p6_sm (yc (hp h)) (fun y => p6_T hp L ω h (hp h) y * L h w y) ≤ 166583718925369344 := by
          rw [← hPS]
          have hcg : p6_PS hp L yc n2 (p4_u ω h w) (hp h) = p6_PS hp L yc n2 (fun e => if e ≤ h then p4_u ω h w e else 5) (hp h) := by
            unfold p6_PS
            exact p6_sm_congr (fun y _ => by
              rw [p6_T_cut on2 hh (Or.inl (Nat.le_of_eq hc)), p6_T_cut on2 hh (Or.inl (Nat.le_of_eq hc))]
              exact p6_T_congr (fun e he => (if_pos (by omega)).symm))
          rw [hcg]
          refine Nat.le_trans (p6_PS_le (oyc _) (fun e y he hy => ?_)) ?_
          · by_cases q : e ≤ h
            · rw [if_pos q]; exact hL' e y he q
            · rw [if_neg q]; exact oL e 5 y he (Or.inl rfl)
          · have g2 := p6_G_le (hp := hp) (k := n2) (p := hp h)
            have p6 : 324 ^ n2 ≤ 324 ^ 6 := Nat.pow_le_pow_right (by decide) on2
            exact Nat.le_trans (Nat.mul_le_mul_left 12 (Nat.le_trans g2 p6)) (by decide)
        have hPRs : p8_PR hp L yc n2 od ea la pr (h + 1) (p4_u ω h w) := p8_PR_w hPR (by omega) oyc (fun _ _ => rfl) (fun z => by rcases z with z | z; exact absurd hc z; exact absurd z hi)
        rw [p2_gd (p2_ib (by omega) (by decide)), p2_ix (n := h) (by omega), (s2 h hh).2]
        by_cases h6 : p6_cl hp h (hp h) = 6
        · rw [h6, if_pos (show nI 6 = 6 from rfl), show (6 : Int32) = nI 6 from rfl, pk_mul, nI_add, p2_gd (p2_ib (by omega) (by decide)), p2_ix (n := h * 6 + w) (by omega), a2]
          have hsum : p6_sm (yc (hp h)) (L h w) = p6_sm (yc (hp h)) (fun y => p6_T hp L ω h (hp h) y * L h w y) := p6_sm_congr (fun y _ => by rw [p6_T_empty (p6_cl_6 (by omega) h6), Nat.one_mul])
          have hsm : p6_sm (yc (hp h)) (L h w) ≤ 12 * 324 := by
            refine Nat.le_trans (p6_sm_le (g := fun _ => 324) (fun y _ => hLle y)) ?_
            rw [p6_sm_const]
            exact Nat.mul_le_mul_right _ hyc
          refine ⟨p6_sm (yc (hp h)) (L h w), pr, by rw [nI_l (by omega)], by omega, fun _ _ => rfl, hPRs, fun _ => by rw [htk, hsum], fun q => Or.inl (by rw [htk, ← hsum]; exact q)⟩
        · rw [if_neg (fun q => h6 ((p8_6 (by omega)).mp q))]
          have hsy : f_X7_sumYears ycA plA bfA lkA pr (nI h) (nI w) = some (lN (p6_sm (yc (hp h)) (fun y => p6_T hp L ω h (hp h) y * L h w y))) := by
            unfold f_X7_sumYears
            rw [p2_gd (p2_ib (by omega) (by decide)), p2_ix (n := h) (by omega), (s2 h hh).1, (s2 h hh).2]
            simp only [cx_let]
            rw [p2_gd (p2_ib (by omega) (by decide)), p2_gd (p2_ib (by omega) (by decide)), p2_ix (n := hp h) (by omega), hfA.2, show (12 : Int32) = nI 12 from rfl, show (6 : Int32) = nI 6 from rfl, pk_mul, pk_mul, nI_add, pk_mul]
            exact p8_sumYearsL lkA (fun y => p6_T hp L ω h (hp h) y) (fun y => L h w y) (p6_cl hp h (hp h) * 12) ((h * 6 + w) * 12) (yc (hp h)) (by omega) (by omega) hyc (fun y hy => ⟨hrow y hy, hTle y⟩) (fun y hy => ⟨a1 y hy, hLle y⟩) (yc (hp h)) 0 cx_N0 (by omega) (by unfold cx_N0; omega)
          rw [hsy, Option.bind_some]
          exact ⟨_, pr, rfl, hbd, fun _ _ => rfl, hPRs, fun _ => htk.symm, fun q => Or.inl (htk.trans q)⟩
      · rw [if_neg e0]
        exact J78 s0 hs0 (Or.inl (hs0.mpr e0))
    · rw [if_neg (fun q => hc ((nI_eq (by omega) (by omega)).mp q))]
      exact J78 s0 hs0 (Or.inr hc)
  unfold f_X7_takings f_X7_takings_J23
  rw [p2_gd (p2_ib (by omega) (by decide)), p2_ix (n := h) (by omega), (s2 h hh).1]
  by_cases ho : od = true
  · obtain ⟨q1, q2, q3⟩ := ood ho
    obtain ⟨q4, q5⟩ := s5 ho
    by_cases e1 : hp h = ea
    · rw [if_pos (by rw [q4, e1])]
      exact J28 1 ⟨fun _ => by decide, fun _ => p6_iob_t.mpr ⟨ho, Or.inl e1⟩⟩
    · rw [if_neg (fun q => e1 ((nI_eq (by omega) (by omega)).mp (q.trans q4)))]
      by_cases e2 : hp h = la
      · rw [if_pos (by rw [q5, e2])]
        exact J28 1 ⟨fun _ => by decide, fun _ => p6_iob_t.mpr ⟨ho, Or.inr e2⟩⟩
      · rw [if_neg (fun q => e2 ((nI_eq (by omega) (by omega)).mp (q.trans q5)))]
        exact J28 0 ⟨fun q => by rcases (p6_iob_t.mp q).2 with z | z; exact absurd z e1; exact absurd z e2, fun q => absurd rfl q⟩
  · have hof : od = false := by simpa using ho
    obtain ⟨q4, q5⟩ := s6 hof
    rw [if_neg (fun q => p2_nIne _ (by omega) (q.trans q4)), if_neg (fun q => p2_nIne _ (by omega) (q.trans q5))]
    exact J28 0 ⟨fun q => absurd (p6_iob_t.mp q).1 ho, fun q => absurd rfl q⟩
end W3
