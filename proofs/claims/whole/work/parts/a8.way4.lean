/-- the weight that counts: none, if one is twice on a picture -/
def p8_Wt (hp : Nat → Nat) (L : Nat → Nat → Nat → Nat) (yc fy : Nat → Nat) (n1 n2 n3 n4 : Nat) (od : Bool) (ea la : Nat) (nh : Nat → Nat) (nf : Nat → Nat → Nat) (ja jb jw : Nat → Nat) (ω : Nat → Nat) : Nat := if p8_twb hp ω n2 = true then 0 else p6_W hp L yc fy n1 n2 n3 n4 od ea la nh nf ja jb jw ω
theorem p8_tb_congr {hp ω ω' : Nat → Nat} {p w : Nat} : ∀ {k : Nat}, (∀ e, e < k → ω e = ω' e) → p8_tb hp ω p w k = p8_tb hp ω' p w k := by
  intro k
  induction k with
  | zero => intro _; rfl
  | succ k ih => intro h; rw [p8_tb, p8_tb, ih (fun e he => h e (by omega)), h k (by omega)]
theorem p8_twb_congr {hp ω ω' : Nat → Nat} : ∀ {k : Nat}, (∀ e, e < k → ω e = ω' e) → p8_twb hp ω k = p8_twb hp ω' k := by
  intro k
  induction k with
  | zero => intro _; rfl
  | succ k ih => intro h; rw [p8_twb, p8_twb, ih (fun e he => h e (by omega)), h k (by omega), p8_tb_congr (fun e he => h e (by omega))]
theorem p8_twb_mono {hp ω : Nat → Nat} {k : Nat} : ∀ {n : Nat}, k ≤ n → p8_twb hp ω k = true → p8_twb hp ω n = true := by
  intro n
  induction n with
  | zero => intro h q; rw [show k = 0 by omega] at q; exact q
  | succ n ih =>
    intro h q
    by_cases e : k = n + 1
    · rw [← e]; exact q
    · rw [p8_twb, ih (by omega) q]; rfl
section W4
variable {hp : Nat → Nat} {L : Nat → Nat → Nat → Nat} {yc fy : Nat → Nat} {n0 n1 n2 n3 n4 : Nat} {od : Bool} {ea la : Nat} {nh : Nat → Nat} {nf : Nat → Nat → Nat} {ja jb jw : Nat → Nat} {ω : Nat → Nat}
variable {eI lI : Int32} {fyA ycA plA bfA clA lkA lsA nmA wy c4 : Nat → Int32} {z4 : Int32} {pr ws : Nat → Int64}
theorem p8_PR_fr {h : Nat} {pr' : Nat → Int64} (hPR : p8_PR hp L yc n2 od ea la pr h ω) (hh : h < 6) (hyc : ∀ p, yc p ≤ 12) (hfr : ∀ j, (j < h * 12 ∨ 72 ≤ j) → pr' j = pr j) : p8_PR hp L yc n2 od ea la pr' h ω := by
  refine ⟨fun y hy => by rw [hfr _ (by omega)]; exact hPR.1 y hy, fun e he hc y hy => ?_⟩
  have := hyc (hp e)
  rw [hfr _ (by omega)]
  exact hPR.2 e he hc y hy
theorem p8_PW_le {k : Nat} (hOK : p8_OK hp L yc fy n0 n1 n2 n3 n4 od ea la nh nf ja jb jw) (hk : k ≤ n2) (hω : ∀ e, e < k → k_w n0 (ω e)) : p6_PW hp L yc fy n1 n2 n3 n4 od ea la nh nf ja jb jw ω k ≤ 12 ^ 4 * 324 ^ 6 * 10 ^ 8 := by
  obtain ⟨on0, on1, on2, on3, on4, ohp, ood, oyc, ofy, oL, onh, oj⟩ := hOK
  rw [p6_PW_congr (ω' := fun e => if e < k then ω e else 5) on2 hk (fun e he => (if_pos he).symm)]
  refine p6_PW_le hk on1 on2 on3 on4 ohp (fun q => (ood q).1) (fun q => (ood q).2.1) (fun q => (ood q).2.2) oyc (fun h y hh _ => ?_) (fun n hn => (onh n hn).1) (fun n hn => (onh n hn).2 _) (fun j hj => ⟨(oj j hj).1, (oj j hj).2.1, (oj j hj).2.2.1⟩)
  by_cases q : h < k
  · rw [if_pos q]; exact oL h _ y hh (hω h q)
  · rw [if_neg q]; exact oL h 5 y hh (Or.inl rfl)
theorem p8_Wt_zero {h w : Nat} {ω' : Nat → Nat} (hOK : p8_OK hp L yc fy n0 n1 n2 n3 n4 od ea la nh nf ja jb jw) (hh : h < n2) (hon : p6_on (h + 1) (p4_u ω h w) ω') (hc : p6_nm n3 nh nf (p4_u ω h w) h * p6_jm n4 ja jb jw (p4_u ω h w) h * p6_tk hp L yc fy n2 od ea la (p4_u ω h w) h = 0) : p8_Wt hp L yc fy n1 n2 n3 n4 od ea la nh nf ja jb jw ω' = 0 := by
  obtain ⟨on0, on1, on2, on3, on4, ohp, ood, oyc, ofy, oL, onh, oj⟩ := hOK
  unfold p8_Wt
  split
  · rfl
  · rw [p6_W_PW on2 ohp (fun q => (ood q).1) (fun n hn => (onh n hn).1) (fun j hj => ⟨(oj j hj).1, (oj j hj).2.1⟩)]
    refine p6_PW_z hh ?_
    rw [← hc, p6_nm_congr (ω' := p4_u ω h w) (hon h (by omega)), p6_jm_congr (ω' := p4_u ω h w) (fun e he => hon e (by omega)), p6_tk_congr (ω' := p4_u ω h w) on2 hh (fun e he => hon e (by omega))]
theorem p8_goesOn {bk : Nat → Int32} (hOK : p8_OK hp L yc fy n0 n1 n2 n3 n4 od ea la nh nf ja jb jw) (hST : p8_ST hp L yc fy n0 n1 n2 n3 od ea la nh nf eI lI fyA ycA plA bfA clA lkA lsA nmA) (hr4 : p2_rr 3 4 100 4 n4 c4 z4 bk) (hV : ∀ j, j < n4 → bk (100 + 3 * j + 0) = nI (ja j) ∧ bk (100 + 3 * j + 1) = nI (jb j) ∧ bk (100 + 3 * j + 2) = nI (jw j)) (h w : Nat) (hh : h < n2) (hw : k_w n0 w) (hω : ∀ e, e < h → k_w n0 (ω e)) (hwy : ∀ e, e < h → wy e = nI (ω e)) (hPR : p8_PR hp L yc n2 od ea la pr h ω) (hws : p3_N ws h (p6_PW hp L yc fy n1 n2 n3 n4 od ea la nh nf ja jb jw ω h)) (htw : p8_twb hp ω h = false) :
    ∃ g pr' ws', f_X7_goesOn eI lI fyA ycA plA bfA clA lkA lsA nmA pr ws wy c4 z4 (nI h) (nI w) = some (g, pr', ws') ∧ (∀ j, (j < h * 12 ∨ h * 12 + 12 ≤ j) → pr' j = pr j) ∧ p3_F ws ws' (h + 1) ∧
    ((g = 0 ∧ ∀ ω', p6_on (h + 1) (p4_u ω h w) ω' → p8_Wt hp L yc fy n1 n2 n3 n4 od ea la nh nf ja jb jw ω' = 0) ∨ (g = 1 ∧ p3_N ws' (h + 1) (p6_PW hp L yc fy n1 n2 n3 n4 od ea la nh nf ja jb jw (p4_u ω h w) (h + 1)) ∧ p8_PR hp L yc n2 od ea la pr' (h + 1) (p4_u ω h w) ∧ p8_twb hp (p4_u ω h w) (h + 1) = false)) := by
  obtain ⟨on0, on1, on2, on3, on4, ohp, ood, oyc, ofy, oL, onh, oj⟩ := id hOK
  obtain ⟨s1, s2, s3, s4, s5, s6⟩ := id hST
  obtain ⟨a1, a2, a3⟩ := s4 h w hh hw
  have hw6 := k_w_lt on0 hw
  have hω6 : ∀ e, e < h → ω e < 6 := fun e he => k_w_lt on0 (hω e he)
  have hth := p8_there (hp := hp) (ω := ω) (bfA := bfA) (wy := wy) h w (by omega) hw6 (fun e he => (s2 e (by omega)).2) (fun e he => ⟨hwy e he, hω6 e he⟩)
  have hω' : ∀ e, e < h + 1 → k_w n0 (p4_u ω h w e) := fun e he => by
    by_cases q : e = h
    · subst q; rw [p4_us]; exact hw
    · rw [p4_un q]; exact hω e (by omega)
  unfold f_X7_goesOn
  rw [hth, Option.bind_some]
  by_cases hbad : w ≠ 5 ∧ p8_tb hp ω (hp h) w h = true
  · refine ⟨0, pr, ws, ?_, fun _ _ => rfl, p3_F.refl _ _, Or.inl ⟨rfl, fun ω' hon => ?_⟩⟩
    · rw [if_neg hbad.1, p4_bt, if_pos hbad.2]
    · unfold p8_Wt
      rw [if_pos]
      obtain ⟨e, e1, e2, e3⟩ := (p8_tb_iff hp ω (hp h) w h).mp hbad.2
      refine (p8_twb_iff hp ω' n2).mpr ⟨h, e, hh, e1, ?_, ?_, e2.symm⟩
      · rw [hon h (by omega), hon e (by omega), p4_us, p4_un (by omega), e3]
      · rw [hon h (by omega), p4_us]; exact hbad.1
  · have hgo : (if w = 5 then (0 : Int32) else p2_b (p8_tb hp ω (hp h) w h = true)) = 0 := by
      by_cases h5 : w = 5
      · rw [if_pos h5]
      · rw [if_neg h5]
        exact p2_b0.mpr (fun q => hbad ⟨h5, q⟩)
    have htw' : p8_twb hp (p4_u ω h w) (h + 1) = false := by
      rw [p8_twb, p8_twb_congr (ω' := ω) (fun e he => p4_un (by omega)), htw, p4_us, p8_tb_congr (ω' := ω) (fun e he => p4_un (by omega))]
      by_cases h5 : w = 5
      · simp [h5]
      · have : p8_tb hp ω (hp h) w h = false := by
          by_cases q : p8_tb hp ω (hp h) w h = true
          · exact absurd ⟨h5, q⟩ hbad
          · simpa using q
        rw [this]
        simp
    have hjo : f_X7_joinings wy c4 z4 (nI h) (nI w) = some (nI (p6_jm n4 ja jb jw (p4_u ω h w) h)) := by
      unfold f_X7_joinings
      exact p8_joinL hr4 h w (by omega) hw6 (fun j hj => by
        obtain ⟨v1, v2, v3⟩ := hV j hj
        obtain ⟨o1, o2, o3, o4⟩ := oj j hj
        exact ⟨v1, v2, v3, by omega, by omega, o3, o4⟩) (fun e he => ⟨hwy e he, hω6 e he⟩) n4 0 cx_N0 (by omega) (by unfold cx_N0; omega)
    have hnm : nmA (h * 6 + w) = nI (p6_nm n3 nh nf (p4_u ω h w) h) := by
      rw [a3]
      unfold p6_nm
      rw [p4_us]
    have bnm : p6_nm n3 nh nf (p4_u ω h w) h ≤ 10 ^ 4 := by
      refine Nat.le_trans (p6_pr_le (g := fun _ => 10) (fun n hn => ?_)) (by rw [p6_pr_const]; exact Nat.pow_le_pow_right (by decide) on3)
      split
      · exact (onh n hn).2 _
      · decide
    have bjm : p6_jm n4 ja jb jw (p4_u ω h w) h ≤ 10 ^ 4 := by
      refine Nat.le_trans (p6_pr_le (g := fun _ => 10) (fun j hj => ?_)) (by rw [p6_pr_const]; exact Nat.pow_le_pow_right (by decide) on4)
      split
      · exact p6_jf_le (oj j hj).2.2.1
      · decide
    have btold : p6_nm n3 nh nf (p4_u ω h w) h * p6_jm n4 ja jb jw (p4_u ω h w) h ≤ 100000000 := Nat.le_trans (Nat.mul_le_mul bnm bjm) (by decide)
    have bPW := p8_PW_le (ω := ω) hOK (k := h) (by omega) hω
    have bPW' := p8_PW_le (ω := p4_u ω h w) hOK (k := h + 1) (by omega) hω'
    have ePW : p6_PW hp L yc fy n1 n2 n3 n4 od ea la nh nf ja jb jw (p4_u ω h w) (h + 1) = p6_PW hp L yc fy n1 n2 n3 n4 od ea la nh nf ja jb jw ω h * (p6_nm n3 nh nf (p4_u ω h w) h * p6_jm n4 ja jb jw (p4_u ω h w) h * p6_tk hp L yc fy n2 od ea la (p4_u ω h w) h) := by
      have e : p6_PW hp L yc fy n1 n2 n3 n4 od ea la nh nf ja jb jw (p4_u ω h w) (h + 1) = p6_PW hp L yc fy n1 n2 n3 n4 od ea la nh nf ja jb jw (p4_u ω h w) h * (p6_nm n3 nh nf (p4_u ω h w) h * p6_jm n4 ja jb jw (p4_u ω h w) h * p6_tk hp L yc fy n2 od ea la (p4_u ω h w) h) := by
        unfold p6_PW
        rw [p6_pr, ← Nat.mul_assoc]
      rw [e, p6_PW_congr (ω' := ω) on2 (by omega) (fun e he => p4_un (by omega))]
    rw [hgo, if_pos rfl, show (6 : Int32) = nI 6 from rfl, pk_mul, nI_add, p2_gd (p2_ib (by omega) (by decide)), p2_ix (n := h * 6 + w) (by omega), hnm, hjo, Option.bind_some, nI_l (by omega), nI_l (by omega), lN_mul]
    simp only [cx_let]
    have hc0 := (p3_ne (a := p6_nm n3 nh nf (p4_u ω h w) h * p6_jm n4 ja jb jw (p4_u ω h w) h) (b := 0) (by omega) (by decide)).1
    have hc0 : lg_cmp (lN (p6_nm n3 nh nf (p4_u ω h w) h * p6_jm n4 ja jb jw (p4_u ω h w) h)) 0 = 0 ↔ p6_nm n3 nh nf (p4_u ω h w) h * p6_jm n4 ja jb jw (p4_u ω h w) h = 0 := hc0
    by_cases hz : p6_nm n3 nh nf (p4_u ω h w) h * p6_jm n4 ja jb jw (p4_u ω h w) h = 0
    · rw [if_pos (hc0.mpr hz)]
      refine ⟨0, pr, ws, ?_, fun _ _ => rfl, p3_F.refl _ _, Or.inl ⟨rfl, fun ω' hon => p8_Wt_zero hOK hh hon (by rw [hz, Nat.zero_mul])⟩⟩
      unfold f_X7_goesOn_J48
      rw [if_pos (by decide)]
    · rw [if_neg (fun q => hz (hc0.mp q))]
      obtain ⟨t, pr', t1, t2, t3, t4, t5, t6⟩ := p8_takings hOK hST h w hh hw hω hPR
      rw [t1, Option.bind_some]
      unfold f_X7_goesOn_J48
      have hct := (p3_ne (a := t) (b := 0) (by omega) (by decide)).1
      have hct : lg_cmp (lN t) 0 = 0 ↔ t = 0 := hct
      dsimp only
      by_cases ht : t = 0
      · rw [if_pos (hct.mpr ht)]
        refine ⟨0, pr', ws, rfl, t3, p3_F.refl _ _, Or.inl ⟨rfl, fun ω' hon => ?_⟩⟩
        rcases t6 ht with q | q
        · exact p8_Wt_zero hOK hh hon (by rw [q, Nat.mul_zero])
        · unfold p8_Wt
          split
          · rfl
          · exact p6_noYear (k := h + 1) (p := hp h) (by omega) (ohp h hh) (fun q => (ood q).1) (fun y hy => by rw [p6_T_congr (ω' := p4_u ω h w) (fun e he => hon e he)]; exact q y hy)
      · rw [if_neg (fun q => ht (hct.mp q))]
        have htk := t5 ht
        generalize hM : p6_nm n3 nh nf (p4_u ω h w) h * p6_jm n4 ja jb jw (p4_u ω h w) h = M at *
        generalize hP : p6_PW hp L yc fy n1 n2 n3 n4 od ea la nh nf ja jb jw ω h = P at *
        rw [ePW, ← htk] at bPW'
        have eb : (12 ^ 4 * 324 ^ 6 * 10 ^ 8 : Nat) = 2398805552525318553600000000 := by decide
        have eP4 : (1073741824 ^ 4 : Nat) = 1329227995784915872903807060280344576 := by decide
        rw [eb] at bPW bPW'
        have hPM : P * M ≤ 2398805552525318553600000000 * 100000000 := Nat.mul_le_mul bPW btold
        have hcs : 0 ≤ lg_cmp (lN t) 8589934592 ↔ ¬ t < 8589934592 := by
          have := (p3_ne (a := t) (b := 8589934592) (by omega) (by decide)).2.1
          have : lg_cmp (lN t) 8589934592 < 0 ↔ t < 8589934592 := this
          rw [← this, p2_le, p2_lt]
          omega
        rw [nI_1]
        by_cases hs : t < 8589934592
        · rw [if_neg (fun q => (hcs.mp q) hs), lN_mul]
          have hmt : M * t ≤ 100000000 * 8589934592 := Nat.mul_le_mul btold (by omega)
          obtain ⟨ws', w1, w2, w3⟩ := p3_multiply_x (n := 28) (i := h + 1) (j := h) (mm := M * t) (by omega) (by decide) (by omega) hws (by omega) (by rw [eP4]; omega)
          refine ⟨1, pr', ws', ?_, t3, w2, Or.inr ⟨rfl, by rw [ePW, ← htk]; exact w3, t4, htw'⟩⟩
          rw [w1, Option.bind_some]
        · rw [if_pos (hcs.mpr hs)]
          obtain ⟨ws1, w1, w2, w3⟩ := p3_multiply_x (n := 28) (i := h + 1) (j := h) (mm := M) (by omega) (by decide) (by omega) hws (by omega) (by rw [eP4]; omega)
          obtain ⟨ws2, v1, v2, v3⟩ := p3_multiply_x (n := 28) (i := h + 1) (j := h + 1) (mm := t) (by omega) (by decide) (by omega) w3 (by omega) (by rw [eP4, Nat.mul_assoc]; omega)
          refine ⟨1, pr', ws2, ?_, t3, w2.trans v2, Or.inr ⟨rfl, by rw [ePW, ← htk, ← Nat.mul_assoc]; exact v3, t4, htw'⟩⟩
          rw [w1, Option.bind_some, v1, Option.bind_some]
end W4
