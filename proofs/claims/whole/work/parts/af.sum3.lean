/-- ways through valid ones alone -/
def p6_va (n0 h m : Nat) (ω : Nat → Nat) : Prop := ∀ e, h ≤ e → e < h + m → k_w n0 (ω e)
theorem p6_va_s {n0 h m x : Nat} {ω ω' : Nat → Nat} (q : p6_on (h + 1) (p4_u ω h x) ω') (hx : k_w n0 x) (hv : p6_va n0 (h + 1) m ω') : p6_va n0 h (m + 1) ω' := fun e h1 h2 => by
  by_cases z : e = h
  · subst z; rw [(p6_on_s q).2]; exact hx
  · exact hv e (by omega) (by omega)
theorem p6_ws_le2 (n0 : Nat) (F : (Nat → Nat) → Nat) (c : Nat) : ∀ (m h : Nat) (ω : Nat → Nat), (∀ ω', p6_on h ω ω' → p6_va n0 h m ω' → F ω' ≤ c) → p6_ws n0 F m h ω ≤ (n0 + 1) ^ m * c := by
  intro m
  induction m with
  | zero => intro h ω q; rw [Nat.pow_zero, Nat.one_mul]; exact q ω (fun _ _ => rfl) (fun e h1 h2 => by omega)
  | succ m ih =>
    intro h ω q
    rw [p6_ws]
    refine Nat.le_trans (p6_sm_le (g := fun _ => (n0 + 1) ^ m * c) (fun i _ => ih (h + 1) _ (fun ω' q' v => q ω' (p6_on_s q').1 (p6_va_s q' (p6_who_w n0 i) v)))) ?_
    rw [p6_sm_const, Nat.pow_succ, Nat.mul_comm ((n0 + 1) ^ m) (n0 + 1), Nat.mul_assoc (n0 + 1)]
    exact Nat.le_refl _
theorem p6_ws_congr2 (n0 : Nat) (F G : (Nat → Nat) → Nat) : ∀ (m h : Nat) (ω : Nat → Nat), (∀ ω', p6_on h ω ω' → p6_va n0 h m ω' → F ω' = G ω') → p6_ws n0 F m h ω = p6_ws n0 G m h ω := by
  intro m
  induction m with
  | zero => intro h ω q; exact q ω (fun _ _ => rfl) (fun e h1 h2 => by omega)
  | succ m ih =>
    intro h ω q
    rw [p6_ws, p6_ws]
    exact p6_sm_congr (fun i _ => ih (h + 1) _ (fun ω' q' v => q ω' (p6_on_s q').1 (p6_va_s q' (p6_who_w n0 i) v)))
section TE
variable {hp : Nat → Nat} {L : Nat → Nat → Nat → Nat} {yc fy : Nat → Nat} {n0 n1 n2 n3 n4 : Nat} {od : Bool} {ea la : Nat} {nh : Nat → Nat} {nf : Nat → Nat → Nat} {ja jb jw : Nat → Nat} {ω : Nat → Nat}
variable {eI lI : Int32} {fyA ycA plA bfA clA lkA lsA nmA : Nat → Int32} {pr ws : Nat → Int64}
theorem p8_F_le (hOK : p8_OK hp L yc fy n0 n1 n2 n3 n4 od ea la nh nf ja jb jw) (hω : ∀ e, e < n2 → k_w n0 (ω e)) : p8_Wt hp L yc fy n1 n2 n3 n4 od ea la nh nf ja jb jw ω ≤ 2398805552525318553600000000 := by
  have b := p8_PW_le hOK (Nat.le_refl n2) hω
  obtain ⟨on0, on1, on2, on3, on4, ohp, ood, oyc, ofy, oL, onh, oj⟩ := hOK
  unfold p8_Wt
  split
  · exact Nat.zero_le _
  · rw [p6_W_PW on2 ohp (fun q => (ood q).1) (fun n hn => (onh n hn).1) (fun j hj => ⟨(oj j hj).1, (oj j hj).2.1⟩)]
    exact Nat.le_trans b (by decide)
theorem p8_ws_lt (hOK : p8_OK hp L yc fy n0 n1 n2 n3 n4 od ea la nh nf ja jb jw) (G : (Nat → Nat) → Nat) (hG : ∀ ω, G ω ≤ p8_Wt hp L yc fy n1 n2 n3 n4 od ea la nh nf ja jb jw ω) : p6_ws n0 G n2 0 ω ≤ 111918671858621262436761600000000 := by
  have := p6_ws_le2 n0 G 2398805552525318553600000000 n2 0 ω (fun ω' _ v => Nat.le_trans (hG ω') (p8_F_le hOK (fun e he => v e (by omega) (by omega))))
  obtain ⟨on0, on1, on2, _⟩ := hOK
  have b2 : (n0 + 1) ^ n2 ≤ 6 ^ 6 := Nat.le_trans (Nat.pow_le_pow_left (by omega) n2) (Nat.pow_le_pow_right (by decide) on2)
  exact Nat.le_trans this (Nat.le_trans (Nat.mul_le_mul_right _ b2) (by decide))
/-- pictures without heads -/
theorem p9_empties (hOK : p8_OK hp L yc fy n0 n1 n2 n3 n4 od ea la nh nf ja jb jw) (s1 : ∀ p, p < n1 → fyA p = nI (fy p) ∧ ycA p = nI (yc p)) (s3 : ∀ p, p < n1 → clA p = nI (p6_cl hp n2 p)) (s5 : od = true → eI = nI ea ∧ lI = nI la) (s6 : od = false → eI = -1 ∧ lI = -1) (hones : ∀ y, y < 12 → pr (72 + y) = lN 1) (hws : p3_N ws 0 1) : ∃ ws', f_X7_takeEmptyPictures eI lI fyA ycA clA pr ws (nI n1) = some ws' ∧ p3_N ws' 0 (p6_c0 hp L yc fy n1 n2 od ea la ω) := by
  obtain ⟨on0, on1, on2, on3, on4, ohp, ood, oyc, ofy, oL, onh, oj⟩ := id hOK
  have eP4 : (1073741824 ^ 4 : Nat) = 1329227995784915872903807060280344576 := by decide
  have cl6 : ∀ p, p < n1 → (clA p = 6 ↔ p6_cl hp n2 p = 6) := fun p hp1 => by
    rw [s3 p hp1]
    exact p8_6 (by have := p8_lt6 hp n2 p on2; omega)
  have hpe : ∀ p, p < n1 → (nI p = eI ↔ od = true ∧ p = ea) := fun p hp1 => by
    by_cases ho : od = true
    · rw [(s5 ho).1]
      have := ood ho
      exact ⟨fun q => ⟨ho, (nI_eq (by omega) (by omega)).mp q⟩, fun q => by rw [q.2]⟩
    · rw [(s6 (by simpa using ho)).1]
      exact ⟨fun q => absurd q (p2_nIne p (by omega)), fun q => absurd q.1 ho⟩
  have hpl : ∀ p, p < n1 → (nI p = lI ↔ od = true ∧ p = la) := fun p hp1 => by
    by_cases ho : od = true
    · rw [(s5 ho).2]
      have := ood ho
      exact ⟨fun q => ⟨ho, (nI_eq (by omega) (by omega)).mp q⟩, fun q => by rw [q.2]⟩
    · rw [(s6 (by simpa using ho)).2]
      exact ⟨fun q => absurd q (p2_nIne p (by omega)), fun q => absurd q.1 ho⟩
  -- years in order, if both have no heads
  have hend : ∀ (ws1 : Nat → Int64), p3_N ws1 0 (p6_pr n1 (fun p => if p6_cl hp n2 p = 6 ∧ p6_iob od ea la p = false then yc p else 1)) → ∀ (rc : (Nat → Int64) → Int32 → Option (Nat → Int64)), ∃ ws', f_X7_takeEmptyPictures_L2 eI lI fyA ycA clA pr (nI n1) rc ws1 (nI n1) = some ws' ∧ p3_N ws' 0 (p6_c0 hp L yc fy n1 n2 od ea la ω) := by
    intro ws1 hw1 rc
    unfold f_X7_takeEmptyPictures_L2 p6_c0
    rw [if_pos (nI_le (by omega) (by omega))]
    by_cases ho : od = true
    · obtain ⟨q1, q2, q3⟩ := ood ho
      obtain ⟨q4, q5⟩ := s5 ho
      rw [if_neg (by rw [q4]; exact p2_nIne ea (by omega)), p2_gd (by rw [q4]; exact p2_ib (by omega) (by decide)), show cx_ix eI = ea by rw [q4]; exact p2_ix (by omega), show cx_ix lI = la by rw [q5]; exact p2_ix (by omega)]
      by_cases e1 : p6_cl hp n2 ea = 6
      · rw [if_pos ((cl6 ea q1).mpr e1), p2_gd (by rw [q5]; exact p2_ib (by omega) (by decide))]
        by_cases e2 : p6_cl hp n2 la = 6
        · rw [if_pos ((cl6 la q2).mpr e2), if_pos ⟨ho, e1, e2⟩]
          have hR : ∀ p, p6_cl hp n2 p = 6 → ∀ y, y < yc p → pr (p6_cl hp n2 p * 12 + y) = lN (p6_T hp L ω n2 p y) := fun p h6 y hy => by
            have := oyc p
            rw [h6, p6_T_empty (p6_cl_6 on2 h6)]
            exact hones y (by omega)
          have hyo : f_X7_yearsInOrder eI lI fyA ycA clA pr = some (lN (p6_PO hp L yc fy n2 ea la ω)) := by
            unfold f_X7_yearsInOrder p6_PO
            exact p8_orderO (pr := pr) (ea := ea) (la := la) eI lI fyA ycA clA (fun y => p6_T hp L ω n2 ea y) (fun z => p6_T hp L ω n2 la z) (p6_cl hp n2 ea) (p6_cl hp n2 la) (yc ea) (yc la) (fy ea) (fy la) (by omega) (by omega) q4 q5 (s1 ea q1).2 (s1 ea q1).1 (s3 ea q1) (s1 la q2).2 (s1 la q2).1 (s3 la q2) (p8_lt6 hp n2 ea on2) (p8_lt6 hp n2 la on2) (oyc ea) (oyc la) (ofy ea) (ofy la) (hR ea e1) (hR la e2) (yc la) 0 0 cx_N0 (by omega) (by unfold cx_N0; have := oyc la; omega) (by omega)
          rw [hyo, Option.bind_some]
          have hPO : p6_PO hp L yc fy n2 ea la ω ≤ 144 := by
            unfold p6_PO
            refine Nat.le_trans (p6_sm_le (g := fun _ => 12) (fun z _ => ?_)) ?_
            · rw [p6_T_empty (p := la) (p6_cl_6 on2 e2), Nat.mul_one]
              refine Nat.le_trans (p6_sm_le (g := fun _ => 1) (fun y _ => ?_)) ?_
              · rw [p6_T_empty (p := ea) (p6_cl_6 on2 e1)]
                split <;> decide
              · rw [p6_sm_const]
                have := oyc ea
                omega
            · rw [p6_sm_const]
              have := oyc la
              omega
          have hpr : p6_pr n1 (fun p => if p6_cl hp n2 p = 6 ∧ p6_iob od ea la p = false then yc p else 1) ≤ 12 ^ 4 := by
            refine Nat.le_trans (p6_pr_le (g := fun _ => 12) (fun p _ => ?_)) (by rw [p6_pr_const]; exact Nat.pow_le_pow_right (by decide) on1)
            split
            · exact oyc p
            · decide
          have hm := Nat.mul_le_mul hpr hPO
          obtain ⟨ws', w1, w2, w3⟩ := p3_multiply_x (n := 28) (i := 0) (j := 0) (mm := p6_PO hp L yc fy n2 ea la ω) (by decide) (by decide) (by decide) hw1 (by omega) (by rw [eP4]; omega)
          exact ⟨ws', by rw [show f_X3_multiply_x_e0 28 ws1 0 0 (lN (p6_PO hp L yc fy n2 ea la ω)) = _ from w1, Option.bind_some], w3⟩
        · rw [if_neg (fun q => e2 ((cl6 la q2).mp q)), if_neg (fun q => e2 q.2.2), Nat.mul_one]
          exact ⟨ws1, rfl, hw1⟩
      · rw [if_neg (fun q => e1 ((cl6 ea q1).mp q)), if_neg (fun q => e1 q.2.1), Nat.mul_one]
        exact ⟨ws1, rfl, hw1⟩
    · rw [if_pos (s6 (by simpa using ho)).1, if_neg (fun q => ho q.1), Nat.mul_one]
      exact ⟨ws1, rfl, hw1⟩
  have loop : ∀ (r p m : Nat) (ws1 : Nat → Int64), p + r = n1 → r < m → p3_N ws1 0 (p6_pr p (fun p => if p6_cl hp n2 p = 6 ∧ p6_iob od ea la p = false then yc p else 1)) → ∃ ws', f_X7_takeEmptyPictures_L2w eI lI fyA ycA clA pr (nI n1) m ws1 (nI p) = some ws' ∧ p3_N ws' 0 (p6_c0 hp L yc fy n1 n2 od ea la ω) := by
    intro r
    induction r with
    | zero =>
      intro p m ws1 h1 h2 h3
      obtain ⟨m, rfl⟩ : ∃ j, m = j + 1 := ⟨m - 1, by omega⟩
      have e : p = n1 := by omega
      subst e
      exact hend ws1 h3 _
    | succ r ih =>
      intro p m ws1 h1 h2 h3
      obtain ⟨m, rfl⟩ : ∃ j, m = j + 1 := ⟨m - 1, by omega⟩
      have st : f_X7_takeEmptyPictures_L2w eI lI fyA ycA clA pr (nI n1) (m + 1) ws1 (nI p) = f_X7_takeEmptyPictures_L2 eI lI fyA ycA clA pr (nI n1) (f_X7_takeEmptyPictures_L2w eI lI fyA ycA clA pr (nI n1) m) ws1 (nI p) := rfl
      have hpr : p6_pr p (fun p => if p6_cl hp n2 p = 6 ∧ p6_iob od ea la p = false then yc p else 1) ≤ 12 ^ 4 := by
        refine Nat.le_trans (p6_pr_le (g := fun _ => 12) (fun p _ => ?_)) (by rw [p6_pr_const]; exact Nat.pow_le_pow_right (by decide) (by omega))
        split
        · exact oyc p
        · decide
      have hm := Nat.mul_le_mul hpr (oyc p)
      rw [st]
      unfold f_X7_takeEmptyPictures_L2 f_X7_takeEmptyPictures_J63
      rw [if_neg (nI_ge (by omega) (by omega)), p2_gd (p2_ib (by omega) (by decide)), p2_ix (n := p) (by omega), nI_1]
      have skip : ¬ (p6_cl hp n2 p = 6 ∧ p6_iob od ea la p = false) → ∃ ws', f_X7_takeEmptyPictures_L2w eI lI fyA ycA clA pr (nI n1) m ws1 (nI (p + 1)) = some ws' ∧ p3_N ws' 0 (p6_c0 hp L yc fy n1 n2 od ea la ω) := fun q => ih (p + 1) m ws1 (by omega) (by omega) (by rw [p6_pr, if_neg q, Nat.mul_one]; exact h3)
      by_cases h6 : p6_cl hp n2 p = 6
      · rw [if_pos ((cl6 p (by omega)).mpr h6)]
        by_cases e1 : od = true ∧ p = ea
        · rw [if_pos ((hpe p (by omega)).mpr e1)]
          exact skip (fun q => (p6_iob_f.mp q.2) ⟨e1.1, Or.inl e1.2⟩)
        · rw [if_neg (fun q => e1 ((hpe p (by omega)).mp q))]
          by_cases e2 : od = true ∧ p = la
          · rw [if_pos ((hpl p (by omega)).mpr e2)]
            exact skip (fun q => (p6_iob_f.mp q.2) ⟨e2.1, Or.inr e2.2⟩)
          · rw [if_neg (fun q => e2 ((hpl p (by omega)).mp q)), p2_gd (p2_ib (by omega) (by decide)), (s1 p (by omega)).2, nI_l (by have := oyc p; omega)]
            have hi : p6_iob od ea la p = false := p6_iob_f.mpr (fun q => by rcases q.2 with z | z; exact e1 ⟨q.1, z⟩; exact e2 ⟨q.1, z⟩)
            obtain ⟨ws', w1, w2, w3⟩ := p3_multiply_x (n := 28) (i := 0) (j := 0) (mm := yc p) (by decide) (by decide) (by decide) h3 (by have := oyc p; omega) (by rw [eP4]; omega)
            rw [show f_X3_multiply_x_e0 28 ws1 0 0 (lN (yc p)) = _ from w1, Option.bind_some]
            exact ih (p + 1) m ws' (by omega) (by omega) (by rw [p6_pr, if_pos ⟨h6, hi⟩]; exact w3)
      · rw [if_neg (fun q => h6 ((cl6 p (by omega)).mp q))]
        exact skip (fun q => h6 q.1)
  unfold f_X7_takeEmptyPictures
  exact loop n1 0 cx_N0 ws (by omega) (by unfold cx_N0; omega) hws
end TE
/-- finish: carried -/
theorem p9_finish (to sh sub : Nat → Int64) (V M : Nat) (Sv : Nat → Nat) (hsub : p3_U sub 0 V M) (hM : M ≤ 2305843009213693952) (hV : V < 1073741824 ^ 4) (hS : ∀ k, k < 36 → Sv k < 1073741824 ^ 4 ∧ p3_U sh k (Sv k) 2305843009213693952) : ∃ to' sh', f_X5_finish to sh 28 sub 0 = some (to', sh') ∧ p3_N to' 0 V ∧ ∀ k, k < 36 → p3_N sh' k (Sv k) := by
  obtain ⟨to1, a1, a2, a3⟩ := p3_copyU (n := 4) (i := 0) (n' := 28) (j := 0) to (by decide) (by decide) (by decide) (by decide) hsub
  obtain ⟨to', b1, b2, b3⟩ := p3_carry (n := 4) (i := 0) (by decide) (by decide) a3 hM hV
  have loop : ∀ (r k m : Nat) (sh : Nat → Int64), k + r = 36 → r < m → (∀ t, t < k → p3_N sh t (Sv t)) → (∀ t, k ≤ t → t < 36 → p3_U sh t (Sv t) 2305843009213693952) → ∃ sh', f_X5_finish_L20w to' m sh (nI k) = some (to', sh') ∧ ∀ t, t < 36 → p3_N sh' t (Sv t) := by
    intro r
    induction r with
    | zero =>
      intro k m sh h1 h2 h3 h4
      obtain ⟨m, rfl⟩ : ∃ j, m = j + 1 := ⟨m - 1, by omega⟩
      refine ⟨sh, ?_, fun t ht => h3 t (by omega)⟩
      show f_X5_finish_L20 to' (f_X5_finish_L20w to' m) sh (nI k) = _
      unfold f_X5_finish_L20
      rw [show (36 : Int32) = nI 36 from rfl, if_pos (nI_le (by omega) (by omega))]
    | succ r ih =>
      intro k m sh h1 h2 h3 h4
      obtain ⟨m, rfl⟩ : ∃ j, m = j + 1 := ⟨m - 1, by omega⟩
      obtain ⟨sh1, c1, c2, c3⟩ := p3_carry (n := 144) (i := k) (by omega) (by decide) (h4 k (Nat.le_refl _) (by omega)) (Nat.le_refl _) (hS k (by omega)).1
      obtain ⟨sh', g1, g2⟩ := ih (k + 1) m sh1 (by omega) (by omega) (fun t ht => by
        by_cases e : t = k
        · subst e; exact c3
        · exact c2.N e (h3 t (by omega))) (fun t t1 t2 => c2.U (by omega) (h4 t (by omega) t2))
      refine ⟨sh', ?_, g2⟩
      rw [← g1]
      show f_X5_finish_L20 to' (f_X5_finish_L20w to' m) sh (nI k) = _
      unfold f_X5_finish_L20
      rw [show (36 : Int32) = nI 36 from rfl, if_neg (nI_ge (by omega) (by omega)), c1, Option.bind_some, nI_1]
  obtain ⟨sh', g1, g2⟩ := loop 36 0 cx_N0 sh (by omega) (by unfold cx_N0; omega) (fun t ht => by omega) (fun t _ t2 => (hS t t2).2)
  refine ⟨to', sh', ?_, b3, g2⟩
  unfold f_X5_finish
  rw [show f_X3_copy 4 to 0 28 sub 0 = _ from a1, Option.bind_some, show f_X3_carry 4 to1 0 = _ from b1, Option.bind_some]
  exact g1
