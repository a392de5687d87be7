/-! WORTHS: the reference -/
theorem i_48 (x h y : Nat) : (48 : Int32) + 36 * nI x + 6 * nI h + nI y = nI (48 + 36 * x + 6 * h + y) := by
  rw [show (48 : Int32) = nI 48 from rfl, show (36 : Int32) = nI 36 from rfl, show (6 : Int32) = nI 6 from rfl, pk_mul, pk_mul, nI_add, nI_add, nI_add]
def w_f (J : Nat → Nat → Nat) (t : Nat → Nat) (n0 a y x : Nat) : Nat := if x < n0 ∨ x = 5 then J x y * (if x = a then t x * n0 else 10 - t x) else 0
theorem w_f_G {J : Nat → Nat → Nat} {t : Nat → Nat} {n0 a y : Nat} (hn0 : n0 ≤ 5) : p6_sm 6 (w_f J t n0 a y) = w_G J t n0 a y := by
  unfold w_f w_G
  exact p6_sm_who (fun x => J x y * (if x = a then t x * n0 else 10 - t x)) hn0
section RW
variable {c0 c1 c2 c3 c4 : Nat → Int32} {z0 z1 z2 z3 z4 sg : Int32} {bk : Nat → Int32} {n0 n1 n2 n3 n4 : Nat}
theorem m_addsG {l w : Nat → Int32} {V : Nat → Nat} {J : Nat → Nat → Nat} {t : Nat → Nat} {A : Nat} (hS : p4_S l w V) (hb : bk 0 = nI n0) (hn0 : n0 ≤ 5) (ht : ∀ x, k_w n0 x → 5 ≤ t x ∧ t x ≤ 10 ∧ f_X9_truthAbout bk (nI x) = some (nI (t x))) {h a : Nat} (hh : h < 6) (ha : a < 6) (hJ : ∀ x y, x < 6 → y < 6 → V (48 + 36 * x + 6 * h + y) = J x y) (hJA : ∀ x y, J x y ≤ A) (hJs : ∀ y, p6_sm (n0 + 1) (fun i => J (p6_who n0 i) y) ≤ A) (hA : A ≤ 111918671858621262436761600000000) (h9 : V 9 ≤ 2400 * A) : ∃ l' w' V', f_X9_addsGreatest l w bk (nI h) (nI a) = some (l', w') ∧ p4_S l' w' V' ∧ V' 9 = V 9 + w_M J t n0 a ∧ ∀ s, s ≠ 2 → s ≠ 3 → s ≠ 8 → s ≠ 9 → V' s = V s := by
  have ht' : ∀ x, k_w n0 x → 5 ≤ t x ∧ t x ≤ 10 := fun x hx => ⟨(ht x hx).1, (ht x hx).2.1⟩
  have bf : ∀ y x, w_f J t n0 a y x ≤ A * 50 := fun y x => by
    unfold w_f
    by_cases c : x < n0 ∨ x = 5
    · rw [if_pos c]
      exact Nat.mul_le_mul (hJA x y) (w_cf_le ht' hn0 (by rcases c with q | q; exact Or.inr q; exact Or.inl q))
    · rw [if_neg c]; exact Nat.zero_le _
  have bs : ∀ y k, k ≤ 6 → p6_sm k (w_f J t n0 a y) ≤ 6 * (A * 50) := fun y k hk => by
    refine Nat.le_trans (p6_sm_le (g := fun _ => A * 50) (fun i _ => bf y i)) ?_
    rw [p6_sm_const]
    exact Nat.mul_le_mul_right _ hk
  have inner : ∀ (y : Nat), y < 6 → ∀ (rc : (Nat → Int32) → (Nat → Int32) → Int32 → Option ((Nat → Int32) × (Nat → Int32))) (mx : Nat) (r x m : Nat) (l w : Nat → Int32) (V1 : Nat → Nat), x + r = 6 → r < m → p4_S l w V1 → V1 2 = p6_sm x (w_f J t n0 a y) → V1 3 = mx → (∀ s, s ≠ 2 → s ≠ 3 → s ≠ 8 → V1 s = V s) → ∃ l' w' V', f_X9_addsGreatest_L31w bk (nI h) (nI a) (nI n0) (nI y) rc m l w (nI x) = rc l' w' (nI (y + 1)) ∧ p4_S l' w' V' ∧ V' 3 = (if mx < w_G J t n0 a y then w_G J t n0 a y else mx) ∧ (∀ s, s ≠ 2 → s ≠ 3 → s ≠ 8 → V' s = V s) := by
    intro y hy rc mx r
    induction r with
    | zero =>
      intro x m l w V1 h1 h2 h3 h4 h5 h6
      obtain ⟨m, rfl⟩ : ∃ j, m = j + 1 := ⟨m - 1, by omega⟩
      obtain rfl : x = 6 := by omega
      rw [w_f_G hn0] at h4
      have R2 := h3 2 (by decide) (by decide)
      have R3 := h3 3 (by decide) (by decide)
      rw [h4] at R2
      rw [h5] at R3
      show ∃ l' w' V', f_X9_addsGreatest_L31 bk (nI h) (nI a) (nI n0) (nI y) rc (f_X9_addsGreatest_L31w bk (nI h) (nI a) (nI n0) (nI y) rc m) l w (nI 6) = _ ∧ _
      unfold f_X9_addsGreatest_L31 f_X9_addsGreatest_J131
      rw [if_pos (show (5 : Int32) < nI 6 by decide), show f_X9_against l w 2 3 = _ from p4_against (r := 2) (o := 3) (by decide) (by decide) R2 R3, Option.bind_some, nI_1]
      by_cases q : mx < w_G J t n0 a y
      · obtain ⟨l2, w2, c1, c2, c3⟩ := p4_takes (r := 3) (o := 2) (by decide) (by decide) (by decide) R2
        rw [if_neg (fun z => i_cmpLe.mp z q), show f_X9_takes l w 3 2 = _ from c1, Option.bind_some, if_pos q]
        exact ⟨l2, w2, _, rfl, h3.set c2 c3, p4_us, fun s q1 q2 q3 => by rw [p4_un q2, h6 s q1 q2 q3]⟩
      · rw [if_pos (i_cmpLe.mpr q), if_neg q]
        exact ⟨l, w, V1, rfl, h3, h5, h6⟩
    | succ r ih =>
      intro x m l w V1 h1 h2 h3 h4 h5 h6
      obtain ⟨m, rfl⟩ : ∃ j, m = j + 1 := ⟨m - 1, by omega⟩
      show ∃ l' w' V', f_X9_addsGreatest_L31 bk (nI h) (nI a) (nI n0) (nI y) rc (f_X9_addsGreatest_L31w bk (nI h) (nI a) (nI n0) (nI y) rc m) l w (nI x) = _ ∧ _
      have j49 : x < n0 ∨ x = 5 → ∃ l' w' V', f_X9_addsGreatest_J49 bk (nI h) (nI a) (nI n0) (nI y) l w (nI x) (f_X9_addsGreatest_L31w bk (nI h) (nI a) (nI n0) (nI y) rc m) = rc l' w' (nI (y + 1)) ∧ p4_S l' w' V' ∧ V' 3 = (if mx < w_G J t n0 a y then w_G J t n0 a y else mx) ∧ (∀ s, s ≠ 2 → s ≠ 3 → s ≠ 8 → V' s = V s) := by
        intro hx
        have hkw : k_w n0 x := by rcases hx with q | q; exact Or.inr q; exact Or.inl q
        obtain ⟨t1, t2, t3⟩ := ht x hkw
        have Rj := h3 (48 + 36 * x + 6 * h + y) (by omega) (by omega)
        rw [h6 _ (by omega) (by omega) (by omega), hJ x y (by omega) hy] at Rj
        obtain ⟨l2, w2, c1, c2, c3⟩ := p4_takes (r := 8) (o := 48 + 36 * x + 6 * h + y) (by decide) (by omega) (by omega) Rj
        have S2 := h3.set c2 c3
        have R8 := S2 8 (by decide) (by decide)
        rw [p4_us] at R8
        have cfl := w_cf_le (a := a) ht' hn0 hkw
        have hbm : J x y * (if x = a then t x * n0 else 10 - t x) ≤ A * 50 := Nat.mul_le_mul (hJA x y) cfl
        obtain ⟨l3, w3, d1, d2, d3⟩ := p4_times (r := 8) (b := if x = a then t x * n0 else 10 - t x) (by decide) (by omega) R8 (i_P16_lt (by omega))
        have S3 := S2.set d2 d3
        have R2 := S3 2 (by decide) (by decide)
        rw [p4_un (by decide), p4_un (by decide), h4] at R2
        have R8' := S3 8 (by decide) (by decide)
        rw [p4_us] at R8'
        have b2 := bs y x (by omega)
        obtain ⟨l4, w4, e1, e2, e3⟩ := p4_adds (r := 2) (o := 8) (by decide) (by decide) (by decide) R2 R8' (i_P15_lt (by omega))
        have S4 := S3.set e2 e3
        obtain ⟨l', w', V', i1, i2⟩ := ih (x + 1) m l4 w4 _ (by omega) (by omega) S4 (by rw [p4_us, p6_sm, show w_f J t n0 a y x = J x y * (if x = a then t x * n0 else 10 - t x) from if_pos hx]) (by rw [p4_un (by decide), p4_un (by decide), p4_un (by decide)]; exact h5) (fun s q1 q2 q3 => by rw [p4_un q1, p4_un q3, p4_un q3, h6 s q1 q2 q3])
        refine ⟨l', w', V', ?_, i2⟩
        rw [← i1]
        unfold f_X9_addsGreatest_J49 f_X9_addsGreatest_J100 f_X9_addsGreatest_J110
        rw [i_48, show f_X9_takes l w 8 (nI (48 + 36 * x + 6 * h + y)) = _ from c1, Option.bind_some, t3, Option.bind_some, Option.bind_some]
        by_cases c : x = a
        · rw [if_pos c] at d1
          rw [if_pos (by rw [c]), pk_mul, show f_X9_times l2 w2 8 (nI (t x * n0)) = _ from d1, Option.bind_some, show f_X9_adds l3 w3 2 8 = _ from e1, Option.bind_some, nI_1]
        · rw [if_neg c] at d1
          rw [if_neg (fun q => c ((nI_eq (by omega) (by omega)).mp q)), show (10 : Int32) - nI (t x) = nI (10 - t x) by rw [show (10 : Int32) = nI 10 from rfl, pk_sub t2], show f_X9_times l2 w2 8 (nI (10 - t x)) = _ from d1, Option.bind_some, show f_X9_adds l3 w3 2 8 = _ from e1, Option.bind_some, nI_1]
      unfold f_X9_addsGreatest_L31
      rw [if_neg (show ¬ (5 : Int32) < nI x from i_ltn (a := 5) (by decide) (by omega) (by omega))]
      by_cases c1 : x < n0
      · rw [if_pos (nI_lt c1 (by omega))]
        exact j49 (Or.inl c1)
      · rw [if_neg (i_ltn (by omega) (by omega) c1)]
        by_cases c2 : x = 5
        · rw [if_pos (by rw [c2]; rfl)]
          exact j49 (Or.inr c2)
        · rw [if_neg (fun q => c2 ((k_5 (by omega)).mp q))]
          unfold f_X9_addsGreatest_J110
          rw [nI_1]
          exact ih (x + 1) m l w V1 (by omega) (by omega) h3 (by rw [p6_sm, show w_f J t n0 a y x = 0 from if_neg (by omega), Nat.add_zero]; exact h4) h5 h6
  have outer : ∀ (r y m : Nat) (l w : Nat → Int32) (V1 : Nat → Nat), y + r = 6 → r < m → p4_S l w V1 → V1 3 = k_mx (w_G J t n0 a) y → (∀ s, s ≠ 2 → s ≠ 3 → s ≠ 8 → V1 s = V s) → ∃ l' w' V', f_X9_addsGreatest_L16w bk (nI h) (nI a) (nI n0) m l w (nI y) = some (l', w') ∧ p4_S l' w' V' ∧ V' 9 = V 9 + w_M J t n0 a ∧ ∀ s, s ≠ 2 → s ≠ 3 → s ≠ 8 → s ≠ 9 → V' s = V s := by
    intro r
    induction r with
    | zero =>
      intro y m l w V1 h1 h2 h3 h4 h5
      obtain ⟨m, rfl⟩ : ∃ j, m = j + 1 := ⟨m - 1, by omega⟩
      obtain rfl : y = 6 := by omega
      have R9 := h3 9 (by decide) (by decide)
      rw [h5 9 (by decide) (by decide) (by decide)] at R9
      have R3 := h3 3 (by decide) (by decide)
      rw [h4] at R3
      have bM := w_M_le (J := J) ht' hn0 hJs a
      obtain ⟨l2, w2, c1, c2, c3⟩ := p4_adds (r := 9) (o := 3) (by decide) (by decide) (by decide) R9 R3 (i_P15_lt (by show V 9 + w_M J t n0 a ≤ _; omega))
      refine ⟨l2, w2, _, ?_, h3.set c2 c3, p4_us, fun s q1 q2 q3 q4 => by rw [p4_un q4, h5 s q1 q2 q3]⟩
      show f_X9_addsGreatest_L16 bk (nI h) (nI a) (nI n0) (f_X9_addsGreatest_L16w bk (nI h) (nI a) (nI n0) m) l w (nI 6) = _
      unfold f_X9_addsGreatest_L16
      rw [if_pos (show (5 : Int32) < nI 6 by decide), show f_X9_adds l w 9 3 = _ from c1, Option.bind_some]
    | succ r ih =>
      intro y m l w V1 h1 h2 h3 h4 h5
      obtain ⟨m, rfl⟩ : ∃ j, m = j + 1 := ⟨m - 1, by omega⟩
      obtain ⟨l2, w2, c1, c2, c3⟩ := p4_sets (l := l) (w := w) (r := 2) (v := 0) (by decide) (by decide)
      obtain ⟨l3, w3, V3, d1, d2, d3, d4⟩ := inner y (by omega) (f_X9_addsGreatest_L16w bk (nI h) (nI a) (nI n0) m) (k_mx (w_G J t n0 a) y) 6 0 cx_N0 l2 w2 _ (by omega) (by unfold cx_N0; omega) (h3.set c2 c3) (by rw [p4_us]; rfl) (by rw [p4_un (by decide)]; exact h4) (fun s q1 q2 q3 => by rw [p4_un q1, h5 s q1 q2 q3])
      obtain ⟨l', w', V', i1, i2⟩ := ih (y + 1) m l3 w3 V3 (by omega) (by omega) d2 (by rw [d3, k_mx]) d4
      refine ⟨l', w', V', ?_, i2⟩
      rw [← i1]
      show f_X9_addsGreatest_L16 bk (nI h) (nI a) (nI n0) (f_X9_addsGreatest_L16w bk (nI h) (nI a) (nI n0) m) l w (nI y) = _
      unfold f_X9_addsGreatest_L16
      rw [if_neg (show ¬ (5 : Int32) < nI y from i_ltn (a := 5) (by decide) (by omega) (by omega)), show f_X9_sets l w 2 0 = _ from c1, Option.bind_some]
      exact d1
  obtain ⟨l1, w1, c1, c2, c3⟩ := p4_sets (l := l) (w := w) (r := 3) (v := 0) (by decide) (by decide)
  obtain ⟨l', w', V', i1, i2⟩ := outer 6 0 cx_N0 l1 w1 _ (by omega) (by unfold cx_N0; omega) (hS.set c2 c3) (by rw [p4_us]; rfl) (fun s q1 q2 q3 => by rw [p4_un q2])
  refine ⟨l', w', V', ?_, i2⟩
  unfold f_X9_addsGreatest
  rw [p2_gd (by decide), show f_X9_sets l w 3 0 = _ from c1, Option.bind_some, show bk (cx_ix 0) = nI n0 from hb]
  exact i1
theorem m_worths (hRB : p2_RB c0 z0 c1 z1 c2 z2 c3 z3 c4 z4 sg bk n0 n1 n2 n3 n4) {l w li : Nat → Int32} {V : Nat → Nat} (hV : p4_S l w V) (hLI : q_LI bk n0 n2 li) (is0 : Nat → Int32) (oY se : Int32) {aq : Nat} (ha : aq < n2) : ∃ l' w' is' V', f_X9_worths l w bk is0 li (-1) (-1) oY (-1) se (nI aq) = some (p2_b (q_A bk n0 n1 n2 n3 n4 ≠ 0), l', w', is') ∧ p4_S l' w' V' ∧ V' 6 = q_A bk n0 n1 n2 n3 n4 ∧ V' 0 = V 0 ∧ V' 1 = V 1 ∧ V' 10 = V 10 ∧ (q_A bk n0 n1 n2 n3 n4 ≠ 0 → V' 9 = q_wW bk n0 n1 n2 n3 n4 aq - q_R bk n0 n1 n2 n3 n4 * (10 * n0)) := by
  obtain ⟨r0, r1, r2, r3, r4, rs, v0, v1, v2, v3, v4, v5⟩ := id hRB
  have hn0 := r0.1
  have hn2 := r2.1
  have hAl := i_A_lt hRB
  obtain ⟨f1, f2⟩ := q_W_facts hRB ha
  have f3 := q_R_le hRB
  obtain ⟨l1, w1, is1, V1, s1, s2, s3, s4, s5, s6⟩ := m_shares hRB hLI (i_LM0 hRB oY se) l w is0 V hV (as := true) (aq := aq) (aI := nI aq) (fun _ => ⟨rfl, ha⟩) (fun q => by cases q)
  have s3' : V1 6 = q_A bk n0 n1 n2 n3 n4 := s3
  have s4' : ∀ k x, k < n2 → x < 6 → V1 (12 + 6 * k + x) = q_S bk n0 n1 n2 n3 n4 k x := s4
  have s5' : ∀ x k y, x < 6 → k < n2 → y < 6 → V1 (48 + 36 * x + 6 * k + y) = q_J bk n0 n1 n2 n3 n4 aq x k y := s5 rfl
  have w6 : w1 (cx_ix 6) = 0 ↔ q_A bk n0 n1 n2 n3 n4 = 0 := by
    have := i_w6 s2 (r := 6) (by decide) (by decide)
    rw [s3'] at this
    exact this
  have e0 := s6 0 (by decide) (by decide) (by decide) (by decide)
  have e1 := s6 1 (by decide) (by decide) (by decide) (by decide)
  have e10 := s6 10 (by decide) (by decide) (by decide) (by decide)
  by_cases hA : q_A bk n0 n1 n2 n3 n4 = 0
  · refine ⟨l1, w1, is1, V1, ?_, s2, s3', e0, e1, e10, fun q => absurd hA q⟩
    unfold f_X9_worths
    rw [s1, Option.bind_some, p2_gd (by decide), if_pos (w6.mpr hA), p2_bF (fun q => q hA)]
  · have ht : ∀ x, k_w n0 x → 5 ≤ k_ta bk x ∧ k_ta bk x ≤ 10 ∧ f_X9_truthAbout bk (nI x) = some (nI (k_ta bk x)) := fun x hx => ⟨(k_ta_spec hRB hx).1, (k_ta_spec hRB hx).2.1, (k_ta_spec hRB hx).2.2.1⟩
    have ht' : ∀ x, k_w n0 x → 5 ≤ k_ta bk x ∧ k_ta bk x ≤ 10 := fun x hx => ⟨(ht x hx).1, (ht x hx).2.1⟩
    have hJs : ∀ h y, p6_sm (n0 + 1) (fun i => q_J bk n0 n1 n2 n3 n4 aq (p6_who n0 i) h y) ≤ q_A bk n0 n1 n2 n3 n4 := fun h y => by
      rw [q_J_sum hn0 ha]; exact i_S_le _ n0 n2 h y
    have wMl : ∀ h a, w_M (fun x y => q_J bk n0 n1 n2 n3 n4 aq x h y) (k_ta bk) n0 a ≤ q_A bk n0 n1 n2 n3 n4 * 50 := fun h a => w_M_le (J := fun x y => q_J bk n0 n1 n2 n3 n4 aq x h y) ht' hn0 (hJs h) a
    have bi : ∀ a h, h ≤ 6 → p6_sm h (fun h => w_M (fun x y => q_J bk n0 n1 n2 n3 n4 aq x h y) (k_ta bk) n0 a) ≤ 6 * (q_A bk n0 n1 n2 n3 n4 * 50) := fun a h hh => by
      refine Nat.le_trans (p6_sm_le (g := fun _ => q_A bk n0 n1 n2 n3 n4 * 50) (fun i _ => wMl i a)) ?_
      rw [p6_sm_const]
      exact Nat.mul_le_mul_right _ hh
    have bo : ∀ a, a ≤ 6 → p6_sm a (fun a => if a < n0 ∨ a = 5 then p6_sm n2 (fun h => w_M (fun x y => q_J bk n0 n1 n2 n3 n4 aq x h y) (k_ta bk) n0 a) else 0) ≤ 6 * (6 * (q_A bk n0 n1 n2 n3 n4 * 50)) := fun a ha => by
      refine Nat.le_trans (p6_sm_le (g := fun _ => 6 * (q_A bk n0 n1 n2 n3 n4 * 50)) (fun i _ => by
        by_cases c : i < n0 ∨ i = 5
        · rw [if_pos c]; exact bi i n2 hn2
        · rw [if_neg c]; exact Nat.zero_le _)) ?_
      rw [p6_sm_const]
      exact Nat.mul_le_mul_right _ ha
    have inner : ∀ (a : Nat), a < 6 → (a < n0 ∨ a = 5) → ∀ (rc : (Nat → Int32) → (Nat → Int32) → Int32 → Option (Int32 × (Nat → Int32) × (Nat → Int32) × (Nat → Int32))) (W : Nat), W ≤ 6 * (6 * (q_A bk n0 n1 n2 n3 n4 * 50)) → ∀ (r h m : Nat) (l w : Nat → Int32) (V2 : Nat → Nat), h + r = n2 → r < m → p4_S l w V2 → V2 9 = W + p6_sm h (fun h => w_M (fun x y => q_J bk n0 n1 n2 n3 n4 aq x h y) (k_ta bk) n0 a) → (∀ s, s ≠ 2 → s ≠ 3 → s ≠ 8 → s ≠ 9 → V2 s = V1 s) → ∃ l' w' V', f_X9_worths_L41w bk (nI n0) (nI a) rc m l w (nI h) = rc l' w' (nI (a + 1)) ∧ p4_S l' w' V' ∧ V' 9 = W + p6_sm n2 (fun h => w_M (fun x y => q_J bk n0 n1 n2 n3 n4 aq x h y) (k_ta bk) n0 a) ∧ (∀ s, s ≠ 2 → s ≠ 3 → s ≠ 8 → s ≠ 9 → V' s = V1 s) := by
      intro a ha6 hac rc W hW r
      induction r with
      | zero =>
        intro h m l w V2 h1 h2 h3 h4 h5
        obtain ⟨m, rfl⟩ : ∃ j, m = j + 1 := ⟨m - 1, by omega⟩
        obtain rfl : h = n2 := by omega
        refine ⟨l, w, V2, ?_, h3, h4, h5⟩
        show f_X9_worths_L41 bk (nI n0) (nI a) rc (f_X9_worths_L41w bk (nI n0) (nI a) rc m) l w (nI h) = _
        unfold f_X9_worths_L41 f_X9_worths_J75
        rw [p2_gd (by decide), if_pos (by rw [show bk (cx_ix 2) = nI h from r2.2.2.1]; exact nI_le (by omega) (by omega)), nI_1]
      | succ r ih =>
        intro h m l w V2 h1 h2 h3 h4 h5
        obtain ⟨m, rfl⟩ : ∃ j, m = j + 1 := ⟨m - 1, by omega⟩
        have bh := bi a h (by omega)
        obtain ⟨l2, w2, V3, a1, a2, a3, a4⟩ := m_addsG (J := fun x y => q_J bk n0 n1 n2 n3 n4 aq x h y) (t := k_ta bk) (A := q_A bk n0 n1 n2 n3 n4) (h := h) (a := a) h3 r0.2.2.1 hn0 ht (by omega) ha6 (fun x y hx hy => by rw [h5 _ (by omega) (by omega) (by omega) (by omega)]; exact s5' x h y hx (by omega) hy) (fun x y => i_J_le _ _ _ _ _ _ _ _ _ _) (hJs h) hAl (by rw [h4]; omega)
        obtain ⟨l', w', V', i1, i2⟩ := ih (h + 1) m l2 w2 V3 (by omega) (by omega) a2 (by rw [a3, h4, p6_sm, Nat.add_assoc]) (fun s q1 q2 q3 q4 => by rw [a4 s q1 q2 q3 q4, h5 s q1 q2 q3 q4])
        refine ⟨l', w', V', ?_, i2⟩
        rw [← i1]
        show f_X9_worths_L41 bk (nI n0) (nI a) rc (f_X9_worths_L41w bk (nI n0) (nI a) rc m) l w (nI h) = _
        unfold f_X9_worths_L41 f_X9_worths_J62
        rw [p2_gd (by decide), if_neg (by rw [show bk (cx_ix 2) = nI n2 from r2.2.2.1]; exact nI_ge (by omega) (by omega)), a1, Option.bind_some, nI_1]
        by_cases c1 : a < n0
        · rw [if_pos (nI_lt c1 (by omega))]
        · rw [if_neg (i_ltn (by omega) (by omega) c1), if_pos (by rw [show a = 5 by omega]; rfl)]
    have hnn : ∀ (l w : Nat → Int32) (V : Nat → Nat) (k : Nat), p4_S l w V → k < n2 → (∀ x, x < 6 → V (12 + 6 * k + x) = q_S bk n0 n1 n2 n3 n4 k x) → f_X9_namedNow l w bk (nI k) = some (nI (k_ll n0 (q_S bk n0 n1 n2 n3 n4 k) n0)) := fun l w V k q1 q2 q3 => i_nn hRB q1 (F := q_G0 bk n1 n2 n3 n4) hA q2 q3
    have outer : ∀ (r a m : Nat) (l w : Nat → Int32) (V2 : Nat → Nat), a + r = 6 → r < m → p4_S l w V2 → V2 9 = p6_sm a (fun a => if a < n0 ∨ a = 5 then p6_sm n2 (fun h => w_M (fun x y => q_J bk n0 n1 n2 n3 n4 aq x h y) (k_ta bk) n0 a) else 0) → (∀ s, s ≠ 2 → s ≠ 3 → s ≠ 8 → s ≠ 9 → V2 s = V1 s) → ∃ l' w' V', f_X9_worths_L33w bk is1 (nI n0) m l w (nI a) = some (1, l', w', is1) ∧ p4_S l' w' V' ∧ V' 9 = q_wW bk n0 n1 n2 n3 n4 aq - q_R bk n0 n1 n2 n3 n4 * (10 * n0) ∧ (∀ s, s ≠ 2 → s ≠ 3 → s ≠ 7 → s ≠ 8 → s ≠ 9 → V' s = V1 s) := by
      intro r
      induction r with
      | zero =>
        intro a m l w V2 h1 h2 h3 h4 h5
        obtain ⟨m, rfl⟩ : ∃ j, m = j + 1 := ⟨m - 1, by omega⟩
        obtain rfl : a = 6 := by omega
        rw [p6_sm_who (fun a => p6_sm n2 (fun h => w_M (fun x y => q_J bk n0 n1 n2 n3 n4 aq x h y) (k_ta bk) n0 a)) hn0, p6_sm_swap (fun k h => w_M (fun x y => q_J bk n0 n1 n2 n3 n4 aq x h y) (k_ta bk) n0 (p6_who n0 k))] at h4
        have h4' : V2 9 = q_wW bk n0 n1 n2 n3 n4 aq := h4
        obtain ⟨l2, w2, V3, c1, c2, c3, c4⟩ := m_rights (bk := bk) (n0 := n0) (n2 := n2) (S := q_S bk n0 n1 n2 n3 n4) (A := q_A bk n0 n1 n2 n3 n4) hn0 hn2 r2.2.2.1 h3 (fun k x hk hx => by rw [h5 _ (by omega) (by omega) (by omega) (by omega)]; exact s4' k x hk hx) hnn hAl (fun k x => i_S_le _ n0 n2 k x)
        have c3' : V3 7 = q_R bk n0 n1 n2 n3 n4 := c3
        have R7 := c2 7 (by decide) (by decide)
        rw [c3'] at R7
        have bR : q_R bk n0 n1 n2 n3 n4 * (10 * n0) ≤ q_R bk n0 n1 n2 n3 n4 * 50 := Nat.mul_le_mul_left _ (by omega)
        obtain ⟨l3, w3, d1, d2, d3⟩ := p4_times (r := 7) (b := 10 * n0) (by decide) (by omega) R7 (i_P16_lt (by omega))
        have S3 := c2.set d2 d3
        have R9 := S3 9 (by decide) (by decide)
        rw [p4_un (by decide), c4 9 (by decide), h4'] at R9
        have R7' := S3 7 (by decide) (by decide)
        rw [p4_us] at R7'
        obtain ⟨l4, w4, g1, g2, g3⟩ := p4_lessens (r := 9) (o := 7) (by decide) (by decide) (by decide) R9 R7' f1
        refine ⟨l4, w4, _, ?_, S3.set g2 g3, p4_us, fun s q1 q2 q3 q4 q5 => by rw [p4_un q5, p4_un q3, c4 s q3, h5 s q1 q2 q4 q5]⟩
        show f_X9_worths_L33 bk is1 (nI n0) (f_X9_worths_L33w bk is1 (nI n0) m) l w (nI 6) = _
        unfold f_X9_worths_L33
        rw [if_pos (show (5 : Int32) < nI 6 by decide), c1, Option.bind_some, show (10 : Int32) * nI n0 = nI (10 * n0) by rw [show (10 : Int32) = nI 10 from rfl, pk_mul], show f_X9_times l2 w2 7 (nI (10 * n0)) = _ from d1, Option.bind_some, show f_X9_lessens l3 w3 9 7 = _ from g1, Option.bind_some]
      | succ r ih =>
        intro a m l w V2 h1 h2 h3 h4 h5
        obtain ⟨m, rfl⟩ : ∃ j, m = j + 1 := ⟨m - 1, by omega⟩
        show ∃ l' w' V', f_X9_worths_L33 bk is1 (nI n0) (f_X9_worths_L33w bk is1 (nI n0) m) l w (nI a) = _ ∧ _
        unfold f_X9_worths_L33
        rw [if_neg (show ¬ (5 : Int32) < nI a from i_ltn (a := 5) (by decide) (by omega) (by omega))]
        by_cases c : a < n0 ∨ a = 5
        · have bo1 := bo a (by omega)
          rw [← h4] at bo1
          obtain ⟨l2, w2, V3, d1, d2, d3, d4⟩ := inner a (by omega) c (f_X9_worths_L33w bk is1 (nI n0) m) (V2 9) bo1 n2 0 cx_N0 l w V2 (by omega) (by unfold cx_N0; omega) h3 (by rw [p6_sm, Nat.add_zero]) h5
          obtain ⟨l', w', V', i1, i2⟩ := ih (a + 1) m l2 w2 V3 (by omega) (by omega) d2 (by rw [d3, p6_sm, if_pos c, h4]) d4
          refine ⟨l', w', V', ?_, i2⟩
          rw [← i1]
          exact d1
        · obtain ⟨l', w', V', i1, i2⟩ := ih (a + 1) m l w V2 (by omega) (by omega) h3 (by rw [h4, p6_sm, if_neg c, Nat.add_zero]) h5
          refine ⟨l', w', V', ?_, i2⟩
          rw [← i1]
          show f_X9_worths_L41 bk (nI n0) (nI a) (f_X9_worths_L33w bk is1 (nI n0) m) (f_X9_worths_L41w bk (nI n0) (nI a) (f_X9_worths_L33w bk is1 (nI n0) m) 9999999999) l w 0 = _
          unfold f_X9_worths_L41 f_X9_worths_J75
          rw [p2_gd (by decide), if_neg (i_ltn (by omega) (by omega) (by omega)), if_neg (fun q => c (Or.inr ((k_5 (by omega)).mp q))), nI_1]
          split <;> rfl
    obtain ⟨l2, w2, c1, c2, c3⟩ := p4_sets (l := l1) (w := w1) (r := 9) (v := 0) (by decide) (by decide)
    obtain ⟨l', w', V', i1, i2, i3, i4⟩ := outer 6 0 cx_N0 l2 w2 _ (by omega) (by unfold cx_N0; omega) (s2.set c2 c3) (by rw [p4_us]; rfl) (fun s q1 q2 q3 q4 => by rw [p4_un q4])
    refine ⟨l', w', is1, V', ?_, i2, by rw [i4 6 (by decide) (by decide) (by decide) (by decide) (by decide)]; exact s3', by rw [i4 0 (by decide) (by decide) (by decide) (by decide) (by decide)]; exact e0, by rw [i4 1 (by decide) (by decide) (by decide) (by decide) (by decide)]; exact e1, by rw [i4 10 (by decide) (by decide) (by decide) (by decide) (by decide)]; exact e10, fun _ => i3⟩
    unfold f_X9_worths
    rw [s1, Option.bind_some, p2_gd (by decide), if_neg (fun q => hA (w6.mp q)), p2_gd (by decide), show f_X9_sets l1 w1 9 0 = _ from c1, Option.bind_some, show bk (cx_ix 0) = nI n0 from r0.2.2.1, p2_bT hA]
    exact i1
theorem m_tellsW (hRB : p2_RB c0 z0 c1 z1 c2 z2 c3 z3 c4 z4 sg bk n0 n1 n2 n3 n4) {l w : Nat → Int32} {V : Nat → Nat} {r v : Nat} (hS : p4_S l w V) (hr : r = 9 ∨ r = 10) (hv : V r = v) (h6 : V 6 = q_A bk n0 n1 n2 n3 n4) (hA : q_A bk n0 n1 n2 n3 n4 ≠ 0) : ∃ l' w' V', f_X9_tellsWorth l w bk (nI r) = some (1, l', w') ∧ p4_S l' w' V' ∧ V' 0 = v / Nat.gcd v (q_un bk n0 n1 n2 n3 n4) ∧ V' 1 = q_un bk n0 n1 n2 n3 n4 / Nat.gcd v (q_un bk n0 n1 n2 n3 n4) ∧ 0 < q_un bk n0 n1 n2 n3 n4 := by
  obtain ⟨r0, r1, r2, r3, r4, rs, v0, v1, v2, v3, v4, v5⟩ := id hRB
  have hn0 := r0.1
  have hAl := i_A_lt hRB
  obtain ⟨l1, w1, a1, a2, a3⟩ := p4_takes (r := 7) (o := r) (by decide) (by omega) (by omega) (hS r (by omega) (by omega))
  have S1 := hS.set a2 a3
  by_cases h0 : n0 = 0
  · have eu : q_un bk n0 n1 n2 n3 n4 = q_A bk n0 n1 n2 n3 n4 := if_pos h0
    rw [eu]
    obtain ⟨l4, w4, V4, k1, k2, k3, k4, k5⟩ := i_tellsHit S1 (by rw [p4_un (by decide), h6]; exact Nat.pos_of_ne_zero hA)
    rw [p4_us, p4_un (by decide), h6, hv] at k3 k4
    refine ⟨l4, w4, V4, ?_, k2, k3, k4, Nat.pos_of_ne_zero hA⟩
    unfold f_X9_tellsWorth f_X9_tellsWorth_J31
    rw [show f_X9_takes l w 7 (nI r) = _ from a1, Option.bind_some, p2_gd (by decide), if_pos (by rw [show bk (cx_ix 0) = nI n0 from r0.2.2.1, h0]; decide), k1, Option.bind_some]
  · have eu : q_un bk n0 n1 n2 n3 n4 = q_A bk n0 n1 n2 n3 n4 * (10 * n0) := if_neg h0
    have hp : 0 < q_A bk n0 n1 n2 n3 n4 * (10 * n0) := Nat.mul_pos (Nat.pos_of_ne_zero hA) (by omega)
    rw [eu]
    have R6 := S1 6 (by decide) (by decide)
    rw [p4_un (by decide), h6] at R6
    have bA : q_A bk n0 n1 n2 n3 n4 * (10 * n0) ≤ q_A bk n0 n1 n2 n3 n4 * 50 := Nat.mul_le_mul_left _ (by omega)
    obtain ⟨l2, w2, b1, b2, b3⟩ := p4_times (r := 6) (b := 10 * n0) (by decide) (by omega) R6 (i_P16_lt (by omega))
    have S2 := S1.set b2 b3
    obtain ⟨l4, w4, V4, k1, k2, k3, k4, k5⟩ := i_tellsHit S2 (by rw [p4_us]; exact hp)
    rw [p4_us, p4_un (by decide), p4_us, hv] at k3 k4
    refine ⟨l4, w4, V4, ?_, k2, k3, k4, hp⟩
    unfold f_X9_tellsWorth f_X9_tellsWorth_J31
    rw [show f_X9_takes l w 7 (nI r) = _ from a1, Option.bind_some, p2_gd (by decide), show bk (cx_ix 0) = nI n0 from r0.2.2.1, if_neg (nI_nle (by omega) (by omega)), p2_gd (by decide), show (10 : Int32) * nI n0 = nI (10 * n0) by rw [show (10 : Int32) = nI 10 from rfl, pk_mul], show f_X9_times l1 w1 6 (nI (10 * n0)) = _ from b1, Option.bind_some, k1, Option.bind_some]
end RW
