/-! WEIGH: the class -/
theorem p3_U_fr {x x' : Nat → Int64} {i j V M : Nat} (h : p3_U x i V M) (hF : p3_F x x' j) (hij : i ≠ j) : p3_U x' i V M := by
  obtain ⟨s, h1, h2⟩ := h
  refine ⟨s, fun k hk => ?_, h2⟩
  rw [hF (i * 4 + k) (by omega)]
  exact h1 k hk
theorem i_ltn {a b : Nat} (ha : a < 2 ^ 31) (hb : b < 2 ^ 31) (h : ¬ a < b) : ¬ nI a < nI b := fun q => h ((nI_ltI ha hb).mp q)
theorem i_10 {t : Nat} (h : t ≤ 10) : Int32.toInt64 (10 - nI t) = lN (10 - t) := by
  rw [show (10 : Int32) = nI 10 from rfl, pk_sub h, nI_l (by omega)]
section CW
variable {c0 c1 c2 c3 c4 : Nat → Int32} {z0 z1 z2 z3 z4 sg : Int32} {bk : Nat → Int32} {n0 n1 n2 n3 n4 : Nat}
variable {sh pa : Nat → Int64}
theorem i_planW (hRB : p2_RB c0 z0 c1 z1 c2 z2 c3 z3 c4 z4 sg bk n0 n1 n2 n3 n4) (wr gu : Nat → Int64) {h aq : Nat} (hh : h < n2) (ha : aq < n2) (hSh : ∀ k x, k < n2 → x < 6 → p3_N sh (k * 6 + x) (q_S bk n0 n1 n2 n3 n4 k x)) (hPa : p8_P4 pa (q_Q bk n0 n1 n2 n3 n4) 4503599627370496) : ∃ wr' gu', f_X0_planWrongly wr gu c0 z0 5184 sh pa (nI h) (nI aq) = some (wr', gu') ∧ ∀ y, k_w n0 y → p3_U wr' y (w_wr (fun x y => q_J bk n0 n1 n2 n3 n4 aq x h y) (k_ta bk) n0 y) 6442450938 := by
  obtain ⟨r0, r1, r2, r3, r4, rs, v0, v1, v2, v3, v4, v5⟩ := id hRB
  have hn0 := r0.1
  have hn2 := r2.1
  have hA := i_A_lt hRB
  have hwa : ∀ i, i ≤ n0 → f_X8_whoAt (nI i) z0 = some (nI (p6_who n0 i)) := fun i hi => by rw [r0.2.1]; exact k_whoAt hn0 hi
  have inner : ∀ (i3 : Int32) (rc : (Nat → Int64) → (Nat → Int64) → Int32 → Option ((Nat → Int64) × (Nat → Int64))) (y : Nat), k_w n0 y → ∀ (r k m : Nat) (wr gu : Nat → Int64), k + r = n0 + 1 → r < m → p3_U wr y (p6_sm k (fun i => q_J bk n0 n1 n2 n3 n4 aq (p6_who n0 i) h y * (10 - k_ta bk (p6_who n0 i)))) (k * 1073741823) → ∃ wr' gu', f_X0_planWrongly_L44w c0 z0 5184 sh pa (nI h) (nI aq) i3 rc (nI y) m wr gu (nI k) = rc wr' gu' (i3 + 1) ∧ p3_F wr wr' y ∧ p3_U wr' y (w_wr (fun x y => q_J bk n0 n1 n2 n3 n4 aq x h y) (k_ta bk) n0 y) 6442450938 := by
    intro i3 rc y hy r
    have hy6 := k_w_lt hn0 hy
    induction r with
    | zero =>
      intro k m wr gu h1 h2 h3
      obtain ⟨m, rfl⟩ : ∃ j, m = j + 1 := ⟨m - 1, by omega⟩
      obtain rfl : k = n0 + 1 := by omega
      refine ⟨wr, gu, ?_, fun _ _ => rfl, h3.mono (by omega)⟩
      show f_X0_planWrongly_L44 c0 z0 5184 sh pa (nI h) (nI aq) i3 rc (nI y) (f_X0_planWrongly_L44w c0 z0 5184 sh pa (nI h) (nI aq) i3 rc (nI y) m) wr gu (nI (n0 + 1)) = _
      unfold f_X0_planWrongly_L44
      rw [r0.2.1, if_pos (nI_lt (by omega) (by omega))]
    | succ r ih =>
      intro k m wr gu h1 h2 h3
      obtain ⟨m, rfl⟩ : ∃ j, m = j + 1 := ⟨m - 1, by omega⟩
      have hw := p6_who_w n0 k
      have hw6 := k_w_lt hn0 hw
      obtain ⟨t1, t2, t3, t4⟩ := k_ta_spec hRB hw
      obtain ⟨g1, a1, a2⟩ := i_putJ (bk := bk) (n0 := n0) (n1 := n1) (n3 := n3) (n4 := n4) gu hn2 hh ha hy6 hw6 hA hSh hPa
      rw [q_J_comm] at a2
      have bJ := i_J_le bk n0 n1 n2 n3 n4 aq (p6_who n0 k) h y
      have bm : q_J bk n0 n1 n2 n3 n4 aq (p6_who n0 k) h y * (10 - k_ta bk (p6_who n0 k)) ≤ q_A bk n0 n1 n2 n3 n4 * 5 := Nat.mul_le_mul bJ (by omega)
      obtain ⟨g2, b1, b2, b3⟩ := p3_multiply_x (n := 4) (i := 0) (j := 0) (mm := 10 - k_ta bk (p6_who n0 k)) (by decide) (by decide) (by decide) a2 (by omega) (i_P4_lt (by omega))
      obtain ⟨w1, d1, d2, d3⟩ := p3_add (n := 24) (i := y) (n' := 4) (j := 0) (by omega) (by decide) (by decide) (by decide) h3 b3.U
      obtain ⟨wr', gu', e1, e2, e3⟩ := ih (k + 1) m w1 g2 (by omega) (by omega) (by rw [p6_sm, Nat.succ_mul]; exact d3)
      refine ⟨wr', gu', ?_, fun j hj => by rw [e2 j hj, d2 j hj], e3⟩
      rw [← e1]
      show f_X0_planWrongly_L44 c0 z0 5184 sh pa (nI h) (nI aq) i3 rc (nI y) (f_X0_planWrongly_L44w c0 z0 5184 sh pa (nI h) (nI aq) i3 rc (nI y) m) wr gu (nI k) = _
      unfold f_X0_planWrongly_L44
      rw [if_neg (show ¬ z0 < nI k by rw [r0.2.1]; exact i_ltn (by omega) (by omega) (by omega)), hwa k (by omega), Option.bind_some, a1, Option.bind_some, t4, Option.bind_some, i_10 t2, show f_X3_multiply_x_e0 4 g1 0 0 (lN (10 - k_ta bk (p6_who n0 k))) = _ from b1, Option.bind_some, show f_X3_add 24 wr (nI y) 4 g2 0 = _ from d1, Option.bind_some, nI_1]
  have outer : ∀ (r i m : Nat) (wr gu : Nat → Int64), i + r = n0 + 1 → r < m → (∀ i', i' < i → p3_U wr (p6_who n0 i') (w_wr (fun x y => q_J bk n0 n1 n2 n3 n4 aq x h y) (k_ta bk) n0 (p6_who n0 i')) 6442450938) → ∃ wr' gu', f_X0_planWrongly_L2w c0 z0 5184 sh pa (nI h) (nI aq) m wr gu (nI i) = some (wr', gu') ∧ ∀ y, k_w n0 y → p3_U wr' y (w_wr (fun x y => q_J bk n0 n1 n2 n3 n4 aq x h y) (k_ta bk) n0 y) 6442450938 := by
    intro r
    induction r with
    | zero =>
      intro i m wr gu h1 h2 h3
      obtain ⟨m, rfl⟩ : ∃ j, m = j + 1 := ⟨m - 1, by omega⟩
      refine ⟨wr, gu, ?_, fun y hy => ?_⟩
      · show f_X0_planWrongly_L2 c0 z0 5184 sh pa (nI h) (nI aq) (f_X0_planWrongly_L2w c0 z0 5184 sh pa (nI h) (nI aq) m) wr gu (nI i) = _
        unfold f_X0_planWrongly_L2
        rw [r0.2.1, if_pos (nI_lt (by omega) (by omega))]
      · obtain ⟨i', q1, q2⟩ := q_whoEx hy
        rw [← q2]
        exact h3 i' (by omega)
    | succ r ih =>
      intro i m wr gu h1 h2 h3
      obtain ⟨m, rfl⟩ : ∃ j, m = j + 1 := ⟨m - 1, by omega⟩
      have hw := p6_who_w n0 i
      have hw6 := k_w_lt hn0 hw
      obtain ⟨w1, a1, a2, a3⟩ := p3_zero (n := 24) (i := p6_who n0 i) wr (by omega) (by decide)
      obtain ⟨w2, g2, b1, b2, b3⟩ := inner (nI i) (f_X0_planWrongly_L2w c0 z0 5184 sh pa (nI h) (nI aq) m) (p6_who n0 i) hw (n0 + 1) 0 cx_N0 w1 gu (by omega) (by unfold cx_N0; omega) (by rw [Nat.zero_mul]; exact p3_U0 a3)
      obtain ⟨wr', gu', e1, e2⟩ := ih (i + 1) m w2 g2 (by omega) (by omega) (fun i' hi' => by
        by_cases c : i' = i
        · subst c; exact b3
        · have hne : p6_who n0 i' ≠ p6_who n0 i := fun q => c ((p6_who_inj hn0 (by omega) (by omega)).mp q)
          exact p3_U_fr (p3_U_fr (h3 i' (by omega)) a2 hne) b2 hne)
      refine ⟨wr', gu', ?_, e2⟩
      rw [← e1]
      show f_X0_planWrongly_L2 c0 z0 5184 sh pa (nI h) (nI aq) (f_X0_planWrongly_L2w c0 z0 5184 sh pa (nI h) (nI aq) m) wr gu (nI i) = _
      unfold f_X0_planWrongly_L2
      rw [if_neg (show ¬ z0 < nI i by rw [r0.2.1]; exact i_ltn (by omega) (by omega) (by omega)), hwa i (by omega), Option.bind_some, a1, Option.bind_some]
      rw [nI_1] at b1
      exact b1
  unfold f_X0_planWrongly
  exact outer (n0 + 1) 0 cx_N0 wr gu (by omega) (by unfold cx_N0; omega) (fun i hi => by omega)
theorem i_addB (hRB : p2_RB c0 z0 c1 z1 c2 z2 c3 z3 c4 z4 sg bk n0 n1 n2 n3 n4) (h0 : 1 ≤ n0) (wo wr gu mo : Nat → Int64) {h aq W M : Nat} (hh : h < n2) (ha : aq < n2) (hSh : ∀ k x, k < n2 → x < 6 → p3_N sh (k * 6 + x) (q_S bk n0 n1 n2 n3 n4 k x)) (hPa : p8_P4 pa (q_Q bk n0 n1 n2 n3 n4) 4503599627370496) (hwr : ∀ y, k_w n0 y → p3_U wr y (w_wr (fun x y => q_J bk n0 n1 n2 n3 n4 aq x h y) (k_ta bk) n0 y) 6442450938) (hwo : p3_U wo 0 W M) : ∃ wo' gu' mo', f_X0_addBehind wo wr gu mo c0 z0 5184 sh pa (nI h) (nI aq) = some (wo', gu', mo') ∧ p3_U wo' 0 (W + p6_sm (n0 + 1) (fun k => w_M (fun x y => q_J bk n0 n1 n2 n3 n4 aq x h y) (k_ta bk) n0 (p6_who n0 k))) (M + 6442450938) := by
  obtain ⟨r0, r1, r2, r3, r4, rs, v0, v1, v2, v3, v4, v5⟩ := id hRB
  have hn0 := r0.1
  have hn2 := r2.1
  have hA := i_A_lt hRB
  have hwa : ∀ i, i ≤ n0 → f_X8_whoAt (nI i) z0 = some (nI (p6_who n0 i)) := fun i hi => by rw [r0.2.1]; exact k_whoAt hn0 hi
  have ht : ∀ x, k_w n0 x → 5 ≤ k_ta bk x ∧ k_ta bk x ≤ 10 := fun x hx => ⟨(k_ta_spec hRB hx).1, (k_ta_spec hRB hx).2.1⟩
  have hJs : ∀ y, p6_sm (n0 + 1) (fun i => q_J bk n0 n1 n2 n3 n4 aq (p6_who n0 i) h y) ≤ q_A bk n0 n1 n2 n3 n4 := fun y => by
    rw [q_J_sum hn0 ha]; exact i_S_le _ n0 n2 h y
  have inner : ∀ (wo : Nat → Int64) (W M : Nat) (k4 : Int32) (rc : (Nat → Int64) → (Nat → Int64) → (Nat → Int64) → Int32 → Option ((Nat → Int64) × (Nat → Int64) × (Nat → Int64))) (k : Nat), k ≤ n0 → p3_U wo 0 W M → ∀ (r i m : Nat) (gu mo : Nat → Int64), i + r = n0 + 1 → r < m → p3_N mo 0 (k_mx (fun i => w_G (fun x y => q_J bk n0 n1 n2 n3 n4 aq x h y) (k_ta bk) n0 (p6_who n0 k) (p6_who n0 i)) i) → ∃ wo' gu' mo', f_X0_addBehind_L65w wr z0 5184 sh pa (nI h) (nI aq) wo k4 rc (nI (p6_who n0 k)) (nI (n0 * k_ta bk (p6_who n0 k) - (10 - k_ta bk (p6_who n0 k)))) m gu mo (nI i) = rc wo' gu' mo' (k4 + 1) ∧ p3_U wo' 0 (W + w_M (fun x y => q_J bk n0 n1 n2 n3 n4 aq x h y) (k_ta bk) n0 (p6_who n0 k)) (M + 1073741823) := by
    intro wo W M k4 rc k hk hwo r
    have hwk := p6_who_w n0 k
    have hwk6 := k_w_lt hn0 hwk
    obtain ⟨s1, s2⟩ := ht _ hwk
    induction r with
    | zero =>
      intro i m gu mo h1 h2 h3
      obtain ⟨m, rfl⟩ : ∃ j, m = j + 1 := ⟨m - 1, by omega⟩
      obtain rfl : i = n0 + 1 := by omega
      rw [k_mx_who (f := w_G (fun x y => q_J bk n0 n1 n2 n3 n4 aq x h y) (k_ta bk) n0 (p6_who n0 k)) hn0 (fun y hy hny => w_G_z (fun x => q_J_z hh hny x))] at h3
      obtain ⟨wo', d1, d2, d3⟩ := p3_add (n := 4) (i := 0) (n' := 4) (j := 0) (by decide) (by decide) (by decide) (by decide) hwo h3.U
      refine ⟨wo', gu, mo, ?_, d3⟩
      show f_X0_addBehind_L65 wr z0 5184 sh pa (nI h) (nI aq) wo k4 rc (nI (p6_who n0 k)) (nI (n0 * k_ta bk (p6_who n0 k) - (10 - k_ta bk (p6_who n0 k)))) (f_X0_addBehind_L65w wr z0 5184 sh pa (nI h) (nI aq) wo k4 rc (nI (p6_who n0 k)) (nI (n0 * k_ta bk (p6_who n0 k) - (10 - k_ta bk (p6_who n0 k)))) m) gu mo (nI (n0 + 1)) = _
      unfold f_X0_addBehind_L65
      rw [r0.2.1, if_pos (nI_lt (by omega) (by omega)), show f_X3_add 4 wo 0 4 mo 0 = _ from d1, Option.bind_some]
    | succ r ih =>
      intro i m gu mo h1 h2 h3
      obtain ⟨m, rfl⟩ : ∃ j, m = j + 1 := ⟨m - 1, by omega⟩
      have hw := p6_who_w n0 i
      have hw6 := k_w_lt hn0 hw
      obtain ⟨g1, a1, a2⟩ := i_putJ (bk := bk) (n0 := n0) (n1 := n1) (n3 := n3) (n4 := n4) gu hn2 hh ha hw6 hwk6 hA hSh hPa
      rw [q_J_comm] at a2
      have hsp := w_G_split (J := fun x y => q_J bk n0 n1 n2 n3 n4 aq x h y) (t := k_ta bk) hn0 h0 ht hk (p6_who n0 i)
      have hGl := w_G_le (J := fun x y => q_J bk n0 n1 n2 n3 n4 aq x h y) ht hn0 hJs (p6_who n0 k) (p6_who n0 i)
      have hmo : n0 * k_ta bk (p6_who n0 k) - (10 - k_ta bk (p6_who n0 k)) < 2 ^ 31 := by
        have : n0 * k_ta bk (p6_who n0 k) ≤ 5 * 10 := Nat.mul_le_mul hn0 s2
        omega
      generalize hmm : n0 * k_ta bk (p6_who n0 k) - (10 - k_ta bk (p6_who n0 k)) = mm at *
      obtain ⟨g2, b1, b2, b3⟩ := p3_multiply_x (n := 4) (i := 0) (j := 0) (mm := mm) (by decide) (by decide) (by decide) a2 (by omega) (i_P4_lt (by omega))
      obtain ⟨g3, c1, c2, c3⟩ := p3_add (n := 4) (i := 0) (n' := 24) (j := p6_who n0 i) (by decide) (by decide) (by omega) (by decide) b3.U (hwr _ hw)
      rw [← hsp] at c3
      obtain ⟨g4, d1, d2, d3⟩ := p3_carry (n := 4) (i := 0) (by decide) (by decide) c3 (by decide) (i_P4_lt (by omega))
      show ∃ wo' gu' mo', f_X0_addBehind_L65 wr z0 5184 sh pa (nI h) (nI aq) wo k4 rc (nI (p6_who n0 k)) (nI mm) (f_X0_addBehind_L65w wr z0 5184 sh pa (nI h) (nI aq) wo k4 rc (nI (p6_who n0 k)) (nI mm) m) gu mo (nI i) = _ ∧ _
      unfold f_X0_addBehind_L65 f_X0_addBehind_J164
      rw [if_neg (show ¬ z0 < nI i by rw [r0.2.1]; exact i_ltn (by omega) (by omega) (by omega)), hwa i (by omega), Option.bind_some, a1, Option.bind_some, nI_l hmo, show f_X3_multiply_x_e0 4 g1 0 0 (lN mm) = _ from b1, Option.bind_some, show f_X3_add 4 g2 0 24 wr (nI (p6_who n0 i)) = _ from c1, Option.bind_some, show f_X3_carry 4 g3 0 = _ from d1, Option.bind_some, show f_X3_compare 4 g4 0 4 mo 0 = _ from p3_compare (i := 0) (j := 0) (by decide) (by decide) (by decide) (by decide) d3 h3, Option.bind_some, nI_1]
      by_cases q : k_mx (fun i => w_G (fun x y => q_J bk n0 n1 n2 n3 n4 aq x h y) (k_ta bk) n0 (p6_who n0 k) (p6_who n0 i)) i < w_G (fun x y => q_J bk n0 n1 n2 n3 n4 aq x h y) (k_ta bk) n0 (p6_who n0 k) (p6_who n0 i)
      · obtain ⟨m1, e1, e2, e3⟩ := p3_copy (n := 4) (i := 0) (n' := 4) (j := 0) mo (by decide) (by decide) (by decide) (by decide) d3
        rw [if_neg (fun z => i_cmpLe.mp z q), show f_X3_copy 4 mo 0 4 g4 0 = _ from e1, Option.bind_some]
        exact ih (i + 1) m g4 m1 (by omega) (by omega) (by rw [k_mx, if_pos q]; exact e3)
      · rw [if_pos (i_cmpLe.mpr q)]
        exact ih (i + 1) m g4 mo (by omega) (by omega) (by rw [k_mx, if_neg q]; exact h3)
  have outer : ∀ (r k m : Nat) (wo gu mo : Nat → Int64), k + r = n0 + 1 → r < m → p3_U wo 0 (W + p6_sm k (fun k => w_M (fun x y => q_J bk n0 n1 n2 n3 n4 aq x h y) (k_ta bk) n0 (p6_who n0 k))) (M + k * 1073741823) → ∃ wo' gu' mo', f_X0_addBehind_L14w wr c0 z0 5184 sh pa (nI h) (nI aq) m wo gu mo (nI k) = some (wo', gu', mo') ∧ p3_U wo' 0 (W + p6_sm (n0 + 1) (fun k => w_M (fun x y => q_J bk n0 n1 n2 n3 n4 aq x h y) (k_ta bk) n0 (p6_who n0 k))) (M + 6442450938) := by
    intro r
    induction r with
    | zero =>
      intro k m wo gu mo h1 h2 h3
      obtain ⟨m, rfl⟩ : ∃ j, m = j + 1 := ⟨m - 1, by omega⟩
      obtain rfl : k = n0 + 1 := by omega
      refine ⟨wo, gu, mo, ?_, h3.mono (by omega)⟩
      show f_X0_addBehind_L14 wr c0 z0 5184 sh pa (nI h) (nI aq) (f_X0_addBehind_L14w wr c0 z0 5184 sh pa (nI h) (nI aq) m) wo gu mo (nI (n0 + 1)) = _
      unfold f_X0_addBehind_L14
      rw [r0.2.1, if_pos (nI_lt (by omega) (by omega))]
    | succ r ih =>
      intro k m wo gu mo h1 h2 h3
      obtain ⟨m, rfl⟩ : ∃ j, m = j + 1 := ⟨m - 1, by omega⟩
      have hw := p6_who_w n0 k
      obtain ⟨t1, t2, t3, t4⟩ := k_ta_spec hRB hw
      obtain ⟨m1, a1, a2, a3⟩ := p3_zero (n := 4) (i := 0) mo (by decide) (by decide)
      obtain ⟨w2, g2, m2, b1, b2⟩ := inner wo _ _ (nI k) (f_X0_addBehind_L14w wr c0 z0 5184 sh pa (nI h) (nI aq) m) k (by omega) h3 (n0 + 1) 0 cx_N0 gu m1 (by omega) (by unfold cx_N0; omega) a3
      obtain ⟨wo', gu', mo', e1, e2⟩ := ih (k + 1) m w2 g2 m2 (by omega) (by omega) (by rw [p6_sm, Nat.succ_mul, ← Nat.add_assoc, ← Nat.add_assoc]; exact b2)
      refine ⟨wo', gu', mo', ?_, e2⟩
      rw [← e1]
      show f_X0_addBehind_L14 wr c0 z0 5184 sh pa (nI h) (nI aq) (f_X0_addBehind_L14w wr c0 z0 5184 sh pa (nI h) (nI aq) m) wo gu mo (nI k) = _
      unfold f_X0_addBehind_L14
      have hT : k_ta bk (p6_who n0 k) ≤ n0 * k_ta bk (p6_who n0 k) := Nat.le_mul_of_pos_left _ h0
      rw [if_neg (show ¬ z0 < nI k by rw [r0.2.1]; exact i_ltn (by omega) (by omega) (by omega)), hwa k (by omega), Option.bind_some, t4, Option.bind_some, Option.bind_some, show f_X3_zero 4 mo 0 = _ from a1, Option.bind_some, show z0 * nI (k_ta bk (p6_who n0 k)) - (10 - nI (k_ta bk (p6_who n0 k))) = nI (n0 * k_ta bk (p6_who n0 k) - (10 - k_ta bk (p6_who n0 k))) by rw [r0.2.1, pk_mul, show (10 : Int32) = nI 10 from rfl, pk_sub t2, pk_sub (by omega)]]
      rw [nI_1] at b1
      exact b1
  unfold f_X0_addBehind
  exact outer (n0 + 1) 0 cx_N0 wo gu mo (by omega) (by unfold cx_N0; omega) (by rw [Nat.zero_mul, Nat.add_zero, p6_sm, Nat.add_zero]; exact hwo)
def q_R (bk : Nat → Int32) (n0 n1 n2 n3 n4 : Nat) : Nat := p6_sm n2 (fun h => q_S bk n0 n1 n2 n3 n4 h (k_ll n0 (q_S bk n0 n1 n2 n3 n4 h) n0))
def q_wW (bk : Nat → Int32) (n0 n1 n2 n3 n4 aq : Nat) : Nat := w_W (fun h x y => q_J bk n0 n1 n2 n3 n4 aq x h y) (k_ta bk) n0 n2
def q_wv (bk : Nat → Int32) (n0 n1 n2 n3 n4 aq : Nat) : Nat := if n0 = 0 then 0 else q_wW bk n0 n1 n2 n3 n4 aq - q_R bk n0 n1 n2 n3 n4 * (10 * n0)
def q_un (bk : Nat → Int32) (n0 n1 n2 n3 n4 : Nat) : Nat := if n0 = 0 then q_A bk n0 n1 n2 n3 n4 else q_A bk n0 n1 n2 n3 n4 * (10 * n0)
theorem q_W_facts (hRB : p2_RB c0 z0 c1 z1 c2 z2 c3 z3 c4 z4 sg bk n0 n1 n2 n3 n4) {aq : Nat} (ha : aq < n2) : q_R bk n0 n1 n2 n3 n4 * (10 * n0) ≤ q_wW bk n0 n1 n2 n3 n4 aq ∧ q_wW bk n0 n1 n2 n3 n4 aq ≤ 1800 * q_A bk n0 n1 n2 n3 n4 := by
  have hn0 := hRB.1.1
  have hn2 := hRB.2.2.1.1
  have ht : ∀ x, k_w n0 x → 5 ≤ k_ta bk x ∧ k_ta bk x ≤ 10 := fun x hx => ⟨(k_ta_spec hRB hx).1, (k_ta_spec hRB hx).2.1⟩
  refine ⟨w_W_ge (S := q_S bk n0 n1 n2 n3 n4) ht hn0 (fun h y _ => q_J_sum hn0 ha y), w_W_le ht hn0 hn2 (fun h y _ => ?_)⟩
  show p6_sm (n0 + 1) (fun i => q_J bk n0 n1 n2 n3 n4 aq (p6_who n0 i) h y) ≤ _
  rw [q_J_sum hn0 ha]; exact i_S_le _ n0 n2 h y
theorem q_R_le (hRB : p2_RB c0 z0 c1 z1 c2 z2 c3 z3 c4 z4 sg bk n0 n1 n2 n3 n4) : q_R bk n0 n1 n2 n3 n4 ≤ 6 * q_A bk n0 n1 n2 n3 n4 := by
  have hn2 := hRB.2.2.1.1
  have h1 : q_R bk n0 n1 n2 n3 n4 ≤ n2 * q_A bk n0 n1 n2 n3 n4 := by
    unfold q_R
    rw [← p6_sm_const]; exact p6_sm_le (fun i _ => i_S_le _ n0 n2 i _)
  exact Nat.le_trans h1 (Nat.mul_le_mul_right _ hn2)
theorem i_weigh (hRB : p2_RB c0 z0 c1 z1 c2 z2 c3 z3 c4 z4 sg bk n0 n1 n2 n3 n4) (wo un wr gu mo to an : Nat → Int64) (pe he : Int32) {aq : Nat} (ha : aq < n2) (hpe : pe = nI n0) (hhe : he = nI n2) (hto : p3_N to 0 (q_A bk n0 n1 n2 n3 n4)) (hSh : ∀ k x, k < n2 → x < 6 → p3_N sh (k * 6 + x) (q_S bk n0 n1 n2 n3 n4 k x)) (hPa : p8_P4 pa (q_Q bk n0 n1 n2 n3 n4) 4503599627370496) : ∃ wo' un' wr' gu' mo' an', f_X0_weigh wo un wr gu mo c0 z0 z2 5184 to sh pa an pe he (nI aq) = some (wo', un', wr', gu', mo', an') ∧ p3_N wo' 0 (q_wv bk n0 n1 n2 n3 n4 aq) ∧ p3_N un' 0 (q_un bk n0 n1 n2 n3 n4) := by
  obtain ⟨r0, r1, r2, r3, r4, rs, v0, v1, v2, v3, v4, v5⟩ := id hRB
  have hn0 := r0.1
  have hn2 := r2.1
  have hA := i_A_lt hRB
  obtain ⟨f1, f2⟩ := q_W_facts hRB ha
  have f3 := q_R_le hRB
  obtain ⟨wo1, a1, a2, a3⟩ := p3_zero (n := 4) (i := 0) wo (by decide) (by decide)
  unfold f_X0_weigh
  rw [show f_X3_zero 4 wo 0 = _ from a1, Option.bind_some]
  by_cases h0 : n0 = 0
  · obtain ⟨un1, b1, b2, b3⟩ := p3_copy (n := 4) (i := 0) (n' := 4) (j := 0) un (by decide) (by decide) (by decide) (by decide) hto
    rw [if_pos (by rw [r0.2.1, h0]; rfl), show f_X3_copy 4 un 0 4 to 0 = _ from b1, Option.bind_some]
    refine ⟨_, _, _, _, _, _, rfl, ?_, ?_⟩
    · unfold q_wv; rw [if_pos h0]; exact a3
    · unfold q_un; rw [if_pos h0]; exact b3
  · have e10 : Int32.toInt64 (10 * z0) = lN (10 * n0) := by rw [r0.2.1, show (10 : Int32) = nI 10 from rfl, pk_mul, nI_l (by omega)]
    have bA : q_A bk n0 n1 n2 n3 n4 * (10 * n0) ≤ q_A bk n0 n1 n2 n3 n4 * 50 := Nat.mul_le_mul_left _ (by omega)
    have bR : q_R bk n0 n1 n2 n3 n4 * (10 * n0) ≤ q_R bk n0 n1 n2 n3 n4 * 50 := Nat.mul_le_mul_left _ (by omega)
    obtain ⟨un1, b1, b2, b3⟩ := p3_multiply (n := 4) (i := 0) (n' := 4) (j := 0) (mm := 10 * n0) (x := un) (by decide) (by decide) (by decide) (by decide) hto (by omega) (i_P4_lt (by omega))
    rw [if_neg (show ¬ z0 = 0 by rw [r0.2.1]; exact nI_ne0 (by omega) (by omega)), e10, show f_X3_multiply 4 un 0 4 to 0 (lN (10 * n0)) = _ from b1, Option.bind_some]
    have loop : ∀ (r h m : Nat) (wo wr gu mo : Nat → Int64), h + r = n2 → r < m → p3_U wo 0 (p6_sm h (fun h => p6_sm (n0 + 1) (fun k => w_M (fun x y => q_J bk n0 n1 n2 n3 n4 aq x h y) (k_ta bk) n0 (p6_who n0 k)))) (h * 6442450938) → ∃ wo' wr' gu' mo' an', f_X0_weigh_L63w c0 z0 z2 5184 sh pa an pe he (nI aq) un1 m wo wr gu mo (nI h) = some (wo', un1, wr', gu', mo', an') ∧ p3_N wo' 0 (q_wW bk n0 n1 n2 n3 n4 aq - q_R bk n0 n1 n2 n3 n4 * (10 * n0)) := by
      intro r
      induction r with
      | zero =>
        intro h m wo wr gu mo h1 h2 h3
        obtain ⟨m, rfl⟩ : ∃ j, m = j + 1 := ⟨m - 1, by omega⟩
        obtain rfl : h = n2 := by omega
        obtain ⟨wo2, c1, c2, c3⟩ := p3_carry (n := 4) (i := 0) (V := q_wW bk n0 n1 h n3 n4 aq) (by decide) (by decide) h3 (by omega) (i_P4_lt (by omega))
        obtain ⟨an1, d1, d2⟩ := i_start an
        obtain ⟨an2, e1, e2⟩ := i_addLik (S := q_S bk n0 n1 h n3 n4) an1 hn0 hn2 hSh d2
        obtain ⟨an3, g1, g2, g3⟩ := p3_carry (n := 4) (i := 0) (V := q_R bk n0 n1 h n3 n4) (by decide) (by decide) e2 (by omega) (i_P4_lt (by omega))
        obtain ⟨gu2, k1, k2, k3⟩ := p3_multiply (n := 4) (i := 0) (n' := 4) (j := 0) (mm := 10 * n0) (x := gu) (by decide) (by decide) (by decide) (by decide) g3 (by omega) (i_P4_lt (by omega))
        obtain ⟨wo3, j1, j2, j3⟩ := p3_subtract (n := 4) (i := 0) (n' := 4) (j := 0) (by decide) (by decide) (by decide) (by decide) c3 k3 f1
        refine ⟨wo3, wr, gu2, mo, an3, ?_, j3⟩
        show f_X0_weigh_L63 c0 z0 z2 5184 sh pa an pe he (nI aq) un1 (f_X0_weigh_L63w c0 z0 z2 5184 sh pa an pe he (nI aq) un1 m) wo wr gu mo (nI h) = _
        unfold f_X0_weigh_L63
        rw [if_pos (by rw [r2.2.1]; exact nI_le (by omega) (by omega)), show f_X3_carry 4 wo 0 = _ from c1, Option.bind_some, d1, Option.bind_some, hpe, hhe, e1, Option.bind_some, show f_X3_carry 4 an2 0 = _ from g1, Option.bind_some, e10, show f_X3_multiply 4 gu 0 4 an3 0 (lN (10 * n0)) = _ from k1, Option.bind_some, show f_X3_subtract 4 wo2 0 4 gu2 0 = _ from j1, Option.bind_some]
      | succ r ih =>
        intro h m wo wr gu mo h1 h2 h3
        obtain ⟨m, rfl⟩ : ∃ j, m = j + 1 := ⟨m - 1, by omega⟩
        obtain ⟨wr1, gu1, c1, c2⟩ := i_planW hRB wr gu (show h < n2 by omega) ha hSh hPa
        obtain ⟨wo2, gu2, mo2, d1, d2⟩ := i_addB hRB (by omega) wo wr1 gu1 mo (show h < n2 by omega) ha hSh hPa c2 h3
        obtain ⟨wo', wr', gu', mo', an', e1, e2⟩ := ih (h + 1) m wo2 wr1 gu2 mo2 (by omega) (by omega) (by rw [p6_sm, Nat.succ_mul]; exact d2)
        refine ⟨wo', wr', gu', mo', an', ?_, e2⟩
        rw [← e1]
        show f_X0_weigh_L63 c0 z0 z2 5184 sh pa an pe he (nI aq) un1 (f_X0_weigh_L63w c0 z0 z2 5184 sh pa an pe he (nI aq) un1 m) wo wr gu mo (nI h) = _
        unfold f_X0_weigh_L63
        rw [if_neg (by rw [r2.2.1]; exact nI_ge (by omega) (by omega)), c1, Option.bind_some, d1, Option.bind_some, nI_1]
    obtain ⟨wo', wr', gu', mo', an', e1, e2⟩ := loop n2 0 cx_N0 wo1 wr gu mo (by omega) (by unfold cx_N0; omega) (by rw [Nat.zero_mul]; exact p3_U0 a3)
    refine ⟨wo', un1, wr', gu', mo', an', e1, ?_, ?_⟩
    · unfold q_wv; rw [if_neg h0]; exact e2
    · unfold q_un; rw [if_neg h0]; exact b3
end CW
