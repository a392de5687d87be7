/-- times -/
theorem p4_timesL (w : Nat → Int32) (r b n : Nat) (hr : r < 270) (hn : n ≤ 16) (hw : w r = nI n) (hb : b < 1073741824) : ∀ (u k m : Nat) (a : Nat → Int32) (d : Nat → Nat) (c : Nat), k + u = n → u < m → (∀ t, t < u → a (16 * r + k + t) = nI (d t) ∧ d t < 1073741824) → c ≤ b → ∃ (a' : Nat → Int32) (o : Nat → Nat) (c' : Nat), f_X9_times_L5w w (nI r) (nI b) m a (lN c) (nI k) = f_X9_times_L5w w (nI r) (nI b) (m - u) a' (lN c') (nI n) ∧ (∀ j, (j < 16 * r + k ∨ 16 * r + n ≤ j) → a' j = a j) ∧ (∀ t, t < u → a' (16 * r + k + t) = nI (o t) ∧ o t < 1073741824) ∧ c' ≤ b ∧ c + p3_vl u d * b = p3_vl u o + c' * 1073741824 ^ u := by
  intro u
  induction u with
  | zero =>
    intro k m a d c h1 h2 h3 h4
    exact ⟨a, fun _ => 0, c, by rw [show k = n by omega]; rfl, fun _ _ => rfl, fun t h => by omega, h4, by simp [p3_vl]⟩
  | succ u ih =>
    intro k m a d c h1 h2 h3 h4
    obtain ⟨m, rfl⟩ : ∃ j, m = j + 1 := ⟨m - 1, by omega⟩
    obtain ⟨q1, q2⟩ := h3 0 (by omega)
    have q1 : a (16 * r + k) = nI (d 0) := q1
    have m1 : d 0 * b ≤ 1073741823 * b := Nat.mul_le_mul_right b (by omega)
    obtain ⟨a', o, c', g1, g2, g3, g4, g5⟩ := ih (k + 1) m (upd a (16 * r + k) (nI ((d 0 * b + c) % 1073741824))) (fun t => d (t + 1)) ((d 0 * b + c) / 1073741824) (by omega) (by omega) (fun t ht => by
      rw [p2_un (by omega), show 16 * r + (k + 1) + t = 16 * r + k + (t + 1) by omega]
      exact h3 (t + 1) (by omega)) (by omega)
    refine ⟨a', p3_cons ((d 0 * b + c) % 1073741824) o, c', ?_, fun j hj => by rw [g2 j (by omega), p2_un (by omega)], fun t ht => ?_, g4, ?_⟩
    · rw [show m + 1 - (u + 1) = m - u by omega, ← g1]
      show f_X9_times_L5 w (nI r) (nI b) (f_X9_times_L5w w (nI r) (nI b) m) a (lN c) (nI k) = _
      unfold f_X9_times_L5
      rw [p2_gd (p2_ib hr (by decide)), p2_ix (n := r) (by omega), hw, if_neg (nI_ge (by omega) (by omega)), show (16 : Int32) = nI 16 from rfl, pk_mul, nI_add, p2_gd (p2_ib (by omega) (by decide)), p2_ix (n := 16 * r + k) (by omega), q1, nI_l (by omega), nI_l (by omega), lN_mul, lN_add, nI_1]
      simp only [cx_let]
      rw [p2_gd (p2_ib (by omega) (by decide)), p3_land (by omega), lN_i, p3_lshr (by omega)]
    · cases t with
      | zero => exact ⟨by rw [show 16 * r + k + 0 = 16 * r + k from rfl, g2 _ (by omega), p2_us]; rfl, Nat.mod_lt _ (by decide)⟩
      | succ t => rw [show 16 * r + k + (t + 1) = 16 * r + (k + 1) + t by omega]; exact g3 t (by omega)
    · rw [p3_vl, p3_Ps]
      show c + (d 0 + 1073741824 * p3_vl u (fun k => d (k + 1))) * b = (d 0 * b + c) % 1073741824 + 1073741824 * p3_vl u o + c' * (1073741824 * 1073741824 ^ u)
      rw [Nat.mul_left_comm, Nat.add_mul, Nat.mul_assoc]
      generalize p3_vl u (fun t => d (t + 1)) * b = z1 at *
      generalize c' * 1073741824 ^ u = z2 at *
      omega
theorem p4_times {l w : Nat → Int32} {r b v : Nat} (hr : r < 270) (hb : b < 1073741824) (h : p4_R l w r v) (hv : v * b < 1073741824 ^ 16) : ∃ l' w', f_X9_times l w (nI r) (nI b) = some (l', w') ∧ p4_F l l' w w' r ∧ p4_R l' w' r (v * b) := by
  obtain ⟨h1, n, h2, h3, h4, h5⟩ := h
  obtain ⟨a', o, c', g1, g2, g3, g4, g5⟩ := p4_timesL w r b n hr h2 h3 hb n 0 cx_N0 l (p3_dg v) 0 (by omega) (by unfold cx_N0; omega) (fun t ht => ⟨h1 t (by omega), p3_dg_lt v t⟩) (by omega)
  rw [p3_vl_dg2 h4] at g5
  obtain ⟨k1, k2, k3, k4⟩ := p4_pad (V := v * b) (fun t ht => (g3 t ht).2) (by omega) (show p3_vl n o + c' * 1073741824 ^ n = v * b by omega)
  obtain ⟨fu, hfu⟩ : ∃ fu, cx_N0 - n = fu + 1 := ⟨cx_N0 - n - 1, by unfold cx_N0; omega⟩
  have ex : f_X9_times l w (nI r) (nI b) = f_X9_times_L5 w (nI r) (nI b) (f_X9_times_L5w w (nI r) (nI b) fu) a' (lN c') (nI n) := by
    unfold f_X9_times
    refine g1.trans ?_
    rw [hfu]
    rfl
  by_cases hc : c' = 0
  · obtain ⟨w', t1, t2, t3⟩ := p4_trims (l := a') (w := w) (v := v * b) (n := n) hr (fun k hk => by
      by_cases hkn : k < n
      · rw [k1 k hkn]
        exact (g3 k hkn).1
      · rw [g2 _ (by omega), h1 k hk, p3_dg_big2 h4 (by omega), p3_dg_big2 (k4 hc) (by omega)]) h2 (k4 hc) h3
    refine ⟨a', w', ?_, ⟨fun j hj => g2 j (by omega), t2⟩, t3⟩
    rw [ex]
    unfold f_X9_times_L5 f_X9_times_J101
    have hz : lg_cmp (lN c') 0 ≤ 0 := by rw [hc]; decide
    rw [p2_gd (p2_ib hr (by decide)), p2_ix (n := r) (by omega), h3, if_pos (nI_le (by omega) (by omega)), if_pos hz, t1, Option.bind_some]
  · have hn15 : n < 16 := by
      apply Nat.lt_of_not_le
      intro h16
      have e1 : 1073741824 ^ 16 ≤ 1073741824 ^ n := p3_pow_le h16
      have e2 : 1 * 1073741824 ^ n ≤ c' * 1073741824 ^ n := Nat.mul_le_mul_right _ (by omega)
      omega
    obtain ⟨w', t1, t2, t3⟩ := p4_trims (l := upd a' (16 * r + n) (nI c')) (w := upd w r (nI (n + 1))) (v := v * b) (n := n + 1) hr (fun k hk => by
      by_cases hkn : k = n
      · subst hkn
        rw [p2_us, k2]
      · rw [p2_un (by omega)]
        by_cases hkn : k < n
        · rw [k1 k hkn]
          exact (g3 k hkn).1
        · rw [g2 _ (by omega), h1 k hk, p3_dg_big2 h4 (by omega), p3_dg_big2 k3 (by omega)]) (by omega) k3 p2_us
    refine ⟨upd a' (16 * r + n) (nI c'), w', ?_, ⟨fun j hj => by rw [p2_un (by omega)]; exact g2 j (by omega), fun s hs => by rw [t2 s hs, p2_un hs]⟩, t3⟩
    rw [ex]
    unfold f_X9_times_L5 f_X9_times_J101
    have hz : ¬ lg_cmp (lN c') 0 ≤ 0 := by
      intro q
      have z1 := p2_le.mp q
      have z2 := p2_lt.mp ((p3_ne (a := c') (b := 0) (by omega) (by decide)).2.2.mpr (by omega))
      have z3 : lg_cmp (lN c') (lN 0) = lg_cmp (lN c') 0 := rfl
      rw [z3] at z2
      omega
    rw [p2_gd (p2_ib hr (by decide)), p2_ix (n := r) (by omega), h3, if_pos (nI_le (by omega) (by omega)), if_neg hz, p2_gd (p2_ib hr (by decide)), show (16 : Int32) = nI 16 from rfl, pk_mul, nI_add, p2_gd (p2_ib (by omega) (by decide)), p2_ix (n := 16 * r + n) (by omega), lN_i, nI_1]
    simp only [cx_let]
    rw [p2_gd (p2_ib hr (by decide)), p2_gd (p2_ib hr (by decide)), t1, Option.bind_some]
/-- adds -/
theorem p4_and30 {n : Nat} (h : n < 2 ^ 32) : nI n &&& 1073741823 = nI (n % 1073741824) := pk_andN h 30 (by decide)
theorem p4_addsL (w : Nat → Int32) (r o n : Nat) (hr : r < 270) (ho : o < 270) (hro : r ≠ o) (hn : n ≤ 15) : ∀ (u k m : Nat) (a : Nat → Int32) (d e : Nat → Nat) (c : Nat), k + u = n → u < m → (∀ t, t < u → a (16 * r + k + t) = nI (d t) ∧ d t < 1073741824) → (∀ t, t < u → a (16 * o + k + t) = nI (e t) ∧ e t < 1073741824) → c ≤ 1 → ∃ (a' : Nat → Int32) (f : Nat → Nat) (c' : Nat), f_X9_adds_L37w w (nI r) (nI o) (nI n) m a (nI c) (nI k) = f_X9_adds_L37w w (nI r) (nI o) (nI n) (m - u) a' (nI c') (nI n) ∧ (∀ j, (j < 16 * r + k ∨ 16 * r + n ≤ j) → a' j = a j) ∧ (∀ t, t < u → a' (16 * r + k + t) = nI (f t) ∧ f t < 1073741824) ∧ c' ≤ 1 ∧ c + p3_vl u d + p3_vl u e = p3_vl u f + c' * 1073741824 ^ u := by
  intro u
  induction u with
  | zero =>
    intro k m a d e c h1 h2 h3 h3' h4
    exact ⟨a, fun _ => 0, c, by rw [show k = n by omega]; rfl, fun _ _ => rfl, fun t h => by omega, h4, by simp [p3_vl]⟩
  | succ u ih =>
    intro k m a d e c h1 h2 h3 h3' h4
    obtain ⟨m, rfl⟩ : ∃ j, m = j + 1 := ⟨m - 1, by omega⟩
    obtain ⟨q1, q2⟩ := h3 0 (by omega)
    have q1 : a (16 * r + k) = nI (d 0) := q1
    obtain ⟨q3, q4⟩ := h3' 0 (by omega)
    have q3 : a (16 * o + k) = nI (e 0) := q3
    obtain ⟨a', f, c', g1, g2, g3, g4, g5⟩ := ih (k + 1) m (upd a (16 * r + k) (nI ((d 0 + e 0 + c) % 1073741824))) (fun t => d (t + 1)) (fun t => e (t + 1)) ((d 0 + e 0 + c) / 1073741824) (by omega) (by omega) (fun t ht => by
      rw [p2_un (by omega), show 16 * r + (k + 1) + t = 16 * r + k + (t + 1) by omega]
      exact h3 (t + 1) (by omega)) (fun t ht => by
      rw [p2_un (by omega), show 16 * o + (k + 1) + t = 16 * o + k + (t + 1) by omega]
      exact h3' (t + 1) (by omega)) (by omega)
    refine ⟨a', p3_cons ((d 0 + e 0 + c) % 1073741824) f, c', ?_, fun j hj => by rw [g2 j (by omega), p2_un (by omega)], fun t ht => ?_, g4, ?_⟩
    · rw [show m + 1 - (u + 1) = m - u by omega, ← g1]
      show f_X9_adds_L37 w (nI r) (nI o) (nI n) (f_X9_adds_L37w w (nI r) (nI o) (nI n) m) a (nI c) (nI k) = _
      unfold f_X9_adds_L37
      rw [if_neg (nI_ge (by omega) (by omega)), show (16 : Int32) = nI 16 from rfl, pk_mul, pk_mul, nI_add, nI_add, p2_gd (p2_ib (by omega) (by decide)), p2_gd (p2_ib (by omega) (by decide)), p2_ix (n := 16 * r + k) (by omega), p2_ix (n := 16 * o + k) (by omega), q1, q3, nI_add, nI_add, nI_1]
      simp only [cx_let]
      rw [p2_gd (p2_ib (by omega) (by decide)), p4_and30 (by omega), pk_ushrN (by omega) 30 30 (by decide)]
    · cases t with
      | zero => exact ⟨by rw [show 16 * r + k + 0 = 16 * r + k from rfl, g2 _ (by omega), p2_us]; rfl, Nat.mod_lt _ (by decide)⟩
      | succ t => rw [show 16 * r + k + (t + 1) = 16 * r + (k + 1) + t by omega]; exact g3 t (by omega)
    · rw [p3_vl, p3_vl, p3_Ps]
      show c + (d 0 + 1073741824 * p3_vl u (fun k => d (k + 1))) + (e 0 + 1073741824 * p3_vl u (fun k => e (k + 1))) = (d 0 + e 0 + c) % 1073741824 + 1073741824 * p3_vl u f + c' * (1073741824 * 1073741824 ^ u)
      rw [Nat.mul_left_comm]
      generalize c' * 1073741824 ^ u = z2 at *
      omega
theorem p4_width {l w : Nat → Int32} {r v n N : Nat} (h : p4_R l w r v) (hw : w r = nI n) (hn : n ≤ 16) (hv : v < 1073741824 ^ N) : n ≤ N := by
  obtain ⟨_, n', h2, h3, _, h5⟩ := h
  have e : n = n' := (nI_eq (by omega) (by omega)).mp (hw.symm.trans h3)
  subst e
  apply Nat.le_of_not_lt
  intro hlt
  have := h5 (by omega)
  have h6 : 1073741824 ^ N ≤ 1073741824 ^ (n - 1) := p3_pow_le (by omega)
  omega
theorem p4_adds {l w : Nat → Int32} {r o u v : Nat} (hr : r < 270) (ho : o < 270) (hro : r ≠ o) (h : p4_R l w r u) (h' : p4_R l w o v) (hv : u + v < 1073741824 ^ 15) : ∃ l' w', f_X9_adds l w (nI r) (nI o) = some (l', w') ∧ p4_F l l' w w' r ∧ p4_R l' w' r (u + v) := by
  obtain ⟨h1, n, h2, h3, h4, h5⟩ := id h
  obtain ⟨h1', n', h2', h3', h4', h5'⟩ := id h'
  have b1 : n ≤ 15 := p4_width h h3 h2 (by omega)
  have b2 : n' ≤ 15 := p4_width h' h3' h2' (by omega)
  obtain ⟨M, hM, hMn, hMn'⟩ : ∃ M, M ≤ 15 ∧ n ≤ M ∧ n' ≤ M := ⟨max n n', by omega, by omega, by omega⟩
  have key : ∀ M, M ≤ 15 → n ≤ M → n' ≤ M → ∃ l' w', f_X9_adds_J32 l w (nI r) (nI o) 0 (nI M) = some (l', w') ∧ p4_F l l' w w' r ∧ p4_R l' w' r (u + v) := by
    intro M hM hMn hMn'
    have l1 : u < 1073741824 ^ M := Nat.lt_of_lt_of_le h4 (p3_pow_le hMn)
    have l2 : v < 1073741824 ^ M := Nat.lt_of_lt_of_le h4' (p3_pow_le hMn')
    obtain ⟨a', f, c', g1, g2, g3, g4, g5⟩ := p4_addsL w r o M hr ho hro hM M 0 cx_N0 l (p3_dg u) (p3_dg v) 0 (by omega) (by unfold cx_N0; omega) (fun t ht => ⟨h1 t (by omega), p3_dg_lt u t⟩) (fun t ht => ⟨h1' t (by omega), p3_dg_lt v t⟩) (by omega)
    rw [p3_vl_dg2 l1, p3_vl_dg2 l2] at g5
    obtain ⟨k1, k2, k3, k4⟩ := p4_pad (V := u + v) (fun t ht => (g3 t ht).2) (by omega) (show p3_vl M f + c' * 1073741824 ^ M = u + v by omega)
    obtain ⟨fu, hfu⟩ : ∃ fu, cx_N0 - M = fu + 1 := ⟨cx_N0 - M - 1, by unfold cx_N0; omega⟩
    obtain ⟨w', t1, t2, t3⟩ := p4_trims (l := upd a' (16 * r + M) (nI c')) (w := upd w r (nI (M + c'))) (v := u + v) (n := M + c') hr (fun k hk => by
      by_cases hkn : k = M
      · subst hkn
        rw [p2_us, k2]
      · rw [p2_un (by omega)]
        by_cases hkn : k < M
        · rw [k1 k hkn]
          exact (g3 k hkn).1
        · rw [g2 _ (by omega), h1 k hk, p3_dg_big2 l1 (by omega), p3_dg_big2 k3 (by omega)]) (by omega) (by
      rcases (show c' = 0 ∨ c' = 1 by omega) with e | e
      · rw [e]; exact k4 e
      · rw [e]; exact k3) p2_us
    refine ⟨upd a' (16 * r + M) (nI c'), w', ?_, ⟨fun j hj => by rw [p2_un (by omega)]; exact g2 j (by omega), fun s hs => by rw [t2 s hs, p2_un hs]⟩, t3⟩
    unfold f_X9_adds_J32
    refine g1.trans ?_
    rw [hfu]
    show f_X9_adds_L37 w (nI r) (nI o) (nI M) (f_X9_adds_L37w w (nI r) (nI o) (nI M) fu) a' (nI c') (nI M) = _
    unfold f_X9_adds_L37
    rw [if_pos (nI_le (by omega) (by omega)), show (16 : Int32) = nI 16 from rfl, pk_mul, nI_add, p2_gd (p2_ib (by omega) (by decide)), p2_ix (n := 16 * r + M) (by omega), p2_ix (n := r) (by omega), nI_add]
    simp only [cx_let]
    rw [p2_gd (p2_ib hr (by decide)), t1, Option.bind_some]
  unfold f_X9_adds
  rw [p2_gd (p2_ib hr (by decide)), p2_gd (p2_ib ho (by decide)), p2_ix (n := r) (by omega), p2_ix (n := o) (by omega), h3, h3', p2_gd (p2_ib hr (by decide)), p2_gd (p2_ib ho (by decide))]
  by_cases hle : n ≤ n'
  · rw [if_pos (nI_le hle (by omega))]
    exact key n' b2 hle (Nat.le_refl _)
  · rw [if_neg (nI_ge (by omega) (by omega))]
    exact key n b1 (Nat.le_refl _) (by omega)
