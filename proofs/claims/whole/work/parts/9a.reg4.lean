/-- multiplies: one row of it -/
theorem p4_mulI (r o i : Nat) (w : Nat → Int32) (d W no : Nat) (rc : (Nat → Int32) → Int32 → Option ((Nat → Int32) × (Nat → Int32))) (hr : r < 270) (hr4 : r ≠ 4) (ho : o < 270) (ho4 : o ≠ 4) (hi : i < 16) (hd : d < 1073741824) (hwo : w o = nI no) (hno : i + no ≤ 16) (hW : W < 1073741824 ^ no) : ∀ (u k m : Nat) (a : Nat → Int32) (T : Nat → Nat) (c : Nat), i + k + u = 16 → u < m → a (16 * r + i) = nI d → (∀ t, t < 16 → a (16 * o + t) = nI (p3_dg W t)) → (∀ t, t < u → a (64 + i + k + t) = nI (T t) ∧ T t < 1073741824) → c < 1073741824 → c + p3_vl u T + d * (W / 1073741824 ^ k) < 1073741824 ^ u → ∃ (a' : Nat → Int32) (f : Nat → Nat), f_X9_multiplies_L24w (nI r) (nI o) w (nI i) rc m a (lN c) (nI k) = rc a' (nI (i + 1)) ∧ (∀ j, (j < 64 + i + k ∨ 80 ≤ j) → a' j = a j) ∧ (∀ t, t < u → a' (64 + i + k + t) = nI (f t) ∧ f t < 1073741824) ∧ p3_vl u f = c + p3_vl u T + d * (W / 1073741824 ^ k) := by
  have exitL : ∀ (m k : Nat) (a : Nat → Int32), k < 2 ^ 31 → no ≤ k → f_X9_multiplies_L24w (nI r) (nI o) w (nI i) rc (m + 1) a (lN 0) (nI k) = rc a (nI (i + 1)) := by
    intro m k a hk hnk
    show f_X9_multiplies_L24 (nI r) (nI o) w (nI i) rc (f_X9_multiplies_L24w (nI r) (nI o) w (nI i) rc m) a (lN 0) (nI k) = _
    unfold f_X9_multiplies_L24
    rw [p2_gd (p2_ib ho (by decide)), p2_ix (n := o) (by omega), hwo, if_neg (by rw [nI_ltI hk (by omega)]; omega), if_pos (by decide), nI_1]
  intro u
  induction u with
  | zero =>
    intro k m a T c h1 h2 h3 h4 h5 h6 h7
    obtain ⟨m, rfl⟩ : ∃ j, m = j + 1 := ⟨m - 1, by omega⟩
    have hc : c = 0 := by rw [Nat.pow_zero] at h7; omega
    have hz : d * (W / 1073741824 ^ k) = 0 := by rw [Nat.pow_zero] at h7; omega
    refine ⟨a, fun _ => 0, ?_, fun _ _ => rfl, fun t h => by omega, by rw [hz, hc]; rfl⟩
    rw [hc]
    exact exitL m k a (by omega) (by omega)
  | succ u ih =>
    intro k m a T c h1 h2 h3 h4 h5 h6 h7
    obtain ⟨m, rfl⟩ : ∃ j, m = j + 1 := ⟨m - 1, by omega⟩
    by_cases hex : no ≤ k ∧ c = 0
    · obtain ⟨hnk, hc⟩ := hex
      subst hc
      have hz : W / 1073741824 ^ k = 0 := Nat.div_eq_of_lt (Nat.lt_of_lt_of_le hW (p3_pow_le hnk))
      exact ⟨a, T, exitL m k a (by omega) hnk, fun _ _ => rfl, h5, by rw [hz]; omega⟩
    · obtain ⟨q1, q2⟩ := h5 0 (by omega)
      have q1 : a (64 + i + k) = nI (T 0) := q1
      have dW := p3_dg_lt W k
      have m1 : d * p3_dg W k ≤ 1073741823 * 1073741823 := Nat.mul_le_mul (by omega) (by omega)
      have hWk : W / 1073741824 ^ k = p3_dg W k + 1073741824 * (W / 1073741824 ^ (k + 1)) := by
        rw [Nat.pow_succ, ← Nat.div_div_eq_div_mul]
        show _ = W / 1073741824 ^ k % 1073741824 + 1073741824 * (W / 1073741824 ^ k / 1073741824)
        omega
      have e1 : d * (W / 1073741824 ^ k) = d * p3_dg W k + 1073741824 * (d * (W / 1073741824 ^ (k + 1))) := by rw [hWk, Nat.mul_add, Nat.mul_left_comm]
      have hvl : p3_vl (u + 1) T = T 0 + 1073741824 * p3_vl u (fun t => T (t + 1)) := rfl
      rw [e1, hvl, p3_Ps u] at h7
      obtain ⟨a', f, g1, g2, g3, g4⟩ := ih (k + 1) m (upd a (64 + i + k) (nI ((T 0 + d * p3_dg W k + c) % 1073741824))) (fun t => T (t + 1)) ((T 0 + d * p3_dg W k + c) / 1073741824) (by omega) (by omega) (by rw [p2_un (by omega)]; exact h3) (fun t ht => by rw [p2_un (by omega)]; exact h4 t ht) (fun t ht => by
        rw [p2_un (by omega), show 64 + i + (k + 1) + t = 64 + i + k + (t + 1) by omega]
        exact h5 (t + 1) (by omega)) (by omega) (by
        generalize d * (W / 1073741824 ^ (k + 1)) = z1 at *
        generalize p3_vl u (fun t => T (t + 1)) = z2 at *
        generalize 1073741824 ^ u = z3 at *
        omega)
      refine ⟨a', p3_cons ((T 0 + d * p3_dg W k + c) % 1073741824) f, ?_, fun j hj => by rw [g2 j (by omega), p2_un (by omega)], fun t ht => ?_, ?_⟩
      · rw [← g1]
        have J83 : f_X9_multiplies_J83 (nI i) a (lN c) (nI k) (f_X9_multiplies_L24w (nI r) (nI o) w (nI i) rc m) (lN (d * p3_dg W k)) = f_X9_multiplies_L24w (nI r) (nI o) w (nI i) rc m (upd a (64 + i + k) (nI ((T 0 + d * p3_dg W k + c) % 1073741824))) (lN ((T 0 + d * p3_dg W k + c) / 1073741824)) (nI (k + 1)) := by
          unfold f_X9_multiplies_J83
          rw [show (64 : Int32) = nI 64 from rfl, nI_add, nI_add, p2_gd (p2_ib (by omega) (by decide)), p2_ix (n := 64 + i + k) (by omega), q1, nI_l (by omega), lN_add, lN_add, nI_1]
          simp only [cx_let]
          rw [p2_gd (p2_ib (by omega) (by decide)), p3_land (by omega), lN_i, p3_lshr (by omega)]
        have J42 : f_X9_multiplies_J42 (nI r) (nI o) w (nI i) a (lN c) (nI k) (f_X9_multiplies_L24w (nI r) (nI o) w (nI i) rc m) = f_X9_multiplies_L24w (nI r) (nI o) w (nI i) rc m (upd a (64 + i + k) (nI ((T 0 + d * p3_dg W k + c) % 1073741824))) (lN ((T 0 + d * p3_dg W k + c) / 1073741824)) (nI (k + 1)) := by
          unfold f_X9_multiplies_J42
          rw [p2_gd (p2_ib ho (by decide)), p2_ix (n := o) (by omega), hwo]
          by_cases hk : no ≤ k
          · rw [if_pos (nI_le hk (by omega))]
            have hz : p3_dg W k = 0 := p3_dg_big2 hW hk
            rw [hz, Nat.mul_zero] at J83 ⊢
            exact J83
          · rw [if_neg (nI_ge (by omega) (by omega)), show (16 : Int32) = nI 16 from rfl, pk_mul, pk_mul, nI_add, nI_add, p2_gd (p2_ib (by omega) (by decide)), p2_gd (p2_ib (by omega) (by decide)), p2_ix (n := 16 * r + i) (by omega), p2_ix (n := 16 * o + k) (by omega), h3, h4 k (by omega), nI_l (by omega), nI_l (by omega), lN_mul]
            exact J83
        show f_X9_multiplies_L24 (nI r) (nI o) w (nI i) rc (f_X9_multiplies_L24w (nI r) (nI o) w (nI i) rc m) a (lN c) (nI k) = _
        unfold f_X9_multiplies_L24
        rw [p2_gd (p2_ib ho (by decide)), p2_ix (n := o) (by omega), hwo, J42]
        by_cases hk : k < no
        · rw [if_pos (by rw [nI_ltI (by omega) (by omega)]; exact hk)]
        · rw [if_neg (by rw [nI_ltI (by omega) (by omega)]; exact hk), if_neg]
          intro q
          have z1 := p2_le.mp q
          have z2 := p2_lt.mp ((p3_ne (a := c) (b := 0) (by omega) (by decide)).2.2.mpr (by omega))
          have z3 : lg_cmp (lN c) (lN 0) = lg_cmp (lN c) 0 := rfl
          rw [z3] at z2
          omega
      · cases t with
        | zero => exact ⟨by rw [show 64 + i + k + 0 = 64 + i + k from rfl, g2 _ (by omega), p2_us]; rfl, Nat.mod_lt _ (by decide)⟩
        | succ t => rw [show 64 + i + k + (t + 1) = 64 + i + (k + 1) + t by omega]; exact g3 t (by omega)
      · show (T 0 + d * p3_dg W k + c) % 1073741824 + 1073741824 * p3_vl u f = c + (T 0 + 1073741824 * p3_vl u (fun t => T (t + 1))) + d * (W / 1073741824 ^ k)
        rw [e1, g4]
        generalize d * (W / 1073741824 ^ (k + 1)) = z1 at *
        omega
theorem p3_dg_add (v i t : Nat) : p3_dg v (i + t) = p3_dg (v / 1073741824 ^ i) t := by
  show v / 1073741824 ^ (i + t) % 1073741824 = v / 1073741824 ^ i / 1073741824 ^ t % 1073741824
  rw [Nat.pow_add, Nat.div_div_eq_div_mul]
theorem p4_mulO (r o : Nat) (w : Nat → Int32) (U W n no : Nat) (hr : r < 270) (hr4 : r ≠ 4) (ho : o < 270) (ho4 : o ≠ 4) (hw : w r = nI n) (hwo : w o = nI no) (hn : n + no ≤ 16) (hU : U < 1073741824 ^ n) (hW : W < 1073741824 ^ no) (hUW : U * W < 1073741824 ^ 16) : ∀ (u i m : Nat) (a : Nat → Int32), i + u = n → u < m → (∀ t, t < 16 → a (16 * r + t) = nI (p3_dg U t)) → (∀ t, t < 16 → a (16 * o + t) = nI (p3_dg W t)) → (∀ t, t < 16 → a (64 + t) = nI (p3_dg (U % 1073741824 ^ i * W) t)) → ∃ (a' : Nat → Int32), f_X9_multiplies_L8w (nI r) (nI o) w m a (nI i) = f_X9_multiplies_L8w (nI r) (nI o) w (m - u) a' (nI n) ∧ (∀ j, (j < 64 ∨ 80 ≤ j) → a' j = a j) ∧ (∀ t, t < 16 → a' (64 + t) = nI (p3_dg (U * W) t)) := by
  intro u
  induction u with
  | zero =>
    intro i m a h1 h2 h3 h4 h5
    have e : i = n := by omega
    subst e
    rw [Nat.mod_eq_of_lt hU] at h5
    exact ⟨a, rfl, fun _ _ => rfl, h5⟩
  | succ u ih =>
    intro i m a h1 h2 h3 h4 h5
    obtain ⟨m, rfl⟩ : ∃ j, m = j + 1 := ⟨m - 1, by omega⟩
    have dU := p3_dg_lt U i
    -- the row's value
    have hmod : U % 1073741824 ^ (i + 1) = U % 1073741824 ^ i + p3_dg U i * 1073741824 ^ i := by
      rw [p3_Ps, Nat.mul_comm 1073741824, Nat.mod_mul, Nat.mul_comm (1073741824 ^ i)]
      rfl
    have hT : U % 1073741824 ^ (i + 1) * W = U % 1073741824 ^ i * W + p3_dg U i * W * 1073741824 ^ i := by rw [hmod, Nat.add_mul, Nat.mul_right_comm]
    have hle : U % 1073741824 ^ (i + 1) * W ≤ U * W := Nat.mul_le_mul_right W (Nat.mod_le ..)
    have hdiv : U % 1073741824 ^ (i + 1) * W / 1073741824 ^ i = U % 1073741824 ^ i * W / 1073741824 ^ i + p3_dg U i * W := by rw [hT, Nat.add_mul_div_right _ _ (p3_Ppos i)]
    have hPi : 1073741824 ^ 16 = 1073741824 ^ (16 - i) * 1073741824 ^ i := by rw [← Nat.pow_add]; congr 1; omega
    have hb : U % 1073741824 ^ (i + 1) * W / 1073741824 ^ i < 1073741824 ^ (16 - i) := by
      rw [Nat.div_lt_iff_lt_mul (p3_Ppos i), ← hPi]
      omega
    have hb0 : U % 1073741824 ^ i * W / 1073741824 ^ i < 1073741824 ^ (16 - i) := by omega
    obtain ⟨a1, f, g1, g2, g3, g4⟩ := p4_mulI r o i w (p3_dg U i) W no (f_X9_multiplies_L8w (nI r) (nI o) w m) hr hr4 ho ho4 (by omega) dU hwo (by omega) hW (16 - i) 0 cx_N0 a (p3_dg (U % 1073741824 ^ i * W / 1073741824 ^ i)) 0 (by omega) (by unfold cx_N0; omega) (h3 i (by omega)) h4 (fun t ht => ⟨by rw [show 64 + i + 0 + t = 64 + (i + t) by omega, h5 (i + t) (by omega), p3_dg_add], p3_dg_lt _ t⟩) (by decide) (by rw [p3_vl_dg2 hb0, Nat.pow_zero, Nat.div_one]; omega)
    rw [p3_vl_dg2 hb0, Nat.pow_zero, Nat.div_one, Nat.zero_add, ← hdiv] at g4
    have hf := p3_dg_of (16 - i) f 0 _ (fun t ht => (g3 t ht).2) (show p3_vl (16 - i) f + 0 * 1073741824 ^ (16 - i) = U % 1073741824 ^ (i + 1) * W / 1073741824 ^ i by rw [g4]; omega)
    obtain ⟨a', e1, e2, e3⟩ := ih (i + 1) m a1 (by omega) (by omega) (fun t ht => by rw [g2 _ (by omega)]; exact h3 t ht) (fun t ht => by rw [g2 _ (by omega)]; exact h4 t ht) (fun t ht => by
      by_cases hti : t < i
      · rw [g2 _ (by omega), h5 t ht, hT]
        congr 1
        show _ / 1073741824 ^ t % 1073741824 = _ / 1073741824 ^ t % 1073741824
        obtain ⟨s, rfl⟩ : ∃ s, i = t + (s + 1) := ⟨i - t - 1, by omega⟩
        have e : p3_dg U (t + (s + 1)) * W * 1073741824 ^ (t + (s + 1)) = (1073741824 * (p3_dg U (t + (s + 1)) * W * 1073741824 ^ s)) * 1073741824 ^ t := by
          rw [Nat.pow_add, Nat.pow_succ, Nat.mul_comm (1073741824 ^ t), ← Nat.mul_assoc, ← Nat.mul_assoc, Nat.mul_comm 1073741824]
        rw [e, Nat.add_mul_div_right _ _ (p3_Ppos t), Nat.add_mul_mod_self_left]
      · obtain ⟨s, rfl⟩ : ∃ s, t = i + s := ⟨t - i, by omega⟩
        rw [p3_dg_add, hf s (by omega), show 64 + (i + s) = 64 + i + 0 + s by omega]
        exact (g3 s (by omega)).1)
    refine ⟨a', ?_, fun j hj => by rw [e2 j hj, g2 j (by omega)], e3⟩
    rw [show m + 1 - (u + 1) = m - u by omega, ← e1]
    show f_X9_multiplies_L8 (nI r) (nI o) w (f_X9_multiplies_L8w (nI r) (nI o) w m) a (nI i) = _
    unfold f_X9_multiplies_L8
    rw [p2_gd (p2_ib hr (by decide)), p2_ix (n := r) (by omega), hw, if_neg (nI_ge (by omega) (by omega))]
    exact g1
/-- two registers change: r and THREE -/
def p4_F2 (l l' w w' : Nat → Int32) (r : Nat) : Prop := (∀ j, (j < 16 * r ∨ 16 * r + 16 ≤ j) → (j < 64 ∨ 80 ≤ j) → l' j = l j) ∧ ∀ s, s ≠ r → s ≠ 4 → w' s = w s
theorem p4_F2.R {l l' w w' : Nat → Int32} {r s v : Nat} (h : p4_F2 l l' w w' r) (hs : s ≠ r) (h4 : s ≠ 4) (hR : p4_R l w s v) : p4_R l' w' s v := by
  obtain ⟨h1, n, h2, h3, h5⟩ := hR
  exact ⟨fun k hk => by rw [h.1 _ (by omega) (by omega)]; exact h1 k hk, n, h2, by rw [h.2 s hs h4]; exact h3, h5⟩
theorem p4_S.set2 {l l' w w' : Nat → Int32} {V : Nat → Nat} {r v : Nat} (h : p4_S l w V) (hF : p4_F2 l l' w w' r) (hR : p4_R l' w' r v) : p4_S l' w' (p4_u V r v) := by
  intro s hs h4
  by_cases e : s = r
  · subst e
    rw [p4_us]
    exact hR
  · rw [p4_un e]
    exact hF.R e h4 (h s hs h4)
theorem p4_multiplies {l w : Nat → Int32} {r o U W : Nat} (hr : r < 270) (hr4 : r ≠ 4) (ho : o < 270) (ho4 : o ≠ 4) (h : p4_R l w r U) (h' : p4_R l w o W) (hUW : U * W < 1073741824 ^ 15) : ∃ l' w', f_X9_multiplies l w (nI r) (nI o) = some (l', w') ∧ p4_F2 l l' w w' r ∧ p4_R l' w' r (U * W) := by
  obtain ⟨l1, w1, s1, s2, s3⟩ := p4_sets (l := l) (w := w) (r := 4) (v := 0) (by decide) (by decide)
  have k := s2.R hr4 h
  have k' := s2.R ho4 h'
  obtain ⟨h1, n, h2, h3, h4, h5⟩ := id k
  obtain ⟨h1', n', h2', h3', h4', h5'⟩ := id k'
  have h16 : U * W < 1073741824 ^ 16 := Nat.lt_of_lt_of_le hUW (p3_pow_le (by decide))
  have hnn : n + n' ≤ 16 := by
    apply Nat.le_of_not_lt
    intro hlt
    have a1 := h5 (by omega)
    have a2 := h5' (by omega)
    have a3 : 1073741824 ^ (n - 1) * 1073741824 ^ (n' - 1) ≤ U * W := Nat.mul_le_mul a1 a2
    rw [← Nat.pow_add] at a3
    have a4 : 1073741824 ^ 15 ≤ 1073741824 ^ (n - 1 + (n' - 1)) := p3_pow_le (by omega)
    omega
  obtain ⟨a', g1, g2, g3⟩ := p4_mulO r o w1 U W n n' hr hr4 ho ho4 h3 h3' hnn h4 h4' h16 n 0 cx_N0 l1 (by omega) (by unfold cx_N0; omega) h1 h1' (fun t ht => by rw [Nat.pow_zero, Nat.mod_one, Nat.zero_mul]; exact s3.1 t ht)
  obtain ⟨fu, hfu⟩ : ∃ fu, cx_N0 - n = fu + 1 := ⟨cx_N0 - n - 1, by unfold cx_N0; omega⟩
  have hlt : U * W < 1073741824 ^ (n + n') := by
    rw [Nat.pow_add]
    by_cases hW0 : W = 0
    · rw [hW0, Nat.mul_zero]
      exact Nat.mul_pos (p3_Ppos n) (p3_Ppos n')
    · exact Nat.mul_lt_mul_of_lt_of_le h4 (Nat.le_of_lt h4') (p3_Ppos n')
  obtain ⟨w2, t1, t2, t3⟩ := p4_trims (l := a') (w := upd w1 4 (nI (n + n'))) (r := 4) (v := U * W) (n := n + n') (by decide) (fun k hk => g3 k hk) hnn hlt p2_us
  obtain ⟨l3, w3, b1, b2, b3⟩ := p4_takes (l := a') (w := w2) (r := r) (o := 4) hr (by decide) hr4 t3
  refine ⟨l3, w3, ?_, ⟨fun j hj hj' => ?_, fun s hs hs' => ?_⟩, b3⟩
  · unfold f_X9_multiplies
    rw [show f_X9_sets l w 4 0 = _ from s1, Option.bind_some]
    refine g1.trans ?_
    rw [hfu]
    show f_X9_multiplies_L8 (nI r) (nI o) w1 (f_X9_multiplies_L8w (nI r) (nI o) w1 fu) a' (nI n) = _
    unfold f_X9_multiplies_L8
    rw [p2_gd (p2_ib hr (by decide)), p2_ix (n := r) (by omega), h3, if_pos (nI_le (by omega) (by omega)), p2_gd (p2_ib hr (by decide)), p2_gd (p2_ib ho (by decide)), p2_gd (by decide), p2_ix (n := o) (by omega), h3', nI_add]
    simp only [cx_let]
    rw [show f_X9_trims a' (upd w1 (cx_ix 4) (nI (n + n'))) 4 = _ from t1, Option.bind_some, show f_X9_takes a' w2 (nI r) 4 = _ from b1, Option.bind_some]
  · rw [b2.1 j hj, g2 j hj', s2.1 j (by omega)]
  · rw [b2.2 s hs, t2 s hs', p2_un hs', s2.2 s hs']
theorem p4_timesLong {l w : Nat → Int32} {V : Nat → Nat} {r v : Nat} (hr : r < 270) (hr4 : r ≠ 4) (hr8 : r ≠ 8) (h : p4_S l w V) (hv : v < 2 ^ 63) (hUW : V r * v < 1073741824 ^ 15) : ∃ l' w', f_X9_timesLong l w (nI r) (lN v) = some (l', w') ∧ p4_S l' w' (p4_u (p4_u V 8 v) r (V r * v)) := by
  obtain ⟨l1, w1, s1, s2, s3⟩ := p4_sets (l := l) (w := w) (r := 8) (v := v) (by decide) hv
  obtain ⟨l2, w2, e1, e2, e3⟩ := p4_multiplies hr hr4 (by decide) (by decide) (s2.R hr8 (h r hr hr4)) s3 hUW
  refine ⟨l2, w2, ?_, (h.set s2 s3).set2 e2 e3⟩
  unfold f_X9_timesLong
  rw [show f_X9_sets l w 8 (lN v) = _ from s1, Option.bind_some, show f_X9_multiplies l1 w1 (nI r) 8 = _ from e1, Option.bind_some]
