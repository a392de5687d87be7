/-- lessens -/
theorem p4_andI (v : Int32) : v &&& 1073741823 = nI (v.toInt % 1073741824).toNat ∧ (v.toInt % 1073741824).toNat < 1073741824 := by
  refine ⟨?_, by omega⟩
  rw [pk_and v 30 (by decide)]
  congr 1
  have h4 : v.toInt = v.toBitVec.toInt := rfl
  rw [h4, BitVec.toInt_eq_toNat_cond]
  have := v.toBitVec.isLt
  split <;> omega
theorem p4_lessL (w : Nat → Int32) (r o n : Nat) (hr : r < 270) (ho : o < 270) (hro : r ≠ o) (hn : n ≤ 16) (hw : w r = nI n) : ∀ (u k m : Nat) (a : Nat → Int32) (d e : Nat → Nat) (c : Nat), k + u = n → u < m → (∀ t, t < u → a (16 * r + k + t) = nI (d t) ∧ d t < 1073741824) → (∀ t, t < u → a (16 * o + k + t) = nI (e t) ∧ e t < 1073741824) → c ≤ 1 → ∃ (a' : Nat → Int32) (f : Nat → Nat) (c' : Nat), f_X9_lessens_L5w w (nI r) (nI o) m a (nI c) (nI k) = f_X9_lessens_L5w w (nI r) (nI o) (m - u) a' (nI c') (nI n) ∧ (∀ j, (j < 16 * r + k ∨ 16 * r + n ≤ j) → a' j = a j) ∧ (∀ t, t < u → a' (16 * r + k + t) = nI (f t) ∧ f t < 1073741824) ∧ c' ≤ 1 ∧ (p3_vl u d : Int) - p3_vl u e - c = p3_vl u f - (c' : Int) * (1073741824 ^ u : Nat) := by
  intro u
  induction u with
  | zero =>
    intro k m a d e c h1 h2 h3 h3' h4
    exact ⟨a, fun _ => 0, c, by rw [show k = n by omega]; rfl, fun _ _ => rfl, fun t h => by omega, h4, by simp [p3_vl]⟩
  | succ u ih =>
    intro k m a d e c h1 h2 h3 h3' h4
    obtain ⟨m, rfl⟩ : ∃ j, m = j + 1 := ⟨m - 1, by omega⟩
    obtain ⟨q1, q2⟩ := h3 0 (by omega)
    have q1 : a (16 * r + k) = nI (d 0) := q1
    obtain ⟨q3, q4⟩ := h3' 0 (by omega)
    have q3 : a (16 * o + k) = nI (e 0) := q3
    have i1 : (nI (d 0)).toInt = (d 0 : Int) := nI_toInt (by omega)
    have i2 : (nI (e 0)).toInt = (e 0 : Int) := nI_toInt (by omega)
    have i3 : (nI c).toInt = (c : Int) := nI_toInt (by omega)
    have e1 : (nI (d 0) - nI (e 0)).toInt = (d 0 : Int) - (e 0 : Int) := by rw [p2_sub (by omega) (by omega), i1, i2]
    have e0 : (nI (d 0) - nI (e 0) - nI c).toInt = (d 0 : Int) - (e 0 : Int) - (c : Int) := by rw [p2_sub (by rw [e1, i3]; omega) (by rw [e1, i3]; omega), e1, i3]
    obtain ⟨w1, w2⟩ := p4_andI (nI (d 0) - nI (e 0) - nI c)
    rw [e0] at w1 w2
    obtain ⟨a', f, c', g1, g2, g3, g4, g5⟩ := ih (k + 1) m (upd a (16 * r + k) (nI (((d 0 : Int) - (e 0 : Int) - (c : Int)) % 1073741824).toNat)) (fun t => d (t + 1)) (fun t => e (t + 1)) (if d 0 < e 0 + c then 1 else 0) (by omega) (by omega) (fun t ht => by
      rw [p2_un (by omega), show 16 * r + (k + 1) + t = 16 * r + k + (t + 1) by omega]
      exact h3 (t + 1) (by omega)) (fun t ht => by
      rw [p2_un (by omega), show 16 * o + (k + 1) + t = 16 * o + k + (t + 1) by omega]
      exact h3' (t + 1) (by omega)) (by split <;> omega)
    refine ⟨a', p3_cons (((d 0 : Int) - (e 0 : Int) - (c : Int)) % 1073741824).toNat f, c', ?_, fun j hj => by rw [g2 j (by omega), p2_un (by omega)], fun t ht => ?_, g4, ?_⟩
    · rw [show m + 1 - (u + 1) = m - u by omega, ← g1]
      show f_X9_lessens_L5 w (nI r) (nI o) (f_X9_lessens_L5w w (nI r) (nI o) m) a (nI c) (nI k) = _
      unfold f_X9_lessens_L5 f_X9_lessens_J72
      rw [p2_gd (p2_ib hr (by decide)), p2_ix (n := r) (by omega), hw, if_neg (nI_ge (by omega) (by omega)), show (16 : Int32) = nI 16 from rfl, pk_mul, pk_mul, nI_add, nI_add, p2_gd (p2_ib (by omega) (by decide)), p2_gd (p2_ib (by omega) (by decide)), p2_ix (n := 16 * r + k) (by omega), p2_ix (n := 16 * o + k) (by omega), q1, q3, nI_1]
      simp only [cx_let]
      rw [p2_gd (p2_ib (by omega) (by decide)), w1]
      have ez : (0 : Int32).toInt = 0 := rfl
      by_cases hb : d 0 < e 0 + c
      · rw [if_neg (fun q => by have := p2_le.mp q; rw [ez, e0] at this; omega), if_pos hb]
        rfl
      · rw [if_pos (p2_le.mpr (by rw [ez, e0]; omega)), if_neg hb]
        rfl
    · cases t with
      | zero => exact ⟨by rw [show 16 * r + k + 0 = 16 * r + k from rfl, g2 _ (by omega), p2_us]; rfl, w2⟩
      | succ t => rw [show 16 * r + k + (t + 1) = 16 * r + (k + 1) + t by omega]; exact g3 t (by omega)
    · rw [p3_vl, p3_vl, p3_Ps]
      show ((d 0 + 1073741824 * p3_vl u (fun k => d (k + 1)) : Nat) : Int) - ((e 0 + 1073741824 * p3_vl u (fun k => e (k + 1)) : Nat) : Int) - (c : Int) = (((((d 0 : Int) - (e 0 : Int) - (c : Int)) % 1073741824).toNat + 1073741824 * p3_vl u f : Nat) : Int) - (c' : Int) * (1073741824 * 1073741824 ^ u : Nat)
      have e5 : (c' : Int) * ((1073741824 * 1073741824 ^ u : Nat) : Int) = 1073741824 * ((c' : Int) * ((1073741824 ^ u : Nat) : Int)) := by
        rw [Int.natCast_mul, Int.mul_left_comm]
        rfl
      rw [e5]
      generalize (c' : Int) * ((1073741824 ^ u : Nat) : Int) = z at *
      by_cases hb : d 0 < e 0 + c
      · rw [if_pos hb] at g5
        omega
      · rw [if_neg hb] at g5
        omega
theorem p4_lessens {l w : Nat → Int32} {r o u v : Nat} (hr : r < 270) (ho : o < 270) (hro : r ≠ o) (h : p4_R l w r u) (h' : p4_R l w o v) (hv : v ≤ u) : ∃ l' w', f_X9_lessens l w (nI r) (nI o) = some (l', w') ∧ p4_F l l' w w' r ∧ p4_R l' w' r (u - v) := by
  obtain ⟨h1, n, h2, h3, h4, h5⟩ := id h
  obtain ⟨h1', _⟩ := id h'
  obtain ⟨a', f, c', g1, g2, g3, g4, g5⟩ := p4_lessL w r o n hr ho hro h2 h3 n 0 cx_N0 l (p3_dg u) (p3_dg v) 0 (by omega) (by unfold cx_N0; omega) (fun t ht => ⟨h1 t (by omega), p3_dg_lt u t⟩) (fun t ht => ⟨h1' t (by omega), p3_dg_lt v t⟩) (by omega)
  rw [p3_vl_dg2 h4, p3_vl_dg2 (by omega)] at g5
  have g6 : p3_vl n f = u - v := p3_fit (c := -(c' : Int)) (fun t ht => (g3 t ht).2) (by omega) (by rw [Int.neg_mul]; omega)
  have k1 := p3_dg_of n f 0 (u - v) (fun t ht => (g3 t ht).2) (by omega)
  have hlt : u - v < 1073741824 ^ n := by omega
  obtain ⟨fu, hfu⟩ : ∃ fu, cx_N0 - n = fu + 1 := ⟨cx_N0 - n - 1, by unfold cx_N0; omega⟩
  obtain ⟨w', t1, t2, t3⟩ := p4_trims (l := a') (w := w) (v := u - v) (n := n) hr (fun k hk => by
    by_cases hkn : k < n
    · rw [k1 k hkn]
      exact (g3 k hkn).1
    · rw [g2 _ (by omega), h1 k hk, p3_dg_big2 h4 (by omega), p3_dg_big2 hlt (by omega)]) h2 hlt h3
  refine ⟨a', w', ?_, ⟨fun j hj => g2 j (by omega), t2⟩, t3⟩
  unfold f_X9_lessens
  refine g1.trans ?_
  rw [hfu]
  show f_X9_lessens_L5 w (nI r) (nI o) (f_X9_lessens_L5w w (nI r) (nI o) fu) a' (nI c') (nI n) = _
  unfold f_X9_lessens_L5
  rw [p2_gd (p2_ib hr (by decide)), p2_ix (n := r) (by omega), h3, if_pos (nI_le (by omega) (by omega)), t1, Option.bind_some]
/-- against -/
theorem p4_agL (l : Nat → Int32) (r o u v : Nat) (hr : r < 270) (ho : o < 270) (h1 : ∀ k, k < 16 → l (16 * r + k) = nI (p3_dg u k)) (h2 : ∀ k, k < 16 → l (16 * o + k) = nI (p3_dg v k)) : ∀ (k m : Nat), k ≤ 16 → k < m → u / 1073741824 ^ k = v / 1073741824 ^ k → f_X9_against_L45w l (nI r) (nI o) m (nI k - 1) = some (p3_cmp u v) := by
  intro k
  induction k with
  | zero =>
    intro m q1 q2 h3
    obtain ⟨m, rfl⟩ : ∃ j, m = j + 1 := ⟨m - 1, by omega⟩
    show f_X9_against_L45 l (nI r) (nI o) (f_X9_against_L45w l (nI r) (nI o) m) (nI 0 - 1) = _
    unfold f_X9_against_L45
    rw [if_pos (by decide)]
    rw [Nat.pow_zero, Nat.div_one, Nat.div_one] at h3
    rw [p3_cmp, if_neg (by omega), if_pos h3]
  | succ k ih =>
    intro m q1 q2 h3
    obtain ⟨m, rfl⟩ : ∃ j, m = j + 1 := ⟨m - 1, by omega⟩
    have d1 := p3_dg_lt u k
    have d2 := p3_dg_lt v k
    show f_X9_against_L45 l (nI r) (nI o) (f_X9_against_L45w l (nI r) (nI o) m) (nI (k + 1) - 1) = _
    unfold f_X9_against_L45
    rw [nI_pred, if_neg (nI_pos (by omega)), show (16 : Int32) = nI 16 from rfl, pk_mul, pk_mul, nI_add, nI_add, p2_gd (p2_ib (by omega) (by decide)), p2_gd (p2_ib (by omega) (by decide)), p2_gd (p2_ib (by omega) (by decide)), p2_gd (p2_ib (by omega) (by decide)), p2_ix (n := 16 * r + k) (by omega), p2_ix (n := 16 * o + k) (by omega), h1 k (by omega), h2 k (by omega)]
    by_cases h : p3_dg u k = p3_dg v k
    · rw [if_pos (by rw [h]), pk_m1']
      exact ih m (by omega) (by omega) (p3_top h h3)
    · rw [if_neg (fun q => h ((nI_eq (by omega) (by omega)).mp q))]
      rcases Nat.lt_or_gt_of_ne h with h | h
      · have := p3_lt_dg h h3
        rw [if_neg (nI_ge h (by omega)), p3_cmp, if_pos this]
      · have := p3_lt_dg h h3.symm
        rw [if_pos (nI_le (by omega) (by omega)), p3_cmp, if_neg (by omega), if_neg (by omega)]
theorem p4_against {l w : Nat → Int32} {r o u v : Nat} (hr : r < 270) (ho : o < 270) (h : p4_R l w r u) (h' : p4_R l w o v) : f_X9_against l w (nI r) (nI o) = some (p3_cmp u v) := by
  obtain ⟨h1, n, h2, h3, h4, h5⟩ := h
  obtain ⟨h1', n', h2', h3', h4', h5'⟩ := h'
  unfold f_X9_against
  rw [p2_gd (p2_ib hr (by decide)), p2_gd (p2_ib ho (by decide)), p2_ix (n := r) (by omega), p2_ix (n := o) (by omega), h3, h3', p2_gd (p2_ib hr (by decide)), p2_gd (p2_ib hr (by decide)), p2_gd (p2_ib ho (by decide))]
  by_cases e : n = n'
  · subst e
    rw [if_pos rfl]
    exact p4_agL l r o u v hr ho h1 h1' n cx_N0 h2 (by unfold cx_N0; omega) (by rw [Nat.div_eq_of_lt h4, Nat.div_eq_of_lt h4'])
  · rw [if_neg (fun q => e ((nI_eq (by omega) (by omega)).mp q))]
    rcases Nat.lt_or_gt_of_ne e with e | e
    · have a1 := h5' (by omega)
      have a2 : 1073741824 ^ n ≤ 1073741824 ^ (n' - 1) := p3_pow_le (by omega)
      rw [if_neg (nI_ge e (by omega)), p3_cmp, if_pos (by omega)]
    · have a1 := h5 (by omega)
      have a2 : 1073741824 ^ n' ≤ 1073741824 ^ (n - 1) := p3_pow_le (by omega)
      rw [if_pos (nI_le (by omega) (by omega)), p3_cmp, if_neg (by omega), if_neg (by omega)]
theorem p4_isEven {l w : Nat → Int32} {r v : Nat} (hr : r < 270) (h : p4_R l w r v) : f_X9_isEven l (nI r) = some (p2_b (v % 2 = 0)) := by
  unfold f_X9_isEven
  have q := p3_dg_lt v 0
  have e : l (16 * r) = nI (p3_dg v 0) := h.1 0 (by omega)
  rw [show (16 : Int32) = nI 16 from rfl, pk_mul, p2_gd (p2_ib (by omega) (by decide)), p2_ix (by omega), e, pk_andN (by omega) 1 (by decide), p3_dg_0]
  by_cases hz : v % 2 = 0
  · rw [if_pos (by rw [show v % 1073741824 % 2 ^ 1 = 0 by omega]; rfl), p2_b, if_pos hz]
  · rw [if_neg (by rw [show v % 1073741824 % 2 ^ 1 = 1 by omega]; decide), p2_b, if_neg hz]
/-- halves -/
theorem p4_or29 {b d : Nat} (hb : b < 2) (hd : d < 1073741824) : (nI d >>> (1 &&& 31)) ||| (nI b <<< (29 &&& 31)) = nI (b * 536870912 + d / 2) := by
  rw [pk_shrN (by omega) (1 &&& 31) 1 (by decide), pk_shlN (29 &&& 31) 29 (by decide) (by omega)]
  apply Int32.toBitVec_inj.mp
  apply BitVec.eq_of_toNat_eq
  have h : (nI (d / 2 ^ 1) ||| nI (b * 2 ^ 29)).toBitVec.toNat = (nI (d / 2 ^ 1)).toBitVec.toNat ||| (nI (b * 2 ^ 29)).toBitVec.toNat := BitVec.toNat_or ..
  rw [h, pk_tn (by omega), pk_tn (by omega), pk_tn (by omega), Nat.or_comm, Nat.mul_comm b]
  exact (Nat.two_pow_add_eq_or_of_lt (i := 29) (b := d / 2 ^ 1) (by omega) b).symm
theorem p4_halvesL (w : Nat → Int32) (r n v : Nat) (hr : r < 270) (hn : n ≤ 16) (hw : w r = nI n) (hv : v < 1073741824 ^ n) : ∀ (u k m : Nat) (a : Nat → Int32), k + u = n → u < m → (∀ t, k ≤ t → t < 16 → a (16 * r + t) = nI (p3_dg v t)) → ∃ (a' : Nat → Int32), f_X9_halves_L2w w (nI r) m a (nI k) = f_X9_halves_L2w w (nI r) (m - u) a' (nI n) ∧ (∀ j, (j < 16 * r + k ∨ 16 * r + n ≤ j) → a' j = a j) ∧ (∀ t, k ≤ t → t < n → a' (16 * r + t) = nI (p3_dg (v / 2) t)) := by
  intro u
  induction u with
  | zero =>
    intro k m a h1 h2 h3
    exact ⟨a, by rw [show k = n by omega]; rfl, fun _ _ => rfl, fun t h h' => by omega⟩
  | succ u ih =>
    intro k m a h1 h2 h3
    obtain ⟨m, rfl⟩ : ∃ j, m = j + 1 := ⟨m - 1, by omega⟩
    have d1 := p3_dg_lt v k
    have d2 := p3_dg_lt v (k + 1)
    obtain ⟨a', g1, g2, g3⟩ := ih (k + 1) m (upd a (16 * r + k) (nI (p3_dg (v / 2) k))) (by omega) (by omega) (fun t t1 t2 => by rw [p2_un (by omega)]; exact h3 t (by omega) t2)
    refine ⟨a', ?_, fun j hj => by rw [g2 j (by omega), p2_un (by omega)], fun t t1 t2 => ?_⟩
    · rw [show m + 1 - (u + 1) = m - u by omega, ← g1]
      show f_X9_halves_L2 w (nI r) (f_X9_halves_L2w w (nI r) m) a (nI k) = _
      unfold f_X9_halves_L2
      rw [p2_gd (p2_ib hr (by decide)), p2_ix (n := r) (by omega), hw, if_neg (nI_ge (by omega) (by omega)), p2_gd (p2_ib hr (by decide)), nI_1]
      have J : f_X9_halves_J43 (nI r) a (nI k) (f_X9_halves_L2w w (nI r) m) (nI (p3_dg v (k + 1) % 2)) = f_X9_halves_L2w w (nI r) m (upd a (16 * r + k) (nI (p3_dg (v / 2) k))) (nI (k + 1)) := by
        unfold f_X9_halves_J43
        rw [show (16 : Int32) = nI 16 from rfl, pk_mul, nI_add, p2_gd (p2_ib (by omega) (by decide)), p2_gd (p2_ib (by omega) (by decide)), p2_ix (n := 16 * r + k) (by omega), h3 k (by omega) (by omega), p4_or29 (by omega) d1, nI_1, p3_dg_half]
        rfl
      by_cases hk : n ≤ k + 1
      · rw [if_pos (nI_le hk (by omega))]
        have hz : p3_dg v (k + 1) = 0 := p3_dg_big2 hv hk
        rw [hz] at J
        exact J
      · rw [if_neg (nI_ge (by omega) (by omega)), show (16 : Int32) = nI 16 from rfl, pk_mul, nI_add, nI_1, p2_gd (p2_ib (by omega) (by decide)), p2_ix (n := 16 * r + k + 1) (by omega), show 16 * r + k + 1 = 16 * r + (k + 1) by omega, h3 (k + 1) (by omega) (by omega), pk_andN (by omega) 1 (by decide)]
        exact J
    · by_cases e : t = k
      · subst e
        rw [g2 _ (by omega), p2_us]
      · exact g3 t (by omega) t2
theorem p4_halves {l w : Nat → Int32} {r v : Nat} (hr : r < 270) (h : p4_R l w r v) : ∃ l' w', f_X9_halves l w (nI r) = some (l', w') ∧ p4_F l l' w w' r ∧ p4_R l' w' r (v / 2) := by
  obtain ⟨h1, n, h2, h3, h4, h5⟩ := id h
  obtain ⟨a', g1, g2, g3⟩ := p4_halvesL w r n v hr h2 h3 h4 n 0 cx_N0 l (by omega) (by unfold cx_N0; omega) (fun t _ t2 => h1 t t2)
  have hlt : v / 2 < 1073741824 ^ n := by omega
  obtain ⟨fu, hfu⟩ : ∃ fu, cx_N0 - n = fu + 1 := ⟨cx_N0 - n - 1, by unfold cx_N0; omega⟩
  obtain ⟨w', t1, t2, t3⟩ := p4_trims (l := a') (w := w) (v := v / 2) (n := n) hr (fun k hk => by
    by_cases hkn : k < n
    · exact g3 k (by omega) hkn
    · rw [g2 _ (by omega), h1 k hk, p3_dg_big2 h4 (by omega), p3_dg_big2 hlt (by omega)]) h2 hlt h3
  refine ⟨a', w', ?_, ⟨fun j hj => g2 j (by omega), t2⟩, t3⟩
  unfold f_X9_halves
  refine g1.trans ?_
  rw [hfu]
  show f_X9_halves_L2 w (nI r) (f_X9_halves_L2w w (nI r) fu) a' (nI n) = _
  unfold f_X9_halves_L2
  rw [p2_gd (p2_ib hr (by decide)), p2_ix (n := r) (by omega), h3, if_pos (nI_le (by omega) (by omega)), t1, Option.bind_some]
