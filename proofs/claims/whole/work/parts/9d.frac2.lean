/-! THE FRACTION of the class -/
theorem p3_P4 : 1073741824 ^ 4 = 2 ^ 120 := by
  rw [show (1073741824 : Nat) = 2 ^ 30 from rfl, ← Nat.pow_mul]
theorem p5_halveBoth : ∀ (k i m : Nat) (x y : Nat → Int64) (a b : Nat), p3_N x 0 a → p3_N y 0 b → 0 < a → 0 < b → a < 2 ^ k → k + i ≤ 512 → k < m → ∃ x' y' a' b' c, f_X2_halveBoth_L2w m x y (nI i) = some (x', y') ∧ p3_N x' 0 a' ∧ p3_N y' 0 b' ∧ a = c * a' ∧ b = c * b' ∧ 0 < c ∧ 0 < a' ∧ 0 < b' ∧ ¬ (a' % 2 = 0 ∧ b' % 2 = 0) := by
  intro k
  induction k with
  | zero =>
    intro i m x y a b hx hy h0 h1 h2 h3 h4
    rw [Nat.pow_zero] at h2
    omega
  | succ k ih =>
    intro i m x y a b hx hy h0 h1 h2 h3 h4
    obtain ⟨m, rfl⟩ : ∃ j, m = j + 1 := ⟨m - 1, by omega⟩
    have st : f_X2_halveBoth_L2w (m + 1) x y (nI i) = f_X2_halveBoth_L2 (f_X2_halveBoth_L2w m) x y (nI i) := rfl
    have e0 : f_X3_isEven 4 x 0 = _ := p3_isEven (i := 0) (by decide) (by decide) hx
    have e1 : f_X3_isEven 4 y 0 = _ := p3_isEven (i := 0) (by decide) (by decide) hy
    by_cases a0 : a % 2 = 0
    · by_cases a1 : b % 2 = 0
      · obtain ⟨x1, b1, b2, b3⟩ := p3_halve (n := 4) (i := 0) (by decide) (by decide) hx
        obtain ⟨y1, c1, c2, c3⟩ := p3_halve (n := 4) (i := 0) (by decide) (by decide) hy
        obtain ⟨x', y', a', b', c, g1, g2, g3, g4, g5, g6, g7, g8, g9⟩ := ih (i + 1) m x1 y1 _ _ b3 c3 (by omega) (by omega) (by rw [Nat.pow_succ] at h2; omega) (by omega) (by omega)
        refine ⟨x', y', a', b', 2 * c, ?_, g2, g3, by rw [Nat.mul_assoc]; omega, by rw [Nat.mul_assoc]; omega, by omega, g7, g8, g9⟩
        rw [st, ← g1]
        unfold f_X2_halveBoth_L2
        rw [show (512 : Int32) = nI 512 from rfl, if_neg (nI_ge (by omega) (by omega)), e0, Option.bind_some, p4_bt, if_pos a0, e1, Option.bind_some, p4_bt, if_pos a1, show f_X3_halve 4 x 0 = _ from b1, Option.bind_some, show f_X3_halve 4 y 0 = _ from c1, Option.bind_some, nI_1]
      · refine ⟨x, y, a, b, 1, ?_, hx, hy, by omega, by omega, by omega, h0, h1, fun q => a1 q.2⟩
        rw [st]
        unfold f_X2_halveBoth_L2
        rw [show (512 : Int32) = nI 512 from rfl, if_neg (nI_ge (by omega) (by omega)), e0, Option.bind_some, p4_bt, if_pos a0, e1, Option.bind_some, p4_bt, if_neg a1]
    · refine ⟨x, y, a, b, 1, ?_, hx, hy, by omega, by omega, by omega, h0, h1, fun q => a0 q.1⟩
      rw [st]
      unfold f_X2_halveBoth_L2
      rw [show (512 : Int32) = nI 512 from rfl, if_neg (nI_ge (by omega) (by omega)), e0, Option.bind_some, p4_bt, if_neg a0]
/-- one step of the odd divisor -/
theorem p5_oddS (m i : Nat) (x y : Nat → Int64) (a b : Nat) (hx : p3_N x 0 a) (hy : p3_N y 0 b) (h0 : 0 < a) (h1 : 0 < b) (hne : ¬ (a % 2 = 0 ∧ b % 2 = 0)) (hi : i < 512) : ∃ x' y' a' b', f_X2_findOddDivisor_L28w (m + 1) x y (nI i) = f_X2_findOddDivisor_L28w m x' y' (nI (i + 1)) ∧ p3_N x' 0 a' ∧ p3_N y' 0 b' ∧ 0 < b' ∧ ¬ (a' % 2 = 0 ∧ b' % 2 = 0) ∧ Nat.gcd a' b' = Nat.gcd a b ∧ (((a % 2 = 0 ∨ b % 2 = 0) ∧ 2 * (a' * b') ≤ a * b) ∨ (a % 2 = 1 ∧ b % 2 = 1 ∧ (a' % 2 = 0 ∨ b' % 2 = 0) ∧ a' * b' ≤ a * b)) := by
  have st : f_X2_findOddDivisor_L28w (m + 1) x y (nI i) = f_X2_findOddDivisor_L28 (f_X2_findOddDivisor_L28w m) x y (nI i) := rfl
  have e0 : f_X3_isEven 4 x 0 = _ := p3_isEven (i := 0) (by decide) (by decide) hx
  have e1 : f_X3_isEven 4 y 0 = _ := p3_isEven (i := 0) (by decide) (by decide) hy
  have ez : f_X3_isZero 4 x 0 = _ := p3_isZero (i := 0) (by decide) (by decide) hx
  by_cases a0 : a % 2 = 0
  · obtain ⟨x1, b1, b2, b3⟩ := p3_halve (n := 4) (i := 0) (by decide) (by decide) hx
    refine ⟨x1, y, a / 2, b, ?_, b3, hy, h1, by omega, p4_gcd_l a0 (by omega), Or.inl ⟨Or.inl a0, ?_⟩⟩
    · rw [st]
      unfold f_X2_findOddDivisor_L28 f_X2_findOddDivisor_J135
      rw [show (512 : Int32) = nI 512 from rfl, if_neg (nI_ge (by omega) (by omega)), ez, Option.bind_some, p4_bt, if_neg (by omega), e0, Option.bind_some, p4_bt, if_pos a0, show f_X3_halve 4 x 0 = _ from b1, Option.bind_some, nI_1]
    · rw [← Nat.mul_assoc]
      exact Nat.mul_le_mul_right b (by omega)
  · by_cases a1 : b % 2 = 0
    · obtain ⟨y1, c1, c2, c3⟩ := p3_halve (n := 4) (i := 0) (by decide) (by decide) hy
      refine ⟨x, y1, a, b / 2, ?_, hx, c3, by omega, by omega, p4_gcd_r (by omega) a1, Or.inl ⟨Or.inr a1, ?_⟩⟩
      · rw [st]
        unfold f_X2_findOddDivisor_L28 f_X2_findOddDivisor_J135
        rw [show (512 : Int32) = nI 512 from rfl, if_neg (nI_ge (by omega) (by omega)), ez, Option.bind_some, p4_bt, if_neg (by omega), e0, Option.bind_some, p4_bt, if_neg a0, e1, Option.bind_some, p4_bt, if_pos a1, show f_X3_halve 4 y 0 = _ from c1, Option.bind_some, nI_1]
      · rw [Nat.mul_left_comm]
        exact Nat.mul_le_mul_left a (by omega)
    · have ec : f_X3_compare 4 x 0 4 y 0 = _ := p3_compare (i := 0) (j := 0) (by decide) (by decide) (by decide) (by decide) hx hy
      by_cases hlt : a < b
      · obtain ⟨y1, c1, c2, c3⟩ := p3_subtract (n := 4) (i := 0) (n' := 4) (j := 0) (by decide) (by decide) (by decide) (by decide) hy hx (by omega)
        refine ⟨x, y1, a, b - a, ?_, hx, c3, by omega, by omega, Nat.gcd_sub_self_right (by omega), Or.inr ⟨by omega, by omega, by omega, Nat.mul_le_mul_left a (by omega)⟩⟩
        rw [st]
        unfold f_X2_findOddDivisor_L28 f_X2_findOddDivisor_J135
        rw [show (512 : Int32) = nI 512 from rfl, if_neg (nI_ge (by omega) (by omega)), ez, Option.bind_some, p4_bt, if_neg (by omega), e0, Option.bind_some, p4_bt, if_neg a0, e1, Option.bind_some, p4_bt, if_neg a1, ec, Option.bind_some, if_pos (p3_cmp0.1.mpr hlt), show f_X3_subtract 4 y 0 4 x 0 = _ from c1, Option.bind_some, nI_1]
      · obtain ⟨x1, c1, c2, c3⟩ := p3_subtract (n := 4) (i := 0) (n' := 4) (j := 0) (by decide) (by decide) (by decide) (by decide) hx hy (by omega)
        refine ⟨x1, y, a - b, b, ?_, c3, hy, h1, by omega, Nat.gcd_sub_self_left (by omega), Or.inr ⟨by omega, by omega, by omega, Nat.mul_le_mul_right b (by omega)⟩⟩
        rw [st]
        unfold f_X2_findOddDivisor_L28 f_X2_findOddDivisor_J135
        rw [show (512 : Int32) = nI 512 from rfl, if_neg (nI_ge (by omega) (by omega)), ez, Option.bind_some, p4_bt, if_neg (by omega), e0, Option.bind_some, p4_bt, if_neg a0, e1, Option.bind_some, p4_bt, if_neg a1, ec, Option.bind_some, if_neg (fun q => hlt (p3_cmp0.1.mp q)), show f_X3_subtract 4 x 0 4 y 0 = _ from c1, Option.bind_some, nI_1]
theorem p5_oddL : ∀ (s k i m : Nat) (x y : Nat → Int64) (a b : Nat), p3_N x 0 a → p3_N y 0 b → 0 < b → ¬ (a % 2 = 0 ∧ b % 2 = 0) → a * b < 2 ^ k → (a % 2 = 0 ∨ b % 2 = 0 → 2 * k + 1 ≤ s) → (a % 2 = 1 ∧ b % 2 = 1 → 2 * k + 2 ≤ s) → s + i ≤ 512 → s < m → ∃ x' y', f_X2_findOddDivisor_L28w m x y (nI i) = some (x', y') ∧ p3_N y' 0 (Nat.gcd a b) ∧ Nat.gcd a b % 2 = 1 := by
  intro s
  induction s with
  | zero =>
    intro k i m x y a b hx hy h1 hne hlt hs1 hs2 hi hm
    by_cases q : a % 2 = 0 ∨ b % 2 = 0
    · have := hs1 q; omega
    · have := hs2 (by omega); omega
  | succ s ih =>
    intro k i m x y a b hx hy h1 hne hlt hs1 hs2 hi hm
    obtain ⟨m, rfl⟩ : ∃ j, m = j + 1 := ⟨m - 1, by omega⟩
    by_cases h0 : a = 0
    · refine ⟨x, y, ?_, by rw [h0, Nat.gcd_zero_left]; exact hy, by rw [h0, Nat.gcd_zero_left]; omega⟩
      show f_X2_findOddDivisor_L28 (f_X2_findOddDivisor_L28w m) x y (nI i) = _
      unfold f_X2_findOddDivisor_L28
      have ez : f_X3_isZero 4 x 0 = _ := p3_isZero (i := 0) (by decide) (by decide) hx
      rw [show (512 : Int32) = nI 512 from rfl, if_neg (nI_ge (by omega) (by omega)), ez, Option.bind_some, p4_bt, if_pos h0]
    · obtain ⟨x1, y1, a1, b1, e1, e2, e3, e4, e5, e6, e7⟩ := p5_oddS m i x y a b hx hy (by omega) h1 hne (by omega)
      rcases e7 with ⟨q, e7⟩ | ⟨q1, q2, q3, e7⟩
      · cases k with
        | zero =>
          have : 1 * 1 ≤ a * b := Nat.mul_le_mul (by omega) (by omega)
          rw [Nat.pow_zero] at hlt
          omega
        | succ k =>
          have := hs1 q
          obtain ⟨x', y', g1, g2, g3⟩ := ih k (i + 1) m x1 y1 a1 b1 e2 e3 e4 e5 (by rw [Nat.pow_succ] at hlt; omega) (fun _ => by omega) (fun _ => by omega) (by omega) (by omega)
          exact ⟨x', y', e1.trans g1, by rw [← e6]; exact g2, by rw [← e6]; exact g3⟩
      · have := hs2 ⟨q1, q2⟩
        obtain ⟨x', y', g1, g2, g3⟩ := ih k (i + 1) m x1 y1 a1 b1 e2 e3 e4 e5 (by omega) (fun _ => by omega) (fun z => by omega) (by omega) (by omega)
        exact ⟨x', y', e1.trans g1, by rw [← e6]; exact g2, by rw [← e6]; exact g3⟩
/-- x by y in lowest terms -/
theorem p5_set {n i n' j a b : Nat} {x y : Nat → Int64} (fa fb fo ft : Nat → Int64) (hn : i * 4 + 4 ≤ n) (hN : n < 2 ^ 31) (hn' : j * 4 + 4 ≤ n') (hN' : n' < 2 ^ 31) (hx : p3_N x i a) (hy : p3_N y j b) (hb : 0 < b) : ∃ u1 u2 u3 u4, f_X2_set fa fb fo ft n x (nI i) n' y (nI j) = some (u1, u2, u3, u4) ∧ p3_N u1 0 (a / Nat.gcd a b) ∧ p3_N u2 0 (b / Nat.gcd a b) := by
  unfold f_X2_set
  rw [p3_isZero hn hN hx, Option.bind_some, p4_bt]
  by_cases h0 : a = 0
  · rw [if_pos h0]
    unfold f_X2_set_J17
    obtain ⟨z1, z2, z3, z4⟩ := p3_zero (n := 4) (i := 0) fa (by decide) (by decide)
    obtain ⟨t1, t2, t3, t4⟩ := p3_set (n := 4) (i := 0) (v := 1) fb (by decide) (by decide) (by decide)
    refine ⟨z1, t1, fo, ft, ?_, by rw [h0, Nat.zero_div]; exact z4, by rw [h0, Nat.gcd_zero_left, Nat.div_self hb]; exact t4⟩
    rw [show f_X3_zero 4 fa 0 = _ from z2, Option.bind_some, show f_X3_set 4 fb 0 1 = _ from t2, Option.bind_some]
  · rw [if_neg h0, p3_isZero hn' hN' hy, Option.bind_some, p4_bt, if_neg (by omega)]
    obtain ⟨x1, a1, a2, a3⟩ := p3_copy (n := 4) (i := 0) fa (by decide) (by decide) hn hN hx
    obtain ⟨y1, b1, b2, b3⟩ := p3_copy (n := 4) (i := 0) fb (by decide) (by decide) hn' hN' hy
    have la := hx.1
    rw [p3_P4] at la
    obtain ⟨x2, y2, a', b', c, c1, c2, c3, c4, c5, c6, c7, c8, c9⟩ := p5_halveBoth 120 0 cx_N0 x1 y1 a b a3 b3 (by omega) hb la (by omega) (by unfold cx_N0; omega)
    obtain ⟨o1, d1, d2, d3⟩ := p3_copy (n := 4) (i := 0) (n' := 4) (j := 0) fo (by decide) (by decide) (by decide) (by decide) c2
    obtain ⟨o2, e1, e2, e3⟩ := p3_copy (n := 4) (i := 0) (n' := 4) (j := 0) ft (by decide) (by decide) (by decide) (by decide) c3
    have la' := c2.1
    have lb' := c3.1
    rw [p3_P4] at la' lb'
    have hprod : a' * b' < 2 ^ 240 := by
      rw [show (240 : Nat) = 120 + 120 from rfl, Nat.pow_add]
      exact Nat.mul_lt_mul_of_lt_of_le la' (Nat.le_of_lt lb') (Nat.pow_pos (by decide))
    obtain ⟨o3, o4, f1, f2, f3⟩ := p5_oddL 482 240 0 cx_N0 o1 o2 a' b' d3 e3 c8 c9 hprod (fun _ => by omega) (fun _ => by omega) (by omega) (by unfold cx_N0; omega)
    obtain ⟨q0, hq0⟩ := Nat.gcd_dvd_left a' b'
    obtain ⟨q1, hq1⟩ := Nat.gcd_dvd_right a' b'
    have hg : 0 < Nat.gcd a' b' := Nat.gcd_pos_of_pos_left _ c7
    have hgg : Nat.gcd a b = c * Nat.gcd a' b' := by rw [c4, c5, Nat.gcd_mul_left]
    have x2' : p3_N x2 0 (Nat.gcd a' b' * q0) := by rw [← hq0]; exact c2
    have y2' : p3_N y2 0 (Nat.gcd a' b' * q1) := by rw [← hq1]; exact c3
    obtain ⟨x3, g1, g2, g3⟩ := p3_divide (n := 4) (i := 0) (n' := 4) (j := 0) (by decide) (by decide) (by decide) (by decide) x2' f2 f3
    obtain ⟨y3, i1, i2, i3⟩ := p3_divide (n := 4) (i := 0) (n' := 4) (j := 0) (by decide) (by decide) (by decide) (by decide) y2' f2 f3
    refine ⟨x3, y3, o3, o4, ?_, ?_, ?_⟩
    · rw [show f_X3_copy 4 fa 0 n x (nI i) = _ from a1, Option.bind_some, show f_X3_copy 4 fb 0 n' y (nI j) = _ from b1, Option.bind_some, show f_X2_halveBoth x1 y1 = _ from c1, Option.bind_some]
      unfold f_X2_findOddDivisor
      rw [show f_X3_copy 4 fo 0 4 x2 0 = _ from d1, Option.bind_some, show f_X3_copy 4 ft 0 4 y2 0 = _ from e1, Option.bind_some, show f_X2_findOddDivisor_L28w cx_N0 o1 o2 0 = _ from f1, Option.bind_some, show f_X3_divide 4 x2 0 4 o4 0 = _ from g1, Option.bind_some, show f_X3_divide 4 y2 0 4 o4 0 = _ from i1, Option.bind_some]
    · have : a / Nat.gcd a b = q0 := by
        rw [hgg]
        conv => lhs; rw [c4]
        rw [Nat.mul_div_mul_left _ _ c6]
        conv => lhs; lhs; rw [hq0]
        exact Nat.mul_div_cancel_left _ hg
      rw [this]
      exact g3
    · have : b / Nat.gcd a b = q1 := by
        rw [hgg]
        conv => lhs; rw [c5]
        rw [Nat.mul_div_mul_left _ _ c6]
        conv => lhs; lhs; rw [hq1]
        exact Nat.mul_div_cancel_left _ hg
      rw [this]
      exact i3
theorem p5_setWhole {n i a : Nat} {x : Nat → Int64} (fa fb : Nat → Int64) (hn : i * 4 + 4 ≤ n) (hN : n < 2 ^ 31) (hx : p3_N x i a) : ∃ u1 u2, f_X2_setWhole fa fb n x (nI i) = some (u1, u2) ∧ p3_N u1 0 a ∧ p3_N u2 0 1 := by
  obtain ⟨x1, a1, a2, a3⟩ := p3_copy (n := 4) (i := 0) fa (by decide) (by decide) hn hN hx
  obtain ⟨t1, t2, t3, t4⟩ := p3_set (n := 4) (i := 0) (v := 1) fb (by decide) (by decide) (by decide)
  refine ⟨x1, t1, ?_, a3, t4⟩
  unfold f_X2_setWhole
  rw [show f_X3_copy 4 fa 0 n x (nI i) = _ from a1, Option.bind_some, show f_X3_set 4 fb 0 1 = _ from t2, Option.bind_some]
/-- both sides of a fraction, digit by digit -/
theorem p5_F1 {x : Nat → Int64} {l w : Nat → Int32} {r v : Nat} (hx : p3_N x 0 v) (h : p4_R l w r v) : ∃ n, p2_F1 x l (w r) (16 * r) n ∧ (n = 0 ↔ v = 0) := by
  obtain ⟨h1, n, h2, h3, h4, h5⟩ := id h
  have hn : n ≤ 4 := p4_width h h3 h2 hx.1
  have hd : ∀ k, k < 4 → x k = lN (p3_dg v k) := fun k hk => by
    have := hx.2 k hk
    rw [Nat.zero_mul, Nat.zero_add] at this
    exact this
  refine ⟨n, ⟨hn, h3, fun k hk => ?_, fun k k1 k2 => ?_, fun hp => ?_⟩, ?_⟩
  · have := p3_dg_lt v k
    rw [hd k (by omega), h1 k (by omega), nI_l (by omega)]
  · rw [hd k k2, p3_dg_big2 h4 k1]
    rfl
  · have := p3_dg_lt v (n - 1)
    rw [hd (n - 1) (by omega)]
    intro q
    have q := (p3_lz (by omega)).mp q
    have h6 := h5 hp
    have h7 : v < 1073741824 ^ (n - 1 + 1) := by rw [show n - 1 + 1 = n by omega]; exact h4
    have := (p3_top0 h7).mp q
    omega
  · obtain ⟨n', _, n2, n3⟩ := p4_wpos h
    have e : n = n' := (nI_eq (by omega) (by omega)).mp (h3.symm.trans n2)
    rw [e]
    exact n3
