/-! lowest terms, the reference's way -/
theorem p4_newt32 {o x : Int32} {D D2 K : Int} (hD : D * D = D2) (hK : D2 * K = 4294967296) (h : D ∣ 1 - o.toInt * x.toInt) : D2 ∣ 1 - o.toInt * (x * (2 - o * x)).toInt := by
  obtain ⟨t1, e1⟩ := p3_bm (x := o.toInt * x.toInt) (n := 2 ^ 32)
  obtain ⟨t2, e2⟩ := p3_bm (x := (2 : Int32).toInt - (o * x).toInt) (n := 2 ^ 32)
  obtain ⟨t3, e3⟩ := p3_bm (x := x.toInt * (2 - o * x).toInt) (n := 2 ^ 32)
  rw [← Int32.toInt_mul] at e1 e3
  rw [← Int32.toInt_sub] at e2
  have e0 : (2 : Int32).toInt = 2 := rfl
  obtain ⟨q, hq⟩ := p3_newt hD h
  have h64 : ((2 ^ 32 : Nat) : Int) = D2 * K := hK.symm
  rw [h64] at e1 e2 e3
  refine ⟨q - o.toInt * (x.toInt * (K * (t2 - t1)) + K * t3), ?_⟩
  have e4 : (x * (2 - o * x)).toInt = x.toInt * (2 - o.toInt * x.toInt) + D2 * (x.toInt * (K * (t2 - t1)) + K * t3) := by
    rw [e3, e2, e0, e1]
    have : (2 : Int) - (o.toInt * x.toInt + D2 * K * t1) + D2 * K * t2 = (2 - o.toInt * x.toInt) + D2 * K * (t2 - t1) := by rw [Int.mul_sub]; omega
    rw [this, Int.mul_add, Int.mul_add D2, Int.mul_assoc D2 K, Int.mul_left_comm x.toInt D2, Int.mul_assoc D2 K t3, Int.add_assoc]
  rw [e4, Int.mul_add, Int.mul_sub D2, ← hq, Int.mul_left_comm o.toInt D2]
  omega
theorem p4_inverse (l w : Nat → Int32) (p1 : Int32) {d : Nat} (hd : d < 1073741824) (ho : d % 2 = 1) (hl : l 48 = nI d) : ∃ x : Int32, f_X9_dividesOdd l w p1 = cx_gd (cx_ib p1 270) (f_X9_dividesOdd_L39w w p1 x (w (cx_ix p1)) cx_N0 l 0) ∧ (1073741824 : Int) ∣ 1 - (d : Int) * x.toInt := by
  have st : ∀ (m : Nat) (x : Int32) (k : Int32), f_X9_dividesOdd_L4w l w p1 (m + 1) x k = f_X9_dividesOdd_L4 l w p1 (f_X9_dividesOdd_L4w l w p1 m) x k := fun _ _ _ => rfl
  have hI : (nI d).toInt = (d : Int) := nI_toInt (by omega)
  have c0 : (2 : Int) ∣ 1 - (nI d).toInt * (1 : Int32).toInt := by
    rw [hI]
    have : (1 : Int32).toInt = 1 := rfl
    rw [this]
    omega
  have c1 := p4_newt32 (o := nI d) (x := 1) (D := 2) (D2 := 4) (K := 1073741824) (by decide) (by decide) c0
  have c2 := p4_newt32 (o := nI d) (D := 4) (D2 := 16) (K := 268435456) (by decide) (by decide) c1
  have c3 := p4_newt32 (o := nI d) (D := 16) (D2 := 256) (K := 16777216) (by decide) (by decide) c2
  have c4 := p4_newt32 (o := nI d) (D := 256) (D2 := 65536) (K := 65536) (by decide) (by decide) c3
  have c5 := p4_newt32 (o := nI d) (D := 65536) (D2 := 4294967296) (K := 1) (by decide) (by decide) c4
  generalize hz : (1 : Int32) * (2 - nI d * 1) = z1 at *
  generalize hz2 : z1 * (2 - nI d * z1) = z2 at *
  generalize hz3 : z2 * (2 - nI d * z2) = z3 at *
  generalize hz4 : z3 * (2 - nI d * z3) = z4 at *
  generalize hz5 : z4 * (2 - nI d * z4) = z5 at *
  refine ⟨z5, ?_, ?_⟩
  · have e48 : l (cx_ix 48) = nI d := hl
    have step : ∀ (m : Nat) (x : Int32) (k : Int32), ¬ 5 ≤ k → f_X9_dividesOdd_L4w l w p1 (m + 1) x k = f_X9_dividesOdd_L4w l w p1 m (x * (2 - nI d * x)) (k + 1) := by
      intro m x k hk
      rw [st]
      unfold f_X9_dividesOdd_L4
      rw [if_neg hk, p2_gd (by decide), e48]
      rfl
    unfold f_X9_dividesOdd
    rw [show cx_N0 = 9999999994 + 1 + 1 + 1 + 1 + 1 + 1 from rfl, step _ _ _ (by decide), step _ _ _ (by decide), step _ _ _ (by decide), step _ _ _ (by decide), step _ _ _ (by decide), hz, hz2, hz3, hz4, hz5, st]
    unfold f_X9_dividesOdd_L4
    rw [if_pos (by decide)]
    rfl
  · rw [hI] at c5
    exact Int.dvd_trans ⟨4, rfl⟩ c5
theorem p4_divI (w : Nat → Int32) (r i n nG G q : Nat) (rc : (Nat → Int32) → Int32 → Option ((Nat → Int32) × (Nat → Int32))) (hr : r < 3) (hi : i < n) (hn : n ≤ 16) (hq : q < 1073741824) (hnG : nG ≤ 16) (hw3 : w 3 = nI nG) (hG : G < 1073741824 ^ nG) : ∀ (u k m : Nat) (a : Nat → Int32) (R : Nat → Nat) (c : Int64), i + k + u = n → u < m → (∀ t, t < u → a (16 * r + i + k + t) = nI (R t) ∧ R t < 1073741824) → (∀ t, t < 16 → a (48 + t) = nI (p3_dg G t)) → (-2147483648 ≤ c.toInt ∧ c.toInt ≤ 2147483648) → ∃ (a' : Nat → Int32) (o : Nat → Nat) (c' : Int), f_X9_dividesOdd_L70w w (nI r) (nI n) (nI i) rc (nI q) m a c (nI k) = rc (upd a' (64 + i) (nI q)) (nI (i + 1)) ∧ (∀ j, (j < 16 * r + i + k ∨ 16 * r + n ≤ j) → a' j = a j) ∧ (∀ t, t < u → a' (16 * r + i + k + t) = nI (o t) ∧ o t < 1073741824) ∧ -c.toInt + p3_vI u (fun t => (R t : Int) - (q : Int) * (p3_dg G (k + t) : Int)) = (p3_vl u o : Int) + c' * (1073741824 ^ u : Nat) := by
  intro u
  induction u with
  | zero =>
    intro k m a R c h1 h2 h3 h4 h5
    obtain ⟨m, rfl⟩ : ∃ j, m = j + 1 := ⟨m - 1, by omega⟩
    refine ⟨a, fun _ => 0, -c.toInt, ?_, fun _ _ => rfl, fun t h => by omega, by simp [p3_vI, p3_vl]⟩
    show f_X9_dividesOdd_L70 w (nI r) (nI n) (nI i) rc (nI q) (f_X9_dividesOdd_L70w w (nI r) (nI n) (nI i) rc (nI q) m) a c (nI k) = _
    unfold f_X9_dividesOdd_L70
    rw [nI_add, if_pos (nI_le (by omega) (by omega)), show (64 : Int32) = nI 64 from rfl, nI_add, p2_gd (p2_ib (by omega) (by decide)), p2_ix (n := 64 + i) (by omega), nI_1]
    rfl
  | succ u ih =>
    intro k m a R c h1 h2 h3 h4 h5
    obtain ⟨m, rfl⟩ : ∃ j, m = j + 1 := ⟨m - 1, by omega⟩
    obtain ⟨q1, q2⟩ := h3 0 (by omega)
    have q1 : a (16 * r + i + k) = nI (R 0) := q1
    have q4 := p3_dg_lt G k
    have m1 : q * p3_dg G k < 1073741824 * 1073741824 := Nat.mul_lt_mul_of_lt_of_le hq (Nat.le_of_lt q4) (by decide)
    have mI : (lN (R 0) - lN (q * p3_dg G k)).toInt = (R 0 : Int) - ((q * p3_dg G k : Nat) : Int) := by
      rw [p3_subI, p3_lI (by omega), p3_lI (by omega)]
      · rw [p3_lI (by omega), p3_lI (by omega)]; omega
      · rw [p3_lI (by omega), p3_lI (by omega)]; omega
    have e0 : (lN (R 0) - lN (q * p3_dg G k) - c).toInt = (R 0 : Int) - ((q * p3_dg G k : Nat) : Int) - c.toInt := by rw [p3_subI (by rw [mI]; omega) (by rw [mI]; omega), mI]
    obtain ⟨w1, w2⟩ := p3_andN (lN (R 0) - lN (q * p3_dg G k) - c)
    have e8 : ((lN (R 0) - lN (q * p3_dg G k) - c) >>> (Int32.toInt64 30 &&& 63)).toInt = ((R 0 : Int) - ((q * p3_dg G k : Nat) : Int) - c.toInt) / 1073741824 := by rw [p3_shr, e0]
    have e9 : (-((lN (R 0) - lN (q * p3_dg G k) - c) >>> (Int32.toInt64 30 &&& 63))).toInt = -(((R 0 : Int) - ((q * p3_dg G k : Nat) : Int) - c.toInt) / 1073741824) := by
      rw [Int64.toInt_neg, e8]
      exact Int.bmod_eq_of_le (by omega) (by omega)
    rw [e0] at w1 w2
    obtain ⟨a', o, c', g1, g2, g3, g4⟩ := ih (k + 1) m (upd a (16 * r + i + k) (nI (((R 0 : Int) - ((q * p3_dg G k : Nat) : Int) - c.toInt) % 1073741824).toNat)) (fun t => R (t + 1)) (-((lN (R 0) - lN (q * p3_dg G k) - c) >>> (Int32.toInt64 30 &&& 63))) (by omega) (by omega) (fun t ht => by
      rw [p2_un (by omega), show 16 * r + i + (k + 1) + t = 16 * r + i + k + (t + 1) by omega]
      exact h3 (t + 1) (by omega)) (fun t ht => by rw [p2_un (by omega)]; exact h4 t ht) (by rw [e9]; omega)
    refine ⟨a', p3_cons (((R 0 : Int) - ((q * p3_dg G k : Nat) : Int) - c.toInt) % 1073741824).toNat o, c', ?_, fun j hj => by rw [g2 j (by omega), p2_un (by omega)], fun t ht => ?_, ?_⟩
    · rw [← g1]
      have J : f_X9_dividesOdd_J109 (nI r) (nI i) a c (nI k) (f_X9_dividesOdd_L70w w (nI r) (nI n) (nI i) rc (nI q) m) (lN (q * p3_dg G k)) = f_X9_dividesOdd_L70w w (nI r) (nI n) (nI i) rc (nI q) m (upd a (16 * r + i + k) (nI (((R 0 : Int) - ((q * p3_dg G k : Nat) : Int) - c.toInt) % 1073741824).toNat)) (-((lN (R 0) - lN (q * p3_dg G k) - c) >>> (Int32.toInt64 30 &&& 63))) (nI (k + 1)) := by
        unfold f_X9_dividesOdd_J109
        rw [show (16 : Int32) = nI 16 from rfl, pk_mul, nI_add, nI_add, p2_gd (p2_ib (by omega) (by decide)), p2_ix (n := 16 * r + i + k) (by omega), q1, nI_l (by omega), nI_1]
        simp only [cx_let]
        rw [p2_gd (p2_ib (by omega) (by decide)), w1, lN_i]
      show f_X9_dividesOdd_L70 w (nI r) (nI n) (nI i) rc (nI q) (f_X9_dividesOdd_L70w w (nI r) (nI n) (nI i) rc (nI q) m) a c (nI k) = _
      unfold f_X9_dividesOdd_L70
      have e3 : w (cx_ix 3) = nI nG := hw3
      rw [nI_add, if_neg (nI_ge (by omega) (by omega)), p2_gd (by decide), e3]
      by_cases hk : nG ≤ k
      · rw [if_pos (nI_le hk (by omega))]
        have hz : p3_dg G k = 0 := p3_dg_big2 hG hk
        rw [hz, Nat.mul_zero] at J ⊢
        exact J
      · rw [if_neg (nI_ge (by omega) (by omega)), show (48 : Int32) = nI 48 from rfl, nI_add, p2_gd (p2_ib (by omega) (by decide)), p2_ix (n := 48 + k) (by omega), h4 k (by omega), nI_l (by omega), nI_l (by omega), lN_mul]
        exact J
    · cases t with
      | zero => exact ⟨by rw [show 16 * r + i + k + 0 = 16 * r + i + k from rfl, g2 _ (by omega), p2_us]; rfl, w2⟩
      | succ t => rw [show 16 * r + i + k + (t + 1) = 16 * r + i + (k + 1) + t by omega]; exact g3 t (by omega)
    · rw [e9] at g4
      have e6 : p3_vI u (fun t => ((fun t => R (t + 1)) t : Int) - (q : Int) * (p3_dg G (k + 1 + t) : Int)) = p3_vI u (fun t => (R (t + 1) : Int) - (q : Int) * (p3_dg G (k + (t + 1)) : Int)) := p3_vI_congr u _ _ (fun t _ => by rw [show k + 1 + t = k + (t + 1) by omega])
      rw [e6] at g4
      rw [p3_vI, p3_Ps]
      show -c.toInt + ((R 0 : Int) - (q : Int) * (p3_dg G (k + 0) : Int) + 1073741824 * p3_vI u (fun t => (R (t + 1) : Int) - (q : Int) * (p3_dg G (k + (t + 1)) : Int))) = ((((((R 0 : Int) - ((q * p3_dg G k : Nat) : Int) - c.toInt) % 1073741824).toNat + 1073741824 * p3_vl u o : Nat)) : Int) + c' * (1073741824 * 1073741824 ^ u : Nat)
      have e5 : c' * ((1073741824 * 1073741824 ^ u : Nat) : Int) = 1073741824 * (c' * ((1073741824 ^ u : Nat) : Int)) := by
        rw [Int.natCast_mul, Int.mul_left_comm]
        rfl
      rw [e5, ← Int.natCast_mul, show k + 0 = k from rfl]
      generalize c' * ((1073741824 ^ u : Nat) : Int) = z at *
      generalize q * p3_dg G k = z3 at *
      omega
theorem p4_divO (w : Nat → Int32) (r n nG G : Nat) (x : Int32) (hr : r < 3) (hn : n ≤ 16) (hnG : nG ≤ 16) (hw3 : w 3 = nI nG) (hG : G < 1073741824 ^ nG) (hx : (1073741824 : Int) ∣ 1 - ((p3_dg G 0 : Nat) : Int) * x.toInt) : ∀ (u i m : Nat) (a : Nat → Int32) (R : Nat → Nat) (Q : Nat), i + u = n → u < m → (∀ t, t < u → a (16 * r + i + t) = nI (R t) ∧ R t < 1073741824) → (∀ t, t < 16 → a (48 + t) = nI (p3_dg G t)) → p3_vl u R = (G * Q) % 1073741824 ^ u → ∃ a', f_X9_dividesOdd_L39w w (nI r) x (nI n) m a (nI i) = f_X9_dividesOdd_L192w w (nI r) (nI n) cx_N0 a' 0 ∧ (∀ j, (j < 16 * r + i ∨ 16 * r + n ≤ j) → (j < 64 + i ∨ 64 + n ≤ j) → a' j = a j) ∧ (∀ t, t < u → a' (64 + i + t) = nI (p3_dg Q t)) := by
  intro u
  induction u with
  | zero =>
    intro i m a R Q h1 h2 h3 h4 h5
    obtain ⟨m, rfl⟩ : ∃ j, m = j + 1 := ⟨m - 1, by omega⟩
    refine ⟨a, ?_, fun _ _ _ => rfl, fun t h => by omega⟩
    show f_X9_dividesOdd_L39 w (nI r) x (nI n) (f_X9_dividesOdd_L39w w (nI r) x (nI n) m) a (nI i) = _
    unfold f_X9_dividesOdd_L39
    rw [if_pos (nI_le (by omega) (by omega))]
  | succ u ih =>
    intro i m a R Q h1 h2 h3 h4 h5
    obtain ⟨m, rfl⟩ : ∃ j, m = j + 1 := ⟨m - 1, by omega⟩
    obtain ⟨q1, q2⟩ := h3 0 (by omega)
    have q1 : a (16 * r + i) = nI (R 0) := q1
    -- the inverse as a Nat
    obtain ⟨v, hv1, hv2⟩ : ∃ v : Nat, (x.toInt % 1073741824 = (v : Int)) ∧ v < 1073741824 := ⟨(x.toInt % 1073741824).toNat, by omega, by omega⟩
    obtain ⟨xt, hxt⟩ : ∃ xt, x.toInt = (v : Int) + 1073741824 * xt := ⟨x.toInt / 1073741824, by omega⟩
    have hGv : (G * v) % 1073741824 = 1 := by
      obtain ⟨z, hz⟩ := hx
      rw [hxt, Int.mul_add, Int.mul_left_comm] at hz
      have e : ((p3_dg G 0 * v : Nat) : Int) = (p3_dg G 0 : Int) * (v : Int) := Int.natCast_mul _ v
      have e1 : (p3_dg G 0 * v) % 1073741824 = 1 := by omega
      rw [← e1, p3_dg_0, Nat.mod_mul_mod]
    have hdg := p3_divD h5 q2 hGv
    have hq : (nI (R 0) * x) &&& 1073741823 = nI (Q % 1073741824) := by
      obtain ⟨w1, _⟩ := p4_andI (nI (R 0) * x)
      rw [w1, ← hdg]
      congr 1
      obtain ⟨t, ht⟩ := p3_bm (x := (nI (R 0)).toInt * x.toInt) (n := 2 ^ 32)
      rw [Int32.toInt_mul, ht, nI_toInt (by omega), hxt, Int.mul_add, Int.mul_left_comm]
      have e : ((R 0 * v : Nat) : Int) = (R 0 : Int) * (v : Int) := Int.natCast_mul _ v
      have e2 : ((2 ^ 32 : Nat) : Int) = 4294967296 := rfl
      rw [e2]
      omega
    obtain ⟨a1, o, c', g1, g2, g3, g4⟩ := p4_divI w r i n nG G (Q % 1073741824) (f_X9_dividesOdd_L39w w (nI r) x (nI n) m) hr (by omega) hn (Nat.mod_lt _ (by decide)) hnG hw3 hG (u + 1) 0 cx_N0 a R 0 (by omega) (by unfold cx_N0; omega) (fun t ht => h3 t ht) h4 (by decide)
    have ez : (0 : Int64).toInt = 0 := rfl
    rw [ez] at g4
    have e6 : p3_vI (u + 1) (fun t => (R t : Int) - ((Q % 1073741824 : Nat) : Int) * (p3_dg G (0 + t) : Int)) = p3_vI (u + 1) (fun t => (R t : Int) - ((Q % 1073741824 : Nat) : Int) * (p3_dg G t : Int)) := p3_vI_congr (u + 1) _ _ (fun t _ => by rw [Nat.zero_add])
    rw [e6] at g4
    obtain ⟨k1, k2⟩ := p3_divC h5 (fun t ht => (g3 t ht).2) (by rw [← g4]; omega)
    obtain ⟨a', f1, f2, f3⟩ := ih (i + 1) m (upd a1 (64 + i) (nI (Q % 1073741824))) (fun t => o (t + 1)) (Q / 1073741824) (by omega) (by omega) (fun t ht => by
      rw [p2_un (by omega), show 16 * r + (i + 1) + t = 16 * r + i + 0 + (t + 1) by omega]
      exact g3 (t + 1) (by omega)) (fun t ht => by rw [p2_un (by omega), g2 _ (by omega)]; exact h4 t ht) k2
    refine ⟨a', ?_, fun j hj hj' => by rw [f2 j (by omega) (by omega), p2_un (by omega), g2 j (by omega)], fun t ht => ?_⟩
    · rw [← f1]
      show f_X9_dividesOdd_L39 w (nI r) x (nI n) (f_X9_dividesOdd_L39w w (nI r) x (nI n) m) a (nI i) = _
      unfold f_X9_dividesOdd_L39
      rw [if_neg (nI_ge (by omega) (by omega)), show (16 : Int32) = nI 16 from rfl, pk_mul, nI_add, p2_gd (p2_ib (by omega) (by decide)), p2_ix (n := 16 * r + i) (by omega), q1, hq]
      exact g1
    · cases t with
      | zero => rw [show 64 + i + 0 = 64 + i from rfl, f2 _ (by omega) (by omega), p2_us, p3_dg_0]
      | succ t => rw [show 64 + i + (t + 1) = 64 + (i + 1) + t by omega, f3 t (by omega), p3_dg_s]
theorem p4_divE (w : Nat → Int32) (r n : Nat) (hr : r < 3) (hn : n ≤ 16) : ∀ (u i m : Nat) (a : Nat → Int32), i + u = n → u < m → ∃ a', f_X9_dividesOdd_L192w w (nI r) (nI n) m a (nI i) = f_X9_dividesOdd_L192w w (nI r) (nI n) (m - u) a' (nI n) ∧ (∀ j, (j < 16 * r + i ∨ 16 * r + n ≤ j) → a' j = a j) ∧ (∀ t, i ≤ t → t < n → a' (16 * r + t) = a (64 + t)) := by
  intro u
  induction u with
  | zero =>
    intro i m a h1 h2
    exact ⟨a, by rw [show i = n by omega]; rfl, fun _ _ => rfl, fun t h h' => by omega⟩
  | succ u ih =>
    intro i m a h1 h2
    obtain ⟨m, rfl⟩ : ∃ j, m = j + 1 := ⟨m - 1, by omega⟩
    obtain ⟨a', g1, g2, g3⟩ := ih (i + 1) m (upd a (16 * r + i) (a (64 + i))) (by omega) (by omega)
    refine ⟨a', ?_, fun j hj => by rw [g2 j (by omega), p2_un (by omega)], fun t t1 t2 => ?_⟩
    · rw [show m + 1 - (u + 1) = m - u by omega, ← g1]
      show f_X9_dividesOdd_L192 w (nI r) (nI n) (f_X9_dividesOdd_L192w w (nI r) (nI n) m) a (nI i) = _
      unfold f_X9_dividesOdd_L192
      rw [if_neg (nI_ge (by omega) (by omega)), show (16 : Int32) = nI 16 from rfl, show (64 : Int32) = nI 64 from rfl, pk_mul, nI_add, nI_add, p2_gd (p2_ib (by omega) (by decide)), p2_gd (p2_ib (by omega) (by decide)), p2_ix (n := 16 * r + i) (by omega), p2_ix (n := 64 + i) (by omega), nI_1]
      rfl
    · by_cases e : t = i
      · subst e
        rw [g2 _ (by omega), p2_us]
      · rw [g3 t (by omega) t2, p2_un (by omega)]
theorem p4_dividesOdd {l w : Nat → Int32} {r G Q : Nat} (hr : r < 3) (h : p4_R l w r (G * Q)) (h3 : p4_R l w 3 G) (ho : G % 2 = 1) : ∃ l' w', f_X9_dividesOdd l w (nI r) = some (l', w') ∧ p4_F2 l l' w w' r ∧ p4_R l' w' r Q := by
  obtain ⟨a1, n, a2, a3, a4, a5⟩ := id h
  obtain ⟨b1, nG, b2, b3, b4, b5⟩ := id h3
  obtain ⟨x, x1, x2⟩ := p4_inverse l w (nI r) (p3_dg_lt G 0) (by rw [p3_dg_0]; omega) (b1 0 (by omega))
  obtain ⟨l1, c1, c2, c3⟩ := p4_divO w r n nG G x hr a2 b2 b3 b4 x2 n 0 cx_N0 l (p3_dg (G * Q)) Q (by omega) (by unfold cx_N0; omega) (fun t ht => ⟨a1 t (by omega), p3_dg_lt _ t⟩) b1 (by rw [p3_vl_dg2 a4, Nat.mod_eq_of_lt a4])
  obtain ⟨l2, d1, d2, d3⟩ := p4_divE w r n hr a2 n 0 cx_N0 l1 (by omega) (by unfold cx_N0; omega)
  obtain ⟨fu, hfu⟩ : ∃ fu, cx_N0 - n = fu + 1 := ⟨cx_N0 - n - 1, by unfold cx_N0; omega⟩
  have hQ : Q < 1073741824 ^ n := by
    have : 1 * Q ≤ G * Q := Nat.mul_le_mul_right Q (by omega)
    omega
  obtain ⟨w', t1, t2, t3⟩ := p4_trims (l := l2) (w := w) (r := r) (v := Q) (n := n) (by omega) (fun k hk => by
    by_cases hkn : k < n
    · rw [d3 k (by omega) hkn, show 64 + k = 64 + 0 + k by omega]
      exact c3 k hkn
    · rw [d2 _ (by omega), c2 _ (by omega) (by omega), a1 k hk, p3_dg_big2 a4 (by omega), p3_dg_big2 hQ (by omega)]) a2 hQ a3
  refine ⟨l2, w', ?_, ⟨fun j hj hj' => by rw [d2 j (by omega), c2 j (by omega) (by omega)], fun s hs _ => t2 s hs⟩, t3⟩
  rw [x1, p2_gd (p2_ib (by omega) (by decide)), p2_ix (n := r) (by omega), a3]
  refine c1.trans (d1.trans ?_)
  rw [hfu]
  show f_X9_dividesOdd_L192 w (nI r) (nI n) (f_X9_dividesOdd_L192w w (nI r) (nI n) fu) l2 (nI n) = _
  unfold f_X9_dividesOdd_L192
  rw [if_pos (nI_le (by omega) (by omega)), t1, Option.bind_some]
