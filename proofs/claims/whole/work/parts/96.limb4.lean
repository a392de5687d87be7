/-! dividing by an odd number from the lowest digit up -/
theorem p3_newt {o x D D2 : Int} (hD : D * D = D2) (h : D ∣ 1 - o * x) : D2 ∣ 1 - o * (x * (2 - o * x)) := by
  obtain ⟨q, hq⟩ := h
  refine ⟨q * q, ?_⟩
  have e : o * (x * (2 - o * x)) = o * x * 2 - o * x * (o * x) := by rw [← Int.mul_assoc, Int.mul_sub]
  have e2 : D2 * (q * q) = (D * q) * (D * q) := by rw [← hD, Int.mul_assoc, Int.mul_assoc, Int.mul_left_comm D q]
  rw [e, e2, ← hq, Int.sub_mul, Int.one_mul, Int.mul_sub (o * x) 1 (o * x)]
  omega
theorem p3_bm {x : Int} {n : Nat} : ∃ t, Int.bmod x n = x + (n : Int) * t := by
  obtain ⟨t, ht⟩ := Int.dvd_bmod_sub_self (x := x) (m := n)
  exact ⟨t, by omega⟩
theorem p3_newt64 {o x : Int64} {D D2 K : Int} (hD : D * D = D2) (hK : D2 * K = 18446744073709551616) (h : D ∣ 1 - o.toInt * x.toInt) : D2 ∣ 1 - o.toInt * (x * (2 - o * x)).toInt := by
  obtain ⟨t1, e1⟩ := p3_bm (x := o.toInt * x.toInt) (n := 2 ^ 64)
  obtain ⟨t2, e2⟩ := p3_bm (x := (2 : Int64).toInt - (o * x).toInt) (n := 2 ^ 64)
  obtain ⟨t3, e3⟩ := p3_bm (x := x.toInt * (2 - o * x).toInt) (n := 2 ^ 64)
  rw [← Int64.toInt_mul] at e1 e3
  rw [← Int64.toInt_sub] at e2
  have e0 : (2 : Int64).toInt = 2 := rfl
  obtain ⟨q, hq⟩ := p3_newt hD h
  have h64 : ((2 ^ 64 : Nat) : Int) = D2 * K := hK.symm
  rw [h64] at e1 e2 e3
  refine ⟨q - o.toInt * (x.toInt * (K * (t2 - t1)) + K * t3), ?_⟩
  have e4 : (x * (2 - o * x)).toInt = x.toInt * (2 - o.toInt * x.toInt) + D2 * (x.toInt * (K * (t2 - t1)) + K * t3) := by
    rw [e3, e2, e0, e1]
    have : (2 : Int) - (o.toInt * x.toInt + D2 * K * t1) + D2 * K * t2 = (2 - o.toInt * x.toInt) + D2 * K * (t2 - t1) := by rw [Int.mul_sub]; omega
    rw [this, Int.mul_add, Int.mul_add D2, Int.mul_assoc D2 K, Int.mul_left_comm x.toInt D2, Int.mul_assoc D2 K t3, Int.add_assoc]
  rw [e4, Int.mul_add, Int.mul_sub D2, ← hq, Int.mul_left_comm o.toInt D2]
  omega
theorem p3_odd8 {o : Int} (h : o % 2 = 1) : (8 : Int) ∣ 1 - o * o := by
  obtain ⟨a, ha⟩ : ∃ a, o = 2 * a + 1 := ⟨o / 2, by omega⟩
  have e : o * o = 4 * (a * a) + 4 * a + 1 := by
    rw [ha, Int.add_mul, Int.mul_add]
    have : 2 * a * (2 * a) = 4 * (a * a) := by rw [Int.mul_assoc, Int.mul_left_comm a 2, ← Int.mul_assoc]; rfl
    omega
  have e2 : (a * a + a) % 2 = 0 := by
    have : a * a % 2 = (a % 2) * (a % 2) % 2 := Int.mul_emod ..
    rcases (show a % 2 = 0 ∨ a % 2 = 1 by omega) with z | z <;> rw [z] at this <;> omega
  omega
theorem p3_inverse {d : Nat} (hd : d < 1073741824) (ho : d % 2 = 1) : ∃ v, f_X3_inverseOf (lN d) = some (lN v) ∧ v < 1073741824 ∧ (d * v) % 1073741824 = 1 := by
  have st : ∀ (m : Nat) (x : Int64) (k : Int32), f_X3_inverseOf_L5w (lN d) (m + 1) x k = f_X3_inverseOf_L5 (lN d) (f_X3_inverseOf_L5w (lN d) m) x k := fun _ _ _ => rfl
  have hI : (lN d).toInt = (d : Int) := p3_lI (by omega)
  have c0 : (8 : Int) ∣ 1 - (lN d).toInt * (lN d).toInt := by rw [hI]; exact p3_odd8 (by omega)
  have c1 := p3_newt64 (o := lN d) (x := lN d) (D := 8) (D2 := 64) (K := 288230376151711744) (by decide) (by decide) c0
  have c2 := p3_newt64 (o := lN d) (D := 64) (D2 := 4096) (K := 4503599627370496) (by decide) (by decide) c1
  have c3 := p3_newt64 (o := lN d) (D := 4096) (D2 := 16777216) (K := 1099511627776) (by decide) (by decide) c2
  have c4 := p3_newt64 (o := lN d) (D := 16777216) (D2 := 281474976710656) (K := 65536) (by decide) (by decide) c3
  generalize hz : (lN d * (2 - lN d * lN d)) * (2 - lN d * (lN d * (2 - lN d * lN d))) = z2 at *
  generalize hz3 : z2 * (2 - lN d * z2) = z3 at *
  generalize hz4 : z3 * (2 - lN d * z3) = z4 at *
  obtain ⟨w1, w2⟩ := p3_andN z4
  refine ⟨(z4.toInt % 1073741824).toNat, ?_, w2, ?_⟩
  · unfold f_X3_inverseOf
    rw [show cx_N0 = 9999999995 + 1 + 1 + 1 + 1 + 1 from rfl, st]
    unfold f_X3_inverseOf_L5
    rw [if_neg (by decide), st]
    unfold f_X3_inverseOf_L5
    rw [if_neg (by decide), st]
    unfold f_X3_inverseOf_L5
    rw [if_neg (by decide), st]
    unfold f_X3_inverseOf_L5
    rw [if_neg (by decide), st]
    unfold f_X3_inverseOf_L5
    rw [if_pos (by decide), hz, hz3, hz4, w1]
  · obtain ⟨q, hq⟩ := c4
    rw [hI] at hq
    obtain ⟨t, ht⟩ : ∃ t, z4.toInt = ((z4.toInt % 1073741824).toNat : Int) + 1073741824 * t := ⟨z4.toInt / 1073741824, by omega⟩
    generalize (z4.toInt % 1073741824).toNat = v at *
    rw [ht, Int.mul_add, Int.mul_left_comm] at hq
    have e : ((d * v : Nat) : Int) = (d : Int) * (v : Int) := Int.natCast_mul d v
    omega
theorem p3_vI_mul : ∀ (n : Nat) (c : Int) (a : Nat → Int), p3_vI n (fun k => c * a k) = c * p3_vI n a := by
  intro n
  induction n with
  | zero => intro c a; show (0 : Int) = c * 0; omega
  | succ n ih =>
    intro c a
    rw [p3_vI, p3_vI, ih c (fun k => a (k + 1)), Int.mul_add, Int.mul_left_comm c]
/-- the next digit of the quotient -/
theorem p3_divD {r y Q v : Nat} {R : Nat → Nat} (hR : p3_vl (r + 1) R = (y * Q) % 1073741824 ^ (r + 1)) (h0 : R 0 < 1073741824) (hv : (y * v) % 1073741824 = 1) : (R 0 * v) % 1073741824 = Q % 1073741824 := by
  have h1 : R 0 = (y * Q) % 1073741824 := by
    have e : p3_vl (r + 1) R % 1073741824 = R 0 := by
      rw [p3_vl]
      show (R 0 + 1073741824 * _) % 1073741824 = _
      omega
    rw [← e, hR, p3_Ps, Nat.mod_mul_right_mod]
  rw [h1, Nat.mod_mul_mod, Nat.mul_right_comm, ← Nat.mod_mul_mod, hv, Nat.one_mul]
/-- what is left of it -/
theorem p3_divC {r y Q : Nat} {R o : Nat → Nat} {c : Int} (hR : p3_vl (r + 1) R = (y * Q) % 1073741824 ^ (r + 1)) (ho : ∀ t, t < r + 1 → o t < 1073741824) (e : p3_vI (r + 1) (fun t => (R t : Int) - ((Q % 1073741824 : Nat) : Int) * (p3_dg y t : Int)) = (p3_vl (r + 1) o : Int) + c * (1073741824 ^ (r + 1) : Nat)) : o 0 = 0 ∧ p3_vl r (fun t => o (t + 1)) = (y * (Q / 1073741824)) % 1073741824 ^ r := by
  rw [p3_vI_sub, p3_vI_mul, p3_vI_nat, p3_vI_nat, hR] at e
  have h0 := ho 0 (by omega)
  have hlt := p3_vl_lt r (fun t => o (t + 1)) (fun t ht => ho (t + 1) (by omega))
  have hvo : p3_vl (r + 1) o = o 0 + 1073741824 * p3_vl r (fun t => o (t + 1)) := rfl
  rw [hvo] at e
  generalize p3_vl r (fun t => o (t + 1)) = w at *
  generalize o 0 = o0 at *
  have hY := p3_vl_dg (r + 1) y
  rw [p3_Ps] at *
  have hM := p3_Ppos r
  generalize 1073741824 ^ r = M at *
  generalize hA : y * Q / (1073741824 * M) = A
  have hE := Nat.div_add_mod (y * Q) (1073741824 * M)
  rw [hA] at hE
  generalize y * Q % (1073741824 * M) = vR at *
  generalize hBB : y / (1073741824 * M) = B at *
  generalize p3_vl (r + 1) (p3_dg y) = vY at *
  generalize hdg : Q % 1073741824 = dgt at *
  generalize hq : Q / 1073741824 = q at *
  have hQ : Q = dgt + 1073741824 * q := by omega
  -- in Int
  have i1 : (y : Int) * (Q : Int) = (dgt : Int) * (y : Int) + 1073741824 * ((y : Int) * (q : Int)) := by
    rw [hQ, Int.natCast_add, Int.natCast_mul, Int.mul_add, Int.mul_comm (y : Int) (dgt : Int), Int.mul_left_comm]
    rfl
  have i2 : 1073741824 * ((M : Int) * (A : Int)) + (vR : Int) = (y : Int) * (Q : Int) := by
    rw [← Int.natCast_mul y Q, ← hE, Int.natCast_add, Int.natCast_mul, Int.natCast_mul, Int.mul_assoc]
    rfl
  have i3 : (vY : Int) = (y : Int) - 1073741824 * ((B : Int) * (M : Int)) := by
    have : (y : Int) = ((vY + B * (1073741824 * M) : Nat) : Int) := by rw [hY]
    rw [Int.natCast_add, Int.natCast_mul, Int.natCast_mul, Int.mul_left_comm] at this
    have z : ((1073741824 : Nat) : Int) = 1073741824 := rfl
    rw [z] at this
    omega
  have i4 : (dgt : Int) * (vY : Int) = (dgt : Int) * (y : Int) - 1073741824 * ((M : Int) * ((dgt : Int) * (B : Int))) := by
    rw [i3, Int.mul_sub, Int.mul_left_comm (dgt : Int) 1073741824, ← Int.mul_assoc (dgt : Int) (B : Int), Int.mul_comm ((dgt : Int) * (B : Int))]
  have i5 : c * ((1073741824 * M : Nat) : Int) = 1073741824 * ((M : Int) * c) := by
    rw [Int.natCast_mul, Int.mul_left_comm, Int.mul_comm c]
    rfl
  rw [i4, i5] at e
  have i6 : (M : Int) * ((dgt : Int) * (B : Int) - (A : Int) - c) = (M : Int) * ((dgt : Int) * (B : Int)) - (M : Int) * (A : Int) - (M : Int) * c := by rw [Int.mul_sub, Int.mul_sub]
  generalize (M : Int) * ((dgt : Int) * (B : Int)) = g1 at *
  generalize (M : Int) * (A : Int) = g2 at *
  generalize (M : Int) * c = g3 at *
  have k1 : o0 = 0 := by omega
  refine ⟨k1, ?_⟩
  have k2 : (w : Int) = (y : Int) * (q : Int) + (M : Int) * ((dgt : Int) * (B : Int) - (A : Int) - c) := by rw [i6]; omega
  have k3 : (w : Int) % (M : Int) = ((y : Int) * (q : Int)) % (M : Int) := by rw [k2, Int.add_mul_emod_self_left]
  rw [← Int.natCast_mul, ← Int.natCast_emod, ← Int.natCast_emod] at k3
  have k4 : w % M = (y * q) % M := by omega
  rw [← k4, Nat.mod_eq_of_lt hlt]
theorem p3_divI (n i n' j k : Nat) (y : Nat → Int64) (dgt : Nat) (hd : dgt < 1073741824) (rc : (Nat → Int64) → Int32 → Option (Nat → Int64)) (hn : i * 4 + 4 ≤ n) (hN : n < 2 ^ 31) (hn' : j * 4 + 4 ≤ n') (hN' : n' < 2 ^ 31) : ∀ (u t0 m : Nat) (a : Nat → Int64) (R Y : Nat → Nat) (c : Int64), k + t0 + u = 4 → k < 4 → u < m → (∀ t, t < u → a (i * 4 + k + t0 + t) = lN (R t) ∧ R t < 1073741824) → (∀ t, t < u → y (j * 4 + t0 + t) = lN (Y t) ∧ Y t < 1073741824) → (-2147483648 ≤ c.toInt ∧ c.toInt ≤ 2147483648) → ∃ (a' : Nat → Int64) (o : Nat → Nat) (c' : Int), f_X3_divide_L42w n (nI i) n' y (nI j) (nI k) rc (lN dgt) m a c (nI t0) = rc (vp_updL a' (i * 4 + k) (lN dgt)) (nI (k + 1)) ∧ (∀ j, (j < i * 4 + k + t0 ∨ i * 4 + 4 ≤ j) → a' j = a j) ∧ (∀ t, t < u → a' (i * 4 + k + t0 + t) = lN (o t) ∧ o t < 1073741824) ∧ c.toInt + p3_vI u (fun t => (R t : Int) - (dgt : Int) * (Y t : Int)) = (p3_vl u o : Int) + c' * (1073741824 ^ u : Nat) := by
  intro u
  induction u with
  | zero =>
    intro t0 m a R Y c h1 h2 h3 h4 h5 h6
    obtain ⟨m, rfl⟩ : ∃ j, m = j + 1 := ⟨m - 1, by omega⟩
    refine ⟨a, fun _ => 0, c.toInt, ?_, fun j _ => rfl, fun t h => by omega, by simp [p3_vI, p3_vl]⟩
    show f_X3_divide_L42 n (nI i) n' y (nI j) (nI k) rc (lN dgt) (f_X3_divide_L42w n (nI i) n' y (nI j) (nI k) rc (lN dgt) m) a c (nI t0) = _
    unfold f_X3_divide_L42
    rw [show (4 : Int32) = nI 4 from rfl, nI_add, if_pos (nI_le (by omega) (by omega)), pk_mul, nI_add, p2_gd (p2_ib (by omega) hN), p2_ix (by omega), nI_1]
    rfl
  | succ u ih =>
    intro t0 m a R Y c h1 h2 h3 h4 h5 h6
    obtain ⟨m, rfl⟩ : ∃ j, m = j + 1 := ⟨m - 1, by omega⟩
    obtain ⟨q1, q2⟩ := h4 0 (by omega)
    obtain ⟨q3, q4⟩ := h5 0 (by omega)
    have q1 : a (i * 4 + k + t0) = lN (R 0) := q1
    have q3 : y (j * 4 + t0) = lN (Y 0) := q3
    have m1 : dgt * Y 0 < 1073741824 * 1073741824 := Nat.mul_lt_mul_of_lt_of_le hd (Nat.le_of_lt q4) (by decide)
    have mI : (lN (R 0) - lN dgt * lN (Y 0)).toInt = (R 0 : Int) - (dgt : Int) * (Y 0 : Int) := by
      rw [lN_mul, p3_subI, p3_lI (by omega), p3_lI (by omega), Int.natCast_mul]
      · rw [p3_lI (by omega), p3_lI (by omega)]; omega
      · rw [p3_lI (by omega), p3_lI (by omega)]; omega
    rw [← Int.natCast_mul] at mI
    have e0 : (c + (lN (R 0) - lN dgt * lN (Y 0))).toInt = c.toInt + ((R 0 : Int) - ((dgt * Y 0 : Nat) : Int)) := by rw [p3_addI (by rw [mI]; omega) (by rw [mI]; omega), mI]
    obtain ⟨w1, w2⟩ := p3_andN (c + (lN (R 0) - lN dgt * lN (Y 0)))
    have e9 : ((c + (lN (R 0) - lN dgt * lN (Y 0))) >>> (Int32.toInt64 30 &&& 63)).toInt = (c.toInt + ((R 0 : Int) - ((dgt * Y 0 : Nat) : Int))) / 1073741824 := by rw [p3_shr, e0]
    rw [e0] at w1 w2
    obtain ⟨a', o, c', g1, g2, g3, g4⟩ := ih (t0 + 1) m (vp_updL a (i * 4 + k + t0) (lN ((c.toInt + ((R 0 : Int) - ((dgt * Y 0 : Nat) : Int))) % 1073741824).toNat)) (fun t => R (t + 1)) (fun t => Y (t + 1)) ((c + (lN (R 0) - lN dgt * lN (Y 0))) >>> (Int32.toInt64 30 &&& 63)) (by omega) h2 (by omega) (fun t ht => by
      rw [p3_uLn (by omega), show i * 4 + k + (t0 + 1) + t = i * 4 + k + t0 + (t + 1) by omega]
      exact h4 (t + 1) (by omega)) (fun t ht => by
      rw [show j * 4 + (t0 + 1) + t = j * 4 + t0 + (t + 1) by omega]
      exact h5 (t + 1) (by omega)) (by rw [e9]; omega)
    refine ⟨a', p3_cons ((c.toInt + ((R 0 : Int) - ((dgt * Y 0 : Nat) : Int))) % 1073741824).toNat o, c', ?_, fun j hj => by rw [g2 j (by omega), p3_uLn (by omega)], fun t ht => ?_, ?_⟩
    · show f_X3_divide_L42 n (nI i) n' y (nI j) (nI k) rc (lN dgt) (f_X3_divide_L42w n (nI i) n' y (nI j) (nI k) rc (lN dgt) m) a c (nI t0) = _
      unfold f_X3_divide_L42
      rw [show (4 : Int32) = nI 4 from rfl, nI_add, if_neg (nI_ge (by omega) (by omega)), pk_mul, pk_mul, nI_add, nI_add, nI_add, p2_gd (p2_ib (by omega) hN), p2_gd (p2_ib (by omega) hN'), p2_ix (n := i * 4 + k + t0) (by omega), p2_ix (n := j * 4 + t0) (by omega), q1, q3, nI_1]
      simp only [cx_let]
      rw [p2_gd (p2_ib (by omega) hN), w1]
      exact g1
    · cases t with
      | zero => exact ⟨by rw [show i * 4 + k + t0 + 0 = i * 4 + k + t0 from rfl, g2 _ (by omega), p3_uLs]; rfl, w2⟩
      | succ t => rw [show i * 4 + k + t0 + (t + 1) = i * 4 + k + (t0 + 1) + t by omega]; exact g3 t (by omega)
    · rw [e9] at g4
      rw [p3_vI, p3_Ps]
      show c.toInt + ((R 0 : Int) - (dgt : Int) * (Y 0 : Int) + 1073741824 * p3_vI u (fun t => (R (t + 1) : Int) - (dgt : Int) * (Y (t + 1) : Int))) = (((((c.toInt + ((R 0 : Int) - ((dgt * Y 0 : Nat) : Int))) % 1073741824).toNat + 1073741824 * p3_vl u o : Nat)) : Int) + c' * (1073741824 * 1073741824 ^ u : Nat)
      have e5 : c' * ((1073741824 * 1073741824 ^ u : Nat) : Int) = 1073741824 * (c' * ((1073741824 ^ u : Nat) : Int)) := by
        rw [Int.natCast_mul, Int.mul_left_comm]
        rfl
      rw [e5, ← Int.natCast_mul]
      generalize c' * ((1073741824 ^ u : Nat) : Int) = z at *
      generalize dgt * Y 0 = z3 at *
      omega
theorem p3_divO (n i n' j y v : Nat) (Y : Nat → Int64) (hn : i * 4 + 4 ≤ n) (hN : n < 2 ^ 31) (hn' : j * 4 + 4 ≤ n') (hN' : n' < 2 ^ 31) (hY : ∀ t, t < 4 → Y (j * 4 + t) = lN (p3_dg y t)) (hv : v < 1073741824) (hyv : (y * v) % 1073741824 = 1) : ∀ (r k m : Nat) (a : Nat → Int64) (R : Nat → Nat) (Q : Nat), k + r = 4 → r < m → (∀ t, t < r → a (i * 4 + k + t) = lN (R t) ∧ R t < 1073741824) → p3_vl r R = (y * Q) % 1073741824 ^ r → ∃ a', f_X3_divide_L13w n (nI i) n' Y (nI j) (lN v) m a (nI k) = some a' ∧ (∀ j, (j < i * 4 + k ∨ i * 4 + 4 ≤ j) → a' j = a j) ∧ (∀ t, t < r → a' (i * 4 + k + t) = lN (p3_dg Q t)) := by
  intro r
  induction r with
  | zero =>
    intro k m a R Q h1 h2 h3 h4
    obtain ⟨m, rfl⟩ : ∃ j, m = j + 1 := ⟨m - 1, by omega⟩
    refine ⟨a, ?_, fun j _ => rfl, fun t h => by omega⟩
    show f_X3_divide_L13 n (nI i) n' Y (nI j) (lN v) (f_X3_divide_L13w n (nI i) n' Y (nI j) (lN v) m) a (nI k) = _
    unfold f_X3_divide_L13
    rw [show (4 : Int32) = nI 4 from rfl, if_pos (nI_le (by omega) (by omega))]
  | succ r ih =>
    intro k m a R Q h1 h2 h3 h4
    obtain ⟨m, rfl⟩ : ∃ j, m = j + 1 := ⟨m - 1, by omega⟩
    obtain ⟨q1, q2⟩ := h3 0 (by omega)
    have q1 : a (i * 4 + k) = lN (R 0) := q1
    have m1 : R 0 * v < 1073741824 * 1073741824 := Nat.mul_lt_mul_of_lt_of_le q2 (Nat.le_of_lt hv) (by decide)
    have hdg := p3_divD h4 q2 hyv
    obtain ⟨a1, o, c', g1, g2, g3, g4⟩ := p3_divI n i n' j k Y (Q % 1073741824) (Nat.mod_lt _ (by decide)) (f_X3_divide_L13w n (nI i) n' Y (nI j) (lN v) m) hn hN hn' hN' (r + 1) 0 cx_N0 a R (p3_dg y) 0 (by omega) (by omega) (by unfold cx_N0; omega) (fun t ht => h3 t ht) (fun t ht => ⟨hY t (by omega), p3_dg_lt y t⟩) (by decide)
    have ez : (0 : Int64).toInt = 0 := rfl
    rw [ez] at g4
    obtain ⟨k1, k2⟩ := p3_divC h4 (fun t ht => (g3 t ht).2) (by rw [← g4]; omega)
    obtain ⟨a', f1, f2, f3⟩ := ih (k + 1) m (vp_updL a1 (i * 4 + k) (lN (Q % 1073741824))) (fun t => o (t + 1)) (Q / 1073741824) (by omega) (by omega) (fun t ht => by
      rw [p3_uLn (by omega), show i * 4 + (k + 1) + t = i * 4 + k + 0 + (t + 1) by omega]
      exact g3 (t + 1) (by omega)) k2
    refine ⟨a', ?_, fun j hj => by rw [f2 j (by omega), p3_uLn (by omega), g2 j (by omega)], fun t ht => ?_⟩
    · show f_X3_divide_L13 n (nI i) n' Y (nI j) (lN v) (f_X3_divide_L13w n (nI i) n' Y (nI j) (lN v) m) a (nI k) = _
      unfold f_X3_divide_L13
      rw [show (4 : Int32) = nI 4 from rfl, if_neg (nI_ge (by omega) (by omega)), pk_mul, nI_add, p2_gd (p2_ib (by omega) hN), p2_ix (by omega), q1, lN_mul, p3_land (by omega), hdg]
      simp only [cx_let]
      exact g1.trans f1
    · cases t with
      | zero => rw [show i * 4 + k + 0 = i * 4 + k from rfl, f2 _ (by omega), p3_uLs, p3_dg_0]
      | succ t => rw [show i * 4 + k + (t + 1) = i * 4 + (k + 1) + t by omega, f3 t (by omega), p3_dg_s]
theorem p3_divide {n i n' j y q : Nat} {x Y : Nat → Int64} (hn : i * 4 + 4 ≤ n) (hN : n < 2 ^ 31) (hn' : j * 4 + 4 ≤ n') (hN' : n' < 2 ^ 31) (hx : p3_N x i (y * q)) (hY : p3_N Y j y) (ho : y % 2 = 1) : ∃ x', f_X3_divide n x (nI i) n' Y (nI j) = some x' ∧ p3_F x x' i ∧ p3_N x' i q := by
  have q1 := p3_dg_lt y 0
  obtain ⟨v, v1, v2, v3⟩ := p3_inverse q1 (by rw [p3_dg_0]; omega)
  have v4 : (y * v) % 1073741824 = 1 := by rw [← v3, p3_dg_0, Nat.mod_mul_mod]
  obtain ⟨a', g1, g2, g3⟩ := p3_divO n i n' j y v Y hn hN hn' hN' hY.2 v2 v4 4 0 cx_N0 x (p3_dg (y * q)) q (by omega) (by unfold cx_N0; omega) (fun t ht => ⟨hx.2 t ht, p3_dg_lt _ t⟩) (by rw [p3_vl_dg2 hx.1, Nat.mod_eq_of_lt hx.1])
  refine ⟨a', ?_, fun j hj => g2 j (by omega), ?_, fun k hk => g3 k hk⟩
  · unfold f_X3_divide
    have e : Y (j * 4) = lN (p3_dg y 0) := hY.2 0 (by omega)
    rw [show (4 : Int32) = nI 4 from rfl, pk_mul, p2_gd (p2_ib (by omega) hN'), p2_ix (by omega), e, v1, Option.bind_some]
    exact g1
  · have h1 := hx.1
    have : 1 * q ≤ y * q := Nat.mul_le_mul_right q (by omega)
    omega
