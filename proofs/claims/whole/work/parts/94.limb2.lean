/-! carrying: digits of any sign are brought back -/
def p3_vI : Nat → (Nat → Int) → Int
  | 0, _ => 0
  | n + 1, o => o 0 + 1073741824 * p3_vI n (fun k => o (k + 1))
theorem p3_vI_nat : ∀ (n : Nat) (o : Nat → Nat), p3_vI n (fun k => (o k : Int)) = (p3_vl n o : Int) := by
  intro n
  induction n with
  | zero => intro o; rfl
  | succ n ih =>
    intro o
    rw [p3_vI, p3_vl, ih (fun k => o (k + 1))]
    omega
theorem p3_vI_congr : ∀ (n : Nat) (o o' : Nat → Int), (∀ k, k < n → o k = o' k) → p3_vI n o = p3_vI n o' := by
  intro n
  induction n with
  | zero => intro o o' _; rfl
  | succ n ih =>
    intro o o' h
    rw [p3_vI, p3_vI, h 0 (by omega), ih _ _ (fun k hk => h (k + 1) (by omega))]
theorem p3_addI {x y : Int64} (h1 : -9223372036854775808 ≤ x.toInt + y.toInt) (h2 : x.toInt + y.toInt < 9223372036854775808) : (x + y).toInt = x.toInt + y.toInt := by
  rw [Int64.toInt_add]
  exact Int.bmod_eq_of_le (by omega) (by omega)
theorem p3_subI {x y : Int64} (h1 : -9223372036854775808 ≤ x.toInt - y.toInt) (h2 : x.toInt - y.toInt < 9223372036854775808) : (x - y).toInt = x.toInt - y.toInt := by
  rw [Int64.toInt_sub]
  exact Int.bmod_eq_of_le (by omega) (by omega)
theorem p3_mulI {x y : Int64} (h1 : -9223372036854775808 ≤ x.toInt * y.toInt) (h2 : x.toInt * y.toInt < 9223372036854775808) : (x * y).toInt = x.toInt * y.toInt := by
  rw [Int64.toInt_mul]
  exact Int.bmod_eq_of_le (by omega) (by omega)
/-- a cut number is a Nat below the base -/
theorem p3_andN (v : Int64) : v &&& 1073741823 = lN (v.toInt % 1073741824).toNat ∧ (v.toInt % 1073741824).toNat < 1073741824 := by
  refine ⟨Int64.toInt_inj.mp ?_, by omega⟩
  rw [p3_and, p3_lI (by omega)]
  omega
def p3_cons (d : Nat) (o : Nat → Nat) : Nat → Nat
  | 0 => d
  | k + 1 => o k
theorem p3_carryL (n i : Nat) (hn : i * 4 + 4 ≤ n) (hN : n < 2 ^ 31) : ∀ (r k m : Nat) (a : Nat → Int64) (s : Nat → Int) (c : Int64), k + r = 4 → r < m → (∀ t, t < r → (a (i * 4 + k + t)).toInt = s t ∧ -2305843009213693952 ≤ s t ∧ s t ≤ 2305843009213693952) → (-2305843009213693952 ≤ c.toInt ∧ c.toInt ≤ 2305843009213693952) → ∃ (a' : Nat → Int64) (o : Nat → Nat) (c' : Int), f_X3_carry_L7w n (nI i) m a c (nI (i * 4 + k)) = some a' ∧ (∀ j, (j < i * 4 + k ∨ i * 4 + 4 ≤ j) → a' j = a j) ∧ (∀ t, t < r → a' (i * 4 + k + t) = lN (o t) ∧ o t < 1073741824) ∧ c.toInt + p3_vI r s = (p3_vl r o : Int) + c' * (1073741824 ^ r : Nat) := by
  intro r
  induction r with
  | zero =>
    intro k m a s c h1 h2 h3 h4
    obtain ⟨m, rfl⟩ : ∃ j, m = j + 1 := ⟨m - 1, by omega⟩
    refine ⟨a, fun _ => 0, c.toInt, ?_, fun j _ => rfl, fun t h => by omega, by simp [p3_vI, p3_vl]⟩
    show f_X3_carry_L7 n (nI i) (f_X3_carry_L7w n (nI i) m) a c (nI (i * 4 + k)) = _
    unfold f_X3_carry_L7
    rw [show (4 : Int32) = nI 4 from rfl, pk_mul, nI_add, if_pos (nI_le (by omega) (by omega))]
  | succ r ih =>
    intro k m a s c h1 h2 h3 h4
    obtain ⟨m, rfl⟩ : ∃ j, m = j + 1 := ⟨m - 1, by omega⟩
    obtain ⟨q1, q2, q3⟩ := h3 0 (by omega)
    have q1 : (a (i * 4 + k)).toInt = s 0 := q1
    have e0 : (c + a (i * 4 + k)).toInt = c.toInt + s 0 := by rw [p3_addI (by omega) (by omega), q1]
    obtain ⟨d, hd, hd2⟩ : ∃ d : Nat, (c + a (i * 4 + k)) &&& 1073741823 = lN d ∧ d < 1073741824 ∧ (d : Int) = (c.toInt + s 0) % 1073741824 := by
      obtain ⟨w1, w2⟩ := p3_andN (c + a (i * 4 + k))
      exact ⟨_, w1, w2, by rw [e0]; omega⟩
    have e9 : ((c + a (i * 4 + k)) >>> (Int32.toInt64 30 &&& 63)).toInt = (c.toInt + s 0) / 1073741824 := by rw [p3_shr, e0]
    obtain ⟨a', o, c', g1, g2, g3, g4⟩ := ih (k + 1) m (vp_updL a (i * 4 + k) (lN d)) (fun t => s (t + 1)) ((c + a (i * 4 + k)) >>> (Int32.toInt64 30 &&& 63)) (by omega) (by omega) (fun t ht => by
      rw [p3_uLn (by omega), show i * 4 + (k + 1) + t = i * 4 + k + (t + 1) by omega]
      exact h3 (t + 1) (by omega)) (by rw [e9]; omega)
    refine ⟨a', p3_cons d o, c', ?_, fun j hj => by rw [g2 j (by omega), p3_uLn (by omega)], fun t ht => ?_, ?_⟩
    · show f_X3_carry_L7 n (nI i) (f_X3_carry_L7w n (nI i) m) a c (nI (i * 4 + k)) = _
      unfold f_X3_carry_L7
      rw [show (4 : Int32) = nI 4 from rfl, pk_mul, nI_add, if_neg (nI_ge (by omega) (by omega)), p2_gd (p2_ib (by omega) hN), p2_ix (by omega), nI_1]
      simp only [cx_let]
      rw [p2_gd (p2_ib (by omega) hN), hd]
      exact g1
    · cases t with
      | zero => exact ⟨by rw [show i * 4 + k + 0 = i * 4 + k from rfl, g2 _ (by omega), p3_uLs]; rfl, hd2.1⟩
      | succ t => rw [show i * 4 + k + (t + 1) = i * 4 + (k + 1) + t by omega]; exact g3 t (by omega)
    · rw [e9] at g4
      rw [p3_vI, p3_Ps]
      show c.toInt + (s 0 + 1073741824 * p3_vI r (fun k => s (k + 1))) = ((d + 1073741824 * p3_vl r o : Nat) : Int) + c' * (1073741824 * 1073741824 ^ r : Nat)
      have e5 : c' * ((1073741824 * 1073741824 ^ r : Nat) : Int) = 1073741824 * (c' * ((1073741824 ^ r : Nat) : Int)) := by
        rw [Int.natCast_mul, Int.mul_left_comm]
        rfl
      rw [e5]
      generalize c' * ((1073741824 ^ r : Nat) : Int) = z at *
      omega
/-- a value in reach is what is left of the digits -/
theorem p3_fit {r V : Nat} {o : Nat → Nat} {c : Int} (ho : ∀ t, t < r → o t < 1073741824) (hV : V < 1073741824 ^ r) (e : (V : Int) = (p3_vl r o : Int) + c * (1073741824 ^ r : Nat)) : p3_vl r o = V := by
  have h1 := p3_vl_lt r o ho
  generalize p3_vl r o = w at *
  have h2 := p3_Ppos r
  generalize 1073741824 ^ r = Q at *
  rcases Int.lt_trichotomy c 0 with h | h | h
  · exfalso
    have : c * (Q : Int) ≤ (-1) * (Q : Int) := Int.mul_le_mul_of_nonneg_right (by omega) (by omega)
    omega
  · subst h
    omega
  · exfalso
    have : 1 * (Q : Int) ≤ c * (Q : Int) := Int.mul_le_mul_of_nonneg_right (by omega) (by omega)
    omega
theorem p3_carryI {n i V : Nat} {x : Nat → Int64} {s : Nat → Int} (hn : i * 4 + 4 ≤ n) (hN : n < 2 ^ 31) (h : ∀ t, t < 4 → (x (i * 4 + t)).toInt = s t ∧ -2305843009213693952 ≤ s t ∧ s t ≤ 2305843009213693952) (hV : V < 1073741824 ^ 4) (e : p3_vI 4 s = (V : Int)) : ∃ x', f_X3_carry n x (nI i) = some x' ∧ p3_F x x' i ∧ p3_N x' i V := by
  obtain ⟨a', o, c', g1, g2, g3, g4⟩ := p3_carryL n i hn hN 4 0 cx_N0 x s 0 (by omega) (by unfold cx_N0; omega) (fun t ht => h t ht) (by have ez : (0 : Int64).toInt = 0 := rfl; rw [ez]; omega)
  refine ⟨a', ?_, fun j hj => g2 j (by omega), hV, fun k hk => ?_⟩
  · unfold f_X3_carry
    rw [show (4 : Int32) = nI 4 from rfl, pk_mul]
    rw [show i * 4 + 0 = i * 4 from rfl] at g1
    exact g1
  · have ez : (0 : Int64).toInt = 0 := rfl
    rw [ez, e] at g4
    have g5 : p3_vl 4 o = V := p3_fit (c := c') (fun t ht => (g3 t ht).2) hV (by rw [← g4, Int.zero_add])
    rw [p3_dg_of 4 o 0 V (fun t ht => (g3 t ht).2) (by rw [Nat.zero_mul, Nat.add_zero]; exact g5) k hk]
    rw [show i * 4 + k = i * 4 + 0 + k from rfl]
    exact (g3 k hk).1
theorem p3_carry {n i V M : Nat} {x : Nat → Int64} (hn : i * 4 + 4 ≤ n) (hN : n < 2 ^ 31) (h : p3_U x i V M) (hM : M ≤ 2305843009213693952) (hV : V < 1073741824 ^ 4) : ∃ x', f_X3_carry n x (nI i) = some x' ∧ p3_F x x' i ∧ p3_N x' i V := by
  obtain ⟨s, h1, h2⟩ := h
  refine p3_carryI (s := fun k => (s k : Int)) hn hN (fun t ht => ?_) hV (by rw [p3_vI_nat, h2])
  have := (h1 t ht).2
  rw [(h1 t ht).1, p3_lI (by omega)]
  exact ⟨rfl, by omega, by omega⟩
/-- subtract -/
theorem p3_subL (n i n' j : Nat) (y : Nat → Int64) (hn : i * 4 + 4 ≤ n) (hN : n < 2 ^ 31) (hn' : j * 4 + 4 ≤ n') (hN' : n' < 2 ^ 31) : ∀ (r k m : Nat) (a : Nat → Int64), k + r = 4 → r < m → ∃ a', f_X3_subtract_L3w n (nI i) n' y (nI j) m a (nI k) = f_X3_carry n a' (nI i) ∧ (∀ t, (t < i * 4 + k ∨ i * 4 + 4 ≤ t) → a' t = a t) ∧ (∀ t, k ≤ t → t < 4 → a' (i * 4 + t) = a (i * 4 + t) - y (j * 4 + t)) := by
  intro r
  induction r with
  | zero =>
    intro k m a h1 h2
    obtain ⟨m, rfl⟩ : ∃ j, m = j + 1 := ⟨m - 1, by omega⟩
    refine ⟨a, ?_, fun j _ => rfl, fun t h h' => by omega⟩
    show f_X3_subtract_L3 n (nI i) n' y (nI j) (f_X3_subtract_L3w n (nI i) n' y (nI j) m) a (nI k) = _
    unfold f_X3_subtract_L3
    rw [show (4 : Int32) = nI 4 from rfl, if_pos (nI_le (by omega) (by omega))]
    cases f_X3_carry n a (nI i) <;> rfl
  | succ r ih =>
    intro k m a h1 h2
    obtain ⟨m, rfl⟩ : ∃ j, m = j + 1 := ⟨m - 1, by omega⟩
    obtain ⟨a', e1, e2, e3⟩ := ih (k + 1) m (vp_updL a (i * 4 + k) (a (i * 4 + k) - y (j * 4 + k))) (by omega) (by omega)
    refine ⟨a', ?_, fun t ht => by rw [e2 t (by omega), p3_uLn (by omega)], fun t h h' => ?_⟩
    · show f_X3_subtract_L3 n (nI i) n' y (nI j) (f_X3_subtract_L3w n (nI i) n' y (nI j) m) a (nI k) = _
      unfold f_X3_subtract_L3
      rw [show (4 : Int32) = nI 4 from rfl, if_neg (nI_ge (by omega) (by omega)), pk_mul, pk_mul, nI_add, nI_add, p2_gd (p2_ib (by omega) hN), p2_gd (p2_ib (by omega) hN'), p2_gd (p2_ib (by omega) hN), p2_ix (n := i * 4 + k) (by omega), p2_ix (n := j * 4 + k) (by omega), nI_1]
      exact e1
    · by_cases ht : t = k
      · subst ht
        rw [e2 _ (by omega), p3_uLs]
      · rw [e3 t (by omega) h', p3_uLn (by omega)]
theorem p3_vI_sub : ∀ (n : Nat) (a b : Nat → Int), p3_vI n (fun k => a k - b k) = p3_vI n a - p3_vI n b := by
  intro n
  induction n with
  | zero => intro a b; rfl
  | succ n ih =>
    intro a b
    rw [p3_vI, p3_vI, p3_vI, ih (fun k => a (k + 1)) (fun k => b (k + 1))]
    omega
theorem p3_subtract {n i n' j u v : Nat} {x y : Nat → Int64} (hn : i * 4 + 4 ≤ n) (hN : n < 2 ^ 31) (hn' : j * 4 + 4 ≤ n') (hN' : n' < 2 ^ 31) (hx : p3_N x i u) (hy : p3_N y j v) (h : v ≤ u) : ∃ x', f_X3_subtract n x (nI i) n' y (nI j) = some x' ∧ p3_F x x' i ∧ p3_N x' i (u - v) := by
  obtain ⟨a', e1, e2, e3⟩ := p3_subL n i n' j y hn hN hn' hN' 4 0 cx_N0 x (by omega) (by unfold cx_N0; omega)
  obtain ⟨x', g1, g2, g3⟩ := p3_carryI (V := u - v) (x := a') (s := fun k => (p3_dg u k : Int) - (p3_dg v k : Int)) hn hN (fun t ht => by
    have q1 := p3_dg_lt u t
    have q2 := p3_dg_lt v t
    rw [e3 t (by omega) ht, hx.2 t ht, hy.2 t ht, p3_subI, p3_lI (by omega), p3_lI (by omega)]
    · exact ⟨rfl, by omega, by omega⟩
    · rw [p3_lI (by omega), p3_lI (by omega)]; omega
    · rw [p3_lI (by omega), p3_lI (by omega)]; omega) (by have := hx.1; omega) (by rw [p3_vI_sub, p3_vI_nat 4 (p3_dg u), p3_vI_nat 4 (p3_dg v), p3_vl_dg2 hx.1, p3_vl_dg2 hy.1]; omega)
  exact ⟨x', e1.trans g1, fun t ht => (g2 t ht).trans (e2 t (by omega)), g3⟩
/-- multiply -/
theorem p3_mulL (n i n' j : Nat) (y : Nat → Int64) (lo hi : Nat) (hlo : lo < 1073741824) (hhi : hi < 1073741824) (hn : i * 4 + 4 ≤ n) (hN : n < 2 ^ 31) (hn' : j * 4 + 4 ≤ n') (hN' : n' < 2 ^ 31) : ∀ (r k m : Nat) (a : Nat → Int64) (d : Nat → Nat) (c b : Nat), k + r = 4 → r < m → (∀ t, t < r → y (j * 4 + k + t) = lN (d t) ∧ d t < 1073741824) → c < 2 ^ 61 → b < 1073741824 → ∃ (a' : Nat → Int64) (o : Nat → Nat) (c' : Nat), f_X3_multiply_L24w n (nI i) n' y (nI j) (lN lo) (lN hi) m a (lN c) (lN b) (nI k) = some a' ∧ (∀ j, (j < i * 4 + k ∨ i * 4 + 4 ≤ j) → a' j = a j) ∧ (∀ t, t < r → a' (i * 4 + k + t) = lN (o t) ∧ o t < 1073741824) ∧ c + p3_vl r (fun t => d t * lo + p3_cons b d t * hi) = p3_vl r o + c' * 1073741824 ^ r := by
  intro r
  induction r with
  | zero =>
    intro k m a d c b h1 h2 h3 h4 h5
    obtain ⟨m, rfl⟩ : ∃ j, m = j + 1 := ⟨m - 1, by omega⟩
    refine ⟨a, fun _ => 0, c, ?_, fun j _ => rfl, fun t h => by omega, by simp [p3_vl]⟩
    show f_X3_multiply_L24 n (nI i) n' y (nI j) (lN lo) (lN hi) (f_X3_multiply_L24w n (nI i) n' y (nI j) (lN lo) (lN hi) m) a (lN c) (lN b) (nI k) = _
    unfold f_X3_multiply_L24
    rw [show (4 : Int32) = nI 4 from rfl, if_pos (nI_le (by omega) (by omega))]
  | succ r ih =>
    intro k m a d c b h1 h2 h3 h4 h5
    obtain ⟨m, rfl⟩ : ∃ j, m = j + 1 := ⟨m - 1, by omega⟩
    obtain ⟨q1, q2⟩ := h3 0 (by omega)
    have q1 : y (j * 4 + k) = lN (d 0) := q1
    have m1 : d 0 * lo < 1073741824 * 1073741824 := Nat.mul_lt_mul_of_lt_of_le q2 (Nat.le_of_lt hlo) (by decide)
    have m2 : b * hi < 1073741824 * 1073741824 := Nat.mul_lt_mul_of_lt_of_le h5 (Nat.le_of_lt hhi) (by decide)
    obtain ⟨a', o, c', g1, g2, g3, g4⟩ := ih (k + 1) m (vp_updL a (i * 4 + k) (lN ((c + (d 0 * lo + b * hi)) % 1073741824))) (fun t => d (t + 1)) ((c + (d 0 * lo + b * hi)) / 1073741824) (d 0) (by omega) (by omega) (fun t ht => by
      rw [show j * 4 + (k + 1) + t = j * 4 + k + (t + 1) by omega]
      exact h3 (t + 1) (by omega)) (by omega) q2
    refine ⟨a', p3_cons ((c + (d 0 * lo + b * hi)) % 1073741824) o, c', ?_, fun j hj => by rw [g2 j (by omega), p3_uLn (by omega)], fun t ht => ?_, ?_⟩
    · show f_X3_multiply_L24 n (nI i) n' y (nI j) (lN lo) (lN hi) (f_X3_multiply_L24w n (nI i) n' y (nI j) (lN lo) (lN hi) m) a (lN c) (lN b) (nI k) = _
      unfold f_X3_multiply_L24
      rw [show (4 : Int32) = nI 4 from rfl, if_neg (nI_ge (by omega) (by omega)), pk_mul, pk_mul, nI_add, nI_add, p2_gd (p2_ib (by omega) hN'), p2_ix (n := j * 4 + k) (by omega), p2_ix (n := i * 4 + k) (by omega), q1, nI_1]
      simp only [cx_let]
      rw [p2_gd (p2_ib (by omega) hN), lN_mul, lN_mul, lN_add, lN_add, p3_land (by omega), p3_lshr (by omega)]
      exact g1
    · cases t with
      | zero => exact ⟨by rw [show i * 4 + k + 0 = i * 4 + k from rfl, g2 _ (by omega), p3_uLs]; rfl, Nat.mod_lt _ (by decide)⟩
      | succ t => rw [show i * 4 + k + (t + 1) = i * 4 + (k + 1) + t by omega]; exact g3 t (by omega)
    · rw [p3_vl, p3_Ps]
      have e5 : p3_vl r (fun k => d (k + 1) * lo + p3_cons b d (k + 1) * hi) = p3_vl r (fun t => d (t + 1) * lo + p3_cons (d 0) (fun t => d (t + 1)) t * hi) := p3_vl_congr r _ _ (fun k _ => by cases k <;> rfl)
      rw [e5]
      show c + (d 0 * lo + b * hi + 1073741824 * _) = (c + (d 0 * lo + b * hi)) % 1073741824 + 1073741824 * p3_vl r o + c' * (1073741824 * 1073741824 ^ r)
      rw [Nat.mul_left_comm]
      generalize p3_vl r (fun t => d (t + 1) * lo + p3_cons (d 0) (fun t => d (t + 1)) t * hi) = z1 at *
      generalize c' * 1073741824 ^ r = z2 at *
      omega
theorem p3_mulV {v lo hi : Nat} (hv : v < 1073741824 ^ 4) : p3_vl 4 (fun t => p3_dg v t * lo + p3_cons 0 (p3_dg v) t * hi) + p3_dg v 3 * hi * 1073741824 ^ 4 = v * (lo + 1073741824 * hi) := by
  have e : v = p3_dg v 0 + 1073741824 * (p3_dg v 1 + 1073741824 * (p3_dg v 2 + 1073741824 * (p3_dg v 3 + 1073741824 * 0))) := (p3_vl_dg2 hv).symm
  show (p3_dg v 0 * lo + 0 * hi) + 1073741824 * ((p3_dg v 1 * lo + p3_dg v 0 * hi) + 1073741824 * ((p3_dg v 2 * lo + p3_dg v 1 * hi) + 1073741824 * ((p3_dg v 3 * lo + p3_dg v 2 * hi) + 1073741824 * 0))) + p3_dg v 3 * hi * (1073741824 ^ 4) = v * (lo + 1073741824 * hi)
  have e2 : v * (lo + 1073741824 * hi) = v * lo + 1073741824 * (v * hi) := by rw [Nat.mul_add, Nat.mul_left_comm]
  have e3 : ∀ c, v * c = p3_dg v 0 * c + 1073741824 * (p3_dg v 1 * c + 1073741824 * (p3_dg v 2 * c + 1073741824 * (p3_dg v 3 * c))) := fun c => by
    conv => lhs; rw [e]
    simp only [Nat.add_mul, Nat.mul_assoc, Nat.mul_zero, Nat.add_zero]
  rw [e2, e3 lo, e3 hi]
  omega
theorem p3_multiply {n i n' j v mm : Nat} {x y : Nat → Int64} (hn : i * 4 + 4 ≤ n) (hN : n < 2 ^ 31) (hn' : j * 4 + 4 ≤ n') (hN' : n' < 2 ^ 31) (hy : p3_N y j v) (hm : mm < 2 ^ 60) (hv : v * mm < 1073741824 ^ 4) : ∃ x', f_X3_multiply n x (nI i) n' y (nI j) (lN mm) = some x' ∧ p3_F x x' i ∧ p3_N x' i (v * mm) := by
  obtain ⟨a', o, c', g1, g2, g3, g4⟩ := p3_mulL n i n' j y (mm % 1073741824) (mm / 1073741824) (by omega) (by omega) hn hN hn' hN' 4 0 cx_N0 x (p3_dg v) 0 0 (by omega) (by unfold cx_N0; omega) (fun t ht => ⟨hy.2 t ht, p3_dg_lt v t⟩) (by decide) (by decide)
  refine ⟨a', ?_, fun j hj => g2 j (by omega), hv, fun k hk => ?_⟩
  · unfold f_X3_multiply
    rw [p3_land (by omega), p3_lshr (by omega)]
    exact g1
  · have e := p3_mulV (lo := mm % 1073741824) (hi := mm / 1073741824) hy.1
    rw [Nat.mod_add_div] at e
    rw [p3_dg_of 4 o (c' + p3_dg v 3 * (mm / 1073741824)) (v * mm) (fun t ht => (g3 t ht).2) (by rw [Nat.add_mul, ← Nat.add_assoc, ← g4, Nat.zero_add]; exact e) k hk]
    exact (g3 k hk).1
