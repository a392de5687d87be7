/-- multiply inside one row -/
theorem p3_mulLx (n i j : Nat) (lo hi : Nat) (hlo : lo < 1073741824) (hhi : hi < 1073741824) (hn : i * 4 + 4 ≤ n) (hN : n < 2 ^ 31) (hn' : j * 4 + 4 ≤ n) : ∀ (r k m : Nat) (a : Nat → Int64) (d : Nat → Nat) (c b : Nat), k + r = 4 → r < m → (∀ t, t < r → a (j * 4 + k + t) = lN (d t) ∧ d t < 1073741824) → c < 2 ^ 61 → b < 1073741824 → ∃ (a' : Nat → Int64) (o : Nat → Nat) (c' : Nat), f_X3_multiply_x_e0_L24w n (nI i) (nI j) (lN lo) (lN hi) m a (lN c) (lN b) (nI k) = some a' ∧ (∀ j, (j < i * 4 + k ∨ i * 4 + 4 ≤ j) → a' j = a j) ∧ (∀ t, t < r → a' (i * 4 + k + t) = lN (o t) ∧ o t < 1073741824) ∧ c + p3_vl r (fun t => d t * lo + p3_cons b d t * hi) = p3_vl r o + c' * 1073741824 ^ r := by
  intro r
  induction r with
  | zero =>
    intro k m a d c b h1 h2 h3 h4 h5
    obtain ⟨m, rfl⟩ : ∃ j, m = j + 1 := ⟨m - 1, by omega⟩
    refine ⟨a, fun _ => 0, c, ?_, fun j _ => rfl, fun t h => by omega, by simp [p3_vl]⟩
    show f_X3_multiply_x_e0_L24 n (nI i) (nI j) (lN lo) (lN hi) (f_X3_multiply_x_e0_L24w n (nI i) (nI j) (lN lo) (lN hi) m) a (lN c) (lN b) (nI k) = _
    unfold f_X3_multiply_x_e0_L24
    rw [show (4 : Int32) = nI 4 from rfl, if_pos (nI_le (by omega) (by omega))]
  | succ r ih =>
    intro k m a d c b h1 h2 h3 h4 h5
    obtain ⟨m, rfl⟩ : ∃ j, m = j + 1 := ⟨m - 1, by omega⟩
    obtain ⟨q1, q2⟩ := h3 0 (by omega)
    have q1 : a (j * 4 + k) = lN (d 0) := q1
    have m1 : d 0 * lo < 1073741824 * 1073741824 := Nat.mul_lt_mul_of_lt_of_le q2 (Nat.le_of_lt hlo) (by decide)
    have m2 : b * hi < 1073741824 * 1073741824 := Nat.mul_lt_mul_of_lt_of_le h5 (Nat.le_of_lt hhi) (by decide)
    obtain ⟨a', o, c', g1, g2, g3, g4⟩ := ih (k + 1) m (vp_updL a (i * 4 + k) (lN ((c + (d 0 * lo + b * hi)) % 1073741824))) (fun t => d (t + 1)) ((c + (d 0 * lo + b * hi)) / 1073741824) (d 0) (by omega) (by omega) (fun t ht => by
      rw [p3_uLn (by omega), show j * 4 + (k + 1) + t = j * 4 + k + (t + 1) by omega]
      exact h3 (t + 1) (by omega)) (by omega) q2
    refine ⟨a', p3_cons ((c + (d 0 * lo + b * hi)) % 1073741824) o, c', ?_, fun j hj => by rw [g2 j (by omega), p3_uLn (by omega)], fun t ht => ?_, ?_⟩
    · show f_X3_multiply_x_e0_L24 n (nI i) (nI j) (lN lo) (lN hi) (f_X3_multiply_x_e0_L24w n (nI i) (nI j) (lN lo) (lN hi) m) a (lN c) (lN b) (nI k) = _
      unfold f_X3_multiply_x_e0_L24
      rw [show (4 : Int32) = nI 4 from rfl, if_neg (nI_ge (by omega) (by omega)), pk_mul, pk_mul, nI_add, nI_add, p2_gd (p2_ib (by omega) hN), p2_ix (n := j * 4 + k) (by omega), p2_ix (n := i * 4 + k) (by omega), q1, nI_1]
      simp only [cx_let]
      rw [p2_gd (p2_ib (by omega) hN), lN_mul, lN_mul, lN_add, lN_add, p3_land (by omega), p3_lshr (by omega)]
      exact g1
    · cases t with
      | zero => exact ⟨by rw [show i * 4 + k + 0 = i * 4 + k from rfl, g2 _ (by omega), p3_uLs]; rfl, Nat.mod_lt _ (by decide)⟩
      | succ t => rw [show i * 4 + k + (t + 1) = i * 4 + (k + 1) + t by omega]; exact g3 t (by omega)
    · rw [p3_vl, p3_Ps]
      have e5 : p3_vl r (fun k => d (k + 1) * lo + p3_cons b d (k + 1) * hi) = p3_vl r (fun t => d (t + 1) * lo + p3_cons (d 0) (fun t => d (t + 1)) t * hi) := p3_vl_congr r _ _ (fun k _ => by cases k <;> rfl)
      rw [e5]
      show c + (d 0 * lo + b * hi + 1073741824 * _) = (c + (d 0 * lo + b * hi)) % 1073741824 + 1073741824 * p3_vl r o + c' * (1073741824 * 1073741824 ^ r)
      rw [Nat.mul_left_comm]
      generalize p3_vl r (fun t => d (t + 1) * lo + p3_cons (d 0) (fun t => d (t + 1)) t * hi) = z1 at *
      generalize c' * 1073741824 ^ r = z2 at *
      omega
theorem p3_multiply_x {n i j v mm : Nat} {x : Nat → Int64} (hn : i * 4 + 4 ≤ n) (hN : n < 2 ^ 31) (hn' : j * 4 + 4 ≤ n) (hy : p3_N x j v) (hm : mm < 2 ^ 60) (hv : v * mm < 1073741824 ^ 4) : ∃ x', f_X3_multiply_x_e0 n x (nI i) (nI j) (lN mm) = some x' ∧ p3_F x x' i ∧ p3_N x' i (v * mm) := by
  obtain ⟨a', o, c', g1, g2, g3, g4⟩ := p3_mulLx n i j (mm % 1073741824) (mm / 1073741824) (by omega) (by omega) hn hN hn' 4 0 cx_N0 x (p3_dg v) 0 0 (by omega) (by unfold cx_N0; omega) (fun t ht => ⟨hy.2 t ht, p3_dg_lt v t⟩) (by decide) (by decide)
  refine ⟨a', ?_, fun j hj => g2 j (by omega), hv, fun k hk => ?_⟩
  · unfold f_X3_multiply_x_e0
    rw [p3_land (by omega), p3_lshr (by omega)]
    exact g1
  · have e := p3_mulV (lo := mm % 1073741824) (hi := mm / 1073741824) hy.1
    rw [Nat.mod_add_div] at e
    rw [p3_dg_of 4 o (c' + p3_dg v 3 * (mm / 1073741824)) (v * mm) (fun t ht => (g3 t ht).2) (by rw [Nat.add_mul, ← Nat.add_assoc, ← g4, Nat.zero_add]; exact e) k hk]
    exact (g3 k hk).1

/-- compare -/
def p3_cmp (u v : Nat) : Int32 := if u < v then -1 else if u = v then 0 else 1
theorem p3_cmp0 {u v : Nat} : (p3_cmp u v < 0 ↔ u < v) ∧ (0 < p3_cmp u v ↔ v < u) ∧ (p3_cmp u v = 0 ↔ u = v) := by
  unfold p3_cmp
  by_cases h1 : u < v
  · simp only [if_pos h1]
    refine ⟨⟨fun _ => h1, fun _ => by decide⟩, ⟨fun h => absurd h (by decide), fun h => by omega⟩, ⟨fun h => absurd h (by decide), fun h => by omega⟩⟩
  · simp only [if_neg h1]
    by_cases h2 : u = v
    · simp only [if_pos h2]
      refine ⟨⟨fun h => absurd h (by decide), fun h => by omega⟩, ⟨fun h => absurd h (by decide), fun h => by omega⟩, ⟨fun _ => h2, fun _ => by decide⟩⟩
    · simp only [if_neg h2]
      refine ⟨⟨fun h => absurd h (by decide), fun h => by omega⟩, ⟨fun _ => by omega, fun _ => by decide⟩, ⟨fun h => absurd h (by decide), fun h => by omega⟩⟩
theorem p3_jcmp {a b : Nat} (ha : a < 2 ^ 63) (hb : b < 2 ^ 63) : f_J13_compare_74951 (lN a) (lN b) = some (p3_cmp a b) := by
  obtain ⟨h1, h2, h3⟩ := p3_ne ha hb
  unfold f_J13_compare_74951 p3_cmp
  rcases Nat.lt_trichotomy a b with h | h | h
  · rw [if_neg (fun q => by have z1 := p2_lt.mp (h2.mpr h); have z2 := p2_le.mp q; omega), if_pos h]
  · rw [h1.mpr h, if_pos (by decide), if_pos rfl, if_neg (by omega), if_pos h]
  · rw [if_pos (p2_le.mpr (by have := p2_lt.mp (h3.mpr h); omega)), if_neg (fun q => by have := h1.mp q; omega), if_neg (by omega), if_neg (by omega)]
theorem pk_m1' (n : Nat) : nI n + (-1) = nI n - 1 := by
  rw [Int32.sub_eq_add_neg]
theorem p3_cmpL (n i n' j : Nat) (x y : Nat → Int64) (u v : Nat) (hn : i * 4 + 4 ≤ n) (hN : n < 2 ^ 31) (hn' : j * 4 + 4 ≤ n') (hN' : n' < 2 ^ 31) (hx : p3_N x i u) (hy : p3_N y j v) : ∀ (k m : Nat), k ≤ 4 → k < m → u / 1073741824 ^ k = v / 1073741824 ^ k → f_X3_compare_L3w n x (nI i) n' y (nI j) m (nI k - 1) = some (p3_cmp u v) := by
  intro k
  induction k with
  | zero =>
    intro m h1 h2 h3
    obtain ⟨m, rfl⟩ : ∃ j, m = j + 1 := ⟨m - 1, by omega⟩
    show f_X3_compare_L3 n x (nI i) n' y (nI j) (f_X3_compare_L3w n x (nI i) n' y (nI j) m) (nI 0 - 1) = _
    unfold f_X3_compare_L3
    rw [if_pos (by decide)]
    rw [Nat.pow_zero, Nat.div_one, Nat.div_one] at h3
    rw [p3_cmp, if_neg (by omega), if_pos h3]
  | succ k ih =>
    intro m h1 h2 h3
    obtain ⟨m, rfl⟩ : ∃ j, m = j + 1 := ⟨m - 1, by omega⟩
    show f_X3_compare_L3 n x (nI i) n' y (nI j) (f_X3_compare_L3w n x (nI i) n' y (nI j) m) (nI (k + 1) - 1) = _
    unfold f_X3_compare_L3
    have q1 := p3_dg_lt u k
    have q2 := p3_dg_lt v k
    rw [nI_pred, show (4 : Int32) = nI 4 from rfl, if_neg (nI_pos (by omega)), pk_mul, pk_mul, nI_add, nI_add, p2_gd (p2_ib (by omega) hN), p2_gd (p2_ib (by omega) hN'), p2_ix (n := i * 4 + k) (by omega), p2_ix (n := j * 4 + k) (by omega), hx.2 k (by omega), hy.2 k (by omega), p3_jcmp (by omega) (by omega), Option.bind_some]
    by_cases h : p3_dg u k = p3_dg v k
    · rw [if_pos (p3_cmp0.2.2.mpr h), pk_m1']
      exact ih m (by omega) (by omega) (p3_top h h3)
    · rw [if_neg (fun q => h (p3_cmp0.2.2.mp q))]
      congr 1
      rcases Nat.lt_or_gt_of_ne h with h | h
      · have := p3_lt_dg h h3
        rw [p3_cmp, p3_cmp, if_pos h, if_pos this]
      · have := p3_lt_dg h h3.symm
        rw [p3_cmp, p3_cmp, if_neg (by omega), if_neg (by omega), if_neg (by omega), if_neg (by omega)]
theorem p3_compare {n i n' j u v : Nat} {x y : Nat → Int64} (hn : i * 4 + 4 ≤ n) (hN : n < 2 ^ 31) (hn' : j * 4 + 4 ≤ n') (hN' : n' < 2 ^ 31) (hx : p3_N x i u) (hy : p3_N y j v) : f_X3_compare n x (nI i) n' y (nI j) = some (p3_cmp u v) := by
  unfold f_X3_compare
  exact p3_cmpL n i n' j x y u v hn hN hn' hN' hx hy 4 cx_N0 (by omega) (by unfold cx_N0; omega) (by rw [Nat.div_eq_of_lt hx.1, Nat.div_eq_of_lt hy.1])
theorem p3_cmpx (n : Nat) (x : Nat → Int64) (p q : Int32) (m : Nat) : f_X3_compare_x_e0_L3w n x p q m = f_X3_compare_L3w n x p n x q m := rfl
theorem p3_compare_x {n i j u v : Nat} {x : Nat → Int64} (hn : i * 4 + 4 ≤ n) (hN : n < 2 ^ 31) (hn' : j * 4 + 4 ≤ n) (hx : p3_N x i u) (hy : p3_N x j v) : f_X3_compare_x_e0 n x (nI i) (nI j) = some (p3_cmp u v) := by
  have := p3_compare hn hN hn' hN hx hy
  unfold f_X3_compare_x_e0
  rw [p3_cmpx]
  exact this
/-- even, halve -/
theorem p3_l1 {d : Nat} (h : d < 2 ^ 63) : lN d &&& 1 = lN (d % 2) := by
  apply Int64.toBitVec_inj.mp
  apply BitVec.eq_of_toNat_eq
  have e1 : (lN d).toBitVec.toNat = d := by
    show (BitVec.ofNat 64 d).toNat = d
    rw [BitVec.toNat_ofNat, Nat.mod_eq_of_lt (by omega)]
  have e2 : (lN (d % 2)).toBitVec.toNat = d % 2 := by
    show (BitVec.ofNat 64 (d % 2)).toNat = d % 2
    rw [BitVec.toNat_ofNat, Nat.mod_eq_of_lt (by omega)]
  have h : (lN d &&& 1).toBitVec.toNat = (lN d).toBitVec.toNat &&& 1 := BitVec.toNat_and ..
  rw [h, e1, e2, Nat.and_one_is_mod]
theorem p3_isEven {n i v : Nat} {x : Nat → Int64} (hn : i * 4 + 4 ≤ n) (hN : n < 2 ^ 31) (hx : p3_N x i v) : f_X3_isEven n x (nI i) = some (p2_b (v % 2 = 0)) := by
  unfold f_X3_isEven
  have q := p3_dg_lt v 0
  have e : x (i * 4) = lN (p3_dg v 0) := hx.2 0 (by omega)
  rw [show (4 : Int32) = nI 4 from rfl, pk_mul, p2_gd (p2_ib (by omega) hN), p2_ix (by omega), e, p3_l1 (by omega)]
  have hc := (p3_ne (a := p3_dg v 0 % 2) (b := 0) (by omega) (by decide)).1
  have hc : lg_cmp (lN (p3_dg v 0 % 2)) 0 = 0 ↔ p3_dg v 0 % 2 = 0 := hc
  rw [p3_dg_0] at *
  by_cases h : v % 2 = 0
  · rw [if_pos (hc.mpr (by omega)), p2_b, if_pos h]
  · rw [if_neg (fun z => h (by have := hc.mp z; omega)), p2_b, if_neg h]
theorem p3_dg_half (v k : Nat) : p3_dg (v / 2) k = p3_dg v (k + 1) % 2 * 536870912 + p3_dg v k / 2 := by
  show v / 2 / 1073741824 ^ k % 1073741824 = v / 1073741824 ^ (k + 1) % 1073741824 % 2 * 536870912 + v / 1073741824 ^ k % 1073741824 / 2
  have e : v / 2 / 1073741824 ^ k = v / 1073741824 ^ k / 2 := by rw [Nat.div_div_eq_div_mul, Nat.mul_comm, ← Nat.div_div_eq_div_mul]
  rw [Nat.pow_succ, ← Nat.div_div_eq_div_mul, e]
  show v / 1073741824 ^ k / 2 % 1073741824 = v / 1073741824 ^ k / 1073741824 % 1073741824 % 2 * 536870912 + v / 1073741824 ^ k % 1073741824 / 2
  generalize v / 1073741824 ^ k = w
  omega
theorem p3_lor {b d : Nat} (hb : b < 2) (hd : d < 1073741824) : (lN b <<< (Int32.toInt64 30 &&& 63)) ||| lN d = lN (b * 1073741824 + d) := by
  apply Int64.toBitVec_inj.mp
  apply BitVec.eq_of_toNat_eq
  have e1 : ∀ z, z < 2 ^ 63 → (lN z).toBitVec.toNat = z := fun z hz => by
    show (BitVec.ofNat 64 z).toNat = z
    rw [BitVec.toNat_ofNat, Nat.mod_eq_of_lt (by omega)]
  have h2 : (lN b <<< (Int32.toInt64 30 &&& 63)).toBitVec.toNat = b * 1073741824 := by
    rcases (show b = 0 ∨ b = 1 by omega) with rfl | rfl <;> rfl
  have h : ((lN b <<< (Int32.toInt64 30 &&& 63)) ||| lN d).toBitVec.toNat = (lN b <<< (Int32.toInt64 30 &&& 63)).toBitVec.toNat ||| (lN d).toBitVec.toNat := BitVec.toNat_or ..
  rw [h, h2, e1 d (by omega), e1 _ (by omega), Nat.mul_comm, show (1073741824 : Nat) = 2 ^ 30 from rfl]
  exact (Nat.two_pow_add_eq_or_of_lt (i := 30) (b := d) (by omega) b).symm
theorem p3_lshr1 {d : Nat} (h : d < 2 ^ 63) : lN d >>> (Int32.toInt64 1 &&& 63) = lN (d / 2) := by
  apply Int64.toInt_inj.mp
  have e : (lN d >>> (Int32.toInt64 1 &&& 63)).toInt = (lN d).toInt >>> 1 := BitVec.toInt_sshiftRight ..
  rw [e, Int.shiftRight_eq_div_pow, p3_lI h, p3_lI (by omega)]
  omega
theorem p3_halveL (n i v : Nat) (hn : i * 4 + 4 ≤ n) (hN : n < 2 ^ 31) : ∀ (k m : Nat) (a : Nat → Int64), k ≤ 4 → k < m → (∀ t, t < k → a (i * 4 + t) = lN (p3_dg v t)) → ∃ a', f_X3_halve_L11w n (nI i) m a (lN (p3_dg v k % 2)) (nI (i * 4 + k) - 1) = some a' ∧ (∀ j, (j < i * 4 ∨ i * 4 + k ≤ j) → a' j = a j) ∧ (∀ t, t < k → a' (i * 4 + t) = lN (p3_dg (v / 2) t)) := by
  intro k
  induction k with
  | zero =>
    intro m a h1 h2 h3
    obtain ⟨m, rfl⟩ : ∃ j, m = j + 1 := ⟨m - 1, by omega⟩
    refine ⟨a, ?_, fun _ _ => rfl, fun t ht => by omega⟩
    show f_X3_halve_L11 n (nI i) (f_X3_halve_L11w n (nI i) m) a (lN (p3_dg v 0 % 2)) (nI (i * 4 + 0) - 1) = _
    unfold f_X3_halve_L11
    have e1 : (nI (i * 4 + 0)).toInt = (i * 4 : Int) := by rw [nI_toInt (by omega)]; omega
    have e3 : (1 : Int32).toInt = 1 := rfl
    have e : (nI (i * 4 + 0) - 1).toInt = (i * 4 : Int) - 1 := by rw [p2_sub (by omega) (by omega), e1, e3]
    have e2 : (nI i * 4).toInt = (i * 4 : Int) := by rw [show (4 : Int32) = nI 4 from rfl, pk_mul, nI_toInt (by omega)]; omega
    rw [if_pos (p2_lt.mpr (by rw [e, e2]; omega))]
  | succ k ih =>
    intro m a h1 h2 h3
    obtain ⟨m, rfl⟩ : ∃ j, m = j + 1 := ⟨m - 1, by omega⟩
    have q1 := p3_dg_lt v k
    have q2 := p3_dg_lt v (k + 1)
    have e4 : (p3_dg v (k + 1) % 2 * 1073741824 + p3_dg v k) / 2 = p3_dg (v / 2) k := by rw [p3_dg_half]; omega
    have e5 : (p3_dg v (k + 1) % 2 * 1073741824 + p3_dg v k) % 2 = p3_dg v k % 2 := by omega
    obtain ⟨a', g1, g2, g3⟩ := ih m (vp_updL a (i * 4 + k) (lN (p3_dg (v / 2) k))) (by omega) (by omega) (fun t ht => by rw [p3_uLn (by omega)]; exact h3 t (by omega))
    refine ⟨a', ?_, fun j hj => by rw [g2 j (by omega), p3_uLn (by omega)], fun t ht => ?_⟩
    · show f_X3_halve_L11 n (nI i) (f_X3_halve_L11w n (nI i) m) a (lN (p3_dg v (k + 1) % 2)) (nI (i * 4 + k + 1) - 1) = _
      unfold f_X3_halve_L11
      rw [nI_pred, show (4 : Int32) = nI 4 from rfl, pk_mul, if_neg (by rw [nI_ltI (by omega) (by omega)]; omega), p2_gd (p2_ib (by omega) hN), p2_ix (n := i * 4 + k) (by omega), h3 k (by omega), p3_lor (by omega) q1]
      simp only [cx_let]
      rw [p2_gd (p2_ib (by omega) hN), p3_lshr1 (by omega), p3_l1 (by omega), e4, e5, pk_m1']
      exact g1
    · by_cases h : t = k
      · subst h
        rw [g2 _ (by omega), p3_uLs]
      · exact g3 t (by omega)
theorem p3_halve {n i v : Nat} {x : Nat → Int64} (hn : i * 4 + 4 ≤ n) (hN : n < 2 ^ 31) (hx : p3_N x i v) : ∃ x', f_X3_halve n x (nI i) = some x' ∧ p3_F x x' i ∧ p3_N x' i (v / 2) := by
  obtain ⟨a', g1, g2, g3⟩ := p3_halveL n i v hn hN 4 cx_N0 x (by omega) (by unfold cx_N0; omega) (fun t ht => hx.2 t ht)
  refine ⟨a', ?_, g2, by have := hx.1; omega, g3⟩
  rw [p3_dg_big hx.1] at g1
  unfold f_X3_halve
  rw [show (4 : Int32) = nI 4 from rfl, pk_mul, nI_add]
  exact g1
