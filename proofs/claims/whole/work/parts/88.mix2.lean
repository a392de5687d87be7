/-! digests: the box's part, the fraction's part -/
def p2_mix (f : Nat → Int64) : Nat → Nat → Int64 → Int64
  | 0, _, h => h
  | k + 1, i, h => p2_mix f k (i + 1) (31 * h + f i)
theorem p2_mix_congr {f g : Nat → Int64} : ∀ (k i j : Nat) (h : Int64), (∀ t, t < k → f (i + t) = g (j + t)) → p2_mix f k i h = p2_mix g k j h := by
  intro k
  induction k with
  | zero => intro i j h _; rfl
  | succ k ih =>
    intro i j h e
    rw [p2_mix, p2_mix, show f i = g j from e 0 (by omega)]
    exact ih (i + 1) (j + 1) _ (fun t ht => by rw [show i + 1 + t = i + (t + 1) by omega, show j + 1 + t = j + (t + 1) by omega]; exact e (t + 1) (by omega))
section MX
variable {c0 c1 c2 c3 c4 : Nat → Int32} {z0 z1 z2 z3 z4 sg : Int32} {bk : Nat → Int32} {n0 n1 n2 n3 n4 : Nat}
theorem p2_mixC (w n z : Nat) (c : Nat → Int32) (hn : z * w ≤ n) (hN : n < 2 ^ 31) : ∀ (k i m : Nat) (h : Int64), i + k = z * w → k < m → f_X4_mixInto_L5w (nI w) n c (nI z) m h (nI i) = some (p2_mix (fun j => Int32.toInt64 (c j)) k i h) := by
  intro k
  induction k with
  | zero =>
    intro i m h h1 h2
    obtain ⟨m, rfl⟩ : ∃ j, m = j + 1 := ⟨m - 1, by omega⟩
    show f_X4_mixInto_L5 (nI w) n c (nI z) (f_X4_mixInto_L5w (nI w) n c (nI z) m) h (nI i) = _
    unfold f_X4_mixInto_L5
    rw [pk_mul, if_pos (nI_le (by omega) (by omega))]
    rfl
  | succ k ih =>
    intro i m h h1 h2
    obtain ⟨m, rfl⟩ : ∃ j, m = j + 1 := ⟨m - 1, by omega⟩
    show f_X4_mixInto_L5 (nI w) n c (nI z) (f_X4_mixInto_L5w (nI w) n c (nI z) m) h (nI i) = _
    unfold f_X4_mixInto_L5
    rw [pk_mul, if_neg (nI_ge (by omega) (by omega)), p2_gd (p2_ib (by omega) hN), p2_ix (n := i) (by omega), nI_1]
    exact ih (i + 1) m _ (by omega) (by omega)
theorem p2_mixM (off n : Nat) (ho : off + n ≤ 140) : ∀ (k i m : Nat) (h : Int64), i + k = n → k < m → f_X9_mixed_L6w bk (nI off) (nI n) m h (nI i) = some (p2_mix (fun j => Int32.toInt64 (bk j)) k (off + i) h) := by
  intro k
  induction k with
  | zero =>
    intro i m h h1 h2
    obtain ⟨m, rfl⟩ : ∃ j, m = j + 1 := ⟨m - 1, by omega⟩
    show f_X9_mixed_L6 bk (nI off) (nI n) (f_X9_mixed_L6w bk (nI off) (nI n) m) h (nI i) = _
    unfold f_X9_mixed_L6
    rw [if_pos (nI_le (by omega) (by omega))]
    rfl
  | succ k ih =>
    intro i m h h1 h2
    obtain ⟨m, rfl⟩ : ∃ j, m = j + 1 := ⟨m - 1, by omega⟩
    show f_X9_mixed_L6 bk (nI off) (nI n) (f_X9_mixed_L6w bk (nI off) (nI n) m) h (nI i) = _
    unfold f_X9_mixed_L6
    rw [if_neg (nI_ge (by omega) (by omega)), nI_add, p2_gd (p2_ib (by omega) (by decide)), p2_ix (n := off + i) (by omega), nI_1]
    exact ih (i + 1) m _ (by omega) (by omega)
/-- a row, mixed on both sides -/
theorem p2_mixR (w lim off cnt n : Nat) (c : Nat → Int32) (z : Int32) (hr : p2_rr w lim off cnt n c z bk) (hl : off + w * lim ≤ 140) (h : Int64) : f_X4_mixInto (nI w) (w * lim) c z h = some (p2_mix (fun j => Int32.toInt64 (bk j)) (w * n) off h) ∧ f_X9_mixed bk h (nI off) (nI w * nI n) = some (p2_mix (fun j => Int32.toInt64 (bk j)) (w * n) off h) := by
  obtain ⟨h1, h2, h3, h4⟩ := hr
  have hle : w * n ≤ w * lim := Nat.mul_le_mul_left w h1
  have hc : n * w = w * n := Nat.mul_comm n w
  refine ⟨?_, ?_⟩
  · unfold f_X4_mixInto
    rw [h2, show f_X4_mixInto_L5w (nI w) (w * lim) c (nI n) cx_N0 h 0 = _ from p2_mixC w (w * lim) n c (by omega) (by omega) (w * n) 0 cx_N0 h (by omega) (by unfold cx_N0; omega)]
    congr 1
    exact p2_mix_congr (w * n) 0 off h (fun t ht => by rw [show 0 + t = t by omega, h4 t (by omega)])
  · unfold f_X9_mixed
    rw [pk_mul, show f_X9_mixed_L6w bk (nI off) (nI (w * n)) cx_N0 h 0 = _ from p2_mixM off (w * n) (by omega) (w * n) 0 cx_N0 h (by omega) (by unfold cx_N0; omega)]
    rfl
/-- one side of a fraction: the class's digits and the reference's -/
def p2_F1 (x : Nat → Int64) (lb : Nat → Int32) (wd : Int32) (off l : Nat) : Prop := l ≤ 4 ∧ wd = nI l ∧ (∀ k, k < l → x k = Int32.toInt64 (lb (off + k))) ∧ (∀ k, l ≤ k → k < 4 → x k = 0) ∧ (0 < l → x (l - 1) ≠ 0)
theorem p2_len {x : Nat → Int64} {lb : Nat → Int32} {wd : Int32} {off l : Nat} (h : p2_F1 x lb wd off l) : ∀ (k n : Nat), l ≤ k → k ≤ 4 → k - l < n → f_X3_length_L2w 4 x 0 n (nI k) = some (nI l) := by
  obtain ⟨h1, h2, h3, h4, h5⟩ := h
  intro k
  induction k with
  | zero =>
    intro n a1 a2 a3
    obtain ⟨n, rfl⟩ : ∃ j, n = j + 1 := ⟨n - 1, by omega⟩
    show f_X3_length_L2 4 x 0 (f_X3_length_L2w 4 x 0 n) (nI 0) = _
    unfold f_X3_length_L2
    rw [if_pos (by decide), show l = 0 by omega]
  | succ k ih =>
    intro n a1 a2 a3
    obtain ⟨n, rfl⟩ : ∃ j, n = j + 1 := ⟨n - 1, by omega⟩
    show f_X3_length_L2 4 x 0 (f_X3_length_L2w 4 x 0 n) (nI (k + 1)) = _
    unfold f_X3_length_L2
    rw [if_neg (nI_nle (by omega) (by omega)), show ((0 : Int32) * 4 + nI (k + 1)) - 1 = nI k from by rw [show (0 : Int32) * 4 = nI 0 from rfl, nI_add, show 0 + (k + 1) = k + 1 by omega, nI_pred], p2_gd (p2_ib (by omega) (by decide)), p2_ix (n := k) (by omega)]
    by_cases hk : l ≤ k
    · rw [if_pos (by rw [h4 k hk (by omega)]; rfl), pk_m1]
      exact ih n hk (by omega) (by omega)
    · have e : l = k + 1 := by omega
      have h6 := h5 (by omega)
      rw [if_neg (fun q => h6 (by rw [show l - 1 = k by omega]; exact Int64.toInt_inj.mp (((p2_cmp0 _ _).2.2).mp q))), e]
theorem p2_length {x : Nat → Int64} {lb : Nat → Int32} {wd : Int32} {off l : Nat} (h : p2_F1 x lb wd off l) : f_X3_length 4 x 0 = some (nI l) := by
  unfold f_X3_length
  exact p2_len h 4 cx_N0 h.1 (by decide) (by unfold cx_N0; omega)
end MX
