/-! THE CLASS'S NUMBERS: four digits, side by side in a row -/
/-- the number at i is v -/
def p3_N (x : Nat → Int64) (i v : Nat) : Prop := v < 1073741824 ^ 4 ∧ ∀ k, k < 4 → x (i * 4 + k) = lN (p3_dg v k)
/-- digits that are not brought back yet -/
def p3_U (x : Nat → Int64) (i V M : Nat) : Prop := ∃ s : Nat → Nat, (∀ k, k < 4 → x (i * 4 + k) = lN (s k) ∧ s k ≤ M) ∧ p3_vl 4 s = V
/-- nothing but the number at i has changed -/
def p3_F (x x' : Nat → Int64) (i : Nat) : Prop := ∀ j, (j < i * 4 ∨ i * 4 + 4 ≤ j) → x' j = x j
theorem p3_F.N {x x' : Nat → Int64} {i j v : Nat} (h : p3_F x x' i) (hj : j ≠ i) (hN : p3_N x j v) : p3_N x' j v := ⟨hN.1, fun k hk => by rw [h (j * 4 + k) (by omega)]; exact hN.2 k hk⟩
theorem p3_F.U {x x' : Nat → Int64} {i j V M : Nat} (h : p3_F x x' i) (hj : j ≠ i) (hN : p3_U x j V M) : p3_U x' j V M := by
  obtain ⟨s, h1, h2⟩ := hN
  exact ⟨s, fun k hk => by rw [h (j * 4 + k) (by omega)]; exact h1 k hk, h2⟩
theorem p3_F.trans {x x' x'' : Nat → Int64} {i : Nat} (h : p3_F x x' i) (h' : p3_F x' x'' i) : p3_F x x'' i := fun j hj => (h' j hj).trans (h j hj)
theorem p3_F.refl (x : Nat → Int64) (i : Nat) : p3_F x x i := fun _ _ => rfl
theorem p3_N.U {x : Nat → Int64} {i v : Nat} (h : p3_N x i v) : p3_U x i v 1073741823 := ⟨p3_dg v, fun k hk => ⟨h.2 k hk, by have := p3_dg_lt v k; omega⟩, p3_vl_dg2 h.1⟩
theorem p3_U.mono {x : Nat → Int64} {i V M M' : Nat} (h : p3_U x i V M) (hM : M ≤ M') : p3_U x i V M' := by
  obtain ⟨s, h1, h2⟩ := h
  exact ⟨s, fun k hk => ⟨(h1 k hk).1, Nat.le_trans (h1 k hk).2 hM⟩, h2⟩
theorem p3_N.inj {x : Nat → Int64} {i u v : Nat} (h : p3_N x i u) (h' : p3_N x i v) : u = v := by
  refine p3_dg_inj h.1 h'.1 (fun k hk => ?_)
  have e := (h.2 k hk).symm.trans (h'.2 k hk)
  have h1 := p3_dg_lt u k
  have h2 := p3_dg_lt v k
  exact (pk_lEQ (by omega) (by omega)).mp e
theorem p3_zeroL (n i : Nat) (hn : i * 4 + 4 ≤ n) (hN : n < 2 ^ 31) : ∀ (r k m : Nat) (a : Nat → Int64), k + r = 4 → r < m → ∃ a', f_X3_zero_L2w n (nI i) m a (nI k) = some a' ∧ (∀ j, (j < i * 4 + k ∨ i * 4 + 4 ≤ j) → a' j = a j) ∧ (∀ t, k ≤ t → t < 4 → a' (i * 4 + t) = 0) := by
  intro r
  induction r with
  | zero =>
    intro k m a h1 h2
    obtain ⟨m, rfl⟩ : ∃ j, m = j + 1 := ⟨m - 1, by omega⟩
    refine ⟨a, ?_, fun j _ => rfl, fun t h h' => by omega⟩
    show f_X3_zero_L2 n (nI i) (f_X3_zero_L2w n (nI i) m) a (nI k) = _
    unfold f_X3_zero_L2
    rw [show (4 : Int32) = nI 4 from rfl, if_pos (nI_le (by omega) (by omega))]
  | succ r ih =>
    intro k m a h1 h2
    obtain ⟨m, rfl⟩ : ∃ j, m = j + 1 := ⟨m - 1, by omega⟩
    obtain ⟨a', e1, e2, e3⟩ := ih (k + 1) m (vp_updL a (i * 4 + k) 0) (by omega) (by omega)
    refine ⟨a', ?_, fun j hj => by rw [e2 j (by omega), p3_uLn (by omega)], fun t h h' => ?_⟩
    · show f_X3_zero_L2 n (nI i) (f_X3_zero_L2w n (nI i) m) a (nI k) = _
      unfold f_X3_zero_L2
      rw [show (4 : Int32) = nI 4 from rfl, if_neg (nI_ge (by omega) (by omega)), pk_mul, nI_add, p2_gd (p2_ib (by omega) hN), p2_ix (by omega), nI_1]
      exact e1
    · by_cases ht : t = k
      · subst ht
        rw [e2 _ (by omega), p3_uLs]
      · exact e3 t (by omega) h'
theorem p3_Nz {x : Nat → Int64} {i : Nat} (h : ∀ t, t < 4 → x (i * 4 + t) = 0) : p3_N x i 0 := ⟨p3_Ppos 4, fun k hk => by rw [h k hk, p3_dg_z]; rfl⟩
theorem p3_zero {n i : Nat} (x : Nat → Int64) (hn : i * 4 + 4 ≤ n) (hN : n < 2 ^ 31) : ∃ x', f_X3_zero n x (nI i) = some x' ∧ p3_F x x' i ∧ p3_N x' i 0 := by
  obtain ⟨a', e1, e2, e3⟩ := p3_zeroL n i hn hN 4 0 cx_N0 x (by omega) (by unfold cx_N0; omega)
  exact ⟨a', e1, fun j hj => e2 j (by omega), p3_Nz (fun t ht => e3 t (by omega) ht)⟩
theorem p3_small {v : Nat} (h : v < 1073741824) (k : Nat) : p3_dg v (k + 1) = 0 := by rw [p3_dg_s, Nat.div_eq_of_lt h, p3_dg_z]
theorem p3_set {n i v : Nat} (x : Nat → Int64) (hn : i * 4 + 4 ≤ n) (hN : n < 2 ^ 31) (hv : v < 1073741824) : ∃ x', f_X3_set n x (nI i) (nI v) = some x' ∧ p3_F x x' i ∧ p3_N x' i v := by
  obtain ⟨a, e1, e2, e3⟩ := p3_zero (i := i) x hn hN
  refine ⟨vp_updL a (i * 4) (lN v), ?_, fun j hj => by rw [p3_uLn (by omega)]; exact e2 j hj, Nat.lt_of_lt_of_le hv (p3_pow_le (a := 1) (by decide)), fun k hk => ?_⟩
  · unfold f_X3_set
    rw [e1, Option.bind_some, show (4 : Int32) = nI 4 from rfl, pk_mul, p2_gd (p2_ib (by omega) hN), p2_ix (by omega), nI_l (by omega)]
    rfl
  · cases k with
    | zero => rw [show i * 4 + 0 = i * 4 from rfl, p3_uLs, p3_dg_0, Nat.mod_eq_of_lt hv]
    | succ k => rw [p3_uLn (by omega), e3.2 _ hk, p3_small hv, p3_dg_z]
theorem p3_copyC {n i n' j : Nat} (x y : Nat → Int64) (hn : i * 4 + 4 ≤ n) (hN : n < 2 ^ 31) (hn' : j * 4 + 4 ≤ n') (hN' : n' < 2 ^ 31) : ∃ x', f_X3_copy n x (nI i) n' y (nI j) = some x' ∧ p3_F x x' i ∧ ∀ k, k < 4 → x' (i * 4 + k) = y (j * 4 + k) := by
  refine ⟨va_cpy y x (j * 4) (i * 4) 4, ?_, fun t ht => pk_cpy_out (by omega), fun k hk => by rw [pk_cpy_in (by omega) (by omega)]; congr 1; omega⟩
  unfold f_X3_copy
  have h4 : cx_ix (4 : Int32) = 4 := rfl
  rw [h4, show (4 : Int32) = nI 4 from rfl, pk_mul, pk_mul, p2_ix (n := i * 4) (by omega), p2_ix (n := j * 4) (by omega), p2_gd]
  · rfl
  · unfold cx_cb
    refine decide_eq_true ⟨nI_pos (by omega), nI_pos (by omega), nI_pos (by omega), ?_, ?_⟩
    · rw [show (nI (j * 4)).toNatClampNeg = j * 4 from p2_ix (by omega), show (nI 4).toNatClampNeg = 4 from p2_ix (by omega)]; exact hn'
    · rw [show (nI (i * 4)).toNatClampNeg = i * 4 from p2_ix (by omega), show (nI 4).toNatClampNeg = 4 from p2_ix (by omega)]; exact hn
theorem p3_copy {n i n' j v : Nat} (x : Nat → Int64) {y : Nat → Int64} (hn : i * 4 + 4 ≤ n) (hN : n < 2 ^ 31) (hn' : j * 4 + 4 ≤ n') (hN' : n' < 2 ^ 31) (hy : p3_N y j v) : ∃ x', f_X3_copy n x (nI i) n' y (nI j) = some x' ∧ p3_F x x' i ∧ p3_N x' i v := by
  obtain ⟨x', e1, e2, e3⟩ := p3_copyC (i := i) (j := j) x y hn hN hn' hN'
  exact ⟨x', e1, e2, hy.1, fun k hk => (e3 k hk).trans (hy.2 k hk)⟩
theorem p3_copyU {n i n' j V M : Nat} (x : Nat → Int64) {y : Nat → Int64} (hn : i * 4 + 4 ≤ n) (hN : n < 2 ^ 31) (hn' : j * 4 + 4 ≤ n') (hN' : n' < 2 ^ 31) (hy : p3_U y j V M) : ∃ x', f_X3_copy n x (nI i) n' y (nI j) = some x' ∧ p3_F x x' i ∧ p3_U x' i V M := by
  obtain ⟨x', e1, e2, e3⟩ := p3_copyC (i := i) (j := j) x y hn hN hn' hN'
  obtain ⟨s, h1, h2⟩ := hy
  exact ⟨x', e1, e2, s, fun k hk => ⟨(e3 k hk).trans (h1 k hk).1, (h1 k hk).2⟩, h2⟩
theorem p3_or0 {a b : Int64} : a ||| b = 0 ↔ a = 0 ∧ b = 0 := by
  rw [← Int64.toBitVec_inj, ← Int64.toBitVec_inj, ← Int64.toBitVec_inj, Int64.toBitVec_or]
  exact BitVec.or_eq_zero_iff
theorem p3_lz {d : Nat} (h : d < 2 ^ 63) : lN d = 0 ↔ d = 0 := (pk_lEQ (a := d) (b := 0) h (by decide))
theorem p3_isZeroC {n i : Nat} {x : Nat → Int64} {P : Prop} [Decidable P] (hn : i * 4 + 4 ≤ n) (hN : n < 2 ^ 31) (hP : (∀ k, k < 4 → x (i * 4 + k) = 0) ↔ P) : f_X3_isZero n x (nI i) = some (p2_b P) := by
  unfold f_X3_isZero
  rw [show (4 : Int32) = nI 4 from rfl, pk_mul, show (1 : Int32) = nI 1 from rfl, show (2 : Int32) = nI 2 from rfl, show (3 : Int32) = nI 3 from rfl, nI_add, nI_add, nI_add, p2_gd (p2_ib (by omega) hN), p2_gd (p2_ib (by omega) hN), p2_gd (p2_ib (by omega) hN), p2_gd (p2_ib (by omega) hN), p2_ix (n := i * 4) (by omega), p2_ix (n := i * 4 + 1) (by omega), p2_ix (n := i * 4 + 2) (by omega), p2_ix (n := i * 4 + 3) (by omega)]
  have hc : (lg_cmp (x (i * 4) ||| x (i * 4 + 1) ||| x (i * 4 + 2) ||| x (i * 4 + 3)) 0 = 0) ↔ ∀ k, k < 4 → x (i * 4 + k) = 0 := by
    rw [(p2_cmp0 _ _).2.2, Int64.toInt_inj, p3_or0, p3_or0, p3_or0]
    refine ⟨fun h k hk => ?_, fun h => ⟨⟨⟨h 0 (by omega), h 1 (by omega)⟩, h 2 (by omega)⟩, h 3 (by omega)⟩⟩
    rcases (show k = 0 ∨ k = 1 ∨ k = 2 ∨ k = 3 by omega) with rfl | rfl | rfl | rfl
    · exact h.1.1.1
    · exact h.1.1.2
    · exact h.1.2
    · exact h.2
  rw [hP] at hc
  by_cases h : P
  · rw [if_pos (hc.mpr h), p2_b, if_pos h]; rfl
  · rw [if_neg (fun q => h (hc.mp q)), p2_b, if_neg h]
theorem p3_Uz {x : Nat → Int64} {i V M : Nat} (h : p3_U x i V M) (hM : M < 2 ^ 62) : (∀ k, k < 4 → x (i * 4 + k) = 0) ↔ V = 0 := by
  obtain ⟨s, h1, h2⟩ := h
  have e : ∀ k, k < 4 → (x (i * 4 + k) = 0 ↔ s k = 0) := fun k hk => by
    rw [(h1 k hk).1]
    exact p3_lz (by have := (h1 k hk).2; omega)
  have hV : V = s 0 + 1073741824 * (s 1 + 1073741824 * (s 2 + 1073741824 * (s 3 + 1073741824 * 0))) := h2.symm
  constructor
  · intro h
    have a0 := (e 0 (by omega)).mp (h 0 (by omega))
    have a1 := (e 1 (by omega)).mp (h 1 (by omega))
    have a2 := (e 2 (by omega)).mp (h 2 (by omega))
    have a3 := (e 3 (by omega)).mp (h 3 (by omega))
    omega
  · intro h k hk
    refine (e k hk).mpr ?_
    rcases (show k = 0 ∨ k = 1 ∨ k = 2 ∨ k = 3 by omega) with rfl | rfl | rfl | rfl <;> omega
theorem p3_isZeroU {n i V M : Nat} {x : Nat → Int64} (hn : i * 4 + 4 ≤ n) (hN : n < 2 ^ 31) (h : p3_U x i V M) (hM : M < 2 ^ 62) : f_X3_isZero n x (nI i) = some (p2_b (V = 0)) := by
  exact p3_isZeroC hn hN (p3_Uz h hM)
theorem p3_isZero {n i v : Nat} {x : Nat → Int64} (hn : i * 4 + 4 ≤ n) (hN : n < 2 ^ 31) (h : p3_N x i v) : f_X3_isZero n x (nI i) = some (p2_b (v = 0)) := p3_isZeroU hn hN h.U (by decide)
/-- add, digit by digit -/
theorem p3_addG {V W M K : Nat} {s t : Nat → Nat} (hs : p3_vl 4 s = V) (ht : p3_vl 4 t = W) (h1 : ∀ k, k < 4 → s k ≤ M) (h2 : ∀ k, k < 4 → t k ≤ K) : p3_vl 4 (fun k => s k + t k) = V + W ∧ ∀ k, k < 4 → s k + t k ≤ M + K := by
  refine ⟨?_, fun k hk => by have := h1 k hk; have := h2 k hk; omega⟩
  have e1 : V = s 0 + 1073741824 * (s 1 + 1073741824 * (s 2 + 1073741824 * (s 3 + 1073741824 * 0))) := hs.symm
  have e2 : W = t 0 + 1073741824 * (t 1 + 1073741824 * (t 2 + 1073741824 * (t 3 + 1073741824 * 0))) := ht.symm
  show (s 0 + t 0) + 1073741824 * ((s 1 + t 1) + 1073741824 * ((s 2 + t 2) + 1073741824 * ((s 3 + t 3) + 1073741824 * 0))) = V + W
  omega
theorem p3_add {n i n' j V M W K : Nat} {x y : Nat → Int64} (hn : i * 4 + 4 ≤ n) (hN : n < 2 ^ 31) (hn' : j * 4 + 4 ≤ n') (hN' : n' < 2 ^ 31) (hx : p3_U x i V M) (hy : p3_U y j W K) : ∃ x', f_X3_add n x (nI i) n' y (nI j) = some x' ∧ p3_F x x' i ∧ p3_U x' i (V + W) (M + K) := by
  obtain ⟨s, s1, s2⟩ := hx
  obtain ⟨t, t1, t2⟩ := hy
  obtain ⟨g1, g2⟩ := p3_addG s2 t2 (fun k hk => (s1 k hk).2) (fun k hk => (t1 k hk).2)
  refine ⟨vp_updL (vp_updL (vp_updL (vp_updL x (i * 4) (lN (s 0 + t 0))) (i * 4 + 1) (lN (s 1 + t 1))) (i * 4 + 2) (lN (s 2 + t 2))) (i * 4 + 3) (lN (s 3 + t 3)), ?_, fun k hk => by rw [p3_uLn (by omega), p3_uLn (by omega), p3_uLn (by omega), p3_uLn (by omega)], fun k => s k + t k, fun k hk => ⟨?_, g2 k hk⟩, g1⟩
  · unfold f_X3_add
    rw [show (4 : Int32) = nI 4 from rfl, pk_mul, pk_mul, show (1 : Int32) = nI 1 from rfl, show (2 : Int32) = nI 2 from rfl, show (3 : Int32) = nI 3 from rfl, nI_add, nI_add, nI_add, nI_add, nI_add, nI_add, p2_ix (n := i * 4) (by omega), p2_ix (n := i * 4 + 1) (by omega), p2_ix (n := i * 4 + 2) (by omega), p2_ix (n := i * 4 + 3) (by omega), p2_ix (n := j * 4) (by omega), p2_ix (n := j * 4 + 1) (by omega), p2_ix (n := j * 4 + 2) (by omega), p2_ix (n := j * 4 + 3) (by omega)]
    simp only [cx_let]
    have b0 : cx_ib (nI (i * 4)) n = true := p2_ib (by omega) hN
    have b1 : cx_ib (nI (i * 4 + 1)) n = true := p2_ib (by omega) hN
    have b2 : cx_ib (nI (i * 4 + 2)) n = true := p2_ib (by omega) hN
    have b3 : cx_ib (nI (i * 4 + 3)) n = true := p2_ib (by omega) hN
    have d0 : cx_ib (nI (j * 4)) n' = true := p2_ib (by omega) hN'
    have d1 : cx_ib (nI (j * 4 + 1)) n' = true := p2_ib (by omega) hN'
    have d2 : cx_ib (nI (j * 4 + 2)) n' = true := p2_ib (by omega) hN'
    have d3 : cx_ib (nI (j * 4 + 3)) n' = true := p2_ib (by omega) hN'
    have e0 : x (i * 4) = lN (s 0) := (s1 0 (by omega)).1
    have k0 : y (j * 4) = lN (t 0) := (t1 0 (by omega)).1
    simp only [p2_gd b0, p2_gd b1, p2_gd b2, p2_gd b3, p2_gd d0, p2_gd d1, p2_gd d2, p2_gd d3]
    rw [p3_uLn (show i * 4 + 1 ≠ i * 4 by omega), p3_uLn (show i * 4 + 2 ≠ i * 4 + 1 by omega), p3_uLn (show i * 4 + 2 ≠ i * 4 by omega), p3_uLn (show i * 4 + 3 ≠ i * 4 + 2 by omega), p3_uLn (show i * 4 + 3 ≠ i * 4 + 1 by omega), p3_uLn (show i * 4 + 3 ≠ i * 4 by omega), e0, k0, (s1 1 (by omega)).1, (s1 2 (by omega)).1, (s1 3 (by omega)).1, (t1 1 (by omega)).1, (t1 2 (by omega)).1, (t1 3 (by omega)).1, lN_add, lN_add, lN_add, lN_add]
  · rcases (show k = 0 ∨ k = 1 ∨ k = 2 ∨ k = 3 by omega) with rfl | rfl | rfl | rfl
    · rw [p3_uLn (by omega), p3_uLn (by omega), p3_uLn (by omega), show i * 4 + 0 = i * 4 from rfl, p3_uLs]
    · rw [p3_uLn (by omega), p3_uLn (by omega), p3_uLs]
    · rw [p3_uLn (by omega), p3_uLs]
    · rw [p3_uLs]
/-- add inside one row -/
theorem p3_add_x {n i j V M W K : Nat} {x : Nat → Int64} (hn : i * 4 + 4 ≤ n) (hN : n < 2 ^ 31) (hn' : j * 4 + 4 ≤ n) (hij : i ≠ j) (hx : p3_U x i V M) (hy : p3_U x j W K) : ∃ x', f_X3_add_x_e0 n x (nI i) (nI j) = some x' ∧ p3_F x x' i ∧ p3_U x' i (V + W) (M + K) := by
  obtain ⟨x', e1, e2⟩ := p3_add hn hN hn' hN hx hy
  refine ⟨x', ?_, e2⟩
  rw [← e1]
  unfold f_X3_add f_X3_add_x_e0
  rw [show (4 : Int32) = nI 4 from rfl, pk_mul, pk_mul, show (1 : Int32) = nI 1 from rfl, show (2 : Int32) = nI 2 from rfl, show (3 : Int32) = nI 3 from rfl, nI_add, nI_add, nI_add, nI_add, nI_add, nI_add, p2_ix (n := i * 4) (by omega), p2_ix (n := i * 4 + 1) (by omega), p2_ix (n := i * 4 + 2) (by omega), p2_ix (n := i * 4 + 3) (by omega), p2_ix (n := j * 4) (by omega), p2_ix (n := j * 4 + 1) (by omega), p2_ix (n := j * 4 + 2) (by omega), p2_ix (n := j * 4 + 3) (by omega)]
  simp only [cx_let]
  rw [p3_uLn (show j * 4 + 1 ≠ i * 4 by omega), p3_uLn (show j * 4 + 2 ≠ i * 4 + 1 by omega), p3_uLn (show j * 4 + 2 ≠ i * 4 by omega), p3_uLn (show j * 4 + 3 ≠ i * 4 + 2 by omega), p3_uLn (show j * 4 + 3 ≠ i * 4 + 1 by omega), p3_uLn (show j * 4 + 3 ≠ i * 4 by omega)]
