/-! NUMBERS: digits to the base 2 to the 30th -/
def p3_dg (v k : Nat) : Nat := v / 1073741824 ^ k % 1073741824
/-- the number of the digits o 0 .. o (n - 1) -/
def p3_vl : Nat → (Nat → Nat) → Nat
  | 0, _ => 0
  | n + 1, o => o 0 + 1073741824 * p3_vl n (fun k => o (k + 1))
theorem p3_Ppos (n : Nat) : 0 < 1073741824 ^ n := Nat.pow_pos (by decide)
theorem p3_dg_lt (v k : Nat) : p3_dg v k < 1073741824 := Nat.mod_lt _ (by decide)
theorem p3_dg_0 (v : Nat) : p3_dg v 0 = v % 1073741824 := by
  show v / 1073741824 ^ 0 % 1073741824 = _
  rw [Nat.pow_zero, Nat.div_one]
theorem p3_dg_s (v k : Nat) : p3_dg v (k + 1) = p3_dg (v / 1073741824) k := by
  show v / 1073741824 ^ (k + 1) % 1073741824 = v / 1073741824 / 1073741824 ^ k % 1073741824
  rw [Nat.pow_succ, Nat.mul_comm, ← Nat.div_div_eq_div_mul]
theorem p3_dg_big {v k : Nat} (h : v < 1073741824 ^ k) : p3_dg v k = 0 := by
  show v / 1073741824 ^ k % 1073741824 = 0
  rw [Nat.div_eq_of_lt h]
theorem p3_pow_le {a b : Nat} (h : a ≤ b) : 1073741824 ^ a ≤ 1073741824 ^ b := Nat.pow_le_pow_right (by decide) h
theorem p3_dg_big2 {v n k : Nat} (h : v < 1073741824 ^ n) (hk : n ≤ k) : p3_dg v k = 0 := p3_dg_big (Nat.lt_of_lt_of_le h (p3_pow_le hk))
theorem p3_dg_z (k : Nat) : p3_dg 0 k = 0 := p3_dg_big (p3_Ppos k)
theorem p3_Ps (n : Nat) : 1073741824 ^ (n + 1) = 1073741824 * 1073741824 ^ n := by rw [Nat.pow_succ, Nat.mul_comm]
theorem p3_vl_congr : ∀ (n : Nat) (o o' : Nat → Nat), (∀ k, k < n → o k = o' k) → p3_vl n o = p3_vl n o' := by
  intro n
  induction n with
  | zero => intro o o' _; rfl
  | succ n ih =>
    intro o o' h
    rw [p3_vl, p3_vl, h 0 (by omega), ih _ _ (fun k hk => h (k + 1) (by omega))]
theorem p3_vl_s : ∀ (n : Nat) (o : Nat → Nat), p3_vl (n + 1) o = p3_vl n o + o n * 1073741824 ^ n := by
  intro n
  induction n with
  | zero => intro o; simp [p3_vl]
  | succ n ih =>
    intro o
    rw [p3_vl, ih, p3_vl, p3_Ps, Nat.mul_add, Nat.mul_left_comm, Nat.add_assoc]
theorem p3_vl_lt : ∀ (n : Nat) (o : Nat → Nat), (∀ k, k < n → o k < 1073741824) → p3_vl n o < 1073741824 ^ n := by
  intro n
  induction n with
  | zero => intro o _; simp [p3_vl]
  | succ n ih =>
    intro o h
    have h1 := h 0 (by omega)
    have h2 := ih (fun k => o (k + 1)) (fun k hk => h (k + 1) (by omega))
    rw [p3_vl, p3_Ps]
    show o 0 + 1073741824 * _ < _
    omega
/-- digits below the base are the number's digits -/
theorem p3_dg_of : ∀ (n : Nat) (o : Nat → Nat) (c V : Nat), (∀ k, k < n → o k < 1073741824) → p3_vl n o + c * 1073741824 ^ n = V → ∀ k, k < n → p3_dg V k = o k := by
  intro n
  induction n with
  | zero => intro o c V _ _ k hk; omega
  | succ n ih =>
    intro o c V h e k hk
    have h1 := h 0 (by omega)
    rw [p3_vl, p3_Ps, Nat.mul_left_comm] at e
    have e : o 0 + 1073741824 * p3_vl n (fun k => o (k + 1)) + 1073741824 * (c * 1073741824 ^ n) = V := e
    cases k with
    | zero => rw [p3_dg_0]; omega
    | succ k =>
      rw [p3_dg_s]
      exact ih (fun k => o (k + 1)) c (V / 1073741824) (fun k hk => h (k + 1) (by omega)) (by omega) k (by omega)
theorem p3_vl_dg : ∀ (n v : Nat), p3_vl n (p3_dg v) + v / 1073741824 ^ n * 1073741824 ^ n = v := by
  intro n
  induction n with
  | zero => intro v; simp [p3_vl]
  | succ n ih =>
    intro v
    have h := ih (v / 1073741824)
    rw [p3_vl, p3_dg_0, p3_vl_congr n (fun k => p3_dg v (k + 1)) (p3_dg (v / 1073741824)) (fun k _ => p3_dg_s v k), p3_Ps, ← Nat.div_div_eq_div_mul, Nat.mul_left_comm]
    show v % 1073741824 + 1073741824 * _ + 1073741824 * _ = v
    omega
theorem p3_vl_dg2 {n v : Nat} (h : v < 1073741824 ^ n) : p3_vl n (p3_dg v) = v := by
  have := p3_vl_dg n v
  rw [Nat.div_eq_of_lt h] at this
  omega
theorem p3_dg_inj {n u v : Nat} (hu : u < 1073741824 ^ n) (hv : v < 1073741824 ^ n) (h : ∀ k, k < n → p3_dg u k = p3_dg v k) : u = v := by
  rw [← p3_vl_dg2 hu, ← p3_vl_dg2 hv]
  exact p3_vl_congr n _ _ h
/-- the digits of a number, taken apart at n -/
theorem p3_lt_dg {n u v : Nat} : p3_dg u n < p3_dg v n → u / 1073741824 ^ (n + 1) = v / 1073741824 ^ (n + 1) → u < v := by
  intro h e
  have h : u / 1073741824 ^ n % 1073741824 < v / 1073741824 ^ n % 1073741824 := h
  rw [Nat.pow_succ, ← Nat.div_div_eq_div_mul, ← Nat.div_div_eq_div_mul] at e
  have e : u / 1073741824 ^ n / 1073741824 = v / 1073741824 ^ n / 1073741824 := e
  have h2 : u / 1073741824 ^ n < v / 1073741824 ^ n := by omega
  exact Nat.lt_of_not_le (fun q => by have := Nat.div_le_div_right (c := 1073741824 ^ n) q; omega)
/-- the two top parts agree if digit n does and those above do -/
theorem p3_top {n u v : Nat} (h : p3_dg u n = p3_dg v n) (e : u / 1073741824 ^ (n + 1) = v / 1073741824 ^ (n + 1)) : u / 1073741824 ^ n = v / 1073741824 ^ n := by
  have h : u / 1073741824 ^ n % 1073741824 = v / 1073741824 ^ n % 1073741824 := h
  rw [Nat.pow_succ, ← Nat.div_div_eq_div_mul, ← Nat.div_div_eq_div_mul] at e
  have e : u / 1073741824 ^ n / 1073741824 = v / 1073741824 ^ n / 1073741824 := e
  omega
/-! Int64 and Int32 over Nat: cut and shift by 30 -/
theorem p3_lI {n : Nat} (h : n < 2 ^ 63) : (lN n).toInt = (n : Int) := pk_lT h
theorem p3_shr (v : Int64) : (v >>> (Int32.toInt64 30 &&& 63)).toInt = v.toInt / 1073741824 := by
  have e : (v >>> (Int32.toInt64 30 &&& 63)).toInt = v.toInt >>> 30 := BitVec.toInt_sshiftRight ..
  rw [e, Int.shiftRight_eq_div_pow]
  rfl
theorem p3_and (v : Int64) : (v &&& 1073741823).toInt = v.toInt % 1073741824 := by
  have e1 : (v &&& 1073741823) = lN (v.toBitVec.toNat % 1073741824) := by
    apply Int64.toBitVec_inj.mp
    apply BitVec.eq_of_toNat_eq
    have h : (v &&& 1073741823).toBitVec.toNat = v.toBitVec.toNat &&& 1073741823 := BitVec.toNat_and ..
    rw [h, show (1073741823 : Nat) = 2 ^ 30 - 1 from rfl, Nat.and_two_pow_sub_one_eq_mod]
    have h3 : v.toBitVec.toNat % 1073741824 < 1073741824 := Nat.mod_lt _ (by decide)
    show v.toBitVec.toNat % 1073741824 = (lN (v.toBitVec.toNat % 1073741824)).toBitVec.toNat
    show v.toBitVec.toNat % 1073741824 = (BitVec.ofNat 64 (v.toBitVec.toNat % 1073741824)).toNat
    rw [BitVec.toNat_ofNat]
    omega
  have h3 : v.toBitVec.toNat % 1073741824 < 1073741824 := Nat.mod_lt _ (by decide)
  rw [e1, p3_lI (by omega)]
  have h4 : v.toInt = v.toBitVec.toInt := rfl
  rw [h4, BitVec.toInt_eq_toNat_cond]
  split <;> omega
theorem p3_lshr {n : Nat} (h : n < 2 ^ 63) : lN n >>> (Int32.toInt64 30 &&& 63) = lN (n / 1073741824) := by
  apply Int64.toInt_inj.mp
  rw [p3_shr, p3_lI h, p3_lI (by omega)]
  omega
theorem p3_land {n : Nat} (h : n < 2 ^ 63) : lN n &&& 1073741823 = lN (n % 1073741824) := by
  apply Int64.toInt_inj.mp
  rw [p3_and, p3_lI h, p3_lI (by omega)]
  omega
theorem p3_ne {a b : Nat} (ha : a < 2 ^ 63) (hb : b < 2 ^ 63) : (lg_cmp (lN a) (lN b) = 0 ↔ a = b) ∧ (lg_cmp (lN a) (lN b) < 0 ↔ a < b) ∧ (0 < lg_cmp (lN a) (lN b) ↔ b < a) := by
  obtain ⟨h1, h2, h3⟩ := p2_cmp0 (lN a) (lN b)
  rw [p3_lI ha, p3_lI hb] at h1 h2 h3
  exact ⟨h3.trans (by omega), h1.trans (by omega), h2.trans (by omega)⟩
theorem p3_lsub {a b : Nat} (h : b ≤ a) : lN a - lN b = lN (a - b) := lN_sub h
theorem p3_uLs {f : Nat → Int64} {k : Nat} {x : Int64} : vp_updL f k x k = x := pk_uLs
theorem p3_uLn {f : Nat → Int64} {k j : Nat} {x : Int64} (h : j ≠ k) : vp_updL f k x j = f j := pk_uLn h
