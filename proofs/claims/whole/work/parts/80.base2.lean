/-! PHASE 2: pure facts. First: the small methods of both sides, in words of Int and Nat -/
theorem p2_lt {a b : Int32} : a < b ↔ a.toInt < b.toInt := Int32.lt_iff_toInt_lt
theorem p2_le {a b : Int32} : a ≤ b ↔ a.toInt ≤ b.toInt := Int32.le_iff_toInt_le
theorem p2_eq {a b : Int32} : a = b ↔ a.toInt = b.toInt := Int32.toInt_inj.symm
theorem p2_lo (a : Int32) : -2147483648 ≤ a.toInt := by have := a.le_toInt; simpa using this
theorem p2_hi (a : Int32) : a.toInt < 2147483648 := by have := a.toInt_lt; simpa using this
theorem p2_add {a b : Int32} (h1 : -2147483648 ≤ a.toInt + b.toInt) (h2 : a.toInt + b.toInt < 2147483648) : (a + b).toInt = a.toInt + b.toInt := by
  rw [Int32.toInt_add]
  exact Int.bmod_eq_of_le (by omega) (by omega)
theorem p2_sub {a b : Int32} (h1 : -2147483648 ≤ a.toInt - b.toInt) (h2 : a.toInt - b.toInt < 2147483648) : (a - b).toInt = a.toInt - b.toInt := by
  rw [Int32.toInt_sub]
  exact Int.bmod_eq_of_le (by omega) (by omega)
theorem p2_mul {a b : Int32} (h1 : -2147483648 ≤ a.toInt * b.toInt) (h2 : a.toInt * b.toInt < 2147483648) : (a * b).toInt = a.toInt * b.toInt := by
  rw [Int32.toInt_mul]
  exact Int.bmod_eq_of_le (by omega) (by omega)
theorem p2_l (a : Int32) : (Int32.toInt64 a).toInt = a.toInt := by simp
/-- a truth as the machine has it -/
abbrev p2_b (P : Prop) [Decidable P] : Int32 := if P then 1 else 0
theorem p2_b0 {P : Prop} [Decidable P] : p2_b P = 0 ↔ ¬ P := by
  unfold p2_b; split <;> simp_all
theorem p2_within (v l h : Int32) : f_X8_within v l h = some (p2_b (l.toInt ≤ v.toInt ∧ v.toInt ≤ h.toInt)) := by
  unfold f_X8_within
  simp only [p2_lt]
  split
  · rw [p2_b, if_neg (by omega)]
  · split
    · rw [p2_b, if_neg (by omega)]
    · rw [p2_b, if_pos (by omega)]
theorem p2_cmp0 (x y : Int64) : (lg_cmp x y < 0 ↔ x.toInt < y.toInt) ∧ (0 < lg_cmp x y ↔ y.toInt < x.toInt) ∧ (lg_cmp x y = 0 ↔ x.toInt = y.toInt) := by
  unfold lg_cmp
  simp only [gt_iff_lt, Int64.lt_iff_toInt_lt, ← Int64.toInt_inj]
  by_cases h1 : y.toInt < x.toInt
  · simp only [if_pos h1]
    refine ⟨⟨fun h => absurd h (by decide), fun h => by omega⟩, ⟨fun _ => h1, fun _ => by decide⟩, ⟨fun h => absurd h (by decide), fun h => by omega⟩⟩
  · simp only [if_neg h1]
    by_cases h2 : x.toInt = y.toInt
    · simp only [if_pos h2]
      refine ⟨⟨fun h => absurd h (by decide), fun h => by omega⟩, ⟨fun h => absurd h (by decide), fun h => by omega⟩, ⟨fun _ => h2, fun _ => by decide⟩⟩
    · simp only [if_neg h2]
      refine ⟨⟨fun _ => by omega, fun _ => by decide⟩, ⟨fun h => absurd h (by decide), fun h => by omega⟩, ⟨fun h => absurd h (by decide), fun h => by omega⟩⟩
theorem p2_in (v l h : Int64) : f_X9_in v l h = some (p2_b (l.toInt ≤ v.toInt ∧ v.toInt ≤ h.toInt)) := by
  unfold f_X9_in
  simp only [(p2_cmp0 _ _).1, (p2_cmp0 _ _).2.1]
  split
  · rw [p2_b, if_neg (by omega)]
  · split
    · rw [p2_b, if_neg (by omega)]
    · rw [p2_b, if_pos (by omega)]
theorem p2_has (z p : Int32) : f_X4_has z p = some (p2_b (0 ≤ p.toInt ∧ p.toInt < z.toInt)) := by
  unfold f_X4_has
  simp only [p2_lt, p2_le]
  have e : (0 : Int32).toInt = 0 := rfl
  rw [e]
  split
  · rw [p2_b, if_neg (by omega)]
  · split
    · rw [p2_b, if_neg (by omega)]
    · rw [p2_b, if_pos (by omega)]
theorem p2_gd {β : Type} {b : Bool} {x : Option β} (h : b = true) : cx_gd b x = x := by unfold cx_gd; rw [if_pos h]
theorem p2_ib {n N : Nat} (h : n < N) (hN : N < 2 ^ 31) : cx_ib (nI n) N = true := by
  unfold cx_ib
  rw [nI_toInt (by omega)]
  exact decide_eq_true (by omega)
theorem p2_ix {n : Nat} (h : n < 2 ^ 31) : cx_ix (nI n) = n := nI_clamp h
theorem p2_isFull (lim z : Int32) : f_X4_isFull lim z = some (p2_b (lim.toInt ≤ z.toInt)) := by
  unfold f_X4_isFull
  simp only [p2_lt]
  split
  · rw [p2_b, if_neg (by omega)]
  · rw [p2_b, if_pos (by omega)]
/-- Rows.at inside -/
theorem p2_at {w n z r c : Nat} (f : Nat → Int32) (hr : r < z) (hc : c < w) (hn : r * w + c < n) (hN : n < 2 ^ 31) (hz : z < 2 ^ 31) (hw : w < 2 ^ 31) : f_X4_at (nI w) n f (nI z) (nI r) (nI c) = some (f (r * w + c)) := by
  unfold f_X4_at
  rw [if_neg (nI_pos (by omega)), if_neg (nI_ge hr hz), if_neg (nI_pos (by omega)), if_neg (nI_ge hc hw), pk_mul, nI_add, p2_gd (p2_ib hn hN), p2_ix (by omega)]
/-- Rows.put inside -/
theorem p2_put {w n z r c : Nat} (f : Nat → Int32) (v : Int32) (hr : r < z) (hc : c < w) (hn : r * w + c < n) (hN : n < 2 ^ 31) (hz : z < 2 ^ 31) (hw : w < 2 ^ 31) : f_X4_put (nI w) n f (nI z) (nI r) (nI c) v = some (upd f (r * w + c) v) := by
  unfold f_X4_put
  have e1 : (nI r).toInt = (r : Int) := nI_toInt (by omega)
  have e2 : (nI z).toInt = (z : Int) := nI_toInt hz
  have e3 : (nI c).toInt = (c : Int) := nI_toInt (by omega)
  have e4 : nI w - 1 = nI (w - 1) := by
    obtain ⟨w', rfl⟩ : ∃ w', w = w' + 1 := ⟨w - 1, by omega⟩
    exact nI_pred w'
  have e5 : (nI (w - 1)).toInt = ((w - 1 : Nat) : Int) := nI_toInt (by omega)
  rw [p2_has, Option.bind_some, if_neg (fun h => (p2_b0.mp h) (by rw [e1, e2]; omega)), p2_within, Option.bind_some, if_neg (fun h => (p2_b0.mp h) (by rw [e3, e4, e5]; exact ⟨by show (0 : Int) ≤ _; omega, by omega⟩)), pk_mul, nI_add, p2_gd (p2_ib hn hN), p2_ix (by omega)]
  rfl
theorem p2_grow {lim z : Nat} (h : z < lim) (hl : lim < 2 ^ 31) : f_X4_grow (nI lim) (nI z) = some (nI z, nI (z + 1)) := by
  unfold f_X4_grow f_X4_grow_J17
  have e1 : (nI z).toInt = (z : Int) := nI_toInt (by omega)
  have e2 : (nI lim).toInt = (lim : Int) := nI_toInt hl
  rw [p2_isFull, Option.bind_some, if_pos (p2_b0.mpr (by rw [e1, e2]; omega)), nI_1, nI_pred]
theorem p2_refused (f : Nat → Int32) (a : Int32) : f_X8_refused f a = some (a, upd f (if a = -3 then 1 else if a = -4 then 2 else 0) (f (if a = -3 then 1 else if a = -4 then 2 else 0) + 1)) := by
  unfold f_X8_refused f_X8_refused_J21
  split
  · rfl
  · split
    · rfl
    · rfl
theorem p2_told_ok (f : Nat → Int32) (sm a : Int32) (h : -1 ≤ a.toInt) : f_X8_told f sm a = some (a, -1, f) := by
  unfold f_X8_told
  rw [if_pos (show (-1 : Int32) ≤ a from p2_le.mpr (by have e : (-1 : Int32).toInt = -1 := rfl; omega))]
theorem p2_told_no (f : Nat → Int32) (sm a : Int32) (h : a.toInt < -1) : f_X8_told f sm a = some (a, sm, upd f (if a = -3 then 1 else if a = -4 then 2 else 0) (f (if a = -3 then 1 else if a = -4 then 2 else 0) + 1)) := by
  unfold f_X8_told
  rw [if_neg (fun q => by have := p2_le.mp q; have e : (-1 : Int32).toInt = -1 := rfl; omega), p2_refused, Option.bind_some]
/-- a refusal counts, unless it is quiet -/
abbrev p2_rf (f : Nat → Int32) (q : Int32) (i : Nat) : Nat → Int32 := upd f i (f i + if q = 0 then 1 else 0)
theorem p2_refuses (f : Nat → Int32) (q : Int32) (i : Nat) (a : Int32) (hi : i < 3) : f_X9_refuses f q (nI i) a = some (a, p2_rf f q i) := by
  unfold f_X9_refuses f_X9_refuses_J19
  rw [p2_gd (p2_ib hi (by decide))]
  split
  · rename_i h
    rw [p2_gd (p2_ib hi (by decide)), p2_ix (by omega), p2_rf, if_pos h]
    rfl
  · rename_i h
    rw [p2_gd (p2_ib hi (by decide)), p2_ix (by omega), p2_rf, if_neg h]
    rfl
theorem p2_bad (f : Nat → Int32) (q : Int32) : f_X9_bad f q = some (-2, p2_rf f q 0) := by
  unfold f_X9_bad
  rw [show f_X9_refuses f q 0 (-2) = _ from p2_refuses f q 0 (-2) (by decide)]
  rfl
theorem p2_no (f : Nat → Int32) (q : Int32) : f_X9_no f q = some (-3, p2_rf f q 1) := by
  unfold f_X9_no
  rw [show f_X9_refuses f q 1 (-3) = _ from p2_refuses f q 1 (-3) (by decide)]
  rfl
theorem p2_full (f : Nat → Int32) (q : Int32) : f_X9_full f q = some (-4, p2_rf f q 2) := by
  unfold f_X9_full
  rw [show f_X9_refuses f q 2 (-4) = _ from p2_refuses f q 2 (-4) (by decide)]
  rfl
theorem p2_us {f : Nat → Int32} {k : Nat} {x : Int32} : upd f k x k = x := pk_us
theorem p2_un {f : Nat → Int32} {k j : Nat} {x : Int32} (h : j ≠ k) : upd f k x j = f j := pk_un h
