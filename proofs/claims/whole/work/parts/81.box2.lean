/-! the box of the class against the book of the reference -/
def p2_rr (w lim off cnt n : Nat) (c : Nat → Int32) (z : Int32) (bk : Nat → Int32) : Prop := n ≤ lim ∧ z = nI n ∧ bk cnt = nI n ∧ ∀ j, j < n * w → c j = bk (off + j)
/-- an entry of the book between two numbers -/
abbrev p2_e (bk : Nat → Int32) (i : Nat) (lo hi : Int) : Prop := lo ≤ (bk i).toInt ∧ (bk i).toInt ≤ hi
/-- what a book may hold -/
def p2_V (bk : Nat → Int32) (n0 n1 n2 n3 n4 : Nat) : Prop :=
  (∀ p, p < n0 → p2_e bk (8 + 6 * p) 0 99 ∧ p2_e bk (8 + 6 * p + 1) (bk (8 + 6 * p)).toInt 100 ∧ p2_e bk (8 + 6 * p + 2) 0 15 ∧ p2_e bk (8 + 6 * p + 3) 0 15 ∧ p2_e bk (8 + 6 * p + 4) (-1) ((p : Int) - 1) ∧ p2_e bk (8 + 6 * p + 5) 0 4) ∧
  (∀ p, p < n1 → p2_e bk (40 + 2 * p) 0 99 ∧ p2_e bk (40 + 2 * p + 1) (bk (40 + 2 * p)).toInt 99 ∧ (bk (40 + 2 * p + 1)).toInt ≤ (bk (40 + 2 * p)).toInt + 11) ∧
  (∀ h, h < n2 → p2_e bk (50 + 5 * h) 0 ((n1 : Int) - 1) ∧ p2_e bk (50 + 5 * h + 1) 0 15 ∧ p2_e bk (50 + 5 * h + 2) 0 15 ∧ p2_e bk (50 + 5 * h + 3) 0 99 ∧ p2_e bk (50 + 5 * h + 4) (bk (50 + 5 * h + 3)).toInt 99) ∧
  (∀ m, m < n3 → p2_e bk (80 + 4 * m) 0 5 ∧ p2_e bk (80 + 4 * m + 1) 0 ((n2 : Int) - 1) ∧ p2_e bk (80 + 4 * m + 2) 0 ((n0 : Int) - 1) ∧ p2_e bk (80 + 4 * m + 3) 0 ((n0 : Int) - 1)) ∧
  (∀ j, j < n4 → p2_e bk (100 + 3 * j) 0 ((n2 : Int) - 1) ∧ p2_e bk (100 + 3 * j + 1) 0 ((n2 : Int) - 1) ∧ p2_e bk (100 + 3 * j + 2) 0 10 ∧ bk (50 + 5 * (cx_ix (bk (100 + 3 * j)))) ≠ bk (50 + 5 * (cx_ix (bk (100 + 3 * j + 1))))) ∧
  p2_e bk 5 0 9
def p2_RB (c0 : Nat → Int32) (z0 : Int32) (c1 : Nat → Int32) (z1 : Int32) (c2 : Nat → Int32) (z2 : Int32) (c3 : Nat → Int32) (z3 : Int32) (c4 : Nat → Int32) (z4 sg : Int32) (bk : Nat → Int32) (n0 n1 n2 n3 n4 : Nat) : Prop :=
  p2_rr 6 5 8 0 n0 c0 z0 bk ∧ p2_rr 2 4 40 1 n1 c1 z1 bk ∧ p2_rr 5 6 50 2 n2 c2 z2 bk ∧ p2_rr 4 4 80 3 n3 c3 z3 bk ∧ p2_rr 3 4 100 4 n4 c4 z4 bk ∧ sg = bk 5 ∧ p2_V bk n0 n1 n2 n3 n4
/-- a change of the book at one place that no row and no count covers keeps a row -/
theorem p2_rr.keep {w lim off cnt n : Nat} {c : Nat → Int32} {z : Int32} {bk bk' : Nat → Int32} (h : p2_rr w lim off cnt n c z bk) (h1 : bk' cnt = bk cnt) (h2 : ∀ j, j < lim * w → bk' (off + j) = bk (off + j)) : p2_rr w lim off cnt n c z bk' := by
  obtain ⟨a, b, d, e⟩ := h
  refine ⟨a, b, h1.trans d, fun j hj => ?_⟩
  have : n * w ≤ lim * w := Nat.mul_le_mul_right w a
  rw [h2 j (by omega)]
  exact e j hj
/-- strange(v) -/
theorem bx_strange {c0 c1 c2 c3 c4 : Nat → Int32} {z0 z1 z2 z3 z4 sg : Int32} {bk : Nat → Int32} {n0 n1 n2 n3 n4 : Nat} (h : p2_RB c0 z0 c1 z1 c2 z2 c3 z3 c4 z4 sg bk n0 n1 n2 n3 n4) (v : Int32) :
    (¬ (0 ≤ v.toInt ∧ v.toInt ≤ 9) ∧ f_X1_setStrange sg v = some (-2, sg) ∧ ∀ rf q, f_X9_strange bk rf q v = some (-2, bk, p2_rf rf q 0)) ∨
    (-1 ≤ sg.toInt ∧ f_X1_setStrange sg v = some (sg, v) ∧ (∀ rf q, f_X9_strange bk rf q v = some (sg, upd bk 5 v, rf)) ∧ p2_RB c0 z0 c1 z1 c2 z2 c3 z3 c4 z4 v (upd bk 5 v) n0 n1 n2 n3 n4) := by
  obtain ⟨r0, r1, r2, r3, r4, rs, v0, v1, v2, v3, v4, v5⟩ := h
  by_cases hv : 0 ≤ v.toInt ∧ v.toInt ≤ 9
  · right
    refine ⟨by rw [rs]; have := v5.1; omega, ?_, fun rf q => ?_, ?_⟩
    · unfold f_X1_setStrange
      rw [p2_within, Option.bind_some, if_neg (fun h => (p2_b0.mp h) (by exact hv))]
    · unfold f_X9_strange
      rw [p2_in, Option.bind_some, if_neg (fun h => (p2_b0.mp h) (by rw [p2_l]; exact hv)), p2_gd (by decide), p2_gd (by decide), rs]
      rfl
    · have un : ∀ j, j ≠ 5 → upd bk 5 v j = bk j := fun j hj => p2_un hj
      refine ⟨r0.keep (un _ (by decide)) (fun j hj => un _ (by omega)), r1.keep (un _ (by decide)) (fun j hj => un _ (by omega)), r2.keep (un _ (by decide)) (fun j hj => un _ (by omega)), r3.keep (un _ (by decide)) (fun j hj => un _ (by omega)), r4.keep (un _ (by decide)) (fun j hj => un _ (by omega)), p2_us.symm, ?_, ?_, ?_, ?_, ?_, ?_⟩
      · intro p hp
        have := v0 p hp
        simp only [p2_e, un _ (show 8 + 6 * p ≠ 5 by omega), un _ (show 8 + 6 * p + 1 ≠ 5 by omega), un _ (show 8 + 6 * p + 2 ≠ 5 by omega), un _ (show 8 + 6 * p + 3 ≠ 5 by omega), un _ (show 8 + 6 * p + 4 ≠ 5 by omega), un _ (show 8 + 6 * p + 5 ≠ 5 by omega)]
        exact this
      · intro p hp
        have := v1 p hp
        simp only [p2_e, un _ (show 40 + 2 * p ≠ 5 by omega), un _ (show 40 + 2 * p + 1 ≠ 5 by omega)]
        exact this
      · intro p hp
        have := v2 p hp
        simp only [p2_e, un _ (show 50 + 5 * p ≠ 5 by omega), un _ (show 50 + 5 * p + 1 ≠ 5 by omega), un _ (show 50 + 5 * p + 2 ≠ 5 by omega), un _ (show 50 + 5 * p + 3 ≠ 5 by omega), un _ (show 50 + 5 * p + 4 ≠ 5 by omega)]
        exact this
      · intro p hp
        have := v3 p hp
        simp only [p2_e, un _ (show 80 + 4 * p ≠ 5 by omega), un _ (show 80 + 4 * p + 1 ≠ 5 by omega), un _ (show 80 + 4 * p + 2 ≠ 5 by omega), un _ (show 80 + 4 * p + 3 ≠ 5 by omega)]
        exact this
      · intro p hp
        have := v4 p hp
        have e1 : ∀ i, upd bk 5 v (50 + 5 * i) = bk (50 + 5 * i) := fun i => un _ (by omega)
        simp only [p2_e, un _ (show 100 + 3 * p ≠ 5 by omega), un _ (show 100 + 3 * p + 1 ≠ 5 by omega), un _ (show 100 + 3 * p + 2 ≠ 5 by omega), e1]
        exact this
      · rw [p2_e, p2_us]
        exact hv
  · left
    refine ⟨hv, ?_, fun rf q => ?_⟩
    · unfold f_X1_setStrange
      rw [p2_within, Option.bind_some, if_pos (p2_b0.mpr (by exact hv))]
    · unfold f_X9_strange
      rw [p2_in, Option.bind_some, if_pos (p2_b0.mpr (by rw [p2_l]; exact hv)), p2_bad]
      rfl
