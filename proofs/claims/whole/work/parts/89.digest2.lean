theorem p2_or0 {a b : Int64} : a ||| b = 0 ↔ a = 0 ∧ b = 0 := by
  constructor
  · intro h
    have h1 : a.toBitVec ||| b.toBitVec = 0 := by
      have := congrArg Int64.toBitVec h
      simpa using this
    have h2 : ∀ i, (a.toBitVec.getLsbD i || b.toBitVec.getLsbD i) = false := fun i => by
      have := congrArg (fun z => BitVec.getLsbD z i) h1
      simpa using this
    refine ⟨Int64.toBitVec_inj.mp (BitVec.eq_of_getLsbD_eq fun i _ => ?_), Int64.toBitVec_inj.mp (BitVec.eq_of_getLsbD_eq fun i _ => ?_)⟩
    · have := h2 i
      simp only [Bool.or_eq_false_iff] at this
      simpa using this.1
    · have := h2 i
      simp only [Bool.or_eq_false_iff] at this
      simpa using this.2
  · rintro ⟨rfl, rfl⟩
    rfl
theorem p2_isZero4 (x : Nat → Int64) : f_X2_isZero x = some (p2_b (x 0 = 0 ∧ x 1 = 0 ∧ x 2 = 0 ∧ x 3 = 0)) := by
  unfold f_X2_isZero f_X3_isZero
  rw [p2_gd (by decide), p2_gd (by decide), p2_gd (by decide), p2_gd (by decide)]
  show Option.bind (if lg_cmp (((x 0 ||| x 1) ||| x 2) ||| x 3) 0 = 0 then some 1 else some 0) _ = _
  have e : lg_cmp (((x 0 ||| x 1) ||| x 2) ||| x 3) 0 = 0 ↔ (x 0 = 0 ∧ x 1 = 0 ∧ x 2 = 0 ∧ x 3 = 0) := by
    rw [(p2_cmp0 _ _).2.2, Int64.toInt_inj, p2_or0, p2_or0, p2_or0]
    simp only [and_assoc]
  by_cases h : x 0 = 0 ∧ x 1 = 0 ∧ x 2 = 0 ∧ x 3 = 0
  · rw [if_pos (e.mpr h), p2_b, if_pos h]
    rfl
  · rw [if_neg (fun q => h (e.mp q)), p2_b, if_neg h]
    rfl
theorem p2_F1z {x : Nat → Int64} {lb : Nat → Int32} {wd : Int32} {off l : Nat} (h : p2_F1 x lb wd off l) : f_X2_isZero x = some (p2_b (l = 0)) := by
  obtain ⟨h1, h2, h3, h4, h5⟩ := h
  rw [p2_isZero4]
  congr 1
  by_cases hl : l = 0
  · subst hl
    rw [p2_b, p2_b, if_pos rfl, if_pos ⟨h4 0 (by omega) (by omega), h4 1 (by omega) (by omega), h4 2 (by omega) (by omega), h4 3 (by omega) (by omega)⟩]
  · rw [p2_b, p2_b, if_neg hl, if_neg (fun q => ?_)]
    have h6 := h5 (by omega)
    rcases (show l - 1 = 0 ∨ l - 1 = 1 ∨ l - 1 = 2 ∨ l - 1 = 3 by omega) with e | e | e | e <;> rw [e] at h6
    · exact h6 q.1
    · exact h6 q.2.1
    · exact h6 q.2.2.1
    · exact h6 q.2.2.2
section DG
variable {c0 c1 c2 c3 c4 : Nat → Int32} {z0 z1 z2 z3 z4 sg : Int32} {bk : Nat → Int32} {n0 n1 n2 n3 n4 : Nat}
/-- the box, mixed -/
def p2_mb (bk : Nat → Int32) (n0 n1 n2 n3 n4 : Nat) (h : Int64) : Int64 :=
  31 * p2_mix (fun j => Int32.toInt64 (bk j)) (3 * n4) 100 (p2_mix (fun j => Int32.toInt64 (bk j)) (4 * n3) 80 (p2_mix (fun j => Int32.toInt64 (bk j)) (5 * n2) 50 (p2_mix (fun j => Int32.toInt64 (bk j)) (2 * n1) 40 (p2_mix (fun j => Int32.toInt64 (bk j)) (6 * n0) 8 h)))) + Int32.toInt64 (bk 5)
theorem p2_mixB (h : p2_RB c0 z0 c1 z1 c2 z2 c3 z3 c4 z4 sg bk n0 n1 n2 n3 n4) (v : Int64) : f_X1_mixInto c0 z0 c1 z1 c2 z2 c3 z3 c4 z4 sg v = some (p2_mb bk n0 n1 n2 n3 n4 v) := by
  obtain ⟨r0, r1, r2, r3, r4, rs, -⟩ := h
  unfold f_X1_mixInto p2_mb
  rw [show f_X4_mixInto 6 30 c0 z0 v = _ from (p2_mixR 6 5 8 0 n0 c0 z0 r0 (by decide) v).1, Option.bind_some]
  rw [show f_X4_mixInto 2 8 c1 z1 _ = _ from (p2_mixR 2 4 40 1 n1 c1 z1 r1 (by decide) _).1, Option.bind_some]
  rw [show f_X4_mixInto 5 30 c2 z2 _ = _ from (p2_mixR 5 6 50 2 n2 c2 z2 r2 (by decide) _).1, Option.bind_some]
  rw [show f_X4_mixInto 4 16 c3 z3 _ = _ from (p2_mixR 4 4 80 3 n3 c3 z3 r3 (by decide) _).1, Option.bind_some]
  rw [show f_X4_mixInto 3 12 c4 z4 _ = _ from (p2_mixR 3 4 100 4 n4 c4 z4 r4 (by decide) _).1, Option.bind_some, rs]
/-- a fraction's digits, mixed, on the class's side -/
theorem p2_mixF {x : Nat → Int64} {lb : Nat → Int32} {wd : Int32} {off l : Nat} (h : p2_F1 x lb wd off l) (v : Int64) : f_X3_mixInto v 4 x 0 = some (p2_mix x l 0 v) := by
  have hl := h.1
  unfold f_X3_mixInto
  rw [p2_length h, Option.bind_some]
  have key : ∀ (k i m : Nat) (v : Int64), i + k = l → k < m → f_X3_mixInto_L13w 4 x 0 (nI l) m v (nI i) = some (p2_mix x k i v) := by
    intro k
    induction k with
    | zero =>
      intro i m v a1 a2
      obtain ⟨m, rfl⟩ : ∃ j, m = j + 1 := ⟨m - 1, by omega⟩
      show f_X3_mixInto_L13 4 x 0 (nI l) (f_X3_mixInto_L13w 4 x 0 (nI l) m) v (nI i) = _
      unfold f_X3_mixInto_L13
      rw [if_pos (nI_le (by omega) (by omega))]
      rfl
    | succ k ih =>
      intro i m v a1 a2
      obtain ⟨m, rfl⟩ : ∃ j, m = j + 1 := ⟨m - 1, by omega⟩
      show f_X3_mixInto_L13 4 x 0 (nI l) (f_X3_mixInto_L13w 4 x 0 (nI l) m) v (nI i) = _
      unfold f_X3_mixInto_L13
      rw [if_neg (nI_ge (by omega) (by omega)), show ((0 : Int32) * 4 + nI i) = nI i from by rw [show (0 : Int32) * 4 = nI 0 from rfl, nI_add, show 0 + i = i by omega], p2_gd (p2_ib (by omega) (by decide)), p2_ix (n := i) (by omega), nI_1]
      exact ih (i + 1) m _ (by omega) (by omega)
  exact key l 0 cx_N0 v (by omega) (by unfold cx_N0; omega)
end DG
