section LK2
variable {c0 c1 c2 c3 c4 : Nat → Int32} {z0 z1 z2 z3 z4 sg : Int32} {bk : Nat → Int32} {n0 n1 n2 n3 n4 : Nat}
/-- what the age brings -/
def p2_ag (bk : Nat → Int32) (h r : Nat) (y : Int32) : Int32 :=
  if y - bk (8 + 6 * r + 0) < 0 then 0 else if y ≤ bk (8 + 6 * r + 1) then
    (if (bk (50 + 5 * h + 3)).toInt ≤ (y - bk (8 + 6 * r + 0)).toInt ∧ (y - bk (8 + 6 * r + 0)).toInt ≤ (bk (50 + 5 * h + 4)).toInt then 4
     else if (bk (50 + 5 * h + 3) - 5).toInt ≤ (y - bk (8 + 6 * r + 0)).toInt ∧ (y - bk (8 + 6 * r + 0)).toInt ≤ (bk (50 + 5 * h + 4) + 5).toInt then 2 else 1) else 0
/-- LIKE -/
def p2_lk (bk : Nat → Int32) (h : Nat) (w y : Int32) : Int32 := if w = 5 then p2_mp bk h 5 4 0 (2 * bk 5) else p2_mp bk h w 4 0 1 * p2_ag bk h (cx_ix w) y
/-- the class's two parts of it -/
def p2_lm (bk : Nat → Int32) (h : Nat) (w : Int32) : Int32 := if w = 5 then p2_mp bk h 5 4 0 (bk 5 * 2) else p2_mp bk h w 4 0 1
def p2_la (bk : Nat → Int32) (h : Nat) (w y : Int32) : Int32 := if w = 5 then 1 else p2_ag bk h (cx_ix w) y
theorem p2_lk_eq (bk : Nat → Int32) (h : Nat) (w y : Int32) : p2_lm bk h w * p2_la bk h w y = p2_lk bk h w y := by
  unfold p2_lm p2_la p2_lk
  split
  · rw [Int32.mul_one, Int32.mul_comm (bk 5) 2]
  · rfl
theorem p2_marksLike (h : p2_RB c0 z0 c1 z1 c2 z2 c3 z3 c4 z4 sg bk n0 n1 n2 n3 n4) (i : Nat) (hi : i < n2) (w : Int32) (hw : p2_who n0 w) : f_X1_marksLike c0 z0 c2 z2 sg (nI i) w = some (p2_lm bk i w) := by
  obtain ⟨r0, r1, r2, r3, r4, rs, v0, v1, v2, v3, v4, v5⟩ := h
  unfold f_X1_marksLike f_X1_marksLike_J25 p2_lm
  rw [show f_X4_at 5 30 c2 z2 (nI i) 2 = _ from p2_atH r2 i 2 hi (by decide), Option.bind_some]
  have key := fun x => p2_likeC r0 r2 v0 i hi w hw 4 0 cx_N0 x (by omega) (by unfold cx_N0; omega)
  split
  · rename_i e
    rw [show f_X1_marksLike_L30w c0 z0 c2 z2 (nI i) w (bk (50 + 5 * i + 2)) cx_N0 (sg * 2) 0 = _ from key (sg * 2), rs, e]
  · exact key 1
theorem p2_ageLike (h : p2_RB c0 z0 c1 z1 c2 z2 c3 z3 c4 z4 sg bk n0 n1 n2 n3 n4) (i : Nat) (hi : i < n2) (w y : Int32) (hw : p2_who n0 w) : f_X1_ageLike c0 z0 c2 z2 (nI i) w y = some (p2_la bk i w y) := by
  obtain ⟨r0, r1, r2, r3, r4, rs, v0, v1, v2, v3, v4, v5⟩ := h
  have hn := r0.1
  unfold f_X1_ageLike p2_la
  rcases hw with rfl | ⟨r, hr, rfl⟩
  · rw [if_pos rfl, if_pos rfl]
  · have h5 : ¬ nI r = 5 := p2_nne (b := 5) (by omega) (by omega) (by decide)
    rw [if_neg h5, if_neg h5, p2_ix (n := r) (by omega), show f_X4_at 6 30 c0 z0 (nI r) 0 = _ from p2_atP r0 r 0 hr (by decide), Option.bind_some, show f_X4_at 6 30 c0 z0 (nI r) 1 = _ from p2_atP r0 r 1 hr (by decide), Option.bind_some, show f_X4_at 5 30 c2 z2 (nI i) 3 = _ from p2_atH r2 i 3 hi (by decide), Option.bind_some, show f_X4_at 5 30 c2 z2 (nI i) 4 = _ from p2_atH r2 i 4 hi (by decide), Option.bind_some, p2_within, Option.bind_some, p2_within, Option.bind_some]
    unfold p2_ag
    split
    · rfl
    · split
      · simp only [p2_b0]
        by_cases q : (bk (50 + 5 * i + 3)).toInt ≤ (y - bk (8 + 6 * r + 0)).toInt ∧ (y - bk (8 + 6 * r + 0)).toInt ≤ (bk (50 + 5 * i + 4)).toInt
        · rw [if_neg (not_not_intro q), if_pos q]
        · rw [if_pos q, if_neg q]
          by_cases q2 : (bk (50 + 5 * i + 3) - 5).toInt ≤ (y - bk (8 + 6 * r + 0)).toInt ∧ (y - bk (8 + 6 * r + 0)).toInt ≤ (bk (50 + 5 * i + 4) + 5).toInt
          · rw [if_neg (not_not_intro q2), if_pos q2]
          · rw [if_pos q2, if_neg q2]
      · rfl
theorem p2_likeOf (h : p2_RB c0 z0 c1 z1 c2 z2 c3 z3 c4 z4 sg bk n0 n1 n2 n3 n4) (i : Nat) (hi : i < n2) (w y : Int32) (hw : p2_who n0 w) : f_X9_likeOf bk (nI i) w y = some (p2_lk bk i w y) := by
  obtain ⟨r0, r1, r2, r3, r4, rs, v0, v1, v2, v3, v4, v5⟩ := h
  have hn := r0.1
  have hn2 := r2.1
  have key := fun x => p2_likeM r0 v0 i (by omega) w hw 4 0 cx_N0 x (by omega) (by unfold cx_N0; omega)
  unfold f_X9_likeOf
  rw [p2_gd (by decide)]
  rcases hw with rfl | ⟨r, hr, rfl⟩
  · rw [if_pos rfl]
    unfold f_X9_likeOf_J103 p2_lk
    rw [if_pos rfl]
    exact key (2 * bk 5)
  · have h5 : ¬ nI r = 5 := p2_nne (b := 5) (by omega) (by omega) (by decide)
    have kx : ∀ x : Int32, f_X9_likeOf_J101 bk (nI i) (nI r) x = some (p2_mp bk i (nI r) 4 0 1 * x) := by
      intro x
      unfold f_X9_likeOf_J101 f_X9_likeOf_J103
      rw [show f_X9_likeOf_L106w bk (nI i) (nI r) cx_N0 x 0 = _ from key x, Int32.mul_comm, ← p2_mp_mul, Int32.mul_one]
    unfold p2_lk
    rw [if_neg h5, if_neg h5, p2_ix (n := r) (by omega), show f_X9_ofPerson bk (nI r) 0 = _ from p2_ofPerson r 0 (by omega) (by decide), Option.bind_some, show f_X9_ofHead bk (nI i) 3 = _ from p2_ofHead i 3 (by omega) (by decide), Option.bind_some, show f_X9_ofHead bk (nI i) 4 = _ from p2_ofHead i 4 (by omega) (by decide), Option.bind_some, show f_X9_ofPerson bk (nI r) 1 = _ from p2_ofPerson r 1 (by omega) (by decide), Option.bind_some, p2_in, Option.bind_some, p2_in, Option.bind_some, kx, kx, kx]
    unfold p2_ag
    simp only [p2_l, p2_b0]
    split
    · rw [Int32.mul_zero]
    · split
      · by_cases q : (bk (50 + 5 * i + 3)).toInt ≤ (y - bk (8 + 6 * r + 0)).toInt ∧ (y - bk (8 + 6 * r + 0)).toInt ≤ (bk (50 + 5 * i + 4)).toInt
        · rw [if_neg (not_not_intro q), if_pos q]
        · rw [if_pos q, if_neg q]
          by_cases q2 : (bk (50 + 5 * i + 3) - 5).toInt ≤ (y - bk (8 + 6 * r + 0)).toInt ∧ (y - bk (8 + 6 * r + 0)).toInt ≤ (bk (50 + 5 * i + 4) + 5).toInt
          · rw [if_neg (not_not_intro q2), if_pos q2]
          · rw [if_pos q2, if_neg q2]
      · rw [Int32.mul_zero]
end LK2
