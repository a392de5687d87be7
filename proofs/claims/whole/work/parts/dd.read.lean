/-! READ -/
theorem t_rf1 (rf : Nat → Int32) (i : Nat) : ∀ j, p2_rf rf 1 i j = rf j := by
  intro j
  show upd rf i (rf i + if (1 : Int32) = 0 then 1 else 0) j = rf j
  rw [if_neg (by decide), Int32.add_zero]
  by_cases c : j = i
  · rw [c, p2_us]
  · rw [p2_un c]
theorem t_neg {r : Int32} {i : Nat} (h : r = -2 ∧ i = 0 ∨ r = -4 ∧ i = 2) : r < -1 := by
  rcases h with ⟨h, _⟩ | ⟨h, _⟩ <;> rw [h] <;> decide
theorem t_nneg {a : Int32} (h : -1 ≤ a.toInt) : ¬ a < -1 := by
  intro q
  have := p2_lt.mp q
  have e : (-1 : Int32).toInt = -1 := rfl
  omega
section RD
variable {c0 c1 c2 c3 c4 : Nat → Int32} {z0 z1 z2 z3 z4 sg : Int32} {bk : Nat → Int32} {n0 n1 n2 n3 n4 : Nat}
/-- telling an item: refused, or told -/
def t_TI (c0 : Nat → Int32) (z0 : Int32) (c1 : Nat → Int32) (z1 : Int32) (c2 : Nat → Int32) (z2 : Int32) (c3 : Nat → Int32) (z3 : Int32) (c4 : Nat → Int32) (z4 sg : Int32) (bk : Nat → Int32) (it : Int32) (nums items : Nat → Int32) (m : Nat) : Prop :=
  (∃ r, r < -1 ∧ f_X6_tellItem it nums c0 z0 c1 z1 c2 z2 c3 z3 c4 z4 sg = some (r, sg, z0, c0, z1, c1, z2, c2, z3, c3, z4, c4) ∧ ∀ rf, ∃ rf', f_X9_tellsItem bk rf 1 items (nI m) = some (0, bk, rf') ∧ ∀ j, rf' j = rf j) ∨
  (∃ (a sg' z0' : Int32) (c0' : Nat → Int32) (z1' : Int32) (c1' : Nat → Int32) (z2' : Int32) (c2' : Nat → Int32) (z3' : Int32) (c3' : Nat → Int32) (z4' : Int32) (c4' bk' : Nat → Int32), ¬ a < -1 ∧ f_X6_tellItem it nums c0 z0 c1 z1 c2 z2 c3 z3 c4 z4 sg = some (a, sg', z0', c0', z1', c1', z2', c2', z3', c3', z4', c4') ∧ (∀ rf, f_X9_tellsItem bk rf 1 items (nI m) = some (1, bk', rf)) ∧ ∃ n0 n1 n2 n3 n4, p2_RB c0' z0' c1' z1' c2' z2' c3' z3' c4' z4' sg' bk' n0 n1 n2 n3 n4)
theorem t_tellItem (hRB : p2_RB c0 z0 c1 z1 c2 z2 c3 z3 c4 z4 sg bk n0 n1 n2 n3 n4) {it m : Nat} (hm : m ≤ 100) (hit : it < 8) (nums items : Nat → Int32) (h0 : items (6 * m) = nI it) (hn : ∀ i, i < s_N it → nums i = items (6 * m + 1 + i)) : t_TI c0 z0 c1 z1 c2 z2 c3 z3 c4 z4 sg bk (nI it) nums items m := by
  have e6 : (6 : Int32) * nI m = nI (6 * m) := pk_mul 6 m
  have x1 : nI (6 * m) + 1 = nI (6 * m + 1) := nI_1 _
  have x2 : nI (6 * m) + 2 = nI (6 * m + 2) := nI_add _ 2
  have x3 : nI (6 * m) + 3 = nI (6 * m + 3) := nI_add _ 3
  have x4 : nI (6 * m) + 4 = nI (6 * m + 4) := nI_add _ 4
  have x5 : nI (6 * m) + 5 = nI (6 * m + 5) := nI_add _ 5
  have hT : ∀ rf, f_X9_tellsItem bk rf 1 items (nI m) = (if nI it = 0 then Option.bind (f_X9_person bk rf 1 (items (6 * m + 1)) (items (6 * m + 2)) (items (6 * m + 3)) (items (6 * m + 4))) (fun u => f_X9_tellsItem_J196 u.2.1 u.2.2 u.1) else if nI it = 1 then Option.bind (f_X9_parent bk rf 1 (items (6 * m + 1)) (items (6 * m + 2))) (fun u => f_X9_tellsItem_J196 u.2.1 u.2.2 u.1) else if nI it = 2 then Option.bind (f_X9_near bk rf 1 (items (6 * m + 1)) (items (6 * m + 2))) (fun u => f_X9_tellsItem_J196 u.2.1 u.2.2 u.1) else if nI it = 3 then Option.bind (f_X9_picture bk rf 1 (items (6 * m + 1)) (items (6 * m + 2))) (fun u => f_X9_tellsItem_J196 u.2.1 u.2.2 u.1) else if nI it = 4 then Option.bind (f_X9_head bk rf 1 (items (6 * m + 1)) (items (6 * m + 2)) (items (6 * m + 3)) (items (6 * m + 4)) (items (6 * m + 5))) (fun u => f_X9_tellsItem_J196 u.2.1 u.2.2 u.1) else if nI it = 5 then Option.bind (f_X9_name bk rf 1 (items (6 * m + 1)) (items (6 * m + 2)) (items (6 * m + 3)) (items (6 * m + 4))) (fun u => f_X9_tellsItem_J196 u.2.1 u.2.2 u.1) else if nI it = 6 then Option.bind (f_X9_join bk rf 1 (items (6 * m + 1)) (items (6 * m + 2)) (items (6 * m + 3))) (fun u => f_X9_tellsItem_J196 u.2.1 u.2.2 u.1) else Option.bind (f_X9_strange bk rf 1 (items (6 * m + 1))) (fun u => f_X9_tellsItem_J196 u.2.1 u.2.2 u.1)) := by
    intro rf
    unfold f_X9_tellsItem
    rw [e6, x1, x2, x3, x4, x5]
    simp only [cx_let]
    rw [p2_gd (p2_ib (by omega) (by decide)), p2_gd (p2_ib (by omega) (by decide)), p2_gd (p2_ib (by omega) (by decide)), p2_gd (p2_ib (by omega) (by decide)), p2_gd (p2_ib (by omega) (by decide)), p2_gd (p2_ib (by omega) (by decide)), p2_ix (n := 6 * m + 1) (by omega), p2_ix (n := 6 * m + 2) (by omega), p2_ix (n := 6 * m + 3) (by omega), p2_ix (n := 6 * m + 4) (by omega), p2_ix (n := 6 * m + 5) (by omega), p2_ix (n := 6 * m) (by omega), h0]
  have jF : ∀ (b r : Nat → Int32) (a : Int32), a < -1 → f_X9_tellsItem_J196 b r a = some (0, b, r) := fun b r a h => by unfold f_X9_tellsItem_J196; rw [if_pos h]
  have jT : ∀ (b r : Nat → Int32) (a : Int32), ¬ a < -1 → f_X9_tellsItem_J196 b r a = some (1, b, r) := fun b r a h => by unfold f_X9_tellsItem_J196; rw [if_neg h]
  have nneg : ∀ n : Nat, n < 10 → ¬ nI n < -1 := fun n hn => t_nneg (by rw [nI_toInt (by omega)]; omega)
  unfold t_TI
  simp only [hT]
  unfold f_X6_tellItem
  obtain ⟨r0, r1, r2, r3, r4, rs, v0, v1, v2, v3, v4, v5⟩ := id hRB
  have b0 := r0.1
  have b1 := r1.1
  have b2 := r2.1
  have b3 := r3.1
  have b4 := r4.1
  rcases (show it = 0 ∨ it = 1 ∨ it = 2 ∨ it = 3 ∨ it = 4 ∨ it = 5 ∨ it = 6 ∨ it = 7 by omega) with q | q | q | q | q | q | q | q <;> subst q
  · simp only [show nI 0 = 0 from rfl, if_pos]
    rw [p2_gd (by decide), p2_gd (by decide), p2_gd (by decide), p2_gd (by decide), show nums (cx_ix 0) = items (6 * m + 1) from hn 0 (by decide), show nums (cx_ix 1) = items (6 * m + 2) from hn 1 (by decide), show nums (cx_ix 2) = items (6 * m + 3) from hn 2 (by decide), show nums (cx_ix 3) = items (6 * m + 4) from hn 3 (by decide)]
    rcases bx_person hRB (items (6 * m + 1)) (items (6 * m + 2)) (items (6 * m + 3)) (items (6 * m + 4)) with ⟨r, i, g1, g2, g3⟩ | ⟨g0, z', c', bk', g1, g2, g3⟩
    · left
      refine ⟨r, t_neg g1, by rw [g2, Option.bind_some], fun rf => ⟨_, by rw [g3, Option.bind_some, jF _ _ _ (t_neg g1)], t_rf1 rf i⟩⟩
    · right
      exact ⟨_, _, _, _, _, _, _, _, _, _, _, _, bk', nneg n0 (by omega), by rw [g1, Option.bind_some], fun rf => by rw [g2, Option.bind_some, jT _ _ _ (nneg n0 (by omega))], _, _, _, _, _, g3⟩
  · simp only [show nI 1 = 1 from rfl, show ¬ ((1 : Int32) = 0) by decide, ↓reduceIte]
    rw [p2_gd (by decide), p2_gd (by decide), show nums (cx_ix 0) = items (6 * m + 1) from hn 0 (by decide), show nums (cx_ix 1) = items (6 * m + 2) from hn 1 (by decide)]
    rcases bx_parent hRB (items (6 * m + 1)) (items (6 * m + 2)) with ⟨g2, g3⟩ | ⟨a, c', bk', g0, g1, g2, g3⟩
    · left
      refine ⟨-10, by decide, by rw [g2, Option.bind_some], fun rf => ⟨_, by rw [g3, Option.bind_some, jF _ _ _ (show (-10 : Int32) < -1 by decide)], t_rf1 rf 0⟩⟩
    · right
      exact ⟨_, _, _, _, _, _, _, _, _, _, _, _, bk', t_nneg g0, by rw [g1, Option.bind_some], fun rf => by rw [g2, Option.bind_some, jT _ _ _ (t_nneg g0)], _, _, _, _, _, g3⟩
  · simp only [show nI 2 = 2 from rfl, show ¬ ((2 : Int32) = 0) by decide, show ¬ ((2 : Int32) = 1) by decide, ↓reduceIte]
    rw [p2_gd (by decide), p2_gd (by decide), show nums (cx_ix 0) = items (6 * m + 1) from hn 0 (by decide), show nums (cx_ix 1) = items (6 * m + 2) from hn 1 (by decide)]
    rcases bx_near hRB (items (6 * m + 1)) (items (6 * m + 2)) with ⟨g2, g3⟩ | ⟨a, c', bk', g0, g1, g2, g3⟩
    · left
      refine ⟨-2, by decide, by rw [g2, Option.bind_some], fun rf => ⟨_, by rw [g3, Option.bind_some, jF _ _ _ (show (-2 : Int32) < -1 by decide)], t_rf1 rf 0⟩⟩
    · right
      exact ⟨_, _, _, _, _, _, _, _, _, _, _, _, bk', t_nneg g0, by rw [g1, Option.bind_some], fun rf => by rw [g2, Option.bind_some, jT _ _ _ (t_nneg g0)], _, _, _, _, _, g3⟩
  · simp only [show nI 3 = 3 from rfl, show ¬ ((3 : Int32) = 0) by decide, show ¬ ((3 : Int32) = 1) by decide, show ¬ ((3 : Int32) = 2) by decide, ↓reduceIte]
    rw [p2_gd (by decide), p2_gd (by decide), show nums (cx_ix 0) = items (6 * m + 1) from hn 0 (by decide), show nums (cx_ix 1) = items (6 * m + 2) from hn 1 (by decide)]
    rcases bx_picture hRB (items (6 * m + 1)) (items (6 * m + 2)) with ⟨r, i, g1, g2, g3⟩ | ⟨g0, z', c', bk', g1, g2, g3⟩
    · left
      refine ⟨r, t_neg g1, by rw [g2, Option.bind_some], fun rf => ⟨_, by rw [g3, Option.bind_some, jF _ _ _ (t_neg g1)], t_rf1 rf i⟩⟩
    · right
      exact ⟨_, _, _, _, _, _, _, _, _, _, _, _, bk', nneg n1 (by omega), by rw [g1, Option.bind_some], fun rf => by rw [g2, Option.bind_some, jT _ _ _ (nneg n1 (by omega))], _, _, _, _, _, g3⟩
  · simp only [show nI 4 = 4 from rfl, show ¬ ((4 : Int32) = 0) by decide, show ¬ ((4 : Int32) = 1) by decide, show ¬ ((4 : Int32) = 2) by decide, show ¬ ((4 : Int32) = 3) by decide, ↓reduceIte]
    rw [p2_gd (by decide), p2_gd (by decide), p2_gd (by decide), p2_gd (by decide), p2_gd (by decide), show nums (cx_ix 0) = items (6 * m + 1) from hn 0 (by decide), show nums (cx_ix 1) = items (6 * m + 2) from hn 1 (by decide), show nums (cx_ix 2) = items (6 * m + 3) from hn 2 (by decide), show nums (cx_ix 3) = items (6 * m + 4) from hn 3 (by decide), show nums (cx_ix 4) = items (6 * m + 5) from hn 4 (by decide)]
    rcases bx_head hRB (items (6 * m + 1)) (items (6 * m + 2)) (items (6 * m + 3)) (items (6 * m + 4)) (items (6 * m + 5)) with ⟨r, i, g1, g2, g3⟩ | ⟨g0, z', c', bk', g1, g2, g3⟩
    · left
      refine ⟨r, t_neg g1, by rw [g2, Option.bind_some], fun rf => ⟨_, by rw [g3, Option.bind_some, jF _ _ _ (t_neg g1)], t_rf1 rf i⟩⟩
    · right
      exact ⟨_, _, _, _, _, _, _, _, _, _, _, _, bk', nneg n2 (by omega), by rw [g1, Option.bind_some], fun rf => by rw [g2, Option.bind_some, jT _ _ _ (nneg n2 (by omega))], _, _, _, _, _, g3⟩
  · simp only [show nI 5 = 5 from rfl, show ¬ ((5 : Int32) = 0) by decide, show ¬ ((5 : Int32) = 1) by decide, show ¬ ((5 : Int32) = 2) by decide, show ¬ ((5 : Int32) = 3) by decide, show ¬ ((5 : Int32) = 4) by decide, ↓reduceIte]
    rw [p2_gd (by decide), p2_gd (by decide), p2_gd (by decide), p2_gd (by decide), show nums (cx_ix 0) = items (6 * m + 1) from hn 0 (by decide), show nums (cx_ix 1) = items (6 * m + 2) from hn 1 (by decide), show nums (cx_ix 2) = items (6 * m + 3) from hn 2 (by decide), show nums (cx_ix 3) = items (6 * m + 4) from hn 3 (by decide)]
    rcases bx_name hRB (items (6 * m + 1)) (items (6 * m + 2)) (items (6 * m + 3)) (items (6 * m + 4)) with ⟨r, i, g1, g2, g3⟩ | ⟨g0, z', c', bk', g1, g2, g3⟩
    · left
      refine ⟨r, t_neg g1, by rw [g2, Option.bind_some], fun rf => ⟨_, by rw [g3, Option.bind_some, jF _ _ _ (t_neg g1)], t_rf1 rf i⟩⟩
    · right
      exact ⟨_, _, _, _, _, _, _, _, _, _, _, _, bk', nneg n3 (by omega), by rw [g1, Option.bind_some], fun rf => by rw [g2, Option.bind_some, jT _ _ _ (nneg n3 (by omega))], _, _, _, _, _, g3⟩
  · simp only [show nI 6 = 6 from rfl, show ¬ ((6 : Int32) = 0) by decide, show ¬ ((6 : Int32) = 1) by decide, show ¬ ((6 : Int32) = 2) by decide, show ¬ ((6 : Int32) = 3) by decide, show ¬ ((6 : Int32) = 4) by decide, show ¬ ((6 : Int32) = 5) by decide, ↓reduceIte]
    rw [p2_gd (by decide), p2_gd (by decide), p2_gd (by decide), show nums (cx_ix 0) = items (6 * m + 1) from hn 0 (by decide), show nums (cx_ix 1) = items (6 * m + 2) from hn 1 (by decide), show nums (cx_ix 2) = items (6 * m + 3) from hn 2 (by decide)]
    rcases bx_join hRB (items (6 * m + 1)) (items (6 * m + 2)) (items (6 * m + 3)) with ⟨r, i, g1, g2, g3⟩ | ⟨g0, z', c', bk', g1, g2, g3⟩
    · left
      refine ⟨r, t_neg g1, by rw [g2, Option.bind_some], fun rf => ⟨_, by rw [g3, Option.bind_some, jF _ _ _ (t_neg g1)], t_rf1 rf i⟩⟩
    · right
      exact ⟨_, _, _, _, _, _, _, _, _, _, _, _, bk', nneg n4 (by omega), by rw [g1, Option.bind_some], fun rf => by rw [g2, Option.bind_some, jT _ _ _ (nneg n4 (by omega))], _, _, _, _, _, g3⟩
  · simp only [show nI 7 = 7 from rfl, show ¬ ((7 : Int32) = 0) by decide, show ¬ ((7 : Int32) = 1) by decide, show ¬ ((7 : Int32) = 2) by decide, show ¬ ((7 : Int32) = 3) by decide, show ¬ ((7 : Int32) = 4) by decide, show ¬ ((7 : Int32) = 5) by decide, show ¬ ((7 : Int32) = 6) by decide, ↓reduceIte]
    rw [p2_gd (by decide), show nums (cx_ix 0) = items (6 * m + 1) from hn 0 (by decide)]
    rcases bx_strange hRB (items (6 * m + 1)) with ⟨g2, g3⟩ | ⟨g0, g1, g2, g3⟩
    · left
      refine ⟨-2, by decide, by rw [g2, Option.bind_some], fun rf => ⟨_, by rw [g3, Option.bind_some, jF _ _ _ (show (-2 : Int32) < -1 by decide)], t_rf1 rf 0⟩⟩
    · right
      exact ⟨_, _, _, _, _, _, _, _, _, _, _, _, _, t_nneg g0, by rw [g1, Option.bind_some], fun rf => by rw [g2, Option.bind_some, jT _ _ _ (t_nneg g0)], _, _, _, _, _, g3⟩
end RD
