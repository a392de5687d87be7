section BX4
variable {c0 c1 c2 c3 c4 : Nat → Int32} {z0 z1 z2 z3 z4 sg : Int32} {bk : Nat → Int32} {n0 n1 n2 n3 n4 : Nat}
/-- a change of one entry of a person -/
theorem p2_RB.set0 (h : p2_RB c0 z0 c1 z1 c2 z2 c3 z3 c4 z4 sg bk n0 n1 n2 n3 n4) (r t : Nat) (v : Int32) (hr : r < n0) (ht : t < 6) (hV : p2_V0 (upd bk (8 + (6 * r + t)) v) r) : p2_RB (upd c0 (6 * r + t) v) z0 c1 z1 c2 z2 c3 z3 c4 z4 sg (upd bk (8 + (6 * r + t)) v) n0 n1 n2 n3 n4 := by
  obtain ⟨r0, r1, r2, r3, r4, rs, v0, v1, v2, v3, v4, v5⟩ := h
  obtain ⟨hn0, hz0, hb0, hc0⟩ := id r0
  have un : ∀ j, j ≠ 8 + (6 * r + t) → upd bk (8 + (6 * r + t)) v j = bk j := fun j hj => p2_un hj
  refine ⟨r0.set (by omega), r1.keep (un _ (by omega)) (fun j hj => un _ (by omega)), r2.keep (un _ (by omega)) (fun j hj => un _ (by omega)), r3.keep (un _ (by omega)) (fun j hj => un _ (by omega)), r4.keep (un _ (by omega)) (fun j hj => un _ (by omega)), by rw [un _ (by omega)]; exact rs, fun p hp => ?_, fun p hp => (v1 p hp).congr (fun t _ => un _ (by omega)), fun p hp => (v2 p hp).congr (Nat.le_refl _) (fun t _ => un _ (by omega)), fun p hp => (v3 p hp).congr (Nat.le_refl _) (Nat.le_refl _) (fun t _ => un _ (by omega)), fun p hp => (v4 p hp).congr (Nat.le_refl _) (fun t _ => un _ (by omega)) (fun a ha => un _ (by omega)), by rw [p2_e, un _ (by omega)]; exact v5⟩
  by_cases hpr : p = r
  · subst hpr
    exact hV
  · exact (v0 p hp).congr (fun t2 _ => un _ (by omega))
theorem p2_parent_no (rf : Nat → Int32) (q p1 p2 : Int32) : f_X9_parent_J91 bk rf q p1 p2 = some (-10, bk, p2_rf rf q 0) := by
  unfold f_X9_parent_J91 f_X9_parent_J92
  rw [if_pos rfl, show f_X9_refuses rf q 0 (-10) = _ from p2_refuses rf q 0 (-10) (by decide)]
  rfl
theorem p2_parent_ok (rf : Nat → Int32) (q p2 : Int32) (r : Nat) (hr : r < 5) : f_X9_parent_J87 bk rf q (nI r) p2 = some (bk (8 + 6 * r + 4), upd bk (8 + (6 * r + 4)) p2, rf) := by
  unfold f_X9_parent_J87 f_X9_parent_J92
  rw [if_neg (by decide), show f_X9_ofPerson bk (nI r) 4 = _ from p2_ofPerson r 4 hr (by decide), Option.bind_some, show (8 : Int32) = nI 8 from rfl, show (6 : Int32) = nI 6 from rfl, show (4 : Int32) = nI 4 from rfl, pk_mul, nI_add, nI_add, p2_gd (p2_ib (by omega) (by decide)), p2_ix (by omega), show 8 + (6 * r + 4) = 8 + 6 * r + 4 by omega]
  rfl
theorem p2_neg1 {p2 : Int32} (h : 0 ≤ p2.toInt) : ¬ p2 = -1 := fun q => by
  have := p2_eq.mp q
  have e : (-1 : Int32).toInt = -1 := rfl
  omega
/-- parent(p, q) -/
theorem bx_parent (h : p2_RB c0 z0 c1 z1 c2 z2 c3 z3 c4 z4 sg bk n0 n1 n2 n3 n4) (p v : Int32) :
    (f_X1_setParent c0 z0 p v = some (-10, c0) ∧ ∀ rf q, f_X9_parent bk rf q p v = some (-10, bk, p2_rf rf q 0)) ∨
    (∃ (a : Int32) (c' bk' : Nat → Int32), -1 ≤ a.toInt ∧ f_X1_setParent c0 z0 p v = some (a, c') ∧ (∀ rf q, f_X9_parent bk rf q p v = some (a, bk', rf)) ∧ p2_RB c' z0 c1 z1 c2 z2 c3 z3 c4 z4 sg bk' n0 n1 n2 n3 n4) := by
  have h' := h
  obtain ⟨r0, r1, r2, r3, r4, rs, v0, v1, v2, v3, v4, v5⟩ := h
  obtain ⟨hn0, hz0, hb0, hc0⟩ := id r0
  have ez : z0.toInt = (n0 : Int) := by rw [hz0]; exact nI_toInt (by omega)
  rcases p2_num p n0 (by omega) with ⟨r, hr, rfl⟩ | hp
  · have er : (nI r).toInt = (r : Int) := nI_toInt (by omega)
    have hat : ∀ (i t : Nat), i < n0 → t < 6 → f_X4_at 6 30 c0 z0 (nI i) (nI t) = some (bk (8 + 6 * i + t)) := fun i t hi ht => by
      rw [hz0, show f_X4_at 6 30 c0 (nI n0) (nI i) (nI t) = _ from p2_at (w := 6) (n := 30) (z := n0) (r := i) (c := t) c0 hi ht (by omega) (by decide) (by omega) (by decide), hc0 _ (by omega), show 8 + (i * 6 + t) = 8 + 6 * i + t by omega]
    have hput : f_X4_put 6 30 c0 z0 (nI r) 4 v = some (upd c0 (6 * r + 4) v) := by
      rw [hz0, show f_X4_put 6 30 c0 (nI n0) (nI r) 4 v = _ from p2_put (w := 6) (n := 30) (z := n0) (r := r) (c := 4) c0 v hr (by decide) (by omega) (by decide) (by omega) (by decide), show r * 6 + 4 = 6 * r + 4 by omega]
    have hJ : f_X1_setParent_J28 c0 z0 (nI r) v = some (bk (8 + 6 * r + 4), upd c0 (6 * r + 4) v) := by
      unfold f_X1_setParent_J28
      rw [show f_X4_at 6 30 c0 z0 (nI r) 4 = _ from hat r 4 hr (by decide), Option.bind_some, hput, Option.bind_some]
    have hH : f_X4_has z0 (nI r) = some 1 := by rw [p2_has, p2_b, if_pos (by rw [er, ez]; omega)]
    have hP : f_X9_isPerson bk (nI r) = some 1 := by rw [p2_isPerson _ hb0 hn0, p2_b, if_pos (by rw [er]; omega)]
    have hV : ∀ (w : Int32), -1 ≤ w.toInt → w.toInt < (r : Int) → p2_V0 (upd bk (8 + (6 * r + 4)) w) r := fun w h1 h2 => by
      have un : ∀ j, j ≠ 8 + (6 * r + 4) → upd bk (8 + (6 * r + 4)) w j = bk j := fun j hj => p2_un hj
      have k := v0 r hr
      unfold p2_V0 p2_e at *
      rw [un _ (by omega), un _ (by omega), un _ (by omega), un _ (by omega), un (8 + 6 * r + 5) (by omega), show 8 + 6 * r + 4 = 8 + (6 * r + 4) by omega, p2_us]
      exact ⟨k.1, k.2.1, k.2.2.1, k.2.2.2.1, ⟨h1, by omega⟩, k.2.2.2.2.2⟩
    have good : (0 ≤ v.toInt → v.toInt < (r : Int)) → -1 ≤ v.toInt → f_X1_setParent c0 z0 (nI r) v = some (bk (8 + 6 * r + 4), upd c0 (6 * r + 4) v) → (∀ rf q, f_X9_parent bk rf q (nI r) v = some (bk (8 + 6 * r + 4), upd bk (8 + (6 * r + 4)) v, rf)) → (∃ (a : Int32) (c' bk' : Nat → Int32), -1 ≤ a.toInt ∧ f_X1_setParent c0 z0 (nI r) v = some (a, c') ∧ (∀ rf q, f_X9_parent bk rf q (nI r) v = some (a, bk', rf)) ∧ p2_RB c' z0 c1 z1 c2 z2 c3 z3 c4 z4 sg bk' n0 n1 n2 n3 n4) := by
      intro g1 g2 g3 g4
      exact ⟨_, _, _, (v0 r hr).2.2.2.2.1.1, g3, g4, h'.set0 r 4 v hr (by decide) (hV v g2 (by by_cases g : 0 ≤ v.toInt; exact g1 g; omega))⟩
    by_cases hv : v = -1
    · right
      subst hv
      refine good (fun q => absurd q (by decide)) (by decide) ?_ (fun rf q => ?_)
      · unfold f_X1_setParent
        rw [hH, Option.bind_some, if_neg (by decide), if_pos rfl, hJ]
      · unfold f_X9_parent f_X9_parent_J26 f_X9_parent_J31
        rw [hP, Option.bind_some, if_neg (by decide), if_pos rfl, if_neg (by decide), if_pos rfl, p2_parent_ok rf q (-1) r (by omega)]
    · rcases p2_num v r (by omega) with ⟨t, ht, rfl⟩ | hq
      · have et : (nI t).toInt = (t : Int) := nI_toInt (by omega)
        have h0t : (0 : Int32) ≤ nI t := nI_pos' (by omega)
        have hHt : f_X4_has z0 (nI t) = some 1 := by rw [p2_has, p2_b, if_pos (by rw [et, ez]; omega)]
        have hin : f_X9_in (Int32.toInt64 (nI t)) 0 (Int32.toInt64 (nI r - 1)) = some 1 := by
          rw [p2_in, p2_b, if_pos (by rw [p2_l, p2_l, et, show (nI r - 1).toInt = (r : Int) - 1 from pk_sub_toInt (a := r) (b := 1) (by omega) (by omega)]; exact ⟨by show (0 : Int) ≤ _; omega, by omega⟩)]
        have m0 : ∀ (i t : Nat), i < n0 → t < 6 → f_X9_ofPerson bk (nI i) (nI t) = some (bk (8 + 6 * i + t)) := fun i t hi ht => p2_ofPerson i t (by omega) ht
        by_cases hA : bk (8 + 6 * r + 0) ≤ bk (8 + 6 * t + 0)
        · left
          refine ⟨?_, fun rf q => ?_⟩
          · unfold f_X1_setParent f_X1_mayBeParent
            rw [hH, Option.bind_some, if_neg (by decide), if_neg hv, show f_X4_at 6 30 c0 z0 (nI r) 0 = _ from hat r 0 hr (by decide), Option.bind_some, hHt, Option.bind_some, if_neg (by decide), if_neg (nI_ge ht (by omega)), show f_X4_at 6 30 c0 z0 (nI t) 0 = _ from hat t 0 (by omega) (by decide), Option.bind_some, if_pos hA, Option.bind_some, if_pos rfl]
          · unfold f_X9_parent f_X9_parent_J26 f_X9_parent_J31 f_X9_parent_J51
            rw [hP, Option.bind_some, if_neg (by decide), if_neg hv, hin, Option.bind_some, if_neg (by decide), if_neg (by decide), if_neg hv, if_pos h0t, show f_X9_ofPerson bk (nI t) 0 = _ from m0 t 0 (by omega) (by decide), Option.bind_some, show f_X9_ofPerson bk (nI r) 0 = _ from m0 r 0 hr (by decide), Option.bind_some, if_pos hA, p2_parent_no]
        · by_cases hB : bk (8 + 6 * t + 1) < bk (8 + 6 * r + 0)
          · left
            refine ⟨?_, fun rf q => ?_⟩
            · unfold f_X1_setParent f_X1_mayBeParent
              rw [hH, Option.bind_some, if_neg (by decide), if_neg hv, show f_X4_at 6 30 c0 z0 (nI r) 0 = _ from hat r 0 hr (by decide), Option.bind_some, hHt, Option.bind_some, if_neg (by decide), if_neg (nI_ge ht (by omega)), show f_X4_at 6 30 c0 z0 (nI t) 0 = _ from hat t 0 (by omega) (by decide), Option.bind_some, if_neg hA, show f_X4_at 6 30 c0 z0 (nI t) 1 = _ from hat t 1 (by omega) (by decide), Option.bind_some, if_pos hB, Option.bind_some, if_pos rfl]
            · unfold f_X9_parent f_X9_parent_J26 f_X9_parent_J31 f_X9_parent_J51 f_X9_parent_J74
              rw [hP, Option.bind_some, if_neg (by decide), if_neg hv, hin, Option.bind_some, if_neg (by decide), if_neg (by decide), if_neg hv, if_pos h0t, show f_X9_ofPerson bk (nI t) 0 = _ from m0 t 0 (by omega) (by decide), Option.bind_some, show f_X9_ofPerson bk (nI r) 0 = _ from m0 r 0 hr (by decide), Option.bind_some, if_neg hA, if_pos h0t, show f_X9_ofPerson bk (nI t) 1 = _ from m0 t 1 (by omega) (by decide), Option.bind_some, Option.bind_some, if_pos hB, p2_parent_no]
          · right
            refine good (fun _ => by rw [et]; omega) (by rw [et]; omega) ?_ (fun rf q => ?_)
            · unfold f_X1_setParent f_X1_mayBeParent
              rw [hH, Option.bind_some, if_neg (by decide), if_neg hv, show f_X4_at 6 30 c0 z0 (nI r) 0 = _ from hat r 0 hr (by decide), Option.bind_some, hHt, Option.bind_some, if_neg (by decide), if_neg (nI_ge ht (by omega)), show f_X4_at 6 30 c0 z0 (nI t) 0 = _ from hat t 0 (by omega) (by decide), Option.bind_some, if_neg hA, show f_X4_at 6 30 c0 z0 (nI t) 1 = _ from hat t 1 (by omega) (by decide), Option.bind_some, if_neg hB, Option.bind_some, if_neg (by decide), hJ]
            · unfold f_X9_parent f_X9_parent_J26 f_X9_parent_J31 f_X9_parent_J51 f_X9_parent_J74
              rw [hP, Option.bind_some, if_neg (by decide), if_neg hv, hin, Option.bind_some, if_neg (by decide), if_neg (by decide), if_neg hv, if_pos h0t, show f_X9_ofPerson bk (nI t) 0 = _ from m0 t 0 (by omega) (by decide), Option.bind_some, show f_X9_ofPerson bk (nI r) 0 = _ from m0 r 0 hr (by decide), Option.bind_some, if_neg hA, if_pos h0t, show f_X9_ofPerson bk (nI t) 1 = _ from m0 t 1 (by omega) (by decide), Option.bind_some, Option.bind_some, if_neg hB, p2_parent_ok rf q (nI t) r (by omega)]
      · left
        refine ⟨?_, fun rf q => ?_⟩
        · unfold f_X1_setParent f_X1_mayBeParent
          rw [hH, Option.bind_some, if_neg (by decide), if_neg hv, show f_X4_at 6 30 c0 z0 (nI r) 0 = _ from hat r 0 hr (by decide), Option.bind_some, p2_has, Option.bind_some]
          by_cases h9 : 0 ≤ v.toInt ∧ v.toInt < (n0 : Int)
          · rw [if_neg (fun h => (p2_b0.mp h) (by rw [ez]; exact h9)), if_pos (p2_le.mpr (by rw [er]; omega)), Option.bind_some, if_pos rfl]
          · rw [if_pos (p2_b0.mpr (by rw [ez]; exact h9)), Option.bind_some, if_pos rfl]
        · unfold f_X9_parent f_X9_parent_J30 f_X9_parent_J31
          rw [hP, Option.bind_some, if_neg (by decide), if_neg hv, p2_in, Option.bind_some, if_pos (p2_b0.mpr (by rw [p2_l, p2_l, show (nI r - 1).toInt = (r : Int) - 1 from pk_sub_toInt (a := r) (b := 1) (by omega) (by omega)]; exact fun k => hq ⟨k.1, by have := k.2; omega⟩)), if_pos rfl, p2_parent_no]
  · left
    refine ⟨?_, fun rf q => ?_⟩
    · unfold f_X1_setParent
      rw [p2_has, Option.bind_some, if_pos (p2_b0.mpr (by rw [ez]; exact hp))]
    · unfold f_X9_parent f_X9_parent_J30 f_X9_parent_J31
      rw [p2_isPerson _ hb0 hn0, Option.bind_some, if_pos (p2_b0.mpr hp), if_pos rfl, p2_parent_no]
end BX4
