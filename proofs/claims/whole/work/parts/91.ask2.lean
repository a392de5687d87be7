/-! the calls that change nothing but refusals, and need no sums -/
def p2_RR (a b : Nat → Int32) : Prop := ∀ j, j < 3 → a j = b j
/-- the same answer on both sides, and refusals alike -/
def p2_ans (x y : Option (Int32 × (Nat → Int32))) : Prop := ∃ (a : Int32) (r1 r2 : Nat → Int32), x = some (a, r1) ∧ y = some (a, r2) ∧ p2_RR r1 r2
theorem p2_RR.up {a b : Nat → Int32} (h : p2_RR a b) (i : Nat) (hi : i < 3) : p2_RR (upd a i (a i + 1)) (p2_rf b 0 i) := by
  intro j hj
  by_cases e : j = i
  · subst e
    rw [p2_us, p2_rf, p2_us, if_pos rfl, h j hj]
  · rw [p2_un e, p2_rf, p2_un e, h j hj]
theorem p2_refused2 (f : Nat → Int32) : f_X8_refused f (-2) = some (-2, upd f 0 (f 0 + 1)) := by
  rw [p2_refused]
  rfl
theorem p2_ansBad {nr mr : Nat → Int32} (h : p2_RR nr mr) : p2_ans (Option.bind (f_X8_refused nr (-2)) (fun u => some (u.1, u.2))) (Option.bind (f_X9_bad mr 0) (fun u => some (u.1, u.2))) := by
  rw [p2_refused2, p2_bad]
  exact ⟨_, _, _, rfl, rfl, h.up 0 (by decide)⟩
section AK
variable {c0 c1 c2 c3 c4 : Nat → Int32} {z0 z1 z2 z3 z4 sg : Int32} {bk : Nat → Int32} {n0 n1 n2 n3 n4 : Nat} {nr mr : Nat → Int32}
theorem ak_status (h : p2_RR nr mr) (w : Int32) : p2_ans (f_X8_status nr w) (f_X9_status mr 0 w) := by
  unfold f_X8_status f_X9_status
  rw [p2_within, Option.bind_some, p2_in, Option.bind_some]
  by_cases hw : 0 ≤ w.toInt ∧ w.toInt ≤ 2
  · rw [if_neg (fun q => (p2_b0.mp q) (by exact hw)), if_neg (fun q => (p2_b0.mp q) (by rw [p2_l]; exact hw))]
    obtain ⟨i, hi, rfl⟩ := vp_in_of (n := 3) (vp_in_iff.mpr ⟨hw.1, by have := hw.2; show w.toInt < 3; omega⟩) (by decide)
    rw [p2_gd (p2_ib hi (by decide)), p2_gd (p2_ib hi (by decide)), p2_ix (by omega)]
    exact ⟨nr i, nr, mr, rfl, by rw [h i hi], h⟩
  · rw [if_pos (p2_b0.mpr (by exact hw)), if_pos (p2_b0.mpr (by rw [p2_l]; exact hw)), p2_refused2, show f_X9_refuses mr 0 0 (-1) = _ from p2_refuses mr 0 0 (-1) (by decide)]
    exact ⟨_, _, _, rfl, rfl, h.up 0 (by decide)⟩
theorem ak_count (hB : p2_RB c0 z0 c1 z1 c2 z2 c3 z3 c4 z4 sg bk n0 n1 n2 n3 n4) (h : p2_RR nr mr) (tl w : Int32) : p2_ans (f_X8_count nr z0 z1 z2 z3 z4 tl w) (f_X9_count bk mr 0 tl w) := by
  obtain ⟨r0, r1, r2, r3, r4, -⟩ := hB
  unfold f_X8_count f_X9_count
  rw [p2_within, Option.bind_some, p2_in, Option.bind_some]
  by_cases hw : 0 ≤ w.toInt ∧ w.toInt ≤ 5
  · rw [if_neg (fun q => (p2_b0.mp q) (by exact hw)), if_neg (fun q => (p2_b0.mp q) (by rw [p2_l]; exact hw))]
    obtain ⟨i, hi, rfl⟩ := vp_in_of (n := 6) (vp_in_iff.mpr ⟨hw.1, by have := hw.2; show w.toInt < 6; omega⟩) (by decide)
    have e : ∀ a : Int32, f_X8_howMany z0 z1 z2 z3 z4 tl (nI i) = some a → f_X9_countOf bk tl (nI i) = some a → p2_ans (Option.bind (f_X8_howMany z0 z1 z2 z3 z4 tl (nI i)) (fun u4 => some (u4, nr))) (Option.bind (f_X9_countOf bk tl (nI i)) (fun u6 => some (u6, mr))) := fun a e1 e2 => by
      rw [e1, e2]
      exact ⟨a, nr, mr, rfl, rfl, h⟩
    rcases (show i = 0 ∨ i = 1 ∨ i = 2 ∨ i = 3 ∨ i = 4 ∨ i = 5 by omega) with rfl | rfl | rfl | rfl | rfl | rfl
    · exact e z0 rfl (by rw [r0.2.1, ← r0.2.2.1]; rfl)
    · exact e z1 rfl (by rw [r1.2.1, ← r1.2.2.1]; rfl)
    · exact e z2 rfl (by rw [r2.2.1, ← r2.2.2.1]; rfl)
    · exact e z3 rfl (by rw [r3.2.1, ← r3.2.2.1]; rfl)
    · exact e z4 rfl (by rw [r4.2.1, ← r4.2.2.1]; rfl)
    · exact e tl rfl rfl
  · rw [if_pos (p2_b0.mpr (by exact hw)), if_pos (p2_b0.mpr (by rw [p2_l]; exact hw))]
    exact p2_ansBad h
theorem ak_sign {ab be : Nat → Int64} {lb wd : Nat → Int32} {la lc : Nat} (hF0 : p2_F1 ab lb (wd 0) 0 la) (hF1 : p2_F1 be lb (wd 1) 16 lc) (h : p2_RR nr mr) (w : Int32) : p2_ans (f_X8_sign nr ab be w) (f_X9_sign wd mr 0 w) := by
  unfold f_X8_sign f_X9_sign
  by_cases h0 : w = 0
  · rw [if_pos h0, if_pos h0, p2_F1z hF0, Option.bind_some]
    unfold f_X9_signNow
    rw [p2_gd (by decide), show wd (cx_ix 0) = nI la from hF0.2.1]
    have hla := hF0.1
    by_cases e : la = 0
    · rw [p2_b, if_pos e, if_neg (by decide), if_pos (by rw [e]; rfl)]
      exact ⟨_, _, _, rfl, rfl, h⟩
    · rw [p2_b, if_neg e, if_pos rfl, if_neg (nI_ne0 (by omega) (by omega))]
      exact ⟨_, _, _, rfl, rfl, h⟩
  · rw [if_neg h0, if_neg h0]
    by_cases h1 : w = 1
    · rw [if_pos h1, if_pos h1, p2_length hF0, Option.bind_some, p2_gd (by decide), show wd (cx_ix 0) = nI la from hF0.2.1]
      exact ⟨_, _, _, rfl, rfl, h⟩
    · rw [if_neg h1, if_neg h1]
      by_cases h2 : w = 2
      · rw [if_pos h2, if_pos h2, p2_length hF1, Option.bind_some, p2_gd (by decide), show wd (cx_ix 1) = nI lc from hF1.2.1]
        exact ⟨_, _, _, rfl, rfl, h⟩
      · rw [if_neg h2, if_neg h2]
        exact p2_ansBad h
theorem ak_truth (hB : p2_RB c0 z0 c1 z1 c2 z2 c3 z3 c4 z4 sg bk n0 n1 n2 n3 n4) (h : p2_RR nr mr) (p : Int32) : p2_ans (f_X8_truth nr c0 z0 c3 z3 p) (f_X9_truth bk mr 0 p) := by
  obtain ⟨hn3, hz3, hb3, hc3⟩ := hB.2.2.2.1
  have ez : z3.toInt = (n3 : Int) := by rw [hz3]; exact nI_toInt (by omega)
  have e1 : (nI n3 - 1).toInt = (n3 : Int) - 1 := pk_sub_toInt (a := n3) (b := 1) (by omega) (by omega)
  unfold f_X8_truth f_X9_truth
  rw [p2_has, Option.bind_some, p2_gd (by decide), p2_in, Option.bind_some, show bk (cx_ix 3) = nI n3 from hb3]
  rcases p2_num p n3 (by omega) with ⟨r, hr, rfl⟩ | hp
  · have er : (nI r).toInt = (r : Int) := nI_toInt (by omega)
    rw [if_neg (fun q => (p2_b0.mp q) (by rw [er, ez]; omega)), if_neg (fun q => (p2_b0.mp q) (by rw [p2_l, p2_l, er, e1]; exact ⟨by show (0 : Int) ≤ _; omega, by omega⟩)), (p2_truth hB r hr).1, (p2_truth hB r hr).2]
    exact ⟨_, _, _, rfl, rfl, h⟩
  · rw [if_pos (p2_b0.mpr (by rw [ez]; exact hp)), if_pos (p2_b0.mpr (by rw [p2_l, p2_l, e1]; exact fun k => hp ⟨k.1, by have := k.2; omega⟩))]
    exact p2_ansBad h
theorem ak_mark (hB : p2_RB c0 z0 c1 z1 c2 z2 c3 z3 c4 z4 sg bk n0 n1 n2 n3 n4) (h : p2_RR nr mr) (p m : Int32) : p2_ans (f_X8_mark nr c0 z0 p m) (f_X9_mark bk mr 0 p m) := by
  obtain ⟨hn0, hz0, hb0, hc0⟩ := hB.1
  have ez : z0.toInt = (n0 : Int) := by rw [hz0]; exact nI_toInt (by omega)
  unfold f_X8_mark f_X9_mark f_X8_mark_J23 f_X9_mark_J29
  rw [p2_has, Option.bind_some, p2_isPerson _ hb0 hn0, Option.bind_some]
  rcases p2_num p n0 (by omega) with ⟨r, hr, rfl⟩ | hp
  · have er : (nI r).toInt = (r : Int) := nI_toInt (by omega)
    rw [if_neg (fun q => (p2_b0.mp q) (by rw [er, ez]; omega)), if_neg (fun q => (p2_b0.mp q) (by rw [er]; omega)), p2_within, Option.bind_some, p2_in, Option.bind_some]
    by_cases hm : 0 ≤ m.toInt ∧ m.toInt ≤ 3
    · rw [if_neg (fun q => (p2_b0.mp q) (by exact hm)), if_neg (fun q => (p2_b0.mp q) (by rw [p2_l]; exact hm)), (p2_mark hB.1 hB.2.2.2.2.2.2.1 m r hr).1, (p2_mark hB.1 hB.2.2.2.2.2.2.1 m r hr).2]
      exact ⟨_, _, _, rfl, rfl, h⟩
    · rw [if_pos (p2_b0.mpr (by exact hm)), if_pos (p2_b0.mpr (by rw [p2_l]; exact hm))]
      exact p2_ansBad h
  · rw [if_pos (p2_b0.mpr (by rw [ez]; exact hp)), if_pos (p2_b0.mpr hp)]
    exact p2_ansBad h
end AK
