/-- likes of a look: years from fy on -/
def q_L (bk : Nat → Int32) (fy : Nat → Nat) (h w y : Nat) : Nat := k_lk bk h w (fy (k_hp bk h) + y)
section PL
variable {c0 c1 c2 c3 c4 : Nat → Int32} {z0 z1 z2 z3 z4 sg : Int32} {bk : Nat → Int32} {n0 n1 n2 n3 n4 : Nat} {fy yc : Nat → Nat} {sk : Nat}
theorem p9_planLikes (hRB : p2_RB c0 z0 c1 z1 c2 z2 c3 z3 c4 z4 sg bk n0 n1 n2 n3 n4) (fyA ycA pl lk ls : Nat → Int32) (h w : Nat) (hh : h < n2) (hw : k_w n0 w) (hpl : pl h = nI (k_hp bk h)) (hfy : fyA (k_hp bk h) = nI (fy (k_hp bk h))) (hyc : ycA (k_hp bk h) = nI (yc (k_hp bk h))) (byc : yc (k_hp bk h) ≤ 12) (bfy : fy (k_hp bk h) ≤ 99) : ∃ lk' ls', f_X7_planLikes fyA ycA pl lk ls c0 z0 c2 z2 sg (nI h) (nI w) = some (lk', ls') ∧ (∀ y, y < yc (k_hp bk h) → lk' ((h * 6 + w) * 12 + y) = nI (q_L bk fy h w y)) ∧ ls' (h * 6 + w) = nI (p6_sm (yc (k_hp bk h)) (q_L bk fy h w)) ∧ (∀ j, (j < (h * 6 + w) * 12 ∨ (h * 6 + w) * 12 + 12 ≤ j) → lk' j = lk j) ∧ (∀ j, j ≠ h * 6 + w → ls' j = ls j) := by
  obtain ⟨r0, r1, r2, r3, r4, rs, v0, v1, v2, v3, v4, v5⟩ := id hRB
  have hn0 := r0.1
  have hn1 := r1.1
  have hn2 := r2.1
  have hw6 := k_w_lt hn0 hw
  have hww := k_w_who hn0 hw
  obtain ⟨e1, e2⟩ := k_hp_spec (v2 h hh)
  have loop : ∀ (r y m : Nat) (lk : Nat → Int32), y + r = yc (k_hp bk h) → r < m → ∃ lk', f_X7_planLikes_L37w ycA pl ls c0 z0 c2 z2 (nI h) (nI w) (nI (fy (k_hp bk h))) (p2_lm bk h (nI w)) (nI (h * 6 + w)) m lk (nI (p6_sm y (q_L bk fy h w))) (nI y) = some (lk', upd ls (h * 6 + w) (nI (p6_sm (yc (k_hp bk h)) (q_L bk fy h w)))) ∧ (∀ t, y ≤ t → t < yc (k_hp bk h) → lk' ((h * 6 + w) * 12 + t) = nI (q_L bk fy h w t)) ∧ (∀ j, (j < (h * 6 + w) * 12 + y ∨ (h * 6 + w) * 12 + 12 ≤ j) → lk' j = lk j) := by
    intro r
    induction r with
    | zero =>
      intro y m lk h1 h2
      obtain ⟨m, rfl⟩ : ∃ j, m = j + 1 := ⟨m - 1, by omega⟩
      refine ⟨lk, ?_, fun t a b => by omega, fun _ _ => rfl⟩
      show f_X7_planLikes_L37 ycA pl ls c0 z0 c2 z2 (nI h) (nI w) (nI (fy (k_hp bk h))) (p2_lm bk h (nI w)) (nI (h * 6 + w)) (f_X7_planLikes_L37w ycA pl ls c0 z0 c2 z2 (nI h) (nI w) (nI (fy (k_hp bk h))) (p2_lm bk h (nI w)) (nI (h * 6 + w)) m) lk _ (nI y) = _
      unfold f_X7_planLikes_L37
      rw [p2_gd (p2_ib (by omega) (by decide)), p2_ix (n := h) (by omega), hpl, p2_gd (p2_ib (by omega) (by decide)), p2_ix (n := k_hp bk h) (by omega), hyc, if_pos (nI_le (by omega) (by omega)), p2_gd (p2_ib (by omega) (by decide)), p2_ix (n := h * 6 + w) (by omega), show y = yc (k_hp bk h) by omega]
      rfl
    | succ r ih =>
      intro y m lk h1 h2
      obtain ⟨m, rfl⟩ : ∃ j, m = j + 1 := ⟨m - 1, by omega⟩
      have hlk := k_lk_spec v5 h w (fy (k_hp bk h) + y) hw6
      obtain ⟨lk', g1, g2, g3⟩ := ih (y + 1) m (upd lk ((h * 6 + w) * 12 + y) (nI (q_L bk fy h w y))) (by omega) (by omega)
      refine ⟨lk', ?_, fun t a b => ?_, fun j hj => by rw [g3 j (by omega), p2_un (by omega)]⟩
      · rw [← g1]
        show f_X7_planLikes_L37 ycA pl ls c0 z0 c2 z2 (nI h) (nI w) (nI (fy (k_hp bk h))) (p2_lm bk h (nI w)) (nI (h * 6 + w)) (f_X7_planLikes_L37w ycA pl ls c0 z0 c2 z2 (nI h) (nI w) (nI (fy (k_hp bk h))) (p2_lm bk h (nI w)) (nI (h * 6 + w)) m) lk _ (nI y) = _
        unfold f_X7_planLikes_L37
        rw [p2_gd (p2_ib (by omega) (by decide)), p2_ix (n := h) (by omega), hpl, p2_gd (p2_ib (by omega) (by decide)), p2_ix (n := k_hp bk h) (by omega), hyc, if_neg (nI_ge (by omega) (by omega)), nI_add, p2_ageLike hRB h hh (nI w) _ hww, Option.bind_some, p2_lk_eq, hlk.1, show (12 : Int32) = nI 12 from rfl, pk_mul, nI_add, p2_gd (p2_ib (by omega) (by decide)), p2_ix (n := (h * 6 + w) * 12 + y) (by omega), nI_add, nI_1]
        rfl
      · by_cases e : t = y
        · subst e; rw [g3 _ (by omega), p2_us]
        · exact g2 t (by omega) b
  obtain ⟨lk', g1, g2, g3⟩ := loop (yc (k_hp bk h)) 0 cx_N0 lk (by omega) (by unfold cx_N0; omega)
  refine ⟨lk', _, ?_, fun y hy => g2 y (by omega) hy, p2_us, fun j hj => g3 j (by omega), fun j hj => p2_un hj⟩
  unfold f_X7_planLikes
  rw [p2_gd (p2_ib (by omega) (by decide)), p2_ix (n := h) (by omega), hpl, p2_gd (p2_ib (by omega) (by decide)), p2_ix (n := k_hp bk h) (by omega), hfy]
  simp only [cx_let]
  rw [p2_marksLike hRB h hh (nI w) hww, Option.bind_some, show (6 : Int32) = nI 6 from rfl, pk_mul, nI_add]
  exact g1
theorem p9_planNamings (hRB : p2_RB c0 z0 c1 z1 c2 z2 c3 z3 c4 z4 sg bk n0 n1 n2 n3 n4) (skI : Int32) (hsk : ∀ n, n < n3 → (nI n = skI ↔ n = sk)) (nm : Nat → Int32) (h w : Nat) (hh : h < n2) (hw : k_w n0 w) : ∃ nm', f_X7_planNamings skI nm c0 z0 c3 z3 (nI h) (nI w) = some nm' ∧ nm' (h * 6 + w) = nI (p6_pr n3 (fun n => if k_nh bk n = h then k_nf bk sk n w else 1)) ∧ (∀ j, j ≠ h * 6 + w → nm' j = nm j) := by
  obtain ⟨r0, r1, r2, r3, r4, rs, v0, v1, v2, v3, v4, v5⟩ := id hRB
  have hn0 := r0.1
  have hn2 := r2.1
  have hn3 := r3.1
  have hz3 := r3.2.1
  have hw6 := k_w_lt hn0 hw
  have loop : ∀ (r n m : Nat), n + r = n3 → r < m → f_X7_planNamings_L5w skI nm c0 z0 c3 z3 (nI h) (nI w) m (nI (p6_pr n (fun n => if k_nh bk n = h then k_nf bk sk n w else 1))) (nI n) = some (upd nm (h * 6 + w) (nI (p6_pr n3 (fun n => if k_nh bk n = h then k_nf bk sk n w else 1)))) := by
    intro r
    induction r with
    | zero =>
      intro n m h1 h2
      obtain ⟨m, rfl⟩ : ∃ j, m = j + 1 := ⟨m - 1, by omega⟩
      show f_X7_planNamings_L5 skI nm c0 z0 c3 z3 (nI h) (nI w) (f_X7_planNamings_L5w skI nm c0 z0 c3 z3 (nI h) (nI w) m) _ (nI n) = _
      unfold f_X7_planNamings_L5
      rw [hz3, if_pos (nI_le (by omega) (by omega)), show (6 : Int32) = nI 6 from rfl, pk_mul, nI_add, p2_gd (p2_ib (by omega) (by decide)), p2_ix (n := h * 6 + w) (by omega), show n = n3 by omega]
      rfl
    | succ r ih =>
      intro n m h1 h2
      obtain ⟨m, rfl⟩ : ∃ j, m = j + 1 := ⟨m - 1, by omega⟩
      rw [← ih (n + 1) m (by omega) (by omega), p6_pr]
      obtain ⟨_, _, a3, a4, _, _, _, _⟩ := k_name_spec (v3 n (by omega))
      obtain ⟨t1, t2⟩ := k_tr_spec hn0 v0 (v3 n (by omega))
      have p1 : f_X4_at 4 16 c3 z3 (nI n) 1 = some (nI (k_nh bk n)) := by rw [← a3]; exact p2_atN r3 n 1 (by omega) (by decide)
      have hso := k_isSo r3 n w (by omega) hn0 (v3 n (by omega)) hn2 hw6
      have htr := (p2_truth hRB n (by omega)).1
      show f_X7_planNamings_L5 skI nm c0 z0 c3 z3 (nI h) (nI w) (f_X7_planNamings_L5w skI nm c0 z0 c3 z3 (nI h) (nI w) m) _ (nI n) = _
      unfold f_X7_planNamings_L5 f_X7_planNamings_J86 f_X7_planNamings_J84 f_X7_planNamings_J86
      have hz : ¬ z3 ≤ nI n := by rw [hz3]; exact nI_ge (by omega) (by omega)
      rw [if_neg hz, nI_1]
      by_cases hs : n = sk
      · rw [if_pos ((hsk n (by omega)).mpr hs)]
        have : (if k_nh bk n = h then k_nf bk sk n w else 1) = 1 := by
          unfold k_nf
          rw [if_pos hs]
          split <;> rfl
        rw [this, Nat.mul_one]
      · rw [if_neg (fun q => hs ((hsk n (by omega)).mp q)), p1, Option.bind_some]
        by_cases he : k_nh bk n = h
        · rw [if_pos (by rw [he]), if_pos he, hso, Option.bind_some, p4_bt, htr, Option.bind_some, t1, Option.bind_some]
          have e10 : (10 : Int32) - nI (k_tr bk n) = nI (10 - k_tr bk n) := by rw [show (10 : Int32) = nI 10 from rfl, pk_sub t2]
          have enf : k_nf bk sk n w = if k_so bk n w = true then k_tr bk n else 10 - k_tr bk n := by
            unfold k_nf
            rw [if_neg hs]
          rw [enf]
          by_cases ho : k_so bk n w = true
          · rw [if_pos ho, if_pos ho, pk_mul]
          · rw [if_neg ho, if_neg ho, e10, pk_mul]
        · rw [if_neg (fun q => he ((nI_eq (by omega) (by omega)).mp q)), if_neg he, Nat.mul_one]
  refine ⟨_, ?_, p2_us, fun j hj => p2_un hj⟩
  unfold f_X7_planNamings
  exact loop n3 0 cx_N0 (by omega) (by unfold cx_N0; omega)
end PL
