section W2
variable {hp : Nat → Nat} {L : Nat → Nat → Nat → Nat} {yc fy : Nat → Nat} {n0 n1 n2 n3 n4 : Nat} {od : Bool} {ea la : Nat} {nh : Nat → Nat} {nf : Nat → Nat → Nat} {ja jb jw : Nat → Nat} {ω : Nat → Nat}
variable {eI lI : Int32} {fyA ycA plA bfA clA lkA lsA nmA wy c4 : Nat → Int32} {z4 : Int32} {pr : Nat → Int64}
/-- the row of the head ahead on the picture -/
theorem p8_row {h : Nat} (hPR : p8_PR hp L yc n2 od ea la pr h ω) (hn2 : n2 ≤ 6) (hh : h < n2) (hyc : yc (hp h) ≤ 12) : ∀ y, y < yc (hp h) → pr (p6_cl hp h (hp h) * 12 + y) = lN (p6_T hp L ω h (hp h) y) := by
  intro y hy
  by_cases hc : p6_cl hp h (hp h) = 6
  · rw [hc, p6_T_empty (p6_cl_6 (by omega) hc)]
    exact hPR.1 y (by omega)
  · obtain ⟨l1, l2, l3⟩ := p6_cl_lt hc
    generalize p6_cl hp h (hp h) = e at *
    have := hPR.2 e l1 (Or.inl (fun q => by
      have q2 := p6_cl_lt (hp := hp) (k := n2) (p := hp e) (by omega)
      rw [q] at q2
      exact q2.2.2 h l1 hh l2.symm)) y (by rw [l2]; exact hy)
    rw [this, l2]
    congr 1
    exact (p6_pr_cut (by omega) (fun i i1 i2 => if_neg (l3 i (by omega) i2))).symm
theorem p8_sumYearsL (lk : Nat → Int32) (A B : Nat → Nat) (u v N : Nat) (hu : u + N ≤ 84) (hv : v + N ≤ 432) (hN : N ≤ 12) (h1 : ∀ y, y < N → pr (u + y) = lN (A y) ∧ A y ≤ 1156831381426176) (h2 : ∀ y, y < N → lk (v + y) = nI (B y) ∧ B y ≤ 324) : ∀ (r y m : Nat), y + r = N → r < m → f_X7_sumYears_L40w lk pr (nI u) (nI v) (nI N) m (lN (p6_sm y (fun y => A y * B y))) (nI y) = some (lN (p6_sm N (fun y => A y * B y))) := by
  intro r
  induction r with
  | zero =>
    intro y m q1 q2
    obtain ⟨m, rfl⟩ : ∃ j, m = j + 1 := ⟨m - 1, by omega⟩
    show f_X7_sumYears_L40 lk pr (nI u) (nI v) (nI N) (f_X7_sumYears_L40w lk pr (nI u) (nI v) (nI N) m) _ (nI y) = _
    unfold f_X7_sumYears_L40
    rw [if_pos (nI_le (by omega) (by omega)), show y = N by omega]
  | succ r ih =>
    intro y m q1 q2
    obtain ⟨m, rfl⟩ : ∃ j, m = j + 1 := ⟨m - 1, by omega⟩
    have := ih (y + 1) m (by omega) (by omega)
    rw [← this]
    show f_X7_sumYears_L40 lk pr (nI u) (nI v) (nI N) (f_X7_sumYears_L40w lk pr (nI u) (nI v) (nI N) m) _ (nI y) = _
    unfold f_X7_sumYears_L40
    have b := h2 y (by omega)
    rw [if_neg (nI_ge (by omega) (by omega)), nI_add, nI_add, p2_gd (p2_ib (by omega) (by decide)), p2_gd (p2_ib (by omega) (by decide)), p2_ix (n := u + y) (by omega), p2_ix (n := v + y) (by omega), (h1 y (by omega)).1, b.1, nI_l (by omega), lN_mul, lN_add, nI_1]
    rfl
theorem p8_mulYearsL (lk : Nat → Int32) (A B : Nat → Nat) (u v h N : Nat) (hu : u + 12 ≤ 84) (hv : v + 12 ≤ 432) (hh : h < 6) (hN : N ≤ 12) (hne : u + 12 ≤ h * 12 ∨ h * 12 + 12 ≤ u) (h2 : ∀ y, y < N → lk (v + y) = nI (B y) ∧ B y ≤ 324) (hA : ∀ y, y < N → A y ≤ 1156831381426176) : ∀ (r y m : Nat) (a : Nat → Int64) (f : Bool), y + r = N → r < m → (∀ t, t < N → a (u + t) = lN (A t)) → (∀ t, t < y → a (h * 12 + t) = lN (A t * B t)) → (f = true ↔ ∃ t, t < y ∧ A t * B t ≠ 0) → ∃ a' f', f_X7_multiplyYears_L40w lk (nI h) (nI u) (nI v) (nI N) m a (p2_b (f = true)) (nI y) = some (p2_b (f' = true), a') ∧ (∀ j, (j < h * 12 ∨ h * 12 + 12 ≤ j) → a' j = a j) ∧ (∀ t, t < N → a' (h * 12 + t) = lN (A t * B t)) ∧ (f' = true ↔ ∃ t, t < N ∧ A t * B t ≠ 0) := by
  intro r
  induction r with
  | zero =>
    intro y m a f q1 q2 q3 q4 q5
    obtain ⟨m, rfl⟩ : ∃ j, m = j + 1 := ⟨m - 1, by omega⟩
    have e : y = N := by omega
    subst e
    refine ⟨a, f, ?_, fun _ _ => rfl, q4, q5⟩
    show f_X7_multiplyYears_L40 lk (nI h) (nI u) (nI v) (nI y) (f_X7_multiplyYears_L40w lk (nI h) (nI u) (nI v) (nI y) m) a (p2_b (f = true)) (nI y) = _
    unfold f_X7_multiplyYears_L40
    rw [if_pos (nI_le (by omega) (by omega)), p2_gd]
    simp only [p2_b]
    split <;> decide
  | succ r ih =>
    intro y m a f q1 q2 q3 q4 q5
    obtain ⟨m, rfl⟩ : ∃ j, m = j + 1 := ⟨m - 1, by omega⟩
    have b := h2 y (by omega)
    have ha := hA y (by omega)
    have hAB : A y * B y ≤ 1156831381426176 * 324 := Nat.mul_le_mul ha b.2
    obtain ⟨a', f', g1, g2, g3, g4⟩ := ih (y + 1) m (vp_updL a (h * 12 + y) (lN (A y * B y))) (f || decide (A y * B y ≠ 0)) (by omega) (by omega) (fun t ht => by rw [p3_uLn (by omega)]; exact q3 t ht) (fun t ht => by
      by_cases e : t = y
      · subst e; rw [p3_uLs]
      · rw [p3_uLn (by omega)]; exact q4 t (by omega)) (by
      rw [Bool.or_eq_true, q5, decide_eq_true_iff]
      constructor
      · rintro (⟨t, t1, t2⟩ | t)
        · exact ⟨t, by omega, t2⟩
        · exact ⟨y, by omega, t⟩
      · rintro ⟨t, t1, t2⟩
        by_cases e : t = y
        · subst e; exact Or.inr t2
        · exact Or.inl ⟨t, by omega, t2⟩)
    refine ⟨a', f', ?_, fun j hj => by rw [g2 j hj, p3_uLn (by omega)], g3, g4⟩
    rw [← g1]
    show f_X7_multiplyYears_L40 lk (nI h) (nI u) (nI v) (nI N) (f_X7_multiplyYears_L40w lk (nI h) (nI u) (nI v) (nI N) m) a (p2_b (f = true)) (nI y) = _
    unfold f_X7_multiplyYears_L40 f_X7_multiplyYears_J96 f_X7_multiplyYears_J101
    rw [if_neg (nI_ge (by omega) (by omega)), nI_add, nI_add, p2_gd (p2_ib (by omega) (by decide)), p2_gd (p2_ib (by omega) (by decide)), p2_ix (n := u + y) (by omega), p2_ix (n := v + y) (by omega), q3 y (by omega), b.1, nI_l (by omega), lN_mul, nI_1]
    simp only [cx_let]
    rw [show (12 : Int32) = nI 12 from rfl, pk_mul, nI_add, p2_gd (p2_ib (by omega) (by decide)), p2_ix (n := h * 12 + y) (by omega), p4_bt]
    have hc := (p3_ne (a := A y * B y) (b := 0) (by omega) (by decide)).1
    have hc : lg_cmp (lN (A y * B y)) 0 = 0 ↔ A y * B y = 0 := hc
    by_cases hf : f = true
    · rw [if_pos hf, hf]
      rfl
    · rw [if_neg hf]
      have hf : f = false := by simpa using hf
      rw [hf]
      by_cases hz : A y * B y = 0
      · rw [if_pos (hc.mpr hz)]
        have : (false || decide (A y * B y ≠ 0)) = false := by simp [hz]
        rw [this]
        rfl
      · rw [if_neg (fun q => hz (hc.mp q))]
        have : (false || decide (A y * B y ≠ 0)) = true := by simp [hz]
        rw [this]
        rfl
/-- the years of the early one that are ahead of a year of the late one -/
theorem p6_sm_ahead (A : Nat → Nat) (f N g : Nat) : p6_sm N (fun y => if f + y < g then A y else 0) = p6_sm (min N (g - f)) A := by
  induction N with
  | zero => rw [Nat.zero_min]; rfl
  | succ N ih =>
    rw [p6_sm, ih]
    by_cases h : f + N < g
    · rw [if_pos h, show min (N + 1) (g - f) = N + 1 by omega, show min N (g - f) = N by omega, p6_sm]
    · rw [if_neg h, show min (N + 1) (g - f) = min N (g - f) by omega, Nat.add_zero]
theorem p8_orderI (eI lI : Int32) (fyA ycA clA : Nat → Int32) (A : Nat → Nat) (cE N f g : Nat) (x1 : Int64) (x6 : Int32) (rc : Int64 → Int64 → Int32 → Int32 → Option Int64) (he : ea < 4) (heI : eI = nI ea) (hycA : ycA ea = nI N) (hfyA : fyA ea = nI f) (hcl : clA ea = nI cE) (hcE : cE ≤ 6) (hN : N ≤ 12) (hf : f ≤ 99) (hg : g ≤ 200) (hA : ∀ y, y < N → pr (cE * 12 + y) = lN (A y)) : ∀ (r t m : Nat), t + r = min N (g - f) → r < m → f_X7_yearsInOrder_L38w eI lI fyA ycA clA pr x1 x6 rc (nI g) m (lN (p6_sm t A)) (nI t) = f_X7_yearsInOrder_J98 lI clA pr x1 x6 rc (lN (p6_sm (min N (g - f)) A)) (nI (min N (g - f))) := by
  intro r
  induction r with
  | zero =>
    intro t m q1 q2
    obtain ⟨m, rfl⟩ : ∃ j, m = j + 1 := ⟨m - 1, by omega⟩
    have e : t = min N (g - f) := by omega
    show f_X7_yearsInOrder_L38 eI lI fyA ycA clA pr x1 x6 rc (nI g) (f_X7_yearsInOrder_L38w eI lI fyA ycA clA pr x1 x6 rc (nI g) m) (lN (p6_sm t A)) (nI t) = _
    unfold f_X7_yearsInOrder_L38
    rw [heI, p2_gd (p2_ib he (by decide)), p2_ix (n := ea) (by omega), hycA, hfyA]
    by_cases h1 : N ≤ t
    · rw [if_pos (nI_le h1 (by omega)), ← e]
    · rw [if_neg (nI_ge (by omega) (by omega)), p2_gd (p2_ib he (by decide)), nI_add, if_pos (nI_le (by omega) (by omega)), ← e]
  | succ r ih =>
    intro t m q1 q2
    obtain ⟨m, rfl⟩ : ∃ j, m = j + 1 := ⟨m - 1, by omega⟩
    rw [← ih (t + 1) m (by omega) (by omega)]
    show f_X7_yearsInOrder_L38 eI lI fyA ycA clA pr x1 x6 rc (nI g) (f_X7_yearsInOrder_L38w eI lI fyA ycA clA pr x1 x6 rc (nI g) m) (lN (p6_sm t A)) (nI t) = _
    unfold f_X7_yearsInOrder_L38
    rw [heI, p2_gd (p2_ib he (by decide)), p2_ix (n := ea) (by omega), hycA, hfyA, if_neg (nI_ge (by omega) (by omega)), p2_gd (p2_ib he (by decide)), nI_add, if_neg (nI_ge (by omega) (by omega)), p2_gd (p2_ib he (by decide)), hcl, show (12 : Int32) = nI 12 from rfl, pk_mul, nI_add, p2_gd (p2_ib (by omega) (by decide)), p2_ix (n := cE * 12 + t) (by omega), hA t (by omega), lN_add, nI_1]
    rfl
theorem p8_orderO (eI lI : Int32) (fyA ycA clA : Nat → Int32) (A B : Nat → Nat) (cE cL N M f g : Nat) (he : ea < 4) (hl : la < 4) (heI : eI = nI ea) (hlI : lI = nI la) (hycA : ycA ea = nI N) (hfyA : fyA ea = nI f) (hcl : clA ea = nI cE) (hyl : ycA la = nI M) (hfl : fyA la = nI g) (hcll : clA la = nI cL) (hcE : cE ≤ 6) (hcL : cL ≤ 6) (hN : N ≤ 12) (hM : M ≤ 12) (hf : f ≤ 99) (hg : g ≤ 99) (hA : ∀ y, y < N → pr (cE * 12 + y) = lN (A y)) (hB : ∀ y, y < M → pr (cL * 12 + y) = lN (B y)) : ∀ (r z t m : Nat), z + r = M → r < m → t ≤ min N (g + z - f) → f_X7_yearsInOrder_L10w eI lI fyA ycA clA pr m (lN (p6_sm z (fun z => p6_sm N (fun y => if f + y < g + z then A y else 0) * B z))) (lN (p6_sm t A)) (nI t) (nI z) = some (lN (p6_sm M (fun z => p6_sm N (fun y => if f + y < g + z then A y else 0) * B z))) := by
  intro r
  induction r with
  | zero =>
    intro z t m q1 q2 q3
    obtain ⟨m, rfl⟩ : ∃ j, m = j + 1 := ⟨m - 1, by omega⟩
    show f_X7_yearsInOrder_L10 eI lI fyA ycA clA pr (f_X7_yearsInOrder_L10w eI lI fyA ycA clA pr m) _ (lN (p6_sm t A)) (nI t) (nI z) = _
    unfold f_X7_yearsInOrder_L10
    rw [hlI, p2_gd (p2_ib hl (by decide)), p2_ix (n := la) (by omega), hyl, if_pos (nI_le (by omega) (by omega)), show z = M by omega]
  | succ r ih =>
    intro z t m q1 q2 q3
    obtain ⟨m, rfl⟩ : ∃ j, m = j + 1 := ⟨m - 1, by omega⟩
    have i2 := ih (z + 1) (min N (g + z - f)) m (by omega) (by omega) (by omega)
    rw [← i2]
    obtain ⟨d, hd⟩ : ∃ d, t + d = min N (g + z - f) := ⟨min N (g + z - f) - t, by omega⟩
    show f_X7_yearsInOrder_L10 eI lI fyA ycA clA pr (f_X7_yearsInOrder_L10w eI lI fyA ycA clA pr m) _ (lN (p6_sm t A)) (nI t) (nI z) = _
    unfold f_X7_yearsInOrder_L10
    have hinner := p8_orderI (pr := pr) (ea := ea) eI lI fyA ycA clA A cE N f (g + z) (lN (p6_sm z (fun z => p6_sm N (fun y => if f + y < g + z then A y else 0) * B z))) (nI z) (f_X7_yearsInOrder_L10w eI lI fyA ycA clA pr m) he heI hycA hfyA hcl hcE hN hf (by omega) hA d t cx_N0 hd (by unfold cx_N0; omega)
    rw [p2_gd (by rw [hlI]; exact p2_ib hl (by decide)), p2_gd (by rw [hlI]; exact p2_ib hl (by decide)), show ycA (cx_ix lI) = nI M by rw [hlI, p2_ix (n := la) (by omega)]; exact hyl, show fyA (cx_ix lI) = nI g by rw [hlI, p2_ix (n := la) (by omega)]; exact hfl, if_neg (nI_ge (by omega) (by omega)), nI_add]
    refine hinner.trans ?_
    unfold f_X7_yearsInOrder_J98
    rw [p2_gd (by rw [hlI]; exact p2_ib hl (by decide)), show clA (cx_ix lI) = nI cL by rw [hlI, p2_ix (n := la) (by omega)]; exact hcll, show (12 : Int32) = nI 12 from rfl, pk_mul, nI_add, p2_gd (p2_ib (by omega) (by decide)), p2_ix (n := cL * 12 + z) (by omega), hB z (by omega), lN_mul, lN_add, nI_1]
    simp only [cx_let]
    rw [p6_sm, p6_sm_ahead]
theorem p8_both (h : Nat) (hh : h < n2) (hn2 : n2 ≤ 6) (hl : la < 4) (he : ea < 4) (heI : eI = nI ea) (hlI : lI = nI la) (h1 : clA ea = nI (p6_cl hp n2 ea)) (h2 : clA la = nI (p6_cl hp n2 la)) : f_X7_areBothTold eI lI clA (nI h) = some (p2_b (p6_bt hp n2 ea la h = true)) := by
  have c1 : p6_cl hp n2 ea ≤ 6 := by
    by_cases q : p6_cl hp n2 ea = 6
    · omega
    · have := (p6_cl_lt q).1; omega
  have c2 : p6_cl hp n2 la ≤ 6 := by
    by_cases q : p6_cl hp n2 la = 6
    · omega
    · have := (p6_cl_lt q).1; omega
  have lt1 : nI (p6_cl hp n2 ea) ≤ nI h ↔ p6_cl hp n2 ea ≤ h := nI_leI (by omega) (by omega)
  have lt2 : nI (p6_cl hp n2 la) ≤ nI h ↔ p6_cl hp n2 la ≤ h := nI_leI (by omega) (by omega)
  have e1 : nI (p6_cl hp n2 ea) = 6 ↔ p6_cl hp n2 ea = 6 := nI_eq (b := 6) (by omega) (by decide)
  have e2 : nI (p6_cl hp n2 la) = 6 ↔ p6_cl hp n2 la = 6 := nI_eq (b := 6) (by omega) (by decide)
  have J : f_X7_areBothTold_J27 lI clA (nI h) = some (p2_b (p6_cl hp n2 la ≤ h ∨ p6_cl hp n2 la = 6)) := by
    unfold f_X7_areBothTold_J27 f_X7_areBothTold_J54
    rw [hlI, p2_gd (p2_ib hl (by decide)), p2_ix (n := la) (by omega), h2]
    simp only [lt2, e2]
    rw [p2_gd (p2_ib hl (by decide))]
    by_cases q : p6_cl hp n2 la ≤ h
    · rw [if_pos q, p2_b, if_pos (Or.inl q)]
    · rw [if_neg q]
      by_cases q2 : p6_cl hp n2 la = 6
      · rw [if_pos q2, p2_b, if_pos (Or.inr q2)]
      · rw [if_neg q2, p2_b, if_neg (fun z => by rcases z with z | z; exact q z; exact q2 z)]
  unfold f_X7_areBothTold
  rw [J, heI, p2_gd (p2_ib he (by decide)), p2_ix (n := ea) (by omega), h1]
  simp only [lt1, e1]
  rw [p2_gd (p2_ib he (by decide))]
  by_cases q : p6_cl hp n2 ea ≤ h
  · rw [if_pos q]
    congr 2
    simp only [eq_iff_iff]
    rw [p6_bt_t]
    exact ⟨fun z => ⟨Or.inl q, z⟩, fun z => z.2⟩
  · rw [if_neg q]
    by_cases q2 : p6_cl hp n2 ea = 6
    · rw [if_pos q2]
      congr 2
      simp only [eq_iff_iff]
      rw [p6_bt_t]
      exact ⟨fun z => ⟨Or.inr q2, z⟩, fun z => z.2⟩
    · rw [if_neg q2, p2_b, if_neg (fun z => by rcases (p6_bt_t.mp z).1 with y | y; exact q y; exact q2 y)]
end W2
