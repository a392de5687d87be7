/-! the box of the class against the book of the reference -/
def p2_rr (w lim off cnt n : Nat) (c : Nat → Int32) (z : Int32) (bk : Nat → Int32) : Prop := n ≤ lim ∧ z = nI n ∧ bk cnt = nI n ∧ ∀ j, j < n * w → c j = bk (off + j)
/-- an entry of the book between two numbers -/
abbrev p2_e (bk : Nat → Int32) (i : Nat) (lo hi : Int) : Prop := lo ≤ (bk i).toInt ∧ (bk i).toInt ≤ hi
/-! what a book may hold, row by row -/
def p2_V0 (bk : Nat → Int32) (p : Nat) : Prop := p2_e bk (8 + 6 * p + 0) 0 99 ∧ p2_e bk (8 + 6 * p + 1) (bk (8 + 6 * p + 0)).toInt 100 ∧ p2_e bk (8 + 6 * p + 2) 0 15 ∧ p2_e bk (8 + 6 * p + 3) 0 15 ∧ p2_e bk (8 + 6 * p + 4) (-1) ((p : Int) - 1) ∧ p2_e bk (8 + 6 * p + 5) 0 4
def p2_V1 (bk : Nat → Int32) (p : Nat) : Prop := p2_e bk (40 + 2 * p + 0) 0 99 ∧ p2_e bk (40 + 2 * p + 1) (bk (40 + 2 * p + 0)).toInt 99 ∧ (bk (40 + 2 * p + 1)).toInt ≤ (bk (40 + 2 * p + 0)).toInt + 11
def p2_V2 (bk : Nat → Int32) (n1 h : Nat) : Prop := p2_e bk (50 + 5 * h + 0) 0 ((n1 : Int) - 1) ∧ p2_e bk (50 + 5 * h + 1) 0 15 ∧ p2_e bk (50 + 5 * h + 2) 0 15 ∧ p2_e bk (50 + 5 * h + 3) 0 99 ∧ p2_e bk (50 + 5 * h + 4) (bk (50 + 5 * h + 3)).toInt 99
def p2_V3 (bk : Nat → Int32) (n0 n2 m : Nat) : Prop := p2_e bk (80 + 4 * m + 0) 0 5 ∧ p2_e bk (80 + 4 * m + 1) 0 ((n2 : Int) - 1) ∧ p2_e bk (80 + 4 * m + 2) 0 ((n0 : Int) - 1) ∧ p2_e bk (80 + 4 * m + 3) 0 ((n0 : Int) - 1)
def p2_V4 (bk : Nat → Int32) (n2 j : Nat) : Prop := p2_e bk (100 + 3 * j + 2) 0 10 ∧ ∃ a b : Nat, a < n2 ∧ b < n2 ∧ bk (100 + 3 * j + 0) = nI a ∧ bk (100 + 3 * j + 1) = nI b ∧ bk (50 + 5 * a) ≠ bk (50 + 5 * b)
def p2_V (bk : Nat → Int32) (n0 n1 n2 n3 n4 : Nat) : Prop :=
  (∀ p, p < n0 → p2_V0 bk p) ∧ (∀ p, p < n1 → p2_V1 bk p) ∧ (∀ h, h < n2 → p2_V2 bk n1 h) ∧ (∀ m, m < n3 → p2_V3 bk n0 n2 m) ∧ (∀ j, j < n4 → p2_V4 bk n2 j) ∧ p2_e bk 5 0 9
theorem p2_V0.congr {bk bk' : Nat → Int32} {p : Nat} (h : p2_V0 bk p) (e : ∀ t, t < 6 → bk' (8 + 6 * p + t) = bk (8 + 6 * p + t)) : p2_V0 bk' p := by
  unfold p2_V0 p2_e at *
  rw [e 0 (by decide), e 1 (by decide), e 2 (by decide), e 3 (by decide), e 4 (by decide), e 5 (by decide)]
  exact h
theorem p2_V1.congr {bk bk' : Nat → Int32} {p : Nat} (h : p2_V1 bk p) (e : ∀ t, t < 2 → bk' (40 + 2 * p + t) = bk (40 + 2 * p + t)) : p2_V1 bk' p := by
  unfold p2_V1 p2_e at *
  rw [e 0 (by decide), e 1 (by decide)]
  exact h
theorem p2_V2.congr {bk bk' : Nat → Int32} {n n' p : Nat} (h : p2_V2 bk n p) (hn : n ≤ n') (e : ∀ t, t < 5 → bk' (50 + 5 * p + t) = bk (50 + 5 * p + t)) : p2_V2 bk' n' p := by
  unfold p2_V2 p2_e at *
  rw [e 0 (by decide), e 1 (by decide), e 2 (by decide), e 3 (by decide), e 4 (by decide)]
  refine ⟨⟨h.1.1, ?_⟩, h.2⟩
  have := h.1.2
  omega
theorem p2_V3.congr {bk bk' : Nat → Int32} {n n' m m' p : Nat} (h : p2_V3 bk n m p) (hn : n ≤ n') (hm : m ≤ m') (e : ∀ t, t < 4 → bk' (80 + 4 * p + t) = bk (80 + 4 * p + t)) : p2_V3 bk' n' m' p := by
  unfold p2_V3 p2_e at *
  rw [e 0 (by decide), e 1 (by decide), e 2 (by decide), e 3 (by decide)]
  obtain ⟨h1, h2, h3, h4⟩ := h
  exact ⟨h1, ⟨h2.1, by omega⟩, ⟨h3.1, by omega⟩, ⟨h4.1, by omega⟩⟩
theorem p2_V4.congr {bk bk' : Nat → Int32} {n n' p : Nat} (h : p2_V4 bk n p) (hn : n ≤ n') (e : ∀ t, t < 3 → bk' (100 + 3 * p + t) = bk (100 + 3 * p + t)) (e2 : ∀ a, a < n → bk' (50 + 5 * a) = bk (50 + 5 * a)) : p2_V4 bk' n' p := by
  obtain ⟨h1, a, b, ha, hb, h2, h3, h4⟩ := h
  refine ⟨?_, a, b, by omega, by omega, (e 0 (by decide)).trans h2, (e 1 (by decide)).trans h3, by rw [e2 a ha, e2 b hb]; exact h4⟩
  unfold p2_e at *
  rw [e 2 (by decide)]
  exact h1
def p2_RB (c0 : Nat → Int32) (z0 : Int32) (c1 : Nat → Int32) (z1 : Int32) (c2 : Nat → Int32) (z2 : Int32) (c3 : Nat → Int32) (z3 : Int32) (c4 : Nat → Int32) (z4 sg : Int32) (bk : Nat → Int32) (n0 n1 n2 n3 n4 : Nat) : Prop :=
  p2_rr 6 5 8 0 n0 c0 z0 bk ∧ p2_rr 2 4 40 1 n1 c1 z1 bk ∧ p2_rr 5 6 50 2 n2 c2 z2 bk ∧ p2_rr 4 4 80 3 n3 c3 z3 bk ∧ p2_rr 3 4 100 4 n4 c4 z4 bk ∧ sg = bk 5 ∧ p2_V bk n0 n1 n2 n3 n4
/-- a change of the book that no row and no count covers keeps a row -/
theorem p2_rr.keep {w lim off cnt n : Nat} {c : Nat → Int32} {z : Int32} {bk bk' : Nat → Int32} (h : p2_rr w lim off cnt n c z bk) (h1 : bk' cnt = bk cnt) (h2 : ∀ j, j < lim * w → bk' (off + j) = bk (off + j)) : p2_rr w lim off cnt n c z bk' := by
  obtain ⟨a, b, d, e⟩ := h
  refine ⟨a, b, h1.trans d, fun j hj => ?_⟩
  have : n * w ≤ lim * w := Nat.mul_le_mul_right w a
  rw [h2 j (by omega)]
  exact e j hj
/-- one cell of a row changes on both sides -/
theorem p2_rr.set {w lim off cnt n i : Nat} {c : Nat → Int32} {z v : Int32} {bk : Nat → Int32} (h : p2_rr w lim off cnt n c z bk) (h1 : cnt ≠ off + i) : p2_rr w lim off cnt n (upd c i v) z (upd bk (off + i) v) := by
  obtain ⟨a, b, d, e⟩ := h
  refine ⟨a, b, (p2_un h1).trans d, fun j hj => ?_⟩
  by_cases hji : j = i
  · subst hji
    rw [p2_us, p2_us]
  · rw [p2_un hji, p2_un (by omega)]
    exact e j hj
section BX
variable {c0 c1 c2 c3 c4 : Nat → Int32} {z0 z1 z2 z3 z4 sg : Int32} {bk : Nat → Int32} {n0 n1 n2 n3 n4 : Nat}
/-- strange(v) -/
theorem bx_strange (h : p2_RB c0 z0 c1 z1 c2 z2 c3 z3 c4 z4 sg bk n0 n1 n2 n3 n4) (v : Int32) :
    (f_X1_setStrange sg v = some (-2, sg) ∧ ∀ rf q, f_X9_strange bk rf q v = some (-2, bk, p2_rf rf q 0)) ∨
    (-1 ≤ sg.toInt ∧ f_X1_setStrange sg v = some (sg, v) ∧ (∀ rf q, f_X9_strange bk rf q v = some (sg, upd bk 5 v, rf)) ∧ p2_RB c0 z0 c1 z1 c2 z2 c3 z3 c4 z4 v (upd bk 5 v) n0 n1 n2 n3 n4) := by
  obtain ⟨r0, r1, r2, r3, r4, rs, v0, v1, v2, v3, v4, v5⟩ := h
  by_cases hv : 0 ≤ v.toInt ∧ v.toInt ≤ 9
  · right
    refine ⟨by rw [rs]; have := v5.1; omega, ?_, fun rf q => ?_, ?_⟩
    · unfold f_X1_setStrange
      rw [p2_within, Option.bind_some, if_neg (fun h => (p2_b0.mp h) (by exact hv))]
    · unfold f_X9_strange
      rw [p2_in, Option.bind_some, if_neg (fun h => (p2_b0.mp h) (by rw [p2_l]; exact hv)), p2_gd (by decide), p2_gd (by decide), rs]
      rfl
    · have un : ∀ j, j ≠ 5 → upd bk 5 v j = bk j := fun j hj => p2_un hj
      exact ⟨r0.keep (un _ (by decide)) (fun j hj => un _ (by omega)), r1.keep (un _ (by decide)) (fun j hj => un _ (by omega)), r2.keep (un _ (by decide)) (fun j hj => un _ (by omega)), r3.keep (un _ (by decide)) (fun j hj => un _ (by omega)), r4.keep (un _ (by decide)) (fun j hj => un _ (by omega)), p2_us.symm, fun p hp => (v0 p hp).congr (fun t _ => un _ (by omega)), fun p hp => (v1 p hp).congr (fun t _ => un _ (by omega)), fun p hp => (v2 p hp).congr (Nat.le_refl _) (fun t _ => un _ (by omega)), fun p hp => (v3 p hp).congr (Nat.le_refl _) (Nat.le_refl _) (fun t _ => un _ (by omega)), fun p hp => (v4 p hp).congr (Nat.le_refl _) (fun t _ => un _ (by omega)) (fun a _ => un _ (by omega)), by rw [p2_e, p2_us]; exact hv⟩
  · left
    refine ⟨?_, fun rf q => ?_⟩
    · unfold f_X1_setStrange
      rw [p2_within, Option.bind_some, if_pos (p2_b0.mpr (by exact hv))]
    · unfold f_X9_strange
      rw [p2_in, Option.bind_some, if_pos (p2_b0.mpr (by rw [p2_l]; exact hv)), p2_bad]
      rfl
/-- a number of a row: inside, as a Nat, or outside -/
theorem p2_num (p : Int32) (n : Nat) (hn : n < 2 ^ 31) : (∃ r : Nat, r < n ∧ p = nI r) ∨ ¬ (0 ≤ p.toInt ∧ p.toInt < (n : Int)) := by
  by_cases h : 0 ≤ p.toInt ∧ p.toInt < (n : Int)
  · left
    obtain ⟨r, hr, rfl⟩ := vp_in_of (vp_in_iff.mpr h) hn
    exact ⟨r, hr, rfl⟩
  · exact Or.inr h
theorem p2_isPerson (p : Int32) (hb : bk 0 = nI n0) (hn : n0 ≤ 5) : f_X9_isPerson bk p = some (p2_b (0 ≤ p.toInt ∧ p.toInt < (n0 : Int))) := by
  unfold f_X9_isPerson
  have e0 : bk (cx_ix 0) = nI n0 := hb
  have e1 : (nI n0 - 1).toInt = (n0 : Int) - 1 := pk_sub_toInt (a := n0) (b := 1) (by omega) (by omega)
  rw [p2_gd (by decide), p2_in, Option.bind_some, p2_gd (by simp only [p2_b]; split <;> decide), e0, p2_l, p2_l, e1]
  congr 2
  simp only [eq_iff_iff]
  exact ⟨fun h => ⟨h.1, by have := h.2; omega⟩, fun h => ⟨h.1, by have := h.2; omega⟩⟩
theorem p2_ofPerson (r t : Nat) (hr : r < 5) (ht : t < 6) : f_X9_ofPerson bk (nI r) (nI t) = some (bk (8 + 6 * r + t)) := by
  unfold f_X9_ofPerson
  rw [show (8 : Int32) = nI 8 from rfl, show (6 : Int32) = nI 6 from rfl, pk_mul, nI_add, nI_add, p2_gd (p2_ib (by omega) (by decide)), p2_ix (by omega)]
/-- near(p, v) -/
theorem bx_near (h : p2_RB c0 z0 c1 z1 c2 z2 c3 z3 c4 z4 sg bk n0 n1 n2 n3 n4) (p v : Int32) :
    (f_X1_setNear c0 z0 p v = some (-2, c0) ∧ ∀ rf q, f_X9_near bk rf q p v = some (-2, bk, p2_rf rf q 0)) ∨
    (∃ (a : Int32) (c' bk' : Nat → Int32), -1 ≤ a.toInt ∧ f_X1_setNear c0 z0 p v = some (a, c') ∧ (∀ rf q, f_X9_near bk rf q p v = some (a, bk', rf)) ∧ p2_RB c' z0 c1 z1 c2 z2 c3 z3 c4 z4 sg bk' n0 n1 n2 n3 n4) := by
  obtain ⟨r0, r1, r2, r3, r4, rs, v0, v1, v2, v3, v4, v5⟩ := h
  obtain ⟨hn0, hz0, hb0, hc0⟩ := id r0
  have ez : z0.toInt = (n0 : Int) := by rw [hz0]; exact nI_toInt (by omega)
  rcases p2_num p n0 (by omega) with ⟨r, hr, rfl⟩ | hp
  · have er : (nI r).toInt = (r : Int) := nI_toInt (by omega)
    by_cases hv : 0 ≤ v.toInt ∧ v.toInt ≤ 4
    · right
      refine ⟨bk (8 + 6 * r + 5), upd c0 (6 * r + 5) v, upd bk (8 + (6 * r + 5)) v, ?_, ?_, fun rf q => ?_, ?_⟩
      · have := (v0 r hr).2.2.2.2.2.1
        omega
      · unfold f_X1_setNear
        have ea := p2_at (w := 6) (n := 30) (z := n0) (r := r) (c := 5) c0 hr (by decide) (by omega) (by decide) (by omega) (by decide)
        have ep := p2_put (w := 6) (n := 30) (z := n0) (r := r) (c := 5) c0 v hr (by decide) (by omega) (by decide) (by omega) (by decide)
        rw [p2_has, Option.bind_some, if_neg (fun h => (p2_b0.mp h) (by rw [er, ez]; omega)), p2_within, Option.bind_some, if_neg (fun h => (p2_b0.mp h) (by exact hv)), hz0,
          show f_X4_at 6 30 c0 (nI n0) (nI r) 5 = _ from ea, Option.bind_some, show f_X4_put 6 30 c0 (nI n0) (nI r) 5 v = _ from ep, Option.bind_some, hc0 (r * 6 + 5) (by omega), show 8 + (r * 6 + 5) = 8 + 6 * r + 5 by omega, show r * 6 + 5 = 6 * r + 5 by omega]
      · unfold f_X9_near
        rw [p2_isPerson _ hb0 hn0, Option.bind_some, if_neg (fun h => (p2_b0.mp h) (by rw [er]; omega)), p2_in, Option.bind_some, if_neg (fun h => (p2_b0.mp h) (by rw [p2_l]; exact hv)),
          show f_X9_ofPerson bk (nI r) 5 = _ from p2_ofPerson r 5 (by omega) (by decide), Option.bind_some, show (8 : Int32) = nI 8 from rfl, show (6 : Int32) = nI 6 from rfl, show (5 : Int32) = nI 5 from rfl, pk_mul, nI_add, nI_add, p2_gd (p2_ib (by omega) (by decide)), p2_ix (by omega), show 8 + (6 * r + 5) = 8 + 6 * r + 5 by omega]
        rfl
      · have un : ∀ j, j ≠ 8 + (6 * r + 5) → upd bk (8 + (6 * r + 5)) v j = bk j := fun j hj => p2_un hj
        refine ⟨r0.set (by omega), r1.keep (un _ (by omega)) (fun j hj => un _ (by omega)), r2.keep (un _ (by omega)) (fun j hj => un _ (by omega)), r3.keep (un _ (by omega)) (fun j hj => un _ (by omega)), r4.keep (un _ (by omega)) (fun j hj => un _ (by omega)), by rw [un _ (by omega)]; exact rs, fun p hp => ?_, fun p hp => (v1 p hp).congr (fun t _ => un _ (by omega)), fun p hp => (v2 p hp).congr (Nat.le_refl _) (fun t _ => un _ (by omega)), fun p hp => (v3 p hp).congr (Nat.le_refl _) (Nat.le_refl _) (fun t _ => un _ (by omega)), fun p hp => (v4 p hp).congr (Nat.le_refl _) (fun t _ => un _ (by omega)) (fun a ha => un _ (by omega)), by rw [p2_e, un _ (by omega)]; exact v5⟩
        by_cases hpr : p = r
        · subst hpr
          have w := v0 p hp
          unfold p2_V0 p2_e at *
          rw [un _ (by omega), un _ (by omega), un _ (by omega), un _ (by omega), un _ (by omega), show 8 + 6 * p + 5 = 8 + (6 * p + 5) by omega, p2_us]
          exact ⟨w.1, w.2.1, w.2.2.1, w.2.2.2.1, w.2.2.2.2.1, hv⟩
        · exact (v0 p hp).congr (fun t _ => un _ (by omega))
    · left
      refine ⟨?_, fun rf q => ?_⟩
      · unfold f_X1_setNear
        rw [p2_has, Option.bind_some, if_neg (fun h => (p2_b0.mp h) (by rw [er, ez]; omega)), p2_within, Option.bind_some, if_pos (p2_b0.mpr (by exact hv))]
      · unfold f_X9_near f_X9_near_J20
        rw [p2_isPerson _ hb0 hn0, Option.bind_some, if_neg (fun h => (p2_b0.mp h) (by rw [er]; omega)), p2_in, Option.bind_some, if_pos (p2_b0.mpr (by rw [p2_l]; exact hv)), p2_bad]
        rfl
  · left
    refine ⟨?_, fun rf q => ?_⟩
    · unfold f_X1_setNear
      rw [p2_has, Option.bind_some, if_pos (p2_b0.mpr (by rw [ez]; exact hp))]
    · unfold f_X9_near f_X9_near_J20
      rw [p2_isPerson _ hb0 hn0, Option.bind_some, if_pos (p2_b0.mpr hp), p2_bad]
      rfl
end BX
