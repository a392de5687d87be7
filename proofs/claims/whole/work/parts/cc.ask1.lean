/-! like, parts, limb, images -/
theorem i_RBcongr {c0 c1 c2 c3 c4 : Nat → Int32} {z0 z1 z2 z3 z4 sg : Int32} {bk bk' : Nat → Int32} {n0 n1 n2 n3 n4 : Nat} (h : p2_RB c0 z0 c1 z1 c2 z2 c3 z3 c4 z4 sg bk n0 n1 n2 n3 n4) (e : ∀ j, j < 140 → bk' j = bk j) : p2_RB c0 z0 c1 z1 c2 z2 c3 z3 c4 z4 sg bk' n0 n1 n2 n3 n4 := by
  obtain ⟨r0, r1, r2, r3, r4, rs, v0, v1, v2, v3, v4, v5⟩ := h
  have a0 := r0.1
  have a1 := r1.1
  have a2 := r2.1
  have a3 := r3.1
  have a4 := r4.1
  refine ⟨r0.keep (e _ (by omega)) (fun j hj => e _ (by omega)), r1.keep (e _ (by omega)) (fun j hj => e _ (by omega)), r2.keep (e _ (by omega)) (fun j hj => e _ (by omega)), r3.keep (e _ (by omega)) (fun j hj => e _ (by omega)), r4.keep (e _ (by omega)) (fun j hj => e _ (by omega)), by rw [e 5 (by omega)]; exact rs, fun p hp => (v0 p hp).congr (fun t ht => e _ (by omega)), fun p hp => (v1 p hp).congr (fun t ht => e _ (by omega)), fun p hp => (v2 p hp).congr (Nat.le_refl _) (fun t ht => e _ (by omega)), fun p hp => (v3 p hp).congr (Nat.le_refl _) (Nat.le_refl _) (fun t ht => e _ (by omega)), fun p hp => (v4 p hp).congr (Nat.le_refl _) (fun t ht => e _ (by omega)) (fun a ha => e _ (by omega)), by rw [p2_e, e 5 (by omega)]; exact v5⟩
theorem i_take1 {w lim off cnt n N : Nat} {c : Nat → Int32} {z : Int32} {bk : Nat → Int32} (h : p2_rr w lim off cnt n c z bk) (hN : N = lim * w) (hb : N < 2 ^ 31) (hl : lim < 2 ^ 31) (r : Nat → Int32) : ∃ c', f_X4_take (nI lim) N r N c z = some (z, c') ∧ p2_rr w lim off cnt n c' z bk := by
  obtain ⟨a1, a2, a3, a4⟩ := h
  have hle : n * w ≤ N := by rw [hN]; exact Nat.mul_le_mul_right w a1
  refine ⟨va_cpy c r 0 0 N, ?_, a1, a2, a3, fun j hj => ?_⟩
  · unfold f_X4_take
    have e1 : (if Int32.ofNat N < Int32.ofNat N then Int32.ofNat N else Int32.ofNat N) = nI N := by split <;> rfl
    have e2 : cx_ix (nI N) = N := p2_ix hb
    rw [e1, e2, p2_gd]
    · simp only [cx_let]
      have : (if nI lim < z then nI lim else z) = z := by
        rw [a2, if_neg (fun q => by have := (nI_ltI hl (by omega)).mp q; omega)]
      rw [this]
      rfl
    · unfold cx_cb
      refine decide_eq_true ⟨by decide, by decide, nI_pos (by omega), ?_, ?_⟩
      · rw [show (nI N).toNatClampNeg = N from e2, show (0 : Int32).toNatClampNeg = 0 from rfl]; omega
      · rw [show (nI N).toNatClampNeg = N from e2, show (0 : Int32).toNatClampNeg = 0 from rfl]; omega
  · rw [pk_cpy_in (by omega) (by omega), show 0 + (j - 0) = j by omega]
    exact a4 j hj
theorem i_take {c0 c1 c2 c3 c4 : Nat → Int32} {z0 z1 z2 z3 z4 sg : Int32} {bk : Nat → Int32} {n0 n1 n2 n3 n4 : Nat} (h : p2_RB c0 z0 c1 z1 c2 z2 c3 z3 c4 z4 sg bk n0 n1 n2 n3 n4) (d0 d1 d2 d3 d4 : Nat → Int32) : ∃ e0 e1 e2 e3 e4, f_X1_take d0 d1 d2 d3 d4 c0 z0 c1 z1 c2 z2 c3 z3 c4 z4 sg = some (sg, z0, e0, z1, e1, z2, e2, z3, e3, z4, e4) ∧ p2_RB e0 z0 e1 z1 e2 z2 e3 z3 e4 z4 sg bk n0 n1 n2 n3 n4 := by
  obtain ⟨r0, r1, r2, r3, r4, rs, v⟩ := h
  obtain ⟨e0, a0, b0⟩ := i_take1 (N := 30) r0 (by decide) (by decide) (by decide) d0
  obtain ⟨e1, a1, b1⟩ := i_take1 (N := 8) r1 (by decide) (by decide) (by decide) d1
  obtain ⟨e2, a2, b2⟩ := i_take1 (N := 30) r2 (by decide) (by decide) (by decide) d2
  obtain ⟨e3, a3, b3⟩ := i_take1 (N := 16) r3 (by decide) (by decide) (by decide) d3
  obtain ⟨e4, a4, b4⟩ := i_take1 (N := 12) r4 (by decide) (by decide) (by decide) d4
  refine ⟨e0, e1, e2, e3, e4, ?_, b0, b1, b2, b3, b4, rs, v⟩
  unfold f_X1_take
  rw [show f_X4_take 5 30 d0 30 c0 z0 = _ from a0, Option.bind_some, show f_X4_take 4 8 d1 8 c1 z1 = _ from a1, Option.bind_some, show f_X4_take 6 30 d2 30 c2 z2 = _ from a2, Option.bind_some, show f_X4_take 4 16 d3 16 c3 z3 = _ from a3, Option.bind_some, show f_X4_take 4 12 d4 12 c4 z4 = _ from a4, Option.bind_some]
/-- a number 0 or 1 -/
theorem i_01 (p : Int32) : (p = 0 ∨ p = 1) ∨ ¬ ((0 : Int32).toInt ≤ p.toInt ∧ p.toInt ≤ (1 : Int32).toInt) := by
  have e0 : (0 : Int32).toInt = 0 := rfl
  have e1 : (1 : Int32).toInt = 1 := rfl
  by_cases h : p.toInt = 0
  · exact Or.inl (Or.inl (p2_eq.mpr h))
  · by_cases h1 : p.toInt = 1
    · exact Or.inl (Or.inr (p2_eq.mpr h1))
    · right
      rw [e0, e1]
      omega
theorem i_imL (bk mk rf : Nat → Int32) (i : Nat) (hi : i < 2) : ∀ (r k m : Nat) (a : Nat → Int32), k + r = 140 → r < m → (∀ j, j < k → a (140 * i + j) = bk j) → ∃ a', f_X9_image_L17w bk mk rf (nI i) m a (nI k) = some (1, a', upd mk i 1, rf) ∧ (∀ j, j < 140 → a' (140 * i + j) = bk j) ∧ (∀ j, (j < 140 * i ∨ 140 * i + 140 ≤ j) → a' j = a j) := by
  intro r
  induction r with
  | zero =>
    intro k m a h1 h2 h3
    obtain ⟨m, rfl⟩ : ∃ j, m = j + 1 := ⟨m - 1, by omega⟩
    refine ⟨a, ?_, fun j hj => h3 j (by omega), fun _ _ => rfl⟩
    show f_X9_image_L17 bk mk rf (nI i) (f_X9_image_L17w bk mk rf (nI i) m) a (nI k) = _
    unfold f_X9_image_L17
    rw [show (140 : Int32) = nI 140 from rfl, if_pos (nI_le (by omega) (by omega)), p2_gd (p2_ib hi (by decide)), p2_ix (n := i) (by omega)]
    rfl
  | succ r ih =>
    intro k m a h1 h2 h3
    obtain ⟨m, rfl⟩ : ∃ j, m = j + 1 := ⟨m - 1, by omega⟩
    obtain ⟨a', g1, g2, g3⟩ := ih (k + 1) m (upd a (140 * i + k) (bk k)) (by omega) (by omega) (fun j hj => by
      by_cases e : j = k
      · subst e; rw [p2_us]
      · rw [p2_un (by omega)]; exact h3 j (by omega))
    refine ⟨a', ?_, g2, fun j hj => by rw [g3 j hj, p2_un (by omega)]⟩
    rw [← g1]
    show f_X9_image_L17 bk mk rf (nI i) (f_X9_image_L17w bk mk rf (nI i) m) a (nI k) = _
    unfold f_X9_image_L17
    rw [show (140 : Int32) = nI 140 from rfl, if_neg (nI_ge (by omega) (by omega)), p2_gd (p2_ib (by omega) (by decide)), pk_mul, nI_add, p2_gd (p2_ib (by omega) (by decide)), p2_ix (n := 140 * i + k) (by omega), p2_ix (n := k) (by omega), nI_1]
    rfl
theorem i_frL (im rf : Nat → Int32) (i : Nat) (hi : i < 2) : ∀ (r k m : Nat) (a : Nat → Int32), k + r = 140 → r < m → (∀ j, j < k → a j = im (140 * i + j)) → ∃ a', f_X9_from_L31w im rf (nI i) m a (nI k) = some (1, a', rf) ∧ (∀ j, j < 140 → a' j = im (140 * i + j)) := by
  intro r
  induction r with
  | zero =>
    intro k m a h1 h2 h3
    obtain ⟨m, rfl⟩ : ∃ j, m = j + 1 := ⟨m - 1, by omega⟩
    refine ⟨a, ?_, fun j hj => h3 j (by omega)⟩
    show f_X9_from_L31 im rf (nI i) (f_X9_from_L31w im rf (nI i) m) a (nI k) = _
    unfold f_X9_from_L31
    rw [show (140 : Int32) = nI 140 from rfl, if_pos (nI_le (by omega) (by omega))]
  | succ r ih =>
    intro k m a h1 h2 h3
    obtain ⟨m, rfl⟩ : ∃ j, m = j + 1 := ⟨m - 1, by omega⟩
    obtain ⟨a', g1, g2⟩ := ih (k + 1) m (upd a k (im (140 * i + k))) (by omega) (by omega) (fun j hj => by
      by_cases e : j = k
      · subst e; rw [p2_us]
      · rw [p2_un e]; exact h3 j (by omega))
    refine ⟨a', ?_, g2⟩
    rw [← g1]
    show f_X9_from_L31 im rf (nI i) (f_X9_from_L31w im rf (nI i) m) a (nI k) = _
    unfold f_X9_from_L31
    rw [show (140 : Int32) = nI 140 from rfl, if_neg (nI_ge (by omega) (by omega)), pk_mul, nI_add, p2_gd (p2_ib (by omega) (by decide)), p2_gd (p2_ib (by omega) (by decide)), p2_ix (n := 140 * i + k) (by omega), p2_ix (n := k) (by omega), nI_1]
    rfl
theorem i_image : ob_image i_Inv := by
  intro σ τ p1 h
  obtain ⟨⟨n0, n1, n2, n3, n4, hRB, hsm⟩, hR, hK0, hK1, hT, hF, hO1, hO2, hS1, hS2⟩ := h
  rcases i_01 p1 with hp | hp
  · have hw : f_X8_within p1 0 1 = some 1 := by rcases hp with rfl | rfl <;> (rw [p2_within]; rfl)
    have hin : f_X9_in (Int32.toInt64 p1) 0 1 = some 1 := by rcases hp with rfl | rfl <;> (rw [p2_in]; rfl)
    rcases hp with rfl | rfl
    · obtain ⟨e0, e1, e2, e3, e4, t1, t2⟩ := i_take hRB (σ.1 12) (σ.1 13) (σ.1 14) (σ.1 15) (σ.1 16)
      obtain ⟨im', g1, g2, g3⟩ := i_imL (τ.1 2) (τ.1 4) (τ.1 6) 0 (by decide) 140 0 cx_N0 (τ.1 3) (by omega) (by unfold cx_N0; omega) (fun j hj => by omega)
      refine ⟨(1, upd (σ.1 0) 0 1, σ.1 1, σ.2.2 6, σ.2.2 1, e0, σ.2.2 2, e1, σ.2.2 3, e2, σ.2.2 4, e3, σ.2.2 5, e4, σ.2.2 24, σ.2.2 19, σ.1 17, σ.2.2 20, σ.1 18, σ.2.2 21, σ.1 19, σ.2.2 22, σ.1 20, σ.2.2 23, σ.1 21), (1, im', upd (τ.1 4) 0 1, τ.1 6), ?_, ?_, rfl, ?_⟩
      · unfold f_X8_image
        rw [hw, Option.bind_some, if_neg (by decide)]
        unfold f_X8_imageOf
        rw [if_pos rfl, Option.bind_some, if_pos rfl, t1, Option.bind_some, p2_gd (by decide)]
        rfl
      · unfold f_X9_image
        rw [hin, Option.bind_some, if_neg (by decide)]
        exact g1
      · refine ⟨⟨n0, n1, n2, n3, n4, hRB, hsm⟩, hR, ⟨rfl, Or.inr rfl, fun _ => ⟨n0, n1, n2, n3, n4, i_RBcongr t2 (fun j hj => g2 j hj)⟩⟩, ⟨hK1.1, hK1.2.1, fun q => ?_⟩, hT, hF, hO1, hO2, hS1, hS2⟩
        obtain ⟨m0, m1, m2, m3, m4, m5⟩ := hK1.2.2 q
        exact ⟨m0, m1, m2, m3, m4, i_RBcongr m5 (fun j hj => g3 _ (by omega))⟩
    · obtain ⟨e0, e1, e2, e3, e4, t1, t2⟩ := i_take hRB (σ.1 17) (σ.1 18) (σ.1 19) (σ.1 20) (σ.1 21)
      obtain ⟨im', g1, g2, g3⟩ := i_imL (τ.1 2) (τ.1 4) (τ.1 6) 1 (by decide) 140 0 cx_N0 (τ.1 3) (by omega) (by unfold cx_N0; omega) (fun j hj => by omega)
      refine ⟨(1, upd (σ.1 0) 1 1, σ.1 1, σ.2.2 18, σ.2.2 13, σ.1 12, σ.2.2 14, σ.1 13, σ.2.2 15, σ.1 14, σ.2.2 16, σ.1 15, σ.2.2 17, σ.1 16, σ.2.2 6, σ.2.2 1, e0, σ.2.2 2, e1, σ.2.2 3, e2, σ.2.2 4, e3, σ.2.2 5, e4), (1, im', upd (τ.1 4) 1 1, τ.1 6), ?_, ?_, rfl, ?_⟩
      · unfold f_X8_image
        rw [hw, Option.bind_some, if_neg (by decide)]
        unfold f_X8_imageOf
        rw [if_neg (by decide), Option.bind_some, if_neg (by decide), t1, Option.bind_some, p2_gd (by decide)]
        rfl
      · unfold f_X9_image
        rw [hin, Option.bind_some, if_neg (by decide)]
        exact g1
      · refine ⟨⟨n0, n1, n2, n3, n4, hRB, hsm⟩, hR, ⟨hK0.1, hK0.2.1, fun q => ?_⟩, ⟨rfl, Or.inr rfl, fun _ => ⟨n0, n1, n2, n3, n4, i_RBcongr t2 (fun j hj => g2 j hj)⟩⟩, hT, hF, hO1, hO2, hS1, hS2⟩
        obtain ⟨m0, m1, m2, m3, m4, m5⟩ := hK0.2.2 q
        exact ⟨m0, m1, m2, m3, m4, i_RBcongr m5 (fun j hj => g3 _ (by omega))⟩
  · refine ⟨(-2, σ.1 0, upd (σ.1 1) 0 ((σ.1 1) 0 + 1), σ.2.2 18, σ.2.2 13, σ.1 12, σ.2.2 14, σ.1 13, σ.2.2 15, σ.1 14, σ.2.2 16, σ.1 15, σ.2.2 17, σ.1 16, σ.2.2 24, σ.2.2 19, σ.1 17, σ.2.2 20, σ.1 18, σ.2.2 21, σ.1 19, σ.2.2 22, σ.1 20, σ.2.2 23, σ.1 21), (-2, τ.1 3, τ.1 4, p2_rf (τ.1 6) (τ.2.2 0) 0), ?_, ?_, rfl, ?_⟩
    · unfold f_X8_image
      rw [p2_within, Option.bind_some, if_pos (p2_b0.mpr hp), p2_refused2, Option.bind_some]
    · unfold f_X9_image
      rw [p2_in, Option.bind_some, if_pos (p2_b0.mpr (by rw [p2_l]; exact hp)), p2_bad, Option.bind_some]
    · exact ⟨⟨n0, n1, n2, n3, n4, hRB, hsm⟩, i_Rup hR 0 (by decide), hK0, hK1, hT, hF, hO1, hO2, hS1, hS2⟩
theorem i_from : ob_from i_Inv := by
  intro σ τ p1 h
  obtain ⟨⟨n0, n1, n2, n3, n4, hRB, hsm⟩, hR, hK0, hK1, hT, hF, hO1, hO2, hS1, hS2⟩ := h
  have bad : ∀ (r : Int32) (i : Nat), i < 3 → (r = -2 ∧ i = 0 ∨ r = -3 ∧ i = 1) → i_Inv (cx_sI (cx_sZ (cx_sI (cx_sZ (cx_sI (cx_sZ (cx_sI (cx_sZ (cx_sI (cx_sZ (cx_sZ (cx_sI (cx_sZ σ 0 (σ.2.2 0)) 1 (upd (σ.1 1) i ((σ.1 1) i + 1))) 6 (σ.2.2 6)) 1 (σ.2.2 1)) 2 (σ.1 2)) 2 (σ.2.2 2)) 3 (σ.1 3)) 3 (σ.2.2 3)) 4 (σ.1 4)) 4 (σ.2.2 4)) 5 (σ.1 5)) 5 (σ.2.2 5)) 6 (σ.1 6)) (cx_sI (cx_sI τ 2 (τ.1 2)) 6 (p2_rf (τ.1 6) (τ.2.2 0) i)) := fun r i hi _ => ⟨⟨n0, n1, n2, n3, n4, hRB, hsm⟩, i_Rup hR i hi, hK0, hK1, hT, hF, hO1, hO2, hS1, hS2⟩
  rcases i_01 p1 with hp | hp
  · have hw : f_X8_within p1 0 1 = some 1 := by rcases hp with rfl | rfl <;> (rw [p2_within]; rfl)
    have hin : f_X9_in (Int32.toInt64 p1) 0 1 = some 1 := by rcases hp with rfl | rfl <;> (rw [p2_in]; rfl)
    have key : ∀ (i : Nat), i < 2 → p1 = nI i → (σ.1 0) i = (τ.1 4) i → ((σ.1 0) i ≠ 0 → ∃ m0 m1 m2 m3 m4 e0 e1 e2 e3 e4 y0 y1 y2 y3 y4 ys, f_X8_from (σ.1 0) (σ.1 1) (σ.2.2 0) (σ.1 2) (σ.2.2 1) (σ.1 3) (σ.2.2 2) (σ.1 4) (σ.2.2 3) (σ.1 5) (σ.2.2 4) (σ.1 6) (σ.2.2 5) (σ.2.2 6) (σ.1 12) (σ.2.2 13) (σ.1 13) (σ.2.2 14) (σ.1 14) (σ.2.2 15) (σ.1 15) (σ.2.2 16) (σ.1 16) (σ.2.2 17) (σ.2.2 18) (σ.1 17) (σ.2.2 19) (σ.1 18) (σ.2.2 20) (σ.1 19) (σ.2.2 21) (σ.1 20) (σ.2.2 22) (σ.1 21) (σ.2.2 23) (σ.2.2 24) p1 = some (1, -1, σ.1 1, ys, y0, e0, y1, e1, y2, e2, y3, e3, y4, e4) ∧ p2_RB e0 y0 e1 y1 e2 y2 e3 y3 e4 y4 ys (fun j => (τ.1 3) (140 * i + j)) m0 m1 m2 m3 m4) → ∃ (y1 : Int32 × Int32 × (Nat → Int32) × Int32 × Int32 × (Nat → Int32) × Int32 × (Nat → Int32) × Int32 × (Nat → Int32) × Int32 × (Nat → Int32) × Int32 × (Nat → Int32)) (y2 : Int32 × (Nat → Int32) × (Nat → Int32)), f_X8_from (σ.1 0) (σ.1 1) (σ.2.2 0) (σ.1 2) (σ.2.2 1) (σ.1 3) (σ.2.2 2) (σ.1 4) (σ.2.2 3) (σ.1 5) (σ.2.2 4) (σ.1 6) (σ.2.2 5) (σ.2.2 6) (σ.1 12) (σ.2.2 13) (σ.1 13) (σ.2.2 14) (σ.1 14) (σ.2.2 15) (σ.1 15) (σ.2.2 16) (σ.1 16) (σ.2.2 17) (σ.2.2 18) (σ.1 17) (σ.2.2 19) (σ.1 18) (σ.2.2 20) (σ.1 19) (σ.2.2 21) (σ.1 20) (σ.2.2 22) (σ.1 21) (σ.2.2 23) (σ.2.2 24) p1 = some y1 ∧ f_X9_from (τ.1 2) (τ.1 3) (τ.1 4) (τ.1 6) (τ.2.2 0) p1 = some y2 ∧ y1.1 = y2.1 ∧ i_Inv (cx_sI (cx_sZ (cx_sI (cx_sZ (cx_sI (cx_sZ (cx_sI (cx_sZ (cx_sI (cx_sZ (cx_sZ (cx_sI (cx_sZ σ 0 y1.2.1) 1 y1.2.2.1) 6 y1.2.2.2.1) 1 y1.2.2.2.2.1) 2 y1.2.2.2.2.2.1) 2 y1.2.2.2.2.2.2.1) 3 y1.2.2.2.2.2.2.2.1) 3 y1.2.2.2.2.2.2.2.2.1) 4 y1.2.2.2.2.2.2.2.2.2.1) 4 y1.2.2.2.2.2.2.2.2.2.2.1) 5 y1.2.2.2.2.2.2.2.2.2.2.2.1) 5 y1.2.2.2.2.2.2.2.2.2.2.2.2.1) 6 y1.2.2.2.2.2.2.2.2.2.2.2.2.2) (cx_sI (cx_sI τ 2 y2.2.1) 6 y2.2.2) := by
      intro i hi hpi hkk hgo
      have hix : cx_ix p1 = i := by rw [hpi]; exact p2_ix (by omega)
      have hgd : cx_ib p1 2 = true := by rw [hpi]; exact p2_ib hi (by decide)
      by_cases hk : (σ.1 0) i = 0
      · refine ⟨(-3, σ.2.2 0, upd (σ.1 1) 1 ((σ.1 1) 1 + 1), σ.2.2 6, σ.2.2 1, σ.1 2, σ.2.2 2, σ.1 3, σ.2.2 3, σ.1 4, σ.2.2 4, σ.1 5, σ.2.2 5, σ.1 6), (-3, τ.1 2, p2_rf (τ.1 6) (τ.2.2 0) 1), ?_, ?_, rfl, bad (-3) 1 (by decide) (Or.inr ⟨rfl, rfl⟩)⟩
        · unfold f_X8_from
          rw [hw, Option.bind_some, if_neg (by decide), p2_gd hgd, hix, if_pos hk, i_no, Option.bind_some]
        · unfold f_X9_from
          rw [hin, Option.bind_some, if_neg (by decide), p2_gd hgd, hix, if_pos (by rw [← hkk]; exact hk), p2_no, Option.bind_some]
      · obtain ⟨m0, m1, m2, m3, m4, e0, e1, e2, e3, e4, y0, y1, y2, y3, y4, ys, t1, t2⟩ := hgo hk
        obtain ⟨bk', g1, g2⟩ := i_frL (τ.1 3) (τ.1 6) i hi 140 0 cx_N0 (τ.1 2) (by omega) (by unfold cx_N0; omega) (fun j hj => by omega)
        refine ⟨_, (1, bk', τ.1 6), t1, ?_, rfl, ⟨⟨m0, m1, m2, m3, m4, i_RBcongr t2 (fun j hj => g2 j hj), Or.inl rfl⟩, hR, hK0, hK1, hT, hF, hO1, hO2, hS1, hS2⟩⟩
        unfold f_X9_from
        rw [hin, Option.bind_some, if_neg (by decide), p2_gd hgd, hix, if_neg (by rw [← hkk]; exact hk), hpi]
        exact g1
    rcases hp with rfl | rfl
    · refine key 0 (by decide) rfl hK0.1 (fun q => ?_)
      obtain ⟨m0, m1, m2, m3, m4, m5⟩ := hK0.2.2 q
      obtain ⟨e0, e1, e2, e3, e4, t1, t2⟩ := i_take m5 (σ.1 2) (σ.1 3) (σ.1 4) (σ.1 5) (σ.1 6)
      refine ⟨m0, m1, m2, m3, m4, e0, e1, e2, e3, e4, _, _, _, _, _, _, ?_, t2⟩
      unfold f_X8_from
      rw [hw, Option.bind_some, if_neg (by decide), p2_gd (by decide), if_neg (show ¬ (σ.1 0) (cx_ix 0) = 0 from q)]
      unfold f_X8_imageOf
      rw [if_pos rfl, Option.bind_some, if_pos rfl, t1, Option.bind_some]
    · refine key 1 (by decide) rfl hK1.1 (fun q => ?_)
      obtain ⟨m0, m1, m2, m3, m4, m5⟩ := hK1.2.2 q
      obtain ⟨e0, e1, e2, e3, e4, t1, t2⟩ := i_take m5 (σ.1 2) (σ.1 3) (σ.1 4) (σ.1 5) (σ.1 6)
      refine ⟨m0, m1, m2, m3, m4, e0, e1, e2, e3, e4, _, _, _, _, _, _, ?_, t2⟩
      unfold f_X8_from
      rw [hw, Option.bind_some, if_neg (by decide), p2_gd (by decide), if_neg (show ¬ (σ.1 0) (cx_ix 1) = 0 from q)]
      unfold f_X8_imageOf
      rw [if_neg (by decide), Option.bind_some, if_neg (by decide), t1, Option.bind_some]
  · refine ⟨(-2, σ.2.2 0, upd (σ.1 1) 0 ((σ.1 1) 0 + 1), σ.2.2 6, σ.2.2 1, σ.1 2, σ.2.2 2, σ.1 3, σ.2.2 3, σ.1 4, σ.2.2 4, σ.1 5, σ.2.2 5, σ.1 6), (-2, τ.1 2, p2_rf (τ.1 6) (τ.2.2 0) 0), ?_, ?_, rfl, bad (-2) 0 (by decide) (Or.inl ⟨rfl, rfl⟩)⟩
    · unfold f_X8_from
      rw [p2_within, Option.bind_some, if_pos (p2_b0.mpr hp), p2_refused2, Option.bind_some]
    · unfold f_X9_from
      rw [p2_in, Option.bind_some, if_pos (p2_b0.mpr (by rw [p2_l]; exact hp)), p2_bad, Option.bind_some]
