section BX3
variable {c0 c1 c2 c3 c4 : Nat → Int32} {z0 z1 z2 z3 z4 sg : Int32} {bk : Nat → Int32} {n0 n1 n2 n3 n4 : Nat}
theorem p2_isPicture (p : Int32) (hb : bk 1 = nI n1) (hn : n1 ≤ 4) : f_X9_isPicture bk p = some (p2_b (0 ≤ p.toInt ∧ p.toInt < (n1 : Int))) := by
  unfold f_X9_isPicture
  have e0 : bk (cx_ix 1) = nI n1 := hb
  have e1 : (nI n1 - 1).toInt = (n1 : Int) - 1 := pk_sub_toInt (a := n1) (b := 1) (by omega) (by omega)
  rw [p2_gd (by decide), p2_in, Option.bind_some, p2_gd (by simp only [p2_b]; split <;> decide), e0, p2_l, p2_l, e1]
  congr 2
  simp only [eq_iff_iff]
  exact ⟨fun h => ⟨h.1, by have := h.2; omega⟩, fun h => ⟨h.1, by have := h.2; omega⟩⟩
theorem p2_isHead (p : Int32) (hb : bk 2 = nI n2) (hn : n2 ≤ 6) : f_X9_isHead bk p = some (p2_b (0 ≤ p.toInt ∧ p.toInt < (n2 : Int))) := by
  unfold f_X9_isHead
  have e0 : bk (cx_ix 2) = nI n2 := hb
  have e1 : (nI n2 - 1).toInt = (n2 : Int) - 1 := pk_sub_toInt (a := n2) (b := 1) (by omega) (by omega)
  rw [p2_gd (by decide), p2_in, Option.bind_some, p2_gd (by simp only [p2_b]; split <;> decide), e0, p2_l, p2_l, e1]
  congr 2
  simp only [eq_iff_iff]
  exact ⟨fun h => ⟨h.1, by have := h.2; omega⟩, fun h => ⟨h.1, by have := h.2; omega⟩⟩
theorem p2_ofHead (r t : Nat) (hr : r < 6) (ht : t < 5) : f_X9_ofHead bk (nI r) (nI t) = some (bk (50 + 5 * r + t)) := by
  unfold f_X9_ofHead
  rw [show (50 : Int32) = nI 50 from rfl, show (5 : Int32) = nI 5 from rfl, pk_mul, nI_add, nI_add, p2_gd (p2_ib (by omega) (by decide)), p2_ix (by omega)]
theorem bx_name (h : p2_RB c0 z0 c1 z1 c2 z2 c3 z3 c4 z4 sg bk n0 n1 n2 n3 n4) (a b c d : Int32) :
    (∃ (r : Int32) (i : Nat), (r = -2 ∧ i = 0 ∨ r = -4 ∧ i = 2) ∧ f_X1_addName z0 z2 c3 z3 a b c d = some (r, z3, c3) ∧ ∀ rf q, f_X9_name bk rf q a b c d = some (r, bk, p2_rf rf q i)) ∨
    (n3 < 4 ∧ ∃ (z' : Int32) (c' bk' : Nat → Int32), f_X1_addName z0 z2 c3 z3 a b c d = some (nI n3, z', c') ∧ (∀ rf q, f_X9_name bk rf q a b c d = some (nI n3, bk', rf)) ∧ p2_RB c0 z0 c1 z1 c2 z2 c' z' c4 z4 sg bk' n0 n1 n2 (n3 + 1) n4) := by
  obtain ⟨r0, r1, r2, r3, r4, rs, v0, v1, v2, v3, v4, v5⟩ := h
  obtain ⟨hn0, hz0, hb0, hc0⟩ := id r0
  obtain ⟨hn1, hz1, hb1, hc1⟩ := id r1
  obtain ⟨hn2, hz2, hb2, hc2⟩ := id r2
  obtain ⟨hn3, hz3, hb3, hc3⟩ := id r3
  obtain ⟨hn4, hz4, hb4, hc4⟩ := id r4
  have ez0 : z0.toInt = (n0 : Int) := by rw [hz0]; exact nI_toInt (by omega)
  have ez1 : z1.toInt = (n1 : Int) := by rw [hz1]; exact nI_toInt (by omega)
  have ez2 : z2.toInt = (n2 : Int) := by rw [hz2]; exact nI_toInt (by omega)
  have ez3 : z3.toInt = (n3 : Int) := by rw [hz3]; exact nI_toInt (by omega)
  have ez4 : z4.toInt = (n4 : Int) := by rw [hz4]; exact nI_toInt (by omega)
  by_cases ha : 0 ≤ a.toInt ∧ a.toInt ≤ 5
  case neg =>
    left
    refine ⟨-2, 0, Or.inl ⟨rfl, rfl⟩, ?_, fun rf q => ?_⟩
    · unfold f_X1_addName
      rw [p2_within, Option.bind_some, if_pos (p2_b0.mpr (by exact ha))]
    · unfold f_X9_name f_X9_name_J37
      rw [p2_in, Option.bind_some, if_pos (p2_b0.mpr (by rw [p2_l]; exact ha)), p2_bad]
      rfl
  by_cases hbb : 0 ≤ b.toInt ∧ b.toInt < (n2 : Int)
  case neg =>
    left
    refine ⟨-2, 0, Or.inl ⟨rfl, rfl⟩, ?_, fun rf q => ?_⟩
    · unfold f_X1_addName
      rw [p2_within, Option.bind_some, if_neg (fun h => (p2_b0.mp h) (by exact ha)), p2_has, Option.bind_some, if_pos (p2_b0.mpr (by rw [ez2]; exact hbb))]
    · unfold f_X9_name f_X9_name_J37
      rw [p2_in, Option.bind_some, if_neg (fun h => (p2_b0.mp h) (by rw [p2_l]; exact ha)), p2_isHead _ hb2 hn2, Option.bind_some, if_pos (p2_b0.mpr hbb), p2_bad]
      rfl
  by_cases hcc : 0 ≤ c.toInt ∧ c.toInt < (n0 : Int)
  case neg =>
    left
    refine ⟨-2, 0, Or.inl ⟨rfl, rfl⟩, ?_, fun rf q => ?_⟩
    · unfold f_X1_addName
      rw [p2_within, Option.bind_some, if_neg (fun h => (p2_b0.mp h) (by exact ha)), p2_has, Option.bind_some, if_neg (fun h => (p2_b0.mp h) (by rw [ez2]; exact hbb)), p2_has, Option.bind_some, if_pos (p2_b0.mpr (by rw [ez0]; exact hcc))]
    · unfold f_X9_name f_X9_name_J37
      rw [p2_in, Option.bind_some, if_neg (fun h => (p2_b0.mp h) (by rw [p2_l]; exact ha)), p2_isHead _ hb2 hn2, Option.bind_some, if_neg (fun h => (p2_b0.mp h) hbb), p2_isPerson _ hb0 hn0, Option.bind_some, if_pos (p2_b0.mpr hcc), p2_bad]
      rfl
  by_cases hdd : 0 ≤ d.toInt ∧ d.toInt < (n0 : Int)
  case neg =>
    left
    refine ⟨-2, 0, Or.inl ⟨rfl, rfl⟩, ?_, fun rf q => ?_⟩
    · unfold f_X1_addName
      rw [p2_within, Option.bind_some, if_neg (fun h => (p2_b0.mp h) (by exact ha)), p2_has, Option.bind_some, if_neg (fun h => (p2_b0.mp h) (by rw [ez2]; exact hbb)), p2_has, Option.bind_some, if_neg (fun h => (p2_b0.mp h) (by rw [ez0]; exact hcc)), p2_has, Option.bind_some, if_pos (p2_b0.mpr (by rw [ez0]; exact hdd))]
    · unfold f_X9_name f_X9_name_J37
      rw [p2_in, Option.bind_some, if_neg (fun h => (p2_b0.mp h) (by rw [p2_l]; exact ha)), p2_isHead _ hb2 hn2, Option.bind_some, if_neg (fun h => (p2_b0.mp h) hbb), p2_isPerson _ hb0 hn0, Option.bind_some, if_neg (fun h => (p2_b0.mp h) hcc), p2_isPerson _ hb0 hn0, Option.bind_some, if_pos (p2_b0.mpr hdd), p2_bad]
      rfl
  have hb' : bk (cx_ix 3) = nI n3 := hb3
  by_cases hf : n3 = 4
  · left
    subst hf
    refine ⟨-4, 2, Or.inr ⟨rfl, rfl⟩, ?_, fun rf q => ?_⟩
    · unfold f_X1_addName
      rw [p2_within, Option.bind_some, if_neg (fun h => (p2_b0.mp h) (by exact ha)), p2_has, Option.bind_some, if_neg (fun h => (p2_b0.mp h) (by rw [ez2]; exact hbb)), p2_has, Option.bind_some, if_neg (fun h => (p2_b0.mp h) (by rw [ez0]; exact hcc)), p2_has, Option.bind_some, if_neg (fun h => (p2_b0.mp h) (by rw [ez0]; exact hdd)), hz3, show f_X4_isFull 4 (nI 4) = some 1 from p2_dfull (by decide), Option.bind_some, if_neg (by decide)]
    · unfold f_X9_name
      rw [p2_in, Option.bind_some, if_neg (fun h => (p2_b0.mp h) (by rw [p2_l]; exact ha)), p2_isHead _ hb2 hn2, Option.bind_some, if_neg (fun h => (p2_b0.mp h) hbb), p2_isPerson _ hb0 hn0, Option.bind_some, if_neg (fun h => (p2_b0.mp h) hcc), p2_isPerson _ hb0 hn0, Option.bind_some, if_neg (fun h => (p2_b0.mp h) hdd), p2_gd (by decide), if_pos (by rw [hb']; rfl), p2_full]
      rfl
  · right
    have hl : n3 < 4 := by omega
    refine ⟨hl, nI (n3 + 1), p2_ap c3 (n3 * 4) [a, b, c, d], p2_bk bk 4 80 3 n3 [a, b, c, d], ?_, fun rf q => ?_, ?_⟩
    · unfold f_X1_addName
      have ep : ∀ (f : Nat → Int32) (t : Nat) (v : Int32), t < 4 → f_X4_put 4 16 f (nI (n3 + 1)) (nI n3) (nI t) v = some (upd f (n3 * 4 + t) v) := fun f t v ht => p2_put (w := 4) (n := 16) (z := n3 + 1) (r := n3) (c := t) f v (by omega) ht (by omega) (by decide) (by omega) (by decide)
      rw [p2_within, Option.bind_some, if_neg (fun h => (p2_b0.mp h) (by exact ha)), p2_has, Option.bind_some, if_neg (fun h => (p2_b0.mp h) (by rw [ez2]; exact hbb)), p2_has, Option.bind_some, if_neg (fun h => (p2_b0.mp h) (by rw [ez0]; exact hcc)), p2_has, Option.bind_some, if_neg (fun h => (p2_b0.mp h) (by rw [ez0]; exact hdd)), hz3, show f_X4_isFull 4 (nI n3) = some 0 from p2_nfull hl (by decide), Option.bind_some, if_pos rfl, show f_X4_grow 4 (nI n3) = _ from p2_grow hl (by decide), Option.bind_some]
      show Option.bind (f_X4_put 4 16 c3 (nI (n3 + 1)) (nI n3) (nI 0) a) _ = _
      rw [ep _ 0 _ (by decide), Option.bind_some]
      show Option.bind (f_X4_put 4 16 _ (nI (n3 + 1)) (nI n3) (nI 1) b) _ = _
      rw [ep _ 1 _ (by decide), Option.bind_some]
      show Option.bind (f_X4_put 4 16 _ (nI (n3 + 1)) (nI n3) (nI 2) c) _ = _
      rw [ep _ 2 _ (by decide), Option.bind_some]
      show Option.bind (f_X4_put 4 16 _ (nI (n3 + 1)) (nI n3) (nI 3) d) _ = _
      rw [ep _ 3 _ (by decide), Option.bind_some]
      rfl
    · unfold f_X9_name
      have ex : (80 : Int32) + 4 * nI n3 = nI (80 + 4 * n3) := by rw [show (80 : Int32) = nI 80 from rfl, show (4 : Int32) = nI 4 from rfl, pk_mul, nI_add]
      have e1 : ∀ t : Nat, t < 4 → cx_ib (nI (80 + 4 * n3) + nI t) 140 = true := fun t ht => by rw [nI_add]; exact p2_ib (by omega) (by decide)
      have e2 : ∀ t : Nat, t < 4 → cx_ix (nI (80 + 4 * n3) + nI t) = 80 + 4 * n3 + t := fun t ht => by rw [nI_add]; exact p2_ix (by omega)
      rw [p2_in, Option.bind_some, if_neg (fun h => (p2_b0.mp h) (by rw [p2_l]; exact ha)), p2_isHead _ hb2 hn2, Option.bind_some, if_neg (fun h => (p2_b0.mp h) hbb), p2_isPerson _ hb0 hn0, Option.bind_some, if_neg (fun h => (p2_b0.mp h) hcc), p2_isPerson _ hb0 hn0, Option.bind_some, if_neg (fun h => (p2_b0.mp h) hdd), p2_gd (by decide), hb', if_neg (show ¬ nI n3 = 4 from p2_nne hf (by omega) (by decide)), p2_gd (by decide), ex]
      simp only [cx_let]
      rw [p2_gd (p2_ib (by omega) (by decide)), p2_ix (n := 80 + 4 * n3) (by omega)]
      have ch : p2_ap bk (80 + 4 * n3) [a, b, c, d] 3 = nI n3 := by rw [p2_ap_out _ _ _ _ (by omega)]; exact hb3
      rw [show cx_ib (nI (80 + 4 * n3) + 1) 140 = true from e1 1 (by decide), p2_gd rfl, show cx_ix (nI (80 + 4 * n3) + 1) = 80 + 4 * n3 + 1 from e2 1 (by decide)]
      rw [show cx_ib (nI (80 + 4 * n3) + 2) 140 = true from e1 2 (by decide), p2_gd rfl, show cx_ix (nI (80 + 4 * n3) + 2) = 80 + 4 * n3 + 2 from e2 2 (by decide)]
      rw [show cx_ib (nI (80 + 4 * n3) + 3) 140 = true from e1 3 (by decide), p2_gd rfl, show cx_ix (nI (80 + 4 * n3) + 3) = 80 + 4 * n3 + 3 from e2 3 (by decide)]
      rw [p2_gd (by decide), p2_gd (by decide), p2_gd (by decide)]
      show some (upd (p2_ap bk (80 + 4 * n3) [a, b, c, d]) 3 (p2_ap bk (80 + 4 * n3) [a, b, c, d] 3 + 1) 3 - 1, upd (p2_ap bk (80 + 4 * n3) [a, b, c, d]) 3 (p2_ap bk (80 + 4 * n3) [a, b, c, d] 3 + 1), rf) = _
      rw [ch, p2_us, nI_1, nI_pred]
      rfl
    · have un : ∀ j, j ≠ 3 → ¬ (80 + 4 * n3 ≤ j ∧ j < 80 + 4 * n3 + 4) → p2_bk bk 4 80 3 n3 [a, b, c, d] j = bk j := fun j h1 h2 => p2_bk_out h1 h2
      refine ⟨r0.keep (un _ (by omega) (by omega)) (fun j hj => un _ (by omega) (by omega)), r1.keep (un _ (by omega) (by omega)) (fun j hj => un _ (by omega) (by omega)), r2.keep (un _ (by omega) (by omega)) (fun j hj => un _ (by omega) (by omega)), r3.add hl rfl (by decide), r4.keep (un _ (by omega) (by omega)) (fun j hj => un _ (by omega) (by omega)), by rw [un _ (by omega) (by omega)]; exact rs, fun p hp => (v0 p hp).congr (fun t _ => un _ (by omega) (by omega)), fun p hp => (v1 p hp).congr (fun t _ => un _ (by omega) (by omega)), fun p hp => (v2 p hp).congr (by omega) (fun t _ => un _ (by omega) (by omega)), fun p hp => ?_, fun p hp => (v4 p hp).congr (by omega) (fun t _ => un _ (by omega) (by omega)) (fun a ha => un _ (by omega) (by omega)), by rw [p2_e, un _ (by omega) (by omega)]; exact v5⟩
      by_cases hpn : p = n3
      · subst hpn
        have nw : ∀ t, t < 4 → p2_bk bk 4 80 3 p [a, b, c, d] (80 + 4 * p + t) = [a, b, c, d].getD t 0 := fun t ht => p2_bk_in (by omega) ht
        unfold p2_V3 p2_e
        rw [nw 0 (by decide), nw 1 (by decide), nw 2 (by decide), nw 3 (by decide)]
        exact ⟨ha, ⟨hbb.1, (show b.toInt ≤ (n2 : Int) - 1 by omega)⟩, ⟨hcc.1, (show c.toInt ≤ (n0 : Int) - 1 by omega)⟩, ⟨hdd.1, (show d.toInt ≤ (n0 : Int) - 1 by omega)⟩⟩
      · exact (v3 p (by omega)).congr (by omega) (by omega) (fun t _ => un _ (by omega) (by omega))
theorem bx_head (h : p2_RB c0 z0 c1 z1 c2 z2 c3 z3 c4 z4 sg bk n0 n1 n2 n3 n4) (a b c d e : Int32) :
    (∃ (r : Int32) (i : Nat), (r = -2 ∧ i = 0 ∨ r = -4 ∧ i = 2) ∧ f_X1_addHead z1 c2 z2 a b c d e = some (r, z2, c2) ∧ ∀ rf q, f_X9_head bk rf q a b c d e = some (r, bk, p2_rf rf q i)) ∨
    (n2 < 6 ∧ ∃ (z' : Int32) (c' bk' : Nat → Int32), f_X1_addHead z1 c2 z2 a b c d e = some (nI n2, z', c') ∧ (∀ rf q, f_X9_head bk rf q a b c d e = some (nI n2, bk', rf)) ∧ p2_RB c0 z0 c1 z1 c' z' c3 z3 c4 z4 sg bk' n0 n1 (n2 + 1) n3 n4) := by
  obtain ⟨r0, r1, r2, r3, r4, rs, v0, v1, v2, v3, v4, v5⟩ := h
  obtain ⟨hn0, hz0, hb0, hc0⟩ := id r0
  obtain ⟨hn1, hz1, hb1, hc1⟩ := id r1
  obtain ⟨hn2, hz2, hb2, hc2⟩ := id r2
  obtain ⟨hn3, hz3, hb3, hc3⟩ := id r3
  obtain ⟨hn4, hz4, hb4, hc4⟩ := id r4
  have ez0 : z0.toInt = (n0 : Int) := by rw [hz0]; exact nI_toInt (by omega)
  have ez1 : z1.toInt = (n1 : Int) := by rw [hz1]; exact nI_toInt (by omega)
  have ez2 : z2.toInt = (n2 : Int) := by rw [hz2]; exact nI_toInt (by omega)
  have ez3 : z3.toInt = (n3 : Int) := by rw [hz3]; exact nI_toInt (by omega)
  have ez4 : z4.toInt = (n4 : Int) := by rw [hz4]; exact nI_toInt (by omega)
  by_cases ha : 0 ≤ a.toInt ∧ a.toInt < (n1 : Int)
  case neg =>
    left
    refine ⟨-2, 0, Or.inl ⟨rfl, rfl⟩, ?_, fun rf q => ?_⟩
    · unfold f_X1_addHead
      rw [p2_has, Option.bind_some, if_pos (p2_b0.mpr (by rw [ez1]; exact ha))]
    · unfold f_X9_head f_X9_head_J58
      rw [p2_isPicture _ hb1 hn1, Option.bind_some, if_pos (p2_b0.mpr ha), p2_bad]
      rfl
  by_cases hbb : 0 ≤ b.toInt ∧ b.toInt ≤ 15
  case neg =>
    left
    refine ⟨-2, 0, Or.inl ⟨rfl, rfl⟩, ?_, fun rf q => ?_⟩
    · unfold f_X1_addHead
      rw [p2_has, Option.bind_some, if_neg (fun h => (p2_b0.mp h) (by rw [ez1]; exact ha)), p2_within, Option.bind_some, if_pos (p2_b0.mpr (by exact hbb))]
    · unfold f_X9_head f_X9_head_J58
      rw [p2_isPicture _ hb1 hn1, Option.bind_some, if_neg (fun h => (p2_b0.mp h) ha), p2_in, Option.bind_some, if_pos (p2_b0.mpr (by rw [p2_l]; exact hbb)), p2_bad]
      rfl
  by_cases hcc : 0 ≤ c.toInt ∧ c.toInt ≤ 15
  case neg =>
    left
    refine ⟨-2, 0, Or.inl ⟨rfl, rfl⟩, ?_, fun rf q => ?_⟩
    · unfold f_X1_addHead
      rw [p2_has, Option.bind_some, if_neg (fun h => (p2_b0.mp h) (by rw [ez1]; exact ha)), p2_within, Option.bind_some, if_neg (fun h => (p2_b0.mp h) (by exact hbb)), p2_within, Option.bind_some, if_pos (p2_b0.mpr (by exact hcc))]
    · unfold f_X9_head f_X9_head_J58
      rw [p2_isPicture _ hb1 hn1, Option.bind_some, if_neg (fun h => (p2_b0.mp h) ha), p2_in, Option.bind_some, if_neg (fun h => (p2_b0.mp h) (by rw [p2_l]; exact hbb)), p2_in, Option.bind_some, if_pos (p2_b0.mpr (by rw [p2_l]; exact hcc)), p2_bad]
      rfl
  by_cases hde : 0 ≤ d.toInt ∧ d.toInt ≤ e.toInt ∧ e.toInt ≤ 99
  case neg =>
    left
    refine ⟨-2, 0, Or.inl ⟨rfl, rfl⟩, ?_, fun rf q => ?_⟩
    · unfold f_X1_addHead
      by_cases h1 : 0 ≤ d.toInt ∧ d.toInt ≤ 99
      · rw [p2_has, Option.bind_some, if_neg (fun h => (p2_b0.mp h) (by rw [ez1]; exact ha)), p2_within, Option.bind_some, if_neg (fun h => (p2_b0.mp h) (by exact hbb)), p2_within, Option.bind_some, if_neg (fun h => (p2_b0.mp h) (by exact hcc)), p2_within, Option.bind_some, if_neg (fun h => (p2_b0.mp h) (by exact h1)), p2_within, Option.bind_some, if_pos (p2_b0.mpr (by exact (fun h => hde ⟨h1.1, h⟩)))]
      · rw [p2_has, Option.bind_some, if_neg (fun h => (p2_b0.mp h) (by rw [ez1]; exact ha)), p2_within, Option.bind_some, if_neg (fun h => (p2_b0.mp h) (by exact hbb)), p2_within, Option.bind_some, if_neg (fun h => (p2_b0.mp h) (by exact hcc)), p2_within, Option.bind_some, if_pos (p2_b0.mpr (by exact h1))]
    · unfold f_X9_head f_X9_head_J58
      by_cases h1 : 0 ≤ e.toInt ∧ e.toInt ≤ 99
      · rw [p2_isPicture _ hb1 hn1, Option.bind_some, if_neg (fun h => (p2_b0.mp h) ha), p2_in, Option.bind_some, if_neg (fun h => (p2_b0.mp h) (by rw [p2_l]; exact hbb)), p2_in, Option.bind_some, if_neg (fun h => (p2_b0.mp h) (by rw [p2_l]; exact hcc)), p2_in, Option.bind_some, if_neg (fun h => (p2_b0.mp h) (by rw [p2_l]; exact h1)), p2_in, Option.bind_some, if_pos (p2_b0.mpr (by rw [p2_l, p2_l]; exact (fun h => hde ⟨h.1, h.2, h1.2⟩))), p2_bad]
        rfl
      · rw [p2_isPicture _ hb1 hn1, Option.bind_some, if_neg (fun h => (p2_b0.mp h) ha), p2_in, Option.bind_some, if_neg (fun h => (p2_b0.mp h) (by rw [p2_l]; exact hbb)), p2_in, Option.bind_some, if_neg (fun h => (p2_b0.mp h) (by rw [p2_l]; exact hcc)), p2_in, Option.bind_some, if_pos (p2_b0.mpr (by rw [p2_l]; exact h1)), p2_bad]
        rfl
  have hb' : bk (cx_ix 2) = nI n2 := hb2
  by_cases hf : n2 = 6
  · left
    subst hf
    refine ⟨-4, 2, Or.inr ⟨rfl, rfl⟩, ?_, fun rf q => ?_⟩
    · unfold f_X1_addHead
      rw [p2_has, Option.bind_some, if_neg (fun h => (p2_b0.mp h) (by rw [ez1]; exact ha)), p2_within, Option.bind_some, if_neg (fun h => (p2_b0.mp h) (by exact hbb)), p2_within, Option.bind_some, if_neg (fun h => (p2_b0.mp h) (by exact hcc)), p2_within, Option.bind_some, if_neg (fun h => (p2_b0.mp h) (by exact ⟨hde.1, Int.le_trans hde.2.1 hde.2.2⟩)), p2_within, Option.bind_some, if_neg (fun h => (p2_b0.mp h) (by exact hde.2)), hz2, show f_X4_isFull 6 (nI 6) = some 1 from p2_dfull (by decide), Option.bind_some, if_neg (by decide)]
    · unfold f_X9_head
      rw [p2_isPicture _ hb1 hn1, Option.bind_some, if_neg (fun h => (p2_b0.mp h) ha), p2_in, Option.bind_some, if_neg (fun h => (p2_b0.mp h) (by rw [p2_l]; exact hbb)), p2_in, Option.bind_some, if_neg (fun h => (p2_b0.mp h) (by rw [p2_l]; exact hcc)), p2_in, Option.bind_some, if_neg (fun h => (p2_b0.mp h) (by rw [p2_l]; exact ⟨Int.le_trans hde.1 hde.2.1, hde.2.2⟩)), p2_in, Option.bind_some, if_neg (fun h => (p2_b0.mp h) (by rw [p2_l, p2_l]; exact ⟨hde.1, hde.2.1⟩)), p2_gd (by decide), if_pos (by rw [hb']; rfl), p2_full]
      rfl
  · right
    have hl : n2 < 6 := by omega
    refine ⟨hl, nI (n2 + 1), p2_ap c2 (n2 * 5) [a, b, c, d, e], p2_bk bk 5 50 2 n2 [a, b, c, d, e], ?_, fun rf q => ?_, ?_⟩
    · unfold f_X1_addHead
      have ep : ∀ (f : Nat → Int32) (t : Nat) (v : Int32), t < 5 → f_X4_put 5 30 f (nI (n2 + 1)) (nI n2) (nI t) v = some (upd f (n2 * 5 + t) v) := fun f t v ht => p2_put (w := 5) (n := 30) (z := n2 + 1) (r := n2) (c := t) f v (by omega) ht (by omega) (by decide) (by omega) (by decide)
      rw [p2_has, Option.bind_some, if_neg (fun h => (p2_b0.mp h) (by rw [ez1]; exact ha)), p2_within, Option.bind_some, if_neg (fun h => (p2_b0.mp h) (by exact hbb)), p2_within, Option.bind_some, if_neg (fun h => (p2_b0.mp h) (by exact hcc)), p2_within, Option.bind_some, if_neg (fun h => (p2_b0.mp h) (by exact ⟨hde.1, Int.le_trans hde.2.1 hde.2.2⟩)), p2_within, Option.bind_some, if_neg (fun h => (p2_b0.mp h) (by exact hde.2)), hz2, show f_X4_isFull 6 (nI n2) = some 0 from p2_nfull hl (by decide), Option.bind_some, if_pos rfl, show f_X4_grow 6 (nI n2) = _ from p2_grow hl (by decide), Option.bind_some]
      show Option.bind (f_X4_put 5 30 c2 (nI (n2 + 1)) (nI n2) (nI 0) a) _ = _
      rw [ep _ 0 _ (by decide), Option.bind_some]
      show Option.bind (f_X4_put 5 30 _ (nI (n2 + 1)) (nI n2) (nI 1) b) _ = _
      rw [ep _ 1 _ (by decide), Option.bind_some]
      show Option.bind (f_X4_put 5 30 _ (nI (n2 + 1)) (nI n2) (nI 2) c) _ = _
      rw [ep _ 2 _ (by decide), Option.bind_some]
      show Option.bind (f_X4_put 5 30 _ (nI (n2 + 1)) (nI n2) (nI 3) d) _ = _
      rw [ep _ 3 _ (by decide), Option.bind_some]
      show Option.bind (f_X4_put 5 30 _ (nI (n2 + 1)) (nI n2) (nI 4) e) _ = _
      rw [ep _ 4 _ (by decide), Option.bind_some]
      rfl
    · unfold f_X9_head
      have ex : (50 : Int32) + 5 * nI n2 = nI (50 + 5 * n2) := by rw [show (50 : Int32) = nI 50 from rfl, show (5 : Int32) = nI 5 from rfl, pk_mul, nI_add]
      have e1 : ∀ t : Nat, t < 5 → cx_ib (nI (50 + 5 * n2) + nI t) 140 = true := fun t ht => by rw [nI_add]; exact p2_ib (by omega) (by decide)
      have e2 : ∀ t : Nat, t < 5 → cx_ix (nI (50 + 5 * n2) + nI t) = 50 + 5 * n2 + t := fun t ht => by rw [nI_add]; exact p2_ix (by omega)
      rw [p2_isPicture _ hb1 hn1, Option.bind_some, if_neg (fun h => (p2_b0.mp h) ha), p2_in, Option.bind_some, if_neg (fun h => (p2_b0.mp h) (by rw [p2_l]; exact hbb)), p2_in, Option.bind_some, if_neg (fun h => (p2_b0.mp h) (by rw [p2_l]; exact hcc)), p2_in, Option.bind_some, if_neg (fun h => (p2_b0.mp h) (by rw [p2_l]; exact ⟨Int.le_trans hde.1 hde.2.1, hde.2.2⟩)), p2_in, Option.bind_some, if_neg (fun h => (p2_b0.mp h) (by rw [p2_l, p2_l]; exact ⟨hde.1, hde.2.1⟩)), p2_gd (by decide), hb', if_neg (show ¬ nI n2 = 6 from p2_nne hf (by omega) (by decide)), p2_gd (by decide), ex]
      simp only [cx_let]
      rw [p2_gd (p2_ib (by omega) (by decide)), p2_ix (n := 50 + 5 * n2) (by omega)]
      have ch : p2_ap bk (50 + 5 * n2) [a, b, c, d, e] 2 = nI n2 := by rw [p2_ap_out _ _ _ _ (by omega)]; exact hb2
      rw [show cx_ib (nI (50 + 5 * n2) + 1) 140 = true from e1 1 (by decide), p2_gd rfl, show cx_ix (nI (50 + 5 * n2) + 1) = 50 + 5 * n2 + 1 from e2 1 (by decide)]
      rw [show cx_ib (nI (50 + 5 * n2) + 2) 140 = true from e1 2 (by decide), p2_gd rfl, show cx_ix (nI (50 + 5 * n2) + 2) = 50 + 5 * n2 + 2 from e2 2 (by decide)]
      rw [show cx_ib (nI (50 + 5 * n2) + 3) 140 = true from e1 3 (by decide), p2_gd rfl, show cx_ix (nI (50 + 5 * n2) + 3) = 50 + 5 * n2 + 3 from e2 3 (by decide)]
      rw [show cx_ib (nI (50 + 5 * n2) + 4) 140 = true from e1 4 (by decide), p2_gd rfl, show cx_ix (nI (50 + 5 * n2) + 4) = 50 + 5 * n2 + 4 from e2 4 (by decide)]
      rw [p2_gd (by decide), p2_gd (by decide), p2_gd (by decide)]
      show some (upd (p2_ap bk (50 + 5 * n2) [a, b, c, d, e]) 2 (p2_ap bk (50 + 5 * n2) [a, b, c, d, e] 2 + 1) 2 - 1, upd (p2_ap bk (50 + 5 * n2) [a, b, c, d, e]) 2 (p2_ap bk (50 + 5 * n2) [a, b, c, d, e] 2 + 1), rf) = _
      rw [ch, p2_us, nI_1, nI_pred]
      rfl
    · have un : ∀ j, j ≠ 2 → ¬ (50 + 5 * n2 ≤ j ∧ j < 50 + 5 * n2 + 5) → p2_bk bk 5 50 2 n2 [a, b, c, d, e] j = bk j := fun j h1 h2 => p2_bk_out h1 h2
      refine ⟨r0.keep (un _ (by omega) (by omega)) (fun j hj => un _ (by omega) (by omega)), r1.keep (un _ (by omega) (by omega)) (fun j hj => un _ (by omega) (by omega)), r2.add hl rfl (by decide), r3.keep (un _ (by omega) (by omega)) (fun j hj => un _ (by omega) (by omega)), r4.keep (un _ (by omega) (by omega)) (fun j hj => un _ (by omega) (by omega)), by rw [un _ (by omega) (by omega)]; exact rs, fun p hp => (v0 p hp).congr (fun t _ => un _ (by omega) (by omega)), fun p hp => (v1 p hp).congr (fun t _ => un _ (by omega) (by omega)), fun p hp => ?_, fun p hp => (v3 p hp).congr (by omega) (by omega) (fun t _ => un _ (by omega) (by omega)), fun p hp => (v4 p hp).congr (by omega) (fun t _ => un _ (by omega) (by omega)) (fun a ha => un _ (by omega) (by omega)), by rw [p2_e, un _ (by omega) (by omega)]; exact v5⟩
      by_cases hpn : p = n2
      · subst hpn
        have nw : ∀ t, t < 5 → p2_bk bk 5 50 2 p [a, b, c, d, e] (50 + 5 * p + t) = [a, b, c, d, e].getD t 0 := fun t ht => p2_bk_in (by omega) ht
        unfold p2_V2 p2_e
        rw [nw 0 (by decide), nw 1 (by decide), nw 2 (by decide), nw 3 (by decide), nw 4 (by decide)]
        exact ⟨⟨ha.1, (show a.toInt ≤ (n1 : Int) - 1 by omega)⟩, hbb, hcc, ⟨hde.1, Int.le_trans hde.2.1 hde.2.2⟩, hde.2⟩
      · exact (v2 p (by omega)).congr (by omega) (fun t _ => un _ (by omega) (by omega))
theorem bx_join (h : p2_RB c0 z0 c1 z1 c2 z2 c3 z3 c4 z4 sg bk n0 n1 n2 n3 n4) (a b c : Int32) :
    (∃ (r : Int32) (i : Nat), (r = -2 ∧ i = 0 ∨ r = -4 ∧ i = 2) ∧ f_X1_addJoin c2 z2 c4 z4 a b c = some (r, z4, c4) ∧ ∀ rf q, f_X9_join bk rf q a b c = some (r, bk, p2_rf rf q i)) ∨
    (n4 < 4 ∧ ∃ (z' : Int32) (c' bk' : Nat → Int32), f_X1_addJoin c2 z2 c4 z4 a b c = some (nI n4, z', c') ∧ (∀ rf q, f_X9_join bk rf q a b c = some (nI n4, bk', rf)) ∧ p2_RB c0 z0 c1 z1 c2 z2 c3 z3 c' z' sg bk' n0 n1 n2 n3 (n4 + 1)) := by
  obtain ⟨r0, r1, r2, r3, r4, rs, v0, v1, v2, v3, v4, v5⟩ := h
  obtain ⟨hn0, hz0, hb0, hc0⟩ := id r0
  obtain ⟨hn1, hz1, hb1, hc1⟩ := id r1
  obtain ⟨hn2, hz2, hb2, hc2⟩ := id r2
  obtain ⟨hn3, hz3, hb3, hc3⟩ := id r3
  obtain ⟨hn4, hz4, hb4, hc4⟩ := id r4
  have ez0 : z0.toInt = (n0 : Int) := by rw [hz0]; exact nI_toInt (by omega)
  have ez1 : z1.toInt = (n1 : Int) := by rw [hz1]; exact nI_toInt (by omega)
  have ez2 : z2.toInt = (n2 : Int) := by rw [hz2]; exact nI_toInt (by omega)
  have ez3 : z3.toInt = (n3 : Int) := by rw [hz3]; exact nI_toInt (by omega)
  have ez4 : z4.toInt = (n4 : Int) := by rw [hz4]; exact nI_toInt (by omega)
  by_cases ha : 0 ≤ a.toInt ∧ a.toInt < (n2 : Int)
  case neg =>
    left
    refine ⟨-2, 0, Or.inl ⟨rfl, rfl⟩, ?_, fun rf q => ?_⟩
    · unfold f_X1_addJoin
      rw [p2_has, Option.bind_some, if_pos (p2_b0.mpr (by rw [ez2]; exact ha))]
    · unfold f_X9_join f_X9_join_J43
      rw [p2_isHead _ hb2 hn2, Option.bind_some, if_pos (p2_b0.mpr ha), p2_bad]
      rfl
  by_cases hbb : 0 ≤ b.toInt ∧ b.toInt < (n2 : Int)
  case neg =>
    left
    refine ⟨-2, 0, Or.inl ⟨rfl, rfl⟩, ?_, fun rf q => ?_⟩
    · unfold f_X1_addJoin
      rw [p2_has, Option.bind_some, if_neg (fun h => (p2_b0.mp h) (by rw [ez2]; exact ha)), p2_has, Option.bind_some, if_pos (p2_b0.mpr (by rw [ez2]; exact hbb))]
    · unfold f_X9_join f_X9_join_J43
      rw [p2_isHead _ hb2 hn2, Option.bind_some, if_neg (fun h => (p2_b0.mp h) ha), p2_isHead _ hb2 hn2, Option.bind_some, if_pos (p2_b0.mpr hbb), p2_bad]
      rfl
  obtain ⟨ra, hra, ea⟩ : ∃ r : Nat, r < n2 ∧ a = nI r := by obtain ⟨j, hj, ej⟩ := vp_in_of (vp_in_iff.mpr ha) (by omega); exact ⟨j, hj, ej⟩
  have ua : f_X4_at 5 30 c2 z2 a 0 = some (bk (50 + 5 * ra)) := by rw [ea, hz2, show f_X4_at 5 30 c2 (nI n2) (nI ra) 0 = _ from p2_at (w := 5) (n := 30) (z := n2) (r := ra) (c := 0) c2 hra (by decide) (by omega) (by decide) (by omega) (by decide), hc2 _ (by omega), show 50 + (ra * 5 + 0) = 50 + 5 * ra by omega]
  have wa : f_X9_ofHead bk a 0 = some (bk (50 + 5 * ra)) := by rw [ea]; exact p2_ofHead ra 0 (by omega) (by decide)
  obtain ⟨rb, hrb, eb⟩ : ∃ r : Nat, r < n2 ∧ b = nI r := by obtain ⟨j, hj, ej⟩ := vp_in_of (vp_in_iff.mpr hbb) (by omega); exact ⟨j, hj, ej⟩
  have ub : f_X4_at 5 30 c2 z2 b 0 = some (bk (50 + 5 * rb)) := by rw [eb, hz2, show f_X4_at 5 30 c2 (nI n2) (nI rb) 0 = _ from p2_at (w := 5) (n := 30) (z := n2) (r := rb) (c := 0) c2 hrb (by decide) (by omega) (by decide) (by omega) (by decide), hc2 _ (by omega), show 50 + (rb * 5 + 0) = 50 + 5 * rb by omega]
  have wb : f_X9_ofHead bk b 0 = some (bk (50 + 5 * rb)) := by rw [eb]; exact p2_ofHead rb 0 (by omega) (by decide)
  by_cases hne : bk (50 + 5 * ra) ≠ bk (50 + 5 * rb)
  case neg =>
    left
    refine ⟨-2, 0, Or.inl ⟨rfl, rfl⟩, ?_, fun rf q => ?_⟩
    · unfold f_X1_addJoin
      rw [p2_has, Option.bind_some, if_neg (fun h => (p2_b0.mp h) (by rw [ez2]; exact ha)), p2_has, Option.bind_some, if_neg (fun h => (p2_b0.mp h) (by rw [ez2]; exact hbb)), ua, Option.bind_some, ub, Option.bind_some, if_pos (Classical.not_not.mp hne)]
    · unfold f_X9_join f_X9_join_J43
      rw [p2_isHead _ hb2 hn2, Option.bind_some, if_neg (fun h => (p2_b0.mp h) ha), p2_isHead _ hb2 hn2, Option.bind_some, if_neg (fun h => (p2_b0.mp h) hbb), wa, Option.bind_some, wb, Option.bind_some, if_pos (Classical.not_not.mp hne), p2_bad]
      rfl
  by_cases hcc : 0 ≤ c.toInt ∧ c.toInt ≤ 10
  case neg =>
    left
    refine ⟨-2, 0, Or.inl ⟨rfl, rfl⟩, ?_, fun rf q => ?_⟩
    · unfold f_X1_addJoin
      rw [p2_has, Option.bind_some, if_neg (fun h => (p2_b0.mp h) (by rw [ez2]; exact ha)), p2_has, Option.bind_some, if_neg (fun h => (p2_b0.mp h) (by rw [ez2]; exact hbb)), ua, Option.bind_some, ub, Option.bind_some, if_neg hne, p2_within, Option.bind_some, if_pos (p2_b0.mpr (by exact hcc))]
    · unfold f_X9_join f_X9_join_J43
      rw [p2_isHead _ hb2 hn2, Option.bind_some, if_neg (fun h => (p2_b0.mp h) ha), p2_isHead _ hb2 hn2, Option.bind_some, if_neg (fun h => (p2_b0.mp h) hbb), wa, Option.bind_some, wb, Option.bind_some, if_neg hne, p2_in, Option.bind_some, if_pos (p2_b0.mpr (by rw [p2_l]; exact hcc)), p2_bad]
      rfl
  have hb' : bk (cx_ix 4) = nI n4 := hb4
  by_cases hf : n4 = 4
  · left
    subst hf
    refine ⟨-4, 2, Or.inr ⟨rfl, rfl⟩, ?_, fun rf q => ?_⟩
    · unfold f_X1_addJoin
      rw [p2_has, Option.bind_some, if_neg (fun h => (p2_b0.mp h) (by rw [ez2]; exact ha)), p2_has, Option.bind_some, if_neg (fun h => (p2_b0.mp h) (by rw [ez2]; exact hbb)), ua, Option.bind_some, ub, Option.bind_some, if_neg hne, p2_within, Option.bind_some, if_neg (fun h => (p2_b0.mp h) (by exact hcc)), hz4, show f_X4_isFull 4 (nI 4) = some 1 from p2_dfull (by decide), Option.bind_some, if_neg (by decide)]
    · unfold f_X9_join
      rw [p2_isHead _ hb2 hn2, Option.bind_some, if_neg (fun h => (p2_b0.mp h) ha), p2_isHead _ hb2 hn2, Option.bind_some, if_neg (fun h => (p2_b0.mp h) hbb), wa, Option.bind_some, wb, Option.bind_some, if_neg hne, p2_in, Option.bind_some, if_neg (fun h => (p2_b0.mp h) (by rw [p2_l]; exact hcc)), p2_gd (by decide), if_pos (by rw [hb']; rfl), p2_full]
      rfl
  · right
    have hl : n4 < 4 := by omega
    refine ⟨hl, nI (n4 + 1), p2_ap c4 (n4 * 3) [a, b, c], p2_bk bk 3 100 4 n4 [a, b, c], ?_, fun rf q => ?_, ?_⟩
    · unfold f_X1_addJoin
      have ep : ∀ (f : Nat → Int32) (t : Nat) (v : Int32), t < 3 → f_X4_put 3 12 f (nI (n4 + 1)) (nI n4) (nI t) v = some (upd f (n4 * 3 + t) v) := fun f t v ht => p2_put (w := 3) (n := 12) (z := n4 + 1) (r := n4) (c := t) f v (by omega) ht (by omega) (by decide) (by omega) (by decide)
      rw [p2_has, Option.bind_some, if_neg (fun h => (p2_b0.mp h) (by rw [ez2]; exact ha)), p2_has, Option.bind_some, if_neg (fun h => (p2_b0.mp h) (by rw [ez2]; exact hbb)), ua, Option.bind_some, ub, Option.bind_some, if_neg hne, p2_within, Option.bind_some, if_neg (fun h => (p2_b0.mp h) (by exact hcc)), hz4, show f_X4_isFull 4 (nI n4) = some 0 from p2_nfull hl (by decide), Option.bind_some, if_pos rfl, show f_X4_grow 4 (nI n4) = _ from p2_grow hl (by decide), Option.bind_some]
      show Option.bind (f_X4_put 3 12 c4 (nI (n4 + 1)) (nI n4) (nI 0) a) _ = _
      rw [ep _ 0 _ (by decide), Option.bind_some]
      show Option.bind (f_X4_put 3 12 _ (nI (n4 + 1)) (nI n4) (nI 1) b) _ = _
      rw [ep _ 1 _ (by decide), Option.bind_some]
      show Option.bind (f_X4_put 3 12 _ (nI (n4 + 1)) (nI n4) (nI 2) c) _ = _
      rw [ep _ 2 _ (by decide), Option.bind_some]
      rfl
    · unfold f_X9_join
      have ex : (100 : Int32) + 3 * nI n4 = nI (100 + 3 * n4) := by rw [show (100 : Int32) = nI 100 from rfl, show (3 : Int32) = nI 3 from rfl, pk_mul, nI_add]
      have e1 : ∀ t : Nat, t < 3 → cx_ib (nI (100 + 3 * n4) + nI t) 140 = true := fun t ht => by rw [nI_add]; exact p2_ib (by omega) (by decide)
      have e2 : ∀ t : Nat, t < 3 → cx_ix (nI (100 + 3 * n4) + nI t) = 100 + 3 * n4 + t := fun t ht => by rw [nI_add]; exact p2_ix (by omega)
      rw [p2_isHead _ hb2 hn2, Option.bind_some, if_neg (fun h => (p2_b0.mp h) ha), p2_isHead _ hb2 hn2, Option.bind_some, if_neg (fun h => (p2_b0.mp h) hbb), wa, Option.bind_some, wb, Option.bind_some, if_neg hne, p2_in, Option.bind_some, if_neg (fun h => (p2_b0.mp h) (by rw [p2_l]; exact hcc)), p2_gd (by decide), hb', if_neg (show ¬ nI n4 = 4 from p2_nne hf (by omega) (by decide)), p2_gd (by decide), ex]
      simp only [cx_let]
      rw [p2_gd (p2_ib (by omega) (by decide)), p2_ix (n := 100 + 3 * n4) (by omega)]
      have ch : p2_ap bk (100 + 3 * n4) [a, b, c] 4 = nI n4 := by rw [p2_ap_out _ _ _ _ (by omega)]; exact hb4
      rw [show cx_ib (nI (100 + 3 * n4) + 1) 140 = true from e1 1 (by decide), p2_gd rfl, show cx_ix (nI (100 + 3 * n4) + 1) = 100 + 3 * n4 + 1 from e2 1 (by decide)]
      rw [show cx_ib (nI (100 + 3 * n4) + 2) 140 = true from e1 2 (by decide), p2_gd rfl, show cx_ix (nI (100 + 3 * n4) + 2) = 100 + 3 * n4 + 2 from e2 2 (by decide)]
      rw [p2_gd (by decide), p2_gd (by decide), p2_gd (by decide)]
      show some (upd (p2_ap bk (100 + 3 * n4) [a, b, c]) 4 (p2_ap bk (100 + 3 * n4) [a, b, c] 4 + 1) 4 - 1, upd (p2_ap bk (100 + 3 * n4) [a, b, c]) 4 (p2_ap bk (100 + 3 * n4) [a, b, c] 4 + 1), rf) = _
      rw [ch, p2_us, nI_1, nI_pred]
      rfl
    · have un : ∀ j, j ≠ 4 → ¬ (100 + 3 * n4 ≤ j ∧ j < 100 + 3 * n4 + 3) → p2_bk bk 3 100 4 n4 [a, b, c] j = bk j := fun j h1 h2 => p2_bk_out h1 h2
      refine ⟨r0.keep (un _ (by omega) (by omega)) (fun j hj => un _ (by omega) (by omega)), r1.keep (un _ (by omega) (by omega)) (fun j hj => un _ (by omega) (by omega)), r2.keep (un _ (by omega) (by omega)) (fun j hj => un _ (by omega) (by omega)), r3.keep (un _ (by omega) (by omega)) (fun j hj => un _ (by omega) (by omega)), r4.add hl rfl (by decide), by rw [un _ (by omega) (by omega)]; exact rs, fun p hp => (v0 p hp).congr (fun t _ => un _ (by omega) (by omega)), fun p hp => (v1 p hp).congr (fun t _ => un _ (by omega) (by omega)), fun p hp => (v2 p hp).congr (by omega) (fun t _ => un _ (by omega) (by omega)), fun p hp => (v3 p hp).congr (by omega) (by omega) (fun t _ => un _ (by omega) (by omega)), fun p hp => ?_, by rw [p2_e, un _ (by omega) (by omega)]; exact v5⟩
      by_cases hpn : p = n4
      · subst hpn
        have nw : ∀ t, t < 3 → p2_bk bk 3 100 4 p [a, b, c] (100 + 3 * p + t) = [a, b, c].getD t 0 := fun t ht => p2_bk_in (by omega) ht
        refine ⟨?_, ra, rb, hra, hrb, (nw 0 (by decide)).trans ea, (nw 1 (by decide)).trans eb, ?_⟩
        · rw [p2_e, nw 2 (by decide)]
          exact hcc
        · rw [un _ (by omega) (by omega), un _ (by omega) (by omega)]
          exact hne
      · exact (v4 p (by omega)).congr (by omega) (fun t _ => un _ (by omega) (by omega)) (fun a ha => un _ (by omega) (by omega))
theorem bx_picture (h : p2_RB c0 z0 c1 z1 c2 z2 c3 z3 c4 z4 sg bk n0 n1 n2 n3 n4) (a b : Int32) :
    (∃ (r : Int32) (i : Nat), (r = -2 ∧ i = 0 ∨ r = -4 ∧ i = 2) ∧ f_X1_addPicture c1 z1 a b = some (r, z1, c1) ∧ ∀ rf q, f_X9_picture bk rf q a b = some (r, bk, p2_rf rf q i)) ∨
    (n1 < 4 ∧ ∃ (z' : Int32) (c' bk' : Nat → Int32), f_X1_addPicture c1 z1 a b = some (nI n1, z', c') ∧ (∀ rf q, f_X9_picture bk rf q a b = some (nI n1, bk', rf)) ∧ p2_RB c0 z0 c' z' c2 z2 c3 z3 c4 z4 sg bk' n0 (n1 + 1) n2 n3 n4) := by
  obtain ⟨r0, r1, r2, r3, r4, rs, v0, v1, v2, v3, v4, v5⟩ := h
  obtain ⟨hn0, hz0, hb0, hc0⟩ := id r0
  obtain ⟨hn1, hz1, hb1, hc1⟩ := id r1
  obtain ⟨hn2, hz2, hb2, hc2⟩ := id r2
  obtain ⟨hn3, hz3, hb3, hc3⟩ := id r3
  obtain ⟨hn4, hz4, hb4, hc4⟩ := id r4
  have ez0 : z0.toInt = (n0 : Int) := by rw [hz0]; exact nI_toInt (by omega)
  have ez1 : z1.toInt = (n1 : Int) := by rw [hz1]; exact nI_toInt (by omega)
  have ez2 : z2.toInt = (n2 : Int) := by rw [hz2]; exact nI_toInt (by omega)
  have ez3 : z3.toInt = (n3 : Int) := by rw [hz3]; exact nI_toInt (by omega)
  have ez4 : z4.toInt = (n4 : Int) := by rw [hz4]; exact nI_toInt (by omega)
  by_cases ha : 0 ≤ a.toInt ∧ a.toInt ≤ 99
  case neg =>
    left
    refine ⟨-2, 0, Or.inl ⟨rfl, rfl⟩, ?_, fun rf q => ?_⟩
    · unfold f_X1_addPicture
      rw [p2_within, Option.bind_some, if_pos (p2_b0.mpr (by exact ha))]
    · unfold f_X9_picture f_X9_picture_J33
      rw [p2_in, Option.bind_some, if_pos (p2_b0.mpr (by rw [p2_l]; exact ha)), p2_bad]
      rfl
  by_cases hbb : a.toInt ≤ b.toInt ∧ b.toInt ≤ 99
  case neg =>
    left
    refine ⟨-2, 0, Or.inl ⟨rfl, rfl⟩, ?_, fun rf q => ?_⟩
    · unfold f_X1_addPicture
      rw [p2_within, Option.bind_some, if_neg (fun h => (p2_b0.mp h) (by exact ha)), p2_within, Option.bind_some, if_pos (p2_b0.mpr (by exact hbb))]
    · unfold f_X9_picture f_X9_picture_J33
      rw [p2_in, Option.bind_some, if_neg (fun h => (p2_b0.mp h) (by rw [p2_l]; exact ha)), p2_in, Option.bind_some, if_pos (p2_b0.mpr (by rw [p2_l, p2_l]; exact hbb)), p2_bad]
      rfl
  by_cases hdi : b - a ≤ 11
  case neg =>
    left
    refine ⟨-2, 0, Or.inl ⟨rfl, rfl⟩, ?_, fun rf q => ?_⟩
    · unfold f_X1_addPicture
      rw [p2_within, Option.bind_some, if_neg (fun h => (p2_b0.mp h) (by exact ha)), p2_within, Option.bind_some, if_neg (fun h => (p2_b0.mp h) (by exact hbb)), if_neg hdi]
    · unfold f_X9_picture f_X9_picture_J33
      rw [p2_in, Option.bind_some, if_neg (fun h => (p2_b0.mp h) (by rw [p2_l]; exact ha)), p2_in, Option.bind_some, if_neg (fun h => (p2_b0.mp h) (by rw [p2_l, p2_l]; exact hbb)), if_neg hdi, p2_bad]
      rfl
  have hb' : bk (cx_ix 1) = nI n1 := hb1
  by_cases hf : n1 = 4
  · left
    subst hf
    refine ⟨-4, 2, Or.inr ⟨rfl, rfl⟩, ?_, fun rf q => ?_⟩
    · unfold f_X1_addPicture
      rw [p2_within, Option.bind_some, if_neg (fun h => (p2_b0.mp h) (by exact ha)), p2_within, Option.bind_some, if_neg (fun h => (p2_b0.mp h) (by exact hbb)), if_pos hdi, hz1, show f_X4_isFull 4 (nI 4) = some 1 from p2_dfull (by decide), Option.bind_some, if_neg (by decide)]
    · unfold f_X9_picture
      rw [p2_in, Option.bind_some, if_neg (fun h => (p2_b0.mp h) (by rw [p2_l]; exact ha)), p2_in, Option.bind_some, if_neg (fun h => (p2_b0.mp h) (by rw [p2_l, p2_l]; exact hbb)), if_pos hdi, p2_gd (by decide), if_pos (by rw [hb']; rfl), p2_full]
      rfl
  · right
    have hl : n1 < 4 := by omega
    refine ⟨hl, nI (n1 + 1), p2_ap c1 (n1 * 2) [a, b], p2_bk bk 2 40 1 n1 [a, b], ?_, fun rf q => ?_, ?_⟩
    · unfold f_X1_addPicture
      have ep : ∀ (f : Nat → Int32) (t : Nat) (v : Int32), t < 2 → f_X4_put 2 8 f (nI (n1 + 1)) (nI n1) (nI t) v = some (upd f (n1 * 2 + t) v) := fun f t v ht => p2_put (w := 2) (n := 8) (z := n1 + 1) (r := n1) (c := t) f v (by omega) ht (by omega) (by decide) (by omega) (by decide)
      rw [p2_within, Option.bind_some, if_neg (fun h => (p2_b0.mp h) (by exact ha)), p2_within, Option.bind_some, if_neg (fun h => (p2_b0.mp h) (by exact hbb)), if_pos hdi, hz1, show f_X4_isFull 4 (nI n1) = some 0 from p2_nfull hl (by decide), Option.bind_some, if_pos rfl, show f_X4_grow 4 (nI n1) = _ from p2_grow hl (by decide), Option.bind_some]
      show Option.bind (f_X4_put 2 8 c1 (nI (n1 + 1)) (nI n1) (nI 0) a) _ = _
      rw [ep _ 0 _ (by decide), Option.bind_some]
      show Option.bind (f_X4_put 2 8 _ (nI (n1 + 1)) (nI n1) (nI 1) b) _ = _
      rw [ep _ 1 _ (by decide), Option.bind_some]
      rfl
    · unfold f_X9_picture
      have ex : (40 : Int32) + 2 * nI n1 = nI (40 + 2 * n1) := by rw [show (40 : Int32) = nI 40 from rfl, show (2 : Int32) = nI 2 from rfl, pk_mul, nI_add]
      rw [p2_in, Option.bind_some, if_neg (fun h => (p2_b0.mp h) (by rw [p2_l]; exact ha)), p2_in, Option.bind_some, if_neg (fun h => (p2_b0.mp h) (by rw [p2_l, p2_l]; exact hbb)), if_pos hdi, p2_gd (by decide), hb', if_neg (show ¬ nI n1 = 4 from p2_nne hf (by omega) (by decide)), p2_gd (by decide), ex]
      simp only [cx_let]
      rw [p2_gd (p2_ib (by omega) (by decide)), p2_ix (n := 40 + 2 * n1) (by omega), p2_gd (by decide)]
      have e3 : upd bk (40 + 2 * n1) a (cx_ix 1) = nI n1 := by rw [p2_un (show cx_ix 1 ≠ 40 + 2 * n1 by show 1 ≠ _; omega)]; exact hb1
      rw [e3, ex, show cx_ib (nI (40 + 2 * n1) + 1) 140 = true from by rw [nI_1]; exact p2_ib (by omega) (by decide), p2_gd rfl, show cx_ix (nI (40 + 2 * n1) + 1) = 40 + 2 * n1 + 1 from by rw [nI_1]; exact p2_ix (by omega), p2_gd (by decide), p2_gd (by decide), p2_gd (by decide)]
      have ch : p2_ap bk (40 + 2 * n1) [a, b] 1 = nI n1 := by rw [p2_ap_out _ _ _ _ (by omega)]; exact hb1
      show some (upd (p2_ap bk (40 + 2 * n1) [a, b]) 1 (p2_ap bk (40 + 2 * n1) [a, b] 1 + 1) 1 - 1, upd (p2_ap bk (40 + 2 * n1) [a, b]) 1 (p2_ap bk (40 + 2 * n1) [a, b] 1 + 1), rf) = _
      rw [ch, p2_us, nI_1, nI_pred]
      rfl
    · have un : ∀ j, j ≠ 1 → ¬ (40 + 2 * n1 ≤ j ∧ j < 40 + 2 * n1 + 2) → p2_bk bk 2 40 1 n1 [a, b] j = bk j := fun j h1 h2 => p2_bk_out h1 h2
      refine ⟨r0.keep (un _ (by omega) (by omega)) (fun j hj => un _ (by omega) (by omega)), r1.add hl rfl (by decide), r2.keep (un _ (by omega) (by omega)) (fun j hj => un _ (by omega) (by omega)), r3.keep (un _ (by omega) (by omega)) (fun j hj => un _ (by omega) (by omega)), r4.keep (un _ (by omega) (by omega)) (fun j hj => un _ (by omega) (by omega)), by rw [un _ (by omega) (by omega)]; exact rs, fun p hp => (v0 p hp).congr (fun t _ => un _ (by omega) (by omega)), fun p hp => ?_, fun p hp => (v2 p hp).congr (by omega) (fun t _ => un _ (by omega) (by omega)), fun p hp => (v3 p hp).congr (by omega) (by omega) (fun t _ => un _ (by omega) (by omega)), fun p hp => (v4 p hp).congr (by omega) (fun t _ => un _ (by omega) (by omega)) (fun a ha => un _ (by omega) (by omega)), by rw [p2_e, un _ (by omega) (by omega)]; exact v5⟩
      by_cases hpn : p = n1
      · subst hpn
        have nw : ∀ t, t < 2 → p2_bk bk 2 40 1 p [a, b] (40 + 2 * p + t) = [a, b].getD t 0 := fun t ht => p2_bk_in (by omega) ht
        have hd2 := p2_le.mp hdi
        rw [p2_sub (by omega) (by omega)] at hd2
        have e11 : (11 : Int32).toInt = 11 := rfl
        unfold p2_V1 p2_e
        rw [nw 0 (by decide), nw 1 (by decide)]
        exact ⟨ha, hbb, (show b.toInt ≤ a.toInt + 11 by omega)⟩
      · exact (v1 p (by omega)).congr (fun t _ => un _ (by omega) (by omega))
end BX3
