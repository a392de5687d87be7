section BX3
variable {c0 c1 c2 c3 c4 : Nat → Int32} {z0 z1 z2 z3 z4 sg : Int32} {bk : Nat → Int32} {n0 n1 n2 n3 n4 : Nat}
theorem p2_isPicture (p : Int32) (hb : bk 1 = nI n1) (hn : n1 ≤ 4) : f_X9_isPicture bk p = some (p2_b (0 ≤ p.toInt ∧ p.toInt < (n1 : Int))) := by
  unfold f_X9_isPicture
  have e0 : bk (cx_ix 1) = nI n1 := hb
  have e1 : (nI n1 - 1).toInt = (n1 : Int) - 1 := pk_sub_toInt (a := n1) (b := 1) (by omega) (by omega)
  rw [p2_gd (by decide), p2_in, Option.bind_some, p2_gd (by simp only [p2_b]; split <;> decide), e0, p2_l, p2_l, e1]
  congr 2
  simp only [eq_iff_iff]
  exact ⟨fun h => ⟨h.1, by have := h.2; omega⟩, fun h => ⟨h.1, by have := h.2; omega⟩⟩
theorem p2_isHead (p : Int32) (hb : bk 2 = nI n2) (hn : n2 ≤ 6) : f_X9_isHead bk p = some (p2_b (0 ≤ p.toInt ∧ p.toInt < (n2 : Int))) := by
  unfold f_X9_isHead
  have e0 : bk (cx_ix 2) = nI n2 := hb
  have e1 : (nI n2 - 1).toInt = (n2 : Int) - 1 := pk_sub_toInt (a := n2) (b := 1) (by omega) (by omega)
  rw [p2_gd (by decide), p2_in, Option.bind_some, p2_gd (by simp only [p2_b]; split <;> decide), e0, p2_l, p2_l, e1]
  congr 2
  simp only [eq_iff_iff]
  exact ⟨fun h => ⟨h.1, by have := h.2; omega⟩, fun h => ⟨h.1, by have := h.2; omega⟩⟩
theorem p2_ofHead (r t : Nat) (hr : r < 6) (ht : t < 5) : f_X9_ofHead bk (nI r) (nI t) = some (bk (50 + 5 * r + t)) := by
  unfold f_X9_ofHead
  rw [show (50 : Int32) = nI 50 from rfl, show (5 : Int32) = nI 5 from rfl, pk_mul, nI_add, nI_add, p2_gd (p2_ib (by omega) (by decide)), p2_ix (by omega)]
theorem bx_name (h : p2_RB c0 z0 c1 z1 c2 z2 c3 z3 c4 z4 sg bk n0 n1 n2 n3 n4) (a b c d : Int32) :
    (∃ (r : Int32) (i : Nat), (r = -2 ∧ i = 0 ∨ r = -4 ∧ i = 2) ∧ f_X1_addName z0 z2 c3 z3 a b c d = some (r, z3, c3) ∧ ∀ rf q, f_X9_name bk rf q a b c d = some (r, bk, p2_rf rf q i)) ∨
    (n3 < 4 ∧ ∃ (z' : Int32) (c' bk' : Nat → Int32), f_X1_addName z0 z2 c3 z3 a b c d = some (nI n3, z', c') ∧ (∀ rf q, f_X9_name bk rf q a b c d = some (nI n3, bk', rf)) ∧ p2_RB c0 z0 c1 z1 c2 z2 c' z' c4 z4 sg bk' n0 n1 n2 (n3 + 1) n4) := by
  obtain ⟨r0, r1, r2, r3, r4, rs, v0, v1, v2, v3, v4, v5⟩ := h
  obtain ⟨hn0, hz0, hb0, hc0⟩ := id r0
  obtain ⟨hn1, hz1, hb1, hc1⟩ := id r1
  obtain ⟨hn2, hz2, hb2, hc2⟩ := id r2
  obtain ⟨hn3, hz3, hb3, hc3⟩ := id r3
  obtain ⟨hn4, hz4, hb4, hc4⟩ := id r4
  have ez0 : z0.toInt = (n0 : Int) := by rw [hz0]; exact nI_toInt (by omega)
  have ez1 : z1.toInt = (n1 : Int) := by rw [hz1]; exact nI_toInt (by omega)
  have ez2 : z2.toInt = (n2 : Int) := by rw [hz2]; exact nI_toInt (by omega)
  have ez3 : z3.toInt = (n3 : Int) := by rw [hz3]; exact nI_toInt (by omega)
  have ez4 : z4.toInt = (n4 : Int) := by rw [hz4]; exact nI_toInt (by omega)
  by_cases ha : 0 ≤ a.toInt ∧ a.toInt ≤ 5
  case neg =>
    left
    refine ⟨-2, 0, Or.inl ⟨rfl, rfl⟩, ?_, fun rf q => ?_⟩
    · unfold f_X1_addName
      rw [p2_within, Option.bind_some, if_pos (p2_b0.mpr (by exact ha))]
    · unfold f_X9_name f_X9_name_J37
      rw [p2_in, Option.bind_some, if_pos (p2_b0.mpr (by rw [p2_l]; exact ha)), p2_bad]
      rfl
  by_cases hbb : 0 ≤ b.toInt ∧ b.toInt < (n2 : Int)
  case neg =>
    left
    refine ⟨-2, 0, Or.inl ⟨rfl, rfl⟩, ?_, fun rf q => ?_⟩
    · unfold f_X1_addName
      rw [p2_within, Option.bind_some, if_neg (fun h => (p2_b0.mp h) (by exact ha)), p2_has, Option.bind_some, if_pos (p2_b0.mpr (by rw [ez2]; exact hbb))]
    · unfold f_X9_name f_X9_name_J37
      rw [p2_in, Option.bind_some, if_neg (fun h => (p2_b0.mp h) (by rw [p2_l]; exact ha)), p2_isHead _ hb2 hn2, Option.bind_some, if_pos (p2_b0.mpr hbb), p2_bad]
      rfl
  by_cases hcc : 0 ≤ c.toInt ∧ c.toInt < (n0 : Int)
  case neg =>
    left
    refine ⟨-2, 0, Or.inl ⟨rfl, rfl⟩, ?_, fun rf q => ?_⟩
    · unfold f_X1_addName
      rw [p2_within, Option.bind_some, if_neg (fun h => (p2_b0.mp h) (by exact ha)), p2_has, Option.bind_some, if_neg (fun h => (p2_b0.mp h) (by rw [ez2]; exact hbb)), p2_has, Option.bind_some, if_pos (p2_b0.mpr (by rw [ez0]; exact hcc))]
    · unfold f_X9_name f_X9_name_J37
      rw [p2_in, Option.bind_some, if_neg (fun h => (p2_b0.mp h) (by rw [p2_l]; exact ha)), p2_isHead _ hb2 hn2, Option.bind_some, if_neg (fun h => (p2_b0.mp h) hbb), p2_isPerson _ hb0 hn0, Option.bind_some, if_pos (p2_b0.mpr hcc), p2_bad]
      rfl
  by_cases hdd : 0 ≤ d.toInt ∧ d.toInt < (n0 : Int)
  case neg =>
    left
    refine ⟨-2, 0, Or.inl ⟨rfl, rfl⟩, ?_, fun rf q => ?_⟩
    · unfold f_X1_addName
      rw [p2_within, Option.bind_some, if_neg (fun h => (p2_b0.mp h) (by exact ha)), p2_has, Option.bind_some, if_neg (fun h => (p2_b0.mp h) (by rw [ez2]; exact hbb)), p2_has, Option.bind_some, if_neg (fun h => (p2_b0.mp h) (by rw [ez0]; exact hcc)), p2_has, Option.bind_some, if_pos (p2_b0.mpr (by rw [ez0]; exact hdd))]
    · unfold f_X9_name f_X9_name_J37
      rw [p2_in, Option.bind_some, if_neg (fun h => (p2_b0.mp h) (by rw [p2_l]; exact ha)), p2_isHead _ hb2 hn2, Option.bind_some, if_neg (fun h => (p2_b0.mp h) hbb), p2_isPerson _ hb0 hn0, Option.bind_some, if_neg (fun h => (p2_b0.mp h) hcc), p2_isPerson _ hb0 hn0, Option.bind_some, if_pos (p2_b0.mpr hdd), p2_bad]
      rfl
  have hb' : bk (cx_ix 3) = nI n3 := hb3
  by_cases hf : n3 = 4
  · left
    subst hf
    refine ⟨-4, 2, Or.inr ⟨rfl, rfl⟩, ?_, fun rf q => ?_⟩
    · unfold f_X1_addName
      rw [p2_within, Option.bind_some, if_neg (fun h => (p2_b0.mp h) (by exact ha)), p2_has, Option.bind_some, if_neg (fun h => (p2_b0.mp h) (by rw [ez2]; exact hbb)), p2_has, Option.bind_some, if_neg (fun h => (p2_b0.mp h) (by rw [ez0]; exact hcc)), p2_has, Option.bind_some, if_neg (fun h => (p2_b0.mp h) (by rw [ez0]; exact hdd)), hz3, show f_X4_isFull 4 (nI 4) = some 1 from p2_dfull (by decide), Option.bind_some, if_neg (by decide)]
    · unfold f_X9_name
      rw [p2_in, Option.bind_some, if_neg (fun h => (p2_b0.mp h) (by rw [p2_l]; exact ha)), p2_isHead _ hb2 hn2, Option.bind_some, if_neg (fun h => (p2_b0.mp h) hbb), p2_isPerson _ hb0 hn0, Option.bind_some, if_neg (fun h => (p2_b0.mp h) hcc), p2_isPerson _ hb0 hn0, Option.bind_some, if_neg (fun h => (p2_b0.mp h) hdd), p2_gd (by decide), if_pos (by rw [hb']; rfl), p2_full]
      rfl
  · right
    have hl : n3 < 4 := by omega
    refine ⟨hl, nI (n3 + 1), p2_ap c3 (n3 * 4) [a, b, c, d], p2_bk bk 4 80 3 n3 [a, b, c, d], ?_, fun rf q => ?_, ?_⟩
    · unfold f_X1_addName
      have ep : ∀ (f : Nat → Int32) (t : Nat) (v : Int32), t < 4 → f_X4_put 4 16 f (nI (n3 + 1)) (nI n3) (nI t) v = some (upd f (n3 * 4 + t) v) := fun f t v ht => p2_put (w := 4) (n := 16) (z := n3 + 1) (r := n3) (c := t) f v (by omega) ht (by omega) (by decide) (by omega) (by decide)
      rw [p2_within, Option.bind_some, if_neg (fun h => (p2_b0.mp h) (by exact ha)), p2_has, Option.bind_some, if_neg (fun h => (p2_b0.mp h) (by rw [ez2]; exact hbb)), p2_has, Option.bind_some, if_neg (fun h => (p2_b0.mp h) (by rw [ez0]; exact hcc)), p2_has, Option.bind_some, if_neg (fun h => (p2_b0.mp h) (by rw [ez0]; exact hdd)), hz3, show f_X4_isFull 4 (nI n3) = some 0 from p2_nfull hl (by decide), Option.bind_some, if_pos rfl, show f_X4_grow 4 (nI n3) = _ from p2_grow hl (by decide), Option.bind_some]
      show Option.bind (f_X4_put 4 16 c3 (nI (n3 + 1)) (nI n3) (nI 0) a) _ = _
      rw [ep _ 0 _ (by decide), Option.bind_some]
      show Option.bind (f_X4_put 4 16 _ (nI (n3 + 1)) (nI n3) (nI 1) b) _ = _
      rw [ep _ 1 _ (by decide), Option.bind_some]
      show Option.bind (f_X4_put 4 16 _ (nI (n3 + 1)) (nI n3) (nI 2) c) _ = _
      rw [ep _ 2 _ (by decide), Option.bind_some]
      show Option.bind (f_X4_put 4 16 _ (nI (n3 + 1)) (nI n3) (nI 3) d) _ = _
      rw [ep _ 3 _ (by decide), Option.bind_some]
      rfl
    · unfold f_X9_name
      have ex : (80 : Int32) + 4 * nI n3 = nI (80 + 4 * n3) := by rw [show (80 : Int32) = nI 80 from rfl, show (4 : Int32) = nI 4 from rfl, pk_mul, nI_add]
      have e1 : ∀ t : Nat, t < 4 → cx_ib (nI (80 + 4 * n3) + nI t) 140 = true := fun t ht => by rw [nI_add]; exact p2_ib (by omega) (by decide)
      have e2 : ∀ t : Nat, t < 4 → cx_ix (nI (80 + 4 * n3) + nI t) = 80 + 4 * n3 + t := fun t ht => by rw [nI_add]; exact p2_ix (by omega)
      rw [p2_in, Option.bind_some, if_neg (fun h => (p2_b0.mp h) (by rw [p2_l]; exact ha)), p2_isHead _ hb2 hn2, Option.bind_some, if_neg (fun h => (p2_b0.mp h) hbb), p2_isPerson _ hb0 hn0, Option.bind_some, if_neg (fun h => (p2_b0.mp h) hcc), p2_isPerson _ hb0 hn0, Option.bind_some, if_neg (fun h => (p2_b0.mp h) hdd), p2_gd (by decide), hb', if_neg (show ¬ nI n3 = 4 from p2_nne hf (by omega) (by decide)), p2_gd (by decide), ex]
      simp only [cx_let]
      rw [p2_gd (p2_ib (by omega) (by decide)), p2_ix (n := 80 + 4 * n3) (by omega)]
      have ch : p2_ap bk (80 + 4 * n3) [a, b, c, d] 3 = nI n3 := by rw [p2_ap_out _ _ _ _ (by omega)]; exact hb3
      rw [show cx_ib (nI (80 + 4 * n3) + 1) 140 = true from e1 1 (by decide), p2_gd rfl, show cx_ix (nI (80 + 4 * n3) + 1) = 80 + 4 * n3 + 1 from e2 1 (by decide)]
      rw [show cx_ib (nI (80 + 4 * n3) + 2) 140 = true from e1 2 (by decide), p2_gd rfl, show cx_ix (nI (80 + 4 * n3) + 2) = 80 + 4 * n3 + 2 from e2 2 (by decide)]
      rw [show cx_ib (nI (80 + 4 * n3) + 3) 140 = true from e1 3 (by decide), p2_gd rfl, show cx_ix (nI (80 + 4 * n3) + 3) = 80 + 4 * n3 + 3 from e2 3 (by decide)]
      rw [p2_gd (by decide), p2_gd (by decide), p2_gd (by decide)]
      show some (upd (p2_ap bk (80 + 4 * n3) [a, b, c, d]) 3 (p2_ap bk (80 + 4 * n3) [a, b, c, d] 3 + 1) 3 - 1, upd (p2_ap bk (80 + 4 * n3) [a, b, c, d]) 3 (p2_ap bk (80 + 4 * n3) [a, b, c, d] 3 + 1), rf) = _
      rw [ch, p2_us, nI_1, nI_pred]
      rfl
    · have un : ∀ j, j ≠ 3 → ¬ (80 + 4 * n3 ≤ j ∧ j < 80 + 4 * n3 + 4) → p2_bk bk 4 80 3 n3 [a, b, c, d] j = bk j := fun j h1 h2 => p2_bk_out h1 h2
      refine ⟨r0.keep (un _ (by omega) (by omega)) (fun j hj => un _ (by omega) (by omega)), r1.keep (un _ (by omega) (by omega)) (fun j hj => un _ (by omega) (by omega)), r2.keep (un _ (by omega) (by omega)) (fun j hj => un _ (by omega) (by omega)), r3.add hl rfl (by decide), r4.keep (un _ (by omega) (by omega)) (fun j hj => un _ (by omega) (by omega)), by rw [un _ (by omega) (by omega)]; exact rs, fun p hp => (v0 p hp).congr (fun t _ => un _ (by omega) (by omega)), fun p hp => (v1 p hp).congr (fun t _ => un _ (by omega) (by omega)), fun p hp => (v2 p hp).congr (by omega) (fun t _ => un _ (by omega) (by omega)), fun p hp => ?_, fun p hp => (v4 p hp).congr (by omega) (fun t _ => un _ (by omega) (by omega)) (fun a ha => un _ (by omega) (by omega)), by rw [p2_e, un _ (by omega) (by omega)]; exact v5⟩
      by_cases hpn : p = n3
      · subst hpn
        have nw : ∀ t, t < 4 → p2_bk bk 4 80 3 p [a, b, c, d] (80 + 4 * p + t) = [a, b, c, d].getD t 0 := fun t ht => p2_bk_in (by omega) ht
        unfold p2_V3 p2_e
        rw [nw 0 (by decide), nw 1 (by decide), nw 2 (by decide), nw 3 (by decide)]
        exact ⟨ha, ⟨hbb.1, (show b.toInt ≤ (n2 : Int) - 1 by omega)⟩, ⟨hcc.1, (show c.toInt ≤ (n0 : Int) - 1 by omega)⟩, ⟨hdd.1, (show d.toInt ≤ (n0 : Int) - 1 by omega)⟩⟩
      · exact (v3 p (by omega)).congr (by omega) (by omega) (fun t _ => un _ (by omega) (by omega))
end BX3
