/-! THE OBLIGATIONS: telling a box -/
theorem i_Rup {q : Int32} {rf mf : Nat → Int32} (h : i_R q rf mf) (i : Nat) (hi : i < 3) : i_R q (upd rf i (rf i + 1)) (p2_rf mf q i) := by
  refine ⟨h.1, fun j hj => ?_⟩
  unfold p2_rf
  rw [h.1, if_pos rfl]
  by_cases e : j = i
  · subst e; rw [p2_us, p2_us, h.2 j hj]
  · rw [p2_un e, p2_un e, h.2 j hj]
theorem i_told (f : Nat → Int32) (sm r : Int32) (i : Nat) (h : r = -2 ∧ i = 0 ∨ r = -4 ∧ i = 2 ∨ r = -10 ∧ i = 0) : f_X8_told f sm r = some (r, sm, upd f i (f i + 1)) := by
  rcases h with ⟨rfl, rfl⟩ | ⟨rfl, rfl⟩ | ⟨rfl, rfl⟩
  · exact p2_told_no f sm (-2) (by decide)
  · exact p2_told_no f sm (-4) (by decide)
  · exact p2_told_no f sm (-10) (by decide)
theorem i_no (f : Nat → Int32) : f_X8_refused f (-3) = some (-3, upd f 1 (f 1 + 1)) := by rw [p2_refused]; rfl
theorem i_full (f : Nat → Int32) : f_X8_refused f (-4) = some (-4, upd f 2 (f 2 + 1)) := by rw [p2_refused]; rfl
theorem i_RR {q : Int32} {rf mf : Nat → Int32} (h : i_R q rf mf) : p2_RR rf mf := fun j hj => h.2 j hj
theorem i_person : ob_person i_Inv := by
  intro σ τ p1 p2 p3 p4 h
  obtain ⟨⟨n0, n1, n2, n3, n4, hRB, hsm⟩, hR, hK0, hK1, hT, hF, hO1, hO2, hS1, hS2⟩ := h
  rcases bx_person hRB p1 p2 p3 p4 with ⟨r, i, hri, e1, e2⟩ | ⟨hn, z', c', bk', e1, e2, e3⟩
  · have hi : i < 3 := by rcases hri with ⟨_, q⟩ | ⟨_, q⟩ <;> omega
    refine ⟨(r, σ.2.2 0, upd (σ.1 1) i ((σ.1 1) i + 1), σ.2.2 1, σ.1 2), (r, τ.1 2, p2_rf (τ.1 6) (τ.2.2 0) i), ?_, e2 _ _, rfl, ?_⟩
    · unfold f_X8_person
      rw [e1, Option.bind_some]
      dsimp only
      rw [i_told _ _ r i (by rcases hri with q | q; exact Or.inl q; exact Or.inr (Or.inl q)), Option.bind_some]
    · exact ⟨⟨n0, n1, n2, n3, n4, hRB, hsm⟩, i_Rup hR i hi, hK0, hK1, hT, hF, hO1, hO2, hS1, hS2⟩
  · have hle : -1 ≤ (nI n0).toInt := by rw [nI_toInt (by omega)]; omega
    refine ⟨(nI n0, -1, σ.1 1, z', c'), (nI n0, bk', τ.1 6), ?_, e2 _ _, rfl, ?_⟩
    · unfold f_X8_person
      rw [e1, Option.bind_some]
      dsimp only
      rw [p2_told_ok _ _ _ hle, Option.bind_some]
    · exact ⟨⟨n0 + 1, n1, n2, n3, n4, e3, Or.inl rfl⟩, hR, hK0, hK1, hT, hF, hO1, hO2, hS1, hS2⟩
theorem i_picture : ob_picture i_Inv := by
  intro σ τ p1 p2 h
  obtain ⟨⟨n0, n1, n2, n3, n4, hRB, hsm⟩, hR, hK0, hK1, hT, hF, hO1, hO2, hS1, hS2⟩ := h
  rcases bx_picture hRB p1 p2 with ⟨r, i, hri, e1, e2⟩ | ⟨hn, z', c', bk', e1, e2, e3⟩
  · have hi : i < 3 := by rcases hri with ⟨_, q⟩ | ⟨_, q⟩ <;> omega
    refine ⟨(r, σ.2.2 0, upd (σ.1 1) i ((σ.1 1) i + 1), σ.2.2 2, σ.1 3), (r, τ.1 2, p2_rf (τ.1 6) (τ.2.2 0) i), ?_, e2 _ _, rfl, ?_⟩
    · unfold f_X8_picture
      rw [e1, Option.bind_some]
      dsimp only
      rw [i_told _ _ r i (by rcases hri with q | q; exact Or.inl q; exact Or.inr (Or.inl q)), Option.bind_some]
    · exact ⟨⟨n0, n1, n2, n3, n4, hRB, hsm⟩, i_Rup hR i hi, hK0, hK1, hT, hF, hO1, hO2, hS1, hS2⟩
  · have hle : -1 ≤ (nI n1).toInt := by rw [nI_toInt (by omega)]; omega
    refine ⟨(nI n1, -1, σ.1 1, z', c'), (nI n1, bk', τ.1 6), ?_, e2 _ _, rfl, ?_⟩
    · unfold f_X8_picture
      rw [e1, Option.bind_some]
      dsimp only
      rw [p2_told_ok _ _ _ hle, Option.bind_some]
    · exact ⟨⟨n0, n1 + 1, n2, n3, n4, e3, Or.inl rfl⟩, hR, hK0, hK1, hT, hF, hO1, hO2, hS1, hS2⟩
theorem i_head : ob_head i_Inv := by
  intro σ τ p1 p2 p3 p4 p5 h
  obtain ⟨⟨n0, n1, n2, n3, n4, hRB, hsm⟩, hR, hK0, hK1, hT, hF, hO1, hO2, hS1, hS2⟩ := h
  rcases bx_head hRB p1 p2 p3 p4 p5 with ⟨r, i, hri, e1, e2⟩ | ⟨hn, z', c', bk', e1, e2, e3⟩
  · have hi : i < 3 := by rcases hri with ⟨_, q⟩ | ⟨_, q⟩ <;> omega
    refine ⟨(r, σ.2.2 0, upd (σ.1 1) i ((σ.1 1) i + 1), σ.2.2 3, σ.1 4), (r, τ.1 2, p2_rf (τ.1 6) (τ.2.2 0) i), ?_, e2 _ _, rfl, ?_⟩
    · unfold f_X8_head
      rw [e1, Option.bind_some]
      dsimp only
      rw [i_told _ _ r i (by rcases hri with q | q; exact Or.inl q; exact Or.inr (Or.inl q)), Option.bind_some]
    · exact ⟨⟨n0, n1, n2, n3, n4, hRB, hsm⟩, i_Rup hR i hi, hK0, hK1, hT, hF, hO1, hO2, hS1, hS2⟩
  · have hle : -1 ≤ (nI n2).toInt := by rw [nI_toInt (by omega)]; omega
    refine ⟨(nI n2, -1, σ.1 1, z', c'), (nI n2, bk', τ.1 6), ?_, e2 _ _, rfl, ?_⟩
    · unfold f_X8_head
      rw [e1, Option.bind_some]
      dsimp only
      rw [p2_told_ok _ _ _ hle, Option.bind_some]
    · exact ⟨⟨n0, n1, n2 + 1, n3, n4, e3, Or.inl rfl⟩, hR, hK0, hK1, hT, hF, hO1, hO2, hS1, hS2⟩
theorem i_name : ob_name i_Inv := by
  intro σ τ p1 p2 p3 p4 h
  obtain ⟨⟨n0, n1, n2, n3, n4, hRB, hsm⟩, hR, hK0, hK1, hT, hF, hO1, hO2, hS1, hS2⟩ := h
  rcases bx_name hRB p1 p2 p3 p4 with ⟨r, i, hri, e1, e2⟩ | ⟨hn, z', c', bk', e1, e2, e3⟩
  · have hi : i < 3 := by rcases hri with ⟨_, q⟩ | ⟨_, q⟩ <;> omega
    refine ⟨(r, σ.2.2 0, upd (σ.1 1) i ((σ.1 1) i + 1), σ.2.2 4, σ.1 5), (r, τ.1 2, p2_rf (τ.1 6) (τ.2.2 0) i), ?_, e2 _ _, rfl, ?_⟩
    · unfold f_X8_name
      rw [e1, Option.bind_some]
      dsimp only
      rw [i_told _ _ r i (by rcases hri with q | q; exact Or.inl q; exact Or.inr (Or.inl q)), Option.bind_some]
    · exact ⟨⟨n0, n1, n2, n3, n4, hRB, hsm⟩, i_Rup hR i hi, hK0, hK1, hT, hF, hO1, hO2, hS1, hS2⟩
  · have hle : -1 ≤ (nI n3).toInt := by rw [nI_toInt (by omega)]; omega
    refine ⟨(nI n3, -1, σ.1 1, z', c'), (nI n3, bk', τ.1 6), ?_, e2 _ _, rfl, ?_⟩
    · unfold f_X8_name
      rw [e1, Option.bind_some]
      dsimp only
      rw [p2_told_ok _ _ _ hle, Option.bind_some]
    · exact ⟨⟨n0, n1, n2, n3 + 1, n4, e3, Or.inl rfl⟩, hR, hK0, hK1, hT, hF, hO1, hO2, hS1, hS2⟩
theorem i_join : ob_join i_Inv := by
  intro σ τ p1 p2 p3 h
  obtain ⟨⟨n0, n1, n2, n3, n4, hRB, hsm⟩, hR, hK0, hK1, hT, hF, hO1, hO2, hS1, hS2⟩ := h
  rcases bx_join hRB p1 p2 p3 with ⟨r, i, hri, e1, e2⟩ | ⟨hn, z', c', bk', e1, e2, e3⟩
  · have hi : i < 3 := by rcases hri with ⟨_, q⟩ | ⟨_, q⟩ <;> omega
    refine ⟨(r, σ.2.2 0, upd (σ.1 1) i ((σ.1 1) i + 1), σ.2.2 5, σ.1 6), (r, τ.1 2, p2_rf (τ.1 6) (τ.2.2 0) i), ?_, e2 _ _, rfl, ?_⟩
    · unfold f_X8_join
      rw [e1, Option.bind_some]
      dsimp only
      rw [i_told _ _ r i (by rcases hri with q | q; exact Or.inl q; exact Or.inr (Or.inl q)), Option.bind_some]
    · exact ⟨⟨n0, n1, n2, n3, n4, hRB, hsm⟩, i_Rup hR i hi, hK0, hK1, hT, hF, hO1, hO2, hS1, hS2⟩
  · have hle : -1 ≤ (nI n4).toInt := by rw [nI_toInt (by omega)]; omega
    refine ⟨(nI n4, -1, σ.1 1, z', c'), (nI n4, bk', τ.1 6), ?_, e2 _ _, rfl, ?_⟩
    · unfold f_X8_join
      rw [e1, Option.bind_some]
      dsimp only
      rw [p2_told_ok _ _ _ hle, Option.bind_some]
    · exact ⟨⟨n0, n1, n2, n3, n4 + 1, e3, Or.inl rfl⟩, hR, hK0, hK1, hT, hF, hO1, hO2, hS1, hS2⟩
theorem i_parent : ob_parent i_Inv := by
  intro σ τ p1 p2 h
  obtain ⟨⟨n0, n1, n2, n3, n4, hRB, hsm⟩, hR, hK0, hK1, hT, hF, hO1, hO2, hS1, hS2⟩ := h
  rcases bx_parent hRB p1 p2 with ⟨e1, e2⟩ | ⟨a, c', bk', hle, e1, e2, e3⟩
  · refine ⟨(-10, σ.2.2 0, upd (σ.1 1) 0 ((σ.1 1) 0 + 1), σ.1 2), (-10, τ.1 2, p2_rf (τ.1 6) (τ.2.2 0) 0), ?_, e2 _ _, rfl, ?_⟩
    · unfold f_X8_parent
      rw [e1, Option.bind_some]
      dsimp only
      rw [i_told _ _ (-10) 0 (Or.inr (Or.inr ⟨rfl, rfl⟩)), Option.bind_some]
    · exact ⟨⟨n0, n1, n2, n3, n4, hRB, hsm⟩, i_Rup hR 0 (by decide), hK0, hK1, hT, hF, hO1, hO2, hS1, hS2⟩
  · refine ⟨(a, -1, σ.1 1, c'), (a, bk', τ.1 6), ?_, e2 _ _, rfl, ?_⟩
    · unfold f_X8_parent
      rw [e1, Option.bind_some]
      dsimp only
      rw [p2_told_ok _ _ _ hle, Option.bind_some]
    · exact ⟨⟨n0, n1, n2, n3, n4, e3, Or.inl rfl⟩, hR, hK0, hK1, hT, hF, hO1, hO2, hS1, hS2⟩
theorem i_near : ob_near i_Inv := by
  intro σ τ p1 p2 h
  obtain ⟨⟨n0, n1, n2, n3, n4, hRB, hsm⟩, hR, hK0, hK1, hT, hF, hO1, hO2, hS1, hS2⟩ := h
  rcases bx_near hRB p1 p2 with ⟨e1, e2⟩ | ⟨a, c', bk', hle, e1, e2, e3⟩
  · refine ⟨(-2, σ.2.2 0, upd (σ.1 1) 0 ((σ.1 1) 0 + 1), σ.1 2), (-2, τ.1 2, p2_rf (τ.1 6) (τ.2.2 0) 0), ?_, e2 _ _, rfl, ?_⟩
    · unfold f_X8_near
      rw [e1, Option.bind_some]
      dsimp only
      rw [i_told _ _ (-2) 0 (Or.inl ⟨rfl, rfl⟩), Option.bind_some]
    · exact ⟨⟨n0, n1, n2, n3, n4, hRB, hsm⟩, i_Rup hR 0 (by decide), hK0, hK1, hT, hF, hO1, hO2, hS1, hS2⟩
  · refine ⟨(a, -1, σ.1 1, c'), (a, bk', τ.1 6), ?_, e2 _ _, rfl, ?_⟩
    · unfold f_X8_near
      rw [e1, Option.bind_some]
      dsimp only
      rw [p2_told_ok _ _ _ hle, Option.bind_some]
    · exact ⟨⟨n0, n1, n2, n3, n4, e3, Or.inl rfl⟩, hR, hK0, hK1, hT, hF, hO1, hO2, hS1, hS2⟩
theorem i_strange : ob_strange i_Inv := by
  intro σ τ p1 h
  obtain ⟨⟨n0, n1, n2, n3, n4, hRB, hsm⟩, hR, hK0, hK1, hT, hF, hO1, hO2, hS1, hS2⟩ := h
  rcases bx_strange hRB p1 with ⟨e1, e2⟩ | ⟨hle, e1, e2, e3⟩
  · refine ⟨(-2, σ.2.2 0, upd (σ.1 1) 0 ((σ.1 1) 0 + 1), σ.2.2 6), (-2, τ.1 2, p2_rf (τ.1 6) (τ.2.2 0) 0), ?_, e2 _ _, rfl, ?_⟩
    · unfold f_X8_strange
      rw [e1, Option.bind_some]
      dsimp only
      rw [i_told _ _ (-2) 0 (Or.inl ⟨rfl, rfl⟩), Option.bind_some]
    · exact ⟨⟨n0, n1, n2, n3, n4, hRB, hsm⟩, i_Rup hR 0 (by decide), hK0, hK1, hT, hF, hO1, hO2, hS1, hS2⟩
  · refine ⟨(σ.2.2 6, -1, σ.1 1, p1), (σ.2.2 6, upd (τ.1 2) 5 p1, τ.1 6), ?_, e2 _ _, rfl, ?_⟩
    · unfold f_X8_strange
      rw [e1, Option.bind_some]
      dsimp only
      rw [p2_told_ok _ _ _ hle, Option.bind_some]
    · exact ⟨⟨n0, n1, n2, n3, n4, e3, Or.inl rfl⟩, hR, hK0, hK1, hT, hF, hO1, hO2, hS1, hS2⟩
theorem i_mark : ob_mark i_Inv := by
  intro σ τ p1 p2 h
  obtain ⟨⟨n0, n1, n2, n3, n4, hRB, hsm⟩, hR, hK0, hK1, hT, hF, hO1, hO2, hS1, hS2⟩ := h
  have hq := hR.1
  obtain ⟨a, r1, r2, e1, e2, e3⟩ := ak_mark hRB (i_RR hR) p1 p2
  refine ⟨(a, r1), (a, r2), e1, by rw [hq]; exact e2, rfl, ?_⟩
  exact ⟨⟨n0, n1, n2, n3, n4, hRB, hsm⟩, ⟨hq, fun j hj => e3 j hj⟩, hK0, hK1, hT, hF, hO1, hO2, hS1, hS2⟩
theorem i_truth : ob_truth i_Inv := by
  intro σ τ p1 h
  obtain ⟨⟨n0, n1, n2, n3, n4, hRB, hsm⟩, hR, hK0, hK1, hT, hF, hO1, hO2, hS1, hS2⟩ := h
  have hq := hR.1
  obtain ⟨a, r1, r2, e1, e2, e3⟩ := ak_truth hRB (i_RR hR) p1
  refine ⟨(a, r1), (a, r2), e1, by rw [hq]; exact e2, rfl, ?_⟩
  exact ⟨⟨n0, n1, n2, n3, n4, hRB, hsm⟩, ⟨hq, fun j hj => e3 j hj⟩, hK0, hK1, hT, hF, hO1, hO2, hS1, hS2⟩
theorem i_status : ob_status i_Inv := by
  intro σ τ p1 h
  obtain ⟨⟨n0, n1, n2, n3, n4, hRB, hsm⟩, hR, hK0, hK1, hT, hF, hO1, hO2, hS1, hS2⟩ := h
  have hq := hR.1
  obtain ⟨a, r1, r2, e1, e2, e3⟩ := ak_status (i_RR hR) p1
  refine ⟨(a, r1), (a, r2), e1, by rw [hq]; exact e2, rfl, ?_⟩
  exact ⟨⟨n0, n1, n2, n3, n4, hRB, hsm⟩, ⟨hq, fun j hj => e3 j hj⟩, hK0, hK1, hT, hF, hO1, hO2, hS1, hS2⟩
theorem i_count : ob_count i_Inv := by
  intro σ τ p1 h
  obtain ⟨⟨n0, n1, n2, n3, n4, hRB, hsm⟩, hR, hK0, hK1, hT, hF, hO1, hO2, hS1, hS2⟩ := h
  have hq := hR.1
  obtain ⟨L, l1, l2, l3, l4⟩ := id hT
  obtain ⟨a, r1, r2, e1, e2, e3⟩ := ak_count hRB (i_RR hR) (σ.2.2 25) p1
  refine ⟨(a, r1), (a, r2), e1, by rw [hq, l3, ← l2]; exact e2, rfl, ?_⟩
  exact ⟨⟨n0, n1, n2, n3, n4, hRB, hsm⟩, ⟨hq, fun j hj => e3 j hj⟩, hK0, hK1, hT, hF, hO1, hO2, hS1, hS2⟩
theorem i_frac {ab be : Nat → Int64} {l w : Nat → Int32} (h : i_F ab be l w) : ∃ la lc, p2_F1 ab l (w 0) 0 la ∧ p2_F1 be l (w 1) 16 lc := by
  obtain ⟨V, h1, h2, h3, h4⟩ := h
  obtain ⟨la, a1, _⟩ := p5_F1 h2 (h1 0 (by decide) (by decide))
  obtain ⟨lc, b1, _⟩ := p5_F1 h3 (h1 1 (by decide) (by decide))
  exact ⟨la, lc, a1, b1⟩
theorem i_sign : ob_sign i_Inv := by
  intro σ τ p1 h
  obtain ⟨⟨n0, n1, n2, n3, n4, hRB, hsm⟩, hR, hK0, hK1, hT, hF, hO1, hO2, hS1, hS2⟩ := h
  have hq := hR.1
  obtain ⟨la, lc, f1, f2⟩ := i_frac hF
  obtain ⟨a, r1, r2, e1, e2, e3⟩ := ak_sign f1 f2 (i_RR hR) p1
  refine ⟨(a, r1), (a, r2), e1, by rw [hq]; exact e2, rfl, ?_⟩
  exact ⟨⟨n0, n1, n2, n3, n4, hRB, hsm⟩, ⟨hq, fun j hj => e3 j hj⟩, hK0, hK1, hT, hF, hO1, hO2, hS1, hS2⟩
theorem i_digest : ob_digest i_Inv := by
  intro σ τ h
  obtain ⟨⟨n0, n1, n2, n3, n4, hRB, hsm⟩, hR, hK0, hK1, hT, hF, hO1, hO2, hS1, hS2⟩ := id h
  obtain ⟨la, lc, f1, f2⟩ := i_frac hF
  obtain ⟨L, l1, l2, l3, l4⟩ := id hT
  exact ⟨_, _, p2_digestC hRB f1 f2, by rw [l3, ← l2]; exact p2_digestM hRB f1 f2, rfl, h⟩
