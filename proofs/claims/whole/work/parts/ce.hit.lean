/-! QUESTIONS: what they share -/
theorem i_w6 {l w : Nat → Int32} {V : Nat → Nat} (hS : p4_S l w V) {r : Nat} (hr : r < 270) (h4 : r ≠ 4) : w r = 0 ↔ V r = 0 := by
  obtain ⟨n, n1, n2, n3⟩ := p4_wpos (hS r hr h4)
  rw [n2, ← n3]
  exact p4_i0 (by omega)
theorem i_tellsHit {l w : Nat → Int32} {V : Nat → Nat} (hS : p4_S l w V) (hp : 0 < V 6) : ∃ l' w' V', f_X9_tellsHit l w = some (1, l', w') ∧ p4_S l' w' V' ∧ V' 0 = V 7 / Nat.gcd (V 7) (V 6) ∧ V' 1 = V 6 / Nat.gcd (V 7) (V 6) ∧ ∀ s, 4 ≤ s → V' s = V s := by
  obtain ⟨l1, w1, a1, a2, a3⟩ := p4_takes (r := 0) (o := 7) (by decide) (by decide) (by decide) (hS 7 (by decide) (by decide))
  have s1 := hS.set a2 a3
  have r6 := s1 6 (by decide) (by decide)
  rw [p4_un (by decide)] at r6
  obtain ⟨l2, w2, b1, b2, b3⟩ := p4_takes (r := 1) (o := 6) (by decide) (by decide) (by decide) r6
  have s2 := s1.set b2 b3
  obtain ⟨l3, w3, V3, c1, c2, c3, c4, c5⟩ := p4_lowers s2 (by rw [p4_us]; exact hp)
  rw [p4_us, p4_un (by decide), p4_us] at c3 c4
  refine ⟨l3, w3, V3, ?_, c2, c3, c4, fun s hs => by rw [c5 s hs, p4_un (by omega), p4_un (by omega)]⟩
  unfold f_X9_tellsHit
  rw [show f_X9_takes l w 0 7 = _ from a1, Option.bind_some, show f_X9_takes l1 w1 1 6 = _ from b1, Option.bind_some, c1, Option.bind_some]
theorem i_Fmk {ab be : Nat → Int64} {l w : Nat → Int32} {V : Nat → Nat} {a b : Nat} (hS : p4_S l w V) (h0 : V 0 = a / Nat.gcd a b) (h1 : V 1 = b / Nat.gcd a b) (ha : p3_N ab 0 (a / Nat.gcd a b)) (hb : p3_N be 0 (b / Nat.gcd a b)) (hp : 0 < b) : i_F ab be l w := by
  refine ⟨V, hS, by rw [h0]; exact ha, by rw [h1]; exact hb, ?_⟩
  rw [h1]
  exact Nat.div_pos (Nat.le_of_dvd hp (Nat.gcd_dvd_right a b)) (Nat.gcd_pos_of_pos_right a hp)
/-- the sums of all, asked by the class -/
theorem i_any {σ τ : cx_St} {n0 n1 n2 n3 n4 : Nat} (hRB : p2_RB (σ.1 2) (σ.2.2 1) (σ.1 3) (σ.2.2 2) (σ.1 4) (σ.2.2 3) (σ.1 5) (σ.2.2 4) (σ.1 6) (σ.2.2 5) (σ.2.2 6) (τ.1 2) n0 n1 n2 n3 n4) (hsm : i_sm (τ.1 2) n0 n1 n2 n3 n4 (σ.2.2 0) (σ.2.2 39) (σ.2.2 40) (σ.2.1 10) (σ.2.1 11) (σ.2.1 12) (σ.2.1 13) (σ.1 42)) (hO1 : i_on (σ.2.1 4)) (hS1 : i_sn (σ.2.1 11)) (need : Nat) (hn1 : 1 ≤ need) (hn2 : need ≤ 2) : ∃ y, f_X8_anyWay (σ.2.2 0) (σ.1 2) (σ.2.2 1) (σ.1 3) (σ.2.2 2) (σ.1 4) (σ.2.2 3) (σ.1 5) (σ.2.2 4) (σ.1 6) (σ.2.2 5) (σ.2.2 6) (σ.2.2 29) (σ.2.2 30) (σ.2.2 31) (σ.2.2 32) (σ.2.2 33) (σ.1 24) (σ.1 25) (σ.1 26) (σ.1 27) (σ.1 28) (σ.1 29) (σ.1 30) (σ.1 31) (σ.2.1 4) (σ.2.1 5) (σ.2.1 6) (σ.1 32) (σ.2.1 10) (σ.2.1 11) (σ.2.1 12) (σ.2.1 13) (σ.1 42) (σ.2.1 14) (σ.2.2 39) (σ.2.2 40) (nI need) = some y ∧ y.1 = p2_b (q_A (τ.1 2) n0 n1 n2 n3 n4 ≠ 0) ∧ (∃ d, need ≤ d ∧ 1 ≤ d ∧ d ≤ 2 ∧ y.2.1 = nI d ∧ i_SM (τ.1 2) n0 n1 n2 n3 n4 d y.2.2.2.2.2.2.2.2.2.2.2.2.2.2.2.2.2.2.2.1 y.2.2.2.2.2.2.2.2.2.2.2.2.2.2.2.2.2.2.2.2.1 y.2.2.2.2.2.2.2.2.2.2.2.2.2.2.2.2.2.2.2.2.2.1 y.2.2.2.2.2.2.2.2.2.2.2.2.2.2.2.2.2.2.2.2.2.2.1 y.2.2.2.2.2.2.2.2.2.2.2.2.2.2.2.2.2.2.2.2.2.2.2.1 y.2.2.2.2.2.2.2.2.2.2.2.2.2.2.2.2.2.2.2.2.2.2.2.2.1 y.2.2.2.2.2.2.2.2.2.2.2.2.2.2.2.2.2.2.2.2.2.2.2.2.2.1) ∧ i_on y.2.2.2.2.2.2.2.2.2.2.2.2.2.2.2.1 ∧ i_sn y.2.2.2.2.2.2.2.2.2.2.2.2.2.2.2.2.2.2.2.2.2.2.1 := i_anyWay hRB hsm (σ.2.2 29) (σ.2.2 30) (σ.2.2 31) (σ.2.2 32) (σ.2.2 33) (σ.1 24) (σ.1 25) (σ.1 26) (σ.1 27) (σ.1 28) (σ.1 29) (σ.1 30) (σ.1 31) (σ.2.1 4) (σ.2.1 5) (σ.2.1 6) (σ.1 32) (σ.2.1 14) hO1 hS1 need hn1 hn2
theorem i_p83 {i a b : Nat} {x y : Nat → Int64} (fa fb fo ft : Nat → Int64) (hi : i * 4 + 4 ≤ 144) (hx : p3_N x i a) (hy : p3_N y 0 b) (hb : 0 < b) : ∃ u1 u2 u3 u4, f_X8_share_p83 fa fb fo ft y x (nI i) = some (1, u1, u2, u3, u4) ∧ p3_N u1 0 (a / Nat.gcd a b) ∧ p3_N u2 0 (b / Nat.gcd a b) := by
  obtain ⟨u1, u2, u3, u4, e1, e2, e3⟩ := p5_set (n := 144) (n' := 4) fa fb fo ft hi (by decide) (by decide) (by decide) hx hy hb
  refine ⟨u1, u2, u3, u4, ?_, e2, e3⟩
  unfold f_X8_share_p83
  rw [show f_X2_set fa fb fo ft 144 x (nI i) 4 y 0 = _ from e1, Option.bind_some]
theorem i_ex {A B : Type} {f : Option A} {g : Option B} {a : A} {b : B} {P : A → B → Prop} (hf : f = some a) (hg : g = some b) (h : P a b) : ∃ y1 y2, f = some y1 ∧ g = some y2 ∧ P y1 y2 := ⟨a, b, hf, hg, h⟩
theorem i_all : ob_all i_Inv := by
  intro σ τ h
  obtain ⟨⟨n0, n1, n2, n3, n4, hRB, hsm⟩, hR, hK0, hK1, hT, hF, hO1, hO2, hS1, hS2⟩ := h
  obtain ⟨y, y1, y2, ⟨d, d1, d2, d3, d4, hSM⟩, hon, hsn⟩ := i_any hRB hsm hO1 hS1 1 (by omega) (by omega)
  obtain ⟨V, hV, hV0, hV1, hV2⟩ := hF
  obtain ⟨li, b1, b2⟩ := m_begins hRB (τ.1 10)
  obtain ⟨l1, w1, is1, V1, s1, s2, s3, s4, s5⟩ := m_sums hRB b2 (i_LM0 hRB (τ.2.2 9) (τ.2.2 11)) (τ.1 0) (τ.1 1) (τ.1 9) V hV 0 0 0 (by omega) (fun q => by omega) (fun q => by omega) (fun q => by omega)
  have w6 := i_w6 s2 (r := 6) (by decide) (by decide)
  have s3' : V1 6 = q_A (τ.1 2) n0 n1 n2 n3 n4 := s3
  by_cases hA : q_A (τ.1 2) n0 n1 n2 n3 n4 = 0
  · apply i_ex
    · unfold f_X8_all
      rw [show f_X8_anyWay (σ.2.2 0) (σ.1 2) (σ.2.2 1) (σ.1 3) (σ.2.2 2) (σ.1 4) (σ.2.2 3) (σ.1 5) (σ.2.2 4) (σ.1 6) (σ.2.2 5) (σ.2.2 6) (σ.2.2 29) (σ.2.2 30) (σ.2.2 31) (σ.2.2 32) (σ.2.2 33) (σ.1 24) (σ.1 25) (σ.1 26) (σ.1 27) (σ.1 28) (σ.1 29) (σ.1 30) (σ.1 31) (σ.2.1 4) (σ.2.1 5) (σ.2.1 6) (σ.1 32) (σ.2.1 10) (σ.2.1 11) (σ.2.1 12) (σ.2.1 13) (σ.1 42) (σ.2.1 14) (σ.2.2 39) (σ.2.2 40) 1 = _ from y1, Option.bind_some, if_pos (by rw [y2, p2_b, if_neg (fun q => q hA)]), i_no, Option.bind_some]
    · unfold f_X9_all
      rw [b1, Option.bind_some, show f_X9_sums (τ.1 0) (τ.1 1) (τ.1 2) (τ.1 9) li (-1) (-1) (τ.2.2 9) (-1) (τ.2.2 11) 0 0 0 = _ from s1, Option.bind_some, p2_gd (by decide), if_pos (show w1 (cx_ix 6) = 0 from w6.mpr (s3'.trans hA)), p2_no, Option.bind_some]
    · refine ⟨rfl, ⟨n0, n1, n2, n3, n4, hRB, Or.inr ⟨d, d2, d3, d4, hSM⟩⟩, i_Rup hR 1 (by decide), hK0, hK1, hT, ⟨V1, s2, by rw [s5 0 (by decide) (by decide) (by decide) (by decide)]; exact hV0, by rw [s5 1 (by decide) (by decide) (by decide) (by decide)]; exact hV1, by rw [s5 1 (by decide) (by decide) (by decide) (by decide)]; exact hV2⟩, hon, hO2, hsn, hS2⟩
  · obtain ⟨u1, u2, t1, t2, t3⟩ := p5_setWhole (n := 4) (σ.2.1 0) (σ.2.1 1) (by decide) (by decide) hSM.2.2.1
    obtain ⟨l2, w2, e1, e2, e3⟩ := p4_takes (r := 7) (o := 6) (by decide) (by decide) (by decide) (s2 6 (by decide) (by decide))
    obtain ⟨l3, w3, g1, g2, g3⟩ := p4_sets (l := l2) (w := w2) (r := 6) (v := 1) (by decide) (by decide)
    have S3 := (s2.set e2 e3).set g2 g3
    obtain ⟨l4, w4, V4, k1, k2, k3, k4, k5⟩ := i_tellsHit S3 (by rw [p4_us]; decide)
    rw [p4_us, p4_un (by decide), p4_us, s3', Nat.gcd_one_right, Nat.div_one] at k3 k4
    apply i_ex
    · unfold f_X8_all
      rw [show f_X8_anyWay (σ.2.2 0) (σ.1 2) (σ.2.2 1) (σ.1 3) (σ.2.2 2) (σ.1 4) (σ.2.2 3) (σ.1 5) (σ.2.2 4) (σ.1 6) (σ.2.2 5) (σ.2.2 6) (σ.2.2 29) (σ.2.2 30) (σ.2.2 31) (σ.2.2 32) (σ.2.2 33) (σ.1 24) (σ.1 25) (σ.1 26) (σ.1 27) (σ.1 28) (σ.1 29) (σ.1 30) (σ.1 31) (σ.2.1 4) (σ.2.1 5) (σ.2.1 6) (σ.1 32) (σ.2.1 10) (σ.2.1 11) (σ.2.1 12) (σ.2.1 13) (σ.1 42) (σ.2.1 14) (σ.2.2 39) (σ.2.2 40) 1 = _ from y1, Option.bind_some, if_neg (by rw [y2, p2_b, if_pos hA]; decide), show f_X2_setWhole (σ.2.1 0) (σ.2.1 1) 4 y.2.2.2.2.2.2.2.2.2.2.2.2.2.2.2.2.2.2.2.2.2.1 0 = _ from t1, Option.bind_some]
    · unfold f_X9_all
      rw [b1, Option.bind_some, show f_X9_sums (τ.1 0) (τ.1 1) (τ.1 2) (τ.1 9) li (-1) (-1) (τ.2.2 9) (-1) (τ.2.2 11) 0 0 0 = _ from s1, Option.bind_some, p2_gd (by decide), if_neg (show ¬ w1 (cx_ix 6) = 0 from fun q => hA (s3'.symm.trans (w6.mp q))), show f_X9_takes l1 w1 7 6 = _ from e1, Option.bind_some, show f_X9_sets l2 w2 6 1 = _ from g1, Option.bind_some, k1, Option.bind_some]
    · exact ⟨rfl, ⟨n0, n1, n2, n3, n4, hRB, Or.inr ⟨d, d2, d3, d4, hSM⟩⟩, hR, hK0, hK1, hT, ⟨V4, k2, by rw [k3]; exact t2, by rw [k4]; exact t3, by rw [k4]; decide⟩, hon, hO2, hsn, hS2⟩
