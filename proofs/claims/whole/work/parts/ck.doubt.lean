/-! DOUBT, BEST -/
theorem i_doubt : ob_doubt i_Inv := by
  intro σ τ p1 p2 h
  obtain ⟨⟨n0, n1, n2, n3, n4, hRB, hsm⟩, hR, hK0, hK1, hT, hF, hO1, hO2, hS1, hS2⟩ := h
  obtain ⟨r0, r1, r2, r3, r4, rs, v0, v1, v2, v3, v4, v5⟩ := id hRB
  have hn0 := r0.1
  have hn1 := r1.1
  have hn2 := r2.1
  have hn3 := r3.1
  have hn4 := r4.1
  have two : f_X8_areTwoPeople (σ.2.2 1) p1 p2 = some (p2_b ((0 ≤ p1.toInt ∧ p1.toInt < (n0 : Int)) ∧ (0 ≤ p2.toInt ∧ p2.toInt < (n0 : Int)) ∧ ¬ p1 = p2)) := by
    unfold f_X8_areTwoPeople
    rw [i_has r0.2.1 (by omega), Option.bind_some, i_has r0.2.1 (by omega), Option.bind_some, p4_bt, p4_bt]
    by_cases a1 : 0 ≤ p1.toInt ∧ p1.toInt < (n0 : Int)
    · by_cases a2 : 0 ≤ p2.toInt ∧ p2.toInt < (n0 : Int)
      · by_cases a3 : p1 = p2
        · rw [if_pos a1, if_pos a2, if_pos a3, p2_b, if_neg (fun z => z.2.2 a3)]
        · rw [if_pos a1, if_pos a2, if_neg a3, p2_b, if_pos ⟨a1, a2, a3⟩]
      · rw [if_pos a1, if_neg a2, p2_b, if_neg (fun z => a2 z.2.1)]
    · rw [if_neg a1, p2_b, if_neg (fun z => a1 z.1)]
  by_cases hok : (0 ≤ p1.toInt ∧ p1.toInt < (n0 : Int)) ∧ (0 ≤ p2.toInt ∧ p2.toInt < (n0 : Int)) ∧ ¬ p1 = p2
  · obtain ⟨ok1, ok2, ok3⟩ := hok
    rw [p2_b, if_pos ⟨ok1, ok2, ok3⟩] at two
    obtain ⟨p, hp, rfl⟩ : ∃ r : Nat, r < n0 ∧ p1 = nI r := by rcases p2_num p1 n0 (by omega) with q | q; exact q; exact absurd ok1 q
    obtain ⟨q, hq, rfl⟩ : ∃ r : Nat, r < n0 ∧ p2 = nI r := by rcases p2_num p2 n0 (by omega) with q | q; exact q; exact absurd ok2 q
    obtain ⟨y, y1, y2, ⟨d, d1, d2, d3, d4, hSM⟩, hon, hsn⟩ := i_any hRB hsm hO1 hS1 1 (by omega) (by omega)
    obtain ⟨li, l1, w1, is1, V1, b1, s1, s2, s3, s4, ⟨g1, g2, g3⟩, w6, hLI⟩ := i_ref hRB hF (τ.1 10) (τ.1 9) (τ.2.2 9) (τ.2.2 11)
    by_cases hA : q_A (τ.1 2) n0 n1 n2 n3 n4 = 0
    · apply i_ex
      · unfold f_X8_doubt
        rw [two, Option.bind_some, if_neg (by decide), show f_X8_anyWay (σ.2.2 0) (σ.1 2) (σ.2.2 1) (σ.1 3) (σ.2.2 2) (σ.1 4) (σ.2.2 3) (σ.1 5) (σ.2.2 4) (σ.1 6) (σ.2.2 5) (σ.2.2 6) (σ.2.2 29) (σ.2.2 30) (σ.2.2 31) (σ.2.2 32) (σ.2.2 33) (σ.1 24) (σ.1 25) (σ.1 26) (σ.1 27) (σ.1 28) (σ.1 29) (σ.1 30) (σ.1 31) (σ.2.1 4) (σ.2.1 5) (σ.2.1 6) (σ.1 32) (σ.2.1 10) (σ.2.1 11) (σ.2.1 12) (σ.2.1 13) (σ.1 42) (σ.2.1 14) (σ.2.2 39) (σ.2.2 40) 1 = _ from y1, Option.bind_some, if_pos (by rw [y2, p2_b, if_neg (fun q => q hA)]), i_no, Option.bind_some]
      · unfold f_X9_doubt
        rw [p2_isPerson _ r0.2.2.1 hn0, Option.bind_some, p4_bt, if_pos ok1, p2_isPerson _ r0.2.2.1 hn0, Option.bind_some, p4_bt, if_pos ok2, if_neg ok3, b1, Option.bind_some, show f_X9_shares (τ.1 0) (τ.1 1) (τ.1 2) (τ.1 9) li (-1) (-1) (τ.2.2 9) (-1) (τ.2.2 11) (-1) = _ from s1, Option.bind_some, p2_gd (by decide), if_pos (w6.mpr hA), p2_no, Option.bind_some]
      · exact ⟨rfl, ⟨n0, n1, n2, n3, n4, hRB, Or.inr ⟨d, d2, d3, d4, hSM⟩⟩, i_Rup hR 1 (by decide), hK0, hK1, hT, ⟨V1, s2, g1, g2, g3⟩, hon, hO2, hsn, hS2⟩
    · have hhe := hSM.2.1
      obtain ⟨mi', c1⟩ := i_closest (n2 := n2) (S := q_S (τ.1 2) n0 n1 n2 n3 n4) (p := p) (q := q) (σ.2.1 16) (by omega) (by omega) hn2 hSM.2.2.2.1
      rw [← hhe] at c1
      have loop : ∀ (r h m : Nat) (l w : Nat → Int32) (V : Nat → Nat), h + r = n2 → r < m → p4_S l w V → V 10 = (k_db (q_S (τ.1 2) n0 n1 n2 n3 n4) p q h).2 → (∀ s, s ≠ 10 → V s = V1 s) → ∃ l' w' V', f_X9_doubt_L62w (τ.1 2) (τ.1 6) (nI p) (nI q) (-1) (-1) (-1) is1 li m l w (k_db (q_S (τ.1 2) n0 n1 n2 n3 n4) p q h).1 (nI h) = some ((k_db (q_S (τ.1 2) n0 n1 n2 n3 n4) p q n2).1, -1, -1, -1, l', w', τ.1 6, is1, li) ∧ p4_S l' w' V' ∧ (∀ s, s ≠ 10 → V' s = V1 s) := by
        intro r
        induction r with
        | zero =>
          intro h m l w V h1 h2 h3 h4 h5
          obtain ⟨m, rfl⟩ : ∃ j, m = j + 1 := ⟨m - 1, by omega⟩
          refine ⟨l, w, V, ?_, h3, h5⟩
          show f_X9_doubt_L62 (τ.1 2) (τ.1 6) (nI p) (nI q) (-1) (-1) (-1) is1 li (f_X9_doubt_L62w (τ.1 2) (τ.1 6) (nI p) (nI q) (-1) (-1) (-1) is1 li m) l w _ _ = _
          unfold f_X9_doubt_L62
          rw [p2_gd (by decide), if_pos (by rw [show (τ.1 2) (cx_ix 2) = nI n2 from r2.2.2.1]; exact nI_le (by omega) (by omega)), show h = n2 by omega]
        | succ r ih =>
          intro h m l w V h1 h2 h3 h4 h5
          obtain ⟨m, rfl⟩ : ∃ j, m = j + 1 := ⟨m - 1, by omega⟩
          have hv : ∀ x, x < 6 → p4_R l w (12 + 6 * h + x) (q_S (τ.1 2) n0 n1 n2 n3 n4 h x) := fun x hx => by
            have := h3 (12 + 6 * h + x) (by omega) (by omega)
            rw [h5 _ (by omega), s4 h x (by omega) hx] at this
            exact this
          have r10 := h3 10 (by decide) (by decide)
          rw [h4] at r10
          have step : ∀ (x : Nat) (v : Nat), x < 6 → q_S (τ.1 2) n0 n1 n2 n3 n4 h x = v → v = (if q_S (τ.1 2) n0 n1 n2 n3 n4 h p < q_S (τ.1 2) n0 n1 n2 n3 n4 h q then q_S (τ.1 2) n0 n1 n2 n3 n4 h p else q_S (τ.1 2) n0 n1 n2 n3 n4 h q) → ∃ l' w' V', f_X9_doubt_J105 l w (k_db (q_S (τ.1 2) n0 n1 n2 n3 n4) p q h).1 (nI h) (f_X9_doubt_L62w (τ.1 2) (τ.1 6) (nI p) (nI q) (-1) (-1) (-1) is1 li m) (nI x) = some ((k_db (q_S (τ.1 2) n0 n1 n2 n3 n4) p q n2).1, -1, -1, -1, l', w', τ.1 6, is1, li) ∧ p4_S l' w' V' ∧ (∀ s, s ≠ 10 → V' s = V1 s) := by
            intro x v hx hxv hv2
            have rx := hv x hx
            rw [hxv] at rx
            unfold f_X9_doubt_J105 f_X9_doubt_J147
            rw [i_rg, show f_X9_against l w (nI (12 + 6 * h + x)) 10 = _ from p4_against (o := 10) (by omega) (by decide) rx r10, Option.bind_some, nI_1]
            by_cases c : (k_db (q_S (τ.1 2) n0 n1 n2 n3 n4) p q h).2 < v
            · obtain ⟨l2, w2, e1, e2, e3⟩ := p4_takes (r := 10) (o := 12 + 6 * h + x) (by decide) (by omega) (by omega) rx
              rw [if_neg (fun z => i_cmpLe.mp z c), show f_X9_takes l w 10 (nI (12 + 6 * h + x)) = _ from e1, Option.bind_some]
              have e : k_db (q_S (τ.1 2) n0 n1 n2 n3 n4) p q (h + 1) = (nI h, v) := by rw [k_db, ← hv2, if_pos c]
              have := ih (h + 1) m l2 w2 _ (by omega) (by omega) (h3.set e2 e3) (by rw [e, p4_us]) (fun s hs => by rw [p4_un hs, h5 s hs])
              rw [e] at this
              exact this
            · rw [if_pos (i_cmpLe.mpr c)]
              have e : k_db (q_S (τ.1 2) n0 n1 n2 n3 n4) p q (h + 1) = k_db (q_S (τ.1 2) n0 n1 n2 n3 n4) p q h := by rw [k_db, ← hv2, if_neg c]
              have := ih (h + 1) m l w V (by omega) (by omega) h3 (by rw [e, h4]) h5
              rw [e] at this
              exact this
          show ∃ l' w' V', f_X9_doubt_L62 (τ.1 2) (τ.1 6) (nI p) (nI q) (-1) (-1) (-1) is1 li (f_X9_doubt_L62w (τ.1 2) (τ.1 6) (nI p) (nI q) (-1) (-1) (-1) is1 li m) l w _ _ = some ((k_db (q_S (τ.1 2) n0 n1 n2 n3 n4) p q n2).1, -1, -1, -1, l', w', τ.1 6, is1, li) ∧ p4_S l' w' V' ∧ (∀ s, s ≠ 10 → V' s = V1 s)
          unfold f_X9_doubt_L62
          rw [p2_gd (by decide), if_neg (by rw [show (τ.1 2) (cx_ix 2) = nI n2 from r2.2.2.1]; exact nI_ge (by omega) (by omega)), i_rg, i_rg, p4_against (by omega) (by omega) (hv p (by omega)) (hv q (by omega)), Option.bind_some]
          by_cases c : q_S (τ.1 2) n0 n1 n2 n3 n4 h p < q_S (τ.1 2) n0 n1 n2 n3 n4 h q
          · rw [if_neg (fun z => i_cmpGe.mp z c)]
            exact step p _ (by omega) rfl (by rw [if_pos c])
          · rw [if_pos (i_cmpGe.mpr c)]
            exact step q _ (by omega) rfl (by rw [if_neg c])
      obtain ⟨l2, w2, e1, e2, e3⟩ := p4_sets (l := l1) (w := w1) (r := 10) (v := 0) (by decide) (by decide)
      obtain ⟨l', w', V', m1, m2, m3⟩ := loop n2 0 cx_N0 l2 w2 _ (by omega) (by unfold cx_N0; omega) (s2.set e2 e3) (by rw [p4_us]; rfl) (fun s hs => p4_un hs)
      apply i_ex
      · unfold f_X8_doubt
        rw [two, Option.bind_some, if_neg (by decide), show f_X8_anyWay (σ.2.2 0) (σ.1 2) (σ.2.2 1) (σ.1 3) (σ.2.2 2) (σ.1 4) (σ.2.2 3) (σ.1 5) (σ.2.2 4) (σ.1 6) (σ.2.2 5) (σ.2.2 6) (σ.2.2 29) (σ.2.2 30) (σ.2.2 31) (σ.2.2 32) (σ.2.2 33) (σ.1 24) (σ.1 25) (σ.1 26) (σ.1 27) (σ.1 28) (σ.1 29) (σ.1 30) (σ.1 31) (σ.2.1 4) (σ.2.1 5) (σ.2.1 6) (σ.1 32) (σ.2.1 10) (σ.2.1 11) (σ.2.1 12) (σ.2.1 13) (σ.1 42) (σ.2.1 14) (σ.2.2 39) (σ.2.2 40) 1 = _ from y1, Option.bind_some, if_neg (by rw [y2, p2_b, if_pos hA]; decide), c1, Option.bind_some]
      · unfold f_X9_doubt
        rw [p2_isPerson _ r0.2.2.1 hn0, Option.bind_some, p4_bt, if_pos ok1, p2_isPerson _ r0.2.2.1 hn0, Option.bind_some, p4_bt, if_pos ok2, if_neg ok3, b1, Option.bind_some, show f_X9_shares (τ.1 0) (τ.1 1) (τ.1 2) (τ.1 9) li (-1) (-1) (τ.2.2 9) (-1) (τ.2.2 11) (-1) = _ from s1, Option.bind_some, p2_gd (by decide), if_neg (fun q => hA (w6.mp q)), show f_X9_sets l1 w1 10 0 = _ from e1, Option.bind_some]
        exact m1
      · exact ⟨rfl, ⟨n0, n1, n2, n3, n4, hRB, Or.inr ⟨d, d2, d3, d4, hSM⟩⟩, hR, hK0, hK1, hT, ⟨V', m2, by rw [m3 0 (by decide)]; exact g1, by rw [m3 1 (by decide)]; exact g2, by rw [m3 1 (by decide)]; exact g3⟩, hon, hO2, hsn, hS2⟩
  · apply i_ex
    · unfold f_X8_doubt
      rw [two, Option.bind_some, if_pos (p2_b0.mpr hok), p2_refused2, Option.bind_some]
    · have : f_X9_doubt (τ.1 0) (τ.1 1) (τ.1 2) (τ.1 6) (τ.2.2 0) (τ.1 9) (τ.1 10) (τ.2.2 7) (τ.2.2 8) (τ.2.2 9) (τ.2.2 10) (τ.2.2 11) p1 p2 = some (-2, τ.2.2 7, τ.2.2 8, τ.2.2 10, τ.1 0, τ.1 1, p2_rf (τ.1 6) (τ.2.2 0) 0, τ.1 9, τ.1 10) := by
        unfold f_X9_doubt f_X9_doubt_J21
        rw [p2_isPerson _ r0.2.2.1 hn0, Option.bind_some, p4_bt, p2_isPerson _ r0.2.2.1 hn0, Option.bind_some, p4_bt, p2_bad, Option.bind_some]
        by_cases a1 : 0 ≤ p1.toInt ∧ p1.toInt < (n0 : Int)
        · rw [if_pos a1]
          by_cases a2 : 0 ≤ p2.toInt ∧ p2.toInt < (n0 : Int)
          · rw [if_pos a2]
            by_cases a3 : p1 = p2
            · rw [if_pos a3]
            · exact absurd ⟨a1, a2, a3⟩ hok
          · rw [if_neg a2]
        · rw [if_neg a1]
      exact this
    · exact ⟨rfl, ⟨n0, n1, n2, n3, n4, hRB, hsm⟩, i_Rup hR 0 (by decide), hK0, hK1, hT, hF, hO1, hO2, hS1, hS2⟩
/-- the greatest is none only if all are none -/
theorem i_bestz {g : Nat → (Nat → Nat)} (F : (Nat → Nat) → Nat) : ∀ N, (p6_it (fun x s => p8_bs F (g x) s) N (0, q_0)).1 = 0 ↔ ∀ x, x < N → F (g x) = 0 := by
  intro N
  induction N with
  | zero => exact ⟨fun _ x hx => by omega, fun _ => rfl⟩
  | succ N ih =>
    rw [p6_it]
    unfold p8_bs
    split
    · rename_i c
      exact ⟨fun q => by have q : F (g N) = 0 := q; omega, fun q => by have := q N (by omega); omega⟩
    · rename_i c
      rw [show (p6_it (fun x s => if s.1 < F (g x) then (F (g x), g x) else s) N (0, q_0)).1 = 0 ↔ _ from ih]
      constructor
      · intro q x hx
        by_cases e : x = N
        · subst e
          have := ih.mpr q
          unfold p8_bs at this
          omega
        · exact q x (by omega)
      · exact fun q x hx => q x (by omega)
theorem i_BA (bk : Nat → Int32) (n0 n1 n2 n3 n4 : Nat) : (q_B bk n0 n1 n2 n3 n4).1 = 0 ↔ q_A bk n0 n1 n2 n3 n4 = 0 := by
  unfold q_B q_A
  rw [← p6_codesF, ← p6_codes, i_bestz]
  constructor
  · exact fun q => p6_sm_zero q
  · exact fun q x hx => p6_sm_z q x hx
theorem i_best : ob_best i_Inv := by
  intro σ τ p1 h
  obtain ⟨⟨n0, n1, n2, n3, n4, hRB, hsm⟩, hR, hK0, hK1, hT, hF, hO1, hO2, hS1, hS2⟩ := h
  obtain ⟨r0, r1, r2, r3, r4, rs, v0, v1, v2, v3, v4, v5⟩ := id hRB
  have hn0 := r0.1
  have hn1 := r1.1
  have hn2 := r2.1
  have hn3 := r3.1
  have hn4 := r4.1
  rcases p2_num p1 n2 (by omega) with ⟨hd, hhd, rfl⟩ | hh
  · have hh := i_has1 hhd (by omega)
    obtain ⟨y, y1, y2, ⟨d, d1, d2, d3, d4, hSM⟩, hon, hsn⟩ := i_any hRB hsm hO1 hS1 1 (by omega) (by omega)
    obtain ⟨V, hV, hV0, hV1, hV2⟩ := id hF
    obtain ⟨li, b1, b2⟩ := m_begins hRB (τ.1 10)
    obtain ⟨l2, w2, e1, e2, e3⟩ := p4_sets (l := τ.1 0) (w := τ.1 1) (r := 10) (v := 0) (by decide) (by decide)
    have hB := q_BK_of hRB
    have hN : (n0 + 1) ^ n2 ≤ 46656 := Nat.le_trans (Nat.pow_le_pow_left (show n0 + 1 ≤ 6 by omega) n2) (Nat.le_trans (Nat.pow_le_pow_right (by decide) hn2) (by decide))
    have loop : ∀ (r code m : Nat) (l w is : Nat → Int32) (U : Nat → Nat) (f : Int32), code + r = (n0 + 1) ^ n2 → r < m → p4_S l w U → U 10 = (p6_it (fun x s => p8_bs (q_G0 (τ.1 2) n1 n2 n3 n4) (p6_wc n0 n2 0 q_0 x) s) code (0, q_0)).1 → (f = if (p6_it (fun x s => p8_bs (q_G0 (τ.1 2) n1 n2 n3 n4) (p6_wc n0 n2 0 q_0 x) s) code (0, q_0)).1 = 0 then -1 else nI ((p6_it (fun x s => p8_bs (q_G0 (τ.1 2) n1 n2 n3 n4) (p6_wc n0 n2 0 q_0 x) s) code (0, q_0)).2 hd)) → (∀ s, s < 2 → U s = V s) → ∃ l' w' is' U', f_X9_best_L34w (τ.1 2) (τ.1 6) (τ.2.2 0) (τ.2.2 9) (τ.2.2 11) (nI hd) (-1) (-1) (-1) li (nI ((n0 + 1) ^ n2)) m l w is f (nI code) = (if (q_B (τ.1 2) n0 n1 n2 n3 n4).1 = 0 then some (-3, -1, -1, -1, l', w', p2_rf (τ.1 6) (τ.2.2 0) 1, is', li) else some (nI ((q_B (τ.1 2) n0 n1 n2 n3 n4).2 hd), -1, -1, -1, l', w', τ.1 6, is', li)) ∧ p4_S l' w' U' ∧ (∀ s, s < 2 → U' s = V s) := by
      intro r
      induction r with
      | zero =>
        intro code m l w is U f h1 h2 h3 h4 h5 h6
        obtain ⟨m, rfl⟩ : ∃ j, m = j + 1 := ⟨m - 1, by omega⟩
        refine ⟨l, w, is, U, ?_, h3, h6⟩
        show f_X9_best_L34 (τ.1 2) (τ.1 6) (τ.2.2 0) (τ.2.2 9) (τ.2.2 11) (nI hd) (-1) (-1) (-1) li (nI ((n0 + 1) ^ n2)) (f_X9_best_L34w (τ.1 2) (τ.1 6) (τ.2.2 0) (τ.2.2 9) (τ.2.2 11) (nI hd) (-1) (-1) (-1) li (nI ((n0 + 1) ^ n2)) m) l w is f (nI code) = _
        unfold f_X9_best_L34
        obtain rfl : code = (n0 + 1) ^ n2 := by omega
        rw [if_pos (nI_le (by omega) (by omega)), p2_no, Option.bind_some]
        rw [p6_codesF] at h5
        have h5 : f = if (q_B (τ.1 2) n0 n1 n2 n3 n4).1 = 0 then -1 else nI ((q_B (τ.1 2) n0 n1 n2 n3 n4).2 hd) := h5
        by_cases c : (q_B (τ.1 2) n0 n1 n2 n3 n4).1 = 0
        · rw [if_pos c] at h5
          rw [if_pos h5, if_pos c]
        · rw [if_neg c] at h5
          have hwl : (q_B (τ.1 2) n0 n1 n2 n3 n4).2 hd < 2 ^ 31 := by
            have : ∀ N, N ≤ (n0 + 1) ^ n2 → (p6_it (fun x s => p8_bs (q_G0 (τ.1 2) n1 n2 n3 n4) (p6_wc n0 n2 0 q_0 x) s) N (0, q_0)).2 hd < 6 := by
              intro N
              induction N with
              | zero => intro _; exact (by decide : 0 < 6)
              | succ N ih =>
                intro hN
                rw [p6_it]
                unfold p8_bs
                split
                · exact k_w_lt hn0 (q_wc_va N (by omega) hd hhd)
                · exact ih (by omega)
            have := this ((n0 + 1) ^ n2) (Nat.le_refl _)
            rw [p6_codesF] at this
            exact Nat.lt_trans this (by decide)
          rw [if_neg (by rw [h5]; exact p2_nIne _ hwl), if_neg c, h5]
      | succ r ih =>
        intro code m l w is U f h1 h2 h3 h4 h5 h6
        obtain ⟨m, rfl⟩ : ∃ j, m = j + 1 := ⟨m - 1, by omega⟩
        obtain ⟨g, l1, w1, is1, U1, c1, c2, c3, c4, c5, c6⟩ := m_weighs hRB b2 (i_LM0 hRB (τ.2.2 9) (τ.2.2 11)) code (by omega) l w is U h3
        show ∃ l' w' is' U', f_X9_best_L34 (τ.1 2) (τ.1 6) (τ.2.2 0) (τ.2.2 9) (τ.2.2 11) (nI hd) (-1) (-1) (-1) li (nI ((n0 + 1) ^ n2)) (f_X9_best_L34w (τ.1 2) (τ.1 6) (τ.2.2 0) (τ.2.2 9) (τ.2.2 11) (nI hd) (-1) (-1) (-1) li (nI ((n0 + 1) ^ n2)) m) l w is f (nI code) = _ ∧ _ ∧ _
        unfold f_X9_best_L34 f_X9_best_J73
        rw [if_neg (nI_ge (by omega) (by omega)), c1, Option.bind_some, nI_1]
        have e10 := c4 10 (by decide) (by decide)
        have c5 : g = if q_G0 (τ.1 2) n1 n2 n3 n4 (p6_wc n0 n2 0 q_0 code) = 0 then 0 else 1 := c5
        have keep : (p6_it (fun x s => p8_bs (q_G0 (τ.1 2) n1 n2 n3 n4) (p6_wc n0 n2 0 q_0 x) s) (code + 1) (0, q_0)) = p8_bs (q_G0 (τ.1 2) n1 n2 n3 n4) (p6_wc n0 n2 0 q_0 code) (p6_it (fun x s => p8_bs (q_G0 (τ.1 2) n1 n2 n3 n4) (p6_wc n0 n2 0 q_0 x) s) code (0, q_0)) := rfl
        by_cases z : q_G0 (τ.1 2) n1 n2 n3 n4 (p6_wc n0 n2 0 q_0 code) = 0
        · rw [if_pos z] at c5
          rw [p8_bs_z z] at keep
          rw [if_pos c5]
          exact ih (code + 1) m l1 w1 is1 U1 f (by omega) (by omega) c3 (by rw [keep, e10, h4]) (by rw [keep, h5]) (fun s hs => by rw [c4 s (by omega) (by omega), h6 s hs])
        · rw [if_neg z] at c5
          have v5 := c6 z
          have r5 := c3 5 (by decide) (by decide)
          have r10 := c3 10 (by decide) (by decide)
          rw [v5] at r5
          rw [e10, h4] at r10
          rw [if_neg (show ¬ g = 0 by rw [c5]; decide), show f_X9_against l1 w1 5 10 = _ from p4_against (r := 5) (o := 10) (by decide) (by decide) r5 r10, Option.bind_some]
          by_cases lt : (p6_it (fun x s => p8_bs (q_G0 (τ.1 2) n1 n2 n3 n4) (p6_wc n0 n2 0 q_0 x) s) code (0, q_0)).1 < q_G0 (τ.1 2) n1 n2 n3 n4 (p6_wc n0 n2 0 q_0 code)
          · obtain ⟨l3, w3, f1, f2, f3⟩ := p4_takes (r := 10) (o := 5) (by decide) (by decide) (by decide) r5
            rw [if_neg (fun z => i_cmpLe.mp z lt), show f_X9_takes l1 w1 10 5 = _ from f1, Option.bind_some, p2_gd (p2_ib (by omega) (by decide)), p2_ix (n := hd) (by omega), show (g, l1, w1, is1).2.2.2 hd = _ from c2 hd hhd]
            rw [show p8_bs (q_G0 (τ.1 2) n1 n2 n3 n4) (p6_wc n0 n2 0 q_0 code) (p6_it (fun x s => p8_bs (q_G0 (τ.1 2) n1 n2 n3 n4) (p6_wc n0 n2 0 q_0 x) s) code (0, q_0)) = (q_G0 (τ.1 2) n1 n2 n3 n4 (p6_wc n0 n2 0 q_0 code), p6_wc n0 n2 0 q_0 code) from if_pos lt] at keep
            exact ih (code + 1) m l3 w3 is1 _ _ (by omega) (by omega) (c3.set f2 f3) (by rw [keep, p4_us]) (by rw [keep]; exact (if_neg z).symm) (fun s hs => by rw [p4_un (by omega), c4 s (by omega) (by omega), h6 s hs])
          · rw [if_pos (i_cmpLe.mpr lt)]
            rw [show p8_bs (q_G0 (τ.1 2) n1 n2 n3 n4) (p6_wc n0 n2 0 q_0 code) (p6_it (fun x s => p8_bs (q_G0 (τ.1 2) n1 n2 n3 n4) (p6_wc n0 n2 0 q_0 x) s) code (0, q_0)) = _ from if_neg lt] at keep
            exact ih (code + 1) m l1 w1 is1 U1 f (by omega) (by omega) c3 (by rw [keep, e10, h4]) (by rw [keep, h5]) (fun s hs => by rw [c4 s (by omega) (by omega), h6 s hs])
    obtain ⟨l', w', is', U', m1, m2, m3⟩ := loop ((n0 + 1) ^ n2) 0 cx_N0 l2 w2 (τ.1 9) _ (-1) (by omega) (by unfold cx_N0; omega) (hV.set e2 e3) (by rw [p4_us]; rfl) rfl (fun s hs => p4_un (by omega))
    have hF' : i_F (σ.2.1 0) (σ.2.1 1) l' w' := ⟨U', m2, by rw [m3 0 (by decide)]; exact hV0, by rw [m3 1 (by decide)]; exact hV1, by rw [m3 1 (by decide)]; exact hV2⟩
    by_cases hA : q_A (τ.1 2) n0 n1 n2 n3 n4 = 0
    · rw [if_pos ((i_BA (τ.1 2) n0 n1 n2 n3 n4).mpr hA)] at m1
      apply i_ex
      · unfold f_X8_best
        rw [i_has r2.2.1 (by omega), Option.bind_some, if_neg (by rw [p2_b, if_pos hh]; decide), show f_X8_anyWay (σ.2.2 0) (σ.1 2) (σ.2.2 1) (σ.1 3) (σ.2.2 2) (σ.1 4) (σ.2.2 3) (σ.1 5) (σ.2.2 4) (σ.1 6) (σ.2.2 5) (σ.2.2 6) (σ.2.2 29) (σ.2.2 30) (σ.2.2 31) (σ.2.2 32) (σ.2.2 33) (σ.1 24) (σ.1 25) (σ.1 26) (σ.1 27) (σ.1 28) (σ.1 29) (σ.1 30) (σ.1 31) (σ.2.1 4) (σ.2.1 5) (σ.2.1 6) (σ.1 32) (σ.2.1 10) (σ.2.1 11) (σ.2.1 12) (σ.2.1 13) (σ.1 42) (σ.2.1 14) (σ.2.2 39) (σ.2.2 40) 1 = _ from y1, Option.bind_some, if_pos (by rw [y2, p2_b, if_neg (fun q => q hA)]), i_no, Option.bind_some]
      · unfold f_X9_best
        rw [p2_isHead _ r2.2.2.1 hn2, Option.bind_some, if_neg (by rw [p2_b, if_pos hh]; decide), b1, Option.bind_some, show f_X9_sets (τ.1 0) (τ.1 1) 10 0 = _ from e1, Option.bind_some, m_ways hB, Option.bind_some]
        exact m1
      · exact ⟨rfl, ⟨n0, n1, n2, n3, n4, hRB, Or.inr ⟨d, d2, d3, d4, hSM⟩⟩, i_Rup hR 1 (by decide), hK0, hK1, hT, hF', hon, hO2, hsn, hS2⟩
    · have hBn : (q_B (τ.1 2) n0 n1 n2 n3 n4).1 ≠ 0 := fun q => hA ((i_BA (τ.1 2) n0 n1 n2 n3 n4).mp q)
      rw [if_neg hBn] at m1
      have hbw := hSM.2.2.2.2.2.1 hBn hd hhd
      apply i_ex
      · unfold f_X8_best
        rw [i_has r2.2.1 (by omega), Option.bind_some, if_neg (by rw [p2_b, if_pos hh]; decide), show f_X8_anyWay (σ.2.2 0) (σ.1 2) (σ.2.2 1) (σ.1 3) (σ.2.2 2) (σ.1 4) (σ.2.2 3) (σ.1 5) (σ.2.2 4) (σ.1 6) (σ.2.2 5) (σ.2.2 6) (σ.2.2 29) (σ.2.2 30) (σ.2.2 31) (σ.2.2 32) (σ.2.2 33) (σ.1 24) (σ.1 25) (σ.1 26) (σ.1 27) (σ.1 28) (σ.1 29) (σ.1 30) (σ.1 31) (σ.2.1 4) (σ.2.1 5) (σ.2.1 6) (σ.1 32) (σ.2.1 10) (σ.2.1 11) (σ.2.1 12) (σ.2.1 13) (σ.1 42) (σ.2.1 14) (σ.2.2 39) (σ.2.2 40) 1 = _ from y1, Option.bind_some, if_neg (by rw [y2, p2_b, if_pos hA]; decide), p2_gd (p2_ib (by omega) (by decide)), p2_ix (n := hd) (by omega)]
      · unfold f_X9_best
        rw [p2_isHead _ r2.2.2.1 hn2, Option.bind_some, if_neg (by rw [p2_b, if_pos hh]; decide), b1, Option.bind_some, show f_X9_sets (τ.1 0) (τ.1 1) 10 0 = _ from e1, Option.bind_some, m_ways hB, Option.bind_some]
        exact m1
      · exact ⟨hbw, ⟨n0, n1, n2, n3, n4, hRB, Or.inr ⟨d, d2, d3, d4, hSM⟩⟩, hR, hK0, hK1, hT, hF', hon, hO2, hsn, hS2⟩
  · apply i_ex
    · unfold f_X8_best
      rw [i_has r2.2.1 (by omega), Option.bind_some, if_pos (p2_b0.mpr hh), p2_refused2, Option.bind_some]
    · unfold f_X9_best
      rw [p2_isHead _ r2.2.2.1 hn2, Option.bind_some, if_pos (p2_b0.mpr hh), p2_bad, Option.bind_some]
    · exact ⟨rfl, ⟨n0, n1, n2, n3, n4, hRB, hsm⟩, i_Rup hR 0 (by decide), hK0, hK1, hT, hF, hO1, hO2, hS1, hS2⟩
