/-! SUMUP: what is planned ahead of it -/
theorem p9_fillI (n : Nat) (v : Int32) (hN : n < 2 ^ 31) : ∀ (r i m : Nat) (a : Nat → Int32), i + r = n → r < m → ∃ a', f_J7_fill_53178_L5w n v (nI n) m a (nI i) = some a' ∧ (∀ j, i ≤ j → j < n → a' j = v) ∧ (∀ j, (j < i ∨ n ≤ j) → a' j = a j) := by
  intro r
  induction r with
  | zero =>
    intro i m a h1 h2
    obtain ⟨m, rfl⟩ : ∃ j, m = j + 1 := ⟨m - 1, by omega⟩
    refine ⟨a, ?_, fun j h h' => by omega, fun _ _ => rfl⟩
    show f_J7_fill_53178_L5 n v (nI n) (f_J7_fill_53178_L5w n v (nI n) m) a (nI i) = _
    unfold f_J7_fill_53178_L5
    rw [if_pos (nI_le (by omega) (by omega))]
  | succ r ih =>
    intro i m a h1 h2
    obtain ⟨m, rfl⟩ : ∃ j, m = j + 1 := ⟨m - 1, by omega⟩
    obtain ⟨a', g1, g2, g3⟩ := ih (i + 1) m (upd a i v) (by omega) (by omega)
    refine ⟨a', ?_, fun j h h' => ?_, fun j hj => by rw [g3 j (by omega), p2_un (by omega)]⟩
    · rw [← g1]
      show f_J7_fill_53178_L5 n v (nI n) (f_J7_fill_53178_L5w n v (nI n) m) a (nI i) = _
      unfold f_J7_fill_53178_L5
      rw [if_neg (nI_ge (by omega) (by omega)), p2_gd (p2_ib (by omega) hN), p2_ix (n := i) (by omega), nI_1]
      rfl
    · by_cases e : j = i
      · subst e; rw [g3 _ (by omega), p2_us]
      · exact g2 j (by omega) h'
theorem p9_fillL (n : Nat) (v : Int64) (hN : n < 2 ^ 31) : ∀ (r i m : Nat) (a : Nat → Int64), i + r = n → r < m → ∃ a', f_J7_fill_d0a16_L6w n v (nI n) m a (nI i) = some a' ∧ (∀ j, i ≤ j → j < n → a' j = v) ∧ (∀ j, (j < i ∨ n ≤ j) → a' j = a j) := by
  intro r
  induction r with
  | zero =>
    intro i m a h1 h2
    obtain ⟨m, rfl⟩ : ∃ j, m = j + 1 := ⟨m - 1, by omega⟩
    refine ⟨a, ?_, fun j h h' => by omega, fun _ _ => rfl⟩
    show f_J7_fill_d0a16_L6 n v (nI n) (f_J7_fill_d0a16_L6w n v (nI n) m) a (nI i) = _
    unfold f_J7_fill_d0a16_L6
    rw [if_pos (nI_le (by omega) (by omega))]
  | succ r ih =>
    intro i m a h1 h2
    obtain ⟨m, rfl⟩ : ∃ j, m = j + 1 := ⟨m - 1, by omega⟩
    obtain ⟨a', g1, g2, g3⟩ := ih (i + 1) m (vp_updL a i v) (by omega) (by omega)
    refine ⟨a', ?_, fun j h h' => ?_, fun j hj => by rw [g3 j (by omega), p3_uLn (by omega)]⟩
    · rw [← g1]
      show f_J7_fill_d0a16_L6 n v (nI n) (f_J7_fill_d0a16_L6w n v (nI n) m) a (nI i) = _
      unfold f_J7_fill_d0a16_L6
      rw [if_neg (nI_ge (by omega) (by omega)), p2_gd (p2_ib (by omega) hN), p2_ix (n := i) (by omega), nI_1]
      rfl
    · by_cases e : j = i
      · subst e; rw [g3 _ (by omega), p3_uLs]
      · exact g2 j (by omega) h'
theorem p9_fill {n : Nat} (x : Nat → Int64) (hN : n < 2 ^ 31) : ∃ x', f_J7_fill_d0a16 n x 0 = some x' ∧ ∀ j, j < n → x' j = 0 := by
  obtain ⟨a', g1, g2, _⟩ := p9_fillL n 0 hN n 0 cx_N0 x (by omega) (by unfold cx_N0; omega)
  exact ⟨a', g1, fun j hj => g2 j (by omega) hj⟩
theorem p9_U0 {x : Nat → Int64} {i : Nat} (h : ∀ k, k < 4 → x (i * 4 + k) = 0) : p3_U x i 0 0 := ⟨fun _ => 0, fun k hk => ⟨by rw [h k hk]; rfl, Nat.le_refl _⟩, rfl⟩
/-- empty -/
theorem p9_empty (np d : Nat) (to sh pa cr bt : Nat → Int64) (z0 z2 : Int32) (hd : d ≤ 2) (hnp : np < 2 ^ 31) (hp2 : d = 2 → np = 5184) : ∃ to' sh' pa' cr' bt', f_X5_empty np to sh pa cr bt z0 z2 (nI d) = some (z0, z2, to', sh', pa', cr', bt') ∧ p3_N to' 0 0 ∧ p3_N bt' 0 0 ∧ (1 ≤ d → p8_S2 sh' (fun _ _ => 0) 0 ∧ p8_C1 cr' (fun _ => 0) 0) ∧ (d = 2 → p8_P4 pa' (fun _ _ _ _ => 0) 0) ∧ (d = 0 → sh' = sh ∧ cr' = cr) ∧ (d ≠ 2 → pa' = pa) := by
  obtain ⟨to', a1, a2, a3⟩ := p3_zero (n := 4) (i := 0) to (by decide) (by decide)
  obtain ⟨bt', b1, b2, b3⟩ := p3_zero (n := 4) (i := 0) bt (by decide) (by decide)
  have J : ∀ sh1 cr1, ∃ pa', f_X5_empty_J46 np pa z0 z2 (nI d) to' sh1 cr1 bt' = some (z0, z2, to', sh1, pa', cr1, bt') ∧ (d = 2 → p8_P4 pa' (fun _ _ _ _ => 0) 0) ∧ (d ≠ 2 → pa' = pa) := by
    intro sh1 cr1
    unfold f_X5_empty_J46
    by_cases h2 : d = 2
    · obtain ⟨pa', c1, c2⟩ := p9_fill (n := np) pa hnp
      have e := hp2 h2
      refine ⟨pa', ?_, fun _ => ?_, fun q => absurd h2 q⟩
      · rw [if_pos (by rw [h2]; rfl), c1, Option.bind_some]
      · intro e v k w h1 h2 h3 h4
        exact p9_U0 (fun t ht => c2 _ (by omega))
    · refine ⟨pa, ?_, fun q => absurd q h2, fun _ => rfl⟩
      rw [if_neg]
      intro q
      exact h2 ((nI_eq (b := 2) (by omega) (by decide)).mp q)
  unfold f_X5_empty
  rw [show f_X3_zero 4 to 0 = _ from a1, Option.bind_some, show f_X3_zero 4 bt 0 = _ from b1, Option.bind_some]
  by_cases h0 : d = 0
  · obtain ⟨pa', j1, j2, j3⟩ := J sh cr
    refine ⟨to', sh, pa', cr, bt', ?_, a3, b3, fun q => by omega, j2, fun _ => ⟨rfl, rfl⟩, j3⟩
    rw [if_pos (by rw [h0]; decide)]
    exact j1
  · obtain ⟨sh', c1, c2⟩ := p9_fill (n := 144) sh (by decide)
    obtain ⟨cr', d1, d2⟩ := p9_fill (n := 128) cr (by decide)
    obtain ⟨pa', j1, j2, j3⟩ := J sh' cr'
    refine ⟨to', sh', pa', cr', bt', ?_, a3, b3, fun _ => ⟨fun k w hk hw => p9_U0 (fun t ht => c2 _ (by omega)), fun c hc => p9_U0 (fun t ht => d2 _ (by omega))⟩, j2, fun q => absurd q h0, j3⟩
    rw [if_neg (nI_nle (by omega) (by omega)), c1, Option.bind_some, d1, Option.bind_some]
    exact j1
/-- placeHeads -/
theorem p9_place {bk c2 : Nat → Int32} {z2 : Int32} {n1 n2 : Nat} (hr2 : p2_rr 5 6 50 2 n2 c2 z2 bk) (hV : ∀ h, h < n2 → p2_V2 bk n1 h) (hn1 : n1 ≤ 4) (pl bf cl : Nat → Int32) : ∃ pl' bf' cl', f_X7_placeHeads pl bf cl c2 z2 = some (pl', bf', cl') ∧ (∀ h, h < n2 → pl' h = nI (k_hp bk h) ∧ bf' h = nI (p6_cl (k_hp bk) h (k_hp bk h))) ∧ (∀ p, p < 4 → cl' p = nI (p6_cl (k_hp bk) n2 p)) := by
  have hn2 := hr2.1
  have hz2 := hr2.2.1
  obtain ⟨cl0, a1, a2, _⟩ := p9_fillI 4 6 (by decide) 4 0 cx_N0 cl (by omega) (by unfold cx_N0; omega)
  have loop : ∀ (r h m : Nat) (pl bf cl : Nat → Int32), h + r = n2 → r < m → (∀ e, e < h → pl e = nI (k_hp bk e) ∧ bf e = nI (p6_cl (k_hp bk) e (k_hp bk e))) → (∀ p, p < 4 → cl p = nI (p6_cl (k_hp bk) h p)) → ∃ pl' bf' cl', f_X7_placeHeads_L11w c2 z2 m pl bf cl (nI h) = some (pl', bf', cl') ∧ (∀ h, h < n2 → pl' h = nI (k_hp bk h) ∧ bf' h = nI (p6_cl (k_hp bk) h (k_hp bk h))) ∧ (∀ p, p < 4 → cl' p = nI (p6_cl (k_hp bk) n2 p)) := by
    intro r
    induction r with
    | zero =>
      intro h m pl bf cl h1 h2 h3 h4
      obtain ⟨m, rfl⟩ : ∃ j, m = j + 1 := ⟨m - 1, by omega⟩
      have e : h = n2 := by omega
      subst e
      refine ⟨pl, bf, cl, ?_, h3, h4⟩
      show f_X7_placeHeads_L11 c2 z2 (f_X7_placeHeads_L11w c2 z2 m) pl bf cl (nI h) = _
      unfold f_X7_placeHeads_L11
      rw [hz2, if_pos (nI_le (by omega) (by omega))]
    | succ r ih =>
      intro h m pl bf cl h1 h2 h3 h4
      obtain ⟨m, rfl⟩ : ∃ j, m = j + 1 := ⟨m - 1, by omega⟩
      obtain ⟨v1, v2⟩ := k_hp_spec (hV h (by omega))
      have p0 : f_X4_at 5 30 c2 z2 (nI h) 0 = some (nI (k_hp bk h)) := by rw [← v1]; exact p2_atH hr2 h 0 (by omega) (by decide)
      obtain ⟨pl', bf', cl', g1, g2, g3⟩ := ih (h + 1) m (upd pl h (nI (k_hp bk h))) (upd bf h (cl (k_hp bk h))) (upd cl (k_hp bk h) (nI h)) (by omega) (by omega) (fun e he => by
        by_cases q : e = h
        · subst q
          rw [p2_us, p2_us]
          exact ⟨rfl, h4 _ (by omega)⟩
        · rw [p2_un q, p2_un q]
          exact h3 e (by omega)) (fun p hp => by
        rw [p6_cl]
        by_cases q : k_hp bk h = p
        · rw [if_pos q, ← q, p2_us]
        · rw [if_neg q, p2_un (fun z => q z.symm)]
          exact h4 p hp)
      refine ⟨pl', bf', cl', ?_, g2, g3⟩
      rw [← g1]
      show f_X7_placeHeads_L11 c2 z2 (f_X7_placeHeads_L11w c2 z2 m) pl bf cl (nI h) = _
      unfold f_X7_placeHeads_L11
      have hz : ¬ z2 ≤ nI h := by rw [hz2]; exact nI_ge (by omega) (by omega)
      rw [if_neg hz, p0, Option.bind_some, p2_gd (p2_ib (by omega) (by decide)), p2_ix (n := h) (by omega)]
      simp only [cx_let]
      rw [p2_gd (p2_ib (by omega) (by decide)), p2_gd (p2_ib (by omega) (by decide)), p2_ix (n := k_hp bk h) (by omega)]
      rw [p2_gd (p2_ib (by omega) (by decide)), nI_1]
  unfold f_X7_placeHeads
  rw [show f_J7_fill_53178 4 cl 6 = _ from a1, Option.bind_some]
  exact loop n2 0 cx_N0 pl bf cl0 (by omega) (by unfold cx_N0; omega) (fun e he => by omega) (fun p hp => a2 p (by omega) hp)
