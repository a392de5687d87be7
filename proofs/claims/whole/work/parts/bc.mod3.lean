section M4
variable {bk : Nat → Int32} {n0 n1 n2 n3 n4 : Nat} {li is : Nat → Int32} {ω : Nat → Nat} {on od : Bool} {p0 y0 sk ea la : Nat} {wo oP oY fi se : Int32}
/-- joins, and the end -/
theorem m_wJoins (hB : q_BK bk n0 n1 n2 n3 n4) (his : ∀ h, h < n2 → is h = nI (ω h) ∧ ω h < 6) (P : Nat) (hP : P < 1073741824 ^ 9) : ∀ (r j m : Nat) (l w : Nat → Int32) (V : Nat → Nat), j + r = n4 → r < m → p4_S l w V → V 5 = P * p6_pr j (p6_jf (k_ja bk) (k_jb bk) (k_jw bk) ω) → ∃ g l' w' V', f_X9_weighs_L408w bk is m l w (nI j) = some (g, l', w', is) ∧ p4_S l' w' V' ∧ (∀ s, s ≠ 5 → V' s = V s) ∧ V' 5 = P * p6_pr n4 (p6_jf (k_ja bk) (k_jb bk) (k_jw bk) ω) ∧ (g = if P * p6_pr n4 (p6_jf (k_ja bk) (k_jb bk) (k_jw bk) ω) = 0 then 0 else 1) := by
  obtain ⟨b0, b1, b2, b3, b4, e0, e1, e2, e3, e4, v0, v1, v2, v3, v4, v5⟩ := id hB
  have q4 : bk (cx_ix 4) = nI n4 := e4
  intro r
  induction r with
  | zero =>
    intro j m l w V h1 h2 hS hV
    obtain ⟨m, rfl⟩ : ∃ j, m = j + 1 := ⟨m - 1, by omega⟩
    have e : j = n4 := by omega
    subst e
    obtain ⟨n5, n5a, n5b, n5c⟩ := p4_wpos (hS 5 (by decide) (by decide))
    refine ⟨_, l, w, V, ?_, hS, fun _ _ => rfl, hV, rfl⟩
    show f_X9_weighs_L408 bk is (f_X9_weighs_L408w bk is m) l w (nI j) = _
    unfold f_X9_weighs_L408
    have q5 : w (cx_ix 5) = nI n5 := n5b
    rw [p2_gd (by decide), q4, if_pos (nI_le (by omega) (by omega)), p2_gd (by decide), q5]
    rw [hV] at n5c
    by_cases hz : P * p6_pr j (p6_jf (k_ja bk) (k_jb bk) (k_jw bk) ω) = 0
    · rw [if_pos hz, if_pos (by rw [n5c.mpr hz]; decide)]
    · rw [if_neg hz, if_neg (nI_nle (by omega) (by omega))]
  | succ r ih =>
    intro j m l w V h1 h2 hS hV
    obtain ⟨m, rfl⟩ : ∃ j, m = j + 1 := ⟨m - 1, by omega⟩
    obtain ⟨a1, a2, a3, a4, a5, a6, a7⟩ := k_join_spec b2 (v4 j (by omega))
    have hjle : p6_jf (k_ja bk) (k_jb bk) (k_jw bk) ω j ≤ 10 := p6_jf_le a6
    have hprle : p6_pr j (p6_jf (k_ja bk) (k_jb bk) (k_jw bk) ω) ≤ 10 ^ 4 := by
      refine Nat.le_trans (p6_pr_le (g := fun _ => 10) (fun i hi => p6_jf_le ?_)) (by rw [p6_pr_const]; exact Nat.pow_le_pow_right (by decide) (by omega))
      obtain ⟨_, _, _, _, _, z, _⟩ := k_join_spec b2 (v4 i (by omega))
      exact z
    have hb : V 5 * p6_jf (k_ja bk) (k_jb bk) (k_jw bk) ω j < 1073741824 ^ 16 := by
      rw [hV]
      have h3 : P * p6_pr j (p6_jf (k_ja bk) (k_jb bk) (k_jw bk) ω) * p6_jf (k_ja bk) (k_jb bk) (k_jw bk) ω j ≤ 1073741824 ^ 9 * 10 ^ 4 * 10 := Nat.mul_le_mul (Nat.mul_le_mul (Nat.le_of_lt hP) hprle) hjle
      exact Nat.lt_of_le_of_lt h3 (by decide)
    obtain ⟨l1, w1, t1, t2, t3⟩ := p4_times (r := 5) (b := p6_jf (k_ja bk) (k_jb bk) (k_jw bk) ω j) (by decide) (by omega) (hS 5 (by decide) (by decide)) hb
    obtain ⟨g, l', w', V', g1, g2, g3, g4, g5⟩ := ih (j + 1) m l1 w1 _ (by omega) (by omega) (hS.set t2 t3) (by rw [p4_us, p6_pr, hV, Nat.mul_assoc])
    refine ⟨g, l', w', V', ?_, g2, fun s hs => by rw [g3 s hs, p4_un hs], g4, g5⟩
    rw [← g1]
    have hx := his (k_ja bk j) a2
    have hy := his (k_jb bk j) a4
    have hx2 := hx.2
    have hy2 := hy.2
    show f_X9_weighs_L408 bk is (f_X9_weighs_L408w bk is m) l w (nI j) = _
    unfold f_X9_weighs_L408 f_X9_weighs_J471 f_X9_weighs_J472 f_X9_weighs_J503
    rw [p2_gd (by decide), q4, if_neg (nI_ge (by omega) (by omega)), show (100 : Int32) = nI 100 from rfl, show (3 : Int32) = nI 3 from rfl, pk_mul, nI_add, nI_1, show (2 : Int32) = nI 2 from rfl, nI_add]
    rw [p2_gd (p2_ib (n := 100 + 3 * j) (by omega) (by decide)), p2_ix (n := 100 + 3 * j) (by omega), p2_ix (n := 100 + 3 * j + 1) (by omega), p2_ix (n := 100 + 3 * j + 2) (by omega), show bk (100 + 3 * j) = nI (k_ja bk j) from a1, a3, a5, p2_gd (p2_ib (n := k_ja bk j) (by omega) (by decide)), p2_gd (p2_ib (n := 100 + 3 * j + 1) (by omega) (by decide)), p2_gd (p2_ib (n := k_jb bk j) (by omega) (by decide)), p2_ix (n := k_ja bk j) (by omega), p2_ix (n := k_jb bk j) (by omega), hx.1, hy.1]
    have e10 : (10 : Int32) - nI (k_jw bk j) = nI (10 - k_jw bk j) := by rw [show (10 : Int32) = nI 10 from rfl, pk_sub a6]
    have ejf : p6_jf (k_ja bk) (k_jb bk) (k_jw bk) ω j = if ω (k_ja bk j) = ω (k_jb bk j) ∧ ω (k_ja bk j) ≠ 5 then k_jw bk j else 10 - k_jw bk j := rfl
    rw [ejf] at t1
    by_cases c1 : ω (k_ja bk j) = ω (k_jb bk j)
    · rw [if_pos (by rw [c1]), p2_gd (p2_ib (n := 100 + 3 * j) (by omega) (by decide)), p2_gd (p2_ib (n := k_ja bk j) (by omega) (by decide))]
      by_cases c5 : ω (k_ja bk j) = 5
      · rw [if_neg (fun z => z.2 c5)] at t1
        rw [if_pos ((k_5 hx2).mpr c5), if_pos rfl, p2_gd (p2_ib (n := 100 + 3 * j + 2) (by omega) (by decide)), e10, show f_X9_times l w 5 (nI (10 - k_jw bk j)) = _ from t1, Option.bind_some, nI_1]
      · rw [if_pos ⟨c1, c5⟩] at t1
        rw [if_neg (fun q => c5 ((k_5 hx2).mp q)), if_neg (by decide), p2_gd (p2_ib (n := 100 + 3 * j + 2) (by omega) (by decide)), show f_X9_times l w 5 (nI (k_jw bk j)) = _ from t1, Option.bind_some, nI_1]
    · rw [if_neg (fun z => c1 z.1)] at t1
      rw [if_neg (fun q => c1 ((nI_eq (by omega) (by omega)).mp q)), if_pos rfl, p2_gd (p2_ib (n := 100 + 3 * j + 2) (by omega) (by decide)), e10, show f_X9_times l w 5 (nI (10 - k_jw bk j)) = _ from t1, Option.bind_some, nI_1]
/-- names -/
theorem m_wNames {c0 c1 c2 c3 c4 : Nat → Int32} {z0 z1 z2 z3 z4 sg : Int32} (hRB : p2_RB c0 z0 c1 z1 c2 z2 c3 z3 c4 z4 sg bk n0 n1 n2 n3 n4) (his : ∀ h, h < n2 → is h = nI (ω h) ∧ ω h < 6) (hwo : ∀ n, n < n3 → (nI n = wo ↔ n = sk)) (P : Nat) (hP : P < 1073741824 ^ 8) : ∀ (r n m : Nat) (l w : Nat → Int32) (V : Nat → Nat), n + r = n3 → r < m → p4_S l w V → V 5 = P * p6_pr n (fun n => k_nf bk sk n (ω (k_nh bk n))) → ∃ g l' w' V', f_X9_weighs_L267w bk wo is m l w (nI n) = some (g, l', w', is) ∧ p4_S l' w' V' ∧ (∀ s, s ≠ 5 → V' s = V s) ∧ V' 5 = P * p6_pr n3 (fun n => k_nf bk sk n (ω (k_nh bk n))) * p6_pr n4 (p6_jf (k_ja bk) (k_jb bk) (k_jw bk) ω) ∧ (g = if P * p6_pr n3 (fun n => k_nf bk sk n (ω (k_nh bk n))) * p6_pr n4 (p6_jf (k_ja bk) (k_jb bk) (k_jw bk) ω) = 0 then 0 else 1) := by
  have hB := q_BK_of hRB
  obtain ⟨b0, b1, b2, b3, b4, e0, e1, e2, e3, e4, v0, v1, v2, v3, v4, v5⟩ := id hB
  have q3 : bk (cx_ix 3) = nI n3 := e3
  have nfle : ∀ i, i < n3 → k_nf bk sk i (ω (k_nh bk i)) ≤ 10 := fun i hi => k_nf_le (k_tr_spec b0 v0 (v3 i hi)).2
  have hprle : ∀ n, n ≤ n3 → p6_pr n (fun n => k_nf bk sk n (ω (k_nh bk n))) ≤ 10 ^ 4 := fun n hn => by
    refine Nat.le_trans (p6_pr_le (g := fun _ => 10) (fun i hi => nfle i (by omega))) (by rw [p6_pr_const]; exact Nat.pow_le_pow_right (by decide) (by omega))
  intro r
  induction r with
  | zero =>
    intro n m l w V h1 h2 hS hV
    obtain ⟨m, rfl⟩ : ∃ j, m = j + 1 := ⟨m - 1, by omega⟩
    have e : n = n3 := by omega
    subst e
    have hb : P * p6_pr n (fun n => k_nf bk sk n (ω (k_nh bk n))) < 1073741824 ^ 9 := by
      have := Nat.mul_le_mul (Nat.le_of_lt hP) (hprle n (Nat.le_refl _))
      exact Nat.lt_of_le_of_lt this (by decide)
    obtain ⟨g, l', w', V', g1, g2, g3, g4, g5⟩ := m_wJoins hB his (P * p6_pr n (fun n => k_nf bk sk n (ω (k_nh bk n)))) hb n4 0 cx_N0 l w V (by omega) (by unfold cx_N0; omega) hS (by rw [hV, p6_pr, Nat.mul_one])
    refine ⟨g, l', w', V', ?_, g2, g3, g4, g5⟩
    rw [← g1]
    show f_X9_weighs_L267 bk wo is (f_X9_weighs_L267w bk wo is m) l w (nI n) = _
    unfold f_X9_weighs_L267
    rw [p2_gd (by decide), q3, if_pos (nI_le (by omega) (by omega))]
    rfl
  | succ r ih =>
    intro n m l w V h1 h2 hS hV
    obtain ⟨m, rfl⟩ : ∃ j, m = j + 1 := ⟨m - 1, by omega⟩
    obtain ⟨a1, a2, a3, a4, a5, a6, a7, a8⟩ := k_name_spec (v3 n (by omega))
    obtain ⟨tr1, tr2⟩ := k_tr_spec b0 v0 (v3 n (by omega))
    have htr := (p2_truth hRB n (by omega)).2
    have hle := nfle n (by omega)
    have hb : V 5 * k_nf bk sk n (ω (k_nh bk n)) < 1073741824 ^ 16 := by
      rw [hV]
      have h3 : P * p6_pr n (fun n => k_nf bk sk n (ω (k_nh bk n))) * k_nf bk sk n (ω (k_nh bk n)) ≤ 1073741824 ^ 8 * 10 ^ 4 * 10 := Nat.mul_le_mul (Nat.mul_le_mul (Nat.le_of_lt hP) (hprle n (by omega))) hle
      exact Nat.lt_of_le_of_lt h3 (by decide)
    have hx := his (k_nh bk n) a4
    have hx2 := hx.2
    have J400 : ∀ (l1 w1 : Nat → Int32) (V1 : Nat → Nat), p4_S l1 w1 V1 → V1 5 = V 5 * k_nf bk sk n (ω (k_nh bk n)) → (∀ s, s ≠ 5 → V1 s = V s) → ∃ g l' w' V', f_X9_weighs_J400 (nI n) (f_X9_weighs_L267w bk wo is m) l1 w1 = some (g, l', w', is) ∧ p4_S l' w' V' ∧ (∀ s, s ≠ 5 → V' s = V s) ∧ V' 5 = P * p6_pr n3 (fun n => k_nf bk sk n (ω (k_nh bk n))) * p6_pr n4 (p6_jf (k_ja bk) (k_jb bk) (k_jw bk) ω) ∧ (g = if P * p6_pr n3 (fun n => k_nf bk sk n (ω (k_nh bk n))) * p6_pr n4 (p6_jf (k_ja bk) (k_jb bk) (k_jw bk) ω) = 0 then 0 else 1) := by
      intro l1 w1 V1 hS1 hV1 hV2
      obtain ⟨g, l', w', V', g1, g2, g3, g4, g5⟩ := ih (n + 1) m l1 w1 V1 (by omega) (by omega) hS1 (by rw [hV1, hV, p6_pr, Nat.mul_assoc])
      refine ⟨g, l', w', V', ?_, g2, fun s hs => by rw [g3 s hs, hV2 s hs], g4, g5⟩
      unfold f_X9_weighs_J400
      rw [nI_1]
      exact g1
    have J364 : ∀ so : Bool, (so = true ↔ k_so bk n (ω (k_nh bk n)) = true) → ∃ g l' w' V', f_X9_weighs_J364 bk wo l w (nI n) (f_X9_weighs_L267w bk wo is m) (p2_b (so = true)) = some (g, l', w', is) ∧ p4_S l' w' V' ∧ (∀ s, s ≠ 5 → V' s = V s) ∧ V' 5 = P * p6_pr n3 (fun n => k_nf bk sk n (ω (k_nh bk n))) * p6_pr n4 (p6_jf (k_ja bk) (k_jb bk) (k_jw bk) ω) ∧ (g = if P * p6_pr n3 (fun n => k_nf bk sk n (ω (k_nh bk n))) * p6_pr n4 (p6_jf (k_ja bk) (k_jb bk) (k_jw bk) ω) = 0 then 0 else 1) := by
      intro so hso
      unfold f_X9_weighs_J364 f_X9_weighs_J397
      by_cases hs : n = sk
      · rw [if_pos ((hwo n (by omega)).mpr hs)]
        refine J400 l w V hS ?_ (fun _ _ => rfl)
        unfold k_nf
        rw [if_pos hs, Nat.mul_one]
      · rw [if_neg (fun q => hs ((hwo n (by omega)).mp q)), p4_bt, htr, Option.bind_some, Option.bind_some, tr1]
        have enf : k_nf bk sk n (ω (k_nh bk n)) = if k_so bk n (ω (k_nh bk n)) = true then k_tr bk n else 10 - k_tr bk n := by
          unfold k_nf
          rw [if_neg hs]
        obtain ⟨l1, w1, t1, t2, t3⟩ := p4_times (r := 5) (b := k_nf bk sk n (ω (k_nh bk n))) (by decide) (by omega) (hS 5 (by decide) (by decide)) hb
        have C := J400 l1 w1 _ (hS.set t2 t3) p4_us (fun s hs => p4_un hs)
        have e10 : (10 : Int32) - nI (k_tr bk n) = nI (10 - k_tr bk n) := by rw [show (10 : Int32) = nI 10 from rfl, pk_sub tr2]
        by_cases ho : so = true
        · rw [if_pos ho]
          rw [enf, if_pos (hso.mp ho)] at t1
          rw [show f_X9_times l w 5 (nI (k_tr bk n)) = _ from t1, Option.bind_some]
          exact C
        · rw [if_neg ho]
          rw [enf, if_neg (fun q => ho (hso.mpr q))] at t1
          rw [e10, show f_X9_times l w 5 (nI (10 - k_tr bk n)) = _ from t1, Option.bind_some]
          exact C
    have st : f_X9_weighs_L267w bk wo is (m + 1) l w (nI n) = f_X9_weighs_L267 bk wo is (f_X9_weighs_L267w bk wo is m) l w (nI n) := rfl
    rw [st]
    unfold f_X9_weighs_L267 f_X9_weighs_J359 f_X9_weighs_J363
    rw [p2_gd (by decide), q3, if_neg (nI_ge (by omega) (by omega)), show (80 : Int32) = nI 80 from rfl, show (4 : Int32) = nI 4 from rfl, pk_mul, nI_add, nI_1, show (2 : Int32) = nI 2 from rfl, show (3 : Int32) = nI 3 from rfl, nI_add, nI_add]
    rw [p2_gd (p2_ib (n := 80 + 4 * n + 1) (by omega) (by decide)), p2_ix (n := 80 + 4 * n) (by omega), p2_ix (n := 80 + 4 * n + 1) (by omega), p2_ix (n := 80 + 4 * n + 2) (by omega), p2_ix (n := 80 + 4 * n + 3) (by omega), a3, p2_gd (p2_ib (n := k_nh bk n) (by omega) (by decide)), p2_ix (n := k_nh bk n) (by omega), hx.1]
    simp only [cx_let]
    rw [p2_gd (p2_ib (n := 80 + 4 * n) (by omega) (by decide)), show bk (80 + 4 * n) = nI (k_nk bk n) from a1, a5, a7]
    have hso := k_so_iff (bk := bk) (n := n) (w := ω (k_nh bk n))
    by_cases c4 : k_nk bk n = 4
    · rw [if_pos (by rw [c4])]
      by_cases c5 : ω (k_nh bk n) = 5
      · rw [if_pos ((k_5 hx2).mpr c5)]
        exact J364 true ⟨fun _ => hso.mpr (Or.inl ⟨c4, c5⟩), fun _ => rfl⟩
      · rw [if_neg (fun q => c5 ((k_5 hx2).mp q))]
        exact J364 false ⟨fun q => (by cases q), fun q => by rcases hso.mp q with ⟨_, z⟩ | ⟨z, _⟩; exact absurd z c5; exact absurd c4 z⟩
    · rw [if_neg (fun q => c4 ((nI_eq (by omega) (by omega)).mp q)), p2_gd (p2_ib (n := 80 + 4 * n + 2) (by omega) (by decide))]
      by_cases cp : ω (k_nh bk n) = k_np bk n
      · rw [if_pos (by rw [cp])]
        exact J364 true ⟨fun _ => hso.mpr (Or.inr ⟨c4, Or.inl cp⟩), fun _ => rfl⟩
      · rw [if_neg (fun q => cp ((nI_eq (by omega) (by omega)).mp q)), p2_gd (p2_ib (n := 80 + 4 * n) (by omega) (by decide))]
        by_cases c3 : k_nk bk n = 3
        · rw [if_pos (by rw [c3]), p2_gd (p2_ib (n := 80 + 4 * n + 3) (by omega) (by decide))]
          by_cases cq : ω (k_nh bk n) = k_nq bk n
          · rw [if_pos (by rw [cq])]
            exact J364 true ⟨fun _ => hso.mpr (Or.inr ⟨c4, Or.inr ⟨c3, cq⟩⟩), fun _ => rfl⟩
          · rw [if_neg (fun q => cq ((nI_eq (by omega) (by omega)).mp q))]
            exact J364 false ⟨fun q => (by cases q), fun q => by rcases hso.mp q with ⟨z, _⟩ | ⟨_, z | ⟨_, z⟩⟩; exact absurd z c4; exact absurd z cp; exact absurd z cq⟩
        · rw [if_neg (fun q => c3 ((nI_eq (by omega) (by omega)).mp q))]
          exact J364 false ⟨fun q => (by cases q), fun q => by rcases hso.mp q with ⟨z, _⟩ | ⟨_, z | ⟨z, _⟩⟩; exact absurd z c4; exact absurd z cp; exact absurd z c3⟩
end M4
