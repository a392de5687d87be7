section M5
variable {bk : Nat → Int32} {n0 n1 n2 n3 n4 : Nat} {li is : Nat → Int32} {ω : Nat → Nat} {on od : Bool} {p0 y0 sk ea la : Nat} {wo oP oY fi se : Int32}
theorem m_sum1 (hB : q_BK bk n0 n1 n2 n3 n4) (hLI : q_LI bk n0 n2 li) (his : ∀ h, h < n2 → is h = nI (ω h) ∧ k_w n0 (ω h)) (hLM : q_LM bk n1 n3 on p0 y0 sk od ea la wo oP oY fi se) (p : Nat) (hp : p < n1) (rc : (Nat → Int32) → (Nat → Int32) → Int32 → Option (Int32 × (Nat → Int32) × (Nat → Int32) × (Nat → Int32))) (l w : Nat → Int32) : f_X9_weighs_J58 bk li oP oY l w is (nI p) rc 0 = f_X9_weighs_J245 l w is (nI p) rc (lN (p6_PS (k_hp bk) (q_L bk (q_fy bk n1 on p0 y0)) (q_yc bk n1 on p0) n2 ω p)) := by
  obtain ⟨b0, b1, b2, b3, b4, e0, e1, e2, e3, e4, v0, v1, v2, v3, v4, v5⟩ := id hB
  obtain ⟨l1, l2, l3, l4, l5, l6⟩ := hLM
  obtain ⟨y1, y2, y3, y4, y5⟩ := m_years hB p hp
  have hoP : nI p = oP ↔ on = true ∧ p = p0 := by
    by_cases ho : on = true
    · obtain ⟨z1, z2, z3, z4⟩ := l2 ho
      rw [z1]
      exact ⟨fun q => ⟨ho, (nI_eq (by omega) (by omega)).mp q⟩, fun q => by rw [q.2]⟩
    · rw [l3 (by simpa using ho)]
      exact ⟨fun q => absurd q (p2_nIne p (by omega)), fun q => absurd q.1 ho⟩
  have loop : ∀ (r y m : Nat), y + r = k_to bk p - k_fr bk p + 1 → r < m → f_X9_weighs_L61w bk li oP oY l w is (nI p) rc m (lN (p6_sm y (fun y => if on = true ∧ p = p0 then (if y = y0 then p6_T (k_hp bk) (q_L bk (k_fr bk)) ω n2 p y else 0) else p6_T (k_hp bk) (q_L bk (k_fr bk)) ω n2 p y))) (nI y) = f_X9_weighs_J245 l w is (nI p) rc (lN (p6_sm (k_to bk p - k_fr bk p + 1) (fun y => if on = true ∧ p = p0 then (if y = y0 then p6_T (k_hp bk) (q_L bk (k_fr bk)) ω n2 p y else 0) else p6_T (k_hp bk) (q_L bk (k_fr bk)) ω n2 p y))) := by
    intro r
    induction r with
    | zero =>
      intro y m h1 h2
      obtain ⟨m, rfl⟩ : ∃ j, m = j + 1 := ⟨m - 1, by omega⟩
      show f_X9_weighs_L61 bk li oP oY l w is (nI p) rc (f_X9_weighs_L61w bk li oP oY l w is (nI p) rc m) _ (nI y) = _
      unfold f_X9_weighs_L61
      rw [y1, Option.bind_some, if_pos (nI_le (by omega) (by omega)), show y = k_to bk p - k_fr bk p + 1 by omega]
    | succ r ih =>
      intro y m h1 h2
      obtain ⟨m, rfl⟩ : ∃ j, m = j + 1 := ⟨m - 1, by omega⟩
      rw [← ih (y + 1) m (by omega) (by omega), p6_sm]
      have ht := m_termOf hB hLI his p y hp (by omega)
      show f_X9_weighs_L61 bk li oP oY l w is (nI p) rc (f_X9_weighs_L61w bk li oP oY l w is (nI p) rc m) _ (nI y) = _
      unfold f_X9_weighs_L61 f_X9_weighs_J89 f_X9_weighs_J100
      rw [y1, Option.bind_some, if_neg (nI_ge (by omega) (by omega)), ht, Option.bind_some, nI_1]
      by_cases c : on = true ∧ p = p0
      · obtain ⟨z1, z2, z3, z4⟩ := l2 c.1
        rw [if_pos (hoP.mpr c), if_pos c, z2]
        rw [← c.2] at z4
        by_cases cy : y = y0
        · rw [if_pos (by rw [cy]), if_pos cy, lN_add]
        · rw [if_neg (fun q => cy ((nI_eq (by omega) (by omega)).mp q)), if_neg cy, show (0 : Int64) = lN 0 from rfl, lN_add]
      · rw [if_neg (fun q => c (hoP.mp q)), if_neg c, lN_add]
  unfold f_X9_weighs_J58
  refine (loop (k_to bk p - k_fr bk p + 1) 0 cx_N0 (by omega) (by unfold cx_N0; omega)).trans ?_
  congr 2
  unfold p6_PS q_yc
  rw [if_pos hp]
  by_cases c : on = true ∧ p = p0
  · obtain ⟨z1, z2, z3, z4⟩ := l2 c.1
    rw [← c.2] at z4
    rw [if_pos c, p6_sm_single (k := y0) z4 (fun i _ hi => by rw [if_pos c, if_neg hi]), if_pos c, if_pos rfl, p6_sm, p6_sm, Nat.zero_add, q_T hB p 0 hp, q_of, if_pos c, Nat.add_zero]
  · rw [if_neg c]
    refine p6_sm_congr (fun y _ => ?_)
    rw [if_neg c, q_T hB p y hp, q_of, if_neg c, Nat.zero_add]
theorem m_sum2 (hB : q_BK bk n0 n1 n2 n3 n4) (hLI : q_LI bk n0 n2 li) (his : ∀ h, h < n2 → is h = nI (ω h) ∧ k_w n0 (ω h)) (hLM : q_LM bk n1 n3 on p0 y0 sk od ea la wo oP oY fi se) (ho : od = true) (rc : (Nat → Int32) → (Nat → Int32) → Int32 → Option (Int32 × (Nat → Int32) × (Nat → Int32) × (Nat → Int32))) (l w : Nat → Int32) : f_X9_weighs_L122w bk li fi se l w is (nI ea) rc cx_N0 0 0 = f_X9_weighs_J245 l w is (nI ea) rc (lN (p6_PO (k_hp bk) (q_L bk (q_fy bk n1 on p0 y0)) (q_yc bk n1 on p0) (q_fy bk n1 on p0 y0) n2 ea la ω)) := by
  obtain ⟨b0, b1, b2, b3, b4, e0, e1, e2, e3, e4, v0, v1, v2, v3, v4, v5⟩ := id hB
  obtain ⟨l1, l2, l3, l4, l5, l6⟩ := hLM
  obtain ⟨q1, q2, q3, q4, q5⟩ := l4 ho
  have hon := l6 ho
  obtain ⟨a1, a2, a3, a4, a5⟩ := m_years hB ea q3
  obtain ⟨c1, c2, c3, c4, c5⟩ := m_years hB la q4
  have inner : ∀ (y A : Nat), y < k_to bk ea - k_fr bk ea + 1 → ∀ (rc2 : Int64 → Int32 → Option (Int32 × (Nat → Int32) × (Nat → Int32) × (Nat → Int32))) (r z m : Nat), z + r = k_to bk la - k_fr bk la + 1 → r < m → f_X9_weighs_L138w bk li fi se is (nI y) rc2 m (lN (A + p6_sm z (fun z => if k_fr bk ea + y < k_fr bk la + z then p6_T (k_hp bk) (q_L bk (k_fr bk)) ω n2 ea y * p6_T (k_hp bk) (q_L bk (k_fr bk)) ω n2 la z else 0))) (nI z) = rc2 (lN (A + p6_sm (k_to bk la - k_fr bk la + 1) (fun z => if k_fr bk ea + y < k_fr bk la + z then p6_T (k_hp bk) (q_L bk (k_fr bk)) ω n2 ea y * p6_T (k_hp bk) (q_L bk (k_fr bk)) ω n2 la z else 0))) (nI (y + 1)) := by
    intro y A hy rc2 r
    induction r with
    | zero =>
      intro z m h1 h2
      obtain ⟨m, rfl⟩ : ∃ j, m = j + 1 := ⟨m - 1, by omega⟩
      show f_X9_weighs_L138 bk li fi se is (nI y) rc2 (f_X9_weighs_L138w bk li fi se is (nI y) rc2 m) _ (nI z) = _
      unfold f_X9_weighs_L138
      rw [q2, c1, Option.bind_some, if_pos (nI_le (by omega) (by omega)), show z = k_to bk la - k_fr bk la + 1 by omega, nI_1]
    | succ r ih =>
      intro z m h1 h2
      obtain ⟨m, rfl⟩ : ∃ j, m = j + 1 := ⟨m - 1, by omega⟩
      rw [← ih (z + 1) m (by omega) (by omega), p6_sm]
      have ht1 := m_termOf hB hLI his ea y q3 (by omega)
      have ht2 := m_termOf hB hLI his la z q4 (by omega)
      show f_X9_weighs_L138 bk li fi se is (nI y) rc2 (f_X9_weighs_L138w bk li fi se is (nI y) rc2 m) _ (nI z) = _
      unfold f_X9_weighs_L138 f_X9_weighs_J193 f_X9_weighs_J226
      rw [q1, q2, c1, Option.bind_some, if_neg (nI_ge (by omega) (by omega)), show (40 : Int32) = nI 40 from rfl, show (2 : Int32) = nI 2 from rfl, pk_mul, pk_mul, nI_add, nI_add, p2_gd (p2_ib (n := 40 + 2 * ea) (by omega) (by decide)), p2_gd (p2_ib (n := 40 + 2 * la) (by omega) (by decide)), p2_ix (n := 40 + 2 * ea) (by omega), p2_ix (n := 40 + 2 * la) (by omega), a3, c3, nI_add, nI_add, ht1, Option.bind_some, ht2, Option.bind_some, nI_1]
      by_cases c : k_fr bk ea + y < k_fr bk la + z
      · rw [if_neg (nI_ge c (by omega)), if_neg (by decide), if_pos c, lN_mul, lN_add, Nat.add_assoc]
      · rw [if_pos (nI_le (by omega) (by omega)), if_pos rfl, if_neg c, show (0 : Int64) = lN 0 from rfl, lN_add, Nat.add_assoc]
  have outer : ∀ (r y m : Nat), y + r = k_to bk ea - k_fr bk ea + 1 → r < m → f_X9_weighs_L122w bk li fi se l w is (nI ea) rc m (lN (p6_sm y (fun y => p6_sm (k_to bk la - k_fr bk la + 1) (fun z => if k_fr bk ea + y < k_fr bk la + z then p6_T (k_hp bk) (q_L bk (k_fr bk)) ω n2 ea y * p6_T (k_hp bk) (q_L bk (k_fr bk)) ω n2 la z else 0)))) (nI y) = f_X9_weighs_J245 l w is (nI ea) rc (lN (p6_sm (k_to bk ea - k_fr bk ea + 1) (fun y => p6_sm (k_to bk la - k_fr bk la + 1) (fun z => if k_fr bk ea + y < k_fr bk la + z then p6_T (k_hp bk) (q_L bk (k_fr bk)) ω n2 ea y * p6_T (k_hp bk) (q_L bk (k_fr bk)) ω n2 la z else 0)))) := by
    intro r
    induction r with
    | zero =>
      intro y m h1 h2
      obtain ⟨m, rfl⟩ : ∃ j, m = j + 1 := ⟨m - 1, by omega⟩
      show f_X9_weighs_L122 bk li fi se l w is (nI ea) rc (f_X9_weighs_L122w bk li fi se l w is (nI ea) rc m) _ (nI y) = _
      unfold f_X9_weighs_L122
      rw [q1, a1, Option.bind_some, if_pos (nI_le (by omega) (by omega)), show y = k_to bk ea - k_fr bk ea + 1 by omega]
    | succ r ih =>
      intro y m h1 h2
      obtain ⟨m, rfl⟩ : ∃ j, m = j + 1 := ⟨m - 1, by omega⟩
      rw [← ih (y + 1) m (by omega) (by omega), p6_sm]
      have := inner y (p6_sm y (fun y => p6_sm (k_to bk la - k_fr bk la + 1) (fun z => if k_fr bk ea + y < k_fr bk la + z then p6_T (k_hp bk) (q_L bk (k_fr bk)) ω n2 ea y * p6_T (k_hp bk) (q_L bk (k_fr bk)) ω n2 la z else 0))) (by omega) (f_X9_weighs_L122w bk li fi se l w is (nI ea) rc m) (k_to bk la - k_fr bk la + 1) 0 cx_N0 (by omega) (by unfold cx_N0; omega)
      rw [← this]
      show f_X9_weighs_L122 bk li fi se l w is (nI ea) rc (f_X9_weighs_L122w bk li fi se l w is (nI ea) rc m) _ (nI y) = _
      unfold f_X9_weighs_L122
      have hy1 : f_X9_years bk fi = some (nI (k_to bk ea - k_fr bk ea + 1)) := by rw [q1]; exact a1
      rw [hy1, Option.bind_some, if_neg (nI_ge (by omega) (by omega)), p6_sm, Nat.add_zero]
      rfl
  refine (outer (k_to bk ea - k_fr bk ea + 1) 0 cx_N0 (by omega) (by unfold cx_N0; omega)).trans ?_
  congr 2
  unfold p6_PO
  have hne : ∀ p, ¬ (on = true ∧ p = p0) := fun p q => by rw [hon] at q; cases q.1
  have f1 : ∀ p, p < n1 → q_yc bk n1 on p0 p = k_to bk p - k_fr bk p + 1 := fun p hp => by unfold q_yc; rw [if_pos hp, if_neg (hne p)]
  have f2 : ∀ p, p < n1 → q_fy bk n1 on p0 y0 p = k_fr bk p := fun p hp => by unfold q_fy; rw [if_pos hp, if_neg (hne p)]
  have f3 : ∀ p y, p < n1 → p6_T (k_hp bk) (q_L bk (q_fy bk n1 on p0 y0)) ω n2 p y = p6_T (k_hp bk) (q_L bk (k_fr bk)) ω n2 p y := fun p y hp => by rw [q_T hB p y hp, q_of, if_neg (hne p), Nat.zero_add]
  rw [p6_sm_swap, f1 la q4, f1 ea q3, f2 ea q3, f2 la q4]
  refine p6_sm_congr (fun z _ => ?_)
  rw [f3 la z q4, ← p6_sm_mulr]
  refine p6_sm_congr (fun y _ => ?_)
  rw [f3 ea y q3]
  by_cases c : k_fr bk ea + y < k_fr bk la + z
  · rw [if_pos c, if_pos c]
  · rw [if_neg c, if_neg c, Nat.zero_mul]
/-- weighs -/
theorem m_weighs {c0 c1 c2 c3 c4 : Nat → Int32} {z0 z1 z2 z3 z4 sg : Int32} (hRB : p2_RB c0 z0 c1 z1 c2 z2 c3 z3 c4 z4 sg bk n0 n1 n2 n3 n4) (hLI : q_LI bk n0 n2 li) (hLM : q_LM bk n1 n3 on p0 y0 sk od ea la wo oP oY fi se) (code : Nat) (hc : code < (n0 + 1) ^ n2) (l w is : Nat → Int32) (V : Nat → Nat) (hS : p4_S l w V) : ∃ g l' w' is' V', f_X9_weighs l w bk is li wo oP oY fi se (nI code) = some (g, l', w', is') ∧ (∀ h, h < n2 → is' h = nI (p6_wc n0 n2 0 q_0 code h)) ∧ p4_S l' w' V' ∧ (∀ s, s ≠ 5 → s ≠ 8 → V' s = V s) ∧ (g = if q_F bk n1 n2 n3 n4 (q_fy bk n1 on p0 y0) (q_yc bk n1 on p0) sk od ea la (p6_wc n0 n2 0 q_0 code) = 0 then 0 else 1) ∧ (q_F bk n1 n2 n3 n4 (q_fy bk n1 on p0 y0) (q_yc bk n1 on p0) sk od ea la (p6_wc n0 n2 0 q_0 code) ≠ 0 → V' 5 = q_F bk n1 n2 n3 n4 (q_fy bk n1 on p0 y0) (q_yc bk n1 on p0) sk od ea la (p6_wc n0 n2 0 q_0 code)) := by
  have hB := q_BK_of hRB
  obtain ⟨b0, b1, b2, b3, b4, e0, e1, e2, e3, e4, v0, v1, v2, v3, v4, v5⟩ := id hB
  have hLK := q_LK_of hB hLM
  have hOK := q_OK hRB hLK
  obtain ⟨is', i1, i2⟩ := m_picks hB is code hc
  have hva : ∀ h, h < n2 → k_w n0 (p6_wc n0 n2 0 q_0 code h) := fun h hh => by
    rw [p6_wc_dig n0 n2 0 q_0 code h (by omega) (by omega) hc]
    exact p6_who_w n0 _
  generalize p6_wc n0 n2 0 q_0 code = ω at *
  have his : ∀ h, h < n2 → is' h = nI (ω h) ∧ k_w n0 (ω h) := fun h hh => ⟨i2 h hh, hva h hh⟩
  have his6 : ∀ h, h < n2 → is' h = nI (ω h) ∧ ω h < 6 := fun h hh => ⟨i2 h hh, k_w_lt b0 (hva h hh)⟩
  have htw := m_isTwice hB his6
  have hFdef : q_F bk n1 n2 n3 n4 (q_fy bk n1 on p0 y0) (q_yc bk n1 on p0) sk od ea la ω = if p8_twb (k_hp bk) ω n2 = true then 0 else p6_pr n1 (p6_pf (k_hp bk) (q_L bk (q_fy bk n1 on p0 y0)) (q_yc bk n1 on p0) (q_fy bk n1 on p0 y0) n2 od ea la ω) * p6_pr n3 (fun n => k_nf bk sk n (ω (k_nh bk n))) * p6_pr n4 (p6_jf (k_ja bk) (k_jb bk) (k_jw bk) ω) := rfl
  unfold f_X9_weighs
  rw [i1, Option.bind_some, htw, Option.bind_some, p4_bt]
  by_cases ht : p8_twb (k_hp bk) ω n2 = true
  · rw [if_pos ht]
    rw [if_pos ht] at hFdef
    exact ⟨0, l, w, is', V, rfl, i2, hS, fun _ _ _ => rfl, by rw [if_pos hFdef], fun q => absurd hFdef q⟩
  · rw [if_neg ht]
    rw [if_neg ht] at hFdef
    rw [hFdef]
    obtain ⟨l1, w1, s1, s2, s3⟩ := p4_sets (l := l) (w := w) (r := 5) (v := 1) (by decide) (by decide)
    have hS1 := hS.set s2 s3
    rw [show f_X9_sets l w 5 1 = _ from s1, Option.bind_some]
    dsimp only
    -- a picture's factor
    have pfle : ∀ p, p6_pf (k_hp bk) (q_L bk (q_fy bk n1 on p0 y0)) (q_yc bk n1 on p0) (q_fy bk n1 on p0 y0) n2 od ea la ω p ≤ 166583718925369344 := by
      obtain ⟨on0, on1, on2, on3, on4, ohp, ood, oyc, ofy, oL, onh, oj⟩ := id hOK
      intro p
      have p6 : 324 ^ n2 ≤ 324 ^ 6 := Nat.pow_le_pow_right (by decide) on2
      unfold p6_pf
      by_cases hi : p6_iob od ea la p = true
      · rw [if_pos hi]
        split
        · refine Nat.le_trans (p6_PO_le (oyc _) (oyc _) (fun e y he _ => oL e _ y he (hva e he))) ?_
          have g2 := p6_G2_le (hp := k_hp bk) (k := n2) (ood (p6_iob_t.mp hi).1).2.2
          rw [Nat.mul_mul_mul_comm]
          exact Nat.le_trans (Nat.mul_le_mul_left (12 * 12) (Nat.le_trans g2 p6)) (by decide)
        · decide
      · rw [if_neg hi]
        refine Nat.le_trans (p6_PS_le (oyc _) (fun e y he _ => oL e _ y he (hva e he))) ?_
        exact Nat.le_trans (Nat.mul_le_mul_left 12 (Nat.le_trans p6_G_le p6)) (by decide)
    have prle : ∀ p, p ≤ n1 → p6_pr p (p6_pf (k_hp bk) (q_L bk (q_fy bk n1 on p0 y0)) (q_yc bk n1 on p0) (q_fy bk n1 on p0 y0) n2 od ea la ω) ≤ 166583718925369344 ^ 4 := fun p hp => by
      refine Nat.le_trans (p6_pr_le (g := fun _ => 166583718925369344) (fun i _ => pfle i)) ?_
      rw [p6_pr_const]
      exact Nat.pow_le_pow_right (by decide) (by omega)
    have q1 : bk (cx_ix 1) = nI n1 := e1
    obtain ⟨lm1, lm2, lm3, lm4, lm5, lm6⟩ := id hLM
    have loop : ∀ (r p m : Nat) (l w : Nat → Int32) (V1 : Nat → Nat), p + r = n1 → r < m → p4_S l w V1 → V1 5 = p6_pr p (p6_pf (k_hp bk) (q_L bk (q_fy bk n1 on p0 y0)) (q_yc bk n1 on p0) (q_fy bk n1 on p0 y0) n2 od ea la ω) → (∀ s, s ≠ 5 → s ≠ 8 → V1 s = V s) → ∃ g l' w' V', f_X9_weighs_L22w bk li wo oP oY fi se is' m l w (nI p) = some (g, l', w', is') ∧ p4_S l' w' V' ∧ (∀ s, s ≠ 5 → s ≠ 8 → V' s = V s) ∧ (g = if p6_pr n1 (p6_pf (k_hp bk) (q_L bk (q_fy bk n1 on p0 y0)) (q_yc bk n1 on p0) (q_fy bk n1 on p0 y0) n2 od ea la ω) * p6_pr n3 (fun n => k_nf bk sk n (ω (k_nh bk n))) * p6_pr n4 (p6_jf (k_ja bk) (k_jb bk) (k_jw bk) ω) = 0 then 0 else 1) ∧ (p6_pr n1 (p6_pf (k_hp bk) (q_L bk (q_fy bk n1 on p0 y0)) (q_yc bk n1 on p0) (q_fy bk n1 on p0 y0) n2 od ea la ω) * p6_pr n3 (fun n => k_nf bk sk n (ω (k_nh bk n))) * p6_pr n4 (p6_jf (k_ja bk) (k_jb bk) (k_jw bk) ω) ≠ 0 → V' 5 = p6_pr n1 (p6_pf (k_hp bk) (q_L bk (q_fy bk n1 on p0 y0)) (q_yc bk n1 on p0) (q_fy bk n1 on p0 y0) n2 od ea la ω) * p6_pr n3 (fun n => k_nf bk sk n (ω (k_nh bk n))) * p6_pr n4 (p6_jf (k_ja bk) (k_jb bk) (k_jw bk) ω)) := by
      intro r
      induction r with
      | zero =>
        intro p m l w V1 h1 h2 h3 h4 h5
        obtain ⟨m, rfl⟩ : ∃ j, m = j + 1 := ⟨m - 1, by omega⟩
        have e : p = n1 := by omega
        subst e
        obtain ⟨g, l', w', V', g1, g2, g3, g4, g5⟩ := m_wNames hRB his6 lm1 _ (Nat.lt_of_le_of_lt (prle p (Nat.le_refl _)) (by decide)) n3 0 cx_N0 l w V1 (by omega) (by unfold cx_N0; omega) h3 (by rw [h4]; exact (Nat.mul_one _).symm)
        refine ⟨g, l', w', V', ?_, g2, fun s a b => by rw [g3 s a, h5 s a b], g5, fun _ => g4⟩
        rw [← g1]
        show f_X9_weighs_L22 bk li wo oP oY fi se is' (f_X9_weighs_L22w bk li wo oP oY fi se is' m) l w (nI p) = _
        unfold f_X9_weighs_L22
        rw [p2_gd (by decide), q1, if_pos (nI_le (by omega) (by omega))]
        rfl
      | succ r ih =>
        intro p m l w V1 h1 h2 h3 h4 h5
        obtain ⟨m, rfl⟩ : ∃ j, m = j + 1 := ⟨m - 1, by omega⟩
        -- what J245 does with the factor
        have J245 : ∃ g l' w' V', f_X9_weighs_J245 l w is' (nI p) (f_X9_weighs_L22w bk li wo oP oY fi se is' m) (lN (p6_pf (k_hp bk) (q_L bk (q_fy bk n1 on p0 y0)) (q_yc bk n1 on p0) (q_fy bk n1 on p0 y0) n2 od ea la ω p)) = some (g, l', w', is') ∧ p4_S l' w' V' ∧ (∀ s, s ≠ 5 → s ≠ 8 → V' s = V s) ∧ (g = if p6_pr n1 (p6_pf (k_hp bk) (q_L bk (q_fy bk n1 on p0 y0)) (q_yc bk n1 on p0) (q_fy bk n1 on p0 y0) n2 od ea la ω) * p6_pr n3 (fun n => k_nf bk sk n (ω (k_nh bk n))) * p6_pr n4 (p6_jf (k_ja bk) (k_jb bk) (k_jw bk) ω) = 0 then 0 else 1) ∧ (p6_pr n1 (p6_pf (k_hp bk) (q_L bk (q_fy bk n1 on p0 y0)) (q_yc bk n1 on p0) (q_fy bk n1 on p0 y0) n2 od ea la ω) * p6_pr n3 (fun n => k_nf bk sk n (ω (k_nh bk n))) * p6_pr n4 (p6_jf (k_ja bk) (k_jb bk) (k_jw bk) ω) ≠ 0 → V' 5 = p6_pr n1 (p6_pf (k_hp bk) (q_L bk (q_fy bk n1 on p0 y0)) (q_yc bk n1 on p0) (q_fy bk n1 on p0 y0) n2 od ea la ω) * p6_pr n3 (fun n => k_nf bk sk n (ω (k_nh bk n))) * p6_pr n4 (p6_jf (k_ja bk) (k_jb bk) (k_jw bk) ω)) := by
          have hb := pfle p
          have hcz := (p3_ne (a := p6_pf (k_hp bk) (q_L bk (q_fy bk n1 on p0 y0)) (q_yc bk n1 on p0) (q_fy bk n1 on p0 y0) n2 od ea la ω p) (b := 0) (by omega) (by decide)).1
          have hcz : lg_cmp (lN (p6_pf (k_hp bk) (q_L bk (q_fy bk n1 on p0 y0)) (q_yc bk n1 on p0) (q_fy bk n1 on p0 y0) n2 od ea la ω p)) 0 = 0 ↔ p6_pf (k_hp bk) (q_L bk (q_fy bk n1 on p0 y0)) (q_yc bk n1 on p0) (q_fy bk n1 on p0 y0) n2 od ea la ω p = 0 := hcz
          unfold f_X9_weighs_J245
          by_cases hz : p6_pf (k_hp bk) (q_L bk (q_fy bk n1 on p0 y0)) (q_yc bk n1 on p0) (q_fy bk n1 on p0 y0) n2 od ea la ω p = 0
          · have hall : p6_pr n1 (p6_pf (k_hp bk) (q_L bk (q_fy bk n1 on p0 y0)) (q_yc bk n1 on p0) (q_fy bk n1 on p0 y0) n2 od ea la ω) * p6_pr n3 (fun n => k_nf bk sk n (ω (k_nh bk n))) * p6_pr n4 (p6_jf (k_ja bk) (k_jb bk) (k_jw bk) ω) = 0 := by rw [p6_pr_z (i := p) (by omega) hz, Nat.zero_mul, Nat.zero_mul]
            rw [if_pos (hcz.mpr hz)]
            exact ⟨0, l, w, V1, rfl, h3, h5, by rw [if_pos hall], fun q => absurd hall q⟩
          · rw [if_neg (fun q => hz (hcz.mp q))]
            have hmul : V1 5 * p6_pf (k_hp bk) (q_L bk (q_fy bk n1 on p0 y0)) (q_yc bk n1 on p0) (q_fy bk n1 on p0 y0) n2 od ea la ω p < 1073741824 ^ 15 := by
              rw [h4]
              exact Nat.lt_of_le_of_lt (Nat.mul_le_mul (prle p (by omega)) hb) (by decide)
            obtain ⟨l2, w2, t1, t2⟩ := p4_timesLong (r := 5) (by decide) (by decide) (by decide) h3 (by omega) hmul
            obtain ⟨g, l', w', V', g1, g2, g3, g4, g5⟩ := ih (p + 1) m l2 w2 _ (by omega) (by omega) t2 (by rw [p4_us, h4, p6_pr]) (fun s a b => by rw [p4_un a, p4_un b]; exact h5 s a b)
            refine ⟨g, l', w', V', ?_, g2, g3, g4, g5⟩
            rw [← g1, show f_X9_timesLong l w 5 (lN _) = _ from t1, Option.bind_some, nI_1]
        have st : f_X9_weighs_L22w bk li wo oP oY fi se is' (m + 1) l w (nI p) = f_X9_weighs_L22 bk li wo oP oY fi se is' (f_X9_weighs_L22w bk li wo oP oY fi se is' m) l w (nI p) := rfl
        rw [st]
        unfold f_X9_weighs_L22 f_X9_weighs_J111
        have hs1 := m_sum1 hB hLI his hLM p (by omega) (f_X9_weighs_L22w bk li wo oP oY fi se is' m) l w
        rw [p2_gd (by decide), q1, if_neg (nI_ge (by omega) (by omega))]
        by_cases ho : od = true
        · obtain ⟨z1, z2, z3, z4', z5⟩ := lm4 ho
          have hs2 := m_sum2 hB hLI his hLM ho (f_X9_weighs_L22w bk li wo oP oY fi se is' m) l w
          rw [if_neg (by rw [z1]; exact p2_nIne ea (by omega))]
          by_cases c1' : p = ea
          · have hpf : p6_pf (k_hp bk) (q_L bk (q_fy bk n1 on p0 y0)) (q_yc bk n1 on p0) (q_fy bk n1 on p0 y0) n2 od ea la ω p = p6_PO (k_hp bk) (q_L bk (q_fy bk n1 on p0 y0)) (q_yc bk n1 on p0) (q_fy bk n1 on p0 y0) n2 ea la ω := by
              unfold p6_pf
              rw [if_pos (p6_iob_t.mpr ⟨ho, Or.inl c1'⟩), if_pos c1']
            have hfi : nI p = fi := by rw [z1, c1']
            rw [if_pos hfi]
            rw [hpf] at J245
            rw [if_pos hfi]
            rw [← c1'] at hs2
            rw [hs2]
            rw [c1'] at J245 ⊢
            exact J245
          · rw [if_neg (fun q => c1' ((nI_eq (by omega) (by omega)).mp (q.trans z1)))]
            by_cases c2' : p = la
            · have hpf : p6_pf (k_hp bk) (q_L bk (q_fy bk n1 on p0 y0)) (q_yc bk n1 on p0) (q_fy bk n1 on p0 y0) n2 od ea la ω p = 1 := by
                unfold p6_pf
                rw [if_pos (p6_iob_t.mpr ⟨ho, Or.inr c2'⟩), if_neg c1']
              rw [if_pos (by rw [z2, c2']), if_neg (fun q => c1' ((nI_eq (by omega) (by omega)).mp (q.trans z1)))]
              rw [hpf] at J245
              exact J245
            · have hpf : p6_pf (k_hp bk) (q_L bk (q_fy bk n1 on p0 y0)) (q_yc bk n1 on p0) (q_fy bk n1 on p0 y0) n2 od ea la ω p = p6_PS (k_hp bk) (q_L bk (q_fy bk n1 on p0 y0)) (q_yc bk n1 on p0) n2 ω p := by
                unfold p6_pf
                rw [if_neg (fun q => by rcases (p6_iob_t.mp q).2 with y | y; exact c1' y; exact c2' y)]
              rw [if_neg (fun q => c2' ((nI_eq (by omega) (by omega)).mp (q.trans z2))), hs1, ← hpf]
              exact J245
        · have hpf : p6_pf (k_hp bk) (q_L bk (q_fy bk n1 on p0 y0)) (q_yc bk n1 on p0) (q_fy bk n1 on p0 y0) n2 od ea la ω p = p6_PS (k_hp bk) (q_L bk (q_fy bk n1 on p0 y0)) (q_yc bk n1 on p0) n2 ω p := by
            unfold p6_pf
            rw [if_neg (fun q => ho (p6_iob_t.mp q).1)]
          rw [if_pos (lm5 (by simpa using ho)), hs1, ← hpf]
          exact J245
    obtain ⟨g, l', w', V', g1, g2, g3, g4, g5⟩ := loop n1 0 cx_N0 l1 w1 _ (by omega) (by unfold cx_N0; omega) hS1 p4_us (fun s a _ => p4_un a)
    exact ⟨g, l', w', is', V', g1, i2, g2, g3, g4, g5⟩
end M5
