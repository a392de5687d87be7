theorem p4_cop2 {y : Nat} (h : y % 2 = 1) : Nat.Coprime 2 y := by
  show Nat.gcd 2 y = 1
  rw [Nat.gcd_rec, h]
  rfl
theorem p4_gcd_l {x y : Nat} (hx : x % 2 = 0) (hy : y % 2 = 1) : Nat.gcd (x / 2) y = Nat.gcd x y := by
  have e : x = 2 * (x / 2) := by omega
  conv => rhs; rw [e]
  exact (Nat.Coprime.gcd_mul_left_cancel (x / 2) (p4_cop2 hy)).symm
theorem p4_gcd_r {x y : Nat} (hx : x % 2 = 1) (hy : y % 2 = 0) : Nat.gcd x (y / 2) = Nat.gcd x y := by
  rw [Nat.gcd_comm, p4_gcd_l hy hx, Nat.gcd_comm]
theorem p4_bt {P : Prop} [Decidable P] {α : Type} {x y : α} : (if p2_b P = 0 then x else y) = if P then y else x := by
  by_cases h : P
  · rw [if_pos h, if_neg (fun q => (p2_b0.mp q) h)]
  · rw [if_neg h, if_pos (p2_b0.mpr h)]
/-- halving both -/
theorem p4_low16 : ∀ (k m : Nat) (l w : Nat → Int32) (V : Nat → Nat), p4_S l w V → 0 < V 0 → 0 < V 1 → V 0 < 2 ^ k → k < m → ∃ l' w' V' c, f_X9_lowers_L16w m l w = f_X9_lowers_J45 l' w' ∧ p4_S l' w' V' ∧ V 0 = c * V' 0 ∧ V 1 = c * V' 1 ∧ 0 < c ∧ 0 < V' 0 ∧ 0 < V' 1 ∧ ¬ (V' 0 % 2 = 0 ∧ V' 1 % 2 = 0) ∧ ∀ s, 2 ≤ s → V' s = V s := by
  intro k
  induction k with
  | zero =>
    intro m l w V h h0 h1 h2 h3
    rw [Nat.pow_zero] at h2
    omega
  | succ k ih =>
    intro m l w V h h0 h1 h2 h3
    obtain ⟨m, rfl⟩ : ∃ j, m = j + 1 := ⟨m - 1, by omega⟩
    have st : f_X9_lowers_L16w (m + 1) l w = f_X9_lowers_L16 (f_X9_lowers_L16w m) l w := rfl
    have e0 : f_X9_isEven l 0 = _ := p4_isEven (r := 0) (by decide) (h 0 (by decide) (by decide))
    have e1 : f_X9_isEven l 1 = _ := p4_isEven (r := 1) (by decide) (h 1 (by decide) (by decide))
    by_cases a0 : V 0 % 2 = 0
    · by_cases a1 : V 1 % 2 = 0
      · obtain ⟨l1, w1, b1, b2, b3⟩ := p4_halves (r := 0) (by decide) (h 0 (by decide) (by decide))
        have s1 := h.set b2 b3
        have r1 := s1 1 (by decide) (by decide)
        rw [p4_un (by decide)] at r1
        obtain ⟨l2, w2, c1, c2, c3⟩ := p4_halves (r := 1) (by decide) r1
        have s2 := s1.set c2 c3
        obtain ⟨l', w', V', c, g1, g2, g3, g4, g5, g6, g7, g8, g9⟩ := ih m l2 w2 _ s2 (by rw [p4_un (by decide), p4_us]; omega) (by rw [p4_us]; omega) (by rw [p4_un (by decide), p4_us, ]; rw [Nat.pow_succ] at h2; omega) (by omega)
        rw [p4_un (by decide), p4_us] at g3
        rw [p4_us] at g4
        refine ⟨l', w', V', 2 * c, ?_, g2, by rw [Nat.mul_assoc]; omega, by rw [Nat.mul_assoc]; omega, by omega, g6, g7, g8, fun s hs => by rw [g9 s hs, p4_un (by omega), p4_un (by omega)]⟩
        rw [st, ← g1]
        unfold f_X9_lowers_L16
        rw [e0, Option.bind_some, p4_bt, if_pos a0, e1, Option.bind_some, p4_bt, if_pos a1, show f_X9_halves l w 0 = _ from b1, Option.bind_some, show f_X9_halves l1 w1 1 = _ from c1, Option.bind_some]
      · refine ⟨l, w, V, 1, ?_, h, by omega, by omega, by omega, h0, h1, fun q => a1 q.2, fun _ _ => rfl⟩
        rw [st]
        unfold f_X9_lowers_L16
        rw [e0, Option.bind_some, p4_bt, if_pos a0, e1, Option.bind_some, p4_bt, if_neg a1]
    · refine ⟨l, w, V, 1, ?_, h, by omega, by omega, by omega, h0, h1, fun q => a0 q.1, fun _ _ => rfl⟩
      rw [st]
      unfold f_X9_lowers_L16
      rw [e0, Option.bind_some, p4_bt, if_neg a0]
/-- halving ONE -/
theorem p4_low66 (rc : (Nat → Int32) → (Nat → Int32) → Option ((Nat → Int32) × (Nat → Int32))) : ∀ (k m : Nat) (l w : Nat → Int32) (V : Nat → Nat), p4_S l w V → 0 < V 2 → (V 2 % 2 = 0 → V 3 % 2 = 1) → V 2 < 2 ^ k → k < m → ∃ l' w' V', f_X9_lowers_L66w rc m l w = f_X9_lowers_L82w rc cx_N0 l' w' ∧ p4_S l' w' V' ∧ V' 2 % 2 = 1 ∧ Nat.gcd (V' 2) (V 3) = Nat.gcd (V 2) (V 3) ∧ V' 2 ≤ V 2 ∧ (V 2 % 2 = 0 → 2 * V' 2 ≤ V 2) ∧ ∀ s, s ≠ 2 → V' s = V s := by
  intro k
  induction k with
  | zero =>
    intro m l w V h h0 h1 h2 h3
    rw [Nat.pow_zero] at h2
    omega
  | succ k ih =>
    intro m l w V h h0 h1 h2 h3
    obtain ⟨m, rfl⟩ : ∃ j, m = j + 1 := ⟨m - 1, by omega⟩
    have st : f_X9_lowers_L66w rc (m + 1) l w = f_X9_lowers_L66 rc (f_X9_lowers_L66w rc m) l w := rfl
    have e0 : f_X9_isEven l 2 = _ := p4_isEven (r := 2) (by decide) (h 2 (by decide) (by decide))
    by_cases a0 : V 2 % 2 = 0
    · obtain ⟨l1, w1, b1, b2, b3⟩ := p4_halves (r := 2) (by decide) (h 2 (by decide) (by decide))
      have s1 := h.set b2 b3
      obtain ⟨l', w', V', g1, g2, g3, g4, g5, g6, g7⟩ := ih m l1 w1 _ s1 (by rw [p4_us]; omega) (fun _ => by rw [p4_un (by decide)]; exact h1 a0) (by rw [p4_us]; rw [Nat.pow_succ] at h2; omega) (by omega)
      rw [p4_us] at g4 g5
      rw [p4_un (by decide), p4_gcd_l a0 (h1 a0)] at g4
      refine ⟨l', w', V', ?_, g2, g3, g4, by omega, fun _ => by omega, fun s hs => by rw [g7 s hs, p4_un hs]⟩
      rw [st, ← g1]
      unfold f_X9_lowers_L66
      rw [e0, Option.bind_some, p4_bt, if_pos a0, show f_X9_halves l w 2 = _ from b1, Option.bind_some]
    · refine ⟨l, w, V, ?_, h, by omega, rfl, Nat.le_refl _, fun q => by omega, fun _ _ => rfl⟩
      rw [st]
      unfold f_X9_lowers_L66
      rw [e0, Option.bind_some, p4_bt, if_neg a0]
/-- halving TWO; then the difference -/
theorem p4_low82 (rc : (Nat → Int32) → (Nat → Int32) → Option ((Nat → Int32) × (Nat → Int32))) : ∀ (k m : Nat) (l w : Nat → Int32) (V : Nat → Nat), p4_S l w V → 0 < V 3 → V 2 % 2 = 1 → V 3 < 2 ^ k → k < m → ∃ l' w' V', f_X9_lowers_L82w rc m l w = (Option.bind (f_X9_against l' w' 2 3) (fun u32 => if u32 < 0 then (f_X9_lowers_J112 rc l' w' 3) else (f_X9_lowers_J112 rc l' w' 2))) ∧ p4_S l' w' V' ∧ V' 3 % 2 = 1 ∧ Nat.gcd (V 2) (V' 3) = Nat.gcd (V 2) (V 3) ∧ V' 3 ≤ V 3 ∧ (V 3 % 2 = 0 → 2 * V' 3 ≤ V 3) ∧ ∀ s, s ≠ 3 → V' s = V s := by
  intro k
  induction k with
  | zero =>
    intro m l w V h h0 h1 h2 h3
    rw [Nat.pow_zero] at h2
    omega
  | succ k ih =>
    intro m l w V h h0 h1 h2 h3
    obtain ⟨m, rfl⟩ : ∃ j, m = j + 1 := ⟨m - 1, by omega⟩
    have st : f_X9_lowers_L82w rc (m + 1) l w = f_X9_lowers_L82 rc (f_X9_lowers_L82w rc m) l w := rfl
    have e0 : f_X9_isEven l 3 = _ := p4_isEven (r := 3) (by decide) (h 3 (by decide) (by decide))
    by_cases a0 : V 3 % 2 = 0
    · obtain ⟨l1, w1, b1, b2, b3⟩ := p4_halves (r := 3) (by decide) (h 3 (by decide) (by decide))
      have s1 := h.set b2 b3
      obtain ⟨l', w', V', g1, g2, g3, g4, g5, g6, g7⟩ := ih m l1 w1 _ s1 (by rw [p4_us]; omega) (by rw [p4_un (by decide)]; exact h1) (by rw [p4_us]; rw [Nat.pow_succ] at h2; omega) (by omega)
      rw [p4_us] at g4 g5
      rw [p4_un (by decide), p4_gcd_r h1 a0] at g4
      refine ⟨l', w', V', ?_, g2, g3, g4, by omega, fun _ => by omega, fun s hs => by rw [g7 s hs, p4_un hs]⟩
      rw [st, ← g1]
      unfold f_X9_lowers_L82
      rw [e0, Option.bind_some, p4_bt, if_pos a0, show f_X9_halves l w 3 = _ from b1, Option.bind_some]
    · refine ⟨l, w, V, ?_, h, by omega, rfl, Nat.le_refl _, fun q => by omega, fun _ _ => rfl⟩
      rw [st]
      unfold f_X9_lowers_L82
      rw [e0, Option.bind_some, p4_bt, if_neg a0]
theorem p4_P2 : 1073741824 ^ 16 = 2 ^ 480 := by
  rw [show (1073741824 : Nat) = 2 ^ 30 from rfl, ← Nat.pow_mul]
theorem p4_wpos {l w : Nat → Int32} {r v : Nat} (h : p4_R l w r v) : ∃ n, n ≤ 16 ∧ w r = nI n ∧ (n = 0 ↔ v = 0) := by
  obtain ⟨h1, n, h2, h3, h4, h5⟩ := h
  refine ⟨n, h2, h3, fun e => ?_, fun e => ?_⟩
  · subst e
    rw [Nat.pow_zero] at h4
    omega
  · apply Nat.eq_zero_of_not_pos
    intro hp
    have := h5 hp
    have := p3_Ppos (n - 1)
    omega
/-- one turn of the great loop -/
theorem p4_low57 (m : Nat) (l w : Nat → Int32) (V : Nat → Nat) (h : p4_S l w V) (h2 : 0 < V 2) (h3 : 0 < V 3) (hne : ¬ (V 2 % 2 = 0 ∧ V 3 % 2 = 0)) : ∃ l' w' V', f_X9_lowers_L57w (m + 1) l w = f_X9_lowers_L57w m l' w' ∧ p4_S l' w' V' ∧ 0 < V' 3 ∧ ¬ (V' 2 % 2 = 0 ∧ V' 3 % 2 = 0) ∧ (V' 2 % 2 = 0 ∨ V' 3 % 2 = 0) ∧ Nat.gcd (V' 2) (V' 3) = Nat.gcd (V 2) (V 3) ∧ V' 2 * V' 3 ≤ V 2 * V 3 ∧ ((V 2 % 2 = 0 ∨ V 3 % 2 = 0) → 2 * (V' 2 * V' 3) ≤ V 2 * V 3) ∧ ∀ s, s ≠ 2 → s ≠ 3 → V' s = V s := by
  have lt2 := (h 2 (by decide) (by decide)).lt
  have lt3 := (h 3 (by decide) (by decide)).lt
  rw [p4_P2] at lt2 lt3
  obtain ⟨l1, w1, V1, a1, a2, a3, a4, a5, a6, a7⟩ := p4_low66 (f_X9_lowers_L57w m) 480 cx_N0 l w V h h2 (fun q => by omega) lt2 (by unfold cx_N0; omega)
  have e13 : V1 3 = V 3 := a7 3 (by decide)
  obtain ⟨l2, w2, V2, b1, b2, b3, b4, b5, b6, b7⟩ := p4_low82 (f_X9_lowers_L57w m) 480 cx_N0 l1 w1 V1 a2 (by omega) a3 (by omega) (by unfold cx_N0; omega)
  have e22 : V2 2 = V1 2 := b7 2 (by decide)
  have hg : Nat.gcd (V2 2) (V2 3) = Nat.gcd (V 2) (V 3) := by rw [e22, b4, e13, a4]
  have hm : V2 2 * V2 3 ≤ V 2 * V 3 := Nat.mul_le_mul (by omega) (by omega)
  have hm2 : (V 2 % 2 = 0 ∨ V 3 % 2 = 0) → 2 * (V2 2 * V2 3) ≤ V 2 * V 3 := by
    intro q
    rcases q with q | q
    · rw [← Nat.mul_assoc]
      exact Nat.mul_le_mul (by have := a6 q; omega) (by omega)
    · rw [Nat.mul_left_comm]
      exact Nat.mul_le_mul (by omega) (by have := b6 (by omega); omega)
  have hag : f_X9_against l2 w2 2 3 = _ := p4_against (r := 2) (o := 3) (by decide) (by decide) (b2 2 (by decide) (by decide)) (b2 3 (by decide) (by decide))
  obtain ⟨n2, _, n2w, n2z⟩ := p4_wpos (h 2 (by decide) (by decide))
  have ex : f_X9_lowers_L57w (m + 1) l w = f_X9_lowers_L66w (f_X9_lowers_L57w m) cx_N0 l w := by
    show f_X9_lowers_L57 (f_X9_lowers_L57w m) l w = _
    unfold f_X9_lowers_L57
    have e2 : w (cx_ix 2) = nI n2 := n2w
    rw [p2_gd (by decide), e2, if_neg (nI_nle (by omega) (by omega))]
  by_cases hlt : V2 2 < V2 3
  · obtain ⟨l3, w3, c1, c2, c3⟩ := p4_lessens (r := 3) (o := 2) (by decide) (by decide) (by decide) (b2 3 (by decide) (by decide)) (b2 2 (by decide) (by decide)) (by omega)
    have s3 := b2.set c2 c3
    obtain ⟨n3, _, n3w, n3z⟩ := p4_wpos c3
    refine ⟨l3, w3, _, ?_, s3, by rw [p4_us]; omega, by rw [p4_us, p4_un (by decide)]; omega, by rw [p4_us]; omega, by rw [p4_us, p4_un (by decide), Nat.gcd_sub_self_right (by omega)]; exact hg, ?_, ?_, fun s q1 q2 => by rw [p4_un q2, b7 s q2, a7 s q1]⟩
    · rw [ex, a1, b1, hag, Option.bind_some, if_pos (p3_cmp0.1.mpr hlt)]
      unfold f_X9_lowers_J112 f_X9_lowers_J142
      have e3 : w3 (cx_ix 3) = nI n3 := n3w
      rw [show f_X9_lessens l2 w2 3 (5 - 3) = _ from c1, Option.bind_some]
      dsimp only
      rw [p2_gd (by decide), if_neg (fun q => by rw [e3] at q; have := (p4_i0 (d := n3) (by omega)).mp q; omega)]
    · rw [p4_us, p4_un (by decide)]
      exact Nat.le_trans (Nat.mul_le_mul_left _ (by omega)) hm
    · intro q
      rw [p4_us, p4_un (by decide)]
      exact Nat.le_trans (Nat.mul_le_mul_left _ (Nat.mul_le_mul_left _ (by omega))) (hm2 q)
  · obtain ⟨l3, w3, c1, c2, c3⟩ := p4_lessens (r := 2) (o := 3) (by decide) (by decide) (by decide) (b2 2 (by decide) (by decide)) (b2 3 (by decide) (by decide)) (by omega)
    have s3 := b2.set c2 c3
    obtain ⟨n3, _, n3w, n3z⟩ := p4_wpos (c2.R (s := 3) (by decide) (b2 3 (by decide) (by decide)))
    refine ⟨l3, w3, _, ?_, s3, by rw [p4_un (by decide)]; omega, by rw [p4_us, p4_un (by decide)]; omega, by rw [p4_us, p4_un (by decide)]; omega, by rw [p4_us, p4_un (by decide), Nat.gcd_sub_self_left (by omega)]; exact hg, ?_, ?_, fun s q1 q2 => by rw [p4_un q1, b7 s q2, a7 s q1]⟩
    · rw [ex, a1, b1, hag, Option.bind_some, if_neg (fun q => hlt (p3_cmp0.1.mp q))]
      unfold f_X9_lowers_J112 f_X9_lowers_J142
      have e3 : w3 (cx_ix 3) = nI n3 := n3w
      rw [show f_X9_lessens l2 w2 2 (5 - 2) = _ from c1, Option.bind_some]
      dsimp only
      rw [p2_gd (by decide), if_neg (fun q => by rw [e3] at q; have := (p4_i0 (d := n3) (by omega)).mp q; omega)]
    · rw [p4_us, p4_un (by decide)]
      exact Nat.le_trans (Nat.mul_le_mul_right _ (by omega)) hm
    · intro q
      rw [p4_us, p4_un (by decide)]
      exact Nat.le_trans (Nat.mul_le_mul_left _ (Nat.mul_le_mul_right _ (by omega))) (hm2 q)
theorem p4_gcdL : ∀ (k m : Nat) (l w : Nat → Int32) (V : Nat → Nat), p4_S l w V → 0 < V 3 → ¬ (V 2 % 2 = 0 ∧ V 3 % 2 = 0) → (V 2 % 2 = 0 ∨ V 3 % 2 = 0) → V 2 * V 3 < 2 ^ k → k < m → ∃ l' w' V', f_X9_lowers_L57w m l w = Option.bind (f_X9_dividesOdd l' w' 0) (fun u18 => Option.bind (f_X9_dividesOdd u18.1 u18.2 1) (fun u20 => some ((u20.1, u20.2)))) ∧ p4_S l' w' V' ∧ V' 3 = Nat.gcd (V 2) (V 3) ∧ V' 3 % 2 = 1 ∧ ∀ s, s ≠ 2 → s ≠ 3 → V' s = V s := by
  have ex : ∀ (m : Nat) (l w : Nat → Int32) (V : Nat → Nat), p4_S l w V → V 2 = 0 → f_X9_lowers_L57w (m + 1) l w = Option.bind (f_X9_dividesOdd l w 0) (fun u18 => Option.bind (f_X9_dividesOdd u18.1 u18.2 1) (fun u20 => some ((u20.1, u20.2)))) := by
    intro m l w V h h0
    obtain ⟨n2, _, n2w, n2z⟩ := p4_wpos (h 2 (by decide) (by decide))
    show f_X9_lowers_L57 (f_X9_lowers_L57w m) l w = _
    unfold f_X9_lowers_L57
    have e2 : w (cx_ix 2) = nI n2 := n2w
    rw [p2_gd (by decide), e2, n2z.mpr h0, if_pos (by decide)]
  intro k
  induction k with
  | zero =>
    intro m l w V h h3 hne hev hlt hm
    obtain ⟨m, rfl⟩ : ∃ j, m = j + 1 := ⟨m - 1, by omega⟩
    have h0 : V 2 = 0 := by
      rw [Nat.pow_zero] at hlt
      have : V 2 * V 3 = 0 := by omega
      rcases Nat.mul_eq_zero.mp this with e | e <;> omega
    exact ⟨l, w, V, ex m l w V h h0, h, by rw [h0, Nat.gcd_zero_left], by omega, fun _ _ _ => rfl⟩
  | succ k ih =>
    intro m l w V h h3 hne hev hlt hm
    obtain ⟨m, rfl⟩ : ∃ j, m = j + 1 := ⟨m - 1, by omega⟩
    by_cases h0 : V 2 = 0
    · exact ⟨l, w, V, ex m l w V h h0, h, by rw [h0, Nat.gcd_zero_left], by omega, fun _ _ _ => rfl⟩
    · obtain ⟨l1, w1, V1, a1, a2, a3, a4, a5, a6, a7, a8, a9⟩ := p4_low57 m l w V h (by omega) h3 hne
      have := a8 hev
      obtain ⟨l', w', V', g1, g2, g3, g4, g5⟩ := ih m l1 w1 V1 a2 a3 a4 a5 (by rw [Nat.pow_succ] at hlt; omega) (by omega)
      exact ⟨l', w', V', by rw [a1]; exact g1, g2, by rw [g3, a6], g4, fun s q1 q2 => by rw [g5 s q1 q2, a9 s q1 q2]⟩
theorem p4_lowers {l w : Nat → Int32} {V : Nat → Nat} (h : p4_S l w V) (hb : 0 < V 1) : ∃ l' w' V', f_X9_lowers l w = some (l', w') ∧ p4_S l' w' V' ∧ V' 0 = V 0 / Nat.gcd (V 0) (V 1) ∧ V' 1 = V 1 / Nat.gcd (V 0) (V 1) ∧ ∀ s, 4 ≤ s → V' s = V s := by
  obtain ⟨n0, _, n0w, n0z⟩ := p4_wpos (h 0 (by decide) (by decide))
  have e0 : w (cx_ix 0) = nI n0 := n0w
  by_cases h0 : V 0 = 0
  · obtain ⟨l1, w1, s1, s2, s3⟩ := p4_sets (l := l) (w := w) (r := 1) (v := 1) (by decide) (by decide)
    refine ⟨l1, w1, _, ?_, h.set s2 s3, by rw [p4_un (by decide), h0, Nat.zero_div], by rw [p4_us, h0, Nat.gcd_zero_left, Nat.div_self hb], fun s hs => p4_un (by omega)⟩
    unfold f_X9_lowers
    rw [p2_gd (by decide), e0, n0z.mpr h0, if_pos (by decide), show f_X9_sets l w 1 1 = _ from s1, Option.bind_some]
  · have lt0 := (h 0 (by decide) (by decide)).lt
    rw [p4_P2] at lt0
    obtain ⟨l1, w1, V1, c, a1, a2, a3, a4, a5, a6, a7, a8, a9⟩ := p4_low16 480 cx_N0 l w V h (by omega) hb lt0 (by unfold cx_N0; omega)
    obtain ⟨l2, w2, b1, b2, b3⟩ := p4_takes (r := 2) (o := 0) (by decide) (by decide) (by decide) (a2 0 (by decide) (by decide))
    have s2 := a2.set b2 b3
    have r1 := s2 1 (by decide) (by decide)
    rw [p4_un (by decide)] at r1
    obtain ⟨l3, w3, c1, c2, c3⟩ := p4_takes (r := 3) (o := 1) (by decide) (by decide) (by decide) r1
    have s3 := s2.set c2 c3
    have v2 : p4_u (p4_u V1 2 (V1 0)) 3 (V1 1) 2 = V1 0 := by rw [p4_un (by decide), p4_us]
    have v3 : p4_u (p4_u V1 2 (V1 0)) 3 (V1 1) 3 = V1 1 := p4_us
    obtain ⟨l4, w4, V4, d1, d2, d3, d4, d5, d6, d7, d8, d9⟩ := p4_low57 9999999999 l3 w3 _ s3 (by rw [v2]; exact a6) (by rw [v3]; exact a7) (by rw [v2, v3]; exact a8)
    rw [v2, v3] at d6 d7
    have lt1 := (a2 0 (by decide) (by decide)).lt
    have lt1' := (a2 1 (by decide) (by decide)).lt
    rw [p4_P2] at lt1 lt1'
    have hprod : V4 2 * V4 3 < 2 ^ 960 := by
      refine Nat.lt_of_le_of_lt d7 ?_
      rw [show (960 : Nat) = 480 + 480 from rfl, Nat.pow_add]
      exact Nat.mul_lt_mul_of_lt_of_le lt1 (Nat.le_of_lt lt1') (Nat.pow_pos (by decide))
    obtain ⟨l5, w5, V5, f1, f2, f3, f4, f5⟩ := p4_gcdL 960 9999999999 l4 w4 V4 d2 d3 d4 d5 hprod (by decide)
    rw [d6] at f3
    have k0 : V5 0 = V1 0 := by rw [f5 0 (by decide) (by decide), d9 0 (by decide) (by decide), p4_un (by decide), p4_un (by decide)]
    have k1 : V5 1 = V1 1 := by rw [f5 1 (by decide) (by decide), d9 1 (by decide) (by decide), p4_un (by decide), p4_un (by decide)]
    obtain ⟨q0, hq0⟩ := Nat.gcd_dvd_left (V1 0) (V1 1)
    obtain ⟨q1, hq1⟩ := Nat.gcd_dvd_right (V1 0) (V1 1)
    rw [← f3] at hq0 hq1
    have r0 := f2 0 (by decide) (by decide)
    rw [k0, hq0] at r0
    obtain ⟨l6, w6, g1, g2, g3⟩ := p4_dividesOdd (r := 0) (by decide) r0 (f2 3 (by decide) (by decide)) f4
    have s6 := f2.set2 g2 g3
    have r1 := s6 1 (by decide) (by decide)
    rw [p4_un (by decide), k1, hq1] at r1
    have r3 := s6 3 (by decide) (by decide)
    rw [p4_un (by decide)] at r3
    obtain ⟨l7, w7, i1, i2, i3⟩ := p4_dividesOdd (r := 1) (by decide) r1 r3 f4
    have s7 := s6.set2 i2 i3
    have hgp : 0 < V5 3 := by rw [f3]; exact Nat.gcd_pos_of_pos_left _ a6
    have hgg : Nat.gcd (V 0) (V 1) = c * V5 3 := by rw [a3, a4, Nat.gcd_mul_left, f3]
    refine ⟨l7, w7, _, ?_, s7, ?_, ?_, fun s hs => ?_⟩
    · unfold f_X9_lowers
      rw [p2_gd (by decide), e0, if_neg (fun q => h0 (n0z.mp ((p4_i0 (d := n0) (by omega)).mp q))), a1]
      unfold f_X9_lowers_J45
      rw [show f_X9_takes l1 w1 2 0 = _ from b1, Option.bind_some, show f_X9_takes l2 w2 3 1 = _ from c1, Option.bind_some, show cx_N0 = 9999999999 + 1 from rfl, d1, f1, show f_X9_dividesOdd l5 w5 0 = _ from g1, Option.bind_some, show f_X9_dividesOdd l6 w6 1 = _ from i1, Option.bind_some]
    · rw [p4_un (by decide), p4_us, hgg, a3, hq0, Nat.mul_div_mul_left _ _ a5, Nat.mul_div_cancel_left _ hgp]
    · rw [p4_us, hgg, a4, hq1, Nat.mul_div_mul_left _ _ a5, Nat.mul_div_cancel_left _ hgp]
    · rw [p4_un (by omega), p4_un (by omega), f5 s (by omega) (by omega), d9 s (by omega) (by omega), p4_un (by omega), p4_un (by omega), a9 s (by omega)]
