/-! THE CLASS'S WAYS: the steps -/
def p8_OK (hp : Nat → Nat) (L : Nat → Nat → Nat → Nat) (yc fy : Nat → Nat) (n0 n1 n2 n3 n4 : Nat) (od : Bool) (ea la : Nat) (nh : Nat → Nat) (nf : Nat → Nat → Nat) (ja jb jw : Nat → Nat) : Prop :=
  n0 ≤ 5 ∧ n1 ≤ 4 ∧ n2 ≤ 6 ∧ n3 ≤ 4 ∧ n4 ≤ 4 ∧ (∀ h, h < n2 → hp h < n1) ∧ (od = true → ea < n1 ∧ la < n1 ∧ ea ≠ la) ∧ (∀ p, yc p ≤ 12) ∧ (∀ p, fy p ≤ 99) ∧ (∀ h w y, h < n2 → k_w n0 w → L h w y ≤ 324) ∧ (∀ n, n < n3 → nh n < n2 ∧ ∀ w, nf n w ≤ 10) ∧ (∀ j, j < n4 → ja j < n2 ∧ jb j < n2 ∧ jw j ≤ 10 ∧ ja j ≠ jb j)
def p8_ST (hp : Nat → Nat) (L : Nat → Nat → Nat → Nat) (yc fy : Nat → Nat) (n0 n1 n2 n3 : Nat) (od : Bool) (ea la : Nat) (nh : Nat → Nat) (nf : Nat → Nat → Nat) (eI lI : Int32) (fyA ycA plA bfA clA lkA lsA nmA : Nat → Int32) : Prop :=
  (∀ p, p < n1 → fyA p = nI (fy p) ∧ ycA p = nI (yc p)) ∧ (∀ h, h < n2 → plA h = nI (hp h) ∧ bfA h = nI (p6_cl hp h (hp h))) ∧ (∀ p, p < n1 → clA p = nI (p6_cl hp n2 p)) ∧
  (∀ h w, h < n2 → k_w n0 w → (∀ y, y < yc (hp h) → lkA ((h * 6 + w) * 12 + y) = nI (L h w y)) ∧ lsA (h * 6 + w) = nI (p6_sm (yc (hp h)) (L h w)) ∧ nmA (h * 6 + w) = nI (p6_pr n3 (fun n => if nh n = h then nf n w else 1))) ∧ (od = true → eI = nI ea ∧ lI = nI la) ∧ (od = false → eI = -1 ∧ lI = -1)
/-- the products of the heads below h -/
def p8_PR (hp : Nat → Nat) (L : Nat → Nat → Nat → Nat) (yc : Nat → Nat) (n2 : Nat) (od : Bool) (ea la : Nat) (pr : Nat → Int64) (h : Nat) (ω : Nat → Nat) : Prop :=
  (∀ y, y < 12 → pr (72 + y) = lN 1) ∧ ∀ e, e < h → (p6_cl hp n2 (hp e) ≠ e ∨ p6_iob od ea la (hp e) = true) → ∀ y, y < yc (hp e) → pr (e * 12 + y) = lN (p6_T hp L ω (e + 1) (hp e) y)
/-- one is on a picture already -/
def p8_tb (hp ω : Nat → Nat) (p w : Nat) : Nat → Bool
  | 0 => false
  | k + 1 => decide (hp k = p ∧ ω k = w) || p8_tb hp ω p w k
theorem p8_tb_iff (hp ω : Nat → Nat) (p w : Nat) : ∀ k, p8_tb hp ω p w k = true ↔ ∃ e, e < k ∧ hp e = p ∧ ω e = w := by
  intro k
  induction k with
  | zero => exact ⟨fun h => (by cases h), fun ⟨e, h, _⟩ => by omega⟩
  | succ k ih =>
    rw [p8_tb, Bool.or_eq_true, decide_eq_true_iff, ih]
    constructor
    · rintro (h | ⟨e, h1, h2⟩)
      · exact ⟨k, by omega, h⟩
      · exact ⟨e, by omega, h2⟩
    · rintro ⟨e, h1, h2⟩
      by_cases q : e = k
      · subst q; exact Or.inl h2
      · exact Or.inr ⟨e, by omega, h2⟩
/-- the same one twice -/
def p8_twb (hp ω : Nat → Nat) : Nat → Bool
  | 0 => false
  | k + 1 => p8_twb hp ω k || (decide (ω k ≠ 5) && p8_tb hp ω (hp k) (ω k) k)
theorem p8_twb_iff (hp ω : Nat → Nat) : ∀ k, p8_twb hp ω k = true ↔ p6_tw hp ω k := by
  intro k
  induction k with
  | zero => exact ⟨fun h => (by cases h), fun ⟨h, e, h1, _⟩ => by omega⟩
  | succ k ih =>
    rw [p8_twb, Bool.or_eq_true, ih, Bool.and_eq_true, decide_eq_true_iff, p8_tb_iff]
    constructor
    · rintro (⟨h, e, h1, h2⟩ | ⟨h5, e, h1, h2, h3⟩)
      · exact ⟨h, e, by omega, h2⟩
      · exact ⟨k, e, by omega, h1, h3.symm, h5, h2.symm⟩
    · rintro ⟨h, e, h1, h2, h3, h4, h5⟩
      by_cases q : h = k
      · subst q; exact Or.inr ⟨h4, e, h2, h5.symm, h3.symm⟩
      · exact Or.inl ⟨h, e, by omega, h2, h3, h4, h5⟩
theorem p6_T_s {hp : Nat → Nat} {L : Nat → Nat → Nat → Nat} {ω : Nat → Nat} {k p y : Nat} : p6_T hp L ω (k + 1) p y = p6_T hp L ω k p y * (if hp k = p then L k (ω k) y else 1) := rfl
section W1
variable {hp : Nat → Nat} {L : Nat → Nat → Nat → Nat} {yc fy : Nat → Nat} {n0 n1 n2 n3 n4 : Nat} {od : Bool} {ea la : Nat} {nh : Nat → Nat} {nf : Nat → Nat → Nat} {ja jb jw : Nat → Nat} {ω : Nat → Nat}
variable {eI lI : Int32} {fyA ycA plA bfA clA lkA lsA nmA wy c4 : Nat → Int32} {z4 : Int32} {pr : Nat → Int64}
theorem p8_T_bd {k p y : Nat} (hk : k ≤ 6) (hL : ∀ h, h < k → L h (ω h) y ≤ 324) : p6_T hp L ω k p y ≤ 1156831381426176 := Nat.le_trans (p6_T_le hL) (Nat.le_trans p6_G_le (Nat.le_trans (Nat.pow_le_pow_right (by decide) hk) (by decide)))
theorem p8_thereL (h w : Nat) (hh : h < 6) (hw : w < 6) (hpl : ∀ e, e < h → bfA e = nI (p6_cl hp e (hp e))) (hwy : ∀ e, e < h → wy e = nI (ω e) ∧ ω e < 6) (p : Nat) : ∀ (b k m i : Nat), k ≤ b → k < m → i + k ≤ 6 → k ≤ h → f_X7_isThereAlready_L10w bfA wy (nI w) m (nI (p6_cl hp k p)) (nI i) = some (if w = 5 then 0 else p2_b (p8_tb hp ω p w k = true)) := by
  intro b
  induction b with
  | zero =>
    intro k m i h1 h2 h3 h4
    obtain ⟨m, rfl⟩ : ∃ j, m = j + 1 := ⟨m - 1, by omega⟩
    have e : k = 0 := by omega
    subst e
    show f_X7_isThereAlready_L10 bfA wy (nI w) (f_X7_isThereAlready_L10w bfA wy (nI w) m) (nI 6) (nI i) = _
    unfold f_X7_isThereAlready_L10
    rw [if_pos (show nI 6 = 6 from rfl)]
    have : p8_tb hp ω p w 0 = false := rfl
    rw [this]
    simp
  | succ b ih =>
    intro k m i h1 h2 h3 h4
    obtain ⟨m, rfl⟩ : ∃ j, m = j + 1 := ⟨m - 1, by omega⟩
    show f_X7_isThereAlready_L10 bfA wy (nI w) (f_X7_isThereAlready_L10w bfA wy (nI w) m) (nI (p6_cl hp k p)) (nI i) = _
    unfold f_X7_isThereAlready_L10
    by_cases hc : p6_cl hp k p = 6
    · have ht : p8_tb hp ω p w k = false := by
        by_cases q : p8_tb hp ω p w k = true
        · obtain ⟨e, e1, e2, _⟩ := (p8_tb_iff hp ω p w k).mp q
          exact absurd e2 (p6_cl_6 (by omega) hc e e1)
        · simpa using q
      rw [hc, if_pos (show nI 6 = 6 from rfl), ht]
      simp
    · obtain ⟨l1, l2, l3⟩ := p6_cl_lt hc
      rw [show (6 : Int32) = nI 6 from rfl, if_neg (nI_ge (by omega) (by omega)), if_neg (fun q => hc ((nI_eq (by omega) (by omega)).mp q))]
      by_cases h5 : w = 5
      · rw [if_pos ((k_5 hw).mpr h5), if_pos h5]
      · rw [if_neg (fun q => h5 ((k_5 hw).mp q)), if_neg h5, p2_gd (p2_ib (by omega) (by decide)), p2_ix (n := p6_cl hp k p) (by omega), (hwy _ (by omega)).1]
        have hx := (hwy (p6_cl hp k p) (by omega)).2
        by_cases hq : ω (p6_cl hp k p) = w
        · rw [if_pos (by rw [hq]), p2_b, if_pos ((p8_tb_iff hp ω p w k).mpr ⟨_, l1, l2, hq⟩)]
        · rw [if_neg (fun q => hq ((nI_eq (by omega) (by omega)).mp q)), p2_gd (p2_ib (by omega) (by decide)), hpl _ (by omega), l2, nI_1, ih _ m (i + 1) (by omega) (by omega) (by omega) (by omega), if_neg h5]
          congr 2
          simp only [eq_iff_iff]
          rw [p8_tb_iff, p8_tb_iff]
          constructor
          · rintro ⟨e, e1, e2⟩
            exact ⟨e, by omega, e2⟩
          · rintro ⟨e, e1, e2, e3⟩
            refine ⟨e, ?_, e2, e3⟩
            rcases Nat.lt_trichotomy e (p6_cl hp k p) with q | q | q
            · exact q
            · rw [q] at e3; exact absurd e3 hq
            · exact absurd e2 (l3 e q e1)
theorem p8_there (h w : Nat) (hh : h < 6) (hw : w < 6) (hpl : ∀ e, e ≤ h → bfA e = nI (p6_cl hp e (hp e))) (hwy : ∀ e, e < h → wy e = nI (ω e) ∧ ω e < 6) : f_X7_isThereAlready bfA wy (nI h) (nI w) = some (if w = 5 then 0 else p2_b (p8_tb hp ω (hp h) w h = true)) := by
  unfold f_X7_isThereAlready
  rw [p2_gd (p2_ib hh (by decide)), p2_ix (n := h) (by omega), hpl h (Nat.le_refl _)]
  exact p8_thereL h w hh hw (fun e he => hpl e (by omega)) hwy (hp h) h h cx_N0 0 (Nat.le_refl _) (by unfold cx_N0; omega) (by omega) (Nat.le_refl _)
/-- joinings -/
theorem p8_joinL {bk : Nat → Int32} (hr4 : p2_rr 3 4 100 4 n4 c4 z4 bk) (h w : Nat) (hh : h < 6) (hw : w < 6) (hV : ∀ j, j < n4 → bk (100 + 3 * j + 0) = nI (ja j) ∧ bk (100 + 3 * j + 1) = nI (jb j) ∧ bk (100 + 3 * j + 2) = nI (jw j) ∧ ja j < 6 ∧ jb j < 6 ∧ jw j ≤ 10 ∧ ja j ≠ jb j) (hwy : ∀ e, e < h → wy e = nI (ω e) ∧ ω e < 6) : ∀ (r j m : Nat), j + r = n4 → r < m → f_X7_joinings_L5w wy c4 z4 (nI h) (nI w) m (nI (p6_pr j (fun j => if max (ja j) (jb j) = h then p6_jf ja jb jw (p4_u ω h w) j else 1))) (nI j) = some (nI (p6_jm n4 ja jb jw (p4_u ω h w) h)) := by
  have hz4 := hr4.2.1
  have hn4 := hr4.1
  intro r
  induction r with
  | zero =>
    intro j m h1 h2
    obtain ⟨m, rfl⟩ : ∃ j, m = j + 1 := ⟨m - 1, by omega⟩
    show f_X7_joinings_L5 wy c4 z4 (nI h) (nI w) (f_X7_joinings_L5w wy c4 z4 (nI h) (nI w) m) _ (nI j) = _
    unfold f_X7_joinings_L5
    rw [hz4, if_pos (nI_le (by omega) (by omega)), show j = n4 by omega]
    rfl
  | succ r ih =>
    intro j m h1 h2
    obtain ⟨m, rfl⟩ : ∃ j, m = j + 1 := ⟨m - 1, by omega⟩
    obtain ⟨v1, v2, v3, v4, v5, v6, v7⟩ := hV j (by omega)
    have p0 : f_X4_at 3 12 c4 z4 (nI j) 0 = some (nI (ja j)) := by rw [← v1]; exact p2_atJ hr4 j 0 (by omega) (by decide)
    have p1 : f_X4_at 3 12 c4 z4 (nI j) 1 = some (nI (jb j)) := by rw [← v2]; exact p2_atJ hr4 j 1 (by omega) (by decide)
    have p2 : f_X4_at 3 12 c4 z4 (nI j) 2 = some (nI (jw j)) := by rw [← v3]; exact p2_atJ hr4 j 2 (by omega) (by decide)
    have ihj := ih (j + 1) m (by omega) (by omega)
    rw [p6_pr] at ihj
    rw [← ihj]
    show f_X7_joinings_L5 wy c4 z4 (nI h) (nI w) (f_X7_joinings_L5w wy c4 z4 (nI h) (nI w) m) _ (nI j) = _
    unfold f_X7_joinings_L5 f_X7_joinings_J122 f_X7_joinings_J101 f_X7_joinings_J102 f_X7_joinings_J120 f_X7_joinings_J122
    have hz : ¬ z4 ≤ nI j := by rw [hz4]; exact nI_ge (by omega) (by omega)
    rw [if_neg hz, p0, Option.bind_some, p1, Option.bind_some, p2, Option.bind_some]
    have emax : (if nI (ja j) < nI (jb j) then nI (jb j) else nI (ja j)) = nI (max (ja j) (jb j)) := by
      by_cases q : ja j < jb j
      · rw [if_pos ((nI_ltI (by omega) (by omega)).mpr q), Nat.max_eq_right (by omega)]
      · rw [if_neg (fun z => q ((nI_ltI (by omega) (by omega)).mp z)), Nat.max_eq_left (by omega)]
    have emin : (if nI (jb j) < nI (ja j) then nI (jb j) else nI (ja j)) = nI (min (ja j) (jb j)) := by
      by_cases q : jb j < ja j
      · rw [if_pos ((nI_ltI (by omega) (by omega)).mpr q), Nat.min_eq_right (by omega)]
      · rw [if_neg (fun z => q ((nI_ltI (by omega) (by omega)).mp z)), Nat.min_eq_left (by omega)]
    rw [emax, emin, nI_1]
    by_cases hm : max (ja j) (jb j) = h
    · have hlt : min (ja j) (jb j) < h := by omega
      have hx := hwy _ hlt
      rw [if_pos (by rw [hm]), if_pos hm, ← pk_mul]
      have ejf : p6_jf ja jb jw (p4_u ω h w) j = if w ≠ 5 ∧ ω (min (ja j) (jb j)) = w then jw j else 10 - jw j := by
        unfold p6_jf
        by_cases q : ja j < jb j
        · have e1 : jb j = h := by omega
          have e2 : min (ja j) (jb j) = ja j := by omega
          rw [e2, e1, p4_us, p4_un (by omega)]
          by_cases z : w ≠ 5 ∧ ω (ja j) = w
          · rw [if_pos z, if_pos ⟨z.2, by rw [z.2]; exact z.1⟩]
          · rw [if_neg z, if_neg (fun y => z ⟨by rw [← y.1]; exact y.2, y.1⟩)]
        · have e1 : ja j = h := by omega
          have e2 : min (ja j) (jb j) = jb j := by omega
          rw [e2, e1, p4_us, p4_un (by omega)]
          by_cases z : w ≠ 5 ∧ ω (jb j) = w
          · rw [if_pos z, if_pos ⟨z.2.symm, z.1⟩]
          · rw [if_neg z, if_neg (fun y => z ⟨y.2, y.1.symm⟩)]
      have e10 : (10 : Int32) - nI (jw j) = nI (10 - jw j) := by rw [show (10 : Int32) = nI 10 from rfl, pk_sub v6]
      rw [ejf]
      by_cases h5 : w = 5
      · rw [if_pos ((k_5 hw).mpr h5), if_pos rfl, e10, if_neg (fun z => z.1 h5)]
      · rw [if_neg (fun q => h5 ((k_5 hw).mp q)), p2_gd (p2_ib (by omega) (by decide)), p2_ix (n := min (ja j) (jb j)) (by omega), hx.1]
        have hx2 := hx.2
        by_cases hq : ω (min (ja j) (jb j)) = w
        · rw [if_pos (by rw [hq]), if_neg (by decide), if_pos ⟨h5, hq⟩]
        · rw [if_neg (fun q => hq ((nI_eq (by omega) (by omega)).mp q)), if_pos rfl, e10, if_neg (fun z => hq z.2)]
    · rw [if_neg (fun q => hm ((nI_eq (by omega) (by omega)).mp q)), if_neg hm, Nat.mul_one]
end W1
