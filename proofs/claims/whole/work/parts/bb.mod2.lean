section M2
variable {bk : Nat → Int32} {n0 n1 n2 n3 n4 : Nat} {li is : Nat → Int32} {ω : Nat → Nat}
/-- isTwice -/
theorem m_isTwice (hB : q_BK bk n0 n1 n2 n3 n4) (his : ∀ h, h < n2 → is h = nI (ω h) ∧ ω h < 6) : f_X9_isTwice bk is = some (p2_b (p8_twb (k_hp bk) ω n2 = true)) := by
  obtain ⟨b0, b1, b2, b3, b4, e0, e1, e2, e3, e4, v⟩ := id hB
  have q2 : bk (cx_ix 2) = nI n2 := e2
  have inner : ∀ (h : Nat), h < n2 → ∀ (A : Bool) (rc : Int32 → Int32 → Option Int32) (r o m : Nat), o + r = h → r < m → f_X9_isTwice_L16w bk is (nI h) rc m (p2_b ((A || (decide (ω h ≠ 5) && p8_tb (k_hp bk) ω (k_hp bk h) (ω h) o)) = true)) (nI o) = rc (p2_b ((A || (decide (ω h ≠ 5) && p8_tb (k_hp bk) ω (k_hp bk h) (ω h) h)) = true)) (nI (h + 1)) := by
    intro h hh A rc r
    induction r with
    | zero =>
      intro o m h1 h2
      obtain ⟨m, rfl⟩ : ∃ j, m = j + 1 := ⟨m - 1, by omega⟩
      show f_X9_isTwice_L16 bk is (nI h) rc (f_X9_isTwice_L16w bk is (nI h) rc m) _ (nI o) = _
      unfold f_X9_isTwice_L16
      rw [if_pos (nI_le (by omega) (by omega)), nI_1, show o = h by omega]
    | succ r ih =>
      intro o m h1 h2
      obtain ⟨m, rfl⟩ : ∃ j, m = j + 1 := ⟨m - 1, by omega⟩
      rw [← ih (o + 1) m (by omega) (by omega)]
      show f_X9_isTwice_L16 bk is (nI h) rc (f_X9_isTwice_L16w bk is (nI h) rc m) _ (nI o) = _
      unfold f_X9_isTwice_L16 f_X9_isTwice_J65 f_X9_isTwice_J69 f_X9_isTwice_J70
      rw [if_neg (nI_ge (by omega) (by omega)), nI_1, p4_bt]
      have hx := his h hh
      have hy := his o (by omega)
      have hx2 := hx.2
      have hy2 := hy.2
      rw [p8_tb]
      by_cases hA : (A || (decide (ω h ≠ 5) && p8_tb (k_hp bk) ω (k_hp bk h) (ω h) o)) = true
      · rw [if_pos hA]
        have : (A || (decide (ω h ≠ 5) && (decide (k_hp bk o = k_hp bk h ∧ ω o = ω h) || p8_tb (k_hp bk) ω (k_hp bk h) (ω h) o))) = true := by
          rw [Bool.or_eq_true] at hA ⊢
          rcases hA with z | z
          · exact Or.inl z
          · right
            rw [Bool.and_eq_true] at z ⊢
            exact ⟨z.1, by rw [z.2]; simp⟩
        rw [this]
        rfl
      · rw [if_neg hA, p2_gd (p2_ib (by omega) (by decide)), p2_gd (p2_ib (by omega) (by decide)), p2_ix (n := h) (by omega), p2_ix (n := o) (by omega), hx.1, hy.1, p2_gd (p2_ib (by omega) (by decide)), (m_hp hB h hh).1, Option.bind_some, (m_hp hB o (by omega)).1, Option.bind_some]
        have hp1 := (m_hp hB h hh).2
        have hp2 := (m_hp hB o (by omega)).2
        have hA' : A = false ∧ (decide (ω h ≠ 5) && p8_tb (k_hp bk) ω (k_hp bk h) (ω h) o) = false := by
          rw [Bool.or_eq_true] at hA
          exact ⟨by by_cases z : A = true; exact absurd (Or.inl z) hA; simpa using z, by by_cases z : (decide (ω h ≠ 5) && p8_tb (k_hp bk) ω (k_hp bk h) (ω h) o) = true; exact absurd (Or.inr z) hA; simpa using z⟩
        by_cases c1 : ω h = ω o
        · rw [if_pos (by rw [c1])]
          by_cases c5 : ω h = 5
          · rw [if_pos ((k_5 hx2).mpr c5)]
            have : (A || (decide (ω h ≠ 5) && (decide (k_hp bk o = k_hp bk h ∧ ω o = ω h) || p8_tb (k_hp bk) ω (k_hp bk h) (ω h) o))) = false := by rw [hA'.1]; simp [c5]
            rw [this]
            rfl
          · rw [if_neg (fun q => c5 ((k_5 hx2).mp q))]
            by_cases c2 : k_hp bk h = k_hp bk o
            · rw [if_pos (by rw [c2])]
              have : (A || (decide (ω h ≠ 5) && (decide (k_hp bk o = k_hp bk h ∧ ω o = ω h) || p8_tb (k_hp bk) ω (k_hp bk h) (ω h) o))) = true := by rw [hA'.1, show decide (ω h ≠ 5) = true from decide_eq_true c5, show decide (k_hp bk o = k_hp bk h ∧ ω o = ω h) = true from decide_eq_true ⟨c2.symm, c1.symm⟩]; rfl
              rw [this]
              rfl
            · rw [if_neg (fun q => c2 ((nI_eq (by omega) (by omega)).mp q))]
              have : (A || (decide (ω h ≠ 5) && (decide (k_hp bk o = k_hp bk h ∧ ω o = ω h) || p8_tb (k_hp bk) ω (k_hp bk h) (ω h) o))) = false := by
                rw [hA'.1]
                have z := hA'.2
                rw [show decide (k_hp bk o = k_hp bk h ∧ ω o = ω h) = false from decide_eq_false (fun y => c2 y.1.symm), Bool.false_or, Bool.false_or]
                exact z
              rw [this]
              rfl
        · rw [if_neg (fun q => c1 ((nI_eq (by omega) (by omega)).mp q))]
          have : (A || (decide (ω h ≠ 5) && (decide (k_hp bk o = k_hp bk h ∧ ω o = ω h) || p8_tb (k_hp bk) ω (k_hp bk h) (ω h) o))) = false := by
            rw [hA'.1, show decide (k_hp bk o = k_hp bk h ∧ ω o = ω h) = false from decide_eq_false (fun y => c1 y.2.symm), Bool.false_or, Bool.false_or]
            exact hA'.2
          rw [this]
          rfl
  have outer : ∀ (r h m : Nat), h + r = n2 → r < m → f_X9_isTwice_L4w bk is m (p2_b (p8_twb (k_hp bk) ω h = true)) (nI h) = some (p2_b (p8_twb (k_hp bk) ω n2 = true)) := by
    intro r
    induction r with
    | zero =>
      intro h m h1 h2
      obtain ⟨m, rfl⟩ : ∃ j, m = j + 1 := ⟨m - 1, by omega⟩
      show f_X9_isTwice_L4 bk is (f_X9_isTwice_L4w bk is m) _ (nI h) = _
      unfold f_X9_isTwice_L4
      rw [p2_gd (by decide), q2, if_pos (nI_le (by omega) (by omega)), show h = n2 by omega, p2_gd]
      simp only [p2_b]
      split <;> decide
    | succ r ih =>
      intro h m h1 h2
      obtain ⟨m, rfl⟩ : ∃ j, m = j + 1 := ⟨m - 1, by omega⟩
      rw [← ih (h + 1) m (by omega) (by omega)]
      have := inner h (by omega) (p8_twb (k_hp bk) ω h) (f_X9_isTwice_L4w bk is m) h 0 cx_N0 (by omega) (by unfold cx_N0; omega)
      have z0 : (p8_twb (k_hp bk) ω h || (decide (ω h ≠ 5) && p8_tb (k_hp bk) ω (k_hp bk h) (ω h) 0)) = p8_twb (k_hp bk) ω h := by
        rw [p8_tb, Bool.and_false, Bool.or_false]
      rw [z0] at this
      show f_X9_isTwice_L4 bk is (f_X9_isTwice_L4w bk is m) _ (nI h) = _
      unfold f_X9_isTwice_L4
      rw [p2_gd (by decide), q2, if_neg (nI_ge (by omega) (by omega))]
      exact this
  unfold f_X9_isTwice
  exact outer n2 0 cx_N0 (by omega) (by unfold cx_N0; omega)
/-- termOf -/
theorem m_termOf (hB : q_BK bk n0 n1 n2 n3 n4) (hLI : q_LI bk n0 n2 li) (his : ∀ h, h < n2 → is h = nI (ω h) ∧ k_w n0 (ω h)) (p y : Nat) (hp : p < n1) (hy : y < 12) : f_X9_termOf bk is li (nI p) (nI y) = some (lN (p6_T (k_hp bk) (q_L bk (k_fr bk)) ω n2 p y)) := by
  obtain ⟨b0, b1, b2, b3, b4, e0, e1, e2, e3, e4, v0, v1, v2, v3, v4, v5⟩ := id hB
  have q2 : bk (cx_ix 2) = nI n2 := e2
  have loop : ∀ (r h m : Nat), h + r = n2 → r < m → f_X9_termOf_L5w bk is li (nI p) (nI y) m (lN (p6_T (k_hp bk) (q_L bk (k_fr bk)) ω h p y)) (nI h) = some (lN (p6_T (k_hp bk) (q_L bk (k_fr bk)) ω n2 p y)) := by
    intro r
    induction r with
    | zero =>
      intro h m h1 h2
      obtain ⟨m, rfl⟩ : ∃ j, m = j + 1 := ⟨m - 1, by omega⟩
      show f_X9_termOf_L5 bk is li (nI p) (nI y) (f_X9_termOf_L5w bk is li (nI p) (nI y) m) _ (nI h) = _
      unfold f_X9_termOf_L5
      rw [p2_gd (by decide), q2, if_pos (nI_le (by omega) (by omega)), show h = n2 by omega]
    | succ r ih =>
      intro h m h1 h2
      obtain ⟨m, rfl⟩ : ∃ j, m = j + 1 := ⟨m - 1, by omega⟩
      rw [← ih (h + 1) m (by omega) (by omega), p6_T_s]
      obtain ⟨h3, h4⟩ := m_hp hB h (by omega)
      obtain ⟨i1, i2⟩ := his h (by omega)
      have i3 := k_w_lt b0 i2
      show f_X9_termOf_L5 bk is li (nI p) (nI y) (f_X9_termOf_L5w bk is li (nI p) (nI y) m) _ (nI h) = _
      unfold f_X9_termOf_L5 f_X9_termOf_J56
      rw [p2_gd (by decide), q2, if_neg (nI_ge (by omega) (by omega)), h3, Option.bind_some, nI_1]
      by_cases c : k_hp bk h = p
      · have hl := hLI h (ω h) y (by omega) i2 hy
        have hb := (k_lk_spec v5 h (ω h) (k_fr bk (k_hp bk h) + y) i3).2
        rw [if_pos (by rw [c]), if_pos c, p2_gd (p2_ib (by omega) (by decide)), p2_ix (n := h) (by omega), i1, show (72 : Int32) = nI 72 from rfl, show (12 : Int32) = nI 12 from rfl, pk_mul, pk_mul, nI_add, nI_add, p2_gd (p2_ib (by omega) (by decide)), p2_ix (n := 72 * h + 12 * ω h + y) (by omega), hl, nI_l (by omega), lN_mul]
        rfl
      · rw [if_neg (fun q => c ((nI_eq (by omega) (by omega)).mp q)), if_neg c, show (1 : Int64) = lN 1 from rfl, lN_mul]
  unfold f_X9_termOf
  exact loop n2 0 cx_N0 (by omega) (by unfold cx_N0; omega)
end M2
/-! the look of the reference -/
def q_fy (bk : Nat → Int32) (n1 : Nat) (on : Bool) (p0 y0 : Nat) (p : Nat) : Nat := if p < n1 then (if on = true ∧ p = p0 then k_fr bk p + y0 else k_fr bk p) else 0
def q_yc (bk : Nat → Int32) (n1 : Nat) (on : Bool) (p0 : Nat) (p : Nat) : Nat := if p < n1 then (if on = true ∧ p = p0 then 1 else k_to bk p - k_fr bk p + 1) else 1
def q_of (on : Bool) (p0 y0 p : Nat) : Nat := if on = true ∧ p = p0 then y0 else 0
def q_LM (bk : Nat → Int32) (n1 n3 : Nat) (on : Bool) (p0 y0 sk : Nat) (od : Bool) (ea la : Nat) (wo oP oY fi se : Int32) : Prop :=
  (∀ n, n < n3 → (nI n = wo ↔ n = sk)) ∧ (on = true → oP = nI p0 ∧ oY = nI y0 ∧ p0 < n1 ∧ y0 < k_to bk p0 - k_fr bk p0 + 1) ∧ (on = false → oP = -1) ∧ (od = true → fi = nI ea ∧ se = nI la ∧ ea < n1 ∧ la < n1 ∧ ea ≠ la) ∧ (od = false → fi = -1) ∧ (od = true → on = false)
section M3
variable {bk : Nat → Int32} {n0 n1 n2 n3 n4 : Nat} {li is : Nat → Int32} {ω : Nat → Nat} {on od : Bool} {p0 y0 sk ea la : Nat} {wo oP oY fi se : Int32}
theorem q_LK_of (hB : q_BK bk n0 n1 n2 n3 n4) (hLM : q_LM bk n1 n3 on p0 y0 sk od ea la wo oP oY fi se) : q_LK n1 n3 (q_fy bk n1 on p0 y0) (q_yc bk n1 on p0) sk od ea la := by
  obtain ⟨l1, l2, l3, l4, l5, l6⟩ := hLM
  refine ⟨fun p => ?_, fun p => ?_, fun q => ⟨(l4 q).2.2.1, (l4 q).2.2.2.1, (l4 q).2.2.2.2⟩⟩
  · unfold q_yc
    split
    · rename_i hp
      have := (m_years hB p hp).2.1
      split <;> omega
    · decide
  · unfold q_fy
    split
    · rename_i hp
      have h1 := (m_years hB p hp).2.2.2
      split
      · rename_i q
        have := (l2 q.1).2.2.2
        obtain ⟨b0, b1, b2, b3, b4, e0, e1, e2, e3, e4, v0, v1, v2, v3, v4, v5⟩ := hB
        have h2 := (k_pic_spec (v1 p hp)).2.2.2.1
        rw [← q.2] at this
        omega
      · exact h1.1
    · decide
/-- a term in the look is a term in the whole, from its first year on -/
theorem q_T (hB : q_BK bk n0 n1 n2 n3 n4) (p y : Nat) (hp : p < n1) (k : Nat) : p6_T (k_hp bk) (q_L bk (q_fy bk n1 on p0 y0)) ω k p y = p6_T (k_hp bk) (q_L bk (k_fr bk)) ω k p (q_of on p0 y0 p + y) := by
  unfold p6_T
  refine p6_pr_congr (fun h _ => ?_)
  by_cases c : k_hp bk h = p
  · rw [if_pos c, if_pos c]
    unfold q_L q_fy q_of
    rw [c, if_pos hp]
    by_cases q : on = true ∧ p = p0
    · rw [if_pos q, if_pos q, Nat.add_assoc]
    · rw [if_neg q, if_neg q, Nat.zero_add]
  · rw [if_neg c, if_neg c]
end M3
