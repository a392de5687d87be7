/-! THE REFERENCE'S WAYS -/
def q_BK (bk : Nat → Int32) (n0 n1 n2 n3 n4 : Nat) : Prop := n0 ≤ 5 ∧ n1 ≤ 4 ∧ n2 ≤ 6 ∧ n3 ≤ 4 ∧ n4 ≤ 4 ∧ bk 0 = nI n0 ∧ bk 1 = nI n1 ∧ bk 2 = nI n2 ∧ bk 3 = nI n3 ∧ bk 4 = nI n4 ∧ p2_V bk n0 n1 n2 n3 n4
theorem q_BK_of {c0 c1 c2 c3 c4 : Nat → Int32} {z0 z1 z2 z3 z4 sg : Int32} {bk : Nat → Int32} {n0 n1 n2 n3 n4 : Nat} (h : p2_RB c0 z0 c1 z1 c2 z2 c3 z3 c4 z4 sg bk n0 n1 n2 n3 n4) : q_BK bk n0 n1 n2 n3 n4 := by
  obtain ⟨r0, r1, r2, r3, r4, rs, v⟩ := h
  exact ⟨r0.1, r1.1, r2.1, r3.1, r4.1, r0.2.2.1, r1.2.2.1, r2.2.2.1, r3.2.2.1, r4.2.2.1, v⟩
/-- the reference's likes hold the book's -/
def q_LI (bk : Nat → Int32) (n0 n2 : Nat) (li : Nat → Int32) : Prop := ∀ h w y, h < n2 → k_w n0 w → y < 12 → li (72 * h + 12 * w + y) = nI (k_lk bk h w (k_fr bk (k_hp bk h) + y))
section M1
variable {bk : Nat → Int32} {n0 n1 n2 n3 n4 : Nat} {li is : Nat → Int32} {ω : Nat → Nat}
theorem m_ways (hB : q_BK bk n0 n1 n2 n3 n4) : f_X9_ways bk = some (nI ((n0 + 1) ^ n2)) := by
  obtain ⟨b0, b1, b2, b3, b4, e0, e1, e2, e3, e4, v⟩ := hB
  have loop : ∀ (r h m : Nat), h + r = n2 → r < m → f_X9_ways_L4w bk m (nI ((n0 + 1) ^ h)) (nI h) = some (nI ((n0 + 1) ^ n2)) := by
    intro r
    induction r with
    | zero =>
      intro h m h1 h2
      obtain ⟨m, rfl⟩ : ∃ j, m = j + 1 := ⟨m - 1, by omega⟩
      show f_X9_ways_L4 bk (f_X9_ways_L4w bk m) _ (nI h) = _
      unfold f_X9_ways_L4
      have q2 : bk (cx_ix 2) = nI n2 := e2
      rw [p2_gd (by decide), q2, if_pos (nI_le (by omega) (by omega)), show h = n2 by omega]
    | succ r ih =>
      intro h m h1 h2
      obtain ⟨m, rfl⟩ : ∃ j, m = j + 1 := ⟨m - 1, by omega⟩
      rw [← ih (h + 1) m (by omega) (by omega), Nat.pow_succ]
      show f_X9_ways_L4 bk (f_X9_ways_L4w bk m) _ (nI h) = _
      unfold f_X9_ways_L4
      have q2 : bk (cx_ix 2) = nI n2 := e2
      have q0 : bk (cx_ix 0) = nI n0 := e0
      rw [p2_gd (by decide), q2, if_neg (nI_ge (by omega) (by omega)), p2_gd (by decide), q0, nI_1, pk_mul, nI_1]
      rfl
  unfold f_X9_ways
  exact loop n2 0 cx_N0 (by omega) (by unfold cx_N0; omega)
theorem m_ofHead (h t : Nat) (hh : h < 6) (ht : t < 5) : f_X9_ofHead bk (nI h) (nI t) = some (bk (50 + 5 * h + t)) := by
  unfold f_X9_ofHead
  rw [show (50 : Int32) = nI 50 from rfl, show (5 : Int32) = nI 5 from rfl, pk_mul, nI_add, nI_add, p2_gd (p2_ib (by omega) (by decide)), p2_ix (by omega)]
theorem m_hp (hB : q_BK bk n0 n1 n2 n3 n4) (h : Nat) (hh : h < n2) : f_X9_ofHead bk (nI h) 0 = some (nI (k_hp bk h)) ∧ k_hp bk h < n1 := by
  obtain ⟨b0, b1, b2, b3, b4, e0, e1, e2, e3, e4, v0, v1, v2, v3, v4, v5⟩ := hB
  obtain ⟨q1, q2⟩ := k_hp_spec (v2 h hh)
  refine ⟨?_, q2⟩
  rw [← q1]
  exact m_ofHead h 0 (by omega) (by decide)
theorem m_years (hB : q_BK bk n0 n1 n2 n3 n4) (p : Nat) (hp : p < n1) : f_X9_years bk (nI p) = some (nI (k_to bk p - k_fr bk p + 1)) ∧ k_to bk p - k_fr bk p + 1 ≤ 12 ∧ bk (40 + 2 * p) = nI (k_fr bk p) ∧ k_fr bk p ≤ 99 ∧ k_fr bk p ≤ k_to bk p := by
  obtain ⟨b0, b1, b2, b3, b4, e0, e1, e2, e3, e4, v0, v1, v2, v3, v4, v5⟩ := hB
  obtain ⟨q1, q2, q3, q4, q5⟩ := k_pic_spec (v1 p hp)
  refine ⟨?_, by omega, q1, by omega, q3⟩
  unfold f_X9_years
  rw [show (40 : Int32) = nI 40 from rfl, show (2 : Int32) = nI 2 from rfl, pk_mul, nI_add, nI_1, p2_gd (p2_ib (by omega) (by decide)), p2_gd (p2_ib (by omega) (by decide)), p2_ix (n := 40 + 2 * p + 1) (by omega), p2_ix (n := 40 + 2 * p) (by omega), q2, show bk (40 + 2 * p) = nI (k_fr bk p) from q1, pk_sub q3, nI_1]
/-- begins -/
theorem m_begins {c0 c1 c2 c3 c4 : Nat → Int32} {z0 z1 z2 z3 z4 sg : Int32} (hRB : p2_RB c0 z0 c1 z1 c2 z2 c3 z3 c4 z4 sg bk n0 n1 n2 n3 n4) (li : Nat → Int32) : ∃ li', f_X9_begins bk li = some (-1, -1, -1, li') ∧ q_LI bk n0 n2 li' := by
  have hB := q_BK_of hRB
  obtain ⟨b0, b1, b2, b3, b4, e0, e1, e2, e3, e4, v0, v1, v2, v3, v4, v5⟩ := id hB
  have q0 : bk (cx_ix 0) = nI n0 := e0
  have q2 : bk (cx_ix 2) = nI n2 := e2
  -- one row
  have rowY : ∀ (h p : Nat), h < n2 → p < 6 → ∀ (rc : (Nat → Int32) → Int32 → Option (Int32 × Int32 × Int32 × (Nat → Int32))) (r y m : Nat) (a : Nat → Int32), y + r = 12 → r < m → ∃ a', f_X9_begins_L44w bk (nI h) (nI (k_hp bk h)) (nI p) rc m a (nI y) = rc a' (nI (p + 1)) ∧ (∀ j, (j < 72 * h + 12 * p + y ∨ 72 * h + 12 * p + 12 ≤ j) → a' j = a j) ∧ (k_w n0 p → ∀ t, y ≤ t → t < 12 → a' (72 * h + 12 * p + t) = nI (k_lk bk h p (k_fr bk (k_hp bk h) + t))) := by
    intro h p hh hp rc r
    obtain ⟨_, hph⟩ := m_hp hB h hh
    obtain ⟨_, _, y3, y4, _⟩ := m_years hB (k_hp bk h) hph
    induction r with
    | zero =>
      intro y m a h1 h2
      obtain ⟨m, rfl⟩ : ∃ j, m = j + 1 := ⟨m - 1, by omega⟩
      refine ⟨a, ?_, fun _ _ => rfl, fun _ t t1 t2 => by omega⟩
      show f_X9_begins_L44 bk (nI h) (nI (k_hp bk h)) (nI p) rc (f_X9_begins_L44w bk (nI h) (nI (k_hp bk h)) (nI p) rc m) a (nI y) = _
      unfold f_X9_begins_L44
      rw [show (12 : Int32) = nI 12 from rfl, if_pos (nI_le (by omega) (by omega)), nI_1]
    | succ r ih =>
      intro y m a h1 h2
      obtain ⟨m, rfl⟩ : ∃ j, m = j + 1 := ⟨m - 1, by omega⟩
      have J106 : ∀ x, ∃ a', f_X9_begins_J106 a (nI y) (f_X9_begins_L44w bk (nI h) (nI (k_hp bk h)) (nI p) rc m) (nI (72 * h + 12 * p + y)) x = rc a' (nI (p + 1)) ∧ (∀ j, (j < 72 * h + 12 * p + y ∨ 72 * h + 12 * p + 12 ≤ j) → a' j = a j) ∧ a' (72 * h + 12 * p + y) = x ∧ (k_w n0 p → ∀ t, y + 1 ≤ t → t < 12 → a' (72 * h + 12 * p + t) = nI (k_lk bk h p (k_fr bk (k_hp bk h) + t))) := by
        intro x
        obtain ⟨a', g1, g2, g3⟩ := ih (y + 1) m (upd a (72 * h + 12 * p + y) x) (by omega) (by omega)
        refine ⟨a', ?_, fun j hj => by rw [g2 j (by omega), p2_un (by omega)], by rw [g2 _ (by omega), p2_us], g3⟩
        rw [← g1]
        unfold f_X9_begins_J106
        rw [p2_gd (p2_ib (by omega) (by decide)), p2_ix (n := 72 * h + 12 * p + y) (by omega), nI_1]
        rfl
      have st : f_X9_begins_L44w bk (nI h) (nI (k_hp bk h)) (nI p) rc (m + 1) a (nI y) = f_X9_begins_L44 bk (nI h) (nI (k_hp bk h)) (nI p) rc (f_X9_begins_L44w bk (nI h) (nI (k_hp bk h)) (nI p) rc m) a (nI y) := rfl
      have eidx : nI 72 * nI h + nI 12 * nI p + nI y = nI (72 * h + 12 * p + y) := by rw [pk_mul, pk_mul, nI_add, nI_add]
      have J82 : k_w n0 p → ∃ a', f_X9_begins_J82 bk (nI h) (nI (k_hp bk h)) (nI p) a (nI y) (f_X9_begins_L44w bk (nI h) (nI (k_hp bk h)) (nI p) rc m) (nI (72 * h + 12 * p + y)) = rc a' (nI (p + 1)) ∧ (∀ j, (j < 72 * h + 12 * p + y ∨ 72 * h + 12 * p + 12 ≤ j) → a' j = a j) ∧ (k_w n0 p → ∀ t, y ≤ t → t < 12 → a' (72 * h + 12 * p + t) = nI (k_lk bk h p (k_fr bk (k_hp bk h) + t))) := by
        intro hw
        obtain ⟨lk1, _⟩ := k_lk_spec v5 h p (k_fr bk (k_hp bk h) + y) hp
        obtain ⟨a', g1, g2, g3, g4⟩ := J106 (nI (k_lk bk h p (k_fr bk (k_hp bk h) + y)))
        refine ⟨a', ?_, g2, fun _ t t1 t2 => ?_⟩
        · rw [← g1]
          unfold f_X9_begins_J82
          rw [show (40 : Int32) = nI 40 from rfl, show (2 : Int32) = nI 2 from rfl, pk_mul, nI_add, p2_gd (p2_ib (by omega) (by decide)), p2_ix (n := 40 + 2 * k_hp bk h) (by omega), y3, nI_add, p2_likeOf hRB h hh (nI p) _ (k_w_who b0 hw), Option.bind_some, lk1]
        · by_cases e : t = y
          · subst e; exact g3
          · exact g4 hw t (by omega) t2
      rw [st]
      unfold f_X9_begins_L44
      rw [show (12 : Int32) = nI 12 from rfl, if_neg (nI_ge (by omega) (by omega)), p2_gd (by decide), q0, show (72 : Int32) = nI 72 from rfl, eidx]
      by_cases hlt : p < n0
      · rw [if_pos ((nI_ltI (by omega) (by omega)).mpr hlt)]
        exact J82 (Or.inr hlt)
      · rw [if_neg (fun q => hlt ((nI_ltI (by omega) (by omega)).mp q))]
        by_cases h5 : p = 5
        · rw [if_pos ((k_5 hp).mpr h5)]
          exact J82 (Or.inl h5)
        · rw [if_neg (fun q => h5 ((k_5 hp).mp q))]
          obtain ⟨a', g1, g2, g3, g4⟩ := J106 0
          refine ⟨a', g1, g2, fun hw => ?_⟩
          rcases hw with z | z
          · exact absurd z h5
          · exact absurd z hlt
  have rowP : ∀ (h : Nat), h < n2 → ∀ (rc : (Nat → Int32) → Int32 → Option (Int32 × Int32 × Int32 × (Nat → Int32))) (r p m : Nat) (a : Nat → Int32), p + r = 6 → r < m → (∀ w, w < p → k_w n0 w → ∀ t, t < 12 → a (72 * h + 12 * w + t) = nI (k_lk bk h w (k_fr bk (k_hp bk h) + t))) → ∃ a', f_X9_begins_L36w bk (nI h) rc (nI (k_hp bk h)) m a (nI p) = rc a' (nI (h + 1)) ∧ (∀ j, (j < 72 * h ∨ 72 * h + 72 ≤ j) → a' j = a j) ∧ (∀ w, w < 6 → k_w n0 w → ∀ t, t < 12 → a' (72 * h + 12 * w + t) = nI (k_lk bk h w (k_fr bk (k_hp bk h) + t))) := by
    intro h hh rc r
    induction r with
    | zero =>
      intro p m a h1 h2 h3
      obtain ⟨m, rfl⟩ : ∃ j, m = j + 1 := ⟨m - 1, by omega⟩
      refine ⟨a, ?_, fun _ _ => rfl, fun w hw => h3 w (by omega)⟩
      show f_X9_begins_L36 bk (nI h) rc (nI (k_hp bk h)) (f_X9_begins_L36w bk (nI h) rc (nI (k_hp bk h)) m) a (nI p) = _
      unfold f_X9_begins_L36
      rw [show (5 : Int32) = nI 5 from rfl, if_pos ((nI_ltI (by omega) (by omega)).mpr (by omega)), nI_1]
    | succ r ih =>
      intro p m a h1 h2 h3
      obtain ⟨m, rfl⟩ : ∃ j, m = j + 1 := ⟨m - 1, by omega⟩
      obtain ⟨a1, f1, f2, f3⟩ := rowY h p hh (by omega) (f_X9_begins_L36w bk (nI h) rc (nI (k_hp bk h)) m) 12 0 cx_N0 a (by omega) (by unfold cx_N0; omega)
      obtain ⟨a', g1, g2, g3⟩ := ih (p + 1) m a1 (by omega) (by omega) (fun w hw hkw t ht => by
        by_cases e : w = p
        · subst e; exact f3 hkw t (by omega) ht
        · rw [f2 _ (by omega)]; exact h3 w (by omega) hkw t ht)
      refine ⟨a', ?_, fun j hj => by rw [g2 j hj, f2 j (by omega)], g3⟩
      rw [← g1, ← f1]
      show f_X9_begins_L36 bk (nI h) rc (nI (k_hp bk h)) (f_X9_begins_L36w bk (nI h) rc (nI (k_hp bk h)) m) a (nI p) = _
      unfold f_X9_begins_L36
      rw [show (5 : Int32) = nI 5 from rfl, if_neg (fun q => by have := (nI_ltI (by omega) (by omega)).mp q; omega)]
      rfl
  have rowH : ∀ (r h m : Nat) (a : Nat → Int32), h + r = n2 → r < m → (∀ e w t, e < h → k_w n0 w → t < 12 → a (72 * e + 12 * w + t) = nI (k_lk bk e w (k_fr bk (k_hp bk e) + t))) → ∃ a', f_X9_begins_L17w bk (-1) (-1) (-1) m a (nI h) = some (-1, -1, -1, a') ∧ q_LI bk n0 n2 a' := by
    intro r
    induction r with
    | zero =>
      intro h m a h1 h2 h3
      obtain ⟨m, rfl⟩ : ∃ j, m = j + 1 := ⟨m - 1, by omega⟩
      refine ⟨a, ?_, fun e w t he => h3 e w t (by omega)⟩
      show f_X9_begins_L17 bk (-1) (-1) (-1) (f_X9_begins_L17w bk (-1) (-1) (-1) m) a (nI h) = _
      unfold f_X9_begins_L17
      rw [p2_gd (by decide), q2, if_pos (nI_le (by omega) (by omega))]
    | succ r ih =>
      intro h m a h1 h2 h3
      obtain ⟨m, rfl⟩ : ∃ j, m = j + 1 := ⟨m - 1, by omega⟩
      obtain ⟨a1, f1, f2, f3⟩ := rowP h (by omega) (f_X9_begins_L17w bk (-1) (-1) (-1) m) 6 0 cx_N0 a (by omega) (by unfold cx_N0; omega) (fun w hw => by omega)
      obtain ⟨a', g1, g2⟩ := ih (h + 1) m a1 (by omega) (by omega) (fun e w t he hkw ht => by
        have hw6 := k_w_lt b0 hkw
        by_cases q : e = h
        · subst q; exact f3 w hw6 hkw t ht
        · rw [f2 _ (by omega)]; exact h3 e w t (by omega) hkw ht)
      refine ⟨a', ?_, g2⟩
      rw [← g1, ← f1]
      show f_X9_begins_L17 bk (-1) (-1) (-1) (f_X9_begins_L17w bk (-1) (-1) (-1) m) a (nI h) = _
      unfold f_X9_begins_L17
      rw [p2_gd (by decide), q2, if_neg (nI_ge (by omega) (by omega)), (m_hp hB h (by omega)).1, Option.bind_some]
      rfl
  unfold f_X9_begins
  exact rowH n2 0 cx_N0 li (by omega) (by unfold cx_N0; omega) (fun e w t he => by omega)
/-- picks -/
theorem m_picks (hB : q_BK bk n0 n1 n2 n3 n4) (is : Nat → Int32) (code : Nat) (hc : code < (n0 + 1) ^ n2) : ∃ is', f_X9_picks bk is (nI code) = some is' ∧ ∀ h, h < n2 → is' h = nI (p6_wc n0 n2 0 q_0 code h) := by
  obtain ⟨b0, b1, b2, b3, b4, e0, e1, e2, e3, e4, v⟩ := hB
  have q0 : bk (cx_ix 0) = nI n0 := e0
  have q2 : bk (cx_ix 2) = nI n2 := e2
  have hc2 : code < 46656 := Nat.lt_of_lt_of_le hc (Nat.le_trans (Nat.pow_le_pow_left (show n0 + 1 ≤ 6 by omega) n2) (Nat.le_trans (Nat.pow_le_pow_right (by decide) b2) (by decide)))
  have loop : ∀ (k m : Nat) (a : Nat → Int32), k ≤ n2 → k < m → (∀ h, k ≤ h → h < n2 → a h = nI (p6_who n0 (code / (n0 + 1) ^ (n2 - 1 - h) % (n0 + 1)))) → ∃ a', f_X9_picks_L11w bk m a (nI (code / (n0 + 1) ^ (n2 - k))) (nI k - 1) = some a' ∧ ∀ h, h < n2 → a' h = nI (p6_who n0 (code / (n0 + 1) ^ (n2 - 1 - h) % (n0 + 1))) := by
    intro k
    induction k with
    | zero =>
      intro m a h1 h2 h3
      obtain ⟨m, rfl⟩ : ∃ j, m = j + 1 := ⟨m - 1, by omega⟩
      refine ⟨a, ?_, fun h hh => h3 h (by omega) hh⟩
      show f_X9_picks_L11 bk (f_X9_picks_L11w bk m) a _ (nI 0 - 1) = _
      unfold f_X9_picks_L11
      rw [if_pos (by decide)]
    | succ k ih =>
      intro m a h1 h2 h3
      obtain ⟨m, rfl⟩ : ∃ j, m = j + 1 := ⟨m - 1, by omega⟩
      have hX : code / (n0 + 1) ^ (n2 - (k + 1)) ≤ code := Nat.div_le_self _ _
      have hnext : code / (n0 + 1) ^ (n2 - (k + 1)) / (n0 + 1) = code / (n0 + 1) ^ (n2 - k) := by
        have e : n2 - k = n2 - (k + 1) + 1 := by omega
        rw [e, Nat.pow_succ, Nat.div_div_eq_div_mul]
      obtain ⟨a', g1, g2⟩ := ih m (upd a k (nI (p6_who n0 (code / (n0 + 1) ^ (n2 - (k + 1)) % (n0 + 1))))) (by omega) (by omega) (fun h h1 h2 => by
        by_cases e : h = k
        · subst e; rw [p2_us, show n2 - 1 - h = n2 - (h + 1) by omega]
        · rw [p2_un e]; exact h3 h (by omega) h2)
      refine ⟨a', ?_, g2⟩
      rw [← g1, ← hnext]
      generalize code / (n0 + 1) ^ (n2 - (k + 1)) = X at *
      show f_X9_picks_L11 bk (f_X9_picks_L11w bk m) a (nI X) (nI (k + 1) - 1) = _
      unfold f_X9_picks_L11
      have hd1 : nI n0 + 1 = nI (n0 + 1) := nI_1 n0
      have hdne : decide (¬ nI (n0 + 1) = 0) = true := decide_eq_true (fun q => by have := (p4_i0 (d := n0 + 1) (by omega)).mp q; omega)
      have J49 : ∀ x, f_X9_picks_J49 bk a (nI X) (nI k) (f_X9_picks_L11w bk m) x = f_X9_picks_L11w bk m (upd a k x) (nI (X / (n0 + 1))) (nI k - 1) := by
        intro x
        unfold f_X9_picks_J49
        rw [p2_gd (p2_ib (by omega) (by decide)), p2_ix (n := k) (by omega)]
        simp only [cx_let]
        rw [p2_gd (by decide), q0, hd1, p2_gd hdne, pk_div (by omega) (by omega) (by omega), pk_m1']
      rw [nI_pred, if_neg (nI_pos (by omega)), p2_gd (by decide), q0, hd1, p2_gd hdne, pk_rem (by omega) (by omega) (by omega)]
      simp only [cx_let]
      rw [p2_gd (by decide)]
      have hm : X % (n0 + 1) < n0 + 1 := Nat.mod_lt _ (by omega)
      unfold p6_who
      by_cases e : X % (n0 + 1) < n0
      · rw [if_neg (fun q => by have := (nI_eq (by omega) (by omega)).mp q; omega), J49, if_pos e]
      · rw [if_pos (by rw [show X % (n0 + 1) = n0 by omega]), J49, if_neg e]
        rfl
  obtain ⟨a', g1, g2⟩ := loop n2 cx_N0 is (Nat.le_refl _) (by unfold cx_N0; omega) (fun h h1 h2 => by omega)
  rw [Nat.sub_self, Nat.pow_zero, Nat.div_one] at g1
  refine ⟨a', ?_, fun h hh => ?_⟩
  · unfold f_X9_picks
    rw [p2_gd (by decide), q2]
    exact g1
  · rw [g2 h hh, p6_wc_dig n0 n2 0 q_0 code h (by omega) (by omega) hc, Nat.zero_add]
end M1
