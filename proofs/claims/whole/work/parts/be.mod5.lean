/-- the weight in the reference's look -/
abbrev q_G (bk : Nat → Int32) (n1 n2 n3 n4 : Nat) (on : Bool) (p0 y0 sk : Nat) (od : Bool) (ea la : Nat) : (Nat → Nat) → Nat := q_F bk n1 n2 n3 n4 (q_fy bk n1 on p0 y0) (q_yc bk n1 on p0) sk od ea la
section M6
variable {bk : Nat → Int32} {n0 n1 n2 n3 n4 : Nat} {li is : Nat → Int32} {ω : Nat → Nat} {on od : Bool} {p0 y0 sk ea la : Nat} {wo oP oY fi se : Int32}
variable {c0 c1 c2 c3 c4 : Nat → Int32} {z0 z1 z2 z3 z4 sg : Int32}
theorem q_G_le (hRB : p2_RB c0 z0 c1 z1 c2 z2 c3 z3 c4 z4 sg bk n0 n1 n2 n3 n4) (hLM : q_LM bk n1 n3 on p0 y0 sk od ea la wo oP oY fi se) (hω : ∀ e, e < n2 → k_w n0 (ω e)) : q_G bk n1 n2 n3 n4 on p0 y0 sk od ea la ω ≤ 2398805552525318553600000000 := p8_F_le (q_OK hRB (q_LK_of (q_BK_of hRB) hLM)) hω
theorem q_wc_va (code : Nat) (hc : code < (n0 + 1) ^ n2) : ∀ e, e < n2 → k_w n0 (p6_wc n0 n2 0 q_0 code e) := fun e he => by
  rw [p6_wc_dig n0 n2 0 q_0 code e (by omega) (by omega) hc]
  exact p6_who_w n0 _
/-- isOn -/
theorem m_isOn (hB : q_BK bk n0 n1 n2 n3 n4) (his : ∀ h, h < n2 → is h = nI (ω h) ∧ ω h < 6) (x p : Nat) (hx : x < 6) (hp : p < 6) : f_X9_isOn bk is (nI x) (nI p) = some (p2_b (p8_tb (k_hp bk) ω p x n2 = true)) := by
  obtain ⟨b0, b1, b2, b3, b4, e0, e1, e2, e3, e4, v⟩ := id hB
  have q2 : bk (cx_ix 2) = nI n2 := e2
  have loop : ∀ (r h m : Nat), h + r = n2 → r < m → f_X9_isOn_L5w bk is (nI x) (nI p) m (p2_b (p8_tb (k_hp bk) ω p x h = true)) (nI h) = some (p2_b (p8_tb (k_hp bk) ω p x n2 = true)) := by
    intro r
    induction r with
    | zero =>
      intro h m h1 h2
      obtain ⟨m, rfl⟩ : ∃ j, m = j + 1 := ⟨m - 1, by omega⟩
      show f_X9_isOn_L5 bk is (nI x) (nI p) (f_X9_isOn_L5w bk is (nI x) (nI p) m) _ (nI h) = _
      unfold f_X9_isOn_L5
      rw [p2_gd (by decide), q2, if_pos (nI_le (by omega) (by omega)), show h = n2 by omega, p2_gd]
      simp only [p2_b]
      split <;> decide
    | succ r ih =>
      intro h m h1 h2
      obtain ⟨m, rfl⟩ : ∃ j, m = j + 1 := ⟨m - 1, by omega⟩
      rw [← ih (h + 1) m (by omega) (by omega), p8_tb]
      obtain ⟨hp1, hp2⟩ := m_hp hB h (by omega)
      have hi := his h (by omega)
      have hi2 := hi.2
      show f_X9_isOn_L5 bk is (nI x) (nI p) (f_X9_isOn_L5w bk is (nI x) (nI p) m) _ (nI h) = _
      unfold f_X9_isOn_L5 f_X9_isOn_J42 f_X9_isOn_J46 f_X9_isOn_J47
      rw [p2_gd (by decide), q2, if_neg (nI_ge (by omega) (by omega)), p4_bt, hp1, Option.bind_some, nI_1]
      by_cases ht : p8_tb (k_hp bk) ω p x h = true
      · rw [if_pos ht, ht, Bool.or_true]
        rfl
      · rw [if_neg ht, show p8_tb (k_hp bk) ω p x h = false by simpa using ht, Bool.or_false]
        by_cases c1 : k_hp bk h = p
        · rw [if_pos (by rw [c1]), p2_gd (p2_ib (by omega) (by decide)), p2_ix (n := h) (by omega), hi.1]
          by_cases c2 : ω h = x
          · rw [if_pos (by rw [c2]), show decide (k_hp bk h = p ∧ ω h = x) = true from decide_eq_true ⟨c1, c2⟩]
            rfl
          · rw [if_neg (fun q => c2 ((nI_eq (by omega) (by omega)).mp q)), show decide (k_hp bk h = p ∧ ω h = x) = false from decide_eq_false (fun z => c2 z.2)]
            rfl
        · rw [if_neg (fun q => c1 ((nI_eq (by omega) (by omega)).mp q)), show decide (k_hp bk h = p ∧ ω h = x) = false from decide_eq_false (fun z => c1 z.1)]
          rfl
  unfold f_X9_isOn
  exact loop n2 0 cx_N0 (by omega) (by unfold cx_N0; omega)
/-- how often a way counts -/
def k_ct (bk : Nat → Int32) (n1 n2 : Nat) (ask a b : Nat) (ω : Nat → Nat) : Nat :=
  if ask = 1 then (if ω a = ω b ∧ ω a ≠ 5 then 1 else 0) else if ask = 2 then (if (∃ h, h < n2 ∧ ω h = a) then 0 else 1) else if ask = 3 then p6_sm n2 (fun h => if ω h = 5 ∧ p8_tb (k_hp bk) ω (k_hp bk h) a n2 = true then 1 else 0) else if ask = 4 then (if ω a = 5 ∧ p8_tb (k_hp bk) ω (k_hp bk a) b n2 = true then 1 else 0) else 0
theorem m_counts (hB : q_BK bk n0 n1 n2 n3 n4) (his : ∀ h, h < n2 → is h = nI (ω h) ∧ ω h < 6) (ask a b : Nat) (hask : ask ≤ 4) (ha : ask = 1 → a < n2 ∧ b < n2) (ha2 : ask = 2 ∨ ask = 3 → a < 5) (ha4 : ask = 4 → a < n2 ∧ b < 5) : f_X9_counts bk is (nI ask) (nI a) (nI b) = some (nI (k_ct bk n1 n2 ask a b ω)) ∧ k_ct bk n1 n2 ask a b ω ≤ 6 := by
  obtain ⟨b0, b1, b2, b3, b4, e0, e1, e2, e3, e4, v⟩ := id hB
  have q1 : bk (cx_ix 1) = nI n1 := e1
  have q2 : bk (cx_ix 2) = nI n2 := e2
  have eq : ∀ k, k ≤ 4 → (nI ask = nI k ↔ ask = k) := fun k hk => nI_eq (by omega) (by omega)
  unfold f_X9_counts k_ct
  rw [show (1 : Int32) = nI 1 from rfl, show (2 : Int32) = nI 2 from rfl, show (3 : Int32) = nI 3 from rfl, show (4 : Int32) = nI 4 from rfl]
  by_cases c1 : ask = 1
  · obtain ⟨h1, h2⟩ := ha c1
    have i1 := his a h1
    have i2 := his b h2
    have i3 := i1.2
    have i4 := i2.2
    rw [if_pos ((eq 1 (by omega)).mpr c1), if_pos c1, p2_gd (p2_ib (by omega) (by decide)), p2_gd (p2_ib (by omega) (by decide)), p2_ix (n := a) (by omega), p2_ix (n := b) (by omega), i1.1, i2.1]
    by_cases c : ω a = ω b
    · rw [if_pos (by rw [c]), p2_gd (p2_ib (by omega) (by decide))]
      by_cases c5 : ω a = 5
      · rw [if_pos ((k_5 i3).mpr c5), if_neg (fun z => z.2 c5)]
        exact ⟨rfl, by decide⟩
      · rw [if_neg (fun q => c5 ((k_5 i3).mp q)), if_pos ⟨c, c5⟩]
        exact ⟨rfl, by decide⟩
    · rw [if_neg (fun q => c ((nI_eq (by omega) (by omega)).mp q)), if_neg (fun z => c z.1)]
      exact ⟨rfl, by decide⟩
  · rw [if_neg (fun q => c1 ((eq 1 (by omega)).mp q)), if_neg c1]
    by_cases c2 : ask = 2
    · have ha5 := ha2 (Or.inl c2)
      rw [if_pos ((eq 2 (by omega)).mpr c2), if_pos c2]
      refine ⟨?_, by split <;> decide⟩
      have loop : ∀ (r p m : Nat) (A : Bool), p + r = n1 → r < m → (A = true ↔ ∃ h, h < n2 ∧ ω h = a ∧ k_hp bk h < p) → f_X9_counts_L47w bk is (nI a) m (p2_b (A = true)) (nI p) = some (nI (if (∃ h, h < n2 ∧ ω h = a) then 0 else 1)) := by
        intro r
        induction r with
        | zero =>
          intro p m A h1 h2 h3
          obtain ⟨m, rfl⟩ : ∃ j, m = j + 1 := ⟨m - 1, by omega⟩
          show f_X9_counts_L47 bk is (nI a) (f_X9_counts_L47w bk is (nI a) m) _ (nI p) = _
          unfold f_X9_counts_L47
          rw [p2_gd (by decide), q1, if_pos (nI_le (by omega) (by omega)), p4_bt]
          have : A = true ↔ ∃ h, h < n2 ∧ ω h = a := h3.trans ⟨fun ⟨h, x1, x2, _⟩ => ⟨h, x1, x2⟩, fun ⟨h, x1, x2⟩ => ⟨h, x1, x2, by have := (m_hp hB h x1).2; omega⟩⟩
          by_cases hA : A = true
          · rw [if_pos hA, if_pos (this.mp hA)]; rfl
          · rw [if_neg hA, if_neg (fun q => hA (this.mpr q))]; rfl
        | succ r ih =>
          intro p m A h1 h2 h3
          obtain ⟨m, rfl⟩ : ∃ j, m = j + 1 := ⟨m - 1, by omega⟩
          have ho := m_isOn hB his a p (by omega) (by omega)
          have hst : (A || p8_tb (k_hp bk) ω p a n2) = true ↔ ∃ h, h < n2 ∧ ω h = a ∧ k_hp bk h < p + 1 := by
            rw [Bool.or_eq_true, h3, p8_tb_iff]
            constructor
            · rintro (⟨h, x1, x2, x3⟩ | ⟨h, x1, x2, x3⟩)
              · exact ⟨h, x1, x2, by omega⟩
              · exact ⟨h, x1, x3, by omega⟩
            · rintro ⟨h, x1, x2, x3⟩
              by_cases z : k_hp bk h = p
              · exact Or.inr ⟨h, x1, z, x2⟩
              · exact Or.inl ⟨h, x1, x2, by omega⟩
          rw [← ih (p + 1) m (A || p8_tb (k_hp bk) ω p a n2) (by omega) (by omega) hst]
          show f_X9_counts_L47 bk is (nI a) (f_X9_counts_L47w bk is (nI a) m) _ (nI p) = _
          unfold f_X9_counts_L47 f_X9_counts_J73 f_X9_counts_J78
          rw [p2_gd (by decide), q1, if_neg (nI_ge (by omega) (by omega)), p4_bt, ho, Option.bind_some, p4_bt, nI_1]
          by_cases hA : A = true
          · rw [if_pos hA, hA]; rfl
          · rw [if_neg hA, show A = false by simpa using hA, Bool.false_or]
            by_cases ht : p8_tb (k_hp bk) ω p a n2 = true
            · rw [if_pos ht, ht]; rfl
            · rw [if_neg ht, show p8_tb (k_hp bk) ω p a n2 = false by simpa using ht]; rfl
      exact loop n1 0 cx_N0 false (by omega) (by unfold cx_N0; omega) ⟨fun q => (by cases q), fun ⟨h, _, _, x⟩ => by omega⟩
    · rw [if_neg (fun q => c2 ((eq 2 (by omega)).mp q)), if_neg c2]
      by_cases c3 : ask = 3
      · have ha5 := ha2 (Or.inr c3)
        rw [if_pos ((eq 3 (by omega)).mpr c3), if_pos c3]
        have hle : p6_sm n2 (fun h => if ω h = 5 ∧ p8_tb (k_hp bk) ω (k_hp bk h) a n2 = true then 1 else 0) ≤ 6 := by
          refine Nat.le_trans (p6_sm_le (g := fun _ => 1) (fun h _ => by split <;> decide)) ?_
          rw [p6_sm_const]
          omega
        refine ⟨?_, hle⟩
        have loop : ∀ (r h m : Nat), h + r = n2 → r < m → f_X9_counts_L108w bk is (nI a) m (nI (p6_sm h (fun h => if ω h = 5 ∧ p8_tb (k_hp bk) ω (k_hp bk h) a n2 = true then 1 else 0))) (nI h) = some (nI (p6_sm n2 (fun h => if ω h = 5 ∧ p8_tb (k_hp bk) ω (k_hp bk h) a n2 = true then 1 else 0))) := by
          intro r
          induction r with
          | zero =>
            intro h m h1 h2
            obtain ⟨m, rfl⟩ : ∃ j, m = j + 1 := ⟨m - 1, by omega⟩
            show f_X9_counts_L108 bk is (nI a) (f_X9_counts_L108w bk is (nI a) m) _ (nI h) = _
            unfold f_X9_counts_L108
            rw [p2_gd (by decide), q2, if_pos (nI_le (by omega) (by omega)), show h = n2 by omega]
          | succ r ih =>
            intro h m h1 h2
            obtain ⟨m, rfl⟩ : ∃ j, m = j + 1 := ⟨m - 1, by omega⟩
            rw [← ih (h + 1) m (by omega) (by omega), p6_sm]
            obtain ⟨hp1, hp2⟩ := m_hp hB h (by omega)
            have ho := m_isOn hB his a (k_hp bk h) (by omega) (by omega)
            have hi := his h (by omega)
            show f_X9_counts_L108 bk is (nI a) (f_X9_counts_L108w bk is (nI a) m) _ (nI h) = _
            unfold f_X9_counts_L108 f_X9_counts_J151 f_X9_counts_J152
            rw [p2_gd (by decide), q2, if_neg (nI_ge (by omega) (by omega)), p2_gd (p2_ib (by omega) (by decide)), p2_ix (n := h) (by omega), hi.1, hp1, Option.bind_some, ho, Option.bind_some, p4_bt, nI_1]
            by_cases c5 : ω h = 5
            · rw [if_pos ((k_5 hi.2).mpr c5)]
              by_cases ht : p8_tb (k_hp bk) ω (k_hp bk h) a n2 = true
              · rw [if_pos ht, if_pos ⟨c5, ht⟩, nI_1]
              · rw [if_neg ht, if_neg (fun z => ht z.2), show (0 : Int32) = nI 0 from rfl, nI_add, nI_1]
            · rw [if_neg (fun q => c5 ((k_5 hi.2).mp q)), if_neg (fun z => c5 z.1), show (0 : Int32) = nI 0 from rfl, nI_add, nI_1]
        exact loop n2 0 cx_N0 (by omega) (by unfold cx_N0; omega)
      · rw [if_neg (fun q => c3 ((eq 3 (by omega)).mp q)), if_neg c3]
        by_cases c4' : ask = 4
        · obtain ⟨h1, h2⟩ := ha4 c4'
          obtain ⟨hp1, hp2⟩ := m_hp hB a h1
          have ho := m_isOn hB his b (k_hp bk a) (by omega) (by omega)
          have hi := his a h1
          rw [if_pos ((eq 4 (by omega)).mpr c4'), if_pos c4', p2_gd (p2_ib (by omega) (by decide)), p2_ix (n := a) (by omega), hi.1, hp1, Option.bind_some, ho, Option.bind_some, p4_bt]
          refine ⟨?_, by split <;> decide⟩
          by_cases c5 : ω a = 5
          · rw [if_pos ((k_5 hi.2).mpr c5)]
            by_cases ht : p8_tb (k_hp bk) ω (k_hp bk a) b n2 = true
            · rw [if_pos ht, if_pos ⟨c5, ht⟩]
            · rw [if_neg ht, if_neg (fun z => ht z.2)]; rfl
          · rw [if_neg (fun q => c5 ((k_5 hi.2).mp q)), if_neg (fun z => c5 z.1)]; rfl
        · rw [if_neg (fun q => c4' ((eq 4 (by omega)).mp q)), if_neg c4']
          exact ⟨rfl, by decide⟩
/-- sums -/
theorem m_sums (hRB : p2_RB c0 z0 c1 z1 c2 z2 c3 z3 c4 z4 sg bk n0 n1 n2 n3 n4) (hLI : q_LI bk n0 n2 li) (hLM : q_LM bk n1 n3 on p0 y0 sk od ea la wo oP oY fi se) (l w is : Nat → Int32) (V : Nat → Nat) (hS : p4_S l w V) (ask a b : Nat) (hask : ask ≤ 4) (ha : ask = 1 → a < n2 ∧ b < n2) (ha2 : ask = 2 ∨ ask = 3 → a < 5) (ha4 : ask = 4 → a < n2 ∧ b < 5) : ∃ l' w' is' V', f_X9_sums l w bk is li wo oP oY fi se (nI ask) (nI a) (nI b) = some (l', w', is') ∧ p4_S l' w' V' ∧ V' 6 = p6_ws n0 (q_G bk n1 n2 n3 n4 on p0 y0 sk od ea la) n2 0 q_0 ∧ V' 7 = p6_ws n0 (fun ω => q_G bk n1 n2 n3 n4 on p0 y0 sk od ea la ω * k_ct bk n1 n2 ask a b ω) n2 0 q_0 ∧ (∀ s, s ≠ 5 → s ≠ 6 → s ≠ 7 → s ≠ 8 → V' s = V s) := by
  have hB := q_BK_of hRB
  obtain ⟨b0, b1, b2, b3, b4, e0, e1, e2, e3, e4, v0, v1, v2, v3, v4, v5⟩ := id hB
  have hN : (n0 + 1) ^ n2 ≤ 46656 := Nat.le_trans (Nat.pow_le_pow_left (show n0 + 1 ≤ 6 by omega) n2) (Nat.le_trans (Nat.pow_le_pow_right (by decide) b2) (by decide))
  generalize hG : q_G bk n1 n2 n3 n4 on p0 y0 sk od ea la = G
  have hGle : ∀ code, code < (n0 + 1) ^ n2 → G (p6_wc n0 n2 0 q_0 code) ≤ 2398805552525318553600000000 := fun code hc => by rw [← hG]; exact q_G_le hRB hLM (q_wc_va code hc)
  obtain ⟨l1, w1, s1, s2, s3⟩ := p4_sets (l := l) (w := w) (r := 6) (v := 0) (by decide) (by decide)
  have hS1 := hS.set s2 s3
  obtain ⟨l2, w2, t1, t2, t3⟩ := p4_sets (l := l1) (w := w1) (r := 7) (v := 0) (by decide) (by decide)
  have hS2 := hS1.set t2 t3
  have loop : ∀ (r code m : Nat) (l w is : Nat → Int32) (V1 : Nat → Nat), code + r = (n0 + 1) ^ n2 → r < m → p4_S l w V1 → V1 6 = p6_sm code (fun c => G (p6_wc n0 n2 0 q_0 c)) → V1 7 = p6_sm code (fun c => G (p6_wc n0 n2 0 q_0 c) * k_ct bk n1 n2 ask a b (p6_wc n0 n2 0 q_0 c)) → (∀ s, s ≠ 5 → s ≠ 6 → s ≠ 7 → s ≠ 8 → V1 s = V s) → ∃ l' w' is' V', f_X9_sums_L23w bk li wo oP oY fi se (nI ask) (nI a) (nI b) (nI ((n0 + 1) ^ n2)) m l w is (nI code) = some (l', w', is') ∧ p4_S l' w' V' ∧ V' 6 = p6_sm ((n0 + 1) ^ n2) (fun c => G (p6_wc n0 n2 0 q_0 c)) ∧ V' 7 = p6_sm ((n0 + 1) ^ n2) (fun c => G (p6_wc n0 n2 0 q_0 c) * k_ct bk n1 n2 ask a b (p6_wc n0 n2 0 q_0 c)) ∧ (∀ s, s ≠ 5 → s ≠ 6 → s ≠ 7 → s ≠ 8 → V' s = V s) := by
    intro r
    induction r with
    | zero =>
      intro code m l w is V1 h1 h2 h3 h4 h5 h6
      obtain ⟨m, rfl⟩ : ∃ j, m = j + 1 := ⟨m - 1, by omega⟩
      have e : code = (n0 + 1) ^ n2 := by omega
      rw [e] at h4 h5
      refine ⟨l, w, is, V1, ?_, h3, h4, h5, h6⟩
      show f_X9_sums_L23 bk li wo oP oY fi se (nI ask) (nI a) (nI b) (nI ((n0 + 1) ^ n2)) (f_X9_sums_L23w bk li wo oP oY fi se (nI ask) (nI a) (nI b) (nI ((n0 + 1) ^ n2)) m) l w is (nI code) = _
      unfold f_X9_sums_L23
      rw [if_pos (nI_le (by omega) (by omega))]
    | succ r ih =>
      intro code m l w is V1 h1 h2 h3 h4 h5 h6
      obtain ⟨m, rfl⟩ : ∃ j, m = j + 1 := ⟨m - 1, by omega⟩
      obtain ⟨g, l3, w3, is3, V3, g1, g2, g3, g4, g5, g6⟩ := m_weighs hRB hLI hLM code (by omega) l w is V1 h3
      have hva := q_wc_va (n0 := n0) (n2 := n2) code (by omega)
      have hGc := hGle code (by omega)
      have e7 : q_F bk n1 n2 n3 n4 (q_fy bk n1 on p0 y0) (q_yc bk n1 on p0) sk od ea la (p6_wc n0 n2 0 q_0 code) = G (p6_wc n0 n2 0 q_0 code) := by rw [← hG]
      rw [e7] at g5 g6
      obtain ⟨ct1, ct2⟩ := m_counts (ω := p6_wc n0 n2 0 q_0 code) (is := is3) hB (fun h hh => ⟨g2 h hh, k_w_lt b0 (hva h hh)⟩) ask a b hask ha ha2 ha4
      have st : f_X9_sums_L23w bk li wo oP oY fi se (nI ask) (nI a) (nI b) (nI ((n0 + 1) ^ n2)) (m + 1) l w is (nI code) = f_X9_sums_L23 bk li wo oP oY fi se (nI ask) (nI a) (nI b) (nI ((n0 + 1) ^ n2)) (f_X9_sums_L23w bk li wo oP oY fi se (nI ask) (nI a) (nI b) (nI ((n0 + 1) ^ n2)) m) l w is (nI code) := rfl
      rw [st]
      unfold f_X9_sums_L23 f_X9_sums_J74
      rw [if_neg (nI_ge (by omega) (by omega)), g1, Option.bind_some, nI_1]
      dsimp only
      have b6 : p6_sm code (fun c => G (p6_wc n0 n2 0 q_0 c)) ≤ 46656 * 2398805552525318553600000000 := by
        refine Nat.le_trans (p6_sm_le (g := fun _ => 2398805552525318553600000000) (fun c hc => hGle c (by omega))) ?_
        rw [p6_sm_const]
        exact Nat.mul_le_mul_right _ (by omega)
      have b7 : p6_sm code (fun c => G (p6_wc n0 n2 0 q_0 c) * k_ct bk n1 n2 ask a b (p6_wc n0 n2 0 q_0 c)) ≤ 46656 * (2398805552525318553600000000 * 6) := by
        refine Nat.le_trans (p6_sm_le (g := fun _ => 2398805552525318553600000000 * 6) (fun c hc => ?_)) ?_
        · exact Nat.mul_le_mul (hGle c (by omega)) (m_counts (ω := p6_wc n0 n2 0 q_0 c) (is := fun h => nI (p6_wc n0 n2 0 q_0 c h)) hB (fun h hh => ⟨rfl, k_w_lt b0 (q_wc_va (n0 := n0) (n2 := n2) c (by omega) h hh)⟩) ask a b hask ha ha2 ha4).2
        · rw [p6_sm_const]
          exact Nat.mul_le_mul_right _ (by omega)
      have eP15 : (46656 * (2398805552525318553600000000 * 6) + 2398805552525318553600000000 * 6 : Nat) < 1073741824 ^ 15 := by decide
      have e36 : V3 6 = p6_sm code (fun c => G (p6_wc n0 n2 0 q_0 c)) := by rw [g4 6 (by decide) (by decide)]; exact h4
      have e37 : V3 7 = p6_sm code (fun c => G (p6_wc n0 n2 0 q_0 c) * k_ct bk n1 n2 ask a b (p6_wc n0 n2 0 q_0 c)) := by rw [g4 7 (by decide) (by decide)]; exact h5
      by_cases hz : G (p6_wc n0 n2 0 q_0 code) = 0
      · rw [if_pos hz] at g5
        rw [if_pos g5]
        exact ih (code + 1) m l3 w3 is3 V3 (by omega) (by omega) g3 (by rw [e36, p6_sm, hz, Nat.add_zero]) (by rw [e37, p6_sm, hz, Nat.zero_mul, Nat.add_zero]) (fun s a1 a2 a3 a4 => by rw [g4 s a1 a4]; exact h6 s a1 a2 a3 a4)
      · rw [if_neg hz] at g5
        have g6 := g6 hz
        rw [if_neg (by rw [g5]; decide)]
        obtain ⟨l4, w4, u1, u2, u3⟩ := p4_adds (r := 6) (o := 5) (by decide) (by decide) (by decide) (g3 6 (by decide) (by decide)) (g3 5 (by decide) (by decide)) (by rw [e36, g6]; exact Nat.lt_of_le_of_lt (by omega) eP15)
        have hS4 := g3.set u2 u3
        rw [show f_X9_adds l3 w3 6 5 = _ from u1, Option.bind_some, ct1, Option.bind_some]
        dsimp only
        by_cases hct : k_ct bk n1 n2 ask a b (p6_wc n0 n2 0 q_0 code) = 0
        · rw [if_pos (by rw [hct]; decide)]
          refine ih (code + 1) m l4 w4 is3 _ (by omega) (by omega) hS4 (by rw [p4_us, e36, g6, p6_sm]) (by rw [p4_un (by decide), e37, p6_sm, hct, Nat.mul_zero, Nat.add_zero]) (fun s a1 a2 a3 a4 => by rw [p4_un a2, g4 s a1 a4]; exact h6 s a1 a2 a3 a4)
        · rw [if_neg (nI_nle (by omega) (by omega))]
          have r5 := hS4 5 (by decide) (by decide)
          rw [p4_un (by decide), g6] at r5
          have hm : G (p6_wc n0 n2 0 q_0 code) * k_ct bk n1 n2 ask a b (p6_wc n0 n2 0 q_0 code) ≤ 2398805552525318553600000000 * 6 := Nat.mul_le_mul hGc ct2
          obtain ⟨l5, w5, x1, x2, x3⟩ := p4_times (r := 5) (b := k_ct bk n1 n2 ask a b (p6_wc n0 n2 0 q_0 code)) (by decide) (by omega) r5 (Nat.lt_of_le_of_lt hm (by decide))
          have hS5 := hS4.set x2 x3
          have r7 := hS5 7 (by decide) (by decide)
          rw [p4_un (by decide), p4_un (by decide), e37] at r7
          obtain ⟨l6, w6, y1, y2, y3⟩ := p4_adds (r := 7) (o := 5) (by decide) (by decide) (by decide) r7 x3 (Nat.lt_of_le_of_lt (Nat.add_le_add b7 hm) eP15)
          have hS6 := hS5.set y2 y3
          rw [show f_X9_times l4 w4 5 (nI _) = _ from x1, Option.bind_some]
          dsimp only
          rw [show f_X9_adds l5 w5 7 5 = _ from y1, Option.bind_some]
          refine ih (code + 1) m l6 w6 is3 _ (by omega) (by omega) hS6 (by rw [p4_un (by decide), p4_un (by decide), p4_us, e36, g6, p6_sm]) (by rw [p4_us, p6_sm]) (fun s a1 a2 a3 a4 => by rw [p4_un a3, p4_un a1, p4_un a2, g4 s a1 a4]; exact h6 s a1 a2 a3 a4)
  unfold f_X9_sums
  rw [show f_X9_sets l w 6 0 = _ from s1, Option.bind_some, show f_X9_sets l1 w1 7 0 = _ from t1, Option.bind_some, m_ways hB, Option.bind_some]
  rw [← p6_codes, ← p6_codes]
  exact loop ((n0 + 1) ^ n2) 0 cx_N0 l2 w2 is _ (by omega) (by unfold cx_N0; omega) hS2 (by rw [p4_un (by decide), p4_us]; rfl) (by rw [p4_us]; rfl) (fun s a1 a2 a3 a4 => by rw [p4_un a3, p4_un a2])
end M6
