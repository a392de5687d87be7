/-! THE TEXT: tokens -/
def s_run (P : Nat → Bool) : Nat → Nat → Nat
  | 0, p => p
  | r + 1, p => if P p = true then s_run P r (p + 1) else p
theorem s_run_b (P : Nat → Bool) : ∀ r p, p ≤ s_run P r p ∧ s_run P r p ≤ p + r := by
  intro r
  induction r with
  | zero => intro p; exact ⟨Nat.le_refl _, Nat.le_refl _⟩
  | succ r ih =>
    intro p
    rw [s_run]
    have := ih (p + 1)
    split <;> omega
theorem s_run_in (P : Nat → Bool) : ∀ r p j, p ≤ j → j < s_run P r p → P j = true := by
  intro r
  induction r with
  | zero => intro p j h1 h2; rw [s_run] at h2; omega
  | succ r ih =>
    intro p j h1 h2
    rw [s_run] at h2
    by_cases c : P p = true
    · rw [if_pos c] at h2
      by_cases e : j = p
      · rw [e]; exact c
      · exact ih (p + 1) j (by omega) h2
    · rw [if_neg c] at h2; omega
theorem s_run_1 (P : Nat → Bool) {r p : Nat} (h : P p = true) (hr : 0 < r) : p < s_run P r p := by
  obtain ⟨r, rfl⟩ : ∃ j, r = j + 1 := ⟨r - 1, by omega⟩
  rw [s_run, if_pos h]
  have := s_run_b P r (p + 1)
  omega
theorem s_run_out (P : Nat → Bool) : ∀ r p, s_run P r p < p + r → P (s_run P r p) = false := by
  intro r
  induction r with
  | zero => intro p h; rw [s_run] at h; omega
  | succ r ih =>
    intro p h
    by_cases c : P p = true
    · rw [s_run, if_pos c] at h ⊢
      exact ih (p + 1) (by omega)
    · rw [s_run, if_neg c]
      exact (Bool.not_eq_true _).mp c
def s_le (T : Nat → Nat) (j : Nat) : Bool := decide (97 ≤ T j ∧ T j ≤ 122)
def s_fi (T : Nat → Nat) (j : Nat) : Bool := decide (48 ≤ T j ∧ T j ≤ 57)
def s_bl (T : Nat → Nat) (j : Nat) : Bool := decide (T j = 32)
/-- where the token from p on starts -/
def s_st (T : Nat → Nat) (L p : Nat) : Nat := s_run (s_bl T) (L - p) p
/-- its kind and its end, from its start -/
def s_kd (T : Nat → Nat) (L s : Nat) : Nat := if s < L then (if s_le T s = true then 1 else if s_fi T s = true then (if s_run (s_fi T) (L - s) s - s ≤ 3 then 2 else 4) else if T s = 59 then 3 else 4) else 0
def s_en (T : Nat → Nat) (L s : Nat) : Nat := if s < L then (if s_le T s = true then s_run (s_le T) (L - s) s else if s_fi T s = true then s_run (s_fi T) (L - s) s else s + 1) else s
def s_TX (T : Nat → Nat) (L : Nat) (bs tx : Nat → Int32) : Prop := L ≤ 300 ∧ ∀ j, j < L → bs j = nI (T j) ∧ tx j = nI (T j) ∧ T j ≤ 255
section TX
variable {T : Nat → Nat} {L : Nat} {bs tx : Nat → Int32}
theorem s_st_b {p : Nat} (hp : p ≤ L) : p ≤ s_st T L p ∧ s_st T L p ≤ L := by
  have := s_run_b (s_bl T) (L - p) p
  unfold s_st
  omega
theorem s_en_b {s : Nat} (hs : s ≤ L) : s ≤ s_en T L s ∧ s_en T L s ≤ L ∧ (s < L → s < s_en T L s) := by
  unfold s_en
  by_cases c : s < L
  · rw [if_pos c]
    by_cases c1 : s_le T s = true
    · rw [if_pos c1]
      have h1 := s_run_b (s_le T) (L - s) s
      have h2 := s_run_1 (s_le T) c1 (show 0 < L - s by omega)
      exact ⟨by omega, by omega, fun _ => h2⟩
    · rw [if_neg c1]
      by_cases c2 : s_fi T s = true
      · rw [if_pos c2]
        have h1 := s_run_b (s_fi T) (L - s) s
        have h2 := s_run_1 (s_fi T) c2 (show 0 < L - s by omega)
        exact ⟨by omega, by omega, fun _ => h2⟩
      · rw [if_neg c2]
        exact ⟨by omega, by omega, fun _ => by omega⟩
  · rw [if_neg c]
    exact ⟨Nat.le_refl _, hs, fun q => absurd q c⟩
theorem t_isLetter (c : Nat) (hc : c ≤ 255) : f_X6_isLetter (nI c) = some (p2_b (97 ≤ c ∧ c ≤ 122)) := by
  unfold f_X6_isLetter
  rw [show (97 : Int32) = nI 97 from rfl, show (122 : Int32) = nI 122 from rfl]
  by_cases h1 : c < 97
  · rw [if_pos (nI_lt h1 (by omega)), p2_b, if_neg (by omega)]
  · rw [if_neg (fun q => h1 ((nI_ltI (by omega) (by omega)).mp q))]
    by_cases h2 : 122 < c
    · rw [if_pos (nI_lt h2 (by omega)), p2_b, if_neg (by omega)]
    · rw [if_neg (fun q => h2 ((nI_ltI (by omega) (by omega)).mp q)), p2_b, if_pos (by omega)]
theorem t_isFigure (c : Nat) (hc : c ≤ 255) : f_X6_isFigure (nI c) = some (p2_b (48 ≤ c ∧ c ≤ 57)) := by
  unfold f_X6_isFigure
  rw [show (48 : Int32) = nI 48 from rfl, show (57 : Int32) = nI 57 from rfl]
  by_cases h1 : c < 48
  · rw [if_pos (nI_lt h1 (by omega)), p2_b, if_neg (by omega)]
  · rw [if_neg (fun q => h1 ((nI_ltI (by omega) (by omega)).mp q))]
    by_cases h2 : 57 < c
    · rw [if_pos (nI_lt h2 (by omega)), p2_b, if_neg (by omega)]
    · rw [if_neg (fun q => h2 ((nI_ltI (by omega) (by omega)).mp q)), p2_b, if_pos (by omega)]
/-- advance, of the class -/
theorem t_advL (hX : s_TX T L bs tx) (s : Nat) : ∀ (r e m : Nat), e + r = L → r < m → f_X6_advance_L82w bs (nI L) (nI s) m (nI e) = some (1, nI s, nI (s_run (s_le T) r e)) := by
  intro r
  have hL := hX.1
  induction r with
  | zero =>
    intro e m h1 h2
    obtain ⟨m, rfl⟩ : ∃ j, m = j + 1 := ⟨m - 1, by omega⟩
    show f_X6_advance_L82 bs (nI L) (nI s) (f_X6_advance_L82w bs (nI L) (nI s) m) (nI e) = _
    unfold f_X6_advance_L82
    rw [if_pos (nI_le (by omega) (by omega)), s_run]
  | succ r ih =>
    intro e m h1 h2
    obtain ⟨m, rfl⟩ : ∃ j, m = j + 1 := ⟨m - 1, by omega⟩
    obtain ⟨x1, x2, x3⟩ := hX.2 e (by omega)
    show f_X6_advance_L82 bs (nI L) (nI s) (f_X6_advance_L82w bs (nI L) (nI s) m) (nI e) = _
    unfold f_X6_advance_L82
    rw [if_neg (nI_ge (by omega) (by omega)), p2_gd (p2_ib (by omega) (by decide)), p2_ix (by omega), x1, t_isLetter _ x3, Option.bind_some, p4_bt, nI_1, ih (e + 1) m (by omega) (by omega), s_run]
    unfold s_le
    by_cases c : 97 ≤ T e ∧ T e ≤ 122
    · rw [if_pos c, if_pos (decide_eq_true c)]
    · rw [if_neg c, if_neg (by rw [decide_eq_false c]; decide)]
theorem t_advF (hX : s_TX T L bs tx) (s : Nat) : ∀ (r e m : Nat), e + r = L → r < m → f_X6_advance_L138w bs (nI L) (nI s) m (nI e) = f_X6_advance_J177 (nI s) (nI (s_run (s_fi T) r e)) := by
  intro r
  have hL := hX.1
  induction r with
  | zero =>
    intro e m h1 h2
    obtain ⟨m, rfl⟩ : ∃ j, m = j + 1 := ⟨m - 1, by omega⟩
    show f_X6_advance_L138 bs (nI L) (nI s) (f_X6_advance_L138w bs (nI L) (nI s) m) (nI e) = _
    unfold f_X6_advance_L138
    rw [if_pos (nI_le (by omega) (by omega)), s_run]
  | succ r ih =>
    intro e m h1 h2
    obtain ⟨m, rfl⟩ : ∃ j, m = j + 1 := ⟨m - 1, by omega⟩
    obtain ⟨x1, x2, x3⟩ := hX.2 e (by omega)
    show f_X6_advance_L138 bs (nI L) (nI s) (f_X6_advance_L138w bs (nI L) (nI s) m) (nI e) = _
    unfold f_X6_advance_L138
    rw [if_neg (nI_ge (by omega) (by omega)), p2_gd (p2_ib (by omega) (by decide)), p2_ix (by omega), x1, t_isFigure _ x3, Option.bind_some, p4_bt, nI_1, ih (e + 1) m (by omega) (by omega), s_run]
    unfold s_fi
    by_cases c : 48 ≤ T e ∧ T e ≤ 57
    · rw [if_pos c, if_pos (decide_eq_true c)]
    · rw [if_neg c, if_neg (by rw [decide_eq_false c]; decide)]
theorem t_advS (hX : s_TX T L bs tx) : ∀ (r p m : Nat), p + r = L → r < m → f_X6_advance_L8w bs (nI L) m (nI p) = f_X6_advance_J46 bs (nI L) (nI (s_run (s_bl T) r p)) := by
  intro r
  have hL := hX.1
  induction r with
  | zero =>
    intro e m h1 h2
    obtain ⟨m, rfl⟩ : ∃ j, m = j + 1 := ⟨m - 1, by omega⟩
    show f_X6_advance_L8 bs (nI L) (f_X6_advance_L8w bs (nI L) m) (nI e) = _
    unfold f_X6_advance_L8
    rw [if_pos (nI_le (by omega) (by omega)), s_run]
  | succ r ih =>
    intro e m h1 h2
    obtain ⟨m, rfl⟩ : ∃ j, m = j + 1 := ⟨m - 1, by omega⟩
    obtain ⟨x1, x2, x3⟩ := hX.2 e (by omega)
    show f_X6_advance_L8 bs (nI L) (f_X6_advance_L8w bs (nI L) m) (nI e) = _
    unfold f_X6_advance_L8
    rw [if_neg (nI_ge (by omega) (by omega)), p2_gd (p2_ib (by omega) (by decide)), p2_ix (by omega), x1, nI_1, ih (e + 1) m (by omega) (by omega), s_run]
    unfold s_bl
    by_cases c : T e = 32
    · rw [if_pos (by rw [c]; rfl), if_pos (decide_eq_true c)]
    · rw [if_neg (show ¬ nI (T e) = 32 from fun q => c ((nI_eq (b := 32) (by omega) (by decide)).mp q)), if_neg (by rw [decide_eq_false c]; decide)]
theorem t_adv (hX : s_TX T L bs tx) {p : Nat} (hp : p ≤ L) : f_X6_advance bs (nI L) (nI p) = some (nI (s_kd T L (s_st T L p)), nI (s_st T L p), nI (s_en T L (s_st T L p))) := by
  have hL := hX.1
  unfold f_X6_advance
  rw [t_advS hX (L - p) p cx_N0 (by omega) (by unfold cx_N0; omega)]
  have hsb := s_st_b (T := T) hp
  unfold s_st at hsb ⊢
  generalize s_run (s_bl T) (L - p) p = s at *
  unfold f_X6_advance_J46 s_kd s_en
  by_cases c : s < L
  · obtain ⟨x1, x2, x3⟩ := hX.2 s c
    rw [if_pos (nI_lt c (by omega)), p2_gd (p2_ib (by omega) (by decide)), p2_gd (p2_ib (by omega) (by decide)), p2_gd (p2_ib (by omega) (by decide)), p2_ix (by omega), x1, t_isLetter _ x3, Option.bind_some, p4_bt, t_isFigure _ x3, Option.bind_some, p4_bt, if_pos c, if_pos c, t_advL hX s (L - s) s cx_N0 (by omega) (by unfold cx_N0; omega), t_advF hX s (L - s) s cx_N0 (by omega) (by unfold cx_N0; omega)]
    by_cases c1 : 97 ≤ T s ∧ T s ≤ 122
    · have d1 : s_le T s = true := decide_eq_true c1
      rw [if_pos c1, if_pos d1, if_pos d1]; rfl
    · have d1 : ¬ s_le T s = true := by unfold s_le; rw [decide_eq_false c1]; decide
      rw [if_neg c1, if_neg d1, if_neg d1]
      by_cases c2 : 48 ≤ T s ∧ T s ≤ 57
      · have d2 : s_fi T s = true := decide_eq_true c2
        rw [if_pos c2, if_pos d2, if_pos d2]
        have hb := s_run_b (s_fi T) (L - s) s
        unfold f_X6_advance_J177
        rw [pk_sub hb.1, show (3 : Int32) = nI 3 from rfl]
        by_cases c3 : 3 < s_run (s_fi T) (L - s) s - s
        · rw [if_pos (nI_lt c3 (by omega)), if_neg (by omega)]; rfl
        · rw [if_neg (fun q => c3 ((nI_ltI (by omega) (by omega)).mp q)), if_pos (by omega)]; rfl
      · have d2 : ¬ s_fi T s = true := by unfold s_fi; rw [decide_eq_false c2]; decide
        rw [if_neg c2, if_neg d2, if_neg d2, nI_1]
        by_cases c3 : T s = 59
        · rw [if_pos (by rw [c3]; rfl), if_pos c3]; rfl
        · rw [if_neg (show ¬ nI (T s) = 59 from fun q => c3 ((nI_eq (b := 59) (by omega) (by decide)).mp q)), if_neg c3]; rfl
  · rw [if_neg (fun q => c ((nI_ltI (by omega) (by omega)).mp q)), if_neg c, if_neg c]; rfl
/-! words -/
def s_cd (D : Nat → Nat) : Nat → Nat
  | 0 => 0
  | k + 1 => if 7 < k then 0 else 32 * s_cd D k + D k
theorem s_cd_lt (D : Nat → Nat) : ∀ k, (∀ j, j < k → D j ≤ 31) → s_cd D k < 2 ^ 40 := by
  have h : ∀ k, k ≤ 8 → (∀ j, j < k → D j ≤ 31) → s_cd D k < 32 ^ k := by
    intro k
    induction k with
    | zero => intro _ _; exact Nat.one_pos
    | succ k ih =>
      intro h1 h2
      have := ih (by omega) (fun j hj => h2 j (by omega))
      have h3 := h2 k (by omega)
      rw [s_cd, if_neg (by omega), Nat.pow_succ]
      omega
  intro k hk
  by_cases c : k ≤ 8
  · exact Nat.lt_of_lt_of_le (h k c hk) (Nat.le_trans (Nat.pow_le_pow_right (by decide) c) (by decide))
  · obtain ⟨k, rfl⟩ : ∃ j, k = j + 1 := ⟨k - 1, by omega⟩
    rw [s_cd, if_pos (by omega)]
    decide
theorem s_cd_big (D : Nat → Nat) {k : Nat} (h : 8 < k) : s_cd D k = 0 := by
  obtain ⟨k, rfl⟩ : ∃ j, k = j + 1 := ⟨k - 1, by omega⟩
  rw [s_cd, if_pos (by omega)]
theorem s_cd_eq (D E : Nat → Nat) : ∀ n m, n ≤ 8 → (∀ j, j < n → 1 ≤ E j ∧ E j ≤ 31) → m ≤ 8 → (∀ j, j < m → 1 ≤ D j ∧ D j ≤ 31) → (s_cd D m = s_cd E n ↔ m = n ∧ ∀ j, j < n → D j = E j) := by
  intro n
  induction n with
  | zero =>
    intro m _ _ h3 h4
    constructor
    · intro h
      rcases Nat.eq_zero_or_pos m with q | q
      · exact ⟨q, fun j hj => by omega⟩
      · obtain ⟨m, rfl⟩ : ∃ j, m = j + 1 := ⟨m - 1, by omega⟩
        have := h4 m (by omega)
        rw [s_cd, s_cd, if_neg (by omega)] at h
        omega
    · rintro ⟨rfl, _⟩; rfl
  | succ n ih =>
    intro m h1 h2 h3 h4
    have e1 := h2 n (by omega)
    rcases Nat.eq_zero_or_pos m with q | q
    · subst q
      constructor
      · intro h
        rw [s_cd, s_cd, if_neg (by omega)] at h
        omega
      · rintro ⟨h, _⟩; omega
    · obtain ⟨m, rfl⟩ : ∃ j, m = j + 1 := ⟨m - 1, by omega⟩
      have e2 := h4 m (by omega)
      have := ih m (by omega) (fun j hj => h2 j (by omega)) (by omega) (fun j hj => h4 j (by omega))
      rw [s_cd, s_cd, if_neg (by omega), if_neg (by omega)]
      constructor
      · intro h
        have e3 : D m = E n := by omega
        have e4 : s_cd D m = s_cd E n := by omega
        obtain ⟨a, b⟩ := this.mp e4
        subst a
        refine ⟨rfl, fun j hj => ?_⟩
        by_cases c : j = m
        · rw [c]; exact e3
        · exact b j (by omega)
      · rintro ⟨a, b⟩
        obtain rfl : m = n := by omega
        have e4 := this.mpr ⟨rfl, fun j hj => b j (by omega)⟩
        rw [e4, b m (by omega)]
def s_W (i j : Nat) : Nat := ((cx_byts.getD i []).getD j 0).toNatClampNeg - 96
theorem s_W_fact : ∀ i, i < 8 → cx_lens.getD i 0 ≤ 8 ∧ 1 ≤ cx_lens.getD i 0 ∧ cx_sl i = nI (cx_lens.getD i 0) ∧ ∀ j, j < cx_lens.getD i 0 → 1 ≤ s_W i j ∧ s_W i j ≤ 26 ∧ cx_sc i (nI j) = nI (s_W i j + 96) := by decide +kernel
def s_vb (v : Nat) : Nat := if v = 542723566 then 0 else if v = 538514900 then 1 else if v = 463922 then 2 else if v = 17485682245 then 3 else if v = 267300 then 4 else if v = 460197 then 5 else if v = 343342 then 6 else if v = 21091104997 then 7 else 8
theorem s_vb_W : ∀ i, i < 8 → s_vb (s_cd (s_W i) (cx_lens.getD i 0)) = i := by decide +kernel
theorem s_W_all : s_cd (s_W 0) (cx_lens.getD 0 0) = 542723566 ∧ s_cd (s_W 1) (cx_lens.getD 1 0) = 538514900 ∧ s_cd (s_W 2) (cx_lens.getD 2 0) = 463922 ∧ s_cd (s_W 3) (cx_lens.getD 3 0) = 17485682245 ∧ s_cd (s_W 4) (cx_lens.getD 4 0) = 267300 ∧ s_cd (s_W 5) (cx_lens.getD 5 0) = 460197 ∧ s_cd (s_W 6) (cx_lens.getD 6 0) = 343342 ∧ s_cd (s_W 7) (cx_lens.getD 7 0) = 21091104997 := by decide +kernel
theorem s_vb_8 {v : Nat} (h : ∀ i, i < 8 → v ≠ s_cd (s_W i) (cx_lens.getD i 0)) : s_vb v = 8 := by
  obtain ⟨a0, a1, a2, a3, a4, a5, a6, a7⟩ := s_W_all
  have h0 := h 0 (by decide)
  have h1 := h 1 (by decide)
  have h2 := h 2 (by decide)
  have h3 := h 3 (by decide)
  have h4 := h 4 (by decide)
  have h5 := h 5 (by decide)
  have h6 := h 6 (by decide)
  have h7 := h 7 (by decide)
  rw [a0] at h0
  rw [a1] at h1
  rw [a2] at h2
  rw [a3] at h3
  rw [a4] at h4
  rw [a5] at h5
  rw [a6] at h6
  rw [a7] at h7
  unfold s_vb
  rw [if_neg h0, if_neg h1, if_neg h2, if_neg h3, if_neg h4, if_neg h5, if_neg h6, if_neg h7]
theorem s_vb_le (v : Nat) : s_vb v ≤ 8 := by
  unfold s_vb
  repeat' split
  all_goals decide
def s_I (v : Nat) : Int32 := if s_vb v = 8 then -1 else nI (s_vb v)
theorem t_verbOf {v : Nat} (hv : v < 2 ^ 40) : f_X9_verbOf (lN v) = some (s_I v) := by
  have k : ∀ c : Nat, c < 2 ^ 40 → (lg_cmp (lN v) (lN c) = 0 ↔ v = c) := fun c hc => (p3_ne (by omega) (by omega)).1
  have k0 : lg_cmp (lN v) 542723566 = 0 ↔ v = 542723566 := k 542723566 (by decide)
  have k1 : lg_cmp (lN v) 538514900 = 0 ↔ v = 538514900 := k 538514900 (by decide)
  have k2 : lg_cmp (lN v) 463922 = 0 ↔ v = 463922 := k 463922 (by decide)
  have k3 : lg_cmp (lN v) 17485682245 = 0 ↔ v = 17485682245 := k 17485682245 (by decide)
  have k4 : lg_cmp (lN v) 267300 = 0 ↔ v = 267300 := k 267300 (by decide)
  have k5 : lg_cmp (lN v) 460197 = 0 ↔ v = 460197 := k 460197 (by decide)
  have k6 : lg_cmp (lN v) 343342 = 0 ↔ v = 343342 := k 343342 (by decide)
  have k7 : lg_cmp (lN v) 21091104997 = 0 ↔ v = 21091104997 := k 21091104997 (by decide)
  have j : ∀ one : Int32, f_X9_verbOf_J49 (lN v) one = some (if one = -1 then (if v = 267300 then 4 else if v = 460197 then 5 else if v = 343342 then 6 else if v = 21091104997 then 7 else -1) else one) := by
    intro one
    unfold f_X9_verbOf_J49 f_X9_verbOf_J101
    simp only [k4, k5, k6, k7]
    by_cases q : one = -1
    · simp only [if_pos q]
      repeat' split
      all_goals first | rfl | contradiction
    · simp only [if_neg q]
      repeat' split
      all_goals rfl
  unfold f_X9_verbOf
  rw [j, j, j, j, j]
  simp only [k0, k1, k2, k3]
  unfold s_I s_vb
  by_cases c0 : v = 542723566
  · simp only [if_pos c0]; rfl
  · simp only [if_neg c0]
    by_cases c1 : v = 538514900
    · simp only [if_pos c1]; rfl
    · simp only [if_neg c1]
      by_cases c2 : v = 463922
      · simp only [if_pos c2]; rfl
      · simp only [if_neg c2]
        by_cases c3 : v = 17485682245
        · simp only [if_pos c3]; rfl
        · simp only [if_neg c3]
          by_cases c4 : v = 267300
          · simp only [if_pos c4]; rfl
          · simp only [if_neg c4]
            by_cases c5 : v = 460197
            · simp only [if_pos c5]; rfl
            · simp only [if_neg c5]
              by_cases c6 : v = 343342
              · simp only [if_pos c6]; rfl
              · simp only [if_neg c6]
                by_cases c7 : v = 21091104997
                · simp only [if_pos c7]; rfl
                · simp only [if_neg c7]; rfl
end TX
