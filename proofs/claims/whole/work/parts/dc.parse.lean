/-! THE TEXT: items -/
def s_N (i : Nat) : Nat := [4, 2, 2, 2, 5, 4, 3, 1].getD i 0
theorem s_N_fact : ∀ i, i < 8 → 1 ≤ s_N i ∧ s_N i ≤ 5 ∧ cx_tabs.getD i 0 = nI (s_N i) ∧ f_X9_numbers (nI i) = some (nI (s_N i)) := by
  have h : ∀ i, i < 8 → 1 ≤ s_N i ∧ s_N i ≤ 5 ∧ cx_tabs.getD i 0 = nI (s_N i) := by decide +kernel
  have h2 : ∀ i, i < 8 → f_X9_numbers (nI i) = some (nI (s_N i)) := by decide +kernel
  exact fun i hi => ⟨(h i hi).1, (h i hi).2.1, (h i hi).2.2, h2 i hi⟩
/-- kind, start, end of the token from p on -/
def s_K (T : Nat → Nat) (L p : Nat) : Nat := s_kd T L (s_st T L p)
def s_E (T : Nat → Nat) (L p : Nat) : Nat := s_en T L (s_st T L p)
def s_go (T : Nat → Nat) (L : Nat) : Nat → Nat → Bool × Nat
  | 0, p => (decide (s_K T L p = 3), p)
  | r + 1, p => if s_K T L p = 2 then s_go T L r (s_E T L p) else (false, p)
def s_ps (T : Nat → Nat) (L e : Nat) : Nat → Nat
  | 0 => e
  | k + 1 => s_E T L (s_ps T L e k)
def s_IT (T : Nat → Nat) (L p : Nat) : Nat := s_it T L (s_st T L p)
def s_VA (T : Nat → Nat) (L p i : Nat) : Nat := s_va T L (s_st T L (s_ps T L (s_E T L p) i))
def s_gd (T : Nat → Nat) (L p : Nat) : Bool × Nat := if s_K T L p = 1 ∧ s_IT T L p ≠ 8 then s_go T L (s_N (s_IT T L p)) (s_E T L p) else (false, p)
def s_P (T : Nat → Nat) (L : Nat) : Nat → Nat
  | 0 => 0
  | m + 1 => s_E T L (s_gd T L (s_P T L m)).2
section TZ
variable {T : Nat → Nat} {L : Nat} {bs tx : Nat → Int32}
theorem s_E_b {p : Nat} (hp : p ≤ L) : p ≤ s_E T L p ∧ s_E T L p ≤ L ∧ (s_K T L p ≠ 0 → p < s_E T L p) := by
  have h1 := s_st_b (T := T) hp
  have h2 := s_en_b (T := T) h1.2
  unfold s_E s_K
  refine ⟨by omega, by omega, fun q => ?_⟩
  have : s_st T L p < L := by
    rcases Nat.lt_or_ge (s_st T L p) L with z | z
    · exact z
    · exact absurd ((t_kd0 h1.2).mpr (by omega)) q
  have := h2.2.2 this
  omega
theorem s_go_b : ∀ r p, p ≤ L → (s_go T L r p).2 ≤ L ∧ ((s_go T L r p).1 = true → p + r + 1 ≤ s_E T L (s_go T L r p).2) := by
  intro r
  induction r with
  | zero =>
    intro p hp
    rw [s_go]
    refine ⟨hp, fun q => ?_⟩
    have q := of_decide_eq_true q
    have := (s_E_b (T := T) hp).2.2 (by omega)
    show p + 0 + 1 ≤ s_E T L p
    omega
  | succ r ih =>
    intro p hp
    rw [s_go]
    have hb := s_E_b (T := T) hp
    by_cases c : s_K T L p = 2
    · rw [if_pos c]
      obtain ⟨h1, h2⟩ := ih (s_E T L p) hb.2.1
      refine ⟨h1, fun q => ?_⟩
      have := h2 q
      have := hb.2.2 (by omega)
      omega
    · rw [if_neg c]
      exact ⟨hp, fun q => by cases q⟩
theorem s_IT_le (p : Nat) : s_IT T L p ≤ 8 := s_vb_le _
theorem s_gd_b {p : Nat} (hp : p ≤ L) : (s_gd T L p).2 ≤ L ∧ ((s_gd T L p).1 = true → p + 3 ≤ s_E T L (s_gd T L p).2) := by
  unfold s_gd
  have hb := s_E_b (T := T) hp
  have hi := s_IT_le (T := T) (L := L) p
  by_cases c : s_K T L p = 1 ∧ s_IT T L p ≠ 8
  · rw [if_pos c]
    obtain ⟨h1, h2⟩ := s_go_b (T := T) (s_N (s_IT T L p)) (s_E T L p) hb.2.1
    refine ⟨h1, fun q => ?_⟩
    have := h2 q
    have := hb.2.2 (by omega)
    have := (s_N_fact (s_IT T L p) (by omega)).1
    omega
  · rw [if_neg c]
    exact ⟨hp, fun q => by cases q⟩
theorem s_P_b : ∀ m, s_P T L m ≤ L := by
  intro m
  induction m with
  | zero => exact Nat.zero_le _
  | succ m ih => exact (s_E_b (T := T) (s_gd_b ih).1).2.1
theorem s_P_far : ∀ m, (∀ m', m' < m → (s_gd T L (s_P T L m')).1 = true) → 3 * m ≤ s_P T L m := by
  intro m
  induction m with
  | zero => intro _; exact Nat.zero_le _
  | succ m ih =>
    intro h
    have := ih (fun m' hm => h m' (by omega))
    have := (s_gd_b (T := T) (s_P_b m)).2 (h m (by omega))
    show 3 * (m + 1) ≤ s_E T L (s_gd T L (s_P T L m)).2
    omega
/-- how many items, until the end or a fault -/
theorem s_many (T : Nat → Nat) (L : Nat) : ∃ N, 3 * N ≤ L ∧ (∀ m, m < N → s_K T L (s_P T L m) ≠ 0 ∧ (s_gd T L (s_P T L m)).1 = true) ∧ (s_K T L (s_P T L N) = 0 ∨ (s_gd T L (s_P T L N)).1 = false) := by
  have loop : ∀ r m, L - s_P T L m ≤ r → (∀ m', m' < m → s_K T L (s_P T L m') ≠ 0 ∧ (s_gd T L (s_P T L m')).1 = true) → ∃ N, (∀ m, m < N → s_K T L (s_P T L m) ≠ 0 ∧ (s_gd T L (s_P T L m)).1 = true) ∧ (s_K T L (s_P T L N) = 0 ∨ (s_gd T L (s_P T L N)).1 = false) := by
    intro r
    induction r with
    | zero =>
      intro m h1 h2
      refine ⟨m, h2, Or.inl ?_⟩
      have hb := s_P_b (T := T) (L := L) m
      have hs := s_st_b (T := T) hb
      exact (t_kd0 hs.2).mpr (by omega)
    | succ r ih =>
      intro m h1 h2
      by_cases c : s_K T L (s_P T L m) = 0
      · exact ⟨m, h2, Or.inl c⟩
      · by_cases d : (s_gd T L (s_P T L m)).1 = true
        · have hb := s_P_b (T := T) (L := L) m
          have := (s_gd_b (T := T) hb).2 d
          refine ih (m + 1) ?_ (fun m' hm => ?_)
          · show L - s_E T L (s_gd T L (s_P T L m)).2 ≤ r
            omega
          · by_cases e : m' = m
            · rw [e]; exact ⟨c, d⟩
            · exact h2 m' (by omega)
        · exact ⟨m, h2, Or.inr ((Bool.not_eq_true _).mp d)⟩
  obtain ⟨N, h1, h2⟩ := loop L 0 (by omega) (fun m' hm => by omega)
  refine ⟨N, ?_, h1, h2⟩
  have := s_P_far (T := T) (L := L) N (fun m' hm => (h1 m' hm).2)
  have := s_P_b (T := T) (L := L) N
  omega
/-- takeItem, of the class -/
theorem t_take (hX : s_TX T L bs tx) {p : Nat} (hp : p ≤ L) (it : Int32) (nums : Nat → Int32) : ∃ it' nums', f_X6_takeItem bs (nI L) (nI (s_st T L p)) (nI (s_E T L p)) it nums (nI (s_K T L p)) = some (p2_b ((s_gd T L p).1 = true), nI (s_st T L (s_gd T L p).2), nI (s_E T L (s_gd T L p).2), it', nums') ∧ ((s_gd T L p).1 = true → s_IT T L p < 8 ∧ it' = nI (s_IT T L p) ∧ ∀ i, i < s_N (s_IT T L p) → nums' i = nI (s_VA T L p i)) := by
  have hL := hX.1
  have hb := s_E_b (T := T) hp
  have hs := s_st_b (T := T) hp
  unfold f_X6_takeItem
  have hk4 : s_K T L p ≤ 4 := t_kdl
  by_cases c1 : s_K T L p = 1
  · rw [if_pos (by rw [c1]; rfl), show f_X6_itemOf bs (nI (s_st T L p)) (nI (s_E T L p)) = _ from t_itemOf hX hs.2 c1, Option.bind_some]
    have hi := s_IT_le (T := T) (L := L) p
    by_cases c2 : s_IT T L p = 8
    · have eg : s_gd T L p = (false, p) := by unfold s_gd; rw [if_neg (fun q => q.2 c2)]
      rw [eg, if_pos (show s_it T L (s_st T L p) = 8 from c2), if_pos rfl]
      exact ⟨_, _, rfl, fun q => by cases q⟩
    · have eg : s_gd T L p = s_go T L (s_N (s_IT T L p)) (s_E T L p) := by unfold s_gd; rw [if_pos ⟨c1, c2⟩]
      have ei : s_it T L (s_st T L p) = s_IT T L p := rfl
      rw [eg, ei, if_neg c2, if_neg (p2_nIne _ (by omega))]
      obtain ⟨f1, f2, f3, f4⟩ := s_N_fact (s_IT T L p) (by omega)
      have loop : ∀ (r k m : Nat) (h5 : Int32) (nums : Nat → Int32), k + r = s_N (s_IT T L p) → r < m → (∀ i, i < k → nums i = nI (s_VA T L p i)) → s_ps T L (s_E T L p) k ≤ L → ∃ nums', f_X6_takeItem_L27w bs (nI L) (nI (s_IT T L p)) m h5 (nI (s_ps T L (s_E T L p) k)) nums (nI k) = some (p2_b ((s_go T L r (s_ps T L (s_E T L p) k)).1 = true), nI (s_st T L (s_go T L r (s_ps T L (s_E T L p) k)).2), nI (s_E T L (s_go T L r (s_ps T L (s_E T L p) k)).2), nI (s_IT T L p), nums') ∧ ((s_go T L r (s_ps T L (s_E T L p) k)).1 = true → ∀ i, i < s_N (s_IT T L p) → nums' i = nI (s_VA T L p i)) := by
        intro r
        induction r with
        | zero =>
          intro k m h5 nums h1 h2 h3 h4
          obtain ⟨m, rfl⟩ : ∃ j, m = j + 1 := ⟨m - 1, by omega⟩
          refine ⟨nums, ?_, fun _ i hi => h3 i (by omega)⟩
          show f_X6_takeItem_L27 bs (nI L) (nI (s_IT T L p)) (f_X6_takeItem_L27w bs (nI L) (nI (s_IT T L p)) m) h5 (nI (s_ps T L (s_E T L p) k)) nums (nI k) = _
          unfold f_X6_takeItem_L27
          have hk : s_K T L (s_ps T L (s_E T L p) k) ≤ 4 := t_kdl
          rw [p2_gd (p2_ib (by omega) (by decide)), p2_ix (by omega), f3, if_pos (nI_le (by omega) (by omega)), t_adv hX h4, Option.bind_some, s_go]
          show (if nI (s_K T L (s_ps T L (s_E T L p) k)) = 3 then _ else _) = _
          by_cases c : s_K T L (s_ps T L (s_E T L p) k) = 3
          · rw [if_pos (by rw [c]; rfl), p2_bT (decide_eq_true c)]; rfl
          · rw [if_neg (show ¬ nI (s_K T L (s_ps T L (s_E T L p) k)) = 3 from fun q => c ((nI_eq (b := 3) (by omega) (by decide)).mp q)), p2_bF (show ¬ (decide (s_K T L (s_ps T L (s_E T L p) k) = 3)) = true by rw [decide_eq_false c]; exact Bool.false_ne_true)]; rfl
        | succ r ih =>
          intro k m h5 nums h1 h2 h3 h4
          obtain ⟨m, rfl⟩ : ∃ j, m = j + 1 := ⟨m - 1, by omega⟩
          show ∃ nums', f_X6_takeItem_L27 bs (nI L) (nI (s_IT T L p)) (f_X6_takeItem_L27w bs (nI L) (nI (s_IT T L p)) m) h5 (nI (s_ps T L (s_E T L p) k)) nums (nI k) = _ ∧ _
          unfold f_X6_takeItem_L27
          have hk : s_K T L (s_ps T L (s_E T L p) k) ≤ 4 := t_kdl
          have hst := s_st_b (T := T) h4
          rw [p2_gd (p2_ib (by omega) (by decide)), p2_ix (by omega), f3, if_neg (nI_ge (by omega) (by omega)), t_adv hX h4, Option.bind_some, s_go]
          show ∃ nums', (if nI (s_K T L (s_ps T L (s_E T L p) k)) = 2 then _ else _) = _ ∧ _
          by_cases c : s_K T L (s_ps T L (s_E T L p) k) = 2
          · rw [if_pos (by rw [c]; rfl), if_pos c, t_numberOf hX hst.2 c, Option.bind_some, p2_gd (p2_ib (by omega) (by decide)), p2_ix (by omega), nI_1]
            simp only [cx_let]
            exact ih (k + 1) m _ _ (by omega) (by omega) (fun i hi => by
              by_cases z : i = k
              · rw [z, p2_us]; rfl
              · rw [p2_un z]; exact h3 i (by omega)) (s_E_b (T := T) h4).2.1
          · rw [if_neg (show ¬ nI (s_K T L (s_ps T L (s_E T L p) k)) = 2 from fun q => c ((nI_eq (b := 2) (by omega) (by decide)).mp q)), if_neg c, p2_bF Bool.false_ne_true]
            exact ⟨nums, rfl, fun q => by cases q⟩
      obtain ⟨nums', g1, g2⟩ := loop (s_N (s_IT T L p)) 0 cx_N0 (nI (s_st T L p)) nums (by omega) (by unfold cx_N0; omega) (fun i hi => by omega) hb.2.1
      exact ⟨_, nums', g1, fun q => ⟨by omega, rfl, g2 q⟩⟩
  · have eg : s_gd T L p = (false, p) := by unfold s_gd; rw [if_neg (fun q => c1 q.1)]
    rw [eg, if_neg (show ¬ nI (s_K T L p) = 1 from fun q => c1 ((nI_eq (b := 1) (by omega) (by decide)).mp q))]
    exact ⟨it, nums, rfl, fun q => by cases q⟩
theorem s_tk_f (s : Nat) : (s_tk T L s = 0 ↔ s_kd T L s = 0) ∧ (s_tk T L s = 2 ↔ s_kd T L s = 2) ∧ (s_tk T L s = 3 ↔ s_kd T L s = 3) ∧ (4 ≤ s_tk T L s ↔ s_kd T L s = 1 ∧ s_it T L s ≠ 8) ∧ (4 ≤ s_tk T L s → s_tk T L s = 4 + s_it T L s) ∧ s_tk T L s ≤ 12 := by
  have h1 : s_kd T L s ≤ 4 := t_kdl
  have h2 : s_it T L s ≤ 8 := s_vb_le _
  unfold s_tk
  generalize s_kd T L s = k at *
  generalize s_it T L s = i at *
  by_cases c : k = 1
  · rw [if_pos c]
    by_cases d : i = 8
    · rw [if_pos d]
      refine ⟨by omega, by omega, by omega, ⟨fun q => by omega, fun q => by omega⟩, by omega, by omega⟩
    · rw [if_neg d]
      refine ⟨by omega, by omega, by omega, ⟨fun q => ⟨c, d⟩, fun q => by omega⟩, by omega, by omega⟩
  · rw [if_neg c]
    by_cases d : k = 4
    · rw [if_pos d]
      refine ⟨by omega, by omega, by omega, ⟨fun q => by omega, fun q => by omega⟩, by omega, by omega⟩
    · rw [if_neg d]
      refine ⟨by omega, by omega, by omega, ⟨fun q => by omega, fun q => by omega⟩, by omega, by omega⟩
/-- an item, of the reference -/
theorem t_item (hX : s_TX T L bs tx) {p mn : Nat} (hp : p ≤ L) (hm : mn ≤ 100) (v : Int32) (items : Nat → Int32) (rc : Int32 → Int32 → Int32 → Int32 → Int32 → (Nat → Int32) → Option (Int32 × Int32 × Int32 × Int32 × Int32 × Int32 × (Nat → Int32))) (hk : s_K T L p ≠ 0) : ∃ items', (∀ j, j < 6 * mn → items' j = items j) ∧ ((s_gd T L p).1 = true → ∃ v', f_X9_reads_L14 tx (nI L) rc (nI (s_E T L p)) (nI (s_st T L p)) (nI (s_tk T L (s_st T L p))) v (nI mn) items = rc (nI (s_E T L (s_E T L (s_gd T L p).2))) (nI (s_st T L (s_E T L (s_gd T L p).2))) (nI (s_tk T L (s_st T L (s_E T L (s_gd T L p).2)))) v' (nI (mn + 1)) items' ∧ items' (6 * mn) = nI (s_IT T L p) ∧ ∀ i, i < s_N (s_IT T L p) → items' (6 * mn + 1 + i) = nI (s_VA T L p i)) ∧ ((s_gd T L p).1 = false → ∃ a t v', f_X9_reads_L14 tx (nI L) rc (nI (s_E T L p)) (nI (s_st T L p)) (nI (s_tk T L (s_st T L p))) v (nI mn) items = some (0, a, nI (s_st T L (s_gd T L p).2), t, v', nI mn, items')) := by
  have hL := hX.1
  have hb := s_E_b (T := T) hp
  obtain ⟨k0, k2, k3, k4, k5, k6⟩ := s_tk_f (T := T) (L := L) (s_st T L p)
  unfold f_X9_reads_L14
  rw [if_neg (show ¬ nI (s_tk T L (s_st T L p)) = 0 from fun q => hk (k0.mp ((nI_eq (b := 0) (by omega) (by decide)).mp q)))]
  have h64 : nI 6 * nI mn = nI (6 * mn) := pk_mul 6 mn
  by_cases c : 4 ≤ s_tk T L (s_st T L p)
  · have hi := s_IT_le (T := T) (L := L) p
    obtain ⟨d1, d2⟩ := k4.mp c
    have eg : s_gd T L p = s_go T L (s_N (s_IT T L p)) (s_E T L p) := by unfold s_gd; rw [if_pos ⟨d1, d2⟩]
    have e4 : nI (s_tk T L (s_st T L p)) - 4 = nI (s_IT T L p) := by
      rw [show (4 : Int32) = nI 4 from rfl, pk_sub c, k5 c, Nat.add_sub_cancel_left]; rfl
    have hi8 : s_IT T L p < 8 := by have : s_IT T L p ≠ 8 := d2; omega
    obtain ⟨f1, f2, f3, f4⟩ := s_N_fact (s_IT T L p) hi8
    rw [e4, if_pos (nI_pos' (by omega)), show (6 : Int32) = nI 6 from rfl, h64, p2_gd (p2_ib (by omega) (by decide)), p2_ix (by omega)]
    simp only [cx_let]
    obtain ⟨v1, a1, a2⟩ := t_scan hX hb.2.1 v
    have a1' : f_X9_scans tx (nI L) (nI (s_E T L p)) v = some (nI (s_E T L (s_E T L p)), nI (s_st T L (s_E T L p)), nI (s_tk T L (s_st T L (s_E T L p))), v1) := a1
    rw [a1', Option.bind_some, eg]
    have loop : ∀ (r k m : Nat) (v : Int32) (its : Nat → Int32), k + r = s_N (s_IT T L p) → r < m → s_ps T L (s_E T L p) k ≤ L → (s_K T L (s_ps T L (s_E T L p) k) = 2 → v = nI (s_va T L (s_st T L (s_ps T L (s_E T L p) k)))) → (∀ j, j < 6 * mn → its j = items j) → its (6 * mn) = nI (s_IT T L p) → (∀ i, i < k → its (6 * mn + 1 + i) = nI (s_VA T L p i)) → ∃ items', (∀ j, j < 6 * mn → items' j = items j) ∧ ((s_go T L r (s_ps T L (s_E T L p) k)).1 = true → ∃ v', f_X9_reads_L53w tx (nI L) (nI mn) rc (nI (s_IT T L p)) m (nI (s_E T L (s_ps T L (s_E T L p) k))) (nI (s_st T L (s_ps T L (s_E T L p) k))) (nI (s_tk T L (s_st T L (s_ps T L (s_E T L p) k)))) v its (nI k) = rc (nI (s_E T L (s_E T L (s_go T L r (s_ps T L (s_E T L p) k)).2))) (nI (s_st T L (s_E T L (s_go T L r (s_ps T L (s_E T L p) k)).2))) (nI (s_tk T L (s_st T L (s_E T L (s_go T L r (s_ps T L (s_E T L p) k)).2)))) v' (nI (mn + 1)) items' ∧ items' (6 * mn) = nI (s_IT T L p) ∧ ∀ i, i < s_N (s_IT T L p) → items' (6 * mn + 1 + i) = nI (s_VA T L p i)) ∧ ((s_go T L r (s_ps T L (s_E T L p) k)).1 = false → ∃ a t v', f_X9_reads_L53w tx (nI L) (nI mn) rc (nI (s_IT T L p)) m (nI (s_E T L (s_ps T L (s_E T L p) k))) (nI (s_st T L (s_ps T L (s_E T L p) k))) (nI (s_tk T L (s_st T L (s_ps T L (s_E T L p) k)))) v its (nI k) = some (0, a, nI (s_st T L (s_go T L r (s_ps T L (s_E T L p) k)).2), t, v', nI mn, items')) := by
      intro r
      induction r with
      | zero =>
        intro k m v its h1 h2 h3 h4 h5 h6 h7
        obtain ⟨m, rfl⟩ : ∃ j, m = j + 1 := ⟨m - 1, by omega⟩
        obtain ⟨l0, l2, l3, l4, l5, l6⟩ := s_tk_f (T := T) (L := L) (s_st T L (s_ps T L (s_E T L p) k))
        refine ⟨its, h5, fun q => ?_, fun q => ?_⟩
        · have q := of_decide_eq_true q
          obtain ⟨v2, b1, b2⟩ := t_scan hX (s_E_b (T := T) h3).2.1 v
          refine ⟨v2, ?_, h6, fun i hi => h7 i (by omega)⟩
          show f_X9_reads_L53 tx (nI L) (nI mn) rc (nI (s_IT T L p)) (f_X9_reads_L53w tx (nI L) (nI mn) rc (nI (s_IT T L p)) m) _ _ _ v its (nI k) = _
          unfold f_X9_reads_L53
          rw [f4, Option.bind_some, if_pos (nI_le (by omega) (by omega)), if_pos (by rw [l3.mpr q]; rfl), b1, Option.bind_some, nI_1]
          rfl
        · have q := of_decide_eq_false q
          refine ⟨nI (s_E T L (s_ps T L (s_E T L p) k)), nI (s_tk T L (s_st T L (s_ps T L (s_E T L p) k))), v, ?_⟩
          · show f_X9_reads_L53 tx (nI L) (nI mn) rc (nI (s_IT T L p)) (f_X9_reads_L53w tx (nI L) (nI mn) rc (nI (s_IT T L p)) m) _ _ _ v its (nI k) = _
            unfold f_X9_reads_L53
            rw [f4, Option.bind_some, if_pos (nI_le (by omega) (by omega)), if_neg (show ¬ nI (s_tk T L (s_st T L (s_ps T L (s_E T L p) k))) = 3 from fun z => q (l3.mp ((nI_eq (b := 3) (by omega) (by decide)).mp z)))]
            rfl
      | succ r ih =>
        intro k m v its h1 h2 h3 h4 h5 h6 h7
        obtain ⟨m, rfl⟩ : ∃ j, m = j + 1 := ⟨m - 1, by omega⟩
        obtain ⟨l0, l2, l3, l4, l5, l6⟩ := s_tk_f (T := T) (L := L) (s_st T L (s_ps T L (s_E T L p) k))
        rw [s_go]
        by_cases q : s_K T L (s_ps T L (s_E T L p) k) = 2
        · obtain ⟨v2, b1, b2⟩ := t_scan hX (s_E_b (T := T) h3).2.1 v
          have e1 : f_X9_reads_L53w tx (nI L) (nI mn) rc (nI (s_IT T L p)) (m + 1) (nI (s_E T L (s_ps T L (s_E T L p) k))) (nI (s_st T L (s_ps T L (s_E T L p) k))) (nI (s_tk T L (s_st T L (s_ps T L (s_E T L p) k)))) v its (nI k) = f_X9_reads_L53w tx (nI L) (nI mn) rc (nI (s_IT T L p)) m (nI (s_E T L (s_ps T L (s_E T L p) (k + 1)))) (nI (s_st T L (s_ps T L (s_E T L p) (k + 1)))) (nI (s_tk T L (s_st T L (s_ps T L (s_E T L p) (k + 1))))) v2 (upd its (6 * mn + 1 + k) v) (nI (k + 1)) := by
            show f_X9_reads_L53 tx (nI L) (nI mn) rc (nI (s_IT T L p)) (f_X9_reads_L53w tx (nI L) (nI mn) rc (nI (s_IT T L p)) m) _ _ _ v its (nI k) = _
            unfold f_X9_reads_L53
            rw [f4, Option.bind_some, if_neg (nI_ge (by omega) (by omega)), if_pos (by rw [l2.mpr q]; rfl), show (6 : Int32) = nI 6 from rfl, h64, nI_1, nI_add, p2_gd (p2_ib (by omega) (by decide)), p2_ix (by omega)]
            simp only [cx_let]
            rw [b1, Option.bind_some, nI_1]
            rfl
          rw [if_pos q, e1]
          exact ih (k + 1) m v2 (upd its (6 * mn + 1 + k) v) (by omega) (by omega) (s_E_b (T := T) h3).2.1 b2 (fun j hj => by rw [p2_un (by omega)]; exact h5 j hj) (by rw [p2_un (by omega)]; exact h6) (fun i hi => by
            by_cases z : i = k
            · rw [z, p2_us, h4 q]; rfl
            · rw [p2_un (by omega)]; exact h7 i (by omega))
        · rw [if_neg q]
          refine ⟨its, h5, (fun z => by cases z), fun _ => ⟨nI (s_E T L (s_ps T L (s_E T L p) k)), nI (s_tk T L (s_st T L (s_ps T L (s_E T L p) k))), v, ?_⟩⟩
          · show f_X9_reads_L53 tx (nI L) (nI mn) rc (nI (s_IT T L p)) (f_X9_reads_L53w tx (nI L) (nI mn) rc (nI (s_IT T L p)) m) _ _ _ v its (nI k) = _
            unfold f_X9_reads_L53
            rw [f4, Option.bind_some, if_neg (nI_ge (by omega) (by omega)), if_neg (show ¬ nI (s_tk T L (s_st T L (s_ps T L (s_E T L p) k))) = 2 from fun z => q (l2.mp ((nI_eq (b := 2) (by omega) (by decide)).mp z)))]
    exact loop (s_N (s_IT T L p)) 0 cx_N0 v1 (upd items (6 * mn) (nI (s_IT T L p))) (by omega) (by unfold cx_N0; omega) hb.2.1 a2 (fun j hj => p2_un (by omega)) p2_us (fun i hi => by omega)
  · have eg : s_gd T L p = (false, p) := by unfold s_gd; exact if_neg (fun q => c (k4.mpr q))
    have hn : ¬ (0 : Int32) ≤ nI (s_tk T L (s_st T L p)) - 4 := by
      intro q
      have := pk_sneg (a := s_tk T L (s_st T L p)) (b := 4) (by decide) (by omega)
      exact absurd q (by rw [p2_le]; rw [p2_lt] at this; have e0 : (0 : Int32).toInt = 0 := rfl; rw [e0] at this ⊢; exact Int.not_le.mpr this)
    rw [eg, if_neg hn]
    exact ⟨items, fun _ _ => rfl, (fun q => by cases q), fun _ => ⟨_, _, _, rfl⟩⟩
/-- findFault, of the class -/
theorem t_fault (hX : s_TX T L bs tx) {N : Nat} (hN : N ≤ 100) (h1 : ∀ m, m < N → s_K T L (s_P T L m) ≠ 0 ∧ (s_gd T L (s_P T L m)).1 = true) (h2 : s_K T L (s_P T L N) = 0 ∨ (s_gd T L (s_P T L N)).1 = false) (it : Int32) (nums : Nat → Int32) : ∃ a b it' nums', f_X6_findFault bs (nI L) it nums = some ((if s_K T L (s_P T L N) = 0 then -1 else nI (s_st T L (s_gd T L (s_P T L N)).2)), a, b, it', nums') := by
  have hL := hX.1
  have loop : ∀ (r m f : Nat) (it : Int32) (nums : Nat → Int32), m + r = N → r < f → ∃ a b it' nums', f_X6_findFault_L12w bs (nI L) f (nI (s_st T L (s_P T L m))) (nI (s_E T L (s_P T L m))) it nums (nI (s_K T L (s_P T L m))) (nI m) = some ((if s_K T L (s_P T L N) = 0 then -1 else nI (s_st T L (s_gd T L (s_P T L N)).2)), a, b, it', nums') := by
    intro r
    induction r with
    | zero =>
      intro m f it nums g1 g2
      obtain ⟨f, rfl⟩ : ∃ j, f = j + 1 := ⟨f - 1, by omega⟩
      obtain rfl : m = N := by omega
      show ∃ a b it' nums', f_X6_findFault_L12 bs (nI L) (f_X6_findFault_L12w bs (nI L) f) _ _ it nums _ (nI m) = _
      unfold f_X6_findFault_L12
      have hk : s_K T L (s_P T L m) ≤ 4 := t_kdl
      rw [if_neg (show ¬ (300 : Int32) ≤ nI m from nI_ge (b := 300) (by omega) (by decide))]
      by_cases c : s_K T L (s_P T L m) = 0
      · rw [if_pos (by rw [c]; rfl), if_pos c]
        exact ⟨_, _, _, _, rfl⟩
      · have hf : (s_gd T L (s_P T L m)).1 = false := by
          rcases h2 with q | q
          · exact absurd q c
          · exact q
        obtain ⟨it', nums', t1, t2⟩ := t_take hX (s_P_b (T := T) (L := L) m) it nums
        rw [if_neg (show ¬ nI (s_K T L (s_P T L m)) = 0 from fun q => c ((nI_eq (b := 0) (by omega) (by decide)).mp q)), t1, Option.bind_some, p4_bt, if_neg (by rw [hf]; exact Bool.false_ne_true), if_neg c]
        exact ⟨_, _, _, _, rfl⟩
    | succ r ih =>
      intro m f it nums g1 g2
      obtain ⟨f, rfl⟩ : ∃ j, f = j + 1 := ⟨f - 1, by omega⟩
      obtain ⟨c, hf⟩ := h1 m (by omega)
      have hk : s_K T L (s_P T L m) ≤ 4 := t_kdl
      obtain ⟨it', nums', t1, t2⟩ := t_take hX (s_P_b (T := T) (L := L) m) it nums
      have hb := (s_E_b (T := T) (s_gd_b (T := T) (s_P_b (T := T) (L := L) m)).1).2.1
      obtain ⟨a, b, it2, nums2, i1⟩ := ih (m + 1) f it' nums' (by omega) (by omega)
      refine ⟨a, b, it2, nums2, ?_⟩
      rw [← i1]
      show f_X6_findFault_L12 bs (nI L) (f_X6_findFault_L12w bs (nI L) f) _ _ it nums _ (nI m) = _
      unfold f_X6_findFault_L12
      rw [if_neg (show ¬ (300 : Int32) ≤ nI m from nI_ge (b := 300) (by omega) (by decide)), if_neg (show ¬ nI (s_K T L (s_P T L m)) = 0 from fun q => c ((nI_eq (b := 0) (by omega) (by decide)).mp q)), t1, Option.bind_some, p4_bt, if_pos hf, t_adv hX hb, Option.bind_some, nI_1]
      rfl
  unfold f_X6_findFault
  rw [show f_X6_advance bs (nI L) 0 = _ from t_adv hX (p := 0) (Nat.zero_le _), Option.bind_some]
  exact loop N 0 cx_N0 it nums (by omega) (by unfold cx_N0; omega)
/-- what the reference has kept of an item -/
def s_kept (T : Nat → Nat) (L : Nat) (items : Nat → Int32) (m : Nat) : Prop := items (6 * m) = nI (s_IT T L (s_P T L m)) ∧ ∀ i, i < s_N (s_IT T L (s_P T L m)) → items (6 * m + 1 + i) = nI (s_VA T L (s_P T L m) i)
theorem s_N_le (i : Nat) : s_N i ≤ 5 := by
  by_cases c : i < 8
  · exact (s_N_fact i c).2.1
  · obtain ⟨j, rfl⟩ : ∃ j, i = j + 8 := ⟨i - 8, by omega⟩
    have : s_N (j + 8) = 0 := rfl
    rw [this]
    exact Nat.zero_le _
/-- reads, of the reference -/
theorem t_reads (hX : s_TX T L bs tx) {N : Nat} (hN : N ≤ 100) (h1 : ∀ m, m < N → s_K T L (s_P T L m) ≠ 0 ∧ (s_gd T L (s_P T L m)).1 = true) (h2 : s_K T L (s_P T L N) = 0 ∨ (s_gd T L (s_P T L N)).1 = false) (v : Int32) (items : Nat → Int32) : ∃ a s t v' its, f_X9_reads tx (nI L) v items = some ((if s_K T L (s_P T L N) = 0 then 1 else 0), a, s, t, v', nI N, its) ∧ (s_K T L (s_P T L N) ≠ 0 → s = nI (s_st T L (s_gd T L (s_P T L N)).2)) ∧ ∀ m, m < N → s_kept T L its m := by
  have hL := hX.1
  have loop : ∀ (r m f : Nat) (v : Int32) (items : Nat → Int32), m + r = N → r < f → (∀ m', m' < m → s_kept T L items m') → ∃ a s t v' its, f_X9_reads_L14w tx (nI L) f (nI (s_E T L (s_P T L m))) (nI (s_st T L (s_P T L m))) (nI (s_tk T L (s_st T L (s_P T L m)))) v (nI m) items = some ((if s_K T L (s_P T L N) = 0 then 1 else 0), a, s, t, v', nI N, its) ∧ (s_K T L (s_P T L N) ≠ 0 → s = nI (s_st T L (s_gd T L (s_P T L N)).2)) ∧ ∀ m, m < N → s_kept T L its m := by
    intro r
    induction r with
    | zero =>
      intro m f v items g1 g2 g3
      obtain ⟨f, rfl⟩ : ∃ j, f = j + 1 := ⟨f - 1, by omega⟩
      obtain rfl : m = N := by omega
      show ∃ a s t v' its, f_X9_reads_L14 tx (nI L) (f_X9_reads_L14w tx (nI L) f) _ _ _ v (nI m) items = _ ∧ _
      by_cases c : s_K T L (s_P T L m) = 0
      · refine ⟨nI (s_E T L (s_P T L m)), nI (s_st T L (s_P T L m)), nI (s_tk T L (s_st T L (s_P T L m))), v, items, ?_, fun q => absurd c q, g3⟩
        unfold f_X9_reads_L14
        rw [if_pos (show nI (s_tk T L (s_st T L (s_P T L m))) = 0 by rw [(s_tk_f (s_st T L (s_P T L m))).1.mpr c]; rfl), if_pos c]
      · have hf : (s_gd T L (s_P T L m)).1 = false := by
          rcases h2 with q | q
          · exact absurd q c
          · exact q
        obtain ⟨its, k1, k2, k3⟩ := t_item hX (s_P_b (T := T) (L := L) m) hN v items (f_X9_reads_L14w tx (nI L) f) c
        obtain ⟨a, t, v', k4⟩ := k3 hf
        refine ⟨a, _, t, v', its, ?_, fun _ => rfl, fun m' hm => ?_⟩
        · rw [if_neg c]; exact k4
        · obtain ⟨j1, j2⟩ := g3 m' hm
          have := s_N_le (s_IT T L (s_P T L m'))
          exact ⟨by rw [k1 _ (by omega)]; exact j1, fun i hi => by rw [k1 _ (by omega)]; exact j2 i hi⟩
    | succ r ih =>
      intro m f v items g1 g2 g3
      obtain ⟨f, rfl⟩ : ∃ j, f = j + 1 := ⟨f - 1, by omega⟩
      obtain ⟨c, hf⟩ := h1 m (by omega)
      obtain ⟨its, k1, k2, k3⟩ := t_item hX (s_P_b (T := T) (L := L) m) (show m ≤ 100 by omega) v items (f_X9_reads_L14w tx (nI L) f) c
      obtain ⟨v', k4, k5, k6⟩ := k2 hf
      show ∃ a s t v' its, f_X9_reads_L14 tx (nI L) (f_X9_reads_L14w tx (nI L) f) _ _ _ v (nI m) items = _ ∧ _
      rw [k4]
      exact ih (m + 1) f v' its (by omega) (by omega) (fun m' hm => by
        by_cases z : m' = m
        · rw [z]; exact ⟨k5, k6⟩
        · obtain ⟨j1, j2⟩ := g3 m' (by omega)
          have := s_N_le (s_IT T L (s_P T L m'))
          exact ⟨by rw [k1 _ (by omega)]; exact j1, fun i hi => by rw [k1 _ (by omega)]; exact j2 i hi⟩)
  obtain ⟨v1, a1, a2⟩ := t_scan hX (p := 0) (Nat.zero_le _) v
  unfold f_X9_reads
  rw [show f_X9_scans tx (nI L) 0 v = _ from a1, Option.bind_some]
  exact loop N 0 cx_N0 v1 items (by omega) (by unfold cx_N0; omega) (fun m' hm => by omega)
end TZ
