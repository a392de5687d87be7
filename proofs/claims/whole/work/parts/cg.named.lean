/-! LIKELIEST: the likeliest so far, of the first i + 1 -/
def k_ll (n0 : Nat) (S : Nat → Nat) : Nat → Nat
  | 0 => p6_who n0 0
  | i + 1 => if S (k_ll n0 S i) < S (p6_who n0 (i + 1)) then p6_who n0 (i + 1) else k_ll n0 S i
def k_nn (S : Nat → Nat) : Nat → Nat
  | 0 => 0
  | i + 1 => if S (k_nn S i) < S (i + 1) then i + 1 else k_nn S i
theorem k_ll_w (n0 : Nat) (S : Nat → Nat) : ∀ i, k_w n0 (k_ll n0 S i) := by
  intro i
  induction i with
  | zero => exact p6_who_w n0 0
  | succ i ih =>
    rw [k_ll]
    split
    · exact p6_who_w n0 (i + 1)
    · exact ih
theorem k_nn_le (S : Nat → Nat) : ∀ i, k_nn S i ≤ i := by
  intro i
  induction i with
  | zero => exact Nat.le_refl _
  | succ i ih =>
    rw [k_nn]
    split
    · exact Nat.le_refl _
    · omega
theorem i_cmpLe {u v : Nat} : p3_cmp u v ≤ 0 ↔ ¬ v < u := by
  unfold p3_cmp
  by_cases h : u < v
  · rw [if_pos h]; exact ⟨fun _ => by omega, fun _ => by decide⟩
  · rw [if_neg h]
    by_cases e : u = v
    · rw [if_pos e]; exact ⟨fun _ => by omega, fun _ => by decide⟩
    · rw [if_neg e]; exact ⟨fun q => absurd q (by decide), fun q => absurd q (by omega)⟩
theorem i_cmpGe {u v : Nat} : 0 ≤ p3_cmp u v ↔ ¬ u < v := by
  unfold p3_cmp
  by_cases h : u < v
  · rw [if_pos h]; exact ⟨fun q => absurd q (by decide), fun q => absurd h q⟩
  · rw [if_neg h]
    by_cases e : u = v
    · rw [if_pos e]; exact ⟨fun _ => by omega, fun _ => by decide⟩
    · rw [if_neg e]; exact ⟨fun _ => by omega, fun _ => by decide⟩
theorem i_likeliest {sh : Nat → Int64} {S : Nat → Nat} {n0 k : Nat} (hn0 : n0 ≤ 5) (hk : k < 6) (hS : ∀ x, x < 6 → p3_N sh (k * 6 + x) (S x)) : f_X5_likeliest sh (nI n0) (nI k) = some (nI (k_ll n0 S n0)) := by
  have loop : ∀ (r i m : Nat), i + r = n0 → r < m → f_X5_likeliest_L11w sh (nI n0) (nI k) m (nI (k_ll n0 S i)) (nI (i + 1)) = some (nI (k_ll n0 S n0)) := by
    intro r
    induction r with
    | zero =>
      intro i m h1 h2
      obtain ⟨m, rfl⟩ : ∃ j, m = j + 1 := ⟨m - 1, by omega⟩
      show f_X5_likeliest_L11 sh (nI n0) (nI k) (f_X5_likeliest_L11w sh (nI n0) (nI k) m) _ _ = _
      unfold f_X5_likeliest_L11
      rw [if_pos (nI_lt (by omega) (by omega)), show i = n0 by omega]
    | succ r ih =>
      intro i m h1 h2
      obtain ⟨m, rfl⟩ : ∃ j, m = j + 1 := ⟨m - 1, by omega⟩
      have i2 := ih (i + 1) m (by omega) (by omega)
      have w1 := k_w_lt hn0 (p6_who_w n0 (i + 1))
      have w2 := k_w_lt hn0 (k_ll_w n0 S i)
      rw [← i2]
      show f_X5_likeliest_L11 sh (nI n0) (nI k) (f_X5_likeliest_L11w sh (nI n0) (nI k) m) _ _ = _
      unfold f_X5_likeliest_L11 f_X5_likeliest_J59
      rw [if_neg (nI_nlt (by omega) (by omega)), k_whoAt hn0 (by omega), Option.bind_some, i_rgc, i_rgc, p3_compare_x (by omega) (by decide) (by omega) (hS _ w1) (hS _ w2), Option.bind_some, nI_1, k_ll]
      by_cases c : S (k_ll n0 S i) < S (p6_who n0 (i + 1))
      · rw [if_neg (fun q => i_cmpLe.mp q c), if_pos c]
      · rw [if_pos (i_cmpLe.mpr c), if_neg c]
  unfold f_X5_likeliest
  rw [show (0 : Int32) = nI 0 from rfl, k_whoAt hn0 (by omega), Option.bind_some]
  exact loop n0 0 cx_N0 (by omega) (by unfold cx_N0; omega)
theorem k_ll_nn (n0 : Nat) (S : Nat → Nat) : ∀ i, i < n0 → k_ll n0 S i = k_nn S i := by
  intro i
  induction i with
  | zero => intro h; rw [k_ll, k_nn, p6_who, if_pos h]
  | succ i ih => intro h; rw [k_ll, k_nn, ih (by omega), p6_who, if_pos h]
theorem k_nn_z (n0 : Nat) (S : Nat → Nat) (h1 : 1 ≤ n0) (hz : ∀ x, n0 ≤ x → x < 5 → S x = 0) : ∀ r, n0 - 1 + r < 5 → k_nn S (n0 - 1 + r) = k_nn S (n0 - 1) := by
  intro r
  induction r with
  | zero => intro _; rfl
  | succ r ih =>
    intro h
    rw [show n0 - 1 + (r + 1) = (n0 - 1 + r) + 1 by omega, k_nn, ih (by omega), hz (n0 - 1 + r + 1) (by omega) (by omega), if_neg (by omega)]
/-- both ways of finding it -/
theorem k_both (n0 : Nat) (S : Nat → Nat) (hn0 : n0 ≤ 5) (hz : ∀ x, n0 ≤ x → x < 5 → S x = 0) (h5 : n0 = 0 → S 5 ≠ 0) : (if S (k_nn S 5) = 0 then k_nn S 5 else if n0 ≤ k_nn S 5 then 5 else k_nn S 5) = k_ll n0 S n0 := by
  by_cases e : n0 = 0
  · subst e
    have z0 := hz 0 (by omega) (by omega)
    have z1 := hz 1 (by omega) (by omega)
    have z2 := hz 2 (by omega) (by omega)
    have z3 := hz 3 (by omega) (by omega)
    have z4 := hz 4 (by omega) (by omega)
    have e4 : k_nn S 4 = 0 := by simp [k_nn, z0, z1, z2, z3, z4]
    have e5 : k_nn S 5 = 5 := by rw [k_nn, e4, z0, if_pos (Nat.pos_of_ne_zero (h5 rfl))]
    rw [e5, if_neg (h5 rfl), if_pos (by omega)]
    rfl
  · have e4 : k_nn S 4 = k_nn S (n0 - 1) := by
      have := k_nn_z n0 S (by omega) hz (4 - (n0 - 1)) (by omega)
      rw [show n0 - 1 + (4 - (n0 - 1)) = 4 by omega] at this
      exact this
    have l1 := k_nn_le S (n0 - 1)
    have el : k_ll n0 S n0 = k_nn S 5 := by
      obtain ⟨j, rfl⟩ : ∃ j, n0 = j + 1 := ⟨n0 - 1, by omega⟩
      have ew : p6_who (j + 1) (j + 1) = 5 := if_neg (by omega)
      rw [k_ll, k_ll_nn (j + 1) S j (by omega), ew, show k_nn S 5 = if S (k_nn S 4) < S 5 then 5 else k_nn S 4 from rfl, e4]
      rfl
    rw [el]
    have hc : k_nn S 5 = 5 ∨ k_nn S 5 < n0 := by
      rw [show k_nn S 5 = if S (k_nn S 4) < S 5 then 5 else k_nn S 4 from rfl, e4]
      split
      · exact Or.inl rfl
      · exact Or.inr (by omega)
    split
    · rfl
    · split
      · omega
      · rfl
theorem m_namedNow {l w : Nat → Int32} {V S : Nat → Nat} {bk : Nat → Int32} {n0 k : Nat} (hn0 : n0 ≤ 5) (hb : bk 0 = nI n0) (hk : k < 6) (hS : p4_S l w V) (hV : ∀ x, x < 6 → V (12 + 6 * k + x) = S x) (hz : ∀ x, n0 ≤ x → x < 5 → S x = 0) (h5 : n0 = 0 → S 5 ≠ 0) : f_X9_namedNow l w bk (nI k) = some (nI (k_ll n0 S n0)) := by
  have hR : ∀ x, x < 6 → p4_R l w (12 + 6 * k + x) (S x) := fun x hx => by rw [← hV x hx]; exact hS _ (by omega) (by omega)
  have loop : ∀ (r i m : Nat), i + r = 5 → r < m → f_X9_namedNow_L4w l w bk (nI k) m (nI (k_nn S i)) (nI (i + 1)) = some (nI (k_ll n0 S n0)) := by
    intro r
    induction r with
    | zero =>
      intro i m h1 h2
      obtain ⟨m, rfl⟩ : ∃ j, m = j + 1 := ⟨m - 1, by omega⟩
      obtain rfl : i = 5 := by omega
      have l5 := k_nn_le S 5
      show f_X9_namedNow_L4 l w bk (nI k) (f_X9_namedNow_L4w l w bk (nI k) m) _ _ = _
      unfold f_X9_namedNow_L4 f_X9_namedNow_J73
      rw [if_pos (by decide), i_rg, p2_gd (p2_ib (by omega) (by decide)), p2_ix (by omega), p2_gd (by decide), show bk (cx_ix 0) = nI n0 from hb, ← k_both n0 S hn0 hz h5]
      have q := i_w6 hS (r := 12 + 6 * k + k_nn S 5) (by omega) (by omega)
      rw [hV _ (by omega)] at q
      by_cases c : S (k_nn S 5) = 0
      · rw [if_pos (q.mpr c), if_pos c]
      · rw [if_neg (fun z => c (q.mp z)), if_neg c]
        by_cases c2 : n0 ≤ k_nn S 5
        · rw [if_pos (nI_le c2 (by omega)), if_pos c2]; rfl
        · rw [if_neg (nI_ge (by omega) (by omega)), if_neg c2]
    | succ r ih =>
      intro i m h1 h2
      obtain ⟨m, rfl⟩ : ∃ j, m = j + 1 := ⟨m - 1, by omega⟩
      have i2 := ih (i + 1) m (by omega) (by omega)
      have li := k_nn_le S i
      rw [← i2]
      show f_X9_namedNow_L4 l w bk (nI k) (f_X9_namedNow_L4w l w bk (nI k) m) _ _ = _
      unfold f_X9_namedNow_L4 f_X9_namedNow_J39
      rw [if_neg (show ¬ (5 : Int32) < nI (i + 1) from nI_nlt (a := 5) (b := i + 1) (by omega) (by omega)), i_rg, i_rg, p4_against (by omega) (by omega) (hR _ (by omega)) (hR _ (by omega)), Option.bind_some, nI_1, k_nn]
      by_cases c : S (k_nn S i) < S (i + 1)
      · rw [if_neg (fun q => i_cmpLe.mp q c), if_pos c]
      · rw [if_pos (i_cmpLe.mpr c), if_neg c]
  unfold f_X9_namedNow
  exact loop 5 0 cx_N0 (by omega) (by unfold cx_N0; omega)
