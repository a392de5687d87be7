/-! THE TEXT: the reference's scan, the class's words -/
def s_nv (D : Nat → Nat) : Nat → Nat
  | 0 => 0
  | k + 1 => 10 * s_nv D k + D k
theorem s_nv_lt (D : Nat → Nat) : ∀ k, (∀ j, j < k → D j ≤ 9) → s_nv D k < 10 ^ k := by
  intro k
  induction k with
  | zero => intro _; exact Nat.one_pos
  | succ k ih =>
    intro h
    have := ih (fun j hj => h j (by omega))
    have := h k (by omega)
    rw [s_nv, Nat.pow_succ]
    omega
def s_D (T : Nat → Nat) (s j : Nat) : Nat := T (s + j) - 96
def s_F (T : Nat → Nat) (s j : Nat) : Nat := T (s + j) - 48
/-- the item that a word is, 8 if none -/
def s_it (T : Nat → Nat) (L s : Nat) : Nat := s_vb (s_cd (s_D T s) (s_en T L s - s))
/-- the number that figures are -/
def s_va (T : Nat → Nat) (L s : Nat) : Nat := s_nv (s_F T s) (s_en T L s - s)
/-- the token as the reference names it -/
def s_tk (T : Nat → Nat) (L s : Nat) : Nat := if s_kd T L s = 1 then (if s_it T L s = 8 then 1 else 4 + s_it T L s) else if s_kd T L s = 4 then 1 else s_kd T L s
section TY
variable {T : Nat → Nat} {L : Nat} {bs tx : Nat → Int32}
theorem t_isAt (hX : s_TX T L bs tx) {p a b : Nat} (hp : p ≤ L) (ha : a < 2 ^ 31) (hb : b < 2 ^ 31) : f_X9_isAt tx (nI L) (nI p) (nI a) (nI b) = some (p2_b (p < L ∧ a ≤ T p ∧ T p ≤ b)) := by
  have hL := hX.1
  unfold f_X9_isAt
  by_cases c : p < L
  · obtain ⟨x1, x2, x3⟩ := hX.2 p c
    rw [if_neg (nI_ge c (by omega)), p2_gd (p2_ib (by omega) (by decide)), p2_ix (by omega), x2, p2_in, Option.bind_some, p4_bt, p2_l, p2_l, p2_l, nI_toInt ha, nI_toInt hb, nI_toInt (by omega)]
    by_cases q : a ≤ T p ∧ T p ≤ b
    · rw [if_pos (by omega), p2_b, if_pos ⟨c, q⟩]
    · rw [if_neg (by omega), p2_b, if_neg (fun z => q z.2)]
  · rw [if_pos (nI_le (by omega) (by omega)), p2_b, if_neg (fun z => c z.1)]
theorem t_scanL (hX : s_TX T L bs tx) (val : Int32) (s : Nat) : ∀ (r e m : Nat), s ≤ e → e + r = L → r < m → (∀ j, s ≤ j → j < e → s_le T j = true) → f_X9_scans_L62w tx (nI L) val (nI s) m (nI e) (lN (s_cd (s_D T s) (e - s))) = some (nI (s_run (s_le T) r e), nI s, (if s_vb (s_cd (s_D T s) (s_run (s_le T) r e - s)) = 8 then 1 else nI (4 + s_vb (s_cd (s_D T s) (s_run (s_le T) r e - s)))), val) := by
  have hL := hX.1
  have hD : ∀ e, (∀ j, s ≤ j → j < e → s_le T j = true) → ∀ j, j < e - s → s_D T s j ≤ 31 := fun e h j hj => by
    have := of_decide_eq_true (h (s + j) (by omega) (by omega))
    unfold s_D
    omega
  have fin : ∀ e, s ≤ e → e ≤ L → (∀ j, s ≤ j → j < e → s_le T j = true) → Option.bind (f_X9_verbOf (lN (s_cd (s_D T s) (e - s)))) (fun u38 => if u38 = -1 then f_X9_scans_J146 val (nI e) (nI s) 1 else Option.bind (f_X9_verbOf (lN (s_cd (s_D T s) (e - s)))) (fun u41 => f_X9_scans_J146 val (nI e) (nI s) (4 + u41))) = some (nI e, nI s, (if s_vb (s_cd (s_D T s) (e - s)) = 8 then 1 else nI (4 + s_vb (s_cd (s_D T s) (e - s)))), val) := by
    intro e h1 h2 h3
    have hlt := s_cd_lt (s_D T s) (e - s) (hD e h3)
    have hv := s_vb_le (s_cd (s_D T s) (e - s))
    unfold f_X9_scans_J146
    rw [t_verbOf hlt, Option.bind_some, Option.bind_some]
    unfold s_I
    generalize s_vb (s_cd (s_D T s) (e - s)) = v at *
    by_cases c : v = 8
    · rw [if_pos c, if_pos rfl, if_pos c]
    · rw [if_neg c, if_neg (p2_nIne v (by omega)), if_neg c, show (4 : Int32) = nI 4 from rfl, nI_add]
  intro r
  induction r with
  | zero =>
    intro e m h0 h1 h2 h3
    obtain ⟨m, rfl⟩ : ∃ j, m = j + 1 := ⟨m - 1, by omega⟩
    show f_X9_scans_L62 tx (nI L) val (nI s) (f_X9_scans_L62w tx (nI L) val (nI s) m) (nI e) _ = _
    unfold f_X9_scans_L62
    rw [show f_X9_isAt tx (nI L) (nI e) 97 122 = _ from t_isAt hX (a := 97) (b := 122) (by omega) (by decide) (by decide), Option.bind_some, p4_bt, if_neg (by omega), s_run]
    exact fin e h0 (by omega) h3
  | succ r ih =>
    intro e m h0 h1 h2 h3
    obtain ⟨m, rfl⟩ : ∃ j, m = j + 1 := ⟨m - 1, by omega⟩
    obtain ⟨x1, x2, x3⟩ := hX.2 e (by omega)
    show f_X9_scans_L62 tx (nI L) val (nI s) (f_X9_scans_L62w tx (nI L) val (nI s) m) (nI e) _ = _
    unfold f_X9_scans_L62
    rw [show f_X9_isAt tx (nI L) (nI e) 97 122 = _ from t_isAt hX (a := 97) (b := 122) (by omega) (by decide) (by decide), Option.bind_some, p4_bt, s_run]
    by_cases c : 97 ≤ T e ∧ T e ≤ 122
    · have d : s_le T e = true := decide_eq_true c
      have h3' : ∀ j, s ≤ j → j < e + 1 → s_le T j = true := fun j q1 q2 => by
        by_cases z : j = e
        · rw [z]; exact d
        · exact h3 j q1 (by omega)
      have := ih (e + 1) m (by omega) (by omega) (by omega) h3'
      rw [show e + 1 - s = (e - s) + 1 by omega, s_cd] at this
      rw [if_pos ⟨by omega, c⟩, if_pos d, pk_sub h0]
      unfold f_X9_scans_J113
      rw [nI_1, show (7 : Int32) = nI 7 from rfl]
      by_cases q : 7 < e - s
      · rw [if_neg (nI_ge q (by omega))]
        rw [if_pos q] at this
        exact this
      · rw [if_pos (nI_le (by omega) (by omega)), p2_gd (p2_ib (by omega) (by decide)), p2_ix (by omega), x2, nI_l (by omega)]
        rw [if_neg q] at this
        have e1 : (32 : Int64) * lN (s_cd (s_D T s) (e - s)) + lN (T e) - 97 + 1 = lN (32 * s_cd (s_D T s) (e - s) + s_D T s (e - s)) := by
          rw [show (32 : Int64) = lN 32 from rfl, lN_mul, lN_add, show (97 : Int64) = lN 97 from rfl, lN_sub (by omega), lN_1]
          congr 1
          unfold s_D
          rw [show s + (e - s) = e by omega]
          omega
        rw [e1]
        exact this
    · rw [if_neg (fun z => c z.2), if_neg (show ¬ s_le T e = true by unfold s_le; rw [decide_eq_false c]; decide)]
      exact fin e h0 (by omega) h3
theorem t_scanF (hX : s_TX T L bs tx) (s : Nat) : ∀ (r e m : Nat) (v : Int32), s ≤ e → e + r = L → r < m → (∀ j, s ≤ j → j < e → s_fi T j = true) → (e - s ≤ 3 → v = nI (s_nv (s_F T s) (e - s))) → ∃ v', f_X9_scans_L166w tx (nI L) (nI s) m (nI e) v = some (nI (s_run (s_fi T) r e), nI s, (if s_run (s_fi T) r e - s ≤ 3 then 2 else 1), v') ∧ (s_run (s_fi T) r e - s ≤ 3 → v' = nI (s_nv (s_F T s) (s_run (s_fi T) r e - s))) := by
  have hL := hX.1
  have fin : ∀ e v, s ≤ e → e ≤ L → (e - s ≤ 3 → v = nI (s_nv (s_F T s) (e - s))) → ∃ v', (if nI e - nI s ≤ 3 then f_X9_scans_J253 (nI e) (nI s) v 2 else f_X9_scans_J253 (nI e) (nI s) v 1) = some (nI e, nI s, (if e - s ≤ 3 then 2 else 1), v') ∧ (e - s ≤ 3 → v' = nI (s_nv (s_F T s) (e - s))) := by
    intro e v h1 h2 h3
    refine ⟨v, ?_, h3⟩
    unfold f_X9_scans_J253
    rw [pk_sub h1, show (3 : Int32) = nI 3 from rfl]
    by_cases c : e - s ≤ 3
    · rw [if_pos (nI_le c (by omega)), if_pos c]
    · rw [if_neg (nI_ge (by omega) (by omega)), if_neg c]
  intro r
  induction r with
  | zero =>
    intro e m v h0 h1 h2 h3 h4
    obtain ⟨m, rfl⟩ : ∃ j, m = j + 1 := ⟨m - 1, by omega⟩
    show ∃ v', f_X9_scans_L166 tx (nI L) (nI s) (f_X9_scans_L166w tx (nI L) (nI s) m) (nI e) v = _ ∧ _
    unfold f_X9_scans_L166
    rw [show f_X9_isAt tx (nI L) (nI e) 48 57 = _ from t_isAt hX (a := 48) (b := 57) (by omega) (by decide) (by decide), Option.bind_some, p4_bt, if_neg (by omega), s_run]
    exact fin e v h0 (by omega) h4
  | succ r ih =>
    intro e m v h0 h1 h2 h3 h4
    obtain ⟨m, rfl⟩ : ∃ j, m = j + 1 := ⟨m - 1, by omega⟩
    obtain ⟨x1, x2, x3⟩ := hX.2 e (by omega)
    show ∃ v', f_X9_scans_L166 tx (nI L) (nI s) (f_X9_scans_L166w tx (nI L) (nI s) m) (nI e) v = _ ∧ _
    unfold f_X9_scans_L166
    rw [show f_X9_isAt tx (nI L) (nI e) 48 57 = _ from t_isAt hX (a := 48) (b := 57) (by omega) (by decide) (by decide), Option.bind_some, p4_bt, s_run]
    by_cases c : 48 ≤ T e ∧ T e ≤ 57
    · have d : s_fi T e = true := decide_eq_true c
      have h3' : ∀ j, s ≤ j → j < e + 1 → s_fi T j = true := fun j q1 q2 => by
        by_cases z : j = e
        · rw [z]; exact d
        · exact h3 j q1 (by omega)
      have hc : ∀ X, (if 3 ≤ nI e - nI s then f_X9_scans_J218 (nI e) (f_X9_scans_L166w tx (nI L) (nI s) m) v else cx_gd (cx_ib (nI e) 300) (f_X9_scans_J218 (nI e) (f_X9_scans_L166w tx (nI L) (nI s) m) (10 * v + tx (cx_ix (nI e)) - 48))) = X ↔ f_X9_scans_L166w tx (nI L) (nI s) m (nI (e + 1)) (if 3 ≤ e - s then v else 10 * v + nI (T e) - 48) = X := by
        intro X
        unfold f_X9_scans_J218
        rw [pk_sub h0, nI_1, show (3 : Int32) = nI 3 from rfl, p2_gd (p2_ib (by omega) (by decide)), p2_ix (n := e) (by omega), x2]
        by_cases q : 3 ≤ e - s
        · rw [if_pos (nI_le q (by omega)), if_pos q]
        · rw [if_neg (nI_ge (by omega) (by omega)), if_neg q]
      rw [if_pos ⟨by omega, c⟩, if_pos d]
      simp only [hc]
      refine ih (e + 1) m _ (by omega) (by omega) (by omega) h3' (fun q => ?_)
      rw [if_neg (by omega), h4 (by omega), show e + 1 - s = (e - s) + 1 by omega, s_nv, show (10 : Int32) = nI 10 from rfl, pk_mul, nI_add, show (48 : Int32) = nI 48 from rfl, pk_sub (by omega)]
      congr 1
      unfold s_F
      rw [show s + (e - s) = e by omega]
      omega
    · rw [if_neg (fun z => c z.2), if_neg (show ¬ s_fi T e = true by unfold s_fi; rw [decide_eq_false c]; decide)]
      exact fin e v h0 (by omega) h4
/-- scans, of the reference -/
theorem t_scan (hX : s_TX T L bs tx) {p : Nat} (hp : p ≤ L) (val : Int32) : ∃ v', f_X9_scans tx (nI L) (nI p) val = some (nI (s_en T L (s_st T L p)), nI (s_st T L p), nI (s_tk T L (s_st T L p)), v') ∧ (s_kd T L (s_st T L p) = 2 → v' = nI (s_va T L (s_st T L p))) := by
  have hL := hX.1
  have fin : ∀ s, s ≤ L → s_bl T s = false ∨ s = L → ∃ v', (if nI s = nI L then some (nI s, nI s, 0, val) else Option.bind (f_X9_isAt tx (nI L) (nI s) 97 122) (fun u6 => if u6 = 0 then Option.bind (f_X9_isAt tx (nI L) (nI s) 48 57) (fun u9 => if u9 = 0 then Option.bind (f_X9_isAt tx (nI L) (nI s) 59 59) (fun u12 => if u12 = 0 then f_X9_scans_J274 val (nI s) (nI s) 1 else f_X9_scans_J274 val (nI s) (nI s) 3) else f_X9_scans_L166w tx (nI L) (nI s) cx_N0 (nI s) 0) else f_X9_scans_L62w tx (nI L) val (nI s) cx_N0 (nI s) 0)) = some (nI (s_en T L s), nI s, nI (s_tk T L s), v') ∧ (s_kd T L s = 2 → v' = nI (s_va T L s)) := by
    intro s hs hsb
    by_cases c : s < L
    · obtain ⟨x1, x2, x3⟩ := hX.2 s c
      rw [if_neg (fun q => by have := (nI_eq (by omega) (by omega)).mp q; omega), show f_X9_isAt tx (nI L) (nI s) 97 122 = _ from t_isAt hX (a := 97) (b := 122) (by omega) (by decide) (by decide), Option.bind_some, p4_bt, show f_X9_isAt tx (nI L) (nI s) 48 57 = _ from t_isAt hX (a := 48) (b := 57) (by omega) (by decide) (by decide), Option.bind_some, p4_bt, show f_X9_isAt tx (nI L) (nI s) 59 59 = _ from t_isAt hX (a := 59) (b := 59) (by omega) (by decide) (by decide), Option.bind_some, p4_bt]
      by_cases c1 : 97 ≤ T s ∧ T s ≤ 122
      · have d1 : s_le T s = true := decide_eq_true c1
        have ek : s_kd T L s = 1 := by unfold s_kd; rw [if_pos c, if_pos d1]
        have ee : s_en T L s = s_run (s_le T) (L - s) s := by unfold s_en; rw [if_pos c, if_pos d1]
        have := t_scanL hX val s (L - s) s cx_N0 (Nat.le_refl _) (by omega) (by unfold cx_N0; omega) (fun j q1 q2 => by omega)
        rw [Nat.sub_self, ← ee] at this
        rw [if_pos ⟨c, c1⟩]
        refine ⟨val, ?_, fun q => by rw [ek] at q; omega⟩
        refine Eq.trans this ?_
        unfold s_tk
        rw [if_pos ek]
        unfold s_it
        by_cases q : s_vb (s_cd (s_D T s) (s_en T L s - s)) = 8
        · rw [if_pos q, if_pos q]; rfl
        · rw [if_neg q, if_neg q]
      · have d1 : ¬ s_le T s = true := by unfold s_le; rw [decide_eq_false c1]; decide
        rw [if_neg (fun z => c1 z.2)]
        by_cases c2 : 48 ≤ T s ∧ T s ≤ 57
        · have d2 : s_fi T s = true := decide_eq_true c2
          have ek : s_kd T L s = if s_run (s_fi T) (L - s) s - s ≤ 3 then 2 else 4 := by unfold s_kd; rw [if_pos c, if_neg d1, if_pos d2]
          have ee : s_en T L s = s_run (s_fi T) (L - s) s := by unfold s_en; rw [if_pos c, if_neg d1, if_pos d2]
          obtain ⟨v', a1, a2⟩ := t_scanF hX s (L - s) s cx_N0 0 (Nat.le_refl _) (by omega) (by unfold cx_N0; omega) (fun j q1 q2 => by omega) (fun _ => by rw [Nat.sub_self]; rfl)
          rw [← ee] at a1 a2 ek
          rw [if_pos ⟨c, c2⟩, a1]
          refine ⟨v', ?_, fun q => ?_⟩
          · unfold s_tk
            rw [ek]
            by_cases q : s_en T L s - s ≤ 3
            · rw [if_pos q, if_pos q, if_neg (by decide), if_neg (by decide)]; rfl
            · rw [if_neg q, if_neg q, if_neg (by decide), if_pos rfl]; rfl
          · by_cases q2 : s_en T L s - s ≤ 3
            · exact a2 q2
            · rw [ek, if_neg q2] at q; omega
        · have d2 : ¬ s_fi T s = true := by unfold s_fi; rw [decide_eq_false c2]; decide
          have ek : s_kd T L s = if T s = 59 then 3 else 4 := by unfold s_kd; rw [if_pos c, if_neg d1, if_neg d2]
          have ee : s_en T L s = s + 1 := by unfold s_en; rw [if_pos c, if_neg d1, if_neg d2]
          rw [if_neg (fun z => c2 z.2)]
          unfold f_X9_scans_J274 s_tk
          rw [ek, ee, nI_1]
          by_cases c3 : T s = 59
          · rw [if_pos ⟨c, by omega, by omega⟩, if_pos c3, if_neg (by decide), if_neg (by decide)]
            exact ⟨val, rfl, fun q => by omega⟩
          · rw [if_neg (fun z => c3 (by omega)), if_neg c3, if_neg (by decide), if_pos rfl]
            exact ⟨val, rfl, fun q => by omega⟩
    · obtain rfl : s = L := by omega
      have ek : s_kd T s s = 0 := by unfold s_kd; rw [if_neg c]
      have ee : s_en T s s = s := by unfold s_en; rw [if_neg c]
      rw [if_pos rfl]
      refine ⟨val, ?_, fun q => by rw [ek] at q; omega⟩
      unfold s_tk
      rw [ek, ee, if_neg (by decide), if_neg (by decide)]
      rfl
  have loop : ∀ (r p m : Nat), p + r = L → r < m → ∃ v', f_X9_scans_L0w tx (nI L) val m (nI p) = some (nI (s_en T L (s_run (s_bl T) r p)), nI (s_run (s_bl T) r p), nI (s_tk T L (s_run (s_bl T) r p)), v') ∧ (s_kd T L (s_run (s_bl T) r p) = 2 → v' = nI (s_va T L (s_run (s_bl T) r p))) := by
    intro r
    induction r with
    | zero =>
      intro p m h1 h2
      obtain ⟨m, rfl⟩ : ∃ j, m = j + 1 := ⟨m - 1, by omega⟩
      show ∃ v', f_X9_scans_L0 tx (nI L) val (f_X9_scans_L0w tx (nI L) val m) (nI p) = _ ∧ _
      unfold f_X9_scans_L0
      rw [show f_X9_isAt tx (nI L) (nI p) 32 32 = _ from t_isAt hX (a := 32) (b := 32) (by omega) (by decide) (by decide), Option.bind_some, p4_bt, if_neg (by omega), s_run]
      exact fin p (by omega) (Or.inr (by omega))
    | succ r ih =>
      intro p m h1 h2
      obtain ⟨m, rfl⟩ : ∃ j, m = j + 1 := ⟨m - 1, by omega⟩
      show ∃ v', f_X9_scans_L0 tx (nI L) val (f_X9_scans_L0w tx (nI L) val m) (nI p) = _ ∧ _
      unfold f_X9_scans_L0
      rw [show f_X9_isAt tx (nI L) (nI p) 32 32 = _ from t_isAt hX (a := 32) (b := 32) (by omega) (by decide) (by decide), Option.bind_some, p4_bt, nI_1, s_run]
      by_cases c : T p = 32
      · rw [if_pos ⟨by omega, by omega, by omega⟩, if_pos (show s_bl T p = true from decide_eq_true c)]
        exact ih (p + 1) m (by omega) (by omega)
      · rw [if_neg (fun z => c (by omega)), if_neg (show ¬ s_bl T p = true by unfold s_bl; rw [decide_eq_false c]; decide)]
        exact fin p (by omega) (Or.inl (decide_eq_false c))
  unfold f_X9_scans s_st
  exact loop (L - p) p cx_N0 (by omega) (by unfold cx_N0; omega)
/-! the class: words and numbers -/
theorem t_kd1 {s : Nat} (hk : s_kd T L s = 1) : s < L ∧ (∀ j, s ≤ j → j < s_en T L s → 97 ≤ T j ∧ T j ≤ 122) := by
  unfold s_kd at hk
  by_cases c : s < L
  · rw [if_pos c] at hk
    by_cases d1 : s_le T s = true
    · have ee : s_en T L s = s_run (s_le T) (L - s) s := by unfold s_en; rw [if_pos c, if_pos d1]
      refine ⟨c, fun j q1 q2 => ?_⟩
      rw [ee] at q2
      exact of_decide_eq_true (s_run_in (s_le T) (L - s) s j q1 q2)
    · rw [if_neg d1] at hk
      split at hk
      · split at hk <;> omega
      · split at hk <;> omega
  · rw [if_neg c] at hk; omega
theorem t_kd2 {s : Nat} (hk : s_kd T L s = 2) : s < L ∧ s_en T L s - s ≤ 3 ∧ (∀ j, s ≤ j → j < s_en T L s → 48 ≤ T j ∧ T j ≤ 57) := by
  unfold s_kd at hk
  by_cases c : s < L
  · rw [if_pos c] at hk
    by_cases d1 : s_le T s = true
    · rw [if_pos d1] at hk; omega
    · rw [if_neg d1] at hk
      by_cases d2 : s_fi T s = true
      · have ee : s_en T L s = s_run (s_fi T) (L - s) s := by unfold s_en; rw [if_pos c, if_neg d1, if_pos d2]
        rw [if_pos d2, ← ee] at hk
        refine ⟨c, ?_, fun j q1 q2 => ?_⟩
        · by_cases q : s_en T L s - s ≤ 3
          · exact q
          · rw [if_neg q] at hk; omega
        · rw [ee] at q2
          exact of_decide_eq_true (s_run_in (s_fi T) (L - s) s j q1 q2)
      · rw [if_neg d2] at hk
        split at hk <;> omega
  · rw [if_neg c] at hk; omega
theorem t_kd0 {s : Nat} (hs : s ≤ L) : s_kd T L s = 0 ↔ s = L := by
  unfold s_kd
  constructor
  · intro h
    by_cases c : s < L
    · rw [if_pos c] at h
      repeat' split at h
      all_goals omega
    · omega
  · intro h
    rw [if_neg (by omega)]
theorem t_kdl {s : Nat} : s_kd T L s ≤ 4 := by
  unfold s_kd
  repeat' split
  all_goals decide
theorem t_isWord (hX : s_TX T L bs tx) {s e i : Nat} (hse : s ≤ e) (he : e ≤ L) (hi : i < 8) (hl : ∀ j, s ≤ j → j < e → 97 ≤ T j ∧ T j ≤ 122) : f_X6_isWord bs (nI s) (nI e) i = some (p2_b (s_cd (s_D T s) (e - s) = s_cd (s_W i) (cx_lens.getD i 0))) := by
  have hL := hX.1
  obtain ⟨f1, f2, f3, f4⟩ := s_W_fact i hi
  have hD : ∀ j, j < e - s → 1 ≤ s_D T s j ∧ s_D T s j ≤ 31 := fun j hj => by
    have := hl (s + j) (by omega) (by omega)
    unfold s_D; omega
  unfold f_X6_isWord
  rw [p2_gd (decide_eq_true hi), f3, pk_sub hse]
  by_cases c : cx_lens.getD i 0 = e - s
  · rw [if_pos (by rw [c])]
    rw [c] at f4 f1 ⊢
    have hiff := s_cd_eq (s_D T s) (s_W i) (e - s) (e - s) f1 (fun j hj => ⟨(f4 j hj).1, by have := (f4 j hj).2.1; omega⟩) f1 hD
    have loop : ∀ (r j m : Nat), j + r = e - s → r < m → (∀ k, k < j → s_D T s k = s_W i k) → f_X6_isWord_L20w bs (nI s) i m (nI j) = some (p2_b (s_cd (s_D T s) (e - s) = s_cd (s_W i) (e - s))) := by
      intro r
      induction r with
      | zero =>
        intro j m h1 h2 h3
        obtain ⟨m, rfl⟩ : ∃ j, m = j + 1 := ⟨m - 1, by omega⟩
        show f_X6_isWord_L20 bs (nI s) i (f_X6_isWord_L20w bs (nI s) i m) (nI j) = _
        unfold f_X6_isWord_L20
        rw [p2_gd (decide_eq_true hi), f3, c, if_pos (nI_le (by omega) (by omega)), p2_b, if_pos (hiff.mpr ⟨rfl, fun k hk => h3 k (by omega)⟩)]
      | succ r ih =>
        intro j m h1 h2 h3
        obtain ⟨m, rfl⟩ : ∃ j, m = j + 1 := ⟨m - 1, by omega⟩
        obtain ⟨x1, x2, x3⟩ := hX.2 (s + j) (by omega)
        obtain ⟨g1, g2, g3⟩ := f4 j (by omega)
        have hlj := hl (s + j) (by omega) (by omega)
        show f_X6_isWord_L20 bs (nI s) i (f_X6_isWord_L20w bs (nI s) i m) (nI j) = _
        unfold f_X6_isWord_L20
        rw [p2_gd (decide_eq_true hi), f3, c, if_neg (nI_ge (by omega) (by omega)), nI_add, p2_gd (p2_ib (by omega) (by decide)), p2_gd (decide_eq_true hi), p2_gd (p2_ib (by omega) (by omega)), p2_ix (by omega), x1, g3, nI_1]
        by_cases q : T (s + j) = s_W i j + 96
        · rw [if_pos (by rw [q])]
          exact ih (j + 1) m (by omega) (by omega) (fun k hk => by
            by_cases z : k = j
            · rw [z]; unfold s_D; omega
            · exact h3 k (by omega))
        · rw [if_neg (fun z => q ((nI_eq (by omega) (by omega)).mp z)), p2_b, if_neg (fun z => q (by
            have := (hiff.mp z).2 j (by omega)
            unfold s_D at this
            omega))]
    exact loop (e - s) 0 cx_N0 (by omega) (by unfold cx_N0; omega) (fun k hk => by omega)
  · rw [if_neg (fun z => c ((nI_eq (by omega) (by omega)).mp z)), p2_b, if_neg]
    intro z
    by_cases q : e - s ≤ 8
    · have := (s_cd_eq (s_D T s) (s_W i) (cx_lens.getD i 0) (e - s) f1 (fun j hj => ⟨(f4 j hj).1, by have := (f4 j hj).2.1; omega⟩) q hD).mp z
      exact c this.1.symm
    · rw [s_cd_big _ (by omega)] at z
      obtain ⟨k, hk⟩ : ∃ k, cx_lens.getD i 0 = k + 1 := ⟨cx_lens.getD i 0 - 1, by omega⟩
      have := f4 k (by omega)
      rw [hk, s_cd, if_neg (by omega)] at z
      omega
theorem t_itemOf (hX : s_TX T L bs tx) {s : Nat} (hs : s ≤ L) (hk : s_kd T L s = 1) : f_X6_itemOf bs (nI s) (nI (s_en T L s)) = some (if s_it T L s = 8 then -1 else nI (s_it T L s)) := by
  have hb := s_en_b (T := T) hs
  obtain ⟨h1, h2⟩ := t_kd1 hk
  have wo : ∀ i, i < 8 → f_X6_wordOf (nI i) = some i := by decide +kernel
  have loop : ∀ (r i m : Nat), i + r = 8 → r < m → (∀ k, k < i → s_cd (s_D T s) (s_en T L s - s) ≠ s_cd (s_W k) (cx_lens.getD k 0)) → f_X6_itemOf_L2w bs (nI s) (nI (s_en T L s)) m (nI i) = some (if s_it T L s = 8 then -1 else nI (s_it T L s)) := by
    intro r
    induction r with
    | zero =>
      intro i m g1 g2 g3
      obtain ⟨m, rfl⟩ : ∃ j, m = j + 1 := ⟨m - 1, by omega⟩
      show f_X6_itemOf_L2 bs (nI s) (nI (s_en T L s)) (f_X6_itemOf_L2w bs (nI s) (nI (s_en T L s)) m) (nI i) = _
      unfold f_X6_itemOf_L2
      rw [if_pos (show (8 : Int32) ≤ nI i from nI_le (a := 8) (by omega) (by omega)), if_pos (show s_it T L s = 8 from s_vb_8 (fun k hk => g3 k (by omega)))]
    | succ r ih =>
      intro i m g1 g2 g3
      obtain ⟨m, rfl⟩ : ∃ j, m = j + 1 := ⟨m - 1, by omega⟩
      show f_X6_itemOf_L2 bs (nI s) (nI (s_en T L s)) (f_X6_itemOf_L2w bs (nI s) (nI (s_en T L s)) m) (nI i) = _
      unfold f_X6_itemOf_L2
      rw [if_neg (show ¬ (8 : Int32) ≤ nI i from nI_ge (b := 8) (by omega) (by omega)), wo i (by omega), Option.bind_some, t_isWord hX hb.1 hb.2.1 (by omega) h2, Option.bind_some, p4_bt, nI_1]
      by_cases c : s_cd (s_D T s) (s_en T L s - s) = s_cd (s_W i) (cx_lens.getD i 0)
      · have e : s_it T L s = i := by
          unfold s_it; rw [c]; exact s_vb_W i (by omega)
        rw [if_pos c, e, if_neg (by omega)]
      · rw [if_neg c]
        exact ih (i + 1) m (by omega) (by omega) (fun k hk => by
          by_cases z : k = i
          · rw [z]; exact c
          · exact g3 k (by omega))
  unfold f_X6_itemOf
  exact loop 8 0 cx_N0 (by omega) (by unfold cx_N0; omega) (fun k hk => by omega)
theorem t_numberOf (hX : s_TX T L bs tx) {s : Nat} (hs : s ≤ L) (hk : s_kd T L s = 2) : f_X6_numberOf bs (nI s) (nI (s_en T L s)) = some (nI (s_va T L s)) := by
  have hL := hX.1
  have hb := s_en_b (T := T) hs
  obtain ⟨h1, h2, h3⟩ := t_kd2 hk
  have loop : ∀ (r j m : Nat), j + r = s_en T L s - s → r < m → f_X6_numberOf_L7w bs (nI (s_en T L s)) m (nI (s_nv (s_F T s) j)) (nI (s + j)) = some (nI (s_va T L s)) := by
    intro r
    induction r with
    | zero =>
      intro j m g1 g2
      obtain ⟨m, rfl⟩ : ∃ j, m = j + 1 := ⟨m - 1, by omega⟩
      show f_X6_numberOf_L7 bs (nI (s_en T L s)) (f_X6_numberOf_L7w bs (nI (s_en T L s)) m) _ _ = _
      unfold f_X6_numberOf_L7
      rw [if_pos (nI_le (by omega) (by omega)), show j = s_en T L s - s by omega]
      rfl
    | succ r ih =>
      intro j m g1 g2
      obtain ⟨m, rfl⟩ : ∃ j, m = j + 1 := ⟨m - 1, by omega⟩
      obtain ⟨x1, x2, x3⟩ := hX.2 (s + j) (by omega)
      have hf := h3 (s + j) (by omega) (by omega)
      have := ih (j + 1) m (by omega) (by omega)
      rw [s_nv, ← Nat.add_assoc] at this
      rw [← this]
      show f_X6_numberOf_L7 bs (nI (s_en T L s)) (f_X6_numberOf_L7w bs (nI (s_en T L s)) m) _ _ = _
      unfold f_X6_numberOf_L7
      rw [if_neg (nI_ge (by omega) (by omega)), p2_gd (p2_ib (by omega) (by decide)), p2_ix (by omega), x1, nI_1]
      simp only [cx_let]
      rw [show (48 : Int32) = nI 48 from rfl, pk_sub hf.1, show (10 : Int32) = nI 10 from rfl, pk_mul, nI_add]
      rfl
  unfold f_X6_numberOf
  exact loop (s_en T L s - s) 0 cx_N0 (by omega) (by unfold cx_N0; omega)
end TY
