/-! LIKE -/
section LK
variable {c0 c1 c2 c3 c4 : Nat → Int32} {z0 z1 z2 z3 z4 sg : Int32} {bk : Nat → Int32} {n0 n1 n2 n3 n4 : Nat}
/-- who a head may be: a person, or 5, a stranger -/
def p2_who (n0 : Nat) (w : Int32) : Prop := w = 5 ∨ ∃ r : Nat, r < n0 ∧ w = nI r
/-- what a mark brings -/
def p2_mf (bk : Nat → Int32) (h : Nat) (w : Int32) (m : Nat) : Int32 := if (if w = 5 then -1 else p2_mk bk (nI m) 5 w) = -1 then 2 else if (if w = 5 then -1 else p2_mk bk (nI m) 5 w) = (bk (50 + 5 * h + 1) >>> (nI m &&& 31)) &&& 1 then 3 else 1
def p2_ms (bk : Nat → Int32) (h : Nat) (w : Int32) (m : Nat) (x : Int32) : Int32 := if (bk (50 + 5 * h + 2) >>> (nI m &&& 31)) &&& 1 = 1 then x * p2_mf bk h w m else x
def p2_mp (bk : Nat → Int32) (h : Nat) (w : Int32) : Nat → Nat → Int32 → Int32
  | 0, _, x => x
  | k + 1, m, x => p2_mp bk h w k (m + 1) (p2_ms bk h w m x)
theorem p2_ms_mul (bk : Nat → Int32) (h : Nat) (w : Int32) (m : Nat) (x y : Int32) : p2_ms bk h w m (x * y) = x * p2_ms bk h w m y := by
  unfold p2_ms
  split
  · rw [Int32.mul_assoc]
  · rfl
theorem p2_mp_mul (bk : Nat → Int32) (h : Nat) (w : Int32) : ∀ (k m : Nat) (x y : Int32), p2_mp bk h w k m (x * y) = x * p2_mp bk h w k m y := by
  intro k
  induction k with
  | zero => intro m x y; rfl
  | succ k ih => intro m x y; rw [p2_mp, p2_mp, p2_ms_mul, ih]
theorem p2_likeC (hr0 : p2_rr 6 5 8 0 n0 c0 z0 bk) (hr2 : p2_rr 5 6 50 2 n2 c2 z2 bk) (hV : ∀ p, p < n0 → p2_V0 bk p) (h : Nat) (hh : h < n2) (w : Int32) (hw : p2_who n0 w) : ∀ (k m n : Nat) (x : Int32), m + k = 4 → k < n → f_X1_marksLike_L30w c0 z0 c2 z2 (nI h) w (bk (50 + 5 * h + 2)) n x (nI m) = some (p2_mp bk h w k m x) := by
  have hn := hr0.1
  intro k
  induction k with
  | zero =>
    intro m n x h1 h2
    obtain ⟨n, rfl⟩ : ∃ j, n = j + 1 := ⟨n - 1, by omega⟩
    show f_X1_marksLike_L30 c0 z0 c2 z2 (nI h) w (bk (50 + 5 * h + 2)) (f_X1_marksLike_L30w c0 z0 c2 z2 (nI h) w (bk (50 + 5 * h + 2)) n) x (nI m) = _
    unfold f_X1_marksLike_L30
    rw [if_pos (show (4 : Int32) ≤ nI m from nI_le (a := 4) (by omega) (by omega))]
    rfl
  | succ k ih =>
    intro m n x h1 h2
    obtain ⟨n, rfl⟩ : ∃ j, n = j + 1 := ⟨n - 1, by omega⟩
    show f_X1_marksLike_L30 c0 z0 c2 z2 (nI h) w (bk (50 + 5 * h + 2)) (f_X1_marksLike_L30w c0 z0 c2 z2 (nI h) w (bk (50 + 5 * h + 2)) n) x (nI m) = _
    have hJ : ∀ s : Int32, f_X1_marksLike_J62 c2 z2 (nI h) x (nI m) (f_X1_marksLike_L30w c0 z0 c2 z2 (nI h) w (bk (50 + 5 * h + 2)) n) s = some (p2_mp bk h w k (m + 1) (x * (if s = -1 then 2 else if s = (bk (50 + 5 * h + 1) >>> (nI m &&& 31)) &&& 1 then 3 else 1))) := by
      intro s
      unfold f_X1_marksLike_J62 f_X1_marksLike_J100 f_X1_marksLike_J103
      rw [show f_X4_at 5 30 c2 z2 (nI h) 1 = _ from p2_atH hr2 h 1 hh (by decide), Option.bind_some, nI_1]
      split
      · exact ih (m + 1) n _ (by omega) (by omega)
      · split
        · exact ih (m + 1) n _ (by omega) (by omega)
        · exact ih (m + 1) n _ (by omega) (by omega)
    unfold f_X1_marksLike_L30
    rw [if_neg (show ¬ (4 : Int32) ≤ nI m from nI_ge (b := 4) (by omega) (by decide)), p2_mp]
    unfold p2_ms
    by_cases hb : (bk (50 + 5 * h + 2) >>> (nI m &&& 31)) &&& 1 = 1
    · rw [if_pos hb, if_pos hb]
      unfold p2_mf
      rcases hw with rfl | ⟨r, hr, rfl⟩
      · rw [if_pos rfl, if_pos rfl, hJ]
      · have h5 : ¬ nI r = 5 := p2_nne (b := 5) (by omega) (by omega) (by decide)
        rw [if_neg h5, if_neg h5, (p2_mark hr0 hV (nI m) r hr).1, Option.bind_some, hJ]
    · rw [if_neg hb, if_neg hb]
      unfold f_X1_marksLike_J103
      rw [nI_1]
      exact ih (m + 1) n _ (by omega) (by omega)
theorem p2_likeM (hr0 : p2_rr 6 5 8 0 n0 c0 z0 bk) (hV : ∀ p, p < n0 → p2_V0 bk p) (h : Nat) (hh : h < 6) (w : Int32) (hw : p2_who n0 w) : ∀ (k m n : Nat) (x : Int32), m + k = 4 → k < n → f_X9_likeOf_L106w bk (nI h) w n x (nI m) = some (p2_mp bk h w k m x) := by
  have hn := hr0.1
  intro k
  induction k with
  | zero =>
    intro m n x h1 h2
    obtain ⟨n, rfl⟩ : ∃ j, n = j + 1 := ⟨n - 1, by omega⟩
    show f_X9_likeOf_L106 bk (nI h) w (f_X9_likeOf_L106w bk (nI h) w n) x (nI m) = _
    unfold f_X9_likeOf_L106
    rw [if_pos (show (4 : Int32) ≤ nI m from nI_le (a := 4) (by omega) (by omega))]
    rfl
  | succ k ih =>
    intro m n x h1 h2
    obtain ⟨n, rfl⟩ : ∃ j, n = j + 1 := ⟨n - 1, by omega⟩
    show f_X9_likeOf_L106 bk (nI h) w (f_X9_likeOf_L106w bk (nI h) w n) x (nI m) = _
    have hJ : ∀ s : Int32, f_X9_likeOf_J143 bk (nI h) x (nI m) (f_X9_likeOf_L106w bk (nI h) w n) s = some (p2_mp bk h w k (m + 1) (x * (if s = -1 then 2 else if s = (bk (50 + 5 * h + 1) >>> (nI m &&& 31)) &&& 1 then 3 else 1))) := by
      intro s
      unfold f_X9_likeOf_J143 f_X9_likeOf_J178 f_X9_likeOf_J181
      rw [show f_X9_ofHead bk (nI h) 1 = _ from p2_ofHead h 1 hh (by decide), Option.bind_some, nI_1]
      split
      · exact ih (m + 1) n _ (by omega) (by omega)
      · split
        · exact ih (m + 1) n _ (by omega) (by omega)
        · exact ih (m + 1) n _ (by omega) (by omega)
    unfold f_X9_likeOf_L106
    rw [if_neg (show ¬ (4 : Int32) ≤ nI m from nI_ge (b := 4) (by omega) (by decide)), p2_mp, show f_X9_ofHead bk (nI h) 2 = _ from p2_ofHead h 2 hh (by decide), Option.bind_some]
    unfold p2_ms
    by_cases hb : (bk (50 + 5 * h + 2) >>> (nI m &&& 31)) &&& 1 = 1
    · rw [if_pos hb, if_pos hb]
      unfold p2_mf
      rcases hw with rfl | ⟨r, hr, rfl⟩
      · rw [if_pos rfl, if_pos rfl, hJ]
      · have h5 : ¬ nI r = 5 := p2_nne (b := 5) (by omega) (by omega) (by decide)
        rw [if_neg h5, if_neg h5, (p2_mark hr0 hV (nI m) r hr).2, Option.bind_some, hJ]
    · rw [if_neg hb, if_neg hb]
      unfold f_X9_likeOf_J181
      rw [nI_1]
      exact ih (m + 1) n _ (by omega) (by omega)
end LK
