/-! READ: the whole -/
theorem t_back (h1 h2 h3 h4 h5 h6 : Int32) (B rf its : Nat → Int32) (x1 : Int32) : ∀ (r k f : Nat) (a : Nat → Int32), k + r = 140 → r < f → (∀ j, j < k → a j = B j) → ∃ a', f_X9_read_L118w h1 h2 h3 h4 h5 h6 B rf its x1 f a (nI k) = some (-1000 - x1, h1, h2, h3, h4, h5, h6, a', B, rf, its) ∧ (∀ j, j < 140 → a' j = B j) ∧ ∀ j, 140 ≤ j → a' j = a j := by
  intro r
  induction r with
  | zero =>
    intro k f a g1 g2 g3
    obtain ⟨f, rfl⟩ : ∃ j, f = j + 1 := ⟨f - 1, by omega⟩
    refine ⟨a, ?_, fun j hj => g3 j (by omega), fun _ _ => rfl⟩
    show f_X9_read_L118 h1 h2 h3 h4 h5 h6 B rf its x1 (f_X9_read_L118w h1 h2 h3 h4 h5 h6 B rf its x1 f) a (nI k) = _
    unfold f_X9_read_L118
    rw [if_pos (show (140 : Int32) ≤ nI k from nI_le (a := 140) (by omega) (by omega))]
  | succ r ih =>
    intro k f a g1 g2 g3
    obtain ⟨f, rfl⟩ : ∃ j, f = j + 1 := ⟨f - 1, by omega⟩
    obtain ⟨a', i1, i2, i3⟩ := ih (k + 1) f (upd a k (B k)) (by omega) (by omega) (fun j hj => by
      by_cases z : j = k
      · rw [z, p2_us]
      · rw [p2_un z]; exact g3 j (by omega))
    refine ⟨a', ?_, i2, fun j hj => by rw [i3 j hj, p2_un (by omega)]⟩
    rw [← i1]
    show f_X9_read_L118 h1 h2 h3 h4 h5 h6 B rf its x1 (f_X9_read_L118w h1 h2 h3 h4 h5 h6 B rf its x1 f) a (nI k) = _
    unfold f_X9_read_L118
    rw [if_neg (show ¬ (140 : Int32) ≤ nI k from nI_ge (b := 140) (by omega) (by decide)), p2_gd (p2_ib (by omega) (by decide)), p2_gd (p2_ib (by omega) (by decide)), p2_ix (by omega), nI_1]
    rfl
theorem t_zero (rf : Nat → Int32) (h2 h3 h4 h5 h6 : Int32) (B its : Nat → Int32) : ∀ (r k f : Nat) (a : Nat → Int32), k + r = 5 → r < f → (∀ j, j < k → a j = 0) → ∃ a', f_X9_read_L44w rf h2 h3 h4 h5 h6 B its f a (nI k) = f_X9_read_L76w 1 h2 h3 h4 h5 h6 B its cx_N0 a' rf 0 ∧ (∀ j, j < 5 → a' j = 0) ∧ a' 5 = 1 ∧ ∀ j, 140 ≤ j → a' j = a j := by
  intro r
  induction r with
  | zero =>
    intro k f a g1 g2 g3
    obtain ⟨f, rfl⟩ : ∃ j, f = j + 1 := ⟨f - 1, by omega⟩
    refine ⟨upd a 5 1, ?_, fun j hj => by rw [p2_un (by omega)]; exact g3 j (by omega), p2_us, fun j hj => p2_un (by omega)⟩
    show f_X9_read_L44 rf h2 h3 h4 h5 h6 B its (f_X9_read_L44w rf h2 h3 h4 h5 h6 B its f) a (nI k) = _
    unfold f_X9_read_L44
    rw [if_pos (show (5 : Int32) ≤ nI k from nI_le (a := 5) (by omega) (by omega)), p2_gd (by decide)]
    rfl
  | succ r ih =>
    intro k f a g1 g2 g3
    obtain ⟨f, rfl⟩ : ∃ j, f = j + 1 := ⟨f - 1, by omega⟩
    obtain ⟨a', i1, i2, i3, i4⟩ := ih (k + 1) f (upd a k 0) (by omega) (by omega) (fun j hj => by
      by_cases z : j = k
      · rw [z, p2_us]
      · rw [p2_un z]; exact g3 j (by omega))
    refine ⟨a', ?_, i2, i3, fun j hj => by rw [i4 j hj, p2_un (by omega)]⟩
    rw [← i1]
    show f_X9_read_L44 rf h2 h3 h4 h5 h6 B its (f_X9_read_L44w rf h2 h3 h4 h5 h6 B its f) a (nI k) = _
    unfold f_X9_read_L44
    rw [if_neg (show ¬ (5 : Int32) ≤ nI k from nI_ge (b := 5) (by omega) (by decide)), p2_gd (p2_ib (by omega) (by decide)), p2_ix (by omega), nI_1]
    rfl
theorem t_keep (bk rf : Nat → Int32) (h2 h3 h4 h5 h6 : Int32) (its : Nat → Int32) : ∀ (r k f : Nat) (a : Nat → Int32), k + r = 140 → r < f → (∀ j, j < k → a j = bk j) → ∃ B, f_X9_read_L17w bk rf h2 h3 h4 h5 h6 its f a (nI k) = f_X9_read_L44w rf h2 h3 h4 h5 h6 B its cx_N0 bk 0 ∧ ∀ j, j < 140 → B j = bk j := by
  intro r
  induction r with
  | zero =>
    intro k f a g1 g2 g3
    obtain ⟨f, rfl⟩ : ∃ j, f = j + 1 := ⟨f - 1, by omega⟩
    refine ⟨a, ?_, fun j hj => g3 j (by omega)⟩
    show f_X9_read_L17 bk rf h2 h3 h4 h5 h6 its (f_X9_read_L17w bk rf h2 h3 h4 h5 h6 its f) a (nI k) = _
    unfold f_X9_read_L17
    rw [if_pos (show (140 : Int32) ≤ nI k from nI_le (a := 140) (by omega) (by omega))]
  | succ r ih =>
    intro k f a g1 g2 g3
    obtain ⟨f, rfl⟩ : ∃ j, f = j + 1 := ⟨f - 1, by omega⟩
    obtain ⟨a', i1, i2⟩ := ih (k + 1) f (upd a k (bk k)) (by omega) (by omega) (fun j hj => by
      by_cases z : j = k
      · rw [z, p2_us]
      · rw [p2_un z]; exact g3 j (by omega))
    refine ⟨a', ?_, i2⟩
    rw [← i1]
    show f_X9_read_L17 bk rf h2 h3 h4 h5 h6 its (f_X9_read_L17w bk rf h2 h3 h4 h5 h6 its f) a (nI k) = _
    unfold f_X9_read_L17
    rw [if_neg (show ¬ (140 : Int32) ≤ nI k from nI_ge (b := 140) (by omega) (by decide)), p2_gd (p2_ib (by omega) (by decide)), p2_gd (p2_ib (by omega) (by decide)), p2_ix (by omega), nI_1]
    rfl
/-- telling all items, on both sides -/
theorem t_tell {T : Nat → Nat} {L : Nat} {bs tx : Nat → Int32} (hX : s_TX T L bs tx) {N : Nat} (hN : N ≤ 100) (h1 : ∀ m, m < N → s_K T L (s_P T L m) ≠ 0 ∧ (s_gd T L (s_P T L m)).1 = true) (h2 : s_K T L (s_P T L N) = 0) (its B : Nat → Int32) (hK : ∀ m, m < N → s_kept T L its m) (q2 q3 q4 q5 : Int32) : ∀ (r m f g : Nat) (it : Int32) (nums c0 c1 c2 c3 c4 : Nat → Int32) (z0 z1 z2 z3 z4 sg : Int32) (bk rf : Nat → Int32) (n0 n1 n2 n3 n4 : Nat), m + r = N → r < f → r < g → p2_RB c0 z0 c1 z1 c2 z2 c3 z3 c4 z4 sg bk n0 n1 n2 n3 n4 →
    (∃ (a b it' : Int32) (nums' : Nat → Int32) (sg' z0' : Int32) (c0' : Nat → Int32) (z1' : Int32) (c1' : Nat → Int32) (z2' : Int32) (c2' : Nat → Int32) (z3' : Int32) (c3' : Nat → Int32) (z4' : Int32) (c4' bk' rf' : Nat → Int32), f_X6_tell_L19w bs (nI L) f (nI (s_st T L (s_P T L m))) (nI (s_E T L (s_P T L m))) it nums sg z0 c0 z1 c1 z2 c2 z3 c3 z4 c4 (nI m) (nI (s_K T L (s_P T L m))) (nI m) = some (nI N, a, b, it', nums', sg', z0', c0', z1', c1', z2', c2', z3', c3', z4', c4') ∧ f_X9_read_L76w 1 q2 q3 q4 q5 (nI N) B its g bk rf (nI m) = some (nI N, 0, q2, q3, q4, q5, nI N, bk', B, rf', its) ∧ (∀ j, rf' j = rf j) ∧ ∃ n0 n1 n2 n3 n4, p2_RB c0' z0' c1' z1' c2' z2' c3' z3' c4' z4' sg' bk' n0 n1 n2 n3 n4) ∨
    (∃ (m' : Nat) (a b it' : Int32) (nums' : Nat → Int32) (sg' z0' : Int32) (c0' : Nat → Int32) (z1' : Int32) (c1' : Nat → Int32) (z2' : Int32) (c2' : Nat → Int32) (z3' : Int32) (c3' : Nat → Int32) (z4' : Int32) (c4' bk' rf' : Nat → Int32), m' < 100 ∧ f_X6_tell_L19w bs (nI L) f (nI (s_st T L (s_P T L m))) (nI (s_E T L (s_P T L m))) it nums sg z0 c0 z1 c1 z2 c2 z3 c3 z4 c4 (nI m) (nI (s_K T L (s_P T L m))) (nI m) = some (-1 - nI m', a, b, it', nums', sg', z0', c0', z1', c1', z2', c2', z3', c3', z4', c4') ∧ f_X9_read_L76w 1 q2 q3 q4 q5 (nI N) B its g bk rf (nI m) = some (-1000 - nI m', 0, q2, q3, q4, q5, nI N, bk', B, rf', its) ∧ (∀ j, rf' j = rf j) ∧ (∀ j, j < 140 → bk' j = B j) ∧ ∀ j, 140 ≤ j → bk' j = bk j) := by
  have hL := hX.1
  intro r
  induction r with
  | zero =>
    intro m f g it nums c0 c1 c2 c3 c4 z0 z1 z2 z3 z4 sg bk rf n0 n1 n2 n3 n4 g1 g2 g3 hRB
    obtain ⟨f, rfl⟩ : ∃ j, f = j + 1 := ⟨f - 1, by omega⟩
    obtain ⟨g, rfl⟩ : ∃ j, g = j + 1 := ⟨g - 1, by omega⟩
    obtain rfl : m = N := by omega
    left
    refine ⟨nI (s_st T L (s_P T L m)), nI (s_E T L (s_P T L m)), it, nums, sg, z0, c0, z1, c1, z2, c2, z3, c3, z4, c4, bk, rf, ?_, ?_, fun _ => rfl, n0, n1, n2, n3, n4, hRB⟩
    · show f_X6_tell_L19 bs (nI L) (f_X6_tell_L19w bs (nI L) f) _ _ _ _ _ _ _ _ _ _ _ _ _ _ _ (nI m) _ (nI m) = _
      unfold f_X6_tell_L19
      rw [if_neg (show ¬ (300 : Int32) ≤ nI m from nI_ge (b := 300) (by omega) (by decide)), if_pos (by rw [h2]; rfl)]
    · show f_X9_read_L76 1 q2 q3 q4 q5 (nI m) B its (f_X9_read_L76w 1 q2 q3 q4 q5 (nI m) B its g) bk rf (nI m) = _
      unfold f_X9_read_L76 f_X9_read_J98
      rw [if_pos (nI_le (Nat.le_refl _) (by omega)), if_pos rfl]
  | succ r ih =>
    intro m f g it nums c0 c1 c2 c3 c4 z0 z1 z2 z3 z4 sg bk rf n0 n1 n2 n3 n4 g1 g2 g3 hRB
    obtain ⟨f, rfl⟩ : ∃ j, f = j + 1 := ⟨f - 1, by omega⟩
    obtain ⟨g, rfl⟩ : ∃ j, g = j + 1 := ⟨g - 1, by omega⟩
    obtain ⟨c, hf⟩ := h1 m (by omega)
    have hk : s_K T L (s_P T L m) ≤ 4 := t_kdl
    obtain ⟨it', nums', t1, t2⟩ := t_take hX (s_P_b (T := T) (L := L) m) it nums
    obtain ⟨t3, t4, t5⟩ := t2 hf
    have hb := (s_E_b (T := T) (s_gd_b (T := T) (s_P_b (T := T) (L := L) m)).1).2.1
    obtain ⟨k1, k2⟩ := hK m (by omega)
    have hTI := t_tellItem hRB (it := s_IT T L (s_P T L m)) (m := m) (by omega) t3 nums' its k1 (fun i hi => by rw [t5 i hi, k2 i hi])
    have eC : f_X6_tell_L19w bs (nI L) (f + 1) (nI (s_st T L (s_P T L m))) (nI (s_E T L (s_P T L m))) it nums sg z0 c0 z1 c1 z2 c2 z3 c3 z4 c4 (nI m) (nI (s_K T L (s_P T L m))) (nI m) = Option.bind (f_X6_tellItem (nI (s_IT T L (s_P T L m))) nums' c0 z0 c1 z1 c2 z2 c3 z3 c4 z4 sg) (fun u28 => if -1 ≤ u28.1 then f_X6_tell_L19w bs (nI L) f (nI (s_st T L (s_P T L (m + 1)))) (nI (s_E T L (s_P T L (m + 1)))) (nI (s_IT T L (s_P T L m))) nums' u28.2.1 u28.2.2.1 u28.2.2.2.1 u28.2.2.2.2.1 u28.2.2.2.2.2.1 u28.2.2.2.2.2.2.1 u28.2.2.2.2.2.2.2.1 u28.2.2.2.2.2.2.2.2.1 u28.2.2.2.2.2.2.2.2.2.1 u28.2.2.2.2.2.2.2.2.2.2.1 u28.2.2.2.2.2.2.2.2.2.2.2 (nI (m + 1)) (nI (s_K T L (s_P T L (m + 1)))) (nI (m + 1)) else some (-1 - nI m, nI (s_st T L (s_gd T L (s_P T L m)).2), nI (s_E T L (s_gd T L (s_P T L m)).2), nI (s_IT T L (s_P T L m)), nums', u28.2.1, u28.2.2.1, u28.2.2.2.1, u28.2.2.2.2.1, u28.2.2.2.2.2.1, u28.2.2.2.2.2.2.1, u28.2.2.2.2.2.2.2.1, u28.2.2.2.2.2.2.2.2.1, u28.2.2.2.2.2.2.2.2.2.1, u28.2.2.2.2.2.2.2.2.2.2.1, u28.2.2.2.2.2.2.2.2.2.2.2)) := by
      show f_X6_tell_L19 bs (nI L) (f_X6_tell_L19w bs (nI L) f) _ _ _ _ _ _ _ _ _ _ _ _ _ _ _ (nI m) _ (nI m) = _
      unfold f_X6_tell_L19
      rw [if_neg (show ¬ (300 : Int32) ≤ nI m from nI_ge (b := 300) (by omega) (by decide)), if_neg (show ¬ nI (s_K T L (s_P T L m)) = 0 from fun q => c ((nI_eq (b := 0) (by omega) (by decide)).mp q)), t1, Option.bind_some, p4_bt, if_pos hf, t4, t_adv hX hb, nI_1]
      rfl
    have eM : f_X9_read_L76w 1 q2 q3 q4 q5 (nI N) B its (g + 1) bk rf (nI m) = Option.bind (f_X9_tellsItem bk rf 1 its (nI m)) (fun u64 => if u64.1 = 0 then f_X9_read_J98 1 q2 q3 q4 q5 (nI N) u64.2.1 B u64.2.2 its (nI m) else f_X9_read_L76w 1 q2 q3 q4 q5 (nI N) B its g u64.2.1 u64.2.2 (nI (m + 1))) := by
      show f_X9_read_L76 1 q2 q3 q4 q5 (nI N) B its (f_X9_read_L76w 1 q2 q3 q4 q5 (nI N) B its g) bk rf (nI m) = _
      unfold f_X9_read_L76
      rw [if_neg (nI_ge (by omega) (by omega)), nI_1]
    rw [eC, eM]
    rcases hTI with ⟨rr, w1, w2, w3⟩ | ⟨a, sg', z0', c0', z1', c1', z2', c2', z3', c3', z4', c4', bk', w1, w2, w3, m0, m1, m2, m3, m4, w4⟩
    · right
      obtain ⟨rf', w4, w5⟩ := w3 rf
      obtain ⟨bk', b1, b2, b3⟩ := t_back 0 q2 q3 q4 q5 (nI N) B rf' its (nI m) 140 0 cx_N0 bk (by omega) (by unfold cx_N0; omega) (fun j hj => by omega)
      refine ⟨m, nI (s_st T L (s_gd T L (s_P T L m)).2), nI (s_E T L (s_gd T L (s_P T L m)).2), nI (s_IT T L (s_P T L m)), nums', sg, z0, c0, z1, c1, z2, c2, z3, c3, z4, c4, bk', rf', by omega, ?_, ?_, w5, b2, b3⟩
      · have hle : ¬ (-1 : Int32) ≤ rr := fun q => by
          have q1 := p2_le.mp q
          have q2 := p2_lt.mp w1
          omega
        rw [w2, Option.bind_some, if_neg hle]
      · rw [w4, Option.bind_some, if_pos rfl]
        unfold f_X9_read_J98
        rw [if_neg (fun q => by have := (nI_eq (by omega) (by omega)).mp q; omega)]
        exact b1
    · have hle : (-1 : Int32) ≤ a := by
        rw [p2_le]
        have : ¬ a.toInt < (-1 : Int32).toInt := fun q => w1 (p2_lt.mpr q)
        omega
      rw [w2, Option.bind_some, if_pos hle, w3 rf, Option.bind_some, if_neg (show ¬ (1 : Int32) = 0 by decide)]
      have hfr : ∀ j, 140 ≤ j → bk' j = bk j := t_Fr_tells bk rf its 1 (nI m) _ (w3 rf)
      rcases ih (m + 1) f g _ nums' c0' c1' c2' c3' c4' z0' z1' z2' z3' z4' sg' bk' rf m0 m1 m2 m3 m4 (by omega) (by omega) (by omega) w4 with hh | ⟨m', a, b, it', nums2, sg2, z02, c02, z12, c12, z22, c22, z32, c32, z42, c42, bk2, rf2, v0, v1, v2, v3, v4, v5⟩
      · exact Or.inl hh
      · exact Or.inr ⟨m', a, b, it', nums2, sg2, z02, c02, z12, c12, z22, c22, z32, c32, z42, c42, bk2, rf2, v0, v1, v2, v3, v4, fun j hj => by rw [v5 j hj, hfr j hj]⟩
theorem t_num : ∀ m, m < 100 → (-1000 : Int32) - (-1 - (-1 - nI m)) = -1000 - nI m ∧ ¬ (0 : Int32) ≤ -1 - nI m := by decide +kernel
theorem i_read : ob_read i_Inv := by
  intro σ τ h
  obtain ⟨⟨n0, n1, n2, n3, n4, hRB, hsm⟩, hR, hK0, hK1, hT, hF, hO1, hO2, hS1, hS2⟩ := h
  obtain ⟨r0, r1, r2, r3, r4, rs, v0, v1, v2, v3, v4, v5⟩ := id hRB
  have hn0 := r0.1
  have hn1 := r1.1
  have hn2 := r2.1
  have hn3 := r3.1
  have hn4 := r4.1
  obtain ⟨hq, hrf⟩ := hR
  obtain ⟨L, hL, t1, t2, t3⟩ := id hT
  have hX : s_TX (fun j => cx_ix ((τ.1 7) j)) L (σ.1 22) (τ.1 7) := by
    refine ⟨hL, fun j hj => ?_⟩
    obtain ⟨a1, a2, a3⟩ := t3 j hj
    have e := (p7_ix a2).1
    exact ⟨by rw [a1]; exact e, e, p7_le a2 a3⟩
  generalize (fun j => cx_ix ((τ.1 7) j)) = T at hX
  obtain ⟨N, hN3, hN1, hN2⟩ := s_many T L
  obtain ⟨fa, fb, fi, fn, c1⟩ := t_fault hX (by omega) hN1 hN2 (σ.2.2 28) (σ.1 23)
  obtain ⟨ra, rs', rt, rv, its, m1, m2, m3⟩ := t_reads hX (by omega) hN1 hN2 (τ.2.2 5) (τ.1 8)
  rw [← t1] at c1
  rw [← t2] at m1
  by_cases hend : s_K T L (s_P T L N) = 0
  · rw [if_pos hend] at c1 m1
    obtain ⟨B, k1, k2⟩ := t_keep (τ.1 2) (τ.1 6) ra rs' rt rv (nI N) its 140 0 cx_N0 (τ.1 5) (by omega) (by unfold cx_N0; omega) (fun j hj => by omega)
    obtain ⟨b0, k3, k4, k5, k6⟩ := t_zero (τ.1 6) ra rs' rt rv (nI N) B its 5 0 cx_N0 (τ.1 2) (by omega) (by unfold cx_N0; omega) (fun j hj => by omega)
    have hRB0 : p2_RB (σ.1 7) 0 (σ.1 8) 0 (σ.1 9) 0 (σ.1 10) 0 (σ.1 11) 0 1 b0 0 0 0 0 0 := by
      refine ⟨⟨by decide, rfl, k4 0 (by decide), fun j hj => by omega⟩, ⟨by decide, rfl, k4 1 (by decide), fun j hj => by omega⟩, ⟨by decide, rfl, k4 2 (by decide), fun j hj => by omega⟩, ⟨by decide, rfl, k4 3 (by decide), fun j hj => by omega⟩, ⟨by decide, rfl, k4 4 (by decide), fun j hj => by omega⟩, k5.symm, fun p hp => by omega, fun p hp => by omega, fun p hp => by omega, fun p hp => by omega, fun p hp => by omega, ?_⟩
      unfold p2_e
      rw [k5]
      exact ⟨by decide, by decide⟩
    have ht : ∀ y, f_X6_tell_L19w (σ.1 22) (nI L) cx_N0 (nI (s_st T L (s_P T L 0))) (nI (s_E T L (s_P T L 0))) fi fn 1 0 (σ.1 7) 0 (σ.1 8) 0 (σ.1 9) 0 (σ.1 10) 0 (σ.1 11) 0 (nI (s_K T L (s_P T L 0))) 0 = some y → f_X6_tell (σ.1 22) (σ.2.2 25) fi fn (σ.1 7) (σ.1 8) (σ.1 9) (σ.1 10) (σ.1 11) = some y := by
      intro y hy
      unfold f_X6_tell f_X1_empty
      rw [Option.bind_some, t1, show f_X6_advance (σ.1 22) (nI L) 0 = _ from t_adv hX (p := 0) (Nat.zero_le _), Option.bind_some]
      exact hy
    have hm : ∀ y, f_X9_read_L76w 1 ra rs' rt rv (nI N) B its cx_N0 b0 (τ.1 6) 0 = some y → f_X9_read (τ.1 2) (τ.1 5) (τ.1 6) (τ.2.2 0) (τ.1 7) (τ.2.2 1) (τ.2.2 5) (τ.1 8) = some y := by
      intro y hy
      unfold f_X9_read
      rw [m1, Option.bind_some, if_neg (show ¬ (1 : Int32) = 0 by decide)]
      exact (k1.trans k3).trans hy
    rcases t_tell hX (show N ≤ 100 by omega) hN1 hend its B m3 ra rs' rt rv N 0 cx_N0 cx_N0 fi fn (σ.1 7) (σ.1 8) (σ.1 9) (σ.1 10) (σ.1 11) 0 0 0 0 0 1 b0 (τ.1 6) 0 0 0 0 0 (by omega) (by unfold cx_N0; omega) (by unfold cx_N0; omega) hRB0 with ⟨a, b, it', nums', sg', z0', c0', z1', c1', z2', c2', z3', c3', z4', c4', bk', rf', w1, w2, w3, m0, m1', m2', m3', m4', w4⟩ | ⟨m', a, b, it', nums', sg', z0', c0', z1', c1', z2', c2', z3', c3', z4', c4', bk', rf', w0, w1, w2, w3, w4, w5⟩
    · obtain ⟨e0, e1, e2, e3, e4, x1, x2⟩ := i_take w4 (σ.1 2) (σ.1 3) (σ.1 4) (σ.1 5) (σ.1 6)
      apply i_ex
      · unfold f_X8_read
        rw [c1, Option.bind_some, if_pos rfl, ht _ w1, Option.bind_some, if_pos (show (0 : Int32) ≤ nI N from nI_pos' (by omega)), x1, Option.bind_some]
      · exact hm _ w2
      · exact ⟨rfl, ⟨m0, m1', m2', m3', m4', x2, Or.inl rfl⟩, ⟨rfl, fun i hi => (hrf i hi).trans (w3 i).symm⟩, hK0, hK1, hT, hF, hO1, hO2, hS1, hS2⟩
    · obtain ⟨y1, y2⟩ := t_num m' w0
      apply i_ex
      · unfold f_X8_read
        rw [c1, Option.bind_some, if_pos rfl, ht _ w1, Option.bind_some, if_neg (show ¬ (0 : Int32) ≤ -1 - nI m' from y2)]
      · exact hm _ w2
      · have e : bk' = τ.1 2 := funext (fun j => by
          by_cases z : j < 140
          · rw [w4 j z, k2 j z]
          · rw [w5 j (by omega), k6 j (by omega)])
        subst e
        exact ⟨y1, ⟨n0, n1, n2, n3, n4, hRB, hsm⟩, ⟨rfl, fun i hi => (hrf i hi).trans (w3 i).symm⟩, hK0, hK1, hT, hF, hO1, hO2, hS1, hS2⟩
  · rw [if_neg hend] at c1 m1
    have hst := s_st_b (T := T) (s_gd_b (T := T) (s_P_b (T := T) (L := L) N)).1
    apply i_ex
    · unfold f_X8_read
      rw [c1, Option.bind_some, if_neg (show ¬ nI (s_st T L (s_gd T L (s_P T L N)).2) = -1 from p2_nIne _ (by omega))]
    · unfold f_X9_read
      rw [m1, Option.bind_some, if_pos rfl]
    · exact ⟨by show (-10 : Int32) - nI (s_st T L (s_gd T L (s_P T L N)).2) = -10 - rs'; rw [m2 hend], ⟨n0, n1, n2, n3, n4, hRB, hsm⟩, ⟨hq, hrf⟩, hK0, hK1, hT, hF, hO1, hO2, hS1, hS2⟩
