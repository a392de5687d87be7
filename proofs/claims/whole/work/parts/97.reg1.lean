/-! THE REFERENCE'S NUMBERS: registers of sixteen digits -/
def p4_R (l w : Nat → Int32) (r v : Nat) : Prop := (∀ k, k < 16 → l (16 * r + k) = nI (p3_dg v k)) ∧ ∃ n, n ≤ 16 ∧ w r = nI n ∧ v < 1073741824 ^ n ∧ (0 < n → 1073741824 ^ (n - 1) ≤ v)
/-- all registers but THREE -/
def p4_S (l w : Nat → Int32) (V : Nat → Nat) : Prop := ∀ r, r < 270 → r ≠ 4 → p4_R l w r (V r)
def p4_F (l l' w w' : Nat → Int32) (r : Nat) : Prop := (∀ j, (j < 16 * r ∨ 16 * r + 16 ≤ j) → l' j = l j) ∧ ∀ s, s ≠ r → w' s = w s
def p4_u (V : Nat → Nat) (r v : Nat) : Nat → Nat := fun s => if s = r then v else V s
theorem p4_us {V : Nat → Nat} {r v : Nat} : p4_u V r v r = v := if_pos rfl
theorem p4_un {V : Nat → Nat} {r v s : Nat} (h : s ≠ r) : p4_u V r v s = V s := if_neg h
theorem p4_R.lt {l w : Nat → Int32} {r v : Nat} (h : p4_R l w r v) : v < 1073741824 ^ 16 := by
  obtain ⟨_, n, h1, _, h3, _⟩ := h
  exact Nat.lt_of_lt_of_le h3 (p3_pow_le h1)
theorem p4_F.R {l l' w w' : Nat → Int32} {r s v : Nat} (h : p4_F l l' w w' r) (hs : s ≠ r) (hR : p4_R l w s v) : p4_R l' w' s v := by
  obtain ⟨h1, n, h2, h3, h4⟩ := hR
  exact ⟨fun k hk => by rw [h.1 _ (by omega)]; exact h1 k hk, n, h2, by rw [h.2 s hs]; exact h3, h4⟩
theorem p4_S.set {l l' w w' : Nat → Int32} {V : Nat → Nat} {r v : Nat} (h : p4_S l w V) (hF : p4_F l l' w w' r) (hR : p4_R l' w' r v) : p4_S l' w' (p4_u V r v) := by
  intro s hs h4
  by_cases e : s = r
  · subst e
    rw [p4_us]
    exact hR
  · rw [p4_un e]
    exact hF.R e (h s hs h4)
theorem p4_F.trans {l l' l'' w w' w'' : Nat → Int32} {r : Nat} (h : p4_F l l' w w' r) (h' : p4_F l' l'' w' w'' r) : p4_F l l'' w w'' r := ⟨fun j hj => (h'.1 j hj).trans (h.1 j hj), fun s hs => (h'.2 s hs).trans (h.2 s hs)⟩
theorem p3_top0 {v n : Nat} (h : v < 1073741824 ^ (n + 1)) : p3_dg v n = 0 ↔ v < 1073741824 ^ n := by
  constructor
  · intro h0
    have h0 : v / 1073741824 ^ n % 1073741824 = 0 := h0
    have h1 : v / 1073741824 ^ n < 1073741824 := by
      rw [Nat.div_lt_iff_lt_mul (p3_Ppos n), ← p3_Ps]
      exact h
    rw [Nat.mod_eq_of_lt h1] at h0
    exact (Nat.div_eq_zero_iff_lt (p3_Ppos n)).mp h0
  · exact p3_dg_big
theorem p4_i0 {d : Nat} (h : d < 2 ^ 31) : nI d = 0 ↔ d = 0 := nI_eq h (by decide)
/-- the top part is cut -/
theorem p4_trimL (l : Nat → Int32) (r v : Nat) (hr : r < 270) (hl : ∀ k, k < 16 → l (16 * r + k) = nI (p3_dg v k)) : ∀ (n m : Nat) (w : Nat → Int32), n ≤ 16 → v < 1073741824 ^ n → w r = nI n → n < m → ∃ w', f_X9_trims_L0w l (nI r) m w = some w' ∧ (∀ s, s ≠ r → w' s = w s) ∧ ∃ n', n' ≤ 16 ∧ w' r = nI n' ∧ v < 1073741824 ^ n' ∧ (0 < n' → 1073741824 ^ (n' - 1) ≤ v) := by
  intro n
  induction n with
  | zero =>
    intro m w h1 h2 h3 h4
    obtain ⟨m, rfl⟩ : ∃ j, m = j + 1 := ⟨m - 1, by omega⟩
    refine ⟨w, ?_, fun _ _ => rfl, 0, by omega, h3, h2, fun h => by omega⟩
    show f_X9_trims_L0 l (nI r) (f_X9_trims_L0w l (nI r) m) w = _
    unfold f_X9_trims_L0
    rw [p2_gd (p2_ib hr (by decide)), p2_ix (by omega), h3, if_pos (by decide)]
  | succ n ih =>
    intro m w h1 h2 h3 h4
    obtain ⟨m, rfl⟩ : ∃ j, m = j + 1 := ⟨m - 1, by omega⟩
    have q := p3_dg_lt v n
    have st : f_X9_trims_L0w l (nI r) (m + 1) w = if nI (p3_dg v n) = 0 then f_X9_trims_L0w l (nI r) m (upd w r (nI n)) else some w := by
      show f_X9_trims_L0 l (nI r) (f_X9_trims_L0w l (nI r) m) w = _
      unfold f_X9_trims_L0
      have ei : (nI 16 * nI r + nI (n + 1)) - 1 = nI (16 * r + n) := by rw [pk_mul, nI_add, show 16 * r + (n + 1) = 16 * r + n + 1 by omega, nI_pred]
      rw [p2_gd (p2_ib hr (by decide)), p2_ix (n := r) (by omega), h3, if_neg (nI_nle (by omega) (by omega)), p2_gd (p2_ib hr (by decide)), show (16 : Int32) = nI 16 from rfl, ei, p2_gd (p2_ib (by omega) (by decide)), p2_ix (n := 16 * r + n) (by omega), hl n (by omega), p2_gd (p2_ib hr (by decide)), p2_gd (p2_ib hr (by decide)), nI_pred]
      rfl
    rw [st]
    by_cases hz : p3_dg v n = 0
    · obtain ⟨w', g1, g2, g3⟩ := ih m (upd w r (nI n)) (by omega) ((p3_top0 h2).mp hz) p2_us (by omega)
      refine ⟨w', ?_, fun s hs => by rw [g2 s hs, p2_un hs], g3⟩
      rw [if_pos (by rw [hz]; rfl)]
      exact g1
    · refine ⟨w, ?_, fun _ _ => rfl, n + 1, h1, h3, h2, fun _ => ?_⟩
      · rw [if_neg (fun e => hz ((p4_i0 (by omega)).mp e))]
      · exact Nat.le_of_not_lt (fun e => hz ((p3_top0 h2).mpr e))
theorem p4_trims {l w : Nat → Int32} {r v n : Nat} (hr : r < 270) (hl : ∀ k, k < 16 → l (16 * r + k) = nI (p3_dg v k)) (hn : n ≤ 16) (hv : v < 1073741824 ^ n) (hw : w r = nI n) : ∃ w', f_X9_trims l w (nI r) = some w' ∧ (∀ s, s ≠ r → w' s = w s) ∧ p4_R l w' r v := by
  obtain ⟨w', g1, g2, g3⟩ := p4_trimL l r v hr hl n cx_N0 w hn hv hw (by unfold cx_N0; omega)
  exact ⟨w', g1, g2, hl, g3⟩
/-- sets -/
theorem p4_shk {v : Nat} (hv : v < 2 ^ 63) : ∀ k, k < 3 → Int64.toInt32 ((lN v >>> (Int32.toInt64 (30 * nI k) &&& 63)) &&& 1073741823) = nI (p3_dg v k) := by
  intro k hk
  have e : (lN v >>> (Int32.toInt64 (30 * nI k) &&& 63)).toInt = (v : Int) / ((2 ^ (30 * k) : Nat) : Int) := by
    rcases (show k = 0 ∨ k = 1 ∨ k = 2 by omega) with rfl | rfl | rfl
    · have e : (lN v >>> (Int32.toInt64 (30 * nI 0) &&& 63)).toInt = (lN v).toInt >>> 0 := BitVec.toInt_sshiftRight ..
      rw [e, Int.shiftRight_eq_div_pow, p3_lI hv]
    · have e : (lN v >>> (Int32.toInt64 (30 * nI 1) &&& 63)).toInt = (lN v).toInt >>> 30 := BitVec.toInt_sshiftRight ..
      rw [e, Int.shiftRight_eq_div_pow, p3_lI hv]
    · have e : (lN v >>> (Int32.toInt64 (30 * nI 2) &&& 63)).toInt = (lN v).toInt >>> 60 := BitVec.toInt_sshiftRight ..
      rw [e, Int.shiftRight_eq_div_pow, p3_lI hv]
  obtain ⟨h1, h2⟩ := p3_andN (lN v >>> (Int32.toInt64 (30 * nI k) &&& 63))
  rw [h1, lN_i, e]
  congr 1
  have e3 : 1073741824 ^ k = 2 ^ (30 * k) := by rw [show (1073741824 : Nat) = 2 ^ 30 from rfl, ← Nat.pow_mul]
  show _ = v / 1073741824 ^ k % 1073741824
  rw [e3, ← Int.natCast_ediv]
  omega
theorem p4_setsL (w : Nat → Int32) (r v : Nat) (hr : r < 270) (hv : v < 2 ^ 63) : ∀ (u k m : Nat) (a : Nat → Int32), k + u = 16 → u < m → ∃ a', f_X9_sets_L3w w (nI r) (lN v) m a (nI k) = f_X9_sets_L3w w (nI r) (lN v) (m - u) a' (nI 16) ∧ (∀ j, (j < 16 * r + k ∨ 16 * r + 16 ≤ j) → a' j = a j) ∧ (∀ t, k ≤ t → t < 16 → a' (16 * r + t) = nI (p3_dg v t)) := by
  intro u
  induction u with
  | zero =>
    intro k m a h1 h2
    exact ⟨a, by rw [show k = 16 by omega]; rfl, fun _ _ => rfl, fun t _ _ => by omega⟩
  | succ u ih =>
    intro k m a h1 h2
    obtain ⟨m, rfl⟩ : ∃ j, m = j + 1 := ⟨m - 1, by omega⟩
    obtain ⟨a', g1, g2, g3⟩ := ih (k + 1) m (upd a (16 * r + k) (nI (p3_dg v k))) (by omega) (by omega)
    refine ⟨a', ?_, fun j hj => by rw [g2 j (by omega), p2_un (by omega)], fun t t1 t2 => ?_⟩
    · rw [show m + 1 - (u + 1) = m - u by omega, ← g1]
      show f_X9_sets_L3 w (nI r) (lN v) (f_X9_sets_L3w w (nI r) (lN v) m) a (nI k) = _
      unfold f_X9_sets_L3 f_X9_sets_J43
      rw [show (16 : Int32) = nI 16 from rfl, if_neg (nI_ge (by omega) (by omega)), pk_mul, nI_add, p2_ix (n := 16 * r + k) (by omega), nI_1]
      by_cases h3 : k < 3
      · rw [show (3 : Int32) = nI 3 from rfl, if_neg (nI_ge h3 (by omega)), p2_gd (p2_ib (by omega) (by decide)), p4_shk hv k h3]
        rfl
      · have : v < 1073741824 ^ k := Nat.lt_of_lt_of_le (Nat.lt_trans hv (by decide)) (p3_pow_le (a := 3) (by omega))
        rw [show (3 : Int32) = nI 3 from rfl, if_pos (nI_le (by omega) (by omega)), p2_gd (p2_ib (by omega) (by decide)), p3_dg_big this]
        rfl
    · by_cases e : t = k
      · subst e
        rw [g2 _ (by omega), p2_us]
      · exact g3 t (by omega) t2
theorem p4_sets {l w : Nat → Int32} {r v : Nat} (hr : r < 270) (hv : v < 2 ^ 63) : ∃ l' w', f_X9_sets l w (nI r) (lN v) = some (l', w') ∧ p4_F l l' w w' r ∧ p4_R l' w' r v := by
  obtain ⟨a', g1, g2, g3⟩ := p4_setsL w r v hr hv 16 0 cx_N0 l (by omega) (by unfold cx_N0; omega)
  obtain ⟨w', t1, t2, t3⟩ := p4_trims (w := upd w r 3) (n := 3) hr (fun k hk => g3 k (by omega) hk) (by omega) (Nat.lt_trans hv (by decide)) p2_us
  refine ⟨a', w', ?_, ⟨fun j hj => g2 j (by omega), fun s hs => by rw [t2 s hs, p2_un hs]⟩, t3⟩
  unfold f_X9_sets
  refine g1.trans ?_
  rw [show cx_N0 - 16 = 9999999983 + 1 from rfl]
  show f_X9_sets_L3 w (nI r) (lN v) (f_X9_sets_L3w w (nI r) (lN v) 9999999983) a' (nI 16) = _
  unfold f_X9_sets_L3
  rw [if_pos (by decide), p2_gd (p2_ib hr (by decide)), p2_ix (by omega)]
  simp only [cx_let]
  rw [t1, Option.bind_some]
/-- takes -/
theorem p4_takesL (w : Nat → Int32) (r o : Nat) (hr : r < 270) (ho : o < 270) (hro : r ≠ o) : ∀ (u k m : Nat) (a : Nat → Int32), k + u = 16 → u < m → ∃ a', f_X9_takes_L2w w (nI r) (nI o) m a (nI k) = f_X9_takes_L2w w (nI r) (nI o) (m - u) a' (nI 16) ∧ (∀ j, (j < 16 * r + k ∨ 16 * r + 16 ≤ j) → a' j = a j) ∧ (∀ t, k ≤ t → t < 16 → a' (16 * r + t) = a (16 * o + t)) := by
  intro u
  induction u with
  | zero =>
    intro k m a h1 h2
    exact ⟨a, by rw [show k = 16 by omega]; rfl, fun _ _ => rfl, fun t _ _ => by omega⟩
  | succ u ih =>
    intro k m a h1 h2
    obtain ⟨m, rfl⟩ : ∃ j, m = j + 1 := ⟨m - 1, by omega⟩
    obtain ⟨a', g1, g2, g3⟩ := ih (k + 1) m (upd a (16 * r + k) (a (16 * o + k))) (by omega) (by omega)
    refine ⟨a', ?_, fun j hj => by rw [g2 j (by omega), p2_un (by omega)], fun t t1 t2 => ?_⟩
    · rw [show m + 1 - (u + 1) = m - u by omega, ← g1]
      show f_X9_takes_L2 w (nI r) (nI o) (f_X9_takes_L2w w (nI r) (nI o) m) a (nI k) = _
      unfold f_X9_takes_L2
      rw [show (16 : Int32) = nI 16 from rfl, if_neg (nI_ge (by omega) (by omega)), pk_mul, pk_mul, nI_add, nI_add, p2_gd (p2_ib (by omega) (by decide)), p2_gd (p2_ib (by omega) (by decide)), p2_ix (n := 16 * r + k) (by omega), p2_ix (n := 16 * o + k) (by omega), nI_1]
      rfl
    · by_cases e : t = k
      · subst e
        rw [g2 _ (by omega), p2_us]
      · rw [g3 t (by omega) t2, p2_un (by omega)]
theorem p4_takes {l w : Nat → Int32} {r o v : Nat} (hr : r < 270) (ho : o < 270) (hro : r ≠ o) (h : p4_R l w o v) : ∃ l' w', f_X9_takes l w (nI r) (nI o) = some (l', w') ∧ p4_F l l' w w' r ∧ p4_R l' w' r v := by
  obtain ⟨a', g1, g2, g3⟩ := p4_takesL w r o hr ho hro 16 0 cx_N0 l (by omega) (by unfold cx_N0; omega)
  obtain ⟨h1, n, h2, h3, h4, h5⟩ := h
  refine ⟨a', upd w r (w o), ?_, ⟨fun j hj => g2 j (by omega), fun s hs => p2_un hs⟩, fun k hk => (g3 k (by omega) hk).trans (h1 k hk), n, h2, by rw [p2_us]; exact h3, h4, h5⟩
  unfold f_X9_takes
  refine g1.trans ?_
  rw [show cx_N0 - 16 = 9999999983 + 1 from rfl]
  show f_X9_takes_L2 w (nI r) (nI o) (f_X9_takes_L2w w (nI r) (nI o) 9999999983) a' (nI 16) = _
  unfold f_X9_takes_L2
  rw [if_pos (by decide), p2_gd (p2_ib ho (by decide)), p2_gd (p2_ib hr (by decide)), p2_ix (n := r) (by omega), p2_ix (n := o) (by omega)]
  rfl
/-- what a loop over the digits leaves: n digits and one above -/
theorem p4_pad {n V c : Nat} {o : Nat → Nat} (ho : ∀ k, k < n → o k < 1073741824) (hc : c < 1073741824) (e : p3_vl n o + c * 1073741824 ^ n = V) : (∀ k, k < n → p3_dg V k = o k) ∧ p3_dg V n = c ∧ V < 1073741824 ^ (n + 1) ∧ (c = 0 → V < 1073741824 ^ n) := by
  have h1 := p3_vl_lt n o ho
  have hd : V / 1073741824 ^ n = c := by
    rw [← e, Nat.add_mul_div_right _ _ (p3_Ppos n), Nat.div_eq_of_lt h1, Nat.zero_add]
  have hlt : V < 1073741824 ^ (n + 1) := by
    rw [p3_Ps, ← Nat.div_lt_iff_lt_mul (p3_Ppos n), hd]
    exact hc
  refine ⟨p3_dg_of n o c V ho e, ?_, hlt, fun h0 => ?_⟩
  · show V / 1073741824 ^ n % 1073741824 = c
    rw [hd, Nat.mod_eq_of_lt hc]
  · rw [h0, Nat.zero_mul] at e
    omega
