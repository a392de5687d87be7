/-! THE BOOK IN NAT -/
theorem p7_ix {x : Int32} (h : 0 ≤ x.toInt) : x = nI (cx_ix x) ∧ ((cx_ix x : Nat) : Int) = x.toInt := by
  obtain ⟨j, hj, e⟩ := nI_of (x := x) (fun q => by have := p2_lt.mp q; have e : (0 : Int32).toInt = 0 := rfl; omega)
  rw [e, p2_ix hj, nI_toInt hj]
  exact ⟨rfl, rfl⟩
theorem p7_le {x : Int32} {a : Nat} (h : 0 ≤ x.toInt) (h2 : x.toInt ≤ (a : Int)) : cx_ix x ≤ a := by
  have := (p7_ix h).2
  omega
theorem p7_nI {n : Nat} (h : n < 2 ^ 31) : cx_ix (nI n) = n := p2_ix h
def k_hp (bk : Nat → Int32) (h : Nat) : Nat := cx_ix (bk (50 + 5 * h + 0))
def k_fr (bk : Nat → Int32) (p : Nat) : Nat := cx_ix (bk (40 + 2 * p + 0))
def k_to (bk : Nat → Int32) (p : Nat) : Nat := cx_ix (bk (40 + 2 * p + 1))
def k_lk (bk : Nat → Int32) (h w y : Nat) : Nat := cx_ix (p2_lk bk h (nI w) (nI y))
def k_tr (bk : Nat → Int32) (n : Nat) : Nat := cx_ix (p2_tr bk n)
def k_nk (bk : Nat → Int32) (n : Nat) : Nat := cx_ix (bk (80 + 4 * n + 0))
def k_nh (bk : Nat → Int32) (n : Nat) : Nat := cx_ix (bk (80 + 4 * n + 1))
def k_np (bk : Nat → Int32) (n : Nat) : Nat := cx_ix (bk (80 + 4 * n + 2))
def k_nq (bk : Nat → Int32) (n : Nat) : Nat := cx_ix (bk (80 + 4 * n + 3))
def k_so (bk : Nat → Int32) (n w : Nat) : Bool := if k_nk bk n = 4 then decide (w = 5) else (decide (w = k_np bk n) || (decide (k_nk bk n = 3) && decide (w = k_nq bk n)))
def k_nf (bk : Nat → Int32) (sk n w : Nat) : Nat := if n = sk then 1 else if k_so bk n w = true then k_tr bk n else 10 - k_tr bk n
def k_ja (bk : Nat → Int32) (j : Nat) : Nat := cx_ix (bk (100 + 3 * j + 0))
def k_jb (bk : Nat → Int32) (j : Nat) : Nat := cx_ix (bk (100 + 3 * j + 1))
def k_jw (bk : Nat → Int32) (j : Nat) : Nat := cx_ix (bk (100 + 3 * j + 2))
/-- who a head may be, in Nat -/
def k_w (n0 w : Nat) : Prop := w = 5 ∨ w < n0
section KB
variable {bk : Nat → Int32} {n0 n1 n2 n3 n4 : Nat}
theorem k_w_who {w : Nat} (hn : n0 ≤ 5) (h : k_w n0 w) : p2_who n0 (nI w) := by
  rcases h with h | h
  · left; rw [h]; rfl
  · right; exact ⟨w, h, rfl⟩
theorem k_w_lt {w : Nat} (hn : n0 ≤ 5) (h : k_w n0 w) : w < 6 := by
  rcases h with h | h <;> omega
theorem p6_who_w (n0 i : Nat) : k_w n0 (p6_who n0 i) := by
  unfold p6_who k_w
  by_cases h : i < n0
  · rw [if_pos h]; exact Or.inr h
  · rw [if_neg h]; exact Or.inl rfl
theorem k_5 {w : Nat} (h : w < 6) : nI w = 5 ↔ w = 5 := nI_eq (b := 5) (by omega) (by decide)
theorem k_hp_spec {h : Nat} (hV : p2_V2 bk n1 h) : bk (50 + 5 * h + 0) = nI (k_hp bk h) ∧ k_hp bk h < n1 := by
  have := p7_ix hV.1.1
  have h2 := hV.1.2
  refine ⟨this.1, ?_⟩
  unfold k_hp
  omega
theorem k_pic_spec {p : Nat} (hV : p2_V1 bk p) : bk (40 + 2 * p + 0) = nI (k_fr bk p) ∧ bk (40 + 2 * p + 1) = nI (k_to bk p) ∧ k_fr bk p ≤ k_to bk p ∧ k_to bk p ≤ 99 ∧ k_to bk p ≤ k_fr bk p + 11 := by
  obtain ⟨a, b, c⟩ := hV
  have e1 := p7_ix a.1
  have e2 := p7_ix (x := bk (40 + 2 * p + 1)) (by have := a.1; have := b.1; omega)
  have b1 := b.1
  have b2 := b.2
  unfold k_fr k_to
  exact ⟨e1.1, e2.1, by omega, by omega, by omega⟩
theorem k_name_spec {n : Nat} (hV : p2_V3 bk n0 n2 n) : bk (80 + 4 * n + 0) = nI (k_nk bk n) ∧ k_nk bk n ≤ 5 ∧ bk (80 + 4 * n + 1) = nI (k_nh bk n) ∧ k_nh bk n < n2 ∧ bk (80 + 4 * n + 2) = nI (k_np bk n) ∧ k_np bk n < n0 ∧ bk (80 + 4 * n + 3) = nI (k_nq bk n) ∧ k_nq bk n < n0 := by
  obtain ⟨a, b, c, d⟩ := hV
  have e1 := p7_ix a.1
  have e2 := p7_ix b.1
  have e3 := p7_ix c.1
  have e4 := p7_ix d.1
  have a2 := a.2
  have b2 := b.2
  have c2 := c.2
  have d2 := d.2
  unfold k_nk k_nh k_np k_nq
  exact ⟨e1.1, by omega, e2.1, by omega, e3.1, by omega, e4.1, by omega⟩
theorem k_join_spec {j : Nat} (hn : n2 ≤ 6) (hV : p2_V4 bk n2 j) : bk (100 + 3 * j + 0) = nI (k_ja bk j) ∧ k_ja bk j < n2 ∧ bk (100 + 3 * j + 1) = nI (k_jb bk j) ∧ k_jb bk j < n2 ∧ bk (100 + 3 * j + 2) = nI (k_jw bk j) ∧ k_jw bk j ≤ 10 ∧ k_ja bk j ≠ k_jb bk j := by
  obtain ⟨a, x, y, hx, hy, e1, e2, hne⟩ := hV
  have e3 := p7_ix a.1
  have a2 := a.2
  have f1 : k_ja bk j = x := by unfold k_ja; rw [e1]; exact p7_nI (by omega)
  have f2 : k_jb bk j = y := by unfold k_jb; rw [e2]; exact p7_nI (by omega)
  refine ⟨by rw [f1]; exact e1, by omega, by rw [f2]; exact e2, by omega, e3.1, by unfold k_jw; omega, fun q => hne ?_⟩
  rw [show x = y by omega]
/-- a mark's factor is 1 .. 3, a stranger's 2 -/
theorem k_mf (h : Nat) (w : Int32) (m : Nat) : ∃ f : Nat, f ≤ 3 ∧ p2_mf bk h w m = nI f ∧ (w = 5 → f = 2) := by
  unfold p2_mf
  by_cases h5 : w = 5
  · simp only [if_pos h5]
    exact ⟨2, by decide, rfl, fun _ => rfl⟩
  · simp only [if_neg h5]
    split
    · exact ⟨2, by decide, rfl, fun _ => rfl⟩
    · split
      · exact ⟨3, by decide, rfl, fun q => absurd q h5⟩
      · exact ⟨1, by decide, rfl, fun q => absurd q h5⟩
theorem k_mp (h : Nat) (w : Int32) : ∀ (k m a : Nat), ∃ v : Nat, p2_mp bk h w k m (nI a) = nI v ∧ v ≤ a * 3 ^ k ∧ (w = 5 → v ≤ a * 2 ^ k) := by
  intro k
  induction k with
  | zero => intro m a; exact ⟨a, rfl, by omega, fun _ => by omega⟩
  | succ k ih =>
    intro m a
    rw [p2_mp]
    obtain ⟨b, hb, hb1, hb2⟩ : ∃ b : Nat, p2_ms bk h w m (nI a) = nI b ∧ b ≤ a * 3 ∧ (w = 5 → b ≤ a * 2) := by
      unfold p2_ms
      split
      · obtain ⟨f, f1, f2, f3⟩ := k_mf (bk := bk) h w m
        rw [f2, pk_mul]
        exact ⟨a * f, rfl, Nat.mul_le_mul_left a f1, fun q => Nat.mul_le_mul_left a (by have := f3 q; omega)⟩
      · exact ⟨a, rfl, by omega, fun _ => by omega⟩
    rw [hb]
    obtain ⟨v, v1, v2, v3⟩ := ih (m + 1) b
    refine ⟨v, v1, ?_, fun q => ?_⟩
    · have := Nat.mul_le_mul_right (3 ^ k) hb1
      rw [Nat.pow_succ, Nat.mul_comm (3 ^ k), ← Nat.mul_assoc]
      omega
    · have := Nat.mul_le_mul_right (2 ^ k) (hb2 q)
      have := v3 q
      rw [Nat.pow_succ, Nat.mul_comm (2 ^ k), ← Nat.mul_assoc]
      omega
theorem k_ag (h r : Nat) (y : Int32) : ∃ f : Nat, f ≤ 4 ∧ p2_ag bk h r y = nI f := by
  unfold p2_ag
  split
  · exact ⟨0, by decide, rfl⟩
  · split
    · split
      · exact ⟨4, by decide, rfl⟩
      · split
        · exact ⟨2, by decide, rfl⟩
        · exact ⟨1, by decide, rfl⟩
    · exact ⟨0, by decide, rfl⟩
theorem k_lk_spec (hV : p2_e bk 5 0 9) (h w y : Nat) (hw : w < 6) : p2_lk bk h (nI w) (nI y) = nI (k_lk bk h w y) ∧ k_lk bk h w y ≤ 324 := by
  have key : ∃ v : Nat, p2_lk bk h (nI w) (nI y) = nI v ∧ v ≤ 324 := by
    unfold p2_lk
    by_cases h5 : nI w = 5
    · rw [if_pos h5]
      have e := p7_ix hV.1
      rw [e.1, show (2 : Int32) = nI 2 from rfl, pk_mul]
      obtain ⟨v, v1, _, v3⟩ := k_mp (bk := bk) h 5 4 0 (2 * cx_ix (bk 5))
      refine ⟨v, v1, ?_⟩
      have := v3 rfl
      have := hV.2
      omega
    · rw [if_neg h5]
      obtain ⟨v, v1, v2, _⟩ := k_mp (bk := bk) h (nI w) 4 0 1
      obtain ⟨f, f1, f2⟩ := k_ag (bk := bk) h (cx_ix (nI w)) (nI y)
      rw [show (1 : Int32) = nI 1 from rfl, v1, f2, pk_mul]
      refine ⟨v * f, rfl, ?_⟩
      have := Nat.mul_le_mul v2 f1
      omega
  obtain ⟨v, v1, v2⟩ := key
  have e : k_lk bk h w y = v := by unfold k_lk; rw [v1]; exact p7_nI (by omega)
  rw [e]
  exact ⟨v1, v2⟩
theorem k_tr_spec {n : Nat} (hn0 : n0 ≤ 5) (hV0 : ∀ p, p < n0 → p2_V0 bk p) (hV : p2_V3 bk n0 n2 n) : p2_tr bk n = nI (k_tr bk n) ∧ k_tr bk n ≤ 10 := by
  obtain ⟨_, _, _, _, e3, e4, _, _⟩ := k_name_spec hV
  have hv := (hV0 _ e4).2.2.2.2.2
  have e5 := p7_ix hv.1
  have hv2 := hv.2
  have hv1 := hv.1
  have en : cx_ix (bk (80 + 4 * n + 2)) = k_np bk n := rfl
  have key : ∃ v : Nat, p2_tr bk n = nI v ∧ v ≤ 10 := by
    unfold p2_tr
    rw [en]
    split
    · exact ⟨6, rfl, by decide⟩
    · split
      · exact ⟨10, rfl, by decide⟩
      · split
        · exact ⟨10, rfl, by decide⟩
        · split
          · rw [e5.1, show (5 : Int32) = nI 5 from rfl, nI_add, show (2 : Int32) = nI 2 from rfl, pk_sub (by omega)]
            exact ⟨_, rfl, by omega⟩
          · rw [e5.1, show (5 : Int32) = nI 5 from rfl, nI_add]
            exact ⟨_, rfl, by omega⟩
  obtain ⟨v, v1, v2⟩ := key
  have e : k_tr bk n = v := by unfold k_tr; rw [v1]; exact p7_nI (by omega)
  rw [e]
  exact ⟨v1, v2⟩
theorem k_nf_le {sk n w : Nat} (h : k_tr bk n ≤ 10) : k_nf bk sk n w ≤ 10 := by
  unfold k_nf
  split
  · decide
  · split <;> omega
theorem k_so_iff {n w : Nat} : k_so bk n w = true ↔ (k_nk bk n = 4 ∧ w = 5) ∨ (k_nk bk n ≠ 4 ∧ (w = k_np bk n ∨ (k_nk bk n = 3 ∧ w = k_nq bk n))) := by
  unfold k_so
  by_cases h : k_nk bk n = 4
  · rw [if_pos h]
    simp [h]
  · rw [if_neg h]
    simp [h]
end KB
section KC
variable {c0 c1 c2 c3 c4 : Nat → Int32} {z0 z1 z2 z3 z4 sg : Int32} {bk : Nat → Int32} {n0 n1 n2 n3 n4 : Nat}
theorem p2_atQ (hr1 : p2_rr 2 4 40 1 n1 c1 z1 bk) (i t : Nat) (hi : i < n1) (ht : t < 2) : f_X4_at 2 8 c1 z1 (nI i) (nI t) = some (bk (40 + 2 * i + t)) := by
  obtain ⟨hn0, hz0, hb0, hc0⟩ := hr1
  rw [hz0, show f_X4_at 2 8 c1 (nI n1) (nI i) (nI t) = _ from p2_at (w := 2) (n := 8) (z := n1) (r := i) (c := t) c1 hi ht (by omega) (by decide) (by omega) (by decide), hc0 _ (by omega), show 40 + (i * 2 + t) = 40 + 2 * i + t by omega]
theorem p2_atJ (hr4 : p2_rr 3 4 100 4 n4 c4 z4 bk) (i t : Nat) (hi : i < n4) (ht : t < 3) : f_X4_at 3 12 c4 z4 (nI i) (nI t) = some (bk (100 + 3 * i + t)) := by
  obtain ⟨hn0, hz0, hb0, hc0⟩ := hr4
  rw [hz0, show f_X4_at 3 12 c4 (nI n4) (nI i) (nI t) = _ from p2_at (w := 3) (n := 12) (z := n4) (r := i) (c := t) c4 hi ht (by omega) (by decide) (by omega) (by decide), hc0 _ (by omega), show 100 + (i * 3 + t) = 100 + 3 * i + t by omega]
theorem k_isSo (hr3 : p2_rr 4 4 80 3 n3 c3 z3 bk) (n w : Nat) (hn : n < n3) (hn0 : n0 ≤ 5) (hV : p2_V3 bk n0 n2 n) (hn2 : n2 ≤ 6) (hw : w < 6) : f_X1_isSo c3 z3 (nI n) (nI w) = some (p2_b (k_so bk n w = true)) := by
  obtain ⟨a1, a2, _, _, a5, a6, a7, a8⟩ := k_name_spec hV
  have p0 : f_X4_at 4 16 c3 z3 (nI n) 0 = some (nI (k_nk bk n)) := by rw [← a1]; exact p2_atN hr3 n 0 hn (by decide)
  have p2 : f_X4_at 4 16 c3 z3 (nI n) 2 = some (nI (k_np bk n)) := by rw [← a5]; exact p2_atN hr3 n 2 hn (by decide)
  have p3 : f_X4_at 4 16 c3 z3 (nI n) 3 = some (nI (k_nq bk n)) := by rw [← a7]; exact p2_atN hr3 n 3 hn (by decide)
  have q3 : nI (k_nk bk n) = 3 ↔ k_nk bk n = 3 := nI_eq (b := 3) (by omega) (by decide)
  have q4 : nI (k_nk bk n) = 4 ↔ k_nk bk n = 4 := nI_eq (b := 4) (by omega) (by decide)
  have qp : nI w = nI (k_np bk n) ↔ w = k_np bk n := nI_eq (by omega) (by omega)
  have qq : nI w = nI (k_nq bk n) ↔ w = k_nq bk n := nI_eq (by omega) (by omega)
  have q5 := k_5 hw
  unfold f_X1_isSo f_X1_isSo_J62
  rw [p0, Option.bind_some, p2, Option.bind_some, p3, Option.bind_some, Option.bind_some]
  simp only [q3, q4, qp, qq, q5]
  have hs := k_so_iff (bk := bk) (n := n) (w := w)
  by_cases e3 : k_nk bk n = 3
  · rw [if_pos e3]
    by_cases ep : w = k_np bk n
    · rw [if_pos ep, p2_b, if_pos (hs.mpr (Or.inr ⟨by omega, Or.inl ep⟩))]
    · rw [if_neg ep]
      by_cases eq : w = k_nq bk n
      · rw [if_pos eq, p2_b, if_pos (hs.mpr (Or.inr ⟨by omega, Or.inr ⟨e3, eq⟩⟩))]
      · rw [if_neg eq, p2_b, if_neg (fun z => by rcases hs.mp z with ⟨z1, _⟩ | ⟨_, z1 | ⟨_, z1⟩⟩; omega; exact ep z1; exact eq z1)]
  · rw [if_neg e3]
    by_cases e4 : k_nk bk n = 4
    · rw [if_pos e4]
      by_cases e5 : w = 5
      · rw [if_pos e5, p2_b, if_pos (hs.mpr (Or.inl ⟨e4, e5⟩))]
      · rw [if_neg e5, p2_b, if_neg (fun z => by rcases hs.mp z with ⟨_, z1⟩ | ⟨z1, _⟩; exact e5 z1; exact z1 e4)]
    · rw [if_neg e4]
      by_cases ep : w = k_np bk n
      · rw [if_pos ep, p2_b, if_pos (hs.mpr (Or.inr ⟨e4, Or.inl ep⟩))]
      · rw [if_neg ep, p2_b, if_neg (fun z => by rcases hs.mp z with ⟨z1, _⟩ | ⟨_, z1 | ⟨z1, _⟩⟩; exact e4 z1; exact ep z1; exact e3 z1)]
theorem k_whoAt {i n0 : Nat} (hn : n0 ≤ 5) (hi : i ≤ n0) : f_X8_whoAt (nI i) (nI n0) = some (nI (p6_who n0 i)) := by
  unfold f_X8_whoAt p6_who
  by_cases h : i < n0
  · rw [if_neg (nI_ge h (by omega)), if_pos h]
  · rw [if_pos (nI_le (by omega) (by omega)), if_neg h]
    rfl
end KC
