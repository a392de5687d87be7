/-! SAME, NONEOF, FRIEND, OF: the sums -/
section SM
variable {c0 c1 c2 c3 c4 : Nat → Int32} {z0 z1 z2 z3 z4 sg : Int32} {bk : Nat → Int32} {n0 n1 n2 n3 n4 : Nat}
theorem i_same_sum (bk : Nat → Int32) (n0 n1 n2 n3 n4 : Nat) {a b : Nat} (hn0 : n0 ≤ 5) (ha : a < n2) : p6_sm n0 (fun p => q_J bk n0 n1 n2 n3 n4 a p b p) = p6_ws n0 (fun ω => q_G0 bk n1 n2 n3 n4 ω * k_ct bk n1 n2 1 a b ω) n2 0 q_0 := by
  unfold q_J
  rw [← p6_ws_sm n0 (fun p ω => if ω a = p ∧ ω b = p then q_G0 bk n1 n2 n3 n4 ω else 0) n0 n2 0 q_0]
  refine p6_ws_congr2 n0 _ _ n2 0 q_0 (fun ω' _ hv => ?_)
  show p6_sm n0 (fun p => if ω' a = p ∧ ω' b = p then q_G0 bk n1 n2 n3 n4 ω' else 0) = q_G0 bk n1 n2 n3 n4 ω' * (if ω' a = ω' b ∧ ω' a ≠ 5 then 1 else 0)
  by_cases q : ω' a = ω' b ∧ ω' a ≠ 5
  · have hlt : ω' a < n0 := by rcases hv a (by omega) (by omega) with z | z; exact absurd z q.2; exact z
    rw [if_pos q, Nat.mul_one, p6_sm_single (k := ω' a) hlt (fun i _ hne => if_neg (fun z => hne z.1.symm)), if_pos ⟨rfl, q.1.symm⟩]
  · rw [if_neg q, Nat.mul_zero]
    refine p6_sm_zero (fun i hi => if_neg (fun z => q ⟨z.1.trans z.2.symm, ?_⟩))
    intro h5
    have := z.1
    omega
theorem i_crd_bit (ω : Nat → Nat) (p : Nat) : ∀ k, (p8_crd ω k).testBit p = true ↔ ∃ h, h < k ∧ ω h = p := by
  intro k
  induction k with
  | zero => exact ⟨fun q => by (rw [p8_crd, Nat.zero_testBit] at q; cases q), fun ⟨h, h1, _⟩ => by omega⟩
  | succ k ih =>
    rw [p8_crd, Nat.testBit_or, Bool.or_eq_true, ih, Nat.testBit_two_pow, decide_eq_true_iff]
    constructor
    · rintro (⟨h, h1, h2⟩ | h)
      · exact ⟨h, by omega, h2⟩
      · exact ⟨k, by omega, h⟩
    · rintro ⟨h, h1, h2⟩
      by_cases e : h = k
      · exact Or.inr (by rw [← e]; exact h2)
      · exact Or.inl ⟨h, by omega, h2⟩
theorem i_crd0 (ω : Nat → Nat) (p k : Nat) (hp : p < 5) : p8_crd ω k % 32 / 2 ^ p % 2 = 0 ↔ ¬ ∃ h, h < k ∧ ω h = p := by
  rw [← i_crd_bit ω p k]
  have e : (p8_crd ω k % 32).testBit p = (p8_crd ω k).testBit p := by
    rw [show (32 : Nat) = 2 ^ 5 from rfl, Nat.testBit_mod_two_pow, decide_eq_true hp, Bool.true_and]
  rw [← e, Nat.testBit_eq_decide_div_mod_eq, decide_eq_true_iff]
  omega
theorem i_none_sum (bk : Nat → Int32) (n0 n1 n2 n3 n4 : Nat) {p : Nat} (hp : p < 5) : p6_sm 32 (fun c => if c / 2 ^ p % 2 = 0 then q_C bk n0 n1 n2 n3 n4 c else 0) = p6_ws n0 (fun ω => q_G0 bk n1 n2 n3 n4 ω * k_ct bk n1 n2 2 p 0 ω) n2 0 q_0 := by
  have e1 : ∀ c, (if c / 2 ^ p % 2 = 0 then q_C bk n0 n1 n2 n3 n4 c else 0) = p6_ws n0 (fun ω => if c / 2 ^ p % 2 = 0 ∧ p8_crd ω n2 % 32 = c then q_G0 bk n1 n2 n3 n4 ω else 0) n2 0 q_0 := fun c => by
    by_cases q : c / 2 ^ p % 2 = 0
    · rw [if_pos q]
      refine p6_ws_congr2 n0 _ _ n2 0 q_0 (fun ω' _ _ => ?_)
      show (if p8_crd ω' n2 % 32 = c then q_G0 bk n1 n2 n3 n4 ω' else 0) = (if c / 2 ^ p % 2 = 0 ∧ p8_crd ω' n2 % 32 = c then q_G0 bk n1 n2 n3 n4 ω' else 0)
      by_cases z : p8_crd ω' n2 % 32 = c
      · rw [if_pos z, if_pos ⟨q, z⟩]
      · rw [if_neg z, if_neg (fun y => z y.2)]
    · rw [if_neg q]
      exact (p6_ws_zero n0 _ n2 0 q_0 (fun ω' _ => if_neg (fun y => q y.1))).symm
  rw [p6_sm_congr (fun c _ => e1 c), ← p6_ws_sm n0 (fun c ω => if c / 2 ^ p % 2 = 0 ∧ p8_crd ω n2 % 32 = c then q_G0 bk n1 n2 n3 n4 ω else 0) 32 n2 0 q_0]
  refine p6_ws_congr2 n0 _ _ n2 0 q_0 (fun ω' _ _ => ?_)
  show p6_sm 32 (fun c => if c / 2 ^ p % 2 = 0 ∧ p8_crd ω' n2 % 32 = c then q_G0 bk n1 n2 n3 n4 ω' else 0) = q_G0 bk n1 n2 n3 n4 ω' * (if (∃ h, h < n2 ∧ ω' h = p) then 0 else 1)
  rw [p6_sm_single (k := p8_crd ω' n2 % 32) (Nat.mod_lt _ (by decide)) (fun i _ hne => if_neg (fun z => hne z.2.symm))]
  by_cases q : ∃ h, h < n2 ∧ ω' h = p
  · rw [if_pos q, Nat.mul_zero, if_neg (fun z => (i_crd0 ω' p n2 hp).mp z.1 q)]
  · rw [if_neg q, Nat.mul_one, if_pos ⟨(i_crd0 ω' p n2 hp).mpr q, rfl⟩]
theorem i_bs_sum (bk : Nat → Int32) (n0 n1 n2 n3 n4 : Nat) {hd p : Nat} (hp : p < 5) : q_bs bk n0 n1 n2 n3 n4 hd p n2 = p6_ws n0 (fun ω => q_G0 bk n1 n2 n3 n4 ω * (if ω hd = 5 ∧ p8_tb (k_hp bk) ω (k_hp bk hd) p n2 = true then 1 else 0)) n2 0 q_0 := by
  unfold q_bs q_J
  have e1 : ∀ e, (if e ≠ hd ∧ k_hp bk e = k_hp bk hd then p6_ws n0 (fun ω => if ω hd = 5 ∧ ω e = p then q_G0 bk n1 n2 n3 n4 ω else 0) n2 0 q_0 else 0) = p6_ws n0 (fun ω => if (e ≠ hd ∧ k_hp bk e = k_hp bk hd) ∧ ω hd = 5 ∧ ω e = p then q_G0 bk n1 n2 n3 n4 ω else 0) n2 0 q_0 := fun e => by
    by_cases q : e ≠ hd ∧ k_hp bk e = k_hp bk hd
    · rw [if_pos q]
      refine p6_ws_congr2 n0 _ _ n2 0 q_0 (fun ω' _ _ => ?_)
      show (if ω' hd = 5 ∧ ω' e = p then q_G0 bk n1 n2 n3 n4 ω' else 0) = (if (e ≠ hd ∧ k_hp bk e = k_hp bk hd) ∧ ω' hd = 5 ∧ ω' e = p then q_G0 bk n1 n2 n3 n4 ω' else 0)
      by_cases z : ω' hd = 5 ∧ ω' e = p
      · rw [if_pos z, if_pos ⟨q, z⟩]
      · rw [if_neg z, if_neg (fun y => z y.2)]
    · rw [if_neg q]
      exact (p6_ws_zero n0 _ n2 0 q_0 (fun ω' _ => if_neg (fun y => q y.1))).symm
  rw [p6_sm_congr (fun e _ => e1 e), ← p6_ws_sm n0 (fun e ω => if (e ≠ hd ∧ k_hp bk e = k_hp bk hd) ∧ ω hd = 5 ∧ ω e = p then q_G0 bk n1 n2 n3 n4 ω else 0) n2 n2 0 q_0]
  refine p6_ws_congr2 n0 _ _ n2 0 q_0 (fun ω' _ _ => ?_)
  show p6_sm n2 (fun e => if (e ≠ hd ∧ k_hp bk e = k_hp bk hd) ∧ ω' hd = 5 ∧ ω' e = p then q_G0 bk n1 n2 n3 n4 ω' else 0) = q_G0 bk n1 n2 n3 n4 ω' * (if ω' hd = 5 ∧ p8_tb (k_hp bk) ω' (k_hp bk hd) p n2 = true then 1 else 0)
  by_cases g0 : q_G0 bk n1 n2 n3 n4 ω' = 0
  · rw [g0, Nat.zero_mul]
    exact p6_sm_zero (fun i _ => by split <;> rfl)
  · have htw : ¬ p6_tw (k_hp bk) ω' n2 := fun z => g0 (if_pos ((p8_twb_iff (k_hp bk) ω' n2).mpr z))
    by_cases q : ω' hd = 5 ∧ p8_tb (k_hp bk) ω' (k_hp bk hd) p n2 = true
    · obtain ⟨e0, a1, a2, a3⟩ := (p8_tb_iff (k_hp bk) ω' (k_hp bk hd) p n2).mp q.2
      rw [if_pos q, Nat.mul_one, p6_sm_single (k := e0) a1 (fun i hi hne => if_neg (fun z => htw ?_)), if_pos ⟨⟨fun z => by rw [z, q.1] at a3; omega, a2⟩, q.1, a3⟩]
      rcases Nat.lt_or_gt_of_ne hne with lt | lt
      · exact ⟨e0, i, a1, lt, by rw [a3, z.2.2], by omega, by rw [a2, z.1.2]⟩
      · exact ⟨i, e0, hi, lt, by rw [a3, z.2.2], by have := z.2.2; omega, by rw [a2, z.1.2]⟩
    · rw [if_neg q, Nat.mul_zero]
      exact p6_sm_zero (fun i hi => if_neg (fun z => q ⟨z.2.1, (p8_tb_iff (k_hp bk) ω' (k_hp bk hd) p n2).mpr ⟨i, hi, z.1.2, z.2.2⟩⟩))
theorem i_friend_sum (bk : Nat → Int32) (n0 n1 n2 n3 n4 : Nat) {p : Nat} (hp : p < 5) : p6_sm n2 (fun h => q_bs bk n0 n1 n2 n3 n4 h p n2) = p6_ws n0 (fun ω => q_G0 bk n1 n2 n3 n4 ω * k_ct bk n1 n2 3 p 0 ω) n2 0 q_0 := by
  rw [p6_sm_congr (fun h _ => i_bs_sum bk n0 n1 n2 n3 n4 (hd := h) hp), ← p6_ws_sm n0 (fun h ω => q_G0 bk n1 n2 n3 n4 ω * (if ω h = 5 ∧ p8_tb (k_hp bk) ω (k_hp bk h) p n2 = true then 1 else 0)) n2 n2 0 q_0]
  refine p6_ws_congr2 n0 _ _ n2 0 q_0 (fun ω' _ _ => ?_)
  exact p6_sm_mul (q_G0 bk n1 n2 n3 n4 ω') (fun h => if ω' h = 5 ∧ p8_tb (k_hp bk) ω' (k_hp bk h) p n2 = true then 1 else 0) n2
theorem i_shr5 : ∀ p, p < 5 → ((nI p &&& 31).toBitVec.smod 32).toNat = p := by
  intro p hp
  rcases (show p = 0 ∨ p = 1 ∨ p = 2 ∨ p = 3 ∨ p = 4 by omega) with rfl | rfl | rfl | rfl | rfl <;> decide
theorem i_crowds {cr : Nat → Int64} {C : Nat → Nat} (an : Nat → Int64) {p : Nat} (hp : p < 5) (hC : p8_C1 cr C 4503599627370496) (han : p3_U an 0 0 0) : ∃ an', f_X5_addCrowdsWithout cr an (nI p) = some an' ∧ p3_U an' 0 (p6_sm 32 (fun c => if c / 2 ^ p % 2 = 0 then C c else 0)) 144115188075855872 := by
  have loop : ∀ (r c m : Nat) (a : Nat → Int64), c + r = 32 → r < m → p3_U a 0 (p6_sm c (fun c => if c / 2 ^ p % 2 = 0 then C c else 0)) (c * 4503599627370496) → ∃ an', f_X5_addCrowdsWithout_L2w cr (nI p) m a (nI c) = some an' ∧ p3_U an' 0 (p6_sm 32 (fun c => if c / 2 ^ p % 2 = 0 then C c else 0)) 144115188075855872 := by
    intro r
    induction r with
    | zero =>
      intro c m a h1 h2 h3
      obtain ⟨m, rfl⟩ : ∃ j, m = j + 1 := ⟨m - 1, by omega⟩
      obtain rfl : c = 32 := by omega
      refine ⟨a, ?_, h3⟩
      show f_X5_addCrowdsWithout_L2 cr (nI p) (f_X5_addCrowdsWithout_L2w cr (nI p) m) a _ = _
      unfold f_X5_addCrowdsWithout_L2
      rw [if_pos (by decide)]
    | succ r ih =>
      intro c m a h1 h2 h3
      obtain ⟨m, rfl⟩ : ∃ j, m = j + 1 := ⟨m - 1, by omega⟩
      show ∃ an', f_X5_addCrowdsWithout_L2 cr (nI p) (f_X5_addCrowdsWithout_L2w cr (nI p) m) a (nI c) = _ ∧ _
      unfold f_X5_addCrowdsWithout_L2 f_X5_addCrowdsWithout_J29
      have hd : c / 2 ^ p ≤ c := Nat.div_le_self c _
      rw [if_neg (show ¬ (32 : Int32) ≤ nI c from nI_ge (b := 32) (by omega) (by omega)), pk_shrN (by omega) _ p (i_shr5 p hp), pk_andN (m := 1) (by omega) 1 (by decide), nI_1, show (2 : Nat) ^ 1 = 2 from rfl]
      by_cases q : c / 2 ^ p % 2 = 0
      · obtain ⟨a1, b1, b2, b3⟩ := p3_add (n := 4) (i := 0) (n' := 128) (j := c) (by decide) (by decide) (by omega) (by decide) h3 (hC c (by omega))
        rw [if_pos (by rw [q]; rfl), show f_X3_add 4 a 0 128 cr (nI c) = _ from b1, Option.bind_some]
        exact ih (c + 1) m a1 (by omega) (by omega) (by rw [p6_sm, if_pos q, Nat.succ_mul]; exact b3)
      · rw [if_neg (fun z => q ((p4_i0 (by omega)).mp z))]
        exact ih (c + 1) m a (by omega) (by omega) (by rw [p6_sm, if_neg q, Nat.add_zero, Nat.succ_mul]; exact h3.mono (by omega))
  unfold f_X5_addCrowdsWithout
  exact loop 32 0 cx_N0 an (by omega) (by unfold cx_N0; omega) (by rw [Nat.zero_mul]; exact han)
end SM
