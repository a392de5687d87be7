/-! JOINTS: two heads at once -/
def q_J (bk : Nat → Int32) (n0 n1 n2 n3 n4 a x b y : Nat) : Nat := p6_ws n0 (fun ω => if ω a = x ∧ ω b = y then q_G0 bk n1 n2 n3 n4 ω else 0) n2 0 q_0
theorem i_J_le (bk : Nat → Int32) (n0 n1 n2 n3 n4 a x b y : Nat) : q_J bk n0 n1 n2 n3 n4 a x b y ≤ q_A bk n0 n1 n2 n3 n4 :=
  p6_ws_mono n0 _ _ n2 0 q_0 (fun ω' => by show (if ω' a = x ∧ ω' b = y then q_G0 bk n1 n2 n3 n4 ω' else 0) ≤ q_G0 bk n1 n2 n3 n4 ω'; split; exact Nat.le_refl _; exact Nat.zero_le _)
theorem i_C_le (bk : Nat → Int32) (n0 n1 n2 n3 n4 c : Nat) : q_C bk n0 n1 n2 n3 n4 c ≤ q_A bk n0 n1 n2 n3 n4 :=
  p6_ws_mono n0 _ _ n2 0 q_0 (fun ω' => by show (if p8_crd ω' n2 % 32 = c then q_G0 bk n1 n2 n3 n4 ω' else 0) ≤ q_G0 bk n1 n2 n3 n4 ω'; split; exact Nat.le_refl _; exact Nat.zero_le _)
section JO
variable {c0 c1 c2 c3 c4 : Nat → Int32} {z0 z1 z2 z3 z4 sg : Int32} {bk : Nat → Int32} {n0 n1 n2 n3 n4 : Nat}
variable {sh pa : Nat → Int64}
theorem i_pairAt (a x b y : Nat) : f_X5_pairAt (nI a) (nI x) (nI b) (nI y) = some (nI (((a * 6 + x) * 6 + b) * 6 + y)) := by
  unfold f_X5_pairAt
  rw [i_rgc, i_rgc, i_rgc]
theorem i_putJ (mi : Nat → Int64) {a x b y : Nat} (hn2 : n2 ≤ 6) (ha : a < n2) (hb : b < n2) (hx : x < 6) (hy : y < 6) (hA : q_A bk n0 n1 n2 n3 n4 ≤ 111918671858621262436761600000000) (hSh : ∀ k x, k < n2 → x < 6 → p3_N sh (k * 6 + x) (q_S bk n0 n1 n2 n3 n4 k x)) (hPa : p8_P4 pa (q_Q bk n0 n1 n2 n3 n4) 4503599627370496) : ∃ mi', f_X5_putJoint 5184 sh pa 4 mi 0 (nI a) (nI x) (nI b) (nI y) = some mi' ∧ p3_N mi' 0 (q_J bk n0 n1 n2 n3 n4 a x b y) := by
  have copyC : ∀ (e v k w : Nat), e < 6 → v < 6 → k < 6 → w < 6 → q_Q bk n0 n1 n2 n3 n4 e v k w = q_J bk n0 n1 n2 n3 n4 a x b y → nI a ≠ nI b → ∃ mi', f_X5_putJoint_J29 5184 sh pa 4 mi 0 (nI a) (nI x) (nI b) (nI y) (nI (((e * 6 + v) * 6 + k) * 6 + w)) = some mi' ∧ p3_N mi' 0 (q_J bk n0 n1 n2 n3 n4 a x b y) := by
    intro e v k w h1 h2 h3 h4 hq hne
    have hU := hPa e v k w h1 h2 h3 h4
    rw [hq] at hU
    have hlt := i_J_le bk n0 n1 n2 n3 n4 a x b y
    obtain ⟨m1, a1, a2, a3⟩ := p3_copyU (n := 4) (i := 0) (n' := 5184) (j := ((e * 6 + v) * 6 + k) * 6 + w) mi (by decide) (by decide) (by omega) (by decide) hU
    obtain ⟨m2, c1, c2, c3⟩ := p3_carry (n := 4) (i := 0) (by decide) (by decide) a3 (by decide) (i_P4_lt (by omega))
    refine ⟨m2, ?_, c3⟩
    unfold f_X5_putJoint_J29 f_X5_putJoint_J63
    rw [if_neg hne, if_neg hne, show (4 : Int32) = nI 4 from rfl, pk_mul, if_neg (show ¬ Int32.ofNat 5184 ≤ nI ((((e * 6 + v) * 6 + k) * 6 + w) * 4) from nI_ge (b := 5184) (by omega) (by omega)), show f_X3_copy 4 mi 0 5184 pa (nI (((e * 6 + v) * 6 + k) * 6 + w)) = _ from a1, Option.bind_some, show f_X3_carry 4 m1 0 = _ from c1, Option.bind_some]
  unfold f_X5_putJoint
  rw [i_pairAt, i_pairAt, Option.bind_some, Option.bind_some]
  by_cases e : a = b
  · subst e
    rw [if_pos (nI_le (Nat.le_refl _) (by omega))]
    unfold f_X5_putJoint_J29 f_X5_putJoint_J63 f_X5_putJoint_J100
    rw [if_pos rfl, if_pos rfl]
    by_cases exy : x = y
    · subst exy
      obtain ⟨m1, a1, a2, a3⟩ := p3_copy (n := 4) (i := 0) (n' := 144) (j := a * 6 + x) mi (by decide) (by decide) (by omega) (by decide) (hSh a x ha hx)
      have hq : q_J bk n0 n1 n2 n3 n4 a x a x = q_S bk n0 n1 n2 n3 n4 a x := p6_ws_congr2 n0 _ _ n2 0 q_0 (fun ω' _ _ => by
        show (if ω' a = x ∧ ω' a = x then _ else 0) = (if ω' a = x then _ else 0)
        by_cases q : ω' a = x
        · rw [if_pos q, if_pos ⟨q, q⟩]
        · rw [if_neg q, if_neg (fun z => q z.1)])
      rw [if_pos rfl, i_rgc, show f_X3_copy 4 mi 0 144 sh (nI (a * 6 + x)) = _ from a1, Option.bind_some, hq]
      exact ⟨m1, rfl, a3⟩
    · obtain ⟨m1, a1, a2, a3⟩ := p3_zero (n := 4) (i := 0) mi (by decide) (by decide)
      have hq : q_J bk n0 n1 n2 n3 n4 a x a y = 0 := by
        unfold q_J
        rw [p6_ws_congr2 n0 _ (fun _ => 0) n2 0 q_0 (fun ω' _ _ => show (if ω' a = x ∧ ω' a = y then q_G0 bk n1 n2 n3 n4 ω' else 0) = 0 from if_neg (fun z => exy (z.1.symm.trans z.2)))]
        exact p6_ws_zero n0 (fun _ => 0) n2 0 q_0 (fun _ _ => rfl)
      rw [if_neg (fun z => exy ((nI_eq (by omega) (by omega)).mp z)), show f_X3_zero 4 mi 0 = _ from a1, Option.bind_some, hq]
      exact ⟨m1, rfl, a3⟩
  · have hne : nI a ≠ nI b := fun z => e ((nI_eq (by omega) (by omega)).mp z)
    by_cases lt : a < b
    · rw [if_neg (nI_ge lt (by omega))]
      exact copyC a x b y (by omega) hx (by omega) hy (by unfold q_Q p8_cQ q_J; rw [if_pos ⟨Nat.zero_le _, hb, lt⟩]) hne
    · rw [if_pos (nI_le (by omega) (by omega))]
      refine copyC b y a x (by omega) hy (by omega) hx ?_ hne
      unfold q_Q p8_cQ q_J
      rw [if_pos ⟨Nat.zero_le _, ha, by omega⟩]
      exact p6_ws_congr2 n0 _ _ n2 0 q_0 (fun ω' _ _ => by
        show (if ω' b = y ∧ ω' a = x then _ else 0) = (if ω' a = x ∧ ω' b = y then _ else 0)
        by_cases q : ω' a = x ∧ ω' b = y
        · rw [if_pos q, if_pos ⟨q.2, q.1⟩]
        · rw [if_neg q, if_neg (fun z => q ⟨z.2, z.1⟩)])
theorem i_addJ (an mi : Nat → Int64) {a x b y v M : Nat} (hn2 : n2 ≤ 6) (ha : a < n2) (hb : b < n2) (hx : x < 6) (hy : y < 6) (hA : q_A bk n0 n1 n2 n3 n4 ≤ 111918671858621262436761600000000) (hSh : ∀ k x, k < n2 → x < 6 → p3_N sh (k * 6 + x) (q_S bk n0 n1 n2 n3 n4 k x)) (hPa : p8_P4 pa (q_Q bk n0 n1 n2 n3 n4) 4503599627370496) (han : p3_U an 0 v M) : ∃ an' mi', f_X5_addJoint 5184 sh pa an mi (nI a) (nI x) (nI b) (nI y) = some (an', mi') ∧ p3_U an' 0 (v + q_J bk n0 n1 n2 n3 n4 a x b y) (M + 1073741823) := by
  obtain ⟨m1, a1, a2⟩ := i_putJ (bk := bk) (n0 := n0) (n1 := n1) (n3 := n3) (n4 := n4) mi hn2 ha hb hx hy hA hSh hPa
  obtain ⟨an', c1, c2, c3⟩ := p3_add (n := 4) (i := 0) (n' := 4) (j := 0) (by decide) (by decide) (by decide) (by decide) han a2.U
  refine ⟨an', m1, ?_, c3⟩
  unfold f_X5_addJoint
  rw [show f_X5_putJoint_p8 5184 sh pa mi 0 (nI a) (nI x) (nI b) (nI y) = _ from a1, Option.bind_some, show f_X3_add 4 an 0 4 m1 0 = _ from c1, Option.bind_some]
/-- the heads beside -/
def q_bs (bk : Nat → Int32) (n0 n1 n2 n3 n4 hd p k : Nat) : Nat := p6_sm k (fun e => if e ≠ hd ∧ k_hp bk e = k_hp bk hd then q_J bk n0 n1 n2 n3 n4 hd 5 e p else 0)
theorem i_bs_le (bk : Nat → Int32) (n0 n1 n2 n3 n4 hd p k : Nat) : q_bs bk n0 n1 n2 n3 n4 hd p k ≤ k * q_A bk n0 n1 n2 n3 n4 := by
  unfold q_bs
  rw [← p6_sm_const]
  exact p6_sm_le (fun e _ => by split; exact i_J_le _ _ _ _ _ _ _ _ _ _; exact Nat.zero_le _)
theorem i_beside (hRB : p2_RB c0 z0 c1 z1 c2 z2 c3 z3 c4 z4 sg bk n0 n1 n2 n3 n4) (an mi : Nat → Int64) {hd p v M : Nat} (hhd : hd < n2) (hp : p < n0) (hSh : ∀ k x, k < n2 → x < 6 → p3_N sh (k * 6 + x) (q_S bk n0 n1 n2 n3 n4 k x)) (hPa : p8_P4 pa (q_Q bk n0 n1 n2 n3 n4) 4503599627370496) (han : p3_U an 0 v M) : ∃ an' mi', f_X8_addStrangerBeside c2 z2 sh pa an mi (nI hd) (nI p) = some (an', mi') ∧ p3_U an' 0 (v + q_bs bk n0 n1 n2 n3 n4 hd p n2) (M + n2 * 1073741823) := by
  obtain ⟨r0, r1, r2, r3, r4, rs, v0, v1, v2, v3, v4, v5⟩ := id hRB
  have hn0 := r0.1
  have hn1 := r1.1
  have hn2 := r2.1
  have hA := i_A_lt hRB
  have hpic : ∀ e, e < n2 → f_X4_at 5 30 c2 z2 (nI e) 0 = some (nI (k_hp bk e)) ∧ k_hp bk e < n1 := fun e he => by
    have q := k_hp_spec (v2 e he)
    refine ⟨?_, q.2⟩
    rw [← q.1]
    exact p2_atH r2 e 0 he (by decide)
  have loop : ∀ (r e m : Nat) (a mi : Nat → Int64) (M' : Nat), e + r = n2 → r < m → p3_U a 0 (v + q_bs bk n0 n1 n2 n3 n4 hd p e) M' → M' ≤ M + e * 1073741823 → ∃ an' mi', f_X8_addStrangerBeside_L16w c2 z2 sh pa (nI hd) (nI p) (nI (k_hp bk hd)) m a mi (nI e) = some (an', mi') ∧ p3_U an' 0 (v + q_bs bk n0 n1 n2 n3 n4 hd p n2) (M + n2 * 1073741823) := by
    intro r
    induction r with
    | zero =>
      intro e m a mi M' h1 h2 h3 h4
      obtain ⟨m, rfl⟩ : ∃ j, m = j + 1 := ⟨m - 1, by omega⟩
      obtain rfl : e = n2 := by omega
      refine ⟨a, mi, ?_, h3.mono h4⟩
      show f_X8_addStrangerBeside_L16 c2 z2 sh pa (nI hd) (nI p) (nI (k_hp bk hd)) (f_X8_addStrangerBeside_L16w c2 z2 sh pa (nI hd) (nI p) (nI (k_hp bk hd)) m) a mi _ = _
      unfold f_X8_addStrangerBeside_L16
      rw [r2.2.1, if_pos (nI_le (by omega) (by omega))]
    | succ r ih =>
      intro e m a mi M' h1 h2 h3 h4
      obtain ⟨m, rfl⟩ : ∃ j, m = j + 1 := ⟨m - 1, by omega⟩
      have hs : ∀ X, (if e ≠ hd ∧ k_hp bk e = k_hp bk hd then q_J bk n0 n1 n2 n3 n4 hd 5 e p else 0) = X → q_bs bk n0 n1 n2 n3 n4 hd p (e + 1) = q_bs bk n0 n1 n2 n3 n4 hd p e + X := fun X hX => by
        unfold q_bs; rw [p6_sm, hX]
      show ∃ an' mi', f_X8_addStrangerBeside_L16 c2 z2 sh pa (nI hd) (nI p) (nI (k_hp bk hd)) (f_X8_addStrangerBeside_L16w c2 z2 sh pa (nI hd) (nI p) (nI (k_hp bk hd)) m) a mi (nI e) = _ ∧ _
      unfold f_X8_addStrangerBeside_L16 f_X8_addStrangerBeside_J69
      rw [if_neg (show ¬ z2 ≤ nI e by rw [r2.2.1]; exact nI_ge (by omega) (by omega)), nI_1]
      by_cases c1 : e = hd
      · subst c1
        rw [if_pos rfl]
        exact ih (e + 1) m a mi M' (by omega) (by omega) (by rw [hs 0 (if_neg (fun z => z.1 rfl)), Nat.add_zero]; exact h3) (Nat.le_trans h4 (by rw [Nat.succ_mul]; omega))
      · rw [if_neg (fun z => c1 ((nI_eq (by omega) (by omega)).mp z)), (hpic e (by omega)).1, Option.bind_some]
        have b1 := (hpic e (by omega)).2
        have b2 := (hpic hd hhd).2
        by_cases c2 : k_hp bk e = k_hp bk hd
        · obtain ⟨a1, m1, d1, d2⟩ := i_addJ (bk := bk) (n0 := n0) (n1 := n1) (n3 := n3) (n4 := n4) a mi hn2 hhd (show e < n2 by omega) (show 5 < 6 by decide) (show p < 6 by omega) hA hSh hPa h3
          rw [if_pos (by rw [c2]), show f_X5_addJoint 5184 sh pa a mi (nI hd) 5 (nI e) (nI p) = _ from d1, Option.bind_some]
          exact ih (e + 1) m a1 m1 _ (by omega) (by omega) (by rw [hs _ (if_pos ⟨c1, c2⟩), ← Nat.add_assoc]; exact d2) (by omega)
        · rw [if_neg (fun z => c2 ((nI_eq (by omega) (by omega)).mp z))]
          exact ih (e + 1) m a mi M' (by omega) (by omega) (by rw [hs 0 (if_neg (fun z => c2 z.2)), Nat.add_zero]; exact h3) (Nat.le_trans h4 (by rw [Nat.succ_mul]; omega))
  unfold f_X8_addStrangerBeside
  rw [(hpic hd hhd).1, Option.bind_some]
  exact loop n2 0 cx_N0 an mi M (by omega) (by unfold cx_N0; omega) han (by omega)
/-- the reference's side of such a question -/
theorem i_asks (hRB : p2_RB c0 z0 c1 z1 c2 z2 c3 z3 c4 z4 sg bk n0 n1 n2 n3 n4) {ab be : Nat → Int64} {l w : Nat → Int32} (hF : i_F ab be l w) (rf li0 is0 : Nat → Int32) (qu oY se : Int32) (ask a b : Nat) (hask : ask ≤ 4) (ha : ask = 1 → a < n2 ∧ b < n2) (ha2 : ask = 2 ∨ ask = 3 → a < 5) (ha4 : ask = 4 → a < n2 ∧ b < 5) : ∃ li l1 w1 is1, (q_A bk n0 n1 n2 n3 n4 = 0 → f_X9_asks l w bk rf qu is0 li0 oY se (nI ask) (nI a) (nI b) = some (-3, -1, -1, -1, l1, w1, p2_rf rf qu 1, is1, li) ∧ i_F ab be l1 w1) ∧ (q_A bk n0 n1 n2 n3 n4 ≠ 0 → f_X9_asks l w bk rf qu is0 li0 oY se (nI ask) (nI a) (nI b) = some (1, -1, -1, -1, l1, w1, rf, is1, li) ∧ ∃ V, p4_S l1 w1 V ∧ V 0 = p6_ws n0 (fun ω => q_G0 bk n1 n2 n3 n4 ω * k_ct bk n1 n2 ask a b ω) n2 0 q_0 / Nat.gcd (p6_ws n0 (fun ω => q_G0 bk n1 n2 n3 n4 ω * k_ct bk n1 n2 ask a b ω) n2 0 q_0) (q_A bk n0 n1 n2 n3 n4) ∧ V 1 = q_A bk n0 n1 n2 n3 n4 / Nat.gcd (p6_ws n0 (fun ω => q_G0 bk n1 n2 n3 n4 ω * k_ct bk n1 n2 ask a b ω) n2 0 q_0) (q_A bk n0 n1 n2 n3 n4)) := by
  obtain ⟨V, hV, hV0, hV1, hV2⟩ := hF
  obtain ⟨li, b1, b2⟩ := m_begins hRB li0
  obtain ⟨l1, w1, is1, V1, s1, s2, s3, s4, s5⟩ := m_sums hRB b2 (i_LM0 hRB oY se) l w is0 V hV ask a b hask ha ha2 ha4
  have s3 : V1 6 = q_A bk n0 n1 n2 n3 n4 := s3
  have w6 : w1 (cx_ix 6) = 0 ↔ V1 6 = 0 := i_w6 s2 (r := 6) (by decide) (by decide)
  by_cases hA : q_A bk n0 n1 n2 n3 n4 = 0
  · refine ⟨li, l1, w1, is1, fun _ => ⟨?_, ⟨V1, s2, ?_, ?_, ?_⟩⟩, fun q => absurd hA q⟩
    · unfold f_X9_asks
      rw [b1, Option.bind_some, s1, Option.bind_some, p2_gd (by decide), if_pos (w6.mpr (s3.trans hA)), p2_no, Option.bind_some]
    · rw [s5 0 (by decide) (by decide) (by decide) (by decide)]; exact hV0
    · rw [s5 1 (by decide) (by decide) (by decide) (by decide)]; exact hV1
    · rw [s5 1 (by decide) (by decide) (by decide) (by decide)]; exact hV2
  · obtain ⟨l4, w4, V4, k1, k2, k3, k4, k5⟩ := i_tellsHit s2 (by rw [s3]; exact Nat.pos_of_ne_zero hA)
    rw [s3, s4] at k3 k4
    refine ⟨li, l4, w4, is1, fun q => absurd q hA, fun _ => ⟨?_, V4, k2, k3, k4⟩⟩
    unfold f_X9_asks
    rw [b1, Option.bind_some, s1, Option.bind_some, p2_gd (by decide), if_neg (fun q => hA (s3.symm.trans (w6.mp q))), k1, Option.bind_some]
end JO
