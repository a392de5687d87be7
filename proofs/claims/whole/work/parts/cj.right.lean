/-! DOUBT, RIGHT, BEST -/
def k_db (S : Nat → Nat → Nat) (p q : Nat) : Nat → Int32 × Nat
  | 0 => (-1, 0)
  | h + 1 => if (k_db S p q h).2 < (if S h p < S h q then S h p else S h q) then (nI h, if S h p < S h q then S h p else S h q) else k_db S p q h
section DB
variable {c0 c1 c2 c3 c4 : Nat → Int32} {z0 z1 z2 z3 z4 sg : Int32} {bk : Nat → Int32} {n0 n1 n2 n3 n4 : Nat}
theorem i_closest {sh : Nat → Int64} {S : Nat → Nat → Nat} {p q : Nat} (mi : Nat → Int64) (hp : p < 6) (hq : q < 6) (hn2 : n2 ≤ 6) (hS : ∀ k x, k < n2 → x < 6 → p3_N sh (k * 6 + x) (S k x)) : ∃ mi', f_X5_closestHead sh mi (nI n2) (nI p) (nI q) = some ((k_db S p q n2).1, mi') := by
  have loop : ∀ (r h m : Nat) (a : Nat → Int64), h + r = n2 → r < m → p3_N a 0 (k_db S p q h).2 → ∃ a', f_X5_closestHead_L13w sh (nI n2) (nI p) (nI q) m a (k_db S p q h).1 (nI h) = some ((k_db S p q n2).1, a') := by
    intro r
    induction r with
    | zero =>
      intro h m a h1 h2 h3
      obtain ⟨m, rfl⟩ : ∃ j, m = j + 1 := ⟨m - 1, by omega⟩
      refine ⟨a, ?_⟩
      show f_X5_closestHead_L13 sh (nI n2) (nI p) (nI q) (f_X5_closestHead_L13w sh (nI n2) (nI p) (nI q) m) a _ _ = _
      unfold f_X5_closestHead_L13
      rw [if_pos (nI_le (by omega) (by omega)), show h = n2 by omega]
    | succ r ih =>
      intro h m a h1 h2 h3
      obtain ⟨m, rfl⟩ : ∃ j, m = j + 1 := ⟨m - 1, by omega⟩
      have step : ∀ (x : Nat) (v : Nat), x < 6 → p3_N sh (h * 6 + x) v → v = (if S h p < S h q then S h p else S h q) → ∃ a', f_X5_closestHead_J65 sh a (k_db S p q h).1 (nI h) (f_X5_closestHead_L13w sh (nI n2) (nI p) (nI q) m) (nI (h * 6 + x)) = some ((k_db S p q n2).1, a') := by
        intro x v hx hN hv
        unfold f_X5_closestHead_J65 f_X5_closestHead_J101
        rw [show f_X3_compare 144 sh (nI (h * 6 + x)) 4 a 0 = _ from p3_compare (n := 144) (n' := 4) (j := 0) (by omega) (by decide) (by decide) (by decide) hN h3, Option.bind_some, nI_1]
        by_cases c : (k_db S p q h).2 < v
        · obtain ⟨a1, b1, b2, b3⟩ := p3_copy (n := 4) (i := 0) (n' := 144) a (by decide) (by decide) (by omega) (by decide) hN
          rw [if_neg (fun z => i_cmpLe.mp z c), show f_X3_copy 4 a 0 144 sh (nI (h * 6 + x)) = _ from b1, Option.bind_some]
          have e : k_db S p q (h + 1) = (nI h, v) := by rw [k_db, ← hv, if_pos c]
          have := ih (h + 1) m a1 (by omega) (by omega) (by rw [e]; exact b3)
          rw [e] at this
          exact this
        · rw [if_pos (i_cmpLe.mpr c)]
          have e : k_db S p q (h + 1) = k_db S p q h := by rw [k_db, ← hv, if_neg c]
          have := ih (h + 1) m a (by omega) (by omega) (by rw [e]; exact h3)
          rw [e] at this
          exact this
      show ∃ a', f_X5_closestHead_L13 sh (nI n2) (nI p) (nI q) (f_X5_closestHead_L13w sh (nI n2) (nI p) (nI q) m) a _ _ = some ((k_db S p q n2).1, a')
      unfold f_X5_closestHead_L13
      rw [if_neg (nI_ge (by omega) (by omega)), i_rgc, i_rgc, p3_compare_x (by omega) (by decide) (by omega) (hS h p (by omega) hp) (hS h q (by omega) hq), Option.bind_some]
      by_cases c : S h p < S h q
      · rw [if_neg (fun z => i_cmpGe.mp z c)]
        exact step p _ hp (hS h p (by omega) hp) (by rw [if_pos c])
      · rw [if_pos (i_cmpGe.mpr c)]
        exact step q _ hq (hS h q (by omega) hq) (by rw [if_neg c])
  obtain ⟨a, a1, a2, a3⟩ := p3_zero (n := 4) (i := 0) mi (by decide) (by decide)
  obtain ⟨a', b1⟩ := loop n2 0 cx_N0 a (by omega) (by unfold cx_N0; omega) a3
  refine ⟨a', ?_⟩
  unfold f_X5_closestHead
  rw [show f_X3_zero 4 mi 0 = _ from a1, Option.bind_some]
  exact b1
/-- answerShare -/
theorem i_ansShare {to an : Nat → Int64} {v M A : Nat} (fa fb fo ft : Nat → Int64) (h : p3_U an 0 v M) (hM : M ≤ 2305843009213693952) (hv : v < 1073741824 ^ 4) (hto : p3_N to 0 A) (hA : 0 < A) : ∃ u1 u2 u3 u4 u5, f_X8_answerShare fa fb fo ft to an = some (1, u1, u2, u3, u4, u5) ∧ p3_N u1 0 (v / Nat.gcd v A) ∧ p3_N u2 0 (A / Nat.gcd v A) := by
  obtain ⟨a1, b1, b2, b3⟩ := p3_carry (n := 4) (i := 0) (by decide) (by decide) h hM hv
  obtain ⟨u1, u2, u3, u4, e1, e2, e3⟩ := p5_set (n := 4) (n' := 4) (i := 0) (j := 0) fa fb fo ft (by decide) (by decide) (by decide) (by decide) b3 hto hA
  refine ⟨u1, u2, u3, u4, a1, ?_, e2, e3⟩
  unfold f_X8_answerShare f_X8_share_p88
  rw [show f_X3_carry 4 an 0 = _ from b1, Option.bind_some, show f_X2_set fa fb fo ft 4 a1 0 4 to 0 = _ from e1, Option.bind_some, Option.bind_some]
theorem i_start (an : Nat → Int64) : ∃ a1, f_X5_startAnswer an = some a1 ∧ p3_U a1 0 0 0 := by
  obtain ⟨a, a1, a2, a3⟩ := p3_zero (n := 4) (i := 0) an (by decide) (by decide)
  refine ⟨a, ?_, p3_U0 a3⟩
  unfold f_X5_startAnswer
  rw [show f_X3_zero 4 an 0 = _ from a1, Option.bind_some]
/-- addLikeliest -/
theorem i_addLik {sh : Nat → Int64} {S : Nat → Nat → Nat} (an : Nat → Int64) (hn0 : n0 ≤ 5) (hn2 : n2 ≤ 6) (hS : ∀ k x, k < n2 → x < 6 → p3_N sh (k * 6 + x) (S k x)) (h0 : p3_U an 0 0 0) : ∃ an', f_X5_addLikeliest sh an (nI n0) (nI n2) = some an' ∧ p3_U an' 0 (p6_sm n2 (fun h => S h (k_ll n0 (S h) n0))) (n2 * 1073741823) := by
  have loop : ∀ (r h m : Nat) (a : Nat → Int64), h + r = n2 → r < m → p3_U a 0 (p6_sm h (fun h => S h (k_ll n0 (S h) n0))) (h * 1073741823) → ∃ a', f_X5_addLikeliest_L2w sh (nI n0) (nI n2) m a (nI h) = some a' ∧ p3_U a' 0 (p6_sm n2 (fun h => S h (k_ll n0 (S h) n0))) (n2 * 1073741823) := by
    intro r
    induction r with
    | zero =>
      intro h m a h1 h2 h3
      obtain ⟨m, rfl⟩ : ∃ j, m = j + 1 := ⟨m - 1, by omega⟩
      obtain rfl : h = n2 := by omega
      refine ⟨a, ?_, h3⟩
      show f_X5_addLikeliest_L2 sh (nI n0) (nI h) (f_X5_addLikeliest_L2w sh (nI n0) (nI h) m) a _ = _
      unfold f_X5_addLikeliest_L2
      rw [if_pos (nI_le (by omega) (by omega))]
    | succ r ih =>
      intro h m a h1 h2 h3
      obtain ⟨m, rfl⟩ : ∃ j, m = j + 1 := ⟨m - 1, by omega⟩
      have w2 := k_w_lt hn0 (k_ll_w n0 (S h) n0)
      obtain ⟨a1, b1, b2, b3⟩ := p3_add (n := 4) (i := 0) (n' := 144) (j := h * 6 + k_ll n0 (S h) n0) (by decide) (by decide) (by omega) (by decide) h3 (hS h _ (by omega) w2).U
      obtain ⟨a', i1, i2⟩ := ih (h + 1) m a1 (by omega) (by omega) (by rw [p6_sm, Nat.succ_mul]; exact b3)
      refine ⟨a', ?_, i2⟩
      rw [← i1]
      show f_X5_addLikeliest_L2 sh (nI n0) (nI n2) (f_X5_addLikeliest_L2w sh (nI n0) (nI n2) m) a _ = _
      unfold f_X5_addLikeliest_L2
      rw [if_neg (nI_ge (by omega) (by omega)), i_likeliest (k := h) hn0 (by omega) (fun x hx => hS h x (by omega) hx), Option.bind_some, i_rgc, show f_X3_add 4 a 0 144 sh (nI (h * 6 + k_ll n0 (S h) n0)) = _ from b1, Option.bind_some, nI_1]
  unfold f_X5_addLikeliest
  exact loop n2 0 cx_N0 an (by omega) (by unfold cx_N0; omega) (by rw [Nat.zero_mul]; exact h0)
/-- rights, of the reference -/
theorem m_rights {l w : Nat → Int32} {V : Nat → Nat} {S : Nat → Nat → Nat} {A : Nat} (hn0 : n0 ≤ 5) (hn2 : n2 ≤ 6) (hb : bk 2 = nI n2) (hS : p4_S l w V) (hV : ∀ k x, k < n2 → x < 6 → V (12 + 6 * k + x) = S k x) (hnn : ∀ (l w : Nat → Int32) (V : Nat → Nat) (k : Nat), p4_S l w V → k < n2 → (∀ x, x < 6 → V (12 + 6 * k + x) = S k x) → f_X9_namedNow l w bk (nI k) = some (nI (k_ll n0 (S k) n0))) (hA : A ≤ 111918671858621262436761600000000) (hSA : ∀ k x, S k x ≤ A) : ∃ l' w' V', f_X9_rights l w bk 7 = some (l', w') ∧ p4_S l' w' V' ∧ V' 7 = p6_sm n2 (fun h => S h (k_ll n0 (S h) n0)) ∧ ∀ s, s ≠ 7 → V' s = V s := by
  have bd : ∀ h, p6_sm h (fun h => S h (k_ll n0 (S h) n0)) ≤ h * A := fun h => by
    rw [← p6_sm_const]; exact p6_sm_le (fun i _ => hSA i _)
  have loop : ∀ (r h m : Nat) (l w : Nat → Int32) (V1 : Nat → Nat), h + r = n2 → r < m → p4_S l w V1 → V1 7 = p6_sm h (fun h => S h (k_ll n0 (S h) n0)) → (∀ s, s ≠ 7 → V1 s = V s) → ∃ l' w' V', f_X9_rights_L8w bk 7 m l w (nI h) = some (l', w') ∧ p4_S l' w' V' ∧ V' 7 = p6_sm n2 (fun h => S h (k_ll n0 (S h) n0)) ∧ ∀ s, s ≠ 7 → V' s = V s := by
    intro r
    induction r with
    | zero =>
      intro h m l w V1 h1 h2 h3 h4 h5
      obtain ⟨m, rfl⟩ : ∃ j, m = j + 1 := ⟨m - 1, by omega⟩
      obtain rfl : h = n2 := by omega
      refine ⟨l, w, V1, ?_, h3, h4, h5⟩
      show f_X9_rights_L8 bk 7 (f_X9_rights_L8w bk 7 m) l w _ = _
      unfold f_X9_rights_L8
      rw [p2_gd (by decide), if_pos (by rw [show bk (cx_ix 2) = nI h from hb]; exact nI_le (by omega) (by omega))]
    | succ r ih =>
      intro h m l w V1 h1 h2 h3 h4 h5
      obtain ⟨m, rfl⟩ : ∃ j, m = j + 1 := ⟨m - 1, by omega⟩
      have w2 := k_w_lt hn0 (k_ll_w n0 (S h) n0)
      have hv : ∀ x, x < 6 → V1 (12 + 6 * h + x) = S h x := fun x hx => by rw [h5 _ (by omega)]; exact hV h x (by omega) hx
      have r7 := h3 7 (by decide) (by decide)
      have rs := h3 (12 + 6 * h + k_ll n0 (S h) n0) (by omega) (by omega)
      rw [h4] at r7
      rw [hv _ w2] at rs
      have b0 := bd h
      have b1 := hSA h (k_ll n0 (S h) n0)
      have b2 : h * A ≤ 6 * A := Nat.mul_le_mul_right A (by omega)
      obtain ⟨l2, w2', c1, c2, c3⟩ := p4_adds (r := 7) (o := 12 + 6 * h + k_ll n0 (S h) n0) (by decide) (by omega) (by omega) r7 rs (i_P15_lt (by omega))
      obtain ⟨l', w', V', i1, i2, i3, i4⟩ := ih (h + 1) m l2 w2' _ (by omega) (by omega) (h3.set c2 c3) (by rw [p4_us]; rfl) (fun s hs => by rw [p4_un hs, h5 s hs])
      refine ⟨l', w', V', ?_, i2, i3, i4⟩
      rw [← i1]
      show f_X9_rights_L8 bk 7 (f_X9_rights_L8w bk 7 m) l w _ = _
      unfold f_X9_rights_L8
      rw [p2_gd (by decide), if_neg (by rw [show bk (cx_ix 2) = nI n2 from hb]; exact nI_ge (by omega) (by omega)), hnn l w V1 h h3 (by omega) hv, Option.bind_some, i_rg, show f_X9_adds l w 7 (nI (12 + 6 * h + k_ll n0 (S h) n0)) = _ from c1, Option.bind_some, nI_1]
  obtain ⟨l1, w1, a1, a2, a3⟩ := p4_sets (l := l) (w := w) (r := 7) (v := 0) (by decide) (by decide)
  obtain ⟨l', w', V', i1, i2, i3, i4⟩ := loop n2 0 cx_N0 l1 w1 _ (by omega) (by unfold cx_N0; omega) (hS.set a2 a3) (by rw [p4_us]; rfl) (fun s hs => by rw [p4_un hs])
  refine ⟨l', w', V', ?_, i2, i3, i4⟩
  unfold f_X9_rights
  rw [show f_X9_sets l w 7 0 = _ from a1, Option.bind_some]
  exact i1
end DB
theorem i_right : ob_right i_Inv := by
  intro σ τ h
  obtain ⟨⟨n0, n1, n2, n3, n4, hRB, hsm⟩, hR, hK0, hK1, hT, hF, hO1, hO2, hS1, hS2⟩ := h
  obtain ⟨r0, r1, r2, r3, r4, rs, v0, v1, v2, v3, v4, v5⟩ := id hRB
  have hn0 := r0.1
  have hn1 := r1.1
  have hn2 := r2.1
  have hn3 := r3.1
  have hn4 := r4.1
  obtain ⟨y, y1, y2, ⟨d, d1, d2, d3, d4, hSM⟩, hon, hsn⟩ := i_any hRB hsm hO1 hS1 1 (by omega) (by omega)
  obtain ⟨li, l1, w1, is1, V1, b1, s1, s2, s3, s4, ⟨g1, g2, g3⟩, w6, hLI⟩ := i_ref hRB hF (τ.1 10) (τ.1 9) (τ.2.2 9) (τ.2.2 11)
  by_cases hA : q_A (τ.1 2) n0 n1 n2 n3 n4 = 0
  · apply i_ex
    · unfold f_X8_right
      rw [show f_X8_anyWay (σ.2.2 0) (σ.1 2) (σ.2.2 1) (σ.1 3) (σ.2.2 2) (σ.1 4) (σ.2.2 3) (σ.1 5) (σ.2.2 4) (σ.1 6) (σ.2.2 5) (σ.2.2 6) (σ.2.2 29) (σ.2.2 30) (σ.2.2 31) (σ.2.2 32) (σ.2.2 33) (σ.1 24) (σ.1 25) (σ.1 26) (σ.1 27) (σ.1 28) (σ.1 29) (σ.1 30) (σ.1 31) (σ.2.1 4) (σ.2.1 5) (σ.2.1 6) (σ.1 32) (σ.2.1 10) (σ.2.1 11) (σ.2.1 12) (σ.2.1 13) (σ.1 42) (σ.2.1 14) (σ.2.2 39) (σ.2.2 40) 1 = _ from y1, Option.bind_some, if_pos (by rw [y2, p2_b, if_neg (fun q => q hA)]), i_no, Option.bind_some]
    · unfold f_X9_right
      rw [b1, Option.bind_some, show f_X9_shares (τ.1 0) (τ.1 1) (τ.1 2) (τ.1 9) li (-1) (-1) (τ.2.2 9) (-1) (τ.2.2 11) (-1) = _ from s1, Option.bind_some, p2_gd (by decide), if_pos (w6.mpr hA), p2_no, Option.bind_some]
    · exact ⟨rfl, ⟨n0, n1, n2, n3, n4, hRB, Or.inr ⟨d, d2, d3, d4, hSM⟩⟩, i_Rup hR 1 (by decide), hK0, hK1, hT, ⟨V1, s2, g1, g2, g3⟩, hon, hO2, hsn, hS2⟩
  · have hpe := hSM.1
    have hhe := hSM.2.1
    have hAl := i_A_lt hRB
    have hSA : ∀ k x, q_S (τ.1 2) n0 n1 n2 n3 n4 k x ≤ q_A (τ.1 2) n0 n1 n2 n3 n4 := fun k x => i_S_le _ n0 n2 k x
    obtain ⟨a1, e1, e2⟩ := i_start (σ.2.1 15)
    obtain ⟨a2, f1, f2⟩ := i_addLik (S := q_S (τ.1 2) n0 n1 n2 n3 n4) a1 hn0 hn2 hSM.2.2.2.1 e2
    have bd : p6_sm n2 (fun h => q_S (τ.1 2) n0 n1 n2 n3 n4 h (k_ll n0 (q_S (τ.1 2) n0 n1 n2 n3 n4 h) n0)) ≤ n2 * q_A (τ.1 2) n0 n1 n2 n3 n4 := by
      rw [← p6_sm_const]; exact p6_sm_le (fun i _ => hSA i _)
    have bd2 : n2 * q_A (τ.1 2) n0 n1 n2 n3 n4 ≤ 6 * q_A (τ.1 2) n0 n1 n2 n3 n4 := Nat.mul_le_mul_right _ hn2
    obtain ⟨u1, u2, u3, u4, u5, t1, t2, t3⟩ := i_ansShare (σ.2.1 0) (σ.2.1 1) (σ.2.1 2) (σ.2.1 3) f2 (by omega) (i_P4_lt (by omega)) hSM.2.2.1 (Nat.pos_of_ne_zero hA)
    obtain ⟨l2, w2, V2, c1, c2, c3, c4⟩ := m_rights (bk := τ.1 2) (S := q_S (τ.1 2) n0 n1 n2 n3 n4) hn0 hn2 r2.2.2.1 s2 s4 (fun l w V k q1 q2 q3 => i_nn hRB q1 (F := q_G0 (τ.1 2) n1 n2 n3 n4) hA q2 q3) hAl hSA
    obtain ⟨l4, w4, V4, k1, k2, k3, k4, k5⟩ := i_tellsHit c2 (by rw [c4 6 (by decide), s3]; exact Nat.pos_of_ne_zero hA)
    rw [c3, c4 6 (by decide), s3] at k3 k4
    rw [← hpe, ← hhe] at f1
    apply i_ex
    · unfold f_X8_right
      rw [show f_X8_anyWay (σ.2.2 0) (σ.1 2) (σ.2.2 1) (σ.1 3) (σ.2.2 2) (σ.1 4) (σ.2.2 3) (σ.1 5) (σ.2.2 4) (σ.1 6) (σ.2.2 5) (σ.2.2 6) (σ.2.2 29) (σ.2.2 30) (σ.2.2 31) (σ.2.2 32) (σ.2.2 33) (σ.1 24) (σ.1 25) (σ.1 26) (σ.1 27) (σ.1 28) (σ.1 29) (σ.1 30) (σ.1 31) (σ.2.1 4) (σ.2.1 5) (σ.2.1 6) (σ.1 32) (σ.2.1 10) (σ.2.1 11) (σ.2.1 12) (σ.2.1 13) (σ.1 42) (σ.2.1 14) (σ.2.2 39) (σ.2.2 40) 1 = _ from y1, Option.bind_some, if_neg (by rw [y2, p2_b, if_pos hA]; decide), e1, Option.bind_some, f1, Option.bind_some, t1, Option.bind_some]
    · unfold f_X9_right
      rw [b1, Option.bind_some, show f_X9_shares (τ.1 0) (τ.1 1) (τ.1 2) (τ.1 9) li (-1) (-1) (τ.2.2 9) (-1) (τ.2.2 11) (-1) = _ from s1, Option.bind_some, p2_gd (by decide), if_neg (fun q => hA (w6.mp q)), c1, Option.bind_some, k1, Option.bind_some]
    · exact ⟨rfl, ⟨n0, n1, n2, n3, n4, hRB, Or.inr ⟨d, d2, d3, d4, hSM⟩⟩, hR, hK0, hK1, hT, i_Fmk k2 k3 k4 t2 t3 (Nat.pos_of_ne_zero hA), hon, hO2, hsn, hS2⟩
