section M7
variable {bk : Nat → Int32} {n0 n1 n2 n3 n4 : Nat} {li is : Nat → Int32} {ω : Nat → Nat} {on od : Bool} {p0 y0 sk ea la : Nat} {wo oP oY fi se : Int32}
variable {c0 c1 c2 c3 c4 : Nat → Int32} {z0 z1 z2 z3 z4 sg : Int32} {aI : Int32} {as : Bool} {aq : Nat}
/-- one way is added to the shares -/
theorem m_shH (hB : q_BK bk n0 n1 n2 n3 n4) (his : ∀ h, h < n2 → is h = nI (ω h) ∧ ω h < 6) (ha1 : as = true → aI = nI aq ∧ aq < n2) (ha2 : as = false → aI = -1) (x3 : Int32) (rc : (Nat → Int32) → (Nat → Int32) → (Nat → Int32) → Int32 → Option ((Nat → Int32) × (Nat → Int32) × (Nat → Int32))) (W : Nat) (A : Nat → Nat → Nat) (J : Nat → Nat → Nat → Nat) (hA : ∀ k x, k < n2 → x < 6 → A k x + W < 1073741824 ^ 15) (hJ : ∀ x k y, x < 6 → k < n2 → y < 6 → J x k y + W < 1073741824 ^ 15) (V0 : Nat → Nat) : ∀ (r h m : Nat) (l w : Nat → Int32) (V : Nat → Nat), h + r = n2 → r < m → p4_S l w V → V 5 = W → (∀ k x, k < n2 → x < 6 → V (12 + 6 * k + x) = A k x + if k < h ∧ ω k = x then W else 0) → (as = true → ∀ x k y, x < 6 → k < n2 → y < 6 → V (48 + 36 * x + 6 * k + y) = J x k y + if k < h ∧ ω aq = x ∧ ω k = y then W else 0) → (∀ s, s < 12 → V s = V0 s) → ∃ l' w' V', f_X9_shares_L89w bk aI x3 rc is m l w (nI h) = f_X9_shares_J171 x3 rc l' w' is ∧ p4_S l' w' V' ∧ (∀ k x, k < n2 → x < 6 → V' (12 + 6 * k + x) = A k x + if ω k = x then W else 0) ∧ (as = true → ∀ x k y, x < 6 → k < n2 → y < 6 → V' (48 + 36 * x + 6 * k + y) = J x k y + if ω aq = x ∧ ω k = y then W else 0) ∧ (∀ s, s < 12 → V' s = V0 s) := by
  obtain ⟨b0, b1, b2, b3, b4, e0, e1, e2, e3, e4, v⟩ := id hB
  have q2 : bk (cx_ix 2) = nI n2 := e2
  intro r
  induction r with
  | zero =>
    intro h m l w V h1 h2 hS h5 hs hj h0
    obtain ⟨m, rfl⟩ : ∃ j, m = j + 1 := ⟨m - 1, by omega⟩
    refine ⟨l, w, V, ?_, hS, fun k x hk hx => ?_, fun q x k y hx hk hy => ?_, h0⟩
    · show f_X9_shares_L89 bk aI x3 rc is (f_X9_shares_L89w bk aI x3 rc is m) l w (nI h) = _
      unfold f_X9_shares_L89
      rw [p2_gd (by decide), q2, if_pos (nI_le (by omega) (by omega))]
    · rw [hs k x hk hx]
      congr 1
      by_cases c : ω k = x
      · rw [if_pos ⟨by omega, c⟩, if_pos c]
      · rw [if_neg (fun z => c z.2), if_neg c]
    · rw [hj q x k y hx hk hy]
      congr 1
      by_cases c : ω aq = x ∧ ω k = y
      · rw [if_pos ⟨by omega, c⟩, if_pos c]
      · rw [if_neg (fun z => c z.2), if_neg c]
  | succ r ih =>
    intro h m l w V h1 h2 hS h5 hs hj h0
    obtain ⟨m, rfl⟩ : ∃ j, m = j + 1 := ⟨m - 1, by omega⟩
    obtain ⟨i1, i2⟩ := his h (by omega)
    have hsh := hs h (ω h) (by omega) i2
    rw [if_neg (by omega), Nat.add_zero] at hsh
    have r1 := hS (12 + 6 * h + ω h) (by omega) (by omega)
    rw [hsh] at r1
    have r5 := hS 5 (by decide) (by decide)
    rw [h5] at r5
    obtain ⟨l1, w1, t1, t2, t3⟩ := p4_adds (r := 12 + 6 * h + ω h) (o := 5) (by omega) (by decide) (by omega) r1 r5 (hA h (ω h) (by omega) i2)
    have hS1 := hS.set t2 t3
    have hs1 : ∀ k x, k < n2 → x < 6 → p4_u V (12 + 6 * h + ω h) (A h (ω h) + W) (12 + 6 * k + x) = A k x + if k < h + 1 ∧ ω k = x then W else 0 := fun k x hk hx => by
      by_cases c : k = h ∧ x = ω h
      · obtain ⟨rfl, rfl⟩ := c
        rw [p4_us, if_pos ⟨by omega, rfl⟩]
      · rw [p4_un (by omega), hs k x hk hx]
        congr 1
        by_cases c2 : k < h ∧ ω k = x
        · rw [if_pos c2, if_pos ⟨by omega, c2.2⟩]
        · rw [if_neg c2, if_neg]
          rintro ⟨y1, y2⟩
          by_cases y3 : k = h
          · rw [y3] at y2; exact c ⟨y3, y2.symm⟩
          · exact c2 ⟨by omega, y2⟩
    have st : f_X9_shares_L89w bk aI x3 rc is (m + 1) l w (nI h) = f_X9_shares_L89 bk aI x3 rc is (f_X9_shares_L89w bk aI x3 rc is m) l w (nI h) := rfl
    rw [st]
    unfold f_X9_shares_L89 f_X9_shares_J144 f_X9_shares_J165
    rw [p2_gd (by decide), q2, if_neg (nI_ge (by omega) (by omega)), p2_gd (p2_ib (by omega) (by decide)), p2_ix (n := h) (by omega), i1, show (12 : Int32) = nI 12 from rfl, show (6 : Int32) = nI 6 from rfl, pk_mul, nI_add, nI_add, show f_X9_adds l w (nI (12 + 6 * h + ω h)) 5 = _ from t1, Option.bind_some, nI_1]
    dsimp only
    by_cases hq : as = true
    · obtain ⟨a1, a2⟩ := ha1 hq
      obtain ⟨i3, i4⟩ := his aq a2
      have hjh := hj hq (ω aq) h (ω h) i4 (by omega) i2
      rw [if_neg (by omega), Nat.add_zero] at hjh
      have r2 := hS1 (48 + 36 * ω aq + 6 * h + ω h) (by omega) (by omega)
      rw [p4_un (by omega), hjh] at r2
      have r6 := hS1 5 (by decide) (by decide)
      rw [p4_un (by omega), h5] at r6
      obtain ⟨l2, w2, u1, u2, u3⟩ := p4_adds (r := 48 + 36 * ω aq + 6 * h + ω h) (o := 5) (by omega) (by decide) (by omega) r2 r6 (hJ (ω aq) h (ω h) i4 (by omega) i2)
      have hS2 := hS1.set u2 u3
      rw [if_neg (by rw [a1]; exact p2_nIne aq (by omega)), if_pos (by rw [a1]; exact nI_le (a := 0) (by omega) (by omega)), a1, p2_gd (p2_ib (by omega) (by decide)), p2_gd (p2_ib (by omega) (by decide)), p2_ix (n := aq) (by omega), i3, show (48 : Int32) = nI 48 from rfl, show (36 : Int32) = nI 36 from rfl, pk_mul, nI_add, nI_add, nI_add, show f_X9_adds l1 w1 (nI (48 + 36 * ω aq + 6 * h + ω h)) 5 = _ from u1, Option.bind_some]
      dsimp only
      have := ih (h + 1) m l2 w2 _ (by omega) (by omega) hS2 (by rw [p4_un (by omega), p4_un (by omega)]; exact h5) (fun k x hk hx => by rw [p4_un (by omega)]; exact hs1 k x hk hx) (fun _ x k y hx hk hy => by
        by_cases c : x = ω aq ∧ k = h ∧ y = ω h
        · obtain ⟨rfl, rfl, rfl⟩ := c
          rw [p4_us, if_pos ⟨by omega, rfl, rfl⟩]
        · rw [p4_un (by omega), p4_un (by omega), hj hq x k y hx hk hy]
          congr 1
          by_cases c2 : k < h ∧ ω aq = x ∧ ω k = y
          · rw [if_pos c2, if_pos ⟨by omega, c2.2⟩]
          · rw [if_neg c2, if_neg]
            rintro ⟨y1, y2, y3⟩
            by_cases y4 : k = h
            · rw [y4] at y3; exact c ⟨y2.symm, y4, y3.symm⟩
            · exact c2 ⟨by omega, y2, y3⟩) (fun s hs' => by rw [p4_un (by omega), p4_un (by omega)]; exact h0 s hs')
      rw [a1] at this
      exact this
    · have hqf : as = false := by simpa using hq
      rw [if_pos (ha2 hqf)]
      exact ih (h + 1) m l1 w1 _ (by omega) (by omega) hS1 (by rw [p4_un (by omega)]; exact h5) hs1 (fun q => absurd q hq) (fun s hs' => by rw [p4_un (by omega)]; exact h0 s hs')
/-- shares -/
theorem m_shares (hRB : p2_RB c0 z0 c1 z1 c2 z2 c3 z3 c4 z4 sg bk n0 n1 n2 n3 n4) (hLI : q_LI bk n0 n2 li) (hLM : q_LM bk n1 n3 on p0 y0 sk od ea la wo oP oY fi se) (l w is : Nat → Int32) (V : Nat → Nat) (hS : p4_S l w V) (ha1 : as = true → aI = nI aq ∧ aq < n2) (ha2 : as = false → aI = -1) : ∃ l' w' is' V', f_X9_shares l w bk is li wo oP oY fi se aI = some (l', w', is') ∧ p4_S l' w' V' ∧ V' 6 = p6_ws n0 (q_G bk n1 n2 n3 n4 on p0 y0 sk od ea la) n2 0 q_0 ∧ (∀ k x, k < n2 → x < 6 → V' (12 + 6 * k + x) = p6_ws n0 (fun ω => if ω k = x then q_G bk n1 n2 n3 n4 on p0 y0 sk od ea la ω else 0) n2 0 q_0) ∧ (as = true → ∀ x k y, x < 6 → k < n2 → y < 6 → V' (48 + 36 * x + 6 * k + y) = p6_ws n0 (fun ω => if ω aq = x ∧ ω k = y then q_G bk n1 n2 n3 n4 on p0 y0 sk od ea la ω else 0) n2 0 q_0) ∧ (∀ s, s < 12 → s ≠ 5 → s ≠ 6 → s ≠ 8 → V' s = V s) := by
  have hB := q_BK_of hRB
  obtain ⟨b0, b1, b2, b3, b4, e0, e1, e2, e3, e4, v0, v1, v2, v3, v4, v5⟩ := id hB
  have hN : (n0 + 1) ^ n2 ≤ 46656 := Nat.le_trans (Nat.pow_le_pow_left (show n0 + 1 ≤ 6 by omega) n2) (Nat.le_trans (Nat.pow_le_pow_right (by decide) b2) (by decide))
  generalize hG : q_G bk n1 n2 n3 n4 on p0 y0 sk od ea la = G
  have hGle : ∀ code, code < (n0 + 1) ^ n2 → G (p6_wc n0 n2 0 q_0 code) ≤ 2398805552525318553600000000 := fun code hc => by rw [← hG]; exact q_G_le hRB hLM (q_wc_va code hc)
  have eP15 : (46656 * 2398805552525318553600000000 + 2398805552525318553600000000 : Nat) < 1073741824 ^ 15 := by decide
  have bsm : ∀ (code : Nat) (f : Nat → Nat), code ≤ (n0 + 1) ^ n2 → (∀ c, c < code → f c ≤ G (p6_wc n0 n2 0 q_0 c)) → p6_sm code f ≤ 46656 * 2398805552525318553600000000 := fun code f hc hf => by
    refine Nat.le_trans (p6_sm_le (g := fun _ => 2398805552525318553600000000) (fun c hc' => Nat.le_trans (hf c hc') (hGle c (by omega)))) ?_
    rw [p6_sm_const]
    exact Nat.mul_le_mul_right _ (by omega)
  obtain ⟨l1, w1, s1, s2, s3⟩ := p4_sets (l := l) (w := w) (r := 6) (v := 0) (by decide) (by decide)
  have hS1 := hS.set s2 s3
  have loop : ∀ (r code m : Nat) (l w is : Nat → Int32) (V1 : Nat → Nat), code + r = (n0 + 1) ^ n2 → r < m → p4_S l w V1 → V1 6 = p6_sm code (fun c => G (p6_wc n0 n2 0 q_0 c)) → (∀ k x, k < n2 → x < 6 → V1 (12 + 6 * k + x) = p6_sm code (fun c => if p6_wc n0 n2 0 q_0 c k = x then G (p6_wc n0 n2 0 q_0 c) else 0)) → (as = true → ∀ x k y, x < 6 → k < n2 → y < 6 → V1 (48 + 36 * x + 6 * k + y) = p6_sm code (fun c => if p6_wc n0 n2 0 q_0 c aq = x ∧ p6_wc n0 n2 0 q_0 c k = y then G (p6_wc n0 n2 0 q_0 c) else 0)) → (∀ s, s < 12 → s ≠ 5 → s ≠ 6 → s ≠ 8 → V1 s = V s) → ∃ l' w' is' V', f_X9_shares_L66w bk li wo oP oY fi se aI (nI ((n0 + 1) ^ n2)) m l w is (nI code) = some (l', w', is') ∧ p4_S l' w' V' ∧ V' 6 = p6_sm ((n0 + 1) ^ n2) (fun c => G (p6_wc n0 n2 0 q_0 c)) ∧ (∀ k x, k < n2 → x < 6 → V' (12 + 6 * k + x) = p6_sm ((n0 + 1) ^ n2) (fun c => if p6_wc n0 n2 0 q_0 c k = x then G (p6_wc n0 n2 0 q_0 c) else 0)) ∧ (as = true → ∀ x k y, x < 6 → k < n2 → y < 6 → V' (48 + 36 * x + 6 * k + y) = p6_sm ((n0 + 1) ^ n2) (fun c => if p6_wc n0 n2 0 q_0 c aq = x ∧ p6_wc n0 n2 0 q_0 c k = y then G (p6_wc n0 n2 0 q_0 c) else 0)) ∧ (∀ s, s < 12 → s ≠ 5 → s ≠ 6 → s ≠ 8 → V' s = V s) := by
    intro r
    induction r with
    | zero =>
      intro code m l w is V1 h1 h2 h3 h4 h5 h6 h7
      obtain ⟨m, rfl⟩ : ∃ j, m = j + 1 := ⟨m - 1, by omega⟩
      have e : code = (n0 + 1) ^ n2 := by omega
      rw [e] at h4 h5 h6
      refine ⟨l, w, is, V1, ?_, h3, h4, h5, h6, h7⟩
      show f_X9_shares_L66 bk li wo oP oY fi se aI (nI ((n0 + 1) ^ n2)) (f_X9_shares_L66w bk li wo oP oY fi se aI (nI ((n0 + 1) ^ n2)) m) l w is (nI code) = _
      unfold f_X9_shares_L66
      rw [if_pos (nI_le (by omega) (by omega))]
    | succ r ih =>
      intro code m l w is V1 h1 h2 h3 h4 h5 h6 h7
      obtain ⟨m, rfl⟩ : ∃ j, m = j + 1 := ⟨m - 1, by omega⟩
      obtain ⟨g, l3, w3, is3, V3, g1, g2, g3, g4, g5, g6⟩ := m_weighs hRB hLI hLM code (by omega) l w is V1 h3
      have hva := q_wc_va (n0 := n0) (n2 := n2) code (by omega)
      have hGc := hGle code (by omega)
      have e7 : q_F bk n1 n2 n3 n4 (q_fy bk n1 on p0 y0) (q_yc bk n1 on p0) sk od ea la (p6_wc n0 n2 0 q_0 code) = G (p6_wc n0 n2 0 q_0 code) := by rw [← hG]
      rw [e7] at g5 g6
      have st : f_X9_shares_L66w bk li wo oP oY fi se aI (nI ((n0 + 1) ^ n2)) (m + 1) l w is (nI code) = f_X9_shares_L66 bk li wo oP oY fi se aI (nI ((n0 + 1) ^ n2)) (f_X9_shares_L66w bk li wo oP oY fi se aI (nI ((n0 + 1) ^ n2)) m) l w is (nI code) := rfl
      rw [st]
      unfold f_X9_shares_L66
      rw [if_neg (nI_ge (by omega) (by omega)), g1, Option.bind_some]
      dsimp only
      have e36 : V3 6 = p6_sm code (fun c => G (p6_wc n0 n2 0 q_0 c)) := by rw [g4 6 (by decide) (by decide)]; exact h4
      by_cases hz : G (p6_wc n0 n2 0 q_0 code) = 0
      · rw [if_pos hz] at g5
        rw [if_pos g5]
        unfold f_X9_shares_J171
        rw [nI_1]
        refine ih (code + 1) m l3 w3 is3 V3 (by omega) (by omega) g3 (by rw [e36, p6_sm, hz, Nat.add_zero]) (fun k x hk hx => ?_) (fun q x k y hx hk hy => ?_) (fun s a0 a1 a2 a3 => by rw [g4 s a1 a3]; exact h7 s a0 a1 a2 a3)
        · rw [g4 _ (by omega) (by omega), h5 k x hk hx, p6_sm, hz]
          split <;> rfl
        · rw [g4 _ (by omega) (by omega), h6 q x k y hx hk hy, p6_sm, hz]
          split <;> rfl
      · rw [if_neg hz] at g5
        have g6 := g6 hz
        rw [if_neg (by rw [g5]; decide)]
        obtain ⟨l4, w4, u1, u2, u3⟩ := p4_adds (r := 6) (o := 5) (by decide) (by decide) (by decide) (g3 6 (by decide) (by decide)) (g3 5 (by decide) (by decide)) (by rw [e36, g6]; exact Nat.lt_of_le_of_lt (Nat.add_le_add (bsm code _ (by omega) (fun c _ => Nat.le_refl _)) hGc) eP15)
        have hS4 := g3.set u2 u3
        rw [show f_X9_adds l3 w3 6 5 = _ from u1, Option.bind_some]
        dsimp only
        obtain ⟨l5, w5, V5, f1, f2, f3, f4, f5⟩ := m_shH (is := is3) (ω := p6_wc n0 n2 0 q_0 code) (aI := aI) (as := as) (aq := aq) hB (fun h hh => ⟨g2 h hh, k_w_lt b0 (hva h hh)⟩) ha1 ha2 (nI code) (f_X9_shares_L66w bk li wo oP oY fi se aI (nI ((n0 + 1) ^ n2)) m) (G (p6_wc n0 n2 0 q_0 code)) (fun k x => p6_sm code (fun c => if p6_wc n0 n2 0 q_0 c k = x then G (p6_wc n0 n2 0 q_0 c) else 0)) (fun x k y => p6_sm code (fun c => if p6_wc n0 n2 0 q_0 c aq = x ∧ p6_wc n0 n2 0 q_0 c k = y then G (p6_wc n0 n2 0 q_0 c) else 0)) (fun k x _ _ => Nat.lt_of_le_of_lt (Nat.add_le_add (bsm code _ (by omega) (fun c _ => by split; exact Nat.le_refl _; exact Nat.zero_le _)) hGc) eP15) (fun x k y _ _ _ => Nat.lt_of_le_of_lt (Nat.add_le_add (bsm code _ (by omega) (fun c _ => by split; exact Nat.le_refl _; exact Nat.zero_le _)) hGc) eP15) (p4_u V3 6 (V3 6 + V3 5)) n2 0 cx_N0 l4 w4 _ (by omega) (by unfold cx_N0; omega) hS4 (by rw [p4_un (by decide)]; exact g6) (fun k x hk hx => by
          rw [p4_un (by omega), g4 _ (by omega) (by omega), if_neg (by omega), Nat.add_zero]
          exact h5 k x hk hx) (fun q x k y hx hk hy => by
          rw [p4_un (by omega), g4 _ (by omega) (by omega), if_neg (by omega), Nat.add_zero]
          exact h6 q x k y hx hk hy) (fun s _ => rfl)
        rw [show (0 : Int32) = nI 0 from rfl, f1]
        unfold f_X9_shares_J171
        rw [nI_1]
        exact ih (code + 1) m l5 w5 is3 V5 (by omega) (by omega) f2 (by rw [f5 6 (by decide), p4_us, e36, g6, p6_sm]) (fun k x hk hx => by rw [f3 k x hk hx, p6_sm]) (fun q x k y hx hk hy => by rw [f4 q x k y hx hk hy, p6_sm]) (fun s a0 a1 a2 a3 => by rw [f5 s a0, p4_un a2, g4 s a1 a3]; exact h7 s a0 a1 a2 a3)
  -- all joints to 0, if one is asked for
  have zero2 : ∀ (r i m : Nat) (l w : Nat → Int32) (V1 : Nat → Nat), i + r = 216 → r < m → p4_S l w V1 → V1 6 = 0 → (∀ t, t < 36 → V1 (12 + t) = 0) → (∀ t, t < i → V1 (48 + t) = 0) → (∀ s, s < 12 → s ≠ 6 → V1 s = V s) → ∃ l' w' V', f_X9_shares_L32w bk is li wo oP oY fi se aI m l w (nI i) = f_X9_shares_J59 bk is li wo oP oY fi se aI l' w' ∧ p4_S l' w' V' ∧ V' 6 = 0 ∧ (∀ t, t < 36 → V' (12 + t) = 0) ∧ (as = true → ∀ t, t < 216 → V' (48 + t) = 0) ∧ (∀ s, s < 12 → s ≠ 6 → V' s = V s) := by
    intro r
    induction r with
    | zero =>
      intro i m l w V1 h1 h2 h3 h4 h5 h6 h7
      obtain ⟨m, rfl⟩ : ∃ j, m = j + 1 := ⟨m - 1, by omega⟩
      refine ⟨l, w, V1, ?_, h3, h4, h5, fun _ t ht => h6 t (by omega), h7⟩
      show f_X9_shares_L32 bk is li wo oP oY fi se aI (f_X9_shares_L32w bk is li wo oP oY fi se aI m) l w (nI i) = _
      unfold f_X9_shares_L32
      rw [show (216 : Int32) = nI 216 from rfl, if_pos (nI_le (by omega) (by omega))]
    | succ r ih =>
      intro i m l w V1 h1 h2 h3 h4 h5 h6 h7
      obtain ⟨m, rfl⟩ : ∃ j, m = j + 1 := ⟨m - 1, by omega⟩
      have st : f_X9_shares_L32w bk is li wo oP oY fi se aI (m + 1) l w (nI i) = f_X9_shares_L32 bk is li wo oP oY fi se aI (f_X9_shares_L32w bk is li wo oP oY fi se aI m) l w (nI i) := rfl
      rw [st]
      unfold f_X9_shares_L32
      rw [show (216 : Int32) = nI 216 from rfl, if_neg (nI_ge (by omega) (by omega))]
      by_cases hq : as = true
      · obtain ⟨l2, w2, t1, t2, t3⟩ := p4_sets (l := l) (w := w) (r := 48 + i) (v := 0) (by omega) (by decide)
        rw [if_neg (by rw [(ha1 hq).1]; exact p2_nIne aq (by have := (ha1 hq).2; omega)), show (48 : Int32) = nI 48 from rfl, nI_add, show f_X9_sets l w (nI (48 + i)) 0 = _ from t1, Option.bind_some, nI_1]
        exact ih (i + 1) m l2 w2 _ (by omega) (by omega) (h3.set t2 t3) (by rw [p4_un (by omega)]; exact h4) (fun t ht => by rw [p4_un (by omega)]; exact h5 t ht) (fun t ht => by
          by_cases e : t = i
          · subst e; rw [p4_us]
          · rw [p4_un (by omega)]; exact h6 t (by omega)) (fun s a b => by rw [p4_un (by omega)]; exact h7 s a b)
      · rw [if_pos (ha2 (by simpa using hq))]
        exact ⟨l, w, V1, rfl, h3, h4, h5, fun q => absurd q hq, h7⟩
  have zero1 : ∀ (r i m : Nat) (l w : Nat → Int32) (V1 : Nat → Nat), i + r = 36 → r < m → p4_S l w V1 → V1 6 = 0 → (∀ t, t < i → V1 (12 + t) = 0) → (∀ s, s < 12 → s ≠ 6 → V1 s = V s) → ∃ l' w' V', f_X9_shares_L9w bk is li wo oP oY fi se aI m l w (nI i) = f_X9_shares_J59 bk is li wo oP oY fi se aI l' w' ∧ p4_S l' w' V' ∧ V' 6 = 0 ∧ (∀ t, t < 36 → V' (12 + t) = 0) ∧ (as = true → ∀ t, t < 216 → V' (48 + t) = 0) ∧ (∀ s, s < 12 → s ≠ 6 → V' s = V s) := by
    intro r
    induction r with
    | zero =>
      intro i m l w V1 h1 h2 h3 h4 h5 h6
      obtain ⟨m, rfl⟩ : ∃ j, m = j + 1 := ⟨m - 1, by omega⟩
      obtain ⟨l', w', V', g1, g2⟩ := zero2 216 0 cx_N0 l w V1 (by omega) (by unfold cx_N0; omega) h3 h4 (fun t ht => h5 t (by omega)) (fun t ht => by omega) h6
      refine ⟨l', w', V', ?_, g2⟩
      rw [← g1]
      show f_X9_shares_L9 bk is li wo oP oY fi se aI (f_X9_shares_L9w bk is li wo oP oY fi se aI m) l w (nI i) = _
      unfold f_X9_shares_L9
      rw [show (36 : Int32) = nI 36 from rfl, if_pos (nI_le (by omega) (by omega))]
      rfl
    | succ r ih =>
      intro i m l w V1 h1 h2 h3 h4 h5 h6
      obtain ⟨m, rfl⟩ : ∃ j, m = j + 1 := ⟨m - 1, by omega⟩
      obtain ⟨l2, w2, t1, t2, t3⟩ := p4_sets (l := l) (w := w) (r := 12 + i) (v := 0) (by omega) (by decide)
      have st : f_X9_shares_L9w bk is li wo oP oY fi se aI (m + 1) l w (nI i) = f_X9_shares_L9 bk is li wo oP oY fi se aI (f_X9_shares_L9w bk is li wo oP oY fi se aI m) l w (nI i) := rfl
      rw [st]
      unfold f_X9_shares_L9
      rw [show (36 : Int32) = nI 36 from rfl, if_neg (nI_ge (by omega) (by omega)), show (12 : Int32) = nI 12 from rfl, nI_add, show f_X9_sets l w (nI (12 + i)) 0 = _ from t1, Option.bind_some, nI_1]
      exact ih (i + 1) m l2 w2 _ (by omega) (by omega) (h3.set t2 t3) (by rw [p4_un (by omega)]; exact h4) (fun t ht => by
        by_cases e : t = i
        · subst e; rw [p4_us]
        · rw [p4_un (by omega)]; exact h5 t (by omega)) (fun s a b => by rw [p4_un (by omega)]; exact h6 s a b)
  obtain ⟨l2, w2, V2, y1, y2, y3, y4, y5, y6⟩ := zero1 36 0 cx_N0 l1 w1 _ (by omega) (by unfold cx_N0; omega) hS1 p4_us (fun t ht => by omega) (fun s a b => p4_un b)
  obtain ⟨l', w', is', V', x1, x2, x3, x4, x5, x6⟩ := loop ((n0 + 1) ^ n2) 0 cx_N0 l2 w2 is V2 (by omega) (by unfold cx_N0; omega) y2 (by rw [y3]; rfl) (fun k x hk hx => by rw [show 12 + 6 * k + x = 12 + (6 * k + x) by omega, y4 _ (by omega)]; rfl) (fun q x k y hx hk hy => by rw [show 48 + 36 * x + 6 * k + y = 48 + (36 * x + 6 * k + y) by omega, y5 q _ (by omega)]; rfl) (fun s a0 a1 a2 a3 => y6 s a0 a2)
  refine ⟨l', w', is', V', ?_, x2, by rw [x3, p6_codes], fun k x hk hx => by rw [x4 k x hk hx, p6_codes n0 (fun ω => if ω k = x then G ω else 0)], fun q x k y hx hk hy => by rw [x5 q x k y hx hk hy, p6_codes n0 (fun ω => if ω aq = x ∧ ω k = y then G ω else 0)], x6⟩
  unfold f_X9_shares
  rw [show f_X9_sets l w 6 0 = _ from s1, Option.bind_some]
  refine y1.trans ?_
  unfold f_X9_shares_J59
  rw [m_ways hB, Option.bind_some]
  exact x1
end M7
