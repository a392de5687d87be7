/-! what is gathered -/
def p8_S2 (x : Nat → Int64) (S : Nat → Nat → Nat) (M : Nat) : Prop := ∀ k w, k < 6 → w < 6 → p3_U x (k * 6 + w) (S k w) M
def p8_P4 (x : Nat → Int64) (Q : Nat → Nat → Nat → Nat → Nat) (M : Nat) : Prop := ∀ e v k w, e < 6 → v < 6 → k < 6 → w < 6 → p3_U x (((e * 6 + v) * 6 + k) * 6 + w) (Q e v k w) M
def p8_C1 (x : Nat → Int64) (C : Nat → Nat) (M : Nat) : Prop := ∀ c, c < 32 → p3_U x c (C c) M
/-- one of a row of numbers is added to -/
theorem p8_S2_add {x x' : Nat → Int64} {S : Nat → Nat → Nat} {M W K h w : Nat} (hS : p8_S2 x S M) (hh : h < 6) (hw : w < 6) (hF : p3_F x x' (h * 6 + w)) (hU : p3_U x' (h * 6 + w) (S h w + W) (M + K)) : p8_S2 x' (fun k v => S k v + if k = h ∧ v = w then W else 0) (M + K) := by
  intro k v hk hv
  dsimp only
  by_cases q : k = h ∧ v = w
  · obtain ⟨rfl, rfl⟩ := q
    rw [if_pos ⟨rfl, rfl⟩]
    exact hU
  · rw [if_neg q]
    exact (hF.U (by omega) (hS k v hk hv)).mono (by omega)
theorem p8_pairL (np : Nat) (wy : Nat → Int32) (ω : Nat → Nat) (sub sh : Nat → Int64) (h w W K : Nat) (hnp : np = 5184) (hh : h < 6) (hw : w < 6) (hwy : ∀ e, e < h → wy e = nI (ω e) ∧ ω e < 6) (hW : p3_U sub (h + 1) W K) : ∀ (r e m : Nat) (pa : Nat → Int64) (Q : Nat → Nat → Nat → Nat → Nat) (M : Nat), e + r = h → r < m → (∀ e' v k y, e' < 6 → v < 6 → k < 6 → y < 6 → p3_U pa (((e' * 6 + v) * 6 + k) * 6 + y) (Q e' v k y) (if e' < e then M + K else M)) → ∃ pa', f_X7_gather_L55w wy np (nI h) (nI w) sub sh m pa (nI e) = some (sub, sh, pa') ∧ p8_P4 pa' (fun e' v k y => Q e' v k y + if k = h ∧ y = w ∧ e ≤ e' ∧ e' < h ∧ ω e' = v then W else 0) (M + K) := by
  intro r
  induction r with
  | zero =>
    intro e m pa Q M h1 h2 h3
    obtain ⟨m, rfl⟩ : ∃ j, m = j + 1 := ⟨m - 1, by omega⟩
    refine ⟨pa, ?_, ?_⟩
    · show f_X7_gather_L55 wy np (nI h) (nI w) sub sh (f_X7_gather_L55w wy np (nI h) (nI w) sub sh m) pa (nI e) = _
      unfold f_X7_gather_L55
      rw [if_pos (nI_le (by omega) (by omega))]
    · intro e' v k y a1 a2 a3 a4
      dsimp only
      rw [if_neg (by omega)]
      exact (h3 e' v k y a1 a2 a3 a4).mono (by split <;> omega)
  | succ r ih =>
    intro e m pa Q M h1 h2 h3
    obtain ⟨m, rfl⟩ : ∃ j, m = j + 1 := ⟨m - 1, by omega⟩
    obtain ⟨we, we6⟩ := hwy e (by omega)
    have h3e := h3 e (ω e) h w (by omega) we6 hh hw
    rw [if_neg (by omega)] at h3e
    obtain ⟨pa1, b1, b2, b3⟩ := p3_add (n := np) (i := ((e * 6 + ω e) * 6 + h) * 6 + w) (n' := 28) (j := h + 1) (by omega) (by omega) (by omega) (by decide) h3e hW
    obtain ⟨pa', g1, g2⟩ := ih (e + 1) m pa1 (fun e' v k y => Q e' v k y + if k = h ∧ y = w ∧ e' = e ∧ ω e' = v then W else 0) M (by omega) (by omega) (by
      intro e' v k y a1 a2 a3 a4
      by_cases q : k = h ∧ y = w ∧ e' = e ∧ ω e' = v
      · obtain ⟨rfl, rfl, rfl, rfl⟩ := q
        rw [if_pos ⟨rfl, rfl, rfl, rfl⟩, if_pos (by omega)]
        exact b3
      · rw [if_neg q]
        refine (b2.U (fun z => q ?_) (h3 e' v k y a1 a2 a3 a4)).mono (by split <;> split <;> omega)
        have q1 : y = w := by omega
        have q2 : k = h := by omega
        have q3 : v = ω e := by omega
        have q4 : e' = e := by omega
        exact ⟨q2, q1, q4, by rw [q4, q3]⟩)
    refine ⟨pa', ?_, ?_⟩
    · rw [← g1]
      show f_X7_gather_L55 wy np (nI h) (nI w) sub sh (f_X7_gather_L55w wy np (nI h) (nI w) sub sh m) pa (nI e) = _
      unfold f_X7_gather_L55
      rw [if_neg (nI_ge (by omega) (by omega)), p2_gd (p2_ib (by omega) (by decide)), p2_ix (n := e) (by omega), we]
      unfold f_X5_addPair f_X5_pairAt
      rw [Option.bind_some, show (6 : Int32) = nI 6 from rfl, pk_mul, nI_add, pk_mul, nI_add, pk_mul, nI_add, show (4 : Int32) = nI 4 from rfl, pk_mul, if_neg (show ¬ Int32.ofNat np ≤ _ from nI_ge (by omega) (by omega)), nI_1, b1, Option.bind_some, Option.bind_some, nI_1]
    · intro e' v k y a1 a2 a3 a4
      have := g2 e' v k y a1 a2 a3 a4
      dsimp only at this ⊢
      have ev : (Q e' v k y + if k = h ∧ y = w ∧ e' = e ∧ ω e' = v then W else 0) + (if k = h ∧ y = w ∧ e + 1 ≤ e' ∧ e' < h ∧ ω e' = v then W else 0) = Q e' v k y + if k = h ∧ y = w ∧ e ≤ e' ∧ e' < h ∧ ω e' = v then W else 0 := by
        by_cases c1 : k = h ∧ y = w ∧ ω e' = v
        · by_cases c2 : e' = e
          · rw [if_pos ⟨c1.1, c1.2.1, c2, c1.2.2⟩, if_neg (by omega), if_pos ⟨c1.1, c1.2.1, by omega, by omega, c1.2.2⟩]
            omega
          · rw [if_neg (fun z => c2 z.2.2.1)]
            by_cases c3 : e + 1 ≤ e' ∧ e' < h
            · rw [if_pos ⟨c1.1, c1.2.1, c3.1, c3.2, c1.2.2⟩, if_pos ⟨c1.1, c1.2.1, by omega, c3.2, c1.2.2⟩]
              omega
            · rw [if_neg (fun z => c3 ⟨z.2.2.1, z.2.2.2.1⟩), if_neg (fun z => c3 ⟨by have := z.2.2.1; omega, z.2.2.2.1⟩)]
        · rw [if_neg (fun z => c1 ⟨z.1, z.2.1, z.2.2.2⟩), if_neg (fun z => c1 ⟨z.1, z.2.1, z.2.2.2.2⟩), if_neg (fun z => c1 ⟨z.1, z.2.1, z.2.2.2.2⟩)]
      rw [ev] at this
      exact this
/-- gather -/
theorem p8_gather (d np : Nat) (wy : Nat → Int32) (ω : Nat → Nat) (sub sh pa : Nat → Int64) (h w V W M K Ms Mp : Nat) (S : Nat → Nat → Nat) (Q : Nat → Nat → Nat → Nat → Nat) (hd : d ≤ 2) (hh : h < 6) (hw : w < 6) (hwy : ∀ e, e < h → wy e = nI (ω e) ∧ ω e < 6) (hV : p3_U sub h V M) (hW : p3_U sub (h + 1) W K) (hS : 1 ≤ d → p8_S2 sh S Ms) (hQ : d = 2 → np = 5184 ∧ p8_P4 pa Q Mp) :
    ∃ sub' sh' pa', f_X7_gather (nI d) sub wy np sh pa (nI h) (nI w) = some (sub', sh', pa') ∧ p3_F sub sub' h ∧ p3_U sub' h (V + W) (M + K) ∧ (d = 0 → sh' = sh) ∧ (1 ≤ d → p8_S2 sh' (fun k v => S k v + if k = h ∧ v = w then W else 0) (Ms + K)) ∧ (d ≠ 2 → pa' = pa) ∧ (d = 2 → p8_P4 pa' (fun e' v k y => Q e' v k y + if k = h ∧ y = w ∧ e' < h ∧ ω e' = v then W else 0) (Mp + K)) := by
  obtain ⟨sub1, a1, a2, a3⟩ := p3_add_x (n := 28) (i := h) (j := h + 1) (by omega) (by decide) (by omega) (by omega) hV hW
  have hW1 : p3_U sub1 (h + 1) W K := a2.U (by omega) hW
  unfold f_X7_gather
  rw [nI_1, a1, Option.bind_some]
  have J : ∀ sh1, ∃ pa', f_X7_gather_J45 (nI d) wy np pa (nI h) (nI w) sub1 sh1 = some (sub1, sh1, pa') ∧ (d ≠ 2 → pa' = pa) ∧ (d = 2 → p8_P4 pa' (fun e' v k y => Q e' v k y + if k = h ∧ y = w ∧ e' < h ∧ ω e' = v then W else 0) (Mp + K)) := by
    intro sh1
    unfold f_X7_gather_J45
    by_cases h2 : d = 2
    · obtain ⟨q1, q2⟩ := hQ h2
      obtain ⟨pa', g1, g2⟩ := p8_pairL np wy ω sub1 sh1 h w W K q1 hh hw hwy hW1 h 0 cx_N0 pa Q Mp (by omega) (by unfold cx_N0; omega) (fun e' v k y c1 c2 c3 c4 => by rw [if_neg (by omega)]; exact q2 e' v k y c1 c2 c3 c4)
      refine ⟨pa', ?_, fun q => absurd h2 q, fun _ => ?_⟩
      · rw [if_pos (by rw [h2]; rfl)]
        exact g1
      · intro e' v k y b1 b2 b3 b4
        have := g2 e' v k y b1 b2 b3 b4
        simp only [Nat.zero_le, true_and] at this
        exact this
    · refine ⟨pa, ?_, fun _ => rfl, fun q => absurd q h2⟩
      rw [if_neg]
      intro q
      have : d = 2 := (nI_eq (b := 2) (by omega) (by decide)).mp q
      exact h2 this
  by_cases h0 : d = 0
  · obtain ⟨pa', j1, j2, j3⟩ := J sh
    refine ⟨sub1, sh, pa', ?_, a2, a3, fun _ => rfl, fun q => by omega, j2, j3⟩
    rw [if_pos (by rw [h0]; decide)]
    exact j1
  · obtain ⟨sh1, b1, b2, b3⟩ := p3_add (n := 144) (i := h * 6 + w) (n' := 28) (j := h + 1) (by omega) (by decide) (by omega) (by decide) (hS (by omega) h w hh hw) hW1
    obtain ⟨pa', j1, j2, j3⟩ := J sh1
    refine ⟨sub1, sh1, pa', ?_, a2, a3, fun q => absurd q h0, fun q => p8_S2_add (hS q) hh hw b2 b3, j2, j3⟩
    rw [if_neg (nI_nle (by omega) (by omega)), show (6 : Int32) = nI 6 from rfl, pk_mul, nI_add, b1, Option.bind_some]
    exact j1
/-! crowds -/
def p8_crd (ω : Nat → Nat) : Nat → Nat
  | 0 => 0
  | k + 1 => p8_crd ω k ||| 2 ^ ω k
theorem p8_crd_congr {ω ω' : Nat → Nat} : ∀ {k : Nat}, (∀ e, e < k → ω e = ω' e) → p8_crd ω k = p8_crd ω' k := by
  intro k
  induction k with
  | zero => intro _; rfl
  | succ k ih => intro h; rw [p8_crd, p8_crd, ih (fun e he => h e (by omega)), h k (by omega)]
theorem p8_crd_lt {ω : Nat → Nat} : ∀ {k : Nat}, (∀ e, e < k → ω e < 6) → p8_crd ω k < 64 := by
  intro k
  induction k with
  | zero => intro _; exact (by decide : (0 : Nat) < 64)
  | succ k ih =>
    intro h
    rw [p8_crd]
    have h1 := ih (fun e he => h e (by omega))
    have h2 : 2 ^ ω k < 2 ^ 6 := Nat.pow_lt_pow_right (by decide) (h k (by omega))
    exact Nat.or_lt_two_pow (n := 6) h1 h2
theorem p8_or {a b : Nat} (ha : a < 64) (hb : b < 64) : nI a ||| nI b = nI (a ||| b) := by
  apply Int32.toBitVec_inj.mp
  apply BitVec.eq_of_toNat_eq
  have h : (nI a ||| nI b).toBitVec.toNat = (nI a).toBitVec.toNat ||| (nI b).toBitVec.toNat := BitVec.toNat_or ..
  have hl : a ||| b < 2 ^ 6 := Nat.or_lt_two_pow (n := 6) ha hb
  rw [h, pk_tn (by omega), pk_tn (by omega), pk_tn (by omega)]
theorem p8_sh1 : ∀ w, w < 6 → (1 : Int32) <<< (nI w &&& 31) = nI (2 ^ w) := by
  intro w hw
  rcases (show w = 0 ∨ w = 1 ∨ w = 2 ∨ w = 3 ∨ w = 4 ∨ w = 5 by omega) with rfl | rfl | rfl | rfl | rfl | rfl <;> decide
/-- a way at its end: crowds, the best -/
theorem p8_addWay (wy bw : Nat → Int32) (cr ws bt : Nat → Int64) (c h v b M : Nat) (C : Nat → Nat) (hc : c < 32) (hh : h ≤ 6) (hws : p3_N ws h v) (hbt : p3_N bt 0 b) (hC : p8_C1 cr C M) : ∃ cr' bw' bt', f_X5_addWay cr bw bt 6 wy (nI c) 28 ws (nI h) = some (cr', bw', bt') ∧ p8_C1 cr' (fun i => C i + if i = c then v else 0) (M + 1073741824) ∧ p3_N bt' 0 (if b < v then v else b) ∧ (b < v → ∀ e, e < 6 → bw' e = wy e) ∧ (¬ b < v → bw' = bw) := by
  obtain ⟨cr', a1, a2, a3⟩ := p3_add (n := 128) (i := c) (n' := 28) (j := h) (by omega) (by decide) (by omega) (by decide) (hC c hc) hws.U
  have hC' : p8_C1 cr' (fun i => C i + if i = c then v else 0) (M + 1073741824) := by
    intro i hi
    dsimp only
    by_cases q : i = c
    · subst q
      rw [if_pos rfl]
      exact a3.mono (by omega)
    · rw [if_neg q]
      exact (a2.U q (hC i hi)).mono (by omega)
  have ec : f_X3_compare 28 ws (nI h) 4 bt 0 = _ := p3_compare (i := h) (j := 0) (by omega) (by decide) (by decide) (by decide) hws hbt
  have hle : p3_cmp v b ≤ 0 ↔ ¬ b < v := by
    have := (p3_cmp0 (u := v) (v := b)).2.1
    rw [← this, p2_le, p2_lt]
    omega
  unfold f_X5_addWay
  rw [a1, Option.bind_some, ec, Option.bind_some]
  by_cases hb : b < v
  · obtain ⟨bt', b1, b2, b3⟩ := p3_copy (n := 4) (i := 0) (n' := 28) (j := h) bt (by decide) (by decide) (by omega) (by decide) hws
    refine ⟨cr', va_cpy wy bw 0 0 6, bt', ?_, hC', by rw [if_pos hb]; exact b3, fun _ e he => by rw [pk_cpy_in (by omega) (by omega)]; congr 1; omega, fun q => absurd hb q⟩
    rw [if_neg (fun q => (hle.mp q) hb), show f_X3_copy 4 bt 0 28 ws (nI h) = _ from b1, Option.bind_some, p2_gd (by decide)]
    rfl
  · refine ⟨cr', bw, bt, ?_, hC', by rw [if_neg hb]; exact hbt, fun q => absurd q hb, fun _ => rfl⟩
    rw [if_pos (hle.mpr hb)]
theorem p6_sm_front (f : Nat → Nat) : ∀ n, p6_sm (n + 1) f = f 0 + p6_sm n (fun t => f (t + 1)) := by
  intro n
  induction n with
  | zero => rw [p6_sm, p6_sm, p6_sm]; omega
  | succ n ih => rw [p6_sm, ih, p6_sm]; omega
theorem p6_it_front {σ : Type} (f : Nat → σ → σ) (s : σ) : ∀ n, p6_it f (n + 1) s = p6_it (fun t s => f (t + 1) s) n (f 0 s) := by
  intro n
  induction n with
  | zero => rfl
  | succ n ih => rw [p6_it, ih, p6_it]
