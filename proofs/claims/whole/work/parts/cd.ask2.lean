/-! like, parts, limb, the text -/
theorem i_has {z : Int32} {n : Nat} (hz : z = nI n) (hn : n < 2 ^ 31) (p : Int32) : f_X4_has z p = some (p2_b (0 ≤ p.toInt ∧ p.toInt < (n : Int))) := by
  rw [p2_has]
  congr 2
  rw [hz, nI_toInt hn]
theorem i_has1 {n r : Nat} (h : r < n) (hn : n < 2 ^ 31) : 0 ≤ (nI r).toInt ∧ (nI r).toInt < (n : Int) := by
  rw [nI_toInt (by omega)]
  omega
theorem i_Rbad {σ τ : cx_St} (h : i_Inv σ τ) (i : Nat) (hi : i < 3) : i_Inv (cx_sI σ 1 (upd (σ.1 1) i ((σ.1 1) i + 1))) (cx_sI τ 6 (p2_rf (τ.1 6) (τ.2.2 0) i)) := by
  obtain ⟨hA, hR, hK0, hK1, hT, hF, hO1, hO2, hS1, hS2⟩ := h
  exact ⟨hA, i_Rup hR i hi, hK0, hK1, hT, hF, hO1, hO2, hS1, hS2⟩
theorem i_Rsame {σ τ : cx_St} (h : i_Inv σ τ) : i_Inv (cx_sI σ 1 (σ.1 1)) (cx_sI τ 6 (τ.1 6)) := by
  obtain ⟨hA, hR, hK0, hK1, hT, hF, hO1, hO2, hS1, hS2⟩ := h
  exact ⟨hA, hR, hK0, hK1, hT, hF, hO1, hO2, hS1, hS2⟩
/-- a person, none, or neither -/
theorem i_whoIs (p : Int32) (n0 : Nat) (hn : n0 ≤ 5) : (∃ w : Nat, k_w n0 w ∧ (p = -1 ∨ (0 ≤ p.toInt ∧ p.toInt < (n0 : Int))) ∧ (if p = -1 then (5 : Int32) else p) = nI w) ∨ (¬ p = -1 ∧ ¬ (0 ≤ p.toInt ∧ p.toInt < (n0 : Int))) := by
  by_cases h : p = -1
  · exact Or.inl ⟨5, Or.inl rfl, Or.inl h, by rw [if_pos h]; rfl⟩
  · rcases p2_num p n0 (by omega) with ⟨r, hr, e⟩ | hp
    · exact Or.inl ⟨r, Or.inr hr, Or.inr (by rw [e]; exact i_has1 hr (by omega)), by rw [if_neg h]; exact e⟩
    · exact Or.inr ⟨h, hp⟩
theorem i_like : ob_like i_Inv := by
  intro σ τ p1 p2 p3 h
  obtain ⟨⟨n0, n1, n2, n3, n4, hRB, hsm⟩, hR, hK0, hK1, hT, hF, hO1, hO2, hS1, hS2⟩ := id h
  obtain ⟨r0, r1, r2, r3, r4, rs, v0, v1, v2, v3, v4, v5⟩ := id hRB
  have hn0 := r0.1
  have hn2 := r2.1
  have bad : f_X8_like_J32 (σ.1 1) = some (-2, upd (σ.1 1) 0 ((σ.1 1) 0 + 1)) ∧ f_X9_like_J33 (τ.1 6) (τ.2.2 0) = some (-2, p2_rf (τ.1 6) (τ.2.2 0) 0) := by
    unfold f_X8_like_J32 f_X9_like_J33
    rw [p2_refused2, p2_bad]
    exact ⟨rfl, rfl⟩
  have done : (∃ y1 y2, f_X8_like (σ.1 1) (σ.1 2) (σ.2.2 1) (σ.1 4) (σ.2.2 3) (σ.2.2 6) p1 p2 p3 = some y1 ∧ f_X9_like (τ.1 2) (τ.1 6) (τ.2.2 0) p1 p2 p3 = some y2 ∧ y1.1 = y2.1 ∧ ((y1.2 = σ.1 1 ∧ y2.2 = τ.1 6) ∨ (y1.2 = upd (σ.1 1) 0 ((σ.1 1) 0 + 1) ∧ y2.2 = p2_rf (τ.1 6) (τ.2.2 0) 0))) := by
    unfold f_X8_like f_X9_like f_X8_isWho f_X8_isWho_J19 f_X8_whoIs f_X9_like_J21 f_X9_like_J50
    rw [i_has r2.2.1 (by omega), Option.bind_some, p2_isHead _ r2.2.2.1 hn2, Option.bind_some, p4_bt, p4_bt]
    rcases p2_num p1 n2 (by omega) with ⟨hd, hhd, rfl⟩ | hh
    · rw [if_pos (i_has1 hhd (by omega)), if_pos (i_has1 hhd (by omega))]
      rw [i_has r0.2.1 (by omega), Option.bind_some, p2_isPerson _ r0.2.2.1 hn0, Option.bind_some, p4_bt, p4_bt, p2_within, p2_in, Option.bind_some, Option.bind_some, p4_bt, p4_bt, p2_l]
      rcases i_whoIs p2 n0 hn0 with ⟨w, hw, hor, hwe⟩ | ⟨hp1, hp2⟩
      · have hgo : (if p2 = -1 then (some (1 : Int32)) else (if 0 ≤ p2.toInt ∧ p2.toInt < (n0 : Int) then (some 1) else (some 0))) = some 1 := by
          rcases hor with z | z
          · rw [if_pos z]
          · rw [if_pos z]; split <;> rfl
        rw [hgo, Option.bind_some, if_neg (by decide)]
        have hgo2 : ∀ (x : Option (Int32 × (Nat → Int32))) (y : Option (Int32 × (Nat → Int32))), (if p2 = -1 then x else (if 0 ≤ p2.toInt ∧ p2.toInt < (n0 : Int) then x else y)) = x := fun x y => by
          rcases hor with z | z
          · rw [if_pos z]
          · rw [if_pos z]; split <;> rfl
        rw [hgo2]
        by_cases hy : (0 : Int32).toInt ≤ p3.toInt ∧ p3.toInt ≤ (99 : Int32).toInt
        · rw [if_pos hy, if_pos (show Int64.toInt 0 ≤ p3.toInt ∧ p3.toInt ≤ Int64.toInt 99 from hy)]
          have e1 : (if p2 = -1 then (some (5 : Int32)) else (some p2)) = some (nI w) := by rw [← hwe]; split <;> rfl
          have e2 : ∀ (f : Int32 → Option (Int32 × (Nat → Int32))), (if p2 = -1 then f 5 else f p2) = f (nI w) := fun f => by rw [← hwe]; split <;> rfl
          have hww := k_w_who hn0 hw
          rw [e1, Option.bind_some, p2_marksLike hRB hd hhd _ hww, Option.bind_some, p2_ageLike hRB hd hhd _ _ hww, Option.bind_some, p2_lk_eq, e2 (fun x => Option.bind (f_X9_likeOf (τ.1 2) (nI hd) x p3) (fun u12 => some ((u12, τ.1 6)))), p2_likeOf hRB hd hhd _ _ hww, Option.bind_some]
          exact ⟨_, _, rfl, rfl, rfl, Or.inl ⟨rfl, rfl⟩⟩
        · rw [if_neg hy, if_neg (show ¬ (Int64.toInt 0 ≤ p3.toInt ∧ p3.toInt ≤ Int64.toInt 99) from hy), bad.1, bad.2]
          exact ⟨_, _, rfl, rfl, rfl, Or.inr ⟨rfl, rfl⟩⟩
      · rw [if_neg hp1, if_neg hp2, Option.bind_some, if_pos rfl, if_neg hp1, if_neg hp2, bad.1, bad.2]
        exact ⟨_, _, rfl, rfl, rfl, Or.inr ⟨rfl, rfl⟩⟩
    · rw [if_neg hh, if_neg hh, bad.1, bad.2]
      exact ⟨_, _, rfl, rfl, rfl, Or.inr ⟨rfl, rfl⟩⟩
  obtain ⟨y1, y2, a1, a2, a3, a4⟩ := done
  refine ⟨y1, y2, a1, a2, a3, ?_⟩
  rcases a4 with ⟨b1, b2⟩ | ⟨b1, b2⟩
  · rw [b1, b2]; exact i_Rsame h
  · rw [b1, b2]; exact i_Rbad h 0 (by decide)
/-- the least mark that parts two, from k on -/
def i_pt (bk : Nat → Int32) (p q : Nat) : Nat → Nat → Int32
  | 0, _ => -1
  | r + 1, k => if p2_mk bk (nI k) 5 (nI p) = -1 ∨ p2_mk bk (nI k) 5 (nI q) = -1 ∨ p2_mk bk (nI k) 5 (nI p) = p2_mk bk (nI k) 5 (nI q) then i_pt bk p q r (k + 1) else nI k
theorem i_parts : ob_parts i_Inv := by
  intro σ τ p1 p2 h
  obtain ⟨⟨n0, n1, n2, n3, n4, hRB, hsm⟩, hR, hK0, hK1, hT, hF, hO1, hO2, hS1, hS2⟩ := id h
  obtain ⟨r0, r1, r2, r3, r4, rs, v0, v1, v2, v3, v4, v5⟩ := id hRB
  have hn0 := r0.1
  have bad : Option.bind (f_X8_refused (σ.1 1) (-2)) (fun u13 => some ((u13.1, u13.2))) = some (-2, upd (σ.1 1) 0 ((σ.1 1) 0 + 1)) ∧ f_X9_parts_J21 (τ.1 6) (τ.2.2 0) = some (-2, p2_rf (τ.1 6) (τ.2.2 0) 0) := by
    unfold f_X9_parts_J21
    rw [p2_refused2, p2_bad]
    exact ⟨rfl, rfl⟩
  have done : (∃ y1 y2, f_X8_parts (σ.1 1) (σ.1 2) (σ.2.2 1) p1 p2 = some y1 ∧ f_X9_parts (τ.1 2) (τ.1 6) (τ.2.2 0) p1 p2 = some y2 ∧ y1.1 = y2.1 ∧ ((y1.2 = σ.1 1 ∧ y2.2 = τ.1 6) ∨ (y1.2 = upd (σ.1 1) 0 ((σ.1 1) 0 + 1) ∧ y2.2 = p2_rf (τ.1 6) (τ.2.2 0) 0))) := by
    unfold f_X8_parts f_X9_parts f_X8_areTwoPeople
    rw [i_has r0.2.1 (by omega), Option.bind_some, i_has r0.2.1 (by omega), Option.bind_some, p2_isPerson _ r0.2.2.1 hn0, Option.bind_some, p2_isPerson _ r0.2.2.1 hn0, Option.bind_some, p4_bt, p4_bt, p4_bt, p4_bt]
    rcases p2_num p1 n0 (by omega) with ⟨p, hp, rfl⟩ | hp
    · rw [if_pos (i_has1 hp (by omega)), if_pos (i_has1 hp (by omega))]
      rcases p2_num p2 n0 (by omega) with ⟨q, hq, rfl⟩ | hq
      · rw [if_pos (i_has1 hq (by omega)), if_pos (i_has1 hq (by omega))]
        by_cases hpq : nI p = nI q
        · rw [if_pos hpq, Option.bind_some, if_pos rfl, if_pos hpq, bad.1, bad.2]
          exact ⟨_, _, rfl, rfl, rfl, Or.inr ⟨rfl, rfl⟩⟩
        · rw [if_neg hpq, Option.bind_some, if_neg (by decide), if_neg hpq]
          have cl : ∀ (r k m : Nat), k + r = 4 → r < m → f_X8_parts_L18w (σ.1 1) (σ.1 2) (σ.2.2 1) (nI p) (nI q) m (nI k) = some (i_pt (τ.1 2) p q r k, σ.1 1) := by
            intro r
            induction r with
            | zero =>
              intro k m h1 h2
              obtain ⟨m, rfl⟩ : ∃ j, m = j + 1 := ⟨m - 1, by omega⟩
              show f_X8_parts_L18 (σ.1 1) (σ.1 2) (σ.2.2 1) (nI p) (nI q) (f_X8_parts_L18w (σ.1 1) (σ.1 2) (σ.2.2 1) (nI p) (nI q) m) (nI k) = _
              unfold f_X8_parts_L18
              rw [show (4 : Int32) = nI 4 from rfl, if_pos (nI_le (by omega) (by omega))]
              rfl
            | succ r ih =>
              intro k m h1 h2
              obtain ⟨m, rfl⟩ : ∃ j, m = j + 1 := ⟨m - 1, by omega⟩
              have i2 := ih (k + 1) m (by omega) (by omega)
              show f_X8_parts_L18 (σ.1 1) (σ.1 2) (σ.2.2 1) (nI p) (nI q) (f_X8_parts_L18w (σ.1 1) (σ.1 2) (σ.2.2 1) (nI p) (nI q) m) (nI k) = _
              unfold f_X8_parts_L18 f_X8_parts_J66
              rw [show (4 : Int32) = nI 4 from rfl, if_neg (nI_ge (by omega) (by omega)), (p2_mark r0 v0 (nI k) p hp).1, Option.bind_some, (p2_mark r0 v0 (nI k) q hq).1, Option.bind_some, nI_1, i2, i_pt]
              by_cases a1 : p2_mk (τ.1 2) (nI k) 5 (nI p) = -1
              · rw [if_pos a1, if_pos (Or.inl a1)]
              · rw [if_neg a1]
                by_cases a2 : p2_mk (τ.1 2) (nI k) 5 (nI q) = -1
                · rw [if_pos a2, if_pos (Or.inr (Or.inl a2))]
                · rw [if_neg a2]
                  by_cases a3 : p2_mk (τ.1 2) (nI k) 5 (nI p) = p2_mk (τ.1 2) (nI k) 5 (nI q)
                  · rw [if_pos a3, if_pos (Or.inr (Or.inr a3))]
                  · rw [if_neg a3, if_neg (fun z => by rcases z with z | z | z; exact a1 z; exact a2 z; exact a3 z)]
          have ml : ∀ (k m : Nat), k ≤ 4 → k < m → f_X9_parts_L31w (τ.1 2) (τ.1 6) (nI p) (nI q) m (i_pt (τ.1 2) p q (4 - k) k) (nI k - 1) = some (i_pt (τ.1 2) p q 4 0, τ.1 6) := by
            intro k
            induction k with
            | zero =>
              intro m h1 h2
              obtain ⟨m, rfl⟩ : ∃ j, m = j + 1 := ⟨m - 1, by omega⟩
              show f_X9_parts_L31 (τ.1 2) (τ.1 6) (nI p) (nI q) (f_X9_parts_L31w (τ.1 2) (τ.1 6) (nI p) (nI q) m) _ (nI 0 - 1) = _
              unfold f_X9_parts_L31
              rw [if_pos (by decide)]
            | succ k ih =>
              intro m h1 h2
              obtain ⟨m, rfl⟩ : ∃ j, m = j + 1 := ⟨m - 1, by omega⟩
              have i2 := ih m (by omega) (by omega)
              rw [← i2, show 4 - k = (4 - (k + 1)) + 1 by omega, i_pt]
              show f_X9_parts_L31 (τ.1 2) (τ.1 6) (nI p) (nI q) (f_X9_parts_L31w (τ.1 2) (τ.1 6) (nI p) (nI q) m) _ (nI (k + 1) - 1) = _
              unfold f_X9_parts_L31 f_X9_parts_J62 f_X9_parts_J63 f_X9_parts_J92 f_X9_parts_J93
              rw [nI_pred, if_neg (nI_pos (by omega)), (p2_mark r0 v0 (nI k) p hp).2, Option.bind_some, (p2_mark r0 v0 (nI k) q hq).2, Option.bind_some, Option.bind_some, Option.bind_some, pk_m1']
              by_cases a1 : p2_mk (τ.1 2) (nI k) 5 (nI p) = -1
              · rw [if_pos a1, if_pos rfl, if_pos (Or.inl a1)]
              · rw [if_neg a1]
                by_cases a2 : p2_mk (τ.1 2) (nI k) 5 (nI q) = -1
                · rw [if_pos a2, if_pos rfl, if_pos (Or.inr (Or.inl a2))]
                · rw [if_neg a2, if_neg (by decide)]
                  by_cases a3 : p2_mk (τ.1 2) (nI k) 5 (nI p) = p2_mk (τ.1 2) (nI k) 5 (nI q)
                  · rw [if_pos a3, if_pos (Or.inr (Or.inr a3))]
                  · rw [if_neg a3, if_neg (fun z => by rcases z with z | z | z; exact a1 z; exact a2 z; exact a3 z)]
          refine ⟨_, _, cl 4 0 cx_N0 (by omega) (by unfold cx_N0; omega), ml 4 cx_N0 (by omega) (by unfold cx_N0; omega), rfl, Or.inl ⟨rfl, rfl⟩⟩
      · rw [if_neg hq, Option.bind_some, if_pos rfl, if_neg hq, bad.1, bad.2]
        exact ⟨_, _, rfl, rfl, rfl, Or.inr ⟨rfl, rfl⟩⟩
    · rw [if_neg hp, Option.bind_some, if_pos rfl, if_neg hp, bad.1, bad.2]
      exact ⟨_, _, rfl, rfl, rfl, Or.inr ⟨rfl, rfl⟩⟩
  obtain ⟨y1, y2, a1, a2, a3, a4⟩ := done
  refine ⟨y1, y2, a1, a2, a3, ?_⟩
  rcases a4 with ⟨b1, b2⟩ | ⟨b1, b2⟩
  · rw [b1, b2]; exact i_Rsame h
  · rw [b1, b2]; exact i_Rbad h 0 (by decide)
theorem i_limb1 {x : Nat → Int64} {lb : Nat → Int32} {wd : Int32} {off l : Nat} (h : p2_F1 x lb wd off l) (ho : off + 16 ≤ 4320) (rf mf : Nat → Int32) (p : Int32) (hp : 0 ≤ p.toInt) : ∃ a, Option.bind (f_X3_length 4 x 0) (fun u8 => if u8 ≤ p then (some (((-1), rf))) else (cx_gd (cx_ib p 4) (some ((Int64.toInt32 (x (cx_ix p)), rf))))) = some (a, rf) ∧ (if wd ≤ p then (some (((-1 : Int32), mf))) else (if 16 ≤ p then (f_X9_limb_J48 lb mf (nI off) 0) else (f_X9_limb_J48 lb mf (nI off) p))) = some (a, mf) := by
  obtain ⟨i, hi, rfl⟩ := nI_of (x := p) (fun q => by have := p2_lt.mp q; have e : (0 : Int32).toInt = 0 := rfl; omega)
  rw [p2_length h, Option.bind_some]
  obtain ⟨h1, h2, h3, h4, h5⟩ := h
  rw [h2]
  by_cases c : l ≤ i
  · rw [if_pos (nI_le c hi), if_pos (nI_le c hi)]
    exact ⟨_, rfl, rfl⟩
  · rw [if_neg (nI_ge (by omega) (by omega)), if_neg (nI_ge (by omega) (by omega)), show (16 : Int32) = nI 16 from rfl, if_neg (nI_ge (by omega) (by omega)), p2_gd (p2_ib (by omega) (by decide)), p2_ix (n := i) (by omega), h3 i (by omega)]
    unfold f_X9_limb_J48
    rw [nI_add, p2_gd (p2_ib (by omega) (by decide)), p2_ix (n := off + i) (by omega)]
    exact ⟨lb (off + i), by rw [Int32.toInt32_toInt64], rfl⟩
theorem i_limb : ob_limb i_Inv := by
  intro σ τ p1 p2 h
  obtain ⟨hA, hR, hK0, hK1, hT, hF, hO1, hO2, hS1, hS2⟩ := id h
  obtain ⟨la, lc, f1, f2⟩ := i_frac hF
  have bad : f_X8_limb_J13 (σ.1 1) = some (-2, upd (σ.1 1) 0 ((σ.1 1) 0 + 1)) ∧ f_X9_limb_J14 (τ.1 6) (τ.2.2 0) = some (-2, p2_rf (τ.1 6) (τ.2.2 0) 0) := by
    unfold f_X8_limb_J13 f_X9_limb_J14
    rw [p2_refused2, p2_bad]
    exact ⟨rfl, rfl⟩
  have ez : (0 : Int32).toInt = 0 := rfl
  have done : (∃ y1 y2, f_X8_limb (σ.1 1) (σ.2.1 0) (σ.2.1 1) p1 p2 = some y1 ∧ f_X9_limb (τ.1 0) (τ.1 1) (τ.1 6) (τ.2.2 0) p1 p2 = some y2 ∧ y1.1 = y2.1 ∧ ((y1.2 = σ.1 1 ∧ y2.2 = τ.1 6) ∨ (y1.2 = upd (σ.1 1) 0 ((σ.1 1) 0 + 1) ∧ y2.2 = p2_rf (τ.1 6) (τ.2.2 0) 0))) := by
    have n10 : ¬ ((1 : Int32) = 0) := by decide
    rcases i_01 p1 with hp | hp
    · have hw : f_X8_within p1 0 1 = some 1 := by rcases hp with rfl | rfl <;> (rw [p2_within]; rfl)
      have hin : f_X9_in (Int32.toInt64 p1) 0 1 = some 1 := by rcases hp with rfl | rfl <;> (rw [p2_in]; rfl)
      by_cases hi : 0 ≤ p2.toInt
      · have h0 : (0 : Int32) ≤ p2 := p2_le.mpr (by rw [ez]; exact hi)
        rcases hp with rfl | rfl
        · obtain ⟨a, a1, a2⟩ := i_limb1 f1 (by decide) (σ.1 1) (τ.1 6) p2 hi
          have hC : f_X8_limb (σ.1 1) (σ.2.1 0) (σ.2.1 1) 0 p2 = some (a, σ.1 1) := by
            unfold f_X8_limb f_X8_limb_J41_1
            rw [hw, Option.bind_some, if_neg n10, if_pos h0, if_pos rfl, a1]
          have hM : f_X9_limb (τ.1 0) (τ.1 1) (τ.1 6) (τ.2.2 0) 0 p2 = some (a, τ.1 6) := by
            unfold f_X9_limb
            rw [hin, Option.bind_some, if_neg n10, if_pos h0, p2_gd (by decide)]
            exact a2
          exact ⟨_, _, hC, hM, rfl, Or.inl ⟨rfl, rfl⟩⟩
        · obtain ⟨a, a1, a2⟩ := i_limb1 f2 (by decide) (σ.1 1) (τ.1 6) p2 hi
          have hC : f_X8_limb (σ.1 1) (σ.2.1 0) (σ.2.1 1) 1 p2 = some (a, σ.1 1) := by
            unfold f_X8_limb f_X8_limb_J41
            rw [hw, Option.bind_some, if_neg n10, if_pos h0, if_neg n10, a1]
          have hM : f_X9_limb (τ.1 0) (τ.1 1) (τ.1 6) (τ.2.2 0) 1 p2 = some (a, τ.1 6) := by
            unfold f_X9_limb
            rw [hin, Option.bind_some, if_neg n10, if_pos h0, p2_gd (by decide)]
            exact a2
          exact ⟨_, _, hC, hM, rfl, Or.inl ⟨rfl, rfl⟩⟩
      · have h0 : ¬ (0 : Int32) ≤ p2 := fun q => hi (by have := p2_le.mp q; rw [ez] at this; exact this)
        have hC : f_X8_limb (σ.1 1) (σ.2.1 0) (σ.2.1 1) p1 p2 = some (-2, upd (σ.1 1) 0 ((σ.1 1) 0 + 1)) := by
          unfold f_X8_limb
          rw [hw, Option.bind_some, if_neg n10, if_neg h0, bad.1]
        have hM : f_X9_limb (τ.1 0) (τ.1 1) (τ.1 6) (τ.2.2 0) p1 p2 = some (-2, p2_rf (τ.1 6) (τ.2.2 0) 0) := by
          unfold f_X9_limb
          rw [hin, Option.bind_some, if_neg n10, if_neg h0, bad.2]
        exact ⟨_, _, hC, hM, rfl, Or.inr ⟨rfl, rfl⟩⟩
    · have hC : f_X8_limb (σ.1 1) (σ.2.1 0) (σ.2.1 1) p1 p2 = some (-2, upd (σ.1 1) 0 ((σ.1 1) 0 + 1)) := by
        unfold f_X8_limb
        rw [p2_within, Option.bind_some, if_pos (p2_b0.mpr hp), bad.1]
      have hM : f_X9_limb (τ.1 0) (τ.1 1) (τ.1 6) (τ.2.2 0) p1 p2 = some (-2, p2_rf (τ.1 6) (τ.2.2 0) 0) := by
        unfold f_X9_limb
        rw [p2_in, Option.bind_some, if_pos (p2_b0.mpr (by rw [p2_l]; exact hp)), bad.2]
      exact ⟨_, _, hC, hM, rfl, Or.inr ⟨rfl, rfl⟩⟩
  obtain ⟨y1, y2, a1, a2, a3, a4⟩ := done
  refine ⟨y1, y2, a1, a2, a3, ?_⟩
  rcases a4 with ⟨b1, b2⟩ | ⟨b1, b2⟩
  · rw [b1, b2]; exact i_Rsame h
  · rw [b1, b2]; exact i_Rbad h 0 (by decide)
theorem i_clear : ob_clear i_Inv := by
  intro σ τ h
  obtain ⟨hA, hR, hK0, hK1, ⟨L, l1, l2, l3, l4⟩, hF, hO1, hO2, hS1, hS2⟩ := h
  refine ⟨(σ.2.2 25, 0), (τ.2.2 1, 0), rfl, rfl, by rw [l2, l3], hA, hR, hK0, hK1, ⟨0, by decide, rfl, rfl, fun j hj => by omega⟩, hF, hO1, hO2, hS1, hS2⟩
theorem i_byte (v : Int64) (s : Int64) : ∃ m : Nat, m < 256 ∧ Int64.toInt32 ((v >>> s) &&& 255) = nI m ∧ vp_nar .char ((Int32.toUInt32 (Int64.toInt32 ((v >>> s) &&& 255)) % 65536).toInt32) = nI m := by
  have e : ∃ m : Nat, m < 256 ∧ ((v >>> s) &&& 255) = lN m := by
    refine ⟨(v >>> s).toBitVec.toNat % 256, Nat.mod_lt _ (by decide), ?_⟩
    apply Int64.toBitVec_inj.mp
    apply BitVec.eq_of_toNat_eq
    have h : ((v >>> s) &&& 255).toBitVec.toNat = (v >>> s).toBitVec.toNat &&& 255 := BitVec.toNat_and ..
    rw [h, show (255 : Nat) = 2 ^ 8 - 1 from rfl, Nat.and_two_pow_sub_one_eq_mod]
    show (v >>> s).toBitVec.toNat % 256 = (BitVec.ofNat 64 ((v >>> s).toBitVec.toNat % 256)).toNat
    rw [BitVec.toNat_ofNat]
    omega
  obtain ⟨m, m1, m2⟩ := e
  refine ⟨m, m1, by rw [m2, lN_i], ?_⟩
  rw [m2, lN_i, pk_vc, pk_char, pk_tn (by omega), Nat.mod_eq_of_lt (by omega)]
theorem i_type : ob_type i_Inv := by
  intro σ τ p1 p3 h
  obtain ⟨hA, hR, hK0, hK1, hT, hF, hO1, hO2, hS1, hS2⟩ := id h
  obtain ⟨L, l1, l2, l3, l4⟩ := id hT
  have e8 : (8 : Int32).toInt = 8 := rfl
  have e1 : (1 : Int32).toInt = 1 := rfl
  unfold f_X8_type f_X9_type
  by_cases hn : (1 : Int32).toInt ≤ p3.toInt ∧ p3.toInt ≤ (8 : Int32).toInt
  · obtain ⟨n, hnn, rfl⟩ := nI_of (x := p3) (fun q => by have := p2_lt.mp q; have e : (0 : Int32).toInt = 0 := rfl; omega)
    rw [nI_toInt hnn, e1, e8] at hn
    have hw : f_X8_within (nI n) 1 8 = some 1 := by rw [p2_within, p2_b, if_pos (by rw [nI_toInt hnn, e1, e8]; exact hn)]
    have hin : f_X9_in (Int32.toInt64 (nI n)) 1 8 = some 1 := by rw [p2_in, p2_b, if_pos (by rw [p2_l, nI_toInt hnn]; exact hn)]
    rw [hw, Option.bind_some, if_neg (by decide), hin, Option.bind_some, if_neg (by decide), l2, l3, nI_add]
    unfold f_X6_hasRoom
    rw [show (300 : Int32) = nI 300 from rfl, pk_sub l1]
    by_cases hf : L + n ≤ 300
    · rw [if_neg (fun q => by have := (nI_ltI (by omega) (by omega)).mp q; omega), Option.bind_some, if_neg (by decide), if_pos (nI_le hf (by omega))]
      have loop : ∀ (r L m m' : Nat) (a b : Nat → Int32), L + r ≤ 300 → r < m → r < m' → (∀ j, j < L → a j = b j ∧ 0 ≤ (b j).toInt ∧ (b j).toInt ≤ 255) → ∃ a' b', f_X6_append_L5w p1 m (nI L) a (nI r - 1) = some (nI (L + r), nI (L + r), a') ∧ f_X9_type_L39w (τ.1 6) p1 m' (nI L) b (nI r - 1) = some (nI (L + r), nI (L + r), τ.1 6, b') ∧ (∀ j, j < L + r → a' j = b' j ∧ 0 ≤ (b' j).toInt ∧ (b' j).toInt ≤ 255) := by
        intro r
        induction r with
        | zero =>
          intro L m m' a b q1 q2 q2' q3
          obtain ⟨m, rfl⟩ : ∃ j, m = j + 1 := ⟨m - 1, by omega⟩
          obtain ⟨m', rfl⟩ : ∃ j, m' = j + 1 := ⟨m' - 1, by omega⟩
          refine ⟨a, b, ?_, ?_, q3⟩
          · show f_X6_append_L5 p1 (f_X6_append_L5w p1 m) (nI L) a (nI 0 - 1) = _
            unfold f_X6_append_L5 f_X6_append_J58
            rw [if_pos (by decide)]
            rfl
          · show f_X9_type_L39 (τ.1 6) p1 (f_X9_type_L39w (τ.1 6) p1 m') (nI L) b (nI 0 - 1) = _
            unfold f_X9_type_L39
            rw [if_pos (by decide)]
            rfl
        | succ r ih =>
          intro L m m' a b q1 q2 q2' q3
          obtain ⟨m, rfl⟩ : ∃ j, m = j + 1 := ⟨m - 1, by omega⟩
          obtain ⟨m', rfl⟩ : ∃ j, m' = j + 1 := ⟨m' - 1, by omega⟩
          obtain ⟨x, x1, x2, x3⟩ := i_byte p1 (Int32.toInt64 (8 * nI r) &&& 63)
          obtain ⟨a', b', g1, g2, g3⟩ := ih (L + 1) m m' (upd a L (nI x)) (upd b L (nI x)) (by omega) (by omega) (by omega) (fun j hj => by
            by_cases e : j = L
            · subst e
              rw [p2_us, p2_us, nI_toInt (by omega)]
              exact ⟨rfl, by omega, by omega⟩
            · rw [p2_un e, p2_un e]; exact q3 j (by omega))
          rw [show L + 1 + r = L + (r + 1) by omega] at g1 g2 g3
          refine ⟨a', b', ?_, ?_, g3⟩
          · rw [← g1]
            show f_X6_append_L5 p1 (f_X6_append_L5w p1 m) (nI L) a (nI (r + 1) - 1) = _
            unfold f_X6_append_L5
            rw [nI_pred, if_neg (nI_pos (by omega)), show (300 : Int32) = nI 300 from rfl, if_neg (nI_ge (by omega) (by omega)), p2_gd (p2_ib (by omega) (by decide)), p2_ix (n := L) (by omega), x3, nI_1, pk_m1']
            rfl
          · rw [← g2]
            show f_X9_type_L39 (τ.1 6) p1 (f_X9_type_L39w (τ.1 6) p1 m') (nI L) b (nI (r + 1) - 1) = _
            unfold f_X9_type_L39
            rw [nI_pred, if_neg (nI_pos (by omega)), p2_gd (p2_ib (by omega) (by decide)), p2_ix (n := L) (by omega), x2, nI_1, pk_m1']
            rfl
      obtain ⟨a', b', g1, g2, g3⟩ := loop n L cx_N0 cx_N0 (σ.1 22) (τ.1 7) hf (by unfold cx_N0; omega) (by unfold cx_N0; omega) l4
      unfold f_X6_append
      rw [g1, Option.bind_some]
      exact ⟨_, _, rfl, g2, rfl, hA, hR, hK0, hK1, ⟨L + n, hf, rfl, rfl, g3⟩, hF, hO1, hO2, hS1, hS2⟩
    · rw [if_pos ((nI_ltI (by omega) (by omega)).mpr (by omega)), Option.bind_some, if_pos rfl, if_neg (nI_ge (by omega) (by omega)), i_full, Option.bind_some, p2_full, Option.bind_some]
      exact ⟨_, _, rfl, rfl, rfl, hA, i_Rup hR 2 (by decide), hK0, hK1, ⟨L, l1, rfl, rfl, l4⟩, hF, hO1, hO2, hS1, hS2⟩
  · rw [p2_within, Option.bind_some, if_pos (p2_b0.mpr hn), p2_refused2, Option.bind_some, p2_in, Option.bind_some, if_pos (p2_b0.mpr (by rw [p2_l]; exact hn)), p2_bad, Option.bind_some]
    exact ⟨_, _, rfl, rfl, rfl, hA, i_Rup hR 0 (by decide), hK0, hK1, hT, hF, hO1, hO2, hS1, hS2⟩
