/-! SURE, DOUBT, RIGHT, BEST -/
def k_bits (f : Nat → Bool) : Nat → Int32
  | 0 => 0
  | h + 1 => if f h = true then k_bits f h ||| (1 <<< (nI h &&& 31)) else k_bits f h
def k_sr (n0 A c : Nat) (S : Nat → Nat → Nat) (h : Nat) : Bool := decide (¬ S h (k_ll n0 (S h) n0) * 100 < A * c)
theorem k_sr_b (n0 A c : Nat) (S : Nat → Nat → Nat) (h : Nat) : p2_b (¬ S h (k_ll n0 (S h) n0) * 100 < A * c) = p2_b (k_sr n0 A c S h = true) := by
  unfold k_sr p2_b
  by_cases q : ¬ S h (k_ll n0 (S h) n0) * 100 < A * c
  · rw [if_pos q, if_pos (decide_eq_true q)]
  · rw [if_neg q, if_neg (by rw [decide_eq_false q]; decide)]
theorem i_or0 (x : Int32) : x ||| 0 = x := Int32.or_zero
theorem i_sure : ob_sure i_Inv := by
  intro σ τ p1 h
  obtain ⟨⟨n0, n1, n2, n3, n4, hRB, hsm⟩, hR, hK0, hK1, hT, hF, hO1, hO2, hS1, hS2⟩ := h
  obtain ⟨r0, r1, r2, r3, r4, rs, v0, v1, v2, v3, v4, v5⟩ := id hRB
  have hn0 := r0.1
  have hn1 := r1.1
  have hn2 := r2.1
  have hn3 := r3.1
  have hn4 := r4.1
  by_cases hc : (0 : Int32).toInt ≤ p1.toInt ∧ p1.toInt ≤ (100 : Int32).toInt
  · have e0 : (0 : Int32).toInt = 0 := rfl
    have e1 : (100 : Int32).toInt = 100 := rfl
    obtain ⟨c, hc1, rfl⟩ := nI_of (x := p1) (fun q => by have := p2_lt.mp q; omega)
    have hc0 : c ≤ 100 := by rw [nI_toInt hc1] at hc; omega
    have hw : f_X8_within (nI c) 0 100 = some 1 := by rw [p2_within, p2_b, if_pos hc]
    have hin : f_X9_in (Int32.toInt64 (nI c)) 0 100 = some 1 := by rw [p2_in, p2_b, if_pos (by rw [p2_l]; exact hc)]
    obtain ⟨y, y1, y2, ⟨d, d1, d2, d3, d4, hSM⟩, hon, hsn⟩ := i_any hRB hsm hO1 hS1 1 (by omega) (by omega)
    obtain ⟨li, l1, w1, is1, V1, b1, s1, s2, s3, s4, ⟨g1, g2, g3⟩, w6, hLI⟩ := i_ref hRB hF (τ.1 10) (τ.1 9) (τ.2.2 9) (τ.2.2 11)
    by_cases hA : q_A (τ.1 2) n0 n1 n2 n3 n4 = 0
    · apply i_ex
      · unfold f_X8_sure
        rw [hw, Option.bind_some, if_neg (by decide), show f_X8_anyWay (σ.2.2 0) (σ.1 2) (σ.2.2 1) (σ.1 3) (σ.2.2 2) (σ.1 4) (σ.2.2 3) (σ.1 5) (σ.2.2 4) (σ.1 6) (σ.2.2 5) (σ.2.2 6) (σ.2.2 29) (σ.2.2 30) (σ.2.2 31) (σ.2.2 32) (σ.2.2 33) (σ.1 24) (σ.1 25) (σ.1 26) (σ.1 27) (σ.1 28) (σ.1 29) (σ.1 30) (σ.1 31) (σ.2.1 4) (σ.2.1 5) (σ.2.1 6) (σ.1 32) (σ.2.1 10) (σ.2.1 11) (σ.2.1 12) (σ.2.1 13) (σ.1 42) (σ.2.1 14) (σ.2.2 39) (σ.2.2 40) 1 = _ from y1, Option.bind_some, if_pos (by rw [y2, p2_b, if_neg (fun q => q hA)]), i_no, Option.bind_some]
      · unfold f_X9_sure
        rw [hin, Option.bind_some, if_neg (by decide), b1, Option.bind_some, show f_X9_shares (τ.1 0) (τ.1 1) (τ.1 2) (τ.1 9) li (-1) (-1) (τ.2.2 9) (-1) (τ.2.2 11) (-1) = _ from s1, Option.bind_some, p2_gd (by decide), if_pos (w6.mpr hA), p2_no, Option.bind_some]
      · exact ⟨rfl, ⟨n0, n1, n2, n3, n4, hRB, Or.inr ⟨d, d2, d3, d4, hSM⟩⟩, i_Rup hR 1 (by decide), hK0, hK1, hT, ⟨V1, s2, g1, g2, g3⟩, hon, hO2, hsn, hS2⟩
    · have hpe := hSM.1
      have hAl := i_A_lt hRB
      have hSA : ∀ k x, q_S (τ.1 2) n0 n1 n2 n3 n4 k x ≤ q_A (τ.1 2) n0 n1 n2 n3 n4 := fun k x => i_S_le _ n0 n2 k x
      have cl : ∀ (r h m : Nat) (mi th : Nat → Int64), h + r = n2 → r < m → ∃ mi' th', f_X8_sure_L36w (σ.1 1) (σ.2.2 3) (nI c) y.2.1 y.2.2.1 y.2.2.2.1 y.2.2.2.2.1 y.2.2.2.2.2.1 y.2.2.2.2.2.2.1 y.2.2.2.2.2.2.2.1 y.2.2.2.2.2.2.2.2.1 y.2.2.2.2.2.2.2.2.2.1 y.2.2.2.2.2.2.2.2.2.2.1 y.2.2.2.2.2.2.2.2.2.2.2.1 y.2.2.2.2.2.2.2.2.2.2.2.2.1 y.2.2.2.2.2.2.2.2.2.2.2.2.2.1 y.2.2.2.2.2.2.2.2.2.2.2.2.2.2.1 y.2.2.2.2.2.2.2.2.2.2.2.2.2.2.2.1 y.2.2.2.2.2.2.2.2.2.2.2.2.2.2.2.2.1 y.2.2.2.2.2.2.2.2.2.2.2.2.2.2.2.2.2.1 y.2.2.2.2.2.2.2.2.2.2.2.2.2.2.2.2.2.2.1 y.2.2.2.2.2.2.2.2.2.2.2.2.2.2.2.2.2.2.2.1 y.2.2.2.2.2.2.2.2.2.2.2.2.2.2.2.2.2.2.2.2.1 y.2.2.2.2.2.2.2.2.2.2.2.2.2.2.2.2.2.2.2.2.2.1 y.2.2.2.2.2.2.2.2.2.2.2.2.2.2.2.2.2.2.2.2.2.2.1 y.2.2.2.2.2.2.2.2.2.2.2.2.2.2.2.2.2.2.2.2.2.2.2.1 y.2.2.2.2.2.2.2.2.2.2.2.2.2.2.2.2.2.2.2.2.2.2.2.2.1 y.2.2.2.2.2.2.2.2.2.2.2.2.2.2.2.2.2.2.2.2.2.2.2.2.2.1 y.2.2.2.2.2.2.2.2.2.2.2.2.2.2.2.2.2.2.2.2.2.2.2.2.2.2 m mi th (k_bits (k_sr n0 (q_A (τ.1 2) n0 n1 n2 n3 n4) c (q_S (τ.1 2) n0 n1 n2 n3 n4)) h) (nI h) = some (k_bits (k_sr n0 (q_A (τ.1 2) n0 n1 n2 n3 n4) c (q_S (τ.1 2) n0 n1 n2 n3 n4)) n2, y.2.1, σ.1 1, y.2.2.1, y.2.2.2.1, y.2.2.2.2.1, y.2.2.2.2.2.1, y.2.2.2.2.2.2.1, y.2.2.2.2.2.2.2.1, y.2.2.2.2.2.2.2.2.1, y.2.2.2.2.2.2.2.2.2.1, y.2.2.2.2.2.2.2.2.2.2.1, y.2.2.2.2.2.2.2.2.2.2.2.1, y.2.2.2.2.2.2.2.2.2.2.2.2.1, y.2.2.2.2.2.2.2.2.2.2.2.2.2.1, y.2.2.2.2.2.2.2.2.2.2.2.2.2.2.1, y.2.2.2.2.2.2.2.2.2.2.2.2.2.2.2.1, y.2.2.2.2.2.2.2.2.2.2.2.2.2.2.2.2.1, y.2.2.2.2.2.2.2.2.2.2.2.2.2.2.2.2.2.1, y.2.2.2.2.2.2.2.2.2.2.2.2.2.2.2.2.2.2.1, y.2.2.2.2.2.2.2.2.2.2.2.2.2.2.2.2.2.2.2.1, y.2.2.2.2.2.2.2.2.2.2.2.2.2.2.2.2.2.2.2.2.1, y.2.2.2.2.2.2.2.2.2.2.2.2.2.2.2.2.2.2.2.2.2.1, y.2.2.2.2.2.2.2.2.2.2.2.2.2.2.2.2.2.2.2.2.2.2.1, y.2.2.2.2.2.2.2.2.2.2.2.2.2.2.2.2.2.2.2.2.2.2.2.1, y.2.2.2.2.2.2.2.2.2.2.2.2.2.2.2.2.2.2.2.2.2.2.2.2.1, y.2.2.2.2.2.2.2.2.2.2.2.2.2.2.2.2.2.2.2.2.2.2.2.2.2.1, y.2.2.2.2.2.2.2.2.2.2.2.2.2.2.2.2.2.2.2.2.2.2.2.2.2.2, mi', th') := by
        intro r
        induction r with
        | zero =>
          intro h m mi th h1 h2
          obtain ⟨m, rfl⟩ : ∃ j, m = j + 1 := ⟨m - 1, by omega⟩
          refine ⟨mi, th, ?_⟩
          show f_X8_sure_L36 (σ.1 1) (σ.2.2 3) (nI c) y.2.1 y.2.2.1 y.2.2.2.1 y.2.2.2.2.1 y.2.2.2.2.2.1 y.2.2.2.2.2.2.1 y.2.2.2.2.2.2.2.1 y.2.2.2.2.2.2.2.2.1 y.2.2.2.2.2.2.2.2.2.1 y.2.2.2.2.2.2.2.2.2.2.1 y.2.2.2.2.2.2.2.2.2.2.2.1 y.2.2.2.2.2.2.2.2.2.2.2.2.1 y.2.2.2.2.2.2.2.2.2.2.2.2.2.1 y.2.2.2.2.2.2.2.2.2.2.2.2.2.2.1 y.2.2.2.2.2.2.2.2.2.2.2.2.2.2.2.1 y.2.2.2.2.2.2.2.2.2.2.2.2.2.2.2.2.1 y.2.2.2.2.2.2.2.2.2.2.2.2.2.2.2.2.2.1 y.2.2.2.2.2.2.2.2.2.2.2.2.2.2.2.2.2.2.1 y.2.2.2.2.2.2.2.2.2.2.2.2.2.2.2.2.2.2.2.1 y.2.2.2.2.2.2.2.2.2.2.2.2.2.2.2.2.2.2.2.2.1 y.2.2.2.2.2.2.2.2.2.2.2.2.2.2.2.2.2.2.2.2.2.1 y.2.2.2.2.2.2.2.2.2.2.2.2.2.2.2.2.2.2.2.2.2.2.1 y.2.2.2.2.2.2.2.2.2.2.2.2.2.2.2.2.2.2.2.2.2.2.2.1 y.2.2.2.2.2.2.2.2.2.2.2.2.2.2.2.2.2.2.2.2.2.2.2.2.1 y.2.2.2.2.2.2.2.2.2.2.2.2.2.2.2.2.2.2.2.2.2.2.2.2.2.1 y.2.2.2.2.2.2.2.2.2.2.2.2.2.2.2.2.2.2.2.2.2.2.2.2.2.2 (f_X8_sure_L36w (σ.1 1) (σ.2.2 3) (nI c) y.2.1 y.2.2.1 y.2.2.2.1 y.2.2.2.2.1 y.2.2.2.2.2.1 y.2.2.2.2.2.2.1 y.2.2.2.2.2.2.2.1 y.2.2.2.2.2.2.2.2.1 y.2.2.2.2.2.2.2.2.2.1 y.2.2.2.2.2.2.2.2.2.2.1 y.2.2.2.2.2.2.2.2.2.2.2.1 y.2.2.2.2.2.2.2.2.2.2.2.2.1 y.2.2.2.2.2.2.2.2.2.2.2.2.2.1 y.2.2.2.2.2.2.2.2.2.2.2.2.2.2.1 y.2.2.2.2.2.2.2.2.2.2.2.2.2.2.2.1 y.2.2.2.2.2.2.2.2.2.2.2.2.2.2.2.2.1 y.2.2.2.2.2.2.2.2.2.2.2.2.2.2.2.2.2.1 y.2.2.2.2.2.2.2.2.2.2.2.2.2.2.2.2.2.2.1 y.2.2.2.2.2.2.2.2.2.2.2.2.2.2.2.2.2.2.2.1 y.2.2.2.2.2.2.2.2.2.2.2.2.2.2.2.2.2.2.2.2.1 y.2.2.2.2.2.2.2.2.2.2.2.2.2.2.2.2.2.2.2.2.2.1 y.2.2.2.2.2.2.2.2.2.2.2.2.2.2.2.2.2.2.2.2.2.2.1 y.2.2.2.2.2.2.2.2.2.2.2.2.2.2.2.2.2.2.2.2.2.2.2.1 y.2.2.2.2.2.2.2.2.2.2.2.2.2.2.2.2.2.2.2.2.2.2.2.2.1 y.2.2.2.2.2.2.2.2.2.2.2.2.2.2.2.2.2.2.2.2.2.2.2.2.2.1 y.2.2.2.2.2.2.2.2.2.2.2.2.2.2.2.2.2.2.2.2.2.2.2.2.2.2 m) mi th _ _ = _
          unfold f_X8_sure_L36
          rw [if_pos (by rw [r2.2.1]; exact nI_le (by omega) (by omega)), show h = n2 by omega]
        | succ r ih =>
          intro h m mi th h1 h2
          obtain ⟨m, rfl⟩ : ∃ j, m = j + 1 := ⟨m - 1, by omega⟩
          obtain ⟨mi1, th1, a1⟩ := i_isSureC (to := y.2.2.2.2.2.2.2.2.2.2.2.2.2.2.2.2.2.2.2.2.2.1) (sh := y.2.2.2.2.2.2.2.2.2.2.2.2.2.2.2.2.2.2.2.2.2.2.1) (mi := mi) (th := th) (c := c) (k := h) hn0 (by omega) hSM.2.2.1 (fun x hx => hSM.2.2.2.1 h x (by omega) hx) hAl (fun x => hSA h x) hc0
          rw [← hpe] at a1
          obtain ⟨mi', th', i2⟩ := ih (h + 1) m mi1 th1 (by omega) (by omega)
          refine ⟨mi', th', ?_⟩
          rw [← i2]
          show f_X8_sure_L36 (σ.1 1) (σ.2.2 3) (nI c) y.2.1 y.2.2.1 y.2.2.2.1 y.2.2.2.2.1 y.2.2.2.2.2.1 y.2.2.2.2.2.2.1 y.2.2.2.2.2.2.2.1 y.2.2.2.2.2.2.2.2.1 y.2.2.2.2.2.2.2.2.2.1 y.2.2.2.2.2.2.2.2.2.2.1 y.2.2.2.2.2.2.2.2.2.2.2.1 y.2.2.2.2.2.2.2.2.2.2.2.2.1 y.2.2.2.2.2.2.2.2.2.2.2.2.2.1 y.2.2.2.2.2.2.2.2.2.2.2.2.2.2.1 y.2.2.2.2.2.2.2.2.2.2.2.2.2.2.2.1 y.2.2.2.2.2.2.2.2.2.2.2.2.2.2.2.2.1 y.2.2.2.2.2.2.2.2.2.2.2.2.2.2.2.2.2.1 y.2.2.2.2.2.2.2.2.2.2.2.2.2.2.2.2.2.2.1 y.2.2.2.2.2.2.2.2.2.2.2.2.2.2.2.2.2.2.2.1 y.2.2.2.2.2.2.2.2.2.2.2.2.2.2.2.2.2.2.2.2.1 y.2.2.2.2.2.2.2.2.2.2.2.2.2.2.2.2.2.2.2.2.2.1 y.2.2.2.2.2.2.2.2.2.2.2.2.2.2.2.2.2.2.2.2.2.2.1 y.2.2.2.2.2.2.2.2.2.2.2.2.2.2.2.2.2.2.2.2.2.2.2.1 y.2.2.2.2.2.2.2.2.2.2.2.2.2.2.2.2.2.2.2.2.2.2.2.2.1 y.2.2.2.2.2.2.2.2.2.2.2.2.2.2.2.2.2.2.2.2.2.2.2.2.2.1 y.2.2.2.2.2.2.2.2.2.2.2.2.2.2.2.2.2.2.2.2.2.2.2.2.2.2 (f_X8_sure_L36w (σ.1 1) (σ.2.2 3) (nI c) y.2.1 y.2.2.1 y.2.2.2.1 y.2.2.2.2.1 y.2.2.2.2.2.1 y.2.2.2.2.2.2.1 y.2.2.2.2.2.2.2.1 y.2.2.2.2.2.2.2.2.1 y.2.2.2.2.2.2.2.2.2.1 y.2.2.2.2.2.2.2.2.2.2.1 y.2.2.2.2.2.2.2.2.2.2.2.1 y.2.2.2.2.2.2.2.2.2.2.2.2.1 y.2.2.2.2.2.2.2.2.2.2.2.2.2.1 y.2.2.2.2.2.2.2.2.2.2.2.2.2.2.1 y.2.2.2.2.2.2.2.2.2.2.2.2.2.2.2.1 y.2.2.2.2.2.2.2.2.2.2.2.2.2.2.2.2.1 y.2.2.2.2.2.2.2.2.2.2.2.2.2.2.2.2.2.1 y.2.2.2.2.2.2.2.2.2.2.2.2.2.2.2.2.2.2.1 y.2.2.2.2.2.2.2.2.2.2.2.2.2.2.2.2.2.2.2.1 y.2.2.2.2.2.2.2.2.2.2.2.2.2.2.2.2.2.2.2.2.1 y.2.2.2.2.2.2.2.2.2.2.2.2.2.2.2.2.2.2.2.2.2.1 y.2.2.2.2.2.2.2.2.2.2.2.2.2.2.2.2.2.2.2.2.2.2.1 y.2.2.2.2.2.2.2.2.2.2.2.2.2.2.2.2.2.2.2.2.2.2.2.1 y.2.2.2.2.2.2.2.2.2.2.2.2.2.2.2.2.2.2.2.2.2.2.2.2.1 y.2.2.2.2.2.2.2.2.2.2.2.2.2.2.2.2.2.2.2.2.2.2.2.2.2.1 y.2.2.2.2.2.2.2.2.2.2.2.2.2.2.2.2.2.2.2.2.2.2.2.2.2.2 m) mi th _ _ = _
          unfold f_X8_sure_L36 f_X8_sure_J71
          rw [if_neg (by rw [r2.2.1]; exact nI_ge (by omega) (by omega)), a1, Option.bind_some, k_sr_b, p4_bt, nI_1, k_bits]
          simp only [cx_let]
          split <;> rfl
      have ml : ∀ (r h m : Nat) (l w : Nat → Int32) (V : Nat → Nat), h + r = n2 → r < m → p4_S l w V → (∀ s, s ≠ 8 → s ≠ 9 → V s = V1 s) → ∃ l' w' V', f_X9_sure_L45w (τ.1 2) (τ.1 6) (nI c) (-1) (-1) (-1) is1 li m l w (k_bits (k_sr n0 (q_A (τ.1 2) n0 n1 n2 n3 n4) c (q_S (τ.1 2) n0 n1 n2 n3 n4)) h) (nI h) = some (k_bits (k_sr n0 (q_A (τ.1 2) n0 n1 n2 n3 n4) c (q_S (τ.1 2) n0 n1 n2 n3 n4)) n2, -1, -1, -1, l', w', τ.1 6, is1, li) ∧ p4_S l' w' V' ∧ (∀ s, s ≠ 8 → s ≠ 9 → V' s = V1 s) := by
        intro r
        induction r with
        | zero =>
          intro h m l w V h1 h2 h3 h4
          obtain ⟨m, rfl⟩ : ∃ j, m = j + 1 := ⟨m - 1, by omega⟩
          refine ⟨l, w, V, ?_, h3, h4⟩
          show f_X9_sure_L45 (τ.1 2) (τ.1 6) (nI c) (-1) (-1) (-1) is1 li (f_X9_sure_L45w (τ.1 2) (τ.1 6) (nI c) (-1) (-1) (-1) is1 li m) l w _ _ = _
          unfold f_X9_sure_L45
          rw [p2_gd (by decide), if_pos (by rw [show (τ.1 2) (cx_ix 2) = nI n2 from r2.2.2.1]; exact nI_le (by omega) (by omega)), show h = n2 by omega]
        | succ r ih =>
          intro h m l w V h1 h2 h3 h4
          obtain ⟨m, rfl⟩ : ∃ j, m = j + 1 := ⟨m - 1, by omega⟩
          have hv : ∀ x, x < 6 → V (12 + 6 * h + x) = q_S (τ.1 2) n0 n1 n2 n3 n4 h x := fun x hx => by rw [h4 _ (by omega) (by omega)]; exact s4 h x (by omega) hx
          have hnn := i_nn hRB h3 (F := q_G0 (τ.1 2) n1 n2 n3 n4) hA (k := h) (by omega) hv
          obtain ⟨l2, w2, V2, a1, a2, a3⟩ := i_isSureM (bk := τ.1 2) (c := c) (k := h) (S := q_S (τ.1 2) n0 n1 n2 n3 n4 h) hn0 (by omega) h3 hv (by rw [h4 6 (by decide) (by decide)]; exact s3) hAl (fun x => hSA h x) hc0 hnn
          obtain ⟨l', w', V', i2, i3, i4⟩ := ih (h + 1) m l2 w2 V2 (by omega) (by omega) a2 (fun s q1 q2 => by rw [a3 s q1 q2, h4 s q1 q2])
          refine ⟨l', w', V', ?_, i3, i4⟩
          rw [← i2]
          show f_X9_sure_L45 (τ.1 2) (τ.1 6) (nI c) (-1) (-1) (-1) is1 li (f_X9_sure_L45w (τ.1 2) (τ.1 6) (nI c) (-1) (-1) (-1) is1 li m) l w _ _ = _
          unfold f_X9_sure_L45 f_X9_sure_J72
          rw [p2_gd (by decide), if_neg (by rw [show (τ.1 2) (cx_ix 2) = nI n2 from r2.2.2.1]; exact nI_ge (by omega) (by omega)), a1, Option.bind_some, k_sr_b, p4_bt, nI_1, k_bits, i_or0]
          split <;> rfl
      obtain ⟨mi', th', c1⟩ := cl n2 0 cx_N0 (σ.2.1 16) (σ.2.1 17) (by omega) (by unfold cx_N0; omega)
      obtain ⟨l', w', V', m1, m2, m3⟩ := ml n2 0 cx_N0 l1 w1 V1 (by omega) (by unfold cx_N0; omega) s2 (fun _ _ _ => rfl)
      apply i_ex
      · unfold f_X8_sure
        rw [hw, Option.bind_some, if_neg (by decide), show f_X8_anyWay (σ.2.2 0) (σ.1 2) (σ.2.2 1) (σ.1 3) (σ.2.2 2) (σ.1 4) (σ.2.2 3) (σ.1 5) (σ.2.2 4) (σ.1 6) (σ.2.2 5) (σ.2.2 6) (σ.2.2 29) (σ.2.2 30) (σ.2.2 31) (σ.2.2 32) (σ.2.2 33) (σ.1 24) (σ.1 25) (σ.1 26) (σ.1 27) (σ.1 28) (σ.1 29) (σ.1 30) (σ.1 31) (σ.2.1 4) (σ.2.1 5) (σ.2.1 6) (σ.1 32) (σ.2.1 10) (σ.2.1 11) (σ.2.1 12) (σ.2.1 13) (σ.1 42) (σ.2.1 14) (σ.2.2 39) (σ.2.2 40) 1 = _ from y1, Option.bind_some, if_neg (by rw [y2, p2_b, if_pos hA]; decide)]
        exact c1
      · unfold f_X9_sure
        rw [hin, Option.bind_some, if_neg (by decide), b1, Option.bind_some, show f_X9_shares (τ.1 0) (τ.1 1) (τ.1 2) (τ.1 9) li (-1) (-1) (τ.2.2 9) (-1) (τ.2.2 11) (-1) = _ from s1, Option.bind_some, p2_gd (by decide), if_neg (fun q => hA (w6.mp q))]
        exact m1
      · exact ⟨rfl, ⟨n0, n1, n2, n3, n4, hRB, Or.inr ⟨d, d2, d3, d4, hSM⟩⟩, hR, hK0, hK1, hT, ⟨V', m2, by rw [m3 0 (by decide) (by decide)]; exact g1, by rw [m3 1 (by decide) (by decide)]; exact g2, by rw [m3 1 (by decide) (by decide)]; exact g3⟩, hon, hO2, hsn, hS2⟩
  · apply i_ex
    · unfold f_X8_sure
      rw [p2_within, Option.bind_some, if_pos (p2_b0.mpr hc), p2_refused2, Option.bind_some]
    · unfold f_X9_sure
      rw [p2_in, Option.bind_some, if_pos (p2_b0.mpr (by rw [p2_l]; exact hc)), p2_bad, Option.bind_some]
    · exact ⟨rfl, ⟨n0, n1, n2, n3, n4, hRB, hsm⟩, i_Rup hR 0 (by decide), hK0, hK1, hT, hF, hO1, hO2, hS1, hS2⟩
