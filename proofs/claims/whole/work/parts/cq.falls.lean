/-! FALLS -/
theorem p2_bT {P : Prop} [Decidable P] (h : P) : p2_b P = 1 := if_pos h
theorem p2_bF {P : Prop} [Decidable P] (h : ¬ P) : p2_b P = 0 := if_neg h
theorem k_bits_congr {f g : Nat → Bool} : ∀ {n : Nat}, (∀ i, i < n → f i = g i) → k_bits f n = k_bits g n := by
  intro n
  induction n with
  | zero => intro _; rfl
  | succ n ih =>
    intro h
    rw [k_bits, k_bits, h n (by omega), ih (fun i hi => h i (by omega))]
def k_six (b0 b1 b2 b3 b4 b5 : Bool) : Nat → Bool
  | 0 => b0
  | 1 => b1
  | 2 => b2
  | 3 => b3
  | 4 => b4
  | _ => b5
set_option maxRecDepth 100000 in
theorem k_bits_six : ∀ b0 b1 b2 b3 b4 b5 : Bool, ∀ n, n < 7 → ∀ h, h < n → ((((k_bits (k_six b0 b1 b2 b3 b4 b5) n >>> (nI h &&& 31)) &&& 1) = 1) ↔ k_six b0 b1 b2 b3 b4 b5 h = true) := by decide +kernel
theorem k_bits_at (f : Nat → Bool) {n h : Nat} (hn : n ≤ 6) (hh : h < n) : (((k_bits f n >>> (nI h &&& 31)) &&& 1) = 1) ↔ f h = true := by
  have e : ∀ i, i < 6 → f i = k_six (f 0) (f 1) (f 2) (f 3) (f 4) (f 5) i := by
    intro i hi
    rcases (show i = 0 ∨ i = 1 ∨ i = 2 ∨ i = 3 ∨ i = 4 ∨ i = 5 by omega) with q | q | q | q | q | q <;> subst q <;> rfl
  rw [k_bits_congr (fun i hi => e i (by omega)), e h (by omega)]
  exact k_bits_six _ _ _ _ _ _ n (by omega) h hh
section FA
variable {c0 c1 c2 c3 c4 : Nat → Int32} {z0 z1 z2 z3 z4 sg : Int32} {bk : Nat → Int32} {n0 n1 n2 n3 n4 : Nat}
theorem i_LMn (hRB : p2_RB c0 z0 c1 z1 c2 z2 c3 z3 c4 z4 sg bk n0 n1 n2 n3 n4) {nm : Nat} (hnm : nm < n3) (oY se : Int32) : q_LM bk n1 n3 false 0 0 nm false 0 0 (nI nm) (-1) oY (-1) se := by
  have hn3 := hRB.2.2.2.1.1
  exact ⟨fun n hn => nI_eq (by omega) (by omega), fun q => (by cases q), fun _ => rfl, fun q => (by cases q), fun _ => rfl, fun q => (by cases q)⟩
theorem i_LAn (hRB : p2_RB c0 z0 c1 z1 c2 z2 c3 z3 c4 z4 sg bk n0 n1 n2 n3 n4) {nm : Nat} (hnm : nm < n3) (fyA ycA : Nat → Int32) (h : ∀ p, p < n1 → fyA p = nI (k_fr bk p) ∧ ycA p = nI (k_to bk p - k_fr bk p + 1)) : q_LA n1 n3 (q_fy bk n1 false 0 0) (q_yc bk n1 false 0) nm false 0 0 (nI nm) (-1) (-1) fyA ycA := by
  have hn3 := hRB.2.2.2.1.1
  refine ⟨fun p hp => ?_, fun n hn => nI_eq (by omega) (by omega), fun q => (by cases q), fun _ => ⟨rfl, rfl⟩⟩
  unfold q_fy q_yc
  rw [if_pos hp, if_pos hp, if_neg (fun q => by cases q.1), if_neg (fun q => by cases q.1)]
  exact h p hp
theorem i_isName (p : Int32) (hn : n3 ≤ 4) : f_X9_in (Int32.toInt64 p) 0 (Int32.toInt64 (nI n3 - 1)) = some (p2_b (0 ≤ p.toInt ∧ p.toInt < (n3 : Int))) := by
  have e1 : (nI n3 - 1).toInt = (n3 : Int) - 1 := pk_sub_toInt (a := n3) (b := 1) (by omega) (by omega)
  rw [p2_in, p2_l, p2_l, e1]
  congr 2
  simp only [eq_iff_iff]
  exact ⟨fun h => ⟨h.1, by have := h.2; omega⟩, fun h => ⟨h.1, by have := h.2; omega⟩⟩
end FA
def q_A1 (bk : Nat → Int32) (n0 n1 n2 n3 n4 sk : Nat) : Nat := p6_ws n0 (q_G bk n1 n2 n3 n4 false 0 0 sk false 0 0) n2 0 q_0
def q_S1 (bk : Nat → Int32) (n0 n1 n2 n3 n4 sk k x : Nat) : Nat := p6_ws n0 (fun ω => if ω k = x then q_G bk n1 n2 n3 n4 false 0 0 sk false 0 0 ω else 0) n2 0 q_0
def k_st (n0 A c : Nat) (S S' : Nat → Nat → Nat) (h : Nat) : Bool := k_sr n0 A c S h && decide (k_ll n0 (S h) n0 = k_ll n0 (S' h) n0)
def k_fb (n0 A A' c : Nat) (S S' : Nat → Nat → Nat) (h : Nat) : Bool := k_sr n0 A c S h && !(k_st n0 A' c S' S h)
theorem i_falls : ob_falls i_Inv := by
  intro σ τ p1 p2 h
  obtain ⟨⟨n0, n1, n2, n3, n4, hRB, hsm⟩, hR, hK0, hK1, hT, hF, hO1, hO2, hS1, hS2⟩ := h
  obtain ⟨r0, r1, r2, r3, r4, rs, v0, v1, v2, v3, v4, v5⟩ := id hRB
  have hn0 := r0.1
  have hn1 := r1.1
  have hn2 := r2.1
  have hn3 := r3.1
  have hn4 := r4.1
  by_cases hc : (0 : Int32).toInt ≤ p1.toInt ∧ p1.toInt ≤ (100 : Int32).toInt
  · have e0 : (0 : Int32).toInt = 0 := rfl
    have e1 : (100 : Int32).toInt = 100 := rfl
    obtain ⟨c, hc1, rfl⟩ := nI_of (x := p1) (fun q => by have := p2_lt.mp q; omega)
    have hc0 : c ≤ 100 := by rw [nI_toInt hc1] at hc; omega
    have hw : f_X8_within (nI c) 0 100 = some 1 := by rw [p2_within, p2_b, if_pos hc]
    have hin : f_X9_in (Int32.toInt64 (nI c)) 0 100 = some 1 := by rw [p2_in, p2_b, if_pos (by rw [p2_l]; exact hc)]
    have hb3 : (τ.1 2) (cx_ix 3) = nI n3 := r3.2.2.1
    rcases p2_num p2 n3 (by omega) with ⟨nm, hnm, rfl⟩ | hh
    · have hh := i_has1 hnm (by omega)
      obtain ⟨y, y1, y2, ⟨d, d1, d2, d3, d4, hSM⟩, hon, hsn⟩ := i_any hRB hsm hO1 hS1 1 (by omega) (by omega)
      obtain ⟨li, l1, w1, is1, V1, b1, s1, s2, s3, s4, ⟨g1, g2, g3⟩, w6, hLI⟩ := i_ref hRB hF (τ.1 10) (τ.1 9) (τ.2.2 9) (τ.2.2 11)
      by_cases hA : q_A (τ.1 2) n0 n1 n2 n3 n4 = 0
      · apply i_ex
        · unfold f_X8_falls
          rw [hw, Option.bind_some, if_neg (by decide), i_has r3.2.1 (by omega), Option.bind_some, if_neg (by rw [p2_b, if_pos hh]; decide), show f_X8_anyWay (σ.2.2 0) (σ.1 2) (σ.2.2 1) (σ.1 3) (σ.2.2 2) (σ.1 4) (σ.2.2 3) (σ.1 5) (σ.2.2 4) (σ.1 6) (σ.2.2 5) (σ.2.2 6) (σ.2.2 29) (σ.2.2 30) (σ.2.2 31) (σ.2.2 32) (σ.2.2 33) (σ.1 24) (σ.1 25) (σ.1 26) (σ.1 27) (σ.1 28) (σ.1 29) (σ.1 30) (σ.1 31) (σ.2.1 4) (σ.2.1 5) (σ.2.1 6) (σ.1 32) (σ.2.1 10) (σ.2.1 11) (σ.2.1 12) (σ.2.1 13) (σ.1 42) (σ.2.1 14) (σ.2.2 39) (σ.2.2 40) 1 = _ from y1, Option.bind_some, if_pos (by rw [y2, p2_b, if_neg (fun q => q hA)]), i_no, Option.bind_some]
        · unfold f_X9_falls
          rw [hin, Option.bind_some, if_neg (by decide), p2_gd (by decide), hb3, i_isName _ hn3, Option.bind_some, if_neg (by rw [p2_b, if_pos hh]; decide), b1, Option.bind_some, show f_X9_shares (τ.1 0) (τ.1 1) (τ.1 2) (τ.1 9) li (-1) (-1) (τ.2.2 9) (-1) (τ.2.2 11) (-1) = _ from s1, Option.bind_some, p2_gd (by decide), if_pos (w6.mpr hA), p2_no, Option.bind_some]
        · exact ⟨rfl, ⟨n0, n1, n2, n3, n4, hRB, Or.inr ⟨d, d2, d3, d4, hSM⟩⟩, i_Rup hR 1 (by decide), hK0, hK1, hT, ⟨V1, s2, g1, g2, g3⟩, hon, hO2, hsn, hS2⟩
      · have hpe := hSM.1
        have hAl := i_A_lt hRB
        have hSA : ∀ k x, q_S (τ.1 2) n0 n1 n2 n3 n4 k x ≤ q_A (τ.1 2) n0 n1 n2 n3 n4 := fun k x => i_S_le _ n0 n2 k x
        have hLM := i_LMn hRB hnm (τ.2.2 9) (τ.2.2 11)
        have hLK := q_LK_of (q_BK_of hRB) hLM
        have hAl1 : q_A1 (τ.1 2) n0 n1 n2 n3 n4 nm ≤ 111918671858621262436761600000000 := i_ws_lt hRB hLK
        have hSA1 : ∀ k x, q_S1 (τ.1 2) n0 n1 n2 n3 n4 nm k x ≤ q_A1 (τ.1 2) n0 n1 n2 n3 n4 nm := fun k x => i_S_le _ n0 n2 k x
        -- the reference, first round
        have ml1 : ∀ (r h m : Nat) (l w ns : Nat → Int32) (V : Nat → Nat), h + r = n2 → r < m → p4_S l w V → (∀ s, s ≠ 8 → s ≠ 9 → V s = V1 s) → (∀ e, e < h → ns e = nI (k_ll n0 (q_S (τ.1 2) n0 n1 n2 n3 n4 e) n0)) → ∃ m' l' w' ns' V', f_X9_falls_L64w (τ.1 2) (τ.1 6) (τ.2.2 0) (τ.2.2 9) (τ.2.2 11) (nI c) (nI nm) (-1) (-1) (-1) is1 li m l w ns (k_bits (k_sr n0 (q_A (τ.1 2) n0 n1 n2 n3 n4) c (q_S (τ.1 2) n0 n1 n2 n3 n4)) h) (nI h) = f_X9_falls_L64w (τ.1 2) (τ.1 6) (τ.2.2 0) (τ.2.2 9) (τ.2.2 11) (nI c) (nI nm) (-1) (-1) (-1) is1 li (m' + 1) l' w' ns' (k_bits (k_sr n0 (q_A (τ.1 2) n0 n1 n2 n3 n4) c (q_S (τ.1 2) n0 n1 n2 n3 n4)) n2) (nI n2) ∧ p4_S l' w' V' ∧ (∀ s, s ≠ 8 → s ≠ 9 → V' s = V1 s) ∧ (∀ e, e < n2 → ns' e = nI (k_ll n0 (q_S (τ.1 2) n0 n1 n2 n3 n4 e) n0)) := by
          intro r
          induction r with
          | zero =>
            intro h m l w ns V h1 h2 h3 h4 h5
            obtain ⟨m, rfl⟩ : ∃ j, m = j + 1 := ⟨m - 1, by omega⟩
            obtain rfl : h = n2 := by omega
            exact ⟨m, l, w, ns, V, rfl, h3, h4, h5⟩
          | succ r ih =>
            intro h m l w ns V h1 h2 h3 h4 h5
            obtain ⟨m, rfl⟩ : ∃ j, m = j + 1 := ⟨m - 1, by omega⟩
            have hv : ∀ x, x < 6 → V (12 + 6 * h + x) = q_S (τ.1 2) n0 n1 n2 n3 n4 h x := fun x hx => by rw [h4 _ (by omega) (by omega)]; exact s4 h x (by omega) hx
            have hnn := i_nn hRB h3 (F := q_G0 (τ.1 2) n1 n2 n3 n4) hA (k := h) (by omega) hv
            obtain ⟨l2, w2, V2, a1, a2, a3⟩ := i_isSureM (bk := τ.1 2) (c := c) (k := h) (S := q_S (τ.1 2) n0 n1 n2 n3 n4 h) hn0 (by omega) h3 hv (by rw [h4 6 (by decide) (by decide)]; exact s3) hAl (fun x => hSA h x) hc0 hnn
            have hv2 : ∀ x, x < 6 → V2 (12 + 6 * h + x) = q_S (τ.1 2) n0 n1 n2 n3 n4 h x := fun x hx => by rw [a3 _ (by omega) (by omega)]; exact hv x hx
            have hnn2 : f_X9_namedNow l2 w2 (τ.1 2) (nI h) = some (nI (k_ll n0 (q_S (τ.1 2) n0 n1 n2 n3 n4 h) n0)) := i_nn hRB a2 (F := q_G0 (τ.1 2) n1 n2 n3 n4) hA (k := h) (by omega) hv2
            obtain ⟨m', l', w', ns', V', i2, i3, i4, i5⟩ := ih (h + 1) m l2 w2 (upd ns h (nI (k_ll n0 (q_S (τ.1 2) n0 n1 n2 n3 n4 h) n0))) V2 (by omega) (by omega) a2 (fun s q1 q2 => by rw [a3 s q1 q2, h4 s q1 q2]) (fun e he => by
              by_cases q : e = h
              · rw [q, p2_us]
              · rw [p2_un q]; exact h5 e (by omega))
            refine ⟨m', l', w', ns', V', ?_, i3, i4, i5⟩
            rw [← i2]
            show f_X9_falls_L64 (τ.1 2) (τ.1 6) (τ.2.2 0) (τ.2.2 9) (τ.2.2 11) (nI c) (nI nm) (-1) (-1) (-1) is1 li (f_X9_falls_L64w (τ.1 2) (τ.1 6) (τ.2.2 0) (τ.2.2 9) (τ.2.2 11) (nI c) (nI nm) (-1) (-1) (-1) is1 li m) l w ns _ _ = _
            unfold f_X9_falls_L64 f_X9_falls_J94
            rw [p2_gd (by decide), if_neg (by rw [show (τ.1 2) (cx_ix 2) = nI n2 from r2.2.2.1]; exact nI_ge (by omega) (by omega)), a1, Option.bind_some, k_sr_b, p4_bt, hnn2, Option.bind_some, p2_gd (p2_ib (by omega) (by decide)), nI_1, k_bits, i_or0, p2_ix (n := h) (by omega), Option.bind_some]
            simp only [cx_let]
            split <;> first | rfl | rw [p2_gd (p2_ib (by omega) (by decide))]
        obtain ⟨m', l2, w2, ns, V2, m1, m2, m3, m4⟩ := ml1 n2 0 cx_N0 l1 w1 (τ.1 11) V1 (by omega) (by unfold cx_N0; omega) s2 (fun _ _ _ => rfl) (fun e he => by omega)
        obtain ⟨l3, w3, is3, V3, t1, t2, t3, t4, t5, t6⟩ := m_shares hRB hLI hLM l2 w2 is1 V2 m2 (as := false) (aq := 0) (aI := -1) (fun q => by cases q) (fun _ => rfl)
        have t3' : V3 6 = q_A1 (τ.1 2) n0 n1 n2 n3 n4 nm := t3
        have t4' : ∀ k x, k < n2 → x < 6 → V3 (12 + 6 * k + x) = q_S1 (τ.1 2) n0 n1 n2 n3 n4 nm k x := t4
        have w6' : w3 (cx_ix 6) = 0 ↔ q_A1 (τ.1 2) n0 n1 n2 n3 n4 nm = 0 := by
          have := i_w6 t2 (r := 6) (by decide) (by decide)
          rw [t3'] at this
          exact this
        have v0e : V3 0 = V1 0 := by rw [t6 0 (by decide) (by decide) (by decide) (by decide), m3 0 (by decide) (by decide)]
        have v1e : V3 1 = V1 1 := by rw [t6 1 (by decide) (by decide) (by decide) (by decide), m3 1 (by decide) (by decide)]
        -- the class
        obtain ⟨fy', yc', a1, a2, a3⟩ := i_look hRB (σ.1 33) (σ.1 34) 1
        obtain ⟨pl', bf', cl', lk', ls', nm', pr', ws', sub', wy', to', sh', pa', cr', bw', bt', v, c1, c2, c3, c4, c5, c6, c7, c8⟩ := p9_sumUp hRB hLK (i_LAn hRB hnm fy' yc' a2) 1 0 0 (by decide) (by decide) (fun q => by cases q) (by decide) (fun q => by cases q) (σ.1 35) (σ.1 36) (σ.1 37) (σ.1 38) (σ.1 39) (σ.1 40) (σ.2.1 7) (σ.2.1 8) (σ.2.1 9) (σ.1 41) (σ.2.1 18) (σ.2.1 19) (σ.2.1 20) (σ.2.1 21) (σ.1 43) (σ.2.1 22) hO2 hS2
        have hv1 : v = q_A1 (τ.1 2) n0 n1 n2 n3 n4 nm := c5 rfl
        rw [hv1] at c4
        have c7' : ∀ k x, k < n2 → x < 6 → p3_N sh' (k * 6 + x) (q_S1 (τ.1 2) n0 n1 n2 n3 n4 nm k x) := (c7 (by decide)).1
        by_cases hA1 : q_A1 (τ.1 2) n0 n1 n2 n3 n4 nm = 0
        · apply i_ex
          · unfold f_X8_falls f_X7_leaveOut
            rw [hw, Option.bind_some, if_neg (by decide), i_has r3.2.1 (by omega), Option.bind_some, if_neg (by rw [p2_b, if_pos hh]; decide), show f_X8_anyWay (σ.2.2 0) (σ.1 2) (σ.2.2 1) (σ.1 3) (σ.2.2 2) (σ.1 4) (σ.2.2 3) (σ.1 5) (σ.2.2 4) (σ.1 6) (σ.2.2 5) (σ.2.2 6) (σ.2.2 29) (σ.2.2 30) (σ.2.2 31) (σ.2.2 32) (σ.2.2 33) (σ.1 24) (σ.1 25) (σ.1 26) (σ.1 27) (σ.1 28) (σ.1 29) (σ.1 30) (σ.1 31) (σ.2.1 4) (σ.2.1 5) (σ.2.1 6) (σ.1 32) (σ.2.1 10) (σ.2.1 11) (σ.2.1 12) (σ.2.1 13) (σ.1 42) (σ.2.1 14) (σ.2.2 39) (σ.2.2 40) 1 = _ from y1, Option.bind_some, if_neg (by rw [y2, p2_b, if_pos hA]; decide), a1, Option.bind_some, Option.bind_some, show f_X7_sumUp 1 (nI nm) (-1) (-1) 0 _ _ _ _ _ _ _ _ _ _ _ _ _ _ _ _ _ _ _ _ _ _ 0 _ _ _ _ _ _ = _ from c1, Option.bind_some, i_nothing c4, Option.bind_some, if_neg (by rw [p2_b, if_pos hA1]; decide), i_no, Option.bind_some]
          · unfold f_X9_falls
            rw [hin, Option.bind_some, if_neg (by decide), p2_gd (by decide), hb3, i_isName _ hn3, Option.bind_some, if_neg (by rw [p2_b, if_pos hh]; decide), b1, Option.bind_some, show f_X9_shares (τ.1 0) (τ.1 1) (τ.1 2) (τ.1 9) li (-1) (-1) (τ.2.2 9) (-1) (τ.2.2 11) (-1) = _ from s1, Option.bind_some, p2_gd (by decide), if_neg (fun q => hA (w6.mp q))]
            refine Eq.trans m1 ?_
            show f_X9_falls_L64 (τ.1 2) (τ.1 6) (τ.2.2 0) (τ.2.2 9) (τ.2.2 11) (nI c) (nI nm) (-1) (-1) (-1) is1 li (f_X9_falls_L64w (τ.1 2) (τ.1 6) (τ.2.2 0) (τ.2.2 9) (τ.2.2 11) (nI c) (nI nm) (-1) (-1) (-1) is1 li m') l2 w2 ns _ _ = _
            unfold f_X9_falls_L64
            rw [p2_gd (by decide), if_pos (by rw [show (τ.1 2) (cx_ix 2) = nI n2 from r2.2.2.1]; exact nI_le (by omega) (by omega)), t1, Option.bind_some, p2_gd (by decide), if_pos (w6'.mpr hA1), p2_no, Option.bind_some]
          · exact ⟨rfl, ⟨n0, n1, n2, n3, n4, hRB, Or.inr ⟨d, d2, d3, d4, hSM⟩⟩, i_Rup hR 1 (by decide), hK0, hK1, hT, ⟨V3, t2, by rw [v0e]; exact g1, by rw [v1e]; exact g2, by rw [v1e]; exact g3⟩, hon, c2, hsn, c3⟩
        · -- the reference, second round
          have ml2 : ∀ (r h m : Nat) (l w : Nat → Int32) (V : Nat → Nat), h + r = n2 → r < m → p4_S l w V → (∀ s, s ≠ 8 → s ≠ 9 → V s = V3 s) → ∃ l' w' V', f_X9_falls_L146w (τ.1 2) (τ.1 6) (nI c) (nI nm) (-1) (-1) is3 li ns (k_bits (k_sr n0 (q_A (τ.1 2) n0 n1 n2 n3 n4) c (q_S (τ.1 2) n0 n1 n2 n3 n4)) n2) m l w (k_bits (k_fb n0 (q_A (τ.1 2) n0 n1 n2 n3 n4) (q_A1 (τ.1 2) n0 n1 n2 n3 n4 nm) c (q_S (τ.1 2) n0 n1 n2 n3 n4) (q_S1 (τ.1 2) n0 n1 n2 n3 n4 nm)) h) (nI h) = some (k_bits (k_fb n0 (q_A (τ.1 2) n0 n1 n2 n3 n4) (q_A1 (τ.1 2) n0 n1 n2 n3 n4 nm) c (q_S (τ.1 2) n0 n1 n2 n3 n4) (q_S1 (τ.1 2) n0 n1 n2 n3 n4 nm)) n2, nI nm, -1, -1, l', w', τ.1 6, is3, li, ns) ∧ p4_S l' w' V' ∧ (∀ s, s ≠ 8 → s ≠ 9 → V' s = V3 s) := by
            intro r
            induction r with
            | zero =>
              intro h m l w V h1 h2 h3 h4
              obtain ⟨m, rfl⟩ : ∃ j, m = j + 1 := ⟨m - 1, by omega⟩
              obtain rfl : h = n2 := by omega
              refine ⟨l, w, V, ?_, h3, h4⟩
              show f_X9_falls_L146 (τ.1 2) (τ.1 6) (nI c) (nI nm) (-1) (-1) is3 li ns _ (f_X9_falls_L146w (τ.1 2) (τ.1 6) (nI c) (nI nm) (-1) (-1) is3 li ns _ m) l w _ _ = _
              unfold f_X9_falls_L146
              rw [p2_gd (by decide), if_pos (by rw [show (τ.1 2) (cx_ix 2) = nI h from r2.2.2.1]; exact nI_le (by omega) (by omega))]
            | succ r ih =>
              intro h m l w V h1 h2 h3 h4
              obtain ⟨m, rfl⟩ : ∃ j, m = j + 1 := ⟨m - 1, by omega⟩
              have hbit := k_bits_at (k_sr n0 (q_A (τ.1 2) n0 n1 n2 n3 n4) c (q_S (τ.1 2) n0 n1 n2 n3 n4)) (n := n2) (h := h) hn2 (by omega)
              have hlt : ¬ (τ.1 2) (cx_ix 2) ≤ nI h := by rw [show (τ.1 2) (cx_ix 2) = nI n2 from r2.2.2.1]; exact nI_ge (by omega) (by omega)
              by_cases hs : k_sr n0 (q_A (τ.1 2) n0 n1 n2 n3 n4) c (q_S (τ.1 2) n0 n1 n2 n3 n4) h = true
              · have hv : ∀ x, x < 6 → V (12 + 6 * h + x) = q_S1 (τ.1 2) n0 n1 n2 n3 n4 nm h x := fun x hx => by rw [h4 _ (by omega) (by omega)]; exact t4' h x (by omega) hx
                have hnn := i_nn hRB h3 (F := q_G (τ.1 2) n1 n2 n3 n4 false 0 0 nm false 0 0) hA1 (k := h) (by omega) hv
                obtain ⟨l4, w4, V4, a1, a2, a3⟩ := i_isSureM (bk := τ.1 2) (c := c) (k := h) (S := q_S1 (τ.1 2) n0 n1 n2 n3 n4 nm h) hn0 (by omega) h3 hv (by rw [h4 6 (by decide) (by decide)]; exact t3') hAl1 (fun x => hSA1 h x) hc0 hnn
                have hv4 : ∀ x, x < 6 → V4 (12 + 6 * h + x) = q_S1 (τ.1 2) n0 n1 n2 n3 n4 nm h x := fun x hx => by rw [a3 _ (by omega) (by omega)]; exact hv x hx
                have hnn4 : f_X9_namedNow l4 w4 (τ.1 2) (nI h) = some (nI (k_ll n0 (q_S1 (τ.1 2) n0 n1 n2 n3 n4 nm h) n0)) := i_nn hRB a2 (F := q_G (τ.1 2) n1 n2 n3 n4 false 0 0 nm false 0 0) hA1 (k := h) (by omega) hv4
                obtain ⟨l', w', V', i2, i3, i4⟩ := ih (h + 1) m l4 w4 V4 (by omega) (by omega) a2 (fun s q1 q2 => by rw [a3 s q1 q2, h4 s q1 q2])
                refine ⟨l', w', V', ?_, i3, i4⟩
                rw [← i2]
                show f_X9_falls_L146 (τ.1 2) (τ.1 6) (nI c) (nI nm) (-1) (-1) is3 li ns _ (f_X9_falls_L146w (τ.1 2) (τ.1 6) (nI c) (nI nm) (-1) (-1) is3 li ns _ m) l w _ _ = _
                unfold f_X9_falls_L146 f_X9_falls_J195 f_X9_falls_J202 f_X9_falls_J203
                have u1 := k_w_lt hn0 (k_ll_w n0 (q_S1 (τ.1 2) n0 n1 n2 n3 n4 nm h) n0)
                have u2 := k_w_lt hn0 (k_ll_w n0 (q_S (τ.1 2) n0 n1 n2 n3 n4 h) n0)
                rw [p2_gd (by decide), if_neg hlt, if_pos (hbit.mpr hs), a1, Option.bind_some, k_sr_b, p4_bt, hnn4, Option.bind_some, p2_gd (p2_ib (by omega) (by decide)), nI_1, k_bits, i_or0, p2_ix (n := h) (by omega), m4 h (by omega)]
                by_cases q1 : k_sr n0 (q_A1 (τ.1 2) n0 n1 n2 n3 n4 nm) c (q_S1 (τ.1 2) n0 n1 n2 n3 n4 nm) h = true
                · rw [if_pos q1]
                  by_cases q2 : k_ll n0 (q_S1 (τ.1 2) n0 n1 n2 n3 n4 nm h) n0 = k_ll n0 (q_S (τ.1 2) n0 n1 n2 n3 n4 h) n0
                  · rw [if_pos (by rw [q2]), if_neg (show ¬ k_fb n0 _ _ c _ _ h = true by unfold k_fb k_st; rw [hs, q1, decide_eq_true q2]; decide)]
                  · rw [if_neg (fun q => q2 ((nI_eq (by omega) (by omega)).mp q)), if_pos (show k_fb n0 _ _ c _ _ h = true by unfold k_fb k_st; rw [hs, q1, decide_eq_false q2]; decide)]
                · rw [if_neg q1, if_pos (show k_fb n0 _ _ c _ _ h = true by unfold k_fb k_st; rw [hs, (Bool.not_eq_true _).mp q1]; rfl)]
              · obtain ⟨l', w', V', i2, i3, i4⟩ := ih (h + 1) m l w V (by omega) (by omega) h3 h4
                refine ⟨l', w', V', ?_, i3, i4⟩
                rw [← i2]
                show f_X9_falls_L146 (τ.1 2) (τ.1 6) (nI c) (nI nm) (-1) (-1) is3 li ns _ (f_X9_falls_L146w (τ.1 2) (τ.1 6) (nI c) (nI nm) (-1) (-1) is3 li ns _ m) l w _ _ = _
                unfold f_X9_falls_L146 f_X9_falls_J202 f_X9_falls_J203
                rw [p2_gd (by decide), if_neg hlt, if_neg (fun q => hs (hbit.mp q)), nI_1, k_bits, i_or0, if_neg (show ¬ k_fb n0 _ _ c _ _ h = true by unfold k_fb; rw [(Bool.not_eq_true _).mp hs]; exact Bool.false_ne_true)]
          -- the class's round
          have cl : ∀ (r h m : Nat) (mi th mi2 th2 : Nat → Int64), h + r = n2 → r < m → ∃ mi' th' mi2' th2', f_X8_falls_L94w (σ.1 1) (σ.2.2 3) (nI c) y.2.1 y.2.2.1 y.2.2.2.1 y.2.2.2.2.1 y.2.2.2.2.2.1 y.2.2.2.2.2.2.1 y.2.2.2.2.2.2.2.1 y.2.2.2.2.2.2.2.2.1 y.2.2.2.2.2.2.2.2.2.1 y.2.2.2.2.2.2.2.2.2.2.1 y.2.2.2.2.2.2.2.2.2.2.2.1 y.2.2.2.2.2.2.2.2.2.2.2.2.1 y.2.2.2.2.2.2.2.2.2.2.2.2.2.1 y.2.2.2.2.2.2.2.2.2.2.2.2.2.2.1 y.2.2.2.2.2.2.2.2.2.2.2.2.2.2.2.1 y.2.2.2.2.2.2.2.2.2.2.2.2.2.2.2.2.1 y.2.2.2.2.2.2.2.2.2.2.2.2.2.2.2.2.2.1 y.2.2.2.2.2.2.2.2.2.2.2.2.2.2.2.2.2.2.1 1 (nI nm) (-1) (-1) 0 fy' yc' pl' bf' cl' lk' ls' nm' pr' ws' sub' wy' y.2.2.2.2.2.2.2.2.2.2.2.2.2.2.2.2.2.2.2.1 y.2.2.2.2.2.2.2.2.2.2.2.2.2.2.2.2.2.2.2.2.1 y.2.2.2.2.2.2.2.2.2.2.2.2.2.2.2.2.2.2.2.2.2.1 y.2.2.2.2.2.2.2.2.2.2.2.2.2.2.2.2.2.2.2.2.2.2.1 y.2.2.2.2.2.2.2.2.2.2.2.2.2.2.2.2.2.2.2.2.2.2.2.1 y.2.2.2.2.2.2.2.2.2.2.2.2.2.2.2.2.2.2.2.2.2.2.2.2.1 y.2.2.2.2.2.2.2.2.2.2.2.2.2.2.2.2.2.2.2.2.2.2.2.2.2.1 y.2.2.2.2.2.2.2.2.2.2.2.2.2.2.2.2.2.2.2.2.2.2.2.2.2.2 (σ.2.2 1) (σ.2.2 3) to' sh' pa' cr' bw' bt' m mi th mi2 th2 (k_bits (k_fb n0 (q_A (τ.1 2) n0 n1 n2 n3 n4) (q_A1 (τ.1 2) n0 n1 n2 n3 n4 nm) c (q_S (τ.1 2) n0 n1 n2 n3 n4) (q_S1 (τ.1 2) n0 n1 n2 n3 n4 nm)) h) (nI h) = some (k_bits (k_fb n0 (q_A (τ.1 2) n0 n1 n2 n3 n4) (q_A1 (τ.1 2) n0 n1 n2 n3 n4 nm) c (q_S (τ.1 2) n0 n1 n2 n3 n4) (q_S1 (τ.1 2) n0 n1 n2 n3 n4 nm)) n2, y.2.1, σ.1 1, y.2.2.1, y.2.2.2.1, y.2.2.2.2.1, y.2.2.2.2.2.1, y.2.2.2.2.2.2.1, y.2.2.2.2.2.2.2.1, y.2.2.2.2.2.2.2.2.1, y.2.2.2.2.2.2.2.2.2.1, y.2.2.2.2.2.2.2.2.2.2.1, y.2.2.2.2.2.2.2.2.2.2.2.1, y.2.2.2.2.2.2.2.2.2.2.2.2.1, y.2.2.2.2.2.2.2.2.2.2.2.2.2.1, y.2.2.2.2.2.2.2.2.2.2.2.2.2.2.1, y.2.2.2.2.2.2.2.2.2.2.2.2.2.2.2.1, y.2.2.2.2.2.2.2.2.2.2.2.2.2.2.2.2.1, y.2.2.2.2.2.2.2.2.2.2.2.2.2.2.2.2.2.1, y.2.2.2.2.2.2.2.2.2.2.2.2.2.2.2.2.2.2.1, 1, nI nm, -1, -1, 0, fy', yc', pl', bf', cl', lk', ls', nm', pr', ws', sub', wy', y.2.2.2.2.2.2.2.2.2.2.2.2.2.2.2.2.2.2.2.1, y.2.2.2.2.2.2.2.2.2.2.2.2.2.2.2.2.2.2.2.2.1, y.2.2.2.2.2.2.2.2.2.2.2.2.2.2.2.2.2.2.2.2.2.1, y.2.2.2.2.2.2.2.2.2.2.2.2.2.2.2.2.2.2.2.2.2.2.1, y.2.2.2.2.2.2.2.2.2.2.2.2.2.2.2.2.2.2.2.2.2.2.2.1, y.2.2.2.2.2.2.2.2.2.2.2.2.2.2.2.2.2.2.2.2.2.2.2.2.1, y.2.2.2.2.2.2.2.2.2.2.2.2.2.2.2.2.2.2.2.2.2.2.2.2.2.1, y.2.2.2.2.2.2.2.2.2.2.2.2.2.2.2.2.2.2.2.2.2.2.2.2.2.2, mi', th', σ.2.2 1, σ.2.2 3, to', sh', pa', cr', bw', bt', mi2', th2') := by
            intro r
            induction r with
            | zero =>
              intro h m mi th mi2 th2 h1 h2
              obtain ⟨m, rfl⟩ : ∃ j, m = j + 1 := ⟨m - 1, by omega⟩
              refine ⟨mi, th, mi2, th2, ?_⟩
              show f_X8_falls_L94 (σ.1 1) (σ.2.2 3) (nI c) y.2.1 y.2.2.1 y.2.2.2.1 y.2.2.2.2.1 y.2.2.2.2.2.1 y.2.2.2.2.2.2.1 y.2.2.2.2.2.2.2.1 y.2.2.2.2.2.2.2.2.1 y.2.2.2.2.2.2.2.2.2.1 y.2.2.2.2.2.2.2.2.2.2.1 y.2.2.2.2.2.2.2.2.2.2.2.1 y.2.2.2.2.2.2.2.2.2.2.2.2.1 y.2.2.2.2.2.2.2.2.2.2.2.2.2.1 y.2.2.2.2.2.2.2.2.2.2.2.2.2.2.1 y.2.2.2.2.2.2.2.2.2.2.2.2.2.2.2.1 y.2.2.2.2.2.2.2.2.2.2.2.2.2.2.2.2.1 y.2.2.2.2.2.2.2.2.2.2.2.2.2.2.2.2.2.1 y.2.2.2.2.2.2.2.2.2.2.2.2.2.2.2.2.2.2.1 1 (nI nm) (-1) (-1) 0 fy' yc' pl' bf' cl' lk' ls' nm' pr' ws' sub' wy' y.2.2.2.2.2.2.2.2.2.2.2.2.2.2.2.2.2.2.2.1 y.2.2.2.2.2.2.2.2.2.2.2.2.2.2.2.2.2.2.2.2.1 y.2.2.2.2.2.2.2.2.2.2.2.2.2.2.2.2.2.2.2.2.2.1 y.2.2.2.2.2.2.2.2.2.2.2.2.2.2.2.2.2.2.2.2.2.2.1 y.2.2.2.2.2.2.2.2.2.2.2.2.2.2.2.2.2.2.2.2.2.2.2.1 y.2.2.2.2.2.2.2.2.2.2.2.2.2.2.2.2.2.2.2.2.2.2.2.2.1 y.2.2.2.2.2.2.2.2.2.2.2.2.2.2.2.2.2.2.2.2.2.2.2.2.2.1 y.2.2.2.2.2.2.2.2.2.2.2.2.2.2.2.2.2.2.2.2.2.2.2.2.2.2 (σ.2.2 1) (σ.2.2 3) to' sh' pa' cr' bw' bt' (f_X8_falls_L94w (σ.1 1) (σ.2.2 3) (nI c) y.2.1 y.2.2.1 y.2.2.2.1 y.2.2.2.2.1 y.2.2.2.2.2.1 y.2.2.2.2.2.2.1 y.2.2.2.2.2.2.2.1 y.2.2.2.2.2.2.2.2.1 y.2.2.2.2.2.2.2.2.2.1 y.2.2.2.2.2.2.2.2.2.2.1 y.2.2.2.2.2.2.2.2.2.2.2.1 y.2.2.2.2.2.2.2.2.2.2.2.2.1 y.2.2.2.2.2.2.2.2.2.2.2.2.2.1 y.2.2.2.2.2.2.2.2.2.2.2.2.2.2.1 y.2.2.2.2.2.2.2.2.2.2.2.2.2.2.2.1 y.2.2.2.2.2.2.2.2.2.2.2.2.2.2.2.2.1 y.2.2.2.2.2.2.2.2.2.2.2.2.2.2.2.2.2.1 y.2.2.2.2.2.2.2.2.2.2.2.2.2.2.2.2.2.2.1 1 (nI nm) (-1) (-1) 0 fy' yc' pl' bf' cl' lk' ls' nm' pr' ws' sub' wy' y.2.2.2.2.2.2.2.2.2.2.2.2.2.2.2.2.2.2.2.1 y.2.2.2.2.2.2.2.2.2.2.2.2.2.2.2.2.2.2.2.2.1 y.2.2.2.2.2.2.2.2.2.2.2.2.2.2.2.2.2.2.2.2.2.1 y.2.2.2.2.2.2.2.2.2.2.2.2.2.2.2.2.2.2.2.2.2.2.1 y.2.2.2.2.2.2.2.2.2.2.2.2.2.2.2.2.2.2.2.2.2.2.2.1 y.2.2.2.2.2.2.2.2.2.2.2.2.2.2.2.2.2.2.2.2.2.2.2.2.1 y.2.2.2.2.2.2.2.2.2.2.2.2.2.2.2.2.2.2.2.2.2.2.2.2.2.1 y.2.2.2.2.2.2.2.2.2.2.2.2.2.2.2.2.2.2.2.2.2.2.2.2.2.2 (σ.2.2 1) (σ.2.2 3) to' sh' pa' cr' bw' bt' m) mi th mi2 th2 _ _ = _
              unfold f_X8_falls_L94
              rw [if_pos (by rw [r2.2.1]; exact nI_le (by omega) (by omega)), show h = n2 by omega]
            | succ r ih =>
              intro h m mi th mi2 th2 h1 h2
              obtain ⟨m, rfl⟩ : ∃ j, m = j + 1 := ⟨m - 1, by omega⟩
              obtain ⟨mi1, th1, a1⟩ := i_isSureC (to := y.2.2.2.2.2.2.2.2.2.2.2.2.2.2.2.2.2.2.2.2.2.1) (sh := y.2.2.2.2.2.2.2.2.2.2.2.2.2.2.2.2.2.2.2.2.2.2.1) (mi := mi) (th := th) (c := c) (k := h) hn0 (by omega) hSM.2.2.1 (fun x hx => hSM.2.2.2.1 h x (by omega) hx) hAl (fun x => hSA h x) hc0
              rw [← hpe] at a1
              obtain ⟨mi3, th3, a4⟩ := i_isSureC (to := to') (sh := sh') (mi := mi2) (th := th2) (c := c) (k := h) hn0 (by omega) c4 (fun x hx => c7' h x (by omega) hx) hAl1 (fun x => hSA1 h x) hc0
              rw [← r0.2.1] at a4
              have e3 : f_X5_likeliest sh' (σ.2.2 1) (nI h) = some (nI (k_ll n0 (q_S1 (τ.1 2) n0 n1 n2 n3 n4 nm h) n0)) := by rw [r0.2.1]; exact i_likeliest hn0 (by omega) (fun x hx => c7' h x (by omega) hx)
              have e4 : f_X5_likeliest y.2.2.2.2.2.2.2.2.2.2.2.2.2.2.2.2.2.2.2.2.2.2.1 y.2.2.2.2.2.2.2.2.2.2.2.2.2.2.2.2.2.2.2.1 (nI h) = some (nI (k_ll n0 (q_S (τ.1 2) n0 n1 n2 n3 n4 h) n0)) := by rw [hpe]; exact i_likeliest hn0 (by omega) (fun x hx => hSM.2.2.2.1 h x (by omega) hx)
              have u1 := k_w_lt hn0 (k_ll_w n0 (q_S1 (τ.1 2) n0 n1 n2 n3 n4 nm h) n0)
              have u2 := k_w_lt hn0 (k_ll_w n0 (q_S (τ.1 2) n0 n1 n2 n3 n4 h) n0)
              have ss : f_X8_staysSure y.2.2.2.2.2.2.2.2.2.2.2.2.2.2.2.2.2.2.2.2.2.2.1 y.2.2.2.2.2.2.2.2.2.2.2.2.2.2.2.2.2.2.2.1 to' sh' mi2 th2 (σ.2.2 1) (nI h) (nI c) = some (p2_b (k_st n0 (q_A1 (τ.1 2) n0 n1 n2 n3 n4 nm) c (q_S1 (τ.1 2) n0 n1 n2 n3 n4 nm) (q_S (τ.1 2) n0 n1 n2 n3 n4) h = true), mi3, th3) := by
                unfold f_X8_staysSure
                rw [a4, Option.bind_some, k_sr_b, p4_bt, e3, Option.bind_some, e4, Option.bind_some]
                by_cases q1 : k_sr n0 (q_A1 (τ.1 2) n0 n1 n2 n3 n4 nm) c (q_S1 (τ.1 2) n0 n1 n2 n3 n4 nm) h = true
                · rw [if_pos q1]
                  by_cases q2 : k_ll n0 (q_S1 (τ.1 2) n0 n1 n2 n3 n4 nm h) n0 = k_ll n0 (q_S (τ.1 2) n0 n1 n2 n3 n4 h) n0
                  · rw [if_pos (by rw [q2]), p2_bT (show k_st n0 (q_A1 (τ.1 2) n0 n1 n2 n3 n4 nm) c (q_S1 (τ.1 2) n0 n1 n2 n3 n4 nm) (q_S (τ.1 2) n0 n1 n2 n3 n4) h = true by unfold k_st; rw [q1, decide_eq_true q2]; rfl)]
                  · rw [if_neg (fun q => q2 ((nI_eq (by omega) (by omega)).mp q)), p2_bF (show ¬ k_st n0 (q_A1 (τ.1 2) n0 n1 n2 n3 n4 nm) c (q_S1 (τ.1 2) n0 n1 n2 n3 n4 nm) (q_S (τ.1 2) n0 n1 n2 n3 n4) h = true by unfold k_st; rw [q1, decide_eq_false q2]; exact Bool.false_ne_true)]
                · rw [if_neg q1, p2_bF (show ¬ k_st n0 (q_A1 (τ.1 2) n0 n1 n2 n3 n4 nm) c (q_S1 (τ.1 2) n0 n1 n2 n3 n4 nm) (q_S (τ.1 2) n0 n1 n2 n3 n4) h = true by unfold k_st; rw [(Bool.not_eq_true _).mp q1]; exact Bool.false_ne_true)]
              show ∃ mi' th' mi2' th2', f_X8_falls_L94 (σ.1 1) (σ.2.2 3) (nI c) y.2.1 y.2.2.1 y.2.2.2.1 y.2.2.2.2.1 y.2.2.2.2.2.1 y.2.2.2.2.2.2.1 y.2.2.2.2.2.2.2.1 y.2.2.2.2.2.2.2.2.1 y.2.2.2.2.2.2.2.2.2.1 y.2.2.2.2.2.2.2.2.2.2.1 y.2.2.2.2.2.2.2.2.2.2.2.1 y.2.2.2.2.2.2.2.2.2.2.2.2.1 y.2.2.2.2.2.2.2.2.2.2.2.2.2.1 y.2.2.2.2.2.2.2.2.2.2.2.2.2.2.1 y.2.2.2.2.2.2.2.2.2.2.2.2.2.2.2.1 y.2.2.2.2.2.2.2.2.2.2.2.2.2.2.2.2.1 y.2.2.2.2.2.2.2.2.2.2.2.2.2.2.2.2.2.1 y.2.2.2.2.2.2.2.2.2.2.2.2.2.2.2.2.2.2.1 1 (nI nm) (-1) (-1) 0 fy' yc' pl' bf' cl' lk' ls' nm' pr' ws' sub' wy' y.2.2.2.2.2.2.2.2.2.2.2.2.2.2.2.2.2.2.2.1 y.2.2.2.2.2.2.2.2.2.2.2.2.2.2.2.2.2.2.2.2.1 y.2.2.2.2.2.2.2.2.2.2.2.2.2.2.2.2.2.2.2.2.2.1 y.2.2.2.2.2.2.2.2.2.2.2.2.2.2.2.2.2.2.2.2.2.2.1 y.2.2.2.2.2.2.2.2.2.2.2.2.2.2.2.2.2.2.2.2.2.2.2.1 y.2.2.2.2.2.2.2.2.2.2.2.2.2.2.2.2.2.2.2.2.2.2.2.2.1 y.2.2.2.2.2.2.2.2.2.2.2.2.2.2.2.2.2.2.2.2.2.2.2.2.2.1 y.2.2.2.2.2.2.2.2.2.2.2.2.2.2.2.2.2.2.2.2.2.2.2.2.2.2 (σ.2.2 1) (σ.2.2 3) to' sh' pa' cr' bw' bt' (f_X8_falls_L94w (σ.1 1) (σ.2.2 3) (nI c) y.2.1 y.2.2.1 y.2.2.2.1 y.2.2.2.2.1 y.2.2.2.2.2.1 y.2.2.2.2.2.2.1 y.2.2.2.2.2.2.2.1 y.2.2.2.2.2.2.2.2.1 y.2.2.2.2.2.2.2.2.2.1 y.2.2.2.2.2.2.2.2.2.2.1 y.2.2.2.2.2.2.2.2.2.2.2.1 y.2.2.2.2.2.2.2.2.2.2.2.2.1 y.2.2.2.2.2.2.2.2.2.2.2.2.2.1 y.2.2.2.2.2.2.2.2.2.2.2.2.2.2.1 y.2.2.2.2.2.2.2.2.2.2.2.2.2.2.2.1 y.2.2.2.2.2.2.2.2.2.2.2.2.2.2.2.2.1 y.2.2.2.2.2.2.2.2.2.2.2.2.2.2.2.2.2.1 y.2.2.2.2.2.2.2.2.2.2.2.2.2.2.2.2.2.2.1 1 (nI nm) (-1) (-1) 0 fy' yc' pl' bf' cl' lk' ls' nm' pr' ws' sub' wy' y.2.2.2.2.2.2.2.2.2.2.2.2.2.2.2.2.2.2.2.1 y.2.2.2.2.2.2.2.2.2.2.2.2.2.2.2.2.2.2.2.2.1 y.2.2.2.2.2.2.2.2.2.2.2.2.2.2.2.2.2.2.2.2.2.1 y.2.2.2.2.2.2.2.2.2.2.2.2.2.2.2.2.2.2.2.2.2.2.1 y.2.2.2.2.2.2.2.2.2.2.2.2.2.2.2.2.2.2.2.2.2.2.2.1 y.2.2.2.2.2.2.2.2.2.2.2.2.2.2.2.2.2.2.2.2.2.2.2.2.1 y.2.2.2.2.2.2.2.2.2.2.2.2.2.2.2.2.2.2.2.2.2.2.2.2.2.1 y.2.2.2.2.2.2.2.2.2.2.2.2.2.2.2.2.2.2.2.2.2.2.2.2.2.2 (σ.2.2 1) (σ.2.2 3) to' sh' pa' cr' bw' bt' m) mi th mi2 th2 _ _ = _
              unfold f_X8_falls_L94 f_X8_falls_J142
              rw [if_neg (by rw [r2.2.1]; exact nI_ge (by omega) (by omega)), a1, Option.bind_some, k_sr_b, p4_bt, ss, Option.bind_some, p4_bt, nI_1]
              have ih' := fun a b e f => ih (h + 1) m a b e f (by omega) (by omega)
              simp only [k_bits] at ih'
              by_cases q1 : k_sr n0 (q_A (τ.1 2) n0 n1 n2 n3 n4) c (q_S (τ.1 2) n0 n1 n2 n3 n4) h = true
              · rw [if_pos q1]
                by_cases q2 : k_st n0 (q_A1 (τ.1 2) n0 n1 n2 n3 n4 nm) c (q_S1 (τ.1 2) n0 n1 n2 n3 n4 nm) (q_S (τ.1 2) n0 n1 n2 n3 n4) h = true
                · rw [if_pos q2]
                  have e := ih' mi1 th1 mi3 th3
                  rw [if_neg (show ¬ k_fb n0 _ _ c _ _ h = true by unfold k_fb; rw [q1, q2]; decide)] at e
                  exact e
                · rw [if_neg q2]
                  have e := ih' mi1 th1 mi3 th3
                  rw [if_pos (show k_fb n0 _ _ c _ _ h = true by unfold k_fb; rw [q1, (Bool.not_eq_true _).mp q2]; decide)] at e
                  exact e
              · rw [if_neg q1]
                have e := ih' mi1 th1 mi2 th2
                rw [if_neg (show ¬ k_fb n0 _ _ c _ _ h = true by unfold k_fb; rw [(Bool.not_eq_true _).mp q1]; exact Bool.false_ne_true)] at e
                exact e
          obtain ⟨mi', th', mi2', th2', k1⟩ := cl n2 0 cx_N0 (σ.2.1 16) (σ.2.1 17) (σ.2.1 24) (σ.2.1 25) (by omega) (by unfold cx_N0; omega)
          obtain ⟨l', w', V', j1, j2, j3⟩ := ml2 n2 0 cx_N0 l3 w3 V3 (by omega) (by unfold cx_N0; omega) t2 (fun _ _ _ => rfl)
          apply i_ex
          · unfold f_X8_falls f_X7_leaveOut
            rw [hw, Option.bind_some, if_neg (by decide), i_has r3.2.1 (by omega), Option.bind_some, if_neg (by rw [p2_b, if_pos hh]; decide), show f_X8_anyWay (σ.2.2 0) (σ.1 2) (σ.2.2 1) (σ.1 3) (σ.2.2 2) (σ.1 4) (σ.2.2 3) (σ.1 5) (σ.2.2 4) (σ.1 6) (σ.2.2 5) (σ.2.2 6) (σ.2.2 29) (σ.2.2 30) (σ.2.2 31) (σ.2.2 32) (σ.2.2 33) (σ.1 24) (σ.1 25) (σ.1 26) (σ.1 27) (σ.1 28) (σ.1 29) (σ.1 30) (σ.1 31) (σ.2.1 4) (σ.2.1 5) (σ.2.1 6) (σ.1 32) (σ.2.1 10) (σ.2.1 11) (σ.2.1 12) (σ.2.1 13) (σ.1 42) (σ.2.1 14) (σ.2.2 39) (σ.2.2 40) 1 = _ from y1, Option.bind_some, if_neg (by rw [y2, p2_b, if_pos hA]; decide), a1, Option.bind_some, Option.bind_some, show f_X7_sumUp 1 (nI nm) (-1) (-1) 0 _ _ _ _ _ _ _ _ _ _ _ _ _ _ _ _ _ _ _ _ _ _ 0 _ _ _ _ _ _ = _ from c1, Option.bind_some, i_nothing c4, Option.bind_some, if_pos (by rw [p2_b, if_neg hA1])]
            exact k1
          · unfold f_X9_falls
            rw [hin, Option.bind_some, if_neg (by decide), p2_gd (by decide), hb3, i_isName _ hn3, Option.bind_some, if_neg (by rw [p2_b, if_pos hh]; decide), b1, Option.bind_some, show f_X9_shares (τ.1 0) (τ.1 1) (τ.1 2) (τ.1 9) li (-1) (-1) (τ.2.2 9) (-1) (τ.2.2 11) (-1) = _ from s1, Option.bind_some, p2_gd (by decide), if_neg (fun q => hA (w6.mp q))]
            refine Eq.trans m1 ?_
            show f_X9_falls_L64 (τ.1 2) (τ.1 6) (τ.2.2 0) (τ.2.2 9) (τ.2.2 11) (nI c) (nI nm) (-1) (-1) (-1) is1 li (f_X9_falls_L64w (τ.1 2) (τ.1 6) (τ.2.2 0) (τ.2.2 9) (τ.2.2 11) (nI c) (nI nm) (-1) (-1) (-1) is1 li m') l2 w2 ns _ _ = _
            unfold f_X9_falls_L64
            rw [p2_gd (by decide), if_pos (by rw [show (τ.1 2) (cx_ix 2) = nI n2 from r2.2.2.1]; exact nI_le (by omega) (by omega)), t1, Option.bind_some, p2_gd (by decide), if_neg (fun q => hA1 (w6'.mp q))]
            exact j1
          · exact ⟨rfl, ⟨n0, n1, n2, n3, n4, hRB, Or.inr ⟨d, d2, d3, d4, hSM⟩⟩, hR, hK0, hK1, hT, ⟨V', j2, by rw [j3 0 (by decide) (by decide), v0e]; exact g1, by rw [j3 1 (by decide) (by decide), v1e]; exact g2, by rw [j3 1 (by decide) (by decide), v1e]; exact g3⟩, hon, c2, hsn, c3⟩
    · apply i_ex
      · unfold f_X8_falls f_X8_falls_J24
        rw [hw, Option.bind_some, if_neg (by decide), i_has r3.2.1 (by omega), Option.bind_some, if_pos (p2_b0.mpr hh), p2_refused2, Option.bind_some]
      · unfold f_X9_falls f_X9_falls_J30
        rw [hin, Option.bind_some, if_neg (by decide), p2_gd (by decide), hb3, i_isName _ hn3, Option.bind_some, if_pos (p2_b0.mpr hh), p2_bad, Option.bind_some]
      · exact ⟨rfl, ⟨n0, n1, n2, n3, n4, hRB, hsm⟩, i_Rup hR 0 (by decide), hK0, hK1, hT, hF, hO1, hO2, hS1, hS2⟩
  · apply i_ex
    · unfold f_X8_falls f_X8_falls_J24
      rw [p2_within, Option.bind_some, if_pos (p2_b0.mpr hc), p2_refused2, Option.bind_some]
    · unfold f_X9_falls f_X9_falls_J30
      rw [p2_in, Option.bind_some, if_pos (p2_b0.mpr (by rw [p2_l]; exact hc)), p2_bad, Option.bind_some]
    · exact ⟨rfl, ⟨n0, n1, n2, n3, n4, hRB, hsm⟩, i_Rup hR 0 (by decide), hK0, hK1, hT, hF, hO1, hO2, hS1, hS2⟩
