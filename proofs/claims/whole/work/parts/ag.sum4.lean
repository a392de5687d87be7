/-- a look: years from fy on, yc of them; all names but sk; ea ahead of la -/
def q_LK (n1 n3 : Nat) (fy yc : Nat → Nat) (sk : Nat) (od : Bool) (ea la : Nat) : Prop := (∀ p, yc p ≤ 12) ∧ (∀ p, fy p ≤ 99) ∧ (od = true → ea < n1 ∧ la < n1 ∧ ea ≠ la)
/-- the look as the class holds it -/
def q_LA (n1 n3 : Nat) (fy yc : Nat → Nat) (sk : Nat) (od : Bool) (ea la : Nat) (skI eI lI : Int32) (fyA ycA : Nat → Int32) : Prop := (∀ p, p < n1 → fyA p = nI (fy p) ∧ ycA p = nI (yc p)) ∧ (∀ n, n < n3 → (nI n = skI ↔ n = sk)) ∧ (od = true → eI = nI ea ∧ lI = nI la) ∧ (od = false → eI = -1 ∧ lI = -1)
/-- the weight of a way in a look -/
def q_F (bk : Nat → Int32) (n1 n2 n3 n4 : Nat) (fy yc : Nat → Nat) (sk : Nat) (od : Bool) (ea la : Nat) : (Nat → Nat) → Nat := p8_Wt (k_hp bk) (q_L bk fy) yc fy n1 n2 n3 n4 od ea la (k_nh bk) (k_nf bk sk) (k_ja bk) (k_jb bk) (k_jw bk)
def q_0 : Nat → Nat := fun _ => 0
section SU
variable {c0 c1 c2 c3 c4 : Nat → Int32} {z0 z1 z2 z3 z4 sg : Int32} {bk : Nat → Int32} {n0 n1 n2 n3 n4 : Nat} {fy yc : Nat → Nat} {sk : Nat} {od : Bool} {ea la : Nat} {skI eI lI : Int32} {fyA ycA : Nat → Int32}
theorem q_OK (hRB : p2_RB c0 z0 c1 z1 c2 z2 c3 z3 c4 z4 sg bk n0 n1 n2 n3 n4) (hLK : q_LK n1 n3 fy yc sk od ea la) : p8_OK (k_hp bk) (q_L bk fy) yc fy n0 n1 n2 n3 n4 od ea la (k_nh bk) (k_nf bk sk) (k_ja bk) (k_jb bk) (k_jw bk) := by
  obtain ⟨r0, r1, r2, r3, r4, rs, v0, v1, v2, v3, v4, v5⟩ := hRB
  obtain ⟨l1, l2, l3⟩ := hLK
  have hn0 := r0.1
  have hn2 := r2.1
  refine ⟨r0.1, r1.1, r2.1, r3.1, r4.1, fun h hh => (k_hp_spec (v2 h hh)).2, l3, l1, l2, fun h w y hh hw => (k_lk_spec v5 h w _ (k_w_lt hn0 hw)).2, fun n hn => ?_, fun j hj => ?_⟩
  · obtain ⟨_, _, _, a4, _, _, _, _⟩ := k_name_spec (v3 n hn)
    exact ⟨a4, fun w => k_nf_le (k_tr_spec hn0 v0 (v3 n hn)).2⟩
  · obtain ⟨_, a2, _, a4, _, a6, a7⟩ := k_join_spec hn2 (v4 j hj)
    exact ⟨a2, a4, a6, a7⟩
theorem q_whoEx {w : Nat} (h : k_w n0 w) : ∃ i, i ≤ n0 ∧ p6_who n0 i = w := by
  rcases h with h | h
  · exact ⟨n0, Nat.le_refl _, by unfold p6_who; rw [if_neg (by omega), h]⟩
  · exact ⟨w, by omega, by unfold p6_who; rw [if_pos h]⟩
/-- what is planned of a head as someone -/
def q_P1 (bk : Nat → Int32) (n3 : Nat) (fy yc : Nat → Nat) (sk : Nat) (lk ls nm : Nat → Int32) (h w : Nat) : Prop := (∀ y, y < yc (k_hp bk h) → lk ((h * 6 + w) * 12 + y) = nI (q_L bk fy h w y)) ∧ ls (h * 6 + w) = nI (p6_sm (yc (k_hp bk h)) (q_L bk fy h w)) ∧ nm (h * 6 + w) = nI (p6_pr n3 (fun n => if k_nh bk n = h then k_nf bk sk n w else 1))
theorem p9_planI (hRB : p2_RB c0 z0 c1 z1 c2 z2 c3 z3 c4 z4 sg bk n0 n1 n2 n3 n4) (hLK : q_LK n1 n3 fy yc sk od ea la) (hLA : q_LA n1 n3 fy yc sk od ea la skI eI lI fyA ycA) (pl : Nat → Int32) (h : Nat) (hh : h < n2) (hpl : pl h = nI (k_hp bk h)) (rc : (Nat → Int32) → (Nat → Int32) → (Nat → Int32) → Int32 → Option ((Nat → Int32) × (Nat → Int32) × (Nat → Int32) × (Nat → Int32) × (Nat → Int32) × (Nat → Int32) × (Nat → Int64) × (Nat → Int64) × (Nat → Int64) × (Nat → Int32) × Int32 × Int32 × (Nat → Int64) × (Nat → Int64) × (Nat → Int64) × (Nat → Int64) × (Nat → Int32) × (Nat → Int64))) : ∀ (r i m : Nat) (lk ls nm : Nat → Int32), i + r = n0 + 1 → r < m → (∀ h' w, h' < h → k_w n0 w → q_P1 bk n3 fy yc sk lk ls nm h' w) → (∀ i', i' < i → q_P1 bk n3 fy yc sk lk ls nm h (p6_who n0 i')) → ∃ lk' ls' nm', f_X7_sumUp_L53w skI fyA ycA c0 z0 c2 z2 c3 z3 sg pl (nI h) rc m lk ls nm (nI i) = rc lk' ls' nm' (nI (h + 1)) ∧ (∀ h' w, h' < h + 1 → k_w n0 w → q_P1 bk n3 fy yc sk lk' ls' nm' h' w) := by
  obtain ⟨r0, r1, r2, r3, r4, rs, v0, v1, v2, v3, v4, v5⟩ := id hRB
  have hn0 := r0.1
  have hn2 := r2.1
  have hz0 := r0.2.1
  obtain ⟨e1, e2⟩ := k_hp_spec (v2 h hh)
  intro r
  induction r with
  | zero =>
    intro i m lk ls nm h1 h2 h3 h4
    obtain ⟨m, rfl⟩ : ∃ j, m = j + 1 := ⟨m - 1, by omega⟩
    refine ⟨lk, ls, nm, ?_, fun h' w hh' hw => ?_⟩
    · show f_X7_sumUp_L53 skI fyA ycA c0 z0 c2 z2 c3 z3 sg pl (nI h) rc (f_X7_sumUp_L53w skI fyA ycA c0 z0 c2 z2 c3 z3 sg pl (nI h) rc m) lk ls nm (nI i) = _
      unfold f_X7_sumUp_L53
      have : z0 < nI i := by rw [hz0]; exact (nI_ltI (by omega) (by omega)).mpr (by omega)
      rw [if_pos this, nI_1]
    · by_cases q : h' = h
      · subst q
        obtain ⟨i', i1, i2⟩ := q_whoEx hw
        rw [← i2]
        exact h4 i' (by omega)
      · exact h3 h' w (by omega) hw
  | succ r ih =>
    intro i m lk ls nm h1 h2 h3 h4
    obtain ⟨m, rfl⟩ : ∃ j, m = j + 1 := ⟨m - 1, by omega⟩
    have hw := p6_who_w n0 i
    have hw6 := k_w_lt hn0 hw
    obtain ⟨lk1, ls1, a1, a2, a3, a4, a5⟩ := p9_planLikes (fy := fy) (yc := yc) hRB fyA ycA pl lk ls h (p6_who n0 i) hh hw hpl (hLA.1 _ e2).1 (hLA.1 _ e2).2 (hLK.1 _) (hLK.2.1 _)
    obtain ⟨nm1, b1, b2, b3⟩ := p9_planNamings (sk := sk) hRB skI hLA.2.1 nm h (p6_who n0 i) hh hw
    have keep : ∀ h' w, w < 6 → h' * 6 + w ≠ h * 6 + p6_who n0 i → q_P1 bk n3 fy yc sk lk ls nm h' w → q_P1 bk n3 fy yc sk lk1 ls1 nm1 h' w := fun h' w hw' hne q => by
      have := hLK.1 (k_hp bk h')
      refine ⟨fun y hy => by rw [a4 _ (by omega)]; exact q.1 y hy, by rw [a5 _ hne]; exact q.2.1, by rw [b3 _ hne]; exact q.2.2⟩
    obtain ⟨lk', ls', nm', g1, g2⟩ := ih (i + 1) m lk1 ls1 nm1 (by omega) (by omega) (fun h' w hh' hw' => by
      have := k_w_lt hn0 hw'
      exact keep h' w this (by omega) (h3 h' w hh' hw')) (fun i' hi' => by
      by_cases q : p6_who n0 i' = p6_who n0 i
      · rw [q]
        exact ⟨a2, a3, b2⟩
      · have hq : i' < i := by
          by_cases z : i' = i
          · rw [z] at q; exact absurd rfl q
          · omega
        exact keep h _ (k_w_lt hn0 (p6_who_w n0 i')) (by omega) (h4 i' hq))
    refine ⟨lk', ls', nm', ?_, g2⟩
    rw [← g1]
    show f_X7_sumUp_L53 skI fyA ycA c0 z0 c2 z2 c3 z3 sg pl (nI h) rc (f_X7_sumUp_L53w skI fyA ycA c0 z0 c2 z2 c3 z3 sg pl (nI h) rc m) lk ls nm (nI i) = _
    unfold f_X7_sumUp_L53
    have hlt : ¬ z0 < nI i := by rw [hz0]; exact fun q => by have := (nI_ltI (by omega) (by omega)).mp q; omega
    have hwa : f_X8_whoAt (nI i) z0 = some (nI (p6_who n0 i)) := by rw [hz0]; exact k_whoAt hn0 (by omega)
    rw [if_neg hlt, hwa, Option.bind_some, a1, Option.bind_some, b1, Option.bind_some, nI_1]
/-- SUMUP -/
theorem p9_sumUp (hRB : p2_RB c0 z0 c1 z1 c2 z2 c3 z3 c4 z4 sg bk n0 n1 n2 n3 n4) (hLK : q_LK n1 n3 fy yc sk od ea la) (hLA : q_LA n1 n3 fy yc sk od ea la skI eI lI fyA ycA) (d np fo : Nat) (hd : d ≤ 2) (hfo : fo ≤ 1) (hfd : fo = 1 → d = 0) (hnp : np < 2 ^ 31) (hnp2 : d = 2 → np = 5184) (pl bf cl lk ls nm : Nat → Int32) (pr ws sub : Nat → Int64) (wy : Nat → Int32) (to sh pa cr : Nat → Int64) (bw : Nat → Int32) (bt : Nat → Int64) (hones : ∀ y, y < 12 → pr (72 + y) = lN 1) (hshN : ∀ k, k < 36 → ∃ v, p3_N sh k v) :
    ∃ (pl' bf' cl' lk' ls' nm' : Nat → Int32) (pr' ws' sub' : Nat → Int64) (wy' : Nat → Int32) (to' sh' pa' cr' : Nat → Int64) (bw' : Nat → Int32) (bt' : Nat → Int64) (v : Nat), f_X7_sumUp (nI d) skI eI lI (nI fo) fyA ycA pl bf cl lk ls nm pr ws sub wy c0 z0 z1 c2 z2 c3 z3 c4 z4 sg np to sh pa cr bw bt = some (pl', bf', cl', lk', ls', nm', pr', ws', sub', wy', z0, z2, to', sh', pa', cr', bw', bt') ∧
      (∀ y, y < 12 → pr' (72 + y) = lN 1) ∧ (∀ k, k < 36 → ∃ v, p3_N sh' k v) ∧ p3_N to' 0 v ∧ (fo = 0 → v = p6_ws n0 (q_F bk n1 n2 n3 n4 fy yc sk od ea la) n2 0 q_0) ∧ (v = 0 ↔ p6_ws n0 (q_F bk n1 n2 n3 n4 fy yc sk od ea la) n2 0 q_0 = 0) ∧
      (1 ≤ d → (∀ k x, k < n2 → x < 6 → p3_N sh' (k * 6 + x) (p6_ws n0 (fun ω => if ω k = x then q_F bk n1 n2 n3 n4 fy yc sk od ea la ω else 0) n2 0 q_0)) ∧ p8_C1 cr' (fun c => p8_cC n0 n2 (q_F bk n1 n2 n3 n4 fy yc sk od ea la) n2 0 q_0 c) 4503599627370496 ∧ ((p6_wf n0 (p8_bs (q_F bk n1 n2 n3 n4 fy yc sk od ea la)) n2 0 q_0 (0, q_0)).1 ≠ 0 → ∀ e, e < n2 → bw' e = nI ((p6_wf n0 (p8_bs (q_F bk n1 n2 n3 n4 fy yc sk od ea la)) n2 0 q_0 (0, q_0)).2 e))) ∧
      (d = 2 → p8_P4 pa' (fun e v k y => p8_cQ n0 n2 (q_F bk n1 n2 n3 n4 fy yc sk od ea la) 0 n2 0 q_0 e v k y) 4503599627370496) := by
  obtain ⟨r0, r1, r2, r3, r4, rs, v0, v1, v2, v3, v4, v5⟩ := id hRB
  have hn0 := r0.1
  have hn1 := r1.1
  have hn2 := r2.1
  have hz0 := r0.2.1
  have hz1 := r1.2.1
  have hz2 := r2.2.1
  have hOK := q_OK hRB hLK
  obtain ⟨to1, sh1, pa1, cr1, bt1, a1, a2, a3, a4, a5, a6, a7⟩ := p9_empty np d to sh pa cr bt z0 z2 hd hnp hnp2
  obtain ⟨pl', bf', cl', b1, b2, b3⟩ := p9_place r2 v2 hn1 pl bf cl
  -- the plans
  have plan : ∀ (r h m : Nat) (lk ls nm : Nat → Int32), h + r = n2 → r < m → (∀ h' w, h' < h → k_w n0 w → q_P1 bk n3 fy yc sk lk ls nm h' w) → ∃ lk' ls' nm' m', f_X7_sumUp_L37w (nI d) skI eI lI (nI fo) fyA ycA pr ws sub wy c0 z0 z1 c2 z2 c3 z3 c4 z4 sg np bw pl' bf' cl' z0 z2 to1 sh1 pa1 cr1 bt1 m lk ls nm (nI h) = f_X7_sumUp_L37w (nI d) skI eI lI (nI fo) fyA ycA pr ws sub wy c0 z0 z1 c2 z2 c3 z3 c4 z4 sg np bw pl' bf' cl' z0 z2 to1 sh1 pa1 cr1 bt1 (m' + 1) lk' ls' nm' (nI n2) ∧ (∀ h' w, h' < n2 → k_w n0 w → q_P1 bk n3 fy yc sk lk' ls' nm' h' w) := by
    intro r
    induction r with
    | zero =>
      intro h m lk ls nm h1 h2 h3
      have e : h = n2 := by omega
      subst e
      exact ⟨lk, ls, nm, m - 1, by rw [show m - 1 + 1 = m by omega], h3⟩
    | succ r ih =>
      intro h m lk ls nm h1 h2 h3
      obtain ⟨m, rfl⟩ : ∃ j, m = j + 1 := ⟨m - 1, by omega⟩
      obtain ⟨lk1, ls1, nm1, c1, c2'⟩ := p9_planI hRB hLK hLA pl' h (by omega) (b2 h (by omega)).1 (f_X7_sumUp_L37w (nI d) skI eI lI (nI fo) fyA ycA pr ws sub wy c0 z0 z1 c2 z2 c3 z3 c4 z4 sg np bw pl' bf' cl' z0 z2 to1 sh1 pa1 cr1 bt1 m) (n0 + 1) 0 cx_N0 lk ls nm (by omega) (by unfold cx_N0; omega) h3 (fun i hi => by omega)
      obtain ⟨lk', ls', nm', m', g1, g2⟩ := ih (h + 1) m lk1 ls1 nm1 (by omega) (by omega) c2'
      refine ⟨lk', ls', nm', m', ?_, g2⟩
      rw [← g1, ← c1]
      show f_X7_sumUp_L37 (nI d) skI eI lI (nI fo) fyA ycA pr ws sub wy c0 z0 z1 c2 z2 c3 z3 c4 z4 sg np bw pl' bf' cl' z0 z2 to1 sh1 pa1 cr1 bt1 (f_X7_sumUp_L37w (nI d) skI eI lI (nI fo) fyA ycA pr ws sub wy c0 z0 z1 c2 z2 c3 z3 c4 z4 sg np bw pl' bf' cl' z0 z2 to1 sh1 pa1 cr1 bt1 m) lk ls nm (nI h) = _
      unfold f_X7_sumUp_L37
      have hlt : ¬ z2 ≤ nI h := by rw [hz2]; exact nI_ge (by omega) (by omega)
      rw [if_neg hlt]
      rfl
  obtain ⟨lk', ls', nm', m', c1, c2'⟩ := plan n2 0 cx_N0 lk ls nm (by omega) (by unfold cx_N0; omega) (fun h' w hh' => by omega)
  have hST : p8_ST (k_hp bk) (q_L bk fy) yc fy n0 n1 n2 n3 od ea la (k_nh bk) (k_nf bk sk) eI lI fyA ycA pl' bf' cl' lk' ls' nm' := ⟨hLA.1, b2, fun p hp => b3 p (by omega), fun h w hh hw => c2' h w hh hw, hLA.2.2.1, hLA.2.2.2⟩
  obtain ⟨ws1, d1, d2, d3⟩ := p3_set (n := 28) (i := 0) (v := 1) ws (by decide) (by decide) (by decide)
  obtain ⟨ws2, e1, e2⟩ := p9_empties (ω := q_0) (clA := cl') hOK hLA.1 (fun p hp => b3 p (by omega)) hLA.2.2.1 hLA.2.2.2 hones d3
  have hPW0 : p6_PW (k_hp bk) (q_L bk fy) yc fy n1 n2 n3 n4 od ea la (k_nh bk) (k_nf bk sk) (k_ja bk) (k_jb bk) (k_jw bk) q_0 0 = p6_c0 (k_hp bk) (q_L bk fy) yc fy n1 n2 od ea la q_0 := by
    unfold p6_PW
    rw [p6_pr, Nat.mul_one]
  have hD := p8_descend (bk := bk) (d := d) (np := np) (fo := fo) (F := q_F bk n1 n2 n3 n4 fy yc sk od ea la) (PW := p6_PW (k_hp bk) (q_L bk fy) yc fy n1 n2 n3 n4 od ea la (k_nh bk) (k_nf bk sk) (k_ja bk) (k_jb bk) (k_jw bk)) hOK hST r4 (fun j hj => by
    obtain ⟨w1, _, w3, _, w5, _, _⟩ := k_join_spec hn2 (v4 j hj)
    exact ⟨w1, w3, w5⟩) (fun ω => rfl) (fun ω k => rfl) hd hfo hfd n2 0 8 (by omega) (by omega)
  obtain ⟨pr', ws', sub', wy', sh2, pa2, cr2, bw2, bt2, v, f1, f2, f3, f4, f5, f6, f7, f8, f9, f10, f11⟩ := hD q_0 pr ws2 sub wy sh1 pa1 cr1 bw bt1 (fun _ _ => 0) (fun _ _ _ _ => 0) (fun _ => 0) (0, q_0) 0 ⟨hones, fun e he => by omega⟩ (by rw [hPW0]; exact e2) (fun e he => by omega) (fun e he => by omega) rfl ⟨fun q => ⟨(a4 q).1, (a4 q).2, a3, fun z => absurd rfl z⟩, fun q => ⟨hnp2 q, a5 q⟩⟩
  have hX : 12 ^ n2 * 1073741824 ≤ 12 ^ 6 * 1073741824 := Nat.mul_le_mul_right _ (Nat.pow_le_pow_right (by decide) hn2)
  have hX2 : (12 ^ 6 * 1073741824 : Nat) = 3206175906594816 := by decide
  rw [hX2] at hX
  have hTlt : p6_ws n0 (q_F bk n1 n2 n3 n4 fy yc sk od ea la) n2 0 q_0 ≤ 111918671858621262436761600000000 := p8_ws_lt hOK _ (fun ω => Nat.le_refl _)
  have eP4 : (1073741824 ^ 4 : Nat) = 1329227995784915872903807060280344576 := by decide
  -- the shares, carried or kept
  have hSv : ∃ Sv : Nat → Nat, (∀ k, k < 36 → Sv k < 1073741824 ^ 4 ∧ p3_U sh2 k (Sv k) 2305843009213693952) ∧ (1 ≤ d → ∀ k x, k < n2 → x < 6 → Sv (k * 6 + x) = p6_ws n0 (fun ω => if ω k = x then q_F bk n1 n2 n3 n4 fy yc sk od ea la ω else 0) n2 0 q_0) := by
    by_cases h0 : d = 0
    · have hs : sh2 = sh := (f10 h0).1.trans (a6 h0).1
      refine ⟨fun k => if hk : k < 36 then (hshN k hk).choose else 0, fun k hk => ?_, fun q => by omega⟩
      have := (hshN k hk).choose_spec
      dsimp only
      rw [dif_pos hk, hs]
      exact ⟨this.1, this.U.mono (by decide)⟩
    · have hS := (f9.1 (by omega)).1
      refine ⟨fun i => p8_cS n0 n2 (q_F bk n1 n2 n3 n4 fy yc sk od ea la) 0 n2 0 q_0 (i / 6) (i % 6), fun i hi => ⟨?_, ?_⟩, fun _ k x hk hx => ?_⟩
      · dsimp only
        unfold p8_cS
        split
        · have := p8_ws_lt (ω := q_0) hOK (fun ω => if ω (i / 6) = i % 6 then q_F bk n1 n2 n3 n4 fy yc sk od ea la ω else 0) (fun ω => by
            split
            · exact Nat.le_refl _
            · exact Nat.zero_le _)
          rw [eP4]
          omega
        · exact Nat.pow_pos (by decide)
      · have := hS (i / 6) (i % 6) (by omega) (by omega)
        dsimp only at this
        rw [Nat.zero_add, show i / 6 * 6 + i % 6 = i by omega] at this
        exact this.mono (by omega)
      · dsimp only
        rw [show (k * 6 + x) / 6 = k by omega, show (k * 6 + x) % 6 = x by omega]
        exact if_pos ⟨Nat.zero_le _, hk⟩
  obtain ⟨Sv, s1, s2⟩ := hSv
  obtain ⟨to', sh', g1, g2, g3⟩ := p9_finish to1 sh2 sub' v (12 ^ n2 * 1073741824) Sv f6 (by omega) (by have := f7.2; rw [eP4]; omega) s1
  refine ⟨pl', bf', cl', lk', ls', nm', pr', ws', sub', wy', to', sh', pa2, cr2, bw2, bt2, v, ?_, fun y hy => by rw [f2 _ (by omega)]; exact hones y hy, fun k hk => ⟨Sv k, g3 k hk⟩, g2, f7.1, f8, fun q => ⟨fun k x hk hx => ?_, fun c hc => ?_, ?_⟩, fun q => ?_⟩
  · unfold f_X7_sumUp
    rw [a1, Option.bind_some, b1, Option.bind_some]
    refine c1.trans ?_
    show f_X7_sumUp_L37 (nI d) skI eI lI (nI fo) fyA ycA pr ws sub wy c0 z0 z1 c2 z2 c3 z3 c4 z4 sg np bw pl' bf' cl' z0 z2 to1 sh1 pa1 cr1 bt1 (f_X7_sumUp_L37w (nI d) skI eI lI (nI fo) fyA ycA pr ws sub wy c0 z0 z1 c2 z2 c3 z3 c4 z4 sg np bw pl' bf' cl' z0 z2 to1 sh1 pa1 cr1 bt1 m') lk' ls' nm' (nI n2) = _
    unfold f_X7_sumUp_L37
    have hle : z2 ≤ nI n2 := by rw [hz2]; exact nI_le (Nat.le_refl _) (by omega)
    have e1' : f_X7_takeEmptyPictures eI lI fyA ycA cl' pr ws1 z1 = some ws2 := by rw [hz1]; exact e1
    have f1' : f_X7_descend (nI d) eI lI (nI fo) fyA ycA pl' bf' cl' lk' ls' nm' z0 z2 c4 z4 np 8 pr ws2 sub wy sh1 pa1 cr1 bw bt1 0 0 = some (pr', ws', sub', wy', sh2, pa2, cr2, bw2, bt2) := by rw [hz0, hz2]; exact f1
    rw [if_pos hle, show f_X3_set 28 ws 0 1 = _ from d1, Option.bind_some, e1', Option.bind_some, f1', Option.bind_some]
    dsimp only
    rw [g1, Option.bind_some]
  · rw [← s2 q k x hk hx]
    exact g3 _ (by omega)
  · have := (f9.1 q).2.1 c hc
    dsimp only at this
    rw [Nat.zero_add] at this
    exact this.mono (by omega)
  · exact (f9.1 q).2.2.2
  · intro e v k y h1 h2 h3 h4
    have := (f9.2 q).2 e v k y h1 h2 h3 h4
    dsimp only at this ⊢
    rw [Nat.zero_add] at this
    exact this.mono (by omega)
end SU
