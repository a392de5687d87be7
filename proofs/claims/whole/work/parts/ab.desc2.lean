section DS2
variable {hp : Nat → Nat} {L : Nat → Nat → Nat → Nat} {yc fy : Nat → Nat} {n0 n1 n2 n3 n4 : Nat} {od : Bool} {ea la : Nat} {nh : Nat → Nat} {nf : Nat → Nat → Nat} {ja jb jw : Nat → Nat}
variable {eI lI z4 : Int32} {fyA ycA plA bfA clA lkA lsA nmA c4 bk : Nat → Int32} {d np fo : Nat} {F : (Nat → Nat) → Nat} {PW : (Nat → Nat) → Nat → Nat}
/-- from one to the next, of all that a head may be -/
theorem p8_loop (hOK : p8_OK hp L yc fy n0 n1 n2 n3 n4 od ea la nh nf ja jb jw) (hST : p8_ST hp L yc fy n0 n1 n2 n3 od ea la nh nf eI lI fyA ycA plA bfA clA lkA lsA nmA) (hr4 : p2_rr 3 4 100 4 n4 c4 z4 bk) (hV : ∀ j, j < n4 → bk (100 + 3 * j + 0) = nI (ja j) ∧ bk (100 + 3 * j + 1) = nI (jb j) ∧ bk (100 + 3 * j + 2) = nI (jw j)) (hF : ∀ ω, F ω = p8_Wt hp L yc fy n1 n2 n3 n4 od ea la nh nf ja jb jw ω) (hPW : ∀ ω k, PW ω k = p6_PW hp L yc fy n1 n2 n3 n4 od ea la nh nf ja jb jw ω k) (hd : d ≤ 2) (hfo : fo ≤ 1) (hfd : fo = 1 → d = 0) (m h : Nat) (hm : m + (h + 1) = n2) (R : (Nat → Int64) → (Nat → Int64) → (Nat → Int64) → (Nat → Int32) → (Nat → Int64) → (Nat → Int64) → (Nat → Int64) → (Nat → Int32) → (Nat → Int64) → Int32 → Int32 → Option ((Nat → Int64) × (Nat → Int64) × (Nat → Int64) × (Nat → Int32) × (Nat → Int64) × (Nat → Int64) × (Nat → Int64) × (Nat → Int32) × (Nat → Int64)))
    (hR : p8_D hp L yc n0 n2 od ea la d np fo F PW m (h + 1) R) (ω : Nat → Nat) (hω : ∀ e, e < h → k_w n0 (ω e)) (htw : p8_twb hp ω h = false) :
    ∀ (r i fu : Nat) (pr ws sub : Nat → Int64) (wy : Nat → Int32) (sh pa cr : Nat → Int64) (bw : Nat → Int32) (bt : Nat → Int64) (S : Nat → Nat → Nat) (Q : Nat → Nat → Nat → Nat → Nat) (C : Nat → Nat) (bb : Nat × (Nat → Nat)) (M v0 K0 : Nat),
    i + r = n0 + 1 → r < fu → p8_PR hp L yc n2 od ea la pr h ω → p3_N ws h (PW ω h) → (∀ e, e < h → wy e = nI (ω e)) → p8_ACC d np n2 sh pa cr bt bw S Q C bb M → p3_U sub h v0 K0 → K0 + r * (12 ^ m * 1073741824) < 2 ^ 62 →
    ∃ (pr' ws' sub' : Nat → Int64) (wy' : Nat → Int32) (sh' pa' cr' : Nat → Int64) (bw' : Nat → Int32) (bt' : Nat → Int64) (v : Nat), f_X7_descend_L65w (nI d) eI lI (nI fo) fyA ycA plA bfA clA lkA lsA nmA (nI n0) c4 z4 np (nI h) (nI (p8_crd ω h)) R fu pr ws sub wy sh pa cr bw bt (nI i) = some (pr', ws', sub', wy', sh', pa', cr', bw', bt') ∧
      (∀ j, (j < h * 12 ∨ 72 ≤ j) → pr' j = pr j) ∧ (∀ j, j < (h + 1) * 4 → ws' j = ws j) ∧ (∀ j, j < h * 4 → sub' j = sub j) ∧ (∀ e, e < h → wy' e = wy e) ∧
      p3_U sub' h v (K0 + r * (12 ^ m * 1073741824)) ∧ ((fo = 0 → v = v0 + p6_sm r (fun t => p6_ws n0 F m (h + 1) (p4_u ω h (p6_who n0 (i + t))))) ∧ v ≤ v0 + p6_sm r (fun t => p6_ws n0 F m (h + 1) (p4_u ω h (p6_who n0 (i + t))))) ∧ (v = 0 ↔ v0 = 0 ∧ p6_sm r (fun t => p6_ws n0 F m (h + 1) (p4_u ω h (p6_who n0 (i + t)))) = 0) ∧
      p8_ACC d np n2 sh' pa' cr' bt' bw' (fun k x => S k x + p6_sm r (fun t => p8_cS n0 n2 F h m (h + 1) (p4_u ω h (p6_who n0 (i + t))) k x)) (fun e v k y => Q e v k y + p6_sm r (fun t => p8_cQ n0 n2 F h m (h + 1) (p4_u ω h (p6_who n0 (i + t))) e v k y)) (fun c => C c + p6_sm r (fun t => p8_cC n0 n2 F m (h + 1) (p4_u ω h (p6_who n0 (i + t))) c)) (p6_it (fun t s => p6_wf n0 (p8_bs F) m (h + 1) (p4_u ω h (p6_who n0 (i + t))) s) r bb) (M + r * (2 * (12 ^ m * 1073741824))) ∧ (d = 0 → sh' = sh ∧ cr' = cr ∧ bw' = bw ∧ bt' = bt) ∧ (d ≠ 2 → pa' = pa) := by
  obtain ⟨on0, on1, on2, on3, on4, ohp, ood, oyc, ofy, oL, onh, oj⟩ := id hOK
  generalize hX : 12 ^ m * 1073741824 = X at *
  intro r
  induction r with
  | zero =>
    intro i fu pr ws sub wy sh pa cr bw bt S Q C bb M v0 K0 h1 h2 hPR hws hwy hACC hU hK
    obtain ⟨fu, rfl⟩ : ∃ j, fu = j + 1 := ⟨fu - 1, by omega⟩
    refine ⟨pr, ws, sub, wy, sh, pa, cr, bw, bt, v0, ?_, fun _ _ => rfl, fun _ _ => rfl, fun _ _ => rfl, fun _ _ => rfl, hU.mono (by omega), ⟨fun _ => rfl, Nat.le_refl _⟩, ⟨fun q => ⟨q, rfl⟩, fun q => q.1⟩, hACC.mono (by omega) (fun _ _ => rfl) (fun _ _ _ _ => rfl) (fun _ => rfl) rfl, fun _ => ⟨rfl, rfl, rfl, rfl⟩, fun _ => rfl⟩
    show f_X7_descend_L65 (nI d) eI lI (nI fo) fyA ycA plA bfA clA lkA lsA nmA (nI n0) c4 z4 np (nI h) (nI (p8_crd ω h)) R (f_X7_descend_L65w (nI d) eI lI (nI fo) fyA ycA plA bfA clA lkA lsA nmA (nI n0) c4 z4 np (nI h) (nI (p8_crd ω h)) R fu) pr ws sub wy sh pa cr bw bt (nI i) = _
    unfold f_X7_descend_L65
    rw [if_pos ((nI_ltI (by omega) (by omega)).mpr (by omega))]
  | succ r ih =>
    intro i fu pr ws sub wy sh pa cr bw bt S Q C bb M v0 K0 h1 h2 hPR hws hwy hACC hU hK
    obtain ⟨fu, rfl⟩ : ∃ j, fu = j + 1 := ⟨fu - 1, by omega⟩
    have hw := p6_who_w n0 i
    have hw6 := k_w_lt on0 hw
    have hwsP := hws
    rw [hPW] at hwsP
    obtain ⟨g, pr1, ws1, g1, g2, g3, g4⟩ := p8_goesOn (bk := bk) (wy := wy) hOK hST hr4 hV h (p6_who n0 i) (by omega) hw hω hwy hPR hwsP htw
    have hst : f_X7_descend_L65w (nI d) eI lI (nI fo) fyA ycA plA bfA clA lkA lsA nmA (nI n0) c4 z4 np (nI h) (nI (p8_crd ω h)) R (fu + 1) pr ws sub wy sh pa cr bw bt (nI i) = f_X7_descend_L65 (nI d) eI lI (nI fo) fyA ycA plA bfA clA lkA lsA nmA (nI n0) c4 z4 np (nI h) (nI (p8_crd ω h)) R (f_X7_descend_L65w (nI d) eI lI (nI fo) fyA ycA plA bfA clA lkA lsA nmA (nI n0) c4 z4 np (nI h) (nI (p8_crd ω h)) R fu) pr ws sub wy sh pa cr bw bt (nI i) := rfl
    have hlt : ¬ nI n0 < nI i := fun q => by have := (nI_ltI (by omega) (by omega)).mp q; omega
    have hshift : ∀ t, p6_who n0 (i + (t + 1)) = p6_who n0 (i + 1 + t) := fun t => by rw [show i + (t + 1) = i + 1 + t by omega]
    have hrX : K0 + (r + 1) * X = K0 + X + r * X := by rw [Nat.succ_mul]; omega
    rw [hrX] at hK ⊢
    have hrM : M + (r + 1) * (2 * X) = M + 2 * X + r * (2 * X) := by rw [Nat.succ_mul]; omega
    -- the way on: what is left of the loop, from a state that holds what this one brings
    have cont : ∀ (pr2 ws2 sub2 : Nat → Int64) (wy2 : Nat → Int32) (sh2 pa2 cr2 : Nat → Int64) (bw2 : Nat → Int32) (bt2 : Nat → Int64) (v2 : Nat), (∀ j, (j < h * 12 ∨ 72 ≤ j) → pr2 j = pr j) → (∀ j, j < (h + 1) * 4 → ws2 j = ws j) → (∀ j, j < h * 4 → sub2 j = sub j) → (∀ e, e < h → wy2 e = wy e) → p3_U sub2 h v2 (K0 + X) → ((fo = 0 → v2 = v0 + p6_ws n0 F m (h + 1) (p4_u ω h (p6_who n0 i))) ∧ v2 ≤ v0 + p6_ws n0 F m (h + 1) (p4_u ω h (p6_who n0 i))) → (v2 = 0 ↔ v0 = 0 ∧ p6_ws n0 F m (h + 1) (p4_u ω h (p6_who n0 i)) = 0) → p8_ACC d np n2 sh2 pa2 cr2 bt2 bw2 (fun k x => S k x + p8_cS n0 n2 F h m (h + 1) (p4_u ω h (p6_who n0 i)) k x) (fun e v k y => Q e v k y + p8_cQ n0 n2 F h m (h + 1) (p4_u ω h (p6_who n0 i)) e v k y) (fun c => C c + p8_cC n0 n2 F m (h + 1) (p4_u ω h (p6_who n0 i)) c) (p6_wf n0 (p8_bs F) m (h + 1) (p4_u ω h (p6_who n0 i)) bb) (M + 2 * X) → (d = 0 → sh2 = sh ∧ cr2 = cr ∧ bw2 = bw ∧ bt2 = bt) → (d ≠ 2 → pa2 = pa) →
        ∃ (pr' ws' sub' : Nat → Int64) (wy' : Nat → Int32) (sh' pa' cr' : Nat → Int64) (bw' : Nat → Int32) (bt' : Nat → Int64) (v : Nat), f_X7_descend_J152 (nI i) (f_X7_descend_L65w (nI d) eI lI (nI fo) fyA ycA plA bfA clA lkA lsA nmA (nI n0) c4 z4 np (nI h) (nI (p8_crd ω h)) R fu) pr2 ws2 sub2 wy2 sh2 pa2 cr2 bw2 bt2 = some (pr', ws', sub', wy', sh', pa', cr', bw', bt') ∧
          (∀ j, (j < h * 12 ∨ 72 ≤ j) → pr' j = pr j) ∧ (∀ j, j < (h + 1) * 4 → ws' j = ws j) ∧ (∀ j, j < h * 4 → sub' j = sub j) ∧ (∀ e, e < h → wy' e = wy e) ∧
          p3_U sub' h v (K0 + X + r * X) ∧ ((fo = 0 → v = v0 + p6_sm (r + 1) (fun t => p6_ws n0 F m (h + 1) (p4_u ω h (p6_who n0 (i + t))))) ∧ v ≤ v0 + p6_sm (r + 1) (fun t => p6_ws n0 F m (h + 1) (p4_u ω h (p6_who n0 (i + t))))) ∧ (v = 0 ↔ v0 = 0 ∧ p6_sm (r + 1) (fun t => p6_ws n0 F m (h + 1) (p4_u ω h (p6_who n0 (i + t)))) = 0) ∧
          p8_ACC d np n2 sh' pa' cr' bt' bw' (fun k x => S k x + p6_sm (r + 1) (fun t => p8_cS n0 n2 F h m (h + 1) (p4_u ω h (p6_who n0 (i + t))) k x)) (fun e v k y => Q e v k y + p6_sm (r + 1) (fun t => p8_cQ n0 n2 F h m (h + 1) (p4_u ω h (p6_who n0 (i + t))) e v k y)) (fun c => C c + p6_sm (r + 1) (fun t => p8_cC n0 n2 F m (h + 1) (p4_u ω h (p6_who n0 (i + t))) c)) (p6_it (fun t s => p6_wf n0 (p8_bs F) m (h + 1) (p4_u ω h (p6_who n0 (i + t))) s) (r + 1) bb) (M + (r + 1) * (2 * X)) ∧ (d = 0 → sh' = sh ∧ cr' = cr ∧ bw' = bw ∧ bt' = bt) ∧ (d ≠ 2 → pa' = pa) := by
      intro pr2 ws2 sub2 wy2 sh2 pa2 cr2 bw2 bt2 v2 e1 e2 e3 e4 e5 e6 e7 e8 e9 e10
      have hPR2 := p8_PR_fr (pr' := pr2) hPR (by omega) oyc e1
      have hws2 : p3_N ws2 h (PW ω h) := ⟨hws.1, fun k hk => by rw [e2 _ (by omega)]; exact hws.2 k hk⟩
      obtain ⟨pr', ws', sub', wy', sh', pa', cr', bw', bt', v, f1, f2, f3, f4, f5, f6, f7, f8, f9, f10, f11⟩ := ih (i + 1) fu pr2 ws2 sub2 wy2 sh2 pa2 cr2 bw2 bt2 _ _ _ _ (M + 2 * X) v2 (K0 + X) (by omega) (by omega) hPR2 hws2 (fun e he => by rw [e4 e he]; exact hwy e he) e8 e5 hK
      have sm1 : ∀ (G : Nat → Nat), p6_sm (r + 1) (fun t => G (p6_who n0 (i + t))) = G (p6_who n0 i) + p6_sm r (fun t => G (p6_who n0 (i + 1 + t))) := fun G => by
        rw [p6_sm_front, Nat.add_zero]
        congr 1
        exact p6_sm_congr (fun t _ => by rw [hshift])
      refine ⟨pr', ws', sub', wy', sh', pa', cr', bw', bt', v, ?_, fun j hj => (f2 j hj).trans (e1 j hj), fun j hj => (f3 j hj).trans (e2 j hj), fun j hj => (f4 j hj).trans (e3 j hj), fun e he => (f5 e he).trans (e4 e he), f6, ⟨fun q => ?_, ?_⟩, ?_, ?_, fun q => ?_, fun q => (f11 q).trans (e10 q)⟩
      · unfold f_X7_descend_J152
        rw [nI_1]
        exact f1
      · rw [f7.1 q, e6.1 q, sm1 (fun w => p6_ws n0 F m (h + 1) (p4_u ω h w))]
        omega
      · rw [sm1 (fun w => p6_ws n0 F m (h + 1) (p4_u ω h w))]
        have z1 := f7.2
        have z2 := e6.2
        omega
      · rw [f8, e7, sm1 (fun w => p6_ws n0 F m (h + 1) (p4_u ω h w))]
        omega
      · refine f9.mono (by omega) (fun k x => ?_) (fun e v k y => ?_) (fun c => ?_) ?_
        · rw [sm1 (fun w => p8_cS n0 n2 F h m (h + 1) (p4_u ω h w) k x)]
          omega
        · rw [sm1 (fun w => p8_cQ n0 n2 F h m (h + 1) (p4_u ω h w) e v k y)]
          omega
        · rw [sm1 (fun w => p8_cC n0 n2 F m (h + 1) (p4_u ω h w) c)]
          omega
        · rw [p6_it_front, Nat.add_zero]
          exact p6_it_congr (fun t s _ => by rw [hshift])
      · obtain ⟨a1, a2, a3, a4⟩ := f10 q
        obtain ⟨b1, b2, b3, b4⟩ := e9 q
        exact ⟨a1.trans b1, a2.trans b2, a3.trans b3, a4.trans b4⟩
    rw [hst]
    unfold f_X7_descend_L65
    rw [if_neg hlt, k_whoAt on0 (by omega), Option.bind_some, g1, Option.bind_some]
    dsimp only
    rcases g4 with ⟨rfl, hz⟩ | ⟨rfl, hws1, hPR1, htw1⟩
    · rw [if_pos rfl]
      obtain ⟨z1, z2, z3, z4', z5⟩ := p8_c_zero n0 n2 F m (h + 1) (p4_u ω h (p6_who n0 i)) (fun ω' q => by rw [hF]; exact hz ω' q)
      refine cont pr1 ws1 sub wy sh pa cr bw bt v0 (fun j hj => g2 j (by omega)) (fun j hj => g3 j (by omega)) (fun _ _ => rfl) (fun _ _ => rfl) (hU.mono (by omega)) ⟨fun _ => by rw [z4']; rfl, by omega⟩ (by rw [z4']; exact ⟨fun q => ⟨q, rfl⟩, fun q => q.1⟩) ?_ (fun _ => ⟨rfl, rfl, rfl, rfl⟩) (fun _ => rfl)
      exact hACC.mono (by omega) (fun k x => by rw [z1]; rfl) (fun e v k y => by rw [z2]; rfl) (fun c => by rw [z3]; rfl) (z5 bb).symm
    · rw [if_neg (by decide), p2_gd (p2_ib (by omega) (by decide)), p2_ix (n := h) (by omega)]
      simp only [cx_let]
      have hω1 : ∀ e, e < h + 1 → k_w n0 (p4_u ω h (p6_who n0 i) e) := fun e he => by
        by_cases q : e = h
        · subst q; rw [p4_us]; exact hw
        · rw [p4_un q]; exact hω e (by omega)
      have hwy1 : ∀ e, e < h + 1 → upd wy h (nI (p6_who n0 i)) e = nI (p4_u ω h (p6_who n0 i) e) := fun e he => by
        by_cases q : e = h
        · subst q; rw [p4_us, p2_us]
        · rw [p4_un q, p2_un q]; exact hwy e (by omega)
      obtain ⟨pr2, ws2, sub2, wy2, sh2, pa2, cr2, bw2, bt2, vc, c1, c2, c3, c4', c5, c6, c7, c8, c9, c10, c11⟩ := hR (p4_u ω h (p6_who n0 i)) pr1 ws1 sub (upd wy h (nI (p6_who n0 i))) sh pa cr bw bt S Q C bb M hPR1 (by rw [hPW]; exact hws1) hwy1 hω1 htw1 hACC
      have hcrd : nI (p8_crd ω h) ||| ((1 : Int32) <<< (nI (p6_who n0 i) &&& 31)) = nI (p8_crd (p4_u ω h (p6_who n0 i)) (h + 1)) := by
        have hb : 2 ^ p6_who n0 i < 2 ^ 6 := Nat.pow_lt_pow_right (by decide) hw6
        rw [p8_sh1 _ hw6, p8_or (p8_crd_lt (fun e he => k_w_lt on0 (hω e he))) hb, p8_crd, p4_us, p8_crd_congr (ω' := ω) (fun e he => p4_un (by omega))]
      rw [hcrd, nI_1, c1, Option.bind_some]
      dsimp only
      rw [hX] at c6 c9
      have hUh : p3_U sub2 h v0 K0 := by
        obtain ⟨s, s1, s2⟩ := hU
        exact ⟨s, fun k hk => by rw [c4' _ (by omega)]; exact s1 k hk, s2⟩
      have hwy2 : ∀ e, e < h → wy2 e = nI (ω e) ∧ ω e < 6 := fun e he => ⟨by rw [c5 e (by omega), p2_un (by omega)]; exact hwy e he, k_w_lt on0 (hω e he)⟩
      obtain ⟨sub3, sh3, pa3, d1, d2, d3, d4, d5, d6, d7⟩ := p8_gather d np wy2 ω sub2 sh2 pa2 h (p6_who n0 i) v0 vc K0 X (M + X) (M + X) _ _ hd (by omega) hw6 hwy2 hUh c6 (fun q => (c9.1 q).1) (fun q => c9.2 q)
      rw [d1, Option.bind_some]
      dsimp only
      have hvc : 1 ≤ d → vc = p6_ws n0 F m (h + 1) (p4_u ω h (p6_who n0 i)) := fun q => c7.1 (by
        rcases (show fo = 0 ∨ fo = 1 by omega) with z | z
        · exact z
        · have := hfd z; omega)
      have hpr2 : ∀ j, (j < h * 12 ∨ 72 ≤ j) → pr2 j = pr j := fun j hj => by rw [c2 j (by omega), g2 j (by omega)]
      have hws2 : ∀ j, j < (h + 1) * 4 → ws2 j = ws j := fun j hj => by rw [c3 j (by omega), g3 j (by omega)]
      have hsub3 : ∀ j, j < h * 4 → sub3 j = sub j := fun j hj => by rw [d2 j (by omega), c4' j (by omega)]
      have hwy3 : ∀ e, e < h → wy2 e = wy e := fun e he => by rw [c5 e (by omega), p2_un (by omega)]
      have hv3 : (fo = 0 → v0 + vc = v0 + p6_ws n0 F m (h + 1) (p4_u ω h (p6_who n0 i))) ∧ v0 + vc ≤ v0 + p6_ws n0 F m (h + 1) (p4_u ω h (p6_who n0 i)) := ⟨fun q => by rw [c7.1 q], by have := c7.2; omega⟩
      have hv4 : (v0 + vc = 0 ↔ v0 = 0 ∧ p6_ws n0 F m (h + 1) (p4_u ω h (p6_who n0 i)) = 0) := by rw [← c8]; omega
      have hA3 : p8_ACC d np n2 sh3 pa3 cr2 bt2 bw2 (fun k x => S k x + p8_cS n0 n2 F h m (h + 1) (p4_u ω h (p6_who n0 i)) k x) (fun e v k y => Q e v k y + p8_cQ n0 n2 F h m (h + 1) (p4_u ω h (p6_who n0 i)) e v k y) (fun c => C c + p8_cC n0 n2 F m (h + 1) (p4_u ω h (p6_who n0 i)) c) (p6_wf n0 (p8_bs F) m (h + 1) (p4_u ω h (p6_who n0 i)) bb) (M + 2 * X) := by
        refine ⟨fun q => ?_, fun q => ?_⟩
        · obtain ⟨a1, a2, a3, a4⟩ := c9.1 q
          refine ⟨fun k w hk hw => ?_, fun c hc => (a2 c hc).mono (by omega), a3, a4⟩
          have := d5 q k w hk hw
          dsimp only at this ⊢
          rw [← p8_cS_child n0 n2 F m h (p6_who n0 i) ω k w (by omega), ← hvc q, ← Nat.add_assoc]
          exact this.mono (by omega)
        · obtain ⟨a1, a2⟩ := c9.2 q
          refine ⟨a1, fun e v k y b1 b2 b3 b4 => ?_⟩
          have := d7 q e v k y b1 b2 b3 b4
          dsimp only at this ⊢
          rw [← p8_cQ_child n0 n2 F m h (p6_who n0 i) ω e v k y (by omega), ← hvc (by omega), ← Nat.add_assoc]
          exact this.mono (by omega)
      have hd0 : d = 0 → sh3 = sh ∧ cr2 = cr ∧ bw2 = bw ∧ bt2 = bt := fun q => by
        obtain ⟨a1, a2, a3, a4⟩ := c10 q
        exact ⟨(d4 q).trans a1, a2, a3, a4⟩
      have hd2 : d ≠ 2 → pa3 = pa := fun q => (d6 q).trans (c11 q)
      have C1 := cont pr2 ws2 sub3 wy2 sh3 pa3 cr2 bw2 bt2 (v0 + vc) hpr2 hws2 hsub3 hwy3 d3 hv3 hv4 hA3 hd0 hd2
      by_cases hf0 : fo = 0
      · rw [if_pos (by rw [hf0]; rfl)]
        exact C1
      · have hf1 : fo = 1 := by omega
        rw [if_neg (by rw [hf1]; decide), p3_isZeroU (n := 28) (by omega) (by decide) d3 (by omega), Option.bind_some, p4_bt]
        by_cases hvz : v0 + vc = 0
        · rw [if_pos hvz]
          exact C1
        · rw [if_neg hvz]
          have hdz := hfd hf1
          refine ⟨pr2, ws2, sub3, wy2, sh3, pa3, cr2, bw2, bt2, v0 + vc, rfl, hpr2, hws2, hsub3, hwy3, d3.mono (by omega), ⟨fun q => absurd q hf0, ?_⟩, ⟨fun q => absurd q hvz, fun q => ?_⟩, ⟨fun q => by omega, fun q => by omega⟩, hd0, hd2⟩
          · rw [p6_sm_front]
            have := hv3.2
            have z : p6_ws n0 F m (h + 1) (p4_u ω h (p6_who n0 (i + 0))) = p6_ws n0 F m (h + 1) (p4_u ω h (p6_who n0 i)) := rfl
            omega
          exfalso
          obtain ⟨q1, q2⟩ := q
          have q3 := p6_sm_z q2 0 (by omega)
          rw [Nat.add_zero] at q3
          exact hvz (hv4.mpr ⟨q1, q3⟩)
end DS2
