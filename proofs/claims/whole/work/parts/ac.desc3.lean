theorem p3_U0 {x : Nat → Int64} {i : Nat} (h : p3_N x i 0) : p3_U x i 0 0 := ⟨fun _ => 0, fun k hk => ⟨by rw [h.2 k hk, p3_dg_z], Nat.le_refl _⟩, rfl⟩
section DS3
variable {hp : Nat → Nat} {L : Nat → Nat → Nat → Nat} {yc fy : Nat → Nat} {n0 n1 n2 n3 n4 : Nat} {od : Bool} {ea la : Nat} {nh : Nat → Nat} {nf : Nat → Nat → Nat} {ja jb jw : Nat → Nat}
variable {eI lI z4 : Int32} {fyA ycA plA bfA clA lkA lsA nmA c4 bk : Nat → Int32} {d np fo : Nat} {F : (Nat → Nat) → Nat} {PW : (Nat → Nat) → Nat → Nat}
theorem p8_step (hOK : p8_OK hp L yc fy n0 n1 n2 n3 n4 od ea la nh nf ja jb jw) (hST : p8_ST hp L yc fy n0 n1 n2 n3 od ea la nh nf eI lI fyA ycA plA bfA clA lkA lsA nmA) (hr4 : p2_rr 3 4 100 4 n4 c4 z4 bk) (hV : ∀ j, j < n4 → bk (100 + 3 * j + 0) = nI (ja j) ∧ bk (100 + 3 * j + 1) = nI (jb j) ∧ bk (100 + 3 * j + 2) = nI (jw j)) (hF : ∀ ω, F ω = p8_Wt hp L yc fy n1 n2 n3 n4 od ea la nh nf ja jb jw ω) (hPW : ∀ ω k, PW ω k = p6_PW hp L yc fy n1 n2 n3 n4 od ea la nh nf ja jb jw ω k) (hd : d ≤ 2) (hfo : fo ≤ 1) (hfd : fo = 1 → d = 0) (m h : Nat) (hm : m + (h + 1) = n2) (R : (Nat → Int64) → (Nat → Int64) → (Nat → Int64) → (Nat → Int32) → (Nat → Int64) → (Nat → Int64) → (Nat → Int64) → (Nat → Int32) → (Nat → Int64) → Int32 → Int32 → Option ((Nat → Int64) × (Nat → Int64) × (Nat → Int64) × (Nat → Int32) × (Nat → Int64) × (Nat → Int64) × (Nat → Int64) × (Nat → Int32) × (Nat → Int64)))
    (hR : p8_D hp L yc n0 n2 od ea la d np fo F PW m (h + 1) R) : p8_D hp L yc n0 n2 od ea la d np fo F PW (m + 1) h (f_X7_descend_B (nI d) eI lI (nI fo) fyA ycA plA bfA clA lkA lsA nmA (nI n0) (nI n2) c4 z4 np R) := by
  obtain ⟨on0, on1, on2, on3, on4, ohp, ood, oyc, ofy, oL, onh, oj⟩ := id hOK
  intro ω pr ws sub wy sh pa cr bw bt S Q C bb M hPR hws hwy hω htw hACC
  obtain ⟨sub1, a1, a2, a3⟩ := p3_zero (n := 28) (i := h) sub (by omega) (by decide)
  have hX : 12 ^ m ≤ 12 ^ 5 := Nat.pow_le_pow_right (by decide) (by omega)
  have hnX : (n0 + 1) * (12 ^ m * 1073741824) ≤ 6 * (12 ^ m * 1073741824) := Nat.mul_le_mul_right _ (by omega)
  have hnX2 : (n0 + 1) * (2 * (12 ^ m * 1073741824)) ≤ 6 * (2 * (12 ^ m * 1073741824)) := Nat.mul_le_mul_right _ (by omega)
  obtain ⟨pr', ws', sub', wy', sh', pa', cr', bw', bt', v, f1, f2, f3, f4, f5, f6, f7, f8, f9, f10, f11⟩ := p8_loop (bk := bk) hOK hST hr4 hV hF hPW hd hfo hfd m h hm R hR ω hω htw (n0 + 1) 0 cx_N0 pr ws sub1 wy sh pa cr bw bt S Q C bb M 0 0 (by omega) (by unfold cx_N0; omega) hPR hws hwy hACC (p3_U0 a3) (by omega)
  have e12 : 12 ^ (m + 1) * 1073741824 = 12 * (12 ^ m * 1073741824) := by rw [Nat.pow_succ, Nat.mul_comm (12 ^ m), Nat.mul_assoc]
  have ews : p6_sm (n0 + 1) (fun t => p6_ws n0 F m (h + 1) (p4_u ω h (p6_who n0 (0 + t)))) = p6_ws n0 F (m + 1) h ω := by
    rw [p6_ws]
    exact p6_sm_congr (fun t _ => by rw [Nat.zero_add])
  rw [e12]
  refine ⟨pr', ws', sub', wy', sh', pa', cr', bw', bt', v, ?_, f2, f3, fun j hj => by rw [f4 j hj, a2 j (by omega)], f5, f6.mono (by omega), ⟨fun q => by rw [f7.1 q, ews, Nat.zero_add], by have := f7.2; rw [ews] at this; omega⟩, by rw [f8, ews]; exact ⟨fun q => q.2, fun q => ⟨rfl, q⟩⟩, ?_, f10, f11⟩
  · unfold f_X7_descend_B
    rw [if_pos ((nI_ltI (by omega) (by omega)).mpr (by omega)), a1, Option.bind_some]
    exact f1
  · refine f9.mono (by omega) (fun k x => by rw [p8_cS_all]) (fun e v k y => by rw [p8_cQ_all]) (fun c => ?_) ?_
    · congr 1
      unfold p8_cC
      rw [p6_ws]
      exact p6_sm_congr (fun t _ => by rw [Nat.zero_add])
    · rw [p6_wf]
      exact p6_it_congr (fun t s _ => by rw [Nat.zero_add])
theorem p8_descend (hOK : p8_OK hp L yc fy n0 n1 n2 n3 n4 od ea la nh nf ja jb jw) (hST : p8_ST hp L yc fy n0 n1 n2 n3 od ea la nh nf eI lI fyA ycA plA bfA clA lkA lsA nmA) (hr4 : p2_rr 3 4 100 4 n4 c4 z4 bk) (hV : ∀ j, j < n4 → bk (100 + 3 * j + 0) = nI (ja j) ∧ bk (100 + 3 * j + 1) = nI (jb j) ∧ bk (100 + 3 * j + 2) = nI (jw j)) (hF : ∀ ω, F ω = p8_Wt hp L yc fy n1 n2 n3 n4 od ea la nh nf ja jb jw ω) (hPW : ∀ ω k, PW ω k = p6_PW hp L yc fy n1 n2 n3 n4 od ea la nh nf ja jb jw ω k) (hd : d ≤ 2) (hfo : fo ≤ 1) (hfd : fo = 1 → d = 0) : ∀ (m h fu : Nat), m + h = n2 → m < fu → p8_D hp L yc n0 n2 od ea la d np fo F PW m h (f_X7_descend (nI d) eI lI (nI fo) fyA ycA plA bfA clA lkA lsA nmA (nI n0) (nI n2) c4 z4 np fu) := by
  intro m
  induction m with
  | zero =>
    intro h fu h1 h2
    obtain ⟨fu, rfl⟩ : ∃ j, fu = j + 1 := ⟨fu - 1, by omega⟩
    have e : h = n2 := by omega
    subst e
    exact p8_leaf hOK hF hPW hd _
  | succ m ih =>
    intro h fu h1 h2
    obtain ⟨fu, rfl⟩ : ∃ j, fu = j + 1 := ⟨fu - 1, by omega⟩
    exact p8_step (bk := bk) hOK hST hr4 hV hF hPW hd hfo hfd m h (by omega) _ (ih (h + 1) fu (by omega) (by omega))
end DS3
