section DG2
variable {c0 c1 c2 c3 c4 : Nat → Int32} {z0 z1 z2 z3 z4 sg : Int32} {bk : Nat → Int32} {n0 n1 n2 n3 n4 : Nat}
/-- the counts, mixed -/
def p2_mc (n0 n1 n2 n3 n4 : Nat) (tl : Int32) : Int64 := 31 * (31 * (31 * (31 * (31 * (31 * 661 + Int32.toInt64 (nI n0)) + Int32.toInt64 (nI n1)) + Int32.toInt64 (nI n2)) + Int32.toInt64 (nI n3)) + Int32.toInt64 (nI n4)) + Int32.toInt64 tl
/-- the digest -/
def p2_dg (bk : Nat → Int32) (n0 n1 n2 n3 n4 : Nat) (tl : Int32) (lb : Nat → Int32) (la lc : Nat) : Int64 :=
  p2_mix (fun j => Int32.toInt64 (lb j)) lc 16 (p2_mix (fun j => Int32.toInt64 (lb j)) la 0 (31 * (31 * (31 * p2_mb bk n0 n1 n2 n3 n4 (p2_mc n0 n1 n2 n3 n4 tl) + Int32.toInt64 (if la = 0 then 0 else 1)) + Int32.toInt64 (nI la)) + Int32.toInt64 (nI lc)))
theorem p2_digestC (h : p2_RB c0 z0 c1 z1 c2 z2 c3 z3 c4 z4 sg bk n0 n1 n2 n3 n4) {ab be : Nat → Int64} {lb : Nat → Int32} {w0 w1 tl : Int32} {la lc : Nat} (hF0 : p2_F1 ab lb w0 0 la) (hF1 : p2_F1 be lb w1 16 lc) : f_X8_digest c0 z0 c1 z1 c2 z2 c3 z3 c4 z4 sg tl ab be = some (p2_dg bk n0 n1 n2 n3 n4 tl lb la lc) := by
  have hz0 := h.1.2.1
  have hz1 := h.2.1.2.1
  have hz2 := h.2.2.1.2.1
  have hz3 := h.2.2.2.1.2.1
  have hz4 := h.2.2.2.2.1.2.1
  have hs : ∀ (n i : Nat) (v : Int64) (a : Int32), i ≤ 5 → f_X8_howMany z0 z1 z2 z3 z4 tl (nI i) = some a → f_X8_digest_L6w c0 z0 c1 z1 c2 z2 c3 z3 c4 z4 sg tl ab be (n + 1) v (nI i) = f_X8_digest_L6w c0 z0 c1 z1 c2 z2 c3 z3 c4 z4 sg tl ab be n (31 * v + Int32.toInt64 a) (nI (i + 1)) := by
    intro n i v a hi ha
    show f_X8_digest_L6 c0 z0 c1 z1 c2 z2 c3 z3 c4 z4 sg tl ab be (f_X8_digest_L6w c0 z0 c1 z1 c2 z2 c3 z3 c4 z4 sg tl ab be n) v (nI i) = _
    unfold f_X8_digest_L6
    rw [if_neg (show ¬ (5 : Int32) < nI i from nI_nlt (b := i) (a := 5) hi (by decide)), ha, Option.bind_some, nI_1]
    rfl
  unfold f_X8_digest
  rw [show cx_N0 = 9999999994 + 1 + 1 + 1 + 1 + 1 + 1 from rfl, show (0 : Int32) = nI 0 from rfl,
    hs _ 0 _ z0 (by decide) rfl, hs _ 1 _ z1 (by decide) rfl, hs _ 2 _ z2 (by decide) rfl, hs _ 3 _ z3 (by decide) rfl, hs _ 4 _ z4 (by decide) rfl, hs _ 5 _ tl (by decide) rfl]
  show f_X8_digest_L6 c0 z0 c1 z1 c2 z2 c3 z3 c4 z4 sg tl ab be (f_X8_digest_L6w c0 z0 c1 z1 c2 z2 c3 z3 c4 z4 sg tl ab be 9999999993) _ (nI 6) = _
  unfold f_X8_digest_L6
  rw [if_pos (by decide), p2_mixB h, Option.bind_some, p2_F1z hF0, Option.bind_some]
  have hJ : ∀ (u : Int64) (s : Int32), f_X8_digest_J59 ab be u s = some (p2_mix be lc 0 (p2_mix ab la 0 (31 * (31 * (u + Int32.toInt64 s) + Int32.toInt64 (nI la)) + Int32.toInt64 (nI lc)))) := by
    intro u s
    unfold f_X8_digest_J59
    simp only [cx_let]
    rw [p2_length hF0, Option.bind_some, p2_length hF1, Option.bind_some, p2_mixF hF0, Option.bind_some, p2_mixF hF1, Option.bind_some]
  have hab : ∀ v, p2_mix ab la 0 v = p2_mix (fun j => Int32.toInt64 (lb j)) la 0 v := fun v => p2_mix_congr la 0 0 v (fun t ht => by rw [show 0 + t = t by omega, hF0.2.2.1 t ht, show 0 + t = t by omega])
  have hbe : ∀ v, p2_mix be lc 0 v = p2_mix (fun j => Int32.toInt64 (lb j)) lc 16 v := fun v => p2_mix_congr lc 0 16 v (fun t ht => by rw [show 0 + t = t by omega, hF1.2.2.1 t ht])
  rw [hJ, hJ, hab, hab, hbe, hbe]
  unfold p2_dg p2_mc
  rw [← hz0, ← hz1, ← hz2, ← hz3, ← hz4]
  by_cases hl : la = 0
  · rw [p2_b, if_pos hl, if_neg (by decide), if_pos hl]
  · rw [p2_b, if_neg hl, if_pos rfl, if_neg hl]
theorem p2_digestM (h : p2_RB c0 z0 c1 z1 c2 z2 c3 z3 c4 z4 sg bk n0 n1 n2 n3 n4) {ab be : Nat → Int64} {lb wd : Nat → Int32} {tl : Int32} {la lc : Nat} (hF0 : p2_F1 ab lb (wd 0) 0 la) (hF1 : p2_F1 be lb (wd 1) 16 lc) : f_X9_digest lb wd bk tl = some (p2_dg bk n0 n1 n2 n3 n4 tl lb la lc) := by
  obtain ⟨r0, r1, r2, r3, r4, rs, -⟩ := h
  have hs : ∀ (n i : Nat) (v : Int64) (a : Int32), i ≤ 5 → f_X9_countOf bk tl (nI i) = some a → f_X9_digest_L6w lb wd bk tl (n + 1) v (nI i) = f_X9_digest_L6w lb wd bk tl n (31 * v + Int32.toInt64 a) (nI (i + 1)) := by
    intro n i v a hi ha
    show f_X9_digest_L6 lb wd bk tl (f_X9_digest_L6w lb wd bk tl n) v (nI i) = _
    unfold f_X9_digest_L6
    rw [if_neg (show ¬ (6 : Int32) ≤ nI i from nI_ge (b := 6) (by omega) (by decide)), ha, Option.bind_some, nI_1]
    rfl
  have hc : ∀ i : Nat, i < 5 → f_X9_countOf bk tl (nI i) = some (bk i) := by
    intro i hi
    unfold f_X9_countOf
    rw [if_neg (show ¬ (5 : Int32) ≤ nI i from nI_ge (b := 5) hi (by decide)), p2_gd (p2_ib (by omega) (by decide)), p2_ix (by omega)]
  have hin : ∀ (r l : Nat) (rc : Int64 → Int32 → Option Int64), r < 2 → l ≤ 4 → wd r = nI l → ∀ (k i m : Nat) (v : Int64), i + k = l → k < m → f_X9_digest_L166w lb wd (nI r) rc m v (nI i) = rc (p2_mix (fun j => Int32.toInt64 (lb j)) k (16 * r + i) v) (nI (r + 1)) := by
    intro r l rc hr hl hw k
    induction k with
    | zero =>
      intro i m v a1 a2
      obtain ⟨m, rfl⟩ : ∃ j, m = j + 1 := ⟨m - 1, by omega⟩
      show f_X9_digest_L166 lb wd (nI r) rc (f_X9_digest_L166w lb wd (nI r) rc m) v (nI i) = _
      unfold f_X9_digest_L166
      rw [p2_gd (p2_ib (by omega) (by decide)), p2_ix (n := r) (by omega), hw, if_pos (nI_le (by omega) (by omega)), nI_1]
      rfl
    | succ k ih =>
      intro i m v a1 a2
      obtain ⟨m, rfl⟩ : ∃ j, m = j + 1 := ⟨m - 1, by omega⟩
      show f_X9_digest_L166 lb wd (nI r) rc (f_X9_digest_L166w lb wd (nI r) rc m) v (nI i) = _
      unfold f_X9_digest_L166
      rw [p2_gd (p2_ib (by omega) (by decide)), p2_ix (n := r) (by omega), hw, if_neg (nI_ge (by omega) (by omega)), show (16 : Int32) * nI r + nI i = nI (16 * r + i) from by rw [show (16 : Int32) = nI 16 from rfl, pk_mul, nI_add], p2_gd (p2_ib (by omega) (by decide)), p2_ix (n := 16 * r + i) (by omega), nI_1]
      exact ih (i + 1) m _ (by omega) (by omega)
  unfold f_X9_digest
  rw [show cx_N0 = 9999999994 + 1 + 1 + 1 + 1 + 1 + 1 from rfl, show (0 : Int32) = nI 0 from rfl,
    hs _ 0 _ _ (by decide) (hc 0 (by decide)), hs _ 1 _ _ (by decide) (hc 1 (by decide)), hs _ 2 _ _ (by decide) (hc 2 (by decide)), hs _ 3 _ _ (by decide) (hc 3 (by decide)), hs _ 4 _ _ (by decide) (hc 4 (by decide)), hs _ 5 _ tl (by decide) rfl]
  show f_X9_digest_L6 lb wd bk tl (f_X9_digest_L6w lb wd bk tl 9999999993) _ (nI 6) = _
  unfold f_X9_digest_L6
  rw [if_pos (by decide), p2_gd (by decide), show bk (cx_ix 0) = nI n0 from r0.2.2.1]
  rw [show f_X9_mixed bk _ 8 (6 * nI n0) = _ from (p2_mixR 6 5 8 0 n0 c0 z0 r0 (by decide) _).2, Option.bind_some, p2_gd (by decide), show bk (cx_ix 1) = nI n1 from r1.2.2.1]
  rw [show f_X9_mixed bk _ 40 (2 * nI n1) = _ from (p2_mixR 2 4 40 1 n1 c1 z1 r1 (by decide) _).2, Option.bind_some, p2_gd (by decide), show bk (cx_ix 2) = nI n2 from r2.2.2.1]
  rw [show f_X9_mixed bk _ 50 (5 * nI n2) = _ from (p2_mixR 5 6 50 2 n2 c2 z2 r2 (by decide) _).2, Option.bind_some, p2_gd (by decide), show bk (cx_ix 3) = nI n3 from r3.2.2.1]
  rw [show f_X9_mixed bk _ 80 (4 * nI n3) = _ from (p2_mixR 4 4 80 3 n3 c3 z3 r3 (by decide) _).2, Option.bind_some, p2_gd (by decide), show bk (cx_ix 4) = nI n4 from r4.2.2.1]
  rw [show f_X9_mixed bk _ 100 (3 * nI n4) = _ from (p2_mixR 3 4 100 4 n4 c4 z4 r4 (by decide) _).2, Option.bind_some]
  have h51 : ∀ v, f_X9_mixed bk v 5 1 = some (31 * v + Int32.toInt64 (bk 5)) := fun v => by
    unfold f_X9_mixed
    rw [show f_X9_mixed_L6w bk 5 1 cx_N0 v 0 = _ from p2_mixM 5 1 (by decide) 1 0 cx_N0 v (by omega) (by unfold cx_N0; omega)]
    rfl
  have hsg : f_X9_signNow wd = some (if la = 0 then 0 else 1) := by
    unfold f_X9_signNow
    rw [p2_gd (by decide), show wd (cx_ix 0) = nI la from hF0.2.1]
    have hla := hF0.1
    by_cases e : la = 0
    · rw [if_pos e, if_pos (by rw [e]; rfl)]
    · rw [if_neg e, if_neg (nI_ne0 (by omega) (by omega))]
  rw [h51, Option.bind_some, hsg, Option.bind_some, p2_gd (by decide), p2_gd (by decide)]
  simp only [cx_let]
  have h158 : ∀ v, f_X9_digest_L158w lb wd cx_N0 v 0 = some (p2_mix (fun j => Int32.toInt64 (lb j)) lc 16 (p2_mix (fun j => Int32.toInt64 (lb j)) la 0 v)) := by
    intro v
    show f_X9_digest_L158 lb wd (f_X9_digest_L158w lb wd 9999999999) v (nI 0) = _
    unfold f_X9_digest_L158
    rw [if_neg (by decide), show f_X9_digest_L166w lb wd (nI 0) (f_X9_digest_L158w lb wd 9999999999) cx_N0 v 0 = _ from hin 0 la _ (by decide) hF0.1 hF0.2.1 la 0 cx_N0 v (by omega) (by have := hF0.1; unfold cx_N0; omega)]
    show f_X9_digest_L158 lb wd (f_X9_digest_L158w lb wd 9999999998) _ (nI 1) = _
    unfold f_X9_digest_L158
    rw [if_neg (by decide), show f_X9_digest_L166w lb wd (nI 1) (f_X9_digest_L158w lb wd 9999999998) cx_N0 _ 0 = _ from hin 1 lc _ (by decide) hF1.1 hF1.2.1 lc 0 cx_N0 _ (by omega) (by have := hF1.1; unfold cx_N0; omega)]
    show f_X9_digest_L158 lb wd (f_X9_digest_L158w lb wd 9999999997) _ (nI 2) = _
    unfold f_X9_digest_L158
    rw [if_pos (by decide)]
  rw [show wd (cx_ix 0) = nI la from hF0.2.1, show wd (cx_ix 1) = nI lc from hF1.2.1]
  refine (h158 _).trans ?_
  unfold p2_dg p2_mb p2_mc
  rw [r0.2.2.1, r1.2.2.1, r2.2.2.1, r3.2.2.1, r4.2.2.1]
end DG2
