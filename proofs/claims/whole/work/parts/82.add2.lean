/-! rows that grow -/
def p2_ap (c : Nat → Int32) (i : Nat) : List Int32 → (Nat → Int32)
  | [] => c
  | v :: vs => p2_ap (upd c i v) (i + 1) vs
theorem p2_ap_out : ∀ (vs : List Int32) (c : Nat → Int32) (i j : Nat), ¬ (i ≤ j ∧ j < i + vs.length) → p2_ap c i vs j = c j
  | [], c, i, j, _ => rfl
  | v :: vs, c, i, j, h => by
    have h2 : i + (v :: vs).length = i + 1 + vs.length := by simp; omega
    rw [h2] at h
    show p2_ap (upd c i v) (i + 1) vs j = c j
    rw [p2_ap_out vs (upd c i v) (i + 1) j (by omega), p2_un (by omega)]
theorem p2_ap_in : ∀ (vs : List Int32) (c : Nat → Int32) (i t : Nat), t < vs.length → p2_ap c i vs (i + t) = vs.getD t 0
  | [], c, i, t, h => by simp at h
  | v :: vs, c, i, 0, h => by
    show p2_ap (upd c i v) (i + 1) vs (i + 0) = v
    rw [p2_ap_out vs (upd c i v) (i + 1) (i + 0) (by omega)]
    exact p2_us
  | v :: vs, c, i, t + 1, h => by
    show p2_ap (upd c i v) (i + 1) vs (i + (t + 1)) = vs.getD t 0
    rw [show i + (t + 1) = i + 1 + t by omega]
    exact p2_ap_in vs (upd c i v) (i + 1) t (by simpa using h)
/-- the book with one more row -/
def p2_bk (bk : Nat → Int32) (w off cnt n : Nat) (vs : List Int32) : Nat → Int32 := upd (p2_ap bk (off + w * n) vs) cnt (nI (n + 1))
theorem p2_bk_out {bk : Nat → Int32} {w off cnt n j : Nat} {vs : List Int32} (h1 : j ≠ cnt) (h2 : ¬ (off + w * n ≤ j ∧ j < off + w * n + vs.length)) : p2_bk bk w off cnt n vs j = bk j := by
  unfold p2_bk
  rw [p2_un h1, p2_ap_out _ _ _ _ h2]
theorem p2_bk_in {bk : Nat → Int32} {w off cnt n t : Nat} {vs : List Int32} (h1 : off + w * n + t ≠ cnt) (h2 : t < vs.length) : p2_bk bk w off cnt n vs (off + w * n + t) = vs.getD t 0 := by
  unfold p2_bk
  rw [p2_un h1, p2_ap_in _ _ _ _ h2]
theorem p2_rr.add {w lim off cnt n : Nat} {c : Nat → Int32} {z : Int32} {bk : Nat → Int32} {vs : List Int32} (h : p2_rr w lim off cnt n c z bk) (hn : n < lim) (hw : vs.length = w) (hc : cnt < off) : p2_rr w lim off cnt (n + 1) (p2_ap c (n * w) vs) (nI (n + 1)) (p2_bk bk w off cnt n vs) := by
  obtain ⟨a, b, d, e⟩ := h
  refine ⟨by omega, rfl, p2_us, fun j hj => ?_⟩
  have e1 : (n + 1) * w = n * w + w := by rw [Nat.add_mul, Nat.one_mul]
  have e2 : w * n = n * w := Nat.mul_comm w n
  by_cases hl : j < n * w
  · rw [p2_ap_out _ _ _ _ (by omega), p2_bk_out (by omega) (by omega)]
    exact e j hl
  · obtain ⟨t, rfl⟩ : ∃ t, j = n * w + t := ⟨j - n * w, by omega⟩
    rw [p2_ap_in _ _ _ _ (by omega), show off + (n * w + t) = off + w * n + t by omega, p2_bk_in (by omega) (by omega)]
theorem p2_nfull {lim n : Nat} (h : n < lim) (hl : lim < 2 ^ 31) : f_X4_isFull (nI lim) (nI n) = some 0 := by
  rw [p2_isFull, p2_b, if_neg (by rw [nI_toInt hl, nI_toInt (by omega)]; omega)]
theorem p2_dfull {lim : Nat} (hl : lim < 2 ^ 31) : f_X4_isFull (nI lim) (nI lim) = some 1 := by
  rw [p2_isFull, p2_b, if_pos (Int.le_refl _)]
theorem p2_nne {a b : Nat} (h : a ≠ b) (ha : a < 2 ^ 31) (hb : b < 2 ^ 31) : ¬ nI a = nI b := fun q => h ((nI_eq ha hb).mp q)
section BX2
variable {c0 c1 c2 c3 c4 : Nat → Int32} {z0 z1 z2 z3 z4 sg : Int32} {bk : Nat → Int32} {n0 n1 n2 n3 n4 : Nat}
/-- person(..) -/
theorem bx_person (h : p2_RB c0 z0 c1 z1 c2 z2 c3 z3 c4 z4 sg bk n0 n1 n2 n3 n4) (a b c d : Int32) :
    (∃ (r : Int32) (i : Nat), (r = -2 ∧ i = 0 ∨ r = -4 ∧ i = 2) ∧ f_X1_addPerson c0 z0 a b c d = some (r, z0, c0) ∧ ∀ rf q, f_X9_person bk rf q a b c d = some (r, bk, p2_rf rf q i)) ∨
    (n0 < 5 ∧ ∃ (z' : Int32) (c' bk' : Nat → Int32), f_X1_addPerson c0 z0 a b c d = some (nI n0, z', c') ∧ (∀ rf q, f_X9_person bk rf q a b c d = some (nI n0, bk', rf)) ∧ p2_RB c' z' c1 z1 c2 z2 c3 z3 c4 z4 sg bk' (n0 + 1) n1 n2 n3 n4) := by
  obtain ⟨r0, r1, r2, r3, r4, rs, v0, v1, v2, v3, v4, v5⟩ := h
  obtain ⟨hn, hz, hb, hc⟩ := id r0
  by_cases ha : 0 ≤ a.toInt ∧ a.toInt ≤ 99
  case neg =>
    left
    refine ⟨-2, 0, Or.inl ⟨rfl, rfl⟩, ?_, fun rf q => ?_⟩
    · unfold f_X1_addPerson
      rw [p2_within, Option.bind_some, if_pos (p2_b0.mpr (by exact ha))]
    · unfold f_X9_person f_X9_person_J50
      rw [p2_in, Option.bind_some, if_pos (p2_b0.mpr (by rw [p2_l]; exact ha)), p2_bad]
      rfl
  by_cases hbb : a.toInt ≤ b.toInt ∧ b.toInt ≤ 100
  case neg =>
    left
    refine ⟨-2, 0, Or.inl ⟨rfl, rfl⟩, ?_, fun rf q => ?_⟩
    · unfold f_X1_addPerson
      rw [p2_within, Option.bind_some, if_neg (fun h => (p2_b0.mp h) (by exact ha)), p2_within, Option.bind_some, if_pos (p2_b0.mpr (by exact hbb))]
    · unfold f_X9_person f_X9_person_J50
      rw [p2_in, Option.bind_some, if_neg (fun h => (p2_b0.mp h) (by rw [p2_l]; exact ha)), p2_in, Option.bind_some, if_pos (p2_b0.mpr (by rw [p2_l, p2_l]; exact hbb)), p2_bad]
      rfl
  by_cases hcc : 0 ≤ c.toInt ∧ c.toInt ≤ 15
  case neg =>
    left
    refine ⟨-2, 0, Or.inl ⟨rfl, rfl⟩, ?_, fun rf q => ?_⟩
    · unfold f_X1_addPerson
      rw [p2_within, Option.bind_some, if_neg (fun h => (p2_b0.mp h) (by exact ha)), p2_within, Option.bind_some, if_neg (fun h => (p2_b0.mp h) (by exact hbb)), p2_within, Option.bind_some, if_pos (p2_b0.mpr (by exact hcc))]
    · unfold f_X9_person f_X9_person_J50
      rw [p2_in, Option.bind_some, if_neg (fun h => (p2_b0.mp h) (by rw [p2_l]; exact ha)), p2_in, Option.bind_some, if_neg (fun h => (p2_b0.mp h) (by rw [p2_l, p2_l]; exact hbb)), p2_in, Option.bind_some, if_pos (p2_b0.mpr (by rw [p2_l]; exact hcc)), p2_bad]
      rfl
  by_cases hdd : 0 ≤ d.toInt ∧ d.toInt ≤ 15
  case neg =>
    left
    refine ⟨-2, 0, Or.inl ⟨rfl, rfl⟩, ?_, fun rf q => ?_⟩
    · unfold f_X1_addPerson
      rw [p2_within, Option.bind_some, if_neg (fun h => (p2_b0.mp h) (by exact ha)), p2_within, Option.bind_some, if_neg (fun h => (p2_b0.mp h) (by exact hbb)), p2_within, Option.bind_some, if_neg (fun h => (p2_b0.mp h) (by exact hcc)), p2_within, Option.bind_some, if_pos (p2_b0.mpr (by exact hdd))]
    · unfold f_X9_person f_X9_person_J50
      rw [p2_in, Option.bind_some, if_neg (fun h => (p2_b0.mp h) (by rw [p2_l]; exact ha)), p2_in, Option.bind_some, if_neg (fun h => (p2_b0.mp h) (by rw [p2_l, p2_l]; exact hbb)), p2_in, Option.bind_some, if_neg (fun h => (p2_b0.mp h) (by rw [p2_l]; exact hcc)), p2_in, Option.bind_some, if_pos (p2_b0.mpr (by rw [p2_l]; exact hdd)), p2_bad]
      rfl
  have hb' : bk (cx_ix 0) = nI n0 := hb
  by_cases hf : n0 = 5
  · left
    subst hf
    refine ⟨-4, 2, Or.inr ⟨rfl, rfl⟩, ?_, fun rf q => ?_⟩
    · unfold f_X1_addPerson
      rw [p2_within, Option.bind_some, if_neg (fun h => (p2_b0.mp h) (by exact ha)), p2_within, Option.bind_some, if_neg (fun h => (p2_b0.mp h) (by exact hbb)), p2_within, Option.bind_some, if_neg (fun h => (p2_b0.mp h) (by exact hcc)), p2_within, Option.bind_some, if_neg (fun h => (p2_b0.mp h) (by exact hdd)), hz,
        show f_X4_isFull 5 (nI 5) = some 1 from p2_dfull (by decide), Option.bind_some, if_neg (by decide)]
    · unfold f_X9_person
      rw [p2_in, Option.bind_some, if_neg (fun h => (p2_b0.mp h) (by rw [p2_l]; exact ha)), p2_in, Option.bind_some, if_neg (fun h => (p2_b0.mp h) (by rw [p2_l, p2_l]; exact hbb)), p2_in, Option.bind_some, if_neg (fun h => (p2_b0.mp h) (by rw [p2_l]; exact hcc)), p2_in, Option.bind_some, if_neg (fun h => (p2_b0.mp h) (by rw [p2_l]; exact hdd)), p2_gd (by decide), if_pos (by rw [hb']; rfl), p2_full]
      rfl
  · right
    have hl : n0 < 5 := by omega
    refine ⟨hl, nI (n0 + 1), p2_ap c0 (n0 * 6) [a, b, c, d, -1, 2], p2_bk bk 6 8 0 n0 [a, b, c, d, -1, 2], ?_, fun rf q => ?_, ?_⟩
    · unfold f_X1_addPerson
      have ep : ∀ (f : Nat → Int32) (t : Nat) (v : Int32), t < 6 → f_X4_put 6 30 f (nI (n0 + 1)) (nI n0) (nI t) v = some (upd f (n0 * 6 + t) v) := fun f t v ht => p2_put (w := 6) (n := 30) (z := n0 + 1) (r := n0) (c := t) f v (by omega) ht (by omega) (by decide) (by omega) (by decide)
      rw [p2_within, Option.bind_some, if_neg (fun h => (p2_b0.mp h) (by exact ha)), p2_within, Option.bind_some, if_neg (fun h => (p2_b0.mp h) (by exact hbb)), p2_within, Option.bind_some, if_neg (fun h => (p2_b0.mp h) (by exact hcc)), p2_within, Option.bind_some, if_neg (fun h => (p2_b0.mp h) (by exact hdd)), hz,
        show f_X4_isFull 5 (nI n0) = some 0 from p2_nfull hl (by decide), Option.bind_some, if_pos rfl, show f_X4_grow 5 (nI n0) = _ from p2_grow hl (by decide), Option.bind_some]
      show Option.bind (f_X4_put 6 30 c0 (nI (n0 + 1)) (nI n0) (nI 0) a) _ = _
      rw [ep _ 0 _ (by decide), Option.bind_some]
      show Option.bind (f_X4_put 6 30 _ (nI (n0 + 1)) (nI n0) (nI 1) b) _ = _
      rw [ep _ 1 _ (by decide), Option.bind_some]
      show Option.bind (f_X4_put 6 30 _ (nI (n0 + 1)) (nI n0) (nI 2) c) _ = _
      rw [ep _ 2 _ (by decide), Option.bind_some]
      show Option.bind (f_X4_put 6 30 _ (nI (n0 + 1)) (nI n0) (nI 3) d) _ = _
      rw [ep _ 3 _ (by decide), Option.bind_some]
      show Option.bind (f_X4_put 6 30 _ (nI (n0 + 1)) (nI n0) (nI 4) (-1)) _ = _
      rw [ep _ 4 _ (by decide), Option.bind_some]
      show Option.bind (f_X4_put 6 30 _ (nI (n0 + 1)) (nI n0) (nI 5) 2) _ = _
      rw [ep _ 5 _ (by decide), Option.bind_some]
      rfl
    · unfold f_X9_person
      have ex : (8 : Int32) + 6 * nI n0 = nI (8 + 6 * n0) := by rw [show (8 : Int32) = nI 8 from rfl, show (6 : Int32) = nI 6 from rfl, pk_mul, nI_add]
      have e1 : ∀ t : Nat, t < 6 → cx_ib (nI (8 + 6 * n0) + nI t) 140 = true := fun t ht => by rw [nI_add]; exact p2_ib (by omega) (by decide)
      have e2 : ∀ t : Nat, t < 6 → cx_ix (nI (8 + 6 * n0) + nI t) = 8 + 6 * n0 + t := fun t ht => by rw [nI_add]; exact p2_ix (by omega)
      rw [p2_in, Option.bind_some, if_neg (fun h => (p2_b0.mp h) (by rw [p2_l]; exact ha)), p2_in, Option.bind_some, if_neg (fun h => (p2_b0.mp h) (by rw [p2_l, p2_l]; exact hbb)), p2_in, Option.bind_some, if_neg (fun h => (p2_b0.mp h) (by rw [p2_l]; exact hcc)), p2_in, Option.bind_some, if_neg (fun h => (p2_b0.mp h) (by rw [p2_l]; exact hdd)), p2_gd (by decide), hb',
        if_neg (show ¬ nI n0 = 5 from p2_nne hf (by omega) (by decide)), p2_gd (by decide), ex]
      simp only [cx_let]
      rw [p2_gd (p2_ib (by omega) (by decide)), show (1 : Int32) = nI 1 from rfl, show (2 : Int32) = nI 2 from rfl, show (3 : Int32) = nI 3 from rfl, show (4 : Int32) = nI 4 from rfl, show (5 : Int32) = nI 5 from rfl,
        p2_gd (e1 1 (by decide)), p2_gd (e1 2 (by decide)), p2_gd (e1 3 (by decide)), p2_gd (e1 4 (by decide)), p2_gd (e1 5 (by decide)), p2_gd (by decide), p2_gd (by decide), p2_gd (by decide), e2 1 (by decide), e2 2 (by decide), e2 3 (by decide), e2 4 (by decide), e2 5 (by decide), p2_ix (n := 8 + 6 * n0) (by omega)]
      have ch : p2_ap bk (8 + 6 * n0) [a, b, c, d, -1, nI 2] 0 = nI n0 := by rw [p2_ap_out _ _ _ _ (by omega)]; exact hb
      show some (upd (p2_ap bk (8 + 6 * n0) [a, b, c, d, -1, nI 2]) 0 (p2_ap bk (8 + 6 * n0) [a, b, c, d, -1, nI 2] 0 + 1) 0 - 1, upd (p2_ap bk (8 + 6 * n0) [a, b, c, d, -1, nI 2]) 0 (p2_ap bk (8 + 6 * n0) [a, b, c, d, -1, nI 2] 0 + 1), rf) = _
      rw [ch, p2_us, nI_1, nI_pred]
      rfl
    · have un : ∀ j, j ≠ 0 → ¬ (8 + 6 * n0 ≤ j ∧ j < 8 + 6 * n0 + 6) → p2_bk bk 6 8 0 n0 [a, b, c, d, -1, 2] j = bk j := fun j h1 h2 => p2_bk_out h1 h2
      refine ⟨r0.add hl rfl (by decide), r1.keep (un _ (by omega) (by omega)) (fun j hj => un _ (by omega) (by omega)), r2.keep (un _ (by omega) (by omega)) (fun j hj => un _ (by omega) (by omega)), r3.keep (un _ (by omega) (by omega)) (fun j hj => un _ (by omega) (by omega)), r4.keep (un _ (by omega) (by omega)) (fun j hj => un _ (by omega) (by omega)), by rw [un _ (by omega) (by omega)]; exact rs, fun p hp => ?_, fun p hp => (v1 p hp).congr (fun t _ => un _ (by omega) (by omega)), fun p hp => (v2 p hp).congr (Nat.le_refl _) (fun t _ => un _ (by omega) (by omega)), fun p hp => (v3 p hp).congr (by omega) (Nat.le_refl _) (fun t _ => un _ (by omega) (by omega)), fun p hp => (v4 p hp).congr (Nat.le_refl _) (fun t _ => un _ (by omega) (by omega)) (fun a ha => un _ (by omega) (by omega)), by rw [p2_e, un _ (by omega) (by omega)]; exact v5⟩
      by_cases hpn : p = n0
      · subst hpn
        have nw : ∀ t, t < 6 → p2_bk bk 6 8 0 p [a, b, c, d, -1, 2] (8 + 6 * p + t) = [a, b, c, d, -1, 2].getD t 0 := fun t ht => p2_bk_in (by omega) ht
        unfold p2_V0 p2_e
        rw [nw 0 (by decide), nw 1 (by decide), nw 2 (by decide), nw 3 (by decide), nw 4 (by decide), nw 5 (by decide)]
        refine ⟨ha, hbb, hcc, hdd, ⟨(show (-1 : Int) ≤ (-1 : Int32).toInt by decide), ?_⟩, ⟨(show (0 : Int) ≤ (2 : Int32).toInt by decide), (show (2 : Int32).toInt ≤ 4 by decide)⟩⟩
        show (-1 : Int) ≤ _
        omega
      · exact (v0 p (by omega)).congr (fun t _ => un _ (by omega) (by omega))
end BX2
