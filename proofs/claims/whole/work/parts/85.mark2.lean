/-! marks that go on, truths -/
theorem p2_bit (x : Int32) : x &&& 1 = 0 ∨ x &&& 1 = 1 := by
  rw [pk_and x (m := 1) 1 (by decide)]
  have h : x.toBitVec.toNat % 2 ^ 1 < 2 := Nat.mod_lt _ (by decide)
  rcases (show x.toBitVec.toNat % 2 ^ 1 = 0 ∨ x.toBitVec.toNat % 2 ^ 1 = 1 by omega) with e | e
  · left; rw [e]; rfl
  · right; rw [e]; rfl
theorem p2_bit1 {x : Int32} : x &&& 1 = 1 ↔ ¬ x &&& 1 = 0 := by
  rcases p2_bit x with e | e
  · rw [e]; decide
  · rw [e]; decide
/-- the mark m of a person, by its line of parents -/
def p2_mk (bk : Nat → Int32) (m : Int32) : Nat → Int32 → Int32
  | 0, _ => -1
  | f + 1, p => if p = -1 then -1 else if (bk (8 + 6 * cx_ix p + 3) >>> (m &&& 31)) &&& 1 = 0 then p2_mk bk m f (bk (8 + 6 * cx_ix p + 4)) else (bk (8 + 6 * cx_ix p + 2) >>> (m &&& 31)) &&& 1
theorem p2_mk_none (bk : Nat → Int32) (m : Int32) (f : Nat) : p2_mk bk m f (-1) = -1 := by
  cases f with
  | zero => rfl
  | succ f => rw [p2_mk, if_pos rfl]
theorem p2_nIne (r : Nat) (h : r < 2 ^ 31) : ¬ nI r = -1 := p2_neg1 (by rw [nI_toInt h]; omega)
theorem p2_par {bk : Nat → Int32} {r : Nat} (h : p2_V0 bk r) (hr : r < 2 ^ 30) : bk (8 + 6 * r + 4) = -1 ∨ ∃ t : Nat, t < r ∧ bk (8 + 6 * r + 4) = nI t := by
  have k := h.2.2.2.2.1
  by_cases hx : 0 ≤ (bk (8 + 6 * r + 4)).toInt
  · right
    obtain ⟨t, ht, e⟩ := vp_in_of (x := bk (8 + 6 * r + 4)) (n := r) (vp_in_iff.mpr ⟨hx, by have := k.2; omega⟩) (by omega)
    exact ⟨t, ht, e⟩
  · left
    exact p2_eq.mpr (by have e : (-1 : Int32).toInt = -1 := rfl; have := k.1; omega)
section MK
variable {c0 c1 c2 c3 c4 : Nat → Int32} {z0 z1 z2 z3 z4 sg : Int32} {bk : Nat → Int32} {n0 n1 n2 n3 n4 : Nat}
theorem p2_markM (hV : ∀ p, p < n0 → p2_V0 bk p) (hn : n0 ≤ 5) (m : Int32) : ∀ (f r n : Nat), r < f → r < n0 → r + 1 < n → f_X9_markOf_L2w bk m n (nI r) = some (p2_mk bk m f (nI r)) := by
  intro f
  induction f with
  | zero => intro r n h; omega
  | succ f ih =>
    intro r n h1 h2 h3
    obtain ⟨n, rfl⟩ : ∃ k, n = k + 1 := ⟨n - 1, by omega⟩
    show f_X9_markOf_L2 bk m (f_X9_markOf_L2w bk m n) (nI r) = _
    unfold f_X9_markOf_L2 f_X9_markOf_J30
    rw [if_neg (p2_nIne r (by omega)), show f_X9_ofPerson bk (nI r) 3 = _ from p2_ofPerson r 3 (by omega) (by decide), Option.bind_some, p2_mk, if_neg (p2_nIne r (by omega)), if_neg (p2_nIne r (by omega)), p2_ix (n := r) (by omega)]
    by_cases hb : (bk (8 + 6 * r + 3) >>> (m &&& 31)) &&& 1 = 0
    · rw [if_pos hb, if_pos hb, show f_X9_ofPerson bk (nI r) 4 = _ from p2_ofPerson r 4 (by omega) (by decide), Option.bind_some]
      rcases p2_par (hV r h2) (by omega) with e | ⟨t, ht, e⟩
      · rw [e, p2_mk_none]
        obtain ⟨n, rfl⟩ : ∃ k, n = k + 1 := ⟨n - 1, by omega⟩
        show f_X9_markOf_L2 bk m (f_X9_markOf_L2w bk m n) (-1) = _
        unfold f_X9_markOf_L2 f_X9_markOf_J30
        rw [if_pos rfl, if_pos rfl]
      · rw [e]
        exact ih t n (by omega) (by omega) (by omega)
    · rw [if_neg hb, if_neg hb, show f_X9_ofPerson bk (nI r) 2 = _ from p2_ofPerson r 2 (by omega) (by decide), Option.bind_some]
theorem p2_atP (hr0 : p2_rr 6 5 8 0 n0 c0 z0 bk) (i t : Nat) (hi : i < n0) (ht : t < 6) : f_X4_at 6 30 c0 z0 (nI i) (nI t) = some (bk (8 + 6 * i + t)) := by
  obtain ⟨hn0, hz0, hb0, hc0⟩ := hr0
  rw [hz0, show f_X4_at 6 30 c0 (nI n0) (nI i) (nI t) = _ from p2_at (w := 6) (n := 30) (z := n0) (r := i) (c := t) c0 hi ht (by omega) (by decide) (by omega) (by decide), hc0 _ (by omega), show 8 + (i * 6 + t) = 8 + 6 * i + t by omega]
theorem p2_atH (hr2 : p2_rr 5 6 50 2 n2 c2 z2 bk) (i t : Nat) (hi : i < n2) (ht : t < 5) : f_X4_at 5 30 c2 z2 (nI i) (nI t) = some (bk (50 + 5 * i + t)) := by
  obtain ⟨hn0, hz0, hb0, hc0⟩ := hr2
  rw [hz0, show f_X4_at 5 30 c2 (nI n2) (nI i) (nI t) = _ from p2_at (w := 5) (n := 30) (z := n2) (r := i) (c := t) c2 hi ht (by omega) (by decide) (by omega) (by decide), hc0 _ (by omega), show 50 + (i * 5 + t) = 50 + 5 * i + t by omega]
theorem p2_atN (hr3 : p2_rr 4 4 80 3 n3 c3 z3 bk) (i t : Nat) (hi : i < n3) (ht : t < 4) : f_X4_at 4 16 c3 z3 (nI i) (nI t) = some (bk (80 + 4 * i + t)) := by
  obtain ⟨hn0, hz0, hb0, hc0⟩ := hr3
  rw [hz0, show f_X4_at 4 16 c3 (nI n3) (nI i) (nI t) = _ from p2_at (w := 4) (n := 16) (z := n3) (r := i) (c := t) c3 hi ht (by omega) (by decide) (by omega) (by decide), hc0 _ (by omega), show 80 + (i * 4 + t) = 80 + 4 * i + t by omega]
theorem p2_markC (hr0 : p2_rr 6 5 8 0 n0 c0 z0 bk) (hV : ∀ p, p < n0 → p2_V0 bk p) (m : Int32) : ∀ (f r n i : Nat), r < f → r < n0 → r + 1 < n → r + i ≤ 4 → f_X1_markOf_L5w c0 z0 m n (nI r) (nI i) = some (p2_mk bk m f (nI r)) := by
  have hn : n0 ≤ 5 := hr0.1
  have ez : z0.toInt = (n0 : Int) := by rw [hr0.2.1]; exact nI_toInt (by omega)
  intro f
  induction f with
  | zero => intro r n i h; omega
  | succ f ih =>
    intro r n i h1 h2 h3 h4
    obtain ⟨n, rfl⟩ : ∃ k, n = k + 1 := ⟨n - 1, by omega⟩
    show f_X1_markOf_L5 c0 z0 m (f_X1_markOf_L5w c0 z0 m n) (nI r) (nI i) = _
    unfold f_X1_markOf_L5
    rw [if_neg (show ¬ (5 : Int32) ≤ nI i from nI_ge (b := 5) (by omega) (by decide)), p2_has, Option.bind_some, if_neg (fun h => (p2_b0.mp h) (by rw [nI_toInt (by omega), ez]; omega)), show f_X4_at 6 30 c0 z0 (nI r) 3 = _ from p2_atP hr0 r 3 h2 (by decide), Option.bind_some, p2_mk, if_neg (p2_nIne r (by omega)), p2_ix (n := r) (by omega)]
    by_cases hb : (bk (8 + 6 * r + 3) >>> (m &&& 31)) &&& 1 = 0
    · rw [if_neg (fun h => p2_bit1.mp h hb), if_pos hb, show f_X4_at 6 30 c0 z0 (nI r) 4 = _ from p2_atP hr0 r 4 h2 (by decide), Option.bind_some, nI_1]
      rcases p2_par (hV r h2) (by omega) with e | ⟨t, ht, e⟩
      · rw [e, p2_mk_none]
        obtain ⟨n, rfl⟩ : ∃ k, n = k + 1 := ⟨n - 1, by omega⟩
        show f_X1_markOf_L5 c0 z0 m (f_X1_markOf_L5w c0 z0 m n) (-1) (nI (i + 1)) = _
        unfold f_X1_markOf_L5
        split
        · rfl
        · rw [p2_has, Option.bind_some, if_pos (p2_b0.mpr (by have e1 : (-1 : Int32).toInt = -1 := rfl; omega))]
      · rw [e]
        exact ih t n (i + 1) (by omega) (by omega) (by omega) (by omega)
    · rw [if_pos (p2_bit1.mpr hb), if_neg hb, show f_X4_at 6 30 c0 z0 (nI r) 2 = _ from p2_atP hr0 r 2 h2 (by decide), Option.bind_some]
/-- the mark of a person, on both sides -/
theorem p2_mark (hr0 : p2_rr 6 5 8 0 n0 c0 z0 bk) (hV : ∀ p, p < n0 → p2_V0 bk p) (m : Int32) (r : Nat) (hr : r < n0) : f_X1_markOf c0 z0 (nI r) m = some (p2_mk bk m 5 (nI r)) ∧ f_X9_markOf bk (nI r) m = some (p2_mk bk m 5 (nI r)) := by
  have hn : n0 ≤ 5 := hr0.1
  refine ⟨?_, ?_⟩
  · unfold f_X1_markOf
    exact p2_markC hr0 hV m 5 r cx_N0 0 (by omega) hr (by unfold cx_N0; omega) (by omega)
  · unfold f_X9_markOf
    exact p2_markM hV hn m 5 r cx_N0 (by omega) hr (by unfold cx_N0; omega)
/-- the truth of a name -/
def p2_tr (bk : Nat → Int32) (i : Nat) : Int32 := if bk (80 + 4 * i) = 0 then 6 else if bk (80 + 4 * i) = 1 then 10 else if bk (80 + 4 * i) = 4 then 10 else if bk (80 + 4 * i) = 5 then (5 + bk (8 + 6 * cx_ix (bk (80 + 4 * i + 2)) + 5)) - 2 else 5 + bk (8 + 6 * cx_ix (bk (80 + 4 * i + 2)) + 5)
theorem p2_truth (h : p2_RB c0 z0 c1 z1 c2 z2 c3 z3 c4 z4 sg bk n0 n1 n2 n3 n4) (i : Nat) (hi : i < n3) : f_X1_truthOf c0 z0 c3 z3 (nI i) = some (p2_tr bk i) ∧ f_X9_truthOf bk (nI i) = some (p2_tr bk i) := by
  obtain ⟨r0, r1, r2, r3, r4, rs, v0, v1, v2, v3, v4, v5⟩ := h
  have hn0 := r0.1
  have hn3 := r3.1
  obtain ⟨k0, k1, k2, k3⟩ := v3 i hi
  obtain ⟨pp, hpp, epp⟩ := vp_in_of (x := bk (80 + 4 * i + 2)) (n := n0) (vp_in_iff.mpr ⟨k2.1, by have := k2.2; omega⟩) (by omega)
  have k0' : 0 ≤ (bk (80 + 4 * i)).toInt ∧ (bk (80 + 4 * i)).toInt ≤ 5 := k0
  refine ⟨?_, ?_⟩
  · unfold f_X1_truthOf p2_tr
    rw [show f_X4_at 4 16 c3 z3 (nI i) 2 = _ from p2_atN r3 i 2 hi (by decide), Option.bind_some, epp, show f_X4_at 6 30 c0 z0 (nI pp) 5 = _ from p2_atP r0 pp 5 hpp (by decide), Option.bind_some, show f_X4_at 4 16 c3 z3 (nI i) 0 = _ from p2_atN r3 i 0 hi (by decide), Option.bind_some, p2_ix (n := pp) (by omega), show 80 + 4 * i + 0 = 80 + 4 * i from rfl]
    have cs : bk (80 + 4 * i) = 0 ∨ bk (80 + 4 * i) = 1 ∨ bk (80 + 4 * i) = 2 ∨ bk (80 + 4 * i) = 3 ∨ bk (80 + 4 * i) = 4 ∨ bk (80 + 4 * i) = 5 := by
      simp only [p2_eq]
      have e0 : (0 : Int32).toInt = 0 := rfl
      have e1 : (1 : Int32).toInt = 1 := rfl
      have e2 : (2 : Int32).toInt = 2 := rfl
      have e3 : (3 : Int32).toInt = 3 := rfl
      have e4 : (4 : Int32).toInt = 4 := rfl
      have e5 : (5 : Int32).toInt = 5 := rfl
      omega
    rcases cs with e | e | e | e | e | e <;> rw [e] <;> rfl
  · unfold f_X9_truthOf p2_tr f_X9_truthOf_J52
    rw [show (80 : Int32) = nI 80 from rfl, show (4 : Int32) * nI i = nI (4 * i) from pk_mul 4 i, nI_add, p2_gd (p2_ib (by omega) (by decide)), p2_ix (n := 80 + 4 * i) (by omega)]
    simp only [cx_let]
    rw [show nI (80 + 4 * i) + 2 = nI (80 + 4 * i + 2) from nI_add (80 + 4 * i) 2, p2_gd (p2_ib (by omega) (by decide)), p2_ix (n := 80 + 4 * i + 2) (by omega), epp, show f_X9_ofPerson bk (nI pp) 5 = _ from p2_ofPerson pp 5 (by omega) (by decide), Option.bind_some, p2_ix (n := pp) (by omega)]
    split
    · rfl
    · split
      · rfl
      · split
        · rfl
        · split <;> rfl
end MK
