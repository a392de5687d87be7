/-! THE WEIGHT OF A WAY, told twice: by pictures, names and joins; and head by head -/
/-- the last head below k on picture p; 6: none -/
def p6_cl (hp : Nat → Nat) : Nat → Nat → Nat
  | 0, _ => 6
  | k + 1, p => if hp k = p then k else p6_cl hp k p
theorem p6_cl_spec (hp : Nat → Nat) (p : Nat) : ∀ k, (p6_cl hp k p = 6 ∧ ∀ e, e < k → hp e ≠ p) ∨ (p6_cl hp k p < k ∧ hp (p6_cl hp k p) = p ∧ ∀ e, p6_cl hp k p < e → e < k → hp e ≠ p) := by
  intro k
  induction k with
  | zero => exact Or.inl ⟨rfl, fun e he => by omega⟩
  | succ k ih =>
    rw [p6_cl]
    by_cases h : hp k = p
    · rw [if_pos h]
      exact Or.inr ⟨by omega, h, fun e h1 h2 => by omega⟩
    · rw [if_neg h]
      rcases ih with ⟨h1, h2⟩ | ⟨h1, h2, h3⟩
      · refine Or.inl ⟨h1, fun e he => ?_⟩
        by_cases e1 : e = k
        · rw [e1]; exact h
        · exact h2 e (by omega)
      · refine Or.inr ⟨by omega, h2, fun e q1 q2 => ?_⟩
        by_cases e1 : e = k
        · rw [e1]; exact h
        · exact h3 e q1 (by omega)
theorem p6_cl_6 {hp : Nat → Nat} {k p : Nat} (hk : k ≤ 6) (h : p6_cl hp k p = 6) : ∀ e, e < k → hp e ≠ p := by
  rcases p6_cl_spec hp p k with ⟨_, h2⟩ | ⟨h1, _⟩
  · exact h2
  · omega
theorem p6_cl_lt {hp : Nat → Nat} {k p : Nat} (h : p6_cl hp k p ≠ 6) : p6_cl hp k p < k ∧ hp (p6_cl hp k p) = p ∧ ∀ e, p6_cl hp k p < e → e < k → hp e ≠ p := by
  rcases p6_cl_spec hp p k with ⟨h1, _⟩ | h1
  · exact absurd h1 h
  · exact h1
theorem p6_cl_eq {hp : Nat → Nat} {k p h : Nat} (h1 : h < k) (h2 : hp h = p) (h3 : ∀ e, h < e → e < k → hp e ≠ p) (hk : k ≤ 6) : p6_cl hp k p = h := by
  rcases p6_cl_spec hp p k with ⟨q1, q2⟩ | ⟨q1, q2, q3⟩
  · exact absurd h2 (q2 h h1)
  · rcases Nat.lt_trichotomy (p6_cl hp k p) h with e | e | e
    · exact absurd h2 (q3 h e h1)
    · exact e
    · exact absurd q2 (h3 _ e q1)
/-- likes multiplied over the heads below k on picture p -/
def p6_T (hp : Nat → Nat) (L : Nat → Nat → Nat → Nat) (ω : Nat → Nat) (k p y : Nat) : Nat := p6_pr k (fun h => if hp h = p then L h (ω h) y else 1)
def p6_PS (hp : Nat → Nat) (L : Nat → Nat → Nat → Nat) (yc : Nat → Nat) (n2 : Nat) (ω : Nat → Nat) (p : Nat) : Nat := p6_sm (yc p) (fun y => p6_T hp L ω n2 p y)
def p6_PO (hp : Nat → Nat) (L : Nat → Nat → Nat → Nat) (yc fy : Nat → Nat) (n2 : Nat) (ea la : Nat) (ω : Nat → Nat) : Nat := p6_sm (yc la) (fun z => p6_sm (yc ea) (fun y => if fy ea + y < fy la + z then p6_T hp L ω n2 ea y else 0) * p6_T hp L ω n2 la z)
/-- a picture in order -/
def p6_iob (od : Bool) (ea la p : Nat) : Bool := od && (p == ea || p == la)
def p6_pf (hp : Nat → Nat) (L : Nat → Nat → Nat → Nat) (yc fy : Nat → Nat) (n2 : Nat) (od : Bool) (ea la : Nat) (ω : Nat → Nat) (p : Nat) : Nat := if p6_iob od ea la p = true then (if p = ea then p6_PO hp L yc fy n2 ea la ω else 1) else p6_PS hp L yc n2 ω p
def p6_jf (ja jb jw : Nat → Nat) (ω : Nat → Nat) (j : Nat) : Nat := if ω (ja j) = ω (jb j) ∧ ω (ja j) ≠ 5 then jw j else 10 - jw j
def p6_W (hp : Nat → Nat) (L : Nat → Nat → Nat → Nat) (yc fy : Nat → Nat) (n1 n2 n3 n4 : Nat) (od : Bool) (ea la : Nat) (nh : Nat → Nat) (nf : Nat → Nat → Nat) (ja jb jw : Nat → Nat) (ω : Nat → Nat) : Nat :=
  p6_pr n1 (p6_pf hp L yc fy n2 od ea la ω) * p6_pr n3 (fun n => nf n (ω (nh n))) * p6_pr n4 (p6_jf ja jb jw ω)
/-- the same one twice on one picture, among the heads below k -/
def p6_tw (hp : Nat → Nat) (ω : Nat → Nat) (k : Nat) : Prop := ∃ h e, h < k ∧ e < h ∧ ω h = ω e ∧ ω h ≠ 5 ∧ hp h = hp e
/-! head by head -/
def p6_bt (hp : Nat → Nat) (n2 ea la h : Nat) : Bool := (decide (p6_cl hp n2 ea ≤ h) || decide (p6_cl hp n2 ea = 6)) && (decide (p6_cl hp n2 la ≤ h) || decide (p6_cl hp n2 la = 6))
def p6_tk (hp : Nat → Nat) (L : Nat → Nat → Nat → Nat) (yc fy : Nat → Nat) (n2 : Nat) (od : Bool) (ea la : Nat) (ω : Nat → Nat) (h : Nat) : Nat := if p6_iob od ea la (hp h) = true then (if p6_bt hp n2 ea la h = true then p6_PO hp L yc fy n2 ea la ω else 1) else if p6_cl hp n2 (hp h) = h then p6_PS hp L yc n2 ω (hp h) else 1
def p6_nm (n3 : Nat) (nh : Nat → Nat) (nf : Nat → Nat → Nat) (ω : Nat → Nat) (h : Nat) : Nat := p6_pr n3 (fun n => if nh n = h then nf n (ω h) else 1)
def p6_jm (n4 : Nat) (ja jb jw : Nat → Nat) (ω : Nat → Nat) (h : Nat) : Nat := p6_pr n4 (fun j => if max (ja j) (jb j) = h then p6_jf ja jb jw ω j else 1)
def p6_c0 (hp : Nat → Nat) (L : Nat → Nat → Nat → Nat) (yc fy : Nat → Nat) (n1 n2 : Nat) (od : Bool) (ea la : Nat) (ω : Nat → Nat) : Nat := p6_pr n1 (fun p => if p6_cl hp n2 p = 6 ∧ p6_iob od ea la p = false then yc p else 1) * (if od = true ∧ p6_cl hp n2 ea = 6 ∧ p6_cl hp n2 la = 6 then p6_PO hp L yc fy n2 ea la ω else 1)
def p6_PW (hp : Nat → Nat) (L : Nat → Nat → Nat → Nat) (yc fy : Nat → Nat) (n1 n2 n3 n4 : Nat) (od : Bool) (ea la : Nat) (nh : Nat → Nat) (nf : Nat → Nat → Nat) (ja jb jw : Nat → Nat) (ω : Nat → Nat) (k : Nat) : Nat :=
  p6_c0 hp L yc fy n1 n2 od ea la ω * p6_pr k (fun h => p6_nm n3 nh nf ω h * p6_jm n4 ja jb jw ω h * p6_tk hp L yc fy n2 od ea la ω h)
section SP
variable {hp : Nat → Nat} {L : Nat → Nat → Nat → Nat} {yc fy : Nat → Nat} {n1 n2 n3 n4 : Nat} {od : Bool} {ea la : Nat} {nh : Nat → Nat} {nf : Nat → Nat → Nat} {ja jb jw : Nat → Nat} {ω : Nat → Nat}
theorem p6_iob_t {p : Nat} : p6_iob od ea la p = true ↔ od = true ∧ (p = ea ∨ p = la) := by
  unfold p6_iob
  simp
theorem p6_iob_f {p : Nat} : p6_iob od ea la p = false ↔ ¬ (od = true ∧ (p = ea ∨ p = la)) := by
  rw [← p6_iob_t]
  simp
/-- a function of the pictures, by their last heads -/
theorem p6_byHead (g : Nat → Nat) (hn2 : n2 ≤ 6) (hhp : ∀ h, h < n2 → hp h < n1) : p6_pr n1 g = p6_pr n1 (fun p => if p6_cl hp n2 p = 6 then g p else 1) * p6_pr n2 (fun h => if p6_cl hp n2 (hp h) = h then g (hp h) else 1) := by
  have e1 : p6_pr n1 g = p6_pr n1 (fun p => (if p6_cl hp n2 p = 6 then g p else 1) * (if p6_cl hp n2 p = 6 then 1 else g p)) := p6_pr_congr (fun p _ => by
    by_cases h : p6_cl hp n2 p = 6
    · rw [if_pos h, if_pos h, Nat.mul_one]
    · rw [if_neg h, if_neg h, Nat.one_mul])
  rw [e1, p6_pr_mul]
  congr 1
  have e2 : p6_pr n1 (fun p => if p6_cl hp n2 p = 6 then 1 else g p) = p6_pr n1 (fun p => p6_pr n2 (fun h => if p6_cl hp n2 p = h then g p else 1)) := p6_pr_congr (fun p _ => by
    by_cases h : p6_cl hp n2 p = 6
    · rw [if_pos h]
      exact (p6_pr_one (fun i hi => if_neg (by omega))).symm
    · rw [if_neg h, p6_pr_single (p6_cl_lt h).1 (fun i _ hi => if_neg (fun q => hi q.symm)), if_pos rfl])
  rw [e2, p6_pr_swap]
  refine p6_pr_congr (fun h hh => ?_)
  by_cases hc : p6_cl hp n2 (hp h) = h
  · rw [if_pos hc, p6_pr_single (hhp h hh) (fun p _ hne => if_neg (fun q => hne ?_)), if_pos hc]
    have := (p6_cl_lt (hp := hp) (k := n2) (p := p) (by omega)).2.1
    rw [q] at this
    exact this.symm
  · rw [if_neg hc]
    refine p6_pr_one (fun p _ => if_neg (fun q => hc ?_))
    have := (p6_cl_lt (hp := hp) (k := n2) (p := p) (by omega)).2.1
    rw [q] at this
    rw [this]
    exact q
theorem p6_T_empty {k p y : Nat} (h : ∀ e, e < k → hp e ≠ p) : p6_T hp L ω k p y = 1 := p6_pr_one (fun i hi => if_neg (h i hi))
theorem p6_PS_empty {p : Nat} (h : ∀ e, e < n2 → hp e ≠ p) : p6_PS hp L yc n2 ω p = yc p := by
  unfold p6_PS
  rw [p6_sm_congr (g := fun _ => 1) (fun y _ => p6_T_empty h), p6_sm_const, Nat.mul_one]
/-- the order's factor, by the head with which both are told -/
theorem p6_PO_byHead (X : Nat) (hn2 : n2 ≤ 6) : X = (if p6_cl hp n2 ea = 6 ∧ p6_cl hp n2 la = 6 then X else 1) * p6_pr n2 (fun h => if (hp h = ea ∨ hp h = la) ∧ p6_bt hp n2 ea la h = true then X else 1) := by
  have bt : ∀ h, p6_bt hp n2 ea la h = true ↔ (p6_cl hp n2 ea ≤ h ∨ p6_cl hp n2 ea = 6) ∧ (p6_cl hp n2 la ≤ h ∨ p6_cl hp n2 la = 6) := fun h => by unfold p6_bt; simp
  by_cases he : p6_cl hp n2 ea = 6
  · by_cases hl : p6_cl hp n2 la = 6
    · rw [if_pos ⟨he, hl⟩, p6_pr_one, Nat.mul_one]
      intro h hh
      rw [if_neg]
      rintro ⟨q | q, _⟩
      · exact p6_cl_6 hn2 he h hh q
      · exact p6_cl_6 hn2 hl h hh q
    · obtain ⟨l1, l2, l3⟩ := p6_cl_lt hl
      rw [if_neg (fun q => hl q.2), Nat.one_mul, p6_pr_single (k := p6_cl hp n2 la) l1, if_pos ⟨Or.inr l2, (bt _).mpr ⟨Or.inr he, Or.inl (Nat.le_refl _)⟩⟩]
      intro i hi hne
      rw [if_neg]
      rintro ⟨q, q2⟩
      have q2 := (bt i).mp q2
      rcases q with q | q
      · exact p6_cl_6 hn2 he i hi q
      · exact l3 i (by omega) hi q
  · obtain ⟨e1, e2, e3⟩ := p6_cl_lt he
    rw [if_neg (fun q => he q.1), Nat.one_mul]
    by_cases hl : p6_cl hp n2 la = 6
    · rw [p6_pr_single (k := p6_cl hp n2 ea) e1, if_pos ⟨Or.inl e2, (bt _).mpr ⟨Or.inl (Nat.le_refl _), Or.inr hl⟩⟩]
      intro i hi hne
      rw [if_neg]
      rintro ⟨q, q2⟩
      have q2 := (bt i).mp q2
      rcases q with q | q
      · exact e3 i (by omega) hi q
      · exact p6_cl_6 hn2 hl i hi q
    · obtain ⟨l1, l2, l3⟩ := p6_cl_lt hl
      by_cases hle : p6_cl hp n2 ea ≤ p6_cl hp n2 la
      · rw [p6_pr_single (k := p6_cl hp n2 la) l1, if_pos ⟨Or.inr l2, (bt _).mpr ⟨Or.inl hle, Or.inl (Nat.le_refl _)⟩⟩]
        intro i hi hne
        rw [if_neg]
        rintro ⟨q, q2⟩
        have q2 := (bt i).mp q2
        rcases q with q | q
        · exact e3 i (by omega) hi q
        · exact l3 i (by omega) hi q
      · rw [p6_pr_single (k := p6_cl hp n2 ea) e1, if_pos ⟨Or.inl e2, (bt _).mpr ⟨Or.inl (Nat.le_refl _), Or.inl (by omega)⟩⟩]
        intro i hi hne
        rw [if_neg]
        rintro ⟨q, q2⟩
        have q2 := (bt i).mp q2
        rcases q with q | q
        · exact e3 i (by omega) hi q
        · exact l3 i (by omega) hi q
theorem p6_pics (hn2 : n2 ≤ 6) (hhp : ∀ h, h < n2 → hp h < n1) (hea : od = true → ea < n1) : p6_pr n1 (p6_pf hp L yc fy n2 od ea la ω) = p6_c0 hp L yc fy n1 n2 od ea la ω * p6_pr n2 (p6_tk hp L yc fy n2 od ea la ω) := by
  unfold p6_c0
  -- pictures not in order
  have e1 : p6_pr n1 (p6_pf hp L yc fy n2 od ea la ω) = p6_pr n1 (fun p => (if p6_iob od ea la p = true then 1 else p6_PS hp L yc n2 ω p) * (if p = ea ∧ od = true then p6_PO hp L yc fy n2 ea la ω else 1)) := p6_pr_congr (fun p _ => by
    unfold p6_pf
    by_cases h : p6_iob od ea la p = true
    · rw [if_pos h, if_pos h, Nat.one_mul]
      have := (p6_iob_t.mp h).1
      by_cases hp1 : p = ea
      · rw [if_pos hp1, if_pos ⟨hp1, this⟩]
      · rw [if_neg hp1, if_neg (fun q => hp1 q.1)]
    · rw [if_neg h, if_neg h, if_neg, Nat.mul_one]
      rintro ⟨q1, q2⟩
      exact h (p6_iob_t.mpr ⟨q2, Or.inl q1⟩))
  rw [e1, p6_pr_mul, p6_byHead (fun p => if p6_iob od ea la p = true then 1 else p6_PS hp L yc n2 ω p) hn2 hhp]
  have e2 : p6_pr n1 (fun p => if p = ea ∧ od = true then p6_PO hp L yc fy n2 ea la ω else 1) = if od = true then p6_PO hp L yc fy n2 ea la ω else 1 := by
    by_cases h : od = true
    · rw [p6_pr_single (hea h) (fun i _ hi => if_neg (fun q => hi q.1)), if_pos h, if_pos ⟨rfl, h⟩]
    · rw [if_neg h]
      exact p6_pr_one (fun i _ => if_neg (fun q => h q.2))
  have e3 : p6_pr n1 (fun p => if p6_cl hp n2 p = 6 then (if p6_iob od ea la p = true then 1 else p6_PS hp L yc n2 ω p) else 1) = p6_pr n1 (fun p => if p6_cl hp n2 p = 6 ∧ p6_iob od ea la p = false then yc p else 1) := p6_pr_congr (fun p _ => by
    by_cases h : p6_cl hp n2 p = 6
    · rw [if_pos h]
      by_cases hi : p6_iob od ea la p = true
      · rw [if_pos hi, if_neg (fun q => by rw [hi] at q; cases q.2)]
      · rw [if_neg hi, if_pos ⟨h, by simpa using hi⟩, p6_PS_empty (p6_cl_6 hn2 h)]
    · rw [if_neg h, if_neg (fun q => h q.1)])
  have e4 : (if od = true then p6_PO hp L yc fy n2 ea la ω else 1) = (if od = true ∧ p6_cl hp n2 ea = 6 ∧ p6_cl hp n2 la = 6 then p6_PO hp L yc fy n2 ea la ω else 1) * p6_pr n2 (fun h => if p6_iob od ea la (hp h) = true ∧ p6_bt hp n2 ea la h = true then p6_PO hp L yc fy n2 ea la ω else 1) := by
    by_cases h : od = true
    · rw [if_pos h]
      have := p6_PO_byHead (hp := hp) (n2 := n2) (ea := ea) (la := la) (p6_PO hp L yc fy n2 ea la ω) hn2
      refine this.trans ?_
      congr 1
      · by_cases q : p6_cl hp n2 ea = 6 ∧ p6_cl hp n2 la = 6
        · rw [if_pos q, if_pos ⟨h, q⟩]
        · rw [if_neg q, if_neg (fun z => q z.2)]
      · refine p6_pr_congr (fun i _ => ?_)
        by_cases q : (hp i = ea ∨ hp i = la) ∧ p6_bt hp n2 ea la i = true
        · rw [if_pos q, if_pos ⟨p6_iob_t.mpr ⟨h, q.1⟩, q.2⟩]
        · rw [if_neg q, if_neg (fun z => q ⟨(p6_iob_t.mp z.1).2, z.2⟩)]
    · rw [if_neg h, if_neg (fun q => h q.1), p6_pr_one]
      intro i _
      exact if_neg (fun q => h (p6_iob_t.mp q.1).1)
  rw [e2, e3, e4]
  have e5 : p6_pr n2 (p6_tk hp L yc fy n2 od ea la ω) = p6_pr n2 (fun h => if p6_cl hp n2 (hp h) = h then (if p6_iob od ea la (hp h) = true then 1 else p6_PS hp L yc n2 ω (hp h)) else 1) * p6_pr n2 (fun h => if p6_iob od ea la (hp h) = true ∧ p6_bt hp n2 ea la h = true then p6_PO hp L yc fy n2 ea la ω else 1) := by
    rw [← p6_pr_mul]
    refine p6_pr_congr (fun h _ => ?_)
    unfold p6_tk
    by_cases hi : p6_iob od ea la (hp h) = true
    · rw [if_pos hi]
      have : (if p6_cl hp n2 (hp h) = h then (if p6_iob od ea la (hp h) = true then 1 else p6_PS hp L yc n2 ω (hp h)) else 1) = 1 := by rw [if_pos hi]; split <;> rfl
      rw [this, Nat.one_mul]
      by_cases hb : p6_bt hp n2 ea la h = true
      · rw [if_pos hb, if_pos ⟨hi, hb⟩]
      · rw [if_neg hb, if_neg (fun q => hb q.2)]
    · rw [if_neg hi, if_neg (show ¬ (p6_iob od ea la (hp h) = true ∧ p6_bt hp n2 ea la h = true) from fun q => hi q.1), Nat.mul_one]
      by_cases hc : p6_cl hp n2 (hp h) = h
      · rw [if_pos hc, if_pos hc, if_neg hi]
      · rw [if_neg hc, if_neg hc]
  rw [e5]
  simp only [Nat.mul_assoc, Nat.mul_left_comm, Nat.mul_comm]
theorem p6_names (hnh : ∀ n, n < n3 → nh n < n2) : p6_pr n3 (fun n => nf n (ω (nh n))) = p6_pr n2 (p6_nm n3 nh nf ω) := by
  have e : p6_pr n2 (p6_nm n3 nh nf ω) = p6_pr n3 (fun n => p6_pr n2 (fun h => if nh n = h then nf n (ω h) else 1)) := (p6_pr_swap (fun h n => if nh n = h then nf n (ω h) else 1) n3 n2)
  rw [e]
  refine p6_pr_congr (fun n hn => ?_)
  rw [p6_pr_single (hnh n hn) (fun i _ hi => if_neg (fun q => hi q.symm)), if_pos rfl]
theorem p6_joins (ha : ∀ j, j < n4 → ja j < n2 ∧ jb j < n2) : p6_pr n4 (p6_jf ja jb jw ω) = p6_pr n2 (p6_jm n4 ja jb jw ω) := by
  have e : p6_pr n2 (p6_jm n4 ja jb jw ω) = p6_pr n4 (fun j => p6_pr n2 (fun h => if max (ja j) (jb j) = h then p6_jf ja jb jw ω j else 1)) := (p6_pr_swap (fun h j => if max (ja j) (jb j) = h then p6_jf ja jb jw ω j else 1) n4 n2)
  rw [e]
  refine p6_pr_congr (fun j hj => ?_)
  have := ha j hj
  rw [p6_pr_single (k := max (ja j) (jb j)) (by omega) (fun i _ hi => if_neg (fun q => hi q.symm)), if_pos rfl]
/-- both tellings are one -/
theorem p6_W_PW (hn2 : n2 ≤ 6) (hhp : ∀ h, h < n2 → hp h < n1) (hea : od = true → ea < n1) (hnh : ∀ n, n < n3 → nh n < n2) (ha : ∀ j, j < n4 → ja j < n2 ∧ jb j < n2) : p6_W hp L yc fy n1 n2 n3 n4 od ea la nh nf ja jb jw ω = p6_PW hp L yc fy n1 n2 n3 n4 od ea la nh nf ja jb jw ω n2 := by
  unfold p6_W p6_PW
  rw [p6_pics hn2 hhp hea, p6_names hnh, p6_joins ha, p6_pr_mul, p6_pr_mul]
  simp only [Nat.mul_assoc, Nat.mul_left_comm, Nat.mul_comm]
/-- no year is left of a picture: no weight -/
theorem p6_noYear {k p : Nat} (hk : k ≤ n2) (hp1 : p < n1) (hea : od = true → ea < n1) (h : ∀ y, y < yc p → p6_T hp L ω k p y = 0) : p6_W hp L yc fy n1 n2 n3 n4 od ea la nh nf ja jb jw ω = 0 := by
  have hT : ∀ y, y < yc p → p6_T hp L ω n2 p y = 0 := fun y hy => by
    obtain ⟨r, hr⟩ := p6_pr_split (fun h => if hp h = p then L h (ω h) y else 1) hk
    have e : p6_T hp L ω n2 p y = p6_T hp L ω k p y * r := hr
    rw [e, h y hy, Nat.zero_mul]
  have hz : p6_pr n1 (p6_pf hp L yc fy n2 od ea la ω) = 0 := by
    by_cases hi : p6_iob od ea la p = true
    · obtain ⟨q1, q2⟩ := p6_iob_t.mp hi
      refine p6_pr_z (hea q1) ?_
      unfold p6_pf
      rw [if_pos (p6_iob_t.mpr ⟨q1, Or.inl rfl⟩), if_pos rfl]
      unfold p6_PO
      refine p6_sm_zero (fun z hz => ?_)
      rcases q2 with q2 | q2
      · subst q2
        rw [p6_sm_zero, Nat.zero_mul]
        intro y hy
        rw [hT y hy]
        split <;> rfl
      · subst q2
        rw [hT z hz, Nat.mul_zero]
    · refine p6_pr_z hp1 ?_
      unfold p6_pf
      rw [if_neg hi]
      exact p6_sm_zero hT
  unfold p6_W
  rw [hz, Nat.zero_mul, Nat.zero_mul]
theorem p6_PW_z {h k : Nat} (hh : h < k) (hz : p6_nm n3 nh nf ω h * p6_jm n4 ja jb jw ω h * p6_tk hp L yc fy n2 od ea la ω h = 0) : p6_PW hp L yc fy n1 n2 n3 n4 od ea la nh nf ja jb jw ω k = 0 := by
  unfold p6_PW
  rw [p6_pr_z hh hz, Nat.mul_zero]
end SP
