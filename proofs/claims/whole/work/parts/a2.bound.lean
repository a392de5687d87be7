/-! how great a weight may be; what it depends on -/
theorem p6_pr_pos {f : Nat → Nat} : ∀ {n : Nat}, (∀ i, i < n → 1 ≤ f i) → 1 ≤ p6_pr n f := by
  intro n
  induction n with
  | zero => intro _; exact Nat.le_refl _
  | succ n ih => intro h; rw [p6_pr]; exact Nat.mul_le_mul (ih (fun i hi => h i (by omega))) (h n (by omega))
theorem p6_pr_mono {f : Nat → Nat} {k : Nat} : ∀ {n : Nat}, k ≤ n → (∀ i, i < n → 1 ≤ f i) → p6_pr k f ≤ p6_pr n f := by
  intro n
  induction n with
  | zero => intro h _; rw [show k = 0 by omega]; exact Nat.le_refl _
  | succ n ih =>
    intro h h1
    by_cases e : k = n + 1
    · rw [e]; exact Nat.le_refl _
    · rw [p6_pr]
      have := Nat.mul_le_mul (ih (by omega) (fun i hi => h1 i (by omega))) (h1 n (by omega))
      omega
/-- the greatest factors of the heads on a picture -/
def p6_G (hp : Nat → Nat) (k p : Nat) : Nat := p6_pr k (fun h => if hp h = p then 324 else 1)
theorem p6_G_pos (hp : Nat → Nat) (k p : Nat) : 1 ≤ p6_G hp k p := p6_pr_pos (fun i _ => by split <;> decide)
section BD
variable {hp : Nat → Nat} {L : Nat → Nat → Nat → Nat} {yc fy : Nat → Nat} {n1 n2 n3 n4 : Nat} {od : Bool} {ea la : Nat} {nh : Nat → Nat} {nf : Nat → Nat → Nat} {ja jb jw : Nat → Nat} {ω ω' : Nat → Nat}
theorem p6_T_le {k p y : Nat} (hL : ∀ h, h < k → L h (ω h) y ≤ 324) : p6_T hp L ω k p y ≤ p6_G hp k p := p6_pr_le (fun h hh => by
  by_cases e : hp h = p
  · rw [if_pos e, if_pos e]; exact hL h hh
  · rw [if_neg e, if_neg e]; exact Nat.le_refl _)
theorem p6_G_le {k p : Nat} : p6_G hp k p ≤ 324 ^ k := by
  rw [← p6_pr_const]
  exact p6_pr_le (fun h _ => by split <;> decide)
theorem p6_G2_le {k : Nat} (hne : ea ≠ la) : p6_G hp k ea * p6_G hp k la ≤ 324 ^ k := by
  unfold p6_G
  rw [← p6_pr_const, ← p6_pr_mul]
  refine p6_pr_le (fun h _ => ?_)
  by_cases e : hp h = ea
  · rw [if_pos e, if_neg (fun q => hne (e.symm.trans q))]; decide
  · rw [if_neg e]
    split <;> decide
theorem p6_PS_le {p : Nat} (hy : yc p ≤ 12) (hL : ∀ h y, h < n2 → y < yc p → L h (ω h) y ≤ 324) : p6_PS hp L yc n2 ω p ≤ 12 * p6_G hp n2 p := by
  unfold p6_PS
  refine Nat.le_trans (p6_sm_le (g := fun _ => p6_G hp n2 p) (fun y hy2 => p6_T_le (fun h hh => hL h y hh hy2))) ?_
  rw [p6_sm_const]
  exact Nat.mul_le_mul_right _ hy
theorem p6_PO_le (h1 : yc ea ≤ 12) (h2 : yc la ≤ 12) (hL : ∀ h y, h < n2 → y < 12 → L h (ω h) y ≤ 324) : p6_PO hp L yc fy n2 ea la ω ≤ 12 * p6_G hp n2 ea * (12 * p6_G hp n2 la) := by
  unfold p6_PO
  refine Nat.le_trans (p6_sm_le (g := fun _ => 12 * p6_G hp n2 ea * p6_G hp n2 la) (fun z hz => Nat.mul_le_mul ?_ (p6_T_le (fun h hh => hL h z hh (by omega))))) ?_
  · refine Nat.le_trans (p6_sm_le (g := fun _ => p6_G hp n2 ea) (fun y hy2 => ?_)) ?_
    · split
      · exact p6_T_le (fun h hh => hL h y hh (by omega))
      · exact Nat.zero_le _
    · rw [p6_sm_const]
      exact Nat.mul_le_mul_right _ h1
  · rw [p6_sm_const, Nat.mul_left_comm (12 * p6_G hp n2 ea)]
    exact Nat.mul_le_mul_right _ h2
/-- pictures: the product of all greatest factors -/
theorem p6_G_all (hhp : ∀ h, h < n2 → hp h < n1) : p6_pr n1 (fun p => 12 * p6_G hp n2 p) = 12 ^ n1 * 324 ^ n2 := by
  rw [p6_pr_mul, p6_pr_const]
  congr 1
  unfold p6_G
  rw [p6_pr_swap (fun p h => if hp h = p then 324 else 1), ← p6_pr_const]
  refine p6_pr_congr (fun h hh => ?_)
  rw [p6_pr_single (hhp h hh) (fun i _ hi => if_neg (fun q => hi q.symm)), if_pos rfl]
theorem p6_pics_le {k : Nat} (hk : k ≤ n2) (hn2 : n2 ≤ 6) (hhp : ∀ h, h < n2 → hp h < n1) (hea : od = true → ea < n1) (hla : od = true → la < n1) (hne : od = true → ea ≠ la) (hy1 : ∀ p, yc p ≤ 12) (hL : ∀ h y, h < n2 → y < 12 → L h (ω h) y ≤ 324) : p6_c0 hp L yc fy n1 n2 od ea la ω * p6_pr k (p6_tk hp L yc fy n2 od ea la ω) ≤ 12 ^ n1 * 324 ^ n2 := by
  -- the same with the greatest of all
  have hT' : ∀ p y, p6_T hp (fun _ _ _ => 324) ω n2 p y = p6_G hp n2 p := fun p y => rfl
  have hPS' : ∀ p, p6_PS hp (fun _ _ _ => 324) (fun _ => 12) n2 ω p = 12 * p6_G hp n2 p := fun p => by
    show p6_sm 12 (fun y => p6_G hp n2 p) = _
    rw [p6_sm_const]
  have hPO' : od = true → p6_PO hp (fun _ _ _ => 324) (fun _ => 12) (fun p => if p = la then 12 else 0) n2 ea la ω = 12 * p6_G hp n2 ea * (12 * p6_G hp n2 la) := fun ho => by
    show p6_sm 12 (fun z => p6_sm 12 (fun y => if (if ea = la then 12 else 0) + y < (if la = la then 12 else 0) + z then p6_G hp n2 ea else 0) * p6_G hp n2 la) = _
    rw [p6_sm_congr (g := fun _ => 12 * p6_G hp n2 ea * p6_G hp n2 la)]
    · rw [p6_sm_const, Nat.mul_left_comm]
    · intro z hz
      congr 1
      rw [p6_sm_congr (g := fun _ => p6_G hp n2 ea), p6_sm_const]
      intro y hy2
      rw [if_neg (hne ho), if_pos rfl, if_pos (by omega)]
  have g1 := fun p => p6_G_pos hp n2 p
  have tkle : ∀ h, h < n2 → p6_tk hp L yc fy n2 od ea la ω h ≤ p6_tk hp (fun _ _ _ => 324) (fun _ => 12) (fun p => if p = la then 12 else 0) n2 od ea la ω h := fun h hh => by
    unfold p6_tk
    by_cases hi : p6_iob od ea la (hp h) = true
    · rw [if_pos hi, if_pos hi]
      split
      · rw [hPO' (p6_iob_t.mp hi).1]
        exact p6_PO_le (hy1 _) (hy1 _) hL
      · exact Nat.le_refl _
    · rw [if_neg hi, if_neg hi]
      split
      · rw [hPS']
        exact p6_PS_le (hy1 _) (fun h y q1 q2 => hL h y q1 (Nat.lt_of_lt_of_le q2 (hy1 _)))
      · exact Nat.le_refl _
  have tkpos : ∀ h, h < n2 → 1 ≤ p6_tk hp (fun _ _ _ => 324) (fun _ => 12) (fun p => if p = la then 12 else 0) n2 od ea la ω h := fun h hh => by
    unfold p6_tk
    by_cases hi : p6_iob od ea la (hp h) = true
    · rw [if_pos hi]
      split
      · rw [hPO' (p6_iob_t.mp hi).1]
        have := Nat.mul_le_mul (Nat.mul_le_mul (show 1 ≤ 12 by decide) (g1 ea)) (Nat.mul_le_mul (show 1 ≤ 12 by decide) (g1 la))
        omega
      · exact Nat.le_refl _
    · rw [if_neg hi]
      split
      · rw [hPS']
        have := g1 (hp h)
        omega
      · exact Nat.le_refl _
  have c0le : p6_c0 hp L yc fy n1 n2 od ea la ω ≤ p6_c0 hp (fun _ _ _ => 324) (fun _ => 12) (fun p => if p = la then 12 else 0) n1 n2 od ea la ω := by
    unfold p6_c0
    refine Nat.mul_le_mul (p6_pr_le (fun p _ => ?_)) ?_
    · split
      · exact hy1 p
      · exact Nat.le_refl _
    · split
      · rename_i q
        rw [hPO' q.1]
        exact p6_PO_le (hy1 _) (hy1 _) hL
      · exact Nat.le_refl _
  have hpf : p6_pr n1 (p6_pf hp (fun _ _ _ => 324) (fun _ => 12) (fun p => if p = la then 12 else 0) n2 od ea la ω) = p6_pr n1 (fun p => 12 * p6_G hp n2 p) := by
    by_cases ho : od = true
    · have key : p6_pr n1 (p6_pf hp (fun _ _ _ => 324) (fun _ => 12) (fun p => if p = la then 12 else 0) n2 od ea la ω) * (12 * p6_G hp n2 la) = p6_pr n1 (fun p => 12 * p6_G hp n2 p) * (12 * p6_G hp n2 la) := by
        have s1 : p6_pr n1 (fun p => if p = la then 12 * p6_G hp n2 la else 1) = 12 * p6_G hp n2 la := by rw [p6_pr_single (hla ho) (fun i _ hi => if_neg hi), if_pos rfl]
        have s2 : p6_pr n1 (fun p => if p = ea then 12 * p6_G hp n2 la else 1) = 12 * p6_G hp n2 la := by rw [p6_pr_single (hea ho) (fun i _ hi => if_neg hi), if_pos rfl]
        conv => lhs; rhs; rw [← s1]
        conv => rhs; rhs; rw [← s2]
        rw [← p6_pr_mul, ← p6_pr_mul]
        refine p6_pr_congr (fun p _ => ?_)
        unfold p6_pf
        by_cases q1 : p = ea
        · rw [if_pos (p6_iob_t.mpr ⟨ho, Or.inl q1⟩), if_pos q1, if_pos q1, if_neg (fun q => hne ho (q1.symm.trans q)), hPO' ho, Nat.mul_one, q1]
        · by_cases q2 : p = la
          · rw [if_pos (p6_iob_t.mpr ⟨ho, Or.inr q2⟩), if_neg q1, if_pos q2, if_neg q1, Nat.one_mul, Nat.mul_one, q2]
          · rw [if_neg (fun q => by rcases (p6_iob_t.mp q).2 with z | z; exact q1 z; exact q2 z), if_neg q2, if_neg q1, hPS']
      have hpos : 0 < 12 * p6_G hp n2 la := by have := g1 la; omega
      exact Nat.eq_of_mul_eq_mul_right hpos key
    · refine p6_pr_congr (fun p _ => ?_)
      unfold p6_pf
      rw [if_neg (fun q => ho (p6_iob_t.mp q).1), hPS']
  rw [← p6_G_all hhp, ← hpf, p6_pics hn2 hhp hea]
  exact Nat.mul_le_mul c0le (Nat.le_trans (p6_pr_le (fun i hi => tkle i (by omega))) (p6_pr_mono hk tkpos))
theorem p6_tens_le {k n : Nat} {q : Nat → Nat} {f : Nat → Nat → Nat} (hk : k ≤ n2) (hq : ∀ i, i < n → q i < n2) (hf : ∀ i h, i < n → q i = h → f i h ≤ 10) : p6_pr k (fun h => p6_pr n (fun i => if q i = h then f i h else 1)) ≤ 10 ^ n := by
  have e : p6_pr n2 (fun h => p6_pr n (fun i => if q i = h then 10 else 1)) = 10 ^ n := by
    rw [← p6_pr_const, p6_pr_swap (fun h i => if q i = h then 10 else 1)]
    refine p6_pr_congr (fun i hi => ?_)
    rw [p6_pr_single (hq i hi) (fun j _ hj => if_neg (fun z => hj z.symm)), if_pos rfl]
  rw [← e]
  refine Nat.le_trans (p6_pr_le (g := fun h => p6_pr n (fun i => if q i = h then 10 else 1)) (fun h _ => p6_pr_le (fun i hi => ?_))) (p6_pr_mono hk (fun h _ => p6_pr_pos (fun i _ => by split <;> decide)))
  split
  · rename_i z
    exact hf i h hi z
  · exact Nat.le_refl _
theorem p6_jf_le {j : Nat} (h : jw j ≤ 10) : p6_jf ja jb jw ω j ≤ 10 := by
  unfold p6_jf
  split
  · exact h
  · omega
theorem p6_PW_le {k : Nat} (hk : k ≤ n2) (hn1 : n1 ≤ 4) (hn2 : n2 ≤ 6) (hn3 : n3 ≤ 4) (hn4 : n4 ≤ 4) (hhp : ∀ h, h < n2 → hp h < n1) (hea : od = true → ea < n1) (hla : od = true → la < n1) (hne : od = true → ea ≠ la) (hy1 : ∀ p, yc p ≤ 12) (hL : ∀ h y, h < n2 → y < 12 → L h (ω h) y ≤ 324) (hnh : ∀ n, n < n3 → nh n < n2) (hnf : ∀ n, n < n3 → nf n (ω (nh n)) ≤ 10) (ha : ∀ j, j < n4 → ja j < n2 ∧ jb j < n2 ∧ jw j ≤ 10) : p6_PW hp L yc fy n1 n2 n3 n4 od ea la nh nf ja jb jw ω k ≤ 12 ^ 4 * 324 ^ 6 * 10 ^ 8 := by
  unfold p6_PW
  rw [p6_pr_mul, p6_pr_mul, ← Nat.mul_assoc, Nat.mul_right_comm]
  have b1 := p6_pics_le (fy := fy) (ω := ω) hk hn2 hhp hea hla hne hy1 hL
  have b2 : p6_pr k (fun h => p6_nm n3 nh nf ω h) ≤ 10 ^ n3 := p6_tens_le (f := fun n h => nf n (ω h)) hk hnh (fun i h hi e => by rw [← e]; exact hnf i hi)
  have b3 : p6_pr k (fun h => p6_jm n4 ja jb jw ω h) ≤ 10 ^ n4 := p6_tens_le (q := fun j => max (ja j) (jb j)) (f := fun j _ => p6_jf ja jb jw ω j) hk (fun j hj => by have := ha j hj; omega) (fun j h hj _ => p6_jf_le (ha j hj).2.2)
  have c1 : 12 ^ n1 * 324 ^ n2 ≤ 12 ^ 4 * 324 ^ 6 := Nat.mul_le_mul (Nat.pow_le_pow_right (by decide) hn1) (Nat.pow_le_pow_right (by decide) hn2)
  have c2 : 10 ^ n3 * 10 ^ n4 ≤ 10 ^ 4 * 10 ^ 4 := Nat.mul_le_mul (Nat.pow_le_pow_right (by decide) hn3) (Nat.pow_le_pow_right (by decide) hn4)
  have := Nat.mul_le_mul (Nat.le_trans b1 c1) (Nat.le_trans (Nat.mul_le_mul b2 b3) c2)
  refine Nat.le_trans (Nat.le_of_eq ?_) (Nat.le_trans this (Nat.le_of_eq (by rw [← Nat.pow_add])))
  simp only [Nat.mul_assoc, Nat.mul_left_comm, Nat.mul_comm]
theorem p6_tk_le {h : Nat} (hn2 : n2 ≤ 6) (hne : od = true → ea ≠ la) (hy1 : ∀ p, yc p ≤ 12) (hL : ∀ h y, h < n2 → y < 12 → L h (ω h) y ≤ 324) : p6_tk hp L yc fy n2 od ea la ω h ≤ 144 * 324 ^ 6 := by
  have p6 : 324 ^ n2 ≤ 324 ^ 6 := Nat.pow_le_pow_right (by decide) hn2
  unfold p6_tk
  by_cases hi : p6_iob od ea la (hp h) = true
  · rw [if_pos hi]
    split
    · refine Nat.le_trans (p6_PO_le (hy1 _) (hy1 _) hL) ?_
      have := p6_G2_le (hp := hp) (k := n2) (hne (p6_iob_t.mp hi).1)
      have e : 12 * p6_G hp n2 ea * (12 * p6_G hp n2 la) = 144 * (p6_G hp n2 ea * p6_G hp n2 la) := by
        rw [Nat.mul_mul_mul_comm]
      rw [e]
      exact Nat.mul_le_mul_left _ (Nat.le_trans this p6)
    · exact Nat.le_trans (by decide) (Nat.mul_le_mul (show 1 ≤ 144 by decide) (Nat.le_refl (324 ^ 6)))
  · rw [if_neg hi]
    split
    · refine Nat.le_trans (p6_PS_le (hy1 _) (fun h y q1 q2 => hL h y q1 (Nat.lt_of_lt_of_le q2 (hy1 _)))) ?_
      exact Nat.mul_le_mul (by decide) (Nat.le_trans p6_G_le p6)
    · exact Nat.le_trans (by decide) (Nat.mul_le_mul (show 1 ≤ 144 by decide) (Nat.le_refl (324 ^ 6)))
/-! what a weight depends on -/
theorem p6_T_congr {k p y : Nat} (h : ∀ e, e < k → ω e = ω' e) : p6_T hp L ω k p y = p6_T hp L ω' k p y := p6_pr_congr (fun e he => by rw [h e he])
theorem p6_T_cut {h p y : Nat} (hn2 : n2 ≤ 6) (hh : h < n2) (hc : p6_cl hp n2 p ≤ h ∨ p6_cl hp n2 p = 6) : p6_T hp L ω n2 p y = p6_T hp L ω (h + 1) p y := by
  refine p6_pr_cut (by omega) (fun i i1 i2 => if_neg ?_)
  rcases hc with q | q
  · by_cases q6 : p6_cl hp n2 p = 6
    · exact p6_cl_6 hn2 q6 i i2
    · exact (p6_cl_lt q6).2.2 i (by omega) i2
  · exact p6_cl_6 hn2 q i i2
theorem p6_bt_t {h : Nat} : p6_bt hp n2 ea la h = true ↔ (p6_cl hp n2 ea ≤ h ∨ p6_cl hp n2 ea = 6) ∧ (p6_cl hp n2 la ≤ h ∨ p6_cl hp n2 la = 6) := by
  unfold p6_bt
  simp
theorem p6_PO_congr (h1 : ∀ y, p6_T hp L ω n2 ea y = p6_T hp L ω' n2 ea y) (h2 : ∀ y, p6_T hp L ω n2 la y = p6_T hp L ω' n2 la y) : p6_PO hp L yc fy n2 ea la ω = p6_PO hp L yc fy n2 ea la ω' := by
  unfold p6_PO
  simp only [h1, h2]
theorem p6_tk_congr {h : Nat} (hn2 : n2 ≤ 6) (hh : h < n2) (ha : ∀ e, e ≤ h → ω e = ω' e) : p6_tk hp L yc fy n2 od ea la ω h = p6_tk hp L yc fy n2 od ea la ω' h := by
  unfold p6_tk
  split
  · split
    · rename_i hb
      obtain ⟨b1, b2⟩ := p6_bt_t.mp hb
      refine p6_PO_congr (fun y => ?_) (fun y => ?_)
      · rw [p6_T_cut hn2 hh b1, p6_T_cut hn2 hh b1]
        exact p6_T_congr (fun e he => ha e (by omega))
      · rw [p6_T_cut hn2 hh b2, p6_T_cut hn2 hh b2]
        exact p6_T_congr (fun e he => ha e (by omega))
    · rfl
  · split
    · rename_i hc
      unfold p6_PS
      refine p6_sm_congr (fun y _ => ?_)
      rw [p6_T_cut hn2 hh (Or.inl (Nat.le_of_eq hc)), p6_T_cut hn2 hh (Or.inl (Nat.le_of_eq hc))]
      exact p6_T_congr (fun e he => ha e (by omega))
    · rfl
theorem p6_c0_congr (hn2 : n2 ≤ 6) : p6_c0 hp L yc fy n1 n2 od ea la ω = p6_c0 hp L yc fy n1 n2 od ea la ω' := by
  unfold p6_c0
  congr 1
  split
  · rename_i q
    refine p6_PO_congr (fun y => ?_) (fun y => ?_)
    · rw [p6_T_empty (p6_cl_6 hn2 q.2.1), p6_T_empty (p6_cl_6 hn2 q.2.1)]
    · rw [p6_T_empty (p6_cl_6 hn2 q.2.2), p6_T_empty (p6_cl_6 hn2 q.2.2)]
  · rfl
theorem p6_nm_congr {h : Nat} (e : ω h = ω' h) : p6_nm n3 nh nf ω h = p6_nm n3 nh nf ω' h := by
  unfold p6_nm
  rw [e]
theorem p6_jm_congr {h : Nat} (ha : ∀ e, e ≤ h → ω e = ω' e) : p6_jm n4 ja jb jw ω h = p6_jm n4 ja jb jw ω' h := by
  unfold p6_jm
  refine p6_pr_congr (fun j _ => ?_)
  split
  · unfold p6_jf
    rw [ha (ja j) (by omega), ha (jb j) (by omega)]
  · rfl
theorem p6_PW_congr {k : Nat} (hn2 : n2 ≤ 6) (hk : k ≤ n2) (ha : ∀ e, e < k → ω e = ω' e) : p6_PW hp L yc fy n1 n2 n3 n4 od ea la nh nf ja jb jw ω k = p6_PW hp L yc fy n1 n2 n3 n4 od ea la nh nf ja jb jw ω' k := by
  unfold p6_PW
  rw [p6_c0_congr (ω' := ω') hn2]
  congr 1
  refine p6_pr_congr (fun h hh => ?_)
  rw [p6_nm_congr (ha h hh), p6_jm_congr (fun e he => ha e (by omega)), p6_tk_congr hn2 (by omega) (fun e he => ha e (by omega))]
theorem p6_tw_congr {k : Nat} (ha : ∀ e, e < k → ω e = ω' e) : p6_tw hp ω k ↔ p6_tw hp ω' k := by
  constructor
  · rintro ⟨h, e, h1, h2, h3, h4, h5⟩
    exact ⟨h, e, h1, h2, by rw [← ha h h1, ← ha e (by omega)]; exact h3, by rw [← ha h h1]; exact h4, h5⟩
  · rintro ⟨h, e, h1, h2, h3, h4, h5⟩
    exact ⟨h, e, h1, h2, by rw [ha h h1, ha e (by omega)]; exact h3, by rw [ha h h1]; exact h4, h5⟩
end BD
