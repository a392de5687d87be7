/-! WORTH: the pure sums -/
def k_mx (f : Nat → Nat) : Nat → Nat
  | 0 => 0
  | n + 1 => if k_mx f n < f n then f n else k_mx f n
theorem k_le_mx (f : Nat → Nat) : ∀ {n i : Nat}, i < n → f i ≤ k_mx f n := by
  intro n
  induction n with
  | zero => intro i h; omega
  | succ n ih =>
    intro i h
    rw [k_mx]
    by_cases c : i = n
    · subst c; split <;> omega
    · have := ih (show i < n by omega)
      split <;> omega
theorem k_mx_le {f : Nat → Nat} {B : Nat} : ∀ {n : Nat}, (∀ i, i < n → f i ≤ B) → k_mx f n ≤ B := by
  intro n
  induction n with
  | zero => intro _; exact Nat.zero_le _
  | succ n ih =>
    intro h
    rw [k_mx]
    have h1 := ih (fun i hi => h i (by omega))
    have h2 := h n (by omega)
    split <;> omega
theorem k_mx_who {f : Nat → Nat} {n0 : Nat} (hn0 : n0 ≤ 5) (hz : ∀ y, y < 6 → ¬ k_w n0 y → f y = 0) : k_mx (fun i => f (p6_who n0 i)) (n0 + 1) = k_mx f 6 := by
  apply Nat.le_antisymm
  · exact k_mx_le (fun i _ => k_le_mx f (k_w_lt hn0 (p6_who_w n0 i)))
  · refine k_mx_le (fun y hy => ?_)
    by_cases c : k_w n0 y
    · obtain ⟨i, h1, h2⟩ := q_whoEx c
      rw [← h2]
      exact k_le_mx (fun i => f (p6_who n0 i)) (by omega)
    · rw [hz y hy c]; exact Nat.zero_le _
theorem p6_sm_who (f : Nat → Nat) {n0 : Nat} (hn0 : n0 ≤ 5) : p6_sm 6 (fun x => if x < n0 ∨ x = 5 then f x else 0) = p6_sm (n0 + 1) (fun i => f (p6_who n0 i)) := by
  have h5 : ∀ k, k ≤ n0 → p6_sm k (fun x => if x < n0 ∨ x = 5 then f x else 0) = p6_sm k (fun i => f (p6_who n0 i)) := fun k hk => p6_sm_congr (fun i hi => by rw [if_pos (Or.inl (by omega)), p6_who, if_pos (by omega)])
  have hr : ∀ r, n0 + r ≤ 5 → p6_sm (n0 + r) (fun x => if x < n0 ∨ x = 5 then f x else 0) = p6_sm n0 (fun i => f (p6_who n0 i)) := by
    intro r
    induction r with
    | zero => intro _; exact h5 n0 (Nat.le_refl _)
    | succ r ih =>
      intro h
      rw [← Nat.add_assoc, p6_sm, ih (by omega), if_neg (by omega), Nat.add_zero]
  have e5 := hr (5 - n0) (by omega)
  rw [show n0 + (5 - n0) = 5 by omega] at e5
  rw [show (6 : Nat) = 5 + 1 from rfl, p6_sm, e5, p6_sm, if_pos (Or.inr rfl), p6_who, if_neg (by omega)]
theorem p6_who_inj {n0 i k : Nat} (hn0 : n0 ≤ 5) (hi : i ≤ n0) (hk : k ≤ n0) : p6_who n0 i = p6_who n0 k ↔ i = k := by
  unfold p6_who
  constructor
  · intro h
    split at h <;> split at h <;> omega
  · intro h; rw [h]
/-- what comes to y by the answer a -/
def w_G (J : Nat → Nat → Nat) (t : Nat → Nat) (n0 a y : Nat) : Nat := p6_sm (n0 + 1) (fun i => J (p6_who n0 i) y * (if p6_who n0 i = a then t (p6_who n0 i) * n0 else 10 - t (p6_who n0 i)))
def w_M (J : Nat → Nat → Nat) (t : Nat → Nat) (n0 a : Nat) : Nat := k_mx (w_G J t n0 a) 6
def w_W (J : Nat → Nat → Nat → Nat) (t : Nat → Nat) (n0 n2 : Nat) : Nat := p6_sm n2 (fun h => p6_sm (n0 + 1) (fun k => w_M (J h) t n0 (p6_who n0 k)))
def w_wr (J : Nat → Nat → Nat) (t : Nat → Nat) (n0 y : Nat) : Nat := p6_sm (n0 + 1) (fun i => J (p6_who n0 i) y * (10 - t (p6_who n0 i)))
section WO
variable {J : Nat → Nat → Nat} {t : Nat → Nat} {n0 : Nat}
theorem w_G_split (hn0 : n0 ≤ 5) (h1 : 1 ≤ n0) (ht : ∀ x, k_w n0 x → 5 ≤ t x ∧ t x ≤ 10) {k : Nat} (hk : k ≤ n0) (y : Nat) : w_G J t n0 (p6_who n0 k) y = J (p6_who n0 k) y * (n0 * t (p6_who n0 k) - (10 - t (p6_who n0 k))) + w_wr J t n0 y := by
  have e : p6_sm (n0 + 1) (fun i => if i = k then J (p6_who n0 k) y * (n0 * t (p6_who n0 k) - (10 - t (p6_who n0 k))) else 0) = J (p6_who n0 k) y * (n0 * t (p6_who n0 k) - (10 - t (p6_who n0 k))) := by
    rw [p6_sm_single (k := k) (by omega) (fun i _ hi => if_neg hi), if_pos rfl]
  unfold w_G w_wr
  rw [← e, ← p6_sm_add]
  refine p6_sm_congr (fun i hi => ?_)
  by_cases c : i = k
  · subst c
    rw [if_pos rfl, if_pos rfl, ← Nat.mul_add]
    congr 1
    obtain ⟨q1, q2⟩ := ht _ (p6_who_w n0 i)
    generalize t (p6_who n0 i) = T at *
    have : T ≤ n0 * T := Nat.le_mul_of_pos_left T h1
    rw [Nat.mul_comm T n0]
    omega
  · rw [if_neg (fun q => c ((p6_who_inj hn0 (by omega) hk).mp q)), if_neg c, Nat.zero_add]
theorem w_G_z {a y : Nat} (hz : ∀ x, J x y = 0) : w_G J t n0 a y = 0 := p6_sm_zero (fun i _ => by rw [hz, Nat.zero_mul])
theorem w_cf_le (ht : ∀ x, k_w n0 x → 5 ≤ t x ∧ t x ≤ 10) (hn0 : n0 ≤ 5) {a x : Nat} (hx : k_w n0 x) : (if x = a then t x * n0 else 10 - t x) ≤ 50 := by
  obtain ⟨q1, q2⟩ := ht _ hx
  split
  · exact Nat.le_trans (Nat.mul_le_mul q2 hn0) (by decide)
  · omega
theorem w_G_le {A : Nat} (ht : ∀ x, k_w n0 x → 5 ≤ t x ∧ t x ≤ 10) (hn0 : n0 ≤ 5) (hJ : ∀ y, p6_sm (n0 + 1) (fun i => J (p6_who n0 i) y) ≤ A) (a y : Nat) : w_G J t n0 a y ≤ A * 50 := by
  unfold w_G
  refine Nat.le_trans (p6_sm_le (g := fun i => J (p6_who n0 i) y * 50) (fun i _ => Nat.mul_le_mul_left _ (w_cf_le ht hn0 (p6_who_w n0 i)))) ?_
  rw [p6_sm_mulr]
  exact Nat.mul_le_mul_right 50 (hJ y)
theorem w_M_le {A : Nat} (ht : ∀ x, k_w n0 x → 5 ≤ t x ∧ t x ≤ 10) (hn0 : n0 ≤ 5) (hJ : ∀ y, p6_sm (n0 + 1) (fun i => J (p6_who n0 i) y) ≤ A) (a : Nat) : w_M J t n0 a ≤ A * 50 := k_mx_le (fun y _ => w_G_le ht hn0 hJ a y)
theorem w_G_all (ht : ∀ x, k_w n0 x → 5 ≤ t x ∧ t x ≤ 10) (hn0 : n0 ≤ 5) (y : Nat) : p6_sm (n0 + 1) (fun k => w_G J t n0 (p6_who n0 k) y) = 10 * n0 * p6_sm (n0 + 1) (fun i => J (p6_who n0 i) y) := by
  unfold w_G
  rw [p6_sm_swap (fun k i => J (p6_who n0 i) y * (if p6_who n0 i = p6_who n0 k then t (p6_who n0 i) * n0 else 10 - t (p6_who n0 i))), ← p6_sm_mul]
  refine p6_sm_congr (fun i hi => ?_)
  rw [p6_sm_mul, Nat.mul_comm]
  congr 1
  obtain ⟨q1, q2⟩ := ht _ (p6_who_w n0 i)
  generalize t (p6_who n0 i) = T at *
  have e1 : ∀ k, k < n0 + 1 → (if p6_who n0 i = p6_who n0 k then T * n0 else 10 - T) + (if k = i then 10 - T else 0) = (10 - T) + (if k = i then T * n0 else 0) := fun k hk => by
    by_cases c : k = i
    · subst c; rw [if_pos rfl, if_pos rfl, if_pos rfl]; omega
    · rw [if_neg (fun q => c ((p6_who_inj hn0 (by omega) (by omega)).mp q).symm), if_neg c, if_neg c]
  have e2 := p6_sm_congr e1
  rw [p6_sm_add, p6_sm_add, p6_sm_const, p6_sm_single (k := i) (by omega) (fun i _ hi => if_neg hi), p6_sm_single (k := i) (by omega) (fun i _ hi => if_neg hi), if_pos rfl, if_pos rfl] at e2
  have e3 : (n0 + 1) * (10 - T) = n0 * (10 - T) + (10 - T) := by rw [Nat.add_mul, Nat.one_mul]
  have e4 : n0 * (10 - T) + n0 * T = n0 * 10 := by rw [← Nat.mul_add]; congr 1; omega
  have e5 : T * n0 = n0 * T := Nat.mul_comm T n0
  rw [Nat.mul_comm 10 n0]
  omega
end WO
/-- the worth is not below nothing -/
theorem w_W_ge {J : Nat → Nat → Nat → Nat} {t : Nat → Nat} {S : Nat → Nat → Nat} {n0 n2 : Nat} (ht : ∀ x, k_w n0 x → 5 ≤ t x ∧ t x ≤ 10) (hn0 : n0 ≤ 5) (hJ : ∀ h y, h < n2 → p6_sm (n0 + 1) (fun i => J h (p6_who n0 i) y) = S h y) : p6_sm n2 (fun h => S h (k_ll n0 (S h) n0)) * (10 * n0) ≤ w_W J t n0 n2 := by
  unfold w_W
  rw [← p6_sm_mulr]
  refine p6_sm_le (fun h hh => ?_)
  have e := w_G_all (J := J h) ht hn0 (k_ll n0 (S h) n0)
  rw [hJ h _ hh, Nat.mul_comm] at e
  rw [← e]
  exact p6_sm_le (fun k _ => k_le_mx (w_G (J h) t n0 (p6_who n0 k)) (k_w_lt hn0 (k_ll_w n0 (S h) n0)))
theorem w_W_le {J : Nat → Nat → Nat → Nat} {t : Nat → Nat} {n0 n2 A : Nat} (ht : ∀ x, k_w n0 x → 5 ≤ t x ∧ t x ≤ 10) (hn0 : n0 ≤ 5) (hn2 : n2 ≤ 6) (hJ : ∀ h y, h < n2 → p6_sm (n0 + 1) (fun i => J h (p6_who n0 i) y) ≤ A) : w_W J t n0 n2 ≤ 1800 * A := by
  have h1 : w_W J t n0 n2 ≤ n2 * (6 * (A * 50)) := by
    unfold w_W
    rw [← p6_sm_const]
    refine p6_sm_le (fun h hh => ?_)
    have : p6_sm (n0 + 1) (fun k => w_M (J h) t n0 (p6_who n0 k)) ≤ (n0 + 1) * (A * 50) := by
      rw [← p6_sm_const]; exact p6_sm_le (fun k _ => w_M_le ht hn0 (fun y => hJ h y hh) _)
    exact Nat.le_trans this (Nat.mul_le_mul_right _ (by omega))
  have h2 : n2 * (6 * (A * 50)) ≤ 6 * (6 * (A * 50)) := Nat.mul_le_mul_right _ hn2
  omega
def k_ta (bk : Nat → Int32) (x : Nat) : Nat := if x = 5 then 6 else 5 + cx_ix (bk (8 + 6 * x + 5))
section WT
variable {c0 c1 c2 c3 c4 : Nat → Int32} {z0 z1 z2 z3 z4 sg : Int32} {bk : Nat → Int32} {n0 n1 n2 n3 n4 : Nat}
theorem k_ta_spec (hRB : p2_RB c0 z0 c1 z1 c2 z2 c3 z3 c4 z4 sg bk n0 n1 n2 n3 n4) {x : Nat} (hx : k_w n0 x) : 5 ≤ k_ta bk x ∧ k_ta bk x ≤ 10 ∧ f_X9_truthAbout bk (nI x) = some (nI (k_ta bk x)) ∧ f_X1_auntTruth c0 z0 (nI x) = some (nI (k_ta bk x)) := by
  obtain ⟨r0, r1, r2, r3, r4, rs, v0, v1, v2, v3, v4, v5⟩ := id hRB
  have hn0 := r0.1
  unfold k_ta f_X9_truthAbout f_X1_auntTruth
  have h6 := k_w_lt hn0 hx
  by_cases c : x = 5
  · subst c
    rw [if_pos rfl]
    exact ⟨by decide, by decide, rfl, rfl⟩
  · have hxn : x < n0 := by rcases hx with q | q <;> omega
    have hv := (v0 x hxn).2.2.2.2.2
    have e := p7_ix hv.1
    have hle : cx_ix (bk (8 + 6 * x + 5)) ≤ 4 := p7_le hv.1 hv.2
    rw [if_neg c, if_neg (fun q => c ((k_5 h6).mp q)), if_neg (fun q => c ((k_5 h6).mp q)), show f_X9_ofPerson bk (nI x) 5 = _ from p2_ofPerson x 5 (by omega) (by decide), Option.bind_some, show f_X4_at 6 30 c0 z0 (nI x) 5 = _ from p2_atP r0 x 5 hxn (by decide), Option.bind_some]
    refine ⟨by omega, by omega, ?_, ?_⟩ <;> rw [e.1, show (5 : Int32) = nI 5 from rfl, nI_add, p7_nI (by omega)]
/-- joints: turned, and added up -/
theorem q_J_comm (bk : Nat → Int32) (n0 n1 n2 n3 n4 a x b y : Nat) : q_J bk n0 n1 n2 n3 n4 a x b y = q_J bk n0 n1 n2 n3 n4 b y a x := by
  unfold q_J
  exact p6_ws_congr2 n0 _ _ n2 0 q_0 (fun ω' _ _ => by
    show (if ω' a = x ∧ ω' b = y then _ else 0) = (if ω' b = y ∧ ω' a = x then _ else 0)
    by_cases q : ω' a = x ∧ ω' b = y
    · rw [if_pos q, if_pos ⟨q.2, q.1⟩]
    · rw [if_neg q, if_neg (fun z => q ⟨z.2, z.1⟩)])
theorem q_J_sum (hn0 : n0 ≤ 5) {a h : Nat} (ha : a < n2) (y : Nat) : p6_sm (n0 + 1) (fun i => q_J bk n0 n1 n2 n3 n4 a (p6_who n0 i) h y) = q_S bk n0 n1 n2 n3 n4 h y := by
  unfold q_J q_S
  rw [← p6_ws_sm]
  refine p6_ws_congr2 n0 _ _ n2 0 q_0 (fun ω' _ hv => ?_)
  obtain ⟨i, h1, h2⟩ := q_whoEx (hv a (by omega) (by omega))
  show p6_sm (n0 + 1) (fun i => if ω' a = p6_who n0 i ∧ ω' h = y then q_G0 bk n1 n2 n3 n4 ω' else 0) = _
  rw [p6_sm_single (k := i) (by omega) (fun j hj hne => if_neg (fun z => hne ((p6_who_inj hn0 (by omega) h1).mp (z.1.symm.trans h2.symm))))]
  by_cases c : ω' h = y
  · rw [if_pos ⟨h2.symm, c⟩, if_pos c]
  · rw [if_neg (fun z => c z.2), if_neg c]
theorem q_J_z {a h : Nat} (hh : h < n2) {y : Nat} (hy : ¬ k_w n0 y) (x : Nat) : q_J bk n0 n1 n2 n3 n4 a x h y = 0 := by
  unfold q_J
  rw [p6_ws_congr2 n0 _ (fun _ => 0) n2 0 q_0 (fun ω' _ hv => show (if ω' a = x ∧ ω' h = y then q_G0 bk n1 n2 n3 n4 ω' else 0) = 0 from if_neg (fun z => hy (by rw [← z.2]; exact hv h (by omega) (by omega))))]
  exact p6_ws_zero n0 (fun _ => 0) n2 0 q_0 (fun _ _ => rfl)
end WT
