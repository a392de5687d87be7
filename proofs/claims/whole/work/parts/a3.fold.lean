/-! OVER ALL WAYS: by recursion over the heads, and by codes -/
def p6_who (n0 i : Nat) : Nat := if i < n0 then i else 5
/-- the sum over all ways that go on from ω at head h, m heads to come -/
def p6_ws (n0 : Nat) (F : (Nat → Nat) → Nat) : Nat → Nat → (Nat → Nat) → Nat
  | 0, _, ω => F ω
  | m + 1, h, ω => p6_sm (n0 + 1) (fun i => p6_ws n0 F m (h + 1) (p4_u ω h (p6_who n0 i)))
def p6_it {σ : Type} (f : Nat → σ → σ) : Nat → σ → σ
  | 0, s => s
  | n + 1, s => f n (p6_it f n s)
/-- one after the other through all ways -/
def p6_wf {σ : Type} (n0 : Nat) (st : (Nat → Nat) → σ → σ) : Nat → Nat → (Nat → Nat) → σ → σ
  | 0, _, ω, s => st ω s
  | m + 1, h, ω, s => p6_it (fun i s => p6_wf n0 st m (h + 1) (p4_u ω h (p6_who n0 i)) s) (n0 + 1) s
/-- ω' goes on from ω at head h -/
def p6_on (h : Nat) (ω ω' : Nat → Nat) : Prop := ∀ e, e < h → ω' e = ω e
theorem p6_on_s {h x : Nat} {ω ω' : Nat → Nat} (q : p6_on (h + 1) (p4_u ω h x) ω') : p6_on h ω ω' ∧ ω' h = x := by
  refine ⟨fun e he => ?_, ?_⟩
  · rw [q e (by omega), p4_un (by omega)]
  · rw [q h (by omega), p4_us]
theorem p6_ws_congr (n0 : Nat) (F G : (Nat → Nat) → Nat) : ∀ (m h : Nat) (ω : Nat → Nat), (∀ ω', p6_on h ω ω' → F ω' = G ω') → p6_ws n0 F m h ω = p6_ws n0 G m h ω := by
  intro m
  induction m with
  | zero => intro h ω q; exact q ω (fun _ _ => rfl)
  | succ m ih =>
    intro h ω q
    rw [p6_ws, p6_ws]
    exact p6_sm_congr (fun i _ => ih (h + 1) _ (fun ω' q' => q ω' (p6_on_s q').1))
theorem p6_ws_zero (n0 : Nat) (F : (Nat → Nat) → Nat) : ∀ (m h : Nat) (ω : Nat → Nat), (∀ ω', p6_on h ω ω' → F ω' = 0) → p6_ws n0 F m h ω = 0 := by
  intro m
  induction m with
  | zero => intro h ω q; exact q ω (fun _ _ => rfl)
  | succ m ih =>
    intro h ω q
    rw [p6_ws]
    exact p6_sm_zero (fun i _ => ih (h + 1) _ (fun ω' q' => q ω' (p6_on_s q').1))
theorem p6_ws_le (n0 : Nat) (F : (Nat → Nat) → Nat) (c : Nat) : ∀ (m h : Nat) (ω : Nat → Nat), (∀ ω', p6_on h ω ω' → F ω' ≤ c) → p6_ws n0 F m h ω ≤ (n0 + 1) ^ m * c := by
  intro m
  induction m with
  | zero => intro h ω q; rw [Nat.pow_zero, Nat.one_mul]; exact q ω (fun _ _ => rfl)
  | succ m ih =>
    intro h ω q
    rw [p6_ws]
    refine Nat.le_trans (p6_sm_le (g := fun _ => (n0 + 1) ^ m * c) (fun i _ => ih (h + 1) _ (fun ω' q' => q ω' (p6_on_s q').1))) ?_
    rw [p6_sm_const, Nat.pow_succ, Nat.mul_comm ((n0 + 1) ^ m) (n0 + 1), Nat.mul_assoc (n0 + 1)]
    exact Nat.le_refl _
theorem p6_ws_mono (n0 : Nat) (F G : (Nat → Nat) → Nat) : ∀ (m h : Nat) (ω : Nat → Nat), (∀ ω', F ω' ≤ G ω') → p6_ws n0 F m h ω ≤ p6_ws n0 G m h ω := by
  intro m
  induction m with
  | zero => intro h ω q; exact q ω
  | succ m ih =>
    intro h ω q
    rw [p6_ws, p6_ws]
    exact p6_sm_le (fun i _ => ih (h + 1) _ q)
theorem p6_ws_add (n0 : Nat) (F G : (Nat → Nat) → Nat) : ∀ (m h : Nat) (ω : Nat → Nat), p6_ws n0 (fun ω => F ω + G ω) m h ω = p6_ws n0 F m h ω + p6_ws n0 G m h ω := by
  intro m
  induction m with
  | zero => intro h ω; rfl
  | succ m ih =>
    intro h ω
    rw [p6_ws, p6_ws, p6_ws, ← p6_sm_add]
    exact p6_sm_congr (fun i _ => ih (h + 1) _)
theorem p6_ws_mul (n0 : Nat) (c : Nat) (F : (Nat → Nat) → Nat) : ∀ (m h : Nat) (ω : Nat → Nat), p6_ws n0 (fun ω => c * F ω) m h ω = c * p6_ws n0 F m h ω := by
  intro m
  induction m with
  | zero => intro h ω; rfl
  | succ m ih =>
    intro h ω
    rw [p6_ws, p6_ws, ← p6_sm_mul]
    exact p6_sm_congr (fun i _ => ih (h + 1) _)
theorem p6_ws_sm (n0 : Nat) (F : Nat → (Nat → Nat) → Nat) : ∀ (n m h : Nat) (ω : Nat → Nat), p6_ws n0 (fun ω => p6_sm n (fun i => F i ω)) m h ω = p6_sm n (fun i => p6_ws n0 (F i) m h ω) := by
  intro n
  induction n with
  | zero =>
    intro m h ω
    exact p6_ws_zero n0 _ m h ω (fun _ _ => rfl)
  | succ n ih =>
    intro m h ω
    rw [p6_sm, ← ih, ← p6_ws_add]
    rfl
/-- a condition on what is told already -/
theorem p6_ws_if (n0 : Nat) (F : (Nat → Nat) → Nat) (m h : Nat) (ω : Nat → Nat) (c : (Nat → Nat) → Bool) (hc : ∀ ω', p6_on h ω ω' → c ω' = c ω) : p6_ws n0 (fun ω' => if c ω' = true then F ω' else 0) m h ω = if c ω = true then p6_ws n0 F m h ω else 0 := by
  by_cases h1 : c ω = true
  · rw [if_pos h1]
    exact p6_ws_congr n0 _ _ m h ω (fun ω' q => if_pos ((hc ω' q).trans h1))
  · rw [if_neg h1]
    exact p6_ws_zero n0 _ m h ω (fun ω' q => if_neg (fun z => h1 ((hc ω' q).symm.trans z)))
theorem p6_it_congr {σ : Type} {f g : Nat → σ → σ} : ∀ {n : Nat} {s : σ}, (∀ i s, i < n → f i s = g i s) → p6_it f n s = p6_it g n s := by
  intro n
  induction n with
  | zero => intro s _; rfl
  | succ n ih => intro s q; rw [p6_it, p6_it, ih (fun i s hi => q i s (by omega)), q n _ (by omega)]
theorem p6_it_id {σ : Type} {f : Nat → σ → σ} : ∀ {n : Nat} {s : σ}, (∀ i s, i < n → f i s = s) → p6_it f n s = s := by
  intro n
  induction n with
  | zero => intro s _; rfl
  | succ n ih => intro s q; rw [p6_it, ih (fun i s hi => q i s (by omega)), q n _ (by omega)]
theorem p6_wf_id {σ : Type} (n0 : Nat) (st : (Nat → Nat) → σ → σ) : ∀ (m h : Nat) (ω : Nat → Nat) (s : σ), (∀ ω' s, p6_on h ω ω' → st ω' s = s) → p6_wf n0 st m h ω s = s := by
  intro m
  induction m with
  | zero => intro h ω s q; exact q ω s (fun _ _ => rfl)
  | succ m ih =>
    intro h ω s q
    rw [p6_wf]
    exact p6_it_id (fun i s _ => ih (h + 1) _ s (fun ω' s q' => q ω' s (p6_on_s q').1))
/-! by codes -/
def p6_wc (n0 : Nat) : Nat → Nat → (Nat → Nat) → Nat → (Nat → Nat)
  | 0, _, ω, _ => ω
  | m + 1, h, ω, x => p6_wc n0 m (h + 1) (p4_u ω h (p6_who n0 (x / (n0 + 1) ^ m))) (x % (n0 + 1) ^ m)
theorem p6_sm_prod (M : Nat) (g : Nat → Nat) : ∀ B, p6_sm (B * M) g = p6_sm B (fun i => p6_sm M (fun y => g (i * M + y))) := by
  have app : ∀ (a b : Nat), p6_sm (a + b) g = p6_sm a g + p6_sm b (fun y => g (a + y)) := by
    intro a b
    induction b with
    | zero => rfl
    | succ b ih => rw [← Nat.add_assoc, p6_sm, ih, p6_sm]; omega
  intro B
  induction B with
  | zero => rw [Nat.zero_mul]; rfl
  | succ B ih => rw [Nat.succ_mul, app, ih, p6_sm]
theorem p6_it_prod {σ : Type} (M : Nat) (g : Nat → σ → σ) (s : σ) : ∀ B, p6_it g (B * M) s = p6_it (fun i s => p6_it (fun y s => g (i * M + y) s) M s) B s := by
  have app : ∀ (a b : Nat), p6_it g (a + b) s = p6_it (fun y s => g (a + y) s) b (p6_it g a s) := by
    intro a b
    induction b with
    | zero => rfl
    | succ b ih => rw [← Nat.add_assoc, p6_it, ih, p6_it]
  intro B
  induction B with
  | zero => rw [Nat.zero_mul]; rfl
  | succ B ih => rw [Nat.succ_mul, app, ih, p6_it]
theorem p6_codes (n0 : Nat) (F : (Nat → Nat) → Nat) : ∀ (m h : Nat) (ω : Nat → Nat), p6_sm ((n0 + 1) ^ m) (fun x => F (p6_wc n0 m h ω x)) = p6_ws n0 F m h ω := by
  intro m
  induction m with
  | zero => intro h ω; rw [Nat.pow_zero, p6_sm, p6_sm, Nat.zero_add]; rfl
  | succ m ih =>
    intro h ω
    have hp : 0 < (n0 + 1) ^ m := Nat.pow_pos (by omega)
    rw [Nat.pow_succ, Nat.mul_comm, p6_sm_prod, p6_ws]
    refine p6_sm_congr (fun i _ => ?_)
    rw [← ih]
    refine p6_sm_congr (fun y hy => ?_)
    rw [p6_wc, Nat.add_comm (i * _) y, Nat.add_mul_div_right _ _ hp, Nat.div_eq_of_lt hy, Nat.zero_add, Nat.add_mul_mod_self_right, Nat.mod_eq_of_lt hy]
theorem p6_codesF {σ : Type} (n0 : Nat) (st : (Nat → Nat) → σ → σ) : ∀ (m h : Nat) (ω : Nat → Nat) (s : σ), p6_it (fun x s => st (p6_wc n0 m h ω x) s) ((n0 + 1) ^ m) s = p6_wf n0 st m h ω s := by
  intro m
  induction m with
  | zero => intro h ω s; rw [Nat.pow_zero, p6_it, p6_it]; rfl
  | succ m ih =>
    intro h ω s
    have hp : 0 < (n0 + 1) ^ m := Nat.pow_pos (by omega)
    rw [Nat.pow_succ, Nat.mul_comm, p6_it_prod, p6_wf]
    refine p6_it_congr (fun i s _ => ?_)
    rw [← ih]
    refine p6_it_congr (fun y s hy => ?_)
    rw [p6_wc, Nat.add_comm (i * _) y, Nat.add_mul_div_right _ _ hp, Nat.div_eq_of_lt hy, Nat.zero_add, Nat.add_mul_mod_self_right, Nat.mod_eq_of_lt hy]
theorem p6_wc_lo (n0 : Nat) : ∀ (m h : Nat) (ω : Nat → Nat) (x e : Nat), e < h → p6_wc n0 m h ω x e = ω e := by
  intro m
  induction m with
  | zero => intro h ω x e _; rfl
  | succ m ih => intro h ω x e he; rw [p6_wc, ih (h + 1) _ _ e (by omega), p4_un (by omega)]
/-- the digit of a head -/
theorem p6_wc_dig (n0 : Nat) : ∀ (m h : Nat) (ω : Nat → Nat) (x e : Nat), h ≤ e → e < h + m → x < (n0 + 1) ^ m → p6_wc n0 m h ω x e = p6_who n0 (x / (n0 + 1) ^ (h + m - 1 - e) % (n0 + 1)) := by
  intro m
  induction m with
  | zero => intro h ω x e h1 h2; omega
  | succ m ih =>
    intro h ω x e h1 h2 hx
    have hp : 0 < (n0 + 1) ^ m := Nat.pow_pos (by omega)
    rw [p6_wc]
    by_cases he : e = h
    · subst he
      have h3 : x / (n0 + 1) ^ m < n0 + 1 := by
        rw [Nat.div_lt_iff_lt_mul hp, Nat.mul_comm, ← Nat.pow_succ]
        exact hx
      rw [p6_wc_lo n0 m (e + 1) _ _ e (by omega), p4_us, show e + (m + 1) - 1 - e = m by omega, Nat.mod_eq_of_lt h3]
    · rw [ih (h + 1) _ _ e (by omega) (by omega) (Nat.mod_lt _ hp), show h + (m + 1) - 1 - e = h + 1 + m - 1 - e by omega]
      congr 1
      obtain ⟨q, hq⟩ : ∃ q, m = (h + 1 + m - 1 - e) + (q + 1) := ⟨e - h - 1, by omega⟩
      generalize h + 1 + m - 1 - e = d at *
      rw [hq, Nat.pow_add, Nat.mod_mul_right_div_self]
      exact Nat.mod_mod_of_dvd _ ⟨(n0 + 1) ^ q, by rw [Nat.pow_succ, Nat.mul_comm]⟩
