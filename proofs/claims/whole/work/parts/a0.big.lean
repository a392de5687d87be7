/-! SUMS AND PRODUCTS over Nat -/
def p6_sm : Nat → (Nat → Nat) → Nat
  | 0, _ => 0
  | n + 1, f => p6_sm n f + f n
def p6_pr : Nat → (Nat → Nat) → Nat
  | 0, _ => 1
  | n + 1, f => p6_pr n f * f n
theorem p6_pr_congr {f g : Nat → Nat} : ∀ {n : Nat}, (∀ i, i < n → f i = g i) → p6_pr n f = p6_pr n g := by
  intro n
  induction n with
  | zero => intro _; rfl
  | succ n ih => intro h; rw [p6_pr, p6_pr, ih (fun i hi => h i (by omega)), h n (by omega)]
theorem p6_sm_congr {f g : Nat → Nat} : ∀ {n : Nat}, (∀ i, i < n → f i = g i) → p6_sm n f = p6_sm n g := by
  intro n
  induction n with
  | zero => intro _; rfl
  | succ n ih => intro h; rw [p6_sm, p6_sm, ih (fun i hi => h i (by omega)), h n (by omega)]
theorem p6_pr_one {f : Nat → Nat} : ∀ {n : Nat}, (∀ i, i < n → f i = 1) → p6_pr n f = 1 := by
  intro n
  induction n with
  | zero => intro _; rfl
  | succ n ih => intro h; rw [p6_pr, ih (fun i hi => h i (by omega)), h n (by omega)]
theorem p6_sm_zero {f : Nat → Nat} : ∀ {n : Nat}, (∀ i, i < n → f i = 0) → p6_sm n f = 0 := by
  intro n
  induction n with
  | zero => intro _; rfl
  | succ n ih => intro h; rw [p6_sm, ih (fun i hi => h i (by omega)), h n (by omega)]
theorem p6_pr_mul (f g : Nat → Nat) : ∀ n, p6_pr n (fun i => f i * g i) = p6_pr n f * p6_pr n g := by
  intro n
  induction n with
  | zero => rfl
  | succ n ih => rw [p6_pr, p6_pr, p6_pr, ih, Nat.mul_assoc, Nat.mul_assoc, Nat.mul_left_comm (p6_pr n g)]
theorem p6_sm_add (f g : Nat → Nat) : ∀ n, p6_sm n (fun i => f i + g i) = p6_sm n f + p6_sm n g := by
  intro n
  induction n with
  | zero => rfl
  | succ n ih => rw [p6_sm, p6_sm, p6_sm, ih]; omega
theorem p6_sm_mul (c : Nat) (f : Nat → Nat) : ∀ n, p6_sm n (fun i => c * f i) = c * p6_sm n f := by
  intro n
  induction n with
  | zero => rfl
  | succ n ih => rw [p6_sm, p6_sm, ih, Nat.mul_add]
theorem p6_sm_mulr (c : Nat) (f : Nat → Nat) (n : Nat) : p6_sm n (fun i => f i * c) = p6_sm n f * c := by
  rw [Nat.mul_comm, ← p6_sm_mul]
  exact p6_sm_congr (fun i _ => Nat.mul_comm _ _)
theorem p6_pr_z {f : Nat → Nat} : ∀ {n i : Nat}, i < n → f i = 0 → p6_pr n f = 0 := by
  intro n
  induction n with
  | zero => intro i h; omega
  | succ n ih =>
    intro i h hz
    rw [p6_pr]
    by_cases e : i = n
    · rw [← e, hz, Nat.mul_zero]
    · rw [ih (by omega) hz, Nat.zero_mul]
theorem p6_pr_le {f g : Nat → Nat} : ∀ {n : Nat}, (∀ i, i < n → f i ≤ g i) → p6_pr n f ≤ p6_pr n g := by
  intro n
  induction n with
  | zero => intro _; exact Nat.le_refl _
  | succ n ih => intro h; rw [p6_pr, p6_pr]; exact Nat.mul_le_mul (ih (fun i hi => h i (by omega))) (h n (by omega))
theorem p6_sm_le {f g : Nat → Nat} : ∀ {n : Nat}, (∀ i, i < n → f i ≤ g i) → p6_sm n f ≤ p6_sm n g := by
  intro n
  induction n with
  | zero => intro _; exact Nat.le_refl _
  | succ n ih => intro h; rw [p6_sm, p6_sm]; exact Nat.add_le_add (ih (fun i hi => h i (by omega))) (h n (by omega))
theorem p6_pr_const (c : Nat) : ∀ n, p6_pr n (fun _ => c) = c ^ n := by
  intro n
  induction n with
  | zero => rfl
  | succ n ih => rw [p6_pr, ih, Nat.pow_succ]
theorem p6_sm_const (c : Nat) : ∀ n, p6_sm n (fun _ => c) = n * c := by
  intro n
  induction n with
  | zero => simp [p6_sm]
  | succ n ih => rw [p6_sm, ih, Nat.succ_mul]
theorem p6_pr_swap (f : Nat → Nat → Nat) (m : Nat) : ∀ n, p6_pr n (fun i => p6_pr m (f i)) = p6_pr m (fun j => p6_pr n (fun i => f i j)) := by
  intro n
  induction n with
  | zero => exact (p6_pr_one (fun _ _ => rfl)).symm
  | succ n ih => rw [p6_pr, ih, ← p6_pr_mul]; rfl
theorem p6_sm_swap (f : Nat → Nat → Nat) (m : Nat) : ∀ n, p6_sm n (fun i => p6_sm m (f i)) = p6_sm m (fun j => p6_sm n (fun i => f i j)) := by
  intro n
  induction n with
  | zero => exact (p6_sm_zero (fun _ _ => rfl)).symm
  | succ n ih => rw [p6_sm, ih, ← p6_sm_add]; rfl
theorem p6_pr_single {f : Nat → Nat} {k : Nat} : ∀ {n : Nat}, k < n → (∀ i, i < n → i ≠ k → f i = 1) → p6_pr n f = f k := by
  intro n
  induction n with
  | zero => intro h; omega
  | succ n ih =>
    intro h h1
    rw [p6_pr]
    by_cases e : k = n
    · subst e
      rw [p6_pr_one (fun i hi => h1 i (by omega) (by omega)), Nat.one_mul]
    · rw [ih (by omega) (fun i hi => h1 i (by omega)), h1 n (by omega) (by omega), Nat.mul_one]
theorem p6_sm_single {f : Nat → Nat} {k : Nat} : ∀ {n : Nat}, k < n → (∀ i, i < n → i ≠ k → f i = 0) → p6_sm n f = f k := by
  intro n
  induction n with
  | zero => intro h; omega
  | succ n ih =>
    intro h h1
    rw [p6_sm]
    by_cases e : k = n
    · subst e
      rw [p6_sm_zero (fun i hi => h1 i (by omega) (by omega)), Nat.zero_add]
    · rw [ih (by omega) (fun i hi => h1 i (by omega)), h1 n (by omega) (by omega), Nat.add_zero]
theorem p6_pr_split (f : Nat → Nat) {k : Nat} : ∀ {n : Nat}, k ≤ n → ∃ r, p6_pr n f = p6_pr k f * r := by
  intro n
  induction n with
  | zero => intro h; exact ⟨1, by rw [show k = 0 by omega]; rfl⟩
  | succ n ih =>
    intro h
    by_cases e : k = n + 1
    · exact ⟨1, by rw [e, Nat.mul_one]⟩
    · obtain ⟨r, hr⟩ := ih (by omega)
      exact ⟨r * f n, by rw [p6_pr, hr, Nat.mul_assoc]⟩
/-- a product whose factors from k on are 1 -/
theorem p6_pr_cut {f : Nat → Nat} {k : Nat} : ∀ {n : Nat}, k ≤ n → (∀ i, k ≤ i → i < n → f i = 1) → p6_pr n f = p6_pr k f := by
  intro n
  induction n with
  | zero => intro h _; rw [show k = 0 by omega]
  | succ n ih =>
    intro h h1
    by_cases e : k = n + 1
    · rw [e]
    · rw [p6_pr, ih (by omega) (fun i a b => h1 i a (by omega)), h1 n (by omega) (by omega), Nat.mul_one]
theorem p6_le_sm {f : Nat → Nat} : ∀ {n i : Nat}, i < n → f i ≤ p6_sm n f := by
  intro n
  induction n with
  | zero => intro i h; omega
  | succ n ih =>
    intro i h
    rw [p6_sm]
    by_cases e : i = n
    · rw [e]; omega
    · have := ih (i := i) (by omega); omega
theorem p6_sm_z {f : Nat → Nat} {n : Nat} (h : p6_sm n f = 0) : ∀ i, i < n → f i = 0 := fun i hi => by
  have := p6_le_sm (f := f) hi
  omega
