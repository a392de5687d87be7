/-! THE START -/
theorem e_zR (r : Nat) : p4_R (fun _ => 0) (fun _ => 0) r 0 := by
  refine ⟨fun k hk => ?_, 0, by decide, rfl, by decide, fun q => by omega⟩
  rw [p3_dg_z]; rfl
theorem e_zN (i : Nat) : p3_N (fun _ => 0) i 0 := by
  refine ⟨by decide, fun k hk => ?_⟩
  rw [p3_dg_z]; rfl
theorem e_1N : p3_N (vp_updL (fun _ => 0) (cx_ix 0) 1) 0 1 := by
  refine ⟨by decide, fun k hk => ?_⟩
  rcases (show k = 0 ∨ k = 1 ∨ k = 2 ∨ k = 3 by omega) with q | q | q | q <;> subst q
  · exact pk_uLs
  · exact (pk_uLn (by decide)).trans (by decide)
  · exact (pk_uLn (by decide)).trans (by decide)
  · exact (pk_uLn (by decide)).trans (by decide)
theorem e_start : ∃ yf zf, f_J7_fill_d0a16 84 (fun _ => 0) 1 = some yf ∧ f_X9_sets ((fun _ => 0)) ((fun _ => 0)) 1 1 = some zf ∧ i_Inv (st_N yf) (st_M zf) := by
  obtain ⟨yf, a1, a2, a3⟩ := p9_fillL 84 1 (by decide) 84 0 cx_N0 (fun _ => 0) (by decide) (by unfold cx_N0; omega)
  obtain ⟨l', w', b1, b2, b3⟩ := p4_sets (l := fun _ => 0) (w := fun _ => 0) (r := 1) (v := 1) (by decide) (by decide)
  have S0 : p4_S (fun _ => 0) (fun _ => 0) (fun _ => 0) := fun r _ _ => e_zR r
  have S1 := S0.set b2 b3
  refine ⟨yf, (l', w'), a1, b1, ⟨0, 0, 0, 0, 0, ?_, Or.inl rfl⟩, ⟨rfl, fun i hi => ?_⟩, ⟨rfl, Or.inl rfl, fun q => absurd rfl q⟩, ⟨rfl, Or.inl rfl, fun q => absurd rfl q⟩, ⟨0, by decide, rfl, rfl, fun j hj => by omega⟩, ⟨_, S1, ?_, ?_, ?_⟩, fun y hy => a2 (72 + y) (by omega) (by omega), fun y hy => a2 (72 + y) (by omega) (by omega), fun k hk => ⟨0, e_zN k⟩, fun k hk => ⟨0, e_zN k⟩⟩
  · refine ⟨⟨by decide, rfl, rfl, fun j hj => by omega⟩, ⟨by decide, rfl, rfl, fun j hj => by omega⟩, ⟨by decide, rfl, rfl, fun j hj => by omega⟩, ⟨by decide, rfl, rfl, fun j hj => by omega⟩, ⟨by decide, rfl, rfl, fun j hj => by omega⟩, rfl, fun p hp => by omega, fun p hp => by omega, fun p hp => by omega, fun p hp => by omega, fun p hp => by omega, ?_⟩
    exact ⟨show (0 : Int) ≤ (1 : Int32).toInt by decide, show (1 : Int32).toInt ≤ 9 by decide⟩
  · rfl
  · rw [p4_un (by decide)]; exact e_zN 0
  · rw [p4_us]; exact e_1N
  · rw [p4_us]; decide
