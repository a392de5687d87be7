/-! READ: what lies behind the book is left alone -/
def t_Fr (bk : Nat → Int32) (o : Option (Int32 × (Nat → Int32) × (Nat → Int32))) : Prop := ∀ y, o = some y → ∀ j, 140 ≤ j → y.2.1 j = bk j
theorem t_Fr_some {bk b r : Nat → Int32} {a : Int32} (h : ∀ j, 140 ≤ j → b j = bk j) : t_Fr bk (some (a, b, r)) := by
  intro y hy
  injection hy with hy
  rw [← hy]
  exact h
theorem t_Fr_gd {bk : Nat → Int32} {b : Bool} {x : Option (Int32 × (Nat → Int32) × (Nat → Int32))} (h : b = true → t_Fr bk x) : t_Fr bk (cx_gd b x) := by
  intro y hy
  cases b with
  | true => exact h rfl y hy
  | false => exact absurd hy (by intro q; cases q)
theorem t_Fr_if {bk : Nat → Int32} {c : Prop} [Decidable c] {x y : Option (Int32 × (Nat → Int32) × (Nat → Int32))} (h1 : t_Fr bk x) (h2 : t_Fr bk y) : t_Fr bk (if c then x else y) := by
  split
  · exact h1
  · exact h2
theorem t_Fr_bind {bk : Nat → Int32} {A : Type} {o : Option A} {f : A → Option (Int32 × (Nat → Int32) × (Nat → Int32))} (h : ∀ u, t_Fr bk (f u)) : t_Fr bk (Option.bind o f) := by
  intro y hy
  cases o with
  | none => cases hy
  | some u => exact h u y hy
theorem t_Fr_upd {bk a : Nat → Int32} {v x : Int32} (h : cx_ib v 140 = true) (h2 : ∀ j, 140 ≤ j → a j = bk j) : ∀ j, 140 ≤ j → upd a (cx_ix v) x j = bk j := by
  intro j hj
  have : cx_ix v < 140 := by
    have h3 : 0 ≤ v.toInt ∧ v.toInt < ((140 : Nat) : Int) := of_decide_eq_true h
    have h4 := (p7_ix h3.1).2
    omega
  rw [p2_un (by omega)]
  exact h2 j hj
theorem t_Fr_person (bk rf : Nat → Int32) (q a b c d : Int32) : t_Fr bk (f_X9_person bk rf q a b c d) := by
  unfold f_X9_person f_X9_person_J50
  simp only [cx_let]
  repeat' first
    | with_reducible refine t_Fr_bind (fun u => ?_)
    | with_reducible refine t_Fr_if ?_ ?_
    | with_reducible refine t_Fr_gd (fun h => ?_)
    | with_reducible refine t_Fr_some ?_
    | with_reducible refine t_Fr_upd (by assumption) ?_
    | with_reducible exact fun _ _ => rfl
theorem t_Fr_p92 (bk rf : Nat → Int32) (q a b s : Int32) : t_Fr bk (f_X9_parent_J92 bk rf q a b s) := by
  unfold f_X9_parent_J92
  simp only [cx_let]
  repeat' first
    | with_reducible refine t_Fr_bind (fun u => ?_)
    | with_reducible refine t_Fr_if ?_ ?_
    | with_reducible refine t_Fr_gd (fun h => ?_)
    | with_reducible refine t_Fr_some ?_
    | with_reducible refine t_Fr_upd (by assumption) ?_
    | with_reducible exact fun _ _ => rfl
theorem t_Fr_p74 (bk rf : Nat → Int32) (q a b s : Int32) : t_Fr bk (f_X9_parent_J74 bk rf q a b s) := by
  unfold f_X9_parent_J74
  exact t_Fr_bind (fun u => t_Fr_bind (fun w => t_Fr_if (t_Fr_p92 bk rf q a b 0) (t_Fr_p92 bk rf q a b 1)))
theorem t_Fr_p51 (bk rf : Nat → Int32) (q a b s : Int32) : t_Fr bk (f_X9_parent_J51 bk rf q a b s) := by
  unfold f_X9_parent_J51
  exact t_Fr_bind (fun u => t_Fr_bind (fun w => t_Fr_if (t_Fr_p92 bk rf q a b 0) (t_Fr_if (t_Fr_p74 bk rf q a b b) (t_Fr_p74 bk rf q a b 0))))
theorem t_Fr_p31 (bk rf : Nat → Int32) (q a b s : Int32) : t_Fr bk (f_X9_parent_J31 bk rf q a b s) := by
  unfold f_X9_parent_J31
  exact t_Fr_if (t_Fr_p92 bk rf q a b 0) (t_Fr_if (t_Fr_p92 bk rf q a b 1) (t_Fr_if (t_Fr_p51 bk rf q a b b) (t_Fr_p51 bk rf q a b 0)))
theorem t_Fr_parent (bk rf : Nat → Int32) (q a b : Int32) : t_Fr bk (f_X9_parent bk rf q a b) := by
  unfold f_X9_parent
  exact t_Fr_bind (fun u => t_Fr_if (t_Fr_p31 bk rf q a b 0) (t_Fr_if (t_Fr_p31 bk rf q a b 1) (t_Fr_bind (fun w => t_Fr_if (t_Fr_p31 bk rf q a b 0) (t_Fr_p31 bk rf q a b 1)))))
theorem t_Fr_near (bk rf : Nat → Int32) (q a b : Int32) : t_Fr bk (f_X9_near bk rf q a b) := by
  unfold f_X9_near f_X9_near_J20
  simp only [cx_let]
  repeat' first
    | with_reducible refine t_Fr_bind (fun u => ?_)
    | with_reducible refine t_Fr_if ?_ ?_
    | with_reducible refine t_Fr_gd (fun h => ?_)
    | with_reducible refine t_Fr_some ?_
    | with_reducible refine t_Fr_upd (by assumption) ?_
    | with_reducible exact fun _ _ => rfl
theorem t_Fr_picture (bk rf : Nat → Int32) (q a b : Int32) : t_Fr bk (f_X9_picture bk rf q a b) := by
  unfold f_X9_picture f_X9_picture_J33
  simp only [cx_let]
  repeat' first
    | with_reducible refine t_Fr_bind (fun u => ?_)
    | with_reducible refine t_Fr_if ?_ ?_
    | with_reducible refine t_Fr_gd (fun h => ?_)
    | with_reducible refine t_Fr_some ?_
    | with_reducible refine t_Fr_upd (by assumption) ?_
    | with_reducible exact fun _ _ => rfl
theorem t_Fr_head (bk rf : Nat → Int32) (q a b c d e : Int32) : t_Fr bk (f_X9_head bk rf q a b c d e) := by
  unfold f_X9_head f_X9_head_J58
  simp only [cx_let]
  repeat' first
    | with_reducible refine t_Fr_bind (fun u => ?_)
    | with_reducible refine t_Fr_if ?_ ?_
    | with_reducible refine t_Fr_gd (fun h => ?_)
    | with_reducible refine t_Fr_some ?_
    | with_reducible refine t_Fr_upd (by assumption) ?_
    | with_reducible exact fun _ _ => rfl
theorem t_Fr_name (bk rf : Nat → Int32) (q a b c d : Int32) : t_Fr bk (f_X9_name bk rf q a b c d) := by
  unfold f_X9_name f_X9_name_J37
  simp only [cx_let]
  repeat' first
    | with_reducible refine t_Fr_bind (fun u => ?_)
    | with_reducible refine t_Fr_if ?_ ?_
    | with_reducible refine t_Fr_gd (fun h => ?_)
    | with_reducible refine t_Fr_some ?_
    | with_reducible refine t_Fr_upd (by assumption) ?_
    | with_reducible exact fun _ _ => rfl
theorem t_Fr_join (bk rf : Nat → Int32) (q a b c : Int32) : t_Fr bk (f_X9_join bk rf q a b c) := by
  unfold f_X9_join f_X9_join_J43
  simp only [cx_let]
  repeat' first
    | with_reducible refine t_Fr_bind (fun u => ?_)
    | with_reducible refine t_Fr_if ?_ ?_
    | with_reducible refine t_Fr_gd (fun h => ?_)
    | with_reducible refine t_Fr_some ?_
    | with_reducible refine t_Fr_upd (by assumption) ?_
    | with_reducible exact fun _ _ => rfl
theorem t_Fr_strange (bk rf : Nat → Int32) (q a : Int32) : t_Fr bk (f_X9_strange bk rf q a) := by
  unfold f_X9_strange
  simp only [cx_let]
  repeat' first
    | with_reducible refine t_Fr_bind (fun u => ?_)
    | with_reducible refine t_Fr_if ?_ ?_
    | with_reducible refine t_Fr_gd (fun h => ?_)
    | with_reducible refine t_Fr_some ?_
    | with_reducible refine t_Fr_upd (by assumption) ?_
    | with_reducible exact fun _ _ => rfl
theorem t_Fr_J196 {bk : Nat → Int32} {o : Option (Int32 × (Nat → Int32) × (Nat → Int32))} (h : t_Fr bk o) : t_Fr bk (Option.bind o (fun u => f_X9_tellsItem_J196 u.2.1 u.2.2 u.1)) := by
  cases o with
  | none => intro y hy; cases hy
  | some u =>
    intro y hy
    have hy : f_X9_tellsItem_J196 u.2.1 u.2.2 u.1 = some y := hy
    unfold f_X9_tellsItem_J196 at hy
    split at hy
    · injection hy with hy; rw [← hy]; exact h u rfl
    · injection hy with hy; rw [← hy]; exact h u rfl
theorem t_Fr_tells (bk rf items : Nat → Int32) (q x : Int32) : t_Fr bk (f_X9_tellsItem bk rf q items x) := by
  unfold f_X9_tellsItem
  simp only [cx_let]
  exact t_Fr_gd (fun _ => t_Fr_gd (fun _ => t_Fr_gd (fun _ => t_Fr_gd (fun _ => t_Fr_gd (fun _ => t_Fr_if (t_Fr_J196 (t_Fr_person bk rf q _ _ _ _)) (t_Fr_if (t_Fr_J196 (t_Fr_parent bk rf q _ _)) (t_Fr_if (t_Fr_J196 (t_Fr_near bk rf q _ _)) (t_Fr_if (t_Fr_J196 (t_Fr_picture bk rf q _ _)) (t_Fr_if (t_Fr_gd (fun _ => t_Fr_J196 (t_Fr_head bk rf q _ _ _ _ _))) (t_Fr_if (t_Fr_J196 (t_Fr_name bk rf q _ _ _ _)) (t_Fr_if (t_Fr_J196 (t_Fr_join bk rf q _ _ _)) (t_Fr_J196 (t_Fr_strange bk rf q _)))))))))))))
