theorem sp_ne {u : xU} {k j : Nat} {f : Nat → Int32} (h : j ≠ k) : (sp u k f).1 j = u.1 j := if_neg h
theorem sp_eq {u : xU} {k : Nat} {f : Nat → Int32} : (sp u k f).1 k = f := if_pos rfl
theorem kp_wr28 (u : xU) (p : Int32) {j : Nat} (h : j ≠ 28) : (k_Moment_writeTo_21_28 u p).1 j = u.1 j := by
  rw [k_Moment_writeTo_21_28_def]; unfold k_Moment_writeTo_21_28_b; simp only [sp_ne h]
theorem kp_rem (u : xU) {j : Nat} (h : j ≠ 27) (h' : j ≠ 28) : (k_Past_remember u).1 j = u.1 j := by
  rw [k_Past_remember_def]; unfold k_Past_remember_b; simp only [sp_ne h, kp_wr28 _ _ h']
theorem kp_rem13 (u : xU) : (k_Past_remember u).1 13 = u.1 13 := kp_rem u (by decide) (by decide)
theorem kp_att (u : xU) (c t : Int32) {j : Nat} (h1 : j ≠ 21) (h2 : j ≠ 22) (h3 : j ≠ 23) (h4 : j ≠ 25) (h5 : j ≠ 26) : (k_Hall_attend u c t).1 j = u.1 j := by
  rw [k_Hall_attend_def]; unfold k_Hall_attend_b; dsimp only
  split
  · split
    · simp only [sp_ne h2, sp_ne h4]
    · simp only [sp_ne h2, sp_ne h3, sp_ne h4, sp_ne h5]
  · simp only [sp_ne h1, sp_ne h2, sp_ne h4, sp_ne h5]
theorem kp_att13 (u : xU) (c t : Int32) : (k_Hall_attend u c t).1 13 = u.1 13 := kp_att u c t (by decide) (by decide) (by decide) (by decide) (by decide)
def kK (f : Nat → Int32) : Prop := ∀ i : Nat, i < 6 → -1 ≤ (f i).toInt ∧ (f i).toInt < 8
theorem kK_at {f : Nat → Int32} {c : Int32} (h : kK f) (h0 : 0 ≤ c.toInt) (h1 : c.toInt < 6) : -1 ≤ (f c.toNatClampNeg).toInt ∧ (f c.toNatClampNeg).toInt < 8 := h _ (by show c.toInt.toNat < 6; omega)
theorem kK_upd {f : Nat → Int32} {i : Nat} {x : Int32} (h : kK f) (hx : -1 ≤ x.toInt ∧ x.toInt < 8) : kK (upd f i x) := by
  intro j hj
  unfold upd
  split
  · exact hx
  · exact h j hj
theorem kK_att {u : xU} {c t : Int32} (h : kK (u.1 26)) : kK ((k_Hall_attend u c t).1 26) := by
  rw [k_Hall_attend_def]; unfold k_Hall_attend_b; dsimp only
  split
  · split
    · rw [sp_ne (by decide), sp_ne (by decide)]; exact h
    · rw [sp_eq]; exact kK_upd h (by decide)
  · rw [sp_eq]; exact kK_upd h (by decide)
theorem kK_rem {u : xU} (h : kK (u.1 26)) : kK ((k_Past_remember u).1 26) := by rw [kp_rem u (by decide) (by decide)]; exact h
theorem kp_reckon_L (x1 x2 : Int32) {j : Nat} (h1 : j ≠ 39) (h2 : j ≠ 40) : ∀ (n : Nat) (x : Int32) (w : xU), (k_Planner_reckon_L19 x1 x2 n x w).1 j = w.1 j := by
  intro n
  induction n with
  | zero => intro x w; rfl
  | succ n ih =>
    intro x w
    unfold k_Planner_reckon_L19
    split
    · rfl
    · dsimp only
      split
      · rw [ih, sp_ne h2, sp_ne h1]
      · rw [ih, sp_ne h2, sp_ne h1]
theorem kp_reckon (u : xU) (c : Int32) {j : Nat} (h1 : j ≠ 39) (h2 : j ≠ 40) : (k_Planner_reckon u c).1 j = u.1 j := by
  rw [k_Planner_reckon_def]; exact kp_reckon_L _ _ h1 h2 _ _ _
theorem kp_reckon13 (u : xU) (c : Int32) : (k_Planner_reckon u c).1 13 = u.1 13 := kp_reckon u c (by decide) (by decide)
theorem kp_weigh_75 (kk : Int32 → xU → xU) (x2 x3 : Int32) {j : Nat} (h1 : j ≠ 42) (hk : ∀ z w, (kk z w).1 j = w.1 j) : ∀ (n : Nat) (x : Int32) (w : xU), (k_Owners_weigh_L75 kk x2 x3 n x w).1 j = w.1 j := by
  intro n
  induction n with
  | zero => intro x w; rfl
  | succ n ih =>
    intro x w
    unfold k_Owners_weigh_L75
    split
    · exact hk _ _
    · dsimp only
      rw [ih, sp_ne h1]
theorem kp_weigh_54 (x2 : Int32) {j : Nat} (h1 : j ≠ 42) (h2 : j ≠ 43) : ∀ (n : Nat) (x : Int32) (w : xU), (k_Owners_weigh_L54 x2 n x w).1 j = w.1 j := by
  intro n
  induction n with
  | zero => intro x w; rfl
  | succ n ih =>
    intro x w
    unfold k_Owners_weigh_L54
    split
    · rfl
    · dsimp only
      rw [kp_weigh_75 _ _ _ h1 (fun z w => ih z w), sp_ne h2]
theorem kp_weigh_26 (x1 x2 : Int32) {j : Nat} (h1 : j ≠ 42) (h2 : j ≠ 43) : ∀ (n : Nat) (x : Int32) (w : xU), (k_Owners_weigh_L26 x1 x2 n x w).1 j = w.1 j := by
  intro n
  induction n with
  | zero => intro x w; rfl
  | succ n ih =>
    intro x w
    unfold k_Owners_weigh_L26
    split
    · exact kp_weigh_54 _ h1 h2 _ _ _
    · dsimp only
      rw [ih, sp_ne h1]
theorem kp_weigh (u : xU) {j : Nat} (h1 : j ≠ 42) (h2 : j ≠ 43) : (k_Owners_weigh u).1 j = u.1 j := by
  rw [k_Owners_weigh_def]; exact kp_weigh_26 _ _ h1 h2 _ _ _
theorem kp_weigh13 (u : xU) : (k_Owners_weigh u).1 13 = u.1 13 := kp_weigh u (by decide) (by decide)
theorem lr_b {u : xU} {c : Int32} (hT : 0 ≤ (u.1 13 0).toInt ∧ (u.1 13 0).toInt ≤ 8) : 0 ≤ (k_Planner_learnable u c).toInt ∧ (k_Planner_learnable u c).toInt < 256 := by
  have : ∀ (n : Nat) (x y : Int32), 0 ≤ y.toInt → 0 ≤ x.toInt ∧ x.toInt < 256 → 0 ≤ (k_Planner_learnable_L4 u c n x y).toInt ∧ (k_Planner_learnable_L4 u c n x y).toInt < 256 := by
    intro n
    induction n with
    | zero => intro x y h1 h2; exact (show 0 ≤ (0 : Int32).toInt ∧ (0 : Int32).toInt < 256 by decide)
    | succ n ih =>
      intro x y h1 h2
      unfold k_Planner_learnable_L4
      split
      · exact h2
      · rename_i h3
        have h3 : y.toInt < (u.1 13 0).toInt := xq_nle h3 rfl rfl
        have h4 : (y + 1).toInt = y.toInt + 1 := xadd rfl rfl (by omega) (by omega)
        have h5 := xsh1 (t := y) h1 (by omega)
        have h6 := xor8 h2.1 h2.2 h5.1 h5.2
        split
        · split
          · exact ih _ _ (by omega) h6
          · exact ih _ _ (by omega) h2
        · exact ih _ _ (by omega) h2
  exact this 9 0 0 (by decide) (by decide)
theorem hk_firstOf {u : xU} {c t : Int32} (hT : 0 ≤ (u.1 13 0).toInt ∧ (u.1 13 0).toInt ≤ 8) (h : ¬ k_Owners_firstOf u c t = -9) : 0 ≤ (k_Owners_firstOf u c t).toInt ∧ (k_Owners_firstOf u c t).toInt < 8 := by
  have : ∀ (n : Nat) (x1 x2 x3 x4 y : Int32), 0 ≤ y.toInt → k_Owners_firstOf_L28 u x1 x2 x3 x4 n y = -9 ∨ (0 ≤ (k_Owners_firstOf_L28 u x1 x2 x3 x4 n y).toInt ∧ (k_Owners_firstOf_L28 u x1 x2 x3 x4 n y).toInt < 8) := by
    intro n
    induction n with
    | zero => intro x1 x2 x3 x4 y h1; exact Or.inr (show 0 ≤ (0 : Int32).toInt ∧ (0 : Int32).toInt < 8 by decide)
    | succ n ih =>
      intro x1 x2 x3 x4 y h1
      unfold k_Owners_firstOf_L28
      split
      · exact Or.inl rfl
      · rename_i h3
        have h3 : y.toInt < (u.1 13 0).toInt := xq_nle h3 rfl rfl
        have h4 : (y + 1).toInt = y.toInt + 1 := xadd rfl rfl (by omega) (by omega)
        split
        · exact ih _ _ _ _ _ (by omega)
        · split
          · exact Or.inr ⟨h1, by omega⟩
          · exact ih _ _ _ _ _ (by omega)
  rcases this 9 c t _ _ 0 (by decide) with g | g
  · exact absurd g h
  · exact g
