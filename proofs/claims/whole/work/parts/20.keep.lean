theorem kp_pass_L {j : Nat} (h1 : j ≠ 21) (h2 : j ≠ 22) (h3 : j ≠ 23) (h4 : j ≠ 25) (h5 : j ≠ 26) : ∀ (n : Nat) (x : Int32) (w : xU), (k_Hall_passNight_L2 n x w).1 j = w.1 j := by
  intro n
  induction n with
  | zero => intro x w; rfl
  | succ n ih =>
    intro x w
    unfold k_Hall_passNight_L2
    split
    · exact sp_ne h1
    · split
      · exact ih _ _
      · dsimp only
        rw [ih, kp_att _ _ _ h1 h2 h3 h4 h5]
theorem kp_pass (u : xU) {j : Nat} (h1 : j ≠ 21) (h2 : j ≠ 22) (h3 : j ≠ 23) (h4 : j ≠ 25) (h5 : j ≠ 26) : (k_Hall_passNight u).1 j = u.1 j := by
  rw [k_Hall_passNight_def]; exact kp_pass_L h1 h2 h3 h4 h5 _ _ _
theorem kp_pass13 (u : xU) : (k_Hall_passNight u).1 13 = u.1 13 := kp_pass u (by decide) (by decide) (by decide) (by decide) (by decide)
theorem kK_pass {u : xU} (h : kK (u.1 26)) : kK ((k_Hall_passNight u).1 26) := by
  have : ∀ (n : Nat) (x : Int32) (w : xU), kK (w.1 26) → kK ((k_Hall_passNight_L2 n x w).1 26) := by
    intro n
    induction n with
    | zero => intro x w h; exact h
    | succ n ih =>
      intro x w h
      unfold k_Hall_passNight_L2
      split
      · dsimp only; rw [sp_ne (by decide)]; exact h
      · split
        · exact ih _ _ h
        · exact ih _ _ (kK_att h)
  rw [k_Hall_passNight_def]; exact this 7 0 u h
