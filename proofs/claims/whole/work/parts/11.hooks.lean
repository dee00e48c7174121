theorem b2i_ne {b : Bool} (h : ¬ b2i b = 0) : b = true := by
  cases b
  · exact absurd rfl h
  · rfl
theorem hk_in {v lo hi : Int32} (h : ¬ b2i (m_in v lo hi) = 0) : lo.toInt ≤ v.toInt ∧ v.toInt ≤ hi.toInt := by
  have h := b2i_ne h
  unfold m_in at h
  split at h
  · exact absurd h (by decide)
  · rename_i h1
    split at h
    · exact absurd h (by decide)
    · rename_i h2
      exact ⟨xq_nlt h1 rfl rfl, xq_nlt h2 rfl rfl⟩
theorem hk_in' {v lo hi : Int32} {a b c : Int} (h : ¬ b2i (m_in v lo hi) = 0) (hv : v.toInt = a) (hl : lo.toInt = b) (hh : hi.toInt = c) : b ≤ a ∧ a ≤ c := by
  have := hk_in h
  omega
theorem hk_isThing {u : xU} {t : Int32} (h : ¬ b2i (k_Hall_isThing u t) = 0) : 0 ≤ t.toInt ∧ t.toInt < (u.1 13 0).toInt := by
  have h := b2i_ne h
  unfold k_Hall_isThing at h
  split at h
  · exact absurd h (by decide)
  · rename_i h1
    split at h
    · exact absurd h (by decide)
    · rename_i h2
      exact ⟨xq_nlt h1 rfl rfl, xq_nle h2 rfl rfl⟩
theorem hk_isCast {u : xU} {t : Int32} (h : ¬ b2i (k_Hall_isCast u t) = 0) : 0 ≤ t.toInt ∧ t.toInt < (u.1 13 1).toInt := by
  have h := b2i_ne h
  unfold k_Hall_isCast at h
  split at h
  · exact absurd h (by decide)
  · rename_i h1
    split at h
    · exact absurd h (by decide)
    · rename_i h2
      exact ⟨xq_nlt h1 rfl rfl, xq_nle h2 rfl rfl⟩
theorem hk_mThing {u : xU} {t : Int32} (hT : 0 ≤ (u.1 0 0).toInt ∧ (u.1 0 0).toInt ≤ 8) (h : ¬ b2i (m_isThing u t) = 0) : 0 ≤ t.toInt ∧ t.toInt < (u.1 0 0).toInt := by
  have h1 := hk_in (v := t) (lo := 0) (hi := u.1 0 0 - 1) h
  have h2 : (u.1 0 0 - 1).toInt = (u.1 0 0).toInt - 1 := xsub rfl rfl (by omega) (by omega)
  have h3 : (0 : Int32).toInt = 0 := rfl
  omega
theorem hk_mCast {u : xU} {t : Int32} (hT : 0 ≤ (u.1 0 5).toInt ∧ (u.1 0 5).toInt ≤ 6) (h : ¬ b2i (m_isCast u t) = 0) : 0 ≤ t.toInt ∧ t.toInt < (u.1 0 5).toInt := by
  have h1 := hk_in (v := t) (lo := 0) (hi := u.1 0 5 - 1) h
  have h2 : (u.1 0 5 - 1).toInt = (u.1 0 5).toInt - 1 := xsub rfl rfl (by omega) (by omega)
  have h3 : (0 : Int32).toInt = 0 := rfl
  omega
theorem k_cd_ne (a b : Int32) : ¬ k_commonDivisor a b = 0 := by
  have : ∀ (n : Nat) (x y z : Int32), 0 ≤ z.toInt → (64 - z.toInt < (n : Int) ∧ 1 ≤ n) → ¬ k_commonDivisor_L7 n x y z = 0 := by
    intro n
    induction n with
    | zero => intro x y z h1 h2; exact absurd h2.2 (by decide)
    | succ n ih =>
      intro x y z h1 h2
      unfold k_commonDivisor_L7
      split
      · exact xmx1
      · rename_i h3
        have h3 : z.toInt < 64 := xq_nle h3 rfl rfl
        split
        · exact xmx1
        · have h4 : (z + 1).toInt = z.toInt + 1 := xadd rfl rfl (by omega) (by omega)
          exact ih _ _ _ (by omega) (by constructor <;> omega)
  exact this 65 b a 0 (by decide) (by decide)
