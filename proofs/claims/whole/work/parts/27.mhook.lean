theorem hk_lt {u : xU} {k : Int32} (h : 0 ≤ (m_letterAt u k).toInt) : k.toInt < (u.1 0 15).toInt := by
  unfold m_letterAt at h
  split at h
  · exact absurd h (by decide)
  · rename_i g
    exact xq_nle g rfl rfl
theorem hk_l32 {u : xU} {k : Int32} (h : m_letterAt u k = 32) : k.toInt < (u.1 0 15).toInt := hk_lt (by rw [h]; decide)
theorem hk_l0 {u : xU} {k : Int32} (h : 0 ≤ m_letterAt u k) : k.toInt < (u.1 0 15).toInt := hk_lt (xq_le h rfl rfl)
theorem hk_lf {u : xU} {k : Int32} (h : ¬ b2i (m_isFigure (m_letterAt u k)) = 0) : k.toInt < (u.1 0 15).toInt := hk_lt (by
  have := hk_in (v := m_letterAt u k) (lo := 48) (hi := 57) h
  have h2 : (48 : Int32).toInt = 48 := rfl
  omega)
theorem hk_ll {u : xU} {k : Int32} (h : ¬ b2i (m_isLetter (m_letterAt u k)) = 0) : k.toInt < (u.1 0 15).toInt := hk_lt (by
  have := hk_in (v := m_letterAt u k) (lo := 97) (hi := 122) h
  have h2 : (97 : Int32).toInt = 97 := rfl
  omega)
theorem upd74 {f : Nat → Int32} {i x : Int32} (h : 75 ≤ i.toInt) : upd f i.toNatClampNeg x 74 = f 74 := pk_un (by show 74 ≠ i.toInt.toNat; omega)
