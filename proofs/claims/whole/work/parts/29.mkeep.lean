theorem kp_mrem_L70 (x1 : Int32) {k : Nat} (h : k ≠ 7) : ∀ (n : Nat) (x : Int32) (w : xU), (m_remembers_L70 x1 n x w).1 k = w.1 k := by
  intro n
  induction n with
  | zero => intro x w; rfl
  | succ n ih =>
    intro x w
    unfold m_remembers_L70
    split
    · exact sp_ne h
    · dsimp only; rw [ih, sp_ne h]
theorem kp_mrem_L15 {k : Nat} (h : k ≠ 7) : ∀ (n : Nat) (x : Int32) (w : xU), (m_remembers_L15 n x w).1 k = w.1 k := by
  intro n
  induction n with
  | zero => intro x w; rfl
  | succ n ih =>
    intro x w
    unfold m_remembers_L15
    split
    · dsimp only; rw [kp_mrem_L70 _ h, sp_ne h]
    · dsimp only; rw [ih, sp_ne h]
theorem kp_mrem (u : xU) {k : Nat} (h : k ≠ 7) : (m_remembers u).1 k = u.1 k := by
  rw [m_remembers_def]; unfold m_remembers_b
  split
  · exact kp_mrem_L15 h _ _ _
  · exact kp_mrem_L70 _ h _ _ _
theorem kp_mrem0 (u : xU) : (m_remembers u).1 0 = u.1 0 := kp_mrem u (by decide)
theorem mrem_lo_L70 (x1 : Int32) (hx : 75 ≤ x1.toInt ∧ x1.toInt ≤ 741) {j : Nat} (h : j < 74) : ∀ (n : Nat) (x : Int32) (w : xU), 0 ≤ x.toInt → (m_remembers_L70 x1 n x w).1 7 j = w.1 7 j := by
  intro n
  induction n with
  | zero => intro x w _; rfl
  | succ n ih =>
    intro x w h0
    unfold m_remembers_L70
    split
    · rw [sp_eq, pk_un (by omega)]
    · rename_i hc
      have hc : x.toInt < 74 := xq_nle hc rfl rfl
      have e1 : (x + 1).toInt = x.toInt + 1 := xadd rfl rfl (by omega) (by omega)
      have e2 : (x1 + x).toInt = x1.toInt + x.toInt := xadd rfl rfl (by omega) (by omega)
      dsimp only
      rw [ih _ _ (by omega), sp_eq, pk_un (by show j ≠ (x1 + x).toInt.toNat; omega)]
theorem mrem_lo_L15 {j : Nat} (h : j < 74) : ∀ (n : Nat) (x : Int32) (w : xU), 75 ≤ x.toInt → (w.1 7 74).toInt = 10 → (m_remembers_L15 n x w).1 7 j = w.1 7 j := by
  intro n
  induction n with
  | zero => intro x w _ _; rfl
  | succ n ih =>
    intro x w h0 h10
    unfold m_remembers_L15
    split
    · dsimp only
      have e1 : (w.1 7 74 - 1).toInt = (w.1 7 74).toInt - 1 := xsub rfl rfl (by omega) (by omega)
      have e2 : ((74 : Int32) * (w.1 7 74 - 1)).toInt = 74 * ((w.1 7 74).toInt - 1) := xmul rfl e1 (by omega) (by omega)
      have e3 : ((75 : Int32) + (74 : Int32) * (w.1 7 74 - 1)).toInt = 75 + 74 * ((w.1 7 74).toInt - 1) := xadd rfl e2 (by omega) (by omega)
      rw [mrem_lo_L70 _ (by rw [sp_eq, pk_us, e3]; omega) h _ _ _ (by decide), sp_eq, pk_un (by omega)]
    · rename_i hc
      have hc : x.toInt < 741 := xq_nle hc rfl rfl
      have e1 : (x + 1).toInt = x.toInt + 1 := xadd rfl rfl (by omega) (by omega)
      dsimp only
      rw [ih _ _ (by omega) (by rw [sp_eq, upd74 h0]; exact h10), sp_eq, pk_un (by show j ≠ x.toInt.toNat; omega)]
theorem mrem_lo (u : xU) (hU : 0 ≤ (u.1 7 74).toInt ∧ (u.1 7 74).toInt ≤ 10) {j : Nat} (h : j < 74) : (m_remembers u).1 7 j = u.1 7 j := by
  rw [m_remembers_def]; unfold m_remembers_b
  split
  · rename_i hc
    exact mrem_lo_L15 h _ _ _ (by decide) (xq_eq hc rfl rfl)
  · rename_i hc
    have hc : ¬ (u.1 7 74).toInt = 10 := xq_ne hc rfl rfl
    have e2 : ((74 : Int32) * (u.1 7 74)).toInt = 74 * (u.1 7 74).toInt := xmul rfl rfl (by have : (74 : Int32).toInt = 74 := rfl; omega) (by have : (74 : Int32).toInt = 74 := rfl; omega)
    have e3 : ((75 : Int32) + (74 : Int32) * (u.1 7 74)).toInt = 75 + 74 * (u.1 7 74).toInt := xadd rfl e2 (by omega) (by omega)
    exact mrem_lo_L70 _ (by rw [e3]; omega) h _ _ _ (by decide)
def mK (f : Nat → Int32) : Prop := ∀ i : Nat, i < 6 → (f (68 + i)).toInt = -9 ∨ (0 ≤ (f (68 + i)).toInt ∧ (f (68 + i)).toInt < 8)
theorem mK_at {f : Nat → Int32} {c : Int32} (h : mK f) (h0 : 0 ≤ c.toInt) (h1 : c.toInt < 6) : (f ((68 : Int32) + c).toNatClampNeg).toInt = -9 ∨ (0 ≤ (f ((68 : Int32) + c).toNatClampNeg).toInt ∧ (f ((68 : Int32) + c).toNatClampNeg).toInt < 8) := by
  have e : ((68 : Int32) + c).toInt = 68 + c.toInt := xadd rfl rfl (by omega) (by omega)
  have e2 : ((68 : Int32) + c).toNatClampNeg = 68 + c.toInt.toNat := by show ((68 : Int32) + c).toInt.toNat = _; rw [e]; omega
  rw [e2]
  exact h _ (by omega)
theorem mK_out {f : Nat → Int32} {i : Nat} {x : Int32} (h : mK f) (hi : i < 68 ∨ 74 ≤ i) : mK (upd f i x) := by
  intro j hj
  rw [pk_un (by omega)]
  exact h j hj
theorem mK_in {f : Nat → Int32} {i : Nat} {x : Int32} (h : mK f) (hx : x.toInt = -9 ∨ (0 ≤ x.toInt ∧ x.toInt < 8)) : mK (upd f i x) := by
  intro j hj
  by_cases e : 68 + j = i
  · rw [e, pk_us]; exact hx
  · rw [pk_un e]; exact h j hj
theorem mK_rem {u : xU} (hU : 0 ≤ (u.1 7 74).toInt ∧ (u.1 7 74).toInt ≤ 10) (h : mK (u.1 7)) : mK ((m_remembers u).1 7) := by
  intro j hj
  rw [mrem_lo u hU (by omega)]
  exact h j hj
theorem kp_learns (u : xU) (c t : Int32) {k : Nat} (h : k ≠ 7) : (m_learns u c t).1 k = u.1 k := by
  rw [m_learns_def]; unfold m_learns_b; dsimp only
  split
  · split
    · simp only [sp_ne h]
    · simp only [sp_ne h]
  · simp only [sp_ne h]
theorem kp_learns0 (u : xU) (c t : Int32) : (m_learns u c t).1 0 = u.1 0 := kp_learns u c t (by decide)
theorem mK_learns {u : xU} {c t : Int32} (hc : 0 ≤ c.toInt ∧ c.toInt < 6) (ht : 0 ≤ t.toInt ∧ t.toInt < 8) (h : mK (u.1 7)) : mK ((m_learns u c t).1 7) := by
  have e1 : ((8 : Int32) * c).toInt = 8 * c.toInt := xmul rfl rfl (by have : (8 : Int32).toInt = 8 := rfl; omega) (by have : (8 : Int32).toInt = 8 := rfl; omega)
  have e2 : ((1 : Int32) + (8 : Int32) * c).toInt = 1 + 8 * c.toInt := xadd rfl e1 (by omega) (by omega)
  have e3 : ((1 : Int32) + (8 : Int32) * c + t).toInt = 1 + 8 * c.toInt + t.toInt := xadd e2 rfl (by omega) (by omega)
  have e4 : ((61 : Int32) + c).toInt = 61 + c.toInt := xadd rfl rfl (by omega) (by omega)
  have e5 : ((49 : Int32) + c).toInt = 49 + c.toInt := xadd rfl rfl (by omega) (by omega)
  have i1 : ((1 : Int32) + (8 : Int32) * c + t).toNatClampNeg < 68 := by show ((1 : Int32) + (8 : Int32) * c + t).toInt.toNat < 68; omega
  have i2 : ((61 : Int32) + c).toNatClampNeg < 68 := by show ((61 : Int32) + c).toInt.toNat < 68; omega
  have i3 : ((49 : Int32) + c).toNatClampNeg < 68 := by show ((49 : Int32) + c).toInt.toNat < 68; omega
  rw [m_learns_def]; unfold m_learns_b; dsimp only
  split
  · split
    · simp only [sp_eq]
      exact mK_in (mK_out (mK_out (mK_out (mK_out h (Or.inl i1)) (Or.inl i2)) (Or.inl (by decide))) (Or.inl i3)) (Or.inr ht)
    · simp only [sp_eq]
      exact mK_in (mK_out (mK_out (mK_out (mK_out h (Or.inl i1)) (Or.inl i2)) (Or.inl (by decide))) (Or.inl i3)) (Or.inl (by decide))
  · simp only [sp_eq]
    exact mK_in (mK_out (mK_out (mK_out (mK_out h (Or.inl i1)) (Or.inl i2)) (Or.inl (by decide))) (Or.inl i3)) (Or.inl (by decide))
theorem kp_lay_69 (kk : Int32 → xU → xU) (w : xU) (x1 x2 : Int32) {k : Nat} (h : k ≠ 19) (hk : ∀ z v, (kk z v).1 k = v.1 k) : ∀ (n : Nat) (x3 x4 : Int32), (m_layMost_L69 kk w x1 x2 n x3 x4).1 k = w.1 k := by
  intro n
  induction n with
  | zero => intro x3 x4; rfl
  | succ n ih =>
    intro x3 x4
    unfold m_layMost_L69
    dsimp only
    repeat' split
    all_goals first | exact ih _ _ | (rw [hk, sp_ne h])
theorem kp_lay_44 (kk : Int32 → xU → xU) (x1 : Int32) {k : Nat} (h : k ≠ 19) (hk : ∀ z v, (kk z v).1 k = v.1 k) : ∀ (n : Nat) (x2 : Int32) (w : xU), (m_layMost_L44 kk x1 n x2 w).1 k = w.1 k := by
  intro n
  induction n with
  | zero => intro x2 w; rfl
  | succ n ih =>
    intro x2 w
    unfold m_layMost_L44
    split
    · exact hk _ _
    · exact kp_lay_69 _ _ _ _ h (fun z v => ih z v) _ _ _
theorem kp_lay_38 {k : Nat} (h : k ≠ 19) : ∀ (n : Nat) (x1 : Int32) (w : xU), (m_layMost_L38 n x1 w).1 k = w.1 k := by
  intro n
  induction n with
  | zero => intro x1 w; rfl
  | succ n ih =>
    intro x1 w
    unfold m_layMost_L38
    split
    · rfl
    · exact kp_lay_44 _ _ h (fun z v => ih z v) _ _ _
theorem kp_lay_2 {k : Nat} (h : k ≠ 19) : ∀ (n : Nat) (x1 : Int32) (w : xU), (m_layMost_L2 n x1 w).1 k = w.1 k := by
  intro n
  induction n with
  | zero => intro x1 w; rfl
  | succ n ih =>
    intro x1 w
    unfold m_layMost_L2
    split
    · exact kp_lay_38 h _ _ _
    · dsimp only; rw [ih, sp_ne h]
theorem kp_lay (u : xU) {k : Nat} (h : k ≠ 19) : (m_layMost u).1 k = u.1 k := by
  rw [m_layMost_def]
  unfold m_layMost_b
  rw [kp_lay_2 h]
theorem kp_lay0 (u : xU) : (m_layMost u).1 0 = u.1 0 := kp_lay u (by decide)
theorem hk_given {u : xU} {c t : Int32} (hT : 0 ≤ (u.1 0 0).toInt ∧ (u.1 0 0).toInt ≤ 8) (h : ¬ m_givenTo u c t = -9) : 0 ≤ (m_givenTo u c t).toInt ∧ (m_givenTo u c t).toInt < 8 := by
  have : ∀ (n : Nat) (x1 x2 y : Int32), 0 ≤ y.toInt → m_givenTo_L2 u x1 x2 n y = -9 ∨ (0 ≤ (m_givenTo_L2 u x1 x2 n y).toInt ∧ (m_givenTo_L2 u x1 x2 n y).toInt < 8) := by
    intro n
    induction n with
    | zero => intro x1 x2 y h1; exact Or.inr (show 0 ≤ (0 : Int32).toInt ∧ (0 : Int32).toInt < 8 by decide)
    | succ n ih =>
      intro x1 x2 y h1
      unfold m_givenTo_L2
      split
      · exact Or.inl rfl
      · rename_i h3
        have h3 : y.toInt < (u.1 0 0).toInt := xq_nle h3 rfl rfl
        have h4 : (y + 1).toInt = y.toInt + 1 := xadd rfl rfl (by omega) (by omega)
        split
        · exact ih _ _ _ (by omega)
        · split
          · split
            · exact Or.inr ⟨h1, by omega⟩
            · exact ih _ _ _ (by omega)
          · exact ih _ _ _ (by omega)
  rcases this 9 c t 0 (by decide) with g | g
  · exact absurd g h
  · exact g
theorem lt55 {c : Int32} (h : 0 ≤ c.toInt ∧ c.toInt < 6) : ((55 : Int32) + c).toNatClampNeg < 68 := by
  have e : ((55 : Int32) + c).toInt = 55 + c.toInt := xadd rfl rfl (by omega) (by omega)
  show ((55 : Int32) + c).toInt.toNat < 68
  omega
