/-! ===== PURE: what was read is settled ===== -/
section SE
def se_o (j : Nat) : Prop := j < 55 ∨ (60 < j ∧ j < 68) ∨ (73 < j ∧ j < 815)
def se_X (w r : xU) : Prop := (∀ c : Nat, c < 6 → r.1 5 c = w.1 16 c ∧ r.1 6 c = w.1 17 c ∧ r.1 7 (55 + c) = w.1 18 c ∧ r.1 7 (68 + c) = -9) ∧ (∀ j : Nat, se_o j → r.1 7 j = 0) ∧ (∀ k : Nat, k ≠ 0 → k ≠ 5 → k ≠ 6 → k ≠ 7 → k ≠ 9 → r.1 k = w.1 k) ∧ r.1 9 0 = 0 ∧ r.1 9 1 = 0 ∧ (∀ j : Nat, j ≠ 11 → j ≠ 15 → r.1 0 j = w.1 0 j) ∧ r.1 0 11 = 0 ∧ r.1 0 15 = 0 ∧ r.2 = w.2
theorem se_102 : ∀ (n : Nat) (x : Int32) (w : xU), 0 ≤ x.toInt → x.toInt + n = 7 → (∀ c : Nat, (c : Int) < x.toInt → w.1 5 c = w.1 16 c ∧ w.1 6 c = w.1 17 c ∧ w.1 7 (55 + c) = w.1 18 c ∧ w.1 7 (68 + c) = -9) → (∀ j : Nat, se_o j → w.1 7 j = 0) → se_X w (m_settles_L102 n x w) ∨ 6 < x.toInt := by
  intro n
  induction n with
  | zero => intro x w h0 hn hc ho; exact Or.inr (by omega)
  | succ n ih =>
    intro x w h0 hn hc ho
    unfold m_settles_L102
    by_cases h6 : (6 : Int32) ≤ x
    · have g6 := xq_le h6 (a := 6) rfl rfl
      rw [if_pos h6]
      dsimp only
      refine Or.inl ⟨fun c h => ?_, fun j hj => ?_, fun k k0 k5 k6 k7 k9 => ?_, ?_, ?_, fun j h1 h2 => ?_, ?_, ?_, rfl⟩
      · rw [sp_ne (by decide), sp_ne (by decide), sp_ne (by decide), sp_ne (by decide), sp_ne (by decide), sp_ne (by decide), sp_ne (by decide), sp_ne (by decide), sp_ne (by decide), sp_ne (by decide), sp_ne (by decide), sp_ne (by decide)]
        exact hc c (by omega)
      · rw [sp_ne (by decide), sp_ne (by decide), sp_ne (by decide), sp_ne (by decide)]
        exact ho j hj
      · rw [sp_ne k0, sp_ne k9, sp_ne k9, sp_ne k0]
      · rfl
      · rfl
      · rw [sp_eq, pk_un h2, sp_eq, pk_un h1]
      · rfl
      · rfl
    · have g6 := xq_nle h6 (a := 6) rfl rfl
      rw [if_neg h6]
      dsimp only
      have ex : (x + 1).toInt = x.toInt + 1 := inc h0 g6 (by decide)
      have eX : ((x.toNatClampNeg : Nat) : Int) = x.toInt := by show ((x.toInt.toNat : Nat) : Int) = _; omega
      rw [nk (k := 55) (K := 55) rfl (by decide) h0 (by omega), nk (k := 68) (K := 68) rfl (by decide) h0 (by omega)]
      generalize hw' : sp (sp (sp (sp w 5 (upd (w.1 5) x.toNatClampNeg (w.1 16 x.toNatClampNeg))) 6 (upd (w.1 6) x.toNatClampNeg (w.1 17 x.toNatClampNeg))) 7 (upd (w.1 7) (55 + x.toNatClampNeg) (w.1 18 x.toNatClampNeg))) 7 (upd ((sp (sp (sp w 5 (upd (w.1 5) x.toNatClampNeg (w.1 16 x.toNatClampNeg))) 6 (upd (w.1 6) x.toNatClampNeg (w.1 17 x.toNatClampNeg))) 7 (upd (w.1 7) (55 + x.toNatClampNeg) (w.1 18 x.toNatClampNeg))).1 7) (68 + x.toNatClampNeg) (-9 : Int32)) = w'
      have w5 : w'.1 5 = upd (w.1 5) x.toNatClampNeg (w.1 16 x.toNatClampNeg) := by rw [← hw']; rfl
      have w6 : w'.1 6 = upd (w.1 6) x.toNatClampNeg (w.1 17 x.toNatClampNeg) := by rw [← hw']; rfl
      have w7 : w'.1 7 = upd (upd (w.1 7) (55 + x.toNatClampNeg) (w.1 18 x.toNatClampNeg)) (68 + x.toNatClampNeg) (-9 : Int32) := by rw [← hw']; rfl
      have wk : ∀ k : Nat, k ≠ 5 → k ≠ 6 → k ≠ 7 → w'.1 k = w.1 k := fun k h5 h6 h7 => by rw [← hw', sp_ne h7, sp_ne h7, sp_ne h6, sp_ne h5]
      have w2 : w'.2 = w.2 := by rw [← hw']; rfl
      generalize x.toNatClampNeg = X at eX w5 w6 w7
      clear hw'
      have I := ih (x + 1) w' (by omega) (by omega) (fun c h => ?_) (fun j hj => ?_)
      · rcases I with I | I
        · obtain ⟨i1, i2, i3, i4, i5, i6, i7, i8, i9⟩ := I
          rw [wk 16 (by decide) (by decide) (by decide), wk 17 (by decide) (by decide) (by decide), wk 18 (by decide) (by decide) (by decide)] at i1
          rw [wk 0 (by decide) (by decide) (by decide)] at i6
          exact Or.inl ⟨i1, i2, fun k k0 k5 k6 k7 k9 => (i3 k k0 k5 k6 k7 k9).trans (wk k k5 k6 k7), i4, i5, i6, i7, i8, i9.trans w2⟩
        · exact absurd I (by omega)
      · rw [w5, w6, w7, wk 16 (by decide) (by decide) (by decide), wk 17 (by decide) (by decide) (by decide), wk 18 (by decide) (by decide) (by decide)]
        by_cases hh : c = X
        · rw [hh, pk_us, pk_us, pk_un (by omega), pk_us, pk_us]
          exact ⟨rfl, rfl, rfl, rfl⟩
        · rw [pk_un hh, pk_un hh, pk_un (by omega), pk_un (by omega), pk_un (by omega), pk_un (by omega)]
          exact hc c (by omega)
      · have hj2 := hj
        unfold se_o at hj2
        rw [w7, pk_un (by omega), pk_un (by omega)]
        exact ho j hj
theorem se_40 : ∀ (n : Nat) (x : Int32) (w : xU), 0 ≤ x.toInt → x.toInt + n = 9 → x.toInt ≤ 8 → (∀ t : Nat, (t : Int) < x.toInt → w.1 1 t = w.1 12 t ∧ w.1 2 t = w.1 13 t ∧ w.1 3 t = w.1 14 t ∧ w.1 4 t = w.1 15 t) → ∃ w' : xU, m_settles_L40 n x w = m_settles_L102 7 0 w' ∧ (∀ t : Nat, t < 8 → w'.1 1 t = w.1 12 t ∧ w'.1 2 t = w.1 13 t ∧ w'.1 3 t = w.1 14 t ∧ w'.1 4 t = w.1 15 t) ∧ (∀ k : Nat, k = 0 ∨ 4 < k → w'.1 k = w.1 k) ∧ w'.2 = w.2 := by
  intro n
  induction n with
  | zero => intro x w h0 hn hm hc; exact absurd hn (by omega)
  | succ n ih =>
    intro x w h0 hn hm hc
    unfold m_settles_L40
    by_cases h6 : (8 : Int32) ≤ x
    · have g6 := xq_le h6 (a := 8) rfl rfl
      rw [if_pos h6]
      exact ⟨w, rfl, fun t ht => hc t (by omega), fun _ _ => rfl, rfl⟩
    · have g6 := xq_nle h6 (a := 8) rfl rfl
      rw [if_neg h6]
      dsimp only
      have ex : (x + 1).toInt = x.toInt + 1 := inc h0 g6 (by decide)
      have eX : ((x.toNatClampNeg : Nat) : Int) = x.toInt := by show ((x.toInt.toNat : Nat) : Int) = _; omega
      generalize x.toNatClampNeg = X at eX ⊢
      generalize hw' : sp (sp (sp (sp w 1 (upd (w.1 1) X (w.1 12 X))) 2 (upd (w.1 2) X (w.1 13 X))) 3 (upd (w.1 3) X (w.1 14 X))) 4 (upd (w.1 4) X (w.1 15 X)) = w'
      have w1 : w'.1 1 = upd (w.1 1) X (w.1 12 X) := by rw [← hw']; rfl
      have w2 : w'.1 2 = upd (w.1 2) X (w.1 13 X) := by rw [← hw']; rfl
      have w3 : w'.1 3 = upd (w.1 3) X (w.1 14 X) := by rw [← hw']; rfl
      have w4 : w'.1 4 = upd (w.1 4) X (w.1 15 X) := by rw [← hw']; rfl
      have wk : ∀ k : Nat, k = 0 ∨ 4 < k → w'.1 k = w.1 k := fun k h => by rw [← hw', sp_ne (by omega), sp_ne (by omega), sp_ne (by omega), sp_ne (by omega)]
      have wl : w'.2 = w.2 := by rw [← hw']; rfl
      clear hw'
      obtain ⟨y, y1, y2, y3, y4⟩ := ih (x + 1) w' (by omega) (by omega) (by omega) (fun t ht => by
        rw [w1, w2, w3, w4, wk 12 (by decide), wk 13 (by decide), wk 14 (by decide), wk 15 (by decide)]
        by_cases hh : t = X
        · rw [hh, pk_us, pk_us, pk_us, pk_us]; exact ⟨rfl, rfl, rfl, rfl⟩
        · rw [pk_un hh, pk_un hh, pk_un hh, pk_un hh]; exact hc t (by omega))
      rw [wk 12 (by decide), wk 13 (by decide), wk 14 (by decide), wk 15 (by decide)] at y2
      exact ⟨y, y1, y2, fun k hk => (y3 k hk).trans (wk k hk), y4.trans wl⟩
theorem se_18 : ∀ (n : Nat) (x : Int32) (w : xU), 0 ≤ x.toInt → x.toInt + n = 816 → x.toInt ≤ 815 → (∀ j : Nat, (j : Int) < x.toInt → w.1 7 j = 0) → ∃ w' : xU, m_settles_L18 n x w = m_settles_L40 9 0 w' ∧ (∀ j : Nat, j < 815 → w'.1 7 j = 0) ∧ (∀ k : Nat, k ≠ 7 → w'.1 k = w.1 k) ∧ w'.2 = w.2 := by
  intro n
  induction n with
  | zero => intro x w h0 hn hm hc; exact absurd hn (by omega)
  | succ n ih =>
    intro x w h0 hn hm hc
    unfold m_settles_L18
    by_cases h6 : (815 : Int32) ≤ x
    · have g6 := xq_le h6 (a := 815) rfl rfl
      rw [if_pos h6]
      exact ⟨w, rfl, fun t ht => hc t (by omega), fun _ _ => rfl, rfl⟩
    · have g6 := xq_nle h6 (a := 815) rfl rfl
      rw [if_neg h6]
      dsimp only
      have ex : (x + 1).toInt = x.toInt + 1 := inc h0 g6 (by decide)
      have eX : ((x.toNatClampNeg : Nat) : Int) = x.toInt := by show ((x.toInt.toNat : Nat) : Int) = _; omega
      obtain ⟨y, y1, y2, y3, y4⟩ := ih (x + 1) (sp w 7 (upd (w.1 7) x.toNatClampNeg 0)) (by omega) (by omega) (by omega) (fun j hj => by
        rw [sp_eq]
        by_cases hh : j = x.toNatClampNeg
        · rw [hh, pk_us]
        · rw [pk_un hh]; exact hc j (by omega))
      exact ⟨y, y1, y2, fun k hk => (y3 k hk).trans (sp_ne hk), y4⟩
def se_R (z r : xU) : Prop := r.1 0 0 = z.1 0 22 ∧ r.1 0 5 = z.1 0 27 ∧ r.1 0 11 = 0 ∧ r.1 0 15 = 0 ∧ r.1 0 16 = z.1 0 16 ∧ r.1 0 21 = z.1 0 21 ∧ r.1 0 22 = z.1 0 22 ∧ r.1 0 27 = z.1 0 27 ∧
  (∀ t : Nat, t < 8 → r.1 1 t = z.1 12 t ∧ r.1 2 t = z.1 13 t ∧ r.1 3 t = z.1 14 t ∧ r.1 4 t = z.1 15 t) ∧
  (∀ c : Nat, c < 6 → r.1 5 c = z.1 16 c ∧ r.1 6 c = z.1 17 c ∧ r.1 7 (55 + c) = z.1 18 c ∧ r.1 7 (68 + c) = -9) ∧ (∀ j : Nat, se_o j → r.1 7 j = 0) ∧ r.1 9 0 = 0 ∧ r.1 9 1 = 0 ∧ r.2 = z.2
theorem se_settles (z : xU) : se_R z (m_settles z) := by
  rw [m_settles_def]
  unfold m_settles_b
  dsimp only
  generalize hw : sp (sp z 0 (upd (z.1 0) 0 (z.1 0 22))) 0 (upd ((sp z 0 (upd (z.1 0) 0 (z.1 0 22))).1 0) 5 ((sp z 0 (upd (z.1 0) 0 (z.1 0 22))).1 0 27)) = w
  have a0 : w.1 0 0 = z.1 0 22 := by rw [← hw]; rfl
  have a5 : w.1 0 5 = z.1 0 27 := by rw [← hw]; rfl
  have aj : ∀ j : Nat, j ≠ 0 → j ≠ 5 → w.1 0 j = z.1 0 j := fun j h0 h5 => by rw [← hw, sp_eq, pk_un h5, sp_eq, pk_un h0]
  have ak : ∀ k : Nat, k ≠ 0 → w.1 k = z.1 k := fun k hk => by rw [← hw, sp_ne hk, sp_ne hk]
  have al : w.2 = z.2 := by rw [← hw]; rfl
  clear hw
  have i0 : (0 : Int32).toInt = 0 := rfl
  obtain ⟨y, y1, y2, y3, y4⟩ := se_18 816 0 w (by decide) (by decide) (by decide) (fun j hj => absurd hj (by omega))
  obtain ⟨x, x1, x2, x3, x4⟩ := se_40 9 0 y (by decide) (by decide) (by decide) (fun j hj => absurd hj (by omega))
  rw [y1, x1]
  have I := se_102 7 0 x (by decide) (by decide) (fun j hj => absurd hj (by omega)) (fun j hj => by
    unfold se_o at hj
    rw [x3 7 (by decide)]; exact y2 j (by omega))
  rcases I with I | I
  · obtain ⟨i1, i2, i3, i4, i5, i6, i7, i8, i9⟩ := I
    generalize m_settles_L102 7 0 x = r at i1 i2 i3 i4 i5 i6 i7 i8 i9 ⊢
    have e0 : ∀ j : Nat, x.1 0 j = w.1 0 j := fun j => by rw [x3 0 (by decide), y3 0 (by decide)]
    refine ⟨by rw [i6 0 (by decide) (by decide), e0, a0], by rw [i6 5 (by decide) (by decide), e0, a5], i7, i8, by rw [i6 16 (by decide) (by decide), e0, aj 16 (by decide) (by decide)], by rw [i6 21 (by decide) (by decide), e0, aj 21 (by decide) (by decide)], by rw [i6 22 (by decide) (by decide), e0, aj 22 (by decide) (by decide)], by rw [i6 27 (by decide) (by decide), e0, aj 27 (by decide) (by decide)], fun t ht => ?_, fun c hc => ?_, i2, i4, i5, i9.trans (x4.trans (y4.trans al))⟩
    · have := x2 t ht
      rw [y3 12 (by decide), y3 13 (by decide), y3 14 (by decide), y3 15 (by decide), ak 12 (by decide), ak 13 (by decide), ak 14 (by decide), ak 15 (by decide)] at this
      rw [i3 1 (by decide) (by decide) (by decide) (by decide) (by decide), i3 2 (by decide) (by decide) (by decide) (by decide) (by decide), i3 3 (by decide) (by decide) (by decide) (by decide) (by decide), i3 4 (by decide) (by decide) (by decide) (by decide) (by decide)]
      exact this
    · have := i1 c hc
      rw [x3 16 (by decide), x3 17 (by decide), x3 18 (by decide), y3 16 (by decide), y3 17 (by decide), y3 18 (by decide), ak 16 (by decide), ak 17 (by decide), ak 18 (by decide)] at this
      exact this
  · exact absurd I (by decide)
end SE
