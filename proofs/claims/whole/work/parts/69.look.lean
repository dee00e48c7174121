/-! ===== PURE: the reader's tokens ===== -/
section LK
def lk_T (w z : xU) : Prop := RX (w.1 1) (w.1 2) (z.1 0) (z.1 11) ∧ w.1 1 4 = z.1 0 16 ∧ (0 ≤ (w.1 1 4).toInt ∧ (w.1 1 4).toInt ≤ 150)
def lk_K (a b : xU) : Prop := a.1 1 4 = b.1 0 16 ∧ a.1 1 3 = b.1 0 17 ∧ a.1 1 5 = b.1 0 18 ∧ (a.1 1 5 = 1 → a.1 1 6 = b.1 0 19) ∧ (a.1 1 5 = 2 → a.1 1 6 = b.1 0 19 ∧ (0 ≤ (a.1 1 6).toInt ∧ (a.1 1 6).toInt ≤ 99))
theorem lk_end {w z : xU} (h : lk_T w z) (hc : w.1 1 1 ≤ w.1 1 4) : m_letterAt z (z.1 0 16) = -1 := by
  unfold m_letterAt; rw [← h.2.1, ← h.1.1, if_pos hc]
theorem lk_in {w z : xU} (h : lk_T w z) (hc : ¬ w.1 1 1 ≤ w.1 1 4) : m_letterAt z (z.1 0 16) = w.1 2 (w.1 1 4).toNatClampNeg := by
  unfold m_letterAt; rw [← h.2.1, ← h.1.1, if_neg hc]
  exact (h.1.2.2 _ (nlt (xq_nle hc rfl rfl) h.2.2.1)).1.symm
theorem lk_rng {w z : xU} (h : lk_T w z) (hc : ¬ w.1 1 1 ≤ w.1 1 4) : 0 ≤ (w.1 2 (w.1 1 4).toNatClampNeg).toInt := (h.1.2.2 _ (nlt (xq_nle hc rfl rfl) h.2.2.1)).2.1
theorem lk_inc {w z : xU} (h : lk_T w z) (hc : ¬ w.1 1 1 ≤ w.1 1 4) : (w.1 1 4 + 1).toInt = (w.1 1 4).toInt + 1 := by
  have h3 := h.2.2
  exact inc h3.1 (n := 151) (by omega) (by omega)
theorem lk_step {w z : xU} (h : lk_T w z) (hc : ¬ w.1 1 1 ≤ w.1 1 4) : lk_T (sp w 1 (upd (w.1 1) 4 (w.1 1 4 + 1))) (sp z 0 (upd (z.1 0) 16 (z.1 0 16 + 1))) := by
  have h1 := xq_nle hc rfl rfl
  have h2 : 0 ≤ (w.1 1 1).toInt ∧ (w.1 1 1).toInt ≤ 150 := h.1.2.1
  have h3 := h.2.2
  have e := lk_inc h hc
  refine ⟨h.1, congrArg (· + 1) h.2.1, ?_⟩
  show 0 ≤ (w.1 1 4 + 1).toInt ∧ (w.1 1 4 + 1).toInt ≤ 150
  rw [e]; omega
theorem lk_put {w z : xU} (h : lk_T w z) {k j : Nat} {x y : Int32} (hk : k ≠ 1 ∧ k ≠ 4) (hj : j ≠ 15 ∧ j ≠ 16) : lk_T (sp w 1 (upd (w.1 1) k x)) (sp z 0 (upd (z.1 0) j y)) := by
  obtain ⟨⟨h1, h2, h3⟩, h4, h5⟩ := h
  unfold lk_T RX
  rw [sp_eq, sp_eq, pk_un (Ne.symm hk.1), pk_un (Ne.symm hk.2), pk_un (Ne.symm hj.1), pk_un (Ne.symm hj.2), sp_ne (by decide), sp_ne (by decide)]
  exact ⟨⟨h1, h2, h3⟩, h4, h5⟩
theorem lk_putw {w z : xU} (h : lk_T w z) {k : Nat} {x : Int32} (hk : k ≠ 1 ∧ k ≠ 4) : lk_T (sp w 1 (upd (w.1 1) k x)) z := by
  obtain ⟨⟨h1, h2, h3⟩, h4, h5⟩ := h
  unfold lk_T RX
  rw [sp_eq, pk_un (Ne.symm hk.1), pk_un (Ne.symm hk.2), sp_ne (by decide)]
  exact ⟨⟨h1, h2, h3⟩, h4, h5⟩
theorem lk_putz {w z : xU} (h : lk_T w z) {j : Nat} {y : Int32} (hj : j ≠ 15 ∧ j ≠ 16) : lk_T w (sp z 0 (upd (z.1 0) j y)) := by
  obtain ⟨⟨h1, h2, h3⟩, h4, h5⟩ := h
  unfold lk_T RX
  rw [sp_eq, pk_un (Ne.symm hj.1), pk_un (Ne.symm hj.2), sp_ne (by decide)]
  exact ⟨⟨h1, h2, h3⟩, h4, h5⟩
theorem lk_sub (a b : Int32) : a - b + 1 = a + 1 - b := by
  rw [Int32.sub_eq_add_neg, Int32.sub_eq_add_neg, Int32.add_assoc, Int32.add_comm (-b), ← Int32.add_assoc]
theorem lk_isL (x : Int32) : m_isLetter x = k_Reader_isLetter x := rfl
theorem lk_isD (x : Int32) : m_isFigure x = k_Reader_isDigit x := rfl
theorem lk_let (x1 : Int32) : ∀ (n : Nat) (x2 : Int32) (w z : xU), lk_T w z → w.1 1 3 = z.1 0 17 → x2 = z.1 0 16 - z.1 0 17 → ((w.1 1 1).toInt - (w.1 1 4).toInt < (n : Int) ∧ 1 ≤ n) → lk_K (k_Reader_lookAtLetters_L12 x1 n x2 w) (m_next_L180 x1 n z) := by
  intro n
  induction n with
  | zero => intro x2 w z h h3 hx hn; exact absurd hn.2 (by decide)
  | succ n ih =>
    intro x2 w z h h3 hx hn
    have e : ∀ q : Int32, (sp z 0 (upd (z.1 0) 18 q)).1 0 16 - (sp z 0 (upd (z.1 0) 18 q)).1 0 17 = x2 := fun _ => hx.symm
    have z5 : ∀ q : (1 : Int32) = 2, False := fun q => absurd q (by decide)
    unfold k_Reader_lookAtLetters_L12 m_next_L180
    dsimp only
    rw [e]
    by_cases hc : w.1 1 1 ≤ w.1 1 4
    · rw [if_pos hc, lk_end h hc, if_pos (show b2i (m_isLetter (-1)) = 0 by decide)]
      by_cases hh : x2 = 1
      · rw [if_pos hh, if_pos hh]
        exact ⟨h.2.1, h3, rfl, fun _ => rfl, fun q => (z5 q).elim⟩
      · rw [if_neg hh, if_neg hh]
        exact ⟨h.2.1, h3, rfl, fun _ => rfl, fun q => (z5 q).elim⟩
    · rw [if_neg hc, lk_in h hc, lk_isL]
      by_cases hl : b2i (k_Reader_isLetter (w.1 2 (w.1 1 4).toNatClampNeg)) = 0
      · rw [if_pos hl, if_pos hl]
        by_cases hh : x2 = 1
        · rw [if_pos hh, if_pos hh]
          exact ⟨h.2.1, h3, rfl, fun _ => rfl, fun q => (z5 q).elim⟩
        · rw [if_neg hh, if_neg hh]
          exact ⟨h.2.1, h3, rfl, fun _ => rfl, fun q => (z5 q).elim⟩
      · rw [if_neg hl, if_neg hl]
        refine ih _ _ _ (lk_step h hc) h3 ?_ ?_
        · rw [hx, lk_sub]; rfl
        · show (w.1 1 1).toInt - (w.1 1 4 + 1).toInt < (n : Int) ∧ 1 ≤ n
          have h1 := xq_nle hc rfl rfl
          rw [lk_inc h hc]; omega
def lk_V (a b : Int32) : Prop := (a = b ∧ 0 ≤ a.toInt ∧ a.toInt ≤ 99) ∨ (a.toInt = 100 ∧ 100 ≤ b.toInt)
theorem lk_val {a b c : Int32} (h : lk_V a b) (hc : 48 ≤ c.toInt ∧ c.toInt ≤ 57) : (b ≤ 99 → lk_V (if (100 : Int32) < ((a * (10 : Int32)) + c) - (48 : Int32) then (100 : Int32) else ((a * (10 : Int32)) + c) - (48 : Int32)) ((((10 : Int32) * b) + c) - (48 : Int32))) ∧ (¬ b ≤ 99 → lk_V (if (100 : Int32) < ((a * (10 : Int32)) + c) - (48 : Int32) then (100 : Int32) else ((a * (10 : Int32)) + c) - (48 : Int32)) b) := by
  have r : 0 ≤ a.toInt ∧ a.toInt ≤ 100 := by
    rcases h with h | h
    · omega
    · omega
  have e1 : (a * (10 : Int32)).toInt = a.toInt * 10 := xmul rfl rfl (by omega) (by omega)
  have e2 : ((a * (10 : Int32)) + c).toInt = a.toInt * 10 + c.toInt := xadd e1 rfl (by omega) (by omega)
  have e3 : (((a * (10 : Int32)) + c) - (48 : Int32)).toInt = a.toInt * 10 + c.toInt - 48 := xsub e2 rfl (by omega) (by omega)
  rcases h with ⟨rfl, h0, h1⟩ | ⟨h0, h1⟩
  · refine ⟨fun _ => ?_, fun q => absurd (Int32.le_iff_toInt_le.mpr (show a.toInt ≤ (99 : Int32).toInt from h1)) q⟩
    rw [Int32.mul_comm 10 a]
    by_cases g : (100 : Int32) < ((a * (10 : Int32)) + c) - (48 : Int32)
    · rw [if_pos g]
      have g := xq_lt g (a := 100) rfl e3
      exact Or.inr ⟨rfl, by rw [e3]; omega⟩
    · rw [if_neg g]
      have g := xq_nlt g (a := 100) rfl e3
      by_cases gg : a.toInt * 10 + c.toInt - 48 = 100
      · exact Or.inr ⟨by rw [e3]; exact gg, by rw [e3]; omega⟩
      · exact Or.inl ⟨rfl, by rw [e3]; omega, by rw [e3]; omega⟩
  · refine ⟨fun q => absurd (xq_le q rfl (b := 99) rfl) (by omega), fun _ => ?_⟩
    rw [if_pos (Int32.lt_iff_toInt_lt.mpr (by rw [e3, show (100 : Int32).toInt = 100 from rfl]; omega))]
    exact Or.inr ⟨rfl, h1⟩
theorem lk_dig {c : Int32} (h : ¬ b2i (k_Reader_isDigit c) = 0) : 48 ≤ c.toInt ∧ c.toInt ≤ 57 := hk_in (lo := 48) (hi := 57) h
theorem lk_num (x1 : Int32) : ∀ (n : Nat) (x2 : Int32) (w z : xU), lk_T w z → w.1 1 3 = z.1 0 17 → x2 = z.1 0 16 - z.1 0 17 → lk_V (w.1 1 6) (z.1 0 19) → ((w.1 1 1).toInt - (w.1 1 4).toInt < (n : Int) ∧ 1 ≤ n) → lk_K (k_Reader_lookAtNumber_L17 x1 n x2 w) (m_next_L67 x1 n z) := by
  intro n
  induction n with
  | zero => intro x2 w z h h3 hx hv hn; exact absurd hn.2 (by decide)
  | succ n ih =>
    intro x2 w z h h3 hx hv hn
    have z1 : ∀ q : (2 : Int32) = 1, False := fun q => absurd q (by decide)
    have z2 : ∀ q : (4 : Int32) = 1, False := fun q => absurd q (by decide)
    have z3 : ∀ q : (4 : Int32) = 2, False := fun q => absurd q (by decide)
    have bad : lk_K (sp w 1 (upd (w.1 1) 5 (4 : Int32))) (sp z 0 (upd (z.1 0) 18 (4 : Int32))) := ⟨h.2.1, h3, rfl, fun q => (z2 q).elim, fun q => (z3 q).elim⟩
    have fin : lk_K (if x1 = (48 : Int32) then (if x2 ≤ (1 : Int32) then (if (w.1 1 6) ≤ (99 : Int32) then sp w 1 (upd (w.1 1) 5 (2 : Int32)) else sp w 1 (upd (w.1 1) 5 (4 : Int32))) else sp w 1 (upd (w.1 1) 5 (4 : Int32))) else (if (w.1 1 6) ≤ (99 : Int32) then sp w 1 (upd (w.1 1) 5 (2 : Int32)) else sp w 1 (upd (w.1 1) 5 (4 : Int32)))) (if (99 : Int32) < (z.1 0 19) then sp z 0 (upd (z.1 0) 18 (4 : Int32)) else (if x1 = (48 : Int32) then (if ((z.1 0 16) - (z.1 0 17)) ≤ (1 : Int32) then sp z 0 (upd (z.1 0) 18 (2 : Int32)) else sp z 0 (upd (z.1 0) 18 (4 : Int32))) else sp z 0 (upd (z.1 0) 18 (2 : Int32)))) := by
      rw [← hx]
      rcases hv with ⟨g, g0, g1⟩ | ⟨g0, g1⟩
      · have ok : lk_K (sp w 1 (upd (w.1 1) 5 (2 : Int32))) (sp z 0 (upd (z.1 0) 18 (2 : Int32))) := ⟨h.2.1, h3, rfl, fun q => (z1 q).elim, fun _ => ⟨g, g0, g1⟩⟩
        have y1 : w.1 1 6 ≤ (99 : Int32) := Int32.le_iff_toInt_le.mpr g1
        have y2 : ¬ (99 : Int32) < z.1 0 19 := by rw [← g]; exact fun q => absurd (xq_lt q (a := 99) rfl rfl) (by omega)
        rw [if_pos y1, if_neg y2]
        by_cases a1 : x1 = 48
        · rw [if_pos a1, if_pos a1]
          by_cases a2 : x2 ≤ 1
          · rw [if_pos a2, if_pos a2]; exact ok
          · rw [if_neg a2, if_neg a2]; exact bad
        · rw [if_neg a1, if_neg a1]; exact ok
      · have y1 : ¬ w.1 1 6 ≤ (99 : Int32) := fun q => absurd (xq_le q rfl (b := 99) rfl) (by omega)
        have y2 : (99 : Int32) < z.1 0 19 := Int32.lt_iff_toInt_lt.mpr (by rw [show (99 : Int32).toInt = 99 from rfl]; omega)
        rw [if_neg y1, if_pos y2]
        repeat' split
        all_goals exact bad
    unfold k_Reader_lookAtNumber_L17 m_next_L67
    by_cases hc : w.1 1 1 ≤ w.1 1 4
    · rw [if_pos hc, lk_end h hc, if_pos (show b2i (m_isFigure (-1)) = 0 by decide)]
      exact fin
    · rw [if_neg hc, lk_in h hc, lk_isD]
      by_cases hl : b2i (k_Reader_isDigit (w.1 2 (w.1 1 4).toNatClampNeg)) = 0
      · rw [if_pos hl, if_pos hl]; exact fin
      · rw [if_neg hl, if_neg hl]
        have hd := lk_val hv (lk_dig hl)
        have h1 := xq_nle hc rfl rfl
        have fu : (w.1 1 1).toInt - (w.1 1 4 + 1).toInt < (n : Int) ∧ 1 ≤ n := by rw [lk_inc h hc]; omega
        have fx : x2 + 1 = z.1 0 16 + 1 - z.1 0 17 := by rw [hx, lk_sub]
        by_cases h9 : z.1 0 19 ≤ 99
        · rw [if_pos h9]
          exact ih _ _ _ (lk_step (lk_put h (by decide) (by decide)) hc) h3 fx (hd.1 h9) fu
        · rw [if_neg h9]
          exact ih _ _ _ (lk_step (lk_put h (by decide) (by decide)) hc) h3 fx (hd.2 h9) fu
theorem lk_tail {w z : xU} (h : lk_T w z) : lk_K (let w_16 := sp w 1 (upd (w.1 1) 3 (w.1 1 4))
    (if (w_16.1 1 4) < (w_16.1 1 1) then
    (if (b2i (k_Reader_isLetter (w.1 2 ((w_16.1 1 4)).toNatClampNeg))) = (0 : Int32) then
    (if (b2i (k_Reader_isDigit (w.1 2 ((w_16.1 1 4)).toNatClampNeg))) = (0 : Int32) then
    (if (w.1 2 ((w_16.1 1 4)).toNatClampNeg) = (59 : Int32) then
    let w_23 := sp w_16 1 (upd (w_16.1 1) 5 (3 : Int32))
    let w_24 := sp w_23 1 (upd (w_23.1 1) 4 ((w_23.1 1 4) + (1 : Int32)))
    w_24
    else
    let w_21 := sp w_16 1 (upd (w_16.1 1) 5 (4 : Int32))
    let w_22 := sp w_21 1 (upd (w_21.1 1) 4 ((w_21.1 1 4) + (1 : Int32)))
    w_22)
    else
    let r_25 := k_Reader_lookAtNumber w_16
    r_25)
    else
    let r_26 := k_Reader_lookAtLetters w_16
    r_26)
    else
    let w_27 := sp w_16 1 (upd (w_16.1 1) 5 (0 : Int32))
    w_27)) (let w_3 := sp z 0 (upd (z.1 0) 17 (z.1 0 16))
    let w_4 := sp w_3 0 (upd (w_3.1 0) 19 (0 : Int32))
    (if (0 : Int32) ≤ (m_letterAt w_3 (w_3.1 0 16)) then
    (if (b2i (m_isFigure (m_letterAt w_3 (w_3.1 0 16)))) = (0 : Int32) then
    (if (b2i (m_isLetter (m_letterAt w_3 (w_3.1 0 16)))) = (0 : Int32) then
    (if (m_letterAt w_3 (w_3.1 0 16)) = (59 : Int32) then
    let w_11 := sp w_4 0 (upd (w_4.1 0) 18 (3 : Int32))
    let w_12 := sp w_11 0 (upd (w_11.1 0) 16 ((w_11.1 0 16) + (1 : Int32)))
    w_12
    else
    let w_9 := sp w_4 0 (upd (w_4.1 0) 18 (4 : Int32))
    let w_10 := sp w_9 0 (upd (w_9.1 0) 16 ((w_9.1 0 16) + (1 : Int32)))
    w_10)
    else
    m_next_L180 (m_letterAt w_3 (w_3.1 0 16)) 151 w_4)
    else
    m_next_L67 (m_letterAt w_3 (w_3.1 0 16)) 151 w_4)
    else
    let w_37 := sp w_4 0 (upd (w_4.1 0) 18 (0 : Int32))
    w_37)) := by
  have z01 : ∀ q : (0 : Int32) = 1, False := fun q => absurd q (by decide)
  have z02 : ∀ q : (0 : Int32) = 2, False := fun q => absurd q (by decide)
  have z31 : ∀ q : (3 : Int32) = 1, False := fun q => absurd q (by decide)
  have z32 : ∀ q : (3 : Int32) = 2, False := fun q => absurd q (by decide)
  have z41 : ∀ q : (4 : Int32) = 1, False := fun q => absurd q (by decide)
  have z42 : ∀ q : (4 : Int32) = 2, False := fun q => absurd q (by decide)
  have el : m_letterAt (sp z 0 (upd (z.1 0) 17 (z.1 0 16))) ((sp z 0 (upd (z.1 0) 17 (z.1 0 16))).1 0 16) = m_letterAt z (z.1 0 16) := (let_same (by decide) _).trans (congrArg (m_letterAt z) (q0 (by decide)))
  have eN : (sp w 1 (upd (w.1 1) 3 (w.1 1 4))).1 1 4 = w.1 1 4 := p14 (by decide)
  have eL : (sp w 1 (upd (w.1 1) 3 (w.1 1 4))).1 1 1 = w.1 1 1 := p11 (by decide)
  have hL : 0 ≤ (w.1 1 1).toInt ∧ (w.1 1 1).toInt ≤ 150 := h.1.2.1
  have hN := h.2.2
  dsimp only
  rw [el]
  by_cases hc : w.1 1 1 ≤ w.1 1 4
  · rw [lk_end h hc, if_neg (show ¬ (sp w 1 (upd (w.1 1) 3 (w.1 1 4))).1 1 4 < (sp w 1 (upd (w.1 1) 3 (w.1 1 4))).1 1 1 by rw [eN, eL]; exact fun q => absurd (xq_lt q rfl rfl) (by have := xq_le hc rfl rfl; omega)), if_neg (show ¬ (0 : Int32) ≤ -1 by decide)]
    exact ⟨h.2.1, h.2.1, rfl, fun q => (z01 q).elim, fun q => (z02 q).elim⟩
  · have h1 := xq_nle hc rfl rfl
    rw [lk_in h hc, lk_isL, lk_isD, if_pos (show (sp w 1 (upd (w.1 1) 3 (w.1 1 4))).1 1 4 < (sp w 1 (upd (w.1 1) 3 (w.1 1 4))).1 1 1 by rw [eN, eL]; exact Int32.lt_iff_toInt_lt.mpr h1), if_pos (show (0 : Int32) ≤ w.1 2 (w.1 1 4).toNatClampNeg from Int32.le_iff_toInt_le.mpr (lk_rng h hc)), eN]
    have T3 : lk_T (sp w 1 (upd (w.1 1) 3 (w.1 1 4))) (sp z 0 (upd (z.1 0) 17 (z.1 0 16))) := lk_put h (by decide) (by decide)
    have T4 : lk_T (sp w 1 (upd (w.1 1) 3 (w.1 1 4))) (sp (sp z 0 (upd (z.1 0) 17 (z.1 0 16))) 0 (upd ((sp z 0 (upd (z.1 0) 17 (z.1 0 16))).1 0) 19 (0 : Int32))) := lk_putz T3 (by decide)
    have fu : (w.1 1 1).toInt - (w.1 1 4).toInt < ((151 : Nat) : Int) ∧ 1 ≤ 151 := by omega
    have fx : (0 : Int32) = z.1 0 16 - z.1 0 16 := (Int32.sub_self _).symm
    by_cases hl : b2i (k_Reader_isLetter (w.1 2 (w.1 1 4).toNatClampNeg)) = 0
    · rw [if_pos hl, if_pos hl]
      by_cases hd : b2i (k_Reader_isDigit (w.1 2 (w.1 1 4).toNatClampNeg)) = 0
      · rw [if_pos hd, if_pos hd]
        by_cases h9 : w.1 2 (w.1 1 4).toNatClampNeg = 59
        · rw [if_pos h9, if_pos h9]
          exact ⟨congrArg (· + 1) h.2.1, h.2.1, rfl, fun q => (z31 q).elim, fun q => (z32 q).elim⟩
        · rw [if_neg h9, if_neg h9]
          exact ⟨congrArg (· + 1) h.2.1, h.2.1, rfl, fun q => (z41 q).elim, fun q => (z42 q).elim⟩
      · rw [if_neg hd, if_neg hd, k_Reader_lookAtNumber_def]
        unfold k_Reader_lookAtNumber_b
        dsimp only
        rw [eN]
        exact lk_num _ 151 0 _ _ (lk_putw T4 (by decide)) h.2.1 fx (Or.inl ⟨rfl, show 0 ≤ (0 : Int32).toInt by decide, show (0 : Int32).toInt ≤ 99 by decide⟩) fu
    · have hd : b2i (k_Reader_isDigit (w.1 2 (w.1 1 4).toNatClampNeg)) = 0 := by
        have g := hk_in (lo := 97) (hi := 122) (v := w.1 2 (w.1 1 4).toNatClampNeg) hl
        exact in_f2 (a := 48) (b := 57) (by have : (97 : Int32).toInt = 97 := rfl; have : (57 : Int32).toInt = 57 := rfl; omega)
      rw [if_neg hl, if_pos hd, if_neg hl, k_Reader_lookAtLetters_def]
      unfold k_Reader_lookAtLetters_b
      rw [eN]
      exact lk_let _ 151 0 _ _ T4 h.2.1 fx fu
theorem lk_L0 : ∀ (n : Nat) (w z : xU), lk_T w z → ((w.1 1 1).toInt - (w.1 1 4).toInt < (n : Int) ∧ 1 ≤ n) → lk_K (k_Reader_look_L0 n w) (m_next_L0 n z) := by
  intro n
  induction n with
  | zero => intro w z h hn; exact absurd hn.2 (by decide)
  | succ n ih =>
    intro w z h hn
    unfold k_Reader_look_L0 m_next_L0
    by_cases hc : w.1 1 1 ≤ w.1 1 4
    · rw [if_pos hc, lk_end h hc, if_neg (show ¬ (-1 : Int32) = 32 by decide)]
      exact lk_tail h
    · rw [if_neg hc, lk_in h hc]
      by_cases h2 : w.1 2 (w.1 1 4).toNatClampNeg = 32
      · rw [if_pos h2, if_pos h2]
        refine ih _ _ (lk_step h hc) ?_
        show (w.1 1 1).toInt - (w.1 1 4 + 1).toInt < (n : Int) ∧ 1 ≤ n
        have h1 := xq_nle hc rfl rfl
        rw [lk_inc h hc]; omega
      · rw [if_neg h2, if_neg h2]
        exact lk_tail h
theorem lk_look {w z : xU} (h : lk_T w z) : lk_K (k_Reader_look w) (m_next z) ∧ lk_T (k_Reader_look w) (m_next z) := by
  have hL : 0 ≤ (w.1 1 1).toInt ∧ (w.1 1 1).toInt ≤ 150 := h.1.2.1
  have hX := h.2.2
  have k : lk_K (k_Reader_look w) (m_next z) := by
    rw [k_Reader_look_def, m_next_def]
    exact lk_L0 151 w z h (by constructor <;> omega)
  have r := RI_look hL hX
  have m := (MN_next (u := z) (by rw [← h.1.1]; exact hL) (by rw [← h.2.1]; exact hX)).1
  refine ⟨k, ⟨?_, k.1, r.2.2.1⟩⟩
  obtain ⟨h1, h2, h3⟩ := h.1
  unfold RX
  rw [r.2.1, r.1 2 (by decide), m.1 11 (by decide), m.2.1 15 (by decide)]
  exact ⟨h1, h2, h3⟩
end LK
