theorem mostIn_L (w : xU) (x1 x2 x6 x7 : Int32) : ∀ (n : Nat) (x3 x4 x5 x8 : Int32), (k_Planner_mostIn_L65 w x1 x2 x6 x7 n x3 x4 x5 x8).2 = w := by
  intro n
  induction n with
  | zero => intro x3 x4 x5 x8; rfl
  | succ n ih =>
    intro x3 x4 x5 x8
    unfold k_Planner_mostIn_L65
    repeat' split
    all_goals first | rfl | exact ih _ _ _ _
theorem mostIn_2 (u : xU) (c n : Int32) : (k_Planner_mostIn u c n).2 = k_Planner_reckon u c := by
  rw [k_Planner_mostIn_def]; unfold k_Planner_mostIn_b; dsimp only
  split
  · exact mostIn_L _ _ _ _ _ _ _ _ _ _
  · exact mostIn_L _ _ _ _ _ _ _ _ _ _
theorem kp_most13 (u : xU) (c n : Int32) : (k_Planner_mostIn u c n).2.1 13 = u.1 13 := by rw [mostIn_2]; exact kp_reckon13 u c
/-! the reader -/
def RI (u v : xU) : Prop := (∀ j : Nat, j ≠ 1 → v.1 j = u.1 j) ∧ v.1 1 1 = u.1 1 1 ∧ (0 ≤ (v.1 1 4).toInt ∧ (v.1 1 4).toInt ≤ 150) ∧ v.2 = u.2
theorem RI.tr {u v w : xU} (h : RI u v) (g : RI v w) : RI u w := ⟨fun j hj => (g.1 j hj).trans (h.1 j hj), g.2.1.trans h.2.1, g.2.2.1, g.2.2.2.trans h.2.2.2⟩
theorem RI.put {u w : xU} {k : Nat} {x : Int32} (h : RI u w) (h1 : k ≠ 1) (h4 : k ≠ 4) : RI u (sp w 1 (upd (w.1 1) k x)) := by
  refine ⟨fun j hj => (sp_ne hj).trans (h.1 j hj), ?_, ?_, h.2.2.2⟩
  · rw [sp_eq, pk_un (Ne.symm h1)]; exact h.2.1
  · rw [sp_eq, pk_un (Ne.symm h4)]; exact h.2.2.1
theorem RI.nx {u w : xU} (hL : 0 ≤ (u.1 1 1).toInt ∧ (u.1 1 1).toInt ≤ 150) (h : RI u w) (hl : (w.1 1 4).toInt < (w.1 1 1).toInt) : RI u (sp w 1 (upd (w.1 1) 4 (w.1 1 4 + 1))) := by
  have e := h.2.1
  have h3 := h.2.2.1
  rw [e] at hl
  refine ⟨fun j hj => (sp_ne hj).trans (h.1 j hj), ?_, ?_, h.2.2.2⟩
  · rw [sp_eq, pk_un (by decide)]; exact e
  · rw [sp_eq, pk_us, xadd rfl rfl (show -2147483648 ≤ (w.1 1 4).toInt + (1 : Int32).toInt from by have : (1 : Int32).toInt = 1 := rfl; omega) (by have : (1 : Int32).toInt = 1 := rfl; omega)]
    have : (1 : Int32).toInt = 1 := rfl
    omega
theorem p14 {w : xU} {k : Nat} {x : Int32} (h4 : k ≠ 4) : (sp w 1 (upd (w.1 1) k x)).1 1 4 = w.1 1 4 := by rw [sp_eq, pk_un (Ne.symm h4)]
theorem p11 {w : xU} {k : Nat} {x : Int32} (h1 : k ≠ 1) : (sp w 1 (upd (w.1 1) k x)).1 1 1 = w.1 1 1 := by rw [sp_eq, pk_un (Ne.symm h1)]
theorem RI_num_L {u : xU} (hL : 0 ≤ (u.1 1 1).toInt ∧ (u.1 1 1).toInt ≤ 150) (x1 : Int32) : ∀ (n : Nat) (x : Int32) (w : xU), RI u w → RI u (k_Reader_lookAtNumber_L17 x1 n x w) := by
  intro n
  induction n with
  | zero => intro x w h; exact h
  | succ n ih =>
    intro x w h
    unfold k_Reader_lookAtNumber_L17
    split
    · repeat' split
      all_goals exact h.put (by decide) (by decide)
    · rename_i hc
      have hc := xq_nle hc rfl rfl
      split
      · repeat' split
        all_goals exact h.put (by decide) (by decide)
      · exact ih _ _ ((h.put (by decide) (by decide)).nx hL (by rw [p14 (by decide), p11 (by decide)]; exact hc))
theorem RI_num {u : xU} (hL : 0 ≤ (u.1 1 1).toInt ∧ (u.1 1 1).toInt ≤ 150) (hX : 0 ≤ (u.1 1 4).toInt ∧ (u.1 1 4).toInt ≤ 150) : RI u (k_Reader_lookAtNumber u) := by
  rw [k_Reader_lookAtNumber_def]
  exact RI_num_L hL _ _ _ _ (RI.put ⟨fun _ _ => rfl, rfl, hX, rfl⟩ (by decide) (by decide))
theorem RI_let_L {u : xU} (hL : 0 ≤ (u.1 1 1).toInt ∧ (u.1 1 1).toInt ≤ 150) (x1 : Int32) : ∀ (n : Nat) (x : Int32) (w : xU), RI u w → RI u (k_Reader_lookAtLetters_L12 x1 n x w) := by
  intro n
  induction n with
  | zero => intro x w h; exact h
  | succ n ih =>
    intro x w h
    unfold k_Reader_lookAtLetters_L12
    split
    · dsimp only
      split
      all_goals exact (h.put (by decide) (by decide)).put (by decide) (by decide)
    · rename_i hc
      have hc := xq_nle hc rfl rfl
      split
      · dsimp only
        split
        all_goals exact (h.put (by decide) (by decide)).put (by decide) (by decide)
      · exact ih _ _ (h.nx hL hc)
theorem RI_let {u : xU} (hL : 0 ≤ (u.1 1 1).toInt ∧ (u.1 1 1).toInt ≤ 150) (hX : 0 ≤ (u.1 1 4).toInt ∧ (u.1 1 4).toInt ≤ 150) : RI u (k_Reader_lookAtLetters u) := by
  rw [k_Reader_lookAtLetters_def]
  exact RI_let_L hL _ _ _ _ ⟨fun _ _ => rfl, rfl, hX, rfl⟩
theorem RI.L {u w : xU} (hL : 0 ≤ (u.1 1 1).toInt ∧ (u.1 1 1).toInt ≤ 150) (h : RI u w) : 0 ≤ (w.1 1 1).toInt ∧ (w.1 1 1).toInt ≤ 150 := by rw [h.2.1]; exact hL
theorem RI_look_L {u : xU} (hL : 0 ≤ (u.1 1 1).toInt ∧ (u.1 1 1).toInt ≤ 150) : ∀ (n : Nat) (w : xU), RI u w → RI u (k_Reader_look_L0 n w) := by
  intro n
  induction n with
  | zero => intro w h; exact h
  | succ n ih =>
    intro w h
    have tail : RI u (let w_16 := sp w 1 (upd (w.1 1) 3 (w.1 1 4))
    (if (w_16.1 1 4) < (w_16.1 1 1) then
    (if (b2i (k_Reader_isLetter (w.1 2 ((w_16.1 1 4)).toNatClampNeg))) = (0 : Int32) then
    (if (b2i (k_Reader_isDigit (w.1 2 ((w_16.1 1 4)).toNatClampNeg))) = (0 : Int32) then
    (if (w.1 2 ((w_16.1 1 4)).toNatClampNeg) = (59 : Int32) then
    let w_23 := sp w_16 1 (upd (w_16.1 1) 5 (3 : Int32))
    let w_24 := sp w_23 1 (upd (w_23.1 1) 4 ((w_23.1 1 4) + (1 : Int32)))
    w_24
    else
    let w_21 := sp w_16 1 (upd (w_16.1 1) 5 (4 : Int32))
    let w_22 := sp w_21 1 (upd (w_21.1 1) 4 ((w_21.1 1 4) + (1 : Int32)))
    w_22)
    else
    let r_25 := k_Reader_lookAtNumber w_16
    r_25)
    else
    let r_26 := k_Reader_lookAtLetters w_16
    r_26)
    else
    let w_27 := sp w_16 1 (upd (w_16.1 1) 5 (0 : Int32))
    w_27)) := by
      dsimp only
      have h3 : RI u (sp w 1 (upd (w.1 1) 3 (w.1 1 4))) := h.put (by decide) (by decide)
      split
      · rename_i hc
        have hc := xq_lt hc rfl rfl
        split
        · split
          · split
            · exact (h3.put (by decide) (by decide)).nx hL (by rw [p14 (by decide), p11 (by decide)]; exact hc)
            · exact (h3.put (by decide) (by decide)).nx hL (by rw [p14 (by decide), p11 (by decide)]; exact hc)
          · exact h3.tr (RI_num (h3.L hL) h3.2.2.1)
        · exact h3.tr (RI_let (h3.L hL) h3.2.2.1)
      · exact h3.put (by decide) (by decide)
    unfold k_Reader_look_L0
    split
    · exact tail
    · rename_i hc
      have hc := xq_nle hc rfl rfl
      split
      · exact ih _ (h.nx hL hc)
      · exact tail
theorem RI_look {u : xU} (hL : 0 ≤ (u.1 1 1).toInt ∧ (u.1 1 1).toInt ≤ 150) (hX : 0 ≤ (u.1 1 4).toInt ∧ (u.1 1 4).toInt ≤ 150) : RI u (k_Reader_look u) := by
  rw [k_Reader_look_def]
  exact RI_look_L hL _ _ ⟨fun _ _ => rfl, rfl, hX, rfl⟩
