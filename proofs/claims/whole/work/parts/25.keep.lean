def FI (w : xU) : Prop := (0 ≤ (w.1 1 1).toInt ∧ (w.1 1 1).toInt ≤ 150) ∧ (0 ≤ (w.1 1 4).toInt ∧ (w.1 1 4).toInt ≤ 150) ∧ (0 ≤ (w.1 4 0).toInt ∧ (w.1 4 0).toInt ≤ 8) ∧ (0 ≤ (w.1 4 1).toInt ∧ (w.1 4 1).toInt ≤ 6)
def FG (x1 : Int32) (w : xU) : Prop := (x1 = 0 ∧ (w.1 4 1).toInt < 6) ∨ (¬ x1 = 0 ∧ (w.1 4 0).toInt < 8)
theorem FI_look {w : xU} (h : FI w) : FI (k_Reader_look w) ∧ (k_Reader_look w).1 4 = w.1 4 := by
  have q := RI_look h.1 h.2.1
  have e := q.1 4 (by decide)
  refine ⟨⟨q.L h.1, q.2.2.1, ?_, ?_⟩, e⟩
  · rw [e]; exact h.2.2.1
  · rw [e]; exact h.2.2.2
theorem FI_addThing {w : xU} (h : FI w) (g : (w.1 4 0).toInt < 8) : FI (k_Told_addThing w) := by
  have e : (k_Told_addThing w).1 1 = w.1 1 := by rw [k_Told_addThing_def]; rfl
  have e0 : (k_Told_addThing w).1 4 0 = w.1 4 0 + 1 := by rw [k_Told_addThing_def]; rfl
  have e1 : (k_Told_addThing w).1 4 1 = w.1 4 1 := by rw [k_Told_addThing_def]; rfl
  obtain ⟨h1, h2, h3, h4⟩ := h
  have e2 : (w.1 4 0 + 1).toInt = (w.1 4 0).toInt + 1 := xadd rfl rfl (by omega) (by omega)
  refine ⟨by rw [e]; exact h1, by rw [e]; exact h2, ?_, by rw [e1]; exact h4⟩
  rw [e0, e2]; omega
theorem FI_addCast {w : xU} (h : FI w) (g : (w.1 4 1).toInt < 6) : FI (k_Told_addCast w) := by
  have e : (k_Told_addCast w).1 1 = w.1 1 := by rw [k_Told_addCast_def]; rfl
  have e0 : (k_Told_addCast w).1 4 1 = w.1 4 1 + 1 := by rw [k_Told_addCast_def]; rfl
  have e1 : (k_Told_addCast w).1 4 0 = w.1 4 0 := by rw [k_Told_addCast_def]; rfl
  obtain ⟨h1, h2, h3, h4⟩ := h
  have e2 : (w.1 4 1 + 1).toInt = (w.1 4 1).toInt + 1 := xadd rfl rfl (by omega) (by omega)
  refine ⟨by rw [e]; exact h1, by rw [e]; exact h2, by rw [e1]; exact h3, ?_⟩
  rw [e0, e2]; omega
theorem FI_L97 (x1 x3 : Int32) : ∀ (n : Nat) (x : Int32) (w : xU), FI w → FG x1 w → FI (k_Reader_readsItem_L97 x1 x3 n x w).2 := by
  intro n
  induction n with
  | zero => intro x w h g; exact h
  | succ n ih =>
    intro x w h g
    have next : FI (k_Reader_look (sp w 3 (upd (w.1 3) (x).toNatClampNeg (w.1 1 6)))) ∧ FG x1 (k_Reader_look (sp w 3 (upd (w.1 3) (x).toNatClampNeg (w.1 1 6)))) := by
      obtain ⟨q1, q2⟩ := FI_look (w := sp w 3 (upd (w.1 3) (x).toNatClampNeg (w.1 1 6))) h
      refine ⟨q1, ?_⟩
      unfold FG
      rw [q2]
      exact g
    unfold k_Reader_readsItem_L97
    split
    · split
      · obtain ⟨q1, q2⟩ := FI_look h
        dsimp only
        unfold FG at g
        rw [← q2] at g
        split
        · rename_i hz
          exact FI_addCast q1 (g.elim (fun z => z.2) (fun z => absurd hz z.1))
        · rename_i hz
          exact FI_addThing q1 (g.elim (fun z => absurd z.1 hz) (fun z => z.2))
      · exact h
    · split
      · split
        · exact h
        · exact ih _ _ next.1 next.2
      · split
        · exact h
        · exact ih _ _ next.1 next.2
theorem FI_J70 (w : xU) (x1 x2 : Int32) (h : FI w) (g1 : x1 = 0 ∨ (w.1 4 0).toInt < 8) (g2 : x2 = 0 ∨ (w.1 4 1).toInt < 6) : FI (k_Reader_readsItem_J70 w x1 x2).2 := by
  obtain ⟨q1, q2⟩ := FI_look h
  unfold k_Reader_readsItem_J70
  split
  · rename_i hz
    split
    · exact h
    · rename_i hy
      exact FI_L97 _ _ _ _ _ q1 (Or.inl ⟨hz, by rw [q2]; exact g2.elim (fun z => absurd z hy) id⟩)
  · rename_i hz
    exact FI_L97 _ _ _ _ _ q1 (Or.inr ⟨hz, by rw [q2]; exact g1.elim (fun z => absurd z hz) id⟩)
theorem FI_item0 {u : xU} (h : FI u) : FI (k_Reader_readsItem u).2 := by
  rw [k_Reader_readsItem_def]
  unfold k_Reader_readsItem_b
  repeat' split
  all_goals refine FI_J70 _ _ _ h ?_ ?_
  all_goals first | exact Or.inl rfl | exact Or.inr (xq_nle (by assumption) rfl rfl)
theorem FI_item {u : xU} (h1 : 0 ≤ (u.1 1 1).toInt ∧ (u.1 1 1).toInt ≤ 150) (h2 : 0 ≤ (u.1 1 4).toInt ∧ (u.1 1 4).toInt ≤ 150) (h3 : 0 ≤ (u.1 4 0).toInt ∧ (u.1 4 0).toInt ≤ 8) (h4 : 0 ≤ (u.1 4 1).toInt ∧ (u.1 4 1).toInt ≤ 6) : FI (k_Reader_readsItem u).2 := FI_item0 ⟨h1, h2, h3, h4⟩
