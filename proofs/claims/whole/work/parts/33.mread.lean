def MC (u v : xU) : Prop := v.1 0 15 = u.1 0 15 ∧ (0 ≤ (v.1 0 16).toInt ∧ (v.1 0 16).toInt ≤ 150) ∧ (u.1 0 16).toInt ≤ (v.1 0 16).toInt ∧ (v.1 0 20 = 0 → u.1 0 18 = 2 ∧ u.1 0 20 = 0) ∧ v.1 0 22 = u.1 0 22 ∧ v.1 0 27 = u.1 0 27
theorem MT.C {u v : xU} (h : MT u v) : MC u v := ⟨h.2.1 15 (by decide), h.2.2.1, h.2.2.2.1, h.2.2.2.2.2, h.2.1 22 (by decide), h.2.1 27 (by decide)⟩
theorem MC.tr {u v w : xU} (h : MC u v) (g : MC v w) : MC u w := ⟨g.1.trans h.1, g.2.1, Int.le_trans h.2.2.1 g.2.2.1, fun z => h.2.2.2.1 (g.2.2.2.1 z).2, g.2.2.2.2.1.trans h.2.2.2.2.1, g.2.2.2.2.2.trans h.2.2.2.2.2⟩
theorem MC_take {u v : xU} {a b : Int32} (hL : 0 ≤ (u.1 0 15).toInt ∧ (u.1 0 15).toInt ≤ 150) (h : MC u v) : MC u (m_takesNumber v a b).2 := h.tr (MT_take (by rw [h.1]; exact hL) h.2.1).C
/-- what an item's reading leaves -/
def MR (u v : xU) : Prop := v.1 0 15 = u.1 0 15 ∧ (0 ≤ (v.1 0 16).toInt ∧ (v.1 0 16).toInt ≤ 150) ∧ (u.1 0 16).toInt ≤ (v.1 0 16).toInt ∧ (v.1 0 20 = 0 → u.1 0 18 = 2)
theorem MR_thing0 {u : xU} (hL : 0 ≤ (u.1 0 15).toInt ∧ (u.1 0 15).toInt ≤ 150) (hX : 0 ≤ (u.1 0 16).toInt ∧ (u.1 0 16).toInt ≤ 150) : MR u (m_readThing u) ∧ (m_readThing u).1 0 22 = u.1 0 22 + 1 ∧ (m_readThing u).1 0 27 = u.1 0 27 := by
  rw [m_readThing_def]; unfold m_readThing_b; dsimp only
  have h1 : MC u (m_takesNumber u 0 9).2 := (MT_take hL hX).C
  generalize (m_takesNumber u 0 9) = r1 at h1 ⊢
  have h2 : MC u (m_takesNumber (sp r1.2 12 (upd (r1.2.1 12) ((u.1 0 22)).toNatClampNeg r1.1)) 1 30).2 := MC_take hL h1
  generalize (m_takesNumber (sp r1.2 12 (upd (r1.2.1 12) ((u.1 0 22)).toNatClampNeg r1.1)) 1 30) = r2 at h2 ⊢
  have h3 : MC u (m_takesNumber (sp r2.2 13 (upd (r2.2.1 13) ((u.1 0 22)).toNatClampNeg r2.1)) 0 6).2 := MC_take hL h2
  generalize (m_takesNumber (sp r2.2 13 (upd (r2.2.1 13) ((u.1 0 22)).toNatClampNeg r2.1)) 0 6) = r3 at h3 ⊢
  have h4 : MC u (m_takesNumber (sp r3.2 14 (upd (r3.2.1 14) ((u.1 0 22)).toNatClampNeg r3.1)) 0 (u.1 0 22)).2 := MC_take hL h3
  generalize (m_takesNumber (sp r3.2 14 (upd (r3.2.1 14) ((u.1 0 22)).toNatClampNeg r3.1)) 0 (u.1 0 22)) = r4 at h4 ⊢
  have h5 : MC u (m_takesNumber r4.2 0 (u.1 0 22)).2 := MC_take hL h4
  generalize (m_takesNumber r4.2 0 (u.1 0 22)) = r5 at h5 ⊢
  obtain ⟨g1, g2, g3, g4, g5, g6⟩ := h5
  rw [sp_eq]
  refine ⟨⟨?_, ?_, ?_, ?_⟩, ?_, ?_⟩
  · rw [sp_eq, pk_un (by decide)]; exact g1
  · rw [sp_eq, pk_un (by decide)]; exact g2
  · rw [sp_eq, pk_un (by decide)]; exact g3
  · rw [sp_eq, pk_un (by decide)]; exact fun z => (g4 z).1
  · rw [pk_us, g5]
  · rw [pk_un (by decide)]; exact g6
theorem MR_cast0 {u : xU} (hL : 0 ≤ (u.1 0 15).toInt ∧ (u.1 0 15).toInt ≤ 150) (hX : 0 ≤ (u.1 0 16).toInt ∧ (u.1 0 16).toInt ≤ 150) : MR u (m_readCast u) ∧ (m_readCast u).1 0 27 = u.1 0 27 + 1 ∧ (m_readCast u).1 0 22 = u.1 0 22 := by
  rw [m_readCast_def]; unfold m_readCast_b; dsimp only
  have h1 : MC u (m_takesNumber u 1 99).2 := (MT_take hL hX).C
  generalize (m_takesNumber u 1 99) = r1 at h1 ⊢
  have h2 : MC u (m_takesNumber (sp r1.2 16 (upd (r1.2.1 16) ((u.1 0 27)).toNatClampNeg r1.1)) 1 9).2 := MC_take hL h1
  generalize (m_takesNumber (sp r1.2 16 (upd (r1.2.1 16) ((u.1 0 27)).toNatClampNeg r1.1)) 1 9) = r2 at h2 ⊢
  have h3 : MC u (m_takesNumber (sp r2.2 17 (upd (r2.2.1 17) ((r1.2.1 0 27)).toNatClampNeg r2.1)) 0 63).2 := MC_take hL h2
  generalize (m_takesNumber (sp r2.2 17 (upd (r2.2.1 17) ((r1.2.1 0 27)).toNatClampNeg r2.1)) 0 63) = r3 at h3 ⊢
  obtain ⟨g1, g2, g3, g4, g5, g6⟩ := h3
  rw [sp_eq]
  refine ⟨⟨?_, ?_, ?_, ?_⟩, ?_, ?_⟩
  · rw [sp_eq, pk_un (by decide)]; exact g1
  · rw [sp_eq, pk_un (by decide)]; exact g2
  · rw [sp_eq, pk_un (by decide)]; exact g3
  · rw [sp_eq, pk_un (by decide)]; exact fun z => (g4 z).1
  · rw [pk_us, g6]
  · rw [pk_un (by decide)]; exact g5
theorem MR_thing {u : xU} (hL : 0 ≤ (u.1 0 15).toInt ∧ (u.1 0 15).toInt ≤ 150) (hX : 0 ≤ (u.1 0 16).toInt ∧ (u.1 0 16).toInt ≤ 150) : MR u (m_readThing u) := (MR_thing0 hL hX).1
theorem MR_cast {u : xU} (hL : 0 ≤ (u.1 0 15).toInt ∧ (u.1 0 15).toInt ≤ 150) (hX : 0 ≤ (u.1 0 16).toInt ∧ (u.1 0 16).toInt ≤ 150) : MR u (m_readCast u) := (MR_cast0 hL hX).1
