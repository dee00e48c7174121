def MJ (u v : xU) : Prop := ((0 ≤ (v.1 0 15).toInt ∧ (v.1 0 15).toInt ≤ 150) ∧ (0 ≤ (v.1 0 16).toInt ∧ (v.1 0 16).toInt ≤ 150) ∧ (0 ≤ (v.1 0 22).toInt ∧ (v.1 0 22).toInt ≤ 8) ∧ (0 ≤ (v.1 0 27).toInt ∧ (v.1 0 27).toInt ≤ 6)) ∧ (v.1 0 20 = 0 → (u.1 0 16).toInt < (v.1 0 16).toInt) ∧ v.1 0 15 = u.1 0 15
theorem MJ.bad {u r : xU} (h : MJ u r) : MJ u (sp r 0 (upd (r.1 0) 20 1)) := by
  obtain ⟨⟨h1, h2, h3, h4⟩, h5, h6⟩ := h
  refine ⟨⟨?_, ?_, ?_, ?_⟩, fun z => ?_, ?_⟩
  · rw [q0 (by decide)]; exact h1
  · rw [q0 (by decide)]; exact h2
  · rw [q0 (by decide)]; exact h3
  · rw [q0 (by decide)]; exact h4
  · rw [q1] at z; exact absurd z (by decide)
  · rw [q0 (by decide)]; exact h6
theorem MJ_bad0 {u : xU} (h1 : 0 ≤ (u.1 0 15).toInt ∧ (u.1 0 15).toInt ≤ 150) (h2 : 0 ≤ (u.1 0 16).toInt ∧ (u.1 0 16).toInt ≤ 150) (h3 : 0 ≤ (u.1 0 22).toInt ∧ (u.1 0 22).toInt ≤ 8) (h4 : 0 ≤ (u.1 0 27).toInt ∧ (u.1 0 27).toInt ≤ 6) : MJ u (sp u 0 (upd (u.1 0) 20 1)) := by
  refine ⟨⟨?_, ?_, ?_, ?_⟩, fun z => ?_, ?_⟩
  · rw [q0 (by decide)]; exact h1
  · rw [q0 (by decide)]; exact h2
  · rw [q0 (by decide)]; exact h3
  · rw [q0 (by decide)]; exact h4
  · rw [q1] at z; exact absurd z (by decide)
  · rw [q0 (by decide)]
theorem MJ_tail {u r : xU} (h : MJ u r) : MJ u (if (r.1 0 20) = (0 : Int32) then (if (r.1 0 18) = (3 : Int32) then m_next (sp r 0 (upd (r.1 0) 20 (0 : Int32))) else sp r 0 (upd (r.1 0) 20 (1 : Int32))) else sp r 0 (upd (r.1 0) 20 (1 : Int32))) := by
  split
  · rename_i hz
    split
    · have hh := h
      obtain ⟨⟨h1, h2, h3, h4⟩, h5, h6⟩ := h
      have g := (MN_next (u := sp r 0 (upd (r.1 0) 20 (0 : Int32))) (by rw [q0 (by decide)]; exact h1) (by rw [q0 (by decide)]; exact h2)).1
      obtain ⟨g1, g2, g3, g4, g5⟩ := g
      rw [q0 (by decide)] at g4
      have e15 := (g2 15 (by decide)).trans (q0 (w := r) (k := 20) (x := 0) (by decide))
      have e22 := (g2 22 (by decide)).trans (q0 (w := r) (k := 20) (x := 0) (by decide))
      have e27 := (g2 27 (by decide)).trans (q0 (w := r) (k := 20) (x := 0) (by decide))
      refine ⟨⟨?_, g3, ?_, ?_⟩, fun _ => ?_, e15.trans h6⟩
      · rw [e15]; exact h1
      · rw [e22]; exact h3
      · rw [e27]; exact h4
      · exact Int.lt_of_lt_of_le (h5 hz) g4
    · exact h.bad
  · exact h.bad
theorem MJ_thing {u : xU} (h1 : 0 ≤ (u.1 0 15).toInt ∧ (u.1 0 15).toInt ≤ 150) (h2 : 0 ≤ (u.1 0 16).toInt ∧ (u.1 0 16).toInt ≤ 150) (h3 : 0 ≤ (u.1 0 22).toInt ∧ (u.1 0 22).toInt < 8) (h4 : 0 ≤ (u.1 0 27).toInt ∧ (u.1 0 27).toInt ≤ 6) : MJ u (m_readThing (m_next u)) := by
  obtain ⟨⟨g1, g2, g3, g4, g5⟩, g6⟩ := MN_next h1 h2
  have e15 := g2 15 (by decide)
  have e22 := g2 22 (by decide)
  have e27 := g2 27 (by decide)
  obtain ⟨⟨k1, k2, k3, k4⟩, k5, k6⟩ := MR_thing0 (u := m_next u) (by rw [e15]; exact h1) g3
  have e : (u.1 0 22 + 1).toInt = (u.1 0 22).toInt + 1 := xadd rfl rfl (by omega) (by omega)
  refine ⟨⟨by rw [k1, e15]; exact h1, k2, by rw [k5, e22, e]; omega, by rw [k6, e27]; exact h4⟩, fun z => Int.lt_of_lt_of_le (g6 (k4 z)) k3, k1.trans e15⟩
theorem MJ_cast {u : xU} (h1 : 0 ≤ (u.1 0 15).toInt ∧ (u.1 0 15).toInt ≤ 150) (h2 : 0 ≤ (u.1 0 16).toInt ∧ (u.1 0 16).toInt ≤ 150) (h3 : 0 ≤ (u.1 0 22).toInt ∧ (u.1 0 22).toInt ≤ 8) (h4 : 0 ≤ (u.1 0 27).toInt ∧ (u.1 0 27).toInt < 6) : MJ u (m_readCast (m_next u)) := by
  obtain ⟨⟨g1, g2, g3, g4, g5⟩, g6⟩ := MN_next h1 h2
  have e15 := g2 15 (by decide)
  have e22 := g2 22 (by decide)
  have e27 := g2 27 (by decide)
  obtain ⟨⟨k1, k2, k3, k4⟩, k5, k6⟩ := MR_cast0 (u := m_next u) (by rw [e15]; exact h1) g3
  have e : (u.1 0 27 + 1).toInt = (u.1 0 27).toInt + 1 := xadd rfl rfl (by omega) (by omega)
  refine ⟨⟨by rw [k1, e15]; exact h1, k2, by rw [k6, e22]; exact h3, by rw [k5, e27, e]; omega⟩, fun z => Int.lt_of_lt_of_le (g6 (k4 z)) k3, k1.trans e15⟩
theorem MJ_item {u : xU} (h1 : 0 ≤ (u.1 0 15).toInt ∧ (u.1 0 15).toInt ≤ 150) (h2 : 0 ≤ (u.1 0 16).toInt ∧ (u.1 0 16).toInt ≤ 150) (h3 : 0 ≤ (u.1 0 22).toInt ∧ (u.1 0 22).toInt ≤ 8) (h4 : 0 ≤ (u.1 0 27).toInt ∧ (u.1 0 27).toInt ≤ 6) : MJ u (m_readItem u) := by
  have hb := MJ_bad0 h1 h2 h3 h4
  rw [m_readItem_def]; unfold m_readItem_b
  by_cases a1 : u.1 0 19 = 116
  · rw [if_pos a1]
    split
    · split <;> exact hb
    · rename_i a2
      have a2 : (u.1 0 22).toInt < 8 := xq_nle a2 rfl rfl
      split
      · exact MJ_tail (MJ_thing h1 h2 (by omega) h4)
      · exact hb
  · rw [if_neg a1]
    split
    · split
      · split <;> exact hb
      · rename_i a2
        have a2 : (u.1 0 27).toInt < 6 := xq_nle a2 rfl rfl
        split
        · exact MJ_tail (MJ_cast h1 h2 h3 (by omega))
        · exact hb
    · split <;> exact hb
theorem MR_item {u : xU} (h1 : 0 ≤ (u.1 0 15).toInt ∧ (u.1 0 15).toInt ≤ 150) (h2 : 0 ≤ (u.1 0 16).toInt ∧ (u.1 0 16).toInt ≤ 150) (h3 : 0 ≤ (u.1 0 22).toInt ∧ (u.1 0 22).toInt ≤ 8) (h4 : 0 ≤ (u.1 0 27).toInt ∧ (u.1 0 27).toInt ≤ 6) : ((0 ≤ ((m_readItem u).1 0 15).toInt ∧ ((m_readItem u).1 0 15).toInt ≤ 150) ∧ (0 ≤ ((m_readItem u).1 0 16).toInt ∧ ((m_readItem u).1 0 16).toInt ≤ 150) ∧ (0 ≤ ((m_readItem u).1 0 22).toInt ∧ ((m_readItem u).1 0 22).toInt ≤ 8) ∧ (0 ≤ ((m_readItem u).1 0 27).toInt ∧ ((m_readItem u).1 0 27).toInt ≤ 6)) ∧ (if (m_readItem u).1 0 20 = (0 : Int32) then 151 - ((m_readItem u).1 0 16).toInt else (0 : Int)) < 151 - (u.1 0 16).toInt := by
  obtain ⟨k1, k2, k3⟩ := MJ_item h1 h2 h3 h4
  refine ⟨k1, ?_⟩
  split
  · rename_i hz
    have := k2 hz
    omega
  · omega
