/-! the model's reader -/
def MI (u v : xU) : Prop := (∀ k : Nat, k ≠ 0 → v.1 k = u.1 k) ∧ (∀ j : Nat, (j < 16 ∨ 19 < j) → v.1 0 j = u.1 0 j) ∧ (0 ≤ (v.1 0 16).toInt ∧ (v.1 0 16).toInt ≤ 150) ∧ (u.1 0 16).toInt ≤ (v.1 0 16).toInt ∧ v.2 = u.2
theorem MI.tr {u v w : xU} (h : MI u v) (g : MI v w) : MI u w := ⟨fun k hk => (g.1 k hk).trans (h.1 k hk), fun j hj => (g.2.1 j hj).trans (h.2.1 j hj), g.2.2.1, Int.le_trans h.2.2.2.1 g.2.2.2.1, g.2.2.2.2.trans h.2.2.2.2⟩
theorem MI.rf {u : xU} (hX : 0 ≤ (u.1 0 16).toInt ∧ (u.1 0 16).toInt ≤ 150) : MI u u := ⟨fun _ _ => rfl, fun _ _ => rfl, hX, Int.le_refl _, rfl⟩
theorem MI.put {u w : xU} {k : Nat} {x : Int32} (h : MI u w) (hk : 16 < k ∧ k ≤ 19) : MI u (sp w 0 (upd (w.1 0) k x)) := by
  refine ⟨fun j hj => (sp_ne hj).trans (h.1 j hj), fun j hj => ?_, ?_, ?_, h.2.2.2.2⟩
  · rw [sp_eq, pk_un (by omega)]; exact h.2.1 j hj
  · rw [sp_eq, pk_un (by omega)]; exact h.2.2.1
  · rw [sp_eq, pk_un (by omega)]; exact h.2.2.2.1
theorem MI.nx {u w : xU} (hL : 0 ≤ (u.1 0 15).toInt ∧ (u.1 0 15).toInt ≤ 150) (h : MI u w) (hl : (w.1 0 16).toInt < (w.1 0 15).toInt) : MI u (sp w 0 (upd (w.1 0) 16 (w.1 0 16 + 1))) ∧ (u.1 0 16).toInt < ((sp w 0 (upd (w.1 0) 16 (w.1 0 16 + 1))).1 0 16).toInt := by
  obtain ⟨h1, h2, h3, h4, h5⟩ := h
  rw [h2 15 (by omega)] at hl
  have e : (w.1 0 16 + 1).toInt = (w.1 0 16).toInt + 1 := xadd rfl rfl (by omega) (by omega)
  have e2 : ((sp w 0 (upd (w.1 0) 16 (w.1 0 16 + 1))).1 0 16).toInt = (w.1 0 16).toInt + 1 := by rw [sp_eq, pk_us, e]
  refine ⟨⟨fun j hj => (sp_ne hj).trans (h1 j hj), fun j hj => ?_, ?_, ?_, h5⟩, ?_⟩
  · rw [sp_eq, pk_un (by omega)]; exact h2 j hj
  · rw [e2]; omega
  · rw [e2]; omega
  · rw [e2]; omega
theorem q0 {w : xU} {k j : Nat} {x : Int32} (h : j ≠ k) : (sp w 0 (upd (w.1 0) k x)).1 0 j = w.1 0 j := by rw [sp_eq, pk_un h]
theorem q1 {w : xU} {k : Nat} {x : Int32} : (sp w 0 (upd (w.1 0) k x)).1 0 k = x := by rw [sp_eq, pk_us]
/-- what a token leaves: 2 only behind a step -/
def MN (u v : xU) : Prop := MI u v ∧ (v.1 0 18 = 2 → (u.1 0 16).toInt < (v.1 0 16).toInt)
theorem MN_180 {u : xU} (hL : 0 ≤ (u.1 0 15).toInt ∧ (u.1 0 15).toInt ≤ 150) (x1 : Int32) : ∀ (n : Nat) (w : xU), MI u w → ((w.1 0 15).toInt - (w.1 0 16).toInt < (n : Int) ∧ 1 ≤ n) → MN u (m_next_L180 x1 n w) := by
  intro n
  induction n with
  | zero => intro w h hn; exact absurd hn.2 (by decide)
  | succ n ih =>
    intro w h hn
    unfold m_next_L180
    split
    · dsimp only
      split
      · refine ⟨(h.put (by decide)).put (by decide), fun z => ?_⟩
        rw [q0 (by decide), q1] at z; exact absurd z (by decide)
      · refine ⟨(h.put (by decide)).put (by decide), fun z => ?_⟩
        rw [q0 (by decide), q1] at z; exact absurd z (by decide)
    · rename_i hc
      have hl := hk_ll hc
      obtain ⟨g1, g2⟩ := h.nx hL hl
      have e : (w.1 0 16 + 1).toInt = (w.1 0 16).toInt + 1 := xadd rfl rfl (by have := h.2.2.1; omega) (by have := h.2.2.1; omega)
      exact ih _ g1 (by rw [q0 (by decide), q1, e]; constructor <;> omega)
theorem MN_67 {u : xU} (hL : 0 ≤ (u.1 0 15).toInt ∧ (u.1 0 15).toInt ≤ 150) (x1 : Int32) : ∀ (n : Nat) (w : xU), MI u w → (u.1 0 16).toInt < (w.1 0 16).toInt → MI u (m_next_L67 x1 n w) ∧ (u.1 0 16).toInt < ((m_next_L67 x1 n w).1 0 16).toInt := by
  intro n
  induction n with
  | zero => intro w h hs; exact ⟨h, hs⟩
  | succ n ih =>
    intro w h hs
    unfold m_next_L67
    split
    · repeat' split
      all_goals exact ⟨h.put (by decide), by rw [q0 (by decide)]; exact hs⟩
    · rename_i hc
      have hl := hk_lf hc
      split
      · have h2 : MI u (sp w 0 (upd (w.1 0) 19 ((((10 : Int32) * (w.1 0 19)) + (m_letterAt w (w.1 0 16))) - (48 : Int32)))) := h.put (by decide)
        obtain ⟨g1, g2⟩ := h2.nx hL (by rw [q0 (by decide), q0 (by decide)]; exact hl)
        exact ih _ g1 g2
      · have h2 : MI u (sp w 0 (upd (w.1 0) 19 (w.1 0 19))) := h.put (by decide)
        obtain ⟨g1, g2⟩ := h2.nx hL (by rw [q0 (by decide), q0 (by decide)]; exact hl)
        exact ih _ g1 g2
theorem let_same {w : xU} {k : Nat} {x : Int32} (h : k ≠ 15) (c : Int32) : m_letterAt (sp w 0 (upd (w.1 0) k x)) c = m_letterAt w c := by
  unfold m_letterAt
  rw [q0 (Ne.symm h), sp_ne (by decide)]
theorem MN_0 {u : xU} (hL : 0 ≤ (u.1 0 15).toInt ∧ (u.1 0 15).toInt ≤ 150) : ∀ (n : Nat) (w : xU), MI u w → ((w.1 0 15).toInt - (w.1 0 16).toInt < (n : Int) ∧ 1 ≤ n) → MN u (m_next_L0 n w) := by
  intro n
  induction n with
  | zero => intro w h hn; exact absurd hn.2 (by decide)
  | succ n ih =>
    intro w h hn
    have hx := h.2.2.1
    have hl0 : (w.1 0 15).toInt ≤ 150 := by rw [h.2.1 15 (by omega)]; exact hL.2
    unfold m_next_L0
    split
    · rename_i hc
      have hl := hk_l32 hc
      obtain ⟨g1, g2⟩ := h.nx hL hl
      have e : (w.1 0 16 + 1).toInt = (w.1 0 16).toInt + 1 := xadd rfl rfl (by omega) (by omega)
      exact ih _ g1 (by rw [q0 (by decide), q1, e]; constructor <;> omega)
    · dsimp only
      generalize hw3 : sp w 0 (upd (w.1 0) 17 (w.1 0 16)) = w3
      have h3 : MI u w3 := by rw [← hw3]; exact h.put (by decide)
      have c3 : w3.1 0 16 = w.1 0 16 := by rw [← hw3]; exact q0 (by decide)
      have t3 : w3.1 0 15 = w.1 0 15 := by rw [← hw3]; exact q0 (by decide)
      generalize hw4 : sp w3 0 (upd (w3.1 0) 19 (0 : Int32)) = w4
      have h4 : MI u w4 := by rw [← hw4]; exact h3.put (by decide)
      have c4 : w4.1 0 16 = w3.1 0 16 := by rw [← hw4]; exact q0 (by decide)
      have t4 : w4.1 0 15 = w3.1 0 15 := by rw [← hw4]; exact q0 (by decide)
      split
      · rename_i hp
        have hl := hk_l0 hp
        split
        · split
          · split
            · have h5 : MI u (sp w4 0 (upd (w4.1 0) 18 (3 : Int32))) := h4.put (by decide)
              obtain ⟨g1, g2⟩ := h5.nx hL (by rw [q0 (by decide), q0 (by decide), c4, t4]; exact hl)
              exact ⟨g1, fun _ => g2⟩
            · have h5 : MI u (sp w4 0 (upd (w4.1 0) 18 (4 : Int32))) := h4.put (by decide)
              obtain ⟨g1, g2⟩ := h5.nx hL (by rw [q0 (by decide), q0 (by decide), c4, t4]; exact hl)
              exact ⟨g1, fun _ => g2⟩
          · exact MN_180 hL _ _ _ h4 (by rw [c4, t4, c3, t3]; constructor <;> omega)
        · rename_i hf
          have hlt : m_letterAt w4 (w4.1 0 16) = m_letterAt w3 (w3.1 0 16) := by rw [c4, ← hw4]; exact let_same (by decide) _
          have key : ∀ n, MI u (m_next_L67 (m_letterAt w3 (w3.1 0 16)) (n + 1) w4) ∧ (u.1 0 16).toInt < ((m_next_L67 (m_letterAt w3 (w3.1 0 16)) (n + 1) w4).1 0 16).toInt := by
            intro n
            unfold m_next_L67
            rw [hlt, if_neg hf]
            split
            · have h2 : MI u (sp w4 0 (upd (w4.1 0) 19 ((((10 : Int32) * (w4.1 0 19)) + (m_letterAt w3 (w3.1 0 16))) - (48 : Int32)))) := h4.put (by decide)
              obtain ⟨g1, g2⟩ := h2.nx hL (by rw [q0 (by decide), q0 (by decide), c4, t4]; exact hl)
              exact MN_67 hL _ _ _ g1 g2
            · have h2 : MI u (sp w4 0 (upd (w4.1 0) 19 (w4.1 0 19))) := h4.put (by decide)
              obtain ⟨g1, g2⟩ := h2.nx hL (by rw [q0 (by decide), q0 (by decide), c4, t4]; exact hl)
              exact MN_67 hL _ _ _ g1 g2
          exact ⟨(key 150).1, fun _ => (key 150).2⟩
      · refine ⟨h4.put (by decide), fun z => ?_⟩
        rw [q1] at z; exact absurd z (by decide)
theorem MN_next {u : xU} (hL : 0 ≤ (u.1 0 15).toInt ∧ (u.1 0 15).toInt ≤ 150) (hX : 0 ≤ (u.1 0 16).toInt ∧ (u.1 0 16).toInt ≤ 150) : MN u (m_next u) := by
  rw [m_next_def]
  exact MN_0 hL 151 u (MI.rf hX) (by constructor <;> omega)
def MT (u v : xU) : Prop := (∀ k : Nat, k ≠ 0 → v.1 k = u.1 k) ∧ (∀ j : Nat, (j < 16 ∨ 20 < j) → v.1 0 j = u.1 0 j) ∧ (0 ≤ (v.1 0 16).toInt ∧ (v.1 0 16).toInt ≤ 150) ∧ (u.1 0 16).toInt ≤ (v.1 0 16).toInt ∧ v.2 = u.2 ∧ (v.1 0 20 = 0 → u.1 0 18 = 2 ∧ u.1 0 20 = 0)
theorem MT.L {u v : xU} (hL : 0 ≤ (u.1 0 15).toInt ∧ (u.1 0 15).toInt ≤ 150) (h : MT u v) : 0 ≤ (v.1 0 15).toInt ∧ (v.1 0 15).toInt ≤ 150 := by rw [h.2.1 15 (by omega)]; exact hL
theorem MT_bad {u : xU} (hX : 0 ≤ (u.1 0 16).toInt ∧ (u.1 0 16).toInt ≤ 150) : MT u (sp u 0 (upd (u.1 0) 20 1)) := by
  refine ⟨fun k hk => sp_ne hk, fun j hj => q0 (by omega), by rw [q0 (by decide)]; exact hX, by rw [q0 (by decide)]; exact Int.le_refl _, rfl, fun z => ?_⟩
  rw [q1] at z; exact absurd z (by decide)
theorem MT_take {u : xU} {a b : Int32} (hL : 0 ≤ (u.1 0 15).toInt ∧ (u.1 0 15).toInt ≤ 150) (hX : 0 ≤ (u.1 0 16).toInt ∧ (u.1 0 16).toInt ≤ 150) : MT u (m_takesNumber u a b).2 := by
  rw [m_takesNumber_def]; unfold m_takesNumber_b
  split
  · rename_i h0
    split
    · rename_i h2
      split
      · exact MT_bad hX
      · have g := (MN_next (u := sp u 0 (upd (u.1 0) 20 (0 : Int32))) (by rw [q0 (by decide)]; exact hL) (by rw [q0 (by decide)]; exact hX)).1
        obtain ⟨g1, g2, g3, g4, g5⟩ := g
        rw [q0 (by decide)] at g4
        exact ⟨fun k hk => (g1 k hk).trans (sp_ne hk), fun j hj => (g2 j (by omega)).trans (q0 (by omega)), g3, g4, g5, fun _ => ⟨h2, h0⟩⟩
    · exact MT_bad hX
  · exact MT_bad hX
