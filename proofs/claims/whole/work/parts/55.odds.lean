/-! ===== PURE: odds ===== -/
theorem odds_w95 (w w' : xU) (kk kk' : Int32 → Int32 → Int32) (hk : ∀ a b, kk a b = kk' a b) (x1 x2 x3 x4 x5 x6 x7 : Int32) : ∀ (n : Nat) (x8 x9 : Int32), m_odds_L95 kk w x1 x2 x3 x4 x5 x6 x7 n x8 x9 = m_odds_L95 kk' w' x1 x2 x3 x4 x5 x6 x7 n x8 x9 := by
  intro n
  induction n with
  | zero => intro x8 x9; rfl
  | succ n ih => intro x8 x9; unfold m_odds_L95; simp only [ih, hk]
theorem odds_w80 (w w' : xU) (x1 x2 x3 x4 x6 : Int32) : ∀ (n : Nat) (x5 x7 : Int32), m_odds_L80 w x1 x2 x3 x4 x6 n x5 x7 = m_odds_L80 w' x1 x2 x3 x4 x6 n x5 x7 := by
  intro n
  induction n with
  | zero => intro x8 x9; rfl
  | succ n ih => intro x8 x9; unfold m_odds_L80; rw [odds_w95 w w' _ (fun z5 z7 => m_odds_L80 w' x1 x2 x3 x4 x6 n z5 z7) (fun a b => ih a b)]
theorem odds_w57 (w w' : xU) (x1 x2 x3 x4 : Int32) : ∀ (n : Nat) (x6 x7 : Int32), m_odds_L57 w x1 x2 x3 x4 n x6 x7 = m_odds_L57 w' x1 x2 x3 x4 n x6 x7 := by
  intro n
  induction n with
  | zero => intro x8 x9; rfl
  | succ n ih => intro x8 x9; unfold m_odds_L57; rw [ih, odds_w80 w w']
def k_o (wh x k p3 : Int32) : Int32 :=
    let t_7 := (k_waysToFall wh x k)
    let t_8 := (k_power (10 : Int32) wh)
    (if p3 = (0 : Int32) then
    (t_7 / (k_commonDivisor t_7 t_8))
    else
    (t_8 / (k_commonDivisor t_7 t_8)))
def m_o (wh x k p3 : Int32) : Int32 := m_odds_L57 u0M x k p3 wh 8 (1 : Int32) (0 : Int32)
theorem odds0 : ∀ (x : Fin 11) (k : Fin 7) (w : Fin 2), k_o (nI 0) (nI x.val) (nI k.val) (nI w.val) = m_o (nI 0) (nI x.val) (nI k.val) (nI w.val) := by decide +kernel
theorem odds1 : ∀ (x : Fin 11) (k : Fin 7) (w : Fin 2), k_o (nI 1) (nI x.val) (nI k.val) (nI w.val) = m_o (nI 1) (nI x.val) (nI k.val) (nI w.val) := by decide +kernel
theorem odds2 : ∀ (x : Fin 11) (k : Fin 7) (w : Fin 2), k_o (nI 2) (nI x.val) (nI k.val) (nI w.val) = m_o (nI 2) (nI x.val) (nI k.val) (nI w.val) := by decide +kernel
theorem odds3 : ∀ (x : Fin 11) (k : Fin 7) (w : Fin 2), k_o (nI 3) (nI x.val) (nI k.val) (nI w.val) = m_o (nI 3) (nI x.val) (nI k.val) (nI w.val) := by decide +kernel
theorem odds4 : ∀ (x : Fin 11) (k : Fin 7) (w : Fin 2), k_o (nI 4) (nI x.val) (nI k.val) (nI w.val) = m_o (nI 4) (nI x.val) (nI k.val) (nI w.val) := by decide +kernel
theorem odds5 : ∀ (x : Fin 11) (k : Fin 7) (w : Fin 2), k_o (nI 5) (nI x.val) (nI k.val) (nI w.val) = m_o (nI 5) (nI x.val) (nI k.val) (nI w.val) := by decide +kernel
theorem odds6 : ∀ (x : Fin 11) (k : Fin 7) (w : Fin 2), k_o (nI 6) (nI x.val) (nI k.val) (nI w.val) = m_o (nI 6) (nI x.val) (nI k.val) (nI w.val) := by decide +kernel
theorem odds_eq {wh x k w : Int32} (h1 : 0 ≤ wh.toInt ∧ wh.toInt < 7) (h2 : 0 ≤ x.toInt ∧ x.toInt < 11) (h3 : 0 ≤ k.toInt ∧ k.toInt < 7) (h4 : 0 ≤ w.toInt ∧ w.toInt < 2) : k_o wh x k w = m_o wh x k w := by
  obtain ⟨a, ha, rfl⟩ := xof8 (n := 7) h1.1 h1.2 (by decide)
  obtain ⟨b, hb, rfl⟩ := xof8 (n := 11) h2.1 h2.2 (by decide)
  obtain ⟨c, hc, rfl⟩ := xof8 (n := 7) h3.1 h3.2 (by decide)
  obtain ⟨d, hd, rfl⟩ := xof8 (n := 2) h4.1 h4.2 (by decide)
  rcases (show a = 0 ∨ a = 1 ∨ a = 2 ∨ a = 3 ∨ a = 4 ∨ a = 5 ∨ a = 6 by omega) with rfl | rfl | rfl | rfl | rfl | rfl | rfl
  · exact odds0 ⟨b, hb⟩ ⟨c, hc⟩ ⟨d, hd⟩
  · exact odds1 ⟨b, hb⟩ ⟨c, hc⟩ ⟨d, hd⟩
  · exact odds2 ⟨b, hb⟩ ⟨c, hc⟩ ⟨d, hd⟩
  · exact odds3 ⟨b, hb⟩ ⟨c, hc⟩ ⟨d, hd⟩
  · exact odds4 ⟨b, hb⟩ ⟨c, hc⟩ ⟨d, hd⟩
  · exact odds5 ⟨b, hb⟩ ⟨c, hc⟩ ⟨d, hd⟩
  · exact odds6 ⟨b, hb⟩ ⟨c, hc⟩ ⟨d, hd⟩
theorem s_odds : St_odds Rel := by
  intro u v p1 p2 p3 hR
  have hC := hR.bC
  have hb := hR.bbroken
  have hp := pow6 hC.1 hC.2
  have h1 := bits_eq hb.1 (by omega)
  have h2 := bits_pow (n := (u.1 13 1).toInt.toNat) (by omega) hb.1 hb.2
  have e : (u.1 13 1 - m_bits (u.1 21 1)).toInt = (u.1 13 1).toInt - (m_bits (u.1 21 1)).toInt := xsub rfl rfl (by omega) (by omega)
  refine ⟨⟨hR.bT, hR.bC, ?_⟩, ⟨hR.mC, ?_⟩, ?_, hR⟩
  · rw [h1, e]; omega
  · rw [← hR.C, ← hR.broken, e]; omega
  · have ew : ∀ w, m_odds_L57 v p1 p2 p3 w 8 1 0 = m_o w p1 p2 p3 := fun w => odds_w57 v u0M _ _ _ _ _ _ _
    unfold k_odds m_odds
    rw [ew, ← hR.C, ← hR.broken, h1]
    by_cases c1 : p1 < 0
    · have := xq_lt c1 rfl (b := 0) rfl
      rw [if_pos c1, if_pos (b2i_0.mpr (Bool.eq_false_iff.mpr (fun h => by have := (in_iff.mp h).1; have e : (0 : Int32).toInt = 0 := rfl; omega)))]
    have c1' := xq_nlt c1 rfl (b := 0) rfl
    rw [if_neg c1]
    by_cases c2 : 10 < p1
    · have := xq_lt c2 (a := 10) rfl rfl
      rw [if_pos c2, if_pos (b2i_0.mpr (Bool.eq_false_iff.mpr (fun h => by have := (in_iff.mp h).2; have e : (10 : Int32).toInt = 10 := rfl; omega)))]
    have c2' := xq_nlt c2 (a := 10) rfl rfl
    rw [if_neg c2, show m_in p1 0 10 = true from in_iff.mpr ⟨c1', c2'⟩, if_neg (show ¬ b2i true = 0 by decide)]
    by_cases c3 : p2 < 0
    · have := xq_lt c3 rfl (b := 0) rfl
      rw [if_pos c3, if_pos (b2i_0.mpr (Bool.eq_false_iff.mpr (fun h => by have := (in_iff.mp h).1; have e : (0 : Int32).toInt = 0 := rfl; omega)))]
    have c3' := xq_nlt c3 rfl (b := 0) rfl
    rw [if_neg c3]
    by_cases c4 : 6 < p2
    · have := xq_lt c4 (a := 6) rfl rfl
      rw [if_pos c4, if_pos (b2i_0.mpr (Bool.eq_false_iff.mpr (fun h => by have := (in_iff.mp h).2; have e : (6 : Int32).toInt = 6 := rfl; omega)))]
    have c4' := xq_nlt c4 (a := 6) rfl rfl
    rw [if_neg c4, show m_in p2 0 6 = true from in_iff.mpr ⟨c3', c4'⟩, if_neg (show ¬ b2i true = 0 by decide)]
    by_cases c5 : p3 < 0
    · have := xq_lt c5 rfl (b := 0) rfl
      rw [if_pos c5, if_pos (b2i_0.mpr (Bool.eq_false_iff.mpr (fun h => by have := (in_iff.mp h).1; have e : (0 : Int32).toInt = 0 := rfl; omega)))]
    have c5' := xq_nlt c5 rfl (b := 0) rfl
    rw [if_neg c5]
    by_cases c6 : p3 ≤ 1
    · have c6' := xq_le c6 rfl (b := 1) rfl
      rw [if_pos c6, show m_in p3 0 1 = true from in_iff.mpr ⟨c5', c6'⟩, if_neg (show ¬ b2i true = 0 by decide)]
      exact odds_eq (by rw [e]; omega) ⟨c1', by omega⟩ ⟨c3', by omega⟩ ⟨c5', by omega⟩
    · have := xq_nle c6 rfl (b := 1) rfl
      rw [if_neg c6, if_pos (b2i_0.mpr (Bool.eq_false_iff.mpr (fun h => by have := (in_iff.mp h).2; have e : (1 : Int32).toInt = 1 := rfl; omega)))]
