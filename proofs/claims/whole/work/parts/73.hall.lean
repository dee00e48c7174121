/-! ===== PURE: hall ===== -/
section HB
theorem hb_c8 (f g : Nat → Int32) {k : Nat} (h : k < 8) : va_cpy f g ((0 : Int32)).toNatClampNeg ((0 : Int32)).toNatClampNeg ((8 : Int32)).toNatClampNeg k = f k := by
  show (if 0 ≤ k ∧ k < 0 + 8 then f (0 + (k - 0)) else g k) = f k
  rw [if_pos ⟨by omega, by omega⟩, Nat.zero_add, Nat.sub_zero]
theorem hb_c6 (f g : Nat → Int32) {k : Nat} (h : k < 6) : va_cpy f g ((0 : Int32)).toNatClampNeg ((0 : Int32)).toNatClampNeg ((6 : Int32)).toNatClampNeg k = f k := by
  show (if 0 ≤ k ∧ k < 0 + 6 then f (0 + (k - 0)) else g k) = f k
  rw [if_pos ⟨by omega, by omega⟩, Nat.zero_add, Nat.sub_zero]
theorem hb_fl (f : Nat → Int32) {n k : Nat} {x : Int32} (h : k < n) : fillF f n x k = x := by unfold fillF; rw [if_pos h]
def hb_A (w r : xU) : Prop := r.1 13 0 = w.1 4 0 ∧ r.1 13 1 = w.1 4 1 ∧
  (∀ t : Nat, t < 8 → r.1 14 t = w.1 5 t ∧ r.1 15 t = w.1 6 t ∧ r.1 16 t = w.1 7 t ∧ r.1 17 t = w.1 8 t) ∧
  (∀ c : Nat, c < 6 → r.1 18 c = w.1 9 c ∧ r.1 19 c = w.1 10 c ∧ r.1 23 c = 0 ∧ r.1 24 c = w.1 11 c ∧ r.1 25 c = 0 ∧ r.1 26 c = -1) ∧
  r.1 21 0 = 0 ∧ r.1 21 1 = 0 ∧ (∀ j : Nat, j < 48 → r.1 22 j = 0) ∧ (∀ k : Nat, k < 13 ∨ 26 < k → r.1 k = w.1 k) ∧ r.2 = w.2
theorem hb_begin (w : xU) : hb_A w (k_Hall_beginAs w) := by
  rw [k_Hall_beginAs_def]
  unfold k_Hall_beginAs_b
  dsimp only
  have a : ∀ k : Nat, k < 13 ∨ 20 < k → (k_Told_become_13_4 w).1 k = w.1 k := fun k hk => by
    rw [k_Told_become_13_4_def]; unfold k_Told_become_13_4_b; dsimp only
    rw [sp_ne (by omega), sp_ne (by omega), sp_ne (by omega), sp_ne (by omega), sp_ne (by omega), sp_ne (by omega), sp_ne (by omega), sp_ne (by omega), sp_ne (by omega)]
  have a2 : (k_Told_become_13_4 w).2 = w.2 := by rw [k_Told_become_13_4_def]; rfl
  have a13 : (k_Told_become_13_4 w).1 13 0 = w.1 4 0 ∧ (k_Told_become_13_4 w).1 13 1 = w.1 4 1 := by rw [k_Told_become_13_4_def]; exact ⟨rfl, rfl⟩
  have a14 : ∀ t : Nat, t < 8 → (k_Told_become_13_4 w).1 14 t = w.1 5 t ∧ (k_Told_become_13_4 w).1 15 t = w.1 6 t ∧ (k_Told_become_13_4 w).1 16 t = w.1 7 t ∧ (k_Told_become_13_4 w).1 17 t = w.1 8 t := fun t ht => by
    rw [k_Told_become_13_4_def]; exact ⟨hb_c8 _ _ ht, hb_c8 _ _ ht, hb_c8 _ _ ht, hb_c8 _ _ ht⟩
  have a18 : ∀ c : Nat, c < 6 → (k_Told_become_13_4 w).1 18 c = w.1 9 c ∧ (k_Told_become_13_4 w).1 19 c = w.1 10 c ∧ (k_Told_become_13_4 w).1 20 c = w.1 11 c := fun c hc => by
    rw [k_Told_become_13_4_def]; exact ⟨hb_c6 _ _ hc, hb_c6 _ _ hc, hb_c6 _ _ hc⟩
  generalize k_Told_become_13_4 w = s at a a2 a13 a14 a18 ⊢
  have b : ∀ k : Nat, k < 21 ∨ 26 < k → (k_Moment_begin s).1 k = s.1 k := fun k hk => by
    rw [k_Moment_begin_def]; unfold k_Moment_begin_b; dsimp only
    rw [sp_ne (by omega), sp_ne (by omega), sp_ne (by omega), sp_ne (by omega), sp_ne (by omega), sp_ne (by omega), sp_ne (by omega)]
  have b2 : (k_Moment_begin s).2 = s.2 := by rw [k_Moment_begin_def]; rfl
  have b21 : (k_Moment_begin s).1 21 0 = 0 ∧ (k_Moment_begin s).1 21 1 = 0 := by rw [k_Moment_begin_def]; exact ⟨rfl, rfl⟩
  have b22 : ∀ j : Nat, j < 48 → (k_Moment_begin s).1 22 j = 0 := fun j hj => by rw [k_Moment_begin_def]; exact hb_fl _ hj
  have b23 : ∀ c : Nat, c < 6 → (k_Moment_begin s).1 23 c = 0 ∧ (k_Moment_begin s).1 24 c = s.1 20 c ∧ (k_Moment_begin s).1 25 c = 0 ∧ (k_Moment_begin s).1 26 c = -1 := fun c hc => by
    rw [k_Moment_begin_def]; exact ⟨hb_fl _ hc, hb_c6 _ _ hc, hb_fl _ hc, hb_fl _ hc⟩
  generalize k_Moment_begin s = r at b b2 b21 b22 b23 ⊢
  refine ⟨by rw [b 13 (by decide)]; exact a13.1, by rw [b 13 (by decide)]; exact a13.2, fun t ht => ?_, fun c hc => ?_, b21.1, b21.2, b22, fun k hk => (b k (by omega)).trans (a k (by omega)), b2.trans a2⟩
  · rw [b 14 (by decide), b 15 (by decide), b 16 (by decide), b 17 (by decide)]; exact a14 t ht
  · obtain ⟨c1, c2, c3, c4⟩ := b23 c hc
    rw [b 18 (by decide), b 19 (by decide)]
    exact ⟨(a18 c hc).1, (a18 c hc).2.1, c1, c2.trans (a18 c hc).2.2, c3, c4⟩
theorem hb_53a (n : Nat) (w : xU) : k_hall_L53 (n + 1) 0 w = k_hall_L53 n 1 (sp w 30 (upd (w.1 30) 2 (0 : Int32))) := by
  conv => lhs; unfold k_hall_L53
  rw [if_neg (show ¬ (2 : Int32) ≤ 0 by decide), if_pos (show (0 : Int32) = 0 from rfl)]; rfl
theorem hb_53b (n : Nat) (w : xU) : k_hall_L53 (n + 1) 1 w = k_hall_L53 n 2 (sp w 34 (upd (w.1 34) 2 (0 : Int32))) := by
  conv => lhs; unfold k_hall_L53
  rw [if_neg (show ¬ (2 : Int32) ≤ 1 by decide), if_neg (show ¬ (1 : Int32) = 0 by decide)]; rfl
theorem hb_53c (n : Nat) (w : xU) : k_hall_L53 (n + 1) 2 w = (w.1 13 0 + w.1 13 1, sp w 1 (upd (w.1 1) 1 (0 : Int32))) := by
  conv => lhs; unfold k_hall_L53
  rw [if_pos (show (2 : Int32) ≤ 2 by decide)]
theorem hb_pos (n : Nat) : (0 : Int) < 2 ^ n := by exact_mod_cast Nat.pow_pos (n := n) (show 0 < 2 by decide)
set_option maxHeartbeats 4000000 in
theorem hb_rel {w z r M : xU} (hR : it_R w z) (hX : 0 ≤ (w.1 1 4).toInt ∧ (w.1 1 4).toInt ≤ 150) (hb : ha_b z) (hs : se_R z M) (ha : hb_A w r) (hnx : 0 ≤ (w.1 27 1).toInt ∧ (w.1 27 1).toInt ≤ 9) (h2 : w.2 = z.2) :
    Rel (sp (sp (sp (sp (sp r 27 (upd (r.1 27) 2 (0 : Int32))) 44 (upd (r.1 44) 3 (0 : Int32))) 30 (upd (r.1 30) 2 (0 : Int32))) 34 (upd (r.1 34) 2 (0 : Int32))) 1 (upd (r.1 1) 1 (0 : Int32))) M := by
  obtain ⟨c22, c27, b22, b27, hth, hca⟩ := hR
  obtain ⟨s0, s5, s11, s15, s16, s21, s22, s27, st, sc, so, s90, s91, sl2⟩ := hs
  obtain ⟨a0, a1, at8, ac, n0, n1, fr, ak, al⟩ := ha
  have i0 : (0 : Int32).toInt = 0 := rfl
  have im : (-1 : Int32).toInt = -1 := rfl
  have k1 : r.1 1 = w.1 1 := ak 1 (by decide)
  have k4 : r.1 4 = w.1 4 := ak 4 (by decide)
  have k27 : r.1 27 = w.1 27 := ak 27 (by decide)
  refine ⟨(?_ : RK (r.1 13) (r.1 14) (r.1 15) (r.1 16) (r.1 17) (r.1 18) (r.1 19) (M.1 0) (M.1 1) (M.1 2) (M.1 3) (M.1 4) (M.1 5) (M.1 6)), (?_ : RS (uT (r.1 13)) (uC (r.1 13)) (r.1 17) (mo (r.1 21) (r.1 22) (r.1 23) (r.1 24) (r.1 25) (r.1 26)) (r.1 28) (r.1 27 1) 0 (M.1 7)), ⟨(s90.symm : (0 : Int32) = M.1 9 0), fun h => absurd s90 h⟩, ⟨(s91.symm : (0 : Int32) = M.1 9 1), fun h => absurd s91 h⟩, ⟨(s15.symm : (0 : Int32) = M.1 0 15), (show 0 ≤ (0 : Int32).toInt ∧ (0 : Int32).toInt ≤ 150 by decide), fun j hj => absurd (show (j : Int) < (0 : Int32).toInt from hj) (by omega)⟩, ⟨(s11.symm : (0 : Int32) = M.1 0 11), (show 0 ≤ (0 : Int32).toInt ∧ (0 : Int32).toInt ≤ 6 by decide), fun j hj => absurd (show (j : Int) < (0 : Int32).toInt from hj) (by omega)⟩, ⟨(?_ : 0 ≤ (r.1 1 4).toInt ∧ (r.1 1 4).toInt ≤ 150), (?_ : 0 ≤ (r.1 4 0).toInt ∧ (r.1 4 0).toInt ≤ 8), (?_ : 0 ≤ (r.1 4 1).toInt ∧ (r.1 4 1).toInt ≤ 6), ?_, ?_, ?_⟩, (al.trans (h2.trans sl2.symm))⟩
  · refine ⟨?_, ?_, ?_, ?_, fun t ht => ?_, fun c hc => ?_⟩
    · rw [a0, s0, c22]
    · rw [a1, s5, c27]
    · rw [a0]; exact b22
    · rw [a1]; exact b27
    · rw [a0] at ht
      have t8 : t < 8 := by omega
      obtain ⟨x1, x2, x3, x4⟩ := at8 t t8
      obtain ⟨y1, y2, y3, y4⟩ := st t t8
      rw [x1, x2, x3, x4, y1, y2, y3, y4]
      exact hth t ht
    · rw [a1] at hc
      have c6 : c < 6 := by omega
      obtain ⟨x1, x2, -⟩ := ac c c6
      obtain ⟨y1, y2, -⟩ := sc c c6
      obtain ⟨g1, g2, g3, g4, g5, g6⟩ := hca c hc
      rw [x1, x2, y1, y2]
      exact ⟨g1, g2, g4, g5⟩
  · refine ⟨⟨?_, ?_, ?_, ?_, fun c hc => ?_, fun c hc => ?_⟩, ?_, ?_, ?_, fun i hi => absurd (show (i : Int) < (0 : Int32).toInt from hi) (by omega)⟩
    · rw [mo_night, n0]; exact (so 0 (Or.inl (by decide))).symm
    · rw [mo_broken, n1]; exact (so 67 (Or.inr (Or.inl (by decide)))).symm
    · rw [mo_night, n0]; exact (show 0 ≤ (0 : Int32).toInt ∧ (0 : Int32).toInt ≤ 999 by decide)
    · rw [mo_broken, n1, i0]; exact ⟨by decide, hb_pos _⟩
    · rw [mo_course _ _ _ _ _ _ hc, (ac c hc).2.2.2.2.2, (sc c hc).2.2.2]
      exact ⟨(show -1 ≤ (-1 : Int32).toInt ∧ (-1 : Int32).toInt ≤ 7 by decide), Or.inl rfl⟩
    · have hc1 : (c : Int) < (r.1 13 1).toInt := hc
      rw [a1] at hc1
      have c6 : c < 6 := by omega
      obtain ⟨x1, x2, x3, x4, x5, x6⟩ := ac c c6
      obtain ⟨y1, y2, y3, y4⟩ := sc c c6
      obtain ⟨g1, g2, g3, g4, g5, g6⟩ := hca c hc1
      have hT : (0 : Int) ≤ uT (r.1 13) ∧ uT (r.1 13) ≤ 8 := by unfold uT; rw [a0]; exact b22
      unfold RC
      rw [mo_can _ _ _ _ _ _ c6, mo_lacks _ _ _ _ _ _ c6, mo_cracks _ _ _ _ _ _ c6, mo_course _ _ _ _ _ _ c6, mo_night, x3, x4, x5, x6, y3, y4, n0, so (49 + c) (Or.inl (by omega)), so (61 + c) (Or.inr (Or.inl (by omega))), i0, im]
      refine ⟨rfl, g3, rfl, rfl, ⟨by decide, hb_pos _⟩, g6, ⟨by decide, by decide⟩, by omega, fun t ht => ?_⟩
      have e48 : 8 * c + t < 48 := by omega
      rw [mo_far _ _ _ _ _ _ e48, fr _ e48, so (1 + (8 * c + t)) (Or.inl (by omega)), i0]
      refine ⟨rfl, ⟨by decide, by decide⟩, fun h => ?_⟩
      rcases h with h | h
      · rw [bt_0] at h; exact absurd h (by decide)
      · exact absurd h (by omega)
    · exact (so 74 (Or.inr (Or.inr (by decide)))).symm
    · exact (show 0 ≤ (0 : Int32).toInt ∧ (0 : Int32).toInt ≤ 10 by decide)
    · rw [k27]; exact hnx
  · rw [k1]; exact hX
  · rw [k4]; exact b22
  · rw [k4]; exact b27
  · rw [s16]; exact hb.1
  · rw [s22]; exact hb.2.1
  · rw [s27]; exact hb.2.2
theorem hb_bad {u v w z : xU} (hR : Rel u v) (kf : kF u w) (mg : mG v z) (fi : FI w) (hb : ha_b z) : Rel w z := by
  have k : ∀ j : Nat, 11 < j → w.1 j = u.1 j := fun j hj => kf.1 j (Or.inr hj)
  have m : ∀ j : Nat, j ≠ 0 → j < 12 → z.1 j = v.1 j := fun j h0 hj => mg.1 j h0 (Or.inl hj)
  obtain ⟨h1, h2, h3, h4, h5, h6, h7, h8⟩ := hR
  refine ⟨?_, ?_, ?_, ?_, ?_, ?_, ⟨fi.2.1, fi.2.2.1, fi.2.2.2, hb.1, hb.2.1, hb.2.2⟩, kf.2.2.trans (h8.trans mg.2.2.symm)⟩
  · unfold Rk RK
    rw [k 13 (by decide), k 14 (by decide), k 15 (by decide), k 16 (by decide), k 17 (by decide), k 18 (by decide), k 19 (by decide), m 1 (by decide) (by decide), m 2 (by decide) (by decide), m 3 (by decide) (by decide), m 4 (by decide) (by decide), m 5 (by decide) (by decide), m 6 (by decide) (by decide), mg.2.1 0 (by decide), mg.2.1 5 (by decide)]
    exact h1
  · unfold Rs
    rw [k 13 (by decide), k 17 (by decide), k 21 (by decide), k 22 (by decide), k 23 (by decide), k 24 (by decide), k 25 (by decide), k 26 (by decide), k 27 (by decide), k 28 (by decide), m 7 (by decide) (by decide)]
    exact h2
  · rw [k 13 (by decide), k 17 (by decide), k 30 (by decide), k 31 (by decide), k 32 (by decide), k 33 (by decide), m 8 (by decide) (by decide), m 9 (by decide) (by decide)]
    exact h3
  · rw [k 13 (by decide), k 17 (by decide), k 34 (by decide), k 35 (by decide), k 36 (by decide), k 37 (by decide), m 8 (by decide) (by decide), m 9 (by decide) (by decide)]
    exact h4
  · unfold RX
    rw [kf.2.1, kf.1 2 (Or.inl rfl), m 11 (by decide) (by decide), mg.2.1 15 (by decide)]
    exact h5
  · unfold RH
    rw [k 13 (by decide), k 44 (by decide), k 45 (by decide), k 46 (by decide), m 10 (by decide) (by decide), mg.2.1 11 (by decide)]
    exact h6
set_option maxHeartbeats 4000000 in
theorem s_hall : St_hall Rel := by
  intro u v hR
  have hRX := hR.2.2.2.2.1
  have hRD := hR.2.2.2.2.2.2.1
  have i0 : (0 : Int32).toInt = 0 := rfl
  have hL : 0 ≤ (u.1 1 1).toInt ∧ (u.1 1 1).toInt ≤ 150 := hRX.2.1
  refine ⟨⟨hL, hRD.1, hRD.2.1, hRD.2.2.1⟩, ⟨?_, hRD.2.2.2.1, hRD.2.2.2.2.1, hRD.2.2.2.2.2⟩, ?_⟩
  · rw [← hRX.1]; exact hL
  rw [k_hall_def, m_hall_def]
  unfold k_hall_b m_hall_b
  rw [k_Reader_readsAll_def]
  unfold k_Reader_readsAll_b
  dsimp only
  have T0 : lk_T (sp (sp (sp u 4 (upd (u.1 4) 0 (0 : Int32))) 4 (upd ((sp u 4 (upd (u.1 4) 0 (0 : Int32))).1 4) 1 (0 : Int32))) 1 (upd (u.1 1) 4 (0 : Int32))) (sp (sp (sp (sp (sp v 0 (upd (v.1 0) 16 (0 : Int32))) 0 (upd ((sp v 0 (upd (v.1 0) 16 (0 : Int32))).1 0) 20 (0 : Int32))) 0 (upd ((sp (sp v 0 (upd (v.1 0) 16 (0 : Int32))) 0 (upd ((sp v 0 (upd (v.1 0) 16 (0 : Int32))).1 0) 20 (0 : Int32))).1 0) 21 (0 : Int32))) 0 (upd ((sp (sp (sp v 0 (upd (v.1 0) 16 (0 : Int32))) 0 (upd ((sp v 0 (upd (v.1 0) 16 (0 : Int32))).1 0) 20 (0 : Int32))) 0 (upd ((sp (sp v 0 (upd (v.1 0) 16 (0 : Int32))) 0 (upd ((sp v 0 (upd (v.1 0) 16 (0 : Int32))).1 0) 20 (0 : Int32))).1 0) 21 (0 : Int32))).1 0) 22 (0 : Int32))) 0 (upd ((sp (sp (sp (sp v 0 (upd (v.1 0) 16 (0 : Int32))) 0 (upd ((sp v 0 (upd (v.1 0) 16 (0 : Int32))).1 0) 20 (0 : Int32))) 0 (upd ((sp (sp v 0 (upd (v.1 0) 16 (0 : Int32))) 0 (upd ((sp v 0 (upd (v.1 0) 16 (0 : Int32))).1 0) 20 (0 : Int32))).1 0) 21 (0 : Int32))) 0 (upd ((sp (sp (sp v 0 (upd (v.1 0) 16 (0 : Int32))) 0 (upd ((sp v 0 (upd (v.1 0) 16 (0 : Int32))).1 0) 20 (0 : Int32))) 0 (upd ((sp (sp v 0 (upd (v.1 0) 16 (0 : Int32))) 0 (upd ((sp v 0 (upd (v.1 0) 16 (0 : Int32))).1 0) 20 (0 : Int32))).1 0) 21 (0 : Int32))).1 0) 22 (0 : Int32))).1 0) 27 (0 : Int32))) := ⟨hRX, rfl, (show 0 ≤ (0 : Int32).toInt ∧ (0 : Int32).toInt ≤ 150 by decide)⟩
  generalize hU : sp (sp (sp u 4 (upd (u.1 4) 0 (0 : Int32))) 4 (upd ((sp u 4 (upd (u.1 4) 0 (0 : Int32))).1 4) 1 (0 : Int32))) 1 (upd (u.1 1) 4 (0 : Int32)) = U at T0 ⊢
  have kU : kF u U := by
    rw [← hU]; exact ⟨fun j hj => by rw [sp_ne (by omega), sp_ne (by omega), sp_ne (by omega)], rfl, rfl⟩
  have U40 : U.1 4 0 = 0 := by rw [← hU]; rfl
  have U41 : U.1 4 1 = 0 := by rw [← hU]; rfl
  clear hU
  generalize hV : (sp (sp (sp (sp (sp v 0 (upd (v.1 0) 16 (0 : Int32))) 0 (upd ((sp v 0 (upd (v.1 0) 16 (0 : Int32))).1 0) 20 (0 : Int32))) 0 (upd ((sp (sp v 0 (upd (v.1 0) 16 (0 : Int32))) 0 (upd ((sp v 0 (upd (v.1 0) 16 (0 : Int32))).1 0) 20 (0 : Int32))).1 0) 21 (0 : Int32))) 0 (upd ((sp (sp (sp v 0 (upd (v.1 0) 16 (0 : Int32))) 0 (upd ((sp v 0 (upd (v.1 0) 16 (0 : Int32))).1 0) 20 (0 : Int32))) 0 (upd ((sp (sp v 0 (upd (v.1 0) 16 (0 : Int32))) 0 (upd ((sp v 0 (upd (v.1 0) 16 (0 : Int32))).1 0) 20 (0 : Int32))).1 0) 21 (0 : Int32))).1 0) 22 (0 : Int32))) 0 (upd ((sp (sp (sp (sp v 0 (upd (v.1 0) 16 (0 : Int32))) 0 (upd ((sp v 0 (upd (v.1 0) 16 (0 : Int32))).1 0) 20 (0 : Int32))) 0 (upd ((sp (sp v 0 (upd (v.1 0) 16 (0 : Int32))) 0 (upd ((sp v 0 (upd (v.1 0) 16 (0 : Int32))).1 0) 20 (0 : Int32))).1 0) 21 (0 : Int32))) 0 (upd ((sp (sp (sp v 0 (upd (v.1 0) 16 (0 : Int32))) 0 (upd ((sp v 0 (upd (v.1 0) 16 (0 : Int32))).1 0) 20 (0 : Int32))) 0 (upd ((sp (sp v 0 (upd (v.1 0) 16 (0 : Int32))) 0 (upd ((sp v 0 (upd (v.1 0) 16 (0 : Int32))).1 0) 20 (0 : Int32))).1 0) 21 (0 : Int32))).1 0) 22 (0 : Int32))).1 0) 27 (0 : Int32))) = V at T0 ⊢
  have mV : mG v V := by
    rw [← hV]; exact mG_put (mG_put (mG_put (mG_put (mG_put (mG_rf v) (by decide)) (by decide)) (by decide)) (by decide)) (by decide)
  have V20 : V.1 0 20 = 0 := by rw [← hV]; rfl
  have V21 : V.1 0 21 = 0 := by rw [← hV]; rfl
  have V22 : V.1 0 22 = 0 := by rw [← hV]; rfl
  have V27 : V.1 0 27 = 0 := by rw [← hV]; rfl
  clear hV
  have R0 : it_R U V := by
    refine ⟨U40.trans V22.symm, U41.trans V27.symm, ?_, ?_, fun t ht => ?_, fun c hc => ?_⟩
    · rw [U40]; decide
    · rw [U41]; decide
    · rw [U40] at ht; exact absurd ht (by omega)
    · rw [U41] at hc; exact absurd hc (by omega)
  have fU : FI U := ha_fi T0 R0
  obtain ⟨K1, T1⟩ := lk_look T0
  have zb := it_zL T0
  have MV := (MN_next zb.1 zb.2).1
  have CU := (RI_look fU.1 fU.2.1).1
  have kU2 : kF u (k_Reader_look U) := kU.tr (kF_look fU)
  have mV2 : mG v (m_next V) := mV.tr (mG_F (mF_MI MV))
  have R1 : it_R (k_Reader_look U) (m_next V) := it_R_to R0 (fun j h4 _ => CU j (by omega)) (fun k hk _ => MV.1 k (by omega)) (MV.2.1 22 (by decide)) (MV.2.1 27 (by decide))
  have P := ha_loop 151 0 _ _ T1 K1 ((MV.2.1 20 (by decide)).trans V20) R1 (by decide) (by rw [MV.2.1 22 (by decide), MV.2.1 27 (by decide), V22, V27]; rfl) ((MV.2.1 21 (by decide)).trans V21)
  rcases P with ⟨w', z', p1, p2, p3, p4, p5, p6, p7, p8⟩ | ⟨w', z', p1, p2, p5, p6, p7, p8⟩
  · have p2' : m_hall_L29 152 (m_next V) = ((m_settles z').1 0 21, m_settles z') := p2
    rw [p1, p2']
    dsimp only
    rw [if_neg (show ¬ b2i true = 0 by decide), hb_53a 2, hb_53b 1, hb_53c 0]
    have ha := hb_begin w'
    have hs := se_settles z'
    generalize k_Hall_beginAs w' = r at ha ⊢
    generalize m_settles z' = M at hs ⊢
    refine ⟨?_, ?_⟩
    · show r.1 13 0 + r.1 13 1 = M.1 0 21
      rw [ha.1, ha.2.1, hs.2.2.2.2.2.1, p4, p3.1, p3.2.1]
    · have hnx : 0 ≤ (w'.1 27 1).toInt ∧ (w'.1 27 1).toInt ≤ 9 := by
        rw [(kU2.tr p5).1 27 (by decide)]; exact hR.P.2.2.1
      have h2 : w'.2 = z'.2 := (kU2.tr p5).2.2.trans (hR.2.2.2.2.2.2.2.trans (mV2.tr p6).2.2.symm)
      exact hb_rel p3 p7.2.1 p8 hs ha hnx h2
  · have p2' : m_hall_L29 152 (m_next V) = ((-10 : Int32) - w'.1 1 3, z') := p2
    rw [p1, p2']
    dsimp only
    rw [if_pos (show b2i false = 0 by decide)]
    exact ⟨rfl, hb_bad hR (kU2.tr p5) (mV2.tr p6) p7 p8⟩
theorem pure_all : ∃ Rel : xU → xU → Prop, St_all Rel ∧ Rel u0C u0M := ⟨Rel, ⟨s_type, s_clear, s_hall, s_thing, s_cast, s_far, s_sets, s_nights, s_mends, s_joins, s_undo, s_now, s_plan, s_best, s_own, s_near, s_odds, s_hears, s_forget, s_who, s_ask, s_mark, s_keep, s_back, s_count, s_trace⟩, Rel0⟩
end HB
