/-! ===== PURE: all items are read ===== -/
section HA
theorem ha_item {w z : xU} (hT : lk_T w z) (hK : lk_K w z) (h20 : z.1 0 20 = 0) (hR : it_R w z) : it_E (k_Reader_readsItem w) (z.1 0 22 + z.1 0 27) (m_readItem z) := by
  obtain ⟨KL, TL⟩ := lk_look hT
  have zb := it_zL hT
  have ML := (MN_next zb.1 zb.2).1
  have WL : 0 ≤ (w.1 1 1).toInt ∧ (w.1 1 1).toInt ≤ 150 := hT.1.2.1
  have CL := (RI_look WL hT.2.2).1
  have e22 := ML.2.1 22 (by decide)
  have e27 := ML.2.1 27 (by decide)
  have e4 := CL 4 (by decide)
  have R1 : it_R (k_Reader_look w) (m_next z) := it_R_to hR (fun j h4 _ => CL j (by omega)) (fun k hk _ => ML.1 k (by omega)) e22 e27
  have g20 : (m_next z).1 0 20 = 0 := (ML.2.1 20 (by decide)).trans h20
  have j00 : k_Reader_readsItem_J70 w 0 0 = (false, w) := by
    unfold k_Reader_readsItem_J70; rw [if_pos (show (0 : Int32) = 0 from rfl), if_pos (show (0 : Int32) = 0 from rfl)]
  have j10 : k_Reader_readsItem_J70 w 1 0 = k_Reader_readsItem_L97 1 5 6 0 (k_Reader_look w) := by
    unfold k_Reader_readsItem_J70; dsimp only; rw [if_neg (show ¬ (1 : Int32) = 0 by decide), if_neg (show ¬ (1 : Int32) = 0 by decide)]; rfl
  have j01 : k_Reader_readsItem_J70 w 0 1 = k_Reader_readsItem_L97 0 3 6 0 (k_Reader_look w) := by
    unfold k_Reader_readsItem_J70; dsimp only; rw [if_pos (show (0 : Int32) = 0 from rfl), if_neg (show ¬ (1 : Int32) = 0 by decide), if_pos (show (0 : Int32) = 0 from rfl)]; rfl
  generalize hcc : z.1 0 22 + z.1 0 27 = cc
  have bad : it_E (k_Reader_readsItem_J70 w 0 0) cc (sp z 0 (upd (z.1 0) 20 1)) := by
    rw [j00]; exact Or.inr ⟨rfl, it_B_1 hK.2.1.symm⟩
  rw [k_Reader_readsItem_def, m_readItem_def]
  unfold k_Reader_readsItem_b m_readItem_b
  dsimp only
  rw [← hK.2.2.1]
  by_cases h1 : w.1 1 5 = 1
  · rw [← hK.2.2.2.1 h1, ← hR.1, ← hR.2.1]
    by_cases h6 : w.1 1 6 = 116
    · have h9 : ¬ w.1 1 6 = 99 := by rw [h6]; decide
      by_cases h8 : (8 : Int32) ≤ w.1 4 0
      · rw [if_pos h1, if_pos h6, if_pos h8, if_pos h1, if_neg h9, if_pos h6, if_pos h8, if_pos h1]
        exact bad
      · rw [if_pos h1, if_pos h6, if_neg h8, if_pos h1, if_neg h9, if_pos h6, if_neg h8, if_pos h1, if_pos h6, j10]
        have := it_thing TL KL g20 R1 (by rw [e4]; exact xq_nle h8 (a := 8) rfl rfl)
        rw [e22, e27, hcc] at this
        exact this
    · by_cases h9 : w.1 1 6 = 99
      · by_cases h8 : (6 : Int32) ≤ w.1 4 1
        · rw [if_pos h1, if_neg h6, if_pos h1, if_pos h9, if_pos h8, if_neg h6, if_pos h9, if_pos h8, if_pos h1]
          exact bad
        · rw [if_pos h1, if_neg h6, if_pos h1, if_pos h9, if_neg h8, if_neg h6, if_pos h9, if_neg h8, if_pos h1, if_neg h6, j01]
          have := it_cast TL KL g20 R1 (by rw [e4]; exact xq_nle h8 (a := 6) rfl rfl)
          rw [e22, e27, hcc] at this
          exact this
      · rw [if_pos h1, if_neg h6, if_pos h1, if_neg h9, if_neg h6, if_neg h9, if_pos h1]
        exact bad
  · rw [if_neg h1, if_neg h1]
    by_cases h6 : z.1 0 19 = 116
    · rw [if_pos h6]
      by_cases h8 : (8 : Int32) ≤ z.1 0 22
      · rw [if_pos h8, if_neg h1]; exact bad
      · rw [if_neg h8, if_neg h1]; exact bad
    · rw [if_neg h6]
      by_cases h9 : z.1 0 19 = 99
      · rw [if_pos h9]
        by_cases h8 : (6 : Int32) ≤ z.1 0 27
        · rw [if_pos h8, if_neg h1]; exact bad
        · rw [if_neg h8, if_neg h1]; exact bad
      · rw [if_neg h9, if_neg h1]; exact bad
/-! frames -/
def kF (u w : xU) : Prop := (∀ j : Nat, (j = 2 ∨ 11 < j) → w.1 j = u.1 j) ∧ w.1 1 1 = u.1 1 1 ∧ w.2 = u.2
theorem kF_rf (u : xU) : kF u u := ⟨fun _ _ => rfl, rfl, rfl⟩
theorem kF.tr {u v w : xU} (h : kF u v) (g : kF v w) : kF u w := ⟨fun j hj => (g.1 j hj).trans (h.1 j hj), g.2.1.trans h.2.1, g.2.2.trans h.2.2⟩
theorem kF_look {w : xU} (h : FI w) : kF w (k_Reader_look w) := by
  have r := RI_look h.1 h.2.1
  exact ⟨fun j hj => r.1 j (by omega), r.2.1, r.2.2.2⟩
theorem kF_num {w : xU} {f : Nat → Int32} (h : FI w) : kF w (k_Reader_look (sp w 3 f)) := by
  have r := kF_look (w := sp w 3 f) h
  exact ⟨fun j hj => (r.1 j hj).trans (sp_ne (by omega)), r.2.1, r.2.2⟩
theorem kF_thing {w : xU} (h : FI w) : kF w (k_Told_addThing (k_Reader_look w)) := by
  obtain ⟨-, -, -, -, -, aj, a2⟩ := it_at (k_Reader_look w)
  exact (kF_look h).tr ⟨fun j hj => aj j (by omega), by rw [aj 1 (by decide)], a2⟩
theorem kF_cast {w : xU} (h : FI w) : kF w (k_Told_addCast (k_Reader_look w)) := by
  obtain ⟨-, -, -, -, aj, a2⟩ := it_ac (k_Reader_look w)
  exact (kF_look h).tr ⟨fun j hj => aj j (by omega) (by omega), by rw [aj 1 (by decide) (by decide)], a2⟩
theorem kF_L97 (x1 x3 : Int32) : ∀ (n : Nat) (x : Int32) (w : xU), FI w → kF w (k_Reader_readsItem_L97 x1 x3 n x w).2 := by
  intro n
  induction n with
  | zero => intro x w h; exact kF_rf w
  | succ n ih =>
    intro x w h
    have next : kF w (k_Reader_look (sp w 3 (upd (w.1 3) (x).toNatClampNeg (w.1 1 6)))) := kF_num h
    have nextI : FI (k_Reader_look (sp w 3 (upd (w.1 3) (x).toNatClampNeg (w.1 1 6)))) := (FI_look (w := sp w 3 (upd (w.1 3) (x).toNatClampNeg (w.1 1 6))) h).1
    unfold k_Reader_readsItem_L97
    split
    · split
      · dsimp only
        split
        · exact kF_cast h
        · exact kF_thing h
      · exact kF_rf w
    · split
      · split
        · exact kF_rf w
        · exact next.tr (ih _ _ nextI)
      · split
        · exact kF_rf w
        · exact next.tr (ih _ _ nextI)
theorem kF_J70 (w : xU) (x1 x2 : Int32) (h : FI w) : kF w (k_Reader_readsItem_J70 w x1 x2).2 := by
  have q1 := (FI_look h).1
  unfold k_Reader_readsItem_J70
  dsimp only
  repeat' split
  all_goals first | exact kF_rf w | exact (kF_look h).tr (kF_L97 _ _ _ _ _ q1)
theorem kF_item {u : xU} (h : FI u) : kF u (k_Reader_readsItem u).2 := by
  rw [k_Reader_readsItem_def]
  unfold k_Reader_readsItem_b
  repeat' split
  all_goals exact kF_J70 _ _ _ h
def mF (v z : xU) : Prop := (∀ k : Nat, k ≠ 0 → (k < 12 ∨ 18 < k) → z.1 k = v.1 k) ∧ (∀ j : Nat, (j < 16 ∨ j = 21) → z.1 0 j = v.1 0 j) ∧ z.2 = v.2
theorem mF_rf (u : xU) : mF u u := ⟨fun _ _ _ => rfl, fun _ _ => rfl, rfl⟩
theorem mF.tr {u v w : xU} (h : mF u v) (g : mF v w) : mF u w := ⟨fun k hk hj => (g.1 k hk hj).trans (h.1 k hk hj), fun j hj => (g.2.1 j hj).trans (h.2.1 j hj), g.2.2.trans h.2.2⟩
theorem mF_MT {u v : xU} (h : MT u v) : mF u v := ⟨fun k hk _ => h.1 k hk, fun j hj => h.2.1 j (by omega), h.2.2.2.2.1⟩
theorem mF_MI {u v : xU} (h : MI u v) : mF u v := ⟨fun k hk _ => h.1 k hk, fun j hj => h.2.1 j (by omega), h.2.2.2.2⟩
theorem mF_sp {u v : xU} {k : Nat} {f : Nat → Int32} (h : mF u v) (hk : 12 ≤ k ∧ k ≤ 18) : mF u (sp v k f) := ⟨fun j h0 hj => (sp_ne (by omega)).trans (h.1 j h0 hj), fun j hj => by rw [sp_ne (by omega)]; exact h.2.1 j hj, h.2.2⟩
theorem mF_put {u v r : xU} {k : Nat} {x : Int32} (h : mF u v) (h0 : v.1 0 = r.1 0) (hk : 16 ≤ k ∧ k ≠ 21) : mF u (sp v 0 (upd (r.1 0) k x)) := ⟨fun j hj g => (sp_ne hj).trans (h.1 j hj g), fun j hj => by rw [sp_eq, pk_un (by omega), ← h0]; exact h.2.1 j hj, h.2.2⟩
def MP (u v : xU) : Prop := MC u v ∧ mF u v
theorem MP_1 {u : xU} {a b : Int32} (hL : 0 ≤ (u.1 0 15).toInt ∧ (u.1 0 15).toInt ≤ 150) (hX : 0 ≤ (u.1 0 16).toInt ∧ (u.1 0 16).toInt ≤ 150) : MP u (m_takesNumber u a b).2 := ⟨(MT_take hL hX).C, mF_MT (MT_take hL hX)⟩
theorem MP_take {u v : xU} {a b : Int32} (hL : 0 ≤ (u.1 0 15).toInt ∧ (u.1 0 15).toInt ≤ 150) (h : MP u v) : MP u (m_takesNumber v a b).2 := ⟨MC_take hL h.1, h.2.tr (mF_MT (MT_take (by rw [h.1.1]; exact hL) h.1.2.1))⟩
theorem MP_sp {u v : xU} {k : Nat} {f : Nat → Int32} (h : MP u v) (hk : 12 ≤ k ∧ k ≤ 18) : MP u (sp v k f) := ⟨by unfold MC; rw [sp_ne (by omega)]; exact h.1, mF_sp h.2 hk⟩
theorem mF_thing {u : xU} (hL : 0 ≤ (u.1 0 15).toInt ∧ (u.1 0 15).toInt ≤ 150) (hX : 0 ≤ (u.1 0 16).toInt ∧ (u.1 0 16).toInt ≤ 150) : mF u (m_readThing u) := by
  rw [m_readThing_def]; unfold m_readThing_b; dsimp only
  exact mF_put (mF_sp (MP_take hL (MP_take hL (MP_sp (MP_take hL (MP_sp (MP_take hL (MP_sp (MP_1 hL hX) (by decide))) (by decide))) (by decide)))).2 (by decide)) (sp_ne (by decide)) (by decide)
theorem mF_cast {u : xU} (hL : 0 ≤ (u.1 0 15).toInt ∧ (u.1 0 15).toInt ≤ 150) (hX : 0 ≤ (u.1 0 16).toInt ∧ (u.1 0 16).toInt ≤ 150) : mF u (m_readCast u) := by
  rw [m_readCast_def]; unfold m_readCast_b; dsimp only
  exact mF_put (mF_sp (MP_take hL (MP_sp (MP_take hL (MP_sp (MP_1 hL hX) (by decide))) (by decide))).2 (by decide)) (sp_ne (by decide)) (by decide)
theorem mF_tl {u r : xU} (h : mF u r) (h1 : 0 ≤ (r.1 0 15).toInt ∧ (r.1 0 15).toInt ≤ 150) (h2 : 0 ≤ (r.1 0 16).toInt ∧ (r.1 0 16).toInt ≤ 150) : mF u (if (r.1 0 20) = (0 : Int32) then (if (r.1 0 18) = (3 : Int32) then m_next (sp r 0 (upd (r.1 0) 20 (0 : Int32))) else sp r 0 (upd (r.1 0) 20 (1 : Int32))) else sp r 0 (upd (r.1 0) 20 (1 : Int32))) := by
  split
  · split
    · exact (mF_put (k := 20) (x := 0) h rfl (by decide)).tr (mF_MI (MN_next (u := sp r 0 (upd (r.1 0) 20 (0 : Int32))) (by rw [q0 (by decide)]; exact h1) (by rw [q0 (by decide)]; exact h2)).1)
    · exact mF_put h rfl (by decide)
  · exact mF_put h rfl (by decide)
theorem mF_item {u : xU} (h1 : 0 ≤ (u.1 0 15).toInt ∧ (u.1 0 15).toInt ≤ 150) (h2 : 0 ≤ (u.1 0 16).toInt ∧ (u.1 0 16).toInt ≤ 150) (h3 : 0 ≤ (u.1 0 22).toInt ∧ (u.1 0 22).toInt ≤ 8) (h4 : 0 ≤ (u.1 0 27).toInt ∧ (u.1 0 27).toInt ≤ 6) : mF u (m_readItem u) := by
  have hb : mF u (sp u 0 (upd (u.1 0) 20 1)) := mF_put (mF_rf u) rfl (by decide)
  have mn := (MN_next h1 h2).1
  have n1 : 0 ≤ ((m_next u).1 0 15).toInt ∧ ((m_next u).1 0 15).toInt ≤ 150 := by rw [mn.2.1 15 (by decide)]; exact h1
  have n2 := mn.2.2.1
  rw [m_readItem_def]; unfold m_readItem_b
  by_cases a1 : u.1 0 19 = 116
  · rw [if_pos a1]
    split
    · split <;> exact hb
    · rename_i a2
      have a2 : (u.1 0 22).toInt < 8 := xq_nle a2 rfl rfl
      split
      · have j := MJ_thing h1 h2 ⟨h3.1, a2⟩ h4
        exact mF_tl ((mF_MI mn).tr (mF_thing n1 n2)) j.1.1 j.1.2.1
      · exact hb
  · rw [if_neg a1]
    split
    · split
      · split <;> exact hb
      · rename_i a2
        have a2 : (u.1 0 27).toInt < 6 := xq_nle a2 rfl rfl
        split
        · have j := MJ_cast h1 h2 h3 ⟨h4.1, a2⟩
          exact mF_tl ((mF_MI mn).tr (mF_cast n1 n2)) j.1.1 j.1.2.1
        · exact hb
    · split <;> exact hb
/-! the loop over the items -/
def mG (v z : xU) : Prop := (∀ k : Nat, k ≠ 0 → (k < 12 ∨ 18 < k) → z.1 k = v.1 k) ∧ (∀ j : Nat, j < 16 → z.1 0 j = v.1 0 j) ∧ z.2 = v.2
theorem mG_rf (u : xU) : mG u u := ⟨fun _ _ _ => rfl, fun _ _ => rfl, rfl⟩
theorem mG.tr {u v w : xU} (h : mG u v) (g : mG v w) : mG u w := ⟨fun k hk hj => (g.1 k hk hj).trans (h.1 k hk hj), fun j hj => (g.2.1 j hj).trans (h.2.1 j hj), g.2.2.trans h.2.2⟩
theorem mG_F {u v : xU} (h : mF u v) : mG u v := ⟨h.1, fun j hj => h.2.1 j (Or.inl hj), h.2.2⟩
theorem mG_put {u v : xU} {k : Nat} {x : Int32} (h : mG u v) (hk : 16 ≤ k) : mG u (sp v 0 (upd (v.1 0) k x)) := ⟨fun j hj g => (sp_ne hj).trans (h.1 j hj g), fun j hj => by rw [sp_eq, pk_un (by omega)]; exact h.2.1 j hj, h.2.2⟩
def ha_b (z : xU) : Prop := (0 ≤ (z.1 0 16).toInt ∧ (z.1 0 16).toInt ≤ 150) ∧ (0 ≤ (z.1 0 22).toInt ∧ (z.1 0 22).toInt ≤ 8) ∧ (0 ≤ (z.1 0 27).toInt ∧ (z.1 0 27).toInt ≤ 6)
def ha_P (r : Bool × xU) (m : Int32 × xU) (w z : xU) : Prop :=
  (∃ w' z' : xU, r = (true, w') ∧ m = ((m_settles z').1 0 21, m_settles z') ∧ it_R w' z' ∧ z'.1 0 21 = z'.1 0 22 + z'.1 0 27 ∧ kF w w' ∧ mG z z' ∧ FI w' ∧ ha_b z') ∨
  (∃ w' z' : xU, r = (false, w') ∧ m = ((-10 : Int32) - w'.1 1 3, z') ∧ kF w w' ∧ mG z z' ∧ FI w' ∧ ha_b z')
theorem ha_fi {w z : xU} (hT : lk_T w z) (hR : it_R w z) : FI w := ⟨hT.1.2.1, hT.2.2, hR.2.2.1, hR.2.2.2.1⟩
theorem ha_bz {w z : xU} (hT : lk_T w z) (hR : it_R w z) : ha_b z := by
  have h := hR.2.2.1
  have g := hR.2.2.2.1
  rw [hR.1] at h
  rw [hR.2.1] at g
  exact ⟨(it_zL hT).2, h, g⟩
theorem ha_loop : ∀ (n : Nat) (x : Int32) (w z : xU), lk_T w z → lk_K w z → z.1 0 20 = 0 → it_R w z → x.toInt + n = 151 → x = z.1 0 22 + z.1 0 27 → z.1 0 21 = x → ha_P (k_Reader_readsAll_L27 n x w) (m_hall_L29 (n + 1) z) w z := by
  intro n
  induction n with
  | zero =>
    intro x w z hT hK h20 hR hn hx h21
    have b := ha_bz hT hR
    have e : (z.1 0 22 + z.1 0 27).toInt = (z.1 0 22).toInt + (z.1 0 27).toInt := xadd rfl rfl (by have := b.2; omega) (by have := b.2; omega)
    have b := b.2
    rw [hx, e] at hn
    exact absurd hn (by omega)
  | succ n ih =>
    intro x w z hT hK h20 hR hn hx h21
    have b := ha_bz hT hR
    have fi := ha_fi hT hR
    have e : (z.1 0 22 + z.1 0 27).toInt = (z.1 0 22).toInt + (z.1 0 27).toInt := xadd rfl rfl (by have := b.2; omega) (by have := b.2; omega)
    have xb : x.toInt ≤ 14 ∧ 0 ≤ x.toInt := by
      have b := b.2
      rw [hx, e]; omega
    have ex : (x + 1).toInt = x.toInt + 1 := inc xb.2 (n := 15) (by omega) (by decide)
    unfold k_Reader_readsAll_L27 m_hall_L29
    rw [if_neg (show ¬ (150 : Int32) ≤ x from fun q => absurd (xq_le q (a := 150) rfl rfl) (by omega)), ← hK.2.2.1]
    by_cases h0 : w.1 1 5 = 0
    · rw [if_pos h0, if_pos h0, if_pos h0, if_pos h20]
      exact Or.inl ⟨w, z, rfl, rfl, hR, h21.trans hx, kF_rf w, mG_rf z, fi, b⟩
    · rw [if_neg h0, if_neg h0, if_pos h20]
      dsimp only
      have zL := (it_zL hT).1
      have I := ha_item hT hK h20 hR
      have kf := kF_item fi
      have kfi := FI_item0 fi
      have mf := mF_item zL b.1 b.2.1 b.2.2
      have mj := (MJ_item zL b.1 b.2.1 b.2.2).1
      have y21 := mf.2.1 21 (Or.inr rfl)
      generalize k_Reader_readsItem w = r at I kf kfi ⊢
      generalize m_readItem z = y at I mf mj y21 ⊢
      rcases I with ⟨r1, T, K, g20, R, hc⟩ | ⟨r1, B⟩
      · rw [if_neg (show ¬ b2i r.1 = 0 by rw [r1]; decide)]
        have P := ih (x + 1) r.2 (sp y 0 (upd (y.1 0) 21 (y.1 0 21 + 1))) (lk_putz T (by decide)) K g20 R (by rw [ex]; omega) (by rw [hx, ← hc]; rfl) (by rw [sp_eq, pk_us, y21, h21])
        rcases P with ⟨w', z', p1, p2, p3, p4, p5, p6, p7⟩ | ⟨w', z', p1, p2, p5, p6, p7⟩
        · exact Or.inl ⟨w', z', p1, p2, p3, p4, kf.tr p5, (mG_put (mG_F mf) (by decide)).tr p6, p7⟩
        · exact Or.inr ⟨w', z', p1, p2, kf.tr p5, (mG_put (mG_F mf) (by decide)).tr p6, p7⟩
      · rw [if_pos (show b2i r.1 = 0 by rw [r1]; decide)]
        refine Or.inr ⟨r.2, sp y 0 (upd (y.1 0) 21 (y.1 0 21 + 1)), rfl, ?_, kf, mG_put (mG_F mf) (by decide), kfi, ⟨mj.2.1, mj.2.2.1, mj.2.2.2⟩⟩
        have b20 : ¬ (sp y 0 (upd (y.1 0) 21 (y.1 0 21 + 1))).1 0 20 = 0 := B.1
        have e17 : (sp y 0 (upd (y.1 0) 21 (y.1 0 21 + 1))).1 0 17 = r.2.1 1 3 := B.2
        generalize sp y 0 (upd (y.1 0) 21 (y.1 0 21 + 1)) = y2 at b20 e17 ⊢
        unfold m_hall_L29
        rw [if_neg b20, if_neg b20, ← e17]
        split <;> rfl
end HA
