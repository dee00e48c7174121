/-! ===== PURE: queries ===== -/
section QU
variable {u v : xU}
theorem Rel.isBroken (hR : Rel u v) (c : Int32) : m_isBroken v c = k_Hall_isBroken u c := by
  unfold m_isBroken k_Hall_isBroken; rw [← hR.broken]; rfl
theorem Rel.mcan (hR : Rel u v) {c : Int32} (h0 : 0 ≤ c.toInt) (h1 : c.toInt < (u.1 13 1).toInt) (t : Int32) : m_can v c t = k_has (u.1 23 c.toNatClampNeg) t := by
  unfold m_can; rw [hR.ican h0 h1]; rfl
theorem Rel.hasPart (hR : Rel u v) {c t : Int32} (h0 : 0 ≤ c.toInt) (h1 : c.toInt < (u.1 13 1).toInt) (g0 : 0 ≤ t.toInt) (g1 : t.toInt < (u.1 13 0).toInt) : m_hasPart v c t = !k_Hall_lacksPartOf u c t := by
  unfold m_hasPart k_Hall_lacksPartOf
  obtain ⟨-, -, e, -, -, -, hb, -⟩ := hR.thing (nlt g1 g0)
  have hl := hR.blacks (nlt h1 h0)
  rw [hR.ilacks h0 h1, ← e, mhas]
  by_cases h : u.1 16 t.toNatClampNeg = 6
  · rw [if_pos h, h, has_bt _ (by decide) (by decide), bt_lt (n := 6) hl.1 (by omega) (by decide)]; rfl
  · rw [if_neg h]
    cases hh : k_has (u.1 24 c.toNatClampNeg) (u.1 16 t.toNatClampNeg) <;> rfl
theorem Rel.may (hR : Rel u v) {c t : Int32} (h0 : 0 ≤ c.toInt) (h1 : c.toInt < (u.1 13 1).toInt) (g0 : 0 ≤ t.toInt) (g1 : t.toInt < (u.1 13 0).toInt) : m_may v c t = k_Hall_may u c t := by
  unfold m_may k_Hall_may
  obtain ⟨-, -, -, e, -⟩ := hR.thing (nlt g1 g0)
  rw [hR.isBroken, hR.mcan h0 h1, hR.ican h0 h1, ← e, hR.hasPart h0 h1 g0 g1]
  cases hl : k_Hall_lacksPartOf u c t <;> rfl
theorem Rel.mays_L (hR : Rel u v) {c : Int32} (h0 : 0 ≤ c.toInt) (h1 : c.toInt < (u.1 13 1).toInt) : ∀ (n : Nat) (x y : Int32), 0 ≤ y.toInt → m_mays_L4 v c n x y = k_Hall_allItMay_L4 u c n x y := by
  intro n
  have hT := hR.bT
  induction n with
  | zero => intro x y _; rfl
  | succ n ih =>
    intro x y hy
    unfold m_mays_L4 k_Hall_allItMay_L4
    rw [← hR.T]
    by_cases h : u.1 13 0 ≤ y
    · rw [if_pos h, if_pos h]
    · have h2 := xq_nle h rfl rfl
      have e := inc hy h2 (by omega)
      rw [if_neg h, if_neg h, hR.may h0 h1 hy h2, or_0, ih _ _ (by omega), ih _ _ (by omega)]
theorem Rel.mays (hR : Rel u v) {c : Int32} (h0 : 0 ≤ c.toInt) (h1 : c.toInt < (u.1 13 1).toInt) : m_mays v c = k_Hall_allItMay u c := hR.mays_L h0 h1 _ _ _ (by decide)
theorem Rel.whoCan_L (hR : Rel u v) (t : Int32) : ∀ (n : Nat) (x y : Int32), 0 ≤ y.toInt → m_whoCan_L4 v t n x y = k_Hall_whoCan_L4 u t n x y := by
  intro n
  have hC := hR.bC
  induction n with
  | zero => intro x y _; rfl
  | succ n ih =>
    intro x y hy
    unfold m_whoCan_L4 k_Hall_whoCan_L4
    rw [← hR.C]
    by_cases h : u.1 13 1 ≤ y
    · rw [if_pos h, if_pos h]
    · have h2 := xq_nle h rfl rfl
      have e := inc hy h2 (by omega)
      rw [if_neg h, if_neg h, hR.mcan hy h2, or_0, ih _ _ (by omega), ih _ _ (by omega)]
theorem Rel.whoCan (hR : Rel u v) (t : Int32) : m_whoCan v t = k_Hall_whoCan u t := hR.whoCan_L t _ _ _ (by decide)
theorem Rel.inClass_L (hR : Rel u v) : ∀ (n : Nat) (x y : Int32), 0 ≤ y.toInt → m_inClass_L4 v n x y = k_Hall_whoIsInClass_L4 u n x y := by
  intro n
  have hC := hR.bC
  induction n with
  | zero => intro x y _; rfl
  | succ n ih =>
    intro x y hy
    unfold m_inClass_L4 k_Hall_whoIsInClass_L4
    rw [← hR.C]
    by_cases h : u.1 13 1 ≤ y
    · rw [if_pos h, if_pos h]
    · have h2 := xq_nle h rfl rfl
      have e := inc hy h2 (by omega)
      have hb := hR.bcourse (nlt h2 hy)
      have e2 : (k_orNone (u.1 26 y.toNatClampNeg) = -9) ↔ u.1 26 y.toNatClampNeg = -1 := by
        unfold k_orNone
        by_cases hh : u.1 26 y.toNatClampNeg = -1
        · rw [if_pos hh]; exact ⟨fun _ => hh, fun _ => rfl⟩
        · rw [if_neg hh]
          exact ⟨fun h => absurd (show (u.1 26 y.toNatClampNeg).toInt = -9 by rw [h]; rfl) (by omega), fun h => absurd h hh⟩
      rw [if_neg h, if_neg h, hR.icourse hy h2, or_0, ih _ _ (by omega), ih _ _ (by omega)]
      by_cases hh : u.1 26 y.toNatClampNeg = -1
      · rw [if_pos hh, if_pos (e2.mpr hh)]
      · rw [if_neg hh, if_neg (fun h => hh (e2.mp h))]
theorem Rel.inClass (hR : Rel u v) : m_inClass v = k_Hall_whoIsInClass u := hR.inClass_L _ _ _ (by decide)
theorem Rel.learnt_L (hR : Rel u v) : ∀ (n : Nat) (x y : Int32), 0 ≤ y.toInt → m_learntAll_L4 v n x y = k_Hall_learntByAll_L4 u n x y := by
  intro n
  have hC := hR.bC
  induction n with
  | zero => intro x y _; rfl
  | succ n ih =>
    intro x y hy
    unfold m_learntAll_L4 k_Hall_learntByAll_L4
    rw [← hR.C]
    by_cases h : u.1 13 1 ≤ y
    · rw [if_pos h, if_pos h]
    · have h2 := xq_nle h rfl rfl
      have e := inc hy h2 (by omega)
      have hb := hR.bcan8 (nlt h2 hy)
      dsimp only
      rw [if_neg h, if_neg h, hR.ican hy h2, bits_eq hb.1 hb.2, ih _ _ (by omega)]
theorem Rel.learnt (hR : Rel u v) : m_learntAll v = k_Hall_learntByAll u := hR.learnt_L _ _ _ (by decide)
theorem xor63 {x y : Int32} (h0 : 0 ≤ x.toInt ∧ x.toInt ≤ 63) (h1 : 0 ≤ y.toInt ∧ y.toInt ≤ 63) : 0 ≤ (x ^^^ y).toInt ∧ (x ^^^ y).toInt < 2 ^ 6 := lt_bt (by decide) (fun i hi _ => by rw [bt_xor, bt_lt (n := 6) h0.1 (by omega) hi, bt_lt (n := 6) h1.1 (by omega) hi]; rfl)
theorem Rel.between (hR : Rel u v) {c d : Int32} (h0 : 0 ≤ c.toInt) (h1 : c.toInt < (u.1 13 1).toInt) (g0 : 0 ≤ d.toInt) (g1 : d.toInt < (u.1 13 1).toInt) : m_between v c d = k_Hall_unlikeParts u c d := by
  unfold m_between k_Hall_unlikeParts
  have hb := xor63 (hR.blacks (nlt h1 h0)) (hR.blacks (nlt g1 g0))
  rw [hR.ilacks h0 h1, hR.ilacks g0 g1, bits_eq hb.1 (by omega)]
theorem s_thing : St_thing Rel := by
  intro u v p1 p2 hR
  refine ⟨⟨hR.bT, hR.bC⟩, ⟨hR.mT, hR.mC⟩, ?_, hR⟩
  unfold k_thing m_thing
  rw [hR.isThing]
  by_cases h : b2i (k_Hall_isThing u p1) = 0
  · rw [if_pos h, if_pos h]
  · have h2 := thing_iff.mp (Bool.of_not_eq_false (fun g => h (b2i_0.mpr g)))
    obtain ⟨e1, e2, e3, e4, -⟩ := hR.thing (nlt h2.2 h2.1)
    rw [if_neg h, if_neg h, hR.whoCan, e1, e2, e3, e4]
theorem s_cast : St_cast Rel := by
  intro u v p1 p2 hR
  refine ⟨⟨hR.bT, hR.bC⟩, ⟨hR.mT, hR.mC⟩, ?_, hR⟩
  unfold k_cast m_cast
  rw [hR.isCast]
  by_cases h : b2i (k_Hall_isCast u p1) = 0
  · rw [if_pos h, if_pos h]
  · have h2 := cast_iff.mp (Bool.of_not_eq_false (fun g => h (b2i_0.mpr g)))
    obtain ⟨e1, e2, -⟩ := hR.cast (nlt h2.2 h2.1)
    rw [if_neg h, if_neg h, hR.ilacks h2.1 h2.2, hR.icracks h2.1 h2.2, hR.isBroken, hR.ican h2.1 h2.2, hR.mays h2.1 h2.2, hR.icourse h2.1 h2.2, e1, e2]
theorem s_far : St_far Rel := by
  intro u v p1 p2 hR
  refine ⟨⟨hR.bT, hR.bC⟩, ⟨hR.mT, hR.mC⟩, ?_, hR⟩
  unfold k_far m_far
  rw [hR.isCast, hR.isThing]
  by_cases h : b2i (k_Hall_isCast u p1) = 0
  · rw [if_pos h, if_pos h]
  · have h2 := cast_iff.mp (Bool.of_not_eq_false (fun g => h (b2i_0.mpr g)))
    rw [if_neg h, if_neg h]
    by_cases g : b2i (k_Hall_isThing u p2) = 0
    · rw [if_pos g, if_pos g]
    · have g2 := thing_iff.mp (Bool.of_not_eq_false (fun h => g (b2i_0.mpr h)))
      rw [if_neg g, if_neg g, hR.ifar h2.1 h2.2 g2.1 g2.2]
theorem s_near : St_near Rel := by
  intro u v p1 p2 hR
  refine ⟨⟨hR.bT, hR.bC⟩, ⟨hR.mT, hR.mC⟩, ?_, hR⟩
  unfold k_near m_near
  rw [hR.isCast, hR.isCast]
  by_cases h : b2i (k_Hall_isCast u p1) = 0
  · rw [if_pos h, if_pos h]
  · have h2 := cast_iff.mp (Bool.of_not_eq_false (fun g => h (b2i_0.mpr g)))
    rw [if_neg h, if_neg h]
    by_cases g : b2i (k_Hall_isCast u p2) = 0
    · rw [if_pos g, if_pos g]
    · have g2 := cast_iff.mp (Bool.of_not_eq_false (fun h => g (b2i_0.mpr h)))
      rw [if_neg g, if_neg g, hR.between h2.1 h2.2 g2.1 g2.2]
theorem s_count : St_count Rel := by
  intro u v p1 hR
  refine ⟨trivial, trivial, ?_, hR⟩
  unfold k_count m_count
  rw [← hR.T, ← hR.C, ← hR.2.2.2.2.1.1, ← hR.2.2.2.2.2.1.1, ← hR.P.1]
theorem s_trace : St_trace Rel := fun u v hR => ⟨trivial, trivial, hR.2.2.2.2.2.2.2, hR⟩
end QU
