/-! ===== PURE: simple actions ===== -/
section AC
variable {u v : xU}
theorem in_f1 {x a b : Int32} (h : x.toInt < a.toInt) : b2i (m_in x a b) = 0 := b2i_0.mpr (Bool.eq_false_iff.mpr (fun g => absurd (in_iff.mp g).1 (by omega)))
theorem in_f2 {x a b : Int32} (h : b.toInt < x.toInt) : b2i (m_in x a b) = 0 := b2i_0.mpr (Bool.eq_false_iff.mpr (fun g => absurd (in_iff.mp g).2 (by omega)))
theorem in_t {x a b : Int32} (h : a.toInt ≤ x.toInt) (g : x.toInt ≤ b.toInt) : ¬ b2i (m_in x a b) = 0 := by rw [in_iff.mpr ⟨h, g⟩]; decide
theorem s_type : St_type Rel := by
  intro u v p1 hR
  obtain ⟨hl, hb, ht⟩ := hR.2.2.2.2.1
  refine ⟨hb, hl ▸ hb, ?_⟩
  rw [k_type_def, m_type_def]
  unfold k_type_b m_type_b
  by_cases c1 : p1 < 0
  · rw [if_pos c1, if_pos (in_f1 (xq_lt c1 rfl rfl))]; exact ⟨rfl, hR⟩
  rw [if_neg c1]
  by_cases c2 : p1 ≤ 255
  · rw [if_pos c2, if_neg (in_t (xq_nlt c1 rfl rfl) (xq_le c2 rfl rfl)), ← hl]
    by_cases c3 : u.1 1 1 < 150
    · have c3' := xq_lt c3 rfl (b := 150) rfl
      rw [if_pos c3, if_neg (fun h => absurd (show (u.1 1 1).toInt = 150 by rw [h]; rfl) (by omega))]
      have e := inc hb.1 c3' (by omega)
      have e2 : ((u.1 1 1).toNatClampNeg : Int) = (u.1 1 1).toInt := by show (((u.1 1 1).toInt.toNat : Nat) : Int) = _; omega
      refine ⟨rfl, hR.1, hR.2.1, hR.2.2.1, hR.2.2.2.1, ⟨rfl, ?_, ?_⟩, hR.2.2.2.2.2.1, hR.2.2.2.2.2.2.1, hR.2.2.2.2.2.2.2⟩
      · show 0 ≤ (u.1 1 1 + 1).toInt ∧ (u.1 1 1 + 1).toInt ≤ 150
        omega
      · intro j hj
        have hj : (j : Int) < (u.1 1 1 + 1).toInt := hj
        show upd (u.1 2) (u.1 1 1).toNatClampNeg p1 j = upd (v.1 11) (u.1 1 1).toNatClampNeg p1 j ∧ q32 (upd (u.1 2) (u.1 1 1).toNatClampNeg p1 j) 0 255
        by_cases hh : j = (u.1 1 1).toNatClampNeg
        · rw [hh, pk_us, pk_us]
          exact ⟨rfl, xq_nlt c1 rfl rfl, xq_le c2 rfl rfl⟩
        · rw [pk_un hh, pk_un hh]
          exact ht j (by omega)
    · have c3' := xq_nlt c3 rfl (b := 150) rfl
      rw [if_neg c3, if_pos (Int32.toInt_inj.mp (show (u.1 1 1).toInt = 150 by omega))]
      exact ⟨rfl, hR⟩
  · rw [if_neg c2, if_pos (in_f2 (xq_nle c2 rfl rfl))]; exact ⟨rfl, hR⟩
theorem s_clear : St_clear Rel := by
  intro u v hR
  obtain ⟨hl, hb, ht⟩ := hR.2.2.2.2.1
  refine ⟨trivial, trivial, ?_⟩
  rw [k_clear_def, m_clear_def]
  exact ⟨hl, hR.1, hR.2.1, hR.2.2.1, hR.2.2.2.1, ⟨rfl, (show (0 : Int) ≤ (0 : Int32).toInt ∧ (0 : Int32).toInt ≤ 150 by decide), fun j hj => absurd (show (j : Int) < (0 : Int32).toInt from hj) (by have : (0 : Int32).toInt = 0 := rfl; omega)⟩, hR.2.2.2.2.2.1, hR.2.2.2.2.2.2.1, hR.2.2.2.2.2.2.2⟩
theorem s_forget : St_forget Rel := by
  intro u v hR
  refine ⟨trivial, trivial, ?_⟩
  rw [k_forget_def, m_forget_def]
  exact ⟨hR.2.2.2.2.2.1.1, hR.1, hR.2.1, hR.2.2.1, hR.2.2.2.1, hR.2.2.2.2.1, ⟨rfl, (show (0 : Int) ≤ (0 : Int32).toInt ∧ (0 : Int32).toInt ≤ 6 by decide), fun j hj => absurd (show (j : Int) < (0 : Int32).toInt from hj) (by have : (0 : Int32).toInt = 0 := rfl; omega)⟩, hR.2.2.2.2.2.2.1, hR.2.2.2.2.2.2.2⟩
theorem s_hears : St_hears Rel := by
  intro u v p1 p2 hR
  obtain ⟨hl, hb, ht⟩ := hR.2.2.2.2.2.1
  refine ⟨⟨hR.bT, hR.bC, hb⟩, ⟨hR.mT, hR.mC, hl ▸ hb⟩, ?_⟩
  rw [k_hears_def, m_hears_def]
  unfold k_hears_b m_hears_b
  rw [hR.isThing]
  by_cases h : b2i (k_Hall_isThing u p1) = 0
  · rw [if_pos h, if_pos h]; exact ⟨rfl, hR⟩
  have h2 := thing_iff.mp (Bool.of_not_eq_false (fun g => h (b2i_0.mpr g)))
  rw [if_neg h, if_neg h]
  by_cases c1 : p2 < 0
  · rw [if_pos c1, if_pos (in_f1 (xq_lt c1 rfl rfl))]; exact ⟨rfl, hR⟩
  rw [if_neg c1]
  by_cases c2 : p2 ≤ 1
  · rw [if_pos c2, if_neg (in_t (xq_nlt c1 rfl rfl) (xq_le c2 rfl rfl)), ← hl]
    by_cases c3 : u.1 44 3 < 6
    · have c3' := xq_lt c3 rfl (b := 6) rfl
      rw [if_pos c3, if_neg (fun h => absurd (show (u.1 44 3).toInt = 6 by rw [h]; rfl) (by omega)), k_Hearsay_add_def]
      have e := inc hb.1 c3' (by omega)
      have e2 : ((u.1 44 3).toNatClampNeg : Int) = (u.1 44 3).toInt := by show (((u.1 44 3).toInt.toNat : Nat) : Int) = _; omega
      have f2 : ((2 : Int32) * u.1 44 3).toInt = 2 * (u.1 44 3).toInt := xmul rfl rfl (by have : (2 : Int32).toInt = 2 := rfl; omega) (by have : (2 : Int32).toInt = 2 := rfl; omega)
      have f3 : ((2 : Int32) * u.1 44 3).toNatClampNeg = 2 * (u.1 44 3).toNatClampNeg := by
        show ((2 : Int32) * u.1 44 3).toInt.toNat = _
        rw [f2]; omega
      have f5 : ((2 : Int32) * u.1 44 3 + 1).toInt = 2 * (u.1 44 3).toInt + 1 := xadd f2 rfl (by have : (1 : Int32).toInt = 1 := rfl; omega) (by have : (1 : Int32).toInt = 1 := rfl; omega)
      have f4 : ((2 : Int32) * u.1 44 3 + 1).toNatClampNeg = 2 * (u.1 44 3).toNatClampNeg + 1 := by
        show ((2 : Int32) * u.1 44 3 + 1).toInt.toNat = _
        rw [f5]; omega
      rw [f3, f4]
      refine ⟨rfl, hR.1, hR.2.1, hR.2.2.1, hR.2.2.2.1, hR.2.2.2.2.1, ⟨rfl, ?_, ?_⟩, hR.2.2.2.2.2.2.1, hR.2.2.2.2.2.2.2⟩
      · show 0 ≤ (u.1 44 3 + 1).toInt ∧ (u.1 44 3 + 1).toInt ≤ 6
        omega
      · intro j hj
        have hj : (j : Int) < (u.1 44 3 + 1).toInt := hj
        show upd (u.1 45) (u.1 44 3).toNatClampNeg p1 j = upd (upd (v.1 10) (2 * (u.1 44 3).toNatClampNeg) p1) (2 * (u.1 44 3).toNatClampNeg + 1) p2 (2 * j) ∧ upd (u.1 46) (u.1 44 3).toNatClampNeg p2 j = upd (upd (v.1 10) (2 * (u.1 44 3).toNatClampNeg) p1) (2 * (u.1 44 3).toNatClampNeg + 1) p2 (2 * j + 1) ∧ (0 ≤ (upd (u.1 45) (u.1 44 3).toNatClampNeg p1 j).toInt ∧ (upd (u.1 45) (u.1 44 3).toNatClampNeg p1 j).toInt < (u.1 13 0).toInt) ∧ q32 (upd (u.1 46) (u.1 44 3).toNatClampNeg p2 j) 0 1
        by_cases hh : j = (u.1 44 3).toNatClampNeg
        · rw [hh, pk_us, pk_us, pk_us, pk_un (by omega), pk_us]
          exact ⟨rfl, rfl, h2, xq_nlt c1 rfl rfl, xq_le c2 rfl rfl⟩
        · rw [pk_un hh, pk_un hh, pk_un (by omega), pk_un (by omega), pk_un (by omega), pk_un (by omega)]
          exact ht j (by omega)
    · have c3' := xq_nlt c3 rfl (b := 6) rfl
      rw [if_neg c3, if_pos (Int32.toInt_inj.mp (show (u.1 44 3).toInt = 6 by omega))]
      exact ⟨rfl, hR⟩
  · rw [if_neg c2, if_pos (in_f2 (xq_nle c2 rfl rfl))]; exact ⟨rfl, hR⟩
theorem Rel.long (hR : Rel u v) (x y : Int64) (h : x = y) : Rel (sl u x) (sl v y) := ⟨hR.1, hR.2.1, hR.2.2.1, hR.2.2.2.1, hR.2.2.2.2.1, hR.2.2.2.2.2.1, hR.2.2.2.2.2.2.1, h⟩
theorem s_mark : St_mark Rel := by
  intro u v p1 p2 hR
  have e := hR.2.2.2.2.2.2.2
  refine ⟨⟨hR.bT, hR.bC⟩, ⟨hR.mT, hR.mC⟩, ?_⟩
  rw [k_mark_def, m_mark_def]
  unfold k_mark_b m_mark_b
  by_cases c1 : p1 < 0
  · rw [if_pos c1, if_pos (in_f1 (xq_lt c1 rfl rfl))]; exact ⟨rfl, hR⟩
  rw [if_neg c1]
  by_cases c2 : 6 ≤ p1
  · have h5 : (5 : Int32).toInt = 5 := rfl
    rw [if_pos c2, if_pos (in_f2 (by have := xq_le c2 (a := 6) rfl rfl; omega))]; exact ⟨rfl, hR⟩
  have h5 : (5 : Int32).toInt = 5 := rfl
  rw [if_neg c2, if_neg (in_t (xq_nlt c1 rfl rfl) (by have := xq_nle c2 (a := 6) rfl rfl; omega)), hR.isCast]
  by_cases h : b2i (k_Hall_isCast u p2) = 0
  · rw [if_pos h, if_pos h]; exact ⟨rfl, hR⟩
  have h2 := cast_iff.mp (Bool.of_not_eq_false (fun g => h (b2i_0.mpr g)))
  have hb := hR.bcan8 (nlt h2.2 h2.1)
  have hl := hR.blacks (nlt h2.2 h2.1)
  have e1 := bits_eq hb.1 hb.2
  have e2 := bits_eq hl.1 (show (u.1 24 p2.toNatClampNeg).toInt < 256 by omega)
  rw [if_neg h, if_neg h, hR.icracks h2.1 h2.2, hR.ican h2.1 h2.2, hR.ilacks h2.1 h2.2, ← hR.night, ← e1, ← e2, ← e, k_Kinds_asKind_def]
  unfold k_Kinds_asKind_b
  by_cases d1 : p1 = 1
  · rw [if_pos d1, if_pos d1, k_Kinds_asApollo_def]; unfold k_Kinds_asApollo_b; rw [k_Kinds_asCast_def]
    exact ⟨rfl, hR.long _ _ (Int64.add_assoc u.2 10 1)⟩
  rw [if_neg d1, if_neg d1]
  by_cases d2 : p1 = 2
  · rw [if_pos d2, if_pos d2, k_Kinds_asVenus_def]; unfold k_Kinds_asVenus_b; rw [k_Kinds_asCast_def]
    exact ⟨rfl, hR.long _ _ (Int64.add_assoc u.2 100 1)⟩
  rw [if_neg d2, if_neg d2]
  by_cases d3 : p1 = 3
  · rw [if_pos d3, if_pos d3, k_Kinds_asThrower_def]; unfold k_Kinds_asThrower_b; rw [k_Kinds_asApollo_def]; unfold k_Kinds_asApollo_b; rw [k_Kinds_asCast_def]
    dsimp only [sl, k_Kinds_asCast_b]
    rw [Int64.add_assoc, Int64.add_assoc, show (1000 : Int64) + (10 + 1) = 1011 by decide]
    exact ⟨Int32.mul_comm _ _, hR.long _ _ rfl⟩
  rw [if_neg d3, if_neg d3]
  by_cases d4 : p1 = 4
  · rw [if_pos d4, if_pos d4, k_Kinds_asMuse_def]; unfold k_Kinds_asMuse_b; rw [k_Kinds_asVenus_def]; unfold k_Kinds_asVenus_b; rw [k_Kinds_asCast_def]
    dsimp only [sl, k_Kinds_asCast_b]
    rw [Int64.add_assoc, Int64.add_assoc, show (10000 : Int64) + (100 + 1) = 10101 by decide]
    exact ⟨rfl, hR.long _ _ rfl⟩
  rw [if_neg d4, if_neg d4]
  by_cases d5 : p1 = 5
  · rw [if_pos d5, if_pos d5, k_Kinds_asLoan_def]; unfold k_Kinds_asLoan_b; rw [k_Kinds_asCast_def]
    dsimp only [sl, k_Kinds_asCast_b]
    rw [Int64.add_assoc, show (100000 : Int64) + 1 = 100001 by decide]
    exact ⟨rfl, hR.long _ _ rfl⟩
  rw [if_neg d5, if_neg d5, k_Kinds_asCast_def]
  exact ⟨rfl, hR.long _ _ rfl⟩
end AC
