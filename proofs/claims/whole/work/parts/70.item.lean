/-! ===== PURE: an item is read ===== -/
section IT
def it_R (w z : xU) : Prop :=
  w.1 4 0 = z.1 0 22 ∧ w.1 4 1 = z.1 0 27 ∧ (0 ≤ (w.1 4 0).toInt ∧ (w.1 4 0).toInt ≤ 8) ∧ (0 ≤ (w.1 4 1).toInt ∧ (w.1 4 1).toInt ≤ 6) ∧
  (∀ t : Nat, (t : Int) < (w.1 4 0).toInt → w.1 5 t = z.1 12 t ∧ w.1 6 t = z.1 13 t ∧ w.1 7 t = z.1 14 t ∧ w.1 8 t = z.1 15 t ∧ q32 (w.1 5 t) 0 9 ∧ q32 (w.1 6 t) 1 30 ∧ q32 (w.1 7 t) 0 6 ∧ (0 ≤ (w.1 8 t).toInt ∧ (w.1 8 t).toInt < 2 ^ t)) ∧
  (∀ c : Nat, (c : Int) < (w.1 4 1).toInt → w.1 9 c = z.1 16 c ∧ w.1 10 c = z.1 17 c ∧ w.1 11 c = z.1 18 c ∧ q32 (w.1 9 c) 1 99 ∧ q32 (w.1 10 c) 1 9 ∧ q32 (w.1 11 c) 0 63)
theorem it_R_to {w z w' z' : xU} (h : it_R w z) (hw : ∀ j : Nat, 4 ≤ j → j ≤ 11 → w'.1 j = w.1 j) (hz : ∀ k : Nat, 12 ≤ k → k ≤ 18 → z'.1 k = z.1 k) (h22 : z'.1 0 22 = z.1 0 22) (h27 : z'.1 0 27 = z.1 0 27) : it_R w' z' := by
  unfold it_R
  rw [hw 4 (by decide) (by decide), hw 5 (by decide) (by decide), hw 6 (by decide) (by decide), hw 7 (by decide) (by decide), hw 8 (by decide) (by decide), hw 9 (by decide) (by decide), hw 10 (by decide) (by decide), hw 11 (by decide) (by decide), hz 12 (by decide) (by decide), hz 13 (by decide) (by decide), hz 14 (by decide) (by decide), hz 15 (by decide) (by decide), hz 16 (by decide) (by decide), hz 17 (by decide) (by decide), hz 18 (by decide) (by decide), h22, h27]
  exact h
def it_F (w : xU) (lo hi : Int32) : Prop := w.1 1 5 = 2 ∧ lo.toInt ≤ (w.1 1 6).toInt ∧ (w.1 1 6).toInt ≤ hi.toInt
def it_B (s : Int32) (z : xU) : Prop := ¬ z.1 0 20 = 0 ∧ z.1 0 17 = s
theorem it_B_1 {s : Int32} {z : xU} (h : z.1 0 17 = s) : it_B s (sp z 0 (upd (z.1 0) 20 1)) := ⟨show ¬ (1 : Int32) = 0 by decide, h⟩
theorem it_B_take {s : Int32} {z : xU} {a b : Int32} (h : it_B s z) : it_B s (m_takesNumber z a b).2 := by
  rw [m_takesNumber_def]; unfold m_takesNumber_b; rw [if_neg h.1]; exact it_B_1 h.2
theorem it_B_sp {s : Int32} {z : xU} {k : Nat} {f : Nat → Int32} (h : it_B s z) (hk : k ≠ 0) : it_B s (sp z k f) := by
  unfold it_B; rw [sp_ne (Ne.symm hk)]; exact h
theorem it_B_put {s : Int32} {z r : xU} {k : Nat} {x : Int32} (h : it_B s r) (hk : k ≠ 17 ∧ k ≠ 20) : it_B s (sp z 0 (upd (r.1 0) k x)) := by
  unfold it_B; rw [sp_eq, pk_un (Ne.symm hk.1), pk_un (Ne.symm hk.2)]; exact h
noncomputable def it_tl (r : xU) : xU := if (r.1 0 20) = (0 : Int32) then (if (r.1 0 18) = (3 : Int32) then m_next (sp r 0 (upd (r.1 0) 20 (0 : Int32))) else sp r 0 (upd (r.1 0) 20 (1 : Int32))) else sp r 0 (upd (r.1 0) 20 (1 : Int32))
theorem it_B_tl {s : Int32} {z : xU} (h : it_B s z) : it_B s (it_tl z) := by
  unfold it_tl; rw [if_neg h.1]; exact it_B_1 h.2
theorem it_zL {w z : xU} (hT : lk_T w z) : (0 ≤ (z.1 0 15).toInt ∧ (z.1 0 15).toInt ≤ 150) ∧ (0 ≤ (z.1 0 16).toInt ∧ (z.1 0 16).toInt ≤ 150) := by
  have h1 : 0 ≤ (w.1 1 1).toInt ∧ (w.1 1 1).toInt ≤ 150 := hT.1.2.1
  have h2 := hT.2.2
  rw [hT.1.1] at h1
  rw [hT.2.1] at h2
  exact ⟨h1, h2⟩
theorem it_take {w z : xU} (lo hi : Int32) (x : Nat) (hT : lk_T w z) (hK : lk_K w z) (h20 : z.1 0 20 = 0) :
    (it_F w lo hi ∧ (m_takesNumber z lo hi).1 = w.1 1 6 ∧ lk_T (k_Reader_look (sp w 3 (upd (w.1 3) x (w.1 1 6)))) (m_takesNumber z lo hi).2 ∧ lk_K (k_Reader_look (sp w 3 (upd (w.1 3) x (w.1 1 6)))) (m_takesNumber z lo hi).2 ∧ (m_takesNumber z lo hi).2.1 0 20 = 0) ∨ (¬ it_F w lo hi ∧ it_B (w.1 1 3) (m_takesNumber z lo hi).2) := by
  rw [m_takesNumber_def]; unfold m_takesNumber_b; dsimp only
  rw [if_pos h20, ← hK.2.2.1]
  by_cases h2 : w.1 1 5 = 2
  · have e := (hK.2.2.2.2 h2).1
    rw [if_pos h2, ← e]
    by_cases hin : b2i (m_in (w.1 1 6) lo hi) = 0
    · rw [if_pos hin]
      exact Or.inr ⟨fun f => in_t f.2.1 f.2.2 hin, it_B_1 hK.2.1.symm⟩
    · rw [if_neg hin]
      have hT2 : lk_T (sp w 3 (upd (w.1 3) x (w.1 1 6))) z := hT
      have hT3 : lk_T (sp w 3 (upd (w.1 3) x (w.1 1 6))) (sp z 0 (upd (z.1 0) 20 0)) := lk_putz hT2 (by decide)
      obtain ⟨k, t⟩ := lk_look hT3
      have zb := it_zL hT3
      refine Or.inl ⟨⟨h2, hk_in hin⟩, e.symm, t, k, ?_⟩
      exact (MN_next zb.1 zb.2).1.2.1 20 (by decide)
  · rw [if_neg h2]
    exact Or.inr ⟨fun f => h2 f.1, it_B_1 hK.2.1.symm⟩
/-- what a number's taking leaves of the class -/
theorem it_cl {w z : xU} {f : Nat → Int32} (hT : lk_T w z) : (∀ j : Nat, j ≠ 1 → j ≠ 3 → (k_Reader_look (sp w 3 f)).1 j = w.1 j) ∧ (k_Reader_look (sp w 3 f)).1 3 = f := by
  have h1 : 0 ≤ (w.1 1 1).toInt ∧ (w.1 1 1).toInt ≤ 150 := hT.1.2.1
  have r := RI_look (u := sp w 3 f) h1 hT.2.2
  exact ⟨fun j h1 h3 => (r.1 j h1).trans (sp_ne h3), (r.1 3 (by decide)).trans sp_eq⟩
theorem it_le {x y : Int32} {b : Int} (h : ¬ y < x) (hy : y.toInt = b) : x.toInt ≤ b := xq_nlt h hy rfl
theorem it_ft {w : xU} {i lo hi : Int32} (h3 : ¬ (3 : Int32) ≤ i) (hl : xzv 0 i.toNatClampNeg = lo) (hh : xzv 1 i.toNatClampNeg = hi) : (it_F w lo hi → ¬ b2i (k_Reader_fitsThing w i) = 0) ∧ (¬ it_F w lo hi → b2i (k_Reader_fitsThing w i) = 0) := by
  unfold k_Reader_fitsThing
  rw [hl, hh, if_neg h3]
  constructor
  · intro f
    rw [if_pos f.1, if_neg (fun q => absurd (xq_lt q rfl rfl) (by have := f.2.1; omega)), if_neg (fun q => absurd (xq_lt q rfl rfl) (by have := f.2.2; omega))]
    decide
  · intro f
    split
    · rename_i h2
      split
      · rfl
      · rename_i g1
        split
        · rfl
        · rename_i g2
          exact absurd ⟨h2, xq_nlt g1 rfl rfl, xq_nlt g2 rfl rfl⟩ f
    · rfl
theorem it_fn {w z : xU} {i : Int32} (hK : lk_K w z) (h3 : (3 : Int32) ≤ i) : (it_F w 0 (w.1 4 0) → ¬ b2i (k_Reader_fitsThing w i) = 0) ∧ (¬ it_F w 0 (w.1 4 0) → b2i (k_Reader_fitsThing w i) = 0) := by
  unfold k_Reader_fitsThing
  rw [if_pos h3]
  constructor
  · intro f
    rw [if_pos f.1, if_neg (fun q => absurd (xq_lt q rfl rfl) (by have := f.2.2; omega))]
    decide
  · intro f
    split
    · rename_i h2
      split
      · rfl
      · rename_i g2
        exact absurd ⟨h2, (hK.2.2.2.2 h2).2.1, xq_nlt g2 rfl rfl⟩ f
    · rfl
theorem it_fc {w : xU} {i lo hi : Int32} (hl : xzv 2 i.toNatClampNeg = lo) (hh : xzv 3 i.toNatClampNeg = hi) : (it_F w lo hi → ¬ b2i (k_Reader_fitsCast w i) = 0) ∧ (¬ it_F w lo hi → b2i (k_Reader_fitsCast w i) = 0) := by
  unfold k_Reader_fitsCast
  rw [hl, hh]
  constructor
  · intro f
    rw [if_pos f.1, if_neg (fun q => absurd (xq_lt q rfl rfl) (by have := f.2.1; omega)), if_neg (fun q => absurd (xq_lt q rfl rfl) (by have := f.2.2; omega))]
    decide
  · intro f
    split
    · rename_i h2
      split
      · rfl
      · rename_i g1
        split
        · rfl
        · rename_i g2
          exact absurd ⟨h2, xq_nlt g1 rfl rfl, xq_nlt g2 rfl rfl⟩ f
    · rfl
theorem it_Lt (n : Nat) (x y : Int32) (w : xU) (h : ¬ (5 : Int32) ≤ x) (hy : x + 1 = y) : k_Reader_readsItem_L97 1 5 (n + 1) x w = if b2i (k_Reader_fitsThing w x) = 0 then (false, w) else k_Reader_readsItem_L97 1 5 n y (k_Reader_look (sp w 3 (upd (w.1 3) x.toNatClampNeg (w.1 1 6)))) := by
  rw [← hy]
  conv => lhs; unfold k_Reader_readsItem_L97
  rw [if_neg h, if_neg (show ¬ (1 : Int32) = 0 by decide)]
theorem it_Lte (n : Nat) (w : xU) : k_Reader_readsItem_L97 1 5 (n + 1) 5 w = if w.1 1 5 = 3 then (true, k_Told_addThing (k_Reader_look w)) else (false, w) := by
  conv => lhs; unfold k_Reader_readsItem_L97
  rw [if_pos (show (5 : Int32) ≤ 5 by decide), if_neg (show ¬ (1 : Int32) = 0 by decide)]
theorem it_Lc (n : Nat) (x y : Int32) (w : xU) (h : ¬ (3 : Int32) ≤ x) (hy : x + 1 = y) : k_Reader_readsItem_L97 0 3 (n + 1) x w = if b2i (k_Reader_fitsCast w x) = 0 then (false, w) else k_Reader_readsItem_L97 0 3 n y (k_Reader_look (sp w 3 (upd (w.1 3) x.toNatClampNeg (w.1 1 6)))) := by
  rw [← hy]
  conv => lhs; unfold k_Reader_readsItem_L97
  rw [if_neg h, if_pos (show (0 : Int32) = 0 from rfl)]
theorem it_Lce (n : Nat) (w : xU) : k_Reader_readsItem_L97 0 3 (n + 1) 3 w = if w.1 1 5 = 3 then (true, k_Told_addCast (k_Reader_look w)) else (false, w) := by
  conv => lhs; unfold k_Reader_readsItem_L97
  rw [if_pos (show (3 : Int32) ≤ 3 by decide), if_pos (show (0 : Int32) = 0 from rfl)]
def it_E (r : Bool × xU) (c : Int32) (z : xU) : Prop := (r.1 = true ∧ lk_T r.2 z ∧ lk_K r.2 z ∧ z.1 0 20 = 0 ∧ it_R r.2 z ∧ z.1 0 22 + z.1 0 27 = c + 1) ∨ (r.1 = false ∧ it_B (r.2.1 1 3) z)
theorem it_need {a b t : Int32} (ht : 0 ≤ t.toInt ∧ t.toInt < 8) (ha : 0 ≤ a.toInt ∧ a.toInt ≤ t.toInt) (hb : 0 ≤ b.toInt ∧ b.toInt ≤ t.toInt) : 0 ≤ ((((1 : Int32) <<< (a &&& 31)) ||| ((1 : Int32) <<< (b &&& 31))) &&& (((1 : Int32) <<< (t &&& 31)) ^^^ (-1 : Int32))).toInt ∧ ((((1 : Int32) <<< (a &&& 31)) ||| ((1 : Int32) <<< (b &&& 31))) &&& (((1 : Int32) <<< (t &&& 31)) ^^^ (-1 : Int32))).toInt < 2 ^ t.toNatClampNeg := by
  have et : t.toNatClampNeg = t.toInt.toNat := rfl
  have ea : a.toNatClampNeg = a.toInt.toNat := rfl
  have eb : b.toNatClampNeg = b.toInt.toNat := rfl
  refine lt_bt (by omega) (fun i hi h32 => ?_)
  rw [bt_and, bt_or, bt_not _ h32, bt_sh ha.1 (by omega), bt_sh hb.1 (by omega), bt_sh ht.1 (by omega)]
  by_cases h : i = t.toNatClampNeg
  · rw [decide_eq_true h]; simp
  · rw [decide_eq_false (show ¬ i = a.toNatClampNeg by omega), decide_eq_false (show ¬ i = b.toNatClampNeg by omega)]; rfl
theorem it_R_thing {w z w' z' : xU} {v0 v1 v2 v3 v4 : Int32} (hR : it_R w z) (h8 : (w.1 4 0).toInt < 8) (b0 : q32 v0 0 9) (b1 : q32 v1 1 30) (b2 : q32 v2 0 6) (b3 : 0 ≤ v3.toInt ∧ v3.toInt ≤ (w.1 4 0).toInt) (b4 : 0 ≤ v4.toInt ∧ v4.toInt ≤ (w.1 4 0).toInt)
    (k4 : w'.1 4 = upd (w.1 4) 0 (w.1 4 0 + 1)) (k5 : w'.1 5 = upd (w.1 5) (w.1 4 0).toNatClampNeg v0) (k6 : w'.1 6 = upd (w.1 6) (w.1 4 0).toNatClampNeg v1) (k7 : w'.1 7 = upd (w.1 7) (w.1 4 0).toNatClampNeg v2) (k8 : w'.1 8 = upd (w.1 8) (w.1 4 0).toNatClampNeg ((((1 : Int32) <<< (v3 &&& 31)) ||| ((1 : Int32) <<< (v4 &&& 31))) &&& (((1 : Int32) <<< ((w.1 4 0) &&& 31)) ^^^ (-1 : Int32)))) (k9 : w'.1 9 = w.1 9) (k10 : w'.1 10 = w.1 10) (k11 : w'.1 11 = w.1 11)
    (m22 : z'.1 0 22 = z.1 0 22 + 1) (m27 : z'.1 0 27 = z.1 0 27) (m12 : z'.1 12 = upd (z.1 12) (z.1 0 22).toNatClampNeg v0) (m13 : z'.1 13 = upd (z.1 13) (z.1 0 22).toNatClampNeg v1) (m14 : z'.1 14 = upd (z.1 14) (z.1 0 22).toNatClampNeg v2) (m15 : z'.1 15 = upd (z.1 15) (z.1 0 22).toNatClampNeg ((((1 : Int32) <<< (v3 &&& 31)) ||| ((1 : Int32) <<< (v4 &&& 31))) &&& (((1 : Int32) <<< ((z.1 0 22) &&& 31)) ^^^ (-1 : Int32)))) (m16 : z'.1 16 = z.1 16) (m17 : z'.1 17 = z.1 17) (m18 : z'.1 18 = z.1 18) : it_R w' z' := by
  obtain ⟨c22, c27, b22, b27, hth, hca⟩ := hR
  have e : (w.1 4 0 + 1).toInt = (w.1 4 0).toInt + 1 := inc b22.1 h8 (by omega)
  have et : (((w.1 4 0).toNatClampNeg : Nat) : Int) = (w.1 4 0).toInt := by show (((w.1 4 0).toInt.toNat : Nat) : Int) = _; omega
  have k40 : w'.1 4 0 = w.1 4 0 + 1 := by rw [k4, pk_us]
  have k41 : w'.1 4 1 = w.1 4 1 := by rw [k4, pk_un (by decide)]
  unfold it_R
  rw [k40, k41, m22, m27, k5, k6, k7, k8, k9, k10, k11, m12, m13, m14, m15, m16, m17, m18, ← c22, e]
  refine ⟨rfl, c27, by omega, b27, fun t ht => ?_, hca⟩
  by_cases hh : t = (w.1 4 0).toNatClampNeg
  · rw [hh, pk_us, pk_us, pk_us, pk_us, pk_us, pk_us, pk_us, pk_us]
    exact ⟨rfl, rfl, rfl, rfl, b0, b1, b2, it_need ⟨b22.1, h8⟩ b3 b4⟩
  · rw [pk_un hh, pk_un hh, pk_un hh, pk_un hh, pk_un hh, pk_un hh, pk_un hh, pk_un hh]
    exact hth t (by omega)
theorem it_R_cast {w z w' z' : xU} {v0 v1 v2 : Int32} (hR : it_R w z) (h8 : (w.1 4 1).toInt < 6) (b0 : q32 v0 1 99) (b1 : q32 v1 1 9) (b2 : q32 v2 0 63)
    (k4 : w'.1 4 = upd (w.1 4) 1 (w.1 4 1 + 1)) (k9 : w'.1 9 = upd (w.1 9) (w.1 4 1).toNatClampNeg v0) (k10 : w'.1 10 = upd (w.1 10) (w.1 4 1).toNatClampNeg v1) (k11 : w'.1 11 = upd (w.1 11) (w.1 4 1).toNatClampNeg v2) (k5 : w'.1 5 = w.1 5) (k6 : w'.1 6 = w.1 6) (k7 : w'.1 7 = w.1 7) (k8 : w'.1 8 = w.1 8)
    (m27 : z'.1 0 27 = z.1 0 27 + 1) (m22 : z'.1 0 22 = z.1 0 22) (m16 : z'.1 16 = upd (z.1 16) (z.1 0 27).toNatClampNeg v0) (m17 : z'.1 17 = upd (z.1 17) (z.1 0 27).toNatClampNeg v1) (m18 : z'.1 18 = upd (z.1 18) (z.1 0 27).toNatClampNeg v2) (m12 : z'.1 12 = z.1 12) (m13 : z'.1 13 = z.1 13) (m14 : z'.1 14 = z.1 14) (m15 : z'.1 15 = z.1 15) : it_R w' z' := by
  obtain ⟨c22, c27, b22, b27, hth, hca⟩ := hR
  have e : (w.1 4 1 + 1).toInt = (w.1 4 1).toInt + 1 := inc b27.1 h8 (by omega)
  have et : (((w.1 4 1).toNatClampNeg : Nat) : Int) = (w.1 4 1).toInt := by show (((w.1 4 1).toInt.toNat : Nat) : Int) = _; omega
  have k41 : w'.1 4 1 = w.1 4 1 + 1 := by rw [k4, pk_us]
  have k40 : w'.1 4 0 = w.1 4 0 := by rw [k4, pk_un (by decide)]
  unfold it_R
  rw [k40, k41, m22, m27, k5, k6, k7, k8, k9, k10, k11, m12, m13, m14, m15, m16, m17, m18, ← c27, e]
  refine ⟨c22, rfl, b22, by omega, hth, fun t ht => ?_⟩
  by_cases hh : t = (w.1 4 1).toNatClampNeg
  · rw [hh, pk_us, pk_us, pk_us, pk_us, pk_us, pk_us]
    exact ⟨rfl, rfl, rfl, b0, b1, b2⟩
  · rw [pk_un hh, pk_un hh, pk_un hh, pk_un hh, pk_un hh, pk_un hh]
    exact hca t (by omega)
theorem it_at (L : xU) : (k_Told_addThing L).1 5 = upd (L.1 5) (L.1 4 0).toNatClampNeg (L.1 3 0) ∧ (k_Told_addThing L).1 6 = upd (L.1 6) (L.1 4 0).toNatClampNeg (L.1 3 1) ∧ (k_Told_addThing L).1 7 = upd (L.1 7) (L.1 4 0).toNatClampNeg (L.1 3 2) ∧ (k_Told_addThing L).1 8 = upd (L.1 8) (L.1 4 0).toNatClampNeg ((((1 : Int32) <<< ((L.1 3 3) &&& 31)) ||| ((1 : Int32) <<< ((L.1 3 4) &&& 31))) &&& (((1 : Int32) <<< ((L.1 4 0) &&& 31)) ^^^ (-1 : Int32))) ∧ (k_Told_addThing L).1 4 = upd (L.1 4) 0 (L.1 4 0 + 1) ∧ (∀ j : Nat, j < 4 ∨ 8 < j → (k_Told_addThing L).1 j = L.1 j) ∧ (k_Told_addThing L).2 = L.2 := by
  rw [k_Told_addThing_def]
  refine ⟨rfl, rfl, rfl, rfl, rfl, fun j hj => ?_, rfl⟩
  unfold k_Told_addThing_b; dsimp only
  rw [sp_ne (by omega), sp_ne (by omega), sp_ne (by omega), sp_ne (by omega), sp_ne (by omega)]
theorem it_ac (L : xU) : (k_Told_addCast L).1 9 = upd (L.1 9) (L.1 4 1).toNatClampNeg (L.1 3 0) ∧ (k_Told_addCast L).1 10 = upd (L.1 10) (L.1 4 1).toNatClampNeg (L.1 3 1) ∧ (k_Told_addCast L).1 11 = upd (L.1 11) (L.1 4 1).toNatClampNeg (L.1 3 2) ∧ (k_Told_addCast L).1 4 = upd (L.1 4) 1 (L.1 4 1 + 1) ∧ (∀ j : Nat, j ≠ 4 → (j < 9 ∨ 11 < j) → (k_Told_addCast L).1 j = L.1 j) ∧ (k_Told_addCast L).2 = L.2 := by
  rw [k_Told_addCast_def]
  refine ⟨rfl, rfl, rfl, rfl, fun j h4 hj => ?_, rfl⟩
  unfold k_Told_addCast_b; dsimp only
  rw [sp_ne (by omega), sp_ne (by omega), sp_ne (by omega), sp_ne (by omega)]
set_option maxHeartbeats 4000000 in
theorem it_thing {w0 z0 : xU} (hT : lk_T w0 z0) (hK : lk_K w0 z0) (h20 : z0.1 0 20 = 0) (hR : it_R w0 z0) (h8 : (w0.1 4 0).toInt < 8) : it_E (k_Reader_readsItem_L97 1 5 6 0 w0) (z0.1 0 22 + z0.1 0 27) (it_tl (m_readThing z0)) := by
  rw [m_readThing_def]; unfold m_readThing_b; dsimp only
  have hR0 := hR
  obtain ⟨c22, c27, b22, b27, hth, hca⟩ := hR
  have T0 := hT
  have K0 := hK
  have G0 := h20
  have zb0 := it_zL T0
  have M1 := MT_take (u := z0) (a := 0) (b := 9) zb0.1 zb0.2
  have A1 := it_take 0 9 (0 : Int32).toNatClampNeg T0 K0 G0
  generalize m_takesNumber z0 0 9 = r1 at M1 A1 ⊢
  rw [it_Lt 5 0 1 w0 (by decide) (by decide)]
  rcases A1 with ⟨f1, e1, T1, K1, G1⟩ | ⟨f, B⟩
  rotate_left
  · rw [if_pos ((it_ft (w := w0) (i := 0) (lo := 0) (hi := 9) (by decide) rfl rfl).2 f)]
    exact Or.inr ⟨rfl, it_B_tl (it_B_put (it_B_take (it_B_take (it_B_sp (it_B_take (it_B_sp (it_B_take (it_B_sp B (by decide))) (by decide))) (by decide)))) (by decide))⟩
  rw [if_neg ((it_ft (w := w0) (i := 0) (lo := 0) (hi := 9) (by decide) rfl rfl).1 f1)]
  obtain ⟨C1, N1⟩ := it_cl (f := upd (w0.1 3) (0 : Int32).toNatClampNeg (w0.1 1 6)) T0
  generalize k_Reader_look (sp w0 3 (upd (w0.1 3) (0 : Int32).toNatClampNeg (w0.1 1 6))) = w1 at T1 K1 C1 N1 ⊢
  obtain ⟨s1, hs1⟩ : ∃ s, s = sp r1.2 12 (upd (r1.2.1 12) (z0.1 0 22).toNatClampNeg r1.1) := ⟨_, rfl⟩
  rw [← hs1]
  replace T1 : lk_T w1 s1 := by rw [hs1]; exact T1
  replace K1 : lk_K w1 s1 := by rw [hs1]; exact K1
  replace G1 : s1.1 0 20 = 0 := by rw [hs1]; exact G1
  have S1 : ∀ k : Nat, k ≠ 12 → s1.1 k = r1.2.1 k := fun k hk => by rw [hs1]; exact sp_ne hk
  have U1 : s1.1 12 = upd (r1.2.1 12) (z0.1 0 22).toNatClampNeg r1.1 := by rw [hs1]; exact sp_eq
  clear hs1
  have zb1 := it_zL T1
  have M2 := MT_take (u := s1) (a := 1) (b := 30) zb1.1 zb1.2
  have A2 := it_take 1 30 (1 : Int32).toNatClampNeg T1 K1 G1
  generalize m_takesNumber s1 1 30 = r2 at M2 A2 ⊢
  rw [it_Lt 4 1 2 w1 (by decide) (by decide)]
  rcases A2 with ⟨f2, e2, T2, K2, G2⟩ | ⟨f, B⟩
  rotate_left
  · rw [if_pos ((it_ft (w := w1) (i := 1) (lo := 1) (hi := 30) (by decide) rfl rfl).2 f)]
    exact Or.inr ⟨rfl, it_B_tl (it_B_put (it_B_take (it_B_take (it_B_sp (it_B_take (it_B_sp B (by decide))) (by decide)))) (by decide))⟩
  rw [if_neg ((it_ft (w := w1) (i := 1) (lo := 1) (hi := 30) (by decide) rfl rfl).1 f2)]
  obtain ⟨C2, N2⟩ := it_cl (f := upd (w1.1 3) (1 : Int32).toNatClampNeg (w1.1 1 6)) T1
  generalize k_Reader_look (sp w1 3 (upd (w1.1 3) (1 : Int32).toNatClampNeg (w1.1 1 6))) = w2 at T2 K2 C2 N2 ⊢
  obtain ⟨s2, hs2⟩ : ∃ s, s = sp r2.2 13 (upd (r2.2.1 13) (z0.1 0 22).toNatClampNeg r2.1) := ⟨_, rfl⟩
  rw [← hs2]
  replace T2 : lk_T w2 s2 := by rw [hs2]; exact T2
  replace K2 : lk_K w2 s2 := by rw [hs2]; exact K2
  replace G2 : s2.1 0 20 = 0 := by rw [hs2]; exact G2
  have S2 : ∀ k : Nat, k ≠ 13 → s2.1 k = r2.2.1 k := fun k hk => by rw [hs2]; exact sp_ne hk
  have U2 : s2.1 13 = upd (r2.2.1 13) (z0.1 0 22).toNatClampNeg r2.1 := by rw [hs2]; exact sp_eq
  clear hs2
  have zb2 := it_zL T2
  have M3 := MT_take (u := s2) (a := 0) (b := 6) zb2.1 zb2.2
  have A3 := it_take 0 6 (2 : Int32).toNatClampNeg T2 K2 G2
  generalize m_takesNumber s2 0 6 = r3 at M3 A3 ⊢
  rw [it_Lt 3 2 3 w2 (by decide) (by decide)]
  rcases A3 with ⟨f3, e3, T3, K3, G3⟩ | ⟨f, B⟩
  rotate_left
  · rw [if_pos ((it_ft (w := w2) (i := 2) (lo := 0) (hi := 6) (by decide) rfl rfl).2 f)]
    exact Or.inr ⟨rfl, it_B_tl (it_B_put (it_B_take (it_B_take (it_B_sp B (by decide)))) (by decide))⟩
  rw [if_neg ((it_ft (w := w2) (i := 2) (lo := 0) (hi := 6) (by decide) rfl rfl).1 f3)]
  obtain ⟨C3, N3⟩ := it_cl (f := upd (w2.1 3) (2 : Int32).toNatClampNeg (w2.1 1 6)) T2
  generalize k_Reader_look (sp w2 3 (upd (w2.1 3) (2 : Int32).toNatClampNeg (w2.1 1 6))) = w3 at T3 K3 C3 N3 ⊢
  obtain ⟨s3, hs3⟩ : ∃ s, s = sp r3.2 14 (upd (r3.2.1 14) (z0.1 0 22).toNatClampNeg r3.1) := ⟨_, rfl⟩
  rw [← hs3]
  replace T3 : lk_T w3 s3 := by rw [hs3]; exact T3
  replace K3 : lk_K w3 s3 := by rw [hs3]; exact K3
  replace G3 : s3.1 0 20 = 0 := by rw [hs3]; exact G3
  have S3 : ∀ k : Nat, k ≠ 14 → s3.1 k = r3.2.1 k := fun k hk => by rw [hs3]; exact sp_ne hk
  have U3 : s3.1 14 = upd (r3.2.1 14) (z0.1 0 22).toNatClampNeg r3.1 := by rw [hs3]; exact sp_eq
  clear hs3
  have zb3 := it_zL T3
  have M4 := MT_take (u := s3) (a := 0) (b := (z0.1 0 22)) zb3.1 zb3.2
  have A4 := it_take 0 (z0.1 0 22) (3 : Int32).toNatClampNeg T3 K3 G3
  generalize m_takesNumber s3 0 (z0.1 0 22) = r4 at M4 A4 ⊢
  rw [it_Lt 2 3 4 w3 (by decide) (by decide)]
  have q3 : z0.1 0 22 = w3.1 4 0 := by rw [C3 4 (by decide) (by decide), C2 4 (by decide) (by decide), C1 4 (by decide) (by decide)]; exact c22.symm
  rcases A4 with ⟨f4, e4, T4, K4, G4⟩ | ⟨f, B⟩
  rotate_left
  · rw [q3] at f
    rw [if_pos ((it_fn (i := 3) K3 (by decide)).2 f)]
    exact Or.inr ⟨rfl, it_B_tl (it_B_put (it_B_take B) (by decide))⟩
  have fq3 := f4
  rw [q3] at fq3
  rw [if_neg ((it_fn (i := 3) K3 (by decide)).1 fq3)]
  obtain ⟨C4, N4⟩ := it_cl (f := upd (w3.1 3) (3 : Int32).toNatClampNeg (w3.1 1 6)) T3
  generalize k_Reader_look (sp w3 3 (upd (w3.1 3) (3 : Int32).toNatClampNeg (w3.1 1 6))) = w4 at T4 K4 C4 N4 ⊢
  obtain ⟨s4, hs4⟩ : ∃ s, s = r4.2 := ⟨_, rfl⟩
  rw [← hs4]
  rw [← hs4] at T4 K4 G4
  have S4 : ∀ k : Nat, s4.1 k = r4.2.1 k := fun k => by rw [hs4]
  have zb4 := it_zL T4
  have M5 := MT_take (u := s4) (a := 0) (b := (z0.1 0 22)) zb4.1 zb4.2
  have A5 := it_take 0 (z0.1 0 22) (4 : Int32).toNatClampNeg T4 K4 G4
  generalize m_takesNumber s4 0 (z0.1 0 22) = r5 at M5 A5 ⊢
  rw [it_Lt 1 4 5 w4 (by decide) (by decide)]
  have q4 : z0.1 0 22 = w4.1 4 0 := by rw [C4 4 (by decide) (by decide), C3 4 (by decide) (by decide), C2 4 (by decide) (by decide), C1 4 (by decide) (by decide)]; exact c22.symm
  rcases A5 with ⟨f5, e5, T5, K5, G5⟩ | ⟨f, B⟩
  rotate_left
  · rw [q4] at f
    rw [if_pos ((it_fn (i := 4) K4 (by decide)).2 f)]
    exact Or.inr ⟨rfl, it_B_tl (it_B_put B (by decide))⟩
  have fq4 := f5
  rw [q4] at fq4
  rw [if_neg ((it_fn (i := 4) K4 (by decide)).1 fq4)]
  obtain ⟨C5, N5⟩ := it_cl (f := upd (w4.1 3) (4 : Int32).toNatClampNeg (w4.1 1 6)) T4
  generalize k_Reader_look (sp w4 3 (upd (w4.1 3) (4 : Int32).toNatClampNeg (w4.1 1 6))) = w5 at T5 K5 C5 N5 ⊢
  have F22 : r5.2.1 0 22 = z0.1 0 22 := by rw [M5.2.1 22 (by decide), S4 0, M4.2.1 22 (by decide), S3 0 (by decide), M3.2.1 22 (by decide), S2 0 (by decide), M2.2.1 22 (by decide), S1 0 (by decide), M1.2.1 22 (by decide)]
  have F27 : r5.2.1 0 27 = z0.1 0 27 := by rw [M5.2.1 27 (by decide), S4 0, M4.2.1 27 (by decide), S3 0 (by decide), M3.2.1 27 (by decide), S2 0 (by decide), M2.2.1 27 (by decide), S1 0 (by decide), M1.2.1 27 (by decide)]
  obtain ⟨Z, hZ⟩ : ∃ s, s = sp (sp r5.2 15 (upd (r5.2.1 15) (z0.1 0 22).toNatClampNeg ((((1 : Int32) <<< (r4.1 &&& 31)) ||| ((1 : Int32) <<< (r5.1 &&& 31))) &&& (((1 : Int32) <<< ((z0.1 0 22) &&& 31)) ^^^ (-1 : Int32))))) 0 (upd (r5.2.1 0) 22 ((r5.2.1 0 22) + (1 : Int32))) := ⟨_, rfl⟩
  rw [← hZ]
  have TZ : lk_T w5 Z := by rw [hZ]; exact T5
  have KZ : lk_K w5 Z := by rw [hZ]; exact K5
  have GZ : Z.1 0 20 = 0 := by rw [hZ]; exact G5
  have SZ : ∀ k : Nat, k ≠ 0 → k ≠ 15 → Z.1 k = r5.2.1 k := fun k h0 hk => by rw [hZ, sp_ne h0, sp_ne hk]
  have UZ : Z.1 15 = upd (r5.2.1 15) (z0.1 0 22).toNatClampNeg ((((1 : Int32) <<< (r4.1 &&& 31)) ||| ((1 : Int32) <<< (r5.1 &&& 31))) &&& (((1 : Int32) <<< ((z0.1 0 22) &&& 31)) ^^^ (-1 : Int32))) := by rw [hZ, sp_ne (by decide), sp_eq]
  have XZ : Z.1 0 = upd (r5.2.1 0) 22 ((r5.2.1 0 22) + (1 : Int32)) := by rw [hZ, sp_eq]
  clear hZ
  rw [it_Lte 0 w5]
  unfold it_tl
  rw [if_pos GZ, ← KZ.2.2.1]
  by_cases h3 : w5.1 1 5 = 3
  · rw [if_pos h3, if_pos h3]
    have TZ0 : lk_T w5 (sp Z 0 (upd (Z.1 0) 20 (0 : Int32))) := lk_putz TZ (by decide)
    obtain ⟨KL, TL⟩ := lk_look TZ0
    have zbL := it_zL TZ0
    have ML := (MN_next zbL.1 zbL.2).1
    have RL1 : 0 ≤ (w5.1 1 1).toInt ∧ (w5.1 1 1).toInt ≤ 150 := TZ.1.2.1
    have CL := (RI_look RL1 TZ.2.2).1
    generalize k_Reader_look w5 = L at KL TL CL ⊢
    generalize m_next (sp Z 0 (upd (Z.1 0) 20 (0 : Int32))) = z6 at KL TL ML ⊢
    obtain ⟨a5, a6, a7, a8, a4, aj, -⟩ := it_at L
    generalize k_Told_addThing L = w6 at *
    have CC : ∀ j : Nat, j ≠ 1 → j ≠ 3 → L.1 j = w0.1 j := fun j h1 h3 => by rw [CL j h1, C5 j h1 h3, C4 j h1 h3, C3 j h1 h3, C2 j h1 h3, C1 j h1 h3]
    have NL : L.1 3 = w5.1 3 := CL 3 (by decide)
    have n0 : L.1 3 0 = r1.1 := by rw [NL, N5, N4, N3, N2, N1, e1]; rfl
    have n1 : L.1 3 1 = r2.1 := by rw [NL, N5, N4, N3, N2, N1, e2]; rfl
    have n2 : L.1 3 2 = r3.1 := by rw [NL, N5, N4, N3, N2, N1, e3]; rfl
    have n3 : L.1 3 3 = r4.1 := by rw [NL, N5, N4, N3, N2, N1, e4]; rfl
    have n4 : L.1 3 4 = r5.1 := by rw [NL, N5, N4, N3, N2, N1, e5]; rfl
    have T6 : lk_T w6 z6 := by unfold lk_T; rw [aj 1 (by decide), aj 2 (by decide)]; exact TL
    have K6 : lk_K w6 z6 := by unfold lk_K; rw [aj 1 (by decide)]; exact KL
    have y20 : z6.1 0 20 = 0 := (ML.2.1 20 (by decide)).trans (by rw [sp_eq, pk_us])
    have yj : ∀ j : Nat, 20 < j → z6.1 0 j = Z.1 0 j := fun j hj => (ML.2.1 j (by omega)).trans (by rw [sp_eq, pk_un (by omega)])
    have yk : ∀ k : Nat, k ≠ 0 → z6.1 k = Z.1 k := fun k hk => (ML.1 k hk).trans (sp_ne hk)
    have y22 : z6.1 0 22 = z0.1 0 22 + 1 := by rw [yj 22 (by decide), XZ, pk_us, F22]
    have y27 : z6.1 0 27 = z0.1 0 27 := by rw [yj 27 (by decide), XZ, pk_un (by decide), F27]
    refine Or.inl ⟨rfl, T6, K6, y20, ?_, by rw [y22, y27, Int32.add_assoc, Int32.add_comm 1, ← Int32.add_assoc]⟩
    have v1 : w1.1 1 6 = r2.1 := e2.symm
    have p1 := f1.2
    rw [← e1] at p1
    have p2 := f2.2
    rw [← e2] at p2
    have p3 := f3.2
    rw [← e3] at p3
    have p4 := f4.2
    rw [← e4] at p4
    have p5 := f5.2
    rw [← e5] at p5
    rw [← c22] at p4 p5
    refine it_R_thing (v0 := r1.1) (v1 := r2.1) (v2 := r3.1) (v3 := r4.1) (v4 := r5.1) hR0 h8 p1 p2 p3 p4 p5 ?_ ?_ ?_ ?_ ?_ ?_ ?_ ?_ y22 y27 ?_ ?_ ?_ ?_ ?_ ?_ ?_
    · rw [a4, CC 4 (by decide) (by decide)]
    · rw [a5, CC 4 (by decide) (by decide), CC 5 (by decide) (by decide), n0]
    · rw [a6, CC 4 (by decide) (by decide), CC 6 (by decide) (by decide), n1]
    · rw [a7, CC 4 (by decide) (by decide), CC 7 (by decide) (by decide), n2]
    · rw [a8, CC 4 (by decide) (by decide), CC 8 (by decide) (by decide), n3, n4]
    · rw [aj 9 (by decide), CC 9 (by decide) (by decide)]
    · rw [aj 10 (by decide), CC 10 (by decide) (by decide)]
    · rw [aj 11 (by decide), CC 11 (by decide) (by decide)]
    · rw [yk 12 (by decide), SZ 12 (by decide) (by decide), M5.1 12 (by decide), S4 12, M4.1 12 (by decide), S3 12 (by decide), M3.1 12 (by decide), S2 12 (by decide), M2.1 12 (by decide), U1, M1.1 12 (by decide)]
    · rw [yk 13 (by decide), SZ 13 (by decide) (by decide), M5.1 13 (by decide), S4 13, M4.1 13 (by decide), S3 13 (by decide), M3.1 13 (by decide), U2, M2.1 13 (by decide), S1 13 (by decide), M1.1 13 (by decide)]
    · rw [yk 14 (by decide), SZ 14 (by decide) (by decide), M5.1 14 (by decide), S4 14, M4.1 14 (by decide), U3, M3.1 14 (by decide), S2 14 (by decide), M2.1 14 (by decide), S1 14 (by decide), M1.1 14 (by decide)]
    · rw [yk 15 (by decide), UZ, M5.1 15 (by decide), S4 15, M4.1 15 (by decide), S3 15 (by decide), M3.1 15 (by decide), S2 15 (by decide), M2.1 15 (by decide), S1 15 (by decide), M1.1 15 (by decide)]
    · rw [yk 16 (by decide), SZ 16 (by decide) (by decide), M5.1 16 (by decide), S4 16, M4.1 16 (by decide), S3 16 (by decide), M3.1 16 (by decide), S2 16 (by decide), M2.1 16 (by decide), S1 16 (by decide), M1.1 16 (by decide)]
    · rw [yk 17 (by decide), SZ 17 (by decide) (by decide), M5.1 17 (by decide), S4 17, M4.1 17 (by decide), S3 17 (by decide), M3.1 17 (by decide), S2 17 (by decide), M2.1 17 (by decide), S1 17 (by decide), M1.1 17 (by decide)]
    · rw [yk 18 (by decide), SZ 18 (by decide) (by decide), M5.1 18 (by decide), S4 18, M4.1 18 (by decide), S3 18 (by decide), M3.1 18 (by decide), S2 18 (by decide), M2.1 18 (by decide), S1 18 (by decide), M1.1 18 (by decide)]
  · rw [if_neg h3, if_neg h3]
    exact Or.inr ⟨rfl, it_B_1 KZ.2.1.symm⟩
set_option maxHeartbeats 4000000 in
theorem it_cast {w0 z0 : xU} (hT : lk_T w0 z0) (hK : lk_K w0 z0) (h20 : z0.1 0 20 = 0) (hR : it_R w0 z0) (h8 : (w0.1 4 1).toInt < 6) : it_E (k_Reader_readsItem_L97 0 3 6 0 w0) (z0.1 0 22 + z0.1 0 27) (it_tl (m_readCast z0)) := by
  rw [m_readCast_def]; unfold m_readCast_b; dsimp only
  have hR0 := hR
  obtain ⟨c22, c27, b22, b27, hth, hca⟩ := hR
  have T0 := hT
  have K0 := hK
  have G0 := h20
  have zb0 := it_zL T0
  have M1 := MT_take (u := z0) (a := 1) (b := 99) zb0.1 zb0.2
  have A1 := it_take 1 99 (0 : Int32).toNatClampNeg T0 K0 G0
  generalize m_takesNumber z0 1 99 = r1 at M1 A1 ⊢
  rw [it_Lc 5 0 1 w0 (by decide) (by decide)]
  rcases A1 with ⟨f1, e1, T1, K1, G1⟩ | ⟨f, B⟩
  rotate_left
  · rw [if_pos ((it_fc (w := w0) (i := 0) (lo := 1) (hi := 99) rfl rfl).2 f)]
    exact Or.inr ⟨rfl, it_B_tl (it_B_put (it_B_take (it_B_sp (it_B_take (it_B_sp B (by decide))) (by decide))) (by decide))⟩
  rw [if_neg ((it_fc (w := w0) (i := 0) (lo := 1) (hi := 99) rfl rfl).1 f1)]
  obtain ⟨C1, N1⟩ := it_cl (f := upd (w0.1 3) (0 : Int32).toNatClampNeg (w0.1 1 6)) T0
  generalize k_Reader_look (sp w0 3 (upd (w0.1 3) (0 : Int32).toNatClampNeg (w0.1 1 6))) = w1 at T1 K1 C1 N1 ⊢
  obtain ⟨s1, hs1⟩ : ∃ s, s = sp r1.2 16 (upd (r1.2.1 16) (z0.1 0 27).toNatClampNeg r1.1) := ⟨_, rfl⟩
  rw [← hs1]
  replace T1 : lk_T w1 s1 := by rw [hs1]; exact T1
  replace K1 : lk_K w1 s1 := by rw [hs1]; exact K1
  replace G1 : s1.1 0 20 = 0 := by rw [hs1]; exact G1
  have S1 : ∀ k : Nat, k ≠ 16 → s1.1 k = r1.2.1 k := fun k hk => by rw [hs1]; exact sp_ne hk
  have U1 : s1.1 16 = upd (r1.2.1 16) (z0.1 0 27).toNatClampNeg r1.1 := by rw [hs1]; exact sp_eq
  clear hs1
  have zb1 := it_zL T1
  have M2 := MT_take (u := s1) (a := 1) (b := 9) zb1.1 zb1.2
  have A2 := it_take 1 9 (1 : Int32).toNatClampNeg T1 K1 G1
  generalize m_takesNumber s1 1 9 = r2 at M2 A2 ⊢
  rw [it_Lc 4 1 2 w1 (by decide) (by decide)]
  rcases A2 with ⟨f2, e2, T2, K2, G2⟩ | ⟨f, B⟩
  rotate_left
  · rw [if_pos ((it_fc (w := w1) (i := 1) (lo := 1) (hi := 9) rfl rfl).2 f)]
    exact Or.inr ⟨rfl, it_B_tl (it_B_put (it_B_take (it_B_sp B (by decide))) (by decide))⟩
  rw [if_neg ((it_fc (w := w1) (i := 1) (lo := 1) (hi := 9) rfl rfl).1 f2)]
  obtain ⟨C2, N2⟩ := it_cl (f := upd (w1.1 3) (1 : Int32).toNatClampNeg (w1.1 1 6)) T1
  generalize k_Reader_look (sp w1 3 (upd (w1.1 3) (1 : Int32).toNatClampNeg (w1.1 1 6))) = w2 at T2 K2 C2 N2 ⊢
  obtain ⟨s2, hs2⟩ : ∃ s, s = sp r2.2 17 (upd (r2.2.1 17) (r1.2.1 0 27).toNatClampNeg r2.1) := ⟨_, rfl⟩
  rw [← hs2]
  replace T2 : lk_T w2 s2 := by rw [hs2]; exact T2
  replace K2 : lk_K w2 s2 := by rw [hs2]; exact K2
  replace G2 : s2.1 0 20 = 0 := by rw [hs2]; exact G2
  have S2 : ∀ k : Nat, k ≠ 17 → s2.1 k = r2.2.1 k := fun k hk => by rw [hs2]; exact sp_ne hk
  have U2 : s2.1 17 = upd (r2.2.1 17) (r1.2.1 0 27).toNatClampNeg r2.1 := by rw [hs2]; exact sp_eq
  clear hs2
  have zb2 := it_zL T2
  have M3 := MT_take (u := s2) (a := 0) (b := 63) zb2.1 zb2.2
  have A3 := it_take 0 63 (2 : Int32).toNatClampNeg T2 K2 G2
  generalize m_takesNumber s2 0 63 = r3 at M3 A3 ⊢
  rw [it_Lc 3 2 3 w2 (by decide) (by decide)]
  rcases A3 with ⟨f3, e3, T3, K3, G3⟩ | ⟨f, B⟩
  rotate_left
  · rw [if_pos ((it_fc (w := w2) (i := 2) (lo := 0) (hi := 63) rfl rfl).2 f)]
    exact Or.inr ⟨rfl, it_B_tl (it_B_put B (by decide))⟩
  rw [if_neg ((it_fc (w := w2) (i := 2) (lo := 0) (hi := 63) rfl rfl).1 f3)]
  obtain ⟨C3, N3⟩ := it_cl (f := upd (w2.1 3) (2 : Int32).toNatClampNeg (w2.1 1 6)) T2
  generalize k_Reader_look (sp w2 3 (upd (w2.1 3) (2 : Int32).toNatClampNeg (w2.1 1 6))) = w3 at T3 K3 C3 N3 ⊢
  have F22 : r3.2.1 0 22 = z0.1 0 22 := by rw [M3.2.1 22 (by decide), S2 0 (by decide), M2.2.1 22 (by decide), S1 0 (by decide), M1.2.1 22 (by decide)]
  have F27 : r3.2.1 0 27 = z0.1 0 27 := by rw [M3.2.1 27 (by decide), S2 0 (by decide), M2.2.1 27 (by decide), S1 0 (by decide), M1.2.1 27 (by decide)]
  have F27a : r1.2.1 0 27 = z0.1 0 27 := by rw [M1.2.1 27 (by decide)]
  have F27b : r2.2.1 0 27 = z0.1 0 27 := by rw [M2.2.1 27 (by decide), S1 0 (by decide), M1.2.1 27 (by decide)]
  obtain ⟨Z, hZ⟩ : ∃ s, s = sp (sp r3.2 18 (upd (r3.2.1 18) (r2.2.1 0 27).toNatClampNeg r3.1)) 0 (upd (r3.2.1 0) 27 ((r3.2.1 0 27) + (1 : Int32))) := ⟨_, rfl⟩
  rw [← hZ]
  have TZ : lk_T w3 Z := by rw [hZ]; exact T3
  have KZ : lk_K w3 Z := by rw [hZ]; exact K3
  have GZ : Z.1 0 20 = 0 := by rw [hZ]; exact G3
  have SZ : ∀ k : Nat, k ≠ 0 → k ≠ 18 → Z.1 k = r3.2.1 k := fun k h0 hk => by rw [hZ, sp_ne h0, sp_ne hk]
  have UZ : Z.1 18 = upd (r3.2.1 18) (r2.2.1 0 27).toNatClampNeg r3.1 := by rw [hZ, sp_ne (by decide), sp_eq]
  have XZ : Z.1 0 = upd (r3.2.1 0) 27 ((r3.2.1 0 27) + (1 : Int32)) := by rw [hZ, sp_eq]
  clear hZ
  rw [it_Lce 2 w3]
  unfold it_tl
  rw [if_pos GZ, ← KZ.2.2.1]
  by_cases h3 : w3.1 1 5 = 3
  · rw [if_pos h3, if_pos h3]
    have TZ0 : lk_T w3 (sp Z 0 (upd (Z.1 0) 20 (0 : Int32))) := lk_putz TZ (by decide)
    obtain ⟨KL, TL⟩ := lk_look TZ0
    have zbL := it_zL TZ0
    have ML := (MN_next zbL.1 zbL.2).1
    have RL1 : 0 ≤ (w3.1 1 1).toInt ∧ (w3.1 1 1).toInt ≤ 150 := TZ.1.2.1
    have CL := (RI_look RL1 TZ.2.2).1
    generalize k_Reader_look w3 = L at KL TL CL ⊢
    generalize m_next (sp Z 0 (upd (Z.1 0) 20 (0 : Int32))) = z6 at KL TL ML ⊢
    obtain ⟨a9, a10, a11, a4, aj, -⟩ := it_ac L
    generalize k_Told_addCast L = w6 at *
    have CC : ∀ j : Nat, j ≠ 1 → j ≠ 3 → L.1 j = w0.1 j := fun j h1 h3 => by rw [CL j h1, C3 j h1 h3, C2 j h1 h3, C1 j h1 h3]
    have NL : L.1 3 = w3.1 3 := CL 3 (by decide)
    have n0 : L.1 3 0 = r1.1 := by rw [NL, N3, N2, N1, e1]; rfl
    have n1 : L.1 3 1 = r2.1 := by rw [NL, N3, N2, N1, e2]; rfl
    have n2 : L.1 3 2 = r3.1 := by rw [NL, N3, N2, N1, e3]; rfl
    have T6 : lk_T w6 z6 := by unfold lk_T; rw [aj 1 (by decide) (by decide), aj 2 (by decide) (by decide)]; exact TL
    have K6 : lk_K w6 z6 := by unfold lk_K; rw [aj 1 (by decide) (by decide)]; exact KL
    have y20 : z6.1 0 20 = 0 := (ML.2.1 20 (by decide)).trans (by rw [sp_eq, pk_us])
    have yj : ∀ j : Nat, 20 < j → z6.1 0 j = Z.1 0 j := fun j hj => (ML.2.1 j (by omega)).trans (by rw [sp_eq, pk_un (by omega)])
    have yk : ∀ k : Nat, k ≠ 0 → z6.1 k = Z.1 k := fun k hk => (ML.1 k hk).trans (sp_ne hk)
    have y27 : z6.1 0 27 = z0.1 0 27 + 1 := by rw [yj 27 (by decide), XZ, pk_us, F27]
    have y22 : z6.1 0 22 = z0.1 0 22 := by rw [yj 22 (by decide), XZ, pk_un (by decide), F22]
    refine Or.inl ⟨rfl, T6, K6, y20, ?_, by rw [y22, y27, ← Int32.add_assoc]⟩
    have p1 := f1.2
    rw [← e1] at p1
    have p2 := f2.2
    rw [← e2] at p2
    have p3 := f3.2
    rw [← e3] at p3
    refine it_R_cast (v0 := r1.1) (v1 := r2.1) (v2 := r3.1) hR0 h8 p1 p2 p3 ?_ ?_ ?_ ?_ ?_ ?_ ?_ ?_ y27 y22 ?_ ?_ ?_ ?_ ?_ ?_ ?_
    · rw [a4, CC 4 (by decide) (by decide)]
    · rw [a9, CC 4 (by decide) (by decide), CC 9 (by decide) (by decide), n0]
    · rw [a10, CC 4 (by decide) (by decide), CC 10 (by decide) (by decide), n1]
    · rw [a11, CC 4 (by decide) (by decide), CC 11 (by decide) (by decide), n2]
    · rw [aj 5 (by decide) (by decide), CC 5 (by decide) (by decide)]
    · rw [aj 6 (by decide) (by decide), CC 6 (by decide) (by decide)]
    · rw [aj 7 (by decide) (by decide), CC 7 (by decide) (by decide)]
    · rw [aj 8 (by decide) (by decide), CC 8 (by decide) (by decide)]
    · rw [yk 16 (by decide), SZ 16 (by decide) (by decide), M3.1 16 (by decide), S2 16 (by decide), M2.1 16 (by decide), U1, M1.1 16 (by decide)]
    · rw [yk 17 (by decide), SZ 17 (by decide) (by decide), M3.1 17 (by decide), U2, M2.1 17 (by decide), S1 17 (by decide), M1.1 17 (by decide), F27a]
    · rw [yk 18 (by decide), UZ, M3.1 18 (by decide), S2 18 (by decide), M2.1 18 (by decide), S1 18 (by decide), M1.1 18 (by decide), F27b]
    · rw [yk 12 (by decide), SZ 12 (by decide) (by decide), M3.1 12 (by decide), S2 12 (by decide), M2.1 12 (by decide), S1 12 (by decide), M1.1 12 (by decide)]
    · rw [yk 13 (by decide), SZ 13 (by decide) (by decide), M3.1 13 (by decide), S2 13 (by decide), M2.1 13 (by decide), S1 13 (by decide), M1.1 13 (by decide)]
    · rw [yk 14 (by decide), SZ 14 (by decide) (by decide), M3.1 14 (by decide), S2 14 (by decide), M2.1 14 (by decide), S1 14 (by decide), M1.1 14 (by decide)]
    · rw [yk 15 (by decide), SZ 15 (by decide) (by decide), M3.1 15 (by decide), S2 15 (by decide), M2.1 15 (by decide), S1 15 (by decide), M1.1 15 (by decide)]
  · rw [if_neg h3, if_neg h3]
    exact Or.inr ⟨rfl, it_B_1 KZ.2.1.symm⟩
end IT
