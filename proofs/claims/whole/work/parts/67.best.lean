/-! ===== PURE: best ===== -/
section BE
variable {u v : xU}
theorem Rel.kwhole_L (hR : Rel u v) {w : xU} (e13 : w.1 13 = u.1 13) (e17 : w.1 17 = u.1 17) (s k : Int32) : ∀ (n : Nat) (y : Int32), 0 ≤ y.toInt → (u.1 13 0).toInt - y.toInt < n → 1 ≤ n → (k_Planner_isWhole_L18 w s k n y = true ↔ ∀ i : Nat, y.toInt ≤ i → (i : Int) < (u.1 13 0).toInt → bt s i = true → (u.1 17 i &&& (k ^^^ (-1 : Int32))) = 0) := by
  have hT := hR.bT
  intro n
  induction n with
  | zero => intro y g0 g1 g2; exact absurd g2 (by decide)
  | succ n ih =>
    intro y g0 g1 _
    unfold k_Planner_isWhole_L18
    rw [e13, e17]
    by_cases h : u.1 13 0 ≤ y
    · have h2 := xq_le h rfl rfl
      rw [if_pos h]
      exact ⟨fun _ i a b => absurd b (by omega), fun _ => rfl⟩
    · have h2 := xq_nle h rfl rfl
      have e := inc g0 h2 (by omega)
      have hy : (y.toNatClampNeg : Int) = y.toInt := by show ((y.toInt.toNat : Nat) : Int) = _; omega
      have i1 := ih (y + 1) (by omega) (by omega) (by omega)
      have key : (∀ i : Nat, (y + 1).toInt ≤ i → (i : Int) < (u.1 13 0).toInt → bt s i = true → (u.1 17 i &&& (k ^^^ (-1 : Int32))) = 0) ∧ (bt s y.toNatClampNeg = true → (u.1 17 y.toNatClampNeg &&& (k ^^^ (-1 : Int32))) = 0) ↔ ∀ i : Nat, y.toInt ≤ i → (i : Int) < (u.1 13 0).toInt → bt s i = true → (u.1 17 i &&& (k ^^^ (-1 : Int32))) = 0 := by
        constructor
        · intro g i a b
          rcases Int.lt_or_eq_of_le a with g1 | g1
          · exact g.1 i (by omega) b
          · have : i = y.toNatClampNeg := by omega
            rw [this]; exact g.2
        · intro g
          exact ⟨fun i a b => g i (by omega) b, g _ (by omega) (by omega)⟩
      rw [if_neg h, has_bt _ g0 (by omega)]
      cases hs : bt s y.toNatClampNeg with
      | false =>
        rw [hs] at key
        rw [if_pos bf0, i1]
        exact ⟨fun g => key.mp ⟨g, fun k => absurd k (by decide)⟩, fun g => (key.mpr g).1⟩
      | true =>
        rw [hs] at key
        rw [if_neg (by decide)]
        by_cases hn : (u.1 17 y.toNatClampNeg &&& (k ^^^ (-1 : Int32))) = 0
        · rw [if_pos hn, i1]
          exact ⟨fun g => key.mp ⟨g, fun _ => hn⟩, fun g => (key.mpr g).1⟩
        · rw [if_neg hn]
          exact ⟨fun g => absurd g (by decide), fun g => absurd ((key.mpr g).2 rfl) hn⟩
theorem Rel.mwhole_L (hR : Rel u v) {c : Int32} (h0 : 0 ≤ c.toInt) (h1 : c.toInt < (u.1 13 1).toInt) (s : Int32) : ∀ (n : Nat) (x y : Int32), 0 ≤ y.toInt → (u.1 13 0).toInt - y.toInt < n → 1 ≤ n → (m_isWhole_L23 v c s n x y = true ↔ ¬ x = 0 ∧ ∀ i : Nat, y.toInt ≤ i → (i : Int) < (u.1 13 0).toInt → bt s i = true → ((u.1 17 i &&& (u.1 23 c.toNatClampNeg ^^^ (-1 : Int32))) &&& (s ^^^ (-1 : Int32))) = 0) := by
  have hT := hR.bT
  intro n
  induction n with
  | zero => intro x y g0 g1 g2; exact absurd g2 (by decide)
  | succ n ih =>
    intro x y g0 g1 _
    unfold m_isWhole_L23
    rw [← hR.T]
    by_cases h : u.1 13 0 ≤ y
    · have h2 := xq_le h rfl rfl
      rw [if_pos h, bne_iff_ne]
      exact ⟨fun g => ⟨g, fun i a b => absurd b (by omega)⟩, fun g => g.1⟩
    · have h2 := xq_nle h rfl rfl
      have e := inc g0 h2 (by omega)
      have hy : (y.toNatClampNeg : Int) = y.toInt := by show ((y.toInt.toNat : Nat) : Int) = _; omega
      have i0 : m_isWhole_L23 v c s n 0 (y + 1) = true ↔ False := by
        rw [ih _ _ (by omega) (by omega) (by omega)]
        exact ⟨fun g => g.1 rfl, False.elim⟩
      have i1 := ih 1 (y + 1) (by omega) (by omega) (by omega)
      obtain ⟨t1, t2, t3, t4, -⟩ := hR.thing (nlt h2 g0)
      have key : (¬ (1 : Int32) = 0 ∧ ∀ i : Nat, (y + 1).toInt ≤ i → (i : Int) < (u.1 13 0).toInt → bt s i = true → ((u.1 17 i &&& (u.1 23 c.toNatClampNeg ^^^ (-1 : Int32))) &&& (s ^^^ (-1 : Int32))) = 0) ∧ (bt s y.toNatClampNeg = true → ((u.1 17 y.toNatClampNeg &&& (u.1 23 c.toNatClampNeg ^^^ (-1 : Int32))) &&& (s ^^^ (-1 : Int32))) = 0) ↔ ∀ i : Nat, y.toInt ≤ i → (i : Int) < (u.1 13 0).toInt → bt s i = true → ((u.1 17 i &&& (u.1 23 c.toNatClampNeg ^^^ (-1 : Int32))) &&& (s ^^^ (-1 : Int32))) = 0 := by
        constructor
        · intro g i a b
          rcases Int.lt_or_eq_of_le a with g1 | g1
          · exact g.1.2 i (by omega) b
          · have : i = y.toNatClampNeg := by omega
            rw [this]; exact g.2
        · intro g
          exact ⟨⟨by decide, fun i a b => g i (by omega) b⟩, g _ (by omega) (by omega)⟩
      rw [if_neg h, mhas, has_bt _ g0 (by omega), hR.ican h0 h1, ← t4]
      by_cases hx : x = 0
      · rw [if_pos hx, i0]
        exact ⟨False.elim, fun g => g.1 hx⟩
      · rw [if_neg hx]
        cases hs : bt s y.toNatClampNeg with
        | false =>
          rw [if_pos bf0, i1]
          rw [hs] at key
          exact ⟨fun g => ⟨hx, key.mp ⟨g, fun k => absurd k (by decide)⟩⟩, fun g => (key.mpr g.2).1⟩
        | true =>
          rw [if_neg (by decide)]
          rw [hs] at key
          by_cases hn : ((u.1 17 y.toNatClampNeg &&& (u.1 23 c.toNatClampNeg ^^^ (-1 : Int32))) &&& (s ^^^ (-1 : Int32))) = 0
          · rw [if_pos hn, i1]
            exact ⟨fun g => ⟨hx, key.mp ⟨g, fun _ => hn⟩⟩, fun g => (key.mpr g.2).1⟩
          · rw [if_neg hn, i0]
            exact ⟨False.elim, fun g => absurd ((key.mpr g.2).2 rfl) hn⟩
theorem wh_eq (n s k : Int32) : n &&& ((s ||| k) ^^^ (-1 : Int32)) = (n &&& (k ^^^ (-1 : Int32))) &&& (s ^^^ (-1 : Int32)) := bt_ext (fun i hi => by
  rw [bt_and, bt_and, bt_and, bt_not _ hi, bt_not _ hi, bt_not _ hi, bt_or]
  cases bt n i <;> cases bt s i <;> cases bt k i <;> rfl)
theorem Rel.whole_eq (hR : Rel u v) {c : Int32} (h0 : 0 ≤ c.toInt) (h1 : c.toInt < (u.1 13 1).toInt) (s : Int32) : m_isWhole v c s = true ↔ (s &&& u.1 23 c.toNatClampNeg) = 0 ∧ k_Planner_isWhole (k_Planner_reckon u c) c s = true := by
  have hT := hR.bT
  have z : (0 : Int32).toInt = 0 := rfl
  unfold m_isWhole k_Planner_isWhole
  rw [hR.kwhole_L (kp_reckon13 u c) (kp_reckon u c (by decide) (by decide)) s _ 9 0 (by decide) (by omega) (by decide), kp_reckon u c (j := 23) (by decide) (by decide), hR.ican h0 h1]
  by_cases h : (s &&& u.1 23 c.toNatClampNeg) = 0
  · rw [if_pos h, hR.mwhole_L h0 h1 s 9 1 0 (by decide) (by omega) (by decide)]
    exact ⟨fun g => ⟨h, fun i a b d => by rw [wh_eq]; exact g.2 i a b d⟩, fun g => ⟨by decide, fun i a b d => by rw [← wh_eq]; exact g.2 i a b d⟩⟩
  · rw [if_neg h, hR.mwhole_L h0 h1 s 9 0 0 (by decide) (by omega) (by decide)]
    exact ⟨fun g => absurd rfl g.1, fun g => absurd g.1 h⟩
theorem and_0 {x y : Int32} : (x &&& y) = 0 ↔ ∀ i : Nat, i < 32 → bt x i = true → bt y i = false := by
  constructor
  · intro h i hi hx
    have h1 := congrArg (fun z => bt z i) h
    simp only [bt_and, bt_0, hx, Bool.true_and] at h1
    exact h1
  · intro h
    refine bt_ext (fun i hi => ?_)
    rw [bt_and, bt_0]
    cases hx : bt x i with
    | false => rfl
    | true => rw [h i hi hx]; rfl
theorem Rel.good_iff (hR : Rel u v) {c : Int32} (h0 : 0 ≤ c.toInt) (h1 : c.toInt < (u.1 13 1).toInt) (hb : k_Hall_isBroken u c = false) {s : Int32} (hs : ∀ i : Nat, bt s i = true → (i : Int) < (u.1 13 0).toInt) : ((s &&& (k_Planner_learnable (k_Planner_reckon u c) c ^^^ (-1 : Int32))) = 0 ∧ k_Planner_isWhole (k_Planner_reckon u c) c s = true ∧ m_cracksOf v c s ≤ u.1 18 c.toNatClampNeg - u.1 25 c.toNatClampNeg) ↔ (m_isWhole v c s = true ∧ m_bears v c s = true) := by
  have hT := hR.bT
  have hn := hR.bnight
  rw [hR.whole_eq h0 h1, hR.mbears h0 h1]
  have hr := hR.cracks_rng h0 h1 s
  obtain ⟨k1, k2, k3, k4⟩ := hR.cast (nlt h1 h0)
  have hk := hR.bcracks (nlt h1 h0)
  have e1 : (u.1 18 c.toNatClampNeg - u.1 25 c.toNatClampNeg).toInt = (u.1 18 c.toNatClampNeg).toInt - (u.1 25 c.toNatClampNeg).toInt := xsub rfl rfl (by omega) (by omega)
  have e2 : (u.1 25 c.toNatClampNeg + m_cracksOf v c s).toInt = (u.1 25 c.toNatClampNeg).toInt + (m_cracksOf v c s).toInt := xadd rfl rfl (by omega) (by omega)
  have ec : m_cracksOf v c s ≤ u.1 18 c.toNatClampNeg - u.1 25 c.toNatClampNeg ↔ ¬ (u.1 18 c.toNatClampNeg < u.1 25 c.toNatClampNeg + m_cracksOf v c s) := by
    rw [Int32.le_iff_toInt_le, Int32.lt_iff_toInt_lt, e1, e2]
    omega
  rw [ec, sub_iff, and_0]
  constructor
  · rintro ⟨g1, g2, g3⟩
    exact ⟨⟨fun i hi hx => ((learn_bt_r hR c c i).mp (g1 i hi hx)).2.1, g2⟩, hb, g3, fun i hi hx => ((learn_bt_r hR c c i).mp (g1 i (by omega) hx)).2.2⟩
  · rintro ⟨⟨g1, g2⟩, -, g3, g4⟩
    exact ⟨fun i hi hx => (learn_bt_r hR c c i).mpr ⟨hs i hx, g1 i hi hx, g4 i (hs i hx) hx⟩, g2, g3⟩
theorem pow_sh {t : Int32} (h0 : 0 ≤ t.toInt) (h1 : t.toInt ≤ 8) : ((1 : Int32) <<< (t &&& 31)).toInt = 2 ^ t.toInt.toNat := by
  obtain ⟨j, hj, rfl⟩ := xof8 h0 (n := 9) (by omega) (by decide)
  have : ∀ k : Fin 9, ((1 : Int32) <<< (nI k.val &&& 31)).toInt = 2 ^ (nI k.val).toInt.toNat := by decide +kernel
  exact this ⟨j, hj⟩
theorem lt_bits {x : Int32} {T : Int} (hT : 0 ≤ T) (h0 : 0 ≤ x.toInt) (h1 : x.toInt < 2 ^ T.toNat) : ∀ i : Nat, bt x i = true → (i : Int) < T := fun i hi => Int.not_le.mp (fun g => by
  rw [bt_lt h0 h1 (show T.toNat ≤ i by omega)] at hi
  exact absurd hi (by decide))
theorem best_end (hR : Rel u v) (c p q x3 : Int32) : ∀ (n : Nat) (x : Int32), 1 ≤ x.toInt → 2 ^ (u.1 13 0).toInt.toNat - x.toInt < n → 1 ≤ n → (∀ y : Int32, x.toInt ≤ y.toInt → y.toInt < 2 ^ (u.1 13 0).toInt.toNat → ¬ (m_isWhole v c y = true ∧ m_bears v c y = true)) → m_best_L35 v c p q n x3 x = if q = 0 then x3 else m_nightsOf v c x3 := by
  have hT := hR.bT
  have h8 := pow8 hT.1 hT.2
  intro n
  induction n with
  | zero => intro x h0 h1 h2; exact absurd h2 (by decide)
  | succ n ih =>
    intro x h0 h1 _ hn
    unfold m_best_L35
    rw [← hR.T]
    by_cases h : (1 : Int32) <<< (u.1 13 0 &&& 31) ≤ x
    · rw [if_pos h]
    · have h2 := xq_nle h (pow_sh hT.1 hT.2) rfl
      have e := inc (show 0 ≤ x.toInt by omega) h2 (by omega)
      have hk := ih (x + 1) (by omega) (by omega) (by omega) (fun y a b => hn y (by omega) b)
      have hx := hn x (Int.le_refl _) h2
      rw [if_neg h, hk]
      by_cases c1 : b2i (m_isWhole v c x) = 0
      · rw [if_pos c1]
      rw [if_neg c1]
      by_cases c2 : p < m_nightsOf v c x
      · rw [if_pos c2]
      rw [if_neg c2]
      by_cases c3 : b2i (m_bears v c x) = 0
      · rw [if_pos c3]
      exact absurd ⟨Bool.of_not_eq_false (fun g => c1 (b2i_0.mpr g)), Bool.of_not_eq_false (fun g => c3 (b2i_0.mpr g))⟩ hx
theorem most_2 (w : xU) (x1 x2 x6 x7 : Int32) : ∀ (n : Nat) (x3 x4 x5 x8 : Int32), (k_Planner_mostIn_L65 w x1 x2 x6 x7 n x3 x4 x5 x8).2 = w := by
  intro n
  induction n with
  | zero => intro x3 x4 x5 x8; rfl
  | succ n ih =>
    intro x3 x4 x5 x8
    unfold k_Planner_mostIn_L65
    repeat' split
    all_goals first | rfl | exact ih _ _ _ _
theorem sub_le {x y : Int32} {n : Nat} (hn : n ≤ 31) (hx0 : 0 ≤ x.toInt) (hy0 : 0 ≤ y.toInt) (h : (x &&& (y ^^^ (-1 : Int32))) = 0) : x.toInt ≤ y.toInt := by
  rw [toInt_nat hx0, toInt_nat hy0]
  have hs := sub_iff.mp h
  have e : x.toBitVec.toNat &&& y.toBitVec.toNat = x.toBitVec.toNat := by
    apply Nat.eq_of_testBit_eq
    intro i
    rw [Nat.testBit_and]
    by_cases hi : i < 32
    · have := hs i hi
      unfold bt at this
      show (x.toBitVec.getLsbD i && y.toBitVec.getLsbD i) = x.toBitVec.getLsbD i
      cases hx : x.toBitVec.getLsbD i with
      | false => rfl
      | true => rw [this hx]; rfl
    · have h1 : x.toBitVec.toNat.testBit i = false := bt_big x (by omega)
      rw [h1]; rfl
  have : x.toBitVec.toNat ≤ y.toBitVec.toNat := by
    rw [← e]; exact Nat.and_le_right
  exact_mod_cast this
theorem best_L (hR : Rel u v) {c : Int32} (h0 : 0 ≤ c.toInt) (h1 : c.toInt < (u.1 13 1).toInt) (hb : k_Hall_isBroken u c = false) (p q : Int32) : ∀ (n : Nat) (x3 x : Int32), 1 ≤ x.toInt → 2 ^ (u.1 13 0).toInt.toNat - x.toInt < n → 1 ≤ n → 0 ≤ x3.toInt → x3.toInt < 256 →
    m_best_L35 v c p q n x3 x = if q = 0 then (k_Planner_mostIn_L65 (k_Planner_reckon u c) c p (k_Planner_learnable (k_Planner_reckon u c) c) (u.1 18 c.toNatClampNeg - u.1 25 c.toNatClampNeg) n x3 (m_bits x3) (m_nightsOf v c x3) x).1 else m_nightsOf v c (k_Planner_mostIn_L65 (k_Planner_reckon u c) c p (k_Planner_learnable (k_Planner_reckon u c) c) (u.1 18 c.toNatClampNeg - u.1 25 c.toNatClampNeg) n x3 (m_bits x3) (m_nightsOf v c x3) x).1 := by
  have hT := hR.bT
  have h8 := pow8 hT.1 hT.2
  have hfit : 0 ≤ (k_Planner_learnable (k_Planner_reckon u c) c).toInt ∧ (k_Planner_learnable (k_Planner_reckon u c) c).toInt < 2 ^ (u.1 13 0).toInt.toNat := lt_bt (by omega) (fun i hi _ => by
    cases hbt : bt (k_Planner_learnable (k_Planner_reckon u c) c) i with
    | false => rfl
    | true => exact absurd ((learn_bt_r hR c c i).mp hbt).1 (by omega))
  intro n
  induction n with
  | zero => intro x3 x g0 g1 g2; exact absurd g2 (by decide)
  | succ n ih =>
    intro x3 x g0 g1 g2 y0 y1
    by_cases h : k_Planner_learnable (k_Planner_reckon u c) c < x
    · have h2 := xq_lt h rfl rfl
      have hn : ∀ y : Int32, x.toInt ≤ y.toInt → y.toInt < 2 ^ (u.1 13 0).toInt.toNat → ¬ (m_isWhole v c y = true ∧ m_bears v c y = true) := fun y a b g => by
        have := ((hR.good_iff h0 h1 hb (lt_bits hT.1 (by omega) b)).mpr g).1
        have := sub_le (n := 31) (by decide) (by omega) hfit.1 this
        omega
      rw [best_end hR c p q x3 (n + 1) x g0 g1 g2 hn]
      unfold k_Planner_mostIn_L65
      rw [if_pos h]
    · have h2 := xq_nlt h rfl rfl
      have hx8 : x.toInt < 2 ^ (u.1 13 0).toInt.toNat := by omega
      have e := inc (show 0 ≤ x.toInt by omega) hx8 (by omega)
      have hend : ¬ (1 : Int32) <<< (u.1 13 0 &&& 31) ≤ x := fun g => by have := xq_le g (pow_sh hT.1 hT.2) rfl; omega
      have hg := hR.good_iff h0 h1 hb (lt_bits hT.1 (show 0 ≤ x.toInt by omega) hx8)
      have hskip := ih x3 (x + 1) (by omega) (by omega) (by omega) y0 y1
      have hupd := ih x (x + 1) (by omega) (by omega) (by omega) (by omega) (by omega)
      have bx := bits_rng (x := x) (by omega) (by omega)
      have by3 := bits_rng y0 y1
      have em : (m_bits x - m_bits x3).toInt = (m_bits x).toInt - (m_bits x3).toInt := xsub rfl rfl (by omega) (by omega)
      unfold m_best_L35 k_Planner_mostIn_L65
      rw [← hR.T, if_neg hend, if_neg h, hR.nightsOf h0 h1, hR.cracksOf h0 h1, bits_eq (show 0 ≤ x.toInt by omega) (by omega), hskip, hupd]
      by_cases G : ((x &&& (k_Planner_learnable (k_Planner_reckon u c) c ^^^ (-1 : Int32))) = 0 ∧ k_Planner_isWhole (k_Planner_reckon u c) c x = true ∧ m_cracksOf v c x ≤ u.1 18 c.toNatClampNeg - u.1 25 c.toNatClampNeg)
      · obtain ⟨q1, q3⟩ := hg.mp G
        obtain ⟨P1, P2, P3⟩ := G
        rw [q1, q3, P2, if_pos P1, if_pos P3]
        have bt1 : ¬ b2i true = (0 : Int32) := by decide
        rw [if_neg bt1, if_neg bt1, if_neg bt1]
        by_cases d1 : p < m_nightsOf v c x
        · rw [if_pos d1, if_pos d1]
          by_cases d2 : m_bits x < m_bits x3
          · rw [if_pos d2]
          · rw [if_neg d2]
        · rw [if_neg d1, if_neg d1]
          by_cases d2 : m_bits x < m_bits x3
          · have d2' := xq_lt d2 rfl rfl
            rw [if_pos d2, if_neg (fun g => by have := xq_lt g (a := 0) rfl em; omega), if_neg (fun g => by have := xq_eq g em (b := 0) rfl; omega)]
          · have d2' := xq_nlt d2 rfl rfl
            rw [if_neg d2]
            by_cases d3 : m_bits x3 < m_bits x
            · have d3' := xq_lt d3 rfl rfl
              rw [if_pos d3, if_pos (Int32.lt_iff_toInt_lt.mpr (by rw [em]; show (0 : Int) < _; omega))]
            · have d3' := xq_nlt d3 rfl rfl
              rw [if_neg d3, if_neg (fun g => by have := xq_lt g (a := 0) rfl em; omega), if_pos (Int32.toInt_inj.mp (by rw [em]; show _ = (0 : Int); omega))]
              by_cases d4 : m_nightsOf v c x3 ≤ m_nightsOf v c x
              · rw [if_pos d4, if_pos d4]
              · rw [if_neg d4, if_neg d4]
      · have hng : ¬ (m_isWhole v c x = true ∧ m_bears v c x = true) := fun g => G (hg.mpr g)
        have hl : ∀ A B : Int32, (if b2i (m_isWhole v c x) = 0 then A else if p < m_nightsOf v c x then A else if b2i (m_bears v c x) = 0 then A else B) = A := fun A B => by
          by_cases c1 : b2i (m_isWhole v c x) = 0
          · rw [if_pos c1]
          rw [if_neg c1]
          by_cases c2 : p < m_nightsOf v c x
          · rw [if_pos c2]
          rw [if_neg c2]
          by_cases c3 : b2i (m_bears v c x) = 0
          · rw [if_pos c3]
          exact absurd ⟨Bool.of_not_eq_false (fun g => c1 (b2i_0.mpr g)), Bool.of_not_eq_false (fun g => c3 (b2i_0.mpr g))⟩ hng
        rw [hl]
        by_cases P1 : (x &&& (k_Planner_learnable (k_Planner_reckon u c) c ^^^ (-1 : Int32))) = 0
        · rw [if_pos P1]
          by_cases d2 : m_bits x < m_bits x3
          · rw [if_pos d2]
          rw [if_neg d2]
          by_cases P2 : b2i (k_Planner_isWhole (k_Planner_reckon u c) c x) = 0
          · rw [if_pos P2]
          rw [if_neg P2]
          by_cases P3 : m_cracksOf v c x ≤ u.1 18 c.toNatClampNeg - u.1 25 c.toNatClampNeg
          · exact absurd ⟨P1, Bool.of_not_eq_false (fun g => P2 (b2i_0.mpr g)), P3⟩ G
          · rw [if_neg P3]
        · rw [if_neg P1]
theorem nightsOf_0 (hR : Rel u v) (c : Int32) : ∀ (n : Nat) (y : Int32), 0 ≤ y.toInt → m_nightsOf_L5 v c 0 n 0 y = 0 := by
  have hT := hR.bT
  intro n
  induction n with
  | zero => intro y _; rfl
  | succ n ih =>
    intro y h0
    unfold m_nightsOf_L5
    rw [← hR.T]
    by_cases h : u.1 13 0 ≤ y
    · rw [if_pos h]
    · have h2 := xq_nle h rfl rfl
      have e := inc h0 h2 (by omega)
      rw [if_neg h, mhas, has_bt _ h0 (by omega), bt_0, if_pos bf0, Int32.add_zero]
      exact ih _ (by omega)
theorem mostIn_eq (hR : Rel u v) {c : Int32} (h0 : 0 ≤ c.toInt) (h1 : c.toInt < (u.1 13 1).toInt) (p q : Int32) : (k_Planner_mostIn u c p).2 = k_Planner_reckon u c ∧ m_best_L35 v c p q 257 0 1 = if q = 0 then (k_Planner_mostIn u c p).1 else m_nightsOf v c (k_Planner_mostIn u c p).1 := by
  have hT := hR.bT
  have h8 := pow8 hT.1 hT.2
  have h11 : (1 : Int32).toInt = 1 := rfl
  have eb : k_Hall_isBroken (k_Planner_reckon u c) c = k_Hall_isBroken u c := by unfold k_Hall_isBroken; rw [kp_reckon u c (j := 21) (by decide) (by decide)]
  rw [k_Planner_mostIn_def]
  unfold k_Planner_mostIn_b k_Planner_mostIn_J35
  dsimp only
  rw [eb, kp_reckon u c (j := 18) (by decide) (by decide), kp_reckon u c (j := 25) (by decide) (by decide)]
  by_cases hb : b2i (k_Hall_isBroken u c) = 0
  · rw [if_pos hb]
    refine ⟨most_2 _ _ _ _ _ _ _ _ _ _, ?_⟩
    have hz : m_nightsOf v c 0 = 0 := nightsOf_0 hR c 9 0 (by decide)
    have := best_L hR h0 h1 (b2i_0.mp hb) p q 257 0 1 (by decide) (by omega) (by decide) (by decide) (by decide)
    rw [hz] at this
    exact this
  · rw [if_neg hb]
    refine ⟨most_2 _ _ _ _ _ _ _ _ _ _, ?_⟩
    rw [best_end hR c p q 0 257 1 (by decide) (by omega) (by decide) (fun y _ _ g => hb (b2i_0.mpr ((hR.mbears h0 h1 y).mp g.2).1))]
    rfl
theorem s_best : St_best Rel := by
  intro u v p1 p2 p3 hR
  refine ⟨⟨hR.bT, hR.bC⟩, ⟨hR.mT, hR.mC, hR.wits⟩, ?_⟩
  have hT := hR.bT
  rw [k_best_def]
  unfold k_best_b m_best
  rw [hR.isCast]
  by_cases h : b2i (k_Hall_isCast u p1) = 0
  · rw [if_pos h, if_pos h]; exact ⟨rfl, hR⟩
  have hc := cast_iff.mp (Bool.of_not_eq_false (fun g => h (b2i_0.mpr g)))
  rw [if_neg h, if_neg h]
  by_cases c1 : p2 < 0
  · rw [if_pos c1, if_pos (in_f1 (xq_lt c1 rfl rfl))]; exact ⟨rfl, hR⟩
  rw [if_neg c1]
  by_cases c2 : 99 < p2
  · rw [if_pos c2, if_pos (in_f2 (xq_lt c2 rfl rfl))]; exact ⟨rfl, hR⟩
  rw [if_neg c2, if_neg (in_t (xq_nlt c1 rfl rfl) (xq_nlt c2 rfl rfl))]
  by_cases c3 : p3 < 0
  · rw [if_pos c3, if_pos (in_f1 (xq_lt c3 rfl rfl))]; exact ⟨rfl, hR⟩
  rw [if_neg c3]
  by_cases c4 : p3 ≤ 1
  rotate_left
  · rw [if_neg c4, if_pos (in_f2 (xq_nle c4 rfl rfl))]; exact ⟨rfl, hR⟩
  rw [if_pos c4, if_neg (in_t (xq_nlt c3 rfl rfl) (xq_le c4 rfl rfl))]
  obtain ⟨e1, e2⟩ := mostIn_eq hR hc.1 hc.2 p2 p3
  rw [e2]
  dsimp only
  by_cases c5 : p3 = 0
  · rw [if_pos c5, if_pos c5]
    exact ⟨rfl, by dsimp only; rw [e1]; exact hR.reckR p1⟩
  · rw [if_neg c5, if_neg c5, e1]
    exact ⟨hR.nightsOf hc.1 hc.2 _, hR.reckR p1⟩
end BE
