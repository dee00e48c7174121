/-! ===== PURE: who, ask ===== -/
section WH
variable {u v : xU}
theorem whoCan_bt_L (u : xU) (hC : 0 ≤ (u.1 13 1).toInt ∧ (u.1 13 1).toInt ≤ 6) (t : Int32) (i : Nat) : ∀ (n : Nat) (x y : Int32), 0 ≤ y.toInt → (u.1 13 1).toInt - y.toInt < n → 1 ≤ n → (bt (k_Hall_whoCan_L4 u t n x y) i = true ↔ bt x i = true ∨ (y.toInt ≤ i ∧ (i : Int) < (u.1 13 1).toInt ∧ k_has (u.1 23 i) t = true)) := by
  intro n
  induction n with
  | zero => intro x y h0 h1 h2; exact absurd h2 (by decide)
  | succ n ih =>
    intro x y h0 h1 _
    unfold k_Hall_whoCan_L4
    by_cases h : u.1 13 1 ≤ y
    · have h2 := xq_le h rfl rfl
      rw [if_pos h]
      exact ⟨Or.inl, fun g => g.elim id (fun g => absurd g.2.1 (by omega))⟩
    · have h2 := xq_nle h rfl rfl
      have e := inc h0 h2 (by omega)
      have hy : (y.toNatClampNeg : Int) = y.toInt := by show ((y.toInt.toNat : Nat) : Int) = _; omega
      rw [if_neg h]
      by_cases hb : b2i (k_has (u.1 23 y.toNatClampNeg) t) = 0
      · rw [if_pos hb, ih _ _ (by omega) (by omega) (by omega)]
        refine or_congr_right ⟨fun g => ⟨by omega, g.2⟩, fun g => ⟨?_, g.2⟩⟩
        rcases Int.lt_or_eq_of_le g.1 with g1 | g1
        · omega
        · have : i = y.toNatClampNeg := by omega
          rw [← this] at hb
          rw [b2i_0.mp hb] at g
          exact absurd g.2.2 (by decide)
      · rw [if_neg hb, ih _ _ (by omega) (by omega) (by omega), bt_or, Bool.or_eq_true, bt_sh h0 (by omega), decide_eq_true_eq, or_assoc]
        refine or_congr_right ⟨fun g => ?_, fun g => ?_⟩
        · rcases g with g | g
          · subst g
            exact ⟨by omega, by omega, Bool.of_not_eq_false (fun g => hb (b2i_0.mpr g))⟩
          · exact ⟨by omega, g.2⟩
        · rcases Int.lt_or_eq_of_le g.1 with g1 | g1
          · exact Or.inr ⟨by omega, g.2⟩
          · exact Or.inl (by omega)
theorem whoCan_bt (hR : Rel u v) (t : Int32) (i : Nat) : bt (k_Hall_whoCan u t) i = true ↔ ((i : Int) < (u.1 13 1).toInt ∧ k_has (u.1 23 i) t = true) := by
  have hC := hR.bC
  unfold k_Hall_whoCan
  rw [whoCan_bt_L u hC t i 7 0 0 (by decide) (by have : (0 : Int32).toInt = 0 := rfl; omega) (by decide), bt_0]
  have : (0 : Int32).toInt = 0 := rfl
  exact ⟨fun g => g.elim (fun g => absurd g (by decide)) (fun g => g.2), fun g => Or.inr ⟨by omega, g⟩⟩
theorem susp_bt_L (hR : Rel u v) {i : Nat} (hi : i < 32) : ∀ (n : Nat) (x y : Int32), 0 ≤ y.toInt → (u.1 44 3).toInt - y.toInt < n → 1 ≤ n → (bt (k_Hearsay_suspects_L17 u n x y) i = true ↔ bt x i = true ∧ ∀ j : Nat, y.toInt ≤ j → (j : Int) < (u.1 44 3).toInt → (bt (k_Hall_whoCan u (u.1 45 j)) i = true ↔ u.1 46 j = 1)) := by
  have hH : 0 ≤ (u.1 44 3).toInt ∧ (u.1 44 3).toInt ≤ 6 := hR.2.2.2.2.2.1.2.1
  intro n
  induction n with
  | zero => intro x y h0 h1 h2; exact absurd h2 (by decide)
  | succ n ih =>
    intro x y h0 h1 _
    unfold k_Hearsay_suspects_L17
    by_cases h : u.1 44 3 ≤ y
    · have h2 := xq_le h rfl rfl
      rw [if_pos h]
      exact ⟨fun g => ⟨g, fun j h3 h4 => absurd h4 (by omega)⟩, fun g => g.1⟩
    · have h2 := xq_nle h rfl rfl
      have e := inc h0 h2 (by omega)
      have hy : (y.toNatClampNeg : Int) = y.toInt := by show ((y.toInt.toNat : Nat) : Int) = _; omega
      have key : ∀ (b : Bool), (b = true ↔ (bt (k_Hall_whoCan u (u.1 45 y.toNatClampNeg)) i = true ↔ u.1 46 y.toNatClampNeg = 1)) → ((bt x i && b) = true ∧ (∀ j : Nat, (y + 1).toInt ≤ j → (j : Int) < (u.1 44 3).toInt → (bt (k_Hall_whoCan u (u.1 45 j)) i = true ↔ u.1 46 j = 1)) ↔ bt x i = true ∧ ∀ j : Nat, y.toInt ≤ j → (j : Int) < (u.1 44 3).toInt → (bt (k_Hall_whoCan u (u.1 45 j)) i = true ↔ u.1 46 j = 1)) := by
        intro b hb
        rw [Bool.and_eq_true]
        constructor
        · intro g
          refine ⟨g.1.1, fun j h3 h4 => ?_⟩
          rcases Int.lt_or_eq_of_le h3 with g1 | g1
          · exact g.2 j (by omega) h4
          · have : j = y.toNatClampNeg := by omega
            rw [this]; exact hb.mp g.1.2
        · intro g
          exact ⟨⟨g.1, hb.mpr (g.2 _ (by omega) (by omega))⟩, fun j h3 h4 => g.2 j (by omega) h4⟩
      dsimp only
      rw [if_neg h]
      by_cases hb : u.1 46 y.toNatClampNeg = 1
      · rw [if_pos hb, ih _ _ (by omega) (by omega) (by omega), bt_and]
        exact key _ ⟨fun g => ⟨fun _ => hb, fun _ => g⟩, fun g => g.mpr hb⟩
      · rw [if_neg hb, ih _ _ (by omega) (by omega) (by omega), bt_and, bt_not _ hi]
        refine key _ ⟨fun g => ⟨fun g2 => ?_, fun g2 => absurd g2 hb⟩, fun g => ?_⟩
        · rw [g2] at g; exact absurd g (by decide)
        · cases hh : bt (k_Hall_whoCan u (u.1 45 y.toNatClampNeg)) i with
          | false => rfl
          | true => exact absurd (g.mp hh) hb
theorem ones_bt {c : Int32} (h0 : 0 ≤ c.toInt) (h1 : c.toInt ≤ 6) {i : Nat} (hi : i < 32) : bt (((1 : Int32) <<< (c &&& 31)) - (1 : Int32)) i = true ↔ (i : Int) < c.toInt := by
  obtain ⟨j, hj, rfl⟩ := xof8 (n := 7) h0 (by omega) (by decide)
  have : ∀ (k : Fin 7) (i : Fin 32), bt (((1 : Int32) <<< (nI k.val &&& 31)) - (1 : Int32)) i.val = decide (i.val < k.val) := by decide +kernel
  rw [this ⟨j, hj⟩ ⟨i, hi⟩, decide_eq_true_eq, nI_toInt (by omega)]
  show i < j ↔ _
  omega
def okc (u : xU) (i : Nat) : Prop := ∀ j : Nat, (j : Int) < (u.1 44 3).toInt → (k_has (u.1 23 i) (u.1 45 j) = true ↔ u.1 46 j = 1)
theorem susp_bt (hR : Rel u v) {i : Nat} (hi : i < 32) : bt (k_Hearsay_suspects u) i = true ↔ (i : Int) < (u.1 13 1).toInt ∧ okc u i := by
  have hH : 0 ≤ (u.1 44 3).toInt ∧ (u.1 44 3).toInt ≤ 6 := hR.2.2.2.2.2.1.2.1
  have h00 : (0 : Int32).toInt = 0 := rfl
  unfold k_Hearsay_suspects
  dsimp only
  rw [susp_bt_L hR hi 7 _ 0 (by decide) (by omega) (by decide), ones_bt hR.bC.1 hR.bC.2 hi]
  refine and_congr_right (fun hc => ⟨fun g j h => ?_, fun g j _ h => ?_⟩)
  · rw [← g j (by omega) h, whoCan_bt hR]
    exact ⟨fun g => ⟨hc, g⟩, fun g => g.2⟩
  · rw [← g j h, whoCan_bt hR]
    exact ⟨fun g => g.2, fun g => ⟨hc, g⟩⟩
theorem who_L17 (hR : Rel u v) (kk : Int32 → Int32 → Int32) (x1 c : Int32) (h0 : 0 ≤ c.toInt) (h1 : c.toInt < (u.1 13 1).toInt) : ∀ (n : Nat) (x3 x4 : Int32), 0 ≤ x4.toInt → (u.1 44 3).toInt - x4.toInt < n → 1 ≤ n →
    ((¬ x3 = 0 ∧ ∀ j : Nat, x4.toInt ≤ j → (j : Int) < (u.1 44 3).toInt → (k_has (u.1 23 c.toNatClampNeg) (u.1 45 j) = true ↔ u.1 46 j = 1)) → m_who_L17 kk v x1 c n x3 x4 = kk (x1 ||| ((1 : Int32) <<< (c &&& 31))) (c + 1)) ∧
    (¬ (¬ x3 = 0 ∧ ∀ j : Nat, x4.toInt ≤ j → (j : Int) < (u.1 44 3).toInt → (k_has (u.1 23 c.toNatClampNeg) (u.1 45 j) = true ↔ u.1 46 j = 1)) → m_who_L17 kk v x1 c n x3 x4 = kk x1 (c + 1)) := by
  have hH : 0 ≤ (u.1 44 3).toInt ∧ (u.1 44 3).toInt ≤ 6 := hR.2.2.2.2.2.1.2.1
  have eH : u.1 44 3 = v.1 0 11 := hR.2.2.2.2.2.1.1
  intro n
  induction n with
  | zero => intro x y h0 h1 h2; exact absurd h2 (by decide)
  | succ n ih =>
    intro x3 x4 g0 g1 _
    unfold m_who_L17
    rw [← eH]
    by_cases h : u.1 44 3 ≤ x4
    · have h2 := xq_le h rfl rfl
      rw [if_pos h]
      constructor
      · intro g; rw [if_neg g.1]
      · intro g
        by_cases hx : x3 = 0
        · rw [if_pos hx, or_0]
        · exact absurd ⟨hx, fun j a b => absurd b (by omega)⟩ g
    · have h2 := xq_nle h rfl rfl
      have e := inc g0 h2 (by omega)
      have hy : (x4.toNatClampNeg : Int) = x4.toInt := by show ((x4.toInt.toNat : Nat) : Int) = _; omega
      have e2 : ((2 : Int32) * x4).toInt = 2 * x4.toInt := xmul rfl rfl (by have : (2 : Int32).toInt = 2 := rfl; omega) (by have : (2 : Int32).toInt = 2 := rfl; omega)
      have e3 : ((2 : Int32) * x4).toNatClampNeg = 2 * x4.toNatClampNeg := by
        show ((2 : Int32) * x4).toInt.toNat = _
        rw [e2]; omega
      have e5 : ((2 : Int32) * x4 + 1).toInt = 2 * x4.toInt + 1 := xadd e2 rfl (by have : (1 : Int32).toInt = 1 := rfl; omega) (by have : (1 : Int32).toInt = 1 := rfl; omega)
      have e4 : ((2 : Int32) * x4 + 1).toNatClampNeg = 2 * x4.toNatClampNeg + 1 := by
        show ((2 : Int32) * x4 + 1).toInt.toNat = _
        rw [e5]; omega
      obtain ⟨f1, f2, f3, f4⟩ := hR.2.2.2.2.2.1.2.2 x4.toNatClampNeg (by omega)
      obtain ⟨i1, i2⟩ := ih 1 (x4 + 1) (by omega) (by omega) (by omega)
      obtain ⟨-, i4⟩ := ih 0 (x4 + 1) (by omega) (by omega) (by omega)
      rw [if_neg h, e3, e4, ← f1, ← f2, hR.mcan h0 h1]
      have i4 := i4 (fun g => g.1 rfl)
      have key : ∀ j : Nat, x4.toInt ≤ j → j = x4.toNatClampNeg ∨ (x4 + 1).toInt ≤ j := fun j hj => by
        rcases Int.lt_or_eq_of_le hj with g | g
        · exact Or.inr (by omega)
        · exact Or.inl (by omega)
      by_cases hx : x3 = 0
      · rw [if_pos hx, i4]
        exact ⟨fun g => absurd hx g.1, fun _ => rfl⟩
      · rw [if_neg hx]
        by_cases hb : (k_has (u.1 23 c.toNatClampNeg) (u.1 45 x4.toNatClampNeg) = true ↔ u.1 46 x4.toNatClampNeg = 1)
        · have hgo : (if (u.1 46 x4.toNatClampNeg) = (1 : Int32) then (if (b2i (k_has (u.1 23 c.toNatClampNeg) (u.1 45 x4.toNatClampNeg))) = (1 : Int32) then m_who_L17 kk v x1 c n (1 : Int32) (x4 + (1 : Int32)) else m_who_L17 kk v x1 c n (0 : Int32) (x4 + (1 : Int32))) else (if (b2i (k_has (u.1 23 c.toNatClampNeg) (u.1 45 x4.toNatClampNeg))) = (0 : Int32) then m_who_L17 kk v x1 c n (1 : Int32) (x4 + (1 : Int32)) else m_who_L17 kk v x1 c n (0 : Int32) (x4 + (1 : Int32)))) = m_who_L17 kk v x1 c n (1 : Int32) (x4 + (1 : Int32)) := by
            by_cases h1 : u.1 46 x4.toNatClampNeg = 1
            · rw [if_pos h1, if_pos (b2i_1.mpr (hb.mpr h1))]
            · rw [if_neg h1, if_pos (b2i_0.mpr (Bool.eq_false_iff.mpr (fun g => h1 (hb.mp g))))]
          rw [hgo]
          constructor
          · intro g; exact i1 ⟨by decide, fun j a b => g.2 j (by omega) b⟩
          · intro g
            refine i2 (fun g2 => g ⟨hx, fun j a b => ?_⟩)
            rcases key j a with rfl | k
            · exact hb
            · exact g2.2 j k b
        · have hgo : (if (u.1 46 x4.toNatClampNeg) = (1 : Int32) then (if (b2i (k_has (u.1 23 c.toNatClampNeg) (u.1 45 x4.toNatClampNeg))) = (1 : Int32) then m_who_L17 kk v x1 c n (1 : Int32) (x4 + (1 : Int32)) else m_who_L17 kk v x1 c n (0 : Int32) (x4 + (1 : Int32))) else (if (b2i (k_has (u.1 23 c.toNatClampNeg) (u.1 45 x4.toNatClampNeg))) = (0 : Int32) then m_who_L17 kk v x1 c n (1 : Int32) (x4 + (1 : Int32)) else m_who_L17 kk v x1 c n (0 : Int32) (x4 + (1 : Int32)))) = m_who_L17 kk v x1 c n (0 : Int32) (x4 + (1 : Int32)) := by
            by_cases h1 : u.1 46 x4.toNatClampNeg = 1
            · rw [if_pos h1, if_neg (fun g => hb ⟨fun _ => h1, fun _ => b2i_1.mp g⟩)]
            · rw [if_neg h1, if_neg (fun g => hb ⟨fun g2 => absurd (b2i_0.mp g) (by rw [g2]; decide), fun g2 => absurd g2 h1⟩)]
          rw [hgo, i4]
          exact ⟨fun g => absurd (g.2 x4.toNatClampNeg (by omega) (by omega)) hb, fun _ => rfl⟩
theorem who_bt_L (hR : Rel u v) {i : Nat} : ∀ (n : Nat) (x y : Int32), 0 ≤ y.toInt → (u.1 13 1).toInt - y.toInt < n → 1 ≤ n → (bt (m_who_L4 v n x y) i = true ↔ bt x i = true ∨ (y.toInt ≤ i ∧ (i : Int) < (u.1 13 1).toInt ∧ okc u i)) := by
  have hC := hR.bC
  have hH : 0 ≤ (u.1 44 3).toInt ∧ (u.1 44 3).toInt ≤ 6 := hR.2.2.2.2.2.1.2.1
  have h00 : (0 : Int32).toInt = 0 := rfl
  intro n
  induction n with
  | zero => intro x y h0 h1 h2; exact absurd h2 (by decide)
  | succ n ih =>
    intro x y h0 h1 _
    unfold m_who_L4
    rw [← hR.C]
    by_cases h : u.1 13 1 ≤ y
    · have h2 := xq_le h rfl rfl
      rw [if_pos h]
      exact ⟨Or.inl, fun g => g.elim id (fun g => absurd g.2.1 (by omega))⟩
    · have h2 := xq_nle h rfl rfl
      have e := inc h0 h2 (by omega)
      have hy : (y.toNatClampNeg : Int) = y.toInt := by show ((y.toInt.toNat : Nat) : Int) = _; omega
      obtain ⟨i1, i2⟩ := who_L17 hR (fun (z1 : Int32) (z2 : Int32) => m_who_L4 v n z1 z2) x y h0 h2 7 1 0 (by decide) (by omega) (by decide)
      rw [if_neg h]
      by_cases hb : okc u y.toNatClampNeg
      · rw [i1 ⟨by decide, fun j _ b => hb j b⟩]
        show bt (m_who_L4 v n _ _) i = true ↔ _
        rw [ih _ _ (by omega) (by omega) (by omega), bt_or, Bool.or_eq_true, bt_sh h0 (by omega), decide_eq_true_eq, or_assoc]
        refine or_congr_right ⟨fun g => ?_, fun g => ?_⟩
        · rcases g with g | g
          · subst g; exact ⟨by omega, by omega, hb⟩
          · exact ⟨by omega, g.2⟩
        · rcases Int.lt_or_eq_of_le g.1 with g1 | g1
          · exact Or.inr ⟨by omega, g.2⟩
          · exact Or.inl (by omega)
      · rw [i2 (fun g => hb (fun j b => g.2 j (by omega) b))]
        show bt (m_who_L4 v n _ _) i = true ↔ _
        rw [ih _ _ (by omega) (by omega) (by omega)]
        refine or_congr_right ⟨fun g => ⟨by omega, g.2⟩, fun g => ⟨?_, g.2⟩⟩
        rcases Int.lt_or_eq_of_le g.1 with g1 | g1
        · omega
        · have : i = y.toNatClampNeg := by omega
          rw [this] at g
          exact absurd g.2.2 hb
theorem who_eq (hR : Rel u v) : m_who v = k_Hearsay_suspects u := by
  have hC := hR.bC
  have h00 : (0 : Int32).toInt = 0 := rfl
  refine bt_ext (fun i hi => ?_)
  rw [Bool.eq_iff_iff, susp_bt hR hi]
  unfold m_who
  rw [who_bt_L hR 7 0 0 (by decide) (by omega) (by decide), bt_0]
  exact ⟨fun g => g.elim (fun g => absurd g (by decide)) (fun g => g.2), fun g => Or.inr ⟨by omega, g⟩⟩
theorem susp_rng (hR : Rel u v) : 0 ≤ (k_Hearsay_suspects u).toInt ∧ (k_Hearsay_suspects u).toInt < 2 ^ 6 := lt_bt (by decide) (fun i h hi => by
  have hC := hR.bC
  rw [Bool.eq_false_iff]
  intro g
  have := ((susp_bt hR hi).mp g).1
  omega)
theorem and_rng {x y : Int32} {n : Nat} (hn : n ≤ 31) (h0 : 0 ≤ x.toInt) (h1 : x.toInt < 2 ^ n) : 0 ≤ (x &&& y).toInt ∧ (x &&& y).toInt < 2 ^ n := lt_bt hn (fun i h _ => by rw [bt_and, bt_lt h0 h1 h]; rfl)
theorem ask_L (hR : Rel u v) {x1 : Int32} (hx : 0 ≤ x1.toInt ∧ x1.toInt < 2 ^ 6) (x2 : Int32) (hx2 : 0 ≤ x2.toInt ∧ x2.toInt ≤ 8) : ∀ (n : Nat) (x3 x4 x5 : Int32), m_ask_L19 v x1 x2 n x3 x4 x5 = k_Hearsay_bestQuestion_L19 u x1 x2 n x3 x4 x5 := by
  intro n
  induction n with
  | zero => intro x3 x4 x5; rfl
  | succ n ih =>
    intro x3 x4 x5
    unfold m_ask_L19 k_Hearsay_bestQuestion_L19
    have hb := and_rng (y := k_Hall_whoCan u x5) (by decide) hx.1 hx.2
    have hr := bits_rng (x := x1 &&& k_Hall_whoCan u x5) hb.1 (by omega)
    rw [← hR.T, hR.whoCan, bits_eq hb.1 (by omega)]
    dsimp only
    simp only [ih]
    generalize m_bits (x1 &&& k_Hall_whoCan u x5) = z at hr ⊢
    have ez : (x2 - z).toInt = x2.toInt - z.toInt := xsub rfl rfl (by omega) (by omega)
    by_cases h : u.1 13 0 ≤ x5
    · rw [if_pos h, if_pos h]
    · rw [if_neg h, if_neg h]
      by_cases h1 : z ≤ x2 - z
      · rw [if_pos h1]
        by_cases h2 : z < x2 - z
        · rw [if_pos h2]
          split <;> rfl
        · have h3 : z = x2 - z := Int32.toInt_inj.mp (by have := xq_le h1 rfl ez; have := xq_nlt h2 rfl ez; omega)
          rw [if_neg h2, ← h3]
          split <;> rfl
      · have h2 : ¬ z < x2 - z := fun g => by have := xq_nle h1 rfl ez; have := xq_lt g rfl ez; omega
        rw [if_neg h1, if_neg h2]
        split <;> rfl
theorem s_who : St_who Rel := by
  intro u v hR
  have hH : 0 ≤ (u.1 44 3).toInt ∧ (u.1 44 3).toInt ≤ 6 := hR.2.2.2.2.2.1.2.1
  have eH : u.1 44 3 = v.1 0 11 := hR.2.2.2.2.2.1.1
  exact ⟨⟨hR.bT, hR.bC, hH⟩, ⟨hR.mT, hR.mC, eH ▸ hH⟩, (who_eq hR).symm, hR⟩
theorem s_ask : St_ask Rel := by
  intro u v hR
  have hH : 0 ≤ (u.1 44 3).toInt ∧ (u.1 44 3).toInt ≤ 6 := hR.2.2.2.2.2.1.2.1
  have eH : u.1 44 3 = v.1 0 11 := hR.2.2.2.2.2.1.1
  refine ⟨⟨hR.bT, hR.bC, hH⟩, ⟨hR.mT, hR.mC, eH ▸ hH⟩, ?_, hR⟩
  have hs := susp_rng hR
  have hr := bits_rng hs.1 (by omega)
  unfold k_ask m_ask k_Hearsay_bestQuestion
  rw [who_eq hR, bits_eq hs.1 (by omega), ask_L hR hs _ hr]
end WH
