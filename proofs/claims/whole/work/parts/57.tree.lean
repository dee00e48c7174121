/-! ===== PURE: the tree ===== -/
section TR
variable {u v : xU}
def tD (u : xU) (i j : Nat) : Int := (k_Hall_unlikeParts u (nI i) (nI j)).toInt
theorem tD_sm (u : xU) (i j : Nat) : tD u i j = tD u j i := by
  unfold tD k_Hall_unlikeParts
  rw [Int32.xor_comm]
theorem tD_at (u : xU) {c d : Int32} (h0 : 0 ≤ c.toInt) (g0 : 0 ≤ d.toInt) : (k_Hall_unlikeParts u c d).toInt = tD u c.toNatClampNeg d.toNatClampNeg := by
  unfold tD; rw [← nI_ofc h0, ← nI_ofc g0]
theorem tD_rng (hR : Rel u v) {i j : Nat} (hi : (i : Int) < (u.1 13 1).toInt) (hj : (j : Int) < (u.1 13 1).toInt) : 0 ≤ tD u i j ∧ tD u i j ≤ 6 := by
  have hC := hR.bC
  have hb := xor63 (hR.blacks hi) (hR.blacks hj)
  unfold tD k_Hall_unlikeParts
  rw [nI_cl (by omega), nI_cl (by omega), bits_eq hb.1 (by omega)]
  exact bits_pow (n := 6) (by decide) hb.1 hb.2
theorem stepTo_L (u : xU) (hC : 0 ≤ (u.1 13 1).toInt ∧ (u.1 13 1).toInt ≤ 6) {c : Int32} (hc : 0 ≤ c.toInt) (x2 : Int32) : ∀ (n : Nat) (x3 x4 : Int32), 0 ≤ x4.toInt → (u.1 13 1).toInt - x4.toInt < n → 1 ≤ n →
    ((k_Hall_stepTo_L6 u c x2 n x3 x4).toInt ≤ x3.toInt ∧ (∀ a : Nat, x4.toInt ≤ a → (a : Int) < (u.1 13 1).toInt → bt x2 a = true → (k_Hall_stepTo_L6 u c x2 n x3 x4).toInt ≤ tD u c.toNatClampNeg a) ∧
      (k_Hall_stepTo_L6 u c x2 n x3 x4 = x3 ∨ ∃ a : Nat, (a : Int) < (u.1 13 1).toInt ∧ bt x2 a = true ∧ (k_Hall_stepTo_L6 u c x2 n x3 x4).toInt = tD u c.toNatClampNeg a)) := by
  intro n
  induction n with
  | zero => intro x y h0 h1 h2; exact absurd h2 (by decide)
  | succ n ih =>
    intro x3 x4 h0 h1 _
    unfold k_Hall_stepTo_L6
    by_cases h : u.1 13 1 ≤ x4
    · have h2 := xq_le h rfl rfl
      rw [if_pos h]
      exact ⟨Int.le_refl _, fun a h3 h4 => absurd h4 (by omega), Or.inl rfl⟩
    · have h2 := xq_nle h rfl rfl
      have e := inc h0 h2 (by omega)
      have hy : (x4.toNatClampNeg : Int) = x4.toInt := by show ((x4.toInt.toNat : Nat) : Int) = _; omega
      rw [if_neg h, has_bt _ h0 (by omega)]
      have key : ∀ a : Nat, x4.toInt ≤ a → a = x4.toNatClampNeg ∨ (x4 + 1).toInt ≤ a := fun j hj => by
        rcases Int.lt_or_eq_of_le hj with g | g
        · exact Or.inr (by omega)
        · exact Or.inl (by omega)
      by_cases hb : b2i (bt x2 x4.toNatClampNeg) = 0
      · rw [if_pos hb]
        obtain ⟨i1, i2, i3⟩ := ih x3 (x4 + 1) (by omega) (by omega) (by omega)
        refine ⟨i1, fun a h3 h4 h5 => ?_, i3⟩
        rcases key a h3 with rfl | k
        · rw [b2i_0.mp hb] at h5; exact absurd h5 (by decide)
        · exact i2 a k h4 h5
      · have hb' : bt x2 x4.toNatClampNeg = true := Bool.of_not_eq_false (fun g => hb (b2i_0.mpr g))
        rw [if_neg hb]
        dsimp only
        have ed := tD_at u hc h0
        by_cases hl : k_Hall_unlikeParts u c x4 < x3
        · rw [if_pos hl]
          have hl' := xq_lt hl rfl rfl
          obtain ⟨i1, i2, i3⟩ := ih (k_Hall_unlikeParts u c x4) (x4 + 1) (by omega) (by omega) (by omega)
          refine ⟨by omega, fun a h3 h4 h5 => ?_, Or.inr ?_⟩
          · rcases key a h3 with rfl | k
            · omega
            · exact i2 a k h4 h5
          · rcases i3 with i3 | i3
            · exact ⟨x4.toNatClampNeg, by omega, hb', by rw [i3, ed]⟩
            · exact i3
        · rw [if_neg hl]
          have hl' := xq_nlt hl rfl rfl
          obtain ⟨i1, i2, i3⟩ := ih x3 (x4 + 1) (by omega) (by omega) (by omega)
          refine ⟨i1, fun a h3 h4 h5 => ?_, i3⟩
          rcases key a h3 with rfl | k
          · omega
          · exact i2 a k h4 h5
theorem stepTo_s (hR : Rel u v) {c : Int32} (hc : 0 ≤ c.toInt) (hc1 : c.toInt < (u.1 13 1).toInt) {x2 : Int32} (h0 : bt x2 0 = true) : (∀ a : Nat, (a : Int) < (u.1 13 1).toInt → bt x2 a = true → (k_Hall_stepTo u c x2).toInt ≤ tD u a c.toNatClampNeg) ∧ ∃ a : Nat, (a : Int) < (u.1 13 1).toInt ∧ bt x2 a = true ∧ (k_Hall_stepTo u c x2).toInt = tD u a c.toNatClampNeg := by
  have hC := hR.bC
  have h00 : (0 : Int32).toInt = 0 := rfl
  have h06 : (6 : Int32).toInt = 6 := rfl
  obtain ⟨i1, i2, i3⟩ := stepTo_L u hC hc x2 7 6 0 (by decide) (by omega) (by decide)
  unfold k_Hall_stepTo
  refine ⟨fun a h1 h2 => by rw [tD_sm]; exact i2 a (by omega) h1 h2, ?_⟩
  rcases i3 with i3 | ⟨a, h1, h2, h3⟩
  · have h4 := i2 0 (by omega) (by omega) h0
    have h5 := tD_rng hR (i := c.toNatClampNeg) (j := 0) (nlt hc1 hc) (by omega)
    refine ⟨0, by omega, h0, ?_⟩
    rw [tD_sm]
    rw [i3] at h4 ⊢
    omega
  · exact ⟨a, h1, h2, by rw [tD_sm]; exact h3⟩
theorem ct_L27 (hR : Rel u v) (kk : Int32 → Int32 → Int32 → Int32) (x1 x2 x3 : Int32) (h0 : bt x2 0 = true) (hex : ∃ e : Nat, (e : Int) < (u.1 13 1).toInt ∧ ¬ bt x2 e = true) : ∀ (n : Nat) (x4 x5 x6 : Int32), 1 ≤ x6.toInt → (u.1 13 1).toInt - x6.toInt < n → 1 ≤ n →
    (∀ e : Nat, 1 ≤ e → (e : Int) < x6.toInt → ¬ bt x2 e = true → ∀ a : Nat, (a : Int) < (u.1 13 1).toInt → bt x2 a = true → x5.toInt ≤ tD u a e) →
    ((x5 = 7 ∧ ∀ e : Nat, 1 ≤ e → (e : Int) < x6.toInt → bt x2 e = true) ∨ (0 ≤ x4.toInt ∧ x4.toInt < (u.1 13 1).toInt ∧ ¬ bt x2 x4.toNatClampNeg = true ∧ ∃ a : Nat, (a : Int) < (u.1 13 1).toInt ∧ bt x2 a = true ∧ x5.toInt = tD u a x4.toNatClampNeg)) →
    ∃ b L : Int32, 0 ≤ b.toInt ∧ b.toInt < (u.1 13 1).toInt ∧ step (u.1 13 1).toInt.toNat (tD u) (fun i => bt x2 i = true) b.toNatClampNeg L.toInt ∧ k_Hall_leastTree_L27 kk u x1 x2 x3 n x4 x5 x6 = kk (x1 + L) (x2 ||| ((1 : Int32) <<< (b &&& 31))) (x3 + 1) := by
  have hC := hR.bC
  intro n
  induction n with
  | zero => intro x y z h0 h1 h2; exact absurd h2 (by decide)
  | succ n ih =>
    intro x4 x5 x6 g1 g2 _ hI hF
    unfold k_Hall_leastTree_L27
    by_cases h : u.1 13 1 ≤ x6
    · have h2 := xq_le h rfl rfl
      rw [if_pos h]
      obtain ⟨e, he, hne⟩ := hex
      have he1 : 1 ≤ e := Nat.pos_of_ne_zero (fun h => by subst h; exact hne h0)
      rcases hF with ⟨-, hF⟩ | ⟨f0, f1, f2, a, f3, f4, f5⟩
      · exact absurd (hF e he1 (by omega)) hne
      · have hx4 : (x4.toNatClampNeg : Int) = x4.toInt := by show ((x4.toInt.toNat : Nat) : Int) = _; omega
        refine ⟨x4, x5, f0, f1, ⟨by omega, f2, ⟨a, by omega, f4, f5.symm⟩, fun a e ha he hRa hRe => ?_⟩, rfl⟩
        exact hI e (Nat.pos_of_ne_zero (fun h => by subst h; exact hRe h0)) (by omega) hRe a (by omega) hRa
    · have h2 := xq_nle h rfl rfl
      have e := inc (show 0 ≤ x6.toInt by omega) h2 (by omega)
      have hy : (x6.toNatClampNeg : Int) = x6.toInt := by show ((x6.toInt.toNat : Nat) : Int) = _; omega
      have key : ∀ a : Nat, (a : Int) < (x6 + 1).toInt → a = x6.toNatClampNeg ∨ (a : Int) < x6.toInt := fun j hj => by omega
      rw [if_neg h, has_bt _ (by omega) (by omega)]
      by_cases hb : b2i (bt x2 x6.toNatClampNeg) = 0
      · have hb' : ¬ bt x2 x6.toNatClampNeg = true := by rw [b2i_0.mp hb]; decide
        obtain ⟨s1, a, s2, s3, s4⟩ := stepTo_s hR (show 0 ≤ x6.toInt by omega) h2 h0
        rw [if_pos hb]
        by_cases hl : x5 ≤ k_Hall_stepTo u x6 x2
        · have hl' := xq_le hl rfl rfl
          rw [if_pos hl]
          refine ih _ _ _ (by omega) (by omega) (by omega) (fun e h3 h4 h5 a h6 h7 => ?_) ?_
          · rcases key e h4 with rfl | k
            · have := s1 a h6 h7; omega
            · exact hI e h3 k h5 a h6 h7
          · rcases hF with ⟨hF, -⟩ | hF
            · have h7 : (7 : Int32).toInt = 7 := rfl
              have := tD_rng hR s2 (nlt h2 (by omega))
              rw [hF] at hl'
              omega
            · exact Or.inr hF
        · have hl' := xq_nle hl rfl rfl
          rw [if_neg hl]
          refine ih _ _ _ (by omega) (by omega) (by omega) (fun e h3 h4 h5 a h6 h7 => ?_) (Or.inr ⟨by omega, h2, hb', a, s2, s3, s4⟩)
          rcases key e h4 with rfl | k
          · exact s1 a h6 h7
          · have := hI e h3 k h5 a h6 h7; omega
      · have hb' : bt x2 x6.toNatClampNeg = true := Bool.of_not_eq_false (fun g => hb (b2i_0.mpr g))
        rw [if_neg hb]
        refine ih _ _ _ (by omega) (by omega) (by omega) (fun e h3 h4 h5 a h6 h7 => ?_) ?_
        · rcases key e h4 with rfl | k
          · exact absurd hb' h5
          · exact hI e h3 k h5 a h6 h7
        · rcases hF with ⟨hF, hF2⟩ | hF
          · refine Or.inl ⟨hF, fun e h3 h4 => ?_⟩
            rcases key e h4 with rfl | k
            · exact hb'
            · exact hF2 e h3 k
          · exact Or.inr hF
theorem grow (x2 : Int32) {b : Int32} (h0 : 0 ≤ b.toInt) (h1 : b.toInt < 32) (i : Nat) : bt (x2 ||| ((1 : Int32) <<< (b &&& 31))) i = true ↔ (bt x2 i = true ∨ i = b.toNatClampNeg) := by
  rw [bt_or, Bool.or_eq_true, bt_sh h0 h1, decide_eq_true_eq]
noncomputable def unr (u : xU) (x : Int32) : Nat := cnt (fun i => ¬ bt x i = true) (u.1 13 1).toInt.toNat
theorem unr_ex {u : xU} {x : Int32} (h : unr u x ≠ 0) : ∃ e : Nat, (e : Int) < (u.1 13 1).toInt ∧ ¬ bt x e = true := Classical.byContradiction (fun g => h (cnt_zero _ (fun i hi hb => g ⟨i, by omega, hb⟩)))
theorem unr_grow {u : xU} {x b : Int32} (h0 : 0 ≤ b.toInt) (h1 : b.toInt < 32) (h2 : b.toInt < (u.1 13 1).toInt) (h : ¬ bt x b.toNatClampNeg = true) : unr u x = unr u (x ||| ((1 : Int32) <<< (b &&& 31))) + 1 := by
  have := nlt h2 h0
  refine cnt_one (v0 := b.toNatClampNeg) h (fun g => g ((grow x h0 h1 _).mpr (Or.inr rfl))) _ (by omega) (fun i _ hi => ?_)
  rw [grow x h0 h1]
  exact ⟨fun g g2 => g2.elim g hi, fun g g2 => g (Or.inl g2)⟩
theorem phi_grow (hR : Rel u v) {x b L : Int32} (h0 : 0 ≤ b.toInt) (h2 : b.toInt < (u.1 13 1).toInt) (hs : step (u.1 13 1).toInt.toNat (tD u) (fun i => bt x i = true) b.toNatClampNeg L.toInt) : (0 ≤ L.toInt ∧ L.toInt ≤ 6) ∧ (phi (u.1 13 1).toInt.toNat (tD u) (fun i => bt x i = true) : Int) = L.toInt + phi (u.1 13 1).toInt.toNat (tD u) (fun i => bt (x ||| ((1 : Int32) <<< (b &&& 31))) i = true) := by
  have hC := hR.bC
  obtain ⟨a, ha, -, hd⟩ := hs.2.2.1
  have hr := tD_rng hR (i := a) (j := b.toNatClampNeg) (by omega) (nlt h2 h0)
  rw [hd] at hr
  refine ⟨hr, ?_⟩
  rw [phi_step (tD_sm u) hs hr.1 hr.2, phi_congr (S := fun i => bt (x ||| ((1 : Int32) <<< (b &&& 31))) i = true) (fun i _ => (grow x h0 (by omega) i).symm)]
theorem ct_L6 (hR : Rel u v) : ∀ (n : Nat) (x1 x2 x3 : Int32), 1 ≤ x3.toInt → x3.toInt ≤ (u.1 13 1).toInt → (u.1 13 1).toInt - x3.toInt < n → 1 ≤ n → bt x2 0 = true → (unr u x2 : Int) = (u.1 13 1).toInt - x3.toInt → (0 ≤ x1.toInt ∧ x1.toInt ≤ 6 * x3.toInt) →
    (k_Hall_leastTree_L6 u n x1 x2 x3).toInt = x1.toInt + phi (u.1 13 1).toInt.toNat (tD u) (fun i => bt x2 i = true) := by
  have hC := hR.bC
  intro n
  induction n with
  | zero => intro x y z h0 h1 h2 h3; exact absurd h3 (by decide)
  | succ n ih =>
    intro x1 x2 x3 g0 g1 g2 _ hb hu hx
    unfold k_Hall_leastTree_L6
    by_cases h : u.1 13 1 ≤ x3
    · have h2 := xq_le h rfl rfl
      rw [if_pos h, phi_end (fun i hi => Classical.byContradiction (fun g => cnt_none _ (show unr u x2 = 0 by omega) i hi g))]
      omega
    · have h2 := xq_nle h rfl rfl
      have e := inc (show 0 ≤ x3.toInt by omega) h2 (by omega)
      have h01 : (1 : Int32).toInt = 1 := rfl
      rw [if_neg h]
      obtain ⟨b, L, b0, b1, hs, he⟩ := ct_L27 hR (fun (z1 : Int32) (z2 : Int32) (z3 : Int32) => k_Hall_leastTree_L6 u n z1 z2 z3) x1 x2 x3 hb (unr_ex (by omega)) 7 0 7 1 (by decide) (by omega) (by decide) (fun e h3 h4 => absurd h4 (by omega)) (Or.inl ⟨rfl, fun e h3 h4 => absurd h4 (by omega)⟩)
      obtain ⟨hL, hp⟩ := phi_grow hR b0 b1 hs
      have hg := unr_grow (u := u) b0 (by omega) b1 hs.2.1
      have eL : (x1 + L).toInt = x1.toInt + L.toInt := xadd rfl rfl (by omega) (by omega)
      rw [he]
      show (k_Hall_leastTree_L6 u n _ _ _).toInt = _
      rw [ih _ _ _ (by omega) (by omega) (by omega) (by omega) ((grow x2 b0 (by omega) 0).mpr (Or.inl hb)) (by omega) (by omega), hp, eL]
      omega
/-- the model's search: all pairs ahead of (a, e) are seen -/
def tI (u : xU) (x1 : Int32) (p : Nat → Nat → Prop) (y4 y5 : Int32) : Prop :=
  (∀ a e : Nat, (a : Int) < (u.1 13 1).toInt → (e : Int) < (u.1 13 1).toInt → p a e → bt x1 a = true → ¬ bt x1 e = true → y4.toInt ≤ tD u a e) ∧
  ((y4 = 99 ∧ ∀ a e : Nat, (a : Int) < (u.1 13 1).toInt → (e : Int) < (u.1 13 1).toInt → p a e → bt x1 a = true → ¬ bt x1 e = true → False) ∨ (0 ≤ y5.toInt ∧ y5.toInt < (u.1 13 1).toInt ∧ ¬ bt x1 y5.toNatClampNeg = true ∧ ∃ a : Nat, (a : Int) < (u.1 13 1).toInt ∧ bt x1 a = true ∧ y4.toInt = tD u a y5.toNatClampNeg))
theorem tI.mono {u : xU} {x1 y4 y5 : Int32} {p q : Nat → Nat → Prop} (h : tI u x1 p y4 y5) (hpq : ∀ a e : Nat, (a : Int) < (u.1 13 1).toInt → (e : Int) < (u.1 13 1).toInt → bt x1 a = true → ¬ bt x1 e = true → q a e → p a e) : tI u x1 q y4 y5 :=
  ⟨fun a e h1 h2 h3 h4 h5 => h.1 a e h1 h2 (hpq a e h1 h2 h4 h5 h3) h4 h5, h.2.imp (fun g => ⟨g.1, fun a e h1 h2 h3 h4 h5 => g.2 a e h1 h2 (hpq a e h1 h2 h4 h5 h3) h4 h5⟩) id⟩
theorem mt_L36 (hR : Rel u v) (kk : Int32 → Int32 → Int32 → Int32) (x1 x2 x3 x6 : Int32) (h60 : 0 ≤ x6.toInt) (h61 : x6.toInt < (u.1 13 1).toInt) : ∀ (n : Nat) (x4 x5 x7 : Int32), 0 ≤ x7.toInt → (u.1 13 1).toInt - x7.toInt < n → 1 ≤ n →
    tI u x1 (fun a e => (a : Int) < x6.toInt ∨ ((a : Int) = x6.toInt ∧ (e : Int) < x7.toInt)) x4 x5 →
    ∃ y4 y5 : Int32, tI u x1 (fun a _ => (a : Int) < x6.toInt + 1) y4 y5 ∧ m_tree_L36 kk v x1 x2 x3 x6 n x4 x5 x7 = kk y4 y5 (x6 + 1) := by
  have hC := hR.bC
  intro n
  induction n with
  | zero => intro x y z h0 h1 h2; exact absurd h2 (by decide)
  | succ n ih =>
    intro x4 x5 x7 g1 g2 _ hI
    unfold m_tree_L36
    rw [← hR.C]
    have hx6 : (x6.toNatClampNeg : Int) = x6.toInt := by show ((x6.toInt.toNat : Nat) : Int) = _; omega
    by_cases h : u.1 13 1 ≤ x7
    · have h2 := xq_le h rfl rfl
      rw [if_pos h]
      exact ⟨x4, x5, hI.mono (fun a e h1 h3 _ _ h4 => by omega), rfl⟩
    · have h2 := xq_nle h rfl rfl
      have e := inc g1 h2 (by omega)
      have hy : (x7.toNatClampNeg : Int) = x7.toInt := by show ((x7.toInt.toNat : Nat) : Int) = _; omega
      rw [if_neg h, mhas, has_bt _ h60 (by omega), has_bt _ g1 (by omega), hR.between h60 h61 g1 h2]
      have skip : (∀ _ : bt x1 x6.toNatClampNeg = true, ¬ bt x1 x7.toNatClampNeg = true → False) → tI u x1 (fun a e => (a : Int) < x6.toInt ∨ ((a : Int) = x6.toInt ∧ (e : Int) < (x7 + 1).toInt)) x4 x5 := fun hn => hI.mono (fun a e h1 h3 h4 h5 h6 => by
        rcases h6 with h6 | ⟨h6, h7⟩
        · exact Or.inl h6
        · by_cases he : (e : Int) < x7.toInt
          · exact Or.inr ⟨h6, he⟩
          · have ea : a = x6.toNatClampNeg := by omega
            have ee : e = x7.toNatClampNeg := by omega
            subst ea; subst ee
            exact (hn h4 h5).elim)
      by_cases hb : b2i (bt x1 x6.toNatClampNeg) = 0
      · rw [if_pos hb]
        exact ih _ _ _ (by omega) (by omega) (by omega) (skip (fun g => absurd g (by rw [b2i_0.mp hb]; decide)))
      · have hb' : bt x1 x6.toNatClampNeg = true := Bool.of_not_eq_false (fun g => hb (b2i_0.mpr g))
        rw [if_neg hb]
        by_cases hc : b2i (bt x1 x7.toNatClampNeg) = 0
        · have hc' : ¬ bt x1 x7.toNatClampNeg = true := by rw [b2i_0.mp hc]; decide
          rw [if_pos hc]
          have ed := tD_at u h60 g1
          by_cases hl : x4 ≤ k_Hall_unlikeParts u x6 x7
          · have hl' := xq_le hl rfl rfl
            rw [if_pos hl]
            refine ih _ _ _ (by omega) (by omega) (by omega) ⟨fun a e h1 h3 h6 h4 h5 => ?_, ?_⟩
            · by_cases he : (a : Int) < x6.toInt ∨ ((a : Int) = x6.toInt ∧ (e : Int) < x7.toInt)
              · exact hI.1 a e h1 h3 he h4 h5
              · have ea : a = x6.toNatClampNeg := by omega
                have ee : e = x7.toNatClampNeg := by omega
                rw [ea, ee]; omega
            · rcases hI.2 with ⟨hF, -⟩ | hF
              · have h99 : (99 : Int32).toInt = 99 := rfl
                have := tD_rng hR (nlt h61 h60) (nlt h2 g1)
                rw [hF] at hl'
                omega
              · exact Or.inr hF
          · have hl' := xq_nle hl rfl rfl
            rw [if_neg hl]
            refine ih _ _ _ (by omega) (by omega) (by omega) ⟨fun a e h1 h3 h6 h4 h5 => ?_, Or.inr ⟨g1, h2, hc', x6.toNatClampNeg, by omega, hb', ed⟩⟩
            by_cases he : (a : Int) < x6.toInt ∨ ((a : Int) = x6.toInt ∧ (e : Int) < x7.toInt)
            · have := hI.1 a e h1 h3 he h4 h5; omega
            · have ea : a = x6.toNatClampNeg := by omega
              have ee : e = x7.toNatClampNeg := by omega
              rw [ea, ee]; omega
        · have hc' : bt x1 x7.toNatClampNeg = true := Bool.of_not_eq_false (fun g => hc (b2i_0.mpr g))
          rw [if_neg hc]
          exact ih _ _ _ (by omega) (by omega) (by omega) (skip (fun _ g => g hc'))
theorem mt_L24 (hR : Rel u v) (kk : Int32 → Int32 → Int32 → Int32) (x1 x2 x3 : Int32) (h0 : bt x1 0 = true) (hex : ∃ e : Nat, (e : Int) < (u.1 13 1).toInt ∧ ¬ bt x1 e = true) : ∀ (n : Nat) (x4 x5 x6 : Int32), 0 ≤ x6.toInt → (u.1 13 1).toInt - x6.toInt < n → 1 ≤ n →
    tI u x1 (fun a _ => (a : Int) < x6.toInt) x4 x5 →
    ∃ b L : Int32, 0 ≤ b.toInt ∧ b.toInt < (u.1 13 1).toInt ∧ step (u.1 13 1).toInt.toNat (tD u) (fun i => bt x1 i = true) b.toNatClampNeg L.toInt ∧ m_tree_L24 kk v x1 x2 x3 n x4 x5 x6 = kk (x1 ||| ((1 : Int32) <<< (b &&& 31))) (x2 + L) (x3 + 1) := by
  have hC := hR.bC
  have h00 : (0 : Int32).toInt = 0 := rfl
  intro n
  induction n with
  | zero => intro x y z h0 h1 h2; exact absurd h2 (by decide)
  | succ n ih =>
    intro x4 x5 x6 g1 g2 _ hI
    unfold m_tree_L24
    rw [← hR.C]
    by_cases h : u.1 13 1 ≤ x6
    · have h2 := xq_le h rfl rfl
      rw [if_pos h]
      obtain ⟨e, he, hne⟩ := hex
      rcases hI.2 with ⟨-, hF⟩ | ⟨f0, f1, f2, a, f3, f4, f5⟩
      · exact (hF 0 e (by omega) he (by omega) h0 hne).elim
      · have hx5 : (x5.toNatClampNeg : Int) = x5.toInt := by show ((x5.toInt.toNat : Nat) : Int) = _; omega
        exact ⟨x5, x4, f0, f1, ⟨by omega, f2, ⟨a, by omega, f4, f5.symm⟩, fun a e ha he hRa hRe => hI.1 a e (by omega) (by omega) (by omega) hRa hRe⟩, rfl⟩
    · have h2 := xq_nle h rfl rfl
      have e := inc g1 h2 (by omega)
      rw [if_neg h]
      obtain ⟨y4, y5, hJ, hE⟩ := mt_L36 hR (fun (z4 : Int32) (z5 : Int32) (z6 : Int32) => m_tree_L24 kk v x1 x2 x3 n z4 z5 z6) x1 x2 x3 x6 g1 h2 7 x4 x5 0 (by decide) (by omega) (by decide) (hI.mono (fun a e h1 h3 _ _ h4 => by omega))
      rw [hE]
      exact ih y4 y5 (x6 + 1) (by omega) (by omega) (by omega) (hJ.mono (fun a e h1 h3 _ _ h4 => by omega))
theorem mt_L6 (hR : Rel u v) : ∀ (n : Nat) (x1 x2 x3 : Int32), 1 ≤ x3.toInt → x3.toInt ≤ (u.1 13 1).toInt → (u.1 13 1).toInt - x3.toInt < n → 1 ≤ n → bt x1 0 = true → (unr u x1 : Int) = (u.1 13 1).toInt - x3.toInt → (0 ≤ x2.toInt ∧ x2.toInt ≤ 6 * x3.toInt) →
    (m_tree_L6 v n x1 x2 x3).toInt = x2.toInt + phi (u.1 13 1).toInt.toNat (tD u) (fun i => bt x1 i = true) := by
  have hC := hR.bC
  have h00 : (0 : Int32).toInt = 0 := rfl
  intro n
  induction n with
  | zero => intro x y z h0 h1 h2 h3; exact absurd h3 (by decide)
  | succ n ih =>
    intro x1 x2 x3 g0 g1 g2 _ hb hu hx
    unfold m_tree_L6
    rw [← hR.C]
    by_cases h : u.1 13 1 ≤ x3
    · have h2 := xq_le h rfl rfl
      rw [if_pos h, phi_end (fun i hi => Classical.byContradiction (fun g => cnt_none _ (show unr u x1 = 0 by omega) i hi g))]
      omega
    · have h2 := xq_nle h rfl rfl
      have e := inc (show 0 ≤ x3.toInt by omega) h2 (by omega)
      rw [if_neg h]
      obtain ⟨b, L, b0, b1, hs, he⟩ := mt_L24 hR (fun (z1 : Int32) (z2 : Int32) (z3 : Int32) => m_tree_L6 v n z1 z2 z3) x1 x2 x3 hb (unr_ex (by omega)) 7 99 0 0 (by decide) (by omega) (by decide) ⟨fun a e _ _ h4 => absurd h4 (by omega), Or.inl ⟨rfl, fun a e _ _ h4 => absurd h4 (by omega)⟩⟩
      obtain ⟨hL, hp⟩ := phi_grow hR b0 b1 hs
      have hg := unr_grow (u := u) b0 (by omega) b1 hs.2.1
      have eL : (x2 + L).toInt = x2.toInt + L.toInt := xadd rfl rfl (by omega) (by omega)
      rw [he]
      show (m_tree_L6 v n _ _ _).toInt = _
      rw [ih _ _ _ (by omega) (by omega) (by omega) (by omega) ((grow x1 b0 (by omega) 0).mpr (Or.inl hb)) (by omega) (by omega), hp, eL]
      omega
theorem unr_1 (n : Nat) : cnt (fun i => ¬ bt (1 : Int32) i = true) (n + 1) = n := by
  have hb : ∀ i, bt (1 : Int32) i = true ↔ i = 0 := fun i => by
    rw [show (1 : Int32) = (1 : Int32) <<< ((0 : Int32) &&& 31) from by decide, bt_sh (by decide) (by decide), decide_eq_true_eq]
    exact Iff.rfl
  induction n with
  | zero => unfold cnt cnt; rw [if_neg (fun h => h ((hb 0).mpr rfl))]
  | succ n ih => unfold cnt; rw [ih, if_pos (fun h => absurd ((hb _).mp h) (by omega))]
theorem tree_eq (hR : Rel u v) : k_Hall_leastTree u = m_tree v := by
  have hC := hR.bC
  have h01 : (1 : Int32).toInt = 1 := rfl
  have h00 : (0 : Int32).toInt = 0 := rfl
  unfold k_Hall_leastTree m_tree
  by_cases h : u.1 13 1 ≤ 1
  · unfold k_Hall_leastTree_L6 m_tree_L6
    rw [← hR.C, if_pos h, if_pos h]
  · have h2 := xq_nle h rfl rfl
    have hu : (unr u 1 : Int) = (u.1 13 1).toInt - (1 : Int32).toInt := by
      unfold unr
      rw [show (u.1 13 1).toInt.toNat = ((u.1 13 1).toInt.toNat - 1) + 1 by omega, unr_1]
      omega
    have hb : bt (1 : Int32) 0 = true := by decide
    refine Int32.toInt_inj.mp ?_
    rw [ct_L6 hR 7 0 1 1 (by decide) (by omega) (by omega) (by decide) hb hu (by decide), mt_L6 hR 7 1 0 1 (by decide) (by omega) (by omega) (by decide) hb hu (by decide)]
theorem s_now : St_now Rel := by
  intro u v p1 hR
  refine ⟨⟨hR.bT, hR.bC⟩, ⟨hR.mT, hR.mC⟩, ?_, hR⟩
  unfold k_now m_now
  rw [hR.inClass, hR.learnt, tree_eq hR, ← hR.night, ← hR.broken]
end TR
