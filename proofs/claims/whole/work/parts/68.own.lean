/-! ===== PURE: own ===== -/
def gL (T F s : Int32) (f : Nat → Int32) (b : Nat) : Nat → Int32 → Int32 → Int32
  | 0, _, _ => 0
  | n + 1, x, y => if T ≤ y then x else (if b2i (k_has F y) = (0 : Int32) then gL T F s f b n x (y + (1 : Int32)) else gL T F s f b n (if x < (1 : Int32) + f (b + (s ||| ((1 : Int32) <<< (y &&& 31))).toNatClampNeg) then (1 : Int32) + f (b + (s ||| ((1 : Int32) <<< (y &&& 31))).toNatClampNeg) else x) (y + (1 : Int32)))
theorem gL_congr {T F s : Int32} {f f' : Nat → Int32} {b : Nat} (hT : 0 ≤ T.toInt ∧ T.toInt ≤ 8) (hs : 0 ≤ s.toInt ∧ s.toInt < 2 ^ T.toInt.toNat) (hf : ∀ k : Int32, 0 ≤ k.toInt → k.toInt < 2 ^ T.toInt.toNat → f (b + k.toNatClampNeg) = f' (b + k.toNatClampNeg)) : ∀ (n : Nat) (x y : Int32), 0 ≤ y.toInt → gL T F s f b n x y = gL T F s f' b n x y := by
  intro n
  induction n with
  | zero => intro x y _; rfl
  | succ n ih =>
    intro x y hy
    unfold gL
    by_cases h : T ≤ y
    · rw [if_pos h, if_pos h]
    · have h2 := xq_nle h rfl rfl
      have e := inc hy h2 (by omega)
      have hm := mask_set (x := s) (c := y) (n := T.toInt.toNat) (by omega) hs.1 hs.2 hy (by omega)
      rw [if_neg h, if_neg h, hf _ hm.1 hm.2, ih _ _ (by omega), ih _ _ (by omega)]
theorem gL_rng {T F s : Int32} {f : Nat → Int32} {b : Nat} {m : Int} (hT : 0 ≤ T.toInt ∧ T.toInt ≤ 8) (hs : 0 ≤ s.toInt ∧ s.toInt < 2 ^ T.toInt.toNat) (hm : 0 ≤ m ∧ m ≤ 6) (hf : ∀ k : Int32, 0 ≤ k.toInt → k.toInt < 2 ^ T.toInt.toNat → 0 ≤ (f (b + k.toNatClampNeg)).toInt ∧ (f (b + k.toNatClampNeg)).toInt ≤ m) : ∀ (n : Nat) (x y : Int32), 0 ≤ y.toInt → 0 ≤ x.toInt → x.toInt ≤ m + 1 → 0 ≤ (gL T F s f b n x y).toInt ∧ (gL T F s f b n x y).toInt ≤ m + 1 := by
  intro n
  induction n with
  | zero => intro x y _ _ _; show 0 ≤ (0 : Int32).toInt ∧ (0 : Int32).toInt ≤ m + 1; have : (0 : Int32).toInt = 0 := rfl; omega
  | succ n ih =>
    intro x y hy x0 x1
    unfold gL
    by_cases h : T ≤ y
    · rw [if_pos h]; exact ⟨x0, x1⟩
    · have h2 := xq_nle h rfl rfl
      have e := inc hy h2 (by omega)
      have hms := mask_set (x := s) (c := y) (n := T.toInt.toNat) (by omega) hs.1 hs.2 hy (by omega)
      have hv := hf _ hms.1 hms.2
      rw [if_neg h]
      split
      · exact ih _ _ (by omega) x0 x1
      · have e1 : ((1 : Int32) + f (b + (s ||| ((1 : Int32) <<< (y &&& 31))).toNatClampNeg)).toInt = 1 + (f (b + (s ||| ((1 : Int32) <<< (y &&& 31))).toNatClampNeg)).toInt := xadd rfl rfl (by omega) (by omega)
        split
        · exact ih _ _ (by omega) (by omega) (by omega)
        · exact ih _ _ (by omega) x0 x1
theorem n256 {c s : Int32} (h0 : 0 ≤ c.toInt) (h1 : c.toInt ≤ 6) (g0 : 0 ≤ s.toInt) (g1 : s.toInt < 256) : ((c * (256 : Int32)) + s).toNatClampNeg = 256 * c.toNatClampNeg + s.toNatClampNeg := by
  have e1 : (c * 256).toInt = c.toInt * 256 := xmul rfl rfl (by omega) (by omega)
  have e : ((c * 256) + s).toInt = c.toInt * 256 + s.toInt := xadd e1 rfl (by omega) (by omega)
  show ((c * 256) + s).toInt.toNat = 256 * c.toInt.toNat + s.toInt.toNat
  rw [e]; omega
theorem n256m {c s : Int32} (h0 : 0 ≤ c.toInt) (h1 : c.toInt ≤ 6) (g0 : 0 ≤ s.toInt) (g1 : s.toInt < 256) : (((256 : Int32) * c) + s).toNatClampNeg = 256 * c.toNatClampNeg + s.toNatClampNeg := by
  have e1 : ((256 : Int32) * c).toInt = 256 * c.toInt := xmul rfl rfl (by omega) (by omega)
  have e : (((256 : Int32) * c) + s).toInt = 256 * c.toInt + s.toInt := xadd e1 rfl (by omega) (by omega)
  show (((256 : Int32) * c) + s).toInt.toNat = 256 * c.toInt.toNat + s.toInt.toNat
  rw [e]; omega
theorem cl_inc {c : Int32} (h0 : 0 ≤ c.toInt) (h1 : c.toInt < 1000) : (c + 1).toNatClampNeg = c.toNatClampNeg + 1 := by
  have e := inc h0 h1 (by decide)
  show (c + 1).toInt.toNat = c.toInt.toNat + 1
  omega
theorem clI {c : Int32} (h0 : 0 ≤ c.toInt) : ((c.toNatClampNeg : Nat) : Int) = c.toInt := by show ((c.toInt.toNat : Nat) : Int) = _; omega
section OW
variable {u v : xU}
theorem mostFrom_eq {w : xU} {c s : Int32} (hT : 0 ≤ (w.1 13 0).toInt ∧ (w.1 13 0).toInt ≤ 8) (hc : 0 ≤ c.toInt ∧ c.toInt < 6) (hs : 0 ≤ s.toInt ∧ s.toInt < 2 ^ (w.1 13 0).toInt.toNat) : k_Owners_mostFrom w c s = gL (w.1 13 0) (w.1 43 c.toNatClampNeg &&& (s ^^^ (-1 : Int32))) s (w.1 42) (256 * (c.toNatClampNeg + 1)) 9 (w.1 42 (256 * (c.toNatClampNeg + 1) + s.toNatClampNeg)) 0 := by
  have h8 := pow8 hT.1 hT.2
  have ec := inc hc.1 hc.2 (by decide)
  have en := cl_inc hc.1 (show c.toInt < 1000 by omega)
  have lp : ∀ (n : Nat) (F x y : Int32), 0 ≤ y.toInt → k_Owners_mostFrom_L33 w s ((c + (1 : Int32)) * (256 : Int32)) F n x y = gL (w.1 13 0) F s (w.1 42) (256 * (c.toNatClampNeg + 1)) n x y := by
    intro n
    induction n with
    | zero => intro F x y _; rfl
    | succ n ih =>
      intro F x y hy
      unfold k_Owners_mostFrom_L33 gL
      by_cases h : w.1 13 0 ≤ y
      · rw [if_pos h, if_pos h]
      · have h2 := xq_nle h rfl rfl
        have e := inc hy h2 (by omega)
        have hms := mask_set (x := s) (c := y) (n := (w.1 13 0).toInt.toNat) (by omega) hs.1 hs.2 hy (by omega)
        dsimp only
        rw [if_neg h, if_neg h, n256 (by omega) (by omega) hms.1 (by omega), en, ih _ _ _ (by omega), ih _ _ _ (by omega)]
  unfold k_Owners_mostFrom
  dsimp only
  rw [n256 (by omega) (by omega) hs.1 (by omega), en]
  exact lp _ _ _ _ (by decide)
theorem may_congr {w : xU} (hw : ∀ j, j ≠ 42 → j ≠ 43 → w.1 j = u.1 j) (c t : Int32) : k_Hall_may w c t = k_Hall_may u c t := by
  unfold k_Hall_may k_Hall_isBroken k_Hall_lacksPartOf
  rw [hw 21 (by decide) (by decide), hw 23 (by decide) (by decide), hw 17 (by decide) (by decide), hw 24 (by decide) (by decide), hw 16 (by decide) (by decide)]
theorem allMay_congr {w : xU} (hw : ∀ j, j ≠ 42 → j ≠ 43 → w.1 j = u.1 j) (c : Int32) : k_Hall_allItMay w c = k_Hall_allItMay u c := by
  have lp : ∀ (n : Nat) (x y : Int32), k_Hall_allItMay_L4 w c n x y = k_Hall_allItMay_L4 u c n x y := by
    intro n
    induction n with
    | zero => intro x y; rfl
    | succ n ih =>
      intro x y
      unfold k_Hall_allItMay_L4
      rw [hw 13 (by decide) (by decide), may_congr hw, ih, ih]
  exact lp _ _ _
theorem mmay_congr {z : xU} (hz : ∀ j, j ≠ 19 → z.1 j = v.1 j) (c t : Int32) : m_may z c t = m_may v c t := by
  unfold m_may m_isBroken m_can m_hasPart
  rw [hz 7 (by decide), hz 4 (by decide), hz 3 (by decide)]
theorem allMay_bt_L (hT : 0 ≤ (u.1 13 0).toInt ∧ (u.1 13 0).toInt ≤ 8) (c : Int32) (i : Nat) : ∀ (n : Nat) (x y : Int32), 0 ≤ y.toInt → (u.1 13 0).toInt - y.toInt < n → 1 ≤ n → (bt (k_Hall_allItMay_L4 u c n x y) i = true ↔ bt x i = true ∨ (y.toInt ≤ i ∧ (i : Int) < (u.1 13 0).toInt ∧ k_Hall_may u c (nI i) = true)) := by
  intro n
  induction n with
  | zero => intro x y h0 h1 h2; exact absurd h2 (by decide)
  | succ n ih =>
    intro x y h0 h1 _
    unfold k_Hall_allItMay_L4
    by_cases h : u.1 13 0 ≤ y
    · have h2 := xq_le h rfl rfl
      rw [if_pos h]
      exact ⟨Or.inl, fun g => g.elim id (fun g => absurd g.2.1 (by omega))⟩
    · have h2 := xq_nle h rfl rfl
      have e := inc h0 h2 (by omega)
      have hy := clI h0
      have hny : nI y.toNatClampNeg = y := (nI_ofc h0).symm
      rw [if_neg h]
      by_cases hb : b2i (k_Hall_may u c y) = 0
      · rw [if_pos hb, ih _ _ (by omega) (by omega) (by omega)]
        refine or_congr_right ⟨fun g => ⟨by omega, g.2⟩, fun g => ⟨?_, g.2⟩⟩
        rcases Int.lt_or_eq_of_le g.1 with g1 | g1
        · omega
        · have : i = y.toNatClampNeg := by omega
          rw [this, hny, b2i_0.mp hb] at g
          exact absurd g.2.2 (by decide)
      · rw [if_neg hb, ih _ _ (by omega) (by omega) (by omega), bt_or, Bool.or_eq_true, bt_sh h0 (by omega), decide_eq_true_eq, or_assoc]
        refine or_congr_right ⟨fun g => ?_, fun g => ?_⟩
        · rcases g with g | g
          · subst g
            exact ⟨by omega, by omega, by rw [hny]; exact Bool.of_not_eq_false (fun g => hb (b2i_0.mpr g))⟩
          · exact ⟨by omega, g.2⟩
        · rcases Int.lt_or_eq_of_le g.1 with g1 | g1
          · exact Or.inr ⟨by omega, g.2⟩
          · exact Or.inl (by omega)
theorem allMay_has (hT : 0 ≤ (u.1 13 0).toInt ∧ (u.1 13 0).toInt ≤ 8) (c : Int32) {y : Int32} (h0 : 0 ≤ y.toInt) (h1 : y.toInt < (u.1 13 0).toInt) : bt (k_Hall_allItMay u c) y.toNatClampNeg = k_Hall_may u c y := by
  have z : (0 : Int32).toInt = 0 := rfl
  rw [Bool.eq_iff_iff]
  unfold k_Hall_allItMay
  rw [allMay_bt_L hT c _ 9 0 0 (by decide) (by omega) (by decide), bt_0, ← nI_ofc h0]
  have hy := clI h0
  exact ⟨fun g => g.elim (fun g => absurd g (by decide)) (fun g => g.2.2), fun g => Or.inr ⟨by omega, by omega, g⟩⟩
theorem lay69 (hR : Rel u v) (kk : Int32 → xU → xU) {z : xU} (hz : ∀ j, j ≠ 19 → z.1 j = v.1 j) {c s : Int32} (h0 : 0 ≤ c.toInt) (h1 : c.toInt < (u.1 13 1).toInt) (g0 : 0 ≤ s.toInt) (g1 : s.toInt < 256) {m : Int} (hm : 0 ≤ m ∧ m ≤ 6) : ∀ (n : Nat) (x y : Int32), 0 ≤ y.toInt → (u.1 13 0).toInt - y.toInt < n → 1 ≤ n →
    ∃ V : Int32, m_layMost_L69 kk z c s n x y = kk (s + 1) (sp z 19 (upd (z.1 19) (256 * c.toNatClampNeg + s.toNatClampNeg) V)) ∧ (s.toInt < 2 ^ (u.1 13 0).toInt.toNat → (∀ k : Int32, 0 ≤ k.toInt → k.toInt < 2 ^ (u.1 13 0).toInt.toNat → 0 ≤ (z.1 19 (256 * (c.toNatClampNeg + 1) + k.toNatClampNeg)).toInt ∧ (z.1 19 (256 * (c.toNatClampNeg + 1) + k.toNatClampNeg)).toInt ≤ m) → 0 ≤ x.toInt → x.toInt ≤ m + 1 → V = gL (u.1 13 0) (k_Hall_allItMay u c &&& (s ^^^ (-1 : Int32))) s (z.1 19) (256 * (c.toNatClampNeg + 1)) n x y) := by
  have hT := hR.bT
  have hC := hR.bC
  have h8 := pow8 hT.1 hT.2
  have ec := inc h0 h1 (by omega)
  have en := cl_inc h0 (show c.toInt < 1000 by omega)
  intro n
  induction n with
  | zero => intro x y a b d; exact absurd d (by decide)
  | succ n ih =>
    intro x y y0 y1 _
    unfold m_layMost_L69
    rw [hz 0 (by decide), ← hR.T]
    by_cases h : u.1 13 0 ≤ y
    · rw [if_pos h]
      dsimp only
      rw [n256m h0 (by omega) g0 g1]
      refine ⟨x, rfl, fun _ _ _ _ => ?_⟩
      unfold gL
      rw [if_pos h]
    · have h2 := xq_nle h rfl rfl
      have e := inc y0 h2 (by omega)
      have hmk := mask_set (x := s) (c := y) (n := 8) (by decide) g0 (by omega) y0 (by omega)
      have hF : k_has (k_Hall_allItMay u c &&& (s ^^^ (-1 : Int32))) y = (k_Hall_may u c y && !bt s y.toNatClampNeg) := by
        rw [has_bt _ y0 (by omega), bt_and, allMay_has hT c y0 h2, bt_not _ (by have := clI y0; omega)]
      rw [if_neg h, mmay_congr hz, hR.may h0 h1 y0 h2, mhas, has_bt _ y0 (by omega)]
      dsimp only
      rw [n256m (by omega) (by omega) hmk.1 (by omega), en]
      have stay : (k_Hall_may u c y && !bt s y.toNatClampNeg) = false → ∃ V : Int32, (if (0 : Int32) ≤ x then m_layMost_L69 kk z c s n x (y + 1) else m_layMost_L69 kk z c s n 0 (y + 1)) = kk (s + 1) (sp z 19 (upd (z.1 19) (256 * c.toNatClampNeg + s.toNatClampNeg) V)) ∧ (s.toInt < 2 ^ (u.1 13 0).toInt.toNat → (∀ k : Int32, 0 ≤ k.toInt → k.toInt < 2 ^ (u.1 13 0).toInt.toNat → 0 ≤ (z.1 19 (256 * (c.toNatClampNeg + 1) + k.toNatClampNeg)).toInt ∧ (z.1 19 (256 * (c.toNatClampNeg + 1) + k.toNatClampNeg)).toInt ≤ m) → 0 ≤ x.toInt → x.toInt ≤ m + 1 → V = gL (u.1 13 0) (k_Hall_allItMay u c &&& (s ^^^ (-1 : Int32))) s (z.1 19) (256 * (c.toNatClampNeg + 1)) (n + 1) x y) := by
        intro hst
        by_cases hx : (0 : Int32) ≤ x
        · obtain ⟨V, e1, e2⟩ := ih x (y + 1) (by omega) (by omega) (by omega)
          refine ⟨V, by rw [if_pos hx]; exact e1, fun a b d f => ?_⟩
          unfold gL
          rw [if_neg h, hF, hst, if_pos bf0]
          exact e2 a b d f
        · obtain ⟨V, e1, e2⟩ := ih 0 (y + 1) (by omega) (by omega) (by omega)
          refine ⟨V, by rw [if_neg hx]; exact e1, fun a b d f => absurd (Int32.le_iff_toInt_le.mpr (show (0 : Int32).toInt ≤ x.toInt from d)) hx⟩
      cases hmay : k_Hall_may u c y with
      | false =>
        rw [if_pos bf0]
        exact stay (by rw [hmay]; rfl)
      | true =>
        rw [if_neg (show ¬ b2i true = (0 : Int32) by decide)]
        cases hbs : bt s y.toNatClampNeg with
        | true =>
          rw [if_neg (show ¬ b2i true = (0 : Int32) by decide)]
          exact stay (by rw [hmay, hbs]; rfl)
        | false =>
          rw [if_pos bf0]
          have hgo : ¬ b2i (k_has (k_Hall_allItMay u c &&& (s ^^^ (-1 : Int32))) y) = (0 : Int32) := by rw [hF, hmay, hbs]; decide
          by_cases hx : (1 : Int32) + z.1 19 (256 * (c.toNatClampNeg + 1) + (s ||| ((1 : Int32) <<< (y &&& 31))).toNatClampNeg) ≤ x
          · obtain ⟨V, e1, e2⟩ := ih x (y + 1) (by omega) (by omega) (by omega)
            refine ⟨V, by rw [if_pos hx]; exact e1, fun a b d f => ?_⟩
            unfold gL
            rw [if_neg h, if_neg hgo, if_neg (fun g => by have := xq_le hx rfl rfl; have := xq_lt g rfl rfl; omega)]
            exact e2 a b d f
          · obtain ⟨V, e1, e2⟩ := ih ((1 : Int32) + z.1 19 (256 * (c.toNatClampNeg + 1) + (s ||| ((1 : Int32) <<< (y &&& 31))).toNatClampNeg)) (y + 1) (by omega) (by omega) (by omega)
            refine ⟨V, by rw [if_neg hx]; exact e1, fun a b d f => ?_⟩
            have hms := mask_set (x := s) (c := y) (n := (u.1 13 0).toInt.toNat) (by omega) g0 a y0 (by omega)
            have hv := b _ hms.1 hms.2
            have ev : ((1 : Int32) + z.1 19 (256 * (c.toNatClampNeg + 1) + (s ||| ((1 : Int32) <<< (y &&& 31))).toNatClampNeg)).toInt = 1 + (z.1 19 (256 * (c.toNatClampNeg + 1) + (s ||| ((1 : Int32) <<< (y &&& 31))).toNatClampNeg)).toInt := xadd rfl rfl (by omega) (by omega)
            unfold gL
            rw [if_neg h, if_neg hgo, if_pos (Int32.lt_iff_toInt_lt.mpr (xq_nle hx rfl rfl))]
            exact e2 a b (by omega) (by omega)
theorem lay44 (hR : Rel u v) (kk : Int32 → xU → xU) {c : Int32} (h0 : 0 ≤ c.toInt) (h1 : c.toInt < (u.1 13 1).toInt) {m : Int} (hm : 0 ≤ m ∧ m ≤ 6) {r : Nat → Int32} (hr : ∀ k : Int32, 0 ≤ k.toInt → k.toInt < 2 ^ (u.1 13 0).toInt.toNat → 0 ≤ (r (256 * (c.toNatClampNeg + 1) + k.toNatClampNeg)).toInt ∧ (r (256 * (c.toNatClampNeg + 1) + k.toNatClampNeg)).toInt ≤ m) : ∀ (n : Nat) (x : Int32) (z : xU), 0 ≤ x.toInt → 256 - x.toInt < n → 1 ≤ n → (∀ j, j ≠ 19 → z.1 j = v.1 j) → (∀ k : Nat, 256 * c.toNatClampNeg + 256 ≤ k → z.1 19 k = r k) →
    ∃ Z : xU, m_layMost_L44 kk c n x z = kk (c + (-1 : Int32)) Z ∧ (∀ j, j ≠ 19 → Z.1 j = v.1 j) ∧ Z.2 = z.2 ∧ (∀ k : Nat, ((k : Int) < 256 * c.toNatClampNeg + x.toInt ∨ 256 * c.toNatClampNeg + 256 ≤ k) → Z.1 19 k = z.1 19 k) ∧ (∀ s : Int32, x.toInt ≤ s.toInt → s.toInt < 2 ^ (u.1 13 0).toInt.toNat → Z.1 19 (256 * c.toNatClampNeg + s.toNatClampNeg) = gL (u.1 13 0) (k_Hall_allItMay u c &&& (s ^^^ (-1 : Int32))) s r (256 * (c.toNatClampNeg + 1)) 9 (r (256 * (c.toNatClampNeg + 1) + s.toNatClampNeg)) 0) := by
  have hT := hR.bT
  have hC := hR.bC
  have h8 := pow8 hT.1 hT.2
  have ec := inc h0 h1 (by omega)
  have en := cl_inc h0 (show c.toInt < 1000 by omega)
  intro n
  induction n with
  | zero => intro x z a b d; exact absurd d (by decide)
  | succ n ih =>
    intro x z x0 x1 _ hz hzr
    unfold m_layMost_L44
    by_cases h : (256 : Int32) ≤ x
    · have h2 := xq_le h (a := 256) rfl rfl
      rw [if_pos h]
      exact ⟨z, rfl, hz, rfl, fun _ _ => rfl, fun s a b => absurd b (by omega)⟩
    · have h2 := xq_nle h (a := 256) rfl rfl
      have e := inc x0 h2 (by omega)
      have hx := clI x0
      rw [if_neg h]
      dsimp only
      rw [n256m (by omega) (by omega) x0 h2, en]
      obtain ⟨V, e1, e2⟩ := lay69 hR (fun (z2 : Int32) (zu : xU) => m_layMost_L44 kk c n z2 zu) hz h0 h1 x0 h2 hm 9 (z.1 19 (256 * (c.toNatClampNeg + 1) + x.toNatClampNeg)) 0 (by decide) (by have : (0 : Int32).toInt = 0 := rfl; omega) (by decide)
      rw [e1]
      obtain ⟨Z, i1, i2, i3, i4, i5⟩ := ih (x + 1) (sp z 19 (upd (z.1 19) (256 * c.toNatClampNeg + x.toNatClampNeg) V)) (by omega) (by omega) (by omega) (fun j hj => by rw [sp_ne hj]; exact hz j hj) (fun k hk => by rw [sp_eq, pk_un (by omega)]; exact hzr k hk)
      refine ⟨Z, i1, i2, i3, fun k hk => ?_, fun s a b => ?_⟩
      · rw [i4 k (by omega), sp_eq, pk_un (by omega)]
      · by_cases hs : s.toInt = x.toInt
        · have hsx : s = x := Int32.toInt_inj.mp hs
          rw [hsx, i4 _ (by omega), sp_eq, pk_us]
          have hrow : ∀ k : Int32, 0 ≤ k.toInt → k.toInt < 2 ^ (u.1 13 0).toInt.toNat → z.1 19 (256 * (c.toNatClampNeg + 1) + k.toNatClampNeg) = r (256 * (c.toNatClampNeg + 1) + k.toNatClampNeg) := fun k _ _ => hzr _ (by omega)
          have hxv := hrow x x0 (by omega)
          have hxr := hr x x0 (by omega)
          rw [e2 (by omega) (fun k a b => by rw [hrow k a b]; exact hr k a b) (by rw [hxv]; exact hxr.1) (by rw [hxv]; omega), hxv]
          exact gL_congr hT ⟨x0, by omega⟩ hrow 9 _ 0 (by decide)
        · exact i5 s (by omega) b
theorem wei75 (hR : Rel u v) (kk : Int32 → xU → xU) {c : Int32} (h0 : 0 ≤ c.toInt) (h1 : c.toInt < (u.1 13 1).toInt) {r : Nat → Int32} : ∀ (n : Nat) (x : Int32) (w : xU), 0 ≤ x.toInt → 256 - x.toInt < n → 1 ≤ n → (∀ j, j ≠ 42 → j ≠ 43 → w.1 j = u.1 j) → w.1 43 c.toNatClampNeg = k_Hall_allItMay u c → (∀ k : Nat, 256 * c.toNatClampNeg + 256 ≤ k → w.1 42 k = r k) →
    ∃ W : xU, k_Owners_weigh_L75 kk ((1 : Int32) <<< ((u.1 13 0) &&& 31)) c n x w = kk (c + (-1 : Int32)) W ∧ (∀ j, j ≠ 42 → W.1 j = w.1 j) ∧ W.2 = w.2 ∧ (∀ k : Nat, ((k : Int) < 256 * c.toNatClampNeg + x.toInt ∨ 256 * c.toNatClampNeg + 256 ≤ k) → W.1 42 k = w.1 42 k) ∧ (∀ s : Int32, x.toInt ≤ s.toInt → s.toInt < 2 ^ (u.1 13 0).toInt.toNat → W.1 42 (256 * c.toNatClampNeg + s.toNatClampNeg) = gL (u.1 13 0) (k_Hall_allItMay u c &&& (s ^^^ (-1 : Int32))) s r (256 * (c.toNatClampNeg + 1)) 9 (r (256 * (c.toNatClampNeg + 1) + s.toNatClampNeg)) 0) := by
  have hT := hR.bT
  have hC := hR.bC
  have h8 := pow8 hT.1 hT.2
  intro n
  induction n with
  | zero => intro x w a b d; exact absurd d (by decide)
  | succ n ih =>
    intro x w x0 x1 _ hw h43 hwr
    unfold k_Owners_weigh_L75
    by_cases h : (1 : Int32) <<< (u.1 13 0 &&& 31) ≤ x
    · have h2 := xq_le h (pow_sh hT.1 hT.2) rfl
      rw [if_pos h]
      exact ⟨w, rfl, fun _ _ => rfl, rfl, fun _ _ => rfl, fun s a b => absurd b (by omega)⟩
    · have h2 := xq_nle h (pow_sh hT.1 hT.2) rfl
      have e := inc x0 h2 (by omega)
      have hx := clI x0
      have e13 : w.1 13 = u.1 13 := hw 13 (by decide) (by decide)
      rw [if_neg h]
      dsimp only
      rw [n256 h0 (by omega) x0 (by omega), mostFrom_eq (by rw [e13]; exact hT) ⟨h0, by omega⟩ ⟨x0, by rw [e13]; exact h2⟩, e13, h43]
      generalize hV : gL (u.1 13 0) (k_Hall_allItMay u c &&& (x ^^^ (-1 : Int32))) x (w.1 42) (256 * (c.toNatClampNeg + 1)) 9 (w.1 42 (256 * (c.toNatClampNeg + 1) + x.toNatClampNeg)) 0 = V
      obtain ⟨W, i1, i2, i3, i4, i5⟩ := ih (x + 1) (sp w 42 (upd (w.1 42) (256 * c.toNatClampNeg + x.toNatClampNeg) V)) (by omega) (by omega) (by omega) (fun j a b => by rw [sp_ne a]; exact hw j a b) (by rw [sp_ne (by decide)]; exact h43) (fun k hk => by rw [sp_eq, pk_un (by omega)]; exact hwr k hk)
      refine ⟨W, i1, fun j hj => by rw [i2 j hj, sp_ne hj], i3, fun k hk => ?_, fun s a b => ?_⟩
      · rw [i4 k (by omega), sp_eq, pk_un (by omega)]
      · by_cases hs : s.toInt = x.toInt
        · have hsx : s = x := Int32.toInt_inj.mp hs
          have hrow : ∀ k : Int32, 0 ≤ k.toInt → k.toInt < 2 ^ (u.1 13 0).toInt.toNat → w.1 42 (256 * (c.toNatClampNeg + 1) + k.toNatClampNeg) = r (256 * (c.toNatClampNeg + 1) + k.toNatClampNeg) := fun k _ _ => hwr _ (by omega)
          rw [hsx, i4 _ (by omega), sp_eq, pk_us, ← hV, hrow x x0 h2]
          exact gL_congr hT ⟨x0, h2⟩ hrow 9 _ 0 (by decide)
        · exact i5 s (by omega) b
/-- the tables, laid from the cast x on -/
def RW (u v : xU) (x : Int) (w z : xU) : Prop := (∀ j, j ≠ 42 → j ≠ 43 → w.1 j = u.1 j) ∧ (∀ j, j ≠ 19 → z.1 j = v.1 j) ∧ w.2 = u.2 ∧ z.2 = v.2 ∧ (∀ c : Nat, x ≤ c → (c : Int) < (u.1 13 1).toInt → w.1 43 c = k_Hall_allItMay u (nI c)) ∧
  (∀ (c : Nat) (s : Int32), x ≤ c → (c : Int) ≤ (u.1 13 1).toInt → 0 ≤ s.toInt → s.toInt < 2 ^ (u.1 13 0).toInt.toNat → w.1 42 (256 * c + s.toNatClampNeg) = z.1 19 (256 * c + s.toNatClampNeg) ∧ 0 ≤ (z.1 19 (256 * c + s.toNatClampNeg)).toInt ∧ (z.1 19 (256 * c + s.toNatClampNeg)).toInt ≤ (u.1 13 1).toInt - c)
theorem rows_L (hR : Rel u v) : ∀ (n : Nat) (x : Int32) (w z : xU), -1 ≤ x.toInt → x.toInt < (u.1 13 1).toInt → x.toInt + 1 < n → RW u v (x.toInt + 1) w z → RW u v 0 (k_Owners_weigh_L54 ((1 : Int32) <<< ((u.1 13 0) &&& 31)) n x w) (m_layMost_L38 n x z) := by
  have hT := hR.bT
  have hC := hR.bC
  have h8 := pow8 hT.1 hT.2
  intro n
  induction n with
  | zero => intro x w z a b d; exact absurd d (by omega)
  | succ n ih =>
    intro x w z x0 x1 x2 hw
    unfold k_Owners_weigh_L54 m_layMost_L38
    by_cases h : x < 0
    · have h2 := xq_lt h rfl (b := 0) rfl
      rw [if_pos h, if_pos h]
      have e : x.toInt + 1 = 0 := by omega
      rw [e] at hw
      exact hw
    · have h2 := xq_nlt h rfl (b := 0) rfl
      have ed := dec h2
      have hxn := clI h2
      obtain ⟨w1, w2, w3, w4, w5, w6⟩ := hw
      rw [if_neg h, if_neg h]
      dsimp only
      rw [allMay_congr w1]
      obtain ⟨W, a1, a2, a3, a4, a5⟩ := wei75 hR (fun (z3 : Int32) (zu : xU) => k_Owners_weigh_L54 ((1 : Int32) <<< ((u.1 13 0) &&& 31)) n z3 zu) h2 x1 (r := w.1 42) 257 0 (sp w 43 (upd (w.1 43) x.toNatClampNeg (k_Hall_allItMay u x))) (by decide) (by decide) (by decide) (fun j p q => by rw [sp_ne q]; exact w1 j p q) (by rw [sp_eq, pk_us]) (fun k _ => by rw [sp_ne (by decide)])
      have hrz : ∀ k : Int32, 0 ≤ k.toInt → k.toInt < 2 ^ (u.1 13 0).toInt.toNat → 0 ≤ (z.1 19 (256 * (x.toNatClampNeg + 1) + k.toNatClampNeg)).toInt ∧ (z.1 19 (256 * (x.toNatClampNeg + 1) + k.toNatClampNeg)).toInt ≤ (u.1 13 1).toInt - (x.toInt + 1) := fun k p q => by
        have := (w6 (x.toNatClampNeg + 1) k (by omega) (by omega) p q).2
        omega
      obtain ⟨Z, b1, b2, b3, b4, b5⟩ := lay44 hR (fun (z1 : Int32) (zu : xU) => m_layMost_L38 n z1 zu) h2 x1 (m := (u.1 13 1).toInt - (x.toInt + 1)) (by omega) (r := z.1 19) hrz 257 0 z (by decide) (by decide) (by decide) w2 (fun _ _ => rfl)
      rw [a1, b1]
      refine ih (x + (-1 : Int32)) W Z (by omega) (by omega) (by omega) ⟨fun j p q => by rw [a2 j p, sp_ne q]; exact w1 j p q, b2, by rw [a3]; exact w3, by rw [b3]; exact w4, fun c p q => ?_, fun c s p q p2 q2 => ?_⟩
      · rw [a2 43 (by decide), sp_eq]
        by_cases hc : c = x.toNatClampNeg
        · rw [hc, pk_us, ← nI_ofc h2]
        · rw [pk_un hc]; exact w5 c (by omega) q
      · have z0 : (0 : Int32).toInt = 0 := rfl
        by_cases hc : c = x.toNatClampNeg
        · rw [hc, a5 s (by omega) q2, b5 s (by omega) q2]
          have hrow : ∀ k : Int32, 0 ≤ k.toInt → k.toInt < 2 ^ (u.1 13 0).toInt.toNat → w.1 42 (256 * (x.toNatClampNeg + 1) + k.toNatClampNeg) = z.1 19 (256 * (x.toNatClampNeg + 1) + k.toNatClampNeg) := fun k p q => (w6 (x.toNatClampNeg + 1) k (by omega) (by omega) p q).1
          have hsr := hrz s p2 q2
          rw [hrow s p2 q2]
          refine ⟨gL_congr hT ⟨p2, q2⟩ hrow 9 _ 0 (by decide), ?_⟩
          have := gL_rng (F := k_Hall_allItMay u x &&& (s ^^^ (-1 : Int32))) (m := (u.1 13 1).toInt - (x.toInt + 1)) hT ⟨p2, q2⟩ (by omega) hrz 9 (z.1 19 (256 * (x.toNatClampNeg + 1) + s.toNatClampNeg)) 0 (by decide) hsr.1 (by omega)
          omega
        · have hs := clI p2
          have hlt : s.toNatClampNeg < 256 := by omega
          rw [a4 _ (by omega), b4 _ (by omega), sp_ne (by decide)]
          exact w6 c s (by omega) q p2 q2
theorem wei26 (hR : Rel u v) : ∀ (n : Nat) (x : Int32) (w : xU), 0 ≤ x.toInt → 256 - x.toInt < n → 1 ≤ n → ∃ W : xU, k_Owners_weigh_L26 (u.1 13 1) ((1 : Int32) <<< ((u.1 13 0) &&& 31)) n x w = k_Owners_weigh_L54 ((1 : Int32) <<< ((u.1 13 0) &&& 31)) 7 (u.1 13 1 - (1 : Int32)) W ∧ (∀ j, j ≠ 42 → W.1 j = w.1 j) ∧ W.2 = w.2 ∧ (∀ k : Nat, (k : Int) < 256 * (u.1 13 1).toNatClampNeg + x.toInt → W.1 42 k = w.1 42 k) ∧ (∀ s : Int32, x.toInt ≤ s.toInt → s.toInt < 2 ^ (u.1 13 0).toInt.toNat → W.1 42 (256 * (u.1 13 1).toNatClampNeg + s.toNatClampNeg) = 0) := by
  have hT := hR.bT
  have hC := hR.bC
  have h8 := pow8 hT.1 hT.2
  intro n
  induction n with
  | zero => intro x w a b d; exact absurd d (by decide)
  | succ n ih =>
    intro x w x0 x1 _
    unfold k_Owners_weigh_L26
    by_cases h : (1 : Int32) <<< (u.1 13 0 &&& 31) ≤ x
    · have h2 := xq_le h (pow_sh hT.1 hT.2) rfl
      rw [if_pos h]
      exact ⟨w, rfl, fun _ _ => rfl, rfl, fun _ _ => rfl, fun s a b => absurd b (by omega)⟩
    · have h2 := xq_nle h (pow_sh hT.1 hT.2) rfl
      have e := inc x0 h2 (by omega)
      have hx := clI x0
      rw [if_neg h]
      dsimp only
      rw [n256 hC.1 hC.2 x0 (by omega)]
      obtain ⟨W, i1, i2, i3, i4, i5⟩ := ih (x + 1) (sp w 42 (upd (w.1 42) (256 * (u.1 13 1).toNatClampNeg + x.toNatClampNeg) 0)) (by omega) (by omega) (by omega)
      refine ⟨W, i1, fun j hj => by rw [i2 j hj, sp_ne hj], i3, fun k hk => ?_, fun s a b => ?_⟩
      · rw [i4 k (by omega), sp_eq, pk_un (by omega)]
      · by_cases hs : s.toInt = x.toInt
        · have hsx : s = x := Int32.toInt_inj.mp hs
          rw [hsx, i4 _ (by omega), sp_eq, pk_us]
        · exact i5 s (by omega) b
theorem lay2 (hR : Rel u v) : ∀ (n : Nat) (x : Int32) (z : xU), 0 ≤ x.toInt → 256 - x.toInt < n → 1 ≤ n → z.1 0 5 = u.1 13 1 → ∃ Z : xU, m_layMost_L2 n x z = m_layMost_L38 7 (u.1 13 1 - (1 : Int32)) Z ∧ (∀ j, j ≠ 19 → Z.1 j = z.1 j) ∧ Z.2 = z.2 ∧ (∀ k : Nat, (k : Int) < 256 * (u.1 13 1).toNatClampNeg + x.toInt → Z.1 19 k = z.1 19 k) ∧ (∀ s : Int32, x.toInt ≤ s.toInt → s.toInt < 256 → Z.1 19 (256 * (u.1 13 1).toNatClampNeg + s.toNatClampNeg) = 0) := by
  have hC := hR.bC
  intro n
  induction n with
  | zero => intro x z a b d; exact absurd d (by decide)
  | succ n ih =>
    intro x z x0 x1 _ hz
    unfold m_layMost_L2
    rw [hz]
    by_cases h : (256 : Int32) ≤ x
    · have h2 := xq_le h (a := 256) rfl rfl
      rw [if_pos h]
      exact ⟨z, rfl, fun _ _ => rfl, rfl, fun _ _ => rfl, fun s a b => absurd b (by omega)⟩
    · have h2 := xq_nle h (a := 256) rfl rfl
      have e := inc x0 h2 (by omega)
      have hx := clI x0
      rw [if_neg h]
      dsimp only
      rw [n256m hC.1 hC.2 x0 (by omega)]
      obtain ⟨Z, i1, i2, i3, i4, i5⟩ := ih (x + 1) (sp z 19 (upd (z.1 19) (256 * (u.1 13 1).toNatClampNeg + x.toNatClampNeg) 0)) (by omega) (by omega) (by omega) (by rw [sp_ne (by decide)]; exact hz)
      refine ⟨Z, i1, fun j hj => by rw [i2 j hj, sp_ne hj], i3, fun k hk => ?_, fun s a b => ?_⟩
      · rw [i4 k (by omega), sp_eq, pk_un (by omega)]
      · by_cases hs : s.toInt = x.toInt
        · have hsx : s = x := Int32.toInt_inj.mp hs
          rw [hsx, i4 _ (by omega), sp_eq, pk_us]
        · exact i5 s (by omega) b
theorem weigh_RW (hR : Rel u v) : RW u v 0 (k_Owners_weigh u) (m_layMost v) := by
  have hT := hR.bT
  have hC := hR.bC
  have h8 := pow8 hT.1 hT.2
  have z0 : (0 : Int32).toInt = 0 := rfl
  rw [k_Owners_weigh_def, m_layMost_def]
  unfold k_Owners_weigh_b m_layMost_b
  obtain ⟨W, a1, a2, a3, a4, a5⟩ := wei26 hR 257 0 u (by decide) (by decide) (by decide)
  obtain ⟨Z, b1, b2, b3, b4, b5⟩ := lay2 hR 257 0 v (by decide) (by decide) (by decide) hR.C.symm
  rw [a1, b1]
  have e : (u.1 13 1 - 1).toInt = (u.1 13 1).toInt - 1 := xsub rfl (b := 1) rfl (by omega) (by omega)
  have hcn := clI hC.1
  refine rows_L hR 7 _ W Z (by omega) (by omega) (by omega) ⟨fun j p _ => a2 j p, b2, a3, b3, fun c p q => absurd q (by omega), fun c s p q p2 q2 => ?_⟩
  have hc : c = (u.1 13 1).toNatClampNeg := by omega
  rw [hc, a5 s (by omega) q2, b5 s (by omega) (by omega)]
  exact ⟨rfl, by omega, by omega⟩
theorem given_eq (hR : Rel u v) {w z : xU} (hw : RW u v 0 w z) {c s : Int32} (h0 : 0 ≤ c.toInt) (h1 : c.toInt < (u.1 13 1).toInt) (g0 : 0 ≤ s.toInt) (g1 : s.toInt < 2 ^ (u.1 13 0).toInt.toNat) : k_Owners_firstOf w c s = m_givenTo z c s := by
  have hT := hR.bT
  have hC := hR.bC
  have h8 := pow8 hT.1 hT.2
  obtain ⟨w1, w2, w3, w4, w5, w6⟩ := hw
  have ec := inc h0 h1 (by omega)
  have en := cl_inc h0 (show c.toInt < 1000 by omega)
  have hcn := clI h0
  have e13 : w.1 13 = u.1 13 := w1 13 (by decide) (by decide)
  have lp : ∀ (n : Nat) (y : Int32), 0 ≤ y.toInt → k_Owners_firstOf_L28 w c s (k_Hall_allItMay u c &&& (s ^^^ (-1 : Int32))) (z.1 19 (256 * c.toNatClampNeg + s.toNatClampNeg)) n y = m_givenTo_L2 z c s n y := by
    intro n
    induction n with
    | zero => intro y _; rfl
    | succ n ih =>
      intro y hy
      unfold k_Owners_firstOf_L28 m_givenTo_L2
      rw [e13, w2 0 (by decide), ← hR.T]
      by_cases h : u.1 13 0 ≤ y
      · rw [if_pos h, if_pos h]
      · have h2 := xq_nle h rfl rfl
        have e := inc hy h2 (by omega)
        have hms := mask_set (x := s) (c := y) (n := (u.1 13 0).toInt.toNat) (by omega) g0 g1 hy (by omega)
        have hF : k_has (k_Hall_allItMay u c &&& (s ^^^ (-1 : Int32))) y = (k_Hall_may u c y && !bt s y.toNatClampNeg) := by
          rw [has_bt _ hy (by omega), bt_and, allMay_has hT c hy h2, bt_not _ (by have := clI hy; omega)]
        rw [if_neg h, if_neg h, mmay_congr w2, hR.may h0 h1 hy h2, hF, mhas, has_bt _ hy (by omega), n256 (by omega) (by omega) hms.1 (by omega), n256m (by omega) (by omega) hms.1 (by omega), n256m h0 (by omega) g0 (by omega), en, (w6 (c.toNatClampNeg + 1) _ (by omega) (by omega) hms.1 hms.2).1, ih _ (by omega)]
        cases hmay : k_Hall_may u c y with
        | false => rw [Bool.false_and, if_pos bf0, if_pos bf0]
        | true =>
          rw [Bool.true_and, if_neg (show ¬ b2i true = (0 : Int32) by decide)]
          cases hbs : bt s y.toNatClampNeg with
          | true => rw [Bool.not_true, if_pos bf0, if_neg (show ¬ b2i true = (0 : Int32) by decide)]
          | false => rw [Bool.not_false, if_neg (show ¬ b2i true = (0 : Int32) by decide), if_pos bf0]
  unfold k_Owners_firstOf m_givenTo
  dsimp only
  rw [n256 h0 (by omega) g0 (by omega), (w6 c.toNatClampNeg s (by omega) (by omega) g0 g1).1, w5 c.toNatClampNeg (by omega) (by omega), ← nI_ofc h0]
  exact lp _ _ (by decide)
theorem given_rng (hR : Rel u v) {z : xU} (hz : ∀ j, j ≠ 19 → z.1 j = v.1 j) {c s : Int32} (h : ¬ m_givenTo z c s = -9) : 0 ≤ (m_givenTo z c s).toInt ∧ (m_givenTo z c s).toInt < (u.1 13 0).toInt := by
  have hT := hR.bT
  have lp : ∀ (n : Nat) (y : Int32), 0 ≤ y.toInt → (u.1 13 0).toInt - y.toInt < n → 1 ≤ n → ¬ m_givenTo_L2 z c s n y = -9 → 0 ≤ (m_givenTo_L2 z c s n y).toInt ∧ (m_givenTo_L2 z c s n y).toInt < (u.1 13 0).toInt := by
    intro n
    induction n with
    | zero => intro y a b d; exact absurd d (by decide)
    | succ n ih =>
      intro y y0 y1 _ hn
      unfold m_givenTo_L2 at hn ⊢
      rw [hz 0 (by decide), ← hR.T] at hn ⊢
      by_cases h : u.1 13 0 ≤ y
      · rw [if_pos h] at hn; exact absurd rfl hn
      · have h2 := xq_nle h rfl rfl
        have e := inc y0 h2 (by omega)
        rw [if_neg h] at hn ⊢
        split at hn
        · rename_i k1
          rw [if_pos k1]; exact ih _ (by omega) (by omega) (by omega) hn
        · rename_i k1
          rw [if_neg k1]
          split at hn
          · rename_i k2
            rw [if_pos k2]
            split at hn
            · rename_i k3
              rw [if_pos k3]; exact ⟨y0, h2⟩
            · rename_i k3
              rw [if_neg k3]; exact ih _ (by omega) (by omega) (by omega) hn
          · rename_i k2
            rw [if_neg k2]; exact ih _ (by omega) (by omega) (by omega) hn
  exact lp 9 0 (by decide) (by have : (0 : Int32).toInt = 0 := rfl; omega) (by decide) h
theorem own_2 (w : xU) (x1 : Int32) : ∀ (n : Nat) (x2 x3 : Int32), (m_own_L24 w x1 n x2 x3).2 = w := by
  intro n
  induction n with
  | zero => intro x2 x3; rfl
  | succ n ih =>
    intro x2 x3
    unfold m_own_L24
    dsimp only
    repeat' split
    all_goals first | rfl | exact ih _ _
theorem own_L (hR : Rel u v) {w z : xU} (hw : RW u v 0 w z) {c : Int32} (h0 : 0 ≤ c.toInt) (h1 : c.toInt < (u.1 13 1).toInt) : ∀ (n : Nat) (s f y : Int32), 0 ≤ y.toInt → y.toInt ≤ c.toInt → c.toInt - y.toInt + 1 < n → 0 ≤ s.toInt → s.toInt < 2 ^ (u.1 13 0).toInt.toNat → k_Owners_thingOf_L8 w c n s f y = (m_own_L24 z c n s y).1 := by
  have hT := hR.bT
  have hC := hR.bC
  intro n
  induction n with
  | zero => intro s f y a b d; exact absurd d (by omega)
  | succ n ih =>
    intro s f y y0 y1 y2 g0 g1
    have e := inc y0 (show y.toInt < 6 by omega) (by decide)
    unfold k_Owners_thingOf_L8 m_own_L24
    rw [if_neg (fun g => by have := xq_lt g rfl rfl; omega), given_eq hR hw y0 (by omega) g0 g1]
    by_cases h : c ≤ y
    · have h2 := xq_le h rfl rfl
      have hcy : c = y := Int32.toInt_inj.mp (by omega)
      rw [if_pos h, if_pos (Int32.le_iff_toInt_le.mpr (show (0 : Int32).toInt ≤ c.toInt by have : (0 : Int32).toInt = 0 := rfl; omega)), hcy]
      obtain ⟨k, rfl⟩ : ∃ k, n = k + 1 := ⟨n - 1, by omega⟩
      have hlt : y < y + 1 := Int32.lt_iff_toInt_lt.mpr (by omega)
      have hend : ∀ a : Int32, k_Owners_thingOf_L8 w y (k + 1) a (m_givenTo z y s) (y + 1) = m_givenTo z y s := fun a => by
        unfold k_Owners_thingOf_L8
        rw [if_pos hlt]
      dsimp only
      rw [hend, hend]
      split <;> rfl
    · have h2 := xq_nle h rfl rfl
      rw [if_neg h, or_0]
      dsimp only
      by_cases hn : m_givenTo z y s = -9
      · rw [if_pos hn, if_pos hn]
        exact ih _ _ _ (by omega) (by omega) (by omega) g0 g1
      · rw [if_neg hn, if_neg hn]
        have hr := given_rng hR hw.2.1 hn
        have hms := mask_set (x := s) (c := m_givenTo z y s) (n := (u.1 13 0).toInt.toNat) (by omega) g0 g1 hr.1 (by omega)
        exact ih _ _ _ (by omega) (by omega) (by omega) hms.1 hms.2
theorem s_own : St_own Rel := by
  intro u v p1 hR
  refine ⟨⟨hR.bT, hR.bC⟩, ⟨hR.mT, hR.mC⟩, ?_⟩
  have hT := hR.bT
  have hC := hR.bC
  have z0 : (0 : Int32).toInt = 0 := rfl
  have hw := weigh_RW hR
  have hR2 : Rel (k_Owners_weigh u) (m_layMost v) := hR.free (fun j hj => hw.1 j (by omega) (by omega)) hw.2.1 hw.2.2.1 hw.2.2.2.1
  have e : (v.1 0 5 - 1).toInt = (u.1 13 1).toInt - 1 := xsub (by rw [← hR.C]) (b := 1) rfl (by omega) (by omega)
  have m1 : (-1 : Int32).toInt = -1 := rfl
  have hp2 : (1 : Int) ≤ 2 ^ (u.1 13 0).toInt.toNat := by exact_mod_cast Nat.one_le_two_pow
  rw [k_own_def, m_own_def]
  unfold k_own_b m_own_b
  by_cases c1 : p1 = -1
  · have hin : ¬ b2i (m_in p1 (-1 : Int32) (v.1 0 5 - (1 : Int32))) = 0 := in_t (by rw [c1]; exact Int.le_refl _) (by rw [e, c1]; omega)
    dsimp only
    rw [if_pos c1, if_pos c1, if_neg hin, c1]
    have h19 := (hw.2.2.2.2.2 0 0 (by omega) (by omega) (by omega) (by omega)).1
    refine ⟨?_, by rw [own_2]; exact hR2⟩
    show (k_Owners_weigh u).1 42 0 = _
    unfold m_own_L24
    rw [if_pos (by decide), if_neg (by decide)]
    exact h19
  · have c1' : ¬ p1.toInt = -1 := fun g => c1 (Int32.toInt_inj.mp g)
    dsimp only
    rw [if_neg c1, if_neg c1]
    by_cases h : b2i (k_Hall_isCast u p1) = 0
    · have hn : ¬ (0 ≤ p1.toInt ∧ p1.toInt < (u.1 13 1).toInt) := fun g => by rw [cast_iff.mpr g] at h; exact absurd h (by decide)
      have hin : b2i (m_in p1 (-1 : Int32) (v.1 0 5 - (1 : Int32))) = 0 := b2i_0.mpr (Bool.eq_false_iff.mpr (fun g => by have := in_iff.mp g; rw [e] at this; omega))
      rw [if_pos h, if_pos hin]; exact ⟨rfl, hR⟩
    · have hc := cast_iff.mp (Bool.of_not_eq_false (fun g => h (b2i_0.mpr g)))
      have hin : ¬ b2i (m_in p1 (-1 : Int32) (v.1 0 5 - (1 : Int32))) = 0 := in_t (by omega) (by omega)
      rw [if_neg h, if_neg hin]
      exact ⟨own_L hR hw hc.1 hc.2 7 0 (-9) 0 (by decide) (by omega) (by omega) (by decide) (by omega), by dsimp only; rw [own_2]; exact hR2⟩
end OW
