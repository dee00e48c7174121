/-! ===== PURE: plan ===== -/
theorem nf_eq {l w : Int32} (hl : l.toInt ≤ 30) (hw : 1 ≤ w.toInt ∧ w.toInt ≤ 9) : (if w < l then ((l + w) - (1 : Int32)) / w else (1 : Int32)) = (if l < (1 : Int32) then (1 : Int32) else (if (1 : Int32) ≤ ((l + w) - (1 : Int32)) / w then ((l + w) - (1 : Int32)) / w else (1 : Int32))) ∧ (1 ≤ (if w < l then ((l + w) - (1 : Int32)) / w else (1 : Int32)).toInt ∧ (if w < l then ((l + w) - (1 : Int32)) / w else (1 : Int32)).toInt ≤ 30) := by
  by_cases h : l < 1
  · have h1 := xq_lt h rfl (b := 1) rfl
    have h2 : ¬ w < l := fun g => by have := xq_lt g rfl rfl; omega
    rw [if_pos h, if_neg h2]; decide
  · have h1 := xq_nlt h rfl (b := 1) rfl
    obtain ⟨i, hi, rfl⟩ := xof8 (x := l) (n := 31) (by omega) (by omega) (by decide)
    obtain ⟨j, hj, rfl⟩ := xof8 (x := w) (n := 10) (by omega) (by omega) (by decide)
    have : ∀ (i : Fin 31) (j : Fin 10), 1 ≤ (nI i.val).toInt → 1 ≤ (nI j.val).toInt → (if nI j.val < nI i.val then ((nI i.val + nI j.val) - (1 : Int32)) / nI j.val else (1 : Int32)) = (if nI i.val < (1 : Int32) then (1 : Int32) else (if (1 : Int32) ≤ ((nI i.val + nI j.val) - (1 : Int32)) / nI j.val then ((nI i.val + nI j.val) - (1 : Int32)) / nI j.val else (1 : Int32))) ∧ (1 ≤ (if nI j.val < nI i.val then ((nI i.val + nI j.val) - (1 : Int32)) / nI j.val else (1 : Int32)).toInt ∧ (if nI j.val < nI i.val then ((nI i.val + nI j.val) - (1 : Int32)) / nI j.val else (1 : Int32)).toInt ≤ 30) := by decide +kernel
    exact this ⟨i, hi⟩ ⟨j, hj⟩ h1 hw.1
def nF (u : xU) (c x : Int32) : Int32 := (if u.1 19 c.toNatClampNeg < u.1 15 x.toNatClampNeg - u.1 22 ((c * (8 : Int32)) + x).toNatClampNeg then (((u.1 15 x.toNatClampNeg - u.1 22 ((c * (8 : Int32)) + x).toNatClampNeg) + u.1 19 c.toNatClampNeg) - (1 : Int32)) / u.1 19 c.toNatClampNeg else (1 : Int32))
theorem bf0 : b2i false = (0 : Int32) := rfl
section PL
variable {u v : xU}
theorem Rel.free (hR : Rel u v) {u' v' : xU} (hu : ∀ j, (j < 38 ∨ 43 < j) → u'.1 j = u.1 j) (hv : ∀ j, j ≠ 19 → v'.1 j = v.1 j) (h2 : u'.2 = u.2) (h3 : v'.2 = v.2) : Rel u' v' := by
  unfold Rel Rk Rs
  rw [hu 13 (by decide), hu 14 (by decide), hu 15 (by decide), hu 16 (by decide), hu 17 (by decide), hu 18 (by decide), hu 19 (by decide), hu 21 (by decide), hu 22 (by decide), hu 23 (by decide), hu 24 (by decide), hu 25 (by decide), hu 26 (by decide), hu 27 (by decide), hu 28 (by decide), hu 30 (by decide), hu 31 (by decide), hu 32 (by decide), hu 33 (by decide), hu 34 (by decide), hu 35 (by decide), hu 36 (by decide), hu 37 (by decide), hu 1 (by decide), hu 2 (by decide), hu 4 (by decide), hu 44 (by decide), hu 45 (by decide), hu 46 (by decide), hv 0 (by decide), hv 1 (by decide), hv 2 (by decide), hv 3 (by decide), hv 4 (by decide), hv 5 (by decide), hv 6 (by decide), hv 7 (by decide), hv 8 (by decide), hv 9 (by decide), hv 10 (by decide), hv 11 (by decide), h2, h3]
  exact hR
theorem Rel.nFe (hR : Rel u v) {c x : Int32} (h0 : 0 ≤ c.toInt) (h1 : c.toInt < (u.1 13 1).toInt) (g0 : 0 ≤ x.toInt) (g1 : x.toInt < (u.1 13 0).toInt) : nF u c x = m_nightsFor v c x ∧ (1 ≤ (m_nightsFor v c x).toInt ∧ (m_nightsFor v c x).toInt ≤ 30) := by
  obtain ⟨t1, t2, t3, t4, t5, t6, t7, t8⟩ := hR.thing (nlt g1 g0)
  obtain ⟨k1, k2, k3, k4⟩ := hR.cast (nlt h1 h0)
  have hT := hR.bT
  have hC := hR.bC
  have hn := hR.bnight
  have hf := (hR.far (nlt h1 h0) (nlt g1 g0)).2
  rw [← nfar h0 (by omega) g0 (by omega)] at hf
  have e : (u.1 15 x.toNatClampNeg - u.1 22 ((c * (8 : Int32)) + x).toNatClampNeg).toInt = (u.1 15 x.toNatClampNeg).toInt - (u.1 22 ((c * (8 : Int32)) + x).toNatClampNeg).toInt := xsub rfl rfl (by omega) (by omega)
  have hm : m_nightsFor v c x = nF u c x := by
    unfold m_nightsFor nF
    dsimp only
    rw [← t2, hR.ifar h0 h1 g0 g1, ← k2]
    exact (nf_eq (by omega) k4).1.symm
  rw [hm]
  exact ⟨rfl, (nf_eq (by omega) k4).2⟩
def RKn (u : xU) (c : Int32) (x : Int) (w r : xU) : Prop := (∀ t : Int32, x ≤ t.toInt → t.toInt < (u.1 13 0).toInt → r.1 39 t.toNatClampNeg = nF u c t ∧ r.1 40 t.toNatClampNeg = u.1 14 t.toNatClampNeg * nF u c t) ∧ ∀ t : Int32, 0 ≤ t.toInt → t.toInt < x → r.1 39 t.toNatClampNeg = w.1 39 t.toNatClampNeg ∧ r.1 40 t.toNatClampNeg = w.1 40 t.toNatClampNeg
theorem reckon_L (hT : 0 ≤ (u.1 13 0).toInt ∧ (u.1 13 0).toInt ≤ 8) (c : Int32) : ∀ (n : Nat) (x : Int32) (w : xU), 0 ≤ x.toInt → (u.1 13 0).toInt - x.toInt < n → 1 ≤ n → w.1 13 = u.1 13 → w.1 14 = u.1 14 → w.1 15 = u.1 15 → w.1 22 = u.1 22 → RKn u c x.toInt w (k_Planner_reckon_L19 c (u.1 19 c.toNatClampNeg) n x w) := by
  intro n
  induction n with
  | zero => intro x w h0 h1 h2; exact absurd h2 (by decide)
  | succ n ih =>
    intro x w h0 h1 _ e13 e14 e15 e22
    unfold k_Planner_reckon_L19
    rw [e13]
    by_cases h : u.1 13 0 ≤ x
    · have h2 := xq_le h rfl rfl
      rw [if_pos h]
      exact ⟨fun t a b => absurd b (by omega), fun t _ _ => ⟨rfl, rfl⟩⟩
    · have h2 := xq_nle h rfl rfl
      have e := inc h0 h2 (by omega)
      have step : ∀ V : Int32, V = nF u c x → RKn u c x.toInt w (k_Planner_reckon_L19 c (u.1 19 c.toNatClampNeg) n (x + 1) (sp (sp w 39 (upd (w.1 39) x.toNatClampNeg V)) 40 (upd (w.1 40) x.toNatClampNeg (w.1 14 x.toNatClampNeg * V)))) := by
        intro V hV
        obtain ⟨i1, i2⟩ := ih (x + 1) (sp (sp w 39 (upd (w.1 39) x.toNatClampNeg V)) 40 (upd (w.1 40) x.toNatClampNeg (w.1 14 x.toNatClampNeg * V))) (by omega) (by omega) (by omega) (by rw [sp_ne (by decide), sp_ne (by decide)]; exact e13) (by rw [sp_ne (by decide), sp_ne (by decide)]; exact e14) (by rw [sp_ne (by decide), sp_ne (by decide)]; exact e15) (by rw [sp_ne (by decide), sp_ne (by decide)]; exact e22)
        refine ⟨fun t a b => ?_, fun t a b => ?_⟩
        · by_cases ht : t.toInt = x.toInt
          · have hx : t = x := Int32.toInt_inj.mp ht
            obtain ⟨j1, j2⟩ := i2 t (by omega) (by omega)
            rw [j1, j2, sp_ne (show (39 : Nat) ≠ 40 by decide), sp_eq, sp_eq, hx, pk_us, pk_us, hV, e14]
            exact ⟨rfl, rfl⟩
          · exact i1 t (by omega) b
        · obtain ⟨j1, j2⟩ := i2 t a (by omega)
          have hne : t.toNatClampNeg ≠ x.toNatClampNeg := by show t.toInt.toNat ≠ x.toInt.toNat; omega
          rw [j1, j2, sp_ne (show (39 : Nat) ≠ 40 by decide), sp_eq, sp_eq, pk_un hne, pk_un hne]
          exact ⟨rfl, rfl⟩
      rw [if_neg h]
      dsimp only
      simp only [sp_eq, pk_us]
      rw [e15, e22]
      by_cases g : u.1 19 c.toNatClampNeg < u.1 15 x.toNatClampNeg - u.1 22 ((c * (8 : Int32)) + x).toNatClampNeg
      · rw [if_pos g]; exact step _ (if_pos g).symm
      · rw [if_neg g]; exact step _ (if_neg g).symm
theorem reckon_2L (x1 x2 : Int32) : ∀ (n : Nat) (x : Int32) (w : xU), (k_Planner_reckon_L19 x1 x2 n x w).2 = w.2 := by
  intro n
  induction n with
  | zero => intro x w; rfl
  | succ n ih =>
    intro x w
    unfold k_Planner_reckon_L19
    dsimp only
    split
    · rfl
    · split
      · exact ih _ _
      · exact ih _ _
theorem reckon_2 (u : xU) (c : Int32) : (k_Planner_reckon u c).2 = u.2 := by rw [k_Planner_reckon_def]; exact reckon_2L _ _ _ _ _
theorem Rel.reckR (hR : Rel u v) (c : Int32) : Rel (k_Planner_reckon u c) v := hR.free (fun j hj => kp_reckon u c (by omega) (by omega)) (fun _ _ => rfl) (reckon_2 u c) rfl
theorem Rel.reck (hR : Rel u v) {c x : Int32} (h0 : 0 ≤ c.toInt) (h1 : c.toInt < (u.1 13 1).toInt) (g0 : 0 ≤ x.toInt) (g1 : x.toInt < (u.1 13 0).toInt) : (k_Planner_reckon u c).1 39 x.toNatClampNeg = m_nightsFor v c x ∧ (k_Planner_reckon u c).1 40 x.toNatClampNeg = v.1 1 x.toNatClampNeg * m_nightsFor v c x := by
  obtain ⟨t1, -⟩ := hR.thing (nlt g1 g0)
  obtain ⟨k1, k2, k3, k4⟩ := hR.cast (nlt h1 h0)
  have hT := hR.bT
  rw [k_Planner_reckon_def]
  unfold k_Planner_reckon_b
  dsimp only
  rw [if_neg (fun g => by have := xq_lt g rfl (b := 1) rfl; omega)]
  obtain ⟨i1, -⟩ := reckon_L hT c 9 0 u (by decide) (by have : (0 : Int32).toInt = 0 := rfl; omega) (by decide) rfl rfl rfl rfl
  obtain ⟨j1, j2⟩ := i1 x (by have : (0 : Int32).toInt = 0 := rfl; omega) g1
  rw [j1, j2, (hR.nFe h0 h1 g0 g1).1, t1]
  exact ⟨rfl, rfl⟩
theorem Rel.nightsOf_L (hR : Rel u v) {c : Int32} (h0 : 0 ≤ c.toInt) (h1 : c.toInt < (u.1 13 1).toInt) (s : Int32) : ∀ (n : Nat) (x y : Int32), 0 ≤ y.toInt → k_Planner_sumOver_38_39_L5 (k_Planner_reckon u c) s n x y = m_nightsOf_L5 v c s n x y := by
  have hT := hR.bT
  intro n
  induction n with
  | zero => intro x y _; rfl
  | succ n ih =>
    intro x y hy
    unfold k_Planner_sumOver_38_39_L5 m_nightsOf_L5
    rw [kp_reckon13, ← hR.T, mhas, Int32.add_zero]
    by_cases h : u.1 13 0 ≤ y
    · rw [if_pos h, if_pos h]
    · have h2 := xq_nle h rfl rfl
      have e := inc hy h2 (by omega)
      rw [if_neg h, if_neg h, (hR.reck h0 h1 hy h2).1, ih _ _ (by omega), ih _ _ (by omega)]
theorem Rel.nightsOf (hR : Rel u v) {c : Int32} (h0 : 0 ≤ c.toInt) (h1 : c.toInt < (u.1 13 1).toInt) (s : Int32) : k_Planner_nightsOf (k_Planner_reckon u c) s = m_nightsOf v c s := hR.nightsOf_L h0 h1 s _ _ _ (by decide)
theorem Rel.cracksOf_L (hR : Rel u v) {c : Int32} (h0 : 0 ≤ c.toInt) (h1 : c.toInt < (u.1 13 1).toInt) (s : Int32) : ∀ (n : Nat) (x y : Int32), 0 ≤ y.toInt → k_Planner_sumOver_38_40_L5 (k_Planner_reckon u c) s n x y = m_cracksOf_L5 v c s n x y := by
  have hT := hR.bT
  intro n
  induction n with
  | zero => intro x y _; rfl
  | succ n ih =>
    intro x y hy
    unfold k_Planner_sumOver_38_40_L5 m_cracksOf_L5
    rw [kp_reckon13, ← hR.T, mhas, Int32.add_zero]
    by_cases h : u.1 13 0 ≤ y
    · rw [if_pos h, if_pos h]
    · have h2 := xq_nle h rfl rfl
      have e := inc hy h2 (by omega)
      dsimp only
      rw [if_neg h, if_neg h, (hR.reck h0 h1 hy h2).2, ih _ _ (by omega), ih _ _ (by omega)]
theorem Rel.cracksOf (hR : Rel u v) {c : Int32} (h0 : 0 ≤ c.toInt) (h1 : c.toInt < (u.1 13 1).toInt) (s : Int32) : k_Planner_cracksOf (k_Planner_reckon u c) s = m_cracksOf v c s := hR.cracksOf_L h0 h1 s _ _ _ (by decide)
theorem Rel.cracks_rng_L (hR : Rel u v) {c : Int32} (h0 : 0 ≤ c.toInt) (h1 : c.toInt < (u.1 13 1).toInt) (s : Int32) : ∀ (n : Nat) (x y : Int32), 0 ≤ y.toInt → y.toInt ≤ 8 → 0 ≤ x.toInt → x.toInt ≤ 270 * y.toInt → 0 ≤ (m_cracksOf_L5 v c s n x y).toInt ∧ (m_cracksOf_L5 v c s n x y).toInt ≤ 2160 := by
  have hT := hR.bT
  intro n
  induction n with
  | zero => intro x y _ _ _ _; exact (by decide : 0 ≤ (0 : Int32).toInt ∧ (0 : Int32).toInt ≤ 2160)
  | succ n ih =>
    intro x y hy hy8 hx0 hx
    unfold m_cracksOf_L5
    rw [← hR.T]
    by_cases h : u.1 13 0 ≤ y
    · rw [if_pos h]; omega
    · have h2 := xq_nle h rfl rfl
      have e := inc hy h2 (by omega)
      obtain ⟨t1, t2, t3, t4, t5, t6, t7, t8⟩ := hR.thing (nlt h2 hy)
      have hf := (hR.nFe h0 h1 hy h2).2
      rw [t1] at t5
      have m0 : 0 ≤ (v.1 1 y.toNatClampNeg).toInt * (m_nightsFor v c y).toInt := Int.mul_nonneg t5.1 (by omega)
      have m1 : (v.1 1 y.toNatClampNeg).toInt * (m_nightsFor v c y).toInt ≤ 9 * 30 := Int.mul_le_mul t5.2 hf.2 (by omega) (by decide)
      have em : (v.1 1 y.toNatClampNeg * m_nightsFor v c y).toInt = (v.1 1 y.toNatClampNeg).toInt * (m_nightsFor v c y).toInt := xmul rfl rfl (by omega) (by omega)
      have ea : (x + v.1 1 y.toNatClampNeg * m_nightsFor v c y).toInt = x.toInt + (v.1 1 y.toNatClampNeg).toInt * (m_nightsFor v c y).toInt := xadd rfl em (by omega) (by omega)
      rw [if_neg h, Int32.add_zero]
      dsimp only
      split
      · exact ih _ _ (by omega) (by omega) hx0 (by omega)
      · exact ih _ _ (by omega) (by omega) (by omega) (by omega)
theorem Rel.cracks_rng (hR : Rel u v) {c : Int32} (h0 : 0 ≤ c.toInt) (h1 : c.toInt < (u.1 13 1).toInt) (s : Int32) : 0 ≤ (m_cracksOf v c s).toInt ∧ (m_cracksOf v c s).toInt ≤ 2160 := hR.cracks_rng_L h0 h1 s 9 0 0 (by decide) (by decide) (by decide) (by decide)
/-! what is to be learnt -/
theorem dec {x : Int32} (h0 : 0 ≤ x.toInt) : (x + (-1 : Int32)).toInt = x.toInt - 1 := by
  have := Int32.toInt_lt x
  exact xadd rfl (b := -1) rfl (by omega) (by omega)
theorem Rel.wanted_L (hR : Rel u v) {c : Int32} (h0 : 0 ≤ c.toInt) (h1 : c.toInt < (u.1 13 1).toInt) : ∀ (n : Nat) (S x : Int32), x.toInt < (u.1 13 0).toInt → k_Planner_toLearnFor_L7 u c n S x = m_wanted_L7 v c n (S &&& (u.1 23 c.toNatClampNeg ^^^ (-1 : Int32))) x := by
  have hT := hR.bT
  intro n
  induction n with
  | zero => intro S x _; rfl
  | succ n ih =>
    intro S x hx
    unfold k_Planner_toLearnFor_L7 m_wanted_L7
    by_cases h : x < 0
    · rw [if_pos h, if_pos h]
    · have h2 := xq_nlt h rfl (b := 0) rfl
      have e := dec h2
      obtain ⟨t1, t2, t3, t4, t5, t6, t7, t8⟩ := hR.thing (nlt hx h2)
      rw [if_neg h, if_neg h, mhas, has_bt _ h2 (by omega), has_bt _ h2 (by omega), bt_and, bt_not _ (by show x.toInt.toNat < 32; omega), hR.ican h0 h1, ← t4, or_0]
      dsimp only
      cases hS : bt S x.toNatClampNeg with
      | false =>
        rw [Bool.false_and, if_pos bf0, if_pos bf0]
        exact ih _ _ (by omega)
      | true =>
        rw [if_neg (by decide)]
        cases hc : bt (u.1 23 c.toNatClampNeg) x.toNatClampNeg with
        | true =>
          rw [Bool.not_true, Bool.and_false, if_pos bf0, ih _ _ (by omega)]
          have hcl := sub_iff.mp (hR.closed (nlt h1 h0) (nlt hx h2) (Or.inl hc))
          refine congrArg (fun z => m_wanted_L7 v c n z (x + (-1 : Int32))) ?_
          refine bt_ext (fun i hi => ?_)
          rw [bt_and, bt_and, bt_or, bt_not _ hi]
          cases h3 : bt (u.1 17 x.toNatClampNeg) i with
          | false => rw [Bool.or_false]
          | true => rw [hcl i hi h3]; cases bt S i <;> rfl
        | false =>
          rw [if_neg (by decide), ih _ _ (by omega)]
          refine congrArg (fun z => m_wanted_L7 v c n z (x + (-1 : Int32))) ?_
          refine bt_ext (fun i hi => ?_)
          rw [bt_or, bt_and, bt_and, bt_and, bt_or]
          cases bt S i <;> cases bt (u.1 17 x.toNatClampNeg) i <;> cases bt (u.1 23 c.toNatClampNeg ^^^ (-1 : Int32)) i <;> rfl
theorem wanted_0 (c : Int32) : ∀ (n : Nat) (x : Int32), x.toInt < 32 → m_wanted_L7 v c n 0 x = 0 := by
  intro n
  induction n with
  | zero => intro x _; rfl
  | succ n ih =>
    intro x hx
    unfold m_wanted_L7
    by_cases h : x < 0
    · rw [if_pos h]
    · have h2 := xq_nlt h rfl (b := 0) rfl
      have e := dec h2
      rw [if_neg h, mhas, has_bt _ h2 (by omega), bt_0, if_pos bf0, or_0]
      exact ih _ (by omega)
theorem Rel.toLearn_bt (hR : Rel u v) {c : Int32} (h0 : 0 ≤ c.toInt) (h1 : c.toInt < (u.1 13 1).toInt) : ∀ (n : Nat) (S x : Int32), x.toInt < (u.1 13 0).toInt → (∀ i : Nat, bt S i = true → (i : Int) < (u.1 13 0).toInt) → ∀ i : Nat, bt (k_Planner_toLearnFor_L7 u c n S x) i = true → (i : Int) < (u.1 13 0).toInt ∧ bt (u.1 23 c.toNatClampNeg) i = false := by
  have hT := hR.bT
  intro n
  induction n with
  | zero => intro S x _ _ i hi; rw [show k_Planner_toLearnFor_L7 u c 0 S x = 0 from rfl, bt_0] at hi; exact absurd hi (by decide)
  | succ n ih =>
    intro S x hx hS i hi
    unfold k_Planner_toLearnFor_L7 at hi
    by_cases h : x < 0
    · rw [if_pos h, bt_and, Bool.and_eq_true] at hi
      have hb := hS i hi.1
      refine ⟨hb, ?_⟩
      have := hi.2
      rw [bt_not _ (by omega)] at this
      cases hc : bt (u.1 23 c.toNatClampNeg) i with
      | false => rfl
      | true => rw [hc] at this; exact absurd this (by decide)
    · have h2 := xq_nlt h rfl (b := 0) rfl
      have e := dec h2
      obtain ⟨t1, t2, t3, t4, t5, t6, t7, t8⟩ := hR.thing (nlt hx h2)
      rw [if_neg h] at hi
      split at hi
      · exact ih _ _ (by omega) hS i hi
      · refine ih _ _ (by omega) (fun k hk => ?_) i hi
        rw [bt_or, Bool.or_eq_true] at hk
        rcases hk with hk | hk
        · exact hS k hk
        · refine Int.not_le.mp (fun g => ?_)
          have hxn : ((x.toNatClampNeg : Nat) : Int) = x.toInt := by show ((x.toInt.toNat : Nat) : Int) = _; omega
          rw [bt_lt t8.1 t8.2 (show x.toNatClampNeg ≤ k by omega)] at hk
          exact absurd hk (by decide)
theorem Rel.set_bt (hR : Rel u v) {c t : Int32} (h0 : 0 ≤ c.toInt) (h1 : c.toInt < (u.1 13 1).toInt) (g0 : 0 ≤ t.toInt) (g1 : t.toInt < (u.1 13 0).toInt) : ∀ i : Nat, bt (k_Planner_toLearnFor u c t) i = true → (i : Int) < (u.1 13 0).toInt ∧ bt (u.1 23 c.toNatClampNeg) i = false := by
  have hT := hR.bT
  refine hR.toLearn_bt h0 h1 9 _ t g1 (fun i hi => ?_)
  rw [bt_sh g0 (by omega), decide_eq_true_eq] at hi
  rw [hi]; exact nlt g1 g0
theorem Rel.wanted (hR : Rel u v) {c t : Int32} (h0 : 0 ≤ c.toInt) (h1 : c.toInt < (u.1 13 1).toInt) (g0 : 0 ≤ t.toInt) (g1 : t.toInt < (u.1 13 0).toInt) : k_Planner_toLearnFor u c t = if b2i (m_can v c t) = 0 then m_wanted v c t else 0 := by
  have hT := hR.bT
  unfold k_Planner_toLearnFor m_wanted
  rw [hR.wanted_L h0 h1 9 _ t g1, hR.mcan h0 h1, has_bt _ g0 (by omega)]
  cases hc : bt (u.1 23 c.toNatClampNeg) t.toNatClampNeg with
  | false =>
    rw [if_pos bf0]
    refine congrArg (fun z => m_wanted_L7 v c 9 z t) ?_
    refine bt_ext (fun i hi => ?_)
    rw [bt_and, bt_sh g0 (by omega), bt_not _ hi]
    by_cases h : i = t.toNatClampNeg
    · rw [h, hc]; simp
    · rw [decide_eq_false h]; rfl
  | true =>
    rw [if_neg (by decide)]
    have e : ((1 : Int32) <<< (t &&& 31)) &&& (u.1 23 c.toNatClampNeg ^^^ (-1 : Int32)) = 0 := by
      refine bt_ext (fun i hi => ?_)
      rw [bt_and, bt_sh g0 (by omega), bt_not _ hi, bt_0]
      by_cases h : i = t.toNatClampNeg
      · rw [h, hc]; simp
      · rw [decide_eq_false h]; rfl
    rw [e]
    exact wanted_0 c 9 t (by omega)
theorem learn_bt_L (hT : 0 ≤ (u.1 13 0).toInt ∧ (u.1 13 0).toInt ≤ 8) (c : Int32) (i : Nat) : ∀ (n : Nat) (x y : Int32), 0 ≤ y.toInt → (u.1 13 0).toInt - y.toInt < n → 1 ≤ n → (bt (k_Planner_learnable_L4 u c n x y) i = true ↔ bt x i = true ∨ (y.toInt ≤ i ∧ (i : Int) < (u.1 13 0).toInt ∧ bt (u.1 23 c.toNatClampNeg) i = false ∧ k_has (u.1 24 c.toNatClampNeg) (u.1 16 i) = false)) := by
  intro n
  induction n with
  | zero => intro x y h0 h1 h2; exact absurd h2 (by decide)
  | succ n ih =>
    intro x y h0 h1 _
    unfold k_Planner_learnable_L4
    by_cases h : u.1 13 0 ≤ y
    · have h2 := xq_le h rfl rfl
      rw [if_pos h]
      exact ⟨Or.inl, fun g => g.elim id (fun g => absurd g.2.1 (by omega))⟩
    · have h2 := xq_nle h rfl rfl
      have e := inc h0 h2 (by omega)
      have hy : (y.toNatClampNeg : Int) = y.toInt := by show ((y.toInt.toNat : Nat) : Int) = _; omega
      have skip : ¬ (bt (u.1 23 c.toNatClampNeg) y.toNatClampNeg = false ∧ k_has (u.1 24 c.toNatClampNeg) (u.1 16 y.toNatClampNeg) = false) → (bt (k_Planner_learnable_L4 u c n x (y + 1)) i = true ↔ bt x i = true ∨ (y.toInt ≤ i ∧ (i : Int) < (u.1 13 0).toInt ∧ bt (u.1 23 c.toNatClampNeg) i = false ∧ k_has (u.1 24 c.toNatClampNeg) (u.1 16 i) = false)) := by
        intro hn
        rw [ih _ _ (by omega) (by omega) (by omega)]
        refine or_congr_right ⟨fun g => ⟨by omega, g.2⟩, fun g => ⟨?_, g.2⟩⟩
        rcases Int.lt_or_eq_of_le g.1 with g1 | g1
        · omega
        · have : i = y.toNatClampNeg := by omega
          rw [this] at g
          exact absurd g.2.2 hn
      rw [if_neg h, has_bt _ h0 (by omega)]
      by_cases hb : b2i (bt (u.1 23 c.toNatClampNeg) y.toNatClampNeg) = 0
      · rw [if_pos hb]
        unfold k_Hall_lacksPartOf
        by_cases hl : b2i (k_has (u.1 24 c.toNatClampNeg) (u.1 16 y.toNatClampNeg)) = 0
        · rw [if_pos hl, ih _ _ (by omega) (by omega) (by omega), bt_or, Bool.or_eq_true, bt_sh h0 (by omega), decide_eq_true_eq, or_assoc]
          refine or_congr_right ⟨fun g => ?_, fun g => ?_⟩
          · rcases g with g | g
            · subst g
              exact ⟨by omega, by omega, b2i_0.mp hb, b2i_0.mp hl⟩
            · exact ⟨by omega, g.2⟩
          · rcases Int.lt_or_eq_of_le g.1 with g1 | g1
            · exact Or.inr ⟨by omega, g.2⟩
            · exact Or.inl (by omega)
        · rw [if_neg hl]; exact skip (fun g => hl (b2i_0.mpr g.2))
      · rw [if_neg hb]; exact skip (fun g => hb (b2i_0.mpr g.1))
theorem learn_bt (hT : 0 ≤ (u.1 13 0).toInt ∧ (u.1 13 0).toInt ≤ 8) (c : Int32) (i : Nat) : bt (k_Planner_learnable u c) i = true ↔ ((i : Int) < (u.1 13 0).toInt ∧ bt (u.1 23 c.toNatClampNeg) i = false ∧ k_has (u.1 24 c.toNatClampNeg) (u.1 16 i) = false) := by
  have : (0 : Int32).toInt = 0 := rfl
  unfold k_Planner_learnable
  rw [learn_bt_L hT c i 9 0 0 (by decide) (by omega) (by decide), bt_0]
  exact ⟨fun g => g.elim (fun g => absurd g (by decide)) (fun g => g.2), fun g => Or.inr ⟨by omega, g⟩⟩
theorem learn_bt_r (hR : Rel u v) (c d : Int32) (i : Nat) : bt (k_Planner_learnable (k_Planner_reckon u d) c) i = true ↔ ((i : Int) < (u.1 13 0).toInt ∧ bt (u.1 23 c.toNatClampNeg) i = false ∧ k_has (u.1 24 c.toNatClampNeg) (u.1 16 i) = false) := by
  have h := learn_bt (u := k_Planner_reckon u d) (by rw [kp_reckon13]; exact hR.bT) c i
  rw [kp_reckon13, kp_reckon u d (j := 23) (by decide) (by decide), kp_reckon u d (j := 24) (by decide) (by decide), kp_reckon u d (j := 16) (by decide) (by decide)] at h
  exact h
theorem Rel.bears_L (hR : Rel u v) {c : Int32} (h0 : 0 ≤ c.toInt) (h1 : c.toInt < (u.1 13 1).toInt) (s : Int32) : ∀ (n : Nat) (x y : Int32), 0 ≤ y.toInt → (u.1 13 0).toInt - y.toInt < n → 1 ≤ n → (m_bears_L42 v c s n x y = true ↔ ¬ x = 0 ∧ ∀ i : Nat, y.toInt ≤ i → (i : Int) < (u.1 13 0).toInt → bt s i = true → k_has (u.1 24 c.toNatClampNeg) (u.1 16 i) = false) := by
  have hT := hR.bT
  intro n
  induction n with
  | zero => intro x y g0 g1 g2; exact absurd g2 (by decide)
  | succ n ih =>
    intro x y g0 g1 _
    unfold m_bears_L42
    rw [← hR.T]
    by_cases h : u.1 13 0 ≤ y
    · have h2 := xq_le h rfl rfl
      rw [if_pos h, bne_iff_ne]
      exact ⟨fun g => ⟨g, fun i a b => absurd b (by omega)⟩, fun g => g.1⟩
    · have h2 := xq_nle h rfl rfl
      have e := inc g0 h2 (by omega)
      have hy : (y.toNatClampNeg : Int) = y.toInt := by show ((y.toInt.toNat : Nat) : Int) = _; omega
      have i0 : m_bears_L42 v c s n 0 (y + 1) = true ↔ False := by
        rw [ih _ _ (by omega) (by omega) (by omega)]
        exact ⟨fun g => g.1 rfl, False.elim⟩
      have i1 := ih 1 (y + 1) (by omega) (by omega) (by omega)
      have key : (¬ (1 : Int32) = 0 ∧ ∀ i : Nat, (y + 1).toInt ≤ i → (i : Int) < (u.1 13 0).toInt → bt s i = true → k_has (u.1 24 c.toNatClampNeg) (u.1 16 i) = false) ∧ (bt s y.toNatClampNeg = true → k_has (u.1 24 c.toNatClampNeg) (u.1 16 y.toNatClampNeg) = false) ↔ ∀ i : Nat, y.toInt ≤ i → (i : Int) < (u.1 13 0).toInt → bt s i = true → k_has (u.1 24 c.toNatClampNeg) (u.1 16 i) = false := by
        constructor
        · intro g i a b
          rcases Int.lt_or_eq_of_le a with g1 | g1
          · exact g.1.2 i (by omega) b
          · have : i = y.toNatClampNeg := by omega
            rw [this]; exact g.2
        · intro g
          exact ⟨⟨by decide, fun i a b => g i (by omega) b⟩, g _ (by omega) (by omega)⟩
      rw [if_neg h, mhas, has_bt _ g0 (by omega), hR.hasPart h0 h1 g0 h2]
      by_cases hx : x = 0
      · rw [if_pos hx, i0]
        exact ⟨False.elim, fun g => g.1 hx⟩
      · rw [if_neg hx]
        unfold k_Hall_lacksPartOf
        cases hs : bt s y.toNatClampNeg with
        | false =>
          rw [if_pos bf0, i1]
          rw [hs] at key
          exact ⟨fun g => ⟨hx, key.mp ⟨g, fun k => absurd k (by decide)⟩⟩, fun g => (key.mpr g.2).1⟩
        | true =>
          rw [if_neg (by decide)]
          rw [hs] at key
          cases hl : k_has (u.1 24 c.toNatClampNeg) (u.1 16 y.toNatClampNeg) with
          | true =>
            rw [hl] at key
            rw [Bool.not_true, if_pos bf0, i0]
            exact ⟨False.elim, fun g => absurd ((key.mpr g.2).2 rfl) (by decide)⟩
          | false =>
            rw [hl] at key
            rw [if_neg (by decide), i1]
            exact ⟨fun g => ⟨hx, key.mp ⟨g, fun _ => rfl⟩⟩, fun g => (key.mpr g.2).1⟩
theorem Rel.mbears (hR : Rel u v) {c : Int32} (h0 : 0 ≤ c.toInt) (h1 : c.toInt < (u.1 13 1).toInt) (s : Int32) : m_bears v c s = true ↔ k_Hall_isBroken u c = false ∧ ¬ (u.1 18 c.toNatClampNeg < u.1 25 c.toNatClampNeg + m_cracksOf v c s) ∧ ∀ i : Nat, (i : Int) < (u.1 13 0).toInt → bt s i = true → k_has (u.1 24 c.toNatClampNeg) (u.1 16 i) = false := by
  have hT := hR.bT
  have z : (0 : Int32).toInt = 0 := rfl
  unfold m_bears
  have e0 : m_bears_L42 v c s 9 0 0 = true ↔ False := by
    rw [hR.bears_L h0 h1 s 9 0 0 (by decide) (by omega) (by decide)]
    exact ⟨fun g => g.1 rfl, False.elim⟩
  rw [hR.isBroken, hR.icracks h0 h1, ← (hR.cast (nlt h1 h0)).1]
  by_cases hb : b2i (k_Hall_isBroken u c) = 0
  · rw [if_pos hb]
    by_cases hl : u.1 18 c.toNatClampNeg < u.1 25 c.toNatClampNeg + m_cracksOf v c s
    · rw [if_pos hl, e0]; exact ⟨False.elim, fun g => g.2.1 hl⟩
    · rw [if_neg hl, hR.bears_L h0 h1 s 9 1 0 (by decide) (by omega) (by decide)]
      exact ⟨fun g => ⟨b2i_0.mp hb, hl, fun i a b => g.2 i (by omega) a b⟩, fun g => ⟨by decide, fun i _ a b => g.2.2 i a b⟩⟩
  · rw [if_neg hb, e0]; exact ⟨False.elim, fun g => hb (b2i_0.mpr g.1)⟩
theorem Rel.kbears (hR : Rel u v) {c : Int32} (h0 : 0 ≤ c.toInt) (h1 : c.toInt < (u.1 13 1).toInt) {s : Int32} (hs : ∀ i : Nat, bt s i = true → (i : Int) < (u.1 13 0).toInt ∧ bt (u.1 23 c.toNatClampNeg) i = false) : k_Planner_bears (k_Planner_reckon u c) c s = m_bears v c s := by
  have hT := hR.bT
  rw [Bool.eq_iff_iff, hR.mbears h0 h1]
  unfold k_Planner_bears
  have eb : k_Hall_isBroken (k_Planner_reckon u c) c = k_Hall_isBroken u c := by unfold k_Hall_isBroken; rw [kp_reckon u c (j := 21) (by decide) (by decide)]
  rw [eb, kp_reckon u c (j := 18) (by decide) (by decide), kp_reckon u c (j := 25) (by decide) (by decide), hR.cracksOf h0 h1]
  have el : (s &&& (k_Planner_learnable (k_Planner_reckon u c) c ^^^ (-1 : Int32))) = 0 ↔ ∀ i : Nat, (i : Int) < (u.1 13 0).toInt → bt s i = true → k_has (u.1 24 c.toNatClampNeg) (u.1 16 i) = false := by
    rw [sub_iff]
    constructor
    · intro g i a b
      exact ((learn_bt_r hR c c i).mp (g i (by omega) b)).2.2
    · intro g i a b
      have := hs i b
      exact (learn_bt_r hR c c i).mpr ⟨this.1, this.2, g i this.1 b⟩
  by_cases hb : b2i (k_Hall_isBroken u c) = 0
  · rw [if_pos hb]
    by_cases hl : (s &&& (k_Planner_learnable (k_Planner_reckon u c) c ^^^ (-1 : Int32))) = 0
    · rw [if_pos hl]
      by_cases hc : u.1 18 c.toNatClampNeg < u.1 25 c.toNatClampNeg + m_cracksOf v c s
      · rw [if_pos hc]; exact ⟨fun g => absurd g (by decide), fun g => absurd hc g.2.1⟩
      · rw [if_neg hc]; exact ⟨fun _ => ⟨b2i_0.mp hb, hc, el.mp hl⟩, fun _ => rfl⟩
    · rw [if_neg hl]; exact ⟨fun g => absurd g (by decide), fun g => absurd (el.mpr g.2.2) hl⟩
  · rw [if_neg hb]; exact ⟨fun g => absurd g (by decide), fun g => absurd (b2i_0.mpr g.1) hb⟩
theorem kth_none {s : Int32} : ∀ (n : Nat) (l x : Int32), 0 ≤ x.toInt → 8 - x.toInt < n → 1 ≤ n → (∀ i : Nat, x.toInt ≤ i → bt s i = false) → m_kth_L4 s n l x = -9 := by
  intro n
  induction n with
  | zero => intro l x h0 h1 h2; exact absurd h2 (by decide)
  | succ n ih =>
    intro l x h0 h1 _ hs
    unfold m_kth_L4
    by_cases h : (8 : Int32) ≤ x
    · rw [if_pos h]
    · have h2 := xq_nle h (a := 8) rfl rfl
      have e := inc h0 h2 (by omega)
      have hx : (x.toNatClampNeg : Int) = x.toInt := by show ((x.toInt.toNat : Nat) : Int) = _; omega
      rw [if_neg h, mhas, has_bt _ h0 (by omega), hs _ (by omega), if_pos bf0]
      exact ih _ _ (by omega) (by omega) (by omega) (fun i hi => hs i (by omega))
theorem kth_L {w : xU} (hT : 0 ≤ (w.1 13 0).toInt ∧ (w.1 13 0).toInt ≤ 8) {s k : Int32} (hk : 0 ≤ k.toInt ∧ k.toInt ≤ 7) (hs : ∀ i : Nat, bt s i = true → (i : Int) < (w.1 13 0).toInt) : ∀ (n : Nat) (x y : Int32), 0 ≤ y.toInt → 8 - y.toInt < n → 1 ≤ n → 0 ≤ x.toInt → x.toInt ≤ k.toInt → k_Planner_learntAt_L5 w s k n x y = m_kth_L4 s n (k - x) y := by
  intro n
  induction n with
  | zero => intro x y h0 h1 h2; exact absurd h2 (by decide)
  | succ n ih =>
    intro x y h0 h1 _ x0 x1
    by_cases h : w.1 13 0 ≤ y
    · have h2 := xq_le h rfl rfl
      have hn : ∀ i : Nat, y.toInt ≤ i → bt s i = false := fun i hi => by
        cases hb : bt s i with
        | false => rfl
        | true => exact absurd (hs i hb) (by omega)
      rw [kth_none (n + 1) _ _ h0 h1 (by omega) hn]
      unfold k_Planner_learntAt_L5
      rw [if_pos h]
    · have h2 := xq_nle h rfl rfl
      have e := inc h0 h2 (by omega)
      unfold k_Planner_learntAt_L5 m_kth_L4
      have h8 : ¬ (8 : Int32) ≤ y := fun g => by have := xq_le g (a := 8) rfl rfl; omega
      rw [if_neg h, if_neg h8, mhas]
      by_cases hb : b2i (k_has s y) = 0
      · rw [if_pos hb, if_pos hb]
        exact ih _ _ (by omega) (by omega) (by omega) x0 x1
      · rw [if_neg hb, if_neg hb]
        have ek : (k - x).toInt = k.toInt - x.toInt := xsub rfl rfl (by omega) (by omega)
        by_cases hx : x = k
        · rw [if_pos hx, if_pos (Int32.toInt_inj.mp (by rw [ek, hx]; show k.toInt - k.toInt = 0; omega))]
        · have hx' : ¬ x.toInt = k.toInt := fun g => hx (Int32.toInt_inj.mp g)
          rw [if_neg hx, if_neg (fun g => hx' (by have : (k - x).toInt = 0 := by rw [g]; rfl
                                                  omega))]
          have e1 : (x + 1).toInt = x.toInt + 1 := inc x0 (show x.toInt < 8 by omega) (by decide)
          rw [ih _ _ (by omega) (by omega) (by omega) (by omega) (by omega)]
          refine congrArg (fun z => m_kth_L4 s n z (y + 1)) (Int32.toInt_inj.mp ?_)
          have e2 : (k - (x + 1)).toInt = k.toInt - (x.toInt + 1) := xsub rfl e1 (by omega) (by omega)
          have e3 : ((k - x) + (-1 : Int32)).toInt = (k.toInt - x.toInt) + -1 := xadd ek rfl (by omega) (by omega)
          omega
theorem plan_tail (hR : Rel u v) {c s p : Int32} (h0 : 0 ≤ c.toInt) (h1 : c.toInt < (u.1 13 1).toInt) (hs : ∀ i : Nat, bt s i = true → (i : Int) < (u.1 13 0).toInt) (hp : -3 ≤ p.toInt ∧ p.toInt ≤ 7) : (if p = -3 then ((k_Planner_cracksOf (k_Planner_reckon u c) s), k_Planner_reckon u c) else (if p = -2 then ((k_Planner_nightsOf (k_Planner_reckon u c) s), k_Planner_reckon u c) else (if p = -1 then (s, k_Planner_reckon u c) else ((k_Planner_learntAt (k_Planner_reckon u c) s p), k_Planner_reckon u c)))) = ((if p = (-1 : Int32) then s else (if p = (-2 : Int32) then (m_nightsOf v c s) else (if p = (-3 : Int32) then (m_cracksOf v c s) else (m_kth s p)))), k_Planner_reckon u c) := by
  have n12 : ¬ (-1 : Int32) = -2 := by decide
  have n13 : ¬ (-1 : Int32) = -3 := by decide
  have n23 : ¬ (-2 : Int32) = -3 := by decide
  rw [hR.cracksOf h0 h1, hR.nightsOf h0 h1]
  by_cases a1 : p = -1
  · subst a1
    rw [if_neg n13, if_neg n12, if_pos rfl, if_pos rfl]
  by_cases a2 : p = -2
  · subst a2
    rw [if_neg n23, if_pos rfl, if_neg a1, if_pos rfl]
  by_cases a3 : p = -3
  · subst a3
    rw [if_pos rfl, if_neg a1, if_neg a2, if_pos rfl]
  rw [if_neg a3, if_neg a2, if_neg a1, if_neg a1, if_neg a2, if_neg a3]
  have b1 : ¬ p.toInt = -1 := fun g => a1 (Int32.toInt_inj.mp g)
  have b2 : ¬ p.toInt = -2 := fun g => a2 (Int32.toInt_inj.mp g)
  have b3 : ¬ p.toInt = -3 := fun g => a3 (Int32.toInt_inj.mp g)
  have z : (0 : Int32).toInt = 0 := rfl
  unfold k_Planner_learntAt m_kth
  rw [kth_L (w := k_Planner_reckon u c) (by rw [kp_reckon13]; exact hR.bT) ⟨by omega, hp.2⟩ (by rw [kp_reckon13]; exact hs) 9 0 0 (by decide) (by decide) (by decide) (by decide) (by omega), Int32.sub_zero]
theorem Rel.wits (hR : Rel u v) : ∀ c : Int32, 0 ≤ c.toInt → c.toInt < (v.1 0 5).toInt → ¬ (v.1 6 c.toNatClampNeg) = 0 := fun c h0 h1 g => by
  rw [← hR.C] at h1
  obtain ⟨k1, k2, k3, k4⟩ := hR.cast (nlt h1 h0)
  rw [k2, g] at k4
  exact absurd k4.1 (by decide)
theorem s_plan : St_plan Rel := by
  intro u v p1 p2 p3 hR
  refine ⟨⟨hR.bT, hR.bC⟩, ⟨hR.mT, hR.mC, hR.wits⟩, ?_⟩
  have hT := hR.bT
  rw [k_plan_def]
  unfold k_plan_b m_plan
  rw [hR.isCast, hR.isThing]
  by_cases h : b2i (k_Hall_isCast u p1) = 0
  · rw [if_pos h, if_pos h]; exact ⟨rfl, hR⟩
  have hc := cast_iff.mp (Bool.of_not_eq_false (fun g => h (b2i_0.mpr g)))
  rw [if_neg h, if_neg h]
  by_cases g : b2i (k_Hall_isThing u p2) = 0
  · rw [if_pos g, if_pos g]; exact ⟨rfl, hR⟩
  have gt := thing_iff.mp (Bool.of_not_eq_false (fun h => g (b2i_0.mpr h)))
  rw [if_neg g, if_neg g]
  have h7 : (7 : Int32).toInt = 7 := rfl
  by_cases c1 : p3 < -3
  · rw [if_pos c1, if_pos (in_f1 (xq_lt c1 rfl rfl))]; exact ⟨rfl, hR⟩
  rw [if_neg c1]
  by_cases c2 : p3 < 8
  rotate_left
  · rw [if_neg c2, if_pos (in_f2 (by have := xq_nlt c2 rfl (b := 8) rfl; omega))]; exact ⟨rfl, hR⟩
  have c1' := xq_nlt c1 rfl (b := -3) rfl
  have c2' := xq_lt c2 rfl (b := 8) rfl
  rw [if_pos c2, if_neg (in_t (xq_nlt c1 rfl rfl) (by omega))]
  dsimp only
  have hw := hR.wanted hc.1 hc.2 gt.1 gt.2
  have hs := hR.set_bt hc.1 hc.2 gt.1 gt.2
  have hbe := hR.kbears hc.1 hc.2 hs
  have ht := plan_tail hR (p := p3) hc.1 hc.2 (fun i hi => (hs i hi).1) ⟨c1', by omega⟩
  generalize k_Planner_toLearnFor u p1 p2 = s at hw hs hbe ht ⊢
  rw [ht]
  by_cases hcan : b2i (m_can v p1 p2) = 0
  · rw [if_pos hcan] at hw ⊢
    rw [← hw, hbe]
    by_cases hz : s = 0
    · rw [if_pos hz, if_pos hz]; exact ⟨rfl, hR.reckR p1⟩
    · rw [if_neg hz, if_neg hz]
      by_cases hb : b2i (m_bears v p1 s) = 0
      · rw [if_pos hb, if_pos hb]; exact ⟨rfl, hR.reckR p1⟩
      · rw [if_neg hb, if_neg hb]; exact ⟨rfl, hR.reckR p1⟩
  · rw [if_neg hcan] at hw ⊢
    rw [if_pos hw, hw]; exact ⟨rfl, hR.reckR p1⟩
end PL
