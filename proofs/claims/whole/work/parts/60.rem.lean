/-! ===== PURE: remembering, undoing ===== -/
theorem RP_rem {T C : Int} {nd row rows st st' rows' : Nat → Int32} {nx hd nx' hd' : Int32} (hT : T ≤ 8) (hC : C ≤ 6) (hm : RM T C nd row st) (hp : RP T C nd rows nx hd st) (hnx : nx'.toInt = (nx.toInt + 1) % 10) (hhd : hd'.toInt = if hd.toInt = 10 then 10 else hd.toInt + 1) (h74 : hd' = st' 74)
    (hrows : ∀ j, rows' j = if 74 * nx.toInt.toNat ≤ j ∧ j < 74 * nx.toInt.toNat + 74 then row (j - 74 * nx.toInt.toNat) else rows j)
    (hs1 : hd.toInt < 10 → (∀ j, j < 74 → st' (75 + (74 * hd.toInt.toNat + j)) = st j) ∧ ∀ i j : Nat, (i : Int) < hd.toInt → j < 74 → st' (75 + (74 * i + j)) = st (75 + (74 * i + j)))
    (hs2 : hd.toInt = 10 → (∀ j, j < 74 → st' (75 + (74 * 9 + j)) = st j) ∧ ∀ i j : Nat, i < 9 → j < 74 → st' (75 + (74 * i + j)) = st (75 + (74 * (i + 1) + j))) : RP T C nd rows' nx' hd' st' := by
  obtain ⟨p1, p2, p3, p4⟩ := hp
  have hnew : ∀ j, j < 74 → rows' (74 * nx.toInt.toNat + j) = row j := fun j hj => by
    rw [hrows, if_pos (by omega), Nat.add_sub_cancel_left]
  have hold : ∀ r j, r ≠ nx.toInt.toNat → j < 74 → rows' (74 * r + j) = rows (74 * r + j) := fun r j hr hj => by
    rw [hrows, if_neg (by omega)]
  by_cases h10 : hd.toInt = 10
  · rw [if_pos h10] at hhd
    obtain ⟨s1, s2⟩ := hs2 h10
    refine ⟨h74, by omega, by omega, fun i hi => ?_⟩
    by_cases hi9 : i = 9
    · have e : (nx'.toInt.toNat + 10 - hd'.toInt.toNat + i) % 10 = nx.toInt.toNat := by omega
      rw [e, hi9]
      exact hm.congr hT hC hnew (fun j hj => s1 j hj)
    · have e : (nx'.toInt.toNat + 10 - hd'.toInt.toNat + i) % 10 = (nx.toInt.toNat + 10 - hd.toInt.toNat + (i + 1)) % 10 := by omega
      rw [e]
      exact (p4 (i + 1) (by omega)).congr hT hC (fun j hj => hold _ j (by omega) hj) (fun j hj => s2 i j (by omega) hj)
  · rw [if_neg h10] at hhd
    obtain ⟨s1, s2⟩ := hs1 (by omega)
    refine ⟨h74, by omega, by omega, fun i hi => ?_⟩
    by_cases hih : (i : Int) = hd.toInt
    · have e : (nx'.toInt.toNat + 10 - hd'.toInt.toNat + i) % 10 = nx.toInt.toNat := by omega
      have e2 : i = hd.toInt.toNat := by omega
      rw [e, e2]
      exact hm.congr hT hC hnew (fun j hj => s1 j hj)
    · have e : (nx'.toInt.toNat + 10 - hd'.toInt.toNat + i) % 10 = (nx.toInt.toNat + 10 - hd.toInt.toNat + i) % 10 := by omega
      rw [e]
      exact (p4 i (by omega)).congr hT hC (fun j hj => hold _ j (by omega) hj) (fun j hj => s2 i j (by omega) hj)
theorem nxF {x : Int32} (h0 : 0 ≤ x.toInt) (h1 : x.toInt ≤ 9) : ((x + 1) - (x + 1) / 10 * 10).toInt = (x.toInt + 1) % 10 ∧ (x * 74).toInt = 74 * x.toInt ∧ ((x + 10 - 1) - (x + 10 - 1) / 10 * 10).toInt = (x.toInt + 9) % 10 := by
  obtain ⟨j, hj, rfl⟩ := xof8 (n := 10) h0 (by omega) (by decide)
  have : ∀ k : Fin 10, ((nI k.val + 1) - (nI k.val + 1) / 10 * 10).toInt = ((nI k.val).toInt + 1) % 10 ∧ (nI k.val * 74).toInt = 74 * (nI k.val).toInt ∧ ((nI k.val + 10 - 1) - (nI k.val + 10 - 1) / 10 * 10).toInt = ((nI k.val).toInt + 9) % 10 := by decide +kernel
  exact this ⟨j, hj⟩
theorem hdF {x : Int32} (h0 : 0 ≤ x.toInt) (h1 : x.toInt ≤ 10) : (if (10 : Int32) < x + 1 then (10 : Int32) else x + 1).toInt = if x.toInt = 10 then 10 else x.toInt + 1 := by
  obtain ⟨j, hj, rfl⟩ := xof8 (n := 11) h0 (by omega) (by decide)
  have : ∀ k : Fin 11, (if (10 : Int32) < nI k.val + 1 then (10 : Int32) else nI k.val + 1).toInt = if (nI k.val).toInt = 10 then 10 else (nI k.val).toInt + 1 := by decide +kernel
  exact this ⟨j, hj⟩
theorem rem_2 (u : xU) : (k_Past_remember u).2 = u.2 := by rw [k_Past_remember_def]; exact wr28_2 u _
theorem rem_27 (u : xU) (hN : 0 ≤ (u.1 27 1).toInt ∧ (u.1 27 1).toInt ≤ 9) (hH : 0 ≤ (u.1 27 2).toInt ∧ (u.1 27 2).toInt ≤ 10) : ((k_Past_remember u).1 27 1).toInt = ((u.1 27 1).toInt + 1) % 10 ∧ ((k_Past_remember u).1 27 2).toInt = if (u.1 27 2).toInt = 10 then 10 else (u.1 27 2).toInt + 1 := by
  have e : (k_Moment_writeTo_21_28 u (u.1 27 1 * 74)).1 27 = u.1 27 := kp_wr28 u _ (by decide)
  rw [k_Past_remember_def]; unfold k_Past_remember_b
  dsimp only
  rw [sp_eq, e, sp_eq, pk_un (by decide), pk_us, pk_us, pk_un (by decide)]
  exact ⟨(nxF hN.1 hN.2).1, hdF hH.1 hH.2⟩
theorem rem_28 (u : xU) (hN : 0 ≤ (u.1 27 1).toInt ∧ (u.1 27 1).toInt ≤ 9) (j : Nat) : (k_Past_remember u).1 28 j = if 74 * (u.1 27 1).toInt.toNat ≤ j ∧ j < 74 * (u.1 27 1).toInt.toNat + 74 then moU u (j - 74 * (u.1 27 1).toInt.toNat) else u.1 28 j := by
  rw [k_Past_remember_def]; unfold k_Past_remember_b
  dsimp only
  rw [sp_ne (by decide), sp_ne (by decide)]
  exact wr28 u (P := 74 * (u.1 27 1).toInt.toNat) (by rw [(nxF hN.1 hN.2).2.1]; omega) (by omega) j
/-! the model's -/
theorem L70_at (x1 : Int32) {X : Nat} (hX : x1.toInt = X) (hX1 : 75 ≤ X ∧ X ≤ 741) : ∀ (n : Nat) (x : Int32) (w : xU), 0 ≤ x.toInt → 74 - x.toInt < n → 1 ≤ n → ∀ k : Nat, (m_remembers_L70 x1 n x w).1 7 k = if k = 74 then w.1 7 74 + 1 else if X + x.toInt.toNat ≤ k ∧ k < X + 74 then w.1 7 (k - X) else w.1 7 k := by
  intro n
  induction n with
  | zero => intro x w h0 h1 h2; exact absurd h2 (by decide)
  | succ n ih =>
    intro x w h0 h1 _ k
    unfold m_remembers_L70
    by_cases h : (74 : Int32) ≤ x
    · have h2 := xq_le h (a := 74) rfl rfl
      rw [if_pos h]
      dsimp only
      rw [sp_eq]
      by_cases hk : k = 74
      · rw [if_pos hk, hk, pk_us]
      · rw [if_neg hk, pk_un hk, if_neg (by omega)]
    · have h2 := xq_nle h (a := 74) rfl rfl
      have e := inc h0 h2 (by omega)
      have ex : (x1 + x).toInt = X + x.toInt := xadd hX rfl (by omega) (by omega)
      have en : (x1 + x).toNatClampNeg = X + x.toInt.toNat := by show (x1 + x).toInt.toNat = _; omega
      have ex0 : x.toNatClampNeg = x.toInt.toNat := rfl
      rw [if_neg h]
      dsimp only
      rw [ih _ _ (by omega) (by omega) (by omega), sp_eq, en, ex0, e]
      by_cases hk : k = 74
      · rw [if_pos hk, if_pos hk, pk_un (by omega)]
      · rw [if_neg hk, if_neg hk]
        by_cases h3 : k = X + x.toInt.toNat
        · rw [if_neg (by omega), if_pos (by omega), h3, pk_us]; exact congrArg (w.1 7) (by omega)
        · by_cases h4 : X + x.toInt.toNat ≤ k ∧ k < X + 74
          · rw [if_pos (by omega), if_pos h4, pk_un (by omega)]
          · rw [if_neg (by omega), if_neg h4, pk_un h3]
theorem L15_at : ∀ (n : Nat) (x : Int32) (w : xU), 75 ≤ x.toInt → x.toInt ≤ 741 → 741 - x.toInt < n → 1 ≤ n → (w.1 7 74).toInt = 10 → ∀ k : Nat, (m_remembers_L15 n x w).1 7 k = if k = 74 then w.1 7 74 - 1 + 1 else if 741 ≤ k ∧ k < 815 then w.1 7 (k - 741) else if x.toInt.toNat ≤ k ∧ k < 741 then w.1 7 (k + 74) else w.1 7 k := by
  intro n
  induction n with
  | zero => intro x w h0 h1 h2 h3; exact absurd h3 (by decide)
  | succ n ih =>
    intro x w h0 h00 h1 _ hw k
    unfold m_remembers_L15
    by_cases h : (741 : Int32) ≤ x
    · have h2 := xq_le h (a := 741) rfl rfl
      have e1 : (w.1 7 74 - 1).toInt = 9 := xsub hw (b := 1) rfl (by decide) (by decide)
      have e2 : ((74 : Int32) * (w.1 7 74 - 1)).toInt = 74 * 9 := xmul rfl e1 (by decide) (by decide)
      have e3 : ((75 : Int32) + (74 : Int32) * (w.1 7 74 - 1)).toInt = 75 + 74 * 9 := xadd rfl e2 (by decide) (by decide)
      rw [if_pos h]
      dsimp only
      rw [sp_eq, pk_us, L70_at _ (X := 741) e3 (by decide) 75 0 _ (by decide) (by decide) (by decide), sp_eq, pk_us]
      have z : (0 : Int32).toInt.toNat = 0 := rfl
      rw [z]
      by_cases hk : k = 74
      · rw [if_pos hk, if_pos hk]
      · rw [if_neg hk, if_neg hk]
        by_cases h4 : 741 ≤ k ∧ k < 815
        · rw [if_pos (by omega), if_pos h4, pk_un (by omega)]
        · rw [if_neg (by omega), if_neg h4, if_neg (by omega), pk_un hk]
    · have h2 := xq_nle h (a := 741) rfl rfl
      have e := inc (show 0 ≤ x.toInt by omega) h2 (by omega)
      have ex : (x + 74).toInt = x.toInt + 74 := xadd rfl (b := 74) rfl (by omega) (by omega)
      have en : (x + 74).toNatClampNeg = x.toInt.toNat + 74 := by show (x + 74).toInt.toNat = _; omega
      have ex0 : x.toNatClampNeg = x.toInt.toNat := rfl
      rw [if_neg h]
      dsimp only
      rw [ih _ _ (by omega) (by omega) (by omega) (by omega) (by rw [sp_eq, pk_un (by rw [ex0]; omega)]; exact hw), sp_eq, en, ex0, e]
      by_cases hk : k = 74
      · rw [if_pos hk, if_pos hk, pk_un (by omega)]
      · rw [if_neg hk, if_neg hk]
        by_cases h4 : 741 ≤ k ∧ k < 815
        · rw [if_pos h4, if_pos h4, pk_un (by omega)]
        · rw [if_neg h4, if_neg h4]
          by_cases h3 : k = x.toInt.toNat
          · rw [if_neg (by omega), if_pos (by omega), h3, pk_us]
          · by_cases h5 : x.toInt.toNat ≤ k ∧ k < 741
            · rw [if_pos (by omega), if_pos h5, pk_un (by omega)]
            · rw [if_neg (by omega), if_neg h5, pk_un h3]
theorem mrem_2 (u : xU) : (m_remembers u).2 = u.2 := by
  have h70 : ∀ (x1 : Int32) (n : Nat) (x : Int32) (w : xU), (m_remembers_L70 x1 n x w).2 = w.2 := by
    intro x1 n
    induction n with
    | zero => intro x w; rfl
    | succ n ih =>
      intro x w
      unfold m_remembers_L70
      split
      · rfl
      · exact ih _ _
  have h15 : ∀ (n : Nat) (x : Int32) (w : xU), (m_remembers_L15 n x w).2 = w.2 := by
    intro n
    induction n with
    | zero => intro x w; rfl
    | succ n ih =>
      intro x w
      unfold m_remembers_L15
      split
      · exact h70 _ _ _ _
      · exact ih _ _
  rw [m_remembers_def]; unfold m_remembers_b
  split
  · exact h15 _ _ _
  · exact h70 _ _ _ _
theorem mrem_lt (u : xU) (h0 : 0 ≤ (u.1 7 74).toInt) (h1 : (u.1 7 74).toInt < 10) (k : Nat) : (m_remembers u).1 7 k = if k = 74 then u.1 7 74 + 1 else if 75 + 74 * (u.1 7 74).toInt.toNat ≤ k ∧ k < 75 + 74 * (u.1 7 74).toInt.toNat + 74 then u.1 7 (k - (75 + 74 * (u.1 7 74).toInt.toNat)) else u.1 7 k := by
  have e2 : ((74 : Int32) * u.1 7 74).toInt = 74 * (u.1 7 74).toInt := xmul rfl rfl (by omega) (by omega)
  have e3 : ((75 : Int32) + (74 : Int32) * u.1 7 74).toInt = 75 + 74 * (u.1 7 74).toInt := xadd rfl e2 (by omega) (by omega)
  rw [m_remembers_def]; unfold m_remembers_b
  rw [if_neg (fun h => absurd (show (u.1 7 74).toInt = 10 by rw [h]; rfl) (by omega))]
  dsimp only
  rw [L70_at _ (X := 75 + 74 * (u.1 7 74).toInt.toNat) (by rw [e3]; omega) (by omega) 75 0 u (by decide) (by decide) (by decide)]
  rfl
theorem mrem_10 (u : xU) (h : (u.1 7 74).toInt = 10) (k : Nat) : (m_remembers u).1 7 k = if k = 74 then u.1 7 74 else if 741 ≤ k ∧ k < 815 then u.1 7 (k - 741) else if 75 ≤ k ∧ k < 741 then u.1 7 (k + 74) else u.1 7 k := by
  rw [m_remembers_def]; unfold m_remembers_b
  rw [if_pos (Int32.toInt_inj.mp (show (u.1 7 74).toInt = 10 from h))]
  rw [L15_at 742 75 u (by decide) (by decide) (by decide) (by decide) h k]
  have e : u.1 7 74 - 1 + 1 = u.1 7 74 := by rw [Int32.sub_add_cancel]
  rw [e]
  rfl
theorem rem_RP {u v : xU} (hR : Rel u v) : RP (uT (u.1 13)) (uC (u.1 13)) (u.1 17) ((k_Past_remember u).1 28) ((k_Past_remember u).1 27 1) ((k_Past_remember u).1 27 2) ((m_remembers v).1 7) := by
  obtain ⟨p1, p2, p3, p4⟩ := hR.P
  have hv : 0 ≤ (v.1 7 74).toInt ∧ (v.1 7 74).toInt ≤ 10 := p1 ▸ p2
  obtain ⟨e1, e2⟩ := rem_27 u p3 p2
  refine RP_rem hR.bT.2 hR.bC.2 hR.M hR.P e1 e2 ?_ (fun j => rem_28 u p3 j) (fun h => ?_) (fun h => ?_)
  · refine Int32.toInt_inj.mp ?_
    rw [e2]
    by_cases h : (u.1 27 2).toInt = 10
    · rw [if_pos h, mrem_10 v (p1 ▸ h), if_pos rfl, ← p1, h]
    · rw [if_neg h, mrem_lt v hv.1 (by rw [← p1]; omega), if_pos rfl, ← p1]
      exact (xadd rfl (b := 1) rfl (by omega) (by omega)).symm
  · rw [p1] at h
    constructor
    · intro j hj
      rw [mrem_lt v hv.1 h, if_neg (by omega), p1, if_pos (by omega)]
      exact congrArg (v.1 7) (by omega)
    · intro i j hi hj
      rw [p1] at hi
      rw [mrem_lt v hv.1 h, if_neg (by omega), if_neg (by omega)]
  · rw [p1] at h
    constructor
    · intro j hj
      rw [mrem_10 v h, if_neg (by omega), if_pos (by omega)]
      exact congrArg (v.1 7) (by omega)
    · intro i j hi hj
      rw [mrem_10 v h, if_neg (by omega), if_neg (by omega), if_pos (by omega)]
      exact congrArg (v.1 7) (by omega)
/-- a state that differs in the moment and in what may be undone alone -/
theorem Rel.moment {u v u' v' : xU} (hR : Rel u v) (hu : ∀ j, (j < 21 ∨ 28 < j) → u'.1 j = u.1 j) (hv : ∀ j, j ≠ 7 → v'.1 j = v.1 j) (h2 : u'.2 = u.2) (h3 : v'.2 = v.2) (hS : RS (uT (u.1 13)) (uC (u.1 13)) (u.1 17) (moU u') (u'.1 28) (u'.1 27 1) (u'.1 27 2) (v'.1 7)) : Rel u' v' := by
  unfold Rel Rk Rs
  rw [hu 13 (by decide), hu 14 (by decide), hu 15 (by decide), hu 16 (by decide), hu 17 (by decide), hu 18 (by decide), hu 19 (by decide), hu 30 (by decide), hu 31 (by decide), hu 32 (by decide), hu 33 (by decide), hu 34 (by decide), hu 35 (by decide), hu 36 (by decide), hu 37 (by decide), hu 1 (by decide), hu 2 (by decide), hu 4 (by decide), hu 44 (by decide), hu 45 (by decide), hu 46 (by decide), hv 0 (by decide), hv 1 (by decide), hv 2 (by decide), hv 3 (by decide), hv 4 (by decide), hv 5 (by decide), hv 6 (by decide), hv 8 (by decide), hv 9 (by decide), hv 10 (by decide), hv 11 (by decide), h2, h3]
  exact ⟨hR.1, hS, hR.2.2⟩
/-! undo -/
theorem undo_L (x1 : Int32) {X : Nat} (hX : x1.toInt = X) (hX1 : 75 ≤ X ∧ X ≤ 741) : ∀ (n : Nat) (x : Int32) (w : xU), 0 ≤ x.toInt → 74 - x.toInt < n → 1 ≤ n → ((m_undo_L40 x1 n x w).1 = w.1 7 74 ∧ (m_undo_L40 x1 n x w).2.2 = w.2 ∧ (∀ j, j ≠ 7 → (m_undo_L40 x1 n x w).2.1 j = w.1 j) ∧ ∀ k : Nat, (m_undo_L40 x1 n x w).2.1 7 k = if x.toInt.toNat ≤ k ∧ k < 74 then w.1 7 (X + k) else w.1 7 k) := by
  intro n
  induction n with
  | zero => intro x w h0 h1 h2; exact absurd h2 (by decide)
  | succ n ih =>
    intro x w h0 h1 _
    unfold m_undo_L40
    by_cases h : (74 : Int32) ≤ x
    · have h2 := xq_le h (a := 74) rfl rfl
      rw [if_pos h]
      refine ⟨rfl, rfl, fun j _ => rfl, fun k => ?_⟩
      rw [if_neg (by omega)]
    · have h2 := xq_nle h (a := 74) rfl rfl
      have e := inc h0 h2 (by omega)
      have ex : (x1 + x).toInt = X + x.toInt := xadd hX rfl (by omega) (by omega)
      have en : (x1 + x).toNatClampNeg = X + x.toInt.toNat := by show (x1 + x).toInt.toNat = _; omega
      have ex0 : x.toNatClampNeg = x.toInt.toNat := rfl
      rw [if_neg h]
      dsimp only
      obtain ⟨i1, i2, i3, i4⟩ := ih (x + 1) (sp w 7 (upd (w.1 7) x.toNatClampNeg (w.1 7 (x1 + x).toNatClampNeg))) (by omega) (by omega) (by omega)
      refine ⟨by rw [i1, sp_eq, pk_un (by rw [ex0]; omega)], i2, fun j hj => by rw [i3 j hj, sp_ne hj], fun k => ?_⟩
      rw [i4 k, sp_eq, en, ex0, e]
      by_cases h3 : k = x.toInt.toNat
      · rw [if_neg (by omega), if_pos (by omega), h3, pk_us]
      · by_cases h5 : x.toInt.toNat ≤ k ∧ k < 74
        · rw [if_pos (by omega), if_pos h5, pk_un (by omega)]
        · rw [if_neg (by omega), if_neg h5, pk_un h3]
theorem s_undo : St_undo Rel := by
  intro u v hR
  obtain ⟨p1, p2, p3, p4⟩ := hR.P
  refine ⟨p3, p1 ▸ p2, ?_⟩
  rw [k_undo_def, m_undo_def]
  unfold k_undo_b m_undo_b
  by_cases h : u.1 27 2 = 0
  · rw [if_pos h, if_pos (by rw [← p1]; exact h)]; exact ⟨rfl, hR⟩
  rw [if_neg h, if_neg (by rw [← p1]; exact h)]
  have h1 : ¬ (u.1 27 2).toInt = 0 := fun g => h (Int32.toInt_inj.mp g)
  have e1 : (u.1 27 2 - 1).toInt = (u.1 27 2).toInt - 1 := xsub rfl (b := 1) rfl (by omega) (by omega)
  have e2 : ((74 : Int32) * (u.1 27 2 - 1)).toInt = 74 * ((u.1 27 2).toInt - 1) := xmul rfl e1 (by omega) (by omega)
  have e3 : ((75 : Int32) + (74 : Int32) * (u.1 27 2 - 1)).toInt = 75 + 74 * ((u.1 27 2).toInt - 1) := xadd rfl e2 (by omega) (by omega)
  dsimp only
  rw [sp_eq, pk_us, ← p1]
  obtain ⟨i1, i2, i3, i4⟩ := undo_L _ (X := 75 + 74 * ((u.1 27 2).toInt.toNat - 1)) (by rw [e3]; omega) (by omega) 75 0 (sp v 7 (upd (v.1 7) 74 (u.1 27 2 - 1))) (by decide) (by decide) (by decide)
  obtain ⟨n1, -, n3⟩ := nxF p3.1 p3.2
  have hz : (0 : Int32).toInt.toNat = 0 := rfl
  rw [i1, sp_eq, pk_us]
  rw [hz, sp_eq] at i4
  -- the class
  have c27 : (k_Past_recall u).1 27 1 = (u.1 27 1 + 10 - 1) - (u.1 27 1 + 10 - 1) / 10 * 10 ∧ (k_Past_recall u).1 27 2 = u.1 27 2 - 1 := by
    rw [k_Past_recall_def]; unfold k_Past_recall_b
    dsimp only
    rw [rd28_o _ _ (by decide), sp_eq, pk_un (by decide), pk_us, sp_eq, pk_us, pk_un (by decide)]
    exact ⟨rfl, rfl⟩
  have co : ∀ j, (j < 21 ∨ 27 < j) → (k_Past_recall u).1 j = u.1 j := by
    intro j hj
    rw [k_Past_recall_def]; unfold k_Past_recall_b
    dsimp only
    rw [rd28_o _ _ (by omega), sp_ne (by omega), sp_ne (by omega)]
  have c2 : (k_Past_recall u).2 = u.2 := by
    rw [k_Past_recall_def]; exact rd28_2 _ _
  have hnx : ((u.1 27 1 + 10 - 1) - (u.1 27 1 + 10 - 1) / 10 * 10 : Int32).toInt = ((u.1 27 1).toInt + 9) % 10 := n3
  have cm : ∀ j, j < 74 → moU (k_Past_recall u) j = u.1 28 (74 * (((u.1 27 1).toInt.toNat + 9) % 10) + j) := by
    intro j hj
    have hr := nxF (x := (u.1 27 1 + 10 - 1) - (u.1 27 1 + 10 - 1) / 10 * 10) (by omega) (by omega)
    rw [k_Past_recall_def]; unfold k_Past_recall_b
    dsimp only
    rw [rd28 _ (P := 74 * (((u.1 27 1).toInt.toNat + 9) % 10)) ?_ (by omega) hj]
    · rw [sp_ne (by decide), sp_ne (by decide)]
    · rw [sp_eq, pk_un (by decide), sp_eq, pk_us, hr.2.1, hnx]
      omega
  rw [c27.2]
  refine ⟨rfl, hR.moment (fun j hj => co j (by omega)) (fun j hj => by rw [i3 j hj, sp_ne hj]) c2 i2 ⟨?_, ?_, ?_, ?_, ?_⟩⟩
  · have hp := p4 ((u.1 27 2).toInt.toNat - 1) (by omega)
    have em : (((u.1 27 1).toInt.toNat + 10 - (u.1 27 2).toInt.toNat + ((u.1 27 2).toInt.toNat - 1)) % 10) = ((u.1 27 1).toInt.toNat + 9) % 10 := by omega
    rw [em] at hp
    refine hp.congr hR.bT.2 hR.bC.2 cm (fun j hj => ?_)
    rw [i4 j, if_pos (by omega), pk_un (by omega)]
    exact congrArg (v.1 7) (by omega)
  · rw [c27.2, i4 74, if_neg (by omega), pk_us]
  · rw [c27.2]; omega
  · rw [c27.1]; omega
  · intro i hi
    rw [c27.2] at hi
    have hp := p4 i (by omega)
    rw [c27.1, c27.2, co 28 (by decide), hnx, e1]
    have em : (((((u.1 27 1).toInt + 9) % 10).toNat + 10 - ((u.1 27 2).toInt - 1).toNat + i) % 10) = (((u.1 27 1).toInt.toNat + 10 - (u.1 27 2).toInt.toNat + i) % 10) := by omega
    rw [em]
    refine hp.congr hR.bT.2 hR.bC.2 (fun j _ => rfl) (fun j hj => ?_)
    rw [i4, if_neg (by omega), pk_un (by omega)]
