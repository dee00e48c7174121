/-! ===== PURE: images ===== -/
theorem keep_L (x1 : Int32) {X : Nat} (hX : ((815 : Int32) * x1).toInt = X) (hX1 : X ≤ 815) : ∀ (n : Nat) (x : Int32) (w : xU), 0 ≤ x.toInt → 815 - x.toInt < n → 1 ≤ n → ((m_keep_L13 x1 n x w).1 = w.1 7 0 ∧ (m_keep_L13 x1 n x w).2.2 = w.2 ∧ (∀ j, j ≠ 8 → j ≠ 9 → (m_keep_L13 x1 n x w).2.1 j = w.1 j) ∧ (m_keep_L13 x1 n x w).2.1 9 = upd (w.1 9) x1.toNatClampNeg 1 ∧ ∀ k : Nat, (m_keep_L13 x1 n x w).2.1 8 k = if X + x.toInt.toNat ≤ k ∧ k < X + 815 then w.1 7 (k - X) else w.1 8 k) := by
  intro n
  induction n with
  | zero => intro x w h0 h1 h2; exact absurd h2 (by decide)
  | succ n ih =>
    intro x w h0 h1 _
    unfold m_keep_L13
    by_cases h : (815 : Int32) ≤ x
    · have h2 := xq_le h (a := 815) rfl rfl
      rw [if_pos h]
      refine ⟨rfl, rfl, fun j h8 h9 => sp_ne h9, sp_eq, fun k => ?_⟩
      rw [if_neg (by omega)]; rfl
    · have h2 := xq_nle h (a := 815) rfl rfl
      have e := inc h0 h2 (by omega)
      have ex : ((815 : Int32) * x1 + x).toInt = X + x.toInt := xadd hX rfl (by omega) (by omega)
      have en : ((815 : Int32) * x1 + x).toNatClampNeg = X + x.toInt.toNat := by show ((815 : Int32) * x1 + x).toInt.toNat = _; omega
      have ex0 : x.toNatClampNeg = x.toInt.toNat := rfl
      rw [if_neg h]
      dsimp only
      obtain ⟨i1, i2, i3, i5, i4⟩ := ih (x + 1) (sp w 8 (upd (w.1 8) ((815 : Int32) * x1 + x).toNatClampNeg (w.1 7 x.toNatClampNeg))) (by omega) (by omega) (by omega)
      refine ⟨i1, i2, fun j h8 h9 => by rw [i3 j h8 h9, sp_ne h8], by rw [i5, sp_ne (by decide)], fun k => ?_⟩
      rw [i4 k, sp_eq, sp_ne (by decide), en, ex0, e]
      by_cases h3 : k = X + x.toInt.toNat
      · rw [if_neg (by omega), if_pos (by omega), h3, pk_us]; exact congrArg (w.1 7) (by omega)
      · by_cases h5 : X + x.toInt.toNat ≤ k ∧ k < X + 815
        · rw [if_pos (by omega), if_pos h5]
        · rw [if_neg (by omega), if_neg h5, pk_un h3]
theorem back_L (x1 : Int32) {X : Nat} (hX : ((815 : Int32) * x1).toInt = X) (hX1 : X ≤ 815) : ∀ (n : Nat) (x : Int32) (w : xU), 0 ≤ x.toInt → 815 - x.toInt < n → 1 ≤ n → ((m_back_L25 x1 n x w).1 = (m_back_L25 x1 n x w).2.1 7 0 ∧ (m_back_L25 x1 n x w).2.2 = w.2 ∧ (∀ j, j ≠ 7 → (m_back_L25 x1 n x w).2.1 j = w.1 j) ∧ ∀ k : Nat, (m_back_L25 x1 n x w).2.1 7 k = if x.toInt.toNat ≤ k ∧ k < 815 then w.1 8 (X + k) else w.1 7 k) := by
  intro n
  induction n with
  | zero => intro x w h0 h1 h2; exact absurd h2 (by decide)
  | succ n ih =>
    intro x w h0 h1 _
    unfold m_back_L25
    by_cases h : (815 : Int32) ≤ x
    · have h2 := xq_le h (a := 815) rfl rfl
      rw [if_pos h]
      refine ⟨rfl, rfl, fun j _ => rfl, fun k => ?_⟩
      rw [if_neg (by omega)]
    · have h2 := xq_nle h (a := 815) rfl rfl
      have e := inc h0 h2 (by omega)
      have ex : ((815 : Int32) * x1 + x).toInt = X + x.toInt := xadd hX rfl (by omega) (by omega)
      have en : ((815 : Int32) * x1 + x).toNatClampNeg = X + x.toInt.toNat := by show ((815 : Int32) * x1 + x).toInt.toNat = _; omega
      have ex0 : x.toNatClampNeg = x.toInt.toNat := rfl
      rw [if_neg h]
      dsimp only
      obtain ⟨i1, i2, i3, i4⟩ := ih (x + 1) (sp w 7 (upd (w.1 7) x.toNatClampNeg (w.1 8 ((815 : Int32) * x1 + x).toNatClampNeg))) (by omega) (by omega) (by omega)
      refine ⟨i1, i2, fun j h7 => by rw [i3 j h7, sp_ne h7], fun k => ?_⟩
      rw [i4 k, sp_eq, sp_ne (by decide), en, ex0, e]
      by_cases h3 : k = x.toInt.toNat
      · rw [if_neg (by omega), if_pos (by omega), h3, pk_us]
      · by_cases h5 : x.toInt.toNat ≤ k ∧ k < 815
        · rw [if_pos (by omega), if_pos h5]
        · rw [if_neg (by omega), if_neg h5, pk_un h3]
theorem Rel.img0 {u v u' v' : xU} (hR : Rel u v) (hu : ∀ j, (j < 30 ∨ 33 < j) → u'.1 j = u.1 j) (hv : ∀ j, j ≠ 8 → j ≠ 9 → v'.1 j = v.1 j) (h2 : u'.2 = u.2) (h3 : v'.2 = v.2)
    (hI : RI1 (uT (u.1 13)) (uC (u.1 13)) (u.1 17) (u'.1 30) (u'.1 31) (u'.1 32) (u'.1 33) (v'.1 8) (v'.1 9 0) 0) (hJ : RI1 (uT (u.1 13)) (uC (u.1 13)) (u.1 17) (u.1 34) (u.1 35) (u.1 36) (u.1 37) (v'.1 8) (v'.1 9 1) 815) : Rel u' v' := by
  unfold Rel Rk Rs
  rw [hu 13 (by decide), hu 14 (by decide), hu 15 (by decide), hu 16 (by decide), hu 17 (by decide), hu 18 (by decide), hu 19 (by decide), hu 21 (by decide), hu 22 (by decide), hu 23 (by decide), hu 24 (by decide), hu 25 (by decide), hu 26 (by decide), hu 27 (by decide), hu 28 (by decide), hu 34 (by decide), hu 35 (by decide), hu 36 (by decide), hu 37 (by decide), hu 1 (by decide), hu 2 (by decide), hu 4 (by decide), hu 44 (by decide), hu 45 (by decide), hu 46 (by decide), hv 0 (by decide) (by decide), hv 1 (by decide) (by decide), hv 2 (by decide) (by decide), hv 3 (by decide) (by decide), hv 4 (by decide) (by decide), hv 5 (by decide) (by decide), hv 6 (by decide) (by decide), hv 7 (by decide) (by decide), hv 10 (by decide) (by decide), hv 11 (by decide) (by decide), h2, h3]
  exact ⟨hR.1, hR.2.1, hI, hJ, hR.2.2.2.2⟩
theorem Rel.img1 {u v u' v' : xU} (hR : Rel u v) (hu : ∀ j, (j < 34 ∨ 37 < j) → u'.1 j = u.1 j) (hv : ∀ j, j ≠ 8 → j ≠ 9 → v'.1 j = v.1 j) (h2 : u'.2 = u.2) (h3 : v'.2 = v.2)
    (hI : RI1 (uT (u.1 13)) (uC (u.1 13)) (u.1 17) (u.1 30) (u.1 31) (u.1 32) (u.1 33) (v'.1 8) (v'.1 9 0) 0) (hJ : RI1 (uT (u.1 13)) (uC (u.1 13)) (u.1 17) (u'.1 34) (u'.1 35) (u'.1 36) (u'.1 37) (v'.1 8) (v'.1 9 1) 815) : Rel u' v' := by
  unfold Rel Rk Rs
  rw [hu 13 (by decide), hu 14 (by decide), hu 15 (by decide), hu 16 (by decide), hu 17 (by decide), hu 18 (by decide), hu 19 (by decide), hu 21 (by decide), hu 22 (by decide), hu 23 (by decide), hu 24 (by decide), hu 25 (by decide), hu 26 (by decide), hu 27 (by decide), hu 28 (by decide), hu 30 (by decide), hu 31 (by decide), hu 32 (by decide), hu 33 (by decide), hu 1 (by decide), hu 2 (by decide), hu 4 (by decide), hu 44 (by decide), hu 45 (by decide), hu 46 (by decide), hv 0 (by decide) (by decide), hv 1 (by decide) (by decide), hv 2 (by decide) (by decide), hv 3 (by decide) (by decide), hv 4 (by decide) (by decide), hv 5 (by decide) (by decide), hv 6 (by decide) (by decide), hv 7 (by decide) (by decide), hv 10 (by decide) (by decide), hv 11 (by decide) (by decide), h2, h3]
  exact ⟨hR.1, hR.2.1, hI, hJ, hR.2.2.2.2⟩
theorem cpy740 (f g : Nat → Int32) {j : Nat} (h : j < 740) : va_cpy f g 0 0 740 j = f j := by
  unfold va_cpy; rw [if_pos (by omega)]; exact congrArg f (by omega)
theorem take30 (u : xU) : (∀ j, (j < 30 ∨ 33 < j) → (k_Image_take_30_21_27 u).1 j = u.1 j) ∧ (k_Image_take_30_21_27 u).2 = u.2 ∧ (k_Image_take_30_21_27 u).1 30 2 = 1 ∧ (∀ j, j < 74 → (k_Image_take_30_21_27 u).1 31 j = moU u j) ∧ (k_Image_take_30_21_27 u).1 32 1 = u.1 27 1 ∧ (k_Image_take_30_21_27 u).1 32 2 = u.1 27 2 ∧ ∀ j, j < 740 → (k_Image_take_30_21_27 u).1 33 j = u.1 28 j := by
  rw [k_Image_take_30_21_27_def]; unfold k_Image_take_30_21_27_b
  rw [k_Past_become_32_27_def]; unfold k_Past_become_32_27_b
  dsimp only
  simp only [cl0, cl740]
  refine ⟨fun j hj => ?_, wr31_2 u _, ?_, fun j hj => ?_, ?_, ?_, fun j hj => ?_⟩
  · rw [sp_ne (by omega), sp_ne (by omega), sp_ne (by omega), sp_ne (by omega), wr31_o _ _ (by omega)]
  · rw [sp_eq, pk_us]
  · rw [sp_ne (by decide), sp_ne (by decide), sp_ne (by decide), sp_ne (by decide), wr31, if_pos hj]
  · rw [sp_ne (by decide), sp_eq, pk_un (by decide), sp_eq, pk_us, wr31_o _ _ (by decide)]
  · rw [sp_ne (by decide), sp_eq, pk_us, wr31_o _ _ (by decide)]
  · rw [sp_ne (by decide), sp_ne (by decide), sp_ne (by decide), sp_eq, cpy740 _ _ hj, wr31_o _ _ (by decide)]
theorem take34 (u : xU) : (∀ j, (j < 34 ∨ 37 < j) → (k_Image_take_34_21_27 u).1 j = u.1 j) ∧ (k_Image_take_34_21_27 u).2 = u.2 ∧ (k_Image_take_34_21_27 u).1 34 2 = 1 ∧ (∀ j, j < 74 → (k_Image_take_34_21_27 u).1 35 j = moU u j) ∧ (k_Image_take_34_21_27 u).1 36 1 = u.1 27 1 ∧ (k_Image_take_34_21_27 u).1 36 2 = u.1 27 2 ∧ ∀ j, j < 740 → (k_Image_take_34_21_27 u).1 37 j = u.1 28 j := by
  rw [k_Image_take_34_21_27_def]; unfold k_Image_take_34_21_27_b
  rw [k_Past_become_36_27_def]; unfold k_Past_become_36_27_b
  dsimp only
  simp only [cl0, cl740]
  refine ⟨fun j hj => ?_, wr35_2 u _, ?_, fun j hj => ?_, ?_, ?_, fun j hj => ?_⟩
  · rw [sp_ne (by omega), sp_ne (by omega), sp_ne (by omega), sp_ne (by omega), wr35_o _ _ (by omega)]
  · rw [sp_eq, pk_us]
  · rw [sp_ne (by decide), sp_ne (by decide), sp_ne (by decide), sp_ne (by decide), wr35, if_pos hj]
  · rw [sp_ne (by decide), sp_eq, pk_un (by decide), sp_eq, pk_us, wr35_o _ _ (by decide)]
  · rw [sp_ne (by decide), sp_eq, pk_us, wr35_o _ _ (by decide)]
  · rw [sp_ne (by decide), sp_ne (by decide), sp_ne (by decide), sp_eq, cpy740 _ _ hj, wr35_o _ _ (by decide)]
theorem give30 (u : xU) : (∀ j, (j < 21 ∨ 28 < j) → (k_Image_give_30_21_27 u).1 j = u.1 j) ∧ (k_Image_give_30_21_27 u).2 = u.2 ∧ (∀ j, j < 74 → moU (k_Image_give_30_21_27 u) j = u.1 31 j) ∧ (k_Image_give_30_21_27 u).1 27 1 = u.1 32 1 ∧ (k_Image_give_30_21_27 u).1 27 2 = u.1 32 2 ∧ ∀ j, j < 740 → (k_Image_give_30_21_27 u).1 28 j = u.1 33 j := by
  rw [k_Image_give_30_21_27_def]; unfold k_Image_give_30_21_27_b
  rw [k_Past_become_27_32_def]; unfold k_Past_become_27_32_b
  dsimp only
  simp only [cl0, cl740]
  refine ⟨fun j hj => ?_, rd31_2 u _, fun j hj => ?_, ?_, ?_, fun j hj => ?_⟩
  · rw [sp_ne (by omega), sp_ne (by omega), sp_ne (by omega), rd31_o _ _ (by omega)]
  · have := rd31 u hj
    unfold moU at this ⊢
    rw [sp_ne (by decide), sp_ne (by decide), sp_ne (by decide), sp_ne (by decide), sp_ne (by decide), sp_ne (by decide), sp_ne (by decide), sp_ne (by decide), sp_ne (by decide), sp_ne (by decide), sp_ne (by decide), sp_ne (by decide), sp_ne (by decide), sp_ne (by decide), sp_ne (by decide), sp_ne (by decide), sp_ne (by decide), sp_ne (by decide)]
    exact this
  · rw [sp_eq, pk_un (by decide), sp_eq, pk_us, rd31_o _ _ (by decide)]
  · rw [sp_eq, pk_us, rd31_o _ _ (by decide)]
  · rw [sp_ne (by decide), sp_ne (by decide), sp_eq, cpy740 _ _ hj, rd31_o _ _ (by decide)]
theorem give34 (u : xU) : (∀ j, (j < 21 ∨ 28 < j) → (k_Image_give_34_21_27 u).1 j = u.1 j) ∧ (k_Image_give_34_21_27 u).2 = u.2 ∧ (∀ j, j < 74 → moU (k_Image_give_34_21_27 u) j = u.1 35 j) ∧ (k_Image_give_34_21_27 u).1 27 1 = u.1 36 1 ∧ (k_Image_give_34_21_27 u).1 27 2 = u.1 36 2 ∧ ∀ j, j < 740 → (k_Image_give_34_21_27 u).1 28 j = u.1 37 j := by
  rw [k_Image_give_34_21_27_def]; unfold k_Image_give_34_21_27_b
  rw [k_Past_become_27_36_def]; unfold k_Past_become_27_36_b
  dsimp only
  simp only [cl0, cl740]
  refine ⟨fun j hj => ?_, rd35_2 u _, fun j hj => ?_, ?_, ?_, fun j hj => ?_⟩
  · rw [sp_ne (by omega), sp_ne (by omega), sp_ne (by omega), rd35_o _ _ (by omega)]
  · have := rd35 u hj
    unfold moU at this ⊢
    rw [sp_ne (by decide), sp_ne (by decide), sp_ne (by decide), sp_ne (by decide), sp_ne (by decide), sp_ne (by decide), sp_ne (by decide), sp_ne (by decide), sp_ne (by decide), sp_ne (by decide), sp_ne (by decide), sp_ne (by decide), sp_ne (by decide), sp_ne (by decide), sp_ne (by decide), sp_ne (by decide), sp_ne (by decide), sp_ne (by decide)]
    exact this
  · rw [sp_eq, pk_un (by decide), sp_eq, pk_us, rd35_o _ _ (by decide)]
  · rw [sp_eq, pk_us, rd35_o _ _ (by decide)]
  · rw [sp_ne (by decide), sp_ne (by decide), sp_eq, cpy740 _ _ hj, rd35_o _ _ (by decide)]
theorem RI1.congr {T C : Int} {nd kept row pa rows b8 b8' : Nat → Int32} {b9 : Int32} {o : Nat} (hT : T ≤ 8) (hC : C ≤ 6) (hb : ∀ j, j < 815 → b8' (o + j) = b8 (o + j)) (h : RI1 T C nd kept row pa rows b8 b9 o) : RI1 T C nd kept row pa rows b8' b9 o := ⟨h.1, fun g => (h.2 g).congr hT hC (fun _ _ => rfl) (fun _ _ => rfl) hb⟩
theorem s_keep : St_keep Rel := by
  intro u v p1 hR
  refine ⟨trivial, trivial, ?_⟩
  have hT := hR.bT.2
  have hC := hR.bC.2
  rw [k_keep_def, m_keep_def]
  unfold k_keep_b m_keep_b
  by_cases c1 : p1 < 0
  · rw [if_pos c1, if_pos (in_f1 (xq_lt c1 rfl rfl))]; exact ⟨rfl, hR⟩
  rw [if_neg c1]
  have h01 : (1 : Int32).toInt = 1 := rfl
  by_cases c2 : p1 < 2
  · have c2' := xq_lt c2 rfl (b := 2) rfl
    have c1' := xq_nlt c1 rfl (b := 0) rfl
    rw [if_pos c2, if_neg (in_t (x := p1) (a := 0) (b := 1) c1' (show p1.toInt ≤ (1 : Int32).toInt by omega))]
    by_cases c3 : p1 = 0
    · subst c3
      rw [if_pos rfl]
      obtain ⟨i1, i2, i3, i5, i4⟩ := keep_L 0 (X := 0) rfl (by decide) 816 0 v (by decide) (by decide) (by decide)
      have hz : (0 : Int32).toInt.toNat = 0 := rfl
      rw [hz] at i4
      obtain ⟨t1, t2, t3, t4, t5, t6, t7⟩ := take30 u
      dsimp only
      refine ⟨by rw [i1, t1 21 (by decide)]; exact hR.night, hR.img0 t1 i3 t2 i2 ⟨by rw [t3, i5]; rfl, fun _ => ?_⟩ ?_⟩
      · rw [t5, t6]
        refine hR.2.1.congr hT hC t4 t7 (fun j hj => ?_)
        rw [i4, if_pos (by omega)]
        exact congrArg (v.1 7) (by omega)
      · rw [i5, pk_un (by decide)]
        exact hR.2.2.2.1.congr hT hC (fun j hj => by rw [i4, if_neg (by omega)])
    · have hp : p1 = 1 := Int32.toInt_inj.mp (by have : ¬ p1.toInt = 0 := fun g => c3 (Int32.toInt_inj.mp g); omega)
      subst hp
      rw [if_neg c3]
      obtain ⟨i1, i2, i3, i5, i4⟩ := keep_L 1 (X := 815) rfl (by decide) 816 0 v (by decide) (by decide) (by decide)
      have hz : (0 : Int32).toInt.toNat = 0 := rfl
      rw [hz] at i4
      obtain ⟨t1, t2, t3, t4, t5, t6, t7⟩ := take34 u
      dsimp only
      refine ⟨by rw [i1, t1 21 (by decide)]; exact hR.night, hR.img1 t1 i3 t2 i2 ?_ ⟨by rw [t3, i5]; rfl, fun _ => ?_⟩⟩
      · have e : (upd (v.1 9) (1 : Int32).toNatClampNeg 1) 0 = v.1 9 0 := pk_un (by decide)
        rw [i5, e]
        exact hR.2.2.1.congr hT hC (fun j hj => by rw [i4, if_neg (by omega)])
      · rw [t5, t6]
        refine hR.2.1.congr hT hC t4 t7 (fun j hj => ?_)
        rw [i4, if_pos (by omega)]
        exact congrArg (v.1 7) (by omega)
  · have c2' := xq_nlt c2 rfl (b := 2) rfl
    rw [if_neg c2, if_pos (in_f2 (by omega))]; exact ⟨rfl, hR⟩
theorem s_back : St_back Rel := by
  intro u v p1 hR
  refine ⟨trivial, trivial, ?_⟩
  have hT := hR.bT.2
  have hC := hR.bC.2
  rw [k_back_def, m_back_def]
  unfold k_back_b m_back_b
  by_cases c1 : p1 < 0
  · rw [if_pos c1, if_pos (in_f1 (xq_lt c1 rfl rfl))]; exact ⟨rfl, hR⟩
  rw [if_neg c1]
  have h01 : (1 : Int32).toInt = 1 := rfl
  by_cases c2 : p1 < 2
  · have c2' := xq_lt c2 rfl (b := 2) rfl
    have c1' := xq_nlt c1 rfl (b := 0) rfl
    rw [if_pos c2, if_neg (in_t (x := p1) (a := 0) (b := 1) c1' (show p1.toInt ≤ (1 : Int32).toInt by omega))]
    by_cases c3 : p1 = 0
    · subst c3
      rw [if_pos rfl, if_pos rfl]
      obtain ⟨k1, k2⟩ := hR.2.2.1
      have ez : v.1 9 ((0 : Int32)).toNatClampNeg = v.1 9 0 := rfl
      rw [ez, ← k1]
      by_cases hk : u.1 30 2 = 0
      · rw [if_pos hk, if_pos hk]; exact ⟨rfl, hR⟩
      rw [if_neg hk, if_neg hk]
      obtain ⟨i1, i2, i3, i4⟩ := back_L 0 (X := 0) rfl (by decide) 816 0 v (by decide) (by decide) (by decide)
      have hz : (0 : Int32).toInt.toNat = 0 := rfl
      rw [hz] at i4
      obtain ⟨t1, t2, t4, t5, t6, t7⟩ := give30 u
      dsimp only
      have hR' : Rel (k_Image_give_30_21_27 u) (m_back_L25 0 816 0 v).2 := by
        refine hR.moment t1 i3 t2 i2 ?_
        rw [t5, t6]
        refine (k2 (by rw [← k1]; exact hk)).congr hT hC t4 t7 (fun j hj => ?_)
        rw [i4, if_pos (by omega)]
      exact ⟨by rw [i1]; exact hR'.night, hR'⟩
    · have hp : p1 = 1 := Int32.toInt_inj.mp (by have : ¬ p1.toInt = 0 := fun g => c3 (Int32.toInt_inj.mp g); omega)
      subst hp
      rw [if_neg c3, if_neg c3]
      obtain ⟨k1, k2⟩ := hR.2.2.2.1
      have ez : v.1 9 ((1 : Int32)).toNatClampNeg = v.1 9 1 := rfl
      rw [ez, ← k1]
      by_cases hk : u.1 34 2 = 0
      · rw [if_pos hk, if_pos hk]; exact ⟨rfl, hR⟩
      rw [if_neg hk, if_neg hk]
      obtain ⟨i1, i2, i3, i4⟩ := back_L 1 (X := 815) rfl (by decide) 816 0 v (by decide) (by decide) (by decide)
      have hz : (0 : Int32).toInt.toNat = 0 := rfl
      rw [hz] at i4
      obtain ⟨t1, t2, t4, t5, t6, t7⟩ := give34 u
      dsimp only
      have hR' : Rel (k_Image_give_34_21_27 u) (m_back_L25 1 816 0 v).2 := by
        refine hR.moment t1 i3 t2 i2 ?_
        rw [t5, t6]
        refine (k2 (by rw [← k1]; exact hk)).congr hT hC t4 t7 (fun j hj => ?_)
        rw [i4, if_pos (by omega)]
      exact ⟨by rw [i1]; exact hR'.night, hR'⟩
  · have c2' := xq_nlt c2 rfl (b := 2) rfl
    rw [if_neg c2, if_pos (in_f2 (by omega))]; exact ⟨rfl, hR⟩
