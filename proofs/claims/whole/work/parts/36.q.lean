noncomputable def m_hall_L29 : Nat → xU → Int32 × xU
  | 0, w => (0, w)
  | n + 1, w =>
    (if (w.1 0 18) = (0 : Int32) then
    (if (w.1 0 20) = (0 : Int32) then
    let r_11 := m_settles w
    ((r_11.1 0 21), r_11)
    else
    (((-10 : Int32) - (w.1 0 17)), w))
    else
    (if (w.1 0 20) = (0 : Int32) then
    let r_15 := m_readItem w
    let w_17 := sp r_15 0 (upd (r_15.1 0) 21 ((r_15.1 0 21) + (1 : Int32)))
    m_hall_L29 n w_17
    else
    (if (w.1 0 20) = (0 : Int32) then
    let r_14 := m_settles w
    ((r_14.1 0 21), r_14)
    else
    (((-10 : Int32) - (w.1 0 17)), w))))
noncomputable def m_hall_b (u : xU) : Int32 × xU :=
    let w_1 := sp u 0 (upd (u.1 0) 16 (0 : Int32))
    let w_2 := sp w_1 0 (upd (w_1.1 0) 20 (0 : Int32))
    let w_3 := sp w_2 0 (upd (w_2.1 0) 21 (0 : Int32))
    let w_4 := sp w_3 0 (upd (w_3.1 0) 22 (0 : Int32))
    let w_5 := sp w_4 0 (upd (w_4.1 0) 27 (0 : Int32))
    let r_6 := m_next w_5
    m_hall_L29 152 r_6
theorem m_hall_x : ∃ f : xU → Int32 × xU, f = m_hall_b := ⟨_, rfl⟩
noncomputable def m_hall : xU → Int32 × xU := m_hall_x.choose
theorem m_hall_def : m_hall = m_hall_b := m_hall_x.choose_spec
set_option maxHeartbeats 4000000 in
set_option maxRecDepth 100000 in
theorem c_m_hall (l : Launch) (D : va_G) (a : Nat → Nat) (Y : Nat → ClassId) (ts : Nat → Nat) (u : xU) (hL : (0 ≤ ((u.1 0 15)).toInt ∧ ((u.1 0 15)).toInt ≤ 150)) (hX : (0 ≤ ((u.1 0 16)).toInt ∧ ((u.1 0 16)).toInt ≤ 150)) (hST : (0 ≤ ((u.1 0 22)).toInt ∧ ((u.1 0 22)).toInt ≤ 8)) (hSC : (0 ≤ ((u.1 0 27)).toInt ∧ ((u.1 0 27)).toInt ≤ 6)) : xMi l yX11_hall cX11_hall 1 (some .int) (xRm 6 132) D (xty Y) (wM a Y) ts [.ref (a 0)] u ((m_hall u).1, (m_hall u).2) := by
  suffices h : ∀ V, V = m_hall_b u → xMi l yX11_hall cX11_hall 1 (some .int) (xRm 6 132) D (xty Y) (wM a Y) ts [.ref (a 0)] u (V.1, V.2) from h _ (by rw [m_hall_def])
  intro V hV
  refine xofi RX11 rfl (by decide) (Nat.le_of_ble_eq_true rfl) ?_
  intro p e s m args below meth c ls H locs A S hr hlk hl hK hE hA hw
  have hl : lv_has ls 1 [(0, .ref (a 0))] := hl
  refine lv_aload_n S.1 S.2.1 dX11_hall_0 rfl (lv_at hl 0 rfl) ?_
  refine lv_iconst (v := 0) S.1 S.2.1 dX11_hall_1 (by decide) ?_
  refine xputi (ty := .int) S hK hw 0 rfl rfl inX11 tyX11 tyX11_ok nmX11 16 (by decide) mfX11_82 rfl (by decide +kernel) rfl rfl (Nat.le_of_ble_eq_true rfl) (oM_0_16 _ _ _ _) dX11_hall_2 (fun H locs hw => ?_)
  refine lv_aload_n S.1 S.2.1 dX11_hall_5 rfl (lv_at hl 0 rfl) ?_
  refine lv_iconst (v := 0) S.1 S.2.1 dX11_hall_6 (by decide) ?_
  refine xputi (ty := .boolean) S hK hw 0 rfl rfl inX11 tyX11 tyX11_ok nmX11 20 (by decide) mfX11_105 rfl (by decide +kernel) rfl rfl (Nat.le_of_ble_eq_true rfl) (oM_0_20 _ _ _ _) dX11_hall_7 (fun H locs hw => ?_)
  refine lv_aload_n S.1 S.2.1 dX11_hall_10 rfl (lv_at hl 0 rfl) ?_
  refine lv_iconst (v := 0) S.1 S.2.1 dX11_hall_11 (by decide) ?_
  refine xputi (ty := .int) S hK hw 0 rfl rfl inX11 tyX11 tyX11_ok nmX11 21 (by decide) mfX11_128 rfl (by decide +kernel) rfl rfl (Nat.le_of_ble_eq_true rfl) (oM_0_21 _ _ _ _) dX11_hall_12 (fun H locs hw => ?_)
  refine lv_aload_n S.1 S.2.1 dX11_hall_15 rfl (lv_at hl 0 rfl) ?_
  refine lv_iconst (v := 0) S.1 S.2.1 dX11_hall_16 (by decide) ?_
  refine xputi (ty := .int) S hK hw 0 rfl rfl inX11 tyX11 tyX11_ok nmX11 22 (by decide) mfX11_112 rfl (by decide +kernel) rfl rfl (Nat.le_of_ble_eq_true rfl) (oM_0_22 _ _ _ _) dX11_hall_17 (fun H locs hw => ?_)
  refine lv_aload_n S.1 S.2.1 dX11_hall_20 rfl (lv_at hl 0 rfl) ?_
  refine lv_iconst (v := 0) S.1 S.2.1 dX11_hall_21 (by decide) ?_
  refine xputi (ty := .int) S hK hw 0 rfl rfl inX11 tyX11 tyX11_ok nmX11 27 (by decide) mfX11_119 rfl (by decide +kernel) rfl rfl (Nat.le_of_ble_eq_true rfl) (oM_0_27 _ _ _ _) dX11_hall_22 (fun H locs hw => ?_)
  refine lv_aload_n S.1 S.2.1 dX11_hall_25 rfl (lv_at hl 0 rfl) ?_
  refine xcVv (rest := []) S hK hE hA hw yfX11_next (c_m_next l D a Y ts _ (show (0 ≤ ((u.1 0 15)).toInt ∧ ((u.1 0 15)).toInt ≤ 150) from by omega) (show (0 ≤ 0 ∧ 0 ≤ 150) from by omega)) 0 rfl rfl mlX11_109 rfl rfl hl.1 ⟨rfl, rfl, Nat.le_of_ble_eq_true rfl, Nat.le_of_ble_eq_true rfl, Nat.le_of_ble_eq_true rfl, Nat.zero_le _, Nat.zero_le _⟩ dX11_hall_26 (fun H locs hw => ?_)
  have q_7 := (MN_next (u := (sp (sp (sp (sp (sp u 0 (upd (u.1 0) 16 (0 : Int32))) 0 (upd ((upd (u.1 0) 16 (0 : Int32))) 20 (0 : Int32))) 0 (upd ((upd ((upd (u.1 0) 16 (0 : Int32))) 20 (0 : Int32))) 21 (0 : Int32))) 0 (upd ((upd ((upd ((upd (u.1 0) 16 (0 : Int32))) 20 (0 : Int32))) 21 (0 : Int32))) 22 (0 : Int32))) 0 (upd ((upd ((upd ((upd ((upd (u.1 0) 16 (0 : Int32))) 20 (0 : Int32))) 21 (0 : Int32))) 22 (0 : Int32))) 27 (0 : Int32)))) (show (0 ≤ ((u.1 0 15)).toInt ∧ ((u.1 0 15)).toInt ≤ 150) from by omega) (show (0 ≤ 0 ∧ 0 ≤ 150) from by omega)).1
  have q_7_15 : (((m_next (sp (sp (sp (sp (sp u 0 (upd (u.1 0) 16 (0 : Int32))) 0 (upd ((upd (u.1 0) 16 (0 : Int32))) 20 (0 : Int32))) 0 (upd ((upd ((upd (u.1 0) 16 (0 : Int32))) 20 (0 : Int32))) 21 (0 : Int32))) 0 (upd ((upd ((upd ((upd (u.1 0) 16 (0 : Int32))) 20 (0 : Int32))) 21 (0 : Int32))) 22 (0 : Int32))) 0 (upd ((upd ((upd ((upd ((upd (u.1 0) 16 (0 : Int32))) 20 (0 : Int32))) 21 (0 : Int32))) 22 (0 : Int32))) 27 (0 : Int32)))).1 0 15)).toInt = ((u.1 0 15)).toInt := congrArg Int32.toInt (q_7.2.1 15 (by decide))
  have q_7X : (0 ≤ (((m_next (sp (sp (sp (sp (sp u 0 (upd (u.1 0) 16 (0 : Int32))) 0 (upd ((upd (u.1 0) 16 (0 : Int32))) 20 (0 : Int32))) 0 (upd ((upd ((upd (u.1 0) 16 (0 : Int32))) 20 (0 : Int32))) 21 (0 : Int32))) 0 (upd ((upd ((upd ((upd (u.1 0) 16 (0 : Int32))) 20 (0 : Int32))) 21 (0 : Int32))) 22 (0 : Int32))) 0 (upd ((upd ((upd ((upd ((upd (u.1 0) 16 (0 : Int32))) 20 (0 : Int32))) 21 (0 : Int32))) 22 (0 : Int32))) 27 (0 : Int32)))).1 0 16)).toInt ∧ (((m_next (sp (sp (sp (sp (sp u 0 (upd (u.1 0) 16 (0 : Int32))) 0 (upd ((upd (u.1 0) 16 (0 : Int32))) 20 (0 : Int32))) 0 (upd ((upd ((upd (u.1 0) 16 (0 : Int32))) 20 (0 : Int32))) 21 (0 : Int32))) 0 (upd ((upd ((upd ((upd (u.1 0) 16 (0 : Int32))) 20 (0 : Int32))) 21 (0 : Int32))) 22 (0 : Int32))) 0 (upd ((upd ((upd ((upd ((upd (u.1 0) 16 (0 : Int32))) 20 (0 : Int32))) 21 (0 : Int32))) 22 (0 : Int32))) 27 (0 : Int32)))).1 0 16)).toInt ≤ 150) := q_7.2.2.1
  have q_7_22 : (((m_next (sp (sp (sp (sp (sp u 0 (upd (u.1 0) 16 (0 : Int32))) 0 (upd ((upd (u.1 0) 16 (0 : Int32))) 20 (0 : Int32))) 0 (upd ((upd ((upd (u.1 0) 16 (0 : Int32))) 20 (0 : Int32))) 21 (0 : Int32))) 0 (upd ((upd ((upd ((upd (u.1 0) 16 (0 : Int32))) 20 (0 : Int32))) 21 (0 : Int32))) 22 (0 : Int32))) 0 (upd ((upd ((upd ((upd ((upd (u.1 0) 16 (0 : Int32))) 20 (0 : Int32))) 21 (0 : Int32))) 22 (0 : Int32))) 27 (0 : Int32)))).1 0 22)).toInt = 0 := congrArg Int32.toInt (q_7.2.1 22 (by decide))
  have q_7_27 : (((m_next (sp (sp (sp (sp (sp u 0 (upd (u.1 0) 16 (0 : Int32))) 0 (upd ((upd (u.1 0) 16 (0 : Int32))) 20 (0 : Int32))) 0 (upd ((upd ((upd (u.1 0) 16 (0 : Int32))) 20 (0 : Int32))) 21 (0 : Int32))) 0 (upd ((upd ((upd ((upd (u.1 0) 16 (0 : Int32))) 20 (0 : Int32))) 21 (0 : Int32))) 22 (0 : Int32))) 0 (upd ((upd ((upd ((upd ((upd (u.1 0) 16 (0 : Int32))) 20 (0 : Int32))) 21 (0 : Int32))) 22 (0 : Int32))) 27 (0 : Int32)))).1 0 27)).toInt = 0 := congrArg Int32.toInt (q_7.2.1 27 (by decide))
  have lp_8 : ∀ (n_8 : Nat) (u_8 : xU) (H : Heap) (locs : List Loc) (ls : Array Slot), ((0 ≤ ((u_8.1 0 15)).toInt ∧ ((u_8.1 0 15)).toInt ≤ 150)) → ((0 ≤ ((u_8.1 0 16)).toInt ∧ ((u_8.1 0 16)).toInt ≤ 150)) → ((0 ≤ ((u_8.1 0 22)).toInt ∧ ((u_8.1 0 22)).toInt ≤ 8)) → ((0 ≤ ((u_8.1 0 27)).toInt ∧ ((u_8.1 0 27)).toInt ≤ 6)) → ((if (u_8.1 0 20) = (0 : Int32) then 151 - ((u_8.1 0 16)).toInt else (0 : Int)) < (n_8 : Int) ∧ 1 ≤ n_8) → lv_has ls 1 [(0, .ref (a 0))] → xw D (wM a Y) A s.heap H locs u_8 → V = m_hall_L29 n_8 u_8 → W p l e (xRm 6 132) s m args below meth c H locs 0 0 (MQ below (va_Qi (fun r v => (r, v) = V) (xPost D (wM a Y) A) A) args s 0 0 A) (F0 m 29 ls []) := by
    intro n_8
    induction n_8 with
    | zero => intro  u_8 H locs ls i0_8 i1_8 i2_8 i3_8 hn; exact absurd hn.2 (by decide)
    | succ n_8 ih_8 =>
      intro  u_8 H locs ls i0_8 i1_8 i2_8 i3_8 hn_8 hl hw hV
      refine lv_aload_n S.1 S.2.1 dX11_hall_29 rfl (lv_at hl 0 rfl) ?_
      refine xget (v := .int (u_8.1 0 18)) S hK hw 0 rfl rfl inX11 18 (by decide) mfX11_95 rfl dX11_hall_30 ?_
      refine lv_if_eq (tgt := 60) S.1 S.2.1 dX11_hall_33 (by decide) (fun c_9 => ?_) (fun c_9 => ?_)
      · replace hV := hV.trans (if_pos c_9)
        have gc_9 : ((u_8.1 0 18)).toInt = 0 := xq_eq c_9 rfl rfl
        refine lv_aload_n S.1 S.2.1 dX11_hall_60 rfl (lv_at hl 0 rfl) ?_
        refine xget (v := .int (u_8.1 0 20)) S hK hw 0 rfl rfl inX11 20 (by decide) mfX11_105 rfl dX11_hall_61 ?_
        refine lv_if_eq (tgt := 75) S.1 S.2.1 dX11_hall_64 (by decide) (fun c_10 => ?_) (fun c_10 => ?_)
        · replace hV := hV.trans (if_pos c_10)
          have gc_10 : ((u_8.1 0 20)).toInt = 0 := xq_eq c_10 rfl rfl
          refine lv_aload_n S.1 S.2.1 dX11_hall_75 rfl (lv_at hl 0 rfl) ?_
          refine xcVv (rest := []) S hK hE hA hw yfX11_settles (c_m_settles l D a Y ts _) 0 rfl rfl mlX11_134 rfl rfl hl.1 ⟨rfl, rfl, Nat.le_of_ble_eq_true rfl, Nat.le_of_ble_eq_true rfl, Nat.le_of_ble_eq_true rfl, Nat.zero_le _, Nat.zero_le _⟩ dX11_hall_76 (fun H locs hw => ?_)
          refine lv_aload_n S.1 S.2.1 dX11_hall_79 rfl (lv_at hl 0 rfl) ?_
          refine xget (v := .int ((m_settles u_8).1 0 21)) S hK hw 0 rfl rfl inX11 21 (by decide) mfX11_128 rfl dX11_hall_80 ?_
          exact xri S hr hlk hw hV dX11_hall_83
        · replace hV := hV.trans (if_neg c_10)
          have gc_10 : ¬ ((u_8.1 0 20)).toInt = 0 := xq_ne c_10 rfl rfl
          refine lv_bipush (v := -10) S.1 S.2.1 dX11_hall_67 (by decide) ?_
          refine lv_aload_n S.1 S.2.1 dX11_hall_69 rfl (lv_at hl 0 rfl) ?_
          refine xget (v := .int (u_8.1 0 17)) S hK hw 0 rfl rfl inX11 17 (by decide) mfX11_89 rfl dX11_hall_70 ?_
          refine lv_isub S.1 S.2.1 dX11_hall_73 ?_
          exact xri S hr hlk hw hV dX11_hall_74
      · replace hV := hV.trans (if_neg c_9)
        have gc_9 : ¬ ((u_8.1 0 18)).toInt = 0 := xq_ne c_9 rfl rfl
        refine lv_aload_n S.1 S.2.1 dX11_hall_36 rfl (lv_at hl 0 rfl) ?_
        refine xget (v := .int (u_8.1 0 20)) S hK hw 0 rfl rfl inX11 20 (by decide) mfX11_105 rfl dX11_hall_37 ?_
        refine lv_if_ne (tgt := 60) S.1 S.2.1 dX11_hall_40 (by decide) (fun c_12 => ?_) (fun c_12 => ?_)
        · replace hV := hV.trans (if_neg c_12)
          have gc_12 : ¬ ((u_8.1 0 20)).toInt = 0 := xq_ne c_12 rfl rfl
          refine lv_aload_n S.1 S.2.1 dX11_hall_60 rfl (lv_at hl 0 rfl) ?_
          refine xget (v := .int (u_8.1 0 20)) S hK hw 0 rfl rfl inX11 20 (by decide) mfX11_105 rfl dX11_hall_61 ?_
          refine lv_if_eq (tgt := 75) S.1 S.2.1 dX11_hall_64 (by decide) (fun c_13 => ?_) (fun c_13 => ?_)
          · replace hV := hV.trans (if_pos c_13)
            have gc_13 : ((u_8.1 0 20)).toInt = 0 := xq_eq c_13 rfl rfl
            refine lv_aload_n S.1 S.2.1 dX11_hall_75 rfl (lv_at hl 0 rfl) ?_
            refine xcVv (rest := []) S hK hE hA hw yfX11_settles (c_m_settles l D a Y ts _) 0 rfl rfl mlX11_134 rfl rfl hl.1 ⟨rfl, rfl, Nat.le_of_ble_eq_true rfl, Nat.le_of_ble_eq_true rfl, Nat.le_of_ble_eq_true rfl, Nat.zero_le _, Nat.zero_le _⟩ dX11_hall_76 (fun H locs hw => ?_)
            refine lv_aload_n S.1 S.2.1 dX11_hall_79 rfl (lv_at hl 0 rfl) ?_
            refine xget (v := .int ((m_settles u_8).1 0 21)) S hK hw 0 rfl rfl inX11 21 (by decide) mfX11_128 rfl dX11_hall_80 ?_
            exact xri S hr hlk hw hV dX11_hall_83
          · replace hV := hV.trans (if_neg c_13)
            have gc_13 : ¬ ((u_8.1 0 20)).toInt = 0 := xq_ne c_13 rfl rfl
            refine lv_bipush (v := -10) S.1 S.2.1 dX11_hall_67 (by decide) ?_
            refine lv_aload_n S.1 S.2.1 dX11_hall_69 rfl (lv_at hl 0 rfl) ?_
            refine xget (v := .int (u_8.1 0 17)) S hK hw 0 rfl rfl inX11 17 (by decide) mfX11_89 rfl dX11_hall_70 ?_
            refine lv_isub S.1 S.2.1 dX11_hall_73 ?_
            exact xri S hr hlk hw hV dX11_hall_74
        · replace hV := hV.trans (if_pos c_12)
          have gc_12 : ((u_8.1 0 20)).toInt = 0 := xq_eq c_12 rfl rfl
          refine lv_aload_n S.1 S.2.1 dX11_hall_43 rfl (lv_at hl 0 rfl) ?_
          refine xcVv (rest := []) S hK hE hA hw yfX11_readItem (c_m_readItem l D a Y ts _ (show (0 ≤ ((u_8.1 0 15)).toInt ∧ ((u_8.1 0 15)).toInt ≤ 150) from by omega) (show (0 ≤ ((u_8.1 0 16)).toInt ∧ ((u_8.1 0 16)).toInt ≤ 150) from by omega) (show (0 ≤ ((u_8.1 0 22)).toInt ∧ ((u_8.1 0 22)).toInt ≤ 8) from by omega) (show (0 ≤ ((u_8.1 0 27)).toInt ∧ ((u_8.1 0 27)).toInt ≤ 6) from by omega)) 0 rfl rfl mlX11_131 rfl rfl hl.1 ⟨rfl, rfl, Nat.le_of_ble_eq_true rfl, Nat.le_of_ble_eq_true rfl, Nat.le_of_ble_eq_true rfl, Nat.zero_le _, Nat.zero_le _⟩ dX11_hall_44 (fun H locs hw => ?_)
          have q_16 := MR_item (u := u_8) (show (0 ≤ ((u_8.1 0 15)).toInt ∧ ((u_8.1 0 15)).toInt ≤ 150) from by omega) (show (0 ≤ ((u_8.1 0 16)).toInt ∧ ((u_8.1 0 16)).toInt ≤ 150) from by omega) (show (0 ≤ ((u_8.1 0 22)).toInt ∧ ((u_8.1 0 22)).toInt ≤ 8) from by omega) (show (0 ≤ ((u_8.1 0 27)).toInt ∧ ((u_8.1 0 27)).toInt ≤ 6) from by omega)
          have q_16A : (0 ≤ (((m_readItem u_8).1 0 15)).toInt ∧ (((m_readItem u_8).1 0 15)).toInt ≤ 150) ∧ (0 ≤ (((m_readItem u_8).1 0 16)).toInt ∧ (((m_readItem u_8).1 0 16)).toInt ≤ 150) ∧ (0 ≤ (((m_readItem u_8).1 0 22)).toInt ∧ (((m_readItem u_8).1 0 22)).toInt ≤ 8) ∧ (0 ≤ (((m_readItem u_8).1 0 27)).toInt ∧ (((m_readItem u_8).1 0 27)).toInt ≤ 6) := q_16.1
          have q_16B : (if ((m_readItem u_8).1 0 20) = (0 : Int32) then 151 - (((m_readItem u_8).1 0 16)).toInt else (0 : Int)) < 151 - ((u_8.1 0 16)).toInt := q_16.2
          refine lv_aload_n S.1 S.2.1 dX11_hall_47 rfl (lv_at hl 0 rfl) ?_
          refine lv_dup S.1 S.2.1 dX11_hall_48 rfl ?_
          refine xget (v := .int ((m_readItem u_8).1 0 21)) S hK hw 0 rfl rfl inX11 21 (by decide) mfX11_128 rfl dX11_hall_49 ?_
          refine lv_iconst (v := 1) S.1 S.2.1 dX11_hall_52 (by decide) ?_
          refine lv_iadd S.1 S.2.1 dX11_hall_53 ?_
          refine xputi (ty := .int) S hK hw 0 rfl rfl inX11 tyX11 tyX11_ok nmX11 21 (by decide) mfX11_128 rfl (by decide +kernel) rfl rfl (Nat.le_of_ble_eq_true rfl) (oM_0_21 _ _ _ _) dX11_hall_54 (fun H locs hw => ?_)
          refine lv_goto (tgt := 29) S.1 S.2.1 dX11_hall_57 (by decide) ?_
          exact ih_8 (sp (m_readItem u_8) 0 (upd ((m_readItem u_8).1 0) 21 (((m_readItem u_8).1 0 21) + (1 : Int32)))) _ _ _ (show (0 ≤ (((m_readItem u_8).1 0 15)).toInt ∧ (((m_readItem u_8).1 0 15)).toInt ≤ 150) from by omega) (show (0 ≤ (((m_readItem u_8).1 0 16)).toInt ∧ (((m_readItem u_8).1 0 16)).toInt ≤ 150) from by omega) (show (0 ≤ (((m_readItem u_8).1 0 22)).toInt ∧ (((m_readItem u_8).1 0 22)).toInt ≤ 8) from by omega) (show (0 ≤ (((m_readItem u_8).1 0 27)).toInt ∧ (((m_readItem u_8).1 0 27)).toInt ≤ 6) from by omega) (show (if ((m_readItem u_8).1 0 20) = (0 : Int32) then 151 - (((m_readItem u_8).1 0 16)).toInt else (0 : Int)) < (n_8 : Int) ∧ 1 ≤ n_8 from by have hm := hn_8.1; rw [if_pos (by assumption)] at hm; constructor <;> omega) (lv_sub hl [0] rfl) hw hV
  exact lp_8 152 (m_next (sp (sp (sp (sp (sp u 0 (upd (u.1 0) 16 (0 : Int32))) 0 (upd ((upd (u.1 0) 16 (0 : Int32))) 20 (0 : Int32))) 0 (upd ((upd ((upd (u.1 0) 16 (0 : Int32))) 20 (0 : Int32))) 21 (0 : Int32))) 0 (upd ((upd ((upd ((upd (u.1 0) 16 (0 : Int32))) 20 (0 : Int32))) 21 (0 : Int32))) 22 (0 : Int32))) 0 (upd ((upd ((upd ((upd ((upd (u.1 0) 16 (0 : Int32))) 20 (0 : Int32))) 21 (0 : Int32))) 22 (0 : Int32))) 27 (0 : Int32)))) _ _ _ (show (0 ≤ (((m_next (sp (sp (sp (sp (sp u 0 (upd (u.1 0) 16 (0 : Int32))) 0 (upd ((upd (u.1 0) 16 (0 : Int32))) 20 (0 : Int32))) 0 (upd ((upd ((upd (u.1 0) 16 (0 : Int32))) 20 (0 : Int32))) 21 (0 : Int32))) 0 (upd ((upd ((upd ((upd (u.1 0) 16 (0 : Int32))) 20 (0 : Int32))) 21 (0 : Int32))) 22 (0 : Int32))) 0 (upd ((upd ((upd ((upd ((upd (u.1 0) 16 (0 : Int32))) 20 (0 : Int32))) 21 (0 : Int32))) 22 (0 : Int32))) 27 (0 : Int32)))).1 0 15)).toInt ∧ (((m_next (sp (sp (sp (sp (sp u 0 (upd (u.1 0) 16 (0 : Int32))) 0 (upd ((upd (u.1 0) 16 (0 : Int32))) 20 (0 : Int32))) 0 (upd ((upd ((upd (u.1 0) 16 (0 : Int32))) 20 (0 : Int32))) 21 (0 : Int32))) 0 (upd ((upd ((upd ((upd (u.1 0) 16 (0 : Int32))) 20 (0 : Int32))) 21 (0 : Int32))) 22 (0 : Int32))) 0 (upd ((upd ((upd ((upd ((upd (u.1 0) 16 (0 : Int32))) 20 (0 : Int32))) 21 (0 : Int32))) 22 (0 : Int32))) 27 (0 : Int32)))).1 0 15)).toInt ≤ 150) from by omega) (show (0 ≤ (((m_next (sp (sp (sp (sp (sp u 0 (upd (u.1 0) 16 (0 : Int32))) 0 (upd ((upd (u.1 0) 16 (0 : Int32))) 20 (0 : Int32))) 0 (upd ((upd ((upd (u.1 0) 16 (0 : Int32))) 20 (0 : Int32))) 21 (0 : Int32))) 0 (upd ((upd ((upd ((upd (u.1 0) 16 (0 : Int32))) 20 (0 : Int32))) 21 (0 : Int32))) 22 (0 : Int32))) 0 (upd ((upd ((upd ((upd ((upd (u.1 0) 16 (0 : Int32))) 20 (0 : Int32))) 21 (0 : Int32))) 22 (0 : Int32))) 27 (0 : Int32)))).1 0 16)).toInt ∧ (((m_next (sp (sp (sp (sp (sp u 0 (upd (u.1 0) 16 (0 : Int32))) 0 (upd ((upd (u.1 0) 16 (0 : Int32))) 20 (0 : Int32))) 0 (upd ((upd ((upd (u.1 0) 16 (0 : Int32))) 20 (0 : Int32))) 21 (0 : Int32))) 0 (upd ((upd ((upd ((upd (u.1 0) 16 (0 : Int32))) 20 (0 : Int32))) 21 (0 : Int32))) 22 (0 : Int32))) 0 (upd ((upd ((upd ((upd ((upd (u.1 0) 16 (0 : Int32))) 20 (0 : Int32))) 21 (0 : Int32))) 22 (0 : Int32))) 27 (0 : Int32)))).1 0 16)).toInt ≤ 150) from by omega) (show (0 ≤ (((m_next (sp (sp (sp (sp (sp u 0 (upd (u.1 0) 16 (0 : Int32))) 0 (upd ((upd (u.1 0) 16 (0 : Int32))) 20 (0 : Int32))) 0 (upd ((upd ((upd (u.1 0) 16 (0 : Int32))) 20 (0 : Int32))) 21 (0 : Int32))) 0 (upd ((upd ((upd ((upd (u.1 0) 16 (0 : Int32))) 20 (0 : Int32))) 21 (0 : Int32))) 22 (0 : Int32))) 0 (upd ((upd ((upd ((upd ((upd (u.1 0) 16 (0 : Int32))) 20 (0 : Int32))) 21 (0 : Int32))) 22 (0 : Int32))) 27 (0 : Int32)))).1 0 22)).toInt ∧ (((m_next (sp (sp (sp (sp (sp u 0 (upd (u.1 0) 16 (0 : Int32))) 0 (upd ((upd (u.1 0) 16 (0 : Int32))) 20 (0 : Int32))) 0 (upd ((upd ((upd (u.1 0) 16 (0 : Int32))) 20 (0 : Int32))) 21 (0 : Int32))) 0 (upd ((upd ((upd ((upd (u.1 0) 16 (0 : Int32))) 20 (0 : Int32))) 21 (0 : Int32))) 22 (0 : Int32))) 0 (upd ((upd ((upd ((upd ((upd (u.1 0) 16 (0 : Int32))) 20 (0 : Int32))) 21 (0 : Int32))) 22 (0 : Int32))) 27 (0 : Int32)))).1 0 22)).toInt ≤ 8) from by omega) (show (0 ≤ (((m_next (sp (sp (sp (sp (sp u 0 (upd (u.1 0) 16 (0 : Int32))) 0 (upd ((upd (u.1 0) 16 (0 : Int32))) 20 (0 : Int32))) 0 (upd ((upd ((upd (u.1 0) 16 (0 : Int32))) 20 (0 : Int32))) 21 (0 : Int32))) 0 (upd ((upd ((upd ((upd (u.1 0) 16 (0 : Int32))) 20 (0 : Int32))) 21 (0 : Int32))) 22 (0 : Int32))) 0 (upd ((upd ((upd ((upd ((upd (u.1 0) 16 (0 : Int32))) 20 (0 : Int32))) 21 (0 : Int32))) 22 (0 : Int32))) 27 (0 : Int32)))).1 0 27)).toInt ∧ (((m_next (sp (sp (sp (sp (sp u 0 (upd (u.1 0) 16 (0 : Int32))) 0 (upd ((upd (u.1 0) 16 (0 : Int32))) 20 (0 : Int32))) 0 (upd ((upd ((upd (u.1 0) 16 (0 : Int32))) 20 (0 : Int32))) 21 (0 : Int32))) 0 (upd ((upd ((upd ((upd (u.1 0) 16 (0 : Int32))) 20 (0 : Int32))) 21 (0 : Int32))) 22 (0 : Int32))) 0 (upd ((upd ((upd ((upd ((upd (u.1 0) 16 (0 : Int32))) 20 (0 : Int32))) 21 (0 : Int32))) 22 (0 : Int32))) 27 (0 : Int32)))).1 0 27)).toInt ≤ 6) from by omega) (show (if ((m_next (sp (sp (sp (sp (sp u 0 (upd (u.1 0) 16 (0 : Int32))) 0 (upd ((upd (u.1 0) 16 (0 : Int32))) 20 (0 : Int32))) 0 (upd ((upd ((upd (u.1 0) 16 (0 : Int32))) 20 (0 : Int32))) 21 (0 : Int32))) 0 (upd ((upd ((upd ((upd (u.1 0) 16 (0 : Int32))) 20 (0 : Int32))) 21 (0 : Int32))) 22 (0 : Int32))) 0 (upd ((upd ((upd ((upd ((upd (u.1 0) 16 (0 : Int32))) 20 (0 : Int32))) 21 (0 : Int32))) 22 (0 : Int32))) 27 (0 : Int32)))).1 0 20) = (0 : Int32) then 151 - (((m_next (sp (sp (sp (sp (sp u 0 (upd (u.1 0) 16 (0 : Int32))) 0 (upd ((upd (u.1 0) 16 (0 : Int32))) 20 (0 : Int32))) 0 (upd ((upd ((upd (u.1 0) 16 (0 : Int32))) 20 (0 : Int32))) 21 (0 : Int32))) 0 (upd ((upd ((upd ((upd (u.1 0) 16 (0 : Int32))) 20 (0 : Int32))) 21 (0 : Int32))) 22 (0 : Int32))) 0 (upd ((upd ((upd ((upd ((upd (u.1 0) 16 (0 : Int32))) 20 (0 : Int32))) 21 (0 : Int32))) 22 (0 : Int32))) 27 (0 : Int32)))).1 0 16)).toInt else (0 : Int)) < ((152 : Nat) : Int) ∧ 1 ≤ (152 : Nat) from by constructor; (split <;> omega); omega) (lv_sub hl [0] rfl) hw hV
