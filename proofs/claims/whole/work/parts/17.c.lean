noncomputable def k_type_b (u : xU) (p1 : Int32) : Int32 × xU :=
    (if p1 < (0 : Int32) then
    ((-1 : Int32), u)
    else
    (if p1 ≤ (255 : Int32) then
    (if (u.1 1 1) < (150 : Int32) then
    let w_4 := sp u 2 (upd (u.1 2) ((u.1 1 1)).toNatClampNeg p1)
    let w_5 := sp w_4 1 (upd (u.1 1) 1 ((u.1 1 1) + (1 : Int32)))
    ((w_5.1 1 1), w_5)
    else
    ((-3 : Int32), u))
    else
    ((-1 : Int32), u)))
theorem k_type_x : ∃ f : xU → Int32 → Int32 × xU, f = k_type_b := ⟨_, rfl⟩
noncomputable def k_type : xU → Int32 → Int32 × xU := k_type_x.choose
theorem k_type_def : k_type = k_type_b := k_type_x.choose_spec
set_option maxHeartbeats 4000000 in
set_option maxRecDepth 100000 in
theorem c_k_type (l : Launch) (D : va_G) (a : Nat → Nat) (Y : Nat → ClassId) (ts : Nat → Nat) (u : xU) (p1 : Int32) (hL : (0 ≤ ((u.1 1 1)).toInt ∧ ((u.1 1 1)).toInt ≤ 150)) : xMi l yX10_type cX10_type 2 (some .int) (xRm 0 0) D (xty Y) (wC a Y) ts [.ref (a 0), .int p1] u ((k_type u p1).1, (k_type u p1).2) := by
  suffices h : ∀ V, V = k_type_b u p1 → xMi l yX10_type cX10_type 2 (some .int) (xRm 0 0) D (xty Y) (wC a Y) ts [.ref (a 0), .int p1] u (V.1, V.2) from h _ (by rw [k_type_def])
  intro V hV
  refine xofi RX10 rfl (by decide) (Nat.le_of_ble_eq_true rfl) ?_
  intro p e s m args below meth c ls H locs A S hr hlk hl hK hE hA hw
  have hl : lv_has ls 2 [(0, .ref (a 0)), (1, .int p1)] := hl
  refine lv_iload_n S.1 S.2.1 dX10_type_0 rfl (lv_at hl 1 rfl) ?_
  refine lv_if_lt (tgt := 11) S.1 S.2.1 dX10_type_1 (by decide) (fun c_1 => ?_) (fun c_1 => ?_)
  · replace hV := hV.trans (if_pos c_1)
    have gc_1 : (p1).toInt < 0 := xq_lt c_1 rfl rfl
    refine lv_iconst (v := -1) S.1 S.2.1 dX10_type_11 (by decide) ?_
    exact xri S hr hlk hw hV dX10_type_12
  · replace hV := hV.trans (if_neg c_1)
    have gc_1 : 0 ≤ (p1).toInt := xq_nlt c_1 rfl rfl
    refine lv_iload_n S.1 S.2.1 dX10_type_4 rfl (lv_at hl 1 rfl) ?_
    refine lv_sipush (v := 255) S.1 S.2.1 dX10_type_5 (by decide) ?_
    refine lv_icmp_le (tgt := 13) S.1 S.2.1 dX10_type_8 (by decide) (fun c_2 => ?_) (fun c_2 => ?_)
    · replace hV := hV.trans (if_pos c_2)
      have gc_2 : (p1).toInt ≤ 255 := xq_le c_2 rfl rfl
      refine lv_aload_n S.1 S.2.1 dX10_type_13 rfl (lv_at hl 0 rfl) ?_
      refine xget (v := .ref (a 1)) S hK hw 0 rfl rfl inX10 0 (by decide) mfX10_10 rfl dX10_type_14 ?_
      refine xget (v := .int (u.1 1 1)) S hK hw 1 rfl rfl inX8 1 (by decide) mfX10_67 rfl dX10_type_17 ?_
      refine lv_sipush (v := 150) S.1 S.2.1 dX10_type_20 (by decide) ?_
      refine lv_icmp_lt (tgt := 29) S.1 S.2.1 dX10_type_23 (by decide) (fun c_3 => ?_) (fun c_3 => ?_)
      · replace hV := hV.trans (if_pos c_3)
        have gc_3 : ((u.1 1 1)).toInt < 150 := xq_lt c_3 rfl rfl
        refine lv_aload_n S.1 S.2.1 dX10_type_29 rfl (lv_at hl 0 rfl) ?_
        refine xget (v := .ref (a 1)) S hK hw 0 rfl rfl inX10 0 (by decide) mfX10_10 rfl dX10_type_30 ?_
        refine xget (v := .ref (a 2)) S hK hw 1 rfl rfl inX8 0 (by decide) mfX10_71 rfl dX10_type_33 ?_
        refine lv_aload_n S.1 S.2.1 dX10_type_36 rfl (lv_at hl 0 rfl) ?_
        refine xget (v := .ref (a 1)) S hK hw 0 rfl rfl inX10 0 (by decide) mfX10_10 rfl dX10_type_37 ?_
        refine xget (v := .int (u.1 1 1)) S hK hw 1 rfl rfl inX8 1 (by decide) mfX10_67 rfl dX10_type_40 ?_
        refine lv_iload_n S.1 S.2.1 dX10_type_43 rfl (lv_at hl 1 rfl) ?_
        refine xast S hK hw 2 0 rfl rfl (xvi rfl (by omega) (by omega)) (sC_2 _ _ _ _) dX10_type_44 (fun H locs hw => ?_)
        refine lv_aload_n S.1 S.2.1 dX10_type_45 rfl (lv_at hl 0 rfl) ?_
        refine xget (v := .ref (a 1)) S hK hw 0 rfl rfl inX10 0 (by decide) mfX10_10 rfl dX10_type_46 ?_
        refine lv_dup S.1 S.2.1 dX10_type_49 rfl ?_
        refine xget (v := .int (u.1 1 1)) S hK hw 1 rfl rfl inX8 1 (by decide) mfX10_67 rfl dX10_type_50 ?_
        refine lv_iconst (v := 1) S.1 S.2.1 dX10_type_53 (by decide) ?_
        refine lv_iadd S.1 S.2.1 dX10_type_54 ?_
        refine xputi (ty := .int) S hK hw 1 rfl rfl inX8 tyX8 tyX8_ok nmX8 1 (by decide) mfX10_67 rfl (by decide +kernel) rfl rfl (Nat.le_of_ble_eq_true rfl) (oC_1_1 _ _ _ _) dX10_type_55 (fun H locs hw => ?_)
        refine lv_aload_n S.1 S.2.1 dX10_type_58 rfl (lv_at hl 0 rfl) ?_
        refine xget (v := .ref (a 1)) S hK hw 0 rfl rfl inX10 0 (by decide) mfX10_10 rfl dX10_type_59 ?_
        refine xget (v := .int ((u.1 1 1) + (1 : Int32))) S hK hw 1 rfl rfl inX8 1 (by decide) mfX10_67 rfl dX10_type_62 ?_
        exact xri S hr hlk hw hV dX10_type_65
      · replace hV := hV.trans (if_neg c_3)
        have gc_3 : 150 ≤ ((u.1 1 1)).toInt := xq_nlt c_3 rfl rfl
        refine lv_bipush (v := -3) S.1 S.2.1 dX10_type_26 (by decide) ?_
        exact xri S hr hlk hw hV dX10_type_28
    · replace hV := hV.trans (if_neg c_2)
      have gc_2 : 255 < (p1).toInt := xq_nle c_2 rfl rfl
      refine lv_iconst (v := -1) S.1 S.2.1 dX10_type_11 (by decide) ?_
      exact xri S hr hlk hw hV dX10_type_12
noncomputable def k_clear_b (u : xU) : Int32 × xU :=
    let w_1 := sp u 1 (upd (u.1 1) 1 (0 : Int32))
    ((u.1 1 1), w_1)
theorem k_clear_x : ∃ f : xU → Int32 × xU, f = k_clear_b := ⟨_, rfl⟩
noncomputable def k_clear : xU → Int32 × xU := k_clear_x.choose
theorem k_clear_def : k_clear = k_clear_b := k_clear_x.choose_spec
set_option maxHeartbeats 4000000 in
set_option maxRecDepth 100000 in
theorem c_k_clear (l : Launch) (D : va_G) (a : Nat → Nat) (Y : Nat → ClassId) (ts : Nat → Nat) (u : xU) : xMi l yX10_clear cX10_clear 2 (some .int) (xRm 0 0) D (xty Y) (wC a Y) ts [.ref (a 0)] u ((k_clear u).1, (k_clear u).2) := by
  suffices h : ∀ V, V = k_clear_b u → xMi l yX10_clear cX10_clear 2 (some .int) (xRm 0 0) D (xty Y) (wC a Y) ts [.ref (a 0)] u (V.1, V.2) from h _ (by rw [k_clear_def])
  intro V hV
  refine xofi RX10 rfl (by decide) (Nat.le_of_ble_eq_true rfl) ?_
  intro p e s m args below meth c ls H locs A S hr hlk hl hK hE hA hw
  have hl : lv_has ls 2 [(0, .ref (a 0))] := hl
  refine lv_aload_n S.1 S.2.1 dX10_clear_0 rfl (lv_at hl 0 rfl) ?_
  refine xget (v := .ref (a 1)) S hK hw 0 rfl rfl inX10 0 (by decide) mfX10_10 rfl dX10_clear_1 ?_
  refine xget (v := .int (u.1 1 1)) S hK hw 1 rfl rfl inX8 1 (by decide) mfX10_67 rfl dX10_clear_4 ?_
  refine lv_istore_n (lv' := [(1, .int (u.1 1 1)), (0, .ref (a 0))]) S.1 S.2.1 dX10_clear_7 rfl hl (by decide) rfl (fun ls hl => ?_)
  refine lv_aload_n S.1 S.2.1 dX10_clear_8 rfl (lv_at hl 1 rfl) ?_
  refine xget (v := .ref (a 1)) S hK hw 0 rfl rfl inX10 0 (by decide) mfX10_10 rfl dX10_clear_9 ?_
  refine lv_iconst (v := 0) S.1 S.2.1 dX10_clear_12 (by decide) ?_
  refine xputi (ty := .int) S hK hw 1 rfl rfl inX8 tyX8 tyX8_ok nmX8 1 (by decide) mfX10_67 rfl (by decide +kernel) rfl rfl (Nat.le_of_ble_eq_true rfl) (oC_1_1 _ _ _ _) dX10_clear_13 (fun H locs hw => ?_)
  refine lv_iload_n S.1 S.2.1 dX10_clear_16 rfl (lv_at hl 0 rfl) ?_
  exact xri S hr hlk hw hV dX10_clear_17
noncomputable def k_hears_b (u : xU) (p1 : Int32) (p2 : Int32) : Int32 × xU :=
    (if (b2i (k_Hall_isThing u p1)) = (0 : Int32) then
    ((-1 : Int32), u)
    else
    (if p2 < (0 : Int32) then
    ((-1 : Int32), u)
    else
    (if p2 ≤ (1 : Int32) then
    (if (u.1 44 3) < (6 : Int32) then
    let r_5 := k_Hearsay_add u p1 p2
    ((r_5.1 44 3), r_5)
    else
    ((-3 : Int32), u))
    else
    ((-1 : Int32), u))))
theorem k_hears_x : ∃ f : xU → Int32 → Int32 → Int32 × xU, f = k_hears_b := ⟨_, rfl⟩
noncomputable def k_hears : xU → Int32 → Int32 → Int32 × xU := k_hears_x.choose
theorem k_hears_def : k_hears = k_hears_b := k_hears_x.choose_spec
set_option maxHeartbeats 4000000 in
set_option maxRecDepth 100000 in
theorem c_k_hears (l : Launch) (D : va_G) (a : Nat → Nat) (Y : Nat → ClassId) (ts : Nat → Nat) (u : xU) (p1 : Int32) (p2 : Int32) (hT : (0 ≤ ((u.1 13 0)).toInt ∧ ((u.1 13 0)).toInt ≤ 8)) (hC : (0 ≤ ((u.1 13 1)).toInt ∧ ((u.1 13 1)).toInt ≤ 6)) (hH : (0 ≤ ((u.1 44 3)).toInt ∧ ((u.1 44 3)).toInt ≤ 6)) : xMi l yX10_hears cX10_hears 3 (some .int) (xRm 1 22) D (xty Y) (wC a Y) ts [.ref (a 0), .int p1, .int p2] u ((k_hears u p1 p2).1, (k_hears u p1 p2).2) := by
  suffices h : ∀ V, V = k_hears_b u p1 p2 → xMi l yX10_hears cX10_hears 3 (some .int) (xRm 1 22) D (xty Y) (wC a Y) ts [.ref (a 0), .int p1, .int p2] u (V.1, V.2) from h _ (by rw [k_hears_def])
  intro V hV
  refine xofi RX10 rfl (by decide) (Nat.le_of_ble_eq_true rfl) ?_
  intro p e s m args below meth c ls H locs A S hr hlk hl hK hE hA hw
  have hl : lv_has ls 3 [(0, .ref (a 0)), (1, .int p1), (2, .int p2)] := hl
  refine lv_aload_n S.1 S.2.1 dX10_hears_0 rfl (lv_at hl 0 rfl) ?_
  refine xget (v := .ref (a 12)) S hK hw 0 rfl rfl inX10 1 (by decide) mfX10_19 rfl dX10_hears_1 ?_
  refine lv_iload_n S.1 S.2.1 dX10_hears_4 rfl (lv_at hl 1 rfl) ?_
  refine xci (rest := []) S hK hE hA hw yfX0_isThing (c_k_Hall_isThing l D a Y ts _ p1 (show (0 ≤ ((u.1 13 0)).toInt ∧ ((u.1 13 0)).toInt ≤ 8) from by omega) (show (0 ≤ ((u.1 13 1)).toInt ∧ ((u.1 13 1)).toInt ≤ 6) from by omega)) 12 rfl rfl mlX10_109 rfl rfl hl.1 ⟨rfl, rfl, Nat.le_of_ble_eq_true rfl, Nat.le_of_ble_eq_true rfl, Nat.le_of_ble_eq_true rfl, Nat.zero_le _, Nat.zero_le _⟩ dX10_hears_5 (fun H locs hw => ?_)
  refine lv_if_eq (tgt := 20) S.1 S.2.1 dX10_hears_8 (by decide) (fun c_1 => ?_) (fun c_1 => ?_)
  · replace hV := hV.trans (if_pos c_1)
    have gc_1 : ((b2i (k_Hall_isThing u p1))).toInt = 0 := xq_eq c_1 rfl rfl
    refine lv_iconst (v := -1) S.1 S.2.1 dX10_hears_20 (by decide) ?_
    exact xri S hr hlk hw hV dX10_hears_21
  · replace hV := hV.trans (if_neg c_1)
    have gc_1 : ¬ ((b2i (k_Hall_isThing u p1))).toInt = 0 := xq_ne c_1 rfl rfl
    have fc_1 := hk_isThing c_1
    refine lv_iload_n S.1 S.2.1 dX10_hears_11 rfl (lv_at hl 2 rfl) ?_
    refine lv_if_lt (tgt := 20) S.1 S.2.1 dX10_hears_12 (by decide) (fun c_2 => ?_) (fun c_2 => ?_)
    · replace hV := hV.trans (if_pos c_2)
      have gc_2 : (p2).toInt < 0 := xq_lt c_2 rfl rfl
      refine lv_iconst (v := -1) S.1 S.2.1 dX10_hears_20 (by decide) ?_
      exact xri S hr hlk hw hV dX10_hears_21
    · replace hV := hV.trans (if_neg c_2)
      have gc_2 : 0 ≤ (p2).toInt := xq_nlt c_2 rfl rfl
      refine lv_iload_n S.1 S.2.1 dX10_hears_15 rfl (lv_at hl 2 rfl) ?_
      refine lv_iconst (v := 1) S.1 S.2.1 dX10_hears_16 (by decide) ?_
      refine lv_icmp_le (tgt := 22) S.1 S.2.1 dX10_hears_17 (by decide) (fun c_3 => ?_) (fun c_3 => ?_)
      · replace hV := hV.trans (if_pos c_3)
        have gc_3 : (p2).toInt ≤ 1 := xq_le c_3 rfl rfl
        refine lv_aload_n S.1 S.2.1 dX10_hears_22 rfl (lv_at hl 0 rfl) ?_
        refine xget (v := .ref (a 44)) S hK hw 0 rfl rfl inX10 6 (by decide) mfX10_56 rfl dX10_hears_23 ?_
        refine xget (v := .int (u.1 44 3)) S hK hw 44 rfl rfl inX1 3 (by decide) mfX10_93 rfl dX10_hears_26 ?_
        refine lv_bipush (v := 6) S.1 S.2.1 dX10_hears_29 (by decide) ?_
        refine lv_icmp_lt (tgt := 37) S.1 S.2.1 dX10_hears_31 (by decide) (fun c_4 => ?_) (fun c_4 => ?_)
        · replace hV := hV.trans (if_pos c_4)
          have gc_4 : ((u.1 44 3)).toInt < 6 := xq_lt c_4 rfl rfl
          refine lv_aload_n S.1 S.2.1 dX10_hears_37 rfl (lv_at hl 0 rfl) ?_
          refine xget (v := .ref (a 44)) S hK hw 0 rfl rfl inX10 6 (by decide) mfX10_56 rfl dX10_hears_38 ?_
          refine lv_iload_n S.1 S.2.1 dX10_hears_41 rfl (lv_at hl 1 rfl) ?_
          refine lv_iload_n S.1 S.2.1 dX10_hears_42 rfl (lv_at hl 2 rfl) ?_
          refine xcVv (rest := []) S hK hE hA hw yfX1_add (c_k_Hearsay_add l D a Y ts _ p1 p2 (show (0 ≤ ((u.1 44 3)).toInt ∧ ((u.1 44 3)).toInt ≤ 6) from by omega) (show 0 ≤ (p1).toInt ∧ (p1).toInt < 8 from by omega) (show ((u.1 44 3)).toInt < 6 from by omega)) 44 rfl rfl mlX10_255 rfl rfl hl.1 ⟨rfl, rfl, Nat.le_of_ble_eq_true rfl, Nat.le_of_ble_eq_true rfl, Nat.le_of_ble_eq_true rfl, Nat.zero_le _, Nat.zero_le _⟩ dX10_hears_43 (fun H locs hw => ?_)
          refine lv_aload_n S.1 S.2.1 dX10_hears_46 rfl (lv_at hl 0 rfl) ?_
          refine xget (v := .ref (a 44)) S hK hw 0 rfl rfl inX10 6 (by decide) mfX10_56 rfl dX10_hears_47 ?_
          refine xget (v := .int ((k_Hearsay_add u p1 p2).1 44 3)) S hK hw 44 rfl rfl inX1 3 (by decide) mfX10_93 rfl dX10_hears_50 ?_
          exact xri S hr hlk hw hV dX10_hears_53
        · replace hV := hV.trans (if_neg c_4)
          have gc_4 : 6 ≤ ((u.1 44 3)).toInt := xq_nlt c_4 rfl rfl
          refine lv_bipush (v := -3) S.1 S.2.1 dX10_hears_34 (by decide) ?_
          exact xri S hr hlk hw hV dX10_hears_36
      · replace hV := hV.trans (if_neg c_3)
        have gc_3 : 1 < (p2).toInt := xq_nle c_3 rfl rfl
        refine lv_iconst (v := -1) S.1 S.2.1 dX10_hears_20 (by decide) ?_
        exact xri S hr hlk hw hV dX10_hears_21
noncomputable def k_forget_b (u : xU) : Int32 × xU :=
    let w_1 := sp u 44 (upd (u.1 44) 3 (0 : Int32))
    ((u.1 44 3), w_1)
theorem k_forget_x : ∃ f : xU → Int32 × xU, f = k_forget_b := ⟨_, rfl⟩
noncomputable def k_forget : xU → Int32 × xU := k_forget_x.choose
theorem k_forget_def : k_forget = k_forget_b := k_forget_x.choose_spec
set_option maxHeartbeats 4000000 in
set_option maxRecDepth 100000 in
theorem c_k_forget (l : Launch) (D : va_G) (a : Nat → Nat) (Y : Nat → ClassId) (ts : Nat → Nat) (u : xU) : xMi l yX10_forget cX10_forget 2 (some .int) (xRm 0 0) D (xty Y) (wC a Y) ts [.ref (a 0)] u ((k_forget u).1, (k_forget u).2) := by
  suffices h : ∀ V, V = k_forget_b u → xMi l yX10_forget cX10_forget 2 (some .int) (xRm 0 0) D (xty Y) (wC a Y) ts [.ref (a 0)] u (V.1, V.2) from h _ (by rw [k_forget_def])
  intro V hV
  refine xofi RX10 rfl (by decide) (Nat.le_of_ble_eq_true rfl) ?_
  intro p e s m args below meth c ls H locs A S hr hlk hl hK hE hA hw
  have hl : lv_has ls 2 [(0, .ref (a 0))] := hl
  refine lv_aload_n S.1 S.2.1 dX10_forget_0 rfl (lv_at hl 0 rfl) ?_
  refine xget (v := .ref (a 44)) S hK hw 0 rfl rfl inX10 6 (by decide) mfX10_56 rfl dX10_forget_1 ?_
  refine xget (v := .int (u.1 44 3)) S hK hw 44 rfl rfl inX1 3 (by decide) mfX10_93 rfl dX10_forget_4 ?_
  refine lv_istore_n (lv' := [(1, .int (u.1 44 3)), (0, .ref (a 0))]) S.1 S.2.1 dX10_forget_7 rfl hl (by decide) rfl (fun ls hl => ?_)
  refine lv_aload_n S.1 S.2.1 dX10_forget_8 rfl (lv_at hl 1 rfl) ?_
  refine xget (v := .ref (a 44)) S hK hw 0 rfl rfl inX10 6 (by decide) mfX10_56 rfl dX10_forget_9 ?_
  refine lv_iconst (v := 0) S.1 S.2.1 dX10_forget_12 (by decide) ?_
  refine xputi (ty := .int) S hK hw 44 rfl rfl inX1 tyX1 tyX1_ok nmX1 3 (by decide) mfX10_93 rfl (by decide +kernel) rfl rfl (Nat.le_of_ble_eq_true rfl) (oC_44_3 _ _ _ _) dX10_forget_13 (fun H locs hw => ?_)
  refine lv_iload_n S.1 S.2.1 dX10_forget_16 rfl (lv_at hl 0 rfl) ?_
  exact xri S hr hlk hw hV dX10_forget_17
def k_who (u : xU) : Int32 :=
    (k_Hearsay_suspects u)
set_option maxHeartbeats 4000000 in
set_option maxRecDepth 100000 in
theorem c_k_who (l : Launch) (D : va_G) (a : Nat → Nat) (Y : Nat → ClassId) (ts : Nat → Nat) (u : xU) (hT : (0 ≤ ((u.1 13 0)).toInt ∧ ((u.1 13 0)).toInt ≤ 8)) (hC : (0 ≤ ((u.1 13 1)).toInt ∧ ((u.1 13 1)).toInt ≤ 6)) (hH : (0 ≤ ((u.1 44 3)).toInt ∧ ((u.1 44 3)).toInt ≤ 6)) : xMi l yX10_who cX10_who 1 (some .int) (xRm 3 67) D (xty Y) (wC a Y) ts [.ref (a 0)] u ((k_who u), u) := by
  suffices h : ∀ V, V = k_who u → xMi l yX10_who cX10_who 1 (some .int) (xRm 3 67) D (xty Y) (wC a Y) ts [.ref (a 0)] u (V, u) from h _ rfl
  intro V hV
  refine xofi RX10 rfl (by decide) (Nat.le_of_ble_eq_true rfl) ?_
  intro p e s m args below meth c ls H locs A S hr hlk hl hK hE hA hw
  have hl : lv_has ls 1 [(0, .ref (a 0))] := hl
  refine lv_aload_n S.1 S.2.1 dX10_who_0 rfl (lv_at hl 0 rfl) ?_
  refine xget (v := .ref (a 44)) S hK hw 0 rfl rfl inX10 6 (by decide) mfX10_56 rfl dX10_who_1 ?_
  refine xci (rest := []) S hK hE hA hw yfX1_suspects (c_k_Hearsay_suspects l D a Y ts _ (show (0 ≤ ((u.1 13 0)).toInt ∧ ((u.1 13 0)).toInt ≤ 8) from by omega) (show (0 ≤ ((u.1 13 1)).toInt ∧ ((u.1 13 1)).toInt ≤ 6) from by omega) (show (0 ≤ ((u.1 44 3)).toInt ∧ ((u.1 44 3)).toInt ≤ 6) from by omega)) 44 rfl rfl mlX10_259 rfl rfl hl.1 ⟨rfl, rfl, Nat.le_of_ble_eq_true rfl, Nat.le_of_ble_eq_true rfl, Nat.le_of_ble_eq_true rfl, Nat.zero_le _, Nat.zero_le _⟩ dX10_who_4 (fun H locs hw => ?_)
  exact xri S hr hlk hw (congrArg (fun b => (b, u)) hV) dX10_who_7
def k_ask (u : xU) : Int32 :=
    (k_Hearsay_bestQuestion u)
set_option maxHeartbeats 4000000 in
set_option maxRecDepth 100000 in
theorem c_k_ask (l : Launch) (D : va_G) (a : Nat → Nat) (Y : Nat → ClassId) (ts : Nat → Nat) (u : xU) (hT : (0 ≤ ((u.1 13 0)).toInt ∧ ((u.1 13 0)).toInt ≤ 8)) (hC : (0 ≤ ((u.1 13 1)).toInt ∧ ((u.1 13 1)).toInt ≤ 6)) (hH : (0 ≤ ((u.1 44 3)).toInt ∧ ((u.1 44 3)).toInt ≤ 6)) : xMi l yX10_ask cX10_ask 1 (some .int) (xRm 4 94) D (xty Y) (wC a Y) ts [.ref (a 0)] u ((k_ask u), u) := by
  suffices h : ∀ V, V = k_ask u → xMi l yX10_ask cX10_ask 1 (some .int) (xRm 4 94) D (xty Y) (wC a Y) ts [.ref (a 0)] u (V, u) from h _ rfl
  intro V hV
  refine xofi RX10 rfl (by decide) (Nat.le_of_ble_eq_true rfl) ?_
  intro p e s m args below meth c ls H locs A S hr hlk hl hK hE hA hw
  have hl : lv_has ls 1 [(0, .ref (a 0))] := hl
  refine lv_aload_n S.1 S.2.1 dX10_ask_0 rfl (lv_at hl 0 rfl) ?_
  refine xget (v := .ref (a 44)) S hK hw 0 rfl rfl inX10 6 (by decide) mfX10_56 rfl dX10_ask_1 ?_
  refine xci (rest := []) S hK hE hA hw yfX1_bestQuestion (c_k_Hearsay_bestQuestion l D a Y ts _ (show (0 ≤ ((u.1 13 0)).toInt ∧ ((u.1 13 0)).toInt ≤ 8) from by omega) (show (0 ≤ ((u.1 13 1)).toInt ∧ ((u.1 13 1)).toInt ≤ 6) from by omega) (show (0 ≤ ((u.1 44 3)).toInt ∧ ((u.1 44 3)).toInt ≤ 6) from by omega)) 44 rfl rfl mlX10_262 rfl rfl hl.1 ⟨rfl, rfl, Nat.le_of_ble_eq_true rfl, Nat.le_of_ble_eq_true rfl, Nat.le_of_ble_eq_true rfl, Nat.zero_le _, Nat.zero_le _⟩ dX10_ask_4 (fun H locs hw => ?_)
  exact xri S hr hlk hw (congrArg (fun b => (b, u)) hV) dX10_ask_7
def k_count (u : xU) (p1 : Int32) : Int32 :=
    (if p1 = 0 then
    (u.1 13 0)
    else
    (if p1 = 1 then
    (u.1 13 1)
    else
    (if p1 = 2 then
    (u.1 44 3)
    else
    (if p1 = 3 then
    (u.1 27 2)
    else
    (if p1 = 4 then
    (u.1 1 1)
    else
    (-1 : Int32))))))
set_option maxHeartbeats 4000000 in
set_option maxRecDepth 100000 in
theorem c_k_count (l : Launch) (D : va_G) (a : Nat → Nat) (Y : Nat → ClassId) (ts : Nat → Nat) (u : xU) (p1 : Int32) : xMi l yX10_count cX10_count 2 (some .int) (xRm 0 0) D (xty Y) (wC a Y) ts [.ref (a 0), .int p1] u ((k_count u p1), u) := by
  suffices h : ∀ V, V = k_count u p1 → xMi l yX10_count cX10_count 2 (some .int) (xRm 0 0) D (xty Y) (wC a Y) ts [.ref (a 0), .int p1] u (V, u) from h _ rfl
  intro V hV
  refine xofi RX10 rfl (by decide) (Nat.le_of_ble_eq_true rfl) ?_
  intro p e s m args below meth c ls H locs A S hr hlk hl hK hE hA hw
  have hl : lv_has ls 2 [(0, .ref (a 0)), (1, .int p1)] := hl
  refine lv_iload_n S.1 S.2.1 dX10_count_0 rfl (lv_at hl 1 rfl) ?_
  by_cases c_1 : p1 = 0
  · replace hV := hV.trans (if_pos c_1)
    have gc_1 : (p1).toInt = 0 := xq_eq c_1 rfl rfl
    refine lv_tableIn (tgt := 36) S.1 S.2.1 dX10_count_1 (by rw [c_1]; decide) (by rw [c_1]; decide) (by rw [c_1]; rfl) (by decide) ?_
    refine lv_aload_n S.1 S.2.1 dX10_count_36 rfl (lv_at hl 0 rfl) ?_
    refine xget (v := .ref (a 12)) S hK hw 0 rfl rfl inX10 1 (by decide) mfX10_19 rfl dX10_count_37 ?_
    refine xget (v := .ref (a 13)) S hK hw 12 rfl rfl inX0 0 (by decide) mfX10_98 rfl dX10_count_40 ?_
    refine xget (v := .int (u.1 13 0)) S hK hw 13 rfl rfl inX9 0 (by decide) mfX10_101 rfl dX10_count_43 ?_
    exact xri S hr hlk hw (congrArg (fun b => (b, u)) hV) dX10_count_46
  replace hV := hV.trans (if_neg c_1)
  by_cases c_2 : p1 = 1
  · replace hV := hV.trans (if_pos c_2)
    have gc_2 : (p1).toInt = 1 := xq_eq c_2 rfl rfl
    refine lv_tableIn (tgt := 47) S.1 S.2.1 dX10_count_1 (by rw [c_2]; decide) (by rw [c_2]; decide) (by rw [c_2]; rfl) (by decide) ?_
    refine lv_aload_n S.1 S.2.1 dX10_count_47 rfl (lv_at hl 0 rfl) ?_
    refine xget (v := .ref (a 12)) S hK hw 0 rfl rfl inX10 1 (by decide) mfX10_19 rfl dX10_count_48 ?_
    refine xget (v := .ref (a 13)) S hK hw 12 rfl rfl inX0 0 (by decide) mfX10_98 rfl dX10_count_51 ?_
    refine xget (v := .int (u.1 13 1)) S hK hw 13 rfl rfl inX9 1 (by decide) mfX10_106 rfl dX10_count_54 ?_
    exact xri S hr hlk hw (congrArg (fun b => (b, u)) hV) dX10_count_57
  replace hV := hV.trans (if_neg c_2)
  by_cases c_3 : p1 = 2
  · replace hV := hV.trans (if_pos c_3)
    have gc_3 : (p1).toInt = 2 := xq_eq c_3 rfl rfl
    refine lv_tableIn (tgt := 58) S.1 S.2.1 dX10_count_1 (by rw [c_3]; decide) (by rw [c_3]; decide) (by rw [c_3]; rfl) (by decide) ?_
    refine lv_aload_n S.1 S.2.1 dX10_count_58 rfl (lv_at hl 0 rfl) ?_
    refine xget (v := .ref (a 44)) S hK hw 0 rfl rfl inX10 6 (by decide) mfX10_56 rfl dX10_count_59 ?_
    refine xget (v := .int (u.1 44 3)) S hK hw 44 rfl rfl inX1 3 (by decide) mfX10_93 rfl dX10_count_62 ?_
    exact xri S hr hlk hw (congrArg (fun b => (b, u)) hV) dX10_count_65
  replace hV := hV.trans (if_neg c_3)
  by_cases c_4 : p1 = 3
  · replace hV := hV.trans (if_pos c_4)
    have gc_4 : (p1).toInt = 3 := xq_eq c_4 rfl rfl
    refine lv_tableIn (tgt := 66) S.1 S.2.1 dX10_count_1 (by rw [c_4]; decide) (by rw [c_4]; decide) (by rw [c_4]; rfl) (by decide) ?_
    refine lv_aload_n S.1 S.2.1 dX10_count_66 rfl (lv_at hl 0 rfl) ?_
    refine xget (v := .ref (a 27)) S hK hw 0 rfl rfl inX10 2 (by decide) mfX10_26 rfl dX10_count_67 ?_
    refine xget (v := .int (u.1 27 2)) S hK hw 27 rfl rfl inX6 2 (by decide) mfX10_90 rfl dX10_count_70 ?_
    exact xri S hr hlk hw (congrArg (fun b => (b, u)) hV) dX10_count_73
  replace hV := hV.trans (if_neg c_4)
  by_cases c_5 : p1 = 4
  · replace hV := hV.trans (if_pos c_5)
    have gc_5 : (p1).toInt = 4 := xq_eq c_5 rfl rfl
    refine lv_tableIn (tgt := 74) S.1 S.2.1 dX10_count_1 (by rw [c_5]; decide) (by rw [c_5]; decide) (by rw [c_5]; rfl) (by decide) ?_
    refine lv_aload_n S.1 S.2.1 dX10_count_74 rfl (lv_at hl 0 rfl) ?_
    refine xget (v := .ref (a 1)) S hK hw 0 rfl rfl inX10 0 (by decide) mfX10_10 rfl dX10_count_75 ?_
    refine xget (v := .int (u.1 1 1)) S hK hw 1 rfl rfl inX8 1 (by decide) mfX10_67 rfl dX10_count_78 ?_
    exact xri S hr hlk hw (congrArg (fun b => (b, u)) hV) dX10_count_81
  replace hV := hV.trans (if_neg c_5)
  have gc_1 : ¬ (p1).toInt = 0 := xq_ne c_1 rfl rfl
  have gc_2 : ¬ (p1).toInt = 1 := xq_ne c_2 rfl rfl
  have gc_3 : ¬ (p1).toInt = 2 := xq_ne c_3 rfl rfl
  have gc_4 : ¬ (p1).toInt = 3 := xq_ne c_4 rfl rfl
  have gc_5 : ¬ (p1).toInt = 4 := xq_ne c_5 rfl rfl
  refine lv_tableOut (tgt := 82) S.1 S.2.1 dX10_count_1 (by omega) (by decide) ?_
  refine lv_iconst (v := -1) S.1 S.2.1 dX10_count_82 (by decide) ?_
  exact xri S hr hlk hw (congrArg (fun b => (b, u)) hV) dX10_count_83
def k_trace (u : xU) : Int64 :=
    u.2
set_option maxHeartbeats 4000000 in
set_option maxRecDepth 100000 in
theorem c_k_trace (l : Launch) (D : va_G) (a : Nat → Nat) (Y : Nat → ClassId) (ts : Nat → Nat) (u : xU) : xMl l yX10_trace cX10_trace 1 (some .long) (xRm 0 0) D (xty Y) (wC a Y) ts [.ref (a 0)] u ((k_trace u), u) := by
  suffices h : ∀ V, V = k_trace u → xMl l yX10_trace cX10_trace 1 (some .long) (xRm 0 0) D (xty Y) (wC a Y) ts [.ref (a 0)] u (V, u) from h _ rfl
  intro V hV
  refine xofl RX10 rfl (by decide) (Nat.le_of_ble_eq_true rfl) ?_
  intro p e s m args below meth c ls H locs A S hr hlk hl hK hE hA hw
  have hl : lv_has ls 1 [(0, .ref (a 0))] := hl
  refine lv_aload_n S.1 S.2.1 dX10_trace_0 rfl (lv_at hl 0 rfl) ?_
  refine xget (v := .ref (a 47)) S hK hw 0 rfl rfl inX10 7 (by decide) mfX10_63 rfl dX10_trace_1 ?_
  refine xget (v := .long u.2) S hK hw 47 rfl rfl inX3 1 (by decide) mfX10_276 rfl dX10_trace_4 ?_
  exact xrl S hr hlk hw (congrArg (fun b => (b, u)) hV) dX10_trace_7
noncomputable def k_mark_b (u : xU) (p1 : Int32) (p2 : Int32) : Int32 × xU :=
    (if p1 < (0 : Int32) then
    ((-1000000 : Int32), u)
    else
    (if (6 : Int32) ≤ p1 then
    ((-1000000 : Int32), u)
    else
    (if (b2i (k_Hall_isCast u p2)) = (0 : Int32) then
    ((-1000000 : Int32), u)
    else
    let r_4 := k_Kinds_asKind u p1 p2
    (r_4.1, r_4.2))))
theorem k_mark_x : ∃ f : xU → Int32 → Int32 → Int32 × xU, f = k_mark_b := ⟨_, rfl⟩
noncomputable def k_mark : xU → Int32 → Int32 → Int32 × xU := k_mark_x.choose
theorem k_mark_def : k_mark = k_mark_b := k_mark_x.choose_spec
set_option maxHeartbeats 4000000 in
set_option maxRecDepth 100000 in
theorem c_k_mark (l : Launch) (D : va_G) (a : Nat → Nat) (Y : Nat → ClassId) (ts : Nat → Nat) (u : xU) (p1 : Int32) (p2 : Int32) (hT : (0 ≤ ((u.1 13 0)).toInt ∧ ((u.1 13 0)).toInt ≤ 8)) (hC : (0 ≤ ((u.1 13 1)).toInt ∧ ((u.1 13 1)).toInt ≤ 6)) : xMi l yX10_mark cX10_mark 3 (some .int) (xRm 4 85) D (xty Y) (wC a Y) ts [.ref (a 0), .int p1, .int p2] u ((k_mark u p1 p2).1, (k_mark u p1 p2).2) := by
  suffices h : ∀ V, V = k_mark_b u p1 p2 → xMi l yX10_mark cX10_mark 3 (some .int) (xRm 4 85) D (xty Y) (wC a Y) ts [.ref (a 0), .int p1, .int p2] u (V.1, V.2) from h _ (by rw [k_mark_def])
  intro V hV
  refine xofi RX10 rfl (by decide) (Nat.le_of_ble_eq_true rfl) ?_
  intro p e s m args below meth c ls H locs A S hr hlk hl hK hE hA hw
  have hl : lv_has ls 3 [(0, .ref (a 0)), (1, .int p1), (2, .int p2)] := hl
  refine lv_iload_n S.1 S.2.1 dX10_mark_0 rfl (lv_at hl 1 rfl) ?_
  refine lv_if_lt (tgt := 21) S.1 S.2.1 dX10_mark_1 (by decide) (fun c_1 => ?_) (fun c_1 => ?_)
  · replace hV := hV.trans (if_pos c_1)
    have gc_1 : (p1).toInt < 0 := xq_lt c_1 rfl rfl
    refine lv_ldcw (v := -1000000) S.1 S.2.1 S.2.2.2.1 (S.2.2.2.2 _ kcX10_265) dX10_mark_21 ?_
    exact xri S hr hlk hw hV dX10_mark_24
  · replace hV := hV.trans (if_neg c_1)
    have gc_1 : 0 ≤ (p1).toInt := xq_nlt c_1 rfl rfl
    refine lv_iload_n S.1 S.2.1 dX10_mark_4 rfl (lv_at hl 1 rfl) ?_
    refine lv_bipush (v := 6) S.1 S.2.1 dX10_mark_5 (by decide) ?_
    refine lv_icmp_ge (tgt := 21) S.1 S.2.1 dX10_mark_7 (by decide) (fun c_2 => ?_) (fun c_2 => ?_)
    · replace hV := hV.trans (if_pos c_2)
      have gc_2 : 6 ≤ (p1).toInt := xq_le c_2 rfl rfl
      refine lv_ldcw (v := -1000000) S.1 S.2.1 S.2.2.2.1 (S.2.2.2.2 _ kcX10_265) dX10_mark_21 ?_
      exact xri S hr hlk hw hV dX10_mark_24
    · replace hV := hV.trans (if_neg c_2)
      have gc_2 : (p1).toInt < 6 := xq_nle c_2 rfl rfl
      refine lv_aload_n S.1 S.2.1 dX10_mark_10 rfl (lv_at hl 0 rfl) ?_
      refine xget (v := .ref (a 12)) S hK hw 0 rfl rfl inX10 1 (by decide) mfX10_19 rfl dX10_mark_11 ?_
      refine lv_iload_n S.1 S.2.1 dX10_mark_14 rfl (lv_at hl 2 rfl) ?_
      refine xci (rest := []) S hK hE hA hw yfX0_isCast (c_k_Hall_isCast l D a Y ts _ p2 (show (0 ≤ ((u.1 13 0)).toInt ∧ ((u.1 13 0)).toInt ≤ 8) from by omega) (show (0 ≤ ((u.1 13 1)).toInt ∧ ((u.1 13 1)).toInt ≤ 6) from by omega)) 12 rfl rfl mlX10_129 rfl rfl hl.1 ⟨rfl, rfl, Nat.le_of_ble_eq_true rfl, Nat.le_of_ble_eq_true rfl, Nat.le_of_ble_eq_true rfl, Nat.zero_le _, Nat.zero_le _⟩ dX10_mark_15 (fun H locs hw => ?_)
      refine lv_if_ne (tgt := 25) S.1 S.2.1 dX10_mark_18 (by decide) (fun c_3 => ?_) (fun c_3 => ?_)
      · replace hV := hV.trans (if_neg c_3)
        have gc_3 : ¬ ((b2i (k_Hall_isCast u p2))).toInt = 0 := xq_ne c_3 rfl rfl
        have fc_3 := hk_isCast c_3
        refine lv_aload_n S.1 S.2.1 dX10_mark_25 rfl (lv_at hl 0 rfl) ?_
        refine xget (v := .ref (a 47)) S hK hw 0 rfl rfl inX10 7 (by decide) mfX10_63 rfl dX10_mark_26 ?_
        refine lv_iload_n S.1 S.2.1 dX10_mark_29 rfl (lv_at hl 1 rfl) ?_
        refine lv_iload_n S.1 S.2.1 dX10_mark_30 rfl (lv_at hl 2 rfl) ?_
        refine xci (rest := []) S hK hE hA hw yfX3_asKind (c_k_Kinds_asKind l D a Y ts _ p1 p2 (show 0 ≤ (p2).toInt ∧ (p2).toInt < 6 from by omega)) 47 rfl rfl mlX10_266 rfl rfl hl.1 ⟨rfl, rfl, Nat.le_of_ble_eq_true rfl, Nat.le_of_ble_eq_true rfl, Nat.le_of_ble_eq_true rfl, Nat.zero_le _, Nat.zero_le _⟩ dX10_mark_31 (fun H locs hw => ?_)
        exact xri S hr hlk hw hV dX10_mark_34
      · replace hV := hV.trans (if_pos c_3)
        have gc_3 : ((b2i (k_Hall_isCast u p2))).toInt = 0 := xq_eq c_3 rfl rfl
        refine lv_ldcw (v := -1000000) S.1 S.2.1 S.2.2.2.1 (S.2.2.2.2 _ kcX10_265) dX10_mark_21 ?_
        exact xri S hr hlk hw hV dX10_mark_24
def k_thing (u : xU) (p1 : Int32) (p2 : Int32) : Int32 :=
    (if (b2i (k_Hall_isThing u p1)) = (0 : Int32) then
    (-1 : Int32)
    else
    (if p2 = 0 then
    (u.1 14 (p1).toNatClampNeg)
    else
    (if p2 = 1 then
    (u.1 15 (p1).toNatClampNeg)
    else
    (if p2 = 2 then
    (u.1 16 (p1).toNatClampNeg)
    else
    (if p2 = 3 then
    (u.1 17 (p1).toNatClampNeg)
    else
    (if p2 = 4 then
    (k_Hall_whoCan u p1)
    else
    (-1 : Int32)))))))
set_option maxHeartbeats 4000000 in
set_option maxRecDepth 100000 in
theorem c_k_thing (l : Launch) (D : va_G) (a : Nat → Nat) (Y : Nat → ClassId) (ts : Nat → Nat) (u : xU) (p1 : Int32) (p2 : Int32) (hT : (0 ≤ ((u.1 13 0)).toInt ∧ ((u.1 13 0)).toInt ≤ 8)) (hC : (0 ≤ ((u.1 13 1)).toInt ∧ ((u.1 13 1)).toInt ≤ 6)) : xMi l yX10_thing cX10_thing 3 (some .int) (xRm 2 44) D (xty Y) (wC a Y) ts [.ref (a 0), .int p1, .int p2] u ((k_thing u p1 p2), u) := by
  suffices h : ∀ V, V = k_thing u p1 p2 → xMi l yX10_thing cX10_thing 3 (some .int) (xRm 2 44) D (xty Y) (wC a Y) ts [.ref (a 0), .int p1, .int p2] u (V, u) from h _ rfl
  intro V hV
  refine xofi RX10 rfl (by decide) (Nat.le_of_ble_eq_true rfl) ?_
  intro p e s m args below meth c ls H locs A S hr hlk hl hK hE hA hw
  have hl : lv_has ls 3 [(0, .ref (a 0)), (1, .int p1), (2, .int p2)] := hl
  refine lv_aload_n S.1 S.2.1 dX10_thing_0 rfl (lv_at hl 0 rfl) ?_
  refine xget (v := .ref (a 12)) S hK hw 0 rfl rfl inX10 1 (by decide) mfX10_19 rfl dX10_thing_1 ?_
  refine lv_iload_n S.1 S.2.1 dX10_thing_4 rfl (lv_at hl 1 rfl) ?_
  refine xci (rest := []) S hK hE hA hw yfX0_isThing (c_k_Hall_isThing l D a Y ts _ p1 (show (0 ≤ ((u.1 13 0)).toInt ∧ ((u.1 13 0)).toInt ≤ 8) from by omega) (show (0 ≤ ((u.1 13 1)).toInt ∧ ((u.1 13 1)).toInt ≤ 6) from by omega)) 12 rfl rfl mlX10_109 rfl rfl hl.1 ⟨rfl, rfl, Nat.le_of_ble_eq_true rfl, Nat.le_of_ble_eq_true rfl, Nat.le_of_ble_eq_true rfl, Nat.zero_le _, Nat.zero_le _⟩ dX10_thing_5 (fun H locs hw => ?_)
  refine lv_if_ne (tgt := 13) S.1 S.2.1 dX10_thing_8 (by decide) (fun c_1 => ?_) (fun c_1 => ?_)
  · replace hV := hV.trans (if_neg c_1)
    have gc_1 : ¬ ((b2i (k_Hall_isThing u p1))).toInt = 0 := xq_ne c_1 rfl rfl
    have fc_1 := hk_isThing c_1
    refine lv_iload_n S.1 S.2.1 dX10_thing_13 rfl (lv_at hl 2 rfl) ?_
    by_cases c_2 : p2 = 0
    · replace hV := hV.trans (if_pos c_2)
      have gc_2 : (p2).toInt = 0 := xq_eq c_2 rfl rfl
      refine lv_tableIn (tgt := 48) S.1 S.2.1 dX10_thing_14 (by rw [c_2]; decide) (by rw [c_2]; decide) (by rw [c_2]; rfl) (by decide) ?_
      refine lv_aload_n S.1 S.2.1 dX10_thing_48 rfl (lv_at hl 0 rfl) ?_
      refine xget (v := .ref (a 12)) S hK hw 0 rfl rfl inX10 1 (by decide) mfX10_19 rfl dX10_thing_49 ?_
      refine xget (v := .ref (a 13)) S hK hw 12 rfl rfl inX0 0 (by decide) mfX10_98 rfl dX10_thing_52 ?_
      refine xget (v := .ref (a 14)) S hK hw 13 rfl rfl inX9 2 (by decide) mfX10_113 rfl dX10_thing_55 ?_
      refine lv_iload_n S.1 S.2.1 dX10_thing_58 rfl (lv_at hl 1 rfl) ?_
      refine xald (f := u.1 14) S hK hw 14 0 rfl rfl (xvi rfl (by omega) (by omega)) dX10_thing_59 ?_
      exact xri S hr hlk hw (congrArg (fun b => (b, u)) hV) dX10_thing_60
    replace hV := hV.trans (if_neg c_2)
    by_cases c_3 : p2 = 1
    · replace hV := hV.trans (if_pos c_3)
      have gc_3 : (p2).toInt = 1 := xq_eq c_3 rfl rfl
      refine lv_tableIn (tgt := 61) S.1 S.2.1 dX10_thing_14 (by rw [c_3]; decide) (by rw [c_3]; decide) (by rw [c_3]; rfl) (by decide) ?_
      refine lv_aload_n S.1 S.2.1 dX10_thing_61 rfl (lv_at hl 0 rfl) ?_
      refine xget (v := .ref (a 12)) S hK hw 0 rfl rfl inX10 1 (by decide) mfX10_19 rfl dX10_thing_62 ?_
      refine xget (v := .ref (a 13)) S hK hw 12 rfl rfl inX0 0 (by decide) mfX10_98 rfl dX10_thing_65 ?_
      refine xget (v := .ref (a 15)) S hK hw 13 rfl rfl inX9 3 (by decide) mfX10_116 rfl dX10_thing_68 ?_
      refine lv_iload_n S.1 S.2.1 dX10_thing_71 rfl (lv_at hl 1 rfl) ?_
      refine xald (f := u.1 15) S hK hw 15 0 rfl rfl (xvi rfl (by omega) (by omega)) dX10_thing_72 ?_
      exact xri S hr hlk hw (congrArg (fun b => (b, u)) hV) dX10_thing_73
    replace hV := hV.trans (if_neg c_3)
    by_cases c_4 : p2 = 2
    · replace hV := hV.trans (if_pos c_4)
      have gc_4 : (p2).toInt = 2 := xq_eq c_4 rfl rfl
      refine lv_tableIn (tgt := 74) S.1 S.2.1 dX10_thing_14 (by rw [c_4]; decide) (by rw [c_4]; decide) (by rw [c_4]; rfl) (by decide) ?_
      refine lv_aload_n S.1 S.2.1 dX10_thing_74 rfl (lv_at hl 0 rfl) ?_
      refine xget (v := .ref (a 12)) S hK hw 0 rfl rfl inX10 1 (by decide) mfX10_19 rfl dX10_thing_75 ?_
      refine xget (v := .ref (a 13)) S hK hw 12 rfl rfl inX0 0 (by decide) mfX10_98 rfl dX10_thing_78 ?_
      refine xget (v := .ref (a 16)) S hK hw 13 rfl rfl inX9 4 (by decide) mfX10_119 rfl dX10_thing_81 ?_
      refine lv_iload_n S.1 S.2.1 dX10_thing_84 rfl (lv_at hl 1 rfl) ?_
      refine xald (f := u.1 16) S hK hw 16 0 rfl rfl (xvi rfl (by omega) (by omega)) dX10_thing_85 ?_
      exact xri S hr hlk hw (congrArg (fun b => (b, u)) hV) dX10_thing_86
    replace hV := hV.trans (if_neg c_4)
    by_cases c_5 : p2 = 3
    · replace hV := hV.trans (if_pos c_5)
      have gc_5 : (p2).toInt = 3 := xq_eq c_5 rfl rfl
      refine lv_tableIn (tgt := 87) S.1 S.2.1 dX10_thing_14 (by rw [c_5]; decide) (by rw [c_5]; decide) (by rw [c_5]; rfl) (by decide) ?_
      refine lv_aload_n S.1 S.2.1 dX10_thing_87 rfl (lv_at hl 0 rfl) ?_
      refine xget (v := .ref (a 12)) S hK hw 0 rfl rfl inX10 1 (by decide) mfX10_19 rfl dX10_thing_88 ?_
      refine xget (v := .ref (a 13)) S hK hw 12 rfl rfl inX0 0 (by decide) mfX10_98 rfl dX10_thing_91 ?_
      refine xget (v := .ref (a 17)) S hK hw 13 rfl rfl inX9 5 (by decide) mfX10_122 rfl dX10_thing_94 ?_
      refine lv_iload_n S.1 S.2.1 dX10_thing_97 rfl (lv_at hl 1 rfl) ?_
      refine xald (f := u.1 17) S hK hw 17 0 rfl rfl (xvi rfl (by omega) (by omega)) dX10_thing_98 ?_
      exact xri S hr hlk hw (congrArg (fun b => (b, u)) hV) dX10_thing_99
    replace hV := hV.trans (if_neg c_5)
    by_cases c_6 : p2 = 4
    · replace hV := hV.trans (if_pos c_6)
      have gc_6 : (p2).toInt = 4 := xq_eq c_6 rfl rfl
      refine lv_tableIn (tgt := 100) S.1 S.2.1 dX10_thing_14 (by rw [c_6]; decide) (by rw [c_6]; decide) (by rw [c_6]; rfl) (by decide) ?_
      refine lv_aload_n S.1 S.2.1 dX10_thing_100 rfl (lv_at hl 0 rfl) ?_
      refine xget (v := .ref (a 12)) S hK hw 0 rfl rfl inX10 1 (by decide) mfX10_19 rfl dX10_thing_101 ?_
      refine lv_iload_n S.1 S.2.1 dX10_thing_104 rfl (lv_at hl 1 rfl) ?_
      refine xci (rest := []) S hK hE hA hw yfX0_whoCan (c_k_Hall_whoCan l D a Y ts _ p1 (show (0 ≤ ((u.1 13 0)).toInt ∧ ((u.1 13 0)).toInt ≤ 8) from by omega) (show (0 ≤ ((u.1 13 1)).toInt ∧ ((u.1 13 1)).toInt ≤ 6) from by omega)) 12 rfl rfl mlX10_125 rfl rfl hl.1 ⟨rfl, rfl, Nat.le_of_ble_eq_true rfl, Nat.le_of_ble_eq_true rfl, Nat.le_of_ble_eq_true rfl, Nat.zero_le _, Nat.zero_le _⟩ dX10_thing_105 (fun H locs hw => ?_)
      exact xri S hr hlk hw (congrArg (fun b => (b, u)) hV) dX10_thing_108
    replace hV := hV.trans (if_neg c_6)
    have gc_2 : ¬ (p2).toInt = 0 := xq_ne c_2 rfl rfl
    have gc_3 : ¬ (p2).toInt = 1 := xq_ne c_3 rfl rfl
    have gc_4 : ¬ (p2).toInt = 2 := xq_ne c_4 rfl rfl
    have gc_5 : ¬ (p2).toInt = 3 := xq_ne c_5 rfl rfl
    have gc_6 : ¬ (p2).toInt = 4 := xq_ne c_6 rfl rfl
    refine lv_tableOut (tgt := 109) S.1 S.2.1 dX10_thing_14 (by omega) (by decide) ?_
    refine lv_iconst (v := -1) S.1 S.2.1 dX10_thing_109 (by decide) ?_
    exact xri S hr hlk hw (congrArg (fun b => (b, u)) hV) dX10_thing_110
  · replace hV := hV.trans (if_pos c_1)
    have gc_1 : ((b2i (k_Hall_isThing u p1))).toInt = 0 := xq_eq c_1 rfl rfl
    refine lv_iconst (v := -1) S.1 S.2.1 dX10_thing_11 (by decide) ?_
    exact xri S hr hlk hw (congrArg (fun b => (b, u)) hV) dX10_thing_12
def k_cast (u : xU) (p1 : Int32) (p2 : Int32) : Int32 :=
    (if (b2i (k_Hall_isCast u p1)) = (0 : Int32) then
    (-1 : Int32)
    else
    (if p2 = 0 then
    (u.1 18 (p1).toNatClampNeg)
    else
    (if p2 = 1 then
    (u.1 19 (p1).toNatClampNeg)
    else
    (if p2 = 2 then
    (u.1 24 (p1).toNatClampNeg)
    else
    (if p2 = 3 then
    (u.1 25 (p1).toNatClampNeg)
    else
    (if p2 = 4 then
    (if (b2i (k_Hall_isBroken u p1)) = (0 : Int32) then
    (0 : Int32)
    else
    (1 : Int32))
    else
    (if p2 = 5 then
    (u.1 23 (p1).toNatClampNeg)
    else
    (if p2 = 6 then
    (k_Hall_allItMay u p1)
    else
    (if p2 = 7 then
    (k_orNone (u.1 26 (p1).toNatClampNeg))
    else
    (-1 : Int32))))))))))
set_option maxHeartbeats 4000000 in
set_option maxRecDepth 100000 in
theorem c_k_cast (l : Launch) (D : va_G) (a : Nat → Nat) (Y : Nat → ClassId) (ts : Nat → Nat) (u : xU) (p1 : Int32) (p2 : Int32) (hT : (0 ≤ ((u.1 13 0)).toInt ∧ ((u.1 13 0)).toInt ≤ 8)) (hC : (0 ≤ ((u.1 13 1)).toInt ∧ ((u.1 13 1)).toInt ≤ 6)) : xMi l yX10_cast cX10_cast 3 (some .int) (xRm 4 88) D (xty Y) (wC a Y) ts [.ref (a 0), .int p1, .int p2] u ((k_cast u p1 p2), u) := by
  suffices h : ∀ V, V = k_cast u p1 p2 → xMi l yX10_cast cX10_cast 3 (some .int) (xRm 4 88) D (xty Y) (wC a Y) ts [.ref (a 0), .int p1, .int p2] u (V, u) from h _ rfl
  intro V hV
  refine xofi RX10 rfl (by decide) (Nat.le_of_ble_eq_true rfl) ?_
  intro p e s m args below meth c ls H locs A S hr hlk hl hK hE hA hw
  have hl : lv_has ls 3 [(0, .ref (a 0)), (1, .int p1), (2, .int p2)] := hl
  refine lv_aload_n S.1 S.2.1 dX10_cast_0 rfl (lv_at hl 0 rfl) ?_
  refine xget (v := .ref (a 12)) S hK hw 0 rfl rfl inX10 1 (by decide) mfX10_19 rfl dX10_cast_1 ?_
  refine lv_iload_n S.1 S.2.1 dX10_cast_4 rfl (lv_at hl 1 rfl) ?_
  refine xci (rest := []) S hK hE hA hw yfX0_isCast (c_k_Hall_isCast l D a Y ts _ p1 (show (0 ≤ ((u.1 13 0)).toInt ∧ ((u.1 13 0)).toInt ≤ 8) from by omega) (show (0 ≤ ((u.1 13 1)).toInt ∧ ((u.1 13 1)).toInt ≤ 6) from by omega)) 12 rfl rfl mlX10_129 rfl rfl hl.1 ⟨rfl, rfl, Nat.le_of_ble_eq_true rfl, Nat.le_of_ble_eq_true rfl, Nat.le_of_ble_eq_true rfl, Nat.zero_le _, Nat.zero_le _⟩ dX10_cast_5 (fun H locs hw => ?_)
  refine lv_if_ne (tgt := 13) S.1 S.2.1 dX10_cast_8 (by decide) (fun c_1 => ?_) (fun c_1 => ?_)
  · replace hV := hV.trans (if_neg c_1)
    have gc_1 : ¬ ((b2i (k_Hall_isCast u p1))).toInt = 0 := xq_ne c_1 rfl rfl
    have fc_1 := hk_isCast c_1
    refine lv_iload_n S.1 S.2.1 dX10_cast_13 rfl (lv_at hl 2 rfl) ?_
    by_cases c_2 : p2 = 0
    · replace hV := hV.trans (if_pos c_2)
      have gc_2 : (p2).toInt = 0 := xq_eq c_2 rfl rfl
      refine lv_tableIn (tgt := 60) S.1 S.2.1 dX10_cast_14 (by rw [c_2]; decide) (by rw [c_2]; decide) (by rw [c_2]; rfl) (by decide) ?_
      refine lv_aload_n S.1 S.2.1 dX10_cast_60 rfl (lv_at hl 0 rfl) ?_
      refine xget (v := .ref (a 12)) S hK hw 0 rfl rfl inX10 1 (by decide) mfX10_19 rfl dX10_cast_61 ?_
      refine xget (v := .ref (a 13)) S hK hw 12 rfl rfl inX0 0 (by decide) mfX10_98 rfl dX10_cast_64 ?_
      refine xget (v := .ref (a 18)) S hK hw 13 rfl rfl inX9 6 (by decide) mfX10_132 rfl dX10_cast_67 ?_
      refine lv_iload_n S.1 S.2.1 dX10_cast_70 rfl (lv_at hl 1 rfl) ?_
      refine xald (f := u.1 18) S hK hw 18 0 rfl rfl (xvi rfl (by omega) (by omega)) dX10_cast_71 ?_
      exact xri S hr hlk hw (congrArg (fun b => (b, u)) hV) dX10_cast_72
    replace hV := hV.trans (if_neg c_2)
    by_cases c_3 : p2 = 1
    · replace hV := hV.trans (if_pos c_3)
      have gc_3 : (p2).toInt = 1 := xq_eq c_3 rfl rfl
      refine lv_tableIn (tgt := 73) S.1 S.2.1 dX10_cast_14 (by rw [c_3]; decide) (by rw [c_3]; decide) (by rw [c_3]; rfl) (by decide) ?_
      refine lv_aload_n S.1 S.2.1 dX10_cast_73 rfl (lv_at hl 0 rfl) ?_
      refine xget (v := .ref (a 12)) S hK hw 0 rfl rfl inX10 1 (by decide) mfX10_19 rfl dX10_cast_74 ?_
      refine xget (v := .ref (a 13)) S hK hw 12 rfl rfl inX0 0 (by decide) mfX10_98 rfl dX10_cast_77 ?_
      refine xget (v := .ref (a 19)) S hK hw 13 rfl rfl inX9 7 (by decide) mfX10_135 rfl dX10_cast_80 ?_
      refine lv_iload_n S.1 S.2.1 dX10_cast_83 rfl (lv_at hl 1 rfl) ?_
      refine xald (f := u.1 19) S hK hw 19 0 rfl rfl (xvi rfl (by omega) (by omega)) dX10_cast_84 ?_
      exact xri S hr hlk hw (congrArg (fun b => (b, u)) hV) dX10_cast_85
    replace hV := hV.trans (if_neg c_3)
    by_cases c_4 : p2 = 2
    · replace hV := hV.trans (if_pos c_4)
      have gc_4 : (p2).toInt = 2 := xq_eq c_4 rfl rfl
      refine lv_tableIn (tgt := 86) S.1 S.2.1 dX10_cast_14 (by rw [c_4]; decide) (by rw [c_4]; decide) (by rw [c_4]; rfl) (by decide) ?_
      refine lv_aload_n S.1 S.2.1 dX10_cast_86 rfl (lv_at hl 0 rfl) ?_
      refine xget (v := .ref (a 12)) S hK hw 0 rfl rfl inX10 1 (by decide) mfX10_19 rfl dX10_cast_87 ?_
      refine xget (v := .ref (a 21)) S hK hw 12 rfl rfl inX0 1 (by decide) mfX10_138 rfl dX10_cast_90 ?_
      refine xget (v := .ref (a 24)) S hK hw 21 rfl rfl inX4 4 (by decide) mfX10_142 rfl dX10_cast_93 ?_
      refine lv_iload_n S.1 S.2.1 dX10_cast_96 rfl (lv_at hl 1 rfl) ?_
      refine xald (f := u.1 24) S hK hw 24 0 rfl rfl (xvi rfl (by omega) (by omega)) dX10_cast_97 ?_
      exact xri S hr hlk hw (congrArg (fun b => (b, u)) hV) dX10_cast_98
    replace hV := hV.trans (if_neg c_4)
    by_cases c_5 : p2 = 3
    · replace hV := hV.trans (if_pos c_5)
      have gc_5 : (p2).toInt = 3 := xq_eq c_5 rfl rfl
      refine lv_tableIn (tgt := 99) S.1 S.2.1 dX10_cast_14 (by rw [c_5]; decide) (by rw [c_5]; decide) (by rw [c_5]; rfl) (by decide) ?_
      refine lv_aload_n S.1 S.2.1 dX10_cast_99 rfl (lv_at hl 0 rfl) ?_
      refine xget (v := .ref (a 12)) S hK hw 0 rfl rfl inX10 1 (by decide) mfX10_19 rfl dX10_cast_100 ?_
      refine xget (v := .ref (a 21)) S hK hw 12 rfl rfl inX0 1 (by decide) mfX10_138 rfl dX10_cast_103 ?_
      refine xget (v := .ref (a 25)) S hK hw 21 rfl rfl inX4 5 (by decide) mfX10_147 rfl dX10_cast_106 ?_
      refine lv_iload_n S.1 S.2.1 dX10_cast_109 rfl (lv_at hl 1 rfl) ?_
      refine xald (f := u.1 25) S hK hw 25 0 rfl rfl (xvi rfl (by omega) (by omega)) dX10_cast_110 ?_
      exact xri S hr hlk hw (congrArg (fun b => (b, u)) hV) dX10_cast_111
    replace hV := hV.trans (if_neg c_5)
    by_cases c_6 : p2 = 4
    · replace hV := hV.trans (if_pos c_6)
      have gc_6 : (p2).toInt = 4 := xq_eq c_6 rfl rfl
      refine lv_tableIn (tgt := 112) S.1 S.2.1 dX10_cast_14 (by rw [c_6]; decide) (by rw [c_6]; decide) (by rw [c_6]; rfl) (by decide) ?_
      refine lv_aload_n S.1 S.2.1 dX10_cast_112 rfl (lv_at hl 0 rfl) ?_
      refine xget (v := .ref (a 12)) S hK hw 0 rfl rfl inX10 1 (by decide) mfX10_19 rfl dX10_cast_113 ?_
      refine lv_iload_n S.1 S.2.1 dX10_cast_116 rfl (lv_at hl 1 rfl) ?_
      refine xci (rest := []) S hK hE hA hw yfX0_isBroken (c_k_Hall_isBroken l D a Y ts _ p1 (show (0 ≤ ((u.1 13 0)).toInt ∧ ((u.1 13 0)).toInt ≤ 8) from by omega) (show (0 ≤ ((u.1 13 1)).toInt ∧ ((u.1 13 1)).toInt ≤ 6) from by omega) (show 0 ≤ (p1).toInt ∧ (p1).toInt < 6 from by omega)) 12 rfl rfl mlX10_150 rfl rfl hl.1 ⟨rfl, rfl, Nat.le_of_ble_eq_true rfl, Nat.le_of_ble_eq_true rfl, Nat.le_of_ble_eq_true rfl, Nat.zero_le _, Nat.zero_le _⟩ dX10_cast_117 (fun H locs hw => ?_)
      refine lv_if_eq (tgt := 127) S.1 S.2.1 dX10_cast_120 (by decide) (fun c_7 => ?_) (fun c_7 => ?_)
      · replace hV := hV.trans (if_pos c_7)
        have gc_7 : ((b2i (k_Hall_isBroken u p1))).toInt = 0 := xq_eq c_7 rfl rfl
        refine lv_iconst (v := 0) S.1 S.2.1 dX10_cast_127 (by decide) ?_
        exact xri S hr hlk hw (congrArg (fun b => (b, u)) hV) dX10_cast_128
      · replace hV := hV.trans (if_neg c_7)
        have gc_7 : ¬ ((b2i (k_Hall_isBroken u p1))).toInt = 0 := xq_ne c_7 rfl rfl
        refine lv_iconst (v := 1) S.1 S.2.1 dX10_cast_123 (by decide) ?_
        refine lv_goto (tgt := 128) S.1 S.2.1 dX10_cast_124 (by decide) ?_
        exact xri S hr hlk hw (congrArg (fun b => (b, u)) hV) dX10_cast_128
    replace hV := hV.trans (if_neg c_6)
    by_cases c_8 : p2 = 5
    · replace hV := hV.trans (if_pos c_8)
      have gc_8 : (p2).toInt = 5 := xq_eq c_8 rfl rfl
      refine lv_tableIn (tgt := 129) S.1 S.2.1 dX10_cast_14 (by rw [c_8]; decide) (by rw [c_8]; decide) (by rw [c_8]; rfl) (by decide) ?_
      refine lv_aload_n S.1 S.2.1 dX10_cast_129 rfl (lv_at hl 0 rfl) ?_
      refine xget (v := .ref (a 12)) S hK hw 0 rfl rfl inX10 1 (by decide) mfX10_19 rfl dX10_cast_130 ?_
      refine xget (v := .ref (a 21)) S hK hw 12 rfl rfl inX0 1 (by decide) mfX10_138 rfl dX10_cast_133 ?_
      refine xget (v := .ref (a 23)) S hK hw 21 rfl rfl inX4 3 (by decide) mfX10_153 rfl dX10_cast_136 ?_
      refine lv_iload_n S.1 S.2.1 dX10_cast_139 rfl (lv_at hl 1 rfl) ?_
      refine xald (f := u.1 23) S hK hw 23 0 rfl rfl (xvi rfl (by omega) (by omega)) dX10_cast_140 ?_
      exact xri S hr hlk hw (congrArg (fun b => (b, u)) hV) dX10_cast_141
    replace hV := hV.trans (if_neg c_8)
    by_cases c_9 : p2 = 6
    · replace hV := hV.trans (if_pos c_9)
      have gc_9 : (p2).toInt = 6 := xq_eq c_9 rfl rfl
      refine lv_tableIn (tgt := 142) S.1 S.2.1 dX10_cast_14 (by rw [c_9]; decide) (by rw [c_9]; decide) (by rw [c_9]; rfl) (by decide) ?_
      refine lv_aload_n S.1 S.2.1 dX10_cast_142 rfl (lv_at hl 0 rfl) ?_
      refine xget (v := .ref (a 12)) S hK hw 0 rfl rfl inX10 1 (by decide) mfX10_19 rfl dX10_cast_143 ?_
      refine lv_iload_n S.1 S.2.1 dX10_cast_146 rfl (lv_at hl 1 rfl) ?_
      refine xci (rest := []) S hK hE hA hw yfX0_allItMay (c_k_Hall_allItMay l D a Y ts _ p1 (show (0 ≤ ((u.1 13 0)).toInt ∧ ((u.1 13 0)).toInt ≤ 8) from by omega) (show (0 ≤ ((u.1 13 1)).toInt ∧ ((u.1 13 1)).toInt ≤ 6) from by omega) (show 0 ≤ (p1).toInt ∧ (p1).toInt < 6 from by omega)) 12 rfl rfl mlX10_156 rfl rfl hl.1 ⟨rfl, rfl, Nat.le_of_ble_eq_true rfl, Nat.le_of_ble_eq_true rfl, Nat.le_of_ble_eq_true rfl, Nat.zero_le _, Nat.zero_le _⟩ dX10_cast_147 (fun H locs hw => ?_)
      exact xri S hr hlk hw (congrArg (fun b => (b, u)) hV) dX10_cast_150
    replace hV := hV.trans (if_neg c_9)
    by_cases c_10 : p2 = 7
    · replace hV := hV.trans (if_pos c_10)
      have gc_10 : (p2).toInt = 7 := xq_eq c_10 rfl rfl
      refine lv_tableIn (tgt := 151) S.1 S.2.1 dX10_cast_14 (by rw [c_10]; decide) (by rw [c_10]; decide) (by rw [c_10]; rfl) (by decide) ?_
      refine lv_aload_n S.1 S.2.1 dX10_cast_151 rfl (lv_at hl 0 rfl) ?_
      refine xget (v := .ref (a 12)) S hK hw 0 rfl rfl inX10 1 (by decide) mfX10_19 rfl dX10_cast_152 ?_
      refine xget (v := .ref (a 21)) S hK hw 12 rfl rfl inX0 1 (by decide) mfX10_138 rfl dX10_cast_155 ?_
      refine xget (v := .ref (a 26)) S hK hw 21 rfl rfl inX4 6 (by decide) mfX10_159 rfl dX10_cast_158 ?_
      refine lv_iload_n S.1 S.2.1 dX10_cast_161 rfl (lv_at hl 1 rfl) ?_
      refine xald (f := u.1 26) S hK hw 26 0 rfl rfl (xvi rfl (by omega) (by omega)) dX10_cast_162 ?_
      refine xcP (rest := []) S hw yfX10_orNone (c_k_orNone l (u.1 26 (p1).toNatClampNeg)) mlX10_162 rfl rfl hl.1 ⟨rfl, rfl, Nat.le_of_ble_eq_true rfl, Nat.le_of_ble_eq_true rfl, Nat.le_of_ble_eq_true rfl, Nat.zero_le _, Nat.zero_le _⟩ dX10_cast_163 (fun H locs hw => ?_)
      exact xri S hr hlk hw (congrArg (fun b => (b, u)) hV) dX10_cast_166
    replace hV := hV.trans (if_neg c_10)
    have gc_2 : ¬ (p2).toInt = 0 := xq_ne c_2 rfl rfl
    have gc_3 : ¬ (p2).toInt = 1 := xq_ne c_3 rfl rfl
    have gc_4 : ¬ (p2).toInt = 2 := xq_ne c_4 rfl rfl
    have gc_5 : ¬ (p2).toInt = 3 := xq_ne c_5 rfl rfl
    have gc_6 : ¬ (p2).toInt = 4 := xq_ne c_6 rfl rfl
    have gc_8 : ¬ (p2).toInt = 5 := xq_ne c_8 rfl rfl
    have gc_9 : ¬ (p2).toInt = 6 := xq_ne c_9 rfl rfl
    have gc_10 : ¬ (p2).toInt = 7 := xq_ne c_10 rfl rfl
    refine lv_tableOut (tgt := 167) S.1 S.2.1 dX10_cast_14 (by omega) (by decide) ?_
    refine lv_iconst (v := -1) S.1 S.2.1 dX10_cast_167 (by decide) ?_
    exact xri S hr hlk hw (congrArg (fun b => (b, u)) hV) dX10_cast_168
  · replace hV := hV.trans (if_pos c_1)
    have gc_1 : ((b2i (k_Hall_isCast u p1))).toInt = 0 := xq_eq c_1 rfl rfl
    refine lv_iconst (v := -1) S.1 S.2.1 dX10_cast_11 (by decide) ?_
    exact xri S hr hlk hw (congrArg (fun b => (b, u)) hV) dX10_cast_12
def k_far (u : xU) (p1 : Int32) (p2 : Int32) : Int32 :=
    (if (b2i (k_Hall_isCast u p1)) = (0 : Int32) then
    (-1 : Int32)
    else
    (if (b2i (k_Hall_isThing u p2)) = (0 : Int32) then
    (-1 : Int32)
    else
    (u.1 22 (((p1 * (8 : Int32)) + p2)).toNatClampNeg)))
set_option maxHeartbeats 4000000 in
set_option maxRecDepth 100000 in
theorem c_k_far (l : Launch) (D : va_G) (a : Nat → Nat) (Y : Nat → ClassId) (ts : Nat → Nat) (u : xU) (p1 : Int32) (p2 : Int32) (hT : (0 ≤ ((u.1 13 0)).toInt ∧ ((u.1 13 0)).toInt ≤ 8)) (hC : (0 ≤ ((u.1 13 1)).toInt ∧ ((u.1 13 1)).toInt ≤ 6)) : xMi l yX10_far cX10_far 3 (some .int) (xRm 1 21) D (xty Y) (wC a Y) ts [.ref (a 0), .int p1, .int p2] u ((k_far u p1 p2), u) := by
  suffices h : ∀ V, V = k_far u p1 p2 → xMi l yX10_far cX10_far 3 (some .int) (xRm 1 21) D (xty Y) (wC a Y) ts [.ref (a 0), .int p1, .int p2] u (V, u) from h _ rfl
  intro V hV
  refine xofi RX10 rfl (by decide) (Nat.le_of_ble_eq_true rfl) ?_
  intro p e s m args below meth c ls H locs A S hr hlk hl hK hE hA hw
  have hl : lv_has ls 3 [(0, .ref (a 0)), (1, .int p1), (2, .int p2)] := hl
  refine lv_aload_n S.1 S.2.1 dX10_far_0 rfl (lv_at hl 0 rfl) ?_
  refine xget (v := .ref (a 12)) S hK hw 0 rfl rfl inX10 1 (by decide) mfX10_19 rfl dX10_far_1 ?_
  refine lv_iload_n S.1 S.2.1 dX10_far_4 rfl (lv_at hl 1 rfl) ?_
  refine xci (rest := []) S hK hE hA hw yfX0_isCast (c_k_Hall_isCast l D a Y ts _ p1 (show (0 ≤ ((u.1 13 0)).toInt ∧ ((u.1 13 0)).toInt ≤ 8) from by omega) (show (0 ≤ ((u.1 13 1)).toInt ∧ ((u.1 13 1)).toInt ≤ 6) from by omega)) 12 rfl rfl mlX10_129 rfl rfl hl.1 ⟨rfl, rfl, Nat.le_of_ble_eq_true rfl, Nat.le_of_ble_eq_true rfl, Nat.le_of_ble_eq_true rfl, Nat.zero_le _, Nat.zero_le _⟩ dX10_far_5 (fun H locs hw => ?_)
  refine lv_if_eq (tgt := 22) S.1 S.2.1 dX10_far_8 (by decide) (fun c_1 => ?_) (fun c_1 => ?_)
  · replace hV := hV.trans (if_pos c_1)
    have gc_1 : ((b2i (k_Hall_isCast u p1))).toInt = 0 := xq_eq c_1 rfl rfl
    refine lv_iconst (v := -1) S.1 S.2.1 dX10_far_22 (by decide) ?_
    exact xri S hr hlk hw (congrArg (fun b => (b, u)) hV) dX10_far_23
  · replace hV := hV.trans (if_neg c_1)
    have gc_1 : ¬ ((b2i (k_Hall_isCast u p1))).toInt = 0 := xq_ne c_1 rfl rfl
    have fc_1 := hk_isCast c_1
    refine lv_aload_n S.1 S.2.1 dX10_far_11 rfl (lv_at hl 0 rfl) ?_
    refine xget (v := .ref (a 12)) S hK hw 0 rfl rfl inX10 1 (by decide) mfX10_19 rfl dX10_far_12 ?_
    refine lv_iload_n S.1 S.2.1 dX10_far_15 rfl (lv_at hl 2 rfl) ?_
    refine xci (rest := []) S hK hE hA hw yfX0_isThing (c_k_Hall_isThing l D a Y ts _ p2 (show (0 ≤ ((u.1 13 0)).toInt ∧ ((u.1 13 0)).toInt ≤ 8) from by omega) (show (0 ≤ ((u.1 13 1)).toInt ∧ ((u.1 13 1)).toInt ≤ 6) from by omega)) 12 rfl rfl mlX10_109 rfl rfl hl.1 ⟨rfl, rfl, Nat.le_of_ble_eq_true rfl, Nat.le_of_ble_eq_true rfl, Nat.le_of_ble_eq_true rfl, Nat.zero_le _, Nat.zero_le _⟩ dX10_far_16 (fun H locs hw => ?_)
    refine lv_if_ne (tgt := 24) S.1 S.2.1 dX10_far_19 (by decide) (fun c_2 => ?_) (fun c_2 => ?_)
    · replace hV := hV.trans (if_neg c_2)
      have gc_2 : ¬ ((b2i (k_Hall_isThing u p2))).toInt = 0 := xq_ne c_2 rfl rfl
      have fc_2 := hk_isThing c_2
      refine lv_aload_n S.1 S.2.1 dX10_far_24 rfl (lv_at hl 0 rfl) ?_
      refine xget (v := .ref (a 12)) S hK hw 0 rfl rfl inX10 1 (by decide) mfX10_19 rfl dX10_far_25 ?_
      refine xget (v := .ref (a 21)) S hK hw 12 rfl rfl inX0 1 (by decide) mfX10_138 rfl dX10_far_28 ?_
      refine xget (v := .ref (a 22)) S hK hw 21 rfl rfl inX4 2 (by decide) mfX10_165 rfl dX10_far_31 ?_
      refine lv_iload_n S.1 S.2.1 dX10_far_34 rfl (lv_at hl 1 rfl) ?_
      refine lv_bipush (v := 8) S.1 S.2.1 dX10_far_35 (by decide) ?_
      refine lv_imul S.1 S.2.1 dX10_far_37 ?_
      refine lv_iload_n S.1 S.2.1 dX10_far_38 rfl (lv_at hl 2 rfl) ?_
      refine lv_iadd S.1 S.2.1 dX10_far_39 ?_
      have e_3 : ∀ _ : Unit, ((p1 * (8 : Int32))).toInt = (p1).toInt * 8 := fun _ => xmul rfl rfl (by omega) (by omega)
      have e_4 : ∀ _ : Unit, (((p1 * (8 : Int32)) + p2)).toInt = ((p1).toInt * 8) + (p2).toInt := fun _ => xadd (e_3 ()) rfl (by omega) (by omega)
      refine xald (f := u.1 22) S hK hw 22 0 rfl rfl (xvi (e_4 ()) (by omega) (by omega)) dX10_far_40 ?_
      exact xri S hr hlk hw (congrArg (fun b => (b, u)) hV) dX10_far_41
    · replace hV := hV.trans (if_pos c_2)
      have gc_2 : ((b2i (k_Hall_isThing u p2))).toInt = 0 := xq_eq c_2 rfl rfl
      refine lv_iconst (v := -1) S.1 S.2.1 dX10_far_22 (by decide) ?_
      exact xri S hr hlk hw (congrArg (fun b => (b, u)) hV) dX10_far_23
def k_near (u : xU) (p1 : Int32) (p2 : Int32) : Int32 :=
    (if (b2i (k_Hall_isCast u p1)) = (0 : Int32) then
    (-1 : Int32)
    else
    (if (b2i (k_Hall_isCast u p2)) = (0 : Int32) then
    (-1 : Int32)
    else
    (if p1 = p2 then
    (-1 : Int32)
    else
    (k_Hall_unlikeParts u p1 p2))))
set_option maxHeartbeats 4000000 in
set_option maxRecDepth 100000 in
theorem c_k_near (l : Launch) (D : va_G) (a : Nat → Nat) (Y : Nat → ClassId) (ts : Nat → Nat) (u : xU) (p1 : Int32) (p2 : Int32) (hT : (0 ≤ ((u.1 13 0)).toInt ∧ ((u.1 13 0)).toInt ≤ 8)) (hC : (0 ≤ ((u.1 13 1)).toInt ∧ ((u.1 13 1)).toInt ≤ 6)) : xMi l yX10_near cX10_near 3 (some .int) (xRm 2 42) D (xty Y) (wC a Y) ts [.ref (a 0), .int p1, .int p2] u ((k_near u p1 p2), u) := by
  suffices h : ∀ V, V = k_near u p1 p2 → xMi l yX10_near cX10_near 3 (some .int) (xRm 2 42) D (xty Y) (wC a Y) ts [.ref (a 0), .int p1, .int p2] u (V, u) from h _ rfl
  intro V hV
  refine xofi RX10 rfl (by decide) (Nat.le_of_ble_eq_true rfl) ?_
  intro p e s m args below meth c ls H locs A S hr hlk hl hK hE hA hw
  have hl : lv_has ls 3 [(0, .ref (a 0)), (1, .int p1), (2, .int p2)] := hl
  refine lv_aload_n S.1 S.2.1 dX10_near_0 rfl (lv_at hl 0 rfl) ?_
  refine xget (v := .ref (a 12)) S hK hw 0 rfl rfl inX10 1 (by decide) mfX10_19 rfl dX10_near_1 ?_
  refine lv_iload_n S.1 S.2.1 dX10_near_4 rfl (lv_at hl 1 rfl) ?_
  refine xci (rest := []) S hK hE hA hw yfX0_isCast (c_k_Hall_isCast l D a Y ts _ p1 (show (0 ≤ ((u.1 13 0)).toInt ∧ ((u.1 13 0)).toInt ≤ 8) from by omega) (show (0 ≤ ((u.1 13 1)).toInt ∧ ((u.1 13 1)).toInt ≤ 6) from by omega)) 12 rfl rfl mlX10_129 rfl rfl hl.1 ⟨rfl, rfl, Nat.le_of_ble_eq_true rfl, Nat.le_of_ble_eq_true rfl, Nat.le_of_ble_eq_true rfl, Nat.zero_le _, Nat.zero_le _⟩ dX10_near_5 (fun H locs hw => ?_)
  refine lv_if_eq (tgt := 27) S.1 S.2.1 dX10_near_8 (by decide) (fun c_1 => ?_) (fun c_1 => ?_)
  · replace hV := hV.trans (if_pos c_1)
    have gc_1 : ((b2i (k_Hall_isCast u p1))).toInt = 0 := xq_eq c_1 rfl rfl
    refine lv_iconst (v := -1) S.1 S.2.1 dX10_near_27 (by decide) ?_
    exact xri S hr hlk hw (congrArg (fun b => (b, u)) hV) dX10_near_28
  · replace hV := hV.trans (if_neg c_1)
    have gc_1 : ¬ ((b2i (k_Hall_isCast u p1))).toInt = 0 := xq_ne c_1 rfl rfl
    have fc_1 := hk_isCast c_1
    refine lv_aload_n S.1 S.2.1 dX10_near_11 rfl (lv_at hl 0 rfl) ?_
    refine xget (v := .ref (a 12)) S hK hw 0 rfl rfl inX10 1 (by decide) mfX10_19 rfl dX10_near_12 ?_
    refine lv_iload_n S.1 S.2.1 dX10_near_15 rfl (lv_at hl 2 rfl) ?_
    refine xci (rest := []) S hK hE hA hw yfX0_isCast (c_k_Hall_isCast l D a Y ts _ p2 (show (0 ≤ ((u.1 13 0)).toInt ∧ ((u.1 13 0)).toInt ≤ 8) from by omega) (show (0 ≤ ((u.1 13 1)).toInt ∧ ((u.1 13 1)).toInt ≤ 6) from by omega)) 12 rfl rfl mlX10_129 rfl rfl hl.1 ⟨rfl, rfl, Nat.le_of_ble_eq_true rfl, Nat.le_of_ble_eq_true rfl, Nat.le_of_ble_eq_true rfl, Nat.zero_le _, Nat.zero_le _⟩ dX10_near_16 (fun H locs hw => ?_)
    refine lv_if_eq (tgt := 27) S.1 S.2.1 dX10_near_19 (by decide) (fun c_2 => ?_) (fun c_2 => ?_)
    · replace hV := hV.trans (if_pos c_2)
      have gc_2 : ((b2i (k_Hall_isCast u p2))).toInt = 0 := xq_eq c_2 rfl rfl
      refine lv_iconst (v := -1) S.1 S.2.1 dX10_near_27 (by decide) ?_
      exact xri S hr hlk hw (congrArg (fun b => (b, u)) hV) dX10_near_28
    · replace hV := hV.trans (if_neg c_2)
      have gc_2 : ¬ ((b2i (k_Hall_isCast u p2))).toInt = 0 := xq_ne c_2 rfl rfl
      have fc_2 := hk_isCast c_2
      refine lv_iload_n S.1 S.2.1 dX10_near_22 rfl (lv_at hl 1 rfl) ?_
      refine lv_iload_n S.1 S.2.1 dX10_near_23 rfl (lv_at hl 2 rfl) ?_
      refine lv_icmp_ne (tgt := 29) S.1 S.2.1 dX10_near_24 (by decide) (fun c_3 => ?_) (fun c_3 => ?_)
      · replace hV := hV.trans (if_neg c_3)
        have gc_3 : ¬ (p1).toInt = (p2).toInt := xq_ne c_3 rfl rfl
        refine lv_aload_n S.1 S.2.1 dX10_near_29 rfl (lv_at hl 0 rfl) ?_
        refine xget (v := .ref (a 12)) S hK hw 0 rfl rfl inX10 1 (by decide) mfX10_19 rfl dX10_near_30 ?_
        refine lv_iload_n S.1 S.2.1 dX10_near_33 rfl (lv_at hl 1 rfl) ?_
        refine lv_iload_n S.1 S.2.1 dX10_near_34 rfl (lv_at hl 2 rfl) ?_
        refine xci (rest := []) S hK hE hA hw yfX0_unlikeParts (c_k_Hall_unlikeParts l D a Y ts _ p1 p2 (show (0 ≤ ((u.1 13 0)).toInt ∧ ((u.1 13 0)).toInt ≤ 8) from by omega) (show (0 ≤ ((u.1 13 1)).toInt ∧ ((u.1 13 1)).toInt ≤ 6) from by omega) (show 0 ≤ (p1).toInt ∧ (p1).toInt < 6 from by omega) (show 0 ≤ (p2).toInt ∧ (p2).toInt < 6 from by omega)) 12 rfl rfl mlX10_242 rfl rfl hl.1 ⟨rfl, rfl, Nat.le_of_ble_eq_true rfl, Nat.le_of_ble_eq_true rfl, Nat.le_of_ble_eq_true rfl, Nat.zero_le _, Nat.zero_le _⟩ dX10_near_35 (fun H locs hw => ?_)
        exact xri S hr hlk hw (congrArg (fun b => (b, u)) hV) dX10_near_38
      · replace hV := hV.trans (if_pos c_3)
        have gc_3 : (p1).toInt = (p2).toInt := xq_eq c_3 rfl rfl
        refine lv_iconst (v := -1) S.1 S.2.1 dX10_near_27 (by decide) ?_
        exact xri S hr hlk hw (congrArg (fun b => (b, u)) hV) dX10_near_28
def k_now (u : xU) (p1 : Int32) : Int32 :=
    (if p1 = 0 then
    (u.1 21 0)
    else
    (if p1 = 1 then
    (u.1 21 1)
    else
    (if p1 = 2 then
    (k_Hall_whoIsInClass u)
    else
    (if p1 = 3 then
    (k_Hall_learntByAll u)
    else
    (if p1 = 4 then
    (k_Hall_leastTree u)
    else
    (-1 : Int32))))))
set_option maxHeartbeats 4000000 in
set_option maxRecDepth 100000 in
theorem c_k_now (l : Launch) (D : va_G) (a : Nat → Nat) (Y : Nat → ClassId) (ts : Nat → Nat) (u : xU) (p1 : Int32) (hT : (0 ≤ ((u.1 13 0)).toInt ∧ ((u.1 13 0)).toInt ≤ 8)) (hC : (0 ≤ ((u.1 13 1)).toInt ∧ ((u.1 13 1)).toInt ≤ 6)) : xMi l yX10_now cX10_now 2 (some .int) (xRm 4 92) D (xty Y) (wC a Y) ts [.ref (a 0), .int p1] u ((k_now u p1), u) := by
  suffices h : ∀ V, V = k_now u p1 → xMi l yX10_now cX10_now 2 (some .int) (xRm 4 92) D (xty Y) (wC a Y) ts [.ref (a 0), .int p1] u (V, u) from h _ rfl
  intro V hV
  refine xofi RX10 rfl (by decide) (Nat.le_of_ble_eq_true rfl) ?_
  intro p e s m args below meth c ls H locs A S hr hlk hl hK hE hA hw
  have hl : lv_has ls 2 [(0, .ref (a 0)), (1, .int p1)] := hl
  refine lv_iload_n S.1 S.2.1 dX10_now_0 rfl (lv_at hl 1 rfl) ?_
  by_cases c_1 : p1 = 0
  · replace hV := hV.trans (if_pos c_1)
    have gc_1 : (p1).toInt = 0 := xq_eq c_1 rfl rfl
    refine lv_tableIn (tgt := 36) S.1 S.2.1 dX10_now_1 (by rw [c_1]; decide) (by rw [c_1]; decide) (by rw [c_1]; rfl) (by decide) ?_
    refine lv_aload_n S.1 S.2.1 dX10_now_36 rfl (lv_at hl 0 rfl) ?_
    refine xget (v := .ref (a 12)) S hK hw 0 rfl rfl inX10 1 (by decide) mfX10_19 rfl dX10_now_37 ?_
    refine xget (v := .ref (a 21)) S hK hw 12 rfl rfl inX0 1 (by decide) mfX10_138 rfl dX10_now_40 ?_
    refine xget (v := .int (u.1 21 0)) S hK hw 21 rfl rfl inX4 0 (by decide) mfX10_176 rfl dX10_now_43 ?_
    exact xri S hr hlk hw (congrArg (fun b => (b, u)) hV) dX10_now_46
  replace hV := hV.trans (if_neg c_1)
  by_cases c_2 : p1 = 1
  · replace hV := hV.trans (if_pos c_2)
    have gc_2 : (p1).toInt = 1 := xq_eq c_2 rfl rfl
    refine lv_tableIn (tgt := 47) S.1 S.2.1 dX10_now_1 (by rw [c_2]; decide) (by rw [c_2]; decide) (by rw [c_2]; rfl) (by decide) ?_
    refine lv_aload_n S.1 S.2.1 dX10_now_47 rfl (lv_at hl 0 rfl) ?_
    refine xget (v := .ref (a 12)) S hK hw 0 rfl rfl inX10 1 (by decide) mfX10_19 rfl dX10_now_48 ?_
    refine xget (v := .ref (a 21)) S hK hw 12 rfl rfl inX0 1 (by decide) mfX10_138 rfl dX10_now_51 ?_
    refine xget (v := .int (u.1 21 1)) S hK hw 21 rfl rfl inX4 1 (by decide) mfX10_182 rfl dX10_now_54 ?_
    exact xri S hr hlk hw (congrArg (fun b => (b, u)) hV) dX10_now_57
  replace hV := hV.trans (if_neg c_2)
  by_cases c_3 : p1 = 2
  · replace hV := hV.trans (if_pos c_3)
    have gc_3 : (p1).toInt = 2 := xq_eq c_3 rfl rfl
    refine lv_tableIn (tgt := 58) S.1 S.2.1 dX10_now_1 (by rw [c_3]; decide) (by rw [c_3]; decide) (by rw [c_3]; rfl) (by decide) ?_
    refine lv_aload_n S.1 S.2.1 dX10_now_58 rfl (lv_at hl 0 rfl) ?_
    refine xget (v := .ref (a 12)) S hK hw 0 rfl rfl inX10 1 (by decide) mfX10_19 rfl dX10_now_59 ?_
    refine xci (rest := []) S hK hE hA hw yfX0_whoIsInClass (c_k_Hall_whoIsInClass l D a Y ts _ (show (0 ≤ ((u.1 13 0)).toInt ∧ ((u.1 13 0)).toInt ≤ 8) from by omega) (show (0 ≤ ((u.1 13 1)).toInt ∧ ((u.1 13 1)).toInt ≤ 6) from by omega)) 12 rfl rfl mlX10_200 rfl rfl hl.1 ⟨rfl, rfl, Nat.le_of_ble_eq_true rfl, Nat.le_of_ble_eq_true rfl, Nat.le_of_ble_eq_true rfl, Nat.zero_le _, Nat.zero_le _⟩ dX10_now_62 (fun H locs hw => ?_)
    exact xri S hr hlk hw (congrArg (fun b => (b, u)) hV) dX10_now_65
  replace hV := hV.trans (if_neg c_3)
  by_cases c_4 : p1 = 3
  · replace hV := hV.trans (if_pos c_4)
    have gc_4 : (p1).toInt = 3 := xq_eq c_4 rfl rfl
    refine lv_tableIn (tgt := 66) S.1 S.2.1 dX10_now_1 (by rw [c_4]; decide) (by rw [c_4]; decide) (by rw [c_4]; rfl) (by decide) ?_
    refine lv_aload_n S.1 S.2.1 dX10_now_66 rfl (lv_at hl 0 rfl) ?_
    refine xget (v := .ref (a 12)) S hK hw 0 rfl rfl inX10 1 (by decide) mfX10_19 rfl dX10_now_67 ?_
    refine xci (rest := []) S hK hE hA hw yfX0_learntByAll (c_k_Hall_learntByAll l D a Y ts _ (show (0 ≤ ((u.1 13 0)).toInt ∧ ((u.1 13 0)).toInt ≤ 8) from by omega) (show (0 ≤ ((u.1 13 1)).toInt ∧ ((u.1 13 1)).toInt ≤ 6) from by omega)) 12 rfl rfl mlX10_204 rfl rfl hl.1 ⟨rfl, rfl, Nat.le_of_ble_eq_true rfl, Nat.le_of_ble_eq_true rfl, Nat.le_of_ble_eq_true rfl, Nat.zero_le _, Nat.zero_le _⟩ dX10_now_70 (fun H locs hw => ?_)
    exact xri S hr hlk hw (congrArg (fun b => (b, u)) hV) dX10_now_73
  replace hV := hV.trans (if_neg c_4)
  by_cases c_5 : p1 = 4
  · replace hV := hV.trans (if_pos c_5)
    have gc_5 : (p1).toInt = 4 := xq_eq c_5 rfl rfl
    refine lv_tableIn (tgt := 74) S.1 S.2.1 dX10_now_1 (by rw [c_5]; decide) (by rw [c_5]; decide) (by rw [c_5]; rfl) (by decide) ?_
    refine lv_aload_n S.1 S.2.1 dX10_now_74 rfl (lv_at hl 0 rfl) ?_
    refine xget (v := .ref (a 12)) S hK hw 0 rfl rfl inX10 1 (by decide) mfX10_19 rfl dX10_now_75 ?_
    refine xci (rest := []) S hK hE hA hw yfX0_leastTree (c_k_Hall_leastTree l D a Y ts _ (show (0 ≤ ((u.1 13 0)).toInt ∧ ((u.1 13 0)).toInt ≤ 8) from by omega) (show (0 ≤ ((u.1 13 1)).toInt ∧ ((u.1 13 1)).toInt ≤ 6) from by omega)) 12 rfl rfl mlX10_207 rfl rfl hl.1 ⟨rfl, rfl, Nat.le_of_ble_eq_true rfl, Nat.le_of_ble_eq_true rfl, Nat.le_of_ble_eq_true rfl, Nat.zero_le _, Nat.zero_le _⟩ dX10_now_78 (fun H locs hw => ?_)
    exact xri S hr hlk hw (congrArg (fun b => (b, u)) hV) dX10_now_81
  replace hV := hV.trans (if_neg c_5)
  have gc_1 : ¬ (p1).toInt = 0 := xq_ne c_1 rfl rfl
  have gc_2 : ¬ (p1).toInt = 1 := xq_ne c_2 rfl rfl
  have gc_3 : ¬ (p1).toInt = 2 := xq_ne c_3 rfl rfl
  have gc_4 : ¬ (p1).toInt = 3 := xq_ne c_4 rfl rfl
  have gc_5 : ¬ (p1).toInt = 4 := xq_ne c_5 rfl rfl
  refine lv_tableOut (tgt := 82) S.1 S.2.1 dX10_now_1 (by omega) (by decide) ?_
  refine lv_iconst (v := -1) S.1 S.2.1 dX10_now_82 (by decide) ?_
  exact xri S hr hlk hw (congrArg (fun b => (b, u)) hV) dX10_now_83
noncomputable def k_keep_b (u : xU) (p1 : Int32) : Int32 × xU :=
    (if p1 < (0 : Int32) then
    ((-1 : Int32), u)
    else
    (if p1 < (2 : Int32) then
    (if p1 = 0 then
    let r_5 := k_Image_take_30_21_27 u
    ((r_5.1 21 0), r_5)
    else
    let r_7 := k_Image_take_34_21_27 u
    ((r_7.1 21 0), r_7))
    else
    ((-1 : Int32), u)))
theorem k_keep_x : ∃ f : xU → Int32 → Int32 × xU, f = k_keep_b := ⟨_, rfl⟩
noncomputable def k_keep : xU → Int32 → Int32 × xU := k_keep_x.choose
theorem k_keep_def : k_keep = k_keep_b := k_keep_x.choose_spec
set_option maxHeartbeats 4000000 in
set_option maxRecDepth 100000 in
theorem c_k_keep (l : Launch) (D : va_G) (a : Nat → Nat) (Y : Nat → ClassId) (ts : Nat → Nat) (u : xU) (p1 : Int32) : xMi l yX10_keep cX10_keep 2 (some .int) (xRm 3 105) D (xty Y) (wC a Y) ts [.ref (a 0), .int p1] u ((k_keep u p1).1, (k_keep u p1).2) := by
  suffices h : ∀ V, V = k_keep_b u p1 → xMi l yX10_keep cX10_keep 2 (some .int) (xRm 3 105) D (xty Y) (wC a Y) ts [.ref (a 0), .int p1] u (V.1, V.2) from h _ (by rw [k_keep_def])
  intro V hV
  refine xofi RX10 rfl (by decide) (Nat.le_of_ble_eq_true rfl) ?_
  intro p e s m args below meth c ls H locs A S hr hlk hl hK hE hA hw
  have hl : lv_has ls 2 [(0, .ref (a 0)), (1, .int p1)] := hl
  refine lv_iload_n S.1 S.2.1 dX10_keep_0 rfl (lv_at hl 1 rfl) ?_
  refine lv_if_lt (tgt := 9) S.1 S.2.1 dX10_keep_1 (by decide) (fun c_1 => ?_) (fun c_1 => ?_)
  · replace hV := hV.trans (if_pos c_1)
    have gc_1 : (p1).toInt < 0 := xq_lt c_1 rfl rfl
    refine lv_iconst (v := -1) S.1 S.2.1 dX10_keep_9 (by decide) ?_
    exact xri S hr hlk hw hV dX10_keep_10
  · replace hV := hV.trans (if_neg c_1)
    have gc_1 : 0 ≤ (p1).toInt := xq_nlt c_1 rfl rfl
    refine lv_iload_n S.1 S.2.1 dX10_keep_4 rfl (lv_at hl 1 rfl) ?_
    refine lv_iconst (v := 2) S.1 S.2.1 dX10_keep_5 (by decide) ?_
    refine lv_icmp_lt (tgt := 11) S.1 S.2.1 dX10_keep_6 (by decide) (fun c_2 => ?_) (fun c_2 => ?_)
    · replace hV := hV.trans (if_pos c_2)
      have gc_2 : (p1).toInt < 2 := xq_lt c_2 rfl rfl
      refine lv_aload_n S.1 S.2.1 dX10_keep_11 rfl (lv_at hl 0 rfl) ?_
      refine xget (v := .ref (a 29)) S hK hw 0 rfl rfl inX10 3 (by decide) mfX10_32 rfl dX10_keep_12 ?_
      refine lv_iload_n S.1 S.2.1 dX10_keep_15 rfl (lv_at hl 1 rfl) ?_
      by_cases c_3 : p1 = 0
      · replace hV := hV.trans (if_pos c_3)
        have g_4 : (p1).toInt = 0 := xq_eq c_3 rfl rfl
        have g_4n : (p1).toNatClampNeg = 0 := by show (p1).toInt.toNat = 0; omega
        refine va_aldq S.1 S.2.1 hK hw.1 29 2 rfl rfl (xvi rfl (by omega) (by omega)) dX10_keep_16 ?_
        rw [g_4n]
        refine W.eq (g2 := F0 m 17 ls (.ref (a 30) :: [])) rfl ?_
        refine lv_aload_n S.1 S.2.1 dX10_keep_17 rfl (lv_at hl 0 rfl) ?_
        refine xget (v := .ref (a 12)) S hK hw 0 rfl rfl inX10 1 (by decide) mfX10_19 rfl dX10_keep_18 ?_
        refine xget (v := .ref (a 21)) S hK hw 12 rfl rfl inX0 1 (by decide) mfX10_138 rfl dX10_keep_21 ?_
        refine lv_aload_n S.1 S.2.1 dX10_keep_24 rfl (lv_at hl 0 rfl) ?_
        refine xget (v := .ref (a 27)) S hK hw 0 rfl rfl inX10 2 (by decide) mfX10_26 rfl dX10_keep_25 ?_
        refine xcVv (rest := []) S hK hE hA hw yfX2_take (c_k_Image_take_30_21_27 l D a Y ts _) 30 rfl rfl mlX10_269 rfl rfl hl.1 ⟨rfl, rfl, Nat.le_of_ble_eq_true rfl, Nat.le_of_ble_eq_true rfl, Nat.le_of_ble_eq_true rfl, Nat.zero_le _, Nat.zero_le _⟩ dX10_keep_28 (fun H locs hw => ?_)
        refine lv_aload_n S.1 S.2.1 dX10_keep_31 rfl (lv_at hl 0 rfl) ?_
        refine xget (v := .ref (a 12)) S hK hw 0 rfl rfl inX10 1 (by decide) mfX10_19 rfl dX10_keep_32 ?_
        refine xget (v := .ref (a 21)) S hK hw 12 rfl rfl inX0 1 (by decide) mfX10_138 rfl dX10_keep_35 ?_
        refine xget (v := .int ((k_Image_take_30_21_27 u).1 21 0)) S hK hw 21 rfl rfl inX4 0 (by decide) mfX10_176 rfl dX10_keep_38 ?_
        exact xri S hr hlk hw hV dX10_keep_41
      · replace hV := hV.trans (if_neg c_3)
        have g_6 : ¬ (p1).toInt = 0 := xq_ne c_3 rfl rfl
        have g_6n : (p1).toNatClampNeg = 1 := by show (p1).toInt.toNat = 1; omega
        refine va_aldq S.1 S.2.1 hK hw.1 29 2 rfl rfl (xvi rfl (by omega) (by omega)) dX10_keep_16 ?_
        rw [g_6n]
        refine W.eq (g2 := F0 m 17 ls (.ref (a 34) :: [])) rfl ?_
        refine lv_aload_n S.1 S.2.1 dX10_keep_17 rfl (lv_at hl 0 rfl) ?_
        refine xget (v := .ref (a 12)) S hK hw 0 rfl rfl inX10 1 (by decide) mfX10_19 rfl dX10_keep_18 ?_
        refine xget (v := .ref (a 21)) S hK hw 12 rfl rfl inX0 1 (by decide) mfX10_138 rfl dX10_keep_21 ?_
        refine lv_aload_n S.1 S.2.1 dX10_keep_24 rfl (lv_at hl 0 rfl) ?_
        refine xget (v := .ref (a 27)) S hK hw 0 rfl rfl inX10 2 (by decide) mfX10_26 rfl dX10_keep_25 ?_
        refine xcVv (rest := []) S hK hE hA hw yfX2_take (c_k_Image_take_34_21_27 l D a Y ts _) 34 rfl rfl mlX10_269 rfl rfl hl.1 ⟨rfl, rfl, Nat.le_of_ble_eq_true rfl, Nat.le_of_ble_eq_true rfl, Nat.le_of_ble_eq_true rfl, Nat.zero_le _, Nat.zero_le _⟩ dX10_keep_28 (fun H locs hw => ?_)
        refine lv_aload_n S.1 S.2.1 dX10_keep_31 rfl (lv_at hl 0 rfl) ?_
        refine xget (v := .ref (a 12)) S hK hw 0 rfl rfl inX10 1 (by decide) mfX10_19 rfl dX10_keep_32 ?_
        refine xget (v := .ref (a 21)) S hK hw 12 rfl rfl inX0 1 (by decide) mfX10_138 rfl dX10_keep_35 ?_
        refine xget (v := .int ((k_Image_take_34_21_27 u).1 21 0)) S hK hw 21 rfl rfl inX4 0 (by decide) mfX10_176 rfl dX10_keep_38 ?_
        exact xri S hr hlk hw hV dX10_keep_41
    · replace hV := hV.trans (if_neg c_2)
      have gc_2 : 2 ≤ (p1).toInt := xq_nlt c_2 rfl rfl
      refine lv_iconst (v := -1) S.1 S.2.1 dX10_keep_9 (by decide) ?_
      exact xri S hr hlk hw hV dX10_keep_10
noncomputable def k_back_b (u : xU) (p1 : Int32) : Int32 × xU :=
    (if p1 < (0 : Int32) then
    ((-1 : Int32), u)
    else
    (if p1 < (2 : Int32) then
    (if p1 = 0 then
    (if (u.1 30 2) = (0 : Int32) then
    ((-2 : Int32), u)
    else
    (if p1 = 0 then
    let r_8 := k_Image_give_30_21_27 u
    ((r_8.1 21 0), r_8)
    else
    let r_10 := k_Image_give_34_21_27 u
    ((r_10.1 21 0), r_10)))
    else
    (if (u.1 34 2) = (0 : Int32) then
    ((-2 : Int32), u)
    else
    (if p1 = 0 then
    let r_15 := k_Image_give_30_21_27 u
    ((r_15.1 21 0), r_15)
    else
    let r_17 := k_Image_give_34_21_27 u
    ((r_17.1 21 0), r_17))))
    else
    ((-1 : Int32), u)))
theorem k_back_x : ∃ f : xU → Int32 → Int32 × xU, f = k_back_b := ⟨_, rfl⟩
noncomputable def k_back : xU → Int32 → Int32 × xU := k_back_x.choose
theorem k_back_def : k_back = k_back_b := k_back_x.choose_spec
set_option maxHeartbeats 4000000 in
set_option maxRecDepth 100000 in
theorem c_k_back (l : Launch) (D : va_G) (a : Nat → Nat) (Y : Nat → ClassId) (ts : Nat → Nat) (u : xU) (p1 : Int32) : xMi l yX10_back cX10_back 2 (some .int) (xRm 3 105) D (xty Y) (wC a Y) ts [.ref (a 0), .int p1] u ((k_back u p1).1, (k_back u p1).2) := by
  suffices h : ∀ V, V = k_back_b u p1 → xMi l yX10_back cX10_back 2 (some .int) (xRm 3 105) D (xty Y) (wC a Y) ts [.ref (a 0), .int p1] u (V.1, V.2) from h _ (by rw [k_back_def])
  intro V hV
  refine xofi RX10 rfl (by decide) (Nat.le_of_ble_eq_true rfl) ?_
  intro p e s m args below meth c ls H locs A S hr hlk hl hK hE hA hw
  have hl : lv_has ls 2 [(0, .ref (a 0)), (1, .int p1)] := hl
  refine lv_iload_n S.1 S.2.1 dX10_back_0 rfl (lv_at hl 1 rfl) ?_
  refine lv_if_lt (tgt := 9) S.1 S.2.1 dX10_back_1 (by decide) (fun c_1 => ?_) (fun c_1 => ?_)
  · replace hV := hV.trans (if_pos c_1)
    have gc_1 : (p1).toInt < 0 := xq_lt c_1 rfl rfl
    refine lv_iconst (v := -1) S.1 S.2.1 dX10_back_9 (by decide) ?_
    exact xri S hr hlk hw hV dX10_back_10
  · replace hV := hV.trans (if_neg c_1)
    have gc_1 : 0 ≤ (p1).toInt := xq_nlt c_1 rfl rfl
    refine lv_iload_n S.1 S.2.1 dX10_back_4 rfl (lv_at hl 1 rfl) ?_
    refine lv_iconst (v := 2) S.1 S.2.1 dX10_back_5 (by decide) ?_
    refine lv_icmp_lt (tgt := 11) S.1 S.2.1 dX10_back_6 (by decide) (fun c_2 => ?_) (fun c_2 => ?_)
    · replace hV := hV.trans (if_pos c_2)
      have gc_2 : (p1).toInt < 2 := xq_lt c_2 rfl rfl
      refine lv_aload_n S.1 S.2.1 dX10_back_11 rfl (lv_at hl 0 rfl) ?_
      refine xget (v := .ref (a 29)) S hK hw 0 rfl rfl inX10 3 (by decide) mfX10_32 rfl dX10_back_12 ?_
      refine lv_iload_n S.1 S.2.1 dX10_back_15 rfl (lv_at hl 1 rfl) ?_
      by_cases c_3 : p1 = 0
      · replace hV := hV.trans (if_pos c_3)
        have g_4 : (p1).toInt = 0 := xq_eq c_3 rfl rfl
        have g_4n : (p1).toNatClampNeg = 0 := by show (p1).toInt.toNat = 0; omega
        refine va_aldq S.1 S.2.1 hK hw.1 29 2 rfl rfl (xvi rfl (by omega) (by omega)) dX10_back_16 ?_
        rw [g_4n]
        refine W.eq (g2 := F0 m 17 ls (.ref (a 30) :: [])) rfl ?_
        refine xget (v := .int (u.1 30 2)) S hK hw 30 rfl rfl inX2 2 (by decide) mfX10_94 rfl dX10_back_17 ?_
        refine lv_if_ne (tgt := 26) S.1 S.2.1 dX10_back_20 (by decide) (fun c_5 => ?_) (fun c_5 => ?_)
        · replace hV := hV.trans (if_neg c_5)
          have gc_5 : ¬ ((u.1 30 2)).toInt = 0 := xq_ne c_5 rfl rfl
          refine lv_aload_n S.1 S.2.1 dX10_back_26 rfl (lv_at hl 0 rfl) ?_
          refine xget (v := .ref (a 29)) S hK hw 0 rfl rfl inX10 3 (by decide) mfX10_32 rfl dX10_back_27 ?_
          refine lv_iload_n S.1 S.2.1 dX10_back_30 rfl (lv_at hl 1 rfl) ?_
          by_cases c_6 : p1 = 0
          · replace hV := hV.trans (if_pos c_6)
            have g_7 : (p1).toInt = 0 := xq_eq c_6 rfl rfl
            have g_7n : (p1).toNatClampNeg = 0 := by show (p1).toInt.toNat = 0; omega
            refine va_aldq S.1 S.2.1 hK hw.1 29 2 rfl rfl (xvi rfl (by omega) (by omega)) dX10_back_31 ?_
            rw [g_7n]
            refine W.eq (g2 := F0 m 32 ls (.ref (a 30) :: [])) rfl ?_
            refine lv_aload_n S.1 S.2.1 dX10_back_32 rfl (lv_at hl 0 rfl) ?_
            refine xget (v := .ref (a 12)) S hK hw 0 rfl rfl inX10 1 (by decide) mfX10_19 rfl dX10_back_33 ?_
            refine xget (v := .ref (a 21)) S hK hw 12 rfl rfl inX0 1 (by decide) mfX10_138 rfl dX10_back_36 ?_
            refine lv_aload_n S.1 S.2.1 dX10_back_39 rfl (lv_at hl 0 rfl) ?_
            refine xget (v := .ref (a 27)) S hK hw 0 rfl rfl inX10 2 (by decide) mfX10_26 rfl dX10_back_40 ?_
            refine xcVv (rest := []) S hK hE hA hw yfX2_give (c_k_Image_give_30_21_27 l D a Y ts _) 30 rfl rfl mlX10_273 rfl rfl hl.1 ⟨rfl, rfl, Nat.le_of_ble_eq_true rfl, Nat.le_of_ble_eq_true rfl, Nat.le_of_ble_eq_true rfl, Nat.zero_le _, Nat.zero_le _⟩ dX10_back_43 (fun H locs hw => ?_)
            refine lv_aload_n S.1 S.2.1 dX10_back_46 rfl (lv_at hl 0 rfl) ?_
            refine xget (v := .ref (a 12)) S hK hw 0 rfl rfl inX10 1 (by decide) mfX10_19 rfl dX10_back_47 ?_
            refine xget (v := .ref (a 21)) S hK hw 12 rfl rfl inX0 1 (by decide) mfX10_138 rfl dX10_back_50 ?_
            refine xget (v := .int ((k_Image_give_30_21_27 u).1 21 0)) S hK hw 21 rfl rfl inX4 0 (by decide) mfX10_176 rfl dX10_back_53 ?_
            exact xri S hr hlk hw hV dX10_back_56
          · replace hV := hV.trans (if_neg c_6)
            have g_9 : ¬ (p1).toInt = 0 := xq_ne c_6 rfl rfl
            have g_9n : (p1).toNatClampNeg = 1 := by show (p1).toInt.toNat = 1; omega
            refine va_aldq S.1 S.2.1 hK hw.1 29 2 rfl rfl (xvi rfl (by omega) (by omega)) dX10_back_31 ?_
            rw [g_9n]
            refine W.eq (g2 := F0 m 32 ls (.ref (a 34) :: [])) rfl ?_
            refine lv_aload_n S.1 S.2.1 dX10_back_32 rfl (lv_at hl 0 rfl) ?_
            refine xget (v := .ref (a 12)) S hK hw 0 rfl rfl inX10 1 (by decide) mfX10_19 rfl dX10_back_33 ?_
            refine xget (v := .ref (a 21)) S hK hw 12 rfl rfl inX0 1 (by decide) mfX10_138 rfl dX10_back_36 ?_
            refine lv_aload_n S.1 S.2.1 dX10_back_39 rfl (lv_at hl 0 rfl) ?_
            refine xget (v := .ref (a 27)) S hK hw 0 rfl rfl inX10 2 (by decide) mfX10_26 rfl dX10_back_40 ?_
            refine xcVv (rest := []) S hK hE hA hw yfX2_give (c_k_Image_give_34_21_27 l D a Y ts _) 34 rfl rfl mlX10_273 rfl rfl hl.1 ⟨rfl, rfl, Nat.le_of_ble_eq_true rfl, Nat.le_of_ble_eq_true rfl, Nat.le_of_ble_eq_true rfl, Nat.zero_le _, Nat.zero_le _⟩ dX10_back_43 (fun H locs hw => ?_)
            refine lv_aload_n S.1 S.2.1 dX10_back_46 rfl (lv_at hl 0 rfl) ?_
            refine xget (v := .ref (a 12)) S hK hw 0 rfl rfl inX10 1 (by decide) mfX10_19 rfl dX10_back_47 ?_
            refine xget (v := .ref (a 21)) S hK hw 12 rfl rfl inX0 1 (by decide) mfX10_138 rfl dX10_back_50 ?_
            refine xget (v := .int ((k_Image_give_34_21_27 u).1 21 0)) S hK hw 21 rfl rfl inX4 0 (by decide) mfX10_176 rfl dX10_back_53 ?_
            exact xri S hr hlk hw hV dX10_back_56
        · replace hV := hV.trans (if_pos c_5)
          have gc_5 : ((u.1 30 2)).toInt = 0 := xq_eq c_5 rfl rfl
          refine lv_bipush (v := -2) S.1 S.2.1 dX10_back_23 (by decide) ?_
          exact xri S hr hlk hw hV dX10_back_25
      · replace hV := hV.trans (if_neg c_3)
        have g_11 : ¬ (p1).toInt = 0 := xq_ne c_3 rfl rfl
        have g_11n : (p1).toNatClampNeg = 1 := by show (p1).toInt.toNat = 1; omega
        refine va_aldq S.1 S.2.1 hK hw.1 29 2 rfl rfl (xvi rfl (by omega) (by omega)) dX10_back_16 ?_
        rw [g_11n]
        refine W.eq (g2 := F0 m 17 ls (.ref (a 34) :: [])) rfl ?_
        refine xget (v := .int (u.1 34 2)) S hK hw 34 rfl rfl inX2 2 (by decide) mfX10_94 rfl dX10_back_17 ?_
        refine lv_if_ne (tgt := 26) S.1 S.2.1 dX10_back_20 (by decide) (fun c_12 => ?_) (fun c_12 => ?_)
        · replace hV := hV.trans (if_neg c_12)
          have gc_12 : ¬ ((u.1 34 2)).toInt = 0 := xq_ne c_12 rfl rfl
          refine lv_aload_n S.1 S.2.1 dX10_back_26 rfl (lv_at hl 0 rfl) ?_
          refine xget (v := .ref (a 29)) S hK hw 0 rfl rfl inX10 3 (by decide) mfX10_32 rfl dX10_back_27 ?_
          refine lv_iload_n S.1 S.2.1 dX10_back_30 rfl (lv_at hl 1 rfl) ?_
          by_cases c_13 : p1 = 0
          · replace hV := hV.trans (if_pos c_13)
            have g_14 : (p1).toInt = 0 := xq_eq c_13 rfl rfl
            have g_14n : (p1).toNatClampNeg = 0 := by show (p1).toInt.toNat = 0; omega
            refine va_aldq S.1 S.2.1 hK hw.1 29 2 rfl rfl (xvi rfl (by omega) (by omega)) dX10_back_31 ?_
            rw [g_14n]
            refine W.eq (g2 := F0 m 32 ls (.ref (a 30) :: [])) rfl ?_
            refine lv_aload_n S.1 S.2.1 dX10_back_32 rfl (lv_at hl 0 rfl) ?_
            refine xget (v := .ref (a 12)) S hK hw 0 rfl rfl inX10 1 (by decide) mfX10_19 rfl dX10_back_33 ?_
            refine xget (v := .ref (a 21)) S hK hw 12 rfl rfl inX0 1 (by decide) mfX10_138 rfl dX10_back_36 ?_
            refine lv_aload_n S.1 S.2.1 dX10_back_39 rfl (lv_at hl 0 rfl) ?_
            refine xget (v := .ref (a 27)) S hK hw 0 rfl rfl inX10 2 (by decide) mfX10_26 rfl dX10_back_40 ?_
            refine xcVv (rest := []) S hK hE hA hw yfX2_give (c_k_Image_give_30_21_27 l D a Y ts _) 30 rfl rfl mlX10_273 rfl rfl hl.1 ⟨rfl, rfl, Nat.le_of_ble_eq_true rfl, Nat.le_of_ble_eq_true rfl, Nat.le_of_ble_eq_true rfl, Nat.zero_le _, Nat.zero_le _⟩ dX10_back_43 (fun H locs hw => ?_)
            refine lv_aload_n S.1 S.2.1 dX10_back_46 rfl (lv_at hl 0 rfl) ?_
            refine xget (v := .ref (a 12)) S hK hw 0 rfl rfl inX10 1 (by decide) mfX10_19 rfl dX10_back_47 ?_
            refine xget (v := .ref (a 21)) S hK hw 12 rfl rfl inX0 1 (by decide) mfX10_138 rfl dX10_back_50 ?_
            refine xget (v := .int ((k_Image_give_30_21_27 u).1 21 0)) S hK hw 21 rfl rfl inX4 0 (by decide) mfX10_176 rfl dX10_back_53 ?_
            exact xri S hr hlk hw hV dX10_back_56
          · replace hV := hV.trans (if_neg c_13)
            have g_16 : ¬ (p1).toInt = 0 := xq_ne c_13 rfl rfl
            have g_16n : (p1).toNatClampNeg = 1 := by show (p1).toInt.toNat = 1; omega
            refine va_aldq S.1 S.2.1 hK hw.1 29 2 rfl rfl (xvi rfl (by omega) (by omega)) dX10_back_31 ?_
            rw [g_16n]
            refine W.eq (g2 := F0 m 32 ls (.ref (a 34) :: [])) rfl ?_
            refine lv_aload_n S.1 S.2.1 dX10_back_32 rfl (lv_at hl 0 rfl) ?_
            refine xget (v := .ref (a 12)) S hK hw 0 rfl rfl inX10 1 (by decide) mfX10_19 rfl dX10_back_33 ?_
            refine xget (v := .ref (a 21)) S hK hw 12 rfl rfl inX0 1 (by decide) mfX10_138 rfl dX10_back_36 ?_
            refine lv_aload_n S.1 S.2.1 dX10_back_39 rfl (lv_at hl 0 rfl) ?_
            refine xget (v := .ref (a 27)) S hK hw 0 rfl rfl inX10 2 (by decide) mfX10_26 rfl dX10_back_40 ?_
            refine xcVv (rest := []) S hK hE hA hw yfX2_give (c_k_Image_give_34_21_27 l D a Y ts _) 34 rfl rfl mlX10_273 rfl rfl hl.1 ⟨rfl, rfl, Nat.le_of_ble_eq_true rfl, Nat.le_of_ble_eq_true rfl, Nat.le_of_ble_eq_true rfl, Nat.zero_le _, Nat.zero_le _⟩ dX10_back_43 (fun H locs hw => ?_)
            refine lv_aload_n S.1 S.2.1 dX10_back_46 rfl (lv_at hl 0 rfl) ?_
            refine xget (v := .ref (a 12)) S hK hw 0 rfl rfl inX10 1 (by decide) mfX10_19 rfl dX10_back_47 ?_
            refine xget (v := .ref (a 21)) S hK hw 12 rfl rfl inX0 1 (by decide) mfX10_138 rfl dX10_back_50 ?_
            refine xget (v := .int ((k_Image_give_34_21_27 u).1 21 0)) S hK hw 21 rfl rfl inX4 0 (by decide) mfX10_176 rfl dX10_back_53 ?_
            exact xri S hr hlk hw hV dX10_back_56
        · replace hV := hV.trans (if_pos c_12)
          have gc_12 : ((u.1 34 2)).toInt = 0 := xq_eq c_12 rfl rfl
          refine lv_bipush (v := -2) S.1 S.2.1 dX10_back_23 (by decide) ?_
          exact xri S hr hlk hw hV dX10_back_25
    · replace hV := hV.trans (if_neg c_2)
      have gc_2 : 2 ≤ (p1).toInt := xq_nlt c_2 rfl rfl
      refine lv_iconst (v := -1) S.1 S.2.1 dX10_back_9 (by decide) ?_
      exact xri S hr hlk hw hV dX10_back_10
