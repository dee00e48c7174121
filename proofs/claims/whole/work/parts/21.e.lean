noncomputable def k_nights_L50 (x1 : Int32) : Nat → Int32 → xU → Int32 × xU
  | 0, _, w => (0, w)
  | n + 1, x2, w =>
    (if x1 ≤ x2 then
    ((j_bitCount (w.1 21 1)), w)
    else
    let r_7 := k_Hall_passNight w
    k_nights_L50 x1 n (x2 + (1 : Int32)) r_7)
noncomputable def k_nights_b (u : xU) (p1 : Int32) : Int32 × xU :=
    (if p1 < (1 : Int32) then
    ((-1 : Int32), u)
    else
    (if p1 ≤ (9 : Int32) then
    (if ((u.1 21 0) + p1) ≤ (999 : Int32) then
    let r_4 := k_Past_remember u
    k_nights_L50 p1 10 (0 : Int32) r_4
    else
    ((-2 : Int32), u))
    else
    ((-1 : Int32), u)))
theorem k_nights_x : ∃ f : xU → Int32 → Int32 × xU, f = k_nights_b := ⟨_, rfl⟩
noncomputable def k_nights : xU → Int32 → Int32 × xU := k_nights_x.choose
theorem k_nights_def : k_nights = k_nights_b := k_nights_x.choose_spec
set_option maxHeartbeats 4000000 in
set_option maxRecDepth 100000 in
theorem c_k_nights (l : Launch) (D : va_G) (a : Nat → Nat) (Y : Nat → ClassId) (ts : Nat → Nat) (u : xU) (p1 : Int32) (hT : (0 ≤ ((u.1 13 0)).toInt ∧ ((u.1 13 0)).toInt ≤ 8)) (hC : (0 ≤ ((u.1 13 1)).toInt ∧ ((u.1 13 1)).toInt ≤ 6)) (hN : (0 ≤ ((u.1 27 1)).toInt ∧ ((u.1 27 1)).toInt ≤ 9)) (hr0 : kK (u.1 26)) : xMi l yX10_nights cX10_nights 3 (some .int) (xRm 3 104) D (xty Y) (wC a Y) ts [.ref (a 0), .int p1] u ((k_nights u p1).1, (k_nights u p1).2) := by
  suffices h : ∀ V, V = k_nights_b u p1 → xMi l yX10_nights cX10_nights 3 (some .int) (xRm 3 104) D (xty Y) (wC a Y) ts [.ref (a 0), .int p1] u (V.1, V.2) from h _ (by rw [k_nights_def])
  intro V hV
  refine xofi RX10 rfl (by decide) (Nat.le_of_ble_eq_true rfl) ?_
  intro p e s m args below meth c ls H locs A S hr hlk hl hK hE hA hw
  have hl : lv_has ls 3 [(0, .ref (a 0)), (1, .int p1)] := hl
  refine lv_iload_n S.1 S.2.1 dX10_nights_0 rfl (lv_at hl 1 rfl) ?_
  refine lv_iconst (v := 1) S.1 S.2.1 dX10_nights_1 (by decide) ?_
  refine lv_icmp_lt (tgt := 11) S.1 S.2.1 dX10_nights_2 (by decide) (fun c_1 => ?_) (fun c_1 => ?_)
  · replace hV := hV.trans (if_pos c_1)
    have gc_1 : (p1).toInt < 1 := xq_lt c_1 rfl rfl
    refine lv_iconst (v := -1) S.1 S.2.1 dX10_nights_11 (by decide) ?_
    exact xri S hr hlk hw hV dX10_nights_12
  · replace hV := hV.trans (if_neg c_1)
    have gc_1 : 1 ≤ (p1).toInt := xq_nlt c_1 rfl rfl
    refine lv_iload_n S.1 S.2.1 dX10_nights_5 rfl (lv_at hl 1 rfl) ?_
    refine lv_bipush (v := 9) S.1 S.2.1 dX10_nights_6 (by decide) ?_
    refine lv_icmp_le (tgt := 13) S.1 S.2.1 dX10_nights_8 (by decide) (fun c_2 => ?_) (fun c_2 => ?_)
    · replace hV := hV.trans (if_pos c_2)
      have gc_2 : (p1).toInt ≤ 9 := xq_le c_2 rfl rfl
      refine lv_aload_n S.1 S.2.1 dX10_nights_13 rfl (lv_at hl 0 rfl) ?_
      refine xget (v := .ref (a 12)) S hK hw 0 rfl rfl inX10 1 (by decide) mfX10_19 rfl dX10_nights_14 ?_
      refine xget (v := .ref (a 21)) S hK hw 12 rfl rfl inX0 1 (by decide) mfX10_138 rfl dX10_nights_17 ?_
      refine xget (v := .int (u.1 21 0)) S hK hw 21 rfl rfl inX4 0 (by decide) mfX10_176 rfl dX10_nights_20 ?_
      refine lv_iload_n S.1 S.2.1 dX10_nights_23 rfl (lv_at hl 1 rfl) ?_
      refine lv_iadd S.1 S.2.1 dX10_nights_24 ?_
      refine lv_sipush (v := 999) S.1 S.2.1 dX10_nights_25 (by decide) ?_
      refine lv_icmp_le (tgt := 34) S.1 S.2.1 dX10_nights_28 (by decide) (fun c_3 => ?_) (fun c_3 => ?_)
      · replace hV := hV.trans (if_pos c_3)
        refine lv_aload_n S.1 S.2.1 dX10_nights_34 rfl (lv_at hl 0 rfl) ?_
        refine xget (v := .ref (a 27)) S hK hw 0 rfl rfl inX10 2 (by decide) mfX10_26 rfl dX10_nights_35 ?_
        refine lv_aload_n S.1 S.2.1 dX10_nights_38 rfl (lv_at hl 0 rfl) ?_
        refine xget (v := .ref (a 12)) S hK hw 0 rfl rfl inX10 1 (by decide) mfX10_19 rfl dX10_nights_39 ?_
        refine xget (v := .ref (a 21)) S hK hw 12 rfl rfl inX0 1 (by decide) mfX10_138 rfl dX10_nights_42 ?_
        refine xcVv (rest := []) S hK hE hA hw yfX6_remember (c_k_Past_remember l D a Y ts _ (show (0 ≤ ((u.1 27 1)).toInt ∧ ((u.1 27 1)).toInt ≤ 9) from by (first | omega | (simp only [kp_rem13]; omega) | (simp only [kp_pass13]; omega)))) 27 rfl rfl mlX10_172 rfl rfl hl.1 ⟨rfl, rfl, Nat.le_of_ble_eq_true rfl, Nat.le_of_ble_eq_true rfl, Nat.le_of_ble_eq_true rfl, Nat.zero_le _, Nat.zero_le _⟩ dX10_nights_45 (fun H locs hw => ?_)
        refine lv_iconst (v := 0) S.1 S.2.1 dX10_nights_48 (by decide) ?_
        refine lv_istore_n (lv' := [(2, .int (0 : Int32)), (0, .ref (a 0)), (1, .int p1)]) S.1 S.2.1 dX10_nights_49 rfl hl (by decide) rfl (fun ls hl => ?_)
        have lp_5 : ∀ (n_5 : Nat) (x2_5 : Int32) (u_5 : xU) (H : Heap) (locs : List Loc) (ls : Array Slot), (0 ≤ (x2_5).toInt) → (kK (u_5.1 26)) → ((0 ≤ ((u_5.1 13 0)).toInt ∧ ((u_5.1 13 0)).toInt ≤ 8)) → ((0 ≤ ((u_5.1 13 1)).toInt ∧ ((u_5.1 13 1)).toInt ≤ 6)) → ((p1).toInt - (x2_5).toInt < (n_5 : Int) ∧ 1 ≤ n_5) → lv_has ls 3 [(0, .ref (a 0)), (1, .int p1), (2, .int x2_5)] → xw D (wC a Y) A s.heap H locs u_5 → V = k_nights_L50 p1 n_5 x2_5 u_5 → W p l e (xRm 3 104) s m args below meth c H locs 0 0 (MQ below (va_Qi (fun r v => (r, v) = V) (xPost D (wC a Y) A) A) args s 0 0 A) (F0 m 50 ls []) := by
          intro n_5
          induction n_5 with
          | zero => intro x2_5 u_5 H locs ls i0_5 i1_5 i2_5 i3_5 hn; exact absurd hn.2 (by decide)
          | succ n_5 ih_5 =>
            intro x2_5 u_5 H locs ls i0_5 i1_5 i2_5 i3_5 hn_5 hl hw hV
            refine lv_iload_n S.1 S.2.1 dX10_nights_50 rfl (lv_at hl 2 rfl) ?_
            refine lv_iload_n S.1 S.2.1 dX10_nights_51 rfl (lv_at hl 1 rfl) ?_
            refine lv_icmp_ge (tgt := 68) S.1 S.2.1 dX10_nights_52 (by decide) (fun c_6 => ?_) (fun c_6 => ?_)
            · replace hV := hV.trans (if_pos c_6)
              have gc_6 : (p1).toInt ≤ (x2_5).toInt := xq_le c_6 rfl rfl
              refine lv_aload_n S.1 S.2.1 dX10_nights_68 rfl (lv_at hl 0 rfl) ?_
              refine xget (v := .ref (a 12)) S hK hw 0 rfl rfl inX10 1 (by decide) mfX10_19 rfl dX10_nights_69 ?_
              refine xget (v := .ref (a 21)) S hK hw 12 rfl rfl inX0 1 (by decide) mfX10_138 rfl dX10_nights_72 ?_
              refine xget (v := .int (u_5.1 21 1)) S hK hw 21 rfl rfl inX4 1 (by decide) mfX10_182 rfl dX10_nights_75 ?_
              refine xcP (rest := []) S hw yfJ6_bitCount_0f7a4 (c_j_bitCount l (u_5.1 21 1)) mlX10_185 rfl rfl hl.1 ⟨rfl, rfl, Nat.le_of_ble_eq_true rfl, Nat.le_of_ble_eq_true rfl, Nat.le_of_ble_eq_true rfl, Nat.zero_le _, Nat.zero_le _⟩ dX10_nights_78 (fun H locs hw => ?_)
              exact xri S hr hlk hw hV dX10_nights_81
            · replace hV := hV.trans (if_neg c_6)
              have gc_6 : (x2_5).toInt < (p1).toInt := xq_nle c_6 rfl rfl
              refine lv_aload_n S.1 S.2.1 dX10_nights_55 rfl (lv_at hl 0 rfl) ?_
              refine xget (v := .ref (a 12)) S hK hw 0 rfl rfl inX10 1 (by decide) mfX10_19 rfl dX10_nights_56 ?_
              refine xcVv (rest := []) S hK hE hA hw yfX0_passNight (c_k_Hall_passNight l D a Y ts _ (show (0 ≤ ((u_5.1 13 0)).toInt ∧ ((u_5.1 13 0)).toInt ≤ 8) from by (first | omega | (simp only [kp_rem13]; omega) | (simp only [kp_pass13]; omega))) (show (0 ≤ ((u_5.1 13 1)).toInt ∧ ((u_5.1 13 1)).toInt ≤ 6) from by (first | omega | (simp only [kp_rem13]; omega) | (simp only [kp_pass13]; omega))) (by first | assumption | exact kK_rem (by assumption))) 12 rfl rfl mlX10_179 rfl rfl hl.1 ⟨rfl, rfl, Nat.le_of_ble_eq_true rfl, Nat.le_of_ble_eq_true rfl, Nat.le_of_ble_eq_true rfl, Nat.zero_le _, Nat.zero_le _⟩ dX10_nights_59 (fun H locs hw => ?_)
              refine lv_iinc (v := (x2_5 + (1 : Int32))) (lv' := [(2, .int (x2_5 + (1 : Int32))), (0, .ref (a 0)), (1, .int p1)]) S.1 S.2.1 dX10_nights_62 hl (k := 2) rfl rfl (by decide) rfl (fun ls hl => ?_)
              refine lv_goto (tgt := 50) S.1 S.2.1 dX10_nights_65 (by decide) ?_
              have e_8 : ∀ _ : Unit, ((x2_5 + (1 : Int32))).toInt = (x2_5).toInt + 1 := fun _ => xadd rfl rfl (by omega) (by omega)
              exact ih_5 (x2_5 + (1 : Int32)) (k_Hall_passNight u_5) _ _ _ (show 0 ≤ ((x2_5 + (1 : Int32))).toInt from by rw [(e_8 ())]; (first | omega | (simp only [kp_rem13]; omega) | (simp only [kp_pass13]; omega))) (show kK ((k_Hall_passNight u_5).1 26) from by first | assumption | exact kK_att (by assumption) | exact kK_rem (by assumption) | exact kK_pass (by assumption)) (show (0 ≤ (((k_Hall_passNight u_5).1 13 0)).toInt ∧ (((k_Hall_passNight u_5).1 13 0)).toInt ≤ 8) from by (first | omega | (simp only [kp_rem13]; omega) | (simp only [kp_pass13]; omega))) (show (0 ≤ (((k_Hall_passNight u_5).1 13 1)).toInt ∧ (((k_Hall_passNight u_5).1 13 1)).toInt ≤ 6) from by (first | omega | (simp only [kp_rem13]; omega) | (simp only [kp_pass13]; omega))) (show (p1).toInt - ((x2_5 + (1 : Int32))).toInt < (n_5 : Int) ∧ 1 ≤ n_5 from by rw [(e_8 ())]; (first | omega | (simp only [kp_rem13]; omega) | (simp only [kp_pass13]; omega))) (lv_sub hl [1, 2, 0] rfl) hw hV
        exact lp_5 10 (0 : Int32) (k_Past_remember u) _ _ _ (show 0 ≤ 0 from by (first | omega | (simp only [kp_rem13]; omega) | (simp only [kp_pass13]; omega))) (show kK ((k_Past_remember u).1 26) from by first | assumption | exact kK_att (by assumption) | exact kK_rem (by assumption) | exact kK_pass (by assumption)) (show (0 ≤ (((k_Past_remember u).1 13 0)).toInt ∧ (((k_Past_remember u).1 13 0)).toInt ≤ 8) from by (first | omega | (simp only [kp_rem13]; omega) | (simp only [kp_pass13]; omega))) (show (0 ≤ (((k_Past_remember u).1 13 1)).toInt ∧ (((k_Past_remember u).1 13 1)).toInt ≤ 6) from by (first | omega | (simp only [kp_rem13]; omega) | (simp only [kp_pass13]; omega))) (show (p1).toInt - 0 < ((10 : Nat) : Int) ∧ 1 ≤ (10 : Nat) from by (first | omega | (simp only [kp_rem13]; omega) | (simp only [kp_pass13]; omega))) (lv_sub hl [1, 2, 0] rfl) hw hV
      · replace hV := hV.trans (if_neg c_3)
        refine lv_bipush (v := -2) S.1 S.2.1 dX10_nights_31 (by decide) ?_
        exact xri S hr hlk hw hV dX10_nights_33
    · replace hV := hV.trans (if_neg c_2)
      have gc_2 : 9 < (p1).toInt := xq_nle c_2 rfl rfl
      refine lv_iconst (v := -1) S.1 S.2.1 dX10_nights_11 (by decide) ?_
      exact xri S hr hlk hw hV dX10_nights_12
noncomputable def k_joins_b (u : xU) (p1 : Int32) (p2 : Int32) (p3 : Int32) : Int32 × xU :=
    (if (b2i (k_Hall_isCast u p1)) = (0 : Int32) then
    ((-1 : Int32), u)
    else
    (if (b2i (k_Hall_isCast u p2)) = (0 : Int32) then
    ((-1 : Int32), u)
    else
    (if p1 = p2 then
    ((-1 : Int32), u)
    else
    (if p3 < (0 : Int32) then
    ((-1 : Int32), u)
    else
    (if p3 < (6 : Int32) then
    (if (b2i (k_has (u.1 24 (p1).toNatClampNeg) p3)) = (0 : Int32) then
    (if (b2i (k_has (u.1 24 (p2).toNatClampNeg) p3)) = (0 : Int32) then
    ((-2 : Int32), u)
    else
    let r_8 := k_Past_remember u
    let r_9 := k_Hall_joinOn r_8 p1 p2 p3
    ((r_9.1 24 (p2).toNatClampNeg), r_9))
    else
    ((-2 : Int32), u))
    else
    ((-1 : Int32), u))))))
theorem k_joins_x : ∃ f : xU → Int32 → Int32 → Int32 → Int32 × xU, f = k_joins_b := ⟨_, rfl⟩
noncomputable def k_joins : xU → Int32 → Int32 → Int32 → Int32 × xU := k_joins_x.choose
theorem k_joins_def : k_joins = k_joins_b := k_joins_x.choose_spec
set_option maxHeartbeats 4000000 in
set_option maxRecDepth 100000 in
theorem c_k_joins (l : Launch) (D : va_G) (a : Nat → Nat) (Y : Nat → ClassId) (ts : Nat → Nat) (u : xU) (p1 : Int32) (p2 : Int32) (p3 : Int32) (hT : (0 ≤ ((u.1 13 0)).toInt ∧ ((u.1 13 0)).toInt ≤ 8)) (hC : (0 ≤ ((u.1 13 1)).toInt ∧ ((u.1 13 1)).toInt ≤ 6)) (hN : (0 ≤ ((u.1 27 1)).toInt ∧ ((u.1 27 1)).toInt ≤ 9)) (hr0 : kK (u.1 26)) : xMi l yX10_joins cX10_joins 4 (some .int) (xRm 3 104) D (xty Y) (wC a Y) ts [.ref (a 0), .int p1, .int p2, .int p3] u ((k_joins u p1 p2 p3).1, (k_joins u p1 p2 p3).2) := by
  suffices h : ∀ V, V = k_joins_b u p1 p2 p3 → xMi l yX10_joins cX10_joins 4 (some .int) (xRm 3 104) D (xty Y) (wC a Y) ts [.ref (a 0), .int p1, .int p2, .int p3] u (V.1, V.2) from h _ (by rw [k_joins_def])
  intro V hV
  refine xofi RX10 rfl (by decide) (Nat.le_of_ble_eq_true rfl) ?_
  intro p e s m args below meth c ls H locs A S hr hlk hl hK hE hA hw
  have hl : lv_has ls 4 [(0, .ref (a 0)), (1, .int p1), (2, .int p2), (3, .int p3)] := hl
  refine lv_aload_n S.1 S.2.1 dX10_joins_0 rfl (lv_at hl 0 rfl) ?_
  refine xget (v := .ref (a 12)) S hK hw 0 rfl rfl inX10 1 (by decide) mfX10_19 rfl dX10_joins_1 ?_
  refine lv_iload_n S.1 S.2.1 dX10_joins_4 rfl (lv_at hl 1 rfl) ?_
  refine xci (rest := []) S hK hE hA hw yfX0_isCast (c_k_Hall_isCast l D a Y ts _ p1 (show (0 ≤ ((u.1 13 0)).toInt ∧ ((u.1 13 0)).toInt ≤ 8) from by omega) (show (0 ≤ ((u.1 13 1)).toInt ∧ ((u.1 13 1)).toInt ≤ 6) from by omega)) 12 rfl rfl mlX10_129 rfl rfl hl.1 ⟨rfl, rfl, Nat.le_of_ble_eq_true rfl, Nat.le_of_ble_eq_true rfl, Nat.le_of_ble_eq_true rfl, Nat.zero_le _, Nat.zero_le _⟩ dX10_joins_5 (fun H locs hw => ?_)
  refine lv_if_eq (tgt := 37) S.1 S.2.1 dX10_joins_8 (by decide) (fun c_1 => ?_) (fun c_1 => ?_)
  · replace hV := hV.trans (if_pos c_1)
    have gc_1 : ((b2i (k_Hall_isCast u p1))).toInt = 0 := xq_eq c_1 rfl rfl
    refine lv_iconst (v := -1) S.1 S.2.1 dX10_joins_37 (by decide) ?_
    exact xri S hr hlk hw hV dX10_joins_38
  · replace hV := hV.trans (if_neg c_1)
    have gc_1 : ¬ ((b2i (k_Hall_isCast u p1))).toInt = 0 := xq_ne c_1 rfl rfl
    have fc_1 := hk_isCast c_1
    refine lv_aload_n S.1 S.2.1 dX10_joins_11 rfl (lv_at hl 0 rfl) ?_
    refine xget (v := .ref (a 12)) S hK hw 0 rfl rfl inX10 1 (by decide) mfX10_19 rfl dX10_joins_12 ?_
    refine lv_iload_n S.1 S.2.1 dX10_joins_15 rfl (lv_at hl 2 rfl) ?_
    refine xci (rest := []) S hK hE hA hw yfX0_isCast (c_k_Hall_isCast l D a Y ts _ p2 (show (0 ≤ ((u.1 13 0)).toInt ∧ ((u.1 13 0)).toInt ≤ 8) from by omega) (show (0 ≤ ((u.1 13 1)).toInt ∧ ((u.1 13 1)).toInt ≤ 6) from by omega)) 12 rfl rfl mlX10_129 rfl rfl hl.1 ⟨rfl, rfl, Nat.le_of_ble_eq_true rfl, Nat.le_of_ble_eq_true rfl, Nat.le_of_ble_eq_true rfl, Nat.zero_le _, Nat.zero_le _⟩ dX10_joins_16 (fun H locs hw => ?_)
    refine lv_if_eq (tgt := 37) S.1 S.2.1 dX10_joins_19 (by decide) (fun c_2 => ?_) (fun c_2 => ?_)
    · replace hV := hV.trans (if_pos c_2)
      have gc_2 : ((b2i (k_Hall_isCast u p2))).toInt = 0 := xq_eq c_2 rfl rfl
      refine lv_iconst (v := -1) S.1 S.2.1 dX10_joins_37 (by decide) ?_
      exact xri S hr hlk hw hV dX10_joins_38
    · replace hV := hV.trans (if_neg c_2)
      have gc_2 : ¬ ((b2i (k_Hall_isCast u p2))).toInt = 0 := xq_ne c_2 rfl rfl
      have fc_2 := hk_isCast c_2
      refine lv_iload_n S.1 S.2.1 dX10_joins_22 rfl (lv_at hl 1 rfl) ?_
      refine lv_iload_n S.1 S.2.1 dX10_joins_23 rfl (lv_at hl 2 rfl) ?_
      refine lv_icmp_eq (tgt := 37) S.1 S.2.1 dX10_joins_24 (by decide) (fun c_3 => ?_) (fun c_3 => ?_)
      · replace hV := hV.trans (if_pos c_3)
        have gc_3 : (p1).toInt = (p2).toInt := xq_eq c_3 rfl rfl
        refine lv_iconst (v := -1) S.1 S.2.1 dX10_joins_37 (by decide) ?_
        exact xri S hr hlk hw hV dX10_joins_38
      · replace hV := hV.trans (if_neg c_3)
        have gc_3 : ¬ (p1).toInt = (p2).toInt := xq_ne c_3 rfl rfl
        refine lv_iload_n S.1 S.2.1 dX10_joins_27 rfl (lv_at hl 3 rfl) ?_
        refine lv_if_lt (tgt := 37) S.1 S.2.1 dX10_joins_28 (by decide) (fun c_4 => ?_) (fun c_4 => ?_)
        · replace hV := hV.trans (if_pos c_4)
          have gc_4 : (p3).toInt < 0 := xq_lt c_4 rfl rfl
          refine lv_iconst (v := -1) S.1 S.2.1 dX10_joins_37 (by decide) ?_
          exact xri S hr hlk hw hV dX10_joins_38
        · replace hV := hV.trans (if_neg c_4)
          have gc_4 : 0 ≤ (p3).toInt := xq_nlt c_4 rfl rfl
          refine lv_iload_n S.1 S.2.1 dX10_joins_31 rfl (lv_at hl 3 rfl) ?_
          refine lv_bipush (v := 6) S.1 S.2.1 dX10_joins_32 (by decide) ?_
          refine lv_icmp_lt (tgt := 39) S.1 S.2.1 dX10_joins_34 (by decide) (fun c_5 => ?_) (fun c_5 => ?_)
          · replace hV := hV.trans (if_pos c_5)
            have gc_5 : (p3).toInt < 6 := xq_lt c_5 rfl rfl
            refine lv_aload_n S.1 S.2.1 dX10_joins_39 rfl (lv_at hl 0 rfl) ?_
            refine xget (v := .ref (a 12)) S hK hw 0 rfl rfl inX10 1 (by decide) mfX10_19 rfl dX10_joins_40 ?_
            refine xget (v := .ref (a 21)) S hK hw 12 rfl rfl inX0 1 (by decide) mfX10_138 rfl dX10_joins_43 ?_
            refine xget (v := .ref (a 24)) S hK hw 21 rfl rfl inX4 4 (by decide) mfX10_142 rfl dX10_joins_46 ?_
            refine lv_iload_n S.1 S.2.1 dX10_joins_49 rfl (lv_at hl 1 rfl) ?_
            refine xald (f := u.1 24) S hK hw 24 0 rfl rfl (xvi rfl (by omega) (by omega)) dX10_joins_50 ?_
            refine lv_iload_n S.1 S.2.1 dX10_joins_51 rfl (lv_at hl 3 rfl) ?_
            refine xcP (rest := []) S hw yfX10_has (c_k_has l (u.1 24 (p1).toNatClampNeg) p3) mlX10_190 rfl rfl hl.1 ⟨rfl, rfl, Nat.le_of_ble_eq_true rfl, Nat.le_of_ble_eq_true rfl, Nat.le_of_ble_eq_true rfl, Nat.zero_le _, Nat.zero_le _⟩ dX10_joins_52 (fun H locs hw => ?_)
            refine lv_if_ne (tgt := 77) S.1 S.2.1 dX10_joins_55 (by decide) (fun c_6 => ?_) (fun c_6 => ?_)
            · replace hV := hV.trans (if_neg c_6)
              have gc_6 : ¬ ((b2i (k_has (u.1 24 (p1).toNatClampNeg) p3))).toInt = 0 := xq_ne c_6 rfl rfl
              refine lv_bipush (v := -2) S.1 S.2.1 dX10_joins_77 (by decide) ?_
              exact xri S hr hlk hw hV dX10_joins_79
            · replace hV := hV.trans (if_pos c_6)
              have gc_6 : ((b2i (k_has (u.1 24 (p1).toNatClampNeg) p3))).toInt = 0 := xq_eq c_6 rfl rfl
              refine lv_aload_n S.1 S.2.1 dX10_joins_58 rfl (lv_at hl 0 rfl) ?_
              refine xget (v := .ref (a 12)) S hK hw 0 rfl rfl inX10 1 (by decide) mfX10_19 rfl dX10_joins_59 ?_
              refine xget (v := .ref (a 21)) S hK hw 12 rfl rfl inX0 1 (by decide) mfX10_138 rfl dX10_joins_62 ?_
              refine xget (v := .ref (a 24)) S hK hw 21 rfl rfl inX4 4 (by decide) mfX10_142 rfl dX10_joins_65 ?_
              refine lv_iload_n S.1 S.2.1 dX10_joins_68 rfl (lv_at hl 2 rfl) ?_
              refine xald (f := u.1 24) S hK hw 24 0 rfl rfl (xvi rfl (by omega) (by omega)) dX10_joins_69 ?_
              refine lv_iload_n S.1 S.2.1 dX10_joins_70 rfl (lv_at hl 3 rfl) ?_
              refine xcP (rest := []) S hw yfX10_has (c_k_has l (u.1 24 (p2).toNatClampNeg) p3) mlX10_190 rfl rfl hl.1 ⟨rfl, rfl, Nat.le_of_ble_eq_true rfl, Nat.le_of_ble_eq_true rfl, Nat.le_of_ble_eq_true rfl, Nat.zero_le _, Nat.zero_le _⟩ dX10_joins_71 (fun H locs hw => ?_)
              refine lv_if_ne (tgt := 80) S.1 S.2.1 dX10_joins_74 (by decide) (fun c_7 => ?_) (fun c_7 => ?_)
              · replace hV := hV.trans (if_neg c_7)
                have gc_7 : ¬ ((b2i (k_has (u.1 24 (p2).toNatClampNeg) p3))).toInt = 0 := xq_ne c_7 rfl rfl
                refine lv_aload_n S.1 S.2.1 dX10_joins_80 rfl (lv_at hl 0 rfl) ?_
                refine xget (v := .ref (a 27)) S hK hw 0 rfl rfl inX10 2 (by decide) mfX10_26 rfl dX10_joins_81 ?_
                refine lv_aload_n S.1 S.2.1 dX10_joins_84 rfl (lv_at hl 0 rfl) ?_
                refine xget (v := .ref (a 12)) S hK hw 0 rfl rfl inX10 1 (by decide) mfX10_19 rfl dX10_joins_85 ?_
                refine xget (v := .ref (a 21)) S hK hw 12 rfl rfl inX0 1 (by decide) mfX10_138 rfl dX10_joins_88 ?_
                refine xcVv (rest := []) S hK hE hA hw yfX6_remember (c_k_Past_remember l D a Y ts _ (show (0 ≤ ((u.1 27 1)).toInt ∧ ((u.1 27 1)).toInt ≤ 9) from by omega)) 27 rfl rfl mlX10_172 rfl rfl hl.1 ⟨rfl, rfl, Nat.le_of_ble_eq_true rfl, Nat.le_of_ble_eq_true rfl, Nat.le_of_ble_eq_true rfl, Nat.zero_le _, Nat.zero_le _⟩ dX10_joins_91 (fun H locs hw => ?_)
                have hjo := kK_at (c := p1) (kK_rem hr0) (by omega) (by omega)
                refine lv_aload_n S.1 S.2.1 dX10_joins_94 rfl (lv_at hl 0 rfl) ?_
                refine xget (v := .ref (a 12)) S hK hw 0 rfl rfl inX10 1 (by decide) mfX10_19 rfl dX10_joins_95 ?_
                refine lv_iload_n S.1 S.2.1 dX10_joins_98 rfl (lv_at hl 1 rfl) ?_
                refine lv_iload_n S.1 S.2.1 dX10_joins_99 rfl (lv_at hl 2 rfl) ?_
                refine lv_iload_n S.1 S.2.1 dX10_joins_100 rfl (lv_at hl 3 rfl) ?_
                refine xcVv (rest := []) S hK hE hA hw yfX0_joinOn (c_k_Hall_joinOn l D a Y ts _ p1 p2 p3 (show 0 ≤ (p1).toInt ∧ (p1).toInt < 6 from by omega) (show 0 ≤ (p2).toInt ∧ (p2).toInt < 6 from by omega) hjo) 12 rfl rfl mlX10_193 rfl rfl hl.1 ⟨rfl, rfl, Nat.le_of_ble_eq_true rfl, Nat.le_of_ble_eq_true rfl, Nat.le_of_ble_eq_true rfl, Nat.zero_le _, Nat.zero_le _⟩ dX10_joins_101 (fun H locs hw => ?_)
                refine lv_aload_n S.1 S.2.1 dX10_joins_104 rfl (lv_at hl 0 rfl) ?_
                refine xget (v := .ref (a 12)) S hK hw 0 rfl rfl inX10 1 (by decide) mfX10_19 rfl dX10_joins_105 ?_
                refine xget (v := .ref (a 21)) S hK hw 12 rfl rfl inX0 1 (by decide) mfX10_138 rfl dX10_joins_108 ?_
                refine xget (v := .ref (a 24)) S hK hw 21 rfl rfl inX4 4 (by decide) mfX10_142 rfl dX10_joins_111 ?_
                refine lv_iload_n S.1 S.2.1 dX10_joins_114 rfl (lv_at hl 2 rfl) ?_
                refine xald (f := (k_Hall_joinOn (k_Past_remember u) p1 p2 p3).1 24) S hK hw 24 0 rfl rfl (xvi rfl (by omega) (by omega)) dX10_joins_115 ?_
                exact xri S hr hlk hw hV dX10_joins_116
              · replace hV := hV.trans (if_pos c_7)
                have gc_7 : ((b2i (k_has (u.1 24 (p2).toNatClampNeg) p3))).toInt = 0 := xq_eq c_7 rfl rfl
                refine lv_bipush (v := -2) S.1 S.2.1 dX10_joins_77 (by decide) ?_
                exact xri S hr hlk hw hV dX10_joins_79
          · replace hV := hV.trans (if_neg c_5)
            have gc_5 : 6 ≤ (p3).toInt := xq_nlt c_5 rfl rfl
            refine lv_iconst (v := -1) S.1 S.2.1 dX10_joins_37 (by decide) ?_
            exact xri S hr hlk hw hV dX10_joins_38
noncomputable def k_mends_b (u : xU) (p1 : Int32) : Int32 × xU :=
    (if (b2i (k_Hall_isCast u p1)) = (0 : Int32) then
    ((-1 : Int32), u)
    else
    (if (u.1 25 (p1).toNatClampNeg) = (0 : Int32) then
    ((-2 : Int32), u)
    else
    let r_3 := k_Past_remember u
    let w_4 := sp r_3 25 (upd (r_3.1 25) (p1).toNatClampNeg (0 : Int32))
    let w_5 := sp w_4 21 (upd (r_3.1 21) 1 ((r_3.1 21 1) &&& (((1 : Int32) <<< (p1 &&& 31)) ^^^ (-1 : Int32))))
    ((u.1 25 (p1).toNatClampNeg), w_5)))
theorem k_mends_x : ∃ f : xU → Int32 → Int32 × xU, f = k_mends_b := ⟨_, rfl⟩
noncomputable def k_mends : xU → Int32 → Int32 × xU := k_mends_x.choose
theorem k_mends_def : k_mends = k_mends_b := k_mends_x.choose_spec
set_option maxHeartbeats 4000000 in
set_option maxRecDepth 100000 in
theorem c_k_mends (l : Launch) (D : va_G) (a : Nat → Nat) (Y : Nat → ClassId) (ts : Nat → Nat) (u : xU) (p1 : Int32) (hT : (0 ≤ ((u.1 13 0)).toInt ∧ ((u.1 13 0)).toInt ≤ 8)) (hC : (0 ≤ ((u.1 13 1)).toInt ∧ ((u.1 13 1)).toInt ≤ 6)) (hN : (0 ≤ ((u.1 27 1)).toInt ∧ ((u.1 27 1)).toInt ≤ 9)) : xMi l yX10_mends cX10_mends 3 (some .int) (xRm 3 104) D (xty Y) (wC a Y) ts [.ref (a 0), .int p1] u ((k_mends u p1).1, (k_mends u p1).2) := by
  suffices h : ∀ V, V = k_mends_b u p1 → xMi l yX10_mends cX10_mends 3 (some .int) (xRm 3 104) D (xty Y) (wC a Y) ts [.ref (a 0), .int p1] u (V.1, V.2) from h _ (by rw [k_mends_def])
  intro V hV
  refine xofi RX10 rfl (by decide) (Nat.le_of_ble_eq_true rfl) ?_
  intro p e s m args below meth c ls H locs A S hr hlk hl hK hE hA hw
  have hl : lv_has ls 3 [(0, .ref (a 0)), (1, .int p1)] := hl
  refine lv_aload_n S.1 S.2.1 dX10_mends_0 rfl (lv_at hl 0 rfl) ?_
  refine xget (v := .ref (a 12)) S hK hw 0 rfl rfl inX10 1 (by decide) mfX10_19 rfl dX10_mends_1 ?_
  refine lv_iload_n S.1 S.2.1 dX10_mends_4 rfl (lv_at hl 1 rfl) ?_
  refine xci (rest := []) S hK hE hA hw yfX0_isCast (c_k_Hall_isCast l D a Y ts _ p1 (show (0 ≤ ((u.1 13 0)).toInt ∧ ((u.1 13 0)).toInt ≤ 8) from by omega) (show (0 ≤ ((u.1 13 1)).toInt ∧ ((u.1 13 1)).toInt ≤ 6) from by omega)) 12 rfl rfl mlX10_129 rfl rfl hl.1 ⟨rfl, rfl, Nat.le_of_ble_eq_true rfl, Nat.le_of_ble_eq_true rfl, Nat.le_of_ble_eq_true rfl, Nat.zero_le _, Nat.zero_le _⟩ dX10_mends_5 (fun H locs hw => ?_)
  refine lv_if_ne (tgt := 13) S.1 S.2.1 dX10_mends_8 (by decide) (fun c_1 => ?_) (fun c_1 => ?_)
  · replace hV := hV.trans (if_neg c_1)
    have gc_1 : ¬ ((b2i (k_Hall_isCast u p1))).toInt = 0 := xq_ne c_1 rfl rfl
    have fc_1 := hk_isCast c_1
    refine lv_aload_n S.1 S.2.1 dX10_mends_13 rfl (lv_at hl 0 rfl) ?_
    refine xget (v := .ref (a 12)) S hK hw 0 rfl rfl inX10 1 (by decide) mfX10_19 rfl dX10_mends_14 ?_
    refine xget (v := .ref (a 21)) S hK hw 12 rfl rfl inX0 1 (by decide) mfX10_138 rfl dX10_mends_17 ?_
    refine xget (v := .ref (a 25)) S hK hw 21 rfl rfl inX4 5 (by decide) mfX10_147 rfl dX10_mends_20 ?_
    refine lv_iload_n S.1 S.2.1 dX10_mends_23 rfl (lv_at hl 1 rfl) ?_
    refine xald (f := u.1 25) S hK hw 25 0 rfl rfl (xvi rfl (by omega) (by omega)) dX10_mends_24 ?_
    refine lv_istore_n (lv' := [(2, .int (u.1 25 (p1).toNatClampNeg)), (0, .ref (a 0)), (1, .int p1)]) S.1 S.2.1 dX10_mends_25 rfl hl (by decide) rfl (fun ls hl => ?_)
    refine lv_iload_n S.1 S.2.1 dX10_mends_26 rfl (lv_at hl 0 rfl) ?_
    refine lv_if_ne (tgt := 33) S.1 S.2.1 dX10_mends_27 (by decide) (fun c_2 => ?_) (fun c_2 => ?_)
    · replace hV := hV.trans (if_neg c_2)
      have gc_2 : ¬ ((u.1 25 (p1).toNatClampNeg)).toInt = 0 := xq_ne c_2 rfl rfl
      refine lv_aload_n S.1 S.2.1 dX10_mends_33 rfl (lv_at hl 1 rfl) ?_
      refine xget (v := .ref (a 27)) S hK hw 0 rfl rfl inX10 2 (by decide) mfX10_26 rfl dX10_mends_34 ?_
      refine lv_aload_n S.1 S.2.1 dX10_mends_37 rfl (lv_at hl 1 rfl) ?_
      refine xget (v := .ref (a 12)) S hK hw 0 rfl rfl inX10 1 (by decide) mfX10_19 rfl dX10_mends_38 ?_
      refine xget (v := .ref (a 21)) S hK hw 12 rfl rfl inX0 1 (by decide) mfX10_138 rfl dX10_mends_41 ?_
      refine xcVv (rest := []) S hK hE hA hw yfX6_remember (c_k_Past_remember l D a Y ts _ (show (0 ≤ ((u.1 27 1)).toInt ∧ ((u.1 27 1)).toInt ≤ 9) from by omega)) 27 rfl rfl mlX10_172 rfl rfl hl.1 ⟨rfl, rfl, Nat.le_of_ble_eq_true rfl, Nat.le_of_ble_eq_true rfl, Nat.le_of_ble_eq_true rfl, Nat.zero_le _, Nat.zero_le _⟩ dX10_mends_44 (fun H locs hw => ?_)
      refine lv_aload_n S.1 S.2.1 dX10_mends_47 rfl (lv_at hl 1 rfl) ?_
      refine xget (v := .ref (a 12)) S hK hw 0 rfl rfl inX10 1 (by decide) mfX10_19 rfl dX10_mends_48 ?_
      refine xget (v := .ref (a 21)) S hK hw 12 rfl rfl inX0 1 (by decide) mfX10_138 rfl dX10_mends_51 ?_
      refine xget (v := .ref (a 25)) S hK hw 21 rfl rfl inX4 5 (by decide) mfX10_147 rfl dX10_mends_54 ?_
      refine lv_iload_n S.1 S.2.1 dX10_mends_57 rfl (lv_at hl 2 rfl) ?_
      refine lv_iconst (v := 0) S.1 S.2.1 dX10_mends_58 (by decide) ?_
      refine xast S hK hw 25 0 rfl rfl (xvi rfl (by omega) (by omega)) (sC_25 _ _ _ _) dX10_mends_59 (fun H locs hw => ?_)
      refine lv_aload_n S.1 S.2.1 dX10_mends_60 rfl (lv_at hl 1 rfl) ?_
      refine xget (v := .ref (a 12)) S hK hw 0 rfl rfl inX10 1 (by decide) mfX10_19 rfl dX10_mends_61 ?_
      refine xget (v := .ref (a 21)) S hK hw 12 rfl rfl inX0 1 (by decide) mfX10_138 rfl dX10_mends_64 ?_
      refine lv_dup S.1 S.2.1 dX10_mends_67 rfl ?_
      refine xget (v := .int ((k_Past_remember u).1 21 1)) S hK hw 21 rfl rfl inX4 1 (by decide) mfX10_182 rfl dX10_mends_68 ?_
      refine lv_iconst (v := 1) S.1 S.2.1 dX10_mends_71 (by decide) ?_
      refine lv_iload_n S.1 S.2.1 dX10_mends_72 rfl (lv_at hl 2 rfl) ?_
      refine lv_ishl S.1 S.2.1 dX10_mends_73 ?_
      refine lv_iconst (v := -1) S.1 S.2.1 dX10_mends_74 (by decide) ?_
      refine lv_ixor S.1 S.2.1 dX10_mends_75 ?_
      refine lv_iand S.1 S.2.1 dX10_mends_76 ?_
      refine xputi (ty := .int) S hK hw 21 rfl rfl inX4 tyX4 tyX4_ok nmX4 1 (by decide) mfX10_182 rfl (by decide +kernel) rfl rfl (Nat.le_of_ble_eq_true rfl) (oC_21_1 _ _ _ _) dX10_mends_77 (fun H locs hw => ?_)
      refine lv_iload_n S.1 S.2.1 dX10_mends_80 rfl (lv_at hl 0 rfl) ?_
      exact xri S hr hlk hw hV dX10_mends_81
    · replace hV := hV.trans (if_pos c_2)
      have gc_2 : ((u.1 25 (p1).toNatClampNeg)).toInt = 0 := xq_eq c_2 rfl rfl
      refine lv_bipush (v := -2) S.1 S.2.1 dX10_mends_30 (by decide) ?_
      exact xri S hr hlk hw hV dX10_mends_32
  · replace hV := hV.trans (if_pos c_1)
    have gc_1 : ((b2i (k_Hall_isCast u p1))).toInt = 0 := xq_eq c_1 rfl rfl
    refine lv_iconst (v := -1) S.1 S.2.1 dX10_mends_11 (by decide) ?_
    exact xri S hr hlk hw hV dX10_mends_12
noncomputable def k_sets_b (u : xU) (p1 : Int32) (p2 : Int32) : Int32 × xU :=
    (if (b2i (k_Hall_isCast u p1)) = (0 : Int32) then
    ((-1 : Int32), u)
    else
    (if p2 = (-1 : Int32) then
    (if p2 = (u.1 26 (p1).toNatClampNeg) then
    ((-2 : Int32), u)
    else
    (if p2 = (-1 : Int32) then
    let r_5 := k_Past_remember u
    let w_6 := sp r_5 26 (upd (r_5.1 26) (p1).toNatClampNeg p2)
    ((k_orNone (u.1 26 (p1).toNatClampNeg)), w_6)
    else
    (if (b2i (k_Hall_may u p1 p2)) = (0 : Int32) then
    ((-2 : Int32), u)
    else
    let r_8 := k_Past_remember u
    let w_9 := sp r_8 26 (upd (r_8.1 26) (p1).toNatClampNeg p2)
    ((k_orNone (u.1 26 (p1).toNatClampNeg)), w_9))))
    else
    (if (b2i (k_Hall_isThing u p2)) = (0 : Int32) then
    ((-1 : Int32), u)
    else
    (if p2 = (u.1 26 (p1).toNatClampNeg) then
    ((-2 : Int32), u)
    else
    (if p2 = (-1 : Int32) then
    let r_13 := k_Past_remember u
    let w_14 := sp r_13 26 (upd (r_13.1 26) (p1).toNatClampNeg p2)
    ((k_orNone (u.1 26 (p1).toNatClampNeg)), w_14)
    else
    (if (b2i (k_Hall_may u p1 p2)) = (0 : Int32) then
    ((-2 : Int32), u)
    else
    let r_16 := k_Past_remember u
    let w_17 := sp r_16 26 (upd (r_16.1 26) (p1).toNatClampNeg p2)
    ((k_orNone (u.1 26 (p1).toNatClampNeg)), w_17)))))))
theorem k_sets_x : ∃ f : xU → Int32 → Int32 → Int32 × xU, f = k_sets_b := ⟨_, rfl⟩
noncomputable def k_sets : xU → Int32 → Int32 → Int32 × xU := k_sets_x.choose
theorem k_sets_def : k_sets = k_sets_b := k_sets_x.choose_spec
set_option maxHeartbeats 4000000 in
set_option maxRecDepth 100000 in
theorem c_k_sets (l : Launch) (D : va_G) (a : Nat → Nat) (Y : Nat → ClassId) (ts : Nat → Nat) (u : xU) (p1 : Int32) (p2 : Int32) (hT : (0 ≤ ((u.1 13 0)).toInt ∧ ((u.1 13 0)).toInt ≤ 8)) (hC : (0 ≤ ((u.1 13 1)).toInt ∧ ((u.1 13 1)).toInt ≤ 6)) (hN : (0 ≤ ((u.1 27 1)).toInt ∧ ((u.1 27 1)).toInt ≤ 9)) : xMi l yX10_sets cX10_sets 4 (some .int) (xRm 3 104) D (xty Y) (wC a Y) ts [.ref (a 0), .int p1, .int p2] u ((k_sets u p1 p2).1, (k_sets u p1 p2).2) := by
  suffices h : ∀ V, V = k_sets_b u p1 p2 → xMi l yX10_sets cX10_sets 4 (some .int) (xRm 3 104) D (xty Y) (wC a Y) ts [.ref (a 0), .int p1, .int p2] u (V.1, V.2) from h _ (by rw [k_sets_def])
  intro V hV
  refine xofi RX10 rfl (by decide) (Nat.le_of_ble_eq_true rfl) ?_
  intro p e s m args below meth c ls H locs A S hr hlk hl hK hE hA hw
  have hl : lv_has ls 4 [(0, .ref (a 0)), (1, .int p1), (2, .int p2)] := hl
  refine lv_aload_n S.1 S.2.1 dX10_sets_0 rfl (lv_at hl 0 rfl) ?_
  refine xget (v := .ref (a 12)) S hK hw 0 rfl rfl inX10 1 (by decide) mfX10_19 rfl dX10_sets_1 ?_
  refine lv_iload_n S.1 S.2.1 dX10_sets_4 rfl (lv_at hl 1 rfl) ?_
  refine xci (rest := []) S hK hE hA hw yfX0_isCast (c_k_Hall_isCast l D a Y ts _ p1 (show (0 ≤ ((u.1 13 0)).toInt ∧ ((u.1 13 0)).toInt ≤ 8) from by omega) (show (0 ≤ ((u.1 13 1)).toInt ∧ ((u.1 13 1)).toInt ≤ 6) from by omega)) 12 rfl rfl mlX10_129 rfl rfl hl.1 ⟨rfl, rfl, Nat.le_of_ble_eq_true rfl, Nat.le_of_ble_eq_true rfl, Nat.le_of_ble_eq_true rfl, Nat.zero_le _, Nat.zero_le _⟩ dX10_sets_5 (fun H locs hw => ?_)
  refine lv_if_eq (tgt := 27) S.1 S.2.1 dX10_sets_8 (by decide) (fun c_1 => ?_) (fun c_1 => ?_)
  · replace hV := hV.trans (if_pos c_1)
    have gc_1 : ((b2i (k_Hall_isCast u p1))).toInt = 0 := xq_eq c_1 rfl rfl
    refine lv_iconst (v := -1) S.1 S.2.1 dX10_sets_27 (by decide) ?_
    exact xri S hr hlk hw hV dX10_sets_28
  · replace hV := hV.trans (if_neg c_1)
    have gc_1 : ¬ ((b2i (k_Hall_isCast u p1))).toInt = 0 := xq_ne c_1 rfl rfl
    have fc_1 := hk_isCast c_1
    refine lv_iload_n S.1 S.2.1 dX10_sets_11 rfl (lv_at hl 2 rfl) ?_
    refine lv_iconst (v := -1) S.1 S.2.1 dX10_sets_12 (by decide) ?_
    refine lv_icmp_eq (tgt := 29) S.1 S.2.1 dX10_sets_13 (by decide) (fun c_2 => ?_) (fun c_2 => ?_)
    · replace hV := hV.trans (if_pos c_2)
      have gc_2 : (p2).toInt = (-1) := xq_eq c_2 rfl rfl
      refine lv_aload_n S.1 S.2.1 dX10_sets_29 rfl (lv_at hl 0 rfl) ?_
      refine xget (v := .ref (a 12)) S hK hw 0 rfl rfl inX10 1 (by decide) mfX10_19 rfl dX10_sets_30 ?_
      refine xget (v := .ref (a 21)) S hK hw 12 rfl rfl inX0 1 (by decide) mfX10_138 rfl dX10_sets_33 ?_
      refine xget (v := .ref (a 26)) S hK hw 21 rfl rfl inX4 6 (by decide) mfX10_159 rfl dX10_sets_36 ?_
      refine lv_iload_n S.1 S.2.1 dX10_sets_39 rfl (lv_at hl 1 rfl) ?_
      refine xald (f := u.1 26) S hK hw 26 0 rfl rfl (xvi rfl (by omega) (by omega)) dX10_sets_40 ?_
      refine lv_istore_n (lv' := [(3, .int (u.1 26 (p1).toNatClampNeg)), (0, .ref (a 0)), (1, .int p1), (2, .int p2)]) S.1 S.2.1 dX10_sets_41 rfl hl (by decide) rfl (fun ls hl => ?_)
      refine lv_iload_n S.1 S.2.1 dX10_sets_42 rfl (lv_at hl 3 rfl) ?_
      refine lv_iload_n S.1 S.2.1 dX10_sets_43 rfl (lv_at hl 0 rfl) ?_
      refine lv_icmp_eq (tgt := 64) S.1 S.2.1 dX10_sets_44 (by decide) (fun c_3 => ?_) (fun c_3 => ?_)
      · replace hV := hV.trans (if_pos c_3)
        have gc_3 : (p2).toInt = ((u.1 26 (p1).toNatClampNeg)).toInt := xq_eq c_3 rfl rfl
        refine lv_bipush (v := -2) S.1 S.2.1 dX10_sets_64 (by decide) ?_
        exact xri S hr hlk hw hV dX10_sets_66
      · replace hV := hV.trans (if_neg c_3)
        have gc_3 : ¬ (p2).toInt = ((u.1 26 (p1).toNatClampNeg)).toInt := xq_ne c_3 rfl rfl
        refine lv_iload_n S.1 S.2.1 dX10_sets_47 rfl (lv_at hl 3 rfl) ?_
        refine lv_iconst (v := -1) S.1 S.2.1 dX10_sets_48 (by decide) ?_
        refine lv_icmp_eq (tgt := 67) S.1 S.2.1 dX10_sets_49 (by decide) (fun c_4 => ?_) (fun c_4 => ?_)
        · replace hV := hV.trans (if_pos c_4)
          have gc_4 : (p2).toInt = (-1) := xq_eq c_4 rfl rfl
          refine lv_aload_n S.1 S.2.1 dX10_sets_67 rfl (lv_at hl 1 rfl) ?_
          refine xget (v := .ref (a 27)) S hK hw 0 rfl rfl inX10 2 (by decide) mfX10_26 rfl dX10_sets_68 ?_
          refine lv_aload_n S.1 S.2.1 dX10_sets_71 rfl (lv_at hl 1 rfl) ?_
          refine xget (v := .ref (a 12)) S hK hw 0 rfl rfl inX10 1 (by decide) mfX10_19 rfl dX10_sets_72 ?_
          refine xget (v := .ref (a 21)) S hK hw 12 rfl rfl inX0 1 (by decide) mfX10_138 rfl dX10_sets_75 ?_
          refine xcVv (rest := []) S hK hE hA hw yfX6_remember (c_k_Past_remember l D a Y ts _ (show (0 ≤ ((u.1 27 1)).toInt ∧ ((u.1 27 1)).toInt ≤ 9) from by omega)) 27 rfl rfl mlX10_172 rfl rfl hl.1 ⟨rfl, rfl, Nat.le_of_ble_eq_true rfl, Nat.le_of_ble_eq_true rfl, Nat.le_of_ble_eq_true rfl, Nat.zero_le _, Nat.zero_le _⟩ dX10_sets_78 (fun H locs hw => ?_)
          refine lv_aload_n S.1 S.2.1 dX10_sets_81 rfl (lv_at hl 1 rfl) ?_
          refine xget (v := .ref (a 12)) S hK hw 0 rfl rfl inX10 1 (by decide) mfX10_19 rfl dX10_sets_82 ?_
          refine xget (v := .ref (a 21)) S hK hw 12 rfl rfl inX0 1 (by decide) mfX10_138 rfl dX10_sets_85 ?_
          refine xget (v := .ref (a 26)) S hK hw 21 rfl rfl inX4 6 (by decide) mfX10_159 rfl dX10_sets_88 ?_
          refine lv_iload_n S.1 S.2.1 dX10_sets_91 rfl (lv_at hl 2 rfl) ?_
          refine lv_iload_n S.1 S.2.1 dX10_sets_92 rfl (lv_at hl 3 rfl) ?_
          refine xast S hK hw 26 0 rfl rfl (xvi rfl (by omega) (by omega)) (sC_26 _ _ _ _) dX10_sets_93 (fun H locs hw => ?_)
          refine lv_iload_n S.1 S.2.1 dX10_sets_94 rfl (lv_at hl 0 rfl) ?_
          refine xcP (rest := []) S hw yfX10_orNone (c_k_orNone l (u.1 26 (p1).toNatClampNeg)) mlX10_162 rfl rfl hl.1 ⟨rfl, rfl, Nat.le_of_ble_eq_true rfl, Nat.le_of_ble_eq_true rfl, Nat.le_of_ble_eq_true rfl, Nat.zero_le _, Nat.zero_le _⟩ dX10_sets_95 (fun H locs hw => ?_)
          exact xri S hr hlk hw hV dX10_sets_98
        · replace hV := hV.trans (if_neg c_4)
          have gc_4 : ¬ (p2).toInt = (-1) := xq_ne c_4 rfl rfl
          refine lv_aload_n S.1 S.2.1 dX10_sets_52 rfl (lv_at hl 1 rfl) ?_
          refine xget (v := .ref (a 12)) S hK hw 0 rfl rfl inX10 1 (by decide) mfX10_19 rfl dX10_sets_53 ?_
          refine lv_iload_n S.1 S.2.1 dX10_sets_56 rfl (lv_at hl 2 rfl) ?_
          refine lv_iload_n S.1 S.2.1 dX10_sets_57 rfl (lv_at hl 3 rfl) ?_
          refine xci (rest := []) S hK hE hA hw yfX0_may (c_k_Hall_may l D a Y ts _ p1 p2 (show (0 ≤ ((u.1 13 0)).toInt ∧ ((u.1 13 0)).toInt ≤ 8) from by omega) (show (0 ≤ ((u.1 13 1)).toInt ∧ ((u.1 13 1)).toInt ≤ 6) from by omega) (show 0 ≤ (p1).toInt ∧ (p1).toInt < 6 from by omega) (show 0 ≤ (p2).toInt ∧ (p2).toInt < 8 from by omega)) 12 rfl rfl mlX10_168 rfl rfl hl.1 ⟨rfl, rfl, Nat.le_of_ble_eq_true rfl, Nat.le_of_ble_eq_true rfl, Nat.le_of_ble_eq_true rfl, Nat.zero_le _, Nat.zero_le _⟩ dX10_sets_58 (fun H locs hw => ?_)
          refine lv_if_ne (tgt := 67) S.1 S.2.1 dX10_sets_61 (by decide) (fun c_7 => ?_) (fun c_7 => ?_)
          · replace hV := hV.trans (if_neg c_7)
            have gc_7 : ¬ ((b2i (k_Hall_may u p1 p2))).toInt = 0 := xq_ne c_7 rfl rfl
            refine lv_aload_n S.1 S.2.1 dX10_sets_67 rfl (lv_at hl 1 rfl) ?_
            refine xget (v := .ref (a 27)) S hK hw 0 rfl rfl inX10 2 (by decide) mfX10_26 rfl dX10_sets_68 ?_
            refine lv_aload_n S.1 S.2.1 dX10_sets_71 rfl (lv_at hl 1 rfl) ?_
            refine xget (v := .ref (a 12)) S hK hw 0 rfl rfl inX10 1 (by decide) mfX10_19 rfl dX10_sets_72 ?_
            refine xget (v := .ref (a 21)) S hK hw 12 rfl rfl inX0 1 (by decide) mfX10_138 rfl dX10_sets_75 ?_
            refine xcVv (rest := []) S hK hE hA hw yfX6_remember (c_k_Past_remember l D a Y ts _ (show (0 ≤ ((u.1 27 1)).toInt ∧ ((u.1 27 1)).toInt ≤ 9) from by omega)) 27 rfl rfl mlX10_172 rfl rfl hl.1 ⟨rfl, rfl, Nat.le_of_ble_eq_true rfl, Nat.le_of_ble_eq_true rfl, Nat.le_of_ble_eq_true rfl, Nat.zero_le _, Nat.zero_le _⟩ dX10_sets_78 (fun H locs hw => ?_)
            refine lv_aload_n S.1 S.2.1 dX10_sets_81 rfl (lv_at hl 1 rfl) ?_
            refine xget (v := .ref (a 12)) S hK hw 0 rfl rfl inX10 1 (by decide) mfX10_19 rfl dX10_sets_82 ?_
            refine xget (v := .ref (a 21)) S hK hw 12 rfl rfl inX0 1 (by decide) mfX10_138 rfl dX10_sets_85 ?_
            refine xget (v := .ref (a 26)) S hK hw 21 rfl rfl inX4 6 (by decide) mfX10_159 rfl dX10_sets_88 ?_
            refine lv_iload_n S.1 S.2.1 dX10_sets_91 rfl (lv_at hl 2 rfl) ?_
            refine lv_iload_n S.1 S.2.1 dX10_sets_92 rfl (lv_at hl 3 rfl) ?_
            refine xast S hK hw 26 0 rfl rfl (xvi rfl (by omega) (by omega)) (sC_26 _ _ _ _) dX10_sets_93 (fun H locs hw => ?_)
            refine lv_iload_n S.1 S.2.1 dX10_sets_94 rfl (lv_at hl 0 rfl) ?_
            refine xcP (rest := []) S hw yfX10_orNone (c_k_orNone l (u.1 26 (p1).toNatClampNeg)) mlX10_162 rfl rfl hl.1 ⟨rfl, rfl, Nat.le_of_ble_eq_true rfl, Nat.le_of_ble_eq_true rfl, Nat.le_of_ble_eq_true rfl, Nat.zero_le _, Nat.zero_le _⟩ dX10_sets_95 (fun H locs hw => ?_)
            exact xri S hr hlk hw hV dX10_sets_98
          · replace hV := hV.trans (if_pos c_7)
            have gc_7 : ((b2i (k_Hall_may u p1 p2))).toInt = 0 := xq_eq c_7 rfl rfl
            refine lv_bipush (v := -2) S.1 S.2.1 dX10_sets_64 (by decide) ?_
            exact xri S hr hlk hw hV dX10_sets_66
    · replace hV := hV.trans (if_neg c_2)
      have gc_2 : ¬ (p2).toInt = (-1) := xq_ne c_2 rfl rfl
      refine lv_aload_n S.1 S.2.1 dX10_sets_16 rfl (lv_at hl 0 rfl) ?_
      refine xget (v := .ref (a 12)) S hK hw 0 rfl rfl inX10 1 (by decide) mfX10_19 rfl dX10_sets_17 ?_
      refine lv_iload_n S.1 S.2.1 dX10_sets_20 rfl (lv_at hl 2 rfl) ?_
      refine xci (rest := []) S hK hE hA hw yfX0_isThing (c_k_Hall_isThing l D a Y ts _ p2 (show (0 ≤ ((u.1 13 0)).toInt ∧ ((u.1 13 0)).toInt ≤ 8) from by omega) (show (0 ≤ ((u.1 13 1)).toInt ∧ ((u.1 13 1)).toInt ≤ 6) from by omega)) 12 rfl rfl mlX10_109 rfl rfl hl.1 ⟨rfl, rfl, Nat.le_of_ble_eq_true rfl, Nat.le_of_ble_eq_true rfl, Nat.le_of_ble_eq_true rfl, Nat.zero_le _, Nat.zero_le _⟩ dX10_sets_21 (fun H locs hw => ?_)
      refine lv_if_ne (tgt := 29) S.1 S.2.1 dX10_sets_24 (by decide) (fun c_10 => ?_) (fun c_10 => ?_)
      · replace hV := hV.trans (if_neg c_10)
        have gc_10 : ¬ ((b2i (k_Hall_isThing u p2))).toInt = 0 := xq_ne c_10 rfl rfl
        have fc_10 := hk_isThing c_10
        refine lv_aload_n S.1 S.2.1 dX10_sets_29 rfl (lv_at hl 0 rfl) ?_
        refine xget (v := .ref (a 12)) S hK hw 0 rfl rfl inX10 1 (by decide) mfX10_19 rfl dX10_sets_30 ?_
        refine xget (v := .ref (a 21)) S hK hw 12 rfl rfl inX0 1 (by decide) mfX10_138 rfl dX10_sets_33 ?_
        refine xget (v := .ref (a 26)) S hK hw 21 rfl rfl inX4 6 (by decide) mfX10_159 rfl dX10_sets_36 ?_
        refine lv_iload_n S.1 S.2.1 dX10_sets_39 rfl (lv_at hl 1 rfl) ?_
        refine xald (f := u.1 26) S hK hw 26 0 rfl rfl (xvi rfl (by omega) (by omega)) dX10_sets_40 ?_
        refine lv_istore_n (lv' := [(3, .int (u.1 26 (p1).toNatClampNeg)), (0, .ref (a 0)), (1, .int p1), (2, .int p2)]) S.1 S.2.1 dX10_sets_41 rfl hl (by decide) rfl (fun ls hl => ?_)
        refine lv_iload_n S.1 S.2.1 dX10_sets_42 rfl (lv_at hl 3 rfl) ?_
        refine lv_iload_n S.1 S.2.1 dX10_sets_43 rfl (lv_at hl 0 rfl) ?_
        refine lv_icmp_eq (tgt := 64) S.1 S.2.1 dX10_sets_44 (by decide) (fun c_11 => ?_) (fun c_11 => ?_)
        · replace hV := hV.trans (if_pos c_11)
          have gc_11 : (p2).toInt = ((u.1 26 (p1).toNatClampNeg)).toInt := xq_eq c_11 rfl rfl
          refine lv_bipush (v := -2) S.1 S.2.1 dX10_sets_64 (by decide) ?_
          exact xri S hr hlk hw hV dX10_sets_66
        · replace hV := hV.trans (if_neg c_11)
          have gc_11 : ¬ (p2).toInt = ((u.1 26 (p1).toNatClampNeg)).toInt := xq_ne c_11 rfl rfl
          refine lv_iload_n S.1 S.2.1 dX10_sets_47 rfl (lv_at hl 3 rfl) ?_
          refine lv_iconst (v := -1) S.1 S.2.1 dX10_sets_48 (by decide) ?_
          refine lv_icmp_eq (tgt := 67) S.1 S.2.1 dX10_sets_49 (by decide) (fun c_12 => ?_) (fun c_12 => ?_)
          · replace hV := hV.trans (if_pos c_12)
            have gc_12 : (p2).toInt = (-1) := xq_eq c_12 rfl rfl
            refine lv_aload_n S.1 S.2.1 dX10_sets_67 rfl (lv_at hl 1 rfl) ?_
            refine xget (v := .ref (a 27)) S hK hw 0 rfl rfl inX10 2 (by decide) mfX10_26 rfl dX10_sets_68 ?_
            refine lv_aload_n S.1 S.2.1 dX10_sets_71 rfl (lv_at hl 1 rfl) ?_
            refine xget (v := .ref (a 12)) S hK hw 0 rfl rfl inX10 1 (by decide) mfX10_19 rfl dX10_sets_72 ?_
            refine xget (v := .ref (a 21)) S hK hw 12 rfl rfl inX0 1 (by decide) mfX10_138 rfl dX10_sets_75 ?_
            refine xcVv (rest := []) S hK hE hA hw yfX6_remember (c_k_Past_remember l D a Y ts _ (show (0 ≤ ((u.1 27 1)).toInt ∧ ((u.1 27 1)).toInt ≤ 9) from by omega)) 27 rfl rfl mlX10_172 rfl rfl hl.1 ⟨rfl, rfl, Nat.le_of_ble_eq_true rfl, Nat.le_of_ble_eq_true rfl, Nat.le_of_ble_eq_true rfl, Nat.zero_le _, Nat.zero_le _⟩ dX10_sets_78 (fun H locs hw => ?_)
            refine lv_aload_n S.1 S.2.1 dX10_sets_81 rfl (lv_at hl 1 rfl) ?_
            refine xget (v := .ref (a 12)) S hK hw 0 rfl rfl inX10 1 (by decide) mfX10_19 rfl dX10_sets_82 ?_
            refine xget (v := .ref (a 21)) S hK hw 12 rfl rfl inX0 1 (by decide) mfX10_138 rfl dX10_sets_85 ?_
            refine xget (v := .ref (a 26)) S hK hw 21 rfl rfl inX4 6 (by decide) mfX10_159 rfl dX10_sets_88 ?_
            refine lv_iload_n S.1 S.2.1 dX10_sets_91 rfl (lv_at hl 2 rfl) ?_
            refine lv_iload_n S.1 S.2.1 dX10_sets_92 rfl (lv_at hl 3 rfl) ?_
            refine xast S hK hw 26 0 rfl rfl (xvi rfl (by omega) (by omega)) (sC_26 _ _ _ _) dX10_sets_93 (fun H locs hw => ?_)
            refine lv_iload_n S.1 S.2.1 dX10_sets_94 rfl (lv_at hl 0 rfl) ?_
            refine xcP (rest := []) S hw yfX10_orNone (c_k_orNone l (u.1 26 (p1).toNatClampNeg)) mlX10_162 rfl rfl hl.1 ⟨rfl, rfl, Nat.le_of_ble_eq_true rfl, Nat.le_of_ble_eq_true rfl, Nat.le_of_ble_eq_true rfl, Nat.zero_le _, Nat.zero_le _⟩ dX10_sets_95 (fun H locs hw => ?_)
            exact xri S hr hlk hw hV dX10_sets_98
          · replace hV := hV.trans (if_neg c_12)
            have gc_12 : ¬ (p2).toInt = (-1) := xq_ne c_12 rfl rfl
            refine lv_aload_n S.1 S.2.1 dX10_sets_52 rfl (lv_at hl 1 rfl) ?_
            refine xget (v := .ref (a 12)) S hK hw 0 rfl rfl inX10 1 (by decide) mfX10_19 rfl dX10_sets_53 ?_
            refine lv_iload_n S.1 S.2.1 dX10_sets_56 rfl (lv_at hl 2 rfl) ?_
            refine lv_iload_n S.1 S.2.1 dX10_sets_57 rfl (lv_at hl 3 rfl) ?_
            refine xci (rest := []) S hK hE hA hw yfX0_may (c_k_Hall_may l D a Y ts _ p1 p2 (show (0 ≤ ((u.1 13 0)).toInt ∧ ((u.1 13 0)).toInt ≤ 8) from by omega) (show (0 ≤ ((u.1 13 1)).toInt ∧ ((u.1 13 1)).toInt ≤ 6) from by omega) (show 0 ≤ (p1).toInt ∧ (p1).toInt < 6 from by omega) (show 0 ≤ (p2).toInt ∧ (p2).toInt < 8 from by omega)) 12 rfl rfl mlX10_168 rfl rfl hl.1 ⟨rfl, rfl, Nat.le_of_ble_eq_true rfl, Nat.le_of_ble_eq_true rfl, Nat.le_of_ble_eq_true rfl, Nat.zero_le _, Nat.zero_le _⟩ dX10_sets_58 (fun H locs hw => ?_)
            refine lv_if_ne (tgt := 67) S.1 S.2.1 dX10_sets_61 (by decide) (fun c_15 => ?_) (fun c_15 => ?_)
            · replace hV := hV.trans (if_neg c_15)
              have gc_15 : ¬ ((b2i (k_Hall_may u p1 p2))).toInt = 0 := xq_ne c_15 rfl rfl
              refine lv_aload_n S.1 S.2.1 dX10_sets_67 rfl (lv_at hl 1 rfl) ?_
              refine xget (v := .ref (a 27)) S hK hw 0 rfl rfl inX10 2 (by decide) mfX10_26 rfl dX10_sets_68 ?_
              refine lv_aload_n S.1 S.2.1 dX10_sets_71 rfl (lv_at hl 1 rfl) ?_
              refine xget (v := .ref (a 12)) S hK hw 0 rfl rfl inX10 1 (by decide) mfX10_19 rfl dX10_sets_72 ?_
              refine xget (v := .ref (a 21)) S hK hw 12 rfl rfl inX0 1 (by decide) mfX10_138 rfl dX10_sets_75 ?_
              refine xcVv (rest := []) S hK hE hA hw yfX6_remember (c_k_Past_remember l D a Y ts _ (show (0 ≤ ((u.1 27 1)).toInt ∧ ((u.1 27 1)).toInt ≤ 9) from by omega)) 27 rfl rfl mlX10_172 rfl rfl hl.1 ⟨rfl, rfl, Nat.le_of_ble_eq_true rfl, Nat.le_of_ble_eq_true rfl, Nat.le_of_ble_eq_true rfl, Nat.zero_le _, Nat.zero_le _⟩ dX10_sets_78 (fun H locs hw => ?_)
              refine lv_aload_n S.1 S.2.1 dX10_sets_81 rfl (lv_at hl 1 rfl) ?_
              refine xget (v := .ref (a 12)) S hK hw 0 rfl rfl inX10 1 (by decide) mfX10_19 rfl dX10_sets_82 ?_
              refine xget (v := .ref (a 21)) S hK hw 12 rfl rfl inX0 1 (by decide) mfX10_138 rfl dX10_sets_85 ?_
              refine xget (v := .ref (a 26)) S hK hw 21 rfl rfl inX4 6 (by decide) mfX10_159 rfl dX10_sets_88 ?_
              refine lv_iload_n S.1 S.2.1 dX10_sets_91 rfl (lv_at hl 2 rfl) ?_
              refine lv_iload_n S.1 S.2.1 dX10_sets_92 rfl (lv_at hl 3 rfl) ?_
              refine xast S hK hw 26 0 rfl rfl (xvi rfl (by omega) (by omega)) (sC_26 _ _ _ _) dX10_sets_93 (fun H locs hw => ?_)
              refine lv_iload_n S.1 S.2.1 dX10_sets_94 rfl (lv_at hl 0 rfl) ?_
              refine xcP (rest := []) S hw yfX10_orNone (c_k_orNone l (u.1 26 (p1).toNatClampNeg)) mlX10_162 rfl rfl hl.1 ⟨rfl, rfl, Nat.le_of_ble_eq_true rfl, Nat.le_of_ble_eq_true rfl, Nat.le_of_ble_eq_true rfl, Nat.zero_le _, Nat.zero_le _⟩ dX10_sets_95 (fun H locs hw => ?_)
              exact xri S hr hlk hw hV dX10_sets_98
            · replace hV := hV.trans (if_pos c_15)
              have gc_15 : ((b2i (k_Hall_may u p1 p2))).toInt = 0 := xq_eq c_15 rfl rfl
              refine lv_bipush (v := -2) S.1 S.2.1 dX10_sets_64 (by decide) ?_
              exact xri S hr hlk hw hV dX10_sets_66
      · replace hV := hV.trans (if_pos c_10)
        have gc_10 : ((b2i (k_Hall_isThing u p2))).toInt = 0 := xq_eq c_10 rfl rfl
        refine lv_iconst (v := -1) S.1 S.2.1 dX10_sets_27 (by decide) ?_
        exact xri S hr hlk hw hV dX10_sets_28
noncomputable def k_undo_b (u : xU) : Int32 × xU :=
    (if (u.1 27 2) = (0 : Int32) then
    ((-2 : Int32), u)
    else
    let r_2 := k_Past_recall u
    ((r_2.1 27 2), r_2))
theorem k_undo_x : ∃ f : xU → Int32 × xU, f = k_undo_b := ⟨_, rfl⟩
noncomputable def k_undo : xU → Int32 × xU := k_undo_x.choose
theorem k_undo_def : k_undo = k_undo_b := k_undo_x.choose_spec
set_option maxHeartbeats 4000000 in
set_option maxRecDepth 100000 in
theorem c_k_undo (l : Launch) (D : va_G) (a : Nat → Nat) (Y : Nat → ClassId) (ts : Nat → Nat) (u : xU) (hN : (0 ≤ ((u.1 27 1)).toInt ∧ ((u.1 27 1)).toInt ≤ 9)) : xMi l yX10_undo cX10_undo 1 (some .int) (xRm 3 104) D (xty Y) (wC a Y) ts [.ref (a 0)] u ((k_undo u).1, (k_undo u).2) := by
  suffices h : ∀ V, V = k_undo_b u → xMi l yX10_undo cX10_undo 1 (some .int) (xRm 3 104) D (xty Y) (wC a Y) ts [.ref (a 0)] u (V.1, V.2) from h _ (by rw [k_undo_def])
  intro V hV
  refine xofi RX10 rfl (by decide) (Nat.le_of_ble_eq_true rfl) ?_
  intro p e s m args below meth c ls H locs A S hr hlk hl hK hE hA hw
  have hl : lv_has ls 1 [(0, .ref (a 0))] := hl
  refine lv_aload_n S.1 S.2.1 dX10_undo_0 rfl (lv_at hl 0 rfl) ?_
  refine xget (v := .ref (a 27)) S hK hw 0 rfl rfl inX10 2 (by decide) mfX10_26 rfl dX10_undo_1 ?_
  refine xget (v := .int (u.1 27 2)) S hK hw 27 rfl rfl inX6 2 (by decide) mfX10_90 rfl dX10_undo_4 ?_
  refine lv_if_ne (tgt := 13) S.1 S.2.1 dX10_undo_7 (by decide) (fun c_1 => ?_) (fun c_1 => ?_)
  · replace hV := hV.trans (if_neg c_1)
    have gc_1 : ¬ ((u.1 27 2)).toInt = 0 := xq_ne c_1 rfl rfl
    refine lv_aload_n S.1 S.2.1 dX10_undo_13 rfl (lv_at hl 0 rfl) ?_
    refine xget (v := .ref (a 27)) S hK hw 0 rfl rfl inX10 2 (by decide) mfX10_26 rfl dX10_undo_14 ?_
    refine lv_aload_n S.1 S.2.1 dX10_undo_17 rfl (lv_at hl 0 rfl) ?_
    refine xget (v := .ref (a 12)) S hK hw 0 rfl rfl inX10 1 (by decide) mfX10_19 rfl dX10_undo_18 ?_
    refine xget (v := .ref (a 21)) S hK hw 12 rfl rfl inX0 1 (by decide) mfX10_138 rfl dX10_undo_21 ?_
    refine xcVv (rest := []) S hK hE hA hw yfX6_recall (c_k_Past_recall l D a Y ts _ (show (0 ≤ ((u.1 27 1)).toInt ∧ ((u.1 27 1)).toInt ≤ 9) from by omega)) 27 rfl rfl mlX10_197 rfl rfl hl.1 ⟨rfl, rfl, Nat.le_of_ble_eq_true rfl, Nat.le_of_ble_eq_true rfl, Nat.le_of_ble_eq_true rfl, Nat.zero_le _, Nat.zero_le _⟩ dX10_undo_24 (fun H locs hw => ?_)
    refine lv_aload_n S.1 S.2.1 dX10_undo_27 rfl (lv_at hl 0 rfl) ?_
    refine xget (v := .ref (a 27)) S hK hw 0 rfl rfl inX10 2 (by decide) mfX10_26 rfl dX10_undo_28 ?_
    refine xget (v := .int ((k_Past_recall u).1 27 2)) S hK hw 27 rfl rfl inX6 2 (by decide) mfX10_90 rfl dX10_undo_31 ?_
    exact xri S hr hlk hw hV dX10_undo_34
  · replace hV := hV.trans (if_pos c_1)
    have gc_1 : ((u.1 27 2)).toInt = 0 := xq_eq c_1 rfl rfl
    refine lv_bipush (v := -2) S.1 S.2.1 dX10_undo_10 (by decide) ?_
    exact xri S hr hlk hw hV dX10_undo_12
noncomputable def k_plan_b (u : xU) (p1 : Int32) (p2 : Int32) (p3 : Int32) : Int32 × xU :=
    (if (b2i (k_Hall_isCast u p1)) = (0 : Int32) then
    ((-1 : Int32), u)
    else
    (if (b2i (k_Hall_isThing u p2)) = (0 : Int32) then
    ((-1 : Int32), u)
    else
    (if p3 < (-3 : Int32) then
    ((-1 : Int32), u)
    else
    (if p3 < (8 : Int32) then
    let r_5 := k_Planner_reckon u p1
    (if (k_Planner_toLearnFor u p1 p2) = (0 : Int32) then
    (if p3 = -3 then
    ((k_Planner_cracksOf r_5 (k_Planner_toLearnFor u p1 p2)), r_5)
    else
    (if p3 = -2 then
    ((k_Planner_nightsOf r_5 (k_Planner_toLearnFor u p1 p2)), r_5)
    else
    (if p3 = -1 then
    ((k_Planner_toLearnFor u p1 p2), r_5)
    else
    ((k_Planner_learntAt r_5 (k_Planner_toLearnFor u p1 p2) p3), r_5))))
    else
    (if (b2i (k_Planner_bears r_5 p1 (k_Planner_toLearnFor u p1 p2))) = (0 : Int32) then
    ((-9 : Int32), r_5)
    else
    (if p3 = -3 then
    ((k_Planner_cracksOf r_5 (k_Planner_toLearnFor u p1 p2)), r_5)
    else
    (if p3 = -2 then
    ((k_Planner_nightsOf r_5 (k_Planner_toLearnFor u p1 p2)), r_5)
    else
    (if p3 = -1 then
    ((k_Planner_toLearnFor u p1 p2), r_5)
    else
    ((k_Planner_learntAt r_5 (k_Planner_toLearnFor u p1 p2) p3), r_5))))))
    else
    ((-1 : Int32), u)))))
theorem k_plan_x : ∃ f : xU → Int32 → Int32 → Int32 → Int32 × xU, f = k_plan_b := ⟨_, rfl⟩
noncomputable def k_plan : xU → Int32 → Int32 → Int32 → Int32 × xU := k_plan_x.choose
theorem k_plan_def : k_plan = k_plan_b := k_plan_x.choose_spec
set_option maxHeartbeats 4000000 in
set_option maxRecDepth 100000 in
theorem c_k_plan (l : Launch) (D : va_G) (a : Nat → Nat) (Y : Nat → ClassId) (ts : Nat → Nat) (u : xU) (p1 : Int32) (p2 : Int32) (p3 : Int32) (hT : (0 ≤ ((u.1 13 0)).toInt ∧ ((u.1 13 0)).toInt ≤ 8)) (hC : (0 ≤ ((u.1 13 1)).toInt ∧ ((u.1 13 1)).toInt ≤ 6)) : xMi l yX10_plan cX10_plan 5 (some .int) (xRm 4 88) D (xty Y) (wC a Y) ts [.ref (a 0), .int p1, .int p2, .int p3] u ((k_plan u p1 p2 p3).1, (k_plan u p1 p2 p3).2) := by
  suffices h : ∀ V, V = k_plan_b u p1 p2 p3 → xMi l yX10_plan cX10_plan 5 (some .int) (xRm 4 88) D (xty Y) (wC a Y) ts [.ref (a 0), .int p1, .int p2, .int p3] u (V.1, V.2) from h _ (by rw [k_plan_def])
  intro V hV
  refine xofi RX10 rfl (by decide) (Nat.le_of_ble_eq_true rfl) ?_
  intro p e s m args below meth c ls H locs A S hr hlk hl hK hE hA hw
  have hl : lv_has ls 5 [(0, .ref (a 0)), (1, .int p1), (2, .int p2), (3, .int p3)] := hl
  refine lv_aload_n S.1 S.2.1 dX10_plan_0 rfl (lv_at hl 0 rfl) ?_
  refine xget (v := .ref (a 12)) S hK hw 0 rfl rfl inX10 1 (by decide) mfX10_19 rfl dX10_plan_1 ?_
  refine lv_iload_n S.1 S.2.1 dX10_plan_4 rfl (lv_at hl 1 rfl) ?_
  refine xci (rest := []) S hK hE hA hw yfX0_isCast (c_k_Hall_isCast l D a Y ts _ p1 (show (0 ≤ ((u.1 13 0)).toInt ∧ ((u.1 13 0)).toInt ≤ 8) from by (first | omega | (simp only [kp_reckon13]; omega))) (show (0 ≤ ((u.1 13 1)).toInt ∧ ((u.1 13 1)).toInt ≤ 6) from by (first | omega | (simp only [kp_reckon13]; omega)))) 12 rfl rfl mlX10_129 rfl rfl hl.1 ⟨rfl, rfl, Nat.le_of_ble_eq_true rfl, Nat.le_of_ble_eq_true rfl, Nat.le_of_ble_eq_true rfl, Nat.zero_le _, Nat.zero_le _⟩ dX10_plan_5 (fun H locs hw => ?_)
  refine lv_if_eq (tgt := 34) S.1 S.2.1 dX10_plan_8 (by decide) (fun c_1 => ?_) (fun c_1 => ?_)
  · replace hV := hV.trans (if_pos c_1)
    have gc_1 : ((b2i (k_Hall_isCast u p1))).toInt = 0 := xq_eq c_1 rfl rfl
    refine lv_iconst (v := -1) S.1 S.2.1 dX10_plan_34 (by decide) ?_
    exact xri S hr hlk hw hV dX10_plan_35
  · replace hV := hV.trans (if_neg c_1)
    have gc_1 : ¬ ((b2i (k_Hall_isCast u p1))).toInt = 0 := xq_ne c_1 rfl rfl
    have fc_1 := hk_isCast c_1
    refine lv_aload_n S.1 S.2.1 dX10_plan_11 rfl (lv_at hl 0 rfl) ?_
    refine xget (v := .ref (a 12)) S hK hw 0 rfl rfl inX10 1 (by decide) mfX10_19 rfl dX10_plan_12 ?_
    refine lv_iload_n S.1 S.2.1 dX10_plan_15 rfl (lv_at hl 2 rfl) ?_
    refine xci (rest := []) S hK hE hA hw yfX0_isThing (c_k_Hall_isThing l D a Y ts _ p2 (show (0 ≤ ((u.1 13 0)).toInt ∧ ((u.1 13 0)).toInt ≤ 8) from by (first | omega | (simp only [kp_reckon13]; omega))) (show (0 ≤ ((u.1 13 1)).toInt ∧ ((u.1 13 1)).toInt ≤ 6) from by (first | omega | (simp only [kp_reckon13]; omega)))) 12 rfl rfl mlX10_109 rfl rfl hl.1 ⟨rfl, rfl, Nat.le_of_ble_eq_true rfl, Nat.le_of_ble_eq_true rfl, Nat.le_of_ble_eq_true rfl, Nat.zero_le _, Nat.zero_le _⟩ dX10_plan_16 (fun H locs hw => ?_)
    refine lv_if_eq (tgt := 34) S.1 S.2.1 dX10_plan_19 (by decide) (fun c_2 => ?_) (fun c_2 => ?_)
    · replace hV := hV.trans (if_pos c_2)
      have gc_2 : ((b2i (k_Hall_isThing u p2))).toInt = 0 := xq_eq c_2 rfl rfl
      refine lv_iconst (v := -1) S.1 S.2.1 dX10_plan_34 (by decide) ?_
      exact xri S hr hlk hw hV dX10_plan_35
    · replace hV := hV.trans (if_neg c_2)
      have gc_2 : ¬ ((b2i (k_Hall_isThing u p2))).toInt = 0 := xq_ne c_2 rfl rfl
      have fc_2 := hk_isThing c_2
      refine lv_iload_n S.1 S.2.1 dX10_plan_22 rfl (lv_at hl 3 rfl) ?_
      refine lv_bipush (v := -3) S.1 S.2.1 dX10_plan_23 (by decide) ?_
      refine lv_icmp_lt (tgt := 34) S.1 S.2.1 dX10_plan_25 (by decide) (fun c_3 => ?_) (fun c_3 => ?_)
      · replace hV := hV.trans (if_pos c_3)
        have gc_3 : (p3).toInt < (-3) := xq_lt c_3 rfl rfl
        refine lv_iconst (v := -1) S.1 S.2.1 dX10_plan_34 (by decide) ?_
        exact xri S hr hlk hw hV dX10_plan_35
      · replace hV := hV.trans (if_neg c_3)
        have gc_3 : (-3) ≤ (p3).toInt := xq_nlt c_3 rfl rfl
        refine lv_iload_n S.1 S.2.1 dX10_plan_28 rfl (lv_at hl 3 rfl) ?_
        refine lv_bipush (v := 8) S.1 S.2.1 dX10_plan_29 (by decide) ?_
        refine lv_icmp_lt (tgt := 36) S.1 S.2.1 dX10_plan_31 (by decide) (fun c_4 => ?_) (fun c_4 => ?_)
        · replace hV := hV.trans (if_pos c_4)
          have gc_4 : (p3).toInt < 8 := xq_lt c_4 rfl rfl
          refine lv_aload_n S.1 S.2.1 dX10_plan_36 rfl (lv_at hl 0 rfl) ?_
          refine xget (v := .ref (a 38)) S hK hw 0 rfl rfl inX10 4 (by decide) mfX10_42 rfl dX10_plan_37 ?_
          refine lv_iload_n S.1 S.2.1 dX10_plan_40 rfl (lv_at hl 1 rfl) ?_
          refine lv_iload_n S.1 S.2.1 dX10_plan_41 rfl (lv_at hl 2 rfl) ?_
          refine xci (rest := []) S hK hE hA hw yfX7_toLearnFor (c_k_Planner_toLearnFor l D a Y ts _ p1 p2 (show (0 ≤ ((u.1 13 0)).toInt ∧ ((u.1 13 0)).toInt ≤ 8) from by (first | omega | (simp only [kp_reckon13]; omega))) (show (0 ≤ ((u.1 13 1)).toInt ∧ ((u.1 13 1)).toInt ≤ 6) from by (first | omega | (simp only [kp_reckon13]; omega))) (show 0 ≤ (p1).toInt ∧ (p1).toInt < 6 from by (first | omega | (simp only [kp_reckon13]; omega))) (show 0 ≤ (p2).toInt ∧ (p2).toInt < 8 from by (first | omega | (simp only [kp_reckon13]; omega)))) 38 rfl rfl mlX10_210 rfl rfl hl.1 ⟨rfl, rfl, Nat.le_of_ble_eq_true rfl, Nat.le_of_ble_eq_true rfl, Nat.le_of_ble_eq_true rfl, Nat.zero_le _, Nat.zero_le _⟩ dX10_plan_42 (fun H locs hw => ?_)
          refine lv_istore (lv' := [(4, .int (k_Planner_toLearnFor u p1 p2)), (0, .ref (a 0)), (1, .int p1), (2, .int p2), (3, .int p3)]) S.1 S.2.1 dX10_plan_45 hl (by decide) rfl (fun ls hl => ?_)
          refine lv_aload_n S.1 S.2.1 dX10_plan_47 rfl (lv_at hl 1 rfl) ?_
          refine xget (v := .ref (a 38)) S hK hw 0 rfl rfl inX10 4 (by decide) mfX10_42 rfl dX10_plan_48 ?_
          refine lv_iload_n S.1 S.2.1 dX10_plan_51 rfl (lv_at hl 2 rfl) ?_
          refine xcVv (rest := []) S hK hE hA hw yfX7_reckon (c_k_Planner_reckon l D a Y ts _ p1 (show (0 ≤ ((u.1 13 0)).toInt ∧ ((u.1 13 0)).toInt ≤ 8) from by (first | omega | (simp only [kp_reckon13]; omega))) (show (0 ≤ ((u.1 13 1)).toInt ∧ ((u.1 13 1)).toInt ≤ 6) from by (first | omega | (simp only [kp_reckon13]; omega))) (show 0 ≤ (p1).toInt ∧ (p1).toInt < 6 from by (first | omega | (simp only [kp_reckon13]; omega)))) 38 rfl rfl mlX10_214 rfl rfl hl.1 ⟨rfl, rfl, Nat.le_of_ble_eq_true rfl, Nat.le_of_ble_eq_true rfl, Nat.le_of_ble_eq_true rfl, Nat.zero_le _, Nat.zero_le _⟩ dX10_plan_52 (fun H locs hw => ?_)
          refine lv_iload S.1 S.2.1 dX10_plan_55 (lv_at hl 0 rfl) ?_
          refine lv_if_eq (tgt := 76) S.1 S.2.1 dX10_plan_57 (by decide) (fun c_6 => ?_) (fun c_6 => ?_)
          · replace hV := hV.trans (if_pos c_6)
            have gc_6 : ((k_Planner_toLearnFor u p1 p2)).toInt = 0 := xq_eq c_6 rfl rfl
            refine lv_iload_n S.1 S.2.1 dX10_plan_76 rfl (lv_at hl 4 rfl) ?_
            by_cases c_7 : p3 = -3
            · replace hV := hV.trans (if_pos c_7)
              have gc_7 : (p3).toInt = -3 := xq_eq c_7 rfl rfl
              refine lv_tableIn (tgt := 117) S.1 S.2.1 dX10_plan_77 (by rw [c_7]; decide) (by rw [c_7]; decide) (by rw [c_7]; rfl) (by decide) ?_
              refine lv_aload_n S.1 S.2.1 dX10_plan_117 rfl (lv_at hl 1 rfl) ?_
              refine xget (v := .ref (a 38)) S hK hw 0 rfl rfl inX10 4 (by decide) mfX10_42 rfl dX10_plan_118 ?_
              refine lv_iload S.1 S.2.1 dX10_plan_121 (lv_at hl 0 rfl) ?_
              refine xci (rest := []) S hK hE hA hw yfX7_cracksOf (c_k_Planner_cracksOf l D a Y ts _ (k_Planner_toLearnFor u p1 p2) (show (0 ≤ (((k_Planner_reckon u p1).1 13 0)).toInt ∧ (((k_Planner_reckon u p1).1 13 0)).toInt ≤ 8) from by (first | omega | (simp only [kp_reckon13]; omega))) (show (0 ≤ (((k_Planner_reckon u p1).1 13 1)).toInt ∧ (((k_Planner_reckon u p1).1 13 1)).toInt ≤ 6) from by (first | omega | (simp only [kp_reckon13]; omega)))) 38 rfl rfl mlX10_224 rfl rfl hl.1 ⟨rfl, rfl, Nat.le_of_ble_eq_true rfl, Nat.le_of_ble_eq_true rfl, Nat.le_of_ble_eq_true rfl, Nat.zero_le _, Nat.zero_le _⟩ dX10_plan_123 (fun H locs hw => ?_)
              exact xri S hr hlk hw hV dX10_plan_126
            replace hV := hV.trans (if_neg c_7)
            by_cases c_8 : p3 = -2
            · replace hV := hV.trans (if_pos c_8)
              have gc_8 : (p3).toInt = -2 := xq_eq c_8 rfl rfl
              refine lv_tableIn (tgt := 107) S.1 S.2.1 dX10_plan_77 (by rw [c_8]; decide) (by rw [c_8]; decide) (by rw [c_8]; rfl) (by decide) ?_
              refine lv_aload_n S.1 S.2.1 dX10_plan_107 rfl (lv_at hl 1 rfl) ?_
              refine xget (v := .ref (a 38)) S hK hw 0 rfl rfl inX10 4 (by decide) mfX10_42 rfl dX10_plan_108 ?_
              refine lv_iload S.1 S.2.1 dX10_plan_111 (lv_at hl 0 rfl) ?_
              refine xci (rest := []) S hK hE hA hw yfX7_nightsOf (c_k_Planner_nightsOf l D a Y ts _ (k_Planner_toLearnFor u p1 p2) (show (0 ≤ (((k_Planner_reckon u p1).1 13 0)).toInt ∧ (((k_Planner_reckon u p1).1 13 0)).toInt ≤ 8) from by (first | omega | (simp only [kp_reckon13]; omega))) (show (0 ≤ (((k_Planner_reckon u p1).1 13 1)).toInt ∧ (((k_Planner_reckon u p1).1 13 1)).toInt ≤ 6) from by (first | omega | (simp only [kp_reckon13]; omega)))) 38 rfl rfl mlX10_221 rfl rfl hl.1 ⟨rfl, rfl, Nat.le_of_ble_eq_true rfl, Nat.le_of_ble_eq_true rfl, Nat.le_of_ble_eq_true rfl, Nat.zero_le _, Nat.zero_le _⟩ dX10_plan_113 (fun H locs hw => ?_)
              exact xri S hr hlk hw hV dX10_plan_116
            replace hV := hV.trans (if_neg c_8)
            by_cases c_9 : p3 = -1
            · replace hV := hV.trans (if_pos c_9)
              have gc_9 : (p3).toInt = -1 := xq_eq c_9 rfl rfl
              refine lv_tableIn (tgt := 104) S.1 S.2.1 dX10_plan_77 (by rw [c_9]; decide) (by rw [c_9]; decide) (by rw [c_9]; rfl) (by decide) ?_
              refine lv_iload S.1 S.2.1 dX10_plan_104 (lv_at hl 0 rfl) ?_
              exact xri S hr hlk hw hV dX10_plan_106
            replace hV := hV.trans (if_neg c_9)
            have gc_7 : ¬ (p3).toInt = -3 := xq_ne c_7 rfl rfl
            have gc_8 : ¬ (p3).toInt = -2 := xq_ne c_8 rfl rfl
            have gc_9 : ¬ (p3).toInt = -1 := xq_ne c_9 rfl rfl
            refine lv_tableOut (tgt := 127) S.1 S.2.1 dX10_plan_77 (by omega) (by decide) ?_
            refine lv_aload_n S.1 S.2.1 dX10_plan_127 rfl (lv_at hl 1 rfl) ?_
            refine xget (v := .ref (a 38)) S hK hw 0 rfl rfl inX10 4 (by decide) mfX10_42 rfl dX10_plan_128 ?_
            refine lv_iload S.1 S.2.1 dX10_plan_131 (lv_at hl 0 rfl) ?_
            refine lv_iload_n S.1 S.2.1 dX10_plan_133 rfl (lv_at hl 4 rfl) ?_
            refine xci (rest := []) S hK hE hA hw yfX7_learntAt (c_k_Planner_learntAt l D a Y ts _ (k_Planner_toLearnFor u p1 p2) p3 (show (0 ≤ (((k_Planner_reckon u p1).1 13 0)).toInt ∧ (((k_Planner_reckon u p1).1 13 0)).toInt ≤ 8) from by (first | omega | (simp only [kp_reckon13]; omega))) (show (0 ≤ (((k_Planner_reckon u p1).1 13 1)).toInt ∧ (((k_Planner_reckon u p1).1 13 1)).toInt ≤ 6) from by (first | omega | (simp only [kp_reckon13]; omega)))) 38 rfl rfl mlX10_227 rfl rfl hl.1 ⟨rfl, rfl, Nat.le_of_ble_eq_true rfl, Nat.le_of_ble_eq_true rfl, Nat.le_of_ble_eq_true rfl, Nat.zero_le _, Nat.zero_le _⟩ dX10_plan_134 (fun H locs hw => ?_)
            exact xri S hr hlk hw hV dX10_plan_137
          · replace hV := hV.trans (if_neg c_6)
            have gc_6 : ¬ ((k_Planner_toLearnFor u p1 p2)).toInt = 0 := xq_ne c_6 rfl rfl
            refine lv_aload_n S.1 S.2.1 dX10_plan_60 rfl (lv_at hl 1 rfl) ?_
            refine xget (v := .ref (a 38)) S hK hw 0 rfl rfl inX10 4 (by decide) mfX10_42 rfl dX10_plan_61 ?_
            refine lv_iload_n S.1 S.2.1 dX10_plan_64 rfl (lv_at hl 2 rfl) ?_
            refine lv_iload S.1 S.2.1 dX10_plan_65 (lv_at hl 0 rfl) ?_
            refine xci (rest := []) S hK hE hA hw yfX7_bears (c_k_Planner_bears l D a Y ts _ p1 (k_Planner_toLearnFor u p1 p2) (show (0 ≤ (((k_Planner_reckon u p1).1 13 0)).toInt ∧ (((k_Planner_reckon u p1).1 13 0)).toInt ≤ 8) from by (first | omega | (simp only [kp_reckon13]; omega))) (show (0 ≤ (((k_Planner_reckon u p1).1 13 1)).toInt ∧ (((k_Planner_reckon u p1).1 13 1)).toInt ≤ 6) from by (first | omega | (simp only [kp_reckon13]; omega))) (show 0 ≤ (p1).toInt ∧ (p1).toInt < 6 from by (first | omega | (simp only [kp_reckon13]; omega)))) 38 rfl rfl mlX10_218 rfl rfl hl.1 ⟨rfl, rfl, Nat.le_of_ble_eq_true rfl, Nat.le_of_ble_eq_true rfl, Nat.le_of_ble_eq_true rfl, Nat.zero_le _, Nat.zero_le _⟩ dX10_plan_67 (fun H locs hw => ?_)
            refine lv_if_ne (tgt := 76) S.1 S.2.1 dX10_plan_70 (by decide) (fun c_10 => ?_) (fun c_10 => ?_)
            · replace hV := hV.trans (if_neg c_10)
              have gc_10 : ¬ ((b2i (k_Planner_bears (k_Planner_reckon u p1) p1 (k_Planner_toLearnFor u p1 p2)))).toInt = 0 := xq_ne c_10 rfl rfl
              refine lv_iload_n S.1 S.2.1 dX10_plan_76 rfl (lv_at hl 4 rfl) ?_
              by_cases c_11 : p3 = -3
              · replace hV := hV.trans (if_pos c_11)
                have gc_11 : (p3).toInt = -3 := xq_eq c_11 rfl rfl
                refine lv_tableIn (tgt := 117) S.1 S.2.1 dX10_plan_77 (by rw [c_11]; decide) (by rw [c_11]; decide) (by rw [c_11]; rfl) (by decide) ?_
                refine lv_aload_n S.1 S.2.1 dX10_plan_117 rfl (lv_at hl 1 rfl) ?_
                refine xget (v := .ref (a 38)) S hK hw 0 rfl rfl inX10 4 (by decide) mfX10_42 rfl dX10_plan_118 ?_
                refine lv_iload S.1 S.2.1 dX10_plan_121 (lv_at hl 0 rfl) ?_
                refine xci (rest := []) S hK hE hA hw yfX7_cracksOf (c_k_Planner_cracksOf l D a Y ts _ (k_Planner_toLearnFor u p1 p2) (show (0 ≤ (((k_Planner_reckon u p1).1 13 0)).toInt ∧ (((k_Planner_reckon u p1).1 13 0)).toInt ≤ 8) from by (first | omega | (simp only [kp_reckon13]; omega))) (show (0 ≤ (((k_Planner_reckon u p1).1 13 1)).toInt ∧ (((k_Planner_reckon u p1).1 13 1)).toInt ≤ 6) from by (first | omega | (simp only [kp_reckon13]; omega)))) 38 rfl rfl mlX10_224 rfl rfl hl.1 ⟨rfl, rfl, Nat.le_of_ble_eq_true rfl, Nat.le_of_ble_eq_true rfl, Nat.le_of_ble_eq_true rfl, Nat.zero_le _, Nat.zero_le _⟩ dX10_plan_123 (fun H locs hw => ?_)
                exact xri S hr hlk hw hV dX10_plan_126
              replace hV := hV.trans (if_neg c_11)
              by_cases c_12 : p3 = -2
              · replace hV := hV.trans (if_pos c_12)
                have gc_12 : (p3).toInt = -2 := xq_eq c_12 rfl rfl
                refine lv_tableIn (tgt := 107) S.1 S.2.1 dX10_plan_77 (by rw [c_12]; decide) (by rw [c_12]; decide) (by rw [c_12]; rfl) (by decide) ?_
                refine lv_aload_n S.1 S.2.1 dX10_plan_107 rfl (lv_at hl 1 rfl) ?_
                refine xget (v := .ref (a 38)) S hK hw 0 rfl rfl inX10 4 (by decide) mfX10_42 rfl dX10_plan_108 ?_
                refine lv_iload S.1 S.2.1 dX10_plan_111 (lv_at hl 0 rfl) ?_
                refine xci (rest := []) S hK hE hA hw yfX7_nightsOf (c_k_Planner_nightsOf l D a Y ts _ (k_Planner_toLearnFor u p1 p2) (show (0 ≤ (((k_Planner_reckon u p1).1 13 0)).toInt ∧ (((k_Planner_reckon u p1).1 13 0)).toInt ≤ 8) from by (first | omega | (simp only [kp_reckon13]; omega))) (show (0 ≤ (((k_Planner_reckon u p1).1 13 1)).toInt ∧ (((k_Planner_reckon u p1).1 13 1)).toInt ≤ 6) from by (first | omega | (simp only [kp_reckon13]; omega)))) 38 rfl rfl mlX10_221 rfl rfl hl.1 ⟨rfl, rfl, Nat.le_of_ble_eq_true rfl, Nat.le_of_ble_eq_true rfl, Nat.le_of_ble_eq_true rfl, Nat.zero_le _, Nat.zero_le _⟩ dX10_plan_113 (fun H locs hw => ?_)
                exact xri S hr hlk hw hV dX10_plan_116
              replace hV := hV.trans (if_neg c_12)
              by_cases c_13 : p3 = -1
              · replace hV := hV.trans (if_pos c_13)
                have gc_13 : (p3).toInt = -1 := xq_eq c_13 rfl rfl
                refine lv_tableIn (tgt := 104) S.1 S.2.1 dX10_plan_77 (by rw [c_13]; decide) (by rw [c_13]; decide) (by rw [c_13]; rfl) (by decide) ?_
                refine lv_iload S.1 S.2.1 dX10_plan_104 (lv_at hl 0 rfl) ?_
                exact xri S hr hlk hw hV dX10_plan_106
              replace hV := hV.trans (if_neg c_13)
              have gc_11 : ¬ (p3).toInt = -3 := xq_ne c_11 rfl rfl
              have gc_12 : ¬ (p3).toInt = -2 := xq_ne c_12 rfl rfl
              have gc_13 : ¬ (p3).toInt = -1 := xq_ne c_13 rfl rfl
              refine lv_tableOut (tgt := 127) S.1 S.2.1 dX10_plan_77 (by omega) (by decide) ?_
              refine lv_aload_n S.1 S.2.1 dX10_plan_127 rfl (lv_at hl 1 rfl) ?_
              refine xget (v := .ref (a 38)) S hK hw 0 rfl rfl inX10 4 (by decide) mfX10_42 rfl dX10_plan_128 ?_
              refine lv_iload S.1 S.2.1 dX10_plan_131 (lv_at hl 0 rfl) ?_
              refine lv_iload_n S.1 S.2.1 dX10_plan_133 rfl (lv_at hl 4 rfl) ?_
              refine xci (rest := []) S hK hE hA hw yfX7_learntAt (c_k_Planner_learntAt l D a Y ts _ (k_Planner_toLearnFor u p1 p2) p3 (show (0 ≤ (((k_Planner_reckon u p1).1 13 0)).toInt ∧ (((k_Planner_reckon u p1).1 13 0)).toInt ≤ 8) from by (first | omega | (simp only [kp_reckon13]; omega))) (show (0 ≤ (((k_Planner_reckon u p1).1 13 1)).toInt ∧ (((k_Planner_reckon u p1).1 13 1)).toInt ≤ 6) from by (first | omega | (simp only [kp_reckon13]; omega)))) 38 rfl rfl mlX10_227 rfl rfl hl.1 ⟨rfl, rfl, Nat.le_of_ble_eq_true rfl, Nat.le_of_ble_eq_true rfl, Nat.le_of_ble_eq_true rfl, Nat.zero_le _, Nat.zero_le _⟩ dX10_plan_134 (fun H locs hw => ?_)
              exact xri S hr hlk hw hV dX10_plan_137
            · replace hV := hV.trans (if_pos c_10)
              have gc_10 : ((b2i (k_Planner_bears (k_Planner_reckon u p1) p1 (k_Planner_toLearnFor u p1 p2)))).toInt = 0 := xq_eq c_10 rfl rfl
              refine lv_bipush (v := -9) S.1 S.2.1 dX10_plan_73 (by decide) ?_
              exact xri S hr hlk hw hV dX10_plan_75
        · replace hV := hV.trans (if_neg c_4)
          have gc_4 : 8 ≤ (p3).toInt := xq_nlt c_4 rfl rfl
          refine lv_iconst (v := -1) S.1 S.2.1 dX10_plan_34 (by decide) ?_
          exact xri S hr hlk hw hV dX10_plan_35
noncomputable def k_own_b (u : xU) (p1 : Int32) : Int32 × xU :=
    (if p1 = (-1 : Int32) then
    let r_2 := k_Owners_weigh u
    (if p1 = (-1 : Int32) then
    ((k_Owners_mostSet r_2), r_2)
    else
    ((k_Owners_thingOf r_2 p1), r_2))
    else
    (if (b2i (k_Hall_isCast u p1)) = (0 : Int32) then
    ((-1 : Int32), u)
    else
    let r_5 := k_Owners_weigh u
    (if p1 = (-1 : Int32) then
    ((k_Owners_mostSet r_5), r_5)
    else
    ((k_Owners_thingOf r_5 p1), r_5))))
theorem k_own_x : ∃ f : xU → Int32 → Int32 × xU, f = k_own_b := ⟨_, rfl⟩
noncomputable def k_own : xU → Int32 → Int32 × xU := k_own_x.choose
theorem k_own_def : k_own = k_own_b := k_own_x.choose_spec
set_option maxHeartbeats 4000000 in
set_option maxRecDepth 100000 in
theorem c_k_own (l : Launch) (D : va_G) (a : Nat → Nat) (Y : Nat → ClassId) (ts : Nat → Nat) (u : xU) (p1 : Int32) (hT : (0 ≤ ((u.1 13 0)).toInt ∧ ((u.1 13 0)).toInt ≤ 8)) (hC : (0 ≤ ((u.1 13 1)).toInt ∧ ((u.1 13 1)).toInt ≤ 6)) : xMi l yX10_own cX10_own 2 (some .int) (xRm 5 112) D (xty Y) (wC a Y) ts [.ref (a 0), .int p1] u ((k_own u p1).1, (k_own u p1).2) := by
  suffices h : ∀ V, V = k_own_b u p1 → xMi l yX10_own cX10_own 2 (some .int) (xRm 5 112) D (xty Y) (wC a Y) ts [.ref (a 0), .int p1] u (V.1, V.2) from h _ (by rw [k_own_def])
  intro V hV
  refine xofi RX10 rfl (by decide) (Nat.le_of_ble_eq_true rfl) ?_
  intro p e s m args below meth c ls H locs A S hr hlk hl hK hE hA hw
  have hl : lv_has ls 2 [(0, .ref (a 0)), (1, .int p1)] := hl
  refine lv_iload_n S.1 S.2.1 dX10_own_0 rfl (lv_at hl 1 rfl) ?_
  refine lv_iconst (v := -1) S.1 S.2.1 dX10_own_1 (by decide) ?_
  refine lv_icmp_eq (tgt := 18) S.1 S.2.1 dX10_own_2 (by decide) (fun c_1 => ?_) (fun c_1 => ?_)
  · replace hV := hV.trans (if_pos c_1)
    have gc_1 : (p1).toInt = (-1) := xq_eq c_1 rfl rfl
    refine lv_aload_n S.1 S.2.1 dX10_own_18 rfl (lv_at hl 0 rfl) ?_
    refine xget (v := .ref (a 41)) S hK hw 0 rfl rfl inX10 5 (by decide) mfX10_49 rfl dX10_own_19 ?_
    refine xcVv (rest := []) S hK hE hA hw yfX5_weigh (c_k_Owners_weigh l D a Y ts _ (show (0 ≤ ((u.1 13 0)).toInt ∧ ((u.1 13 0)).toInt ≤ 8) from by (first | omega | (simp only [kp_weigh13]; omega))) (show (0 ≤ ((u.1 13 1)).toInt ∧ ((u.1 13 1)).toInt ≤ 6) from by (first | omega | (simp only [kp_weigh13]; omega)))) 41 rfl rfl mlX10_233 rfl rfl hl.1 ⟨rfl, rfl, Nat.le_of_ble_eq_true rfl, Nat.le_of_ble_eq_true rfl, Nat.le_of_ble_eq_true rfl, Nat.zero_le _, Nat.zero_le _⟩ dX10_own_22 (fun H locs hw => ?_)
    refine lv_iload_n S.1 S.2.1 dX10_own_25 rfl (lv_at hl 1 rfl) ?_
    refine lv_iconst (v := -1) S.1 S.2.1 dX10_own_26 (by decide) ?_
    refine lv_icmp_ne (tgt := 40) S.1 S.2.1 dX10_own_27 (by decide) (fun c_3 => ?_) (fun c_3 => ?_)
    · replace hV := hV.trans (if_neg c_3)
      have gc_3 : ¬ (p1).toInt = (-1) := xq_ne c_3 rfl rfl
      refine lv_aload_n S.1 S.2.1 dX10_own_40 rfl (lv_at hl 0 rfl) ?_
      refine xget (v := .ref (a 41)) S hK hw 0 rfl rfl inX10 5 (by decide) mfX10_49 rfl dX10_own_41 ?_
      refine lv_iload_n S.1 S.2.1 dX10_own_44 rfl (lv_at hl 1 rfl) ?_
      refine xci (rest := []) S hK hE hA hw yfX5_thingOf (c_k_Owners_thingOf l D a Y ts _ p1 (show (0 ≤ (((k_Owners_weigh u).1 13 0)).toInt ∧ (((k_Owners_weigh u).1 13 0)).toInt ≤ 8) from by (first | omega | (simp only [kp_weigh13]; omega))) (show (0 ≤ (((k_Owners_weigh u).1 13 1)).toInt ∧ (((k_Owners_weigh u).1 13 1)).toInt ≤ 6) from by (first | omega | (simp only [kp_weigh13]; omega))) (show 0 ≤ (p1).toInt ∧ (p1).toInt < 6 from by (first | omega | (simp only [kp_weigh13]; omega)))) 41 rfl rfl mlX10_239 rfl rfl hl.1 ⟨rfl, rfl, Nat.le_of_ble_eq_true rfl, Nat.le_of_ble_eq_true rfl, Nat.le_of_ble_eq_true rfl, Nat.zero_le _, Nat.zero_le _⟩ dX10_own_45 (fun H locs hw => ?_)
      exact xri S hr hlk hw hV dX10_own_48
    · replace hV := hV.trans (if_pos c_3)
      have gc_3 : (p1).toInt = (-1) := xq_eq c_3 rfl rfl
      refine lv_aload_n S.1 S.2.1 dX10_own_30 rfl (lv_at hl 0 rfl) ?_
      refine xget (v := .ref (a 41)) S hK hw 0 rfl rfl inX10 5 (by decide) mfX10_49 rfl dX10_own_31 ?_
      refine xci (rest := []) S hK hE hA hw yfX5_mostSet (c_k_Owners_mostSet l D a Y ts _ (show (0 ≤ (((k_Owners_weigh u).1 13 0)).toInt ∧ (((k_Owners_weigh u).1 13 0)).toInt ≤ 8) from by (first | omega | (simp only [kp_weigh13]; omega))) (show (0 ≤ (((k_Owners_weigh u).1 13 1)).toInt ∧ (((k_Owners_weigh u).1 13 1)).toInt ≤ 6) from by (first | omega | (simp only [kp_weigh13]; omega)))) 41 rfl rfl mlX10_236 rfl rfl hl.1 ⟨rfl, rfl, Nat.le_of_ble_eq_true rfl, Nat.le_of_ble_eq_true rfl, Nat.le_of_ble_eq_true rfl, Nat.zero_le _, Nat.zero_le _⟩ dX10_own_34 (fun H locs hw => ?_)
      refine lv_goto (tgt := 48) S.1 S.2.1 dX10_own_37 (by decide) ?_
      exact xri S hr hlk hw hV dX10_own_48
  · replace hV := hV.trans (if_neg c_1)
    have gc_1 : ¬ (p1).toInt = (-1) := xq_ne c_1 rfl rfl
    refine lv_aload_n S.1 S.2.1 dX10_own_5 rfl (lv_at hl 0 rfl) ?_
    refine xget (v := .ref (a 12)) S hK hw 0 rfl rfl inX10 1 (by decide) mfX10_19 rfl dX10_own_6 ?_
    refine lv_iload_n S.1 S.2.1 dX10_own_9 rfl (lv_at hl 1 rfl) ?_
    refine xci (rest := []) S hK hE hA hw yfX0_isCast (c_k_Hall_isCast l D a Y ts _ p1 (show (0 ≤ ((u.1 13 0)).toInt ∧ ((u.1 13 0)).toInt ≤ 8) from by (first | omega | (simp only [kp_weigh13]; omega))) (show (0 ≤ ((u.1 13 1)).toInt ∧ ((u.1 13 1)).toInt ≤ 6) from by (first | omega | (simp only [kp_weigh13]; omega)))) 12 rfl rfl mlX10_129 rfl rfl hl.1 ⟨rfl, rfl, Nat.le_of_ble_eq_true rfl, Nat.le_of_ble_eq_true rfl, Nat.le_of_ble_eq_true rfl, Nat.zero_le _, Nat.zero_le _⟩ dX10_own_10 (fun H locs hw => ?_)
    refine lv_if_ne (tgt := 18) S.1 S.2.1 dX10_own_13 (by decide) (fun c_4 => ?_) (fun c_4 => ?_)
    · replace hV := hV.trans (if_neg c_4)
      have gc_4 : ¬ ((b2i (k_Hall_isCast u p1))).toInt = 0 := xq_ne c_4 rfl rfl
      have fc_4 := hk_isCast c_4
      refine lv_aload_n S.1 S.2.1 dX10_own_18 rfl (lv_at hl 0 rfl) ?_
      refine xget (v := .ref (a 41)) S hK hw 0 rfl rfl inX10 5 (by decide) mfX10_49 rfl dX10_own_19 ?_
      refine xcVv (rest := []) S hK hE hA hw yfX5_weigh (c_k_Owners_weigh l D a Y ts _ (show (0 ≤ ((u.1 13 0)).toInt ∧ ((u.1 13 0)).toInt ≤ 8) from by (first | omega | (simp only [kp_weigh13]; omega))) (show (0 ≤ ((u.1 13 1)).toInt ∧ ((u.1 13 1)).toInt ≤ 6) from by (first | omega | (simp only [kp_weigh13]; omega)))) 41 rfl rfl mlX10_233 rfl rfl hl.1 ⟨rfl, rfl, Nat.le_of_ble_eq_true rfl, Nat.le_of_ble_eq_true rfl, Nat.le_of_ble_eq_true rfl, Nat.zero_le _, Nat.zero_le _⟩ dX10_own_22 (fun H locs hw => ?_)
      refine lv_iload_n S.1 S.2.1 dX10_own_25 rfl (lv_at hl 1 rfl) ?_
      refine lv_iconst (v := -1) S.1 S.2.1 dX10_own_26 (by decide) ?_
      refine lv_icmp_ne (tgt := 40) S.1 S.2.1 dX10_own_27 (by decide) (fun c_6 => ?_) (fun c_6 => ?_)
      · replace hV := hV.trans (if_neg c_6)
        have gc_6 : ¬ (p1).toInt = (-1) := xq_ne c_6 rfl rfl
        refine lv_aload_n S.1 S.2.1 dX10_own_40 rfl (lv_at hl 0 rfl) ?_
        refine xget (v := .ref (a 41)) S hK hw 0 rfl rfl inX10 5 (by decide) mfX10_49 rfl dX10_own_41 ?_
        refine lv_iload_n S.1 S.2.1 dX10_own_44 rfl (lv_at hl 1 rfl) ?_
        refine xci (rest := []) S hK hE hA hw yfX5_thingOf (c_k_Owners_thingOf l D a Y ts _ p1 (show (0 ≤ (((k_Owners_weigh u).1 13 0)).toInt ∧ (((k_Owners_weigh u).1 13 0)).toInt ≤ 8) from by (first | omega | (simp only [kp_weigh13]; omega))) (show (0 ≤ (((k_Owners_weigh u).1 13 1)).toInt ∧ (((k_Owners_weigh u).1 13 1)).toInt ≤ 6) from by (first | omega | (simp only [kp_weigh13]; omega))) (show 0 ≤ (p1).toInt ∧ (p1).toInt < 6 from by (first | omega | (simp only [kp_weigh13]; omega)))) 41 rfl rfl mlX10_239 rfl rfl hl.1 ⟨rfl, rfl, Nat.le_of_ble_eq_true rfl, Nat.le_of_ble_eq_true rfl, Nat.le_of_ble_eq_true rfl, Nat.zero_le _, Nat.zero_le _⟩ dX10_own_45 (fun H locs hw => ?_)
        exact xri S hr hlk hw hV dX10_own_48
      · replace hV := hV.trans (if_pos c_6)
        have gc_6 : (p1).toInt = (-1) := xq_eq c_6 rfl rfl
        refine lv_aload_n S.1 S.2.1 dX10_own_30 rfl (lv_at hl 0 rfl) ?_
        refine xget (v := .ref (a 41)) S hK hw 0 rfl rfl inX10 5 (by decide) mfX10_49 rfl dX10_own_31 ?_
        refine xci (rest := []) S hK hE hA hw yfX5_mostSet (c_k_Owners_mostSet l D a Y ts _ (show (0 ≤ (((k_Owners_weigh u).1 13 0)).toInt ∧ (((k_Owners_weigh u).1 13 0)).toInt ≤ 8) from by (first | omega | (simp only [kp_weigh13]; omega))) (show (0 ≤ (((k_Owners_weigh u).1 13 1)).toInt ∧ (((k_Owners_weigh u).1 13 1)).toInt ≤ 6) from by (first | omega | (simp only [kp_weigh13]; omega)))) 41 rfl rfl mlX10_236 rfl rfl hl.1 ⟨rfl, rfl, Nat.le_of_ble_eq_true rfl, Nat.le_of_ble_eq_true rfl, Nat.le_of_ble_eq_true rfl, Nat.zero_le _, Nat.zero_le _⟩ dX10_own_34 (fun H locs hw => ?_)
        refine lv_goto (tgt := 48) S.1 S.2.1 dX10_own_37 (by decide) ?_
        exact xri S hr hlk hw hV dX10_own_48
    · replace hV := hV.trans (if_pos c_4)
      have gc_4 : ((b2i (k_Hall_isCast u p1))).toInt = 0 := xq_eq c_4 rfl rfl
      refine lv_iconst (v := -1) S.1 S.2.1 dX10_own_16 (by decide) ?_
      exact xri S hr hlk hw hV dX10_own_17
def k_odds (u : xU) (p1 : Int32) (p2 : Int32) (p3 : Int32) : Int32 :=
    (if p1 < (0 : Int32) then
    (-1 : Int32)
    else
    (if (10 : Int32) < p1 then
    (-1 : Int32)
    else
    (if p2 < (0 : Int32) then
    (-1 : Int32)
    else
    (if (6 : Int32) < p2 then
    (-1 : Int32)
    else
    (if p3 < (0 : Int32) then
    (-1 : Int32)
    else
    (if p3 ≤ (1 : Int32) then
    let t_7 := (k_waysToFall ((u.1 13 1) - (j_bitCount (u.1 21 1))) p1 p2)
    let t_8 := (k_power (10 : Int32) ((u.1 13 1) - (j_bitCount (u.1 21 1))))
    (if p3 = (0 : Int32) then
    (t_7 / (k_commonDivisor t_7 t_8))
    else
    (t_8 / (k_commonDivisor t_7 t_8)))
    else
    (-1 : Int32)))))))
set_option maxHeartbeats 4000000 in
set_option maxRecDepth 100000 in
theorem c_k_odds (l : Launch) (D : va_G) (a : Nat → Nat) (Y : Nat → ClassId) (ts : Nat → Nat) (u : xU) (p1 : Int32) (p2 : Int32) (p3 : Int32) (hT : (0 ≤ ((u.1 13 0)).toInt ∧ ((u.1 13 0)).toInt ≤ 8)) (hC : (0 ≤ ((u.1 13 1)).toInt ∧ ((u.1 13 1)).toInt ≤ 6)) (hr0 : 0 ≤ (((u.1 13 1) - (j_bitCount (u.1 21 1)))).toInt ∧ (((u.1 13 1) - (j_bitCount (u.1 21 1)))).toInt < 7) : xMi l yX10_odds cX10_odds 8 (some .int) (xRm 2 55) D (xty Y) (wC a Y) ts [.ref (a 0), .int p1, .int p2, .int p3] u ((k_odds u p1 p2 p3), u) := by
  suffices h : ∀ V, V = k_odds u p1 p2 p3 → xMi l yX10_odds cX10_odds 8 (some .int) (xRm 2 55) D (xty Y) (wC a Y) ts [.ref (a 0), .int p1, .int p2, .int p3] u (V, u) from h _ rfl
  intro V hV
  refine xofi RX10 rfl (by decide) (Nat.le_of_ble_eq_true rfl) ?_
  intro p e s m args below meth c ls H locs A S hr hlk hl hK hE hA hw
  have hl : lv_has ls 8 [(0, .ref (a 0)), (1, .int p1), (2, .int p2), (3, .int p3)] := hl
  refine lv_iload_n S.1 S.2.1 dX10_odds_0 rfl (lv_at hl 1 rfl) ?_
  refine lv_if_lt (tgt := 29) S.1 S.2.1 dX10_odds_1 (by decide) (fun c_1 => ?_) (fun c_1 => ?_)
  · replace hV := hV.trans (if_pos c_1)
    have gc_1 : (p1).toInt < 0 := xq_lt c_1 rfl rfl
    refine lv_iconst (v := -1) S.1 S.2.1 dX10_odds_29 (by decide) ?_
    exact xri S hr hlk hw (congrArg (fun b => (b, u)) hV) dX10_odds_30
  · replace hV := hV.trans (if_neg c_1)
    have gc_1 : 0 ≤ (p1).toInt := xq_nlt c_1 rfl rfl
    refine lv_iload_n S.1 S.2.1 dX10_odds_4 rfl (lv_at hl 1 rfl) ?_
    refine lv_bipush (v := 10) S.1 S.2.1 dX10_odds_5 (by decide) ?_
    refine lv_icmp_gt (tgt := 29) S.1 S.2.1 dX10_odds_7 (by decide) (fun c_2 => ?_) (fun c_2 => ?_)
    · replace hV := hV.trans (if_pos c_2)
      have gc_2 : 10 < (p1).toInt := xq_lt c_2 rfl rfl
      refine lv_iconst (v := -1) S.1 S.2.1 dX10_odds_29 (by decide) ?_
      exact xri S hr hlk hw (congrArg (fun b => (b, u)) hV) dX10_odds_30
    · replace hV := hV.trans (if_neg c_2)
      have gc_2 : (p1).toInt ≤ 10 := xq_nlt c_2 rfl rfl
      refine lv_iload_n S.1 S.2.1 dX10_odds_10 rfl (lv_at hl 2 rfl) ?_
      refine lv_if_lt (tgt := 29) S.1 S.2.1 dX10_odds_11 (by decide) (fun c_3 => ?_) (fun c_3 => ?_)
      · replace hV := hV.trans (if_pos c_3)
        have gc_3 : (p2).toInt < 0 := xq_lt c_3 rfl rfl
        refine lv_iconst (v := -1) S.1 S.2.1 dX10_odds_29 (by decide) ?_
        exact xri S hr hlk hw (congrArg (fun b => (b, u)) hV) dX10_odds_30
      · replace hV := hV.trans (if_neg c_3)
        have gc_3 : 0 ≤ (p2).toInt := xq_nlt c_3 rfl rfl
        refine lv_iload_n S.1 S.2.1 dX10_odds_14 rfl (lv_at hl 2 rfl) ?_
        refine lv_bipush (v := 6) S.1 S.2.1 dX10_odds_15 (by decide) ?_
        refine lv_icmp_gt (tgt := 29) S.1 S.2.1 dX10_odds_17 (by decide) (fun c_4 => ?_) (fun c_4 => ?_)
        · replace hV := hV.trans (if_pos c_4)
          have gc_4 : 6 < (p2).toInt := xq_lt c_4 rfl rfl
          refine lv_iconst (v := -1) S.1 S.2.1 dX10_odds_29 (by decide) ?_
          exact xri S hr hlk hw (congrArg (fun b => (b, u)) hV) dX10_odds_30
        · replace hV := hV.trans (if_neg c_4)
          have gc_4 : (p2).toInt ≤ 6 := xq_nlt c_4 rfl rfl
          refine lv_iload_n S.1 S.2.1 dX10_odds_20 rfl (lv_at hl 3 rfl) ?_
          refine lv_if_lt (tgt := 29) S.1 S.2.1 dX10_odds_21 (by decide) (fun c_5 => ?_) (fun c_5 => ?_)
          · replace hV := hV.trans (if_pos c_5)
            have gc_5 : (p3).toInt < 0 := xq_lt c_5 rfl rfl
            refine lv_iconst (v := -1) S.1 S.2.1 dX10_odds_29 (by decide) ?_
            exact xri S hr hlk hw (congrArg (fun b => (b, u)) hV) dX10_odds_30
          · replace hV := hV.trans (if_neg c_5)
            have gc_5 : 0 ≤ (p3).toInt := xq_nlt c_5 rfl rfl
            refine lv_iload_n S.1 S.2.1 dX10_odds_24 rfl (lv_at hl 3 rfl) ?_
            refine lv_iconst (v := 1) S.1 S.2.1 dX10_odds_25 (by decide) ?_
            refine lv_icmp_le (tgt := 31) S.1 S.2.1 dX10_odds_26 (by decide) (fun c_6 => ?_) (fun c_6 => ?_)
            · replace hV := hV.trans (if_pos c_6)
              have gc_6 : (p3).toInt ≤ 1 := xq_le c_6 rfl rfl
              refine lv_aload_n S.1 S.2.1 dX10_odds_31 rfl (lv_at hl 0 rfl) ?_
              refine xget (v := .ref (a 12)) S hK hw 0 rfl rfl inX10 1 (by decide) mfX10_19 rfl dX10_odds_32 ?_
              refine xget (v := .ref (a 13)) S hK hw 12 rfl rfl inX0 0 (by decide) mfX10_98 rfl dX10_odds_35 ?_
              refine xget (v := .int (u.1 13 1)) S hK hw 13 rfl rfl inX9 1 (by decide) mfX10_106 rfl dX10_odds_38 ?_
              refine lv_aload_n S.1 S.2.1 dX10_odds_41 rfl (lv_at hl 0 rfl) ?_
              refine xget (v := .ref (a 12)) S hK hw 0 rfl rfl inX10 1 (by decide) mfX10_19 rfl dX10_odds_42 ?_
              refine xget (v := .ref (a 21)) S hK hw 12 rfl rfl inX0 1 (by decide) mfX10_138 rfl dX10_odds_45 ?_
              refine xget (v := .int (u.1 21 1)) S hK hw 21 rfl rfl inX4 1 (by decide) mfX10_182 rfl dX10_odds_48 ?_
              refine xcP (rest := [.int (u.1 13 1)]) S hw yfJ6_bitCount_0f7a4 (c_j_bitCount l (u.1 21 1)) mlX10_185 rfl rfl hl.1 ⟨rfl, rfl, Nat.le_of_ble_eq_true rfl, Nat.le_of_ble_eq_true rfl, Nat.le_of_ble_eq_true rfl, Nat.zero_le _, Nat.zero_le _⟩ dX10_odds_51 (fun H locs hw => ?_)
              refine lv_isub S.1 S.2.1 dX10_odds_54 ?_
              refine lv_istore (lv' := [(4, .int ((u.1 13 1) - (j_bitCount (u.1 21 1)))), (0, .ref (a 0)), (1, .int p1), (2, .int p2), (3, .int p3)]) S.1 S.2.1 dX10_odds_55 hl (by decide) rfl (fun ls hl => ?_)
              refine lv_iload S.1 S.2.1 dX10_odds_57 (lv_at hl 0 rfl) ?_
              refine lv_iload_n S.1 S.2.1 dX10_odds_59 rfl (lv_at hl 2 rfl) ?_
              refine lv_iload_n S.1 S.2.1 dX10_odds_60 rfl (lv_at hl 3 rfl) ?_
              refine xcP (rest := []) S hw yfX10_waysToFall (c_k_waysToFall l ((u.1 13 1) - (j_bitCount (u.1 21 1))) p1 p2 (show 0 ≤ (((u.1 13 1) - (j_bitCount (u.1 21 1)))).toInt ∧ (((u.1 13 1) - (j_bitCount (u.1 21 1)))).toInt < 7 from by omega)) mlX10_245 rfl rfl hl.1 ⟨rfl, rfl, Nat.le_of_ble_eq_true rfl, Nat.le_of_ble_eq_true rfl, Nat.le_of_ble_eq_true rfl, Nat.zero_le _, Nat.zero_le _⟩ dX10_odds_61 (fun H locs hw => ?_)
              refine lv_istore (lv' := [(5, .int (k_waysToFall ((u.1 13 1) - (j_bitCount (u.1 21 1))) p1 p2)), (4, .int ((u.1 13 1) - (j_bitCount (u.1 21 1)))), (0, .ref (a 0)), (1, .int p1), (2, .int p2), (3, .int p3)]) S.1 S.2.1 dX10_odds_64 hl (by decide) rfl (fun ls hl => ?_)
              refine lv_bipush (v := 10) S.1 S.2.1 dX10_odds_66 (by decide) ?_
              refine lv_iload S.1 S.2.1 dX10_odds_68 (lv_at hl 1 rfl) ?_
              refine xcP (rest := []) S hw yfX10_power (c_k_power l (10 : Int32) ((u.1 13 1) - (j_bitCount (u.1 21 1))) (show 0 ≤ (((u.1 13 1) - (j_bitCount (u.1 21 1)))).toInt ∧ (((u.1 13 1) - (j_bitCount (u.1 21 1)))).toInt < 7 from by omega)) mlX10_249 rfl rfl hl.1 ⟨rfl, rfl, Nat.le_of_ble_eq_true rfl, Nat.le_of_ble_eq_true rfl, Nat.le_of_ble_eq_true rfl, Nat.zero_le _, Nat.zero_le _⟩ dX10_odds_70 (fun H locs hw => ?_)
              refine lv_istore (lv' := [(6, .int (k_power (10 : Int32) ((u.1 13 1) - (j_bitCount (u.1 21 1))))), (5, .int (k_waysToFall ((u.1 13 1) - (j_bitCount (u.1 21 1))) p1 p2)), (4, .int ((u.1 13 1) - (j_bitCount (u.1 21 1)))), (0, .ref (a 0)), (1, .int p1), (2, .int p2), (3, .int p3)]) S.1 S.2.1 dX10_odds_73 hl (by decide) rfl (fun ls hl => ?_)
              refine lv_iload S.1 S.2.1 dX10_odds_75 (lv_at hl 1 rfl) ?_
              refine lv_iload S.1 S.2.1 dX10_odds_77 (lv_at hl 0 rfl) ?_
              refine xcP (rest := []) S hw yfX10_commonDivisor (c_k_commonDivisor l (k_waysToFall ((u.1 13 1) - (j_bitCount (u.1 21 1))) p1 p2) (k_power (10 : Int32) ((u.1 13 1) - (j_bitCount (u.1 21 1))))) mlX10_252 rfl rfl hl.1 ⟨rfl, rfl, Nat.le_of_ble_eq_true rfl, Nat.le_of_ble_eq_true rfl, Nat.le_of_ble_eq_true rfl, Nat.zero_le _, Nat.zero_le _⟩ dX10_odds_79 (fun H locs hw => ?_)
              refine lv_istore (lv' := [(7, .int (k_commonDivisor (k_waysToFall ((u.1 13 1) - (j_bitCount (u.1 21 1))) p1 p2) (k_power (10 : Int32) ((u.1 13 1) - (j_bitCount (u.1 21 1)))))), (6, .int (k_power (10 : Int32) ((u.1 13 1) - (j_bitCount (u.1 21 1))))), (5, .int (k_waysToFall ((u.1 13 1) - (j_bitCount (u.1 21 1))) p1 p2)), (4, .int ((u.1 13 1) - (j_bitCount (u.1 21 1)))), (0, .ref (a 0)), (1, .int p1), (2, .int p2), (3, .int p3)]) S.1 S.2.1 dX10_odds_82 hl (by decide) rfl (fun ls hl => ?_)
              refine lv_iload_n S.1 S.2.1 dX10_odds_84 rfl (lv_at hl 7 rfl) ?_
              refine lv_if_ne (tgt := 93) S.1 S.2.1 dX10_odds_85 (by decide) (fun c_9 => ?_) (fun c_9 => ?_)
              · replace hV := hV.trans (if_neg c_9)
                have gc_9 : ¬ (p3).toInt = 0 := xq_ne c_9 rfl rfl
                refine lv_iload S.1 S.2.1 dX10_odds_93 (lv_at hl 1 rfl) ?_
                refine lv_iload S.1 S.2.1 dX10_odds_95 (lv_at hl 0 rfl) ?_
                refine lv_idiv S.1 S.2.1 dX10_odds_97 (k_cd_ne _ _) ?_
                exact xri S hr hlk hw (congrArg (fun b => (b, u)) hV) dX10_odds_98
              · replace hV := hV.trans (if_pos c_9)
                have gc_9 : (p3).toInt = 0 := xq_eq c_9 rfl rfl
                refine lv_iload S.1 S.2.1 dX10_odds_88 (lv_at hl 2 rfl) ?_
                refine lv_goto (tgt := 95) S.1 S.2.1 dX10_odds_90 (by decide) ?_
                refine lv_iload S.1 S.2.1 dX10_odds_95 (lv_at hl 0 rfl) ?_
                refine lv_idiv S.1 S.2.1 dX10_odds_97 (k_cd_ne _ _) ?_
                exact xri S hr hlk hw (congrArg (fun b => (b, u)) hV) dX10_odds_98
            · replace hV := hV.trans (if_neg c_6)
              have gc_6 : 1 < (p3).toInt := xq_nle c_6 rfl rfl
              refine lv_iconst (v := -1) S.1 S.2.1 dX10_odds_29 (by decide) ?_
              exact xri S hr hlk hw (congrArg (fun b => (b, u)) hV) dX10_odds_30
noncomputable def k_Planner_mostIn_L65 (w : xU) (x1 : Int32) (x2 : Int32) (x6 : Int32) (x7 : Int32) : Nat → Int32 → Int32 → Int32 → Int32 → Int32 × xU
  | 0, _, _, _, _ => (0, w)
  | n + 1, x3, x4, x5, x8 =>
    (if x6 < x8 then
    (x3, w)
    else
    (if (x8 &&& (x6 ^^^ (-1 : Int32))) = (0 : Int32) then
    (if (j_bitCount x8) < x4 then
    k_Planner_mostIn_L65 w x1 x2 x6 x7 n x3 x4 x5 (x8 + (1 : Int32))
    else
    (if (b2i (k_Planner_isWhole w x1 x8)) = (0 : Int32) then
    k_Planner_mostIn_L65 w x1 x2 x6 x7 n x3 x4 x5 (x8 + (1 : Int32))
    else
    (if (k_Planner_cracksOf w x8) ≤ x7 then
    (if x2 < (k_Planner_nightsOf w x8) then
    k_Planner_mostIn_L65 w x1 x2 x6 x7 n x3 x4 x5 (x8 + (1 : Int32))
    else
    (if x4 < (j_bitCount x8) then
    k_Planner_mostIn_L65 w x1 x2 x6 x7 n x8 (j_bitCount x8) (k_Planner_nightsOf w x8) (x8 + (1 : Int32))
    else
    (if x5 ≤ (k_Planner_nightsOf w x8) then
    k_Planner_mostIn_L65 w x1 x2 x6 x7 n x3 x4 x5 (x8 + (1 : Int32))
    else
    k_Planner_mostIn_L65 w x1 x2 x6 x7 n x8 (j_bitCount x8) (k_Planner_nightsOf w x8) (x8 + (1 : Int32)))))
    else
    k_Planner_mostIn_L65 w x1 x2 x6 x7 n x3 x4 x5 (x8 + (1 : Int32)))))
    else
    k_Planner_mostIn_L65 w x1 x2 x6 x7 n x3 x4 x5 (x8 + (1 : Int32))))
noncomputable def k_Planner_mostIn_J35 (w : xU) (x1 : Int32) (x2 : Int32) (x3 : Int32) (x4 : Int32) (x5 : Int32) (x6 : Int32) : Int32 × xU :=
    let t_3 := ((w.1 18 (x1).toNatClampNeg) - (w.1 25 (x1).toNatClampNeg))
    k_Planner_mostIn_L65 w x1 x2 x6 t_3 257 x3 x4 x5 (1 : Int32)
noncomputable def k_Planner_mostIn_b (u : xU) (p1 : Int32) (p2 : Int32) : Int32 × xU :=
    let r_1 := k_Planner_reckon u p1
    (if (b2i (k_Hall_isBroken r_1 p1)) = (0 : Int32) then
    k_Planner_mostIn_J35 r_1 p1 p2 (0 : Int32) (0 : Int32) (0 : Int32) (k_Planner_learnable r_1 p1)
    else
    k_Planner_mostIn_J35 r_1 p1 p2 (0 : Int32) (0 : Int32) (0 : Int32) (0 : Int32))
theorem k_Planner_mostIn_x : ∃ f : xU → Int32 → Int32 → Int32 × xU, f = k_Planner_mostIn_b := ⟨_, rfl⟩
noncomputable def k_Planner_mostIn : xU → Int32 → Int32 → Int32 × xU := k_Planner_mostIn_x.choose
theorem k_Planner_mostIn_def : k_Planner_mostIn = k_Planner_mostIn_b := k_Planner_mostIn_x.choose_spec
set_option maxHeartbeats 4000000 in
set_option maxRecDepth 100000 in
theorem c_k_Planner_mostIn (l : Launch) (D : va_G) (a : Nat → Nat) (Y : Nat → ClassId) (ts : Nat → Nat) (u : xU) (p1 : Int32) (p2 : Int32) (hT : (0 ≤ ((u.1 13 0)).toInt ∧ ((u.1 13 0)).toInt ≤ 8)) (hC : (0 ≤ ((u.1 13 1)).toInt ∧ ((u.1 13 1)).toInt ≤ 6)) (hp0 : 0 ≤ (p1).toInt ∧ (p1).toInt < 6) : xMi l yX7_mostIn cX7_mostIn 11 (some .int) (xRm 3 66) D (xty Y) (wC a Y) ts [.ref (a 38), .int p1, .int p2] u ((k_Planner_mostIn u p1 p2).1, (k_Planner_mostIn u p1 p2).2) := by
  suffices h : ∀ V, V = k_Planner_mostIn_b u p1 p2 → xMi l yX7_mostIn cX7_mostIn 11 (some .int) (xRm 3 66) D (xty Y) (wC a Y) ts [.ref (a 38), .int p1, .int p2] u (V.1, V.2) from h _ (by rw [k_Planner_mostIn_def])
  intro V hV
  refine xofi RX7 rfl (by decide) (Nat.le_of_ble_eq_true rfl) ?_
  intro p e s m args below meth c ls H locs A S hr hlk hl hK hE hA hw
  have hl : lv_has ls 11 [(0, .ref (a 38)), (1, .int p1), (2, .int p2)] := hl
  refine lv_aload_n S.1 S.2.1 dX7_mostIn_0 rfl (lv_at hl 0 rfl) ?_
  refine lv_iload_n S.1 S.2.1 dX7_mostIn_1 rfl (lv_at hl 1 rfl) ?_
  refine xcVv (rest := []) S hK hE hA hw yfX7_reckon (c_k_Planner_reckon l D a Y ts _ p1 (show (0 ≤ ((u.1 13 0)).toInt ∧ ((u.1 13 0)).toInt ≤ 8) from by (first | omega | (simp only [kp_reckon13]; omega))) (show (0 ≤ ((u.1 13 1)).toInt ∧ ((u.1 13 1)).toInt ≤ 6) from by (first | omega | (simp only [kp_reckon13]; omega))) (show 0 ≤ (p1).toInt ∧ (p1).toInt < 6 from by (first | omega | (simp only [kp_reckon13]; omega)))) 38 rfl rfl mlX7_92 rfl rfl hl.1 ⟨rfl, rfl, Nat.le_of_ble_eq_true rfl, Nat.le_of_ble_eq_true rfl, Nat.le_of_ble_eq_true rfl, Nat.zero_le _, Nat.zero_le _⟩ dX7_mostIn_2 (fun H locs hw => ?_)
  refine lv_iconst (v := 0) S.1 S.2.1 dX7_mostIn_5 (by decide) ?_
  refine lv_istore_n (lv' := [(3, .int (0 : Int32)), (0, .ref (a 38)), (1, .int p1), (2, .int p2)]) S.1 S.2.1 dX7_mostIn_6 rfl hl (by decide) rfl (fun ls hl => ?_)
  refine lv_iconst (v := 0) S.1 S.2.1 dX7_mostIn_7 (by decide) ?_
  refine lv_istore (lv' := [(4, .int (0 : Int32)), (3, .int (0 : Int32)), (0, .ref (a 38)), (1, .int p1), (2, .int p2)]) S.1 S.2.1 dX7_mostIn_8 hl (by decide) rfl (fun ls hl => ?_)
  refine lv_iconst (v := 0) S.1 S.2.1 dX7_mostIn_10 (by decide) ?_
  refine lv_istore (lv' := [(5, .int (0 : Int32)), (4, .int (0 : Int32)), (3, .int (0 : Int32)), (0, .ref (a 38)), (1, .int p1), (2, .int p2)]) S.1 S.2.1 dX7_mostIn_11 hl (by decide) rfl (fun ls hl => ?_)
  have ct_2 : ∀ (y6_2 : Int32) (H : Heap) (locs : List Loc) (ls : Array Slot), ((0 ≤ (y6_2).toInt ∧ (y6_2).toInt < 256)) → lv_has ls 11 [(0, .ref (a 38)), (1, .int p1), (2, .int p2), (3, .int (0 : Int32)), (4, .int (0 : Int32)), (5, .int (0 : Int32)), (6, .int y6_2)] → xw D (wC a Y) A s.heap H locs (k_Planner_reckon u p1) → V = k_Planner_mostIn_J35 (k_Planner_reckon u p1) p1 p2 (0 : Int32) (0 : Int32) (0 : Int32) y6_2 → W p l e (xRm 3 66) s m args below meth c H locs 0 0 (MQ below (va_Qi (fun r v => (r, v) = V) (xPost D (wC a Y) A) A) args s 0 0 A) (F0 m 35 ls []) := by
    intro y6_2 H locs ls i0_2 hl hw hV
    refine lv_aload_n S.1 S.2.1 dX7_mostIn_35 rfl (lv_at hl 0 rfl) ?_
    refine xget (v := .ref (a 12)) S hK hw 38 rfl rfl inX7 0 (by decide) mfX7_18 rfl dX7_mostIn_36 ?_
    refine xget (v := .ref (a 13)) S hK hw 12 rfl rfl inX0 0 (by decide) mfX7_22 rfl dX7_mostIn_39 ?_
    refine xget (v := .ref (a 18)) S hK hw 13 rfl rfl inX9 6 (by decide) mfX7_86 rfl dX7_mostIn_42 ?_
    refine lv_iload_n S.1 S.2.1 dX7_mostIn_45 rfl (lv_at hl 1 rfl) ?_
    refine xald (f := (k_Planner_reckon u p1).1 18) S hK hw 18 0 rfl rfl (xvi rfl (by omega) (by omega)) dX7_mostIn_46 ?_
    refine lv_aload_n S.1 S.2.1 dX7_mostIn_47 rfl (lv_at hl 0 rfl) ?_
    refine xget (v := .ref (a 12)) S hK hw 38 rfl rfl inX7 0 (by decide) mfX7_18 rfl dX7_mostIn_48 ?_
    refine xget (v := .ref (a 21)) S hK hw 12 rfl rfl inX0 1 (by decide) mfX7_46 rfl dX7_mostIn_51 ?_
    refine xget (v := .ref (a 25)) S hK hw 21 rfl rfl inX4 5 (by decide) mfX7_80 rfl dX7_mostIn_54 ?_
    refine lv_iload_n S.1 S.2.1 dX7_mostIn_57 rfl (lv_at hl 1 rfl) ?_
    refine xald (f := (k_Planner_reckon u p1).1 25) S hK hw 25 0 rfl rfl (xvi rfl (by omega) (by omega)) dX7_mostIn_58 ?_
    refine lv_isub S.1 S.2.1 dX7_mostIn_59 ?_
    refine lv_istore (lv' := [(7, .int (((k_Planner_reckon u p1).1 18 (p1).toNatClampNeg) - ((k_Planner_reckon u p1).1 25 (p1).toNatClampNeg))), (0, .ref (a 38)), (1, .int p1), (2, .int p2), (3, .int (0 : Int32)), (4, .int (0 : Int32)), (5, .int (0 : Int32)), (6, .int y6_2)]) S.1 S.2.1 dX7_mostIn_60 hl (by decide) rfl (fun ls hl => ?_)
    refine lv_iconst (v := 1) S.1 S.2.1 dX7_mostIn_62 (by decide) ?_
    refine lv_istore (lv' := [(8, .int (1 : Int32)), (7, .int (((k_Planner_reckon u p1).1 18 (p1).toNatClampNeg) - ((k_Planner_reckon u p1).1 25 (p1).toNatClampNeg))), (0, .ref (a 38)), (1, .int p1), (2, .int p2), (3, .int (0 : Int32)), (4, .int (0 : Int32)), (5, .int (0 : Int32)), (6, .int y6_2)]) S.1 S.2.1 dX7_mostIn_63 hl (by decide) rfl (fun ls hl => ?_)
    have lp_4 : ∀ (n_4 : Nat) (x3_4 : Int32) (x4_4 : Int32) (x5_4 : Int32) (x8_4 : Int32) (H : Heap) (locs : List Loc) (ls : Array Slot), (1 ≤ (x8_4).toInt) → ((y6_2).toInt - (x8_4).toInt + 1 < (n_4 : Int) ∧ 1 ≤ n_4) → lv_has ls 11 [(0, .ref (a 38)), (1, .int p1), (2, .int p2), (3, .int x3_4), (4, .int x4_4), (5, .int x5_4), (6, .int y6_2), (7, .int (((k_Planner_reckon u p1).1 18 (p1).toNatClampNeg) - ((k_Planner_reckon u p1).1 25 (p1).toNatClampNeg))), (8, .int x8_4)] → xw D (wC a Y) A s.heap H locs (k_Planner_reckon u p1) → V = k_Planner_mostIn_L65 (k_Planner_reckon u p1) p1 p2 y6_2 (((k_Planner_reckon u p1).1 18 (p1).toNatClampNeg) - ((k_Planner_reckon u p1).1 25 (p1).toNatClampNeg)) n_4 x3_4 x4_4 x5_4 x8_4 → W p l e (xRm 3 66) s m args below meth c H locs 0 0 (MQ below (va_Qi (fun r v => (r, v) = V) (xPost D (wC a Y) A) A) args s 0 0 A) (F0 m 65 ls []) := by
      intro n_4
      induction n_4 with
      | zero => intro x3_4 x4_4 x5_4 x8_4 H locs ls i0_4 hn; exact absurd hn.2 (by decide)
      | succ n_4 ih_4 =>
        intro x3_4 x4_4 x5_4 x8_4 H locs ls i0_4 hn_4 hl hw hV
        refine lv_iload S.1 S.2.1 dX7_mostIn_65 (lv_at hl 8 rfl) ?_
        refine lv_iload S.1 S.2.1 dX7_mostIn_67 (lv_at hl 6 rfl) ?_
        refine lv_icmp_gt (tgt := 165) S.1 S.2.1 dX7_mostIn_69 (by decide) (fun c_5 => ?_) (fun c_5 => ?_)
        · replace hV := hV.trans (if_pos c_5)
          have gc_5 : (y6_2).toInt < (x8_4).toInt := xq_lt c_5 rfl rfl
          refine lv_iload_n S.1 S.2.1 dX7_mostIn_165 rfl (lv_at hl 3 rfl) ?_
          exact xri S hr hlk hw hV dX7_mostIn_166
        · replace hV := hV.trans (if_neg c_5)
          have gc_5 : (x8_4).toInt ≤ (y6_2).toInt := xq_nlt c_5 rfl rfl
          refine lv_iload S.1 S.2.1 dX7_mostIn_72 (lv_at hl 8 rfl) ?_
          refine xcP (rest := []) S hw yfJ6_bitCount_0f7a4 (c_j_bitCount l x8_4) mlX7_96 rfl rfl hl.1 ⟨rfl, rfl, Nat.le_of_ble_eq_true rfl, Nat.le_of_ble_eq_true rfl, Nat.le_of_ble_eq_true rfl, Nat.zero_le _, Nat.zero_le _⟩ dX7_mostIn_74 (fun H locs hw => ?_)
          refine lv_istore (lv' := [(9, .int (j_bitCount x8_4)), (0, .ref (a 38)), (1, .int p1), (2, .int p2), (3, .int x3_4), (4, .int x4_4), (5, .int x5_4), (6, .int y6_2), (7, .int (((k_Planner_reckon u p1).1 18 (p1).toNatClampNeg) - ((k_Planner_reckon u p1).1 25 (p1).toNatClampNeg))), (8, .int x8_4)]) S.1 S.2.1 dX7_mostIn_77 hl (by decide) rfl (fun ls hl => ?_)
          refine lv_iload S.1 S.2.1 dX7_mostIn_79 (lv_at hl 9 rfl) ?_
          refine lv_iload S.1 S.2.1 dX7_mostIn_81 (lv_at hl 7 rfl) ?_
          refine lv_iconst (v := -1) S.1 S.2.1 dX7_mostIn_83 (by decide) ?_
          refine lv_ixor S.1 S.2.1 dX7_mostIn_84 ?_
          refine lv_iand S.1 S.2.1 dX7_mostIn_85 ?_
          refine lv_if_ne (tgt := 159) S.1 S.2.1 dX7_mostIn_86 (by decide) (fun c_6 => ?_) (fun c_6 => ?_)
          · replace hV := hV.trans (if_neg c_6)
            refine lv_iinc (v := (x8_4 + (1 : Int32))) (lv' := [(8, .int (x8_4 + (1 : Int32))), (9, .int (j_bitCount x8_4)), (0, .ref (a 38)), (1, .int p1), (2, .int p2), (3, .int x3_4), (4, .int x4_4), (5, .int x5_4), (6, .int y6_2), (7, .int (((k_Planner_reckon u p1).1 18 (p1).toNatClampNeg) - ((k_Planner_reckon u p1).1 25 (p1).toNatClampNeg)))]) S.1 S.2.1 dX7_mostIn_159 hl (k := 9) rfl rfl (by decide) rfl (fun ls hl => ?_)
            refine lv_goto (tgt := 65) S.1 S.2.1 dX7_mostIn_162 (by decide) ?_
            have e_7 : ∀ _ : Unit, ((x8_4 + (1 : Int32))).toInt = (x8_4).toInt + 1 := fun _ => xadd rfl rfl (by omega) (by omega)
            exact ih_4 x3_4 x4_4 x5_4 (x8_4 + (1 : Int32)) _ _ _ (show 1 ≤ ((x8_4 + (1 : Int32))).toInt from by rw [(e_7 ())]; (first | omega | (simp only [kp_reckon13]; omega))) (show (y6_2).toInt - ((x8_4 + (1 : Int32))).toInt + 1 < (n_4 : Int) ∧ 1 ≤ n_4 from by rw [(e_7 ())]; (first | omega | (simp only [kp_reckon13]; omega))) (lv_sub hl [2, 3, 4, 5, 6, 7, 8, 9, 0] rfl) hw hV
          · replace hV := hV.trans (if_pos c_6)
            refine lv_iload S.1 S.2.1 dX7_mostIn_89 (lv_at hl 0 rfl) ?_
            refine lv_iload S.1 S.2.1 dX7_mostIn_91 (lv_at hl 5 rfl) ?_
            refine lv_icmp_lt (tgt := 159) S.1 S.2.1 dX7_mostIn_93 (by decide) (fun c_8 => ?_) (fun c_8 => ?_)
            · replace hV := hV.trans (if_pos c_8)
              have gc_8 : ((j_bitCount x8_4)).toInt < (x4_4).toInt := xq_lt c_8 rfl rfl
              refine lv_iinc (v := (x8_4 + (1 : Int32))) (lv' := [(8, .int (x8_4 + (1 : Int32))), (9, .int (j_bitCount x8_4)), (0, .ref (a 38)), (1, .int p1), (2, .int p2), (3, .int x3_4), (4, .int x4_4), (5, .int x5_4), (6, .int y6_2), (7, .int (((k_Planner_reckon u p1).1 18 (p1).toNatClampNeg) - ((k_Planner_reckon u p1).1 25 (p1).toNatClampNeg)))]) S.1 S.2.1 dX7_mostIn_159 hl (k := 9) rfl rfl (by decide) rfl (fun ls hl => ?_)
              refine lv_goto (tgt := 65) S.1 S.2.1 dX7_mostIn_162 (by decide) ?_
              have e_9 : ∀ _ : Unit, ((x8_4 + (1 : Int32))).toInt = (x8_4).toInt + 1 := fun _ => xadd rfl rfl (by omega) (by omega)
              exact ih_4 x3_4 x4_4 x5_4 (x8_4 + (1 : Int32)) _ _ _ (show 1 ≤ ((x8_4 + (1 : Int32))).toInt from by rw [(e_9 ())]; (first | omega | (simp only [kp_reckon13]; omega))) (show (y6_2).toInt - ((x8_4 + (1 : Int32))).toInt + 1 < (n_4 : Int) ∧ 1 ≤ n_4 from by rw [(e_9 ())]; (first | omega | (simp only [kp_reckon13]; omega))) (lv_sub hl [2, 3, 4, 5, 6, 7, 8, 9, 0] rfl) hw hV
            · replace hV := hV.trans (if_neg c_8)
              have gc_8 : (x4_4).toInt ≤ ((j_bitCount x8_4)).toInt := xq_nlt c_8 rfl rfl
              refine lv_aload_n S.1 S.2.1 dX7_mostIn_96 rfl (lv_at hl 1 rfl) ?_
              refine lv_iload_n S.1 S.2.1 dX7_mostIn_97 rfl (lv_at hl 2 rfl) ?_
              refine lv_iload S.1 S.2.1 dX7_mostIn_98 (lv_at hl 9 rfl) ?_
              refine xci (rest := []) S hK hE hA hw yfX7_isWhole (c_k_Planner_isWhole l D a Y ts _ p1 x8_4 (show (0 ≤ (((k_Planner_reckon u p1).1 13 0)).toInt ∧ (((k_Planner_reckon u p1).1 13 0)).toInt ≤ 8) from by (first | omega | (simp only [kp_reckon13]; omega))) (show (0 ≤ (((k_Planner_reckon u p1).1 13 1)).toInt ∧ (((k_Planner_reckon u p1).1 13 1)).toInt ≤ 6) from by (first | omega | (simp only [kp_reckon13]; omega))) (show 0 ≤ (p1).toInt ∧ (p1).toInt < 6 from by (first | omega | (simp only [kp_reckon13]; omega)))) 38 rfl rfl mlX7_101 rfl rfl hl.1 ⟨rfl, rfl, Nat.le_of_ble_eq_true rfl, Nat.le_of_ble_eq_true rfl, Nat.le_of_ble_eq_true rfl, Nat.zero_le _, Nat.zero_le _⟩ dX7_mostIn_100 (fun H locs hw => ?_)
              refine lv_if_eq (tgt := 159) S.1 S.2.1 dX7_mostIn_103 (by decide) (fun c_10 => ?_) (fun c_10 => ?_)
              · replace hV := hV.trans (if_pos c_10)
                have gc_10 : ((b2i (k_Planner_isWhole (k_Planner_reckon u p1) p1 x8_4))).toInt = 0 := xq_eq c_10 rfl rfl
                refine lv_iinc (v := (x8_4 + (1 : Int32))) (lv' := [(8, .int (x8_4 + (1 : Int32))), (9, .int (j_bitCount x8_4)), (0, .ref (a 38)), (1, .int p1), (2, .int p2), (3, .int x3_4), (4, .int x4_4), (5, .int x5_4), (6, .int y6_2), (7, .int (((k_Planner_reckon u p1).1 18 (p1).toNatClampNeg) - ((k_Planner_reckon u p1).1 25 (p1).toNatClampNeg)))]) S.1 S.2.1 dX7_mostIn_159 hl (k := 9) rfl rfl (by decide) rfl (fun ls hl => ?_)
                refine lv_goto (tgt := 65) S.1 S.2.1 dX7_mostIn_162 (by decide) ?_
                have e_11 : ∀ _ : Unit, ((x8_4 + (1 : Int32))).toInt = (x8_4).toInt + 1 := fun _ => xadd rfl rfl (by omega) (by omega)
                exact ih_4 x3_4 x4_4 x5_4 (x8_4 + (1 : Int32)) _ _ _ (show 1 ≤ ((x8_4 + (1 : Int32))).toInt from by rw [(e_11 ())]; (first | omega | (simp only [kp_reckon13]; omega))) (show (y6_2).toInt - ((x8_4 + (1 : Int32))).toInt + 1 < (n_4 : Int) ∧ 1 ≤ n_4 from by rw [(e_11 ())]; (first | omega | (simp only [kp_reckon13]; omega))) (lv_sub hl [2, 3, 4, 5, 6, 7, 8, 9, 0] rfl) hw hV
              · replace hV := hV.trans (if_neg c_10)
                have gc_10 : ¬ ((b2i (k_Planner_isWhole (k_Planner_reckon u p1) p1 x8_4))).toInt = 0 := xq_ne c_10 rfl rfl
                refine lv_aload_n S.1 S.2.1 dX7_mostIn_106 rfl (lv_at hl 1 rfl) ?_
                refine lv_iload S.1 S.2.1 dX7_mostIn_107 (lv_at hl 9 rfl) ?_
                refine xci (rest := []) S hK hE hA hw yfX7_cracksOf (c_k_Planner_cracksOf l D a Y ts _ x8_4 (show (0 ≤ (((k_Planner_reckon u p1).1 13 0)).toInt ∧ (((k_Planner_reckon u p1).1 13 0)).toInt ≤ 8) from by (first | omega | (simp only [kp_reckon13]; omega))) (show (0 ≤ (((k_Planner_reckon u p1).1 13 1)).toInt ∧ (((k_Planner_reckon u p1).1 13 1)).toInt ≤ 6) from by (first | omega | (simp only [kp_reckon13]; omega)))) 38 rfl rfl mlX7_83 rfl rfl hl.1 ⟨rfl, rfl, Nat.le_of_ble_eq_true rfl, Nat.le_of_ble_eq_true rfl, Nat.le_of_ble_eq_true rfl, Nat.zero_le _, Nat.zero_le _⟩ dX7_mostIn_109 (fun H locs hw => ?_)
                refine lv_iload S.1 S.2.1 dX7_mostIn_112 (lv_at hl 8 rfl) ?_
                refine lv_icmp_le (tgt := 120) S.1 S.2.1 dX7_mostIn_114 (by decide) (fun c_12 => ?_) (fun c_12 => ?_)
                · replace hV := hV.trans (if_pos c_12)
                  refine lv_aload_n S.1 S.2.1 dX7_mostIn_120 rfl (lv_at hl 1 rfl) ?_
                  refine lv_iload S.1 S.2.1 dX7_mostIn_121 (lv_at hl 9 rfl) ?_
                  refine xci (rest := []) S hK hE hA hw yfX7_nightsOf (c_k_Planner_nightsOf l D a Y ts _ x8_4 (show (0 ≤ (((k_Planner_reckon u p1).1 13 0)).toInt ∧ (((k_Planner_reckon u p1).1 13 0)).toInt ≤ 8) from by (first | omega | (simp only [kp_reckon13]; omega))) (show (0 ≤ (((k_Planner_reckon u p1).1 13 1)).toInt ∧ (((k_Planner_reckon u p1).1 13 1)).toInt ≤ 6) from by (first | omega | (simp only [kp_reckon13]; omega)))) 38 rfl rfl mlX7_104 rfl rfl hl.1 ⟨rfl, rfl, Nat.le_of_ble_eq_true rfl, Nat.le_of_ble_eq_true rfl, Nat.le_of_ble_eq_true rfl, Nat.zero_le _, Nat.zero_le _⟩ dX7_mostIn_123 (fun H locs hw => ?_)
                  refine lv_istore (lv' := [(10, .int (k_Planner_nightsOf (k_Planner_reckon u p1) x8_4)), (9, .int (j_bitCount x8_4)), (0, .ref (a 38)), (1, .int p1), (2, .int p2), (3, .int x3_4), (4, .int x4_4), (5, .int x5_4), (6, .int y6_2), (7, .int (((k_Planner_reckon u p1).1 18 (p1).toNatClampNeg) - ((k_Planner_reckon u p1).1 25 (p1).toNatClampNeg))), (8, .int x8_4)]) S.1 S.2.1 dX7_mostIn_126 hl (by decide) rfl (fun ls hl => ?_)
                  refine lv_iload S.1 S.2.1 dX7_mostIn_128 (lv_at hl 0 rfl) ?_
                  refine lv_iload_n S.1 S.2.1 dX7_mostIn_130 rfl (lv_at hl 4 rfl) ?_
                  refine lv_icmp_gt (tgt := 159) S.1 S.2.1 dX7_mostIn_131 (by decide) (fun c_13 => ?_) (fun c_13 => ?_)
                  · replace hV := hV.trans (if_pos c_13)
                    have gc_13 : (p2).toInt < ((k_Planner_nightsOf (k_Planner_reckon u p1) x8_4)).toInt := xq_lt c_13 rfl rfl
                    refine lv_iinc (v := (x8_4 + (1 : Int32))) (lv' := [(8, .int (x8_4 + (1 : Int32))), (10, .int (k_Planner_nightsOf (k_Planner_reckon u p1) x8_4)), (9, .int (j_bitCount x8_4)), (0, .ref (a 38)), (1, .int p1), (2, .int p2), (3, .int x3_4), (4, .int x4_4), (5, .int x5_4), (6, .int y6_2), (7, .int (((k_Planner_reckon u p1).1 18 (p1).toNatClampNeg) - ((k_Planner_reckon u p1).1 25 (p1).toNatClampNeg)))]) S.1 S.2.1 dX7_mostIn_159 hl (k := 10) rfl rfl (by decide) rfl (fun ls hl => ?_)
                    refine lv_goto (tgt := 65) S.1 S.2.1 dX7_mostIn_162 (by decide) ?_
                    have e_14 : ∀ _ : Unit, ((x8_4 + (1 : Int32))).toInt = (x8_4).toInt + 1 := fun _ => xadd rfl rfl (by omega) (by omega)
                    exact ih_4 x3_4 x4_4 x5_4 (x8_4 + (1 : Int32)) _ _ _ (show 1 ≤ ((x8_4 + (1 : Int32))).toInt from by rw [(e_14 ())]; (first | omega | (simp only [kp_reckon13]; omega))) (show (y6_2).toInt - ((x8_4 + (1 : Int32))).toInt + 1 < (n_4 : Int) ∧ 1 ≤ n_4 from by rw [(e_14 ())]; (first | omega | (simp only [kp_reckon13]; omega))) (lv_sub hl [3, 4, 5, 6, 7, 8, 9, 10, 0] rfl) hw hV
                  · replace hV := hV.trans (if_neg c_13)
                    have gc_13 : ((k_Planner_nightsOf (k_Planner_reckon u p1) x8_4)).toInt ≤ (p2).toInt := xq_nlt c_13 rfl rfl
                    refine lv_iload S.1 S.2.1 dX7_mostIn_134 (lv_at hl 1 rfl) ?_
                    refine lv_iload S.1 S.2.1 dX7_mostIn_136 (lv_at hl 6 rfl) ?_
                    refine lv_icmp_gt (tgt := 148) S.1 S.2.1 dX7_mostIn_138 (by decide) (fun c_15 => ?_) (fun c_15 => ?_)
                    · replace hV := hV.trans (if_pos c_15)
                      have gc_15 : (x4_4).toInt < ((j_bitCount x8_4)).toInt := xq_lt c_15 rfl rfl
                      refine lv_iload S.1 S.2.1 dX7_mostIn_148 (lv_at hl 10 rfl) ?_
                      refine lv_istore_n (lv' := [(3, .int x8_4), (10, .int (k_Planner_nightsOf (k_Planner_reckon u p1) x8_4)), (9, .int (j_bitCount x8_4)), (0, .ref (a 38)), (1, .int p1), (2, .int p2), (4, .int x4_4), (5, .int x5_4), (6, .int y6_2), (7, .int (((k_Planner_reckon u p1).1 18 (p1).toNatClampNeg) - ((k_Planner_reckon u p1).1 25 (p1).toNatClampNeg))), (8, .int x8_4)]) S.1 S.2.1 dX7_mostIn_150 rfl hl (by decide) rfl (fun ls hl => ?_)
                      refine lv_iload S.1 S.2.1 dX7_mostIn_151 (lv_at hl 2 rfl) ?_
                      refine lv_istore (lv' := [(4, .int (j_bitCount x8_4)), (3, .int x8_4), (10, .int (k_Planner_nightsOf (k_Planner_reckon u p1) x8_4)), (9, .int (j_bitCount x8_4)), (0, .ref (a 38)), (1, .int p1), (2, .int p2), (5, .int x5_4), (6, .int y6_2), (7, .int (((k_Planner_reckon u p1).1 18 (p1).toNatClampNeg) - ((k_Planner_reckon u p1).1 25 (p1).toNatClampNeg))), (8, .int x8_4)]) S.1 S.2.1 dX7_mostIn_153 hl (by decide) rfl (fun ls hl => ?_)
                      refine lv_iload S.1 S.2.1 dX7_mostIn_155 (lv_at hl 2 rfl) ?_
                      refine lv_istore (lv' := [(5, .int (k_Planner_nightsOf (k_Planner_reckon u p1) x8_4)), (4, .int (j_bitCount x8_4)), (3, .int x8_4), (10, .int (k_Planner_nightsOf (k_Planner_reckon u p1) x8_4)), (9, .int (j_bitCount x8_4)), (0, .ref (a 38)), (1, .int p1), (2, .int p2), (6, .int y6_2), (7, .int (((k_Planner_reckon u p1).1 18 (p1).toNatClampNeg) - ((k_Planner_reckon u p1).1 25 (p1).toNatClampNeg))), (8, .int x8_4)]) S.1 S.2.1 dX7_mostIn_157 hl (by decide) rfl (fun ls hl => ?_)
                      refine lv_iinc (v := (x8_4 + (1 : Int32))) (lv' := [(8, .int (x8_4 + (1 : Int32))), (5, .int (k_Planner_nightsOf (k_Planner_reckon u p1) x8_4)), (4, .int (j_bitCount x8_4)), (3, .int x8_4), (10, .int (k_Planner_nightsOf (k_Planner_reckon u p1) x8_4)), (9, .int (j_bitCount x8_4)), (0, .ref (a 38)), (1, .int p1), (2, .int p2), (6, .int y6_2), (7, .int (((k_Planner_reckon u p1).1 18 (p1).toNatClampNeg) - ((k_Planner_reckon u p1).1 25 (p1).toNatClampNeg)))]) S.1 S.2.1 dX7_mostIn_159 hl (k := 10) rfl rfl (by decide) rfl (fun ls hl => ?_)
                      refine lv_goto (tgt := 65) S.1 S.2.1 dX7_mostIn_162 (by decide) ?_
                      have e_16 : ∀ _ : Unit, ((x8_4 + (1 : Int32))).toInt = (x8_4).toInt + 1 := fun _ => xadd rfl rfl (by omega) (by omega)
                      exact ih_4 x8_4 (j_bitCount x8_4) (k_Planner_nightsOf (k_Planner_reckon u p1) x8_4) (x8_4 + (1 : Int32)) _ _ _ (show 1 ≤ ((x8_4 + (1 : Int32))).toInt from by rw [(e_16 ())]; (first | omega | (simp only [kp_reckon13]; omega))) (show (y6_2).toInt - ((x8_4 + (1 : Int32))).toInt + 1 < (n_4 : Int) ∧ 1 ≤ n_4 from by rw [(e_16 ())]; (first | omega | (simp only [kp_reckon13]; omega))) (lv_sub hl [6, 7, 8, 3, 2, 1, 9, 10, 0] rfl) hw hV
                    · replace hV := hV.trans (if_neg c_15)
                      have gc_15 : ((j_bitCount x8_4)).toInt ≤ (x4_4).toInt := xq_nlt c_15 rfl rfl
                      refine lv_iload S.1 S.2.1 dX7_mostIn_141 (lv_at hl 0 rfl) ?_
                      refine lv_iload S.1 S.2.1 dX7_mostIn_143 (lv_at hl 7 rfl) ?_
                      refine lv_icmp_ge (tgt := 159) S.1 S.2.1 dX7_mostIn_145 (by decide) (fun c_17 => ?_) (fun c_17 => ?_)
                      · replace hV := hV.trans (if_pos c_17)
                        have gc_17 : (x5_4).toInt ≤ ((k_Planner_nightsOf (k_Planner_reckon u p1) x8_4)).toInt := xq_le c_17 rfl rfl
                        refine lv_iinc (v := (x8_4 + (1 : Int32))) (lv' := [(8, .int (x8_4 + (1 : Int32))), (10, .int (k_Planner_nightsOf (k_Planner_reckon u p1) x8_4)), (9, .int (j_bitCount x8_4)), (0, .ref (a 38)), (1, .int p1), (2, .int p2), (3, .int x3_4), (4, .int x4_4), (5, .int x5_4), (6, .int y6_2), (7, .int (((k_Planner_reckon u p1).1 18 (p1).toNatClampNeg) - ((k_Planner_reckon u p1).1 25 (p1).toNatClampNeg)))]) S.1 S.2.1 dX7_mostIn_159 hl (k := 10) rfl rfl (by decide) rfl (fun ls hl => ?_)
                        refine lv_goto (tgt := 65) S.1 S.2.1 dX7_mostIn_162 (by decide) ?_
                        have e_18 : ∀ _ : Unit, ((x8_4 + (1 : Int32))).toInt = (x8_4).toInt + 1 := fun _ => xadd rfl rfl (by omega) (by omega)
                        exact ih_4 x3_4 x4_4 x5_4 (x8_4 + (1 : Int32)) _ _ _ (show 1 ≤ ((x8_4 + (1 : Int32))).toInt from by rw [(e_18 ())]; (first | omega | (simp only [kp_reckon13]; omega))) (show (y6_2).toInt - ((x8_4 + (1 : Int32))).toInt + 1 < (n_4 : Int) ∧ 1 ≤ n_4 from by rw [(e_18 ())]; (first | omega | (simp only [kp_reckon13]; omega))) (lv_sub hl [3, 4, 5, 6, 7, 8, 9, 10, 0] rfl) hw hV
                      · replace hV := hV.trans (if_neg c_17)
                        have gc_17 : ((k_Planner_nightsOf (k_Planner_reckon u p1) x8_4)).toInt < (x5_4).toInt := xq_nle c_17 rfl rfl
                        refine lv_iload S.1 S.2.1 dX7_mostIn_148 (lv_at hl 10 rfl) ?_
                        refine lv_istore_n (lv' := [(3, .int x8_4), (10, .int (k_Planner_nightsOf (k_Planner_reckon u p1) x8_4)), (9, .int (j_bitCount x8_4)), (0, .ref (a 38)), (1, .int p1), (2, .int p2), (4, .int x4_4), (5, .int x5_4), (6, .int y6_2), (7, .int (((k_Planner_reckon u p1).1 18 (p1).toNatClampNeg) - ((k_Planner_reckon u p1).1 25 (p1).toNatClampNeg))), (8, .int x8_4)]) S.1 S.2.1 dX7_mostIn_150 rfl hl (by decide) rfl (fun ls hl => ?_)
                        refine lv_iload S.1 S.2.1 dX7_mostIn_151 (lv_at hl 2 rfl) ?_
                        refine lv_istore (lv' := [(4, .int (j_bitCount x8_4)), (3, .int x8_4), (10, .int (k_Planner_nightsOf (k_Planner_reckon u p1) x8_4)), (9, .int (j_bitCount x8_4)), (0, .ref (a 38)), (1, .int p1), (2, .int p2), (5, .int x5_4), (6, .int y6_2), (7, .int (((k_Planner_reckon u p1).1 18 (p1).toNatClampNeg) - ((k_Planner_reckon u p1).1 25 (p1).toNatClampNeg))), (8, .int x8_4)]) S.1 S.2.1 dX7_mostIn_153 hl (by decide) rfl (fun ls hl => ?_)
                        refine lv_iload S.1 S.2.1 dX7_mostIn_155 (lv_at hl 2 rfl) ?_
                        refine lv_istore (lv' := [(5, .int (k_Planner_nightsOf (k_Planner_reckon u p1) x8_4)), (4, .int (j_bitCount x8_4)), (3, .int x8_4), (10, .int (k_Planner_nightsOf (k_Planner_reckon u p1) x8_4)), (9, .int (j_bitCount x8_4)), (0, .ref (a 38)), (1, .int p1), (2, .int p2), (6, .int y6_2), (7, .int (((k_Planner_reckon u p1).1 18 (p1).toNatClampNeg) - ((k_Planner_reckon u p1).1 25 (p1).toNatClampNeg))), (8, .int x8_4)]) S.1 S.2.1 dX7_mostIn_157 hl (by decide) rfl (fun ls hl => ?_)
                        refine lv_iinc (v := (x8_4 + (1 : Int32))) (lv' := [(8, .int (x8_4 + (1 : Int32))), (5, .int (k_Planner_nightsOf (k_Planner_reckon u p1) x8_4)), (4, .int (j_bitCount x8_4)), (3, .int x8_4), (10, .int (k_Planner_nightsOf (k_Planner_reckon u p1) x8_4)), (9, .int (j_bitCount x8_4)), (0, .ref (a 38)), (1, .int p1), (2, .int p2), (6, .int y6_2), (7, .int (((k_Planner_reckon u p1).1 18 (p1).toNatClampNeg) - ((k_Planner_reckon u p1).1 25 (p1).toNatClampNeg)))]) S.1 S.2.1 dX7_mostIn_159 hl (k := 10) rfl rfl (by decide) rfl (fun ls hl => ?_)
                        refine lv_goto (tgt := 65) S.1 S.2.1 dX7_mostIn_162 (by decide) ?_
                        have e_19 : ∀ _ : Unit, ((x8_4 + (1 : Int32))).toInt = (x8_4).toInt + 1 := fun _ => xadd rfl rfl (by omega) (by omega)
                        exact ih_4 x8_4 (j_bitCount x8_4) (k_Planner_nightsOf (k_Planner_reckon u p1) x8_4) (x8_4 + (1 : Int32)) _ _ _ (show 1 ≤ ((x8_4 + (1 : Int32))).toInt from by rw [(e_19 ())]; (first | omega | (simp only [kp_reckon13]; omega))) (show (y6_2).toInt - ((x8_4 + (1 : Int32))).toInt + 1 < (n_4 : Int) ∧ 1 ≤ n_4 from by rw [(e_19 ())]; (first | omega | (simp only [kp_reckon13]; omega))) (lv_sub hl [6, 7, 8, 3, 2, 1, 9, 10, 0] rfl) hw hV
                · replace hV := hV.trans (if_neg c_12)
                  refine lv_goto (tgt := 159) S.1 S.2.1 dX7_mostIn_117 (by decide) ?_
                  refine lv_iinc (v := (x8_4 + (1 : Int32))) (lv' := [(8, .int (x8_4 + (1 : Int32))), (9, .int (j_bitCount x8_4)), (0, .ref (a 38)), (1, .int p1), (2, .int p2), (3, .int x3_4), (4, .int x4_4), (5, .int x5_4), (6, .int y6_2), (7, .int (((k_Planner_reckon u p1).1 18 (p1).toNatClampNeg) - ((k_Planner_reckon u p1).1 25 (p1).toNatClampNeg)))]) S.1 S.2.1 dX7_mostIn_159 hl (k := 9) rfl rfl (by decide) rfl (fun ls hl => ?_)
                  refine lv_goto (tgt := 65) S.1 S.2.1 dX7_mostIn_162 (by decide) ?_
                  have e_20 : ∀ _ : Unit, ((x8_4 + (1 : Int32))).toInt = (x8_4).toInt + 1 := fun _ => xadd rfl rfl (by omega) (by omega)
                  exact ih_4 x3_4 x4_4 x5_4 (x8_4 + (1 : Int32)) _ _ _ (show 1 ≤ ((x8_4 + (1 : Int32))).toInt from by rw [(e_20 ())]; (first | omega | (simp only [kp_reckon13]; omega))) (show (y6_2).toInt - ((x8_4 + (1 : Int32))).toInt + 1 < (n_4 : Int) ∧ 1 ≤ n_4 from by rw [(e_20 ())]; (first | omega | (simp only [kp_reckon13]; omega))) (lv_sub hl [2, 3, 4, 5, 6, 7, 8, 9, 0] rfl) hw hV
    exact lp_4 257 (0 : Int32) (0 : Int32) (0 : Int32) (1 : Int32) _ _ _ (show 1 ≤ 1 from by (first | omega | (simp only [kp_reckon13]; omega))) (show (y6_2).toInt - 1 + 1 < ((257 : Nat) : Int) ∧ 1 ≤ (257 : Nat) from by (first | omega | (simp only [kp_reckon13]; omega))) (lv_sub hl [2, 3, 4, 5, 6, 7, 8, 1, 0] rfl) hw hV
  refine lv_aload_n S.1 S.2.1 dX7_mostIn_13 rfl (lv_at hl 3 rfl) ?_
  refine xget (v := .ref (a 12)) S hK hw 38 rfl rfl inX7 0 (by decide) mfX7_18 rfl dX7_mostIn_14 ?_
  refine lv_iload_n S.1 S.2.1 dX7_mostIn_17 rfl (lv_at hl 4 rfl) ?_
  refine xci (rest := []) S hK hE hA hw yfX0_isBroken (c_k_Hall_isBroken l D a Y ts _ p1 (show (0 ≤ (((k_Planner_reckon u p1).1 13 0)).toInt ∧ (((k_Planner_reckon u p1).1 13 0)).toInt ≤ 8) from by (first | omega | (simp only [kp_reckon13]; omega))) (show (0 ≤ (((k_Planner_reckon u p1).1 13 1)).toInt ∧ (((k_Planner_reckon u p1).1 13 1)).toInt ≤ 6) from by (first | omega | (simp only [kp_reckon13]; omega))) (show 0 ≤ (p1).toInt ∧ (p1).toInt < 6 from by (first | omega | (simp only [kp_reckon13]; omega)))) 12 rfl rfl mlX7_72 rfl rfl hl.1 ⟨rfl, rfl, Nat.le_of_ble_eq_true rfl, Nat.le_of_ble_eq_true rfl, Nat.le_of_ble_eq_true rfl, Nat.zero_le _, Nat.zero_le _⟩ dX7_mostIn_18 (fun H locs hw => ?_)
  refine lv_if_eq (tgt := 28) S.1 S.2.1 dX7_mostIn_21 (by decide) (fun c_21 => ?_) (fun c_21 => ?_)
  · replace hV := hV.trans (if_pos c_21)
    have gc_21 : ((b2i (k_Hall_isBroken (k_Planner_reckon u p1) p1))).toInt = 0 := xq_eq c_21 rfl rfl
    refine lv_aload_n S.1 S.2.1 dX7_mostIn_28 rfl (lv_at hl 3 rfl) ?_
    refine lv_iload_n S.1 S.2.1 dX7_mostIn_29 rfl (lv_at hl 4 rfl) ?_
    refine xci (rest := []) S hK hE hA hw yfX7_learnable (c_k_Planner_learnable l D a Y ts _ p1 (show (0 ≤ (((k_Planner_reckon u p1).1 13 0)).toInt ∧ (((k_Planner_reckon u p1).1 13 0)).toInt ≤ 8) from by (first | omega | (simp only [kp_reckon13]; omega))) (show (0 ≤ (((k_Planner_reckon u p1).1 13 1)).toInt ∧ (((k_Planner_reckon u p1).1 13 1)).toInt ≤ 6) from by (first | omega | (simp only [kp_reckon13]; omega))) (show 0 ≤ (p1).toInt ∧ (p1).toInt < 6 from by (first | omega | (simp only [kp_reckon13]; omega)))) 38 rfl rfl mlX7_76 rfl rfl hl.1 ⟨rfl, rfl, Nat.le_of_ble_eq_true rfl, Nat.le_of_ble_eq_true rfl, Nat.le_of_ble_eq_true rfl, Nat.zero_le _, Nat.zero_le _⟩ dX7_mostIn_30 (fun H locs hw => ?_)
    have hb := lr_b (u := (k_Planner_reckon u p1)) (c := p1) (by simp only [kp_reckon13]; omega)
    refine lv_istore (lv' := [(6, .int (k_Planner_learnable (k_Planner_reckon u p1) p1)), (5, .int (0 : Int32)), (4, .int (0 : Int32)), (3, .int (0 : Int32)), (0, .ref (a 38)), (1, .int p1), (2, .int p2)]) S.1 S.2.1 dX7_mostIn_33 hl (by decide) rfl (fun ls hl => ?_)
    exact ct_2 (k_Planner_learnable (k_Planner_reckon u p1) p1) _ _ _ (show (0 ≤ ((k_Planner_learnable (k_Planner_reckon u p1) p1)).toInt ∧ ((k_Planner_learnable (k_Planner_reckon u p1) p1)).toInt < 256) from by (first | omega | (simp only [kp_reckon13]; omega))) (lv_sub hl [4, 5, 6, 3, 2, 1, 0] rfl) hw hV
  · replace hV := hV.trans (if_neg c_21)
    have gc_21 : ¬ ((b2i (k_Hall_isBroken (k_Planner_reckon u p1) p1))).toInt = 0 := xq_ne c_21 rfl rfl
    refine lv_iconst (v := 0) S.1 S.2.1 dX7_mostIn_24 (by decide) ?_
    refine lv_goto (tgt := 33) S.1 S.2.1 dX7_mostIn_25 (by decide) ?_
    refine lv_istore (lv' := [(6, .int (0 : Int32)), (5, .int (0 : Int32)), (4, .int (0 : Int32)), (3, .int (0 : Int32)), (0, .ref (a 38)), (1, .int p1), (2, .int p2)]) S.1 S.2.1 dX7_mostIn_33 hl (by decide) rfl (fun ls hl => ?_)
    exact ct_2 (0 : Int32) _ _ _ (show (0 ≤ 0 ∧ 0 < 256) from by (first | omega | (simp only [kp_reckon13]; omega))) (lv_sub hl [4, 5, 6, 3, 2, 1, 0] rfl) hw hV
