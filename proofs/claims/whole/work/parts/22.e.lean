noncomputable def k_Reader_lookAtNumber_L17 (x1 : Int32) : Nat → Int32 → xU → xU
  | 0, _, w => w
  | n + 1, x2, w =>
    (if (w.1 1 1) ≤ (w.1 1 4) then
    (if x1 = (48 : Int32) then
    (if x2 ≤ (1 : Int32) then
    (if (w.1 1 6) ≤ (99 : Int32) then
    let w_12 := sp w 1 (upd (w.1 1) 5 (2 : Int32))
    w_12
    else
    let w_13 := sp w 1 (upd (w.1 1) 5 (4 : Int32))
    w_13)
    else
    let w_15 := sp w 1 (upd (w.1 1) 5 (4 : Int32))
    w_15)
    else
    (if (w.1 1 6) ≤ (99 : Int32) then
    let w_7 := sp w 1 (upd (w.1 1) 5 (2 : Int32))
    w_7
    else
    let w_8 := sp w 1 (upd (w.1 1) 5 (4 : Int32))
    w_8))
    else
    (if (b2i (k_Reader_isDigit (w.1 2 ((w.1 1 4)).toNatClampNeg))) = (0 : Int32) then
    (if x1 = (48 : Int32) then
    (if x2 ≤ (1 : Int32) then
    (if (w.1 1 6) ≤ (99 : Int32) then
    let w_25 := sp w 1 (upd (w.1 1) 5 (2 : Int32))
    w_25
    else
    let w_26 := sp w 1 (upd (w.1 1) 5 (4 : Int32))
    w_26)
    else
    let w_28 := sp w 1 (upd (w.1 1) 5 (4 : Int32))
    w_28)
    else
    (if (w.1 1 6) ≤ (99 : Int32) then
    let w_20 := sp w 1 (upd (w.1 1) 5 (2 : Int32))
    w_20
    else
    let w_21 := sp w 1 (upd (w.1 1) 5 (4 : Int32))
    w_21))
    else
    let w_29 := sp w 1 (upd (w.1 1) 6 (if (100 : Int32) < ((((w.1 1 6) * (10 : Int32)) + (w.1 2 ((w.1 1 4)).toNatClampNeg)) - (48 : Int32)) then (100 : Int32) else ((((w.1 1 6) * (10 : Int32)) + (w.1 2 ((w.1 1 4)).toNatClampNeg)) - (48 : Int32))))
    let w_30 := sp w_29 1 (upd (w_29.1 1) 4 ((w_29.1 1 4) + (1 : Int32)))
    k_Reader_lookAtNumber_L17 x1 n (x2 + (1 : Int32)) w_30))
noncomputable def k_Reader_lookAtNumber_b (u : xU) : xU :=
    let w_1 := sp u 1 (upd (u.1 1) 6 (0 : Int32))
    k_Reader_lookAtNumber_L17 (u.1 2 ((u.1 1 4)).toNatClampNeg) 151 (0 : Int32) w_1
theorem k_Reader_lookAtNumber_x : ∃ f : xU → xU, f = k_Reader_lookAtNumber_b := ⟨_, rfl⟩
noncomputable def k_Reader_lookAtNumber : xU → xU := k_Reader_lookAtNumber_x.choose
theorem k_Reader_lookAtNumber_def : k_Reader_lookAtNumber = k_Reader_lookAtNumber_b := k_Reader_lookAtNumber_x.choose_spec
set_option maxHeartbeats 4000000 in
set_option maxRecDepth 100000 in
theorem c_k_Reader_lookAtNumber (l : Launch) (D : va_G) (a : Nat → Nat) (Y : Nat → ClassId) (ts : Nat → Nat) (u : xU) (hL : (0 ≤ ((u.1 1 1)).toInt ∧ ((u.1 1 1)).toInt ≤ 150)) (hX : (0 ≤ ((u.1 1 4)).toInt ∧ ((u.1 1 4)).toInt ≤ 150)) (hr0 : ((u.1 1 4)).toInt < ((u.1 1 1)).toInt) : xMv l yX8_lookAtNumber cX8_lookAtNumber 4 none (xRm 1 30) D (xty Y) (wC a Y) ts [.ref (a 1)] u (k_Reader_lookAtNumber u) := by
  suffices h : ∀ V, V = k_Reader_lookAtNumber_b u → xMv l yX8_lookAtNumber cX8_lookAtNumber 4 none (xRm 1 30) D (xty Y) (wC a Y) ts [.ref (a 1)] u V from h _ (by rw [k_Reader_lookAtNumber_def])
  intro V hV
  refine xofv RX8 rfl (by decide) (Nat.le_of_ble_eq_true rfl) ?_
  intro p e s m args below meth c ls H locs A S hr hlk hl hK hE hA hw
  have hl : lv_has ls 4 [(0, .ref (a 1))] := hl
  refine lv_aload_n S.1 S.2.1 dX8_lookAtNumber_0 rfl (lv_at hl 0 rfl) ?_
  refine xget (v := .ref (a 2)) S hK hw 1 rfl rfl inX8 0 (by decide) mfX8_9 rfl dX8_lookAtNumber_1 ?_
  refine lv_aload_n S.1 S.2.1 dX8_lookAtNumber_4 rfl (lv_at hl 0 rfl) ?_
  refine xget (v := .int (u.1 1 4)) S hK hw 1 rfl rfl inX8 4 (by decide) mfX8_32 rfl dX8_lookAtNumber_5 ?_
  refine xald (f := u.1 2) S hK hw 2 0 rfl rfl (xvi rfl (by omega) (by omega)) dX8_lookAtNumber_8 ?_
  refine lv_istore_n (lv' := [(1, .int (u.1 2 ((u.1 1 4)).toNatClampNeg)), (0, .ref (a 1))]) S.1 S.2.1 dX8_lookAtNumber_9 rfl hl (by decide) rfl (fun ls hl => ?_)
  refine lv_iconst (v := 0) S.1 S.2.1 dX8_lookAtNumber_10 (by decide) ?_
  refine lv_istore_n (lv' := [(2, .int (0 : Int32)), (1, .int (u.1 2 ((u.1 1 4)).toNatClampNeg)), (0, .ref (a 1))]) S.1 S.2.1 dX8_lookAtNumber_11 rfl hl (by decide) rfl (fun ls hl => ?_)
  refine lv_aload_n S.1 S.2.1 dX8_lookAtNumber_12 rfl (lv_at hl 2 rfl) ?_
  refine lv_iconst (v := 0) S.1 S.2.1 dX8_lookAtNumber_13 (by decide) ?_
  refine xputi (ty := .int) S hK hw 1 rfl rfl inX8 tyX8 tyX8_ok nmX8 6 (by decide) mfX8_45 rfl (by decide +kernel) rfl rfl (Nat.le_of_ble_eq_true rfl) (oC_1_6 _ _ _ _) dX8_lookAtNumber_14 (fun H locs hw => ?_)
  have lp_2 : ∀ (n_2 : Nat) (x2_2 : Int32) (u_2 : xU) (H : Heap) (locs : List Loc) (ls : Array Slot), ((0 ≤ ((u_2.1 1 1)).toInt ∧ ((u_2.1 1 1)).toInt ≤ 150)) → ((0 ≤ ((u_2.1 1 4)).toInt ∧ ((u_2.1 1 4)).toInt ≤ 150)) → (((u_2.1 1 1)).toInt - ((u_2.1 1 4)).toInt < (n_2 : Int) ∧ 1 ≤ n_2) → lv_has ls 4 [(0, .ref (a 1)), (1, .int (u.1 2 ((u.1 1 4)).toNatClampNeg)), (2, .int x2_2)] → xw D (wC a Y) A s.heap H locs u_2 → V = k_Reader_lookAtNumber_L17 (u.1 2 ((u.1 1 4)).toNatClampNeg) n_2 x2_2 u_2 → W p l e (xRm 1 30) s m args below meth c H locs 0 0 (MQ below (va_Qv (fun v => v = V) (xPost D (wC a Y) A) A) args s 0 0 A) (F0 m 17 ls []) := by
    intro n_2
    induction n_2 with
    | zero => intro x2_2 u_2 H locs ls i0_2 i1_2 hn; exact absurd hn.2 (by decide)
    | succ n_2 ih_2 =>
      intro x2_2 u_2 H locs ls i0_2 i1_2 hn_2 hl hw hV
      refine lv_aload_n S.1 S.2.1 dX8_lookAtNumber_17 rfl (lv_at hl 0 rfl) ?_
      refine xget (v := .int (u_2.1 1 4)) S hK hw 1 rfl rfl inX8 4 (by decide) mfX8_32 rfl dX8_lookAtNumber_18 ?_
      refine lv_aload_n S.1 S.2.1 dX8_lookAtNumber_21 rfl (lv_at hl 0 rfl) ?_
      refine xget (v := .int (u_2.1 1 1)) S hK hw 1 rfl rfl inX8 1 (by decide) mfX8_74 rfl dX8_lookAtNumber_22 ?_
      refine lv_icmp_ge (tgt := 88) S.1 S.2.1 dX8_lookAtNumber_25 (by decide) (fun c_3 => ?_) (fun c_3 => ?_)
      · replace hV := hV.trans (if_pos c_3)
        have gc_3 : ((u_2.1 1 1)).toInt ≤ ((u_2.1 1 4)).toInt := xq_le c_3 rfl rfl
        refine lv_iload_n S.1 S.2.1 dX8_lookAtNumber_88 rfl (lv_at hl 1 rfl) ?_
        refine lv_bipush (v := 48) S.1 S.2.1 dX8_lookAtNumber_89 (by decide) ?_
        refine lv_icmp_ne (tgt := 103) S.1 S.2.1 dX8_lookAtNumber_91 (by decide) (fun c_4 => ?_) (fun c_4 => ?_)
        · replace hV := hV.trans (if_neg c_4)
          have gc_4 : ¬ ((u.1 2 ((u.1 1 4)).toNatClampNeg)).toInt = 48 := xq_ne c_4 rfl rfl
          refine lv_iconst (v := 0) S.1 S.2.1 dX8_lookAtNumber_103 (by decide) ?_
          refine lv_istore_n (lv' := [(3, .int (0 : Int32)), (0, .ref (a 1)), (1, .int (u.1 2 ((u.1 1 4)).toNatClampNeg)), (2, .int x2_2)]) S.1 S.2.1 dX8_lookAtNumber_104 rfl hl (by decide) rfl (fun ls hl => ?_)
          refine lv_aload_n S.1 S.2.1 dX8_lookAtNumber_105 rfl (lv_at hl 1 rfl) ?_
          refine lv_iload_n S.1 S.2.1 dX8_lookAtNumber_106 rfl (lv_at hl 0 rfl) ?_
          refine lv_if_ne (tgt := 119) S.1 S.2.1 dX8_lookAtNumber_107 (by decide) (fun c_5 => ?_) (fun c_5 => ?_)
          · exact absurd c_5 (by decide)
          · refine lv_aload_n S.1 S.2.1 dX8_lookAtNumber_110 rfl (lv_at hl 1 rfl) ?_
            refine xget (v := .int (u_2.1 1 6)) S hK hw 1 rfl rfl inX8 6 (by decide) mfX8_45 rfl dX8_lookAtNumber_111 ?_
            refine lv_bipush (v := 99) S.1 S.2.1 dX8_lookAtNumber_114 (by decide) ?_
            refine lv_icmp_le (tgt := 123) S.1 S.2.1 dX8_lookAtNumber_116 (by decide) (fun c_6 => ?_) (fun c_6 => ?_)
            · replace hV := hV.trans (if_pos c_6)
              have gc_6 : ((u_2.1 1 6)).toInt ≤ 99 := xq_le c_6 rfl rfl
              refine lv_iconst (v := 2) S.1 S.2.1 dX8_lookAtNumber_123 (by decide) ?_
              refine xputi (ty := .int) S hK hw 1 rfl rfl inX8 tyX8 tyX8_ok nmX8 5 (by decide) mfX8_38 rfl (by decide +kernel) rfl rfl (Nat.le_of_ble_eq_true rfl) (oC_1_5 _ _ _ _) dX8_lookAtNumber_124 (fun H locs hw => ?_)
              exact xrv S hr hlk hw hV dX8_lookAtNumber_127
            · replace hV := hV.trans (if_neg c_6)
              have gc_6 : 99 < ((u_2.1 1 6)).toInt := xq_nle c_6 rfl rfl
              refine lv_iconst (v := 4) S.1 S.2.1 dX8_lookAtNumber_119 (by decide) ?_
              refine lv_goto (tgt := 124) S.1 S.2.1 dX8_lookAtNumber_120 (by decide) ?_
              refine xputi (ty := .int) S hK hw 1 rfl rfl inX8 tyX8 tyX8_ok nmX8 5 (by decide) mfX8_38 rfl (by decide +kernel) rfl rfl (Nat.le_of_ble_eq_true rfl) (oC_1_5 _ _ _ _) dX8_lookAtNumber_124 (fun H locs hw => ?_)
              exact xrv S hr hlk hw hV dX8_lookAtNumber_127
        · replace hV := hV.trans (if_pos c_4)
          have gc_4 : ((u.1 2 ((u.1 1 4)).toNatClampNeg)).toInt = 48 := xq_eq c_4 rfl rfl
          refine lv_iload_n S.1 S.2.1 dX8_lookAtNumber_94 rfl (lv_at hl 2 rfl) ?_
          refine lv_iconst (v := 1) S.1 S.2.1 dX8_lookAtNumber_95 (by decide) ?_
          refine lv_icmp_le (tgt := 103) S.1 S.2.1 dX8_lookAtNumber_96 (by decide) (fun c_9 => ?_) (fun c_9 => ?_)
          · replace hV := hV.trans (if_pos c_9)
            have gc_9 : (x2_2).toInt ≤ 1 := xq_le c_9 rfl rfl
            refine lv_iconst (v := 0) S.1 S.2.1 dX8_lookAtNumber_103 (by decide) ?_
            refine lv_istore_n (lv' := [(3, .int (0 : Int32)), (0, .ref (a 1)), (1, .int (u.1 2 ((u.1 1 4)).toNatClampNeg)), (2, .int x2_2)]) S.1 S.2.1 dX8_lookAtNumber_104 rfl hl (by decide) rfl (fun ls hl => ?_)
            refine lv_aload_n S.1 S.2.1 dX8_lookAtNumber_105 rfl (lv_at hl 1 rfl) ?_
            refine lv_iload_n S.1 S.2.1 dX8_lookAtNumber_106 rfl (lv_at hl 0 rfl) ?_
            refine lv_if_ne (tgt := 119) S.1 S.2.1 dX8_lookAtNumber_107 (by decide) (fun c_10 => ?_) (fun c_10 => ?_)
            · exact absurd c_10 (by decide)
            · refine lv_aload_n S.1 S.2.1 dX8_lookAtNumber_110 rfl (lv_at hl 1 rfl) ?_
              refine xget (v := .int (u_2.1 1 6)) S hK hw 1 rfl rfl inX8 6 (by decide) mfX8_45 rfl dX8_lookAtNumber_111 ?_
              refine lv_bipush (v := 99) S.1 S.2.1 dX8_lookAtNumber_114 (by decide) ?_
              refine lv_icmp_le (tgt := 123) S.1 S.2.1 dX8_lookAtNumber_116 (by decide) (fun c_11 => ?_) (fun c_11 => ?_)
              · replace hV := hV.trans (if_pos c_11)
                have gc_11 : ((u_2.1 1 6)).toInt ≤ 99 := xq_le c_11 rfl rfl
                refine lv_iconst (v := 2) S.1 S.2.1 dX8_lookAtNumber_123 (by decide) ?_
                refine xputi (ty := .int) S hK hw 1 rfl rfl inX8 tyX8 tyX8_ok nmX8 5 (by decide) mfX8_38 rfl (by decide +kernel) rfl rfl (Nat.le_of_ble_eq_true rfl) (oC_1_5 _ _ _ _) dX8_lookAtNumber_124 (fun H locs hw => ?_)
                exact xrv S hr hlk hw hV dX8_lookAtNumber_127
              · replace hV := hV.trans (if_neg c_11)
                have gc_11 : 99 < ((u_2.1 1 6)).toInt := xq_nle c_11 rfl rfl
                refine lv_iconst (v := 4) S.1 S.2.1 dX8_lookAtNumber_119 (by decide) ?_
                refine lv_goto (tgt := 124) S.1 S.2.1 dX8_lookAtNumber_120 (by decide) ?_
                refine xputi (ty := .int) S hK hw 1 rfl rfl inX8 tyX8 tyX8_ok nmX8 5 (by decide) mfX8_38 rfl (by decide +kernel) rfl rfl (Nat.le_of_ble_eq_true rfl) (oC_1_5 _ _ _ _) dX8_lookAtNumber_124 (fun H locs hw => ?_)
                exact xrv S hr hlk hw hV dX8_lookAtNumber_127
          · replace hV := hV.trans (if_neg c_9)
            have gc_9 : 1 < (x2_2).toInt := xq_nle c_9 rfl rfl
            refine lv_iconst (v := 1) S.1 S.2.1 dX8_lookAtNumber_99 (by decide) ?_
            refine lv_goto (tgt := 104) S.1 S.2.1 dX8_lookAtNumber_100 (by decide) ?_
            refine lv_istore_n (lv' := [(3, .int (1 : Int32)), (0, .ref (a 1)), (1, .int (u.1 2 ((u.1 1 4)).toNatClampNeg)), (2, .int x2_2)]) S.1 S.2.1 dX8_lookAtNumber_104 rfl hl (by decide) rfl (fun ls hl => ?_)
            refine lv_aload_n S.1 S.2.1 dX8_lookAtNumber_105 rfl (lv_at hl 1 rfl) ?_
            refine lv_iload_n S.1 S.2.1 dX8_lookAtNumber_106 rfl (lv_at hl 0 rfl) ?_
            refine lv_if_ne (tgt := 119) S.1 S.2.1 dX8_lookAtNumber_107 (by decide) (fun c_14 => ?_) (fun c_14 => ?_)
            · refine lv_iconst (v := 4) S.1 S.2.1 dX8_lookAtNumber_119 (by decide) ?_
              refine lv_goto (tgt := 124) S.1 S.2.1 dX8_lookAtNumber_120 (by decide) ?_
              refine xputi (ty := .int) S hK hw 1 rfl rfl inX8 tyX8 tyX8_ok nmX8 5 (by decide) mfX8_38 rfl (by decide +kernel) rfl rfl (Nat.le_of_ble_eq_true rfl) (oC_1_5 _ _ _ _) dX8_lookAtNumber_124 (fun H locs hw => ?_)
              exact xrv S hr hlk hw hV dX8_lookAtNumber_127
            · exact absurd c_14 (by decide)
      · replace hV := hV.trans (if_neg c_3)
        have gc_3 : ((u_2.1 1 4)).toInt < ((u_2.1 1 1)).toInt := xq_nle c_3 rfl rfl
        refine lv_aload_n S.1 S.2.1 dX8_lookAtNumber_28 rfl (lv_at hl 0 rfl) ?_
        refine xget (v := .ref (a 2)) S hK hw 1 rfl rfl inX8 0 (by decide) mfX8_9 rfl dX8_lookAtNumber_29 ?_
        refine lv_aload_n S.1 S.2.1 dX8_lookAtNumber_32 rfl (lv_at hl 0 rfl) ?_
        refine xget (v := .int (u_2.1 1 4)) S hK hw 1 rfl rfl inX8 4 (by decide) mfX8_32 rfl dX8_lookAtNumber_33 ?_
        refine xald (f := u_2.1 2) S hK hw 2 0 rfl rfl (xvi rfl (by omega) (by omega)) dX8_lookAtNumber_36 ?_
        refine xcP (rest := []) S hw yfX8_isDigit (c_k_Reader_isDigit l (u_2.1 2 ((u_2.1 1 4)).toNatClampNeg)) mlX8_86 rfl rfl hl.1 ⟨rfl, rfl, Nat.le_of_ble_eq_true rfl, Nat.le_of_ble_eq_true rfl, Nat.le_of_ble_eq_true rfl, Nat.zero_le _, Nat.zero_le _⟩ dX8_lookAtNumber_37 (fun H locs hw => ?_)
        refine lv_if_eq (tgt := 88) S.1 S.2.1 dX8_lookAtNumber_40 (by decide) (fun c_16 => ?_) (fun c_16 => ?_)
        · replace hV := hV.trans (if_pos c_16)
          have gc_16 : ((b2i (k_Reader_isDigit (u_2.1 2 ((u_2.1 1 4)).toNatClampNeg)))).toInt = 0 := xq_eq c_16 rfl rfl
          refine lv_iload_n S.1 S.2.1 dX8_lookAtNumber_88 rfl (lv_at hl 1 rfl) ?_
          refine lv_bipush (v := 48) S.1 S.2.1 dX8_lookAtNumber_89 (by decide) ?_
          refine lv_icmp_ne (tgt := 103) S.1 S.2.1 dX8_lookAtNumber_91 (by decide) (fun c_17 => ?_) (fun c_17 => ?_)
          · replace hV := hV.trans (if_neg c_17)
            have gc_17 : ¬ ((u.1 2 ((u.1 1 4)).toNatClampNeg)).toInt = 48 := xq_ne c_17 rfl rfl
            refine lv_iconst (v := 0) S.1 S.2.1 dX8_lookAtNumber_103 (by decide) ?_
            refine lv_istore_n (lv' := [(3, .int (0 : Int32)), (0, .ref (a 1)), (1, .int (u.1 2 ((u.1 1 4)).toNatClampNeg)), (2, .int x2_2)]) S.1 S.2.1 dX8_lookAtNumber_104 rfl hl (by decide) rfl (fun ls hl => ?_)
            refine lv_aload_n S.1 S.2.1 dX8_lookAtNumber_105 rfl (lv_at hl 1 rfl) ?_
            refine lv_iload_n S.1 S.2.1 dX8_lookAtNumber_106 rfl (lv_at hl 0 rfl) ?_
            refine lv_if_ne (tgt := 119) S.1 S.2.1 dX8_lookAtNumber_107 (by decide) (fun c_18 => ?_) (fun c_18 => ?_)
            · exact absurd c_18 (by decide)
            · refine lv_aload_n S.1 S.2.1 dX8_lookAtNumber_110 rfl (lv_at hl 1 rfl) ?_
              refine xget (v := .int (u_2.1 1 6)) S hK hw 1 rfl rfl inX8 6 (by decide) mfX8_45 rfl dX8_lookAtNumber_111 ?_
              refine lv_bipush (v := 99) S.1 S.2.1 dX8_lookAtNumber_114 (by decide) ?_
              refine lv_icmp_le (tgt := 123) S.1 S.2.1 dX8_lookAtNumber_116 (by decide) (fun c_19 => ?_) (fun c_19 => ?_)
              · replace hV := hV.trans (if_pos c_19)
                have gc_19 : ((u_2.1 1 6)).toInt ≤ 99 := xq_le c_19 rfl rfl
                refine lv_iconst (v := 2) S.1 S.2.1 dX8_lookAtNumber_123 (by decide) ?_
                refine xputi (ty := .int) S hK hw 1 rfl rfl inX8 tyX8 tyX8_ok nmX8 5 (by decide) mfX8_38 rfl (by decide +kernel) rfl rfl (Nat.le_of_ble_eq_true rfl) (oC_1_5 _ _ _ _) dX8_lookAtNumber_124 (fun H locs hw => ?_)
                exact xrv S hr hlk hw hV dX8_lookAtNumber_127
              · replace hV := hV.trans (if_neg c_19)
                have gc_19 : 99 < ((u_2.1 1 6)).toInt := xq_nle c_19 rfl rfl
                refine lv_iconst (v := 4) S.1 S.2.1 dX8_lookAtNumber_119 (by decide) ?_
                refine lv_goto (tgt := 124) S.1 S.2.1 dX8_lookAtNumber_120 (by decide) ?_
                refine xputi (ty := .int) S hK hw 1 rfl rfl inX8 tyX8 tyX8_ok nmX8 5 (by decide) mfX8_38 rfl (by decide +kernel) rfl rfl (Nat.le_of_ble_eq_true rfl) (oC_1_5 _ _ _ _) dX8_lookAtNumber_124 (fun H locs hw => ?_)
                exact xrv S hr hlk hw hV dX8_lookAtNumber_127
          · replace hV := hV.trans (if_pos c_17)
            have gc_17 : ((u.1 2 ((u.1 1 4)).toNatClampNeg)).toInt = 48 := xq_eq c_17 rfl rfl
            refine lv_iload_n S.1 S.2.1 dX8_lookAtNumber_94 rfl (lv_at hl 2 rfl) ?_
            refine lv_iconst (v := 1) S.1 S.2.1 dX8_lookAtNumber_95 (by decide) ?_
            refine lv_icmp_le (tgt := 103) S.1 S.2.1 dX8_lookAtNumber_96 (by decide) (fun c_22 => ?_) (fun c_22 => ?_)
            · replace hV := hV.trans (if_pos c_22)
              have gc_22 : (x2_2).toInt ≤ 1 := xq_le c_22 rfl rfl
              refine lv_iconst (v := 0) S.1 S.2.1 dX8_lookAtNumber_103 (by decide) ?_
              refine lv_istore_n (lv' := [(3, .int (0 : Int32)), (0, .ref (a 1)), (1, .int (u.1 2 ((u.1 1 4)).toNatClampNeg)), (2, .int x2_2)]) S.1 S.2.1 dX8_lookAtNumber_104 rfl hl (by decide) rfl (fun ls hl => ?_)
              refine lv_aload_n S.1 S.2.1 dX8_lookAtNumber_105 rfl (lv_at hl 1 rfl) ?_
              refine lv_iload_n S.1 S.2.1 dX8_lookAtNumber_106 rfl (lv_at hl 0 rfl) ?_
              refine lv_if_ne (tgt := 119) S.1 S.2.1 dX8_lookAtNumber_107 (by decide) (fun c_23 => ?_) (fun c_23 => ?_)
              · exact absurd c_23 (by decide)
              · refine lv_aload_n S.1 S.2.1 dX8_lookAtNumber_110 rfl (lv_at hl 1 rfl) ?_
                refine xget (v := .int (u_2.1 1 6)) S hK hw 1 rfl rfl inX8 6 (by decide) mfX8_45 rfl dX8_lookAtNumber_111 ?_
                refine lv_bipush (v := 99) S.1 S.2.1 dX8_lookAtNumber_114 (by decide) ?_
                refine lv_icmp_le (tgt := 123) S.1 S.2.1 dX8_lookAtNumber_116 (by decide) (fun c_24 => ?_) (fun c_24 => ?_)
                · replace hV := hV.trans (if_pos c_24)
                  have gc_24 : ((u_2.1 1 6)).toInt ≤ 99 := xq_le c_24 rfl rfl
                  refine lv_iconst (v := 2) S.1 S.2.1 dX8_lookAtNumber_123 (by decide) ?_
                  refine xputi (ty := .int) S hK hw 1 rfl rfl inX8 tyX8 tyX8_ok nmX8 5 (by decide) mfX8_38 rfl (by decide +kernel) rfl rfl (Nat.le_of_ble_eq_true rfl) (oC_1_5 _ _ _ _) dX8_lookAtNumber_124 (fun H locs hw => ?_)
                  exact xrv S hr hlk hw hV dX8_lookAtNumber_127
                · replace hV := hV.trans (if_neg c_24)
                  have gc_24 : 99 < ((u_2.1 1 6)).toInt := xq_nle c_24 rfl rfl
                  refine lv_iconst (v := 4) S.1 S.2.1 dX8_lookAtNumber_119 (by decide) ?_
                  refine lv_goto (tgt := 124) S.1 S.2.1 dX8_lookAtNumber_120 (by decide) ?_
                  refine xputi (ty := .int) S hK hw 1 rfl rfl inX8 tyX8 tyX8_ok nmX8 5 (by decide) mfX8_38 rfl (by decide +kernel) rfl rfl (Nat.le_of_ble_eq_true rfl) (oC_1_5 _ _ _ _) dX8_lookAtNumber_124 (fun H locs hw => ?_)
                  exact xrv S hr hlk hw hV dX8_lookAtNumber_127
            · replace hV := hV.trans (if_neg c_22)
              have gc_22 : 1 < (x2_2).toInt := xq_nle c_22 rfl rfl
              refine lv_iconst (v := 1) S.1 S.2.1 dX8_lookAtNumber_99 (by decide) ?_
              refine lv_goto (tgt := 104) S.1 S.2.1 dX8_lookAtNumber_100 (by decide) ?_
              refine lv_istore_n (lv' := [(3, .int (1 : Int32)), (0, .ref (a 1)), (1, .int (u.1 2 ((u.1 1 4)).toNatClampNeg)), (2, .int x2_2)]) S.1 S.2.1 dX8_lookAtNumber_104 rfl hl (by decide) rfl (fun ls hl => ?_)
              refine lv_aload_n S.1 S.2.1 dX8_lookAtNumber_105 rfl (lv_at hl 1 rfl) ?_
              refine lv_iload_n S.1 S.2.1 dX8_lookAtNumber_106 rfl (lv_at hl 0 rfl) ?_
              refine lv_if_ne (tgt := 119) S.1 S.2.1 dX8_lookAtNumber_107 (by decide) (fun c_27 => ?_) (fun c_27 => ?_)
              · refine lv_iconst (v := 4) S.1 S.2.1 dX8_lookAtNumber_119 (by decide) ?_
                refine lv_goto (tgt := 124) S.1 S.2.1 dX8_lookAtNumber_120 (by decide) ?_
                refine xputi (ty := .int) S hK hw 1 rfl rfl inX8 tyX8 tyX8_ok nmX8 5 (by decide) mfX8_38 rfl (by decide +kernel) rfl rfl (Nat.le_of_ble_eq_true rfl) (oC_1_5 _ _ _ _) dX8_lookAtNumber_124 (fun H locs hw => ?_)
                exact xrv S hr hlk hw hV dX8_lookAtNumber_127
              · exact absurd c_27 (by decide)
        · replace hV := hV.trans (if_neg c_16)
          have gc_16 : ¬ ((b2i (k_Reader_isDigit (u_2.1 2 ((u_2.1 1 4)).toNatClampNeg)))).toInt = 0 := xq_ne c_16 rfl rfl
          refine lv_aload_n S.1 S.2.1 dX8_lookAtNumber_43 rfl (lv_at hl 0 rfl) ?_
          refine lv_aload_n S.1 S.2.1 dX8_lookAtNumber_44 rfl (lv_at hl 0 rfl) ?_
          refine xget (v := .int (u_2.1 1 6)) S hK hw 1 rfl rfl inX8 6 (by decide) mfX8_45 rfl dX8_lookAtNumber_45 ?_
          refine lv_bipush (v := 10) S.1 S.2.1 dX8_lookAtNumber_48 (by decide) ?_
          refine lv_imul S.1 S.2.1 dX8_lookAtNumber_50 ?_
          refine lv_aload_n S.1 S.2.1 dX8_lookAtNumber_51 rfl (lv_at hl 0 rfl) ?_
          refine xget (v := .ref (a 2)) S hK hw 1 rfl rfl inX8 0 (by decide) mfX8_9 rfl dX8_lookAtNumber_52 ?_
          refine lv_aload_n S.1 S.2.1 dX8_lookAtNumber_55 rfl (lv_at hl 0 rfl) ?_
          refine xget (v := .int (u_2.1 1 4)) S hK hw 1 rfl rfl inX8 4 (by decide) mfX8_32 rfl dX8_lookAtNumber_56 ?_
          refine xald (f := u_2.1 2) S hK hw 2 0 rfl rfl (xvi rfl (by omega) (by omega)) dX8_lookAtNumber_59 ?_
          refine lv_iadd S.1 S.2.1 dX8_lookAtNumber_60 ?_
          refine lv_bipush (v := 48) S.1 S.2.1 dX8_lookAtNumber_61 (by decide) ?_
          refine lv_isub S.1 S.2.1 dX8_lookAtNumber_63 ?_
          refine lv_bipush (v := 100) S.1 S.2.1 dX8_lookAtNumber_64 (by decide) ?_
          refine xmin S hl.1 mlX8_92 mmin_st math_in mmin_cd ⟨Nat.le_of_ble_eq_true rfl, Nat.le_of_ble_eq_true rfl, Nat.zero_le _, Nat.zero_le _⟩ dX8_lookAtNumber_66 ?_
          refine xputi (ty := .int) S hK hw 1 rfl rfl inX8 tyX8 tyX8_ok nmX8 6 (by decide) mfX8_45 rfl (by decide +kernel) rfl rfl (Nat.le_of_ble_eq_true rfl) (oC_1_6 _ _ _ _) dX8_lookAtNumber_69 (fun H locs hw => ?_)
          refine lv_iinc (v := (x2_2 + (1 : Int32))) (lv' := [(2, .int (x2_2 + (1 : Int32))), (0, .ref (a 1)), (1, .int (u.1 2 ((u.1 1 4)).toNatClampNeg))]) S.1 S.2.1 dX8_lookAtNumber_72 hl (k := 2) rfl rfl (by decide) rfl (fun ls hl => ?_)
          refine lv_aload_n S.1 S.2.1 dX8_lookAtNumber_75 rfl (lv_at hl 1 rfl) ?_
          refine lv_dup S.1 S.2.1 dX8_lookAtNumber_76 rfl ?_
          refine xget (v := .int (u_2.1 1 4)) S hK hw 1 rfl rfl inX8 4 (by decide) mfX8_32 rfl dX8_lookAtNumber_77 ?_
          refine lv_iconst (v := 1) S.1 S.2.1 dX8_lookAtNumber_80 (by decide) ?_
          refine lv_iadd S.1 S.2.1 dX8_lookAtNumber_81 ?_
          refine xputi (ty := .int) S hK hw 1 rfl rfl inX8 tyX8 tyX8_ok nmX8 4 (by decide) mfX8_32 rfl (by decide +kernel) rfl rfl (Nat.le_of_ble_eq_true rfl) (oC_1_4 _ _ _ _) dX8_lookAtNumber_82 (fun H locs hw => ?_)
          refine lv_goto (tgt := 17) S.1 S.2.1 dX8_lookAtNumber_85 (by decide) ?_
          have e_31 : ∀ _ : Unit, (((u_2.1 1 4) + (1 : Int32))).toInt = ((u_2.1 1 4)).toInt + 1 := fun _ => xadd rfl rfl (by omega) (by omega)
          exact ih_2 (x2_2 + (1 : Int32)) (sp (sp u_2 1 (upd (u_2.1 1) 6 (if (100 : Int32) < ((((u_2.1 1 6) * (10 : Int32)) + (u_2.1 2 ((u_2.1 1 4)).toNatClampNeg)) - (48 : Int32)) then (100 : Int32) else ((((u_2.1 1 6) * (10 : Int32)) + (u_2.1 2 ((u_2.1 1 4)).toNatClampNeg)) - (48 : Int32))))) 1 (upd ((upd (u_2.1 1) 6 (if (100 : Int32) < ((((u_2.1 1 6) * (10 : Int32)) + (u_2.1 2 ((u_2.1 1 4)).toNatClampNeg)) - (48 : Int32)) then (100 : Int32) else ((((u_2.1 1 6) * (10 : Int32)) + (u_2.1 2 ((u_2.1 1 4)).toNatClampNeg)) - (48 : Int32))))) 4 ((u_2.1 1 4) + (1 : Int32)))) _ _ _ (show (0 ≤ ((u_2.1 1 1)).toInt ∧ ((u_2.1 1 1)).toInt ≤ 150) from by omega) (show (0 ≤ (((u_2.1 1 4) + (1 : Int32))).toInt ∧ (((u_2.1 1 4) + (1 : Int32))).toInt ≤ 150) from by rw [(e_31 ())]; omega) (show ((u_2.1 1 1)).toInt - (((u_2.1 1 4) + (1 : Int32))).toInt < (n_2 : Int) ∧ 1 ≤ n_2 from by rw [(e_31 ())]; omega) (lv_sub hl [1, 2, 0] rfl) hw hV
  exact lp_2 151 (0 : Int32) (sp u 1 (upd (u.1 1) 6 (0 : Int32))) _ _ _ (show (0 ≤ ((u.1 1 1)).toInt ∧ ((u.1 1 1)).toInt ≤ 150) from by omega) (show (0 ≤ ((u.1 1 4)).toInt ∧ ((u.1 1 4)).toInt ≤ 150) from by omega) (show ((u.1 1 1)).toInt - ((u.1 1 4)).toInt < ((151 : Nat) : Int) ∧ 1 ≤ (151 : Nat) from by omega) (lv_sub hl [2, 1, 0] rfl) hw hV
noncomputable def k_Reader_lookAtLetters_L12 (x1 : Int32) : Nat → Int32 → xU → xU
  | 0, _, w => w
  | n + 1, x2, w =>
    (if (w.1 1 1) ≤ (w.1 1 4) then
    let w_3 := sp w 1 (upd (w.1 1) 5 (1 : Int32))
    (if x2 = (1 : Int32) then
    let w_6 := sp w_3 1 (upd (w_3.1 1) 6 x1)
    w_6
    else
    let w_5 := sp w_3 1 (upd (w_3.1 1) 6 (0 : Int32))
    w_5)
    else
    (if (b2i (k_Reader_isLetter (w.1 2 ((w.1 1 4)).toNatClampNeg))) = (0 : Int32) then
    let w_8 := sp w 1 (upd (w.1 1) 5 (1 : Int32))
    (if x2 = (1 : Int32) then
    let w_11 := sp w_8 1 (upd (w_8.1 1) 6 x1)
    w_11
    else
    let w_10 := sp w_8 1 (upd (w_8.1 1) 6 (0 : Int32))
    w_10)
    else
    let w_12 := sp w 1 (upd (w.1 1) 4 ((w.1 1 4) + (1 : Int32)))
    k_Reader_lookAtLetters_L12 x1 n (x2 + (1 : Int32)) w_12))
noncomputable def k_Reader_lookAtLetters_b (u : xU) : xU :=
    k_Reader_lookAtLetters_L12 (u.1 2 ((u.1 1 4)).toNatClampNeg) 151 (0 : Int32) u
theorem k_Reader_lookAtLetters_x : ∃ f : xU → xU, f = k_Reader_lookAtLetters_b := ⟨_, rfl⟩
noncomputable def k_Reader_lookAtLetters : xU → xU := k_Reader_lookAtLetters_x.choose
theorem k_Reader_lookAtLetters_def : k_Reader_lookAtLetters = k_Reader_lookAtLetters_b := k_Reader_lookAtLetters_x.choose_spec
set_option maxHeartbeats 4000000 in
set_option maxRecDepth 100000 in
theorem c_k_Reader_lookAtLetters (l : Launch) (D : va_G) (a : Nat → Nat) (Y : Nat → ClassId) (ts : Nat → Nat) (u : xU) (hL : (0 ≤ ((u.1 1 1)).toInt ∧ ((u.1 1 1)).toInt ≤ 150)) (hX : (0 ≤ ((u.1 1 4)).toInt ∧ ((u.1 1 4)).toInt ≤ 150)) (hr0 : ((u.1 1 4)).toInt < ((u.1 1 1)).toInt) : xMv l yX8_lookAtLetters cX8_lookAtLetters 3 none (xRm 1 20) D (xty Y) (wC a Y) ts [.ref (a 1)] u (k_Reader_lookAtLetters u) := by
  suffices h : ∀ V, V = k_Reader_lookAtLetters_b u → xMv l yX8_lookAtLetters cX8_lookAtLetters 3 none (xRm 1 20) D (xty Y) (wC a Y) ts [.ref (a 1)] u V from h _ (by rw [k_Reader_lookAtLetters_def])
  intro V hV
  refine xofv RX8 rfl (by decide) (Nat.le_of_ble_eq_true rfl) ?_
  intro p e s m args below meth c ls H locs A S hr hlk hl hK hE hA hw
  have hl : lv_has ls 3 [(0, .ref (a 1))] := hl
  refine lv_aload_n S.1 S.2.1 dX8_lookAtLetters_0 rfl (lv_at hl 0 rfl) ?_
  refine xget (v := .ref (a 2)) S hK hw 1 rfl rfl inX8 0 (by decide) mfX8_9 rfl dX8_lookAtLetters_1 ?_
  refine lv_aload_n S.1 S.2.1 dX8_lookAtLetters_4 rfl (lv_at hl 0 rfl) ?_
  refine xget (v := .int (u.1 1 4)) S hK hw 1 rfl rfl inX8 4 (by decide) mfX8_32 rfl dX8_lookAtLetters_5 ?_
  refine xald (f := u.1 2) S hK hw 2 0 rfl rfl (xvi rfl (by omega) (by omega)) dX8_lookAtLetters_8 ?_
  refine lv_istore_n (lv' := [(1, .int (u.1 2 ((u.1 1 4)).toNatClampNeg)), (0, .ref (a 1))]) S.1 S.2.1 dX8_lookAtLetters_9 rfl hl (by decide) rfl (fun ls hl => ?_)
  refine lv_iconst (v := 0) S.1 S.2.1 dX8_lookAtLetters_10 (by decide) ?_
  refine lv_istore_n (lv' := [(2, .int (0 : Int32)), (1, .int (u.1 2 ((u.1 1 4)).toNatClampNeg)), (0, .ref (a 1))]) S.1 S.2.1 dX8_lookAtLetters_11 rfl hl (by decide) rfl (fun ls hl => ?_)
  have lp_1 : ∀ (n_1 : Nat) (x2_1 : Int32) (u_1 : xU) (H : Heap) (locs : List Loc) (ls : Array Slot), ((0 ≤ ((u_1.1 1 1)).toInt ∧ ((u_1.1 1 1)).toInt ≤ 150)) → ((0 ≤ ((u_1.1 1 4)).toInt ∧ ((u_1.1 1 4)).toInt ≤ 150)) → (((u_1.1 1 1)).toInt - ((u_1.1 1 4)).toInt < (n_1 : Int) ∧ 1 ≤ n_1) → lv_has ls 3 [(0, .ref (a 1)), (1, .int (u.1 2 ((u.1 1 4)).toNatClampNeg)), (2, .int x2_1)] → xw D (wC a Y) A s.heap H locs u_1 → V = k_Reader_lookAtLetters_L12 (u.1 2 ((u.1 1 4)).toNatClampNeg) n_1 x2_1 u_1 → W p l e (xRm 1 20) s m args below meth c H locs 0 0 (MQ below (va_Qv (fun v => v = V) (xPost D (wC a Y) A) A) args s 0 0 A) (F0 m 12 ls []) := by
    intro n_1
    induction n_1 with
    | zero => intro x2_1 u_1 H locs ls i0_1 i1_1 hn; exact absurd hn.2 (by decide)
    | succ n_1 ih_1 =>
      intro x2_1 u_1 H locs ls i0_1 i1_1 hn_1 hl hw hV
      refine lv_aload_n S.1 S.2.1 dX8_lookAtLetters_12 rfl (lv_at hl 0 rfl) ?_
      refine xget (v := .int (u_1.1 1 4)) S hK hw 1 rfl rfl inX8 4 (by decide) mfX8_32 rfl dX8_lookAtLetters_13 ?_
      refine lv_aload_n S.1 S.2.1 dX8_lookAtLetters_16 rfl (lv_at hl 0 rfl) ?_
      refine xget (v := .int (u_1.1 1 1)) S hK hw 1 rfl rfl inX8 1 (by decide) mfX8_74 rfl dX8_lookAtLetters_17 ?_
      refine lv_icmp_ge (tgt := 54) S.1 S.2.1 dX8_lookAtLetters_20 (by decide) (fun c_2 => ?_) (fun c_2 => ?_)
      · replace hV := hV.trans (if_pos c_2)
        have gc_2 : ((u_1.1 1 1)).toInt ≤ ((u_1.1 1 4)).toInt := xq_le c_2 rfl rfl
        refine lv_aload_n S.1 S.2.1 dX8_lookAtLetters_54 rfl (lv_at hl 0 rfl) ?_
        refine lv_iconst (v := 1) S.1 S.2.1 dX8_lookAtLetters_55 (by decide) ?_
        refine xputi (ty := .int) S hK hw 1 rfl rfl inX8 tyX8 tyX8_ok nmX8 5 (by decide) mfX8_38 rfl (by decide +kernel) rfl rfl (Nat.le_of_ble_eq_true rfl) (oC_1_5 _ _ _ _) dX8_lookAtLetters_56 (fun H locs hw => ?_)
        refine lv_aload_n S.1 S.2.1 dX8_lookAtLetters_59 rfl (lv_at hl 0 rfl) ?_
        refine lv_iload_n S.1 S.2.1 dX8_lookAtLetters_60 rfl (lv_at hl 2 rfl) ?_
        refine lv_iconst (v := 1) S.1 S.2.1 dX8_lookAtLetters_61 (by decide) ?_
        refine lv_icmp_ne (tgt := 69) S.1 S.2.1 dX8_lookAtLetters_62 (by decide) (fun c_4 => ?_) (fun c_4 => ?_)
        · replace hV := hV.trans (if_neg c_4)
          have gc_4 : ¬ (x2_1).toInt = 1 := xq_ne c_4 rfl rfl
          refine lv_iconst (v := 0) S.1 S.2.1 dX8_lookAtLetters_69 (by decide) ?_
          refine xputi (ty := .int) S hK hw 1 rfl rfl inX8 tyX8 tyX8_ok nmX8 6 (by decide) mfX8_45 rfl (by decide +kernel) rfl rfl (Nat.le_of_ble_eq_true rfl) (oC_1_6 _ _ _ _) dX8_lookAtLetters_70 (fun H locs hw => ?_)
          exact xrv S hr hlk hw hV dX8_lookAtLetters_73
        · replace hV := hV.trans (if_pos c_4)
          have gc_4 : (x2_1).toInt = 1 := xq_eq c_4 rfl rfl
          refine lv_iload_n S.1 S.2.1 dX8_lookAtLetters_65 rfl (lv_at hl 1 rfl) ?_
          refine lv_goto (tgt := 70) S.1 S.2.1 dX8_lookAtLetters_66 (by decide) ?_
          refine xputi (ty := .int) S hK hw 1 rfl rfl inX8 tyX8 tyX8_ok nmX8 6 (by decide) mfX8_45 rfl (by decide +kernel) rfl rfl (Nat.le_of_ble_eq_true rfl) (oC_1_6 _ _ _ _) dX8_lookAtLetters_70 (fun H locs hw => ?_)
          exact xrv S hr hlk hw hV dX8_lookAtLetters_73
      · replace hV := hV.trans (if_neg c_2)
        have gc_2 : ((u_1.1 1 4)).toInt < ((u_1.1 1 1)).toInt := xq_nle c_2 rfl rfl
        refine lv_aload_n S.1 S.2.1 dX8_lookAtLetters_23 rfl (lv_at hl 0 rfl) ?_
        refine xget (v := .ref (a 2)) S hK hw 1 rfl rfl inX8 0 (by decide) mfX8_9 rfl dX8_lookAtLetters_24 ?_
        refine lv_aload_n S.1 S.2.1 dX8_lookAtLetters_27 rfl (lv_at hl 0 rfl) ?_
        refine xget (v := .int (u_1.1 1 4)) S hK hw 1 rfl rfl inX8 4 (by decide) mfX8_32 rfl dX8_lookAtLetters_28 ?_
        refine xald (f := u_1.1 2) S hK hw 2 0 rfl rfl (xvi rfl (by omega) (by omega)) dX8_lookAtLetters_31 ?_
        refine xcP (rest := []) S hw yfX8_isLetter (c_k_Reader_isLetter l (u_1.1 2 ((u_1.1 1 4)).toNatClampNeg)) mlX8_80 rfl rfl hl.1 ⟨rfl, rfl, Nat.le_of_ble_eq_true rfl, Nat.le_of_ble_eq_true rfl, Nat.le_of_ble_eq_true rfl, Nat.zero_le _, Nat.zero_le _⟩ dX8_lookAtLetters_32 (fun H locs hw => ?_)
        refine lv_if_eq (tgt := 54) S.1 S.2.1 dX8_lookAtLetters_35 (by decide) (fun c_7 => ?_) (fun c_7 => ?_)
        · replace hV := hV.trans (if_pos c_7)
          have gc_7 : ((b2i (k_Reader_isLetter (u_1.1 2 ((u_1.1 1 4)).toNatClampNeg)))).toInt = 0 := xq_eq c_7 rfl rfl
          refine lv_aload_n S.1 S.2.1 dX8_lookAtLetters_54 rfl (lv_at hl 0 rfl) ?_
          refine lv_iconst (v := 1) S.1 S.2.1 dX8_lookAtLetters_55 (by decide) ?_
          refine xputi (ty := .int) S hK hw 1 rfl rfl inX8 tyX8 tyX8_ok nmX8 5 (by decide) mfX8_38 rfl (by decide +kernel) rfl rfl (Nat.le_of_ble_eq_true rfl) (oC_1_5 _ _ _ _) dX8_lookAtLetters_56 (fun H locs hw => ?_)
          refine lv_aload_n S.1 S.2.1 dX8_lookAtLetters_59 rfl (lv_at hl 0 rfl) ?_
          refine lv_iload_n S.1 S.2.1 dX8_lookAtLetters_60 rfl (lv_at hl 2 rfl) ?_
          refine lv_iconst (v := 1) S.1 S.2.1 dX8_lookAtLetters_61 (by decide) ?_
          refine lv_icmp_ne (tgt := 69) S.1 S.2.1 dX8_lookAtLetters_62 (by decide) (fun c_9 => ?_) (fun c_9 => ?_)
          · replace hV := hV.trans (if_neg c_9)
            have gc_9 : ¬ (x2_1).toInt = 1 := xq_ne c_9 rfl rfl
            refine lv_iconst (v := 0) S.1 S.2.1 dX8_lookAtLetters_69 (by decide) ?_
            refine xputi (ty := .int) S hK hw 1 rfl rfl inX8 tyX8 tyX8_ok nmX8 6 (by decide) mfX8_45 rfl (by decide +kernel) rfl rfl (Nat.le_of_ble_eq_true rfl) (oC_1_6 _ _ _ _) dX8_lookAtLetters_70 (fun H locs hw => ?_)
            exact xrv S hr hlk hw hV dX8_lookAtLetters_73
          · replace hV := hV.trans (if_pos c_9)
            have gc_9 : (x2_1).toInt = 1 := xq_eq c_9 rfl rfl
            refine lv_iload_n S.1 S.2.1 dX8_lookAtLetters_65 rfl (lv_at hl 1 rfl) ?_
            refine lv_goto (tgt := 70) S.1 S.2.1 dX8_lookAtLetters_66 (by decide) ?_
            refine xputi (ty := .int) S hK hw 1 rfl rfl inX8 tyX8 tyX8_ok nmX8 6 (by decide) mfX8_45 rfl (by decide +kernel) rfl rfl (Nat.le_of_ble_eq_true rfl) (oC_1_6 _ _ _ _) dX8_lookAtLetters_70 (fun H locs hw => ?_)
            exact xrv S hr hlk hw hV dX8_lookAtLetters_73
        · replace hV := hV.trans (if_neg c_7)
          have gc_7 : ¬ ((b2i (k_Reader_isLetter (u_1.1 2 ((u_1.1 1 4)).toNatClampNeg)))).toInt = 0 := xq_ne c_7 rfl rfl
          refine lv_iinc (v := (x2_1 + (1 : Int32))) (lv' := [(2, .int (x2_1 + (1 : Int32))), (0, .ref (a 1)), (1, .int (u.1 2 ((u.1 1 4)).toNatClampNeg))]) S.1 S.2.1 dX8_lookAtLetters_38 hl (k := 2) rfl rfl (by decide) rfl (fun ls hl => ?_)
          refine lv_aload_n S.1 S.2.1 dX8_lookAtLetters_41 rfl (lv_at hl 1 rfl) ?_
          refine lv_dup S.1 S.2.1 dX8_lookAtLetters_42 rfl ?_
          refine xget (v := .int (u_1.1 1 4)) S hK hw 1 rfl rfl inX8 4 (by decide) mfX8_32 rfl dX8_lookAtLetters_43 ?_
          refine lv_iconst (v := 1) S.1 S.2.1 dX8_lookAtLetters_46 (by decide) ?_
          refine lv_iadd S.1 S.2.1 dX8_lookAtLetters_47 ?_
          refine xputi (ty := .int) S hK hw 1 rfl rfl inX8 tyX8 tyX8_ok nmX8 4 (by decide) mfX8_32 rfl (by decide +kernel) rfl rfl (Nat.le_of_ble_eq_true rfl) (oC_1_4 _ _ _ _) dX8_lookAtLetters_48 (fun H locs hw => ?_)
          refine lv_goto (tgt := 12) S.1 S.2.1 dX8_lookAtLetters_51 (by decide) ?_
          have e_13 : ∀ _ : Unit, (((u_1.1 1 4) + (1 : Int32))).toInt = ((u_1.1 1 4)).toInt + 1 := fun _ => xadd rfl rfl (by omega) (by omega)
          exact ih_1 (x2_1 + (1 : Int32)) (sp u_1 1 (upd (u_1.1 1) 4 ((u_1.1 1 4) + (1 : Int32)))) _ _ _ (show (0 ≤ ((u_1.1 1 1)).toInt ∧ ((u_1.1 1 1)).toInt ≤ 150) from by omega) (show (0 ≤ (((u_1.1 1 4) + (1 : Int32))).toInt ∧ (((u_1.1 1 4) + (1 : Int32))).toInt ≤ 150) from by rw [(e_13 ())]; omega) (show ((u_1.1 1 1)).toInt - (((u_1.1 1 4) + (1 : Int32))).toInt < (n_1 : Int) ∧ 1 ≤ n_1 from by rw [(e_13 ())]; omega) (lv_sub hl [1, 2, 0] rfl) hw hV
  exact lp_1 151 (0 : Int32) u _ _ _ (show (0 ≤ ((u.1 1 1)).toInt ∧ ((u.1 1 1)).toInt ≤ 150) from by omega) (show (0 ≤ ((u.1 1 4)).toInt ∧ ((u.1 1 4)).toInt ≤ 150) from by omega) (show ((u.1 1 1)).toInt - ((u.1 1 4)).toInt < ((151 : Nat) : Int) ∧ 1 ≤ (151 : Nat) from by omega) (lv_sub hl [2, 1, 0] rfl) hw hV
noncomputable def k_Reader_look_L0 : Nat → xU → xU
  | 0, w => w
  | n + 1, w =>
    (if (w.1 1 1) ≤ (w.1 1 4) then
    let w_3 := sp w 1 (upd (w.1 1) 3 (w.1 1 4))
    (if (w_3.1 1 4) < (w_3.1 1 1) then
    (if (b2i (k_Reader_isLetter (w.1 2 ((w_3.1 1 4)).toNatClampNeg))) = (0 : Int32) then
    (if (b2i (k_Reader_isDigit (w.1 2 ((w_3.1 1 4)).toNatClampNeg))) = (0 : Int32) then
    (if (w.1 2 ((w_3.1 1 4)).toNatClampNeg) = (59 : Int32) then
    let w_10 := sp w_3 1 (upd (w_3.1 1) 5 (3 : Int32))
    let w_11 := sp w_10 1 (upd (w_10.1 1) 4 ((w_10.1 1 4) + (1 : Int32)))
    w_11
    else
    let w_8 := sp w_3 1 (upd (w_3.1 1) 5 (4 : Int32))
    let w_9 := sp w_8 1 (upd (w_8.1 1) 4 ((w_8.1 1 4) + (1 : Int32)))
    w_9)
    else
    let r_12 := k_Reader_lookAtNumber w_3
    r_12)
    else
    let r_13 := k_Reader_lookAtLetters w_3
    r_13)
    else
    let w_14 := sp w_3 1 (upd (w_3.1 1) 5 (0 : Int32))
    w_14)
    else
    (if (w.1 2 ((w.1 1 4)).toNatClampNeg) = (32 : Int32) then
    let w_28 := sp w 1 (upd (w.1 1) 4 ((w.1 1 4) + (1 : Int32)))
    k_Reader_look_L0 n w_28
    else
    let w_16 := sp w 1 (upd (w.1 1) 3 (w.1 1 4))
    (if (w_16.1 1 4) < (w_16.1 1 1) then
    (if (b2i (k_Reader_isLetter (w.1 2 ((w_16.1 1 4)).toNatClampNeg))) = (0 : Int32) then
    (if (b2i (k_Reader_isDigit (w.1 2 ((w_16.1 1 4)).toNatClampNeg))) = (0 : Int32) then
    (if (w.1 2 ((w_16.1 1 4)).toNatClampNeg) = (59 : Int32) then
    let w_23 := sp w_16 1 (upd (w_16.1 1) 5 (3 : Int32))
    let w_24 := sp w_23 1 (upd (w_23.1 1) 4 ((w_23.1 1 4) + (1 : Int32)))
    w_24
    else
    let w_21 := sp w_16 1 (upd (w_16.1 1) 5 (4 : Int32))
    let w_22 := sp w_21 1 (upd (w_21.1 1) 4 ((w_21.1 1 4) + (1 : Int32)))
    w_22)
    else
    let r_25 := k_Reader_lookAtNumber w_16
    r_25)
    else
    let r_26 := k_Reader_lookAtLetters w_16
    r_26)
    else
    let w_27 := sp w_16 1 (upd (w_16.1 1) 5 (0 : Int32))
    w_27)))
noncomputable def k_Reader_look_b (u : xU) : xU :=
    k_Reader_look_L0 151 u
theorem k_Reader_look_x : ∃ f : xU → xU, f = k_Reader_look_b := ⟨_, rfl⟩
noncomputable def k_Reader_look : xU → xU := k_Reader_look_x.choose
theorem k_Reader_look_def : k_Reader_look = k_Reader_look_b := k_Reader_look_x.choose_spec
set_option maxHeartbeats 4000000 in
set_option maxRecDepth 100000 in
theorem c_k_Reader_look (l : Launch) (D : va_G) (a : Nat → Nat) (Y : Nat → ClassId) (ts : Nat → Nat) (u : xU) (hL : (0 ≤ ((u.1 1 1)).toInt ∧ ((u.1 1 1)).toInt ≤ 150)) (hX : (0 ≤ ((u.1 1 4)).toInt ∧ ((u.1 1 4)).toInt ≤ 150)) : xMv l yX8_look cX8_look 1 none (xRm 2 53) D (xty Y) (wC a Y) ts [.ref (a 1)] u (k_Reader_look u) := by
  suffices h : ∀ V, V = k_Reader_look_b u → xMv l yX8_look cX8_look 1 none (xRm 2 53) D (xty Y) (wC a Y) ts [.ref (a 1)] u V from h _ (by rw [k_Reader_look_def])
  intro V hV
  refine xofv RX8 rfl (by decide) (Nat.le_of_ble_eq_true rfl) ?_
  intro p e s m args below meth c ls H locs A S hr hlk hl hK hE hA hw
  have hl : lv_has ls 1 [(0, .ref (a 1))] := hl
  have lp_1 : ∀ (n_1 : Nat) (u_1 : xU) (H : Heap) (locs : List Loc) (ls : Array Slot), ((0 ≤ ((u_1.1 1 1)).toInt ∧ ((u_1.1 1 1)).toInt ≤ 150)) → ((0 ≤ ((u_1.1 1 4)).toInt ∧ ((u_1.1 1 4)).toInt ≤ 150)) → (((u_1.1 1 1)).toInt - ((u_1.1 1 4)).toInt < (n_1 : Int) ∧ 1 ≤ n_1) → lv_has ls 1 [(0, .ref (a 1))] → xw D (wC a Y) A s.heap H locs u_1 → V = k_Reader_look_L0 n_1 u_1 → W p l e (xRm 2 53) s m args below meth c H locs 0 0 (MQ below (va_Qv (fun v => v = V) (xPost D (wC a Y) A) A) args s 0 0 A) (F0 m 0 ls []) := by
    intro n_1
    induction n_1 with
    | zero => intro  u_1 H locs ls i0_1 i1_1 hn; exact absurd hn.2 (by decide)
    | succ n_1 ih_1 =>
      intro  u_1 H locs ls i0_1 i1_1 hn_1 hl hw hV
      refine lv_aload_n S.1 S.2.1 dX8_look_0 rfl (lv_at hl 0 rfl) ?_
      refine xget (v := .int (u_1.1 1 4)) S hK hw 1 rfl rfl inX8 4 (by decide) mfX8_32 rfl dX8_look_1 ?_
      refine lv_aload_n S.1 S.2.1 dX8_look_4 rfl (lv_at hl 0 rfl) ?_
      refine xget (v := .int (u_1.1 1 1)) S hK hw 1 rfl rfl inX8 1 (by decide) mfX8_74 rfl dX8_look_5 ?_
      refine lv_icmp_ge (tgt := 38) S.1 S.2.1 dX8_look_8 (by decide) (fun c_2 => ?_) (fun c_2 => ?_)
      · replace hV := hV.trans (if_pos c_2)
        have gc_2 : ((u_1.1 1 1)).toInt ≤ ((u_1.1 1 4)).toInt := xq_le c_2 rfl rfl
        refine lv_aload_n S.1 S.2.1 dX8_look_38 rfl (lv_at hl 0 rfl) ?_
        refine lv_aload_n S.1 S.2.1 dX8_look_39 rfl (lv_at hl 0 rfl) ?_
        refine xget (v := .int (u_1.1 1 4)) S hK hw 1 rfl rfl inX8 4 (by decide) mfX8_32 rfl dX8_look_40 ?_
        refine xputi (ty := .int) S hK hw 1 rfl rfl inX8 tyX8 tyX8_ok nmX8 3 (by decide) mfX8_77 rfl (by decide +kernel) rfl rfl (Nat.le_of_ble_eq_true rfl) (oC_1_3 _ _ _ _) dX8_look_43 (fun H locs hw => ?_)
        refine lv_aload_n S.1 S.2.1 dX8_look_46 rfl (lv_at hl 0 rfl) ?_
        refine xget (v := .int (u_1.1 1 4)) S hK hw 1 rfl rfl inX8 4 (by decide) mfX8_32 rfl dX8_look_47 ?_
        refine lv_aload_n S.1 S.2.1 dX8_look_50 rfl (lv_at hl 0 rfl) ?_
        refine xget (v := .int (u_1.1 1 1)) S hK hw 1 rfl rfl inX8 1 (by decide) mfX8_74 rfl dX8_look_51 ?_
        refine lv_icmp_lt (tgt := 65) S.1 S.2.1 dX8_look_54 (by decide) (fun c_4 => ?_) (fun c_4 => ?_)
        · replace hV := hV.trans (if_pos c_4)
          have gc_4 : ((u_1.1 1 4)).toInt < ((u_1.1 1 1)).toInt := xq_lt c_4 rfl rfl
          refine lv_aload_n S.1 S.2.1 dX8_look_65 rfl (lv_at hl 0 rfl) ?_
          refine xget (v := .ref (a 2)) S hK hw 1 rfl rfl inX8 0 (by decide) mfX8_9 rfl dX8_look_66 ?_
          refine lv_aload_n S.1 S.2.1 dX8_look_69 rfl (lv_at hl 0 rfl) ?_
          refine xget (v := .int (u_1.1 1 4)) S hK hw 1 rfl rfl inX8 4 (by decide) mfX8_32 rfl dX8_look_70 ?_
          refine xald (f := u_1.1 2) S hK hw 2 0 rfl rfl (xvi rfl (by omega) (by omega)) dX8_look_73 ?_
          refine xcP (rest := []) S hw yfX8_isLetter (c_k_Reader_isLetter l (u_1.1 2 ((u_1.1 1 4)).toNatClampNeg)) mlX8_80 rfl rfl hl.1 ⟨rfl, rfl, Nat.le_of_ble_eq_true rfl, Nat.le_of_ble_eq_true rfl, Nat.le_of_ble_eq_true rfl, Nat.zero_le _, Nat.zero_le _⟩ dX8_look_74 (fun H locs hw => ?_)
          refine lv_if_eq (tgt := 87) S.1 S.2.1 dX8_look_77 (by decide) (fun c_5 => ?_) (fun c_5 => ?_)
          · replace hV := hV.trans (if_pos c_5)
            have gc_5 : ((b2i (k_Reader_isLetter (u_1.1 2 ((u_1.1 1 4)).toNatClampNeg)))).toInt = 0 := xq_eq c_5 rfl rfl
            refine lv_aload_n S.1 S.2.1 dX8_look_87 rfl (lv_at hl 0 rfl) ?_
            refine xget (v := .ref (a 2)) S hK hw 1 rfl rfl inX8 0 (by decide) mfX8_9 rfl dX8_look_88 ?_
            refine lv_aload_n S.1 S.2.1 dX8_look_91 rfl (lv_at hl 0 rfl) ?_
            refine xget (v := .int (u_1.1 1 4)) S hK hw 1 rfl rfl inX8 4 (by decide) mfX8_32 rfl dX8_look_92 ?_
            refine xald (f := u_1.1 2) S hK hw 2 0 rfl rfl (xvi rfl (by omega) (by omega)) dX8_look_95 ?_
            refine xcP (rest := []) S hw yfX8_isDigit (c_k_Reader_isDigit l (u_1.1 2 ((u_1.1 1 4)).toNatClampNeg)) mlX8_86 rfl rfl hl.1 ⟨rfl, rfl, Nat.le_of_ble_eq_true rfl, Nat.le_of_ble_eq_true rfl, Nat.le_of_ble_eq_true rfl, Nat.zero_le _, Nat.zero_le _⟩ dX8_look_96 (fun H locs hw => ?_)
            refine lv_if_eq (tgt := 109) S.1 S.2.1 dX8_look_99 (by decide) (fun c_6 => ?_) (fun c_6 => ?_)
            · replace hV := hV.trans (if_pos c_6)
              have gc_6 : ((b2i (k_Reader_isDigit (u_1.1 2 ((u_1.1 1 4)).toNatClampNeg)))).toInt = 0 := xq_eq c_6 rfl rfl
              refine lv_aload_n S.1 S.2.1 dX8_look_109 rfl (lv_at hl 0 rfl) ?_
              refine lv_aload_n S.1 S.2.1 dX8_look_110 rfl (lv_at hl 0 rfl) ?_
              refine xget (v := .ref (a 2)) S hK hw 1 rfl rfl inX8 0 (by decide) mfX8_9 rfl dX8_look_111 ?_
              refine lv_aload_n S.1 S.2.1 dX8_look_114 rfl (lv_at hl 0 rfl) ?_
              refine xget (v := .int (u_1.1 1 4)) S hK hw 1 rfl rfl inX8 4 (by decide) mfX8_32 rfl dX8_look_115 ?_
              refine xald (f := u_1.1 2) S hK hw 2 0 rfl rfl (xvi rfl (by omega) (by omega)) dX8_look_118 ?_
              refine lv_bipush (v := 59) S.1 S.2.1 dX8_look_119 (by decide) ?_
              refine lv_icmp_ne (tgt := 128) S.1 S.2.1 dX8_look_121 (by decide) (fun c_7 => ?_) (fun c_7 => ?_)
              · replace hV := hV.trans (if_neg c_7)
                have gc_7 : ¬ ((u_1.1 2 ((u_1.1 1 4)).toNatClampNeg)).toInt = 59 := xq_ne c_7 rfl rfl
                refine lv_iconst (v := 4) S.1 S.2.1 dX8_look_128 (by decide) ?_
                refine xputi (ty := .int) S hK hw 1 rfl rfl inX8 tyX8 tyX8_ok nmX8 5 (by decide) mfX8_38 rfl (by decide +kernel) rfl rfl (Nat.le_of_ble_eq_true rfl) (oC_1_5 _ _ _ _) dX8_look_129 (fun H locs hw => ?_)
                refine lv_aload_n S.1 S.2.1 dX8_look_132 rfl (lv_at hl 0 rfl) ?_
                refine lv_dup S.1 S.2.1 dX8_look_133 rfl ?_
                refine xget (v := .int (u_1.1 1 4)) S hK hw 1 rfl rfl inX8 4 (by decide) mfX8_32 rfl dX8_look_134 ?_
                refine lv_iconst (v := 1) S.1 S.2.1 dX8_look_137 (by decide) ?_
                refine lv_iadd S.1 S.2.1 dX8_look_138 ?_
                refine xputi (ty := .int) S hK hw 1 rfl rfl inX8 tyX8 tyX8_ok nmX8 4 (by decide) mfX8_32 rfl (by decide +kernel) rfl rfl (Nat.le_of_ble_eq_true rfl) (oC_1_4 _ _ _ _) dX8_look_139 (fun H locs hw => ?_)
                exact xrv S hr hlk hw hV dX8_look_142
              · replace hV := hV.trans (if_pos c_7)
                have gc_7 : ((u_1.1 2 ((u_1.1 1 4)).toNatClampNeg)).toInt = 59 := xq_eq c_7 rfl rfl
                refine lv_iconst (v := 3) S.1 S.2.1 dX8_look_124 (by decide) ?_
                refine lv_goto (tgt := 129) S.1 S.2.1 dX8_look_125 (by decide) ?_
                refine xputi (ty := .int) S hK hw 1 rfl rfl inX8 tyX8 tyX8_ok nmX8 5 (by decide) mfX8_38 rfl (by decide +kernel) rfl rfl (Nat.le_of_ble_eq_true rfl) (oC_1_5 _ _ _ _) dX8_look_129 (fun H locs hw => ?_)
                refine lv_aload_n S.1 S.2.1 dX8_look_132 rfl (lv_at hl 0 rfl) ?_
                refine lv_dup S.1 S.2.1 dX8_look_133 rfl ?_
                refine xget (v := .int (u_1.1 1 4)) S hK hw 1 rfl rfl inX8 4 (by decide) mfX8_32 rfl dX8_look_134 ?_
                refine lv_iconst (v := 1) S.1 S.2.1 dX8_look_137 (by decide) ?_
                refine lv_iadd S.1 S.2.1 dX8_look_138 ?_
                refine xputi (ty := .int) S hK hw 1 rfl rfl inX8 tyX8 tyX8_ok nmX8 4 (by decide) mfX8_32 rfl (by decide +kernel) rfl rfl (Nat.le_of_ble_eq_true rfl) (oC_1_4 _ _ _ _) dX8_look_139 (fun H locs hw => ?_)
                exact xrv S hr hlk hw hV dX8_look_142
            · replace hV := hV.trans (if_neg c_6)
              have gc_6 : ¬ ((b2i (k_Reader_isDigit (u_1.1 2 ((u_1.1 1 4)).toNatClampNeg)))).toInt = 0 := xq_ne c_6 rfl rfl
              refine lv_aload_n S.1 S.2.1 dX8_look_102 rfl (lv_at hl 0 rfl) ?_
              refine xcVv (rest := []) S hK hE hA hw yfX8_lookAtNumber (c_k_Reader_lookAtNumber l D a Y ts _ (show (0 ≤ ((u_1.1 1 1)).toInt ∧ ((u_1.1 1 1)).toInt ≤ 150) from by omega) (show (0 ≤ ((u_1.1 1 4)).toInt ∧ ((u_1.1 1 4)).toInt ≤ 150) from by omega) (show ((u_1.1 1 4)).toInt < ((u_1.1 1 1)).toInt from by omega)) 1 rfl rfl mlX8_89 rfl rfl hl.1 ⟨rfl, rfl, Nat.le_of_ble_eq_true rfl, Nat.le_of_ble_eq_true rfl, Nat.le_of_ble_eq_true rfl, Nat.zero_le _, Nat.zero_le _⟩ dX8_look_103 (fun H locs hw => ?_)
              refine lv_goto (tgt := 142) S.1 S.2.1 dX8_look_106 (by decide) ?_
              exact xrv S hr hlk hw hV dX8_look_142
          · replace hV := hV.trans (if_neg c_5)
            have gc_5 : ¬ ((b2i (k_Reader_isLetter (u_1.1 2 ((u_1.1 1 4)).toNatClampNeg)))).toInt = 0 := xq_ne c_5 rfl rfl
            refine lv_aload_n S.1 S.2.1 dX8_look_80 rfl (lv_at hl 0 rfl) ?_
            refine xcVv (rest := []) S hK hE hA hw yfX8_lookAtLetters (c_k_Reader_lookAtLetters l D a Y ts _ (show (0 ≤ ((u_1.1 1 1)).toInt ∧ ((u_1.1 1 1)).toInt ≤ 150) from by omega) (show (0 ≤ ((u_1.1 1 4)).toInt ∧ ((u_1.1 1 4)).toInt ≤ 150) from by omega) (show ((u_1.1 1 4)).toInt < ((u_1.1 1 1)).toInt from by omega)) 1 rfl rfl mlX8_83 rfl rfl hl.1 ⟨rfl, rfl, Nat.le_of_ble_eq_true rfl, Nat.le_of_ble_eq_true rfl, Nat.le_of_ble_eq_true rfl, Nat.zero_le _, Nat.zero_le _⟩ dX8_look_81 (fun H locs hw => ?_)
            refine lv_goto (tgt := 142) S.1 S.2.1 dX8_look_84 (by decide) ?_
            exact xrv S hr hlk hw hV dX8_look_142
        · replace hV := hV.trans (if_neg c_4)
          have gc_4 : ((u_1.1 1 1)).toInt ≤ ((u_1.1 1 4)).toInt := xq_nlt c_4 rfl rfl
          refine lv_aload_n S.1 S.2.1 dX8_look_57 rfl (lv_at hl 0 rfl) ?_
          refine lv_iconst (v := 0) S.1 S.2.1 dX8_look_58 (by decide) ?_
          refine xputi (ty := .int) S hK hw 1 rfl rfl inX8 tyX8 tyX8_ok nmX8 5 (by decide) mfX8_38 rfl (by decide +kernel) rfl rfl (Nat.le_of_ble_eq_true rfl) (oC_1_5 _ _ _ _) dX8_look_59 (fun H locs hw => ?_)
          refine lv_goto (tgt := 142) S.1 S.2.1 dX8_look_62 (by decide) ?_
          exact xrv S hr hlk hw hV dX8_look_142
      · replace hV := hV.trans (if_neg c_2)
        have gc_2 : ((u_1.1 1 4)).toInt < ((u_1.1 1 1)).toInt := xq_nle c_2 rfl rfl
        refine lv_aload_n S.1 S.2.1 dX8_look_11 rfl (lv_at hl 0 rfl) ?_
        refine xget (v := .ref (a 2)) S hK hw 1 rfl rfl inX8 0 (by decide) mfX8_9 rfl dX8_look_12 ?_
        refine lv_aload_n S.1 S.2.1 dX8_look_15 rfl (lv_at hl 0 rfl) ?_
        refine xget (v := .int (u_1.1 1 4)) S hK hw 1 rfl rfl inX8 4 (by decide) mfX8_32 rfl dX8_look_16 ?_
        refine xald (f := u_1.1 2) S hK hw 2 0 rfl rfl (xvi rfl (by omega) (by omega)) dX8_look_19 ?_
        refine lv_bipush (v := 32) S.1 S.2.1 dX8_look_20 (by decide) ?_
        refine lv_icmp_ne (tgt := 38) S.1 S.2.1 dX8_look_22 (by decide) (fun c_15 => ?_) (fun c_15 => ?_)
        · replace hV := hV.trans (if_neg c_15)
          have gc_15 : ¬ ((u_1.1 2 ((u_1.1 1 4)).toNatClampNeg)).toInt = 32 := xq_ne c_15 rfl rfl
          refine lv_aload_n S.1 S.2.1 dX8_look_38 rfl (lv_at hl 0 rfl) ?_
          refine lv_aload_n S.1 S.2.1 dX8_look_39 rfl (lv_at hl 0 rfl) ?_
          refine xget (v := .int (u_1.1 1 4)) S hK hw 1 rfl rfl inX8 4 (by decide) mfX8_32 rfl dX8_look_40 ?_
          refine xputi (ty := .int) S hK hw 1 rfl rfl inX8 tyX8 tyX8_ok nmX8 3 (by decide) mfX8_77 rfl (by decide +kernel) rfl rfl (Nat.le_of_ble_eq_true rfl) (oC_1_3 _ _ _ _) dX8_look_43 (fun H locs hw => ?_)
          refine lv_aload_n S.1 S.2.1 dX8_look_46 rfl (lv_at hl 0 rfl) ?_
          refine xget (v := .int (u_1.1 1 4)) S hK hw 1 rfl rfl inX8 4 (by decide) mfX8_32 rfl dX8_look_47 ?_
          refine lv_aload_n S.1 S.2.1 dX8_look_50 rfl (lv_at hl 0 rfl) ?_
          refine xget (v := .int (u_1.1 1 1)) S hK hw 1 rfl rfl inX8 1 (by decide) mfX8_74 rfl dX8_look_51 ?_
          refine lv_icmp_lt (tgt := 65) S.1 S.2.1 dX8_look_54 (by decide) (fun c_17 => ?_) (fun c_17 => ?_)
          · replace hV := hV.trans (if_pos c_17)
            have gc_17 : ((u_1.1 1 4)).toInt < ((u_1.1 1 1)).toInt := xq_lt c_17 rfl rfl
            refine lv_aload_n S.1 S.2.1 dX8_look_65 rfl (lv_at hl 0 rfl) ?_
            refine xget (v := .ref (a 2)) S hK hw 1 rfl rfl inX8 0 (by decide) mfX8_9 rfl dX8_look_66 ?_
            refine lv_aload_n S.1 S.2.1 dX8_look_69 rfl (lv_at hl 0 rfl) ?_
            refine xget (v := .int (u_1.1 1 4)) S hK hw 1 rfl rfl inX8 4 (by decide) mfX8_32 rfl dX8_look_70 ?_
            refine xald (f := u_1.1 2) S hK hw 2 0 rfl rfl (xvi rfl (by omega) (by omega)) dX8_look_73 ?_
            refine xcP (rest := []) S hw yfX8_isLetter (c_k_Reader_isLetter l (u_1.1 2 ((u_1.1 1 4)).toNatClampNeg)) mlX8_80 rfl rfl hl.1 ⟨rfl, rfl, Nat.le_of_ble_eq_true rfl, Nat.le_of_ble_eq_true rfl, Nat.le_of_ble_eq_true rfl, Nat.zero_le _, Nat.zero_le _⟩ dX8_look_74 (fun H locs hw => ?_)
            refine lv_if_eq (tgt := 87) S.1 S.2.1 dX8_look_77 (by decide) (fun c_18 => ?_) (fun c_18 => ?_)
            · replace hV := hV.trans (if_pos c_18)
              have gc_18 : ((b2i (k_Reader_isLetter (u_1.1 2 ((u_1.1 1 4)).toNatClampNeg)))).toInt = 0 := xq_eq c_18 rfl rfl
              refine lv_aload_n S.1 S.2.1 dX8_look_87 rfl (lv_at hl 0 rfl) ?_
              refine xget (v := .ref (a 2)) S hK hw 1 rfl rfl inX8 0 (by decide) mfX8_9 rfl dX8_look_88 ?_
              refine lv_aload_n S.1 S.2.1 dX8_look_91 rfl (lv_at hl 0 rfl) ?_
              refine xget (v := .int (u_1.1 1 4)) S hK hw 1 rfl rfl inX8 4 (by decide) mfX8_32 rfl dX8_look_92 ?_
              refine xald (f := u_1.1 2) S hK hw 2 0 rfl rfl (xvi rfl (by omega) (by omega)) dX8_look_95 ?_
              refine xcP (rest := []) S hw yfX8_isDigit (c_k_Reader_isDigit l (u_1.1 2 ((u_1.1 1 4)).toNatClampNeg)) mlX8_86 rfl rfl hl.1 ⟨rfl, rfl, Nat.le_of_ble_eq_true rfl, Nat.le_of_ble_eq_true rfl, Nat.le_of_ble_eq_true rfl, Nat.zero_le _, Nat.zero_le _⟩ dX8_look_96 (fun H locs hw => ?_)
              refine lv_if_eq (tgt := 109) S.1 S.2.1 dX8_look_99 (by decide) (fun c_19 => ?_) (fun c_19 => ?_)
              · replace hV := hV.trans (if_pos c_19)
                have gc_19 : ((b2i (k_Reader_isDigit (u_1.1 2 ((u_1.1 1 4)).toNatClampNeg)))).toInt = 0 := xq_eq c_19 rfl rfl
                refine lv_aload_n S.1 S.2.1 dX8_look_109 rfl (lv_at hl 0 rfl) ?_
                refine lv_aload_n S.1 S.2.1 dX8_look_110 rfl (lv_at hl 0 rfl) ?_
                refine xget (v := .ref (a 2)) S hK hw 1 rfl rfl inX8 0 (by decide) mfX8_9 rfl dX8_look_111 ?_
                refine lv_aload_n S.1 S.2.1 dX8_look_114 rfl (lv_at hl 0 rfl) ?_
                refine xget (v := .int (u_1.1 1 4)) S hK hw 1 rfl rfl inX8 4 (by decide) mfX8_32 rfl dX8_look_115 ?_
                refine xald (f := u_1.1 2) S hK hw 2 0 rfl rfl (xvi rfl (by omega) (by omega)) dX8_look_118 ?_
                refine lv_bipush (v := 59) S.1 S.2.1 dX8_look_119 (by decide) ?_
                refine lv_icmp_ne (tgt := 128) S.1 S.2.1 dX8_look_121 (by decide) (fun c_20 => ?_) (fun c_20 => ?_)
                · replace hV := hV.trans (if_neg c_20)
                  have gc_20 : ¬ ((u_1.1 2 ((u_1.1 1 4)).toNatClampNeg)).toInt = 59 := xq_ne c_20 rfl rfl
                  refine lv_iconst (v := 4) S.1 S.2.1 dX8_look_128 (by decide) ?_
                  refine xputi (ty := .int) S hK hw 1 rfl rfl inX8 tyX8 tyX8_ok nmX8 5 (by decide) mfX8_38 rfl (by decide +kernel) rfl rfl (Nat.le_of_ble_eq_true rfl) (oC_1_5 _ _ _ _) dX8_look_129 (fun H locs hw => ?_)
                  refine lv_aload_n S.1 S.2.1 dX8_look_132 rfl (lv_at hl 0 rfl) ?_
                  refine lv_dup S.1 S.2.1 dX8_look_133 rfl ?_
                  refine xget (v := .int (u_1.1 1 4)) S hK hw 1 rfl rfl inX8 4 (by decide) mfX8_32 rfl dX8_look_134 ?_
                  refine lv_iconst (v := 1) S.1 S.2.1 dX8_look_137 (by decide) ?_
                  refine lv_iadd S.1 S.2.1 dX8_look_138 ?_
                  refine xputi (ty := .int) S hK hw 1 rfl rfl inX8 tyX8 tyX8_ok nmX8 4 (by decide) mfX8_32 rfl (by decide +kernel) rfl rfl (Nat.le_of_ble_eq_true rfl) (oC_1_4 _ _ _ _) dX8_look_139 (fun H locs hw => ?_)
                  exact xrv S hr hlk hw hV dX8_look_142
                · replace hV := hV.trans (if_pos c_20)
                  have gc_20 : ((u_1.1 2 ((u_1.1 1 4)).toNatClampNeg)).toInt = 59 := xq_eq c_20 rfl rfl
                  refine lv_iconst (v := 3) S.1 S.2.1 dX8_look_124 (by decide) ?_
                  refine lv_goto (tgt := 129) S.1 S.2.1 dX8_look_125 (by decide) ?_
                  refine xputi (ty := .int) S hK hw 1 rfl rfl inX8 tyX8 tyX8_ok nmX8 5 (by decide) mfX8_38 rfl (by decide +kernel) rfl rfl (Nat.le_of_ble_eq_true rfl) (oC_1_5 _ _ _ _) dX8_look_129 (fun H locs hw => ?_)
                  refine lv_aload_n S.1 S.2.1 dX8_look_132 rfl (lv_at hl 0 rfl) ?_
                  refine lv_dup S.1 S.2.1 dX8_look_133 rfl ?_
                  refine xget (v := .int (u_1.1 1 4)) S hK hw 1 rfl rfl inX8 4 (by decide) mfX8_32 rfl dX8_look_134 ?_
                  refine lv_iconst (v := 1) S.1 S.2.1 dX8_look_137 (by decide) ?_
                  refine lv_iadd S.1 S.2.1 dX8_look_138 ?_
                  refine xputi (ty := .int) S hK hw 1 rfl rfl inX8 tyX8 tyX8_ok nmX8 4 (by decide) mfX8_32 rfl (by decide +kernel) rfl rfl (Nat.le_of_ble_eq_true rfl) (oC_1_4 _ _ _ _) dX8_look_139 (fun H locs hw => ?_)
                  exact xrv S hr hlk hw hV dX8_look_142
              · replace hV := hV.trans (if_neg c_19)
                have gc_19 : ¬ ((b2i (k_Reader_isDigit (u_1.1 2 ((u_1.1 1 4)).toNatClampNeg)))).toInt = 0 := xq_ne c_19 rfl rfl
                refine lv_aload_n S.1 S.2.1 dX8_look_102 rfl (lv_at hl 0 rfl) ?_
                refine xcVv (rest := []) S hK hE hA hw yfX8_lookAtNumber (c_k_Reader_lookAtNumber l D a Y ts _ (show (0 ≤ ((u_1.1 1 1)).toInt ∧ ((u_1.1 1 1)).toInt ≤ 150) from by omega) (show (0 ≤ ((u_1.1 1 4)).toInt ∧ ((u_1.1 1 4)).toInt ≤ 150) from by omega) (show ((u_1.1 1 4)).toInt < ((u_1.1 1 1)).toInt from by omega)) 1 rfl rfl mlX8_89 rfl rfl hl.1 ⟨rfl, rfl, Nat.le_of_ble_eq_true rfl, Nat.le_of_ble_eq_true rfl, Nat.le_of_ble_eq_true rfl, Nat.zero_le _, Nat.zero_le _⟩ dX8_look_103 (fun H locs hw => ?_)
                refine lv_goto (tgt := 142) S.1 S.2.1 dX8_look_106 (by decide) ?_
                exact xrv S hr hlk hw hV dX8_look_142
            · replace hV := hV.trans (if_neg c_18)
              have gc_18 : ¬ ((b2i (k_Reader_isLetter (u_1.1 2 ((u_1.1 1 4)).toNatClampNeg)))).toInt = 0 := xq_ne c_18 rfl rfl
              refine lv_aload_n S.1 S.2.1 dX8_look_80 rfl (lv_at hl 0 rfl) ?_
              refine xcVv (rest := []) S hK hE hA hw yfX8_lookAtLetters (c_k_Reader_lookAtLetters l D a Y ts _ (show (0 ≤ ((u_1.1 1 1)).toInt ∧ ((u_1.1 1 1)).toInt ≤ 150) from by omega) (show (0 ≤ ((u_1.1 1 4)).toInt ∧ ((u_1.1 1 4)).toInt ≤ 150) from by omega) (show ((u_1.1 1 4)).toInt < ((u_1.1 1 1)).toInt from by omega)) 1 rfl rfl mlX8_83 rfl rfl hl.1 ⟨rfl, rfl, Nat.le_of_ble_eq_true rfl, Nat.le_of_ble_eq_true rfl, Nat.le_of_ble_eq_true rfl, Nat.zero_le _, Nat.zero_le _⟩ dX8_look_81 (fun H locs hw => ?_)
              refine lv_goto (tgt := 142) S.1 S.2.1 dX8_look_84 (by decide) ?_
              exact xrv S hr hlk hw hV dX8_look_142
          · replace hV := hV.trans (if_neg c_17)
            have gc_17 : ((u_1.1 1 1)).toInt ≤ ((u_1.1 1 4)).toInt := xq_nlt c_17 rfl rfl
            refine lv_aload_n S.1 S.2.1 dX8_look_57 rfl (lv_at hl 0 rfl) ?_
            refine lv_iconst (v := 0) S.1 S.2.1 dX8_look_58 (by decide) ?_
            refine xputi (ty := .int) S hK hw 1 rfl rfl inX8 tyX8 tyX8_ok nmX8 5 (by decide) mfX8_38 rfl (by decide +kernel) rfl rfl (Nat.le_of_ble_eq_true rfl) (oC_1_5 _ _ _ _) dX8_look_59 (fun H locs hw => ?_)
            refine lv_goto (tgt := 142) S.1 S.2.1 dX8_look_62 (by decide) ?_
            exact xrv S hr hlk hw hV dX8_look_142
        · replace hV := hV.trans (if_pos c_15)
          have gc_15 : ((u_1.1 2 ((u_1.1 1 4)).toNatClampNeg)).toInt = 32 := xq_eq c_15 rfl rfl
          refine lv_aload_n S.1 S.2.1 dX8_look_25 rfl (lv_at hl 0 rfl) ?_
          refine lv_dup S.1 S.2.1 dX8_look_26 rfl ?_
          refine xget (v := .int (u_1.1 1 4)) S hK hw 1 rfl rfl inX8 4 (by decide) mfX8_32 rfl dX8_look_27 ?_
          refine lv_iconst (v := 1) S.1 S.2.1 dX8_look_30 (by decide) ?_
          refine lv_iadd S.1 S.2.1 dX8_look_31 ?_
          refine xputi (ty := .int) S hK hw 1 rfl rfl inX8 tyX8 tyX8_ok nmX8 4 (by decide) mfX8_32 rfl (by decide +kernel) rfl rfl (Nat.le_of_ble_eq_true rfl) (oC_1_4 _ _ _ _) dX8_look_32 (fun H locs hw => ?_)
          refine lv_goto (tgt := 0) S.1 S.2.1 dX8_look_35 (by decide) ?_
          have e_29 : ∀ _ : Unit, (((u_1.1 1 4) + (1 : Int32))).toInt = ((u_1.1 1 4)).toInt + 1 := fun _ => xadd rfl rfl (by omega) (by omega)
          exact ih_1 (sp u_1 1 (upd (u_1.1 1) 4 ((u_1.1 1 4) + (1 : Int32)))) _ _ _ (show (0 ≤ ((u_1.1 1 1)).toInt ∧ ((u_1.1 1 1)).toInt ≤ 150) from by omega) (show (0 ≤ (((u_1.1 1 4) + (1 : Int32))).toInt ∧ (((u_1.1 1 4) + (1 : Int32))).toInt ≤ 150) from by rw [(e_29 ())]; omega) (show ((u_1.1 1 1)).toInt - (((u_1.1 1 4) + (1 : Int32))).toInt < (n_1 : Int) ∧ 1 ≤ n_1 from by rw [(e_29 ())]; omega) (lv_sub hl [0] rfl) hw hV
  exact lp_1 151 u _ _ _ (show (0 ≤ ((u.1 1 1)).toInt ∧ ((u.1 1 1)).toInt ≤ 150) from by omega) (show (0 ≤ ((u.1 1 4)).toInt ∧ ((u.1 1 4)).toInt ≤ 150) from by omega) (show ((u.1 1 1)).toInt - ((u.1 1 4)).toInt < ((151 : Nat) : Int) ∧ 1 ≤ (151 : Nat) from by omega) (lv_sub hl [0] rfl) hw hV
