noncomputable def m_readItem_b (u : xU) : xU :=
    (if (u.1 0 19) = (116 : Int32) then
    (if (8 : Int32) ≤ (u.1 0 22) then
    (if (u.1 0 18) = (1 : Int32) then
    let w_46 := sp u 0 (upd (u.1 0) 20 (1 : Int32))
    w_46
    else
    let w_44 := sp u 0 (upd (u.1 0) 20 (1 : Int32))
    w_44)
    else
    (if (u.1 0 18) = (1 : Int32) then
    let r_50 := m_next u
    (if (u.1 0 19) = (116 : Int32) then
    let r_65 := m_readThing r_50
    (if (r_65.1 0 20) = (0 : Int32) then
    (if (r_65.1 0 18) = (3 : Int32) then
    let w_71 := sp r_65 0 (upd (r_65.1 0) 20 (0 : Int32))
    let r_73 := m_next w_71
    r_73
    else
    let w_75 := sp r_65 0 (upd (r_65.1 0) 20 (1 : Int32))
    w_75)
    else
    let w_68 := sp r_65 0 (upd (r_65.1 0) 20 (1 : Int32))
    w_68)
    else
    let r_53 := m_readCast r_50
    (if (r_53.1 0 20) = (0 : Int32) then
    (if (r_53.1 0 18) = (3 : Int32) then
    let w_59 := sp r_53 0 (upd (r_53.1 0) 20 (0 : Int32))
    let r_61 := m_next w_59
    r_61
    else
    let w_63 := sp r_53 0 (upd (r_53.1 0) 20 (1 : Int32))
    w_63)
    else
    let w_56 := sp r_53 0 (upd (r_53.1 0) 20 (1 : Int32))
    w_56))
    else
    let w_48 := sp u 0 (upd (u.1 0) 20 (1 : Int32))
    w_48))
    else
    (if (u.1 0 19) = (99 : Int32) then
    (if (6 : Int32) ≤ (u.1 0 27) then
    (if (u.1 0 18) = (1 : Int32) then
    let w_11 := sp u 0 (upd (u.1 0) 20 (1 : Int32))
    w_11
    else
    let w_9 := sp u 0 (upd (u.1 0) 20 (1 : Int32))
    w_9)
    else
    (if (u.1 0 18) = (1 : Int32) then
    let r_15 := m_next u
    (if (u.1 0 19) = (116 : Int32) then
    let r_30 := m_readThing r_15
    (if (r_30.1 0 20) = (0 : Int32) then
    (if (r_30.1 0 18) = (3 : Int32) then
    let w_36 := sp r_30 0 (upd (r_30.1 0) 20 (0 : Int32))
    let r_38 := m_next w_36
    r_38
    else
    let w_40 := sp r_30 0 (upd (r_30.1 0) 20 (1 : Int32))
    w_40)
    else
    let w_33 := sp r_30 0 (upd (r_30.1 0) 20 (1 : Int32))
    w_33)
    else
    let r_18 := m_readCast r_15
    (if (r_18.1 0 20) = (0 : Int32) then
    (if (r_18.1 0 18) = (3 : Int32) then
    let w_24 := sp r_18 0 (upd (r_18.1 0) 20 (0 : Int32))
    let r_26 := m_next w_24
    r_26
    else
    let w_28 := sp r_18 0 (upd (r_18.1 0) 20 (1 : Int32))
    w_28)
    else
    let w_21 := sp r_18 0 (upd (r_18.1 0) 20 (1 : Int32))
    w_21))
    else
    let w_13 := sp u 0 (upd (u.1 0) 20 (1 : Int32))
    w_13))
    else
    (if (u.1 0 18) = (1 : Int32) then
    let w_6 := sp u 0 (upd (u.1 0) 20 (1 : Int32))
    w_6
    else
    let w_4 := sp u 0 (upd (u.1 0) 20 (1 : Int32))
    w_4)))
theorem m_readItem_x : ∃ f : xU → xU, f = m_readItem_b := ⟨_, rfl⟩
noncomputable def m_readItem : xU → xU := m_readItem_x.choose
theorem m_readItem_def : m_readItem = m_readItem_b := m_readItem_x.choose_spec
set_option maxHeartbeats 4000000 in
set_option maxRecDepth 100000 in
theorem c_m_readItem (l : Launch) (D : va_G) (a : Nat → Nat) (Y : Nat → ClassId) (ts : Nat → Nat) (u : xU) (hL : (0 ≤ ((u.1 0 15)).toInt ∧ ((u.1 0 15)).toInt ≤ 150)) (hX : (0 ≤ ((u.1 0 16)).toInt ∧ ((u.1 0 16)).toInt ≤ 150)) (hST : (0 ≤ ((u.1 0 22)).toInt ∧ ((u.1 0 22)).toInt ≤ 8)) (hSC : (0 ≤ ((u.1 0 27)).toInt ∧ ((u.1 0 27)).toInt ≤ 6)) : xMv l yX11_readItem cX11_readItem 3 none (xRm 5 110) D (xty Y) (wM a Y) ts [.ref (a 0)] u (m_readItem u) := by
  suffices h : ∀ V, V = m_readItem_b u → xMv l yX11_readItem cX11_readItem 3 none (xRm 5 110) D (xty Y) (wM a Y) ts [.ref (a 0)] u V from h _ (by rw [m_readItem_def])
  intro V hV
  refine xofv RX11 rfl (by decide) (Nat.le_of_ble_eq_true rfl) ?_
  intro p e s m args below meth c ls H locs A S hr hlk hl hK hE hA hw
  have hl : lv_has ls 3 [(0, .ref (a 0))] := hl
  refine lv_aload_n S.1 S.2.1 dX11_readItem_0 rfl (lv_at hl 0 rfl) ?_
  refine xget (v := .int (u.1 0 19)) S hK hw 0 rfl rfl inX11 19 (by decide) mfX11_92 rfl dX11_readItem_1 ?_
  refine lv_istore_n (lv' := [(1, .int (u.1 0 19)), (0, .ref (a 0))]) S.1 S.2.1 dX11_readItem_4 rfl hl (by decide) rfl (fun ls hl => ?_)
  refine lv_iload_n S.1 S.2.1 dX11_readItem_5 rfl (lv_at hl 0 rfl) ?_
  refine lv_bipush (v := 116) S.1 S.2.1 dX11_readItem_6 (by decide) ?_
  refine lv_icmp_ne (tgt := 28) S.1 S.2.1 dX11_readItem_8 (by decide) (fun c_1 => ?_) (fun c_1 => ?_)
  · replace hV := hV.trans (if_neg c_1)
    have gc_1 : ¬ ((u.1 0 19)).toInt = 116 := xq_ne c_1 rfl rfl
    refine lv_iload_n S.1 S.2.1 dX11_readItem_28 rfl (lv_at hl 0 rfl) ?_
    refine lv_bipush (v := 99) S.1 S.2.1 dX11_readItem_29 (by decide) ?_
    refine lv_icmp_ne (tgt := 47) S.1 S.2.1 dX11_readItem_31 (by decide) (fun c_2 => ?_) (fun c_2 => ?_)
    · replace hV := hV.trans (if_neg c_2)
      have gc_2 : ¬ ((u.1 0 19)).toInt = 99 := xq_ne c_2 rfl rfl
      refine lv_iconst (v := 0) S.1 S.2.1 dX11_readItem_47 (by decide) ?_
      refine lv_istore_n (lv' := [(2, .int (0 : Int32)), (1, .int (u.1 0 19)), (0, .ref (a 0))]) S.1 S.2.1 dX11_readItem_48 rfl hl (by decide) rfl (fun ls hl => ?_)
      refine lv_aload_n S.1 S.2.1 dX11_readItem_49 rfl (lv_at hl 2 rfl) ?_
      refine xget (v := .int (u.1 0 18)) S hK hw 0 rfl rfl inX11 18 (by decide) mfX11_95 rfl dX11_readItem_50 ?_
      refine lv_iconst (v := 1) S.1 S.2.1 dX11_readItem_53 (by decide) ?_
      refine lv_icmp_ne (tgt := 61) S.1 S.2.1 dX11_readItem_54 (by decide) (fun c_3 => ?_) (fun c_3 => ?_)
      · replace hV := hV.trans (if_neg c_3)
        have gc_3 : ¬ ((u.1 0 18)).toInt = 1 := xq_ne c_3 rfl rfl
        refine lv_aload_n S.1 S.2.1 dX11_readItem_61 rfl (lv_at hl 2 rfl) ?_
        refine lv_iconst (v := 1) S.1 S.2.1 dX11_readItem_62 (by decide) ?_
        refine xputi (ty := .boolean) S hK hw 0 rfl rfl inX11 tyX11 tyX11_ok nmX11 20 (by decide) mfX11_105 rfl (by decide +kernel) rfl rfl (Nat.le_of_ble_eq_true rfl) (oM_0_20 _ _ _ _) dX11_readItem_63 (fun H locs hw => ?_)
        exact xrv S hr hlk hw hV dX11_readItem_66
      · replace hV := hV.trans (if_pos c_3)
        have gc_3 : ((u.1 0 18)).toInt = 1 := xq_eq c_3 rfl rfl
        refine lv_iload_n S.1 S.2.1 dX11_readItem_57 rfl (lv_at hl 0 rfl) ?_
        refine lv_if_ne (tgt := 67) S.1 S.2.1 dX11_readItem_58 (by decide) (fun c_5 => ?_) (fun c_5 => ?_)
        · exact absurd c_5 (by decide)
        · refine lv_aload_n S.1 S.2.1 dX11_readItem_61 rfl (lv_at hl 2 rfl) ?_
          refine lv_iconst (v := 1) S.1 S.2.1 dX11_readItem_62 (by decide) ?_
          refine xputi (ty := .boolean) S hK hw 0 rfl rfl inX11 tyX11 tyX11_ok nmX11 20 (by decide) mfX11_105 rfl (by decide +kernel) rfl rfl (Nat.le_of_ble_eq_true rfl) (oM_0_20 _ _ _ _) dX11_readItem_63 (fun H locs hw => ?_)
          exact xrv S hr hlk hw hV dX11_readItem_66
    · replace hV := hV.trans (if_pos c_2)
      have gc_2 : ((u.1 0 19)).toInt = 99 := xq_eq c_2 rfl rfl
      refine lv_aload_n S.1 S.2.1 dX11_readItem_34 rfl (lv_at hl 1 rfl) ?_
      refine xget (v := .int (u.1 0 27)) S hK hw 0 rfl rfl inX11 27 (by decide) mfX11_119 rfl dX11_readItem_35 ?_
      refine lv_bipush (v := 6) S.1 S.2.1 dX11_readItem_38 (by decide) ?_
      refine lv_icmp_ge (tgt := 47) S.1 S.2.1 dX11_readItem_40 (by decide) (fun c_7 => ?_) (fun c_7 => ?_)
      · replace hV := hV.trans (if_pos c_7)
        have gc_7 : 6 ≤ ((u.1 0 27)).toInt := xq_le c_7 rfl rfl
        refine lv_iconst (v := 0) S.1 S.2.1 dX11_readItem_47 (by decide) ?_
        refine lv_istore_n (lv' := [(2, .int (0 : Int32)), (1, .int (u.1 0 19)), (0, .ref (a 0))]) S.1 S.2.1 dX11_readItem_48 rfl hl (by decide) rfl (fun ls hl => ?_)
        refine lv_aload_n S.1 S.2.1 dX11_readItem_49 rfl (lv_at hl 2 rfl) ?_
        refine xget (v := .int (u.1 0 18)) S hK hw 0 rfl rfl inX11 18 (by decide) mfX11_95 rfl dX11_readItem_50 ?_
        refine lv_iconst (v := 1) S.1 S.2.1 dX11_readItem_53 (by decide) ?_
        refine lv_icmp_ne (tgt := 61) S.1 S.2.1 dX11_readItem_54 (by decide) (fun c_8 => ?_) (fun c_8 => ?_)
        · replace hV := hV.trans (if_neg c_8)
          have gc_8 : ¬ ((u.1 0 18)).toInt = 1 := xq_ne c_8 rfl rfl
          refine lv_aload_n S.1 S.2.1 dX11_readItem_61 rfl (lv_at hl 2 rfl) ?_
          refine lv_iconst (v := 1) S.1 S.2.1 dX11_readItem_62 (by decide) ?_
          refine xputi (ty := .boolean) S hK hw 0 rfl rfl inX11 tyX11 tyX11_ok nmX11 20 (by decide) mfX11_105 rfl (by decide +kernel) rfl rfl (Nat.le_of_ble_eq_true rfl) (oM_0_20 _ _ _ _) dX11_readItem_63 (fun H locs hw => ?_)
          exact xrv S hr hlk hw hV dX11_readItem_66
        · replace hV := hV.trans (if_pos c_8)
          have gc_8 : ((u.1 0 18)).toInt = 1 := xq_eq c_8 rfl rfl
          refine lv_iload_n S.1 S.2.1 dX11_readItem_57 rfl (lv_at hl 0 rfl) ?_
          refine lv_if_ne (tgt := 67) S.1 S.2.1 dX11_readItem_58 (by decide) (fun c_10 => ?_) (fun c_10 => ?_)
          · exact absurd c_10 (by decide)
          · refine lv_aload_n S.1 S.2.1 dX11_readItem_61 rfl (lv_at hl 2 rfl) ?_
            refine lv_iconst (v := 1) S.1 S.2.1 dX11_readItem_62 (by decide) ?_
            refine xputi (ty := .boolean) S hK hw 0 rfl rfl inX11 tyX11 tyX11_ok nmX11 20 (by decide) mfX11_105 rfl (by decide +kernel) rfl rfl (Nat.le_of_ble_eq_true rfl) (oM_0_20 _ _ _ _) dX11_readItem_63 (fun H locs hw => ?_)
            exact xrv S hr hlk hw hV dX11_readItem_66
      · replace hV := hV.trans (if_neg c_7)
        have gc_7 : ((u.1 0 27)).toInt < 6 := xq_nle c_7 rfl rfl
        refine lv_iconst (v := 1) S.1 S.2.1 dX11_readItem_43 (by decide) ?_
        refine lv_goto (tgt := 48) S.1 S.2.1 dX11_readItem_44 (by decide) ?_
        refine lv_istore_n (lv' := [(2, .int (1 : Int32)), (1, .int (u.1 0 19)), (0, .ref (a 0))]) S.1 S.2.1 dX11_readItem_48 rfl hl (by decide) rfl (fun ls hl => ?_)
        refine lv_aload_n S.1 S.2.1 dX11_readItem_49 rfl (lv_at hl 2 rfl) ?_
        refine xget (v := .int (u.1 0 18)) S hK hw 0 rfl rfl inX11 18 (by decide) mfX11_95 rfl dX11_readItem_50 ?_
        refine lv_iconst (v := 1) S.1 S.2.1 dX11_readItem_53 (by decide) ?_
        refine lv_icmp_ne (tgt := 61) S.1 S.2.1 dX11_readItem_54 (by decide) (fun c_12 => ?_) (fun c_12 => ?_)
        · replace hV := hV.trans (if_neg c_12)
          have gc_12 : ¬ ((u.1 0 18)).toInt = 1 := xq_ne c_12 rfl rfl
          refine lv_aload_n S.1 S.2.1 dX11_readItem_61 rfl (lv_at hl 2 rfl) ?_
          refine lv_iconst (v := 1) S.1 S.2.1 dX11_readItem_62 (by decide) ?_
          refine xputi (ty := .boolean) S hK hw 0 rfl rfl inX11 tyX11 tyX11_ok nmX11 20 (by decide) mfX11_105 rfl (by decide +kernel) rfl rfl (Nat.le_of_ble_eq_true rfl) (oM_0_20 _ _ _ _) dX11_readItem_63 (fun H locs hw => ?_)
          exact xrv S hr hlk hw hV dX11_readItem_66
        · replace hV := hV.trans (if_pos c_12)
          have gc_12 : ((u.1 0 18)).toInt = 1 := xq_eq c_12 rfl rfl
          refine lv_iload_n S.1 S.2.1 dX11_readItem_57 rfl (lv_at hl 0 rfl) ?_
          refine lv_if_ne (tgt := 67) S.1 S.2.1 dX11_readItem_58 (by decide) (fun c_14 => ?_) (fun c_14 => ?_)
          · refine lv_aload_n S.1 S.2.1 dX11_readItem_67 rfl (lv_at hl 2 rfl) ?_
            refine xcVv (rest := []) S hK hE hA hw yfX11_next (c_m_next l D a Y ts _ (show (0 ≤ ((u.1 0 15)).toInt ∧ ((u.1 0 15)).toInt ≤ 150) from by omega) (show (0 ≤ ((u.1 0 16)).toInt ∧ ((u.1 0 16)).toInt ≤ 150) from by omega)) 0 rfl rfl mlX11_109 rfl rfl hl.1 ⟨rfl, rfl, Nat.le_of_ble_eq_true rfl, Nat.le_of_ble_eq_true rfl, Nat.le_of_ble_eq_true rfl, Nat.zero_le _, Nat.zero_le _⟩ dX11_readItem_68 (fun H locs hw => ?_)
            have q_16 := (MN_next (u := u) (show (0 ≤ ((u.1 0 15)).toInt ∧ ((u.1 0 15)).toInt ≤ 150) from by omega) (show (0 ≤ ((u.1 0 16)).toInt ∧ ((u.1 0 16)).toInt ≤ 150) from by omega)).1
            have q_16_15 : (((m_next u).1 0 15)).toInt = ((u.1 0 15)).toInt := congrArg Int32.toInt (q_16.2.1 15 (by decide))
            have q_16X : (0 ≤ (((m_next u).1 0 16)).toInt ∧ (((m_next u).1 0 16)).toInt ≤ 150) := q_16.2.2.1
            have q_16_22 : (((m_next u).1 0 22)).toInt = ((u.1 0 22)).toInt := congrArg Int32.toInt (q_16.2.1 22 (by decide))
            have q_16_27 : (((m_next u).1 0 27)).toInt = ((u.1 0 27)).toInt := congrArg Int32.toInt (q_16.2.1 27 (by decide))
            refine lv_iload_n S.1 S.2.1 dX11_readItem_71 rfl (lv_at hl 1 rfl) ?_
            refine lv_bipush (v := 116) S.1 S.2.1 dX11_readItem_72 (by decide) ?_
            refine lv_icmp_ne (tgt := 84) S.1 S.2.1 dX11_readItem_74 (by decide) (fun c_17 => ?_) (fun c_17 => ?_)
            · replace hV := hV.trans (if_neg c_17)
              have gc_17 : ¬ ((u.1 0 19)).toInt = 116 := xq_ne c_17 rfl rfl
              refine lv_aload_n S.1 S.2.1 dX11_readItem_84 rfl (lv_at hl 2 rfl) ?_
              refine xcVv (rest := []) S hK hE hA hw yfX11_readCast (c_m_readCast l D a Y ts _ (show (0 ≤ (((m_next u).1 0 15)).toInt ∧ (((m_next u).1 0 15)).toInt ≤ 150) from by omega) (show (0 ≤ (((m_next u).1 0 16)).toInt ∧ (((m_next u).1 0 16)).toInt ≤ 150) from by omega) (show (0 ≤ (((m_next u).1 0 27)).toInt ∧ (((m_next u).1 0 27)).toInt < 6) from by omega)) 0 rfl rfl mlX11_125 rfl rfl hl.1 ⟨rfl, rfl, Nat.le_of_ble_eq_true rfl, Nat.le_of_ble_eq_true rfl, Nat.le_of_ble_eq_true rfl, Nat.zero_le _, Nat.zero_le _⟩ dX11_readItem_85 (fun H locs hw => ?_)
              have q_19 := MR_cast (u := (m_next u)) (show (0 ≤ (((m_next u).1 0 15)).toInt ∧ (((m_next u).1 0 15)).toInt ≤ 150) from by omega) (show (0 ≤ (((m_next u).1 0 16)).toInt ∧ (((m_next u).1 0 16)).toInt ≤ 150) from by omega)
              have q_19_15 : (((m_readCast (m_next u)).1 0 15)).toInt = (((m_next u).1 0 15)).toInt := congrArg Int32.toInt q_19.1
              have q_19X : (0 ≤ (((m_readCast (m_next u)).1 0 16)).toInt ∧ (((m_readCast (m_next u)).1 0 16)).toInt ≤ 150) := q_19.2.1
              refine lv_aload_n S.1 S.2.1 dX11_readItem_88 rfl (lv_at hl 2 rfl) ?_
              refine lv_aload_n S.1 S.2.1 dX11_readItem_89 rfl (lv_at hl 2 rfl) ?_
              refine xget (v := .int ((m_readCast (m_next u)).1 0 20)) S hK hw 0 rfl rfl inX11 20 (by decide) mfX11_105 rfl dX11_readItem_90 ?_
              refine lv_if_ne (tgt := 104) S.1 S.2.1 dX11_readItem_93 (by decide) (fun c_20 => ?_) (fun c_20 => ?_)
              · replace hV := hV.trans (if_neg c_20)
                have gc_20 : ¬ (((m_readCast (m_next u)).1 0 20)).toInt = 0 := xq_ne c_20 rfl rfl
                refine lv_iconst (v := 1) S.1 S.2.1 dX11_readItem_104 (by decide) ?_
                refine lv_goto (tgt := 109) S.1 S.2.1 dX11_readItem_105 (by decide) ?_
                refine xputi (ty := .boolean) S hK hw 0 rfl rfl inX11 tyX11 tyX11_ok nmX11 20 (by decide) mfX11_105 rfl (by decide +kernel) rfl rfl (Nat.le_of_ble_eq_true rfl) (oM_0_20 _ _ _ _) dX11_readItem_109 (fun H locs hw => ?_)
                refine lv_aload_n S.1 S.2.1 dX11_readItem_112 rfl (lv_at hl 2 rfl) ?_
                refine xget (v := .int (1 : Int32)) S hK hw 0 rfl rfl inX11 20 (by decide) mfX11_105 rfl dX11_readItem_113 ?_
                refine lv_if_ne (tgt := 123) S.1 S.2.1 dX11_readItem_116 (by decide) (fun c_22 => ?_) (fun c_22 => ?_)
                · exact xrv S hr hlk hw hV dX11_readItem_123
                · exact absurd c_22 (by decide)
              · replace hV := hV.trans (if_pos c_20)
                have gc_20 : (((m_readCast (m_next u)).1 0 20)).toInt = 0 := xq_eq c_20 rfl rfl
                refine lv_aload_n S.1 S.2.1 dX11_readItem_96 rfl (lv_at hl 2 rfl) ?_
                refine xget (v := .int ((m_readCast (m_next u)).1 0 18)) S hK hw 0 rfl rfl inX11 18 (by decide) mfX11_95 rfl dX11_readItem_97 ?_
                refine lv_iconst (v := 3) S.1 S.2.1 dX11_readItem_100 (by decide) ?_
                refine lv_icmp_eq (tgt := 108) S.1 S.2.1 dX11_readItem_101 (by decide) (fun c_23 => ?_) (fun c_23 => ?_)
                · replace hV := hV.trans (if_pos c_23)
                  have gc_23 : (((m_readCast (m_next u)).1 0 18)).toInt = 3 := xq_eq c_23 rfl rfl
                  refine lv_iconst (v := 0) S.1 S.2.1 dX11_readItem_108 (by decide) ?_
                  refine xputi (ty := .boolean) S hK hw 0 rfl rfl inX11 tyX11 tyX11_ok nmX11 20 (by decide) mfX11_105 rfl (by decide +kernel) rfl rfl (Nat.le_of_ble_eq_true rfl) (oM_0_20 _ _ _ _) dX11_readItem_109 (fun H locs hw => ?_)
                  refine lv_aload_n S.1 S.2.1 dX11_readItem_112 rfl (lv_at hl 2 rfl) ?_
                  refine xget (v := .int (0 : Int32)) S hK hw 0 rfl rfl inX11 20 (by decide) mfX11_105 rfl dX11_readItem_113 ?_
                  refine lv_if_ne (tgt := 123) S.1 S.2.1 dX11_readItem_116 (by decide) (fun c_25 => ?_) (fun c_25 => ?_)
                  · exact absurd c_25 (by decide)
                  · refine lv_aload_n S.1 S.2.1 dX11_readItem_119 rfl (lv_at hl 2 rfl) ?_
                    refine xcVv (rest := []) S hK hE hA hw yfX11_next (c_m_next l D a Y ts _ (show (0 ≤ (((m_readCast (m_next u)).1 0 15)).toInt ∧ (((m_readCast (m_next u)).1 0 15)).toInt ≤ 150) from by omega) (show (0 ≤ (((m_readCast (m_next u)).1 0 16)).toInt ∧ (((m_readCast (m_next u)).1 0 16)).toInt ≤ 150) from by omega)) 0 rfl rfl mlX11_109 rfl rfl hl.1 ⟨rfl, rfl, Nat.le_of_ble_eq_true rfl, Nat.le_of_ble_eq_true rfl, Nat.le_of_ble_eq_true rfl, Nat.zero_le _, Nat.zero_le _⟩ dX11_readItem_120 (fun H locs hw => ?_)
                    have q_27 := (MN_next (u := (sp (m_readCast (m_next u)) 0 (upd ((m_readCast (m_next u)).1 0) 20 (0 : Int32)))) (show (0 ≤ (((m_readCast (m_next u)).1 0 15)).toInt ∧ (((m_readCast (m_next u)).1 0 15)).toInt ≤ 150) from by omega) (show (0 ≤ (((m_readCast (m_next u)).1 0 16)).toInt ∧ (((m_readCast (m_next u)).1 0 16)).toInt ≤ 150) from by omega)).1
                    have q_27_15 : (((m_next (sp (m_readCast (m_next u)) 0 (upd ((m_readCast (m_next u)).1 0) 20 (0 : Int32)))).1 0 15)).toInt = (((m_readCast (m_next u)).1 0 15)).toInt := congrArg Int32.toInt (q_27.2.1 15 (by decide))
                    have q_27X : (0 ≤ (((m_next (sp (m_readCast (m_next u)) 0 (upd ((m_readCast (m_next u)).1 0) 20 (0 : Int32)))).1 0 16)).toInt ∧ (((m_next (sp (m_readCast (m_next u)) 0 (upd ((m_readCast (m_next u)).1 0) 20 (0 : Int32)))).1 0 16)).toInt ≤ 150) := q_27.2.2.1
                    have q_27_22 : (((m_next (sp (m_readCast (m_next u)) 0 (upd ((m_readCast (m_next u)).1 0) 20 (0 : Int32)))).1 0 22)).toInt = (((m_readCast (m_next u)).1 0 22)).toInt := congrArg Int32.toInt (q_27.2.1 22 (by decide))
                    have q_27_27 : (((m_next (sp (m_readCast (m_next u)) 0 (upd ((m_readCast (m_next u)).1 0) 20 (0 : Int32)))).1 0 27)).toInt = (((m_readCast (m_next u)).1 0 27)).toInt := congrArg Int32.toInt (q_27.2.1 27 (by decide))
                    exact xrv S hr hlk hw hV dX11_readItem_123
                · replace hV := hV.trans (if_neg c_23)
                  have gc_23 : ¬ (((m_readCast (m_next u)).1 0 18)).toInt = 3 := xq_ne c_23 rfl rfl
                  refine lv_iconst (v := 1) S.1 S.2.1 dX11_readItem_104 (by decide) ?_
                  refine lv_goto (tgt := 109) S.1 S.2.1 dX11_readItem_105 (by decide) ?_
                  refine xputi (ty := .boolean) S hK hw 0 rfl rfl inX11 tyX11 tyX11_ok nmX11 20 (by decide) mfX11_105 rfl (by decide +kernel) rfl rfl (Nat.le_of_ble_eq_true rfl) (oM_0_20 _ _ _ _) dX11_readItem_109 (fun H locs hw => ?_)
                  refine lv_aload_n S.1 S.2.1 dX11_readItem_112 rfl (lv_at hl 2 rfl) ?_
                  refine xget (v := .int (1 : Int32)) S hK hw 0 rfl rfl inX11 20 (by decide) mfX11_105 rfl dX11_readItem_113 ?_
                  refine lv_if_ne (tgt := 123) S.1 S.2.1 dX11_readItem_116 (by decide) (fun c_29 => ?_) (fun c_29 => ?_)
                  · exact xrv S hr hlk hw hV dX11_readItem_123
                  · exact absurd c_29 (by decide)
            · replace hV := hV.trans (if_pos c_17)
              have gc_17 : ((u.1 0 19)).toInt = 116 := xq_eq c_17 rfl rfl
              refine lv_aload_n S.1 S.2.1 dX11_readItem_77 rfl (lv_at hl 2 rfl) ?_
              refine xcVv (rest := []) S hK hE hA hw yfX11_readThing (c_m_readThing l D a Y ts _ (show (0 ≤ (((m_next u).1 0 15)).toInt ∧ (((m_next u).1 0 15)).toInt ≤ 150) from by omega) (show (0 ≤ (((m_next u).1 0 16)).toInt ∧ (((m_next u).1 0 16)).toInt ≤ 150) from by omega) (show (0 ≤ (((m_next u).1 0 22)).toInt ∧ (((m_next u).1 0 22)).toInt < 8) from by omega)) 0 rfl rfl mlX11_122 rfl rfl hl.1 ⟨rfl, rfl, Nat.le_of_ble_eq_true rfl, Nat.le_of_ble_eq_true rfl, Nat.le_of_ble_eq_true rfl, Nat.zero_le _, Nat.zero_le _⟩ dX11_readItem_78 (fun H locs hw => ?_)
              have q_31 := MR_thing (u := (m_next u)) (show (0 ≤ (((m_next u).1 0 15)).toInt ∧ (((m_next u).1 0 15)).toInt ≤ 150) from by omega) (show (0 ≤ (((m_next u).1 0 16)).toInt ∧ (((m_next u).1 0 16)).toInt ≤ 150) from by omega)
              have q_31_15 : (((m_readThing (m_next u)).1 0 15)).toInt = (((m_next u).1 0 15)).toInt := congrArg Int32.toInt q_31.1
              have q_31X : (0 ≤ (((m_readThing (m_next u)).1 0 16)).toInt ∧ (((m_readThing (m_next u)).1 0 16)).toInt ≤ 150) := q_31.2.1
              refine lv_goto (tgt := 88) S.1 S.2.1 dX11_readItem_81 (by decide) ?_
              refine lv_aload_n S.1 S.2.1 dX11_readItem_88 rfl (lv_at hl 2 rfl) ?_
              refine lv_aload_n S.1 S.2.1 dX11_readItem_89 rfl (lv_at hl 2 rfl) ?_
              refine xget (v := .int ((m_readThing (m_next u)).1 0 20)) S hK hw 0 rfl rfl inX11 20 (by decide) mfX11_105 rfl dX11_readItem_90 ?_
              refine lv_if_ne (tgt := 104) S.1 S.2.1 dX11_readItem_93 (by decide) (fun c_32 => ?_) (fun c_32 => ?_)
              · replace hV := hV.trans (if_neg c_32)
                have gc_32 : ¬ (((m_readThing (m_next u)).1 0 20)).toInt = 0 := xq_ne c_32 rfl rfl
                refine lv_iconst (v := 1) S.1 S.2.1 dX11_readItem_104 (by decide) ?_
                refine lv_goto (tgt := 109) S.1 S.2.1 dX11_readItem_105 (by decide) ?_
                refine xputi (ty := .boolean) S hK hw 0 rfl rfl inX11 tyX11 tyX11_ok nmX11 20 (by decide) mfX11_105 rfl (by decide +kernel) rfl rfl (Nat.le_of_ble_eq_true rfl) (oM_0_20 _ _ _ _) dX11_readItem_109 (fun H locs hw => ?_)
                refine lv_aload_n S.1 S.2.1 dX11_readItem_112 rfl (lv_at hl 2 rfl) ?_
                refine xget (v := .int (1 : Int32)) S hK hw 0 rfl rfl inX11 20 (by decide) mfX11_105 rfl dX11_readItem_113 ?_
                refine lv_if_ne (tgt := 123) S.1 S.2.1 dX11_readItem_116 (by decide) (fun c_34 => ?_) (fun c_34 => ?_)
                · exact xrv S hr hlk hw hV dX11_readItem_123
                · exact absurd c_34 (by decide)
              · replace hV := hV.trans (if_pos c_32)
                have gc_32 : (((m_readThing (m_next u)).1 0 20)).toInt = 0 := xq_eq c_32 rfl rfl
                refine lv_aload_n S.1 S.2.1 dX11_readItem_96 rfl (lv_at hl 2 rfl) ?_
                refine xget (v := .int ((m_readThing (m_next u)).1 0 18)) S hK hw 0 rfl rfl inX11 18 (by decide) mfX11_95 rfl dX11_readItem_97 ?_
                refine lv_iconst (v := 3) S.1 S.2.1 dX11_readItem_100 (by decide) ?_
                refine lv_icmp_eq (tgt := 108) S.1 S.2.1 dX11_readItem_101 (by decide) (fun c_35 => ?_) (fun c_35 => ?_)
                · replace hV := hV.trans (if_pos c_35)
                  have gc_35 : (((m_readThing (m_next u)).1 0 18)).toInt = 3 := xq_eq c_35 rfl rfl
                  refine lv_iconst (v := 0) S.1 S.2.1 dX11_readItem_108 (by decide) ?_
                  refine xputi (ty := .boolean) S hK hw 0 rfl rfl inX11 tyX11 tyX11_ok nmX11 20 (by decide) mfX11_105 rfl (by decide +kernel) rfl rfl (Nat.le_of_ble_eq_true rfl) (oM_0_20 _ _ _ _) dX11_readItem_109 (fun H locs hw => ?_)
                  refine lv_aload_n S.1 S.2.1 dX11_readItem_112 rfl (lv_at hl 2 rfl) ?_
                  refine xget (v := .int (0 : Int32)) S hK hw 0 rfl rfl inX11 20 (by decide) mfX11_105 rfl dX11_readItem_113 ?_
                  refine lv_if_ne (tgt := 123) S.1 S.2.1 dX11_readItem_116 (by decide) (fun c_37 => ?_) (fun c_37 => ?_)
                  · exact absurd c_37 (by decide)
                  · refine lv_aload_n S.1 S.2.1 dX11_readItem_119 rfl (lv_at hl 2 rfl) ?_
                    refine xcVv (rest := []) S hK hE hA hw yfX11_next (c_m_next l D a Y ts _ (show (0 ≤ (((m_readThing (m_next u)).1 0 15)).toInt ∧ (((m_readThing (m_next u)).1 0 15)).toInt ≤ 150) from by omega) (show (0 ≤ (((m_readThing (m_next u)).1 0 16)).toInt ∧ (((m_readThing (m_next u)).1 0 16)).toInt ≤ 150) from by omega)) 0 rfl rfl mlX11_109 rfl rfl hl.1 ⟨rfl, rfl, Nat.le_of_ble_eq_true rfl, Nat.le_of_ble_eq_true rfl, Nat.le_of_ble_eq_true rfl, Nat.zero_le _, Nat.zero_le _⟩ dX11_readItem_120 (fun H locs hw => ?_)
                    have q_39 := (MN_next (u := (sp (m_readThing (m_next u)) 0 (upd ((m_readThing (m_next u)).1 0) 20 (0 : Int32)))) (show (0 ≤ (((m_readThing (m_next u)).1 0 15)).toInt ∧ (((m_readThing (m_next u)).1 0 15)).toInt ≤ 150) from by omega) (show (0 ≤ (((m_readThing (m_next u)).1 0 16)).toInt ∧ (((m_readThing (m_next u)).1 0 16)).toInt ≤ 150) from by omega)).1
                    have q_39_15 : (((m_next (sp (m_readThing (m_next u)) 0 (upd ((m_readThing (m_next u)).1 0) 20 (0 : Int32)))).1 0 15)).toInt = (((m_readThing (m_next u)).1 0 15)).toInt := congrArg Int32.toInt (q_39.2.1 15 (by decide))
                    have q_39X : (0 ≤ (((m_next (sp (m_readThing (m_next u)) 0 (upd ((m_readThing (m_next u)).1 0) 20 (0 : Int32)))).1 0 16)).toInt ∧ (((m_next (sp (m_readThing (m_next u)) 0 (upd ((m_readThing (m_next u)).1 0) 20 (0 : Int32)))).1 0 16)).toInt ≤ 150) := q_39.2.2.1
                    have q_39_22 : (((m_next (sp (m_readThing (m_next u)) 0 (upd ((m_readThing (m_next u)).1 0) 20 (0 : Int32)))).1 0 22)).toInt = (((m_readThing (m_next u)).1 0 22)).toInt := congrArg Int32.toInt (q_39.2.1 22 (by decide))
                    have q_39_27 : (((m_next (sp (m_readThing (m_next u)) 0 (upd ((m_readThing (m_next u)).1 0) 20 (0 : Int32)))).1 0 27)).toInt = (((m_readThing (m_next u)).1 0 27)).toInt := congrArg Int32.toInt (q_39.2.1 27 (by decide))
                    exact xrv S hr hlk hw hV dX11_readItem_123
                · replace hV := hV.trans (if_neg c_35)
                  have gc_35 : ¬ (((m_readThing (m_next u)).1 0 18)).toInt = 3 := xq_ne c_35 rfl rfl
                  refine lv_iconst (v := 1) S.1 S.2.1 dX11_readItem_104 (by decide) ?_
                  refine lv_goto (tgt := 109) S.1 S.2.1 dX11_readItem_105 (by decide) ?_
                  refine xputi (ty := .boolean) S hK hw 0 rfl rfl inX11 tyX11 tyX11_ok nmX11 20 (by decide) mfX11_105 rfl (by decide +kernel) rfl rfl (Nat.le_of_ble_eq_true rfl) (oM_0_20 _ _ _ _) dX11_readItem_109 (fun H locs hw => ?_)
                  refine lv_aload_n S.1 S.2.1 dX11_readItem_112 rfl (lv_at hl 2 rfl) ?_
                  refine xget (v := .int (1 : Int32)) S hK hw 0 rfl rfl inX11 20 (by decide) mfX11_105 rfl dX11_readItem_113 ?_
                  refine lv_if_ne (tgt := 123) S.1 S.2.1 dX11_readItem_116 (by decide) (fun c_41 => ?_) (fun c_41 => ?_)
                  · exact xrv S hr hlk hw hV dX11_readItem_123
                  · exact absurd c_41 (by decide)
          · exact absurd c_14 (by decide)
  · replace hV := hV.trans (if_pos c_1)
    have gc_1 : ((u.1 0 19)).toInt = 116 := xq_eq c_1 rfl rfl
    refine lv_aload_n S.1 S.2.1 dX11_readItem_11 rfl (lv_at hl 1 rfl) ?_
    refine xget (v := .int (u.1 0 22)) S hK hw 0 rfl rfl inX11 22 (by decide) mfX11_112 rfl dX11_readItem_12 ?_
    refine lv_bipush (v := 8) S.1 S.2.1 dX11_readItem_15 (by decide) ?_
    refine lv_icmp_ge (tgt := 24) S.1 S.2.1 dX11_readItem_17 (by decide) (fun c_42 => ?_) (fun c_42 => ?_)
    · replace hV := hV.trans (if_pos c_42)
      have gc_42 : 8 ≤ ((u.1 0 22)).toInt := xq_le c_42 rfl rfl
      refine lv_iconst (v := 0) S.1 S.2.1 dX11_readItem_24 (by decide) ?_
      refine lv_goto (tgt := 48) S.1 S.2.1 dX11_readItem_25 (by decide) ?_
      refine lv_istore_n (lv' := [(2, .int (0 : Int32)), (1, .int (u.1 0 19)), (0, .ref (a 0))]) S.1 S.2.1 dX11_readItem_48 rfl hl (by decide) rfl (fun ls hl => ?_)
      refine lv_aload_n S.1 S.2.1 dX11_readItem_49 rfl (lv_at hl 2 rfl) ?_
      refine xget (v := .int (u.1 0 18)) S hK hw 0 rfl rfl inX11 18 (by decide) mfX11_95 rfl dX11_readItem_50 ?_
      refine lv_iconst (v := 1) S.1 S.2.1 dX11_readItem_53 (by decide) ?_
      refine lv_icmp_ne (tgt := 61) S.1 S.2.1 dX11_readItem_54 (by decide) (fun c_43 => ?_) (fun c_43 => ?_)
      · replace hV := hV.trans (if_neg c_43)
        have gc_43 : ¬ ((u.1 0 18)).toInt = 1 := xq_ne c_43 rfl rfl
        refine lv_aload_n S.1 S.2.1 dX11_readItem_61 rfl (lv_at hl 2 rfl) ?_
        refine lv_iconst (v := 1) S.1 S.2.1 dX11_readItem_62 (by decide) ?_
        refine xputi (ty := .boolean) S hK hw 0 rfl rfl inX11 tyX11 tyX11_ok nmX11 20 (by decide) mfX11_105 rfl (by decide +kernel) rfl rfl (Nat.le_of_ble_eq_true rfl) (oM_0_20 _ _ _ _) dX11_readItem_63 (fun H locs hw => ?_)
        exact xrv S hr hlk hw hV dX11_readItem_66
      · replace hV := hV.trans (if_pos c_43)
        have gc_43 : ((u.1 0 18)).toInt = 1 := xq_eq c_43 rfl rfl
        refine lv_iload_n S.1 S.2.1 dX11_readItem_57 rfl (lv_at hl 0 rfl) ?_
        refine lv_if_ne (tgt := 67) S.1 S.2.1 dX11_readItem_58 (by decide) (fun c_45 => ?_) (fun c_45 => ?_)
        · exact absurd c_45 (by decide)
        · refine lv_aload_n S.1 S.2.1 dX11_readItem_61 rfl (lv_at hl 2 rfl) ?_
          refine lv_iconst (v := 1) S.1 S.2.1 dX11_readItem_62 (by decide) ?_
          refine xputi (ty := .boolean) S hK hw 0 rfl rfl inX11 tyX11 tyX11_ok nmX11 20 (by decide) mfX11_105 rfl (by decide +kernel) rfl rfl (Nat.le_of_ble_eq_true rfl) (oM_0_20 _ _ _ _) dX11_readItem_63 (fun H locs hw => ?_)
          exact xrv S hr hlk hw hV dX11_readItem_66
    · replace hV := hV.trans (if_neg c_42)
      have gc_42 : ((u.1 0 22)).toInt < 8 := xq_nle c_42 rfl rfl
      refine lv_iconst (v := 1) S.1 S.2.1 dX11_readItem_20 (by decide) ?_
      refine lv_goto (tgt := 48) S.1 S.2.1 dX11_readItem_21 (by decide) ?_
      refine lv_istore_n (lv' := [(2, .int (1 : Int32)), (1, .int (u.1 0 19)), (0, .ref (a 0))]) S.1 S.2.1 dX11_readItem_48 rfl hl (by decide) rfl (fun ls hl => ?_)
      refine lv_aload_n S.1 S.2.1 dX11_readItem_49 rfl (lv_at hl 2 rfl) ?_
      refine xget (v := .int (u.1 0 18)) S hK hw 0 rfl rfl inX11 18 (by decide) mfX11_95 rfl dX11_readItem_50 ?_
      refine lv_iconst (v := 1) S.1 S.2.1 dX11_readItem_53 (by decide) ?_
      refine lv_icmp_ne (tgt := 61) S.1 S.2.1 dX11_readItem_54 (by decide) (fun c_47 => ?_) (fun c_47 => ?_)
      · replace hV := hV.trans (if_neg c_47)
        have gc_47 : ¬ ((u.1 0 18)).toInt = 1 := xq_ne c_47 rfl rfl
        refine lv_aload_n S.1 S.2.1 dX11_readItem_61 rfl (lv_at hl 2 rfl) ?_
        refine lv_iconst (v := 1) S.1 S.2.1 dX11_readItem_62 (by decide) ?_
        refine xputi (ty := .boolean) S hK hw 0 rfl rfl inX11 tyX11 tyX11_ok nmX11 20 (by decide) mfX11_105 rfl (by decide +kernel) rfl rfl (Nat.le_of_ble_eq_true rfl) (oM_0_20 _ _ _ _) dX11_readItem_63 (fun H locs hw => ?_)
        exact xrv S hr hlk hw hV dX11_readItem_66
      · replace hV := hV.trans (if_pos c_47)
        have gc_47 : ((u.1 0 18)).toInt = 1 := xq_eq c_47 rfl rfl
        refine lv_iload_n S.1 S.2.1 dX11_readItem_57 rfl (lv_at hl 0 rfl) ?_
        refine lv_if_ne (tgt := 67) S.1 S.2.1 dX11_readItem_58 (by decide) (fun c_49 => ?_) (fun c_49 => ?_)
        · refine lv_aload_n S.1 S.2.1 dX11_readItem_67 rfl (lv_at hl 2 rfl) ?_
          refine xcVv (rest := []) S hK hE hA hw yfX11_next (c_m_next l D a Y ts _ (show (0 ≤ ((u.1 0 15)).toInt ∧ ((u.1 0 15)).toInt ≤ 150) from by omega) (show (0 ≤ ((u.1 0 16)).toInt ∧ ((u.1 0 16)).toInt ≤ 150) from by omega)) 0 rfl rfl mlX11_109 rfl rfl hl.1 ⟨rfl, rfl, Nat.le_of_ble_eq_true rfl, Nat.le_of_ble_eq_true rfl, Nat.le_of_ble_eq_true rfl, Nat.zero_le _, Nat.zero_le _⟩ dX11_readItem_68 (fun H locs hw => ?_)
          have q_51 := (MN_next (u := u) (show (0 ≤ ((u.1 0 15)).toInt ∧ ((u.1 0 15)).toInt ≤ 150) from by omega) (show (0 ≤ ((u.1 0 16)).toInt ∧ ((u.1 0 16)).toInt ≤ 150) from by omega)).1
          have q_51_15 : (((m_next u).1 0 15)).toInt = ((u.1 0 15)).toInt := congrArg Int32.toInt (q_51.2.1 15 (by decide))
          have q_51X : (0 ≤ (((m_next u).1 0 16)).toInt ∧ (((m_next u).1 0 16)).toInt ≤ 150) := q_51.2.2.1
          have q_51_22 : (((m_next u).1 0 22)).toInt = ((u.1 0 22)).toInt := congrArg Int32.toInt (q_51.2.1 22 (by decide))
          have q_51_27 : (((m_next u).1 0 27)).toInt = ((u.1 0 27)).toInt := congrArg Int32.toInt (q_51.2.1 27 (by decide))
          refine lv_iload_n S.1 S.2.1 dX11_readItem_71 rfl (lv_at hl 1 rfl) ?_
          refine lv_bipush (v := 116) S.1 S.2.1 dX11_readItem_72 (by decide) ?_
          refine lv_icmp_ne (tgt := 84) S.1 S.2.1 dX11_readItem_74 (by decide) (fun c_52 => ?_) (fun c_52 => ?_)
          · replace hV := hV.trans (if_neg c_52)
            have gc_52 : ¬ ((u.1 0 19)).toInt = 116 := xq_ne c_52 rfl rfl
            refine lv_aload_n S.1 S.2.1 dX11_readItem_84 rfl (lv_at hl 2 rfl) ?_
            refine xcVv (rest := []) S hK hE hA hw yfX11_readCast (c_m_readCast l D a Y ts _ (show (0 ≤ (((m_next u).1 0 15)).toInt ∧ (((m_next u).1 0 15)).toInt ≤ 150) from by omega) (show (0 ≤ (((m_next u).1 0 16)).toInt ∧ (((m_next u).1 0 16)).toInt ≤ 150) from by omega) (show (0 ≤ (((m_next u).1 0 27)).toInt ∧ (((m_next u).1 0 27)).toInt < 6) from by omega)) 0 rfl rfl mlX11_125 rfl rfl hl.1 ⟨rfl, rfl, Nat.le_of_ble_eq_true rfl, Nat.le_of_ble_eq_true rfl, Nat.le_of_ble_eq_true rfl, Nat.zero_le _, Nat.zero_le _⟩ dX11_readItem_85 (fun H locs hw => ?_)
            have q_54 := MR_cast (u := (m_next u)) (show (0 ≤ (((m_next u).1 0 15)).toInt ∧ (((m_next u).1 0 15)).toInt ≤ 150) from by omega) (show (0 ≤ (((m_next u).1 0 16)).toInt ∧ (((m_next u).1 0 16)).toInt ≤ 150) from by omega)
            have q_54_15 : (((m_readCast (m_next u)).1 0 15)).toInt = (((m_next u).1 0 15)).toInt := congrArg Int32.toInt q_54.1
            have q_54X : (0 ≤ (((m_readCast (m_next u)).1 0 16)).toInt ∧ (((m_readCast (m_next u)).1 0 16)).toInt ≤ 150) := q_54.2.1
            refine lv_aload_n S.1 S.2.1 dX11_readItem_88 rfl (lv_at hl 2 rfl) ?_
            refine lv_aload_n S.1 S.2.1 dX11_readItem_89 rfl (lv_at hl 2 rfl) ?_
            refine xget (v := .int ((m_readCast (m_next u)).1 0 20)) S hK hw 0 rfl rfl inX11 20 (by decide) mfX11_105 rfl dX11_readItem_90 ?_
            refine lv_if_ne (tgt := 104) S.1 S.2.1 dX11_readItem_93 (by decide) (fun c_55 => ?_) (fun c_55 => ?_)
            · replace hV := hV.trans (if_neg c_55)
              have gc_55 : ¬ (((m_readCast (m_next u)).1 0 20)).toInt = 0 := xq_ne c_55 rfl rfl
              refine lv_iconst (v := 1) S.1 S.2.1 dX11_readItem_104 (by decide) ?_
              refine lv_goto (tgt := 109) S.1 S.2.1 dX11_readItem_105 (by decide) ?_
              refine xputi (ty := .boolean) S hK hw 0 rfl rfl inX11 tyX11 tyX11_ok nmX11 20 (by decide) mfX11_105 rfl (by decide +kernel) rfl rfl (Nat.le_of_ble_eq_true rfl) (oM_0_20 _ _ _ _) dX11_readItem_109 (fun H locs hw => ?_)
              refine lv_aload_n S.1 S.2.1 dX11_readItem_112 rfl (lv_at hl 2 rfl) ?_
              refine xget (v := .int (1 : Int32)) S hK hw 0 rfl rfl inX11 20 (by decide) mfX11_105 rfl dX11_readItem_113 ?_
              refine lv_if_ne (tgt := 123) S.1 S.2.1 dX11_readItem_116 (by decide) (fun c_57 => ?_) (fun c_57 => ?_)
              · exact xrv S hr hlk hw hV dX11_readItem_123
              · exact absurd c_57 (by decide)
            · replace hV := hV.trans (if_pos c_55)
              have gc_55 : (((m_readCast (m_next u)).1 0 20)).toInt = 0 := xq_eq c_55 rfl rfl
              refine lv_aload_n S.1 S.2.1 dX11_readItem_96 rfl (lv_at hl 2 rfl) ?_
              refine xget (v := .int ((m_readCast (m_next u)).1 0 18)) S hK hw 0 rfl rfl inX11 18 (by decide) mfX11_95 rfl dX11_readItem_97 ?_
              refine lv_iconst (v := 3) S.1 S.2.1 dX11_readItem_100 (by decide) ?_
              refine lv_icmp_eq (tgt := 108) S.1 S.2.1 dX11_readItem_101 (by decide) (fun c_58 => ?_) (fun c_58 => ?_)
              · replace hV := hV.trans (if_pos c_58)
                have gc_58 : (((m_readCast (m_next u)).1 0 18)).toInt = 3 := xq_eq c_58 rfl rfl
                refine lv_iconst (v := 0) S.1 S.2.1 dX11_readItem_108 (by decide) ?_
                refine xputi (ty := .boolean) S hK hw 0 rfl rfl inX11 tyX11 tyX11_ok nmX11 20 (by decide) mfX11_105 rfl (by decide +kernel) rfl rfl (Nat.le_of_ble_eq_true rfl) (oM_0_20 _ _ _ _) dX11_readItem_109 (fun H locs hw => ?_)
                refine lv_aload_n S.1 S.2.1 dX11_readItem_112 rfl (lv_at hl 2 rfl) ?_
                refine xget (v := .int (0 : Int32)) S hK hw 0 rfl rfl inX11 20 (by decide) mfX11_105 rfl dX11_readItem_113 ?_
                refine lv_if_ne (tgt := 123) S.1 S.2.1 dX11_readItem_116 (by decide) (fun c_60 => ?_) (fun c_60 => ?_)
                · exact absurd c_60 (by decide)
                · refine lv_aload_n S.1 S.2.1 dX11_readItem_119 rfl (lv_at hl 2 rfl) ?_
                  refine xcVv (rest := []) S hK hE hA hw yfX11_next (c_m_next l D a Y ts _ (show (0 ≤ (((m_readCast (m_next u)).1 0 15)).toInt ∧ (((m_readCast (m_next u)).1 0 15)).toInt ≤ 150) from by omega) (show (0 ≤ (((m_readCast (m_next u)).1 0 16)).toInt ∧ (((m_readCast (m_next u)).1 0 16)).toInt ≤ 150) from by omega)) 0 rfl rfl mlX11_109 rfl rfl hl.1 ⟨rfl, rfl, Nat.le_of_ble_eq_true rfl, Nat.le_of_ble_eq_true rfl, Nat.le_of_ble_eq_true rfl, Nat.zero_le _, Nat.zero_le _⟩ dX11_readItem_120 (fun H locs hw => ?_)
                  have q_62 := (MN_next (u := (sp (m_readCast (m_next u)) 0 (upd ((m_readCast (m_next u)).1 0) 20 (0 : Int32)))) (show (0 ≤ (((m_readCast (m_next u)).1 0 15)).toInt ∧ (((m_readCast (m_next u)).1 0 15)).toInt ≤ 150) from by omega) (show (0 ≤ (((m_readCast (m_next u)).1 0 16)).toInt ∧ (((m_readCast (m_next u)).1 0 16)).toInt ≤ 150) from by omega)).1
                  have q_62_15 : (((m_next (sp (m_readCast (m_next u)) 0 (upd ((m_readCast (m_next u)).1 0) 20 (0 : Int32)))).1 0 15)).toInt = (((m_readCast (m_next u)).1 0 15)).toInt := congrArg Int32.toInt (q_62.2.1 15 (by decide))
                  have q_62X : (0 ≤ (((m_next (sp (m_readCast (m_next u)) 0 (upd ((m_readCast (m_next u)).1 0) 20 (0 : Int32)))).1 0 16)).toInt ∧ (((m_next (sp (m_readCast (m_next u)) 0 (upd ((m_readCast (m_next u)).1 0) 20 (0 : Int32)))).1 0 16)).toInt ≤ 150) := q_62.2.2.1
                  have q_62_22 : (((m_next (sp (m_readCast (m_next u)) 0 (upd ((m_readCast (m_next u)).1 0) 20 (0 : Int32)))).1 0 22)).toInt = (((m_readCast (m_next u)).1 0 22)).toInt := congrArg Int32.toInt (q_62.2.1 22 (by decide))
                  have q_62_27 : (((m_next (sp (m_readCast (m_next u)) 0 (upd ((m_readCast (m_next u)).1 0) 20 (0 : Int32)))).1 0 27)).toInt = (((m_readCast (m_next u)).1 0 27)).toInt := congrArg Int32.toInt (q_62.2.1 27 (by decide))
                  exact xrv S hr hlk hw hV dX11_readItem_123
              · replace hV := hV.trans (if_neg c_58)
                have gc_58 : ¬ (((m_readCast (m_next u)).1 0 18)).toInt = 3 := xq_ne c_58 rfl rfl
                refine lv_iconst (v := 1) S.1 S.2.1 dX11_readItem_104 (by decide) ?_
                refine lv_goto (tgt := 109) S.1 S.2.1 dX11_readItem_105 (by decide) ?_
                refine xputi (ty := .boolean) S hK hw 0 rfl rfl inX11 tyX11 tyX11_ok nmX11 20 (by decide) mfX11_105 rfl (by decide +kernel) rfl rfl (Nat.le_of_ble_eq_true rfl) (oM_0_20 _ _ _ _) dX11_readItem_109 (fun H locs hw => ?_)
                refine lv_aload_n S.1 S.2.1 dX11_readItem_112 rfl (lv_at hl 2 rfl) ?_
                refine xget (v := .int (1 : Int32)) S hK hw 0 rfl rfl inX11 20 (by decide) mfX11_105 rfl dX11_readItem_113 ?_
                refine lv_if_ne (tgt := 123) S.1 S.2.1 dX11_readItem_116 (by decide) (fun c_64 => ?_) (fun c_64 => ?_)
                · exact xrv S hr hlk hw hV dX11_readItem_123
                · exact absurd c_64 (by decide)
          · replace hV := hV.trans (if_pos c_52)
            have gc_52 : ((u.1 0 19)).toInt = 116 := xq_eq c_52 rfl rfl
            refine lv_aload_n S.1 S.2.1 dX11_readItem_77 rfl (lv_at hl 2 rfl) ?_
            refine xcVv (rest := []) S hK hE hA hw yfX11_readThing (c_m_readThing l D a Y ts _ (show (0 ≤ (((m_next u).1 0 15)).toInt ∧ (((m_next u).1 0 15)).toInt ≤ 150) from by omega) (show (0 ≤ (((m_next u).1 0 16)).toInt ∧ (((m_next u).1 0 16)).toInt ≤ 150) from by omega) (show (0 ≤ (((m_next u).1 0 22)).toInt ∧ (((m_next u).1 0 22)).toInt < 8) from by omega)) 0 rfl rfl mlX11_122 rfl rfl hl.1 ⟨rfl, rfl, Nat.le_of_ble_eq_true rfl, Nat.le_of_ble_eq_true rfl, Nat.le_of_ble_eq_true rfl, Nat.zero_le _, Nat.zero_le _⟩ dX11_readItem_78 (fun H locs hw => ?_)
            have q_66 := MR_thing (u := (m_next u)) (show (0 ≤ (((m_next u).1 0 15)).toInt ∧ (((m_next u).1 0 15)).toInt ≤ 150) from by omega) (show (0 ≤ (((m_next u).1 0 16)).toInt ∧ (((m_next u).1 0 16)).toInt ≤ 150) from by omega)
            have q_66_15 : (((m_readThing (m_next u)).1 0 15)).toInt = (((m_next u).1 0 15)).toInt := congrArg Int32.toInt q_66.1
            have q_66X : (0 ≤ (((m_readThing (m_next u)).1 0 16)).toInt ∧ (((m_readThing (m_next u)).1 0 16)).toInt ≤ 150) := q_66.2.1
            refine lv_goto (tgt := 88) S.1 S.2.1 dX11_readItem_81 (by decide) ?_
            refine lv_aload_n S.1 S.2.1 dX11_readItem_88 rfl (lv_at hl 2 rfl) ?_
            refine lv_aload_n S.1 S.2.1 dX11_readItem_89 rfl (lv_at hl 2 rfl) ?_
            refine xget (v := .int ((m_readThing (m_next u)).1 0 20)) S hK hw 0 rfl rfl inX11 20 (by decide) mfX11_105 rfl dX11_readItem_90 ?_
            refine lv_if_ne (tgt := 104) S.1 S.2.1 dX11_readItem_93 (by decide) (fun c_67 => ?_) (fun c_67 => ?_)
            · replace hV := hV.trans (if_neg c_67)
              have gc_67 : ¬ (((m_readThing (m_next u)).1 0 20)).toInt = 0 := xq_ne c_67 rfl rfl
              refine lv_iconst (v := 1) S.1 S.2.1 dX11_readItem_104 (by decide) ?_
              refine lv_goto (tgt := 109) S.1 S.2.1 dX11_readItem_105 (by decide) ?_
              refine xputi (ty := .boolean) S hK hw 0 rfl rfl inX11 tyX11 tyX11_ok nmX11 20 (by decide) mfX11_105 rfl (by decide +kernel) rfl rfl (Nat.le_of_ble_eq_true rfl) (oM_0_20 _ _ _ _) dX11_readItem_109 (fun H locs hw => ?_)
              refine lv_aload_n S.1 S.2.1 dX11_readItem_112 rfl (lv_at hl 2 rfl) ?_
              refine xget (v := .int (1 : Int32)) S hK hw 0 rfl rfl inX11 20 (by decide) mfX11_105 rfl dX11_readItem_113 ?_
              refine lv_if_ne (tgt := 123) S.1 S.2.1 dX11_readItem_116 (by decide) (fun c_69 => ?_) (fun c_69 => ?_)
              · exact xrv S hr hlk hw hV dX11_readItem_123
              · exact absurd c_69 (by decide)
            · replace hV := hV.trans (if_pos c_67)
              have gc_67 : (((m_readThing (m_next u)).1 0 20)).toInt = 0 := xq_eq c_67 rfl rfl
              refine lv_aload_n S.1 S.2.1 dX11_readItem_96 rfl (lv_at hl 2 rfl) ?_
              refine xget (v := .int ((m_readThing (m_next u)).1 0 18)) S hK hw 0 rfl rfl inX11 18 (by decide) mfX11_95 rfl dX11_readItem_97 ?_
              refine lv_iconst (v := 3) S.1 S.2.1 dX11_readItem_100 (by decide) ?_
              refine lv_icmp_eq (tgt := 108) S.1 S.2.1 dX11_readItem_101 (by decide) (fun c_70 => ?_) (fun c_70 => ?_)
              · replace hV := hV.trans (if_pos c_70)
                have gc_70 : (((m_readThing (m_next u)).1 0 18)).toInt = 3 := xq_eq c_70 rfl rfl
                refine lv_iconst (v := 0) S.1 S.2.1 dX11_readItem_108 (by decide) ?_
                refine xputi (ty := .boolean) S hK hw 0 rfl rfl inX11 tyX11 tyX11_ok nmX11 20 (by decide) mfX11_105 rfl (by decide +kernel) rfl rfl (Nat.le_of_ble_eq_true rfl) (oM_0_20 _ _ _ _) dX11_readItem_109 (fun H locs hw => ?_)
                refine lv_aload_n S.1 S.2.1 dX11_readItem_112 rfl (lv_at hl 2 rfl) ?_
                refine xget (v := .int (0 : Int32)) S hK hw 0 rfl rfl inX11 20 (by decide) mfX11_105 rfl dX11_readItem_113 ?_
                refine lv_if_ne (tgt := 123) S.1 S.2.1 dX11_readItem_116 (by decide) (fun c_72 => ?_) (fun c_72 => ?_)
                · exact absurd c_72 (by decide)
                · refine lv_aload_n S.1 S.2.1 dX11_readItem_119 rfl (lv_at hl 2 rfl) ?_
                  refine xcVv (rest := []) S hK hE hA hw yfX11_next (c_m_next l D a Y ts _ (show (0 ≤ (((m_readThing (m_next u)).1 0 15)).toInt ∧ (((m_readThing (m_next u)).1 0 15)).toInt ≤ 150) from by omega) (show (0 ≤ (((m_readThing (m_next u)).1 0 16)).toInt ∧ (((m_readThing (m_next u)).1 0 16)).toInt ≤ 150) from by omega)) 0 rfl rfl mlX11_109 rfl rfl hl.1 ⟨rfl, rfl, Nat.le_of_ble_eq_true rfl, Nat.le_of_ble_eq_true rfl, Nat.le_of_ble_eq_true rfl, Nat.zero_le _, Nat.zero_le _⟩ dX11_readItem_120 (fun H locs hw => ?_)
                  have q_74 := (MN_next (u := (sp (m_readThing (m_next u)) 0 (upd ((m_readThing (m_next u)).1 0) 20 (0 : Int32)))) (show (0 ≤ (((m_readThing (m_next u)).1 0 15)).toInt ∧ (((m_readThing (m_next u)).1 0 15)).toInt ≤ 150) from by omega) (show (0 ≤ (((m_readThing (m_next u)).1 0 16)).toInt ∧ (((m_readThing (m_next u)).1 0 16)).toInt ≤ 150) from by omega)).1
                  have q_74_15 : (((m_next (sp (m_readThing (m_next u)) 0 (upd ((m_readThing (m_next u)).1 0) 20 (0 : Int32)))).1 0 15)).toInt = (((m_readThing (m_next u)).1 0 15)).toInt := congrArg Int32.toInt (q_74.2.1 15 (by decide))
                  have q_74X : (0 ≤ (((m_next (sp (m_readThing (m_next u)) 0 (upd ((m_readThing (m_next u)).1 0) 20 (0 : Int32)))).1 0 16)).toInt ∧ (((m_next (sp (m_readThing (m_next u)) 0 (upd ((m_readThing (m_next u)).1 0) 20 (0 : Int32)))).1 0 16)).toInt ≤ 150) := q_74.2.2.1
                  have q_74_22 : (((m_next (sp (m_readThing (m_next u)) 0 (upd ((m_readThing (m_next u)).1 0) 20 (0 : Int32)))).1 0 22)).toInt = (((m_readThing (m_next u)).1 0 22)).toInt := congrArg Int32.toInt (q_74.2.1 22 (by decide))
                  have q_74_27 : (((m_next (sp (m_readThing (m_next u)) 0 (upd ((m_readThing (m_next u)).1 0) 20 (0 : Int32)))).1 0 27)).toInt = (((m_readThing (m_next u)).1 0 27)).toInt := congrArg Int32.toInt (q_74.2.1 27 (by decide))
                  exact xrv S hr hlk hw hV dX11_readItem_123
              · replace hV := hV.trans (if_neg c_70)
                have gc_70 : ¬ (((m_readThing (m_next u)).1 0 18)).toInt = 3 := xq_ne c_70 rfl rfl
                refine lv_iconst (v := 1) S.1 S.2.1 dX11_readItem_104 (by decide) ?_
                refine lv_goto (tgt := 109) S.1 S.2.1 dX11_readItem_105 (by decide) ?_
                refine xputi (ty := .boolean) S hK hw 0 rfl rfl inX11 tyX11 tyX11_ok nmX11 20 (by decide) mfX11_105 rfl (by decide +kernel) rfl rfl (Nat.le_of_ble_eq_true rfl) (oM_0_20 _ _ _ _) dX11_readItem_109 (fun H locs hw => ?_)
                refine lv_aload_n S.1 S.2.1 dX11_readItem_112 rfl (lv_at hl 2 rfl) ?_
                refine xget (v := .int (1 : Int32)) S hK hw 0 rfl rfl inX11 20 (by decide) mfX11_105 rfl dX11_readItem_113 ?_
                refine lv_if_ne (tgt := 123) S.1 S.2.1 dX11_readItem_116 (by decide) (fun c_76 => ?_) (fun c_76 => ?_)
                · exact xrv S hr hlk hw hV dX11_readItem_123
                · exact absurd c_76 (by decide)
        · exact absurd c_49 (by decide)
