noncomputable def m_next_L180 (x1 : Int32) : Nat → xU → xU
  | 0, w => w
  | n + 1, w =>
    (if (b2i (m_isLetter (m_letterAt w (w.1 0 16)))) = (0 : Int32) then
    let w_15 := sp w 0 (upd (w.1 0) 18 (1 : Int32))
    (if ((w_15.1 0 16) - (w_15.1 0 17)) = (1 : Int32) then
    let w_18 := sp w_15 0 (upd (w_15.1 0) 19 x1)
    w_18
    else
    let w_17 := sp w_15 0 (upd (w_15.1 0) 19 (0 : Int32))
    w_17)
    else
    let w_19 := sp w 0 (upd (w.1 0) 16 ((w.1 0 16) + (1 : Int32)))
    m_next_L180 x1 n w_19)
noncomputable def m_next_L67 (x1 : Int32) : Nat → xU → xU
  | 0, w => w
  | n + 1, w =>
    (if (b2i (m_isFigure (m_letterAt w (w.1 0 16)))) = (0 : Int32) then
    (if (99 : Int32) < (w.1 0 19) then
    let w_24 := sp w 0 (upd (w.1 0) 18 (4 : Int32))
    w_24
    else
    (if x1 = (48 : Int32) then
    (if ((w.1 0 16) - (w.1 0 17)) ≤ (1 : Int32) then
    let w_28 := sp w 0 (upd (w.1 0) 18 (2 : Int32))
    w_28
    else
    let w_29 := sp w 0 (upd (w.1 0) 18 (4 : Int32))
    w_29)
    else
    let w_26 := sp w 0 (upd (w.1 0) 18 (2 : Int32))
    w_26))
    else
    (if (w.1 0 19) ≤ (99 : Int32) then
    let w_31 := sp w 0 (upd (w.1 0) 19 ((((10 : Int32) * (w.1 0 19)) + (m_letterAt w (w.1 0 16))) - (48 : Int32)))
    let w_32 := sp w_31 0 (upd (w_31.1 0) 16 ((w_31.1 0 16) + (1 : Int32)))
    m_next_L67 x1 n w_32
    else
    let w_34 := sp w 0 (upd (w.1 0) 19 (w.1 0 19))
    let w_35 := sp w_34 0 (upd (w_34.1 0) 16 ((w_34.1 0 16) + (1 : Int32)))
    m_next_L67 x1 n w_35))
noncomputable def m_next_L0 : Nat → xU → xU
  | 0, w => w
  | n + 1, w =>
    (if (m_letterAt w (w.1 0 16)) = (32 : Int32) then
    let w_38 := sp w 0 (upd (w.1 0) 16 ((w.1 0 16) + (1 : Int32)))
    m_next_L0 n w_38
    else
    let w_3 := sp w 0 (upd (w.1 0) 17 (w.1 0 16))
    let w_4 := sp w_3 0 (upd (w_3.1 0) 19 (0 : Int32))
    (if (0 : Int32) ≤ (m_letterAt w_3 (w_3.1 0 16)) then
    (if (b2i (m_isFigure (m_letterAt w_3 (w_3.1 0 16)))) = (0 : Int32) then
    (if (b2i (m_isLetter (m_letterAt w_3 (w_3.1 0 16)))) = (0 : Int32) then
    (if (m_letterAt w_3 (w_3.1 0 16)) = (59 : Int32) then
    let w_11 := sp w_4 0 (upd (w_4.1 0) 18 (3 : Int32))
    let w_12 := sp w_11 0 (upd (w_11.1 0) 16 ((w_11.1 0 16) + (1 : Int32)))
    w_12
    else
    let w_9 := sp w_4 0 (upd (w_4.1 0) 18 (4 : Int32))
    let w_10 := sp w_9 0 (upd (w_9.1 0) 16 ((w_9.1 0 16) + (1 : Int32)))
    w_10)
    else
    m_next_L180 (m_letterAt w_3 (w_3.1 0 16)) 151 w_4)
    else
    m_next_L67 (m_letterAt w_3 (w_3.1 0 16)) 151 w_4)
    else
    let w_37 := sp w_4 0 (upd (w_4.1 0) 18 (0 : Int32))
    w_37))
noncomputable def m_next_b (u : xU) : xU :=
    m_next_L0 151 u
theorem m_next_x : ∃ f : xU → xU, f = m_next_b := ⟨_, rfl⟩
noncomputable def m_next : xU → xU := m_next_x.choose
theorem m_next_def : m_next = m_next_b := m_next_x.choose_spec
set_option maxHeartbeats 4000000 in
set_option maxRecDepth 100000 in
theorem c_m_next (l : Launch) (D : va_G) (a : Nat → Nat) (Y : Nat → ClassId) (ts : Nat → Nat) (u : xU) (hL : (0 ≤ ((u.1 0 15)).toInt ∧ ((u.1 0 15)).toInt ≤ 150)) (hX : (0 ≤ ((u.1 0 16)).toInt ∧ ((u.1 0 16)).toInt ≤ 150)) : xMv l yX11_next cX11_next 2 none (xRm 2 42) D (xty Y) (wM a Y) ts [.ref (a 0)] u (m_next u) := by
  suffices h : ∀ V, V = m_next_b u → xMv l yX11_next cX11_next 2 none (xRm 2 42) D (xty Y) (wM a Y) ts [.ref (a 0)] u V from h _ (by rw [m_next_def])
  intro V hV
  refine xofv RX11 rfl (by decide) (Nat.le_of_ble_eq_true rfl) ?_
  intro p e s m args below meth c ls H locs A S hr hlk hl hK hE hA hw
  have hl : lv_has ls 2 [(0, .ref (a 0))] := hl
  have lp_1 : ∀ (n_1 : Nat) (u_1 : xU) (H : Heap) (locs : List Loc) (ls : Array Slot), ((0 ≤ ((u_1.1 0 15)).toInt ∧ ((u_1.1 0 15)).toInt ≤ 150)) → ((0 ≤ ((u_1.1 0 16)).toInt ∧ ((u_1.1 0 16)).toInt ≤ 150)) → (((u_1.1 0 15)).toInt - ((u_1.1 0 16)).toInt < (n_1 : Int) ∧ 1 ≤ n_1) → lv_has ls 2 [(0, .ref (a 0))] → xw D (wM a Y) A s.heap H locs u_1 → V = m_next_L0 n_1 u_1 → W p l e (xRm 2 42) s m args below meth c H locs 0 0 (MQ below (va_Qv (fun v => v = V) (xPost D (wM a Y) A) A) args s 0 0 A) (F0 m 0 ls []) := by
    intro n_1
    induction n_1 with
    | zero => intro  u_1 H locs ls i0_1 i1_1 hn; exact absurd hn.2 (by decide)
    | succ n_1 ih_1 =>
      intro  u_1 H locs ls i0_1 i1_1 hn_1 hl hw hV
      refine lv_aload_n S.1 S.2.1 dX11_next_0 rfl (lv_at hl 0 rfl) ?_
      refine lv_aload_n S.1 S.2.1 dX11_next_1 rfl (lv_at hl 0 rfl) ?_
      refine xget (v := .int (u_1.1 0 16)) S hK hw 0 rfl rfl inX11 16 (by decide) mfX11_82 rfl dX11_next_2 ?_
      refine xci (rest := []) S hK hE hA hw yfX11_letterAt (c_m_letterAt l D a Y ts _ (u_1.1 0 16) (show (0 ≤ ((u_1.1 0 15)).toInt ∧ ((u_1.1 0 15)).toInt ≤ 150) from by omega) (show 0 ≤ ((u_1.1 0 16)).toInt ∧ ((u_1.1 0 16)).toInt < 2147483648 from by omega)) 0 rfl rfl mlX11_85 rfl rfl hl.1 ⟨rfl, rfl, Nat.le_of_ble_eq_true rfl, Nat.le_of_ble_eq_true rfl, Nat.le_of_ble_eq_true rfl, Nat.zero_le _, Nat.zero_le _⟩ dX11_next_5 (fun H locs hw => ?_)
      refine lv_bipush (v := 32) S.1 S.2.1 dX11_next_8 (by decide) ?_
      refine lv_icmp_ne (tgt := 26) S.1 S.2.1 dX11_next_10 (by decide) (fun c_2 => ?_) (fun c_2 => ?_)
      · replace hV := hV.trans (if_neg c_2)
        have gc_2 : ¬ ((m_letterAt u_1 (u_1.1 0 16))).toInt = 32 := xq_ne c_2 rfl rfl
        refine lv_aload_n S.1 S.2.1 dX11_next_26 rfl (lv_at hl 0 rfl) ?_
        refine lv_aload_n S.1 S.2.1 dX11_next_27 rfl (lv_at hl 0 rfl) ?_
        refine xget (v := .int (u_1.1 0 16)) S hK hw 0 rfl rfl inX11 16 (by decide) mfX11_82 rfl dX11_next_28 ?_
        refine xputi (ty := .int) S hK hw 0 rfl rfl inX11 tyX11 tyX11_ok nmX11 17 (by decide) mfX11_89 rfl (by decide +kernel) rfl rfl (Nat.le_of_ble_eq_true rfl) (oM_0_17 _ _ _ _) dX11_next_31 (fun H locs hw => ?_)
        refine lv_aload_n S.1 S.2.1 dX11_next_34 rfl (lv_at hl 0 rfl) ?_
        refine lv_aload_n S.1 S.2.1 dX11_next_35 rfl (lv_at hl 0 rfl) ?_
        refine xget (v := .int (u_1.1 0 16)) S hK hw 0 rfl rfl inX11 16 (by decide) mfX11_82 rfl dX11_next_36 ?_
        refine xci (rest := []) S hK hE hA hw yfX11_letterAt (c_m_letterAt l D a Y ts _ (u_1.1 0 16) (show (0 ≤ ((u_1.1 0 15)).toInt ∧ ((u_1.1 0 15)).toInt ≤ 150) from by omega) (show 0 ≤ ((u_1.1 0 16)).toInt ∧ ((u_1.1 0 16)).toInt < 2147483648 from by omega)) 0 rfl rfl mlX11_85 rfl rfl hl.1 ⟨rfl, rfl, Nat.le_of_ble_eq_true rfl, Nat.le_of_ble_eq_true rfl, Nat.le_of_ble_eq_true rfl, Nat.zero_le _, Nat.zero_le _⟩ dX11_next_39 (fun H locs hw => ?_)
        refine lv_istore_n (lv' := [(1, .int (m_letterAt (sp u_1 0 (upd (u_1.1 0) 17 (u_1.1 0 16))) (u_1.1 0 16))), (0, .ref (a 0))]) S.1 S.2.1 dX11_next_42 rfl hl (by decide) rfl (fun ls hl => ?_)
        refine lv_aload_n S.1 S.2.1 dX11_next_43 rfl (lv_at hl 1 rfl) ?_
        refine lv_iconst (v := 0) S.1 S.2.1 dX11_next_44 (by decide) ?_
        refine xputi (ty := .int) S hK hw 0 rfl rfl inX11 tyX11 tyX11_ok nmX11 19 (by decide) mfX11_92 rfl (by decide +kernel) rfl rfl (Nat.le_of_ble_eq_true rfl) (oM_0_19 _ _ _ _) dX11_next_45 (fun H locs hw => ?_)
        refine lv_iload_n S.1 S.2.1 dX11_next_48 rfl (lv_at hl 0 rfl) ?_
        refine lv_if_ge (tgt := 60) S.1 S.2.1 dX11_next_49 (by decide) (fun c_5 => ?_) (fun c_5 => ?_)
        · replace hV := hV.trans (if_pos c_5)
          have gc_5 : 0 ≤ ((m_letterAt (sp u_1 0 (upd (u_1.1 0) 17 (u_1.1 0 16))) (u_1.1 0 16))).toInt := xq_le c_5 rfl rfl
          have fc_5 : ((u_1.1 0 16)).toInt < ((u_1.1 0 15)).toInt := hk_l0 c_5
          refine lv_iload_n S.1 S.2.1 dX11_next_60 rfl (lv_at hl 0 rfl) ?_
          refine xcP (rest := []) S hw yfX11_isFigure (c_m_isFigure l (m_letterAt (sp u_1 0 (upd (u_1.1 0) 17 (u_1.1 0 16))) (u_1.1 0 16))) mlX11_98 rfl rfl hl.1 ⟨rfl, rfl, Nat.le_of_ble_eq_true rfl, Nat.le_of_ble_eq_true rfl, Nat.le_of_ble_eq_true rfl, Nat.zero_le _, Nat.zero_le _⟩ dX11_next_61 (fun H locs hw => ?_)
          refine lv_if_eq (tgt := 173) S.1 S.2.1 dX11_next_64 (by decide) (fun c_6 => ?_) (fun c_6 => ?_)
          · replace hV := hV.trans (if_pos c_6)
            have gc_6 : ((b2i (m_isFigure (m_letterAt (sp u_1 0 (upd (u_1.1 0) 17 (u_1.1 0 16))) (u_1.1 0 16))))).toInt = 0 := xq_eq c_6 rfl rfl
            refine lv_iload_n S.1 S.2.1 dX11_next_173 rfl (lv_at hl 0 rfl) ?_
            refine xcP (rest := []) S hw yfX11_isLetter (c_m_isLetter l (m_letterAt (sp u_1 0 (upd (u_1.1 0) 17 (u_1.1 0 16))) (u_1.1 0 16))) mlX11_102 rfl rfl hl.1 ⟨rfl, rfl, Nat.le_of_ble_eq_true rfl, Nat.le_of_ble_eq_true rfl, Nat.le_of_ble_eq_true rfl, Nat.zero_le _, Nat.zero_le _⟩ dX11_next_174 (fun H locs hw => ?_)
            refine lv_if_eq (tgt := 237) S.1 S.2.1 dX11_next_177 (by decide) (fun c_7 => ?_) (fun c_7 => ?_)
            · replace hV := hV.trans (if_pos c_7)
              have gc_7 : ((b2i (m_isLetter (m_letterAt (sp u_1 0 (upd (u_1.1 0) 17 (u_1.1 0 16))) (u_1.1 0 16))))).toInt = 0 := xq_eq c_7 rfl rfl
              refine lv_aload_n S.1 S.2.1 dX11_next_237 rfl (lv_at hl 1 rfl) ?_
              refine lv_iload_n S.1 S.2.1 dX11_next_238 rfl (lv_at hl 0 rfl) ?_
              refine lv_bipush (v := 59) S.1 S.2.1 dX11_next_239 (by decide) ?_
              refine lv_icmp_ne (tgt := 248) S.1 S.2.1 dX11_next_241 (by decide) (fun c_8 => ?_) (fun c_8 => ?_)
              · replace hV := hV.trans (if_neg c_8)
                have gc_8 : ¬ ((m_letterAt (sp u_1 0 (upd (u_1.1 0) 17 (u_1.1 0 16))) (u_1.1 0 16))).toInt = 59 := xq_ne c_8 rfl rfl
                refine lv_iconst (v := 4) S.1 S.2.1 dX11_next_248 (by decide) ?_
                refine xputi (ty := .int) S hK hw 0 rfl rfl inX11 tyX11 tyX11_ok nmX11 18 (by decide) mfX11_95 rfl (by decide +kernel) rfl rfl (Nat.le_of_ble_eq_true rfl) (oM_0_18 _ _ _ _) dX11_next_249 (fun H locs hw => ?_)
                refine lv_aload_n S.1 S.2.1 dX11_next_252 rfl (lv_at hl 1 rfl) ?_
                refine lv_dup S.1 S.2.1 dX11_next_253 rfl ?_
                refine xget (v := .int (u_1.1 0 16)) S hK hw 0 rfl rfl inX11 16 (by decide) mfX11_82 rfl dX11_next_254 ?_
                refine lv_iconst (v := 1) S.1 S.2.1 dX11_next_257 (by decide) ?_
                refine lv_iadd S.1 S.2.1 dX11_next_258 ?_
                refine xputi (ty := .int) S hK hw 0 rfl rfl inX11 tyX11 tyX11_ok nmX11 16 (by decide) mfX11_82 rfl (by decide +kernel) rfl rfl (Nat.le_of_ble_eq_true rfl) (oM_0_16 _ _ _ _) dX11_next_259 (fun H locs hw => ?_)
                exact xrv S hr hlk hw hV dX11_next_262
              · replace hV := hV.trans (if_pos c_8)
                have gc_8 : ((m_letterAt (sp u_1 0 (upd (u_1.1 0) 17 (u_1.1 0 16))) (u_1.1 0 16))).toInt = 59 := xq_eq c_8 rfl rfl
                refine lv_iconst (v := 3) S.1 S.2.1 dX11_next_244 (by decide) ?_
                refine lv_goto (tgt := 249) S.1 S.2.1 dX11_next_245 (by decide) ?_
                refine xputi (ty := .int) S hK hw 0 rfl rfl inX11 tyX11 tyX11_ok nmX11 18 (by decide) mfX11_95 rfl (by decide +kernel) rfl rfl (Nat.le_of_ble_eq_true rfl) (oM_0_18 _ _ _ _) dX11_next_249 (fun H locs hw => ?_)
                refine lv_aload_n S.1 S.2.1 dX11_next_252 rfl (lv_at hl 1 rfl) ?_
                refine lv_dup S.1 S.2.1 dX11_next_253 rfl ?_
                refine xget (v := .int (u_1.1 0 16)) S hK hw 0 rfl rfl inX11 16 (by decide) mfX11_82 rfl dX11_next_254 ?_
                refine lv_iconst (v := 1) S.1 S.2.1 dX11_next_257 (by decide) ?_
                refine lv_iadd S.1 S.2.1 dX11_next_258 ?_
                refine xputi (ty := .int) S hK hw 0 rfl rfl inX11 tyX11 tyX11_ok nmX11 16 (by decide) mfX11_82 rfl (by decide +kernel) rfl rfl (Nat.le_of_ble_eq_true rfl) (oM_0_16 _ _ _ _) dX11_next_259 (fun H locs hw => ?_)
                exact xrv S hr hlk hw hV dX11_next_262
            · replace hV := hV.trans (if_neg c_7)
              have gc_7 : ¬ ((b2i (m_isLetter (m_letterAt (sp u_1 0 (upd (u_1.1 0) 17 (u_1.1 0 16))) (u_1.1 0 16))))).toInt = 0 := xq_ne c_7 rfl rfl
              have fc_7 : ((u_1.1 0 16)).toInt < ((u_1.1 0 15)).toInt := hk_ll c_7
              have lp_13 : ∀ (n_13 : Nat) (u_13 : xU) (H : Heap) (locs : List Loc) (ls : Array Slot), ((0 ≤ ((u_13.1 0 15)).toInt ∧ ((u_13.1 0 15)).toInt ≤ 150)) → ((0 ≤ ((u_13.1 0 16)).toInt ∧ ((u_13.1 0 16)).toInt ≤ 150)) → (((u_13.1 0 15)).toInt - ((u_13.1 0 16)).toInt < (n_13 : Int) ∧ 1 ≤ n_13) → lv_has ls 2 [(0, .ref (a 0)), (1, .int (m_letterAt (sp u_1 0 (upd (u_1.1 0) 17 (u_1.1 0 16))) (u_1.1 0 16)))] → xw D (wM a Y) A s.heap H locs u_13 → V = m_next_L180 (m_letterAt (sp u_1 0 (upd (u_1.1 0) 17 (u_1.1 0 16))) (u_1.1 0 16)) n_13 u_13 → W p l e (xRm 2 42) s m args below meth c H locs 0 0 (MQ below (va_Qv (fun v => v = V) (xPost D (wM a Y) A) A) args s 0 0 A) (F0 m 180 ls []) := by
                intro n_13
                induction n_13 with
                | zero => intro  u_13 H locs ls i0_13 i1_13 hn; exact absurd hn.2 (by decide)
                | succ n_13 ih_13 =>
                  intro  u_13 H locs ls i0_13 i1_13 hn_13 hl hw hV
                  refine lv_aload_n S.1 S.2.1 dX11_next_180 rfl (lv_at hl 0 rfl) ?_
                  refine lv_aload_n S.1 S.2.1 dX11_next_181 rfl (lv_at hl 0 rfl) ?_
                  refine xget (v := .int (u_13.1 0 16)) S hK hw 0 rfl rfl inX11 16 (by decide) mfX11_82 rfl dX11_next_182 ?_
                  refine xci (rest := []) S hK hE hA hw yfX11_letterAt (c_m_letterAt l D a Y ts _ (u_13.1 0 16) (show (0 ≤ ((u_13.1 0 15)).toInt ∧ ((u_13.1 0 15)).toInt ≤ 150) from by omega) (show 0 ≤ ((u_13.1 0 16)).toInt ∧ ((u_13.1 0 16)).toInt < 2147483648 from by omega)) 0 rfl rfl mlX11_85 rfl rfl hl.1 ⟨rfl, rfl, Nat.le_of_ble_eq_true rfl, Nat.le_of_ble_eq_true rfl, Nat.le_of_ble_eq_true rfl, Nat.zero_le _, Nat.zero_le _⟩ dX11_next_185 (fun H locs hw => ?_)
                  refine xcP (rest := []) S hw yfX11_isLetter (c_m_isLetter l (m_letterAt u_13 (u_13.1 0 16))) mlX11_102 rfl rfl hl.1 ⟨rfl, rfl, Nat.le_of_ble_eq_true rfl, Nat.le_of_ble_eq_true rfl, Nat.le_of_ble_eq_true rfl, Nat.zero_le _, Nat.zero_le _⟩ dX11_next_188 (fun H locs hw => ?_)
                  refine lv_if_eq (tgt := 207) S.1 S.2.1 dX11_next_191 (by decide) (fun c_14 => ?_) (fun c_14 => ?_)
                  · replace hV := hV.trans (if_pos c_14)
                    have gc_14 : ((b2i (m_isLetter (m_letterAt u_13 (u_13.1 0 16))))).toInt = 0 := xq_eq c_14 rfl rfl
                    refine lv_aload_n S.1 S.2.1 dX11_next_207 rfl (lv_at hl 0 rfl) ?_
                    refine lv_iconst (v := 1) S.1 S.2.1 dX11_next_208 (by decide) ?_
                    refine xputi (ty := .int) S hK hw 0 rfl rfl inX11 tyX11 tyX11_ok nmX11 18 (by decide) mfX11_95 rfl (by decide +kernel) rfl rfl (Nat.le_of_ble_eq_true rfl) (oM_0_18 _ _ _ _) dX11_next_209 (fun H locs hw => ?_)
                    refine lv_aload_n S.1 S.2.1 dX11_next_212 rfl (lv_at hl 0 rfl) ?_
                    refine lv_aload_n S.1 S.2.1 dX11_next_213 rfl (lv_at hl 0 rfl) ?_
                    refine xget (v := .int (u_13.1 0 16)) S hK hw 0 rfl rfl inX11 16 (by decide) mfX11_82 rfl dX11_next_214 ?_
                    refine lv_aload_n S.1 S.2.1 dX11_next_217 rfl (lv_at hl 0 rfl) ?_
                    refine xget (v := .int (u_13.1 0 17)) S hK hw 0 rfl rfl inX11 17 (by decide) mfX11_89 rfl dX11_next_218 ?_
                    refine lv_isub S.1 S.2.1 dX11_next_221 ?_
                    refine lv_iconst (v := 1) S.1 S.2.1 dX11_next_222 (by decide) ?_
                    refine lv_icmp_ne (tgt := 230) S.1 S.2.1 dX11_next_223 (by decide) (fun c_16 => ?_) (fun c_16 => ?_)
                    · replace hV := hV.trans (if_neg c_16)
                      refine lv_iconst (v := 0) S.1 S.2.1 dX11_next_230 (by decide) ?_
                      refine xputi (ty := .int) S hK hw 0 rfl rfl inX11 tyX11 tyX11_ok nmX11 19 (by decide) mfX11_92 rfl (by decide +kernel) rfl rfl (Nat.le_of_ble_eq_true rfl) (oM_0_19 _ _ _ _) dX11_next_231 (fun H locs hw => ?_)
                      refine lv_goto (tgt := 262) S.1 S.2.1 dX11_next_234 (by decide) ?_
                      exact xrv S hr hlk hw hV dX11_next_262
                    · replace hV := hV.trans (if_pos c_16)
                      refine lv_iload_n S.1 S.2.1 dX11_next_226 rfl (lv_at hl 1 rfl) ?_
                      refine lv_goto (tgt := 231) S.1 S.2.1 dX11_next_227 (by decide) ?_
                      refine xputi (ty := .int) S hK hw 0 rfl rfl inX11 tyX11 tyX11_ok nmX11 19 (by decide) mfX11_92 rfl (by decide +kernel) rfl rfl (Nat.le_of_ble_eq_true rfl) (oM_0_19 _ _ _ _) dX11_next_231 (fun H locs hw => ?_)
                      refine lv_goto (tgt := 262) S.1 S.2.1 dX11_next_234 (by decide) ?_
                      exact xrv S hr hlk hw hV dX11_next_262
                  · replace hV := hV.trans (if_neg c_14)
                    have gc_14 : ¬ ((b2i (m_isLetter (m_letterAt u_13 (u_13.1 0 16))))).toInt = 0 := xq_ne c_14 rfl rfl
                    have fc_14 : ((u_13.1 0 16)).toInt < ((u_13.1 0 15)).toInt := hk_ll c_14
                    refine lv_aload_n S.1 S.2.1 dX11_next_194 rfl (lv_at hl 0 rfl) ?_
                    refine lv_dup S.1 S.2.1 dX11_next_195 rfl ?_
                    refine xget (v := .int (u_13.1 0 16)) S hK hw 0 rfl rfl inX11 16 (by decide) mfX11_82 rfl dX11_next_196 ?_
                    refine lv_iconst (v := 1) S.1 S.2.1 dX11_next_199 (by decide) ?_
                    refine lv_iadd S.1 S.2.1 dX11_next_200 ?_
                    refine xputi (ty := .int) S hK hw 0 rfl rfl inX11 tyX11 tyX11_ok nmX11 16 (by decide) mfX11_82 rfl (by decide +kernel) rfl rfl (Nat.le_of_ble_eq_true rfl) (oM_0_16 _ _ _ _) dX11_next_201 (fun H locs hw => ?_)
                    refine lv_goto (tgt := 180) S.1 S.2.1 dX11_next_204 (by decide) ?_
                    have e_20 : ∀ _ : Unit, (((u_13.1 0 16) + (1 : Int32))).toInt = ((u_13.1 0 16)).toInt + 1 := fun _ => xadd rfl rfl (by omega) (by omega)
                    clear hn_1
                    exact ih_13 (sp u_13 0 (upd (u_13.1 0) 16 ((u_13.1 0 16) + (1 : Int32)))) _ _ _ (show (0 ≤ ((u_13.1 0 15)).toInt ∧ ((u_13.1 0 15)).toInt ≤ 150) from by omega) (show (0 ≤ (((u_13.1 0 16) + (1 : Int32))).toInt ∧ (((u_13.1 0 16) + (1 : Int32))).toInt ≤ 150) from by rw [(e_20 ())]; omega) (show ((u_13.1 0 15)).toInt - (((u_13.1 0 16) + (1 : Int32))).toInt < (n_13 : Int) ∧ 1 ≤ n_13 from by rw [(e_20 ())]; omega) (lv_sub hl [0, 1] rfl) hw hV
              exact lp_13 151 (sp (sp u_1 0 (upd (u_1.1 0) 17 (u_1.1 0 16))) 0 (upd ((upd (u_1.1 0) 17 (u_1.1 0 16))) 19 (0 : Int32))) _ _ _ (show (0 ≤ ((u_1.1 0 15)).toInt ∧ ((u_1.1 0 15)).toInt ≤ 150) from by omega) (show (0 ≤ ((u_1.1 0 16)).toInt ∧ ((u_1.1 0 16)).toInt ≤ 150) from by omega) (show ((u_1.1 0 15)).toInt - ((u_1.1 0 16)).toInt < ((151 : Nat) : Int) ∧ 1 ≤ (151 : Nat) from by omega) (lv_sub hl [1, 0] rfl) hw hV
          · replace hV := hV.trans (if_neg c_6)
            have gc_6 : ¬ ((b2i (m_isFigure (m_letterAt (sp u_1 0 (upd (u_1.1 0) 17 (u_1.1 0 16))) (u_1.1 0 16))))).toInt = 0 := xq_ne c_6 rfl rfl
            have fc_6 : ((u_1.1 0 16)).toInt < ((u_1.1 0 15)).toInt := hk_lf c_6
            have lp_21 : ∀ (n_21 : Nat) (u_21 : xU) (H : Heap) (locs : List Loc) (ls : Array Slot), ((0 ≤ ((u_21.1 0 15)).toInt ∧ ((u_21.1 0 15)).toInt ≤ 150)) → ((0 ≤ ((u_21.1 0 16)).toInt ∧ ((u_21.1 0 16)).toInt ≤ 150)) → (((u_21.1 0 15)).toInt - ((u_21.1 0 16)).toInt < (n_21 : Int) ∧ 1 ≤ n_21) → lv_has ls 2 [(0, .ref (a 0)), (1, .int (m_letterAt (sp u_1 0 (upd (u_1.1 0) 17 (u_1.1 0 16))) (u_1.1 0 16)))] → xw D (wM a Y) A s.heap H locs u_21 → V = m_next_L67 (m_letterAt (sp u_1 0 (upd (u_1.1 0) 17 (u_1.1 0 16))) (u_1.1 0 16)) n_21 u_21 → W p l e (xRm 2 42) s m args below meth c H locs 0 0 (MQ below (va_Qv (fun v => v = V) (xPost D (wM a Y) A) A) args s 0 0 A) (F0 m 67 ls []) := by
              intro n_21
              induction n_21 with
              | zero => intro  u_21 H locs ls i0_21 i1_21 hn; exact absurd hn.2 (by decide)
              | succ n_21 ih_21 =>
                intro  u_21 H locs ls i0_21 i1_21 hn_21 hl hw hV
                refine lv_aload_n S.1 S.2.1 dX11_next_67 rfl (lv_at hl 0 rfl) ?_
                refine lv_aload_n S.1 S.2.1 dX11_next_68 rfl (lv_at hl 0 rfl) ?_
                refine xget (v := .int (u_21.1 0 16)) S hK hw 0 rfl rfl inX11 16 (by decide) mfX11_82 rfl dX11_next_69 ?_
                refine xci (rest := []) S hK hE hA hw yfX11_letterAt (c_m_letterAt l D a Y ts _ (u_21.1 0 16) (show (0 ≤ ((u_21.1 0 15)).toInt ∧ ((u_21.1 0 15)).toInt ≤ 150) from by omega) (show 0 ≤ ((u_21.1 0 16)).toInt ∧ ((u_21.1 0 16)).toInt < 2147483648 from by omega)) 0 rfl rfl mlX11_85 rfl rfl hl.1 ⟨rfl, rfl, Nat.le_of_ble_eq_true rfl, Nat.le_of_ble_eq_true rfl, Nat.le_of_ble_eq_true rfl, Nat.zero_le _, Nat.zero_le _⟩ dX11_next_72 (fun H locs hw => ?_)
                refine xcP (rest := []) S hw yfX11_isFigure (c_m_isFigure l (m_letterAt u_21 (u_21.1 0 16))) mlX11_98 rfl rfl hl.1 ⟨rfl, rfl, Nat.le_of_ble_eq_true rfl, Nat.le_of_ble_eq_true rfl, Nat.le_of_ble_eq_true rfl, Nat.zero_le _, Nat.zero_le _⟩ dX11_next_75 (fun H locs hw => ?_)
                refine lv_if_eq (tgt := 133) S.1 S.2.1 dX11_next_78 (by decide) (fun c_22 => ?_) (fun c_22 => ?_)
                · replace hV := hV.trans (if_pos c_22)
                  have gc_22 : ((b2i (m_isFigure (m_letterAt u_21 (u_21.1 0 16))))).toInt = 0 := xq_eq c_22 rfl rfl
                  refine lv_aload_n S.1 S.2.1 dX11_next_133 rfl (lv_at hl 0 rfl) ?_
                  refine lv_aload_n S.1 S.2.1 dX11_next_134 rfl (lv_at hl 0 rfl) ?_
                  refine xget (v := .int (u_21.1 0 19)) S hK hw 0 rfl rfl inX11 19 (by decide) mfX11_92 rfl dX11_next_135 ?_
                  refine lv_bipush (v := 99) S.1 S.2.1 dX11_next_138 (by decide) ?_
                  refine lv_icmp_gt (tgt := 162) S.1 S.2.1 dX11_next_140 (by decide) (fun c_23 => ?_) (fun c_23 => ?_)
                  · replace hV := hV.trans (if_pos c_23)
                    have gc_23 : 99 < ((u_21.1 0 19)).toInt := xq_lt c_23 rfl rfl
                    refine lv_iconst (v := 4) S.1 S.2.1 dX11_next_162 (by decide) ?_
                    refine lv_goto (tgt := 167) S.1 S.2.1 dX11_next_163 (by decide) ?_
                    refine xputi (ty := .int) S hK hw 0 rfl rfl inX11 tyX11 tyX11_ok nmX11 18 (by decide) mfX11_95 rfl (by decide +kernel) rfl rfl (Nat.le_of_ble_eq_true rfl) (oM_0_18 _ _ _ _) dX11_next_167 (fun H locs hw => ?_)
                    refine lv_goto (tgt := 262) S.1 S.2.1 dX11_next_170 (by decide) ?_
                    exact xrv S hr hlk hw hV dX11_next_262
                  · replace hV := hV.trans (if_neg c_23)
                    have gc_23 : ((u_21.1 0 19)).toInt ≤ 99 := xq_nlt c_23 rfl rfl
                    refine lv_iload_n S.1 S.2.1 dX11_next_143 rfl (lv_at hl 1 rfl) ?_
                    refine lv_bipush (v := 48) S.1 S.2.1 dX11_next_144 (by decide) ?_
                    refine lv_icmp_ne (tgt := 166) S.1 S.2.1 dX11_next_146 (by decide) (fun c_25 => ?_) (fun c_25 => ?_)
                    · replace hV := hV.trans (if_neg c_25)
                      have gc_25 : ¬ ((m_letterAt (sp u_1 0 (upd (u_1.1 0) 17 (u_1.1 0 16))) (u_1.1 0 16))).toInt = 48 := xq_ne c_25 rfl rfl
                      refine lv_iconst (v := 2) S.1 S.2.1 dX11_next_166 (by decide) ?_
                      refine xputi (ty := .int) S hK hw 0 rfl rfl inX11 tyX11 tyX11_ok nmX11 18 (by decide) mfX11_95 rfl (by decide +kernel) rfl rfl (Nat.le_of_ble_eq_true rfl) (oM_0_18 _ _ _ _) dX11_next_167 (fun H locs hw => ?_)
                      refine lv_goto (tgt := 262) S.1 S.2.1 dX11_next_170 (by decide) ?_
                      exact xrv S hr hlk hw hV dX11_next_262
                    · replace hV := hV.trans (if_pos c_25)
                      have gc_25 : ((m_letterAt (sp u_1 0 (upd (u_1.1 0) 17 (u_1.1 0 16))) (u_1.1 0 16))).toInt = 48 := xq_eq c_25 rfl rfl
                      refine lv_aload_n S.1 S.2.1 dX11_next_149 rfl (lv_at hl 0 rfl) ?_
                      refine xget (v := .int (u_21.1 0 16)) S hK hw 0 rfl rfl inX11 16 (by decide) mfX11_82 rfl dX11_next_150 ?_
                      refine lv_aload_n S.1 S.2.1 dX11_next_153 rfl (lv_at hl 0 rfl) ?_
                      refine xget (v := .int (u_21.1 0 17)) S hK hw 0 rfl rfl inX11 17 (by decide) mfX11_89 rfl dX11_next_154 ?_
                      refine lv_isub S.1 S.2.1 dX11_next_157 ?_
                      refine lv_iconst (v := 1) S.1 S.2.1 dX11_next_158 (by decide) ?_
                      refine lv_icmp_le (tgt := 166) S.1 S.2.1 dX11_next_159 (by decide) (fun c_27 => ?_) (fun c_27 => ?_)
                      · replace hV := hV.trans (if_pos c_27)
                        refine lv_iconst (v := 2) S.1 S.2.1 dX11_next_166 (by decide) ?_
                        refine xputi (ty := .int) S hK hw 0 rfl rfl inX11 tyX11 tyX11_ok nmX11 18 (by decide) mfX11_95 rfl (by decide +kernel) rfl rfl (Nat.le_of_ble_eq_true rfl) (oM_0_18 _ _ _ _) dX11_next_167 (fun H locs hw => ?_)
                        refine lv_goto (tgt := 262) S.1 S.2.1 dX11_next_170 (by decide) ?_
                        exact xrv S hr hlk hw hV dX11_next_262
                      · replace hV := hV.trans (if_neg c_27)
                        refine lv_iconst (v := 4) S.1 S.2.1 dX11_next_162 (by decide) ?_
                        refine lv_goto (tgt := 167) S.1 S.2.1 dX11_next_163 (by decide) ?_
                        refine xputi (ty := .int) S hK hw 0 rfl rfl inX11 tyX11 tyX11_ok nmX11 18 (by decide) mfX11_95 rfl (by decide +kernel) rfl rfl (Nat.le_of_ble_eq_true rfl) (oM_0_18 _ _ _ _) dX11_next_167 (fun H locs hw => ?_)
                        refine lv_goto (tgt := 262) S.1 S.2.1 dX11_next_170 (by decide) ?_
                        exact xrv S hr hlk hw hV dX11_next_262
                · replace hV := hV.trans (if_neg c_22)
                  have gc_22 : ¬ ((b2i (m_isFigure (m_letterAt u_21 (u_21.1 0 16))))).toInt = 0 := xq_ne c_22 rfl rfl
                  have fc_22 : ((u_21.1 0 16)).toInt < ((u_21.1 0 15)).toInt := hk_lf c_22
                  refine lv_aload_n S.1 S.2.1 dX11_next_81 rfl (lv_at hl 0 rfl) ?_
                  refine lv_aload_n S.1 S.2.1 dX11_next_82 rfl (lv_at hl 0 rfl) ?_
                  refine xget (v := .int (u_21.1 0 19)) S hK hw 0 rfl rfl inX11 19 (by decide) mfX11_92 rfl dX11_next_83 ?_
                  refine lv_bipush (v := 99) S.1 S.2.1 dX11_next_86 (by decide) ?_
                  refine lv_icmp_le (tgt := 98) S.1 S.2.1 dX11_next_88 (by decide) (fun c_30 => ?_) (fun c_30 => ?_)
                  · replace hV := hV.trans (if_pos c_30)
                    have gc_30 : ((u_21.1 0 19)).toInt ≤ 99 := xq_le c_30 rfl rfl
                    refine lv_bipush (v := 10) S.1 S.2.1 dX11_next_98 (by decide) ?_
                    refine lv_aload_n S.1 S.2.1 dX11_next_100 rfl (lv_at hl 0 rfl) ?_
                    refine xget (v := .int (u_21.1 0 19)) S hK hw 0 rfl rfl inX11 19 (by decide) mfX11_92 rfl dX11_next_101 ?_
                    refine lv_imul S.1 S.2.1 dX11_next_104 ?_
                    refine lv_aload_n S.1 S.2.1 dX11_next_105 rfl (lv_at hl 0 rfl) ?_
                    refine lv_aload_n S.1 S.2.1 dX11_next_106 rfl (lv_at hl 0 rfl) ?_
                    refine xget (v := .int (u_21.1 0 16)) S hK hw 0 rfl rfl inX11 16 (by decide) mfX11_82 rfl dX11_next_107 ?_
                    refine xci (rest := [.int ((10 : Int32) * (u_21.1 0 19)), .ref (a 0)]) S hK hE hA hw yfX11_letterAt (c_m_letterAt l D a Y ts _ (u_21.1 0 16) (show (0 ≤ ((u_21.1 0 15)).toInt ∧ ((u_21.1 0 15)).toInt ≤ 150) from by omega) (show 0 ≤ ((u_21.1 0 16)).toInt ∧ ((u_21.1 0 16)).toInt < 2147483648 from by omega)) 0 rfl rfl mlX11_85 rfl rfl hl.1 ⟨rfl, rfl, Nat.le_of_ble_eq_true rfl, Nat.le_of_ble_eq_true rfl, Nat.le_of_ble_eq_true rfl, Nat.zero_le _, Nat.zero_le _⟩ dX11_next_110 (fun H locs hw => ?_)
                    refine lv_iadd S.1 S.2.1 dX11_next_113 ?_
                    refine lv_bipush (v := 48) S.1 S.2.1 dX11_next_114 (by decide) ?_
                    refine lv_isub S.1 S.2.1 dX11_next_116 ?_
                    refine xputi (ty := .int) S hK hw 0 rfl rfl inX11 tyX11 tyX11_ok nmX11 19 (by decide) mfX11_92 rfl (by decide +kernel) rfl rfl (Nat.le_of_ble_eq_true rfl) (oM_0_19 _ _ _ _) dX11_next_117 (fun H locs hw => ?_)
                    refine lv_aload_n S.1 S.2.1 dX11_next_120 rfl (lv_at hl 0 rfl) ?_
                    refine lv_dup S.1 S.2.1 dX11_next_121 rfl ?_
                    refine xget (v := .int (u_21.1 0 16)) S hK hw 0 rfl rfl inX11 16 (by decide) mfX11_82 rfl dX11_next_122 ?_
                    refine lv_iconst (v := 1) S.1 S.2.1 dX11_next_125 (by decide) ?_
                    refine lv_iadd S.1 S.2.1 dX11_next_126 ?_
                    refine xputi (ty := .int) S hK hw 0 rfl rfl inX11 tyX11 tyX11_ok nmX11 16 (by decide) mfX11_82 rfl (by decide +kernel) rfl rfl (Nat.le_of_ble_eq_true rfl) (oM_0_16 _ _ _ _) dX11_next_127 (fun H locs hw => ?_)
                    refine lv_goto (tgt := 67) S.1 S.2.1 dX11_next_130 (by decide) ?_
                    have e_33 : ∀ _ : Unit, (((u_21.1 0 16) + (1 : Int32))).toInt = ((u_21.1 0 16)).toInt + 1 := fun _ => xadd rfl rfl (by omega) (by omega)
                    clear hn_1
                    exact ih_21 (sp (sp u_21 0 (upd (u_21.1 0) 19 ((((10 : Int32) * (u_21.1 0 19)) + (m_letterAt u_21 (u_21.1 0 16))) - (48 : Int32)))) 0 (upd ((upd (u_21.1 0) 19 ((((10 : Int32) * (u_21.1 0 19)) + (m_letterAt u_21 (u_21.1 0 16))) - (48 : Int32)))) 16 ((u_21.1 0 16) + (1 : Int32)))) _ _ _ (show (0 ≤ ((u_21.1 0 15)).toInt ∧ ((u_21.1 0 15)).toInt ≤ 150) from by omega) (show (0 ≤ (((u_21.1 0 16) + (1 : Int32))).toInt ∧ (((u_21.1 0 16) + (1 : Int32))).toInt ≤ 150) from by rw [(e_33 ())]; omega) (show ((u_21.1 0 15)).toInt - (((u_21.1 0 16) + (1 : Int32))).toInt < (n_21 : Int) ∧ 1 ≤ n_21 from by rw [(e_33 ())]; omega) (lv_sub hl [0, 1] rfl) hw hV
                  · replace hV := hV.trans (if_neg c_30)
                    have gc_30 : 99 < ((u_21.1 0 19)).toInt := xq_nle c_30 rfl rfl
                    refine lv_aload_n S.1 S.2.1 dX11_next_91 rfl (lv_at hl 0 rfl) ?_
                    refine xget (v := .int (u_21.1 0 19)) S hK hw 0 rfl rfl inX11 19 (by decide) mfX11_92 rfl dX11_next_92 ?_
                    refine lv_goto (tgt := 117) S.1 S.2.1 dX11_next_95 (by decide) ?_
                    refine xputi (ty := .int) S hK hw 0 rfl rfl inX11 tyX11 tyX11_ok nmX11 19 (by decide) mfX11_92 rfl (by decide +kernel) rfl rfl (Nat.le_of_ble_eq_true rfl) (oM_0_19 _ _ _ _) dX11_next_117 (fun H locs hw => ?_)
                    refine lv_aload_n S.1 S.2.1 dX11_next_120 rfl (lv_at hl 0 rfl) ?_
                    refine lv_dup S.1 S.2.1 dX11_next_121 rfl ?_
                    refine xget (v := .int (u_21.1 0 16)) S hK hw 0 rfl rfl inX11 16 (by decide) mfX11_82 rfl dX11_next_122 ?_
                    refine lv_iconst (v := 1) S.1 S.2.1 dX11_next_125 (by decide) ?_
                    refine lv_iadd S.1 S.2.1 dX11_next_126 ?_
                    refine xputi (ty := .int) S hK hw 0 rfl rfl inX11 tyX11 tyX11_ok nmX11 16 (by decide) mfX11_82 rfl (by decide +kernel) rfl rfl (Nat.le_of_ble_eq_true rfl) (oM_0_16 _ _ _ _) dX11_next_127 (fun H locs hw => ?_)
                    refine lv_goto (tgt := 67) S.1 S.2.1 dX11_next_130 (by decide) ?_
                    have e_36 : ∀ _ : Unit, (((u_21.1 0 16) + (1 : Int32))).toInt = ((u_21.1 0 16)).toInt + 1 := fun _ => xadd rfl rfl (by omega) (by omega)
                    clear hn_1
                    exact ih_21 (sp (sp u_21 0 (upd (u_21.1 0) 19 (u_21.1 0 19))) 0 (upd ((upd (u_21.1 0) 19 (u_21.1 0 19))) 16 ((u_21.1 0 16) + (1 : Int32)))) _ _ _ (show (0 ≤ ((u_21.1 0 15)).toInt ∧ ((u_21.1 0 15)).toInt ≤ 150) from by omega) (show (0 ≤ (((u_21.1 0 16) + (1 : Int32))).toInt ∧ (((u_21.1 0 16) + (1 : Int32))).toInt ≤ 150) from by rw [(e_36 ())]; omega) (show ((u_21.1 0 15)).toInt - (((u_21.1 0 16) + (1 : Int32))).toInt < (n_21 : Int) ∧ 1 ≤ n_21 from by rw [(e_36 ())]; omega) (lv_sub hl [0, 1] rfl) hw hV
            exact lp_21 151 (sp (sp u_1 0 (upd (u_1.1 0) 17 (u_1.1 0 16))) 0 (upd ((upd (u_1.1 0) 17 (u_1.1 0 16))) 19 (0 : Int32))) _ _ _ (show (0 ≤ ((u_1.1 0 15)).toInt ∧ ((u_1.1 0 15)).toInt ≤ 150) from by omega) (show (0 ≤ ((u_1.1 0 16)).toInt ∧ ((u_1.1 0 16)).toInt ≤ 150) from by omega) (show ((u_1.1 0 15)).toInt - ((u_1.1 0 16)).toInt < ((151 : Nat) : Int) ∧ 1 ≤ (151 : Nat) from by omega) (lv_sub hl [1, 0] rfl) hw hV
        · replace hV := hV.trans (if_neg c_5)
          have gc_5 : ((m_letterAt (sp u_1 0 (upd (u_1.1 0) 17 (u_1.1 0 16))) (u_1.1 0 16))).toInt < 0 := xq_nle c_5 rfl rfl
          refine lv_aload_n S.1 S.2.1 dX11_next_52 rfl (lv_at hl 1 rfl) ?_
          refine lv_iconst (v := 0) S.1 S.2.1 dX11_next_53 (by decide) ?_
          refine xputi (ty := .int) S hK hw 0 rfl rfl inX11 tyX11 tyX11_ok nmX11 18 (by decide) mfX11_95 rfl (by decide +kernel) rfl rfl (Nat.le_of_ble_eq_true rfl) (oM_0_18 _ _ _ _) dX11_next_54 (fun H locs hw => ?_)
          refine lv_goto (tgt := 262) S.1 S.2.1 dX11_next_57 (by decide) ?_
          exact xrv S hr hlk hw hV dX11_next_262
      · replace hV := hV.trans (if_pos c_2)
        have gc_2 : ((m_letterAt u_1 (u_1.1 0 16))).toInt = 32 := xq_eq c_2 rfl rfl
        have fc_2 : ((u_1.1 0 16)).toInt < ((u_1.1 0 15)).toInt := hk_l32 c_2
        refine lv_aload_n S.1 S.2.1 dX11_next_13 rfl (lv_at hl 0 rfl) ?_
        refine lv_dup S.1 S.2.1 dX11_next_14 rfl ?_
        refine xget (v := .int (u_1.1 0 16)) S hK hw 0 rfl rfl inX11 16 (by decide) mfX11_82 rfl dX11_next_15 ?_
        refine lv_iconst (v := 1) S.1 S.2.1 dX11_next_18 (by decide) ?_
        refine lv_iadd S.1 S.2.1 dX11_next_19 ?_
        refine xputi (ty := .int) S hK hw 0 rfl rfl inX11 tyX11 tyX11_ok nmX11 16 (by decide) mfX11_82 rfl (by decide +kernel) rfl rfl (Nat.le_of_ble_eq_true rfl) (oM_0_16 _ _ _ _) dX11_next_20 (fun H locs hw => ?_)
        refine lv_goto (tgt := 0) S.1 S.2.1 dX11_next_23 (by decide) ?_
        have e_39 : ∀ _ : Unit, (((u_1.1 0 16) + (1 : Int32))).toInt = ((u_1.1 0 16)).toInt + 1 := fun _ => xadd rfl rfl (by omega) (by omega)
        exact ih_1 (sp u_1 0 (upd (u_1.1 0) 16 ((u_1.1 0 16) + (1 : Int32)))) _ _ _ (show (0 ≤ ((u_1.1 0 15)).toInt ∧ ((u_1.1 0 15)).toInt ≤ 150) from by omega) (show (0 ≤ (((u_1.1 0 16) + (1 : Int32))).toInt ∧ (((u_1.1 0 16) + (1 : Int32))).toInt ≤ 150) from by rw [(e_39 ())]; omega) (show ((u_1.1 0 15)).toInt - (((u_1.1 0 16) + (1 : Int32))).toInt < (n_1 : Int) ∧ 1 ≤ n_1 from by rw [(e_39 ())]; omega) (lv_sub hl [0] rfl) hw hV
  exact lp_1 151 u _ _ _ (show (0 ≤ ((u.1 0 15)).toInt ∧ ((u.1 0 15)).toInt ≤ 150) from by omega) (show (0 ≤ ((u.1 0 16)).toInt ∧ ((u.1 0 16)).toInt ≤ 150) from by omega) (show ((u.1 0 15)).toInt - ((u.1 0 16)).toInt < ((151 : Nat) : Int) ∧ 1 ≤ (151 : Nat) from by omega) (lv_sub hl [0] rfl) hw hV
noncomputable def m_remembers_L70 (x1 : Int32) : Nat → Int32 → xU → xU
  | 0, _, w => w
  | n + 1, x2, w =>
    (if (74 : Int32) ≤ x2 then
    let w_5 := sp w 7 (upd (w.1 7) 74 ((w.1 7 74) + (1 : Int32)))
    w_5
    else
    let w_9 := sp w 7 (upd (w.1 7) ((x1 + x2)).toNatClampNeg (w.1 7 (x2).toNatClampNeg))
    m_remembers_L70 x1 n (x2 + (1 : Int32)) w_9)
noncomputable def m_remembers_L15 : Nat → Int32 → xU → xU
  | 0, _, w => w
  | n + 1, x1, w =>
    (if (741 : Int32) ≤ x1 then
    let w_13 := sp w 7 (upd (w.1 7) 74 ((w.1 7 74) - (1 : Int32)))
    let t_14 := ((75 : Int32) + ((74 : Int32) * (w_13.1 7 74)))
    m_remembers_L70 t_14 75 (0 : Int32) w_13
    else
    let w_25 := sp w 7 (upd (w.1 7) (x1).toNatClampNeg (w.1 7 ((x1 + (74 : Int32))).toNatClampNeg))
    m_remembers_L15 n (x1 + (1 : Int32)) w_25)
noncomputable def m_remembers_b (u : xU) : xU :=
    (if (u.1 7 74) = (10 : Int32) then
    m_remembers_L15 742 (75 : Int32) u
    else
    let t_2 := ((75 : Int32) + ((74 : Int32) * (u.1 7 74)))
    m_remembers_L70 t_2 75 (0 : Int32) u)
theorem m_remembers_x : ∃ f : xU → xU, f = m_remembers_b := ⟨_, rfl⟩
noncomputable def m_remembers : xU → xU := m_remembers_x.choose
theorem m_remembers_def : m_remembers = m_remembers_b := m_remembers_x.choose_spec
set_option maxHeartbeats 4000000 in
set_option maxRecDepth 100000 in
theorem c_m_remembers (l : Launch) (D : va_G) (a : Nat → Nat) (Y : Nat → ClassId) (ts : Nat → Nat) (u : xU) (hU : (0 ≤ ((u.1 7 74)).toInt ∧ ((u.1 7 74)).toInt ≤ 10)) : xMv l yX11_remembers cX11_remembers 3 none (xRm 0 0) D (xty Y) (wM a Y) ts [.ref (a 0)] u (m_remembers u) := by
  suffices h : ∀ V, V = m_remembers_b u → xMv l yX11_remembers cX11_remembers 3 none (xRm 0 0) D (xty Y) (wM a Y) ts [.ref (a 0)] u V from h _ (by rw [m_remembers_def])
  intro V hV
  refine xofv RX11 rfl (by decide) (Nat.le_of_ble_eq_true rfl) ?_
  intro p e s m args below meth c ls H locs A S hr hlk hl hK hE hA hw
  have hl : lv_has ls 3 [(0, .ref (a 0))] := hl
  refine lv_aload_n S.1 S.2.1 dX11_remembers_0 rfl (lv_at hl 0 rfl) ?_
  refine xget (v := .ref (a 7)) S hK hw 0 rfl rfl inX11 8 (by decide) mfX11_28 rfl dX11_remembers_1 ?_
  refine lv_bipush (v := 74) S.1 S.2.1 dX11_remembers_4 (by decide) ?_
  refine xaldc (f := u.1 7) (x := (u.1 7 74)) (k := 74) S hK hw 7 0 rfl rfl (by decide) rfl (xvi (a := 74) rfl (by decide) (by decide)) dX11_remembers_6 ?_
  refine lv_bipush (v := 10) S.1 S.2.1 dX11_remembers_7 (by decide) ?_
  refine lv_icmp_ne (tgt := 54) S.1 S.2.1 dX11_remembers_9 (by decide) (fun c_1 => ?_) (fun c_1 => ?_)
  · replace hV := hV.trans (if_neg c_1)
    have gc_1 : ¬ ((u.1 7 74)).toInt = 10 := xq_ne c_1 rfl rfl
    refine lv_bipush (v := 75) S.1 S.2.1 dX11_remembers_54 (by decide) ?_
    refine lv_bipush (v := 74) S.1 S.2.1 dX11_remembers_56 (by decide) ?_
    refine lv_aload_n S.1 S.2.1 dX11_remembers_58 rfl (lv_at hl 0 rfl) ?_
    refine xget (v := .ref (a 7)) S hK hw 0 rfl rfl inX11 8 (by decide) mfX11_28 rfl dX11_remembers_59 ?_
    refine lv_bipush (v := 74) S.1 S.2.1 dX11_remembers_62 (by decide) ?_
    refine xaldc (f := u.1 7) (x := (u.1 7 74)) (k := 74) S hK hw 7 0 rfl rfl (by decide) rfl (xvi (a := 74) rfl (by decide) (by decide)) dX11_remembers_64 ?_
    refine lv_imul S.1 S.2.1 dX11_remembers_65 ?_
    refine lv_iadd S.1 S.2.1 dX11_remembers_66 ?_
    refine lv_istore_n (lv' := [(1, .int ((75 : Int32) + ((74 : Int32) * (u.1 7 74)))), (0, .ref (a 0))]) S.1 S.2.1 dX11_remembers_67 rfl hl (by decide) rfl (fun ls hl => ?_)
    refine lv_iconst (v := 0) S.1 S.2.1 dX11_remembers_68 (by decide) ?_
    refine lv_istore_n (lv' := [(2, .int (0 : Int32)), (1, .int ((75 : Int32) + ((74 : Int32) * (u.1 7 74)))), (0, .ref (a 0))]) S.1 S.2.1 dX11_remembers_69 rfl hl (by decide) rfl (fun ls hl => ?_)
    have lp_3 : ∀ (n_3 : Nat) (x2_3 : Int32) (u_3 : xU) (H : Heap) (locs : List Loc) (ls : Array Slot), (0 ≤ (x2_3).toInt) → (74 - (x2_3).toInt < (n_3 : Int) ∧ 1 ≤ n_3) → lv_has ls 3 [(0, .ref (a 0)), (1, .int ((75 : Int32) + ((74 : Int32) * (u.1 7 74)))), (2, .int x2_3)] → xw D (wM a Y) A s.heap H locs u_3 → V = m_remembers_L70 ((75 : Int32) + ((74 : Int32) * (u.1 7 74))) n_3 x2_3 u_3 → W p l e (xRm 0 0) s m args below meth c H locs 0 0 (MQ below (va_Qv (fun v => v = V) (xPost D (wM a Y) A) A) args s 0 0 A) (F0 m 70 ls []) := by
      intro n_3
      induction n_3 with
      | zero => intro x2_3 u_3 H locs ls i0_3 hn; exact absurd hn.2 (by decide)
      | succ n_3 ih_3 =>
        intro x2_3 u_3 H locs ls i0_3 hn_3 hl hw hV
        refine lv_iload_n S.1 S.2.1 dX11_remembers_70 rfl (lv_at hl 2 rfl) ?_
        refine lv_bipush (v := 74) S.1 S.2.1 dX11_remembers_71 (by decide) ?_
        refine lv_icmp_ge (tgt := 96) S.1 S.2.1 dX11_remembers_73 (by decide) (fun c_4 => ?_) (fun c_4 => ?_)
        · replace hV := hV.trans (if_pos c_4)
          have gc_4 : 74 ≤ (x2_3).toInt := xq_le c_4 rfl rfl
          refine lv_aload_n S.1 S.2.1 dX11_remembers_96 rfl (lv_at hl 0 rfl) ?_
          refine xget (v := .ref (a 7)) S hK hw 0 rfl rfl inX11 8 (by decide) mfX11_28 rfl dX11_remembers_97 ?_
          refine lv_bipush (v := 74) S.1 S.2.1 dX11_remembers_100 (by decide) ?_
          refine lv_dup2_11 S.1 S.2.1 dX11_remembers_102 rfl rfl ?_
          refine xaldc (f := u_3.1 7) (x := (u_3.1 7 74)) (k := 74) S hK hw 7 0 rfl rfl (by decide) rfl (xvi (a := 74) rfl (by decide) (by decide)) dX11_remembers_103 ?_
          refine lv_iconst (v := 1) S.1 S.2.1 dX11_remembers_104 (by decide) ?_
          refine lv_iadd S.1 S.2.1 dX11_remembers_105 ?_
          refine xastc (k := 74) S hK hw 7 0 rfl rfl (by decide) (xvi (a := 74) rfl (by decide) (by decide)) (sM_7 _ _ _ _) dX11_remembers_106 (fun H locs hw => ?_)
          exact xrv S hr hlk hw hV dX11_remembers_107
        · replace hV := hV.trans (if_neg c_4)
          have gc_4 : (x2_3).toInt < 74 := xq_nle c_4 rfl rfl
          refine lv_aload_n S.1 S.2.1 dX11_remembers_76 rfl (lv_at hl 0 rfl) ?_
          refine xget (v := .ref (a 7)) S hK hw 0 rfl rfl inX11 8 (by decide) mfX11_28 rfl dX11_remembers_77 ?_
          refine lv_iload_n S.1 S.2.1 dX11_remembers_80 rfl (lv_at hl 1 rfl) ?_
          refine lv_iload_n S.1 S.2.1 dX11_remembers_81 rfl (lv_at hl 2 rfl) ?_
          refine lv_iadd S.1 S.2.1 dX11_remembers_82 ?_
          refine lv_aload_n S.1 S.2.1 dX11_remembers_83 rfl (lv_at hl 0 rfl) ?_
          refine xget (v := .ref (a 7)) S hK hw 0 rfl rfl inX11 8 (by decide) mfX11_28 rfl dX11_remembers_84 ?_
          refine lv_iload_n S.1 S.2.1 dX11_remembers_87 rfl (lv_at hl 2 rfl) ?_
          refine xald (f := u_3.1 7) S hK hw 7 0 rfl rfl (xvi rfl (by omega) (by omega)) dX11_remembers_88 ?_
          have e_6 : ∀ _ : Unit, (((74 : Int32) * (u.1 7 74))).toInt = 74 * ((u.1 7 74)).toInt := fun _ => xmul rfl rfl (by omega) (by omega)
          have e_7 : ∀ _ : Unit, (((75 : Int32) + ((74 : Int32) * (u.1 7 74)))).toInt = 75 + (74 * ((u.1 7 74)).toInt) := fun _ => xadd rfl (e_6 ()) (by omega) (by omega)
          have e_8 : ∀ _ : Unit, ((((75 : Int32) + ((74 : Int32) * (u.1 7 74))) + x2_3)).toInt = (75 + (74 * ((u.1 7 74)).toInt)) + (x2_3).toInt := fun _ => xadd (e_7 ()) rfl (by omega) (by omega)
          refine xast S hK hw 7 0 rfl rfl (xvi (e_8 ()) (by omega) (by omega)) (sM_7 _ _ _ _) dX11_remembers_89 (fun H locs hw => ?_)
          refine lv_iinc (v := (x2_3 + (1 : Int32))) (lv' := [(2, .int (x2_3 + (1 : Int32))), (0, .ref (a 0)), (1, .int ((75 : Int32) + ((74 : Int32) * (u.1 7 74))))]) S.1 S.2.1 dX11_remembers_90 hl (k := 2) rfl rfl (by decide) rfl (fun ls hl => ?_)
          refine lv_goto (tgt := 70) S.1 S.2.1 dX11_remembers_93 (by decide) ?_
          have e_10 : ∀ _ : Unit, ((x2_3 + (1 : Int32))).toInt = (x2_3).toInt + 1 := fun _ => xadd rfl rfl (by omega) (by omega)
          exact ih_3 (x2_3 + (1 : Int32)) (sp u_3 7 (upd (u_3.1 7) ((((75 : Int32) + ((74 : Int32) * (u.1 7 74))) + x2_3)).toNatClampNeg (u_3.1 7 (x2_3).toNatClampNeg))) _ _ _ (show 0 ≤ ((x2_3 + (1 : Int32))).toInt from by rw [(e_10 ())]; omega) (show 74 - ((x2_3 + (1 : Int32))).toInt < (n_3 : Int) ∧ 1 ≤ n_3 from by rw [(e_10 ())]; omega) (lv_sub hl [1, 2, 0] rfl) hw hV
    exact lp_3 75 (0 : Int32) u _ _ _ (show 0 ≤ 0 from by omega) (show 74 - 0 < ((75 : Nat) : Int) ∧ 1 ≤ (75 : Nat) from by omega) (lv_sub hl [2, 1, 0] rfl) hw hV
  · replace hV := hV.trans (if_pos c_1)
    have gc_1 : ((u.1 7 74)).toInt = 10 := xq_eq c_1 rfl rfl
    refine lv_bipush (v := 75) S.1 S.2.1 dX11_remembers_12 (by decide) ?_
    refine lv_istore_n (lv' := [(1, .int (75 : Int32)), (0, .ref (a 0))]) S.1 S.2.1 dX11_remembers_14 rfl hl (by decide) rfl (fun ls hl => ?_)
    have lp_11 : ∀ (n_11 : Nat) (x1_11 : Int32) (u_11 : xU) (H : Heap) (locs : List Loc) (ls : Array Slot), (75 ≤ (x1_11).toInt) → (((u_11.1 7 74)).toInt = 10) → (741 - (x1_11).toInt < (n_11 : Int) ∧ 1 ≤ n_11) → lv_has ls 3 [(0, .ref (a 0)), (1, .int x1_11)] → xw D (wM a Y) A s.heap H locs u_11 → V = m_remembers_L15 n_11 x1_11 u_11 → W p l e (xRm 0 0) s m args below meth c H locs 0 0 (MQ below (va_Qv (fun v => v = V) (xPost D (wM a Y) A) A) args s 0 0 A) (F0 m 15 ls []) := by
      intro n_11
      induction n_11 with
      | zero => intro x1_11 u_11 H locs ls i0_11 i1_11 hn; exact absurd hn.2 (by decide)
      | succ n_11 ih_11 =>
        intro x1_11 u_11 H locs ls i0_11 i1_11 hn_11 hl hw hV
        refine lv_iload_n S.1 S.2.1 dX11_remembers_15 rfl (lv_at hl 1 rfl) ?_
        refine lv_sipush (v := 741) S.1 S.2.1 dX11_remembers_16 (by decide) ?_
        refine lv_icmp_ge (tgt := 43) S.1 S.2.1 dX11_remembers_19 (by decide) (fun c_12 => ?_) (fun c_12 => ?_)
        · replace hV := hV.trans (if_pos c_12)
          have gc_12 : 741 ≤ (x1_11).toInt := xq_le c_12 rfl rfl
          refine lv_aload_n S.1 S.2.1 dX11_remembers_43 rfl (lv_at hl 0 rfl) ?_
          refine xget (v := .ref (a 7)) S hK hw 0 rfl rfl inX11 8 (by decide) mfX11_28 rfl dX11_remembers_44 ?_
          refine lv_bipush (v := 74) S.1 S.2.1 dX11_remembers_47 (by decide) ?_
          refine lv_dup2_11 S.1 S.2.1 dX11_remembers_49 rfl rfl ?_
          refine xaldc (f := u_11.1 7) (x := (u_11.1 7 74)) (k := 74) S hK hw 7 0 rfl rfl (by decide) rfl (xvi (a := 74) rfl (by decide) (by decide)) dX11_remembers_50 ?_
          refine lv_iconst (v := 1) S.1 S.2.1 dX11_remembers_51 (by decide) ?_
          refine lv_isub S.1 S.2.1 dX11_remembers_52 ?_
          refine xastc (k := 74) S hK hw 7 0 rfl rfl (by decide) (xvi (a := 74) rfl (by decide) (by decide)) (sM_7 _ _ _ _) dX11_remembers_53 (fun H locs hw => ?_)
          refine lv_bipush (v := 75) S.1 S.2.1 dX11_remembers_54 (by decide) ?_
          refine lv_bipush (v := 74) S.1 S.2.1 dX11_remembers_56 (by decide) ?_
          refine lv_aload_n S.1 S.2.1 dX11_remembers_58 rfl (lv_at hl 0 rfl) ?_
          refine xget (v := .ref (a 7)) S hK hw 0 rfl rfl inX11 8 (by decide) mfX11_28 rfl dX11_remembers_59 ?_
          refine lv_bipush (v := 74) S.1 S.2.1 dX11_remembers_62 (by decide) ?_
          refine xaldc (f := (upd (u_11.1 7) 74 ((u_11.1 7 74) - (1 : Int32)))) (x := ((u_11.1 7 74) - (1 : Int32))) (k := 74) S hK hw 7 0 rfl rfl (by decide) rfl (xvi (a := 74) rfl (by decide) (by decide)) dX11_remembers_64 ?_
          refine lv_imul S.1 S.2.1 dX11_remembers_65 ?_
          refine lv_iadd S.1 S.2.1 dX11_remembers_66 ?_
          refine lv_istore_n (lv' := [(1, .int ((75 : Int32) + ((74 : Int32) * ((u_11.1 7 74) - (1 : Int32))))), (0, .ref (a 0))]) S.1 S.2.1 dX11_remembers_67 rfl hl (by decide) rfl (fun ls hl => ?_)
          refine lv_iconst (v := 0) S.1 S.2.1 dX11_remembers_68 (by decide) ?_
          refine lv_istore_n (lv' := [(2, .int (0 : Int32)), (1, .int ((75 : Int32) + ((74 : Int32) * ((u_11.1 7 74) - (1 : Int32))))), (0, .ref (a 0))]) S.1 S.2.1 dX11_remembers_69 rfl hl (by decide) rfl (fun ls hl => ?_)
          have lp_15 : ∀ (n_15 : Nat) (x2_15 : Int32) (u_15 : xU) (H : Heap) (locs : List Loc) (ls : Array Slot), (0 ≤ (x2_15).toInt) → (74 - (x2_15).toInt < (n_15 : Int) ∧ 1 ≤ n_15) → lv_has ls 3 [(0, .ref (a 0)), (1, .int ((75 : Int32) + ((74 : Int32) * ((u_11.1 7 74) - (1 : Int32))))), (2, .int x2_15)] → xw D (wM a Y) A s.heap H locs u_15 → V = m_remembers_L70 ((75 : Int32) + ((74 : Int32) * ((u_11.1 7 74) - (1 : Int32)))) n_15 x2_15 u_15 → W p l e (xRm 0 0) s m args below meth c H locs 0 0 (MQ below (va_Qv (fun v => v = V) (xPost D (wM a Y) A) A) args s 0 0 A) (F0 m 70 ls []) := by
            intro n_15
            induction n_15 with
            | zero => intro x2_15 u_15 H locs ls i0_15 hn; exact absurd hn.2 (by decide)
            | succ n_15 ih_15 =>
              intro x2_15 u_15 H locs ls i0_15 hn_15 hl hw hV
              refine lv_iload_n S.1 S.2.1 dX11_remembers_70 rfl (lv_at hl 2 rfl) ?_
              refine lv_bipush (v := 74) S.1 S.2.1 dX11_remembers_71 (by decide) ?_
              refine lv_icmp_ge (tgt := 96) S.1 S.2.1 dX11_remembers_73 (by decide) (fun c_16 => ?_) (fun c_16 => ?_)
              · replace hV := hV.trans (if_pos c_16)
                have gc_16 : 74 ≤ (x2_15).toInt := xq_le c_16 rfl rfl
                refine lv_aload_n S.1 S.2.1 dX11_remembers_96 rfl (lv_at hl 0 rfl) ?_
                refine xget (v := .ref (a 7)) S hK hw 0 rfl rfl inX11 8 (by decide) mfX11_28 rfl dX11_remembers_97 ?_
                refine lv_bipush (v := 74) S.1 S.2.1 dX11_remembers_100 (by decide) ?_
                refine lv_dup2_11 S.1 S.2.1 dX11_remembers_102 rfl rfl ?_
                refine xaldc (f := u_15.1 7) (x := (u_15.1 7 74)) (k := 74) S hK hw 7 0 rfl rfl (by decide) rfl (xvi (a := 74) rfl (by decide) (by decide)) dX11_remembers_103 ?_
                refine lv_iconst (v := 1) S.1 S.2.1 dX11_remembers_104 (by decide) ?_
                refine lv_iadd S.1 S.2.1 dX11_remembers_105 ?_
                refine xastc (k := 74) S hK hw 7 0 rfl rfl (by decide) (xvi (a := 74) rfl (by decide) (by decide)) (sM_7 _ _ _ _) dX11_remembers_106 (fun H locs hw => ?_)
                exact xrv S hr hlk hw hV dX11_remembers_107
              · replace hV := hV.trans (if_neg c_16)
                have gc_16 : (x2_15).toInt < 74 := xq_nle c_16 rfl rfl
                refine lv_aload_n S.1 S.2.1 dX11_remembers_76 rfl (lv_at hl 0 rfl) ?_
                refine xget (v := .ref (a 7)) S hK hw 0 rfl rfl inX11 8 (by decide) mfX11_28 rfl dX11_remembers_77 ?_
                refine lv_iload_n S.1 S.2.1 dX11_remembers_80 rfl (lv_at hl 1 rfl) ?_
                refine lv_iload_n S.1 S.2.1 dX11_remembers_81 rfl (lv_at hl 2 rfl) ?_
                refine lv_iadd S.1 S.2.1 dX11_remembers_82 ?_
                refine lv_aload_n S.1 S.2.1 dX11_remembers_83 rfl (lv_at hl 0 rfl) ?_
                refine xget (v := .ref (a 7)) S hK hw 0 rfl rfl inX11 8 (by decide) mfX11_28 rfl dX11_remembers_84 ?_
                refine lv_iload_n S.1 S.2.1 dX11_remembers_87 rfl (lv_at hl 2 rfl) ?_
                refine xald (f := u_15.1 7) S hK hw 7 0 rfl rfl (xvi rfl (by omega) (by omega)) dX11_remembers_88 ?_
                have e_18 : ∀ _ : Unit, (((u_11.1 7 74) - (1 : Int32))).toInt = ((u_11.1 7 74)).toInt - 1 := fun _ => xsub rfl rfl (by omega) (by omega)
                have e_19 : ∀ _ : Unit, (((74 : Int32) * ((u_11.1 7 74) - (1 : Int32)))).toInt = 74 * (((u_11.1 7 74)).toInt - 1) := fun _ => xmul rfl (e_18 ()) (by omega) (by omega)
                have e_20 : ∀ _ : Unit, (((75 : Int32) + ((74 : Int32) * ((u_11.1 7 74) - (1 : Int32))))).toInt = 75 + (74 * (((u_11.1 7 74)).toInt - 1)) := fun _ => xadd rfl (e_19 ()) (by omega) (by omega)
                have e_21 : ∀ _ : Unit, ((((75 : Int32) + ((74 : Int32) * ((u_11.1 7 74) - (1 : Int32)))) + x2_15)).toInt = (75 + (74 * (((u_11.1 7 74)).toInt - 1))) + (x2_15).toInt := fun _ => xadd (e_20 ()) rfl (by omega) (by omega)
                refine xast S hK hw 7 0 rfl rfl (xvi (e_21 ()) (by omega) (by omega)) (sM_7 _ _ _ _) dX11_remembers_89 (fun H locs hw => ?_)
                refine lv_iinc (v := (x2_15 + (1 : Int32))) (lv' := [(2, .int (x2_15 + (1 : Int32))), (0, .ref (a 0)), (1, .int ((75 : Int32) + ((74 : Int32) * ((u_11.1 7 74) - (1 : Int32)))))]) S.1 S.2.1 dX11_remembers_90 hl (k := 2) rfl rfl (by decide) rfl (fun ls hl => ?_)
                refine lv_goto (tgt := 70) S.1 S.2.1 dX11_remembers_93 (by decide) ?_
                have e_23 : ∀ _ : Unit, ((x2_15 + (1 : Int32))).toInt = (x2_15).toInt + 1 := fun _ => xadd rfl rfl (by omega) (by omega)
                clear hn_11
                exact ih_15 (x2_15 + (1 : Int32)) (sp u_15 7 (upd (u_15.1 7) ((((75 : Int32) + ((74 : Int32) * ((u_11.1 7 74) - (1 : Int32)))) + x2_15)).toNatClampNeg (u_15.1 7 (x2_15).toNatClampNeg))) _ _ _ (show 0 ≤ ((x2_15 + (1 : Int32))).toInt from by rw [(e_23 ())]; omega) (show 74 - ((x2_15 + (1 : Int32))).toInt < (n_15 : Int) ∧ 1 ≤ n_15 from by rw [(e_23 ())]; omega) (lv_sub hl [1, 2, 0] rfl) hw hV
          exact lp_15 75 (0 : Int32) (sp u_11 7 (upd (u_11.1 7) 74 ((u_11.1 7 74) - (1 : Int32)))) _ _ _ (show 0 ≤ 0 from by omega) (show 74 - 0 < ((75 : Nat) : Int) ∧ 1 ≤ (75 : Nat) from by omega) (lv_sub hl [2, 1, 0] rfl) hw hV
        · replace hV := hV.trans (if_neg c_12)
          have gc_12 : (x1_11).toInt < 741 := xq_nle c_12 rfl rfl
          refine lv_aload_n S.1 S.2.1 dX11_remembers_22 rfl (lv_at hl 0 rfl) ?_
          refine xget (v := .ref (a 7)) S hK hw 0 rfl rfl inX11 8 (by decide) mfX11_28 rfl dX11_remembers_23 ?_
          refine lv_iload_n S.1 S.2.1 dX11_remembers_26 rfl (lv_at hl 1 rfl) ?_
          refine lv_aload_n S.1 S.2.1 dX11_remembers_27 rfl (lv_at hl 0 rfl) ?_
          refine xget (v := .ref (a 7)) S hK hw 0 rfl rfl inX11 8 (by decide) mfX11_28 rfl dX11_remembers_28 ?_
          refine lv_iload_n S.1 S.2.1 dX11_remembers_31 rfl (lv_at hl 1 rfl) ?_
          refine lv_bipush (v := 74) S.1 S.2.1 dX11_remembers_32 (by decide) ?_
          refine lv_iadd S.1 S.2.1 dX11_remembers_34 ?_
          have e_24 : ∀ _ : Unit, ((x1_11 + (74 : Int32))).toInt = (x1_11).toInt + 74 := fun _ => xadd rfl rfl (by omega) (by omega)
          refine xald (f := u_11.1 7) S hK hw 7 0 rfl rfl (xvi (e_24 ()) (by omega) (by omega)) dX11_remembers_35 ?_
          refine xast S hK hw 7 0 rfl rfl (xvi rfl (by omega) (by omega)) (sM_7 _ _ _ _) dX11_remembers_36 (fun H locs hw => ?_)
          refine lv_iinc (v := (x1_11 + (1 : Int32))) (lv' := [(1, .int (x1_11 + (1 : Int32))), (0, .ref (a 0))]) S.1 S.2.1 dX11_remembers_37 hl (k := 1) rfl rfl (by decide) rfl (fun ls hl => ?_)
          refine lv_goto (tgt := 15) S.1 S.2.1 dX11_remembers_40 (by decide) ?_
          have e_26 : ∀ _ : Unit, ((x1_11 + (1 : Int32))).toInt = (x1_11).toInt + 1 := fun _ => xadd rfl rfl (by omega) (by omega)
          exact ih_11 (x1_11 + (1 : Int32)) (sp u_11 7 (upd (u_11.1 7) (x1_11).toNatClampNeg (u_11.1 7 ((x1_11 + (74 : Int32))).toNatClampNeg))) _ _ _ (show 75 ≤ ((x1_11 + (1 : Int32))).toInt from by rw [(e_26 ())]; omega) (show (((upd (u_11.1 7) (x1_11).toNatClampNeg (u_11.1 7 ((x1_11 + (74 : Int32))).toNatClampNeg)) 74)).toInt = 10 from by first | omega | (rw [upd74 (by omega)]; omega)) (show 741 - ((x1_11 + (1 : Int32))).toInt < (n_11 : Int) ∧ 1 ≤ n_11 from by rw [(e_26 ())]; omega) (lv_sub hl [1, 0] rfl) hw hV
    exact lp_11 742 (75 : Int32) u _ _ _ (show 75 ≤ 75 from by omega) (show ((u.1 7 74)).toInt = 10 from by first | omega | (rw [upd74 (by omega)]; omega)) (show 741 - 75 < ((742 : Nat) : Int) ∧ 1 ≤ (742 : Nat) from by omega) (lv_sub hl [1, 0] rfl) hw hV
noncomputable def m_learns_b (u : xU) (p1 : Int32) (p2 : Int32) : xU :=
    let t_1 := (((1 : Int32) + ((8 : Int32) * p1)) + p2)
    let w_5 := sp u 7 (upd (u.1 7) (t_1).toNatClampNeg ((u.1 7 (t_1).toNatClampNeg) + (u.1 6 (p1).toNatClampNeg)))
    let w_7 := sp w_5 7 (upd (w_5.1 7) (((61 : Int32) + p1)).toNatClampNeg ((w_5.1 7 (((61 : Int32) + p1)).toNatClampNeg) + (u.1 1 (p2).toNatClampNeg)))
    (if (w_7.1 7 (((61 : Int32) + p1)).toNatClampNeg) ≤ (u.1 5 (p1).toNatClampNeg) then
    (if (w_7.1 7 (t_1).toNatClampNeg) < (u.1 2 (p2).toNatClampNeg) then
    let w_12 := sp w_7 7 (upd (w_7.1 7) 67 ((w_7.1 7 67) ||| (0 : Int32)))
    let w_15 := sp w_12 7 (upd (w_12.1 7) (((49 : Int32) + p1)).toNatClampNeg ((w_12.1 7 (((49 : Int32) + p1)).toNatClampNeg) ||| (0 : Int32)))
    let w_19 := sp w_15 7 (upd (w_15.1 7) (((68 : Int32) + p1)).toNatClampNeg p2)
    w_19
    else
    let w_21 := sp w_7 7 (upd (w_7.1 7) 67 ((w_7.1 7 67) ||| (0 : Int32)))
    let w_24 := sp w_21 7 (upd (w_21.1 7) (((49 : Int32) + p1)).toNatClampNeg ((w_21.1 7 (((49 : Int32) + p1)).toNatClampNeg) ||| ((1 : Int32) <<< (p2 &&& 31))))
    let w_28 := sp w_24 7 (upd (w_24.1 7) (((68 : Int32) + p1)).toNatClampNeg (-9 : Int32))
    w_28)
    else
    let w_31 := sp w_7 7 (upd (w_7.1 7) 67 ((w_7.1 7 67) ||| ((1 : Int32) <<< (p1 &&& 31))))
    let w_34 := sp w_31 7 (upd (w_31.1 7) (((49 : Int32) + p1)).toNatClampNeg ((w_31.1 7 (((49 : Int32) + p1)).toNatClampNeg) ||| (0 : Int32)))
    let w_37 := sp w_34 7 (upd (w_34.1 7) (((68 : Int32) + p1)).toNatClampNeg (-9 : Int32))
    w_37)
theorem m_learns_x : ∃ f : xU → Int32 → Int32 → xU, f = m_learns_b := ⟨_, rfl⟩
noncomputable def m_learns : xU → Int32 → Int32 → xU := m_learns_x.choose
theorem m_learns_def : m_learns = m_learns_b := m_learns_x.choose_spec
set_option maxHeartbeats 4000000 in
set_option maxRecDepth 100000 in
theorem c_m_learns (l : Launch) (D : va_G) (a : Nat → Nat) (Y : Nat → ClassId) (ts : Nat → Nat) (u : xU) (p1 : Int32) (p2 : Int32) (hp0 : 0 ≤ (p1).toInt ∧ (p1).toInt < 6) (hp1 : 0 ≤ (p2).toInt ∧ (p2).toInt < 8) : xMv l yX11_learns cX11_learns 6 none (xRm 0 0) D (xty Y) (wM a Y) ts [.ref (a 0), .int p1, .int p2] u (m_learns u p1 p2) := by
  suffices h : ∀ V, V = m_learns_b u p1 p2 → xMv l yX11_learns cX11_learns 6 none (xRm 0 0) D (xty Y) (wM a Y) ts [.ref (a 0), .int p1, .int p2] u V from h _ (by rw [m_learns_def])
  intro V hV
  refine xofv RX11 rfl (by decide) (Nat.le_of_ble_eq_true rfl) ?_
  intro p e s m args below meth c ls H locs A S hr hlk hl hK hE hA hw
  have hl : lv_has ls 6 [(0, .ref (a 0)), (1, .int p1), (2, .int p2)] := hl
  refine lv_iconst (v := 1) S.1 S.2.1 dX11_learns_0 (by decide) ?_
  refine lv_bipush (v := 8) S.1 S.2.1 dX11_learns_1 (by decide) ?_
  refine lv_iload_n S.1 S.2.1 dX11_learns_3 rfl (lv_at hl 1 rfl) ?_
  refine lv_imul S.1 S.2.1 dX11_learns_4 ?_
  refine lv_iadd S.1 S.2.1 dX11_learns_5 ?_
  refine lv_iload_n S.1 S.2.1 dX11_learns_6 rfl (lv_at hl 2 rfl) ?_
  refine lv_iadd S.1 S.2.1 dX11_learns_7 ?_
  refine lv_istore_n (lv' := [(3, .int (((1 : Int32) + ((8 : Int32) * p1)) + p2)), (0, .ref (a 0)), (1, .int p1), (2, .int p2)]) S.1 S.2.1 dX11_learns_8 rfl hl (by decide) rfl (fun ls hl => ?_)
  refine lv_aload_n S.1 S.2.1 dX11_learns_9 rfl (lv_at hl 1 rfl) ?_
  refine xget (v := .ref (a 7)) S hK hw 0 rfl rfl inX11 8 (by decide) mfX11_28 rfl dX11_learns_10 ?_
  refine lv_iload_n S.1 S.2.1 dX11_learns_13 rfl (lv_at hl 0 rfl) ?_
  refine lv_dup2_11 S.1 S.2.1 dX11_learns_14 rfl rfl ?_
  have e_2 : ∀ _ : Unit, (((8 : Int32) * p1)).toInt = 8 * (p1).toInt := fun _ => xmul rfl rfl (by omega) (by omega)
  have e_3 : ∀ _ : Unit, (((1 : Int32) + ((8 : Int32) * p1))).toInt = 1 + (8 * (p1).toInt) := fun _ => xadd rfl (e_2 ()) (by omega) (by omega)
  have e_4 : ∀ _ : Unit, ((((1 : Int32) + ((8 : Int32) * p1)) + p2)).toInt = (1 + (8 * (p1).toInt)) + (p2).toInt := fun _ => xadd (e_3 ()) rfl (by omega) (by omega)
  refine xald (f := u.1 7) S hK hw 7 0 rfl rfl (xvi (e_4 ()) (by omega) (by omega)) dX11_learns_15 ?_
  refine lv_aload_n S.1 S.2.1 dX11_learns_16 rfl (lv_at hl 1 rfl) ?_
  refine xget (v := .ref (a 6)) S hK hw 0 rfl rfl inX11 7 (by decide) mfX11_25 rfl dX11_learns_17 ?_
  refine lv_iload_n S.1 S.2.1 dX11_learns_20 rfl (lv_at hl 2 rfl) ?_
  refine xald (f := u.1 6) S hK hw 6 0 rfl rfl (xvi rfl (by omega) (by omega)) dX11_learns_21 ?_
  refine lv_iadd S.1 S.2.1 dX11_learns_22 ?_
  refine xast S hK hw 7 0 rfl rfl (xvi (e_4 ()) (by omega) (by omega)) (sM_7 _ _ _ _) dX11_learns_23 (fun H locs hw => ?_)
  refine lv_aload_n S.1 S.2.1 dX11_learns_24 rfl (lv_at hl 1 rfl) ?_
  refine xget (v := .ref (a 7)) S hK hw 0 rfl rfl inX11 8 (by decide) mfX11_28 rfl dX11_learns_25 ?_
  refine lv_bipush (v := 61) S.1 S.2.1 dX11_learns_28 (by decide) ?_
  refine lv_iload_n S.1 S.2.1 dX11_learns_30 rfl (lv_at hl 2 rfl) ?_
  refine lv_iadd S.1 S.2.1 dX11_learns_31 ?_
  refine lv_dup2_11 S.1 S.2.1 dX11_learns_32 rfl rfl ?_
  have e_6 : ∀ _ : Unit, (((61 : Int32) + p1)).toInt = 61 + (p1).toInt := fun _ => xadd rfl rfl (by omega) (by omega)
  refine xald (f := (upd (u.1 7) ((((1 : Int32) + ((8 : Int32) * p1)) + p2)).toNatClampNeg ((u.1 7 ((((1 : Int32) + ((8 : Int32) * p1)) + p2)).toNatClampNeg) + (u.1 6 (p1).toNatClampNeg)))) S hK hw 7 0 rfl rfl (xvi (e_6 ()) (by omega) (by omega)) dX11_learns_33 ?_
  refine lv_aload_n S.1 S.2.1 dX11_learns_34 rfl (lv_at hl 1 rfl) ?_
  refine xget (v := .ref (a 1)) S hK hw 0 rfl rfl inX11 1 (by decide) mfX11_7 rfl dX11_learns_35 ?_
  refine lv_iload_n S.1 S.2.1 dX11_learns_38 rfl (lv_at hl 3 rfl) ?_
  refine xald (f := u.1 1) S hK hw 1 0 rfl rfl (xvi rfl (by omega) (by omega)) dX11_learns_39 ?_
  refine lv_iadd S.1 S.2.1 dX11_learns_40 ?_
  refine xast S hK hw 7 0 rfl rfl (xvi (e_6 ()) (by omega) (by omega)) (sM_7 _ _ _ _) dX11_learns_41 (fun H locs hw => ?_)
  refine lv_aload_n S.1 S.2.1 dX11_learns_42 rfl (lv_at hl 1 rfl) ?_
  refine xget (v := .ref (a 7)) S hK hw 0 rfl rfl inX11 8 (by decide) mfX11_28 rfl dX11_learns_43 ?_
  refine lv_bipush (v := 61) S.1 S.2.1 dX11_learns_46 (by decide) ?_
  refine lv_iload_n S.1 S.2.1 dX11_learns_48 rfl (lv_at hl 2 rfl) ?_
  refine lv_iadd S.1 S.2.1 dX11_learns_49 ?_
  refine xald (f := (upd ((upd (u.1 7) ((((1 : Int32) + ((8 : Int32) * p1)) + p2)).toNatClampNeg ((u.1 7 ((((1 : Int32) + ((8 : Int32) * p1)) + p2)).toNatClampNeg) + (u.1 6 (p1).toNatClampNeg)))) (((61 : Int32) + p1)).toNatClampNeg (((upd (u.1 7) ((((1 : Int32) + ((8 : Int32) * p1)) + p2)).toNatClampNeg ((u.1 7 ((((1 : Int32) + ((8 : Int32) * p1)) + p2)).toNatClampNeg) + (u.1 6 (p1).toNatClampNeg))) (((61 : Int32) + p1)).toNatClampNeg) + (u.1 1 (p2).toNatClampNeg)))) S hK hw 7 0 rfl rfl (xvi (e_6 ()) (by omega) (by omega)) dX11_learns_50 ?_
  refine lv_aload_n S.1 S.2.1 dX11_learns_51 rfl (lv_at hl 1 rfl) ?_
  refine xget (v := .ref (a 5)) S hK hw 0 rfl rfl inX11 6 (by decide) mfX11_22 rfl dX11_learns_52 ?_
  refine lv_iload_n S.1 S.2.1 dX11_learns_55 rfl (lv_at hl 2 rfl) ?_
  refine xald (f := u.1 5) S hK hw 5 0 rfl rfl (xvi rfl (by omega) (by omega)) dX11_learns_56 ?_
  refine lv_icmp_le (tgt := 64) S.1 S.2.1 dX11_learns_57 (by decide) (fun c_8 => ?_) (fun c_8 => ?_)
  · replace hV := hV.trans (if_pos c_8)
    have gc_8 : (((upd ((upd (u.1 7) ((((1 : Int32) + ((8 : Int32) * p1)) + p2)).toNatClampNeg ((u.1 7 ((((1 : Int32) + ((8 : Int32) * p1)) + p2)).toNatClampNeg) + (u.1 6 (p1).toNatClampNeg)))) (((61 : Int32) + p1)).toNatClampNeg (((upd (u.1 7) ((((1 : Int32) + ((8 : Int32) * p1)) + p2)).toNatClampNeg ((u.1 7 ((((1 : Int32) + ((8 : Int32) * p1)) + p2)).toNatClampNeg) + (u.1 6 (p1).toNatClampNeg))) (((61 : Int32) + p1)).toNatClampNeg) + (u.1 1 (p2).toNatClampNeg))) (((61 : Int32) + p1)).toNatClampNeg)).toInt ≤ ((u.1 5 (p1).toNatClampNeg)).toInt := xq_le c_8 rfl rfl
    refine lv_iconst (v := 0) S.1 S.2.1 dX11_learns_64 (by decide) ?_
    refine lv_istore (lv' := [(4, .int (0 : Int32)), (3, .int (((1 : Int32) + ((8 : Int32) * p1)) + p2)), (0, .ref (a 0)), (1, .int p1), (2, .int p2)]) S.1 S.2.1 dX11_learns_65 hl (by decide) rfl (fun ls hl => ?_)
    refine lv_iload S.1 S.2.1 dX11_learns_67 (lv_at hl 0 rfl) ?_
    refine lv_if_ne (tgt := 91) S.1 S.2.1 dX11_learns_69 (by decide) (fun c_9 => ?_) (fun c_9 => ?_)
    · exact absurd c_9 (by decide)
    · refine lv_aload_n S.1 S.2.1 dX11_learns_72 rfl (lv_at hl 2 rfl) ?_
      refine xget (v := .ref (a 7)) S hK hw 0 rfl rfl inX11 8 (by decide) mfX11_28 rfl dX11_learns_73 ?_
      refine lv_iload_n S.1 S.2.1 dX11_learns_76 rfl (lv_at hl 1 rfl) ?_
      refine xald (f := (upd ((upd (u.1 7) ((((1 : Int32) + ((8 : Int32) * p1)) + p2)).toNatClampNeg ((u.1 7 ((((1 : Int32) + ((8 : Int32) * p1)) + p2)).toNatClampNeg) + (u.1 6 (p1).toNatClampNeg)))) (((61 : Int32) + p1)).toNatClampNeg (((upd (u.1 7) ((((1 : Int32) + ((8 : Int32) * p1)) + p2)).toNatClampNeg ((u.1 7 ((((1 : Int32) + ((8 : Int32) * p1)) + p2)).toNatClampNeg) + (u.1 6 (p1).toNatClampNeg))) (((61 : Int32) + p1)).toNatClampNeg) + (u.1 1 (p2).toNatClampNeg)))) S hK hw 7 0 rfl rfl (xvi (e_4 ()) (by omega) (by omega)) dX11_learns_77 ?_
      refine lv_aload_n S.1 S.2.1 dX11_learns_78 rfl (lv_at hl 2 rfl) ?_
      refine xget (v := .ref (a 2)) S hK hw 0 rfl rfl inX11 2 (by decide) mfX11_13 rfl dX11_learns_79 ?_
      refine lv_iload_n S.1 S.2.1 dX11_learns_82 rfl (lv_at hl 4 rfl) ?_
      refine xald (f := u.1 2) S hK hw 2 0 rfl rfl (xvi rfl (by omega) (by omega)) dX11_learns_83 ?_
      refine lv_icmp_lt (tgt := 91) S.1 S.2.1 dX11_learns_84 (by decide) (fun c_10 => ?_) (fun c_10 => ?_)
      · replace hV := hV.trans (if_pos c_10)
        have gc_10 : (((upd ((upd (u.1 7) ((((1 : Int32) + ((8 : Int32) * p1)) + p2)).toNatClampNeg ((u.1 7 ((((1 : Int32) + ((8 : Int32) * p1)) + p2)).toNatClampNeg) + (u.1 6 (p1).toNatClampNeg)))) (((61 : Int32) + p1)).toNatClampNeg (((upd (u.1 7) ((((1 : Int32) + ((8 : Int32) * p1)) + p2)).toNatClampNeg ((u.1 7 ((((1 : Int32) + ((8 : Int32) * p1)) + p2)).toNatClampNeg) + (u.1 6 (p1).toNatClampNeg))) (((61 : Int32) + p1)).toNatClampNeg) + (u.1 1 (p2).toNatClampNeg))) ((((1 : Int32) + ((8 : Int32) * p1)) + p2)).toNatClampNeg)).toInt < ((u.1 2 (p2).toNatClampNeg)).toInt := xq_lt c_10 rfl rfl
        refine lv_iconst (v := 0) S.1 S.2.1 dX11_learns_91 (by decide) ?_
        refine lv_istore (lv' := [(5, .int (0 : Int32)), (4, .int (0 : Int32)), (3, .int (((1 : Int32) + ((8 : Int32) * p1)) + p2)), (0, .ref (a 0)), (1, .int p1), (2, .int p2)]) S.1 S.2.1 dX11_learns_92 hl (by decide) rfl (fun ls hl => ?_)
        refine lv_aload_n S.1 S.2.1 dX11_learns_94 rfl (lv_at hl 3 rfl) ?_
        refine xget (v := .ref (a 7)) S hK hw 0 rfl rfl inX11 8 (by decide) mfX11_28 rfl dX11_learns_95 ?_
        refine lv_bipush (v := 67) S.1 S.2.1 dX11_learns_98 (by decide) ?_
        refine lv_dup2_11 S.1 S.2.1 dX11_learns_100 rfl rfl ?_
        refine xaldc (f := (upd ((upd (u.1 7) ((((1 : Int32) + ((8 : Int32) * p1)) + p2)).toNatClampNeg ((u.1 7 ((((1 : Int32) + ((8 : Int32) * p1)) + p2)).toNatClampNeg) + (u.1 6 (p1).toNatClampNeg)))) (((61 : Int32) + p1)).toNatClampNeg (((upd (u.1 7) ((((1 : Int32) + ((8 : Int32) * p1)) + p2)).toNatClampNeg ((u.1 7 ((((1 : Int32) + ((8 : Int32) * p1)) + p2)).toNatClampNeg) + (u.1 6 (p1).toNatClampNeg))) (((61 : Int32) + p1)).toNatClampNeg) + (u.1 1 (p2).toNatClampNeg)))) (x := ((upd ((upd (u.1 7) ((((1 : Int32) + ((8 : Int32) * p1)) + p2)).toNatClampNeg ((u.1 7 ((((1 : Int32) + ((8 : Int32) * p1)) + p2)).toNatClampNeg) + (u.1 6 (p1).toNatClampNeg)))) (((61 : Int32) + p1)).toNatClampNeg (((upd (u.1 7) ((((1 : Int32) + ((8 : Int32) * p1)) + p2)).toNatClampNeg ((u.1 7 ((((1 : Int32) + ((8 : Int32) * p1)) + p2)).toNatClampNeg) + (u.1 6 (p1).toNatClampNeg))) (((61 : Int32) + p1)).toNatClampNeg) + (u.1 1 (p2).toNatClampNeg))) 67)) (k := 67) S hK hw 7 0 rfl rfl (by decide) rfl (xvi (a := 67) rfl (by decide) (by decide)) dX11_learns_101 ?_
        refine lv_iload S.1 S.2.1 dX11_learns_102 (lv_at hl 1 rfl) ?_
        refine lv_if_eq (tgt := 113) S.1 S.2.1 dX11_learns_104 (by decide) (fun c_11 => ?_) (fun c_11 => ?_)
        · refine lv_iconst (v := 0) S.1 S.2.1 dX11_learns_113 (by decide) ?_
          refine lv_ior S.1 S.2.1 dX11_learns_114 ?_
          refine xastc (k := 67) S hK hw 7 0 rfl rfl (by decide) (xvi (a := 67) rfl (by decide) (by decide)) (sM_7 _ _ _ _) dX11_learns_115 (fun H locs hw => ?_)
          refine lv_aload_n S.1 S.2.1 dX11_learns_116 rfl (lv_at hl 3 rfl) ?_
          refine xget (v := .ref (a 7)) S hK hw 0 rfl rfl inX11 8 (by decide) mfX11_28 rfl dX11_learns_117 ?_
          refine lv_bipush (v := 49) S.1 S.2.1 dX11_learns_120 (by decide) ?_
          refine lv_iload_n S.1 S.2.1 dX11_learns_122 rfl (lv_at hl 4 rfl) ?_
          refine lv_iadd S.1 S.2.1 dX11_learns_123 ?_
          refine lv_dup2_11 S.1 S.2.1 dX11_learns_124 rfl rfl ?_
          have e_13 : ∀ _ : Unit, (((49 : Int32) + p1)).toInt = 49 + (p1).toInt := fun _ => xadd rfl rfl (by omega) (by omega)
          refine xald (f := (upd ((upd ((upd (u.1 7) ((((1 : Int32) + ((8 : Int32) * p1)) + p2)).toNatClampNeg ((u.1 7 ((((1 : Int32) + ((8 : Int32) * p1)) + p2)).toNatClampNeg) + (u.1 6 (p1).toNatClampNeg)))) (((61 : Int32) + p1)).toNatClampNeg (((upd (u.1 7) ((((1 : Int32) + ((8 : Int32) * p1)) + p2)).toNatClampNeg ((u.1 7 ((((1 : Int32) + ((8 : Int32) * p1)) + p2)).toNatClampNeg) + (u.1 6 (p1).toNatClampNeg))) (((61 : Int32) + p1)).toNatClampNeg) + (u.1 1 (p2).toNatClampNeg)))) 67 (((upd ((upd (u.1 7) ((((1 : Int32) + ((8 : Int32) * p1)) + p2)).toNatClampNeg ((u.1 7 ((((1 : Int32) + ((8 : Int32) * p1)) + p2)).toNatClampNeg) + (u.1 6 (p1).toNatClampNeg)))) (((61 : Int32) + p1)).toNatClampNeg (((upd (u.1 7) ((((1 : Int32) + ((8 : Int32) * p1)) + p2)).toNatClampNeg ((u.1 7 ((((1 : Int32) + ((8 : Int32) * p1)) + p2)).toNatClampNeg) + (u.1 6 (p1).toNatClampNeg))) (((61 : Int32) + p1)).toNatClampNeg) + (u.1 1 (p2).toNatClampNeg))) 67) ||| (0 : Int32)))) S hK hw 7 0 rfl rfl (xvi (e_13 ()) (by omega) (by omega)) dX11_learns_125 ?_
          refine lv_iload S.1 S.2.1 dX11_learns_126 (lv_at hl 0 rfl) ?_
          refine lv_if_eq (tgt := 137) S.1 S.2.1 dX11_learns_128 (by decide) (fun c_14 => ?_) (fun c_14 => ?_)
          · refine lv_iconst (v := 0) S.1 S.2.1 dX11_learns_137 (by decide) ?_
            refine lv_ior S.1 S.2.1 dX11_learns_138 ?_
            refine xast S hK hw 7 0 rfl rfl (xvi (e_13 ()) (by omega) (by omega)) (sM_7 _ _ _ _) dX11_learns_139 (fun H locs hw => ?_)
            refine lv_aload_n S.1 S.2.1 dX11_learns_140 rfl (lv_at hl 3 rfl) ?_
            refine xget (v := .ref (a 7)) S hK hw 0 rfl rfl inX11 8 (by decide) mfX11_28 rfl dX11_learns_141 ?_
            refine lv_bipush (v := 68) S.1 S.2.1 dX11_learns_144 (by decide) ?_
            refine lv_iload_n S.1 S.2.1 dX11_learns_146 rfl (lv_at hl 4 rfl) ?_
            refine lv_iadd S.1 S.2.1 dX11_learns_147 ?_
            refine lv_iload S.1 S.2.1 dX11_learns_148 (lv_at hl 1 rfl) ?_
            refine lv_if_ne (tgt := 158) S.1 S.2.1 dX11_learns_150 (by decide) (fun c_16 => ?_) (fun c_16 => ?_)
            · exact absurd c_16 (by decide)
            · refine lv_iload S.1 S.2.1 dX11_learns_153 (lv_at hl 0 rfl) ?_
              refine lv_if_eq (tgt := 163) S.1 S.2.1 dX11_learns_155 (by decide) (fun c_17 => ?_) (fun c_17 => ?_)
              · refine lv_iload_n S.1 S.2.1 dX11_learns_163 rfl (lv_at hl 5 rfl) ?_
                have e_18 : ∀ _ : Unit, (((68 : Int32) + p1)).toInt = 68 + (p1).toInt := fun _ => xadd rfl rfl (by omega) (by omega)
                refine xast S hK hw 7 0 rfl rfl (xvi (e_18 ()) (by omega) (by omega)) (sM_7 _ _ _ _) dX11_learns_164 (fun H locs hw => ?_)
                exact xrv S hr hlk hw hV dX11_learns_165
              · exact absurd c_17 (by decide)
          · exact absurd c_14 (by decide)
        · exact absurd c_11 (by decide)
      · replace hV := hV.trans (if_neg c_10)
        have gc_10 : ((u.1 2 (p2).toNatClampNeg)).toInt ≤ (((upd ((upd (u.1 7) ((((1 : Int32) + ((8 : Int32) * p1)) + p2)).toNatClampNeg ((u.1 7 ((((1 : Int32) + ((8 : Int32) * p1)) + p2)).toNatClampNeg) + (u.1 6 (p1).toNatClampNeg)))) (((61 : Int32) + p1)).toNatClampNeg (((upd (u.1 7) ((((1 : Int32) + ((8 : Int32) * p1)) + p2)).toNatClampNeg ((u.1 7 ((((1 : Int32) + ((8 : Int32) * p1)) + p2)).toNatClampNeg) + (u.1 6 (p1).toNatClampNeg))) (((61 : Int32) + p1)).toNatClampNeg) + (u.1 1 (p2).toNatClampNeg))) ((((1 : Int32) + ((8 : Int32) * p1)) + p2)).toNatClampNeg)).toInt := xq_nlt c_10 rfl rfl
        refine lv_iconst (v := 1) S.1 S.2.1 dX11_learns_87 (by decide) ?_
        refine lv_goto (tgt := 92) S.1 S.2.1 dX11_learns_88 (by decide) ?_
        refine lv_istore (lv' := [(5, .int (1 : Int32)), (4, .int (0 : Int32)), (3, .int (((1 : Int32) + ((8 : Int32) * p1)) + p2)), (0, .ref (a 0)), (1, .int p1), (2, .int p2)]) S.1 S.2.1 dX11_learns_92 hl (by decide) rfl (fun ls hl => ?_)
        refine lv_aload_n S.1 S.2.1 dX11_learns_94 rfl (lv_at hl 3 rfl) ?_
        refine xget (v := .ref (a 7)) S hK hw 0 rfl rfl inX11 8 (by decide) mfX11_28 rfl dX11_learns_95 ?_
        refine lv_bipush (v := 67) S.1 S.2.1 dX11_learns_98 (by decide) ?_
        refine lv_dup2_11 S.1 S.2.1 dX11_learns_100 rfl rfl ?_
        refine xaldc (f := (upd ((upd (u.1 7) ((((1 : Int32) + ((8 : Int32) * p1)) + p2)).toNatClampNeg ((u.1 7 ((((1 : Int32) + ((8 : Int32) * p1)) + p2)).toNatClampNeg) + (u.1 6 (p1).toNatClampNeg)))) (((61 : Int32) + p1)).toNatClampNeg (((upd (u.1 7) ((((1 : Int32) + ((8 : Int32) * p1)) + p2)).toNatClampNeg ((u.1 7 ((((1 : Int32) + ((8 : Int32) * p1)) + p2)).toNatClampNeg) + (u.1 6 (p1).toNatClampNeg))) (((61 : Int32) + p1)).toNatClampNeg) + (u.1 1 (p2).toNatClampNeg)))) (x := ((upd ((upd (u.1 7) ((((1 : Int32) + ((8 : Int32) * p1)) + p2)).toNatClampNeg ((u.1 7 ((((1 : Int32) + ((8 : Int32) * p1)) + p2)).toNatClampNeg) + (u.1 6 (p1).toNatClampNeg)))) (((61 : Int32) + p1)).toNatClampNeg (((upd (u.1 7) ((((1 : Int32) + ((8 : Int32) * p1)) + p2)).toNatClampNeg ((u.1 7 ((((1 : Int32) + ((8 : Int32) * p1)) + p2)).toNatClampNeg) + (u.1 6 (p1).toNatClampNeg))) (((61 : Int32) + p1)).toNatClampNeg) + (u.1 1 (p2).toNatClampNeg))) 67)) (k := 67) S hK hw 7 0 rfl rfl (by decide) rfl (xvi (a := 67) rfl (by decide) (by decide)) dX11_learns_101 ?_
        refine lv_iload S.1 S.2.1 dX11_learns_102 (lv_at hl 1 rfl) ?_
        refine lv_if_eq (tgt := 113) S.1 S.2.1 dX11_learns_104 (by decide) (fun c_20 => ?_) (fun c_20 => ?_)
        · refine lv_iconst (v := 0) S.1 S.2.1 dX11_learns_113 (by decide) ?_
          refine lv_ior S.1 S.2.1 dX11_learns_114 ?_
          refine xastc (k := 67) S hK hw 7 0 rfl rfl (by decide) (xvi (a := 67) rfl (by decide) (by decide)) (sM_7 _ _ _ _) dX11_learns_115 (fun H locs hw => ?_)
          refine lv_aload_n S.1 S.2.1 dX11_learns_116 rfl (lv_at hl 3 rfl) ?_
          refine xget (v := .ref (a 7)) S hK hw 0 rfl rfl inX11 8 (by decide) mfX11_28 rfl dX11_learns_117 ?_
          refine lv_bipush (v := 49) S.1 S.2.1 dX11_learns_120 (by decide) ?_
          refine lv_iload_n S.1 S.2.1 dX11_learns_122 rfl (lv_at hl 4 rfl) ?_
          refine lv_iadd S.1 S.2.1 dX11_learns_123 ?_
          refine lv_dup2_11 S.1 S.2.1 dX11_learns_124 rfl rfl ?_
          have e_22 : ∀ _ : Unit, (((49 : Int32) + p1)).toInt = 49 + (p1).toInt := fun _ => xadd rfl rfl (by omega) (by omega)
          refine xald (f := (upd ((upd ((upd (u.1 7) ((((1 : Int32) + ((8 : Int32) * p1)) + p2)).toNatClampNeg ((u.1 7 ((((1 : Int32) + ((8 : Int32) * p1)) + p2)).toNatClampNeg) + (u.1 6 (p1).toNatClampNeg)))) (((61 : Int32) + p1)).toNatClampNeg (((upd (u.1 7) ((((1 : Int32) + ((8 : Int32) * p1)) + p2)).toNatClampNeg ((u.1 7 ((((1 : Int32) + ((8 : Int32) * p1)) + p2)).toNatClampNeg) + (u.1 6 (p1).toNatClampNeg))) (((61 : Int32) + p1)).toNatClampNeg) + (u.1 1 (p2).toNatClampNeg)))) 67 (((upd ((upd (u.1 7) ((((1 : Int32) + ((8 : Int32) * p1)) + p2)).toNatClampNeg ((u.1 7 ((((1 : Int32) + ((8 : Int32) * p1)) + p2)).toNatClampNeg) + (u.1 6 (p1).toNatClampNeg)))) (((61 : Int32) + p1)).toNatClampNeg (((upd (u.1 7) ((((1 : Int32) + ((8 : Int32) * p1)) + p2)).toNatClampNeg ((u.1 7 ((((1 : Int32) + ((8 : Int32) * p1)) + p2)).toNatClampNeg) + (u.1 6 (p1).toNatClampNeg))) (((61 : Int32) + p1)).toNatClampNeg) + (u.1 1 (p2).toNatClampNeg))) 67) ||| (0 : Int32)))) S hK hw 7 0 rfl rfl (xvi (e_22 ()) (by omega) (by omega)) dX11_learns_125 ?_
          refine lv_iload S.1 S.2.1 dX11_learns_126 (lv_at hl 0 rfl) ?_
          refine lv_if_eq (tgt := 137) S.1 S.2.1 dX11_learns_128 (by decide) (fun c_23 => ?_) (fun c_23 => ?_)
          · exact absurd c_23 (by decide)
          · refine lv_iconst (v := 1) S.1 S.2.1 dX11_learns_131 (by decide) ?_
            refine lv_iload_n S.1 S.2.1 dX11_learns_132 rfl (lv_at hl 5 rfl) ?_
            refine lv_ishl S.1 S.2.1 dX11_learns_133 ?_
            refine lv_goto (tgt := 138) S.1 S.2.1 dX11_learns_134 (by decide) ?_
            refine lv_ior S.1 S.2.1 dX11_learns_138 ?_
            refine xast S hK hw 7 0 rfl rfl (xvi (e_22 ()) (by omega) (by omega)) (sM_7 _ _ _ _) dX11_learns_139 (fun H locs hw => ?_)
            refine lv_aload_n S.1 S.2.1 dX11_learns_140 rfl (lv_at hl 3 rfl) ?_
            refine xget (v := .ref (a 7)) S hK hw 0 rfl rfl inX11 8 (by decide) mfX11_28 rfl dX11_learns_141 ?_
            refine lv_bipush (v := 68) S.1 S.2.1 dX11_learns_144 (by decide) ?_
            refine lv_iload_n S.1 S.2.1 dX11_learns_146 rfl (lv_at hl 4 rfl) ?_
            refine lv_iadd S.1 S.2.1 dX11_learns_147 ?_
            refine lv_iload S.1 S.2.1 dX11_learns_148 (lv_at hl 1 rfl) ?_
            refine lv_if_ne (tgt := 158) S.1 S.2.1 dX11_learns_150 (by decide) (fun c_25 => ?_) (fun c_25 => ?_)
            · exact absurd c_25 (by decide)
            · refine lv_iload S.1 S.2.1 dX11_learns_153 (lv_at hl 0 rfl) ?_
              refine lv_if_eq (tgt := 163) S.1 S.2.1 dX11_learns_155 (by decide) (fun c_26 => ?_) (fun c_26 => ?_)
              · exact absurd c_26 (by decide)
              · refine lv_bipush (v := -9) S.1 S.2.1 dX11_learns_158 (by decide) ?_
                refine lv_goto (tgt := 164) S.1 S.2.1 dX11_learns_160 (by decide) ?_
                have e_27 : ∀ _ : Unit, (((68 : Int32) + p1)).toInt = 68 + (p1).toInt := fun _ => xadd rfl rfl (by omega) (by omega)
                refine xast S hK hw 7 0 rfl rfl (xvi (e_27 ()) (by omega) (by omega)) (sM_7 _ _ _ _) dX11_learns_164 (fun H locs hw => ?_)
                exact xrv S hr hlk hw hV dX11_learns_165
        · exact absurd c_20 (by decide)
  · replace hV := hV.trans (if_neg c_8)
    have gc_8 : ((u.1 5 (p1).toNatClampNeg)).toInt < (((upd ((upd (u.1 7) ((((1 : Int32) + ((8 : Int32) * p1)) + p2)).toNatClampNeg ((u.1 7 ((((1 : Int32) + ((8 : Int32) * p1)) + p2)).toNatClampNeg) + (u.1 6 (p1).toNatClampNeg)))) (((61 : Int32) + p1)).toNatClampNeg (((upd (u.1 7) ((((1 : Int32) + ((8 : Int32) * p1)) + p2)).toNatClampNeg ((u.1 7 ((((1 : Int32) + ((8 : Int32) * p1)) + p2)).toNatClampNeg) + (u.1 6 (p1).toNatClampNeg))) (((61 : Int32) + p1)).toNatClampNeg) + (u.1 1 (p2).toNatClampNeg))) (((61 : Int32) + p1)).toNatClampNeg)).toInt := xq_nle c_8 rfl rfl
    refine lv_iconst (v := 1) S.1 S.2.1 dX11_learns_60 (by decide) ?_
    refine lv_goto (tgt := 65) S.1 S.2.1 dX11_learns_61 (by decide) ?_
    refine lv_istore (lv' := [(4, .int (1 : Int32)), (3, .int (((1 : Int32) + ((8 : Int32) * p1)) + p2)), (0, .ref (a 0)), (1, .int p1), (2, .int p2)]) S.1 S.2.1 dX11_learns_65 hl (by decide) rfl (fun ls hl => ?_)
    refine lv_iload S.1 S.2.1 dX11_learns_67 (lv_at hl 0 rfl) ?_
    refine lv_if_ne (tgt := 91) S.1 S.2.1 dX11_learns_69 (by decide) (fun c_29 => ?_) (fun c_29 => ?_)
    · refine lv_iconst (v := 0) S.1 S.2.1 dX11_learns_91 (by decide) ?_
      refine lv_istore (lv' := [(5, .int (0 : Int32)), (4, .int (1 : Int32)), (3, .int (((1 : Int32) + ((8 : Int32) * p1)) + p2)), (0, .ref (a 0)), (1, .int p1), (2, .int p2)]) S.1 S.2.1 dX11_learns_92 hl (by decide) rfl (fun ls hl => ?_)
      refine lv_aload_n S.1 S.2.1 dX11_learns_94 rfl (lv_at hl 3 rfl) ?_
      refine xget (v := .ref (a 7)) S hK hw 0 rfl rfl inX11 8 (by decide) mfX11_28 rfl dX11_learns_95 ?_
      refine lv_bipush (v := 67) S.1 S.2.1 dX11_learns_98 (by decide) ?_
      refine lv_dup2_11 S.1 S.2.1 dX11_learns_100 rfl rfl ?_
      refine xaldc (f := (upd ((upd (u.1 7) ((((1 : Int32) + ((8 : Int32) * p1)) + p2)).toNatClampNeg ((u.1 7 ((((1 : Int32) + ((8 : Int32) * p1)) + p2)).toNatClampNeg) + (u.1 6 (p1).toNatClampNeg)))) (((61 : Int32) + p1)).toNatClampNeg (((upd (u.1 7) ((((1 : Int32) + ((8 : Int32) * p1)) + p2)).toNatClampNeg ((u.1 7 ((((1 : Int32) + ((8 : Int32) * p1)) + p2)).toNatClampNeg) + (u.1 6 (p1).toNatClampNeg))) (((61 : Int32) + p1)).toNatClampNeg) + (u.1 1 (p2).toNatClampNeg)))) (x := ((upd ((upd (u.1 7) ((((1 : Int32) + ((8 : Int32) * p1)) + p2)).toNatClampNeg ((u.1 7 ((((1 : Int32) + ((8 : Int32) * p1)) + p2)).toNatClampNeg) + (u.1 6 (p1).toNatClampNeg)))) (((61 : Int32) + p1)).toNatClampNeg (((upd (u.1 7) ((((1 : Int32) + ((8 : Int32) * p1)) + p2)).toNatClampNeg ((u.1 7 ((((1 : Int32) + ((8 : Int32) * p1)) + p2)).toNatClampNeg) + (u.1 6 (p1).toNatClampNeg))) (((61 : Int32) + p1)).toNatClampNeg) + (u.1 1 (p2).toNatClampNeg))) 67)) (k := 67) S hK hw 7 0 rfl rfl (by decide) rfl (xvi (a := 67) rfl (by decide) (by decide)) dX11_learns_101 ?_
      refine lv_iload S.1 S.2.1 dX11_learns_102 (lv_at hl 1 rfl) ?_
      refine lv_if_eq (tgt := 113) S.1 S.2.1 dX11_learns_104 (by decide) (fun c_30 => ?_) (fun c_30 => ?_)
      · exact absurd c_30 (by decide)
      · refine lv_iconst (v := 1) S.1 S.2.1 dX11_learns_107 (by decide) ?_
        refine lv_iload_n S.1 S.2.1 dX11_learns_108 rfl (lv_at hl 4 rfl) ?_
        refine lv_ishl S.1 S.2.1 dX11_learns_109 ?_
        refine lv_goto (tgt := 114) S.1 S.2.1 dX11_learns_110 (by decide) ?_
        refine lv_ior S.1 S.2.1 dX11_learns_114 ?_
        refine xastc (k := 67) S hK hw 7 0 rfl rfl (by decide) (xvi (a := 67) rfl (by decide) (by decide)) (sM_7 _ _ _ _) dX11_learns_115 (fun H locs hw => ?_)
        refine lv_aload_n S.1 S.2.1 dX11_learns_116 rfl (lv_at hl 3 rfl) ?_
        refine xget (v := .ref (a 7)) S hK hw 0 rfl rfl inX11 8 (by decide) mfX11_28 rfl dX11_learns_117 ?_
        refine lv_bipush (v := 49) S.1 S.2.1 dX11_learns_120 (by decide) ?_
        refine lv_iload_n S.1 S.2.1 dX11_learns_122 rfl (lv_at hl 4 rfl) ?_
        refine lv_iadd S.1 S.2.1 dX11_learns_123 ?_
        refine lv_dup2_11 S.1 S.2.1 dX11_learns_124 rfl rfl ?_
        have e_32 : ∀ _ : Unit, (((49 : Int32) + p1)).toInt = 49 + (p1).toInt := fun _ => xadd rfl rfl (by omega) (by omega)
        refine xald (f := (upd ((upd ((upd (u.1 7) ((((1 : Int32) + ((8 : Int32) * p1)) + p2)).toNatClampNeg ((u.1 7 ((((1 : Int32) + ((8 : Int32) * p1)) + p2)).toNatClampNeg) + (u.1 6 (p1).toNatClampNeg)))) (((61 : Int32) + p1)).toNatClampNeg (((upd (u.1 7) ((((1 : Int32) + ((8 : Int32) * p1)) + p2)).toNatClampNeg ((u.1 7 ((((1 : Int32) + ((8 : Int32) * p1)) + p2)).toNatClampNeg) + (u.1 6 (p1).toNatClampNeg))) (((61 : Int32) + p1)).toNatClampNeg) + (u.1 1 (p2).toNatClampNeg)))) 67 (((upd ((upd (u.1 7) ((((1 : Int32) + ((8 : Int32) * p1)) + p2)).toNatClampNeg ((u.1 7 ((((1 : Int32) + ((8 : Int32) * p1)) + p2)).toNatClampNeg) + (u.1 6 (p1).toNatClampNeg)))) (((61 : Int32) + p1)).toNatClampNeg (((upd (u.1 7) ((((1 : Int32) + ((8 : Int32) * p1)) + p2)).toNatClampNeg ((u.1 7 ((((1 : Int32) + ((8 : Int32) * p1)) + p2)).toNatClampNeg) + (u.1 6 (p1).toNatClampNeg))) (((61 : Int32) + p1)).toNatClampNeg) + (u.1 1 (p2).toNatClampNeg))) 67) ||| ((1 : Int32) <<< (p1 &&& 31))))) S hK hw 7 0 rfl rfl (xvi (e_32 ()) (by omega) (by omega)) dX11_learns_125 ?_
        refine lv_iload S.1 S.2.1 dX11_learns_126 (lv_at hl 0 rfl) ?_
        refine lv_if_eq (tgt := 137) S.1 S.2.1 dX11_learns_128 (by decide) (fun c_33 => ?_) (fun c_33 => ?_)
        · refine lv_iconst (v := 0) S.1 S.2.1 dX11_learns_137 (by decide) ?_
          refine lv_ior S.1 S.2.1 dX11_learns_138 ?_
          refine xast S hK hw 7 0 rfl rfl (xvi (e_32 ()) (by omega) (by omega)) (sM_7 _ _ _ _) dX11_learns_139 (fun H locs hw => ?_)
          refine lv_aload_n S.1 S.2.1 dX11_learns_140 rfl (lv_at hl 3 rfl) ?_
          refine xget (v := .ref (a 7)) S hK hw 0 rfl rfl inX11 8 (by decide) mfX11_28 rfl dX11_learns_141 ?_
          refine lv_bipush (v := 68) S.1 S.2.1 dX11_learns_144 (by decide) ?_
          refine lv_iload_n S.1 S.2.1 dX11_learns_146 rfl (lv_at hl 4 rfl) ?_
          refine lv_iadd S.1 S.2.1 dX11_learns_147 ?_
          refine lv_iload S.1 S.2.1 dX11_learns_148 (lv_at hl 1 rfl) ?_
          refine lv_if_ne (tgt := 158) S.1 S.2.1 dX11_learns_150 (by decide) (fun c_35 => ?_) (fun c_35 => ?_)
          · refine lv_bipush (v := -9) S.1 S.2.1 dX11_learns_158 (by decide) ?_
            refine lv_goto (tgt := 164) S.1 S.2.1 dX11_learns_160 (by decide) ?_
            have e_36 : ∀ _ : Unit, (((68 : Int32) + p1)).toInt = 68 + (p1).toInt := fun _ => xadd rfl rfl (by omega) (by omega)
            refine xast S hK hw 7 0 rfl rfl (xvi (e_36 ()) (by omega) (by omega)) (sM_7 _ _ _ _) dX11_learns_164 (fun H locs hw => ?_)
            exact xrv S hr hlk hw hV dX11_learns_165
          · exact absurd c_35 (by decide)
        · exact absurd c_33 (by decide)
    · exact absurd c_29 (by decide)
noncomputable def m_undo_L40 (x1 : Int32) : Nat → Int32 → xU → Int32 × xU
  | 0, _, w => (0, w)
  | n + 1, x2, w =>
    (if (74 : Int32) ≤ x2 then
    ((w.1 7 74), w)
    else
    let w_10 := sp w 7 (upd (w.1 7) (x2).toNatClampNeg (w.1 7 ((x1 + x2)).toNatClampNeg))
    m_undo_L40 x1 n (x2 + (1 : Int32)) w_10)
noncomputable def m_undo_b (u : xU) : Int32 × xU :=
    (if (u.1 7 74) = (0 : Int32) then
    ((-2 : Int32), u)
    else
    let w_2 := sp u 7 (upd (u.1 7) 74 ((u.1 7 74) - (1 : Int32)))
    let t_3 := ((75 : Int32) + ((74 : Int32) * (w_2.1 7 74)))
    m_undo_L40 t_3 75 (0 : Int32) w_2)
theorem m_undo_x : ∃ f : xU → Int32 × xU, f = m_undo_b := ⟨_, rfl⟩
noncomputable def m_undo : xU → Int32 × xU := m_undo_x.choose
theorem m_undo_def : m_undo = m_undo_b := m_undo_x.choose_spec
set_option maxHeartbeats 4000000 in
set_option maxRecDepth 100000 in
theorem c_m_undo (l : Launch) (D : va_G) (a : Nat → Nat) (Y : Nat → ClassId) (ts : Nat → Nat) (u : xU) (hU : (0 ≤ ((u.1 7 74)).toInt ∧ ((u.1 7 74)).toInt ≤ 10)) : xMi l yX11_undo cX11_undo 3 (some .int) (xRm 0 0) D (xty Y) (wM a Y) ts [.ref (a 0)] u ((m_undo u).1, (m_undo u).2) := by
  suffices h : ∀ V, V = m_undo_b u → xMi l yX11_undo cX11_undo 3 (some .int) (xRm 0 0) D (xty Y) (wM a Y) ts [.ref (a 0)] u (V.1, V.2) from h _ (by rw [m_undo_def])
  intro V hV
  refine xofi RX11 rfl (by decide) (Nat.le_of_ble_eq_true rfl) ?_
  intro p e s m args below meth c ls H locs A S hr hlk hl hK hE hA hw
  have hl : lv_has ls 3 [(0, .ref (a 0))] := hl
  refine lv_aload_n S.1 S.2.1 dX11_undo_0 rfl (lv_at hl 0 rfl) ?_
  refine xget (v := .ref (a 7)) S hK hw 0 rfl rfl inX11 8 (by decide) mfX11_28 rfl dX11_undo_1 ?_
  refine lv_bipush (v := 74) S.1 S.2.1 dX11_undo_4 (by decide) ?_
  refine xaldc (f := u.1 7) (x := (u.1 7 74)) (k := 74) S hK hw 7 0 rfl rfl (by decide) rfl (xvi (a := 74) rfl (by decide) (by decide)) dX11_undo_6 ?_
  refine lv_if_ne (tgt := 13) S.1 S.2.1 dX11_undo_7 (by decide) (fun c_1 => ?_) (fun c_1 => ?_)
  · replace hV := hV.trans (if_neg c_1)
    have gc_1 : ¬ ((u.1 7 74)).toInt = 0 := xq_ne c_1 rfl rfl
    refine lv_aload_n S.1 S.2.1 dX11_undo_13 rfl (lv_at hl 0 rfl) ?_
    refine xget (v := .ref (a 7)) S hK hw 0 rfl rfl inX11 8 (by decide) mfX11_28 rfl dX11_undo_14 ?_
    refine lv_bipush (v := 74) S.1 S.2.1 dX11_undo_17 (by decide) ?_
    refine lv_dup2_11 S.1 S.2.1 dX11_undo_19 rfl rfl ?_
    refine xaldc (f := u.1 7) (x := (u.1 7 74)) (k := 74) S hK hw 7 0 rfl rfl (by decide) rfl (xvi (a := 74) rfl (by decide) (by decide)) dX11_undo_20 ?_
    refine lv_iconst (v := 1) S.1 S.2.1 dX11_undo_21 (by decide) ?_
    refine lv_isub S.1 S.2.1 dX11_undo_22 ?_
    refine xastc (k := 74) S hK hw 7 0 rfl rfl (by decide) (xvi (a := 74) rfl (by decide) (by decide)) (sM_7 _ _ _ _) dX11_undo_23 (fun H locs hw => ?_)
    refine lv_bipush (v := 75) S.1 S.2.1 dX11_undo_24 (by decide) ?_
    refine lv_bipush (v := 74) S.1 S.2.1 dX11_undo_26 (by decide) ?_
    refine lv_aload_n S.1 S.2.1 dX11_undo_28 rfl (lv_at hl 0 rfl) ?_
    refine xget (v := .ref (a 7)) S hK hw 0 rfl rfl inX11 8 (by decide) mfX11_28 rfl dX11_undo_29 ?_
    refine lv_bipush (v := 74) S.1 S.2.1 dX11_undo_32 (by decide) ?_
    refine xaldc (f := (upd (u.1 7) 74 ((u.1 7 74) - (1 : Int32)))) (x := ((u.1 7 74) - (1 : Int32))) (k := 74) S hK hw 7 0 rfl rfl (by decide) rfl (xvi (a := 74) rfl (by decide) (by decide)) dX11_undo_34 ?_
    refine lv_imul S.1 S.2.1 dX11_undo_35 ?_
    refine lv_iadd S.1 S.2.1 dX11_undo_36 ?_
    refine lv_istore_n (lv' := [(1, .int ((75 : Int32) + ((74 : Int32) * ((u.1 7 74) - (1 : Int32))))), (0, .ref (a 0))]) S.1 S.2.1 dX11_undo_37 rfl hl (by decide) rfl (fun ls hl => ?_)
    refine lv_iconst (v := 0) S.1 S.2.1 dX11_undo_38 (by decide) ?_
    refine lv_istore_n (lv' := [(2, .int (0 : Int32)), (1, .int ((75 : Int32) + ((74 : Int32) * ((u.1 7 74) - (1 : Int32))))), (0, .ref (a 0))]) S.1 S.2.1 dX11_undo_39 rfl hl (by decide) rfl (fun ls hl => ?_)
    have lp_4 : ∀ (n_4 : Nat) (x2_4 : Int32) (u_4 : xU) (H : Heap) (locs : List Loc) (ls : Array Slot), (0 ≤ (x2_4).toInt) → (74 - (x2_4).toInt < (n_4 : Int) ∧ 1 ≤ n_4) → lv_has ls 3 [(0, .ref (a 0)), (1, .int ((75 : Int32) + ((74 : Int32) * ((u.1 7 74) - (1 : Int32))))), (2, .int x2_4)] → xw D (wM a Y) A s.heap H locs u_4 → V = m_undo_L40 ((75 : Int32) + ((74 : Int32) * ((u.1 7 74) - (1 : Int32)))) n_4 x2_4 u_4 → W p l e (xRm 0 0) s m args below meth c H locs 0 0 (MQ below (va_Qi (fun r v => (r, v) = V) (xPost D (wM a Y) A) A) args s 0 0 A) (F0 m 40 ls []) := by
      intro n_4
      induction n_4 with
      | zero => intro x2_4 u_4 H locs ls i0_4 hn; exact absurd hn.2 (by decide)
      | succ n_4 ih_4 =>
        intro x2_4 u_4 H locs ls i0_4 hn_4 hl hw hV
        refine lv_iload_n S.1 S.2.1 dX11_undo_40 rfl (lv_at hl 2 rfl) ?_
        refine lv_bipush (v := 74) S.1 S.2.1 dX11_undo_41 (by decide) ?_
        refine lv_icmp_ge (tgt := 66) S.1 S.2.1 dX11_undo_43 (by decide) (fun c_5 => ?_) (fun c_5 => ?_)
        · replace hV := hV.trans (if_pos c_5)
          have gc_5 : 74 ≤ (x2_4).toInt := xq_le c_5 rfl rfl
          refine lv_aload_n S.1 S.2.1 dX11_undo_66 rfl (lv_at hl 0 rfl) ?_
          refine xget (v := .ref (a 7)) S hK hw 0 rfl rfl inX11 8 (by decide) mfX11_28 rfl dX11_undo_67 ?_
          refine lv_bipush (v := 74) S.1 S.2.1 dX11_undo_70 (by decide) ?_
          refine xaldc (f := u_4.1 7) (x := (u_4.1 7 74)) (k := 74) S hK hw 7 0 rfl rfl (by decide) rfl (xvi (a := 74) rfl (by decide) (by decide)) dX11_undo_72 ?_
          exact xri S hr hlk hw hV dX11_undo_73
        · replace hV := hV.trans (if_neg c_5)
          have gc_5 : (x2_4).toInt < 74 := xq_nle c_5 rfl rfl
          refine lv_aload_n S.1 S.2.1 dX11_undo_46 rfl (lv_at hl 0 rfl) ?_
          refine xget (v := .ref (a 7)) S hK hw 0 rfl rfl inX11 8 (by decide) mfX11_28 rfl dX11_undo_47 ?_
          refine lv_iload_n S.1 S.2.1 dX11_undo_50 rfl (lv_at hl 2 rfl) ?_
          refine lv_aload_n S.1 S.2.1 dX11_undo_51 rfl (lv_at hl 0 rfl) ?_
          refine xget (v := .ref (a 7)) S hK hw 0 rfl rfl inX11 8 (by decide) mfX11_28 rfl dX11_undo_52 ?_
          refine lv_iload_n S.1 S.2.1 dX11_undo_55 rfl (lv_at hl 1 rfl) ?_
          refine lv_iload_n S.1 S.2.1 dX11_undo_56 rfl (lv_at hl 2 rfl) ?_
          refine lv_iadd S.1 S.2.1 dX11_undo_57 ?_
          have e_6 : ∀ _ : Unit, (((u.1 7 74) - (1 : Int32))).toInt = ((u.1 7 74)).toInt - 1 := fun _ => xsub rfl rfl (by omega) (by omega)
          have e_7 : ∀ _ : Unit, (((74 : Int32) * ((u.1 7 74) - (1 : Int32)))).toInt = 74 * (((u.1 7 74)).toInt - 1) := fun _ => xmul rfl (e_6 ()) (by omega) (by omega)
          have e_8 : ∀ _ : Unit, (((75 : Int32) + ((74 : Int32) * ((u.1 7 74) - (1 : Int32))))).toInt = 75 + (74 * (((u.1 7 74)).toInt - 1)) := fun _ => xadd rfl (e_7 ()) (by omega) (by omega)
          have e_9 : ∀ _ : Unit, ((((75 : Int32) + ((74 : Int32) * ((u.1 7 74) - (1 : Int32)))) + x2_4)).toInt = (75 + (74 * (((u.1 7 74)).toInt - 1))) + (x2_4).toInt := fun _ => xadd (e_8 ()) rfl (by omega) (by omega)
          refine xald (f := u_4.1 7) S hK hw 7 0 rfl rfl (xvi (e_9 ()) (by omega) (by omega)) dX11_undo_58 ?_
          refine xast S hK hw 7 0 rfl rfl (xvi rfl (by omega) (by omega)) (sM_7 _ _ _ _) dX11_undo_59 (fun H locs hw => ?_)
          refine lv_iinc (v := (x2_4 + (1 : Int32))) (lv' := [(2, .int (x2_4 + (1 : Int32))), (0, .ref (a 0)), (1, .int ((75 : Int32) + ((74 : Int32) * ((u.1 7 74) - (1 : Int32)))))]) S.1 S.2.1 dX11_undo_60 hl (k := 2) rfl rfl (by decide) rfl (fun ls hl => ?_)
          refine lv_goto (tgt := 40) S.1 S.2.1 dX11_undo_63 (by decide) ?_
          have e_11 : ∀ _ : Unit, ((x2_4 + (1 : Int32))).toInt = (x2_4).toInt + 1 := fun _ => xadd rfl rfl (by omega) (by omega)
          exact ih_4 (x2_4 + (1 : Int32)) (sp u_4 7 (upd (u_4.1 7) (x2_4).toNatClampNeg (u_4.1 7 ((((75 : Int32) + ((74 : Int32) * ((u.1 7 74) - (1 : Int32)))) + x2_4)).toNatClampNeg))) _ _ _ (show 0 ≤ ((x2_4 + (1 : Int32))).toInt from by rw [(e_11 ())]; omega) (show 74 - ((x2_4 + (1 : Int32))).toInt < (n_4 : Int) ∧ 1 ≤ n_4 from by rw [(e_11 ())]; omega) (lv_sub hl [1, 2, 0] rfl) hw hV
    exact lp_4 75 (0 : Int32) (sp u 7 (upd (u.1 7) 74 ((u.1 7 74) - (1 : Int32)))) _ _ _ (show 0 ≤ 0 from by omega) (show 74 - 0 < ((75 : Nat) : Int) ∧ 1 ≤ (75 : Nat) from by omega) (lv_sub hl [2, 1, 0] rfl) hw hV
  · replace hV := hV.trans (if_pos c_1)
    have gc_1 : ((u.1 7 74)).toInt = 0 := xq_eq c_1 rfl rfl
    refine lv_bipush (v := -2) S.1 S.2.1 dX11_undo_10 (by decide) ?_
    exact xri S hr hlk hw hV dX11_undo_12
noncomputable def m_settles_L102 : Nat → Int32 → xU → xU
  | 0, _, w => w
  | n + 1, x1, w =>
    (if (6 : Int32) ≤ x1 then
    let w_9 := sp w 0 (upd (w.1 0) 11 (0 : Int32))
    let w_10 := sp w_9 9 (upd (w.1 9) ((0 : Int32)).toNatClampNeg (0 : Int32))
    let w_11 := sp w_10 9 (upd (w_10.1 9) ((1 : Int32)).toNatClampNeg (0 : Int32))
    let w_12 := sp w_11 0 (upd (w_9.1 0) 15 (0 : Int32))
    w_12
    else
    let w_13 := sp w 5 (upd (w.1 5) (x1).toNatClampNeg (w.1 16 (x1).toNatClampNeg))
    let w_14 := sp w_13 6 (upd (w.1 6) (x1).toNatClampNeg (w.1 17 (x1).toNatClampNeg))
    let w_16 := sp w_14 7 (upd (w.1 7) (((55 : Int32) + x1)).toNatClampNeg (w.1 18 (x1).toNatClampNeg))
    let w_18 := sp w_16 7 (upd (w_16.1 7) (((68 : Int32) + x1)).toNatClampNeg (-9 : Int32))
    m_settles_L102 n (x1 + (1 : Int32)) w_18)
noncomputable def m_settles_L40 : Nat → Int32 → xU → xU
  | 0, _, w => w
  | n + 1, x1, w =>
    (if (8 : Int32) ≤ x1 then
    m_settles_L102 7 (0 : Int32) w
    else
    let w_20 := sp w 1 (upd (w.1 1) (x1).toNatClampNeg (w.1 12 (x1).toNatClampNeg))
    let w_21 := sp w_20 2 (upd (w.1 2) (x1).toNatClampNeg (w.1 13 (x1).toNatClampNeg))
    let w_22 := sp w_21 3 (upd (w.1 3) (x1).toNatClampNeg (w.1 14 (x1).toNatClampNeg))
    let w_23 := sp w_22 4 (upd (w.1 4) (x1).toNatClampNeg (w.1 15 (x1).toNatClampNeg))
    m_settles_L40 n (x1 + (1 : Int32)) w_23)
noncomputable def m_settles_L18 : Nat → Int32 → xU → xU
  | 0, _, w => w
  | n + 1, x1, w =>
    (if (815 : Int32) ≤ x1 then
    m_settles_L40 9 (0 : Int32) w
    else
    let w_25 := sp w 7 (upd (w.1 7) (x1).toNatClampNeg (0 : Int32))
    m_settles_L18 n (x1 + (1 : Int32)) w_25)
noncomputable def m_settles_b (u : xU) : xU :=
    let w_1 := sp u 0 (upd (u.1 0) 0 (u.1 0 22))
    let w_2 := sp w_1 0 (upd (w_1.1 0) 5 (w_1.1 0 27))
    m_settles_L18 816 (0 : Int32) w_2
theorem m_settles_x : ∃ f : xU → xU, f = m_settles_b := ⟨_, rfl⟩
noncomputable def m_settles : xU → xU := m_settles_x.choose
theorem m_settles_def : m_settles = m_settles_b := m_settles_x.choose_spec
set_option maxHeartbeats 4000000 in
set_option maxRecDepth 100000 in
theorem c_m_settles (l : Launch) (D : va_G) (a : Nat → Nat) (Y : Nat → ClassId) (ts : Nat → Nat) (u : xU) : xMv l yX11_settles cX11_settles 2 none (xRm 0 0) D (xty Y) (wM a Y) ts [.ref (a 0)] u (m_settles u) := by
  suffices h : ∀ V, V = m_settles_b u → xMv l yX11_settles cX11_settles 2 none (xRm 0 0) D (xty Y) (wM a Y) ts [.ref (a 0)] u V from h _ (by rw [m_settles_def])
  intro V hV
  refine xofv RX11 rfl (by decide) (Nat.le_of_ble_eq_true rfl) ?_
  intro p e s m args below meth c ls H locs A S hr hlk hl hK hE hA hw
  have hl : lv_has ls 2 [(0, .ref (a 0))] := hl
  refine lv_aload_n S.1 S.2.1 dX11_settles_0 rfl (lv_at hl 0 rfl) ?_
  refine lv_aload_n S.1 S.2.1 dX11_settles_1 rfl (lv_at hl 0 rfl) ?_
  refine xget (v := .int (u.1 0 22)) S hK hw 0 rfl rfl inX11 22 (by decide) mfX11_112 rfl dX11_settles_2 ?_
  refine xputi (ty := .int) S hK hw 0 rfl rfl inX11 tyX11 tyX11_ok nmX11 0 (by decide) mfX11_68 rfl (by decide +kernel) rfl rfl (Nat.le_of_ble_eq_true rfl) (oM_0_0 _ _ _ _) dX11_settles_5 (fun H locs hw => ?_)
  refine lv_aload_n S.1 S.2.1 dX11_settles_8 rfl (lv_at hl 0 rfl) ?_
  refine lv_aload_n S.1 S.2.1 dX11_settles_9 rfl (lv_at hl 0 rfl) ?_
  refine xget (v := .int (u.1 0 27)) S hK hw 0 rfl rfl inX11 27 (by decide) mfX11_119 rfl dX11_settles_10 ?_
  refine xputi (ty := .int) S hK hw 0 rfl rfl inX11 tyX11 tyX11_ok nmX11 5 (by decide) mfX11_76 rfl (by decide +kernel) rfl rfl (Nat.le_of_ble_eq_true rfl) (oM_0_5 _ _ _ _) dX11_settles_13 (fun H locs hw => ?_)
  refine lv_iconst (v := 0) S.1 S.2.1 dX11_settles_16 (by decide) ?_
  refine lv_istore_n (lv' := [(1, .int (0 : Int32)), (0, .ref (a 0))]) S.1 S.2.1 dX11_settles_17 rfl hl (by decide) rfl (fun ls hl => ?_)
  have lp_3 : ∀ (n_3 : Nat) (x1_3 : Int32) (u_3 : xU) (H : Heap) (locs : List Loc) (ls : Array Slot), (0 ≤ (x1_3).toInt) → (815 - (x1_3).toInt < (n_3 : Int) ∧ 1 ≤ n_3) → lv_has ls 2 [(0, .ref (a 0)), (1, .int x1_3)] → xw D (wM a Y) A s.heap H locs u_3 → V = m_settles_L18 n_3 x1_3 u_3 → W p l e (xRm 0 0) s m args below meth c H locs 0 0 (MQ below (va_Qv (fun v => v = V) (xPost D (wM a Y) A) A) args s 0 0 A) (F0 m 18 ls []) := by
    intro n_3
    induction n_3 with
    | zero => intro x1_3 u_3 H locs ls i0_3 hn; exact absurd hn.2 (by decide)
    | succ n_3 ih_3 =>
      intro x1_3 u_3 H locs ls i0_3 hn_3 hl hw hV
      refine lv_iload_n S.1 S.2.1 dX11_settles_18 rfl (lv_at hl 1 rfl) ?_
      refine lv_sipush (v := 815) S.1 S.2.1 dX11_settles_19 (by decide) ?_
      refine lv_icmp_ge (tgt := 38) S.1 S.2.1 dX11_settles_22 (by decide) (fun c_4 => ?_) (fun c_4 => ?_)
      · replace hV := hV.trans (if_pos c_4)
        have gc_4 : 815 ≤ (x1_3).toInt := xq_le c_4 rfl rfl
        refine lv_iconst (v := 0) S.1 S.2.1 dX11_settles_38 (by decide) ?_
        refine lv_istore_n (lv' := [(1, .int (0 : Int32)), (0, .ref (a 0))]) S.1 S.2.1 dX11_settles_39 rfl hl (by decide) rfl (fun ls hl => ?_)
        have lp_5 : ∀ (n_5 : Nat) (x1_5 : Int32) (u_5 : xU) (H : Heap) (locs : List Loc) (ls : Array Slot), (0 ≤ (x1_5).toInt) → (8 - (x1_5).toInt < (n_5 : Int) ∧ 1 ≤ n_5) → lv_has ls 2 [(0, .ref (a 0)), (1, .int x1_5)] → xw D (wM a Y) A s.heap H locs u_5 → V = m_settles_L40 n_5 x1_5 u_5 → W p l e (xRm 0 0) s m args below meth c H locs 0 0 (MQ below (va_Qv (fun v => v = V) (xPost D (wM a Y) A) A) args s 0 0 A) (F0 m 40 ls []) := by
          intro n_5
          induction n_5 with
          | zero => intro x1_5 u_5 H locs ls i0_5 hn; exact absurd hn.2 (by decide)
          | succ n_5 ih_5 =>
            intro x1_5 u_5 H locs ls i0_5 hn_5 hl hw hV
            refine lv_iload_n S.1 S.2.1 dX11_settles_40 rfl (lv_at hl 1 rfl) ?_
            refine lv_bipush (v := 8) S.1 S.2.1 dX11_settles_41 (by decide) ?_
            refine lv_icmp_ge (tgt := 100) S.1 S.2.1 dX11_settles_43 (by decide) (fun c_6 => ?_) (fun c_6 => ?_)
            · replace hV := hV.trans (if_pos c_6)
              have gc_6 : 8 ≤ (x1_5).toInt := xq_le c_6 rfl rfl
              refine lv_iconst (v := 0) S.1 S.2.1 dX11_settles_100 (by decide) ?_
              refine lv_istore_n (lv' := [(1, .int (0 : Int32)), (0, .ref (a 0))]) S.1 S.2.1 dX11_settles_101 rfl hl (by decide) rfl (fun ls hl => ?_)
              have lp_7 : ∀ (n_7 : Nat) (x1_7 : Int32) (u_7 : xU) (H : Heap) (locs : List Loc) (ls : Array Slot), (0 ≤ (x1_7).toInt) → (6 - (x1_7).toInt < (n_7 : Int) ∧ 1 ≤ n_7) → lv_has ls 2 [(0, .ref (a 0)), (1, .int x1_7)] → xw D (wM a Y) A s.heap H locs u_7 → V = m_settles_L102 n_7 x1_7 u_7 → W p l e (xRm 0 0) s m args below meth c H locs 0 0 (MQ below (va_Qv (fun v => v = V) (xPost D (wM a Y) A) A) args s 0 0 A) (F0 m 102 ls []) := by
                intro n_7
                induction n_7 with
                | zero => intro x1_7 u_7 H locs ls i0_7 hn; exact absurd hn.2 (by decide)
                | succ n_7 ih_7 =>
                  intro x1_7 u_7 H locs ls i0_7 hn_7 hl hw hV
                  refine lv_iload_n S.1 S.2.1 dX11_settles_102 rfl (lv_at hl 1 rfl) ?_
                  refine lv_bipush (v := 6) S.1 S.2.1 dX11_settles_103 (by decide) ?_
                  refine lv_icmp_ge (tgt := 164) S.1 S.2.1 dX11_settles_105 (by decide) (fun c_8 => ?_) (fun c_8 => ?_)
                  · replace hV := hV.trans (if_pos c_8)
                    have gc_8 : 6 ≤ (x1_7).toInt := xq_le c_8 rfl rfl
                    refine lv_aload_n S.1 S.2.1 dX11_settles_164 rfl (lv_at hl 0 rfl) ?_
                    refine lv_iconst (v := 0) S.1 S.2.1 dX11_settles_165 (by decide) ?_
                    refine xputi (ty := .int) S hK hw 0 rfl rfl inX11 tyX11 tyX11_ok nmX11 11 (by decide) mfX11_137 rfl (by decide +kernel) rfl rfl (Nat.le_of_ble_eq_true rfl) (oM_0_11 _ _ _ _) dX11_settles_166 (fun H locs hw => ?_)
                    refine lv_aload_n S.1 S.2.1 dX11_settles_169 rfl (lv_at hl 0 rfl) ?_
                    refine xget (v := .ref (a 9)) S hK hw 0 rfl rfl inX11 10 (by decide) mfX11_34 rfl dX11_settles_170 ?_
                    refine lv_iconst (v := 0) S.1 S.2.1 dX11_settles_173 (by decide) ?_
                    refine lv_iconst (v := 0) S.1 S.2.1 dX11_settles_174 (by decide) ?_
                    refine xastz S hK hw 9 1 rfl rfl rfl (xvi (a := 0) rfl (by decide) (by decide)) (sM_9 _ _ _ _) dX11_settles_175 (fun H locs hw => ?_)
                    refine lv_aload_n S.1 S.2.1 dX11_settles_176 rfl (lv_at hl 0 rfl) ?_
                    refine xget (v := .ref (a 9)) S hK hw 0 rfl rfl inX11 10 (by decide) mfX11_34 rfl dX11_settles_177 ?_
                    refine lv_iconst (v := 1) S.1 S.2.1 dX11_settles_180 (by decide) ?_
                    refine lv_iconst (v := 0) S.1 S.2.1 dX11_settles_181 (by decide) ?_
                    refine xastz S hK hw 9 1 rfl rfl rfl (xvi (a := 1) rfl (by decide) (by decide)) (sM_9 _ _ _ _) dX11_settles_182 (fun H locs hw => ?_)
                    refine lv_aload_n S.1 S.2.1 dX11_settles_183 rfl (lv_at hl 0 rfl) ?_
                    refine lv_iconst (v := 0) S.1 S.2.1 dX11_settles_184 (by decide) ?_
                    refine xputi (ty := .int) S hK hw 0 rfl rfl inX11 tyX11 tyX11_ok nmX11 15 (by decide) mfX11_79 rfl (by decide +kernel) rfl rfl (Nat.le_of_ble_eq_true rfl) (oM_0_15 _ _ _ _) dX11_settles_185 (fun H locs hw => ?_)
                    exact xrv S hr hlk hw hV dX11_settles_188
                  · replace hV := hV.trans (if_neg c_8)
                    have gc_8 : (x1_7).toInt < 6 := xq_nle c_8 rfl rfl
                    refine lv_aload_n S.1 S.2.1 dX11_settles_108 rfl (lv_at hl 0 rfl) ?_
                    refine xget (v := .ref (a 5)) S hK hw 0 rfl rfl inX11 6 (by decide) mfX11_22 rfl dX11_settles_109 ?_
                    refine lv_iload_n S.1 S.2.1 dX11_settles_112 rfl (lv_at hl 1 rfl) ?_
                    refine lv_aload_n S.1 S.2.1 dX11_settles_113 rfl (lv_at hl 0 rfl) ?_
                    refine xget (v := .ref (a 16)) S hK hw 0 rfl rfl inX11 28 (by decide) mfX11_56 rfl dX11_settles_114 ?_
                    refine lv_iload_n S.1 S.2.1 dX11_settles_117 rfl (lv_at hl 1 rfl) ?_
                    refine xald (f := u_7.1 16) S hK hw 16 0 rfl rfl (xvi rfl (by omega) (by omega)) dX11_settles_118 ?_
                    refine xast S hK hw 5 0 rfl rfl (xvi rfl (by omega) (by omega)) (sM_5 _ _ _ _) dX11_settles_119 (fun H locs hw => ?_)
                    refine lv_aload_n S.1 S.2.1 dX11_settles_120 rfl (lv_at hl 0 rfl) ?_
                    refine xget (v := .ref (a 6)) S hK hw 0 rfl rfl inX11 7 (by decide) mfX11_25 rfl dX11_settles_121 ?_
                    refine lv_iload_n S.1 S.2.1 dX11_settles_124 rfl (lv_at hl 1 rfl) ?_
                    refine lv_aload_n S.1 S.2.1 dX11_settles_125 rfl (lv_at hl 0 rfl) ?_
                    refine xget (v := .ref (a 17)) S hK hw 0 rfl rfl inX11 29 (by decide) mfX11_59 rfl dX11_settles_126 ?_
                    refine lv_iload_n S.1 S.2.1 dX11_settles_129 rfl (lv_at hl 1 rfl) ?_
                    refine xald (f := u_7.1 17) S hK hw 17 0 rfl rfl (xvi rfl (by omega) (by omega)) dX11_settles_130 ?_
                    refine xast S hK hw 6 0 rfl rfl (xvi rfl (by omega) (by omega)) (sM_6 _ _ _ _) dX11_settles_131 (fun H locs hw => ?_)
                    refine lv_aload_n S.1 S.2.1 dX11_settles_132 rfl (lv_at hl 0 rfl) ?_
                    refine xget (v := .ref (a 7)) S hK hw 0 rfl rfl inX11 8 (by decide) mfX11_28 rfl dX11_settles_133 ?_
                    refine lv_bipush (v := 55) S.1 S.2.1 dX11_settles_136 (by decide) ?_
                    refine lv_iload_n S.1 S.2.1 dX11_settles_138 rfl (lv_at hl 1 rfl) ?_
                    refine lv_iadd S.1 S.2.1 dX11_settles_139 ?_
                    refine lv_aload_n S.1 S.2.1 dX11_settles_140 rfl (lv_at hl 0 rfl) ?_
                    refine xget (v := .ref (a 18)) S hK hw 0 rfl rfl inX11 30 (by decide) mfX11_62 rfl dX11_settles_141 ?_
                    refine lv_iload_n S.1 S.2.1 dX11_settles_144 rfl (lv_at hl 1 rfl) ?_
                    refine xald (f := u_7.1 18) S hK hw 18 0 rfl rfl (xvi rfl (by omega) (by omega)) dX11_settles_145 ?_
                    have e_15 : ∀ _ : Unit, (((55 : Int32) + x1_7)).toInt = 55 + (x1_7).toInt := fun _ => xadd rfl rfl (by omega) (by omega)
                    refine xast S hK hw 7 0 rfl rfl (xvi (e_15 ()) (by omega) (by omega)) (sM_7 _ _ _ _) dX11_settles_146 (fun H locs hw => ?_)
                    refine lv_aload_n S.1 S.2.1 dX11_settles_147 rfl (lv_at hl 0 rfl) ?_
                    refine xget (v := .ref (a 7)) S hK hw 0 rfl rfl inX11 8 (by decide) mfX11_28 rfl dX11_settles_148 ?_
                    refine lv_bipush (v := 68) S.1 S.2.1 dX11_settles_151 (by decide) ?_
                    refine lv_iload_n S.1 S.2.1 dX11_settles_153 rfl (lv_at hl 1 rfl) ?_
                    refine lv_iadd S.1 S.2.1 dX11_settles_154 ?_
                    refine lv_bipush (v := -9) S.1 S.2.1 dX11_settles_155 (by decide) ?_
                    have e_17 : ∀ _ : Unit, (((68 : Int32) + x1_7)).toInt = 68 + (x1_7).toInt := fun _ => xadd rfl rfl (by omega) (by omega)
                    refine xast S hK hw 7 0 rfl rfl (xvi (e_17 ()) (by omega) (by omega)) (sM_7 _ _ _ _) dX11_settles_157 (fun H locs hw => ?_)
                    refine lv_iinc (v := (x1_7 + (1 : Int32))) (lv' := [(1, .int (x1_7 + (1 : Int32))), (0, .ref (a 0))]) S.1 S.2.1 dX11_settles_158 hl (k := 1) rfl rfl (by decide) rfl (fun ls hl => ?_)
                    refine lv_goto (tgt := 102) S.1 S.2.1 dX11_settles_161 (by decide) ?_
                    have e_19 : ∀ _ : Unit, ((x1_7 + (1 : Int32))).toInt = (x1_7).toInt + 1 := fun _ => xadd rfl rfl (by omega) (by omega)
                    clear hn_3 hn_5
                    exact ih_7 (x1_7 + (1 : Int32)) (sp (sp (sp (sp u_7 5 (upd (u_7.1 5) (x1_7).toNatClampNeg (u_7.1 16 (x1_7).toNatClampNeg))) 6 (upd (u_7.1 6) (x1_7).toNatClampNeg (u_7.1 17 (x1_7).toNatClampNeg))) 7 (upd (u_7.1 7) (((55 : Int32) + x1_7)).toNatClampNeg (u_7.1 18 (x1_7).toNatClampNeg))) 7 (upd ((upd (u_7.1 7) (((55 : Int32) + x1_7)).toNatClampNeg (u_7.1 18 (x1_7).toNatClampNeg))) (((68 : Int32) + x1_7)).toNatClampNeg (-9 : Int32))) _ _ _ (show 0 ≤ ((x1_7 + (1 : Int32))).toInt from by rw [(e_19 ())]; omega) (show 6 - ((x1_7 + (1 : Int32))).toInt < (n_7 : Int) ∧ 1 ≤ n_7 from by rw [(e_19 ())]; omega) (lv_sub hl [1, 0] rfl) hw hV
              exact lp_7 7 (0 : Int32) u_5 _ _ _ (show 0 ≤ 0 from by omega) (show 6 - 0 < ((7 : Nat) : Int) ∧ 1 ≤ (7 : Nat) from by omega) (lv_sub hl [1, 0] rfl) hw hV
            · replace hV := hV.trans (if_neg c_6)
              have gc_6 : (x1_5).toInt < 8 := xq_nle c_6 rfl rfl
              refine lv_aload_n S.1 S.2.1 dX11_settles_46 rfl (lv_at hl 0 rfl) ?_
              refine xget (v := .ref (a 1)) S hK hw 0 rfl rfl inX11 1 (by decide) mfX11_7 rfl dX11_settles_47 ?_
              refine lv_iload_n S.1 S.2.1 dX11_settles_50 rfl (lv_at hl 1 rfl) ?_
              refine lv_aload_n S.1 S.2.1 dX11_settles_51 rfl (lv_at hl 0 rfl) ?_
              refine xget (v := .ref (a 12)) S hK hw 0 rfl rfl inX11 23 (by decide) mfX11_44 rfl dX11_settles_52 ?_
              refine lv_iload_n S.1 S.2.1 dX11_settles_55 rfl (lv_at hl 1 rfl) ?_
              refine xald (f := u_5.1 12) S hK hw 12 0 rfl rfl (xvi rfl (by omega) (by omega)) dX11_settles_56 ?_
              refine xast S hK hw 1 0 rfl rfl (xvi rfl (by omega) (by omega)) (sM_1 _ _ _ _) dX11_settles_57 (fun H locs hw => ?_)
              refine lv_aload_n S.1 S.2.1 dX11_settles_58 rfl (lv_at hl 0 rfl) ?_
              refine xget (v := .ref (a 2)) S hK hw 0 rfl rfl inX11 2 (by decide) mfX11_13 rfl dX11_settles_59 ?_
              refine lv_iload_n S.1 S.2.1 dX11_settles_62 rfl (lv_at hl 1 rfl) ?_
              refine lv_aload_n S.1 S.2.1 dX11_settles_63 rfl (lv_at hl 0 rfl) ?_
              refine xget (v := .ref (a 13)) S hK hw 0 rfl rfl inX11 24 (by decide) mfX11_47 rfl dX11_settles_64 ?_
              refine lv_iload_n S.1 S.2.1 dX11_settles_67 rfl (lv_at hl 1 rfl) ?_
              refine xald (f := u_5.1 13) S hK hw 13 0 rfl rfl (xvi rfl (by omega) (by omega)) dX11_settles_68 ?_
              refine xast S hK hw 2 0 rfl rfl (xvi rfl (by omega) (by omega)) (sM_2 _ _ _ _) dX11_settles_69 (fun H locs hw => ?_)
              refine lv_aload_n S.1 S.2.1 dX11_settles_70 rfl (lv_at hl 0 rfl) ?_
              refine xget (v := .ref (a 3)) S hK hw 0 rfl rfl inX11 3 (by decide) mfX11_16 rfl dX11_settles_71 ?_
              refine lv_iload_n S.1 S.2.1 dX11_settles_74 rfl (lv_at hl 1 rfl) ?_
              refine lv_aload_n S.1 S.2.1 dX11_settles_75 rfl (lv_at hl 0 rfl) ?_
              refine xget (v := .ref (a 14)) S hK hw 0 rfl rfl inX11 25 (by decide) mfX11_50 rfl dX11_settles_76 ?_
              refine lv_iload_n S.1 S.2.1 dX11_settles_79 rfl (lv_at hl 1 rfl) ?_
              refine xald (f := u_5.1 14) S hK hw 14 0 rfl rfl (xvi rfl (by omega) (by omega)) dX11_settles_80 ?_
              refine xast S hK hw 3 0 rfl rfl (xvi rfl (by omega) (by omega)) (sM_3 _ _ _ _) dX11_settles_81 (fun H locs hw => ?_)
              refine lv_aload_n S.1 S.2.1 dX11_settles_82 rfl (lv_at hl 0 rfl) ?_
              refine xget (v := .ref (a 4)) S hK hw 0 rfl rfl inX11 4 (by decide) mfX11_19 rfl dX11_settles_83 ?_
              refine lv_iload_n S.1 S.2.1 dX11_settles_86 rfl (lv_at hl 1 rfl) ?_
              refine lv_aload_n S.1 S.2.1 dX11_settles_87 rfl (lv_at hl 0 rfl) ?_
              refine xget (v := .ref (a 15)) S hK hw 0 rfl rfl inX11 26 (by decide) mfX11_53 rfl dX11_settles_88 ?_
              refine lv_iload_n S.1 S.2.1 dX11_settles_91 rfl (lv_at hl 1 rfl) ?_
              refine xald (f := u_5.1 15) S hK hw 15 0 rfl rfl (xvi rfl (by omega) (by omega)) dX11_settles_92 ?_
              refine xast S hK hw 4 0 rfl rfl (xvi rfl (by omega) (by omega)) (sM_4 _ _ _ _) dX11_settles_93 (fun H locs hw => ?_)
              refine lv_iinc (v := (x1_5 + (1 : Int32))) (lv' := [(1, .int (x1_5 + (1 : Int32))), (0, .ref (a 0))]) S.1 S.2.1 dX11_settles_94 hl (k := 1) rfl rfl (by decide) rfl (fun ls hl => ?_)
              refine lv_goto (tgt := 40) S.1 S.2.1 dX11_settles_97 (by decide) ?_
              have e_24 : ∀ _ : Unit, ((x1_5 + (1 : Int32))).toInt = (x1_5).toInt + 1 := fun _ => xadd rfl rfl (by omega) (by omega)
              clear hn_3
              exact ih_5 (x1_5 + (1 : Int32)) (sp (sp (sp (sp u_5 1 (upd (u_5.1 1) (x1_5).toNatClampNeg (u_5.1 12 (x1_5).toNatClampNeg))) 2 (upd (u_5.1 2) (x1_5).toNatClampNeg (u_5.1 13 (x1_5).toNatClampNeg))) 3 (upd (u_5.1 3) (x1_5).toNatClampNeg (u_5.1 14 (x1_5).toNatClampNeg))) 4 (upd (u_5.1 4) (x1_5).toNatClampNeg (u_5.1 15 (x1_5).toNatClampNeg))) _ _ _ (show 0 ≤ ((x1_5 + (1 : Int32))).toInt from by rw [(e_24 ())]; omega) (show 8 - ((x1_5 + (1 : Int32))).toInt < (n_5 : Int) ∧ 1 ≤ n_5 from by rw [(e_24 ())]; omega) (lv_sub hl [1, 0] rfl) hw hV
        exact lp_5 9 (0 : Int32) u_3 _ _ _ (show 0 ≤ 0 from by omega) (show 8 - 0 < ((9 : Nat) : Int) ∧ 1 ≤ (9 : Nat) from by omega) (lv_sub hl [1, 0] rfl) hw hV
      · replace hV := hV.trans (if_neg c_4)
        have gc_4 : (x1_3).toInt < 815 := xq_nle c_4 rfl rfl
        refine lv_aload_n S.1 S.2.1 dX11_settles_25 rfl (lv_at hl 0 rfl) ?_
        refine xget (v := .ref (a 7)) S hK hw 0 rfl rfl inX11 8 (by decide) mfX11_28 rfl dX11_settles_26 ?_
        refine lv_iload_n S.1 S.2.1 dX11_settles_29 rfl (lv_at hl 1 rfl) ?_
        refine lv_iconst (v := 0) S.1 S.2.1 dX11_settles_30 (by decide) ?_
        refine xast S hK hw 7 0 rfl rfl (xvi rfl (by omega) (by omega)) (sM_7 _ _ _ _) dX11_settles_31 (fun H locs hw => ?_)
        refine lv_iinc (v := (x1_3 + (1 : Int32))) (lv' := [(1, .int (x1_3 + (1 : Int32))), (0, .ref (a 0))]) S.1 S.2.1 dX11_settles_32 hl (k := 1) rfl rfl (by decide) rfl (fun ls hl => ?_)
        refine lv_goto (tgt := 18) S.1 S.2.1 dX11_settles_35 (by decide) ?_
        have e_26 : ∀ _ : Unit, ((x1_3 + (1 : Int32))).toInt = (x1_3).toInt + 1 := fun _ => xadd rfl rfl (by omega) (by omega)
        exact ih_3 (x1_3 + (1 : Int32)) (sp u_3 7 (upd (u_3.1 7) (x1_3).toNatClampNeg (0 : Int32))) _ _ _ (show 0 ≤ ((x1_3 + (1 : Int32))).toInt from by rw [(e_26 ())]; omega) (show 815 - ((x1_3 + (1 : Int32))).toInt < (n_3 : Int) ∧ 1 ≤ n_3 from by rw [(e_26 ())]; omega) (lv_sub hl [1, 0] rfl) hw hV
  exact lp_3 816 (0 : Int32) (sp (sp u 0 (upd (u.1 0) 0 (u.1 0 22))) 0 (upd ((upd (u.1 0) 0 (u.1 0 22))) 5 (u.1 0 27))) _ _ _ (show 0 ≤ 0 from by omega) (show 815 - 0 < ((816 : Nat) : Int) ∧ 1 ≤ (816 : Nat) from by omega) (lv_sub hl [1, 0] rfl) hw hV
noncomputable def m_keep_L13 (x1 : Int32) : Nat → Int32 → xU → Int32 × xU
  | 0, _, w => (0, w)
  | n + 1, x2, w =>
    (if (815 : Int32) ≤ x2 then
    let w_4 := sp w 9 (upd (w.1 9) (x1).toNatClampNeg (1 : Int32))
    ((w.1 7 0), w_4)
    else
    let w_7 := sp w 8 (upd (w.1 8) ((((815 : Int32) * x1) + x2)).toNatClampNeg (w.1 7 (x2).toNatClampNeg))
    m_keep_L13 x1 n (x2 + (1 : Int32)) w_7)
noncomputable def m_keep_b (u : xU) (p1 : Int32) : Int32 × xU :=
    (if (b2i (m_in p1 (0 : Int32) (1 : Int32))) = (0 : Int32) then
    ((-1 : Int32), u)
    else
    m_keep_L13 p1 816 (0 : Int32) u)
theorem m_keep_x : ∃ f : xU → Int32 → Int32 × xU, f = m_keep_b := ⟨_, rfl⟩
noncomputable def m_keep : xU → Int32 → Int32 × xU := m_keep_x.choose
theorem m_keep_def : m_keep = m_keep_b := m_keep_x.choose_spec
set_option maxHeartbeats 4000000 in
set_option maxRecDepth 100000 in
theorem c_m_keep (l : Launch) (D : va_G) (a : Nat → Nat) (Y : Nat → ClassId) (ts : Nat → Nat) (u : xU) (p1 : Int32) : xMi l yX11_keep cX11_keep 3 (some .int) (xRm 1 22) D (xty Y) (wM a Y) ts [.ref (a 0), .int p1] u ((m_keep u p1).1, (m_keep u p1).2) := by
  suffices h : ∀ V, V = m_keep_b u p1 → xMi l yX11_keep cX11_keep 3 (some .int) (xRm 1 22) D (xty Y) (wM a Y) ts [.ref (a 0), .int p1] u (V.1, V.2) from h _ (by rw [m_keep_def])
  intro V hV
  refine xofi RX11 rfl (by decide) (Nat.le_of_ble_eq_true rfl) ?_
  intro p e s m args below meth c ls H locs A S hr hlk hl hK hE hA hw
  have hl : lv_has ls 3 [(0, .ref (a 0)), (1, .int p1)] := hl
  refine lv_iload_n S.1 S.2.1 dX11_keep_0 rfl (lv_at hl 1 rfl) ?_
  refine lv_iconst (v := 0) S.1 S.2.1 dX11_keep_1 (by decide) ?_
  refine lv_iconst (v := 1) S.1 S.2.1 dX11_keep_2 (by decide) ?_
  refine xcP (rest := []) S hw yfX11_in (c_m_in l p1 (0 : Int32) (1 : Int32)) mlX11_72 rfl rfl hl.1 ⟨rfl, rfl, Nat.le_of_ble_eq_true rfl, Nat.le_of_ble_eq_true rfl, Nat.le_of_ble_eq_true rfl, Nat.zero_le _, Nat.zero_le _⟩ dX11_keep_3 (fun H locs hw => ?_)
  refine lv_if_ne (tgt := 11) S.1 S.2.1 dX11_keep_6 (by decide) (fun c_1 => ?_) (fun c_1 => ?_)
  · replace hV := hV.trans (if_neg c_1)
    have gc_1 : ¬ ((b2i (m_in p1 (0 : Int32) (1 : Int32)))).toInt = 0 := xq_ne c_1 rfl rfl
    have fc_1 : 0 ≤ (p1).toInt ∧ (p1).toInt ≤ 1 := hk_in' c_1 rfl rfl rfl
    refine lv_iconst (v := 0) S.1 S.2.1 dX11_keep_11 (by decide) ?_
    refine lv_istore_n (lv' := [(2, .int (0 : Int32)), (0, .ref (a 0)), (1, .int p1)]) S.1 S.2.1 dX11_keep_12 rfl hl (by decide) rfl (fun ls hl => ?_)
    have lp_2 : ∀ (n_2 : Nat) (x2_2 : Int32) (u_2 : xU) (H : Heap) (locs : List Loc) (ls : Array Slot), (0 ≤ (x2_2).toInt) → (815 - (x2_2).toInt < (n_2 : Int) ∧ 1 ≤ n_2) → lv_has ls 3 [(0, .ref (a 0)), (1, .int p1), (2, .int x2_2)] → xw D (wM a Y) A s.heap H locs u_2 → V = m_keep_L13 p1 n_2 x2_2 u_2 → W p l e (xRm 1 22) s m args below meth c H locs 0 0 (MQ below (va_Qi (fun r v => (r, v) = V) (xPost D (wM a Y) A) A) args s 0 0 A) (F0 m 13 ls []) := by
      intro n_2
      induction n_2 with
      | zero => intro x2_2 u_2 H locs ls i0_2 hn; exact absurd hn.2 (by decide)
      | succ n_2 ih_2 =>
        intro x2_2 u_2 H locs ls i0_2 hn_2 hl hw hV
        refine lv_iload_n S.1 S.2.1 dX11_keep_13 rfl (lv_at hl 2 rfl) ?_
        refine lv_sipush (v := 815) S.1 S.2.1 dX11_keep_14 (by decide) ?_
        refine lv_icmp_ge (tgt := 44) S.1 S.2.1 dX11_keep_17 (by decide) (fun c_3 => ?_) (fun c_3 => ?_)
        · replace hV := hV.trans (if_pos c_3)
          have gc_3 : 815 ≤ (x2_2).toInt := xq_le c_3 rfl rfl
          refine lv_aload_n S.1 S.2.1 dX11_keep_44 rfl (lv_at hl 0 rfl) ?_
          refine xget (v := .ref (a 9)) S hK hw 0 rfl rfl inX11 10 (by decide) mfX11_34 rfl dX11_keep_45 ?_
          refine lv_iload_n S.1 S.2.1 dX11_keep_48 rfl (lv_at hl 1 rfl) ?_
          refine lv_iconst (v := 1) S.1 S.2.1 dX11_keep_49 (by decide) ?_
          refine xastz S hK hw 9 1 rfl rfl rfl (xvi rfl (by omega) (by omega)) (sM_9 _ _ _ _) dX11_keep_50 (fun H locs hw => ?_)
          refine lv_aload_n S.1 S.2.1 dX11_keep_51 rfl (lv_at hl 0 rfl) ?_
          refine xget (v := .ref (a 7)) S hK hw 0 rfl rfl inX11 8 (by decide) mfX11_28 rfl dX11_keep_52 ?_
          refine lv_iconst (v := 0) S.1 S.2.1 dX11_keep_55 (by decide) ?_
          refine xaldc (f := u_2.1 7) (x := (u_2.1 7 0)) (k := 0) S hK hw 7 0 rfl rfl (by decide) rfl (xvi (a := 0) rfl (by decide) (by decide)) dX11_keep_56 ?_
          exact xri S hr hlk hw hV dX11_keep_57
        · replace hV := hV.trans (if_neg c_3)
          have gc_3 : (x2_2).toInt < 815 := xq_nle c_3 rfl rfl
          refine lv_aload_n S.1 S.2.1 dX11_keep_20 rfl (lv_at hl 0 rfl) ?_
          refine xget (v := .ref (a 8)) S hK hw 0 rfl rfl inX11 9 (by decide) mfX11_31 rfl dX11_keep_21 ?_
          refine lv_sipush (v := 815) S.1 S.2.1 dX11_keep_24 (by decide) ?_
          refine lv_iload_n S.1 S.2.1 dX11_keep_27 rfl (lv_at hl 1 rfl) ?_
          refine lv_imul S.1 S.2.1 dX11_keep_28 ?_
          refine lv_iload_n S.1 S.2.1 dX11_keep_29 rfl (lv_at hl 2 rfl) ?_
          refine lv_iadd S.1 S.2.1 dX11_keep_30 ?_
          refine lv_aload_n S.1 S.2.1 dX11_keep_31 rfl (lv_at hl 0 rfl) ?_
          refine xget (v := .ref (a 7)) S hK hw 0 rfl rfl inX11 8 (by decide) mfX11_28 rfl dX11_keep_32 ?_
          refine lv_iload_n S.1 S.2.1 dX11_keep_35 rfl (lv_at hl 2 rfl) ?_
          refine xald (f := u_2.1 7) S hK hw 7 0 rfl rfl (xvi rfl (by omega) (by omega)) dX11_keep_36 ?_
          have e_5 : ∀ _ : Unit, (((815 : Int32) * p1)).toInt = 815 * (p1).toInt := fun _ => xmul rfl rfl (by omega) (by omega)
          have e_6 : ∀ _ : Unit, ((((815 : Int32) * p1) + x2_2)).toInt = (815 * (p1).toInt) + (x2_2).toInt := fun _ => xadd (e_5 ()) rfl (by omega) (by omega)
          refine xast S hK hw 8 0 rfl rfl (xvi (e_6 ()) (by omega) (by omega)) (sM_8 _ _ _ _) dX11_keep_37 (fun H locs hw => ?_)
          refine lv_iinc (v := (x2_2 + (1 : Int32))) (lv' := [(2, .int (x2_2 + (1 : Int32))), (0, .ref (a 0)), (1, .int p1)]) S.1 S.2.1 dX11_keep_38 hl (k := 2) rfl rfl (by decide) rfl (fun ls hl => ?_)
          refine lv_goto (tgt := 13) S.1 S.2.1 dX11_keep_41 (by decide) ?_
          have e_8 : ∀ _ : Unit, ((x2_2 + (1 : Int32))).toInt = (x2_2).toInt + 1 := fun _ => xadd rfl rfl (by omega) (by omega)
          exact ih_2 (x2_2 + (1 : Int32)) (sp u_2 8 (upd (u_2.1 8) ((((815 : Int32) * p1) + x2_2)).toNatClampNeg (u_2.1 7 (x2_2).toNatClampNeg))) _ _ _ (show 0 ≤ ((x2_2 + (1 : Int32))).toInt from by rw [(e_8 ())]; omega) (show 815 - ((x2_2 + (1 : Int32))).toInt < (n_2 : Int) ∧ 1 ≤ n_2 from by rw [(e_8 ())]; omega) (lv_sub hl [1, 2, 0] rfl) hw hV
    exact lp_2 816 (0 : Int32) u _ _ _ (show 0 ≤ 0 from by omega) (show 815 - 0 < ((816 : Nat) : Int) ∧ 1 ≤ (816 : Nat) from by omega) (lv_sub hl [1, 2, 0] rfl) hw hV
  · replace hV := hV.trans (if_pos c_1)
    have gc_1 : ((b2i (m_in p1 (0 : Int32) (1 : Int32)))).toInt = 0 := xq_eq c_1 rfl rfl
    refine lv_iconst (v := -1) S.1 S.2.1 dX11_keep_9 (by decide) ?_
    exact xri S hr hlk hw hV dX11_keep_10
noncomputable def m_back_L25 (x1 : Int32) : Nat → Int32 → xU → Int32 × xU
  | 0, _, w => (0, w)
  | n + 1, x2, w =>
    (if (815 : Int32) ≤ x2 then
    ((w.1 7 0), w)
    else
    let w_7 := sp w 7 (upd (w.1 7) (x2).toNatClampNeg (w.1 8 ((((815 : Int32) * x1) + x2)).toNatClampNeg))
    m_back_L25 x1 n (x2 + (1 : Int32)) w_7)
noncomputable def m_back_b (u : xU) (p1 : Int32) : Int32 × xU :=
    (if (b2i (m_in p1 (0 : Int32) (1 : Int32))) = (0 : Int32) then
    ((-1 : Int32), u)
    else
    (if (u.1 9 (p1).toNatClampNeg) = (0 : Int32) then
    ((-2 : Int32), u)
    else
    m_back_L25 p1 816 (0 : Int32) u))
theorem m_back_x : ∃ f : xU → Int32 → Int32 × xU, f = m_back_b := ⟨_, rfl⟩
noncomputable def m_back : xU → Int32 → Int32 × xU := m_back_x.choose
theorem m_back_def : m_back = m_back_b := m_back_x.choose_spec
set_option maxHeartbeats 4000000 in
set_option maxRecDepth 100000 in
theorem c_m_back (l : Launch) (D : va_G) (a : Nat → Nat) (Y : Nat → ClassId) (ts : Nat → Nat) (u : xU) (p1 : Int32) : xMi l yX11_back cX11_back 3 (some .int) (xRm 1 22) D (xty Y) (wM a Y) ts [.ref (a 0), .int p1] u ((m_back u p1).1, (m_back u p1).2) := by
  suffices h : ∀ V, V = m_back_b u p1 → xMi l yX11_back cX11_back 3 (some .int) (xRm 1 22) D (xty Y) (wM a Y) ts [.ref (a 0), .int p1] u (V.1, V.2) from h _ (by rw [m_back_def])
  intro V hV
  refine xofi RX11 rfl (by decide) (Nat.le_of_ble_eq_true rfl) ?_
  intro p e s m args below meth c ls H locs A S hr hlk hl hK hE hA hw
  have hl : lv_has ls 3 [(0, .ref (a 0)), (1, .int p1)] := hl
  refine lv_iload_n S.1 S.2.1 dX11_back_0 rfl (lv_at hl 1 rfl) ?_
  refine lv_iconst (v := 0) S.1 S.2.1 dX11_back_1 (by decide) ?_
  refine lv_iconst (v := 1) S.1 S.2.1 dX11_back_2 (by decide) ?_
  refine xcP (rest := []) S hw yfX11_in (c_m_in l p1 (0 : Int32) (1 : Int32)) mlX11_72 rfl rfl hl.1 ⟨rfl, rfl, Nat.le_of_ble_eq_true rfl, Nat.le_of_ble_eq_true rfl, Nat.le_of_ble_eq_true rfl, Nat.zero_le _, Nat.zero_le _⟩ dX11_back_3 (fun H locs hw => ?_)
  refine lv_if_ne (tgt := 11) S.1 S.2.1 dX11_back_6 (by decide) (fun c_1 => ?_) (fun c_1 => ?_)
  · replace hV := hV.trans (if_neg c_1)
    have gc_1 : ¬ ((b2i (m_in p1 (0 : Int32) (1 : Int32)))).toInt = 0 := xq_ne c_1 rfl rfl
    have fc_1 : 0 ≤ (p1).toInt ∧ (p1).toInt ≤ 1 := hk_in' c_1 rfl rfl rfl
    refine lv_aload_n S.1 S.2.1 dX11_back_11 rfl (lv_at hl 0 rfl) ?_
    refine xget (v := .ref (a 9)) S hK hw 0 rfl rfl inX11 10 (by decide) mfX11_34 rfl dX11_back_12 ?_
    refine lv_iload_n S.1 S.2.1 dX11_back_15 rfl (lv_at hl 1 rfl) ?_
    refine xaldz (f := u.1 9) S hK hw 9 1 rfl rfl (xvi rfl (by omega) (by omega)) dX11_back_16 ?_
    refine lv_if_ne (tgt := 23) S.1 S.2.1 dX11_back_17 (by decide) (fun c_2 => ?_) (fun c_2 => ?_)
    · replace hV := hV.trans (if_neg c_2)
      have gc_2 : ¬ ((u.1 9 (p1).toNatClampNeg)).toInt = 0 := xq_ne c_2 rfl rfl
      refine lv_iconst (v := 0) S.1 S.2.1 dX11_back_23 (by decide) ?_
      refine lv_istore_n (lv' := [(2, .int (0 : Int32)), (0, .ref (a 0)), (1, .int p1)]) S.1 S.2.1 dX11_back_24 rfl hl (by decide) rfl (fun ls hl => ?_)
      have lp_3 : ∀ (n_3 : Nat) (x2_3 : Int32) (u_3 : xU) (H : Heap) (locs : List Loc) (ls : Array Slot), (0 ≤ (x2_3).toInt) → (815 - (x2_3).toInt < (n_3 : Int) ∧ 1 ≤ n_3) → lv_has ls 3 [(0, .ref (a 0)), (1, .int p1), (2, .int x2_3)] → xw D (wM a Y) A s.heap H locs u_3 → V = m_back_L25 p1 n_3 x2_3 u_3 → W p l e (xRm 1 22) s m args below meth c H locs 0 0 (MQ below (va_Qi (fun r v => (r, v) = V) (xPost D (wM a Y) A) A) args s 0 0 A) (F0 m 25 ls []) := by
        intro n_3
        induction n_3 with
        | zero => intro x2_3 u_3 H locs ls i0_3 hn; exact absurd hn.2 (by decide)
        | succ n_3 ih_3 =>
          intro x2_3 u_3 H locs ls i0_3 hn_3 hl hw hV
          refine lv_iload_n S.1 S.2.1 dX11_back_25 rfl (lv_at hl 2 rfl) ?_
          refine lv_sipush (v := 815) S.1 S.2.1 dX11_back_26 (by decide) ?_
          refine lv_icmp_ge (tgt := 56) S.1 S.2.1 dX11_back_29 (by decide) (fun c_4 => ?_) (fun c_4 => ?_)
          · replace hV := hV.trans (if_pos c_4)
            have gc_4 : 815 ≤ (x2_3).toInt := xq_le c_4 rfl rfl
            refine lv_aload_n S.1 S.2.1 dX11_back_56 rfl (lv_at hl 0 rfl) ?_
            refine xget (v := .ref (a 7)) S hK hw 0 rfl rfl inX11 8 (by decide) mfX11_28 rfl dX11_back_57 ?_
            refine lv_iconst (v := 0) S.1 S.2.1 dX11_back_60 (by decide) ?_
            refine xaldc (f := u_3.1 7) (x := (u_3.1 7 0)) (k := 0) S hK hw 7 0 rfl rfl (by decide) rfl (xvi (a := 0) rfl (by decide) (by decide)) dX11_back_61 ?_
            exact xri S hr hlk hw hV dX11_back_62
          · replace hV := hV.trans (if_neg c_4)
            have gc_4 : (x2_3).toInt < 815 := xq_nle c_4 rfl rfl
            refine lv_aload_n S.1 S.2.1 dX11_back_32 rfl (lv_at hl 0 rfl) ?_
            refine xget (v := .ref (a 7)) S hK hw 0 rfl rfl inX11 8 (by decide) mfX11_28 rfl dX11_back_33 ?_
            refine lv_iload_n S.1 S.2.1 dX11_back_36 rfl (lv_at hl 2 rfl) ?_
            refine lv_aload_n S.1 S.2.1 dX11_back_37 rfl (lv_at hl 0 rfl) ?_
            refine xget (v := .ref (a 8)) S hK hw 0 rfl rfl inX11 9 (by decide) mfX11_31 rfl dX11_back_38 ?_
            refine lv_sipush (v := 815) S.1 S.2.1 dX11_back_41 (by decide) ?_
            refine lv_iload_n S.1 S.2.1 dX11_back_44 rfl (lv_at hl 1 rfl) ?_
            refine lv_imul S.1 S.2.1 dX11_back_45 ?_
            refine lv_iload_n S.1 S.2.1 dX11_back_46 rfl (lv_at hl 2 rfl) ?_
            refine lv_iadd S.1 S.2.1 dX11_back_47 ?_
            have e_5 : ∀ _ : Unit, (((815 : Int32) * p1)).toInt = 815 * (p1).toInt := fun _ => xmul rfl rfl (by omega) (by omega)
            have e_6 : ∀ _ : Unit, ((((815 : Int32) * p1) + x2_3)).toInt = (815 * (p1).toInt) + (x2_3).toInt := fun _ => xadd (e_5 ()) rfl (by omega) (by omega)
            refine xald (f := u_3.1 8) S hK hw 8 0 rfl rfl (xvi (e_6 ()) (by omega) (by omega)) dX11_back_48 ?_
            refine xast S hK hw 7 0 rfl rfl (xvi rfl (by omega) (by omega)) (sM_7 _ _ _ _) dX11_back_49 (fun H locs hw => ?_)
            refine lv_iinc (v := (x2_3 + (1 : Int32))) (lv' := [(2, .int (x2_3 + (1 : Int32))), (0, .ref (a 0)), (1, .int p1)]) S.1 S.2.1 dX11_back_50 hl (k := 2) rfl rfl (by decide) rfl (fun ls hl => ?_)
            refine lv_goto (tgt := 25) S.1 S.2.1 dX11_back_53 (by decide) ?_
            have e_8 : ∀ _ : Unit, ((x2_3 + (1 : Int32))).toInt = (x2_3).toInt + 1 := fun _ => xadd rfl rfl (by omega) (by omega)
            exact ih_3 (x2_3 + (1 : Int32)) (sp u_3 7 (upd (u_3.1 7) (x2_3).toNatClampNeg (u_3.1 8 ((((815 : Int32) * p1) + x2_3)).toNatClampNeg))) _ _ _ (show 0 ≤ ((x2_3 + (1 : Int32))).toInt from by rw [(e_8 ())]; omega) (show 815 - ((x2_3 + (1 : Int32))).toInt < (n_3 : Int) ∧ 1 ≤ n_3 from by rw [(e_8 ())]; omega) (lv_sub hl [1, 2, 0] rfl) hw hV
      exact lp_3 816 (0 : Int32) u _ _ _ (show 0 ≤ 0 from by omega) (show 815 - 0 < ((816 : Nat) : Int) ∧ 1 ≤ (816 : Nat) from by omega) (lv_sub hl [1, 2, 0] rfl) hw hV
    · replace hV := hV.trans (if_pos c_2)
      have gc_2 : ((u.1 9 (p1).toNatClampNeg)).toInt = 0 := xq_eq c_2 rfl rfl
      refine lv_bipush (v := -2) S.1 S.2.1 dX11_back_20 (by decide) ?_
      exact xri S hr hlk hw hV dX11_back_22
  · replace hV := hV.trans (if_pos c_1)
    have gc_1 : ((b2i (m_in p1 (0 : Int32) (1 : Int32)))).toInt = 0 := xq_eq c_1 rfl rfl
    refine lv_iconst (v := -1) S.1 S.2.1 dX11_back_9 (by decide) ?_
    exact xri S hr hlk hw hV dX11_back_10
noncomputable def m_type_b (u : xU) (p1 : Int32) : Int32 × xU :=
    (if (b2i (m_in p1 (0 : Int32) (255 : Int32))) = (0 : Int32) then
    ((-1 : Int32), u)
    else
    (if (u.1 0 15) = (150 : Int32) then
    ((-3 : Int32), u)
    else
    let w_3 := sp u 11 (upd (u.1 11) ((u.1 0 15)).toNatClampNeg p1)
    let w_4 := sp w_3 0 (upd (u.1 0) 15 ((u.1 0 15) + (1 : Int32)))
    ((w_4.1 0 15), w_4)))
theorem m_type_x : ∃ f : xU → Int32 → Int32 × xU, f = m_type_b := ⟨_, rfl⟩
noncomputable def m_type : xU → Int32 → Int32 × xU := m_type_x.choose
theorem m_type_def : m_type = m_type_b := m_type_x.choose_spec
set_option maxHeartbeats 4000000 in
set_option maxRecDepth 100000 in
theorem c_m_type (l : Launch) (D : va_G) (a : Nat → Nat) (Y : Nat → ClassId) (ts : Nat → Nat) (u : xU) (p1 : Int32) (hL : (0 ≤ ((u.1 0 15)).toInt ∧ ((u.1 0 15)).toInt ≤ 150)) : xMi l yX11_type cX11_type 2 (some .int) (xRm 1 22) D (xty Y) (wM a Y) ts [.ref (a 0), .int p1] u ((m_type u p1).1, (m_type u p1).2) := by
  suffices h : ∀ V, V = m_type_b u p1 → xMi l yX11_type cX11_type 2 (some .int) (xRm 1 22) D (xty Y) (wM a Y) ts [.ref (a 0), .int p1] u (V.1, V.2) from h _ (by rw [m_type_def])
  intro V hV
  refine xofi RX11 rfl (by decide) (Nat.le_of_ble_eq_true rfl) ?_
  intro p e s m args below meth c ls H locs A S hr hlk hl hK hE hA hw
  have hl : lv_has ls 2 [(0, .ref (a 0)), (1, .int p1)] := hl
  refine lv_iload_n S.1 S.2.1 dX11_type_0 rfl (lv_at hl 1 rfl) ?_
  refine lv_iconst (v := 0) S.1 S.2.1 dX11_type_1 (by decide) ?_
  refine lv_sipush (v := 255) S.1 S.2.1 dX11_type_2 (by decide) ?_
  refine xcP (rest := []) S hw yfX11_in (c_m_in l p1 (0 : Int32) (255 : Int32)) mlX11_72 rfl rfl hl.1 ⟨rfl, rfl, Nat.le_of_ble_eq_true rfl, Nat.le_of_ble_eq_true rfl, Nat.le_of_ble_eq_true rfl, Nat.zero_le _, Nat.zero_le _⟩ dX11_type_5 (fun H locs hw => ?_)
  refine lv_if_ne (tgt := 13) S.1 S.2.1 dX11_type_8 (by decide) (fun c_1 => ?_) (fun c_1 => ?_)
  · replace hV := hV.trans (if_neg c_1)
    have gc_1 : ¬ ((b2i (m_in p1 (0 : Int32) (255 : Int32)))).toInt = 0 := xq_ne c_1 rfl rfl
    have fc_1 : 0 ≤ (p1).toInt ∧ (p1).toInt ≤ 255 := hk_in' c_1 rfl rfl rfl
    refine lv_aload_n S.1 S.2.1 dX11_type_13 rfl (lv_at hl 0 rfl) ?_
    refine xget (v := .int (u.1 0 15)) S hK hw 0 rfl rfl inX11 15 (by decide) mfX11_79 rfl dX11_type_14 ?_
    refine lv_sipush (v := 150) S.1 S.2.1 dX11_type_17 (by decide) ?_
    refine lv_icmp_ne (tgt := 26) S.1 S.2.1 dX11_type_20 (by decide) (fun c_2 => ?_) (fun c_2 => ?_)
    · replace hV := hV.trans (if_neg c_2)
      have gc_2 : ¬ ((u.1 0 15)).toInt = 150 := xq_ne c_2 rfl rfl
      refine lv_aload_n S.1 S.2.1 dX11_type_26 rfl (lv_at hl 0 rfl) ?_
      refine xget (v := .ref (a 11)) S hK hw 0 rfl rfl inX11 14 (by decide) mfX11_41 rfl dX11_type_27 ?_
      refine lv_aload_n S.1 S.2.1 dX11_type_30 rfl (lv_at hl 0 rfl) ?_
      refine xget (v := .int (u.1 0 15)) S hK hw 0 rfl rfl inX11 15 (by decide) mfX11_79 rfl dX11_type_31 ?_
      refine lv_iload_n S.1 S.2.1 dX11_type_34 rfl (lv_at hl 1 rfl) ?_
      refine xast S hK hw 11 0 rfl rfl (xvi rfl (by omega) (by omega)) (sM_11 _ _ _ _) dX11_type_35 (fun H locs hw => ?_)
      refine lv_aload_n S.1 S.2.1 dX11_type_36 rfl (lv_at hl 0 rfl) ?_
      refine lv_dup S.1 S.2.1 dX11_type_37 rfl ?_
      refine xget (v := .int (u.1 0 15)) S hK hw 0 rfl rfl inX11 15 (by decide) mfX11_79 rfl dX11_type_38 ?_
      refine lv_iconst (v := 1) S.1 S.2.1 dX11_type_41 (by decide) ?_
      refine lv_iadd S.1 S.2.1 dX11_type_42 ?_
      refine xputi (ty := .int) S hK hw 0 rfl rfl inX11 tyX11 tyX11_ok nmX11 15 (by decide) mfX11_79 rfl (by decide +kernel) rfl rfl (Nat.le_of_ble_eq_true rfl) (oM_0_15 _ _ _ _) dX11_type_43 (fun H locs hw => ?_)
      refine lv_aload_n S.1 S.2.1 dX11_type_46 rfl (lv_at hl 0 rfl) ?_
      refine xget (v := .int ((u.1 0 15) + (1 : Int32))) S hK hw 0 rfl rfl inX11 15 (by decide) mfX11_79 rfl dX11_type_47 ?_
      exact xri S hr hlk hw hV dX11_type_50
    · replace hV := hV.trans (if_pos c_2)
      have gc_2 : ((u.1 0 15)).toInt = 150 := xq_eq c_2 rfl rfl
      refine lv_bipush (v := -3) S.1 S.2.1 dX11_type_23 (by decide) ?_
      exact xri S hr hlk hw hV dX11_type_25
  · replace hV := hV.trans (if_pos c_1)
    have gc_1 : ((b2i (m_in p1 (0 : Int32) (255 : Int32)))).toInt = 0 := xq_eq c_1 rfl rfl
    refine lv_iconst (v := -1) S.1 S.2.1 dX11_type_11 (by decide) ?_
    exact xri S hr hlk hw hV dX11_type_12
noncomputable def m_clear_b (u : xU) : Int32 × xU :=
    let w_1 := sp u 0 (upd (u.1 0) 15 (0 : Int32))
    ((u.1 0 15), w_1)
theorem m_clear_x : ∃ f : xU → Int32 × xU, f = m_clear_b := ⟨_, rfl⟩
noncomputable def m_clear : xU → Int32 × xU := m_clear_x.choose
theorem m_clear_def : m_clear = m_clear_b := m_clear_x.choose_spec
set_option maxHeartbeats 4000000 in
set_option maxRecDepth 100000 in
theorem c_m_clear (l : Launch) (D : va_G) (a : Nat → Nat) (Y : Nat → ClassId) (ts : Nat → Nat) (u : xU) : xMi l yX11_clear cX11_clear 2 (some .int) (xRm 0 0) D (xty Y) (wM a Y) ts [.ref (a 0)] u ((m_clear u).1, (m_clear u).2) := by
  suffices h : ∀ V, V = m_clear_b u → xMi l yX11_clear cX11_clear 2 (some .int) (xRm 0 0) D (xty Y) (wM a Y) ts [.ref (a 0)] u (V.1, V.2) from h _ (by rw [m_clear_def])
  intro V hV
  refine xofi RX11 rfl (by decide) (Nat.le_of_ble_eq_true rfl) ?_
  intro p e s m args below meth c ls H locs A S hr hlk hl hK hE hA hw
  have hl : lv_has ls 2 [(0, .ref (a 0))] := hl
  refine lv_aload_n S.1 S.2.1 dX11_clear_0 rfl (lv_at hl 0 rfl) ?_
  refine xget (v := .int (u.1 0 15)) S hK hw 0 rfl rfl inX11 15 (by decide) mfX11_79 rfl dX11_clear_1 ?_
  refine lv_istore_n (lv' := [(1, .int (u.1 0 15)), (0, .ref (a 0))]) S.1 S.2.1 dX11_clear_4 rfl hl (by decide) rfl (fun ls hl => ?_)
  refine lv_aload_n S.1 S.2.1 dX11_clear_5 rfl (lv_at hl 1 rfl) ?_
  refine lv_iconst (v := 0) S.1 S.2.1 dX11_clear_6 (by decide) ?_
  refine xputi (ty := .int) S hK hw 0 rfl rfl inX11 tyX11 tyX11_ok nmX11 15 (by decide) mfX11_79 rfl (by decide +kernel) rfl rfl (Nat.le_of_ble_eq_true rfl) (oM_0_15 _ _ _ _) dX11_clear_7 (fun H locs hw => ?_)
  refine lv_iload_n S.1 S.2.1 dX11_clear_10 rfl (lv_at hl 0 rfl) ?_
  exact xri S hr hlk hw hV dX11_clear_11
noncomputable def m_hears_b (u : xU) (p1 : Int32) (p2 : Int32) : Int32 × xU :=
    (if (b2i (m_isThing u p1)) = (0 : Int32) then
    ((-1 : Int32), u)
    else
    (if (b2i (m_in p2 (0 : Int32) (1 : Int32))) = (0 : Int32) then
    ((-1 : Int32), u)
    else
    (if (u.1 0 11) = (6 : Int32) then
    ((-3 : Int32), u)
    else
    let w_5 := sp u 10 (upd (u.1 10) (((2 : Int32) * (u.1 0 11))).toNatClampNeg p1)
    let w_7 := sp w_5 10 (upd (w_5.1 10) ((((2 : Int32) * (u.1 0 11)) + (1 : Int32))).toNatClampNeg p2)
    let w_8 := sp w_7 0 (upd (u.1 0) 11 ((u.1 0 11) + (1 : Int32)))
    ((w_8.1 0 11), w_8))))
theorem m_hears_x : ∃ f : xU → Int32 → Int32 → Int32 × xU, f = m_hears_b := ⟨_, rfl⟩
noncomputable def m_hears : xU → Int32 → Int32 → Int32 × xU := m_hears_x.choose
theorem m_hears_def : m_hears = m_hears_b := m_hears_x.choose_spec
set_option maxHeartbeats 4000000 in
set_option maxRecDepth 100000 in
theorem c_m_hears (l : Launch) (D : va_G) (a : Nat → Nat) (Y : Nat → ClassId) (ts : Nat → Nat) (u : xU) (p1 : Int32) (p2 : Int32) (hT : (0 ≤ ((u.1 0 0)).toInt ∧ ((u.1 0 0)).toInt ≤ 8)) (hC : (0 ≤ ((u.1 0 5)).toInt ∧ ((u.1 0 5)).toInt ≤ 6)) (hH : (0 ≤ ((u.1 0 11)).toInt ∧ ((u.1 0 11)).toInt ≤ 6)) : xMi l yX11_hears cX11_hears 3 (some .int) (xRm 2 43) D (xty Y) (wM a Y) ts [.ref (a 0), .int p1, .int p2] u ((m_hears u p1 p2).1, (m_hears u p1 p2).2) := by
  suffices h : ∀ V, V = m_hears_b u p1 p2 → xMi l yX11_hears cX11_hears 3 (some .int) (xRm 2 43) D (xty Y) (wM a Y) ts [.ref (a 0), .int p1, .int p2] u (V.1, V.2) from h _ (by rw [m_hears_def])
  intro V hV
  refine xofi RX11 rfl (by decide) (Nat.le_of_ble_eq_true rfl) ?_
  intro p e s m args below meth c ls H locs A S hr hlk hl hK hE hA hw
  have hl : lv_has ls 3 [(0, .ref (a 0)), (1, .int p1), (2, .int p2)] := hl
  refine lv_aload_n S.1 S.2.1 dX11_hears_0 rfl (lv_at hl 0 rfl) ?_
  refine lv_iload_n S.1 S.2.1 dX11_hears_1 rfl (lv_at hl 1 rfl) ?_
  refine xci (rest := []) S hK hE hA hw yfX11_isThing (c_m_isThing l D a Y ts _ p1 (show (0 ≤ ((u.1 0 0)).toInt ∧ ((u.1 0 0)).toInt ≤ 8) from by omega) (show (0 ≤ ((u.1 0 5)).toInt ∧ ((u.1 0 5)).toInt ≤ 6) from by omega)) 0 rfl rfl mlX11_156 rfl rfl hl.1 ⟨rfl, rfl, Nat.le_of_ble_eq_true rfl, Nat.le_of_ble_eq_true rfl, Nat.le_of_ble_eq_true rfl, Nat.zero_le _, Nat.zero_le _⟩ dX11_hears_2 (fun H locs hw => ?_)
  refine lv_if_eq (tgt := 17) S.1 S.2.1 dX11_hears_5 (by decide) (fun c_1 => ?_) (fun c_1 => ?_)
  · replace hV := hV.trans (if_pos c_1)
    have gc_1 : ((b2i (m_isThing u p1))).toInt = 0 := xq_eq c_1 rfl rfl
    refine lv_iconst (v := -1) S.1 S.2.1 dX11_hears_17 (by decide) ?_
    exact xri S hr hlk hw hV dX11_hears_18
  · replace hV := hV.trans (if_neg c_1)
    have gc_1 : ¬ ((b2i (m_isThing u p1))).toInt = 0 := xq_ne c_1 rfl rfl
    have fc_1 := hk_mThing hT c_1
    refine lv_iload_n S.1 S.2.1 dX11_hears_8 rfl (lv_at hl 2 rfl) ?_
    refine lv_iconst (v := 0) S.1 S.2.1 dX11_hears_9 (by decide) ?_
    refine lv_iconst (v := 1) S.1 S.2.1 dX11_hears_10 (by decide) ?_
    refine xcP (rest := []) S hw yfX11_in (c_m_in l p2 (0 : Int32) (1 : Int32)) mlX11_72 rfl rfl hl.1 ⟨rfl, rfl, Nat.le_of_ble_eq_true rfl, Nat.le_of_ble_eq_true rfl, Nat.le_of_ble_eq_true rfl, Nat.zero_le _, Nat.zero_le _⟩ dX11_hears_11 (fun H locs hw => ?_)
    refine lv_if_ne (tgt := 19) S.1 S.2.1 dX11_hears_14 (by decide) (fun c_2 => ?_) (fun c_2 => ?_)
    · replace hV := hV.trans (if_neg c_2)
      have gc_2 : ¬ ((b2i (m_in p2 (0 : Int32) (1 : Int32)))).toInt = 0 := xq_ne c_2 rfl rfl
      have fc_2 : 0 ≤ (p2).toInt ∧ (p2).toInt ≤ 1 := hk_in' c_2 rfl rfl rfl
      refine lv_aload_n S.1 S.2.1 dX11_hears_19 rfl (lv_at hl 0 rfl) ?_
      refine xget (v := .int (u.1 0 11)) S hK hw 0 rfl rfl inX11 11 (by decide) mfX11_137 rfl dX11_hears_20 ?_
      refine lv_bipush (v := 6) S.1 S.2.1 dX11_hears_23 (by decide) ?_
      refine lv_icmp_ne (tgt := 31) S.1 S.2.1 dX11_hears_25 (by decide) (fun c_3 => ?_) (fun c_3 => ?_)
      · replace hV := hV.trans (if_neg c_3)
        have gc_3 : ¬ ((u.1 0 11)).toInt = 6 := xq_ne c_3 rfl rfl
        refine lv_aload_n S.1 S.2.1 dX11_hears_31 rfl (lv_at hl 0 rfl) ?_
        refine xget (v := .ref (a 10)) S hK hw 0 rfl rfl inX11 12 (by decide) mfX11_38 rfl dX11_hears_32 ?_
        refine lv_iconst (v := 2) S.1 S.2.1 dX11_hears_35 (by decide) ?_
        refine lv_aload_n S.1 S.2.1 dX11_hears_36 rfl (lv_at hl 0 rfl) ?_
        refine xget (v := .int (u.1 0 11)) S hK hw 0 rfl rfl inX11 11 (by decide) mfX11_137 rfl dX11_hears_37 ?_
        refine lv_imul S.1 S.2.1 dX11_hears_40 ?_
        refine lv_iload_n S.1 S.2.1 dX11_hears_41 rfl (lv_at hl 1 rfl) ?_
        have e_4 : ∀ _ : Unit, (((2 : Int32) * (u.1 0 11))).toInt = 2 * ((u.1 0 11)).toInt := fun _ => xmul rfl rfl (by omega) (by omega)
        refine xast S hK hw 10 0 rfl rfl (xvi (e_4 ()) (by omega) (by omega)) (sM_10 _ _ _ _) dX11_hears_42 (fun H locs hw => ?_)
        refine lv_aload_n S.1 S.2.1 dX11_hears_43 rfl (lv_at hl 0 rfl) ?_
        refine xget (v := .ref (a 10)) S hK hw 0 rfl rfl inX11 12 (by decide) mfX11_38 rfl dX11_hears_44 ?_
        refine lv_iconst (v := 2) S.1 S.2.1 dX11_hears_47 (by decide) ?_
        refine lv_aload_n S.1 S.2.1 dX11_hears_48 rfl (lv_at hl 0 rfl) ?_
        refine xget (v := .int (u.1 0 11)) S hK hw 0 rfl rfl inX11 11 (by decide) mfX11_137 rfl dX11_hears_49 ?_
        refine lv_imul S.1 S.2.1 dX11_hears_52 ?_
        refine lv_iconst (v := 1) S.1 S.2.1 dX11_hears_53 (by decide) ?_
        refine lv_iadd S.1 S.2.1 dX11_hears_54 ?_
        refine lv_iload_n S.1 S.2.1 dX11_hears_55 rfl (lv_at hl 2 rfl) ?_
        have e_6 : ∀ _ : Unit, ((((2 : Int32) * (u.1 0 11)) + (1 : Int32))).toInt = (2 * ((u.1 0 11)).toInt) + 1 := fun _ => xadd (e_4 ()) rfl (by omega) (by omega)
        refine xast S hK hw 10 0 rfl rfl (xvi (e_6 ()) (by omega) (by omega)) (sM_10 _ _ _ _) dX11_hears_56 (fun H locs hw => ?_)
        refine lv_aload_n S.1 S.2.1 dX11_hears_57 rfl (lv_at hl 0 rfl) ?_
        refine lv_dup S.1 S.2.1 dX11_hears_58 rfl ?_
        refine xget (v := .int (u.1 0 11)) S hK hw 0 rfl rfl inX11 11 (by decide) mfX11_137 rfl dX11_hears_59 ?_
        refine lv_iconst (v := 1) S.1 S.2.1 dX11_hears_62 (by decide) ?_
        refine lv_iadd S.1 S.2.1 dX11_hears_63 ?_
        refine xputi (ty := .int) S hK hw 0 rfl rfl inX11 tyX11 tyX11_ok nmX11 11 (by decide) mfX11_137 rfl (by decide +kernel) rfl rfl (Nat.le_of_ble_eq_true rfl) (oM_0_11 _ _ _ _) dX11_hears_64 (fun H locs hw => ?_)
        refine lv_aload_n S.1 S.2.1 dX11_hears_67 rfl (lv_at hl 0 rfl) ?_
        refine xget (v := .int ((u.1 0 11) + (1 : Int32))) S hK hw 0 rfl rfl inX11 11 (by decide) mfX11_137 rfl dX11_hears_68 ?_
        exact xri S hr hlk hw hV dX11_hears_71
      · replace hV := hV.trans (if_pos c_3)
        have gc_3 : ((u.1 0 11)).toInt = 6 := xq_eq c_3 rfl rfl
        refine lv_bipush (v := -3) S.1 S.2.1 dX11_hears_28 (by decide) ?_
        exact xri S hr hlk hw hV dX11_hears_30
    · replace hV := hV.trans (if_pos c_2)
      have gc_2 : ((b2i (m_in p2 (0 : Int32) (1 : Int32)))).toInt = 0 := xq_eq c_2 rfl rfl
      refine lv_iconst (v := -1) S.1 S.2.1 dX11_hears_17 (by decide) ?_
      exact xri S hr hlk hw hV dX11_hears_18
noncomputable def m_forget_b (u : xU) : Int32 × xU :=
    let w_1 := sp u 0 (upd (u.1 0) 11 (0 : Int32))
    ((u.1 0 11), w_1)
theorem m_forget_x : ∃ f : xU → Int32 × xU, f = m_forget_b := ⟨_, rfl⟩
noncomputable def m_forget : xU → Int32 × xU := m_forget_x.choose
theorem m_forget_def : m_forget = m_forget_b := m_forget_x.choose_spec
set_option maxHeartbeats 4000000 in
set_option maxRecDepth 100000 in
theorem c_m_forget (l : Launch) (D : va_G) (a : Nat → Nat) (Y : Nat → ClassId) (ts : Nat → Nat) (u : xU) : xMi l yX11_forget cX11_forget 2 (some .int) (xRm 0 0) D (xty Y) (wM a Y) ts [.ref (a 0)] u ((m_forget u).1, (m_forget u).2) := by
  suffices h : ∀ V, V = m_forget_b u → xMi l yX11_forget cX11_forget 2 (some .int) (xRm 0 0) D (xty Y) (wM a Y) ts [.ref (a 0)] u (V.1, V.2) from h _ (by rw [m_forget_def])
  intro V hV
  refine xofi RX11 rfl (by decide) (Nat.le_of_ble_eq_true rfl) ?_
  intro p e s m args below meth c ls H locs A S hr hlk hl hK hE hA hw
  have hl : lv_has ls 2 [(0, .ref (a 0))] := hl
  refine lv_aload_n S.1 S.2.1 dX11_forget_0 rfl (lv_at hl 0 rfl) ?_
  refine xget (v := .int (u.1 0 11)) S hK hw 0 rfl rfl inX11 11 (by decide) mfX11_137 rfl dX11_forget_1 ?_
  refine lv_istore_n (lv' := [(1, .int (u.1 0 11)), (0, .ref (a 0))]) S.1 S.2.1 dX11_forget_4 rfl hl (by decide) rfl (fun ls hl => ?_)
  refine lv_aload_n S.1 S.2.1 dX11_forget_5 rfl (lv_at hl 1 rfl) ?_
  refine lv_iconst (v := 0) S.1 S.2.1 dX11_forget_6 (by decide) ?_
  refine xputi (ty := .int) S hK hw 0 rfl rfl inX11 tyX11 tyX11_ok nmX11 11 (by decide) mfX11_137 rfl (by decide +kernel) rfl rfl (Nat.le_of_ble_eq_true rfl) (oM_0_11 _ _ _ _) dX11_forget_7 (fun H locs hw => ?_)
  refine lv_iload_n S.1 S.2.1 dX11_forget_10 rfl (lv_at hl 0 rfl) ?_
  exact xri S hr hlk hw hV dX11_forget_11
noncomputable def m_mark_b (u : xU) (p1 : Int32) (p2 : Int32) : Int32 × xU :=
    (if (b2i (m_in p1 (0 : Int32) (5 : Int32))) = (0 : Int32) then
    ((-1000000 : Int32), u)
    else
    (if (b2i (m_isCast u p2)) = (0 : Int32) then
    ((-1000000 : Int32), u)
    else
    let t_4 := (u.1 7 (((61 : Int32) + p2)).toNatClampNeg)
    let t_6 := (t_4 + (m_bits (u.1 7 (((49 : Int32) + p2)).toNatClampNeg)))
    let t_8 := (t_4 - (m_bits (u.1 7 (((55 : Int32) + p2)).toNatClampNeg)))
    (if p1 = 1 then
    let w_10 := sl u (u.2 + (11 : Int64))
    (t_6, w_10)
    else
    (if p1 = 2 then
    let w_12 := sl u (u.2 + (101 : Int64))
    (t_8, w_12)
    else
    (if p1 = 3 then
    let w_14 := sl u (u.2 + (1011 : Int64))
    (((2 : Int32) * t_6), w_14)
    else
    (if p1 = 4 then
    let w_16 := sl u (u.2 + (10101 : Int64))
    ((t_8 + p2), w_16)
    else
    (if p1 = 5 then
    let w_18 := sl u (u.2 + (100001 : Int64))
    ((t_4 + (u.1 7 0)), w_18)
    else
    let w_19 := sl u (u.2 + (1 : Int64))
    (t_4, w_19))))))))
theorem m_mark_x : ∃ f : xU → Int32 → Int32 → Int32 × xU, f = m_mark_b := ⟨_, rfl⟩
noncomputable def m_mark : xU → Int32 → Int32 → Int32 × xU := m_mark_x.choose
theorem m_mark_def : m_mark = m_mark_b := m_mark_x.choose_spec
set_option maxHeartbeats 4000000 in
set_option maxRecDepth 100000 in
theorem c_m_mark (l : Launch) (D : va_G) (a : Nat → Nat) (Y : Nat → ClassId) (ts : Nat → Nat) (u : xU) (p1 : Int32) (p2 : Int32) (hT : (0 ≤ ((u.1 0 0)).toInt ∧ ((u.1 0 0)).toInt ≤ 8)) (hC : (0 ≤ ((u.1 0 5)).toInt ∧ ((u.1 0 5)).toInt ≤ 6)) : xMi l yX11_mark cX11_mark 6 (some .int) (xRm 2 43) D (xty Y) (wM a Y) ts [.ref (a 0), .int p1, .int p2] u ((m_mark u p1 p2).1, (m_mark u p1 p2).2) := by
  suffices h : ∀ V, V = m_mark_b u p1 p2 → xMi l yX11_mark cX11_mark 6 (some .int) (xRm 2 43) D (xty Y) (wM a Y) ts [.ref (a 0), .int p1, .int p2] u (V.1, V.2) from h _ (by rw [m_mark_def])
  intro V hV
  refine xofi RX11 rfl (by decide) (Nat.le_of_ble_eq_true rfl) ?_
  intro p e s m args below meth c ls H locs A S hr hlk hl hK hE hA hw
  have hl : lv_has ls 6 [(0, .ref (a 0)), (1, .int p1), (2, .int p2)] := hl
  refine lv_iload_n S.1 S.2.1 dX11_mark_0 rfl (lv_at hl 1 rfl) ?_
  refine lv_iconst (v := 0) S.1 S.2.1 dX11_mark_1 (by decide) ?_
  refine lv_iconst (v := 5) S.1 S.2.1 dX11_mark_2 (by decide) ?_
  refine xcP (rest := []) S hw yfX11_in (c_m_in l p1 (0 : Int32) (5 : Int32)) mlX11_72 rfl rfl hl.1 ⟨rfl, rfl, Nat.le_of_ble_eq_true rfl, Nat.le_of_ble_eq_true rfl, Nat.le_of_ble_eq_true rfl, Nat.zero_le _, Nat.zero_le _⟩ dX11_mark_3 (fun H locs hw => ?_)
  refine lv_if_eq (tgt := 17) S.1 S.2.1 dX11_mark_6 (by decide) (fun c_1 => ?_) (fun c_1 => ?_)
  · replace hV := hV.trans (if_pos c_1)
    have gc_1 : ((b2i (m_in p1 (0 : Int32) (5 : Int32)))).toInt = 0 := xq_eq c_1 rfl rfl
    refine lv_ldc (v := -1000000) S.1 S.2.1 S.2.2.2.1 (S.2.2.2.2 _ kcX11_225) dX11_mark_17 ?_
    exact xri S hr hlk hw hV dX11_mark_19
  · replace hV := hV.trans (if_neg c_1)
    have gc_1 : ¬ ((b2i (m_in p1 (0 : Int32) (5 : Int32)))).toInt = 0 := xq_ne c_1 rfl rfl
    have fc_1 : 0 ≤ (p1).toInt ∧ (p1).toInt ≤ 5 := hk_in' c_1 rfl rfl rfl
    refine lv_aload_n S.1 S.2.1 dX11_mark_9 rfl (lv_at hl 0 rfl) ?_
    refine lv_iload_n S.1 S.2.1 dX11_mark_10 rfl (lv_at hl 2 rfl) ?_
    refine xci (rest := []) S hK hE hA hw yfX11_isCast (c_m_isCast l D a Y ts _ p2 (show (0 ≤ ((u.1 0 0)).toInt ∧ ((u.1 0 0)).toInt ≤ 8) from by omega) (show (0 ≤ ((u.1 0 5)).toInt ∧ ((u.1 0 5)).toInt ≤ 6) from by omega)) 0 rfl rfl mlX11_162 rfl rfl hl.1 ⟨rfl, rfl, Nat.le_of_ble_eq_true rfl, Nat.le_of_ble_eq_true rfl, Nat.le_of_ble_eq_true rfl, Nat.zero_le _, Nat.zero_le _⟩ dX11_mark_11 (fun H locs hw => ?_)
    refine lv_if_ne (tgt := 20) S.1 S.2.1 dX11_mark_14 (by decide) (fun c_2 => ?_) (fun c_2 => ?_)
    · replace hV := hV.trans (if_neg c_2)
      have gc_2 : ¬ ((b2i (m_isCast u p2))).toInt = 0 := xq_ne c_2 rfl rfl
      have fc_2 := hk_mCast hC c_2
      refine lv_aload_n S.1 S.2.1 dX11_mark_20 rfl (lv_at hl 0 rfl) ?_
      refine xget (v := .ref (a 7)) S hK hw 0 rfl rfl inX11 8 (by decide) mfX11_28 rfl dX11_mark_21 ?_
      refine lv_bipush (v := 61) S.1 S.2.1 dX11_mark_24 (by decide) ?_
      refine lv_iload_n S.1 S.2.1 dX11_mark_26 rfl (lv_at hl 2 rfl) ?_
      refine lv_iadd S.1 S.2.1 dX11_mark_27 ?_
      have e_3 : ∀ _ : Unit, (((61 : Int32) + p2)).toInt = 61 + (p2).toInt := fun _ => xadd rfl rfl (by omega) (by omega)
      refine xald (f := u.1 7) S hK hw 7 0 rfl rfl (xvi (e_3 ()) (by omega) (by omega)) dX11_mark_28 ?_
      refine lv_istore_n (lv' := [(3, .int (u.1 7 (((61 : Int32) + p2)).toNatClampNeg)), (0, .ref (a 0)), (1, .int p1), (2, .int p2)]) S.1 S.2.1 dX11_mark_29 rfl hl (by decide) rfl (fun ls hl => ?_)
      refine lv_iload_n S.1 S.2.1 dX11_mark_30 rfl (lv_at hl 0 rfl) ?_
      refine lv_aload_n S.1 S.2.1 dX11_mark_31 rfl (lv_at hl 1 rfl) ?_
      refine xget (v := .ref (a 7)) S hK hw 0 rfl rfl inX11 8 (by decide) mfX11_28 rfl dX11_mark_32 ?_
      refine lv_bipush (v := 49) S.1 S.2.1 dX11_mark_35 (by decide) ?_
      refine lv_iload_n S.1 S.2.1 dX11_mark_37 rfl (lv_at hl 3 rfl) ?_
      refine lv_iadd S.1 S.2.1 dX11_mark_38 ?_
      have e_5 : ∀ _ : Unit, (((49 : Int32) + p2)).toInt = 49 + (p2).toInt := fun _ => xadd rfl rfl (by omega) (by omega)
      refine xald (f := u.1 7) S hK hw 7 0 rfl rfl (xvi (e_5 ()) (by omega) (by omega)) dX11_mark_39 ?_
      refine xcP (rest := [.int (u.1 7 (((61 : Int32) + p2)).toNatClampNeg)]) S hw yfX11_bits (c_m_bits l (u.1 7 (((49 : Int32) + p2)).toNatClampNeg)) mlX11_175 rfl rfl hl.1 ⟨rfl, rfl, Nat.le_of_ble_eq_true rfl, Nat.le_of_ble_eq_true rfl, Nat.le_of_ble_eq_true rfl, Nat.zero_le _, Nat.zero_le _⟩ dX11_mark_40 (fun H locs hw => ?_)
      refine lv_iadd S.1 S.2.1 dX11_mark_43 ?_
      refine lv_istore (lv' := [(4, .int ((u.1 7 (((61 : Int32) + p2)).toNatClampNeg) + (m_bits (u.1 7 (((49 : Int32) + p2)).toNatClampNeg)))), (3, .int (u.1 7 (((61 : Int32) + p2)).toNatClampNeg)), (0, .ref (a 0)), (1, .int p1), (2, .int p2)]) S.1 S.2.1 dX11_mark_44 hl (by decide) rfl (fun ls hl => ?_)
      refine lv_iload_n S.1 S.2.1 dX11_mark_46 rfl (lv_at hl 1 rfl) ?_
      refine lv_aload_n S.1 S.2.1 dX11_mark_47 rfl (lv_at hl 2 rfl) ?_
      refine xget (v := .ref (a 7)) S hK hw 0 rfl rfl inX11 8 (by decide) mfX11_28 rfl dX11_mark_48 ?_
      refine lv_bipush (v := 55) S.1 S.2.1 dX11_mark_51 (by decide) ?_
      refine lv_iload_n S.1 S.2.1 dX11_mark_53 rfl (lv_at hl 4 rfl) ?_
      refine lv_iadd S.1 S.2.1 dX11_mark_54 ?_
      have e_7 : ∀ _ : Unit, (((55 : Int32) + p2)).toInt = 55 + (p2).toInt := fun _ => xadd rfl rfl (by omega) (by omega)
      refine xald (f := u.1 7) S hK hw 7 0 rfl rfl (xvi (e_7 ()) (by omega) (by omega)) dX11_mark_55 ?_
      refine xcP (rest := [.int (u.1 7 (((61 : Int32) + p2)).toNatClampNeg)]) S hw yfX11_bits (c_m_bits l (u.1 7 (((55 : Int32) + p2)).toNatClampNeg)) mlX11_175 rfl rfl hl.1 ⟨rfl, rfl, Nat.le_of_ble_eq_true rfl, Nat.le_of_ble_eq_true rfl, Nat.le_of_ble_eq_true rfl, Nat.zero_le _, Nat.zero_le _⟩ dX11_mark_56 (fun H locs hw => ?_)
      refine lv_isub S.1 S.2.1 dX11_mark_59 ?_
      refine lv_istore (lv' := [(5, .int ((u.1 7 (((61 : Int32) + p2)).toNatClampNeg) - (m_bits (u.1 7 (((55 : Int32) + p2)).toNatClampNeg)))), (4, .int ((u.1 7 (((61 : Int32) + p2)).toNatClampNeg) + (m_bits (u.1 7 (((49 : Int32) + p2)).toNatClampNeg)))), (3, .int (u.1 7 (((61 : Int32) + p2)).toNatClampNeg)), (0, .ref (a 0)), (1, .int p1), (2, .int p2)]) S.1 S.2.1 dX11_mark_60 hl (by decide) rfl (fun ls hl => ?_)
      refine lv_iload_n S.1 S.2.1 dX11_mark_62 rfl (lv_at hl 4 rfl) ?_
      by_cases c_9 : p1 = 1
      · replace hV := hV.trans (if_pos c_9)
        have gc_9 : (p1).toInt = 1 := xq_eq c_9 rfl rfl
        refine lv_tableIn (tgt := 96) S.1 S.2.1 dX11_mark_63 (by rw [c_9]; decide) (by rw [c_9]; decide) (by rw [c_9]; rfl) (by decide) ?_
        refine lv_aload_n S.1 S.2.1 dX11_mark_96 rfl (lv_at hl 3 rfl) ?_
        refine lv_dup S.1 S.2.1 dX11_mark_97 rfl ?_
        refine xget (v := .long u.2) S hK hw 0 rfl rfl inX11 13 (by decide) mfX11_226 rfl dX11_mark_98 ?_
        refine lv_ldc2 (v := 11) S.1 S.2.1 S.2.2.2.1 (S.2.2.2.2 _ klX11_230) dX11_mark_101 ?_
        refine lv_ladd S.1 S.2.1 dX11_mark_104 ?_
        refine xputl S hK hw 0 rfl rfl inX11 tyX11 tyX11_ok nmX11 13 (by decide) mfX11_226 rfl (by decide +kernel) (Nat.le_of_ble_eq_true rfl) (oM_0_13 _ _ _ _) dX11_mark_105 (fun H locs hw => ?_)
        refine lv_iload S.1 S.2.1 dX11_mark_108 (lv_at hl 1 rfl) ?_
        exact xri S hr hlk hw hV dX11_mark_110
      replace hV := hV.trans (if_neg c_9)
      by_cases c_11 : p1 = 2
      · replace hV := hV.trans (if_pos c_11)
        have gc_11 : (p1).toInt = 2 := xq_eq c_11 rfl rfl
        refine lv_tableIn (tgt := 111) S.1 S.2.1 dX11_mark_63 (by rw [c_11]; decide) (by rw [c_11]; decide) (by rw [c_11]; rfl) (by decide) ?_
        refine lv_aload_n S.1 S.2.1 dX11_mark_111 rfl (lv_at hl 3 rfl) ?_
        refine lv_dup S.1 S.2.1 dX11_mark_112 rfl ?_
        refine xget (v := .long u.2) S hK hw 0 rfl rfl inX11 13 (by decide) mfX11_226 rfl dX11_mark_113 ?_
        refine lv_ldc2 (v := 101) S.1 S.2.1 S.2.2.2.1 (S.2.2.2.2 _ klX11_232) dX11_mark_116 ?_
        refine lv_ladd S.1 S.2.1 dX11_mark_119 ?_
        refine xputl S hK hw 0 rfl rfl inX11 tyX11 tyX11_ok nmX11 13 (by decide) mfX11_226 rfl (by decide +kernel) (Nat.le_of_ble_eq_true rfl) (oM_0_13 _ _ _ _) dX11_mark_120 (fun H locs hw => ?_)
        refine lv_iload S.1 S.2.1 dX11_mark_123 (lv_at hl 0 rfl) ?_
        exact xri S hr hlk hw hV dX11_mark_125
      replace hV := hV.trans (if_neg c_11)
      by_cases c_13 : p1 = 3
      · replace hV := hV.trans (if_pos c_13)
        have gc_13 : (p1).toInt = 3 := xq_eq c_13 rfl rfl
        refine lv_tableIn (tgt := 126) S.1 S.2.1 dX11_mark_63 (by rw [c_13]; decide) (by rw [c_13]; decide) (by rw [c_13]; rfl) (by decide) ?_
        refine lv_aload_n S.1 S.2.1 dX11_mark_126 rfl (lv_at hl 3 rfl) ?_
        refine lv_dup S.1 S.2.1 dX11_mark_127 rfl ?_
        refine xget (v := .long u.2) S hK hw 0 rfl rfl inX11 13 (by decide) mfX11_226 rfl dX11_mark_128 ?_
        refine lv_ldc2 (v := 1011) S.1 S.2.1 S.2.2.2.1 (S.2.2.2.2 _ klX11_234) dX11_mark_131 ?_
        refine lv_ladd S.1 S.2.1 dX11_mark_134 ?_
        refine xputl S hK hw 0 rfl rfl inX11 tyX11 tyX11_ok nmX11 13 (by decide) mfX11_226 rfl (by decide +kernel) (Nat.le_of_ble_eq_true rfl) (oM_0_13 _ _ _ _) dX11_mark_135 (fun H locs hw => ?_)
        refine lv_iconst (v := 2) S.1 S.2.1 dX11_mark_138 (by decide) ?_
        refine lv_iload S.1 S.2.1 dX11_mark_139 (lv_at hl 1 rfl) ?_
        refine lv_imul S.1 S.2.1 dX11_mark_141 ?_
        exact xri S hr hlk hw hV dX11_mark_142
      replace hV := hV.trans (if_neg c_13)
      by_cases c_15 : p1 = 4
      · replace hV := hV.trans (if_pos c_15)
        have gc_15 : (p1).toInt = 4 := xq_eq c_15 rfl rfl
        refine lv_tableIn (tgt := 143) S.1 S.2.1 dX11_mark_63 (by rw [c_15]; decide) (by rw [c_15]; decide) (by rw [c_15]; rfl) (by decide) ?_
        refine lv_aload_n S.1 S.2.1 dX11_mark_143 rfl (lv_at hl 3 rfl) ?_
        refine lv_dup S.1 S.2.1 dX11_mark_144 rfl ?_
        refine xget (v := .long u.2) S hK hw 0 rfl rfl inX11 13 (by decide) mfX11_226 rfl dX11_mark_145 ?_
        refine lv_ldc2 (v := 10101) S.1 S.2.1 S.2.2.2.1 (S.2.2.2.2 _ klX11_236) dX11_mark_148 ?_
        refine lv_ladd S.1 S.2.1 dX11_mark_151 ?_
        refine xputl S hK hw 0 rfl rfl inX11 tyX11 tyX11_ok nmX11 13 (by decide) mfX11_226 rfl (by decide +kernel) (Nat.le_of_ble_eq_true rfl) (oM_0_13 _ _ _ _) dX11_mark_152 (fun H locs hw => ?_)
        refine lv_iload S.1 S.2.1 dX11_mark_155 (lv_at hl 0 rfl) ?_
        refine lv_iload_n S.1 S.2.1 dX11_mark_157 rfl (lv_at hl 5 rfl) ?_
        refine lv_iadd S.1 S.2.1 dX11_mark_158 ?_
        exact xri S hr hlk hw hV dX11_mark_159
      replace hV := hV.trans (if_neg c_15)
      by_cases c_17 : p1 = 5
      · replace hV := hV.trans (if_pos c_17)
        have gc_17 : (p1).toInt = 5 := xq_eq c_17 rfl rfl
        refine lv_tableIn (tgt := 160) S.1 S.2.1 dX11_mark_63 (by rw [c_17]; decide) (by rw [c_17]; decide) (by rw [c_17]; rfl) (by decide) ?_
        refine lv_aload_n S.1 S.2.1 dX11_mark_160 rfl (lv_at hl 3 rfl) ?_
        refine lv_dup S.1 S.2.1 dX11_mark_161 rfl ?_
        refine xget (v := .long u.2) S hK hw 0 rfl rfl inX11 13 (by decide) mfX11_226 rfl dX11_mark_162 ?_
        refine lv_ldc2 (v := 100001) S.1 S.2.1 S.2.2.2.1 (S.2.2.2.2 _ klX11_238) dX11_mark_165 ?_
        refine lv_ladd S.1 S.2.1 dX11_mark_168 ?_
        refine xputl S hK hw 0 rfl rfl inX11 tyX11 tyX11_ok nmX11 13 (by decide) mfX11_226 rfl (by decide +kernel) (Nat.le_of_ble_eq_true rfl) (oM_0_13 _ _ _ _) dX11_mark_169 (fun H locs hw => ?_)
        refine lv_iload_n S.1 S.2.1 dX11_mark_172 rfl (lv_at hl 2 rfl) ?_
        refine lv_aload_n S.1 S.2.1 dX11_mark_173 rfl (lv_at hl 3 rfl) ?_
        refine xget (v := .ref (a 7)) S hK hw 0 rfl rfl inX11 8 (by decide) mfX11_28 rfl dX11_mark_174 ?_
        refine lv_iconst (v := 0) S.1 S.2.1 dX11_mark_177 (by decide) ?_
        refine xaldc (f := u.1 7) (x := (u.1 7 0)) (k := 0) S hK hw 7 0 rfl rfl (by decide) rfl (xvi (a := 0) rfl (by decide) (by decide)) dX11_mark_178 ?_
        refine lv_iadd S.1 S.2.1 dX11_mark_179 ?_
        exact xri S hr hlk hw hV dX11_mark_180
      replace hV := hV.trans (if_neg c_17)
      have gc_9 : ¬ (p1).toInt = 1 := xq_ne c_9 rfl rfl
      have gc_11 : ¬ (p1).toInt = 2 := xq_ne c_11 rfl rfl
      have gc_13 : ¬ (p1).toInt = 3 := xq_ne c_13 rfl rfl
      have gc_15 : ¬ (p1).toInt = 4 := xq_ne c_15 rfl rfl
      have gc_17 : ¬ (p1).toInt = 5 := xq_ne c_17 rfl rfl
      refine lv_tableOut (tgt := 181) S.1 S.2.1 dX11_mark_63 (by omega) (by decide) ?_
      refine lv_aload_n S.1 S.2.1 dX11_mark_181 rfl (lv_at hl 3 rfl) ?_
      refine lv_dup S.1 S.2.1 dX11_mark_182 rfl ?_
      refine xget (v := .long u.2) S hK hw 0 rfl rfl inX11 13 (by decide) mfX11_226 rfl dX11_mark_183 ?_
      refine lv_lconst (v := 1) S.1 S.2.1 dX11_mark_186 rfl ?_
      refine lv_ladd S.1 S.2.1 dX11_mark_187 ?_
      refine xputl S hK hw 0 rfl rfl inX11 tyX11 tyX11_ok nmX11 13 (by decide) mfX11_226 rfl (by decide +kernel) (Nat.le_of_ble_eq_true rfl) (oM_0_13 _ _ _ _) dX11_mark_188 (fun H locs hw => ?_)
      refine lv_iload_n S.1 S.2.1 dX11_mark_191 rfl (lv_at hl 2 rfl) ?_
      exact xri S hr hlk hw hV dX11_mark_192
    · replace hV := hV.trans (if_pos c_2)
      have gc_2 : ((b2i (m_isCast u p2))).toInt = 0 := xq_eq c_2 rfl rfl
      refine lv_ldc (v := -1000000) S.1 S.2.1 S.2.2.2.1 (S.2.2.2.2 _ kcX11_225) dX11_mark_17 ?_
      exact xri S hr hlk hw hV dX11_mark_19
noncomputable def m_layMost_L69 (kk : Int32 → xU → xU) (w : xU) (x1 : Int32) (x2 : Int32) : Nat → Int32 → Int32 → xU
  | 0, _, _ => w
  | n + 1, x3, x4 =>
    (if (w.1 0 0) ≤ x4 then
    let w_17 := sp w 19 (upd (w.1 19) ((((256 : Int32) * x1) + x2)).toNatClampNeg x3)
    kk (x2 + (1 : Int32)) w_17
    else
    (if (b2i (m_may w x1 x4)) = (0 : Int32) then
    (if (0 : Int32) ≤ x3 then
    m_layMost_L69 kk w x1 x2 n x3 (x4 + (1 : Int32))
    else
    m_layMost_L69 kk w x1 x2 n (0 : Int32) (x4 + (1 : Int32)))
    else
    (if (b2i (m_has x2 x4)) = (0 : Int32) then
    let t_30 := ((1 : Int32) + (w.1 19 ((((256 : Int32) * (x1 + (1 : Int32))) + (x2 ||| ((1 : Int32) <<< (x4 &&& 31))))).toNatClampNeg))
    (if t_30 ≤ x3 then
    m_layMost_L69 kk w x1 x2 n x3 (x4 + (1 : Int32))
    else
    m_layMost_L69 kk w x1 x2 n t_30 (x4 + (1 : Int32)))
    else
    (if (0 : Int32) ≤ x3 then
    m_layMost_L69 kk w x1 x2 n x3 (x4 + (1 : Int32))
    else
    m_layMost_L69 kk w x1 x2 n (0 : Int32) (x4 + (1 : Int32))))))
noncomputable def m_layMost_L44 (kk : Int32 → xU → xU) (x1 : Int32) : Nat → Int32 → xU → xU
  | 0, _, w => w
  | n + 1, x2, w =>
    (if (256 : Int32) ≤ x2 then
    kk (x1 + (-1 : Int32)) w
    else
    let t_12 := (w.1 19 ((((256 : Int32) * (x1 + (1 : Int32))) + x2)).toNatClampNeg)
    m_layMost_L69 (fun (z2 : Int32) (zu : xU) => m_layMost_L44 kk x1 n z2 zu) w x1 x2 9 t_12 (0 : Int32))
noncomputable def m_layMost_L38 : Nat → Int32 → xU → xU
  | 0, _, w => w
  | n + 1, x1, w =>
    (if x1 < (0 : Int32) then
    w
    else
    m_layMost_L44 (fun (z1 : Int32) (zu : xU) => m_layMost_L38 n z1 zu) x1 257 (0 : Int32) w)
noncomputable def m_layMost_L2 : Nat → Int32 → xU → xU
  | 0, _, w => w
  | n + 1, x1, w =>
    (if (256 : Int32) ≤ x1 then
    m_layMost_L38 7 ((w.1 0 5) - (1 : Int32)) w
    else
    let w_36 := sp w 19 (upd (w.1 19) ((((256 : Int32) * (w.1 0 5)) + x1)).toNatClampNeg (0 : Int32))
    m_layMost_L2 n (x1 + (1 : Int32)) w_36)
noncomputable def m_layMost_b (u : xU) : xU :=
    m_layMost_L2 257 (0 : Int32) u
theorem m_layMost_x : ∃ f : xU → xU, f = m_layMost_b := ⟨_, rfl⟩
noncomputable def m_layMost : xU → xU := m_layMost_x.choose
theorem m_layMost_def : m_layMost = m_layMost_b := m_layMost_x.choose_spec
set_option maxHeartbeats 4000000 in
set_option maxRecDepth 100000 in
theorem c_m_layMost (l : Launch) (D : va_G) (a : Nat → Nat) (Y : Nat → ClassId) (ts : Nat → Nat) (u : xU) (hT : (0 ≤ ((u.1 0 0)).toInt ∧ ((u.1 0 0)).toInt ≤ 8)) (hC : (0 ≤ ((u.1 0 5)).toInt ∧ ((u.1 0 5)).toInt ≤ 6)) : xMv l yX11_layMost cX11_layMost 6 none (xRm 3 65) D (xty Y) (wM a Y) ts [.ref (a 0)] u (m_layMost u) := by
  suffices h : ∀ V, V = m_layMost_b u → xMv l yX11_layMost cX11_layMost 6 none (xRm 3 65) D (xty Y) (wM a Y) ts [.ref (a 0)] u V from h _ (by rw [m_layMost_def])
  intro V hV
  refine xofv RX11 rfl (by decide) (Nat.le_of_ble_eq_true rfl) ?_
  intro p e s m args below meth c ls H locs A S hr hlk hl hK hE hA hw
  have hl : lv_has ls 6 [(0, .ref (a 0))] := hl
  refine lv_iconst (v := 0) S.1 S.2.1 dX11_layMost_0 (by decide) ?_
  refine lv_istore_n (lv' := [(1, .int (0 : Int32)), (0, .ref (a 0))]) S.1 S.2.1 dX11_layMost_1 rfl hl (by decide) rfl (fun ls hl => ?_)
  have lp_1 : ∀ (n_1 : Nat) (x1_1 : Int32) (u_1 : xU) (H : Heap) (locs : List Loc) (ls : Array Slot), (0 ≤ (x1_1).toInt) → ((0 ≤ ((u_1.1 0 0)).toInt ∧ ((u_1.1 0 0)).toInt ≤ 8)) → ((0 ≤ ((u_1.1 0 5)).toInt ∧ ((u_1.1 0 5)).toInt ≤ 6)) → (256 - (x1_1).toInt < (n_1 : Int) ∧ 1 ≤ n_1) → lv_has ls 6 [(0, .ref (a 0)), (1, .int x1_1)] → xw D (wM a Y) A s.heap H locs u_1 → V = m_layMost_L2 n_1 x1_1 u_1 → W p l e (xRm 3 65) s m args below meth c H locs 0 0 (MQ below (va_Qv (fun v => v = V) (xPost D (wM a Y) A) A) args s 0 0 A) (F0 m 2 ls []) := by
    intro n_1
    induction n_1 with
    | zero => intro x1_1 u_1 H locs ls i0_1 i1_1 i2_1 hn; exact absurd hn.2 (by decide)
    | succ n_1 ih_1 =>
      intro x1_1 u_1 H locs ls i0_1 i1_1 i2_1 hn_1 hl hw hV
      refine lv_iload_n S.1 S.2.1 dX11_layMost_2 rfl (lv_at hl 1 rfl) ?_
      refine lv_sipush (v := 256) S.1 S.2.1 dX11_layMost_3 (by decide) ?_
      refine lv_icmp_ge (tgt := 31) S.1 S.2.1 dX11_layMost_6 (by decide) (fun c_2 => ?_) (fun c_2 => ?_)
      · replace hV := hV.trans (if_pos c_2)
        have gc_2 : 256 ≤ (x1_1).toInt := xq_le c_2 rfl rfl
        refine lv_aload_n S.1 S.2.1 dX11_layMost_31 rfl (lv_at hl 0 rfl) ?_
        refine xget (v := .int (u_1.1 0 5)) S hK hw 0 rfl rfl inX11 5 (by decide) mfX11_76 rfl dX11_layMost_32 ?_
        refine lv_iconst (v := 1) S.1 S.2.1 dX11_layMost_35 (by decide) ?_
        refine lv_isub S.1 S.2.1 dX11_layMost_36 ?_
        refine lv_istore_n (lv' := [(1, .int ((u_1.1 0 5) - (1 : Int32))), (0, .ref (a 0))]) S.1 S.2.1 dX11_layMost_37 rfl hl (by decide) rfl (fun ls hl => ?_)
        have e_4 : ∀ _ : Unit, (((u_1.1 0 5) - (1 : Int32))).toInt = ((u_1.1 0 5)).toInt - 1 := fun _ => xsub rfl rfl (by omega) (by omega)
        have lp_3 : ∀ (n_3 : Nat) (x1_3 : Int32) (u_3 : xU) (H : Heap) (locs : List Loc) (ls : Array Slot), (-1 ≤ (x1_3).toInt ∧ (x1_3).toInt ≤ (((u_1.1 0 5)).toInt - 1)) → ((0 ≤ ((u_3.1 0 0)).toInt ∧ ((u_3.1 0 0)).toInt ≤ 8)) → ((0 ≤ ((u_3.1 0 5)).toInt ∧ ((u_3.1 0 5)).toInt ≤ 6)) → ((x1_3).toInt + 1 < (n_3 : Int) ∧ 1 ≤ n_3) → lv_has ls 6 [(0, .ref (a 0)), (1, .int x1_3)] → xw D (wM a Y) A s.heap H locs u_3 → V = m_layMost_L38 n_3 x1_3 u_3 → W p l e (xRm 3 65) s m args below meth c H locs 0 0 (MQ below (va_Qv (fun v => v = V) (xPost D (wM a Y) A) A) args s 0 0 A) (F0 m 38 ls []) := by
          intro n_3
          induction n_3 with
          | zero => intro x1_3 u_3 H locs ls i0_3 i1_3 i2_3 hn; exact absurd hn.2 (by decide)
          | succ n_3 ih_3 =>
            intro x1_3 u_3 H locs ls i0_3 i1_3 i2_3 hn_3 hl hw hV
            refine lv_iload_n S.1 S.2.1 dX11_layMost_38 rfl (lv_at hl 1 rfl) ?_
            refine lv_if_lt (tgt := 168) S.1 S.2.1 dX11_layMost_39 (by decide) (fun c_5 => ?_) (fun c_5 => ?_)
            · replace hV := hV.trans (if_pos c_5)
              have gc_5 : (x1_3).toInt < 0 := xq_lt c_5 rfl rfl
              exact xrv S hr hlk hw hV dX11_layMost_168
            · replace hV := hV.trans (if_neg c_5)
              have gc_5 : 0 ≤ (x1_3).toInt := xq_nlt c_5 rfl rfl
              refine lv_iconst (v := 0) S.1 S.2.1 dX11_layMost_42 (by decide) ?_
              refine lv_istore_n (lv' := [(2, .int (0 : Int32)), (0, .ref (a 0)), (1, .int x1_3)]) S.1 S.2.1 dX11_layMost_43 rfl hl (by decide) rfl (fun ls hl => ?_)
              have lp_6 : ∀ (n_6 : Nat) (x2_6 : Int32) (u_6 : xU) (H : Heap) (locs : List Loc) (ls : Array Slot), (0 ≤ (x2_6).toInt) → ((0 ≤ ((u_6.1 0 0)).toInt ∧ ((u_6.1 0 0)).toInt ≤ 8)) → ((0 ≤ ((u_6.1 0 5)).toInt ∧ ((u_6.1 0 5)).toInt ≤ 6)) → (256 - (x2_6).toInt < (n_6 : Int) ∧ 1 ≤ n_6) → lv_has ls 6 [(0, .ref (a 0)), (1, .int x1_3), (2, .int x2_6)] → xw D (wM a Y) A s.heap H locs u_6 → V = m_layMost_L44 (fun (z1 : Int32) (zu : xU) => m_layMost_L38 n_3 z1 zu) x1_3 n_6 x2_6 u_6 → W p l e (xRm 3 65) s m args below meth c H locs 0 0 (MQ below (va_Qv (fun v => v = V) (xPost D (wM a Y) A) A) args s 0 0 A) (F0 m 44 ls []) := by
                intro n_6
                induction n_6 with
                | zero => intro x2_6 u_6 H locs ls i0_6 i1_6 i2_6 hn; exact absurd hn.2 (by decide)
                | succ n_6 ih_6 =>
                  intro x2_6 u_6 H locs ls i0_6 i1_6 i2_6 hn_6 hl hw hV
                  refine lv_iload_n S.1 S.2.1 dX11_layMost_44 rfl (lv_at hl 2 rfl) ?_
                  refine lv_sipush (v := 256) S.1 S.2.1 dX11_layMost_45 (by decide) ?_
                  refine lv_icmp_ge (tgt := 162) S.1 S.2.1 dX11_layMost_48 (by decide) (fun c_7 => ?_) (fun c_7 => ?_)
                  · replace hV := hV.trans (if_pos c_7)
                    have gc_7 : 256 ≤ (x2_6).toInt := xq_le c_7 rfl rfl
                    refine lv_iinc (v := (x1_3 + (-1 : Int32))) (lv' := [(1, .int (x1_3 + (-1 : Int32))), (0, .ref (a 0)), (2, .int x2_6)]) S.1 S.2.1 dX11_layMost_162 hl (k := 1) rfl rfl (by decide) rfl (fun ls hl => ?_)
                    refine lv_goto (tgt := 38) S.1 S.2.1 dX11_layMost_165 (by decide) ?_
                    have e_8 : ∀ _ : Unit, ((x1_3 + (-1 : Int32))).toInt = (x1_3).toInt + (-1) := fun _ => xadd rfl rfl (by omega) (by omega)
                    clear hn_1 hn_6
                    exact ih_3 (x1_3 + (-1 : Int32)) u_6 _ _ _ (show -1 ≤ ((x1_3 + (-1 : Int32))).toInt ∧ ((x1_3 + (-1 : Int32))).toInt ≤ (((u_1.1 0 5)).toInt - 1) from by rw [(e_8 ())]; omega) (show (0 ≤ ((u_6.1 0 0)).toInt ∧ ((u_6.1 0 0)).toInt ≤ 8) from by omega) (show (0 ≤ ((u_6.1 0 5)).toInt ∧ ((u_6.1 0 5)).toInt ≤ 6) from by omega) (show ((x1_3 + (-1 : Int32))).toInt + 1 < (n_3 : Int) ∧ 1 ≤ n_3 from by rw [(e_8 ())]; omega) (lv_sub hl [1, 0] rfl) hw hV
                  · replace hV := hV.trans (if_neg c_7)
                    have gc_7 : (x2_6).toInt < 256 := xq_nle c_7 rfl rfl
                    refine lv_aload_n S.1 S.2.1 dX11_layMost_51 rfl (lv_at hl 0 rfl) ?_
                    refine xget (v := .ref (a 19)) S hK hw 0 rfl rfl inX11 31 (by decide) mfX11_65 rfl dX11_layMost_52 ?_
                    refine lv_sipush (v := 256) S.1 S.2.1 dX11_layMost_55 (by decide) ?_
                    refine lv_iload_n S.1 S.2.1 dX11_layMost_58 rfl (lv_at hl 1 rfl) ?_
                    refine lv_iconst (v := 1) S.1 S.2.1 dX11_layMost_59 (by decide) ?_
                    refine lv_iadd S.1 S.2.1 dX11_layMost_60 ?_
                    refine lv_imul S.1 S.2.1 dX11_layMost_61 ?_
                    refine lv_iload_n S.1 S.2.1 dX11_layMost_62 rfl (lv_at hl 2 rfl) ?_
                    refine lv_iadd S.1 S.2.1 dX11_layMost_63 ?_
                    have e_9 : ∀ _ : Unit, ((x1_3 + (1 : Int32))).toInt = (x1_3).toInt + 1 := fun _ => xadd rfl rfl (by omega) (by omega)
                    have e_10 : ∀ _ : Unit, (((256 : Int32) * (x1_3 + (1 : Int32)))).toInt = 256 * ((x1_3).toInt + 1) := fun _ => xmul rfl (e_9 ()) (by omega) (by omega)
                    have e_11 : ∀ _ : Unit, ((((256 : Int32) * (x1_3 + (1 : Int32))) + x2_6)).toInt = (256 * ((x1_3).toInt + 1)) + (x2_6).toInt := fun _ => xadd (e_10 ()) rfl (by omega) (by omega)
                    refine xald (f := u_6.1 19) S hK hw 19 0 rfl rfl (xvi (e_11 ()) (by omega) (by omega)) dX11_layMost_64 ?_
                    refine lv_istore_n (lv' := [(3, .int (u_6.1 19 ((((256 : Int32) * (x1_3 + (1 : Int32))) + x2_6)).toNatClampNeg)), (0, .ref (a 0)), (1, .int x1_3), (2, .int x2_6)]) S.1 S.2.1 dX11_layMost_65 rfl hl (by decide) rfl (fun ls hl => ?_)
                    refine lv_iconst (v := 0) S.1 S.2.1 dX11_layMost_66 (by decide) ?_
                    refine lv_istore (lv' := [(4, .int (0 : Int32)), (3, .int (u_6.1 19 ((((256 : Int32) * (x1_3 + (1 : Int32))) + x2_6)).toNatClampNeg)), (0, .ref (a 0)), (1, .int x1_3), (2, .int x2_6)]) S.1 S.2.1 dX11_layMost_67 hl (by decide) rfl (fun ls hl => ?_)
                    have lp_13 : ∀ (n_13 : Nat) (x3_13 : Int32) (x4_13 : Int32) (H : Heap) (locs : List Loc) (ls : Array Slot), (0 ≤ (x4_13).toInt) → (((u_6.1 0 0)).toInt - (x4_13).toInt < (n_13 : Int) ∧ 1 ≤ n_13) → lv_has ls 6 [(0, .ref (a 0)), (1, .int x1_3), (2, .int x2_6), (3, .int x3_13), (4, .int x4_13)] → xw D (wM a Y) A s.heap H locs u_6 → V = m_layMost_L69 (fun (z2 : Int32) (zu : xU) => m_layMost_L44 (fun (z1 : Int32) (zu : xU) => m_layMost_L38 n_3 z1 zu) x1_3 n_6 z2 zu) u_6 x1_3 x2_6 n_13 x3_13 x4_13 → W p l e (xRm 3 65) s m args below meth c H locs 0 0 (MQ below (va_Qv (fun v => v = V) (xPost D (wM a Y) A) A) args s 0 0 A) (F0 m 69 ls []) := by
                      intro n_13
                      induction n_13 with
                      | zero => intro x3_13 x4_13 H locs ls i0_13 hn; exact absurd hn.2 (by decide)
                      | succ n_13 ih_13 =>
                        intro x3_13 x4_13 H locs ls i0_13 hn_13 hl hw hV
                        refine lv_iload S.1 S.2.1 dX11_layMost_69 (lv_at hl 4 rfl) ?_
                        refine lv_aload_n S.1 S.2.1 dX11_layMost_71 rfl (lv_at hl 0 rfl) ?_
                        refine xget (v := .int (u_6.1 0 0)) S hK hw 0 rfl rfl inX11 0 (by decide) mfX11_68 rfl dX11_layMost_72 ?_
                        refine lv_icmp_ge (tgt := 143) S.1 S.2.1 dX11_layMost_75 (by decide) (fun c_14 => ?_) (fun c_14 => ?_)
                        · replace hV := hV.trans (if_pos c_14)
                          have gc_14 : ((u_6.1 0 0)).toInt ≤ (x4_13).toInt := xq_le c_14 rfl rfl
                          refine lv_aload_n S.1 S.2.1 dX11_layMost_143 rfl (lv_at hl 0 rfl) ?_
                          refine xget (v := .ref (a 19)) S hK hw 0 rfl rfl inX11 31 (by decide) mfX11_65 rfl dX11_layMost_144 ?_
                          refine lv_sipush (v := 256) S.1 S.2.1 dX11_layMost_147 (by decide) ?_
                          refine lv_iload_n S.1 S.2.1 dX11_layMost_150 rfl (lv_at hl 1 rfl) ?_
                          refine lv_imul S.1 S.2.1 dX11_layMost_151 ?_
                          refine lv_iload_n S.1 S.2.1 dX11_layMost_152 rfl (lv_at hl 2 rfl) ?_
                          refine lv_iadd S.1 S.2.1 dX11_layMost_153 ?_
                          refine lv_iload_n S.1 S.2.1 dX11_layMost_154 rfl (lv_at hl 3 rfl) ?_
                          have e_15 : ∀ _ : Unit, (((256 : Int32) * x1_3)).toInt = 256 * (x1_3).toInt := fun _ => xmul rfl rfl (by omega) (by omega)
                          have e_16 : ∀ _ : Unit, ((((256 : Int32) * x1_3) + x2_6)).toInt = (256 * (x1_3).toInt) + (x2_6).toInt := fun _ => xadd (e_15 ()) rfl (by omega) (by omega)
                          refine xast S hK hw 19 0 rfl rfl (xvi (e_16 ()) (by omega) (by omega)) (sM_19 _ _ _ _) dX11_layMost_155 (fun H locs hw => ?_)
                          refine lv_iinc (v := (x2_6 + (1 : Int32))) (lv' := [(2, .int (x2_6 + (1 : Int32))), (0, .ref (a 0)), (1, .int x1_3), (3, .int x3_13), (4, .int x4_13)]) S.1 S.2.1 dX11_layMost_156 hl (k := 2) rfl rfl (by decide) rfl (fun ls hl => ?_)
                          refine lv_goto (tgt := 44) S.1 S.2.1 dX11_layMost_159 (by decide) ?_
                          have e_18 : ∀ _ : Unit, ((x2_6 + (1 : Int32))).toInt = (x2_6).toInt + 1 := fun _ => xadd rfl rfl (by omega) (by omega)
                          clear hn_1 hn_3 hn_13
                          exact ih_6 (x2_6 + (1 : Int32)) (sp u_6 19 (upd (u_6.1 19) ((((256 : Int32) * x1_3) + x2_6)).toNatClampNeg x3_13)) _ _ _ (show 0 ≤ ((x2_6 + (1 : Int32))).toInt from by rw [(e_18 ())]; omega) (show (0 ≤ ((u_6.1 0 0)).toInt ∧ ((u_6.1 0 0)).toInt ≤ 8) from by omega) (show (0 ≤ ((u_6.1 0 5)).toInt ∧ ((u_6.1 0 5)).toInt ≤ 6) from by omega) (show 256 - ((x2_6 + (1 : Int32))).toInt < (n_6 : Int) ∧ 1 ≤ n_6 from by rw [(e_18 ())]; omega) (lv_sub hl [1, 2, 0] rfl) hw hV
                        · replace hV := hV.trans (if_neg c_14)
                          have gc_14 : (x4_13).toInt < ((u_6.1 0 0)).toInt := xq_nle c_14 rfl rfl
                          refine lv_aload_n S.1 S.2.1 dX11_layMost_78 rfl (lv_at hl 0 rfl) ?_
                          refine lv_iload_n S.1 S.2.1 dX11_layMost_79 rfl (lv_at hl 1 rfl) ?_
                          refine lv_iload S.1 S.2.1 dX11_layMost_80 (lv_at hl 4 rfl) ?_
                          refine xci (rest := []) S hK hE hA hw yfX11_may (c_m_may l D a Y ts _ x1_3 x4_13 (show (0 ≤ ((u_6.1 0 0)).toInt ∧ ((u_6.1 0 0)).toInt ≤ 8) from by omega) (show (0 ≤ ((u_6.1 0 5)).toInt ∧ ((u_6.1 0 5)).toInt ≤ 6) from by omega) (show 0 ≤ (x1_3).toInt ∧ (x1_3).toInt < 6 from by omega) (show 0 ≤ (x4_13).toInt ∧ (x4_13).toInt < 8 from by omega)) 0 rfl rfl mlX11_153 rfl rfl hl.1 ⟨rfl, rfl, Nat.le_of_ble_eq_true rfl, Nat.le_of_ble_eq_true rfl, Nat.le_of_ble_eq_true rfl, Nat.zero_le _, Nat.zero_le _⟩ dX11_layMost_82 (fun H locs hw => ?_)
                          refine lv_if_eq (tgt := 121) S.1 S.2.1 dX11_layMost_85 (by decide) (fun c_19 => ?_) (fun c_19 => ?_)
                          · replace hV := hV.trans (if_pos c_19)
                            have gc_19 : ((b2i (m_may u_6 x1_3 x4_13))).toInt = 0 := xq_eq c_19 rfl rfl
                            refine lv_iconst (v := 0) S.1 S.2.1 dX11_layMost_121 (by decide) ?_
                            refine lv_istore (lv' := [(5, .int (0 : Int32)), (0, .ref (a 0)), (1, .int x1_3), (2, .int x2_6), (3, .int x3_13), (4, .int x4_13)]) S.1 S.2.1 dX11_layMost_122 hl (by decide) rfl (fun ls hl => ?_)
                            refine lv_iload S.1 S.2.1 dX11_layMost_124 (lv_at hl 0 rfl) ?_
                            refine lv_iload_n S.1 S.2.1 dX11_layMost_126 rfl (lv_at hl 4 rfl) ?_
                            refine lv_icmp_le (tgt := 135) S.1 S.2.1 dX11_layMost_127 (by decide) (fun c_20 => ?_) (fun c_20 => ?_)
                            · replace hV := hV.trans (if_pos c_20)
                              have gc_20 : 0 ≤ (x3_13).toInt := xq_le c_20 rfl rfl
                              refine lv_iload_n S.1 S.2.1 dX11_layMost_135 rfl (lv_at hl 4 rfl) ?_
                              refine lv_istore_n (lv' := [(3, .int x3_13), (5, .int (0 : Int32)), (0, .ref (a 0)), (1, .int x1_3), (2, .int x2_6), (4, .int x4_13)]) S.1 S.2.1 dX11_layMost_136 rfl hl (by decide) rfl (fun ls hl => ?_)
                              refine lv_iinc (v := (x4_13 + (1 : Int32))) (lv' := [(4, .int (x4_13 + (1 : Int32))), (3, .int x3_13), (5, .int (0 : Int32)), (0, .ref (a 0)), (1, .int x1_3), (2, .int x2_6)]) S.1 S.2.1 dX11_layMost_137 hl (k := 5) rfl rfl (by decide) rfl (fun ls hl => ?_)
                              refine lv_goto (tgt := 69) S.1 S.2.1 dX11_layMost_140 (by decide) ?_
                              have e_21 : ∀ _ : Unit, ((x4_13 + (1 : Int32))).toInt = (x4_13).toInt + 1 := fun _ => xadd rfl rfl (by omega) (by omega)
                              clear hn_1 hn_3 hn_6
                              exact ih_13 x3_13 (x4_13 + (1 : Int32)) _ _ _ (show 0 ≤ ((x4_13 + (1 : Int32))).toInt from by rw [(e_21 ())]; omega) (show ((u_6.1 0 0)).toInt - ((x4_13 + (1 : Int32))).toInt < (n_13 : Int) ∧ 1 ≤ n_13 from by rw [(e_21 ())]; omega) (lv_sub hl [3, 4, 5, 1, 0] rfl) hw hV
                            · replace hV := hV.trans (if_neg c_20)
                              have gc_20 : (x3_13).toInt < 0 := xq_nle c_20 rfl rfl
                              refine lv_iload S.1 S.2.1 dX11_layMost_130 (lv_at hl 0 rfl) ?_
                              refine lv_goto (tgt := 136) S.1 S.2.1 dX11_layMost_132 (by decide) ?_
                              refine lv_istore_n (lv' := [(3, .int (0 : Int32)), (5, .int (0 : Int32)), (0, .ref (a 0)), (1, .int x1_3), (2, .int x2_6), (4, .int x4_13)]) S.1 S.2.1 dX11_layMost_136 rfl hl (by decide) rfl (fun ls hl => ?_)
                              refine lv_iinc (v := (x4_13 + (1 : Int32))) (lv' := [(4, .int (x4_13 + (1 : Int32))), (3, .int (0 : Int32)), (5, .int (0 : Int32)), (0, .ref (a 0)), (1, .int x1_3), (2, .int x2_6)]) S.1 S.2.1 dX11_layMost_137 hl (k := 5) rfl rfl (by decide) rfl (fun ls hl => ?_)
                              refine lv_goto (tgt := 69) S.1 S.2.1 dX11_layMost_140 (by decide) ?_
                              have e_22 : ∀ _ : Unit, ((x4_13 + (1 : Int32))).toInt = (x4_13).toInt + 1 := fun _ => xadd rfl rfl (by omega) (by omega)
                              clear hn_1 hn_3 hn_6
                              exact ih_13 (0 : Int32) (x4_13 + (1 : Int32)) _ _ _ (show 0 ≤ ((x4_13 + (1 : Int32))).toInt from by rw [(e_22 ())]; omega) (show ((u_6.1 0 0)).toInt - ((x4_13 + (1 : Int32))).toInt < (n_13 : Int) ∧ 1 ≤ n_13 from by rw [(e_22 ())]; omega) (lv_sub hl [3, 4, 5, 1, 0] rfl) hw hV
                          · replace hV := hV.trans (if_neg c_19)
                            have gc_19 : ¬ ((b2i (m_may u_6 x1_3 x4_13))).toInt = 0 := xq_ne c_19 rfl rfl
                            refine lv_iload_n S.1 S.2.1 dX11_layMost_88 rfl (lv_at hl 2 rfl) ?_
                            refine lv_iload S.1 S.2.1 dX11_layMost_89 (lv_at hl 4 rfl) ?_
                            refine xcP (rest := []) S hw yfX11_has (c_m_has l x2_6 x4_13) mlX11_140 rfl rfl hl.1 ⟨rfl, rfl, Nat.le_of_ble_eq_true rfl, Nat.le_of_ble_eq_true rfl, Nat.le_of_ble_eq_true rfl, Nat.zero_le _, Nat.zero_le _⟩ dX11_layMost_91 (fun H locs hw => ?_)
                            refine lv_if_ne (tgt := 121) S.1 S.2.1 dX11_layMost_94 (by decide) (fun c_23 => ?_) (fun c_23 => ?_)
                            · replace hV := hV.trans (if_neg c_23)
                              have gc_23 : ¬ ((b2i (m_has x2_6 x4_13))).toInt = 0 := xq_ne c_23 rfl rfl
                              refine lv_iconst (v := 0) S.1 S.2.1 dX11_layMost_121 (by decide) ?_
                              refine lv_istore (lv' := [(5, .int (0 : Int32)), (0, .ref (a 0)), (1, .int x1_3), (2, .int x2_6), (3, .int x3_13), (4, .int x4_13)]) S.1 S.2.1 dX11_layMost_122 hl (by decide) rfl (fun ls hl => ?_)
                              refine lv_iload S.1 S.2.1 dX11_layMost_124 (lv_at hl 0 rfl) ?_
                              refine lv_iload_n S.1 S.2.1 dX11_layMost_126 rfl (lv_at hl 4 rfl) ?_
                              refine lv_icmp_le (tgt := 135) S.1 S.2.1 dX11_layMost_127 (by decide) (fun c_24 => ?_) (fun c_24 => ?_)
                              · replace hV := hV.trans (if_pos c_24)
                                have gc_24 : 0 ≤ (x3_13).toInt := xq_le c_24 rfl rfl
                                refine lv_iload_n S.1 S.2.1 dX11_layMost_135 rfl (lv_at hl 4 rfl) ?_
                                refine lv_istore_n (lv' := [(3, .int x3_13), (5, .int (0 : Int32)), (0, .ref (a 0)), (1, .int x1_3), (2, .int x2_6), (4, .int x4_13)]) S.1 S.2.1 dX11_layMost_136 rfl hl (by decide) rfl (fun ls hl => ?_)
                                refine lv_iinc (v := (x4_13 + (1 : Int32))) (lv' := [(4, .int (x4_13 + (1 : Int32))), (3, .int x3_13), (5, .int (0 : Int32)), (0, .ref (a 0)), (1, .int x1_3), (2, .int x2_6)]) S.1 S.2.1 dX11_layMost_137 hl (k := 5) rfl rfl (by decide) rfl (fun ls hl => ?_)
                                refine lv_goto (tgt := 69) S.1 S.2.1 dX11_layMost_140 (by decide) ?_
                                have e_25 : ∀ _ : Unit, ((x4_13 + (1 : Int32))).toInt = (x4_13).toInt + 1 := fun _ => xadd rfl rfl (by omega) (by omega)
                                clear hn_1 hn_3 hn_6
                                exact ih_13 x3_13 (x4_13 + (1 : Int32)) _ _ _ (show 0 ≤ ((x4_13 + (1 : Int32))).toInt from by rw [(e_25 ())]; omega) (show ((u_6.1 0 0)).toInt - ((x4_13 + (1 : Int32))).toInt < (n_13 : Int) ∧ 1 ≤ n_13 from by rw [(e_25 ())]; omega) (lv_sub hl [3, 4, 5, 1, 0] rfl) hw hV
                              · replace hV := hV.trans (if_neg c_24)
                                have gc_24 : (x3_13).toInt < 0 := xq_nle c_24 rfl rfl
                                refine lv_iload S.1 S.2.1 dX11_layMost_130 (lv_at hl 0 rfl) ?_
                                refine lv_goto (tgt := 136) S.1 S.2.1 dX11_layMost_132 (by decide) ?_
                                refine lv_istore_n (lv' := [(3, .int (0 : Int32)), (5, .int (0 : Int32)), (0, .ref (a 0)), (1, .int x1_3), (2, .int x2_6), (4, .int x4_13)]) S.1 S.2.1 dX11_layMost_136 rfl hl (by decide) rfl (fun ls hl => ?_)
                                refine lv_iinc (v := (x4_13 + (1 : Int32))) (lv' := [(4, .int (x4_13 + (1 : Int32))), (3, .int (0 : Int32)), (5, .int (0 : Int32)), (0, .ref (a 0)), (1, .int x1_3), (2, .int x2_6)]) S.1 S.2.1 dX11_layMost_137 hl (k := 5) rfl rfl (by decide) rfl (fun ls hl => ?_)
                                refine lv_goto (tgt := 69) S.1 S.2.1 dX11_layMost_140 (by decide) ?_
                                have e_26 : ∀ _ : Unit, ((x4_13 + (1 : Int32))).toInt = (x4_13).toInt + 1 := fun _ => xadd rfl rfl (by omega) (by omega)
                                clear hn_1 hn_3 hn_6
                                exact ih_13 (0 : Int32) (x4_13 + (1 : Int32)) _ _ _ (show 0 ≤ ((x4_13 + (1 : Int32))).toInt from by rw [(e_26 ())]; omega) (show ((u_6.1 0 0)).toInt - ((x4_13 + (1 : Int32))).toInt < (n_13 : Int) ∧ 1 ≤ n_13 from by rw [(e_26 ())]; omega) (lv_sub hl [3, 4, 5, 1, 0] rfl) hw hV
                            · replace hV := hV.trans (if_pos c_23)
                              have gc_23 : ((b2i (m_has x2_6 x4_13))).toInt = 0 := xq_eq c_23 rfl rfl
                              refine lv_iconst (v := 1) S.1 S.2.1 dX11_layMost_97 (by decide) ?_
                              refine lv_aload_n S.1 S.2.1 dX11_layMost_98 rfl (lv_at hl 0 rfl) ?_
                              refine xget (v := .ref (a 19)) S hK hw 0 rfl rfl inX11 31 (by decide) mfX11_65 rfl dX11_layMost_99 ?_
                              refine lv_sipush (v := 256) S.1 S.2.1 dX11_layMost_102 (by decide) ?_
                              refine lv_iload_n S.1 S.2.1 dX11_layMost_105 rfl (lv_at hl 1 rfl) ?_
                              refine lv_iconst (v := 1) S.1 S.2.1 dX11_layMost_106 (by decide) ?_
                              refine lv_iadd S.1 S.2.1 dX11_layMost_107 ?_
                              refine lv_imul S.1 S.2.1 dX11_layMost_108 ?_
                              refine lv_iload_n S.1 S.2.1 dX11_layMost_109 rfl (lv_at hl 2 rfl) ?_
                              refine lv_iconst (v := 1) S.1 S.2.1 dX11_layMost_110 (by decide) ?_
                              refine lv_iload S.1 S.2.1 dX11_layMost_111 (lv_at hl 4 rfl) ?_
                              refine lv_ishl S.1 S.2.1 dX11_layMost_113 ?_
                              refine lv_ior S.1 S.2.1 dX11_layMost_114 ?_
                              refine lv_iadd S.1 S.2.1 dX11_layMost_115 ?_
                              obtain ⟨ve_27, e_27, be_27⟩ := xsh1' (t := x4_13) (a := (x4_13).toInt) rfl (by omega) (by omega)
                              obtain ⟨ve_28, e_28, be_28⟩ := xor8' (x := x2_6) (y := ((1 : Int32) <<< (x4_13 &&& 31))) (a := (x2_6).toInt) (b := ve_27) rfl (e_27 ()) (by omega) (by omega) (by omega) (by omega)
                              have e_29 : ∀ _ : Unit, ((((256 : Int32) * (x1_3 + (1 : Int32))) + (x2_6 ||| ((1 : Int32) <<< (x4_13 &&& 31))))).toInt = (256 * ((x1_3).toInt + 1)) + ve_28 := fun _ => xadd (e_10 ()) (e_28 ()) (by omega) (by omega)
                              refine xald (f := u_6.1 19) S hK hw 19 0 rfl rfl (xvi (e_29 ()) (by omega) (by omega)) dX11_layMost_116 ?_
                              refine lv_iadd S.1 S.2.1 dX11_layMost_117 ?_
                              refine lv_goto (tgt := 122) S.1 S.2.1 dX11_layMost_118 (by decide) ?_
                              refine lv_istore (lv' := [(5, .int ((1 : Int32) + (u_6.1 19 ((((256 : Int32) * (x1_3 + (1 : Int32))) + (x2_6 ||| ((1 : Int32) <<< (x4_13 &&& 31))))).toNatClampNeg))), (0, .ref (a 0)), (1, .int x1_3), (2, .int x2_6), (3, .int x3_13), (4, .int x4_13)]) S.1 S.2.1 dX11_layMost_122 hl (by decide) rfl (fun ls hl => ?_)
                              refine lv_iload S.1 S.2.1 dX11_layMost_124 (lv_at hl 0 rfl) ?_
                              refine lv_iload_n S.1 S.2.1 dX11_layMost_126 rfl (lv_at hl 4 rfl) ?_
                              refine lv_icmp_le (tgt := 135) S.1 S.2.1 dX11_layMost_127 (by decide) (fun c_31 => ?_) (fun c_31 => ?_)
                              · replace hV := hV.trans (if_pos c_31)
                                refine lv_iload_n S.1 S.2.1 dX11_layMost_135 rfl (lv_at hl 4 rfl) ?_
                                refine lv_istore_n (lv' := [(3, .int x3_13), (5, .int ((1 : Int32) + (u_6.1 19 ((((256 : Int32) * (x1_3 + (1 : Int32))) + (x2_6 ||| ((1 : Int32) <<< (x4_13 &&& 31))))).toNatClampNeg))), (0, .ref (a 0)), (1, .int x1_3), (2, .int x2_6), (4, .int x4_13)]) S.1 S.2.1 dX11_layMost_136 rfl hl (by decide) rfl (fun ls hl => ?_)
                                refine lv_iinc (v := (x4_13 + (1 : Int32))) (lv' := [(4, .int (x4_13 + (1 : Int32))), (3, .int x3_13), (5, .int ((1 : Int32) + (u_6.1 19 ((((256 : Int32) * (x1_3 + (1 : Int32))) + (x2_6 ||| ((1 : Int32) <<< (x4_13 &&& 31))))).toNatClampNeg))), (0, .ref (a 0)), (1, .int x1_3), (2, .int x2_6)]) S.1 S.2.1 dX11_layMost_137 hl (k := 5) rfl rfl (by decide) rfl (fun ls hl => ?_)
                                refine lv_goto (tgt := 69) S.1 S.2.1 dX11_layMost_140 (by decide) ?_
                                have e_32 : ∀ _ : Unit, ((x4_13 + (1 : Int32))).toInt = (x4_13).toInt + 1 := fun _ => xadd rfl rfl (by omega) (by omega)
                                clear hn_1 hn_3 hn_6
                                exact ih_13 x3_13 (x4_13 + (1 : Int32)) _ _ _ (show 0 ≤ ((x4_13 + (1 : Int32))).toInt from by rw [(e_32 ())]; omega) (show ((u_6.1 0 0)).toInt - ((x4_13 + (1 : Int32))).toInt < (n_13 : Int) ∧ 1 ≤ n_13 from by rw [(e_32 ())]; omega) (lv_sub hl [3, 4, 5, 1, 0] rfl) hw hV
                              · replace hV := hV.trans (if_neg c_31)
                                refine lv_iload S.1 S.2.1 dX11_layMost_130 (lv_at hl 0 rfl) ?_
                                refine lv_goto (tgt := 136) S.1 S.2.1 dX11_layMost_132 (by decide) ?_
                                refine lv_istore_n (lv' := [(3, .int ((1 : Int32) + (u_6.1 19 ((((256 : Int32) * (x1_3 + (1 : Int32))) + (x2_6 ||| ((1 : Int32) <<< (x4_13 &&& 31))))).toNatClampNeg))), (5, .int ((1 : Int32) + (u_6.1 19 ((((256 : Int32) * (x1_3 + (1 : Int32))) + (x2_6 ||| ((1 : Int32) <<< (x4_13 &&& 31))))).toNatClampNeg))), (0, .ref (a 0)), (1, .int x1_3), (2, .int x2_6), (4, .int x4_13)]) S.1 S.2.1 dX11_layMost_136 rfl hl (by decide) rfl (fun ls hl => ?_)
                                refine lv_iinc (v := (x4_13 + (1 : Int32))) (lv' := [(4, .int (x4_13 + (1 : Int32))), (3, .int ((1 : Int32) + (u_6.1 19 ((((256 : Int32) * (x1_3 + (1 : Int32))) + (x2_6 ||| ((1 : Int32) <<< (x4_13 &&& 31))))).toNatClampNeg))), (5, .int ((1 : Int32) + (u_6.1 19 ((((256 : Int32) * (x1_3 + (1 : Int32))) + (x2_6 ||| ((1 : Int32) <<< (x4_13 &&& 31))))).toNatClampNeg))), (0, .ref (a 0)), (1, .int x1_3), (2, .int x2_6)]) S.1 S.2.1 dX11_layMost_137 hl (k := 5) rfl rfl (by decide) rfl (fun ls hl => ?_)
                                refine lv_goto (tgt := 69) S.1 S.2.1 dX11_layMost_140 (by decide) ?_
                                have e_33 : ∀ _ : Unit, ((x4_13 + (1 : Int32))).toInt = (x4_13).toInt + 1 := fun _ => xadd rfl rfl (by omega) (by omega)
                                clear hn_1 hn_3 hn_6
                                exact ih_13 ((1 : Int32) + (u_6.1 19 ((((256 : Int32) * (x1_3 + (1 : Int32))) + (x2_6 ||| ((1 : Int32) <<< (x4_13 &&& 31))))).toNatClampNeg)) (x4_13 + (1 : Int32)) _ _ _ (show 0 ≤ ((x4_13 + (1 : Int32))).toInt from by rw [(e_33 ())]; omega) (show ((u_6.1 0 0)).toInt - ((x4_13 + (1 : Int32))).toInt < (n_13 : Int) ∧ 1 ≤ n_13 from by rw [(e_33 ())]; omega) (lv_sub hl [3, 4, 5, 1, 0] rfl) hw hV
                    exact lp_13 9 (u_6.1 19 ((((256 : Int32) * (x1_3 + (1 : Int32))) + x2_6)).toNatClampNeg) (0 : Int32) _ _ _ (show 0 ≤ 0 from by omega) (show ((u_6.1 0 0)).toInt - 0 < ((9 : Nat) : Int) ∧ 1 ≤ (9 : Nat) from by omega) (lv_sub hl [2, 3, 4, 1, 0] rfl) hw hV
              exact lp_6 257 (0 : Int32) u_3 _ _ _ (show 0 ≤ 0 from by omega) (show (0 ≤ ((u_3.1 0 0)).toInt ∧ ((u_3.1 0 0)).toInt ≤ 8) from by omega) (show (0 ≤ ((u_3.1 0 5)).toInt ∧ ((u_3.1 0 5)).toInt ≤ 6) from by omega) (show 256 - 0 < ((257 : Nat) : Int) ∧ 1 ≤ (257 : Nat) from by omega) (lv_sub hl [1, 2, 0] rfl) hw hV
        exact lp_3 7 ((u_1.1 0 5) - (1 : Int32)) u_1 _ _ _ (show -1 ≤ (((u_1.1 0 5) - (1 : Int32))).toInt ∧ (((u_1.1 0 5) - (1 : Int32))).toInt ≤ (((u_1.1 0 5)).toInt - 1) from by rw [(e_4 ())]; omega) (show (0 ≤ ((u_1.1 0 0)).toInt ∧ ((u_1.1 0 0)).toInt ≤ 8) from by omega) (show (0 ≤ ((u_1.1 0 5)).toInt ∧ ((u_1.1 0 5)).toInt ≤ 6) from by omega) (show (((u_1.1 0 5) - (1 : Int32))).toInt + 1 < ((7 : Nat) : Int) ∧ 1 ≤ (7 : Nat) from by rw [(e_4 ())]; omega) (lv_sub hl [1, 0] rfl) hw hV
      · replace hV := hV.trans (if_neg c_2)
        have gc_2 : (x1_1).toInt < 256 := xq_nle c_2 rfl rfl
        refine lv_aload_n S.1 S.2.1 dX11_layMost_9 rfl (lv_at hl 0 rfl) ?_
        refine xget (v := .ref (a 19)) S hK hw 0 rfl rfl inX11 31 (by decide) mfX11_65 rfl dX11_layMost_10 ?_
        refine lv_sipush (v := 256) S.1 S.2.1 dX11_layMost_13 (by decide) ?_
        refine lv_aload_n S.1 S.2.1 dX11_layMost_16 rfl (lv_at hl 0 rfl) ?_
        refine xget (v := .int (u_1.1 0 5)) S hK hw 0 rfl rfl inX11 5 (by decide) mfX11_76 rfl dX11_layMost_17 ?_
        refine lv_imul S.1 S.2.1 dX11_layMost_20 ?_
        refine lv_iload_n S.1 S.2.1 dX11_layMost_21 rfl (lv_at hl 1 rfl) ?_
        refine lv_iadd S.1 S.2.1 dX11_layMost_22 ?_
        refine lv_iconst (v := 0) S.1 S.2.1 dX11_layMost_23 (by decide) ?_
        have e_34 : ∀ _ : Unit, (((256 : Int32) * (u_1.1 0 5))).toInt = 256 * ((u_1.1 0 5)).toInt := fun _ => xmul rfl rfl (by omega) (by omega)
        have e_35 : ∀ _ : Unit, ((((256 : Int32) * (u_1.1 0 5)) + x1_1)).toInt = (256 * ((u_1.1 0 5)).toInt) + (x1_1).toInt := fun _ => xadd (e_34 ()) rfl (by omega) (by omega)
        refine xast S hK hw 19 0 rfl rfl (xvi (e_35 ()) (by omega) (by omega)) (sM_19 _ _ _ _) dX11_layMost_24 (fun H locs hw => ?_)
        refine lv_iinc (v := (x1_1 + (1 : Int32))) (lv' := [(1, .int (x1_1 + (1 : Int32))), (0, .ref (a 0))]) S.1 S.2.1 dX11_layMost_25 hl (k := 1) rfl rfl (by decide) rfl (fun ls hl => ?_)
        refine lv_goto (tgt := 2) S.1 S.2.1 dX11_layMost_28 (by decide) ?_
        have e_37 : ∀ _ : Unit, ((x1_1 + (1 : Int32))).toInt = (x1_1).toInt + 1 := fun _ => xadd rfl rfl (by omega) (by omega)
        exact ih_1 (x1_1 + (1 : Int32)) (sp u_1 19 (upd (u_1.1 19) ((((256 : Int32) * (u_1.1 0 5)) + x1_1)).toNatClampNeg (0 : Int32))) _ _ _ (show 0 ≤ ((x1_1 + (1 : Int32))).toInt from by rw [(e_37 ())]; omega) (show (0 ≤ ((u_1.1 0 0)).toInt ∧ ((u_1.1 0 0)).toInt ≤ 8) from by omega) (show (0 ≤ ((u_1.1 0 5)).toInt ∧ ((u_1.1 0 5)).toInt ≤ 6) from by omega) (show 256 - ((x1_1 + (1 : Int32))).toInt < (n_1 : Int) ∧ 1 ≤ n_1 from by rw [(e_37 ())]; omega) (lv_sub hl [1, 0] rfl) hw hV
  exact lp_1 257 (0 : Int32) u _ _ _ (show 0 ≤ 0 from by omega) (show (0 ≤ ((u.1 0 0)).toInt ∧ ((u.1 0 0)).toInt ≤ 8) from by omega) (show (0 ≤ ((u.1 0 5)).toInt ∧ ((u.1 0 5)).toInt ≤ 6) from by omega) (show 256 - 0 < ((257 : Nat) : Int) ∧ 1 ≤ (257 : Nat) from by omega) (lv_sub hl [1, 0] rfl) hw hV
def m_odds_L95 (kk : Int32 → Int32 → Int32) (w : xU) (x1 : Int32) (x2 : Int32) (x3 : Int32) (x4 : Int32) (x5 : Int32) (x6 : Int32) (x7 : Int32) : Nat → Int32 → Int32 → Int32
  | 0, _, _ => 0
  | n + 1, x8, x9 =>
    (if x4 ≤ x9 then
    (if x2 < (m_bits x7) then
    kk (x5 + (0 : Int32)) (x7 + (1 : Int32))
    else
    kk (x5 + x8) (x7 + (1 : Int32)))
    else
    (if (b2i (m_has x7 x9)) = (0 : Int32) then
    m_odds_L95 kk w x1 x2 x3 x4 x5 x6 x7 n (x8 * ((10 : Int32) - x1)) (x9 + (1 : Int32))
    else
    m_odds_L95 kk w x1 x2 x3 x4 x5 x6 x7 n (x8 * x1) (x9 + (1 : Int32))))
def m_odds_L80 (w : xU) (x1 : Int32) (x2 : Int32) (x3 : Int32) (x4 : Int32) (x6 : Int32) : Nat → Int32 → Int32 → Int32
  | 0, _, _ => 0
  | n + 1, x5, x7 =>
    (if ((1 : Int32) <<< (x4 &&& 31)) ≤ x7 then
    (m_lowest x5 x6 x3)
    else
    m_odds_L95 (fun (z5 : Int32) (z7 : Int32) => m_odds_L80 w x1 x2 x3 x4 x6 n z5 z7) w x1 x2 x3 x4 x5 x6 x7 8 (1 : Int32) (0 : Int32))
def m_odds_L57 (w : xU) (x1 : Int32) (x2 : Int32) (x3 : Int32) (x4 : Int32) : Nat → Int32 → Int32 → Int32
  | 0, _, _ => 0
  | n + 1, x6, x7 =>
    (if x4 ≤ x7 then
    m_odds_L80 w x1 x2 x3 x4 x6 257 (0 : Int32) (0 : Int32)
    else
    m_odds_L57 w x1 x2 x3 x4 n (x6 * (10 : Int32)) (x7 + (1 : Int32)))
def m_odds (u : xU) (p1 : Int32) (p2 : Int32) (p3 : Int32) : Int32 :=
    (if (b2i (m_in p1 (0 : Int32) (10 : Int32))) = (0 : Int32) then
    (-1 : Int32)
    else
    (if (b2i (m_in p2 (0 : Int32) (6 : Int32))) = (0 : Int32) then
    (-1 : Int32)
    else
    (if (b2i (m_in p3 (0 : Int32) (1 : Int32))) = (0 : Int32) then
    (-1 : Int32)
    else
    m_odds_L57 u p1 p2 p3 ((u.1 0 5) - (m_bits (u.1 7 67))) 8 (1 : Int32) (0 : Int32))))
set_option maxHeartbeats 4000000 in
set_option maxRecDepth 100000 in
theorem c_m_odds (l : Launch) (D : va_G) (a : Nat → Nat) (Y : Nat → ClassId) (ts : Nat → Nat) (u : xU) (p1 : Int32) (p2 : Int32) (p3 : Int32) (hC : (0 ≤ ((u.1 0 5)).toInt ∧ ((u.1 0 5)).toInt ≤ 6)) (hr0 : 0 ≤ (((u.1 0 5) - (m_bits (u.1 7 67)))).toInt ∧ (((u.1 0 5) - (m_bits (u.1 7 67)))).toInt < 7) : xMi l yX11_odds cX11_odds 10 (some .int) (xRm 1 25) D (xty Y) (wM a Y) ts [.ref (a 0), .int p1, .int p2, .int p3] u ((m_odds u p1 p2 p3), u) := by
  suffices h : ∀ V, V = m_odds u p1 p2 p3 → xMi l yX11_odds cX11_odds 10 (some .int) (xRm 1 25) D (xty Y) (wM a Y) ts [.ref (a 0), .int p1, .int p2, .int p3] u (V, u) from h _ rfl
  intro V hV
  refine xofi RX11 rfl (by decide) (Nat.le_of_ble_eq_true rfl) ?_
  intro p e s m args below meth c ls H locs A S hr hlk hl hK hE hA hw
  have hl : lv_has ls 10 [(0, .ref (a 0)), (1, .int p1), (2, .int p2), (3, .int p3)] := hl
  obtain ⟨vsh, esh, bsh⟩ := xsh0' (t := ((u.1 0 5) - (m_bits (u.1 7 67)))) rfl (by omega) (by omega)
  refine lv_iload_n S.1 S.2.1 dX11_odds_0 rfl (lv_at hl 1 rfl) ?_
  refine lv_iconst (v := 0) S.1 S.2.1 dX11_odds_1 (by decide) ?_
  refine lv_bipush (v := 10) S.1 S.2.1 dX11_odds_2 (by decide) ?_
  refine xcP (rest := []) S hw yfX11_in (c_m_in l p1 (0 : Int32) (10 : Int32)) mlX11_72 rfl rfl hl.1 ⟨rfl, rfl, Nat.le_of_ble_eq_true rfl, Nat.le_of_ble_eq_true rfl, Nat.le_of_ble_eq_true rfl, Nat.zero_le _, Nat.zero_le _⟩ dX11_odds_4 (fun H locs hw => ?_)
  refine lv_if_eq (tgt := 29) S.1 S.2.1 dX11_odds_7 (by decide) (fun c_1 => ?_) (fun c_1 => ?_)
  · replace hV := hV.trans (if_pos c_1)
    have gc_1 : ((b2i (m_in p1 (0 : Int32) (10 : Int32)))).toInt = 0 := xq_eq c_1 rfl rfl
    refine lv_iconst (v := -1) S.1 S.2.1 dX11_odds_29 (by decide) ?_
    exact xri S hr hlk hw (congrArg (fun b => (b, u)) hV) dX11_odds_30
  · replace hV := hV.trans (if_neg c_1)
    have gc_1 : ¬ ((b2i (m_in p1 (0 : Int32) (10 : Int32)))).toInt = 0 := xq_ne c_1 rfl rfl
    have fc_1 : 0 ≤ (p1).toInt ∧ (p1).toInt ≤ 10 := hk_in' c_1 rfl rfl rfl
    refine lv_iload_n S.1 S.2.1 dX11_odds_10 rfl (lv_at hl 2 rfl) ?_
    refine lv_iconst (v := 0) S.1 S.2.1 dX11_odds_11 (by decide) ?_
    refine lv_bipush (v := 6) S.1 S.2.1 dX11_odds_12 (by decide) ?_
    refine xcP (rest := []) S hw yfX11_in (c_m_in l p2 (0 : Int32) (6 : Int32)) mlX11_72 rfl rfl hl.1 ⟨rfl, rfl, Nat.le_of_ble_eq_true rfl, Nat.le_of_ble_eq_true rfl, Nat.le_of_ble_eq_true rfl, Nat.zero_le _, Nat.zero_le _⟩ dX11_odds_14 (fun H locs hw => ?_)
    refine lv_if_eq (tgt := 29) S.1 S.2.1 dX11_odds_17 (by decide) (fun c_2 => ?_) (fun c_2 => ?_)
    · replace hV := hV.trans (if_pos c_2)
      have gc_2 : ((b2i (m_in p2 (0 : Int32) (6 : Int32)))).toInt = 0 := xq_eq c_2 rfl rfl
      refine lv_iconst (v := -1) S.1 S.2.1 dX11_odds_29 (by decide) ?_
      exact xri S hr hlk hw (congrArg (fun b => (b, u)) hV) dX11_odds_30
    · replace hV := hV.trans (if_neg c_2)
      have gc_2 : ¬ ((b2i (m_in p2 (0 : Int32) (6 : Int32)))).toInt = 0 := xq_ne c_2 rfl rfl
      have fc_2 : 0 ≤ (p2).toInt ∧ (p2).toInt ≤ 6 := hk_in' c_2 rfl rfl rfl
      refine lv_iload_n S.1 S.2.1 dX11_odds_20 rfl (lv_at hl 3 rfl) ?_
      refine lv_iconst (v := 0) S.1 S.2.1 dX11_odds_21 (by decide) ?_
      refine lv_iconst (v := 1) S.1 S.2.1 dX11_odds_22 (by decide) ?_
      refine xcP (rest := []) S hw yfX11_in (c_m_in l p3 (0 : Int32) (1 : Int32)) mlX11_72 rfl rfl hl.1 ⟨rfl, rfl, Nat.le_of_ble_eq_true rfl, Nat.le_of_ble_eq_true rfl, Nat.le_of_ble_eq_true rfl, Nat.zero_le _, Nat.zero_le _⟩ dX11_odds_23 (fun H locs hw => ?_)
      refine lv_if_ne (tgt := 31) S.1 S.2.1 dX11_odds_26 (by decide) (fun c_3 => ?_) (fun c_3 => ?_)
      · replace hV := hV.trans (if_neg c_3)
        have gc_3 : ¬ ((b2i (m_in p3 (0 : Int32) (1 : Int32)))).toInt = 0 := xq_ne c_3 rfl rfl
        have fc_3 : 0 ≤ (p3).toInt ∧ (p3).toInt ≤ 1 := hk_in' c_3 rfl rfl rfl
        refine lv_aload_n S.1 S.2.1 dX11_odds_31 rfl (lv_at hl 0 rfl) ?_
        refine xget (v := .int (u.1 0 5)) S hK hw 0 rfl rfl inX11 5 (by decide) mfX11_76 rfl dX11_odds_32 ?_
        refine lv_aload_n S.1 S.2.1 dX11_odds_35 rfl (lv_at hl 0 rfl) ?_
        refine xget (v := .ref (a 7)) S hK hw 0 rfl rfl inX11 8 (by decide) mfX11_28 rfl dX11_odds_36 ?_
        refine lv_bipush (v := 67) S.1 S.2.1 dX11_odds_39 (by decide) ?_
        refine xaldc (f := u.1 7) (x := (u.1 7 67)) (k := 67) S hK hw 7 0 rfl rfl (by decide) rfl (xvi (a := 67) rfl (by decide) (by decide)) dX11_odds_41 ?_
        refine xcP (rest := [.int (u.1 0 5)]) S hw yfX11_bits (c_m_bits l (u.1 7 67)) mlX11_175 rfl rfl hl.1 ⟨rfl, rfl, Nat.le_of_ble_eq_true rfl, Nat.le_of_ble_eq_true rfl, Nat.le_of_ble_eq_true rfl, Nat.zero_le _, Nat.zero_le _⟩ dX11_odds_42 (fun H locs hw => ?_)
        refine lv_isub S.1 S.2.1 dX11_odds_45 ?_
        refine lv_istore (lv' := [(4, .int ((u.1 0 5) - (m_bits (u.1 7 67)))), (0, .ref (a 0)), (1, .int p1), (2, .int p2), (3, .int p3)]) S.1 S.2.1 dX11_odds_46 hl (by decide) rfl (fun ls hl => ?_)
        refine lv_iconst (v := 0) S.1 S.2.1 dX11_odds_48 (by decide) ?_
        refine lv_istore (lv' := [(5, .int (0 : Int32)), (4, .int ((u.1 0 5) - (m_bits (u.1 7 67)))), (0, .ref (a 0)), (1, .int p1), (2, .int p2), (3, .int p3)]) S.1 S.2.1 dX11_odds_49 hl (by decide) rfl (fun ls hl => ?_)
        refine lv_iconst (v := 1) S.1 S.2.1 dX11_odds_51 (by decide) ?_
        refine lv_istore (lv' := [(6, .int (1 : Int32)), (5, .int (0 : Int32)), (4, .int ((u.1 0 5) - (m_bits (u.1 7 67)))), (0, .ref (a 0)), (1, .int p1), (2, .int p2), (3, .int p3)]) S.1 S.2.1 dX11_odds_52 hl (by decide) rfl (fun ls hl => ?_)
        refine lv_iconst (v := 0) S.1 S.2.1 dX11_odds_54 (by decide) ?_
        refine lv_istore (lv' := [(7, .int (0 : Int32)), (6, .int (1 : Int32)), (5, .int (0 : Int32)), (4, .int ((u.1 0 5) - (m_bits (u.1 7 67)))), (0, .ref (a 0)), (1, .int p1), (2, .int p2), (3, .int p3)]) S.1 S.2.1 dX11_odds_55 hl (by decide) rfl (fun ls hl => ?_)
        have lp_4 : ∀ (n_4 : Nat) (x6_4 : Int32) (x7_4 : Int32) (H : Heap) (locs : List Loc) (ls : Array Slot), (0 ≤ (x7_4).toInt) → (((x7_4).toInt = 0 ∧ (x6_4).toInt = 1) ∨ ((x7_4).toInt = 1 ∧ (x6_4).toInt = 10) ∨ ((x7_4).toInt = 2 ∧ (x6_4).toInt = 100) ∨ ((x7_4).toInt = 3 ∧ (x6_4).toInt = 1000) ∨ ((x7_4).toInt = 4 ∧ (x6_4).toInt = 10000) ∨ ((x7_4).toInt = 5 ∧ (x6_4).toInt = 100000) ∨ ((x7_4).toInt = 6 ∧ (x6_4).toInt = 1000000)) → ((((u.1 0 5) - (m_bits (u.1 7 67)))).toInt - (x7_4).toInt < (n_4 : Int) ∧ 1 ≤ n_4) → lv_has ls 10 [(1, .int p1), (2, .int p2), (3, .int p3), (4, .int ((u.1 0 5) - (m_bits (u.1 7 67)))), (5, .int (0 : Int32)), (6, .int x6_4), (7, .int x7_4)] → xw D (wM a Y) A s.heap H locs u → V = m_odds_L57 u p1 p2 p3 ((u.1 0 5) - (m_bits (u.1 7 67))) n_4 x6_4 x7_4 → W p l e (xRm 1 25) s m args below meth c H locs 0 0 (MQ below (va_Qi (fun r v => (r, v) = (V, u)) (xPost D (wM a Y) A) A) args s 0 0 A) (F0 m 57 ls []) := by
          intro n_4
          induction n_4 with
          | zero => intro x6_4 x7_4 H locs ls i0_4 i1_4 hn; exact absurd hn.2 (by decide)
          | succ n_4 ih_4 =>
            intro x6_4 x7_4 H locs ls i0_4 i1_4 hn_4 hl hw hV
            refine lv_iload S.1 S.2.1 dX11_odds_57 (lv_at hl 6 rfl) ?_
            refine lv_iload S.1 S.2.1 dX11_odds_59 (lv_at hl 3 rfl) ?_
            refine lv_icmp_ge (tgt := 77) S.1 S.2.1 dX11_odds_61 (by decide) (fun c_5 => ?_) (fun c_5 => ?_)
            · replace hV := hV.trans (if_pos c_5)
              have gc_5 : (((u.1 0 5) - (m_bits (u.1 7 67)))).toInt ≤ (x7_4).toInt := xq_le c_5 rfl rfl
              refine lv_iconst (v := 0) S.1 S.2.1 dX11_odds_77 (by decide) ?_
              refine lv_istore (lv' := [(7, .int (0 : Int32)), (1, .int p1), (2, .int p2), (3, .int p3), (4, .int ((u.1 0 5) - (m_bits (u.1 7 67)))), (5, .int (0 : Int32)), (6, .int x6_4)]) S.1 S.2.1 dX11_odds_78 hl (by decide) rfl (fun ls hl => ?_)
              have lp_6 : ∀ (n_6 : Nat) (x5_6 : Int32) (x7_6 : Int32) (H : Heap) (locs : List Loc) (ls : Array Slot), (0 ≤ (x7_6).toInt) → (vsh - (x7_6).toInt < (n_6 : Int) ∧ 1 ≤ n_6) → lv_has ls 10 [(1, .int p1), (2, .int p2), (3, .int p3), (4, .int ((u.1 0 5) - (m_bits (u.1 7 67)))), (5, .int x5_6), (6, .int x6_4), (7, .int x7_6)] → xw D (wM a Y) A s.heap H locs u → V = m_odds_L80 u p1 p2 p3 ((u.1 0 5) - (m_bits (u.1 7 67))) x6_4 n_6 x5_6 x7_6 → W p l e (xRm 1 25) s m args below meth c H locs 0 0 (MQ below (va_Qi (fun r v => (r, v) = (V, u)) (xPost D (wM a Y) A) A) args s 0 0 A) (F0 m 80 ls []) := by
                intro n_6
                induction n_6 with
                | zero => intro x5_6 x7_6 H locs ls i0_6 hn; exact absurd hn.2 (by decide)
                | succ n_6 ih_6 =>
                  intro x5_6 x7_6 H locs ls i0_6 hn_6 hl hw hV
                  refine lv_iload S.1 S.2.1 dX11_odds_80 (lv_at hl 6 rfl) ?_
                  refine lv_iconst (v := 1) S.1 S.2.1 dX11_odds_82 (by decide) ?_
                  refine lv_iload S.1 S.2.1 dX11_odds_83 (lv_at hl 3 rfl) ?_
                  refine lv_ishl S.1 S.2.1 dX11_odds_85 ?_
                  refine lv_icmp_ge (tgt := 157) S.1 S.2.1 dX11_odds_86 (by decide) (fun c_7 => ?_) (fun c_7 => ?_)
                  · replace hV := hV.trans (if_pos c_7)
                    have gc_7 : vsh ≤ (x7_6).toInt := xq_le c_7 (esh ()) rfl
                    refine lv_iload S.1 S.2.1 dX11_odds_157 (lv_at hl 4 rfl) ?_
                    refine lv_iload S.1 S.2.1 dX11_odds_159 (lv_at hl 5 rfl) ?_
                    refine lv_iload_n S.1 S.2.1 dX11_odds_161 rfl (lv_at hl 2 rfl) ?_
                    refine xcP (rest := []) S hw yfX11_lowest (c_m_lowest l x5_6 x6_4 p3 (show 1 ≤ (x6_4).toInt ∧ (x6_4).toInt < 2147483648 from by omega)) mlX11_218 rfl rfl hl.1 ⟨rfl, rfl, Nat.le_of_ble_eq_true rfl, Nat.le_of_ble_eq_true rfl, Nat.le_of_ble_eq_true rfl, Nat.zero_le _, Nat.zero_le _⟩ dX11_odds_162 (fun H locs hw => ?_)
                    exact xri S hr hlk hw (congrArg (fun b => (b, u)) hV) dX11_odds_165
                  · replace hV := hV.trans (if_neg c_7)
                    have gc_7 : (x7_6).toInt < vsh := xq_nle c_7 (esh ()) rfl
                    refine lv_iconst (v := 1) S.1 S.2.1 dX11_odds_89 (by decide) ?_
                    refine lv_istore (lv' := [(8, .int (1 : Int32)), (1, .int p1), (2, .int p2), (3, .int p3), (4, .int ((u.1 0 5) - (m_bits (u.1 7 67)))), (5, .int x5_6), (6, .int x6_4), (7, .int x7_6)]) S.1 S.2.1 dX11_odds_90 hl (by decide) rfl (fun ls hl => ?_)
                    refine lv_iconst (v := 0) S.1 S.2.1 dX11_odds_92 (by decide) ?_
                    refine lv_istore (lv' := [(9, .int (0 : Int32)), (8, .int (1 : Int32)), (1, .int p1), (2, .int p2), (3, .int p3), (4, .int ((u.1 0 5) - (m_bits (u.1 7 67)))), (5, .int x5_6), (6, .int x6_4), (7, .int x7_6)]) S.1 S.2.1 dX11_odds_93 hl (by decide) rfl (fun ls hl => ?_)
                    have lp_8 : ∀ (n_8 : Nat) (x8_8 : Int32) (x9_8 : Int32) (H : Heap) (locs : List Loc) (ls : Array Slot), (0 ≤ (x9_8).toInt) → ((((u.1 0 5) - (m_bits (u.1 7 67)))).toInt - (x9_8).toInt < (n_8 : Int) ∧ 1 ≤ n_8) → lv_has ls 10 [(1, .int p1), (2, .int p2), (3, .int p3), (4, .int ((u.1 0 5) - (m_bits (u.1 7 67)))), (5, .int x5_6), (6, .int x6_4), (7, .int x7_6), (8, .int x8_8), (9, .int x9_8)] → xw D (wM a Y) A s.heap H locs u → V = m_odds_L95 (fun (z5 : Int32) (z7 : Int32) => m_odds_L80 u p1 p2 p3 ((u.1 0 5) - (m_bits (u.1 7 67))) x6_4 n_6 z5 z7) u p1 p2 p3 ((u.1 0 5) - (m_bits (u.1 7 67))) x5_6 x6_4 x7_6 n_8 x8_8 x9_8 → W p l e (xRm 1 25) s m args below meth c H locs 0 0 (MQ below (va_Qi (fun r v => (r, v) = (V, u)) (xPost D (wM a Y) A) A) args s 0 0 A) (F0 m 95 ls []) := by
                      intro n_8
                      induction n_8 with
                      | zero => intro x8_8 x9_8 H locs ls i0_8 hn; exact absurd hn.2 (by decide)
                      | succ n_8 ih_8 =>
                        intro x8_8 x9_8 H locs ls i0_8 hn_8 hl hw hV
                        refine lv_iload S.1 S.2.1 dX11_odds_95 (lv_at hl 8 rfl) ?_
                        refine lv_iload S.1 S.2.1 dX11_odds_97 (lv_at hl 3 rfl) ?_
                        refine lv_icmp_ge (tgt := 131) S.1 S.2.1 dX11_odds_99 (by decide) (fun c_9 => ?_) (fun c_9 => ?_)
                        · replace hV := hV.trans (if_pos c_9)
                          have gc_9 : (((u.1 0 5) - (m_bits (u.1 7 67)))).toInt ≤ (x9_8).toInt := xq_le c_9 rfl rfl
                          refine lv_iload S.1 S.2.1 dX11_odds_131 (lv_at hl 4 rfl) ?_
                          refine lv_iload S.1 S.2.1 dX11_odds_133 (lv_at hl 6 rfl) ?_
                          refine xcP (rest := [.int x5_6]) S hw yfX11_bits (c_m_bits l x7_6) mlX11_175 rfl rfl hl.1 ⟨rfl, rfl, Nat.le_of_ble_eq_true rfl, Nat.le_of_ble_eq_true rfl, Nat.le_of_ble_eq_true rfl, Nat.zero_le _, Nat.zero_le _⟩ dX11_odds_135 (fun H locs hw => ?_)
                          refine lv_iload_n S.1 S.2.1 dX11_odds_138 rfl (lv_at hl 1 rfl) ?_
                          refine lv_icmp_gt (tgt := 147) S.1 S.2.1 dX11_odds_139 (by decide) (fun c_10 => ?_) (fun c_10 => ?_)
                          · replace hV := hV.trans (if_pos c_10)
                            have gc_10 : (p2).toInt < ((m_bits x7_6)).toInt := xq_lt c_10 rfl rfl
                            refine lv_iconst (v := 0) S.1 S.2.1 dX11_odds_147 (by decide) ?_
                            refine lv_iadd S.1 S.2.1 dX11_odds_148 ?_
                            refine lv_istore (lv' := [(5, .int (x5_6 + (0 : Int32))), (1, .int p1), (2, .int p2), (3, .int p3), (4, .int ((u.1 0 5) - (m_bits (u.1 7 67)))), (6, .int x6_4), (7, .int x7_6), (8, .int x8_8), (9, .int x9_8)]) S.1 S.2.1 dX11_odds_149 hl (by decide) rfl (fun ls hl => ?_)
                            refine lv_iinc (v := (x7_6 + (1 : Int32))) (lv' := [(7, .int (x7_6 + (1 : Int32))), (5, .int (x5_6 + (0 : Int32))), (1, .int p1), (2, .int p2), (3, .int p3), (4, .int ((u.1 0 5) - (m_bits (u.1 7 67)))), (6, .int x6_4), (8, .int x8_8), (9, .int x9_8)]) S.1 S.2.1 dX11_odds_151 hl (k := 6) rfl rfl (by decide) rfl (fun ls hl => ?_)
                            refine lv_goto (tgt := 80) S.1 S.2.1 dX11_odds_154 (by decide) ?_
                            have e_11 : ∀ _ : Unit, ((x7_6 + (1 : Int32))).toInt = (x7_6).toInt + 1 := fun _ => xadd rfl rfl (by omega) (by omega)
                            clear hn_4 hn_8
                            exact ih_6 (x5_6 + (0 : Int32)) (x7_6 + (1 : Int32)) _ _ _ (show 0 ≤ ((x7_6 + (1 : Int32))).toInt from by rw [(e_11 ())]; omega) (show vsh - ((x7_6 + (1 : Int32))).toInt < (n_6 : Int) ∧ 1 ≤ n_6 from by rw [(e_11 ())]; omega) (lv_sub hl [2, 3, 4, 5, 1, 6, 0] rfl) hw hV
                          · replace hV := hV.trans (if_neg c_10)
                            have gc_10 : ((m_bits x7_6)).toInt ≤ (p2).toInt := xq_nlt c_10 rfl rfl
                            refine lv_iload S.1 S.2.1 dX11_odds_142 (lv_at hl 7 rfl) ?_
                            refine lv_goto (tgt := 148) S.1 S.2.1 dX11_odds_144 (by decide) ?_
                            refine lv_iadd S.1 S.2.1 dX11_odds_148 ?_
                            refine lv_istore (lv' := [(5, .int (x5_6 + x8_8)), (1, .int p1), (2, .int p2), (3, .int p3), (4, .int ((u.1 0 5) - (m_bits (u.1 7 67)))), (6, .int x6_4), (7, .int x7_6), (8, .int x8_8), (9, .int x9_8)]) S.1 S.2.1 dX11_odds_149 hl (by decide) rfl (fun ls hl => ?_)
                            refine lv_iinc (v := (x7_6 + (1 : Int32))) (lv' := [(7, .int (x7_6 + (1 : Int32))), (5, .int (x5_6 + x8_8)), (1, .int p1), (2, .int p2), (3, .int p3), (4, .int ((u.1 0 5) - (m_bits (u.1 7 67)))), (6, .int x6_4), (8, .int x8_8), (9, .int x9_8)]) S.1 S.2.1 dX11_odds_151 hl (k := 6) rfl rfl (by decide) rfl (fun ls hl => ?_)
                            refine lv_goto (tgt := 80) S.1 S.2.1 dX11_odds_154 (by decide) ?_
                            have e_12 : ∀ _ : Unit, ((x7_6 + (1 : Int32))).toInt = (x7_6).toInt + 1 := fun _ => xadd rfl rfl (by omega) (by omega)
                            clear hn_4 hn_8
                            exact ih_6 (x5_6 + x8_8) (x7_6 + (1 : Int32)) _ _ _ (show 0 ≤ ((x7_6 + (1 : Int32))).toInt from by rw [(e_12 ())]; omega) (show vsh - ((x7_6 + (1 : Int32))).toInt < (n_6 : Int) ∧ 1 ≤ n_6 from by rw [(e_12 ())]; omega) (lv_sub hl [2, 3, 4, 5, 1, 6, 0] rfl) hw hV
                        · replace hV := hV.trans (if_neg c_9)
                          have gc_9 : (x9_8).toInt < (((u.1 0 5) - (m_bits (u.1 7 67)))).toInt := xq_nle c_9 rfl rfl
                          refine lv_iload S.1 S.2.1 dX11_odds_102 (lv_at hl 7 rfl) ?_
                          refine lv_iload S.1 S.2.1 dX11_odds_104 (lv_at hl 6 rfl) ?_
                          refine lv_iload S.1 S.2.1 dX11_odds_106 (lv_at hl 8 rfl) ?_
                          refine xcP (rest := [.int x8_8]) S hw yfX11_has (c_m_has l x7_6 x9_8) mlX11_140 rfl rfl hl.1 ⟨rfl, rfl, Nat.le_of_ble_eq_true rfl, Nat.le_of_ble_eq_true rfl, Nat.le_of_ble_eq_true rfl, Nat.zero_le _, Nat.zero_le _⟩ dX11_odds_108 (fun H locs hw => ?_)
                          refine lv_if_eq (tgt := 118) S.1 S.2.1 dX11_odds_111 (by decide) (fun c_13 => ?_) (fun c_13 => ?_)
                          · replace hV := hV.trans (if_pos c_13)
                            have gc_13 : ((b2i (m_has x7_6 x9_8))).toInt = 0 := xq_eq c_13 rfl rfl
                            refine lv_bipush (v := 10) S.1 S.2.1 dX11_odds_118 (by decide) ?_
                            refine lv_iload_n S.1 S.2.1 dX11_odds_120 rfl (lv_at hl 0 rfl) ?_
                            refine lv_isub S.1 S.2.1 dX11_odds_121 ?_
                            refine lv_imul S.1 S.2.1 dX11_odds_122 ?_
                            refine lv_istore (lv' := [(8, .int (x8_8 * ((10 : Int32) - p1))), (1, .int p1), (2, .int p2), (3, .int p3), (4, .int ((u.1 0 5) - (m_bits (u.1 7 67)))), (5, .int x5_6), (6, .int x6_4), (7, .int x7_6), (9, .int x9_8)]) S.1 S.2.1 dX11_odds_123 hl (by decide) rfl (fun ls hl => ?_)
                            refine lv_iinc (v := (x9_8 + (1 : Int32))) (lv' := [(9, .int (x9_8 + (1 : Int32))), (8, .int (x8_8 * ((10 : Int32) - p1))), (1, .int p1), (2, .int p2), (3, .int p3), (4, .int ((u.1 0 5) - (m_bits (u.1 7 67)))), (5, .int x5_6), (6, .int x6_4), (7, .int x7_6)]) S.1 S.2.1 dX11_odds_125 hl (k := 8) rfl rfl (by decide) rfl (fun ls hl => ?_)
                            refine lv_goto (tgt := 95) S.1 S.2.1 dX11_odds_128 (by decide) ?_
                            have e_14 : ∀ _ : Unit, ((x9_8 + (1 : Int32))).toInt = (x9_8).toInt + 1 := fun _ => xadd rfl rfl (by omega) (by omega)
                            clear hn_4 hn_6
                            exact ih_8 (x8_8 * ((10 : Int32) - p1)) (x9_8 + (1 : Int32)) _ _ _ (show 0 ≤ ((x9_8 + (1 : Int32))).toInt from by rw [(e_14 ())]; omega) (show (((u.1 0 5) - (m_bits (u.1 7 67)))).toInt - ((x9_8 + (1 : Int32))).toInt < (n_8 : Int) ∧ 1 ≤ n_8 from by rw [(e_14 ())]; omega) (lv_sub hl [2, 3, 4, 5, 6, 7, 8, 1, 0] rfl) hw hV
                          · replace hV := hV.trans (if_neg c_13)
                            have gc_13 : ¬ ((b2i (m_has x7_6 x9_8))).toInt = 0 := xq_ne c_13 rfl rfl
                            refine lv_iload_n S.1 S.2.1 dX11_odds_114 rfl (lv_at hl 0 rfl) ?_
                            refine lv_goto (tgt := 122) S.1 S.2.1 dX11_odds_115 (by decide) ?_
                            refine lv_imul S.1 S.2.1 dX11_odds_122 ?_
                            refine lv_istore (lv' := [(8, .int (x8_8 * p1)), (1, .int p1), (2, .int p2), (3, .int p3), (4, .int ((u.1 0 5) - (m_bits (u.1 7 67)))), (5, .int x5_6), (6, .int x6_4), (7, .int x7_6), (9, .int x9_8)]) S.1 S.2.1 dX11_odds_123 hl (by decide) rfl (fun ls hl => ?_)
                            refine lv_iinc (v := (x9_8 + (1 : Int32))) (lv' := [(9, .int (x9_8 + (1 : Int32))), (8, .int (x8_8 * p1)), (1, .int p1), (2, .int p2), (3, .int p3), (4, .int ((u.1 0 5) - (m_bits (u.1 7 67)))), (5, .int x5_6), (6, .int x6_4), (7, .int x7_6)]) S.1 S.2.1 dX11_odds_125 hl (k := 8) rfl rfl (by decide) rfl (fun ls hl => ?_)
                            refine lv_goto (tgt := 95) S.1 S.2.1 dX11_odds_128 (by decide) ?_
                            have e_15 : ∀ _ : Unit, ((x9_8 + (1 : Int32))).toInt = (x9_8).toInt + 1 := fun _ => xadd rfl rfl (by omega) (by omega)
                            clear hn_4 hn_6
                            exact ih_8 (x8_8 * p1) (x9_8 + (1 : Int32)) _ _ _ (show 0 ≤ ((x9_8 + (1 : Int32))).toInt from by rw [(e_15 ())]; omega) (show (((u.1 0 5) - (m_bits (u.1 7 67)))).toInt - ((x9_8 + (1 : Int32))).toInt < (n_8 : Int) ∧ 1 ≤ n_8 from by rw [(e_15 ())]; omega) (lv_sub hl [2, 3, 4, 5, 6, 7, 8, 1, 0] rfl) hw hV
                    exact lp_8 8 (1 : Int32) (0 : Int32) _ _ _ (show 0 ≤ 0 from by omega) (show (((u.1 0 5) - (m_bits (u.1 7 67)))).toInt - 0 < ((8 : Nat) : Int) ∧ 1 ≤ (8 : Nat) from by omega) (lv_sub hl [2, 3, 4, 5, 6, 7, 8, 1, 0] rfl) hw hV
              exact lp_6 257 (0 : Int32) (0 : Int32) _ _ _ (show 0 ≤ 0 from by omega) (show vsh - 0 < ((257 : Nat) : Int) ∧ 1 ≤ (257 : Nat) from by omega) (lv_sub hl [1, 2, 3, 4, 5, 6, 0] rfl) hw hV
            · replace hV := hV.trans (if_neg c_5)
              have gc_5 : (x7_4).toInt < (((u.1 0 5) - (m_bits (u.1 7 67)))).toInt := xq_nle c_5 rfl rfl
              refine lv_iload S.1 S.2.1 dX11_odds_64 (lv_at hl 5 rfl) ?_
              refine lv_bipush (v := 10) S.1 S.2.1 dX11_odds_66 (by decide) ?_
              refine lv_imul S.1 S.2.1 dX11_odds_68 ?_
              refine lv_istore (lv' := [(6, .int (x6_4 * (10 : Int32))), (1, .int p1), (2, .int p2), (3, .int p3), (4, .int ((u.1 0 5) - (m_bits (u.1 7 67)))), (5, .int (0 : Int32)), (7, .int x7_4)]) S.1 S.2.1 dX11_odds_69 hl (by decide) rfl (fun ls hl => ?_)
              refine lv_iinc (v := (x7_4 + (1 : Int32))) (lv' := [(7, .int (x7_4 + (1 : Int32))), (6, .int (x6_4 * (10 : Int32))), (1, .int p1), (2, .int p2), (3, .int p3), (4, .int ((u.1 0 5) - (m_bits (u.1 7 67)))), (5, .int (0 : Int32))]) S.1 S.2.1 dX11_odds_71 hl (k := 6) rfl rfl (by decide) rfl (fun ls hl => ?_)
              refine lv_goto (tgt := 57) S.1 S.2.1 dX11_odds_74 (by decide) ?_
              have e_16 : ∀ _ : Unit, ((x6_4 * (10 : Int32))).toInt = (x6_4).toInt * 10 := fun _ => xmul rfl rfl (by omega) (by omega)
              have e_17 : ∀ _ : Unit, ((x7_4 + (1 : Int32))).toInt = (x7_4).toInt + 1 := fun _ => xadd rfl rfl (by omega) (by omega)
              exact ih_4 (x6_4 * (10 : Int32)) (x7_4 + (1 : Int32)) _ _ _ (show 0 ≤ ((x7_4 + (1 : Int32))).toInt from by rw [(e_17 ())]; omega) (show (((x7_4 + (1 : Int32))).toInt = 0 ∧ ((x6_4 * (10 : Int32))).toInt = 1) ∨ (((x7_4 + (1 : Int32))).toInt = 1 ∧ ((x6_4 * (10 : Int32))).toInt = 10) ∨ (((x7_4 + (1 : Int32))).toInt = 2 ∧ ((x6_4 * (10 : Int32))).toInt = 100) ∨ (((x7_4 + (1 : Int32))).toInt = 3 ∧ ((x6_4 * (10 : Int32))).toInt = 1000) ∨ (((x7_4 + (1 : Int32))).toInt = 4 ∧ ((x6_4 * (10 : Int32))).toInt = 10000) ∨ (((x7_4 + (1 : Int32))).toInt = 5 ∧ ((x6_4 * (10 : Int32))).toInt = 100000) ∨ (((x7_4 + (1 : Int32))).toInt = 6 ∧ ((x6_4 * (10 : Int32))).toInt = 1000000) from by rw [(e_16 ()), (e_17 ())]; omega) (show (((u.1 0 5) - (m_bits (u.1 7 67)))).toInt - ((x7_4 + (1 : Int32))).toInt < (n_4 : Int) ∧ 1 ≤ n_4 from by rw [(e_17 ())]; omega) (lv_sub hl [2, 3, 4, 5, 6, 1, 0] rfl) hw hV
        exact lp_4 8 (1 : Int32) (0 : Int32) _ _ _ (show 0 ≤ 0 from by omega) (show (0 = 0 ∧ 1 = 1) ∨ (0 = 1 ∧ 1 = 10) ∨ (0 = 2 ∧ 1 = 100) ∨ (0 = 3 ∧ 1 = 1000) ∨ (0 = 4 ∧ 1 = 10000) ∨ (0 = 5 ∧ 1 = 100000) ∨ (0 = 6 ∧ 1 = 1000000) from by omega) (show (((u.1 0 5) - (m_bits (u.1 7 67)))).toInt - 0 < ((8 : Nat) : Int) ∧ 1 ≤ (8 : Nat) from by omega) (lv_sub hl [5, 6, 7, 3, 2, 1, 0] rfl) hw hV
      · replace hV := hV.trans (if_pos c_3)
        have gc_3 : ((b2i (m_in p3 (0 : Int32) (1 : Int32)))).toInt = 0 := xq_eq c_3 rfl rfl
        refine lv_iconst (v := -1) S.1 S.2.1 dX11_odds_29 (by decide) ?_
        exact xri S hr hlk hw (congrArg (fun b => (b, u)) hV) dX11_odds_30
