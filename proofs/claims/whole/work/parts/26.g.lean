noncomputable def k_Reader_readsAll_L27 : Nat → Int32 → xU → Bool × xU
  | 0, _, w => (false, w)
  | n + 1, x1, w =>
    (if (150 : Int32) ≤ x1 then
    (if (w.1 1 5) = (0 : Int32) then
    (true, w)
    else
    (false, w))
    else
    (if (w.1 1 5) = (0 : Int32) then
    (if (w.1 1 5) = (0 : Int32) then
    (true, w)
    else
    (false, w))
    else
    let r_11 := k_Reader_readsItem w
    (if (b2i r_11.1) = (0 : Int32) then
    (false, r_11.2)
    else
    k_Reader_readsAll_L27 n (x1 + (1 : Int32)) r_11.2)))
noncomputable def k_Reader_readsAll_b (u : xU) : Bool × xU :=
    let w_1 := sp u 4 (upd (u.1 4) 0 (0 : Int32))
    let w_2 := sp w_1 4 (upd (w_1.1 4) 1 (0 : Int32))
    let w_3 := sp w_2 1 (upd (u.1 1) 4 (0 : Int32))
    let r_4 := k_Reader_look w_3
    k_Reader_readsAll_L27 151 (0 : Int32) r_4
theorem k_Reader_readsAll_x : ∃ f : xU → Bool × xU, f = k_Reader_readsAll_b := ⟨_, rfl⟩
noncomputable def k_Reader_readsAll : xU → Bool × xU := k_Reader_readsAll_x.choose
theorem k_Reader_readsAll_def : k_Reader_readsAll = k_Reader_readsAll_b := k_Reader_readsAll_x.choose_spec
set_option maxHeartbeats 4000000 in
set_option maxRecDepth 100000 in
theorem c_k_Reader_readsAll (l : Launch) (D : va_G) (a : Nat → Nat) (Y : Nat → ClassId) (ts : Nat → Nat) (u : xU) (hL : (0 ≤ ((u.1 1 1)).toInt ∧ ((u.1 1 1)).toInt ≤ 150)) (hX : (0 ≤ ((u.1 1 4)).toInt ∧ ((u.1 1 4)).toInt ≤ 150)) (hRT : (0 ≤ ((u.1 4 0)).toInt ∧ ((u.1 4 0)).toInt ≤ 8)) (hRC : (0 ≤ ((u.1 4 1)).toInt ∧ ((u.1 4 1)).toInt ≤ 6)) : xMi l yX8_readsAll cX8_readsAll 2 (some .boolean) (xRm 4 97) D (xty Y) (wC a Y) ts [.ref (a 1)] u (b2i (k_Reader_readsAll u).1, (k_Reader_readsAll u).2) := by
  suffices h : ∀ V, V = k_Reader_readsAll_b u → xMi l yX8_readsAll cX8_readsAll 2 (some .boolean) (xRm 4 97) D (xty Y) (wC a Y) ts [.ref (a 1)] u (b2i V.1, V.2) from h _ (by rw [k_Reader_readsAll_def])
  intro V hV
  refine xofi RX8 rfl (by decide) (Nat.le_of_ble_eq_true rfl) ?_
  intro p e s m args below meth c ls H locs A S hr hlk hl hK hE hA hw
  have hl : lv_has ls 2 [(0, .ref (a 1))] := hl
  refine lv_aload_n S.1 S.2.1 dX8_readsAll_0 rfl (lv_at hl 0 rfl) ?_
  refine xget (v := .ref (a 4)) S hK hw 1 rfl rfl inX8 2 (by decide) mfX8_18 rfl dX8_readsAll_1 ?_
  refine lv_iconst (v := 0) S.1 S.2.1 dX8_readsAll_4 (by decide) ?_
  refine xputi (ty := .int) S hK hw 4 rfl rfl inX9 tyX9 tyX9_ok nmX9 0 (by decide) mfX8_25 rfl (by decide +kernel) rfl rfl (Nat.le_of_ble_eq_true rfl) (oC_4_0 _ _ _ _) dX8_readsAll_5 (fun H locs hw => ?_)
  refine lv_aload_n S.1 S.2.1 dX8_readsAll_8 rfl (lv_at hl 0 rfl) ?_
  refine xget (v := .ref (a 4)) S hK hw 1 rfl rfl inX8 2 (by decide) mfX8_18 rfl dX8_readsAll_9 ?_
  refine lv_iconst (v := 0) S.1 S.2.1 dX8_readsAll_12 (by decide) ?_
  refine xputi (ty := .int) S hK hw 4 rfl rfl inX9 tyX9 tyX9_ok nmX9 1 (by decide) mfX8_29 rfl (by decide +kernel) rfl rfl (Nat.le_of_ble_eq_true rfl) (oC_4_1 _ _ _ _) dX8_readsAll_13 (fun H locs hw => ?_)
  refine lv_aload_n S.1 S.2.1 dX8_readsAll_16 rfl (lv_at hl 0 rfl) ?_
  refine lv_iconst (v := 0) S.1 S.2.1 dX8_readsAll_17 (by decide) ?_
  refine xputi (ty := .int) S hK hw 1 rfl rfl inX8 tyX8 tyX8_ok nmX8 4 (by decide) mfX8_32 rfl (by decide +kernel) rfl rfl (Nat.le_of_ble_eq_true rfl) (oC_1_4 _ _ _ _) dX8_readsAll_18 (fun H locs hw => ?_)
  refine lv_aload_n S.1 S.2.1 dX8_readsAll_21 rfl (lv_at hl 0 rfl) ?_
  refine xcVv (rest := []) S hK hE hA hw yfX8_look (c_k_Reader_look l D a Y ts _ (show (0 ≤ ((u.1 1 1)).toInt ∧ ((u.1 1 1)).toInt ≤ 150) from by omega) (show (0 ≤ 0 ∧ 0 ≤ 150) from by omega)) 1 rfl rfl mlX8_35 rfl rfl hl.1 ⟨rfl, rfl, Nat.le_of_ble_eq_true rfl, Nat.le_of_ble_eq_true rfl, Nat.le_of_ble_eq_true rfl, Nat.zero_le _, Nat.zero_le _⟩ dX8_readsAll_22 (fun H locs hw => ?_)
  have q_5 := RI_look (u := (sp (sp (sp u 4 (upd (u.1 4) 0 (0 : Int32))) 4 (upd ((upd (u.1 4) 0 (0 : Int32))) 1 (0 : Int32))) 1 (upd (u.1 1) 4 (0 : Int32)))) (show (0 ≤ ((u.1 1 1)).toInt ∧ ((u.1 1 1)).toInt ≤ 150) from by omega) (show (0 ≤ 0 ∧ 0 ≤ 150) from by omega)
  have q_5L : (0 ≤ (((k_Reader_look (sp (sp (sp u 4 (upd (u.1 4) 0 (0 : Int32))) 4 (upd ((upd (u.1 4) 0 (0 : Int32))) 1 (0 : Int32))) 1 (upd (u.1 1) 4 (0 : Int32)))).1 1 1)).toInt ∧ (((k_Reader_look (sp (sp (sp u 4 (upd (u.1 4) 0 (0 : Int32))) 4 (upd ((upd (u.1 4) 0 (0 : Int32))) 1 (0 : Int32))) 1 (upd (u.1 1) 4 (0 : Int32)))).1 1 1)).toInt ≤ 150) := RI.L (u := (sp (sp (sp u 4 (upd (u.1 4) 0 (0 : Int32))) 4 (upd ((upd (u.1 4) 0 (0 : Int32))) 1 (0 : Int32))) 1 (upd (u.1 1) 4 (0 : Int32)))) (show (0 ≤ ((u.1 1 1)).toInt ∧ ((u.1 1 1)).toInt ≤ 150) from by omega) q_5
  have q_5X : (0 ≤ (((k_Reader_look (sp (sp (sp u 4 (upd (u.1 4) 0 (0 : Int32))) 4 (upd ((upd (u.1 4) 0 (0 : Int32))) 1 (0 : Int32))) 1 (upd (u.1 1) 4 (0 : Int32)))).1 1 4)).toInt ∧ (((k_Reader_look (sp (sp (sp u 4 (upd (u.1 4) 0 (0 : Int32))) 4 (upd ((upd (u.1 4) 0 (0 : Int32))) 1 (0 : Int32))) 1 (upd (u.1 1) 4 (0 : Int32)))).1 1 4)).toInt ≤ 150) := q_5.2.2.1
  have q_50 : (((k_Reader_look (sp (sp (sp u 4 (upd (u.1 4) 0 (0 : Int32))) 4 (upd ((upd (u.1 4) 0 (0 : Int32))) 1 (0 : Int32))) 1 (upd (u.1 1) 4 (0 : Int32)))).1 4 0)).toInt = 0 := congrArg (fun f => (f 0).toInt) (q_5.1 4 (by decide))
  have q_51 : (((k_Reader_look (sp (sp (sp u 4 (upd (u.1 4) 0 (0 : Int32))) 4 (upd ((upd (u.1 4) 0 (0 : Int32))) 1 (0 : Int32))) 1 (upd (u.1 1) 4 (0 : Int32)))).1 4 1)).toInt = 0 := congrArg (fun f => (f 1).toInt) (q_5.1 4 (by decide))
  refine lv_iconst (v := 0) S.1 S.2.1 dX8_readsAll_25 (by decide) ?_
  refine lv_istore_n (lv' := [(1, .int (0 : Int32)), (0, .ref (a 1))]) S.1 S.2.1 dX8_readsAll_26 rfl hl (by decide) rfl (fun ls hl => ?_)
  have lp_6 : ∀ (n_6 : Nat) (x1_6 : Int32) (u_6 : xU) (H : Heap) (locs : List Loc) (ls : Array Slot), (0 ≤ (x1_6).toInt) → ((0 ≤ ((u_6.1 1 1)).toInt ∧ ((u_6.1 1 1)).toInt ≤ 150)) → ((0 ≤ ((u_6.1 1 4)).toInt ∧ ((u_6.1 1 4)).toInt ≤ 150)) → ((0 ≤ ((u_6.1 4 0)).toInt ∧ ((u_6.1 4 0)).toInt ≤ 8)) → ((0 ≤ ((u_6.1 4 1)).toInt ∧ ((u_6.1 4 1)).toInt ≤ 6)) → (150 - (x1_6).toInt < (n_6 : Int) ∧ 1 ≤ n_6) → lv_has ls 2 [(0, .ref (a 1)), (1, .int x1_6)] → xw D (wC a Y) A s.heap H locs u_6 → V = k_Reader_readsAll_L27 n_6 x1_6 u_6 → W p l e (xRm 4 97) s m args below meth c H locs 0 0 (MQ below (va_Qi (fun r v => (r, v) = (b2i V.1, V.2)) (xPost D (wC a Y) A) A) args s 0 0 A) (F0 m 27 ls []) := by
    intro n_6
    induction n_6 with
    | zero => intro x1_6 u_6 H locs ls i0_6 i1_6 i2_6 i3_6 i4_6 hn; exact absurd hn.2 (by decide)
    | succ n_6 ih_6 =>
      intro x1_6 u_6 H locs ls i0_6 i1_6 i2_6 i3_6 i4_6 hn_6 hl hw hV
      refine lv_iload_n S.1 S.2.1 dX8_readsAll_27 rfl (lv_at hl 1 rfl) ?_
      refine lv_sipush (v := 150) S.1 S.2.1 dX8_readsAll_28 (by decide) ?_
      refine lv_icmp_ge (tgt := 56) S.1 S.2.1 dX8_readsAll_31 (by decide) (fun c_7 => ?_) (fun c_7 => ?_)
      · replace hV := hV.trans (if_pos c_7)
        have gc_7 : 150 ≤ (x1_6).toInt := xq_le c_7 rfl rfl
        refine lv_aload_n S.1 S.2.1 dX8_readsAll_56 rfl (lv_at hl 0 rfl) ?_
        refine xget (v := .int (u_6.1 1 5)) S hK hw 1 rfl rfl inX8 5 (by decide) mfX8_38 rfl dX8_readsAll_57 ?_
        refine lv_if_ne (tgt := 67) S.1 S.2.1 dX8_readsAll_60 (by decide) (fun c_8 => ?_) (fun c_8 => ?_)
        · replace hV := hV.trans (if_neg c_8)
          have gc_8 : ¬ ((u_6.1 1 5)).toInt = 0 := xq_ne c_8 rfl rfl
          refine lv_iconst (v := 0) S.1 S.2.1 dX8_readsAll_67 (by decide) ?_
          exact xrz S hr hlk hw rfl (congrArg (fun b : Bool × xU => (b2i b.1, b.2)) hV) dX8_readsAll_68
        · replace hV := hV.trans (if_pos c_8)
          have gc_8 : ((u_6.1 1 5)).toInt = 0 := xq_eq c_8 rfl rfl
          refine lv_iconst (v := 1) S.1 S.2.1 dX8_readsAll_63 (by decide) ?_
          refine lv_goto (tgt := 68) S.1 S.2.1 dX8_readsAll_64 (by decide) ?_
          exact xrz S hr hlk hw rfl (congrArg (fun b : Bool × xU => (b2i b.1, b.2)) hV) dX8_readsAll_68
      · replace hV := hV.trans (if_neg c_7)
        have gc_7 : (x1_6).toInt < 150 := xq_nle c_7 rfl rfl
        refine lv_aload_n S.1 S.2.1 dX8_readsAll_34 rfl (lv_at hl 0 rfl) ?_
        refine xget (v := .int (u_6.1 1 5)) S hK hw 1 rfl rfl inX8 5 (by decide) mfX8_38 rfl dX8_readsAll_35 ?_
        refine lv_if_eq (tgt := 56) S.1 S.2.1 dX8_readsAll_38 (by decide) (fun c_9 => ?_) (fun c_9 => ?_)
        · replace hV := hV.trans (if_pos c_9)
          have gc_9 : ((u_6.1 1 5)).toInt = 0 := xq_eq c_9 rfl rfl
          refine lv_aload_n S.1 S.2.1 dX8_readsAll_56 rfl (lv_at hl 0 rfl) ?_
          refine xget (v := .int (u_6.1 1 5)) S hK hw 1 rfl rfl inX8 5 (by decide) mfX8_38 rfl dX8_readsAll_57 ?_
          refine lv_if_ne (tgt := 67) S.1 S.2.1 dX8_readsAll_60 (by decide) (fun c_10 => ?_) (fun c_10 => ?_)
          · replace hV := hV.trans (if_neg c_10)
            have gc_10 : ¬ ((u_6.1 1 5)).toInt = 0 := xq_ne c_10 rfl rfl
            refine lv_iconst (v := 0) S.1 S.2.1 dX8_readsAll_67 (by decide) ?_
            exact xrz S hr hlk hw rfl (congrArg (fun b : Bool × xU => (b2i b.1, b.2)) hV) dX8_readsAll_68
          · replace hV := hV.trans (if_pos c_10)
            have gc_10 : ((u_6.1 1 5)).toInt = 0 := xq_eq c_10 rfl rfl
            refine lv_iconst (v := 1) S.1 S.2.1 dX8_readsAll_63 (by decide) ?_
            refine lv_goto (tgt := 68) S.1 S.2.1 dX8_readsAll_64 (by decide) ?_
            exact xrz S hr hlk hw rfl (congrArg (fun b : Bool × xU => (b2i b.1, b.2)) hV) dX8_readsAll_68
        · replace hV := hV.trans (if_neg c_9)
          have gc_9 : ¬ ((u_6.1 1 5)).toInt = 0 := xq_ne c_9 rfl rfl
          refine lv_aload_n S.1 S.2.1 dX8_readsAll_41 rfl (lv_at hl 0 rfl) ?_
          refine xci (rest := []) S hK hE hA hw yfX8_readsItem (c_k_Reader_readsItem l D a Y ts _ (show (0 ≤ ((u_6.1 1 1)).toInt ∧ ((u_6.1 1 1)).toInt ≤ 150) from by omega) (show (0 ≤ ((u_6.1 1 4)).toInt ∧ ((u_6.1 1 4)).toInt ≤ 150) from by omega) (show (0 ≤ ((u_6.1 4 0)).toInt ∧ ((u_6.1 4 0)).toInt ≤ 8) from by omega) (show (0 ≤ ((u_6.1 4 1)).toInt ∧ ((u_6.1 4 1)).toInt ≤ 6) from by omega)) 1 rfl rfl mlX8_41 rfl rfl hl.1 ⟨rfl, rfl, Nat.le_of_ble_eq_true rfl, Nat.le_of_ble_eq_true rfl, Nat.le_of_ble_eq_true rfl, Nat.zero_le _, Nat.zero_le _⟩ dX8_readsAll_42 (fun H locs hw => ?_)
          have q_12 : (0 ≤ (((k_Reader_readsItem u_6).2.1 1 1)).toInt ∧ (((k_Reader_readsItem u_6).2.1 1 1)).toInt ≤ 150) ∧ (0 ≤ (((k_Reader_readsItem u_6).2.1 1 4)).toInt ∧ (((k_Reader_readsItem u_6).2.1 1 4)).toInt ≤ 150) ∧ (0 ≤ (((k_Reader_readsItem u_6).2.1 4 0)).toInt ∧ (((k_Reader_readsItem u_6).2.1 4 0)).toInt ≤ 8) ∧ (0 ≤ (((k_Reader_readsItem u_6).2.1 4 1)).toInt ∧ (((k_Reader_readsItem u_6).2.1 4 1)).toInt ≤ 6) := FI_item (u := u_6) (show (0 ≤ ((u_6.1 1 1)).toInt ∧ ((u_6.1 1 1)).toInt ≤ 150) from by omega) (show (0 ≤ ((u_6.1 1 4)).toInt ∧ ((u_6.1 1 4)).toInt ≤ 150) from by omega) (show (0 ≤ ((u_6.1 4 0)).toInt ∧ ((u_6.1 4 0)).toInt ≤ 8) from by omega) (show (0 ≤ ((u_6.1 4 1)).toInt ∧ ((u_6.1 4 1)).toInt ≤ 6) from by omega)
          refine lv_if_ne (tgt := 50) S.1 S.2.1 dX8_readsAll_45 (by decide) (fun c_13 => ?_) (fun c_13 => ?_)
          · replace hV := hV.trans (if_neg c_13)
            have gc_13 : ¬ ((b2i (k_Reader_readsItem u_6).1)).toInt = 0 := xq_ne c_13 rfl rfl
            refine lv_iinc (v := (x1_6 + (1 : Int32))) (lv' := [(1, .int (x1_6 + (1 : Int32))), (0, .ref (a 1))]) S.1 S.2.1 dX8_readsAll_50 hl (k := 1) rfl rfl (by decide) rfl (fun ls hl => ?_)
            refine lv_goto (tgt := 27) S.1 S.2.1 dX8_readsAll_53 (by decide) ?_
            have e_14 : ∀ _ : Unit, ((x1_6 + (1 : Int32))).toInt = (x1_6).toInt + 1 := fun _ => xadd rfl rfl (by omega) (by omega)
            exact ih_6 (x1_6 + (1 : Int32)) (k_Reader_readsItem u_6).2 _ _ _ (show 0 ≤ ((x1_6 + (1 : Int32))).toInt from by rw [(e_14 ())]; omega) (show (0 ≤ (((k_Reader_readsItem u_6).2.1 1 1)).toInt ∧ (((k_Reader_readsItem u_6).2.1 1 1)).toInt ≤ 150) from by omega) (show (0 ≤ (((k_Reader_readsItem u_6).2.1 1 4)).toInt ∧ (((k_Reader_readsItem u_6).2.1 1 4)).toInt ≤ 150) from by omega) (show (0 ≤ (((k_Reader_readsItem u_6).2.1 4 0)).toInt ∧ (((k_Reader_readsItem u_6).2.1 4 0)).toInt ≤ 8) from by omega) (show (0 ≤ (((k_Reader_readsItem u_6).2.1 4 1)).toInt ∧ (((k_Reader_readsItem u_6).2.1 4 1)).toInt ≤ 6) from by omega) (show 150 - ((x1_6 + (1 : Int32))).toInt < (n_6 : Int) ∧ 1 ≤ n_6 from by rw [(e_14 ())]; omega) (lv_sub hl [1, 0] rfl) hw hV
          · replace hV := hV.trans (if_pos c_13)
            have gc_13 : ((b2i (k_Reader_readsItem u_6).1)).toInt = 0 := xq_eq c_13 rfl rfl
            refine lv_iconst (v := 0) S.1 S.2.1 dX8_readsAll_48 (by decide) ?_
            exact xrz S hr hlk hw rfl (congrArg (fun b : Bool × xU => (b2i b.1, b.2)) hV) dX8_readsAll_49
  exact lp_6 151 (0 : Int32) (k_Reader_look (sp (sp (sp u 4 (upd (u.1 4) 0 (0 : Int32))) 4 (upd ((upd (u.1 4) 0 (0 : Int32))) 1 (0 : Int32))) 1 (upd (u.1 1) 4 (0 : Int32)))) _ _ _ (show 0 ≤ 0 from by omega) (show (0 ≤ (((k_Reader_look (sp (sp (sp u 4 (upd (u.1 4) 0 (0 : Int32))) 4 (upd ((upd (u.1 4) 0 (0 : Int32))) 1 (0 : Int32))) 1 (upd (u.1 1) 4 (0 : Int32)))).1 1 1)).toInt ∧ (((k_Reader_look (sp (sp (sp u 4 (upd (u.1 4) 0 (0 : Int32))) 4 (upd ((upd (u.1 4) 0 (0 : Int32))) 1 (0 : Int32))) 1 (upd (u.1 1) 4 (0 : Int32)))).1 1 1)).toInt ≤ 150) from by omega) (show (0 ≤ (((k_Reader_look (sp (sp (sp u 4 (upd (u.1 4) 0 (0 : Int32))) 4 (upd ((upd (u.1 4) 0 (0 : Int32))) 1 (0 : Int32))) 1 (upd (u.1 1) 4 (0 : Int32)))).1 1 4)).toInt ∧ (((k_Reader_look (sp (sp (sp u 4 (upd (u.1 4) 0 (0 : Int32))) 4 (upd ((upd (u.1 4) 0 (0 : Int32))) 1 (0 : Int32))) 1 (upd (u.1 1) 4 (0 : Int32)))).1 1 4)).toInt ≤ 150) from by omega) (show (0 ≤ (((k_Reader_look (sp (sp (sp u 4 (upd (u.1 4) 0 (0 : Int32))) 4 (upd ((upd (u.1 4) 0 (0 : Int32))) 1 (0 : Int32))) 1 (upd (u.1 1) 4 (0 : Int32)))).1 4 0)).toInt ∧ (((k_Reader_look (sp (sp (sp u 4 (upd (u.1 4) 0 (0 : Int32))) 4 (upd ((upd (u.1 4) 0 (0 : Int32))) 1 (0 : Int32))) 1 (upd (u.1 1) 4 (0 : Int32)))).1 4 0)).toInt ≤ 8) from by omega) (show (0 ≤ (((k_Reader_look (sp (sp (sp u 4 (upd (u.1 4) 0 (0 : Int32))) 4 (upd ((upd (u.1 4) 0 (0 : Int32))) 1 (0 : Int32))) 1 (upd (u.1 1) 4 (0 : Int32)))).1 4 1)).toInt ∧ (((k_Reader_look (sp (sp (sp u 4 (upd (u.1 4) 0 (0 : Int32))) 4 (upd ((upd (u.1 4) 0 (0 : Int32))) 1 (0 : Int32))) 1 (upd (u.1 1) 4 (0 : Int32)))).1 4 1)).toInt ≤ 6) from by omega) (show 150 - 0 < ((151 : Nat) : Int) ∧ 1 ≤ (151 : Nat) from by omega) (lv_sub hl [1, 0] rfl) hw hV
noncomputable def k_hall_L53 : Nat → Int32 → xU → Int32 × xU
  | 0, _, w => (0, w)
  | n + 1, x1, w =>
    (if (2 : Int32) ≤ x1 then
    let w_8 := sp w 1 (upd (w.1 1) 1 (0 : Int32))
    (((w.1 13 0) + (w.1 13 1)), w_8)
    else
    (if x1 = 0 then
    let w_11 := sp w 30 (upd (w.1 30) 2 (0 : Int32))
    k_hall_L53 n (x1 + (1 : Int32)) w_11
    else
    let w_14 := sp w 34 (upd (w.1 34) 2 (0 : Int32))
    k_hall_L53 n (x1 + (1 : Int32)) w_14))
noncomputable def k_hall_b (u : xU) : Int32 × xU :=
    let r_1 := k_Reader_readsAll u
    (if (b2i r_1.1) = (0 : Int32) then
    (((-10 : Int32) - (r_1.2.1 1 3)), r_1.2)
    else
    let r_3 := k_Hall_beginAs r_1.2
    let w_4 := sp r_3 27 (upd (r_3.1 27) 2 (0 : Int32))
    let w_5 := sp w_4 44 (upd (r_3.1 44) 3 (0 : Int32))
    k_hall_L53 3 (0 : Int32) w_5)
theorem k_hall_x : ∃ f : xU → Int32 × xU, f = k_hall_b := ⟨_, rfl⟩
noncomputable def k_hall : xU → Int32 × xU := k_hall_x.choose
theorem k_hall_def : k_hall = k_hall_b := k_hall_x.choose_spec
set_option maxHeartbeats 4000000 in
set_option maxRecDepth 100000 in
theorem c_k_hall (l : Launch) (D : va_G) (a : Nat → Nat) (Y : Nat → ClassId) (ts : Nat → Nat) (u : xU) (hL : (0 ≤ ((u.1 1 1)).toInt ∧ ((u.1 1 1)).toInt ≤ 150)) (hX : (0 ≤ ((u.1 1 4)).toInt ∧ ((u.1 1 4)).toInt ≤ 150)) (hRT : (0 ≤ ((u.1 4 0)).toInt ∧ ((u.1 4 0)).toInt ≤ 8)) (hRC : (0 ≤ ((u.1 4 1)).toInt ∧ ((u.1 4 1)).toInt ≤ 6)) : xMi l yX10_hall cX10_hall 2 (some .int) (xRm 5 118) D (xty Y) (wC a Y) ts [.ref (a 0)] u ((k_hall u).1, (k_hall u).2) := by
  suffices h : ∀ V, V = k_hall_b u → xMi l yX10_hall cX10_hall 2 (some .int) (xRm 5 118) D (xty Y) (wC a Y) ts [.ref (a 0)] u (V.1, V.2) from h _ (by rw [k_hall_def])
  intro V hV
  refine xofi RX10 rfl (by decide) (Nat.le_of_ble_eq_true rfl) ?_
  intro p e s m args below meth c ls H locs A S hr hlk hl hK hE hA hw
  have hl : lv_has ls 2 [(0, .ref (a 0))] := hl
  refine lv_aload_n S.1 S.2.1 dX10_hall_0 rfl (lv_at hl 0 rfl) ?_
  refine xget (v := .ref (a 1)) S hK hw 0 rfl rfl inX10 0 (by decide) mfX10_10 rfl dX10_hall_1 ?_
  refine xci (rest := []) S hK hE hA hw yfX8_readsAll (c_k_Reader_readsAll l D a Y ts _ (show (0 ≤ ((u.1 1 1)).toInt ∧ ((u.1 1 1)).toInt ≤ 150) from by omega) (show (0 ≤ ((u.1 1 4)).toInt ∧ ((u.1 1 4)).toInt ≤ 150) from by omega) (show (0 ≤ ((u.1 4 0)).toInt ∧ ((u.1 4 0)).toInt ≤ 8) from by omega) (show (0 ≤ ((u.1 4 1)).toInt ∧ ((u.1 4 1)).toInt ≤ 6) from by omega)) 1 rfl rfl mlX10_75 rfl rfl hl.1 ⟨rfl, rfl, Nat.le_of_ble_eq_true rfl, Nat.le_of_ble_eq_true rfl, Nat.le_of_ble_eq_true rfl, Nat.zero_le _, Nat.zero_le _⟩ dX10_hall_4 (fun H locs hw => ?_)
  refine lv_if_ne (tgt := 21) S.1 S.2.1 dX10_hall_7 (by decide) (fun c_2 => ?_) (fun c_2 => ?_)
  · replace hV := hV.trans (if_neg c_2)
    have gc_2 : ¬ ((b2i (k_Reader_readsAll u).1)).toInt = 0 := xq_ne c_2 rfl rfl
    refine lv_aload_n S.1 S.2.1 dX10_hall_21 rfl (lv_at hl 0 rfl) ?_
    refine xget (v := .ref (a 12)) S hK hw 0 rfl rfl inX10 1 (by decide) mfX10_19 rfl dX10_hall_22 ?_
    refine lv_aload_n S.1 S.2.1 dX10_hall_25 rfl (lv_at hl 0 rfl) ?_
    refine xget (v := .ref (a 1)) S hK hw 0 rfl rfl inX10 0 (by decide) mfX10_10 rfl dX10_hall_26 ?_
    refine xget (v := .ref (a 4)) S hK hw 1 rfl rfl inX8 2 (by decide) mfX10_82 rfl dX10_hall_29 ?_
    refine xcVv (rest := []) S hK hE hA hw yfX0_beginAs (c_k_Hall_beginAs l D a Y ts _) 12 rfl rfl mlX10_86 rfl rfl hl.1 ⟨rfl, rfl, Nat.le_of_ble_eq_true rfl, Nat.le_of_ble_eq_true rfl, Nat.le_of_ble_eq_true rfl, Nat.zero_le _, Nat.zero_le _⟩ dX10_hall_32 (fun H locs hw => ?_)
    refine lv_aload_n S.1 S.2.1 dX10_hall_35 rfl (lv_at hl 0 rfl) ?_
    refine xget (v := .ref (a 27)) S hK hw 0 rfl rfl inX10 2 (by decide) mfX10_26 rfl dX10_hall_36 ?_
    refine lv_iconst (v := 0) S.1 S.2.1 dX10_hall_39 (by decide) ?_
    refine xputi (ty := .int) S hK hw 27 rfl rfl inX6 tyX6 tyX6_ok nmX6 2 (by decide) mfX10_90 rfl (by decide +kernel) rfl rfl (Nat.le_of_ble_eq_true rfl) (oC_27_2 _ _ _ _) dX10_hall_40 (fun H locs hw => ?_)
    refine lv_aload_n S.1 S.2.1 dX10_hall_43 rfl (lv_at hl 0 rfl) ?_
    refine xget (v := .ref (a 44)) S hK hw 0 rfl rfl inX10 6 (by decide) mfX10_56 rfl dX10_hall_44 ?_
    refine lv_iconst (v := 0) S.1 S.2.1 dX10_hall_47 (by decide) ?_
    refine xputi (ty := .int) S hK hw 44 rfl rfl inX1 tyX1 tyX1_ok nmX1 3 (by decide) mfX10_93 rfl (by decide +kernel) rfl rfl (Nat.le_of_ble_eq_true rfl) (oC_44_3 _ _ _ _) dX10_hall_48 (fun H locs hw => ?_)
    refine lv_iconst (v := 0) S.1 S.2.1 dX10_hall_51 (by decide) ?_
    refine lv_istore_n (lv' := [(1, .int (0 : Int32)), (0, .ref (a 0))]) S.1 S.2.1 dX10_hall_52 rfl hl (by decide) rfl (fun ls hl => ?_)
    have lp_6 : ∀ (n_6 : Nat) (x1_6 : Int32) (u_6 : xU) (H : Heap) (locs : List Loc) (ls : Array Slot), (0 ≤ (x1_6).toInt) → (2 - (x1_6).toInt < (n_6 : Int) ∧ 1 ≤ n_6) → lv_has ls 2 [(0, .ref (a 0)), (1, .int x1_6)] → xw D (wC a Y) A s.heap H locs u_6 → V = k_hall_L53 n_6 x1_6 u_6 → W p l e (xRm 5 118) s m args below meth c H locs 0 0 (MQ below (va_Qi (fun r v => (r, v) = V) (xPost D (wC a Y) A) A) args s 0 0 A) (F0 m 53 ls []) := by
      intro n_6
      induction n_6 with
      | zero => intro x1_6 u_6 H locs ls i0_6 hn; exact absurd hn.2 (by decide)
      | succ n_6 ih_6 =>
        intro x1_6 u_6 H locs ls i0_6 hn_6 hl hw hV
        refine lv_iload_n S.1 S.2.1 dX10_hall_53 rfl (lv_at hl 1 rfl) ?_
        refine lv_iconst (v := 2) S.1 S.2.1 dX10_hall_54 (by decide) ?_
        refine lv_icmp_ge (tgt := 74) S.1 S.2.1 dX10_hall_55 (by decide) (fun c_7 => ?_) (fun c_7 => ?_)
        · replace hV := hV.trans (if_pos c_7)
          have gc_7 : 2 ≤ (x1_6).toInt := xq_le c_7 rfl rfl
          refine lv_aload_n S.1 S.2.1 dX10_hall_74 rfl (lv_at hl 0 rfl) ?_
          refine xget (v := .ref (a 1)) S hK hw 0 rfl rfl inX10 0 (by decide) mfX10_10 rfl dX10_hall_75 ?_
          refine lv_iconst (v := 0) S.1 S.2.1 dX10_hall_78 (by decide) ?_
          refine xputi (ty := .int) S hK hw 1 rfl rfl inX8 tyX8 tyX8_ok nmX8 1 (by decide) mfX10_67 rfl (by decide +kernel) rfl rfl (Nat.le_of_ble_eq_true rfl) (oC_1_1 _ _ _ _) dX10_hall_79 (fun H locs hw => ?_)
          refine lv_aload_n S.1 S.2.1 dX10_hall_82 rfl (lv_at hl 0 rfl) ?_
          refine xget (v := .ref (a 12)) S hK hw 0 rfl rfl inX10 1 (by decide) mfX10_19 rfl dX10_hall_83 ?_
          refine xget (v := .ref (a 13)) S hK hw 12 rfl rfl inX0 0 (by decide) mfX10_98 rfl dX10_hall_86 ?_
          refine xget (v := .int (u_6.1 13 0)) S hK hw 13 rfl rfl inX9 0 (by decide) mfX10_101 rfl dX10_hall_89 ?_
          refine lv_aload_n S.1 S.2.1 dX10_hall_92 rfl (lv_at hl 0 rfl) ?_
          refine xget (v := .ref (a 12)) S hK hw 0 rfl rfl inX10 1 (by decide) mfX10_19 rfl dX10_hall_93 ?_
          refine xget (v := .ref (a 13)) S hK hw 12 rfl rfl inX0 0 (by decide) mfX10_98 rfl dX10_hall_96 ?_
          refine xget (v := .int (u_6.1 13 1)) S hK hw 13 rfl rfl inX9 1 (by decide) mfX10_106 rfl dX10_hall_99 ?_
          refine lv_iadd S.1 S.2.1 dX10_hall_102 ?_
          exact xri S hr hlk hw hV dX10_hall_103
        · replace hV := hV.trans (if_neg c_7)
          have gc_7 : (x1_6).toInt < 2 := xq_nle c_7 rfl rfl
          refine lv_aload_n S.1 S.2.1 dX10_hall_58 rfl (lv_at hl 0 rfl) ?_
          refine xget (v := .ref (a 29)) S hK hw 0 rfl rfl inX10 3 (by decide) mfX10_32 rfl dX10_hall_59 ?_
          refine lv_iload_n S.1 S.2.1 dX10_hall_62 rfl (lv_at hl 1 rfl) ?_
          by_cases c_9 : x1_6 = 0
          · replace hV := hV.trans (if_pos c_9)
            have g_10 : (x1_6).toInt = 0 := xq_eq c_9 rfl rfl
            have g_10n : (x1_6).toNatClampNeg = 0 := by show (x1_6).toInt.toNat = 0; omega
            refine va_aldq S.1 S.2.1 hK hw.1 29 2 rfl rfl (xvi rfl (by omega) (by omega)) dX10_hall_63 ?_
            rw [g_10n]
            refine W.eq (g2 := F0 m 64 ls (.ref (a 30) :: [])) rfl ?_
            refine lv_iconst (v := 0) S.1 S.2.1 dX10_hall_64 (by decide) ?_
            refine xputi (ty := .boolean) S hK hw 30 rfl rfl inX2 tyX2 tyX2_ok nmX2 2 (by decide) mfX10_94 rfl (by decide +kernel) rfl rfl (Nat.le_of_ble_eq_true rfl) (oC_30_2 _ _ _ _) dX10_hall_65 (fun H locs hw => ?_)
            refine lv_iinc (v := (x1_6 + (1 : Int32))) (lv' := [(1, .int (x1_6 + (1 : Int32))), (0, .ref (a 0))]) S.1 S.2.1 dX10_hall_68 hl (k := 1) rfl rfl (by decide) rfl (fun ls hl => ?_)
            refine lv_goto (tgt := 53) S.1 S.2.1 dX10_hall_71 (by decide) ?_
            have e_12 : ∀ _ : Unit, ((x1_6 + (1 : Int32))).toInt = (x1_6).toInt + 1 := fun _ => xadd rfl rfl (by omega) (by omega)
            exact ih_6 (x1_6 + (1 : Int32)) (sp u_6 30 (upd (u_6.1 30) 2 (0 : Int32))) _ _ _ (show 0 ≤ ((x1_6 + (1 : Int32))).toInt from by rw [(e_12 ())]; omega) (show 2 - ((x1_6 + (1 : Int32))).toInt < (n_6 : Int) ∧ 1 ≤ n_6 from by rw [(e_12 ())]; omega) (lv_sub hl [1, 0] rfl) hw hV
          · replace hV := hV.trans (if_neg c_9)
            have g_13 : ¬ (x1_6).toInt = 0 := xq_ne c_9 rfl rfl
            have g_13n : (x1_6).toNatClampNeg = 1 := by show (x1_6).toInt.toNat = 1; omega
            refine va_aldq S.1 S.2.1 hK hw.1 29 2 rfl rfl (xvi rfl (by omega) (by omega)) dX10_hall_63 ?_
            rw [g_13n]
            refine W.eq (g2 := F0 m 64 ls (.ref (a 34) :: [])) rfl ?_
            refine lv_iconst (v := 0) S.1 S.2.1 dX10_hall_64 (by decide) ?_
            refine xputi (ty := .boolean) S hK hw 34 rfl rfl inX2 tyX2 tyX2_ok nmX2 2 (by decide) mfX10_94 rfl (by decide +kernel) rfl rfl (Nat.le_of_ble_eq_true rfl) (oC_34_2 _ _ _ _) dX10_hall_65 (fun H locs hw => ?_)
            refine lv_iinc (v := (x1_6 + (1 : Int32))) (lv' := [(1, .int (x1_6 + (1 : Int32))), (0, .ref (a 0))]) S.1 S.2.1 dX10_hall_68 hl (k := 1) rfl rfl (by decide) rfl (fun ls hl => ?_)
            refine lv_goto (tgt := 53) S.1 S.2.1 dX10_hall_71 (by decide) ?_
            have e_15 : ∀ _ : Unit, ((x1_6 + (1 : Int32))).toInt = (x1_6).toInt + 1 := fun _ => xadd rfl rfl (by omega) (by omega)
            exact ih_6 (x1_6 + (1 : Int32)) (sp u_6 34 (upd (u_6.1 34) 2 (0 : Int32))) _ _ _ (show 0 ≤ ((x1_6 + (1 : Int32))).toInt from by rw [(e_15 ())]; omega) (show 2 - ((x1_6 + (1 : Int32))).toInt < (n_6 : Int) ∧ 1 ≤ n_6 from by rw [(e_15 ())]; omega) (lv_sub hl [1, 0] rfl) hw hV
    exact lp_6 3 (0 : Int32) (sp (sp (k_Hall_beginAs (k_Reader_readsAll u).2) 27 (upd ((k_Hall_beginAs (k_Reader_readsAll u).2).1 27) 2 (0 : Int32))) 44 (upd ((k_Hall_beginAs (k_Reader_readsAll u).2).1 44) 3 (0 : Int32))) _ _ _ (show 0 ≤ 0 from by omega) (show 2 - 0 < ((3 : Nat) : Int) ∧ 1 ≤ (3 : Nat) from by omega) (lv_sub hl [1, 0] rfl) hw hV
  · replace hV := hV.trans (if_pos c_2)
    have gc_2 : ((b2i (k_Reader_readsAll u).1)).toInt = 0 := xq_eq c_2 rfl rfl
    refine lv_bipush (v := -10) S.1 S.2.1 dX10_hall_10 (by decide) ?_
    refine lv_aload_n S.1 S.2.1 dX10_hall_12 rfl (lv_at hl 0 rfl) ?_
    refine xget (v := .ref (a 1)) S hK hw 0 rfl rfl inX10 0 (by decide) mfX10_10 rfl dX10_hall_13 ?_
    refine xget (v := .int ((k_Reader_readsAll u).2.1 1 3)) S hK hw 1 rfl rfl inX8 3 (by decide) mfX10_79 rfl dX10_hall_16 ?_
    refine lv_isub S.1 S.2.1 dX10_hall_19 ?_
    exact xri S hr hlk hw hV dX10_hall_20
