noncomputable def k_best_b (u : xU) (p1 : Int32) (p2 : Int32) (p3 : Int32) : Int32 × xU :=
    (if (b2i (k_Hall_isCast u p1)) = (0 : Int32) then
    ((-1 : Int32), u)
    else
    (if p2 < (0 : Int32) then
    ((-1 : Int32), u)
    else
    (if (99 : Int32) < p2 then
    ((-1 : Int32), u)
    else
    (if p3 < (0 : Int32) then
    ((-1 : Int32), u)
    else
    (if p3 ≤ (1 : Int32) then
    let r_6 := k_Planner_mostIn u p1 p2
    (if p3 = (0 : Int32) then
    (r_6.1, r_6.2)
    else
    ((k_Planner_nightsOf r_6.2 r_6.1), r_6.2))
    else
    ((-1 : Int32), u))))))
theorem k_best_x : ∃ f : xU → Int32 → Int32 → Int32 → Int32 × xU, f = k_best_b := ⟨_, rfl⟩
noncomputable def k_best : xU → Int32 → Int32 → Int32 → Int32 × xU := k_best_x.choose
theorem k_best_def : k_best = k_best_b := k_best_x.choose_spec
set_option maxHeartbeats 4000000 in
set_option maxRecDepth 100000 in
theorem c_k_best (l : Launch) (D : va_G) (a : Nat → Nat) (Y : Nat → ClassId) (ts : Nat → Nat) (u : xU) (p1 : Int32) (p2 : Int32) (p3 : Int32) (hT : (0 ≤ ((u.1 13 0)).toInt ∧ ((u.1 13 0)).toInt ≤ 8)) (hC : (0 ≤ ((u.1 13 1)).toInt ∧ ((u.1 13 1)).toInt ≤ 6)) : xMi l yX10_best cX10_best 5 (some .int) (xRm 4 96) D (xty Y) (wC a Y) ts [.ref (a 0), .int p1, .int p2, .int p3] u ((k_best u p1 p2 p3).1, (k_best u p1 p2 p3).2) := by
  suffices h : ∀ V, V = k_best_b u p1 p2 p3 → xMi l yX10_best cX10_best 5 (some .int) (xRm 4 96) D (xty Y) (wC a Y) ts [.ref (a 0), .int p1, .int p2, .int p3] u (V.1, V.2) from h _ (by rw [k_best_def])
  intro V hV
  refine xofi RX10 rfl (by decide) (Nat.le_of_ble_eq_true rfl) ?_
  intro p e s m args below meth c ls H locs A S hr hlk hl hK hE hA hw
  have hl : lv_has ls 5 [(0, .ref (a 0)), (1, .int p1), (2, .int p2), (3, .int p3)] := hl
  refine lv_aload_n S.1 S.2.1 dX10_best_0 rfl (lv_at hl 0 rfl) ?_
  refine xget (v := .ref (a 12)) S hK hw 0 rfl rfl inX10 1 (by decide) mfX10_19 rfl dX10_best_1 ?_
  refine lv_iload_n S.1 S.2.1 dX10_best_4 rfl (lv_at hl 1 rfl) ?_
  refine xci (rest := []) S hK hE hA hw yfX0_isCast (c_k_Hall_isCast l D a Y ts _ p1 (show (0 ≤ ((u.1 13 0)).toInt ∧ ((u.1 13 0)).toInt ≤ 8) from by (first | omega | (simp only [kp_most13]; omega))) (show (0 ≤ ((u.1 13 1)).toInt ∧ ((u.1 13 1)).toInt ≤ 6) from by (first | omega | (simp only [kp_most13]; omega)))) 12 rfl rfl mlX10_129 rfl rfl hl.1 ⟨rfl, rfl, Nat.le_of_ble_eq_true rfl, Nat.le_of_ble_eq_true rfl, Nat.le_of_ble_eq_true rfl, Nat.zero_le _, Nat.zero_le _⟩ dX10_best_5 (fun H locs hw => ?_)
  refine lv_if_eq (tgt := 30) S.1 S.2.1 dX10_best_8 (by decide) (fun c_1 => ?_) (fun c_1 => ?_)
  · replace hV := hV.trans (if_pos c_1)
    have gc_1 : ((b2i (k_Hall_isCast u p1))).toInt = 0 := xq_eq c_1 rfl rfl
    refine lv_iconst (v := -1) S.1 S.2.1 dX10_best_30 (by decide) ?_
    exact xri S hr hlk hw hV dX10_best_31
  · replace hV := hV.trans (if_neg c_1)
    have gc_1 : ¬ ((b2i (k_Hall_isCast u p1))).toInt = 0 := xq_ne c_1 rfl rfl
    have fc_1 := hk_isCast c_1
    refine lv_iload_n S.1 S.2.1 dX10_best_11 rfl (lv_at hl 2 rfl) ?_
    refine lv_if_lt (tgt := 30) S.1 S.2.1 dX10_best_12 (by decide) (fun c_2 => ?_) (fun c_2 => ?_)
    · replace hV := hV.trans (if_pos c_2)
      have gc_2 : (p2).toInt < 0 := xq_lt c_2 rfl rfl
      refine lv_iconst (v := -1) S.1 S.2.1 dX10_best_30 (by decide) ?_
      exact xri S hr hlk hw hV dX10_best_31
    · replace hV := hV.trans (if_neg c_2)
      have gc_2 : 0 ≤ (p2).toInt := xq_nlt c_2 rfl rfl
      refine lv_iload_n S.1 S.2.1 dX10_best_15 rfl (lv_at hl 2 rfl) ?_
      refine lv_bipush (v := 99) S.1 S.2.1 dX10_best_16 (by decide) ?_
      refine lv_icmp_gt (tgt := 30) S.1 S.2.1 dX10_best_18 (by decide) (fun c_3 => ?_) (fun c_3 => ?_)
      · replace hV := hV.trans (if_pos c_3)
        have gc_3 : 99 < (p2).toInt := xq_lt c_3 rfl rfl
        refine lv_iconst (v := -1) S.1 S.2.1 dX10_best_30 (by decide) ?_
        exact xri S hr hlk hw hV dX10_best_31
      · replace hV := hV.trans (if_neg c_3)
        have gc_3 : (p2).toInt ≤ 99 := xq_nlt c_3 rfl rfl
        refine lv_iload_n S.1 S.2.1 dX10_best_21 rfl (lv_at hl 3 rfl) ?_
        refine lv_if_lt (tgt := 30) S.1 S.2.1 dX10_best_22 (by decide) (fun c_4 => ?_) (fun c_4 => ?_)
        · replace hV := hV.trans (if_pos c_4)
          have gc_4 : (p3).toInt < 0 := xq_lt c_4 rfl rfl
          refine lv_iconst (v := -1) S.1 S.2.1 dX10_best_30 (by decide) ?_
          exact xri S hr hlk hw hV dX10_best_31
        · replace hV := hV.trans (if_neg c_4)
          have gc_4 : 0 ≤ (p3).toInt := xq_nlt c_4 rfl rfl
          refine lv_iload_n S.1 S.2.1 dX10_best_25 rfl (lv_at hl 3 rfl) ?_
          refine lv_iconst (v := 1) S.1 S.2.1 dX10_best_26 (by decide) ?_
          refine lv_icmp_le (tgt := 32) S.1 S.2.1 dX10_best_27 (by decide) (fun c_5 => ?_) (fun c_5 => ?_)
          · replace hV := hV.trans (if_pos c_5)
            have gc_5 : (p3).toInt ≤ 1 := xq_le c_5 rfl rfl
            refine lv_aload_n S.1 S.2.1 dX10_best_32 rfl (lv_at hl 0 rfl) ?_
            refine xget (v := .ref (a 38)) S hK hw 0 rfl rfl inX10 4 (by decide) mfX10_42 rfl dX10_best_33 ?_
            refine lv_iload_n S.1 S.2.1 dX10_best_36 rfl (lv_at hl 1 rfl) ?_
            refine lv_iload_n S.1 S.2.1 dX10_best_37 rfl (lv_at hl 2 rfl) ?_
            refine xci (rest := []) S hK hE hA hw yfX7_mostIn (c_k_Planner_mostIn l D a Y ts _ p1 p2 (show (0 ≤ ((u.1 13 0)).toInt ∧ ((u.1 13 0)).toInt ≤ 8) from by (first | omega | (simp only [kp_most13]; omega))) (show (0 ≤ ((u.1 13 1)).toInt ∧ ((u.1 13 1)).toInt ≤ 6) from by (first | omega | (simp only [kp_most13]; omega))) (show 0 ≤ (p1).toInt ∧ (p1).toInt < 6 from by (first | omega | (simp only [kp_most13]; omega)))) 38 rfl rfl mlX10_230 rfl rfl hl.1 ⟨rfl, rfl, Nat.le_of_ble_eq_true rfl, Nat.le_of_ble_eq_true rfl, Nat.le_of_ble_eq_true rfl, Nat.zero_le _, Nat.zero_le _⟩ dX10_best_38 (fun H locs hw => ?_)
            refine lv_istore (lv' := [(4, .int (k_Planner_mostIn u p1 p2).1), (0, .ref (a 0)), (1, .int p1), (2, .int p2), (3, .int p3)]) S.1 S.2.1 dX10_best_41 hl (by decide) rfl (fun ls hl => ?_)
            refine lv_iload_n S.1 S.2.1 dX10_best_43 rfl (lv_at hl 4 rfl) ?_
            refine lv_if_ne (tgt := 52) S.1 S.2.1 dX10_best_44 (by decide) (fun c_7 => ?_) (fun c_7 => ?_)
            · replace hV := hV.trans (if_neg c_7)
              have gc_7 : ¬ (p3).toInt = 0 := xq_ne c_7 rfl rfl
              refine lv_aload_n S.1 S.2.1 dX10_best_52 rfl (lv_at hl 1 rfl) ?_
              refine xget (v := .ref (a 38)) S hK hw 0 rfl rfl inX10 4 (by decide) mfX10_42 rfl dX10_best_53 ?_
              refine lv_iload S.1 S.2.1 dX10_best_56 (lv_at hl 0 rfl) ?_
              refine xci (rest := []) S hK hE hA hw yfX7_nightsOf (c_k_Planner_nightsOf l D a Y ts _ (k_Planner_mostIn u p1 p2).1 (show (0 ≤ (((k_Planner_mostIn u p1 p2).2.1 13 0)).toInt ∧ (((k_Planner_mostIn u p1 p2).2.1 13 0)).toInt ≤ 8) from by (first | omega | (simp only [kp_most13]; omega))) (show (0 ≤ (((k_Planner_mostIn u p1 p2).2.1 13 1)).toInt ∧ (((k_Planner_mostIn u p1 p2).2.1 13 1)).toInt ≤ 6) from by (first | omega | (simp only [kp_most13]; omega)))) 38 rfl rfl mlX10_221 rfl rfl hl.1 ⟨rfl, rfl, Nat.le_of_ble_eq_true rfl, Nat.le_of_ble_eq_true rfl, Nat.le_of_ble_eq_true rfl, Nat.zero_le _, Nat.zero_le _⟩ dX10_best_58 (fun H locs hw => ?_)
              exact xri S hr hlk hw hV dX10_best_61
            · replace hV := hV.trans (if_pos c_7)
              have gc_7 : (p3).toInt = 0 := xq_eq c_7 rfl rfl
              refine lv_iload S.1 S.2.1 dX10_best_47 (lv_at hl 0 rfl) ?_
              refine lv_goto (tgt := 61) S.1 S.2.1 dX10_best_49 (by decide) ?_
              exact xri S hr hlk hw hV dX10_best_61
          · replace hV := hV.trans (if_neg c_5)
            have gc_5 : 1 < (p3).toInt := xq_nle c_5 rfl rfl
            refine lv_iconst (v := -1) S.1 S.2.1 dX10_best_30 (by decide) ?_
            exact xri S hr hlk hw hV dX10_best_31
noncomputable def k_Reader_readsItem_L97 (x1 : Int32) (x3 : Int32) : Nat → Int32 → xU → Bool × xU
  | 0, _, w => (false, w)
  | n + 1, x4, w =>
    (if x3 ≤ x4 then
    (if (w.1 1 5) = (3 : Int32) then
    let r_9 := k_Reader_look w
    (if x1 = (0 : Int32) then
    let r_12 := k_Told_addCast r_9
    (true, r_12)
    else
    let r_13 := k_Told_addThing r_9
    (true, r_13))
    else
    (false, w))
    else
    (if x1 = (0 : Int32) then
    (if (b2i (k_Reader_fitsCast w x4)) = (0 : Int32) then
    (false, w)
    else
    let w_16 := sp w 3 (upd (w.1 3) (x4).toNatClampNeg (w.1 1 6))
    let r_17 := k_Reader_look w_16
    k_Reader_readsItem_L97 x1 x3 n (x4 + (1 : Int32)) r_17)
    else
    (if (b2i (k_Reader_fitsThing w x4)) = (0 : Int32) then
    (false, w)
    else
    let w_21 := sp w 3 (upd (w.1 3) (x4).toNatClampNeg (w.1 1 6))
    let r_22 := k_Reader_look w_21
    k_Reader_readsItem_L97 x1 x3 n (x4 + (1 : Int32)) r_22)))
noncomputable def k_Reader_readsItem_J94 (w : xU) (x1 : Int32) (x3 : Int32) : Bool × xU :=
    k_Reader_readsItem_L97 x1 x3 6 (0 : Int32) w
noncomputable def k_Reader_readsItem_J70 (w : xU) (x1 : Int32) (x2 : Int32) : Bool × xU :=
    (if x1 = (0 : Int32) then
    (if x2 = (0 : Int32) then
    (false, w)
    else
    let r_27 := k_Reader_look w
    (if x1 = (0 : Int32) then
    k_Reader_readsItem_J94 r_27 x1 (3 : Int32)
    else
    k_Reader_readsItem_J94 r_27 x1 (5 : Int32)))
    else
    let r_3 := k_Reader_look w
    (if x1 = (0 : Int32) then
    k_Reader_readsItem_J94 r_3 x1 (3 : Int32)
    else
    k_Reader_readsItem_J94 r_3 x1 (5 : Int32)))
noncomputable def k_Reader_readsItem_b (u : xU) : Bool × xU :=
    (if (u.1 1 5) = (1 : Int32) then
    (if (u.1 1 6) = (116 : Int32) then
    (if (8 : Int32) ≤ (u.1 4 0) then
    (if (u.1 1 5) = (1 : Int32) then
    (if (u.1 1 6) = (99 : Int32) then
    (if (6 : Int32) ≤ (u.1 4 1) then
    k_Reader_readsItem_J70 u (0 : Int32) (0 : Int32)
    else
    k_Reader_readsItem_J70 u (0 : Int32) (1 : Int32))
    else
    k_Reader_readsItem_J70 u (0 : Int32) (0 : Int32))
    else
    k_Reader_readsItem_J70 u (0 : Int32) (0 : Int32))
    else
    (if (u.1 1 5) = (1 : Int32) then
    (if (u.1 1 6) = (99 : Int32) then
    (if (6 : Int32) ≤ (u.1 4 1) then
    k_Reader_readsItem_J70 u (1 : Int32) (0 : Int32)
    else
    k_Reader_readsItem_J70 u (1 : Int32) (1 : Int32))
    else
    k_Reader_readsItem_J70 u (1 : Int32) (0 : Int32))
    else
    k_Reader_readsItem_J70 u (1 : Int32) (0 : Int32)))
    else
    (if (u.1 1 5) = (1 : Int32) then
    (if (u.1 1 6) = (99 : Int32) then
    (if (6 : Int32) ≤ (u.1 4 1) then
    k_Reader_readsItem_J70 u (0 : Int32) (0 : Int32)
    else
    k_Reader_readsItem_J70 u (0 : Int32) (1 : Int32))
    else
    k_Reader_readsItem_J70 u (0 : Int32) (0 : Int32))
    else
    k_Reader_readsItem_J70 u (0 : Int32) (0 : Int32)))
    else
    (if (u.1 1 5) = (1 : Int32) then
    (if (u.1 1 6) = (99 : Int32) then
    (if (6 : Int32) ≤ (u.1 4 1) then
    k_Reader_readsItem_J70 u (0 : Int32) (0 : Int32)
    else
    k_Reader_readsItem_J70 u (0 : Int32) (1 : Int32))
    else
    k_Reader_readsItem_J70 u (0 : Int32) (0 : Int32))
    else
    k_Reader_readsItem_J70 u (0 : Int32) (0 : Int32)))
theorem k_Reader_readsItem_x : ∃ f : xU → Bool × xU, f = k_Reader_readsItem_b := ⟨_, rfl⟩
noncomputable def k_Reader_readsItem : xU → Bool × xU := k_Reader_readsItem_x.choose
theorem k_Reader_readsItem_def : k_Reader_readsItem = k_Reader_readsItem_b := k_Reader_readsItem_x.choose_spec
set_option maxHeartbeats 4000000 in
set_option maxRecDepth 100000 in
theorem c_k_Reader_readsItem (l : Launch) (D : va_G) (a : Nat → Nat) (Y : Nat → ClassId) (ts : Nat → Nat) (u : xU) (hL : (0 ≤ ((u.1 1 1)).toInt ∧ ((u.1 1 1)).toInt ≤ 150)) (hX : (0 ≤ ((u.1 1 4)).toInt ∧ ((u.1 1 4)).toInt ≤ 150)) (hRT : (0 ≤ ((u.1 4 0)).toInt ∧ ((u.1 4 0)).toInt ≤ 8)) (hRC : (0 ≤ ((u.1 4 1)).toInt ∧ ((u.1 4 1)).toInt ≤ 6)) : xMi l yX8_readsItem cX8_readsItem 5 (some .boolean) (xRm 3 73) D (xty Y) (wC a Y) ts [.ref (a 1)] u (b2i (k_Reader_readsItem u).1, (k_Reader_readsItem u).2) := by
  suffices h : ∀ V, V = k_Reader_readsItem_b u → xMi l yX8_readsItem cX8_readsItem 5 (some .boolean) (xRm 3 73) D (xty Y) (wC a Y) ts [.ref (a 1)] u (b2i V.1, V.2) from h _ (by rw [k_Reader_readsItem_def])
  intro V hV
  refine xofi RX8 rfl (by decide) (Nat.le_of_ble_eq_true rfl) ?_
  intro p e s m args below meth c ls H locs A S hr hlk hl hK hE hA hw
  have hl : lv_has ls 5 [(0, .ref (a 1))] := hl
  have ct_1 : ∀ (y1_1 : Int32) (y2_1 : Int32) (H : Heap) (locs : List Loc) (ls : Array Slot), ((((y1_1).toInt = 0 ∨ (y1_1).toInt = 1) ∧ ((y2_1).toInt = 0 ∨ (y2_1).toInt = 1) ∧ ((y1_1).toInt = 0 ∨ ((u.1 4 0)).toInt < 8) ∧ ((y2_1).toInt = 0 ∨ ((u.1 4 1)).toInt < 6))) → lv_has ls 5 [(0, .ref (a 1)), (1, .int y1_1), (2, .int y2_1)] → xw D (wC a Y) A s.heap H locs u → V = k_Reader_readsItem_J70 u y1_1 y2_1 → W p l e (xRm 3 73) s m args below meth c H locs 0 0 (MQ below (va_Qi (fun r v => (r, v) = (b2i V.1, V.2)) (xPost D (wC a Y) A) A) args s 0 0 A) (F0 m 70 ls []) := by
    intro y1_1 y2_1 H locs ls i0_1 hl hw hV
    refine lv_iload_n S.1 S.2.1 dX8_readsItem_70 rfl (lv_at hl 1 rfl) ?_
    refine lv_if_ne (tgt := 80) S.1 S.2.1 dX8_readsItem_71 (by decide) (fun c_2 => ?_) (fun c_2 => ?_)
    · replace hV := hV.trans (if_neg c_2)
      have gc_2 : ¬ (y1_1).toInt = 0 := xq_ne c_2 rfl rfl
      refine lv_aload_n S.1 S.2.1 dX8_readsItem_80 rfl (lv_at hl 0 rfl) ?_
      refine xcVv (rest := []) S hK hE hA hw yfX8_look (c_k_Reader_look l D a Y ts _ (show (0 ≤ ((u.1 1 1)).toInt ∧ ((u.1 1 1)).toInt ≤ 150) from by omega) (show (0 ≤ ((u.1 1 4)).toInt ∧ ((u.1 1 4)).toInt ≤ 150) from by omega)) 1 rfl rfl mlX8_35 rfl rfl hl.1 ⟨rfl, rfl, Nat.le_of_ble_eq_true rfl, Nat.le_of_ble_eq_true rfl, Nat.le_of_ble_eq_true rfl, Nat.zero_le _, Nat.zero_le _⟩ dX8_readsItem_81 (fun H locs hw => ?_)
      have q_4 := RI_look (u := u) (show (0 ≤ ((u.1 1 1)).toInt ∧ ((u.1 1 1)).toInt ≤ 150) from by omega) (show (0 ≤ ((u.1 1 4)).toInt ∧ ((u.1 1 4)).toInt ≤ 150) from by omega)
      have q_4L : (0 ≤ (((k_Reader_look u).1 1 1)).toInt ∧ (((k_Reader_look u).1 1 1)).toInt ≤ 150) := RI.L (u := u) (show (0 ≤ ((u.1 1 1)).toInt ∧ ((u.1 1 1)).toInt ≤ 150) from by omega) q_4
      have q_4X : (0 ≤ (((k_Reader_look u).1 1 4)).toInt ∧ (((k_Reader_look u).1 1 4)).toInt ≤ 150) := q_4.2.2.1
      have q_40 : (((k_Reader_look u).1 4 0)).toInt = ((u.1 4 0)).toInt := congrArg (fun f => (f 0).toInt) (q_4.1 4 (by decide))
      have q_41 : (((k_Reader_look u).1 4 1)).toInt = ((u.1 4 1)).toInt := congrArg (fun f => (f 1).toInt) (q_4.1 4 (by decide))
      have ct_5 : ∀ (y3_5 : Int32) (H : Heap) (locs : List Loc) (ls : Array Slot), ((((y3_5).toInt = 5 ∧ ¬ (y1_1).toInt = 0) ∨ ((y3_5).toInt = 3 ∧ (y1_1).toInt = 0))) → lv_has ls 5 [(0, .ref (a 1)), (1, .int y1_1), (3, .int y3_5)] → xw D (wC a Y) A s.heap H locs (k_Reader_look u) → V = k_Reader_readsItem_J94 (k_Reader_look u) y1_1 y3_5 → W p l e (xRm 3 73) s m args below meth c H locs 0 0 (MQ below (va_Qi (fun r v => (r, v) = (b2i V.1, V.2)) (xPost D (wC a Y) A) A) args s 0 0 A) (F0 m 94 ls []) := by
        intro y3_5 H locs ls i0_5 hl hw hV
        refine lv_iconst (v := 0) S.1 S.2.1 dX8_readsItem_94 (by decide) ?_
        refine lv_istore (lv' := [(4, .int (0 : Int32)), (0, .ref (a 1)), (1, .int y1_1), (3, .int y3_5)]) S.1 S.2.1 dX8_readsItem_95 hl (by decide) rfl (fun ls hl => ?_)
        have lp_6 : ∀ (n_6 : Nat) (x4_6 : Int32) (u_6 : xU) (H : Heap) (locs : List Loc) (ls : Array Slot), (0 ≤ (x4_6).toInt) → ((((y1_1).toInt = 0 ∧ ((u_6.1 4 1)).toInt < 6) ∨ (¬ (y1_1).toInt = 0 ∧ ((u_6.1 4 0)).toInt < 8))) → ((0 ≤ ((u_6.1 1 1)).toInt ∧ ((u_6.1 1 1)).toInt ≤ 150)) → ((0 ≤ ((u_6.1 1 4)).toInt ∧ ((u_6.1 1 4)).toInt ≤ 150)) → ((0 ≤ ((u_6.1 4 0)).toInt ∧ ((u_6.1 4 0)).toInt ≤ 8)) → ((0 ≤ ((u_6.1 4 1)).toInt ∧ ((u_6.1 4 1)).toInt ≤ 6)) → ((y3_5).toInt - (x4_6).toInt < (n_6 : Int) ∧ 1 ≤ n_6) → lv_has ls 5 [(0, .ref (a 1)), (1, .int y1_1), (3, .int y3_5), (4, .int x4_6)] → xw D (wC a Y) A s.heap H locs u_6 → V = k_Reader_readsItem_L97 y1_1 y3_5 n_6 x4_6 u_6 → W p l e (xRm 3 73) s m args below meth c H locs 0 0 (MQ below (va_Qi (fun r v => (r, v) = (b2i V.1, V.2)) (xPost D (wC a Y) A) A) args s 0 0 A) (F0 m 97 ls []) := by
          intro n_6
          induction n_6 with
          | zero => intro x4_6 u_6 H locs ls i0_6 i1_6 i2_6 i3_6 i4_6 i5_6 hn; exact absurd hn.2 (by decide)
          | succ n_6 ih_6 =>
            intro x4_6 u_6 H locs ls i0_6 i1_6 i2_6 i3_6 i4_6 i5_6 hn_6 hl hw hV
            refine lv_iload S.1 S.2.1 dX8_readsItem_97 (lv_at hl 3 rfl) ?_
            refine lv_iload_n S.1 S.2.1 dX8_readsItem_99 rfl (lv_at hl 2 rfl) ?_
            refine lv_icmp_ge (tgt := 151) S.1 S.2.1 dX8_readsItem_100 (by decide) (fun c_7 => ?_) (fun c_7 => ?_)
            · replace hV := hV.trans (if_pos c_7)
              have gc_7 : (y3_5).toInt ≤ (x4_6).toInt := xq_le c_7 rfl rfl
              refine lv_aload_n S.1 S.2.1 dX8_readsItem_151 rfl (lv_at hl 0 rfl) ?_
              refine xget (v := .int (u_6.1 1 5)) S hK hw 1 rfl rfl inX8 5 (by decide) mfX8_38 rfl dX8_readsItem_152 ?_
              refine lv_iconst (v := 3) S.1 S.2.1 dX8_readsItem_155 (by decide) ?_
              refine lv_icmp_eq (tgt := 161) S.1 S.2.1 dX8_readsItem_156 (by decide) (fun c_8 => ?_) (fun c_8 => ?_)
              · replace hV := hV.trans (if_pos c_8)
                have gc_8 : ((u_6.1 1 5)).toInt = 3 := xq_eq c_8 rfl rfl
                refine lv_aload_n S.1 S.2.1 dX8_readsItem_161 rfl (lv_at hl 0 rfl) ?_
                refine xcVv (rest := []) S hK hE hA hw yfX8_look (c_k_Reader_look l D a Y ts _ (show (0 ≤ ((u_6.1 1 1)).toInt ∧ ((u_6.1 1 1)).toInt ≤ 150) from by omega) (show (0 ≤ ((u_6.1 1 4)).toInt ∧ ((u_6.1 1 4)).toInt ≤ 150) from by omega)) 1 rfl rfl mlX8_35 rfl rfl hl.1 ⟨rfl, rfl, Nat.le_of_ble_eq_true rfl, Nat.le_of_ble_eq_true rfl, Nat.le_of_ble_eq_true rfl, Nat.zero_le _, Nat.zero_le _⟩ dX8_readsItem_162 (fun H locs hw => ?_)
                have q_10 := RI_look (u := u_6) (show (0 ≤ ((u_6.1 1 1)).toInt ∧ ((u_6.1 1 1)).toInt ≤ 150) from by omega) (show (0 ≤ ((u_6.1 1 4)).toInt ∧ ((u_6.1 1 4)).toInt ≤ 150) from by omega)
                have q_10L : (0 ≤ (((k_Reader_look u_6).1 1 1)).toInt ∧ (((k_Reader_look u_6).1 1 1)).toInt ≤ 150) := RI.L (u := u_6) (show (0 ≤ ((u_6.1 1 1)).toInt ∧ ((u_6.1 1 1)).toInt ≤ 150) from by omega) q_10
                have q_10X : (0 ≤ (((k_Reader_look u_6).1 1 4)).toInt ∧ (((k_Reader_look u_6).1 1 4)).toInt ≤ 150) := q_10.2.2.1
                have q_100 : (((k_Reader_look u_6).1 4 0)).toInt = ((u_6.1 4 0)).toInt := congrArg (fun f => (f 0).toInt) (q_10.1 4 (by decide))
                have q_101 : (((k_Reader_look u_6).1 4 1)).toInt = ((u_6.1 4 1)).toInt := congrArg (fun f => (f 1).toInt) (q_10.1 4 (by decide))
                refine lv_iload_n S.1 S.2.1 dX8_readsItem_165 rfl (lv_at hl 1 rfl) ?_
                refine lv_if_eq (tgt := 183) S.1 S.2.1 dX8_readsItem_166 (by decide) (fun c_11 => ?_) (fun c_11 => ?_)
                · replace hV := hV.trans (if_pos c_11)
                  have gc_11 : (y1_1).toInt = 0 := xq_eq c_11 rfl rfl
                  refine lv_aload_n S.1 S.2.1 dX8_readsItem_183 rfl (lv_at hl 0 rfl) ?_
                  refine xget (v := .ref (a 4)) S hK hw 1 rfl rfl inX8 2 (by decide) mfX8_18 rfl dX8_readsItem_184 ?_
                  refine lv_aload_n S.1 S.2.1 dX8_readsItem_187 rfl (lv_at hl 0 rfl) ?_
                  refine xget (v := .ref (a 3)) S hK hw 1 rfl rfl inX8 7 (by decide) mfX8_22 rfl dX8_readsItem_188 ?_
                  refine xcVv (rest := []) S hK hE hA hw yfX9_addCast (c_k_Told_addCast l D a Y ts _ (show (0 ≤ (((k_Reader_look u_6).1 4 1)).toInt ∧ (((k_Reader_look u_6).1 4 1)).toInt < 6) from by omega)) 4 rfl rfl mlX8_59 rfl rfl hl.1 ⟨rfl, rfl, Nat.le_of_ble_eq_true rfl, Nat.le_of_ble_eq_true rfl, Nat.le_of_ble_eq_true rfl, Nat.zero_le _, Nat.zero_le _⟩ dX8_readsItem_191 (fun H locs hw => ?_)
                  refine lv_iconst (v := 1) S.1 S.2.1 dX8_readsItem_194 (by decide) ?_
                  exact xrz S hr hlk hw rfl (congrArg (fun b : Bool × xU => (b2i b.1, b.2)) hV) dX8_readsItem_195
                · replace hV := hV.trans (if_neg c_11)
                  have gc_11 : ¬ (y1_1).toInt = 0 := xq_ne c_11 rfl rfl
                  refine lv_aload_n S.1 S.2.1 dX8_readsItem_169 rfl (lv_at hl 0 rfl) ?_
                  refine xget (v := .ref (a 4)) S hK hw 1 rfl rfl inX8 2 (by decide) mfX8_18 rfl dX8_readsItem_170 ?_
                  refine lv_aload_n S.1 S.2.1 dX8_readsItem_173 rfl (lv_at hl 0 rfl) ?_
                  refine xget (v := .ref (a 3)) S hK hw 1 rfl rfl inX8 7 (by decide) mfX8_22 rfl dX8_readsItem_174 ?_
                  refine xcVv (rest := []) S hK hE hA hw yfX9_addThing (c_k_Told_addThing l D a Y ts _ (show (0 ≤ (((k_Reader_look u_6).1 4 0)).toInt ∧ (((k_Reader_look u_6).1 4 0)).toInt < 8) from by omega)) 4 rfl rfl mlX8_55 rfl rfl hl.1 ⟨rfl, rfl, Nat.le_of_ble_eq_true rfl, Nat.le_of_ble_eq_true rfl, Nat.le_of_ble_eq_true rfl, Nat.zero_le _, Nat.zero_le _⟩ dX8_readsItem_177 (fun H locs hw => ?_)
                  refine lv_goto (tgt := 194) S.1 S.2.1 dX8_readsItem_180 (by decide) ?_
                  refine lv_iconst (v := 1) S.1 S.2.1 dX8_readsItem_194 (by decide) ?_
                  exact xrz S hr hlk hw rfl (congrArg (fun b : Bool × xU => (b2i b.1, b.2)) hV) dX8_readsItem_195
              · replace hV := hV.trans (if_neg c_8)
                have gc_8 : ¬ ((u_6.1 1 5)).toInt = 3 := xq_ne c_8 rfl rfl
                refine lv_iconst (v := 0) S.1 S.2.1 dX8_readsItem_159 (by decide) ?_
                exact xrz S hr hlk hw rfl (congrArg (fun b : Bool × xU => (b2i b.1, b.2)) hV) dX8_readsItem_160
            · replace hV := hV.trans (if_neg c_7)
              have gc_7 : (x4_6).toInt < (y3_5).toInt := xq_nle c_7 rfl rfl
              refine lv_iload_n S.1 S.2.1 dX8_readsItem_103 rfl (lv_at hl 1 rfl) ?_
              refine lv_if_eq (tgt := 119) S.1 S.2.1 dX8_readsItem_104 (by decide) (fun c_14 => ?_) (fun c_14 => ?_)
              · replace hV := hV.trans (if_pos c_14)
                have gc_14 : (y1_1).toInt = 0 := xq_eq c_14 rfl rfl
                refine lv_aload_n S.1 S.2.1 dX8_readsItem_119 rfl (lv_at hl 0 rfl) ?_
                refine lv_iload S.1 S.2.1 dX8_readsItem_120 (lv_at hl 3 rfl) ?_
                refine xci (rest := []) S hK hE hA hw yfX8_fitsCast (c_k_Reader_fitsCast l D a Y ts _ x4_6 (show 0 ≤ (x4_6).toInt ∧ (x4_6).toInt < 3 from by omega)) 1 rfl rfl mlX8_52 rfl rfl hl.1 ⟨rfl, rfl, Nat.le_of_ble_eq_true rfl, Nat.le_of_ble_eq_true rfl, Nat.le_of_ble_eq_true rfl, Nat.zero_le _, Nat.zero_le _⟩ dX8_readsItem_122 (fun H locs hw => ?_)
                refine lv_if_ne (tgt := 130) S.1 S.2.1 dX8_readsItem_125 (by decide) (fun c_15 => ?_) (fun c_15 => ?_)
                · replace hV := hV.trans (if_neg c_15)
                  have gc_15 : ¬ ((b2i (k_Reader_fitsCast u_6 x4_6))).toInt = 0 := xq_ne c_15 rfl rfl
                  refine lv_aload_n S.1 S.2.1 dX8_readsItem_130 rfl (lv_at hl 0 rfl) ?_
                  refine xget (v := .ref (a 3)) S hK hw 1 rfl rfl inX8 7 (by decide) mfX8_22 rfl dX8_readsItem_131 ?_
                  refine lv_iload S.1 S.2.1 dX8_readsItem_134 (lv_at hl 3 rfl) ?_
                  refine lv_aload_n S.1 S.2.1 dX8_readsItem_136 rfl (lv_at hl 0 rfl) ?_
                  refine xget (v := .int (u_6.1 1 6)) S hK hw 1 rfl rfl inX8 6 (by decide) mfX8_45 rfl dX8_readsItem_137 ?_
                  refine xast S hK hw 3 0 rfl rfl (xvi rfl (by omega) (by omega)) (sC_3 _ _ _ _) dX8_readsItem_140 (fun H locs hw => ?_)
                  refine lv_aload_n S.1 S.2.1 dX8_readsItem_141 rfl (lv_at hl 0 rfl) ?_
                  refine xcVv (rest := []) S hK hE hA hw yfX8_look (c_k_Reader_look l D a Y ts _ (show (0 ≤ ((u_6.1 1 1)).toInt ∧ ((u_6.1 1 1)).toInt ≤ 150) from by omega) (show (0 ≤ ((u_6.1 1 4)).toInt ∧ ((u_6.1 1 4)).toInt ≤ 150) from by omega)) 1 rfl rfl mlX8_35 rfl rfl hl.1 ⟨rfl, rfl, Nat.le_of_ble_eq_true rfl, Nat.le_of_ble_eq_true rfl, Nat.le_of_ble_eq_true rfl, Nat.zero_le _, Nat.zero_le _⟩ dX8_readsItem_142 (fun H locs hw => ?_)
                  have q_18 := RI_look (u := (sp u_6 3 (upd (u_6.1 3) (x4_6).toNatClampNeg (u_6.1 1 6)))) (show (0 ≤ ((u_6.1 1 1)).toInt ∧ ((u_6.1 1 1)).toInt ≤ 150) from by omega) (show (0 ≤ ((u_6.1 1 4)).toInt ∧ ((u_6.1 1 4)).toInt ≤ 150) from by omega)
                  have q_18L : (0 ≤ (((k_Reader_look (sp u_6 3 (upd (u_6.1 3) (x4_6).toNatClampNeg (u_6.1 1 6)))).1 1 1)).toInt ∧ (((k_Reader_look (sp u_6 3 (upd (u_6.1 3) (x4_6).toNatClampNeg (u_6.1 1 6)))).1 1 1)).toInt ≤ 150) := RI.L (u := (sp u_6 3 (upd (u_6.1 3) (x4_6).toNatClampNeg (u_6.1 1 6)))) (show (0 ≤ ((u_6.1 1 1)).toInt ∧ ((u_6.1 1 1)).toInt ≤ 150) from by omega) q_18
                  have q_18X : (0 ≤ (((k_Reader_look (sp u_6 3 (upd (u_6.1 3) (x4_6).toNatClampNeg (u_6.1 1 6)))).1 1 4)).toInt ∧ (((k_Reader_look (sp u_6 3 (upd (u_6.1 3) (x4_6).toNatClampNeg (u_6.1 1 6)))).1 1 4)).toInt ≤ 150) := q_18.2.2.1
                  have q_180 : (((k_Reader_look (sp u_6 3 (upd (u_6.1 3) (x4_6).toNatClampNeg (u_6.1 1 6)))).1 4 0)).toInt = ((u_6.1 4 0)).toInt := congrArg (fun f => (f 0).toInt) (q_18.1 4 (by decide))
                  have q_181 : (((k_Reader_look (sp u_6 3 (upd (u_6.1 3) (x4_6).toNatClampNeg (u_6.1 1 6)))).1 4 1)).toInt = ((u_6.1 4 1)).toInt := congrArg (fun f => (f 1).toInt) (q_18.1 4 (by decide))
                  refine lv_iinc (v := (x4_6 + (1 : Int32))) (lv' := [(4, .int (x4_6 + (1 : Int32))), (0, .ref (a 1)), (1, .int y1_1), (3, .int y3_5)]) S.1 S.2.1 dX8_readsItem_145 hl (k := 3) rfl rfl (by decide) rfl (fun ls hl => ?_)
                  refine lv_goto (tgt := 97) S.1 S.2.1 dX8_readsItem_148 (by decide) ?_
                  have e_19 : ∀ _ : Unit, ((x4_6 + (1 : Int32))).toInt = (x4_6).toInt + 1 := fun _ => xadd rfl rfl (by omega) (by omega)
                  exact ih_6 (x4_6 + (1 : Int32)) (k_Reader_look (sp u_6 3 (upd (u_6.1 3) (x4_6).toNatClampNeg (u_6.1 1 6)))) _ _ _ (show 0 ≤ ((x4_6 + (1 : Int32))).toInt from by rw [(e_19 ())]; omega) (show (((y1_1).toInt = 0 ∧ (((k_Reader_look (sp u_6 3 (upd (u_6.1 3) (x4_6).toNatClampNeg (u_6.1 1 6)))).1 4 1)).toInt < 6) ∨ (¬ (y1_1).toInt = 0 ∧ (((k_Reader_look (sp u_6 3 (upd (u_6.1 3) (x4_6).toNatClampNeg (u_6.1 1 6)))).1 4 0)).toInt < 8)) from by omega) (show (0 ≤ (((k_Reader_look (sp u_6 3 (upd (u_6.1 3) (x4_6).toNatClampNeg (u_6.1 1 6)))).1 1 1)).toInt ∧ (((k_Reader_look (sp u_6 3 (upd (u_6.1 3) (x4_6).toNatClampNeg (u_6.1 1 6)))).1 1 1)).toInt ≤ 150) from by omega) (show (0 ≤ (((k_Reader_look (sp u_6 3 (upd (u_6.1 3) (x4_6).toNatClampNeg (u_6.1 1 6)))).1 1 4)).toInt ∧ (((k_Reader_look (sp u_6 3 (upd (u_6.1 3) (x4_6).toNatClampNeg (u_6.1 1 6)))).1 1 4)).toInt ≤ 150) from by omega) (show (0 ≤ (((k_Reader_look (sp u_6 3 (upd (u_6.1 3) (x4_6).toNatClampNeg (u_6.1 1 6)))).1 4 0)).toInt ∧ (((k_Reader_look (sp u_6 3 (upd (u_6.1 3) (x4_6).toNatClampNeg (u_6.1 1 6)))).1 4 0)).toInt ≤ 8) from by omega) (show (0 ≤ (((k_Reader_look (sp u_6 3 (upd (u_6.1 3) (x4_6).toNatClampNeg (u_6.1 1 6)))).1 4 1)).toInt ∧ (((k_Reader_look (sp u_6 3 (upd (u_6.1 3) (x4_6).toNatClampNeg (u_6.1 1 6)))).1 4 1)).toInt ≤ 6) from by omega) (show (y3_5).toInt - ((x4_6 + (1 : Int32))).toInt < (n_6 : Int) ∧ 1 ≤ n_6 from by rw [(e_19 ())]; omega) (lv_sub hl [1, 2, 3, 0] rfl) hw hV
                · replace hV := hV.trans (if_pos c_15)
                  have gc_15 : ((b2i (k_Reader_fitsCast u_6 x4_6))).toInt = 0 := xq_eq c_15 rfl rfl
                  refine lv_iconst (v := 0) S.1 S.2.1 dX8_readsItem_128 (by decide) ?_
                  exact xrz S hr hlk hw rfl (congrArg (fun b : Bool × xU => (b2i b.1, b.2)) hV) dX8_readsItem_129
              · replace hV := hV.trans (if_neg c_14)
                have gc_14 : ¬ (y1_1).toInt = 0 := xq_ne c_14 rfl rfl
                refine lv_aload_n S.1 S.2.1 dX8_readsItem_107 rfl (lv_at hl 0 rfl) ?_
                refine lv_iload S.1 S.2.1 dX8_readsItem_108 (lv_at hl 3 rfl) ?_
                refine xci (rest := []) S hK hE hA hw yfX8_fitsThing (c_k_Reader_fitsThing l D a Y ts _ x4_6 (show 0 ≤ (x4_6).toInt ∧ (x4_6).toInt < 5 from by omega)) 1 rfl rfl mlX8_48 rfl rfl hl.1 ⟨rfl, rfl, Nat.le_of_ble_eq_true rfl, Nat.le_of_ble_eq_true rfl, Nat.le_of_ble_eq_true rfl, Nat.zero_le _, Nat.zero_le _⟩ dX8_readsItem_110 (fun H locs hw => ?_)
                refine lv_if_ne (tgt := 130) S.1 S.2.1 dX8_readsItem_113 (by decide) (fun c_20 => ?_) (fun c_20 => ?_)
                · replace hV := hV.trans (if_neg c_20)
                  have gc_20 : ¬ ((b2i (k_Reader_fitsThing u_6 x4_6))).toInt = 0 := xq_ne c_20 rfl rfl
                  refine lv_aload_n S.1 S.2.1 dX8_readsItem_130 rfl (lv_at hl 0 rfl) ?_
                  refine xget (v := .ref (a 3)) S hK hw 1 rfl rfl inX8 7 (by decide) mfX8_22 rfl dX8_readsItem_131 ?_
                  refine lv_iload S.1 S.2.1 dX8_readsItem_134 (lv_at hl 3 rfl) ?_
                  refine lv_aload_n S.1 S.2.1 dX8_readsItem_136 rfl (lv_at hl 0 rfl) ?_
                  refine xget (v := .int (u_6.1 1 6)) S hK hw 1 rfl rfl inX8 6 (by decide) mfX8_45 rfl dX8_readsItem_137 ?_
                  refine xast S hK hw 3 0 rfl rfl (xvi rfl (by omega) (by omega)) (sC_3 _ _ _ _) dX8_readsItem_140 (fun H locs hw => ?_)
                  refine lv_aload_n S.1 S.2.1 dX8_readsItem_141 rfl (lv_at hl 0 rfl) ?_
                  refine xcVv (rest := []) S hK hE hA hw yfX8_look (c_k_Reader_look l D a Y ts _ (show (0 ≤ ((u_6.1 1 1)).toInt ∧ ((u_6.1 1 1)).toInt ≤ 150) from by omega) (show (0 ≤ ((u_6.1 1 4)).toInt ∧ ((u_6.1 1 4)).toInt ≤ 150) from by omega)) 1 rfl rfl mlX8_35 rfl rfl hl.1 ⟨rfl, rfl, Nat.le_of_ble_eq_true rfl, Nat.le_of_ble_eq_true rfl, Nat.le_of_ble_eq_true rfl, Nat.zero_le _, Nat.zero_le _⟩ dX8_readsItem_142 (fun H locs hw => ?_)
                  have q_23 := RI_look (u := (sp u_6 3 (upd (u_6.1 3) (x4_6).toNatClampNeg (u_6.1 1 6)))) (show (0 ≤ ((u_6.1 1 1)).toInt ∧ ((u_6.1 1 1)).toInt ≤ 150) from by omega) (show (0 ≤ ((u_6.1 1 4)).toInt ∧ ((u_6.1 1 4)).toInt ≤ 150) from by omega)
                  have q_23L : (0 ≤ (((k_Reader_look (sp u_6 3 (upd (u_6.1 3) (x4_6).toNatClampNeg (u_6.1 1 6)))).1 1 1)).toInt ∧ (((k_Reader_look (sp u_6 3 (upd (u_6.1 3) (x4_6).toNatClampNeg (u_6.1 1 6)))).1 1 1)).toInt ≤ 150) := RI.L (u := (sp u_6 3 (upd (u_6.1 3) (x4_6).toNatClampNeg (u_6.1 1 6)))) (show (0 ≤ ((u_6.1 1 1)).toInt ∧ ((u_6.1 1 1)).toInt ≤ 150) from by omega) q_23
                  have q_23X : (0 ≤ (((k_Reader_look (sp u_6 3 (upd (u_6.1 3) (x4_6).toNatClampNeg (u_6.1 1 6)))).1 1 4)).toInt ∧ (((k_Reader_look (sp u_6 3 (upd (u_6.1 3) (x4_6).toNatClampNeg (u_6.1 1 6)))).1 1 4)).toInt ≤ 150) := q_23.2.2.1
                  have q_230 : (((k_Reader_look (sp u_6 3 (upd (u_6.1 3) (x4_6).toNatClampNeg (u_6.1 1 6)))).1 4 0)).toInt = ((u_6.1 4 0)).toInt := congrArg (fun f => (f 0).toInt) (q_23.1 4 (by decide))
                  have q_231 : (((k_Reader_look (sp u_6 3 (upd (u_6.1 3) (x4_6).toNatClampNeg (u_6.1 1 6)))).1 4 1)).toInt = ((u_6.1 4 1)).toInt := congrArg (fun f => (f 1).toInt) (q_23.1 4 (by decide))
                  refine lv_iinc (v := (x4_6 + (1 : Int32))) (lv' := [(4, .int (x4_6 + (1 : Int32))), (0, .ref (a 1)), (1, .int y1_1), (3, .int y3_5)]) S.1 S.2.1 dX8_readsItem_145 hl (k := 3) rfl rfl (by decide) rfl (fun ls hl => ?_)
                  refine lv_goto (tgt := 97) S.1 S.2.1 dX8_readsItem_148 (by decide) ?_
                  have e_24 : ∀ _ : Unit, ((x4_6 + (1 : Int32))).toInt = (x4_6).toInt + 1 := fun _ => xadd rfl rfl (by omega) (by omega)
                  exact ih_6 (x4_6 + (1 : Int32)) (k_Reader_look (sp u_6 3 (upd (u_6.1 3) (x4_6).toNatClampNeg (u_6.1 1 6)))) _ _ _ (show 0 ≤ ((x4_6 + (1 : Int32))).toInt from by rw [(e_24 ())]; omega) (show (((y1_1).toInt = 0 ∧ (((k_Reader_look (sp u_6 3 (upd (u_6.1 3) (x4_6).toNatClampNeg (u_6.1 1 6)))).1 4 1)).toInt < 6) ∨ (¬ (y1_1).toInt = 0 ∧ (((k_Reader_look (sp u_6 3 (upd (u_6.1 3) (x4_6).toNatClampNeg (u_6.1 1 6)))).1 4 0)).toInt < 8)) from by omega) (show (0 ≤ (((k_Reader_look (sp u_6 3 (upd (u_6.1 3) (x4_6).toNatClampNeg (u_6.1 1 6)))).1 1 1)).toInt ∧ (((k_Reader_look (sp u_6 3 (upd (u_6.1 3) (x4_6).toNatClampNeg (u_6.1 1 6)))).1 1 1)).toInt ≤ 150) from by omega) (show (0 ≤ (((k_Reader_look (sp u_6 3 (upd (u_6.1 3) (x4_6).toNatClampNeg (u_6.1 1 6)))).1 1 4)).toInt ∧ (((k_Reader_look (sp u_6 3 (upd (u_6.1 3) (x4_6).toNatClampNeg (u_6.1 1 6)))).1 1 4)).toInt ≤ 150) from by omega) (show (0 ≤ (((k_Reader_look (sp u_6 3 (upd (u_6.1 3) (x4_6).toNatClampNeg (u_6.1 1 6)))).1 4 0)).toInt ∧ (((k_Reader_look (sp u_6 3 (upd (u_6.1 3) (x4_6).toNatClampNeg (u_6.1 1 6)))).1 4 0)).toInt ≤ 8) from by omega) (show (0 ≤ (((k_Reader_look (sp u_6 3 (upd (u_6.1 3) (x4_6).toNatClampNeg (u_6.1 1 6)))).1 4 1)).toInt ∧ (((k_Reader_look (sp u_6 3 (upd (u_6.1 3) (x4_6).toNatClampNeg (u_6.1 1 6)))).1 4 1)).toInt ≤ 6) from by omega) (show (y3_5).toInt - ((x4_6 + (1 : Int32))).toInt < (n_6 : Int) ∧ 1 ≤ n_6 from by rw [(e_24 ())]; omega) (lv_sub hl [1, 2, 3, 0] rfl) hw hV
                · replace hV := hV.trans (if_pos c_20)
                  have gc_20 : ((b2i (k_Reader_fitsThing u_6 x4_6))).toInt = 0 := xq_eq c_20 rfl rfl
                  refine lv_goto (tgt := 128) S.1 S.2.1 dX8_readsItem_116 (by decide) ?_
                  refine lv_iconst (v := 0) S.1 S.2.1 dX8_readsItem_128 (by decide) ?_
                  exact xrz S hr hlk hw rfl (congrArg (fun b : Bool × xU => (b2i b.1, b.2)) hV) dX8_readsItem_129
        exact lp_6 6 (0 : Int32) (k_Reader_look u) _ _ _ (show 0 ≤ 0 from by omega) (show (((y1_1).toInt = 0 ∧ (((k_Reader_look u).1 4 1)).toInt < 6) ∨ (¬ (y1_1).toInt = 0 ∧ (((k_Reader_look u).1 4 0)).toInt < 8)) from by omega) (show (0 ≤ (((k_Reader_look u).1 1 1)).toInt ∧ (((k_Reader_look u).1 1 1)).toInt ≤ 150) from by omega) (show (0 ≤ (((k_Reader_look u).1 1 4)).toInt ∧ (((k_Reader_look u).1 1 4)).toInt ≤ 150) from by omega) (show (0 ≤ (((k_Reader_look u).1 4 0)).toInt ∧ (((k_Reader_look u).1 4 0)).toInt ≤ 8) from by omega) (show (0 ≤ (((k_Reader_look u).1 4 1)).toInt ∧ (((k_Reader_look u).1 4 1)).toInt ≤ 6) from by omega) (show (y3_5).toInt - 0 < ((6 : Nat) : Int) ∧ 1 ≤ (6 : Nat) from by omega) (lv_sub hl [1, 2, 3, 0] rfl) hw hV
      refine lv_iload_n S.1 S.2.1 dX8_readsItem_84 rfl (lv_at hl 1 rfl) ?_
      refine lv_if_eq (tgt := 92) S.1 S.2.1 dX8_readsItem_85 (by decide) (fun c_25 => ?_) (fun c_25 => ?_)
      · replace hV := hV.trans (if_pos c_25)
        have gc_25 : (y1_1).toInt = 0 := xq_eq c_25 rfl rfl
        refine lv_iconst (v := 3) S.1 S.2.1 dX8_readsItem_92 (by decide) ?_
        refine lv_istore_n (lv' := [(3, .int (3 : Int32)), (0, .ref (a 1)), (1, .int y1_1), (2, .int y2_1)]) S.1 S.2.1 dX8_readsItem_93 rfl hl (by decide) rfl (fun ls hl => ?_)
        exact ct_5 (3 : Int32) _ _ _ (show ((3 = 5 ∧ ¬ (y1_1).toInt = 0) ∨ (3 = 3 ∧ (y1_1).toInt = 0)) from by omega) (lv_sub hl [1, 2, 0] rfl) hw hV
      · replace hV := hV.trans (if_neg c_25)
        have gc_25 : ¬ (y1_1).toInt = 0 := xq_ne c_25 rfl rfl
        refine lv_iconst (v := 5) S.1 S.2.1 dX8_readsItem_88 (by decide) ?_
        refine lv_goto (tgt := 93) S.1 S.2.1 dX8_readsItem_89 (by decide) ?_
        refine lv_istore_n (lv' := [(3, .int (5 : Int32)), (0, .ref (a 1)), (1, .int y1_1), (2, .int y2_1)]) S.1 S.2.1 dX8_readsItem_93 rfl hl (by decide) rfl (fun ls hl => ?_)
        exact ct_5 (5 : Int32) _ _ _ (show ((5 = 5 ∧ ¬ (y1_1).toInt = 0) ∨ (5 = 3 ∧ (y1_1).toInt = 0)) from by omega) (lv_sub hl [1, 2, 0] rfl) hw hV
    · replace hV := hV.trans (if_pos c_2)
      have gc_2 : (y1_1).toInt = 0 := xq_eq c_2 rfl rfl
      refine lv_iload_n S.1 S.2.1 dX8_readsItem_74 rfl (lv_at hl 2 rfl) ?_
      refine lv_if_ne (tgt := 80) S.1 S.2.1 dX8_readsItem_75 (by decide) (fun c_26 => ?_) (fun c_26 => ?_)
      · replace hV := hV.trans (if_neg c_26)
        have gc_26 : ¬ (y2_1).toInt = 0 := xq_ne c_26 rfl rfl
        refine lv_aload_n S.1 S.2.1 dX8_readsItem_80 rfl (lv_at hl 0 rfl) ?_
        refine xcVv (rest := []) S hK hE hA hw yfX8_look (c_k_Reader_look l D a Y ts _ (show (0 ≤ ((u.1 1 1)).toInt ∧ ((u.1 1 1)).toInt ≤ 150) from by omega) (show (0 ≤ ((u.1 1 4)).toInt ∧ ((u.1 1 4)).toInt ≤ 150) from by omega)) 1 rfl rfl mlX8_35 rfl rfl hl.1 ⟨rfl, rfl, Nat.le_of_ble_eq_true rfl, Nat.le_of_ble_eq_true rfl, Nat.le_of_ble_eq_true rfl, Nat.zero_le _, Nat.zero_le _⟩ dX8_readsItem_81 (fun H locs hw => ?_)
        have q_28 := RI_look (u := u) (show (0 ≤ ((u.1 1 1)).toInt ∧ ((u.1 1 1)).toInt ≤ 150) from by omega) (show (0 ≤ ((u.1 1 4)).toInt ∧ ((u.1 1 4)).toInt ≤ 150) from by omega)
        have q_28L : (0 ≤ (((k_Reader_look u).1 1 1)).toInt ∧ (((k_Reader_look u).1 1 1)).toInt ≤ 150) := RI.L (u := u) (show (0 ≤ ((u.1 1 1)).toInt ∧ ((u.1 1 1)).toInt ≤ 150) from by omega) q_28
        have q_28X : (0 ≤ (((k_Reader_look u).1 1 4)).toInt ∧ (((k_Reader_look u).1 1 4)).toInt ≤ 150) := q_28.2.2.1
        have q_280 : (((k_Reader_look u).1 4 0)).toInt = ((u.1 4 0)).toInt := congrArg (fun f => (f 0).toInt) (q_28.1 4 (by decide))
        have q_281 : (((k_Reader_look u).1 4 1)).toInt = ((u.1 4 1)).toInt := congrArg (fun f => (f 1).toInt) (q_28.1 4 (by decide))
        have ct_29 : ∀ (y3_29 : Int32) (H : Heap) (locs : List Loc) (ls : Array Slot), ((((y3_29).toInt = 5 ∧ ¬ (y1_1).toInt = 0) ∨ ((y3_29).toInt = 3 ∧ (y1_1).toInt = 0))) → lv_has ls 5 [(0, .ref (a 1)), (1, .int y1_1), (3, .int y3_29)] → xw D (wC a Y) A s.heap H locs (k_Reader_look u) → V = k_Reader_readsItem_J94 (k_Reader_look u) y1_1 y3_29 → W p l e (xRm 3 73) s m args below meth c H locs 0 0 (MQ below (va_Qi (fun r v => (r, v) = (b2i V.1, V.2)) (xPost D (wC a Y) A) A) args s 0 0 A) (F0 m 94 ls []) := by
          intro y3_29 H locs ls i0_29 hl hw hV
          refine lv_iconst (v := 0) S.1 S.2.1 dX8_readsItem_94 (by decide) ?_
          refine lv_istore (lv' := [(4, .int (0 : Int32)), (0, .ref (a 1)), (1, .int y1_1), (3, .int y3_29)]) S.1 S.2.1 dX8_readsItem_95 hl (by decide) rfl (fun ls hl => ?_)
          have lp_30 : ∀ (n_30 : Nat) (x4_30 : Int32) (u_30 : xU) (H : Heap) (locs : List Loc) (ls : Array Slot), (0 ≤ (x4_30).toInt) → ((((y1_1).toInt = 0 ∧ ((u_30.1 4 1)).toInt < 6) ∨ (¬ (y1_1).toInt = 0 ∧ ((u_30.1 4 0)).toInt < 8))) → ((0 ≤ ((u_30.1 1 1)).toInt ∧ ((u_30.1 1 1)).toInt ≤ 150)) → ((0 ≤ ((u_30.1 1 4)).toInt ∧ ((u_30.1 1 4)).toInt ≤ 150)) → ((0 ≤ ((u_30.1 4 0)).toInt ∧ ((u_30.1 4 0)).toInt ≤ 8)) → ((0 ≤ ((u_30.1 4 1)).toInt ∧ ((u_30.1 4 1)).toInt ≤ 6)) → ((y3_29).toInt - (x4_30).toInt < (n_30 : Int) ∧ 1 ≤ n_30) → lv_has ls 5 [(0, .ref (a 1)), (1, .int y1_1), (3, .int y3_29), (4, .int x4_30)] → xw D (wC a Y) A s.heap H locs u_30 → V = k_Reader_readsItem_L97 y1_1 y3_29 n_30 x4_30 u_30 → W p l e (xRm 3 73) s m args below meth c H locs 0 0 (MQ below (va_Qi (fun r v => (r, v) = (b2i V.1, V.2)) (xPost D (wC a Y) A) A) args s 0 0 A) (F0 m 97 ls []) := by
            intro n_30
            induction n_30 with
            | zero => intro x4_30 u_30 H locs ls i0_30 i1_30 i2_30 i3_30 i4_30 i5_30 hn; exact absurd hn.2 (by decide)
            | succ n_30 ih_30 =>
              intro x4_30 u_30 H locs ls i0_30 i1_30 i2_30 i3_30 i4_30 i5_30 hn_30 hl hw hV
              refine lv_iload S.1 S.2.1 dX8_readsItem_97 (lv_at hl 3 rfl) ?_
              refine lv_iload_n S.1 S.2.1 dX8_readsItem_99 rfl (lv_at hl 2 rfl) ?_
              refine lv_icmp_ge (tgt := 151) S.1 S.2.1 dX8_readsItem_100 (by decide) (fun c_31 => ?_) (fun c_31 => ?_)
              · replace hV := hV.trans (if_pos c_31)
                have gc_31 : (y3_29).toInt ≤ (x4_30).toInt := xq_le c_31 rfl rfl
                refine lv_aload_n S.1 S.2.1 dX8_readsItem_151 rfl (lv_at hl 0 rfl) ?_
                refine xget (v := .int (u_30.1 1 5)) S hK hw 1 rfl rfl inX8 5 (by decide) mfX8_38 rfl dX8_readsItem_152 ?_
                refine lv_iconst (v := 3) S.1 S.2.1 dX8_readsItem_155 (by decide) ?_
                refine lv_icmp_eq (tgt := 161) S.1 S.2.1 dX8_readsItem_156 (by decide) (fun c_32 => ?_) (fun c_32 => ?_)
                · replace hV := hV.trans (if_pos c_32)
                  have gc_32 : ((u_30.1 1 5)).toInt = 3 := xq_eq c_32 rfl rfl
                  refine lv_aload_n S.1 S.2.1 dX8_readsItem_161 rfl (lv_at hl 0 rfl) ?_
                  refine xcVv (rest := []) S hK hE hA hw yfX8_look (c_k_Reader_look l D a Y ts _ (show (0 ≤ ((u_30.1 1 1)).toInt ∧ ((u_30.1 1 1)).toInt ≤ 150) from by omega) (show (0 ≤ ((u_30.1 1 4)).toInt ∧ ((u_30.1 1 4)).toInt ≤ 150) from by omega)) 1 rfl rfl mlX8_35 rfl rfl hl.1 ⟨rfl, rfl, Nat.le_of_ble_eq_true rfl, Nat.le_of_ble_eq_true rfl, Nat.le_of_ble_eq_true rfl, Nat.zero_le _, Nat.zero_le _⟩ dX8_readsItem_162 (fun H locs hw => ?_)
                  have q_34 := RI_look (u := u_30) (show (0 ≤ ((u_30.1 1 1)).toInt ∧ ((u_30.1 1 1)).toInt ≤ 150) from by omega) (show (0 ≤ ((u_30.1 1 4)).toInt ∧ ((u_30.1 1 4)).toInt ≤ 150) from by omega)
                  have q_34L : (0 ≤ (((k_Reader_look u_30).1 1 1)).toInt ∧ (((k_Reader_look u_30).1 1 1)).toInt ≤ 150) := RI.L (u := u_30) (show (0 ≤ ((u_30.1 1 1)).toInt ∧ ((u_30.1 1 1)).toInt ≤ 150) from by omega) q_34
                  have q_34X : (0 ≤ (((k_Reader_look u_30).1 1 4)).toInt ∧ (((k_Reader_look u_30).1 1 4)).toInt ≤ 150) := q_34.2.2.1
                  have q_340 : (((k_Reader_look u_30).1 4 0)).toInt = ((u_30.1 4 0)).toInt := congrArg (fun f => (f 0).toInt) (q_34.1 4 (by decide))
                  have q_341 : (((k_Reader_look u_30).1 4 1)).toInt = ((u_30.1 4 1)).toInt := congrArg (fun f => (f 1).toInt) (q_34.1 4 (by decide))
                  refine lv_iload_n S.1 S.2.1 dX8_readsItem_165 rfl (lv_at hl 1 rfl) ?_
                  refine lv_if_eq (tgt := 183) S.1 S.2.1 dX8_readsItem_166 (by decide) (fun c_35 => ?_) (fun c_35 => ?_)
                  · replace hV := hV.trans (if_pos c_35)
                    have gc_35 : (y1_1).toInt = 0 := xq_eq c_35 rfl rfl
                    refine lv_aload_n S.1 S.2.1 dX8_readsItem_183 rfl (lv_at hl 0 rfl) ?_
                    refine xget (v := .ref (a 4)) S hK hw 1 rfl rfl inX8 2 (by decide) mfX8_18 rfl dX8_readsItem_184 ?_
                    refine lv_aload_n S.1 S.2.1 dX8_readsItem_187 rfl (lv_at hl 0 rfl) ?_
                    refine xget (v := .ref (a 3)) S hK hw 1 rfl rfl inX8 7 (by decide) mfX8_22 rfl dX8_readsItem_188 ?_
                    refine xcVv (rest := []) S hK hE hA hw yfX9_addCast (c_k_Told_addCast l D a Y ts _ (show (0 ≤ (((k_Reader_look u_30).1 4 1)).toInt ∧ (((k_Reader_look u_30).1 4 1)).toInt < 6) from by omega)) 4 rfl rfl mlX8_59 rfl rfl hl.1 ⟨rfl, rfl, Nat.le_of_ble_eq_true rfl, Nat.le_of_ble_eq_true rfl, Nat.le_of_ble_eq_true rfl, Nat.zero_le _, Nat.zero_le _⟩ dX8_readsItem_191 (fun H locs hw => ?_)
                    refine lv_iconst (v := 1) S.1 S.2.1 dX8_readsItem_194 (by decide) ?_
                    exact xrz S hr hlk hw rfl (congrArg (fun b : Bool × xU => (b2i b.1, b.2)) hV) dX8_readsItem_195
                  · replace hV := hV.trans (if_neg c_35)
                    have gc_35 : ¬ (y1_1).toInt = 0 := xq_ne c_35 rfl rfl
                    refine lv_aload_n S.1 S.2.1 dX8_readsItem_169 rfl (lv_at hl 0 rfl) ?_
                    refine xget (v := .ref (a 4)) S hK hw 1 rfl rfl inX8 2 (by decide) mfX8_18 rfl dX8_readsItem_170 ?_
                    refine lv_aload_n S.1 S.2.1 dX8_readsItem_173 rfl (lv_at hl 0 rfl) ?_
                    refine xget (v := .ref (a 3)) S hK hw 1 rfl rfl inX8 7 (by decide) mfX8_22 rfl dX8_readsItem_174 ?_
                    refine xcVv (rest := []) S hK hE hA hw yfX9_addThing (c_k_Told_addThing l D a Y ts _ (show (0 ≤ (((k_Reader_look u_30).1 4 0)).toInt ∧ (((k_Reader_look u_30).1 4 0)).toInt < 8) from by omega)) 4 rfl rfl mlX8_55 rfl rfl hl.1 ⟨rfl, rfl, Nat.le_of_ble_eq_true rfl, Nat.le_of_ble_eq_true rfl, Nat.le_of_ble_eq_true rfl, Nat.zero_le _, Nat.zero_le _⟩ dX8_readsItem_177 (fun H locs hw => ?_)
                    refine lv_goto (tgt := 194) S.1 S.2.1 dX8_readsItem_180 (by decide) ?_
                    refine lv_iconst (v := 1) S.1 S.2.1 dX8_readsItem_194 (by decide) ?_
                    exact xrz S hr hlk hw rfl (congrArg (fun b : Bool × xU => (b2i b.1, b.2)) hV) dX8_readsItem_195
                · replace hV := hV.trans (if_neg c_32)
                  have gc_32 : ¬ ((u_30.1 1 5)).toInt = 3 := xq_ne c_32 rfl rfl
                  refine lv_iconst (v := 0) S.1 S.2.1 dX8_readsItem_159 (by decide) ?_
                  exact xrz S hr hlk hw rfl (congrArg (fun b : Bool × xU => (b2i b.1, b.2)) hV) dX8_readsItem_160
              · replace hV := hV.trans (if_neg c_31)
                have gc_31 : (x4_30).toInt < (y3_29).toInt := xq_nle c_31 rfl rfl
                refine lv_iload_n S.1 S.2.1 dX8_readsItem_103 rfl (lv_at hl 1 rfl) ?_
                refine lv_if_eq (tgt := 119) S.1 S.2.1 dX8_readsItem_104 (by decide) (fun c_38 => ?_) (fun c_38 => ?_)
                · replace hV := hV.trans (if_pos c_38)
                  have gc_38 : (y1_1).toInt = 0 := xq_eq c_38 rfl rfl
                  refine lv_aload_n S.1 S.2.1 dX8_readsItem_119 rfl (lv_at hl 0 rfl) ?_
                  refine lv_iload S.1 S.2.1 dX8_readsItem_120 (lv_at hl 3 rfl) ?_
                  refine xci (rest := []) S hK hE hA hw yfX8_fitsCast (c_k_Reader_fitsCast l D a Y ts _ x4_30 (show 0 ≤ (x4_30).toInt ∧ (x4_30).toInt < 3 from by omega)) 1 rfl rfl mlX8_52 rfl rfl hl.1 ⟨rfl, rfl, Nat.le_of_ble_eq_true rfl, Nat.le_of_ble_eq_true rfl, Nat.le_of_ble_eq_true rfl, Nat.zero_le _, Nat.zero_le _⟩ dX8_readsItem_122 (fun H locs hw => ?_)
                  refine lv_if_ne (tgt := 130) S.1 S.2.1 dX8_readsItem_125 (by decide) (fun c_39 => ?_) (fun c_39 => ?_)
                  · replace hV := hV.trans (if_neg c_39)
                    have gc_39 : ¬ ((b2i (k_Reader_fitsCast u_30 x4_30))).toInt = 0 := xq_ne c_39 rfl rfl
                    refine lv_aload_n S.1 S.2.1 dX8_readsItem_130 rfl (lv_at hl 0 rfl) ?_
                    refine xget (v := .ref (a 3)) S hK hw 1 rfl rfl inX8 7 (by decide) mfX8_22 rfl dX8_readsItem_131 ?_
                    refine lv_iload S.1 S.2.1 dX8_readsItem_134 (lv_at hl 3 rfl) ?_
                    refine lv_aload_n S.1 S.2.1 dX8_readsItem_136 rfl (lv_at hl 0 rfl) ?_
                    refine xget (v := .int (u_30.1 1 6)) S hK hw 1 rfl rfl inX8 6 (by decide) mfX8_45 rfl dX8_readsItem_137 ?_
                    refine xast S hK hw 3 0 rfl rfl (xvi rfl (by omega) (by omega)) (sC_3 _ _ _ _) dX8_readsItem_140 (fun H locs hw => ?_)
                    refine lv_aload_n S.1 S.2.1 dX8_readsItem_141 rfl (lv_at hl 0 rfl) ?_
                    refine xcVv (rest := []) S hK hE hA hw yfX8_look (c_k_Reader_look l D a Y ts _ (show (0 ≤ ((u_30.1 1 1)).toInt ∧ ((u_30.1 1 1)).toInt ≤ 150) from by omega) (show (0 ≤ ((u_30.1 1 4)).toInt ∧ ((u_30.1 1 4)).toInt ≤ 150) from by omega)) 1 rfl rfl mlX8_35 rfl rfl hl.1 ⟨rfl, rfl, Nat.le_of_ble_eq_true rfl, Nat.le_of_ble_eq_true rfl, Nat.le_of_ble_eq_true rfl, Nat.zero_le _, Nat.zero_le _⟩ dX8_readsItem_142 (fun H locs hw => ?_)
                    have q_42 := RI_look (u := (sp u_30 3 (upd (u_30.1 3) (x4_30).toNatClampNeg (u_30.1 1 6)))) (show (0 ≤ ((u_30.1 1 1)).toInt ∧ ((u_30.1 1 1)).toInt ≤ 150) from by omega) (show (0 ≤ ((u_30.1 1 4)).toInt ∧ ((u_30.1 1 4)).toInt ≤ 150) from by omega)
                    have q_42L : (0 ≤ (((k_Reader_look (sp u_30 3 (upd (u_30.1 3) (x4_30).toNatClampNeg (u_30.1 1 6)))).1 1 1)).toInt ∧ (((k_Reader_look (sp u_30 3 (upd (u_30.1 3) (x4_30).toNatClampNeg (u_30.1 1 6)))).1 1 1)).toInt ≤ 150) := RI.L (u := (sp u_30 3 (upd (u_30.1 3) (x4_30).toNatClampNeg (u_30.1 1 6)))) (show (0 ≤ ((u_30.1 1 1)).toInt ∧ ((u_30.1 1 1)).toInt ≤ 150) from by omega) q_42
                    have q_42X : (0 ≤ (((k_Reader_look (sp u_30 3 (upd (u_30.1 3) (x4_30).toNatClampNeg (u_30.1 1 6)))).1 1 4)).toInt ∧ (((k_Reader_look (sp u_30 3 (upd (u_30.1 3) (x4_30).toNatClampNeg (u_30.1 1 6)))).1 1 4)).toInt ≤ 150) := q_42.2.2.1
                    have q_420 : (((k_Reader_look (sp u_30 3 (upd (u_30.1 3) (x4_30).toNatClampNeg (u_30.1 1 6)))).1 4 0)).toInt = ((u_30.1 4 0)).toInt := congrArg (fun f => (f 0).toInt) (q_42.1 4 (by decide))
                    have q_421 : (((k_Reader_look (sp u_30 3 (upd (u_30.1 3) (x4_30).toNatClampNeg (u_30.1 1 6)))).1 4 1)).toInt = ((u_30.1 4 1)).toInt := congrArg (fun f => (f 1).toInt) (q_42.1 4 (by decide))
                    refine lv_iinc (v := (x4_30 + (1 : Int32))) (lv' := [(4, .int (x4_30 + (1 : Int32))), (0, .ref (a 1)), (1, .int y1_1), (3, .int y3_29)]) S.1 S.2.1 dX8_readsItem_145 hl (k := 3) rfl rfl (by decide) rfl (fun ls hl => ?_)
                    refine lv_goto (tgt := 97) S.1 S.2.1 dX8_readsItem_148 (by decide) ?_
                    have e_43 : ∀ _ : Unit, ((x4_30 + (1 : Int32))).toInt = (x4_30).toInt + 1 := fun _ => xadd rfl rfl (by omega) (by omega)
                    exact ih_30 (x4_30 + (1 : Int32)) (k_Reader_look (sp u_30 3 (upd (u_30.1 3) (x4_30).toNatClampNeg (u_30.1 1 6)))) _ _ _ (show 0 ≤ ((x4_30 + (1 : Int32))).toInt from by rw [(e_43 ())]; omega) (show (((y1_1).toInt = 0 ∧ (((k_Reader_look (sp u_30 3 (upd (u_30.1 3) (x4_30).toNatClampNeg (u_30.1 1 6)))).1 4 1)).toInt < 6) ∨ (¬ (y1_1).toInt = 0 ∧ (((k_Reader_look (sp u_30 3 (upd (u_30.1 3) (x4_30).toNatClampNeg (u_30.1 1 6)))).1 4 0)).toInt < 8)) from by omega) (show (0 ≤ (((k_Reader_look (sp u_30 3 (upd (u_30.1 3) (x4_30).toNatClampNeg (u_30.1 1 6)))).1 1 1)).toInt ∧ (((k_Reader_look (sp u_30 3 (upd (u_30.1 3) (x4_30).toNatClampNeg (u_30.1 1 6)))).1 1 1)).toInt ≤ 150) from by omega) (show (0 ≤ (((k_Reader_look (sp u_30 3 (upd (u_30.1 3) (x4_30).toNatClampNeg (u_30.1 1 6)))).1 1 4)).toInt ∧ (((k_Reader_look (sp u_30 3 (upd (u_30.1 3) (x4_30).toNatClampNeg (u_30.1 1 6)))).1 1 4)).toInt ≤ 150) from by omega) (show (0 ≤ (((k_Reader_look (sp u_30 3 (upd (u_30.1 3) (x4_30).toNatClampNeg (u_30.1 1 6)))).1 4 0)).toInt ∧ (((k_Reader_look (sp u_30 3 (upd (u_30.1 3) (x4_30).toNatClampNeg (u_30.1 1 6)))).1 4 0)).toInt ≤ 8) from by omega) (show (0 ≤ (((k_Reader_look (sp u_30 3 (upd (u_30.1 3) (x4_30).toNatClampNeg (u_30.1 1 6)))).1 4 1)).toInt ∧ (((k_Reader_look (sp u_30 3 (upd (u_30.1 3) (x4_30).toNatClampNeg (u_30.1 1 6)))).1 4 1)).toInt ≤ 6) from by omega) (show (y3_29).toInt - ((x4_30 + (1 : Int32))).toInt < (n_30 : Int) ∧ 1 ≤ n_30 from by rw [(e_43 ())]; omega) (lv_sub hl [1, 2, 3, 0] rfl) hw hV
                  · replace hV := hV.trans (if_pos c_39)
                    have gc_39 : ((b2i (k_Reader_fitsCast u_30 x4_30))).toInt = 0 := xq_eq c_39 rfl rfl
                    refine lv_iconst (v := 0) S.1 S.2.1 dX8_readsItem_128 (by decide) ?_
                    exact xrz S hr hlk hw rfl (congrArg (fun b : Bool × xU => (b2i b.1, b.2)) hV) dX8_readsItem_129
                · replace hV := hV.trans (if_neg c_38)
                  have gc_38 : ¬ (y1_1).toInt = 0 := xq_ne c_38 rfl rfl
                  refine lv_aload_n S.1 S.2.1 dX8_readsItem_107 rfl (lv_at hl 0 rfl) ?_
                  refine lv_iload S.1 S.2.1 dX8_readsItem_108 (lv_at hl 3 rfl) ?_
                  refine xci (rest := []) S hK hE hA hw yfX8_fitsThing (c_k_Reader_fitsThing l D a Y ts _ x4_30 (show 0 ≤ (x4_30).toInt ∧ (x4_30).toInt < 5 from by omega)) 1 rfl rfl mlX8_48 rfl rfl hl.1 ⟨rfl, rfl, Nat.le_of_ble_eq_true rfl, Nat.le_of_ble_eq_true rfl, Nat.le_of_ble_eq_true rfl, Nat.zero_le _, Nat.zero_le _⟩ dX8_readsItem_110 (fun H locs hw => ?_)
                  refine lv_if_ne (tgt := 130) S.1 S.2.1 dX8_readsItem_113 (by decide) (fun c_44 => ?_) (fun c_44 => ?_)
                  · replace hV := hV.trans (if_neg c_44)
                    have gc_44 : ¬ ((b2i (k_Reader_fitsThing u_30 x4_30))).toInt = 0 := xq_ne c_44 rfl rfl
                    refine lv_aload_n S.1 S.2.1 dX8_readsItem_130 rfl (lv_at hl 0 rfl) ?_
                    refine xget (v := .ref (a 3)) S hK hw 1 rfl rfl inX8 7 (by decide) mfX8_22 rfl dX8_readsItem_131 ?_
                    refine lv_iload S.1 S.2.1 dX8_readsItem_134 (lv_at hl 3 rfl) ?_
                    refine lv_aload_n S.1 S.2.1 dX8_readsItem_136 rfl (lv_at hl 0 rfl) ?_
                    refine xget (v := .int (u_30.1 1 6)) S hK hw 1 rfl rfl inX8 6 (by decide) mfX8_45 rfl dX8_readsItem_137 ?_
                    refine xast S hK hw 3 0 rfl rfl (xvi rfl (by omega) (by omega)) (sC_3 _ _ _ _) dX8_readsItem_140 (fun H locs hw => ?_)
                    refine lv_aload_n S.1 S.2.1 dX8_readsItem_141 rfl (lv_at hl 0 rfl) ?_
                    refine xcVv (rest := []) S hK hE hA hw yfX8_look (c_k_Reader_look l D a Y ts _ (show (0 ≤ ((u_30.1 1 1)).toInt ∧ ((u_30.1 1 1)).toInt ≤ 150) from by omega) (show (0 ≤ ((u_30.1 1 4)).toInt ∧ ((u_30.1 1 4)).toInt ≤ 150) from by omega)) 1 rfl rfl mlX8_35 rfl rfl hl.1 ⟨rfl, rfl, Nat.le_of_ble_eq_true rfl, Nat.le_of_ble_eq_true rfl, Nat.le_of_ble_eq_true rfl, Nat.zero_le _, Nat.zero_le _⟩ dX8_readsItem_142 (fun H locs hw => ?_)
                    have q_47 := RI_look (u := (sp u_30 3 (upd (u_30.1 3) (x4_30).toNatClampNeg (u_30.1 1 6)))) (show (0 ≤ ((u_30.1 1 1)).toInt ∧ ((u_30.1 1 1)).toInt ≤ 150) from by omega) (show (0 ≤ ((u_30.1 1 4)).toInt ∧ ((u_30.1 1 4)).toInt ≤ 150) from by omega)
                    have q_47L : (0 ≤ (((k_Reader_look (sp u_30 3 (upd (u_30.1 3) (x4_30).toNatClampNeg (u_30.1 1 6)))).1 1 1)).toInt ∧ (((k_Reader_look (sp u_30 3 (upd (u_30.1 3) (x4_30).toNatClampNeg (u_30.1 1 6)))).1 1 1)).toInt ≤ 150) := RI.L (u := (sp u_30 3 (upd (u_30.1 3) (x4_30).toNatClampNeg (u_30.1 1 6)))) (show (0 ≤ ((u_30.1 1 1)).toInt ∧ ((u_30.1 1 1)).toInt ≤ 150) from by omega) q_47
                    have q_47X : (0 ≤ (((k_Reader_look (sp u_30 3 (upd (u_30.1 3) (x4_30).toNatClampNeg (u_30.1 1 6)))).1 1 4)).toInt ∧ (((k_Reader_look (sp u_30 3 (upd (u_30.1 3) (x4_30).toNatClampNeg (u_30.1 1 6)))).1 1 4)).toInt ≤ 150) := q_47.2.2.1
                    have q_470 : (((k_Reader_look (sp u_30 3 (upd (u_30.1 3) (x4_30).toNatClampNeg (u_30.1 1 6)))).1 4 0)).toInt = ((u_30.1 4 0)).toInt := congrArg (fun f => (f 0).toInt) (q_47.1 4 (by decide))
                    have q_471 : (((k_Reader_look (sp u_30 3 (upd (u_30.1 3) (x4_30).toNatClampNeg (u_30.1 1 6)))).1 4 1)).toInt = ((u_30.1 4 1)).toInt := congrArg (fun f => (f 1).toInt) (q_47.1 4 (by decide))
                    refine lv_iinc (v := (x4_30 + (1 : Int32))) (lv' := [(4, .int (x4_30 + (1 : Int32))), (0, .ref (a 1)), (1, .int y1_1), (3, .int y3_29)]) S.1 S.2.1 dX8_readsItem_145 hl (k := 3) rfl rfl (by decide) rfl (fun ls hl => ?_)
                    refine lv_goto (tgt := 97) S.1 S.2.1 dX8_readsItem_148 (by decide) ?_
                    have e_48 : ∀ _ : Unit, ((x4_30 + (1 : Int32))).toInt = (x4_30).toInt + 1 := fun _ => xadd rfl rfl (by omega) (by omega)
                    exact ih_30 (x4_30 + (1 : Int32)) (k_Reader_look (sp u_30 3 (upd (u_30.1 3) (x4_30).toNatClampNeg (u_30.1 1 6)))) _ _ _ (show 0 ≤ ((x4_30 + (1 : Int32))).toInt from by rw [(e_48 ())]; omega) (show (((y1_1).toInt = 0 ∧ (((k_Reader_look (sp u_30 3 (upd (u_30.1 3) (x4_30).toNatClampNeg (u_30.1 1 6)))).1 4 1)).toInt < 6) ∨ (¬ (y1_1).toInt = 0 ∧ (((k_Reader_look (sp u_30 3 (upd (u_30.1 3) (x4_30).toNatClampNeg (u_30.1 1 6)))).1 4 0)).toInt < 8)) from by omega) (show (0 ≤ (((k_Reader_look (sp u_30 3 (upd (u_30.1 3) (x4_30).toNatClampNeg (u_30.1 1 6)))).1 1 1)).toInt ∧ (((k_Reader_look (sp u_30 3 (upd (u_30.1 3) (x4_30).toNatClampNeg (u_30.1 1 6)))).1 1 1)).toInt ≤ 150) from by omega) (show (0 ≤ (((k_Reader_look (sp u_30 3 (upd (u_30.1 3) (x4_30).toNatClampNeg (u_30.1 1 6)))).1 1 4)).toInt ∧ (((k_Reader_look (sp u_30 3 (upd (u_30.1 3) (x4_30).toNatClampNeg (u_30.1 1 6)))).1 1 4)).toInt ≤ 150) from by omega) (show (0 ≤ (((k_Reader_look (sp u_30 3 (upd (u_30.1 3) (x4_30).toNatClampNeg (u_30.1 1 6)))).1 4 0)).toInt ∧ (((k_Reader_look (sp u_30 3 (upd (u_30.1 3) (x4_30).toNatClampNeg (u_30.1 1 6)))).1 4 0)).toInt ≤ 8) from by omega) (show (0 ≤ (((k_Reader_look (sp u_30 3 (upd (u_30.1 3) (x4_30).toNatClampNeg (u_30.1 1 6)))).1 4 1)).toInt ∧ (((k_Reader_look (sp u_30 3 (upd (u_30.1 3) (x4_30).toNatClampNeg (u_30.1 1 6)))).1 4 1)).toInt ≤ 6) from by omega) (show (y3_29).toInt - ((x4_30 + (1 : Int32))).toInt < (n_30 : Int) ∧ 1 ≤ n_30 from by rw [(e_48 ())]; omega) (lv_sub hl [1, 2, 3, 0] rfl) hw hV
                  · replace hV := hV.trans (if_pos c_44)
                    have gc_44 : ((b2i (k_Reader_fitsThing u_30 x4_30))).toInt = 0 := xq_eq c_44 rfl rfl
                    refine lv_goto (tgt := 128) S.1 S.2.1 dX8_readsItem_116 (by decide) ?_
                    refine lv_iconst (v := 0) S.1 S.2.1 dX8_readsItem_128 (by decide) ?_
                    exact xrz S hr hlk hw rfl (congrArg (fun b : Bool × xU => (b2i b.1, b.2)) hV) dX8_readsItem_129
          exact lp_30 6 (0 : Int32) (k_Reader_look u) _ _ _ (show 0 ≤ 0 from by omega) (show (((y1_1).toInt = 0 ∧ (((k_Reader_look u).1 4 1)).toInt < 6) ∨ (¬ (y1_1).toInt = 0 ∧ (((k_Reader_look u).1 4 0)).toInt < 8)) from by omega) (show (0 ≤ (((k_Reader_look u).1 1 1)).toInt ∧ (((k_Reader_look u).1 1 1)).toInt ≤ 150) from by omega) (show (0 ≤ (((k_Reader_look u).1 1 4)).toInt ∧ (((k_Reader_look u).1 1 4)).toInt ≤ 150) from by omega) (show (0 ≤ (((k_Reader_look u).1 4 0)).toInt ∧ (((k_Reader_look u).1 4 0)).toInt ≤ 8) from by omega) (show (0 ≤ (((k_Reader_look u).1 4 1)).toInt ∧ (((k_Reader_look u).1 4 1)).toInt ≤ 6) from by omega) (show (y3_29).toInt - 0 < ((6 : Nat) : Int) ∧ 1 ≤ (6 : Nat) from by omega) (lv_sub hl [1, 2, 3, 0] rfl) hw hV
        refine lv_iload_n S.1 S.2.1 dX8_readsItem_84 rfl (lv_at hl 1 rfl) ?_
        refine lv_if_eq (tgt := 92) S.1 S.2.1 dX8_readsItem_85 (by decide) (fun c_49 => ?_) (fun c_49 => ?_)
        · replace hV := hV.trans (if_pos c_49)
          have gc_49 : (y1_1).toInt = 0 := xq_eq c_49 rfl rfl
          refine lv_iconst (v := 3) S.1 S.2.1 dX8_readsItem_92 (by decide) ?_
          refine lv_istore_n (lv' := [(3, .int (3 : Int32)), (0, .ref (a 1)), (1, .int y1_1), (2, .int y2_1)]) S.1 S.2.1 dX8_readsItem_93 rfl hl (by decide) rfl (fun ls hl => ?_)
          exact ct_29 (3 : Int32) _ _ _ (show ((3 = 5 ∧ ¬ (y1_1).toInt = 0) ∨ (3 = 3 ∧ (y1_1).toInt = 0)) from by omega) (lv_sub hl [1, 2, 0] rfl) hw hV
        · replace hV := hV.trans (if_neg c_49)
          have gc_49 : ¬ (y1_1).toInt = 0 := xq_ne c_49 rfl rfl
          refine lv_iconst (v := 5) S.1 S.2.1 dX8_readsItem_88 (by decide) ?_
          refine lv_goto (tgt := 93) S.1 S.2.1 dX8_readsItem_89 (by decide) ?_
          refine lv_istore_n (lv' := [(3, .int (5 : Int32)), (0, .ref (a 1)), (1, .int y1_1), (2, .int y2_1)]) S.1 S.2.1 dX8_readsItem_93 rfl hl (by decide) rfl (fun ls hl => ?_)
          exact ct_29 (5 : Int32) _ _ _ (show ((5 = 5 ∧ ¬ (y1_1).toInt = 0) ∨ (5 = 3 ∧ (y1_1).toInt = 0)) from by omega) (lv_sub hl [1, 2, 0] rfl) hw hV
      · replace hV := hV.trans (if_pos c_26)
        have gc_26 : (y2_1).toInt = 0 := xq_eq c_26 rfl rfl
        refine lv_iconst (v := 0) S.1 S.2.1 dX8_readsItem_78 (by decide) ?_
        exact xrz S hr hlk hw rfl (congrArg (fun b : Bool × xU => (b2i b.1, b.2)) hV) dX8_readsItem_79
  refine lv_aload_n S.1 S.2.1 dX8_readsItem_0 rfl (lv_at hl 0 rfl) ?_
  refine xget (v := .int (u.1 1 5)) S hK hw 1 rfl rfl inX8 5 (by decide) mfX8_38 rfl dX8_readsItem_1 ?_
  refine lv_iconst (v := 1) S.1 S.2.1 dX8_readsItem_4 (by decide) ?_
  refine lv_icmp_ne (tgt := 33) S.1 S.2.1 dX8_readsItem_5 (by decide) (fun c_50 => ?_) (fun c_50 => ?_)
  · replace hV := hV.trans (if_neg c_50)
    have gc_50 : ¬ ((u.1 1 5)).toInt = 1 := xq_ne c_50 rfl rfl
    refine lv_iconst (v := 0) S.1 S.2.1 dX8_readsItem_33 (by decide) ?_
    refine lv_istore_n (lv' := [(1, .int (0 : Int32)), (0, .ref (a 1))]) S.1 S.2.1 dX8_readsItem_34 rfl hl (by decide) rfl (fun ls hl => ?_)
    refine lv_aload_n S.1 S.2.1 dX8_readsItem_35 rfl (lv_at hl 1 rfl) ?_
    refine xget (v := .int (u.1 1 5)) S hK hw 1 rfl rfl inX8 5 (by decide) mfX8_38 rfl dX8_readsItem_36 ?_
    refine lv_iconst (v := 1) S.1 S.2.1 dX8_readsItem_39 (by decide) ?_
    refine lv_icmp_ne (tgt := 68) S.1 S.2.1 dX8_readsItem_40 (by decide) (fun c_51 => ?_) (fun c_51 => ?_)
    · replace hV := hV.trans (if_neg c_51)
      have gc_51 : ¬ ((u.1 1 5)).toInt = 1 := xq_ne c_51 rfl rfl
      refine lv_iconst (v := 0) S.1 S.2.1 dX8_readsItem_68 (by decide) ?_
      refine lv_istore_n (lv' := [(2, .int (0 : Int32)), (1, .int (0 : Int32)), (0, .ref (a 1))]) S.1 S.2.1 dX8_readsItem_69 rfl hl (by decide) rfl (fun ls hl => ?_)
      exact ct_1 (0 : Int32) (0 : Int32) _ _ _ (show ((0 = 0 ∨ 0 = 1) ∧ (0 = 0 ∨ 0 = 1) ∧ (0 = 0 ∨ ((u.1 4 0)).toInt < 8) ∧ (0 = 0 ∨ ((u.1 4 1)).toInt < 6)) from by omega) (lv_sub hl [2, 1, 0] rfl) hw hV
    · replace hV := hV.trans (if_pos c_51)
      have gc_51 : ((u.1 1 5)).toInt = 1 := xq_eq c_51 rfl rfl
      refine lv_aload_n S.1 S.2.1 dX8_readsItem_43 rfl (lv_at hl 1 rfl) ?_
      refine xget (v := .int (u.1 1 6)) S hK hw 1 rfl rfl inX8 6 (by decide) mfX8_45 rfl dX8_readsItem_44 ?_
      refine lv_bipush (v := 99) S.1 S.2.1 dX8_readsItem_47 (by decide) ?_
      refine lv_icmp_ne (tgt := 68) S.1 S.2.1 dX8_readsItem_49 (by decide) (fun c_52 => ?_) (fun c_52 => ?_)
      · replace hV := hV.trans (if_neg c_52)
        have gc_52 : ¬ ((u.1 1 6)).toInt = 99 := xq_ne c_52 rfl rfl
        refine lv_iconst (v := 0) S.1 S.2.1 dX8_readsItem_68 (by decide) ?_
        refine lv_istore_n (lv' := [(2, .int (0 : Int32)), (1, .int (0 : Int32)), (0, .ref (a 1))]) S.1 S.2.1 dX8_readsItem_69 rfl hl (by decide) rfl (fun ls hl => ?_)
        exact ct_1 (0 : Int32) (0 : Int32) _ _ _ (show ((0 = 0 ∨ 0 = 1) ∧ (0 = 0 ∨ 0 = 1) ∧ (0 = 0 ∨ ((u.1 4 0)).toInt < 8) ∧ (0 = 0 ∨ ((u.1 4 1)).toInt < 6)) from by omega) (lv_sub hl [2, 1, 0] rfl) hw hV
      · replace hV := hV.trans (if_pos c_52)
        have gc_52 : ((u.1 1 6)).toInt = 99 := xq_eq c_52 rfl rfl
        refine lv_aload_n S.1 S.2.1 dX8_readsItem_52 rfl (lv_at hl 1 rfl) ?_
        refine xget (v := .ref (a 4)) S hK hw 1 rfl rfl inX8 2 (by decide) mfX8_18 rfl dX8_readsItem_53 ?_
        refine xget (v := .int (u.1 4 1)) S hK hw 4 rfl rfl inX9 1 (by decide) mfX8_29 rfl dX8_readsItem_56 ?_
        refine lv_bipush (v := 6) S.1 S.2.1 dX8_readsItem_59 (by decide) ?_
        refine lv_icmp_ge (tgt := 68) S.1 S.2.1 dX8_readsItem_61 (by decide) (fun c_53 => ?_) (fun c_53 => ?_)
        · replace hV := hV.trans (if_pos c_53)
          have gc_53 : 6 ≤ ((u.1 4 1)).toInt := xq_le c_53 rfl rfl
          refine lv_iconst (v := 0) S.1 S.2.1 dX8_readsItem_68 (by decide) ?_
          refine lv_istore_n (lv' := [(2, .int (0 : Int32)), (1, .int (0 : Int32)), (0, .ref (a 1))]) S.1 S.2.1 dX8_readsItem_69 rfl hl (by decide) rfl (fun ls hl => ?_)
          exact ct_1 (0 : Int32) (0 : Int32) _ _ _ (show ((0 = 0 ∨ 0 = 1) ∧ (0 = 0 ∨ 0 = 1) ∧ (0 = 0 ∨ ((u.1 4 0)).toInt < 8) ∧ (0 = 0 ∨ ((u.1 4 1)).toInt < 6)) from by omega) (lv_sub hl [2, 1, 0] rfl) hw hV
        · replace hV := hV.trans (if_neg c_53)
          have gc_53 : ((u.1 4 1)).toInt < 6 := xq_nle c_53 rfl rfl
          refine lv_iconst (v := 1) S.1 S.2.1 dX8_readsItem_64 (by decide) ?_
          refine lv_goto (tgt := 69) S.1 S.2.1 dX8_readsItem_65 (by decide) ?_
          refine lv_istore_n (lv' := [(2, .int (1 : Int32)), (1, .int (0 : Int32)), (0, .ref (a 1))]) S.1 S.2.1 dX8_readsItem_69 rfl hl (by decide) rfl (fun ls hl => ?_)
          exact ct_1 (0 : Int32) (1 : Int32) _ _ _ (show ((0 = 0 ∨ 0 = 1) ∧ (1 = 0 ∨ 1 = 1) ∧ (0 = 0 ∨ ((u.1 4 0)).toInt < 8) ∧ (1 = 0 ∨ ((u.1 4 1)).toInt < 6)) from by omega) (lv_sub hl [2, 1, 0] rfl) hw hV
  · replace hV := hV.trans (if_pos c_50)
    have gc_50 : ((u.1 1 5)).toInt = 1 := xq_eq c_50 rfl rfl
    refine lv_aload_n S.1 S.2.1 dX8_readsItem_8 rfl (lv_at hl 0 rfl) ?_
    refine xget (v := .int (u.1 1 6)) S hK hw 1 rfl rfl inX8 6 (by decide) mfX8_45 rfl dX8_readsItem_9 ?_
    refine lv_bipush (v := 116) S.1 S.2.1 dX8_readsItem_12 (by decide) ?_
    refine lv_icmp_ne (tgt := 33) S.1 S.2.1 dX8_readsItem_14 (by decide) (fun c_54 => ?_) (fun c_54 => ?_)
    · replace hV := hV.trans (if_neg c_54)
      have gc_54 : ¬ ((u.1 1 6)).toInt = 116 := xq_ne c_54 rfl rfl
      refine lv_iconst (v := 0) S.1 S.2.1 dX8_readsItem_33 (by decide) ?_
      refine lv_istore_n (lv' := [(1, .int (0 : Int32)), (0, .ref (a 1))]) S.1 S.2.1 dX8_readsItem_34 rfl hl (by decide) rfl (fun ls hl => ?_)
      refine lv_aload_n S.1 S.2.1 dX8_readsItem_35 rfl (lv_at hl 1 rfl) ?_
      refine xget (v := .int (u.1 1 5)) S hK hw 1 rfl rfl inX8 5 (by decide) mfX8_38 rfl dX8_readsItem_36 ?_
      refine lv_iconst (v := 1) S.1 S.2.1 dX8_readsItem_39 (by decide) ?_
      refine lv_icmp_ne (tgt := 68) S.1 S.2.1 dX8_readsItem_40 (by decide) (fun c_55 => ?_) (fun c_55 => ?_)
      · replace hV := hV.trans (if_neg c_55)
        have gc_55 : ¬ ((u.1 1 5)).toInt = 1 := xq_ne c_55 rfl rfl
        refine lv_iconst (v := 0) S.1 S.2.1 dX8_readsItem_68 (by decide) ?_
        refine lv_istore_n (lv' := [(2, .int (0 : Int32)), (1, .int (0 : Int32)), (0, .ref (a 1))]) S.1 S.2.1 dX8_readsItem_69 rfl hl (by decide) rfl (fun ls hl => ?_)
        exact ct_1 (0 : Int32) (0 : Int32) _ _ _ (show ((0 = 0 ∨ 0 = 1) ∧ (0 = 0 ∨ 0 = 1) ∧ (0 = 0 ∨ ((u.1 4 0)).toInt < 8) ∧ (0 = 0 ∨ ((u.1 4 1)).toInt < 6)) from by omega) (lv_sub hl [2, 1, 0] rfl) hw hV
      · replace hV := hV.trans (if_pos c_55)
        have gc_55 : ((u.1 1 5)).toInt = 1 := xq_eq c_55 rfl rfl
        refine lv_aload_n S.1 S.2.1 dX8_readsItem_43 rfl (lv_at hl 1 rfl) ?_
        refine xget (v := .int (u.1 1 6)) S hK hw 1 rfl rfl inX8 6 (by decide) mfX8_45 rfl dX8_readsItem_44 ?_
        refine lv_bipush (v := 99) S.1 S.2.1 dX8_readsItem_47 (by decide) ?_
        refine lv_icmp_ne (tgt := 68) S.1 S.2.1 dX8_readsItem_49 (by decide) (fun c_56 => ?_) (fun c_56 => ?_)
        · replace hV := hV.trans (if_neg c_56)
          have gc_56 : ¬ ((u.1 1 6)).toInt = 99 := xq_ne c_56 rfl rfl
          refine lv_iconst (v := 0) S.1 S.2.1 dX8_readsItem_68 (by decide) ?_
          refine lv_istore_n (lv' := [(2, .int (0 : Int32)), (1, .int (0 : Int32)), (0, .ref (a 1))]) S.1 S.2.1 dX8_readsItem_69 rfl hl (by decide) rfl (fun ls hl => ?_)
          exact ct_1 (0 : Int32) (0 : Int32) _ _ _ (show ((0 = 0 ∨ 0 = 1) ∧ (0 = 0 ∨ 0 = 1) ∧ (0 = 0 ∨ ((u.1 4 0)).toInt < 8) ∧ (0 = 0 ∨ ((u.1 4 1)).toInt < 6)) from by omega) (lv_sub hl [2, 1, 0] rfl) hw hV
        · replace hV := hV.trans (if_pos c_56)
          have gc_56 : ((u.1 1 6)).toInt = 99 := xq_eq c_56 rfl rfl
          refine lv_aload_n S.1 S.2.1 dX8_readsItem_52 rfl (lv_at hl 1 rfl) ?_
          refine xget (v := .ref (a 4)) S hK hw 1 rfl rfl inX8 2 (by decide) mfX8_18 rfl dX8_readsItem_53 ?_
          refine xget (v := .int (u.1 4 1)) S hK hw 4 rfl rfl inX9 1 (by decide) mfX8_29 rfl dX8_readsItem_56 ?_
          refine lv_bipush (v := 6) S.1 S.2.1 dX8_readsItem_59 (by decide) ?_
          refine lv_icmp_ge (tgt := 68) S.1 S.2.1 dX8_readsItem_61 (by decide) (fun c_57 => ?_) (fun c_57 => ?_)
          · replace hV := hV.trans (if_pos c_57)
            have gc_57 : 6 ≤ ((u.1 4 1)).toInt := xq_le c_57 rfl rfl
            refine lv_iconst (v := 0) S.1 S.2.1 dX8_readsItem_68 (by decide) ?_
            refine lv_istore_n (lv' := [(2, .int (0 : Int32)), (1, .int (0 : Int32)), (0, .ref (a 1))]) S.1 S.2.1 dX8_readsItem_69 rfl hl (by decide) rfl (fun ls hl => ?_)
            exact ct_1 (0 : Int32) (0 : Int32) _ _ _ (show ((0 = 0 ∨ 0 = 1) ∧ (0 = 0 ∨ 0 = 1) ∧ (0 = 0 ∨ ((u.1 4 0)).toInt < 8) ∧ (0 = 0 ∨ ((u.1 4 1)).toInt < 6)) from by omega) (lv_sub hl [2, 1, 0] rfl) hw hV
          · replace hV := hV.trans (if_neg c_57)
            have gc_57 : ((u.1 4 1)).toInt < 6 := xq_nle c_57 rfl rfl
            refine lv_iconst (v := 1) S.1 S.2.1 dX8_readsItem_64 (by decide) ?_
            refine lv_goto (tgt := 69) S.1 S.2.1 dX8_readsItem_65 (by decide) ?_
            refine lv_istore_n (lv' := [(2, .int (1 : Int32)), (1, .int (0 : Int32)), (0, .ref (a 1))]) S.1 S.2.1 dX8_readsItem_69 rfl hl (by decide) rfl (fun ls hl => ?_)
            exact ct_1 (0 : Int32) (1 : Int32) _ _ _ (show ((0 = 0 ∨ 0 = 1) ∧ (1 = 0 ∨ 1 = 1) ∧ (0 = 0 ∨ ((u.1 4 0)).toInt < 8) ∧ (1 = 0 ∨ ((u.1 4 1)).toInt < 6)) from by omega) (lv_sub hl [2, 1, 0] rfl) hw hV
    · replace hV := hV.trans (if_pos c_54)
      have gc_54 : ((u.1 1 6)).toInt = 116 := xq_eq c_54 rfl rfl
      refine lv_aload_n S.1 S.2.1 dX8_readsItem_17 rfl (lv_at hl 0 rfl) ?_
      refine xget (v := .ref (a 4)) S hK hw 1 rfl rfl inX8 2 (by decide) mfX8_18 rfl dX8_readsItem_18 ?_
      refine xget (v := .int (u.1 4 0)) S hK hw 4 rfl rfl inX9 0 (by decide) mfX8_25 rfl dX8_readsItem_21 ?_
      refine lv_bipush (v := 8) S.1 S.2.1 dX8_readsItem_24 (by decide) ?_
      refine lv_icmp_ge (tgt := 33) S.1 S.2.1 dX8_readsItem_26 (by decide) (fun c_58 => ?_) (fun c_58 => ?_)
      · replace hV := hV.trans (if_pos c_58)
        have gc_58 : 8 ≤ ((u.1 4 0)).toInt := xq_le c_58 rfl rfl
        refine lv_iconst (v := 0) S.1 S.2.1 dX8_readsItem_33 (by decide) ?_
        refine lv_istore_n (lv' := [(1, .int (0 : Int32)), (0, .ref (a 1))]) S.1 S.2.1 dX8_readsItem_34 rfl hl (by decide) rfl (fun ls hl => ?_)
        refine lv_aload_n S.1 S.2.1 dX8_readsItem_35 rfl (lv_at hl 1 rfl) ?_
        refine xget (v := .int (u.1 1 5)) S hK hw 1 rfl rfl inX8 5 (by decide) mfX8_38 rfl dX8_readsItem_36 ?_
        refine lv_iconst (v := 1) S.1 S.2.1 dX8_readsItem_39 (by decide) ?_
        refine lv_icmp_ne (tgt := 68) S.1 S.2.1 dX8_readsItem_40 (by decide) (fun c_59 => ?_) (fun c_59 => ?_)
        · replace hV := hV.trans (if_neg c_59)
          have gc_59 : ¬ ((u.1 1 5)).toInt = 1 := xq_ne c_59 rfl rfl
          refine lv_iconst (v := 0) S.1 S.2.1 dX8_readsItem_68 (by decide) ?_
          refine lv_istore_n (lv' := [(2, .int (0 : Int32)), (1, .int (0 : Int32)), (0, .ref (a 1))]) S.1 S.2.1 dX8_readsItem_69 rfl hl (by decide) rfl (fun ls hl => ?_)
          exact ct_1 (0 : Int32) (0 : Int32) _ _ _ (show ((0 = 0 ∨ 0 = 1) ∧ (0 = 0 ∨ 0 = 1) ∧ (0 = 0 ∨ ((u.1 4 0)).toInt < 8) ∧ (0 = 0 ∨ ((u.1 4 1)).toInt < 6)) from by omega) (lv_sub hl [2, 1, 0] rfl) hw hV
        · replace hV := hV.trans (if_pos c_59)
          have gc_59 : ((u.1 1 5)).toInt = 1 := xq_eq c_59 rfl rfl
          refine lv_aload_n S.1 S.2.1 dX8_readsItem_43 rfl (lv_at hl 1 rfl) ?_
          refine xget (v := .int (u.1 1 6)) S hK hw 1 rfl rfl inX8 6 (by decide) mfX8_45 rfl dX8_readsItem_44 ?_
          refine lv_bipush (v := 99) S.1 S.2.1 dX8_readsItem_47 (by decide) ?_
          refine lv_icmp_ne (tgt := 68) S.1 S.2.1 dX8_readsItem_49 (by decide) (fun c_60 => ?_) (fun c_60 => ?_)
          · replace hV := hV.trans (if_neg c_60)
            have gc_60 : ¬ ((u.1 1 6)).toInt = 99 := xq_ne c_60 rfl rfl
            refine lv_iconst (v := 0) S.1 S.2.1 dX8_readsItem_68 (by decide) ?_
            refine lv_istore_n (lv' := [(2, .int (0 : Int32)), (1, .int (0 : Int32)), (0, .ref (a 1))]) S.1 S.2.1 dX8_readsItem_69 rfl hl (by decide) rfl (fun ls hl => ?_)
            exact ct_1 (0 : Int32) (0 : Int32) _ _ _ (show ((0 = 0 ∨ 0 = 1) ∧ (0 = 0 ∨ 0 = 1) ∧ (0 = 0 ∨ ((u.1 4 0)).toInt < 8) ∧ (0 = 0 ∨ ((u.1 4 1)).toInt < 6)) from by omega) (lv_sub hl [2, 1, 0] rfl) hw hV
          · replace hV := hV.trans (if_pos c_60)
            have gc_60 : ((u.1 1 6)).toInt = 99 := xq_eq c_60 rfl rfl
            refine lv_aload_n S.1 S.2.1 dX8_readsItem_52 rfl (lv_at hl 1 rfl) ?_
            refine xget (v := .ref (a 4)) S hK hw 1 rfl rfl inX8 2 (by decide) mfX8_18 rfl dX8_readsItem_53 ?_
            refine xget (v := .int (u.1 4 1)) S hK hw 4 rfl rfl inX9 1 (by decide) mfX8_29 rfl dX8_readsItem_56 ?_
            refine lv_bipush (v := 6) S.1 S.2.1 dX8_readsItem_59 (by decide) ?_
            refine lv_icmp_ge (tgt := 68) S.1 S.2.1 dX8_readsItem_61 (by decide) (fun c_61 => ?_) (fun c_61 => ?_)
            · replace hV := hV.trans (if_pos c_61)
              have gc_61 : 6 ≤ ((u.1 4 1)).toInt := xq_le c_61 rfl rfl
              refine lv_iconst (v := 0) S.1 S.2.1 dX8_readsItem_68 (by decide) ?_
              refine lv_istore_n (lv' := [(2, .int (0 : Int32)), (1, .int (0 : Int32)), (0, .ref (a 1))]) S.1 S.2.1 dX8_readsItem_69 rfl hl (by decide) rfl (fun ls hl => ?_)
              exact ct_1 (0 : Int32) (0 : Int32) _ _ _ (show ((0 = 0 ∨ 0 = 1) ∧ (0 = 0 ∨ 0 = 1) ∧ (0 = 0 ∨ ((u.1 4 0)).toInt < 8) ∧ (0 = 0 ∨ ((u.1 4 1)).toInt < 6)) from by omega) (lv_sub hl [2, 1, 0] rfl) hw hV
            · replace hV := hV.trans (if_neg c_61)
              have gc_61 : ((u.1 4 1)).toInt < 6 := xq_nle c_61 rfl rfl
              refine lv_iconst (v := 1) S.1 S.2.1 dX8_readsItem_64 (by decide) ?_
              refine lv_goto (tgt := 69) S.1 S.2.1 dX8_readsItem_65 (by decide) ?_
              refine lv_istore_n (lv' := [(2, .int (1 : Int32)), (1, .int (0 : Int32)), (0, .ref (a 1))]) S.1 S.2.1 dX8_readsItem_69 rfl hl (by decide) rfl (fun ls hl => ?_)
              exact ct_1 (0 : Int32) (1 : Int32) _ _ _ (show ((0 = 0 ∨ 0 = 1) ∧ (1 = 0 ∨ 1 = 1) ∧ (0 = 0 ∨ ((u.1 4 0)).toInt < 8) ∧ (1 = 0 ∨ ((u.1 4 1)).toInt < 6)) from by omega) (lv_sub hl [2, 1, 0] rfl) hw hV
      · replace hV := hV.trans (if_neg c_58)
        have gc_58 : ((u.1 4 0)).toInt < 8 := xq_nle c_58 rfl rfl
        refine lv_iconst (v := 1) S.1 S.2.1 dX8_readsItem_29 (by decide) ?_
        refine lv_goto (tgt := 34) S.1 S.2.1 dX8_readsItem_30 (by decide) ?_
        refine lv_istore_n (lv' := [(1, .int (1 : Int32)), (0, .ref (a 1))]) S.1 S.2.1 dX8_readsItem_34 rfl hl (by decide) rfl (fun ls hl => ?_)
        refine lv_aload_n S.1 S.2.1 dX8_readsItem_35 rfl (lv_at hl 1 rfl) ?_
        refine xget (v := .int (u.1 1 5)) S hK hw 1 rfl rfl inX8 5 (by decide) mfX8_38 rfl dX8_readsItem_36 ?_
        refine lv_iconst (v := 1) S.1 S.2.1 dX8_readsItem_39 (by decide) ?_
        refine lv_icmp_ne (tgt := 68) S.1 S.2.1 dX8_readsItem_40 (by decide) (fun c_62 => ?_) (fun c_62 => ?_)
        · replace hV := hV.trans (if_neg c_62)
          have gc_62 : ¬ ((u.1 1 5)).toInt = 1 := xq_ne c_62 rfl rfl
          refine lv_iconst (v := 0) S.1 S.2.1 dX8_readsItem_68 (by decide) ?_
          refine lv_istore_n (lv' := [(2, .int (0 : Int32)), (1, .int (1 : Int32)), (0, .ref (a 1))]) S.1 S.2.1 dX8_readsItem_69 rfl hl (by decide) rfl (fun ls hl => ?_)
          exact ct_1 (1 : Int32) (0 : Int32) _ _ _ (show ((1 = 0 ∨ 1 = 1) ∧ (0 = 0 ∨ 0 = 1) ∧ (1 = 0 ∨ ((u.1 4 0)).toInt < 8) ∧ (0 = 0 ∨ ((u.1 4 1)).toInt < 6)) from by omega) (lv_sub hl [2, 1, 0] rfl) hw hV
        · replace hV := hV.trans (if_pos c_62)
          have gc_62 : ((u.1 1 5)).toInt = 1 := xq_eq c_62 rfl rfl
          refine lv_aload_n S.1 S.2.1 dX8_readsItem_43 rfl (lv_at hl 1 rfl) ?_
          refine xget (v := .int (u.1 1 6)) S hK hw 1 rfl rfl inX8 6 (by decide) mfX8_45 rfl dX8_readsItem_44 ?_
          refine lv_bipush (v := 99) S.1 S.2.1 dX8_readsItem_47 (by decide) ?_
          refine lv_icmp_ne (tgt := 68) S.1 S.2.1 dX8_readsItem_49 (by decide) (fun c_63 => ?_) (fun c_63 => ?_)
          · replace hV := hV.trans (if_neg c_63)
            have gc_63 : ¬ ((u.1 1 6)).toInt = 99 := xq_ne c_63 rfl rfl
            refine lv_iconst (v := 0) S.1 S.2.1 dX8_readsItem_68 (by decide) ?_
            refine lv_istore_n (lv' := [(2, .int (0 : Int32)), (1, .int (1 : Int32)), (0, .ref (a 1))]) S.1 S.2.1 dX8_readsItem_69 rfl hl (by decide) rfl (fun ls hl => ?_)
            exact ct_1 (1 : Int32) (0 : Int32) _ _ _ (show ((1 = 0 ∨ 1 = 1) ∧ (0 = 0 ∨ 0 = 1) ∧ (1 = 0 ∨ ((u.1 4 0)).toInt < 8) ∧ (0 = 0 ∨ ((u.1 4 1)).toInt < 6)) from by omega) (lv_sub hl [2, 1, 0] rfl) hw hV
          · replace hV := hV.trans (if_pos c_63)
            have gc_63 : ((u.1 1 6)).toInt = 99 := xq_eq c_63 rfl rfl
            refine lv_aload_n S.1 S.2.1 dX8_readsItem_52 rfl (lv_at hl 1 rfl) ?_
            refine xget (v := .ref (a 4)) S hK hw 1 rfl rfl inX8 2 (by decide) mfX8_18 rfl dX8_readsItem_53 ?_
            refine xget (v := .int (u.1 4 1)) S hK hw 4 rfl rfl inX9 1 (by decide) mfX8_29 rfl dX8_readsItem_56 ?_
            refine lv_bipush (v := 6) S.1 S.2.1 dX8_readsItem_59 (by decide) ?_
            refine lv_icmp_ge (tgt := 68) S.1 S.2.1 dX8_readsItem_61 (by decide) (fun c_64 => ?_) (fun c_64 => ?_)
            · replace hV := hV.trans (if_pos c_64)
              have gc_64 : 6 ≤ ((u.1 4 1)).toInt := xq_le c_64 rfl rfl
              refine lv_iconst (v := 0) S.1 S.2.1 dX8_readsItem_68 (by decide) ?_
              refine lv_istore_n (lv' := [(2, .int (0 : Int32)), (1, .int (1 : Int32)), (0, .ref (a 1))]) S.1 S.2.1 dX8_readsItem_69 rfl hl (by decide) rfl (fun ls hl => ?_)
              exact ct_1 (1 : Int32) (0 : Int32) _ _ _ (show ((1 = 0 ∨ 1 = 1) ∧ (0 = 0 ∨ 0 = 1) ∧ (1 = 0 ∨ ((u.1 4 0)).toInt < 8) ∧ (0 = 0 ∨ ((u.1 4 1)).toInt < 6)) from by omega) (lv_sub hl [2, 1, 0] rfl) hw hV
            · replace hV := hV.trans (if_neg c_64)
              have gc_64 : ((u.1 4 1)).toInt < 6 := xq_nle c_64 rfl rfl
              refine lv_iconst (v := 1) S.1 S.2.1 dX8_readsItem_64 (by decide) ?_
              refine lv_goto (tgt := 69) S.1 S.2.1 dX8_readsItem_65 (by decide) ?_
              refine lv_istore_n (lv' := [(2, .int (1 : Int32)), (1, .int (1 : Int32)), (0, .ref (a 1))]) S.1 S.2.1 dX8_readsItem_69 rfl hl (by decide) rfl (fun ls hl => ?_)
              exact ct_1 (1 : Int32) (1 : Int32) _ _ _ (show ((1 = 0 ∨ 1 = 1) ∧ (1 = 0 ∨ 1 = 1) ∧ (1 = 0 ∨ ((u.1 4 0)).toInt < 8) ∧ (1 = 0 ∨ ((u.1 4 1)).toInt < 6)) from by omega) (lv_sub hl [2, 1, 0] rfl) hw hV
