def k_Hall_isBroken (u : xU) (p1 : Int32) : Bool :=
    (k_has (u.1 21 1) p1)
set_option maxHeartbeats 4000000 in
set_option maxRecDepth 100000 in
theorem c_k_Hall_isBroken (l : Launch) (D : va_G) (a : Nat → Nat) (Y : Nat → ClassId) (ts : Nat → Nat) (u : xU) (p1 : Int32) (hT : (0 ≤ ((u.1 13 0)).toInt ∧ ((u.1 13 0)).toInt ≤ 8)) (hC : (0 ≤ ((u.1 13 1)).toInt ∧ ((u.1 13 1)).toInt ≤ 6)) (hp0 : 0 ≤ (p1).toInt ∧ (p1).toInt < 6) : xMi l yX0_isBroken cX0_isBroken 2 (some .boolean) (xRm 1 21) D (xty Y) (wC a Y) ts [.ref (a 12), .int p1] u (b2i (k_Hall_isBroken u p1), u) := by
  suffices h : ∀ V, V = k_Hall_isBroken u p1 → xMi l yX0_isBroken cX0_isBroken 2 (some .boolean) (xRm 1 21) D (xty Y) (wC a Y) ts [.ref (a 12), .int p1] u (b2i V, u) from h _ rfl
  intro V hV
  refine xofi RX0 rfl (by decide) (Nat.le_of_ble_eq_true rfl) ?_
  intro p e s m args below meth c ls H locs A S hr hlk hl hK hE hA hw
  have hl : lv_has ls 2 [(0, .ref (a 12)), (1, .int p1)] := hl
  refine lv_aload_n S.1 S.2.1 dX0_isBroken_0 rfl (lv_at hl 0 rfl) ?_
  refine xget (v := .ref (a 21)) S hK hw 12 rfl rfl inX0 1 (by decide) mfX0_21 rfl dX0_isBroken_1 ?_
  refine xget (v := .int (u.1 21 1)) S hK hw 21 rfl rfl inX4 1 (by decide) mfX0_44 rfl dX0_isBroken_4 ?_
  refine lv_iload_n S.1 S.2.1 dX0_isBroken_7 rfl (lv_at hl 1 rfl) ?_
  refine xcPN (host := RX10) (rest := []) S hE hw yfX10_has (c_k_has l (u.1 21 1) p1) (by decide +kernel) rfl rfl hl.1 ⟨rfl, rfl, Nat.le_of_ble_eq_true rfl, Nat.le_of_ble_eq_true rfl, Nat.le_of_ble_eq_true rfl, Nat.zero_le _, Nat.zero_le _⟩ dX0_isBroken_8 (fun H locs hw => ?_)
  exact xrz S hr hlk hw (b2i_z _) (congrArg (fun b => (b2i b, u)) hV) dX0_isBroken_11
def k_Hall_lacksPartOf (u : xU) (p1 : Int32) (p2 : Int32) : Bool :=
    (k_has (u.1 24 (p1).toNatClampNeg) (u.1 16 (p2).toNatClampNeg))
set_option maxHeartbeats 4000000 in
set_option maxRecDepth 100000 in
theorem c_k_Hall_lacksPartOf (l : Launch) (D : va_G) (a : Nat → Nat) (Y : Nat → ClassId) (ts : Nat → Nat) (u : xU) (p1 : Int32) (p2 : Int32) (hT : (0 ≤ ((u.1 13 0)).toInt ∧ ((u.1 13 0)).toInt ≤ 8)) (hC : (0 ≤ ((u.1 13 1)).toInt ∧ ((u.1 13 1)).toInt ≤ 6)) (hp0 : 0 ≤ (p1).toInt ∧ (p1).toInt < 6) (hp1 : 0 ≤ (p2).toInt ∧ (p2).toInt < 8) : xMi l yX0_lacksPartOf cX0_lacksPartOf 3 (some .boolean) (xRm 1 21) D (xty Y) (wC a Y) ts [.ref (a 12), .int p1, .int p2] u (b2i (k_Hall_lacksPartOf u p1 p2), u) := by
  suffices h : ∀ V, V = k_Hall_lacksPartOf u p1 p2 → xMi l yX0_lacksPartOf cX0_lacksPartOf 3 (some .boolean) (xRm 1 21) D (xty Y) (wC a Y) ts [.ref (a 12), .int p1, .int p2] u (b2i V, u) from h _ rfl
  intro V hV
  refine xofi RX0 rfl (by decide) (Nat.le_of_ble_eq_true rfl) ?_
  intro p e s m args below meth c ls H locs A S hr hlk hl hK hE hA hw
  have hl : lv_has ls 3 [(0, .ref (a 12)), (1, .int p1), (2, .int p2)] := hl
  refine lv_aload_n S.1 S.2.1 dX0_lacksPartOf_0 rfl (lv_at hl 0 rfl) ?_
  refine xget (v := .ref (a 21)) S hK hw 12 rfl rfl inX0 1 (by decide) mfX0_21 rfl dX0_lacksPartOf_1 ?_
  refine xget (v := .ref (a 24)) S hK hw 21 rfl rfl inX4 4 (by decide) mfX0_51 rfl dX0_lacksPartOf_4 ?_
  refine lv_iload_n S.1 S.2.1 dX0_lacksPartOf_7 rfl (lv_at hl 1 rfl) ?_
  refine xald (f := u.1 24) S hK hw 24 0 rfl rfl (xvi rfl (by omega) (by omega)) dX0_lacksPartOf_8 ?_
  refine lv_aload_n S.1 S.2.1 dX0_lacksPartOf_9 rfl (lv_at hl 0 rfl) ?_
  refine xget (v := .ref (a 13)) S hK hw 12 rfl rfl inX0 0 (by decide) mfX0_12 rfl dX0_lacksPartOf_10 ?_
  refine xget (v := .ref (a 16)) S hK hw 13 rfl rfl inX9 4 (by decide) mfX0_52 rfl dX0_lacksPartOf_13 ?_
  refine lv_iload_n S.1 S.2.1 dX0_lacksPartOf_16 rfl (lv_at hl 2 rfl) ?_
  refine xald (f := u.1 16) S hK hw 16 0 rfl rfl (xvi rfl (by omega) (by omega)) dX0_lacksPartOf_17 ?_
  refine xcPN (host := RX10) (rest := []) S hE hw yfX10_has (c_k_has l (u.1 24 (p1).toNatClampNeg) (u.1 16 (p2).toNatClampNeg)) (by decide +kernel) rfl rfl hl.1 ⟨rfl, rfl, Nat.le_of_ble_eq_true rfl, Nat.le_of_ble_eq_true rfl, Nat.le_of_ble_eq_true rfl, Nat.zero_le _, Nat.zero_le _⟩ dX0_lacksPartOf_18 (fun H locs hw => ?_)
  exact xrz S hr hlk hw (b2i_z _) (congrArg (fun b => (b2i b, u)) hV) dX0_lacksPartOf_21
def k_Hall_may (u : xU) (p1 : Int32) (p2 : Int32) : Bool :=
    (if (b2i (k_Hall_isBroken u p1)) = (0 : Int32) then
    (if (b2i (k_has (u.1 23 (p1).toNatClampNeg) p2)) = (0 : Int32) then
    (if ((u.1 17 (p2).toNatClampNeg) &&& ((u.1 23 (p1).toNatClampNeg) ^^^ (-1 : Int32))) = (0 : Int32) then
    (if (b2i (k_Hall_lacksPartOf u p1 p2)) = (0 : Int32) then
    true
    else
    false)
    else
    false)
    else
    false)
    else
    false)
set_option maxHeartbeats 4000000 in
set_option maxRecDepth 100000 in
theorem c_k_Hall_may (l : Launch) (D : va_G) (a : Nat → Nat) (Y : Nat → ClassId) (ts : Nat → Nat) (u : xU) (p1 : Int32) (p2 : Int32) (hT : (0 ≤ ((u.1 13 0)).toInt ∧ ((u.1 13 0)).toInt ≤ 8)) (hC : (0 ≤ ((u.1 13 1)).toInt ∧ ((u.1 13 1)).toInt ≤ 6)) (hp0 : 0 ≤ (p1).toInt ∧ (p1).toInt < 6) (hp1 : 0 ≤ (p2).toInt ∧ (p2).toInt < 8) : xMi l yX0_may cX0_may 3 (some .boolean) (xRm 2 43) D (xty Y) (wC a Y) ts [.ref (a 12), .int p1, .int p2] u (b2i (k_Hall_may u p1 p2), u) := by
  suffices h : ∀ V, V = k_Hall_may u p1 p2 → xMi l yX0_may cX0_may 3 (some .boolean) (xRm 2 43) D (xty Y) (wC a Y) ts [.ref (a 12), .int p1, .int p2] u (b2i V, u) from h _ rfl
  intro V hV
  refine xofi RX0 rfl (by decide) (Nat.le_of_ble_eq_true rfl) ?_
  intro p e s m args below meth c ls H locs A S hr hlk hl hK hE hA hw
  have hl : lv_has ls 3 [(0, .ref (a 12)), (1, .int p1), (2, .int p2)] := hl
  refine lv_aload_n S.1 S.2.1 dX0_may_0 rfl (lv_at hl 0 rfl) ?_
  refine lv_iload_n S.1 S.2.1 dX0_may_1 rfl (lv_at hl 1 rfl) ?_
  refine xci (rest := []) S hK hE hA hw yfX0_isBroken (c_k_Hall_isBroken l D a Y ts _ p1 (show (0 ≤ ((u.1 13 0)).toInt ∧ ((u.1 13 0)).toInt ≤ 8) from by omega) (show (0 ≤ ((u.1 13 1)).toInt ∧ ((u.1 13 1)).toInt ≤ 6) from by omega) (show 0 ≤ (p1).toInt ∧ (p1).toInt < 6 from by omega)) 12 rfl rfl mlX0_55 rfl rfl hl.1 ⟨rfl, rfl, Nat.le_of_ble_eq_true rfl, Nat.le_of_ble_eq_true rfl, Nat.le_of_ble_eq_true rfl, Nat.zero_le _, Nat.zero_le _⟩ dX0_may_2 (fun H locs hw => ?_)
  refine lv_if_ne (tgt := 61) S.1 S.2.1 dX0_may_5 (by decide) (fun c_1 => ?_) (fun c_1 => ?_)
  · replace hV := hV.trans (if_neg c_1)
    have gc_1 : ¬ ((b2i (k_Hall_isBroken u p1))).toInt = 0 := xq_ne c_1 rfl rfl
    refine lv_iconst (v := 0) S.1 S.2.1 dX0_may_61 (by decide) ?_
    exact xrz S hr hlk hw rfl (congrArg (fun b => (b2i b, u)) hV) dX0_may_62
  · replace hV := hV.trans (if_pos c_1)
    have gc_1 : ((b2i (k_Hall_isBroken u p1))).toInt = 0 := xq_eq c_1 rfl rfl
    refine lv_aload_n S.1 S.2.1 dX0_may_8 rfl (lv_at hl 0 rfl) ?_
    refine xget (v := .ref (a 21)) S hK hw 12 rfl rfl inX0 1 (by decide) mfX0_21 rfl dX0_may_9 ?_
    refine xget (v := .ref (a 23)) S hK hw 21 rfl rfl inX4 3 (by decide) mfX0_59 rfl dX0_may_12 ?_
    refine lv_iload_n S.1 S.2.1 dX0_may_15 rfl (lv_at hl 1 rfl) ?_
    refine xald (f := u.1 23) S hK hw 23 0 rfl rfl (xvi rfl (by omega) (by omega)) dX0_may_16 ?_
    refine lv_iload_n S.1 S.2.1 dX0_may_17 rfl (lv_at hl 2 rfl) ?_
    refine xcPN (host := RX10) (rest := []) S hE hw yfX10_has (c_k_has l (u.1 23 (p1).toNatClampNeg) p2) (by decide +kernel) rfl rfl hl.1 ⟨rfl, rfl, Nat.le_of_ble_eq_true rfl, Nat.le_of_ble_eq_true rfl, Nat.le_of_ble_eq_true rfl, Nat.zero_le _, Nat.zero_le _⟩ dX0_may_18 (fun H locs hw => ?_)
    refine lv_if_ne (tgt := 61) S.1 S.2.1 dX0_may_21 (by decide) (fun c_2 => ?_) (fun c_2 => ?_)
    · replace hV := hV.trans (if_neg c_2)
      have gc_2 : ¬ ((b2i (k_has (u.1 23 (p1).toNatClampNeg) p2))).toInt = 0 := xq_ne c_2 rfl rfl
      refine lv_iconst (v := 0) S.1 S.2.1 dX0_may_61 (by decide) ?_
      exact xrz S hr hlk hw rfl (congrArg (fun b => (b2i b, u)) hV) dX0_may_62
    · replace hV := hV.trans (if_pos c_2)
      have gc_2 : ((b2i (k_has (u.1 23 (p1).toNatClampNeg) p2))).toInt = 0 := xq_eq c_2 rfl rfl
      refine lv_aload_n S.1 S.2.1 dX0_may_24 rfl (lv_at hl 0 rfl) ?_
      refine xget (v := .ref (a 13)) S hK hw 12 rfl rfl inX0 0 (by decide) mfX0_12 rfl dX0_may_25 ?_
      refine xget (v := .ref (a 17)) S hK hw 13 rfl rfl inX9 5 (by decide) mfX0_62 rfl dX0_may_28 ?_
      refine lv_iload_n S.1 S.2.1 dX0_may_31 rfl (lv_at hl 2 rfl) ?_
      refine xald (f := u.1 17) S hK hw 17 0 rfl rfl (xvi rfl (by omega) (by omega)) dX0_may_32 ?_
      refine lv_aload_n S.1 S.2.1 dX0_may_33 rfl (lv_at hl 0 rfl) ?_
      refine xget (v := .ref (a 21)) S hK hw 12 rfl rfl inX0 1 (by decide) mfX0_21 rfl dX0_may_34 ?_
      refine xget (v := .ref (a 23)) S hK hw 21 rfl rfl inX4 3 (by decide) mfX0_59 rfl dX0_may_37 ?_
      refine lv_iload_n S.1 S.2.1 dX0_may_40 rfl (lv_at hl 1 rfl) ?_
      refine xald (f := u.1 23) S hK hw 23 0 rfl rfl (xvi rfl (by omega) (by omega)) dX0_may_41 ?_
      refine lv_iconst (v := -1) S.1 S.2.1 dX0_may_42 (by decide) ?_
      refine lv_ixor S.1 S.2.1 dX0_may_43 ?_
      refine lv_iand S.1 S.2.1 dX0_may_44 ?_
      refine lv_if_ne (tgt := 61) S.1 S.2.1 dX0_may_45 (by decide) (fun c_3 => ?_) (fun c_3 => ?_)
      · replace hV := hV.trans (if_neg c_3)
        refine lv_iconst (v := 0) S.1 S.2.1 dX0_may_61 (by decide) ?_
        exact xrz S hr hlk hw rfl (congrArg (fun b => (b2i b, u)) hV) dX0_may_62
      · replace hV := hV.trans (if_pos c_3)
        refine lv_aload_n S.1 S.2.1 dX0_may_48 rfl (lv_at hl 0 rfl) ?_
        refine lv_iload_n S.1 S.2.1 dX0_may_49 rfl (lv_at hl 1 rfl) ?_
        refine lv_iload_n S.1 S.2.1 dX0_may_50 rfl (lv_at hl 2 rfl) ?_
        refine xci (rest := []) S hK hE hA hw yfX0_lacksPartOf (c_k_Hall_lacksPartOf l D a Y ts _ p1 p2 (show (0 ≤ ((u.1 13 0)).toInt ∧ ((u.1 13 0)).toInt ≤ 8) from by omega) (show (0 ≤ ((u.1 13 1)).toInt ∧ ((u.1 13 1)).toInt ≤ 6) from by omega) (show 0 ≤ (p1).toInt ∧ (p1).toInt < 6 from by omega) (show 0 ≤ (p2).toInt ∧ (p2).toInt < 8 from by omega)) 12 rfl rfl mlX0_65 rfl rfl hl.1 ⟨rfl, rfl, Nat.le_of_ble_eq_true rfl, Nat.le_of_ble_eq_true rfl, Nat.le_of_ble_eq_true rfl, Nat.zero_le _, Nat.zero_le _⟩ dX0_may_51 (fun H locs hw => ?_)
        refine lv_if_ne (tgt := 61) S.1 S.2.1 dX0_may_54 (by decide) (fun c_4 => ?_) (fun c_4 => ?_)
        · replace hV := hV.trans (if_neg c_4)
          have gc_4 : ¬ ((b2i (k_Hall_lacksPartOf u p1 p2))).toInt = 0 := xq_ne c_4 rfl rfl
          refine lv_iconst (v := 0) S.1 S.2.1 dX0_may_61 (by decide) ?_
          exact xrz S hr hlk hw rfl (congrArg (fun b => (b2i b, u)) hV) dX0_may_62
        · replace hV := hV.trans (if_pos c_4)
          have gc_4 : ((b2i (k_Hall_lacksPartOf u p1 p2))).toInt = 0 := xq_eq c_4 rfl rfl
          refine lv_iconst (v := 1) S.1 S.2.1 dX0_may_57 (by decide) ?_
          refine lv_goto (tgt := 62) S.1 S.2.1 dX0_may_58 (by decide) ?_
          exact xrz S hr hlk hw rfl (congrArg (fun b => (b2i b, u)) hV) dX0_may_62
def k_Hall_allItMay_L4 (w : xU) (x1 : Int32) : Nat → Int32 → Int32 → Int32
  | 0, _, _ => 0
  | n + 1, x2, x3 =>
    (if (w.1 13 0) ≤ x3 then
    x2
    else
    (if (b2i (k_Hall_may w x1 x3)) = (0 : Int32) then
    k_Hall_allItMay_L4 w x1 n x2 (x3 + (1 : Int32))
    else
    k_Hall_allItMay_L4 w x1 n (x2 ||| ((1 : Int32) <<< (x3 &&& 31))) (x3 + (1 : Int32))))
def k_Hall_allItMay (u : xU) (p1 : Int32) : Int32 :=
    k_Hall_allItMay_L4 u p1 9 (0 : Int32) (0 : Int32)
set_option maxHeartbeats 4000000 in
set_option maxRecDepth 100000 in
theorem c_k_Hall_allItMay (l : Launch) (D : va_G) (a : Nat → Nat) (Y : Nat → ClassId) (ts : Nat → Nat) (u : xU) (p1 : Int32) (hT : (0 ≤ ((u.1 13 0)).toInt ∧ ((u.1 13 0)).toInt ≤ 8)) (hC : (0 ≤ ((u.1 13 1)).toInt ∧ ((u.1 13 1)).toInt ≤ 6)) (hp0 : 0 ≤ (p1).toInt ∧ (p1).toInt < 6) : xMi l yX0_allItMay cX0_allItMay 4 (some .int) (xRm 3 65) D (xty Y) (wC a Y) ts [.ref (a 12), .int p1] u ((k_Hall_allItMay u p1), u) := by
  suffices h : ∀ V, V = k_Hall_allItMay u p1 → xMi l yX0_allItMay cX0_allItMay 4 (some .int) (xRm 3 65) D (xty Y) (wC a Y) ts [.ref (a 12), .int p1] u (V, u) from h _ rfl
  intro V hV
  refine xofi RX0 rfl (by decide) (Nat.le_of_ble_eq_true rfl) ?_
  intro p e s m args below meth c ls H locs A S hr hlk hl hK hE hA hw
  have hl : lv_has ls 4 [(0, .ref (a 12)), (1, .int p1)] := hl
  refine lv_iconst (v := 0) S.1 S.2.1 dX0_allItMay_0 (by decide) ?_
  refine lv_istore_n (lv' := [(2, .int (0 : Int32)), (0, .ref (a 12)), (1, .int p1)]) S.1 S.2.1 dX0_allItMay_1 rfl hl (by decide) rfl (fun ls hl => ?_)
  refine lv_iconst (v := 0) S.1 S.2.1 dX0_allItMay_2 (by decide) ?_
  refine lv_istore_n (lv' := [(3, .int (0 : Int32)), (2, .int (0 : Int32)), (0, .ref (a 12)), (1, .int p1)]) S.1 S.2.1 dX0_allItMay_3 rfl hl (by decide) rfl (fun ls hl => ?_)
  have lp_1 : ∀ (n_1 : Nat) (x2_1 : Int32) (x3_1 : Int32) (H : Heap) (locs : List Loc) (ls : Array Slot), (0 ≤ (x3_1).toInt) → (((u.1 13 0)).toInt - (x3_1).toInt < (n_1 : Int) ∧ 1 ≤ n_1) → lv_has ls 4 [(0, .ref (a 12)), (1, .int p1), (2, .int x2_1), (3, .int x3_1)] → xw D (wC a Y) A s.heap H locs u → V = k_Hall_allItMay_L4 u p1 n_1 x2_1 x3_1 → W p l e (xRm 3 65) s m args below meth c H locs 0 0 (MQ below (va_Qi (fun r v => (r, v) = (V, u)) (xPost D (wC a Y) A) A) args s 0 0 A) (F0 m 4 ls []) := by
    intro n_1
    induction n_1 with
    | zero => intro x2_1 x3_1 H locs ls i0_1 hn; exact absurd hn.2 (by decide)
    | succ n_1 ih_1 =>
      intro x2_1 x3_1 H locs ls i0_1 hn_1 hl hw hV
      refine lv_iload_n S.1 S.2.1 dX0_allItMay_4 rfl (lv_at hl 3 rfl) ?_
      refine lv_aload_n S.1 S.2.1 dX0_allItMay_5 rfl (lv_at hl 0 rfl) ?_
      refine xget (v := .ref (a 13)) S hK hw 12 rfl rfl inX0 0 (by decide) mfX0_12 rfl dX0_allItMay_6 ?_
      refine xget (v := .int (u.1 13 0)) S hK hw 13 rfl rfl inX9 0 (by decide) mfX0_37 rfl dX0_allItMay_9 ?_
      refine lv_icmp_ge (tgt := 36) S.1 S.2.1 dX0_allItMay_12 (by decide) (fun c_2 => ?_) (fun c_2 => ?_)
      · replace hV := hV.trans (if_pos c_2)
        have gc_2 : ((u.1 13 0)).toInt ≤ (x3_1).toInt := xq_le c_2 rfl rfl
        refine lv_iload_n S.1 S.2.1 dX0_allItMay_36 rfl (lv_at hl 2 rfl) ?_
        exact xri S hr hlk hw (congrArg (fun b => (b, u)) hV) dX0_allItMay_37
      · replace hV := hV.trans (if_neg c_2)
        have gc_2 : (x3_1).toInt < ((u.1 13 0)).toInt := xq_nle c_2 rfl rfl
        refine lv_aload_n S.1 S.2.1 dX0_allItMay_15 rfl (lv_at hl 0 rfl) ?_
        refine lv_iload_n S.1 S.2.1 dX0_allItMay_16 rfl (lv_at hl 1 rfl) ?_
        refine lv_iload_n S.1 S.2.1 dX0_allItMay_17 rfl (lv_at hl 3 rfl) ?_
        refine xci (rest := []) S hK hE hA hw yfX0_may (c_k_Hall_may l D a Y ts _ p1 x3_1 (show (0 ≤ ((u.1 13 0)).toInt ∧ ((u.1 13 0)).toInt ≤ 8) from by omega) (show (0 ≤ ((u.1 13 1)).toInt ∧ ((u.1 13 1)).toInt ≤ 6) from by omega) (show 0 ≤ (p1).toInt ∧ (p1).toInt < 6 from by omega) (show 0 ≤ (x3_1).toInt ∧ (x3_1).toInt < 8 from by omega)) 12 rfl rfl mlX0_68 rfl rfl hl.1 ⟨rfl, rfl, Nat.le_of_ble_eq_true rfl, Nat.le_of_ble_eq_true rfl, Nat.le_of_ble_eq_true rfl, Nat.zero_le _, Nat.zero_le _⟩ dX0_allItMay_18 (fun H locs hw => ?_)
        refine lv_if_eq (tgt := 30) S.1 S.2.1 dX0_allItMay_21 (by decide) (fun c_3 => ?_) (fun c_3 => ?_)
        · replace hV := hV.trans (if_pos c_3)
          have gc_3 : ((b2i (k_Hall_may u p1 x3_1))).toInt = 0 := xq_eq c_3 rfl rfl
          refine lv_iinc (v := (x3_1 + (1 : Int32))) (lv' := [(3, .int (x3_1 + (1 : Int32))), (0, .ref (a 12)), (1, .int p1), (2, .int x2_1)]) S.1 S.2.1 dX0_allItMay_30 hl (k := 3) rfl rfl (by decide) rfl (fun ls hl => ?_)
          refine lv_goto (tgt := 4) S.1 S.2.1 dX0_allItMay_33 (by decide) ?_
          have e_4 : ∀ _ : Unit, ((x3_1 + (1 : Int32))).toInt = (x3_1).toInt + 1 := fun _ => xadd rfl rfl (by omega) (by omega)
          exact ih_1 x2_1 (x3_1 + (1 : Int32)) _ _ _ (show 0 ≤ ((x3_1 + (1 : Int32))).toInt from by rw [(e_4 ())]; omega) (show ((u.1 13 0)).toInt - ((x3_1 + (1 : Int32))).toInt < (n_1 : Int) ∧ 1 ≤ n_1 from by rw [(e_4 ())]; omega) (lv_sub hl [1, 2, 3, 0] rfl) hw hV
        · replace hV := hV.trans (if_neg c_3)
          have gc_3 : ¬ ((b2i (k_Hall_may u p1 x3_1))).toInt = 0 := xq_ne c_3 rfl rfl
          refine lv_iload_n S.1 S.2.1 dX0_allItMay_24 rfl (lv_at hl 2 rfl) ?_
          refine lv_iconst (v := 1) S.1 S.2.1 dX0_allItMay_25 (by decide) ?_
          refine lv_iload_n S.1 S.2.1 dX0_allItMay_26 rfl (lv_at hl 3 rfl) ?_
          refine lv_ishl S.1 S.2.1 dX0_allItMay_27 ?_
          refine lv_ior S.1 S.2.1 dX0_allItMay_28 ?_
          refine lv_istore_n (lv' := [(2, .int (x2_1 ||| ((1 : Int32) <<< (x3_1 &&& 31)))), (0, .ref (a 12)), (1, .int p1), (3, .int x3_1)]) S.1 S.2.1 dX0_allItMay_29 rfl hl (by decide) rfl (fun ls hl => ?_)
          refine lv_iinc (v := (x3_1 + (1 : Int32))) (lv' := [(3, .int (x3_1 + (1 : Int32))), (2, .int (x2_1 ||| ((1 : Int32) <<< (x3_1 &&& 31)))), (0, .ref (a 12)), (1, .int p1)]) S.1 S.2.1 dX0_allItMay_30 hl (k := 3) rfl rfl (by decide) rfl (fun ls hl => ?_)
          refine lv_goto (tgt := 4) S.1 S.2.1 dX0_allItMay_33 (by decide) ?_
          have e_5 : ∀ _ : Unit, ((x3_1 + (1 : Int32))).toInt = (x3_1).toInt + 1 := fun _ => xadd rfl rfl (by omega) (by omega)
          exact ih_1 (x2_1 ||| ((1 : Int32) <<< (x3_1 &&& 31))) (x3_1 + (1 : Int32)) _ _ _ (show 0 ≤ ((x3_1 + (1 : Int32))).toInt from by rw [(e_5 ())]; omega) (show ((u.1 13 0)).toInt - ((x3_1 + (1 : Int32))).toInt < (n_1 : Int) ∧ 1 ≤ n_1 from by rw [(e_5 ())]; omega) (lv_sub hl [2, 3, 1, 0] rfl) hw hV
  exact lp_1 9 (0 : Int32) (0 : Int32) _ _ _ (show 0 ≤ 0 from by omega) (show ((u.1 13 0)).toInt - 0 < ((9 : Nat) : Int) ∧ 1 ≤ (9 : Nat) from by omega) (lv_sub hl [2, 3, 1, 0] rfl) hw hV
def k_Hall_whoCan_L4 (w : xU) (x1 : Int32) : Nat → Int32 → Int32 → Int32
  | 0, _, _ => 0
  | n + 1, x2, x3 =>
    (if (w.1 13 1) ≤ x3 then
    x2
    else
    (if (b2i (k_has (w.1 23 (x3).toNatClampNeg) x1)) = (0 : Int32) then
    k_Hall_whoCan_L4 w x1 n x2 (x3 + (1 : Int32))
    else
    k_Hall_whoCan_L4 w x1 n (x2 ||| ((1 : Int32) <<< (x3 &&& 31))) (x3 + (1 : Int32))))
def k_Hall_whoCan (u : xU) (p1 : Int32) : Int32 :=
    k_Hall_whoCan_L4 u p1 7 (0 : Int32) (0 : Int32)
set_option maxHeartbeats 4000000 in
set_option maxRecDepth 100000 in
theorem c_k_Hall_whoCan (l : Launch) (D : va_G) (a : Nat → Nat) (Y : Nat → ClassId) (ts : Nat → Nat) (u : xU) (p1 : Int32) (hT : (0 ≤ ((u.1 13 0)).toInt ∧ ((u.1 13 0)).toInt ≤ 8)) (hC : (0 ≤ ((u.1 13 1)).toInt ∧ ((u.1 13 1)).toInt ≤ 6)) : xMi l yX0_whoCan cX0_whoCan 4 (some .int) (xRm 1 21) D (xty Y) (wC a Y) ts [.ref (a 12), .int p1] u ((k_Hall_whoCan u p1), u) := by
  suffices h : ∀ V, V = k_Hall_whoCan u p1 → xMi l yX0_whoCan cX0_whoCan 4 (some .int) (xRm 1 21) D (xty Y) (wC a Y) ts [.ref (a 12), .int p1] u (V, u) from h _ rfl
  intro V hV
  refine xofi RX0 rfl (by decide) (Nat.le_of_ble_eq_true rfl) ?_
  intro p e s m args below meth c ls H locs A S hr hlk hl hK hE hA hw
  have hl : lv_has ls 4 [(0, .ref (a 12)), (1, .int p1)] := hl
  refine lv_iconst (v := 0) S.1 S.2.1 dX0_whoCan_0 (by decide) ?_
  refine lv_istore_n (lv' := [(2, .int (0 : Int32)), (0, .ref (a 12)), (1, .int p1)]) S.1 S.2.1 dX0_whoCan_1 rfl hl (by decide) rfl (fun ls hl => ?_)
  refine lv_iconst (v := 0) S.1 S.2.1 dX0_whoCan_2 (by decide) ?_
  refine lv_istore_n (lv' := [(3, .int (0 : Int32)), (2, .int (0 : Int32)), (0, .ref (a 12)), (1, .int p1)]) S.1 S.2.1 dX0_whoCan_3 rfl hl (by decide) rfl (fun ls hl => ?_)
  have lp_1 : ∀ (n_1 : Nat) (x2_1 : Int32) (x3_1 : Int32) (H : Heap) (locs : List Loc) (ls : Array Slot), (0 ≤ (x3_1).toInt) → (((u.1 13 1)).toInt - (x3_1).toInt < (n_1 : Int) ∧ 1 ≤ n_1) → lv_has ls 4 [(0, .ref (a 12)), (1, .int p1), (2, .int x2_1), (3, .int x3_1)] → xw D (wC a Y) A s.heap H locs u → V = k_Hall_whoCan_L4 u p1 n_1 x2_1 x3_1 → W p l e (xRm 1 21) s m args below meth c H locs 0 0 (MQ below (va_Qi (fun r v => (r, v) = (V, u)) (xPost D (wC a Y) A) A) args s 0 0 A) (F0 m 4 ls []) := by
    intro n_1
    induction n_1 with
    | zero => intro x2_1 x3_1 H locs ls i0_1 hn; exact absurd hn.2 (by decide)
    | succ n_1 ih_1 =>
      intro x2_1 x3_1 H locs ls i0_1 hn_1 hl hw hV
      refine lv_iload_n S.1 S.2.1 dX0_whoCan_4 rfl (lv_at hl 3 rfl) ?_
      refine lv_aload_n S.1 S.2.1 dX0_whoCan_5 rfl (lv_at hl 0 rfl) ?_
      refine xget (v := .ref (a 13)) S hK hw 12 rfl rfl inX0 0 (by decide) mfX0_12 rfl dX0_whoCan_6 ?_
      refine xget (v := .int (u.1 13 1)) S hK hw 13 rfl rfl inX9 1 (by decide) mfX0_41 rfl dX0_whoCan_9 ?_
      refine lv_icmp_ge (tgt := 43) S.1 S.2.1 dX0_whoCan_12 (by decide) (fun c_2 => ?_) (fun c_2 => ?_)
      · replace hV := hV.trans (if_pos c_2)
        have gc_2 : ((u.1 13 1)).toInt ≤ (x3_1).toInt := xq_le c_2 rfl rfl
        refine lv_iload_n S.1 S.2.1 dX0_whoCan_43 rfl (lv_at hl 2 rfl) ?_
        exact xri S hr hlk hw (congrArg (fun b => (b, u)) hV) dX0_whoCan_44
      · replace hV := hV.trans (if_neg c_2)
        have gc_2 : (x3_1).toInt < ((u.1 13 1)).toInt := xq_nle c_2 rfl rfl
        refine lv_aload_n S.1 S.2.1 dX0_whoCan_15 rfl (lv_at hl 0 rfl) ?_
        refine xget (v := .ref (a 21)) S hK hw 12 rfl rfl inX0 1 (by decide) mfX0_21 rfl dX0_whoCan_16 ?_
        refine xget (v := .ref (a 23)) S hK hw 21 rfl rfl inX4 3 (by decide) mfX0_59 rfl dX0_whoCan_19 ?_
        refine lv_iload_n S.1 S.2.1 dX0_whoCan_22 rfl (lv_at hl 3 rfl) ?_
        refine xald (f := u.1 23) S hK hw 23 0 rfl rfl (xvi rfl (by omega) (by omega)) dX0_whoCan_23 ?_
        refine lv_iload_n S.1 S.2.1 dX0_whoCan_24 rfl (lv_at hl 1 rfl) ?_
        refine xcPN (host := RX10) (rest := []) S hE hw yfX10_has (c_k_has l (u.1 23 (x3_1).toNatClampNeg) p1) (by decide +kernel) rfl rfl hl.1 ⟨rfl, rfl, Nat.le_of_ble_eq_true rfl, Nat.le_of_ble_eq_true rfl, Nat.le_of_ble_eq_true rfl, Nat.zero_le _, Nat.zero_le _⟩ dX0_whoCan_25 (fun H locs hw => ?_)
        refine lv_if_eq (tgt := 37) S.1 S.2.1 dX0_whoCan_28 (by decide) (fun c_3 => ?_) (fun c_3 => ?_)
        · replace hV := hV.trans (if_pos c_3)
          have gc_3 : ((b2i (k_has (u.1 23 (x3_1).toNatClampNeg) p1))).toInt = 0 := xq_eq c_3 rfl rfl
          refine lv_iinc (v := (x3_1 + (1 : Int32))) (lv' := [(3, .int (x3_1 + (1 : Int32))), (0, .ref (a 12)), (1, .int p1), (2, .int x2_1)]) S.1 S.2.1 dX0_whoCan_37 hl (k := 3) rfl rfl (by decide) rfl (fun ls hl => ?_)
          refine lv_goto (tgt := 4) S.1 S.2.1 dX0_whoCan_40 (by decide) ?_
          have e_4 : ∀ _ : Unit, ((x3_1 + (1 : Int32))).toInt = (x3_1).toInt + 1 := fun _ => xadd rfl rfl (by omega) (by omega)
          exact ih_1 x2_1 (x3_1 + (1 : Int32)) _ _ _ (show 0 ≤ ((x3_1 + (1 : Int32))).toInt from by rw [(e_4 ())]; omega) (show ((u.1 13 1)).toInt - ((x3_1 + (1 : Int32))).toInt < (n_1 : Int) ∧ 1 ≤ n_1 from by rw [(e_4 ())]; omega) (lv_sub hl [1, 2, 3, 0] rfl) hw hV
        · replace hV := hV.trans (if_neg c_3)
          have gc_3 : ¬ ((b2i (k_has (u.1 23 (x3_1).toNatClampNeg) p1))).toInt = 0 := xq_ne c_3 rfl rfl
          refine lv_iload_n S.1 S.2.1 dX0_whoCan_31 rfl (lv_at hl 2 rfl) ?_
          refine lv_iconst (v := 1) S.1 S.2.1 dX0_whoCan_32 (by decide) ?_
          refine lv_iload_n S.1 S.2.1 dX0_whoCan_33 rfl (lv_at hl 3 rfl) ?_
          refine lv_ishl S.1 S.2.1 dX0_whoCan_34 ?_
          refine lv_ior S.1 S.2.1 dX0_whoCan_35 ?_
          refine lv_istore_n (lv' := [(2, .int (x2_1 ||| ((1 : Int32) <<< (x3_1 &&& 31)))), (0, .ref (a 12)), (1, .int p1), (3, .int x3_1)]) S.1 S.2.1 dX0_whoCan_36 rfl hl (by decide) rfl (fun ls hl => ?_)
          refine lv_iinc (v := (x3_1 + (1 : Int32))) (lv' := [(3, .int (x3_1 + (1 : Int32))), (2, .int (x2_1 ||| ((1 : Int32) <<< (x3_1 &&& 31)))), (0, .ref (a 12)), (1, .int p1)]) S.1 S.2.1 dX0_whoCan_37 hl (k := 3) rfl rfl (by decide) rfl (fun ls hl => ?_)
          refine lv_goto (tgt := 4) S.1 S.2.1 dX0_whoCan_40 (by decide) ?_
          have e_5 : ∀ _ : Unit, ((x3_1 + (1 : Int32))).toInt = (x3_1).toInt + 1 := fun _ => xadd rfl rfl (by omega) (by omega)
          exact ih_1 (x2_1 ||| ((1 : Int32) <<< (x3_1 &&& 31))) (x3_1 + (1 : Int32)) _ _ _ (show 0 ≤ ((x3_1 + (1 : Int32))).toInt from by rw [(e_5 ())]; omega) (show ((u.1 13 1)).toInt - ((x3_1 + (1 : Int32))).toInt < (n_1 : Int) ∧ 1 ≤ n_1 from by rw [(e_5 ())]; omega) (lv_sub hl [2, 3, 1, 0] rfl) hw hV
  exact lp_1 7 (0 : Int32) (0 : Int32) _ _ _ (show 0 ≤ 0 from by omega) (show ((u.1 13 1)).toInt - 0 < ((7 : Nat) : Int) ∧ 1 ≤ (7 : Nat) from by omega) (lv_sub hl [2, 3, 1, 0] rfl) hw hV
def k_Hall_whoIsInClass_L4 (w : xU) : Nat → Int32 → Int32 → Int32
  | 0, _, _ => 0
  | n + 1, x1, x2 =>
    (if (w.1 13 1) ≤ x2 then
    x1
    else
    (if (w.1 26 (x2).toNatClampNeg) = (-1 : Int32) then
    k_Hall_whoIsInClass_L4 w n x1 (x2 + (1 : Int32))
    else
    k_Hall_whoIsInClass_L4 w n (x1 ||| ((1 : Int32) <<< (x2 &&& 31))) (x2 + (1 : Int32))))
def k_Hall_whoIsInClass (u : xU) : Int32 :=
    k_Hall_whoIsInClass_L4 u 7 (0 : Int32) (0 : Int32)
set_option maxHeartbeats 4000000 in
set_option maxRecDepth 100000 in
theorem c_k_Hall_whoIsInClass (l : Launch) (D : va_G) (a : Nat → Nat) (Y : Nat → ClassId) (ts : Nat → Nat) (u : xU) (hT : (0 ≤ ((u.1 13 0)).toInt ∧ ((u.1 13 0)).toInt ≤ 8)) (hC : (0 ≤ ((u.1 13 1)).toInt ∧ ((u.1 13 1)).toInt ≤ 6)) : xMi l yX0_whoIsInClass cX0_whoIsInClass 3 (some .int) (xRm 0 0) D (xty Y) (wC a Y) ts [.ref (a 12)] u ((k_Hall_whoIsInClass u), u) := by
  suffices h : ∀ V, V = k_Hall_whoIsInClass u → xMi l yX0_whoIsInClass cX0_whoIsInClass 3 (some .int) (xRm 0 0) D (xty Y) (wC a Y) ts [.ref (a 12)] u (V, u) from h _ rfl
  intro V hV
  refine xofi RX0 rfl (by decide) (Nat.le_of_ble_eq_true rfl) ?_
  intro p e s m args below meth c ls H locs A S hr hlk hl hK hE hA hw
  have hl : lv_has ls 3 [(0, .ref (a 12))] := hl
  refine lv_iconst (v := 0) S.1 S.2.1 dX0_whoIsInClass_0 (by decide) ?_
  refine lv_istore_n (lv' := [(1, .int (0 : Int32)), (0, .ref (a 12))]) S.1 S.2.1 dX0_whoIsInClass_1 rfl hl (by decide) rfl (fun ls hl => ?_)
  refine lv_iconst (v := 0) S.1 S.2.1 dX0_whoIsInClass_2 (by decide) ?_
  refine lv_istore_n (lv' := [(2, .int (0 : Int32)), (1, .int (0 : Int32)), (0, .ref (a 12))]) S.1 S.2.1 dX0_whoIsInClass_3 rfl hl (by decide) rfl (fun ls hl => ?_)
  have lp_1 : ∀ (n_1 : Nat) (x1_1 : Int32) (x2_1 : Int32) (H : Heap) (locs : List Loc) (ls : Array Slot), (0 ≤ (x2_1).toInt) → (((u.1 13 1)).toInt - (x2_1).toInt < (n_1 : Int) ∧ 1 ≤ n_1) → lv_has ls 3 [(0, .ref (a 12)), (1, .int x1_1), (2, .int x2_1)] → xw D (wC a Y) A s.heap H locs u → V = k_Hall_whoIsInClass_L4 u n_1 x1_1 x2_1 → W p l e (xRm 0 0) s m args below meth c H locs 0 0 (MQ below (va_Qi (fun r v => (r, v) = (V, u)) (xPost D (wC a Y) A) A) args s 0 0 A) (F0 m 4 ls []) := by
    intro n_1
    induction n_1 with
    | zero => intro x1_1 x2_1 H locs ls i0_1 hn; exact absurd hn.2 (by decide)
    | succ n_1 ih_1 =>
      intro x1_1 x2_1 H locs ls i0_1 hn_1 hl hw hV
      refine lv_iload_n S.1 S.2.1 dX0_whoIsInClass_4 rfl (lv_at hl 2 rfl) ?_
      refine lv_aload_n S.1 S.2.1 dX0_whoIsInClass_5 rfl (lv_at hl 0 rfl) ?_
      refine xget (v := .ref (a 13)) S hK hw 12 rfl rfl inX0 0 (by decide) mfX0_12 rfl dX0_whoIsInClass_6 ?_
      refine xget (v := .int (u.1 13 1)) S hK hw 13 rfl rfl inX9 1 (by decide) mfX0_41 rfl dX0_whoIsInClass_9 ?_
      refine lv_icmp_ge (tgt := 40) S.1 S.2.1 dX0_whoIsInClass_12 (by decide) (fun c_2 => ?_) (fun c_2 => ?_)
      · replace hV := hV.trans (if_pos c_2)
        have gc_2 : ((u.1 13 1)).toInt ≤ (x2_1).toInt := xq_le c_2 rfl rfl
        refine lv_iload_n S.1 S.2.1 dX0_whoIsInClass_40 rfl (lv_at hl 1 rfl) ?_
        exact xri S hr hlk hw (congrArg (fun b => (b, u)) hV) dX0_whoIsInClass_41
      · replace hV := hV.trans (if_neg c_2)
        have gc_2 : (x2_1).toInt < ((u.1 13 1)).toInt := xq_nle c_2 rfl rfl
        refine lv_aload_n S.1 S.2.1 dX0_whoIsInClass_15 rfl (lv_at hl 0 rfl) ?_
        refine xget (v := .ref (a 21)) S hK hw 12 rfl rfl inX0 1 (by decide) mfX0_21 rfl dX0_whoIsInClass_16 ?_
        refine xget (v := .ref (a 26)) S hK hw 21 rfl rfl inX4 6 (by decide) mfX0_71 rfl dX0_whoIsInClass_19 ?_
        refine lv_iload_n S.1 S.2.1 dX0_whoIsInClass_22 rfl (lv_at hl 2 rfl) ?_
        refine xald (f := u.1 26) S hK hw 26 0 rfl rfl (xvi rfl (by omega) (by omega)) dX0_whoIsInClass_23 ?_
        refine lv_iconst (v := -1) S.1 S.2.1 dX0_whoIsInClass_24 (by decide) ?_
        refine lv_icmp_eq (tgt := 34) S.1 S.2.1 dX0_whoIsInClass_25 (by decide) (fun c_3 => ?_) (fun c_3 => ?_)
        · replace hV := hV.trans (if_pos c_3)
          have gc_3 : ((u.1 26 (x2_1).toNatClampNeg)).toInt = (-1) := xq_eq c_3 rfl rfl
          refine lv_iinc (v := (x2_1 + (1 : Int32))) (lv' := [(2, .int (x2_1 + (1 : Int32))), (0, .ref (a 12)), (1, .int x1_1)]) S.1 S.2.1 dX0_whoIsInClass_34 hl (k := 2) rfl rfl (by decide) rfl (fun ls hl => ?_)
          refine lv_goto (tgt := 4) S.1 S.2.1 dX0_whoIsInClass_37 (by decide) ?_
          have e_4 : ∀ _ : Unit, ((x2_1 + (1 : Int32))).toInt = (x2_1).toInt + 1 := fun _ => xadd rfl rfl (by omega) (by omega)
          exact ih_1 x1_1 (x2_1 + (1 : Int32)) _ _ _ (show 0 ≤ ((x2_1 + (1 : Int32))).toInt from by rw [(e_4 ())]; omega) (show ((u.1 13 1)).toInt - ((x2_1 + (1 : Int32))).toInt < (n_1 : Int) ∧ 1 ≤ n_1 from by rw [(e_4 ())]; omega) (lv_sub hl [1, 2, 0] rfl) hw hV
        · replace hV := hV.trans (if_neg c_3)
          have gc_3 : ¬ ((u.1 26 (x2_1).toNatClampNeg)).toInt = (-1) := xq_ne c_3 rfl rfl
          refine lv_iload_n S.1 S.2.1 dX0_whoIsInClass_28 rfl (lv_at hl 1 rfl) ?_
          refine lv_iconst (v := 1) S.1 S.2.1 dX0_whoIsInClass_29 (by decide) ?_
          refine lv_iload_n S.1 S.2.1 dX0_whoIsInClass_30 rfl (lv_at hl 2 rfl) ?_
          refine lv_ishl S.1 S.2.1 dX0_whoIsInClass_31 ?_
          refine lv_ior S.1 S.2.1 dX0_whoIsInClass_32 ?_
          refine lv_istore_n (lv' := [(1, .int (x1_1 ||| ((1 : Int32) <<< (x2_1 &&& 31)))), (0, .ref (a 12)), (2, .int x2_1)]) S.1 S.2.1 dX0_whoIsInClass_33 rfl hl (by decide) rfl (fun ls hl => ?_)
          refine lv_iinc (v := (x2_1 + (1 : Int32))) (lv' := [(2, .int (x2_1 + (1 : Int32))), (1, .int (x1_1 ||| ((1 : Int32) <<< (x2_1 &&& 31)))), (0, .ref (a 12))]) S.1 S.2.1 dX0_whoIsInClass_34 hl (k := 2) rfl rfl (by decide) rfl (fun ls hl => ?_)
          refine lv_goto (tgt := 4) S.1 S.2.1 dX0_whoIsInClass_37 (by decide) ?_
          have e_5 : ∀ _ : Unit, ((x2_1 + (1 : Int32))).toInt = (x2_1).toInt + 1 := fun _ => xadd rfl rfl (by omega) (by omega)
          exact ih_1 (x1_1 ||| ((1 : Int32) <<< (x2_1 &&& 31))) (x2_1 + (1 : Int32)) _ _ _ (show 0 ≤ ((x2_1 + (1 : Int32))).toInt from by rw [(e_5 ())]; omega) (show ((u.1 13 1)).toInt - ((x2_1 + (1 : Int32))).toInt < (n_1 : Int) ∧ 1 ≤ n_1 from by rw [(e_5 ())]; omega) (lv_sub hl [2, 1, 0] rfl) hw hV
  exact lp_1 7 (0 : Int32) (0 : Int32) _ _ _ (show 0 ≤ 0 from by omega) (show ((u.1 13 1)).toInt - 0 < ((7 : Nat) : Int) ∧ 1 ≤ (7 : Nat) from by omega) (lv_sub hl [2, 1, 0] rfl) hw hV
def k_Hall_learntByAll_L4 (w : xU) : Nat → Int32 → Int32 → Int32
  | 0, _, _ => 0
  | n + 1, x1, x2 =>
    (if (w.1 13 1) ≤ x2 then
    x1
    else
    let t_3 := (x1 + (j_bitCount (w.1 23 (x2).toNatClampNeg)))
    k_Hall_learntByAll_L4 w n t_3 (x2 + (1 : Int32)))
def k_Hall_learntByAll (u : xU) : Int32 :=
    k_Hall_learntByAll_L4 u 7 (0 : Int32) (0 : Int32)
set_option maxHeartbeats 4000000 in
set_option maxRecDepth 100000 in
theorem c_k_Hall_learntByAll (l : Launch) (D : va_G) (a : Nat → Nat) (Y : Nat → ClassId) (ts : Nat → Nat) (u : xU) (hT : (0 ≤ ((u.1 13 0)).toInt ∧ ((u.1 13 0)).toInt ≤ 8)) (hC : (0 ≤ ((u.1 13 1)).toInt ∧ ((u.1 13 1)).toInt ≤ 6)) : xMi l yX0_learntByAll cX0_learntByAll 3 (some .int) (xRm 1 20) D (xty Y) (wC a Y) ts [.ref (a 12)] u ((k_Hall_learntByAll u), u) := by
  suffices h : ∀ V, V = k_Hall_learntByAll u → xMi l yX0_learntByAll cX0_learntByAll 3 (some .int) (xRm 1 20) D (xty Y) (wC a Y) ts [.ref (a 12)] u (V, u) from h _ rfl
  intro V hV
  refine xofi RX0 rfl (by decide) (Nat.le_of_ble_eq_true rfl) ?_
  intro p e s m args below meth c ls H locs A S hr hlk hl hK hE hA hw
  have hl : lv_has ls 3 [(0, .ref (a 12))] := hl
  refine lv_iconst (v := 0) S.1 S.2.1 dX0_learntByAll_0 (by decide) ?_
  refine lv_istore_n (lv' := [(1, .int (0 : Int32)), (0, .ref (a 12))]) S.1 S.2.1 dX0_learntByAll_1 rfl hl (by decide) rfl (fun ls hl => ?_)
  refine lv_iconst (v := 0) S.1 S.2.1 dX0_learntByAll_2 (by decide) ?_
  refine lv_istore_n (lv' := [(2, .int (0 : Int32)), (1, .int (0 : Int32)), (0, .ref (a 12))]) S.1 S.2.1 dX0_learntByAll_3 rfl hl (by decide) rfl (fun ls hl => ?_)
  have lp_1 : ∀ (n_1 : Nat) (x1_1 : Int32) (x2_1 : Int32) (H : Heap) (locs : List Loc) (ls : Array Slot), (0 ≤ (x2_1).toInt) → (((u.1 13 1)).toInt - (x2_1).toInt < (n_1 : Int) ∧ 1 ≤ n_1) → lv_has ls 3 [(0, .ref (a 12)), (1, .int x1_1), (2, .int x2_1)] → xw D (wC a Y) A s.heap H locs u → V = k_Hall_learntByAll_L4 u n_1 x1_1 x2_1 → W p l e (xRm 1 20) s m args below meth c H locs 0 0 (MQ below (va_Qi (fun r v => (r, v) = (V, u)) (xPost D (wC a Y) A) A) args s 0 0 A) (F0 m 4 ls []) := by
    intro n_1
    induction n_1 with
    | zero => intro x1_1 x2_1 H locs ls i0_1 hn; exact absurd hn.2 (by decide)
    | succ n_1 ih_1 =>
      intro x1_1 x2_1 H locs ls i0_1 hn_1 hl hw hV
      refine lv_iload_n S.1 S.2.1 dX0_learntByAll_4 rfl (lv_at hl 2 rfl) ?_
      refine lv_aload_n S.1 S.2.1 dX0_learntByAll_5 rfl (lv_at hl 0 rfl) ?_
      refine xget (v := .ref (a 13)) S hK hw 12 rfl rfl inX0 0 (by decide) mfX0_12 rfl dX0_learntByAll_6 ?_
      refine xget (v := .int (u.1 13 1)) S hK hw 13 rfl rfl inX9 1 (by decide) mfX0_41 rfl dX0_learntByAll_9 ?_
      refine lv_icmp_ge (tgt := 36) S.1 S.2.1 dX0_learntByAll_12 (by decide) (fun c_2 => ?_) (fun c_2 => ?_)
      · replace hV := hV.trans (if_pos c_2)
        have gc_2 : ((u.1 13 1)).toInt ≤ (x2_1).toInt := xq_le c_2 rfl rfl
        refine lv_iload_n S.1 S.2.1 dX0_learntByAll_36 rfl (lv_at hl 1 rfl) ?_
        exact xri S hr hlk hw (congrArg (fun b => (b, u)) hV) dX0_learntByAll_37
      · replace hV := hV.trans (if_neg c_2)
        have gc_2 : (x2_1).toInt < ((u.1 13 1)).toInt := xq_nle c_2 rfl rfl
        refine lv_iload_n S.1 S.2.1 dX0_learntByAll_15 rfl (lv_at hl 1 rfl) ?_
        refine lv_aload_n S.1 S.2.1 dX0_learntByAll_16 rfl (lv_at hl 0 rfl) ?_
        refine xget (v := .ref (a 21)) S hK hw 12 rfl rfl inX0 1 (by decide) mfX0_21 rfl dX0_learntByAll_17 ?_
        refine xget (v := .ref (a 23)) S hK hw 21 rfl rfl inX4 3 (by decide) mfX0_59 rfl dX0_learntByAll_20 ?_
        refine lv_iload_n S.1 S.2.1 dX0_learntByAll_23 rfl (lv_at hl 2 rfl) ?_
        refine xald (f := u.1 23) S hK hw 23 0 rfl rfl (xvi rfl (by omega) (by omega)) dX0_learntByAll_24 ?_
        refine xcP (rest := [.int x1_1]) S hw yfJ6_bitCount_0f7a4 (c_j_bitCount l (u.1 23 (x2_1).toNatClampNeg)) mlX0_74 rfl rfl hl.1 ⟨rfl, rfl, Nat.le_of_ble_eq_true rfl, Nat.le_of_ble_eq_true rfl, Nat.le_of_ble_eq_true rfl, Nat.zero_le _, Nat.zero_le _⟩ dX0_learntByAll_25 (fun H locs hw => ?_)
        refine lv_iadd S.1 S.2.1 dX0_learntByAll_28 ?_
        refine lv_istore_n (lv' := [(1, .int (x1_1 + (j_bitCount (u.1 23 (x2_1).toNatClampNeg)))), (0, .ref (a 12)), (2, .int x2_1)]) S.1 S.2.1 dX0_learntByAll_29 rfl hl (by decide) rfl (fun ls hl => ?_)
        refine lv_iinc (v := (x2_1 + (1 : Int32))) (lv' := [(2, .int (x2_1 + (1 : Int32))), (1, .int (x1_1 + (j_bitCount (u.1 23 (x2_1).toNatClampNeg)))), (0, .ref (a 12))]) S.1 S.2.1 dX0_learntByAll_30 hl (k := 2) rfl rfl (by decide) rfl (fun ls hl => ?_)
        refine lv_goto (tgt := 4) S.1 S.2.1 dX0_learntByAll_33 (by decide) ?_
        have e_4 : ∀ _ : Unit, ((x2_1 + (1 : Int32))).toInt = (x2_1).toInt + 1 := fun _ => xadd rfl rfl (by omega) (by omega)
        exact ih_1 (x1_1 + (j_bitCount (u.1 23 (x2_1).toNatClampNeg))) (x2_1 + (1 : Int32)) _ _ _ (show 0 ≤ ((x2_1 + (1 : Int32))).toInt from by rw [(e_4 ())]; omega) (show ((u.1 13 1)).toInt - ((x2_1 + (1 : Int32))).toInt < (n_1 : Int) ∧ 1 ≤ n_1 from by rw [(e_4 ())]; omega) (lv_sub hl [2, 1, 0] rfl) hw hV
  exact lp_1 7 (0 : Int32) (0 : Int32) _ _ _ (show 0 ≤ 0 from by omega) (show ((u.1 13 1)).toInt - 0 < ((7 : Nat) : Int) ∧ 1 ≤ (7 : Nat) from by omega) (lv_sub hl [2, 1, 0] rfl) hw hV
def k_Hall_unlikeParts (u : xU) (p1 : Int32) (p2 : Int32) : Int32 :=
    (j_bitCount ((u.1 24 (p1).toNatClampNeg) ^^^ (u.1 24 (p2).toNatClampNeg)))
set_option maxHeartbeats 4000000 in
set_option maxRecDepth 100000 in
theorem c_k_Hall_unlikeParts (l : Launch) (D : va_G) (a : Nat → Nat) (Y : Nat → ClassId) (ts : Nat → Nat) (u : xU) (p1 : Int32) (p2 : Int32) (hT : (0 ≤ ((u.1 13 0)).toInt ∧ ((u.1 13 0)).toInt ≤ 8)) (hC : (0 ≤ ((u.1 13 1)).toInt ∧ ((u.1 13 1)).toInt ≤ 6)) (hp0 : 0 ≤ (p1).toInt ∧ (p1).toInt < 6) (hp1 : 0 ≤ (p2).toInt ∧ (p2).toInt < 6) : xMi l yX0_unlikeParts cX0_unlikeParts 3 (some .int) (xRm 1 20) D (xty Y) (wC a Y) ts [.ref (a 12), .int p1, .int p2] u ((k_Hall_unlikeParts u p1 p2), u) := by
  suffices h : ∀ V, V = k_Hall_unlikeParts u p1 p2 → xMi l yX0_unlikeParts cX0_unlikeParts 3 (some .int) (xRm 1 20) D (xty Y) (wC a Y) ts [.ref (a 12), .int p1, .int p2] u (V, u) from h _ rfl
  intro V hV
  refine xofi RX0 rfl (by decide) (Nat.le_of_ble_eq_true rfl) ?_
  intro p e s m args below meth c ls H locs A S hr hlk hl hK hE hA hw
  have hl : lv_has ls 3 [(0, .ref (a 12)), (1, .int p1), (2, .int p2)] := hl
  refine lv_aload_n S.1 S.2.1 dX0_unlikeParts_0 rfl (lv_at hl 0 rfl) ?_
  refine xget (v := .ref (a 21)) S hK hw 12 rfl rfl inX0 1 (by decide) mfX0_21 rfl dX0_unlikeParts_1 ?_
  refine xget (v := .ref (a 24)) S hK hw 21 rfl rfl inX4 4 (by decide) mfX0_51 rfl dX0_unlikeParts_4 ?_
  refine lv_iload_n S.1 S.2.1 dX0_unlikeParts_7 rfl (lv_at hl 1 rfl) ?_
  refine xald (f := u.1 24) S hK hw 24 0 rfl rfl (xvi rfl (by omega) (by omega)) dX0_unlikeParts_8 ?_
  refine lv_aload_n S.1 S.2.1 dX0_unlikeParts_9 rfl (lv_at hl 0 rfl) ?_
  refine xget (v := .ref (a 21)) S hK hw 12 rfl rfl inX0 1 (by decide) mfX0_21 rfl dX0_unlikeParts_10 ?_
  refine xget (v := .ref (a 24)) S hK hw 21 rfl rfl inX4 4 (by decide) mfX0_51 rfl dX0_unlikeParts_13 ?_
  refine lv_iload_n S.1 S.2.1 dX0_unlikeParts_16 rfl (lv_at hl 2 rfl) ?_
  refine xald (f := u.1 24) S hK hw 24 0 rfl rfl (xvi rfl (by omega) (by omega)) dX0_unlikeParts_17 ?_
  refine lv_ixor S.1 S.2.1 dX0_unlikeParts_18 ?_
  refine xcP (rest := []) S hw yfJ6_bitCount_0f7a4 (c_j_bitCount l ((u.1 24 (p1).toNatClampNeg) ^^^ (u.1 24 (p2).toNatClampNeg))) mlX0_74 rfl rfl hl.1 ⟨rfl, rfl, Nat.le_of_ble_eq_true rfl, Nat.le_of_ble_eq_true rfl, Nat.le_of_ble_eq_true rfl, Nat.zero_le _, Nat.zero_le _⟩ dX0_unlikeParts_19 (fun H locs hw => ?_)
  exact xri S hr hlk hw (congrArg (fun b => (b, u)) hV) dX0_unlikeParts_22
def k_Hall_stepTo_L6 (w : xU) (x1 : Int32) (x2 : Int32) : Nat → Int32 → Int32 → Int32
  | 0, _, _ => 0
  | n + 1, x3, x4 =>
    (if (w.1 13 1) ≤ x4 then
    x3
    else
    (if (b2i (k_has x2 x4)) = (0 : Int32) then
    k_Hall_stepTo_L6 w x1 x2 n x3 (x4 + (1 : Int32))
    else
    let t_5 := (if (k_Hall_unlikeParts w x1 x4) < x3 then (k_Hall_unlikeParts w x1 x4) else x3)
    k_Hall_stepTo_L6 w x1 x2 n t_5 (x4 + (1 : Int32))))
def k_Hall_stepTo (u : xU) (p1 : Int32) (p2 : Int32) : Int32 :=
    k_Hall_stepTo_L6 u p1 p2 7 (6 : Int32) (0 : Int32)
set_option maxHeartbeats 4000000 in
set_option maxRecDepth 100000 in
theorem c_k_Hall_stepTo (l : Launch) (D : va_G) (a : Nat → Nat) (Y : Nat → ClassId) (ts : Nat → Nat) (u : xU) (p1 : Int32) (p2 : Int32) (hT : (0 ≤ ((u.1 13 0)).toInt ∧ ((u.1 13 0)).toInt ≤ 8)) (hC : (0 ≤ ((u.1 13 1)).toInt ∧ ((u.1 13 1)).toInt ≤ 6)) (hp0 : 0 ≤ (p1).toInt ∧ (p1).toInt < 6) : xMi l yX0_stepTo cX0_stepTo 5 (some .int) (xRm 2 42) D (xty Y) (wC a Y) ts [.ref (a 12), .int p1, .int p2] u ((k_Hall_stepTo u p1 p2), u) := by
  suffices h : ∀ V, V = k_Hall_stepTo u p1 p2 → xMi l yX0_stepTo cX0_stepTo 5 (some .int) (xRm 2 42) D (xty Y) (wC a Y) ts [.ref (a 12), .int p1, .int p2] u (V, u) from h _ rfl
  intro V hV
  refine xofi RX0 rfl (by decide) (Nat.le_of_ble_eq_true rfl) ?_
  intro p e s m args below meth c ls H locs A S hr hlk hl hK hE hA hw
  have hl : lv_has ls 5 [(0, .ref (a 12)), (1, .int p1), (2, .int p2)] := hl
  refine lv_bipush (v := 6) S.1 S.2.1 dX0_stepTo_0 (by decide) ?_
  refine lv_istore_n (lv' := [(3, .int (6 : Int32)), (0, .ref (a 12)), (1, .int p1), (2, .int p2)]) S.1 S.2.1 dX0_stepTo_2 rfl hl (by decide) rfl (fun ls hl => ?_)
  refine lv_iconst (v := 0) S.1 S.2.1 dX0_stepTo_3 (by decide) ?_
  refine lv_istore (lv' := [(4, .int (0 : Int32)), (3, .int (6 : Int32)), (0, .ref (a 12)), (1, .int p1), (2, .int p2)]) S.1 S.2.1 dX0_stepTo_4 hl (by decide) rfl (fun ls hl => ?_)
  have lp_1 : ∀ (n_1 : Nat) (x3_1 : Int32) (x4_1 : Int32) (H : Heap) (locs : List Loc) (ls : Array Slot), (0 ≤ (x4_1).toInt) → (((u.1 13 1)).toInt - (x4_1).toInt < (n_1 : Int) ∧ 1 ≤ n_1) → lv_has ls 5 [(0, .ref (a 12)), (1, .int p1), (2, .int p2), (3, .int x3_1), (4, .int x4_1)] → xw D (wC a Y) A s.heap H locs u → V = k_Hall_stepTo_L6 u p1 p2 n_1 x3_1 x4_1 → W p l e (xRm 2 42) s m args below meth c H locs 0 0 (MQ below (va_Qi (fun r v => (r, v) = (V, u)) (xPost D (wC a Y) A) A) args s 0 0 A) (F0 m 6 ls []) := by
    intro n_1
    induction n_1 with
    | zero => intro x3_1 x4_1 H locs ls i0_1 hn; exact absurd hn.2 (by decide)
    | succ n_1 ih_1 =>
      intro x3_1 x4_1 H locs ls i0_1 hn_1 hl hw hV
      refine lv_iload S.1 S.2.1 dX0_stepTo_6 (lv_at hl 4 rfl) ?_
      refine lv_aload_n S.1 S.2.1 dX0_stepTo_8 rfl (lv_at hl 0 rfl) ?_
      refine xget (v := .ref (a 13)) S hK hw 12 rfl rfl inX0 0 (by decide) mfX0_12 rfl dX0_stepTo_9 ?_
      refine xget (v := .int (u.1 13 1)) S hK hw 13 rfl rfl inX9 1 (by decide) mfX0_41 rfl dX0_stepTo_12 ?_
      refine lv_icmp_ge (tgt := 45) S.1 S.2.1 dX0_stepTo_15 (by decide) (fun c_2 => ?_) (fun c_2 => ?_)
      · replace hV := hV.trans (if_pos c_2)
        have gc_2 : ((u.1 13 1)).toInt ≤ (x4_1).toInt := xq_le c_2 rfl rfl
        refine lv_iload_n S.1 S.2.1 dX0_stepTo_45 rfl (lv_at hl 3 rfl) ?_
        exact xri S hr hlk hw (congrArg (fun b => (b, u)) hV) dX0_stepTo_46
      · replace hV := hV.trans (if_neg c_2)
        have gc_2 : (x4_1).toInt < ((u.1 13 1)).toInt := xq_nle c_2 rfl rfl
        refine lv_iload_n S.1 S.2.1 dX0_stepTo_18 rfl (lv_at hl 2 rfl) ?_
        refine lv_iload S.1 S.2.1 dX0_stepTo_19 (lv_at hl 4 rfl) ?_
        refine xcPN (host := RX10) (rest := []) S hE hw yfX10_has (c_k_has l p2 x4_1) (by decide +kernel) rfl rfl hl.1 ⟨rfl, rfl, Nat.le_of_ble_eq_true rfl, Nat.le_of_ble_eq_true rfl, Nat.le_of_ble_eq_true rfl, Nat.zero_le _, Nat.zero_le _⟩ dX0_stepTo_21 (fun H locs hw => ?_)
        refine lv_if_eq (tgt := 39) S.1 S.2.1 dX0_stepTo_24 (by decide) (fun c_3 => ?_) (fun c_3 => ?_)
        · replace hV := hV.trans (if_pos c_3)
          have gc_3 : ((b2i (k_has p2 x4_1))).toInt = 0 := xq_eq c_3 rfl rfl
          refine lv_iinc (v := (x4_1 + (1 : Int32))) (lv' := [(4, .int (x4_1 + (1 : Int32))), (0, .ref (a 12)), (1, .int p1), (2, .int p2), (3, .int x3_1)]) S.1 S.2.1 dX0_stepTo_39 hl (k := 4) rfl rfl (by decide) rfl (fun ls hl => ?_)
          refine lv_goto (tgt := 6) S.1 S.2.1 dX0_stepTo_42 (by decide) ?_
          have e_4 : ∀ _ : Unit, ((x4_1 + (1 : Int32))).toInt = (x4_1).toInt + 1 := fun _ => xadd rfl rfl (by omega) (by omega)
          exact ih_1 x3_1 (x4_1 + (1 : Int32)) _ _ _ (show 0 ≤ ((x4_1 + (1 : Int32))).toInt from by rw [(e_4 ())]; omega) (show ((u.1 13 1)).toInt - ((x4_1 + (1 : Int32))).toInt < (n_1 : Int) ∧ 1 ≤ n_1 from by rw [(e_4 ())]; omega) (lv_sub hl [1, 2, 3, 4, 0] rfl) hw hV
        · replace hV := hV.trans (if_neg c_3)
          have gc_3 : ¬ ((b2i (k_has p2 x4_1))).toInt = 0 := xq_ne c_3 rfl rfl
          refine lv_iload_n S.1 S.2.1 dX0_stepTo_27 rfl (lv_at hl 3 rfl) ?_
          refine lv_aload_n S.1 S.2.1 dX0_stepTo_28 rfl (lv_at hl 0 rfl) ?_
          refine lv_iload_n S.1 S.2.1 dX0_stepTo_29 rfl (lv_at hl 1 rfl) ?_
          refine lv_iload S.1 S.2.1 dX0_stepTo_30 (lv_at hl 4 rfl) ?_
          refine xci (rest := [.int x3_1]) S hK hE hA hw yfX0_unlikeParts (c_k_Hall_unlikeParts l D a Y ts _ p1 x4_1 (show (0 ≤ ((u.1 13 0)).toInt ∧ ((u.1 13 0)).toInt ≤ 8) from by omega) (show (0 ≤ ((u.1 13 1)).toInt ∧ ((u.1 13 1)).toInt ≤ 6) from by omega) (show 0 ≤ (p1).toInt ∧ (p1).toInt < 6 from by omega) (show 0 ≤ (x4_1).toInt ∧ (x4_1).toInt < 6 from by omega)) 12 rfl rfl mlX0_109 rfl rfl hl.1 ⟨rfl, rfl, Nat.le_of_ble_eq_true rfl, Nat.le_of_ble_eq_true rfl, Nat.le_of_ble_eq_true rfl, Nat.zero_le _, Nat.zero_le _⟩ dX0_stepTo_32 (fun H locs hw => ?_)
          refine xmin S hl.1 mlX0_112 mmin_st math_in mmin_cd ⟨Nat.le_of_ble_eq_true rfl, Nat.le_of_ble_eq_true rfl, Nat.zero_le _, Nat.zero_le _⟩ dX0_stepTo_35 ?_
          refine lv_istore_n (lv' := [(3, .int (if (k_Hall_unlikeParts u p1 x4_1) < x3_1 then (k_Hall_unlikeParts u p1 x4_1) else x3_1)), (0, .ref (a 12)), (1, .int p1), (2, .int p2), (4, .int x4_1)]) S.1 S.2.1 dX0_stepTo_38 rfl hl (by decide) rfl (fun ls hl => ?_)
          refine lv_iinc (v := (x4_1 + (1 : Int32))) (lv' := [(4, .int (x4_1 + (1 : Int32))), (3, .int (if (k_Hall_unlikeParts u p1 x4_1) < x3_1 then (k_Hall_unlikeParts u p1 x4_1) else x3_1)), (0, .ref (a 12)), (1, .int p1), (2, .int p2)]) S.1 S.2.1 dX0_stepTo_39 hl (k := 4) rfl rfl (by decide) rfl (fun ls hl => ?_)
          refine lv_goto (tgt := 6) S.1 S.2.1 dX0_stepTo_42 (by decide) ?_
          have e_6 : ∀ _ : Unit, ((x4_1 + (1 : Int32))).toInt = (x4_1).toInt + 1 := fun _ => xadd rfl rfl (by omega) (by omega)
          exact ih_1 (if (k_Hall_unlikeParts u p1 x4_1) < x3_1 then (k_Hall_unlikeParts u p1 x4_1) else x3_1) (x4_1 + (1 : Int32)) _ _ _ (show 0 ≤ ((x4_1 + (1 : Int32))).toInt from by rw [(e_6 ())]; omega) (show ((u.1 13 1)).toInt - ((x4_1 + (1 : Int32))).toInt < (n_1 : Int) ∧ 1 ≤ n_1 from by rw [(e_6 ())]; omega) (lv_sub hl [2, 3, 4, 1, 0] rfl) hw hV
  exact lp_1 7 (6 : Int32) (0 : Int32) _ _ _ (show 0 ≤ 0 from by omega) (show ((u.1 13 1)).toInt - 0 < ((7 : Nat) : Int) ∧ 1 ≤ (7 : Nat) from by omega) (lv_sub hl [2, 3, 4, 1, 0] rfl) hw hV
def k_Hall_leastTree_L27 (kk : Int32 → Int32 → Int32 → Int32) (w : xU) (x1 : Int32) (x2 : Int32) (x3 : Int32) : Nat → Int32 → Int32 → Int32 → Int32
  | 0, _, _, _ => 0
  | n + 1, x4, x5, x6 =>
    (if (w.1 13 1) ≤ x6 then
    kk (x1 + x5) (x2 ||| ((1 : Int32) <<< (x4 &&& 31))) (x3 + (1 : Int32))
    else
    (if (b2i (k_has x2 x6)) = (0 : Int32) then
    (if x5 ≤ (k_Hall_stepTo w x6 x2) then
    k_Hall_leastTree_L27 kk w x1 x2 x3 n x4 x5 (x6 + (1 : Int32))
    else
    k_Hall_leastTree_L27 kk w x1 x2 x3 n x6 (k_Hall_stepTo w x6 x2) (x6 + (1 : Int32)))
    else
    k_Hall_leastTree_L27 kk w x1 x2 x3 n x4 x5 (x6 + (1 : Int32))))
def k_Hall_leastTree_L6 (w : xU) : Nat → Int32 → Int32 → Int32 → Int32
  | 0, _, _, _ => 0
  | n + 1, x1, x2, x3 =>
    (if (w.1 13 1) ≤ x3 then
    x1
    else
    k_Hall_leastTree_L27 (fun (z1 : Int32) (z2 : Int32) (z3 : Int32) => k_Hall_leastTree_L6 w n z1 z2 z3) w x1 x2 x3 7 (0 : Int32) (7 : Int32) (1 : Int32))
def k_Hall_leastTree (u : xU) : Int32 :=
    k_Hall_leastTree_L6 u 7 (0 : Int32) (1 : Int32) (1 : Int32)
set_option maxHeartbeats 4000000 in
set_option maxRecDepth 100000 in
theorem c_k_Hall_leastTree (l : Launch) (D : va_G) (a : Nat → Nat) (Y : Nat → ClassId) (ts : Nat → Nat) (u : xU) (hT : (0 ≤ ((u.1 13 0)).toInt ∧ ((u.1 13 0)).toInt ≤ 8)) (hC : (0 ≤ ((u.1 13 1)).toInt ∧ ((u.1 13 1)).toInt ≤ 6)) : xMi l yX0_leastTree cX0_leastTree 7 (some .int) (xRm 3 66) D (xty Y) (wC a Y) ts [.ref (a 12)] u ((k_Hall_leastTree u), u) := by
  suffices h : ∀ V, V = k_Hall_leastTree u → xMi l yX0_leastTree cX0_leastTree 7 (some .int) (xRm 3 66) D (xty Y) (wC a Y) ts [.ref (a 12)] u (V, u) from h _ rfl
  intro V hV
  refine xofi RX0 rfl (by decide) (Nat.le_of_ble_eq_true rfl) ?_
  intro p e s m args below meth c ls H locs A S hr hlk hl hK hE hA hw
  have hl : lv_has ls 7 [(0, .ref (a 12))] := hl
  refine lv_iconst (v := 0) S.1 S.2.1 dX0_leastTree_0 (by decide) ?_
  refine lv_istore_n (lv' := [(1, .int (0 : Int32)), (0, .ref (a 12))]) S.1 S.2.1 dX0_leastTree_1 rfl hl (by decide) rfl (fun ls hl => ?_)
  refine lv_iconst (v := 1) S.1 S.2.1 dX0_leastTree_2 (by decide) ?_
  refine lv_istore_n (lv' := [(2, .int (1 : Int32)), (1, .int (0 : Int32)), (0, .ref (a 12))]) S.1 S.2.1 dX0_leastTree_3 rfl hl (by decide) rfl (fun ls hl => ?_)
  refine lv_iconst (v := 1) S.1 S.2.1 dX0_leastTree_4 (by decide) ?_
  refine lv_istore_n (lv' := [(3, .int (1 : Int32)), (2, .int (1 : Int32)), (1, .int (0 : Int32)), (0, .ref (a 12))]) S.1 S.2.1 dX0_leastTree_5 rfl hl (by decide) rfl (fun ls hl => ?_)
  have lp_1 : ∀ (n_1 : Nat) (x1_1 : Int32) (x2_1 : Int32) (x3_1 : Int32) (H : Heap) (locs : List Loc) (ls : Array Slot), (0 ≤ (x3_1).toInt) → (((u.1 13 1)).toInt - (x3_1).toInt < (n_1 : Int) ∧ 1 ≤ n_1) → lv_has ls 7 [(0, .ref (a 12)), (1, .int x1_1), (2, .int x2_1), (3, .int x3_1)] → xw D (wC a Y) A s.heap H locs u → V = k_Hall_leastTree_L6 u n_1 x1_1 x2_1 x3_1 → W p l e (xRm 3 66) s m args below meth c H locs 0 0 (MQ below (va_Qi (fun r v => (r, v) = (V, u)) (xPost D (wC a Y) A) A) args s 0 0 A) (F0 m 6 ls []) := by
    intro n_1
    induction n_1 with
    | zero => intro x1_1 x2_1 x3_1 H locs ls i0_1 hn; exact absurd hn.2 (by decide)
    | succ n_1 ih_1 =>
      intro x1_1 x2_1 x3_1 H locs ls i0_1 hn_1 hl hw hV
      refine lv_iload_n S.1 S.2.1 dX0_leastTree_6 rfl (lv_at hl 3 rfl) ?_
      refine lv_aload_n S.1 S.2.1 dX0_leastTree_7 rfl (lv_at hl 0 rfl) ?_
      refine xget (v := .ref (a 13)) S hK hw 12 rfl rfl inX0 0 (by decide) mfX0_12 rfl dX0_leastTree_8 ?_
      refine xget (v := .int (u.1 13 1)) S hK hw 13 rfl rfl inX9 1 (by decide) mfX0_41 rfl dX0_leastTree_11 ?_
      refine lv_icmp_ge (tgt := 97) S.1 S.2.1 dX0_leastTree_14 (by decide) (fun c_2 => ?_) (fun c_2 => ?_)
      · replace hV := hV.trans (if_pos c_2)
        have gc_2 : ((u.1 13 1)).toInt ≤ (x3_1).toInt := xq_le c_2 rfl rfl
        refine lv_iload_n S.1 S.2.1 dX0_leastTree_97 rfl (lv_at hl 1 rfl) ?_
        exact xri S hr hlk hw (congrArg (fun b => (b, u)) hV) dX0_leastTree_98
      · replace hV := hV.trans (if_neg c_2)
        have gc_2 : (x3_1).toInt < ((u.1 13 1)).toInt := xq_nle c_2 rfl rfl
        refine lv_iconst (v := 0) S.1 S.2.1 dX0_leastTree_17 (by decide) ?_
        refine lv_istore (lv' := [(4, .int (0 : Int32)), (0, .ref (a 12)), (1, .int x1_1), (2, .int x2_1), (3, .int x3_1)]) S.1 S.2.1 dX0_leastTree_18 hl (by decide) rfl (fun ls hl => ?_)
        refine lv_bipush (v := 7) S.1 S.2.1 dX0_leastTree_20 (by decide) ?_
        refine lv_istore (lv' := [(5, .int (7 : Int32)), (4, .int (0 : Int32)), (0, .ref (a 12)), (1, .int x1_1), (2, .int x2_1), (3, .int x3_1)]) S.1 S.2.1 dX0_leastTree_22 hl (by decide) rfl (fun ls hl => ?_)
        refine lv_iconst (v := 1) S.1 S.2.1 dX0_leastTree_24 (by decide) ?_
        refine lv_istore (lv' := [(6, .int (1 : Int32)), (5, .int (7 : Int32)), (4, .int (0 : Int32)), (0, .ref (a 12)), (1, .int x1_1), (2, .int x2_1), (3, .int x3_1)]) S.1 S.2.1 dX0_leastTree_25 hl (by decide) rfl (fun ls hl => ?_)
        have lp_3 : ∀ (n_3 : Nat) (x4_3 : Int32) (x5_3 : Int32) (x6_3 : Int32) (H : Heap) (locs : List Loc) (ls : Array Slot), (0 ≤ (x6_3).toInt) → (((u.1 13 1)).toInt - (x6_3).toInt < (n_3 : Int) ∧ 1 ≤ n_3) → lv_has ls 7 [(0, .ref (a 12)), (1, .int x1_1), (2, .int x2_1), (3, .int x3_1), (4, .int x4_3), (5, .int x5_3), (6, .int x6_3)] → xw D (wC a Y) A s.heap H locs u → V = k_Hall_leastTree_L27 (fun (z1 : Int32) (z2 : Int32) (z3 : Int32) => k_Hall_leastTree_L6 u n_1 z1 z2 z3) u x1_1 x2_1 x3_1 n_3 x4_3 x5_3 x6_3 → W p l e (xRm 3 66) s m args below meth c H locs 0 0 (MQ below (va_Qi (fun r v => (r, v) = (V, u)) (xPost D (wC a Y) A) A) args s 0 0 A) (F0 m 27 ls []) := by
          intro n_3
          induction n_3 with
          | zero => intro x4_3 x5_3 x6_3 H locs ls i0_3 hn; exact absurd hn.2 (by decide)
          | succ n_3 ih_3 =>
            intro x4_3 x5_3 x6_3 H locs ls i0_3 hn_3 hl hw hV
            refine lv_iload S.1 S.2.1 dX0_leastTree_27 (lv_at hl 6 rfl) ?_
            refine lv_aload_n S.1 S.2.1 dX0_leastTree_29 rfl (lv_at hl 0 rfl) ?_
            refine xget (v := .ref (a 13)) S hK hw 12 rfl rfl inX0 0 (by decide) mfX0_12 rfl dX0_leastTree_30 ?_
            refine xget (v := .int (u.1 13 1)) S hK hw 13 rfl rfl inX9 1 (by decide) mfX0_41 rfl dX0_leastTree_33 ?_
            refine lv_icmp_ge (tgt := 79) S.1 S.2.1 dX0_leastTree_36 (by decide) (fun c_4 => ?_) (fun c_4 => ?_)
            · replace hV := hV.trans (if_pos c_4)
              have gc_4 : ((u.1 13 1)).toInt ≤ (x6_3).toInt := xq_le c_4 rfl rfl
              refine lv_iload_n S.1 S.2.1 dX0_leastTree_79 rfl (lv_at hl 2 rfl) ?_
              refine lv_iconst (v := 1) S.1 S.2.1 dX0_leastTree_80 (by decide) ?_
              refine lv_iload S.1 S.2.1 dX0_leastTree_81 (lv_at hl 4 rfl) ?_
              refine lv_ishl S.1 S.2.1 dX0_leastTree_83 ?_
              refine lv_ior S.1 S.2.1 dX0_leastTree_84 ?_
              refine lv_istore_n (lv' := [(2, .int (x2_1 ||| ((1 : Int32) <<< (x4_3 &&& 31)))), (0, .ref (a 12)), (1, .int x1_1), (3, .int x3_1), (4, .int x4_3), (5, .int x5_3), (6, .int x6_3)]) S.1 S.2.1 dX0_leastTree_85 rfl hl (by decide) rfl (fun ls hl => ?_)
              refine lv_iload_n S.1 S.2.1 dX0_leastTree_86 rfl (lv_at hl 2 rfl) ?_
              refine lv_iload S.1 S.2.1 dX0_leastTree_87 (lv_at hl 5 rfl) ?_
              refine lv_iadd S.1 S.2.1 dX0_leastTree_89 ?_
              refine lv_istore_n (lv' := [(1, .int (x1_1 + x5_3)), (2, .int (x2_1 ||| ((1 : Int32) <<< (x4_3 &&& 31)))), (0, .ref (a 12)), (3, .int x3_1), (4, .int x4_3), (5, .int x5_3), (6, .int x6_3)]) S.1 S.2.1 dX0_leastTree_90 rfl hl (by decide) rfl (fun ls hl => ?_)
              refine lv_iinc (v := (x3_1 + (1 : Int32))) (lv' := [(3, .int (x3_1 + (1 : Int32))), (1, .int (x1_1 + x5_3)), (2, .int (x2_1 ||| ((1 : Int32) <<< (x4_3 &&& 31)))), (0, .ref (a 12)), (4, .int x4_3), (5, .int x5_3), (6, .int x6_3)]) S.1 S.2.1 dX0_leastTree_91 hl (k := 3) rfl rfl (by decide) rfl (fun ls hl => ?_)
              refine lv_goto (tgt := 6) S.1 S.2.1 dX0_leastTree_94 (by decide) ?_
              have e_5 : ∀ _ : Unit, ((x3_1 + (1 : Int32))).toInt = (x3_1).toInt + 1 := fun _ => xadd rfl rfl (by omega) (by omega)
              clear hn_3
              exact ih_1 (x1_1 + x5_3) (x2_1 ||| ((1 : Int32) <<< (x4_3 &&& 31))) (x3_1 + (1 : Int32)) _ _ _ (show 0 ≤ ((x3_1 + (1 : Int32))).toInt from by rw [(e_5 ())]; omega) (show ((u.1 13 1)).toInt - ((x3_1 + (1 : Int32))).toInt < (n_1 : Int) ∧ 1 ≤ n_1 from by rw [(e_5 ())]; omega) (lv_sub hl [3, 1, 2, 0] rfl) hw hV
            · replace hV := hV.trans (if_neg c_4)
              have gc_4 : (x6_3).toInt < ((u.1 13 1)).toInt := xq_nle c_4 rfl rfl
              refine lv_iload_n S.1 S.2.1 dX0_leastTree_39 rfl (lv_at hl 2 rfl) ?_
              refine lv_iload S.1 S.2.1 dX0_leastTree_40 (lv_at hl 6 rfl) ?_
              refine xcPN (host := RX10) (rest := []) S hE hw yfX10_has (c_k_has l x2_1 x6_3) (by decide +kernel) rfl rfl hl.1 ⟨rfl, rfl, Nat.le_of_ble_eq_true rfl, Nat.le_of_ble_eq_true rfl, Nat.le_of_ble_eq_true rfl, Nat.zero_le _, Nat.zero_le _⟩ dX0_leastTree_42 (fun H locs hw => ?_)
              refine lv_if_ne (tgt := 73) S.1 S.2.1 dX0_leastTree_45 (by decide) (fun c_6 => ?_) (fun c_6 => ?_)
              · replace hV := hV.trans (if_neg c_6)
                have gc_6 : ¬ ((b2i (k_has x2_1 x6_3))).toInt = 0 := xq_ne c_6 rfl rfl
                refine lv_iinc (v := (x6_3 + (1 : Int32))) (lv' := [(6, .int (x6_3 + (1 : Int32))), (0, .ref (a 12)), (1, .int x1_1), (2, .int x2_1), (3, .int x3_1), (4, .int x4_3), (5, .int x5_3)]) S.1 S.2.1 dX0_leastTree_73 hl (k := 6) rfl rfl (by decide) rfl (fun ls hl => ?_)
                refine lv_goto (tgt := 27) S.1 S.2.1 dX0_leastTree_76 (by decide) ?_
                have e_7 : ∀ _ : Unit, ((x6_3 + (1 : Int32))).toInt = (x6_3).toInt + 1 := fun _ => xadd rfl rfl (by omega) (by omega)
                clear hn_1
                exact ih_3 x4_3 x5_3 (x6_3 + (1 : Int32)) _ _ _ (show 0 ≤ ((x6_3 + (1 : Int32))).toInt from by rw [(e_7 ())]; omega) (show ((u.1 13 1)).toInt - ((x6_3 + (1 : Int32))).toInt < (n_3 : Int) ∧ 1 ≤ n_3 from by rw [(e_7 ())]; omega) (lv_sub hl [1, 2, 3, 4, 5, 6, 0] rfl) hw hV
              · replace hV := hV.trans (if_pos c_6)
                have gc_6 : ((b2i (k_has x2_1 x6_3))).toInt = 0 := xq_eq c_6 rfl rfl
                refine lv_aload_n S.1 S.2.1 dX0_leastTree_48 rfl (lv_at hl 0 rfl) ?_
                refine lv_iload S.1 S.2.1 dX0_leastTree_49 (lv_at hl 6 rfl) ?_
                refine lv_iload_n S.1 S.2.1 dX0_leastTree_51 rfl (lv_at hl 2 rfl) ?_
                refine xci (rest := []) S hK hE hA hw yfX0_stepTo (c_k_Hall_stepTo l D a Y ts _ x6_3 x2_1 (show (0 ≤ ((u.1 13 0)).toInt ∧ ((u.1 13 0)).toInt ≤ 8) from by omega) (show (0 ≤ ((u.1 13 1)).toInt ∧ ((u.1 13 1)).toInt ≤ 6) from by omega) (show 0 ≤ (x6_3).toInt ∧ (x6_3).toInt < 6 from by omega)) 12 rfl rfl mlX0_105 rfl rfl hl.1 ⟨rfl, rfl, Nat.le_of_ble_eq_true rfl, Nat.le_of_ble_eq_true rfl, Nat.le_of_ble_eq_true rfl, Nat.zero_le _, Nat.zero_le _⟩ dX0_leastTree_52 (fun H locs hw => ?_)
                refine lv_iload S.1 S.2.1 dX0_leastTree_55 (lv_at hl 5 rfl) ?_
                refine lv_icmp_ge (tgt := 73) S.1 S.2.1 dX0_leastTree_57 (by decide) (fun c_8 => ?_) (fun c_8 => ?_)
                · replace hV := hV.trans (if_pos c_8)
                  have gc_8 : (x5_3).toInt ≤ ((k_Hall_stepTo u x6_3 x2_1)).toInt := xq_le c_8 rfl rfl
                  refine lv_iinc (v := (x6_3 + (1 : Int32))) (lv' := [(6, .int (x6_3 + (1 : Int32))), (0, .ref (a 12)), (1, .int x1_1), (2, .int x2_1), (3, .int x3_1), (4, .int x4_3), (5, .int x5_3)]) S.1 S.2.1 dX0_leastTree_73 hl (k := 6) rfl rfl (by decide) rfl (fun ls hl => ?_)
                  refine lv_goto (tgt := 27) S.1 S.2.1 dX0_leastTree_76 (by decide) ?_
                  have e_9 : ∀ _ : Unit, ((x6_3 + (1 : Int32))).toInt = (x6_3).toInt + 1 := fun _ => xadd rfl rfl (by omega) (by omega)
                  clear hn_1
                  exact ih_3 x4_3 x5_3 (x6_3 + (1 : Int32)) _ _ _ (show 0 ≤ ((x6_3 + (1 : Int32))).toInt from by rw [(e_9 ())]; omega) (show ((u.1 13 1)).toInt - ((x6_3 + (1 : Int32))).toInt < (n_3 : Int) ∧ 1 ≤ n_3 from by rw [(e_9 ())]; omega) (lv_sub hl [1, 2, 3, 4, 5, 6, 0] rfl) hw hV
                · replace hV := hV.trans (if_neg c_8)
                  have gc_8 : ((k_Hall_stepTo u x6_3 x2_1)).toInt < (x5_3).toInt := xq_nle c_8 rfl rfl
                  refine lv_iload S.1 S.2.1 dX0_leastTree_60 (lv_at hl 6 rfl) ?_
                  refine lv_istore (lv' := [(4, .int x6_3), (0, .ref (a 12)), (1, .int x1_1), (2, .int x2_1), (3, .int x3_1), (5, .int x5_3), (6, .int x6_3)]) S.1 S.2.1 dX0_leastTree_62 hl (by decide) rfl (fun ls hl => ?_)
                  refine lv_aload_n S.1 S.2.1 dX0_leastTree_64 rfl (lv_at hl 1 rfl) ?_
                  refine lv_iload S.1 S.2.1 dX0_leastTree_65 (lv_at hl 6 rfl) ?_
                  refine lv_iload_n S.1 S.2.1 dX0_leastTree_67 rfl (lv_at hl 3 rfl) ?_
                  refine xci (rest := []) S hK hE hA hw yfX0_stepTo (c_k_Hall_stepTo l D a Y ts _ x6_3 x2_1 (show (0 ≤ ((u.1 13 0)).toInt ∧ ((u.1 13 0)).toInt ≤ 8) from by omega) (show (0 ≤ ((u.1 13 1)).toInt ∧ ((u.1 13 1)).toInt ≤ 6) from by omega) (show 0 ≤ (x6_3).toInt ∧ (x6_3).toInt < 6 from by omega)) 12 rfl rfl mlX0_105 rfl rfl hl.1 ⟨rfl, rfl, Nat.le_of_ble_eq_true rfl, Nat.le_of_ble_eq_true rfl, Nat.le_of_ble_eq_true rfl, Nat.zero_le _, Nat.zero_le _⟩ dX0_leastTree_68 (fun H locs hw => ?_)
                  refine lv_istore (lv' := [(5, .int (k_Hall_stepTo u x6_3 x2_1)), (4, .int x6_3), (0, .ref (a 12)), (1, .int x1_1), (2, .int x2_1), (3, .int x3_1), (6, .int x6_3)]) S.1 S.2.1 dX0_leastTree_71 hl (by decide) rfl (fun ls hl => ?_)
                  refine lv_iinc (v := (x6_3 + (1 : Int32))) (lv' := [(6, .int (x6_3 + (1 : Int32))), (5, .int (k_Hall_stepTo u x6_3 x2_1)), (4, .int x6_3), (0, .ref (a 12)), (1, .int x1_1), (2, .int x2_1), (3, .int x3_1)]) S.1 S.2.1 dX0_leastTree_73 hl (k := 6) rfl rfl (by decide) rfl (fun ls hl => ?_)
                  refine lv_goto (tgt := 27) S.1 S.2.1 dX0_leastTree_76 (by decide) ?_
                  have e_10 : ∀ _ : Unit, ((x6_3 + (1 : Int32))).toInt = (x6_3).toInt + 1 := fun _ => xadd rfl rfl (by omega) (by omega)
                  clear hn_1
                  exact ih_3 x6_3 (k_Hall_stepTo u x6_3 x2_1) (x6_3 + (1 : Int32)) _ _ _ (show 0 ≤ ((x6_3 + (1 : Int32))).toInt from by rw [(e_10 ())]; omega) (show ((u.1 13 1)).toInt - ((x6_3 + (1 : Int32))).toInt < (n_3 : Int) ∧ 1 ≤ n_3 from by rw [(e_10 ())]; omega) (lv_sub hl [3, 4, 5, 6, 2, 1, 0] rfl) hw hV
        exact lp_3 7 (0 : Int32) (7 : Int32) (1 : Int32) _ _ _ (show 0 ≤ 1 from by omega) (show ((u.1 13 1)).toInt - 1 < ((7 : Nat) : Int) ∧ 1 ≤ (7 : Nat) from by omega) (lv_sub hl [3, 4, 5, 6, 2, 1, 0] rfl) hw hV
  exact lp_1 7 (0 : Int32) (1 : Int32) (1 : Int32) _ _ _ (show 0 ≤ 1 from by omega) (show ((u.1 13 1)).toInt - 1 < ((7 : Nat) : Int) ∧ 1 ≤ (7 : Nat) from by omega) (lv_sub hl [3, 2, 1, 0] rfl) hw hV
def k_Hearsay_suspects_L17 (w : xU) : Nat → Int32 → Int32 → Int32
  | 0, _, _ => 0
  | n + 1, x1, x2 =>
    (if (w.1 44 3) ≤ x2 then
    x1
    else
    let t_4 := (k_Hall_whoCan w (w.1 45 (x2).toNatClampNeg))
    (if (w.1 46 (x2).toNatClampNeg) = (1 : Int32) then
    k_Hearsay_suspects_L17 w n (x1 &&& t_4) (x2 + (1 : Int32))
    else
    k_Hearsay_suspects_L17 w n (x1 &&& (t_4 ^^^ (-1 : Int32))) (x2 + (1 : Int32))))
def k_Hearsay_suspects (u : xU) : Int32 :=
    let t_1 := (((1 : Int32) <<< ((u.1 13 1) &&& 31)) - (1 : Int32))
    k_Hearsay_suspects_L17 u 7 t_1 (0 : Int32)
set_option maxHeartbeats 4000000 in
set_option maxRecDepth 100000 in
theorem c_k_Hearsay_suspects (l : Launch) (D : va_G) (a : Nat → Nat) (Y : Nat → ClassId) (ts : Nat → Nat) (u : xU) (hT : (0 ≤ ((u.1 13 0)).toInt ∧ ((u.1 13 0)).toInt ≤ 8)) (hC : (0 ≤ ((u.1 13 1)).toInt ∧ ((u.1 13 1)).toInt ≤ 6)) (hH : (0 ≤ ((u.1 44 3)).toInt ∧ ((u.1 44 3)).toInt ≤ 6)) : xMi l yX1_suspects cX1_suspects 4 (some .int) (xRm 2 44) D (xty Y) (wC a Y) ts [.ref (a 44)] u ((k_Hearsay_suspects u), u) := by
  suffices h : ∀ V, V = k_Hearsay_suspects u → xMi l yX1_suspects cX1_suspects 4 (some .int) (xRm 2 44) D (xty Y) (wC a Y) ts [.ref (a 44)] u (V, u) from h _ rfl
  intro V hV
  refine xofi RX1 rfl (by decide) (Nat.le_of_ble_eq_true rfl) ?_
  intro p e s m args below meth c ls H locs A S hr hlk hl hK hE hA hw
  have hl : lv_has ls 4 [(0, .ref (a 44))] := hl
  refine lv_iconst (v := 1) S.1 S.2.1 dX1_suspects_0 (by decide) ?_
  refine lv_aload_n S.1 S.2.1 dX1_suspects_1 rfl (lv_at hl 0 rfl) ?_
  refine xget (v := .ref (a 12)) S hK hw 44 rfl rfl inX1 0 (by decide) mfX1_18 rfl dX1_suspects_2 ?_
  refine xget (v := .ref (a 13)) S hK hw 12 rfl rfl inX0 0 (by decide) mfX1_26 rfl dX1_suspects_5 ?_
  refine xget (v := .int (u.1 13 1)) S hK hw 13 rfl rfl inX9 1 (by decide) mfX1_32 rfl dX1_suspects_8 ?_
  refine lv_ishl S.1 S.2.1 dX1_suspects_11 ?_
  refine lv_iconst (v := 1) S.1 S.2.1 dX1_suspects_12 (by decide) ?_
  refine lv_isub S.1 S.2.1 dX1_suspects_13 ?_
  refine lv_istore_n (lv' := [(1, .int (((1 : Int32) <<< ((u.1 13 1) &&& 31)) - (1 : Int32))), (0, .ref (a 44))]) S.1 S.2.1 dX1_suspects_14 rfl hl (by decide) rfl (fun ls hl => ?_)
  refine lv_iconst (v := 0) S.1 S.2.1 dX1_suspects_15 (by decide) ?_
  refine lv_istore_n (lv' := [(2, .int (0 : Int32)), (1, .int (((1 : Int32) <<< ((u.1 13 1) &&& 31)) - (1 : Int32))), (0, .ref (a 44))]) S.1 S.2.1 dX1_suspects_16 rfl hl (by decide) rfl (fun ls hl => ?_)
  have lp_2 : ∀ (n_2 : Nat) (x1_2 : Int32) (x2_2 : Int32) (H : Heap) (locs : List Loc) (ls : Array Slot), (0 ≤ (x2_2).toInt) → (((u.1 44 3)).toInt - (x2_2).toInt < (n_2 : Int) ∧ 1 ≤ n_2) → lv_has ls 4 [(0, .ref (a 44)), (1, .int x1_2), (2, .int x2_2)] → xw D (wC a Y) A s.heap H locs u → V = k_Hearsay_suspects_L17 u n_2 x1_2 x2_2 → W p l e (xRm 2 44) s m args below meth c H locs 0 0 (MQ below (va_Qi (fun r v => (r, v) = (V, u)) (xPost D (wC a Y) A) A) args s 0 0 A) (F0 m 17 ls []) := by
    intro n_2
    induction n_2 with
    | zero => intro x1_2 x2_2 H locs ls i0_2 hn; exact absurd hn.2 (by decide)
    | succ n_2 ih_2 =>
      intro x1_2 x2_2 H locs ls i0_2 hn_2 hl hw hV
      refine lv_iload_n S.1 S.2.1 dX1_suspects_17 rfl (lv_at hl 2 rfl) ?_
      refine lv_aload_n S.1 S.2.1 dX1_suspects_18 rfl (lv_at hl 0 rfl) ?_
      refine xget (v := .int (u.1 44 3)) S hK hw 44 rfl rfl inX1 3 (by decide) mfX1_22 rfl dX1_suspects_19 ?_
      refine lv_icmp_ge (tgt := 65) S.1 S.2.1 dX1_suspects_22 (by decide) (fun c_3 => ?_) (fun c_3 => ?_)
      · replace hV := hV.trans (if_pos c_3)
        have gc_3 : ((u.1 44 3)).toInt ≤ (x2_2).toInt := xq_le c_3 rfl rfl
        refine lv_iload_n S.1 S.2.1 dX1_suspects_65 rfl (lv_at hl 1 rfl) ?_
        exact xri S hr hlk hw (congrArg (fun b => (b, u)) hV) dX1_suspects_66
      · replace hV := hV.trans (if_neg c_3)
        have gc_3 : (x2_2).toInt < ((u.1 44 3)).toInt := xq_nle c_3 rfl rfl
        refine lv_aload_n S.1 S.2.1 dX1_suspects_25 rfl (lv_at hl 0 rfl) ?_
        refine xget (v := .ref (a 12)) S hK hw 44 rfl rfl inX1 0 (by decide) mfX1_18 rfl dX1_suspects_26 ?_
        refine lv_aload_n S.1 S.2.1 dX1_suspects_29 rfl (lv_at hl 0 rfl) ?_
        refine xget (v := .ref (a 45)) S hK hw 44 rfl rfl inX1 1 (by decide) mfX1_11 rfl dX1_suspects_30 ?_
        refine lv_iload_n S.1 S.2.1 dX1_suspects_33 rfl (lv_at hl 2 rfl) ?_
        refine xald (f := u.1 45) S hK hw 45 0 rfl rfl (xvi rfl (by omega) (by omega)) dX1_suspects_34 ?_
        refine xci (rest := []) S hK hE hA hw yfX0_whoCan (c_k_Hall_whoCan l D a Y ts _ (u.1 45 (x2_2).toNatClampNeg) (show (0 ≤ ((u.1 13 0)).toInt ∧ ((u.1 13 0)).toInt ≤ 8) from by omega) (show (0 ≤ ((u.1 13 1)).toInt ∧ ((u.1 13 1)).toInt ≤ 6) from by omega)) 12 rfl rfl mlX1_37 rfl rfl hl.1 ⟨rfl, rfl, Nat.le_of_ble_eq_true rfl, Nat.le_of_ble_eq_true rfl, Nat.le_of_ble_eq_true rfl, Nat.zero_le _, Nat.zero_le _⟩ dX1_suspects_35 (fun H locs hw => ?_)
        refine lv_istore_n (lv' := [(3, .int (k_Hall_whoCan u (u.1 45 (x2_2).toNatClampNeg))), (0, .ref (a 44)), (1, .int x1_2), (2, .int x2_2)]) S.1 S.2.1 dX1_suspects_38 rfl hl (by decide) rfl (fun ls hl => ?_)
        refine lv_iload_n S.1 S.2.1 dX1_suspects_39 rfl (lv_at hl 2 rfl) ?_
        refine lv_aload_n S.1 S.2.1 dX1_suspects_40 rfl (lv_at hl 1 rfl) ?_
        refine xget (v := .ref (a 46)) S hK hw 44 rfl rfl inX1 2 (by decide) mfX1_15 rfl dX1_suspects_41 ?_
        refine lv_iload_n S.1 S.2.1 dX1_suspects_44 rfl (lv_at hl 3 rfl) ?_
        refine xald (f := u.1 46) S hK hw 46 0 rfl rfl (xvi rfl (by omega) (by omega)) dX1_suspects_45 ?_
        refine lv_iconst (v := 1) S.1 S.2.1 dX1_suspects_46 (by decide) ?_
        refine lv_icmp_ne (tgt := 54) S.1 S.2.1 dX1_suspects_47 (by decide) (fun c_5 => ?_) (fun c_5 => ?_)
        · replace hV := hV.trans (if_neg c_5)
          have gc_5 : ¬ ((u.1 46 (x2_2).toNatClampNeg)).toInt = 1 := xq_ne c_5 rfl rfl
          refine lv_iload_n S.1 S.2.1 dX1_suspects_54 rfl (lv_at hl 0 rfl) ?_
          refine lv_iconst (v := -1) S.1 S.2.1 dX1_suspects_55 (by decide) ?_
          refine lv_ixor S.1 S.2.1 dX1_suspects_56 ?_
          refine lv_iand S.1 S.2.1 dX1_suspects_57 ?_
          refine lv_istore_n (lv' := [(1, .int (x1_2 &&& ((k_Hall_whoCan u (u.1 45 (x2_2).toNatClampNeg)) ^^^ (-1 : Int32)))), (3, .int (k_Hall_whoCan u (u.1 45 (x2_2).toNatClampNeg))), (0, .ref (a 44)), (2, .int x2_2)]) S.1 S.2.1 dX1_suspects_58 rfl hl (by decide) rfl (fun ls hl => ?_)
          refine lv_iinc (v := (x2_2 + (1 : Int32))) (lv' := [(2, .int (x2_2 + (1 : Int32))), (1, .int (x1_2 &&& ((k_Hall_whoCan u (u.1 45 (x2_2).toNatClampNeg)) ^^^ (-1 : Int32)))), (3, .int (k_Hall_whoCan u (u.1 45 (x2_2).toNatClampNeg))), (0, .ref (a 44))]) S.1 S.2.1 dX1_suspects_59 hl (k := 3) rfl rfl (by decide) rfl (fun ls hl => ?_)
          refine lv_goto (tgt := 17) S.1 S.2.1 dX1_suspects_62 (by decide) ?_
          have e_6 : ∀ _ : Unit, ((x2_2 + (1 : Int32))).toInt = (x2_2).toInt + 1 := fun _ => xadd rfl rfl (by omega) (by omega)
          exact ih_2 (x1_2 &&& ((k_Hall_whoCan u (u.1 45 (x2_2).toNatClampNeg)) ^^^ (-1 : Int32))) (x2_2 + (1 : Int32)) _ _ _ (show 0 ≤ ((x2_2 + (1 : Int32))).toInt from by rw [(e_6 ())]; omega) (show ((u.1 44 3)).toInt - ((x2_2 + (1 : Int32))).toInt < (n_2 : Int) ∧ 1 ≤ n_2 from by rw [(e_6 ())]; omega) (lv_sub hl [3, 1, 0] rfl) hw hV
        · replace hV := hV.trans (if_pos c_5)
          have gc_5 : ((u.1 46 (x2_2).toNatClampNeg)).toInt = 1 := xq_eq c_5 rfl rfl
          refine lv_iload_n S.1 S.2.1 dX1_suspects_50 rfl (lv_at hl 0 rfl) ?_
          refine lv_goto (tgt := 57) S.1 S.2.1 dX1_suspects_51 (by decide) ?_
          refine lv_iand S.1 S.2.1 dX1_suspects_57 ?_
          refine lv_istore_n (lv' := [(1, .int (x1_2 &&& (k_Hall_whoCan u (u.1 45 (x2_2).toNatClampNeg)))), (3, .int (k_Hall_whoCan u (u.1 45 (x2_2).toNatClampNeg))), (0, .ref (a 44)), (2, .int x2_2)]) S.1 S.2.1 dX1_suspects_58 rfl hl (by decide) rfl (fun ls hl => ?_)
          refine lv_iinc (v := (x2_2 + (1 : Int32))) (lv' := [(2, .int (x2_2 + (1 : Int32))), (1, .int (x1_2 &&& (k_Hall_whoCan u (u.1 45 (x2_2).toNatClampNeg)))), (3, .int (k_Hall_whoCan u (u.1 45 (x2_2).toNatClampNeg))), (0, .ref (a 44))]) S.1 S.2.1 dX1_suspects_59 hl (k := 3) rfl rfl (by decide) rfl (fun ls hl => ?_)
          refine lv_goto (tgt := 17) S.1 S.2.1 dX1_suspects_62 (by decide) ?_
          have e_7 : ∀ _ : Unit, ((x2_2 + (1 : Int32))).toInt = (x2_2).toInt + 1 := fun _ => xadd rfl rfl (by omega) (by omega)
          exact ih_2 (x1_2 &&& (k_Hall_whoCan u (u.1 45 (x2_2).toNatClampNeg))) (x2_2 + (1 : Int32)) _ _ _ (show 0 ≤ ((x2_2 + (1 : Int32))).toInt from by rw [(e_7 ())]; omega) (show ((u.1 44 3)).toInt - ((x2_2 + (1 : Int32))).toInt < (n_2 : Int) ∧ 1 ≤ n_2 from by rw [(e_7 ())]; omega) (lv_sub hl [3, 1, 0] rfl) hw hV
  exact lp_2 7 (((1 : Int32) <<< ((u.1 13 1) &&& 31)) - (1 : Int32)) (0 : Int32) _ _ _ (show 0 ≤ 0 from by omega) (show ((u.1 44 3)).toInt - 0 < ((7 : Nat) : Int) ∧ 1 ≤ (7 : Nat) from by omega) (lv_sub hl [2, 1, 0] rfl) hw hV
def k_Hearsay_bestQuestion_L19 (w : xU) (x1 : Int32) (x2 : Int32) : Nat → Int32 → Int32 → Int32 → Int32
  | 0, _, _, _ => 0
  | n + 1, x3, x4, x5 =>
    (if (w.1 13 0) ≤ x5 then
    x3
    else
    let t_3 := (j_bitCount (x1 &&& (k_Hall_whoCan w x5)))
    let t_4 := (if t_3 < (x2 - t_3) then (x2 - t_3) else t_3)
    (if x4 ≤ t_4 then
    k_Hearsay_bestQuestion_L19 w x1 x2 n x3 x4 (x5 + (1 : Int32))
    else
    k_Hearsay_bestQuestion_L19 w x1 x2 n x5 t_4 (x5 + (1 : Int32))))
def k_Hearsay_bestQuestion (u : xU) : Int32 :=
    k_Hearsay_bestQuestion_L19 u (k_Hearsay_suspects u) (j_bitCount (k_Hearsay_suspects u)) 9 (-9 : Int32) (j_bitCount (k_Hearsay_suspects u)) (0 : Int32)
set_option maxHeartbeats 4000000 in
set_option maxRecDepth 100000 in
theorem c_k_Hearsay_bestQuestion (l : Launch) (D : va_G) (a : Nat → Nat) (Y : Nat → ClassId) (ts : Nat → Nat) (u : xU) (hT : (0 ≤ ((u.1 13 0)).toInt ∧ ((u.1 13 0)).toInt ≤ 8)) (hC : (0 ≤ ((u.1 13 1)).toInt ∧ ((u.1 13 1)).toInt ≤ 6)) (hH : (0 ≤ ((u.1 44 3)).toInt ∧ ((u.1 44 3)).toInt ≤ 6)) : xMi l yX1_bestQuestion cX1_bestQuestion 8 (some .int) (xRm 3 67) D (xty Y) (wC a Y) ts [.ref (a 44)] u ((k_Hearsay_bestQuestion u), u) := by
  suffices h : ∀ V, V = k_Hearsay_bestQuestion u → xMi l yX1_bestQuestion cX1_bestQuestion 8 (some .int) (xRm 3 67) D (xty Y) (wC a Y) ts [.ref (a 44)] u (V, u) from h _ rfl
  intro V hV
  refine xofi RX1 rfl (by decide) (Nat.le_of_ble_eq_true rfl) ?_
  intro p e s m args below meth c ls H locs A S hr hlk hl hK hE hA hw
  have hl : lv_has ls 8 [(0, .ref (a 44))] := hl
  refine lv_aload_n S.1 S.2.1 dX1_bestQuestion_0 rfl (lv_at hl 0 rfl) ?_
  refine xci (rest := []) S hK hE hA hw yfX1_suspects (c_k_Hearsay_suspects l D a Y ts _ (show (0 ≤ ((u.1 13 0)).toInt ∧ ((u.1 13 0)).toInt ≤ 8) from by omega) (show (0 ≤ ((u.1 13 1)).toInt ∧ ((u.1 13 1)).toInt ≤ 6) from by omega) (show (0 ≤ ((u.1 44 3)).toInt ∧ ((u.1 44 3)).toInt ≤ 6) from by omega)) 44 rfl rfl mlX1_41 rfl rfl hl.1 ⟨rfl, rfl, Nat.le_of_ble_eq_true rfl, Nat.le_of_ble_eq_true rfl, Nat.le_of_ble_eq_true rfl, Nat.zero_le _, Nat.zero_le _⟩ dX1_bestQuestion_1 (fun H locs hw => ?_)
  refine lv_istore_n (lv' := [(1, .int (k_Hearsay_suspects u)), (0, .ref (a 44))]) S.1 S.2.1 dX1_bestQuestion_4 rfl hl (by decide) rfl (fun ls hl => ?_)
  refine lv_iload_n S.1 S.2.1 dX1_bestQuestion_5 rfl (lv_at hl 0 rfl) ?_
  refine xcP (rest := []) S hw yfJ6_bitCount_0f7a4 (c_j_bitCount l (k_Hearsay_suspects u)) mlX1_45 rfl rfl hl.1 ⟨rfl, rfl, Nat.le_of_ble_eq_true rfl, Nat.le_of_ble_eq_true rfl, Nat.le_of_ble_eq_true rfl, Nat.zero_le _, Nat.zero_le _⟩ dX1_bestQuestion_6 (fun H locs hw => ?_)
  refine lv_istore_n (lv' := [(2, .int (j_bitCount (k_Hearsay_suspects u))), (1, .int (k_Hearsay_suspects u)), (0, .ref (a 44))]) S.1 S.2.1 dX1_bestQuestion_9 rfl hl (by decide) rfl (fun ls hl => ?_)
  refine lv_bipush (v := -9) S.1 S.2.1 dX1_bestQuestion_10 (by decide) ?_
  refine lv_istore_n (lv' := [(3, .int (-9 : Int32)), (2, .int (j_bitCount (k_Hearsay_suspects u))), (1, .int (k_Hearsay_suspects u)), (0, .ref (a 44))]) S.1 S.2.1 dX1_bestQuestion_12 rfl hl (by decide) rfl (fun ls hl => ?_)
  refine lv_iload_n S.1 S.2.1 dX1_bestQuestion_13 rfl (lv_at hl 1 rfl) ?_
  refine lv_istore (lv' := [(4, .int (j_bitCount (k_Hearsay_suspects u))), (3, .int (-9 : Int32)), (2, .int (j_bitCount (k_Hearsay_suspects u))), (1, .int (k_Hearsay_suspects u)), (0, .ref (a 44))]) S.1 S.2.1 dX1_bestQuestion_14 hl (by decide) rfl (fun ls hl => ?_)
  refine lv_iconst (v := 0) S.1 S.2.1 dX1_bestQuestion_16 (by decide) ?_
  refine lv_istore (lv' := [(5, .int (0 : Int32)), (4, .int (j_bitCount (k_Hearsay_suspects u))), (3, .int (-9 : Int32)), (2, .int (j_bitCount (k_Hearsay_suspects u))), (1, .int (k_Hearsay_suspects u)), (0, .ref (a 44))]) S.1 S.2.1 dX1_bestQuestion_17 hl (by decide) rfl (fun ls hl => ?_)
  have lp_1 : ∀ (n_1 : Nat) (x3_1 : Int32) (x4_1 : Int32) (x5_1 : Int32) (H : Heap) (locs : List Loc) (ls : Array Slot), (0 ≤ (x5_1).toInt) → (((u.1 13 0)).toInt - (x5_1).toInt < (n_1 : Int) ∧ 1 ≤ n_1) → lv_has ls 8 [(0, .ref (a 44)), (1, .int (k_Hearsay_suspects u)), (2, .int (j_bitCount (k_Hearsay_suspects u))), (3, .int x3_1), (4, .int x4_1), (5, .int x5_1)] → xw D (wC a Y) A s.heap H locs u → V = k_Hearsay_bestQuestion_L19 u (k_Hearsay_suspects u) (j_bitCount (k_Hearsay_suspects u)) n_1 x3_1 x4_1 x5_1 → W p l e (xRm 3 67) s m args below meth c H locs 0 0 (MQ below (va_Qi (fun r v => (r, v) = (V, u)) (xPost D (wC a Y) A) A) args s 0 0 A) (F0 m 19 ls []) := by
    intro n_1
    induction n_1 with
    | zero => intro x3_1 x4_1 x5_1 H locs ls i0_1 hn; exact absurd hn.2 (by decide)
    | succ n_1 ih_1 =>
      intro x3_1 x4_1 x5_1 H locs ls i0_1 hn_1 hl hw hV
      refine lv_iload S.1 S.2.1 dX1_bestQuestion_19 (lv_at hl 5 rfl) ?_
      refine lv_aload_n S.1 S.2.1 dX1_bestQuestion_21 rfl (lv_at hl 0 rfl) ?_
      refine xget (v := .ref (a 12)) S hK hw 44 rfl rfl inX1 0 (by decide) mfX1_18 rfl dX1_bestQuestion_22 ?_
      refine xget (v := .ref (a 13)) S hK hw 12 rfl rfl inX0 0 (by decide) mfX1_26 rfl dX1_bestQuestion_25 ?_
      refine xget (v := .int (u.1 13 0)) S hK hw 13 rfl rfl inX9 0 (by decide) mfX1_50 rfl dX1_bestQuestion_28 ?_
      refine lv_icmp_ge (tgt := 81) S.1 S.2.1 dX1_bestQuestion_31 (by decide) (fun c_2 => ?_) (fun c_2 => ?_)
      · replace hV := hV.trans (if_pos c_2)
        have gc_2 : ((u.1 13 0)).toInt ≤ (x5_1).toInt := xq_le c_2 rfl rfl
        refine lv_iload_n S.1 S.2.1 dX1_bestQuestion_81 rfl (lv_at hl 3 rfl) ?_
        exact xri S hr hlk hw (congrArg (fun b => (b, u)) hV) dX1_bestQuestion_82
      · replace hV := hV.trans (if_neg c_2)
        have gc_2 : (x5_1).toInt < ((u.1 13 0)).toInt := xq_nle c_2 rfl rfl
        refine lv_iload_n S.1 S.2.1 dX1_bestQuestion_34 rfl (lv_at hl 1 rfl) ?_
        refine lv_aload_n S.1 S.2.1 dX1_bestQuestion_35 rfl (lv_at hl 0 rfl) ?_
        refine xget (v := .ref (a 12)) S hK hw 44 rfl rfl inX1 0 (by decide) mfX1_18 rfl dX1_bestQuestion_36 ?_
        refine lv_iload S.1 S.2.1 dX1_bestQuestion_39 (lv_at hl 5 rfl) ?_
        refine xci (rest := [.int (k_Hearsay_suspects u)]) S hK hE hA hw yfX0_whoCan (c_k_Hall_whoCan l D a Y ts _ x5_1 (show (0 ≤ ((u.1 13 0)).toInt ∧ ((u.1 13 0)).toInt ≤ 8) from by omega) (show (0 ≤ ((u.1 13 1)).toInt ∧ ((u.1 13 1)).toInt ≤ 6) from by omega)) 12 rfl rfl mlX1_37 rfl rfl hl.1 ⟨rfl, rfl, Nat.le_of_ble_eq_true rfl, Nat.le_of_ble_eq_true rfl, Nat.le_of_ble_eq_true rfl, Nat.zero_le _, Nat.zero_le _⟩ dX1_bestQuestion_41 (fun H locs hw => ?_)
        refine lv_iand S.1 S.2.1 dX1_bestQuestion_44 ?_
        refine xcP (rest := []) S hw yfJ6_bitCount_0f7a4 (c_j_bitCount l ((k_Hearsay_suspects u) &&& (k_Hall_whoCan u x5_1))) mlX1_45 rfl rfl hl.1 ⟨rfl, rfl, Nat.le_of_ble_eq_true rfl, Nat.le_of_ble_eq_true rfl, Nat.le_of_ble_eq_true rfl, Nat.zero_le _, Nat.zero_le _⟩ dX1_bestQuestion_45 (fun H locs hw => ?_)
        refine lv_istore (lv' := [(6, .int (j_bitCount ((k_Hearsay_suspects u) &&& (k_Hall_whoCan u x5_1)))), (0, .ref (a 44)), (1, .int (k_Hearsay_suspects u)), (2, .int (j_bitCount (k_Hearsay_suspects u))), (3, .int x3_1), (4, .int x4_1), (5, .int x5_1)]) S.1 S.2.1 dX1_bestQuestion_48 hl (by decide) rfl (fun ls hl => ?_)
        refine lv_iload S.1 S.2.1 dX1_bestQuestion_50 (lv_at hl 0 rfl) ?_
        refine lv_iload_n S.1 S.2.1 dX1_bestQuestion_52 rfl (lv_at hl 3 rfl) ?_
        refine lv_iload S.1 S.2.1 dX1_bestQuestion_53 (lv_at hl 0 rfl) ?_
        refine lv_isub S.1 S.2.1 dX1_bestQuestion_55 ?_
        refine xmax S hl.1 mlX1_52 mmax_st math_in mmax_cd ⟨Nat.le_of_ble_eq_true rfl, Nat.le_of_ble_eq_true rfl, Nat.zero_le _, Nat.zero_le _⟩ dX1_bestQuestion_56 ?_
        refine lv_istore (lv' := [(7, .int (if (j_bitCount ((k_Hearsay_suspects u) &&& (k_Hall_whoCan u x5_1))) < ((j_bitCount (k_Hearsay_suspects u)) - (j_bitCount ((k_Hearsay_suspects u) &&& (k_Hall_whoCan u x5_1)))) then ((j_bitCount (k_Hearsay_suspects u)) - (j_bitCount ((k_Hearsay_suspects u) &&& (k_Hall_whoCan u x5_1)))) else (j_bitCount ((k_Hearsay_suspects u) &&& (k_Hall_whoCan u x5_1))))), (6, .int (j_bitCount ((k_Hearsay_suspects u) &&& (k_Hall_whoCan u x5_1)))), (0, .ref (a 44)), (1, .int (k_Hearsay_suspects u)), (2, .int (j_bitCount (k_Hearsay_suspects u))), (3, .int x3_1), (4, .int x4_1), (5, .int x5_1)]) S.1 S.2.1 dX1_bestQuestion_59 hl (by decide) rfl (fun ls hl => ?_)
        refine lv_iload S.1 S.2.1 dX1_bestQuestion_61 (lv_at hl 0 rfl) ?_
        refine lv_iload S.1 S.2.1 dX1_bestQuestion_63 (lv_at hl 6 rfl) ?_
        refine lv_icmp_ge (tgt := 75) S.1 S.2.1 dX1_bestQuestion_65 (by decide) (fun c_5 => ?_) (fun c_5 => ?_)
        · replace hV := hV.trans (if_pos c_5)
          have gc_5 : (x4_1).toInt ≤ ((if (j_bitCount ((k_Hearsay_suspects u) &&& (k_Hall_whoCan u x5_1))) < ((j_bitCount (k_Hearsay_suspects u)) - (j_bitCount ((k_Hearsay_suspects u) &&& (k_Hall_whoCan u x5_1)))) then ((j_bitCount (k_Hearsay_suspects u)) - (j_bitCount ((k_Hearsay_suspects u) &&& (k_Hall_whoCan u x5_1)))) else (j_bitCount ((k_Hearsay_suspects u) &&& (k_Hall_whoCan u x5_1))))).toInt := xq_le c_5 rfl rfl
          refine lv_iinc (v := (x5_1 + (1 : Int32))) (lv' := [(5, .int (x5_1 + (1 : Int32))), (7, .int (if (j_bitCount ((k_Hearsay_suspects u) &&& (k_Hall_whoCan u x5_1))) < ((j_bitCount (k_Hearsay_suspects u)) - (j_bitCount ((k_Hearsay_suspects u) &&& (k_Hall_whoCan u x5_1)))) then ((j_bitCount (k_Hearsay_suspects u)) - (j_bitCount ((k_Hearsay_suspects u) &&& (k_Hall_whoCan u x5_1)))) else (j_bitCount ((k_Hearsay_suspects u) &&& (k_Hall_whoCan u x5_1))))), (6, .int (j_bitCount ((k_Hearsay_suspects u) &&& (k_Hall_whoCan u x5_1)))), (0, .ref (a 44)), (1, .int (k_Hearsay_suspects u)), (2, .int (j_bitCount (k_Hearsay_suspects u))), (3, .int x3_1), (4, .int x4_1)]) S.1 S.2.1 dX1_bestQuestion_75 hl (k := 7) rfl rfl (by decide) rfl (fun ls hl => ?_)
          refine lv_goto (tgt := 19) S.1 S.2.1 dX1_bestQuestion_78 (by decide) ?_
          have e_6 : ∀ _ : Unit, ((x5_1 + (1 : Int32))).toInt = (x5_1).toInt + 1 := fun _ => xadd rfl rfl (by omega) (by omega)
          exact ih_1 x3_1 x4_1 (x5_1 + (1 : Int32)) _ _ _ (show 0 ≤ ((x5_1 + (1 : Int32))).toInt from by rw [(e_6 ())]; omega) (show ((u.1 13 0)).toInt - ((x5_1 + (1 : Int32))).toInt < (n_1 : Int) ∧ 1 ≤ n_1 from by rw [(e_6 ())]; omega) (lv_sub hl [3, 4, 5, 6, 7, 0] rfl) hw hV
        · replace hV := hV.trans (if_neg c_5)
          have gc_5 : ((if (j_bitCount ((k_Hearsay_suspects u) &&& (k_Hall_whoCan u x5_1))) < ((j_bitCount (k_Hearsay_suspects u)) - (j_bitCount ((k_Hearsay_suspects u) &&& (k_Hall_whoCan u x5_1)))) then ((j_bitCount (k_Hearsay_suspects u)) - (j_bitCount ((k_Hearsay_suspects u) &&& (k_Hall_whoCan u x5_1)))) else (j_bitCount ((k_Hearsay_suspects u) &&& (k_Hall_whoCan u x5_1))))).toInt < (x4_1).toInt := xq_nle c_5 rfl rfl
          refine lv_iload S.1 S.2.1 dX1_bestQuestion_68 (lv_at hl 7 rfl) ?_
          refine lv_istore_n (lv' := [(3, .int x5_1), (7, .int (if (j_bitCount ((k_Hearsay_suspects u) &&& (k_Hall_whoCan u x5_1))) < ((j_bitCount (k_Hearsay_suspects u)) - (j_bitCount ((k_Hearsay_suspects u) &&& (k_Hall_whoCan u x5_1)))) then ((j_bitCount (k_Hearsay_suspects u)) - (j_bitCount ((k_Hearsay_suspects u) &&& (k_Hall_whoCan u x5_1)))) else (j_bitCount ((k_Hearsay_suspects u) &&& (k_Hall_whoCan u x5_1))))), (6, .int (j_bitCount ((k_Hearsay_suspects u) &&& (k_Hall_whoCan u x5_1)))), (0, .ref (a 44)), (1, .int (k_Hearsay_suspects u)), (2, .int (j_bitCount (k_Hearsay_suspects u))), (4, .int x4_1), (5, .int x5_1)]) S.1 S.2.1 dX1_bestQuestion_70 rfl hl (by decide) rfl (fun ls hl => ?_)
          refine lv_iload S.1 S.2.1 dX1_bestQuestion_71 (lv_at hl 1 rfl) ?_
          refine lv_istore (lv' := [(4, .int (if (j_bitCount ((k_Hearsay_suspects u) &&& (k_Hall_whoCan u x5_1))) < ((j_bitCount (k_Hearsay_suspects u)) - (j_bitCount ((k_Hearsay_suspects u) &&& (k_Hall_whoCan u x5_1)))) then ((j_bitCount (k_Hearsay_suspects u)) - (j_bitCount ((k_Hearsay_suspects u) &&& (k_Hall_whoCan u x5_1)))) else (j_bitCount ((k_Hearsay_suspects u) &&& (k_Hall_whoCan u x5_1))))), (3, .int x5_1), (7, .int (if (j_bitCount ((k_Hearsay_suspects u) &&& (k_Hall_whoCan u x5_1))) < ((j_bitCount (k_Hearsay_suspects u)) - (j_bitCount ((k_Hearsay_suspects u) &&& (k_Hall_whoCan u x5_1)))) then ((j_bitCount (k_Hearsay_suspects u)) - (j_bitCount ((k_Hearsay_suspects u) &&& (k_Hall_whoCan u x5_1)))) else (j_bitCount ((k_Hearsay_suspects u) &&& (k_Hall_whoCan u x5_1))))), (6, .int (j_bitCount ((k_Hearsay_suspects u) &&& (k_Hall_whoCan u x5_1)))), (0, .ref (a 44)), (1, .int (k_Hearsay_suspects u)), (2, .int (j_bitCount (k_Hearsay_suspects u))), (5, .int x5_1)]) S.1 S.2.1 dX1_bestQuestion_73 hl (by decide) rfl (fun ls hl => ?_)
          refine lv_iinc (v := (x5_1 + (1 : Int32))) (lv' := [(5, .int (x5_1 + (1 : Int32))), (4, .int (if (j_bitCount ((k_Hearsay_suspects u) &&& (k_Hall_whoCan u x5_1))) < ((j_bitCount (k_Hearsay_suspects u)) - (j_bitCount ((k_Hearsay_suspects u) &&& (k_Hall_whoCan u x5_1)))) then ((j_bitCount (k_Hearsay_suspects u)) - (j_bitCount ((k_Hearsay_suspects u) &&& (k_Hall_whoCan u x5_1)))) else (j_bitCount ((k_Hearsay_suspects u) &&& (k_Hall_whoCan u x5_1))))), (3, .int x5_1), (7, .int (if (j_bitCount ((k_Hearsay_suspects u) &&& (k_Hall_whoCan u x5_1))) < ((j_bitCount (k_Hearsay_suspects u)) - (j_bitCount ((k_Hearsay_suspects u) &&& (k_Hall_whoCan u x5_1)))) then ((j_bitCount (k_Hearsay_suspects u)) - (j_bitCount ((k_Hearsay_suspects u) &&& (k_Hall_whoCan u x5_1)))) else (j_bitCount ((k_Hearsay_suspects u) &&& (k_Hall_whoCan u x5_1))))), (6, .int (j_bitCount ((k_Hearsay_suspects u) &&& (k_Hall_whoCan u x5_1)))), (0, .ref (a 44)), (1, .int (k_Hearsay_suspects u)), (2, .int (j_bitCount (k_Hearsay_suspects u)))]) S.1 S.2.1 dX1_bestQuestion_75 hl (k := 7) rfl rfl (by decide) rfl (fun ls hl => ?_)
          refine lv_goto (tgt := 19) S.1 S.2.1 dX1_bestQuestion_78 (by decide) ?_
          have e_7 : ∀ _ : Unit, ((x5_1 + (1 : Int32))).toInt = (x5_1).toInt + 1 := fun _ => xadd rfl rfl (by omega) (by omega)
          exact ih_1 x5_1 (if (j_bitCount ((k_Hearsay_suspects u) &&& (k_Hall_whoCan u x5_1))) < ((j_bitCount (k_Hearsay_suspects u)) - (j_bitCount ((k_Hearsay_suspects u) &&& (k_Hall_whoCan u x5_1)))) then ((j_bitCount (k_Hearsay_suspects u)) - (j_bitCount ((k_Hearsay_suspects u) &&& (k_Hall_whoCan u x5_1)))) else (j_bitCount ((k_Hearsay_suspects u) &&& (k_Hall_whoCan u x5_1)))) (x5_1 + (1 : Int32)) _ _ _ (show 0 ≤ ((x5_1 + (1 : Int32))).toInt from by rw [(e_7 ())]; omega) (show ((u.1 13 0)).toInt - ((x5_1 + (1 : Int32))).toInt < (n_1 : Int) ∧ 1 ≤ n_1 from by rw [(e_7 ())]; omega) (lv_sub hl [5, 6, 7, 2, 1, 0] rfl) hw hV
  exact lp_1 9 (-9 : Int32) (j_bitCount (k_Hearsay_suspects u)) (0 : Int32) _ _ _ (show 0 ≤ 0 from by omega) (show ((u.1 13 0)).toInt - 0 < ((9 : Nat) : Int) ∧ 1 ≤ (9 : Nat) from by omega) (lv_sub hl [5, 4, 3, 2, 1, 0] rfl) hw hV
def k_Planner_sumOver_38_39_L5 (w : xU) (x2 : Int32) : Nat → Int32 → Int32 → Int32
  | 0, _, _ => 0
  | n + 1, x3, x4 =>
    (if (w.1 13 0) ≤ x4 then
    x3
    else
    (if (b2i (k_has x2 x4)) = (0 : Int32) then
    k_Planner_sumOver_38_39_L5 w x2 n x3 (x4 + (1 : Int32))
    else
    k_Planner_sumOver_38_39_L5 w x2 n (x3 + (w.1 39 (x4).toNatClampNeg)) (x4 + (1 : Int32))))
def k_Planner_sumOver_38_39 (u : xU) (p1 : Int32) : Int32 :=
    k_Planner_sumOver_38_39_L5 u p1 9 (0 : Int32) (0 : Int32)
set_option maxHeartbeats 4000000 in
set_option maxRecDepth 100000 in
theorem c_k_Planner_sumOver_38_39 (l : Launch) (D : va_G) (a : Nat → Nat) (Y : Nat → ClassId) (ts : Nat → Nat) (u : xU) (p1 : Int32) (hT : (0 ≤ ((u.1 13 0)).toInt ∧ ((u.1 13 0)).toInt ≤ 8)) (hC : (0 ≤ ((u.1 13 1)).toInt ∧ ((u.1 13 1)).toInt ≤ 6)) : xMi l yX7_sumOver cX7_sumOver 5 (some .int) (xRm 1 21) D (xty Y) (wC a Y) ts [.ref (a 38), .ref (a 39), .int p1] u ((k_Planner_sumOver_38_39 u p1), u) := by
  suffices h : ∀ V, V = k_Planner_sumOver_38_39 u p1 → xMi l yX7_sumOver cX7_sumOver 5 (some .int) (xRm 1 21) D (xty Y) (wC a Y) ts [.ref (a 38), .ref (a 39), .int p1] u (V, u) from h _ rfl
  intro V hV
  refine xofi RX7 rfl (by decide) (Nat.le_of_ble_eq_true rfl) ?_
  intro p e s m args below meth c ls H locs A S hr hlk hl hK hE hA hw
  have hl : lv_has ls 5 [(0, .ref (a 38)), (1, .ref (a 39)), (2, .int p1)] := hl
  refine lv_iconst (v := 0) S.1 S.2.1 dX7_sumOver_0 (by decide) ?_
  refine lv_istore_n (lv' := [(3, .int (0 : Int32)), (0, .ref (a 38)), (1, .ref (a 39)), (2, .int p1)]) S.1 S.2.1 dX7_sumOver_1 rfl hl (by decide) rfl (fun ls hl => ?_)
  refine lv_iconst (v := 0) S.1 S.2.1 dX7_sumOver_2 (by decide) ?_
  refine lv_istore (lv' := [(4, .int (0 : Int32)), (3, .int (0 : Int32)), (0, .ref (a 38)), (1, .ref (a 39)), (2, .int p1)]) S.1 S.2.1 dX7_sumOver_3 hl (by decide) rfl (fun ls hl => ?_)
  have lp_1 : ∀ (n_1 : Nat) (x3_1 : Int32) (x4_1 : Int32) (H : Heap) (locs : List Loc) (ls : Array Slot), (0 ≤ (x4_1).toInt) → (((u.1 13 0)).toInt - (x4_1).toInt < (n_1 : Int) ∧ 1 ≤ n_1) → lv_has ls 5 [(0, .ref (a 38)), (1, .ref (a 39)), (2, .int p1), (3, .int x3_1), (4, .int x4_1)] → xw D (wC a Y) A s.heap H locs u → V = k_Planner_sumOver_38_39_L5 u p1 n_1 x3_1 x4_1 → W p l e (xRm 1 21) s m args below meth c H locs 0 0 (MQ below (va_Qi (fun r v => (r, v) = (V, u)) (xPost D (wC a Y) A) A) args s 0 0 A) (F0 m 5 ls []) := by
    intro n_1
    induction n_1 with
    | zero => intro x3_1 x4_1 H locs ls i0_1 hn; exact absurd hn.2 (by decide)
    | succ n_1 ih_1 =>
      intro x3_1 x4_1 H locs ls i0_1 hn_1 hl hw hV
      refine lv_iload S.1 S.2.1 dX7_sumOver_5 (lv_at hl 4 rfl) ?_
      refine lv_aload_n S.1 S.2.1 dX7_sumOver_7 rfl (lv_at hl 0 rfl) ?_
      refine xget (v := .ref (a 12)) S hK hw 38 rfl rfl inX7 0 (by decide) mfX7_18 rfl dX7_sumOver_8 ?_
      refine xget (v := .ref (a 13)) S hK hw 12 rfl rfl inX0 0 (by decide) mfX7_22 rfl dX7_sumOver_11 ?_
      refine xget (v := .int (u.1 13 0)) S hK hw 13 rfl rfl inX9 0 (by decide) mfX7_39 rfl dX7_sumOver_14 ?_
      refine lv_icmp_ge (tgt := 42) S.1 S.2.1 dX7_sumOver_17 (by decide) (fun c_2 => ?_) (fun c_2 => ?_)
      · replace hV := hV.trans (if_pos c_2)
        have gc_2 : ((u.1 13 0)).toInt ≤ (x4_1).toInt := xq_le c_2 rfl rfl
        refine lv_iload_n S.1 S.2.1 dX7_sumOver_42 rfl (lv_at hl 3 rfl) ?_
        exact xri S hr hlk hw (congrArg (fun b => (b, u)) hV) dX7_sumOver_43
      · replace hV := hV.trans (if_neg c_2)
        have gc_2 : (x4_1).toInt < ((u.1 13 0)).toInt := xq_nle c_2 rfl rfl
        refine lv_iload_n S.1 S.2.1 dX7_sumOver_20 rfl (lv_at hl 2 rfl) ?_
        refine lv_iload S.1 S.2.1 dX7_sumOver_21 (lv_at hl 4 rfl) ?_
        refine xcPN (host := RX10) (rest := []) S hE hw yfX10_has (c_k_has l p1 x4_1) (by decide +kernel) rfl rfl hl.1 ⟨rfl, rfl, Nat.le_of_ble_eq_true rfl, Nat.le_of_ble_eq_true rfl, Nat.le_of_ble_eq_true rfl, Nat.zero_le _, Nat.zero_le _⟩ dX7_sumOver_23 (fun H locs hw => ?_)
        refine lv_if_eq (tgt := 36) S.1 S.2.1 dX7_sumOver_26 (by decide) (fun c_3 => ?_) (fun c_3 => ?_)
        · replace hV := hV.trans (if_pos c_3)
          have gc_3 : ((b2i (k_has p1 x4_1))).toInt = 0 := xq_eq c_3 rfl rfl
          refine lv_iinc (v := (x4_1 + (1 : Int32))) (lv' := [(4, .int (x4_1 + (1 : Int32))), (0, .ref (a 38)), (1, .ref (a 39)), (2, .int p1), (3, .int x3_1)]) S.1 S.2.1 dX7_sumOver_36 hl (k := 4) rfl rfl (by decide) rfl (fun ls hl => ?_)
          refine lv_goto (tgt := 5) S.1 S.2.1 dX7_sumOver_39 (by decide) ?_
          have e_4 : ∀ _ : Unit, ((x4_1 + (1 : Int32))).toInt = (x4_1).toInt + 1 := fun _ => xadd rfl rfl (by omega) (by omega)
          exact ih_1 x3_1 (x4_1 + (1 : Int32)) _ _ _ (show 0 ≤ ((x4_1 + (1 : Int32))).toInt from by rw [(e_4 ())]; omega) (show ((u.1 13 0)).toInt - ((x4_1 + (1 : Int32))).toInt < (n_1 : Int) ∧ 1 ≤ n_1 from by rw [(e_4 ())]; omega) (lv_sub hl [1, 2, 3, 4, 0] rfl) hw hV
        · replace hV := hV.trans (if_neg c_3)
          have gc_3 : ¬ ((b2i (k_has p1 x4_1))).toInt = 0 := xq_ne c_3 rfl rfl
          refine lv_iload_n S.1 S.2.1 dX7_sumOver_29 rfl (lv_at hl 3 rfl) ?_
          refine lv_aload_n S.1 S.2.1 dX7_sumOver_30 rfl (lv_at hl 1 rfl) ?_
          refine lv_iload S.1 S.2.1 dX7_sumOver_31 (lv_at hl 4 rfl) ?_
          refine xald (f := u.1 39) S hK hw 39 0 rfl rfl (xvi rfl (by omega) (by omega)) dX7_sumOver_33 ?_
          refine lv_iadd S.1 S.2.1 dX7_sumOver_34 ?_
          refine lv_istore_n (lv' := [(3, .int (x3_1 + (u.1 39 (x4_1).toNatClampNeg))), (0, .ref (a 38)), (1, .ref (a 39)), (2, .int p1), (4, .int x4_1)]) S.1 S.2.1 dX7_sumOver_35 rfl hl (by decide) rfl (fun ls hl => ?_)
          refine lv_iinc (v := (x4_1 + (1 : Int32))) (lv' := [(4, .int (x4_1 + (1 : Int32))), (3, .int (x3_1 + (u.1 39 (x4_1).toNatClampNeg))), (0, .ref (a 38)), (1, .ref (a 39)), (2, .int p1)]) S.1 S.2.1 dX7_sumOver_36 hl (k := 4) rfl rfl (by decide) rfl (fun ls hl => ?_)
          refine lv_goto (tgt := 5) S.1 S.2.1 dX7_sumOver_39 (by decide) ?_
          have e_5 : ∀ _ : Unit, ((x4_1 + (1 : Int32))).toInt = (x4_1).toInt + 1 := fun _ => xadd rfl rfl (by omega) (by omega)
          exact ih_1 (x3_1 + (u.1 39 (x4_1).toNatClampNeg)) (x4_1 + (1 : Int32)) _ _ _ (show 0 ≤ ((x4_1 + (1 : Int32))).toInt from by rw [(e_5 ())]; omega) (show ((u.1 13 0)).toInt - ((x4_1 + (1 : Int32))).toInt < (n_1 : Int) ∧ 1 ≤ n_1 from by rw [(e_5 ())]; omega) (lv_sub hl [2, 3, 4, 1, 0] rfl) hw hV
  exact lp_1 9 (0 : Int32) (0 : Int32) _ _ _ (show 0 ≤ 0 from by omega) (show ((u.1 13 0)).toInt - 0 < ((9 : Nat) : Int) ∧ 1 ≤ (9 : Nat) from by omega) (lv_sub hl [2, 3, 4, 1, 0] rfl) hw hV
def k_Planner_nightsOf (u : xU) (p1 : Int32) : Int32 :=
    (k_Planner_sumOver_38_39 u p1)
set_option maxHeartbeats 4000000 in
set_option maxRecDepth 100000 in
theorem c_k_Planner_nightsOf (l : Launch) (D : va_G) (a : Nat → Nat) (Y : Nat → ClassId) (ts : Nat → Nat) (u : xU) (p1 : Int32) (hT : (0 ≤ ((u.1 13 0)).toInt ∧ ((u.1 13 0)).toInt ≤ 8)) (hC : (0 ≤ ((u.1 13 1)).toInt ∧ ((u.1 13 1)).toInt ≤ 6)) : xMi l yX7_nightsOf cX7_nightsOf 2 (some .int) (xRm 2 45) D (xty Y) (wC a Y) ts [.ref (a 38), .int p1] u ((k_Planner_nightsOf u p1), u) := by
  suffices h : ∀ V, V = k_Planner_nightsOf u p1 → xMi l yX7_nightsOf cX7_nightsOf 2 (some .int) (xRm 2 45) D (xty Y) (wC a Y) ts [.ref (a 38), .int p1] u (V, u) from h _ rfl
  intro V hV
  refine xofi RX7 rfl (by decide) (Nat.le_of_ble_eq_true rfl) ?_
  intro p e s m args below meth c ls H locs A S hr hlk hl hK hE hA hw
  have hl : lv_has ls 2 [(0, .ref (a 38)), (1, .int p1)] := hl
  refine lv_aload_n S.1 S.2.1 dX7_nightsOf_0 rfl (lv_at hl 0 rfl) ?_
  refine lv_aload_n S.1 S.2.1 dX7_nightsOf_1 rfl (lv_at hl 0 rfl) ?_
  refine xget (v := .ref (a 39)) S hK hw 38 rfl rfl inX7 1 (by decide) mfX7_9 rfl dX7_nightsOf_2 ?_
  refine lv_iload_n S.1 S.2.1 dX7_nightsOf_5 rfl (lv_at hl 1 rfl) ?_
  refine xci (rest := []) S hK hE hA hw yfX7_sumOver (c_k_Planner_sumOver_38_39 l D a Y ts _ p1 (show (0 ≤ ((u.1 13 0)).toInt ∧ ((u.1 13 0)).toInt ≤ 8) from by omega) (show (0 ≤ ((u.1 13 1)).toInt ∧ ((u.1 13 1)).toInt ≤ 6) from by omega)) 38 rfl rfl mlX7_58 rfl rfl hl.1 ⟨rfl, rfl, Nat.le_of_ble_eq_true rfl, Nat.le_of_ble_eq_true rfl, Nat.le_of_ble_eq_true rfl, Nat.zero_le _, Nat.zero_le _⟩ dX7_nightsOf_6 (fun H locs hw => ?_)
  exact xri S hr hlk hw (congrArg (fun b => (b, u)) hV) dX7_nightsOf_9
def k_Planner_sumOver_38_40_L5 (w : xU) (x2 : Int32) : Nat → Int32 → Int32 → Int32
  | 0, _, _ => 0
  | n + 1, x3, x4 =>
    (if (w.1 13 0) ≤ x4 then
    x3
    else
    (if (b2i (k_has x2 x4)) = (0 : Int32) then
    k_Planner_sumOver_38_40_L5 w x2 n x3 (x4 + (1 : Int32))
    else
    k_Planner_sumOver_38_40_L5 w x2 n (x3 + (w.1 40 (x4).toNatClampNeg)) (x4 + (1 : Int32))))
def k_Planner_sumOver_38_40 (u : xU) (p1 : Int32) : Int32 :=
    k_Planner_sumOver_38_40_L5 u p1 9 (0 : Int32) (0 : Int32)
set_option maxHeartbeats 4000000 in
set_option maxRecDepth 100000 in
theorem c_k_Planner_sumOver_38_40 (l : Launch) (D : va_G) (a : Nat → Nat) (Y : Nat → ClassId) (ts : Nat → Nat) (u : xU) (p1 : Int32) (hT : (0 ≤ ((u.1 13 0)).toInt ∧ ((u.1 13 0)).toInt ≤ 8)) (hC : (0 ≤ ((u.1 13 1)).toInt ∧ ((u.1 13 1)).toInt ≤ 6)) : xMi l yX7_sumOver cX7_sumOver 5 (some .int) (xRm 1 21) D (xty Y) (wC a Y) ts [.ref (a 38), .ref (a 40), .int p1] u ((k_Planner_sumOver_38_40 u p1), u) := by
  suffices h : ∀ V, V = k_Planner_sumOver_38_40 u p1 → xMi l yX7_sumOver cX7_sumOver 5 (some .int) (xRm 1 21) D (xty Y) (wC a Y) ts [.ref (a 38), .ref (a 40), .int p1] u (V, u) from h _ rfl
  intro V hV
  refine xofi RX7 rfl (by decide) (Nat.le_of_ble_eq_true rfl) ?_
  intro p e s m args below meth c ls H locs A S hr hlk hl hK hE hA hw
  have hl : lv_has ls 5 [(0, .ref (a 38)), (1, .ref (a 40)), (2, .int p1)] := hl
  refine lv_iconst (v := 0) S.1 S.2.1 dX7_sumOver_0 (by decide) ?_
  refine lv_istore_n (lv' := [(3, .int (0 : Int32)), (0, .ref (a 38)), (1, .ref (a 40)), (2, .int p1)]) S.1 S.2.1 dX7_sumOver_1 rfl hl (by decide) rfl (fun ls hl => ?_)
  refine lv_iconst (v := 0) S.1 S.2.1 dX7_sumOver_2 (by decide) ?_
  refine lv_istore (lv' := [(4, .int (0 : Int32)), (3, .int (0 : Int32)), (0, .ref (a 38)), (1, .ref (a 40)), (2, .int p1)]) S.1 S.2.1 dX7_sumOver_3 hl (by decide) rfl (fun ls hl => ?_)
  have lp_1 : ∀ (n_1 : Nat) (x3_1 : Int32) (x4_1 : Int32) (H : Heap) (locs : List Loc) (ls : Array Slot), (0 ≤ (x4_1).toInt) → (((u.1 13 0)).toInt - (x4_1).toInt < (n_1 : Int) ∧ 1 ≤ n_1) → lv_has ls 5 [(0, .ref (a 38)), (1, .ref (a 40)), (2, .int p1), (3, .int x3_1), (4, .int x4_1)] → xw D (wC a Y) A s.heap H locs u → V = k_Planner_sumOver_38_40_L5 u p1 n_1 x3_1 x4_1 → W p l e (xRm 1 21) s m args below meth c H locs 0 0 (MQ below (va_Qi (fun r v => (r, v) = (V, u)) (xPost D (wC a Y) A) A) args s 0 0 A) (F0 m 5 ls []) := by
    intro n_1
    induction n_1 with
    | zero => intro x3_1 x4_1 H locs ls i0_1 hn; exact absurd hn.2 (by decide)
    | succ n_1 ih_1 =>
      intro x3_1 x4_1 H locs ls i0_1 hn_1 hl hw hV
      refine lv_iload S.1 S.2.1 dX7_sumOver_5 (lv_at hl 4 rfl) ?_
      refine lv_aload_n S.1 S.2.1 dX7_sumOver_7 rfl (lv_at hl 0 rfl) ?_
      refine xget (v := .ref (a 12)) S hK hw 38 rfl rfl inX7 0 (by decide) mfX7_18 rfl dX7_sumOver_8 ?_
      refine xget (v := .ref (a 13)) S hK hw 12 rfl rfl inX0 0 (by decide) mfX7_22 rfl dX7_sumOver_11 ?_
      refine xget (v := .int (u.1 13 0)) S hK hw 13 rfl rfl inX9 0 (by decide) mfX7_39 rfl dX7_sumOver_14 ?_
      refine lv_icmp_ge (tgt := 42) S.1 S.2.1 dX7_sumOver_17 (by decide) (fun c_2 => ?_) (fun c_2 => ?_)
      · replace hV := hV.trans (if_pos c_2)
        have gc_2 : ((u.1 13 0)).toInt ≤ (x4_1).toInt := xq_le c_2 rfl rfl
        refine lv_iload_n S.1 S.2.1 dX7_sumOver_42 rfl (lv_at hl 3 rfl) ?_
        exact xri S hr hlk hw (congrArg (fun b => (b, u)) hV) dX7_sumOver_43
      · replace hV := hV.trans (if_neg c_2)
        have gc_2 : (x4_1).toInt < ((u.1 13 0)).toInt := xq_nle c_2 rfl rfl
        refine lv_iload_n S.1 S.2.1 dX7_sumOver_20 rfl (lv_at hl 2 rfl) ?_
        refine lv_iload S.1 S.2.1 dX7_sumOver_21 (lv_at hl 4 rfl) ?_
        refine xcPN (host := RX10) (rest := []) S hE hw yfX10_has (c_k_has l p1 x4_1) (by decide +kernel) rfl rfl hl.1 ⟨rfl, rfl, Nat.le_of_ble_eq_true rfl, Nat.le_of_ble_eq_true rfl, Nat.le_of_ble_eq_true rfl, Nat.zero_le _, Nat.zero_le _⟩ dX7_sumOver_23 (fun H locs hw => ?_)
        refine lv_if_eq (tgt := 36) S.1 S.2.1 dX7_sumOver_26 (by decide) (fun c_3 => ?_) (fun c_3 => ?_)
        · replace hV := hV.trans (if_pos c_3)
          have gc_3 : ((b2i (k_has p1 x4_1))).toInt = 0 := xq_eq c_3 rfl rfl
          refine lv_iinc (v := (x4_1 + (1 : Int32))) (lv' := [(4, .int (x4_1 + (1 : Int32))), (0, .ref (a 38)), (1, .ref (a 40)), (2, .int p1), (3, .int x3_1)]) S.1 S.2.1 dX7_sumOver_36 hl (k := 4) rfl rfl (by decide) rfl (fun ls hl => ?_)
          refine lv_goto (tgt := 5) S.1 S.2.1 dX7_sumOver_39 (by decide) ?_
          have e_4 : ∀ _ : Unit, ((x4_1 + (1 : Int32))).toInt = (x4_1).toInt + 1 := fun _ => xadd rfl rfl (by omega) (by omega)
          exact ih_1 x3_1 (x4_1 + (1 : Int32)) _ _ _ (show 0 ≤ ((x4_1 + (1 : Int32))).toInt from by rw [(e_4 ())]; omega) (show ((u.1 13 0)).toInt - ((x4_1 + (1 : Int32))).toInt < (n_1 : Int) ∧ 1 ≤ n_1 from by rw [(e_4 ())]; omega) (lv_sub hl [1, 2, 3, 4, 0] rfl) hw hV
        · replace hV := hV.trans (if_neg c_3)
          have gc_3 : ¬ ((b2i (k_has p1 x4_1))).toInt = 0 := xq_ne c_3 rfl rfl
          refine lv_iload_n S.1 S.2.1 dX7_sumOver_29 rfl (lv_at hl 3 rfl) ?_
          refine lv_aload_n S.1 S.2.1 dX7_sumOver_30 rfl (lv_at hl 1 rfl) ?_
          refine lv_iload S.1 S.2.1 dX7_sumOver_31 (lv_at hl 4 rfl) ?_
          refine xald (f := u.1 40) S hK hw 40 0 rfl rfl (xvi rfl (by omega) (by omega)) dX7_sumOver_33 ?_
          refine lv_iadd S.1 S.2.1 dX7_sumOver_34 ?_
          refine lv_istore_n (lv' := [(3, .int (x3_1 + (u.1 40 (x4_1).toNatClampNeg))), (0, .ref (a 38)), (1, .ref (a 40)), (2, .int p1), (4, .int x4_1)]) S.1 S.2.1 dX7_sumOver_35 rfl hl (by decide) rfl (fun ls hl => ?_)
          refine lv_iinc (v := (x4_1 + (1 : Int32))) (lv' := [(4, .int (x4_1 + (1 : Int32))), (3, .int (x3_1 + (u.1 40 (x4_1).toNatClampNeg))), (0, .ref (a 38)), (1, .ref (a 40)), (2, .int p1)]) S.1 S.2.1 dX7_sumOver_36 hl (k := 4) rfl rfl (by decide) rfl (fun ls hl => ?_)
          refine lv_goto (tgt := 5) S.1 S.2.1 dX7_sumOver_39 (by decide) ?_
          have e_5 : ∀ _ : Unit, ((x4_1 + (1 : Int32))).toInt = (x4_1).toInt + 1 := fun _ => xadd rfl rfl (by omega) (by omega)
          exact ih_1 (x3_1 + (u.1 40 (x4_1).toNatClampNeg)) (x4_1 + (1 : Int32)) _ _ _ (show 0 ≤ ((x4_1 + (1 : Int32))).toInt from by rw [(e_5 ())]; omega) (show ((u.1 13 0)).toInt - ((x4_1 + (1 : Int32))).toInt < (n_1 : Int) ∧ 1 ≤ n_1 from by rw [(e_5 ())]; omega) (lv_sub hl [2, 3, 4, 1, 0] rfl) hw hV
  exact lp_1 9 (0 : Int32) (0 : Int32) _ _ _ (show 0 ≤ 0 from by omega) (show ((u.1 13 0)).toInt - 0 < ((9 : Nat) : Int) ∧ 1 ≤ (9 : Nat) from by omega) (lv_sub hl [2, 3, 4, 1, 0] rfl) hw hV
def k_Planner_cracksOf (u : xU) (p1 : Int32) : Int32 :=
    (k_Planner_sumOver_38_40 u p1)
set_option maxHeartbeats 4000000 in
set_option maxRecDepth 100000 in
theorem c_k_Planner_cracksOf (l : Launch) (D : va_G) (a : Nat → Nat) (Y : Nat → ClassId) (ts : Nat → Nat) (u : xU) (p1 : Int32) (hT : (0 ≤ ((u.1 13 0)).toInt ∧ ((u.1 13 0)).toInt ≤ 8)) (hC : (0 ≤ ((u.1 13 1)).toInt ∧ ((u.1 13 1)).toInt ≤ 6)) : xMi l yX7_cracksOf cX7_cracksOf 2 (some .int) (xRm 2 45) D (xty Y) (wC a Y) ts [.ref (a 38), .int p1] u ((k_Planner_cracksOf u p1), u) := by
  suffices h : ∀ V, V = k_Planner_cracksOf u p1 → xMi l yX7_cracksOf cX7_cracksOf 2 (some .int) (xRm 2 45) D (xty Y) (wC a Y) ts [.ref (a 38), .int p1] u (V, u) from h _ rfl
  intro V hV
  refine xofi RX7 rfl (by decide) (Nat.le_of_ble_eq_true rfl) ?_
  intro p e s m args below meth c ls H locs A S hr hlk hl hK hE hA hw
  have hl : lv_has ls 2 [(0, .ref (a 38)), (1, .int p1)] := hl
  refine lv_aload_n S.1 S.2.1 dX7_cracksOf_0 rfl (lv_at hl 0 rfl) ?_
  refine lv_aload_n S.1 S.2.1 dX7_cracksOf_1 rfl (lv_at hl 0 rfl) ?_
  refine xget (v := .ref (a 40)) S hK hw 38 rfl rfl inX7 2 (by decide) mfX7_15 rfl dX7_cracksOf_2 ?_
  refine lv_iload_n S.1 S.2.1 dX7_cracksOf_5 rfl (lv_at hl 1 rfl) ?_
  refine xci (rest := []) S hK hE hA hw yfX7_sumOver (c_k_Planner_sumOver_38_40 l D a Y ts _ p1 (show (0 ≤ ((u.1 13 0)).toInt ∧ ((u.1 13 0)).toInt ≤ 8) from by omega) (show (0 ≤ ((u.1 13 1)).toInt ∧ ((u.1 13 1)).toInt ≤ 6) from by omega)) 38 rfl rfl mlX7_58 rfl rfl hl.1 ⟨rfl, rfl, Nat.le_of_ble_eq_true rfl, Nat.le_of_ble_eq_true rfl, Nat.le_of_ble_eq_true rfl, Nat.zero_le _, Nat.zero_le _⟩ dX7_cracksOf_6 (fun H locs hw => ?_)
  exact xri S hr hlk hw (congrArg (fun b => (b, u)) hV) dX7_cracksOf_9
def k_Planner_toLearnFor_L7 (w : xU) (x1 : Int32) : Nat → Int32 → Int32 → Int32
  | 0, _, _ => 0
  | n + 1, x3, x4 =>
    (if x4 < (0 : Int32) then
    (x3 &&& ((w.1 23 (x1).toNatClampNeg) ^^^ (-1 : Int32)))
    else
    (if (b2i (k_has x3 x4)) = (0 : Int32) then
    k_Planner_toLearnFor_L7 w x1 n x3 (x4 + (-1 : Int32))
    else
    k_Planner_toLearnFor_L7 w x1 n (x3 ||| (w.1 17 (x4).toNatClampNeg)) (x4 + (-1 : Int32))))
def k_Planner_toLearnFor (u : xU) (p1 : Int32) (p2 : Int32) : Int32 :=
    k_Planner_toLearnFor_L7 u p1 9 ((1 : Int32) <<< (p2 &&& 31)) p2
set_option maxHeartbeats 4000000 in
set_option maxRecDepth 100000 in
theorem c_k_Planner_toLearnFor (l : Launch) (D : va_G) (a : Nat → Nat) (Y : Nat → ClassId) (ts : Nat → Nat) (u : xU) (p1 : Int32) (p2 : Int32) (hT : (0 ≤ ((u.1 13 0)).toInt ∧ ((u.1 13 0)).toInt ≤ 8)) (hC : (0 ≤ ((u.1 13 1)).toInt ∧ ((u.1 13 1)).toInt ≤ 6)) (hp0 : 0 ≤ (p1).toInt ∧ (p1).toInt < 6) (hp1 : 0 ≤ (p2).toInt ∧ (p2).toInt < 8) : xMi l yX7_toLearnFor cX7_toLearnFor 5 (some .int) (xRm 1 21) D (xty Y) (wC a Y) ts [.ref (a 38), .int p1, .int p2] u ((k_Planner_toLearnFor u p1 p2), u) := by
  suffices h : ∀ V, V = k_Planner_toLearnFor u p1 p2 → xMi l yX7_toLearnFor cX7_toLearnFor 5 (some .int) (xRm 1 21) D (xty Y) (wC a Y) ts [.ref (a 38), .int p1, .int p2] u (V, u) from h _ rfl
  intro V hV
  refine xofi RX7 rfl (by decide) (Nat.le_of_ble_eq_true rfl) ?_
  intro p e s m args below meth c ls H locs A S hr hlk hl hK hE hA hw
  have hl : lv_has ls 5 [(0, .ref (a 38)), (1, .int p1), (2, .int p2)] := hl
  refine lv_iconst (v := 1) S.1 S.2.1 dX7_toLearnFor_0 (by decide) ?_
  refine lv_iload_n S.1 S.2.1 dX7_toLearnFor_1 rfl (lv_at hl 2 rfl) ?_
  refine lv_ishl S.1 S.2.1 dX7_toLearnFor_2 ?_
  refine lv_istore_n (lv' := [(3, .int ((1 : Int32) <<< (p2 &&& 31))), (0, .ref (a 38)), (1, .int p1), (2, .int p2)]) S.1 S.2.1 dX7_toLearnFor_3 rfl hl (by decide) rfl (fun ls hl => ?_)
  refine lv_iload_n S.1 S.2.1 dX7_toLearnFor_4 rfl (lv_at hl 3 rfl) ?_
  refine lv_istore (lv' := [(4, .int p2), (3, .int ((1 : Int32) <<< (p2 &&& 31))), (0, .ref (a 38)), (1, .int p1), (2, .int p2)]) S.1 S.2.1 dX7_toLearnFor_5 hl (by decide) rfl (fun ls hl => ?_)
  have lp_1 : ∀ (n_1 : Nat) (x3_1 : Int32) (x4_1 : Int32) (H : Heap) (locs : List Loc) (ls : Array Slot), (-1 ≤ (x4_1).toInt ∧ (x4_1).toInt ≤ (p2).toInt) → ((x4_1).toInt + 1 < (n_1 : Int) ∧ 1 ≤ n_1) → lv_has ls 5 [(0, .ref (a 38)), (1, .int p1), (3, .int x3_1), (4, .int x4_1)] → xw D (wC a Y) A s.heap H locs u → V = k_Planner_toLearnFor_L7 u p1 n_1 x3_1 x4_1 → W p l e (xRm 1 21) s m args below meth c H locs 0 0 (MQ below (va_Qi (fun r v => (r, v) = (V, u)) (xPost D (wC a Y) A) A) args s 0 0 A) (F0 m 7 ls []) := by
    intro n_1
    induction n_1 with
    | zero => intro x3_1 x4_1 H locs ls i0_1 hn; exact absurd hn.2 (by decide)
    | succ n_1 ih_1 =>
      intro x3_1 x4_1 H locs ls i0_1 hn_1 hl hw hV
      refine lv_iload S.1 S.2.1 dX7_toLearnFor_7 (lv_at hl 3 rfl) ?_
      refine lv_if_lt (tgt := 43) S.1 S.2.1 dX7_toLearnFor_9 (by decide) (fun c_2 => ?_) (fun c_2 => ?_)
      · replace hV := hV.trans (if_pos c_2)
        have gc_2 : (x4_1).toInt < 0 := xq_lt c_2 rfl rfl
        refine lv_iload_n S.1 S.2.1 dX7_toLearnFor_43 rfl (lv_at hl 2 rfl) ?_
        refine lv_aload_n S.1 S.2.1 dX7_toLearnFor_44 rfl (lv_at hl 0 rfl) ?_
        refine xget (v := .ref (a 12)) S hK hw 38 rfl rfl inX7 0 (by decide) mfX7_18 rfl dX7_toLearnFor_45 ?_
        refine xget (v := .ref (a 21)) S hK hw 12 rfl rfl inX0 1 (by decide) mfX7_46 rfl dX7_toLearnFor_48 ?_
        refine xget (v := .ref (a 23)) S hK hw 21 rfl rfl inX4 3 (by decide) mfX7_69 rfl dX7_toLearnFor_51 ?_
        refine lv_iload_n S.1 S.2.1 dX7_toLearnFor_54 rfl (lv_at hl 1 rfl) ?_
        refine xald (f := u.1 23) S hK hw 23 0 rfl rfl (xvi rfl (by omega) (by omega)) dX7_toLearnFor_55 ?_
        refine lv_iconst (v := -1) S.1 S.2.1 dX7_toLearnFor_56 (by decide) ?_
        refine lv_ixor S.1 S.2.1 dX7_toLearnFor_57 ?_
        refine lv_iand S.1 S.2.1 dX7_toLearnFor_58 ?_
        exact xri S hr hlk hw (congrArg (fun b => (b, u)) hV) dX7_toLearnFor_59
      · replace hV := hV.trans (if_neg c_2)
        have gc_2 : 0 ≤ (x4_1).toInt := xq_nlt c_2 rfl rfl
        refine lv_iload_n S.1 S.2.1 dX7_toLearnFor_12 rfl (lv_at hl 2 rfl) ?_
        refine lv_iload S.1 S.2.1 dX7_toLearnFor_13 (lv_at hl 3 rfl) ?_
        refine xcPN (host := RX10) (rest := []) S hE hw yfX10_has (c_k_has l x3_1 x4_1) (by decide +kernel) rfl rfl hl.1 ⟨rfl, rfl, Nat.le_of_ble_eq_true rfl, Nat.le_of_ble_eq_true rfl, Nat.le_of_ble_eq_true rfl, Nat.zero_le _, Nat.zero_le _⟩ dX7_toLearnFor_15 (fun H locs hw => ?_)
        refine lv_if_eq (tgt := 37) S.1 S.2.1 dX7_toLearnFor_18 (by decide) (fun c_3 => ?_) (fun c_3 => ?_)
        · replace hV := hV.trans (if_pos c_3)
          have gc_3 : ((b2i (k_has x3_1 x4_1))).toInt = 0 := xq_eq c_3 rfl rfl
          refine lv_iinc (v := (x4_1 + (-1 : Int32))) (lv' := [(4, .int (x4_1 + (-1 : Int32))), (0, .ref (a 38)), (1, .int p1), (3, .int x3_1)]) S.1 S.2.1 dX7_toLearnFor_37 hl (k := 3) rfl rfl (by decide) rfl (fun ls hl => ?_)
          refine lv_goto (tgt := 7) S.1 S.2.1 dX7_toLearnFor_40 (by decide) ?_
          have e_4 : ∀ _ : Unit, ((x4_1 + (-1 : Int32))).toInt = (x4_1).toInt + (-1) := fun _ => xadd rfl rfl (by omega) (by omega)
          exact ih_1 x3_1 (x4_1 + (-1 : Int32)) _ _ _ (show -1 ≤ ((x4_1 + (-1 : Int32))).toInt ∧ ((x4_1 + (-1 : Int32))).toInt ≤ (p2).toInt from by rw [(e_4 ())]; omega) (show ((x4_1 + (-1 : Int32))).toInt + 1 < (n_1 : Int) ∧ 1 ≤ n_1 from by rw [(e_4 ())]; omega) (lv_sub hl [1, 2, 3, 0] rfl) hw hV
        · replace hV := hV.trans (if_neg c_3)
          have gc_3 : ¬ ((b2i (k_has x3_1 x4_1))).toInt = 0 := xq_ne c_3 rfl rfl
          refine lv_iload_n S.1 S.2.1 dX7_toLearnFor_21 rfl (lv_at hl 2 rfl) ?_
          refine lv_aload_n S.1 S.2.1 dX7_toLearnFor_22 rfl (lv_at hl 0 rfl) ?_
          refine xget (v := .ref (a 12)) S hK hw 38 rfl rfl inX7 0 (by decide) mfX7_18 rfl dX7_toLearnFor_23 ?_
          refine xget (v := .ref (a 13)) S hK hw 12 rfl rfl inX0 0 (by decide) mfX7_22 rfl dX7_toLearnFor_26 ?_
          refine xget (v := .ref (a 17)) S hK hw 13 rfl rfl inX9 5 (by decide) mfX7_66 rfl dX7_toLearnFor_29 ?_
          refine lv_iload S.1 S.2.1 dX7_toLearnFor_32 (lv_at hl 3 rfl) ?_
          refine xald (f := u.1 17) S hK hw 17 0 rfl rfl (xvi rfl (by omega) (by omega)) dX7_toLearnFor_34 ?_
          refine lv_ior S.1 S.2.1 dX7_toLearnFor_35 ?_
          refine lv_istore_n (lv' := [(3, .int (x3_1 ||| (u.1 17 (x4_1).toNatClampNeg))), (0, .ref (a 38)), (1, .int p1), (4, .int x4_1)]) S.1 S.2.1 dX7_toLearnFor_36 rfl hl (by decide) rfl (fun ls hl => ?_)
          refine lv_iinc (v := (x4_1 + (-1 : Int32))) (lv' := [(4, .int (x4_1 + (-1 : Int32))), (3, .int (x3_1 ||| (u.1 17 (x4_1).toNatClampNeg))), (0, .ref (a 38)), (1, .int p1)]) S.1 S.2.1 dX7_toLearnFor_37 hl (k := 3) rfl rfl (by decide) rfl (fun ls hl => ?_)
          refine lv_goto (tgt := 7) S.1 S.2.1 dX7_toLearnFor_40 (by decide) ?_
          have e_5 : ∀ _ : Unit, ((x4_1 + (-1 : Int32))).toInt = (x4_1).toInt + (-1) := fun _ => xadd rfl rfl (by omega) (by omega)
          exact ih_1 (x3_1 ||| (u.1 17 (x4_1).toNatClampNeg)) (x4_1 + (-1 : Int32)) _ _ _ (show -1 ≤ ((x4_1 + (-1 : Int32))).toInt ∧ ((x4_1 + (-1 : Int32))).toInt ≤ (p2).toInt from by rw [(e_5 ())]; omega) (show ((x4_1 + (-1 : Int32))).toInt + 1 < (n_1 : Int) ∧ 1 ≤ n_1 from by rw [(e_5 ())]; omega) (lv_sub hl [2, 3, 1, 0] rfl) hw hV
  exact lp_1 9 ((1 : Int32) <<< (p2 &&& 31)) p2 _ _ _ (show -1 ≤ (p2).toInt ∧ (p2).toInt ≤ (p2).toInt from by omega) (show (p2).toInt + 1 < ((9 : Nat) : Int) ∧ 1 ≤ (9 : Nat) from by omega) (lv_sub hl [2, 3, 1, 0] rfl) hw hV
def k_Planner_learnable_L4 (w : xU) (x1 : Int32) : Nat → Int32 → Int32 → Int32
  | 0, _, _ => 0
  | n + 1, x2, x3 =>
    (if (w.1 13 0) ≤ x3 then
    x2
    else
    (if (b2i (k_has (w.1 23 (x1).toNatClampNeg) x3)) = (0 : Int32) then
    (if (b2i (k_Hall_lacksPartOf w x1 x3)) = (0 : Int32) then
    k_Planner_learnable_L4 w x1 n (x2 ||| ((1 : Int32) <<< (x3 &&& 31))) (x3 + (1 : Int32))
    else
    k_Planner_learnable_L4 w x1 n x2 (x3 + (1 : Int32)))
    else
    k_Planner_learnable_L4 w x1 n x2 (x3 + (1 : Int32))))
def k_Planner_learnable (u : xU) (p1 : Int32) : Int32 :=
    k_Planner_learnable_L4 u p1 9 (0 : Int32) (0 : Int32)
set_option maxHeartbeats 4000000 in
set_option maxRecDepth 100000 in
theorem c_k_Planner_learnable (l : Launch) (D : va_G) (a : Nat → Nat) (Y : Nat → ClassId) (ts : Nat → Nat) (u : xU) (p1 : Int32) (hT : (0 ≤ ((u.1 13 0)).toInt ∧ ((u.1 13 0)).toInt ≤ 8)) (hC : (0 ≤ ((u.1 13 1)).toInt ∧ ((u.1 13 1)).toInt ≤ 6)) (hp0 : 0 ≤ (p1).toInt ∧ (p1).toInt < 6) : xMi l yX7_learnable cX7_learnable 4 (some .int) (xRm 2 43) D (xty Y) (wC a Y) ts [.ref (a 38), .int p1] u ((k_Planner_learnable u p1), u) := by
  suffices h : ∀ V, V = k_Planner_learnable u p1 → xMi l yX7_learnable cX7_learnable 4 (some .int) (xRm 2 43) D (xty Y) (wC a Y) ts [.ref (a 38), .int p1] u (V, u) from h _ rfl
  intro V hV
  refine xofi RX7 rfl (by decide) (Nat.le_of_ble_eq_true rfl) ?_
  intro p e s m args below meth c ls H locs A S hr hlk hl hK hE hA hw
  have hl : lv_has ls 4 [(0, .ref (a 38)), (1, .int p1)] := hl
  refine lv_iconst (v := 0) S.1 S.2.1 dX7_learnable_0 (by decide) ?_
  refine lv_istore_n (lv' := [(2, .int (0 : Int32)), (0, .ref (a 38)), (1, .int p1)]) S.1 S.2.1 dX7_learnable_1 rfl hl (by decide) rfl (fun ls hl => ?_)
  refine lv_iconst (v := 0) S.1 S.2.1 dX7_learnable_2 (by decide) ?_
  refine lv_istore_n (lv' := [(3, .int (0 : Int32)), (2, .int (0 : Int32)), (0, .ref (a 38)), (1, .int p1)]) S.1 S.2.1 dX7_learnable_3 rfl hl (by decide) rfl (fun ls hl => ?_)
  have lp_1 : ∀ (n_1 : Nat) (x2_1 : Int32) (x3_1 : Int32) (H : Heap) (locs : List Loc) (ls : Array Slot), (0 ≤ (x3_1).toInt) → (((u.1 13 0)).toInt - (x3_1).toInt < (n_1 : Int) ∧ 1 ≤ n_1) → lv_has ls 4 [(0, .ref (a 38)), (1, .int p1), (2, .int x2_1), (3, .int x3_1)] → xw D (wC a Y) A s.heap H locs u → V = k_Planner_learnable_L4 u p1 n_1 x2_1 x3_1 → W p l e (xRm 2 43) s m args below meth c H locs 0 0 (MQ below (va_Qi (fun r v => (r, v) = (V, u)) (xPost D (wC a Y) A) A) args s 0 0 A) (F0 m 4 ls []) := by
    intro n_1
    induction n_1 with
    | zero => intro x2_1 x3_1 H locs ls i0_1 hn; exact absurd hn.2 (by decide)
    | succ n_1 ih_1 =>
      intro x2_1 x3_1 H locs ls i0_1 hn_1 hl hw hV
      refine lv_iload_n S.1 S.2.1 dX7_learnable_4 rfl (lv_at hl 3 rfl) ?_
      refine lv_aload_n S.1 S.2.1 dX7_learnable_5 rfl (lv_at hl 0 rfl) ?_
      refine xget (v := .ref (a 12)) S hK hw 38 rfl rfl inX7 0 (by decide) mfX7_18 rfl dX7_learnable_6 ?_
      refine xget (v := .ref (a 13)) S hK hw 12 rfl rfl inX0 0 (by decide) mfX7_22 rfl dX7_learnable_9 ?_
      refine xget (v := .int (u.1 13 0)) S hK hw 13 rfl rfl inX9 0 (by decide) mfX7_39 rfl dX7_learnable_12 ?_
      refine lv_icmp_ge (tgt := 61) S.1 S.2.1 dX7_learnable_15 (by decide) (fun c_2 => ?_) (fun c_2 => ?_)
      · replace hV := hV.trans (if_pos c_2)
        have gc_2 : ((u.1 13 0)).toInt ≤ (x3_1).toInt := xq_le c_2 rfl rfl
        refine lv_iload_n S.1 S.2.1 dX7_learnable_61 rfl (lv_at hl 2 rfl) ?_
        exact xri S hr hlk hw (congrArg (fun b => (b, u)) hV) dX7_learnable_62
      · replace hV := hV.trans (if_neg c_2)
        have gc_2 : (x3_1).toInt < ((u.1 13 0)).toInt := xq_nle c_2 rfl rfl
        refine lv_aload_n S.1 S.2.1 dX7_learnable_18 rfl (lv_at hl 0 rfl) ?_
        refine xget (v := .ref (a 12)) S hK hw 38 rfl rfl inX7 0 (by decide) mfX7_18 rfl dX7_learnable_19 ?_
        refine xget (v := .ref (a 21)) S hK hw 12 rfl rfl inX0 1 (by decide) mfX7_46 rfl dX7_learnable_22 ?_
        refine xget (v := .ref (a 23)) S hK hw 21 rfl rfl inX4 3 (by decide) mfX7_69 rfl dX7_learnable_25 ?_
        refine lv_iload_n S.1 S.2.1 dX7_learnable_28 rfl (lv_at hl 1 rfl) ?_
        refine xald (f := u.1 23) S hK hw 23 0 rfl rfl (xvi rfl (by omega) (by omega)) dX7_learnable_29 ?_
        refine lv_iload_n S.1 S.2.1 dX7_learnable_30 rfl (lv_at hl 3 rfl) ?_
        refine xcPN (host := RX10) (rest := []) S hE hw yfX10_has (c_k_has l (u.1 23 (p1).toNatClampNeg) x3_1) (by decide +kernel) rfl rfl hl.1 ⟨rfl, rfl, Nat.le_of_ble_eq_true rfl, Nat.le_of_ble_eq_true rfl, Nat.le_of_ble_eq_true rfl, Nat.zero_le _, Nat.zero_le _⟩ dX7_learnable_31 (fun H locs hw => ?_)
        refine lv_if_ne (tgt := 55) S.1 S.2.1 dX7_learnable_34 (by decide) (fun c_3 => ?_) (fun c_3 => ?_)
        · replace hV := hV.trans (if_neg c_3)
          have gc_3 : ¬ ((b2i (k_has (u.1 23 (p1).toNatClampNeg) x3_1))).toInt = 0 := xq_ne c_3 rfl rfl
          refine lv_iinc (v := (x3_1 + (1 : Int32))) (lv' := [(3, .int (x3_1 + (1 : Int32))), (0, .ref (a 38)), (1, .int p1), (2, .int x2_1)]) S.1 S.2.1 dX7_learnable_55 hl (k := 3) rfl rfl (by decide) rfl (fun ls hl => ?_)
          refine lv_goto (tgt := 4) S.1 S.2.1 dX7_learnable_58 (by decide) ?_
          have e_4 : ∀ _ : Unit, ((x3_1 + (1 : Int32))).toInt = (x3_1).toInt + 1 := fun _ => xadd rfl rfl (by omega) (by omega)
          exact ih_1 x2_1 (x3_1 + (1 : Int32)) _ _ _ (show 0 ≤ ((x3_1 + (1 : Int32))).toInt from by rw [(e_4 ())]; omega) (show ((u.1 13 0)).toInt - ((x3_1 + (1 : Int32))).toInt < (n_1 : Int) ∧ 1 ≤ n_1 from by rw [(e_4 ())]; omega) (lv_sub hl [1, 2, 3, 0] rfl) hw hV
        · replace hV := hV.trans (if_pos c_3)
          have gc_3 : ((b2i (k_has (u.1 23 (p1).toNatClampNeg) x3_1))).toInt = 0 := xq_eq c_3 rfl rfl
          refine lv_aload_n S.1 S.2.1 dX7_learnable_37 rfl (lv_at hl 0 rfl) ?_
          refine xget (v := .ref (a 12)) S hK hw 38 rfl rfl inX7 0 (by decide) mfX7_18 rfl dX7_learnable_38 ?_
          refine lv_iload_n S.1 S.2.1 dX7_learnable_41 rfl (lv_at hl 1 rfl) ?_
          refine lv_iload_n S.1 S.2.1 dX7_learnable_42 rfl (lv_at hl 3 rfl) ?_
          refine xci (rest := []) S hK hE hA hw yfX0_lacksPartOf (c_k_Hall_lacksPartOf l D a Y ts _ p1 x3_1 (show (0 ≤ ((u.1 13 0)).toInt ∧ ((u.1 13 0)).toInt ≤ 8) from by omega) (show (0 ≤ ((u.1 13 1)).toInt ∧ ((u.1 13 1)).toInt ≤ 6) from by omega) (show 0 ≤ (p1).toInt ∧ (p1).toInt < 6 from by omega) (show 0 ≤ (x3_1).toInt ∧ (x3_1).toInt < 8 from by omega)) 12 rfl rfl mlX7_89 rfl rfl hl.1 ⟨rfl, rfl, Nat.le_of_ble_eq_true rfl, Nat.le_of_ble_eq_true rfl, Nat.le_of_ble_eq_true rfl, Nat.zero_le _, Nat.zero_le _⟩ dX7_learnable_43 (fun H locs hw => ?_)
          refine lv_if_ne (tgt := 55) S.1 S.2.1 dX7_learnable_46 (by decide) (fun c_5 => ?_) (fun c_5 => ?_)
          · replace hV := hV.trans (if_neg c_5)
            have gc_5 : ¬ ((b2i (k_Hall_lacksPartOf u p1 x3_1))).toInt = 0 := xq_ne c_5 rfl rfl
            refine lv_iinc (v := (x3_1 + (1 : Int32))) (lv' := [(3, .int (x3_1 + (1 : Int32))), (0, .ref (a 38)), (1, .int p1), (2, .int x2_1)]) S.1 S.2.1 dX7_learnable_55 hl (k := 3) rfl rfl (by decide) rfl (fun ls hl => ?_)
            refine lv_goto (tgt := 4) S.1 S.2.1 dX7_learnable_58 (by decide) ?_
            have e_6 : ∀ _ : Unit, ((x3_1 + (1 : Int32))).toInt = (x3_1).toInt + 1 := fun _ => xadd rfl rfl (by omega) (by omega)
            exact ih_1 x2_1 (x3_1 + (1 : Int32)) _ _ _ (show 0 ≤ ((x3_1 + (1 : Int32))).toInt from by rw [(e_6 ())]; omega) (show ((u.1 13 0)).toInt - ((x3_1 + (1 : Int32))).toInt < (n_1 : Int) ∧ 1 ≤ n_1 from by rw [(e_6 ())]; omega) (lv_sub hl [1, 2, 3, 0] rfl) hw hV
          · replace hV := hV.trans (if_pos c_5)
            have gc_5 : ((b2i (k_Hall_lacksPartOf u p1 x3_1))).toInt = 0 := xq_eq c_5 rfl rfl
            refine lv_iload_n S.1 S.2.1 dX7_learnable_49 rfl (lv_at hl 2 rfl) ?_
            refine lv_iconst (v := 1) S.1 S.2.1 dX7_learnable_50 (by decide) ?_
            refine lv_iload_n S.1 S.2.1 dX7_learnable_51 rfl (lv_at hl 3 rfl) ?_
            refine lv_ishl S.1 S.2.1 dX7_learnable_52 ?_
            refine lv_ior S.1 S.2.1 dX7_learnable_53 ?_
            refine lv_istore_n (lv' := [(2, .int (x2_1 ||| ((1 : Int32) <<< (x3_1 &&& 31)))), (0, .ref (a 38)), (1, .int p1), (3, .int x3_1)]) S.1 S.2.1 dX7_learnable_54 rfl hl (by decide) rfl (fun ls hl => ?_)
            refine lv_iinc (v := (x3_1 + (1 : Int32))) (lv' := [(3, .int (x3_1 + (1 : Int32))), (2, .int (x2_1 ||| ((1 : Int32) <<< (x3_1 &&& 31)))), (0, .ref (a 38)), (1, .int p1)]) S.1 S.2.1 dX7_learnable_55 hl (k := 3) rfl rfl (by decide) rfl (fun ls hl => ?_)
            refine lv_goto (tgt := 4) S.1 S.2.1 dX7_learnable_58 (by decide) ?_
            have e_7 : ∀ _ : Unit, ((x3_1 + (1 : Int32))).toInt = (x3_1).toInt + 1 := fun _ => xadd rfl rfl (by omega) (by omega)
            exact ih_1 (x2_1 ||| ((1 : Int32) <<< (x3_1 &&& 31))) (x3_1 + (1 : Int32)) _ _ _ (show 0 ≤ ((x3_1 + (1 : Int32))).toInt from by rw [(e_7 ())]; omega) (show ((u.1 13 0)).toInt - ((x3_1 + (1 : Int32))).toInt < (n_1 : Int) ∧ 1 ≤ n_1 from by rw [(e_7 ())]; omega) (lv_sub hl [2, 3, 1, 0] rfl) hw hV
  exact lp_1 9 (0 : Int32) (0 : Int32) _ _ _ (show 0 ≤ 0 from by omega) (show ((u.1 13 0)).toInt - 0 < ((9 : Nat) : Int) ∧ 1 ≤ (9 : Nat) from by omega) (lv_sub hl [2, 3, 1, 0] rfl) hw hV
def k_Planner_learntAt_L5 (w : xU) (x1 : Int32) (x2 : Int32) : Nat → Int32 → Int32 → Int32
  | 0, _, _ => 0
  | n + 1, x3, x4 =>
    (if (w.1 13 0) ≤ x4 then
    (-9 : Int32)
    else
    (if (b2i (k_has x1 x4)) = (0 : Int32) then
    k_Planner_learntAt_L5 w x1 x2 n x3 (x4 + (1 : Int32))
    else
    (if x3 = x2 then
    x4
    else
    k_Planner_learntAt_L5 w x1 x2 n (x3 + (1 : Int32)) (x4 + (1 : Int32)))))
def k_Planner_learntAt (u : xU) (p1 : Int32) (p2 : Int32) : Int32 :=
    k_Planner_learntAt_L5 u p1 p2 9 (0 : Int32) (0 : Int32)
set_option maxHeartbeats 4000000 in
set_option maxRecDepth 100000 in
theorem c_k_Planner_learntAt (l : Launch) (D : va_G) (a : Nat → Nat) (Y : Nat → ClassId) (ts : Nat → Nat) (u : xU) (p1 : Int32) (p2 : Int32) (hT : (0 ≤ ((u.1 13 0)).toInt ∧ ((u.1 13 0)).toInt ≤ 8)) (hC : (0 ≤ ((u.1 13 1)).toInt ∧ ((u.1 13 1)).toInt ≤ 6)) : xMi l yX7_learntAt cX7_learntAt 5 (some .int) (xRm 1 21) D (xty Y) (wC a Y) ts [.ref (a 38), .int p1, .int p2] u ((k_Planner_learntAt u p1 p2), u) := by
  suffices h : ∀ V, V = k_Planner_learntAt u p1 p2 → xMi l yX7_learntAt cX7_learntAt 5 (some .int) (xRm 1 21) D (xty Y) (wC a Y) ts [.ref (a 38), .int p1, .int p2] u (V, u) from h _ rfl
  intro V hV
  refine xofi RX7 rfl (by decide) (Nat.le_of_ble_eq_true rfl) ?_
  intro p e s m args below meth c ls H locs A S hr hlk hl hK hE hA hw
  have hl : lv_has ls 5 [(0, .ref (a 38)), (1, .int p1), (2, .int p2)] := hl
  refine lv_iconst (v := 0) S.1 S.2.1 dX7_learntAt_0 (by decide) ?_
  refine lv_istore_n (lv' := [(3, .int (0 : Int32)), (0, .ref (a 38)), (1, .int p1), (2, .int p2)]) S.1 S.2.1 dX7_learntAt_1 rfl hl (by decide) rfl (fun ls hl => ?_)
  refine lv_iconst (v := 0) S.1 S.2.1 dX7_learntAt_2 (by decide) ?_
  refine lv_istore (lv' := [(4, .int (0 : Int32)), (3, .int (0 : Int32)), (0, .ref (a 38)), (1, .int p1), (2, .int p2)]) S.1 S.2.1 dX7_learntAt_3 hl (by decide) rfl (fun ls hl => ?_)
  have lp_1 : ∀ (n_1 : Nat) (x3_1 : Int32) (x4_1 : Int32) (H : Heap) (locs : List Loc) (ls : Array Slot), (0 ≤ (x4_1).toInt) → (((u.1 13 0)).toInt - (x4_1).toInt < (n_1 : Int) ∧ 1 ≤ n_1) → lv_has ls 5 [(0, .ref (a 38)), (1, .int p1), (2, .int p2), (3, .int x3_1), (4, .int x4_1)] → xw D (wC a Y) A s.heap H locs u → V = k_Planner_learntAt_L5 u p1 p2 n_1 x3_1 x4_1 → W p l e (xRm 1 21) s m args below meth c H locs 0 0 (MQ below (va_Qi (fun r v => (r, v) = (V, u)) (xPost D (wC a Y) A) A) args s 0 0 A) (F0 m 5 ls []) := by
    intro n_1
    induction n_1 with
    | zero => intro x3_1 x4_1 H locs ls i0_1 hn; exact absurd hn.2 (by decide)
    | succ n_1 ih_1 =>
      intro x3_1 x4_1 H locs ls i0_1 hn_1 hl hw hV
      refine lv_iload S.1 S.2.1 dX7_learntAt_5 (lv_at hl 4 rfl) ?_
      refine lv_aload_n S.1 S.2.1 dX7_learntAt_7 rfl (lv_at hl 0 rfl) ?_
      refine xget (v := .ref (a 12)) S hK hw 38 rfl rfl inX7 0 (by decide) mfX7_18 rfl dX7_learntAt_8 ?_
      refine xget (v := .ref (a 13)) S hK hw 12 rfl rfl inX0 0 (by decide) mfX7_22 rfl dX7_learntAt_11 ?_
      refine xget (v := .int (u.1 13 0)) S hK hw 13 rfl rfl inX9 0 (by decide) mfX7_39 rfl dX7_learntAt_14 ?_
      refine lv_icmp_ge (tgt := 46) S.1 S.2.1 dX7_learntAt_17 (by decide) (fun c_2 => ?_) (fun c_2 => ?_)
      · replace hV := hV.trans (if_pos c_2)
        have gc_2 : ((u.1 13 0)).toInt ≤ (x4_1).toInt := xq_le c_2 rfl rfl
        refine lv_bipush (v := -9) S.1 S.2.1 dX7_learntAt_46 (by decide) ?_
        exact xri S hr hlk hw (congrArg (fun b => (b, u)) hV) dX7_learntAt_48
      · replace hV := hV.trans (if_neg c_2)
        have gc_2 : (x4_1).toInt < ((u.1 13 0)).toInt := xq_nle c_2 rfl rfl
        refine lv_iload_n S.1 S.2.1 dX7_learntAt_20 rfl (lv_at hl 1 rfl) ?_
        refine lv_iload S.1 S.2.1 dX7_learntAt_21 (lv_at hl 4 rfl) ?_
        refine xcPN (host := RX10) (rest := []) S hE hw yfX10_has (c_k_has l p1 x4_1) (by decide +kernel) rfl rfl hl.1 ⟨rfl, rfl, Nat.le_of_ble_eq_true rfl, Nat.le_of_ble_eq_true rfl, Nat.le_of_ble_eq_true rfl, Nat.zero_le _, Nat.zero_le _⟩ dX7_learntAt_23 (fun H locs hw => ?_)
        refine lv_if_eq (tgt := 40) S.1 S.2.1 dX7_learntAt_26 (by decide) (fun c_3 => ?_) (fun c_3 => ?_)
        · replace hV := hV.trans (if_pos c_3)
          have gc_3 : ((b2i (k_has p1 x4_1))).toInt = 0 := xq_eq c_3 rfl rfl
          refine lv_iinc (v := (x4_1 + (1 : Int32))) (lv' := [(4, .int (x4_1 + (1 : Int32))), (0, .ref (a 38)), (1, .int p1), (2, .int p2), (3, .int x3_1)]) S.1 S.2.1 dX7_learntAt_40 hl (k := 4) rfl rfl (by decide) rfl (fun ls hl => ?_)
          refine lv_goto (tgt := 5) S.1 S.2.1 dX7_learntAt_43 (by decide) ?_
          have e_4 : ∀ _ : Unit, ((x4_1 + (1 : Int32))).toInt = (x4_1).toInt + 1 := fun _ => xadd rfl rfl (by omega) (by omega)
          exact ih_1 x3_1 (x4_1 + (1 : Int32)) _ _ _ (show 0 ≤ ((x4_1 + (1 : Int32))).toInt from by rw [(e_4 ())]; omega) (show ((u.1 13 0)).toInt - ((x4_1 + (1 : Int32))).toInt < (n_1 : Int) ∧ 1 ≤ n_1 from by rw [(e_4 ())]; omega) (lv_sub hl [1, 2, 3, 4, 0] rfl) hw hV
        · replace hV := hV.trans (if_neg c_3)
          have gc_3 : ¬ ((b2i (k_has p1 x4_1))).toInt = 0 := xq_ne c_3 rfl rfl
          refine lv_iload_n S.1 S.2.1 dX7_learntAt_29 rfl (lv_at hl 3 rfl) ?_
          refine lv_iload_n S.1 S.2.1 dX7_learntAt_30 rfl (lv_at hl 2 rfl) ?_
          refine lv_icmp_ne (tgt := 37) S.1 S.2.1 dX7_learntAt_31 (by decide) (fun c_5 => ?_) (fun c_5 => ?_)
          · replace hV := hV.trans (if_neg c_5)
            have gc_5 : ¬ (x3_1).toInt = (p2).toInt := xq_ne c_5 rfl rfl
            refine lv_iinc (v := (x3_1 + (1 : Int32))) (lv' := [(3, .int (x3_1 + (1 : Int32))), (0, .ref (a 38)), (1, .int p1), (2, .int p2), (4, .int x4_1)]) S.1 S.2.1 dX7_learntAt_37 hl (k := 3) rfl rfl (by decide) rfl (fun ls hl => ?_)
            refine lv_iinc (v := (x4_1 + (1 : Int32))) (lv' := [(4, .int (x4_1 + (1 : Int32))), (3, .int (x3_1 + (1 : Int32))), (0, .ref (a 38)), (1, .int p1), (2, .int p2)]) S.1 S.2.1 dX7_learntAt_40 hl (k := 4) rfl rfl (by decide) rfl (fun ls hl => ?_)
            refine lv_goto (tgt := 5) S.1 S.2.1 dX7_learntAt_43 (by decide) ?_
            have e_6 : ∀ _ : Unit, ((x4_1 + (1 : Int32))).toInt = (x4_1).toInt + 1 := fun _ => xadd rfl rfl (by omega) (by omega)
            exact ih_1 (x3_1 + (1 : Int32)) (x4_1 + (1 : Int32)) _ _ _ (show 0 ≤ ((x4_1 + (1 : Int32))).toInt from by rw [(e_6 ())]; omega) (show ((u.1 13 0)).toInt - ((x4_1 + (1 : Int32))).toInt < (n_1 : Int) ∧ 1 ≤ n_1 from by rw [(e_6 ())]; omega) (lv_sub hl [2, 3, 4, 1, 0] rfl) hw hV
          · replace hV := hV.trans (if_pos c_5)
            have gc_5 : (x3_1).toInt = (p2).toInt := xq_eq c_5 rfl rfl
            refine lv_iload S.1 S.2.1 dX7_learntAt_34 (lv_at hl 4 rfl) ?_
            exact xri S hr hlk hw (congrArg (fun b => (b, u)) hV) dX7_learntAt_36
  exact lp_1 9 (0 : Int32) (0 : Int32) _ _ _ (show 0 ≤ 0 from by omega) (show ((u.1 13 0)).toInt - 0 < ((9 : Nat) : Int) ∧ 1 ≤ (9 : Nat) from by omega) (lv_sub hl [2, 3, 4, 1, 0] rfl) hw hV
def k_Planner_isWhole_L18 (w : xU) (x2 : Int32) (x3 : Int32) : Nat → Int32 → Bool
  | 0, _ => false
  | n + 1, x4 =>
    (if (w.1 13 0) ≤ x4 then
    true
    else
    (if (b2i (k_has x2 x4)) = (0 : Int32) then
    k_Planner_isWhole_L18 w x2 x3 n (x4 + (1 : Int32))
    else
    (if ((w.1 17 (x4).toNatClampNeg) &&& (x3 ^^^ (-1 : Int32))) = (0 : Int32) then
    k_Planner_isWhole_L18 w x2 x3 n (x4 + (1 : Int32))
    else
    false)))
def k_Planner_isWhole (u : xU) (p1 : Int32) (p2 : Int32) : Bool :=
    k_Planner_isWhole_L18 u p2 (p2 ||| (u.1 23 (p1).toNatClampNeg)) 9 (0 : Int32)
set_option maxHeartbeats 4000000 in
set_option maxRecDepth 100000 in
theorem c_k_Planner_isWhole (l : Launch) (D : va_G) (a : Nat → Nat) (Y : Nat → ClassId) (ts : Nat → Nat) (u : xU) (p1 : Int32) (p2 : Int32) (hT : (0 ≤ ((u.1 13 0)).toInt ∧ ((u.1 13 0)).toInt ≤ 8)) (hC : (0 ≤ ((u.1 13 1)).toInt ∧ ((u.1 13 1)).toInt ≤ 6)) (hp0 : 0 ≤ (p1).toInt ∧ (p1).toInt < 6) : xMi l yX7_isWhole cX7_isWhole 5 (some .boolean) (xRm 1 21) D (xty Y) (wC a Y) ts [.ref (a 38), .int p1, .int p2] u (b2i (k_Planner_isWhole u p1 p2), u) := by
  suffices h : ∀ V, V = k_Planner_isWhole u p1 p2 → xMi l yX7_isWhole cX7_isWhole 5 (some .boolean) (xRm 1 21) D (xty Y) (wC a Y) ts [.ref (a 38), .int p1, .int p2] u (b2i V, u) from h _ rfl
  intro V hV
  refine xofi RX7 rfl (by decide) (Nat.le_of_ble_eq_true rfl) ?_
  intro p e s m args below meth c ls H locs A S hr hlk hl hK hE hA hw
  have hl : lv_has ls 5 [(0, .ref (a 38)), (1, .int p1), (2, .int p2)] := hl
  refine lv_iload_n S.1 S.2.1 dX7_isWhole_0 rfl (lv_at hl 2 rfl) ?_
  refine lv_aload_n S.1 S.2.1 dX7_isWhole_1 rfl (lv_at hl 0 rfl) ?_
  refine xget (v := .ref (a 12)) S hK hw 38 rfl rfl inX7 0 (by decide) mfX7_18 rfl dX7_isWhole_2 ?_
  refine xget (v := .ref (a 21)) S hK hw 12 rfl rfl inX0 1 (by decide) mfX7_46 rfl dX7_isWhole_5 ?_
  refine xget (v := .ref (a 23)) S hK hw 21 rfl rfl inX4 3 (by decide) mfX7_69 rfl dX7_isWhole_8 ?_
  refine lv_iload_n S.1 S.2.1 dX7_isWhole_11 rfl (lv_at hl 1 rfl) ?_
  refine xald (f := u.1 23) S hK hw 23 0 rfl rfl (xvi rfl (by omega) (by omega)) dX7_isWhole_12 ?_
  refine lv_ior S.1 S.2.1 dX7_isWhole_13 ?_
  refine lv_istore_n (lv' := [(3, .int (p2 ||| (u.1 23 (p1).toNatClampNeg))), (0, .ref (a 38)), (1, .int p1), (2, .int p2)]) S.1 S.2.1 dX7_isWhole_14 rfl hl (by decide) rfl (fun ls hl => ?_)
  refine lv_iconst (v := 0) S.1 S.2.1 dX7_isWhole_15 (by decide) ?_
  refine lv_istore (lv' := [(4, .int (0 : Int32)), (3, .int (p2 ||| (u.1 23 (p1).toNatClampNeg))), (0, .ref (a 38)), (1, .int p1), (2, .int p2)]) S.1 S.2.1 dX7_isWhole_16 hl (by decide) rfl (fun ls hl => ?_)
  have lp_1 : ∀ (n_1 : Nat) (x4_1 : Int32) (H : Heap) (locs : List Loc) (ls : Array Slot), (0 ≤ (x4_1).toInt) → (((u.1 13 0)).toInt - (x4_1).toInt < (n_1 : Int) ∧ 1 ≤ n_1) → lv_has ls 5 [(0, .ref (a 38)), (2, .int p2), (3, .int (p2 ||| (u.1 23 (p1).toNatClampNeg))), (4, .int x4_1)] → xw D (wC a Y) A s.heap H locs u → V = k_Planner_isWhole_L18 u p2 (p2 ||| (u.1 23 (p1).toNatClampNeg)) n_1 x4_1 → W p l e (xRm 1 21) s m args below meth c H locs 0 0 (MQ below (va_Qi (fun r v => (r, v) = (b2i V, u)) (xPost D (wC a Y) A) A) args s 0 0 A) (F0 m 18 ls []) := by
    intro n_1
    induction n_1 with
    | zero => intro x4_1 H locs ls i0_1 hn; exact absurd hn.2 (by decide)
    | succ n_1 ih_1 =>
      intro x4_1 H locs ls i0_1 hn_1 hl hw hV
      refine lv_iload S.1 S.2.1 dX7_isWhole_18 (lv_at hl 3 rfl) ?_
      refine lv_aload_n S.1 S.2.1 dX7_isWhole_20 rfl (lv_at hl 0 rfl) ?_
      refine xget (v := .ref (a 12)) S hK hw 38 rfl rfl inX7 0 (by decide) mfX7_18 rfl dX7_isWhole_21 ?_
      refine xget (v := .ref (a 13)) S hK hw 12 rfl rfl inX0 0 (by decide) mfX7_22 rfl dX7_isWhole_24 ?_
      refine xget (v := .int (u.1 13 0)) S hK hw 13 rfl rfl inX9 0 (by decide) mfX7_39 rfl dX7_isWhole_27 ?_
      refine lv_icmp_ge (tgt := 70) S.1 S.2.1 dX7_isWhole_30 (by decide) (fun c_2 => ?_) (fun c_2 => ?_)
      · replace hV := hV.trans (if_pos c_2)
        have gc_2 : ((u.1 13 0)).toInt ≤ (x4_1).toInt := xq_le c_2 rfl rfl
        refine lv_iconst (v := 1) S.1 S.2.1 dX7_isWhole_70 (by decide) ?_
        exact xrz S hr hlk hw rfl (congrArg (fun b => (b2i b, u)) hV) dX7_isWhole_71
      · replace hV := hV.trans (if_neg c_2)
        have gc_2 : (x4_1).toInt < ((u.1 13 0)).toInt := xq_nle c_2 rfl rfl
        refine lv_iload_n S.1 S.2.1 dX7_isWhole_33 rfl (lv_at hl 1 rfl) ?_
        refine lv_iload S.1 S.2.1 dX7_isWhole_34 (lv_at hl 3 rfl) ?_
        refine xcPN (host := RX10) (rest := []) S hE hw yfX10_has (c_k_has l p2 x4_1) (by decide +kernel) rfl rfl hl.1 ⟨rfl, rfl, Nat.le_of_ble_eq_true rfl, Nat.le_of_ble_eq_true rfl, Nat.le_of_ble_eq_true rfl, Nat.zero_le _, Nat.zero_le _⟩ dX7_isWhole_36 (fun H locs hw => ?_)
        refine lv_if_eq (tgt := 64) S.1 S.2.1 dX7_isWhole_39 (by decide) (fun c_3 => ?_) (fun c_3 => ?_)
        · replace hV := hV.trans (if_pos c_3)
          have gc_3 : ((b2i (k_has p2 x4_1))).toInt = 0 := xq_eq c_3 rfl rfl
          refine lv_iinc (v := (x4_1 + (1 : Int32))) (lv' := [(4, .int (x4_1 + (1 : Int32))), (0, .ref (a 38)), (2, .int p2), (3, .int (p2 ||| (u.1 23 (p1).toNatClampNeg)))]) S.1 S.2.1 dX7_isWhole_64 hl (k := 3) rfl rfl (by decide) rfl (fun ls hl => ?_)
          refine lv_goto (tgt := 18) S.1 S.2.1 dX7_isWhole_67 (by decide) ?_
          have e_4 : ∀ _ : Unit, ((x4_1 + (1 : Int32))).toInt = (x4_1).toInt + 1 := fun _ => xadd rfl rfl (by omega) (by omega)
          exact ih_1 (x4_1 + (1 : Int32)) _ _ _ (show 0 ≤ ((x4_1 + (1 : Int32))).toInt from by rw [(e_4 ())]; omega) (show ((u.1 13 0)).toInt - ((x4_1 + (1 : Int32))).toInt < (n_1 : Int) ∧ 1 ≤ n_1 from by rw [(e_4 ())]; omega) (lv_sub hl [1, 2, 3, 0] rfl) hw hV
        · replace hV := hV.trans (if_neg c_3)
          have gc_3 : ¬ ((b2i (k_has p2 x4_1))).toInt = 0 := xq_ne c_3 rfl rfl
          refine lv_aload_n S.1 S.2.1 dX7_isWhole_42 rfl (lv_at hl 0 rfl) ?_
          refine xget (v := .ref (a 12)) S hK hw 38 rfl rfl inX7 0 (by decide) mfX7_18 rfl dX7_isWhole_43 ?_
          refine xget (v := .ref (a 13)) S hK hw 12 rfl rfl inX0 0 (by decide) mfX7_22 rfl dX7_isWhole_46 ?_
          refine xget (v := .ref (a 17)) S hK hw 13 rfl rfl inX9 5 (by decide) mfX7_66 rfl dX7_isWhole_49 ?_
          refine lv_iload S.1 S.2.1 dX7_isWhole_52 (lv_at hl 3 rfl) ?_
          refine xald (f := u.1 17) S hK hw 17 0 rfl rfl (xvi rfl (by omega) (by omega)) dX7_isWhole_54 ?_
          refine lv_iload_n S.1 S.2.1 dX7_isWhole_55 rfl (lv_at hl 2 rfl) ?_
          refine lv_iconst (v := -1) S.1 S.2.1 dX7_isWhole_56 (by decide) ?_
          refine lv_ixor S.1 S.2.1 dX7_isWhole_57 ?_
          refine lv_iand S.1 S.2.1 dX7_isWhole_58 ?_
          refine lv_if_eq (tgt := 64) S.1 S.2.1 dX7_isWhole_59 (by decide) (fun c_5 => ?_) (fun c_5 => ?_)
          · replace hV := hV.trans (if_pos c_5)
            refine lv_iinc (v := (x4_1 + (1 : Int32))) (lv' := [(4, .int (x4_1 + (1 : Int32))), (0, .ref (a 38)), (2, .int p2), (3, .int (p2 ||| (u.1 23 (p1).toNatClampNeg)))]) S.1 S.2.1 dX7_isWhole_64 hl (k := 3) rfl rfl (by decide) rfl (fun ls hl => ?_)
            refine lv_goto (tgt := 18) S.1 S.2.1 dX7_isWhole_67 (by decide) ?_
            have e_6 : ∀ _ : Unit, ((x4_1 + (1 : Int32))).toInt = (x4_1).toInt + 1 := fun _ => xadd rfl rfl (by omega) (by omega)
            exact ih_1 (x4_1 + (1 : Int32)) _ _ _ (show 0 ≤ ((x4_1 + (1 : Int32))).toInt from by rw [(e_6 ())]; omega) (show ((u.1 13 0)).toInt - ((x4_1 + (1 : Int32))).toInt < (n_1 : Int) ∧ 1 ≤ n_1 from by rw [(e_6 ())]; omega) (lv_sub hl [1, 2, 3, 0] rfl) hw hV
          · replace hV := hV.trans (if_neg c_5)
            refine lv_iconst (v := 0) S.1 S.2.1 dX7_isWhole_62 (by decide) ?_
            exact xrz S hr hlk hw rfl (congrArg (fun b => (b2i b, u)) hV) dX7_isWhole_63
  exact lp_1 9 (0 : Int32) _ _ _ (show 0 ≤ 0 from by omega) (show ((u.1 13 0)).toInt - 0 < ((9 : Nat) : Int) ∧ 1 ≤ (9 : Nat) from by omega) (lv_sub hl [2, 4, 1, 0] rfl) hw hV
def k_Planner_bears (u : xU) (p1 : Int32) (p2 : Int32) : Bool :=
    (if (b2i (k_Hall_isBroken u p1)) = (0 : Int32) then
    (if (p2 &&& ((k_Planner_learnable u p1) ^^^ (-1 : Int32))) = (0 : Int32) then
    (if (u.1 18 (p1).toNatClampNeg) < ((u.1 25 (p1).toNatClampNeg) + (k_Planner_cracksOf u p2)) then
    false
    else
    true)
    else
    false)
    else
    false)
set_option maxHeartbeats 4000000 in
set_option maxRecDepth 100000 in
theorem c_k_Planner_bears (l : Launch) (D : va_G) (a : Nat → Nat) (Y : Nat → ClassId) (ts : Nat → Nat) (u : xU) (p1 : Int32) (p2 : Int32) (hT : (0 ≤ ((u.1 13 0)).toInt ∧ ((u.1 13 0)).toInt ≤ 8)) (hC : (0 ≤ ((u.1 13 1)).toInt ∧ ((u.1 13 1)).toInt ≤ 6)) (hp0 : 0 ≤ (p1).toInt ∧ (p1).toInt < 6) : xMi l yX7_bears cX7_bears 3 (some .boolean) (xRm 3 66) D (xty Y) (wC a Y) ts [.ref (a 38), .int p1, .int p2] u (b2i (k_Planner_bears u p1 p2), u) := by
  suffices h : ∀ V, V = k_Planner_bears u p1 p2 → xMi l yX7_bears cX7_bears 3 (some .boolean) (xRm 3 66) D (xty Y) (wC a Y) ts [.ref (a 38), .int p1, .int p2] u (b2i V, u) from h _ rfl
  intro V hV
  refine xofi RX7 rfl (by decide) (Nat.le_of_ble_eq_true rfl) ?_
  intro p e s m args below meth c ls H locs A S hr hlk hl hK hE hA hw
  have hl : lv_has ls 3 [(0, .ref (a 38)), (1, .int p1), (2, .int p2)] := hl
  refine lv_aload_n S.1 S.2.1 dX7_bears_0 rfl (lv_at hl 0 rfl) ?_
  refine xget (v := .ref (a 12)) S hK hw 38 rfl rfl inX7 0 (by decide) mfX7_18 rfl dX7_bears_1 ?_
  refine lv_iload_n S.1 S.2.1 dX7_bears_4 rfl (lv_at hl 1 rfl) ?_
  refine xci (rest := []) S hK hE hA hw yfX0_isBroken (c_k_Hall_isBroken l D a Y ts _ p1 (show (0 ≤ ((u.1 13 0)).toInt ∧ ((u.1 13 0)).toInt ≤ 8) from by omega) (show (0 ≤ ((u.1 13 1)).toInt ∧ ((u.1 13 1)).toInt ≤ 6) from by omega) (show 0 ≤ (p1).toInt ∧ (p1).toInt < 6 from by omega)) 12 rfl rfl mlX7_72 rfl rfl hl.1 ⟨rfl, rfl, Nat.le_of_ble_eq_true rfl, Nat.le_of_ble_eq_true rfl, Nat.le_of_ble_eq_true rfl, Nat.zero_le _, Nat.zero_le _⟩ dX7_bears_5 (fun H locs hw => ?_)
  refine lv_if_ne (tgt := 60) S.1 S.2.1 dX7_bears_8 (by decide) (fun c_1 => ?_) (fun c_1 => ?_)
  · replace hV := hV.trans (if_neg c_1)
    have gc_1 : ¬ ((b2i (k_Hall_isBroken u p1))).toInt = 0 := xq_ne c_1 rfl rfl
    refine lv_iconst (v := 0) S.1 S.2.1 dX7_bears_60 (by decide) ?_
    exact xrz S hr hlk hw rfl (congrArg (fun b => (b2i b, u)) hV) dX7_bears_61
  · replace hV := hV.trans (if_pos c_1)
    have gc_1 : ((b2i (k_Hall_isBroken u p1))).toInt = 0 := xq_eq c_1 rfl rfl
    refine lv_iload_n S.1 S.2.1 dX7_bears_11 rfl (lv_at hl 2 rfl) ?_
    refine lv_aload_n S.1 S.2.1 dX7_bears_12 rfl (lv_at hl 0 rfl) ?_
    refine lv_iload_n S.1 S.2.1 dX7_bears_13 rfl (lv_at hl 1 rfl) ?_
    refine xci (rest := [.int p2]) S hK hE hA hw yfX7_learnable (c_k_Planner_learnable l D a Y ts _ p1 (show (0 ≤ ((u.1 13 0)).toInt ∧ ((u.1 13 0)).toInt ≤ 8) from by omega) (show (0 ≤ ((u.1 13 1)).toInt ∧ ((u.1 13 1)).toInt ≤ 6) from by omega) (show 0 ≤ (p1).toInt ∧ (p1).toInt < 6 from by omega)) 38 rfl rfl mlX7_76 rfl rfl hl.1 ⟨rfl, rfl, Nat.le_of_ble_eq_true rfl, Nat.le_of_ble_eq_true rfl, Nat.le_of_ble_eq_true rfl, Nat.zero_le _, Nat.zero_le _⟩ dX7_bears_14 (fun H locs hw => ?_)
    refine lv_iconst (v := -1) S.1 S.2.1 dX7_bears_17 (by decide) ?_
    refine lv_ixor S.1 S.2.1 dX7_bears_18 ?_
    refine lv_iand S.1 S.2.1 dX7_bears_19 ?_
    refine lv_if_ne (tgt := 60) S.1 S.2.1 dX7_bears_20 (by decide) (fun c_2 => ?_) (fun c_2 => ?_)
    · replace hV := hV.trans (if_neg c_2)
      refine lv_iconst (v := 0) S.1 S.2.1 dX7_bears_60 (by decide) ?_
      exact xrz S hr hlk hw rfl (congrArg (fun b => (b2i b, u)) hV) dX7_bears_61
    · replace hV := hV.trans (if_pos c_2)
      refine lv_aload_n S.1 S.2.1 dX7_bears_23 rfl (lv_at hl 0 rfl) ?_
      refine xget (v := .ref (a 12)) S hK hw 38 rfl rfl inX7 0 (by decide) mfX7_18 rfl dX7_bears_24 ?_
      refine xget (v := .ref (a 21)) S hK hw 12 rfl rfl inX0 1 (by decide) mfX7_46 rfl dX7_bears_27 ?_
      refine xget (v := .ref (a 25)) S hK hw 21 rfl rfl inX4 5 (by decide) mfX7_80 rfl dX7_bears_30 ?_
      refine lv_iload_n S.1 S.2.1 dX7_bears_33 rfl (lv_at hl 1 rfl) ?_
      refine xald (f := u.1 25) S hK hw 25 0 rfl rfl (xvi rfl (by omega) (by omega)) dX7_bears_34 ?_
      refine lv_aload_n S.1 S.2.1 dX7_bears_35 rfl (lv_at hl 0 rfl) ?_
      refine lv_iload_n S.1 S.2.1 dX7_bears_36 rfl (lv_at hl 2 rfl) ?_
      refine xci (rest := [.int (u.1 25 (p1).toNatClampNeg)]) S hK hE hA hw yfX7_cracksOf (c_k_Planner_cracksOf l D a Y ts _ p2 (show (0 ≤ ((u.1 13 0)).toInt ∧ ((u.1 13 0)).toInt ≤ 8) from by omega) (show (0 ≤ ((u.1 13 1)).toInt ∧ ((u.1 13 1)).toInt ≤ 6) from by omega)) 38 rfl rfl mlX7_83 rfl rfl hl.1 ⟨rfl, rfl, Nat.le_of_ble_eq_true rfl, Nat.le_of_ble_eq_true rfl, Nat.le_of_ble_eq_true rfl, Nat.zero_le _, Nat.zero_le _⟩ dX7_bears_37 (fun H locs hw => ?_)
      refine lv_iadd S.1 S.2.1 dX7_bears_40 ?_
      refine lv_aload_n S.1 S.2.1 dX7_bears_41 rfl (lv_at hl 0 rfl) ?_
      refine xget (v := .ref (a 12)) S hK hw 38 rfl rfl inX7 0 (by decide) mfX7_18 rfl dX7_bears_42 ?_
      refine xget (v := .ref (a 13)) S hK hw 12 rfl rfl inX0 0 (by decide) mfX7_22 rfl dX7_bears_45 ?_
      refine xget (v := .ref (a 18)) S hK hw 13 rfl rfl inX9 6 (by decide) mfX7_86 rfl dX7_bears_48 ?_
      refine lv_iload_n S.1 S.2.1 dX7_bears_51 rfl (lv_at hl 1 rfl) ?_
      refine xald (f := u.1 18) S hK hw 18 0 rfl rfl (xvi rfl (by omega) (by omega)) dX7_bears_52 ?_
      refine lv_icmp_gt (tgt := 60) S.1 S.2.1 dX7_bears_53 (by decide) (fun c_3 => ?_) (fun c_3 => ?_)
      · replace hV := hV.trans (if_pos c_3)
        refine lv_iconst (v := 0) S.1 S.2.1 dX7_bears_60 (by decide) ?_
        exact xrz S hr hlk hw rfl (congrArg (fun b => (b2i b, u)) hV) dX7_bears_61
      · replace hV := hV.trans (if_neg c_3)
        refine lv_iconst (v := 1) S.1 S.2.1 dX7_bears_56 (by decide) ?_
        refine lv_goto (tgt := 61) S.1 S.2.1 dX7_bears_57 (by decide) ?_
        exact xrz S hr hlk hw rfl (congrArg (fun b => (b2i b, u)) hV) dX7_bears_61
def k_Owners_mostFrom_L33 (w : xU) (x2 : Int32) (x3 : Int32) (x5 : Int32) : Nat → Int32 → Int32 → Int32
  | 0, _, _ => 0
  | n + 1, x4, x6 =>
    (if (w.1 13 0) ≤ x6 then
    x4
    else
    (if (b2i (k_has x5 x6)) = (0 : Int32) then
    k_Owners_mostFrom_L33 w x2 x3 x5 n x4 (x6 + (1 : Int32))
    else
    let t_13 := (if x4 < ((1 : Int32) + (w.1 42 ((x3 + (x2 ||| ((1 : Int32) <<< (x6 &&& 31))))).toNatClampNeg)) then ((1 : Int32) + (w.1 42 ((x3 + (x2 ||| ((1 : Int32) <<< (x6 &&& 31))))).toNatClampNeg)) else x4)
    k_Owners_mostFrom_L33 w x2 x3 x5 n t_13 (x6 + (1 : Int32))))
def k_Owners_mostFrom (u : xU) (p1 : Int32) (p2 : Int32) : Int32 :=
    let t_4 := (u.1 42 ((((p1 + (1 : Int32)) * (256 : Int32)) + p2)).toNatClampNeg)
    let t_5 := ((u.1 43 (p1).toNatClampNeg) &&& (p2 ^^^ (-1 : Int32)))
    k_Owners_mostFrom_L33 u p2 ((p1 + (1 : Int32)) * (256 : Int32)) t_5 9 t_4 (0 : Int32)
set_option maxHeartbeats 4000000 in
set_option maxRecDepth 100000 in
theorem c_k_Owners_mostFrom (l : Launch) (D : va_G) (a : Nat → Nat) (Y : Nat → ClassId) (ts : Nat → Nat) (u : xU) (p1 : Int32) (p2 : Int32) (hT : (0 ≤ ((u.1 13 0)).toInt ∧ ((u.1 13 0)).toInt ≤ 8)) (hC : (0 ≤ ((u.1 13 1)).toInt ∧ ((u.1 13 1)).toInt ≤ 6)) (hp0 : 0 ≤ (p1).toInt ∧ (p1).toInt < 6) (hp1 : 0 ≤ (p2).toInt ∧ (p2).toInt < 256) : xMi l yX5_mostFrom cX5_mostFrom 7 (some .int) (xRm 1 30) D (xty Y) (wC a Y) ts [.ref (a 41), .int p1, .int p2] u ((k_Owners_mostFrom u p1 p2), u) := by
  suffices h : ∀ V, V = k_Owners_mostFrom u p1 p2 → xMi l yX5_mostFrom cX5_mostFrom 7 (some .int) (xRm 1 30) D (xty Y) (wC a Y) ts [.ref (a 41), .int p1, .int p2] u (V, u) from h _ rfl
  intro V hV
  refine xofi RX5 rfl (by decide) (Nat.le_of_ble_eq_true rfl) ?_
  intro p e s m args below meth c ls H locs A S hr hlk hl hK hE hA hw
  have hl : lv_has ls 7 [(0, .ref (a 41)), (1, .int p1), (2, .int p2)] := hl
  refine lv_iload_n S.1 S.2.1 dX5_mostFrom_0 rfl (lv_at hl 1 rfl) ?_
  refine lv_iconst (v := 1) S.1 S.2.1 dX5_mostFrom_1 (by decide) ?_
  refine lv_iadd S.1 S.2.1 dX5_mostFrom_2 ?_
  refine lv_sipush (v := 256) S.1 S.2.1 dX5_mostFrom_3 (by decide) ?_
  refine lv_imul S.1 S.2.1 dX5_mostFrom_6 ?_
  refine lv_istore_n (lv' := [(3, .int ((p1 + (1 : Int32)) * (256 : Int32))), (0, .ref (a 41)), (1, .int p1), (2, .int p2)]) S.1 S.2.1 dX5_mostFrom_7 rfl hl (by decide) rfl (fun ls hl => ?_)
  refine lv_aload_n S.1 S.2.1 dX5_mostFrom_8 rfl (lv_at hl 1 rfl) ?_
  refine xget (v := .ref (a 42)) S hK hw 41 rfl rfl inX5 1 (by decide) mfX5_11 rfl dX5_mostFrom_9 ?_
  refine lv_iload_n S.1 S.2.1 dX5_mostFrom_12 rfl (lv_at hl 0 rfl) ?_
  refine lv_iload_n S.1 S.2.1 dX5_mostFrom_13 rfl (lv_at hl 3 rfl) ?_
  refine lv_iadd S.1 S.2.1 dX5_mostFrom_14 ?_
  have e_1 : ∀ _ : Unit, ((p1 + (1 : Int32))).toInt = (p1).toInt + 1 := fun _ => xadd rfl rfl (by omega) (by omega)
  have e_2 : ∀ _ : Unit, (((p1 + (1 : Int32)) * (256 : Int32))).toInt = ((p1).toInt + 1) * 256 := fun _ => xmul (e_1 ()) rfl (by omega) (by omega)
  have e_3 : ∀ _ : Unit, ((((p1 + (1 : Int32)) * (256 : Int32)) + p2)).toInt = (((p1).toInt + 1) * 256) + (p2).toInt := fun _ => xadd (e_2 ()) rfl (by omega) (by omega)
  refine xald (f := u.1 42) S hK hw 42 0 rfl rfl (xvi (e_3 ()) (by omega) (by omega)) dX5_mostFrom_15 ?_
  refine lv_istore (lv' := [(4, .int (u.1 42 ((((p1 + (1 : Int32)) * (256 : Int32)) + p2)).toNatClampNeg)), (3, .int ((p1 + (1 : Int32)) * (256 : Int32))), (0, .ref (a 41)), (1, .int p1), (2, .int p2)]) S.1 S.2.1 dX5_mostFrom_16 hl (by decide) rfl (fun ls hl => ?_)
  refine lv_aload_n S.1 S.2.1 dX5_mostFrom_18 rfl (lv_at hl 2 rfl) ?_
  refine xget (v := .ref (a 43)) S hK hw 41 rfl rfl inX5 2 (by decide) mfX5_15 rfl dX5_mostFrom_19 ?_
  refine lv_iload_n S.1 S.2.1 dX5_mostFrom_22 rfl (lv_at hl 3 rfl) ?_
  refine xald (f := u.1 43) S hK hw 43 0 rfl rfl (xvi rfl (by omega) (by omega)) dX5_mostFrom_23 ?_
  refine lv_iload_n S.1 S.2.1 dX5_mostFrom_24 rfl (lv_at hl 4 rfl) ?_
  refine lv_iconst (v := -1) S.1 S.2.1 dX5_mostFrom_25 (by decide) ?_
  refine lv_ixor S.1 S.2.1 dX5_mostFrom_26 ?_
  refine lv_iand S.1 S.2.1 dX5_mostFrom_27 ?_
  refine lv_istore (lv' := [(5, .int ((u.1 43 (p1).toNatClampNeg) &&& (p2 ^^^ (-1 : Int32)))), (4, .int (u.1 42 ((((p1 + (1 : Int32)) * (256 : Int32)) + p2)).toNatClampNeg)), (3, .int ((p1 + (1 : Int32)) * (256 : Int32))), (0, .ref (a 41)), (1, .int p1), (2, .int p2)]) S.1 S.2.1 dX5_mostFrom_28 hl (by decide) rfl (fun ls hl => ?_)
  refine lv_iconst (v := 0) S.1 S.2.1 dX5_mostFrom_30 (by decide) ?_
  refine lv_istore (lv' := [(6, .int (0 : Int32)), (5, .int ((u.1 43 (p1).toNatClampNeg) &&& (p2 ^^^ (-1 : Int32)))), (4, .int (u.1 42 ((((p1 + (1 : Int32)) * (256 : Int32)) + p2)).toNatClampNeg)), (3, .int ((p1 + (1 : Int32)) * (256 : Int32))), (0, .ref (a 41)), (1, .int p1), (2, .int p2)]) S.1 S.2.1 dX5_mostFrom_31 hl (by decide) rfl (fun ls hl => ?_)
  have lp_6 : ∀ (n_6 : Nat) (x4_6 : Int32) (x6_6 : Int32) (H : Heap) (locs : List Loc) (ls : Array Slot), (0 ≤ (x6_6).toInt) → (((u.1 13 0)).toInt - (x6_6).toInt < (n_6 : Int) ∧ 1 ≤ n_6) → lv_has ls 7 [(0, .ref (a 41)), (2, .int p2), (3, .int ((p1 + (1 : Int32)) * (256 : Int32))), (4, .int x4_6), (5, .int ((u.1 43 (p1).toNatClampNeg) &&& (p2 ^^^ (-1 : Int32)))), (6, .int x6_6)] → xw D (wC a Y) A s.heap H locs u → V = k_Owners_mostFrom_L33 u p2 ((p1 + (1 : Int32)) * (256 : Int32)) ((u.1 43 (p1).toNatClampNeg) &&& (p2 ^^^ (-1 : Int32))) n_6 x4_6 x6_6 → W p l e (xRm 1 30) s m args below meth c H locs 0 0 (MQ below (va_Qi (fun r v => (r, v) = (V, u)) (xPost D (wC a Y) A) A) args s 0 0 A) (F0 m 33 ls []) := by
    intro n_6
    induction n_6 with
    | zero => intro x4_6 x6_6 H locs ls i0_6 hn; exact absurd hn.2 (by decide)
    | succ n_6 ih_6 =>
      intro x4_6 x6_6 H locs ls i0_6 hn_6 hl hw hV
      refine lv_iload S.1 S.2.1 dX5_mostFrom_33 (lv_at hl 5 rfl) ?_
      refine lv_aload_n S.1 S.2.1 dX5_mostFrom_35 rfl (lv_at hl 0 rfl) ?_
      refine xget (v := .ref (a 12)) S hK hw 41 rfl rfl inX5 0 (by decide) mfX5_18 rfl dX5_mostFrom_36 ?_
      refine xget (v := .ref (a 13)) S hK hw 12 rfl rfl inX0 0 (by decide) mfX5_22 rfl dX5_mostFrom_39 ?_
      refine xget (v := .int (u.1 13 0)) S hK hw 13 rfl rfl inX9 0 (by decide) mfX5_34 rfl dX5_mostFrom_42 ?_
      refine lv_icmp_ge (tgt := 86) S.1 S.2.1 dX5_mostFrom_45 (by decide) (fun c_7 => ?_) (fun c_7 => ?_)
      · replace hV := hV.trans (if_pos c_7)
        have gc_7 : ((u.1 13 0)).toInt ≤ (x6_6).toInt := xq_le c_7 rfl rfl
        refine lv_iload S.1 S.2.1 dX5_mostFrom_86 (lv_at hl 3 rfl) ?_
        exact xri S hr hlk hw (congrArg (fun b => (b, u)) hV) dX5_mostFrom_88
      · replace hV := hV.trans (if_neg c_7)
        have gc_7 : (x6_6).toInt < ((u.1 13 0)).toInt := xq_nle c_7 rfl rfl
        refine lv_iload S.1 S.2.1 dX5_mostFrom_48 (lv_at hl 4 rfl) ?_
        refine lv_iload S.1 S.2.1 dX5_mostFrom_50 (lv_at hl 5 rfl) ?_
        refine xcPN (host := RX10) (rest := []) S hE hw yfX10_has (c_k_has l ((u.1 43 (p1).toNatClampNeg) &&& (p2 ^^^ (-1 : Int32))) x6_6) (by decide +kernel) rfl rfl hl.1 ⟨rfl, rfl, Nat.le_of_ble_eq_true rfl, Nat.le_of_ble_eq_true rfl, Nat.le_of_ble_eq_true rfl, Nat.zero_le _, Nat.zero_le _⟩ dX5_mostFrom_52 (fun H locs hw => ?_)
        refine lv_if_eq (tgt := 80) S.1 S.2.1 dX5_mostFrom_55 (by decide) (fun c_8 => ?_) (fun c_8 => ?_)
        · replace hV := hV.trans (if_pos c_8)
          have gc_8 : ((b2i (k_has ((u.1 43 (p1).toNatClampNeg) &&& (p2 ^^^ (-1 : Int32))) x6_6))).toInt = 0 := xq_eq c_8 rfl rfl
          refine lv_iinc (v := (x6_6 + (1 : Int32))) (lv' := [(6, .int (x6_6 + (1 : Int32))), (0, .ref (a 41)), (2, .int p2), (3, .int ((p1 + (1 : Int32)) * (256 : Int32))), (4, .int x4_6), (5, .int ((u.1 43 (p1).toNatClampNeg) &&& (p2 ^^^ (-1 : Int32))))]) S.1 S.2.1 dX5_mostFrom_80 hl (k := 5) rfl rfl (by decide) rfl (fun ls hl => ?_)
          refine lv_goto (tgt := 33) S.1 S.2.1 dX5_mostFrom_83 (by decide) ?_
          have e_9 : ∀ _ : Unit, ((x6_6 + (1 : Int32))).toInt = (x6_6).toInt + 1 := fun _ => xadd rfl rfl (by omega) (by omega)
          exact ih_6 x4_6 (x6_6 + (1 : Int32)) _ _ _ (show 0 ≤ ((x6_6 + (1 : Int32))).toInt from by rw [(e_9 ())]; omega) (show ((u.1 13 0)).toInt - ((x6_6 + (1 : Int32))).toInt < (n_6 : Int) ∧ 1 ≤ n_6 from by rw [(e_9 ())]; omega) (lv_sub hl [1, 2, 3, 4, 5, 0] rfl) hw hV
        · replace hV := hV.trans (if_neg c_8)
          have gc_8 : ¬ ((b2i (k_has ((u.1 43 (p1).toNatClampNeg) &&& (p2 ^^^ (-1 : Int32))) x6_6))).toInt = 0 := xq_ne c_8 rfl rfl
          refine lv_iload S.1 S.2.1 dX5_mostFrom_58 (lv_at hl 3 rfl) ?_
          refine lv_iconst (v := 1) S.1 S.2.1 dX5_mostFrom_60 (by decide) ?_
          refine lv_aload_n S.1 S.2.1 dX5_mostFrom_61 rfl (lv_at hl 0 rfl) ?_
          refine xget (v := .ref (a 42)) S hK hw 41 rfl rfl inX5 1 (by decide) mfX5_11 rfl dX5_mostFrom_62 ?_
          refine lv_iload_n S.1 S.2.1 dX5_mostFrom_65 rfl (lv_at hl 2 rfl) ?_
          refine lv_iload_n S.1 S.2.1 dX5_mostFrom_66 rfl (lv_at hl 1 rfl) ?_
          refine lv_iconst (v := 1) S.1 S.2.1 dX5_mostFrom_67 (by decide) ?_
          refine lv_iload S.1 S.2.1 dX5_mostFrom_68 (lv_at hl 5 rfl) ?_
          refine lv_ishl S.1 S.2.1 dX5_mostFrom_70 ?_
          refine lv_ior S.1 S.2.1 dX5_mostFrom_71 ?_
          refine lv_iadd S.1 S.2.1 dX5_mostFrom_72 ?_
          obtain ⟨ve_10, e_10, be_10⟩ := xsh1' (t := x6_6) (a := (x6_6).toInt) rfl (by omega) (by omega)
          obtain ⟨ve_11, e_11, be_11⟩ := xor8' (x := p2) (y := ((1 : Int32) <<< (x6_6 &&& 31))) (a := (p2).toInt) (b := ve_10) rfl (e_10 ()) (by omega) (by omega) (by omega) (by omega)
          have e_12 : ∀ _ : Unit, ((((p1 + (1 : Int32)) * (256 : Int32)) + (p2 ||| ((1 : Int32) <<< (x6_6 &&& 31))))).toInt = (((p1).toInt + 1) * 256) + ve_11 := fun _ => xadd (e_2 ()) (e_11 ()) (by omega) (by omega)
          refine xald (f := u.1 42) S hK hw 42 0 rfl rfl (xvi (e_12 ()) (by omega) (by omega)) dX5_mostFrom_73 ?_
          refine lv_iadd S.1 S.2.1 dX5_mostFrom_74 ?_
          refine xmax S hl.1 mlX5_49 mmax_st math_in mmax_cd ⟨Nat.le_of_ble_eq_true rfl, Nat.le_of_ble_eq_true rfl, Nat.zero_le _, Nat.zero_le _⟩ dX5_mostFrom_75 ?_
          refine lv_istore (lv' := [(4, .int (if x4_6 < ((1 : Int32) + (u.1 42 ((((p1 + (1 : Int32)) * (256 : Int32)) + (p2 ||| ((1 : Int32) <<< (x6_6 &&& 31))))).toNatClampNeg)) then ((1 : Int32) + (u.1 42 ((((p1 + (1 : Int32)) * (256 : Int32)) + (p2 ||| ((1 : Int32) <<< (x6_6 &&& 31))))).toNatClampNeg)) else x4_6)), (0, .ref (a 41)), (2, .int p2), (3, .int ((p1 + (1 : Int32)) * (256 : Int32))), (5, .int ((u.1 43 (p1).toNatClampNeg) &&& (p2 ^^^ (-1 : Int32)))), (6, .int x6_6)]) S.1 S.2.1 dX5_mostFrom_78 hl (by decide) rfl (fun ls hl => ?_)
          refine lv_iinc (v := (x6_6 + (1 : Int32))) (lv' := [(6, .int (x6_6 + (1 : Int32))), (4, .int (if x4_6 < ((1 : Int32) + (u.1 42 ((((p1 + (1 : Int32)) * (256 : Int32)) + (p2 ||| ((1 : Int32) <<< (x6_6 &&& 31))))).toNatClampNeg)) then ((1 : Int32) + (u.1 42 ((((p1 + (1 : Int32)) * (256 : Int32)) + (p2 ||| ((1 : Int32) <<< (x6_6 &&& 31))))).toNatClampNeg)) else x4_6)), (0, .ref (a 41)), (2, .int p2), (3, .int ((p1 + (1 : Int32)) * (256 : Int32))), (5, .int ((u.1 43 (p1).toNatClampNeg) &&& (p2 ^^^ (-1 : Int32))))]) S.1 S.2.1 dX5_mostFrom_80 hl (k := 5) rfl rfl (by decide) rfl (fun ls hl => ?_)
          refine lv_goto (tgt := 33) S.1 S.2.1 dX5_mostFrom_83 (by decide) ?_
          have e_14 : ∀ _ : Unit, ((x6_6 + (1 : Int32))).toInt = (x6_6).toInt + 1 := fun _ => xadd rfl rfl (by omega) (by omega)
          exact ih_6 (if x4_6 < ((1 : Int32) + (u.1 42 ((((p1 + (1 : Int32)) * (256 : Int32)) + (p2 ||| ((1 : Int32) <<< (x6_6 &&& 31))))).toNatClampNeg)) then ((1 : Int32) + (u.1 42 ((((p1 + (1 : Int32)) * (256 : Int32)) + (p2 ||| ((1 : Int32) <<< (x6_6 &&& 31))))).toNatClampNeg)) else x4_6) (x6_6 + (1 : Int32)) _ _ _ (show 0 ≤ ((x6_6 + (1 : Int32))).toInt from by rw [(e_14 ())]; omega) (show ((u.1 13 0)).toInt - ((x6_6 + (1 : Int32))).toInt < (n_6 : Int) ∧ 1 ≤ n_6 from by rw [(e_14 ())]; omega) (lv_sub hl [2, 3, 4, 1, 5, 0] rfl) hw hV
  exact lp_6 9 (u.1 42 ((((p1 + (1 : Int32)) * (256 : Int32)) + p2)).toNatClampNeg) (0 : Int32) _ _ _ (show 0 ≤ 0 from by omega) (show ((u.1 13 0)).toInt - 0 < ((9 : Nat) : Int) ∧ 1 ≤ (9 : Nat) from by omega) (lv_sub hl [4, 6, 3, 2, 1, 0] rfl) hw hV
def k_Owners_mostSet (u : xU) : Int32 :=
    (u.1 42 0)
set_option maxHeartbeats 4000000 in
set_option maxRecDepth 100000 in
theorem c_k_Owners_mostSet (l : Launch) (D : va_G) (a : Nat → Nat) (Y : Nat → ClassId) (ts : Nat → Nat) (u : xU) (hT : (0 ≤ ((u.1 13 0)).toInt ∧ ((u.1 13 0)).toInt ≤ 8)) (hC : (0 ≤ ((u.1 13 1)).toInt ∧ ((u.1 13 1)).toInt ≤ 6)) : xMi l yX5_mostSet cX5_mostSet 1 (some .int) (xRm 0 0) D (xty Y) (wC a Y) ts [.ref (a 41)] u ((k_Owners_mostSet u), u) := by
  suffices h : ∀ V, V = k_Owners_mostSet u → xMi l yX5_mostSet cX5_mostSet 1 (some .int) (xRm 0 0) D (xty Y) (wC a Y) ts [.ref (a 41)] u (V, u) from h _ rfl
  intro V hV
  refine xofi RX5 rfl (by decide) (Nat.le_of_ble_eq_true rfl) ?_
  intro p e s m args below meth c ls H locs A S hr hlk hl hK hE hA hw
  have hl : lv_has ls 1 [(0, .ref (a 41))] := hl
  refine lv_aload_n S.1 S.2.1 dX5_mostSet_0 rfl (lv_at hl 0 rfl) ?_
  refine xget (v := .ref (a 42)) S hK hw 41 rfl rfl inX5 1 (by decide) mfX5_11 rfl dX5_mostSet_1 ?_
  refine lv_iconst (v := 0) S.1 S.2.1 dX5_mostSet_4 (by decide) ?_
  refine xaldc (f := u.1 42) (x := (u.1 42 0)) (k := 0) S hK hw 42 0 rfl rfl (by decide) rfl (xvi (a := 0) rfl (by decide) (by decide)) dX5_mostSet_5 ?_
  exact xri S hr hlk hw (congrArg (fun b => (b, u)) hV) dX5_mostSet_6
def k_Owners_firstOf_L28 (w : xU) (x1 : Int32) (x2 : Int32) (x3 : Int32) (x4 : Int32) : Nat → Int32 → Int32
  | 0, _ => 0
  | n + 1, x5 =>
    (if (w.1 13 0) ≤ x5 then
    (-9 : Int32)
    else
    (if (b2i (k_has x3 x5)) = (0 : Int32) then
    k_Owners_firstOf_L28 w x1 x2 x3 x4 n (x5 + (1 : Int32))
    else
    (if ((1 : Int32) + (w.1 42 ((((x1 + (1 : Int32)) * (256 : Int32)) + (x2 ||| ((1 : Int32) <<< (x5 &&& 31))))).toNatClampNeg)) = x4 then
    x5
    else
    k_Owners_firstOf_L28 w x1 x2 x3 x4 n (x5 + (1 : Int32)))))
def k_Owners_firstOf (u : xU) (p1 : Int32) (p2 : Int32) : Int32 :=
    let t_1 := ((u.1 43 (p1).toNatClampNeg) &&& (p2 ^^^ (-1 : Int32)))
    let t_4 := (u.1 42 (((p1 * (256 : Int32)) + p2)).toNatClampNeg)
    k_Owners_firstOf_L28 u p1 p2 t_1 t_4 9 (0 : Int32)
set_option maxHeartbeats 4000000 in
set_option maxRecDepth 100000 in
theorem c_k_Owners_firstOf (l : Launch) (D : va_G) (a : Nat → Nat) (Y : Nat → ClassId) (ts : Nat → Nat) (u : xU) (p1 : Int32) (p2 : Int32) (hT : (0 ≤ ((u.1 13 0)).toInt ∧ ((u.1 13 0)).toInt ≤ 8)) (hC : (0 ≤ ((u.1 13 1)).toInt ∧ ((u.1 13 1)).toInt ≤ 6)) (hp0 : 0 ≤ (p1).toInt ∧ (p1).toInt < 6) (hp1 : 0 ≤ (p2).toInt ∧ (p2).toInt < 256) : xMi l yX5_firstOf cX5_firstOf 6 (some .int) (xRm 1 21) D (xty Y) (wC a Y) ts [.ref (a 41), .int p1, .int p2] u ((k_Owners_firstOf u p1 p2), u) := by
  suffices h : ∀ V, V = k_Owners_firstOf u p1 p2 → xMi l yX5_firstOf cX5_firstOf 6 (some .int) (xRm 1 21) D (xty Y) (wC a Y) ts [.ref (a 41), .int p1, .int p2] u (V, u) from h _ rfl
  intro V hV
  refine xofi RX5 rfl (by decide) (Nat.le_of_ble_eq_true rfl) ?_
  intro p e s m args below meth c ls H locs A S hr hlk hl hK hE hA hw
  have hl : lv_has ls 6 [(0, .ref (a 41)), (1, .int p1), (2, .int p2)] := hl
  refine lv_aload_n S.1 S.2.1 dX5_firstOf_0 rfl (lv_at hl 0 rfl) ?_
  refine xget (v := .ref (a 43)) S hK hw 41 rfl rfl inX5 2 (by decide) mfX5_15 rfl dX5_firstOf_1 ?_
  refine lv_iload_n S.1 S.2.1 dX5_firstOf_4 rfl (lv_at hl 1 rfl) ?_
  refine xald (f := u.1 43) S hK hw 43 0 rfl rfl (xvi rfl (by omega) (by omega)) dX5_firstOf_5 ?_
  refine lv_iload_n S.1 S.2.1 dX5_firstOf_6 rfl (lv_at hl 2 rfl) ?_
  refine lv_iconst (v := -1) S.1 S.2.1 dX5_firstOf_7 (by decide) ?_
  refine lv_ixor S.1 S.2.1 dX5_firstOf_8 ?_
  refine lv_iand S.1 S.2.1 dX5_firstOf_9 ?_
  refine lv_istore_n (lv' := [(3, .int ((u.1 43 (p1).toNatClampNeg) &&& (p2 ^^^ (-1 : Int32)))), (0, .ref (a 41)), (1, .int p1), (2, .int p2)]) S.1 S.2.1 dX5_firstOf_10 rfl hl (by decide) rfl (fun ls hl => ?_)
  refine lv_aload_n S.1 S.2.1 dX5_firstOf_11 rfl (lv_at hl 1 rfl) ?_
  refine xget (v := .ref (a 42)) S hK hw 41 rfl rfl inX5 1 (by decide) mfX5_11 rfl dX5_firstOf_12 ?_
  refine lv_iload_n S.1 S.2.1 dX5_firstOf_15 rfl (lv_at hl 2 rfl) ?_
  refine lv_sipush (v := 256) S.1 S.2.1 dX5_firstOf_16 (by decide) ?_
  refine lv_imul S.1 S.2.1 dX5_firstOf_19 ?_
  refine lv_iload_n S.1 S.2.1 dX5_firstOf_20 rfl (lv_at hl 3 rfl) ?_
  refine lv_iadd S.1 S.2.1 dX5_firstOf_21 ?_
  have e_2 : ∀ _ : Unit, ((p1 * (256 : Int32))).toInt = (p1).toInt * 256 := fun _ => xmul rfl rfl (by omega) (by omega)
  have e_3 : ∀ _ : Unit, (((p1 * (256 : Int32)) + p2)).toInt = ((p1).toInt * 256) + (p2).toInt := fun _ => xadd (e_2 ()) rfl (by omega) (by omega)
  refine xald (f := u.1 42) S hK hw 42 0 rfl rfl (xvi (e_3 ()) (by omega) (by omega)) dX5_firstOf_22 ?_
  refine lv_istore (lv' := [(4, .int (u.1 42 (((p1 * (256 : Int32)) + p2)).toNatClampNeg)), (3, .int ((u.1 43 (p1).toNatClampNeg) &&& (p2 ^^^ (-1 : Int32)))), (0, .ref (a 41)), (1, .int p1), (2, .int p2)]) S.1 S.2.1 dX5_firstOf_23 hl (by decide) rfl (fun ls hl => ?_)
  refine lv_iconst (v := 0) S.1 S.2.1 dX5_firstOf_25 (by decide) ?_
  refine lv_istore (lv' := [(5, .int (0 : Int32)), (4, .int (u.1 42 (((p1 * (256 : Int32)) + p2)).toNatClampNeg)), (3, .int ((u.1 43 (p1).toNatClampNeg) &&& (p2 ^^^ (-1 : Int32)))), (0, .ref (a 41)), (1, .int p1), (2, .int p2)]) S.1 S.2.1 dX5_firstOf_26 hl (by decide) rfl (fun ls hl => ?_)
  have lp_5 : ∀ (n_5 : Nat) (x5_5 : Int32) (H : Heap) (locs : List Loc) (ls : Array Slot), (0 ≤ (x5_5).toInt) → (((u.1 13 0)).toInt - (x5_5).toInt < (n_5 : Int) ∧ 1 ≤ n_5) → lv_has ls 6 [(0, .ref (a 41)), (1, .int p1), (2, .int p2), (3, .int ((u.1 43 (p1).toNatClampNeg) &&& (p2 ^^^ (-1 : Int32)))), (4, .int (u.1 42 (((p1 * (256 : Int32)) + p2)).toNatClampNeg)), (5, .int x5_5)] → xw D (wC a Y) A s.heap H locs u → V = k_Owners_firstOf_L28 u p1 p2 ((u.1 43 (p1).toNatClampNeg) &&& (p2 ^^^ (-1 : Int32))) (u.1 42 (((p1 * (256 : Int32)) + p2)).toNatClampNeg) n_5 x5_5 → W p l e (xRm 1 21) s m args below meth c H locs 0 0 (MQ below (va_Qi (fun r v => (r, v) = (V, u)) (xPost D (wC a Y) A) A) args s 0 0 A) (F0 m 28 ls []) := by
    intro n_5
    induction n_5 with
    | zero => intro x5_5 H locs ls i0_5 hn; exact absurd hn.2 (by decide)
    | succ n_5 ih_5 =>
      intro x5_5 H locs ls i0_5 hn_5 hl hw hV
      refine lv_iload S.1 S.2.1 dX5_firstOf_28 (lv_at hl 5 rfl) ?_
      refine lv_aload_n S.1 S.2.1 dX5_firstOf_30 rfl (lv_at hl 0 rfl) ?_
      refine xget (v := .ref (a 12)) S hK hw 41 rfl rfl inX5 0 (by decide) mfX5_18 rfl dX5_firstOf_31 ?_
      refine xget (v := .ref (a 13)) S hK hw 12 rfl rfl inX0 0 (by decide) mfX5_22 rfl dX5_firstOf_34 ?_
      refine xget (v := .int (u.1 13 0)) S hK hw 13 rfl rfl inX9 0 (by decide) mfX5_34 rfl dX5_firstOf_37 ?_
      refine lv_icmp_ge (tgt := 87) S.1 S.2.1 dX5_firstOf_40 (by decide) (fun c_6 => ?_) (fun c_6 => ?_)
      · replace hV := hV.trans (if_pos c_6)
        have gc_6 : ((u.1 13 0)).toInt ≤ (x5_5).toInt := xq_le c_6 rfl rfl
        refine lv_bipush (v := -9) S.1 S.2.1 dX5_firstOf_87 (by decide) ?_
        exact xri S hr hlk hw (congrArg (fun b => (b, u)) hV) dX5_firstOf_89
      · replace hV := hV.trans (if_neg c_6)
        have gc_6 : (x5_5).toInt < ((u.1 13 0)).toInt := xq_nle c_6 rfl rfl
        refine lv_iload_n S.1 S.2.1 dX5_firstOf_43 rfl (lv_at hl 3 rfl) ?_
        refine lv_iload S.1 S.2.1 dX5_firstOf_44 (lv_at hl 5 rfl) ?_
        refine xcPN (host := RX10) (rest := []) S hE hw yfX10_has (c_k_has l ((u.1 43 (p1).toNatClampNeg) &&& (p2 ^^^ (-1 : Int32))) x5_5) (by decide +kernel) rfl rfl hl.1 ⟨rfl, rfl, Nat.le_of_ble_eq_true rfl, Nat.le_of_ble_eq_true rfl, Nat.le_of_ble_eq_true rfl, Nat.zero_le _, Nat.zero_le _⟩ dX5_firstOf_46 (fun H locs hw => ?_)
        refine lv_if_eq (tgt := 81) S.1 S.2.1 dX5_firstOf_49 (by decide) (fun c_7 => ?_) (fun c_7 => ?_)
        · replace hV := hV.trans (if_pos c_7)
          have gc_7 : ((b2i (k_has ((u.1 43 (p1).toNatClampNeg) &&& (p2 ^^^ (-1 : Int32))) x5_5))).toInt = 0 := xq_eq c_7 rfl rfl
          refine lv_iinc (v := (x5_5 + (1 : Int32))) (lv' := [(5, .int (x5_5 + (1 : Int32))), (0, .ref (a 41)), (1, .int p1), (2, .int p2), (3, .int ((u.1 43 (p1).toNatClampNeg) &&& (p2 ^^^ (-1 : Int32)))), (4, .int (u.1 42 (((p1 * (256 : Int32)) + p2)).toNatClampNeg))]) S.1 S.2.1 dX5_firstOf_81 hl (k := 5) rfl rfl (by decide) rfl (fun ls hl => ?_)
          refine lv_goto (tgt := 28) S.1 S.2.1 dX5_firstOf_84 (by decide) ?_
          have e_8 : ∀ _ : Unit, ((x5_5 + (1 : Int32))).toInt = (x5_5).toInt + 1 := fun _ => xadd rfl rfl (by omega) (by omega)
          exact ih_5 (x5_5 + (1 : Int32)) _ _ _ (show 0 ≤ ((x5_5 + (1 : Int32))).toInt from by rw [(e_8 ())]; omega) (show ((u.1 13 0)).toInt - ((x5_5 + (1 : Int32))).toInt < (n_5 : Int) ∧ 1 ≤ n_5 from by rw [(e_8 ())]; omega) (lv_sub hl [1, 2, 3, 4, 5, 0] rfl) hw hV
        · replace hV := hV.trans (if_neg c_7)
          have gc_7 : ¬ ((b2i (k_has ((u.1 43 (p1).toNatClampNeg) &&& (p2 ^^^ (-1 : Int32))) x5_5))).toInt = 0 := xq_ne c_7 rfl rfl
          refine lv_iconst (v := 1) S.1 S.2.1 dX5_firstOf_52 (by decide) ?_
          refine lv_aload_n S.1 S.2.1 dX5_firstOf_53 rfl (lv_at hl 0 rfl) ?_
          refine xget (v := .ref (a 42)) S hK hw 41 rfl rfl inX5 1 (by decide) mfX5_11 rfl dX5_firstOf_54 ?_
          refine lv_iload_n S.1 S.2.1 dX5_firstOf_57 rfl (lv_at hl 1 rfl) ?_
          refine lv_iconst (v := 1) S.1 S.2.1 dX5_firstOf_58 (by decide) ?_
          refine lv_iadd S.1 S.2.1 dX5_firstOf_59 ?_
          refine lv_sipush (v := 256) S.1 S.2.1 dX5_firstOf_60 (by decide) ?_
          refine lv_imul S.1 S.2.1 dX5_firstOf_63 ?_
          refine lv_iload_n S.1 S.2.1 dX5_firstOf_64 rfl (lv_at hl 2 rfl) ?_
          refine lv_iconst (v := 1) S.1 S.2.1 dX5_firstOf_65 (by decide) ?_
          refine lv_iload S.1 S.2.1 dX5_firstOf_66 (lv_at hl 5 rfl) ?_
          refine lv_ishl S.1 S.2.1 dX5_firstOf_68 ?_
          refine lv_ior S.1 S.2.1 dX5_firstOf_69 ?_
          refine lv_iadd S.1 S.2.1 dX5_firstOf_70 ?_
          have e_9 : ∀ _ : Unit, ((p1 + (1 : Int32))).toInt = (p1).toInt + 1 := fun _ => xadd rfl rfl (by omega) (by omega)
          have e_10 : ∀ _ : Unit, (((p1 + (1 : Int32)) * (256 : Int32))).toInt = ((p1).toInt + 1) * 256 := fun _ => xmul (e_9 ()) rfl (by omega) (by omega)
          obtain ⟨ve_11, e_11, be_11⟩ := xsh1' (t := x5_5) (a := (x5_5).toInt) rfl (by omega) (by omega)
          obtain ⟨ve_12, e_12, be_12⟩ := xor8' (x := p2) (y := ((1 : Int32) <<< (x5_5 &&& 31))) (a := (p2).toInt) (b := ve_11) rfl (e_11 ()) (by omega) (by omega) (by omega) (by omega)
          have e_13 : ∀ _ : Unit, ((((p1 + (1 : Int32)) * (256 : Int32)) + (p2 ||| ((1 : Int32) <<< (x5_5 &&& 31))))).toInt = (((p1).toInt + 1) * 256) + ve_12 := fun _ => xadd (e_10 ()) (e_12 ()) (by omega) (by omega)
          refine xald (f := u.1 42) S hK hw 42 0 rfl rfl (xvi (e_13 ()) (by omega) (by omega)) dX5_firstOf_71 ?_
          refine lv_iadd S.1 S.2.1 dX5_firstOf_72 ?_
          refine lv_iload S.1 S.2.1 dX5_firstOf_73 (lv_at hl 4 rfl) ?_
          refine lv_icmp_ne (tgt := 81) S.1 S.2.1 dX5_firstOf_75 (by decide) (fun c_14 => ?_) (fun c_14 => ?_)
          · replace hV := hV.trans (if_neg c_14)
            refine lv_iinc (v := (x5_5 + (1 : Int32))) (lv' := [(5, .int (x5_5 + (1 : Int32))), (0, .ref (a 41)), (1, .int p1), (2, .int p2), (3, .int ((u.1 43 (p1).toNatClampNeg) &&& (p2 ^^^ (-1 : Int32)))), (4, .int (u.1 42 (((p1 * (256 : Int32)) + p2)).toNatClampNeg))]) S.1 S.2.1 dX5_firstOf_81 hl (k := 5) rfl rfl (by decide) rfl (fun ls hl => ?_)
            refine lv_goto (tgt := 28) S.1 S.2.1 dX5_firstOf_84 (by decide) ?_
            have e_15 : ∀ _ : Unit, ((x5_5 + (1 : Int32))).toInt = (x5_5).toInt + 1 := fun _ => xadd rfl rfl (by omega) (by omega)
            exact ih_5 (x5_5 + (1 : Int32)) _ _ _ (show 0 ≤ ((x5_5 + (1 : Int32))).toInt from by rw [(e_15 ())]; omega) (show ((u.1 13 0)).toInt - ((x5_5 + (1 : Int32))).toInt < (n_5 : Int) ∧ 1 ≤ n_5 from by rw [(e_15 ())]; omega) (lv_sub hl [1, 2, 3, 4, 5, 0] rfl) hw hV
          · replace hV := hV.trans (if_pos c_14)
            refine lv_iload S.1 S.2.1 dX5_firstOf_78 (lv_at hl 5 rfl) ?_
            exact xri S hr hlk hw (congrArg (fun b => (b, u)) hV) dX5_firstOf_80
  exact lp_5 9 (0 : Int32) _ _ _ (show 0 ≤ 0 from by omega) (show ((u.1 13 0)).toInt - 0 < ((9 : Nat) : Int) ∧ 1 ≤ (9 : Nat) from by omega) (lv_sub hl [3, 4, 5, 2, 1, 0] rfl) hw hV
def k_Reader_fitsThing (u : xU) (p1 : Int32) : Bool :=
    (if (u.1 1 5) = (2 : Int32) then
    (if (3 : Int32) ≤ p1 then
    (if (u.1 4 0) < (u.1 1 6) then
    false
    else
    true)
    else
    (if (u.1 1 6) < (xzv 0 (p1).toNatClampNeg) then
    false
    else
    (if (xzv 1 (p1).toNatClampNeg) < (u.1 1 6) then
    false
    else
    true)))
    else
    false)
set_option maxHeartbeats 4000000 in
set_option maxRecDepth 100000 in
theorem c_k_Reader_fitsThing (l : Launch) (D : va_G) (a : Nat → Nat) (Y : Nat → ClassId) (ts : Nat → Nat) (u : xU) (p1 : Int32) (hp0 : 0 ≤ (p1).toInt ∧ (p1).toInt < 5) : xMi l yX8_fitsThing cX8_fitsThing 2 (some .boolean) (xRm 0 0) D (xty Y) (wC a Y) ts [.ref (a 1), .int p1] u (b2i (k_Reader_fitsThing u p1), u) := by
  suffices h : ∀ V, V = k_Reader_fitsThing u p1 → xMi l yX8_fitsThing cX8_fitsThing 2 (some .boolean) (xRm 0 0) D (xty Y) (wC a Y) ts [.ref (a 1), .int p1] u (b2i V, u) from h _ rfl
  intro V hV
  refine xofi RX8 rfl (by decide) (Nat.le_of_ble_eq_true rfl) ?_
  intro p e s m args below meth c ls H locs A S hr hlk hl hK hE hA hw
  have hl : lv_has ls 2 [(0, .ref (a 1)), (1, .int p1)] := hl
  refine lv_aload_n S.1 S.2.1 dX8_fitsThing_0 rfl (lv_at hl 0 rfl) ?_
  refine xget (v := .int (u.1 1 5)) S hK hw 1 rfl rfl inX8 5 (by decide) mfX8_38 rfl dX8_fitsThing_1 ?_
  refine lv_iconst (v := 2) S.1 S.2.1 dX8_fitsThing_4 (by decide) ?_
  refine lv_icmp_eq (tgt := 10) S.1 S.2.1 dX8_fitsThing_5 (by decide) (fun c_1 => ?_) (fun c_1 => ?_)
  · replace hV := hV.trans (if_pos c_1)
    have gc_1 : ((u.1 1 5)).toInt = 2 := xq_eq c_1 rfl rfl
    refine lv_iload_n S.1 S.2.1 dX8_fitsThing_10 rfl (lv_at hl 1 rfl) ?_
    refine lv_iconst (v := 3) S.1 S.2.1 dX8_fitsThing_11 (by decide) ?_
    refine lv_icmp_ge (tgt := 47) S.1 S.2.1 dX8_fitsThing_12 (by decide) (fun c_2 => ?_) (fun c_2 => ?_)
    · replace hV := hV.trans (if_pos c_2)
      have gc_2 : 3 ≤ (p1).toInt := xq_le c_2 rfl rfl
      refine lv_aload_n S.1 S.2.1 dX8_fitsThing_47 rfl (lv_at hl 0 rfl) ?_
      refine xget (v := .int (u.1 1 6)) S hK hw 1 rfl rfl inX8 6 (by decide) mfX8_45 rfl dX8_fitsThing_48 ?_
      refine lv_aload_n S.1 S.2.1 dX8_fitsThing_51 rfl (lv_at hl 0 rfl) ?_
      refine xget (v := .ref (a 4)) S hK hw 1 rfl rfl inX8 2 (by decide) mfX8_18 rfl dX8_fitsThing_52 ?_
      refine xget (v := .int (u.1 4 0)) S hK hw 4 rfl rfl inX9 0 (by decide) mfX8_25 rfl dX8_fitsThing_55 ?_
      refine lv_icmp_gt (tgt := 65) S.1 S.2.1 dX8_fitsThing_58 (by decide) (fun c_3 => ?_) (fun c_3 => ?_)
      · replace hV := hV.trans (if_pos c_3)
        have gc_3 : ((u.1 4 0)).toInt < ((u.1 1 6)).toInt := xq_lt c_3 rfl rfl
        refine lv_iconst (v := 0) S.1 S.2.1 dX8_fitsThing_65 (by decide) ?_
        exact xrz S hr hlk hw rfl (congrArg (fun b => (b2i b, u)) hV) dX8_fitsThing_66
      · replace hV := hV.trans (if_neg c_3)
        have gc_3 : ((u.1 1 6)).toInt ≤ ((u.1 4 0)).toInt := xq_nlt c_3 rfl rfl
        refine lv_iconst (v := 1) S.1 S.2.1 dX8_fitsThing_61 (by decide) ?_
        refine lv_goto (tgt := 66) S.1 S.2.1 dX8_fitsThing_62 (by decide) ?_
        exact xrz S hr hlk hw rfl (congrArg (fun b => (b2i b, u)) hV) dX8_fitsThing_66
    · replace hV := hV.trans (if_neg c_2)
      have gc_2 : (p1).toInt < 3 := xq_nle c_2 rfl rfl
      refine lv_aload_n S.1 S.2.1 dX8_fitsThing_15 rfl (lv_at hl 0 rfl) ?_
      refine xget (v := .int (u.1 1 6)) S hK hw 1 rfl rfl inX8 6 (by decide) mfX8_45 rfl dX8_fitsThing_16 ?_
      refine xgst S hE hw 0 (by decide) mfX8_62 dX8_fitsThing_19 ?_
      refine lv_iload_n S.1 S.2.1 dX8_fitsThing_22 rfl (lv_at hl 1 rfl) ?_
      refine xtld S hE hw 0 (by decide) (xvi rfl (by omega) (by omega)) dX8_fitsThing_23 ?_
      refine lv_icmp_lt (tgt := 43) S.1 S.2.1 dX8_fitsThing_24 (by decide) (fun c_4 => ?_) (fun c_4 => ?_)
      · replace hV := hV.trans (if_pos c_4)
        have gc_4 : ((u.1 1 6)).toInt < ((xzv 0 (p1).toNatClampNeg)).toInt := xq_lt c_4 rfl rfl
        refine lv_iconst (v := 0) S.1 S.2.1 dX8_fitsThing_43 (by decide) ?_
        refine lv_goto (tgt := 66) S.1 S.2.1 dX8_fitsThing_44 (by decide) ?_
        exact xrz S hr hlk hw rfl (congrArg (fun b => (b2i b, u)) hV) dX8_fitsThing_66
      · replace hV := hV.trans (if_neg c_4)
        have gc_4 : ((xzv 0 (p1).toNatClampNeg)).toInt ≤ ((u.1 1 6)).toInt := xq_nlt c_4 rfl rfl
        refine lv_aload_n S.1 S.2.1 dX8_fitsThing_27 rfl (lv_at hl 0 rfl) ?_
        refine xget (v := .int (u.1 1 6)) S hK hw 1 rfl rfl inX8 6 (by decide) mfX8_45 rfl dX8_fitsThing_28 ?_
        refine xgst S hE hw 1 (by decide) mfX8_65 dX8_fitsThing_31 ?_
        refine lv_iload_n S.1 S.2.1 dX8_fitsThing_34 rfl (lv_at hl 1 rfl) ?_
        refine xtld S hE hw 1 (by decide) (xvi rfl (by omega) (by omega)) dX8_fitsThing_35 ?_
        refine lv_icmp_gt (tgt := 43) S.1 S.2.1 dX8_fitsThing_36 (by decide) (fun c_5 => ?_) (fun c_5 => ?_)
        · replace hV := hV.trans (if_pos c_5)
          have gc_5 : ((xzv 1 (p1).toNatClampNeg)).toInt < ((u.1 1 6)).toInt := xq_lt c_5 rfl rfl
          refine lv_iconst (v := 0) S.1 S.2.1 dX8_fitsThing_43 (by decide) ?_
          refine lv_goto (tgt := 66) S.1 S.2.1 dX8_fitsThing_44 (by decide) ?_
          exact xrz S hr hlk hw rfl (congrArg (fun b => (b2i b, u)) hV) dX8_fitsThing_66
        · replace hV := hV.trans (if_neg c_5)
          have gc_5 : ((u.1 1 6)).toInt ≤ ((xzv 1 (p1).toNatClampNeg)).toInt := xq_nlt c_5 rfl rfl
          refine lv_iconst (v := 1) S.1 S.2.1 dX8_fitsThing_39 (by decide) ?_
          refine lv_goto (tgt := 66) S.1 S.2.1 dX8_fitsThing_40 (by decide) ?_
          exact xrz S hr hlk hw rfl (congrArg (fun b => (b2i b, u)) hV) dX8_fitsThing_66
  · replace hV := hV.trans (if_neg c_1)
    have gc_1 : ¬ ((u.1 1 5)).toInt = 2 := xq_ne c_1 rfl rfl
    refine lv_iconst (v := 0) S.1 S.2.1 dX8_fitsThing_8 (by decide) ?_
    exact xrz S hr hlk hw rfl (congrArg (fun b => (b2i b, u)) hV) dX8_fitsThing_9
def k_Reader_fitsCast (u : xU) (p1 : Int32) : Bool :=
    (if (u.1 1 5) = (2 : Int32) then
    (if (u.1 1 6) < (xzv 2 (p1).toNatClampNeg) then
    false
    else
    (if (xzv 3 (p1).toNatClampNeg) < (u.1 1 6) then
    false
    else
    true))
    else
    false)
set_option maxHeartbeats 4000000 in
set_option maxRecDepth 100000 in
theorem c_k_Reader_fitsCast (l : Launch) (D : va_G) (a : Nat → Nat) (Y : Nat → ClassId) (ts : Nat → Nat) (u : xU) (p1 : Int32) (hp0 : 0 ≤ (p1).toInt ∧ (p1).toInt < 3) : xMi l yX8_fitsCast cX8_fitsCast 2 (some .boolean) (xRm 0 0) D (xty Y) (wC a Y) ts [.ref (a 1), .int p1] u (b2i (k_Reader_fitsCast u p1), u) := by
  suffices h : ∀ V, V = k_Reader_fitsCast u p1 → xMi l yX8_fitsCast cX8_fitsCast 2 (some .boolean) (xRm 0 0) D (xty Y) (wC a Y) ts [.ref (a 1), .int p1] u (b2i V, u) from h _ rfl
  intro V hV
  refine xofi RX8 rfl (by decide) (Nat.le_of_ble_eq_true rfl) ?_
  intro p e s m args below meth c ls H locs A S hr hlk hl hK hE hA hw
  have hl : lv_has ls 2 [(0, .ref (a 1)), (1, .int p1)] := hl
  refine lv_aload_n S.1 S.2.1 dX8_fitsCast_0 rfl (lv_at hl 0 rfl) ?_
  refine xget (v := .int (u.1 1 5)) S hK hw 1 rfl rfl inX8 5 (by decide) mfX8_38 rfl dX8_fitsCast_1 ?_
  refine lv_iconst (v := 2) S.1 S.2.1 dX8_fitsCast_4 (by decide) ?_
  refine lv_icmp_ne (tgt := 36) S.1 S.2.1 dX8_fitsCast_5 (by decide) (fun c_1 => ?_) (fun c_1 => ?_)
  · replace hV := hV.trans (if_neg c_1)
    have gc_1 : ¬ ((u.1 1 5)).toInt = 2 := xq_ne c_1 rfl rfl
    refine lv_iconst (v := 0) S.1 S.2.1 dX8_fitsCast_36 (by decide) ?_
    exact xrz S hr hlk hw rfl (congrArg (fun b => (b2i b, u)) hV) dX8_fitsCast_37
  · replace hV := hV.trans (if_pos c_1)
    have gc_1 : ((u.1 1 5)).toInt = 2 := xq_eq c_1 rfl rfl
    refine lv_aload_n S.1 S.2.1 dX8_fitsCast_8 rfl (lv_at hl 0 rfl) ?_
    refine xget (v := .int (u.1 1 6)) S hK hw 1 rfl rfl inX8 6 (by decide) mfX8_45 rfl dX8_fitsCast_9 ?_
    refine xgst S hE hw 2 (by decide) mfX8_68 dX8_fitsCast_12 ?_
    refine lv_iload_n S.1 S.2.1 dX8_fitsCast_15 rfl (lv_at hl 1 rfl) ?_
    refine xtld S hE hw 2 (by decide) (xvi rfl (by omega) (by omega)) dX8_fitsCast_16 ?_
    refine lv_icmp_lt (tgt := 36) S.1 S.2.1 dX8_fitsCast_17 (by decide) (fun c_2 => ?_) (fun c_2 => ?_)
    · replace hV := hV.trans (if_pos c_2)
      have gc_2 : ((u.1 1 6)).toInt < ((xzv 2 (p1).toNatClampNeg)).toInt := xq_lt c_2 rfl rfl
      refine lv_iconst (v := 0) S.1 S.2.1 dX8_fitsCast_36 (by decide) ?_
      exact xrz S hr hlk hw rfl (congrArg (fun b => (b2i b, u)) hV) dX8_fitsCast_37
    · replace hV := hV.trans (if_neg c_2)
      have gc_2 : ((xzv 2 (p1).toNatClampNeg)).toInt ≤ ((u.1 1 6)).toInt := xq_nlt c_2 rfl rfl
      refine lv_aload_n S.1 S.2.1 dX8_fitsCast_20 rfl (lv_at hl 0 rfl) ?_
      refine xget (v := .int (u.1 1 6)) S hK hw 1 rfl rfl inX8 6 (by decide) mfX8_45 rfl dX8_fitsCast_21 ?_
      refine xgst S hE hw 3 (by decide) mfX8_71 dX8_fitsCast_24 ?_
      refine lv_iload_n S.1 S.2.1 dX8_fitsCast_27 rfl (lv_at hl 1 rfl) ?_
      refine xtld S hE hw 3 (by decide) (xvi rfl (by omega) (by omega)) dX8_fitsCast_28 ?_
      refine lv_icmp_gt (tgt := 36) S.1 S.2.1 dX8_fitsCast_29 (by decide) (fun c_3 => ?_) (fun c_3 => ?_)
      · replace hV := hV.trans (if_pos c_3)
        have gc_3 : ((xzv 3 (p1).toNatClampNeg)).toInt < ((u.1 1 6)).toInt := xq_lt c_3 rfl rfl
        refine lv_iconst (v := 0) S.1 S.2.1 dX8_fitsCast_36 (by decide) ?_
        exact xrz S hr hlk hw rfl (congrArg (fun b => (b2i b, u)) hV) dX8_fitsCast_37
      · replace hV := hV.trans (if_neg c_3)
        have gc_3 : ((u.1 1 6)).toInt ≤ ((xzv 3 (p1).toNatClampNeg)).toInt := xq_nlt c_3 rfl rfl
        refine lv_iconst (v := 1) S.1 S.2.1 dX8_fitsCast_32 (by decide) ?_
        refine lv_goto (tgt := 37) S.1 S.2.1 dX8_fitsCast_33 (by decide) ?_
        exact xrz S hr hlk hw rfl (congrArg (fun b => (b2i b, u)) hV) dX8_fitsCast_37
