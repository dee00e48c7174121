def m_can (u : xU) (p1 : Int32) (p2 : Int32) : Bool :=
    (m_has (u.1 7 (((49 : Int32) + p1)).toNatClampNeg) p2)
set_option maxHeartbeats 4000000 in
set_option maxRecDepth 100000 in
theorem c_m_can (l : Launch) (D : va_G) (a : Nat → Nat) (Y : Nat → ClassId) (ts : Nat → Nat) (u : xU) (p1 : Int32) (p2 : Int32) (hT : (0 ≤ ((u.1 0 0)).toInt ∧ ((u.1 0 0)).toInt ≤ 8)) (hC : (0 ≤ ((u.1 0 5)).toInt ∧ ((u.1 0 5)).toInt ≤ 6)) (hp0 : 0 ≤ (p1).toInt ∧ (p1).toInt < 6) : xMi l yX11_can cX11_can 3 (some .boolean) (xRm 1 21) D (xty Y) (wM a Y) ts [.ref (a 0), .int p1, .int p2] u (b2i (m_can u p1 p2), u) := by
  suffices h : ∀ V, V = m_can u p1 p2 → xMi l yX11_can cX11_can 3 (some .boolean) (xRm 1 21) D (xty Y) (wM a Y) ts [.ref (a 0), .int p1, .int p2] u (b2i V, u) from h _ rfl
  intro V hV
  refine xofi RX11 rfl (by decide) (Nat.le_of_ble_eq_true rfl) ?_
  intro p e s m args below meth c ls H locs A S hr hlk hl hK hE hA hw
  have hl : lv_has ls 3 [(0, .ref (a 0)), (1, .int p1), (2, .int p2)] := hl
  refine lv_aload_n S.1 S.2.1 dX11_can_0 rfl (lv_at hl 0 rfl) ?_
  refine xget (v := .ref (a 7)) S hK hw 0 rfl rfl inX11 8 (by decide) mfX11_28 rfl dX11_can_1 ?_
  refine lv_bipush (v := 49) S.1 S.2.1 dX11_can_4 (by decide) ?_
  refine lv_iload_n S.1 S.2.1 dX11_can_6 rfl (lv_at hl 1 rfl) ?_
  refine lv_iadd S.1 S.2.1 dX11_can_7 ?_
  have e_1 : ∀ _ : Unit, (((49 : Int32) + p1)).toInt = 49 + (p1).toInt := fun _ => xadd rfl rfl (by omega) (by omega)
  refine xald (f := u.1 7) S hK hw 7 0 rfl rfl (xvi (e_1 ()) (by omega) (by omega)) dX11_can_8 ?_
  refine lv_iload_n S.1 S.2.1 dX11_can_9 rfl (lv_at hl 2 rfl) ?_
  refine xcP (rest := []) S hw yfX11_has (c_m_has l (u.1 7 (((49 : Int32) + p1)).toNatClampNeg) p2) mlX11_140 rfl rfl hl.1 ⟨rfl, rfl, Nat.le_of_ble_eq_true rfl, Nat.le_of_ble_eq_true rfl, Nat.le_of_ble_eq_true rfl, Nat.zero_le _, Nat.zero_le _⟩ dX11_can_10 (fun H locs hw => ?_)
  exact xrz S hr hlk hw (b2i_z _) (congrArg (fun b => (b2i b, u)) hV) dX11_can_13
def m_isBroken (u : xU) (p1 : Int32) : Bool :=
    (m_has (u.1 7 67) p1)
set_option maxHeartbeats 4000000 in
set_option maxRecDepth 100000 in
theorem c_m_isBroken (l : Launch) (D : va_G) (a : Nat → Nat) (Y : Nat → ClassId) (ts : Nat → Nat) (u : xU) (p1 : Int32) (hT : (0 ≤ ((u.1 0 0)).toInt ∧ ((u.1 0 0)).toInt ≤ 8)) (hC : (0 ≤ ((u.1 0 5)).toInt ∧ ((u.1 0 5)).toInt ≤ 6)) (hp0 : 0 ≤ (p1).toInt ∧ (p1).toInt < 6) : xMi l yX11_isBroken cX11_isBroken 2 (some .boolean) (xRm 1 21) D (xty Y) (wM a Y) ts [.ref (a 0), .int p1] u (b2i (m_isBroken u p1), u) := by
  suffices h : ∀ V, V = m_isBroken u p1 → xMi l yX11_isBroken cX11_isBroken 2 (some .boolean) (xRm 1 21) D (xty Y) (wM a Y) ts [.ref (a 0), .int p1] u (b2i V, u) from h _ rfl
  intro V hV
  refine xofi RX11 rfl (by decide) (Nat.le_of_ble_eq_true rfl) ?_
  intro p e s m args below meth c ls H locs A S hr hlk hl hK hE hA hw
  have hl : lv_has ls 2 [(0, .ref (a 0)), (1, .int p1)] := hl
  refine lv_aload_n S.1 S.2.1 dX11_isBroken_0 rfl (lv_at hl 0 rfl) ?_
  refine xget (v := .ref (a 7)) S hK hw 0 rfl rfl inX11 8 (by decide) mfX11_28 rfl dX11_isBroken_1 ?_
  refine lv_bipush (v := 67) S.1 S.2.1 dX11_isBroken_4 (by decide) ?_
  refine xaldc (f := u.1 7) (x := (u.1 7 67)) (k := 67) S hK hw 7 0 rfl rfl (by decide) rfl (xvi (a := 67) rfl (by decide) (by decide)) dX11_isBroken_6 ?_
  refine lv_iload_n S.1 S.2.1 dX11_isBroken_7 rfl (lv_at hl 1 rfl) ?_
  refine xcP (rest := []) S hw yfX11_has (c_m_has l (u.1 7 67) p1) mlX11_140 rfl rfl hl.1 ⟨rfl, rfl, Nat.le_of_ble_eq_true rfl, Nat.le_of_ble_eq_true rfl, Nat.le_of_ble_eq_true rfl, Nat.zero_le _, Nat.zero_le _⟩ dX11_isBroken_8 (fun H locs hw => ?_)
  exact xrz S hr hlk hw (b2i_z _) (congrArg (fun b => (b2i b, u)) hV) dX11_isBroken_11
def m_hasPart (u : xU) (p1 : Int32) (p2 : Int32) : Bool :=
    (if (u.1 3 (p2).toNatClampNeg) = (6 : Int32) then
    true
    else
    (if (b2i (m_has (u.1 7 (((55 : Int32) + p1)).toNatClampNeg) (u.1 3 (p2).toNatClampNeg))) = (0 : Int32) then
    true
    else
    false))
set_option maxHeartbeats 4000000 in
set_option maxRecDepth 100000 in
theorem c_m_hasPart (l : Launch) (D : va_G) (a : Nat → Nat) (Y : Nat → ClassId) (ts : Nat → Nat) (u : xU) (p1 : Int32) (p2 : Int32) (hT : (0 ≤ ((u.1 0 0)).toInt ∧ ((u.1 0 0)).toInt ≤ 8)) (hC : (0 ≤ ((u.1 0 5)).toInt ∧ ((u.1 0 5)).toInt ≤ 6)) (hp0 : 0 ≤ (p1).toInt ∧ (p1).toInt < 6) (hp1 : 0 ≤ (p2).toInt ∧ (p2).toInt < 8) : xMi l yX11_hasPart cX11_hasPart 3 (some .boolean) (xRm 1 21) D (xty Y) (wM a Y) ts [.ref (a 0), .int p1, .int p2] u (b2i (m_hasPart u p1 p2), u) := by
  suffices h : ∀ V, V = m_hasPart u p1 p2 → xMi l yX11_hasPart cX11_hasPart 3 (some .boolean) (xRm 1 21) D (xty Y) (wM a Y) ts [.ref (a 0), .int p1, .int p2] u (b2i V, u) from h _ rfl
  intro V hV
  refine xofi RX11 rfl (by decide) (Nat.le_of_ble_eq_true rfl) ?_
  intro p e s m args below meth c ls H locs A S hr hlk hl hK hE hA hw
  have hl : lv_has ls 3 [(0, .ref (a 0)), (1, .int p1), (2, .int p2)] := hl
  refine lv_aload_n S.1 S.2.1 dX11_hasPart_0 rfl (lv_at hl 0 rfl) ?_
  refine xget (v := .ref (a 3)) S hK hw 0 rfl rfl inX11 3 (by decide) mfX11_16 rfl dX11_hasPart_1 ?_
  refine lv_iload_n S.1 S.2.1 dX11_hasPart_4 rfl (lv_at hl 2 rfl) ?_
  refine xald (f := u.1 3) S hK hw 3 0 rfl rfl (xvi rfl (by omega) (by omega)) dX11_hasPart_5 ?_
  refine lv_bipush (v := 6) S.1 S.2.1 dX11_hasPart_6 (by decide) ?_
  refine lv_icmp_eq (tgt := 32) S.1 S.2.1 dX11_hasPart_8 (by decide) (fun c_1 => ?_) (fun c_1 => ?_)
  · replace hV := hV.trans (if_pos c_1)
    have gc_1 : ((u.1 3 (p2).toNatClampNeg)).toInt = 6 := xq_eq c_1 rfl rfl
    refine lv_iconst (v := 1) S.1 S.2.1 dX11_hasPart_32 (by decide) ?_
    refine lv_goto (tgt := 37) S.1 S.2.1 dX11_hasPart_33 (by decide) ?_
    exact xrz S hr hlk hw rfl (congrArg (fun b => (b2i b, u)) hV) dX11_hasPart_37
  · replace hV := hV.trans (if_neg c_1)
    have gc_1 : ¬ ((u.1 3 (p2).toNatClampNeg)).toInt = 6 := xq_ne c_1 rfl rfl
    refine lv_aload_n S.1 S.2.1 dX11_hasPart_11 rfl (lv_at hl 0 rfl) ?_
    refine xget (v := .ref (a 7)) S hK hw 0 rfl rfl inX11 8 (by decide) mfX11_28 rfl dX11_hasPart_12 ?_
    refine lv_bipush (v := 55) S.1 S.2.1 dX11_hasPart_15 (by decide) ?_
    refine lv_iload_n S.1 S.2.1 dX11_hasPart_17 rfl (lv_at hl 1 rfl) ?_
    refine lv_iadd S.1 S.2.1 dX11_hasPart_18 ?_
    have e_2 : ∀ _ : Unit, (((55 : Int32) + p1)).toInt = 55 + (p1).toInt := fun _ => xadd rfl rfl (by omega) (by omega)
    refine xald (f := u.1 7) S hK hw 7 0 rfl rfl (xvi (e_2 ()) (by omega) (by omega)) dX11_hasPart_19 ?_
    refine lv_aload_n S.1 S.2.1 dX11_hasPart_20 rfl (lv_at hl 0 rfl) ?_
    refine xget (v := .ref (a 3)) S hK hw 0 rfl rfl inX11 3 (by decide) mfX11_16 rfl dX11_hasPart_21 ?_
    refine lv_iload_n S.1 S.2.1 dX11_hasPart_24 rfl (lv_at hl 2 rfl) ?_
    refine xald (f := u.1 3) S hK hw 3 0 rfl rfl (xvi rfl (by omega) (by omega)) dX11_hasPart_25 ?_
    refine xcP (rest := []) S hw yfX11_has (c_m_has l (u.1 7 (((55 : Int32) + p1)).toNatClampNeg) (u.1 3 (p2).toNatClampNeg)) mlX11_140 rfl rfl hl.1 ⟨rfl, rfl, Nat.le_of_ble_eq_true rfl, Nat.le_of_ble_eq_true rfl, Nat.le_of_ble_eq_true rfl, Nat.zero_le _, Nat.zero_le _⟩ dX11_hasPart_26 (fun H locs hw => ?_)
    refine lv_if_ne (tgt := 36) S.1 S.2.1 dX11_hasPart_29 (by decide) (fun c_3 => ?_) (fun c_3 => ?_)
    · replace hV := hV.trans (if_neg c_3)
      have gc_3 : ¬ ((b2i (m_has (u.1 7 (((55 : Int32) + p1)).toNatClampNeg) (u.1 3 (p2).toNatClampNeg)))).toInt = 0 := xq_ne c_3 rfl rfl
      refine lv_iconst (v := 0) S.1 S.2.1 dX11_hasPart_36 (by decide) ?_
      exact xrz S hr hlk hw rfl (congrArg (fun b => (b2i b, u)) hV) dX11_hasPart_37
    · replace hV := hV.trans (if_pos c_3)
      have gc_3 : ((b2i (m_has (u.1 7 (((55 : Int32) + p1)).toNatClampNeg) (u.1 3 (p2).toNatClampNeg)))).toInt = 0 := xq_eq c_3 rfl rfl
      refine lv_iconst (v := 1) S.1 S.2.1 dX11_hasPart_32 (by decide) ?_
      refine lv_goto (tgt := 37) S.1 S.2.1 dX11_hasPart_33 (by decide) ?_
      exact xrz S hr hlk hw rfl (congrArg (fun b => (b2i b, u)) hV) dX11_hasPart_37
def m_may (u : xU) (p1 : Int32) (p2 : Int32) : Bool :=
    (if (b2i (m_isBroken u p1)) = (0 : Int32) then
    (if (b2i (m_can u p1 p2)) = (0 : Int32) then
    (if ((u.1 4 (p2).toNatClampNeg) &&& ((u.1 7 (((49 : Int32) + p1)).toNatClampNeg) ^^^ (-1 : Int32))) = (0 : Int32) then
    (if (b2i (m_hasPart u p1 p2)) = (0 : Int32) then
    false
    else
    true)
    else
    false)
    else
    false)
    else
    false)
set_option maxHeartbeats 4000000 in
set_option maxRecDepth 100000 in
theorem c_m_may (l : Launch) (D : va_G) (a : Nat → Nat) (Y : Nat → ClassId) (ts : Nat → Nat) (u : xU) (p1 : Int32) (p2 : Int32) (hT : (0 ≤ ((u.1 0 0)).toInt ∧ ((u.1 0 0)).toInt ≤ 8)) (hC : (0 ≤ ((u.1 0 5)).toInt ∧ ((u.1 0 5)).toInt ≤ 6)) (hp0 : 0 ≤ (p1).toInt ∧ (p1).toInt < 6) (hp1 : 0 ≤ (p2).toInt ∧ (p2).toInt < 8) : xMi l yX11_may cX11_may 3 (some .boolean) (xRm 2 43) D (xty Y) (wM a Y) ts [.ref (a 0), .int p1, .int p2] u (b2i (m_may u p1 p2), u) := by
  suffices h : ∀ V, V = m_may u p1 p2 → xMi l yX11_may cX11_may 3 (some .boolean) (xRm 2 43) D (xty Y) (wM a Y) ts [.ref (a 0), .int p1, .int p2] u (b2i V, u) from h _ rfl
  intro V hV
  refine xofi RX11 rfl (by decide) (Nat.le_of_ble_eq_true rfl) ?_
  intro p e s m args below meth c ls H locs A S hr hlk hl hK hE hA hw
  have hl : lv_has ls 3 [(0, .ref (a 0)), (1, .int p1), (2, .int p2)] := hl
  refine lv_aload_n S.1 S.2.1 dX11_may_0 rfl (lv_at hl 0 rfl) ?_
  refine lv_iload_n S.1 S.2.1 dX11_may_1 rfl (lv_at hl 1 rfl) ?_
  refine xci (rest := []) S hK hE hA hw yfX11_isBroken (c_m_isBroken l D a Y ts _ p1 (show (0 ≤ ((u.1 0 0)).toInt ∧ ((u.1 0 0)).toInt ≤ 8) from by omega) (show (0 ≤ ((u.1 0 5)).toInt ∧ ((u.1 0 5)).toInt ≤ 6) from by omega) (show 0 ≤ (p1).toInt ∧ (p1).toInt < 6 from by omega)) 0 rfl rfl mlX11_144 rfl rfl hl.1 ⟨rfl, rfl, Nat.le_of_ble_eq_true rfl, Nat.le_of_ble_eq_true rfl, Nat.le_of_ble_eq_true rfl, Nat.zero_le _, Nat.zero_le _⟩ dX11_may_2 (fun H locs hw => ?_)
  refine lv_if_ne (tgt := 51) S.1 S.2.1 dX11_may_5 (by decide) (fun c_1 => ?_) (fun c_1 => ?_)
  · replace hV := hV.trans (if_neg c_1)
    have gc_1 : ¬ ((b2i (m_isBroken u p1))).toInt = 0 := xq_ne c_1 rfl rfl
    refine lv_iconst (v := 0) S.1 S.2.1 dX11_may_51 (by decide) ?_
    exact xrz S hr hlk hw rfl (congrArg (fun b => (b2i b, u)) hV) dX11_may_52
  · replace hV := hV.trans (if_pos c_1)
    have gc_1 : ((b2i (m_isBroken u p1))).toInt = 0 := xq_eq c_1 rfl rfl
    refine lv_aload_n S.1 S.2.1 dX11_may_8 rfl (lv_at hl 0 rfl) ?_
    refine lv_iload_n S.1 S.2.1 dX11_may_9 rfl (lv_at hl 1 rfl) ?_
    refine lv_iload_n S.1 S.2.1 dX11_may_10 rfl (lv_at hl 2 rfl) ?_
    refine xci (rest := []) S hK hE hA hw yfX11_can (c_m_can l D a Y ts _ p1 p2 (show (0 ≤ ((u.1 0 0)).toInt ∧ ((u.1 0 0)).toInt ≤ 8) from by omega) (show (0 ≤ ((u.1 0 5)).toInt ∧ ((u.1 0 5)).toInt ≤ 6) from by omega) (show 0 ≤ (p1).toInt ∧ (p1).toInt < 6 from by omega)) 0 rfl rfl mlX11_147 rfl rfl hl.1 ⟨rfl, rfl, Nat.le_of_ble_eq_true rfl, Nat.le_of_ble_eq_true rfl, Nat.le_of_ble_eq_true rfl, Nat.zero_le _, Nat.zero_le _⟩ dX11_may_11 (fun H locs hw => ?_)
    refine lv_if_ne (tgt := 51) S.1 S.2.1 dX11_may_14 (by decide) (fun c_2 => ?_) (fun c_2 => ?_)
    · replace hV := hV.trans (if_neg c_2)
      have gc_2 : ¬ ((b2i (m_can u p1 p2))).toInt = 0 := xq_ne c_2 rfl rfl
      refine lv_iconst (v := 0) S.1 S.2.1 dX11_may_51 (by decide) ?_
      exact xrz S hr hlk hw rfl (congrArg (fun b => (b2i b, u)) hV) dX11_may_52
    · replace hV := hV.trans (if_pos c_2)
      have gc_2 : ((b2i (m_can u p1 p2))).toInt = 0 := xq_eq c_2 rfl rfl
      refine lv_aload_n S.1 S.2.1 dX11_may_17 rfl (lv_at hl 0 rfl) ?_
      refine xget (v := .ref (a 4)) S hK hw 0 rfl rfl inX11 4 (by decide) mfX11_19 rfl dX11_may_18 ?_
      refine lv_iload_n S.1 S.2.1 dX11_may_21 rfl (lv_at hl 2 rfl) ?_
      refine xald (f := u.1 4) S hK hw 4 0 rfl rfl (xvi rfl (by omega) (by omega)) dX11_may_22 ?_
      refine lv_aload_n S.1 S.2.1 dX11_may_23 rfl (lv_at hl 0 rfl) ?_
      refine xget (v := .ref (a 7)) S hK hw 0 rfl rfl inX11 8 (by decide) mfX11_28 rfl dX11_may_24 ?_
      refine lv_bipush (v := 49) S.1 S.2.1 dX11_may_27 (by decide) ?_
      refine lv_iload_n S.1 S.2.1 dX11_may_29 rfl (lv_at hl 1 rfl) ?_
      refine lv_iadd S.1 S.2.1 dX11_may_30 ?_
      have e_3 : ∀ _ : Unit, (((49 : Int32) + p1)).toInt = 49 + (p1).toInt := fun _ => xadd rfl rfl (by omega) (by omega)
      refine xald (f := u.1 7) S hK hw 7 0 rfl rfl (xvi (e_3 ()) (by omega) (by omega)) dX11_may_31 ?_
      refine lv_iconst (v := -1) S.1 S.2.1 dX11_may_32 (by decide) ?_
      refine lv_ixor S.1 S.2.1 dX11_may_33 ?_
      refine lv_iand S.1 S.2.1 dX11_may_34 ?_
      refine lv_if_ne (tgt := 51) S.1 S.2.1 dX11_may_35 (by decide) (fun c_4 => ?_) (fun c_4 => ?_)
      · replace hV := hV.trans (if_neg c_4)
        refine lv_iconst (v := 0) S.1 S.2.1 dX11_may_51 (by decide) ?_
        exact xrz S hr hlk hw rfl (congrArg (fun b => (b2i b, u)) hV) dX11_may_52
      · replace hV := hV.trans (if_pos c_4)
        refine lv_aload_n S.1 S.2.1 dX11_may_38 rfl (lv_at hl 0 rfl) ?_
        refine lv_iload_n S.1 S.2.1 dX11_may_39 rfl (lv_at hl 1 rfl) ?_
        refine lv_iload_n S.1 S.2.1 dX11_may_40 rfl (lv_at hl 2 rfl) ?_
        refine xci (rest := []) S hK hE hA hw yfX11_hasPart (c_m_hasPart l D a Y ts _ p1 p2 (show (0 ≤ ((u.1 0 0)).toInt ∧ ((u.1 0 0)).toInt ≤ 8) from by omega) (show (0 ≤ ((u.1 0 5)).toInt ∧ ((u.1 0 5)).toInt ≤ 6) from by omega) (show 0 ≤ (p1).toInt ∧ (p1).toInt < 6 from by omega) (show 0 ≤ (p2).toInt ∧ (p2).toInt < 8 from by omega)) 0 rfl rfl mlX11_150 rfl rfl hl.1 ⟨rfl, rfl, Nat.le_of_ble_eq_true rfl, Nat.le_of_ble_eq_true rfl, Nat.le_of_ble_eq_true rfl, Nat.zero_le _, Nat.zero_le _⟩ dX11_may_41 (fun H locs hw => ?_)
        refine lv_if_eq (tgt := 51) S.1 S.2.1 dX11_may_44 (by decide) (fun c_5 => ?_) (fun c_5 => ?_)
        · replace hV := hV.trans (if_pos c_5)
          have gc_5 : ((b2i (m_hasPart u p1 p2))).toInt = 0 := xq_eq c_5 rfl rfl
          refine lv_iconst (v := 0) S.1 S.2.1 dX11_may_51 (by decide) ?_
          exact xrz S hr hlk hw rfl (congrArg (fun b => (b2i b, u)) hV) dX11_may_52
        · replace hV := hV.trans (if_neg c_5)
          have gc_5 : ¬ ((b2i (m_hasPart u p1 p2))).toInt = 0 := xq_ne c_5 rfl rfl
          refine lv_iconst (v := 1) S.1 S.2.1 dX11_may_47 (by decide) ?_
          refine lv_goto (tgt := 52) S.1 S.2.1 dX11_may_48 (by decide) ?_
          exact xrz S hr hlk hw rfl (congrArg (fun b => (b2i b, u)) hV) dX11_may_52
def m_mays_L4 (w : xU) (x1 : Int32) : Nat → Int32 → Int32 → Int32
  | 0, _, _ => 0
  | n + 1, x2, x3 =>
    (if (w.1 0 0) ≤ x3 then
    x2
    else
    (if (b2i (m_may w x1 x3)) = (0 : Int32) then
    m_mays_L4 w x1 n (x2 ||| (0 : Int32)) (x3 + (1 : Int32))
    else
    m_mays_L4 w x1 n (x2 ||| ((1 : Int32) <<< (x3 &&& 31))) (x3 + (1 : Int32))))
def m_mays (u : xU) (p1 : Int32) : Int32 :=
    m_mays_L4 u p1 9 (0 : Int32) (0 : Int32)
set_option maxHeartbeats 4000000 in
set_option maxRecDepth 100000 in
theorem c_m_mays (l : Launch) (D : va_G) (a : Nat → Nat) (Y : Nat → ClassId) (ts : Nat → Nat) (u : xU) (p1 : Int32) (hT : (0 ≤ ((u.1 0 0)).toInt ∧ ((u.1 0 0)).toInt ≤ 8)) (hC : (0 ≤ ((u.1 0 5)).toInt ∧ ((u.1 0 5)).toInt ≤ 6)) (hp0 : 0 ≤ (p1).toInt ∧ (p1).toInt < 6) : xMi l yX11_mays cX11_mays 4 (some .int) (xRm 3 65) D (xty Y) (wM a Y) ts [.ref (a 0), .int p1] u ((m_mays u p1), u) := by
  suffices h : ∀ V, V = m_mays u p1 → xMi l yX11_mays cX11_mays 4 (some .int) (xRm 3 65) D (xty Y) (wM a Y) ts [.ref (a 0), .int p1] u (V, u) from h _ rfl
  intro V hV
  refine xofi RX11 rfl (by decide) (Nat.le_of_ble_eq_true rfl) ?_
  intro p e s m args below meth c ls H locs A S hr hlk hl hK hE hA hw
  have hl : lv_has ls 4 [(0, .ref (a 0)), (1, .int p1)] := hl
  refine lv_iconst (v := 0) S.1 S.2.1 dX11_mays_0 (by decide) ?_
  refine lv_istore_n (lv' := [(2, .int (0 : Int32)), (0, .ref (a 0)), (1, .int p1)]) S.1 S.2.1 dX11_mays_1 rfl hl (by decide) rfl (fun ls hl => ?_)
  refine lv_iconst (v := 0) S.1 S.2.1 dX11_mays_2 (by decide) ?_
  refine lv_istore_n (lv' := [(3, .int (0 : Int32)), (2, .int (0 : Int32)), (0, .ref (a 0)), (1, .int p1)]) S.1 S.2.1 dX11_mays_3 rfl hl (by decide) rfl (fun ls hl => ?_)
  have lp_1 : ∀ (n_1 : Nat) (x2_1 : Int32) (x3_1 : Int32) (H : Heap) (locs : List Loc) (ls : Array Slot), (0 ≤ (x3_1).toInt) → (((u.1 0 0)).toInt - (x3_1).toInt < (n_1 : Int) ∧ 1 ≤ n_1) → lv_has ls 4 [(0, .ref (a 0)), (1, .int p1), (2, .int x2_1), (3, .int x3_1)] → xw D (wM a Y) A s.heap H locs u → V = m_mays_L4 u p1 n_1 x2_1 x3_1 → W p l e (xRm 3 65) s m args below meth c H locs 0 0 (MQ below (va_Qi (fun r v => (r, v) = (V, u)) (xPost D (wM a Y) A) A) args s 0 0 A) (F0 m 4 ls []) := by
    intro n_1
    induction n_1 with
    | zero => intro x2_1 x3_1 H locs ls i0_1 hn; exact absurd hn.2 (by decide)
    | succ n_1 ih_1 =>
      intro x2_1 x3_1 H locs ls i0_1 hn_1 hl hw hV
      refine lv_iload_n S.1 S.2.1 dX11_mays_4 rfl (lv_at hl 3 rfl) ?_
      refine lv_aload_n S.1 S.2.1 dX11_mays_5 rfl (lv_at hl 0 rfl) ?_
      refine xget (v := .int (u.1 0 0)) S hK hw 0 rfl rfl inX11 0 (by decide) mfX11_68 rfl dX11_mays_6 ?_
      refine lv_icmp_ge (tgt := 37) S.1 S.2.1 dX11_mays_9 (by decide) (fun c_2 => ?_) (fun c_2 => ?_)
      · replace hV := hV.trans (if_pos c_2)
        have gc_2 : ((u.1 0 0)).toInt ≤ (x3_1).toInt := xq_le c_2 rfl rfl
        refine lv_iload_n S.1 S.2.1 dX11_mays_37 rfl (lv_at hl 2 rfl) ?_
        exact xri S hr hlk hw (congrArg (fun b => (b, u)) hV) dX11_mays_38
      · replace hV := hV.trans (if_neg c_2)
        have gc_2 : (x3_1).toInt < ((u.1 0 0)).toInt := xq_nle c_2 rfl rfl
        refine lv_iload_n S.1 S.2.1 dX11_mays_12 rfl (lv_at hl 2 rfl) ?_
        refine lv_aload_n S.1 S.2.1 dX11_mays_13 rfl (lv_at hl 0 rfl) ?_
        refine lv_iload_n S.1 S.2.1 dX11_mays_14 rfl (lv_at hl 1 rfl) ?_
        refine lv_iload_n S.1 S.2.1 dX11_mays_15 rfl (lv_at hl 3 rfl) ?_
        refine xci (rest := [.int x2_1]) S hK hE hA hw yfX11_may (c_m_may l D a Y ts _ p1 x3_1 (show (0 ≤ ((u.1 0 0)).toInt ∧ ((u.1 0 0)).toInt ≤ 8) from by omega) (show (0 ≤ ((u.1 0 5)).toInt ∧ ((u.1 0 5)).toInt ≤ 6) from by omega) (show 0 ≤ (p1).toInt ∧ (p1).toInt < 6 from by omega) (show 0 ≤ (x3_1).toInt ∧ (x3_1).toInt < 8 from by omega)) 0 rfl rfl mlX11_153 rfl rfl hl.1 ⟨rfl, rfl, Nat.le_of_ble_eq_true rfl, Nat.le_of_ble_eq_true rfl, Nat.le_of_ble_eq_true rfl, Nat.zero_le _, Nat.zero_le _⟩ dX11_mays_16 (fun H locs hw => ?_)
        refine lv_if_eq (tgt := 28) S.1 S.2.1 dX11_mays_19 (by decide) (fun c_3 => ?_) (fun c_3 => ?_)
        · replace hV := hV.trans (if_pos c_3)
          have gc_3 : ((b2i (m_may u p1 x3_1))).toInt = 0 := xq_eq c_3 rfl rfl
          refine lv_iconst (v := 0) S.1 S.2.1 dX11_mays_28 (by decide) ?_
          refine lv_ior S.1 S.2.1 dX11_mays_29 ?_
          refine lv_istore_n (lv' := [(2, .int (x2_1 ||| (0 : Int32))), (0, .ref (a 0)), (1, .int p1), (3, .int x3_1)]) S.1 S.2.1 dX11_mays_30 rfl hl (by decide) rfl (fun ls hl => ?_)
          refine lv_iinc (v := (x3_1 + (1 : Int32))) (lv' := [(3, .int (x3_1 + (1 : Int32))), (2, .int (x2_1 ||| (0 : Int32))), (0, .ref (a 0)), (1, .int p1)]) S.1 S.2.1 dX11_mays_31 hl (k := 3) rfl rfl (by decide) rfl (fun ls hl => ?_)
          refine lv_goto (tgt := 4) S.1 S.2.1 dX11_mays_34 (by decide) ?_
          have e_4 : ∀ _ : Unit, ((x3_1 + (1 : Int32))).toInt = (x3_1).toInt + 1 := fun _ => xadd rfl rfl (by omega) (by omega)
          exact ih_1 (x2_1 ||| (0 : Int32)) (x3_1 + (1 : Int32)) _ _ _ (show 0 ≤ ((x3_1 + (1 : Int32))).toInt from by rw [(e_4 ())]; omega) (show ((u.1 0 0)).toInt - ((x3_1 + (1 : Int32))).toInt < (n_1 : Int) ∧ 1 ≤ n_1 from by rw [(e_4 ())]; omega) (lv_sub hl [2, 3, 1, 0] rfl) hw hV
        · replace hV := hV.trans (if_neg c_3)
          have gc_3 : ¬ ((b2i (m_may u p1 x3_1))).toInt = 0 := xq_ne c_3 rfl rfl
          refine lv_iconst (v := 1) S.1 S.2.1 dX11_mays_22 (by decide) ?_
          refine lv_iload_n S.1 S.2.1 dX11_mays_23 rfl (lv_at hl 3 rfl) ?_
          refine lv_ishl S.1 S.2.1 dX11_mays_24 ?_
          refine lv_goto (tgt := 29) S.1 S.2.1 dX11_mays_25 (by decide) ?_
          refine lv_ior S.1 S.2.1 dX11_mays_29 ?_
          refine lv_istore_n (lv' := [(2, .int (x2_1 ||| ((1 : Int32) <<< (x3_1 &&& 31)))), (0, .ref (a 0)), (1, .int p1), (3, .int x3_1)]) S.1 S.2.1 dX11_mays_30 rfl hl (by decide) rfl (fun ls hl => ?_)
          refine lv_iinc (v := (x3_1 + (1 : Int32))) (lv' := [(3, .int (x3_1 + (1 : Int32))), (2, .int (x2_1 ||| ((1 : Int32) <<< (x3_1 &&& 31)))), (0, .ref (a 0)), (1, .int p1)]) S.1 S.2.1 dX11_mays_31 hl (k := 3) rfl rfl (by decide) rfl (fun ls hl => ?_)
          refine lv_goto (tgt := 4) S.1 S.2.1 dX11_mays_34 (by decide) ?_
          have e_5 : ∀ _ : Unit, ((x3_1 + (1 : Int32))).toInt = (x3_1).toInt + 1 := fun _ => xadd rfl rfl (by omega) (by omega)
          exact ih_1 (x2_1 ||| ((1 : Int32) <<< (x3_1 &&& 31))) (x3_1 + (1 : Int32)) _ _ _ (show 0 ≤ ((x3_1 + (1 : Int32))).toInt from by rw [(e_5 ())]; omega) (show ((u.1 0 0)).toInt - ((x3_1 + (1 : Int32))).toInt < (n_1 : Int) ∧ 1 ≤ n_1 from by rw [(e_5 ())]; omega) (lv_sub hl [2, 3, 1, 0] rfl) hw hV
  exact lp_1 9 (0 : Int32) (0 : Int32) _ _ _ (show 0 ≤ 0 from by omega) (show ((u.1 0 0)).toInt - 0 < ((9 : Nat) : Int) ∧ 1 ≤ (9 : Nat) from by omega) (lv_sub hl [2, 3, 1, 0] rfl) hw hV
def m_whoCan_L4 (w : xU) (x1 : Int32) : Nat → Int32 → Int32 → Int32
  | 0, _, _ => 0
  | n + 1, x2, x3 =>
    (if (w.1 0 5) ≤ x3 then
    x2
    else
    (if (b2i (m_can w x3 x1)) = (0 : Int32) then
    m_whoCan_L4 w x1 n (x2 ||| (0 : Int32)) (x3 + (1 : Int32))
    else
    m_whoCan_L4 w x1 n (x2 ||| ((1 : Int32) <<< (x3 &&& 31))) (x3 + (1 : Int32))))
def m_whoCan (u : xU) (p1 : Int32) : Int32 :=
    m_whoCan_L4 u p1 7 (0 : Int32) (0 : Int32)
set_option maxHeartbeats 4000000 in
set_option maxRecDepth 100000 in
theorem c_m_whoCan (l : Launch) (D : va_G) (a : Nat → Nat) (Y : Nat → ClassId) (ts : Nat → Nat) (u : xU) (p1 : Int32) (hT : (0 ≤ ((u.1 0 0)).toInt ∧ ((u.1 0 0)).toInt ≤ 8)) (hC : (0 ≤ ((u.1 0 5)).toInt ∧ ((u.1 0 5)).toInt ≤ 6)) : xMi l yX11_whoCan cX11_whoCan 4 (some .int) (xRm 2 43) D (xty Y) (wM a Y) ts [.ref (a 0), .int p1] u ((m_whoCan u p1), u) := by
  suffices h : ∀ V, V = m_whoCan u p1 → xMi l yX11_whoCan cX11_whoCan 4 (some .int) (xRm 2 43) D (xty Y) (wM a Y) ts [.ref (a 0), .int p1] u (V, u) from h _ rfl
  intro V hV
  refine xofi RX11 rfl (by decide) (Nat.le_of_ble_eq_true rfl) ?_
  intro p e s m args below meth c ls H locs A S hr hlk hl hK hE hA hw
  have hl : lv_has ls 4 [(0, .ref (a 0)), (1, .int p1)] := hl
  refine lv_iconst (v := 0) S.1 S.2.1 dX11_whoCan_0 (by decide) ?_
  refine lv_istore_n (lv' := [(2, .int (0 : Int32)), (0, .ref (a 0)), (1, .int p1)]) S.1 S.2.1 dX11_whoCan_1 rfl hl (by decide) rfl (fun ls hl => ?_)
  refine lv_iconst (v := 0) S.1 S.2.1 dX11_whoCan_2 (by decide) ?_
  refine lv_istore_n (lv' := [(3, .int (0 : Int32)), (2, .int (0 : Int32)), (0, .ref (a 0)), (1, .int p1)]) S.1 S.2.1 dX11_whoCan_3 rfl hl (by decide) rfl (fun ls hl => ?_)
  have lp_1 : ∀ (n_1 : Nat) (x2_1 : Int32) (x3_1 : Int32) (H : Heap) (locs : List Loc) (ls : Array Slot), (0 ≤ (x3_1).toInt) → (((u.1 0 5)).toInt - (x3_1).toInt < (n_1 : Int) ∧ 1 ≤ n_1) → lv_has ls 4 [(0, .ref (a 0)), (1, .int p1), (2, .int x2_1), (3, .int x3_1)] → xw D (wM a Y) A s.heap H locs u → V = m_whoCan_L4 u p1 n_1 x2_1 x3_1 → W p l e (xRm 2 43) s m args below meth c H locs 0 0 (MQ below (va_Qi (fun r v => (r, v) = (V, u)) (xPost D (wM a Y) A) A) args s 0 0 A) (F0 m 4 ls []) := by
    intro n_1
    induction n_1 with
    | zero => intro x2_1 x3_1 H locs ls i0_1 hn; exact absurd hn.2 (by decide)
    | succ n_1 ih_1 =>
      intro x2_1 x3_1 H locs ls i0_1 hn_1 hl hw hV
      refine lv_iload_n S.1 S.2.1 dX11_whoCan_4 rfl (lv_at hl 3 rfl) ?_
      refine lv_aload_n S.1 S.2.1 dX11_whoCan_5 rfl (lv_at hl 0 rfl) ?_
      refine xget (v := .int (u.1 0 5)) S hK hw 0 rfl rfl inX11 5 (by decide) mfX11_76 rfl dX11_whoCan_6 ?_
      refine lv_icmp_ge (tgt := 37) S.1 S.2.1 dX11_whoCan_9 (by decide) (fun c_2 => ?_) (fun c_2 => ?_)
      · replace hV := hV.trans (if_pos c_2)
        have gc_2 : ((u.1 0 5)).toInt ≤ (x3_1).toInt := xq_le c_2 rfl rfl
        refine lv_iload_n S.1 S.2.1 dX11_whoCan_37 rfl (lv_at hl 2 rfl) ?_
        exact xri S hr hlk hw (congrArg (fun b => (b, u)) hV) dX11_whoCan_38
      · replace hV := hV.trans (if_neg c_2)
        have gc_2 : (x3_1).toInt < ((u.1 0 5)).toInt := xq_nle c_2 rfl rfl
        refine lv_iload_n S.1 S.2.1 dX11_whoCan_12 rfl (lv_at hl 2 rfl) ?_
        refine lv_aload_n S.1 S.2.1 dX11_whoCan_13 rfl (lv_at hl 0 rfl) ?_
        refine lv_iload_n S.1 S.2.1 dX11_whoCan_14 rfl (lv_at hl 3 rfl) ?_
        refine lv_iload_n S.1 S.2.1 dX11_whoCan_15 rfl (lv_at hl 1 rfl) ?_
        refine xci (rest := [.int x2_1]) S hK hE hA hw yfX11_can (c_m_can l D a Y ts _ x3_1 p1 (show (0 ≤ ((u.1 0 0)).toInt ∧ ((u.1 0 0)).toInt ≤ 8) from by omega) (show (0 ≤ ((u.1 0 5)).toInt ∧ ((u.1 0 5)).toInt ≤ 6) from by omega) (show 0 ≤ (x3_1).toInt ∧ (x3_1).toInt < 6 from by omega)) 0 rfl rfl mlX11_147 rfl rfl hl.1 ⟨rfl, rfl, Nat.le_of_ble_eq_true rfl, Nat.le_of_ble_eq_true rfl, Nat.le_of_ble_eq_true rfl, Nat.zero_le _, Nat.zero_le _⟩ dX11_whoCan_16 (fun H locs hw => ?_)
        refine lv_if_eq (tgt := 28) S.1 S.2.1 dX11_whoCan_19 (by decide) (fun c_3 => ?_) (fun c_3 => ?_)
        · replace hV := hV.trans (if_pos c_3)
          have gc_3 : ((b2i (m_can u x3_1 p1))).toInt = 0 := xq_eq c_3 rfl rfl
          refine lv_iconst (v := 0) S.1 S.2.1 dX11_whoCan_28 (by decide) ?_
          refine lv_ior S.1 S.2.1 dX11_whoCan_29 ?_
          refine lv_istore_n (lv' := [(2, .int (x2_1 ||| (0 : Int32))), (0, .ref (a 0)), (1, .int p1), (3, .int x3_1)]) S.1 S.2.1 dX11_whoCan_30 rfl hl (by decide) rfl (fun ls hl => ?_)
          refine lv_iinc (v := (x3_1 + (1 : Int32))) (lv' := [(3, .int (x3_1 + (1 : Int32))), (2, .int (x2_1 ||| (0 : Int32))), (0, .ref (a 0)), (1, .int p1)]) S.1 S.2.1 dX11_whoCan_31 hl (k := 3) rfl rfl (by decide) rfl (fun ls hl => ?_)
          refine lv_goto (tgt := 4) S.1 S.2.1 dX11_whoCan_34 (by decide) ?_
          have e_4 : ∀ _ : Unit, ((x3_1 + (1 : Int32))).toInt = (x3_1).toInt + 1 := fun _ => xadd rfl rfl (by omega) (by omega)
          exact ih_1 (x2_1 ||| (0 : Int32)) (x3_1 + (1 : Int32)) _ _ _ (show 0 ≤ ((x3_1 + (1 : Int32))).toInt from by rw [(e_4 ())]; omega) (show ((u.1 0 5)).toInt - ((x3_1 + (1 : Int32))).toInt < (n_1 : Int) ∧ 1 ≤ n_1 from by rw [(e_4 ())]; omega) (lv_sub hl [2, 3, 1, 0] rfl) hw hV
        · replace hV := hV.trans (if_neg c_3)
          have gc_3 : ¬ ((b2i (m_can u x3_1 p1))).toInt = 0 := xq_ne c_3 rfl rfl
          refine lv_iconst (v := 1) S.1 S.2.1 dX11_whoCan_22 (by decide) ?_
          refine lv_iload_n S.1 S.2.1 dX11_whoCan_23 rfl (lv_at hl 3 rfl) ?_
          refine lv_ishl S.1 S.2.1 dX11_whoCan_24 ?_
          refine lv_goto (tgt := 29) S.1 S.2.1 dX11_whoCan_25 (by decide) ?_
          refine lv_ior S.1 S.2.1 dX11_whoCan_29 ?_
          refine lv_istore_n (lv' := [(2, .int (x2_1 ||| ((1 : Int32) <<< (x3_1 &&& 31)))), (0, .ref (a 0)), (1, .int p1), (3, .int x3_1)]) S.1 S.2.1 dX11_whoCan_30 rfl hl (by decide) rfl (fun ls hl => ?_)
          refine lv_iinc (v := (x3_1 + (1 : Int32))) (lv' := [(3, .int (x3_1 + (1 : Int32))), (2, .int (x2_1 ||| ((1 : Int32) <<< (x3_1 &&& 31)))), (0, .ref (a 0)), (1, .int p1)]) S.1 S.2.1 dX11_whoCan_31 hl (k := 3) rfl rfl (by decide) rfl (fun ls hl => ?_)
          refine lv_goto (tgt := 4) S.1 S.2.1 dX11_whoCan_34 (by decide) ?_
          have e_5 : ∀ _ : Unit, ((x3_1 + (1 : Int32))).toInt = (x3_1).toInt + 1 := fun _ => xadd rfl rfl (by omega) (by omega)
          exact ih_1 (x2_1 ||| ((1 : Int32) <<< (x3_1 &&& 31))) (x3_1 + (1 : Int32)) _ _ _ (show 0 ≤ ((x3_1 + (1 : Int32))).toInt from by rw [(e_5 ())]; omega) (show ((u.1 0 5)).toInt - ((x3_1 + (1 : Int32))).toInt < (n_1 : Int) ∧ 1 ≤ n_1 from by rw [(e_5 ())]; omega) (lv_sub hl [2, 3, 1, 0] rfl) hw hV
  exact lp_1 7 (0 : Int32) (0 : Int32) _ _ _ (show 0 ≤ 0 from by omega) (show ((u.1 0 5)).toInt - 0 < ((7 : Nat) : Int) ∧ 1 ≤ (7 : Nat) from by omega) (lv_sub hl [2, 3, 1, 0] rfl) hw hV
def m_inClass_L4 (w : xU) : Nat → Int32 → Int32 → Int32
  | 0, _, _ => 0
  | n + 1, x1, x2 =>
    (if (w.1 0 5) ≤ x2 then
    x1
    else
    (if (w.1 7 (((68 : Int32) + x2)).toNatClampNeg) = (-9 : Int32) then
    m_inClass_L4 w n (x1 ||| (0 : Int32)) (x2 + (1 : Int32))
    else
    m_inClass_L4 w n (x1 ||| ((1 : Int32) <<< (x2 &&& 31))) (x2 + (1 : Int32))))
def m_inClass (u : xU) : Int32 :=
    m_inClass_L4 u 7 (0 : Int32) (0 : Int32)
set_option maxHeartbeats 4000000 in
set_option maxRecDepth 100000 in
theorem c_m_inClass (l : Launch) (D : va_G) (a : Nat → Nat) (Y : Nat → ClassId) (ts : Nat → Nat) (u : xU) (hT : (0 ≤ ((u.1 0 0)).toInt ∧ ((u.1 0 0)).toInt ≤ 8)) (hC : (0 ≤ ((u.1 0 5)).toInt ∧ ((u.1 0 5)).toInt ≤ 6)) : xMi l yX11_inClass cX11_inClass 3 (some .int) (xRm 0 0) D (xty Y) (wM a Y) ts [.ref (a 0)] u ((m_inClass u), u) := by
  suffices h : ∀ V, V = m_inClass u → xMi l yX11_inClass cX11_inClass 3 (some .int) (xRm 0 0) D (xty Y) (wM a Y) ts [.ref (a 0)] u (V, u) from h _ rfl
  intro V hV
  refine xofi RX11 rfl (by decide) (Nat.le_of_ble_eq_true rfl) ?_
  intro p e s m args below meth c ls H locs A S hr hlk hl hK hE hA hw
  have hl : lv_has ls 3 [(0, .ref (a 0))] := hl
  refine lv_iconst (v := 0) S.1 S.2.1 dX11_inClass_0 (by decide) ?_
  refine lv_istore_n (lv' := [(1, .int (0 : Int32)), (0, .ref (a 0))]) S.1 S.2.1 dX11_inClass_1 rfl hl (by decide) rfl (fun ls hl => ?_)
  refine lv_iconst (v := 0) S.1 S.2.1 dX11_inClass_2 (by decide) ?_
  refine lv_istore_n (lv' := [(2, .int (0 : Int32)), (1, .int (0 : Int32)), (0, .ref (a 0))]) S.1 S.2.1 dX11_inClass_3 rfl hl (by decide) rfl (fun ls hl => ?_)
  have lp_1 : ∀ (n_1 : Nat) (x1_1 : Int32) (x2_1 : Int32) (H : Heap) (locs : List Loc) (ls : Array Slot), (0 ≤ (x2_1).toInt) → (((u.1 0 5)).toInt - (x2_1).toInt < (n_1 : Int) ∧ 1 ≤ n_1) → lv_has ls 3 [(0, .ref (a 0)), (1, .int x1_1), (2, .int x2_1)] → xw D (wM a Y) A s.heap H locs u → V = m_inClass_L4 u n_1 x1_1 x2_1 → W p l e (xRm 0 0) s m args below meth c H locs 0 0 (MQ below (va_Qi (fun r v => (r, v) = (V, u)) (xPost D (wM a Y) A) A) args s 0 0 A) (F0 m 4 ls []) := by
    intro n_1
    induction n_1 with
    | zero => intro x1_1 x2_1 H locs ls i0_1 hn; exact absurd hn.2 (by decide)
    | succ n_1 ih_1 =>
      intro x1_1 x2_1 H locs ls i0_1 hn_1 hl hw hV
      refine lv_iload_n S.1 S.2.1 dX11_inClass_4 rfl (lv_at hl 2 rfl) ?_
      refine lv_aload_n S.1 S.2.1 dX11_inClass_5 rfl (lv_at hl 0 rfl) ?_
      refine xget (v := .int (u.1 0 5)) S hK hw 0 rfl rfl inX11 5 (by decide) mfX11_76 rfl dX11_inClass_6 ?_
      refine lv_icmp_ge (tgt := 42) S.1 S.2.1 dX11_inClass_9 (by decide) (fun c_2 => ?_) (fun c_2 => ?_)
      · replace hV := hV.trans (if_pos c_2)
        have gc_2 : ((u.1 0 5)).toInt ≤ (x2_1).toInt := xq_le c_2 rfl rfl
        refine lv_iload_n S.1 S.2.1 dX11_inClass_42 rfl (lv_at hl 1 rfl) ?_
        exact xri S hr hlk hw (congrArg (fun b => (b, u)) hV) dX11_inClass_43
      · replace hV := hV.trans (if_neg c_2)
        have gc_2 : (x2_1).toInt < ((u.1 0 5)).toInt := xq_nle c_2 rfl rfl
        refine lv_iload_n S.1 S.2.1 dX11_inClass_12 rfl (lv_at hl 1 rfl) ?_
        refine lv_aload_n S.1 S.2.1 dX11_inClass_13 rfl (lv_at hl 0 rfl) ?_
        refine xget (v := .ref (a 7)) S hK hw 0 rfl rfl inX11 8 (by decide) mfX11_28 rfl dX11_inClass_14 ?_
        refine lv_bipush (v := 68) S.1 S.2.1 dX11_inClass_17 (by decide) ?_
        refine lv_iload_n S.1 S.2.1 dX11_inClass_19 rfl (lv_at hl 2 rfl) ?_
        refine lv_iadd S.1 S.2.1 dX11_inClass_20 ?_
        have e_3 : ∀ _ : Unit, (((68 : Int32) + x2_1)).toInt = 68 + (x2_1).toInt := fun _ => xadd rfl rfl (by omega) (by omega)
        refine xald (f := u.1 7) S hK hw 7 0 rfl rfl (xvi (e_3 ()) (by omega) (by omega)) dX11_inClass_21 ?_
        refine lv_bipush (v := -9) S.1 S.2.1 dX11_inClass_22 (by decide) ?_
        refine lv_icmp_eq (tgt := 33) S.1 S.2.1 dX11_inClass_24 (by decide) (fun c_4 => ?_) (fun c_4 => ?_)
        · replace hV := hV.trans (if_pos c_4)
          have gc_4 : ((u.1 7 (((68 : Int32) + x2_1)).toNatClampNeg)).toInt = (-9) := xq_eq c_4 rfl rfl
          refine lv_iconst (v := 0) S.1 S.2.1 dX11_inClass_33 (by decide) ?_
          refine lv_ior S.1 S.2.1 dX11_inClass_34 ?_
          refine lv_istore_n (lv' := [(1, .int (x1_1 ||| (0 : Int32))), (0, .ref (a 0)), (2, .int x2_1)]) S.1 S.2.1 dX11_inClass_35 rfl hl (by decide) rfl (fun ls hl => ?_)
          refine lv_iinc (v := (x2_1 + (1 : Int32))) (lv' := [(2, .int (x2_1 + (1 : Int32))), (1, .int (x1_1 ||| (0 : Int32))), (0, .ref (a 0))]) S.1 S.2.1 dX11_inClass_36 hl (k := 2) rfl rfl (by decide) rfl (fun ls hl => ?_)
          refine lv_goto (tgt := 4) S.1 S.2.1 dX11_inClass_39 (by decide) ?_
          have e_5 : ∀ _ : Unit, ((x2_1 + (1 : Int32))).toInt = (x2_1).toInt + 1 := fun _ => xadd rfl rfl (by omega) (by omega)
          exact ih_1 (x1_1 ||| (0 : Int32)) (x2_1 + (1 : Int32)) _ _ _ (show 0 ≤ ((x2_1 + (1 : Int32))).toInt from by rw [(e_5 ())]; omega) (show ((u.1 0 5)).toInt - ((x2_1 + (1 : Int32))).toInt < (n_1 : Int) ∧ 1 ≤ n_1 from by rw [(e_5 ())]; omega) (lv_sub hl [2, 1, 0] rfl) hw hV
        · replace hV := hV.trans (if_neg c_4)
          have gc_4 : ¬ ((u.1 7 (((68 : Int32) + x2_1)).toNatClampNeg)).toInt = (-9) := xq_ne c_4 rfl rfl
          refine lv_iconst (v := 1) S.1 S.2.1 dX11_inClass_27 (by decide) ?_
          refine lv_iload_n S.1 S.2.1 dX11_inClass_28 rfl (lv_at hl 2 rfl) ?_
          refine lv_ishl S.1 S.2.1 dX11_inClass_29 ?_
          refine lv_goto (tgt := 34) S.1 S.2.1 dX11_inClass_30 (by decide) ?_
          refine lv_ior S.1 S.2.1 dX11_inClass_34 ?_
          refine lv_istore_n (lv' := [(1, .int (x1_1 ||| ((1 : Int32) <<< (x2_1 &&& 31)))), (0, .ref (a 0)), (2, .int x2_1)]) S.1 S.2.1 dX11_inClass_35 rfl hl (by decide) rfl (fun ls hl => ?_)
          refine lv_iinc (v := (x2_1 + (1 : Int32))) (lv' := [(2, .int (x2_1 + (1 : Int32))), (1, .int (x1_1 ||| ((1 : Int32) <<< (x2_1 &&& 31)))), (0, .ref (a 0))]) S.1 S.2.1 dX11_inClass_36 hl (k := 2) rfl rfl (by decide) rfl (fun ls hl => ?_)
          refine lv_goto (tgt := 4) S.1 S.2.1 dX11_inClass_39 (by decide) ?_
          have e_6 : ∀ _ : Unit, ((x2_1 + (1 : Int32))).toInt = (x2_1).toInt + 1 := fun _ => xadd rfl rfl (by omega) (by omega)
          exact ih_1 (x1_1 ||| ((1 : Int32) <<< (x2_1 &&& 31))) (x2_1 + (1 : Int32)) _ _ _ (show 0 ≤ ((x2_1 + (1 : Int32))).toInt from by rw [(e_6 ())]; omega) (show ((u.1 0 5)).toInt - ((x2_1 + (1 : Int32))).toInt < (n_1 : Int) ∧ 1 ≤ n_1 from by rw [(e_6 ())]; omega) (lv_sub hl [2, 1, 0] rfl) hw hV
  exact lp_1 7 (0 : Int32) (0 : Int32) _ _ _ (show 0 ≤ 0 from by omega) (show ((u.1 0 5)).toInt - 0 < ((7 : Nat) : Int) ∧ 1 ≤ (7 : Nat) from by omega) (lv_sub hl [2, 1, 0] rfl) hw hV
def m_learntAll_L4 (w : xU) : Nat → Int32 → Int32 → Int32
  | 0, _, _ => 0
  | n + 1, x1, x2 =>
    (if (w.1 0 5) ≤ x2 then
    x1
    else
    let t_4 := (x1 + (m_bits (w.1 7 (((49 : Int32) + x2)).toNatClampNeg)))
    m_learntAll_L4 w n t_4 (x2 + (1 : Int32)))
def m_learntAll (u : xU) : Int32 :=
    m_learntAll_L4 u 7 (0 : Int32) (0 : Int32)
set_option maxHeartbeats 4000000 in
set_option maxRecDepth 100000 in
theorem c_m_learntAll (l : Launch) (D : va_G) (a : Nat → Nat) (Y : Nat → ClassId) (ts : Nat → Nat) (u : xU) (hT : (0 ≤ ((u.1 0 0)).toInt ∧ ((u.1 0 0)).toInt ≤ 8)) (hC : (0 ≤ ((u.1 0 5)).toInt ∧ ((u.1 0 5)).toInt ≤ 6)) : xMi l yX11_learntAll cX11_learntAll 3 (some .int) (xRm 1 22) D (xty Y) (wM a Y) ts [.ref (a 0)] u ((m_learntAll u), u) := by
  suffices h : ∀ V, V = m_learntAll u → xMi l yX11_learntAll cX11_learntAll 3 (some .int) (xRm 1 22) D (xty Y) (wM a Y) ts [.ref (a 0)] u (V, u) from h _ rfl
  intro V hV
  refine xofi RX11 rfl (by decide) (Nat.le_of_ble_eq_true rfl) ?_
  intro p e s m args below meth c ls H locs A S hr hlk hl hK hE hA hw
  have hl : lv_has ls 3 [(0, .ref (a 0))] := hl
  refine lv_iconst (v := 0) S.1 S.2.1 dX11_learntAll_0 (by decide) ?_
  refine lv_istore_n (lv' := [(1, .int (0 : Int32)), (0, .ref (a 0))]) S.1 S.2.1 dX11_learntAll_1 rfl hl (by decide) rfl (fun ls hl => ?_)
  refine lv_iconst (v := 0) S.1 S.2.1 dX11_learntAll_2 (by decide) ?_
  refine lv_istore_n (lv' := [(2, .int (0 : Int32)), (1, .int (0 : Int32)), (0, .ref (a 0))]) S.1 S.2.1 dX11_learntAll_3 rfl hl (by decide) rfl (fun ls hl => ?_)
  have lp_1 : ∀ (n_1 : Nat) (x1_1 : Int32) (x2_1 : Int32) (H : Heap) (locs : List Loc) (ls : Array Slot), (0 ≤ (x2_1).toInt) → (((u.1 0 5)).toInt - (x2_1).toInt < (n_1 : Int) ∧ 1 ≤ n_1) → lv_has ls 3 [(0, .ref (a 0)), (1, .int x1_1), (2, .int x2_1)] → xw D (wM a Y) A s.heap H locs u → V = m_learntAll_L4 u n_1 x1_1 x2_1 → W p l e (xRm 1 22) s m args below meth c H locs 0 0 (MQ below (va_Qi (fun r v => (r, v) = (V, u)) (xPost D (wM a Y) A) A) args s 0 0 A) (F0 m 4 ls []) := by
    intro n_1
    induction n_1 with
    | zero => intro x1_1 x2_1 H locs ls i0_1 hn; exact absurd hn.2 (by decide)
    | succ n_1 ih_1 =>
      intro x1_1 x2_1 H locs ls i0_1 hn_1 hl hw hV
      refine lv_iload_n S.1 S.2.1 dX11_learntAll_4 rfl (lv_at hl 2 rfl) ?_
      refine lv_aload_n S.1 S.2.1 dX11_learntAll_5 rfl (lv_at hl 0 rfl) ?_
      refine xget (v := .int (u.1 0 5)) S hK hw 0 rfl rfl inX11 5 (by decide) mfX11_76 rfl dX11_learntAll_6 ?_
      refine lv_icmp_ge (tgt := 33) S.1 S.2.1 dX11_learntAll_9 (by decide) (fun c_2 => ?_) (fun c_2 => ?_)
      · replace hV := hV.trans (if_pos c_2)
        have gc_2 : ((u.1 0 5)).toInt ≤ (x2_1).toInt := xq_le c_2 rfl rfl
        refine lv_iload_n S.1 S.2.1 dX11_learntAll_33 rfl (lv_at hl 1 rfl) ?_
        exact xri S hr hlk hw (congrArg (fun b => (b, u)) hV) dX11_learntAll_34
      · replace hV := hV.trans (if_neg c_2)
        have gc_2 : (x2_1).toInt < ((u.1 0 5)).toInt := xq_nle c_2 rfl rfl
        refine lv_iload_n S.1 S.2.1 dX11_learntAll_12 rfl (lv_at hl 1 rfl) ?_
        refine lv_aload_n S.1 S.2.1 dX11_learntAll_13 rfl (lv_at hl 0 rfl) ?_
        refine xget (v := .ref (a 7)) S hK hw 0 rfl rfl inX11 8 (by decide) mfX11_28 rfl dX11_learntAll_14 ?_
        refine lv_bipush (v := 49) S.1 S.2.1 dX11_learntAll_17 (by decide) ?_
        refine lv_iload_n S.1 S.2.1 dX11_learntAll_19 rfl (lv_at hl 2 rfl) ?_
        refine lv_iadd S.1 S.2.1 dX11_learntAll_20 ?_
        have e_3 : ∀ _ : Unit, (((49 : Int32) + x2_1)).toInt = 49 + (x2_1).toInt := fun _ => xadd rfl rfl (by omega) (by omega)
        refine xald (f := u.1 7) S hK hw 7 0 rfl rfl (xvi (e_3 ()) (by omega) (by omega)) dX11_learntAll_21 ?_
        refine xcP (rest := [.int x1_1]) S hw yfX11_bits (c_m_bits l (u.1 7 (((49 : Int32) + x2_1)).toNatClampNeg)) mlX11_175 rfl rfl hl.1 ⟨rfl, rfl, Nat.le_of_ble_eq_true rfl, Nat.le_of_ble_eq_true rfl, Nat.le_of_ble_eq_true rfl, Nat.zero_le _, Nat.zero_le _⟩ dX11_learntAll_22 (fun H locs hw => ?_)
        refine lv_iadd S.1 S.2.1 dX11_learntAll_25 ?_
        refine lv_istore_n (lv' := [(1, .int (x1_1 + (m_bits (u.1 7 (((49 : Int32) + x2_1)).toNatClampNeg)))), (0, .ref (a 0)), (2, .int x2_1)]) S.1 S.2.1 dX11_learntAll_26 rfl hl (by decide) rfl (fun ls hl => ?_)
        refine lv_iinc (v := (x2_1 + (1 : Int32))) (lv' := [(2, .int (x2_1 + (1 : Int32))), (1, .int (x1_1 + (m_bits (u.1 7 (((49 : Int32) + x2_1)).toNatClampNeg)))), (0, .ref (a 0))]) S.1 S.2.1 dX11_learntAll_27 hl (k := 2) rfl rfl (by decide) rfl (fun ls hl => ?_)
        refine lv_goto (tgt := 4) S.1 S.2.1 dX11_learntAll_30 (by decide) ?_
        have e_5 : ∀ _ : Unit, ((x2_1 + (1 : Int32))).toInt = (x2_1).toInt + 1 := fun _ => xadd rfl rfl (by omega) (by omega)
        exact ih_1 (x1_1 + (m_bits (u.1 7 (((49 : Int32) + x2_1)).toNatClampNeg))) (x2_1 + (1 : Int32)) _ _ _ (show 0 ≤ ((x2_1 + (1 : Int32))).toInt from by rw [(e_5 ())]; omega) (show ((u.1 0 5)).toInt - ((x2_1 + (1 : Int32))).toInt < (n_1 : Int) ∧ 1 ≤ n_1 from by rw [(e_5 ())]; omega) (lv_sub hl [2, 1, 0] rfl) hw hV
  exact lp_1 7 (0 : Int32) (0 : Int32) _ _ _ (show 0 ≤ 0 from by omega) (show ((u.1 0 5)).toInt - 0 < ((7 : Nat) : Int) ∧ 1 ≤ (7 : Nat) from by omega) (lv_sub hl [2, 1, 0] rfl) hw hV
def m_nightsFor (u : xU) (p1 : Int32) (p2 : Int32) : Int32 :=
    let t_4 := ((u.1 2 (p2).toNatClampNeg) - (u.1 7 ((((1 : Int32) + ((8 : Int32) * p1)) + p2)).toNatClampNeg))
    let t_5 := (((t_4 + (u.1 6 (p1).toNatClampNeg)) - (1 : Int32)) / (u.1 6 (p1).toNatClampNeg))
    (if t_4 < (1 : Int32) then
    (1 : Int32)
    else
    (if (1 : Int32) ≤ t_5 then
    t_5
    else
    (1 : Int32)))
set_option maxHeartbeats 4000000 in
set_option maxRecDepth 100000 in
theorem c_m_nightsFor (l : Launch) (D : va_G) (a : Nat → Nat) (Y : Nat → ClassId) (ts : Nat → Nat) (u : xU) (p1 : Int32) (p2 : Int32) (hT : (0 ≤ ((u.1 0 0)).toInt ∧ ((u.1 0 0)).toInt ≤ 8)) (hC : (0 ≤ ((u.1 0 5)).toInt ∧ ((u.1 0 5)).toInt ≤ 6)) (hp0 : 0 ≤ (p1).toInt ∧ (p1).toInt < 6) (hp1 : 0 ≤ (p2).toInt ∧ (p2).toInt < 8) (hr0 : ¬ (u.1 6 (p1).toNatClampNeg) = 0) : xMi l yX11_nightsFor cX11_nightsFor 5 (some .int) (xRm 0 0) D (xty Y) (wM a Y) ts [.ref (a 0), .int p1, .int p2] u ((m_nightsFor u p1 p2), u) := by
  suffices h : ∀ V, V = m_nightsFor u p1 p2 → xMi l yX11_nightsFor cX11_nightsFor 5 (some .int) (xRm 0 0) D (xty Y) (wM a Y) ts [.ref (a 0), .int p1, .int p2] u (V, u) from h _ rfl
  intro V hV
  refine xofi RX11 rfl (by decide) (Nat.le_of_ble_eq_true rfl) ?_
  intro p e s m args below meth c ls H locs A S hr hlk hl hK hE hA hw
  have hl : lv_has ls 5 [(0, .ref (a 0)), (1, .int p1), (2, .int p2)] := hl
  refine lv_aload_n S.1 S.2.1 dX11_nightsFor_0 rfl (lv_at hl 0 rfl) ?_
  refine xget (v := .ref (a 2)) S hK hw 0 rfl rfl inX11 2 (by decide) mfX11_13 rfl dX11_nightsFor_1 ?_
  refine lv_iload_n S.1 S.2.1 dX11_nightsFor_4 rfl (lv_at hl 2 rfl) ?_
  refine xald (f := u.1 2) S hK hw 2 0 rfl rfl (xvi rfl (by omega) (by omega)) dX11_nightsFor_5 ?_
  refine lv_aload_n S.1 S.2.1 dX11_nightsFor_6 rfl (lv_at hl 0 rfl) ?_
  refine xget (v := .ref (a 7)) S hK hw 0 rfl rfl inX11 8 (by decide) mfX11_28 rfl dX11_nightsFor_7 ?_
  refine lv_iconst (v := 1) S.1 S.2.1 dX11_nightsFor_10 (by decide) ?_
  refine lv_bipush (v := 8) S.1 S.2.1 dX11_nightsFor_11 (by decide) ?_
  refine lv_iload_n S.1 S.2.1 dX11_nightsFor_13 rfl (lv_at hl 1 rfl) ?_
  refine lv_imul S.1 S.2.1 dX11_nightsFor_14 ?_
  refine lv_iadd S.1 S.2.1 dX11_nightsFor_15 ?_
  refine lv_iload_n S.1 S.2.1 dX11_nightsFor_16 rfl (lv_at hl 2 rfl) ?_
  refine lv_iadd S.1 S.2.1 dX11_nightsFor_17 ?_
  have e_1 : ∀ _ : Unit, (((8 : Int32) * p1)).toInt = 8 * (p1).toInt := fun _ => xmul rfl rfl (by omega) (by omega)
  have e_2 : ∀ _ : Unit, (((1 : Int32) + ((8 : Int32) * p1))).toInt = 1 + (8 * (p1).toInt) := fun _ => xadd rfl (e_1 ()) (by omega) (by omega)
  have e_3 : ∀ _ : Unit, ((((1 : Int32) + ((8 : Int32) * p1)) + p2)).toInt = (1 + (8 * (p1).toInt)) + (p2).toInt := fun _ => xadd (e_2 ()) rfl (by omega) (by omega)
  refine xald (f := u.1 7) S hK hw 7 0 rfl rfl (xvi (e_3 ()) (by omega) (by omega)) dX11_nightsFor_18 ?_
  refine lv_isub S.1 S.2.1 dX11_nightsFor_19 ?_
  refine lv_istore_n (lv' := [(3, .int ((u.1 2 (p2).toNatClampNeg) - (u.1 7 ((((1 : Int32) + ((8 : Int32) * p1)) + p2)).toNatClampNeg))), (0, .ref (a 0)), (1, .int p1), (2, .int p2)]) S.1 S.2.1 dX11_nightsFor_20 rfl hl (by decide) rfl (fun ls hl => ?_)
  refine lv_iload_n S.1 S.2.1 dX11_nightsFor_21 rfl (lv_at hl 0 rfl) ?_
  refine lv_aload_n S.1 S.2.1 dX11_nightsFor_22 rfl (lv_at hl 1 rfl) ?_
  refine xget (v := .ref (a 6)) S hK hw 0 rfl rfl inX11 7 (by decide) mfX11_25 rfl dX11_nightsFor_23 ?_
  refine lv_iload_n S.1 S.2.1 dX11_nightsFor_26 rfl (lv_at hl 2 rfl) ?_
  refine xald (f := u.1 6) S hK hw 6 0 rfl rfl (xvi rfl (by omega) (by omega)) dX11_nightsFor_27 ?_
  refine lv_iadd S.1 S.2.1 dX11_nightsFor_28 ?_
  refine lv_iconst (v := 1) S.1 S.2.1 dX11_nightsFor_29 (by decide) ?_
  refine lv_isub S.1 S.2.1 dX11_nightsFor_30 ?_
  refine lv_aload_n S.1 S.2.1 dX11_nightsFor_31 rfl (lv_at hl 1 rfl) ?_
  refine xget (v := .ref (a 6)) S hK hw 0 rfl rfl inX11 7 (by decide) mfX11_25 rfl dX11_nightsFor_32 ?_
  refine lv_iload_n S.1 S.2.1 dX11_nightsFor_35 rfl (lv_at hl 2 rfl) ?_
  refine xald (f := u.1 6) S hK hw 6 0 rfl rfl (xvi rfl (by omega) (by omega)) dX11_nightsFor_36 ?_
  refine lv_idiv S.1 S.2.1 dX11_nightsFor_37 hr0 ?_
  refine lv_istore (lv' := [(4, .int (((((u.1 2 (p2).toNatClampNeg) - (u.1 7 ((((1 : Int32) + ((8 : Int32) * p1)) + p2)).toNatClampNeg)) + (u.1 6 (p1).toNatClampNeg)) - (1 : Int32)) / (u.1 6 (p1).toNatClampNeg))), (3, .int ((u.1 2 (p2).toNatClampNeg) - (u.1 7 ((((1 : Int32) + ((8 : Int32) * p1)) + p2)).toNatClampNeg))), (0, .ref (a 0)), (1, .int p1), (2, .int p2)]) S.1 S.2.1 dX11_nightsFor_38 hl (by decide) rfl (fun ls hl => ?_)
  refine lv_iload_n S.1 S.2.1 dX11_nightsFor_40 rfl (lv_at hl 1 rfl) ?_
  refine lv_iconst (v := 1) S.1 S.2.1 dX11_nightsFor_41 (by decide) ?_
  refine lv_icmp_lt (tgt := 51) S.1 S.2.1 dX11_nightsFor_42 (by decide) (fun c_6 => ?_) (fun c_6 => ?_)
  · replace hV := hV.trans (if_pos c_6)
    refine lv_iconst (v := 1) S.1 S.2.1 dX11_nightsFor_51 (by decide) ?_
    refine lv_goto (tgt := 57) S.1 S.2.1 dX11_nightsFor_52 (by decide) ?_
    exact xri S hr hlk hw (congrArg (fun b => (b, u)) hV) dX11_nightsFor_57
  · replace hV := hV.trans (if_neg c_6)
    refine lv_iload S.1 S.2.1 dX11_nightsFor_45 (lv_at hl 0 rfl) ?_
    refine lv_iconst (v := 1) S.1 S.2.1 dX11_nightsFor_47 (by decide) ?_
    refine lv_icmp_ge (tgt := 55) S.1 S.2.1 dX11_nightsFor_48 (by decide) (fun c_7 => ?_) (fun c_7 => ?_)
    · replace hV := hV.trans (if_pos c_7)
      refine lv_iload S.1 S.2.1 dX11_nightsFor_55 (lv_at hl 0 rfl) ?_
      exact xri S hr hlk hw (congrArg (fun b => (b, u)) hV) dX11_nightsFor_57
    · replace hV := hV.trans (if_neg c_7)
      refine lv_iconst (v := 1) S.1 S.2.1 dX11_nightsFor_51 (by decide) ?_
      refine lv_goto (tgt := 57) S.1 S.2.1 dX11_nightsFor_52 (by decide) ?_
      exact xri S hr hlk hw (congrArg (fun b => (b, u)) hV) dX11_nightsFor_57
def m_nightsOf_L5 (w : xU) (x1 : Int32) (x2 : Int32) : Nat → Int32 → Int32 → Int32
  | 0, _, _ => 0
  | n + 1, x3, x4 =>
    (if (w.1 0 0) ≤ x4 then
    x3
    else
    (if (b2i (m_has x2 x4)) = (0 : Int32) then
    m_nightsOf_L5 w x1 x2 n (x3 + (0 : Int32)) (x4 + (1 : Int32))
    else
    m_nightsOf_L5 w x1 x2 n (x3 + (m_nightsFor w x1 x4)) (x4 + (1 : Int32))))
def m_nightsOf (u : xU) (p1 : Int32) (p2 : Int32) : Int32 :=
    m_nightsOf_L5 u p1 p2 9 (0 : Int32) (0 : Int32)
set_option maxHeartbeats 4000000 in
set_option maxRecDepth 100000 in
theorem c_m_nightsOf (l : Launch) (D : va_G) (a : Nat → Nat) (Y : Nat → ClassId) (ts : Nat → Nat) (u : xU) (p1 : Int32) (p2 : Int32) (hT : (0 ≤ ((u.1 0 0)).toInt ∧ ((u.1 0 0)).toInt ≤ 8)) (hC : (0 ≤ ((u.1 0 5)).toInt ∧ ((u.1 0 5)).toInt ≤ 6)) (hp0 : 0 ≤ (p1).toInt ∧ (p1).toInt < 6) (hr0 : ¬ (u.1 6 (p1).toNatClampNeg) = 0) : xMi l yX11_nightsOf cX11_nightsOf 5 (some .int) (xRm 1 24) D (xty Y) (wM a Y) ts [.ref (a 0), .int p1, .int p2] u ((m_nightsOf u p1 p2), u) := by
  suffices h : ∀ V, V = m_nightsOf u p1 p2 → xMi l yX11_nightsOf cX11_nightsOf 5 (some .int) (xRm 1 24) D (xty Y) (wM a Y) ts [.ref (a 0), .int p1, .int p2] u (V, u) from h _ rfl
  intro V hV
  refine xofi RX11 rfl (by decide) (Nat.le_of_ble_eq_true rfl) ?_
  intro p e s m args below meth c ls H locs A S hr hlk hl hK hE hA hw
  have hl : lv_has ls 5 [(0, .ref (a 0)), (1, .int p1), (2, .int p2)] := hl
  refine lv_iconst (v := 0) S.1 S.2.1 dX11_nightsOf_0 (by decide) ?_
  refine lv_istore_n (lv' := [(3, .int (0 : Int32)), (0, .ref (a 0)), (1, .int p1), (2, .int p2)]) S.1 S.2.1 dX11_nightsOf_1 rfl hl (by decide) rfl (fun ls hl => ?_)
  refine lv_iconst (v := 0) S.1 S.2.1 dX11_nightsOf_2 (by decide) ?_
  refine lv_istore (lv' := [(4, .int (0 : Int32)), (3, .int (0 : Int32)), (0, .ref (a 0)), (1, .int p1), (2, .int p2)]) S.1 S.2.1 dX11_nightsOf_3 hl (by decide) rfl (fun ls hl => ?_)
  have lp_1 : ∀ (n_1 : Nat) (x3_1 : Int32) (x4_1 : Int32) (H : Heap) (locs : List Loc) (ls : Array Slot), (0 ≤ (x4_1).toInt) → (((u.1 0 0)).toInt - (x4_1).toInt < (n_1 : Int) ∧ 1 ≤ n_1) → lv_has ls 5 [(0, .ref (a 0)), (1, .int p1), (2, .int p2), (3, .int x3_1), (4, .int x4_1)] → xw D (wM a Y) A s.heap H locs u → V = m_nightsOf_L5 u p1 p2 n_1 x3_1 x4_1 → W p l e (xRm 1 24) s m args below meth c H locs 0 0 (MQ below (va_Qi (fun r v => (r, v) = (V, u)) (xPost D (wM a Y) A) A) args s 0 0 A) (F0 m 5 ls []) := by
    intro n_1
    induction n_1 with
    | zero => intro x3_1 x4_1 H locs ls i0_1 hn; exact absurd hn.2 (by decide)
    | succ n_1 ih_1 =>
      intro x3_1 x4_1 H locs ls i0_1 hn_1 hl hw hV
      refine lv_iload S.1 S.2.1 dX11_nightsOf_5 (lv_at hl 4 rfl) ?_
      refine lv_aload_n S.1 S.2.1 dX11_nightsOf_7 rfl (lv_at hl 0 rfl) ?_
      refine xget (v := .int (u.1 0 0)) S hK hw 0 rfl rfl inX11 0 (by decide) mfX11_68 rfl dX11_nightsOf_8 ?_
      refine lv_icmp_ge (tgt := 43) S.1 S.2.1 dX11_nightsOf_11 (by decide) (fun c_2 => ?_) (fun c_2 => ?_)
      · replace hV := hV.trans (if_pos c_2)
        have gc_2 : ((u.1 0 0)).toInt ≤ (x4_1).toInt := xq_le c_2 rfl rfl
        refine lv_iload_n S.1 S.2.1 dX11_nightsOf_43 rfl (lv_at hl 3 rfl) ?_
        exact xri S hr hlk hw (congrArg (fun b => (b, u)) hV) dX11_nightsOf_44
      · replace hV := hV.trans (if_neg c_2)
        have gc_2 : (x4_1).toInt < ((u.1 0 0)).toInt := xq_nle c_2 rfl rfl
        refine lv_iload_n S.1 S.2.1 dX11_nightsOf_14 rfl (lv_at hl 3 rfl) ?_
        refine lv_iload_n S.1 S.2.1 dX11_nightsOf_15 rfl (lv_at hl 2 rfl) ?_
        refine lv_iload S.1 S.2.1 dX11_nightsOf_16 (lv_at hl 4 rfl) ?_
        refine xcP (rest := [.int x3_1]) S hw yfX11_has (c_m_has l p2 x4_1) mlX11_140 rfl rfl hl.1 ⟨rfl, rfl, Nat.le_of_ble_eq_true rfl, Nat.le_of_ble_eq_true rfl, Nat.le_of_ble_eq_true rfl, Nat.zero_le _, Nat.zero_le _⟩ dX11_nightsOf_18 (fun H locs hw => ?_)
        refine lv_if_eq (tgt := 34) S.1 S.2.1 dX11_nightsOf_21 (by decide) (fun c_3 => ?_) (fun c_3 => ?_)
        · replace hV := hV.trans (if_pos c_3)
          have gc_3 : ((b2i (m_has p2 x4_1))).toInt = 0 := xq_eq c_3 rfl rfl
          refine lv_iconst (v := 0) S.1 S.2.1 dX11_nightsOf_34 (by decide) ?_
          refine lv_iadd S.1 S.2.1 dX11_nightsOf_35 ?_
          refine lv_istore_n (lv' := [(3, .int (x3_1 + (0 : Int32))), (0, .ref (a 0)), (1, .int p1), (2, .int p2), (4, .int x4_1)]) S.1 S.2.1 dX11_nightsOf_36 rfl hl (by decide) rfl (fun ls hl => ?_)
          refine lv_iinc (v := (x4_1 + (1 : Int32))) (lv' := [(4, .int (x4_1 + (1 : Int32))), (3, .int (x3_1 + (0 : Int32))), (0, .ref (a 0)), (1, .int p1), (2, .int p2)]) S.1 S.2.1 dX11_nightsOf_37 hl (k := 4) rfl rfl (by decide) rfl (fun ls hl => ?_)
          refine lv_goto (tgt := 5) S.1 S.2.1 dX11_nightsOf_40 (by decide) ?_
          have e_4 : ∀ _ : Unit, ((x4_1 + (1 : Int32))).toInt = (x4_1).toInt + 1 := fun _ => xadd rfl rfl (by omega) (by omega)
          exact ih_1 (x3_1 + (0 : Int32)) (x4_1 + (1 : Int32)) _ _ _ (show 0 ≤ ((x4_1 + (1 : Int32))).toInt from by rw [(e_4 ())]; omega) (show ((u.1 0 0)).toInt - ((x4_1 + (1 : Int32))).toInt < (n_1 : Int) ∧ 1 ≤ n_1 from by rw [(e_4 ())]; omega) (lv_sub hl [2, 3, 4, 1, 0] rfl) hw hV
        · replace hV := hV.trans (if_neg c_3)
          have gc_3 : ¬ ((b2i (m_has p2 x4_1))).toInt = 0 := xq_ne c_3 rfl rfl
          refine lv_aload_n S.1 S.2.1 dX11_nightsOf_24 rfl (lv_at hl 0 rfl) ?_
          refine lv_iload_n S.1 S.2.1 dX11_nightsOf_25 rfl (lv_at hl 1 rfl) ?_
          refine lv_iload S.1 S.2.1 dX11_nightsOf_26 (lv_at hl 4 rfl) ?_
          refine xci (rest := [.int x3_1]) S hK hE hA hw yfX11_nightsFor (c_m_nightsFor l D a Y ts _ p1 x4_1 (show (0 ≤ ((u.1 0 0)).toInt ∧ ((u.1 0 0)).toInt ≤ 8) from by omega) (show (0 ≤ ((u.1 0 5)).toInt ∧ ((u.1 0 5)).toInt ≤ 6) from by omega) (show 0 ≤ (p1).toInt ∧ (p1).toInt < 6 from by omega) (show 0 ≤ (x4_1).toInt ∧ (x4_1).toInt < 8 from by omega) hr0) 0 rfl rfl mlX11_188 rfl rfl hl.1 ⟨rfl, rfl, Nat.le_of_ble_eq_true rfl, Nat.le_of_ble_eq_true rfl, Nat.le_of_ble_eq_true rfl, Nat.zero_le _, Nat.zero_le _⟩ dX11_nightsOf_28 (fun H locs hw => ?_)
          refine lv_goto (tgt := 35) S.1 S.2.1 dX11_nightsOf_31 (by decide) ?_
          refine lv_iadd S.1 S.2.1 dX11_nightsOf_35 ?_
          refine lv_istore_n (lv' := [(3, .int (x3_1 + (m_nightsFor u p1 x4_1))), (0, .ref (a 0)), (1, .int p1), (2, .int p2), (4, .int x4_1)]) S.1 S.2.1 dX11_nightsOf_36 rfl hl (by decide) rfl (fun ls hl => ?_)
          refine lv_iinc (v := (x4_1 + (1 : Int32))) (lv' := [(4, .int (x4_1 + (1 : Int32))), (3, .int (x3_1 + (m_nightsFor u p1 x4_1))), (0, .ref (a 0)), (1, .int p1), (2, .int p2)]) S.1 S.2.1 dX11_nightsOf_37 hl (k := 4) rfl rfl (by decide) rfl (fun ls hl => ?_)
          refine lv_goto (tgt := 5) S.1 S.2.1 dX11_nightsOf_40 (by decide) ?_
          have e_5 : ∀ _ : Unit, ((x4_1 + (1 : Int32))).toInt = (x4_1).toInt + 1 := fun _ => xadd rfl rfl (by omega) (by omega)
          exact ih_1 (x3_1 + (m_nightsFor u p1 x4_1)) (x4_1 + (1 : Int32)) _ _ _ (show 0 ≤ ((x4_1 + (1 : Int32))).toInt from by rw [(e_5 ())]; omega) (show ((u.1 0 0)).toInt - ((x4_1 + (1 : Int32))).toInt < (n_1 : Int) ∧ 1 ≤ n_1 from by rw [(e_5 ())]; omega) (lv_sub hl [2, 3, 4, 1, 0] rfl) hw hV
  exact lp_1 9 (0 : Int32) (0 : Int32) _ _ _ (show 0 ≤ 0 from by omega) (show ((u.1 0 0)).toInt - 0 < ((9 : Nat) : Int) ∧ 1 ≤ (9 : Nat) from by omega) (lv_sub hl [2, 3, 4, 1, 0] rfl) hw hV
def m_cracksOf_L5 (w : xU) (x1 : Int32) (x2 : Int32) : Nat → Int32 → Int32 → Int32
  | 0, _, _ => 0
  | n + 1, x3, x4 =>
    (if (w.1 0 0) ≤ x4 then
    x3
    else
    (if (b2i (m_has x2 x4)) = (0 : Int32) then
    m_cracksOf_L5 w x1 x2 n (x3 + (0 : Int32)) (x4 + (1 : Int32))
    else
    let t_5 := (x3 + ((w.1 1 (x4).toNatClampNeg) * (m_nightsFor w x1 x4)))
    m_cracksOf_L5 w x1 x2 n t_5 (x4 + (1 : Int32))))
def m_cracksOf (u : xU) (p1 : Int32) (p2 : Int32) : Int32 :=
    m_cracksOf_L5 u p1 p2 9 (0 : Int32) (0 : Int32)
set_option maxHeartbeats 4000000 in
set_option maxRecDepth 100000 in
theorem c_m_cracksOf (l : Launch) (D : va_G) (a : Nat → Nat) (Y : Nat → ClassId) (ts : Nat → Nat) (u : xU) (p1 : Int32) (p2 : Int32) (hT : (0 ≤ ((u.1 0 0)).toInt ∧ ((u.1 0 0)).toInt ≤ 8)) (hC : (0 ≤ ((u.1 0 5)).toInt ∧ ((u.1 0 5)).toInt ≤ 6)) (hp0 : 0 ≤ (p1).toInt ∧ (p1).toInt < 6) (hr0 : ¬ (u.1 6 (p1).toNatClampNeg) = 0) : xMi l yX11_cracksOf cX11_cracksOf 5 (some .int) (xRm 1 24) D (xty Y) (wM a Y) ts [.ref (a 0), .int p1, .int p2] u ((m_cracksOf u p1 p2), u) := by
  suffices h : ∀ V, V = m_cracksOf u p1 p2 → xMi l yX11_cracksOf cX11_cracksOf 5 (some .int) (xRm 1 24) D (xty Y) (wM a Y) ts [.ref (a 0), .int p1, .int p2] u (V, u) from h _ rfl
  intro V hV
  refine xofi RX11 rfl (by decide) (Nat.le_of_ble_eq_true rfl) ?_
  intro p e s m args below meth c ls H locs A S hr hlk hl hK hE hA hw
  have hl : lv_has ls 5 [(0, .ref (a 0)), (1, .int p1), (2, .int p2)] := hl
  refine lv_iconst (v := 0) S.1 S.2.1 dX11_cracksOf_0 (by decide) ?_
  refine lv_istore_n (lv' := [(3, .int (0 : Int32)), (0, .ref (a 0)), (1, .int p1), (2, .int p2)]) S.1 S.2.1 dX11_cracksOf_1 rfl hl (by decide) rfl (fun ls hl => ?_)
  refine lv_iconst (v := 0) S.1 S.2.1 dX11_cracksOf_2 (by decide) ?_
  refine lv_istore (lv' := [(4, .int (0 : Int32)), (3, .int (0 : Int32)), (0, .ref (a 0)), (1, .int p1), (2, .int p2)]) S.1 S.2.1 dX11_cracksOf_3 hl (by decide) rfl (fun ls hl => ?_)
  have lp_1 : ∀ (n_1 : Nat) (x3_1 : Int32) (x4_1 : Int32) (H : Heap) (locs : List Loc) (ls : Array Slot), (0 ≤ (x4_1).toInt) → (((u.1 0 0)).toInt - (x4_1).toInt < (n_1 : Int) ∧ 1 ≤ n_1) → lv_has ls 5 [(0, .ref (a 0)), (1, .int p1), (2, .int p2), (3, .int x3_1), (4, .int x4_1)] → xw D (wM a Y) A s.heap H locs u → V = m_cracksOf_L5 u p1 p2 n_1 x3_1 x4_1 → W p l e (xRm 1 24) s m args below meth c H locs 0 0 (MQ below (va_Qi (fun r v => (r, v) = (V, u)) (xPost D (wM a Y) A) A) args s 0 0 A) (F0 m 5 ls []) := by
    intro n_1
    induction n_1 with
    | zero => intro x3_1 x4_1 H locs ls i0_1 hn; exact absurd hn.2 (by decide)
    | succ n_1 ih_1 =>
      intro x3_1 x4_1 H locs ls i0_1 hn_1 hl hw hV
      refine lv_iload S.1 S.2.1 dX11_cracksOf_5 (lv_at hl 4 rfl) ?_
      refine lv_aload_n S.1 S.2.1 dX11_cracksOf_7 rfl (lv_at hl 0 rfl) ?_
      refine xget (v := .int (u.1 0 0)) S hK hw 0 rfl rfl inX11 0 (by decide) mfX11_68 rfl dX11_cracksOf_8 ?_
      refine lv_icmp_ge (tgt := 51) S.1 S.2.1 dX11_cracksOf_11 (by decide) (fun c_2 => ?_) (fun c_2 => ?_)
      · replace hV := hV.trans (if_pos c_2)
        have gc_2 : ((u.1 0 0)).toInt ≤ (x4_1).toInt := xq_le c_2 rfl rfl
        refine lv_iload_n S.1 S.2.1 dX11_cracksOf_51 rfl (lv_at hl 3 rfl) ?_
        exact xri S hr hlk hw (congrArg (fun b => (b, u)) hV) dX11_cracksOf_52
      · replace hV := hV.trans (if_neg c_2)
        have gc_2 : (x4_1).toInt < ((u.1 0 0)).toInt := xq_nle c_2 rfl rfl
        refine lv_iload_n S.1 S.2.1 dX11_cracksOf_14 rfl (lv_at hl 3 rfl) ?_
        refine lv_iload_n S.1 S.2.1 dX11_cracksOf_15 rfl (lv_at hl 2 rfl) ?_
        refine lv_iload S.1 S.2.1 dX11_cracksOf_16 (lv_at hl 4 rfl) ?_
        refine xcP (rest := [.int x3_1]) S hw yfX11_has (c_m_has l p2 x4_1) mlX11_140 rfl rfl hl.1 ⟨rfl, rfl, Nat.le_of_ble_eq_true rfl, Nat.le_of_ble_eq_true rfl, Nat.le_of_ble_eq_true rfl, Nat.zero_le _, Nat.zero_le _⟩ dX11_cracksOf_18 (fun H locs hw => ?_)
        refine lv_if_eq (tgt := 42) S.1 S.2.1 dX11_cracksOf_21 (by decide) (fun c_3 => ?_) (fun c_3 => ?_)
        · replace hV := hV.trans (if_pos c_3)
          have gc_3 : ((b2i (m_has p2 x4_1))).toInt = 0 := xq_eq c_3 rfl rfl
          refine lv_iconst (v := 0) S.1 S.2.1 dX11_cracksOf_42 (by decide) ?_
          refine lv_iadd S.1 S.2.1 dX11_cracksOf_43 ?_
          refine lv_istore_n (lv' := [(3, .int (x3_1 + (0 : Int32))), (0, .ref (a 0)), (1, .int p1), (2, .int p2), (4, .int x4_1)]) S.1 S.2.1 dX11_cracksOf_44 rfl hl (by decide) rfl (fun ls hl => ?_)
          refine lv_iinc (v := (x4_1 + (1 : Int32))) (lv' := [(4, .int (x4_1 + (1 : Int32))), (3, .int (x3_1 + (0 : Int32))), (0, .ref (a 0)), (1, .int p1), (2, .int p2)]) S.1 S.2.1 dX11_cracksOf_45 hl (k := 4) rfl rfl (by decide) rfl (fun ls hl => ?_)
          refine lv_goto (tgt := 5) S.1 S.2.1 dX11_cracksOf_48 (by decide) ?_
          have e_4 : ∀ _ : Unit, ((x4_1 + (1 : Int32))).toInt = (x4_1).toInt + 1 := fun _ => xadd rfl rfl (by omega) (by omega)
          exact ih_1 (x3_1 + (0 : Int32)) (x4_1 + (1 : Int32)) _ _ _ (show 0 ≤ ((x4_1 + (1 : Int32))).toInt from by rw [(e_4 ())]; omega) (show ((u.1 0 0)).toInt - ((x4_1 + (1 : Int32))).toInt < (n_1 : Int) ∧ 1 ≤ n_1 from by rw [(e_4 ())]; omega) (lv_sub hl [2, 3, 4, 1, 0] rfl) hw hV
        · replace hV := hV.trans (if_neg c_3)
          have gc_3 : ¬ ((b2i (m_has p2 x4_1))).toInt = 0 := xq_ne c_3 rfl rfl
          refine lv_aload_n S.1 S.2.1 dX11_cracksOf_24 rfl (lv_at hl 0 rfl) ?_
          refine xget (v := .ref (a 1)) S hK hw 0 rfl rfl inX11 1 (by decide) mfX11_7 rfl dX11_cracksOf_25 ?_
          refine lv_iload S.1 S.2.1 dX11_cracksOf_28 (lv_at hl 4 rfl) ?_
          refine xald (f := u.1 1) S hK hw 1 0 rfl rfl (xvi rfl (by omega) (by omega)) dX11_cracksOf_30 ?_
          refine lv_aload_n S.1 S.2.1 dX11_cracksOf_31 rfl (lv_at hl 0 rfl) ?_
          refine lv_iload_n S.1 S.2.1 dX11_cracksOf_32 rfl (lv_at hl 1 rfl) ?_
          refine lv_iload S.1 S.2.1 dX11_cracksOf_33 (lv_at hl 4 rfl) ?_
          refine xci (rest := [.int (u.1 1 (x4_1).toNatClampNeg), .int x3_1]) S hK hE hA hw yfX11_nightsFor (c_m_nightsFor l D a Y ts _ p1 x4_1 (show (0 ≤ ((u.1 0 0)).toInt ∧ ((u.1 0 0)).toInt ≤ 8) from by omega) (show (0 ≤ ((u.1 0 5)).toInt ∧ ((u.1 0 5)).toInt ≤ 6) from by omega) (show 0 ≤ (p1).toInt ∧ (p1).toInt < 6 from by omega) (show 0 ≤ (x4_1).toInt ∧ (x4_1).toInt < 8 from by omega) hr0) 0 rfl rfl mlX11_188 rfl rfl hl.1 ⟨rfl, rfl, Nat.le_of_ble_eq_true rfl, Nat.le_of_ble_eq_true rfl, Nat.le_of_ble_eq_true rfl, Nat.zero_le _, Nat.zero_le _⟩ dX11_cracksOf_35 (fun H locs hw => ?_)
          refine lv_imul S.1 S.2.1 dX11_cracksOf_38 ?_
          refine lv_goto (tgt := 43) S.1 S.2.1 dX11_cracksOf_39 (by decide) ?_
          refine lv_iadd S.1 S.2.1 dX11_cracksOf_43 ?_
          refine lv_istore_n (lv' := [(3, .int (x3_1 + ((u.1 1 (x4_1).toNatClampNeg) * (m_nightsFor u p1 x4_1)))), (0, .ref (a 0)), (1, .int p1), (2, .int p2), (4, .int x4_1)]) S.1 S.2.1 dX11_cracksOf_44 rfl hl (by decide) rfl (fun ls hl => ?_)
          refine lv_iinc (v := (x4_1 + (1 : Int32))) (lv' := [(4, .int (x4_1 + (1 : Int32))), (3, .int (x3_1 + ((u.1 1 (x4_1).toNatClampNeg) * (m_nightsFor u p1 x4_1)))), (0, .ref (a 0)), (1, .int p1), (2, .int p2)]) S.1 S.2.1 dX11_cracksOf_45 hl (k := 4) rfl rfl (by decide) rfl (fun ls hl => ?_)
          refine lv_goto (tgt := 5) S.1 S.2.1 dX11_cracksOf_48 (by decide) ?_
          have e_6 : ∀ _ : Unit, ((x4_1 + (1 : Int32))).toInt = (x4_1).toInt + 1 := fun _ => xadd rfl rfl (by omega) (by omega)
          exact ih_1 (x3_1 + ((u.1 1 (x4_1).toNatClampNeg) * (m_nightsFor u p1 x4_1))) (x4_1 + (1 : Int32)) _ _ _ (show 0 ≤ ((x4_1 + (1 : Int32))).toInt from by rw [(e_6 ())]; omega) (show ((u.1 0 0)).toInt - ((x4_1 + (1 : Int32))).toInt < (n_1 : Int) ∧ 1 ≤ n_1 from by rw [(e_6 ())]; omega) (lv_sub hl [2, 3, 4, 1, 0] rfl) hw hV
  exact lp_1 9 (0 : Int32) (0 : Int32) _ _ _ (show 0 ≤ 0 from by omega) (show ((u.1 0 0)).toInt - 0 < ((9 : Nat) : Int) ∧ 1 ≤ (9 : Nat) from by omega) (lv_sub hl [2, 3, 4, 1, 0] rfl) hw hV
def m_bears_L42 (w : xU) (x1 : Int32) (x2 : Int32) : Nat → Int32 → Int32 → Bool
  | 0, _, _ => false
  | n + 1, x3, x4 =>
    (if (w.1 0 0) ≤ x4 then
    (x3 != 0)
    else
    (if x3 = (0 : Int32) then
    m_bears_L42 w x1 x2 n (0 : Int32) (x4 + (1 : Int32))
    else
    (if (b2i (m_has x2 x4)) = (0 : Int32) then
    m_bears_L42 w x1 x2 n (1 : Int32) (x4 + (1 : Int32))
    else
    (if (b2i (m_hasPart w x1 x4)) = (0 : Int32) then
    m_bears_L42 w x1 x2 n (0 : Int32) (x4 + (1 : Int32))
    else
    m_bears_L42 w x1 x2 n (1 : Int32) (x4 + (1 : Int32))))))
def m_bears (u : xU) (p1 : Int32) (p2 : Int32) : Bool :=
    (if (b2i (m_isBroken u p1)) = (0 : Int32) then
    (if (u.1 5 (p1).toNatClampNeg) < ((u.1 7 (((61 : Int32) + p1)).toNatClampNeg) + (m_cracksOf u p1 p2)) then
    m_bears_L42 u p1 p2 9 (0 : Int32) (0 : Int32)
    else
    m_bears_L42 u p1 p2 9 (1 : Int32) (0 : Int32))
    else
    m_bears_L42 u p1 p2 9 (0 : Int32) (0 : Int32))
set_option maxHeartbeats 4000000 in
set_option maxRecDepth 100000 in
theorem c_m_bears (l : Launch) (D : va_G) (a : Nat → Nat) (Y : Nat → ClassId) (ts : Nat → Nat) (u : xU) (p1 : Int32) (p2 : Int32) (hT : (0 ≤ ((u.1 0 0)).toInt ∧ ((u.1 0 0)).toInt ≤ 8)) (hC : (0 ≤ ((u.1 0 5)).toInt ∧ ((u.1 0 5)).toInt ≤ 6)) (hp0 : 0 ≤ (p1).toInt ∧ (p1).toInt < 6) (hr0 : ¬ (u.1 6 (p1).toNatClampNeg) = 0) : xMi l yX11_bears cX11_bears 5 (some .boolean) (xRm 2 48) D (xty Y) (wM a Y) ts [.ref (a 0), .int p1, .int p2] u (b2i (m_bears u p1 p2), u) := by
  suffices h : ∀ V, V = m_bears u p1 p2 → xMi l yX11_bears cX11_bears 5 (some .boolean) (xRm 2 48) D (xty Y) (wM a Y) ts [.ref (a 0), .int p1, .int p2] u (b2i V, u) from h _ rfl
  intro V hV
  refine xofi RX11 rfl (by decide) (Nat.le_of_ble_eq_true rfl) ?_
  intro p e s m args below meth c ls H locs A S hr hlk hl hK hE hA hw
  have hl : lv_has ls 5 [(0, .ref (a 0)), (1, .int p1), (2, .int p2)] := hl
  refine lv_aload_n S.1 S.2.1 dX11_bears_0 rfl (lv_at hl 0 rfl) ?_
  refine lv_iload_n S.1 S.2.1 dX11_bears_1 rfl (lv_at hl 1 rfl) ?_
  refine xci (rest := []) S hK hE hA hw yfX11_isBroken (c_m_isBroken l D a Y ts _ p1 (show (0 ≤ ((u.1 0 0)).toInt ∧ ((u.1 0 0)).toInt ≤ 8) from by omega) (show (0 ≤ ((u.1 0 5)).toInt ∧ ((u.1 0 5)).toInt ≤ 6) from by omega) (show 0 ≤ (p1).toInt ∧ (p1).toInt < 6 from by omega)) 0 rfl rfl mlX11_144 rfl rfl hl.1 ⟨rfl, rfl, Nat.le_of_ble_eq_true rfl, Nat.le_of_ble_eq_true rfl, Nat.le_of_ble_eq_true rfl, Nat.zero_le _, Nat.zero_le _⟩ dX11_bears_2 (fun H locs hw => ?_)
  refine lv_if_ne (tgt := 37) S.1 S.2.1 dX11_bears_5 (by decide) (fun c_1 => ?_) (fun c_1 => ?_)
  · replace hV := hV.trans (if_neg c_1)
    have gc_1 : ¬ ((b2i (m_isBroken u p1))).toInt = 0 := xq_ne c_1 rfl rfl
    refine lv_iconst (v := 0) S.1 S.2.1 dX11_bears_37 (by decide) ?_
    refine lv_istore_n (lv' := [(3, .int (0 : Int32)), (0, .ref (a 0)), (1, .int p1), (2, .int p2)]) S.1 S.2.1 dX11_bears_38 rfl hl (by decide) rfl (fun ls hl => ?_)
    refine lv_iconst (v := 0) S.1 S.2.1 dX11_bears_39 (by decide) ?_
    refine lv_istore (lv' := [(4, .int (0 : Int32)), (3, .int (0 : Int32)), (0, .ref (a 0)), (1, .int p1), (2, .int p2)]) S.1 S.2.1 dX11_bears_40 hl (by decide) rfl (fun ls hl => ?_)
    have lp_2 : ∀ (n_2 : Nat) (x3_2 : Int32) (x4_2 : Int32) (H : Heap) (locs : List Loc) (ls : Array Slot), (0 ≤ (x4_2).toInt) → (((x3_2).toInt = 0 ∨ (x3_2).toInt = 1)) → (((u.1 0 0)).toInt - (x4_2).toInt < (n_2 : Int) ∧ 1 ≤ n_2) → lv_has ls 5 [(0, .ref (a 0)), (1, .int p1), (2, .int p2), (3, .int x3_2), (4, .int x4_2)] → xw D (wM a Y) A s.heap H locs u → V = m_bears_L42 u p1 p2 n_2 x3_2 x4_2 → W p l e (xRm 2 48) s m args below meth c H locs 0 0 (MQ below (va_Qi (fun r v => (r, v) = (b2i V, u)) (xPost D (wM a Y) A) A) args s 0 0 A) (F0 m 42 ls []) := by
      intro n_2
      induction n_2 with
      | zero => intro x3_2 x4_2 H locs ls i0_2 i1_2 hn; exact absurd hn.2 (by decide)
      | succ n_2 ih_2 =>
        intro x3_2 x4_2 H locs ls i0_2 i1_2 hn_2 hl hw hV
        refine lv_iload S.1 S.2.1 dX11_bears_42 (lv_at hl 4 rfl) ?_
        refine lv_aload_n S.1 S.2.1 dX11_bears_44 rfl (lv_at hl 0 rfl) ?_
        refine xget (v := .int (u.1 0 0)) S hK hw 0 rfl rfl inX11 0 (by decide) mfX11_68 rfl dX11_bears_45 ?_
        refine lv_icmp_ge (tgt := 86) S.1 S.2.1 dX11_bears_48 (by decide) (fun c_3 => ?_) (fun c_3 => ?_)
        · replace hV := hV.trans (if_pos c_3)
          have gc_3 : ((u.1 0 0)).toInt ≤ (x4_2).toInt := xq_le c_3 rfl rfl
          refine lv_iload_n S.1 S.2.1 dX11_bears_86 rfl (lv_at hl 3 rfl) ?_
          exact xrz S hr hlk hw (xbn (by omega)) ((congrArg (fun b => (b2i b, u)) hV).trans (by rw [xbb (by omega)])) dX11_bears_87
        · replace hV := hV.trans (if_neg c_3)
          have gc_3 : (x4_2).toInt < ((u.1 0 0)).toInt := xq_nle c_3 rfl rfl
          refine lv_iload_n S.1 S.2.1 dX11_bears_51 rfl (lv_at hl 3 rfl) ?_
          refine lv_if_eq (tgt := 78) S.1 S.2.1 dX11_bears_52 (by decide) (fun c_4 => ?_) (fun c_4 => ?_)
          · replace hV := hV.trans (if_pos c_4)
            have gc_4 : (x3_2).toInt = 0 := xq_eq c_4 rfl rfl
            refine lv_iconst (v := 0) S.1 S.2.1 dX11_bears_78 (by decide) ?_
            refine lv_istore_n (lv' := [(3, .int (0 : Int32)), (0, .ref (a 0)), (1, .int p1), (2, .int p2), (4, .int x4_2)]) S.1 S.2.1 dX11_bears_79 rfl hl (by decide) rfl (fun ls hl => ?_)
            refine lv_iinc (v := (x4_2 + (1 : Int32))) (lv' := [(4, .int (x4_2 + (1 : Int32))), (3, .int (0 : Int32)), (0, .ref (a 0)), (1, .int p1), (2, .int p2)]) S.1 S.2.1 dX11_bears_80 hl (k := 4) rfl rfl (by decide) rfl (fun ls hl => ?_)
            refine lv_goto (tgt := 42) S.1 S.2.1 dX11_bears_83 (by decide) ?_
            have e_5 : ∀ _ : Unit, ((x4_2 + (1 : Int32))).toInt = (x4_2).toInt + 1 := fun _ => xadd rfl rfl (by omega) (by omega)
            exact ih_2 (0 : Int32) (x4_2 + (1 : Int32)) _ _ _ (show 0 ≤ ((x4_2 + (1 : Int32))).toInt from by rw [(e_5 ())]; omega) (show (0 = 0 ∨ 0 = 1) from by omega) (show ((u.1 0 0)).toInt - ((x4_2 + (1 : Int32))).toInt < (n_2 : Int) ∧ 1 ≤ n_2 from by rw [(e_5 ())]; omega) (lv_sub hl [2, 3, 4, 1, 0] rfl) hw hV
          · replace hV := hV.trans (if_neg c_4)
            have gc_4 : ¬ (x3_2).toInt = 0 := xq_ne c_4 rfl rfl
            refine lv_iload_n S.1 S.2.1 dX11_bears_55 rfl (lv_at hl 2 rfl) ?_
            refine lv_iload S.1 S.2.1 dX11_bears_56 (lv_at hl 4 rfl) ?_
            refine xcP (rest := []) S hw yfX11_has (c_m_has l p2 x4_2) mlX11_140 rfl rfl hl.1 ⟨rfl, rfl, Nat.le_of_ble_eq_true rfl, Nat.le_of_ble_eq_true rfl, Nat.le_of_ble_eq_true rfl, Nat.zero_le _, Nat.zero_le _⟩ dX11_bears_58 (fun H locs hw => ?_)
            refine lv_if_eq (tgt := 74) S.1 S.2.1 dX11_bears_61 (by decide) (fun c_6 => ?_) (fun c_6 => ?_)
            · replace hV := hV.trans (if_pos c_6)
              have gc_6 : ((b2i (m_has p2 x4_2))).toInt = 0 := xq_eq c_6 rfl rfl
              refine lv_iconst (v := 1) S.1 S.2.1 dX11_bears_74 (by decide) ?_
              refine lv_goto (tgt := 79) S.1 S.2.1 dX11_bears_75 (by decide) ?_
              refine lv_istore_n (lv' := [(3, .int (1 : Int32)), (0, .ref (a 0)), (1, .int p1), (2, .int p2), (4, .int x4_2)]) S.1 S.2.1 dX11_bears_79 rfl hl (by decide) rfl (fun ls hl => ?_)
              refine lv_iinc (v := (x4_2 + (1 : Int32))) (lv' := [(4, .int (x4_2 + (1 : Int32))), (3, .int (1 : Int32)), (0, .ref (a 0)), (1, .int p1), (2, .int p2)]) S.1 S.2.1 dX11_bears_80 hl (k := 4) rfl rfl (by decide) rfl (fun ls hl => ?_)
              refine lv_goto (tgt := 42) S.1 S.2.1 dX11_bears_83 (by decide) ?_
              have e_7 : ∀ _ : Unit, ((x4_2 + (1 : Int32))).toInt = (x4_2).toInt + 1 := fun _ => xadd rfl rfl (by omega) (by omega)
              exact ih_2 (1 : Int32) (x4_2 + (1 : Int32)) _ _ _ (show 0 ≤ ((x4_2 + (1 : Int32))).toInt from by rw [(e_7 ())]; omega) (show (1 = 0 ∨ 1 = 1) from by omega) (show ((u.1 0 0)).toInt - ((x4_2 + (1 : Int32))).toInt < (n_2 : Int) ∧ 1 ≤ n_2 from by rw [(e_7 ())]; omega) (lv_sub hl [2, 3, 4, 1, 0] rfl) hw hV
            · replace hV := hV.trans (if_neg c_6)
              have gc_6 : ¬ ((b2i (m_has p2 x4_2))).toInt = 0 := xq_ne c_6 rfl rfl
              refine lv_aload_n S.1 S.2.1 dX11_bears_64 rfl (lv_at hl 0 rfl) ?_
              refine lv_iload_n S.1 S.2.1 dX11_bears_65 rfl (lv_at hl 1 rfl) ?_
              refine lv_iload S.1 S.2.1 dX11_bears_66 (lv_at hl 4 rfl) ?_
              refine xci (rest := []) S hK hE hA hw yfX11_hasPart (c_m_hasPart l D a Y ts _ p1 x4_2 (show (0 ≤ ((u.1 0 0)).toInt ∧ ((u.1 0 0)).toInt ≤ 8) from by omega) (show (0 ≤ ((u.1 0 5)).toInt ∧ ((u.1 0 5)).toInt ≤ 6) from by omega) (show 0 ≤ (p1).toInt ∧ (p1).toInt < 6 from by omega) (show 0 ≤ (x4_2).toInt ∧ (x4_2).toInt < 8 from by omega)) 0 rfl rfl mlX11_150 rfl rfl hl.1 ⟨rfl, rfl, Nat.le_of_ble_eq_true rfl, Nat.le_of_ble_eq_true rfl, Nat.le_of_ble_eq_true rfl, Nat.zero_le _, Nat.zero_le _⟩ dX11_bears_68 (fun H locs hw => ?_)
              refine lv_if_eq (tgt := 78) S.1 S.2.1 dX11_bears_71 (by decide) (fun c_8 => ?_) (fun c_8 => ?_)
              · replace hV := hV.trans (if_pos c_8)
                have gc_8 : ((b2i (m_hasPart u p1 x4_2))).toInt = 0 := xq_eq c_8 rfl rfl
                refine lv_iconst (v := 0) S.1 S.2.1 dX11_bears_78 (by decide) ?_
                refine lv_istore_n (lv' := [(3, .int (0 : Int32)), (0, .ref (a 0)), (1, .int p1), (2, .int p2), (4, .int x4_2)]) S.1 S.2.1 dX11_bears_79 rfl hl (by decide) rfl (fun ls hl => ?_)
                refine lv_iinc (v := (x4_2 + (1 : Int32))) (lv' := [(4, .int (x4_2 + (1 : Int32))), (3, .int (0 : Int32)), (0, .ref (a 0)), (1, .int p1), (2, .int p2)]) S.1 S.2.1 dX11_bears_80 hl (k := 4) rfl rfl (by decide) rfl (fun ls hl => ?_)
                refine lv_goto (tgt := 42) S.1 S.2.1 dX11_bears_83 (by decide) ?_
                have e_9 : ∀ _ : Unit, ((x4_2 + (1 : Int32))).toInt = (x4_2).toInt + 1 := fun _ => xadd rfl rfl (by omega) (by omega)
                exact ih_2 (0 : Int32) (x4_2 + (1 : Int32)) _ _ _ (show 0 ≤ ((x4_2 + (1 : Int32))).toInt from by rw [(e_9 ())]; omega) (show (0 = 0 ∨ 0 = 1) from by omega) (show ((u.1 0 0)).toInt - ((x4_2 + (1 : Int32))).toInt < (n_2 : Int) ∧ 1 ≤ n_2 from by rw [(e_9 ())]; omega) (lv_sub hl [2, 3, 4, 1, 0] rfl) hw hV
              · replace hV := hV.trans (if_neg c_8)
                have gc_8 : ¬ ((b2i (m_hasPart u p1 x4_2))).toInt = 0 := xq_ne c_8 rfl rfl
                refine lv_iconst (v := 1) S.1 S.2.1 dX11_bears_74 (by decide) ?_
                refine lv_goto (tgt := 79) S.1 S.2.1 dX11_bears_75 (by decide) ?_
                refine lv_istore_n (lv' := [(3, .int (1 : Int32)), (0, .ref (a 0)), (1, .int p1), (2, .int p2), (4, .int x4_2)]) S.1 S.2.1 dX11_bears_79 rfl hl (by decide) rfl (fun ls hl => ?_)
                refine lv_iinc (v := (x4_2 + (1 : Int32))) (lv' := [(4, .int (x4_2 + (1 : Int32))), (3, .int (1 : Int32)), (0, .ref (a 0)), (1, .int p1), (2, .int p2)]) S.1 S.2.1 dX11_bears_80 hl (k := 4) rfl rfl (by decide) rfl (fun ls hl => ?_)
                refine lv_goto (tgt := 42) S.1 S.2.1 dX11_bears_83 (by decide) ?_
                have e_10 : ∀ _ : Unit, ((x4_2 + (1 : Int32))).toInt = (x4_2).toInt + 1 := fun _ => xadd rfl rfl (by omega) (by omega)
                exact ih_2 (1 : Int32) (x4_2 + (1 : Int32)) _ _ _ (show 0 ≤ ((x4_2 + (1 : Int32))).toInt from by rw [(e_10 ())]; omega) (show (1 = 0 ∨ 1 = 1) from by omega) (show ((u.1 0 0)).toInt - ((x4_2 + (1 : Int32))).toInt < (n_2 : Int) ∧ 1 ≤ n_2 from by rw [(e_10 ())]; omega) (lv_sub hl [2, 3, 4, 1, 0] rfl) hw hV
    exact lp_2 9 (0 : Int32) (0 : Int32) _ _ _ (show 0 ≤ 0 from by omega) (show (0 = 0 ∨ 0 = 1) from by omega) (show ((u.1 0 0)).toInt - 0 < ((9 : Nat) : Int) ∧ 1 ≤ (9 : Nat) from by omega) (lv_sub hl [2, 3, 4, 1, 0] rfl) hw hV
  · replace hV := hV.trans (if_pos c_1)
    have gc_1 : ((b2i (m_isBroken u p1))).toInt = 0 := xq_eq c_1 rfl rfl
    refine lv_aload_n S.1 S.2.1 dX11_bears_8 rfl (lv_at hl 0 rfl) ?_
    refine xget (v := .ref (a 7)) S hK hw 0 rfl rfl inX11 8 (by decide) mfX11_28 rfl dX11_bears_9 ?_
    refine lv_bipush (v := 61) S.1 S.2.1 dX11_bears_12 (by decide) ?_
    refine lv_iload_n S.1 S.2.1 dX11_bears_14 rfl (lv_at hl 1 rfl) ?_
    refine lv_iadd S.1 S.2.1 dX11_bears_15 ?_
    have e_11 : ∀ _ : Unit, (((61 : Int32) + p1)).toInt = 61 + (p1).toInt := fun _ => xadd rfl rfl (by omega) (by omega)
    refine xald (f := u.1 7) S hK hw 7 0 rfl rfl (xvi (e_11 ()) (by omega) (by omega)) dX11_bears_16 ?_
    refine lv_aload_n S.1 S.2.1 dX11_bears_17 rfl (lv_at hl 0 rfl) ?_
    refine lv_iload_n S.1 S.2.1 dX11_bears_18 rfl (lv_at hl 1 rfl) ?_
    refine lv_iload_n S.1 S.2.1 dX11_bears_19 rfl (lv_at hl 2 rfl) ?_
    refine xci (rest := [.int (u.1 7 (((61 : Int32) + p1)).toNatClampNeg)]) S hK hE hA hw yfX11_cracksOf (c_m_cracksOf l D a Y ts _ p1 p2 (show (0 ≤ ((u.1 0 0)).toInt ∧ ((u.1 0 0)).toInt ≤ 8) from by omega) (show (0 ≤ ((u.1 0 5)).toInt ∧ ((u.1 0 5)).toInt ≤ 6) from by omega) (show 0 ≤ (p1).toInt ∧ (p1).toInt < 6 from by omega) hr0) 0 rfl rfl mlX11_191 rfl rfl hl.1 ⟨rfl, rfl, Nat.le_of_ble_eq_true rfl, Nat.le_of_ble_eq_true rfl, Nat.le_of_ble_eq_true rfl, Nat.zero_le _, Nat.zero_le _⟩ dX11_bears_20 (fun H locs hw => ?_)
    refine lv_iadd S.1 S.2.1 dX11_bears_23 ?_
    refine lv_aload_n S.1 S.2.1 dX11_bears_24 rfl (lv_at hl 0 rfl) ?_
    refine xget (v := .ref (a 5)) S hK hw 0 rfl rfl inX11 6 (by decide) mfX11_22 rfl dX11_bears_25 ?_
    refine lv_iload_n S.1 S.2.1 dX11_bears_28 rfl (lv_at hl 1 rfl) ?_
    refine xald (f := u.1 5) S hK hw 5 0 rfl rfl (xvi rfl (by omega) (by omega)) dX11_bears_29 ?_
    refine lv_icmp_gt (tgt := 37) S.1 S.2.1 dX11_bears_30 (by decide) (fun c_12 => ?_) (fun c_12 => ?_)
    · replace hV := hV.trans (if_pos c_12)
      refine lv_iconst (v := 0) S.1 S.2.1 dX11_bears_37 (by decide) ?_
      refine lv_istore_n (lv' := [(3, .int (0 : Int32)), (0, .ref (a 0)), (1, .int p1), (2, .int p2)]) S.1 S.2.1 dX11_bears_38 rfl hl (by decide) rfl (fun ls hl => ?_)
      refine lv_iconst (v := 0) S.1 S.2.1 dX11_bears_39 (by decide) ?_
      refine lv_istore (lv' := [(4, .int (0 : Int32)), (3, .int (0 : Int32)), (0, .ref (a 0)), (1, .int p1), (2, .int p2)]) S.1 S.2.1 dX11_bears_40 hl (by decide) rfl (fun ls hl => ?_)
      have lp_13 : ∀ (n_13 : Nat) (x3_13 : Int32) (x4_13 : Int32) (H : Heap) (locs : List Loc) (ls : Array Slot), (0 ≤ (x4_13).toInt) → (((x3_13).toInt = 0 ∨ (x3_13).toInt = 1)) → (((u.1 0 0)).toInt - (x4_13).toInt < (n_13 : Int) ∧ 1 ≤ n_13) → lv_has ls 5 [(0, .ref (a 0)), (1, .int p1), (2, .int p2), (3, .int x3_13), (4, .int x4_13)] → xw D (wM a Y) A s.heap H locs u → V = m_bears_L42 u p1 p2 n_13 x3_13 x4_13 → W p l e (xRm 2 48) s m args below meth c H locs 0 0 (MQ below (va_Qi (fun r v => (r, v) = (b2i V, u)) (xPost D (wM a Y) A) A) args s 0 0 A) (F0 m 42 ls []) := by
        intro n_13
        induction n_13 with
        | zero => intro x3_13 x4_13 H locs ls i0_13 i1_13 hn; exact absurd hn.2 (by decide)
        | succ n_13 ih_13 =>
          intro x3_13 x4_13 H locs ls i0_13 i1_13 hn_13 hl hw hV
          refine lv_iload S.1 S.2.1 dX11_bears_42 (lv_at hl 4 rfl) ?_
          refine lv_aload_n S.1 S.2.1 dX11_bears_44 rfl (lv_at hl 0 rfl) ?_
          refine xget (v := .int (u.1 0 0)) S hK hw 0 rfl rfl inX11 0 (by decide) mfX11_68 rfl dX11_bears_45 ?_
          refine lv_icmp_ge (tgt := 86) S.1 S.2.1 dX11_bears_48 (by decide) (fun c_14 => ?_) (fun c_14 => ?_)
          · replace hV := hV.trans (if_pos c_14)
            have gc_14 : ((u.1 0 0)).toInt ≤ (x4_13).toInt := xq_le c_14 rfl rfl
            refine lv_iload_n S.1 S.2.1 dX11_bears_86 rfl (lv_at hl 3 rfl) ?_
            exact xrz S hr hlk hw (xbn (by omega)) ((congrArg (fun b => (b2i b, u)) hV).trans (by rw [xbb (by omega)])) dX11_bears_87
          · replace hV := hV.trans (if_neg c_14)
            have gc_14 : (x4_13).toInt < ((u.1 0 0)).toInt := xq_nle c_14 rfl rfl
            refine lv_iload_n S.1 S.2.1 dX11_bears_51 rfl (lv_at hl 3 rfl) ?_
            refine lv_if_eq (tgt := 78) S.1 S.2.1 dX11_bears_52 (by decide) (fun c_15 => ?_) (fun c_15 => ?_)
            · replace hV := hV.trans (if_pos c_15)
              have gc_15 : (x3_13).toInt = 0 := xq_eq c_15 rfl rfl
              refine lv_iconst (v := 0) S.1 S.2.1 dX11_bears_78 (by decide) ?_
              refine lv_istore_n (lv' := [(3, .int (0 : Int32)), (0, .ref (a 0)), (1, .int p1), (2, .int p2), (4, .int x4_13)]) S.1 S.2.1 dX11_bears_79 rfl hl (by decide) rfl (fun ls hl => ?_)
              refine lv_iinc (v := (x4_13 + (1 : Int32))) (lv' := [(4, .int (x4_13 + (1 : Int32))), (3, .int (0 : Int32)), (0, .ref (a 0)), (1, .int p1), (2, .int p2)]) S.1 S.2.1 dX11_bears_80 hl (k := 4) rfl rfl (by decide) rfl (fun ls hl => ?_)
              refine lv_goto (tgt := 42) S.1 S.2.1 dX11_bears_83 (by decide) ?_
              have e_16 : ∀ _ : Unit, ((x4_13 + (1 : Int32))).toInt = (x4_13).toInt + 1 := fun _ => xadd rfl rfl (by omega) (by omega)
              exact ih_13 (0 : Int32) (x4_13 + (1 : Int32)) _ _ _ (show 0 ≤ ((x4_13 + (1 : Int32))).toInt from by rw [(e_16 ())]; omega) (show (0 = 0 ∨ 0 = 1) from by omega) (show ((u.1 0 0)).toInt - ((x4_13 + (1 : Int32))).toInt < (n_13 : Int) ∧ 1 ≤ n_13 from by rw [(e_16 ())]; omega) (lv_sub hl [2, 3, 4, 1, 0] rfl) hw hV
            · replace hV := hV.trans (if_neg c_15)
              have gc_15 : ¬ (x3_13).toInt = 0 := xq_ne c_15 rfl rfl
              refine lv_iload_n S.1 S.2.1 dX11_bears_55 rfl (lv_at hl 2 rfl) ?_
              refine lv_iload S.1 S.2.1 dX11_bears_56 (lv_at hl 4 rfl) ?_
              refine xcP (rest := []) S hw yfX11_has (c_m_has l p2 x4_13) mlX11_140 rfl rfl hl.1 ⟨rfl, rfl, Nat.le_of_ble_eq_true rfl, Nat.le_of_ble_eq_true rfl, Nat.le_of_ble_eq_true rfl, Nat.zero_le _, Nat.zero_le _⟩ dX11_bears_58 (fun H locs hw => ?_)
              refine lv_if_eq (tgt := 74) S.1 S.2.1 dX11_bears_61 (by decide) (fun c_17 => ?_) (fun c_17 => ?_)
              · replace hV := hV.trans (if_pos c_17)
                have gc_17 : ((b2i (m_has p2 x4_13))).toInt = 0 := xq_eq c_17 rfl rfl
                refine lv_iconst (v := 1) S.1 S.2.1 dX11_bears_74 (by decide) ?_
                refine lv_goto (tgt := 79) S.1 S.2.1 dX11_bears_75 (by decide) ?_
                refine lv_istore_n (lv' := [(3, .int (1 : Int32)), (0, .ref (a 0)), (1, .int p1), (2, .int p2), (4, .int x4_13)]) S.1 S.2.1 dX11_bears_79 rfl hl (by decide) rfl (fun ls hl => ?_)
                refine lv_iinc (v := (x4_13 + (1 : Int32))) (lv' := [(4, .int (x4_13 + (1 : Int32))), (3, .int (1 : Int32)), (0, .ref (a 0)), (1, .int p1), (2, .int p2)]) S.1 S.2.1 dX11_bears_80 hl (k := 4) rfl rfl (by decide) rfl (fun ls hl => ?_)
                refine lv_goto (tgt := 42) S.1 S.2.1 dX11_bears_83 (by decide) ?_
                have e_18 : ∀ _ : Unit, ((x4_13 + (1 : Int32))).toInt = (x4_13).toInt + 1 := fun _ => xadd rfl rfl (by omega) (by omega)
                exact ih_13 (1 : Int32) (x4_13 + (1 : Int32)) _ _ _ (show 0 ≤ ((x4_13 + (1 : Int32))).toInt from by rw [(e_18 ())]; omega) (show (1 = 0 ∨ 1 = 1) from by omega) (show ((u.1 0 0)).toInt - ((x4_13 + (1 : Int32))).toInt < (n_13 : Int) ∧ 1 ≤ n_13 from by rw [(e_18 ())]; omega) (lv_sub hl [2, 3, 4, 1, 0] rfl) hw hV
              · replace hV := hV.trans (if_neg c_17)
                have gc_17 : ¬ ((b2i (m_has p2 x4_13))).toInt = 0 := xq_ne c_17 rfl rfl
                refine lv_aload_n S.1 S.2.1 dX11_bears_64 rfl (lv_at hl 0 rfl) ?_
                refine lv_iload_n S.1 S.2.1 dX11_bears_65 rfl (lv_at hl 1 rfl) ?_
                refine lv_iload S.1 S.2.1 dX11_bears_66 (lv_at hl 4 rfl) ?_
                refine xci (rest := []) S hK hE hA hw yfX11_hasPart (c_m_hasPart l D a Y ts _ p1 x4_13 (show (0 ≤ ((u.1 0 0)).toInt ∧ ((u.1 0 0)).toInt ≤ 8) from by omega) (show (0 ≤ ((u.1 0 5)).toInt ∧ ((u.1 0 5)).toInt ≤ 6) from by omega) (show 0 ≤ (p1).toInt ∧ (p1).toInt < 6 from by omega) (show 0 ≤ (x4_13).toInt ∧ (x4_13).toInt < 8 from by omega)) 0 rfl rfl mlX11_150 rfl rfl hl.1 ⟨rfl, rfl, Nat.le_of_ble_eq_true rfl, Nat.le_of_ble_eq_true rfl, Nat.le_of_ble_eq_true rfl, Nat.zero_le _, Nat.zero_le _⟩ dX11_bears_68 (fun H locs hw => ?_)
                refine lv_if_eq (tgt := 78) S.1 S.2.1 dX11_bears_71 (by decide) (fun c_19 => ?_) (fun c_19 => ?_)
                · replace hV := hV.trans (if_pos c_19)
                  have gc_19 : ((b2i (m_hasPart u p1 x4_13))).toInt = 0 := xq_eq c_19 rfl rfl
                  refine lv_iconst (v := 0) S.1 S.2.1 dX11_bears_78 (by decide) ?_
                  refine lv_istore_n (lv' := [(3, .int (0 : Int32)), (0, .ref (a 0)), (1, .int p1), (2, .int p2), (4, .int x4_13)]) S.1 S.2.1 dX11_bears_79 rfl hl (by decide) rfl (fun ls hl => ?_)
                  refine lv_iinc (v := (x4_13 + (1 : Int32))) (lv' := [(4, .int (x4_13 + (1 : Int32))), (3, .int (0 : Int32)), (0, .ref (a 0)), (1, .int p1), (2, .int p2)]) S.1 S.2.1 dX11_bears_80 hl (k := 4) rfl rfl (by decide) rfl (fun ls hl => ?_)
                  refine lv_goto (tgt := 42) S.1 S.2.1 dX11_bears_83 (by decide) ?_
                  have e_20 : ∀ _ : Unit, ((x4_13 + (1 : Int32))).toInt = (x4_13).toInt + 1 := fun _ => xadd rfl rfl (by omega) (by omega)
                  exact ih_13 (0 : Int32) (x4_13 + (1 : Int32)) _ _ _ (show 0 ≤ ((x4_13 + (1 : Int32))).toInt from by rw [(e_20 ())]; omega) (show (0 = 0 ∨ 0 = 1) from by omega) (show ((u.1 0 0)).toInt - ((x4_13 + (1 : Int32))).toInt < (n_13 : Int) ∧ 1 ≤ n_13 from by rw [(e_20 ())]; omega) (lv_sub hl [2, 3, 4, 1, 0] rfl) hw hV
                · replace hV := hV.trans (if_neg c_19)
                  have gc_19 : ¬ ((b2i (m_hasPart u p1 x4_13))).toInt = 0 := xq_ne c_19 rfl rfl
                  refine lv_iconst (v := 1) S.1 S.2.1 dX11_bears_74 (by decide) ?_
                  refine lv_goto (tgt := 79) S.1 S.2.1 dX11_bears_75 (by decide) ?_
                  refine lv_istore_n (lv' := [(3, .int (1 : Int32)), (0, .ref (a 0)), (1, .int p1), (2, .int p2), (4, .int x4_13)]) S.1 S.2.1 dX11_bears_79 rfl hl (by decide) rfl (fun ls hl => ?_)
                  refine lv_iinc (v := (x4_13 + (1 : Int32))) (lv' := [(4, .int (x4_13 + (1 : Int32))), (3, .int (1 : Int32)), (0, .ref (a 0)), (1, .int p1), (2, .int p2)]) S.1 S.2.1 dX11_bears_80 hl (k := 4) rfl rfl (by decide) rfl (fun ls hl => ?_)
                  refine lv_goto (tgt := 42) S.1 S.2.1 dX11_bears_83 (by decide) ?_
                  have e_21 : ∀ _ : Unit, ((x4_13 + (1 : Int32))).toInt = (x4_13).toInt + 1 := fun _ => xadd rfl rfl (by omega) (by omega)
                  exact ih_13 (1 : Int32) (x4_13 + (1 : Int32)) _ _ _ (show 0 ≤ ((x4_13 + (1 : Int32))).toInt from by rw [(e_21 ())]; omega) (show (1 = 0 ∨ 1 = 1) from by omega) (show ((u.1 0 0)).toInt - ((x4_13 + (1 : Int32))).toInt < (n_13 : Int) ∧ 1 ≤ n_13 from by rw [(e_21 ())]; omega) (lv_sub hl [2, 3, 4, 1, 0] rfl) hw hV
      exact lp_13 9 (0 : Int32) (0 : Int32) _ _ _ (show 0 ≤ 0 from by omega) (show (0 = 0 ∨ 0 = 1) from by omega) (show ((u.1 0 0)).toInt - 0 < ((9 : Nat) : Int) ∧ 1 ≤ (9 : Nat) from by omega) (lv_sub hl [2, 3, 4, 1, 0] rfl) hw hV
    · replace hV := hV.trans (if_neg c_12)
      refine lv_iconst (v := 1) S.1 S.2.1 dX11_bears_33 (by decide) ?_
      refine lv_goto (tgt := 38) S.1 S.2.1 dX11_bears_34 (by decide) ?_
      refine lv_istore_n (lv' := [(3, .int (1 : Int32)), (0, .ref (a 0)), (1, .int p1), (2, .int p2)]) S.1 S.2.1 dX11_bears_38 rfl hl (by decide) rfl (fun ls hl => ?_)
      refine lv_iconst (v := 0) S.1 S.2.1 dX11_bears_39 (by decide) ?_
      refine lv_istore (lv' := [(4, .int (0 : Int32)), (3, .int (1 : Int32)), (0, .ref (a 0)), (1, .int p1), (2, .int p2)]) S.1 S.2.1 dX11_bears_40 hl (by decide) rfl (fun ls hl => ?_)
      have lp_22 : ∀ (n_22 : Nat) (x3_22 : Int32) (x4_22 : Int32) (H : Heap) (locs : List Loc) (ls : Array Slot), (0 ≤ (x4_22).toInt) → (((x3_22).toInt = 0 ∨ (x3_22).toInt = 1)) → (((u.1 0 0)).toInt - (x4_22).toInt < (n_22 : Int) ∧ 1 ≤ n_22) → lv_has ls 5 [(0, .ref (a 0)), (1, .int p1), (2, .int p2), (3, .int x3_22), (4, .int x4_22)] → xw D (wM a Y) A s.heap H locs u → V = m_bears_L42 u p1 p2 n_22 x3_22 x4_22 → W p l e (xRm 2 48) s m args below meth c H locs 0 0 (MQ below (va_Qi (fun r v => (r, v) = (b2i V, u)) (xPost D (wM a Y) A) A) args s 0 0 A) (F0 m 42 ls []) := by
        intro n_22
        induction n_22 with
        | zero => intro x3_22 x4_22 H locs ls i0_22 i1_22 hn; exact absurd hn.2 (by decide)
        | succ n_22 ih_22 =>
          intro x3_22 x4_22 H locs ls i0_22 i1_22 hn_22 hl hw hV
          refine lv_iload S.1 S.2.1 dX11_bears_42 (lv_at hl 4 rfl) ?_
          refine lv_aload_n S.1 S.2.1 dX11_bears_44 rfl (lv_at hl 0 rfl) ?_
          refine xget (v := .int (u.1 0 0)) S hK hw 0 rfl rfl inX11 0 (by decide) mfX11_68 rfl dX11_bears_45 ?_
          refine lv_icmp_ge (tgt := 86) S.1 S.2.1 dX11_bears_48 (by decide) (fun c_23 => ?_) (fun c_23 => ?_)
          · replace hV := hV.trans (if_pos c_23)
            have gc_23 : ((u.1 0 0)).toInt ≤ (x4_22).toInt := xq_le c_23 rfl rfl
            refine lv_iload_n S.1 S.2.1 dX11_bears_86 rfl (lv_at hl 3 rfl) ?_
            exact xrz S hr hlk hw (xbn (by omega)) ((congrArg (fun b => (b2i b, u)) hV).trans (by rw [xbb (by omega)])) dX11_bears_87
          · replace hV := hV.trans (if_neg c_23)
            have gc_23 : (x4_22).toInt < ((u.1 0 0)).toInt := xq_nle c_23 rfl rfl
            refine lv_iload_n S.1 S.2.1 dX11_bears_51 rfl (lv_at hl 3 rfl) ?_
            refine lv_if_eq (tgt := 78) S.1 S.2.1 dX11_bears_52 (by decide) (fun c_24 => ?_) (fun c_24 => ?_)
            · replace hV := hV.trans (if_pos c_24)
              have gc_24 : (x3_22).toInt = 0 := xq_eq c_24 rfl rfl
              refine lv_iconst (v := 0) S.1 S.2.1 dX11_bears_78 (by decide) ?_
              refine lv_istore_n (lv' := [(3, .int (0 : Int32)), (0, .ref (a 0)), (1, .int p1), (2, .int p2), (4, .int x4_22)]) S.1 S.2.1 dX11_bears_79 rfl hl (by decide) rfl (fun ls hl => ?_)
              refine lv_iinc (v := (x4_22 + (1 : Int32))) (lv' := [(4, .int (x4_22 + (1 : Int32))), (3, .int (0 : Int32)), (0, .ref (a 0)), (1, .int p1), (2, .int p2)]) S.1 S.2.1 dX11_bears_80 hl (k := 4) rfl rfl (by decide) rfl (fun ls hl => ?_)
              refine lv_goto (tgt := 42) S.1 S.2.1 dX11_bears_83 (by decide) ?_
              have e_25 : ∀ _ : Unit, ((x4_22 + (1 : Int32))).toInt = (x4_22).toInt + 1 := fun _ => xadd rfl rfl (by omega) (by omega)
              exact ih_22 (0 : Int32) (x4_22 + (1 : Int32)) _ _ _ (show 0 ≤ ((x4_22 + (1 : Int32))).toInt from by rw [(e_25 ())]; omega) (show (0 = 0 ∨ 0 = 1) from by omega) (show ((u.1 0 0)).toInt - ((x4_22 + (1 : Int32))).toInt < (n_22 : Int) ∧ 1 ≤ n_22 from by rw [(e_25 ())]; omega) (lv_sub hl [2, 3, 4, 1, 0] rfl) hw hV
            · replace hV := hV.trans (if_neg c_24)
              have gc_24 : ¬ (x3_22).toInt = 0 := xq_ne c_24 rfl rfl
              refine lv_iload_n S.1 S.2.1 dX11_bears_55 rfl (lv_at hl 2 rfl) ?_
              refine lv_iload S.1 S.2.1 dX11_bears_56 (lv_at hl 4 rfl) ?_
              refine xcP (rest := []) S hw yfX11_has (c_m_has l p2 x4_22) mlX11_140 rfl rfl hl.1 ⟨rfl, rfl, Nat.le_of_ble_eq_true rfl, Nat.le_of_ble_eq_true rfl, Nat.le_of_ble_eq_true rfl, Nat.zero_le _, Nat.zero_le _⟩ dX11_bears_58 (fun H locs hw => ?_)
              refine lv_if_eq (tgt := 74) S.1 S.2.1 dX11_bears_61 (by decide) (fun c_26 => ?_) (fun c_26 => ?_)
              · replace hV := hV.trans (if_pos c_26)
                have gc_26 : ((b2i (m_has p2 x4_22))).toInt = 0 := xq_eq c_26 rfl rfl
                refine lv_iconst (v := 1) S.1 S.2.1 dX11_bears_74 (by decide) ?_
                refine lv_goto (tgt := 79) S.1 S.2.1 dX11_bears_75 (by decide) ?_
                refine lv_istore_n (lv' := [(3, .int (1 : Int32)), (0, .ref (a 0)), (1, .int p1), (2, .int p2), (4, .int x4_22)]) S.1 S.2.1 dX11_bears_79 rfl hl (by decide) rfl (fun ls hl => ?_)
                refine lv_iinc (v := (x4_22 + (1 : Int32))) (lv' := [(4, .int (x4_22 + (1 : Int32))), (3, .int (1 : Int32)), (0, .ref (a 0)), (1, .int p1), (2, .int p2)]) S.1 S.2.1 dX11_bears_80 hl (k := 4) rfl rfl (by decide) rfl (fun ls hl => ?_)
                refine lv_goto (tgt := 42) S.1 S.2.1 dX11_bears_83 (by decide) ?_
                have e_27 : ∀ _ : Unit, ((x4_22 + (1 : Int32))).toInt = (x4_22).toInt + 1 := fun _ => xadd rfl rfl (by omega) (by omega)
                exact ih_22 (1 : Int32) (x4_22 + (1 : Int32)) _ _ _ (show 0 ≤ ((x4_22 + (1 : Int32))).toInt from by rw [(e_27 ())]; omega) (show (1 = 0 ∨ 1 = 1) from by omega) (show ((u.1 0 0)).toInt - ((x4_22 + (1 : Int32))).toInt < (n_22 : Int) ∧ 1 ≤ n_22 from by rw [(e_27 ())]; omega) (lv_sub hl [2, 3, 4, 1, 0] rfl) hw hV
              · replace hV := hV.trans (if_neg c_26)
                have gc_26 : ¬ ((b2i (m_has p2 x4_22))).toInt = 0 := xq_ne c_26 rfl rfl
                refine lv_aload_n S.1 S.2.1 dX11_bears_64 rfl (lv_at hl 0 rfl) ?_
                refine lv_iload_n S.1 S.2.1 dX11_bears_65 rfl (lv_at hl 1 rfl) ?_
                refine lv_iload S.1 S.2.1 dX11_bears_66 (lv_at hl 4 rfl) ?_
                refine xci (rest := []) S hK hE hA hw yfX11_hasPart (c_m_hasPart l D a Y ts _ p1 x4_22 (show (0 ≤ ((u.1 0 0)).toInt ∧ ((u.1 0 0)).toInt ≤ 8) from by omega) (show (0 ≤ ((u.1 0 5)).toInt ∧ ((u.1 0 5)).toInt ≤ 6) from by omega) (show 0 ≤ (p1).toInt ∧ (p1).toInt < 6 from by omega) (show 0 ≤ (x4_22).toInt ∧ (x4_22).toInt < 8 from by omega)) 0 rfl rfl mlX11_150 rfl rfl hl.1 ⟨rfl, rfl, Nat.le_of_ble_eq_true rfl, Nat.le_of_ble_eq_true rfl, Nat.le_of_ble_eq_true rfl, Nat.zero_le _, Nat.zero_le _⟩ dX11_bears_68 (fun H locs hw => ?_)
                refine lv_if_eq (tgt := 78) S.1 S.2.1 dX11_bears_71 (by decide) (fun c_28 => ?_) (fun c_28 => ?_)
                · replace hV := hV.trans (if_pos c_28)
                  have gc_28 : ((b2i (m_hasPart u p1 x4_22))).toInt = 0 := xq_eq c_28 rfl rfl
                  refine lv_iconst (v := 0) S.1 S.2.1 dX11_bears_78 (by decide) ?_
                  refine lv_istore_n (lv' := [(3, .int (0 : Int32)), (0, .ref (a 0)), (1, .int p1), (2, .int p2), (4, .int x4_22)]) S.1 S.2.1 dX11_bears_79 rfl hl (by decide) rfl (fun ls hl => ?_)
                  refine lv_iinc (v := (x4_22 + (1 : Int32))) (lv' := [(4, .int (x4_22 + (1 : Int32))), (3, .int (0 : Int32)), (0, .ref (a 0)), (1, .int p1), (2, .int p2)]) S.1 S.2.1 dX11_bears_80 hl (k := 4) rfl rfl (by decide) rfl (fun ls hl => ?_)
                  refine lv_goto (tgt := 42) S.1 S.2.1 dX11_bears_83 (by decide) ?_
                  have e_29 : ∀ _ : Unit, ((x4_22 + (1 : Int32))).toInt = (x4_22).toInt + 1 := fun _ => xadd rfl rfl (by omega) (by omega)
                  exact ih_22 (0 : Int32) (x4_22 + (1 : Int32)) _ _ _ (show 0 ≤ ((x4_22 + (1 : Int32))).toInt from by rw [(e_29 ())]; omega) (show (0 = 0 ∨ 0 = 1) from by omega) (show ((u.1 0 0)).toInt - ((x4_22 + (1 : Int32))).toInt < (n_22 : Int) ∧ 1 ≤ n_22 from by rw [(e_29 ())]; omega) (lv_sub hl [2, 3, 4, 1, 0] rfl) hw hV
                · replace hV := hV.trans (if_neg c_28)
                  have gc_28 : ¬ ((b2i (m_hasPart u p1 x4_22))).toInt = 0 := xq_ne c_28 rfl rfl
                  refine lv_iconst (v := 1) S.1 S.2.1 dX11_bears_74 (by decide) ?_
                  refine lv_goto (tgt := 79) S.1 S.2.1 dX11_bears_75 (by decide) ?_
                  refine lv_istore_n (lv' := [(3, .int (1 : Int32)), (0, .ref (a 0)), (1, .int p1), (2, .int p2), (4, .int x4_22)]) S.1 S.2.1 dX11_bears_79 rfl hl (by decide) rfl (fun ls hl => ?_)
                  refine lv_iinc (v := (x4_22 + (1 : Int32))) (lv' := [(4, .int (x4_22 + (1 : Int32))), (3, .int (1 : Int32)), (0, .ref (a 0)), (1, .int p1), (2, .int p2)]) S.1 S.2.1 dX11_bears_80 hl (k := 4) rfl rfl (by decide) rfl (fun ls hl => ?_)
                  refine lv_goto (tgt := 42) S.1 S.2.1 dX11_bears_83 (by decide) ?_
                  have e_30 : ∀ _ : Unit, ((x4_22 + (1 : Int32))).toInt = (x4_22).toInt + 1 := fun _ => xadd rfl rfl (by omega) (by omega)
                  exact ih_22 (1 : Int32) (x4_22 + (1 : Int32)) _ _ _ (show 0 ≤ ((x4_22 + (1 : Int32))).toInt from by rw [(e_30 ())]; omega) (show (1 = 0 ∨ 1 = 1) from by omega) (show ((u.1 0 0)).toInt - ((x4_22 + (1 : Int32))).toInt < (n_22 : Int) ∧ 1 ≤ n_22 from by rw [(e_30 ())]; omega) (lv_sub hl [2, 3, 4, 1, 0] rfl) hw hV
      exact lp_22 9 (1 : Int32) (0 : Int32) _ _ _ (show 0 ≤ 0 from by omega) (show (1 = 0 ∨ 1 = 1) from by omega) (show ((u.1 0 0)).toInt - 0 < ((9 : Nat) : Int) ∧ 1 ≤ (9 : Nat) from by omega) (lv_sub hl [2, 3, 4, 1, 0] rfl) hw hV
def m_wanted_L7 (w : xU) (x1 : Int32) : Nat → Int32 → Int32 → Int32
  | 0, _, _ => 0
  | n + 1, x3, x4 =>
    (if x4 < (0 : Int32) then
    x3
    else
    (if (b2i (m_has x3 x4)) = (0 : Int32) then
    m_wanted_L7 w x1 n (x3 ||| (0 : Int32)) (x4 + (-1 : Int32))
    else
    let t_6 := (x3 ||| ((w.1 4 (x4).toNatClampNeg) &&& ((w.1 7 (((49 : Int32) + x1)).toNatClampNeg) ^^^ (-1 : Int32))))
    m_wanted_L7 w x1 n t_6 (x4 + (-1 : Int32))))
def m_wanted (u : xU) (p1 : Int32) (p2 : Int32) : Int32 :=
    m_wanted_L7 u p1 9 ((1 : Int32) <<< (p2 &&& 31)) p2
set_option maxHeartbeats 4000000 in
set_option maxRecDepth 100000 in
theorem c_m_wanted (l : Launch) (D : va_G) (a : Nat → Nat) (Y : Nat → ClassId) (ts : Nat → Nat) (u : xU) (p1 : Int32) (p2 : Int32) (hT : (0 ≤ ((u.1 0 0)).toInt ∧ ((u.1 0 0)).toInt ≤ 8)) (hC : (0 ≤ ((u.1 0 5)).toInt ∧ ((u.1 0 5)).toInt ≤ 6)) (hp0 : 0 ≤ (p1).toInt ∧ (p1).toInt < 6) (hp1 : 0 ≤ (p2).toInt ∧ (p2).toInt < 8) : xMi l yX11_wanted cX11_wanted 5 (some .int) (xRm 1 21) D (xty Y) (wM a Y) ts [.ref (a 0), .int p1, .int p2] u ((m_wanted u p1 p2), u) := by
  suffices h : ∀ V, V = m_wanted u p1 p2 → xMi l yX11_wanted cX11_wanted 5 (some .int) (xRm 1 21) D (xty Y) (wM a Y) ts [.ref (a 0), .int p1, .int p2] u (V, u) from h _ rfl
  intro V hV
  refine xofi RX11 rfl (by decide) (Nat.le_of_ble_eq_true rfl) ?_
  intro p e s m args below meth c ls H locs A S hr hlk hl hK hE hA hw
  have hl : lv_has ls 5 [(0, .ref (a 0)), (1, .int p1), (2, .int p2)] := hl
  refine lv_iconst (v := 1) S.1 S.2.1 dX11_wanted_0 (by decide) ?_
  refine lv_iload_n S.1 S.2.1 dX11_wanted_1 rfl (lv_at hl 2 rfl) ?_
  refine lv_ishl S.1 S.2.1 dX11_wanted_2 ?_
  refine lv_istore_n (lv' := [(3, .int ((1 : Int32) <<< (p2 &&& 31))), (0, .ref (a 0)), (1, .int p1), (2, .int p2)]) S.1 S.2.1 dX11_wanted_3 rfl hl (by decide) rfl (fun ls hl => ?_)
  refine lv_iload_n S.1 S.2.1 dX11_wanted_4 rfl (lv_at hl 3 rfl) ?_
  refine lv_istore (lv' := [(4, .int p2), (3, .int ((1 : Int32) <<< (p2 &&& 31))), (0, .ref (a 0)), (1, .int p1), (2, .int p2)]) S.1 S.2.1 dX11_wanted_5 hl (by decide) rfl (fun ls hl => ?_)
  have lp_1 : ∀ (n_1 : Nat) (x3_1 : Int32) (x4_1 : Int32) (H : Heap) (locs : List Loc) (ls : Array Slot), (-1 ≤ (x4_1).toInt ∧ (x4_1).toInt ≤ (p2).toInt) → ((x4_1).toInt + 1 < (n_1 : Int) ∧ 1 ≤ n_1) → lv_has ls 5 [(0, .ref (a 0)), (1, .int p1), (3, .int x3_1), (4, .int x4_1)] → xw D (wM a Y) A s.heap H locs u → V = m_wanted_L7 u p1 n_1 x3_1 x4_1 → W p l e (xRm 1 21) s m args below meth c H locs 0 0 (MQ below (va_Qi (fun r v => (r, v) = (V, u)) (xPost D (wM a Y) A) A) args s 0 0 A) (F0 m 7 ls []) := by
    intro n_1
    induction n_1 with
    | zero => intro x3_1 x4_1 H locs ls i0_1 hn; exact absurd hn.2 (by decide)
    | succ n_1 ih_1 =>
      intro x3_1 x4_1 H locs ls i0_1 hn_1 hl hw hV
      refine lv_iload S.1 S.2.1 dX11_wanted_7 (lv_at hl 3 rfl) ?_
      refine lv_if_lt (tgt := 53) S.1 S.2.1 dX11_wanted_9 (by decide) (fun c_2 => ?_) (fun c_2 => ?_)
      · replace hV := hV.trans (if_pos c_2)
        have gc_2 : (x4_1).toInt < 0 := xq_lt c_2 rfl rfl
        refine lv_iload_n S.1 S.2.1 dX11_wanted_53 rfl (lv_at hl 2 rfl) ?_
        exact xri S hr hlk hw (congrArg (fun b => (b, u)) hV) dX11_wanted_54
      · replace hV := hV.trans (if_neg c_2)
        have gc_2 : 0 ≤ (x4_1).toInt := xq_nlt c_2 rfl rfl
        refine lv_iload_n S.1 S.2.1 dX11_wanted_12 rfl (lv_at hl 2 rfl) ?_
        refine lv_iload_n S.1 S.2.1 dX11_wanted_13 rfl (lv_at hl 2 rfl) ?_
        refine lv_iload S.1 S.2.1 dX11_wanted_14 (lv_at hl 3 rfl) ?_
        refine xcP (rest := [.int x3_1]) S hw yfX11_has (c_m_has l x3_1 x4_1) mlX11_140 rfl rfl hl.1 ⟨rfl, rfl, Nat.le_of_ble_eq_true rfl, Nat.le_of_ble_eq_true rfl, Nat.le_of_ble_eq_true rfl, Nat.zero_le _, Nat.zero_le _⟩ dX11_wanted_16 (fun H locs hw => ?_)
        refine lv_if_eq (tgt := 44) S.1 S.2.1 dX11_wanted_19 (by decide) (fun c_3 => ?_) (fun c_3 => ?_)
        · replace hV := hV.trans (if_pos c_3)
          have gc_3 : ((b2i (m_has x3_1 x4_1))).toInt = 0 := xq_eq c_3 rfl rfl
          refine lv_iconst (v := 0) S.1 S.2.1 dX11_wanted_44 (by decide) ?_
          refine lv_ior S.1 S.2.1 dX11_wanted_45 ?_
          refine lv_istore_n (lv' := [(3, .int (x3_1 ||| (0 : Int32))), (0, .ref (a 0)), (1, .int p1), (4, .int x4_1)]) S.1 S.2.1 dX11_wanted_46 rfl hl (by decide) rfl (fun ls hl => ?_)
          refine lv_iinc (v := (x4_1 + (-1 : Int32))) (lv' := [(4, .int (x4_1 + (-1 : Int32))), (3, .int (x3_1 ||| (0 : Int32))), (0, .ref (a 0)), (1, .int p1)]) S.1 S.2.1 dX11_wanted_47 hl (k := 3) rfl rfl (by decide) rfl (fun ls hl => ?_)
          refine lv_goto (tgt := 7) S.1 S.2.1 dX11_wanted_50 (by decide) ?_
          have e_4 : ∀ _ : Unit, ((x4_1 + (-1 : Int32))).toInt = (x4_1).toInt + (-1) := fun _ => xadd rfl rfl (by omega) (by omega)
          exact ih_1 (x3_1 ||| (0 : Int32)) (x4_1 + (-1 : Int32)) _ _ _ (show -1 ≤ ((x4_1 + (-1 : Int32))).toInt ∧ ((x4_1 + (-1 : Int32))).toInt ≤ (p2).toInt from by rw [(e_4 ())]; omega) (show ((x4_1 + (-1 : Int32))).toInt + 1 < (n_1 : Int) ∧ 1 ≤ n_1 from by rw [(e_4 ())]; omega) (lv_sub hl [2, 3, 1, 0] rfl) hw hV
        · replace hV := hV.trans (if_neg c_3)
          have gc_3 : ¬ ((b2i (m_has x3_1 x4_1))).toInt = 0 := xq_ne c_3 rfl rfl
          refine lv_aload_n S.1 S.2.1 dX11_wanted_22 rfl (lv_at hl 0 rfl) ?_
          refine xget (v := .ref (a 4)) S hK hw 0 rfl rfl inX11 4 (by decide) mfX11_19 rfl dX11_wanted_23 ?_
          refine lv_iload S.1 S.2.1 dX11_wanted_26 (lv_at hl 3 rfl) ?_
          refine xald (f := u.1 4) S hK hw 4 0 rfl rfl (xvi rfl (by omega) (by omega)) dX11_wanted_28 ?_
          refine lv_aload_n S.1 S.2.1 dX11_wanted_29 rfl (lv_at hl 0 rfl) ?_
          refine xget (v := .ref (a 7)) S hK hw 0 rfl rfl inX11 8 (by decide) mfX11_28 rfl dX11_wanted_30 ?_
          refine lv_bipush (v := 49) S.1 S.2.1 dX11_wanted_33 (by decide) ?_
          refine lv_iload_n S.1 S.2.1 dX11_wanted_35 rfl (lv_at hl 1 rfl) ?_
          refine lv_iadd S.1 S.2.1 dX11_wanted_36 ?_
          have e_5 : ∀ _ : Unit, (((49 : Int32) + p1)).toInt = 49 + (p1).toInt := fun _ => xadd rfl rfl (by omega) (by omega)
          refine xald (f := u.1 7) S hK hw 7 0 rfl rfl (xvi (e_5 ()) (by omega) (by omega)) dX11_wanted_37 ?_
          refine lv_iconst (v := -1) S.1 S.2.1 dX11_wanted_38 (by decide) ?_
          refine lv_ixor S.1 S.2.1 dX11_wanted_39 ?_
          refine lv_iand S.1 S.2.1 dX11_wanted_40 ?_
          refine lv_goto (tgt := 45) S.1 S.2.1 dX11_wanted_41 (by decide) ?_
          refine lv_ior S.1 S.2.1 dX11_wanted_45 ?_
          refine lv_istore_n (lv' := [(3, .int (x3_1 ||| ((u.1 4 (x4_1).toNatClampNeg) &&& ((u.1 7 (((49 : Int32) + p1)).toNatClampNeg) ^^^ (-1 : Int32))))), (0, .ref (a 0)), (1, .int p1), (4, .int x4_1)]) S.1 S.2.1 dX11_wanted_46 rfl hl (by decide) rfl (fun ls hl => ?_)
          refine lv_iinc (v := (x4_1 + (-1 : Int32))) (lv' := [(4, .int (x4_1 + (-1 : Int32))), (3, .int (x3_1 ||| ((u.1 4 (x4_1).toNatClampNeg) &&& ((u.1 7 (((49 : Int32) + p1)).toNatClampNeg) ^^^ (-1 : Int32))))), (0, .ref (a 0)), (1, .int p1)]) S.1 S.2.1 dX11_wanted_47 hl (k := 3) rfl rfl (by decide) rfl (fun ls hl => ?_)
          refine lv_goto (tgt := 7) S.1 S.2.1 dX11_wanted_50 (by decide) ?_
          have e_7 : ∀ _ : Unit, ((x4_1 + (-1 : Int32))).toInt = (x4_1).toInt + (-1) := fun _ => xadd rfl rfl (by omega) (by omega)
          exact ih_1 (x3_1 ||| ((u.1 4 (x4_1).toNatClampNeg) &&& ((u.1 7 (((49 : Int32) + p1)).toNatClampNeg) ^^^ (-1 : Int32)))) (x4_1 + (-1 : Int32)) _ _ _ (show -1 ≤ ((x4_1 + (-1 : Int32))).toInt ∧ ((x4_1 + (-1 : Int32))).toInt ≤ (p2).toInt from by rw [(e_7 ())]; omega) (show ((x4_1 + (-1 : Int32))).toInt + 1 < (n_1 : Int) ∧ 1 ≤ n_1 from by rw [(e_7 ())]; omega) (lv_sub hl [2, 3, 1, 0] rfl) hw hV
  exact lp_1 9 ((1 : Int32) <<< (p2 &&& 31)) p2 _ _ _ (show -1 ≤ (p2).toInt ∧ (p2).toInt ≤ (p2).toInt from by omega) (show (p2).toInt + 1 < ((9 : Nat) : Int) ∧ 1 ≤ (9 : Nat) from by omega) (lv_sub hl [2, 3, 1, 0] rfl) hw hV
def m_isWhole_L23 (w : xU) (x1 : Int32) (x2 : Int32) : Nat → Int32 → Int32 → Bool
  | 0, _, _ => false
  | n + 1, x3, x4 =>
    (if (w.1 0 0) ≤ x4 then
    (x3 != 0)
    else
    (if x3 = (0 : Int32) then
    m_isWhole_L23 w x1 x2 n (0 : Int32) (x4 + (1 : Int32))
    else
    (if (b2i (m_has x2 x4)) = (0 : Int32) then
    m_isWhole_L23 w x1 x2 n (1 : Int32) (x4 + (1 : Int32))
    else
    (if (((w.1 4 (x4).toNatClampNeg) &&& ((w.1 7 (((49 : Int32) + x1)).toNatClampNeg) ^^^ (-1 : Int32))) &&& (x2 ^^^ (-1 : Int32))) = (0 : Int32) then
    m_isWhole_L23 w x1 x2 n (1 : Int32) (x4 + (1 : Int32))
    else
    m_isWhole_L23 w x1 x2 n (0 : Int32) (x4 + (1 : Int32))))))
def m_isWhole (u : xU) (p1 : Int32) (p2 : Int32) : Bool :=
    (if (p2 &&& (u.1 7 (((49 : Int32) + p1)).toNatClampNeg)) = (0 : Int32) then
    m_isWhole_L23 u p1 p2 9 (1 : Int32) (0 : Int32)
    else
    m_isWhole_L23 u p1 p2 9 (0 : Int32) (0 : Int32))
set_option maxHeartbeats 4000000 in
set_option maxRecDepth 100000 in
theorem c_m_isWhole (l : Launch) (D : va_G) (a : Nat → Nat) (Y : Nat → ClassId) (ts : Nat → Nat) (u : xU) (p1 : Int32) (p2 : Int32) (hT : (0 ≤ ((u.1 0 0)).toInt ∧ ((u.1 0 0)).toInt ≤ 8)) (hC : (0 ≤ ((u.1 0 5)).toInt ∧ ((u.1 0 5)).toInt ≤ 6)) (hp0 : 0 ≤ (p1).toInt ∧ (p1).toInt < 6) : xMi l yX11_isWhole cX11_isWhole 5 (some .boolean) (xRm 1 21) D (xty Y) (wM a Y) ts [.ref (a 0), .int p1, .int p2] u (b2i (m_isWhole u p1 p2), u) := by
  suffices h : ∀ V, V = m_isWhole u p1 p2 → xMi l yX11_isWhole cX11_isWhole 5 (some .boolean) (xRm 1 21) D (xty Y) (wM a Y) ts [.ref (a 0), .int p1, .int p2] u (b2i V, u) from h _ rfl
  intro V hV
  refine xofi RX11 rfl (by decide) (Nat.le_of_ble_eq_true rfl) ?_
  intro p e s m args below meth c ls H locs A S hr hlk hl hK hE hA hw
  have hl : lv_has ls 5 [(0, .ref (a 0)), (1, .int p1), (2, .int p2)] := hl
  refine lv_iload_n S.1 S.2.1 dX11_isWhole_0 rfl (lv_at hl 2 rfl) ?_
  refine lv_aload_n S.1 S.2.1 dX11_isWhole_1 rfl (lv_at hl 0 rfl) ?_
  refine xget (v := .ref (a 7)) S hK hw 0 rfl rfl inX11 8 (by decide) mfX11_28 rfl dX11_isWhole_2 ?_
  refine lv_bipush (v := 49) S.1 S.2.1 dX11_isWhole_5 (by decide) ?_
  refine lv_iload_n S.1 S.2.1 dX11_isWhole_7 rfl (lv_at hl 1 rfl) ?_
  refine lv_iadd S.1 S.2.1 dX11_isWhole_8 ?_
  have e_1 : ∀ _ : Unit, (((49 : Int32) + p1)).toInt = 49 + (p1).toInt := fun _ => xadd rfl rfl (by omega) (by omega)
  refine xald (f := u.1 7) S hK hw 7 0 rfl rfl (xvi (e_1 ()) (by omega) (by omega)) dX11_isWhole_9 ?_
  refine lv_iand S.1 S.2.1 dX11_isWhole_10 ?_
  refine lv_if_ne (tgt := 18) S.1 S.2.1 dX11_isWhole_11 (by decide) (fun c_2 => ?_) (fun c_2 => ?_)
  · replace hV := hV.trans (if_neg c_2)
    refine lv_iconst (v := 0) S.1 S.2.1 dX11_isWhole_18 (by decide) ?_
    refine lv_istore_n (lv' := [(3, .int (0 : Int32)), (0, .ref (a 0)), (1, .int p1), (2, .int p2)]) S.1 S.2.1 dX11_isWhole_19 rfl hl (by decide) rfl (fun ls hl => ?_)
    refine lv_iconst (v := 0) S.1 S.2.1 dX11_isWhole_20 (by decide) ?_
    refine lv_istore (lv' := [(4, .int (0 : Int32)), (3, .int (0 : Int32)), (0, .ref (a 0)), (1, .int p1), (2, .int p2)]) S.1 S.2.1 dX11_isWhole_21 hl (by decide) rfl (fun ls hl => ?_)
    have lp_3 : ∀ (n_3 : Nat) (x3_3 : Int32) (x4_3 : Int32) (H : Heap) (locs : List Loc) (ls : Array Slot), (0 ≤ (x4_3).toInt) → (((x3_3).toInt = 0 ∨ (x3_3).toInt = 1)) → (((u.1 0 0)).toInt - (x4_3).toInt < (n_3 : Int) ∧ 1 ≤ n_3) → lv_has ls 5 [(0, .ref (a 0)), (1, .int p1), (2, .int p2), (3, .int x3_3), (4, .int x4_3)] → xw D (wM a Y) A s.heap H locs u → V = m_isWhole_L23 u p1 p2 n_3 x3_3 x4_3 → W p l e (xRm 1 21) s m args below meth c H locs 0 0 (MQ below (va_Qi (fun r v => (r, v) = (b2i V, u)) (xPost D (wM a Y) A) A) args s 0 0 A) (F0 m 23 ls []) := by
      intro n_3
      induction n_3 with
      | zero => intro x3_3 x4_3 H locs ls i0_3 i1_3 hn; exact absurd hn.2 (by decide)
      | succ n_3 ih_3 =>
        intro x3_3 x4_3 H locs ls i0_3 i1_3 hn_3 hl hw hV
        refine lv_iload S.1 S.2.1 dX11_isWhole_23 (lv_at hl 4 rfl) ?_
        refine lv_aload_n S.1 S.2.1 dX11_isWhole_25 rfl (lv_at hl 0 rfl) ?_
        refine xget (v := .int (u.1 0 0)) S hK hw 0 rfl rfl inX11 0 (by decide) mfX11_68 rfl dX11_isWhole_26 ?_
        refine lv_icmp_ge (tgt := 83) S.1 S.2.1 dX11_isWhole_29 (by decide) (fun c_4 => ?_) (fun c_4 => ?_)
        · replace hV := hV.trans (if_pos c_4)
          have gc_4 : ((u.1 0 0)).toInt ≤ (x4_3).toInt := xq_le c_4 rfl rfl
          refine lv_iload_n S.1 S.2.1 dX11_isWhole_83 rfl (lv_at hl 3 rfl) ?_
          exact xrz S hr hlk hw (xbn (by omega)) ((congrArg (fun b => (b2i b, u)) hV).trans (by rw [xbb (by omega)])) dX11_isWhole_84
        · replace hV := hV.trans (if_neg c_4)
          have gc_4 : (x4_3).toInt < ((u.1 0 0)).toInt := xq_nle c_4 rfl rfl
          refine lv_iload_n S.1 S.2.1 dX11_isWhole_32 rfl (lv_at hl 3 rfl) ?_
          refine lv_if_eq (tgt := 75) S.1 S.2.1 dX11_isWhole_33 (by decide) (fun c_5 => ?_) (fun c_5 => ?_)
          · replace hV := hV.trans (if_pos c_5)
            have gc_5 : (x3_3).toInt = 0 := xq_eq c_5 rfl rfl
            refine lv_iconst (v := 0) S.1 S.2.1 dX11_isWhole_75 (by decide) ?_
            refine lv_istore_n (lv' := [(3, .int (0 : Int32)), (0, .ref (a 0)), (1, .int p1), (2, .int p2), (4, .int x4_3)]) S.1 S.2.1 dX11_isWhole_76 rfl hl (by decide) rfl (fun ls hl => ?_)
            refine lv_iinc (v := (x4_3 + (1 : Int32))) (lv' := [(4, .int (x4_3 + (1 : Int32))), (3, .int (0 : Int32)), (0, .ref (a 0)), (1, .int p1), (2, .int p2)]) S.1 S.2.1 dX11_isWhole_77 hl (k := 4) rfl rfl (by decide) rfl (fun ls hl => ?_)
            refine lv_goto (tgt := 23) S.1 S.2.1 dX11_isWhole_80 (by decide) ?_
            have e_6 : ∀ _ : Unit, ((x4_3 + (1 : Int32))).toInt = (x4_3).toInt + 1 := fun _ => xadd rfl rfl (by omega) (by omega)
            exact ih_3 (0 : Int32) (x4_3 + (1 : Int32)) _ _ _ (show 0 ≤ ((x4_3 + (1 : Int32))).toInt from by rw [(e_6 ())]; omega) (show (0 = 0 ∨ 0 = 1) from by omega) (show ((u.1 0 0)).toInt - ((x4_3 + (1 : Int32))).toInt < (n_3 : Int) ∧ 1 ≤ n_3 from by rw [(e_6 ())]; omega) (lv_sub hl [2, 3, 4, 1, 0] rfl) hw hV
          · replace hV := hV.trans (if_neg c_5)
            have gc_5 : ¬ (x3_3).toInt = 0 := xq_ne c_5 rfl rfl
            refine lv_iload_n S.1 S.2.1 dX11_isWhole_36 rfl (lv_at hl 2 rfl) ?_
            refine lv_iload S.1 S.2.1 dX11_isWhole_37 (lv_at hl 4 rfl) ?_
            refine xcP (rest := []) S hw yfX11_has (c_m_has l p2 x4_3) mlX11_140 rfl rfl hl.1 ⟨rfl, rfl, Nat.le_of_ble_eq_true rfl, Nat.le_of_ble_eq_true rfl, Nat.le_of_ble_eq_true rfl, Nat.zero_le _, Nat.zero_le _⟩ dX11_isWhole_39 (fun H locs hw => ?_)
            refine lv_if_eq (tgt := 71) S.1 S.2.1 dX11_isWhole_42 (by decide) (fun c_7 => ?_) (fun c_7 => ?_)
            · replace hV := hV.trans (if_pos c_7)
              have gc_7 : ((b2i (m_has p2 x4_3))).toInt = 0 := xq_eq c_7 rfl rfl
              refine lv_iconst (v := 1) S.1 S.2.1 dX11_isWhole_71 (by decide) ?_
              refine lv_goto (tgt := 76) S.1 S.2.1 dX11_isWhole_72 (by decide) ?_
              refine lv_istore_n (lv' := [(3, .int (1 : Int32)), (0, .ref (a 0)), (1, .int p1), (2, .int p2), (4, .int x4_3)]) S.1 S.2.1 dX11_isWhole_76 rfl hl (by decide) rfl (fun ls hl => ?_)
              refine lv_iinc (v := (x4_3 + (1 : Int32))) (lv' := [(4, .int (x4_3 + (1 : Int32))), (3, .int (1 : Int32)), (0, .ref (a 0)), (1, .int p1), (2, .int p2)]) S.1 S.2.1 dX11_isWhole_77 hl (k := 4) rfl rfl (by decide) rfl (fun ls hl => ?_)
              refine lv_goto (tgt := 23) S.1 S.2.1 dX11_isWhole_80 (by decide) ?_
              have e_8 : ∀ _ : Unit, ((x4_3 + (1 : Int32))).toInt = (x4_3).toInt + 1 := fun _ => xadd rfl rfl (by omega) (by omega)
              exact ih_3 (1 : Int32) (x4_3 + (1 : Int32)) _ _ _ (show 0 ≤ ((x4_3 + (1 : Int32))).toInt from by rw [(e_8 ())]; omega) (show (1 = 0 ∨ 1 = 1) from by omega) (show ((u.1 0 0)).toInt - ((x4_3 + (1 : Int32))).toInt < (n_3 : Int) ∧ 1 ≤ n_3 from by rw [(e_8 ())]; omega) (lv_sub hl [2, 3, 4, 1, 0] rfl) hw hV
            · replace hV := hV.trans (if_neg c_7)
              have gc_7 : ¬ ((b2i (m_has p2 x4_3))).toInt = 0 := xq_ne c_7 rfl rfl
              refine lv_aload_n S.1 S.2.1 dX11_isWhole_45 rfl (lv_at hl 0 rfl) ?_
              refine xget (v := .ref (a 4)) S hK hw 0 rfl rfl inX11 4 (by decide) mfX11_19 rfl dX11_isWhole_46 ?_
              refine lv_iload S.1 S.2.1 dX11_isWhole_49 (lv_at hl 4 rfl) ?_
              refine xald (f := u.1 4) S hK hw 4 0 rfl rfl (xvi rfl (by omega) (by omega)) dX11_isWhole_51 ?_
              refine lv_aload_n S.1 S.2.1 dX11_isWhole_52 rfl (lv_at hl 0 rfl) ?_
              refine xget (v := .ref (a 7)) S hK hw 0 rfl rfl inX11 8 (by decide) mfX11_28 rfl dX11_isWhole_53 ?_
              refine lv_bipush (v := 49) S.1 S.2.1 dX11_isWhole_56 (by decide) ?_
              refine lv_iload_n S.1 S.2.1 dX11_isWhole_58 rfl (lv_at hl 1 rfl) ?_
              refine lv_iadd S.1 S.2.1 dX11_isWhole_59 ?_
              refine xald (f := u.1 7) S hK hw 7 0 rfl rfl (xvi (e_1 ()) (by omega) (by omega)) dX11_isWhole_60 ?_
              refine lv_iconst (v := -1) S.1 S.2.1 dX11_isWhole_61 (by decide) ?_
              refine lv_ixor S.1 S.2.1 dX11_isWhole_62 ?_
              refine lv_iand S.1 S.2.1 dX11_isWhole_63 ?_
              refine lv_iload_n S.1 S.2.1 dX11_isWhole_64 rfl (lv_at hl 2 rfl) ?_
              refine lv_iconst (v := -1) S.1 S.2.1 dX11_isWhole_65 (by decide) ?_
              refine lv_ixor S.1 S.2.1 dX11_isWhole_66 ?_
              refine lv_iand S.1 S.2.1 dX11_isWhole_67 ?_
              refine lv_if_ne (tgt := 75) S.1 S.2.1 dX11_isWhole_68 (by decide) (fun c_9 => ?_) (fun c_9 => ?_)
              · replace hV := hV.trans (if_neg c_9)
                refine lv_iconst (v := 0) S.1 S.2.1 dX11_isWhole_75 (by decide) ?_
                refine lv_istore_n (lv' := [(3, .int (0 : Int32)), (0, .ref (a 0)), (1, .int p1), (2, .int p2), (4, .int x4_3)]) S.1 S.2.1 dX11_isWhole_76 rfl hl (by decide) rfl (fun ls hl => ?_)
                refine lv_iinc (v := (x4_3 + (1 : Int32))) (lv' := [(4, .int (x4_3 + (1 : Int32))), (3, .int (0 : Int32)), (0, .ref (a 0)), (1, .int p1), (2, .int p2)]) S.1 S.2.1 dX11_isWhole_77 hl (k := 4) rfl rfl (by decide) rfl (fun ls hl => ?_)
                refine lv_goto (tgt := 23) S.1 S.2.1 dX11_isWhole_80 (by decide) ?_
                have e_10 : ∀ _ : Unit, ((x4_3 + (1 : Int32))).toInt = (x4_3).toInt + 1 := fun _ => xadd rfl rfl (by omega) (by omega)
                exact ih_3 (0 : Int32) (x4_3 + (1 : Int32)) _ _ _ (show 0 ≤ ((x4_3 + (1 : Int32))).toInt from by rw [(e_10 ())]; omega) (show (0 = 0 ∨ 0 = 1) from by omega) (show ((u.1 0 0)).toInt - ((x4_3 + (1 : Int32))).toInt < (n_3 : Int) ∧ 1 ≤ n_3 from by rw [(e_10 ())]; omega) (lv_sub hl [2, 3, 4, 1, 0] rfl) hw hV
              · replace hV := hV.trans (if_pos c_9)
                refine lv_iconst (v := 1) S.1 S.2.1 dX11_isWhole_71 (by decide) ?_
                refine lv_goto (tgt := 76) S.1 S.2.1 dX11_isWhole_72 (by decide) ?_
                refine lv_istore_n (lv' := [(3, .int (1 : Int32)), (0, .ref (a 0)), (1, .int p1), (2, .int p2), (4, .int x4_3)]) S.1 S.2.1 dX11_isWhole_76 rfl hl (by decide) rfl (fun ls hl => ?_)
                refine lv_iinc (v := (x4_3 + (1 : Int32))) (lv' := [(4, .int (x4_3 + (1 : Int32))), (3, .int (1 : Int32)), (0, .ref (a 0)), (1, .int p1), (2, .int p2)]) S.1 S.2.1 dX11_isWhole_77 hl (k := 4) rfl rfl (by decide) rfl (fun ls hl => ?_)
                refine lv_goto (tgt := 23) S.1 S.2.1 dX11_isWhole_80 (by decide) ?_
                have e_11 : ∀ _ : Unit, ((x4_3 + (1 : Int32))).toInt = (x4_3).toInt + 1 := fun _ => xadd rfl rfl (by omega) (by omega)
                exact ih_3 (1 : Int32) (x4_3 + (1 : Int32)) _ _ _ (show 0 ≤ ((x4_3 + (1 : Int32))).toInt from by rw [(e_11 ())]; omega) (show (1 = 0 ∨ 1 = 1) from by omega) (show ((u.1 0 0)).toInt - ((x4_3 + (1 : Int32))).toInt < (n_3 : Int) ∧ 1 ≤ n_3 from by rw [(e_11 ())]; omega) (lv_sub hl [2, 3, 4, 1, 0] rfl) hw hV
    exact lp_3 9 (0 : Int32) (0 : Int32) _ _ _ (show 0 ≤ 0 from by omega) (show (0 = 0 ∨ 0 = 1) from by omega) (show ((u.1 0 0)).toInt - 0 < ((9 : Nat) : Int) ∧ 1 ≤ (9 : Nat) from by omega) (lv_sub hl [2, 3, 4, 1, 0] rfl) hw hV
  · replace hV := hV.trans (if_pos c_2)
    refine lv_iconst (v := 1) S.1 S.2.1 dX11_isWhole_14 (by decide) ?_
    refine lv_goto (tgt := 19) S.1 S.2.1 dX11_isWhole_15 (by decide) ?_
    refine lv_istore_n (lv' := [(3, .int (1 : Int32)), (0, .ref (a 0)), (1, .int p1), (2, .int p2)]) S.1 S.2.1 dX11_isWhole_19 rfl hl (by decide) rfl (fun ls hl => ?_)
    refine lv_iconst (v := 0) S.1 S.2.1 dX11_isWhole_20 (by decide) ?_
    refine lv_istore (lv' := [(4, .int (0 : Int32)), (3, .int (1 : Int32)), (0, .ref (a 0)), (1, .int p1), (2, .int p2)]) S.1 S.2.1 dX11_isWhole_21 hl (by decide) rfl (fun ls hl => ?_)
    have lp_12 : ∀ (n_12 : Nat) (x3_12 : Int32) (x4_12 : Int32) (H : Heap) (locs : List Loc) (ls : Array Slot), (0 ≤ (x4_12).toInt) → (((x3_12).toInt = 0 ∨ (x3_12).toInt = 1)) → (((u.1 0 0)).toInt - (x4_12).toInt < (n_12 : Int) ∧ 1 ≤ n_12) → lv_has ls 5 [(0, .ref (a 0)), (1, .int p1), (2, .int p2), (3, .int x3_12), (4, .int x4_12)] → xw D (wM a Y) A s.heap H locs u → V = m_isWhole_L23 u p1 p2 n_12 x3_12 x4_12 → W p l e (xRm 1 21) s m args below meth c H locs 0 0 (MQ below (va_Qi (fun r v => (r, v) = (b2i V, u)) (xPost D (wM a Y) A) A) args s 0 0 A) (F0 m 23 ls []) := by
      intro n_12
      induction n_12 with
      | zero => intro x3_12 x4_12 H locs ls i0_12 i1_12 hn; exact absurd hn.2 (by decide)
      | succ n_12 ih_12 =>
        intro x3_12 x4_12 H locs ls i0_12 i1_12 hn_12 hl hw hV
        refine lv_iload S.1 S.2.1 dX11_isWhole_23 (lv_at hl 4 rfl) ?_
        refine lv_aload_n S.1 S.2.1 dX11_isWhole_25 rfl (lv_at hl 0 rfl) ?_
        refine xget (v := .int (u.1 0 0)) S hK hw 0 rfl rfl inX11 0 (by decide) mfX11_68 rfl dX11_isWhole_26 ?_
        refine lv_icmp_ge (tgt := 83) S.1 S.2.1 dX11_isWhole_29 (by decide) (fun c_13 => ?_) (fun c_13 => ?_)
        · replace hV := hV.trans (if_pos c_13)
          have gc_13 : ((u.1 0 0)).toInt ≤ (x4_12).toInt := xq_le c_13 rfl rfl
          refine lv_iload_n S.1 S.2.1 dX11_isWhole_83 rfl (lv_at hl 3 rfl) ?_
          exact xrz S hr hlk hw (xbn (by omega)) ((congrArg (fun b => (b2i b, u)) hV).trans (by rw [xbb (by omega)])) dX11_isWhole_84
        · replace hV := hV.trans (if_neg c_13)
          have gc_13 : (x4_12).toInt < ((u.1 0 0)).toInt := xq_nle c_13 rfl rfl
          refine lv_iload_n S.1 S.2.1 dX11_isWhole_32 rfl (lv_at hl 3 rfl) ?_
          refine lv_if_eq (tgt := 75) S.1 S.2.1 dX11_isWhole_33 (by decide) (fun c_14 => ?_) (fun c_14 => ?_)
          · replace hV := hV.trans (if_pos c_14)
            have gc_14 : (x3_12).toInt = 0 := xq_eq c_14 rfl rfl
            refine lv_iconst (v := 0) S.1 S.2.1 dX11_isWhole_75 (by decide) ?_
            refine lv_istore_n (lv' := [(3, .int (0 : Int32)), (0, .ref (a 0)), (1, .int p1), (2, .int p2), (4, .int x4_12)]) S.1 S.2.1 dX11_isWhole_76 rfl hl (by decide) rfl (fun ls hl => ?_)
            refine lv_iinc (v := (x4_12 + (1 : Int32))) (lv' := [(4, .int (x4_12 + (1 : Int32))), (3, .int (0 : Int32)), (0, .ref (a 0)), (1, .int p1), (2, .int p2)]) S.1 S.2.1 dX11_isWhole_77 hl (k := 4) rfl rfl (by decide) rfl (fun ls hl => ?_)
            refine lv_goto (tgt := 23) S.1 S.2.1 dX11_isWhole_80 (by decide) ?_
            have e_15 : ∀ _ : Unit, ((x4_12 + (1 : Int32))).toInt = (x4_12).toInt + 1 := fun _ => xadd rfl rfl (by omega) (by omega)
            exact ih_12 (0 : Int32) (x4_12 + (1 : Int32)) _ _ _ (show 0 ≤ ((x4_12 + (1 : Int32))).toInt from by rw [(e_15 ())]; omega) (show (0 = 0 ∨ 0 = 1) from by omega) (show ((u.1 0 0)).toInt - ((x4_12 + (1 : Int32))).toInt < (n_12 : Int) ∧ 1 ≤ n_12 from by rw [(e_15 ())]; omega) (lv_sub hl [2, 3, 4, 1, 0] rfl) hw hV
          · replace hV := hV.trans (if_neg c_14)
            have gc_14 : ¬ (x3_12).toInt = 0 := xq_ne c_14 rfl rfl
            refine lv_iload_n S.1 S.2.1 dX11_isWhole_36 rfl (lv_at hl 2 rfl) ?_
            refine lv_iload S.1 S.2.1 dX11_isWhole_37 (lv_at hl 4 rfl) ?_
            refine xcP (rest := []) S hw yfX11_has (c_m_has l p2 x4_12) mlX11_140 rfl rfl hl.1 ⟨rfl, rfl, Nat.le_of_ble_eq_true rfl, Nat.le_of_ble_eq_true rfl, Nat.le_of_ble_eq_true rfl, Nat.zero_le _, Nat.zero_le _⟩ dX11_isWhole_39 (fun H locs hw => ?_)
            refine lv_if_eq (tgt := 71) S.1 S.2.1 dX11_isWhole_42 (by decide) (fun c_16 => ?_) (fun c_16 => ?_)
            · replace hV := hV.trans (if_pos c_16)
              have gc_16 : ((b2i (m_has p2 x4_12))).toInt = 0 := xq_eq c_16 rfl rfl
              refine lv_iconst (v := 1) S.1 S.2.1 dX11_isWhole_71 (by decide) ?_
              refine lv_goto (tgt := 76) S.1 S.2.1 dX11_isWhole_72 (by decide) ?_
              refine lv_istore_n (lv' := [(3, .int (1 : Int32)), (0, .ref (a 0)), (1, .int p1), (2, .int p2), (4, .int x4_12)]) S.1 S.2.1 dX11_isWhole_76 rfl hl (by decide) rfl (fun ls hl => ?_)
              refine lv_iinc (v := (x4_12 + (1 : Int32))) (lv' := [(4, .int (x4_12 + (1 : Int32))), (3, .int (1 : Int32)), (0, .ref (a 0)), (1, .int p1), (2, .int p2)]) S.1 S.2.1 dX11_isWhole_77 hl (k := 4) rfl rfl (by decide) rfl (fun ls hl => ?_)
              refine lv_goto (tgt := 23) S.1 S.2.1 dX11_isWhole_80 (by decide) ?_
              have e_17 : ∀ _ : Unit, ((x4_12 + (1 : Int32))).toInt = (x4_12).toInt + 1 := fun _ => xadd rfl rfl (by omega) (by omega)
              exact ih_12 (1 : Int32) (x4_12 + (1 : Int32)) _ _ _ (show 0 ≤ ((x4_12 + (1 : Int32))).toInt from by rw [(e_17 ())]; omega) (show (1 = 0 ∨ 1 = 1) from by omega) (show ((u.1 0 0)).toInt - ((x4_12 + (1 : Int32))).toInt < (n_12 : Int) ∧ 1 ≤ n_12 from by rw [(e_17 ())]; omega) (lv_sub hl [2, 3, 4, 1, 0] rfl) hw hV
            · replace hV := hV.trans (if_neg c_16)
              have gc_16 : ¬ ((b2i (m_has p2 x4_12))).toInt = 0 := xq_ne c_16 rfl rfl
              refine lv_aload_n S.1 S.2.1 dX11_isWhole_45 rfl (lv_at hl 0 rfl) ?_
              refine xget (v := .ref (a 4)) S hK hw 0 rfl rfl inX11 4 (by decide) mfX11_19 rfl dX11_isWhole_46 ?_
              refine lv_iload S.1 S.2.1 dX11_isWhole_49 (lv_at hl 4 rfl) ?_
              refine xald (f := u.1 4) S hK hw 4 0 rfl rfl (xvi rfl (by omega) (by omega)) dX11_isWhole_51 ?_
              refine lv_aload_n S.1 S.2.1 dX11_isWhole_52 rfl (lv_at hl 0 rfl) ?_
              refine xget (v := .ref (a 7)) S hK hw 0 rfl rfl inX11 8 (by decide) mfX11_28 rfl dX11_isWhole_53 ?_
              refine lv_bipush (v := 49) S.1 S.2.1 dX11_isWhole_56 (by decide) ?_
              refine lv_iload_n S.1 S.2.1 dX11_isWhole_58 rfl (lv_at hl 1 rfl) ?_
              refine lv_iadd S.1 S.2.1 dX11_isWhole_59 ?_
              refine xald (f := u.1 7) S hK hw 7 0 rfl rfl (xvi (e_1 ()) (by omega) (by omega)) dX11_isWhole_60 ?_
              refine lv_iconst (v := -1) S.1 S.2.1 dX11_isWhole_61 (by decide) ?_
              refine lv_ixor S.1 S.2.1 dX11_isWhole_62 ?_
              refine lv_iand S.1 S.2.1 dX11_isWhole_63 ?_
              refine lv_iload_n S.1 S.2.1 dX11_isWhole_64 rfl (lv_at hl 2 rfl) ?_
              refine lv_iconst (v := -1) S.1 S.2.1 dX11_isWhole_65 (by decide) ?_
              refine lv_ixor S.1 S.2.1 dX11_isWhole_66 ?_
              refine lv_iand S.1 S.2.1 dX11_isWhole_67 ?_
              refine lv_if_ne (tgt := 75) S.1 S.2.1 dX11_isWhole_68 (by decide) (fun c_18 => ?_) (fun c_18 => ?_)
              · replace hV := hV.trans (if_neg c_18)
                refine lv_iconst (v := 0) S.1 S.2.1 dX11_isWhole_75 (by decide) ?_
                refine lv_istore_n (lv' := [(3, .int (0 : Int32)), (0, .ref (a 0)), (1, .int p1), (2, .int p2), (4, .int x4_12)]) S.1 S.2.1 dX11_isWhole_76 rfl hl (by decide) rfl (fun ls hl => ?_)
                refine lv_iinc (v := (x4_12 + (1 : Int32))) (lv' := [(4, .int (x4_12 + (1 : Int32))), (3, .int (0 : Int32)), (0, .ref (a 0)), (1, .int p1), (2, .int p2)]) S.1 S.2.1 dX11_isWhole_77 hl (k := 4) rfl rfl (by decide) rfl (fun ls hl => ?_)
                refine lv_goto (tgt := 23) S.1 S.2.1 dX11_isWhole_80 (by decide) ?_
                have e_19 : ∀ _ : Unit, ((x4_12 + (1 : Int32))).toInt = (x4_12).toInt + 1 := fun _ => xadd rfl rfl (by omega) (by omega)
                exact ih_12 (0 : Int32) (x4_12 + (1 : Int32)) _ _ _ (show 0 ≤ ((x4_12 + (1 : Int32))).toInt from by rw [(e_19 ())]; omega) (show (0 = 0 ∨ 0 = 1) from by omega) (show ((u.1 0 0)).toInt - ((x4_12 + (1 : Int32))).toInt < (n_12 : Int) ∧ 1 ≤ n_12 from by rw [(e_19 ())]; omega) (lv_sub hl [2, 3, 4, 1, 0] rfl) hw hV
              · replace hV := hV.trans (if_pos c_18)
                refine lv_iconst (v := 1) S.1 S.2.1 dX11_isWhole_71 (by decide) ?_
                refine lv_goto (tgt := 76) S.1 S.2.1 dX11_isWhole_72 (by decide) ?_
                refine lv_istore_n (lv' := [(3, .int (1 : Int32)), (0, .ref (a 0)), (1, .int p1), (2, .int p2), (4, .int x4_12)]) S.1 S.2.1 dX11_isWhole_76 rfl hl (by decide) rfl (fun ls hl => ?_)
                refine lv_iinc (v := (x4_12 + (1 : Int32))) (lv' := [(4, .int (x4_12 + (1 : Int32))), (3, .int (1 : Int32)), (0, .ref (a 0)), (1, .int p1), (2, .int p2)]) S.1 S.2.1 dX11_isWhole_77 hl (k := 4) rfl rfl (by decide) rfl (fun ls hl => ?_)
                refine lv_goto (tgt := 23) S.1 S.2.1 dX11_isWhole_80 (by decide) ?_
                have e_20 : ∀ _ : Unit, ((x4_12 + (1 : Int32))).toInt = (x4_12).toInt + 1 := fun _ => xadd rfl rfl (by omega) (by omega)
                exact ih_12 (1 : Int32) (x4_12 + (1 : Int32)) _ _ _ (show 0 ≤ ((x4_12 + (1 : Int32))).toInt from by rw [(e_20 ())]; omega) (show (1 = 0 ∨ 1 = 1) from by omega) (show ((u.1 0 0)).toInt - ((x4_12 + (1 : Int32))).toInt < (n_12 : Int) ∧ 1 ≤ n_12 from by rw [(e_20 ())]; omega) (lv_sub hl [2, 3, 4, 1, 0] rfl) hw hV
    exact lp_12 9 (1 : Int32) (0 : Int32) _ _ _ (show 0 ≤ 0 from by omega) (show (1 = 0 ∨ 1 = 1) from by omega) (show ((u.1 0 0)).toInt - 0 < ((9 : Nat) : Int) ∧ 1 ≤ (9 : Nat) from by omega) (lv_sub hl [2, 3, 4, 1, 0] rfl) hw hV
def m_givenTo_L2 (w : xU) (x1 : Int32) (x2 : Int32) : Nat → Int32 → Int32
  | 0, _ => 0
  | n + 1, x3 =>
    (if (w.1 0 0) ≤ x3 then
    (-9 : Int32)
    else
    (if (b2i (m_may w x1 x3)) = (0 : Int32) then
    m_givenTo_L2 w x1 x2 n (x3 + (1 : Int32))
    else
    (if (b2i (m_has x2 x3)) = (0 : Int32) then
    (if ((1 : Int32) + (w.1 19 ((((256 : Int32) * (x1 + (1 : Int32))) + (x2 ||| ((1 : Int32) <<< (x3 &&& 31))))).toNatClampNeg)) = (w.1 19 ((((256 : Int32) * x1) + x2)).toNatClampNeg) then
    x3
    else
    m_givenTo_L2 w x1 x2 n (x3 + (1 : Int32)))
    else
    m_givenTo_L2 w x1 x2 n (x3 + (1 : Int32)))))
def m_givenTo (u : xU) (p1 : Int32) (p2 : Int32) : Int32 :=
    m_givenTo_L2 u p1 p2 9 (0 : Int32)
set_option maxHeartbeats 4000000 in
set_option maxRecDepth 100000 in
theorem c_m_givenTo (l : Launch) (D : va_G) (a : Nat → Nat) (Y : Nat → ClassId) (ts : Nat → Nat) (u : xU) (p1 : Int32) (p2 : Int32) (hT : (0 ≤ ((u.1 0 0)).toInt ∧ ((u.1 0 0)).toInt ≤ 8)) (hC : (0 ≤ ((u.1 0 5)).toInt ∧ ((u.1 0 5)).toInt ≤ 6)) (hp0 : 0 ≤ (p1).toInt ∧ (p1).toInt < 6) (hp1 : 0 ≤ (p2).toInt ∧ (p2).toInt < 256) : xMi l yX11_givenTo cX11_givenTo 5 (some .int) (xRm 3 65) D (xty Y) (wM a Y) ts [.ref (a 0), .int p1, .int p2] u ((m_givenTo u p1 p2), u) := by
  suffices h : ∀ V, V = m_givenTo u p1 p2 → xMi l yX11_givenTo cX11_givenTo 5 (some .int) (xRm 3 65) D (xty Y) (wM a Y) ts [.ref (a 0), .int p1, .int p2] u (V, u) from h _ rfl
  intro V hV
  refine xofi RX11 rfl (by decide) (Nat.le_of_ble_eq_true rfl) ?_
  intro p e s m args below meth c ls H locs A S hr hlk hl hK hE hA hw
  have hl : lv_has ls 5 [(0, .ref (a 0)), (1, .int p1), (2, .int p2)] := hl
  refine lv_iconst (v := 0) S.1 S.2.1 dX11_givenTo_0 (by decide) ?_
  refine lv_istore_n (lv' := [(3, .int (0 : Int32)), (0, .ref (a 0)), (1, .int p1), (2, .int p2)]) S.1 S.2.1 dX11_givenTo_1 rfl hl (by decide) rfl (fun ls hl => ?_)
  have lp_1 : ∀ (n_1 : Nat) (x3_1 : Int32) (H : Heap) (locs : List Loc) (ls : Array Slot), (0 ≤ (x3_1).toInt) → (((u.1 0 0)).toInt - (x3_1).toInt < (n_1 : Int) ∧ 1 ≤ n_1) → lv_has ls 5 [(0, .ref (a 0)), (1, .int p1), (2, .int p2), (3, .int x3_1)] → xw D (wM a Y) A s.heap H locs u → V = m_givenTo_L2 u p1 p2 n_1 x3_1 → W p l e (xRm 3 65) s m args below meth c H locs 0 0 (MQ below (va_Qi (fun r v => (r, v) = (V, u)) (xPost D (wM a Y) A) A) args s 0 0 A) (F0 m 2 ls []) := by
    intro n_1
    induction n_1 with
    | zero => intro x3_1 H locs ls i0_1 hn; exact absurd hn.2 (by decide)
    | succ n_1 ih_1 =>
      intro x3_1 H locs ls i0_1 hn_1 hl hw hV
      refine lv_iload_n S.1 S.2.1 dX11_givenTo_2 rfl (lv_at hl 3 rfl) ?_
      refine lv_aload_n S.1 S.2.1 dX11_givenTo_3 rfl (lv_at hl 0 rfl) ?_
      refine xget (v := .int (u.1 0 0)) S hK hw 0 rfl rfl inX11 0 (by decide) mfX11_68 rfl dX11_givenTo_4 ?_
      refine lv_icmp_ge (tgt := 82) S.1 S.2.1 dX11_givenTo_7 (by decide) (fun c_2 => ?_) (fun c_2 => ?_)
      · replace hV := hV.trans (if_pos c_2)
        have gc_2 : ((u.1 0 0)).toInt ≤ (x3_1).toInt := xq_le c_2 rfl rfl
        refine lv_bipush (v := -9) S.1 S.2.1 dX11_givenTo_82 (by decide) ?_
        exact xri S hr hlk hw (congrArg (fun b => (b, u)) hV) dX11_givenTo_84
      · replace hV := hV.trans (if_neg c_2)
        have gc_2 : (x3_1).toInt < ((u.1 0 0)).toInt := xq_nle c_2 rfl rfl
        refine lv_aload_n S.1 S.2.1 dX11_givenTo_10 rfl (lv_at hl 0 rfl) ?_
        refine lv_iload_n S.1 S.2.1 dX11_givenTo_11 rfl (lv_at hl 1 rfl) ?_
        refine lv_iload_n S.1 S.2.1 dX11_givenTo_12 rfl (lv_at hl 3 rfl) ?_
        refine xci (rest := []) S hK hE hA hw yfX11_may (c_m_may l D a Y ts _ p1 x3_1 (show (0 ≤ ((u.1 0 0)).toInt ∧ ((u.1 0 0)).toInt ≤ 8) from by omega) (show (0 ≤ ((u.1 0 5)).toInt ∧ ((u.1 0 5)).toInt ≤ 6) from by omega) (show 0 ≤ (p1).toInt ∧ (p1).toInt < 6 from by omega) (show 0 ≤ (x3_1).toInt ∧ (x3_1).toInt < 8 from by omega)) 0 rfl rfl mlX11_153 rfl rfl hl.1 ⟨rfl, rfl, Nat.le_of_ble_eq_true rfl, Nat.le_of_ble_eq_true rfl, Nat.le_of_ble_eq_true rfl, Nat.zero_le _, Nat.zero_le _⟩ dX11_givenTo_13 (fun H locs hw => ?_)
        refine lv_if_eq (tgt := 31) S.1 S.2.1 dX11_givenTo_16 (by decide) (fun c_3 => ?_) (fun c_3 => ?_)
        · replace hV := hV.trans (if_pos c_3)
          have gc_3 : ((b2i (m_may u p1 x3_1))).toInt = 0 := xq_eq c_3 rfl rfl
          refine lv_iconst (v := 0) S.1 S.2.1 dX11_givenTo_31 (by decide) ?_
          refine lv_istore (lv' := [(4, .int (0 : Int32)), (0, .ref (a 0)), (1, .int p1), (2, .int p2), (3, .int x3_1)]) S.1 S.2.1 dX11_givenTo_32 hl (by decide) rfl (fun ls hl => ?_)
          refine lv_iload S.1 S.2.1 dX11_givenTo_34 (lv_at hl 0 rfl) ?_
          refine lv_if_eq (tgt := 76) S.1 S.2.1 dX11_givenTo_36 (by decide) (fun c_4 => ?_) (fun c_4 => ?_)
          · refine lv_iinc (v := (x3_1 + (1 : Int32))) (lv' := [(3, .int (x3_1 + (1 : Int32))), (4, .int (0 : Int32)), (0, .ref (a 0)), (1, .int p1), (2, .int p2)]) S.1 S.2.1 dX11_givenTo_76 hl (k := 4) rfl rfl (by decide) rfl (fun ls hl => ?_)
            refine lv_goto (tgt := 2) S.1 S.2.1 dX11_givenTo_79 (by decide) ?_
            have e_5 : ∀ _ : Unit, ((x3_1 + (1 : Int32))).toInt = (x3_1).toInt + 1 := fun _ => xadd rfl rfl (by omega) (by omega)
            exact ih_1 (x3_1 + (1 : Int32)) _ _ _ (show 0 ≤ ((x3_1 + (1 : Int32))).toInt from by rw [(e_5 ())]; omega) (show ((u.1 0 0)).toInt - ((x3_1 + (1 : Int32))).toInt < (n_1 : Int) ∧ 1 ≤ n_1 from by rw [(e_5 ())]; omega) (lv_sub hl [2, 3, 4, 0] rfl) hw hV
          · exact absurd c_4 (by decide)
        · replace hV := hV.trans (if_neg c_3)
          have gc_3 : ¬ ((b2i (m_may u p1 x3_1))).toInt = 0 := xq_ne c_3 rfl rfl
          refine lv_iload_n S.1 S.2.1 dX11_givenTo_19 rfl (lv_at hl 2 rfl) ?_
          refine lv_iload_n S.1 S.2.1 dX11_givenTo_20 rfl (lv_at hl 3 rfl) ?_
          refine xcP (rest := []) S hw yfX11_has (c_m_has l p2 x3_1) mlX11_140 rfl rfl hl.1 ⟨rfl, rfl, Nat.le_of_ble_eq_true rfl, Nat.le_of_ble_eq_true rfl, Nat.le_of_ble_eq_true rfl, Nat.zero_le _, Nat.zero_le _⟩ dX11_givenTo_21 (fun H locs hw => ?_)
          refine lv_if_ne (tgt := 31) S.1 S.2.1 dX11_givenTo_24 (by decide) (fun c_6 => ?_) (fun c_6 => ?_)
          · replace hV := hV.trans (if_neg c_6)
            have gc_6 : ¬ ((b2i (m_has p2 x3_1))).toInt = 0 := xq_ne c_6 rfl rfl
            refine lv_iconst (v := 0) S.1 S.2.1 dX11_givenTo_31 (by decide) ?_
            refine lv_istore (lv' := [(4, .int (0 : Int32)), (0, .ref (a 0)), (1, .int p1), (2, .int p2), (3, .int x3_1)]) S.1 S.2.1 dX11_givenTo_32 hl (by decide) rfl (fun ls hl => ?_)
            refine lv_iload S.1 S.2.1 dX11_givenTo_34 (lv_at hl 0 rfl) ?_
            refine lv_if_eq (tgt := 76) S.1 S.2.1 dX11_givenTo_36 (by decide) (fun c_7 => ?_) (fun c_7 => ?_)
            · refine lv_iinc (v := (x3_1 + (1 : Int32))) (lv' := [(3, .int (x3_1 + (1 : Int32))), (4, .int (0 : Int32)), (0, .ref (a 0)), (1, .int p1), (2, .int p2)]) S.1 S.2.1 dX11_givenTo_76 hl (k := 4) rfl rfl (by decide) rfl (fun ls hl => ?_)
              refine lv_goto (tgt := 2) S.1 S.2.1 dX11_givenTo_79 (by decide) ?_
              have e_8 : ∀ _ : Unit, ((x3_1 + (1 : Int32))).toInt = (x3_1).toInt + 1 := fun _ => xadd rfl rfl (by omega) (by omega)
              exact ih_1 (x3_1 + (1 : Int32)) _ _ _ (show 0 ≤ ((x3_1 + (1 : Int32))).toInt from by rw [(e_8 ())]; omega) (show ((u.1 0 0)).toInt - ((x3_1 + (1 : Int32))).toInt < (n_1 : Int) ∧ 1 ≤ n_1 from by rw [(e_8 ())]; omega) (lv_sub hl [2, 3, 4, 0] rfl) hw hV
            · exact absurd c_7 (by decide)
          · replace hV := hV.trans (if_pos c_6)
            have gc_6 : ((b2i (m_has p2 x3_1))).toInt = 0 := xq_eq c_6 rfl rfl
            refine lv_iconst (v := 1) S.1 S.2.1 dX11_givenTo_27 (by decide) ?_
            refine lv_goto (tgt := 32) S.1 S.2.1 dX11_givenTo_28 (by decide) ?_
            refine lv_istore (lv' := [(4, .int (1 : Int32)), (0, .ref (a 0)), (1, .int p1), (2, .int p2), (3, .int x3_1)]) S.1 S.2.1 dX11_givenTo_32 hl (by decide) rfl (fun ls hl => ?_)
            refine lv_iload S.1 S.2.1 dX11_givenTo_34 (lv_at hl 0 rfl) ?_
            refine lv_if_eq (tgt := 76) S.1 S.2.1 dX11_givenTo_36 (by decide) (fun c_9 => ?_) (fun c_9 => ?_)
            · exact absurd c_9 (by decide)
            · refine lv_iconst (v := 1) S.1 S.2.1 dX11_givenTo_39 (by decide) ?_
              refine lv_aload_n S.1 S.2.1 dX11_givenTo_40 rfl (lv_at hl 1 rfl) ?_
              refine xget (v := .ref (a 19)) S hK hw 0 rfl rfl inX11 31 (by decide) mfX11_65 rfl dX11_givenTo_41 ?_
              refine lv_sipush (v := 256) S.1 S.2.1 dX11_givenTo_44 (by decide) ?_
              refine lv_iload_n S.1 S.2.1 dX11_givenTo_47 rfl (lv_at hl 2 rfl) ?_
              refine lv_iconst (v := 1) S.1 S.2.1 dX11_givenTo_48 (by decide) ?_
              refine lv_iadd S.1 S.2.1 dX11_givenTo_49 ?_
              refine lv_imul S.1 S.2.1 dX11_givenTo_50 ?_
              refine lv_iload_n S.1 S.2.1 dX11_givenTo_51 rfl (lv_at hl 3 rfl) ?_
              refine lv_iconst (v := 1) S.1 S.2.1 dX11_givenTo_52 (by decide) ?_
              refine lv_iload_n S.1 S.2.1 dX11_givenTo_53 rfl (lv_at hl 4 rfl) ?_
              refine lv_ishl S.1 S.2.1 dX11_givenTo_54 ?_
              refine lv_ior S.1 S.2.1 dX11_givenTo_55 ?_
              refine lv_iadd S.1 S.2.1 dX11_givenTo_56 ?_
              have e_10 : ∀ _ : Unit, ((p1 + (1 : Int32))).toInt = (p1).toInt + 1 := fun _ => xadd rfl rfl (by omega) (by omega)
              have e_11 : ∀ _ : Unit, (((256 : Int32) * (p1 + (1 : Int32)))).toInt = 256 * ((p1).toInt + 1) := fun _ => xmul rfl (e_10 ()) (by omega) (by omega)
              obtain ⟨ve_12, e_12, be_12⟩ := xsh1' (t := x3_1) (a := (x3_1).toInt) rfl (by omega) (by omega)
              obtain ⟨ve_13, e_13, be_13⟩ := xor8' (x := p2) (y := ((1 : Int32) <<< (x3_1 &&& 31))) (a := (p2).toInt) (b := ve_12) rfl (e_12 ()) (by omega) (by omega) (by omega) (by omega)
              have e_14 : ∀ _ : Unit, ((((256 : Int32) * (p1 + (1 : Int32))) + (p2 ||| ((1 : Int32) <<< (x3_1 &&& 31))))).toInt = (256 * ((p1).toInt + 1)) + ve_13 := fun _ => xadd (e_11 ()) (e_13 ()) (by omega) (by omega)
              refine xald (f := u.1 19) S hK hw 19 0 rfl rfl (xvi (e_14 ()) (by omega) (by omega)) dX11_givenTo_57 ?_
              refine lv_iadd S.1 S.2.1 dX11_givenTo_58 ?_
              refine lv_aload_n S.1 S.2.1 dX11_givenTo_59 rfl (lv_at hl 1 rfl) ?_
              refine xget (v := .ref (a 19)) S hK hw 0 rfl rfl inX11 31 (by decide) mfX11_65 rfl dX11_givenTo_60 ?_
              refine lv_sipush (v := 256) S.1 S.2.1 dX11_givenTo_63 (by decide) ?_
              refine lv_iload_n S.1 S.2.1 dX11_givenTo_66 rfl (lv_at hl 2 rfl) ?_
              refine lv_imul S.1 S.2.1 dX11_givenTo_67 ?_
              refine lv_iload_n S.1 S.2.1 dX11_givenTo_68 rfl (lv_at hl 3 rfl) ?_
              refine lv_iadd S.1 S.2.1 dX11_givenTo_69 ?_
              have e_15 : ∀ _ : Unit, (((256 : Int32) * p1)).toInt = 256 * (p1).toInt := fun _ => xmul rfl rfl (by omega) (by omega)
              have e_16 : ∀ _ : Unit, ((((256 : Int32) * p1) + p2)).toInt = (256 * (p1).toInt) + (p2).toInt := fun _ => xadd (e_15 ()) rfl (by omega) (by omega)
              refine xald (f := u.1 19) S hK hw 19 0 rfl rfl (xvi (e_16 ()) (by omega) (by omega)) dX11_givenTo_70 ?_
              refine lv_icmp_ne (tgt := 76) S.1 S.2.1 dX11_givenTo_71 (by decide) (fun c_17 => ?_) (fun c_17 => ?_)
              · replace hV := hV.trans (if_neg c_17)
                refine lv_iinc (v := (x3_1 + (1 : Int32))) (lv' := [(3, .int (x3_1 + (1 : Int32))), (4, .int (1 : Int32)), (0, .ref (a 0)), (1, .int p1), (2, .int p2)]) S.1 S.2.1 dX11_givenTo_76 hl (k := 4) rfl rfl (by decide) rfl (fun ls hl => ?_)
                refine lv_goto (tgt := 2) S.1 S.2.1 dX11_givenTo_79 (by decide) ?_
                have e_18 : ∀ _ : Unit, ((x3_1 + (1 : Int32))).toInt = (x3_1).toInt + 1 := fun _ => xadd rfl rfl (by omega) (by omega)
                exact ih_1 (x3_1 + (1 : Int32)) _ _ _ (show 0 ≤ ((x3_1 + (1 : Int32))).toInt from by rw [(e_18 ())]; omega) (show ((u.1 0 0)).toInt - ((x3_1 + (1 : Int32))).toInt < (n_1 : Int) ∧ 1 ≤ n_1 from by rw [(e_18 ())]; omega) (lv_sub hl [2, 3, 4, 0] rfl) hw hV
              · replace hV := hV.trans (if_pos c_17)
                refine lv_iload_n S.1 S.2.1 dX11_givenTo_74 rfl (lv_at hl 4 rfl) ?_
                exact xri S hr hlk hw (congrArg (fun b => (b, u)) hV) dX11_givenTo_75
  exact lp_1 9 (0 : Int32) _ _ _ (show 0 ≤ 0 from by omega) (show ((u.1 0 0)).toInt - 0 < ((9 : Nat) : Int) ∧ 1 ≤ (9 : Nat) from by omega) (lv_sub hl [1, 2, 3, 0] rfl) hw hV
def m_between (u : xU) (p1 : Int32) (p2 : Int32) : Int32 :=
    (m_bits ((u.1 7 (((55 : Int32) + p1)).toNatClampNeg) ^^^ (u.1 7 (((55 : Int32) + p2)).toNatClampNeg)))
set_option maxHeartbeats 4000000 in
set_option maxRecDepth 100000 in
theorem c_m_between (l : Launch) (D : va_G) (a : Nat → Nat) (Y : Nat → ClassId) (ts : Nat → Nat) (u : xU) (p1 : Int32) (p2 : Int32) (hT : (0 ≤ ((u.1 0 0)).toInt ∧ ((u.1 0 0)).toInt ≤ 8)) (hC : (0 ≤ ((u.1 0 5)).toInt ∧ ((u.1 0 5)).toInt ≤ 6)) (hp0 : 0 ≤ (p1).toInt ∧ (p1).toInt < 6) (hp1 : 0 ≤ (p2).toInt ∧ (p2).toInt < 6) : xMi l yX11_between cX11_between 3 (some .int) (xRm 1 22) D (xty Y) (wM a Y) ts [.ref (a 0), .int p1, .int p2] u ((m_between u p1 p2), u) := by
  suffices h : ∀ V, V = m_between u p1 p2 → xMi l yX11_between cX11_between 3 (some .int) (xRm 1 22) D (xty Y) (wM a Y) ts [.ref (a 0), .int p1, .int p2] u (V, u) from h _ rfl
  intro V hV
  refine xofi RX11 rfl (by decide) (Nat.le_of_ble_eq_true rfl) ?_
  intro p e s m args below meth c ls H locs A S hr hlk hl hK hE hA hw
  have hl : lv_has ls 3 [(0, .ref (a 0)), (1, .int p1), (2, .int p2)] := hl
  refine lv_aload_n S.1 S.2.1 dX11_between_0 rfl (lv_at hl 0 rfl) ?_
  refine xget (v := .ref (a 7)) S hK hw 0 rfl rfl inX11 8 (by decide) mfX11_28 rfl dX11_between_1 ?_
  refine lv_bipush (v := 55) S.1 S.2.1 dX11_between_4 (by decide) ?_
  refine lv_iload_n S.1 S.2.1 dX11_between_6 rfl (lv_at hl 1 rfl) ?_
  refine lv_iadd S.1 S.2.1 dX11_between_7 ?_
  have e_1 : ∀ _ : Unit, (((55 : Int32) + p1)).toInt = 55 + (p1).toInt := fun _ => xadd rfl rfl (by omega) (by omega)
  refine xald (f := u.1 7) S hK hw 7 0 rfl rfl (xvi (e_1 ()) (by omega) (by omega)) dX11_between_8 ?_
  refine lv_aload_n S.1 S.2.1 dX11_between_9 rfl (lv_at hl 0 rfl) ?_
  refine xget (v := .ref (a 7)) S hK hw 0 rfl rfl inX11 8 (by decide) mfX11_28 rfl dX11_between_10 ?_
  refine lv_bipush (v := 55) S.1 S.2.1 dX11_between_13 (by decide) ?_
  refine lv_iload_n S.1 S.2.1 dX11_between_15 rfl (lv_at hl 2 rfl) ?_
  refine lv_iadd S.1 S.2.1 dX11_between_16 ?_
  have e_2 : ∀ _ : Unit, (((55 : Int32) + p2)).toInt = 55 + (p2).toInt := fun _ => xadd rfl rfl (by omega) (by omega)
  refine xald (f := u.1 7) S hK hw 7 0 rfl rfl (xvi (e_2 ()) (by omega) (by omega)) dX11_between_17 ?_
  refine lv_ixor S.1 S.2.1 dX11_between_18 ?_
  refine xcP (rest := []) S hw yfX11_bits (c_m_bits l ((u.1 7 (((55 : Int32) + p1)).toNatClampNeg) ^^^ (u.1 7 (((55 : Int32) + p2)).toNatClampNeg))) mlX11_175 rfl rfl hl.1 ⟨rfl, rfl, Nat.le_of_ble_eq_true rfl, Nat.le_of_ble_eq_true rfl, Nat.le_of_ble_eq_true rfl, Nat.zero_le _, Nat.zero_le _⟩ dX11_between_19 (fun H locs hw => ?_)
  exact xri S hr hlk hw (congrArg (fun b => (b, u)) hV) dX11_between_22
def m_tree_L36 (kk : Int32 → Int32 → Int32 → Int32) (w : xU) (x1 : Int32) (x2 : Int32) (x3 : Int32) (x6 : Int32) : Nat → Int32 → Int32 → Int32 → Int32
  | 0, _, _, _ => 0
  | n + 1, x4, x5, x7 =>
    (if (w.1 0 5) ≤ x7 then
    kk x4 x5 (x6 + (1 : Int32))
    else
    (if (b2i (m_has x1 x6)) = (0 : Int32) then
    m_tree_L36 kk w x1 x2 x3 x6 n x4 x5 (x7 + (1 : Int32))
    else
    (if (b2i (m_has x1 x7)) = (0 : Int32) then
    (if x4 ≤ (m_between w x6 x7) then
    m_tree_L36 kk w x1 x2 x3 x6 n x4 x5 (x7 + (1 : Int32))
    else
    m_tree_L36 kk w x1 x2 x3 x6 n (m_between w x6 x7) x7 (x7 + (1 : Int32)))
    else
    m_tree_L36 kk w x1 x2 x3 x6 n x4 x5 (x7 + (1 : Int32)))))
def m_tree_L24 (kk : Int32 → Int32 → Int32 → Int32) (w : xU) (x1 : Int32) (x2 : Int32) (x3 : Int32) : Nat → Int32 → Int32 → Int32 → Int32
  | 0, _, _, _ => 0
  | n + 1, x4, x5, x6 =>
    (if (w.1 0 5) ≤ x6 then
    kk (x1 ||| ((1 : Int32) <<< (x5 &&& 31))) (x2 + x4) (x3 + (1 : Int32))
    else
    m_tree_L36 (fun (z4 : Int32) (z5 : Int32) (z6 : Int32) => m_tree_L24 kk w x1 x2 x3 n z4 z5 z6) w x1 x2 x3 x6 7 x4 x5 (0 : Int32))
def m_tree_L6 (w : xU) : Nat → Int32 → Int32 → Int32 → Int32
  | 0, _, _, _ => 0
  | n + 1, x1, x2, x3 =>
    (if (w.1 0 5) ≤ x3 then
    x2
    else
    m_tree_L24 (fun (z1 : Int32) (z2 : Int32) (z3 : Int32) => m_tree_L6 w n z1 z2 z3) w x1 x2 x3 7 (99 : Int32) (0 : Int32) (0 : Int32))
def m_tree (u : xU) : Int32 :=
    m_tree_L6 u 7 (1 : Int32) (0 : Int32) (1 : Int32)
set_option maxHeartbeats 4000000 in
set_option maxRecDepth 100000 in
theorem c_m_tree (l : Launch) (D : va_G) (a : Nat → Nat) (Y : Nat → ClassId) (ts : Nat → Nat) (u : xU) (hT : (0 ≤ ((u.1 0 0)).toInt ∧ ((u.1 0 0)).toInt ≤ 8)) (hC : (0 ≤ ((u.1 0 5)).toInt ∧ ((u.1 0 5)).toInt ≤ 6)) : xMi l yX11_tree cX11_tree 9 (some .int) (xRm 2 44) D (xty Y) (wM a Y) ts [.ref (a 0)] u ((m_tree u), u) := by
  suffices h : ∀ V, V = m_tree u → xMi l yX11_tree cX11_tree 9 (some .int) (xRm 2 44) D (xty Y) (wM a Y) ts [.ref (a 0)] u (V, u) from h _ rfl
  intro V hV
  refine xofi RX11 rfl (by decide) (Nat.le_of_ble_eq_true rfl) ?_
  intro p e s m args below meth c ls H locs A S hr hlk hl hK hE hA hw
  have hl : lv_has ls 9 [(0, .ref (a 0))] := hl
  refine lv_iconst (v := 1) S.1 S.2.1 dX11_tree_0 (by decide) ?_
  refine lv_istore_n (lv' := [(1, .int (1 : Int32)), (0, .ref (a 0))]) S.1 S.2.1 dX11_tree_1 rfl hl (by decide) rfl (fun ls hl => ?_)
  refine lv_iconst (v := 0) S.1 S.2.1 dX11_tree_2 (by decide) ?_
  refine lv_istore_n (lv' := [(2, .int (0 : Int32)), (1, .int (1 : Int32)), (0, .ref (a 0))]) S.1 S.2.1 dX11_tree_3 rfl hl (by decide) rfl (fun ls hl => ?_)
  refine lv_iconst (v := 1) S.1 S.2.1 dX11_tree_4 (by decide) ?_
  refine lv_istore_n (lv' := [(3, .int (1 : Int32)), (2, .int (0 : Int32)), (1, .int (1 : Int32)), (0, .ref (a 0))]) S.1 S.2.1 dX11_tree_5 rfl hl (by decide) rfl (fun ls hl => ?_)
  have lp_1 : ∀ (n_1 : Nat) (x1_1 : Int32) (x2_1 : Int32) (x3_1 : Int32) (H : Heap) (locs : List Loc) (ls : Array Slot), (0 ≤ (x3_1).toInt) → (((u.1 0 5)).toInt - (x3_1).toInt < (n_1 : Int) ∧ 1 ≤ n_1) → lv_has ls 9 [(0, .ref (a 0)), (1, .int x1_1), (2, .int x2_1), (3, .int x3_1)] → xw D (wM a Y) A s.heap H locs u → V = m_tree_L6 u n_1 x1_1 x2_1 x3_1 → W p l e (xRm 2 44) s m args below meth c H locs 0 0 (MQ below (va_Qi (fun r v => (r, v) = (V, u)) (xPost D (wM a Y) A) A) args s 0 0 A) (F0 m 6 ls []) := by
    intro n_1
    induction n_1 with
    | zero => intro x1_1 x2_1 x3_1 H locs ls i0_1 hn; exact absurd hn.2 (by decide)
    | succ n_1 ih_1 =>
      intro x1_1 x2_1 x3_1 H locs ls i0_1 hn_1 hl hw hV
      refine lv_iload_n S.1 S.2.1 dX11_tree_6 rfl (lv_at hl 3 rfl) ?_
      refine lv_aload_n S.1 S.2.1 dX11_tree_7 rfl (lv_at hl 0 rfl) ?_
      refine xget (v := .int (u.1 0 5)) S hK hw 0 rfl rfl inX11 5 (by decide) mfX11_76 rfl dX11_tree_8 ?_
      refine lv_icmp_ge (tgt := 147) S.1 S.2.1 dX11_tree_11 (by decide) (fun c_2 => ?_) (fun c_2 => ?_)
      · replace hV := hV.trans (if_pos c_2)
        have gc_2 : ((u.1 0 5)).toInt ≤ (x3_1).toInt := xq_le c_2 rfl rfl
        refine lv_iload_n S.1 S.2.1 dX11_tree_147 rfl (lv_at hl 2 rfl) ?_
        exact xri S hr hlk hw (congrArg (fun b => (b, u)) hV) dX11_tree_148
      · replace hV := hV.trans (if_neg c_2)
        have gc_2 : (x3_1).toInt < ((u.1 0 5)).toInt := xq_nle c_2 rfl rfl
        refine lv_bipush (v := 99) S.1 S.2.1 dX11_tree_14 (by decide) ?_
        refine lv_istore (lv' := [(4, .int (99 : Int32)), (0, .ref (a 0)), (1, .int x1_1), (2, .int x2_1), (3, .int x3_1)]) S.1 S.2.1 dX11_tree_16 hl (by decide) rfl (fun ls hl => ?_)
        refine lv_iconst (v := 0) S.1 S.2.1 dX11_tree_18 (by decide) ?_
        refine lv_istore (lv' := [(5, .int (0 : Int32)), (4, .int (99 : Int32)), (0, .ref (a 0)), (1, .int x1_1), (2, .int x2_1), (3, .int x3_1)]) S.1 S.2.1 dX11_tree_19 hl (by decide) rfl (fun ls hl => ?_)
        refine lv_iconst (v := 0) S.1 S.2.1 dX11_tree_21 (by decide) ?_
        refine lv_istore (lv' := [(6, .int (0 : Int32)), (5, .int (0 : Int32)), (4, .int (99 : Int32)), (0, .ref (a 0)), (1, .int x1_1), (2, .int x2_1), (3, .int x3_1)]) S.1 S.2.1 dX11_tree_22 hl (by decide) rfl (fun ls hl => ?_)
        have lp_3 : ∀ (n_3 : Nat) (x4_3 : Int32) (x5_3 : Int32) (x6_3 : Int32) (H : Heap) (locs : List Loc) (ls : Array Slot), (0 ≤ (x6_3).toInt) → (((u.1 0 5)).toInt - (x6_3).toInt < (n_3 : Int) ∧ 1 ≤ n_3) → lv_has ls 9 [(0, .ref (a 0)), (1, .int x1_1), (2, .int x2_1), (3, .int x3_1), (4, .int x4_3), (5, .int x5_3), (6, .int x6_3)] → xw D (wM a Y) A s.heap H locs u → V = m_tree_L24 (fun (z1 : Int32) (z2 : Int32) (z3 : Int32) => m_tree_L6 u n_1 z1 z2 z3) u x1_1 x2_1 x3_1 n_3 x4_3 x5_3 x6_3 → W p l e (xRm 2 44) s m args below meth c H locs 0 0 (MQ below (va_Qi (fun r v => (r, v) = (V, u)) (xPost D (wM a Y) A) A) args s 0 0 A) (F0 m 24 ls []) := by
          intro n_3
          induction n_3 with
          | zero => intro x4_3 x5_3 x6_3 H locs ls i0_3 hn; exact absurd hn.2 (by decide)
          | succ n_3 ih_3 =>
            intro x4_3 x5_3 x6_3 H locs ls i0_3 hn_3 hl hw hV
            refine lv_iload S.1 S.2.1 dX11_tree_24 (lv_at hl 6 rfl) ?_
            refine lv_aload_n S.1 S.2.1 dX11_tree_26 rfl (lv_at hl 0 rfl) ?_
            refine xget (v := .int (u.1 0 5)) S hK hw 0 rfl rfl inX11 5 (by decide) mfX11_76 rfl dX11_tree_27 ?_
            refine lv_icmp_ge (tgt := 129) S.1 S.2.1 dX11_tree_30 (by decide) (fun c_4 => ?_) (fun c_4 => ?_)
            · replace hV := hV.trans (if_pos c_4)
              have gc_4 : ((u.1 0 5)).toInt ≤ (x6_3).toInt := xq_le c_4 rfl rfl
              refine lv_iload_n S.1 S.2.1 dX11_tree_129 rfl (lv_at hl 1 rfl) ?_
              refine lv_iconst (v := 1) S.1 S.2.1 dX11_tree_130 (by decide) ?_
              refine lv_iload S.1 S.2.1 dX11_tree_131 (lv_at hl 5 rfl) ?_
              refine lv_ishl S.1 S.2.1 dX11_tree_133 ?_
              refine lv_ior S.1 S.2.1 dX11_tree_134 ?_
              refine lv_istore_n (lv' := [(1, .int (x1_1 ||| ((1 : Int32) <<< (x5_3 &&& 31)))), (0, .ref (a 0)), (2, .int x2_1), (3, .int x3_1), (4, .int x4_3), (5, .int x5_3), (6, .int x6_3)]) S.1 S.2.1 dX11_tree_135 rfl hl (by decide) rfl (fun ls hl => ?_)
              refine lv_iload_n S.1 S.2.1 dX11_tree_136 rfl (lv_at hl 2 rfl) ?_
              refine lv_iload S.1 S.2.1 dX11_tree_137 (lv_at hl 4 rfl) ?_
              refine lv_iadd S.1 S.2.1 dX11_tree_139 ?_
              refine lv_istore_n (lv' := [(2, .int (x2_1 + x4_3)), (1, .int (x1_1 ||| ((1 : Int32) <<< (x5_3 &&& 31)))), (0, .ref (a 0)), (3, .int x3_1), (4, .int x4_3), (5, .int x5_3), (6, .int x6_3)]) S.1 S.2.1 dX11_tree_140 rfl hl (by decide) rfl (fun ls hl => ?_)
              refine lv_iinc (v := (x3_1 + (1 : Int32))) (lv' := [(3, .int (x3_1 + (1 : Int32))), (2, .int (x2_1 + x4_3)), (1, .int (x1_1 ||| ((1 : Int32) <<< (x5_3 &&& 31)))), (0, .ref (a 0)), (4, .int x4_3), (5, .int x5_3), (6, .int x6_3)]) S.1 S.2.1 dX11_tree_141 hl (k := 3) rfl rfl (by decide) rfl (fun ls hl => ?_)
              refine lv_goto (tgt := 6) S.1 S.2.1 dX11_tree_144 (by decide) ?_
              have e_5 : ∀ _ : Unit, ((x3_1 + (1 : Int32))).toInt = (x3_1).toInt + 1 := fun _ => xadd rfl rfl (by omega) (by omega)
              clear hn_3
              exact ih_1 (x1_1 ||| ((1 : Int32) <<< (x5_3 &&& 31))) (x2_1 + x4_3) (x3_1 + (1 : Int32)) _ _ _ (show 0 ≤ ((x3_1 + (1 : Int32))).toInt from by rw [(e_5 ())]; omega) (show ((u.1 0 5)).toInt - ((x3_1 + (1 : Int32))).toInt < (n_1 : Int) ∧ 1 ≤ n_1 from by rw [(e_5 ())]; omega) (lv_sub hl [3, 2, 1, 0] rfl) hw hV
            · replace hV := hV.trans (if_neg c_4)
              have gc_4 : (x6_3).toInt < ((u.1 0 5)).toInt := xq_nle c_4 rfl rfl
              refine lv_iconst (v := 0) S.1 S.2.1 dX11_tree_33 (by decide) ?_
              refine lv_istore (lv' := [(7, .int (0 : Int32)), (0, .ref (a 0)), (1, .int x1_1), (2, .int x2_1), (3, .int x3_1), (4, .int x4_3), (5, .int x5_3), (6, .int x6_3)]) S.1 S.2.1 dX11_tree_34 hl (by decide) rfl (fun ls hl => ?_)
              have lp_6 : ∀ (n_6 : Nat) (x4_6 : Int32) (x5_6 : Int32) (x7_6 : Int32) (H : Heap) (locs : List Loc) (ls : Array Slot), (0 ≤ (x7_6).toInt) → (((u.1 0 5)).toInt - (x7_6).toInt < (n_6 : Int) ∧ 1 ≤ n_6) → lv_has ls 9 [(0, .ref (a 0)), (1, .int x1_1), (2, .int x2_1), (3, .int x3_1), (4, .int x4_6), (5, .int x5_6), (6, .int x6_3), (7, .int x7_6)] → xw D (wM a Y) A s.heap H locs u → V = m_tree_L36 (fun (z4 : Int32) (z5 : Int32) (z6 : Int32) => m_tree_L24 (fun (z1 : Int32) (z2 : Int32) (z3 : Int32) => m_tree_L6 u n_1 z1 z2 z3) u x1_1 x2_1 x3_1 n_3 z4 z5 z6) u x1_1 x2_1 x3_1 x6_3 n_6 x4_6 x5_6 x7_6 → W p l e (xRm 2 44) s m args below meth c H locs 0 0 (MQ below (va_Qi (fun r v => (r, v) = (V, u)) (xPost D (wM a Y) A) A) args s 0 0 A) (F0 m 36 ls []) := by
                intro n_6
                induction n_6 with
                | zero => intro x4_6 x5_6 x7_6 H locs ls i0_6 hn; exact absurd hn.2 (by decide)
                | succ n_6 ih_6 =>
                  intro x4_6 x5_6 x7_6 H locs ls i0_6 hn_6 hl hw hV
                  refine lv_iload S.1 S.2.1 dX11_tree_36 (lv_at hl 7 rfl) ?_
                  refine lv_aload_n S.1 S.2.1 dX11_tree_38 rfl (lv_at hl 0 rfl) ?_
                  refine xget (v := .int (u.1 0 5)) S hK hw 0 rfl rfl inX11 5 (by decide) mfX11_76 rfl dX11_tree_39 ?_
                  refine lv_icmp_ge (tgt := 123) S.1 S.2.1 dX11_tree_42 (by decide) (fun c_7 => ?_) (fun c_7 => ?_)
                  · replace hV := hV.trans (if_pos c_7)
                    have gc_7 : ((u.1 0 5)).toInt ≤ (x7_6).toInt := xq_le c_7 rfl rfl
                    refine lv_iinc (v := (x6_3 + (1 : Int32))) (lv' := [(6, .int (x6_3 + (1 : Int32))), (0, .ref (a 0)), (1, .int x1_1), (2, .int x2_1), (3, .int x3_1), (4, .int x4_6), (5, .int x5_6), (7, .int x7_6)]) S.1 S.2.1 dX11_tree_123 hl (k := 6) rfl rfl (by decide) rfl (fun ls hl => ?_)
                    refine lv_goto (tgt := 24) S.1 S.2.1 dX11_tree_126 (by decide) ?_
                    have e_8 : ∀ _ : Unit, ((x6_3 + (1 : Int32))).toInt = (x6_3).toInt + 1 := fun _ => xadd rfl rfl (by omega) (by omega)
                    clear hn_1 hn_6
                    exact ih_3 x4_6 x5_6 (x6_3 + (1 : Int32)) _ _ _ (show 0 ≤ ((x6_3 + (1 : Int32))).toInt from by rw [(e_8 ())]; omega) (show ((u.1 0 5)).toInt - ((x6_3 + (1 : Int32))).toInt < (n_3 : Int) ∧ 1 ≤ n_3 from by rw [(e_8 ())]; omega) (lv_sub hl [1, 2, 3, 4, 5, 6, 0] rfl) hw hV
                  · replace hV := hV.trans (if_neg c_7)
                    have gc_7 : (x7_6).toInt < ((u.1 0 5)).toInt := xq_nle c_7 rfl rfl
                    refine lv_iload_n S.1 S.2.1 dX11_tree_45 rfl (lv_at hl 1 rfl) ?_
                    refine lv_iload S.1 S.2.1 dX11_tree_46 (lv_at hl 6 rfl) ?_
                    refine xcP (rest := []) S hw yfX11_has (c_m_has l x1_1 x6_3) mlX11_140 rfl rfl hl.1 ⟨rfl, rfl, Nat.le_of_ble_eq_true rfl, Nat.le_of_ble_eq_true rfl, Nat.le_of_ble_eq_true rfl, Nat.zero_le _, Nat.zero_le _⟩ dX11_tree_48 (fun H locs hw => ?_)
                    refine lv_if_eq (tgt := 80) S.1 S.2.1 dX11_tree_51 (by decide) (fun c_9 => ?_) (fun c_9 => ?_)
                    · replace hV := hV.trans (if_pos c_9)
                      have gc_9 : ((b2i (m_has x1_1 x6_3))).toInt = 0 := xq_eq c_9 rfl rfl
                      refine lv_iconst (v := 0) S.1 S.2.1 dX11_tree_80 (by decide) ?_
                      refine lv_istore (lv' := [(8, .int (0 : Int32)), (0, .ref (a 0)), (1, .int x1_1), (2, .int x2_1), (3, .int x3_1), (4, .int x4_6), (5, .int x5_6), (6, .int x6_3), (7, .int x7_6)]) S.1 S.2.1 dX11_tree_81 hl (by decide) rfl (fun ls hl => ?_)
                      refine lv_iload S.1 S.2.1 dX11_tree_83 (lv_at hl 0 rfl) ?_
                      refine lv_if_eq (tgt := 93) S.1 S.2.1 dX11_tree_85 (by decide) (fun c_10 => ?_) (fun c_10 => ?_)
                      · refine lv_iload S.1 S.2.1 dX11_tree_93 (lv_at hl 6 rfl) ?_
                        refine lv_istore (lv' := [(5, .int x5_6), (8, .int (0 : Int32)), (0, .ref (a 0)), (1, .int x1_1), (2, .int x2_1), (3, .int x3_1), (4, .int x4_6), (6, .int x6_3), (7, .int x7_6)]) S.1 S.2.1 dX11_tree_95 hl (by decide) rfl (fun ls hl => ?_)
                        refine lv_iload S.1 S.2.1 dX11_tree_97 (lv_at hl 1 rfl) ?_
                        refine lv_if_eq (tgt := 113) S.1 S.2.1 dX11_tree_99 (by decide) (fun c_11 => ?_) (fun c_11 => ?_)
                        · refine lv_iload S.1 S.2.1 dX11_tree_113 (lv_at hl 6 rfl) ?_
                          refine lv_istore (lv' := [(4, .int x4_6), (5, .int x5_6), (8, .int (0 : Int32)), (0, .ref (a 0)), (1, .int x1_1), (2, .int x2_1), (3, .int x3_1), (6, .int x6_3), (7, .int x7_6)]) S.1 S.2.1 dX11_tree_115 hl (by decide) rfl (fun ls hl => ?_)
                          refine lv_iinc (v := (x7_6 + (1 : Int32))) (lv' := [(7, .int (x7_6 + (1 : Int32))), (4, .int x4_6), (5, .int x5_6), (8, .int (0 : Int32)), (0, .ref (a 0)), (1, .int x1_1), (2, .int x2_1), (3, .int x3_1), (6, .int x6_3)]) S.1 S.2.1 dX11_tree_117 hl (k := 8) rfl rfl (by decide) rfl (fun ls hl => ?_)
                          refine lv_goto (tgt := 36) S.1 S.2.1 dX11_tree_120 (by decide) ?_
                          have e_12 : ∀ _ : Unit, ((x7_6 + (1 : Int32))).toInt = (x7_6).toInt + 1 := fun _ => xadd rfl rfl (by omega) (by omega)
                          clear hn_1 hn_3
                          exact ih_6 x4_6 x5_6 (x7_6 + (1 : Int32)) _ _ _ (show 0 ≤ ((x7_6 + (1 : Int32))).toInt from by rw [(e_12 ())]; omega) (show ((u.1 0 5)).toInt - ((x7_6 + (1 : Int32))).toInt < (n_6 : Int) ∧ 1 ≤ n_6 from by rw [(e_12 ())]; omega) (lv_sub hl [4, 5, 6, 7, 1, 2, 8, 0] rfl) hw hV
                        · exact absurd c_11 (by decide)
                      · exact absurd c_10 (by decide)
                    · replace hV := hV.trans (if_neg c_9)
                      have gc_9 : ¬ ((b2i (m_has x1_1 x6_3))).toInt = 0 := xq_ne c_9 rfl rfl
                      refine lv_iload_n S.1 S.2.1 dX11_tree_54 rfl (lv_at hl 1 rfl) ?_
                      refine lv_iload S.1 S.2.1 dX11_tree_55 (lv_at hl 7 rfl) ?_
                      refine xcP (rest := []) S hw yfX11_has (c_m_has l x1_1 x7_6) mlX11_140 rfl rfl hl.1 ⟨rfl, rfl, Nat.le_of_ble_eq_true rfl, Nat.le_of_ble_eq_true rfl, Nat.le_of_ble_eq_true rfl, Nat.zero_le _, Nat.zero_le _⟩ dX11_tree_57 (fun H locs hw => ?_)
                      refine lv_if_ne (tgt := 80) S.1 S.2.1 dX11_tree_60 (by decide) (fun c_13 => ?_) (fun c_13 => ?_)
                      · replace hV := hV.trans (if_neg c_13)
                        have gc_13 : ¬ ((b2i (m_has x1_1 x7_6))).toInt = 0 := xq_ne c_13 rfl rfl
                        refine lv_iconst (v := 0) S.1 S.2.1 dX11_tree_80 (by decide) ?_
                        refine lv_istore (lv' := [(8, .int (0 : Int32)), (0, .ref (a 0)), (1, .int x1_1), (2, .int x2_1), (3, .int x3_1), (4, .int x4_6), (5, .int x5_6), (6, .int x6_3), (7, .int x7_6)]) S.1 S.2.1 dX11_tree_81 hl (by decide) rfl (fun ls hl => ?_)
                        refine lv_iload S.1 S.2.1 dX11_tree_83 (lv_at hl 0 rfl) ?_
                        refine lv_if_eq (tgt := 93) S.1 S.2.1 dX11_tree_85 (by decide) (fun c_14 => ?_) (fun c_14 => ?_)
                        · refine lv_iload S.1 S.2.1 dX11_tree_93 (lv_at hl 6 rfl) ?_
                          refine lv_istore (lv' := [(5, .int x5_6), (8, .int (0 : Int32)), (0, .ref (a 0)), (1, .int x1_1), (2, .int x2_1), (3, .int x3_1), (4, .int x4_6), (6, .int x6_3), (7, .int x7_6)]) S.1 S.2.1 dX11_tree_95 hl (by decide) rfl (fun ls hl => ?_)
                          refine lv_iload S.1 S.2.1 dX11_tree_97 (lv_at hl 1 rfl) ?_
                          refine lv_if_eq (tgt := 113) S.1 S.2.1 dX11_tree_99 (by decide) (fun c_15 => ?_) (fun c_15 => ?_)
                          · refine lv_iload S.1 S.2.1 dX11_tree_113 (lv_at hl 6 rfl) ?_
                            refine lv_istore (lv' := [(4, .int x4_6), (5, .int x5_6), (8, .int (0 : Int32)), (0, .ref (a 0)), (1, .int x1_1), (2, .int x2_1), (3, .int x3_1), (6, .int x6_3), (7, .int x7_6)]) S.1 S.2.1 dX11_tree_115 hl (by decide) rfl (fun ls hl => ?_)
                            refine lv_iinc (v := (x7_6 + (1 : Int32))) (lv' := [(7, .int (x7_6 + (1 : Int32))), (4, .int x4_6), (5, .int x5_6), (8, .int (0 : Int32)), (0, .ref (a 0)), (1, .int x1_1), (2, .int x2_1), (3, .int x3_1), (6, .int x6_3)]) S.1 S.2.1 dX11_tree_117 hl (k := 8) rfl rfl (by decide) rfl (fun ls hl => ?_)
                            refine lv_goto (tgt := 36) S.1 S.2.1 dX11_tree_120 (by decide) ?_
                            have e_16 : ∀ _ : Unit, ((x7_6 + (1 : Int32))).toInt = (x7_6).toInt + 1 := fun _ => xadd rfl rfl (by omega) (by omega)
                            clear hn_1 hn_3
                            exact ih_6 x4_6 x5_6 (x7_6 + (1 : Int32)) _ _ _ (show 0 ≤ ((x7_6 + (1 : Int32))).toInt from by rw [(e_16 ())]; omega) (show ((u.1 0 5)).toInt - ((x7_6 + (1 : Int32))).toInt < (n_6 : Int) ∧ 1 ≤ n_6 from by rw [(e_16 ())]; omega) (lv_sub hl [4, 5, 6, 7, 1, 2, 8, 0] rfl) hw hV
                          · exact absurd c_15 (by decide)
                        · exact absurd c_14 (by decide)
                      · replace hV := hV.trans (if_pos c_13)
                        have gc_13 : ((b2i (m_has x1_1 x7_6))).toInt = 0 := xq_eq c_13 rfl rfl
                        refine lv_aload_n S.1 S.2.1 dX11_tree_63 rfl (lv_at hl 0 rfl) ?_
                        refine lv_iload S.1 S.2.1 dX11_tree_64 (lv_at hl 6 rfl) ?_
                        refine lv_iload S.1 S.2.1 dX11_tree_66 (lv_at hl 7 rfl) ?_
                        refine xci (rest := []) S hK hE hA hw yfX11_between (c_m_between l D a Y ts _ x6_3 x7_6 (show (0 ≤ ((u.1 0 0)).toInt ∧ ((u.1 0 0)).toInt ≤ 8) from by omega) (show (0 ≤ ((u.1 0 5)).toInt ∧ ((u.1 0 5)).toInt ≤ 6) from by omega) (show 0 ≤ (x6_3).toInt ∧ (x6_3).toInt < 6 from by omega) (show 0 ≤ (x7_6).toInt ∧ (x7_6).toInt < 6 from by omega)) 0 rfl rfl mlX11_215 rfl rfl hl.1 ⟨rfl, rfl, Nat.le_of_ble_eq_true rfl, Nat.le_of_ble_eq_true rfl, Nat.le_of_ble_eq_true rfl, Nat.zero_le _, Nat.zero_le _⟩ dX11_tree_68 (fun H locs hw => ?_)
                        refine lv_iload S.1 S.2.1 dX11_tree_71 (lv_at hl 4 rfl) ?_
                        refine lv_icmp_ge (tgt := 80) S.1 S.2.1 dX11_tree_73 (by decide) (fun c_17 => ?_) (fun c_17 => ?_)
                        · replace hV := hV.trans (if_pos c_17)
                          have gc_17 : (x4_6).toInt ≤ ((m_between u x6_3 x7_6)).toInt := xq_le c_17 rfl rfl
                          refine lv_iconst (v := 0) S.1 S.2.1 dX11_tree_80 (by decide) ?_
                          refine lv_istore (lv' := [(8, .int (0 : Int32)), (0, .ref (a 0)), (1, .int x1_1), (2, .int x2_1), (3, .int x3_1), (4, .int x4_6), (5, .int x5_6), (6, .int x6_3), (7, .int x7_6)]) S.1 S.2.1 dX11_tree_81 hl (by decide) rfl (fun ls hl => ?_)
                          refine lv_iload S.1 S.2.1 dX11_tree_83 (lv_at hl 0 rfl) ?_
                          refine lv_if_eq (tgt := 93) S.1 S.2.1 dX11_tree_85 (by decide) (fun c_18 => ?_) (fun c_18 => ?_)
                          · refine lv_iload S.1 S.2.1 dX11_tree_93 (lv_at hl 6 rfl) ?_
                            refine lv_istore (lv' := [(5, .int x5_6), (8, .int (0 : Int32)), (0, .ref (a 0)), (1, .int x1_1), (2, .int x2_1), (3, .int x3_1), (4, .int x4_6), (6, .int x6_3), (7, .int x7_6)]) S.1 S.2.1 dX11_tree_95 hl (by decide) rfl (fun ls hl => ?_)
                            refine lv_iload S.1 S.2.1 dX11_tree_97 (lv_at hl 1 rfl) ?_
                            refine lv_if_eq (tgt := 113) S.1 S.2.1 dX11_tree_99 (by decide) (fun c_19 => ?_) (fun c_19 => ?_)
                            · refine lv_iload S.1 S.2.1 dX11_tree_113 (lv_at hl 6 rfl) ?_
                              refine lv_istore (lv' := [(4, .int x4_6), (5, .int x5_6), (8, .int (0 : Int32)), (0, .ref (a 0)), (1, .int x1_1), (2, .int x2_1), (3, .int x3_1), (6, .int x6_3), (7, .int x7_6)]) S.1 S.2.1 dX11_tree_115 hl (by decide) rfl (fun ls hl => ?_)
                              refine lv_iinc (v := (x7_6 + (1 : Int32))) (lv' := [(7, .int (x7_6 + (1 : Int32))), (4, .int x4_6), (5, .int x5_6), (8, .int (0 : Int32)), (0, .ref (a 0)), (1, .int x1_1), (2, .int x2_1), (3, .int x3_1), (6, .int x6_3)]) S.1 S.2.1 dX11_tree_117 hl (k := 8) rfl rfl (by decide) rfl (fun ls hl => ?_)
                              refine lv_goto (tgt := 36) S.1 S.2.1 dX11_tree_120 (by decide) ?_
                              have e_20 : ∀ _ : Unit, ((x7_6 + (1 : Int32))).toInt = (x7_6).toInt + 1 := fun _ => xadd rfl rfl (by omega) (by omega)
                              clear hn_1 hn_3
                              exact ih_6 x4_6 x5_6 (x7_6 + (1 : Int32)) _ _ _ (show 0 ≤ ((x7_6 + (1 : Int32))).toInt from by rw [(e_20 ())]; omega) (show ((u.1 0 5)).toInt - ((x7_6 + (1 : Int32))).toInt < (n_6 : Int) ∧ 1 ≤ n_6 from by rw [(e_20 ())]; omega) (lv_sub hl [4, 5, 6, 7, 1, 2, 8, 0] rfl) hw hV
                            · exact absurd c_19 (by decide)
                          · exact absurd c_18 (by decide)
                        · replace hV := hV.trans (if_neg c_17)
                          have gc_17 : ((m_between u x6_3 x7_6)).toInt < (x4_6).toInt := xq_nle c_17 rfl rfl
                          refine lv_iconst (v := 1) S.1 S.2.1 dX11_tree_76 (by decide) ?_
                          refine lv_goto (tgt := 81) S.1 S.2.1 dX11_tree_77 (by decide) ?_
                          refine lv_istore (lv' := [(8, .int (1 : Int32)), (0, .ref (a 0)), (1, .int x1_1), (2, .int x2_1), (3, .int x3_1), (4, .int x4_6), (5, .int x5_6), (6, .int x6_3), (7, .int x7_6)]) S.1 S.2.1 dX11_tree_81 hl (by decide) rfl (fun ls hl => ?_)
                          refine lv_iload S.1 S.2.1 dX11_tree_83 (lv_at hl 0 rfl) ?_
                          refine lv_if_eq (tgt := 93) S.1 S.2.1 dX11_tree_85 (by decide) (fun c_21 => ?_) (fun c_21 => ?_)
                          · exact absurd c_21 (by decide)
                          · refine lv_iload S.1 S.2.1 dX11_tree_88 (lv_at hl 8 rfl) ?_
                            refine lv_goto (tgt := 95) S.1 S.2.1 dX11_tree_90 (by decide) ?_
                            refine lv_istore (lv' := [(5, .int x7_6), (8, .int (1 : Int32)), (0, .ref (a 0)), (1, .int x1_1), (2, .int x2_1), (3, .int x3_1), (4, .int x4_6), (6, .int x6_3), (7, .int x7_6)]) S.1 S.2.1 dX11_tree_95 hl (by decide) rfl (fun ls hl => ?_)
                            refine lv_iload S.1 S.2.1 dX11_tree_97 (lv_at hl 1 rfl) ?_
                            refine lv_if_eq (tgt := 113) S.1 S.2.1 dX11_tree_99 (by decide) (fun c_22 => ?_) (fun c_22 => ?_)
                            · exact absurd c_22 (by decide)
                            · refine lv_aload_n S.1 S.2.1 dX11_tree_102 rfl (lv_at hl 2 rfl) ?_
                              refine lv_iload S.1 S.2.1 dX11_tree_103 (lv_at hl 7 rfl) ?_
                              refine lv_iload S.1 S.2.1 dX11_tree_105 (lv_at hl 8 rfl) ?_
                              refine xci (rest := []) S hK hE hA hw yfX11_between (c_m_between l D a Y ts _ x6_3 x7_6 (show (0 ≤ ((u.1 0 0)).toInt ∧ ((u.1 0 0)).toInt ≤ 8) from by omega) (show (0 ≤ ((u.1 0 5)).toInt ∧ ((u.1 0 5)).toInt ≤ 6) from by omega) (show 0 ≤ (x6_3).toInt ∧ (x6_3).toInt < 6 from by omega) (show 0 ≤ (x7_6).toInt ∧ (x7_6).toInt < 6 from by omega)) 0 rfl rfl mlX11_215 rfl rfl hl.1 ⟨rfl, rfl, Nat.le_of_ble_eq_true rfl, Nat.le_of_ble_eq_true rfl, Nat.le_of_ble_eq_true rfl, Nat.zero_le _, Nat.zero_le _⟩ dX11_tree_107 (fun H locs hw => ?_)
                              refine lv_goto (tgt := 115) S.1 S.2.1 dX11_tree_110 (by decide) ?_
                              refine lv_istore (lv' := [(4, .int (m_between u x6_3 x7_6)), (5, .int x7_6), (8, .int (1 : Int32)), (0, .ref (a 0)), (1, .int x1_1), (2, .int x2_1), (3, .int x3_1), (6, .int x6_3), (7, .int x7_6)]) S.1 S.2.1 dX11_tree_115 hl (by decide) rfl (fun ls hl => ?_)
                              refine lv_iinc (v := (x7_6 + (1 : Int32))) (lv' := [(7, .int (x7_6 + (1 : Int32))), (4, .int (m_between u x6_3 x7_6)), (5, .int x7_6), (8, .int (1 : Int32)), (0, .ref (a 0)), (1, .int x1_1), (2, .int x2_1), (3, .int x3_1), (6, .int x6_3)]) S.1 S.2.1 dX11_tree_117 hl (k := 8) rfl rfl (by decide) rfl (fun ls hl => ?_)
                              refine lv_goto (tgt := 36) S.1 S.2.1 dX11_tree_120 (by decide) ?_
                              have e_23 : ∀ _ : Unit, ((x7_6 + (1 : Int32))).toInt = (x7_6).toInt + 1 := fun _ => xadd rfl rfl (by omega) (by omega)
                              clear hn_1 hn_3
                              exact ih_6 (m_between u x6_3 x7_6) x7_6 (x7_6 + (1 : Int32)) _ _ _ (show 0 ≤ ((x7_6 + (1 : Int32))).toInt from by rw [(e_23 ())]; omega) (show ((u.1 0 5)).toInt - ((x7_6 + (1 : Int32))).toInt < (n_6 : Int) ∧ 1 ≤ n_6 from by rw [(e_23 ())]; omega) (lv_sub hl [4, 5, 6, 7, 1, 2, 8, 0] rfl) hw hV
              exact lp_6 7 x4_3 x5_3 (0 : Int32) _ _ _ (show 0 ≤ 0 from by omega) (show ((u.1 0 5)).toInt - 0 < ((7 : Nat) : Int) ∧ 1 ≤ (7 : Nat) from by omega) (lv_sub hl [1, 2, 3, 4, 5, 6, 7, 0] rfl) hw hV
        exact lp_3 7 (99 : Int32) (0 : Int32) (0 : Int32) _ _ _ (show 0 ≤ 0 from by omega) (show ((u.1 0 5)).toInt - 0 < ((7 : Nat) : Int) ∧ 1 ≤ (7 : Nat) from by omega) (lv_sub hl [3, 4, 5, 6, 2, 1, 0] rfl) hw hV
  exact lp_1 7 (1 : Int32) (0 : Int32) (1 : Int32) _ _ _ (show 0 ≤ 1 from by omega) (show ((u.1 0 5)).toInt - 1 < ((7 : Nat) : Int) ∧ 1 ≤ (7 : Nat) from by omega) (lv_sub hl [3, 2, 1, 0] rfl) hw hV
def m_who_L17 (kk : Int32 → Int32 → Int32) (w : xU) (x1 : Int32) (x2 : Int32) : Nat → Int32 → Int32 → Int32
  | 0, _, _ => 0
  | n + 1, x3, x4 =>
    (if (w.1 0 11) ≤ x4 then
    (if x3 = (0 : Int32) then
    kk (x1 ||| (0 : Int32)) (x2 + (1 : Int32))
    else
    kk (x1 ||| ((1 : Int32) <<< (x2 &&& 31))) (x2 + (1 : Int32)))
    else
    (if x3 = (0 : Int32) then
    m_who_L17 kk w x1 x2 n (0 : Int32) (x4 + (1 : Int32))
    else
    (if (w.1 10 ((((2 : Int32) * x4) + (1 : Int32))).toNatClampNeg) = (1 : Int32) then
    (if (b2i (m_can w x2 (w.1 10 (((2 : Int32) * x4)).toNatClampNeg))) = (1 : Int32) then
    m_who_L17 kk w x1 x2 n (1 : Int32) (x4 + (1 : Int32))
    else
    m_who_L17 kk w x1 x2 n (0 : Int32) (x4 + (1 : Int32)))
    else
    (if (b2i (m_can w x2 (w.1 10 (((2 : Int32) * x4)).toNatClampNeg))) = (0 : Int32) then
    m_who_L17 kk w x1 x2 n (1 : Int32) (x4 + (1 : Int32))
    else
    m_who_L17 kk w x1 x2 n (0 : Int32) (x4 + (1 : Int32))))))
def m_who_L4 (w : xU) : Nat → Int32 → Int32 → Int32
  | 0, _, _ => 0
  | n + 1, x1, x2 =>
    (if (w.1 0 5) ≤ x2 then
    x1
    else
    m_who_L17 (fun (z1 : Int32) (z2 : Int32) => m_who_L4 w n z1 z2) w x1 x2 7 (1 : Int32) (0 : Int32))
def m_who (u : xU) : Int32 :=
    m_who_L4 u 7 (0 : Int32) (0 : Int32)
set_option maxHeartbeats 4000000 in
set_option maxRecDepth 100000 in
theorem c_m_who (l : Launch) (D : va_G) (a : Nat → Nat) (Y : Nat → ClassId) (ts : Nat → Nat) (u : xU) (hT : (0 ≤ ((u.1 0 0)).toInt ∧ ((u.1 0 0)).toInt ≤ 8)) (hC : (0 ≤ ((u.1 0 5)).toInt ∧ ((u.1 0 5)).toInt ≤ 6)) (hH : (0 ≤ ((u.1 0 11)).toInt ∧ ((u.1 0 11)).toInt ≤ 6)) : xMi l yX11_who cX11_who 5 (some .int) (xRm 2 43) D (xty Y) (wM a Y) ts [.ref (a 0)] u ((m_who u), u) := by
  suffices h : ∀ V, V = m_who u → xMi l yX11_who cX11_who 5 (some .int) (xRm 2 43) D (xty Y) (wM a Y) ts [.ref (a 0)] u (V, u) from h _ rfl
  intro V hV
  refine xofi RX11 rfl (by decide) (Nat.le_of_ble_eq_true rfl) ?_
  intro p e s m args below meth c ls H locs A S hr hlk hl hK hE hA hw
  have hl : lv_has ls 5 [(0, .ref (a 0))] := hl
  refine lv_iconst (v := 0) S.1 S.2.1 dX11_who_0 (by decide) ?_
  refine lv_istore_n (lv' := [(1, .int (0 : Int32)), (0, .ref (a 0))]) S.1 S.2.1 dX11_who_1 rfl hl (by decide) rfl (fun ls hl => ?_)
  refine lv_iconst (v := 0) S.1 S.2.1 dX11_who_2 (by decide) ?_
  refine lv_istore_n (lv' := [(2, .int (0 : Int32)), (1, .int (0 : Int32)), (0, .ref (a 0))]) S.1 S.2.1 dX11_who_3 rfl hl (by decide) rfl (fun ls hl => ?_)
  have lp_1 : ∀ (n_1 : Nat) (x1_1 : Int32) (x2_1 : Int32) (H : Heap) (locs : List Loc) (ls : Array Slot), (0 ≤ (x2_1).toInt) → (((u.1 0 5)).toInt - (x2_1).toInt < (n_1 : Int) ∧ 1 ≤ n_1) → lv_has ls 5 [(0, .ref (a 0)), (1, .int x1_1), (2, .int x2_1)] → xw D (wM a Y) A s.heap H locs u → V = m_who_L4 u n_1 x1_1 x2_1 → W p l e (xRm 2 43) s m args below meth c H locs 0 0 (MQ below (va_Qi (fun r v => (r, v) = (V, u)) (xPost D (wM a Y) A) A) args s 0 0 A) (F0 m 4 ls []) := by
    intro n_1
    induction n_1 with
    | zero => intro x1_1 x2_1 H locs ls i0_1 hn; exact absurd hn.2 (by decide)
    | succ n_1 ih_1 =>
      intro x1_1 x2_1 H locs ls i0_1 hn_1 hl hw hV
      refine lv_iload_n S.1 S.2.1 dX11_who_4 rfl (lv_at hl 2 rfl) ?_
      refine lv_aload_n S.1 S.2.1 dX11_who_5 rfl (lv_at hl 0 rfl) ?_
      refine xget (v := .int (u.1 0 5)) S hK hw 0 rfl rfl inX11 5 (by decide) mfX11_76 rfl dX11_who_6 ?_
      refine lv_icmp_ge (tgt := 99) S.1 S.2.1 dX11_who_9 (by decide) (fun c_2 => ?_) (fun c_2 => ?_)
      · replace hV := hV.trans (if_pos c_2)
        have gc_2 : ((u.1 0 5)).toInt ≤ (x2_1).toInt := xq_le c_2 rfl rfl
        refine lv_iload_n S.1 S.2.1 dX11_who_99 rfl (lv_at hl 1 rfl) ?_
        exact xri S hr hlk hw (congrArg (fun b => (b, u)) hV) dX11_who_100
      · replace hV := hV.trans (if_neg c_2)
        have gc_2 : (x2_1).toInt < ((u.1 0 5)).toInt := xq_nle c_2 rfl rfl
        refine lv_iconst (v := 1) S.1 S.2.1 dX11_who_12 (by decide) ?_
        refine lv_istore_n (lv' := [(3, .int (1 : Int32)), (0, .ref (a 0)), (1, .int x1_1), (2, .int x2_1)]) S.1 S.2.1 dX11_who_13 rfl hl (by decide) rfl (fun ls hl => ?_)
        refine lv_iconst (v := 0) S.1 S.2.1 dX11_who_14 (by decide) ?_
        refine lv_istore (lv' := [(4, .int (0 : Int32)), (3, .int (1 : Int32)), (0, .ref (a 0)), (1, .int x1_1), (2, .int x2_1)]) S.1 S.2.1 dX11_who_15 hl (by decide) rfl (fun ls hl => ?_)
        have lp_3 : ∀ (n_3 : Nat) (x3_3 : Int32) (x4_3 : Int32) (H : Heap) (locs : List Loc) (ls : Array Slot), (0 ≤ (x4_3).toInt) → (((u.1 0 11)).toInt - (x4_3).toInt < (n_3 : Int) ∧ 1 ≤ n_3) → lv_has ls 5 [(0, .ref (a 0)), (1, .int x1_1), (2, .int x2_1), (3, .int x3_3), (4, .int x4_3)] → xw D (wM a Y) A s.heap H locs u → V = m_who_L17 (fun (z1 : Int32) (z2 : Int32) => m_who_L4 u n_1 z1 z2) u x1_1 x2_1 n_3 x3_3 x4_3 → W p l e (xRm 2 43) s m args below meth c H locs 0 0 (MQ below (va_Qi (fun r v => (r, v) = (V, u)) (xPost D (wM a Y) A) A) args s 0 0 A) (F0 m 17 ls []) := by
          intro n_3
          induction n_3 with
          | zero => intro x3_3 x4_3 H locs ls i0_3 hn; exact absurd hn.2 (by decide)
          | succ n_3 ih_3 =>
            intro x3_3 x4_3 H locs ls i0_3 hn_3 hl hw hV
            refine lv_iload S.1 S.2.1 dX11_who_17 (lv_at hl 4 rfl) ?_
            refine lv_aload_n S.1 S.2.1 dX11_who_19 rfl (lv_at hl 0 rfl) ?_
            refine xget (v := .int (u.1 0 11)) S hK hw 0 rfl rfl inX11 11 (by decide) mfX11_137 rfl dX11_who_20 ?_
            refine lv_icmp_ge (tgt := 79) S.1 S.2.1 dX11_who_23 (by decide) (fun c_4 => ?_) (fun c_4 => ?_)
            · replace hV := hV.trans (if_pos c_4)
              have gc_4 : ((u.1 0 11)).toInt ≤ (x4_3).toInt := xq_le c_4 rfl rfl
              refine lv_iload_n S.1 S.2.1 dX11_who_79 rfl (lv_at hl 1 rfl) ?_
              refine lv_iload_n S.1 S.2.1 dX11_who_80 rfl (lv_at hl 3 rfl) ?_
              refine lv_if_eq (tgt := 90) S.1 S.2.1 dX11_who_81 (by decide) (fun c_5 => ?_) (fun c_5 => ?_)
              · replace hV := hV.trans (if_pos c_5)
                have gc_5 : (x3_3).toInt = 0 := xq_eq c_5 rfl rfl
                refine lv_iconst (v := 0) S.1 S.2.1 dX11_who_90 (by decide) ?_
                refine lv_ior S.1 S.2.1 dX11_who_91 ?_
                refine lv_istore_n (lv' := [(1, .int (x1_1 ||| (0 : Int32))), (0, .ref (a 0)), (2, .int x2_1), (3, .int x3_3), (4, .int x4_3)]) S.1 S.2.1 dX11_who_92 rfl hl (by decide) rfl (fun ls hl => ?_)
                refine lv_iinc (v := (x2_1 + (1 : Int32))) (lv' := [(2, .int (x2_1 + (1 : Int32))), (1, .int (x1_1 ||| (0 : Int32))), (0, .ref (a 0)), (3, .int x3_3), (4, .int x4_3)]) S.1 S.2.1 dX11_who_93 hl (k := 2) rfl rfl (by decide) rfl (fun ls hl => ?_)
                refine lv_goto (tgt := 4) S.1 S.2.1 dX11_who_96 (by decide) ?_
                have e_6 : ∀ _ : Unit, ((x2_1 + (1 : Int32))).toInt = (x2_1).toInt + 1 := fun _ => xadd rfl rfl (by omega) (by omega)
                clear hn_3
                exact ih_1 (x1_1 ||| (0 : Int32)) (x2_1 + (1 : Int32)) _ _ _ (show 0 ≤ ((x2_1 + (1 : Int32))).toInt from by rw [(e_6 ())]; omega) (show ((u.1 0 5)).toInt - ((x2_1 + (1 : Int32))).toInt < (n_1 : Int) ∧ 1 ≤ n_1 from by rw [(e_6 ())]; omega) (lv_sub hl [2, 1, 0] rfl) hw hV
              · replace hV := hV.trans (if_neg c_5)
                have gc_5 : ¬ (x3_3).toInt = 0 := xq_ne c_5 rfl rfl
                refine lv_iconst (v := 1) S.1 S.2.1 dX11_who_84 (by decide) ?_
                refine lv_iload_n S.1 S.2.1 dX11_who_85 rfl (lv_at hl 2 rfl) ?_
                refine lv_ishl S.1 S.2.1 dX11_who_86 ?_
                refine lv_goto (tgt := 91) S.1 S.2.1 dX11_who_87 (by decide) ?_
                refine lv_ior S.1 S.2.1 dX11_who_91 ?_
                refine lv_istore_n (lv' := [(1, .int (x1_1 ||| ((1 : Int32) <<< (x2_1 &&& 31)))), (0, .ref (a 0)), (2, .int x2_1), (3, .int x3_3), (4, .int x4_3)]) S.1 S.2.1 dX11_who_92 rfl hl (by decide) rfl (fun ls hl => ?_)
                refine lv_iinc (v := (x2_1 + (1 : Int32))) (lv' := [(2, .int (x2_1 + (1 : Int32))), (1, .int (x1_1 ||| ((1 : Int32) <<< (x2_1 &&& 31)))), (0, .ref (a 0)), (3, .int x3_3), (4, .int x4_3)]) S.1 S.2.1 dX11_who_93 hl (k := 2) rfl rfl (by decide) rfl (fun ls hl => ?_)
                refine lv_goto (tgt := 4) S.1 S.2.1 dX11_who_96 (by decide) ?_
                have e_7 : ∀ _ : Unit, ((x2_1 + (1 : Int32))).toInt = (x2_1).toInt + 1 := fun _ => xadd rfl rfl (by omega) (by omega)
                clear hn_3
                exact ih_1 (x1_1 ||| ((1 : Int32) <<< (x2_1 &&& 31))) (x2_1 + (1 : Int32)) _ _ _ (show 0 ≤ ((x2_1 + (1 : Int32))).toInt from by rw [(e_7 ())]; omega) (show ((u.1 0 5)).toInt - ((x2_1 + (1 : Int32))).toInt < (n_1 : Int) ∧ 1 ≤ n_1 from by rw [(e_7 ())]; omega) (lv_sub hl [2, 1, 0] rfl) hw hV
            · replace hV := hV.trans (if_neg c_4)
              have gc_4 : (x4_3).toInt < ((u.1 0 11)).toInt := xq_nle c_4 rfl rfl
              refine lv_iload_n S.1 S.2.1 dX11_who_26 rfl (lv_at hl 3 rfl) ?_
              refine lv_if_eq (tgt := 71) S.1 S.2.1 dX11_who_27 (by decide) (fun c_8 => ?_) (fun c_8 => ?_)
              · replace hV := hV.trans (if_pos c_8)
                have gc_8 : (x3_3).toInt = 0 := xq_eq c_8 rfl rfl
                refine lv_iconst (v := 0) S.1 S.2.1 dX11_who_71 (by decide) ?_
                refine lv_istore_n (lv' := [(3, .int (0 : Int32)), (0, .ref (a 0)), (1, .int x1_1), (2, .int x2_1), (4, .int x4_3)]) S.1 S.2.1 dX11_who_72 rfl hl (by decide) rfl (fun ls hl => ?_)
                refine lv_iinc (v := (x4_3 + (1 : Int32))) (lv' := [(4, .int (x4_3 + (1 : Int32))), (3, .int (0 : Int32)), (0, .ref (a 0)), (1, .int x1_1), (2, .int x2_1)]) S.1 S.2.1 dX11_who_73 hl (k := 4) rfl rfl (by decide) rfl (fun ls hl => ?_)
                refine lv_goto (tgt := 17) S.1 S.2.1 dX11_who_76 (by decide) ?_
                have e_9 : ∀ _ : Unit, ((x4_3 + (1 : Int32))).toInt = (x4_3).toInt + 1 := fun _ => xadd rfl rfl (by omega) (by omega)
                clear hn_1
                exact ih_3 (0 : Int32) (x4_3 + (1 : Int32)) _ _ _ (show 0 ≤ ((x4_3 + (1 : Int32))).toInt from by rw [(e_9 ())]; omega) (show ((u.1 0 11)).toInt - ((x4_3 + (1 : Int32))).toInt < (n_3 : Int) ∧ 1 ≤ n_3 from by rw [(e_9 ())]; omega) (lv_sub hl [2, 3, 4, 1, 0] rfl) hw hV
              · replace hV := hV.trans (if_neg c_8)
                have gc_8 : ¬ (x3_3).toInt = 0 := xq_ne c_8 rfl rfl
                refine lv_aload_n S.1 S.2.1 dX11_who_30 rfl (lv_at hl 0 rfl) ?_
                refine lv_iload_n S.1 S.2.1 dX11_who_31 rfl (lv_at hl 2 rfl) ?_
                refine lv_aload_n S.1 S.2.1 dX11_who_32 rfl (lv_at hl 0 rfl) ?_
                refine xget (v := .ref (a 10)) S hK hw 0 rfl rfl inX11 12 (by decide) mfX11_38 rfl dX11_who_33 ?_
                refine lv_iconst (v := 2) S.1 S.2.1 dX11_who_36 (by decide) ?_
                refine lv_iload S.1 S.2.1 dX11_who_37 (lv_at hl 4 rfl) ?_
                refine lv_imul S.1 S.2.1 dX11_who_39 ?_
                have e_10 : ∀ _ : Unit, (((2 : Int32) * x4_3)).toInt = 2 * (x4_3).toInt := fun _ => xmul rfl rfl (by omega) (by omega)
                refine xald (f := u.1 10) S hK hw 10 0 rfl rfl (xvi (e_10 ()) (by omega) (by omega)) dX11_who_40 ?_
                refine xci (rest := []) S hK hE hA hw yfX11_can (c_m_can l D a Y ts _ x2_1 (u.1 10 (((2 : Int32) * x4_3)).toNatClampNeg) (show (0 ≤ ((u.1 0 0)).toInt ∧ ((u.1 0 0)).toInt ≤ 8) from by omega) (show (0 ≤ ((u.1 0 5)).toInt ∧ ((u.1 0 5)).toInt ≤ 6) from by omega) (show 0 ≤ (x2_1).toInt ∧ (x2_1).toInt < 6 from by omega)) 0 rfl rfl mlX11_147 rfl rfl hl.1 ⟨rfl, rfl, Nat.le_of_ble_eq_true rfl, Nat.le_of_ble_eq_true rfl, Nat.le_of_ble_eq_true rfl, Nat.zero_le _, Nat.zero_le _⟩ dX11_who_41 (fun H locs hw => ?_)
                refine lv_aload_n S.1 S.2.1 dX11_who_44 rfl (lv_at hl 0 rfl) ?_
                refine xget (v := .ref (a 10)) S hK hw 0 rfl rfl inX11 12 (by decide) mfX11_38 rfl dX11_who_45 ?_
                refine lv_iconst (v := 2) S.1 S.2.1 dX11_who_48 (by decide) ?_
                refine lv_iload S.1 S.2.1 dX11_who_49 (lv_at hl 4 rfl) ?_
                refine lv_imul S.1 S.2.1 dX11_who_51 ?_
                refine lv_iconst (v := 1) S.1 S.2.1 dX11_who_52 (by decide) ?_
                refine lv_iadd S.1 S.2.1 dX11_who_53 ?_
                have e_11 : ∀ _ : Unit, ((((2 : Int32) * x4_3) + (1 : Int32))).toInt = (2 * (x4_3).toInt) + 1 := fun _ => xadd (e_10 ()) rfl (by omega) (by omega)
                refine xald (f := u.1 10) S hK hw 10 0 rfl rfl (xvi (e_11 ()) (by omega) (by omega)) dX11_who_54 ?_
                refine lv_iconst (v := 1) S.1 S.2.1 dX11_who_55 (by decide) ?_
                refine lv_icmp_ne (tgt := 63) S.1 S.2.1 dX11_who_56 (by decide) (fun c_12 => ?_) (fun c_12 => ?_)
                · replace hV := hV.trans (if_neg c_12)
                  have gc_12 : ¬ ((u.1 10 ((((2 : Int32) * x4_3) + (1 : Int32))).toNatClampNeg)).toInt = 1 := xq_ne c_12 rfl rfl
                  refine lv_iconst (v := 0) S.1 S.2.1 dX11_who_63 (by decide) ?_
                  refine lv_icmp_ne (tgt := 71) S.1 S.2.1 dX11_who_64 (by decide) (fun c_13 => ?_) (fun c_13 => ?_)
                  · replace hV := hV.trans (if_neg c_13)
                    have gc_13 : ¬ ((b2i (m_can u x2_1 (u.1 10 (((2 : Int32) * x4_3)).toNatClampNeg)))).toInt = 0 := xq_ne c_13 rfl rfl
                    refine lv_iconst (v := 0) S.1 S.2.1 dX11_who_71 (by decide) ?_
                    refine lv_istore_n (lv' := [(3, .int (0 : Int32)), (0, .ref (a 0)), (1, .int x1_1), (2, .int x2_1), (4, .int x4_3)]) S.1 S.2.1 dX11_who_72 rfl hl (by decide) rfl (fun ls hl => ?_)
                    refine lv_iinc (v := (x4_3 + (1 : Int32))) (lv' := [(4, .int (x4_3 + (1 : Int32))), (3, .int (0 : Int32)), (0, .ref (a 0)), (1, .int x1_1), (2, .int x2_1)]) S.1 S.2.1 dX11_who_73 hl (k := 4) rfl rfl (by decide) rfl (fun ls hl => ?_)
                    refine lv_goto (tgt := 17) S.1 S.2.1 dX11_who_76 (by decide) ?_
                    have e_14 : ∀ _ : Unit, ((x4_3 + (1 : Int32))).toInt = (x4_3).toInt + 1 := fun _ => xadd rfl rfl (by omega) (by omega)
                    clear hn_1
                    exact ih_3 (0 : Int32) (x4_3 + (1 : Int32)) _ _ _ (show 0 ≤ ((x4_3 + (1 : Int32))).toInt from by rw [(e_14 ())]; omega) (show ((u.1 0 11)).toInt - ((x4_3 + (1 : Int32))).toInt < (n_3 : Int) ∧ 1 ≤ n_3 from by rw [(e_14 ())]; omega) (lv_sub hl [2, 3, 4, 1, 0] rfl) hw hV
                  · replace hV := hV.trans (if_pos c_13)
                    have gc_13 : ((b2i (m_can u x2_1 (u.1 10 (((2 : Int32) * x4_3)).toNatClampNeg)))).toInt = 0 := xq_eq c_13 rfl rfl
                    refine lv_iconst (v := 1) S.1 S.2.1 dX11_who_67 (by decide) ?_
                    refine lv_goto (tgt := 72) S.1 S.2.1 dX11_who_68 (by decide) ?_
                    refine lv_istore_n (lv' := [(3, .int (1 : Int32)), (0, .ref (a 0)), (1, .int x1_1), (2, .int x2_1), (4, .int x4_3)]) S.1 S.2.1 dX11_who_72 rfl hl (by decide) rfl (fun ls hl => ?_)
                    refine lv_iinc (v := (x4_3 + (1 : Int32))) (lv' := [(4, .int (x4_3 + (1 : Int32))), (3, .int (1 : Int32)), (0, .ref (a 0)), (1, .int x1_1), (2, .int x2_1)]) S.1 S.2.1 dX11_who_73 hl (k := 4) rfl rfl (by decide) rfl (fun ls hl => ?_)
                    refine lv_goto (tgt := 17) S.1 S.2.1 dX11_who_76 (by decide) ?_
                    have e_15 : ∀ _ : Unit, ((x4_3 + (1 : Int32))).toInt = (x4_3).toInt + 1 := fun _ => xadd rfl rfl (by omega) (by omega)
                    clear hn_1
                    exact ih_3 (1 : Int32) (x4_3 + (1 : Int32)) _ _ _ (show 0 ≤ ((x4_3 + (1 : Int32))).toInt from by rw [(e_15 ())]; omega) (show ((u.1 0 11)).toInt - ((x4_3 + (1 : Int32))).toInt < (n_3 : Int) ∧ 1 ≤ n_3 from by rw [(e_15 ())]; omega) (lv_sub hl [2, 3, 4, 1, 0] rfl) hw hV
                · replace hV := hV.trans (if_pos c_12)
                  have gc_12 : ((u.1 10 ((((2 : Int32) * x4_3) + (1 : Int32))).toNatClampNeg)).toInt = 1 := xq_eq c_12 rfl rfl
                  refine lv_iconst (v := 1) S.1 S.2.1 dX11_who_59 (by decide) ?_
                  refine lv_goto (tgt := 64) S.1 S.2.1 dX11_who_60 (by decide) ?_
                  refine lv_icmp_ne (tgt := 71) S.1 S.2.1 dX11_who_64 (by decide) (fun c_16 => ?_) (fun c_16 => ?_)
                  · replace hV := hV.trans (if_neg c_16)
                    have gc_16 : ¬ ((b2i (m_can u x2_1 (u.1 10 (((2 : Int32) * x4_3)).toNatClampNeg)))).toInt = 1 := xq_ne c_16 rfl rfl
                    refine lv_iconst (v := 0) S.1 S.2.1 dX11_who_71 (by decide) ?_
                    refine lv_istore_n (lv' := [(3, .int (0 : Int32)), (0, .ref (a 0)), (1, .int x1_1), (2, .int x2_1), (4, .int x4_3)]) S.1 S.2.1 dX11_who_72 rfl hl (by decide) rfl (fun ls hl => ?_)
                    refine lv_iinc (v := (x4_3 + (1 : Int32))) (lv' := [(4, .int (x4_3 + (1 : Int32))), (3, .int (0 : Int32)), (0, .ref (a 0)), (1, .int x1_1), (2, .int x2_1)]) S.1 S.2.1 dX11_who_73 hl (k := 4) rfl rfl (by decide) rfl (fun ls hl => ?_)
                    refine lv_goto (tgt := 17) S.1 S.2.1 dX11_who_76 (by decide) ?_
                    have e_17 : ∀ _ : Unit, ((x4_3 + (1 : Int32))).toInt = (x4_3).toInt + 1 := fun _ => xadd rfl rfl (by omega) (by omega)
                    clear hn_1
                    exact ih_3 (0 : Int32) (x4_3 + (1 : Int32)) _ _ _ (show 0 ≤ ((x4_3 + (1 : Int32))).toInt from by rw [(e_17 ())]; omega) (show ((u.1 0 11)).toInt - ((x4_3 + (1 : Int32))).toInt < (n_3 : Int) ∧ 1 ≤ n_3 from by rw [(e_17 ())]; omega) (lv_sub hl [2, 3, 4, 1, 0] rfl) hw hV
                  · replace hV := hV.trans (if_pos c_16)
                    have gc_16 : ((b2i (m_can u x2_1 (u.1 10 (((2 : Int32) * x4_3)).toNatClampNeg)))).toInt = 1 := xq_eq c_16 rfl rfl
                    refine lv_iconst (v := 1) S.1 S.2.1 dX11_who_67 (by decide) ?_
                    refine lv_goto (tgt := 72) S.1 S.2.1 dX11_who_68 (by decide) ?_
                    refine lv_istore_n (lv' := [(3, .int (1 : Int32)), (0, .ref (a 0)), (1, .int x1_1), (2, .int x2_1), (4, .int x4_3)]) S.1 S.2.1 dX11_who_72 rfl hl (by decide) rfl (fun ls hl => ?_)
                    refine lv_iinc (v := (x4_3 + (1 : Int32))) (lv' := [(4, .int (x4_3 + (1 : Int32))), (3, .int (1 : Int32)), (0, .ref (a 0)), (1, .int x1_1), (2, .int x2_1)]) S.1 S.2.1 dX11_who_73 hl (k := 4) rfl rfl (by decide) rfl (fun ls hl => ?_)
                    refine lv_goto (tgt := 17) S.1 S.2.1 dX11_who_76 (by decide) ?_
                    have e_18 : ∀ _ : Unit, ((x4_3 + (1 : Int32))).toInt = (x4_3).toInt + 1 := fun _ => xadd rfl rfl (by omega) (by omega)
                    clear hn_1
                    exact ih_3 (1 : Int32) (x4_3 + (1 : Int32)) _ _ _ (show 0 ≤ ((x4_3 + (1 : Int32))).toInt from by rw [(e_18 ())]; omega) (show ((u.1 0 11)).toInt - ((x4_3 + (1 : Int32))).toInt < (n_3 : Int) ∧ 1 ≤ n_3 from by rw [(e_18 ())]; omega) (lv_sub hl [2, 3, 4, 1, 0] rfl) hw hV
        exact lp_3 7 (1 : Int32) (0 : Int32) _ _ _ (show 0 ≤ 0 from by omega) (show ((u.1 0 11)).toInt - 0 < ((7 : Nat) : Int) ∧ 1 ≤ (7 : Nat) from by omega) (lv_sub hl [2, 3, 4, 1, 0] rfl) hw hV
  exact lp_1 7 (0 : Int32) (0 : Int32) _ _ _ (show 0 ≤ 0 from by omega) (show ((u.1 0 5)).toInt - 0 < ((7 : Nat) : Int) ∧ 1 ≤ (7 : Nat) from by omega) (lv_sub hl [2, 1, 0] rfl) hw hV
def m_ask_L19 (w : xU) (x1 : Int32) (x2 : Int32) : Nat → Int32 → Int32 → Int32 → Int32
  | 0, _, _, _ => 0
  | n + 1, x3, x4, x5 =>
    (if (w.1 0 0) ≤ x5 then
    x3
    else
    (if (m_bits (x1 &&& (m_whoCan w x5))) ≤ (x2 - (m_bits (x1 &&& (m_whoCan w x5)))) then
    (if x4 ≤ (x2 - (m_bits (x1 &&& (m_whoCan w x5)))) then
    (if x4 ≤ (x2 - (m_bits (x1 &&& (m_whoCan w x5)))) then
    m_ask_L19 w x1 x2 n x3 x4 (x5 + (1 : Int32))
    else
    m_ask_L19 w x1 x2 n x3 (x2 - (m_bits (x1 &&& (m_whoCan w x5)))) (x5 + (1 : Int32)))
    else
    (if x4 ≤ (x2 - (m_bits (x1 &&& (m_whoCan w x5)))) then
    m_ask_L19 w x1 x2 n x5 x4 (x5 + (1 : Int32))
    else
    m_ask_L19 w x1 x2 n x5 (x2 - (m_bits (x1 &&& (m_whoCan w x5)))) (x5 + (1 : Int32))))
    else
    (if x4 ≤ (m_bits (x1 &&& (m_whoCan w x5))) then
    (if x4 ≤ (m_bits (x1 &&& (m_whoCan w x5))) then
    m_ask_L19 w x1 x2 n x3 x4 (x5 + (1 : Int32))
    else
    m_ask_L19 w x1 x2 n x3 (m_bits (x1 &&& (m_whoCan w x5))) (x5 + (1 : Int32)))
    else
    (if x4 ≤ (m_bits (x1 &&& (m_whoCan w x5))) then
    m_ask_L19 w x1 x2 n x5 x4 (x5 + (1 : Int32))
    else
    m_ask_L19 w x1 x2 n x5 (m_bits (x1 &&& (m_whoCan w x5))) (x5 + (1 : Int32))))))
def m_ask (u : xU) : Int32 :=
    m_ask_L19 u (m_who u) (m_bits (m_who u)) 9 (-9 : Int32) (m_bits (m_who u)) (0 : Int32)
set_option maxHeartbeats 4000000 in
set_option maxRecDepth 100000 in
theorem c_m_ask (l : Launch) (D : va_G) (a : Nat → Nat) (Y : Nat → ClassId) (ts : Nat → Nat) (u : xU) (hT : (0 ≤ ((u.1 0 0)).toInt ∧ ((u.1 0 0)).toInt ≤ 8)) (hC : (0 ≤ ((u.1 0 5)).toInt ∧ ((u.1 0 5)).toInt ≤ 6)) (hH : (0 ≤ ((u.1 0 11)).toInt ∧ ((u.1 0 11)).toInt ≤ 6)) : xMi l yX11_ask cX11_ask 8 (some .int) (xRm 3 67) D (xty Y) (wM a Y) ts [.ref (a 0)] u ((m_ask u), u) := by
  suffices h : ∀ V, V = m_ask u → xMi l yX11_ask cX11_ask 8 (some .int) (xRm 3 67) D (xty Y) (wM a Y) ts [.ref (a 0)] u (V, u) from h _ rfl
  intro V hV
  refine xofi RX11 rfl (by decide) (Nat.le_of_ble_eq_true rfl) ?_
  intro p e s m args below meth c ls H locs A S hr hlk hl hK hE hA hw
  have hl : lv_has ls 8 [(0, .ref (a 0))] := hl
  refine lv_aload_n S.1 S.2.1 dX11_ask_0 rfl (lv_at hl 0 rfl) ?_
  refine xci (rest := []) S hK hE hA hw yfX11_who (c_m_who l D a Y ts _ (show (0 ≤ ((u.1 0 0)).toInt ∧ ((u.1 0 0)).toInt ≤ 8) from by omega) (show (0 ≤ ((u.1 0 5)).toInt ∧ ((u.1 0 5)).toInt ≤ 6) from by omega) (show (0 ≤ ((u.1 0 11)).toInt ∧ ((u.1 0 11)).toInt ≤ 6) from by omega)) 0 rfl rfl mlX11_222 rfl rfl hl.1 ⟨rfl, rfl, Nat.le_of_ble_eq_true rfl, Nat.le_of_ble_eq_true rfl, Nat.le_of_ble_eq_true rfl, Nat.zero_le _, Nat.zero_le _⟩ dX11_ask_1 (fun H locs hw => ?_)
  refine lv_istore_n (lv' := [(1, .int (m_who u)), (0, .ref (a 0))]) S.1 S.2.1 dX11_ask_4 rfl hl (by decide) rfl (fun ls hl => ?_)
  refine lv_iload_n S.1 S.2.1 dX11_ask_5 rfl (lv_at hl 0 rfl) ?_
  refine xcP (rest := []) S hw yfX11_bits (c_m_bits l (m_who u)) mlX11_175 rfl rfl hl.1 ⟨rfl, rfl, Nat.le_of_ble_eq_true rfl, Nat.le_of_ble_eq_true rfl, Nat.le_of_ble_eq_true rfl, Nat.zero_le _, Nat.zero_le _⟩ dX11_ask_6 (fun H locs hw => ?_)
  refine lv_istore_n (lv' := [(2, .int (m_bits (m_who u))), (1, .int (m_who u)), (0, .ref (a 0))]) S.1 S.2.1 dX11_ask_9 rfl hl (by decide) rfl (fun ls hl => ?_)
  refine lv_bipush (v := -9) S.1 S.2.1 dX11_ask_10 (by decide) ?_
  refine lv_istore_n (lv' := [(3, .int (-9 : Int32)), (2, .int (m_bits (m_who u))), (1, .int (m_who u)), (0, .ref (a 0))]) S.1 S.2.1 dX11_ask_12 rfl hl (by decide) rfl (fun ls hl => ?_)
  refine lv_iload_n S.1 S.2.1 dX11_ask_13 rfl (lv_at hl 1 rfl) ?_
  refine lv_istore (lv' := [(4, .int (m_bits (m_who u))), (3, .int (-9 : Int32)), (2, .int (m_bits (m_who u))), (1, .int (m_who u)), (0, .ref (a 0))]) S.1 S.2.1 dX11_ask_14 hl (by decide) rfl (fun ls hl => ?_)
  refine lv_iconst (v := 0) S.1 S.2.1 dX11_ask_16 (by decide) ?_
  refine lv_istore (lv' := [(5, .int (0 : Int32)), (4, .int (m_bits (m_who u))), (3, .int (-9 : Int32)), (2, .int (m_bits (m_who u))), (1, .int (m_who u)), (0, .ref (a 0))]) S.1 S.2.1 dX11_ask_17 hl (by decide) rfl (fun ls hl => ?_)
  have lp_1 : ∀ (n_1 : Nat) (x3_1 : Int32) (x4_1 : Int32) (x5_1 : Int32) (H : Heap) (locs : List Loc) (ls : Array Slot), (0 ≤ (x5_1).toInt) → (((u.1 0 0)).toInt - (x5_1).toInt < (n_1 : Int) ∧ 1 ≤ n_1) → lv_has ls 8 [(0, .ref (a 0)), (1, .int (m_who u)), (2, .int (m_bits (m_who u))), (3, .int x3_1), (4, .int x4_1), (5, .int x5_1)] → xw D (wM a Y) A s.heap H locs u → V = m_ask_L19 u (m_who u) (m_bits (m_who u)) n_1 x3_1 x4_1 x5_1 → W p l e (xRm 3 67) s m args below meth c H locs 0 0 (MQ below (va_Qi (fun r v => (r, v) = (V, u)) (xPost D (wM a Y) A) A) args s 0 0 A) (F0 m 19 ls []) := by
    intro n_1
    induction n_1 with
    | zero => intro x3_1 x4_1 x5_1 H locs ls i0_1 hn; exact absurd hn.2 (by decide)
    | succ n_1 ih_1 =>
      intro x3_1 x4_1 x5_1 H locs ls i0_1 hn_1 hl hw hV
      refine lv_iload S.1 S.2.1 dX11_ask_19 (lv_at hl 5 rfl) ?_
      refine lv_aload_n S.1 S.2.1 dX11_ask_21 rfl (lv_at hl 0 rfl) ?_
      refine xget (v := .int (u.1 0 0)) S hK hw 0 rfl rfl inX11 0 (by decide) mfX11_68 rfl dX11_ask_22 ?_
      refine lv_icmp_ge (tgt := 97) S.1 S.2.1 dX11_ask_25 (by decide) (fun c_2 => ?_) (fun c_2 => ?_)
      · replace hV := hV.trans (if_pos c_2)
        have gc_2 : ((u.1 0 0)).toInt ≤ (x5_1).toInt := xq_le c_2 rfl rfl
        refine lv_iload_n S.1 S.2.1 dX11_ask_97 rfl (lv_at hl 3 rfl) ?_
        exact xri S hr hlk hw (congrArg (fun b => (b, u)) hV) dX11_ask_98
      · replace hV := hV.trans (if_neg c_2)
        have gc_2 : (x5_1).toInt < ((u.1 0 0)).toInt := xq_nle c_2 rfl rfl
        refine lv_iload_n S.1 S.2.1 dX11_ask_28 rfl (lv_at hl 1 rfl) ?_
        refine lv_aload_n S.1 S.2.1 dX11_ask_29 rfl (lv_at hl 0 rfl) ?_
        refine lv_iload S.1 S.2.1 dX11_ask_30 (lv_at hl 5 rfl) ?_
        refine xci (rest := [.int (m_who u)]) S hK hE hA hw yfX11_whoCan (c_m_whoCan l D a Y ts _ x5_1 (show (0 ≤ ((u.1 0 0)).toInt ∧ ((u.1 0 0)).toInt ≤ 8) from by omega) (show (0 ≤ ((u.1 0 5)).toInt ∧ ((u.1 0 5)).toInt ≤ 6) from by omega)) 0 rfl rfl mlX11_159 rfl rfl hl.1 ⟨rfl, rfl, Nat.le_of_ble_eq_true rfl, Nat.le_of_ble_eq_true rfl, Nat.le_of_ble_eq_true rfl, Nat.zero_le _, Nat.zero_le _⟩ dX11_ask_32 (fun H locs hw => ?_)
        refine lv_iand S.1 S.2.1 dX11_ask_35 ?_
        refine xcP (rest := []) S hw yfX11_bits (c_m_bits l ((m_who u) &&& (m_whoCan u x5_1))) mlX11_175 rfl rfl hl.1 ⟨rfl, rfl, Nat.le_of_ble_eq_true rfl, Nat.le_of_ble_eq_true rfl, Nat.le_of_ble_eq_true rfl, Nat.zero_le _, Nat.zero_le _⟩ dX11_ask_36 (fun H locs hw => ?_)
        refine lv_istore (lv' := [(6, .int (m_bits ((m_who u) &&& (m_whoCan u x5_1)))), (0, .ref (a 0)), (1, .int (m_who u)), (2, .int (m_bits (m_who u))), (3, .int x3_1), (4, .int x4_1), (5, .int x5_1)]) S.1 S.2.1 dX11_ask_39 hl (by decide) rfl (fun ls hl => ?_)
        refine lv_iload S.1 S.2.1 dX11_ask_41 (lv_at hl 0 rfl) ?_
        refine lv_iload_n S.1 S.2.1 dX11_ask_43 rfl (lv_at hl 3 rfl) ?_
        refine lv_iload S.1 S.2.1 dX11_ask_44 (lv_at hl 0 rfl) ?_
        refine lv_isub S.1 S.2.1 dX11_ask_46 ?_
        refine lv_icmp_le (tgt := 55) S.1 S.2.1 dX11_ask_47 (by decide) (fun c_3 => ?_) (fun c_3 => ?_)
        · replace hV := hV.trans (if_pos c_3)
          refine lv_iload_n S.1 S.2.1 dX11_ask_55 rfl (lv_at hl 3 rfl) ?_
          refine lv_iload S.1 S.2.1 dX11_ask_56 (lv_at hl 0 rfl) ?_
          refine lv_isub S.1 S.2.1 dX11_ask_58 ?_
          refine lv_istore (lv' := [(7, .int ((m_bits (m_who u)) - (m_bits ((m_who u) &&& (m_whoCan u x5_1))))), (6, .int (m_bits ((m_who u) &&& (m_whoCan u x5_1)))), (0, .ref (a 0)), (1, .int (m_who u)), (2, .int (m_bits (m_who u))), (3, .int x3_1), (4, .int x4_1), (5, .int x5_1)]) S.1 S.2.1 dX11_ask_59 hl (by decide) rfl (fun ls hl => ?_)
          refine lv_iload S.1 S.2.1 dX11_ask_61 (lv_at hl 0 rfl) ?_
          refine lv_iload S.1 S.2.1 dX11_ask_63 (lv_at hl 6 rfl) ?_
          refine lv_icmp_ge (tgt := 73) S.1 S.2.1 dX11_ask_65 (by decide) (fun c_4 => ?_) (fun c_4 => ?_)
          · replace hV := hV.trans (if_pos c_4)
            refine lv_iload_n S.1 S.2.1 dX11_ask_73 rfl (lv_at hl 5 rfl) ?_
            refine lv_istore_n (lv' := [(3, .int x3_1), (7, .int ((m_bits (m_who u)) - (m_bits ((m_who u) &&& (m_whoCan u x5_1))))), (6, .int (m_bits ((m_who u) &&& (m_whoCan u x5_1)))), (0, .ref (a 0)), (1, .int (m_who u)), (2, .int (m_bits (m_who u))), (4, .int x4_1), (5, .int x5_1)]) S.1 S.2.1 dX11_ask_74 rfl hl (by decide) rfl (fun ls hl => ?_)
            refine lv_iload S.1 S.2.1 dX11_ask_75 (lv_at hl 1 rfl) ?_
            refine lv_iload S.1 S.2.1 dX11_ask_77 (lv_at hl 6 rfl) ?_
            refine lv_icmp_ge (tgt := 87) S.1 S.2.1 dX11_ask_79 (by decide) (fun c_5 => ?_) (fun c_5 => ?_)
            · replace hV := hV.trans (if_pos c_5)
              refine lv_iload S.1 S.2.1 dX11_ask_87 (lv_at hl 6 rfl) ?_
              refine lv_istore (lv' := [(4, .int x4_1), (3, .int x3_1), (7, .int ((m_bits (m_who u)) - (m_bits ((m_who u) &&& (m_whoCan u x5_1))))), (6, .int (m_bits ((m_who u) &&& (m_whoCan u x5_1)))), (0, .ref (a 0)), (1, .int (m_who u)), (2, .int (m_bits (m_who u))), (5, .int x5_1)]) S.1 S.2.1 dX11_ask_89 hl (by decide) rfl (fun ls hl => ?_)
              refine lv_iinc (v := (x5_1 + (1 : Int32))) (lv' := [(5, .int (x5_1 + (1 : Int32))), (4, .int x4_1), (3, .int x3_1), (7, .int ((m_bits (m_who u)) - (m_bits ((m_who u) &&& (m_whoCan u x5_1))))), (6, .int (m_bits ((m_who u) &&& (m_whoCan u x5_1)))), (0, .ref (a 0)), (1, .int (m_who u)), (2, .int (m_bits (m_who u)))]) S.1 S.2.1 dX11_ask_91 hl (k := 7) rfl rfl (by decide) rfl (fun ls hl => ?_)
              refine lv_goto (tgt := 19) S.1 S.2.1 dX11_ask_94 (by decide) ?_
              have e_6 : ∀ _ : Unit, ((x5_1 + (1 : Int32))).toInt = (x5_1).toInt + 1 := fun _ => xadd rfl rfl (by omega) (by omega)
              exact ih_1 x3_1 x4_1 (x5_1 + (1 : Int32)) _ _ _ (show 0 ≤ ((x5_1 + (1 : Int32))).toInt from by rw [(e_6 ())]; omega) (show ((u.1 0 0)).toInt - ((x5_1 + (1 : Int32))).toInt < (n_1 : Int) ∧ 1 ≤ n_1 from by rw [(e_6 ())]; omega) (lv_sub hl [5, 6, 7, 2, 1, 0] rfl) hw hV
            · replace hV := hV.trans (if_neg c_5)
              refine lv_iload S.1 S.2.1 dX11_ask_82 (lv_at hl 1 rfl) ?_
              refine lv_goto (tgt := 89) S.1 S.2.1 dX11_ask_84 (by decide) ?_
              refine lv_istore (lv' := [(4, .int ((m_bits (m_who u)) - (m_bits ((m_who u) &&& (m_whoCan u x5_1))))), (3, .int x3_1), (7, .int ((m_bits (m_who u)) - (m_bits ((m_who u) &&& (m_whoCan u x5_1))))), (6, .int (m_bits ((m_who u) &&& (m_whoCan u x5_1)))), (0, .ref (a 0)), (1, .int (m_who u)), (2, .int (m_bits (m_who u))), (5, .int x5_1)]) S.1 S.2.1 dX11_ask_89 hl (by decide) rfl (fun ls hl => ?_)
              refine lv_iinc (v := (x5_1 + (1 : Int32))) (lv' := [(5, .int (x5_1 + (1 : Int32))), (4, .int ((m_bits (m_who u)) - (m_bits ((m_who u) &&& (m_whoCan u x5_1))))), (3, .int x3_1), (7, .int ((m_bits (m_who u)) - (m_bits ((m_who u) &&& (m_whoCan u x5_1))))), (6, .int (m_bits ((m_who u) &&& (m_whoCan u x5_1)))), (0, .ref (a 0)), (1, .int (m_who u)), (2, .int (m_bits (m_who u)))]) S.1 S.2.1 dX11_ask_91 hl (k := 7) rfl rfl (by decide) rfl (fun ls hl => ?_)
              refine lv_goto (tgt := 19) S.1 S.2.1 dX11_ask_94 (by decide) ?_
              have e_7 : ∀ _ : Unit, ((x5_1 + (1 : Int32))).toInt = (x5_1).toInt + 1 := fun _ => xadd rfl rfl (by omega) (by omega)
              exact ih_1 x3_1 ((m_bits (m_who u)) - (m_bits ((m_who u) &&& (m_whoCan u x5_1)))) (x5_1 + (1 : Int32)) _ _ _ (show 0 ≤ ((x5_1 + (1 : Int32))).toInt from by rw [(e_7 ())]; omega) (show ((u.1 0 0)).toInt - ((x5_1 + (1 : Int32))).toInt < (n_1 : Int) ∧ 1 ≤ n_1 from by rw [(e_7 ())]; omega) (lv_sub hl [5, 6, 7, 2, 1, 0] rfl) hw hV
          · replace hV := hV.trans (if_neg c_4)
            refine lv_iload S.1 S.2.1 dX11_ask_68 (lv_at hl 7 rfl) ?_
            refine lv_goto (tgt := 74) S.1 S.2.1 dX11_ask_70 (by decide) ?_
            refine lv_istore_n (lv' := [(3, .int x5_1), (7, .int ((m_bits (m_who u)) - (m_bits ((m_who u) &&& (m_whoCan u x5_1))))), (6, .int (m_bits ((m_who u) &&& (m_whoCan u x5_1)))), (0, .ref (a 0)), (1, .int (m_who u)), (2, .int (m_bits (m_who u))), (4, .int x4_1), (5, .int x5_1)]) S.1 S.2.1 dX11_ask_74 rfl hl (by decide) rfl (fun ls hl => ?_)
            refine lv_iload S.1 S.2.1 dX11_ask_75 (lv_at hl 1 rfl) ?_
            refine lv_iload S.1 S.2.1 dX11_ask_77 (lv_at hl 6 rfl) ?_
            refine lv_icmp_ge (tgt := 87) S.1 S.2.1 dX11_ask_79 (by decide) (fun c_8 => ?_) (fun c_8 => ?_)
            · replace hV := hV.trans (if_pos c_8)
              refine lv_iload S.1 S.2.1 dX11_ask_87 (lv_at hl 6 rfl) ?_
              refine lv_istore (lv' := [(4, .int x4_1), (3, .int x5_1), (7, .int ((m_bits (m_who u)) - (m_bits ((m_who u) &&& (m_whoCan u x5_1))))), (6, .int (m_bits ((m_who u) &&& (m_whoCan u x5_1)))), (0, .ref (a 0)), (1, .int (m_who u)), (2, .int (m_bits (m_who u))), (5, .int x5_1)]) S.1 S.2.1 dX11_ask_89 hl (by decide) rfl (fun ls hl => ?_)
              refine lv_iinc (v := (x5_1 + (1 : Int32))) (lv' := [(5, .int (x5_1 + (1 : Int32))), (4, .int x4_1), (3, .int x5_1), (7, .int ((m_bits (m_who u)) - (m_bits ((m_who u) &&& (m_whoCan u x5_1))))), (6, .int (m_bits ((m_who u) &&& (m_whoCan u x5_1)))), (0, .ref (a 0)), (1, .int (m_who u)), (2, .int (m_bits (m_who u)))]) S.1 S.2.1 dX11_ask_91 hl (k := 7) rfl rfl (by decide) rfl (fun ls hl => ?_)
              refine lv_goto (tgt := 19) S.1 S.2.1 dX11_ask_94 (by decide) ?_
              have e_9 : ∀ _ : Unit, ((x5_1 + (1 : Int32))).toInt = (x5_1).toInt + 1 := fun _ => xadd rfl rfl (by omega) (by omega)
              exact ih_1 x5_1 x4_1 (x5_1 + (1 : Int32)) _ _ _ (show 0 ≤ ((x5_1 + (1 : Int32))).toInt from by rw [(e_9 ())]; omega) (show ((u.1 0 0)).toInt - ((x5_1 + (1 : Int32))).toInt < (n_1 : Int) ∧ 1 ≤ n_1 from by rw [(e_9 ())]; omega) (lv_sub hl [5, 6, 7, 2, 1, 0] rfl) hw hV
            · replace hV := hV.trans (if_neg c_8)
              refine lv_iload S.1 S.2.1 dX11_ask_82 (lv_at hl 1 rfl) ?_
              refine lv_goto (tgt := 89) S.1 S.2.1 dX11_ask_84 (by decide) ?_
              refine lv_istore (lv' := [(4, .int ((m_bits (m_who u)) - (m_bits ((m_who u) &&& (m_whoCan u x5_1))))), (3, .int x5_1), (7, .int ((m_bits (m_who u)) - (m_bits ((m_who u) &&& (m_whoCan u x5_1))))), (6, .int (m_bits ((m_who u) &&& (m_whoCan u x5_1)))), (0, .ref (a 0)), (1, .int (m_who u)), (2, .int (m_bits (m_who u))), (5, .int x5_1)]) S.1 S.2.1 dX11_ask_89 hl (by decide) rfl (fun ls hl => ?_)
              refine lv_iinc (v := (x5_1 + (1 : Int32))) (lv' := [(5, .int (x5_1 + (1 : Int32))), (4, .int ((m_bits (m_who u)) - (m_bits ((m_who u) &&& (m_whoCan u x5_1))))), (3, .int x5_1), (7, .int ((m_bits (m_who u)) - (m_bits ((m_who u) &&& (m_whoCan u x5_1))))), (6, .int (m_bits ((m_who u) &&& (m_whoCan u x5_1)))), (0, .ref (a 0)), (1, .int (m_who u)), (2, .int (m_bits (m_who u)))]) S.1 S.2.1 dX11_ask_91 hl (k := 7) rfl rfl (by decide) rfl (fun ls hl => ?_)
              refine lv_goto (tgt := 19) S.1 S.2.1 dX11_ask_94 (by decide) ?_
              have e_10 : ∀ _ : Unit, ((x5_1 + (1 : Int32))).toInt = (x5_1).toInt + 1 := fun _ => xadd rfl rfl (by omega) (by omega)
              exact ih_1 x5_1 ((m_bits (m_who u)) - (m_bits ((m_who u) &&& (m_whoCan u x5_1)))) (x5_1 + (1 : Int32)) _ _ _ (show 0 ≤ ((x5_1 + (1 : Int32))).toInt from by rw [(e_10 ())]; omega) (show ((u.1 0 0)).toInt - ((x5_1 + (1 : Int32))).toInt < (n_1 : Int) ∧ 1 ≤ n_1 from by rw [(e_10 ())]; omega) (lv_sub hl [5, 6, 7, 2, 1, 0] rfl) hw hV
        · replace hV := hV.trans (if_neg c_3)
          refine lv_iload S.1 S.2.1 dX11_ask_50 (lv_at hl 0 rfl) ?_
          refine lv_goto (tgt := 59) S.1 S.2.1 dX11_ask_52 (by decide) ?_
          refine lv_istore (lv' := [(7, .int (m_bits ((m_who u) &&& (m_whoCan u x5_1)))), (6, .int (m_bits ((m_who u) &&& (m_whoCan u x5_1)))), (0, .ref (a 0)), (1, .int (m_who u)), (2, .int (m_bits (m_who u))), (3, .int x3_1), (4, .int x4_1), (5, .int x5_1)]) S.1 S.2.1 dX11_ask_59 hl (by decide) rfl (fun ls hl => ?_)
          refine lv_iload S.1 S.2.1 dX11_ask_61 (lv_at hl 0 rfl) ?_
          refine lv_iload S.1 S.2.1 dX11_ask_63 (lv_at hl 6 rfl) ?_
          refine lv_icmp_ge (tgt := 73) S.1 S.2.1 dX11_ask_65 (by decide) (fun c_11 => ?_) (fun c_11 => ?_)
          · replace hV := hV.trans (if_pos c_11)
            have gc_11 : (x4_1).toInt ≤ ((m_bits ((m_who u) &&& (m_whoCan u x5_1)))).toInt := xq_le c_11 rfl rfl
            refine lv_iload_n S.1 S.2.1 dX11_ask_73 rfl (lv_at hl 5 rfl) ?_
            refine lv_istore_n (lv' := [(3, .int x3_1), (7, .int (m_bits ((m_who u) &&& (m_whoCan u x5_1)))), (6, .int (m_bits ((m_who u) &&& (m_whoCan u x5_1)))), (0, .ref (a 0)), (1, .int (m_who u)), (2, .int (m_bits (m_who u))), (4, .int x4_1), (5, .int x5_1)]) S.1 S.2.1 dX11_ask_74 rfl hl (by decide) rfl (fun ls hl => ?_)
            refine lv_iload S.1 S.2.1 dX11_ask_75 (lv_at hl 1 rfl) ?_
            refine lv_iload S.1 S.2.1 dX11_ask_77 (lv_at hl 6 rfl) ?_
            refine lv_icmp_ge (tgt := 87) S.1 S.2.1 dX11_ask_79 (by decide) (fun c_12 => ?_) (fun c_12 => ?_)
            · replace hV := hV.trans (if_pos c_12)
              have gc_12 : (x4_1).toInt ≤ ((m_bits ((m_who u) &&& (m_whoCan u x5_1)))).toInt := xq_le c_12 rfl rfl
              refine lv_iload S.1 S.2.1 dX11_ask_87 (lv_at hl 6 rfl) ?_
              refine lv_istore (lv' := [(4, .int x4_1), (3, .int x3_1), (7, .int (m_bits ((m_who u) &&& (m_whoCan u x5_1)))), (6, .int (m_bits ((m_who u) &&& (m_whoCan u x5_1)))), (0, .ref (a 0)), (1, .int (m_who u)), (2, .int (m_bits (m_who u))), (5, .int x5_1)]) S.1 S.2.1 dX11_ask_89 hl (by decide) rfl (fun ls hl => ?_)
              refine lv_iinc (v := (x5_1 + (1 : Int32))) (lv' := [(5, .int (x5_1 + (1 : Int32))), (4, .int x4_1), (3, .int x3_1), (7, .int (m_bits ((m_who u) &&& (m_whoCan u x5_1)))), (6, .int (m_bits ((m_who u) &&& (m_whoCan u x5_1)))), (0, .ref (a 0)), (1, .int (m_who u)), (2, .int (m_bits (m_who u)))]) S.1 S.2.1 dX11_ask_91 hl (k := 7) rfl rfl (by decide) rfl (fun ls hl => ?_)
              refine lv_goto (tgt := 19) S.1 S.2.1 dX11_ask_94 (by decide) ?_
              have e_13 : ∀ _ : Unit, ((x5_1 + (1 : Int32))).toInt = (x5_1).toInt + 1 := fun _ => xadd rfl rfl (by omega) (by omega)
              exact ih_1 x3_1 x4_1 (x5_1 + (1 : Int32)) _ _ _ (show 0 ≤ ((x5_1 + (1 : Int32))).toInt from by rw [(e_13 ())]; omega) (show ((u.1 0 0)).toInt - ((x5_1 + (1 : Int32))).toInt < (n_1 : Int) ∧ 1 ≤ n_1 from by rw [(e_13 ())]; omega) (lv_sub hl [5, 6, 7, 2, 1, 0] rfl) hw hV
            · replace hV := hV.trans (if_neg c_12)
              have gc_12 : ((m_bits ((m_who u) &&& (m_whoCan u x5_1)))).toInt < (x4_1).toInt := xq_nle c_12 rfl rfl
              refine lv_iload S.1 S.2.1 dX11_ask_82 (lv_at hl 1 rfl) ?_
              refine lv_goto (tgt := 89) S.1 S.2.1 dX11_ask_84 (by decide) ?_
              refine lv_istore (lv' := [(4, .int (m_bits ((m_who u) &&& (m_whoCan u x5_1)))), (3, .int x3_1), (7, .int (m_bits ((m_who u) &&& (m_whoCan u x5_1)))), (6, .int (m_bits ((m_who u) &&& (m_whoCan u x5_1)))), (0, .ref (a 0)), (1, .int (m_who u)), (2, .int (m_bits (m_who u))), (5, .int x5_1)]) S.1 S.2.1 dX11_ask_89 hl (by decide) rfl (fun ls hl => ?_)
              refine lv_iinc (v := (x5_1 + (1 : Int32))) (lv' := [(5, .int (x5_1 + (1 : Int32))), (4, .int (m_bits ((m_who u) &&& (m_whoCan u x5_1)))), (3, .int x3_1), (7, .int (m_bits ((m_who u) &&& (m_whoCan u x5_1)))), (6, .int (m_bits ((m_who u) &&& (m_whoCan u x5_1)))), (0, .ref (a 0)), (1, .int (m_who u)), (2, .int (m_bits (m_who u)))]) S.1 S.2.1 dX11_ask_91 hl (k := 7) rfl rfl (by decide) rfl (fun ls hl => ?_)
              refine lv_goto (tgt := 19) S.1 S.2.1 dX11_ask_94 (by decide) ?_
              have e_14 : ∀ _ : Unit, ((x5_1 + (1 : Int32))).toInt = (x5_1).toInt + 1 := fun _ => xadd rfl rfl (by omega) (by omega)
              exact ih_1 x3_1 (m_bits ((m_who u) &&& (m_whoCan u x5_1))) (x5_1 + (1 : Int32)) _ _ _ (show 0 ≤ ((x5_1 + (1 : Int32))).toInt from by rw [(e_14 ())]; omega) (show ((u.1 0 0)).toInt - ((x5_1 + (1 : Int32))).toInt < (n_1 : Int) ∧ 1 ≤ n_1 from by rw [(e_14 ())]; omega) (lv_sub hl [5, 6, 7, 2, 1, 0] rfl) hw hV
          · replace hV := hV.trans (if_neg c_11)
            have gc_11 : ((m_bits ((m_who u) &&& (m_whoCan u x5_1)))).toInt < (x4_1).toInt := xq_nle c_11 rfl rfl
            refine lv_iload S.1 S.2.1 dX11_ask_68 (lv_at hl 7 rfl) ?_
            refine lv_goto (tgt := 74) S.1 S.2.1 dX11_ask_70 (by decide) ?_
            refine lv_istore_n (lv' := [(3, .int x5_1), (7, .int (m_bits ((m_who u) &&& (m_whoCan u x5_1)))), (6, .int (m_bits ((m_who u) &&& (m_whoCan u x5_1)))), (0, .ref (a 0)), (1, .int (m_who u)), (2, .int (m_bits (m_who u))), (4, .int x4_1), (5, .int x5_1)]) S.1 S.2.1 dX11_ask_74 rfl hl (by decide) rfl (fun ls hl => ?_)
            refine lv_iload S.1 S.2.1 dX11_ask_75 (lv_at hl 1 rfl) ?_
            refine lv_iload S.1 S.2.1 dX11_ask_77 (lv_at hl 6 rfl) ?_
            refine lv_icmp_ge (tgt := 87) S.1 S.2.1 dX11_ask_79 (by decide) (fun c_15 => ?_) (fun c_15 => ?_)
            · replace hV := hV.trans (if_pos c_15)
              have gc_15 : (x4_1).toInt ≤ ((m_bits ((m_who u) &&& (m_whoCan u x5_1)))).toInt := xq_le c_15 rfl rfl
              refine lv_iload S.1 S.2.1 dX11_ask_87 (lv_at hl 6 rfl) ?_
              refine lv_istore (lv' := [(4, .int x4_1), (3, .int x5_1), (7, .int (m_bits ((m_who u) &&& (m_whoCan u x5_1)))), (6, .int (m_bits ((m_who u) &&& (m_whoCan u x5_1)))), (0, .ref (a 0)), (1, .int (m_who u)), (2, .int (m_bits (m_who u))), (5, .int x5_1)]) S.1 S.2.1 dX11_ask_89 hl (by decide) rfl (fun ls hl => ?_)
              refine lv_iinc (v := (x5_1 + (1 : Int32))) (lv' := [(5, .int (x5_1 + (1 : Int32))), (4, .int x4_1), (3, .int x5_1), (7, .int (m_bits ((m_who u) &&& (m_whoCan u x5_1)))), (6, .int (m_bits ((m_who u) &&& (m_whoCan u x5_1)))), (0, .ref (a 0)), (1, .int (m_who u)), (2, .int (m_bits (m_who u)))]) S.1 S.2.1 dX11_ask_91 hl (k := 7) rfl rfl (by decide) rfl (fun ls hl => ?_)
              refine lv_goto (tgt := 19) S.1 S.2.1 dX11_ask_94 (by decide) ?_
              have e_16 : ∀ _ : Unit, ((x5_1 + (1 : Int32))).toInt = (x5_1).toInt + 1 := fun _ => xadd rfl rfl (by omega) (by omega)
              exact ih_1 x5_1 x4_1 (x5_1 + (1 : Int32)) _ _ _ (show 0 ≤ ((x5_1 + (1 : Int32))).toInt from by rw [(e_16 ())]; omega) (show ((u.1 0 0)).toInt - ((x5_1 + (1 : Int32))).toInt < (n_1 : Int) ∧ 1 ≤ n_1 from by rw [(e_16 ())]; omega) (lv_sub hl [5, 6, 7, 2, 1, 0] rfl) hw hV
            · replace hV := hV.trans (if_neg c_15)
              have gc_15 : ((m_bits ((m_who u) &&& (m_whoCan u x5_1)))).toInt < (x4_1).toInt := xq_nle c_15 rfl rfl
              refine lv_iload S.1 S.2.1 dX11_ask_82 (lv_at hl 1 rfl) ?_
              refine lv_goto (tgt := 89) S.1 S.2.1 dX11_ask_84 (by decide) ?_
              refine lv_istore (lv' := [(4, .int (m_bits ((m_who u) &&& (m_whoCan u x5_1)))), (3, .int x5_1), (7, .int (m_bits ((m_who u) &&& (m_whoCan u x5_1)))), (6, .int (m_bits ((m_who u) &&& (m_whoCan u x5_1)))), (0, .ref (a 0)), (1, .int (m_who u)), (2, .int (m_bits (m_who u))), (5, .int x5_1)]) S.1 S.2.1 dX11_ask_89 hl (by decide) rfl (fun ls hl => ?_)
              refine lv_iinc (v := (x5_1 + (1 : Int32))) (lv' := [(5, .int (x5_1 + (1 : Int32))), (4, .int (m_bits ((m_who u) &&& (m_whoCan u x5_1)))), (3, .int x5_1), (7, .int (m_bits ((m_who u) &&& (m_whoCan u x5_1)))), (6, .int (m_bits ((m_who u) &&& (m_whoCan u x5_1)))), (0, .ref (a 0)), (1, .int (m_who u)), (2, .int (m_bits (m_who u)))]) S.1 S.2.1 dX11_ask_91 hl (k := 7) rfl rfl (by decide) rfl (fun ls hl => ?_)
              refine lv_goto (tgt := 19) S.1 S.2.1 dX11_ask_94 (by decide) ?_
              have e_17 : ∀ _ : Unit, ((x5_1 + (1 : Int32))).toInt = (x5_1).toInt + 1 := fun _ => xadd rfl rfl (by omega) (by omega)
              exact ih_1 x5_1 (m_bits ((m_who u) &&& (m_whoCan u x5_1))) (x5_1 + (1 : Int32)) _ _ _ (show 0 ≤ ((x5_1 + (1 : Int32))).toInt from by rw [(e_17 ())]; omega) (show ((u.1 0 0)).toInt - ((x5_1 + (1 : Int32))).toInt < (n_1 : Int) ∧ 1 ≤ n_1 from by rw [(e_17 ())]; omega) (lv_sub hl [5, 6, 7, 2, 1, 0] rfl) hw hV
  exact lp_1 9 (-9 : Int32) (m_bits (m_who u)) (0 : Int32) _ _ _ (show 0 ≤ 0 from by omega) (show ((u.1 0 0)).toInt - 0 < ((9 : Nat) : Int) ∧ 1 ≤ (9 : Nat) from by omega) (lv_sub hl [5, 4, 3, 2, 1, 0] rfl) hw hV
def m_letterAt (u : xU) (p1 : Int32) : Int32 :=
    (if (u.1 0 15) ≤ p1 then
    (-1 : Int32)
    else
    (u.1 11 (p1).toNatClampNeg))
set_option maxHeartbeats 4000000 in
set_option maxRecDepth 100000 in
theorem c_m_letterAt (l : Launch) (D : va_G) (a : Nat → Nat) (Y : Nat → ClassId) (ts : Nat → Nat) (u : xU) (p1 : Int32) (hL : (0 ≤ ((u.1 0 15)).toInt ∧ ((u.1 0 15)).toInt ≤ 150)) (hp0 : 0 ≤ (p1).toInt ∧ (p1).toInt < 2147483648) : xMi l yX11_letterAt cX11_letterAt 2 (some .int) (xRm 0 0) D (xty Y) (wM a Y) ts [.ref (a 0), .int p1] u ((m_letterAt u p1), u) := by
  suffices h : ∀ V, V = m_letterAt u p1 → xMi l yX11_letterAt cX11_letterAt 2 (some .int) (xRm 0 0) D (xty Y) (wM a Y) ts [.ref (a 0), .int p1] u (V, u) from h _ rfl
  intro V hV
  refine xofi RX11 rfl (by decide) (Nat.le_of_ble_eq_true rfl) ?_
  intro p e s m args below meth c ls H locs A S hr hlk hl hK hE hA hw
  have hl : lv_has ls 2 [(0, .ref (a 0)), (1, .int p1)] := hl
  refine lv_iload_n S.1 S.2.1 dX11_letterAt_0 rfl (lv_at hl 1 rfl) ?_
  refine lv_aload_n S.1 S.2.1 dX11_letterAt_1 rfl (lv_at hl 0 rfl) ?_
  refine xget (v := .int (u.1 0 15)) S hK hw 0 rfl rfl inX11 15 (by decide) mfX11_79 rfl dX11_letterAt_2 ?_
  refine lv_icmp_ge (tgt := 17) S.1 S.2.1 dX11_letterAt_5 (by decide) (fun c_1 => ?_) (fun c_1 => ?_)
  · replace hV := hV.trans (if_pos c_1)
    have gc_1 : ((u.1 0 15)).toInt ≤ (p1).toInt := xq_le c_1 rfl rfl
    refine lv_iconst (v := -1) S.1 S.2.1 dX11_letterAt_17 (by decide) ?_
    exact xri S hr hlk hw (congrArg (fun b => (b, u)) hV) dX11_letterAt_18
  · replace hV := hV.trans (if_neg c_1)
    have gc_1 : (p1).toInt < ((u.1 0 15)).toInt := xq_nle c_1 rfl rfl
    refine lv_aload_n S.1 S.2.1 dX11_letterAt_8 rfl (lv_at hl 0 rfl) ?_
    refine xget (v := .ref (a 11)) S hK hw 0 rfl rfl inX11 14 (by decide) mfX11_41 rfl dX11_letterAt_9 ?_
    refine lv_iload_n S.1 S.2.1 dX11_letterAt_12 rfl (lv_at hl 1 rfl) ?_
    refine xald (f := u.1 11) S hK hw 11 0 rfl rfl (xvi rfl (by omega) (by omega)) dX11_letterAt_13 ?_
    refine lv_goto (tgt := 18) S.1 S.2.1 dX11_letterAt_14 (by decide) ?_
    exact xri S hr hlk hw (congrArg (fun b => (b, u)) hV) dX11_letterAt_18
def m_thing (u : xU) (p1 : Int32) (p2 : Int32) : Int32 :=
    (if (b2i (m_isThing u p1)) = (0 : Int32) then
    (-1 : Int32)
    else
    (if p2 = 0 then
    (u.1 1 (p1).toNatClampNeg)
    else
    (if p2 = 1 then
    (u.1 2 (p1).toNatClampNeg)
    else
    (if p2 = 2 then
    (u.1 3 (p1).toNatClampNeg)
    else
    (if p2 = 3 then
    (u.1 4 (p1).toNatClampNeg)
    else
    (if p2 = 4 then
    (m_whoCan u p1)
    else
    (-1 : Int32)))))))
set_option maxHeartbeats 4000000 in
set_option maxRecDepth 100000 in
theorem c_m_thing (l : Launch) (D : va_G) (a : Nat → Nat) (Y : Nat → ClassId) (ts : Nat → Nat) (u : xU) (p1 : Int32) (p2 : Int32) (hT : (0 ≤ ((u.1 0 0)).toInt ∧ ((u.1 0 0)).toInt ≤ 8)) (hC : (0 ≤ ((u.1 0 5)).toInt ∧ ((u.1 0 5)).toInt ≤ 6)) : xMi l yX11_thing cX11_thing 3 (some .int) (xRm 3 66) D (xty Y) (wM a Y) ts [.ref (a 0), .int p1, .int p2] u ((m_thing u p1 p2), u) := by
  suffices h : ∀ V, V = m_thing u p1 p2 → xMi l yX11_thing cX11_thing 3 (some .int) (xRm 3 66) D (xty Y) (wM a Y) ts [.ref (a 0), .int p1, .int p2] u (V, u) from h _ rfl
  intro V hV
  refine xofi RX11 rfl (by decide) (Nat.le_of_ble_eq_true rfl) ?_
  intro p e s m args below meth c ls H locs A S hr hlk hl hK hE hA hw
  have hl : lv_has ls 3 [(0, .ref (a 0)), (1, .int p1), (2, .int p2)] := hl
  refine lv_aload_n S.1 S.2.1 dX11_thing_0 rfl (lv_at hl 0 rfl) ?_
  refine lv_iload_n S.1 S.2.1 dX11_thing_1 rfl (lv_at hl 1 rfl) ?_
  refine xci (rest := []) S hK hE hA hw yfX11_isThing (c_m_isThing l D a Y ts _ p1 (show (0 ≤ ((u.1 0 0)).toInt ∧ ((u.1 0 0)).toInt ≤ 8) from by omega) (show (0 ≤ ((u.1 0 5)).toInt ∧ ((u.1 0 5)).toInt ≤ 6) from by omega)) 0 rfl rfl mlX11_156 rfl rfl hl.1 ⟨rfl, rfl, Nat.le_of_ble_eq_true rfl, Nat.le_of_ble_eq_true rfl, Nat.le_of_ble_eq_true rfl, Nat.zero_le _, Nat.zero_le _⟩ dX11_thing_2 (fun H locs hw => ?_)
  refine lv_if_ne (tgt := 10) S.1 S.2.1 dX11_thing_5 (by decide) (fun c_1 => ?_) (fun c_1 => ?_)
  · replace hV := hV.trans (if_neg c_1)
    have gc_1 : ¬ ((b2i (m_isThing u p1))).toInt = 0 := xq_ne c_1 rfl rfl
    have fc_1 := hk_mThing hT c_1
    refine lv_iload_n S.1 S.2.1 dX11_thing_10 rfl (lv_at hl 2 rfl) ?_
    by_cases c_2 : p2 = 0
    · replace hV := hV.trans (if_pos c_2)
      have gc_2 : (p2).toInt = 0 := xq_eq c_2 rfl rfl
      refine lv_tableIn (tgt := 44) S.1 S.2.1 dX11_thing_11 (by rw [c_2]; decide) (by rw [c_2]; decide) (by rw [c_2]; rfl) (by decide) ?_
      refine lv_aload_n S.1 S.2.1 dX11_thing_44 rfl (lv_at hl 0 rfl) ?_
      refine xget (v := .ref (a 1)) S hK hw 0 rfl rfl inX11 1 (by decide) mfX11_7 rfl dX11_thing_45 ?_
      refine lv_iload_n S.1 S.2.1 dX11_thing_48 rfl (lv_at hl 1 rfl) ?_
      refine xald (f := u.1 1) S hK hw 1 0 rfl rfl (xvi rfl (by omega) (by omega)) dX11_thing_49 ?_
      exact xri S hr hlk hw (congrArg (fun b => (b, u)) hV) dX11_thing_50
    replace hV := hV.trans (if_neg c_2)
    by_cases c_3 : p2 = 1
    · replace hV := hV.trans (if_pos c_3)
      have gc_3 : (p2).toInt = 1 := xq_eq c_3 rfl rfl
      refine lv_tableIn (tgt := 51) S.1 S.2.1 dX11_thing_11 (by rw [c_3]; decide) (by rw [c_3]; decide) (by rw [c_3]; rfl) (by decide) ?_
      refine lv_aload_n S.1 S.2.1 dX11_thing_51 rfl (lv_at hl 0 rfl) ?_
      refine xget (v := .ref (a 2)) S hK hw 0 rfl rfl inX11 2 (by decide) mfX11_13 rfl dX11_thing_52 ?_
      refine lv_iload_n S.1 S.2.1 dX11_thing_55 rfl (lv_at hl 1 rfl) ?_
      refine xald (f := u.1 2) S hK hw 2 0 rfl rfl (xvi rfl (by omega) (by omega)) dX11_thing_56 ?_
      exact xri S hr hlk hw (congrArg (fun b => (b, u)) hV) dX11_thing_57
    replace hV := hV.trans (if_neg c_3)
    by_cases c_4 : p2 = 2
    · replace hV := hV.trans (if_pos c_4)
      have gc_4 : (p2).toInt = 2 := xq_eq c_4 rfl rfl
      refine lv_tableIn (tgt := 58) S.1 S.2.1 dX11_thing_11 (by rw [c_4]; decide) (by rw [c_4]; decide) (by rw [c_4]; rfl) (by decide) ?_
      refine lv_aload_n S.1 S.2.1 dX11_thing_58 rfl (lv_at hl 0 rfl) ?_
      refine xget (v := .ref (a 3)) S hK hw 0 rfl rfl inX11 3 (by decide) mfX11_16 rfl dX11_thing_59 ?_
      refine lv_iload_n S.1 S.2.1 dX11_thing_62 rfl (lv_at hl 1 rfl) ?_
      refine xald (f := u.1 3) S hK hw 3 0 rfl rfl (xvi rfl (by omega) (by omega)) dX11_thing_63 ?_
      exact xri S hr hlk hw (congrArg (fun b => (b, u)) hV) dX11_thing_64
    replace hV := hV.trans (if_neg c_4)
    by_cases c_5 : p2 = 3
    · replace hV := hV.trans (if_pos c_5)
      have gc_5 : (p2).toInt = 3 := xq_eq c_5 rfl rfl
      refine lv_tableIn (tgt := 65) S.1 S.2.1 dX11_thing_11 (by rw [c_5]; decide) (by rw [c_5]; decide) (by rw [c_5]; rfl) (by decide) ?_
      refine lv_aload_n S.1 S.2.1 dX11_thing_65 rfl (lv_at hl 0 rfl) ?_
      refine xget (v := .ref (a 4)) S hK hw 0 rfl rfl inX11 4 (by decide) mfX11_19 rfl dX11_thing_66 ?_
      refine lv_iload_n S.1 S.2.1 dX11_thing_69 rfl (lv_at hl 1 rfl) ?_
      refine xald (f := u.1 4) S hK hw 4 0 rfl rfl (xvi rfl (by omega) (by omega)) dX11_thing_70 ?_
      exact xri S hr hlk hw (congrArg (fun b => (b, u)) hV) dX11_thing_71
    replace hV := hV.trans (if_neg c_5)
    by_cases c_6 : p2 = 4
    · replace hV := hV.trans (if_pos c_6)
      have gc_6 : (p2).toInt = 4 := xq_eq c_6 rfl rfl
      refine lv_tableIn (tgt := 72) S.1 S.2.1 dX11_thing_11 (by rw [c_6]; decide) (by rw [c_6]; decide) (by rw [c_6]; rfl) (by decide) ?_
      refine lv_aload_n S.1 S.2.1 dX11_thing_72 rfl (lv_at hl 0 rfl) ?_
      refine lv_iload_n S.1 S.2.1 dX11_thing_73 rfl (lv_at hl 1 rfl) ?_
      refine xci (rest := []) S hK hE hA hw yfX11_whoCan (c_m_whoCan l D a Y ts _ p1 (show (0 ≤ ((u.1 0 0)).toInt ∧ ((u.1 0 0)).toInt ≤ 8) from by omega) (show (0 ≤ ((u.1 0 5)).toInt ∧ ((u.1 0 5)).toInt ≤ 6) from by omega)) 0 rfl rfl mlX11_159 rfl rfl hl.1 ⟨rfl, rfl, Nat.le_of_ble_eq_true rfl, Nat.le_of_ble_eq_true rfl, Nat.le_of_ble_eq_true rfl, Nat.zero_le _, Nat.zero_le _⟩ dX11_thing_74 (fun H locs hw => ?_)
      exact xri S hr hlk hw (congrArg (fun b => (b, u)) hV) dX11_thing_77
    replace hV := hV.trans (if_neg c_6)
    have gc_2 : ¬ (p2).toInt = 0 := xq_ne c_2 rfl rfl
    have gc_3 : ¬ (p2).toInt = 1 := xq_ne c_3 rfl rfl
    have gc_4 : ¬ (p2).toInt = 2 := xq_ne c_4 rfl rfl
    have gc_5 : ¬ (p2).toInt = 3 := xq_ne c_5 rfl rfl
    have gc_6 : ¬ (p2).toInt = 4 := xq_ne c_6 rfl rfl
    refine lv_tableOut (tgt := 78) S.1 S.2.1 dX11_thing_11 (by omega) (by decide) ?_
    refine lv_iconst (v := -1) S.1 S.2.1 dX11_thing_78 (by decide) ?_
    exact xri S hr hlk hw (congrArg (fun b => (b, u)) hV) dX11_thing_79
  · replace hV := hV.trans (if_pos c_1)
    have gc_1 : ((b2i (m_isThing u p1))).toInt = 0 := xq_eq c_1 rfl rfl
    refine lv_iconst (v := -1) S.1 S.2.1 dX11_thing_8 (by decide) ?_
    exact xri S hr hlk hw (congrArg (fun b => (b, u)) hV) dX11_thing_9
def m_cast (u : xU) (p1 : Int32) (p2 : Int32) : Int32 :=
    (if (b2i (m_isCast u p1)) = (0 : Int32) then
    (-1 : Int32)
    else
    (if p2 = 0 then
    (u.1 5 (p1).toNatClampNeg)
    else
    (if p2 = 1 then
    (u.1 6 (p1).toNatClampNeg)
    else
    (if p2 = 2 then
    (u.1 7 (((55 : Int32) + p1)).toNatClampNeg)
    else
    (if p2 = 3 then
    (u.1 7 (((61 : Int32) + p1)).toNatClampNeg)
    else
    (if p2 = 4 then
    (if (b2i (m_isBroken u p1)) = (0 : Int32) then
    (0 : Int32)
    else
    (1 : Int32))
    else
    (if p2 = 5 then
    (u.1 7 (((49 : Int32) + p1)).toNatClampNeg)
    else
    (if p2 = 6 then
    (m_mays u p1)
    else
    (if p2 = 7 then
    (u.1 7 (((68 : Int32) + p1)).toNatClampNeg)
    else
    (-1 : Int32))))))))))
set_option maxHeartbeats 4000000 in
set_option maxRecDepth 100000 in
theorem c_m_cast (l : Launch) (D : va_G) (a : Nat → Nat) (Y : Nat → ClassId) (ts : Nat → Nat) (u : xU) (p1 : Int32) (p2 : Int32) (hT : (0 ≤ ((u.1 0 0)).toInt ∧ ((u.1 0 0)).toInt ≤ 8)) (hC : (0 ≤ ((u.1 0 5)).toInt ∧ ((u.1 0 5)).toInt ≤ 6)) : xMi l yX11_cast cX11_cast 3 (some .int) (xRm 4 88) D (xty Y) (wM a Y) ts [.ref (a 0), .int p1, .int p2] u ((m_cast u p1 p2), u) := by
  suffices h : ∀ V, V = m_cast u p1 p2 → xMi l yX11_cast cX11_cast 3 (some .int) (xRm 4 88) D (xty Y) (wM a Y) ts [.ref (a 0), .int p1, .int p2] u (V, u) from h _ rfl
  intro V hV
  refine xofi RX11 rfl (by decide) (Nat.le_of_ble_eq_true rfl) ?_
  intro p e s m args below meth c ls H locs A S hr hlk hl hK hE hA hw
  have hl : lv_has ls 3 [(0, .ref (a 0)), (1, .int p1), (2, .int p2)] := hl
  refine lv_aload_n S.1 S.2.1 dX11_cast_0 rfl (lv_at hl 0 rfl) ?_
  refine lv_iload_n S.1 S.2.1 dX11_cast_1 rfl (lv_at hl 1 rfl) ?_
  refine xci (rest := []) S hK hE hA hw yfX11_isCast (c_m_isCast l D a Y ts _ p1 (show (0 ≤ ((u.1 0 0)).toInt ∧ ((u.1 0 0)).toInt ≤ 8) from by omega) (show (0 ≤ ((u.1 0 5)).toInt ∧ ((u.1 0 5)).toInt ≤ 6) from by omega)) 0 rfl rfl mlX11_162 rfl rfl hl.1 ⟨rfl, rfl, Nat.le_of_ble_eq_true rfl, Nat.le_of_ble_eq_true rfl, Nat.le_of_ble_eq_true rfl, Nat.zero_le _, Nat.zero_le _⟩ dX11_cast_2 (fun H locs hw => ?_)
  refine lv_if_ne (tgt := 10) S.1 S.2.1 dX11_cast_5 (by decide) (fun c_1 => ?_) (fun c_1 => ?_)
  · replace hV := hV.trans (if_neg c_1)
    have gc_1 : ¬ ((b2i (m_isCast u p1))).toInt = 0 := xq_ne c_1 rfl rfl
    have fc_1 := hk_mCast hC c_1
    refine lv_iload_n S.1 S.2.1 dX11_cast_10 rfl (lv_at hl 2 rfl) ?_
    by_cases c_2 : p2 = 0
    · replace hV := hV.trans (if_pos c_2)
      have gc_2 : (p2).toInt = 0 := xq_eq c_2 rfl rfl
      refine lv_tableIn (tgt := 56) S.1 S.2.1 dX11_cast_11 (by rw [c_2]; decide) (by rw [c_2]; decide) (by rw [c_2]; rfl) (by decide) ?_
      refine lv_aload_n S.1 S.2.1 dX11_cast_56 rfl (lv_at hl 0 rfl) ?_
      refine xget (v := .ref (a 5)) S hK hw 0 rfl rfl inX11 6 (by decide) mfX11_22 rfl dX11_cast_57 ?_
      refine lv_iload_n S.1 S.2.1 dX11_cast_60 rfl (lv_at hl 1 rfl) ?_
      refine xald (f := u.1 5) S hK hw 5 0 rfl rfl (xvi rfl (by omega) (by omega)) dX11_cast_61 ?_
      exact xri S hr hlk hw (congrArg (fun b => (b, u)) hV) dX11_cast_62
    replace hV := hV.trans (if_neg c_2)
    by_cases c_3 : p2 = 1
    · replace hV := hV.trans (if_pos c_3)
      have gc_3 : (p2).toInt = 1 := xq_eq c_3 rfl rfl
      refine lv_tableIn (tgt := 63) S.1 S.2.1 dX11_cast_11 (by rw [c_3]; decide) (by rw [c_3]; decide) (by rw [c_3]; rfl) (by decide) ?_
      refine lv_aload_n S.1 S.2.1 dX11_cast_63 rfl (lv_at hl 0 rfl) ?_
      refine xget (v := .ref (a 6)) S hK hw 0 rfl rfl inX11 7 (by decide) mfX11_25 rfl dX11_cast_64 ?_
      refine lv_iload_n S.1 S.2.1 dX11_cast_67 rfl (lv_at hl 1 rfl) ?_
      refine xald (f := u.1 6) S hK hw 6 0 rfl rfl (xvi rfl (by omega) (by omega)) dX11_cast_68 ?_
      exact xri S hr hlk hw (congrArg (fun b => (b, u)) hV) dX11_cast_69
    replace hV := hV.trans (if_neg c_3)
    by_cases c_4 : p2 = 2
    · replace hV := hV.trans (if_pos c_4)
      have gc_4 : (p2).toInt = 2 := xq_eq c_4 rfl rfl
      refine lv_tableIn (tgt := 70) S.1 S.2.1 dX11_cast_11 (by rw [c_4]; decide) (by rw [c_4]; decide) (by rw [c_4]; rfl) (by decide) ?_
      refine lv_aload_n S.1 S.2.1 dX11_cast_70 rfl (lv_at hl 0 rfl) ?_
      refine xget (v := .ref (a 7)) S hK hw 0 rfl rfl inX11 8 (by decide) mfX11_28 rfl dX11_cast_71 ?_
      refine lv_bipush (v := 55) S.1 S.2.1 dX11_cast_74 (by decide) ?_
      refine lv_iload_n S.1 S.2.1 dX11_cast_76 rfl (lv_at hl 1 rfl) ?_
      refine lv_iadd S.1 S.2.1 dX11_cast_77 ?_
      have e_5 : ∀ _ : Unit, (((55 : Int32) + p1)).toInt = 55 + (p1).toInt := fun _ => xadd rfl rfl (by omega) (by omega)
      refine xald (f := u.1 7) S hK hw 7 0 rfl rfl (xvi (e_5 ()) (by omega) (by omega)) dX11_cast_78 ?_
      exact xri S hr hlk hw (congrArg (fun b => (b, u)) hV) dX11_cast_79
    replace hV := hV.trans (if_neg c_4)
    by_cases c_6 : p2 = 3
    · replace hV := hV.trans (if_pos c_6)
      have gc_6 : (p2).toInt = 3 := xq_eq c_6 rfl rfl
      refine lv_tableIn (tgt := 80) S.1 S.2.1 dX11_cast_11 (by rw [c_6]; decide) (by rw [c_6]; decide) (by rw [c_6]; rfl) (by decide) ?_
      refine lv_aload_n S.1 S.2.1 dX11_cast_80 rfl (lv_at hl 0 rfl) ?_
      refine xget (v := .ref (a 7)) S hK hw 0 rfl rfl inX11 8 (by decide) mfX11_28 rfl dX11_cast_81 ?_
      refine lv_bipush (v := 61) S.1 S.2.1 dX11_cast_84 (by decide) ?_
      refine lv_iload_n S.1 S.2.1 dX11_cast_86 rfl (lv_at hl 1 rfl) ?_
      refine lv_iadd S.1 S.2.1 dX11_cast_87 ?_
      have e_7 : ∀ _ : Unit, (((61 : Int32) + p1)).toInt = 61 + (p1).toInt := fun _ => xadd rfl rfl (by omega) (by omega)
      refine xald (f := u.1 7) S hK hw 7 0 rfl rfl (xvi (e_7 ()) (by omega) (by omega)) dX11_cast_88 ?_
      exact xri S hr hlk hw (congrArg (fun b => (b, u)) hV) dX11_cast_89
    replace hV := hV.trans (if_neg c_6)
    by_cases c_8 : p2 = 4
    · replace hV := hV.trans (if_pos c_8)
      have gc_8 : (p2).toInt = 4 := xq_eq c_8 rfl rfl
      refine lv_tableIn (tgt := 90) S.1 S.2.1 dX11_cast_11 (by rw [c_8]; decide) (by rw [c_8]; decide) (by rw [c_8]; rfl) (by decide) ?_
      refine lv_aload_n S.1 S.2.1 dX11_cast_90 rfl (lv_at hl 0 rfl) ?_
      refine lv_iload_n S.1 S.2.1 dX11_cast_91 rfl (lv_at hl 1 rfl) ?_
      refine xci (rest := []) S hK hE hA hw yfX11_isBroken (c_m_isBroken l D a Y ts _ p1 (show (0 ≤ ((u.1 0 0)).toInt ∧ ((u.1 0 0)).toInt ≤ 8) from by omega) (show (0 ≤ ((u.1 0 5)).toInt ∧ ((u.1 0 5)).toInt ≤ 6) from by omega) (show 0 ≤ (p1).toInt ∧ (p1).toInt < 6 from by omega)) 0 rfl rfl mlX11_144 rfl rfl hl.1 ⟨rfl, rfl, Nat.le_of_ble_eq_true rfl, Nat.le_of_ble_eq_true rfl, Nat.le_of_ble_eq_true rfl, Nat.zero_le _, Nat.zero_le _⟩ dX11_cast_92 (fun H locs hw => ?_)
      refine lv_if_eq (tgt := 102) S.1 S.2.1 dX11_cast_95 (by decide) (fun c_9 => ?_) (fun c_9 => ?_)
      · replace hV := hV.trans (if_pos c_9)
        have gc_9 : ((b2i (m_isBroken u p1))).toInt = 0 := xq_eq c_9 rfl rfl
        refine lv_iconst (v := 0) S.1 S.2.1 dX11_cast_102 (by decide) ?_
        exact xri S hr hlk hw (congrArg (fun b => (b, u)) hV) dX11_cast_103
      · replace hV := hV.trans (if_neg c_9)
        have gc_9 : ¬ ((b2i (m_isBroken u p1))).toInt = 0 := xq_ne c_9 rfl rfl
        refine lv_iconst (v := 1) S.1 S.2.1 dX11_cast_98 (by decide) ?_
        refine lv_goto (tgt := 103) S.1 S.2.1 dX11_cast_99 (by decide) ?_
        exact xri S hr hlk hw (congrArg (fun b => (b, u)) hV) dX11_cast_103
    replace hV := hV.trans (if_neg c_8)
    by_cases c_10 : p2 = 5
    · replace hV := hV.trans (if_pos c_10)
      have gc_10 : (p2).toInt = 5 := xq_eq c_10 rfl rfl
      refine lv_tableIn (tgt := 104) S.1 S.2.1 dX11_cast_11 (by rw [c_10]; decide) (by rw [c_10]; decide) (by rw [c_10]; rfl) (by decide) ?_
      refine lv_aload_n S.1 S.2.1 dX11_cast_104 rfl (lv_at hl 0 rfl) ?_
      refine xget (v := .ref (a 7)) S hK hw 0 rfl rfl inX11 8 (by decide) mfX11_28 rfl dX11_cast_105 ?_
      refine lv_bipush (v := 49) S.1 S.2.1 dX11_cast_108 (by decide) ?_
      refine lv_iload_n S.1 S.2.1 dX11_cast_110 rfl (lv_at hl 1 rfl) ?_
      refine lv_iadd S.1 S.2.1 dX11_cast_111 ?_
      have e_11 : ∀ _ : Unit, (((49 : Int32) + p1)).toInt = 49 + (p1).toInt := fun _ => xadd rfl rfl (by omega) (by omega)
      refine xald (f := u.1 7) S hK hw 7 0 rfl rfl (xvi (e_11 ()) (by omega) (by omega)) dX11_cast_112 ?_
      exact xri S hr hlk hw (congrArg (fun b => (b, u)) hV) dX11_cast_113
    replace hV := hV.trans (if_neg c_10)
    by_cases c_12 : p2 = 6
    · replace hV := hV.trans (if_pos c_12)
      have gc_12 : (p2).toInt = 6 := xq_eq c_12 rfl rfl
      refine lv_tableIn (tgt := 114) S.1 S.2.1 dX11_cast_11 (by rw [c_12]; decide) (by rw [c_12]; decide) (by rw [c_12]; rfl) (by decide) ?_
      refine lv_aload_n S.1 S.2.1 dX11_cast_114 rfl (lv_at hl 0 rfl) ?_
      refine lv_iload_n S.1 S.2.1 dX11_cast_115 rfl (lv_at hl 1 rfl) ?_
      refine xci (rest := []) S hK hE hA hw yfX11_mays (c_m_mays l D a Y ts _ p1 (show (0 ≤ ((u.1 0 0)).toInt ∧ ((u.1 0 0)).toInt ≤ 8) from by omega) (show (0 ≤ ((u.1 0 5)).toInt ∧ ((u.1 0 5)).toInt ≤ 6) from by omega) (show 0 ≤ (p1).toInt ∧ (p1).toInt < 6 from by omega)) 0 rfl rfl mlX11_165 rfl rfl hl.1 ⟨rfl, rfl, Nat.le_of_ble_eq_true rfl, Nat.le_of_ble_eq_true rfl, Nat.le_of_ble_eq_true rfl, Nat.zero_le _, Nat.zero_le _⟩ dX11_cast_116 (fun H locs hw => ?_)
      exact xri S hr hlk hw (congrArg (fun b => (b, u)) hV) dX11_cast_119
    replace hV := hV.trans (if_neg c_12)
    by_cases c_13 : p2 = 7
    · replace hV := hV.trans (if_pos c_13)
      have gc_13 : (p2).toInt = 7 := xq_eq c_13 rfl rfl
      refine lv_tableIn (tgt := 120) S.1 S.2.1 dX11_cast_11 (by rw [c_13]; decide) (by rw [c_13]; decide) (by rw [c_13]; rfl) (by decide) ?_
      refine lv_aload_n S.1 S.2.1 dX11_cast_120 rfl (lv_at hl 0 rfl) ?_
      refine xget (v := .ref (a 7)) S hK hw 0 rfl rfl inX11 8 (by decide) mfX11_28 rfl dX11_cast_121 ?_
      refine lv_bipush (v := 68) S.1 S.2.1 dX11_cast_124 (by decide) ?_
      refine lv_iload_n S.1 S.2.1 dX11_cast_126 rfl (lv_at hl 1 rfl) ?_
      refine lv_iadd S.1 S.2.1 dX11_cast_127 ?_
      have e_14 : ∀ _ : Unit, (((68 : Int32) + p1)).toInt = 68 + (p1).toInt := fun _ => xadd rfl rfl (by omega) (by omega)
      refine xald (f := u.1 7) S hK hw 7 0 rfl rfl (xvi (e_14 ()) (by omega) (by omega)) dX11_cast_128 ?_
      exact xri S hr hlk hw (congrArg (fun b => (b, u)) hV) dX11_cast_129
    replace hV := hV.trans (if_neg c_13)
    have gc_2 : ¬ (p2).toInt = 0 := xq_ne c_2 rfl rfl
    have gc_3 : ¬ (p2).toInt = 1 := xq_ne c_3 rfl rfl
    have gc_4 : ¬ (p2).toInt = 2 := xq_ne c_4 rfl rfl
    have gc_6 : ¬ (p2).toInt = 3 := xq_ne c_6 rfl rfl
    have gc_8 : ¬ (p2).toInt = 4 := xq_ne c_8 rfl rfl
    have gc_10 : ¬ (p2).toInt = 5 := xq_ne c_10 rfl rfl
    have gc_12 : ¬ (p2).toInt = 6 := xq_ne c_12 rfl rfl
    have gc_13 : ¬ (p2).toInt = 7 := xq_ne c_13 rfl rfl
    refine lv_tableOut (tgt := 130) S.1 S.2.1 dX11_cast_11 (by omega) (by decide) ?_
    refine lv_iconst (v := -1) S.1 S.2.1 dX11_cast_130 (by decide) ?_
    exact xri S hr hlk hw (congrArg (fun b => (b, u)) hV) dX11_cast_131
  · replace hV := hV.trans (if_pos c_1)
    have gc_1 : ((b2i (m_isCast u p1))).toInt = 0 := xq_eq c_1 rfl rfl
    refine lv_iconst (v := -1) S.1 S.2.1 dX11_cast_8 (by decide) ?_
    exact xri S hr hlk hw (congrArg (fun b => (b, u)) hV) dX11_cast_9
def m_far (u : xU) (p1 : Int32) (p2 : Int32) : Int32 :=
    (if (b2i (m_isCast u p1)) = (0 : Int32) then
    (-1 : Int32)
    else
    (if (b2i (m_isThing u p2)) = (0 : Int32) then
    (-1 : Int32)
    else
    (u.1 7 ((((1 : Int32) + ((8 : Int32) * p1)) + p2)).toNatClampNeg)))
set_option maxHeartbeats 4000000 in
set_option maxRecDepth 100000 in
theorem c_m_far (l : Launch) (D : va_G) (a : Nat → Nat) (Y : Nat → ClassId) (ts : Nat → Nat) (u : xU) (p1 : Int32) (p2 : Int32) (hT : (0 ≤ ((u.1 0 0)).toInt ∧ ((u.1 0 0)).toInt ≤ 8)) (hC : (0 ≤ ((u.1 0 5)).toInt ∧ ((u.1 0 5)).toInt ≤ 6)) : xMi l yX11_far cX11_far 3 (some .int) (xRm 2 43) D (xty Y) (wM a Y) ts [.ref (a 0), .int p1, .int p2] u ((m_far u p1 p2), u) := by
  suffices h : ∀ V, V = m_far u p1 p2 → xMi l yX11_far cX11_far 3 (some .int) (xRm 2 43) D (xty Y) (wM a Y) ts [.ref (a 0), .int p1, .int p2] u (V, u) from h _ rfl
  intro V hV
  refine xofi RX11 rfl (by decide) (Nat.le_of_ble_eq_true rfl) ?_
  intro p e s m args below meth c ls H locs A S hr hlk hl hK hE hA hw
  have hl : lv_has ls 3 [(0, .ref (a 0)), (1, .int p1), (2, .int p2)] := hl
  refine lv_aload_n S.1 S.2.1 dX11_far_0 rfl (lv_at hl 0 rfl) ?_
  refine lv_iload_n S.1 S.2.1 dX11_far_1 rfl (lv_at hl 1 rfl) ?_
  refine xci (rest := []) S hK hE hA hw yfX11_isCast (c_m_isCast l D a Y ts _ p1 (show (0 ≤ ((u.1 0 0)).toInt ∧ ((u.1 0 0)).toInt ≤ 8) from by omega) (show (0 ≤ ((u.1 0 5)).toInt ∧ ((u.1 0 5)).toInt ≤ 6) from by omega)) 0 rfl rfl mlX11_162 rfl rfl hl.1 ⟨rfl, rfl, Nat.le_of_ble_eq_true rfl, Nat.le_of_ble_eq_true rfl, Nat.le_of_ble_eq_true rfl, Nat.zero_le _, Nat.zero_le _⟩ dX11_far_2 (fun H locs hw => ?_)
  refine lv_if_eq (tgt := 32) S.1 S.2.1 dX11_far_5 (by decide) (fun c_1 => ?_) (fun c_1 => ?_)
  · replace hV := hV.trans (if_pos c_1)
    have gc_1 : ((b2i (m_isCast u p1))).toInt = 0 := xq_eq c_1 rfl rfl
    refine lv_iconst (v := -1) S.1 S.2.1 dX11_far_32 (by decide) ?_
    exact xri S hr hlk hw (congrArg (fun b => (b, u)) hV) dX11_far_33
  · replace hV := hV.trans (if_neg c_1)
    have gc_1 : ¬ ((b2i (m_isCast u p1))).toInt = 0 := xq_ne c_1 rfl rfl
    have fc_1 := hk_mCast hC c_1
    refine lv_aload_n S.1 S.2.1 dX11_far_8 rfl (lv_at hl 0 rfl) ?_
    refine lv_iload_n S.1 S.2.1 dX11_far_9 rfl (lv_at hl 2 rfl) ?_
    refine xci (rest := []) S hK hE hA hw yfX11_isThing (c_m_isThing l D a Y ts _ p2 (show (0 ≤ ((u.1 0 0)).toInt ∧ ((u.1 0 0)).toInt ≤ 8) from by omega) (show (0 ≤ ((u.1 0 5)).toInt ∧ ((u.1 0 5)).toInt ≤ 6) from by omega)) 0 rfl rfl mlX11_156 rfl rfl hl.1 ⟨rfl, rfl, Nat.le_of_ble_eq_true rfl, Nat.le_of_ble_eq_true rfl, Nat.le_of_ble_eq_true rfl, Nat.zero_le _, Nat.zero_le _⟩ dX11_far_10 (fun H locs hw => ?_)
    refine lv_if_eq (tgt := 32) S.1 S.2.1 dX11_far_13 (by decide) (fun c_2 => ?_) (fun c_2 => ?_)
    · replace hV := hV.trans (if_pos c_2)
      have gc_2 : ((b2i (m_isThing u p2))).toInt = 0 := xq_eq c_2 rfl rfl
      refine lv_iconst (v := -1) S.1 S.2.1 dX11_far_32 (by decide) ?_
      exact xri S hr hlk hw (congrArg (fun b => (b, u)) hV) dX11_far_33
    · replace hV := hV.trans (if_neg c_2)
      have gc_2 : ¬ ((b2i (m_isThing u p2))).toInt = 0 := xq_ne c_2 rfl rfl
      have fc_2 := hk_mThing hT c_2
      refine lv_aload_n S.1 S.2.1 dX11_far_16 rfl (lv_at hl 0 rfl) ?_
      refine xget (v := .ref (a 7)) S hK hw 0 rfl rfl inX11 8 (by decide) mfX11_28 rfl dX11_far_17 ?_
      refine lv_iconst (v := 1) S.1 S.2.1 dX11_far_20 (by decide) ?_
      refine lv_bipush (v := 8) S.1 S.2.1 dX11_far_21 (by decide) ?_
      refine lv_iload_n S.1 S.2.1 dX11_far_23 rfl (lv_at hl 1 rfl) ?_
      refine lv_imul S.1 S.2.1 dX11_far_24 ?_
      refine lv_iadd S.1 S.2.1 dX11_far_25 ?_
      refine lv_iload_n S.1 S.2.1 dX11_far_26 rfl (lv_at hl 2 rfl) ?_
      refine lv_iadd S.1 S.2.1 dX11_far_27 ?_
      have e_3 : ∀ _ : Unit, (((8 : Int32) * p1)).toInt = 8 * (p1).toInt := fun _ => xmul rfl rfl (by omega) (by omega)
      have e_4 : ∀ _ : Unit, (((1 : Int32) + ((8 : Int32) * p1))).toInt = 1 + (8 * (p1).toInt) := fun _ => xadd rfl (e_3 ()) (by omega) (by omega)
      have e_5 : ∀ _ : Unit, ((((1 : Int32) + ((8 : Int32) * p1)) + p2)).toInt = (1 + (8 * (p1).toInt)) + (p2).toInt := fun _ => xadd (e_4 ()) rfl (by omega) (by omega)
      refine xald (f := u.1 7) S hK hw 7 0 rfl rfl (xvi (e_5 ()) (by omega) (by omega)) dX11_far_28 ?_
      refine lv_goto (tgt := 33) S.1 S.2.1 dX11_far_29 (by decide) ?_
      exact xri S hr hlk hw (congrArg (fun b => (b, u)) hV) dX11_far_33
def m_now (u : xU) (p1 : Int32) : Int32 :=
    (if p1 = 0 then
    (u.1 7 0)
    else
    (if p1 = 1 then
    (u.1 7 67)
    else
    (if p1 = 2 then
    (m_inClass u)
    else
    (if p1 = 3 then
    (m_learntAll u)
    else
    (if p1 = 4 then
    (m_tree u)
    else
    (-1 : Int32))))))
set_option maxHeartbeats 4000000 in
set_option maxRecDepth 100000 in
theorem c_m_now (l : Launch) (D : va_G) (a : Nat → Nat) (Y : Nat → ClassId) (ts : Nat → Nat) (u : xU) (p1 : Int32) (hT : (0 ≤ ((u.1 0 0)).toInt ∧ ((u.1 0 0)).toInt ≤ 8)) (hC : (0 ≤ ((u.1 0 5)).toInt ∧ ((u.1 0 5)).toInt ≤ 6)) : xMi l yX11_now cX11_now 2 (some .int) (xRm 3 72) D (xty Y) (wM a Y) ts [.ref (a 0), .int p1] u ((m_now u p1), u) := by
  suffices h : ∀ V, V = m_now u p1 → xMi l yX11_now cX11_now 2 (some .int) (xRm 3 72) D (xty Y) (wM a Y) ts [.ref (a 0), .int p1] u (V, u) from h _ rfl
  intro V hV
  refine xofi RX11 rfl (by decide) (Nat.le_of_ble_eq_true rfl) ?_
  intro p e s m args below meth c ls H locs A S hr hlk hl hK hE hA hw
  have hl : lv_has ls 2 [(0, .ref (a 0)), (1, .int p1)] := hl
  refine lv_iload_n S.1 S.2.1 dX11_now_0 rfl (lv_at hl 1 rfl) ?_
  by_cases c_1 : p1 = 0
  · replace hV := hV.trans (if_pos c_1)
    have gc_1 : (p1).toInt = 0 := xq_eq c_1 rfl rfl
    refine lv_tableIn (tgt := 36) S.1 S.2.1 dX11_now_1 (by rw [c_1]; decide) (by rw [c_1]; decide) (by rw [c_1]; rfl) (by decide) ?_
    refine lv_aload_n S.1 S.2.1 dX11_now_36 rfl (lv_at hl 0 rfl) ?_
    refine xget (v := .ref (a 7)) S hK hw 0 rfl rfl inX11 8 (by decide) mfX11_28 rfl dX11_now_37 ?_
    refine lv_iconst (v := 0) S.1 S.2.1 dX11_now_40 (by decide) ?_
    refine xaldc (f := u.1 7) (x := (u.1 7 0)) (k := 0) S hK hw 7 0 rfl rfl (by decide) rfl (xvi (a := 0) rfl (by decide) (by decide)) dX11_now_41 ?_
    exact xri S hr hlk hw (congrArg (fun b => (b, u)) hV) dX11_now_42
  replace hV := hV.trans (if_neg c_1)
  by_cases c_2 : p1 = 1
  · replace hV := hV.trans (if_pos c_2)
    have gc_2 : (p1).toInt = 1 := xq_eq c_2 rfl rfl
    refine lv_tableIn (tgt := 43) S.1 S.2.1 dX11_now_1 (by rw [c_2]; decide) (by rw [c_2]; decide) (by rw [c_2]; rfl) (by decide) ?_
    refine lv_aload_n S.1 S.2.1 dX11_now_43 rfl (lv_at hl 0 rfl) ?_
    refine xget (v := .ref (a 7)) S hK hw 0 rfl rfl inX11 8 (by decide) mfX11_28 rfl dX11_now_44 ?_
    refine lv_bipush (v := 67) S.1 S.2.1 dX11_now_47 (by decide) ?_
    refine xaldc (f := u.1 7) (x := (u.1 7 67)) (k := 67) S hK hw 7 0 rfl rfl (by decide) rfl (xvi (a := 67) rfl (by decide) (by decide)) dX11_now_49 ?_
    exact xri S hr hlk hw (congrArg (fun b => (b, u)) hV) dX11_now_50
  replace hV := hV.trans (if_neg c_2)
  by_cases c_3 : p1 = 2
  · replace hV := hV.trans (if_pos c_3)
    have gc_3 : (p1).toInt = 2 := xq_eq c_3 rfl rfl
    refine lv_tableIn (tgt := 51) S.1 S.2.1 dX11_now_1 (by rw [c_3]; decide) (by rw [c_3]; decide) (by rw [c_3]; rfl) (by decide) ?_
    refine lv_aload_n S.1 S.2.1 dX11_now_51 rfl (lv_at hl 0 rfl) ?_
    refine xci (rest := []) S hK hE hA hw yfX11_inClass (c_m_inClass l D a Y ts _ (show (0 ≤ ((u.1 0 0)).toInt ∧ ((u.1 0 0)).toInt ≤ 8) from by omega) (show (0 ≤ ((u.1 0 5)).toInt ∧ ((u.1 0 5)).toInt ≤ 6) from by omega)) 0 rfl rfl mlX11_178 rfl rfl hl.1 ⟨rfl, rfl, Nat.le_of_ble_eq_true rfl, Nat.le_of_ble_eq_true rfl, Nat.le_of_ble_eq_true rfl, Nat.zero_le _, Nat.zero_le _⟩ dX11_now_52 (fun H locs hw => ?_)
    exact xri S hr hlk hw (congrArg (fun b => (b, u)) hV) dX11_now_55
  replace hV := hV.trans (if_neg c_3)
  by_cases c_4 : p1 = 3
  · replace hV := hV.trans (if_pos c_4)
    have gc_4 : (p1).toInt = 3 := xq_eq c_4 rfl rfl
    refine lv_tableIn (tgt := 56) S.1 S.2.1 dX11_now_1 (by rw [c_4]; decide) (by rw [c_4]; decide) (by rw [c_4]; rfl) (by decide) ?_
    refine lv_aload_n S.1 S.2.1 dX11_now_56 rfl (lv_at hl 0 rfl) ?_
    refine xci (rest := []) S hK hE hA hw yfX11_learntAll (c_m_learntAll l D a Y ts _ (show (0 ≤ ((u.1 0 0)).toInt ∧ ((u.1 0 0)).toInt ≤ 8) from by omega) (show (0 ≤ ((u.1 0 5)).toInt ∧ ((u.1 0 5)).toInt ≤ 6) from by omega)) 0 rfl rfl mlX11_182 rfl rfl hl.1 ⟨rfl, rfl, Nat.le_of_ble_eq_true rfl, Nat.le_of_ble_eq_true rfl, Nat.le_of_ble_eq_true rfl, Nat.zero_le _, Nat.zero_le _⟩ dX11_now_57 (fun H locs hw => ?_)
    exact xri S hr hlk hw (congrArg (fun b => (b, u)) hV) dX11_now_60
  replace hV := hV.trans (if_neg c_4)
  by_cases c_5 : p1 = 4
  · replace hV := hV.trans (if_pos c_5)
    have gc_5 : (p1).toInt = 4 := xq_eq c_5 rfl rfl
    refine lv_tableIn (tgt := 61) S.1 S.2.1 dX11_now_1 (by rw [c_5]; decide) (by rw [c_5]; decide) (by rw [c_5]; rfl) (by decide) ?_
    refine lv_aload_n S.1 S.2.1 dX11_now_61 rfl (lv_at hl 0 rfl) ?_
    refine xci (rest := []) S hK hE hA hw yfX11_tree (c_m_tree l D a Y ts _ (show (0 ≤ ((u.1 0 0)).toInt ∧ ((u.1 0 0)).toInt ≤ 8) from by omega) (show (0 ≤ ((u.1 0 5)).toInt ∧ ((u.1 0 5)).toInt ≤ 6) from by omega)) 0 rfl rfl mlX11_185 rfl rfl hl.1 ⟨rfl, rfl, Nat.le_of_ble_eq_true rfl, Nat.le_of_ble_eq_true rfl, Nat.le_of_ble_eq_true rfl, Nat.zero_le _, Nat.zero_le _⟩ dX11_now_62 (fun H locs hw => ?_)
    exact xri S hr hlk hw (congrArg (fun b => (b, u)) hV) dX11_now_65
  replace hV := hV.trans (if_neg c_5)
  have gc_1 : ¬ (p1).toInt = 0 := xq_ne c_1 rfl rfl
  have gc_2 : ¬ (p1).toInt = 1 := xq_ne c_2 rfl rfl
  have gc_3 : ¬ (p1).toInt = 2 := xq_ne c_3 rfl rfl
  have gc_4 : ¬ (p1).toInt = 3 := xq_ne c_4 rfl rfl
  have gc_5 : ¬ (p1).toInt = 4 := xq_ne c_5 rfl rfl
  refine lv_tableOut (tgt := 66) S.1 S.2.1 dX11_now_1 (by omega) (by decide) ?_
  refine lv_iconst (v := -1) S.1 S.2.1 dX11_now_66 (by decide) ?_
  exact xri S hr hlk hw (congrArg (fun b => (b, u)) hV) dX11_now_67
def m_plan (u : xU) (p1 : Int32) (p2 : Int32) (p3 : Int32) : Int32 :=
    (if (b2i (m_isCast u p1)) = (0 : Int32) then
    (-1 : Int32)
    else
    (if (b2i (m_isThing u p2)) = (0 : Int32) then
    (-1 : Int32)
    else
    (if (b2i (m_in p3 (-3 : Int32) (7 : Int32))) = (0 : Int32) then
    (-1 : Int32)
    else
    (if (b2i (m_can u p1 p2)) = (0 : Int32) then
    (if (m_wanted u p1 p2) = (0 : Int32) then
    (if p3 = (-1 : Int32) then
    (m_wanted u p1 p2)
    else
    (if p3 = (-2 : Int32) then
    (m_nightsOf u p1 (m_wanted u p1 p2))
    else
    (if p3 = (-3 : Int32) then
    (m_cracksOf u p1 (m_wanted u p1 p2))
    else
    (m_kth (m_wanted u p1 p2) p3))))
    else
    (if (b2i (m_bears u p1 (m_wanted u p1 p2))) = (0 : Int32) then
    (-9 : Int32)
    else
    (if p3 = (-1 : Int32) then
    (m_wanted u p1 p2)
    else
    (if p3 = (-2 : Int32) then
    (m_nightsOf u p1 (m_wanted u p1 p2))
    else
    (if p3 = (-3 : Int32) then
    (m_cracksOf u p1 (m_wanted u p1 p2))
    else
    (m_kth (m_wanted u p1 p2) p3))))))
    else
    (if p3 = (-1 : Int32) then
    (0 : Int32)
    else
    (if p3 = (-2 : Int32) then
    (m_nightsOf u p1 (0 : Int32))
    else
    (if p3 = (-3 : Int32) then
    (m_cracksOf u p1 (0 : Int32))
    else
    (m_kth (0 : Int32) p3))))))))
set_option maxHeartbeats 4000000 in
set_option maxRecDepth 100000 in
theorem c_m_plan (l : Launch) (D : va_G) (a : Nat → Nat) (Y : Nat → ClassId) (ts : Nat → Nat) (u : xU) (p1 : Int32) (p2 : Int32) (p3 : Int32) (hT : (0 ≤ ((u.1 0 0)).toInt ∧ ((u.1 0 0)).toInt ≤ 8)) (hC : (0 ≤ ((u.1 0 5)).toInt ∧ ((u.1 0 5)).toInt ≤ 6)) (hr0 : ∀ c : Int32, 0 ≤ c.toInt → c.toInt < (u.1 0 5).toInt → ¬ (u.1 6 c.toNatClampNeg) = 0) : xMi l yX11_plan cX11_plan 5 (some .int) (xRm 3 72) D (xty Y) (wM a Y) ts [.ref (a 0), .int p1, .int p2, .int p3] u ((m_plan u p1 p2 p3), u) := by
  suffices h : ∀ V, V = m_plan u p1 p2 p3 → xMi l yX11_plan cX11_plan 5 (some .int) (xRm 3 72) D (xty Y) (wM a Y) ts [.ref (a 0), .int p1, .int p2, .int p3] u (V, u) from h _ rfl
  intro V hV
  refine xofi RX11 rfl (by decide) (Nat.le_of_ble_eq_true rfl) ?_
  intro p e s m args below meth c ls H locs A S hr hlk hl hK hE hA hw
  have hl : lv_has ls 5 [(0, .ref (a 0)), (1, .int p1), (2, .int p2), (3, .int p3)] := hl
  refine lv_aload_n S.1 S.2.1 dX11_plan_0 rfl (lv_at hl 0 rfl) ?_
  refine lv_iload_n S.1 S.2.1 dX11_plan_1 rfl (lv_at hl 1 rfl) ?_
  refine xci (rest := []) S hK hE hA hw yfX11_isCast (c_m_isCast l D a Y ts _ p1 (show (0 ≤ ((u.1 0 0)).toInt ∧ ((u.1 0 0)).toInt ≤ 8) from by omega) (show (0 ≤ ((u.1 0 5)).toInt ∧ ((u.1 0 5)).toInt ≤ 6) from by omega)) 0 rfl rfl mlX11_162 rfl rfl hl.1 ⟨rfl, rfl, Nat.le_of_ble_eq_true rfl, Nat.le_of_ble_eq_true rfl, Nat.le_of_ble_eq_true rfl, Nat.zero_le _, Nat.zero_le _⟩ dX11_plan_2 (fun H locs hw => ?_)
  refine lv_if_eq (tgt := 27) S.1 S.2.1 dX11_plan_5 (by decide) (fun c_1 => ?_) (fun c_1 => ?_)
  · replace hV := hV.trans (if_pos c_1)
    have gc_1 : ((b2i (m_isCast u p1))).toInt = 0 := xq_eq c_1 rfl rfl
    refine lv_iconst (v := -1) S.1 S.2.1 dX11_plan_27 (by decide) ?_
    exact xri S hr hlk hw (congrArg (fun b => (b, u)) hV) dX11_plan_28
  · replace hV := hV.trans (if_neg c_1)
    have gc_1 : ¬ ((b2i (m_isCast u p1))).toInt = 0 := xq_ne c_1 rfl rfl
    have fc_1 := hk_mCast hC c_1
    have hwit := hr0 p1 (by omega) (by omega)
    refine lv_aload_n S.1 S.2.1 dX11_plan_8 rfl (lv_at hl 0 rfl) ?_
    refine lv_iload_n S.1 S.2.1 dX11_plan_9 rfl (lv_at hl 2 rfl) ?_
    refine xci (rest := []) S hK hE hA hw yfX11_isThing (c_m_isThing l D a Y ts _ p2 (show (0 ≤ ((u.1 0 0)).toInt ∧ ((u.1 0 0)).toInt ≤ 8) from by omega) (show (0 ≤ ((u.1 0 5)).toInt ∧ ((u.1 0 5)).toInt ≤ 6) from by omega)) 0 rfl rfl mlX11_156 rfl rfl hl.1 ⟨rfl, rfl, Nat.le_of_ble_eq_true rfl, Nat.le_of_ble_eq_true rfl, Nat.le_of_ble_eq_true rfl, Nat.zero_le _, Nat.zero_le _⟩ dX11_plan_10 (fun H locs hw => ?_)
    refine lv_if_eq (tgt := 27) S.1 S.2.1 dX11_plan_13 (by decide) (fun c_2 => ?_) (fun c_2 => ?_)
    · replace hV := hV.trans (if_pos c_2)
      have gc_2 : ((b2i (m_isThing u p2))).toInt = 0 := xq_eq c_2 rfl rfl
      refine lv_iconst (v := -1) S.1 S.2.1 dX11_plan_27 (by decide) ?_
      exact xri S hr hlk hw (congrArg (fun b => (b, u)) hV) dX11_plan_28
    · replace hV := hV.trans (if_neg c_2)
      have gc_2 : ¬ ((b2i (m_isThing u p2))).toInt = 0 := xq_ne c_2 rfl rfl
      have fc_2 := hk_mThing hT c_2
      refine lv_iload_n S.1 S.2.1 dX11_plan_16 rfl (lv_at hl 3 rfl) ?_
      refine lv_bipush (v := -3) S.1 S.2.1 dX11_plan_17 (by decide) ?_
      refine lv_bipush (v := 7) S.1 S.2.1 dX11_plan_19 (by decide) ?_
      refine xcP (rest := []) S hw yfX11_in (c_m_in l p3 (-3 : Int32) (7 : Int32)) mlX11_72 rfl rfl hl.1 ⟨rfl, rfl, Nat.le_of_ble_eq_true rfl, Nat.le_of_ble_eq_true rfl, Nat.le_of_ble_eq_true rfl, Nat.zero_le _, Nat.zero_le _⟩ dX11_plan_21 (fun H locs hw => ?_)
      refine lv_if_ne (tgt := 29) S.1 S.2.1 dX11_plan_24 (by decide) (fun c_3 => ?_) (fun c_3 => ?_)
      · replace hV := hV.trans (if_neg c_3)
        have gc_3 : ¬ ((b2i (m_in p3 (-3 : Int32) (7 : Int32)))).toInt = 0 := xq_ne c_3 rfl rfl
        have fc_3 : (-3) ≤ (p3).toInt ∧ (p3).toInt ≤ 7 := hk_in' c_3 rfl rfl rfl
        refine lv_aload_n S.1 S.2.1 dX11_plan_29 rfl (lv_at hl 0 rfl) ?_
        refine lv_iload_n S.1 S.2.1 dX11_plan_30 rfl (lv_at hl 1 rfl) ?_
        refine lv_iload_n S.1 S.2.1 dX11_plan_31 rfl (lv_at hl 2 rfl) ?_
        refine xci (rest := []) S hK hE hA hw yfX11_can (c_m_can l D a Y ts _ p1 p2 (show (0 ≤ ((u.1 0 0)).toInt ∧ ((u.1 0 0)).toInt ≤ 8) from by omega) (show (0 ≤ ((u.1 0 5)).toInt ∧ ((u.1 0 5)).toInt ≤ 6) from by omega) (show 0 ≤ (p1).toInt ∧ (p1).toInt < 6 from by omega)) 0 rfl rfl mlX11_147 rfl rfl hl.1 ⟨rfl, rfl, Nat.le_of_ble_eq_true rfl, Nat.le_of_ble_eq_true rfl, Nat.le_of_ble_eq_true rfl, Nat.zero_le _, Nat.zero_le _⟩ dX11_plan_32 (fun H locs hw => ?_)
        refine lv_if_eq (tgt := 42) S.1 S.2.1 dX11_plan_35 (by decide) (fun c_4 => ?_) (fun c_4 => ?_)
        · replace hV := hV.trans (if_pos c_4)
          have gc_4 : ((b2i (m_can u p1 p2))).toInt = 0 := xq_eq c_4 rfl rfl
          refine lv_aload_n S.1 S.2.1 dX11_plan_42 rfl (lv_at hl 0 rfl) ?_
          refine lv_iload_n S.1 S.2.1 dX11_plan_43 rfl (lv_at hl 1 rfl) ?_
          refine lv_iload_n S.1 S.2.1 dX11_plan_44 rfl (lv_at hl 2 rfl) ?_
          refine xci (rest := []) S hK hE hA hw yfX11_wanted (c_m_wanted l D a Y ts _ p1 p2 (show (0 ≤ ((u.1 0 0)).toInt ∧ ((u.1 0 0)).toInt ≤ 8) from by omega) (show (0 ≤ ((u.1 0 5)).toInt ∧ ((u.1 0 5)).toInt ≤ 6) from by omega) (show 0 ≤ (p1).toInt ∧ (p1).toInt < 6 from by omega) (show 0 ≤ (p2).toInt ∧ (p2).toInt < 8 from by omega)) 0 rfl rfl mlX11_194 rfl rfl hl.1 ⟨rfl, rfl, Nat.le_of_ble_eq_true rfl, Nat.le_of_ble_eq_true rfl, Nat.le_of_ble_eq_true rfl, Nat.zero_le _, Nat.zero_le _⟩ dX11_plan_45 (fun H locs hw => ?_)
          refine lv_istore (lv' := [(4, .int (m_wanted u p1 p2)), (0, .ref (a 0)), (1, .int p1), (2, .int p2), (3, .int p3)]) S.1 S.2.1 dX11_plan_48 hl (by decide) rfl (fun ls hl => ?_)
          refine lv_iload S.1 S.2.1 dX11_plan_50 (lv_at hl 0 rfl) ?_
          refine lv_if_eq (tgt := 68) S.1 S.2.1 dX11_plan_52 (by decide) (fun c_5 => ?_) (fun c_5 => ?_)
          · replace hV := hV.trans (if_pos c_5)
            have gc_5 : ((m_wanted u p1 p2)).toInt = 0 := xq_eq c_5 rfl rfl
            refine lv_iload_n S.1 S.2.1 dX11_plan_68 rfl (lv_at hl 4 rfl) ?_
            refine lv_iconst (v := -1) S.1 S.2.1 dX11_plan_69 (by decide) ?_
            refine lv_icmp_ne (tgt := 78) S.1 S.2.1 dX11_plan_70 (by decide) (fun c_6 => ?_) (fun c_6 => ?_)
            · replace hV := hV.trans (if_neg c_6)
              have gc_6 : ¬ (p3).toInt = (-1) := xq_ne c_6 rfl rfl
              refine lv_iload_n S.1 S.2.1 dX11_plan_78 rfl (lv_at hl 4 rfl) ?_
              refine lv_bipush (v := -2) S.1 S.2.1 dX11_plan_79 (by decide) ?_
              refine lv_icmp_ne (tgt := 94) S.1 S.2.1 dX11_plan_81 (by decide) (fun c_7 => ?_) (fun c_7 => ?_)
              · replace hV := hV.trans (if_neg c_7)
                have gc_7 : ¬ (p3).toInt = (-2) := xq_ne c_7 rfl rfl
                refine lv_iload_n S.1 S.2.1 dX11_plan_94 rfl (lv_at hl 4 rfl) ?_
                refine lv_bipush (v := -3) S.1 S.2.1 dX11_plan_95 (by decide) ?_
                refine lv_icmp_ne (tgt := 110) S.1 S.2.1 dX11_plan_97 (by decide) (fun c_8 => ?_) (fun c_8 => ?_)
                · replace hV := hV.trans (if_neg c_8)
                  have gc_8 : ¬ (p3).toInt = (-3) := xq_ne c_8 rfl rfl
                  refine lv_iload S.1 S.2.1 dX11_plan_110 (lv_at hl 0 rfl) ?_
                  refine lv_iload_n S.1 S.2.1 dX11_plan_112 rfl (lv_at hl 4 rfl) ?_
                  refine xcP (rest := []) S hw yfX11_kth (c_m_kth l (m_wanted u p1 p2) p3) mlX11_203 rfl rfl hl.1 ⟨rfl, rfl, Nat.le_of_ble_eq_true rfl, Nat.le_of_ble_eq_true rfl, Nat.le_of_ble_eq_true rfl, Nat.zero_le _, Nat.zero_le _⟩ dX11_plan_113 (fun H locs hw => ?_)
                  exact xri S hr hlk hw (congrArg (fun b => (b, u)) hV) dX11_plan_116
                · replace hV := hV.trans (if_pos c_8)
                  have gc_8 : (p3).toInt = (-3) := xq_eq c_8 rfl rfl
                  refine lv_aload_n S.1 S.2.1 dX11_plan_100 rfl (lv_at hl 1 rfl) ?_
                  refine lv_iload_n S.1 S.2.1 dX11_plan_101 rfl (lv_at hl 2 rfl) ?_
                  refine lv_iload S.1 S.2.1 dX11_plan_102 (lv_at hl 0 rfl) ?_
                  refine xci (rest := []) S hK hE hA hw yfX11_cracksOf (c_m_cracksOf l D a Y ts _ p1 (m_wanted u p1 p2) (show (0 ≤ ((u.1 0 0)).toInt ∧ ((u.1 0 0)).toInt ≤ 8) from by omega) (show (0 ≤ ((u.1 0 5)).toInt ∧ ((u.1 0 5)).toInt ≤ 6) from by omega) (show 0 ≤ (p1).toInt ∧ (p1).toInt < 6 from by omega) hwit) 0 rfl rfl mlX11_191 rfl rfl hl.1 ⟨rfl, rfl, Nat.le_of_ble_eq_true rfl, Nat.le_of_ble_eq_true rfl, Nat.le_of_ble_eq_true rfl, Nat.zero_le _, Nat.zero_le _⟩ dX11_plan_104 (fun H locs hw => ?_)
                  refine lv_goto (tgt := 116) S.1 S.2.1 dX11_plan_107 (by decide) ?_
                  exact xri S hr hlk hw (congrArg (fun b => (b, u)) hV) dX11_plan_116
              · replace hV := hV.trans (if_pos c_7)
                have gc_7 : (p3).toInt = (-2) := xq_eq c_7 rfl rfl
                refine lv_aload_n S.1 S.2.1 dX11_plan_84 rfl (lv_at hl 1 rfl) ?_
                refine lv_iload_n S.1 S.2.1 dX11_plan_85 rfl (lv_at hl 2 rfl) ?_
                refine lv_iload S.1 S.2.1 dX11_plan_86 (lv_at hl 0 rfl) ?_
                refine xci (rest := []) S hK hE hA hw yfX11_nightsOf (c_m_nightsOf l D a Y ts _ p1 (m_wanted u p1 p2) (show (0 ≤ ((u.1 0 0)).toInt ∧ ((u.1 0 0)).toInt ≤ 8) from by omega) (show (0 ≤ ((u.1 0 5)).toInt ∧ ((u.1 0 5)).toInt ≤ 6) from by omega) (show 0 ≤ (p1).toInt ∧ (p1).toInt < 6 from by omega) hwit) 0 rfl rfl mlX11_200 rfl rfl hl.1 ⟨rfl, rfl, Nat.le_of_ble_eq_true rfl, Nat.le_of_ble_eq_true rfl, Nat.le_of_ble_eq_true rfl, Nat.zero_le _, Nat.zero_le _⟩ dX11_plan_88 (fun H locs hw => ?_)
                refine lv_goto (tgt := 116) S.1 S.2.1 dX11_plan_91 (by decide) ?_
                exact xri S hr hlk hw (congrArg (fun b => (b, u)) hV) dX11_plan_116
            · replace hV := hV.trans (if_pos c_6)
              have gc_6 : (p3).toInt = (-1) := xq_eq c_6 rfl rfl
              refine lv_iload S.1 S.2.1 dX11_plan_73 (lv_at hl 0 rfl) ?_
              refine lv_goto (tgt := 116) S.1 S.2.1 dX11_plan_75 (by decide) ?_
              exact xri S hr hlk hw (congrArg (fun b => (b, u)) hV) dX11_plan_116
          · replace hV := hV.trans (if_neg c_5)
            have gc_5 : ¬ ((m_wanted u p1 p2)).toInt = 0 := xq_ne c_5 rfl rfl
            refine lv_aload_n S.1 S.2.1 dX11_plan_55 rfl (lv_at hl 1 rfl) ?_
            refine lv_iload_n S.1 S.2.1 dX11_plan_56 rfl (lv_at hl 2 rfl) ?_
            refine lv_iload S.1 S.2.1 dX11_plan_57 (lv_at hl 0 rfl) ?_
            refine xci (rest := []) S hK hE hA hw yfX11_bears (c_m_bears l D a Y ts _ p1 (m_wanted u p1 p2) (show (0 ≤ ((u.1 0 0)).toInt ∧ ((u.1 0 0)).toInt ≤ 8) from by omega) (show (0 ≤ ((u.1 0 5)).toInt ∧ ((u.1 0 5)).toInt ≤ 6) from by omega) (show 0 ≤ (p1).toInt ∧ (p1).toInt < 6 from by omega) hwit) 0 rfl rfl mlX11_197 rfl rfl hl.1 ⟨rfl, rfl, Nat.le_of_ble_eq_true rfl, Nat.le_of_ble_eq_true rfl, Nat.le_of_ble_eq_true rfl, Nat.zero_le _, Nat.zero_le _⟩ dX11_plan_59 (fun H locs hw => ?_)
            refine lv_if_ne (tgt := 68) S.1 S.2.1 dX11_plan_62 (by decide) (fun c_9 => ?_) (fun c_9 => ?_)
            · replace hV := hV.trans (if_neg c_9)
              have gc_9 : ¬ ((b2i (m_bears u p1 (m_wanted u p1 p2)))).toInt = 0 := xq_ne c_9 rfl rfl
              refine lv_iload_n S.1 S.2.1 dX11_plan_68 rfl (lv_at hl 4 rfl) ?_
              refine lv_iconst (v := -1) S.1 S.2.1 dX11_plan_69 (by decide) ?_
              refine lv_icmp_ne (tgt := 78) S.1 S.2.1 dX11_plan_70 (by decide) (fun c_10 => ?_) (fun c_10 => ?_)
              · replace hV := hV.trans (if_neg c_10)
                have gc_10 : ¬ (p3).toInt = (-1) := xq_ne c_10 rfl rfl
                refine lv_iload_n S.1 S.2.1 dX11_plan_78 rfl (lv_at hl 4 rfl) ?_
                refine lv_bipush (v := -2) S.1 S.2.1 dX11_plan_79 (by decide) ?_
                refine lv_icmp_ne (tgt := 94) S.1 S.2.1 dX11_plan_81 (by decide) (fun c_11 => ?_) (fun c_11 => ?_)
                · replace hV := hV.trans (if_neg c_11)
                  have gc_11 : ¬ (p3).toInt = (-2) := xq_ne c_11 rfl rfl
                  refine lv_iload_n S.1 S.2.1 dX11_plan_94 rfl (lv_at hl 4 rfl) ?_
                  refine lv_bipush (v := -3) S.1 S.2.1 dX11_plan_95 (by decide) ?_
                  refine lv_icmp_ne (tgt := 110) S.1 S.2.1 dX11_plan_97 (by decide) (fun c_12 => ?_) (fun c_12 => ?_)
                  · replace hV := hV.trans (if_neg c_12)
                    have gc_12 : ¬ (p3).toInt = (-3) := xq_ne c_12 rfl rfl
                    refine lv_iload S.1 S.2.1 dX11_plan_110 (lv_at hl 0 rfl) ?_
                    refine lv_iload_n S.1 S.2.1 dX11_plan_112 rfl (lv_at hl 4 rfl) ?_
                    refine xcP (rest := []) S hw yfX11_kth (c_m_kth l (m_wanted u p1 p2) p3) mlX11_203 rfl rfl hl.1 ⟨rfl, rfl, Nat.le_of_ble_eq_true rfl, Nat.le_of_ble_eq_true rfl, Nat.le_of_ble_eq_true rfl, Nat.zero_le _, Nat.zero_le _⟩ dX11_plan_113 (fun H locs hw => ?_)
                    exact xri S hr hlk hw (congrArg (fun b => (b, u)) hV) dX11_plan_116
                  · replace hV := hV.trans (if_pos c_12)
                    have gc_12 : (p3).toInt = (-3) := xq_eq c_12 rfl rfl
                    refine lv_aload_n S.1 S.2.1 dX11_plan_100 rfl (lv_at hl 1 rfl) ?_
                    refine lv_iload_n S.1 S.2.1 dX11_plan_101 rfl (lv_at hl 2 rfl) ?_
                    refine lv_iload S.1 S.2.1 dX11_plan_102 (lv_at hl 0 rfl) ?_
                    refine xci (rest := []) S hK hE hA hw yfX11_cracksOf (c_m_cracksOf l D a Y ts _ p1 (m_wanted u p1 p2) (show (0 ≤ ((u.1 0 0)).toInt ∧ ((u.1 0 0)).toInt ≤ 8) from by omega) (show (0 ≤ ((u.1 0 5)).toInt ∧ ((u.1 0 5)).toInt ≤ 6) from by omega) (show 0 ≤ (p1).toInt ∧ (p1).toInt < 6 from by omega) hwit) 0 rfl rfl mlX11_191 rfl rfl hl.1 ⟨rfl, rfl, Nat.le_of_ble_eq_true rfl, Nat.le_of_ble_eq_true rfl, Nat.le_of_ble_eq_true rfl, Nat.zero_le _, Nat.zero_le _⟩ dX11_plan_104 (fun H locs hw => ?_)
                    refine lv_goto (tgt := 116) S.1 S.2.1 dX11_plan_107 (by decide) ?_
                    exact xri S hr hlk hw (congrArg (fun b => (b, u)) hV) dX11_plan_116
                · replace hV := hV.trans (if_pos c_11)
                  have gc_11 : (p3).toInt = (-2) := xq_eq c_11 rfl rfl
                  refine lv_aload_n S.1 S.2.1 dX11_plan_84 rfl (lv_at hl 1 rfl) ?_
                  refine lv_iload_n S.1 S.2.1 dX11_plan_85 rfl (lv_at hl 2 rfl) ?_
                  refine lv_iload S.1 S.2.1 dX11_plan_86 (lv_at hl 0 rfl) ?_
                  refine xci (rest := []) S hK hE hA hw yfX11_nightsOf (c_m_nightsOf l D a Y ts _ p1 (m_wanted u p1 p2) (show (0 ≤ ((u.1 0 0)).toInt ∧ ((u.1 0 0)).toInt ≤ 8) from by omega) (show (0 ≤ ((u.1 0 5)).toInt ∧ ((u.1 0 5)).toInt ≤ 6) from by omega) (show 0 ≤ (p1).toInt ∧ (p1).toInt < 6 from by omega) hwit) 0 rfl rfl mlX11_200 rfl rfl hl.1 ⟨rfl, rfl, Nat.le_of_ble_eq_true rfl, Nat.le_of_ble_eq_true rfl, Nat.le_of_ble_eq_true rfl, Nat.zero_le _, Nat.zero_le _⟩ dX11_plan_88 (fun H locs hw => ?_)
                  refine lv_goto (tgt := 116) S.1 S.2.1 dX11_plan_91 (by decide) ?_
                  exact xri S hr hlk hw (congrArg (fun b => (b, u)) hV) dX11_plan_116
              · replace hV := hV.trans (if_pos c_10)
                have gc_10 : (p3).toInt = (-1) := xq_eq c_10 rfl rfl
                refine lv_iload S.1 S.2.1 dX11_plan_73 (lv_at hl 0 rfl) ?_
                refine lv_goto (tgt := 116) S.1 S.2.1 dX11_plan_75 (by decide) ?_
                exact xri S hr hlk hw (congrArg (fun b => (b, u)) hV) dX11_plan_116
            · replace hV := hV.trans (if_pos c_9)
              have gc_9 : ((b2i (m_bears u p1 (m_wanted u p1 p2)))).toInt = 0 := xq_eq c_9 rfl rfl
              refine lv_bipush (v := -9) S.1 S.2.1 dX11_plan_65 (by decide) ?_
              exact xri S hr hlk hw (congrArg (fun b => (b, u)) hV) dX11_plan_67
        · replace hV := hV.trans (if_neg c_4)
          have gc_4 : ¬ ((b2i (m_can u p1 p2))).toInt = 0 := xq_ne c_4 rfl rfl
          refine lv_iconst (v := 0) S.1 S.2.1 dX11_plan_38 (by decide) ?_
          refine lv_goto (tgt := 48) S.1 S.2.1 dX11_plan_39 (by decide) ?_
          refine lv_istore (lv' := [(4, .int (0 : Int32)), (0, .ref (a 0)), (1, .int p1), (2, .int p2), (3, .int p3)]) S.1 S.2.1 dX11_plan_48 hl (by decide) rfl (fun ls hl => ?_)
          refine lv_iload S.1 S.2.1 dX11_plan_50 (lv_at hl 0 rfl) ?_
          refine lv_if_eq (tgt := 68) S.1 S.2.1 dX11_plan_52 (by decide) (fun c_13 => ?_) (fun c_13 => ?_)
          · refine lv_iload_n S.1 S.2.1 dX11_plan_68 rfl (lv_at hl 4 rfl) ?_
            refine lv_iconst (v := -1) S.1 S.2.1 dX11_plan_69 (by decide) ?_
            refine lv_icmp_ne (tgt := 78) S.1 S.2.1 dX11_plan_70 (by decide) (fun c_14 => ?_) (fun c_14 => ?_)
            · replace hV := hV.trans (if_neg c_14)
              have gc_14 : ¬ (p3).toInt = (-1) := xq_ne c_14 rfl rfl
              refine lv_iload_n S.1 S.2.1 dX11_plan_78 rfl (lv_at hl 4 rfl) ?_
              refine lv_bipush (v := -2) S.1 S.2.1 dX11_plan_79 (by decide) ?_
              refine lv_icmp_ne (tgt := 94) S.1 S.2.1 dX11_plan_81 (by decide) (fun c_15 => ?_) (fun c_15 => ?_)
              · replace hV := hV.trans (if_neg c_15)
                have gc_15 : ¬ (p3).toInt = (-2) := xq_ne c_15 rfl rfl
                refine lv_iload_n S.1 S.2.1 dX11_plan_94 rfl (lv_at hl 4 rfl) ?_
                refine lv_bipush (v := -3) S.1 S.2.1 dX11_plan_95 (by decide) ?_
                refine lv_icmp_ne (tgt := 110) S.1 S.2.1 dX11_plan_97 (by decide) (fun c_16 => ?_) (fun c_16 => ?_)
                · replace hV := hV.trans (if_neg c_16)
                  have gc_16 : ¬ (p3).toInt = (-3) := xq_ne c_16 rfl rfl
                  refine lv_iload S.1 S.2.1 dX11_plan_110 (lv_at hl 0 rfl) ?_
                  refine lv_iload_n S.1 S.2.1 dX11_plan_112 rfl (lv_at hl 4 rfl) ?_
                  refine xcP (rest := []) S hw yfX11_kth (c_m_kth l (0 : Int32) p3) mlX11_203 rfl rfl hl.1 ⟨rfl, rfl, Nat.le_of_ble_eq_true rfl, Nat.le_of_ble_eq_true rfl, Nat.le_of_ble_eq_true rfl, Nat.zero_le _, Nat.zero_le _⟩ dX11_plan_113 (fun H locs hw => ?_)
                  exact xri S hr hlk hw (congrArg (fun b => (b, u)) hV) dX11_plan_116
                · replace hV := hV.trans (if_pos c_16)
                  have gc_16 : (p3).toInt = (-3) := xq_eq c_16 rfl rfl
                  refine lv_aload_n S.1 S.2.1 dX11_plan_100 rfl (lv_at hl 1 rfl) ?_
                  refine lv_iload_n S.1 S.2.1 dX11_plan_101 rfl (lv_at hl 2 rfl) ?_
                  refine lv_iload S.1 S.2.1 dX11_plan_102 (lv_at hl 0 rfl) ?_
                  refine xci (rest := []) S hK hE hA hw yfX11_cracksOf (c_m_cracksOf l D a Y ts _ p1 (0 : Int32) (show (0 ≤ ((u.1 0 0)).toInt ∧ ((u.1 0 0)).toInt ≤ 8) from by omega) (show (0 ≤ ((u.1 0 5)).toInt ∧ ((u.1 0 5)).toInt ≤ 6) from by omega) (show 0 ≤ (p1).toInt ∧ (p1).toInt < 6 from by omega) hwit) 0 rfl rfl mlX11_191 rfl rfl hl.1 ⟨rfl, rfl, Nat.le_of_ble_eq_true rfl, Nat.le_of_ble_eq_true rfl, Nat.le_of_ble_eq_true rfl, Nat.zero_le _, Nat.zero_le _⟩ dX11_plan_104 (fun H locs hw => ?_)
                  refine lv_goto (tgt := 116) S.1 S.2.1 dX11_plan_107 (by decide) ?_
                  exact xri S hr hlk hw (congrArg (fun b => (b, u)) hV) dX11_plan_116
              · replace hV := hV.trans (if_pos c_15)
                have gc_15 : (p3).toInt = (-2) := xq_eq c_15 rfl rfl
                refine lv_aload_n S.1 S.2.1 dX11_plan_84 rfl (lv_at hl 1 rfl) ?_
                refine lv_iload_n S.1 S.2.1 dX11_plan_85 rfl (lv_at hl 2 rfl) ?_
                refine lv_iload S.1 S.2.1 dX11_plan_86 (lv_at hl 0 rfl) ?_
                refine xci (rest := []) S hK hE hA hw yfX11_nightsOf (c_m_nightsOf l D a Y ts _ p1 (0 : Int32) (show (0 ≤ ((u.1 0 0)).toInt ∧ ((u.1 0 0)).toInt ≤ 8) from by omega) (show (0 ≤ ((u.1 0 5)).toInt ∧ ((u.1 0 5)).toInt ≤ 6) from by omega) (show 0 ≤ (p1).toInt ∧ (p1).toInt < 6 from by omega) hwit) 0 rfl rfl mlX11_200 rfl rfl hl.1 ⟨rfl, rfl, Nat.le_of_ble_eq_true rfl, Nat.le_of_ble_eq_true rfl, Nat.le_of_ble_eq_true rfl, Nat.zero_le _, Nat.zero_le _⟩ dX11_plan_88 (fun H locs hw => ?_)
                refine lv_goto (tgt := 116) S.1 S.2.1 dX11_plan_91 (by decide) ?_
                exact xri S hr hlk hw (congrArg (fun b => (b, u)) hV) dX11_plan_116
            · replace hV := hV.trans (if_pos c_14)
              have gc_14 : (p3).toInt = (-1) := xq_eq c_14 rfl rfl
              refine lv_iload S.1 S.2.1 dX11_plan_73 (lv_at hl 0 rfl) ?_
              refine lv_goto (tgt := 116) S.1 S.2.1 dX11_plan_75 (by decide) ?_
              exact xri S hr hlk hw (congrArg (fun b => (b, u)) hV) dX11_plan_116
          · exact absurd c_13 (by decide)
      · replace hV := hV.trans (if_pos c_3)
        have gc_3 : ((b2i (m_in p3 (-3 : Int32) (7 : Int32)))).toInt = 0 := xq_eq c_3 rfl rfl
        refine lv_iconst (v := -1) S.1 S.2.1 dX11_plan_27 (by decide) ?_
        exact xri S hr hlk hw (congrArg (fun b => (b, u)) hV) dX11_plan_28
def m_best_L35 (w : xU) (x1 : Int32) (x2 : Int32) (x3 : Int32) : Nat → Int32 → Int32 → Int32
  | 0, _, _ => 0
  | n + 1, x4, x5 =>
    (if ((1 : Int32) <<< ((w.1 0 0) &&& 31)) ≤ x5 then
    (if x3 = (0 : Int32) then
    x4
    else
    (m_nightsOf w x1 x4))
    else
    (if (b2i (m_isWhole w x1 x5)) = (0 : Int32) then
    m_best_L35 w x1 x2 x3 n x4 (x5 + (1 : Int32))
    else
    (if x2 < (m_nightsOf w x1 x5) then
    m_best_L35 w x1 x2 x3 n x4 (x5 + (1 : Int32))
    else
    (if (b2i (m_bears w x1 x5)) = (0 : Int32) then
    m_best_L35 w x1 x2 x3 n x4 (x5 + (1 : Int32))
    else
    (if (0 : Int32) < ((m_bits x5) - (m_bits x4)) then
    m_best_L35 w x1 x2 x3 n x5 (x5 + (1 : Int32))
    else
    (if ((m_bits x5) - (m_bits x4)) = (0 : Int32) then
    (if (m_nightsOf w x1 x4) ≤ (m_nightsOf w x1 x5) then
    m_best_L35 w x1 x2 x3 n x4 (x5 + (1 : Int32))
    else
    m_best_L35 w x1 x2 x3 n x5 (x5 + (1 : Int32)))
    else
    m_best_L35 w x1 x2 x3 n x4 (x5 + (1 : Int32))))))))
def m_best (u : xU) (p1 : Int32) (p2 : Int32) (p3 : Int32) : Int32 :=
    (if (b2i (m_isCast u p1)) = (0 : Int32) then
    (-1 : Int32)
    else
    (if (b2i (m_in p2 (0 : Int32) (99 : Int32))) = (0 : Int32) then
    (-1 : Int32)
    else
    (if (b2i (m_in p3 (0 : Int32) (1 : Int32))) = (0 : Int32) then
    (-1 : Int32)
    else
    m_best_L35 u p1 p2 p3 257 (0 : Int32) (1 : Int32))))
set_option maxHeartbeats 4000000 in
set_option maxRecDepth 100000 in
theorem c_m_best (l : Launch) (D : va_G) (a : Nat → Nat) (Y : Nat → ClassId) (ts : Nat → Nat) (u : xU) (p1 : Int32) (p2 : Int32) (p3 : Int32) (hT : (0 ≤ ((u.1 0 0)).toInt ∧ ((u.1 0 0)).toInt ≤ 8)) (hC : (0 ≤ ((u.1 0 5)).toInt ∧ ((u.1 0 5)).toInt ≤ 6)) (hr0 : ∀ c : Int32, 0 ≤ c.toInt → c.toInt < (u.1 0 5).toInt → ¬ (u.1 6 c.toNatClampNeg) = 0) : xMi l yX11_best cX11_best 8 (some .int) (xRm 3 72) D (xty Y) (wM a Y) ts [.ref (a 0), .int p1, .int p2, .int p3] u ((m_best u p1 p2 p3), u) := by
  suffices h : ∀ V, V = m_best u p1 p2 p3 → xMi l yX11_best cX11_best 8 (some .int) (xRm 3 72) D (xty Y) (wM a Y) ts [.ref (a 0), .int p1, .int p2, .int p3] u (V, u) from h _ rfl
  intro V hV
  refine xofi RX11 rfl (by decide) (Nat.le_of_ble_eq_true rfl) ?_
  intro p e s m args below meth c ls H locs A S hr hlk hl hK hE hA hw
  have hl : lv_has ls 8 [(0, .ref (a 0)), (1, .int p1), (2, .int p2), (3, .int p3)] := hl
  obtain ⟨vsh, esh, bsh⟩ := xsh0' (t := u.1 0 0) rfl (by omega) (by omega)
  refine lv_aload_n S.1 S.2.1 dX11_best_0 rfl (lv_at hl 0 rfl) ?_
  refine lv_iload_n S.1 S.2.1 dX11_best_1 rfl (lv_at hl 1 rfl) ?_
  refine xci (rest := []) S hK hE hA hw yfX11_isCast (c_m_isCast l D a Y ts _ p1 (show (0 ≤ ((u.1 0 0)).toInt ∧ ((u.1 0 0)).toInt ≤ 8) from by omega) (show (0 ≤ ((u.1 0 5)).toInt ∧ ((u.1 0 5)).toInt ≤ 6) from by omega)) 0 rfl rfl mlX11_162 rfl rfl hl.1 ⟨rfl, rfl, Nat.le_of_ble_eq_true rfl, Nat.le_of_ble_eq_true rfl, Nat.le_of_ble_eq_true rfl, Nat.zero_le _, Nat.zero_le _⟩ dX11_best_2 (fun H locs hw => ?_)
  refine lv_if_eq (tgt := 27) S.1 S.2.1 dX11_best_5 (by decide) (fun c_1 => ?_) (fun c_1 => ?_)
  · replace hV := hV.trans (if_pos c_1)
    have gc_1 : ((b2i (m_isCast u p1))).toInt = 0 := xq_eq c_1 rfl rfl
    refine lv_iconst (v := -1) S.1 S.2.1 dX11_best_27 (by decide) ?_
    exact xri S hr hlk hw (congrArg (fun b => (b, u)) hV) dX11_best_28
  · replace hV := hV.trans (if_neg c_1)
    have gc_1 : ¬ ((b2i (m_isCast u p1))).toInt = 0 := xq_ne c_1 rfl rfl
    have fc_1 := hk_mCast hC c_1
    have hwit := hr0 p1 (by omega) (by omega)
    refine lv_iload_n S.1 S.2.1 dX11_best_8 rfl (lv_at hl 2 rfl) ?_
    refine lv_iconst (v := 0) S.1 S.2.1 dX11_best_9 (by decide) ?_
    refine lv_bipush (v := 99) S.1 S.2.1 dX11_best_10 (by decide) ?_
    refine xcP (rest := []) S hw yfX11_in (c_m_in l p2 (0 : Int32) (99 : Int32)) mlX11_72 rfl rfl hl.1 ⟨rfl, rfl, Nat.le_of_ble_eq_true rfl, Nat.le_of_ble_eq_true rfl, Nat.le_of_ble_eq_true rfl, Nat.zero_le _, Nat.zero_le _⟩ dX11_best_12 (fun H locs hw => ?_)
    refine lv_if_eq (tgt := 27) S.1 S.2.1 dX11_best_15 (by decide) (fun c_2 => ?_) (fun c_2 => ?_)
    · replace hV := hV.trans (if_pos c_2)
      have gc_2 : ((b2i (m_in p2 (0 : Int32) (99 : Int32)))).toInt = 0 := xq_eq c_2 rfl rfl
      refine lv_iconst (v := -1) S.1 S.2.1 dX11_best_27 (by decide) ?_
      exact xri S hr hlk hw (congrArg (fun b => (b, u)) hV) dX11_best_28
    · replace hV := hV.trans (if_neg c_2)
      have gc_2 : ¬ ((b2i (m_in p2 (0 : Int32) (99 : Int32)))).toInt = 0 := xq_ne c_2 rfl rfl
      have fc_2 : 0 ≤ (p2).toInt ∧ (p2).toInt ≤ 99 := hk_in' c_2 rfl rfl rfl
      refine lv_iload_n S.1 S.2.1 dX11_best_18 rfl (lv_at hl 3 rfl) ?_
      refine lv_iconst (v := 0) S.1 S.2.1 dX11_best_19 (by decide) ?_
      refine lv_iconst (v := 1) S.1 S.2.1 dX11_best_20 (by decide) ?_
      refine xcP (rest := []) S hw yfX11_in (c_m_in l p3 (0 : Int32) (1 : Int32)) mlX11_72 rfl rfl hl.1 ⟨rfl, rfl, Nat.le_of_ble_eq_true rfl, Nat.le_of_ble_eq_true rfl, Nat.le_of_ble_eq_true rfl, Nat.zero_le _, Nat.zero_le _⟩ dX11_best_21 (fun H locs hw => ?_)
      refine lv_if_ne (tgt := 29) S.1 S.2.1 dX11_best_24 (by decide) (fun c_3 => ?_) (fun c_3 => ?_)
      · replace hV := hV.trans (if_neg c_3)
        have gc_3 : ¬ ((b2i (m_in p3 (0 : Int32) (1 : Int32)))).toInt = 0 := xq_ne c_3 rfl rfl
        have fc_3 : 0 ≤ (p3).toInt ∧ (p3).toInt ≤ 1 := hk_in' c_3 rfl rfl rfl
        refine lv_iconst (v := 0) S.1 S.2.1 dX11_best_29 (by decide) ?_
        refine lv_istore (lv' := [(4, .int (0 : Int32)), (0, .ref (a 0)), (1, .int p1), (2, .int p2), (3, .int p3)]) S.1 S.2.1 dX11_best_30 hl (by decide) rfl (fun ls hl => ?_)
        refine lv_iconst (v := 1) S.1 S.2.1 dX11_best_32 (by decide) ?_
        refine lv_istore (lv' := [(5, .int (1 : Int32)), (4, .int (0 : Int32)), (0, .ref (a 0)), (1, .int p1), (2, .int p2), (3, .int p3)]) S.1 S.2.1 dX11_best_33 hl (by decide) rfl (fun ls hl => ?_)
        have lp_4 : ∀ (n_4 : Nat) (x4_4 : Int32) (x5_4 : Int32) (H : Heap) (locs : List Loc) (ls : Array Slot), (1 ≤ (x5_4).toInt) → (vsh - (x5_4).toInt < (n_4 : Int) ∧ 1 ≤ n_4) → lv_has ls 8 [(0, .ref (a 0)), (1, .int p1), (2, .int p2), (3, .int p3), (4, .int x4_4), (5, .int x5_4)] → xw D (wM a Y) A s.heap H locs u → V = m_best_L35 u p1 p2 p3 n_4 x4_4 x5_4 → W p l e (xRm 3 72) s m args below meth c H locs 0 0 (MQ below (va_Qi (fun r v => (r, v) = (V, u)) (xPost D (wM a Y) A) A) args s 0 0 A) (F0 m 35 ls []) := by
          intro n_4
          induction n_4 with
          | zero => intro x4_4 x5_4 H locs ls i0_4 hn; exact absurd hn.2 (by decide)
          | succ n_4 ih_4 =>
            intro x4_4 x5_4 H locs ls i0_4 hn_4 hl hw hV
            refine lv_iload S.1 S.2.1 dX11_best_35 (lv_at hl 5 rfl) ?_
            refine lv_iconst (v := 1) S.1 S.2.1 dX11_best_37 (by decide) ?_
            refine lv_aload_n S.1 S.2.1 dX11_best_38 rfl (lv_at hl 0 rfl) ?_
            refine xget (v := .int (u.1 0 0)) S hK hw 0 rfl rfl inX11 0 (by decide) mfX11_68 rfl dX11_best_39 ?_
            refine lv_ishl S.1 S.2.1 dX11_best_42 ?_
            refine lv_icmp_ge (tgt := 144) S.1 S.2.1 dX11_best_43 (by decide) (fun c_5 => ?_) (fun c_5 => ?_)
            · replace hV := hV.trans (if_pos c_5)
              have gc_5 : vsh ≤ (x5_4).toInt := xq_le c_5 (esh ()) rfl
              refine lv_iload_n S.1 S.2.1 dX11_best_144 rfl (lv_at hl 3 rfl) ?_
              refine lv_if_ne (tgt := 153) S.1 S.2.1 dX11_best_145 (by decide) (fun c_6 => ?_) (fun c_6 => ?_)
              · replace hV := hV.trans (if_neg c_6)
                have gc_6 : ¬ (p3).toInt = 0 := xq_ne c_6 rfl rfl
                refine lv_aload_n S.1 S.2.1 dX11_best_153 rfl (lv_at hl 0 rfl) ?_
                refine lv_iload_n S.1 S.2.1 dX11_best_154 rfl (lv_at hl 1 rfl) ?_
                refine lv_iload S.1 S.2.1 dX11_best_155 (lv_at hl 4 rfl) ?_
                refine xci (rest := []) S hK hE hA hw yfX11_nightsOf (c_m_nightsOf l D a Y ts _ p1 x4_4 (show (0 ≤ ((u.1 0 0)).toInt ∧ ((u.1 0 0)).toInt ≤ 8) from by omega) (show (0 ≤ ((u.1 0 5)).toInt ∧ ((u.1 0 5)).toInt ≤ 6) from by omega) (show 0 ≤ (p1).toInt ∧ (p1).toInt < 6 from by omega) hwit) 0 rfl rfl mlX11_200 rfl rfl hl.1 ⟨rfl, rfl, Nat.le_of_ble_eq_true rfl, Nat.le_of_ble_eq_true rfl, Nat.le_of_ble_eq_true rfl, Nat.zero_le _, Nat.zero_le _⟩ dX11_best_157 (fun H locs hw => ?_)
                exact xri S hr hlk hw (congrArg (fun b => (b, u)) hV) dX11_best_160
              · replace hV := hV.trans (if_pos c_6)
                have gc_6 : (p3).toInt = 0 := xq_eq c_6 rfl rfl
                refine lv_iload S.1 S.2.1 dX11_best_148 (lv_at hl 4 rfl) ?_
                refine lv_goto (tgt := 160) S.1 S.2.1 dX11_best_150 (by decide) ?_
                exact xri S hr hlk hw (congrArg (fun b => (b, u)) hV) dX11_best_160
            · replace hV := hV.trans (if_neg c_5)
              have gc_5 : (x5_4).toInt < vsh := xq_nle c_5 (esh ()) rfl
              refine lv_aload_n S.1 S.2.1 dX11_best_46 rfl (lv_at hl 0 rfl) ?_
              refine lv_iload_n S.1 S.2.1 dX11_best_47 rfl (lv_at hl 1 rfl) ?_
              refine lv_iload S.1 S.2.1 dX11_best_48 (lv_at hl 5 rfl) ?_
              refine xci (rest := []) S hK hE hA hw yfX11_isWhole (c_m_isWhole l D a Y ts _ p1 x5_4 (show (0 ≤ ((u.1 0 0)).toInt ∧ ((u.1 0 0)).toInt ≤ 8) from by omega) (show (0 ≤ ((u.1 0 5)).toInt ∧ ((u.1 0 5)).toInt ≤ 6) from by omega) (show 0 ≤ (p1).toInt ∧ (p1).toInt < 6 from by omega)) 0 rfl rfl mlX11_206 rfl rfl hl.1 ⟨rfl, rfl, Nat.le_of_ble_eq_true rfl, Nat.le_of_ble_eq_true rfl, Nat.le_of_ble_eq_true rfl, Nat.zero_le _, Nat.zero_le _⟩ dX11_best_50 (fun H locs hw => ?_)
              refine lv_if_eq (tgt := 138) S.1 S.2.1 dX11_best_53 (by decide) (fun c_7 => ?_) (fun c_7 => ?_)
              · replace hV := hV.trans (if_pos c_7)
                have gc_7 : ((b2i (m_isWhole u p1 x5_4))).toInt = 0 := xq_eq c_7 rfl rfl
                refine lv_iinc (v := (x5_4 + (1 : Int32))) (lv' := [(5, .int (x5_4 + (1 : Int32))), (0, .ref (a 0)), (1, .int p1), (2, .int p2), (3, .int p3), (4, .int x4_4)]) S.1 S.2.1 dX11_best_138 hl (k := 5) rfl rfl (by decide) rfl (fun ls hl => ?_)
                refine lv_goto (tgt := 35) S.1 S.2.1 dX11_best_141 (by decide) ?_
                have e_8 : ∀ _ : Unit, ((x5_4 + (1 : Int32))).toInt = (x5_4).toInt + 1 := fun _ => xadd rfl rfl (by omega) (by omega)
                exact ih_4 x4_4 (x5_4 + (1 : Int32)) _ _ _ (show 1 ≤ ((x5_4 + (1 : Int32))).toInt from by rw [(e_8 ())]; omega) (show vsh - ((x5_4 + (1 : Int32))).toInt < (n_4 : Int) ∧ 1 ≤ n_4 from by rw [(e_8 ())]; omega) (lv_sub hl [1, 2, 3, 4, 5, 0] rfl) hw hV
              · replace hV := hV.trans (if_neg c_7)
                have gc_7 : ¬ ((b2i (m_isWhole u p1 x5_4))).toInt = 0 := xq_ne c_7 rfl rfl
                refine lv_aload_n S.1 S.2.1 dX11_best_56 rfl (lv_at hl 0 rfl) ?_
                refine lv_iload_n S.1 S.2.1 dX11_best_57 rfl (lv_at hl 1 rfl) ?_
                refine lv_iload S.1 S.2.1 dX11_best_58 (lv_at hl 5 rfl) ?_
                refine xci (rest := []) S hK hE hA hw yfX11_nightsOf (c_m_nightsOf l D a Y ts _ p1 x5_4 (show (0 ≤ ((u.1 0 0)).toInt ∧ ((u.1 0 0)).toInt ≤ 8) from by omega) (show (0 ≤ ((u.1 0 5)).toInt ∧ ((u.1 0 5)).toInt ≤ 6) from by omega) (show 0 ≤ (p1).toInt ∧ (p1).toInt < 6 from by omega) hwit) 0 rfl rfl mlX11_200 rfl rfl hl.1 ⟨rfl, rfl, Nat.le_of_ble_eq_true rfl, Nat.le_of_ble_eq_true rfl, Nat.le_of_ble_eq_true rfl, Nat.zero_le _, Nat.zero_le _⟩ dX11_best_60 (fun H locs hw => ?_)
                refine lv_iload_n S.1 S.2.1 dX11_best_63 rfl (lv_at hl 2 rfl) ?_
                refine lv_icmp_gt (tgt := 138) S.1 S.2.1 dX11_best_64 (by decide) (fun c_9 => ?_) (fun c_9 => ?_)
                · replace hV := hV.trans (if_pos c_9)
                  have gc_9 : (p2).toInt < ((m_nightsOf u p1 x5_4)).toInt := xq_lt c_9 rfl rfl
                  refine lv_iinc (v := (x5_4 + (1 : Int32))) (lv' := [(5, .int (x5_4 + (1 : Int32))), (0, .ref (a 0)), (1, .int p1), (2, .int p2), (3, .int p3), (4, .int x4_4)]) S.1 S.2.1 dX11_best_138 hl (k := 5) rfl rfl (by decide) rfl (fun ls hl => ?_)
                  refine lv_goto (tgt := 35) S.1 S.2.1 dX11_best_141 (by decide) ?_
                  have e_10 : ∀ _ : Unit, ((x5_4 + (1 : Int32))).toInt = (x5_4).toInt + 1 := fun _ => xadd rfl rfl (by omega) (by omega)
                  exact ih_4 x4_4 (x5_4 + (1 : Int32)) _ _ _ (show 1 ≤ ((x5_4 + (1 : Int32))).toInt from by rw [(e_10 ())]; omega) (show vsh - ((x5_4 + (1 : Int32))).toInt < (n_4 : Int) ∧ 1 ≤ n_4 from by rw [(e_10 ())]; omega) (lv_sub hl [1, 2, 3, 4, 5, 0] rfl) hw hV
                · replace hV := hV.trans (if_neg c_9)
                  have gc_9 : ((m_nightsOf u p1 x5_4)).toInt ≤ (p2).toInt := xq_nlt c_9 rfl rfl
                  refine lv_aload_n S.1 S.2.1 dX11_best_67 rfl (lv_at hl 0 rfl) ?_
                  refine lv_iload_n S.1 S.2.1 dX11_best_68 rfl (lv_at hl 1 rfl) ?_
                  refine lv_iload S.1 S.2.1 dX11_best_69 (lv_at hl 5 rfl) ?_
                  refine xci (rest := []) S hK hE hA hw yfX11_bears (c_m_bears l D a Y ts _ p1 x5_4 (show (0 ≤ ((u.1 0 0)).toInt ∧ ((u.1 0 0)).toInt ≤ 8) from by omega) (show (0 ≤ ((u.1 0 5)).toInt ∧ ((u.1 0 5)).toInt ≤ 6) from by omega) (show 0 ≤ (p1).toInt ∧ (p1).toInt < 6 from by omega) hwit) 0 rfl rfl mlX11_197 rfl rfl hl.1 ⟨rfl, rfl, Nat.le_of_ble_eq_true rfl, Nat.le_of_ble_eq_true rfl, Nat.le_of_ble_eq_true rfl, Nat.zero_le _, Nat.zero_le _⟩ dX11_best_71 (fun H locs hw => ?_)
                  refine lv_if_eq (tgt := 138) S.1 S.2.1 dX11_best_74 (by decide) (fun c_11 => ?_) (fun c_11 => ?_)
                  · replace hV := hV.trans (if_pos c_11)
                    have gc_11 : ((b2i (m_bears u p1 x5_4))).toInt = 0 := xq_eq c_11 rfl rfl
                    refine lv_iinc (v := (x5_4 + (1 : Int32))) (lv' := [(5, .int (x5_4 + (1 : Int32))), (0, .ref (a 0)), (1, .int p1), (2, .int p2), (3, .int p3), (4, .int x4_4)]) S.1 S.2.1 dX11_best_138 hl (k := 5) rfl rfl (by decide) rfl (fun ls hl => ?_)
                    refine lv_goto (tgt := 35) S.1 S.2.1 dX11_best_141 (by decide) ?_
                    have e_12 : ∀ _ : Unit, ((x5_4 + (1 : Int32))).toInt = (x5_4).toInt + 1 := fun _ => xadd rfl rfl (by omega) (by omega)
                    exact ih_4 x4_4 (x5_4 + (1 : Int32)) _ _ _ (show 1 ≤ ((x5_4 + (1 : Int32))).toInt from by rw [(e_12 ())]; omega) (show vsh - ((x5_4 + (1 : Int32))).toInt < (n_4 : Int) ∧ 1 ≤ n_4 from by rw [(e_12 ())]; omega) (lv_sub hl [1, 2, 3, 4, 5, 0] rfl) hw hV
                  · replace hV := hV.trans (if_neg c_11)
                    have gc_11 : ¬ ((b2i (m_bears u p1 x5_4))).toInt = 0 := xq_ne c_11 rfl rfl
                    refine lv_iload S.1 S.2.1 dX11_best_77 (lv_at hl 5 rfl) ?_
                    refine xcP (rest := []) S hw yfX11_bits (c_m_bits l x5_4) mlX11_175 rfl rfl hl.1 ⟨rfl, rfl, Nat.le_of_ble_eq_true rfl, Nat.le_of_ble_eq_true rfl, Nat.le_of_ble_eq_true rfl, Nat.zero_le _, Nat.zero_le _⟩ dX11_best_79 (fun H locs hw => ?_)
                    refine lv_iload S.1 S.2.1 dX11_best_82 (lv_at hl 4 rfl) ?_
                    refine xcP (rest := [.int (m_bits x5_4)]) S hw yfX11_bits (c_m_bits l x4_4) mlX11_175 rfl rfl hl.1 ⟨rfl, rfl, Nat.le_of_ble_eq_true rfl, Nat.le_of_ble_eq_true rfl, Nat.le_of_ble_eq_true rfl, Nat.zero_le _, Nat.zero_le _⟩ dX11_best_84 (fun H locs hw => ?_)
                    refine lv_isub S.1 S.2.1 dX11_best_87 ?_
                    refine lv_istore (lv' := [(6, .int ((m_bits x5_4) - (m_bits x4_4))), (0, .ref (a 0)), (1, .int p1), (2, .int p2), (3, .int p3), (4, .int x4_4), (5, .int x5_4)]) S.1 S.2.1 dX11_best_88 hl (by decide) rfl (fun ls hl => ?_)
                    refine lv_iload S.1 S.2.1 dX11_best_90 (lv_at hl 0 rfl) ?_
                    refine lv_if_gt (tgt := 117) S.1 S.2.1 dX11_best_92 (by decide) (fun c_13 => ?_) (fun c_13 => ?_)
                    · replace hV := hV.trans (if_pos c_13)
                      refine lv_iconst (v := 1) S.1 S.2.1 dX11_best_117 (by decide) ?_
                      refine lv_goto (tgt := 122) S.1 S.2.1 dX11_best_118 (by decide) ?_
                      refine lv_istore (lv' := [(7, .int (1 : Int32)), (6, .int ((m_bits x5_4) - (m_bits x4_4))), (0, .ref (a 0)), (1, .int p1), (2, .int p2), (3, .int p3), (4, .int x4_4), (5, .int x5_4)]) S.1 S.2.1 dX11_best_122 hl (by decide) rfl (fun ls hl => ?_)
                      refine lv_iload S.1 S.2.1 dX11_best_124 (lv_at hl 0 rfl) ?_
                      refine lv_if_eq (tgt := 134) S.1 S.2.1 dX11_best_126 (by decide) (fun c_14 => ?_) (fun c_14 => ?_)
                      · exact absurd c_14 (by decide)
                      · refine lv_iload S.1 S.2.1 dX11_best_129 (lv_at hl 7 rfl) ?_
                        refine lv_goto (tgt := 136) S.1 S.2.1 dX11_best_131 (by decide) ?_
                        refine lv_istore (lv' := [(4, .int x5_4), (7, .int (1 : Int32)), (6, .int ((m_bits x5_4) - (m_bits x4_4))), (0, .ref (a 0)), (1, .int p1), (2, .int p2), (3, .int p3), (5, .int x5_4)]) S.1 S.2.1 dX11_best_136 hl (by decide) rfl (fun ls hl => ?_)
                        refine lv_iinc (v := (x5_4 + (1 : Int32))) (lv' := [(5, .int (x5_4 + (1 : Int32))), (4, .int x5_4), (7, .int (1 : Int32)), (6, .int ((m_bits x5_4) - (m_bits x4_4))), (0, .ref (a 0)), (1, .int p1), (2, .int p2), (3, .int p3)]) S.1 S.2.1 dX11_best_138 hl (k := 7) rfl rfl (by decide) rfl (fun ls hl => ?_)
                        refine lv_goto (tgt := 35) S.1 S.2.1 dX11_best_141 (by decide) ?_
                        have e_15 : ∀ _ : Unit, ((x5_4 + (1 : Int32))).toInt = (x5_4).toInt + 1 := fun _ => xadd rfl rfl (by omega) (by omega)
                        exact ih_4 x5_4 (x5_4 + (1 : Int32)) _ _ _ (show 1 ≤ ((x5_4 + (1 : Int32))).toInt from by rw [(e_15 ())]; omega) (show vsh - ((x5_4 + (1 : Int32))).toInt < (n_4 : Int) ∧ 1 ≤ n_4 from by rw [(e_15 ())]; omega) (lv_sub hl [4, 5, 6, 7, 1, 0] rfl) hw hV
                    · replace hV := hV.trans (if_neg c_13)
                      refine lv_iload S.1 S.2.1 dX11_best_95 (lv_at hl 0 rfl) ?_
                      refine lv_if_ne (tgt := 121) S.1 S.2.1 dX11_best_97 (by decide) (fun c_16 => ?_) (fun c_16 => ?_)
                      · replace hV := hV.trans (if_neg c_16)
                        refine lv_iconst (v := 0) S.1 S.2.1 dX11_best_121 (by decide) ?_
                        refine lv_istore (lv' := [(7, .int (0 : Int32)), (6, .int ((m_bits x5_4) - (m_bits x4_4))), (0, .ref (a 0)), (1, .int p1), (2, .int p2), (3, .int p3), (4, .int x4_4), (5, .int x5_4)]) S.1 S.2.1 dX11_best_122 hl (by decide) rfl (fun ls hl => ?_)
                        refine lv_iload S.1 S.2.1 dX11_best_124 (lv_at hl 0 rfl) ?_
                        refine lv_if_eq (tgt := 134) S.1 S.2.1 dX11_best_126 (by decide) (fun c_17 => ?_) (fun c_17 => ?_)
                        · refine lv_iload S.1 S.2.1 dX11_best_134 (lv_at hl 6 rfl) ?_
                          refine lv_istore (lv' := [(4, .int x4_4), (7, .int (0 : Int32)), (6, .int ((m_bits x5_4) - (m_bits x4_4))), (0, .ref (a 0)), (1, .int p1), (2, .int p2), (3, .int p3), (5, .int x5_4)]) S.1 S.2.1 dX11_best_136 hl (by decide) rfl (fun ls hl => ?_)
                          refine lv_iinc (v := (x5_4 + (1 : Int32))) (lv' := [(5, .int (x5_4 + (1 : Int32))), (4, .int x4_4), (7, .int (0 : Int32)), (6, .int ((m_bits x5_4) - (m_bits x4_4))), (0, .ref (a 0)), (1, .int p1), (2, .int p2), (3, .int p3)]) S.1 S.2.1 dX11_best_138 hl (k := 7) rfl rfl (by decide) rfl (fun ls hl => ?_)
                          refine lv_goto (tgt := 35) S.1 S.2.1 dX11_best_141 (by decide) ?_
                          have e_18 : ∀ _ : Unit, ((x5_4 + (1 : Int32))).toInt = (x5_4).toInt + 1 := fun _ => xadd rfl rfl (by omega) (by omega)
                          exact ih_4 x4_4 (x5_4 + (1 : Int32)) _ _ _ (show 1 ≤ ((x5_4 + (1 : Int32))).toInt from by rw [(e_18 ())]; omega) (show vsh - ((x5_4 + (1 : Int32))).toInt < (n_4 : Int) ∧ 1 ≤ n_4 from by rw [(e_18 ())]; omega) (lv_sub hl [4, 5, 6, 7, 1, 0] rfl) hw hV
                        · exact absurd c_17 (by decide)
                      · replace hV := hV.trans (if_pos c_16)
                        refine lv_aload_n S.1 S.2.1 dX11_best_100 rfl (lv_at hl 1 rfl) ?_
                        refine lv_iload_n S.1 S.2.1 dX11_best_101 rfl (lv_at hl 2 rfl) ?_
                        refine lv_iload S.1 S.2.1 dX11_best_102 (lv_at hl 6 rfl) ?_
                        refine xci (rest := []) S hK hE hA hw yfX11_nightsOf (c_m_nightsOf l D a Y ts _ p1 x5_4 (show (0 ≤ ((u.1 0 0)).toInt ∧ ((u.1 0 0)).toInt ≤ 8) from by omega) (show (0 ≤ ((u.1 0 5)).toInt ∧ ((u.1 0 5)).toInt ≤ 6) from by omega) (show 0 ≤ (p1).toInt ∧ (p1).toInt < 6 from by omega) hwit) 0 rfl rfl mlX11_200 rfl rfl hl.1 ⟨rfl, rfl, Nat.le_of_ble_eq_true rfl, Nat.le_of_ble_eq_true rfl, Nat.le_of_ble_eq_true rfl, Nat.zero_le _, Nat.zero_le _⟩ dX11_best_104 (fun H locs hw => ?_)
                        refine lv_aload_n S.1 S.2.1 dX11_best_107 rfl (lv_at hl 1 rfl) ?_
                        refine lv_iload_n S.1 S.2.1 dX11_best_108 rfl (lv_at hl 2 rfl) ?_
                        refine lv_iload S.1 S.2.1 dX11_best_109 (lv_at hl 5 rfl) ?_
                        refine xci (rest := [.int (m_nightsOf u p1 x5_4)]) S hK hE hA hw yfX11_nightsOf (c_m_nightsOf l D a Y ts _ p1 x4_4 (show (0 ≤ ((u.1 0 0)).toInt ∧ ((u.1 0 0)).toInt ≤ 8) from by omega) (show (0 ≤ ((u.1 0 5)).toInt ∧ ((u.1 0 5)).toInt ≤ 6) from by omega) (show 0 ≤ (p1).toInt ∧ (p1).toInt < 6 from by omega) hwit) 0 rfl rfl mlX11_200 rfl rfl hl.1 ⟨rfl, rfl, Nat.le_of_ble_eq_true rfl, Nat.le_of_ble_eq_true rfl, Nat.le_of_ble_eq_true rfl, Nat.zero_le _, Nat.zero_le _⟩ dX11_best_111 (fun H locs hw => ?_)
                        refine lv_icmp_ge (tgt := 121) S.1 S.2.1 dX11_best_114 (by decide) (fun c_19 => ?_) (fun c_19 => ?_)
                        · replace hV := hV.trans (if_pos c_19)
                          have gc_19 : ((m_nightsOf u p1 x4_4)).toInt ≤ ((m_nightsOf u p1 x5_4)).toInt := xq_le c_19 rfl rfl
                          refine lv_iconst (v := 0) S.1 S.2.1 dX11_best_121 (by decide) ?_
                          refine lv_istore (lv' := [(7, .int (0 : Int32)), (6, .int ((m_bits x5_4) - (m_bits x4_4))), (0, .ref (a 0)), (1, .int p1), (2, .int p2), (3, .int p3), (4, .int x4_4), (5, .int x5_4)]) S.1 S.2.1 dX11_best_122 hl (by decide) rfl (fun ls hl => ?_)
                          refine lv_iload S.1 S.2.1 dX11_best_124 (lv_at hl 0 rfl) ?_
                          refine lv_if_eq (tgt := 134) S.1 S.2.1 dX11_best_126 (by decide) (fun c_20 => ?_) (fun c_20 => ?_)
                          · refine lv_iload S.1 S.2.1 dX11_best_134 (lv_at hl 6 rfl) ?_
                            refine lv_istore (lv' := [(4, .int x4_4), (7, .int (0 : Int32)), (6, .int ((m_bits x5_4) - (m_bits x4_4))), (0, .ref (a 0)), (1, .int p1), (2, .int p2), (3, .int p3), (5, .int x5_4)]) S.1 S.2.1 dX11_best_136 hl (by decide) rfl (fun ls hl => ?_)
                            refine lv_iinc (v := (x5_4 + (1 : Int32))) (lv' := [(5, .int (x5_4 + (1 : Int32))), (4, .int x4_4), (7, .int (0 : Int32)), (6, .int ((m_bits x5_4) - (m_bits x4_4))), (0, .ref (a 0)), (1, .int p1), (2, .int p2), (3, .int p3)]) S.1 S.2.1 dX11_best_138 hl (k := 7) rfl rfl (by decide) rfl (fun ls hl => ?_)
                            refine lv_goto (tgt := 35) S.1 S.2.1 dX11_best_141 (by decide) ?_
                            have e_21 : ∀ _ : Unit, ((x5_4 + (1 : Int32))).toInt = (x5_4).toInt + 1 := fun _ => xadd rfl rfl (by omega) (by omega)
                            exact ih_4 x4_4 (x5_4 + (1 : Int32)) _ _ _ (show 1 ≤ ((x5_4 + (1 : Int32))).toInt from by rw [(e_21 ())]; omega) (show vsh - ((x5_4 + (1 : Int32))).toInt < (n_4 : Int) ∧ 1 ≤ n_4 from by rw [(e_21 ())]; omega) (lv_sub hl [4, 5, 6, 7, 1, 0] rfl) hw hV
                          · exact absurd c_20 (by decide)
                        · replace hV := hV.trans (if_neg c_19)
                          have gc_19 : ((m_nightsOf u p1 x5_4)).toInt < ((m_nightsOf u p1 x4_4)).toInt := xq_nle c_19 rfl rfl
                          refine lv_iconst (v := 1) S.1 S.2.1 dX11_best_117 (by decide) ?_
                          refine lv_goto (tgt := 122) S.1 S.2.1 dX11_best_118 (by decide) ?_
                          refine lv_istore (lv' := [(7, .int (1 : Int32)), (6, .int ((m_bits x5_4) - (m_bits x4_4))), (0, .ref (a 0)), (1, .int p1), (2, .int p2), (3, .int p3), (4, .int x4_4), (5, .int x5_4)]) S.1 S.2.1 dX11_best_122 hl (by decide) rfl (fun ls hl => ?_)
                          refine lv_iload S.1 S.2.1 dX11_best_124 (lv_at hl 0 rfl) ?_
                          refine lv_if_eq (tgt := 134) S.1 S.2.1 dX11_best_126 (by decide) (fun c_22 => ?_) (fun c_22 => ?_)
                          · exact absurd c_22 (by decide)
                          · refine lv_iload S.1 S.2.1 dX11_best_129 (lv_at hl 7 rfl) ?_
                            refine lv_goto (tgt := 136) S.1 S.2.1 dX11_best_131 (by decide) ?_
                            refine lv_istore (lv' := [(4, .int x5_4), (7, .int (1 : Int32)), (6, .int ((m_bits x5_4) - (m_bits x4_4))), (0, .ref (a 0)), (1, .int p1), (2, .int p2), (3, .int p3), (5, .int x5_4)]) S.1 S.2.1 dX11_best_136 hl (by decide) rfl (fun ls hl => ?_)
                            refine lv_iinc (v := (x5_4 + (1 : Int32))) (lv' := [(5, .int (x5_4 + (1 : Int32))), (4, .int x5_4), (7, .int (1 : Int32)), (6, .int ((m_bits x5_4) - (m_bits x4_4))), (0, .ref (a 0)), (1, .int p1), (2, .int p2), (3, .int p3)]) S.1 S.2.1 dX11_best_138 hl (k := 7) rfl rfl (by decide) rfl (fun ls hl => ?_)
                            refine lv_goto (tgt := 35) S.1 S.2.1 dX11_best_141 (by decide) ?_
                            have e_23 : ∀ _ : Unit, ((x5_4 + (1 : Int32))).toInt = (x5_4).toInt + 1 := fun _ => xadd rfl rfl (by omega) (by omega)
                            exact ih_4 x5_4 (x5_4 + (1 : Int32)) _ _ _ (show 1 ≤ ((x5_4 + (1 : Int32))).toInt from by rw [(e_23 ())]; omega) (show vsh - ((x5_4 + (1 : Int32))).toInt < (n_4 : Int) ∧ 1 ≤ n_4 from by rw [(e_23 ())]; omega) (lv_sub hl [4, 5, 6, 7, 1, 0] rfl) hw hV
        exact lp_4 257 (0 : Int32) (1 : Int32) _ _ _ (show 1 ≤ 1 from by omega) (show vsh - 1 < ((257 : Nat) : Int) ∧ 1 ≤ (257 : Nat) from by omega) (lv_sub hl [2, 3, 4, 5, 1, 0] rfl) hw hV
      · replace hV := hV.trans (if_pos c_3)
        have gc_3 : ((b2i (m_in p3 (0 : Int32) (1 : Int32)))).toInt = 0 := xq_eq c_3 rfl rfl
        refine lv_iconst (v := -1) S.1 S.2.1 dX11_best_27 (by decide) ?_
        exact xri S hr hlk hw (congrArg (fun b => (b, u)) hV) dX11_best_28
def m_near (u : xU) (p1 : Int32) (p2 : Int32) : Int32 :=
    (if (b2i (m_isCast u p1)) = (0 : Int32) then
    (-1 : Int32)
    else
    (if (b2i (m_isCast u p2)) = (0 : Int32) then
    (-1 : Int32)
    else
    (if p1 = p2 then
    (-1 : Int32)
    else
    (m_between u p1 p2))))
set_option maxHeartbeats 4000000 in
set_option maxRecDepth 100000 in
theorem c_m_near (l : Launch) (D : va_G) (a : Nat → Nat) (Y : Nat → ClassId) (ts : Nat → Nat) (u : xU) (p1 : Int32) (p2 : Int32) (hT : (0 ≤ ((u.1 0 0)).toInt ∧ ((u.1 0 0)).toInt ≤ 8)) (hC : (0 ≤ ((u.1 0 5)).toInt ∧ ((u.1 0 5)).toInt ≤ 6)) : xMi l yX11_near cX11_near 3 (some .int) (xRm 2 44) D (xty Y) (wM a Y) ts [.ref (a 0), .int p1, .int p2] u ((m_near u p1 p2), u) := by
  suffices h : ∀ V, V = m_near u p1 p2 → xMi l yX11_near cX11_near 3 (some .int) (xRm 2 44) D (xty Y) (wM a Y) ts [.ref (a 0), .int p1, .int p2] u (V, u) from h _ rfl
  intro V hV
  refine xofi RX11 rfl (by decide) (Nat.le_of_ble_eq_true rfl) ?_
  intro p e s m args below meth c ls H locs A S hr hlk hl hK hE hA hw
  have hl : lv_has ls 3 [(0, .ref (a 0)), (1, .int p1), (2, .int p2)] := hl
  refine lv_aload_n S.1 S.2.1 dX11_near_0 rfl (lv_at hl 0 rfl) ?_
  refine lv_iload_n S.1 S.2.1 dX11_near_1 rfl (lv_at hl 1 rfl) ?_
  refine xci (rest := []) S hK hE hA hw yfX11_isCast (c_m_isCast l D a Y ts _ p1 (show (0 ≤ ((u.1 0 0)).toInt ∧ ((u.1 0 0)).toInt ≤ 8) from by omega) (show (0 ≤ ((u.1 0 5)).toInt ∧ ((u.1 0 5)).toInt ≤ 6) from by omega)) 0 rfl rfl mlX11_162 rfl rfl hl.1 ⟨rfl, rfl, Nat.le_of_ble_eq_true rfl, Nat.le_of_ble_eq_true rfl, Nat.le_of_ble_eq_true rfl, Nat.zero_le _, Nat.zero_le _⟩ dX11_near_2 (fun H locs hw => ?_)
  refine lv_if_eq (tgt := 30) S.1 S.2.1 dX11_near_5 (by decide) (fun c_1 => ?_) (fun c_1 => ?_)
  · replace hV := hV.trans (if_pos c_1)
    have gc_1 : ((b2i (m_isCast u p1))).toInt = 0 := xq_eq c_1 rfl rfl
    refine lv_iconst (v := -1) S.1 S.2.1 dX11_near_30 (by decide) ?_
    exact xri S hr hlk hw (congrArg (fun b => (b, u)) hV) dX11_near_31
  · replace hV := hV.trans (if_neg c_1)
    have gc_1 : ¬ ((b2i (m_isCast u p1))).toInt = 0 := xq_ne c_1 rfl rfl
    have fc_1 := hk_mCast hC c_1
    refine lv_aload_n S.1 S.2.1 dX11_near_8 rfl (lv_at hl 0 rfl) ?_
    refine lv_iload_n S.1 S.2.1 dX11_near_9 rfl (lv_at hl 2 rfl) ?_
    refine xci (rest := []) S hK hE hA hw yfX11_isCast (c_m_isCast l D a Y ts _ p2 (show (0 ≤ ((u.1 0 0)).toInt ∧ ((u.1 0 0)).toInt ≤ 8) from by omega) (show (0 ≤ ((u.1 0 5)).toInt ∧ ((u.1 0 5)).toInt ≤ 6) from by omega)) 0 rfl rfl mlX11_162 rfl rfl hl.1 ⟨rfl, rfl, Nat.le_of_ble_eq_true rfl, Nat.le_of_ble_eq_true rfl, Nat.le_of_ble_eq_true rfl, Nat.zero_le _, Nat.zero_le _⟩ dX11_near_10 (fun H locs hw => ?_)
    refine lv_if_eq (tgt := 30) S.1 S.2.1 dX11_near_13 (by decide) (fun c_2 => ?_) (fun c_2 => ?_)
    · replace hV := hV.trans (if_pos c_2)
      have gc_2 : ((b2i (m_isCast u p2))).toInt = 0 := xq_eq c_2 rfl rfl
      refine lv_iconst (v := -1) S.1 S.2.1 dX11_near_30 (by decide) ?_
      exact xri S hr hlk hw (congrArg (fun b => (b, u)) hV) dX11_near_31
    · replace hV := hV.trans (if_neg c_2)
      have gc_2 : ¬ ((b2i (m_isCast u p2))).toInt = 0 := xq_ne c_2 rfl rfl
      have fc_2 := hk_mCast hC c_2
      refine lv_iload_n S.1 S.2.1 dX11_near_16 rfl (lv_at hl 1 rfl) ?_
      refine lv_iload_n S.1 S.2.1 dX11_near_17 rfl (lv_at hl 2 rfl) ?_
      refine lv_icmp_eq (tgt := 30) S.1 S.2.1 dX11_near_18 (by decide) (fun c_3 => ?_) (fun c_3 => ?_)
      · replace hV := hV.trans (if_pos c_3)
        have gc_3 : (p1).toInt = (p2).toInt := xq_eq c_3 rfl rfl
        refine lv_iconst (v := -1) S.1 S.2.1 dX11_near_30 (by decide) ?_
        exact xri S hr hlk hw (congrArg (fun b => (b, u)) hV) dX11_near_31
      · replace hV := hV.trans (if_neg c_3)
        have gc_3 : ¬ (p1).toInt = (p2).toInt := xq_ne c_3 rfl rfl
        refine lv_aload_n S.1 S.2.1 dX11_near_21 rfl (lv_at hl 0 rfl) ?_
        refine lv_iload_n S.1 S.2.1 dX11_near_22 rfl (lv_at hl 1 rfl) ?_
        refine lv_iload_n S.1 S.2.1 dX11_near_23 rfl (lv_at hl 2 rfl) ?_
        refine xci (rest := []) S hK hE hA hw yfX11_between (c_m_between l D a Y ts _ p1 p2 (show (0 ≤ ((u.1 0 0)).toInt ∧ ((u.1 0 0)).toInt ≤ 8) from by omega) (show (0 ≤ ((u.1 0 5)).toInt ∧ ((u.1 0 5)).toInt ≤ 6) from by omega) (show 0 ≤ (p1).toInt ∧ (p1).toInt < 6 from by omega) (show 0 ≤ (p2).toInt ∧ (p2).toInt < 6 from by omega)) 0 rfl rfl mlX11_215 rfl rfl hl.1 ⟨rfl, rfl, Nat.le_of_ble_eq_true rfl, Nat.le_of_ble_eq_true rfl, Nat.le_of_ble_eq_true rfl, Nat.zero_le _, Nat.zero_le _⟩ dX11_near_24 (fun H locs hw => ?_)
        refine lv_goto (tgt := 31) S.1 S.2.1 dX11_near_27 (by decide) ?_
        exact xri S hr hlk hw (congrArg (fun b => (b, u)) hV) dX11_near_31
def m_count (u : xU) (p1 : Int32) : Int32 :=
    (if p1 = 0 then
    (u.1 0 0)
    else
    (if p1 = 1 then
    (u.1 0 5)
    else
    (if p1 = 2 then
    (u.1 0 11)
    else
    (if p1 = 3 then
    (u.1 7 74)
    else
    (if p1 = 4 then
    (u.1 0 15)
    else
    (-1 : Int32))))))
set_option maxHeartbeats 4000000 in
set_option maxRecDepth 100000 in
theorem c_m_count (l : Launch) (D : va_G) (a : Nat → Nat) (Y : Nat → ClassId) (ts : Nat → Nat) (u : xU) (p1 : Int32) : xMi l yX11_count cX11_count 2 (some .int) (xRm 0 0) D (xty Y) (wM a Y) ts [.ref (a 0), .int p1] u ((m_count u p1), u) := by
  suffices h : ∀ V, V = m_count u p1 → xMi l yX11_count cX11_count 2 (some .int) (xRm 0 0) D (xty Y) (wM a Y) ts [.ref (a 0), .int p1] u (V, u) from h _ rfl
  intro V hV
  refine xofi RX11 rfl (by decide) (Nat.le_of_ble_eq_true rfl) ?_
  intro p e s m args below meth c ls H locs A S hr hlk hl hK hE hA hw
  have hl : lv_has ls 2 [(0, .ref (a 0)), (1, .int p1)] := hl
  refine lv_iload_n S.1 S.2.1 dX11_count_0 rfl (lv_at hl 1 rfl) ?_
  by_cases c_1 : p1 = 0
  · replace hV := hV.trans (if_pos c_1)
    have gc_1 : (p1).toInt = 0 := xq_eq c_1 rfl rfl
    refine lv_tableIn (tgt := 36) S.1 S.2.1 dX11_count_1 (by rw [c_1]; decide) (by rw [c_1]; decide) (by rw [c_1]; rfl) (by decide) ?_
    refine lv_aload_n S.1 S.2.1 dX11_count_36 rfl (lv_at hl 0 rfl) ?_
    refine xget (v := .int (u.1 0 0)) S hK hw 0 rfl rfl inX11 0 (by decide) mfX11_68 rfl dX11_count_37 ?_
    exact xri S hr hlk hw (congrArg (fun b => (b, u)) hV) dX11_count_40
  replace hV := hV.trans (if_neg c_1)
  by_cases c_2 : p1 = 1
  · replace hV := hV.trans (if_pos c_2)
    have gc_2 : (p1).toInt = 1 := xq_eq c_2 rfl rfl
    refine lv_tableIn (tgt := 41) S.1 S.2.1 dX11_count_1 (by rw [c_2]; decide) (by rw [c_2]; decide) (by rw [c_2]; rfl) (by decide) ?_
    refine lv_aload_n S.1 S.2.1 dX11_count_41 rfl (lv_at hl 0 rfl) ?_
    refine xget (v := .int (u.1 0 5)) S hK hw 0 rfl rfl inX11 5 (by decide) mfX11_76 rfl dX11_count_42 ?_
    exact xri S hr hlk hw (congrArg (fun b => (b, u)) hV) dX11_count_45
  replace hV := hV.trans (if_neg c_2)
  by_cases c_3 : p1 = 2
  · replace hV := hV.trans (if_pos c_3)
    have gc_3 : (p1).toInt = 2 := xq_eq c_3 rfl rfl
    refine lv_tableIn (tgt := 46) S.1 S.2.1 dX11_count_1 (by rw [c_3]; decide) (by rw [c_3]; decide) (by rw [c_3]; rfl) (by decide) ?_
    refine lv_aload_n S.1 S.2.1 dX11_count_46 rfl (lv_at hl 0 rfl) ?_
    refine xget (v := .int (u.1 0 11)) S hK hw 0 rfl rfl inX11 11 (by decide) mfX11_137 rfl dX11_count_47 ?_
    exact xri S hr hlk hw (congrArg (fun b => (b, u)) hV) dX11_count_50
  replace hV := hV.trans (if_neg c_3)
  by_cases c_4 : p1 = 3
  · replace hV := hV.trans (if_pos c_4)
    have gc_4 : (p1).toInt = 3 := xq_eq c_4 rfl rfl
    refine lv_tableIn (tgt := 51) S.1 S.2.1 dX11_count_1 (by rw [c_4]; decide) (by rw [c_4]; decide) (by rw [c_4]; rfl) (by decide) ?_
    refine lv_aload_n S.1 S.2.1 dX11_count_51 rfl (lv_at hl 0 rfl) ?_
    refine xget (v := .ref (a 7)) S hK hw 0 rfl rfl inX11 8 (by decide) mfX11_28 rfl dX11_count_52 ?_
    refine lv_bipush (v := 74) S.1 S.2.1 dX11_count_55 (by decide) ?_
    refine xaldc (f := u.1 7) (x := (u.1 7 74)) (k := 74) S hK hw 7 0 rfl rfl (by decide) rfl (xvi (a := 74) rfl (by decide) (by decide)) dX11_count_57 ?_
    exact xri S hr hlk hw (congrArg (fun b => (b, u)) hV) dX11_count_58
  replace hV := hV.trans (if_neg c_4)
  by_cases c_5 : p1 = 4
  · replace hV := hV.trans (if_pos c_5)
    have gc_5 : (p1).toInt = 4 := xq_eq c_5 rfl rfl
    refine lv_tableIn (tgt := 59) S.1 S.2.1 dX11_count_1 (by rw [c_5]; decide) (by rw [c_5]; decide) (by rw [c_5]; rfl) (by decide) ?_
    refine lv_aload_n S.1 S.2.1 dX11_count_59 rfl (lv_at hl 0 rfl) ?_
    refine xget (v := .int (u.1 0 15)) S hK hw 0 rfl rfl inX11 15 (by decide) mfX11_79 rfl dX11_count_60 ?_
    exact xri S hr hlk hw (congrArg (fun b => (b, u)) hV) dX11_count_63
  replace hV := hV.trans (if_neg c_5)
  have gc_1 : ¬ (p1).toInt = 0 := xq_ne c_1 rfl rfl
  have gc_2 : ¬ (p1).toInt = 1 := xq_ne c_2 rfl rfl
  have gc_3 : ¬ (p1).toInt = 2 := xq_ne c_3 rfl rfl
  have gc_4 : ¬ (p1).toInt = 3 := xq_ne c_4 rfl rfl
  have gc_5 : ¬ (p1).toInt = 4 := xq_ne c_5 rfl rfl
  refine lv_tableOut (tgt := 64) S.1 S.2.1 dX11_count_1 (by omega) (by decide) ?_
  refine lv_iconst (v := -1) S.1 S.2.1 dX11_count_64 (by decide) ?_
  exact xri S hr hlk hw (congrArg (fun b => (b, u)) hV) dX11_count_65
def m_trace (u : xU) : Int64 :=
    u.2
set_option maxHeartbeats 4000000 in
set_option maxRecDepth 100000 in
theorem c_m_trace (l : Launch) (D : va_G) (a : Nat → Nat) (Y : Nat → ClassId) (ts : Nat → Nat) (u : xU) : xMl l yX11_trace cX11_trace 1 (some .long) (xRm 0 0) D (xty Y) (wM a Y) ts [.ref (a 0)] u ((m_trace u), u) := by
  suffices h : ∀ V, V = m_trace u → xMl l yX11_trace cX11_trace 1 (some .long) (xRm 0 0) D (xty Y) (wM a Y) ts [.ref (a 0)] u (V, u) from h _ rfl
  intro V hV
  refine xofl RX11 rfl (by decide) (Nat.le_of_ble_eq_true rfl) ?_
  intro p e s m args below meth c ls H locs A S hr hlk hl hK hE hA hw
  have hl : lv_has ls 1 [(0, .ref (a 0))] := hl
  refine lv_aload_n S.1 S.2.1 dX11_trace_0 rfl (lv_at hl 0 rfl) ?_
  refine xget (v := .long u.2) S hK hw 0 rfl rfl inX11 13 (by decide) mfX11_226 rfl dX11_trace_1 ?_
  exact xrl S hr hlk hw (congrArg (fun b => (b, u)) hV) dX11_trace_4
