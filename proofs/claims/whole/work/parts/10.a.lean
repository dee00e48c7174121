def k_has (p1 : Int32) (p2 : Int32) : Bool :=
    (if ((p1 >>> (p2 &&& 31)) &&& (1 : Int32)) = (1 : Int32) then
    true
    else
    false)
set_option maxHeartbeats 4000000 in
set_option maxRecDepth 100000 in
theorem c_k_has (l : Launch) (p1 : Int32) (p2 : Int32) : xP l yX10_has cX10_has 2 (some .boolean) (xRm 0 0) [.int p1, .int p2] (b2i (k_has p1 p2)) := by
  suffices h : ∀ V, V = k_has p1 p2 → xP l yX10_has cX10_has 2 (some .boolean) (xRm 0 0) [.int p1, .int p2] (b2i V) from h _ rfl
  intro V hV
  refine xofP RX10 rfl (by decide) (Nat.le_of_ble_eq_true rfl) ?_
  intro p e s m args below meth c ls H locs S hr hlk hl hw
  have hl : lv_has ls 2 [(0, .int p1), (1, .int p2)] := hl
  refine lv_iload_n S.1 S.2.1 dX10_has_0 rfl (lv_at hl 0 rfl) ?_
  refine lv_iload_n S.1 S.2.1 dX10_has_1 rfl (lv_at hl 1 rfl) ?_
  refine lv_ishr S.1 S.2.1 dX10_has_2 ?_
  refine lv_iconst (v := 1) S.1 S.2.1 dX10_has_3 (by decide) ?_
  refine lv_iand S.1 S.2.1 dX10_has_4 ?_
  refine lv_iconst (v := 1) S.1 S.2.1 dX10_has_5 (by decide) ?_
  refine lv_icmp_ne (tgt := 13) S.1 S.2.1 dX10_has_6 (by decide) (fun c_1 => ?_) (fun c_1 => ?_)
  · replace hV := hV.trans (if_neg c_1)
    refine lv_iconst (v := 0) S.1 S.2.1 dX10_has_13 (by decide) ?_
    exact yrz S hr hlk hw rfl (congrArg b2i hV) dX10_has_14
  · replace hV := hV.trans (if_pos c_1)
    refine lv_iconst (v := 1) S.1 S.2.1 dX10_has_9 (by decide) ?_
    refine lv_goto (tgt := 14) S.1 S.2.1 dX10_has_10 (by decide) ?_
    exact yrz S hr hlk hw rfl (congrArg b2i hV) dX10_has_14
def k_orNone (p1 : Int32) : Int32 :=
    (if p1 = (-1 : Int32) then
    (-9 : Int32)
    else
    p1)
set_option maxHeartbeats 4000000 in
set_option maxRecDepth 100000 in
theorem c_k_orNone (l : Launch) (p1 : Int32) : xP l yX10_orNone cX10_orNone 1 (some .int) (xRm 0 0) [.int p1] ((k_orNone p1)) := by
  suffices h : ∀ V, V = k_orNone p1 → xP l yX10_orNone cX10_orNone 1 (some .int) (xRm 0 0) [.int p1] (V) from h _ rfl
  intro V hV
  refine xofP RX10 rfl (by decide) (Nat.le_of_ble_eq_true rfl) ?_
  intro p e s m args below meth c ls H locs S hr hlk hl hw
  have hl : lv_has ls 1 [(0, .int p1)] := hl
  refine lv_iload_n S.1 S.2.1 dX10_orNone_0 rfl (lv_at hl 0 rfl) ?_
  refine lv_iconst (v := -1) S.1 S.2.1 dX10_orNone_1 (by decide) ?_
  refine lv_icmp_ne (tgt := 10) S.1 S.2.1 dX10_orNone_2 (by decide) (fun c_1 => ?_) (fun c_1 => ?_)
  · replace hV := hV.trans (if_neg c_1)
    have gc_1 : ¬ (p1).toInt = (-1) := xq_ne c_1 rfl rfl
    refine lv_iload_n S.1 S.2.1 dX10_orNone_10 rfl (lv_at hl 0 rfl) ?_
    exact yri S hr hlk hw hV dX10_orNone_11
  · replace hV := hV.trans (if_pos c_1)
    have gc_1 : (p1).toInt = (-1) := xq_eq c_1 rfl rfl
    refine lv_bipush (v := -9) S.1 S.2.1 dX10_orNone_5 (by decide) ?_
    refine lv_goto (tgt := 11) S.1 S.2.1 dX10_orNone_7 (by decide) ?_
    exact yri S hr hlk hw hV dX10_orNone_11
def k_power_L4 (x0 : Int32) (x1 : Int32) : Nat → Int32 → Int32 → Int32
  | 0, _, _ => 0
  | n + 1, x2, x3 =>
    (if x1 ≤ x3 then
    x2
    else
    k_power_L4 x0 x1 n (x2 * x0) (x3 + (1 : Int32)))
def k_power (p1 : Int32) (p2 : Int32) : Int32 :=
    k_power_L4 p1 p2 8 (1 : Int32) (0 : Int32)
set_option maxHeartbeats 4000000 in
set_option maxRecDepth 100000 in
theorem c_k_power (l : Launch) (p1 : Int32) (p2 : Int32) (hp1 : 0 ≤ (p2).toInt ∧ (p2).toInt < 7) : xP l yX10_power cX10_power 4 (some .int) (xRm 0 0) [.int p1, .int p2] ((k_power p1 p2)) := by
  suffices h : ∀ V, V = k_power p1 p2 → xP l yX10_power cX10_power 4 (some .int) (xRm 0 0) [.int p1, .int p2] (V) from h _ rfl
  intro V hV
  refine xofP RX10 rfl (by decide) (Nat.le_of_ble_eq_true rfl) ?_
  intro p e s m args below meth c ls H locs S hr hlk hl hw
  have hl : lv_has ls 4 [(0, .int p1), (1, .int p2)] := hl
  refine lv_iconst (v := 1) S.1 S.2.1 dX10_power_0 (by decide) ?_
  refine lv_istore_n (lv' := [(2, .int (1 : Int32)), (0, .int p1), (1, .int p2)]) S.1 S.2.1 dX10_power_1 rfl hl (by decide) rfl (fun ls hl => ?_)
  refine lv_iconst (v := 0) S.1 S.2.1 dX10_power_2 (by decide) ?_
  refine lv_istore_n (lv' := [(3, .int (0 : Int32)), (2, .int (1 : Int32)), (0, .int p1), (1, .int p2)]) S.1 S.2.1 dX10_power_3 rfl hl (by decide) rfl (fun ls hl => ?_)
  have lp_1 : ∀ (n_1 : Nat) (x2_1 : Int32) (x3_1 : Int32) (H : Heap) (locs : List Loc) (ls : Array Slot), (0 ≤ (x3_1).toInt) → ((p2).toInt - (x3_1).toInt < (n_1 : Int) ∧ 1 ≤ n_1) → lv_has ls 4 [(0, .int p1), (1, .int p2), (2, .int x2_1), (3, .int x3_1)] → xw (fun _ => 0, fun _ _ => 0) (fun _ => []) (fun _ => False) s.heap H locs (fun _ _ => 0, 0) → V = k_power_L4 p1 p2 n_1 x2_1 x3_1 → W p l e (xRm 0 0) s m args below meth c H locs 0 0 (MQ below (va_Qi (fun r (_ : Unit) => r = V) (fun _ _ => True) (fun _ => False)) args s 0 0 (fun _ => False)) (F0 m 4 ls []) := by
    intro n_1
    induction n_1 with
    | zero => intro x2_1 x3_1 H locs ls i0_1 hn; exact absurd hn.2 (by decide)
    | succ n_1 ih_1 =>
      intro x2_1 x3_1 H locs ls i0_1 hn_1 hl hw hV
      refine lv_iload_n S.1 S.2.1 dX10_power_4 rfl (lv_at hl 3 rfl) ?_
      refine lv_iload_n S.1 S.2.1 dX10_power_5 rfl (lv_at hl 1 rfl) ?_
      refine lv_icmp_ge (tgt := 19) S.1 S.2.1 dX10_power_6 (by decide) (fun c_2 => ?_) (fun c_2 => ?_)
      · replace hV := hV.trans (if_pos c_2)
        have gc_2 : (p2).toInt ≤ (x3_1).toInt := xq_le c_2 rfl rfl
        refine lv_iload_n S.1 S.2.1 dX10_power_19 rfl (lv_at hl 2 rfl) ?_
        exact yri S hr hlk hw hV dX10_power_20
      · replace hV := hV.trans (if_neg c_2)
        have gc_2 : (x3_1).toInt < (p2).toInt := xq_nle c_2 rfl rfl
        refine lv_iload_n S.1 S.2.1 dX10_power_9 rfl (lv_at hl 2 rfl) ?_
        refine lv_iload_n S.1 S.2.1 dX10_power_10 rfl (lv_at hl 0 rfl) ?_
        refine lv_imul S.1 S.2.1 dX10_power_11 ?_
        refine lv_istore_n (lv' := [(2, .int (x2_1 * p1)), (0, .int p1), (1, .int p2), (3, .int x3_1)]) S.1 S.2.1 dX10_power_12 rfl hl (by decide) rfl (fun ls hl => ?_)
        refine lv_iinc (v := (x3_1 + (1 : Int32))) (lv' := [(3, .int (x3_1 + (1 : Int32))), (2, .int (x2_1 * p1)), (0, .int p1), (1, .int p2)]) S.1 S.2.1 dX10_power_13 hl (k := 3) rfl rfl (by decide) rfl (fun ls hl => ?_)
        refine lv_goto (tgt := 4) S.1 S.2.1 dX10_power_16 (by decide) ?_
        have e_3 : ∀ _ : Unit, ((x3_1 + (1 : Int32))).toInt = (x3_1).toInt + 1 := fun _ => xadd rfl rfl (by omega) (by omega)
        exact ih_1 (x2_1 * p1) (x3_1 + (1 : Int32)) _ _ _ (show 0 ≤ ((x3_1 + (1 : Int32))).toInt from by rw [(e_3 ())]; omega) (show (p2).toInt - ((x3_1 + (1 : Int32))).toInt < (n_1 : Int) ∧ 1 ≤ n_1 from by rw [(e_3 ())]; omega) (lv_sub hl [2, 3, 1, 0] rfl) hw hV
  exact lp_1 8 (1 : Int32) (0 : Int32) _ _ _ (show 0 ≤ 0 from by omega) (show (p2).toInt - 0 < ((8 : Nat) : Int) ∧ 1 ≤ (8 : Nat) from by omega) (lv_sub hl [2, 3, 1, 0] rfl) hw hV
def k_waysToFall_L8 (x0 : Int32) (x1 : Int32) (x2 : Int32) : Nat → Int32 → Int32 → Int32 → Int32
  | 0, _, _, _ => 0
  | n + 1, x3, x4, x5 =>
    (if x0 < x5 then
    x3
    else
    (if x2 < x5 then
    x3
    else
    let t_5 := (x3 + ((x4 * (k_power x1 x5)) * (k_power ((10 : Int32) - x1) (x0 - x5))))
    k_waysToFall_L8 x0 x1 x2 n t_5 ((x4 * (x0 - x5)) / (x5 + (1 : Int32))) (x5 + (1 : Int32))))
def k_waysToFall (p1 : Int32) (p2 : Int32) (p3 : Int32) : Int32 :=
    k_waysToFall_L8 p1 p2 p3 8 (0 : Int32) (1 : Int32) (0 : Int32)
set_option maxHeartbeats 4000000 in
set_option maxRecDepth 100000 in
theorem c_k_waysToFall (l : Launch) (p1 : Int32) (p2 : Int32) (p3 : Int32) (hp0 : 0 ≤ (p1).toInt ∧ (p1).toInt < 7) : xP l yX10_waysToFall cX10_waysToFall 6 (some .int) (xRm 1 23) [.int p1, .int p2, .int p3] ((k_waysToFall p1 p2 p3)) := by
  suffices h : ∀ V, V = k_waysToFall p1 p2 p3 → xP l yX10_waysToFall cX10_waysToFall 6 (some .int) (xRm 1 23) [.int p1, .int p2, .int p3] (V) from h _ rfl
  intro V hV
  refine xofP RX10 rfl (by decide) (Nat.le_of_ble_eq_true rfl) ?_
  intro p e s m args below meth c ls H locs S hr hlk hl hw
  have hl : lv_has ls 6 [(0, .int p1), (1, .int p2), (2, .int p3)] := hl
  refine lv_iconst (v := 0) S.1 S.2.1 dX10_waysToFall_0 (by decide) ?_
  refine lv_istore_n (lv' := [(3, .int (0 : Int32)), (0, .int p1), (1, .int p2), (2, .int p3)]) S.1 S.2.1 dX10_waysToFall_1 rfl hl (by decide) rfl (fun ls hl => ?_)
  refine lv_iconst (v := 1) S.1 S.2.1 dX10_waysToFall_2 (by decide) ?_
  refine lv_istore (lv' := [(4, .int (1 : Int32)), (3, .int (0 : Int32)), (0, .int p1), (1, .int p2), (2, .int p3)]) S.1 S.2.1 dX10_waysToFall_3 hl (by decide) rfl (fun ls hl => ?_)
  refine lv_iconst (v := 0) S.1 S.2.1 dX10_waysToFall_5 (by decide) ?_
  refine lv_istore (lv' := [(5, .int (0 : Int32)), (4, .int (1 : Int32)), (3, .int (0 : Int32)), (0, .int p1), (1, .int p2), (2, .int p3)]) S.1 S.2.1 dX10_waysToFall_6 hl (by decide) rfl (fun ls hl => ?_)
  have lp_1 : ∀ (n_1 : Nat) (x3_1 : Int32) (x4_1 : Int32) (x5_1 : Int32) (H : Heap) (locs : List Loc) (ls : Array Slot), (0 ≤ (x5_1).toInt) → ((p1).toInt - (x5_1).toInt + 1 < (n_1 : Int) ∧ 1 ≤ n_1) → lv_has ls 6 [(0, .int p1), (1, .int p2), (2, .int p3), (3, .int x3_1), (4, .int x4_1), (5, .int x5_1)] → xw (fun _ => 0, fun _ _ => 0) (fun _ => []) (fun _ => False) s.heap H locs (fun _ _ => 0, 0) → V = k_waysToFall_L8 p1 p2 p3 n_1 x3_1 x4_1 x5_1 → W p l e (xRm 1 23) s m args below meth c H locs 0 0 (MQ below (va_Qi (fun r (_ : Unit) => r = V) (fun _ _ => True) (fun _ => False)) args s 0 0 (fun _ => False)) (F0 m 8 ls []) := by
    intro n_1
    induction n_1 with
    | zero => intro x3_1 x4_1 x5_1 H locs ls i0_1 hn; exact absurd hn.2 (by decide)
    | succ n_1 ih_1 =>
      intro x3_1 x4_1 x5_1 H locs ls i0_1 hn_1 hl hw hV
      refine lv_iload S.1 S.2.1 dX10_waysToFall_8 (lv_at hl 5 rfl) ?_
      refine lv_iload_n S.1 S.2.1 dX10_waysToFall_10 rfl (lv_at hl 0 rfl) ?_
      refine lv_icmp_gt (tgt := 64) S.1 S.2.1 dX10_waysToFall_11 (by decide) (fun c_2 => ?_) (fun c_2 => ?_)
      · replace hV := hV.trans (if_pos c_2)
        have gc_2 : (p1).toInt < (x5_1).toInt := xq_lt c_2 rfl rfl
        refine lv_iload_n S.1 S.2.1 dX10_waysToFall_64 rfl (lv_at hl 3 rfl) ?_
        exact yri S hr hlk hw hV dX10_waysToFall_65
      · replace hV := hV.trans (if_neg c_2)
        have gc_2 : (x5_1).toInt ≤ (p1).toInt := xq_nlt c_2 rfl rfl
        refine lv_iload S.1 S.2.1 dX10_waysToFall_14 (lv_at hl 5 rfl) ?_
        refine lv_iload_n S.1 S.2.1 dX10_waysToFall_16 rfl (lv_at hl 2 rfl) ?_
        refine lv_icmp_gt (tgt := 64) S.1 S.2.1 dX10_waysToFall_17 (by decide) (fun c_3 => ?_) (fun c_3 => ?_)
        · replace hV := hV.trans (if_pos c_3)
          have gc_3 : (p3).toInt < (x5_1).toInt := xq_lt c_3 rfl rfl
          refine lv_iload_n S.1 S.2.1 dX10_waysToFall_64 rfl (lv_at hl 3 rfl) ?_
          exact yri S hr hlk hw hV dX10_waysToFall_65
        · replace hV := hV.trans (if_neg c_3)
          have gc_3 : (x5_1).toInt ≤ (p3).toInt := xq_nlt c_3 rfl rfl
          refine lv_iload_n S.1 S.2.1 dX10_waysToFall_20 rfl (lv_at hl 3 rfl) ?_
          refine lv_iload S.1 S.2.1 dX10_waysToFall_21 (lv_at hl 4 rfl) ?_
          refine lv_iload_n S.1 S.2.1 dX10_waysToFall_23 rfl (lv_at hl 1 rfl) ?_
          refine lv_iload S.1 S.2.1 dX10_waysToFall_24 (lv_at hl 5 rfl) ?_
          refine xcP (rest := [.int x4_1, .int x3_1]) S hw yfX10_power (c_k_power l p2 x5_1 (show 0 ≤ (x5_1).toInt ∧ (x5_1).toInt < 7 from by omega)) mlX10_249 rfl rfl hl.1 ⟨rfl, rfl, Nat.le_of_ble_eq_true rfl, Nat.le_of_ble_eq_true rfl, Nat.le_of_ble_eq_true rfl, Nat.zero_le _, Nat.zero_le _⟩ dX10_waysToFall_26 (fun H locs hw => ?_)
          refine lv_imul S.1 S.2.1 dX10_waysToFall_29 ?_
          refine lv_bipush (v := 10) S.1 S.2.1 dX10_waysToFall_30 (by decide) ?_
          refine lv_iload_n S.1 S.2.1 dX10_waysToFall_32 rfl (lv_at hl 1 rfl) ?_
          refine lv_isub S.1 S.2.1 dX10_waysToFall_33 ?_
          refine lv_iload_n S.1 S.2.1 dX10_waysToFall_34 rfl (lv_at hl 0 rfl) ?_
          refine lv_iload S.1 S.2.1 dX10_waysToFall_35 (lv_at hl 5 rfl) ?_
          refine lv_isub S.1 S.2.1 dX10_waysToFall_37 ?_
          have e_4 : ∀ _ : Unit, ((p1 - x5_1)).toInt = (p1).toInt - (x5_1).toInt := fun _ => xsub rfl rfl (by omega) (by omega)
          refine xcP (rest := [.int (x4_1 * (k_power p2 x5_1)), .int x3_1]) S hw yfX10_power (c_k_power l ((10 : Int32) - p2) (p1 - x5_1) (show 0 ≤ ((p1 - x5_1)).toInt ∧ ((p1 - x5_1)).toInt < 7 from by rw [(e_4 ())]; omega)) mlX10_249 rfl rfl hl.1 ⟨rfl, rfl, Nat.le_of_ble_eq_true rfl, Nat.le_of_ble_eq_true rfl, Nat.le_of_ble_eq_true rfl, Nat.zero_le _, Nat.zero_le _⟩ dX10_waysToFall_38 (fun H locs hw => ?_)
          refine lv_imul S.1 S.2.1 dX10_waysToFall_41 ?_
          refine lv_iadd S.1 S.2.1 dX10_waysToFall_42 ?_
          refine lv_istore_n (lv' := [(3, .int (x3_1 + ((x4_1 * (k_power p2 x5_1)) * (k_power ((10 : Int32) - p2) (p1 - x5_1))))), (0, .int p1), (1, .int p2), (2, .int p3), (4, .int x4_1), (5, .int x5_1)]) S.1 S.2.1 dX10_waysToFall_43 rfl hl (by decide) rfl (fun ls hl => ?_)
          refine lv_iload S.1 S.2.1 dX10_waysToFall_44 (lv_at hl 4 rfl) ?_
          refine lv_iload_n S.1 S.2.1 dX10_waysToFall_46 rfl (lv_at hl 1 rfl) ?_
          refine lv_iload S.1 S.2.1 dX10_waysToFall_47 (lv_at hl 5 rfl) ?_
          refine lv_isub S.1 S.2.1 dX10_waysToFall_49 ?_
          refine lv_imul S.1 S.2.1 dX10_waysToFall_50 ?_
          refine lv_iload S.1 S.2.1 dX10_waysToFall_51 (lv_at hl 5 rfl) ?_
          refine lv_iconst (v := 1) S.1 S.2.1 dX10_waysToFall_53 (by decide) ?_
          refine lv_iadd S.1 S.2.1 dX10_waysToFall_54 ?_
          have e_6 : ∀ _ : Unit, ((x5_1 + (1 : Int32))).toInt = (x5_1).toInt + 1 := fun _ => xadd rfl rfl (by omega) (by omega)
          refine lv_idiv S.1 S.2.1 dX10_waysToFall_55 (fun z => by have : ((x5_1).toInt + 1) = 0 := xq_eq z (e_6 ()) rfl; omega) ?_
          refine lv_istore (lv' := [(4, .int ((x4_1 * (p1 - x5_1)) / (x5_1 + (1 : Int32)))), (3, .int (x3_1 + ((x4_1 * (k_power p2 x5_1)) * (k_power ((10 : Int32) - p2) (p1 - x5_1))))), (0, .int p1), (1, .int p2), (2, .int p3), (5, .int x5_1)]) S.1 S.2.1 dX10_waysToFall_56 hl (by decide) rfl (fun ls hl => ?_)
          refine lv_iinc (v := (x5_1 + (1 : Int32))) (lv' := [(5, .int (x5_1 + (1 : Int32))), (4, .int ((x4_1 * (p1 - x5_1)) / (x5_1 + (1 : Int32)))), (3, .int (x3_1 + ((x4_1 * (k_power p2 x5_1)) * (k_power ((10 : Int32) - p2) (p1 - x5_1))))), (0, .int p1), (1, .int p2), (2, .int p3)]) S.1 S.2.1 dX10_waysToFall_58 hl (k := 5) rfl rfl (by decide) rfl (fun ls hl => ?_)
          refine lv_goto (tgt := 8) S.1 S.2.1 dX10_waysToFall_61 (by decide) ?_
          exact ih_1 (x3_1 + ((x4_1 * (k_power p2 x5_1)) * (k_power ((10 : Int32) - p2) (p1 - x5_1)))) ((x4_1 * (p1 - x5_1)) / (x5_1 + (1 : Int32))) (x5_1 + (1 : Int32)) _ _ _ (show 0 ≤ ((x5_1 + (1 : Int32))).toInt from by rw [(e_6 ())]; omega) (show (p1).toInt - ((x5_1 + (1 : Int32))).toInt + 1 < (n_1 : Int) ∧ 1 ≤ n_1 from by rw [(e_6 ())]; omega) (lv_sub hl [3, 4, 5, 2, 1, 0] rfl) hw hV
  exact lp_1 8 (0 : Int32) (1 : Int32) (0 : Int32) _ _ _ (show 0 ≤ 0 from by omega) (show (p1).toInt - 0 + 1 < ((8 : Nat) : Int) ∧ 1 ≤ (8 : Nat) from by omega) (lv_sub hl [3, 4, 5, 2, 1, 0] rfl) hw hV
def k_commonDivisor_L7 : Nat → Int32 → Int32 → Int32 → Int32
  | 0, _, _, _ => 0
  | n + 1, x2, x3, x4 =>
    (if (64 : Int32) ≤ x4 then
    (if x2 < (1 : Int32) then (1 : Int32) else x2)
    else
    (if x3 = (0 : Int32) then
    (if x2 < (1 : Int32) then (1 : Int32) else x2)
    else
    k_commonDivisor_L7 n x3 (x2 - x2 / x3 * x3) (x4 + (1 : Int32))))
def k_commonDivisor (p1 : Int32) (p2 : Int32) : Int32 :=
    k_commonDivisor_L7 65 p2 p1 (0 : Int32)
set_option maxHeartbeats 4000000 in
set_option maxRecDepth 100000 in
theorem c_k_commonDivisor (l : Launch) (p1 : Int32) (p2 : Int32) : xP l yX10_commonDivisor cX10_commonDivisor 6 (some .int) (xRm 1 30) [.int p1, .int p2] ((k_commonDivisor p1 p2)) := by
  suffices h : ∀ V, V = k_commonDivisor p1 p2 → xP l yX10_commonDivisor cX10_commonDivisor 6 (some .int) (xRm 1 30) [.int p1, .int p2] (V) from h _ rfl
  intro V hV
  refine xofP RX10 rfl (by decide) (Nat.le_of_ble_eq_true rfl) ?_
  intro p e s m args below meth c ls H locs S hr hlk hl hw
  have hl : lv_has ls 6 [(0, .int p1), (1, .int p2)] := hl
  refine lv_iload_n S.1 S.2.1 dX10_commonDivisor_0 rfl (lv_at hl 1 rfl) ?_
  refine lv_istore_n (lv' := [(2, .int p2), (0, .int p1), (1, .int p2)]) S.1 S.2.1 dX10_commonDivisor_1 rfl hl (by decide) rfl (fun ls hl => ?_)
  refine lv_iload_n S.1 S.2.1 dX10_commonDivisor_2 rfl (lv_at hl 1 rfl) ?_
  refine lv_istore_n (lv' := [(3, .int p1), (2, .int p2), (0, .int p1), (1, .int p2)]) S.1 S.2.1 dX10_commonDivisor_3 rfl hl (by decide) rfl (fun ls hl => ?_)
  refine lv_iconst (v := 0) S.1 S.2.1 dX10_commonDivisor_4 (by decide) ?_
  refine lv_istore (lv' := [(4, .int (0 : Int32)), (3, .int p1), (2, .int p2), (0, .int p1), (1, .int p2)]) S.1 S.2.1 dX10_commonDivisor_5 hl (by decide) rfl (fun ls hl => ?_)
  have lp_1 : ∀ (n_1 : Nat) (x2_1 : Int32) (x3_1 : Int32) (x4_1 : Int32) (H : Heap) (locs : List Loc) (ls : Array Slot), (0 ≤ (x4_1).toInt) → (64 - (x4_1).toInt < (n_1 : Int) ∧ 1 ≤ n_1) → lv_has ls 6 [(2, .int x2_1), (3, .int x3_1), (4, .int x4_1)] → xw (fun _ => 0, fun _ _ => 0) (fun _ => []) (fun _ => False) s.heap H locs (fun _ _ => 0, 0) → V = k_commonDivisor_L7 n_1 x2_1 x3_1 x4_1 → W p l e (xRm 1 30) s m args below meth c H locs 0 0 (MQ below (va_Qi (fun r (_ : Unit) => r = V) (fun _ _ => True) (fun _ => False)) args s 0 0 (fun _ => False)) (F0 m 7 ls []) := by
    intro n_1
    induction n_1 with
    | zero => intro x2_1 x3_1 x4_1 H locs ls i0_1 hn; exact absurd hn.2 (by decide)
    | succ n_1 ih_1 =>
      intro x2_1 x3_1 x4_1 H locs ls i0_1 hn_1 hl hw hV
      refine lv_iload S.1 S.2.1 dX10_commonDivisor_7 (lv_at hl 2 rfl) ?_
      refine lv_bipush (v := 64) S.1 S.2.1 dX10_commonDivisor_9 (by decide) ?_
      refine lv_icmp_ge (tgt := 34) S.1 S.2.1 dX10_commonDivisor_11 (by decide) (fun c_2 => ?_) (fun c_2 => ?_)
      · replace hV := hV.trans (if_pos c_2)
        have gc_2 : 64 ≤ (x4_1).toInt := xq_le c_2 rfl rfl
        refine lv_iload_n S.1 S.2.1 dX10_commonDivisor_34 rfl (lv_at hl 0 rfl) ?_
        refine lv_iconst (v := 1) S.1 S.2.1 dX10_commonDivisor_35 (by decide) ?_
        refine xmax S hl.1 mlX10_280 mmax_st math_in mmax_cd ⟨Nat.le_of_ble_eq_true rfl, Nat.le_of_ble_eq_true rfl, Nat.zero_le _, Nat.zero_le _⟩ dX10_commonDivisor_36 ?_
        exact yri S hr hlk hw hV dX10_commonDivisor_39
      · replace hV := hV.trans (if_neg c_2)
        have gc_2 : (x4_1).toInt < 64 := xq_nle c_2 rfl rfl
        refine lv_iload_n S.1 S.2.1 dX10_commonDivisor_14 rfl (lv_at hl 1 rfl) ?_
        refine lv_if_eq (tgt := 34) S.1 S.2.1 dX10_commonDivisor_15 (by decide) (fun c_3 => ?_) (fun c_3 => ?_)
        · replace hV := hV.trans (if_pos c_3)
          have gc_3 : (x3_1).toInt = 0 := xq_eq c_3 rfl rfl
          refine lv_iload_n S.1 S.2.1 dX10_commonDivisor_34 rfl (lv_at hl 0 rfl) ?_
          refine lv_iconst (v := 1) S.1 S.2.1 dX10_commonDivisor_35 (by decide) ?_
          refine xmax S hl.1 mlX10_280 mmax_st math_in mmax_cd ⟨Nat.le_of_ble_eq_true rfl, Nat.le_of_ble_eq_true rfl, Nat.zero_le _, Nat.zero_le _⟩ dX10_commonDivisor_36 ?_
          exact yri S hr hlk hw hV dX10_commonDivisor_39
        · replace hV := hV.trans (if_neg c_3)
          have gc_3 : ¬ (x3_1).toInt = 0 := xq_ne c_3 rfl rfl
          refine lv_iload_n S.1 S.2.1 dX10_commonDivisor_18 rfl (lv_at hl 0 rfl) ?_
          refine lv_iload_n S.1 S.2.1 dX10_commonDivisor_19 rfl (lv_at hl 1 rfl) ?_
          refine lv_irem S.1 S.2.1 dX10_commonDivisor_20 (fun z => by have : (x3_1).toInt = 0 := xq_eq z rfl rfl; omega) ?_
          refine lv_istore (lv' := [(5, .int (x2_1 - x2_1 / x3_1 * x3_1)), (2, .int x2_1), (3, .int x3_1), (4, .int x4_1)]) S.1 S.2.1 dX10_commonDivisor_21 hl (by decide) rfl (fun ls hl => ?_)
          refine lv_iload_n S.1 S.2.1 dX10_commonDivisor_23 rfl (lv_at hl 2 rfl) ?_
          refine lv_istore_n (lv' := [(2, .int x3_1), (5, .int (x2_1 - x2_1 / x3_1 * x3_1)), (3, .int x3_1), (4, .int x4_1)]) S.1 S.2.1 dX10_commonDivisor_24 rfl hl (by decide) rfl (fun ls hl => ?_)
          refine lv_iload S.1 S.2.1 dX10_commonDivisor_25 (lv_at hl 1 rfl) ?_
          refine lv_istore_n (lv' := [(3, .int (x2_1 - x2_1 / x3_1 * x3_1)), (2, .int x3_1), (5, .int (x2_1 - x2_1 / x3_1 * x3_1)), (4, .int x4_1)]) S.1 S.2.1 dX10_commonDivisor_27 rfl hl (by decide) rfl (fun ls hl => ?_)
          refine lv_iinc (v := (x4_1 + (1 : Int32))) (lv' := [(4, .int (x4_1 + (1 : Int32))), (3, .int (x2_1 - x2_1 / x3_1 * x3_1)), (2, .int x3_1), (5, .int (x2_1 - x2_1 / x3_1 * x3_1))]) S.1 S.2.1 dX10_commonDivisor_28 hl (k := 3) rfl rfl (by decide) rfl (fun ls hl => ?_)
          refine lv_goto (tgt := 7) S.1 S.2.1 dX10_commonDivisor_31 (by decide) ?_
          have e_4 : ∀ _ : Unit, ((x4_1 + (1 : Int32))).toInt = (x4_1).toInt + 1 := fun _ => xadd rfl rfl (by omega) (by omega)
          exact ih_1 x3_1 (x2_1 - x2_1 / x3_1 * x3_1) (x4_1 + (1 : Int32)) _ _ _ (show 0 ≤ ((x4_1 + (1 : Int32))).toInt from by rw [(e_4 ())]; omega) (show 64 - ((x4_1 + (1 : Int32))).toInt < (n_1 : Int) ∧ 1 ≤ n_1 from by rw [(e_4 ())]; omega) (lv_sub hl [2, 1, 0] rfl) hw hV
  exact lp_1 65 p2 p1 (0 : Int32) _ _ _ (show 0 ≤ 0 from by omega) (show 64 - 0 < ((65 : Nat) : Int) ∧ 1 ≤ (65 : Nat) from by omega) (lv_sub hl [2, 1, 0] rfl) hw hV
def j_bitCount (p1 : Int32) : Int32 :=
    let t_1 := (p1 - ((((p1).toUInt32 >>> (((1 : Int32)).toUInt32 &&& Int32.toUInt32 31)).toInt32) &&& (1431655765 : Int32)))
    let t_2 := ((t_1 &&& (858993459 : Int32)) + ((((t_1).toUInt32 >>> (((2 : Int32)).toUInt32 &&& Int32.toUInt32 31)).toInt32) &&& (858993459 : Int32)))
    let t_3 := ((t_2 + (((t_2).toUInt32 >>> (((4 : Int32)).toUInt32 &&& Int32.toUInt32 31)).toInt32)) &&& (252645135 : Int32))
    let t_4 := (t_3 + (((t_3).toUInt32 >>> (((8 : Int32)).toUInt32 &&& Int32.toUInt32 31)).toInt32))
    let t_5 := (t_4 + (((t_4).toUInt32 >>> (((16 : Int32)).toUInt32 &&& Int32.toUInt32 31)).toInt32))
    (t_5 &&& (63 : Int32))
set_option maxHeartbeats 4000000 in
set_option maxRecDepth 100000 in
theorem c_j_bitCount (l : Launch) (p1 : Int32) : xP l yJ6_bitCount_0f7a4 cJ6_bitCount_0f7a4 1 (some .int) (xRm 0 0) [.int p1] ((j_bitCount p1)) := by
  suffices h : ∀ V, V = j_bitCount p1 → xP l yJ6_bitCount_0f7a4 cJ6_bitCount_0f7a4 1 (some .int) (xRm 0 0) [.int p1] (V) from h _ rfl
  intro V hV
  refine xofP RJ6 rfl (by decide) (Nat.le_of_ble_eq_true rfl) ?_
  intro p e s m args below meth c ls H locs S hr hlk hl hw
  have hl : lv_has ls 1 [(0, .int p1)] := hl
  refine lv_iload_n S.1 S.2.1 dJ6_bitCount_0f7a4_0 rfl (lv_at hl 0 rfl) ?_
  refine lv_iload_n S.1 S.2.1 dJ6_bitCount_0f7a4_1 rfl (lv_at hl 0 rfl) ?_
  refine lv_iconst (v := 1) S.1 S.2.1 dJ6_bitCount_0f7a4_2 (by decide) ?_
  refine lv_iushr (v := ((p1).toUInt32 >>> (((1 : Int32)).toUInt32 &&& Int32.toUInt32 31)).toInt32) S.1 S.2.1 dJ6_bitCount_0f7a4_3 rfl ?_
  refine lv_ldcw (v := 1431655765) S.1 S.2.1 S.2.2.2.1 (S.2.2.2.2 _ kcJ6_265) dJ6_bitCount_0f7a4_4 ?_
  refine lv_iand S.1 S.2.1 dJ6_bitCount_0f7a4_7 ?_
  refine lv_isub S.1 S.2.1 dJ6_bitCount_0f7a4_8 ?_
  refine lv_istore_n (lv' := [(0, .int (p1 - ((((p1).toUInt32 >>> (((1 : Int32)).toUInt32 &&& Int32.toUInt32 31)).toInt32) &&& (1431655765 : Int32))))]) S.1 S.2.1 dJ6_bitCount_0f7a4_9 rfl hl (by decide) rfl (fun ls hl => ?_)
  refine lv_iload_n S.1 S.2.1 dJ6_bitCount_0f7a4_10 rfl (lv_at hl 0 rfl) ?_
  refine lv_ldcw (v := 858993459) S.1 S.2.1 S.2.2.2.1 (S.2.2.2.2 _ kcJ6_266) dJ6_bitCount_0f7a4_11 ?_
  refine lv_iand S.1 S.2.1 dJ6_bitCount_0f7a4_14 ?_
  refine lv_iload_n S.1 S.2.1 dJ6_bitCount_0f7a4_15 rfl (lv_at hl 0 rfl) ?_
  refine lv_iconst (v := 2) S.1 S.2.1 dJ6_bitCount_0f7a4_16 (by decide) ?_
  refine lv_iushr (v := (((p1 - ((((p1).toUInt32 >>> (((1 : Int32)).toUInt32 &&& Int32.toUInt32 31)).toInt32) &&& (1431655765 : Int32)))).toUInt32 >>> (((2 : Int32)).toUInt32 &&& Int32.toUInt32 31)).toInt32) S.1 S.2.1 dJ6_bitCount_0f7a4_17 rfl ?_
  refine lv_ldcw (v := 858993459) S.1 S.2.1 S.2.2.2.1 (S.2.2.2.2 _ kcJ6_266) dJ6_bitCount_0f7a4_18 ?_
  refine lv_iand S.1 S.2.1 dJ6_bitCount_0f7a4_21 ?_
  refine lv_iadd S.1 S.2.1 dJ6_bitCount_0f7a4_22 ?_
  refine lv_istore_n (lv' := [(0, .int (((p1 - ((((p1).toUInt32 >>> (((1 : Int32)).toUInt32 &&& Int32.toUInt32 31)).toInt32) &&& (1431655765 : Int32))) &&& (858993459 : Int32)) + (((((p1 - ((((p1).toUInt32 >>> (((1 : Int32)).toUInt32 &&& Int32.toUInt32 31)).toInt32) &&& (1431655765 : Int32)))).toUInt32 >>> (((2 : Int32)).toUInt32 &&& Int32.toUInt32 31)).toInt32) &&& (858993459 : Int32))))]) S.1 S.2.1 dJ6_bitCount_0f7a4_23 rfl hl (by decide) rfl (fun ls hl => ?_)
  refine lv_iload_n S.1 S.2.1 dJ6_bitCount_0f7a4_24 rfl (lv_at hl 0 rfl) ?_
  refine lv_iload_n S.1 S.2.1 dJ6_bitCount_0f7a4_25 rfl (lv_at hl 0 rfl) ?_
  refine lv_iconst (v := 4) S.1 S.2.1 dJ6_bitCount_0f7a4_26 (by decide) ?_
  refine lv_iushr (v := (((((p1 - ((((p1).toUInt32 >>> (((1 : Int32)).toUInt32 &&& Int32.toUInt32 31)).toInt32) &&& (1431655765 : Int32))) &&& (858993459 : Int32)) + (((((p1 - ((((p1).toUInt32 >>> (((1 : Int32)).toUInt32 &&& Int32.toUInt32 31)).toInt32) &&& (1431655765 : Int32)))).toUInt32 >>> (((2 : Int32)).toUInt32 &&& Int32.toUInt32 31)).toInt32) &&& (858993459 : Int32)))).toUInt32 >>> (((4 : Int32)).toUInt32 &&& Int32.toUInt32 31)).toInt32) S.1 S.2.1 dJ6_bitCount_0f7a4_27 rfl ?_
  refine lv_iadd S.1 S.2.1 dJ6_bitCount_0f7a4_28 ?_
  refine lv_ldcw (v := 252645135) S.1 S.2.1 S.2.2.2.1 (S.2.2.2.2 _ kcJ6_267) dJ6_bitCount_0f7a4_29 ?_
  refine lv_iand S.1 S.2.1 dJ6_bitCount_0f7a4_32 ?_
  refine lv_istore_n (lv' := [(0, .int (((((p1 - ((((p1).toUInt32 >>> (((1 : Int32)).toUInt32 &&& Int32.toUInt32 31)).toInt32) &&& (1431655765 : Int32))) &&& (858993459 : Int32)) + (((((p1 - ((((p1).toUInt32 >>> (((1 : Int32)).toUInt32 &&& Int32.toUInt32 31)).toInt32) &&& (1431655765 : Int32)))).toUInt32 >>> (((2 : Int32)).toUInt32 &&& Int32.toUInt32 31)).toInt32) &&& (858993459 : Int32))) + ((((((p1 - ((((p1).toUInt32 >>> (((1 : Int32)).toUInt32 &&& Int32.toUInt32 31)).toInt32) &&& (1431655765 : Int32))) &&& (858993459 : Int32)) + (((((p1 - ((((p1).toUInt32 >>> (((1 : Int32)).toUInt32 &&& Int32.toUInt32 31)).toInt32) &&& (1431655765 : Int32)))).toUInt32 >>> (((2 : Int32)).toUInt32 &&& Int32.toUInt32 31)).toInt32) &&& (858993459 : Int32)))).toUInt32 >>> (((4 : Int32)).toUInt32 &&& Int32.toUInt32 31)).toInt32)) &&& (252645135 : Int32)))]) S.1 S.2.1 dJ6_bitCount_0f7a4_33 rfl hl (by decide) rfl (fun ls hl => ?_)
  refine lv_iload_n S.1 S.2.1 dJ6_bitCount_0f7a4_34 rfl (lv_at hl 0 rfl) ?_
  refine lv_iload_n S.1 S.2.1 dJ6_bitCount_0f7a4_35 rfl (lv_at hl 0 rfl) ?_
  refine lv_bipush (v := 8) S.1 S.2.1 dJ6_bitCount_0f7a4_36 (by decide) ?_
  refine lv_iushr (v := (((((((p1 - ((((p1).toUInt32 >>> (((1 : Int32)).toUInt32 &&& Int32.toUInt32 31)).toInt32) &&& (1431655765 : Int32))) &&& (858993459 : Int32)) + (((((p1 - ((((p1).toUInt32 >>> (((1 : Int32)).toUInt32 &&& Int32.toUInt32 31)).toInt32) &&& (1431655765 : Int32)))).toUInt32 >>> (((2 : Int32)).toUInt32 &&& Int32.toUInt32 31)).toInt32) &&& (858993459 : Int32))) + ((((((p1 - ((((p1).toUInt32 >>> (((1 : Int32)).toUInt32 &&& Int32.toUInt32 31)).toInt32) &&& (1431655765 : Int32))) &&& (858993459 : Int32)) + (((((p1 - ((((p1).toUInt32 >>> (((1 : Int32)).toUInt32 &&& Int32.toUInt32 31)).toInt32) &&& (1431655765 : Int32)))).toUInt32 >>> (((2 : Int32)).toUInt32 &&& Int32.toUInt32 31)).toInt32) &&& (858993459 : Int32)))).toUInt32 >>> (((4 : Int32)).toUInt32 &&& Int32.toUInt32 31)).toInt32)) &&& (252645135 : Int32))).toUInt32 >>> (((8 : Int32)).toUInt32 &&& Int32.toUInt32 31)).toInt32) S.1 S.2.1 dJ6_bitCount_0f7a4_38 rfl ?_
  refine lv_iadd S.1 S.2.1 dJ6_bitCount_0f7a4_39 ?_
  refine lv_istore_n (lv' := [(0, .int ((((((p1 - ((((p1).toUInt32 >>> (((1 : Int32)).toUInt32 &&& Int32.toUInt32 31)).toInt32) &&& (1431655765 : Int32))) &&& (858993459 : Int32)) + (((((p1 - ((((p1).toUInt32 >>> (((1 : Int32)).toUInt32 &&& Int32.toUInt32 31)).toInt32) &&& (1431655765 : Int32)))).toUInt32 >>> (((2 : Int32)).toUInt32 &&& Int32.toUInt32 31)).toInt32) &&& (858993459 : Int32))) + ((((((p1 - ((((p1).toUInt32 >>> (((1 : Int32)).toUInt32 &&& Int32.toUInt32 31)).toInt32) &&& (1431655765 : Int32))) &&& (858993459 : Int32)) + (((((p1 - ((((p1).toUInt32 >>> (((1 : Int32)).toUInt32 &&& Int32.toUInt32 31)).toInt32) &&& (1431655765 : Int32)))).toUInt32 >>> (((2 : Int32)).toUInt32 &&& Int32.toUInt32 31)).toInt32) &&& (858993459 : Int32)))).toUInt32 >>> (((4 : Int32)).toUInt32 &&& Int32.toUInt32 31)).toInt32)) &&& (252645135 : Int32)) + ((((((((p1 - ((((p1).toUInt32 >>> (((1 : Int32)).toUInt32 &&& Int32.toUInt32 31)).toInt32) &&& (1431655765 : Int32))) &&& (858993459 : Int32)) + (((((p1 - ((((p1).toUInt32 >>> (((1 : Int32)).toUInt32 &&& Int32.toUInt32 31)).toInt32) &&& (1431655765 : Int32)))).toUInt32 >>> (((2 : Int32)).toUInt32 &&& Int32.toUInt32 31)).toInt32) &&& (858993459 : Int32))) + ((((((p1 - ((((p1).toUInt32 >>> (((1 : Int32)).toUInt32 &&& Int32.toUInt32 31)).toInt32) &&& (1431655765 : Int32))) &&& (858993459 : Int32)) + (((((p1 - ((((p1).toUInt32 >>> (((1 : Int32)).toUInt32 &&& Int32.toUInt32 31)).toInt32) &&& (1431655765 : Int32)))).toUInt32 >>> (((2 : Int32)).toUInt32 &&& Int32.toUInt32 31)).toInt32) &&& (858993459 : Int32)))).toUInt32 >>> (((4 : Int32)).toUInt32 &&& Int32.toUInt32 31)).toInt32)) &&& (252645135 : Int32))).toUInt32 >>> (((8 : Int32)).toUInt32 &&& Int32.toUInt32 31)).toInt32)))]) S.1 S.2.1 dJ6_bitCount_0f7a4_40 rfl hl (by decide) rfl (fun ls hl => ?_)
  refine lv_iload_n S.1 S.2.1 dJ6_bitCount_0f7a4_41 rfl (lv_at hl 0 rfl) ?_
  refine lv_iload_n S.1 S.2.1 dJ6_bitCount_0f7a4_42 rfl (lv_at hl 0 rfl) ?_
  refine lv_bipush (v := 16) S.1 S.2.1 dJ6_bitCount_0f7a4_43 (by decide) ?_
  refine lv_iushr (v := ((((((((p1 - ((((p1).toUInt32 >>> (((1 : Int32)).toUInt32 &&& Int32.toUInt32 31)).toInt32) &&& (1431655765 : Int32))) &&& (858993459 : Int32)) + (((((p1 - ((((p1).toUInt32 >>> (((1 : Int32)).toUInt32 &&& Int32.toUInt32 31)).toInt32) &&& (1431655765 : Int32)))).toUInt32 >>> (((2 : Int32)).toUInt32 &&& Int32.toUInt32 31)).toInt32) &&& (858993459 : Int32))) + ((((((p1 - ((((p1).toUInt32 >>> (((1 : Int32)).toUInt32 &&& Int32.toUInt32 31)).toInt32) &&& (1431655765 : Int32))) &&& (858993459 : Int32)) + (((((p1 - ((((p1).toUInt32 >>> (((1 : Int32)).toUInt32 &&& Int32.toUInt32 31)).toInt32) &&& (1431655765 : Int32)))).toUInt32 >>> (((2 : Int32)).toUInt32 &&& Int32.toUInt32 31)).toInt32) &&& (858993459 : Int32)))).toUInt32 >>> (((4 : Int32)).toUInt32 &&& Int32.toUInt32 31)).toInt32)) &&& (252645135 : Int32)) + ((((((((p1 - ((((p1).toUInt32 >>> (((1 : Int32)).toUInt32 &&& Int32.toUInt32 31)).toInt32) &&& (1431655765 : Int32))) &&& (858993459 : Int32)) + (((((p1 - ((((p1).toUInt32 >>> (((1 : Int32)).toUInt32 &&& Int32.toUInt32 31)).toInt32) &&& (1431655765 : Int32)))).toUInt32 >>> (((2 : Int32)).toUInt32 &&& Int32.toUInt32 31)).toInt32) &&& (858993459 : Int32))) + ((((((p1 - ((((p1).toUInt32 >>> (((1 : Int32)).toUInt32 &&& Int32.toUInt32 31)).toInt32) &&& (1431655765 : Int32))) &&& (858993459 : Int32)) + (((((p1 - ((((p1).toUInt32 >>> (((1 : Int32)).toUInt32 &&& Int32.toUInt32 31)).toInt32) &&& (1431655765 : Int32)))).toUInt32 >>> (((2 : Int32)).toUInt32 &&& Int32.toUInt32 31)).toInt32) &&& (858993459 : Int32)))).toUInt32 >>> (((4 : Int32)).toUInt32 &&& Int32.toUInt32 31)).toInt32)) &&& (252645135 : Int32))).toUInt32 >>> (((8 : Int32)).toUInt32 &&& Int32.toUInt32 31)).toInt32))).toUInt32 >>> (((16 : Int32)).toUInt32 &&& Int32.toUInt32 31)).toInt32) S.1 S.2.1 dJ6_bitCount_0f7a4_45 rfl ?_
  refine lv_iadd S.1 S.2.1 dJ6_bitCount_0f7a4_46 ?_
  refine lv_istore_n (lv' := [(0, .int (((((((p1 - ((((p1).toUInt32 >>> (((1 : Int32)).toUInt32 &&& Int32.toUInt32 31)).toInt32) &&& (1431655765 : Int32))) &&& (858993459 : Int32)) + (((((p1 - ((((p1).toUInt32 >>> (((1 : Int32)).toUInt32 &&& Int32.toUInt32 31)).toInt32) &&& (1431655765 : Int32)))).toUInt32 >>> (((2 : Int32)).toUInt32 &&& Int32.toUInt32 31)).toInt32) &&& (858993459 : Int32))) + ((((((p1 - ((((p1).toUInt32 >>> (((1 : Int32)).toUInt32 &&& Int32.toUInt32 31)).toInt32) &&& (1431655765 : Int32))) &&& (858993459 : Int32)) + (((((p1 - ((((p1).toUInt32 >>> (((1 : Int32)).toUInt32 &&& Int32.toUInt32 31)).toInt32) &&& (1431655765 : Int32)))).toUInt32 >>> (((2 : Int32)).toUInt32 &&& Int32.toUInt32 31)).toInt32) &&& (858993459 : Int32)))).toUInt32 >>> (((4 : Int32)).toUInt32 &&& Int32.toUInt32 31)).toInt32)) &&& (252645135 : Int32)) + ((((((((p1 - ((((p1).toUInt32 >>> (((1 : Int32)).toUInt32 &&& Int32.toUInt32 31)).toInt32) &&& (1431655765 : Int32))) &&& (858993459 : Int32)) + (((((p1 - ((((p1).toUInt32 >>> (((1 : Int32)).toUInt32 &&& Int32.toUInt32 31)).toInt32) &&& (1431655765 : Int32)))).toUInt32 >>> (((2 : Int32)).toUInt32 &&& Int32.toUInt32 31)).toInt32) &&& (858993459 : Int32))) + ((((((p1 - ((((p1).toUInt32 >>> (((1 : Int32)).toUInt32 &&& Int32.toUInt32 31)).toInt32) &&& (1431655765 : Int32))) &&& (858993459 : Int32)) + (((((p1 - ((((p1).toUInt32 >>> (((1 : Int32)).toUInt32 &&& Int32.toUInt32 31)).toInt32) &&& (1431655765 : Int32)))).toUInt32 >>> (((2 : Int32)).toUInt32 &&& Int32.toUInt32 31)).toInt32) &&& (858993459 : Int32)))).toUInt32 >>> (((4 : Int32)).toUInt32 &&& Int32.toUInt32 31)).toInt32)) &&& (252645135 : Int32))).toUInt32 >>> (((8 : Int32)).toUInt32 &&& Int32.toUInt32 31)).toInt32)) + (((((((((p1 - ((((p1).toUInt32 >>> (((1 : Int32)).toUInt32 &&& Int32.toUInt32 31)).toInt32) &&& (1431655765 : Int32))) &&& (858993459 : Int32)) + (((((p1 - ((((p1).toUInt32 >>> (((1 : Int32)).toUInt32 &&& Int32.toUInt32 31)).toInt32) &&& (1431655765 : Int32)))).toUInt32 >>> (((2 : Int32)).toUInt32 &&& Int32.toUInt32 31)).toInt32) &&& (858993459 : Int32))) + ((((((p1 - ((((p1).toUInt32 >>> (((1 : Int32)).toUInt32 &&& Int32.toUInt32 31)).toInt32) &&& (1431655765 : Int32))) &&& (858993459 : Int32)) + (((((p1 - ((((p1).toUInt32 >>> (((1 : Int32)).toUInt32 &&& Int32.toUInt32 31)).toInt32) &&& (1431655765 : Int32)))).toUInt32 >>> (((2 : Int32)).toUInt32 &&& Int32.toUInt32 31)).toInt32) &&& (858993459 : Int32)))).toUInt32 >>> (((4 : Int32)).toUInt32 &&& Int32.toUInt32 31)).toInt32)) &&& (252645135 : Int32)) + ((((((((p1 - ((((p1).toUInt32 >>> (((1 : Int32)).toUInt32 &&& Int32.toUInt32 31)).toInt32) &&& (1431655765 : Int32))) &&& (858993459 : Int32)) + (((((p1 - ((((p1).toUInt32 >>> (((1 : Int32)).toUInt32 &&& Int32.toUInt32 31)).toInt32) &&& (1431655765 : Int32)))).toUInt32 >>> (((2 : Int32)).toUInt32 &&& Int32.toUInt32 31)).toInt32) &&& (858993459 : Int32))) + ((((((p1 - ((((p1).toUInt32 >>> (((1 : Int32)).toUInt32 &&& Int32.toUInt32 31)).toInt32) &&& (1431655765 : Int32))) &&& (858993459 : Int32)) + (((((p1 - ((((p1).toUInt32 >>> (((1 : Int32)).toUInt32 &&& Int32.toUInt32 31)).toInt32) &&& (1431655765 : Int32)))).toUInt32 >>> (((2 : Int32)).toUInt32 &&& Int32.toUInt32 31)).toInt32) &&& (858993459 : Int32)))).toUInt32 >>> (((4 : Int32)).toUInt32 &&& Int32.toUInt32 31)).toInt32)) &&& (252645135 : Int32))).toUInt32 >>> (((8 : Int32)).toUInt32 &&& Int32.toUInt32 31)).toInt32))).toUInt32 >>> (((16 : Int32)).toUInt32 &&& Int32.toUInt32 31)).toInt32)))]) S.1 S.2.1 dJ6_bitCount_0f7a4_47 rfl hl (by decide) rfl (fun ls hl => ?_)
  refine lv_iload_n S.1 S.2.1 dJ6_bitCount_0f7a4_48 rfl (lv_at hl 0 rfl) ?_
  refine lv_bipush (v := 63) S.1 S.2.1 dJ6_bitCount_0f7a4_49 (by decide) ?_
  refine lv_iand S.1 S.2.1 dJ6_bitCount_0f7a4_51 ?_
  exact yri S hr hlk hw hV dJ6_bitCount_0f7a4_52
def m_in (p1 : Int32) (p2 : Int32) (p3 : Int32) : Bool :=
    (if p1 < p2 then
    false
    else
    (if p3 < p1 then
    false
    else
    true))
set_option maxHeartbeats 4000000 in
set_option maxRecDepth 100000 in
theorem c_m_in (l : Launch) (p1 : Int32) (p2 : Int32) (p3 : Int32) : xP l yX11_in cX11_in 3 (some .boolean) (xRm 0 0) [.int p1, .int p2, .int p3] (b2i (m_in p1 p2 p3)) := by
  suffices h : ∀ V, V = m_in p1 p2 p3 → xP l yX11_in cX11_in 3 (some .boolean) (xRm 0 0) [.int p1, .int p2, .int p3] (b2i V) from h _ rfl
  intro V hV
  refine xofP RX11 rfl (by decide) (Nat.le_of_ble_eq_true rfl) ?_
  intro p e s m args below meth c ls H locs S hr hlk hl hw
  have hl : lv_has ls 3 [(0, .int p1), (1, .int p2), (2, .int p3)] := hl
  refine lv_iload_n S.1 S.2.1 dX11_in_0 rfl (lv_at hl 0 rfl) ?_
  refine lv_iload_n S.1 S.2.1 dX11_in_1 rfl (lv_at hl 1 rfl) ?_
  refine lv_icmp_lt (tgt := 14) S.1 S.2.1 dX11_in_2 (by decide) (fun c_1 => ?_) (fun c_1 => ?_)
  · replace hV := hV.trans (if_pos c_1)
    have gc_1 : (p1).toInt < (p2).toInt := xq_lt c_1 rfl rfl
    refine lv_iconst (v := 0) S.1 S.2.1 dX11_in_14 (by decide) ?_
    exact yrz S hr hlk hw rfl (congrArg b2i hV) dX11_in_15
  · replace hV := hV.trans (if_neg c_1)
    have gc_1 : (p2).toInt ≤ (p1).toInt := xq_nlt c_1 rfl rfl
    refine lv_iload_n S.1 S.2.1 dX11_in_5 rfl (lv_at hl 0 rfl) ?_
    refine lv_iload_n S.1 S.2.1 dX11_in_6 rfl (lv_at hl 2 rfl) ?_
    refine lv_icmp_gt (tgt := 14) S.1 S.2.1 dX11_in_7 (by decide) (fun c_2 => ?_) (fun c_2 => ?_)
    · replace hV := hV.trans (if_pos c_2)
      have gc_2 : (p3).toInt < (p1).toInt := xq_lt c_2 rfl rfl
      refine lv_iconst (v := 0) S.1 S.2.1 dX11_in_14 (by decide) ?_
      exact yrz S hr hlk hw rfl (congrArg b2i hV) dX11_in_15
    · replace hV := hV.trans (if_neg c_2)
      have gc_2 : (p1).toInt ≤ (p3).toInt := xq_nlt c_2 rfl rfl
      refine lv_iconst (v := 1) S.1 S.2.1 dX11_in_10 (by decide) ?_
      refine lv_goto (tgt := 15) S.1 S.2.1 dX11_in_11 (by decide) ?_
      exact yrz S hr hlk hw rfl (congrArg b2i hV) dX11_in_15
def m_has (p1 : Int32) (p2 : Int32) : Bool :=
    (if ((p1 >>> (p2 &&& 31)) &&& (1 : Int32)) = (1 : Int32) then
    true
    else
    false)
set_option maxHeartbeats 4000000 in
set_option maxRecDepth 100000 in
theorem c_m_has (l : Launch) (p1 : Int32) (p2 : Int32) : xP l yX11_has cX11_has 2 (some .boolean) (xRm 0 0) [.int p1, .int p2] (b2i (m_has p1 p2)) := by
  suffices h : ∀ V, V = m_has p1 p2 → xP l yX11_has cX11_has 2 (some .boolean) (xRm 0 0) [.int p1, .int p2] (b2i V) from h _ rfl
  intro V hV
  refine xofP RX11 rfl (by decide) (Nat.le_of_ble_eq_true rfl) ?_
  intro p e s m args below meth c ls H locs S hr hlk hl hw
  have hl : lv_has ls 2 [(0, .int p1), (1, .int p2)] := hl
  refine lv_iload_n S.1 S.2.1 dX11_has_0 rfl (lv_at hl 0 rfl) ?_
  refine lv_iload_n S.1 S.2.1 dX11_has_1 rfl (lv_at hl 1 rfl) ?_
  refine lv_ishr S.1 S.2.1 dX11_has_2 ?_
  refine lv_iconst (v := 1) S.1 S.2.1 dX11_has_3 (by decide) ?_
  refine lv_iand S.1 S.2.1 dX11_has_4 ?_
  refine lv_iconst (v := 1) S.1 S.2.1 dX11_has_5 (by decide) ?_
  refine lv_icmp_ne (tgt := 13) S.1 S.2.1 dX11_has_6 (by decide) (fun c_1 => ?_) (fun c_1 => ?_)
  · replace hV := hV.trans (if_neg c_1)
    refine lv_iconst (v := 0) S.1 S.2.1 dX11_has_13 (by decide) ?_
    exact yrz S hr hlk hw rfl (congrArg b2i hV) dX11_has_14
  · replace hV := hV.trans (if_pos c_1)
    refine lv_iconst (v := 1) S.1 S.2.1 dX11_has_9 (by decide) ?_
    refine lv_goto (tgt := 14) S.1 S.2.1 dX11_has_10 (by decide) ?_
    exact yrz S hr hlk hw rfl (congrArg b2i hV) dX11_has_14
def m_bits_L4 (x0 : Int32) : Nat → Int32 → Int32 → Int32
  | 0, _, _ => 0
  | n + 1, x1, x2 =>
    (if (8 : Int32) ≤ x2 then
    x1
    else
    let t_3 := (x1 + ((x0 >>> (x2 &&& 31)) &&& (1 : Int32)))
    m_bits_L4 x0 n t_3 (x2 + (1 : Int32)))
def m_bits (p1 : Int32) : Int32 :=
    m_bits_L4 p1 9 (0 : Int32) (0 : Int32)
set_option maxHeartbeats 4000000 in
set_option maxRecDepth 100000 in
theorem c_m_bits (l : Launch) (p1 : Int32) : xP l yX11_bits cX11_bits 3 (some .int) (xRm 0 0) [.int p1] ((m_bits p1)) := by
  suffices h : ∀ V, V = m_bits p1 → xP l yX11_bits cX11_bits 3 (some .int) (xRm 0 0) [.int p1] (V) from h _ rfl
  intro V hV
  refine xofP RX11 rfl (by decide) (Nat.le_of_ble_eq_true rfl) ?_
  intro p e s m args below meth c ls H locs S hr hlk hl hw
  have hl : lv_has ls 3 [(0, .int p1)] := hl
  refine lv_iconst (v := 0) S.1 S.2.1 dX11_bits_0 (by decide) ?_
  refine lv_istore_n (lv' := [(1, .int (0 : Int32)), (0, .int p1)]) S.1 S.2.1 dX11_bits_1 rfl hl (by decide) rfl (fun ls hl => ?_)
  refine lv_iconst (v := 0) S.1 S.2.1 dX11_bits_2 (by decide) ?_
  refine lv_istore_n (lv' := [(2, .int (0 : Int32)), (1, .int (0 : Int32)), (0, .int p1)]) S.1 S.2.1 dX11_bits_3 rfl hl (by decide) rfl (fun ls hl => ?_)
  have lp_1 : ∀ (n_1 : Nat) (x1_1 : Int32) (x2_1 : Int32) (H : Heap) (locs : List Loc) (ls : Array Slot), (0 ≤ (x2_1).toInt) → (8 - (x2_1).toInt < (n_1 : Int) ∧ 1 ≤ n_1) → lv_has ls 3 [(0, .int p1), (1, .int x1_1), (2, .int x2_1)] → xw (fun _ => 0, fun _ _ => 0) (fun _ => []) (fun _ => False) s.heap H locs (fun _ _ => 0, 0) → V = m_bits_L4 p1 n_1 x1_1 x2_1 → W p l e (xRm 0 0) s m args below meth c H locs 0 0 (MQ below (va_Qi (fun r (_ : Unit) => r = V) (fun _ _ => True) (fun _ => False)) args s 0 0 (fun _ => False)) (F0 m 4 ls []) := by
    intro n_1
    induction n_1 with
    | zero => intro x1_1 x2_1 H locs ls i0_1 hn; exact absurd hn.2 (by decide)
    | succ n_1 ih_1 =>
      intro x1_1 x2_1 H locs ls i0_1 hn_1 hl hw hV
      refine lv_iload_n S.1 S.2.1 dX11_bits_4 rfl (lv_at hl 2 rfl) ?_
      refine lv_bipush (v := 8) S.1 S.2.1 dX11_bits_5 (by decide) ?_
      refine lv_icmp_ge (tgt := 24) S.1 S.2.1 dX11_bits_7 (by decide) (fun c_2 => ?_) (fun c_2 => ?_)
      · replace hV := hV.trans (if_pos c_2)
        have gc_2 : 8 ≤ (x2_1).toInt := xq_le c_2 rfl rfl
        refine lv_iload_n S.1 S.2.1 dX11_bits_24 rfl (lv_at hl 1 rfl) ?_
        exact yri S hr hlk hw hV dX11_bits_25
      · replace hV := hV.trans (if_neg c_2)
        have gc_2 : (x2_1).toInt < 8 := xq_nle c_2 rfl rfl
        refine lv_iload_n S.1 S.2.1 dX11_bits_10 rfl (lv_at hl 1 rfl) ?_
        refine lv_iload_n S.1 S.2.1 dX11_bits_11 rfl (lv_at hl 0 rfl) ?_
        refine lv_iload_n S.1 S.2.1 dX11_bits_12 rfl (lv_at hl 2 rfl) ?_
        refine lv_ishr S.1 S.2.1 dX11_bits_13 ?_
        refine lv_iconst (v := 1) S.1 S.2.1 dX11_bits_14 (by decide) ?_
        refine lv_iand S.1 S.2.1 dX11_bits_15 ?_
        refine lv_iadd S.1 S.2.1 dX11_bits_16 ?_
        refine lv_istore_n (lv' := [(1, .int (x1_1 + ((p1 >>> (x2_1 &&& 31)) &&& (1 : Int32)))), (0, .int p1), (2, .int x2_1)]) S.1 S.2.1 dX11_bits_17 rfl hl (by decide) rfl (fun ls hl => ?_)
        refine lv_iinc (v := (x2_1 + (1 : Int32))) (lv' := [(2, .int (x2_1 + (1 : Int32))), (1, .int (x1_1 + ((p1 >>> (x2_1 &&& 31)) &&& (1 : Int32)))), (0, .int p1)]) S.1 S.2.1 dX11_bits_18 hl (k := 2) rfl rfl (by decide) rfl (fun ls hl => ?_)
        refine lv_goto (tgt := 4) S.1 S.2.1 dX11_bits_21 (by decide) ?_
        have e_4 : ∀ _ : Unit, ((x2_1 + (1 : Int32))).toInt = (x2_1).toInt + 1 := fun _ => xadd rfl rfl (by omega) (by omega)
        exact ih_1 (x1_1 + ((p1 >>> (x2_1 &&& 31)) &&& (1 : Int32))) (x2_1 + (1 : Int32)) _ _ _ (show 0 ≤ ((x2_1 + (1 : Int32))).toInt from by rw [(e_4 ())]; omega) (show 8 - ((x2_1 + (1 : Int32))).toInt < (n_1 : Int) ∧ 1 ≤ n_1 from by rw [(e_4 ())]; omega) (lv_sub hl [2, 1, 0] rfl) hw hV
  exact lp_1 9 (0 : Int32) (0 : Int32) _ _ _ (show 0 ≤ 0 from by omega) (show 8 - 0 < ((9 : Nat) : Int) ∧ 1 ≤ (9 : Nat) from by omega) (lv_sub hl [2, 1, 0] rfl) hw hV
def m_isFigure (p1 : Int32) : Bool :=
    (m_in p1 (48 : Int32) (57 : Int32))
set_option maxHeartbeats 4000000 in
set_option maxRecDepth 100000 in
theorem c_m_isFigure (l : Launch) (p1 : Int32) : xP l yX11_isFigure cX11_isFigure 1 (some .boolean) (xRm 1 22) [.int p1] (b2i (m_isFigure p1)) := by
  suffices h : ∀ V, V = m_isFigure p1 → xP l yX11_isFigure cX11_isFigure 1 (some .boolean) (xRm 1 22) [.int p1] (b2i V) from h _ rfl
  intro V hV
  refine xofP RX11 rfl (by decide) (Nat.le_of_ble_eq_true rfl) ?_
  intro p e s m args below meth c ls H locs S hr hlk hl hw
  have hl : lv_has ls 1 [(0, .int p1)] := hl
  refine lv_iload_n S.1 S.2.1 dX11_isFigure_0 rfl (lv_at hl 0 rfl) ?_
  refine lv_bipush (v := 48) S.1 S.2.1 dX11_isFigure_1 (by decide) ?_
  refine lv_bipush (v := 57) S.1 S.2.1 dX11_isFigure_3 (by decide) ?_
  refine xcP (rest := []) S hw yfX11_in (c_m_in l p1 (48 : Int32) (57 : Int32)) mlX11_72 rfl rfl hl.1 ⟨rfl, rfl, Nat.le_of_ble_eq_true rfl, Nat.le_of_ble_eq_true rfl, Nat.le_of_ble_eq_true rfl, Nat.zero_le _, Nat.zero_le _⟩ dX11_isFigure_5 (fun H locs hw => ?_)
  exact yrz S hr hlk hw (b2i_z _) (congrArg b2i hV) dX11_isFigure_8
def m_isLetter (p1 : Int32) : Bool :=
    (m_in p1 (97 : Int32) (122 : Int32))
set_option maxHeartbeats 4000000 in
set_option maxRecDepth 100000 in
theorem c_m_isLetter (l : Launch) (p1 : Int32) : xP l yX11_isLetter cX11_isLetter 1 (some .boolean) (xRm 1 22) [.int p1] (b2i (m_isLetter p1)) := by
  suffices h : ∀ V, V = m_isLetter p1 → xP l yX11_isLetter cX11_isLetter 1 (some .boolean) (xRm 1 22) [.int p1] (b2i V) from h _ rfl
  intro V hV
  refine xofP RX11 rfl (by decide) (Nat.le_of_ble_eq_true rfl) ?_
  intro p e s m args below meth c ls H locs S hr hlk hl hw
  have hl : lv_has ls 1 [(0, .int p1)] := hl
  refine lv_iload_n S.1 S.2.1 dX11_isLetter_0 rfl (lv_at hl 0 rfl) ?_
  refine lv_bipush (v := 97) S.1 S.2.1 dX11_isLetter_1 (by decide) ?_
  refine lv_bipush (v := 122) S.1 S.2.1 dX11_isLetter_3 (by decide) ?_
  refine xcP (rest := []) S hw yfX11_in (c_m_in l p1 (97 : Int32) (122 : Int32)) mlX11_72 rfl rfl hl.1 ⟨rfl, rfl, Nat.le_of_ble_eq_true rfl, Nat.le_of_ble_eq_true rfl, Nat.le_of_ble_eq_true rfl, Nat.zero_le _, Nat.zero_le _⟩ dX11_isLetter_5 (fun H locs hw => ?_)
  exact yrz S hr hlk hw (b2i_z _) (congrArg b2i hV) dX11_isLetter_8
def m_kth_L4 (x0 : Int32) : Nat → Int32 → Int32 → Int32
  | 0, _, _ => 0
  | n + 1, x2, x3 =>
    (if (8 : Int32) ≤ x3 then
    (-9 : Int32)
    else
    (if (b2i (m_has x0 x3)) = (0 : Int32) then
    m_kth_L4 x0 n x2 (x3 + (1 : Int32))
    else
    (if x2 = (0 : Int32) then
    x3
    else
    m_kth_L4 x0 n (x2 + (-1 : Int32)) (x3 + (1 : Int32)))))
def m_kth (p1 : Int32) (p2 : Int32) : Int32 :=
    m_kth_L4 p1 9 p2 (0 : Int32)
set_option maxHeartbeats 4000000 in
set_option maxRecDepth 100000 in
theorem c_m_kth (l : Launch) (p1 : Int32) (p2 : Int32) : xP l yX11_kth cX11_kth 4 (some .int) (xRm 1 21) [.int p1, .int p2] ((m_kth p1 p2)) := by
  suffices h : ∀ V, V = m_kth p1 p2 → xP l yX11_kth cX11_kth 4 (some .int) (xRm 1 21) [.int p1, .int p2] (V) from h _ rfl
  intro V hV
  refine xofP RX11 rfl (by decide) (Nat.le_of_ble_eq_true rfl) ?_
  intro p e s m args below meth c ls H locs S hr hlk hl hw
  have hl : lv_has ls 4 [(0, .int p1), (1, .int p2)] := hl
  refine lv_iload_n S.1 S.2.1 dX11_kth_0 rfl (lv_at hl 1 rfl) ?_
  refine lv_istore_n (lv' := [(2, .int p2), (0, .int p1), (1, .int p2)]) S.1 S.2.1 dX11_kth_1 rfl hl (by decide) rfl (fun ls hl => ?_)
  refine lv_iconst (v := 0) S.1 S.2.1 dX11_kth_2 (by decide) ?_
  refine lv_istore_n (lv' := [(3, .int (0 : Int32)), (2, .int p2), (0, .int p1), (1, .int p2)]) S.1 S.2.1 dX11_kth_3 rfl hl (by decide) rfl (fun ls hl => ?_)
  have lp_1 : ∀ (n_1 : Nat) (x2_1 : Int32) (x3_1 : Int32) (H : Heap) (locs : List Loc) (ls : Array Slot), (0 ≤ (x3_1).toInt) → (8 - (x3_1).toInt < (n_1 : Int) ∧ 1 ≤ n_1) → lv_has ls 4 [(0, .int p1), (2, .int x2_1), (3, .int x3_1)] → xw (fun _ => 0, fun _ _ => 0) (fun _ => []) (fun _ => False) s.heap H locs (fun _ _ => 0, 0) → V = m_kth_L4 p1 n_1 x2_1 x3_1 → W p l e (xRm 1 21) s m args below meth c H locs 0 0 (MQ below (va_Qi (fun r (_ : Unit) => r = V) (fun _ _ => True) (fun _ => False)) args s 0 0 (fun _ => False)) (F0 m 4 ls []) := by
    intro n_1
    induction n_1 with
    | zero => intro x2_1 x3_1 H locs ls i0_1 hn; exact absurd hn.2 (by decide)
    | succ n_1 ih_1 =>
      intro x2_1 x3_1 H locs ls i0_1 hn_1 hl hw hV
      refine lv_iload_n S.1 S.2.1 dX11_kth_4 rfl (lv_at hl 2 rfl) ?_
      refine lv_bipush (v := 8) S.1 S.2.1 dX11_kth_5 (by decide) ?_
      refine lv_icmp_ge (tgt := 33) S.1 S.2.1 dX11_kth_7 (by decide) (fun c_2 => ?_) (fun c_2 => ?_)
      · replace hV := hV.trans (if_pos c_2)
        have gc_2 : 8 ≤ (x3_1).toInt := xq_le c_2 rfl rfl
        refine lv_bipush (v := -9) S.1 S.2.1 dX11_kth_33 (by decide) ?_
        exact yri S hr hlk hw hV dX11_kth_35
      · replace hV := hV.trans (if_neg c_2)
        have gc_2 : (x3_1).toInt < 8 := xq_nle c_2 rfl rfl
        refine lv_iload_n S.1 S.2.1 dX11_kth_10 rfl (lv_at hl 0 rfl) ?_
        refine lv_iload_n S.1 S.2.1 dX11_kth_11 rfl (lv_at hl 2 rfl) ?_
        refine xcP (rest := []) S hw yfX11_has (c_m_has l p1 x3_1) mlX11_140 rfl rfl hl.1 ⟨rfl, rfl, Nat.le_of_ble_eq_true rfl, Nat.le_of_ble_eq_true rfl, Nat.le_of_ble_eq_true rfl, Nat.zero_le _, Nat.zero_le _⟩ dX11_kth_12 (fun H locs hw => ?_)
        refine lv_if_eq (tgt := 27) S.1 S.2.1 dX11_kth_15 (by decide) (fun c_3 => ?_) (fun c_3 => ?_)
        · replace hV := hV.trans (if_pos c_3)
          have gc_3 : ((b2i (m_has p1 x3_1))).toInt = 0 := xq_eq c_3 rfl rfl
          refine lv_iinc (v := (x3_1 + (1 : Int32))) (lv' := [(3, .int (x3_1 + (1 : Int32))), (0, .int p1), (2, .int x2_1)]) S.1 S.2.1 dX11_kth_27 hl (k := 2) rfl rfl (by decide) rfl (fun ls hl => ?_)
          refine lv_goto (tgt := 4) S.1 S.2.1 dX11_kth_30 (by decide) ?_
          have e_4 : ∀ _ : Unit, ((x3_1 + (1 : Int32))).toInt = (x3_1).toInt + 1 := fun _ => xadd rfl rfl (by omega) (by omega)
          exact ih_1 x2_1 (x3_1 + (1 : Int32)) _ _ _ (show 0 ≤ ((x3_1 + (1 : Int32))).toInt from by rw [(e_4 ())]; omega) (show 8 - ((x3_1 + (1 : Int32))).toInt < (n_1 : Int) ∧ 1 ≤ n_1 from by rw [(e_4 ())]; omega) (lv_sub hl [1, 2, 0] rfl) hw hV
        · replace hV := hV.trans (if_neg c_3)
          have gc_3 : ¬ ((b2i (m_has p1 x3_1))).toInt = 0 := xq_ne c_3 rfl rfl
          refine lv_iload_n S.1 S.2.1 dX11_kth_18 rfl (lv_at hl 1 rfl) ?_
          refine lv_if_ne (tgt := 24) S.1 S.2.1 dX11_kth_19 (by decide) (fun c_5 => ?_) (fun c_5 => ?_)
          · replace hV := hV.trans (if_neg c_5)
            have gc_5 : ¬ (x2_1).toInt = 0 := xq_ne c_5 rfl rfl
            refine lv_iinc (v := (x2_1 + (-1 : Int32))) (lv' := [(2, .int (x2_1 + (-1 : Int32))), (0, .int p1), (3, .int x3_1)]) S.1 S.2.1 dX11_kth_24 hl (k := 1) rfl rfl (by decide) rfl (fun ls hl => ?_)
            refine lv_iinc (v := (x3_1 + (1 : Int32))) (lv' := [(3, .int (x3_1 + (1 : Int32))), (2, .int (x2_1 + (-1 : Int32))), (0, .int p1)]) S.1 S.2.1 dX11_kth_27 hl (k := 2) rfl rfl (by decide) rfl (fun ls hl => ?_)
            refine lv_goto (tgt := 4) S.1 S.2.1 dX11_kth_30 (by decide) ?_
            have e_6 : ∀ _ : Unit, ((x3_1 + (1 : Int32))).toInt = (x3_1).toInt + 1 := fun _ => xadd rfl rfl (by omega) (by omega)
            exact ih_1 (x2_1 + (-1 : Int32)) (x3_1 + (1 : Int32)) _ _ _ (show 0 ≤ ((x3_1 + (1 : Int32))).toInt from by rw [(e_6 ())]; omega) (show 8 - ((x3_1 + (1 : Int32))).toInt < (n_1 : Int) ∧ 1 ≤ n_1 from by rw [(e_6 ())]; omega) (lv_sub hl [2, 1, 0] rfl) hw hV
          · replace hV := hV.trans (if_pos c_5)
            have gc_5 : (x2_1).toInt = 0 := xq_eq c_5 rfl rfl
            refine lv_iload_n S.1 S.2.1 dX11_kth_22 rfl (lv_at hl 2 rfl) ?_
            exact yri S hr hlk hw hV dX11_kth_23
  exact lp_1 9 p2 (0 : Int32) _ _ _ (show 0 ≤ 0 from by omega) (show 8 - 0 < ((9 : Nat) : Int) ∧ 1 ≤ (9 : Nat) from by omega) (lv_sub hl [2, 1, 0] rfl) hw hV
def m_lowest_L5 (x0 : Int32) (x1 : Int32) (x2 : Int32) : Nat → Int32 → Int32 → Int32
  | 0, _, _ => 0
  | n + 1, x3, x4 =>
    (if x4 ≤ (0 : Int32) then
    (if x2 = (0 : Int32) then
    (x0 / x3)
    else
    (x1 / x3))
    else
    m_lowest_L5 x0 x1 x2 n x4 (x3 - x3 / x4 * x4))
def m_lowest (p1 : Int32) (p2 : Int32) (p3 : Int32) : Int32 :=
    m_lowest_L5 p1 p2 p3 (p2.toNatClampNeg + 1) p1 p2
set_option maxHeartbeats 4000000 in
set_option maxRecDepth 100000 in
theorem c_m_lowest (l : Launch) (p1 : Int32) (p2 : Int32) (p3 : Int32) (hp1 : 1 ≤ (p2).toInt ∧ (p2).toInt < 2147483648) : xP l yX11_lowest cX11_lowest 6 (some .int) (xRm 0 0) [.int p1, .int p2, .int p3] ((m_lowest p1 p2 p3)) := by
  suffices h : ∀ V, V = m_lowest p1 p2 p3 → xP l yX11_lowest cX11_lowest 6 (some .int) (xRm 0 0) [.int p1, .int p2, .int p3] (V) from h _ rfl
  intro V hV
  refine xofP RX11 rfl (by decide) (Nat.le_of_ble_eq_true rfl) ?_
  intro p e s m args below meth c ls H locs S hr hlk hl hw
  have hl : lv_has ls 6 [(0, .int p1), (1, .int p2), (2, .int p3)] := hl
  have kz : ((p2).toNatClampNeg : Int) = (p2).toInt := by show ((p2.toInt.toNat : Nat) : Int) = _; omega
  refine lv_iload_n S.1 S.2.1 dX11_lowest_0 rfl (lv_at hl 0 rfl) ?_
  refine lv_istore_n (lv' := [(3, .int p1), (0, .int p1), (1, .int p2), (2, .int p3)]) S.1 S.2.1 dX11_lowest_1 rfl hl (by decide) rfl (fun ls hl => ?_)
  refine lv_iload_n S.1 S.2.1 dX11_lowest_2 rfl (lv_at hl 2 rfl) ?_
  refine lv_istore (lv' := [(4, .int p2), (3, .int p1), (0, .int p1), (1, .int p2), (2, .int p3)]) S.1 S.2.1 dX11_lowest_3 hl (by decide) rfl (fun ls hl => ?_)
  have lp_1 : ∀ (n_1 : Nat) (x3_1 : Int32) (x4_1 : Int32) (H : Heap) (locs : List Loc) (ls : Array Slot), (((x3_1).toInt ≠ 0 ∨ 0 < (x4_1).toInt)) → ((x4_1).toInt < (n_1 : Int) ∧ 1 ≤ n_1) → lv_has ls 6 [(0, .int p1), (1, .int p2), (2, .int p3), (3, .int x3_1), (4, .int x4_1)] → xw (fun _ => 0, fun _ _ => 0) (fun _ => []) (fun _ => False) s.heap H locs (fun _ _ => 0, 0) → V = m_lowest_L5 p1 p2 p3 n_1 x3_1 x4_1 → W p l e (xRm 0 0) s m args below meth c H locs 0 0 (MQ below (va_Qi (fun r (_ : Unit) => r = V) (fun _ _ => True) (fun _ => False)) args s 0 0 (fun _ => False)) (F0 m 5 ls []) := by
    intro n_1
    induction n_1 with
    | zero => intro x3_1 x4_1 H locs ls i0_1 hn; exact absurd hn.2 (by decide)
    | succ n_1 ih_1 =>
      intro x3_1 x4_1 H locs ls i0_1 hn_1 hl hw hV
      refine lv_iload S.1 S.2.1 dX11_lowest_5 (lv_at hl 4 rfl) ?_
      refine lv_if_le (tgt := 26) S.1 S.2.1 dX11_lowest_7 (by decide) (fun c_2 => ?_) (fun c_2 => ?_)
      · replace hV := hV.trans (if_pos c_2)
        have gc_2 : (x4_1).toInt ≤ 0 := xq_le c_2 rfl rfl
        refine lv_iload_n S.1 S.2.1 dX11_lowest_26 rfl (lv_at hl 2 rfl) ?_
        refine lv_if_ne (tgt := 34) S.1 S.2.1 dX11_lowest_27 (by decide) (fun c_3 => ?_) (fun c_3 => ?_)
        · replace hV := hV.trans (if_neg c_3)
          have gc_3 : ¬ (p3).toInt = 0 := xq_ne c_3 rfl rfl
          refine lv_iload_n S.1 S.2.1 dX11_lowest_34 rfl (lv_at hl 1 rfl) ?_
          refine lv_iload_n S.1 S.2.1 dX11_lowest_35 rfl (lv_at hl 3 rfl) ?_
          refine lv_idiv S.1 S.2.1 dX11_lowest_36 (fun z => by have : (x3_1).toInt = 0 := xq_eq z rfl rfl; omega) ?_
          exact yri S hr hlk hw hV dX11_lowest_37
        · replace hV := hV.trans (if_pos c_3)
          have gc_3 : (p3).toInt = 0 := xq_eq c_3 rfl rfl
          refine lv_iload_n S.1 S.2.1 dX11_lowest_30 rfl (lv_at hl 0 rfl) ?_
          refine lv_goto (tgt := 35) S.1 S.2.1 dX11_lowest_31 (by decide) ?_
          refine lv_iload_n S.1 S.2.1 dX11_lowest_35 rfl (lv_at hl 3 rfl) ?_
          refine lv_idiv S.1 S.2.1 dX11_lowest_36 (fun z => by have : (x3_1).toInt = 0 := xq_eq z rfl rfl; omega) ?_
          exact yri S hr hlk hw hV dX11_lowest_37
      · replace hV := hV.trans (if_neg c_2)
        have gc_2 : 0 < (x4_1).toInt := xq_nle c_2 rfl rfl
        refine lv_iload_n S.1 S.2.1 dX11_lowest_10 rfl (lv_at hl 3 rfl) ?_
        refine lv_iload S.1 S.2.1 dX11_lowest_11 (lv_at hl 4 rfl) ?_
        refine lv_irem S.1 S.2.1 dX11_lowest_13 (fun z => by have : (x4_1).toInt = 0 := xq_eq z rfl rfl; omega) ?_
        have qr := xrem (y := x3_1) (z := x4_1) (by omega)
        refine lv_istore (lv' := [(5, .int (x3_1 - x3_1 / x4_1 * x4_1)), (0, .int p1), (1, .int p2), (2, .int p3), (3, .int x3_1), (4, .int x4_1)]) S.1 S.2.1 dX11_lowest_14 hl (by decide) rfl (fun ls hl => ?_)
        refine lv_iload S.1 S.2.1 dX11_lowest_16 (lv_at hl 5 rfl) ?_
        refine lv_istore_n (lv' := [(3, .int x4_1), (5, .int (x3_1 - x3_1 / x4_1 * x4_1)), (0, .int p1), (1, .int p2), (2, .int p3), (4, .int x4_1)]) S.1 S.2.1 dX11_lowest_18 rfl hl (by decide) rfl (fun ls hl => ?_)
        refine lv_iload S.1 S.2.1 dX11_lowest_19 (lv_at hl 1 rfl) ?_
        refine lv_istore (lv' := [(4, .int (x3_1 - x3_1 / x4_1 * x4_1)), (3, .int x4_1), (5, .int (x3_1 - x3_1 / x4_1 * x4_1)), (0, .int p1), (1, .int p2), (2, .int p3)]) S.1 S.2.1 dX11_lowest_21 hl (by decide) rfl (fun ls hl => ?_)
        refine lv_goto (tgt := 5) S.1 S.2.1 dX11_lowest_23 (by decide) ?_
        exact ih_1 x4_1 (x3_1 - x3_1 / x4_1 * x4_1) _ _ _ (show ((x4_1).toInt ≠ 0 ∨ 0 < ((x3_1 - x3_1 / x4_1 * x4_1)).toInt) from by omega) (show ((x3_1 - x3_1 / x4_1 * x4_1)).toInt < (n_1 : Int) ∧ 1 ≤ n_1 from by omega) (lv_sub hl [3, 4, 5, 1, 0] rfl) hw hV
  exact lp_1 (p2.toNatClampNeg + 1) p1 p2 _ _ _ (show ((p1).toInt ≠ 0 ∨ 0 < (p2).toInt) from by omega) (show (p2).toInt < (((p2.toNatClampNeg + 1) : Nat) : Int) ∧ 1 ≤ ((p2.toNatClampNeg + 1) : Nat) from by omega) (lv_sub hl [2, 3, 4, 1, 0] rfl) hw hV
def k_Reader_isLetter (p1 : Int32) : Bool :=
    (if p1 < (97 : Int32) then
    false
    else
    (if (122 : Int32) < p1 then
    false
    else
    true))
set_option maxHeartbeats 4000000 in
set_option maxRecDepth 100000 in
theorem c_k_Reader_isLetter (l : Launch) (p1 : Int32) : xP l yX8_isLetter cX8_isLetter 1 (some .boolean) (xRm 0 0) [.int p1] (b2i (k_Reader_isLetter p1)) := by
  suffices h : ∀ V, V = k_Reader_isLetter p1 → xP l yX8_isLetter cX8_isLetter 1 (some .boolean) (xRm 0 0) [.int p1] (b2i V) from h _ rfl
  intro V hV
  refine xofP RX8 rfl (by decide) (Nat.le_of_ble_eq_true rfl) ?_
  intro p e s m args below meth c ls H locs S hr hlk hl hw
  have hl : lv_has ls 1 [(0, .int p1)] := hl
  refine lv_iload_n S.1 S.2.1 dX8_isLetter_0 rfl (lv_at hl 0 rfl) ?_
  refine lv_bipush (v := 97) S.1 S.2.1 dX8_isLetter_1 (by decide) ?_
  refine lv_icmp_lt (tgt := 16) S.1 S.2.1 dX8_isLetter_3 (by decide) (fun c_1 => ?_) (fun c_1 => ?_)
  · replace hV := hV.trans (if_pos c_1)
    have gc_1 : (p1).toInt < 97 := xq_lt c_1 rfl rfl
    refine lv_iconst (v := 0) S.1 S.2.1 dX8_isLetter_16 (by decide) ?_
    exact yrz S hr hlk hw rfl (congrArg b2i hV) dX8_isLetter_17
  · replace hV := hV.trans (if_neg c_1)
    have gc_1 : 97 ≤ (p1).toInt := xq_nlt c_1 rfl rfl
    refine lv_iload_n S.1 S.2.1 dX8_isLetter_6 rfl (lv_at hl 0 rfl) ?_
    refine lv_bipush (v := 122) S.1 S.2.1 dX8_isLetter_7 (by decide) ?_
    refine lv_icmp_gt (tgt := 16) S.1 S.2.1 dX8_isLetter_9 (by decide) (fun c_2 => ?_) (fun c_2 => ?_)
    · replace hV := hV.trans (if_pos c_2)
      have gc_2 : 122 < (p1).toInt := xq_lt c_2 rfl rfl
      refine lv_iconst (v := 0) S.1 S.2.1 dX8_isLetter_16 (by decide) ?_
      exact yrz S hr hlk hw rfl (congrArg b2i hV) dX8_isLetter_17
    · replace hV := hV.trans (if_neg c_2)
      have gc_2 : (p1).toInt ≤ 122 := xq_nlt c_2 rfl rfl
      refine lv_iconst (v := 1) S.1 S.2.1 dX8_isLetter_12 (by decide) ?_
      refine lv_goto (tgt := 17) S.1 S.2.1 dX8_isLetter_13 (by decide) ?_
      exact yrz S hr hlk hw rfl (congrArg b2i hV) dX8_isLetter_17
def k_Reader_isDigit (p1 : Int32) : Bool :=
    (if p1 < (48 : Int32) then
    false
    else
    (if (57 : Int32) < p1 then
    false
    else
    true))
set_option maxHeartbeats 4000000 in
set_option maxRecDepth 100000 in
theorem c_k_Reader_isDigit (l : Launch) (p1 : Int32) : xP l yX8_isDigit cX8_isDigit 1 (some .boolean) (xRm 0 0) [.int p1] (b2i (k_Reader_isDigit p1)) := by
  suffices h : ∀ V, V = k_Reader_isDigit p1 → xP l yX8_isDigit cX8_isDigit 1 (some .boolean) (xRm 0 0) [.int p1] (b2i V) from h _ rfl
  intro V hV
  refine xofP RX8 rfl (by decide) (Nat.le_of_ble_eq_true rfl) ?_
  intro p e s m args below meth c ls H locs S hr hlk hl hw
  have hl : lv_has ls 1 [(0, .int p1)] := hl
  refine lv_iload_n S.1 S.2.1 dX8_isDigit_0 rfl (lv_at hl 0 rfl) ?_
  refine lv_bipush (v := 48) S.1 S.2.1 dX8_isDigit_1 (by decide) ?_
  refine lv_icmp_lt (tgt := 16) S.1 S.2.1 dX8_isDigit_3 (by decide) (fun c_1 => ?_) (fun c_1 => ?_)
  · replace hV := hV.trans (if_pos c_1)
    have gc_1 : (p1).toInt < 48 := xq_lt c_1 rfl rfl
    refine lv_iconst (v := 0) S.1 S.2.1 dX8_isDigit_16 (by decide) ?_
    exact yrz S hr hlk hw rfl (congrArg b2i hV) dX8_isDigit_17
  · replace hV := hV.trans (if_neg c_1)
    have gc_1 : 48 ≤ (p1).toInt := xq_nlt c_1 rfl rfl
    refine lv_iload_n S.1 S.2.1 dX8_isDigit_6 rfl (lv_at hl 0 rfl) ?_
    refine lv_bipush (v := 57) S.1 S.2.1 dX8_isDigit_7 (by decide) ?_
    refine lv_icmp_gt (tgt := 16) S.1 S.2.1 dX8_isDigit_9 (by decide) (fun c_2 => ?_) (fun c_2 => ?_)
    · replace hV := hV.trans (if_pos c_2)
      have gc_2 : 57 < (p1).toInt := xq_lt c_2 rfl rfl
      refine lv_iconst (v := 0) S.1 S.2.1 dX8_isDigit_16 (by decide) ?_
      exact yrz S hr hlk hw rfl (congrArg b2i hV) dX8_isDigit_17
    · replace hV := hV.trans (if_neg c_2)
      have gc_2 : (p1).toInt ≤ 57 := xq_nlt c_2 rfl rfl
      refine lv_iconst (v := 1) S.1 S.2.1 dX8_isDigit_12 (by decide) ?_
      refine lv_goto (tgt := 17) S.1 S.2.1 dX8_isDigit_13 (by decide) ?_
      exact yrz S hr hlk hw rfl (congrArg b2i hV) dX8_isDigit_17
def k_Hall_isThing (u : xU) (p1 : Int32) : Bool :=
    (if p1 < (0 : Int32) then
    false
    else
    (if (u.1 13 0) ≤ p1 then
    false
    else
    true))
set_option maxHeartbeats 4000000 in
set_option maxRecDepth 100000 in
theorem c_k_Hall_isThing (l : Launch) (D : va_G) (a : Nat → Nat) (Y : Nat → ClassId) (ts : Nat → Nat) (u : xU) (p1 : Int32) (hT : (0 ≤ ((u.1 13 0)).toInt ∧ ((u.1 13 0)).toInt ≤ 8)) (hC : (0 ≤ ((u.1 13 1)).toInt ∧ ((u.1 13 1)).toInt ≤ 6)) : xMi l yX0_isThing cX0_isThing 2 (some .boolean) (xRm 0 0) D (xty Y) (wC a Y) ts [.ref (a 12), .int p1] u (b2i (k_Hall_isThing u p1), u) := by
  suffices h : ∀ V, V = k_Hall_isThing u p1 → xMi l yX0_isThing cX0_isThing 2 (some .boolean) (xRm 0 0) D (xty Y) (wC a Y) ts [.ref (a 12), .int p1] u (b2i V, u) from h _ rfl
  intro V hV
  refine xofi RX0 rfl (by decide) (Nat.le_of_ble_eq_true rfl) ?_
  intro p e s m args below meth c ls H locs A S hr hlk hl hK hE hA hw
  have hl : lv_has ls 2 [(0, .ref (a 12)), (1, .int p1)] := hl
  refine lv_iload_n S.1 S.2.1 dX0_isThing_0 rfl (lv_at hl 1 rfl) ?_
  refine lv_if_lt (tgt := 19) S.1 S.2.1 dX0_isThing_1 (by decide) (fun c_1 => ?_) (fun c_1 => ?_)
  · replace hV := hV.trans (if_pos c_1)
    have gc_1 : (p1).toInt < 0 := xq_lt c_1 rfl rfl
    refine lv_iconst (v := 0) S.1 S.2.1 dX0_isThing_19 (by decide) ?_
    exact xrz S hr hlk hw rfl (congrArg (fun b => (b2i b, u)) hV) dX0_isThing_20
  · replace hV := hV.trans (if_neg c_1)
    have gc_1 : 0 ≤ (p1).toInt := xq_nlt c_1 rfl rfl
    refine lv_iload_n S.1 S.2.1 dX0_isThing_4 rfl (lv_at hl 1 rfl) ?_
    refine lv_aload_n S.1 S.2.1 dX0_isThing_5 rfl (lv_at hl 0 rfl) ?_
    refine xget (v := .ref (a 13)) S hK hw 12 rfl rfl inX0 0 (by decide) mfX0_12 rfl dX0_isThing_6 ?_
    refine xget (v := .int (u.1 13 0)) S hK hw 13 rfl rfl inX9 0 (by decide) mfX0_37 rfl dX0_isThing_9 ?_
    refine lv_icmp_ge (tgt := 19) S.1 S.2.1 dX0_isThing_12 (by decide) (fun c_2 => ?_) (fun c_2 => ?_)
    · replace hV := hV.trans (if_pos c_2)
      have gc_2 : ((u.1 13 0)).toInt ≤ (p1).toInt := xq_le c_2 rfl rfl
      refine lv_iconst (v := 0) S.1 S.2.1 dX0_isThing_19 (by decide) ?_
      exact xrz S hr hlk hw rfl (congrArg (fun b => (b2i b, u)) hV) dX0_isThing_20
    · replace hV := hV.trans (if_neg c_2)
      have gc_2 : (p1).toInt < ((u.1 13 0)).toInt := xq_nle c_2 rfl rfl
      refine lv_iconst (v := 1) S.1 S.2.1 dX0_isThing_15 (by decide) ?_
      refine lv_goto (tgt := 20) S.1 S.2.1 dX0_isThing_16 (by decide) ?_
      exact xrz S hr hlk hw rfl (congrArg (fun b => (b2i b, u)) hV) dX0_isThing_20
def m_isThing (u : xU) (p1 : Int32) : Bool :=
    (m_in p1 (0 : Int32) ((u.1 0 0) - (1 : Int32)))
set_option maxHeartbeats 4000000 in
set_option maxRecDepth 100000 in
theorem c_m_isThing (l : Launch) (D : va_G) (a : Nat → Nat) (Y : Nat → ClassId) (ts : Nat → Nat) (u : xU) (p1 : Int32) (hT : (0 ≤ ((u.1 0 0)).toInt ∧ ((u.1 0 0)).toInt ≤ 8)) (hC : (0 ≤ ((u.1 0 5)).toInt ∧ ((u.1 0 5)).toInt ≤ 6)) : xMi l yX11_isThing cX11_isThing 2 (some .boolean) (xRm 1 22) D (xty Y) (wM a Y) ts [.ref (a 0), .int p1] u (b2i (m_isThing u p1), u) := by
  suffices h : ∀ V, V = m_isThing u p1 → xMi l yX11_isThing cX11_isThing 2 (some .boolean) (xRm 1 22) D (xty Y) (wM a Y) ts [.ref (a 0), .int p1] u (b2i V, u) from h _ rfl
  intro V hV
  refine xofi RX11 rfl (by decide) (Nat.le_of_ble_eq_true rfl) ?_
  intro p e s m args below meth c ls H locs A S hr hlk hl hK hE hA hw
  have hl : lv_has ls 2 [(0, .ref (a 0)), (1, .int p1)] := hl
  refine lv_iload_n S.1 S.2.1 dX11_isThing_0 rfl (lv_at hl 1 rfl) ?_
  refine lv_iconst (v := 0) S.1 S.2.1 dX11_isThing_1 (by decide) ?_
  refine lv_aload_n S.1 S.2.1 dX11_isThing_2 rfl (lv_at hl 0 rfl) ?_
  refine xget (v := .int (u.1 0 0)) S hK hw 0 rfl rfl inX11 0 (by decide) mfX11_68 rfl dX11_isThing_3 ?_
  refine lv_iconst (v := 1) S.1 S.2.1 dX11_isThing_6 (by decide) ?_
  refine lv_isub S.1 S.2.1 dX11_isThing_7 ?_
  refine xcP (rest := []) S hw yfX11_in (c_m_in l p1 (0 : Int32) ((u.1 0 0) - (1 : Int32))) mlX11_72 rfl rfl hl.1 ⟨rfl, rfl, Nat.le_of_ble_eq_true rfl, Nat.le_of_ble_eq_true rfl, Nat.le_of_ble_eq_true rfl, Nat.zero_le _, Nat.zero_le _⟩ dX11_isThing_8 (fun H locs hw => ?_)
  exact xrz S hr hlk hw (b2i_z _) (congrArg (fun b => (b2i b, u)) hV) dX11_isThing_11
def k_Hall_isCast (u : xU) (p1 : Int32) : Bool :=
    (if p1 < (0 : Int32) then
    false
    else
    (if (u.1 13 1) ≤ p1 then
    false
    else
    true))
set_option maxHeartbeats 4000000 in
set_option maxRecDepth 100000 in
theorem c_k_Hall_isCast (l : Launch) (D : va_G) (a : Nat → Nat) (Y : Nat → ClassId) (ts : Nat → Nat) (u : xU) (p1 : Int32) (hT : (0 ≤ ((u.1 13 0)).toInt ∧ ((u.1 13 0)).toInt ≤ 8)) (hC : (0 ≤ ((u.1 13 1)).toInt ∧ ((u.1 13 1)).toInt ≤ 6)) : xMi l yX0_isCast cX0_isCast 2 (some .boolean) (xRm 0 0) D (xty Y) (wC a Y) ts [.ref (a 12), .int p1] u (b2i (k_Hall_isCast u p1), u) := by
  suffices h : ∀ V, V = k_Hall_isCast u p1 → xMi l yX0_isCast cX0_isCast 2 (some .boolean) (xRm 0 0) D (xty Y) (wC a Y) ts [.ref (a 12), .int p1] u (b2i V, u) from h _ rfl
  intro V hV
  refine xofi RX0 rfl (by decide) (Nat.le_of_ble_eq_true rfl) ?_
  intro p e s m args below meth c ls H locs A S hr hlk hl hK hE hA hw
  have hl : lv_has ls 2 [(0, .ref (a 12)), (1, .int p1)] := hl
  refine lv_iload_n S.1 S.2.1 dX0_isCast_0 rfl (lv_at hl 1 rfl) ?_
  refine lv_if_lt (tgt := 19) S.1 S.2.1 dX0_isCast_1 (by decide) (fun c_1 => ?_) (fun c_1 => ?_)
  · replace hV := hV.trans (if_pos c_1)
    have gc_1 : (p1).toInt < 0 := xq_lt c_1 rfl rfl
    refine lv_iconst (v := 0) S.1 S.2.1 dX0_isCast_19 (by decide) ?_
    exact xrz S hr hlk hw rfl (congrArg (fun b => (b2i b, u)) hV) dX0_isCast_20
  · replace hV := hV.trans (if_neg c_1)
    have gc_1 : 0 ≤ (p1).toInt := xq_nlt c_1 rfl rfl
    refine lv_iload_n S.1 S.2.1 dX0_isCast_4 rfl (lv_at hl 1 rfl) ?_
    refine lv_aload_n S.1 S.2.1 dX0_isCast_5 rfl (lv_at hl 0 rfl) ?_
    refine xget (v := .ref (a 13)) S hK hw 12 rfl rfl inX0 0 (by decide) mfX0_12 rfl dX0_isCast_6 ?_
    refine xget (v := .int (u.1 13 1)) S hK hw 13 rfl rfl inX9 1 (by decide) mfX0_41 rfl dX0_isCast_9 ?_
    refine lv_icmp_ge (tgt := 19) S.1 S.2.1 dX0_isCast_12 (by decide) (fun c_2 => ?_) (fun c_2 => ?_)
    · replace hV := hV.trans (if_pos c_2)
      have gc_2 : ((u.1 13 1)).toInt ≤ (p1).toInt := xq_le c_2 rfl rfl
      refine lv_iconst (v := 0) S.1 S.2.1 dX0_isCast_19 (by decide) ?_
      exact xrz S hr hlk hw rfl (congrArg (fun b => (b2i b, u)) hV) dX0_isCast_20
    · replace hV := hV.trans (if_neg c_2)
      have gc_2 : (p1).toInt < ((u.1 13 1)).toInt := xq_nle c_2 rfl rfl
      refine lv_iconst (v := 1) S.1 S.2.1 dX0_isCast_15 (by decide) ?_
      refine lv_goto (tgt := 20) S.1 S.2.1 dX0_isCast_16 (by decide) ?_
      exact xrz S hr hlk hw rfl (congrArg (fun b => (b2i b, u)) hV) dX0_isCast_20
def m_isCast (u : xU) (p1 : Int32) : Bool :=
    (m_in p1 (0 : Int32) ((u.1 0 5) - (1 : Int32)))
set_option maxHeartbeats 4000000 in
set_option maxRecDepth 100000 in
theorem c_m_isCast (l : Launch) (D : va_G) (a : Nat → Nat) (Y : Nat → ClassId) (ts : Nat → Nat) (u : xU) (p1 : Int32) (hT : (0 ≤ ((u.1 0 0)).toInt ∧ ((u.1 0 0)).toInt ≤ 8)) (hC : (0 ≤ ((u.1 0 5)).toInt ∧ ((u.1 0 5)).toInt ≤ 6)) : xMi l yX11_isCast cX11_isCast 2 (some .boolean) (xRm 1 22) D (xty Y) (wM a Y) ts [.ref (a 0), .int p1] u (b2i (m_isCast u p1), u) := by
  suffices h : ∀ V, V = m_isCast u p1 → xMi l yX11_isCast cX11_isCast 2 (some .boolean) (xRm 1 22) D (xty Y) (wM a Y) ts [.ref (a 0), .int p1] u (b2i V, u) from h _ rfl
  intro V hV
  refine xofi RX11 rfl (by decide) (Nat.le_of_ble_eq_true rfl) ?_
  intro p e s m args below meth c ls H locs A S hr hlk hl hK hE hA hw
  have hl : lv_has ls 2 [(0, .ref (a 0)), (1, .int p1)] := hl
  refine lv_iload_n S.1 S.2.1 dX11_isCast_0 rfl (lv_at hl 1 rfl) ?_
  refine lv_iconst (v := 0) S.1 S.2.1 dX11_isCast_1 (by decide) ?_
  refine lv_aload_n S.1 S.2.1 dX11_isCast_2 rfl (lv_at hl 0 rfl) ?_
  refine xget (v := .int (u.1 0 5)) S hK hw 0 rfl rfl inX11 5 (by decide) mfX11_76 rfl dX11_isCast_3 ?_
  refine lv_iconst (v := 1) S.1 S.2.1 dX11_isCast_6 (by decide) ?_
  refine lv_isub S.1 S.2.1 dX11_isCast_7 ?_
  refine xcP (rest := []) S hw yfX11_in (c_m_in l p1 (0 : Int32) ((u.1 0 5) - (1 : Int32))) mlX11_72 rfl rfl hl.1 ⟨rfl, rfl, Nat.le_of_ble_eq_true rfl, Nat.le_of_ble_eq_true rfl, Nat.le_of_ble_eq_true rfl, Nat.zero_le _, Nat.zero_le _⟩ dX11_isCast_8 (fun H locs hw => ?_)
  exact xrz S hr hlk hw (b2i_z _) (congrArg (fun b => (b2i b, u)) hV) dX11_isCast_11
