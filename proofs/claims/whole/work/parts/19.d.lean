def k_Owners_thingOf_L8 (w : xU) (x1 : Int32) : Nat → Int32 → Int32 → Int32 → Int32
  | 0, _, _, _ => 0
  | n + 1, x2, x3, x4 =>
    (if x1 < x4 then
    x3
    else
    (if (k_Owners_firstOf w x4 x2) = (-9 : Int32) then
    k_Owners_thingOf_L8 w x1 n x2 (k_Owners_firstOf w x4 x2) (x4 + (1 : Int32))
    else
    let t_5 := (x2 ||| ((1 : Int32) <<< ((k_Owners_firstOf w x4 x2) &&& 31)))
    k_Owners_thingOf_L8 w x1 n t_5 (k_Owners_firstOf w x4 x2) (x4 + (1 : Int32))))
def k_Owners_thingOf (u : xU) (p1 : Int32) : Int32 :=
    k_Owners_thingOf_L8 u p1 7 (0 : Int32) (-9 : Int32) (0 : Int32)
set_option maxHeartbeats 4000000 in
set_option maxRecDepth 100000 in
theorem c_k_Owners_thingOf (l : Launch) (D : va_G) (a : Nat → Nat) (Y : Nat → ClassId) (ts : Nat → Nat) (u : xU) (p1 : Int32) (hT : (0 ≤ ((u.1 13 0)).toInt ∧ ((u.1 13 0)).toInt ≤ 8)) (hC : (0 ≤ ((u.1 13 1)).toInt ∧ ((u.1 13 1)).toInt ≤ 6)) (hp0 : 0 ≤ (p1).toInt ∧ (p1).toInt < 6) : xMi l yX5_thingOf cX5_thingOf 5 (some .int) (xRm 2 46) D (xty Y) (wC a Y) ts [.ref (a 41), .int p1] u ((k_Owners_thingOf u p1), u) := by
  suffices h : ∀ V, V = k_Owners_thingOf u p1 → xMi l yX5_thingOf cX5_thingOf 5 (some .int) (xRm 2 46) D (xty Y) (wC a Y) ts [.ref (a 41), .int p1] u (V, u) from h _ rfl
  intro V hV
  refine xofi RX5 rfl (by decide) (Nat.le_of_ble_eq_true rfl) ?_
  intro p e s m args below meth c ls H locs A S hr hlk hl hK hE hA hw
  have hl : lv_has ls 5 [(0, .ref (a 41)), (1, .int p1)] := hl
  refine lv_iconst (v := 0) S.1 S.2.1 dX5_thingOf_0 (by decide) ?_
  refine lv_istore_n (lv' := [(2, .int (0 : Int32)), (0, .ref (a 41)), (1, .int p1)]) S.1 S.2.1 dX5_thingOf_1 rfl hl (by decide) rfl (fun ls hl => ?_)
  refine lv_bipush (v := -9) S.1 S.2.1 dX5_thingOf_2 (by decide) ?_
  refine lv_istore_n (lv' := [(3, .int (-9 : Int32)), (2, .int (0 : Int32)), (0, .ref (a 41)), (1, .int p1)]) S.1 S.2.1 dX5_thingOf_4 rfl hl (by decide) rfl (fun ls hl => ?_)
  refine lv_iconst (v := 0) S.1 S.2.1 dX5_thingOf_5 (by decide) ?_
  refine lv_istore (lv' := [(4, .int (0 : Int32)), (3, .int (-9 : Int32)), (2, .int (0 : Int32)), (0, .ref (a 41)), (1, .int p1)]) S.1 S.2.1 dX5_thingOf_6 hl (by decide) rfl (fun ls hl => ?_)
  have lp_1 : ∀ (n_1 : Nat) (x2_1 : Int32) (x3_1 : Int32) (x4_1 : Int32) (H : Heap) (locs : List Loc) (ls : Array Slot), (0 ≤ (x4_1).toInt) → ((0 ≤ (x2_1).toInt ∧ (x2_1).toInt < 256)) → ((p1).toInt - (x4_1).toInt + 1 < (n_1 : Int) ∧ 1 ≤ n_1) → lv_has ls 5 [(0, .ref (a 41)), (1, .int p1), (2, .int x2_1), (3, .int x3_1), (4, .int x4_1)] → xw D (wC a Y) A s.heap H locs u → V = k_Owners_thingOf_L8 u p1 n_1 x2_1 x3_1 x4_1 → W p l e (xRm 2 46) s m args below meth c H locs 0 0 (MQ below (va_Qi (fun r v => (r, v) = (V, u)) (xPost D (wC a Y) A) A) args s 0 0 A) (F0 m 8 ls []) := by
    intro n_1
    induction n_1 with
    | zero => intro x2_1 x3_1 x4_1 H locs ls i0_1 i1_1 hn; exact absurd hn.2 (by decide)
    | succ n_1 ih_1 =>
      intro x2_1 x3_1 x4_1 H locs ls i0_1 i1_1 hn_1 hl hw hV
      refine lv_iload S.1 S.2.1 dX5_thingOf_8 (lv_at hl 4 rfl) ?_
      refine lv_iload_n S.1 S.2.1 dX5_thingOf_10 rfl (lv_at hl 1 rfl) ?_
      refine lv_icmp_gt (tgt := 40) S.1 S.2.1 dX5_thingOf_11 (by decide) (fun c_2 => ?_) (fun c_2 => ?_)
      · replace hV := hV.trans (if_pos c_2)
        have gc_2 : (p1).toInt < (x4_1).toInt := xq_lt c_2 rfl rfl
        refine lv_iload_n S.1 S.2.1 dX5_thingOf_40 rfl (lv_at hl 3 rfl) ?_
        exact xri S hr hlk hw (congrArg (fun b => (b, u)) hV) dX5_thingOf_41
      · replace hV := hV.trans (if_neg c_2)
        have gc_2 : (x4_1).toInt ≤ (p1).toInt := xq_nlt c_2 rfl rfl
        refine lv_aload_n S.1 S.2.1 dX5_thingOf_14 rfl (lv_at hl 0 rfl) ?_
        refine lv_iload S.1 S.2.1 dX5_thingOf_15 (lv_at hl 4 rfl) ?_
        refine lv_iload_n S.1 S.2.1 dX5_thingOf_17 rfl (lv_at hl 2 rfl) ?_
        refine xci (rest := []) S hK hE hA hw yfX5_firstOf (c_k_Owners_firstOf l D a Y ts _ x4_1 x2_1 (show (0 ≤ ((u.1 13 0)).toInt ∧ ((u.1 13 0)).toInt ≤ 8) from by omega) (show (0 ≤ ((u.1 13 1)).toInt ∧ ((u.1 13 1)).toInt ≤ 6) from by omega) (show 0 ≤ (x4_1).toInt ∧ (x4_1).toInt < 6 from by omega) (show 0 ≤ (x2_1).toInt ∧ (x2_1).toInt < 256 from by omega)) 41 rfl rfl mlX5_54 rfl rfl hl.1 ⟨rfl, rfl, Nat.le_of_ble_eq_true rfl, Nat.le_of_ble_eq_true rfl, Nat.le_of_ble_eq_true rfl, Nat.zero_le _, Nat.zero_le _⟩ dX5_thingOf_18 (fun H locs hw => ?_)
        refine lv_istore_n (lv' := [(3, .int (k_Owners_firstOf u x4_1 x2_1)), (0, .ref (a 41)), (1, .int p1), (2, .int x2_1), (4, .int x4_1)]) S.1 S.2.1 dX5_thingOf_21 rfl hl (by decide) rfl (fun ls hl => ?_)
        refine lv_iload_n S.1 S.2.1 dX5_thingOf_22 rfl (lv_at hl 0 rfl) ?_
        refine lv_bipush (v := -9) S.1 S.2.1 dX5_thingOf_23 (by decide) ?_
        refine lv_icmp_eq (tgt := 34) S.1 S.2.1 dX5_thingOf_25 (by decide) (fun c_3 => ?_) (fun c_3 => ?_)
        · replace hV := hV.trans (if_pos c_3)
          have gc_3 : ((k_Owners_firstOf u x4_1 x2_1)).toInt = (-9) := xq_eq c_3 rfl rfl
          refine lv_iinc (v := (x4_1 + (1 : Int32))) (lv' := [(4, .int (x4_1 + (1 : Int32))), (3, .int (k_Owners_firstOf u x4_1 x2_1)), (0, .ref (a 41)), (1, .int p1), (2, .int x2_1)]) S.1 S.2.1 dX5_thingOf_34 hl (k := 4) rfl rfl (by decide) rfl (fun ls hl => ?_)
          refine lv_goto (tgt := 8) S.1 S.2.1 dX5_thingOf_37 (by decide) ?_
          have e_4 : ∀ _ : Unit, ((x4_1 + (1 : Int32))).toInt = (x4_1).toInt + 1 := fun _ => xadd rfl rfl (by omega) (by omega)
          exact ih_1 x2_1 (k_Owners_firstOf u x4_1 x2_1) (x4_1 + (1 : Int32)) _ _ _ (show 0 ≤ ((x4_1 + (1 : Int32))).toInt from by rw [(e_4 ())]; omega) (show (0 ≤ (x2_1).toInt ∧ (x2_1).toInt < 256) from by omega) (show (p1).toInt - ((x4_1 + (1 : Int32))).toInt + 1 < (n_1 : Int) ∧ 1 ≤ n_1 from by rw [(e_4 ())]; omega) (lv_sub hl [2, 3, 4, 1, 0] rfl) hw hV
        · replace hV := hV.trans (if_neg c_3)
          have gc_3 : ¬ ((k_Owners_firstOf u x4_1 x2_1)).toInt = (-9) := xq_ne c_3 rfl rfl
          have fc_3 := hk_firstOf hT c_3
          refine lv_iload_n S.1 S.2.1 dX5_thingOf_28 rfl (lv_at hl 3 rfl) ?_
          refine lv_iconst (v := 1) S.1 S.2.1 dX5_thingOf_29 (by decide) ?_
          refine lv_iload_n S.1 S.2.1 dX5_thingOf_30 rfl (lv_at hl 0 rfl) ?_
          refine lv_ishl S.1 S.2.1 dX5_thingOf_31 ?_
          refine lv_ior S.1 S.2.1 dX5_thingOf_32 ?_
          refine lv_istore_n (lv' := [(2, .int (x2_1 ||| ((1 : Int32) <<< ((k_Owners_firstOf u x4_1 x2_1) &&& 31)))), (3, .int (k_Owners_firstOf u x4_1 x2_1)), (0, .ref (a 41)), (1, .int p1), (4, .int x4_1)]) S.1 S.2.1 dX5_thingOf_33 rfl hl (by decide) rfl (fun ls hl => ?_)
          refine lv_iinc (v := (x4_1 + (1 : Int32))) (lv' := [(4, .int (x4_1 + (1 : Int32))), (2, .int (x2_1 ||| ((1 : Int32) <<< ((k_Owners_firstOf u x4_1 x2_1) &&& 31)))), (3, .int (k_Owners_firstOf u x4_1 x2_1)), (0, .ref (a 41)), (1, .int p1)]) S.1 S.2.1 dX5_thingOf_34 hl (k := 4) rfl rfl (by decide) rfl (fun ls hl => ?_)
          refine lv_goto (tgt := 8) S.1 S.2.1 dX5_thingOf_37 (by decide) ?_
          obtain ⟨ve_6, e_6, be_6⟩ := xsh1' (t := (k_Owners_firstOf u x4_1 x2_1)) (a := ((k_Owners_firstOf u x4_1 x2_1)).toInt) rfl (by omega) (by omega)
          obtain ⟨ve_7, e_7, be_7⟩ := xor8' (x := x2_1) (y := ((1 : Int32) <<< ((k_Owners_firstOf u x4_1 x2_1) &&& 31))) (a := (x2_1).toInt) (b := ve_6) rfl (e_6 ()) (by omega) (by omega) (by omega) (by omega)
          have e_8 : ∀ _ : Unit, ((x4_1 + (1 : Int32))).toInt = (x4_1).toInt + 1 := fun _ => xadd rfl rfl (by omega) (by omega)
          exact ih_1 (x2_1 ||| ((1 : Int32) <<< ((k_Owners_firstOf u x4_1 x2_1) &&& 31))) (k_Owners_firstOf u x4_1 x2_1) (x4_1 + (1 : Int32)) _ _ _ (show 0 ≤ ((x4_1 + (1 : Int32))).toInt from by rw [(e_8 ())]; omega) (show (0 ≤ ((x2_1 ||| ((1 : Int32) <<< ((k_Owners_firstOf u x4_1 x2_1) &&& 31)))).toInt ∧ ((x2_1 ||| ((1 : Int32) <<< ((k_Owners_firstOf u x4_1 x2_1) &&& 31)))).toInt < 256) from by rw [(e_7 ())]; omega) (show (p1).toInt - ((x4_1 + (1 : Int32))).toInt + 1 < (n_1 : Int) ∧ 1 ≤ n_1 from by rw [(e_8 ())]; omega) (lv_sub hl [3, 4, 1, 2, 0] rfl) hw hV
  exact lp_1 7 (0 : Int32) (-9 : Int32) (0 : Int32) _ _ _ (show 0 ≤ 0 from by omega) (show (0 ≤ 0 ∧ 0 < 256) from by omega) (show (p1).toInt - 0 + 1 < ((7 : Nat) : Int) ∧ 1 ≤ (7 : Nat) from by omega) (lv_sub hl [3, 4, 2, 1, 0] rfl) hw hV
noncomputable def k_Hall_passNight_L2 : Nat → Int32 → xU → xU
  | 0, _, w => w
  | n + 1, x1, w =>
    (if (w.1 13 1) ≤ x1 then
    let w_3 := sp w 21 (upd (w.1 21) 0 ((w.1 21 0) + (1 : Int32)))
    w_3
    else
    (if (w.1 26 (x1).toNatClampNeg) = (-1 : Int32) then
    k_Hall_passNight_L2 n (x1 + (1 : Int32)) w
    else
    let r_6 := k_Hall_attend w x1 (w.1 26 (x1).toNatClampNeg)
    k_Hall_passNight_L2 n (x1 + (1 : Int32)) r_6))
noncomputable def k_Hall_passNight_b (u : xU) : xU :=
    k_Hall_passNight_L2 7 (0 : Int32) u
theorem k_Hall_passNight_x : ∃ f : xU → xU, f = k_Hall_passNight_b := ⟨_, rfl⟩
noncomputable def k_Hall_passNight : xU → xU := k_Hall_passNight_x.choose
theorem k_Hall_passNight_def : k_Hall_passNight = k_Hall_passNight_b := k_Hall_passNight_x.choose_spec
set_option maxHeartbeats 4000000 in
set_option maxRecDepth 100000 in
theorem c_k_Hall_passNight (l : Launch) (D : va_G) (a : Nat → Nat) (Y : Nat → ClassId) (ts : Nat → Nat) (u : xU) (hT : (0 ≤ ((u.1 13 0)).toInt ∧ ((u.1 13 0)).toInt ≤ 8)) (hC : (0 ≤ ((u.1 13 1)).toInt ∧ ((u.1 13 1)).toInt ≤ 6)) (hr0 : kK (u.1 26)) : xMv l yX0_passNight cX0_passNight 3 none (xRm 1 23) D (xty Y) (wC a Y) ts [.ref (a 12)] u (k_Hall_passNight u) := by
  suffices h : ∀ V, V = k_Hall_passNight_b u → xMv l yX0_passNight cX0_passNight 3 none (xRm 1 23) D (xty Y) (wC a Y) ts [.ref (a 12)] u V from h _ (by rw [k_Hall_passNight_def])
  intro V hV
  refine xofv RX0 rfl (by decide) (Nat.le_of_ble_eq_true rfl) ?_
  intro p e s m args below meth c ls H locs A S hr hlk hl hK hE hA hw
  have hl : lv_has ls 3 [(0, .ref (a 12))] := hl
  refine lv_iconst (v := 0) S.1 S.2.1 dX0_passNight_0 (by decide) ?_
  refine lv_istore_n (lv' := [(1, .int (0 : Int32)), (0, .ref (a 12))]) S.1 S.2.1 dX0_passNight_1 rfl hl (by decide) rfl (fun ls hl => ?_)
  have lp_1 : ∀ (n_1 : Nat) (x1_1 : Int32) (u_1 : xU) (H : Heap) (locs : List Loc) (ls : Array Slot), (0 ≤ (x1_1).toInt) → (kK (u_1.1 26)) → ((0 ≤ ((u_1.1 13 0)).toInt ∧ ((u_1.1 13 0)).toInt ≤ 8)) → ((0 ≤ ((u_1.1 13 1)).toInt ∧ ((u_1.1 13 1)).toInt ≤ 6)) → (((u_1.1 13 1)).toInt - (x1_1).toInt < (n_1 : Int) ∧ 1 ≤ n_1) → lv_has ls 3 [(0, .ref (a 12)), (1, .int x1_1)] → xw D (wC a Y) A s.heap H locs u_1 → V = k_Hall_passNight_L2 n_1 x1_1 u_1 → W p l e (xRm 1 23) s m args below meth c H locs 0 0 (MQ below (va_Qv (fun v => v = V) (xPost D (wC a Y) A) A) args s 0 0 A) (F0 m 2 ls []) := by
    intro n_1
    induction n_1 with
    | zero => intro x1_1 u_1 H locs ls i0_1 i1_1 i2_1 i3_1 hn; exact absurd hn.2 (by decide)
    | succ n_1 ih_1 =>
      intro x1_1 u_1 H locs ls i0_1 i1_1 i2_1 i3_1 hn_1 hl hw hV
      refine lv_iload_n S.1 S.2.1 dX0_passNight_2 rfl (lv_at hl 1 rfl) ?_
      refine lv_aload_n S.1 S.2.1 dX0_passNight_3 rfl (lv_at hl 0 rfl) ?_
      refine xget (v := .ref (a 13)) S hK hw 12 rfl rfl inX0 0 (by decide) mfX0_12 rfl dX0_passNight_4 ?_
      refine xget (v := .int (u_1.1 13 1)) S hK hw 13 rfl rfl inX9 1 (by decide) mfX0_41 rfl dX0_passNight_7 ?_
      refine lv_icmp_ge (tgt := 40) S.1 S.2.1 dX0_passNight_10 (by decide) (fun c_2 => ?_) (fun c_2 => ?_)
      · replace hV := hV.trans (if_pos c_2)
        have gc_2 : ((u_1.1 13 1)).toInt ≤ (x1_1).toInt := xq_le c_2 rfl rfl
        refine lv_aload_n S.1 S.2.1 dX0_passNight_40 rfl (lv_at hl 0 rfl) ?_
        refine xget (v := .ref (a 21)) S hK hw 12 rfl rfl inX0 1 (by decide) mfX0_21 rfl dX0_passNight_41 ?_
        refine lv_dup S.1 S.2.1 dX0_passNight_44 rfl ?_
        refine xget (v := .int (u_1.1 21 0)) S hK hw 21 rfl rfl inX4 0 (by decide) mfX0_84 rfl dX0_passNight_45 ?_
        refine lv_iconst (v := 1) S.1 S.2.1 dX0_passNight_48 (by decide) ?_
        refine lv_iadd S.1 S.2.1 dX0_passNight_49 ?_
        refine xputi (ty := .int) S hK hw 21 rfl rfl inX4 tyX4 tyX4_ok nmX4 0 (by decide) mfX0_84 rfl (by decide +kernel) rfl rfl (Nat.le_of_ble_eq_true rfl) (oC_21_0 _ _ _ _) dX0_passNight_50 (fun H locs hw => ?_)
        exact xrv S hr hlk hw hV dX0_passNight_53
      · replace hV := hV.trans (if_neg c_2)
        have gc_2 : (x1_1).toInt < ((u_1.1 13 1)).toInt := xq_nle c_2 rfl rfl
        refine lv_aload_n S.1 S.2.1 dX0_passNight_13 rfl (lv_at hl 0 rfl) ?_
        refine xget (v := .ref (a 21)) S hK hw 12 rfl rfl inX0 1 (by decide) mfX0_21 rfl dX0_passNight_14 ?_
        refine xget (v := .ref (a 26)) S hK hw 21 rfl rfl inX4 6 (by decide) mfX0_71 rfl dX0_passNight_17 ?_
        refine lv_iload_n S.1 S.2.1 dX0_passNight_20 rfl (lv_at hl 1 rfl) ?_
        refine xald (f := u_1.1 26) S hK hw 26 0 rfl rfl (xvi rfl (by omega) (by omega)) dX0_passNight_21 ?_
        refine lv_istore_n (lv' := [(2, .int (u_1.1 26 (x1_1).toNatClampNeg)), (0, .ref (a 12)), (1, .int x1_1)]) S.1 S.2.1 dX0_passNight_22 rfl hl (by decide) rfl (fun ls hl => ?_)
        refine lv_iload_n S.1 S.2.1 dX0_passNight_23 rfl (lv_at hl 0 rfl) ?_
        refine lv_iconst (v := -1) S.1 S.2.1 dX0_passNight_24 (by decide) ?_
        refine lv_icmp_eq (tgt := 34) S.1 S.2.1 dX0_passNight_25 (by decide) (fun c_4 => ?_) (fun c_4 => ?_)
        · replace hV := hV.trans (if_pos c_4)
          have gc_4 : ((u_1.1 26 (x1_1).toNatClampNeg)).toInt = (-1) := xq_eq c_4 rfl rfl
          refine lv_iinc (v := (x1_1 + (1 : Int32))) (lv' := [(1, .int (x1_1 + (1 : Int32))), (2, .int (u_1.1 26 (x1_1).toNatClampNeg)), (0, .ref (a 12))]) S.1 S.2.1 dX0_passNight_34 hl (k := 2) rfl rfl (by decide) rfl (fun ls hl => ?_)
          refine lv_goto (tgt := 2) S.1 S.2.1 dX0_passNight_37 (by decide) ?_
          have e_5 : ∀ _ : Unit, ((x1_1 + (1 : Int32))).toInt = (x1_1).toInt + 1 := fun _ => xadd rfl rfl (by omega) (by omega)
          exact ih_1 (x1_1 + (1 : Int32)) u_1 _ _ _ (show 0 ≤ ((x1_1 + (1 : Int32))).toInt from by rw [(e_5 ())]; (first | omega | (simp only [kp_att13]; omega) | (simp only [kp_rem13]; omega))) (show kK (u_1.1 26) from by first | assumption | exact kK_att (by assumption) | exact kK_rem (by assumption) | exact kK_pass (by assumption)) (show (0 ≤ ((u_1.1 13 0)).toInt ∧ ((u_1.1 13 0)).toInt ≤ 8) from by (first | omega | (simp only [kp_att13]; omega) | (simp only [kp_rem13]; omega))) (show (0 ≤ ((u_1.1 13 1)).toInt ∧ ((u_1.1 13 1)).toInt ≤ 6) from by (first | omega | (simp only [kp_att13]; omega) | (simp only [kp_rem13]; omega))) (show ((u_1.1 13 1)).toInt - ((x1_1 + (1 : Int32))).toInt < (n_1 : Int) ∧ 1 ≤ n_1 from by rw [(e_5 ())]; (first | omega | (simp only [kp_att13]; omega) | (simp only [kp_rem13]; omega))) (lv_sub hl [2, 0] rfl) hw hV
        · replace hV := hV.trans (if_neg c_4)
          have gc_4 : ¬ ((u_1.1 26 (x1_1).toNatClampNeg)).toInt = (-1) := xq_ne c_4 rfl rfl
          have hq := kK_at (f := u_1.1 26) (c := x1_1) (by assumption) (by omega) (by omega)
          refine lv_aload_n S.1 S.2.1 dX0_passNight_28 rfl (lv_at hl 1 rfl) ?_
          refine lv_iload_n S.1 S.2.1 dX0_passNight_29 rfl (lv_at hl 2 rfl) ?_
          refine lv_iload_n S.1 S.2.1 dX0_passNight_30 rfl (lv_at hl 0 rfl) ?_
          refine xcVv (rest := []) S hK hE hA hw yfX0_attend (c_k_Hall_attend l D a Y ts _ x1_1 (u_1.1 26 (x1_1).toNatClampNeg) (show 0 ≤ (x1_1).toInt ∧ (x1_1).toInt < 6 from by (first | omega | (simp only [kp_att13]; omega) | (simp only [kp_rem13]; omega))) (show 0 ≤ ((u_1.1 26 (x1_1).toNatClampNeg)).toInt ∧ ((u_1.1 26 (x1_1).toNatClampNeg)).toInt < 8 from by (first | omega | (simp only [kp_att13]; omega) | (simp only [kp_rem13]; omega)))) 12 rfl rfl mlX0_80 rfl rfl hl.1 ⟨rfl, rfl, Nat.le_of_ble_eq_true rfl, Nat.le_of_ble_eq_true rfl, Nat.le_of_ble_eq_true rfl, Nat.zero_le _, Nat.zero_le _⟩ dX0_passNight_31 (fun H locs hw => ?_)
          refine lv_iinc (v := (x1_1 + (1 : Int32))) (lv' := [(1, .int (x1_1 + (1 : Int32))), (2, .int (u_1.1 26 (x1_1).toNatClampNeg)), (0, .ref (a 12))]) S.1 S.2.1 dX0_passNight_34 hl (k := 2) rfl rfl (by decide) rfl (fun ls hl => ?_)
          refine lv_goto (tgt := 2) S.1 S.2.1 dX0_passNight_37 (by decide) ?_
          have e_7 : ∀ _ : Unit, ((x1_1 + (1 : Int32))).toInt = (x1_1).toInt + 1 := fun _ => xadd rfl rfl (by omega) (by omega)
          exact ih_1 (x1_1 + (1 : Int32)) (k_Hall_attend u_1 x1_1 (u_1.1 26 (x1_1).toNatClampNeg)) _ _ _ (show 0 ≤ ((x1_1 + (1 : Int32))).toInt from by rw [(e_7 ())]; (first | omega | (simp only [kp_att13]; omega) | (simp only [kp_rem13]; omega))) (show kK ((k_Hall_attend u_1 x1_1 (u_1.1 26 (x1_1).toNatClampNeg)).1 26) from by first | assumption | exact kK_att (by assumption) | exact kK_rem (by assumption) | exact kK_pass (by assumption)) (show (0 ≤ (((k_Hall_attend u_1 x1_1 (u_1.1 26 (x1_1).toNatClampNeg)).1 13 0)).toInt ∧ (((k_Hall_attend u_1 x1_1 (u_1.1 26 (x1_1).toNatClampNeg)).1 13 0)).toInt ≤ 8) from by (first | omega | (simp only [kp_att13]; omega) | (simp only [kp_rem13]; omega))) (show (0 ≤ (((k_Hall_attend u_1 x1_1 (u_1.1 26 (x1_1).toNatClampNeg)).1 13 1)).toInt ∧ (((k_Hall_attend u_1 x1_1 (u_1.1 26 (x1_1).toNatClampNeg)).1 13 1)).toInt ≤ 6) from by (first | omega | (simp only [kp_att13]; omega) | (simp only [kp_rem13]; omega))) (show (((k_Hall_attend u_1 x1_1 (u_1.1 26 (x1_1).toNatClampNeg)).1 13 1)).toInt - ((x1_1 + (1 : Int32))).toInt < (n_1 : Int) ∧ 1 ≤ n_1 from by rw [(e_7 ())]; (first | omega | (simp only [kp_att13]; omega) | (simp only [kp_rem13]; omega))) (lv_sub hl [2, 0] rfl) hw hV
  exact lp_1 7 (0 : Int32) u _ _ _ (show 0 ≤ 0 from by (first | omega | (simp only [kp_att13]; omega) | (simp only [kp_rem13]; omega))) (show kK (u.1 26) from by first | assumption | exact kK_att (by assumption) | exact kK_rem (by assumption) | exact kK_pass (by assumption)) (show (0 ≤ ((u.1 13 0)).toInt ∧ ((u.1 13 0)).toInt ≤ 8) from by (first | omega | (simp only [kp_att13]; omega) | (simp only [kp_rem13]; omega))) (show (0 ≤ ((u.1 13 1)).toInt ∧ ((u.1 13 1)).toInt ≤ 6) from by (first | omega | (simp only [kp_att13]; omega) | (simp only [kp_rem13]; omega))) (show ((u.1 13 1)).toInt - 0 < ((7 : Nat) : Int) ∧ 1 ≤ (7 : Nat) from by (first | omega | (simp only [kp_att13]; omega) | (simp only [kp_rem13]; omega))) (lv_sub hl [1, 0] rfl) hw hV
