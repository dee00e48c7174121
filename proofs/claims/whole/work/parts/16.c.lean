noncomputable def k_Told_addThing_b (u : xU) : xU :=
    let w_1 := sp u 5 (upd (u.1 5) ((u.1 4 0)).toNatClampNeg (u.1 3 0))
    let w_2 := sp w_1 6 (upd (u.1 6) ((u.1 4 0)).toNatClampNeg (u.1 3 1))
    let w_3 := sp w_2 7 (upd (u.1 7) ((u.1 4 0)).toNatClampNeg (u.1 3 2))
    let w_4 := sp w_3 8 (upd (u.1 8) ((u.1 4 0)).toNatClampNeg ((((1 : Int32) <<< ((u.1 3 3) &&& 31)) ||| ((1 : Int32) <<< ((u.1 3 4) &&& 31))) &&& (((1 : Int32) <<< ((u.1 4 0) &&& 31)) ^^^ (-1 : Int32))))
    let w_5 := sp w_4 4 (upd (u.1 4) 0 ((u.1 4 0) + (1 : Int32)))
    w_5
theorem k_Told_addThing_x : ∃ f : xU → xU, f = k_Told_addThing_b := ⟨_, rfl⟩
noncomputable def k_Told_addThing : xU → xU := k_Told_addThing_x.choose
theorem k_Told_addThing_def : k_Told_addThing = k_Told_addThing_b := k_Told_addThing_x.choose_spec
set_option maxHeartbeats 4000000 in
set_option maxRecDepth 100000 in
theorem c_k_Told_addThing (l : Launch) (D : va_G) (a : Nat → Nat) (Y : Nat → ClassId) (ts : Nat → Nat) (u : xU) (hr0 : (0 ≤ ((u.1 4 0)).toInt ∧ ((u.1 4 0)).toInt < 8)) : xMv l yX9_addThing cX9_addThing 2 none (xRm 0 0) D (xty Y) (wC a Y) ts [.ref (a 4), .ref (a 3)] u (k_Told_addThing u) := by
  suffices h : ∀ V, V = k_Told_addThing_b u → xMv l yX9_addThing cX9_addThing 2 none (xRm 0 0) D (xty Y) (wC a Y) ts [.ref (a 4), .ref (a 3)] u V from h _ (by rw [k_Told_addThing_def])
  intro V hV
  refine xofv RX9 rfl (by decide) (Nat.le_of_ble_eq_true rfl) ?_
  intro p e s m args below meth c ls H locs A S hr hlk hl hK hE hA hw
  have hl : lv_has ls 2 [(0, .ref (a 4)), (1, .ref (a 3))] := hl
  refine lv_aload_n S.1 S.2.1 dX9_addThing_0 rfl (lv_at hl 0 rfl) ?_
  refine xget (v := .ref (a 5)) S hK hw 4 rfl rfl inX9 2 (by decide) mfX9_9 rfl dX9_addThing_1 ?_
  refine lv_aload_n S.1 S.2.1 dX9_addThing_4 rfl (lv_at hl 0 rfl) ?_
  refine xget (v := .int (u.1 4 0)) S hK hw 4 rfl rfl inX9 0 (by decide) mfX9_33 rfl dX9_addThing_5 ?_
  refine lv_aload_n S.1 S.2.1 dX9_addThing_8 rfl (lv_at hl 1 rfl) ?_
  refine lv_iconst (v := 0) S.1 S.2.1 dX9_addThing_9 (by decide) ?_
  refine xaldc (f := u.1 3) (x := (u.1 3 0)) (k := 0) S hK hw 3 0 rfl rfl (by decide) rfl (xvi (a := 0) rfl (by decide) (by decide)) dX9_addThing_10 ?_
  refine xast S hK hw 5 0 rfl rfl (xvi rfl (by omega) (by omega)) (sC_5 _ _ _ _) dX9_addThing_11 (fun H locs hw => ?_)
  refine lv_aload_n S.1 S.2.1 dX9_addThing_12 rfl (lv_at hl 0 rfl) ?_
  refine xget (v := .ref (a 6)) S hK hw 4 rfl rfl inX9 3 (by decide) mfX9_15 rfl dX9_addThing_13 ?_
  refine lv_aload_n S.1 S.2.1 dX9_addThing_16 rfl (lv_at hl 0 rfl) ?_
  refine xget (v := .int (u.1 4 0)) S hK hw 4 rfl rfl inX9 0 (by decide) mfX9_33 rfl dX9_addThing_17 ?_
  refine lv_aload_n S.1 S.2.1 dX9_addThing_20 rfl (lv_at hl 1 rfl) ?_
  refine lv_iconst (v := 1) S.1 S.2.1 dX9_addThing_21 (by decide) ?_
  refine xaldc (f := u.1 3) (x := (u.1 3 1)) (k := 1) S hK hw 3 0 rfl rfl (by decide) rfl (xvi (a := 1) rfl (by decide) (by decide)) dX9_addThing_22 ?_
  refine xast S hK hw 6 0 rfl rfl (xvi rfl (by omega) (by omega)) (sC_6 _ _ _ _) dX9_addThing_23 (fun H locs hw => ?_)
  refine lv_aload_n S.1 S.2.1 dX9_addThing_24 rfl (lv_at hl 0 rfl) ?_
  refine xget (v := .ref (a 7)) S hK hw 4 rfl rfl inX9 4 (by decide) mfX9_18 rfl dX9_addThing_25 ?_
  refine lv_aload_n S.1 S.2.1 dX9_addThing_28 rfl (lv_at hl 0 rfl) ?_
  refine xget (v := .int (u.1 4 0)) S hK hw 4 rfl rfl inX9 0 (by decide) mfX9_33 rfl dX9_addThing_29 ?_
  refine lv_aload_n S.1 S.2.1 dX9_addThing_32 rfl (lv_at hl 1 rfl) ?_
  refine lv_iconst (v := 2) S.1 S.2.1 dX9_addThing_33 (by decide) ?_
  refine xaldc (f := u.1 3) (x := (u.1 3 2)) (k := 2) S hK hw 3 0 rfl rfl (by decide) rfl (xvi (a := 2) rfl (by decide) (by decide)) dX9_addThing_34 ?_
  refine xast S hK hw 7 0 rfl rfl (xvi rfl (by omega) (by omega)) (sC_7 _ _ _ _) dX9_addThing_35 (fun H locs hw => ?_)
  refine lv_aload_n S.1 S.2.1 dX9_addThing_36 rfl (lv_at hl 0 rfl) ?_
  refine xget (v := .ref (a 8)) S hK hw 4 rfl rfl inX9 5 (by decide) mfX9_21 rfl dX9_addThing_37 ?_
  refine lv_aload_n S.1 S.2.1 dX9_addThing_40 rfl (lv_at hl 0 rfl) ?_
  refine xget (v := .int (u.1 4 0)) S hK hw 4 rfl rfl inX9 0 (by decide) mfX9_33 rfl dX9_addThing_41 ?_
  refine lv_iconst (v := 1) S.1 S.2.1 dX9_addThing_44 (by decide) ?_
  refine lv_aload_n S.1 S.2.1 dX9_addThing_45 rfl (lv_at hl 1 rfl) ?_
  refine lv_iconst (v := 3) S.1 S.2.1 dX9_addThing_46 (by decide) ?_
  refine xaldc (f := u.1 3) (x := (u.1 3 3)) (k := 3) S hK hw 3 0 rfl rfl (by decide) rfl (xvi (a := 3) rfl (by decide) (by decide)) dX9_addThing_47 ?_
  refine lv_ishl S.1 S.2.1 dX9_addThing_48 ?_
  refine lv_iconst (v := 1) S.1 S.2.1 dX9_addThing_49 (by decide) ?_
  refine lv_aload_n S.1 S.2.1 dX9_addThing_50 rfl (lv_at hl 1 rfl) ?_
  refine lv_iconst (v := 4) S.1 S.2.1 dX9_addThing_51 (by decide) ?_
  refine xaldc (f := u.1 3) (x := (u.1 3 4)) (k := 4) S hK hw 3 0 rfl rfl (by decide) rfl (xvi (a := 4) rfl (by decide) (by decide)) dX9_addThing_52 ?_
  refine lv_ishl S.1 S.2.1 dX9_addThing_53 ?_
  refine lv_ior S.1 S.2.1 dX9_addThing_54 ?_
  refine lv_iconst (v := 1) S.1 S.2.1 dX9_addThing_55 (by decide) ?_
  refine lv_aload_n S.1 S.2.1 dX9_addThing_56 rfl (lv_at hl 0 rfl) ?_
  refine xget (v := .int (u.1 4 0)) S hK hw 4 rfl rfl inX9 0 (by decide) mfX9_33 rfl dX9_addThing_57 ?_
  refine lv_ishl S.1 S.2.1 dX9_addThing_60 ?_
  refine lv_iconst (v := -1) S.1 S.2.1 dX9_addThing_61 (by decide) ?_
  refine lv_ixor S.1 S.2.1 dX9_addThing_62 ?_
  refine lv_iand S.1 S.2.1 dX9_addThing_63 ?_
  refine xast S hK hw 8 0 rfl rfl (xvi rfl (by omega) (by omega)) (sC_8 _ _ _ _) dX9_addThing_64 (fun H locs hw => ?_)
  refine lv_aload_n S.1 S.2.1 dX9_addThing_65 rfl (lv_at hl 0 rfl) ?_
  refine lv_dup S.1 S.2.1 dX9_addThing_66 rfl ?_
  refine xget (v := .int (u.1 4 0)) S hK hw 4 rfl rfl inX9 0 (by decide) mfX9_33 rfl dX9_addThing_67 ?_
  refine lv_iconst (v := 1) S.1 S.2.1 dX9_addThing_70 (by decide) ?_
  refine lv_iadd S.1 S.2.1 dX9_addThing_71 ?_
  refine xputi (ty := .int) S hK hw 4 rfl rfl inX9 tyX9 tyX9_ok nmX9 0 (by decide) mfX9_33 rfl (by decide +kernel) rfl rfl (Nat.le_of_ble_eq_true rfl) (oC_4_0 _ _ _ _) dX9_addThing_72 (fun H locs hw => ?_)
  exact xrv S hr hlk hw hV dX9_addThing_75
noncomputable def k_Told_addCast_b (u : xU) : xU :=
    let w_1 := sp u 9 (upd (u.1 9) ((u.1 4 1)).toNatClampNeg (u.1 3 0))
    let w_2 := sp w_1 10 (upd (u.1 10) ((u.1 4 1)).toNatClampNeg (u.1 3 1))
    let w_3 := sp w_2 11 (upd (u.1 11) ((u.1 4 1)).toNatClampNeg (u.1 3 2))
    let w_4 := sp w_3 4 (upd (u.1 4) 1 ((u.1 4 1) + (1 : Int32)))
    w_4
theorem k_Told_addCast_x : ∃ f : xU → xU, f = k_Told_addCast_b := ⟨_, rfl⟩
noncomputable def k_Told_addCast : xU → xU := k_Told_addCast_x.choose
theorem k_Told_addCast_def : k_Told_addCast = k_Told_addCast_b := k_Told_addCast_x.choose_spec
set_option maxHeartbeats 4000000 in
set_option maxRecDepth 100000 in
theorem c_k_Told_addCast (l : Launch) (D : va_G) (a : Nat → Nat) (Y : Nat → ClassId) (ts : Nat → Nat) (u : xU) (hr0 : (0 ≤ ((u.1 4 1)).toInt ∧ ((u.1 4 1)).toInt < 6)) : xMv l yX9_addCast cX9_addCast 2 none (xRm 0 0) D (xty Y) (wC a Y) ts [.ref (a 4), .ref (a 3)] u (k_Told_addCast u) := by
  suffices h : ∀ V, V = k_Told_addCast_b u → xMv l yX9_addCast cX9_addCast 2 none (xRm 0 0) D (xty Y) (wC a Y) ts [.ref (a 4), .ref (a 3)] u V from h _ (by rw [k_Told_addCast_def])
  intro V hV
  refine xofv RX9 rfl (by decide) (Nat.le_of_ble_eq_true rfl) ?_
  intro p e s m args below meth c ls H locs A S hr hlk hl hK hE hA hw
  have hl : lv_has ls 2 [(0, .ref (a 4)), (1, .ref (a 3))] := hl
  refine lv_aload_n S.1 S.2.1 dX9_addCast_0 rfl (lv_at hl 0 rfl) ?_
  refine xget (v := .ref (a 9)) S hK hw 4 rfl rfl inX9 6 (by decide) mfX9_24 rfl dX9_addCast_1 ?_
  refine lv_aload_n S.1 S.2.1 dX9_addCast_4 rfl (lv_at hl 0 rfl) ?_
  refine xget (v := .int (u.1 4 1)) S hK hw 4 rfl rfl inX9 1 (by decide) mfX9_37 rfl dX9_addCast_5 ?_
  refine lv_aload_n S.1 S.2.1 dX9_addCast_8 rfl (lv_at hl 1 rfl) ?_
  refine lv_iconst (v := 0) S.1 S.2.1 dX9_addCast_9 (by decide) ?_
  refine xaldc (f := u.1 3) (x := (u.1 3 0)) (k := 0) S hK hw 3 0 rfl rfl (by decide) rfl (xvi (a := 0) rfl (by decide) (by decide)) dX9_addCast_10 ?_
  refine xast S hK hw 9 0 rfl rfl (xvi rfl (by omega) (by omega)) (sC_9 _ _ _ _) dX9_addCast_11 (fun H locs hw => ?_)
  refine lv_aload_n S.1 S.2.1 dX9_addCast_12 rfl (lv_at hl 0 rfl) ?_
  refine xget (v := .ref (a 10)) S hK hw 4 rfl rfl inX9 7 (by decide) mfX9_27 rfl dX9_addCast_13 ?_
  refine lv_aload_n S.1 S.2.1 dX9_addCast_16 rfl (lv_at hl 0 rfl) ?_
  refine xget (v := .int (u.1 4 1)) S hK hw 4 rfl rfl inX9 1 (by decide) mfX9_37 rfl dX9_addCast_17 ?_
  refine lv_aload_n S.1 S.2.1 dX9_addCast_20 rfl (lv_at hl 1 rfl) ?_
  refine lv_iconst (v := 1) S.1 S.2.1 dX9_addCast_21 (by decide) ?_
  refine xaldc (f := u.1 3) (x := (u.1 3 1)) (k := 1) S hK hw 3 0 rfl rfl (by decide) rfl (xvi (a := 1) rfl (by decide) (by decide)) dX9_addCast_22 ?_
  refine xast S hK hw 10 0 rfl rfl (xvi rfl (by omega) (by omega)) (sC_10 _ _ _ _) dX9_addCast_23 (fun H locs hw => ?_)
  refine lv_aload_n S.1 S.2.1 dX9_addCast_24 rfl (lv_at hl 0 rfl) ?_
  refine xget (v := .ref (a 11)) S hK hw 4 rfl rfl inX9 8 (by decide) mfX9_30 rfl dX9_addCast_25 ?_
  refine lv_aload_n S.1 S.2.1 dX9_addCast_28 rfl (lv_at hl 0 rfl) ?_
  refine xget (v := .int (u.1 4 1)) S hK hw 4 rfl rfl inX9 1 (by decide) mfX9_37 rfl dX9_addCast_29 ?_
  refine lv_aload_n S.1 S.2.1 dX9_addCast_32 rfl (lv_at hl 1 rfl) ?_
  refine lv_iconst (v := 2) S.1 S.2.1 dX9_addCast_33 (by decide) ?_
  refine xaldc (f := u.1 3) (x := (u.1 3 2)) (k := 2) S hK hw 3 0 rfl rfl (by decide) rfl (xvi (a := 2) rfl (by decide) (by decide)) dX9_addCast_34 ?_
  refine xast S hK hw 11 0 rfl rfl (xvi rfl (by omega) (by omega)) (sC_11 _ _ _ _) dX9_addCast_35 (fun H locs hw => ?_)
  refine lv_aload_n S.1 S.2.1 dX9_addCast_36 rfl (lv_at hl 0 rfl) ?_
  refine lv_dup S.1 S.2.1 dX9_addCast_37 rfl ?_
  refine xget (v := .int (u.1 4 1)) S hK hw 4 rfl rfl inX9 1 (by decide) mfX9_37 rfl dX9_addCast_38 ?_
  refine lv_iconst (v := 1) S.1 S.2.1 dX9_addCast_41 (by decide) ?_
  refine lv_iadd S.1 S.2.1 dX9_addCast_42 ?_
  refine xputi (ty := .int) S hK hw 4 rfl rfl inX9 tyX9 tyX9_ok nmX9 1 (by decide) mfX9_37 rfl (by decide +kernel) rfl rfl (Nat.le_of_ble_eq_true rfl) (oC_4_1 _ _ _ _) dX9_addCast_43 (fun H locs hw => ?_)
  exact xrv S hr hlk hw hV dX9_addCast_46
noncomputable def k_Told_become_13_4_b (u : xU) : xU :=
    let w_1 := sp u 13 (upd (u.1 13) 0 (u.1 4 0))
    let w_2 := sp w_1 13 (upd (w_1.1 13) 1 (u.1 4 1))
    let w_3 := sp w_2 14 (va_cpy (u.1 5) (u.1 14) ((0 : Int32)).toNatClampNeg ((0 : Int32)).toNatClampNeg ((8 : Int32)).toNatClampNeg)
    let w_4 := sp w_3 15 (va_cpy (u.1 6) (u.1 15) ((0 : Int32)).toNatClampNeg ((0 : Int32)).toNatClampNeg ((8 : Int32)).toNatClampNeg)
    let w_5 := sp w_4 16 (va_cpy (u.1 7) (u.1 16) ((0 : Int32)).toNatClampNeg ((0 : Int32)).toNatClampNeg ((8 : Int32)).toNatClampNeg)
    let w_6 := sp w_5 17 (va_cpy (u.1 8) (u.1 17) ((0 : Int32)).toNatClampNeg ((0 : Int32)).toNatClampNeg ((8 : Int32)).toNatClampNeg)
    let w_7 := sp w_6 18 (va_cpy (u.1 9) (u.1 18) ((0 : Int32)).toNatClampNeg ((0 : Int32)).toNatClampNeg ((6 : Int32)).toNatClampNeg)
    let w_8 := sp w_7 19 (va_cpy (u.1 10) (u.1 19) ((0 : Int32)).toNatClampNeg ((0 : Int32)).toNatClampNeg ((6 : Int32)).toNatClampNeg)
    let w_9 := sp w_8 20 (va_cpy (u.1 11) (u.1 20) ((0 : Int32)).toNatClampNeg ((0 : Int32)).toNatClampNeg ((6 : Int32)).toNatClampNeg)
    w_9
theorem k_Told_become_13_4_x : ∃ f : xU → xU, f = k_Told_become_13_4_b := ⟨_, rfl⟩
noncomputable def k_Told_become_13_4 : xU → xU := k_Told_become_13_4_x.choose
theorem k_Told_become_13_4_def : k_Told_become_13_4 = k_Told_become_13_4_b := k_Told_become_13_4_x.choose_spec
set_option maxHeartbeats 4000000 in
set_option maxRecDepth 100000 in
theorem c_k_Told_become_13_4 (l : Launch) (D : va_G) (a : Nat → Nat) (Y : Nat → ClassId) (ts : Nat → Nat) (u : xU) : xMv l yX9_become cX9_become 2 none (xRm 1 60) D (xty Y) (wC a Y) ts [.ref (a 13), .ref (a 4)] u (k_Told_become_13_4 u) := by
  suffices h : ∀ V, V = k_Told_become_13_4_b u → xMv l yX9_become cX9_become 2 none (xRm 1 60) D (xty Y) (wC a Y) ts [.ref (a 13), .ref (a 4)] u V from h _ (by rw [k_Told_become_13_4_def])
  intro V hV
  refine xofv RX9 rfl (by decide) (Nat.le_of_ble_eq_true rfl) ?_
  intro p e s m args below meth c ls H locs A S hr hlk hl hK hE hA hw
  have hl : lv_has ls 2 [(0, .ref (a 13)), (1, .ref (a 4))] := hl
  refine lv_aload_n S.1 S.2.1 dX9_become_0 rfl (lv_at hl 0 rfl) ?_
  refine lv_aload_n S.1 S.2.1 dX9_become_1 rfl (lv_at hl 1 rfl) ?_
  refine xget (v := .int (u.1 4 0)) S hK hw 4 rfl rfl inX9 0 (by decide) mfX9_33 rfl dX9_become_2 ?_
  refine xputi (ty := .int) S hK hw 13 rfl rfl inX9 tyX9 tyX9_ok nmX9 0 (by decide) mfX9_33 rfl (by decide +kernel) rfl rfl (Nat.le_of_ble_eq_true rfl) (oC_13_0 _ _ _ _) dX9_become_5 (fun H locs hw => ?_)
  refine lv_aload_n S.1 S.2.1 dX9_become_8 rfl (lv_at hl 0 rfl) ?_
  refine lv_aload_n S.1 S.2.1 dX9_become_9 rfl (lv_at hl 1 rfl) ?_
  refine xget (v := .int (u.1 4 1)) S hK hw 4 rfl rfl inX9 1 (by decide) mfX9_37 rfl dX9_become_10 ?_
  refine xputi (ty := .int) S hK hw 13 rfl rfl inX9 tyX9 tyX9_ok nmX9 1 (by decide) mfX9_37 rfl (by decide +kernel) rfl rfl (Nat.le_of_ble_eq_true rfl) (oC_13_1 _ _ _ _) dX9_become_13 (fun H locs hw => ?_)
  refine lv_aload_n S.1 S.2.1 dX9_become_16 rfl (lv_at hl 1 rfl) ?_
  refine xget (v := .ref (a 5)) S hK hw 4 rfl rfl inX9 2 (by decide) mfX9_9 rfl dX9_become_17 ?_
  refine lv_iconst (v := 0) S.1 S.2.1 dX9_become_20 (by decide) ?_
  refine lv_aload_n S.1 S.2.1 dX9_become_21 rfl (lv_at hl 0 rfl) ?_
  refine xget (v := .ref (a 14)) S hK hw 13 rfl rfl inX9 2 (by decide) mfX9_9 rfl dX9_become_22 ?_
  refine lv_iconst (v := 0) S.1 S.2.1 dX9_become_25 (by decide) ?_
  refine lv_bipush (v := 8) S.1 S.2.1 dX9_become_26 (by decide) ?_
  refine xcp2 (f := u.1 5) (x := (0 : Int32)) (y := (0 : Int32)) (n := (8 : Int32)) (b1 := 0) (b2 := 0) (b3 := 8) S mlX9_40 hK ac_nat ac_st ac_in hw hl.1 5 14 0 rfl rfl rfl rfl rfl rfl (by omega) (by omega) (by omega) (by omega) (by omega) ⟨Nat.le_of_ble_eq_true rfl, by decide +kernel⟩ (sC_14 _ _ _ _) dX9_become_28 (fun H locs hw => ?_)
  refine lv_aload_n S.1 S.2.1 dX9_become_31 rfl (lv_at hl 1 rfl) ?_
  refine xget (v := .ref (a 6)) S hK hw 4 rfl rfl inX9 3 (by decide) mfX9_15 rfl dX9_become_32 ?_
  refine lv_iconst (v := 0) S.1 S.2.1 dX9_become_35 (by decide) ?_
  refine lv_aload_n S.1 S.2.1 dX9_become_36 rfl (lv_at hl 0 rfl) ?_
  refine xget (v := .ref (a 15)) S hK hw 13 rfl rfl inX9 3 (by decide) mfX9_15 rfl dX9_become_37 ?_
  refine lv_iconst (v := 0) S.1 S.2.1 dX9_become_40 (by decide) ?_
  refine lv_bipush (v := 8) S.1 S.2.1 dX9_become_41 (by decide) ?_
  refine xcp2 (f := u.1 6) (x := (0 : Int32)) (y := (0 : Int32)) (n := (8 : Int32)) (b1 := 0) (b2 := 0) (b3 := 8) S mlX9_40 hK ac_nat ac_st ac_in hw hl.1 6 15 0 rfl rfl rfl rfl rfl rfl (by omega) (by omega) (by omega) (by omega) (by omega) ⟨Nat.le_of_ble_eq_true rfl, by decide +kernel⟩ (sC_15 _ _ _ _) dX9_become_43 (fun H locs hw => ?_)
  refine lv_aload_n S.1 S.2.1 dX9_become_46 rfl (lv_at hl 1 rfl) ?_
  refine xget (v := .ref (a 7)) S hK hw 4 rfl rfl inX9 4 (by decide) mfX9_18 rfl dX9_become_47 ?_
  refine lv_iconst (v := 0) S.1 S.2.1 dX9_become_50 (by decide) ?_
  refine lv_aload_n S.1 S.2.1 dX9_become_51 rfl (lv_at hl 0 rfl) ?_
  refine xget (v := .ref (a 16)) S hK hw 13 rfl rfl inX9 4 (by decide) mfX9_18 rfl dX9_become_52 ?_
  refine lv_iconst (v := 0) S.1 S.2.1 dX9_become_55 (by decide) ?_
  refine lv_bipush (v := 8) S.1 S.2.1 dX9_become_56 (by decide) ?_
  refine xcp2 (f := u.1 7) (x := (0 : Int32)) (y := (0 : Int32)) (n := (8 : Int32)) (b1 := 0) (b2 := 0) (b3 := 8) S mlX9_40 hK ac_nat ac_st ac_in hw hl.1 7 16 0 rfl rfl rfl rfl rfl rfl (by omega) (by omega) (by omega) (by omega) (by omega) ⟨Nat.le_of_ble_eq_true rfl, by decide +kernel⟩ (sC_16 _ _ _ _) dX9_become_58 (fun H locs hw => ?_)
  refine lv_aload_n S.1 S.2.1 dX9_become_61 rfl (lv_at hl 1 rfl) ?_
  refine xget (v := .ref (a 8)) S hK hw 4 rfl rfl inX9 5 (by decide) mfX9_21 rfl dX9_become_62 ?_
  refine lv_iconst (v := 0) S.1 S.2.1 dX9_become_65 (by decide) ?_
  refine lv_aload_n S.1 S.2.1 dX9_become_66 rfl (lv_at hl 0 rfl) ?_
  refine xget (v := .ref (a 17)) S hK hw 13 rfl rfl inX9 5 (by decide) mfX9_21 rfl dX9_become_67 ?_
  refine lv_iconst (v := 0) S.1 S.2.1 dX9_become_70 (by decide) ?_
  refine lv_bipush (v := 8) S.1 S.2.1 dX9_become_71 (by decide) ?_
  refine xcp2 (f := u.1 8) (x := (0 : Int32)) (y := (0 : Int32)) (n := (8 : Int32)) (b1 := 0) (b2 := 0) (b3 := 8) S mlX9_40 hK ac_nat ac_st ac_in hw hl.1 8 17 0 rfl rfl rfl rfl rfl rfl (by omega) (by omega) (by omega) (by omega) (by omega) ⟨Nat.le_of_ble_eq_true rfl, by decide +kernel⟩ (sC_17 _ _ _ _) dX9_become_73 (fun H locs hw => ?_)
  refine lv_aload_n S.1 S.2.1 dX9_become_76 rfl (lv_at hl 1 rfl) ?_
  refine xget (v := .ref (a 9)) S hK hw 4 rfl rfl inX9 6 (by decide) mfX9_24 rfl dX9_become_77 ?_
  refine lv_iconst (v := 0) S.1 S.2.1 dX9_become_80 (by decide) ?_
  refine lv_aload_n S.1 S.2.1 dX9_become_81 rfl (lv_at hl 0 rfl) ?_
  refine xget (v := .ref (a 18)) S hK hw 13 rfl rfl inX9 6 (by decide) mfX9_24 rfl dX9_become_82 ?_
  refine lv_iconst (v := 0) S.1 S.2.1 dX9_become_85 (by decide) ?_
  refine lv_bipush (v := 6) S.1 S.2.1 dX9_become_86 (by decide) ?_
  refine xcp2 (f := u.1 9) (x := (0 : Int32)) (y := (0 : Int32)) (n := (6 : Int32)) (b1 := 0) (b2 := 0) (b3 := 6) S mlX9_40 hK ac_nat ac_st ac_in hw hl.1 9 18 0 rfl rfl rfl rfl rfl rfl (by omega) (by omega) (by omega) (by omega) (by omega) ⟨Nat.le_of_ble_eq_true rfl, by decide +kernel⟩ (sC_18 _ _ _ _) dX9_become_88 (fun H locs hw => ?_)
  refine lv_aload_n S.1 S.2.1 dX9_become_91 rfl (lv_at hl 1 rfl) ?_
  refine xget (v := .ref (a 10)) S hK hw 4 rfl rfl inX9 7 (by decide) mfX9_27 rfl dX9_become_92 ?_
  refine lv_iconst (v := 0) S.1 S.2.1 dX9_become_95 (by decide) ?_
  refine lv_aload_n S.1 S.2.1 dX9_become_96 rfl (lv_at hl 0 rfl) ?_
  refine xget (v := .ref (a 19)) S hK hw 13 rfl rfl inX9 7 (by decide) mfX9_27 rfl dX9_become_97 ?_
  refine lv_iconst (v := 0) S.1 S.2.1 dX9_become_100 (by decide) ?_
  refine lv_bipush (v := 6) S.1 S.2.1 dX9_become_101 (by decide) ?_
  refine xcp2 (f := u.1 10) (x := (0 : Int32)) (y := (0 : Int32)) (n := (6 : Int32)) (b1 := 0) (b2 := 0) (b3 := 6) S mlX9_40 hK ac_nat ac_st ac_in hw hl.1 10 19 0 rfl rfl rfl rfl rfl rfl (by omega) (by omega) (by omega) (by omega) (by omega) ⟨Nat.le_of_ble_eq_true rfl, by decide +kernel⟩ (sC_19 _ _ _ _) dX9_become_103 (fun H locs hw => ?_)
  refine lv_aload_n S.1 S.2.1 dX9_become_106 rfl (lv_at hl 1 rfl) ?_
  refine xget (v := .ref (a 11)) S hK hw 4 rfl rfl inX9 8 (by decide) mfX9_30 rfl dX9_become_107 ?_
  refine lv_iconst (v := 0) S.1 S.2.1 dX9_become_110 (by decide) ?_
  refine lv_aload_n S.1 S.2.1 dX9_become_111 rfl (lv_at hl 0 rfl) ?_
  refine xget (v := .ref (a 20)) S hK hw 13 rfl rfl inX9 8 (by decide) mfX9_30 rfl dX9_become_112 ?_
  refine lv_iconst (v := 0) S.1 S.2.1 dX9_become_115 (by decide) ?_
  refine lv_bipush (v := 6) S.1 S.2.1 dX9_become_116 (by decide) ?_
  refine xcp2 (f := u.1 11) (x := (0 : Int32)) (y := (0 : Int32)) (n := (6 : Int32)) (b1 := 0) (b2 := 0) (b3 := 6) S mlX9_40 hK ac_nat ac_st ac_in hw hl.1 11 20 0 rfl rfl rfl rfl rfl rfl (by omega) (by omega) (by omega) (by omega) (by omega) ⟨Nat.le_of_ble_eq_true rfl, by decide +kernel⟩ (sC_20 _ _ _ _) dX9_become_118 (fun H locs hw => ?_)
  exact xrv S hr hlk hw hV dX9_become_121
noncomputable def k_Hall_beginAs_b (u : xU) : xU :=
    let r_1 := k_Told_become_13_4 u
    let r_2 := k_Moment_begin r_1
    r_2
theorem k_Hall_beginAs_x : ∃ f : xU → xU, f = k_Hall_beginAs_b := ⟨_, rfl⟩
noncomputable def k_Hall_beginAs : xU → xU := k_Hall_beginAs_x.choose
theorem k_Hall_beginAs_def : k_Hall_beginAs = k_Hall_beginAs_b := k_Hall_beginAs_x.choose_spec
set_option maxHeartbeats 4000000 in
set_option maxRecDepth 100000 in
theorem c_k_Hall_beginAs (l : Launch) (D : va_G) (a : Nat → Nat) (Y : Nat → ClassId) (ts : Nat → Nat) (u : xU) : xMv l yX0_beginAs cX0_beginAs 2 none (xRm 2 81) D (xty Y) (wC a Y) ts [.ref (a 12), .ref (a 4)] u (k_Hall_beginAs u) := by
  suffices h : ∀ V, V = k_Hall_beginAs_b u → xMv l yX0_beginAs cX0_beginAs 2 none (xRm 2 81) D (xty Y) (wC a Y) ts [.ref (a 12), .ref (a 4)] u V from h _ (by rw [k_Hall_beginAs_def])
  intro V hV
  refine xofv RX0 rfl (by decide) (Nat.le_of_ble_eq_true rfl) ?_
  intro p e s m args below meth c ls H locs A S hr hlk hl hK hE hA hw
  have hl : lv_has ls 2 [(0, .ref (a 12)), (1, .ref (a 4))] := hl
  refine lv_aload_n S.1 S.2.1 dX0_beginAs_0 rfl (lv_at hl 0 rfl) ?_
  refine xget (v := .ref (a 13)) S hK hw 12 rfl rfl inX0 0 (by decide) mfX0_12 rfl dX0_beginAs_1 ?_
  refine lv_aload_n S.1 S.2.1 dX0_beginAs_4 rfl (lv_at hl 1 rfl) ?_
  refine xcVv (rest := []) S hK hE hA hw yfX9_become (c_k_Told_become_13_4 l D a Y ts _) 13 rfl rfl mlX0_25 rfl rfl hl.1 ⟨rfl, rfl, Nat.le_of_ble_eq_true rfl, Nat.le_of_ble_eq_true rfl, Nat.le_of_ble_eq_true rfl, Nat.zero_le _, Nat.zero_le _⟩ dX0_beginAs_5 (fun H locs hw => ?_)
  refine lv_aload_n S.1 S.2.1 dX0_beginAs_8 rfl (lv_at hl 0 rfl) ?_
  refine xget (v := .ref (a 21)) S hK hw 12 rfl rfl inX0 1 (by decide) mfX0_21 rfl dX0_beginAs_9 ?_
  refine lv_aload_n S.1 S.2.1 dX0_beginAs_12 rfl (lv_at hl 0 rfl) ?_
  refine xget (v := .ref (a 13)) S hK hw 12 rfl rfl inX0 0 (by decide) mfX0_12 rfl dX0_beginAs_13 ?_
  refine xget (v := .ref (a 20)) S hK hw 13 rfl rfl inX9 8 (by decide) mfX0_29 rfl dX0_beginAs_16 ?_
  refine xcVv (rest := []) S hK hE hA hw yfX4_begin (c_k_Moment_begin l D a Y ts _) 21 rfl rfl mlX0_33 rfl rfl hl.1 ⟨rfl, rfl, Nat.le_of_ble_eq_true rfl, Nat.le_of_ble_eq_true rfl, Nat.le_of_ble_eq_true rfl, Nat.zero_le _, Nat.zero_le _⟩ dX0_beginAs_19 (fun H locs hw => ?_)
  exact xrv S hr hlk hw hV dX0_beginAs_22
noncomputable def k_Hall_attend_b (u : xU) (p1 : Int32) (p2 : Int32) : xU :=
    let w_3 := sp u 22 (upd (u.1 22) (((p1 * (8 : Int32)) + p2)).toNatClampNeg ((u.1 22 (((p1 * (8 : Int32)) + p2)).toNatClampNeg) + (u.1 19 (p1).toNatClampNeg)))
    let w_4 := sp w_3 25 (upd (u.1 25) (p1).toNatClampNeg ((u.1 25 (p1).toNatClampNeg) + (u.1 14 (p2).toNatClampNeg)))
    (if (w_4.1 25 (p1).toNatClampNeg) ≤ (u.1 18 (p1).toNatClampNeg) then
    (if (w_3.1 22 (((p1 * (8 : Int32)) + p2)).toNatClampNeg) < (u.1 15 (p2).toNatClampNeg) then
    w_4
    else
    let w_7 := sp w_4 23 (upd (u.1 23) (p1).toNatClampNeg ((u.1 23 (p1).toNatClampNeg) ||| ((1 : Int32) <<< (p2 &&& 31))))
    let w_8 := sp w_7 26 (upd (u.1 26) (p1).toNatClampNeg (-1 : Int32))
    w_8)
    else
    let w_9 := sp w_4 21 (upd (u.1 21) 1 ((u.1 21 1) ||| ((1 : Int32) <<< (p1 &&& 31))))
    let w_10 := sp w_9 26 (upd (u.1 26) (p1).toNatClampNeg (-1 : Int32))
    w_10)
theorem k_Hall_attend_x : ∃ f : xU → Int32 → Int32 → xU, f = k_Hall_attend_b := ⟨_, rfl⟩
noncomputable def k_Hall_attend : xU → Int32 → Int32 → xU := k_Hall_attend_x.choose
theorem k_Hall_attend_def : k_Hall_attend = k_Hall_attend_b := k_Hall_attend_x.choose_spec
set_option maxHeartbeats 4000000 in
set_option maxRecDepth 100000 in
theorem c_k_Hall_attend (l : Launch) (D : va_G) (a : Nat → Nat) (Y : Nat → ClassId) (ts : Nat → Nat) (u : xU) (p1 : Int32) (p2 : Int32) (hp0 : 0 ≤ (p1).toInt ∧ (p1).toInt < 6) (hp1 : 0 ≤ (p2).toInt ∧ (p2).toInt < 8) : xMv l yX0_attend cX0_attend 4 none (xRm 0 0) D (xty Y) (wC a Y) ts [.ref (a 12), .int p1, .int p2] u (k_Hall_attend u p1 p2) := by
  suffices h : ∀ V, V = k_Hall_attend_b u p1 p2 → xMv l yX0_attend cX0_attend 4 none (xRm 0 0) D (xty Y) (wC a Y) ts [.ref (a 12), .int p1, .int p2] u V from h _ (by rw [k_Hall_attend_def])
  intro V hV
  refine xofv RX0 rfl (by decide) (Nat.le_of_ble_eq_true rfl) ?_
  intro p e s m args below meth c ls H locs A S hr hlk hl hK hE hA hw
  have hl : lv_has ls 4 [(0, .ref (a 12)), (1, .int p1), (2, .int p2)] := hl
  refine lv_iload_n S.1 S.2.1 dX0_attend_0 rfl (lv_at hl 1 rfl) ?_
  refine lv_bipush (v := 8) S.1 S.2.1 dX0_attend_1 (by decide) ?_
  refine lv_imul S.1 S.2.1 dX0_attend_3 ?_
  refine lv_iload_n S.1 S.2.1 dX0_attend_4 rfl (lv_at hl 2 rfl) ?_
  refine lv_iadd S.1 S.2.1 dX0_attend_5 ?_
  refine lv_istore_n (lv' := [(3, .int ((p1 * (8 : Int32)) + p2)), (0, .ref (a 12)), (1, .int p1), (2, .int p2)]) S.1 S.2.1 dX0_attend_6 rfl hl (by decide) rfl (fun ls hl => ?_)
  refine lv_aload_n S.1 S.2.1 dX0_attend_7 rfl (lv_at hl 1 rfl) ?_
  refine xget (v := .ref (a 21)) S hK hw 12 rfl rfl inX0 1 (by decide) mfX0_21 rfl dX0_attend_8 ?_
  refine xget (v := .ref (a 22)) S hK hw 21 rfl rfl inX4 2 (by decide) mfX0_87 rfl dX0_attend_11 ?_
  refine lv_iload_n S.1 S.2.1 dX0_attend_14 rfl (lv_at hl 0 rfl) ?_
  refine lv_dup2_11 S.1 S.2.1 dX0_attend_15 rfl rfl ?_
  have e_1 : ∀ _ : Unit, ((p1 * (8 : Int32))).toInt = (p1).toInt * 8 := fun _ => xmul rfl rfl (by omega) (by omega)
  have e_2 : ∀ _ : Unit, (((p1 * (8 : Int32)) + p2)).toInt = ((p1).toInt * 8) + (p2).toInt := fun _ => xadd (e_1 ()) rfl (by omega) (by omega)
  refine xald (f := u.1 22) S hK hw 22 0 rfl rfl (xvi (e_2 ()) (by omega) (by omega)) dX0_attend_16 ?_
  refine lv_aload_n S.1 S.2.1 dX0_attend_17 rfl (lv_at hl 1 rfl) ?_
  refine xget (v := .ref (a 13)) S hK hw 12 rfl rfl inX0 0 (by decide) mfX0_12 rfl dX0_attend_18 ?_
  refine xget (v := .ref (a 19)) S hK hw 13 rfl rfl inX9 7 (by decide) mfX0_90 rfl dX0_attend_21 ?_
  refine lv_iload_n S.1 S.2.1 dX0_attend_24 rfl (lv_at hl 2 rfl) ?_
  refine xald (f := u.1 19) S hK hw 19 0 rfl rfl (xvi rfl (by omega) (by omega)) dX0_attend_25 ?_
  refine lv_iadd S.1 S.2.1 dX0_attend_26 ?_
  refine xast S hK hw 22 0 rfl rfl (xvi (e_2 ()) (by omega) (by omega)) (sC_22 _ _ _ _) dX0_attend_27 (fun H locs hw => ?_)
  refine lv_aload_n S.1 S.2.1 dX0_attend_28 rfl (lv_at hl 1 rfl) ?_
  refine xget (v := .ref (a 21)) S hK hw 12 rfl rfl inX0 1 (by decide) mfX0_21 rfl dX0_attend_29 ?_
  refine xget (v := .ref (a 25)) S hK hw 21 rfl rfl inX4 5 (by decide) mfX0_93 rfl dX0_attend_32 ?_
  refine lv_iload_n S.1 S.2.1 dX0_attend_35 rfl (lv_at hl 2 rfl) ?_
  refine lv_dup2_11 S.1 S.2.1 dX0_attend_36 rfl rfl ?_
  refine xald (f := u.1 25) S hK hw 25 0 rfl rfl (xvi rfl (by omega) (by omega)) dX0_attend_37 ?_
  refine lv_aload_n S.1 S.2.1 dX0_attend_38 rfl (lv_at hl 1 rfl) ?_
  refine xget (v := .ref (a 13)) S hK hw 12 rfl rfl inX0 0 (by decide) mfX0_12 rfl dX0_attend_39 ?_
  refine xget (v := .ref (a 14)) S hK hw 13 rfl rfl inX9 2 (by decide) mfX0_96 rfl dX0_attend_42 ?_
  refine lv_iload_n S.1 S.2.1 dX0_attend_45 rfl (lv_at hl 3 rfl) ?_
  refine xald (f := u.1 14) S hK hw 14 0 rfl rfl (xvi rfl (by omega) (by omega)) dX0_attend_46 ?_
  refine lv_iadd S.1 S.2.1 dX0_attend_47 ?_
  refine xast S hK hw 25 0 rfl rfl (xvi rfl (by omega) (by omega)) (sC_25 _ _ _ _) dX0_attend_48 (fun H locs hw => ?_)
  refine lv_aload_n S.1 S.2.1 dX0_attend_49 rfl (lv_at hl 1 rfl) ?_
  refine xget (v := .ref (a 21)) S hK hw 12 rfl rfl inX0 1 (by decide) mfX0_21 rfl dX0_attend_50 ?_
  refine xget (v := .ref (a 25)) S hK hw 21 rfl rfl inX4 5 (by decide) mfX0_93 rfl dX0_attend_53 ?_
  refine lv_iload_n S.1 S.2.1 dX0_attend_56 rfl (lv_at hl 2 rfl) ?_
  refine xald (f := (upd (u.1 25) (p1).toNatClampNeg ((u.1 25 (p1).toNatClampNeg) + (u.1 14 (p2).toNatClampNeg)))) S hK hw 25 0 rfl rfl (xvi rfl (by omega) (by omega)) dX0_attend_57 ?_
  refine lv_aload_n S.1 S.2.1 dX0_attend_58 rfl (lv_at hl 1 rfl) ?_
  refine xget (v := .ref (a 13)) S hK hw 12 rfl rfl inX0 0 (by decide) mfX0_12 rfl dX0_attend_59 ?_
  refine xget (v := .ref (a 18)) S hK hw 13 rfl rfl inX9 6 (by decide) mfX0_99 rfl dX0_attend_62 ?_
  refine lv_iload_n S.1 S.2.1 dX0_attend_65 rfl (lv_at hl 2 rfl) ?_
  refine xald (f := u.1 18) S hK hw 18 0 rfl rfl (xvi rfl (by omega) (by omega)) dX0_attend_66 ?_
  refine lv_icmp_le (tgt := 98) S.1 S.2.1 dX0_attend_67 (by decide) (fun c_5 => ?_) (fun c_5 => ?_)
  · replace hV := hV.trans (if_pos c_5)
    have gc_5 : (((upd (u.1 25) (p1).toNatClampNeg ((u.1 25 (p1).toNatClampNeg) + (u.1 14 (p2).toNatClampNeg))) (p1).toNatClampNeg)).toInt ≤ ((u.1 18 (p1).toNatClampNeg)).toInt := xq_le c_5 rfl rfl
    refine lv_aload_n S.1 S.2.1 dX0_attend_98 rfl (lv_at hl 1 rfl) ?_
    refine xget (v := .ref (a 21)) S hK hw 12 rfl rfl inX0 1 (by decide) mfX0_21 rfl dX0_attend_99 ?_
    refine xget (v := .ref (a 22)) S hK hw 21 rfl rfl inX4 2 (by decide) mfX0_87 rfl dX0_attend_102 ?_
    refine lv_iload_n S.1 S.2.1 dX0_attend_105 rfl (lv_at hl 0 rfl) ?_
    refine xald (f := (upd (u.1 22) (((p1 * (8 : Int32)) + p2)).toNatClampNeg ((u.1 22 (((p1 * (8 : Int32)) + p2)).toNatClampNeg) + (u.1 19 (p1).toNatClampNeg)))) S hK hw 22 0 rfl rfl (xvi (e_2 ()) (by omega) (by omega)) dX0_attend_106 ?_
    refine lv_aload_n S.1 S.2.1 dX0_attend_107 rfl (lv_at hl 1 rfl) ?_
    refine xget (v := .ref (a 13)) S hK hw 12 rfl rfl inX0 0 (by decide) mfX0_12 rfl dX0_attend_108 ?_
    refine xget (v := .ref (a 15)) S hK hw 13 rfl rfl inX9 3 (by decide) mfX0_102 rfl dX0_attend_111 ?_
    refine lv_iload_n S.1 S.2.1 dX0_attend_114 rfl (lv_at hl 3 rfl) ?_
    refine xald (f := u.1 15) S hK hw 15 0 rfl rfl (xvi rfl (by omega) (by omega)) dX0_attend_115 ?_
    refine lv_icmp_lt (tgt := 144) S.1 S.2.1 dX0_attend_116 (by decide) (fun c_6 => ?_) (fun c_6 => ?_)
    · replace hV := hV.trans (if_pos c_6)
      have gc_6 : (((upd (u.1 22) (((p1 * (8 : Int32)) + p2)).toNatClampNeg ((u.1 22 (((p1 * (8 : Int32)) + p2)).toNatClampNeg) + (u.1 19 (p1).toNatClampNeg))) (((p1 * (8 : Int32)) + p2)).toNatClampNeg)).toInt < ((u.1 15 (p2).toNatClampNeg)).toInt := xq_lt c_6 rfl rfl
      exact xrv S hr hlk hw hV dX0_attend_144
    · replace hV := hV.trans (if_neg c_6)
      have gc_6 : ((u.1 15 (p2).toNatClampNeg)).toInt ≤ (((upd (u.1 22) (((p1 * (8 : Int32)) + p2)).toNatClampNeg ((u.1 22 (((p1 * (8 : Int32)) + p2)).toNatClampNeg) + (u.1 19 (p1).toNatClampNeg))) (((p1 * (8 : Int32)) + p2)).toNatClampNeg)).toInt := xq_nlt c_6 rfl rfl
      refine lv_aload_n S.1 S.2.1 dX0_attend_119 rfl (lv_at hl 1 rfl) ?_
      refine xget (v := .ref (a 21)) S hK hw 12 rfl rfl inX0 1 (by decide) mfX0_21 rfl dX0_attend_120 ?_
      refine xget (v := .ref (a 23)) S hK hw 21 rfl rfl inX4 3 (by decide) mfX0_59 rfl dX0_attend_123 ?_
      refine lv_iload_n S.1 S.2.1 dX0_attend_126 rfl (lv_at hl 2 rfl) ?_
      refine lv_dup2_11 S.1 S.2.1 dX0_attend_127 rfl rfl ?_
      refine xald (f := u.1 23) S hK hw 23 0 rfl rfl (xvi rfl (by omega) (by omega)) dX0_attend_128 ?_
      refine lv_iconst (v := 1) S.1 S.2.1 dX0_attend_129 (by decide) ?_
      refine lv_iload_n S.1 S.2.1 dX0_attend_130 rfl (lv_at hl 3 rfl) ?_
      refine lv_ishl S.1 S.2.1 dX0_attend_131 ?_
      refine lv_ior S.1 S.2.1 dX0_attend_132 ?_
      refine xast S hK hw 23 0 rfl rfl (xvi rfl (by omega) (by omega)) (sC_23 _ _ _ _) dX0_attend_133 (fun H locs hw => ?_)
      refine lv_aload_n S.1 S.2.1 dX0_attend_134 rfl (lv_at hl 1 rfl) ?_
      refine xget (v := .ref (a 21)) S hK hw 12 rfl rfl inX0 1 (by decide) mfX0_21 rfl dX0_attend_135 ?_
      refine xget (v := .ref (a 26)) S hK hw 21 rfl rfl inX4 6 (by decide) mfX0_71 rfl dX0_attend_138 ?_
      refine lv_iload_n S.1 S.2.1 dX0_attend_141 rfl (lv_at hl 2 rfl) ?_
      refine lv_iconst (v := -1) S.1 S.2.1 dX0_attend_142 (by decide) ?_
      refine xast S hK hw 26 0 rfl rfl (xvi rfl (by omega) (by omega)) (sC_26 _ _ _ _) dX0_attend_143 (fun H locs hw => ?_)
      exact xrv S hr hlk hw hV dX0_attend_144
  · replace hV := hV.trans (if_neg c_5)
    have gc_5 : ((u.1 18 (p1).toNatClampNeg)).toInt < (((upd (u.1 25) (p1).toNatClampNeg ((u.1 25 (p1).toNatClampNeg) + (u.1 14 (p2).toNatClampNeg))) (p1).toNatClampNeg)).toInt := xq_nle c_5 rfl rfl
    refine lv_aload_n S.1 S.2.1 dX0_attend_70 rfl (lv_at hl 1 rfl) ?_
    refine xget (v := .ref (a 21)) S hK hw 12 rfl rfl inX0 1 (by decide) mfX0_21 rfl dX0_attend_71 ?_
    refine lv_dup S.1 S.2.1 dX0_attend_74 rfl ?_
    refine xget (v := .int (u.1 21 1)) S hK hw 21 rfl rfl inX4 1 (by decide) mfX0_44 rfl dX0_attend_75 ?_
    refine lv_iconst (v := 1) S.1 S.2.1 dX0_attend_78 (by decide) ?_
    refine lv_iload_n S.1 S.2.1 dX0_attend_79 rfl (lv_at hl 2 rfl) ?_
    refine lv_ishl S.1 S.2.1 dX0_attend_80 ?_
    refine lv_ior S.1 S.2.1 dX0_attend_81 ?_
    refine xputi (ty := .int) S hK hw 21 rfl rfl inX4 tyX4 tyX4_ok nmX4 1 (by decide) mfX0_44 rfl (by decide +kernel) rfl rfl (Nat.le_of_ble_eq_true rfl) (oC_21_1 _ _ _ _) dX0_attend_82 (fun H locs hw => ?_)
    refine lv_aload_n S.1 S.2.1 dX0_attend_85 rfl (lv_at hl 1 rfl) ?_
    refine xget (v := .ref (a 21)) S hK hw 12 rfl rfl inX0 1 (by decide) mfX0_21 rfl dX0_attend_86 ?_
    refine xget (v := .ref (a 26)) S hK hw 21 rfl rfl inX4 6 (by decide) mfX0_71 rfl dX0_attend_89 ?_
    refine lv_iload_n S.1 S.2.1 dX0_attend_92 rfl (lv_at hl 2 rfl) ?_
    refine lv_iconst (v := -1) S.1 S.2.1 dX0_attend_93 (by decide) ?_
    refine xast S hK hw 26 0 rfl rfl (xvi rfl (by omega) (by omega)) (sC_26 _ _ _ _) dX0_attend_94 (fun H locs hw => ?_)
    refine lv_goto (tgt := 144) S.1 S.2.1 dX0_attend_95 (by decide) ?_
    exact xrv S hr hlk hw hV dX0_attend_144
noncomputable def k_Hall_joinOn_b (u : xU) (p1 : Int32) (p2 : Int32) (p3 : Int32) : xU :=
    let w_1 := sp u 24 (upd (u.1 24) (p1).toNatClampNeg ((u.1 24 (p1).toNatClampNeg) ||| ((1 : Int32) <<< (p3 &&& 31))))
    let w_2 := sp w_1 24 (upd (w_1.1 24) (p2).toNatClampNeg ((w_1.1 24 (p2).toNatClampNeg) &&& (((1 : Int32) <<< (p3 &&& 31)) ^^^ (-1 : Int32))))
    (if (u.1 26 (p1).toNatClampNeg) = (-1 : Int32) then
    w_2
    else
    (if (u.1 16 ((u.1 26 (p1).toNatClampNeg)).toNatClampNeg) = p3 then
    let w_5 := sp w_2 26 (upd (u.1 26) (p1).toNatClampNeg (-1 : Int32))
    w_5
    else
    w_2))
theorem k_Hall_joinOn_x : ∃ f : xU → Int32 → Int32 → Int32 → xU, f = k_Hall_joinOn_b := ⟨_, rfl⟩
noncomputable def k_Hall_joinOn : xU → Int32 → Int32 → Int32 → xU := k_Hall_joinOn_x.choose
theorem k_Hall_joinOn_def : k_Hall_joinOn = k_Hall_joinOn_b := k_Hall_joinOn_x.choose_spec
set_option maxHeartbeats 4000000 in
set_option maxRecDepth 100000 in
theorem c_k_Hall_joinOn (l : Launch) (D : va_G) (a : Nat → Nat) (Y : Nat → ClassId) (ts : Nat → Nat) (u : xU) (p1 : Int32) (p2 : Int32) (p3 : Int32) (hp0 : 0 ≤ (p1).toInt ∧ (p1).toInt < 6) (hp1 : 0 ≤ (p2).toInt ∧ (p2).toInt < 6) (hr0 : (-1 ≤ (u.1 26 (p1).toNatClampNeg).toInt ∧ (u.1 26 (p1).toNatClampNeg).toInt < 8)) : xMv l yX0_joinOn cX0_joinOn 5 none (xRm 0 0) D (xty Y) (wC a Y) ts [.ref (a 12), .int p1, .int p2, .int p3] u (k_Hall_joinOn u p1 p2 p3) := by
  suffices h : ∀ V, V = k_Hall_joinOn_b u p1 p2 p3 → xMv l yX0_joinOn cX0_joinOn 5 none (xRm 0 0) D (xty Y) (wC a Y) ts [.ref (a 12), .int p1, .int p2, .int p3] u V from h _ (by rw [k_Hall_joinOn_def])
  intro V hV
  refine xofv RX0 rfl (by decide) (Nat.le_of_ble_eq_true rfl) ?_
  intro p e s m args below meth c ls H locs A S hr hlk hl hK hE hA hw
  have hl : lv_has ls 5 [(0, .ref (a 12)), (1, .int p1), (2, .int p2), (3, .int p3)] := hl
  refine lv_aload_n S.1 S.2.1 dX0_joinOn_0 rfl (lv_at hl 0 rfl) ?_
  refine xget (v := .ref (a 21)) S hK hw 12 rfl rfl inX0 1 (by decide) mfX0_21 rfl dX0_joinOn_1 ?_
  refine xget (v := .ref (a 24)) S hK hw 21 rfl rfl inX4 4 (by decide) mfX0_51 rfl dX0_joinOn_4 ?_
  refine lv_iload_n S.1 S.2.1 dX0_joinOn_7 rfl (lv_at hl 1 rfl) ?_
  refine lv_dup2_11 S.1 S.2.1 dX0_joinOn_8 rfl rfl ?_
  refine xald (f := u.1 24) S hK hw 24 0 rfl rfl (xvi rfl (by omega) (by omega)) dX0_joinOn_9 ?_
  refine lv_iconst (v := 1) S.1 S.2.1 dX0_joinOn_10 (by decide) ?_
  refine lv_iload_n S.1 S.2.1 dX0_joinOn_11 rfl (lv_at hl 3 rfl) ?_
  refine lv_ishl S.1 S.2.1 dX0_joinOn_12 ?_
  refine lv_ior S.1 S.2.1 dX0_joinOn_13 ?_
  refine xast S hK hw 24 0 rfl rfl (xvi rfl (by omega) (by omega)) (sC_24 _ _ _ _) dX0_joinOn_14 (fun H locs hw => ?_)
  refine lv_aload_n S.1 S.2.1 dX0_joinOn_15 rfl (lv_at hl 0 rfl) ?_
  refine xget (v := .ref (a 21)) S hK hw 12 rfl rfl inX0 1 (by decide) mfX0_21 rfl dX0_joinOn_16 ?_
  refine xget (v := .ref (a 24)) S hK hw 21 rfl rfl inX4 4 (by decide) mfX0_51 rfl dX0_joinOn_19 ?_
  refine lv_iload_n S.1 S.2.1 dX0_joinOn_22 rfl (lv_at hl 2 rfl) ?_
  refine lv_dup2_11 S.1 S.2.1 dX0_joinOn_23 rfl rfl ?_
  refine xald (f := (upd (u.1 24) (p1).toNatClampNeg ((u.1 24 (p1).toNatClampNeg) ||| ((1 : Int32) <<< (p3 &&& 31))))) S hK hw 24 0 rfl rfl (xvi rfl (by omega) (by omega)) dX0_joinOn_24 ?_
  refine lv_iconst (v := 1) S.1 S.2.1 dX0_joinOn_25 (by decide) ?_
  refine lv_iload_n S.1 S.2.1 dX0_joinOn_26 rfl (lv_at hl 3 rfl) ?_
  refine lv_ishl S.1 S.2.1 dX0_joinOn_27 ?_
  refine lv_iconst (v := -1) S.1 S.2.1 dX0_joinOn_28 (by decide) ?_
  refine lv_ixor S.1 S.2.1 dX0_joinOn_29 ?_
  refine lv_iand S.1 S.2.1 dX0_joinOn_30 ?_
  refine xast S hK hw 24 0 rfl rfl (xvi rfl (by omega) (by omega)) (sC_24 _ _ _ _) dX0_joinOn_31 (fun H locs hw => ?_)
  refine lv_aload_n S.1 S.2.1 dX0_joinOn_32 rfl (lv_at hl 0 rfl) ?_
  refine xget (v := .ref (a 21)) S hK hw 12 rfl rfl inX0 1 (by decide) mfX0_21 rfl dX0_joinOn_33 ?_
  refine xget (v := .ref (a 26)) S hK hw 21 rfl rfl inX4 6 (by decide) mfX0_71 rfl dX0_joinOn_36 ?_
  refine lv_iload_n S.1 S.2.1 dX0_joinOn_39 rfl (lv_at hl 1 rfl) ?_
  refine xald (f := u.1 26) S hK hw 26 0 rfl rfl (xvi rfl (by omega) (by omega)) dX0_joinOn_40 ?_
  refine lv_istore (lv' := [(4, .int (u.1 26 (p1).toNatClampNeg)), (0, .ref (a 12)), (1, .int p1), (2, .int p2), (3, .int p3)]) S.1 S.2.1 dX0_joinOn_41 hl (by decide) rfl (fun ls hl => ?_)
  refine lv_iload S.1 S.2.1 dX0_joinOn_43 (lv_at hl 0 rfl) ?_
  refine lv_iconst (v := -1) S.1 S.2.1 dX0_joinOn_45 (by decide) ?_
  refine lv_icmp_eq (tgt := 73) S.1 S.2.1 dX0_joinOn_46 (by decide) (fun c_3 => ?_) (fun c_3 => ?_)
  · replace hV := hV.trans (if_pos c_3)
    have gc_3 : ((u.1 26 (p1).toNatClampNeg)).toInt = (-1) := xq_eq c_3 rfl rfl
    exact xrv S hr hlk hw hV dX0_joinOn_73
  · replace hV := hV.trans (if_neg c_3)
    have gc_3 : ¬ ((u.1 26 (p1).toNatClampNeg)).toInt = (-1) := xq_ne c_3 rfl rfl
    refine lv_aload_n S.1 S.2.1 dX0_joinOn_49 rfl (lv_at hl 1 rfl) ?_
    refine xget (v := .ref (a 13)) S hK hw 12 rfl rfl inX0 0 (by decide) mfX0_12 rfl dX0_joinOn_50 ?_
    refine xget (v := .ref (a 16)) S hK hw 13 rfl rfl inX9 4 (by decide) mfX0_52 rfl dX0_joinOn_53 ?_
    refine lv_iload S.1 S.2.1 dX0_joinOn_56 (lv_at hl 0 rfl) ?_
    refine xald (f := u.1 16) S hK hw 16 0 rfl rfl (xvi rfl (by omega) (by omega)) dX0_joinOn_58 ?_
    refine lv_iload_n S.1 S.2.1 dX0_joinOn_59 rfl (lv_at hl 4 rfl) ?_
    refine lv_icmp_ne (tgt := 73) S.1 S.2.1 dX0_joinOn_60 (by decide) (fun c_4 => ?_) (fun c_4 => ?_)
    · replace hV := hV.trans (if_neg c_4)
      have gc_4 : ¬ ((u.1 16 ((u.1 26 (p1).toNatClampNeg)).toNatClampNeg)).toInt = (p3).toInt := xq_ne c_4 rfl rfl
      exact xrv S hr hlk hw hV dX0_joinOn_73
    · replace hV := hV.trans (if_pos c_4)
      have gc_4 : ((u.1 16 ((u.1 26 (p1).toNatClampNeg)).toNatClampNeg)).toInt = (p3).toInt := xq_eq c_4 rfl rfl
      refine lv_aload_n S.1 S.2.1 dX0_joinOn_63 rfl (lv_at hl 1 rfl) ?_
      refine xget (v := .ref (a 21)) S hK hw 12 rfl rfl inX0 1 (by decide) mfX0_21 rfl dX0_joinOn_64 ?_
      refine xget (v := .ref (a 26)) S hK hw 21 rfl rfl inX4 6 (by decide) mfX0_71 rfl dX0_joinOn_67 ?_
      refine lv_iload_n S.1 S.2.1 dX0_joinOn_70 rfl (lv_at hl 2 rfl) ?_
      refine lv_iconst (v := -1) S.1 S.2.1 dX0_joinOn_71 (by decide) ?_
      refine xast S hK hw 26 0 rfl rfl (xvi rfl (by omega) (by omega)) (sC_26 _ _ _ _) dX0_joinOn_72 (fun H locs hw => ?_)
      exact xrv S hr hlk hw hV dX0_joinOn_73
noncomputable def k_Planner_reckon_L19 (x1 : Int32) (x2 : Int32) : Nat → Int32 → xU → xU
  | 0, _, w => w
  | n + 1, x3, w =>
    (if (w.1 13 0) ≤ x3 then
    w
    else
    let t_6 := ((w.1 15 (x3).toNatClampNeg) - (w.1 22 (((x1 * (8 : Int32)) + x3)).toNatClampNeg))
    (if x2 < t_6 then
    let w_8 := sp w 39 (upd (w.1 39) (x3).toNatClampNeg (((t_6 + x2) - (1 : Int32)) / x2))
    let w_9 := sp w_8 40 (upd (w.1 40) (x3).toNatClampNeg ((w.1 14 (x3).toNatClampNeg) * (w_8.1 39 (x3).toNatClampNeg)))
    k_Planner_reckon_L19 x1 x2 n (x3 + (1 : Int32)) w_9
    else
    let w_11 := sp w 39 (upd (w.1 39) (x3).toNatClampNeg (1 : Int32))
    let w_12 := sp w_11 40 (upd (w.1 40) (x3).toNatClampNeg ((w.1 14 (x3).toNatClampNeg) * (w_11.1 39 (x3).toNatClampNeg)))
    k_Planner_reckon_L19 x1 x2 n (x3 + (1 : Int32)) w_12))
noncomputable def k_Planner_reckon_b (u : xU) (p1 : Int32) : xU :=
    let t_1 := (if (u.1 19 (p1).toNatClampNeg) < (1 : Int32) then (1 : Int32) else (u.1 19 (p1).toNatClampNeg))
    k_Planner_reckon_L19 p1 t_1 9 (0 : Int32) u
theorem k_Planner_reckon_x : ∃ f : xU → Int32 → xU, f = k_Planner_reckon_b := ⟨_, rfl⟩
noncomputable def k_Planner_reckon : xU → Int32 → xU := k_Planner_reckon_x.choose
theorem k_Planner_reckon_def : k_Planner_reckon = k_Planner_reckon_b := k_Planner_reckon_x.choose_spec
set_option maxHeartbeats 4000000 in
set_option maxRecDepth 100000 in
theorem c_k_Planner_reckon (l : Launch) (D : va_G) (a : Nat → Nat) (Y : Nat → ClassId) (ts : Nat → Nat) (u : xU) (p1 : Int32) (hT : (0 ≤ ((u.1 13 0)).toInt ∧ ((u.1 13 0)).toInt ≤ 8)) (hC : (0 ≤ ((u.1 13 1)).toInt ∧ ((u.1 13 1)).toInt ≤ 6)) (hp0 : 0 ≤ (p1).toInt ∧ (p1).toInt < 6) : xMv l yX7_reckon cX7_reckon 5 none (xRm 1 30) D (xty Y) (wC a Y) ts [.ref (a 38), .int p1] u (k_Planner_reckon u p1) := by
  suffices h : ∀ V, V = k_Planner_reckon_b u p1 → xMv l yX7_reckon cX7_reckon 5 none (xRm 1 30) D (xty Y) (wC a Y) ts [.ref (a 38), .int p1] u V from h _ (by rw [k_Planner_reckon_def])
  intro V hV
  refine xofv RX7 rfl (by decide) (Nat.le_of_ble_eq_true rfl) ?_
  intro p e s m args below meth c ls H locs A S hr hlk hl hK hE hA hw
  have hl : lv_has ls 5 [(0, .ref (a 38)), (1, .int p1)] := hl
  refine lv_aload_n S.1 S.2.1 dX7_reckon_0 rfl (lv_at hl 0 rfl) ?_
  refine xget (v := .ref (a 12)) S hK hw 38 rfl rfl inX7 0 (by decide) mfX7_18 rfl dX7_reckon_1 ?_
  refine xget (v := .ref (a 13)) S hK hw 12 rfl rfl inX0 0 (by decide) mfX7_22 rfl dX7_reckon_4 ?_
  refine xget (v := .ref (a 19)) S hK hw 13 rfl rfl inX9 7 (by decide) mfX7_28 rfl dX7_reckon_7 ?_
  refine lv_iload_n S.1 S.2.1 dX7_reckon_10 rfl (lv_at hl 1 rfl) ?_
  refine xald (f := u.1 19) S hK hw 19 0 rfl rfl (xvi rfl (by omega) (by omega)) dX7_reckon_11 ?_
  refine lv_iconst (v := 1) S.1 S.2.1 dX7_reckon_12 (by decide) ?_
  refine xmax S hl.1 mlX7_33 mmax_st math_in mmax_cd ⟨Nat.le_of_ble_eq_true rfl, Nat.le_of_ble_eq_true rfl, Nat.zero_le _, Nat.zero_le _⟩ dX7_reckon_13 ?_
  refine lv_istore_n (lv' := [(2, .int (if (u.1 19 (p1).toNatClampNeg) < (1 : Int32) then (1 : Int32) else (u.1 19 (p1).toNatClampNeg))), (0, .ref (a 38)), (1, .int p1)]) S.1 S.2.1 dX7_reckon_16 rfl hl (by decide) rfl (fun ls hl => ?_)
  refine lv_iconst (v := 0) S.1 S.2.1 dX7_reckon_17 (by decide) ?_
  refine lv_istore_n (lv' := [(3, .int (0 : Int32)), (2, .int (if (u.1 19 (p1).toNatClampNeg) < (1 : Int32) then (1 : Int32) else (u.1 19 (p1).toNatClampNeg))), (0, .ref (a 38)), (1, .int p1)]) S.1 S.2.1 dX7_reckon_18 rfl hl (by decide) rfl (fun ls hl => ?_)
  have lp_2 : ∀ (n_2 : Nat) (x3_2 : Int32) (u_2 : xU) (H : Heap) (locs : List Loc) (ls : Array Slot), (0 ≤ (x3_2).toInt) → ((0 ≤ ((u_2.1 13 0)).toInt ∧ ((u_2.1 13 0)).toInt ≤ 8)) → ((0 ≤ ((u_2.1 13 1)).toInt ∧ ((u_2.1 13 1)).toInt ≤ 6)) → (((u_2.1 13 0)).toInt - (x3_2).toInt < (n_2 : Int) ∧ 1 ≤ n_2) → lv_has ls 5 [(0, .ref (a 38)), (1, .int p1), (2, .int (if (u.1 19 (p1).toNatClampNeg) < (1 : Int32) then (1 : Int32) else (u.1 19 (p1).toNatClampNeg))), (3, .int x3_2)] → xw D (wC a Y) A s.heap H locs u_2 → V = k_Planner_reckon_L19 p1 (if (u.1 19 (p1).toNatClampNeg) < (1 : Int32) then (1 : Int32) else (u.1 19 (p1).toNatClampNeg)) n_2 x3_2 u_2 → W p l e (xRm 1 30) s m args below meth c H locs 0 0 (MQ below (va_Qv (fun v => v = V) (xPost D (wC a Y) A) A) args s 0 0 A) (F0 m 19 ls []) := by
    intro n_2
    induction n_2 with
    | zero => intro x3_2 u_2 H locs ls i0_2 i1_2 i2_2 hn; exact absurd hn.2 (by decide)
    | succ n_2 ih_2 =>
      intro x3_2 u_2 H locs ls i0_2 i1_2 i2_2 hn_2 hl hw hV
      refine lv_iload_n S.1 S.2.1 dX7_reckon_19 rfl (lv_at hl 3 rfl) ?_
      refine lv_aload_n S.1 S.2.1 dX7_reckon_20 rfl (lv_at hl 0 rfl) ?_
      refine xget (v := .ref (a 12)) S hK hw 38 rfl rfl inX7 0 (by decide) mfX7_18 rfl dX7_reckon_21 ?_
      refine xget (v := .ref (a 13)) S hK hw 12 rfl rfl inX0 0 (by decide) mfX7_22 rfl dX7_reckon_24 ?_
      refine xget (v := .int (u_2.1 13 0)) S hK hw 13 rfl rfl inX9 0 (by decide) mfX7_39 rfl dX7_reckon_27 ?_
      refine lv_icmp_ge (tgt := 120) S.1 S.2.1 dX7_reckon_30 (by decide) (fun c_3 => ?_) (fun c_3 => ?_)
      · replace hV := hV.trans (if_pos c_3)
        have gc_3 : ((u_2.1 13 0)).toInt ≤ (x3_2).toInt := xq_le c_3 rfl rfl
        exact xrv S hr hlk hw hV dX7_reckon_120
      · replace hV := hV.trans (if_neg c_3)
        have gc_3 : (x3_2).toInt < ((u_2.1 13 0)).toInt := xq_nle c_3 rfl rfl
        refine lv_aload_n S.1 S.2.1 dX7_reckon_33 rfl (lv_at hl 0 rfl) ?_
        refine xget (v := .ref (a 12)) S hK hw 38 rfl rfl inX7 0 (by decide) mfX7_18 rfl dX7_reckon_34 ?_
        refine xget (v := .ref (a 13)) S hK hw 12 rfl rfl inX0 0 (by decide) mfX7_22 rfl dX7_reckon_37 ?_
        refine xget (v := .ref (a 15)) S hK hw 13 rfl rfl inX9 3 (by decide) mfX7_43 rfl dX7_reckon_40 ?_
        refine lv_iload_n S.1 S.2.1 dX7_reckon_43 rfl (lv_at hl 3 rfl) ?_
        refine xald (f := u_2.1 15) S hK hw 15 0 rfl rfl (xvi rfl (by omega) (by omega)) dX7_reckon_44 ?_
        refine lv_aload_n S.1 S.2.1 dX7_reckon_45 rfl (lv_at hl 0 rfl) ?_
        refine xget (v := .ref (a 12)) S hK hw 38 rfl rfl inX7 0 (by decide) mfX7_18 rfl dX7_reckon_46 ?_
        refine xget (v := .ref (a 21)) S hK hw 12 rfl rfl inX0 1 (by decide) mfX7_46 rfl dX7_reckon_49 ?_
        refine xget (v := .ref (a 22)) S hK hw 21 rfl rfl inX4 2 (by decide) mfX7_50 rfl dX7_reckon_52 ?_
        refine lv_iload_n S.1 S.2.1 dX7_reckon_55 rfl (lv_at hl 1 rfl) ?_
        refine lv_bipush (v := 8) S.1 S.2.1 dX7_reckon_56 (by decide) ?_
        refine lv_imul S.1 S.2.1 dX7_reckon_58 ?_
        refine lv_iload_n S.1 S.2.1 dX7_reckon_59 rfl (lv_at hl 3 rfl) ?_
        refine lv_iadd S.1 S.2.1 dX7_reckon_60 ?_
        have e_4 : ∀ _ : Unit, ((p1 * (8 : Int32))).toInt = (p1).toInt * 8 := fun _ => xmul rfl rfl (by omega) (by omega)
        have e_5 : ∀ _ : Unit, (((p1 * (8 : Int32)) + x3_2)).toInt = ((p1).toInt * 8) + (x3_2).toInt := fun _ => xadd (e_4 ()) rfl (by omega) (by omega)
        refine xald (f := u_2.1 22) S hK hw 22 0 rfl rfl (xvi (e_5 ()) (by omega) (by omega)) dX7_reckon_61 ?_
        refine lv_isub S.1 S.2.1 dX7_reckon_62 ?_
        refine lv_istore (lv' := [(4, .int ((u_2.1 15 (x3_2).toNatClampNeg) - (u_2.1 22 (((p1 * (8 : Int32)) + x3_2)).toNatClampNeg))), (0, .ref (a 38)), (1, .int p1), (2, .int (if (u.1 19 (p1).toNatClampNeg) < (1 : Int32) then (1 : Int32) else (u.1 19 (p1).toNatClampNeg))), (3, .int x3_2)]) S.1 S.2.1 dX7_reckon_63 hl (by decide) rfl (fun ls hl => ?_)
        refine lv_aload_n S.1 S.2.1 dX7_reckon_65 rfl (lv_at hl 1 rfl) ?_
        refine xget (v := .ref (a 39)) S hK hw 38 rfl rfl inX7 1 (by decide) mfX7_9 rfl dX7_reckon_66 ?_
        refine lv_iload_n S.1 S.2.1 dX7_reckon_69 rfl (lv_at hl 4 rfl) ?_
        refine lv_iload S.1 S.2.1 dX7_reckon_70 (lv_at hl 0 rfl) ?_
        refine lv_iload_n S.1 S.2.1 dX7_reckon_72 rfl (lv_at hl 3 rfl) ?_
        refine lv_icmp_gt (tgt := 80) S.1 S.2.1 dX7_reckon_73 (by decide) (fun c_7 => ?_) (fun c_7 => ?_)
        · replace hV := hV.trans (if_pos c_7)
          refine lv_iload S.1 S.2.1 dX7_reckon_80 (lv_at hl 0 rfl) ?_
          refine lv_iload_n S.1 S.2.1 dX7_reckon_82 rfl (lv_at hl 3 rfl) ?_
          refine lv_iadd S.1 S.2.1 dX7_reckon_83 ?_
          refine lv_iconst (v := 1) S.1 S.2.1 dX7_reckon_84 (by decide) ?_
          refine lv_isub S.1 S.2.1 dX7_reckon_85 ?_
          refine lv_iload_n S.1 S.2.1 dX7_reckon_86 rfl (lv_at hl 3 rfl) ?_
          refine lv_idiv S.1 S.2.1 dX7_reckon_87 xmx1 ?_
          refine xast S hK hw 39 0 rfl rfl (xvi rfl (by omega) (by omega)) (sC_39 _ _ _ _) dX7_reckon_88 (fun H locs hw => ?_)
          refine lv_aload_n S.1 S.2.1 dX7_reckon_89 rfl (lv_at hl 1 rfl) ?_
          refine xget (v := .ref (a 40)) S hK hw 38 rfl rfl inX7 2 (by decide) mfX7_15 rfl dX7_reckon_90 ?_
          refine lv_iload_n S.1 S.2.1 dX7_reckon_93 rfl (lv_at hl 4 rfl) ?_
          refine lv_aload_n S.1 S.2.1 dX7_reckon_94 rfl (lv_at hl 1 rfl) ?_
          refine xget (v := .ref (a 12)) S hK hw 38 rfl rfl inX7 0 (by decide) mfX7_18 rfl dX7_reckon_95 ?_
          refine xget (v := .ref (a 13)) S hK hw 12 rfl rfl inX0 0 (by decide) mfX7_22 rfl dX7_reckon_98 ?_
          refine xget (v := .ref (a 14)) S hK hw 13 rfl rfl inX9 2 (by decide) mfX7_55 rfl dX7_reckon_101 ?_
          refine lv_iload_n S.1 S.2.1 dX7_reckon_104 rfl (lv_at hl 4 rfl) ?_
          refine xald (f := u_2.1 14) S hK hw 14 0 rfl rfl (xvi rfl (by omega) (by omega)) dX7_reckon_105 ?_
          refine lv_aload_n S.1 S.2.1 dX7_reckon_106 rfl (lv_at hl 1 rfl) ?_
          refine xget (v := .ref (a 39)) S hK hw 38 rfl rfl inX7 1 (by decide) mfX7_9 rfl dX7_reckon_107 ?_
          refine lv_iload_n S.1 S.2.1 dX7_reckon_110 rfl (lv_at hl 4 rfl) ?_
          refine xald (f := (upd (u_2.1 39) (x3_2).toNatClampNeg (((((u_2.1 15 (x3_2).toNatClampNeg) - (u_2.1 22 (((p1 * (8 : Int32)) + x3_2)).toNatClampNeg)) + (if (u.1 19 (p1).toNatClampNeg) < (1 : Int32) then (1 : Int32) else (u.1 19 (p1).toNatClampNeg))) - (1 : Int32)) / (if (u.1 19 (p1).toNatClampNeg) < (1 : Int32) then (1 : Int32) else (u.1 19 (p1).toNatClampNeg))))) S hK hw 39 0 rfl rfl (xvi rfl (by omega) (by omega)) dX7_reckon_111 ?_
          refine lv_imul S.1 S.2.1 dX7_reckon_112 ?_
          refine xast S hK hw 40 0 rfl rfl (xvi rfl (by omega) (by omega)) (sC_40 _ _ _ _) dX7_reckon_113 (fun H locs hw => ?_)
          refine lv_iinc (v := (x3_2 + (1 : Int32))) (lv' := [(3, .int (x3_2 + (1 : Int32))), (4, .int ((u_2.1 15 (x3_2).toNatClampNeg) - (u_2.1 22 (((p1 * (8 : Int32)) + x3_2)).toNatClampNeg))), (0, .ref (a 38)), (1, .int p1), (2, .int (if (u.1 19 (p1).toNatClampNeg) < (1 : Int32) then (1 : Int32) else (u.1 19 (p1).toNatClampNeg)))]) S.1 S.2.1 dX7_reckon_114 hl (k := 4) rfl rfl (by decide) rfl (fun ls hl => ?_)
          refine lv_goto (tgt := 19) S.1 S.2.1 dX7_reckon_117 (by decide) ?_
          have e_10 : ∀ _ : Unit, ((x3_2 + (1 : Int32))).toInt = (x3_2).toInt + 1 := fun _ => xadd rfl rfl (by omega) (by omega)
          exact ih_2 (x3_2 + (1 : Int32)) (sp (sp u_2 39 (upd (u_2.1 39) (x3_2).toNatClampNeg (((((u_2.1 15 (x3_2).toNatClampNeg) - (u_2.1 22 (((p1 * (8 : Int32)) + x3_2)).toNatClampNeg)) + (if (u.1 19 (p1).toNatClampNeg) < (1 : Int32) then (1 : Int32) else (u.1 19 (p1).toNatClampNeg))) - (1 : Int32)) / (if (u.1 19 (p1).toNatClampNeg) < (1 : Int32) then (1 : Int32) else (u.1 19 (p1).toNatClampNeg))))) 40 (upd (u_2.1 40) (x3_2).toNatClampNeg ((u_2.1 14 (x3_2).toNatClampNeg) * ((upd (u_2.1 39) (x3_2).toNatClampNeg (((((u_2.1 15 (x3_2).toNatClampNeg) - (u_2.1 22 (((p1 * (8 : Int32)) + x3_2)).toNatClampNeg)) + (if (u.1 19 (p1).toNatClampNeg) < (1 : Int32) then (1 : Int32) else (u.1 19 (p1).toNatClampNeg))) - (1 : Int32)) / (if (u.1 19 (p1).toNatClampNeg) < (1 : Int32) then (1 : Int32) else (u.1 19 (p1).toNatClampNeg)))) (x3_2).toNatClampNeg)))) _ _ _ (show 0 ≤ ((x3_2 + (1 : Int32))).toInt from by rw [(e_10 ())]; omega) (show (0 ≤ ((u_2.1 13 0)).toInt ∧ ((u_2.1 13 0)).toInt ≤ 8) from by omega) (show (0 ≤ ((u_2.1 13 1)).toInt ∧ ((u_2.1 13 1)).toInt ≤ 6) from by omega) (show ((u_2.1 13 0)).toInt - ((x3_2 + (1 : Int32))).toInt < (n_2 : Int) ∧ 1 ≤ n_2 from by rw [(e_10 ())]; omega) (lv_sub hl [2, 3, 4, 0] rfl) hw hV
        · replace hV := hV.trans (if_neg c_7)
          refine lv_iconst (v := 1) S.1 S.2.1 dX7_reckon_76 (by decide) ?_
          refine lv_goto (tgt := 88) S.1 S.2.1 dX7_reckon_77 (by decide) ?_
          refine xast S hK hw 39 0 rfl rfl (xvi rfl (by omega) (by omega)) (sC_39 _ _ _ _) dX7_reckon_88 (fun H locs hw => ?_)
          refine lv_aload_n S.1 S.2.1 dX7_reckon_89 rfl (lv_at hl 1 rfl) ?_
          refine xget (v := .ref (a 40)) S hK hw 38 rfl rfl inX7 2 (by decide) mfX7_15 rfl dX7_reckon_90 ?_
          refine lv_iload_n S.1 S.2.1 dX7_reckon_93 rfl (lv_at hl 4 rfl) ?_
          refine lv_aload_n S.1 S.2.1 dX7_reckon_94 rfl (lv_at hl 1 rfl) ?_
          refine xget (v := .ref (a 12)) S hK hw 38 rfl rfl inX7 0 (by decide) mfX7_18 rfl dX7_reckon_95 ?_
          refine xget (v := .ref (a 13)) S hK hw 12 rfl rfl inX0 0 (by decide) mfX7_22 rfl dX7_reckon_98 ?_
          refine xget (v := .ref (a 14)) S hK hw 13 rfl rfl inX9 2 (by decide) mfX7_55 rfl dX7_reckon_101 ?_
          refine lv_iload_n S.1 S.2.1 dX7_reckon_104 rfl (lv_at hl 4 rfl) ?_
          refine xald (f := u_2.1 14) S hK hw 14 0 rfl rfl (xvi rfl (by omega) (by omega)) dX7_reckon_105 ?_
          refine lv_aload_n S.1 S.2.1 dX7_reckon_106 rfl (lv_at hl 1 rfl) ?_
          refine xget (v := .ref (a 39)) S hK hw 38 rfl rfl inX7 1 (by decide) mfX7_9 rfl dX7_reckon_107 ?_
          refine lv_iload_n S.1 S.2.1 dX7_reckon_110 rfl (lv_at hl 4 rfl) ?_
          refine xald (f := (upd (u_2.1 39) (x3_2).toNatClampNeg (1 : Int32))) S hK hw 39 0 rfl rfl (xvi rfl (by omega) (by omega)) dX7_reckon_111 ?_
          refine lv_imul S.1 S.2.1 dX7_reckon_112 ?_
          refine xast S hK hw 40 0 rfl rfl (xvi rfl (by omega) (by omega)) (sC_40 _ _ _ _) dX7_reckon_113 (fun H locs hw => ?_)
          refine lv_iinc (v := (x3_2 + (1 : Int32))) (lv' := [(3, .int (x3_2 + (1 : Int32))), (4, .int ((u_2.1 15 (x3_2).toNatClampNeg) - (u_2.1 22 (((p1 * (8 : Int32)) + x3_2)).toNatClampNeg))), (0, .ref (a 38)), (1, .int p1), (2, .int (if (u.1 19 (p1).toNatClampNeg) < (1 : Int32) then (1 : Int32) else (u.1 19 (p1).toNatClampNeg)))]) S.1 S.2.1 dX7_reckon_114 hl (k := 4) rfl rfl (by decide) rfl (fun ls hl => ?_)
          refine lv_goto (tgt := 19) S.1 S.2.1 dX7_reckon_117 (by decide) ?_
          have e_13 : ∀ _ : Unit, ((x3_2 + (1 : Int32))).toInt = (x3_2).toInt + 1 := fun _ => xadd rfl rfl (by omega) (by omega)
          exact ih_2 (x3_2 + (1 : Int32)) (sp (sp u_2 39 (upd (u_2.1 39) (x3_2).toNatClampNeg (1 : Int32))) 40 (upd (u_2.1 40) (x3_2).toNatClampNeg ((u_2.1 14 (x3_2).toNatClampNeg) * ((upd (u_2.1 39) (x3_2).toNatClampNeg (1 : Int32)) (x3_2).toNatClampNeg)))) _ _ _ (show 0 ≤ ((x3_2 + (1 : Int32))).toInt from by rw [(e_13 ())]; omega) (show (0 ≤ ((u_2.1 13 0)).toInt ∧ ((u_2.1 13 0)).toInt ≤ 8) from by omega) (show (0 ≤ ((u_2.1 13 1)).toInt ∧ ((u_2.1 13 1)).toInt ≤ 6) from by omega) (show ((u_2.1 13 0)).toInt - ((x3_2 + (1 : Int32))).toInt < (n_2 : Int) ∧ 1 ≤ n_2 from by rw [(e_13 ())]; omega) (lv_sub hl [2, 3, 4, 0] rfl) hw hV
  exact lp_2 9 (0 : Int32) u _ _ _ (show 0 ≤ 0 from by omega) (show (0 ≤ ((u.1 13 0)).toInt ∧ ((u.1 13 0)).toInt ≤ 8) from by omega) (show (0 ≤ ((u.1 13 1)).toInt ∧ ((u.1 13 1)).toInt ≤ 6) from by omega) (show ((u.1 13 0)).toInt - 0 < ((9 : Nat) : Int) ∧ 1 ≤ (9 : Nat) from by omega) (lv_sub hl [2, 3, 1, 0] rfl) hw hV
noncomputable def k_Owners_weigh_L75 (kk : Int32 → xU → xU) (x2 : Int32) (x3 : Int32) : Nat → Int32 → xU → xU
  | 0, _, w => w
  | n + 1, x4, w =>
    (if x2 ≤ x4 then
    kk (x3 + (-1 : Int32)) w
    else
    let w_12 := sp w 42 (upd (w.1 42) (((x3 * (256 : Int32)) + x4)).toNatClampNeg (k_Owners_mostFrom w x3 x4))
    k_Owners_weigh_L75 kk x2 x3 n (x4 + (1 : Int32)) w_12)
noncomputable def k_Owners_weigh_L54 (x2 : Int32) : Nat → Int32 → xU → xU
  | 0, _, w => w
  | n + 1, x3, w =>
    (if x3 < (0 : Int32) then
    w
    else
    let w_6 := sp w 43 (upd (w.1 43) (x3).toNatClampNeg (k_Hall_allItMay w x3))
    k_Owners_weigh_L75 (fun (z3 : Int32) (zu : xU) => k_Owners_weigh_L54 x2 n z3 zu) x2 x3 257 (0 : Int32) w_6)
noncomputable def k_Owners_weigh_L26 (x1 : Int32) (x2 : Int32) : Nat → Int32 → xU → xU
  | 0, _, w => w
  | n + 1, x3, w =>
    (if x2 ≤ x3 then
    k_Owners_weigh_L54 x2 7 (x1 - (1 : Int32)) w
    else
    let w_16 := sp w 42 (upd (w.1 42) (((x1 * (256 : Int32)) + x3)).toNatClampNeg (0 : Int32))
    k_Owners_weigh_L26 x1 x2 n (x3 + (1 : Int32)) w_16)
noncomputable def k_Owners_weigh_b (u : xU) : xU :=
    k_Owners_weigh_L26 (u.1 13 1) ((1 : Int32) <<< ((u.1 13 0) &&& 31)) 257 (0 : Int32) u
theorem k_Owners_weigh_x : ∃ f : xU → xU, f = k_Owners_weigh_b := ⟨_, rfl⟩
noncomputable def k_Owners_weigh : xU → xU := k_Owners_weigh_x.choose
theorem k_Owners_weigh_def : k_Owners_weigh = k_Owners_weigh_b := k_Owners_weigh_x.choose_spec
set_option maxHeartbeats 4000000 in
set_option maxRecDepth 100000 in
theorem c_k_Owners_weigh (l : Launch) (D : va_G) (a : Nat → Nat) (Y : Nat → ClassId) (ts : Nat → Nat) (u : xU) (hT : (0 ≤ ((u.1 13 0)).toInt ∧ ((u.1 13 0)).toInt ≤ 8)) (hC : (0 ≤ ((u.1 13 1)).toInt ∧ ((u.1 13 1)).toInt ≤ 6)) : xMv l yX5_weigh cX5_weigh 5 none (xRm 4 88) D (xty Y) (wC a Y) ts [.ref (a 41)] u (k_Owners_weigh u) := by
  suffices h : ∀ V, V = k_Owners_weigh_b u → xMv l yX5_weigh cX5_weigh 5 none (xRm 4 88) D (xty Y) (wC a Y) ts [.ref (a 41)] u V from h _ (by rw [k_Owners_weigh_def])
  intro V hV
  refine xofv RX5 rfl (by decide) (Nat.le_of_ble_eq_true rfl) ?_
  intro p e s m args below meth c ls H locs A S hr hlk hl hK hE hA hw
  have hl : lv_has ls 5 [(0, .ref (a 41))] := hl
  obtain ⟨vsh, esh, bsh⟩ := xsh0' (t := u.1 13 0) rfl (by omega) (by omega)
  refine lv_aload_n S.1 S.2.1 dX5_weigh_0 rfl (lv_at hl 0 rfl) ?_
  refine xget (v := .ref (a 12)) S hK hw 41 rfl rfl inX5 0 (by decide) mfX5_18 rfl dX5_weigh_1 ?_
  refine xget (v := .ref (a 13)) S hK hw 12 rfl rfl inX0 0 (by decide) mfX5_22 rfl dX5_weigh_4 ?_
  refine xget (v := .int (u.1 13 1)) S hK hw 13 rfl rfl inX9 1 (by decide) mfX5_28 rfl dX5_weigh_7 ?_
  refine lv_istore_n (lv' := [(1, .int (u.1 13 1)), (0, .ref (a 41))]) S.1 S.2.1 dX5_weigh_10 rfl hl (by decide) rfl (fun ls hl => ?_)
  refine lv_iconst (v := 1) S.1 S.2.1 dX5_weigh_11 (by decide) ?_
  refine lv_aload_n S.1 S.2.1 dX5_weigh_12 rfl (lv_at hl 1 rfl) ?_
  refine xget (v := .ref (a 12)) S hK hw 41 rfl rfl inX5 0 (by decide) mfX5_18 rfl dX5_weigh_13 ?_
  refine xget (v := .ref (a 13)) S hK hw 12 rfl rfl inX0 0 (by decide) mfX5_22 rfl dX5_weigh_16 ?_
  refine xget (v := .int (u.1 13 0)) S hK hw 13 rfl rfl inX9 0 (by decide) mfX5_34 rfl dX5_weigh_19 ?_
  refine lv_ishl S.1 S.2.1 dX5_weigh_22 ?_
  refine lv_istore_n (lv' := [(2, .int ((1 : Int32) <<< ((u.1 13 0) &&& 31))), (1, .int (u.1 13 1)), (0, .ref (a 41))]) S.1 S.2.1 dX5_weigh_23 rfl hl (by decide) rfl (fun ls hl => ?_)
  refine lv_iconst (v := 0) S.1 S.2.1 dX5_weigh_24 (by decide) ?_
  refine lv_istore_n (lv' := [(3, .int (0 : Int32)), (2, .int ((1 : Int32) <<< ((u.1 13 0) &&& 31))), (1, .int (u.1 13 1)), (0, .ref (a 41))]) S.1 S.2.1 dX5_weigh_25 rfl hl (by decide) rfl (fun ls hl => ?_)
  have lp_1 : ∀ (n_1 : Nat) (x3_1 : Int32) (u_1 : xU) (H : Heap) (locs : List Loc) (ls : Array Slot), (0 ≤ (x3_1).toInt) → ((0 ≤ ((u_1.1 13 0)).toInt ∧ ((u_1.1 13 0)).toInt ≤ 8)) → ((0 ≤ ((u_1.1 13 1)).toInt ∧ ((u_1.1 13 1)).toInt ≤ 6)) → (vsh - (x3_1).toInt < (n_1 : Int) ∧ 1 ≤ n_1) → lv_has ls 5 [(0, .ref (a 41)), (1, .int (u.1 13 1)), (2, .int ((1 : Int32) <<< ((u.1 13 0) &&& 31))), (3, .int x3_1)] → xw D (wC a Y) A s.heap H locs u_1 → V = k_Owners_weigh_L26 (u.1 13 1) ((1 : Int32) <<< ((u.1 13 0) &&& 31)) n_1 x3_1 u_1 → W p l e (xRm 4 88) s m args below meth c H locs 0 0 (MQ below (va_Qv (fun v => v = V) (xPost D (wC a Y) A) A) args s 0 0 A) (F0 m 26 ls []) := by
    intro n_1
    induction n_1 with
    | zero => intro x3_1 u_1 H locs ls i0_1 i1_1 i2_1 hn; exact absurd hn.2 (by decide)
    | succ n_1 ih_1 =>
      intro x3_1 u_1 H locs ls i0_1 i1_1 i2_1 hn_1 hl hw hV
      refine lv_iload_n S.1 S.2.1 dX5_weigh_26 rfl (lv_at hl 3 rfl) ?_
      refine lv_iload_n S.1 S.2.1 dX5_weigh_27 rfl (lv_at hl 2 rfl) ?_
      refine lv_icmp_ge (tgt := 50) S.1 S.2.1 dX5_weigh_28 (by decide) (fun c_2 => ?_) (fun c_2 => ?_)
      · replace hV := hV.trans (if_pos c_2)
        have gc_2 : vsh ≤ (x3_1).toInt := xq_le c_2 (esh ()) rfl
        refine lv_iload_n S.1 S.2.1 dX5_weigh_50 rfl (lv_at hl 1 rfl) ?_
        refine lv_iconst (v := 1) S.1 S.2.1 dX5_weigh_51 (by decide) ?_
        refine lv_isub S.1 S.2.1 dX5_weigh_52 ?_
        refine lv_istore_n (lv' := [(3, .int ((u.1 13 1) - (1 : Int32))), (0, .ref (a 41)), (1, .int (u.1 13 1)), (2, .int ((1 : Int32) <<< ((u.1 13 0) &&& 31)))]) S.1 S.2.1 dX5_weigh_53 rfl hl (by decide) rfl (fun ls hl => ?_)
        have e_4 : ∀ _ : Unit, (((u.1 13 1) - (1 : Int32))).toInt = ((u.1 13 1)).toInt - 1 := fun _ => xsub rfl rfl (by omega) (by omega)
        have lp_3 : ∀ (n_3 : Nat) (x3_3 : Int32) (u_3 : xU) (H : Heap) (locs : List Loc) (ls : Array Slot), (-1 ≤ (x3_3).toInt ∧ (x3_3).toInt ≤ (((u.1 13 1)).toInt - 1)) → ((0 ≤ ((u_3.1 13 0)).toInt ∧ ((u_3.1 13 0)).toInt ≤ 8)) → ((0 ≤ ((u_3.1 13 1)).toInt ∧ ((u_3.1 13 1)).toInt ≤ 6)) → ((x3_3).toInt + 1 < (n_3 : Int) ∧ 1 ≤ n_3) → lv_has ls 5 [(0, .ref (a 41)), (2, .int ((1 : Int32) <<< ((u.1 13 0) &&& 31))), (3, .int x3_3)] → xw D (wC a Y) A s.heap H locs u_3 → V = k_Owners_weigh_L54 ((1 : Int32) <<< ((u.1 13 0) &&& 31)) n_3 x3_3 u_3 → W p l e (xRm 4 88) s m args below meth c H locs 0 0 (MQ below (va_Qv (fun v => v = V) (xPost D (wC a Y) A) A) args s 0 0 A) (F0 m 54 ls []) := by
          intro n_3
          induction n_3 with
          | zero => intro x3_3 u_3 H locs ls i0_3 i1_3 i2_3 hn; exact absurd hn.2 (by decide)
          | succ n_3 ih_3 =>
            intro x3_3 u_3 H locs ls i0_3 i1_3 i2_3 hn_3 hl hw hV
            refine lv_iload_n S.1 S.2.1 dX5_weigh_54 rfl (lv_at hl 2 rfl) ?_
            refine lv_if_lt (tgt := 113) S.1 S.2.1 dX5_weigh_55 (by decide) (fun c_5 => ?_) (fun c_5 => ?_)
            · replace hV := hV.trans (if_pos c_5)
              have gc_5 : (x3_3).toInt < 0 := xq_lt c_5 rfl rfl
              exact xrv S hr hlk hw hV dX5_weigh_113
            · replace hV := hV.trans (if_neg c_5)
              have gc_5 : 0 ≤ (x3_3).toInt := xq_nlt c_5 rfl rfl
              refine lv_aload_n S.1 S.2.1 dX5_weigh_58 rfl (lv_at hl 0 rfl) ?_
              refine xget (v := .ref (a 43)) S hK hw 41 rfl rfl inX5 2 (by decide) mfX5_15 rfl dX5_weigh_59 ?_
              refine lv_iload_n S.1 S.2.1 dX5_weigh_62 rfl (lv_at hl 2 rfl) ?_
              refine lv_aload_n S.1 S.2.1 dX5_weigh_63 rfl (lv_at hl 0 rfl) ?_
              refine xget (v := .ref (a 12)) S hK hw 41 rfl rfl inX5 0 (by decide) mfX5_18 rfl dX5_weigh_64 ?_
              refine lv_iload_n S.1 S.2.1 dX5_weigh_67 rfl (lv_at hl 2 rfl) ?_
              refine xci (rest := [.int x3_3, .ref (a 43)]) S hK hE hA hw yfX0_allItMay (c_k_Hall_allItMay l D a Y ts _ x3_3 (show (0 ≤ ((u_3.1 13 0)).toInt ∧ ((u_3.1 13 0)).toInt ≤ 8) from by omega) (show (0 ≤ ((u_3.1 13 1)).toInt ∧ ((u_3.1 13 1)).toInt ≤ 6) from by omega) (show 0 ≤ (x3_3).toInt ∧ (x3_3).toInt < 6 from by omega)) 12 rfl rfl mlX5_37 rfl rfl hl.1 ⟨rfl, rfl, Nat.le_of_ble_eq_true rfl, Nat.le_of_ble_eq_true rfl, Nat.le_of_ble_eq_true rfl, Nat.zero_le _, Nat.zero_le _⟩ dX5_weigh_68 (fun H locs hw => ?_)
              refine xast S hK hw 43 0 rfl rfl (xvi rfl (by omega) (by omega)) (sC_43 _ _ _ _) dX5_weigh_71 (fun H locs hw => ?_)
              refine lv_iconst (v := 0) S.1 S.2.1 dX5_weigh_72 (by decide) ?_
              refine lv_istore (lv' := [(4, .int (0 : Int32)), (0, .ref (a 41)), (2, .int ((1 : Int32) <<< ((u.1 13 0) &&& 31))), (3, .int x3_3)]) S.1 S.2.1 dX5_weigh_73 hl (by decide) rfl (fun ls hl => ?_)
              have lp_7 : ∀ (n_7 : Nat) (x4_7 : Int32) (u_7 : xU) (H : Heap) (locs : List Loc) (ls : Array Slot), (0 ≤ (x4_7).toInt) → ((0 ≤ ((u_7.1 13 0)).toInt ∧ ((u_7.1 13 0)).toInt ≤ 8)) → ((0 ≤ ((u_7.1 13 1)).toInt ∧ ((u_7.1 13 1)).toInt ≤ 6)) → (vsh - (x4_7).toInt < (n_7 : Int) ∧ 1 ≤ n_7) → lv_has ls 5 [(0, .ref (a 41)), (2, .int ((1 : Int32) <<< ((u.1 13 0) &&& 31))), (3, .int x3_3), (4, .int x4_7)] → xw D (wC a Y) A s.heap H locs u_7 → V = k_Owners_weigh_L75 (fun (z3 : Int32) (zu : xU) => k_Owners_weigh_L54 ((1 : Int32) <<< ((u.1 13 0) &&& 31)) n_3 z3 zu) ((1 : Int32) <<< ((u.1 13 0) &&& 31)) x3_3 n_7 x4_7 u_7 → W p l e (xRm 4 88) s m args below meth c H locs 0 0 (MQ below (va_Qv (fun v => v = V) (xPost D (wC a Y) A) A) args s 0 0 A) (F0 m 75 ls []) := by
                intro n_7
                induction n_7 with
                | zero => intro x4_7 u_7 H locs ls i0_7 i1_7 i2_7 hn; exact absurd hn.2 (by decide)
                | succ n_7 ih_7 =>
                  intro x4_7 u_7 H locs ls i0_7 i1_7 i2_7 hn_7 hl hw hV
                  refine lv_iload S.1 S.2.1 dX5_weigh_75 (lv_at hl 3 rfl) ?_
                  refine lv_iload_n S.1 S.2.1 dX5_weigh_77 rfl (lv_at hl 1 rfl) ?_
                  refine lv_icmp_ge (tgt := 107) S.1 S.2.1 dX5_weigh_78 (by decide) (fun c_8 => ?_) (fun c_8 => ?_)
                  · replace hV := hV.trans (if_pos c_8)
                    have gc_8 : vsh ≤ (x4_7).toInt := xq_le c_8 (esh ()) rfl
                    refine lv_iinc (v := (x3_3 + (-1 : Int32))) (lv' := [(3, .int (x3_3 + (-1 : Int32))), (0, .ref (a 41)), (2, .int ((1 : Int32) <<< ((u.1 13 0) &&& 31))), (4, .int x4_7)]) S.1 S.2.1 dX5_weigh_107 hl (k := 2) rfl rfl (by decide) rfl (fun ls hl => ?_)
                    refine lv_goto (tgt := 54) S.1 S.2.1 dX5_weigh_110 (by decide) ?_
                    have e_9 : ∀ _ : Unit, ((x3_3 + (-1 : Int32))).toInt = (x3_3).toInt + (-1) := fun _ => xadd rfl rfl (by omega) (by omega)
                    clear hn_1 hn_7
                    exact ih_3 (x3_3 + (-1 : Int32)) u_7 _ _ _ (show -1 ≤ ((x3_3 + (-1 : Int32))).toInt ∧ ((x3_3 + (-1 : Int32))).toInt ≤ (((u.1 13 1)).toInt - 1) from by rw [(e_9 ())]; omega) (show (0 ≤ ((u_7.1 13 0)).toInt ∧ ((u_7.1 13 0)).toInt ≤ 8) from by omega) (show (0 ≤ ((u_7.1 13 1)).toInt ∧ ((u_7.1 13 1)).toInt ≤ 6) from by omega) (show ((x3_3 + (-1 : Int32))).toInt + 1 < (n_3 : Int) ∧ 1 ≤ n_3 from by rw [(e_9 ())]; omega) (lv_sub hl [1, 2, 0] rfl) hw hV
                  · replace hV := hV.trans (if_neg c_8)
                    have gc_8 : (x4_7).toInt < vsh := xq_nle c_8 (esh ()) rfl
                    refine lv_aload_n S.1 S.2.1 dX5_weigh_81 rfl (lv_at hl 0 rfl) ?_
                    refine xget (v := .ref (a 42)) S hK hw 41 rfl rfl inX5 1 (by decide) mfX5_11 rfl dX5_weigh_82 ?_
                    refine lv_iload_n S.1 S.2.1 dX5_weigh_85 rfl (lv_at hl 2 rfl) ?_
                    refine lv_sipush (v := 256) S.1 S.2.1 dX5_weigh_86 (by decide) ?_
                    refine lv_imul S.1 S.2.1 dX5_weigh_89 ?_
                    refine lv_iload S.1 S.2.1 dX5_weigh_90 (lv_at hl 3 rfl) ?_
                    refine lv_iadd S.1 S.2.1 dX5_weigh_92 ?_
                    refine lv_aload_n S.1 S.2.1 dX5_weigh_93 rfl (lv_at hl 0 rfl) ?_
                    refine lv_iload_n S.1 S.2.1 dX5_weigh_94 rfl (lv_at hl 2 rfl) ?_
                    refine lv_iload S.1 S.2.1 dX5_weigh_95 (lv_at hl 3 rfl) ?_
                    refine xci (rest := [.int ((x3_3 * (256 : Int32)) + x4_7), .ref (a 42)]) S hK hE hA hw yfX5_mostFrom (c_k_Owners_mostFrom l D a Y ts _ x3_3 x4_7 (show (0 ≤ ((u_7.1 13 0)).toInt ∧ ((u_7.1 13 0)).toInt ≤ 8) from by omega) (show (0 ≤ ((u_7.1 13 1)).toInt ∧ ((u_7.1 13 1)).toInt ≤ 6) from by omega) (show 0 ≤ (x3_3).toInt ∧ (x3_3).toInt < 6 from by omega) (show 0 ≤ (x4_7).toInt ∧ (x4_7).toInt < 256 from by omega)) 41 rfl rfl mlX5_41 rfl rfl hl.1 ⟨rfl, rfl, Nat.le_of_ble_eq_true rfl, Nat.le_of_ble_eq_true rfl, Nat.le_of_ble_eq_true rfl, Nat.zero_le _, Nat.zero_le _⟩ dX5_weigh_97 (fun H locs hw => ?_)
                    have e_10 : ∀ _ : Unit, ((x3_3 * (256 : Int32))).toInt = (x3_3).toInt * 256 := fun _ => xmul rfl rfl (by omega) (by omega)
                    have e_11 : ∀ _ : Unit, (((x3_3 * (256 : Int32)) + x4_7)).toInt = ((x3_3).toInt * 256) + (x4_7).toInt := fun _ => xadd (e_10 ()) rfl (by omega) (by omega)
                    refine xast S hK hw 42 0 rfl rfl (xvi (e_11 ()) (by omega) (by omega)) (sC_42 _ _ _ _) dX5_weigh_100 (fun H locs hw => ?_)
                    refine lv_iinc (v := (x4_7 + (1 : Int32))) (lv' := [(4, .int (x4_7 + (1 : Int32))), (0, .ref (a 41)), (2, .int ((1 : Int32) <<< ((u.1 13 0) &&& 31))), (3, .int x3_3)]) S.1 S.2.1 dX5_weigh_101 hl (k := 3) rfl rfl (by decide) rfl (fun ls hl => ?_)
                    refine lv_goto (tgt := 75) S.1 S.2.1 dX5_weigh_104 (by decide) ?_
                    have e_13 : ∀ _ : Unit, ((x4_7 + (1 : Int32))).toInt = (x4_7).toInt + 1 := fun _ => xadd rfl rfl (by omega) (by omega)
                    clear hn_1 hn_3
                    exact ih_7 (x4_7 + (1 : Int32)) (sp u_7 42 (upd (u_7.1 42) (((x3_3 * (256 : Int32)) + x4_7)).toNatClampNeg (k_Owners_mostFrom u_7 x3_3 x4_7))) _ _ _ (show 0 ≤ ((x4_7 + (1 : Int32))).toInt from by rw [(e_13 ())]; omega) (show (0 ≤ ((u_7.1 13 0)).toInt ∧ ((u_7.1 13 0)).toInt ≤ 8) from by omega) (show (0 ≤ ((u_7.1 13 1)).toInt ∧ ((u_7.1 13 1)).toInt ≤ 6) from by omega) (show vsh - ((x4_7 + (1 : Int32))).toInt < (n_7 : Int) ∧ 1 ≤ n_7 from by rw [(e_13 ())]; omega) (lv_sub hl [1, 2, 3, 0] rfl) hw hV
              exact lp_7 257 (0 : Int32) (sp u_3 43 (upd (u_3.1 43) (x3_3).toNatClampNeg (k_Hall_allItMay u_3 x3_3))) _ _ _ (show 0 ≤ 0 from by omega) (show (0 ≤ ((u_3.1 13 0)).toInt ∧ ((u_3.1 13 0)).toInt ≤ 8) from by omega) (show (0 ≤ ((u_3.1 13 1)).toInt ∧ ((u_3.1 13 1)).toInt ≤ 6) from by omega) (show vsh - 0 < ((257 : Nat) : Int) ∧ 1 ≤ (257 : Nat) from by omega) (lv_sub hl [1, 2, 3, 0] rfl) hw hV
        exact lp_3 7 ((u.1 13 1) - (1 : Int32)) u_1 _ _ _ (show -1 ≤ (((u.1 13 1) - (1 : Int32))).toInt ∧ (((u.1 13 1) - (1 : Int32))).toInt ≤ (((u.1 13 1)).toInt - 1) from by rw [(e_4 ())]; omega) (show (0 ≤ ((u_1.1 13 0)).toInt ∧ ((u_1.1 13 0)).toInt ≤ 8) from by omega) (show (0 ≤ ((u_1.1 13 1)).toInt ∧ ((u_1.1 13 1)).toInt ≤ 6) from by omega) (show (((u.1 13 1) - (1 : Int32))).toInt + 1 < ((7 : Nat) : Int) ∧ 1 ≤ (7 : Nat) from by rw [(e_4 ())]; omega) (lv_sub hl [1, 3, 0] rfl) hw hV
      · replace hV := hV.trans (if_neg c_2)
        have gc_2 : (x3_1).toInt < vsh := xq_nle c_2 (esh ()) rfl
        refine lv_aload_n S.1 S.2.1 dX5_weigh_31 rfl (lv_at hl 0 rfl) ?_
        refine xget (v := .ref (a 42)) S hK hw 41 rfl rfl inX5 1 (by decide) mfX5_11 rfl dX5_weigh_32 ?_
        refine lv_iload_n S.1 S.2.1 dX5_weigh_35 rfl (lv_at hl 1 rfl) ?_
        refine lv_sipush (v := 256) S.1 S.2.1 dX5_weigh_36 (by decide) ?_
        refine lv_imul S.1 S.2.1 dX5_weigh_39 ?_
        refine lv_iload_n S.1 S.2.1 dX5_weigh_40 rfl (lv_at hl 3 rfl) ?_
        refine lv_iadd S.1 S.2.1 dX5_weigh_41 ?_
        refine lv_iconst (v := 0) S.1 S.2.1 dX5_weigh_42 (by decide) ?_
        have e_14 : ∀ _ : Unit, (((u.1 13 1) * (256 : Int32))).toInt = ((u.1 13 1)).toInt * 256 := fun _ => xmul rfl rfl (by omega) (by omega)
        have e_15 : ∀ _ : Unit, ((((u.1 13 1) * (256 : Int32)) + x3_1)).toInt = (((u.1 13 1)).toInt * 256) + (x3_1).toInt := fun _ => xadd (e_14 ()) rfl (by omega) (by omega)
        refine xast S hK hw 42 0 rfl rfl (xvi (e_15 ()) (by omega) (by omega)) (sC_42 _ _ _ _) dX5_weigh_43 (fun H locs hw => ?_)
        refine lv_iinc (v := (x3_1 + (1 : Int32))) (lv' := [(3, .int (x3_1 + (1 : Int32))), (0, .ref (a 41)), (1, .int (u.1 13 1)), (2, .int ((1 : Int32) <<< ((u.1 13 0) &&& 31)))]) S.1 S.2.1 dX5_weigh_44 hl (k := 3) rfl rfl (by decide) rfl (fun ls hl => ?_)
        refine lv_goto (tgt := 26) S.1 S.2.1 dX5_weigh_47 (by decide) ?_
        have e_17 : ∀ _ : Unit, ((x3_1 + (1 : Int32))).toInt = (x3_1).toInt + 1 := fun _ => xadd rfl rfl (by omega) (by omega)
        exact ih_1 (x3_1 + (1 : Int32)) (sp u_1 42 (upd (u_1.1 42) ((((u.1 13 1) * (256 : Int32)) + x3_1)).toNatClampNeg (0 : Int32))) _ _ _ (show 0 ≤ ((x3_1 + (1 : Int32))).toInt from by rw [(e_17 ())]; omega) (show (0 ≤ ((u_1.1 13 0)).toInt ∧ ((u_1.1 13 0)).toInt ≤ 8) from by omega) (show (0 ≤ ((u_1.1 13 1)).toInt ∧ ((u_1.1 13 1)).toInt ≤ 6) from by omega) (show vsh - ((x3_1 + (1 : Int32))).toInt < (n_1 : Int) ∧ 1 ≤ n_1 from by rw [(e_17 ())]; omega) (lv_sub hl [1, 2, 3, 0] rfl) hw hV
  exact lp_1 257 (0 : Int32) u _ _ _ (show 0 ≤ 0 from by omega) (show (0 ≤ ((u.1 13 0)).toInt ∧ ((u.1 13 0)).toInt ≤ 8) from by omega) (show (0 ≤ ((u.1 13 1)).toInt ∧ ((u.1 13 1)).toInt ≤ 6) from by omega) (show vsh - 0 < ((257 : Nat) : Int) ∧ 1 ≤ (257 : Nat) from by omega) (lv_sub hl [3, 2, 1, 0] rfl) hw hV
noncomputable def k_Hearsay_add_b (u : xU) (p1 : Int32) (p2 : Int32) : xU :=
    let w_1 := sp u 45 (upd (u.1 45) ((u.1 44 3)).toNatClampNeg p1)
    let w_2 := sp w_1 46 (upd (u.1 46) ((u.1 44 3)).toNatClampNeg p2)
    let w_3 := sp w_2 44 (upd (u.1 44) 3 ((u.1 44 3) + (1 : Int32)))
    w_3
theorem k_Hearsay_add_x : ∃ f : xU → Int32 → Int32 → xU, f = k_Hearsay_add_b := ⟨_, rfl⟩
noncomputable def k_Hearsay_add : xU → Int32 → Int32 → xU := k_Hearsay_add_x.choose
theorem k_Hearsay_add_def : k_Hearsay_add = k_Hearsay_add_b := k_Hearsay_add_x.choose_spec
set_option maxHeartbeats 4000000 in
set_option maxRecDepth 100000 in
theorem c_k_Hearsay_add (l : Launch) (D : va_G) (a : Nat → Nat) (Y : Nat → ClassId) (ts : Nat → Nat) (u : xU) (p1 : Int32) (p2 : Int32) (hH : (0 ≤ ((u.1 44 3)).toInt ∧ ((u.1 44 3)).toInt ≤ 6)) (hp0 : 0 ≤ (p1).toInt ∧ (p1).toInt < 8) (hr0 : ((u.1 44 3)).toInt < 6) : xMv l yX1_add cX1_add 3 none (xRm 0 0) D (xty Y) (wC a Y) ts [.ref (a 44), .int p1, .int p2] u (k_Hearsay_add u p1 p2) := by
  suffices h : ∀ V, V = k_Hearsay_add_b u p1 p2 → xMv l yX1_add cX1_add 3 none (xRm 0 0) D (xty Y) (wC a Y) ts [.ref (a 44), .int p1, .int p2] u V from h _ (by rw [k_Hearsay_add_def])
  intro V hV
  refine xofv RX1 rfl (by decide) (Nat.le_of_ble_eq_true rfl) ?_
  intro p e s m args below meth c ls H locs A S hr hlk hl hK hE hA hw
  have hl : lv_has ls 3 [(0, .ref (a 44)), (1, .int p1), (2, .int p2)] := hl
  refine lv_aload_n S.1 S.2.1 dX1_add_0 rfl (lv_at hl 0 rfl) ?_
  refine xget (v := .ref (a 45)) S hK hw 44 rfl rfl inX1 1 (by decide) mfX1_11 rfl dX1_add_1 ?_
  refine lv_aload_n S.1 S.2.1 dX1_add_4 rfl (lv_at hl 0 rfl) ?_
  refine xget (v := .int (u.1 44 3)) S hK hw 44 rfl rfl inX1 3 (by decide) mfX1_22 rfl dX1_add_5 ?_
  refine lv_iload_n S.1 S.2.1 dX1_add_8 rfl (lv_at hl 1 rfl) ?_
  refine xast S hK hw 45 0 rfl rfl (xvi rfl (by omega) (by omega)) (sC_45 _ _ _ _) dX1_add_9 (fun H locs hw => ?_)
  refine lv_aload_n S.1 S.2.1 dX1_add_10 rfl (lv_at hl 0 rfl) ?_
  refine xget (v := .ref (a 46)) S hK hw 44 rfl rfl inX1 2 (by decide) mfX1_15 rfl dX1_add_11 ?_
  refine lv_aload_n S.1 S.2.1 dX1_add_14 rfl (lv_at hl 0 rfl) ?_
  refine xget (v := .int (u.1 44 3)) S hK hw 44 rfl rfl inX1 3 (by decide) mfX1_22 rfl dX1_add_15 ?_
  refine lv_iload_n S.1 S.2.1 dX1_add_18 rfl (lv_at hl 2 rfl) ?_
  refine xast S hK hw 46 0 rfl rfl (xvi rfl (by omega) (by omega)) (sC_46 _ _ _ _) dX1_add_19 (fun H locs hw => ?_)
  refine lv_aload_n S.1 S.2.1 dX1_add_20 rfl (lv_at hl 0 rfl) ?_
  refine lv_dup S.1 S.2.1 dX1_add_21 rfl ?_
  refine xget (v := .int (u.1 44 3)) S hK hw 44 rfl rfl inX1 3 (by decide) mfX1_22 rfl dX1_add_22 ?_
  refine lv_iconst (v := 1) S.1 S.2.1 dX1_add_25 (by decide) ?_
  refine lv_iadd S.1 S.2.1 dX1_add_26 ?_
  refine xputi (ty := .int) S hK hw 44 rfl rfl inX1 tyX1 tyX1_ok nmX1 3 (by decide) mfX1_22 rfl (by decide +kernel) rfl rfl (Nat.le_of_ble_eq_true rfl) (oC_44_3 _ _ _ _) dX1_add_27 (fun H locs hw => ?_)
  exact xrv S hr hlk hw hV dX1_add_30
