noncomputable def k_Kinds_asCast_b (u : xU) (p1 : Int32) : Int32 × xU :=
    let w_1 := sl u (u.2 + (1 : Int64))
    ((u.1 25 (p1).toNatClampNeg), w_1)
theorem k_Kinds_asCast_x : ∃ f : xU → Int32 → Int32 × xU, f = k_Kinds_asCast_b := ⟨_, rfl⟩
noncomputable def k_Kinds_asCast : xU → Int32 → Int32 × xU := k_Kinds_asCast_x.choose
theorem k_Kinds_asCast_def : k_Kinds_asCast = k_Kinds_asCast_b := k_Kinds_asCast_x.choose_spec
set_option maxHeartbeats 4000000 in
set_option maxRecDepth 100000 in
theorem c_k_Kinds_asCast (l : Launch) (D : va_G) (a : Nat → Nat) (Y : Nat → ClassId) (ts : Nat → Nat) (u : xU) (p1 : Int32) (hp0 : 0 ≤ (p1).toInt ∧ (p1).toInt < 6) : xMi l yX3_asCast cX3_asCast 2 (some .int) (xRm 0 0) D (xty Y) (wC a Y) ts [.ref (a 47), .int p1] u ((k_Kinds_asCast u p1).1, (k_Kinds_asCast u p1).2) := by
  suffices h : ∀ V, V = k_Kinds_asCast_b u p1 → xMi l yX3_asCast cX3_asCast 2 (some .int) (xRm 0 0) D (xty Y) (wC a Y) ts [.ref (a 47), .int p1] u (V.1, V.2) from h _ (by rw [k_Kinds_asCast_def])
  intro V hV
  refine xofi RX3 rfl (by decide) (Nat.le_of_ble_eq_true rfl) ?_
  intro p e s m args below meth c ls H locs A S hr hlk hl hK hE hA hw
  have hl : lv_has ls 2 [(0, .ref (a 47)), (1, .int p1)] := hl
  refine lv_aload_n S.1 S.2.1 dX3_asCast_0 rfl (lv_at hl 0 rfl) ?_
  refine lv_dup S.1 S.2.1 dX3_asCast_1 rfl ?_
  refine xget (v := .long u.2) S hK hw 47 rfl rfl inX3 1 (by decide) mfX3_32 rfl dX3_asCast_2 ?_
  refine lv_lconst (v := 1) S.1 S.2.1 dX3_asCast_5 rfl ?_
  refine lv_ladd S.1 S.2.1 dX3_asCast_6 ?_
  refine xputl S hK hw 47 rfl rfl inX3 tyX3 tyX3_ok nmX3 1 (by decide) mfX3_32 rfl (by decide +kernel) (Nat.le_of_ble_eq_true rfl) (oC_47_1 _ _ _ _) dX3_asCast_7 (fun H locs hw => ?_)
  refine lv_aload_n S.1 S.2.1 dX3_asCast_10 rfl (lv_at hl 0 rfl) ?_
  refine xget (v := .ref (a 12)) S hK hw 47 rfl rfl inX3 0 (by decide) mfX3_7 rfl dX3_asCast_11 ?_
  refine xget (v := .ref (a 21)) S hK hw 12 rfl rfl inX0 1 (by decide) mfX3_36 rfl dX3_asCast_14 ?_
  refine xget (v := .ref (a 25)) S hK hw 21 rfl rfl inX4 5 (by decide) mfX3_42 rfl dX3_asCast_17 ?_
  refine lv_iload_n S.1 S.2.1 dX3_asCast_20 rfl (lv_at hl 1 rfl) ?_
  refine xald (f := u.1 25) S hK hw 25 0 rfl rfl (xvi rfl (by omega) (by omega)) dX3_asCast_21 ?_
  exact xri S hr hlk hw hV dX3_asCast_22
noncomputable def k_Kinds_asApollo_b (u : xU) (p1 : Int32) : Int32 × xU :=
    let w_1 := sl u (u.2 + (10 : Int64))
    let r_2 := k_Kinds_asCast w_1 p1
    ((r_2.1 + (j_bitCount (r_2.2.1 23 (p1).toNatClampNeg))), r_2.2)
theorem k_Kinds_asApollo_x : ∃ f : xU → Int32 → Int32 × xU, f = k_Kinds_asApollo_b := ⟨_, rfl⟩
noncomputable def k_Kinds_asApollo : xU → Int32 → Int32 × xU := k_Kinds_asApollo_x.choose
theorem k_Kinds_asApollo_def : k_Kinds_asApollo = k_Kinds_asApollo_b := k_Kinds_asApollo_x.choose_spec
set_option maxHeartbeats 4000000 in
set_option maxRecDepth 100000 in
theorem c_k_Kinds_asApollo (l : Launch) (D : va_G) (a : Nat → Nat) (Y : Nat → ClassId) (ts : Nat → Nat) (u : xU) (p1 : Int32) (hp0 : 0 ≤ (p1).toInt ∧ (p1).toInt < 6) : xMi l yX3_asApollo cX3_asApollo 2 (some .int) (xRm 1 21) D (xty Y) (wC a Y) ts [.ref (a 47), .int p1] u ((k_Kinds_asApollo u p1).1, (k_Kinds_asApollo u p1).2) := by
  suffices h : ∀ V, V = k_Kinds_asApollo_b u p1 → xMi l yX3_asApollo cX3_asApollo 2 (some .int) (xRm 1 21) D (xty Y) (wC a Y) ts [.ref (a 47), .int p1] u (V.1, V.2) from h _ (by rw [k_Kinds_asApollo_def])
  intro V hV
  refine xofi RX3 rfl (by decide) (Nat.le_of_ble_eq_true rfl) ?_
  intro p e s m args below meth c ls H locs A S hr hlk hl hK hE hA hw
  have hl : lv_has ls 2 [(0, .ref (a 47)), (1, .int p1)] := hl
  refine lv_aload_n S.1 S.2.1 dX3_asApollo_0 rfl (lv_at hl 0 rfl) ?_
  refine lv_dup S.1 S.2.1 dX3_asApollo_1 rfl ?_
  refine xget (v := .long u.2) S hK hw 47 rfl rfl inX3 1 (by decide) mfX3_32 rfl dX3_asApollo_2 ?_
  refine lv_ldc2 (v := 10) S.1 S.2.1 S.2.2.2.1 (S.2.2.2.2 _ klX3_48) dX3_asApollo_5 ?_
  refine lv_ladd S.1 S.2.1 dX3_asApollo_8 ?_
  refine xputl S hK hw 47 rfl rfl inX3 tyX3 tyX3_ok nmX3 1 (by decide) mfX3_32 rfl (by decide +kernel) (Nat.le_of_ble_eq_true rfl) (oC_47_1 _ _ _ _) dX3_asApollo_9 (fun H locs hw => ?_)
  refine lv_aload_n S.1 S.2.1 dX3_asApollo_12 rfl (lv_at hl 0 rfl) ?_
  refine lv_iload_n S.1 S.2.1 dX3_asApollo_13 rfl (lv_at hl 1 rfl) ?_
  refine xci (rest := []) S hK hE hA hw yfX3_asCast (c_k_Kinds_asCast l D a Y ts _ p1 (show 0 ≤ (p1).toInt ∧ (p1).toInt < 6 from by omega)) 47 rfl rfl mlX3_29 rfl rfl hl.1 ⟨rfl, rfl, Nat.le_of_ble_eq_true rfl, Nat.le_of_ble_eq_true rfl, Nat.le_of_ble_eq_true rfl, Nat.zero_le _, Nat.zero_le _⟩ dX3_asApollo_14 (fun H locs hw => ?_)
  refine lv_aload_n S.1 S.2.1 dX3_asApollo_17 rfl (lv_at hl 0 rfl) ?_
  refine xget (v := .ref (a 12)) S hK hw 47 rfl rfl inX3 0 (by decide) mfX3_7 rfl dX3_asApollo_18 ?_
  refine xget (v := .ref (a 21)) S hK hw 12 rfl rfl inX0 1 (by decide) mfX3_36 rfl dX3_asApollo_21 ?_
  refine xget (v := .ref (a 23)) S hK hw 21 rfl rfl inX4 3 (by decide) mfX3_50 rfl dX3_asApollo_24 ?_
  refine lv_iload_n S.1 S.2.1 dX3_asApollo_27 rfl (lv_at hl 1 rfl) ?_
  refine xald (f := (k_Kinds_asCast (sl u (u.2 + (10 : Int64))) p1).2.1 23) S hK hw 23 0 rfl rfl (xvi rfl (by omega) (by omega)) dX3_asApollo_28 ?_
  refine xcP (rest := [.int (k_Kinds_asCast (sl u (u.2 + (10 : Int64))) p1).1]) S hw yfJ6_bitCount_0f7a4 (c_j_bitCount l ((k_Kinds_asCast (sl u (u.2 + (10 : Int64))) p1).2.1 23 (p1).toNatClampNeg)) mlX3_53 rfl rfl hl.1 ⟨rfl, rfl, Nat.le_of_ble_eq_true rfl, Nat.le_of_ble_eq_true rfl, Nat.le_of_ble_eq_true rfl, Nat.zero_le _, Nat.zero_le _⟩ dX3_asApollo_29 (fun H locs hw => ?_)
  refine lv_iadd S.1 S.2.1 dX3_asApollo_32 ?_
  exact xri S hr hlk hw hV dX3_asApollo_33
noncomputable def k_Kinds_asVenus_b (u : xU) (p1 : Int32) : Int32 × xU :=
    let w_1 := sl u (u.2 + (100 : Int64))
    let r_2 := k_Kinds_asCast w_1 p1
    ((r_2.1 - (j_bitCount (r_2.2.1 24 (p1).toNatClampNeg))), r_2.2)
theorem k_Kinds_asVenus_x : ∃ f : xU → Int32 → Int32 × xU, f = k_Kinds_asVenus_b := ⟨_, rfl⟩
noncomputable def k_Kinds_asVenus : xU → Int32 → Int32 × xU := k_Kinds_asVenus_x.choose
theorem k_Kinds_asVenus_def : k_Kinds_asVenus = k_Kinds_asVenus_b := k_Kinds_asVenus_x.choose_spec
set_option maxHeartbeats 4000000 in
set_option maxRecDepth 100000 in
theorem c_k_Kinds_asVenus (l : Launch) (D : va_G) (a : Nat → Nat) (Y : Nat → ClassId) (ts : Nat → Nat) (u : xU) (p1 : Int32) (hp0 : 0 ≤ (p1).toInt ∧ (p1).toInt < 6) : xMi l yX3_asVenus cX3_asVenus 2 (some .int) (xRm 1 21) D (xty Y) (wC a Y) ts [.ref (a 47), .int p1] u ((k_Kinds_asVenus u p1).1, (k_Kinds_asVenus u p1).2) := by
  suffices h : ∀ V, V = k_Kinds_asVenus_b u p1 → xMi l yX3_asVenus cX3_asVenus 2 (some .int) (xRm 1 21) D (xty Y) (wC a Y) ts [.ref (a 47), .int p1] u (V.1, V.2) from h _ (by rw [k_Kinds_asVenus_def])
  intro V hV
  refine xofi RX3 rfl (by decide) (Nat.le_of_ble_eq_true rfl) ?_
  intro p e s m args below meth c ls H locs A S hr hlk hl hK hE hA hw
  have hl : lv_has ls 2 [(0, .ref (a 47)), (1, .int p1)] := hl
  refine lv_aload_n S.1 S.2.1 dX3_asVenus_0 rfl (lv_at hl 0 rfl) ?_
  refine lv_dup S.1 S.2.1 dX3_asVenus_1 rfl ?_
  refine xget (v := .long u.2) S hK hw 47 rfl rfl inX3 1 (by decide) mfX3_32 rfl dX3_asVenus_2 ?_
  refine lv_ldc2 (v := 100) S.1 S.2.1 S.2.2.2.1 (S.2.2.2.2 _ klX3_58) dX3_asVenus_5 ?_
  refine lv_ladd S.1 S.2.1 dX3_asVenus_8 ?_
  refine xputl S hK hw 47 rfl rfl inX3 tyX3 tyX3_ok nmX3 1 (by decide) mfX3_32 rfl (by decide +kernel) (Nat.le_of_ble_eq_true rfl) (oC_47_1 _ _ _ _) dX3_asVenus_9 (fun H locs hw => ?_)
  refine lv_aload_n S.1 S.2.1 dX3_asVenus_12 rfl (lv_at hl 0 rfl) ?_
  refine lv_iload_n S.1 S.2.1 dX3_asVenus_13 rfl (lv_at hl 1 rfl) ?_
  refine xci (rest := []) S hK hE hA hw yfX3_asCast (c_k_Kinds_asCast l D a Y ts _ p1 (show 0 ≤ (p1).toInt ∧ (p1).toInt < 6 from by omega)) 47 rfl rfl mlX3_29 rfl rfl hl.1 ⟨rfl, rfl, Nat.le_of_ble_eq_true rfl, Nat.le_of_ble_eq_true rfl, Nat.le_of_ble_eq_true rfl, Nat.zero_le _, Nat.zero_le _⟩ dX3_asVenus_14 (fun H locs hw => ?_)
  refine lv_aload_n S.1 S.2.1 dX3_asVenus_17 rfl (lv_at hl 0 rfl) ?_
  refine xget (v := .ref (a 12)) S hK hw 47 rfl rfl inX3 0 (by decide) mfX3_7 rfl dX3_asVenus_18 ?_
  refine xget (v := .ref (a 21)) S hK hw 12 rfl rfl inX0 1 (by decide) mfX3_36 rfl dX3_asVenus_21 ?_
  refine xget (v := .ref (a 24)) S hK hw 21 rfl rfl inX4 4 (by decide) mfX3_60 rfl dX3_asVenus_24 ?_
  refine lv_iload_n S.1 S.2.1 dX3_asVenus_27 rfl (lv_at hl 1 rfl) ?_
  refine xald (f := (k_Kinds_asCast (sl u (u.2 + (100 : Int64))) p1).2.1 24) S hK hw 24 0 rfl rfl (xvi rfl (by omega) (by omega)) dX3_asVenus_28 ?_
  refine xcP (rest := [.int (k_Kinds_asCast (sl u (u.2 + (100 : Int64))) p1).1]) S hw yfJ6_bitCount_0f7a4 (c_j_bitCount l ((k_Kinds_asCast (sl u (u.2 + (100 : Int64))) p1).2.1 24 (p1).toNatClampNeg)) mlX3_53 rfl rfl hl.1 ⟨rfl, rfl, Nat.le_of_ble_eq_true rfl, Nat.le_of_ble_eq_true rfl, Nat.le_of_ble_eq_true rfl, Nat.zero_le _, Nat.zero_le _⟩ dX3_asVenus_29 (fun H locs hw => ?_)
  refine lv_isub S.1 S.2.1 dX3_asVenus_32 ?_
  exact xri S hr hlk hw hV dX3_asVenus_33
noncomputable def k_Kinds_asThrower_b (u : xU) (p1 : Int32) : Int32 × xU :=
    let w_1 := sl u (u.2 + (1000 : Int64))
    let r_2 := k_Kinds_asApollo w_1 p1
    ((r_2.1 * (2 : Int32)), r_2.2)
theorem k_Kinds_asThrower_x : ∃ f : xU → Int32 → Int32 × xU, f = k_Kinds_asThrower_b := ⟨_, rfl⟩
noncomputable def k_Kinds_asThrower : xU → Int32 → Int32 × xU := k_Kinds_asThrower_x.choose
theorem k_Kinds_asThrower_def : k_Kinds_asThrower = k_Kinds_asThrower_b := k_Kinds_asThrower_x.choose_spec
set_option maxHeartbeats 4000000 in
set_option maxRecDepth 100000 in
theorem c_k_Kinds_asThrower (l : Launch) (D : va_G) (a : Nat → Nat) (Y : Nat → ClassId) (ts : Nat → Nat) (u : xU) (p1 : Int32) (hp0 : 0 ≤ (p1).toInt ∧ (p1).toInt < 6) : xMi l yX3_asThrower cX3_asThrower 2 (some .int) (xRm 2 42) D (xty Y) (wC a Y) ts [.ref (a 47), .int p1] u ((k_Kinds_asThrower u p1).1, (k_Kinds_asThrower u p1).2) := by
  suffices h : ∀ V, V = k_Kinds_asThrower_b u p1 → xMi l yX3_asThrower cX3_asThrower 2 (some .int) (xRm 2 42) D (xty Y) (wC a Y) ts [.ref (a 47), .int p1] u (V.1, V.2) from h _ (by rw [k_Kinds_asThrower_def])
  intro V hV
  refine xofi RX3 rfl (by decide) (Nat.le_of_ble_eq_true rfl) ?_
  intro p e s m args below meth c ls H locs A S hr hlk hl hK hE hA hw
  have hl : lv_has ls 2 [(0, .ref (a 47)), (1, .int p1)] := hl
  refine lv_aload_n S.1 S.2.1 dX3_asThrower_0 rfl (lv_at hl 0 rfl) ?_
  refine lv_dup S.1 S.2.1 dX3_asThrower_1 rfl ?_
  refine xget (v := .long u.2) S hK hw 47 rfl rfl inX3 1 (by decide) mfX3_32 rfl dX3_asThrower_2 ?_
  refine lv_ldc2 (v := 1000) S.1 S.2.1 S.2.2.2.1 (S.2.2.2.2 _ klX3_63) dX3_asThrower_5 ?_
  refine lv_ladd S.1 S.2.1 dX3_asThrower_8 ?_
  refine xputl S hK hw 47 rfl rfl inX3 tyX3 tyX3_ok nmX3 1 (by decide) mfX3_32 rfl (by decide +kernel) (Nat.le_of_ble_eq_true rfl) (oC_47_1 _ _ _ _) dX3_asThrower_9 (fun H locs hw => ?_)
  refine lv_aload_n S.1 S.2.1 dX3_asThrower_12 rfl (lv_at hl 0 rfl) ?_
  refine lv_iload_n S.1 S.2.1 dX3_asThrower_13 rfl (lv_at hl 1 rfl) ?_
  refine xci (rest := []) S hK hE hA hw yfX3_asApollo (c_k_Kinds_asApollo l D a Y ts _ p1 (show 0 ≤ (p1).toInt ∧ (p1).toInt < 6 from by omega)) 47 rfl rfl mlX3_13 rfl rfl hl.1 ⟨rfl, rfl, Nat.le_of_ble_eq_true rfl, Nat.le_of_ble_eq_true rfl, Nat.le_of_ble_eq_true rfl, Nat.zero_le _, Nat.zero_le _⟩ dX3_asThrower_14 (fun H locs hw => ?_)
  refine lv_iconst (v := 2) S.1 S.2.1 dX3_asThrower_17 (by decide) ?_
  refine lv_imul S.1 S.2.1 dX3_asThrower_18 ?_
  exact xri S hr hlk hw hV dX3_asThrower_19
noncomputable def k_Kinds_asMuse_b (u : xU) (p1 : Int32) : Int32 × xU :=
    let w_1 := sl u (u.2 + (10000 : Int64))
    let r_2 := k_Kinds_asVenus w_1 p1
    ((r_2.1 + p1), r_2.2)
theorem k_Kinds_asMuse_x : ∃ f : xU → Int32 → Int32 × xU, f = k_Kinds_asMuse_b := ⟨_, rfl⟩
noncomputable def k_Kinds_asMuse : xU → Int32 → Int32 × xU := k_Kinds_asMuse_x.choose
theorem k_Kinds_asMuse_def : k_Kinds_asMuse = k_Kinds_asMuse_b := k_Kinds_asMuse_x.choose_spec
set_option maxHeartbeats 4000000 in
set_option maxRecDepth 100000 in
theorem c_k_Kinds_asMuse (l : Launch) (D : va_G) (a : Nat → Nat) (Y : Nat → ClassId) (ts : Nat → Nat) (u : xU) (p1 : Int32) (hp0 : 0 ≤ (p1).toInt ∧ (p1).toInt < 6) : xMi l yX3_asMuse cX3_asMuse 2 (some .int) (xRm 2 42) D (xty Y) (wC a Y) ts [.ref (a 47), .int p1] u ((k_Kinds_asMuse u p1).1, (k_Kinds_asMuse u p1).2) := by
  suffices h : ∀ V, V = k_Kinds_asMuse_b u p1 → xMi l yX3_asMuse cX3_asMuse 2 (some .int) (xRm 2 42) D (xty Y) (wC a Y) ts [.ref (a 47), .int p1] u (V.1, V.2) from h _ (by rw [k_Kinds_asMuse_def])
  intro V hV
  refine xofi RX3 rfl (by decide) (Nat.le_of_ble_eq_true rfl) ?_
  intro p e s m args below meth c ls H locs A S hr hlk hl hK hE hA hw
  have hl : lv_has ls 2 [(0, .ref (a 47)), (1, .int p1)] := hl
  refine lv_aload_n S.1 S.2.1 dX3_asMuse_0 rfl (lv_at hl 0 rfl) ?_
  refine lv_dup S.1 S.2.1 dX3_asMuse_1 rfl ?_
  refine xget (v := .long u.2) S hK hw 47 rfl rfl inX3 1 (by decide) mfX3_32 rfl dX3_asMuse_2 ?_
  refine lv_ldc2 (v := 10000) S.1 S.2.1 S.2.2.2.1 (S.2.2.2.2 _ klX3_65) dX3_asMuse_5 ?_
  refine lv_ladd S.1 S.2.1 dX3_asMuse_8 ?_
  refine xputl S hK hw 47 rfl rfl inX3 tyX3 tyX3_ok nmX3 1 (by decide) mfX3_32 rfl (by decide +kernel) (Nat.le_of_ble_eq_true rfl) (oC_47_1 _ _ _ _) dX3_asMuse_9 (fun H locs hw => ?_)
  refine lv_aload_n S.1 S.2.1 dX3_asMuse_12 rfl (lv_at hl 0 rfl) ?_
  refine lv_iload_n S.1 S.2.1 dX3_asMuse_13 rfl (lv_at hl 1 rfl) ?_
  refine xci (rest := []) S hK hE hA hw yfX3_asVenus (c_k_Kinds_asVenus l D a Y ts _ p1 (show 0 ≤ (p1).toInt ∧ (p1).toInt < 6 from by omega)) 47 rfl rfl mlX3_17 rfl rfl hl.1 ⟨rfl, rfl, Nat.le_of_ble_eq_true rfl, Nat.le_of_ble_eq_true rfl, Nat.le_of_ble_eq_true rfl, Nat.zero_le _, Nat.zero_le _⟩ dX3_asMuse_14 (fun H locs hw => ?_)
  refine lv_iload_n S.1 S.2.1 dX3_asMuse_17 rfl (lv_at hl 1 rfl) ?_
  refine lv_iadd S.1 S.2.1 dX3_asMuse_18 ?_
  exact xri S hr hlk hw hV dX3_asMuse_19
noncomputable def k_Kinds_asLoan_b (u : xU) (p1 : Int32) : Int32 × xU :=
    let w_1 := sl u (u.2 + (100000 : Int64))
    let r_2 := k_Kinds_asCast w_1 p1
    ((r_2.1 + (r_2.2.1 21 0)), r_2.2)
theorem k_Kinds_asLoan_x : ∃ f : xU → Int32 → Int32 × xU, f = k_Kinds_asLoan_b := ⟨_, rfl⟩
noncomputable def k_Kinds_asLoan : xU → Int32 → Int32 × xU := k_Kinds_asLoan_x.choose
theorem k_Kinds_asLoan_def : k_Kinds_asLoan = k_Kinds_asLoan_b := k_Kinds_asLoan_x.choose_spec
set_option maxHeartbeats 4000000 in
set_option maxRecDepth 100000 in
theorem c_k_Kinds_asLoan (l : Launch) (D : va_G) (a : Nat → Nat) (Y : Nat → ClassId) (ts : Nat → Nat) (u : xU) (p1 : Int32) (hp0 : 0 ≤ (p1).toInt ∧ (p1).toInt < 6) : xMi l yX3_asLoan cX3_asLoan 2 (some .int) (xRm 1 21) D (xty Y) (wC a Y) ts [.ref (a 47), .int p1] u ((k_Kinds_asLoan u p1).1, (k_Kinds_asLoan u p1).2) := by
  suffices h : ∀ V, V = k_Kinds_asLoan_b u p1 → xMi l yX3_asLoan cX3_asLoan 2 (some .int) (xRm 1 21) D (xty Y) (wC a Y) ts [.ref (a 47), .int p1] u (V.1, V.2) from h _ (by rw [k_Kinds_asLoan_def])
  intro V hV
  refine xofi RX3 rfl (by decide) (Nat.le_of_ble_eq_true rfl) ?_
  intro p e s m args below meth c ls H locs A S hr hlk hl hK hE hA hw
  have hl : lv_has ls 2 [(0, .ref (a 47)), (1, .int p1)] := hl
  refine lv_aload_n S.1 S.2.1 dX3_asLoan_0 rfl (lv_at hl 0 rfl) ?_
  refine lv_dup S.1 S.2.1 dX3_asLoan_1 rfl ?_
  refine xget (v := .long u.2) S hK hw 47 rfl rfl inX3 1 (by decide) mfX3_32 rfl dX3_asLoan_2 ?_
  refine lv_ldc2 (v := 100000) S.1 S.2.1 S.2.2.2.1 (S.2.2.2.2 _ klX3_67) dX3_asLoan_5 ?_
  refine lv_ladd S.1 S.2.1 dX3_asLoan_8 ?_
  refine xputl S hK hw 47 rfl rfl inX3 tyX3 tyX3_ok nmX3 1 (by decide) mfX3_32 rfl (by decide +kernel) (Nat.le_of_ble_eq_true rfl) (oC_47_1 _ _ _ _) dX3_asLoan_9 (fun H locs hw => ?_)
  refine lv_aload_n S.1 S.2.1 dX3_asLoan_12 rfl (lv_at hl 0 rfl) ?_
  refine lv_iload_n S.1 S.2.1 dX3_asLoan_13 rfl (lv_at hl 1 rfl) ?_
  refine xci (rest := []) S hK hE hA hw yfX3_asCast (c_k_Kinds_asCast l D a Y ts _ p1 (show 0 ≤ (p1).toInt ∧ (p1).toInt < 6 from by omega)) 47 rfl rfl mlX3_29 rfl rfl hl.1 ⟨rfl, rfl, Nat.le_of_ble_eq_true rfl, Nat.le_of_ble_eq_true rfl, Nat.le_of_ble_eq_true rfl, Nat.zero_le _, Nat.zero_le _⟩ dX3_asLoan_14 (fun H locs hw => ?_)
  refine lv_aload_n S.1 S.2.1 dX3_asLoan_17 rfl (lv_at hl 0 rfl) ?_
  refine xget (v := .ref (a 12)) S hK hw 47 rfl rfl inX3 0 (by decide) mfX3_7 rfl dX3_asLoan_18 ?_
  refine xget (v := .ref (a 21)) S hK hw 12 rfl rfl inX0 1 (by decide) mfX3_36 rfl dX3_asLoan_21 ?_
  refine xget (v := .int ((k_Kinds_asCast (sl u (u.2 + (100000 : Int64))) p1).2.1 21 0)) S hK hw 21 rfl rfl inX4 0 (by decide) mfX3_69 rfl dX3_asLoan_24 ?_
  refine lv_iadd S.1 S.2.1 dX3_asLoan_27 ?_
  exact xri S hr hlk hw hV dX3_asLoan_28
noncomputable def k_Kinds_asKind_b (u : xU) (p1 : Int32) (p2 : Int32) : Int32 × xU :=
    (if p1 = 1 then
    let r_2 := k_Kinds_asApollo u p2
    (r_2.1, r_2.2)
    else
    (if p1 = 2 then
    let r_4 := k_Kinds_asVenus u p2
    (r_4.1, r_4.2)
    else
    (if p1 = 3 then
    let r_6 := k_Kinds_asThrower u p2
    (r_6.1, r_6.2)
    else
    (if p1 = 4 then
    let r_8 := k_Kinds_asMuse u p2
    (r_8.1, r_8.2)
    else
    (if p1 = 5 then
    let r_10 := k_Kinds_asLoan u p2
    (r_10.1, r_10.2)
    else
    let r_11 := k_Kinds_asCast u p2
    (r_11.1, r_11.2))))))
theorem k_Kinds_asKind_x : ∃ f : xU → Int32 → Int32 → Int32 × xU, f = k_Kinds_asKind_b := ⟨_, rfl⟩
noncomputable def k_Kinds_asKind : xU → Int32 → Int32 → Int32 × xU := k_Kinds_asKind_x.choose
theorem k_Kinds_asKind_def : k_Kinds_asKind = k_Kinds_asKind_b := k_Kinds_asKind_x.choose_spec
set_option maxHeartbeats 4000000 in
set_option maxRecDepth 100000 in
theorem c_k_Kinds_asKind (l : Launch) (D : va_G) (a : Nat → Nat) (Y : Nat → ClassId) (ts : Nat → Nat) (u : xU) (p1 : Int32) (p2 : Int32) (hp1 : 0 ≤ (p2).toInt ∧ (p2).toInt < 6) : xMi l yX3_asKind cX3_asKind 3 (some .int) (xRm 3 63) D (xty Y) (wC a Y) ts [.ref (a 47), .int p1, .int p2] u ((k_Kinds_asKind u p1 p2).1, (k_Kinds_asKind u p1 p2).2) := by
  suffices h : ∀ V, V = k_Kinds_asKind_b u p1 p2 → xMi l yX3_asKind cX3_asKind 3 (some .int) (xRm 3 63) D (xty Y) (wC a Y) ts [.ref (a 47), .int p1, .int p2] u (V.1, V.2) from h _ (by rw [k_Kinds_asKind_def])
  intro V hV
  refine xofi RX3 rfl (by decide) (Nat.le_of_ble_eq_true rfl) ?_
  intro p e s m args below meth c ls H locs A S hr hlk hl hK hE hA hw
  have hl : lv_has ls 3 [(0, .ref (a 47)), (1, .int p1), (2, .int p2)] := hl
  refine lv_iload_n S.1 S.2.1 dX3_asKind_0 rfl (lv_at hl 1 rfl) ?_
  by_cases c_1 : p1 = 1
  · replace hV := hV.trans (if_pos c_1)
    have gc_1 : (p1).toInt = 1 := xq_eq c_1 rfl rfl
    refine lv_tableIn (tgt := 36) S.1 S.2.1 dX3_asKind_1 (by rw [c_1]; decide) (by rw [c_1]; decide) (by rw [c_1]; rfl) (by decide) ?_
    refine lv_aload_n S.1 S.2.1 dX3_asKind_36 rfl (lv_at hl 0 rfl) ?_
    refine lv_iload_n S.1 S.2.1 dX3_asKind_37 rfl (lv_at hl 2 rfl) ?_
    refine xci (rest := []) S hK hE hA hw yfX3_asApollo (c_k_Kinds_asApollo l D a Y ts _ p2 (show 0 ≤ (p2).toInt ∧ (p2).toInt < 6 from by omega)) 47 rfl rfl mlX3_13 rfl rfl hl.1 ⟨rfl, rfl, Nat.le_of_ble_eq_true rfl, Nat.le_of_ble_eq_true rfl, Nat.le_of_ble_eq_true rfl, Nat.zero_le _, Nat.zero_le _⟩ dX3_asKind_38 (fun H locs hw => ?_)
    exact xri S hr hlk hw hV dX3_asKind_41
  replace hV := hV.trans (if_neg c_1)
  by_cases c_3 : p1 = 2
  · replace hV := hV.trans (if_pos c_3)
    have gc_3 : (p1).toInt = 2 := xq_eq c_3 rfl rfl
    refine lv_tableIn (tgt := 42) S.1 S.2.1 dX3_asKind_1 (by rw [c_3]; decide) (by rw [c_3]; decide) (by rw [c_3]; rfl) (by decide) ?_
    refine lv_aload_n S.1 S.2.1 dX3_asKind_42 rfl (lv_at hl 0 rfl) ?_
    refine lv_iload_n S.1 S.2.1 dX3_asKind_43 rfl (lv_at hl 2 rfl) ?_
    refine xci (rest := []) S hK hE hA hw yfX3_asVenus (c_k_Kinds_asVenus l D a Y ts _ p2 (show 0 ≤ (p2).toInt ∧ (p2).toInt < 6 from by omega)) 47 rfl rfl mlX3_17 rfl rfl hl.1 ⟨rfl, rfl, Nat.le_of_ble_eq_true rfl, Nat.le_of_ble_eq_true rfl, Nat.le_of_ble_eq_true rfl, Nat.zero_le _, Nat.zero_le _⟩ dX3_asKind_44 (fun H locs hw => ?_)
    exact xri S hr hlk hw hV dX3_asKind_47
  replace hV := hV.trans (if_neg c_3)
  by_cases c_5 : p1 = 3
  · replace hV := hV.trans (if_pos c_5)
    have gc_5 : (p1).toInt = 3 := xq_eq c_5 rfl rfl
    refine lv_tableIn (tgt := 48) S.1 S.2.1 dX3_asKind_1 (by rw [c_5]; decide) (by rw [c_5]; decide) (by rw [c_5]; rfl) (by decide) ?_
    refine lv_aload_n S.1 S.2.1 dX3_asKind_48 rfl (lv_at hl 0 rfl) ?_
    refine lv_iload_n S.1 S.2.1 dX3_asKind_49 rfl (lv_at hl 2 rfl) ?_
    refine xci (rest := []) S hK hE hA hw yfX3_asThrower (c_k_Kinds_asThrower l D a Y ts _ p2 (show 0 ≤ (p2).toInt ∧ (p2).toInt < 6 from by omega)) 47 rfl rfl mlX3_20 rfl rfl hl.1 ⟨rfl, rfl, Nat.le_of_ble_eq_true rfl, Nat.le_of_ble_eq_true rfl, Nat.le_of_ble_eq_true rfl, Nat.zero_le _, Nat.zero_le _⟩ dX3_asKind_50 (fun H locs hw => ?_)
    exact xri S hr hlk hw hV dX3_asKind_53
  replace hV := hV.trans (if_neg c_5)
  by_cases c_7 : p1 = 4
  · replace hV := hV.trans (if_pos c_7)
    have gc_7 : (p1).toInt = 4 := xq_eq c_7 rfl rfl
    refine lv_tableIn (tgt := 54) S.1 S.2.1 dX3_asKind_1 (by rw [c_7]; decide) (by rw [c_7]; decide) (by rw [c_7]; rfl) (by decide) ?_
    refine lv_aload_n S.1 S.2.1 dX3_asKind_54 rfl (lv_at hl 0 rfl) ?_
    refine lv_iload_n S.1 S.2.1 dX3_asKind_55 rfl (lv_at hl 2 rfl) ?_
    refine xci (rest := []) S hK hE hA hw yfX3_asMuse (c_k_Kinds_asMuse l D a Y ts _ p2 (show 0 ≤ (p2).toInt ∧ (p2).toInt < 6 from by omega)) 47 rfl rfl mlX3_23 rfl rfl hl.1 ⟨rfl, rfl, Nat.le_of_ble_eq_true rfl, Nat.le_of_ble_eq_true rfl, Nat.le_of_ble_eq_true rfl, Nat.zero_le _, Nat.zero_le _⟩ dX3_asKind_56 (fun H locs hw => ?_)
    exact xri S hr hlk hw hV dX3_asKind_59
  replace hV := hV.trans (if_neg c_7)
  by_cases c_9 : p1 = 5
  · replace hV := hV.trans (if_pos c_9)
    have gc_9 : (p1).toInt = 5 := xq_eq c_9 rfl rfl
    refine lv_tableIn (tgt := 60) S.1 S.2.1 dX3_asKind_1 (by rw [c_9]; decide) (by rw [c_9]; decide) (by rw [c_9]; rfl) (by decide) ?_
    refine lv_aload_n S.1 S.2.1 dX3_asKind_60 rfl (lv_at hl 0 rfl) ?_
    refine lv_iload_n S.1 S.2.1 dX3_asKind_61 rfl (lv_at hl 2 rfl) ?_
    refine xci (rest := []) S hK hE hA hw yfX3_asLoan (c_k_Kinds_asLoan l D a Y ts _ p2 (show 0 ≤ (p2).toInt ∧ (p2).toInt < 6 from by omega)) 47 rfl rfl mlX3_26 rfl rfl hl.1 ⟨rfl, rfl, Nat.le_of_ble_eq_true rfl, Nat.le_of_ble_eq_true rfl, Nat.le_of_ble_eq_true rfl, Nat.zero_le _, Nat.zero_le _⟩ dX3_asKind_62 (fun H locs hw => ?_)
    exact xri S hr hlk hw hV dX3_asKind_65
  replace hV := hV.trans (if_neg c_9)
  have gc_1 : ¬ (p1).toInt = 1 := xq_ne c_1 rfl rfl
  have gc_3 : ¬ (p1).toInt = 2 := xq_ne c_3 rfl rfl
  have gc_5 : ¬ (p1).toInt = 3 := xq_ne c_5 rfl rfl
  have gc_7 : ¬ (p1).toInt = 4 := xq_ne c_7 rfl rfl
  have gc_9 : ¬ (p1).toInt = 5 := xq_ne c_9 rfl rfl
  refine lv_tableOut (tgt := 66) S.1 S.2.1 dX3_asKind_1 (by omega) (by decide) ?_
  refine lv_aload_n S.1 S.2.1 dX3_asKind_66 rfl (lv_at hl 0 rfl) ?_
  refine lv_iload_n S.1 S.2.1 dX3_asKind_67 rfl (lv_at hl 2 rfl) ?_
  refine xci (rest := []) S hK hE hA hw yfX3_asCast (c_k_Kinds_asCast l D a Y ts _ p2 (show 0 ≤ (p2).toInt ∧ (p2).toInt < 6 from by omega)) 47 rfl rfl mlX3_29 rfl rfl hl.1 ⟨rfl, rfl, Nat.le_of_ble_eq_true rfl, Nat.le_of_ble_eq_true rfl, Nat.le_of_ble_eq_true rfl, Nat.zero_le _, Nat.zero_le _⟩ dX3_asKind_68 (fun H locs hw => ?_)
  exact xri S hr hlk hw hV dX3_asKind_71
noncomputable def k_Moment_begin_b (u : xU) : xU :=
    let w_1 := sp u 21 (upd (u.1 21) 0 (0 : Int32))
    let w_2 := sp w_1 21 (upd (w_1.1 21) 1 (0 : Int32))
    let w_3 := sp w_2 22 (fillF (u.1 22) 48 (0 : Int32))
    let w_4 := sp w_3 23 (fillF (u.1 23) 6 (0 : Int32))
    let w_5 := sp w_4 24 (va_cpy (u.1 20) (u.1 24) ((0 : Int32)).toNatClampNeg ((0 : Int32)).toNatClampNeg ((6 : Int32)).toNatClampNeg)
    let w_6 := sp w_5 25 (fillF (u.1 25) 6 (0 : Int32))
    let w_7 := sp w_6 26 (fillF (u.1 26) 6 (-1 : Int32))
    w_7
theorem k_Moment_begin_x : ∃ f : xU → xU, f = k_Moment_begin_b := ⟨_, rfl⟩
noncomputable def k_Moment_begin : xU → xU := k_Moment_begin_x.choose
theorem k_Moment_begin_def : k_Moment_begin = k_Moment_begin_b := k_Moment_begin_x.choose_spec
set_option maxHeartbeats 4000000 in
set_option maxRecDepth 100000 in
theorem c_k_Moment_begin (l : Launch) (D : va_G) (a : Nat → Nat) (Y : Nat → ClassId) (ts : Nat → Nat) (u : xU) : xMv l yX4_begin cX4_begin 2 none (xRm 1 60) D (xty Y) (wC a Y) ts [.ref (a 21), .ref (a 20)] u (k_Moment_begin u) := by
  suffices h : ∀ V, V = k_Moment_begin_b u → xMv l yX4_begin cX4_begin 2 none (xRm 1 60) D (xty Y) (wC a Y) ts [.ref (a 21), .ref (a 20)] u V from h _ (by rw [k_Moment_begin_def])
  intro V hV
  refine xofv RX4 rfl (by decide) (Nat.le_of_ble_eq_true rfl) ?_
  intro p e s m args below meth c ls H locs A S hr hlk hl hK hE hA hw
  have hl : lv_has ls 2 [(0, .ref (a 21)), (1, .ref (a 20))] := hl
  refine lv_aload_n S.1 S.2.1 dX4_begin_0 rfl (lv_at hl 0 rfl) ?_
  refine lv_iconst (v := 0) S.1 S.2.1 dX4_begin_1 (by decide) ?_
  refine xputi (ty := .int) S hK hw 21 rfl rfl inX4 tyX4 tyX4_ok nmX4 0 (by decide) mfX4_33 rfl (by decide +kernel) rfl rfl (Nat.le_of_ble_eq_true rfl) (oC_21_0 _ _ _ _) dX4_begin_2 (fun H locs hw => ?_)
  refine lv_aload_n S.1 S.2.1 dX4_begin_5 rfl (lv_at hl 0 rfl) ?_
  refine lv_iconst (v := 0) S.1 S.2.1 dX4_begin_6 (by decide) ?_
  refine xputi (ty := .int) S hK hw 21 rfl rfl inX4 tyX4 tyX4_ok nmX4 1 (by decide) mfX4_37 rfl (by decide +kernel) rfl rfl (Nat.le_of_ble_eq_true rfl) (oC_21_1 _ _ _ _) dX4_begin_7 (fun H locs hw => ?_)
  refine lv_aload_n S.1 S.2.1 dX4_begin_10 rfl (lv_at hl 0 rfl) ?_
  refine xget (v := .ref (a 22)) S hK hw 21 rfl rfl inX4 2 (by decide) mfX4_9 rfl dX4_begin_11 ?_
  refine lv_iconst (v := 0) S.1 S.2.1 dX4_begin_14 (by decide) ?_
  refine xcSv (rest := []) S hK hE hA hw yfJ7_fill_53178 (c_fill l D ts _ 22 (a 22) 48 (Y 0) (0 : Int32) (by decide) rfl (fun _ => rfl) (sC_22 a Y)) mlX4_27 rfl rfl hl.1 ⟨rfl, rfl, Nat.le_of_ble_eq_true rfl, Nat.le_of_ble_eq_true rfl, Nat.le_of_ble_eq_true rfl, Nat.zero_le _, Nat.zero_le _⟩ dX4_begin_15 (fun H locs hw => ?_)
  refine lv_aload_n S.1 S.2.1 dX4_begin_18 rfl (lv_at hl 0 rfl) ?_
  refine xget (v := .ref (a 23)) S hK hw 21 rfl rfl inX4 3 (by decide) mfX4_15 rfl dX4_begin_19 ?_
  refine lv_iconst (v := 0) S.1 S.2.1 dX4_begin_22 (by decide) ?_
  refine xcSv (rest := []) S hK hE hA hw yfJ7_fill_53178 (c_fill l D ts _ 23 (a 23) 6 (Y 0) (0 : Int32) (by decide) rfl (fun _ => rfl) (sC_23 a Y)) mlX4_27 rfl rfl hl.1 ⟨rfl, rfl, Nat.le_of_ble_eq_true rfl, Nat.le_of_ble_eq_true rfl, Nat.le_of_ble_eq_true rfl, Nat.zero_le _, Nat.zero_le _⟩ dX4_begin_23 (fun H locs hw => ?_)
  refine lv_aload_n S.1 S.2.1 dX4_begin_26 rfl (lv_at hl 1 rfl) ?_
  refine lv_iconst (v := 0) S.1 S.2.1 dX4_begin_27 (by decide) ?_
  refine lv_aload_n S.1 S.2.1 dX4_begin_28 rfl (lv_at hl 0 rfl) ?_
  refine xget (v := .ref (a 24)) S hK hw 21 rfl rfl inX4 4 (by decide) mfX4_18 rfl dX4_begin_29 ?_
  refine lv_iconst (v := 0) S.1 S.2.1 dX4_begin_32 (by decide) ?_
  refine lv_bipush (v := 6) S.1 S.2.1 dX4_begin_33 (by decide) ?_
  refine xcp2 (f := u.1 20) (x := (0 : Int32)) (y := (0 : Int32)) (n := (6 : Int32)) (b1 := 0) (b2 := 0) (b3 := 6) S mlX4_40 hK ac_nat ac_st ac_in hw hl.1 20 24 0 rfl rfl rfl rfl rfl rfl (by omega) (by omega) (by omega) (by omega) (by omega) ⟨Nat.le_of_ble_eq_true rfl, by decide +kernel⟩ (sC_24 _ _ _ _) dX4_begin_35 (fun H locs hw => ?_)
  refine lv_aload_n S.1 S.2.1 dX4_begin_38 rfl (lv_at hl 0 rfl) ?_
  refine xget (v := .ref (a 25)) S hK hw 21 rfl rfl inX4 5 (by decide) mfX4_21 rfl dX4_begin_39 ?_
  refine lv_iconst (v := 0) S.1 S.2.1 dX4_begin_42 (by decide) ?_
  refine xcSv (rest := []) S hK hE hA hw yfJ7_fill_53178 (c_fill l D ts _ 25 (a 25) 6 (Y 0) (0 : Int32) (by decide) rfl (fun _ => rfl) (sC_25 a Y)) mlX4_27 rfl rfl hl.1 ⟨rfl, rfl, Nat.le_of_ble_eq_true rfl, Nat.le_of_ble_eq_true rfl, Nat.le_of_ble_eq_true rfl, Nat.zero_le _, Nat.zero_le _⟩ dX4_begin_43 (fun H locs hw => ?_)
  refine lv_aload_n S.1 S.2.1 dX4_begin_46 rfl (lv_at hl 0 rfl) ?_
  refine xget (v := .ref (a 26)) S hK hw 21 rfl rfl inX4 6 (by decide) mfX4_24 rfl dX4_begin_47 ?_
  refine lv_iconst (v := -1) S.1 S.2.1 dX4_begin_50 (by decide) ?_
  refine xcSv (rest := []) S hK hE hA hw yfJ7_fill_53178 (c_fill l D ts _ 26 (a 26) 6 (Y 0) (-1 : Int32) (by decide) rfl (fun _ => rfl) (sC_26 a Y)) mlX4_27 rfl rfl hl.1 ⟨rfl, rfl, Nat.le_of_ble_eq_true rfl, Nat.le_of_ble_eq_true rfl, Nat.le_of_ble_eq_true rfl, Nat.zero_le _, Nat.zero_le _⟩ dX4_begin_51 (fun H locs hw => ?_)
  exact xrv S hr hlk hw hV dX4_begin_54
noncomputable def k_Moment_writeTo_21_28_b (u : xU) (p1 : Int32) : xU :=
    let w_1 := sp u 28 (va_cpy (u.1 22) (u.1 28) ((0 : Int32)).toNatClampNeg (p1).toNatClampNeg ((48 : Int32)).toNatClampNeg)
    let w_3 := sp w_1 28 (va_cpy (u.1 23) (w_1.1 28) ((0 : Int32)).toNatClampNeg ((p1 + (48 : Int32))).toNatClampNeg ((6 : Int32)).toNatClampNeg)
    let w_5 := sp w_3 28 (va_cpy (u.1 24) (w_3.1 28) ((0 : Int32)).toNatClampNeg (((p1 + (48 : Int32)) + (6 : Int32))).toNatClampNeg ((6 : Int32)).toNatClampNeg)
    let w_7 := sp w_5 28 (va_cpy (u.1 25) (w_5.1 28) ((0 : Int32)).toNatClampNeg ((((p1 + (48 : Int32)) + (6 : Int32)) + (6 : Int32))).toNatClampNeg ((6 : Int32)).toNatClampNeg)
    let w_9 := sp w_7 28 (va_cpy (u.1 26) (w_7.1 28) ((0 : Int32)).toNatClampNeg (((((p1 + (48 : Int32)) + (6 : Int32)) + (6 : Int32)) + (6 : Int32))).toNatClampNeg ((6 : Int32)).toNatClampNeg)
    let w_11 := sp w_9 28 (upd (w_9.1 28) ((((((p1 + (48 : Int32)) + (6 : Int32)) + (6 : Int32)) + (6 : Int32)) + (6 : Int32))).toNatClampNeg (u.1 21 0))
    let w_13 := sp w_11 28 (upd (w_11.1 28) (((((((p1 + (48 : Int32)) + (6 : Int32)) + (6 : Int32)) + (6 : Int32)) + (6 : Int32)) + (1 : Int32))).toNatClampNeg (u.1 21 1))
    w_13
theorem k_Moment_writeTo_21_28_x : ∃ f : xU → Int32 → xU, f = k_Moment_writeTo_21_28_b := ⟨_, rfl⟩
noncomputable def k_Moment_writeTo_21_28 : xU → Int32 → xU := k_Moment_writeTo_21_28_x.choose
theorem k_Moment_writeTo_21_28_def : k_Moment_writeTo_21_28 = k_Moment_writeTo_21_28_b := k_Moment_writeTo_21_28_x.choose_spec
set_option maxHeartbeats 4000000 in
set_option maxRecDepth 100000 in
theorem c_k_Moment_writeTo_21_28 (l : Launch) (D : va_G) (a : Nat → Nat) (Y : Nat → ClassId) (ts : Nat → Nat) (u : xU) (p1 : Int32) (hp0 : 0 ≤ (p1).toInt ∧ (p1).toInt < 667) : xMv l yX4_writeTo cX4_writeTo 4 none (xRm 1 60) D (xty Y) (wC a Y) ts [.ref (a 21), .ref (a 28), .int p1] u (k_Moment_writeTo_21_28 u p1) := by
  suffices h : ∀ V, V = k_Moment_writeTo_21_28_b u p1 → xMv l yX4_writeTo cX4_writeTo 4 none (xRm 1 60) D (xty Y) (wC a Y) ts [.ref (a 21), .ref (a 28), .int p1] u V from h _ (by rw [k_Moment_writeTo_21_28_def])
  intro V hV
  refine xofv RX4 rfl (by decide) (Nat.le_of_ble_eq_true rfl) ?_
  intro p e s m args below meth c ls H locs A S hr hlk hl hK hE hA hw
  have hl : lv_has ls 4 [(0, .ref (a 21)), (1, .ref (a 28)), (2, .int p1)] := hl
  refine lv_iload_n S.1 S.2.1 dX4_writeTo_0 rfl (lv_at hl 2 rfl) ?_
  refine lv_istore_n (lv' := [(3, .int p1), (0, .ref (a 21)), (1, .ref (a 28)), (2, .int p1)]) S.1 S.2.1 dX4_writeTo_1 rfl hl (by decide) rfl (fun ls hl => ?_)
  refine lv_aload_n S.1 S.2.1 dX4_writeTo_2 rfl (lv_at hl 1 rfl) ?_
  refine xget (v := .ref (a 22)) S hK hw 21 rfl rfl inX4 2 (by decide) mfX4_9 rfl dX4_writeTo_3 ?_
  refine lv_iconst (v := 0) S.1 S.2.1 dX4_writeTo_6 (by decide) ?_
  refine lv_aload_n S.1 S.2.1 dX4_writeTo_7 rfl (lv_at hl 2 rfl) ?_
  refine lv_iload_n S.1 S.2.1 dX4_writeTo_8 rfl (lv_at hl 0 rfl) ?_
  refine lv_bipush (v := 48) S.1 S.2.1 dX4_writeTo_9 (by decide) ?_
  refine xcp2 (f := u.1 22) (x := (0 : Int32)) (y := p1) (n := (48 : Int32)) (b1 := 0) (b2 := (p1).toInt) (b3 := 48) S mlX4_40 hK ac_nat ac_st ac_in hw hl.1 22 28 0 rfl rfl rfl rfl rfl rfl (by omega) (by omega) (by omega) (by omega) (by omega) ⟨Nat.le_of_ble_eq_true rfl, by decide +kernel⟩ (sC_28 _ _ _ _) dX4_writeTo_11 (fun H locs hw => ?_)
  refine lv_iinc (v := (p1 + (48 : Int32))) (lv' := [(3, .int (p1 + (48 : Int32))), (0, .ref (a 21)), (1, .ref (a 28)), (2, .int p1)]) S.1 S.2.1 dX4_writeTo_14 hl (k := 0) rfl rfl (by decide) rfl (fun ls hl => ?_)
  refine lv_aload_n S.1 S.2.1 dX4_writeTo_17 rfl (lv_at hl 1 rfl) ?_
  refine xget (v := .ref (a 23)) S hK hw 21 rfl rfl inX4 3 (by decide) mfX4_15 rfl dX4_writeTo_18 ?_
  refine lv_iconst (v := 0) S.1 S.2.1 dX4_writeTo_21 (by decide) ?_
  refine lv_aload_n S.1 S.2.1 dX4_writeTo_22 rfl (lv_at hl 2 rfl) ?_
  refine lv_iload_n S.1 S.2.1 dX4_writeTo_23 rfl (lv_at hl 0 rfl) ?_
  refine lv_bipush (v := 6) S.1 S.2.1 dX4_writeTo_24 (by decide) ?_
  have e_2 : ∀ _ : Unit, ((p1 + (48 : Int32))).toInt = (p1).toInt + 48 := fun _ => xadd rfl rfl (by omega) (by omega)
  refine xcp2 (f := u.1 23) (x := (0 : Int32)) (y := (p1 + (48 : Int32))) (n := (6 : Int32)) (b1 := 0) (b2 := ((p1).toInt + 48)) (b3 := 6) S mlX4_40 hK ac_nat ac_st ac_in hw hl.1 23 28 0 rfl rfl rfl rfl (e_2 ()) rfl (by omega) (by omega) (by omega) (by omega) (by omega) ⟨Nat.le_of_ble_eq_true rfl, by decide +kernel⟩ (sC_28 _ _ _ _) dX4_writeTo_26 (fun H locs hw => ?_)
  refine lv_iinc (v := ((p1 + (48 : Int32)) + (6 : Int32))) (lv' := [(3, .int ((p1 + (48 : Int32)) + (6 : Int32))), (0, .ref (a 21)), (1, .ref (a 28)), (2, .int p1)]) S.1 S.2.1 dX4_writeTo_29 hl (k := 0) rfl rfl (by decide) rfl (fun ls hl => ?_)
  refine lv_aload_n S.1 S.2.1 dX4_writeTo_32 rfl (lv_at hl 1 rfl) ?_
  refine xget (v := .ref (a 24)) S hK hw 21 rfl rfl inX4 4 (by decide) mfX4_18 rfl dX4_writeTo_33 ?_
  refine lv_iconst (v := 0) S.1 S.2.1 dX4_writeTo_36 (by decide) ?_
  refine lv_aload_n S.1 S.2.1 dX4_writeTo_37 rfl (lv_at hl 2 rfl) ?_
  refine lv_iload_n S.1 S.2.1 dX4_writeTo_38 rfl (lv_at hl 0 rfl) ?_
  refine lv_bipush (v := 6) S.1 S.2.1 dX4_writeTo_39 (by decide) ?_
  have e_4 : ∀ _ : Unit, (((p1 + (48 : Int32)) + (6 : Int32))).toInt = ((p1).toInt + 48) + 6 := fun _ => xadd (e_2 ()) rfl (by omega) (by omega)
  refine xcp2 (f := u.1 24) (x := (0 : Int32)) (y := ((p1 + (48 : Int32)) + (6 : Int32))) (n := (6 : Int32)) (b1 := 0) (b2 := (((p1).toInt + 48) + 6)) (b3 := 6) S mlX4_40 hK ac_nat ac_st ac_in hw hl.1 24 28 0 rfl rfl rfl rfl (e_4 ()) rfl (by omega) (by omega) (by omega) (by omega) (by omega) ⟨Nat.le_of_ble_eq_true rfl, by decide +kernel⟩ (sC_28 _ _ _ _) dX4_writeTo_41 (fun H locs hw => ?_)
  refine lv_iinc (v := (((p1 + (48 : Int32)) + (6 : Int32)) + (6 : Int32))) (lv' := [(3, .int (((p1 + (48 : Int32)) + (6 : Int32)) + (6 : Int32))), (0, .ref (a 21)), (1, .ref (a 28)), (2, .int p1)]) S.1 S.2.1 dX4_writeTo_44 hl (k := 0) rfl rfl (by decide) rfl (fun ls hl => ?_)
  refine lv_aload_n S.1 S.2.1 dX4_writeTo_47 rfl (lv_at hl 1 rfl) ?_
  refine xget (v := .ref (a 25)) S hK hw 21 rfl rfl inX4 5 (by decide) mfX4_21 rfl dX4_writeTo_48 ?_
  refine lv_iconst (v := 0) S.1 S.2.1 dX4_writeTo_51 (by decide) ?_
  refine lv_aload_n S.1 S.2.1 dX4_writeTo_52 rfl (lv_at hl 2 rfl) ?_
  refine lv_iload_n S.1 S.2.1 dX4_writeTo_53 rfl (lv_at hl 0 rfl) ?_
  refine lv_bipush (v := 6) S.1 S.2.1 dX4_writeTo_54 (by decide) ?_
  have e_6 : ∀ _ : Unit, ((((p1 + (48 : Int32)) + (6 : Int32)) + (6 : Int32))).toInt = (((p1).toInt + 48) + 6) + 6 := fun _ => xadd (e_4 ()) rfl (by omega) (by omega)
  refine xcp2 (f := u.1 25) (x := (0 : Int32)) (y := (((p1 + (48 : Int32)) + (6 : Int32)) + (6 : Int32))) (n := (6 : Int32)) (b1 := 0) (b2 := ((((p1).toInt + 48) + 6) + 6)) (b3 := 6) S mlX4_40 hK ac_nat ac_st ac_in hw hl.1 25 28 0 rfl rfl rfl rfl (e_6 ()) rfl (by omega) (by omega) (by omega) (by omega) (by omega) ⟨Nat.le_of_ble_eq_true rfl, by decide +kernel⟩ (sC_28 _ _ _ _) dX4_writeTo_56 (fun H locs hw => ?_)
  refine lv_iinc (v := ((((p1 + (48 : Int32)) + (6 : Int32)) + (6 : Int32)) + (6 : Int32))) (lv' := [(3, .int ((((p1 + (48 : Int32)) + (6 : Int32)) + (6 : Int32)) + (6 : Int32))), (0, .ref (a 21)), (1, .ref (a 28)), (2, .int p1)]) S.1 S.2.1 dX4_writeTo_59 hl (k := 0) rfl rfl (by decide) rfl (fun ls hl => ?_)
  refine lv_aload_n S.1 S.2.1 dX4_writeTo_62 rfl (lv_at hl 1 rfl) ?_
  refine xget (v := .ref (a 26)) S hK hw 21 rfl rfl inX4 6 (by decide) mfX4_24 rfl dX4_writeTo_63 ?_
  refine lv_iconst (v := 0) S.1 S.2.1 dX4_writeTo_66 (by decide) ?_
  refine lv_aload_n S.1 S.2.1 dX4_writeTo_67 rfl (lv_at hl 2 rfl) ?_
  refine lv_iload_n S.1 S.2.1 dX4_writeTo_68 rfl (lv_at hl 0 rfl) ?_
  refine lv_bipush (v := 6) S.1 S.2.1 dX4_writeTo_69 (by decide) ?_
  have e_8 : ∀ _ : Unit, (((((p1 + (48 : Int32)) + (6 : Int32)) + (6 : Int32)) + (6 : Int32))).toInt = ((((p1).toInt + 48) + 6) + 6) + 6 := fun _ => xadd (e_6 ()) rfl (by omega) (by omega)
  refine xcp2 (f := u.1 26) (x := (0 : Int32)) (y := ((((p1 + (48 : Int32)) + (6 : Int32)) + (6 : Int32)) + (6 : Int32))) (n := (6 : Int32)) (b1 := 0) (b2 := (((((p1).toInt + 48) + 6) + 6) + 6)) (b3 := 6) S mlX4_40 hK ac_nat ac_st ac_in hw hl.1 26 28 0 rfl rfl rfl rfl (e_8 ()) rfl (by omega) (by omega) (by omega) (by omega) (by omega) ⟨Nat.le_of_ble_eq_true rfl, by decide +kernel⟩ (sC_28 _ _ _ _) dX4_writeTo_71 (fun H locs hw => ?_)
  refine lv_iinc (v := (((((p1 + (48 : Int32)) + (6 : Int32)) + (6 : Int32)) + (6 : Int32)) + (6 : Int32))) (lv' := [(3, .int (((((p1 + (48 : Int32)) + (6 : Int32)) + (6 : Int32)) + (6 : Int32)) + (6 : Int32))), (0, .ref (a 21)), (1, .ref (a 28)), (2, .int p1)]) S.1 S.2.1 dX4_writeTo_74 hl (k := 0) rfl rfl (by decide) rfl (fun ls hl => ?_)
  refine lv_aload_n S.1 S.2.1 dX4_writeTo_77 rfl (lv_at hl 2 rfl) ?_
  refine lv_iload_n S.1 S.2.1 dX4_writeTo_78 rfl (lv_at hl 0 rfl) ?_
  refine lv_aload_n S.1 S.2.1 dX4_writeTo_79 rfl (lv_at hl 1 rfl) ?_
  refine xget (v := .int (u.1 21 0)) S hK hw 21 rfl rfl inX4 0 (by decide) mfX4_33 rfl dX4_writeTo_80 ?_
  have e_10 : ∀ _ : Unit, ((((((p1 + (48 : Int32)) + (6 : Int32)) + (6 : Int32)) + (6 : Int32)) + (6 : Int32))).toInt = (((((p1).toInt + 48) + 6) + 6) + 6) + 6 := fun _ => xadd (e_8 ()) rfl (by omega) (by omega)
  refine xast S hK hw 28 0 rfl rfl (xvi (e_10 ()) (by omega) (by omega)) (sC_28 _ _ _ _) dX4_writeTo_83 (fun H locs hw => ?_)
  refine lv_aload_n S.1 S.2.1 dX4_writeTo_84 rfl (lv_at hl 2 rfl) ?_
  refine lv_iload_n S.1 S.2.1 dX4_writeTo_85 rfl (lv_at hl 0 rfl) ?_
  refine lv_iconst (v := 1) S.1 S.2.1 dX4_writeTo_86 (by decide) ?_
  refine lv_iadd S.1 S.2.1 dX4_writeTo_87 ?_
  refine lv_aload_n S.1 S.2.1 dX4_writeTo_88 rfl (lv_at hl 1 rfl) ?_
  refine xget (v := .int (u.1 21 1)) S hK hw 21 rfl rfl inX4 1 (by decide) mfX4_37 rfl dX4_writeTo_89 ?_
  have e_12 : ∀ _ : Unit, (((((((p1 + (48 : Int32)) + (6 : Int32)) + (6 : Int32)) + (6 : Int32)) + (6 : Int32)) + (1 : Int32))).toInt = ((((((p1).toInt + 48) + 6) + 6) + 6) + 6) + 1 := fun _ => xadd (e_10 ()) rfl (by omega) (by omega)
  refine xast S hK hw 28 0 rfl rfl (xvi (e_12 ()) (by omega) (by omega)) (sC_28 _ _ _ _) dX4_writeTo_92 (fun H locs hw => ?_)
  exact xrv S hr hlk hw hV dX4_writeTo_93
noncomputable def k_Moment_readFrom_21_28_b (u : xU) (p1 : Int32) : xU :=
    let w_1 := sp u 22 (va_cpy (u.1 28) (u.1 22) (p1).toNatClampNeg ((0 : Int32)).toNatClampNeg ((48 : Int32)).toNatClampNeg)
    let w_3 := sp w_1 23 (va_cpy (u.1 28) (u.1 23) ((p1 + (48 : Int32))).toNatClampNeg ((0 : Int32)).toNatClampNeg ((6 : Int32)).toNatClampNeg)
    let w_5 := sp w_3 24 (va_cpy (u.1 28) (u.1 24) (((p1 + (48 : Int32)) + (6 : Int32))).toNatClampNeg ((0 : Int32)).toNatClampNeg ((6 : Int32)).toNatClampNeg)
    let w_7 := sp w_5 25 (va_cpy (u.1 28) (u.1 25) ((((p1 + (48 : Int32)) + (6 : Int32)) + (6 : Int32))).toNatClampNeg ((0 : Int32)).toNatClampNeg ((6 : Int32)).toNatClampNeg)
    let w_9 := sp w_7 26 (va_cpy (u.1 28) (u.1 26) (((((p1 + (48 : Int32)) + (6 : Int32)) + (6 : Int32)) + (6 : Int32))).toNatClampNeg ((0 : Int32)).toNatClampNeg ((6 : Int32)).toNatClampNeg)
    let w_11 := sp w_9 21 (upd (u.1 21) 0 (u.1 28 ((((((p1 + (48 : Int32)) + (6 : Int32)) + (6 : Int32)) + (6 : Int32)) + (6 : Int32))).toNatClampNeg))
    let w_13 := sp w_11 21 (upd (w_11.1 21) 1 (u.1 28 (((((((p1 + (48 : Int32)) + (6 : Int32)) + (6 : Int32)) + (6 : Int32)) + (6 : Int32)) + (1 : Int32))).toNatClampNeg))
    w_13
theorem k_Moment_readFrom_21_28_x : ∃ f : xU → Int32 → xU, f = k_Moment_readFrom_21_28_b := ⟨_, rfl⟩
noncomputable def k_Moment_readFrom_21_28 : xU → Int32 → xU := k_Moment_readFrom_21_28_x.choose
theorem k_Moment_readFrom_21_28_def : k_Moment_readFrom_21_28 = k_Moment_readFrom_21_28_b := k_Moment_readFrom_21_28_x.choose_spec
set_option maxHeartbeats 4000000 in
set_option maxRecDepth 100000 in
theorem c_k_Moment_readFrom_21_28 (l : Launch) (D : va_G) (a : Nat → Nat) (Y : Nat → ClassId) (ts : Nat → Nat) (u : xU) (p1 : Int32) (hp0 : 0 ≤ (p1).toInt ∧ (p1).toInt < 667) : xMv l yX4_readFrom cX4_readFrom 4 none (xRm 1 60) D (xty Y) (wC a Y) ts [.ref (a 21), .ref (a 28), .int p1] u (k_Moment_readFrom_21_28 u p1) := by
  suffices h : ∀ V, V = k_Moment_readFrom_21_28_b u p1 → xMv l yX4_readFrom cX4_readFrom 4 none (xRm 1 60) D (xty Y) (wC a Y) ts [.ref (a 21), .ref (a 28), .int p1] u V from h _ (by rw [k_Moment_readFrom_21_28_def])
  intro V hV
  refine xofv RX4 rfl (by decide) (Nat.le_of_ble_eq_true rfl) ?_
  intro p e s m args below meth c ls H locs A S hr hlk hl hK hE hA hw
  have hl : lv_has ls 4 [(0, .ref (a 21)), (1, .ref (a 28)), (2, .int p1)] := hl
  refine lv_iload_n S.1 S.2.1 dX4_readFrom_0 rfl (lv_at hl 2 rfl) ?_
  refine lv_istore_n (lv' := [(3, .int p1), (0, .ref (a 21)), (1, .ref (a 28)), (2, .int p1)]) S.1 S.2.1 dX4_readFrom_1 rfl hl (by decide) rfl (fun ls hl => ?_)
  refine lv_aload_n S.1 S.2.1 dX4_readFrom_2 rfl (lv_at hl 2 rfl) ?_
  refine lv_iload_n S.1 S.2.1 dX4_readFrom_3 rfl (lv_at hl 0 rfl) ?_
  refine lv_aload_n S.1 S.2.1 dX4_readFrom_4 rfl (lv_at hl 1 rfl) ?_
  refine xget (v := .ref (a 22)) S hK hw 21 rfl rfl inX4 2 (by decide) mfX4_9 rfl dX4_readFrom_5 ?_
  refine lv_iconst (v := 0) S.1 S.2.1 dX4_readFrom_8 (by decide) ?_
  refine lv_bipush (v := 48) S.1 S.2.1 dX4_readFrom_9 (by decide) ?_
  refine xcp2 (f := u.1 28) (x := p1) (y := (0 : Int32)) (n := (48 : Int32)) (b1 := (p1).toInt) (b2 := 0) (b3 := 48) S mlX4_40 hK ac_nat ac_st ac_in hw hl.1 28 22 0 rfl rfl rfl rfl rfl rfl (by omega) (by omega) (by omega) (by omega) (by omega) ⟨Nat.le_of_ble_eq_true rfl, by decide +kernel⟩ (sC_22 _ _ _ _) dX4_readFrom_11 (fun H locs hw => ?_)
  refine lv_iinc (v := (p1 + (48 : Int32))) (lv' := [(3, .int (p1 + (48 : Int32))), (0, .ref (a 21)), (1, .ref (a 28)), (2, .int p1)]) S.1 S.2.1 dX4_readFrom_14 hl (k := 0) rfl rfl (by decide) rfl (fun ls hl => ?_)
  refine lv_aload_n S.1 S.2.1 dX4_readFrom_17 rfl (lv_at hl 2 rfl) ?_
  refine lv_iload_n S.1 S.2.1 dX4_readFrom_18 rfl (lv_at hl 0 rfl) ?_
  refine lv_aload_n S.1 S.2.1 dX4_readFrom_19 rfl (lv_at hl 1 rfl) ?_
  refine xget (v := .ref (a 23)) S hK hw 21 rfl rfl inX4 3 (by decide) mfX4_15 rfl dX4_readFrom_20 ?_
  refine lv_iconst (v := 0) S.1 S.2.1 dX4_readFrom_23 (by decide) ?_
  refine lv_bipush (v := 6) S.1 S.2.1 dX4_readFrom_24 (by decide) ?_
  have e_2 : ∀ _ : Unit, ((p1 + (48 : Int32))).toInt = (p1).toInt + 48 := fun _ => xadd rfl rfl (by omega) (by omega)
  refine xcp2 (f := u.1 28) (x := (p1 + (48 : Int32))) (y := (0 : Int32)) (n := (6 : Int32)) (b1 := ((p1).toInt + 48)) (b2 := 0) (b3 := 6) S mlX4_40 hK ac_nat ac_st ac_in hw hl.1 28 23 0 rfl rfl rfl (e_2 ()) rfl rfl (by omega) (by omega) (by omega) (by omega) (by omega) ⟨Nat.le_of_ble_eq_true rfl, by decide +kernel⟩ (sC_23 _ _ _ _) dX4_readFrom_26 (fun H locs hw => ?_)
  refine lv_iinc (v := ((p1 + (48 : Int32)) + (6 : Int32))) (lv' := [(3, .int ((p1 + (48 : Int32)) + (6 : Int32))), (0, .ref (a 21)), (1, .ref (a 28)), (2, .int p1)]) S.1 S.2.1 dX4_readFrom_29 hl (k := 0) rfl rfl (by decide) rfl (fun ls hl => ?_)
  refine lv_aload_n S.1 S.2.1 dX4_readFrom_32 rfl (lv_at hl 2 rfl) ?_
  refine lv_iload_n S.1 S.2.1 dX4_readFrom_33 rfl (lv_at hl 0 rfl) ?_
  refine lv_aload_n S.1 S.2.1 dX4_readFrom_34 rfl (lv_at hl 1 rfl) ?_
  refine xget (v := .ref (a 24)) S hK hw 21 rfl rfl inX4 4 (by decide) mfX4_18 rfl dX4_readFrom_35 ?_
  refine lv_iconst (v := 0) S.1 S.2.1 dX4_readFrom_38 (by decide) ?_
  refine lv_bipush (v := 6) S.1 S.2.1 dX4_readFrom_39 (by decide) ?_
  have e_4 : ∀ _ : Unit, (((p1 + (48 : Int32)) + (6 : Int32))).toInt = ((p1).toInt + 48) + 6 := fun _ => xadd (e_2 ()) rfl (by omega) (by omega)
  refine xcp2 (f := u.1 28) (x := ((p1 + (48 : Int32)) + (6 : Int32))) (y := (0 : Int32)) (n := (6 : Int32)) (b1 := (((p1).toInt + 48) + 6)) (b2 := 0) (b3 := 6) S mlX4_40 hK ac_nat ac_st ac_in hw hl.1 28 24 0 rfl rfl rfl (e_4 ()) rfl rfl (by omega) (by omega) (by omega) (by omega) (by omega) ⟨Nat.le_of_ble_eq_true rfl, by decide +kernel⟩ (sC_24 _ _ _ _) dX4_readFrom_41 (fun H locs hw => ?_)
  refine lv_iinc (v := (((p1 + (48 : Int32)) + (6 : Int32)) + (6 : Int32))) (lv' := [(3, .int (((p1 + (48 : Int32)) + (6 : Int32)) + (6 : Int32))), (0, .ref (a 21)), (1, .ref (a 28)), (2, .int p1)]) S.1 S.2.1 dX4_readFrom_44 hl (k := 0) rfl rfl (by decide) rfl (fun ls hl => ?_)
  refine lv_aload_n S.1 S.2.1 dX4_readFrom_47 rfl (lv_at hl 2 rfl) ?_
  refine lv_iload_n S.1 S.2.1 dX4_readFrom_48 rfl (lv_at hl 0 rfl) ?_
  refine lv_aload_n S.1 S.2.1 dX4_readFrom_49 rfl (lv_at hl 1 rfl) ?_
  refine xget (v := .ref (a 25)) S hK hw 21 rfl rfl inX4 5 (by decide) mfX4_21 rfl dX4_readFrom_50 ?_
  refine lv_iconst (v := 0) S.1 S.2.1 dX4_readFrom_53 (by decide) ?_
  refine lv_bipush (v := 6) S.1 S.2.1 dX4_readFrom_54 (by decide) ?_
  have e_6 : ∀ _ : Unit, ((((p1 + (48 : Int32)) + (6 : Int32)) + (6 : Int32))).toInt = (((p1).toInt + 48) + 6) + 6 := fun _ => xadd (e_4 ()) rfl (by omega) (by omega)
  refine xcp2 (f := u.1 28) (x := (((p1 + (48 : Int32)) + (6 : Int32)) + (6 : Int32))) (y := (0 : Int32)) (n := (6 : Int32)) (b1 := ((((p1).toInt + 48) + 6) + 6)) (b2 := 0) (b3 := 6) S mlX4_40 hK ac_nat ac_st ac_in hw hl.1 28 25 0 rfl rfl rfl (e_6 ()) rfl rfl (by omega) (by omega) (by omega) (by omega) (by omega) ⟨Nat.le_of_ble_eq_true rfl, by decide +kernel⟩ (sC_25 _ _ _ _) dX4_readFrom_56 (fun H locs hw => ?_)
  refine lv_iinc (v := ((((p1 + (48 : Int32)) + (6 : Int32)) + (6 : Int32)) + (6 : Int32))) (lv' := [(3, .int ((((p1 + (48 : Int32)) + (6 : Int32)) + (6 : Int32)) + (6 : Int32))), (0, .ref (a 21)), (1, .ref (a 28)), (2, .int p1)]) S.1 S.2.1 dX4_readFrom_59 hl (k := 0) rfl rfl (by decide) rfl (fun ls hl => ?_)
  refine lv_aload_n S.1 S.2.1 dX4_readFrom_62 rfl (lv_at hl 2 rfl) ?_
  refine lv_iload_n S.1 S.2.1 dX4_readFrom_63 rfl (lv_at hl 0 rfl) ?_
  refine lv_aload_n S.1 S.2.1 dX4_readFrom_64 rfl (lv_at hl 1 rfl) ?_
  refine xget (v := .ref (a 26)) S hK hw 21 rfl rfl inX4 6 (by decide) mfX4_24 rfl dX4_readFrom_65 ?_
  refine lv_iconst (v := 0) S.1 S.2.1 dX4_readFrom_68 (by decide) ?_
  refine lv_bipush (v := 6) S.1 S.2.1 dX4_readFrom_69 (by decide) ?_
  have e_8 : ∀ _ : Unit, (((((p1 + (48 : Int32)) + (6 : Int32)) + (6 : Int32)) + (6 : Int32))).toInt = ((((p1).toInt + 48) + 6) + 6) + 6 := fun _ => xadd (e_6 ()) rfl (by omega) (by omega)
  refine xcp2 (f := u.1 28) (x := ((((p1 + (48 : Int32)) + (6 : Int32)) + (6 : Int32)) + (6 : Int32))) (y := (0 : Int32)) (n := (6 : Int32)) (b1 := (((((p1).toInt + 48) + 6) + 6) + 6)) (b2 := 0) (b3 := 6) S mlX4_40 hK ac_nat ac_st ac_in hw hl.1 28 26 0 rfl rfl rfl (e_8 ()) rfl rfl (by omega) (by omega) (by omega) (by omega) (by omega) ⟨Nat.le_of_ble_eq_true rfl, by decide +kernel⟩ (sC_26 _ _ _ _) dX4_readFrom_71 (fun H locs hw => ?_)
  refine lv_iinc (v := (((((p1 + (48 : Int32)) + (6 : Int32)) + (6 : Int32)) + (6 : Int32)) + (6 : Int32))) (lv' := [(3, .int (((((p1 + (48 : Int32)) + (6 : Int32)) + (6 : Int32)) + (6 : Int32)) + (6 : Int32))), (0, .ref (a 21)), (1, .ref (a 28)), (2, .int p1)]) S.1 S.2.1 dX4_readFrom_74 hl (k := 0) rfl rfl (by decide) rfl (fun ls hl => ?_)
  refine lv_aload_n S.1 S.2.1 dX4_readFrom_77 rfl (lv_at hl 1 rfl) ?_
  refine lv_aload_n S.1 S.2.1 dX4_readFrom_78 rfl (lv_at hl 2 rfl) ?_
  refine lv_iload_n S.1 S.2.1 dX4_readFrom_79 rfl (lv_at hl 0 rfl) ?_
  have e_10 : ∀ _ : Unit, ((((((p1 + (48 : Int32)) + (6 : Int32)) + (6 : Int32)) + (6 : Int32)) + (6 : Int32))).toInt = (((((p1).toInt + 48) + 6) + 6) + 6) + 6 := fun _ => xadd (e_8 ()) rfl (by omega) (by omega)
  refine xald (f := u.1 28) S hK hw 28 0 rfl rfl (xvi (e_10 ()) (by omega) (by omega)) dX4_readFrom_80 ?_
  refine xputi (ty := .int) S hK hw 21 rfl rfl inX4 tyX4 tyX4_ok nmX4 0 (by decide) mfX4_33 rfl (by decide +kernel) rfl rfl (Nat.le_of_ble_eq_true rfl) (oC_21_0 _ _ _ _) dX4_readFrom_81 (fun H locs hw => ?_)
  refine lv_aload_n S.1 S.2.1 dX4_readFrom_84 rfl (lv_at hl 1 rfl) ?_
  refine lv_aload_n S.1 S.2.1 dX4_readFrom_85 rfl (lv_at hl 2 rfl) ?_
  refine lv_iload_n S.1 S.2.1 dX4_readFrom_86 rfl (lv_at hl 0 rfl) ?_
  refine lv_iconst (v := 1) S.1 S.2.1 dX4_readFrom_87 (by decide) ?_
  refine lv_iadd S.1 S.2.1 dX4_readFrom_88 ?_
  have e_12 : ∀ _ : Unit, (((((((p1 + (48 : Int32)) + (6 : Int32)) + (6 : Int32)) + (6 : Int32)) + (6 : Int32)) + (1 : Int32))).toInt = ((((((p1).toInt + 48) + 6) + 6) + 6) + 6) + 1 := fun _ => xadd (e_10 ()) rfl (by omega) (by omega)
  refine xald (f := u.1 28) S hK hw 28 0 rfl rfl (xvi (e_12 ()) (by omega) (by omega)) dX4_readFrom_89 ?_
  refine xputi (ty := .int) S hK hw 21 rfl rfl inX4 tyX4 tyX4_ok nmX4 1 (by decide) mfX4_37 rfl (by decide +kernel) rfl rfl (Nat.le_of_ble_eq_true rfl) (oC_21_1 _ _ _ _) dX4_readFrom_90 (fun H locs hw => ?_)
  exact xrv S hr hlk hw hV dX4_readFrom_93
noncomputable def k_Moment_writeTo_21_31_b (u : xU) (p1 : Int32) : xU :=
    let w_1 := sp u 31 (va_cpy (u.1 22) (u.1 31) ((0 : Int32)).toNatClampNeg (p1).toNatClampNeg ((48 : Int32)).toNatClampNeg)
    let w_3 := sp w_1 31 (va_cpy (u.1 23) (w_1.1 31) ((0 : Int32)).toNatClampNeg ((p1 + (48 : Int32))).toNatClampNeg ((6 : Int32)).toNatClampNeg)
    let w_5 := sp w_3 31 (va_cpy (u.1 24) (w_3.1 31) ((0 : Int32)).toNatClampNeg (((p1 + (48 : Int32)) + (6 : Int32))).toNatClampNeg ((6 : Int32)).toNatClampNeg)
    let w_7 := sp w_5 31 (va_cpy (u.1 25) (w_5.1 31) ((0 : Int32)).toNatClampNeg ((((p1 + (48 : Int32)) + (6 : Int32)) + (6 : Int32))).toNatClampNeg ((6 : Int32)).toNatClampNeg)
    let w_9 := sp w_7 31 (va_cpy (u.1 26) (w_7.1 31) ((0 : Int32)).toNatClampNeg (((((p1 + (48 : Int32)) + (6 : Int32)) + (6 : Int32)) + (6 : Int32))).toNatClampNeg ((6 : Int32)).toNatClampNeg)
    let w_11 := sp w_9 31 (upd (w_9.1 31) ((((((p1 + (48 : Int32)) + (6 : Int32)) + (6 : Int32)) + (6 : Int32)) + (6 : Int32))).toNatClampNeg (u.1 21 0))
    let w_13 := sp w_11 31 (upd (w_11.1 31) (((((((p1 + (48 : Int32)) + (6 : Int32)) + (6 : Int32)) + (6 : Int32)) + (6 : Int32)) + (1 : Int32))).toNatClampNeg (u.1 21 1))
    w_13
theorem k_Moment_writeTo_21_31_x : ∃ f : xU → Int32 → xU, f = k_Moment_writeTo_21_31_b := ⟨_, rfl⟩
noncomputable def k_Moment_writeTo_21_31 : xU → Int32 → xU := k_Moment_writeTo_21_31_x.choose
theorem k_Moment_writeTo_21_31_def : k_Moment_writeTo_21_31 = k_Moment_writeTo_21_31_b := k_Moment_writeTo_21_31_x.choose_spec
set_option maxHeartbeats 4000000 in
set_option maxRecDepth 100000 in
theorem c_k_Moment_writeTo_21_31 (l : Launch) (D : va_G) (a : Nat → Nat) (Y : Nat → ClassId) (ts : Nat → Nat) (u : xU) (p1 : Int32) (hp0 : 0 ≤ (p1).toInt ∧ (p1).toInt < 1) : xMv l yX4_writeTo cX4_writeTo 4 none (xRm 1 60) D (xty Y) (wC a Y) ts [.ref (a 21), .ref (a 31), .int p1] u (k_Moment_writeTo_21_31 u p1) := by
  suffices h : ∀ V, V = k_Moment_writeTo_21_31_b u p1 → xMv l yX4_writeTo cX4_writeTo 4 none (xRm 1 60) D (xty Y) (wC a Y) ts [.ref (a 21), .ref (a 31), .int p1] u V from h _ (by rw [k_Moment_writeTo_21_31_def])
  intro V hV
  refine xofv RX4 rfl (by decide) (Nat.le_of_ble_eq_true rfl) ?_
  intro p e s m args below meth c ls H locs A S hr hlk hl hK hE hA hw
  have hl : lv_has ls 4 [(0, .ref (a 21)), (1, .ref (a 31)), (2, .int p1)] := hl
  refine lv_iload_n S.1 S.2.1 dX4_writeTo_0 rfl (lv_at hl 2 rfl) ?_
  refine lv_istore_n (lv' := [(3, .int p1), (0, .ref (a 21)), (1, .ref (a 31)), (2, .int p1)]) S.1 S.2.1 dX4_writeTo_1 rfl hl (by decide) rfl (fun ls hl => ?_)
  refine lv_aload_n S.1 S.2.1 dX4_writeTo_2 rfl (lv_at hl 1 rfl) ?_
  refine xget (v := .ref (a 22)) S hK hw 21 rfl rfl inX4 2 (by decide) mfX4_9 rfl dX4_writeTo_3 ?_
  refine lv_iconst (v := 0) S.1 S.2.1 dX4_writeTo_6 (by decide) ?_
  refine lv_aload_n S.1 S.2.1 dX4_writeTo_7 rfl (lv_at hl 2 rfl) ?_
  refine lv_iload_n S.1 S.2.1 dX4_writeTo_8 rfl (lv_at hl 0 rfl) ?_
  refine lv_bipush (v := 48) S.1 S.2.1 dX4_writeTo_9 (by decide) ?_
  refine xcp2 (f := u.1 22) (x := (0 : Int32)) (y := p1) (n := (48 : Int32)) (b1 := 0) (b2 := (p1).toInt) (b3 := 48) S mlX4_40 hK ac_nat ac_st ac_in hw hl.1 22 31 0 rfl rfl rfl rfl rfl rfl (by omega) (by omega) (by omega) (by omega) (by omega) ⟨Nat.le_of_ble_eq_true rfl, by decide +kernel⟩ (sC_31 _ _ _ _) dX4_writeTo_11 (fun H locs hw => ?_)
  refine lv_iinc (v := (p1 + (48 : Int32))) (lv' := [(3, .int (p1 + (48 : Int32))), (0, .ref (a 21)), (1, .ref (a 31)), (2, .int p1)]) S.1 S.2.1 dX4_writeTo_14 hl (k := 0) rfl rfl (by decide) rfl (fun ls hl => ?_)
  refine lv_aload_n S.1 S.2.1 dX4_writeTo_17 rfl (lv_at hl 1 rfl) ?_
  refine xget (v := .ref (a 23)) S hK hw 21 rfl rfl inX4 3 (by decide) mfX4_15 rfl dX4_writeTo_18 ?_
  refine lv_iconst (v := 0) S.1 S.2.1 dX4_writeTo_21 (by decide) ?_
  refine lv_aload_n S.1 S.2.1 dX4_writeTo_22 rfl (lv_at hl 2 rfl) ?_
  refine lv_iload_n S.1 S.2.1 dX4_writeTo_23 rfl (lv_at hl 0 rfl) ?_
  refine lv_bipush (v := 6) S.1 S.2.1 dX4_writeTo_24 (by decide) ?_
  have e_2 : ∀ _ : Unit, ((p1 + (48 : Int32))).toInt = (p1).toInt + 48 := fun _ => xadd rfl rfl (by omega) (by omega)
  refine xcp2 (f := u.1 23) (x := (0 : Int32)) (y := (p1 + (48 : Int32))) (n := (6 : Int32)) (b1 := 0) (b2 := ((p1).toInt + 48)) (b3 := 6) S mlX4_40 hK ac_nat ac_st ac_in hw hl.1 23 31 0 rfl rfl rfl rfl (e_2 ()) rfl (by omega) (by omega) (by omega) (by omega) (by omega) ⟨Nat.le_of_ble_eq_true rfl, by decide +kernel⟩ (sC_31 _ _ _ _) dX4_writeTo_26 (fun H locs hw => ?_)
  refine lv_iinc (v := ((p1 + (48 : Int32)) + (6 : Int32))) (lv' := [(3, .int ((p1 + (48 : Int32)) + (6 : Int32))), (0, .ref (a 21)), (1, .ref (a 31)), (2, .int p1)]) S.1 S.2.1 dX4_writeTo_29 hl (k := 0) rfl rfl (by decide) rfl (fun ls hl => ?_)
  refine lv_aload_n S.1 S.2.1 dX4_writeTo_32 rfl (lv_at hl 1 rfl) ?_
  refine xget (v := .ref (a 24)) S hK hw 21 rfl rfl inX4 4 (by decide) mfX4_18 rfl dX4_writeTo_33 ?_
  refine lv_iconst (v := 0) S.1 S.2.1 dX4_writeTo_36 (by decide) ?_
  refine lv_aload_n S.1 S.2.1 dX4_writeTo_37 rfl (lv_at hl 2 rfl) ?_
  refine lv_iload_n S.1 S.2.1 dX4_writeTo_38 rfl (lv_at hl 0 rfl) ?_
  refine lv_bipush (v := 6) S.1 S.2.1 dX4_writeTo_39 (by decide) ?_
  have e_4 : ∀ _ : Unit, (((p1 + (48 : Int32)) + (6 : Int32))).toInt = ((p1).toInt + 48) + 6 := fun _ => xadd (e_2 ()) rfl (by omega) (by omega)
  refine xcp2 (f := u.1 24) (x := (0 : Int32)) (y := ((p1 + (48 : Int32)) + (6 : Int32))) (n := (6 : Int32)) (b1 := 0) (b2 := (((p1).toInt + 48) + 6)) (b3 := 6) S mlX4_40 hK ac_nat ac_st ac_in hw hl.1 24 31 0 rfl rfl rfl rfl (e_4 ()) rfl (by omega) (by omega) (by omega) (by omega) (by omega) ⟨Nat.le_of_ble_eq_true rfl, by decide +kernel⟩ (sC_31 _ _ _ _) dX4_writeTo_41 (fun H locs hw => ?_)
  refine lv_iinc (v := (((p1 + (48 : Int32)) + (6 : Int32)) + (6 : Int32))) (lv' := [(3, .int (((p1 + (48 : Int32)) + (6 : Int32)) + (6 : Int32))), (0, .ref (a 21)), (1, .ref (a 31)), (2, .int p1)]) S.1 S.2.1 dX4_writeTo_44 hl (k := 0) rfl rfl (by decide) rfl (fun ls hl => ?_)
  refine lv_aload_n S.1 S.2.1 dX4_writeTo_47 rfl (lv_at hl 1 rfl) ?_
  refine xget (v := .ref (a 25)) S hK hw 21 rfl rfl inX4 5 (by decide) mfX4_21 rfl dX4_writeTo_48 ?_
  refine lv_iconst (v := 0) S.1 S.2.1 dX4_writeTo_51 (by decide) ?_
  refine lv_aload_n S.1 S.2.1 dX4_writeTo_52 rfl (lv_at hl 2 rfl) ?_
  refine lv_iload_n S.1 S.2.1 dX4_writeTo_53 rfl (lv_at hl 0 rfl) ?_
  refine lv_bipush (v := 6) S.1 S.2.1 dX4_writeTo_54 (by decide) ?_
  have e_6 : ∀ _ : Unit, ((((p1 + (48 : Int32)) + (6 : Int32)) + (6 : Int32))).toInt = (((p1).toInt + 48) + 6) + 6 := fun _ => xadd (e_4 ()) rfl (by omega) (by omega)
  refine xcp2 (f := u.1 25) (x := (0 : Int32)) (y := (((p1 + (48 : Int32)) + (6 : Int32)) + (6 : Int32))) (n := (6 : Int32)) (b1 := 0) (b2 := ((((p1).toInt + 48) + 6) + 6)) (b3 := 6) S mlX4_40 hK ac_nat ac_st ac_in hw hl.1 25 31 0 rfl rfl rfl rfl (e_6 ()) rfl (by omega) (by omega) (by omega) (by omega) (by omega) ⟨Nat.le_of_ble_eq_true rfl, by decide +kernel⟩ (sC_31 _ _ _ _) dX4_writeTo_56 (fun H locs hw => ?_)
  refine lv_iinc (v := ((((p1 + (48 : Int32)) + (6 : Int32)) + (6 : Int32)) + (6 : Int32))) (lv' := [(3, .int ((((p1 + (48 : Int32)) + (6 : Int32)) + (6 : Int32)) + (6 : Int32))), (0, .ref (a 21)), (1, .ref (a 31)), (2, .int p1)]) S.1 S.2.1 dX4_writeTo_59 hl (k := 0) rfl rfl (by decide) rfl (fun ls hl => ?_)
  refine lv_aload_n S.1 S.2.1 dX4_writeTo_62 rfl (lv_at hl 1 rfl) ?_
  refine xget (v := .ref (a 26)) S hK hw 21 rfl rfl inX4 6 (by decide) mfX4_24 rfl dX4_writeTo_63 ?_
  refine lv_iconst (v := 0) S.1 S.2.1 dX4_writeTo_66 (by decide) ?_
  refine lv_aload_n S.1 S.2.1 dX4_writeTo_67 rfl (lv_at hl 2 rfl) ?_
  refine lv_iload_n S.1 S.2.1 dX4_writeTo_68 rfl (lv_at hl 0 rfl) ?_
  refine lv_bipush (v := 6) S.1 S.2.1 dX4_writeTo_69 (by decide) ?_
  have e_8 : ∀ _ : Unit, (((((p1 + (48 : Int32)) + (6 : Int32)) + (6 : Int32)) + (6 : Int32))).toInt = ((((p1).toInt + 48) + 6) + 6) + 6 := fun _ => xadd (e_6 ()) rfl (by omega) (by omega)
  refine xcp2 (f := u.1 26) (x := (0 : Int32)) (y := ((((p1 + (48 : Int32)) + (6 : Int32)) + (6 : Int32)) + (6 : Int32))) (n := (6 : Int32)) (b1 := 0) (b2 := (((((p1).toInt + 48) + 6) + 6) + 6)) (b3 := 6) S mlX4_40 hK ac_nat ac_st ac_in hw hl.1 26 31 0 rfl rfl rfl rfl (e_8 ()) rfl (by omega) (by omega) (by omega) (by omega) (by omega) ⟨Nat.le_of_ble_eq_true rfl, by decide +kernel⟩ (sC_31 _ _ _ _) dX4_writeTo_71 (fun H locs hw => ?_)
  refine lv_iinc (v := (((((p1 + (48 : Int32)) + (6 : Int32)) + (6 : Int32)) + (6 : Int32)) + (6 : Int32))) (lv' := [(3, .int (((((p1 + (48 : Int32)) + (6 : Int32)) + (6 : Int32)) + (6 : Int32)) + (6 : Int32))), (0, .ref (a 21)), (1, .ref (a 31)), (2, .int p1)]) S.1 S.2.1 dX4_writeTo_74 hl (k := 0) rfl rfl (by decide) rfl (fun ls hl => ?_)
  refine lv_aload_n S.1 S.2.1 dX4_writeTo_77 rfl (lv_at hl 2 rfl) ?_
  refine lv_iload_n S.1 S.2.1 dX4_writeTo_78 rfl (lv_at hl 0 rfl) ?_
  refine lv_aload_n S.1 S.2.1 dX4_writeTo_79 rfl (lv_at hl 1 rfl) ?_
  refine xget (v := .int (u.1 21 0)) S hK hw 21 rfl rfl inX4 0 (by decide) mfX4_33 rfl dX4_writeTo_80 ?_
  have e_10 : ∀ _ : Unit, ((((((p1 + (48 : Int32)) + (6 : Int32)) + (6 : Int32)) + (6 : Int32)) + (6 : Int32))).toInt = (((((p1).toInt + 48) + 6) + 6) + 6) + 6 := fun _ => xadd (e_8 ()) rfl (by omega) (by omega)
  refine xast S hK hw 31 0 rfl rfl (xvi (e_10 ()) (by omega) (by omega)) (sC_31 _ _ _ _) dX4_writeTo_83 (fun H locs hw => ?_)
  refine lv_aload_n S.1 S.2.1 dX4_writeTo_84 rfl (lv_at hl 2 rfl) ?_
  refine lv_iload_n S.1 S.2.1 dX4_writeTo_85 rfl (lv_at hl 0 rfl) ?_
  refine lv_iconst (v := 1) S.1 S.2.1 dX4_writeTo_86 (by decide) ?_
  refine lv_iadd S.1 S.2.1 dX4_writeTo_87 ?_
  refine lv_aload_n S.1 S.2.1 dX4_writeTo_88 rfl (lv_at hl 1 rfl) ?_
  refine xget (v := .int (u.1 21 1)) S hK hw 21 rfl rfl inX4 1 (by decide) mfX4_37 rfl dX4_writeTo_89 ?_
  have e_12 : ∀ _ : Unit, (((((((p1 + (48 : Int32)) + (6 : Int32)) + (6 : Int32)) + (6 : Int32)) + (6 : Int32)) + (1 : Int32))).toInt = ((((((p1).toInt + 48) + 6) + 6) + 6) + 6) + 1 := fun _ => xadd (e_10 ()) rfl (by omega) (by omega)
  refine xast S hK hw 31 0 rfl rfl (xvi (e_12 ()) (by omega) (by omega)) (sC_31 _ _ _ _) dX4_writeTo_92 (fun H locs hw => ?_)
  exact xrv S hr hlk hw hV dX4_writeTo_93
noncomputable def k_Moment_readFrom_21_31_b (u : xU) (p1 : Int32) : xU :=
    let w_1 := sp u 22 (va_cpy (u.1 31) (u.1 22) (p1).toNatClampNeg ((0 : Int32)).toNatClampNeg ((48 : Int32)).toNatClampNeg)
    let w_3 := sp w_1 23 (va_cpy (u.1 31) (u.1 23) ((p1 + (48 : Int32))).toNatClampNeg ((0 : Int32)).toNatClampNeg ((6 : Int32)).toNatClampNeg)
    let w_5 := sp w_3 24 (va_cpy (u.1 31) (u.1 24) (((p1 + (48 : Int32)) + (6 : Int32))).toNatClampNeg ((0 : Int32)).toNatClampNeg ((6 : Int32)).toNatClampNeg)
    let w_7 := sp w_5 25 (va_cpy (u.1 31) (u.1 25) ((((p1 + (48 : Int32)) + (6 : Int32)) + (6 : Int32))).toNatClampNeg ((0 : Int32)).toNatClampNeg ((6 : Int32)).toNatClampNeg)
    let w_9 := sp w_7 26 (va_cpy (u.1 31) (u.1 26) (((((p1 + (48 : Int32)) + (6 : Int32)) + (6 : Int32)) + (6 : Int32))).toNatClampNeg ((0 : Int32)).toNatClampNeg ((6 : Int32)).toNatClampNeg)
    let w_11 := sp w_9 21 (upd (u.1 21) 0 (u.1 31 ((((((p1 + (48 : Int32)) + (6 : Int32)) + (6 : Int32)) + (6 : Int32)) + (6 : Int32))).toNatClampNeg))
    let w_13 := sp w_11 21 (upd (w_11.1 21) 1 (u.1 31 (((((((p1 + (48 : Int32)) + (6 : Int32)) + (6 : Int32)) + (6 : Int32)) + (6 : Int32)) + (1 : Int32))).toNatClampNeg))
    w_13
theorem k_Moment_readFrom_21_31_x : ∃ f : xU → Int32 → xU, f = k_Moment_readFrom_21_31_b := ⟨_, rfl⟩
noncomputable def k_Moment_readFrom_21_31 : xU → Int32 → xU := k_Moment_readFrom_21_31_x.choose
theorem k_Moment_readFrom_21_31_def : k_Moment_readFrom_21_31 = k_Moment_readFrom_21_31_b := k_Moment_readFrom_21_31_x.choose_spec
set_option maxHeartbeats 4000000 in
set_option maxRecDepth 100000 in
theorem c_k_Moment_readFrom_21_31 (l : Launch) (D : va_G) (a : Nat → Nat) (Y : Nat → ClassId) (ts : Nat → Nat) (u : xU) (p1 : Int32) (hp0 : 0 ≤ (p1).toInt ∧ (p1).toInt < 1) : xMv l yX4_readFrom cX4_readFrom 4 none (xRm 1 60) D (xty Y) (wC a Y) ts [.ref (a 21), .ref (a 31), .int p1] u (k_Moment_readFrom_21_31 u p1) := by
  suffices h : ∀ V, V = k_Moment_readFrom_21_31_b u p1 → xMv l yX4_readFrom cX4_readFrom 4 none (xRm 1 60) D (xty Y) (wC a Y) ts [.ref (a 21), .ref (a 31), .int p1] u V from h _ (by rw [k_Moment_readFrom_21_31_def])
  intro V hV
  refine xofv RX4 rfl (by decide) (Nat.le_of_ble_eq_true rfl) ?_
  intro p e s m args below meth c ls H locs A S hr hlk hl hK hE hA hw
  have hl : lv_has ls 4 [(0, .ref (a 21)), (1, .ref (a 31)), (2, .int p1)] := hl
  refine lv_iload_n S.1 S.2.1 dX4_readFrom_0 rfl (lv_at hl 2 rfl) ?_
  refine lv_istore_n (lv' := [(3, .int p1), (0, .ref (a 21)), (1, .ref (a 31)), (2, .int p1)]) S.1 S.2.1 dX4_readFrom_1 rfl hl (by decide) rfl (fun ls hl => ?_)
  refine lv_aload_n S.1 S.2.1 dX4_readFrom_2 rfl (lv_at hl 2 rfl) ?_
  refine lv_iload_n S.1 S.2.1 dX4_readFrom_3 rfl (lv_at hl 0 rfl) ?_
  refine lv_aload_n S.1 S.2.1 dX4_readFrom_4 rfl (lv_at hl 1 rfl) ?_
  refine xget (v := .ref (a 22)) S hK hw 21 rfl rfl inX4 2 (by decide) mfX4_9 rfl dX4_readFrom_5 ?_
  refine lv_iconst (v := 0) S.1 S.2.1 dX4_readFrom_8 (by decide) ?_
  refine lv_bipush (v := 48) S.1 S.2.1 dX4_readFrom_9 (by decide) ?_
  refine xcp2 (f := u.1 31) (x := p1) (y := (0 : Int32)) (n := (48 : Int32)) (b1 := (p1).toInt) (b2 := 0) (b3 := 48) S mlX4_40 hK ac_nat ac_st ac_in hw hl.1 31 22 0 rfl rfl rfl rfl rfl rfl (by omega) (by omega) (by omega) (by omega) (by omega) ⟨Nat.le_of_ble_eq_true rfl, by decide +kernel⟩ (sC_22 _ _ _ _) dX4_readFrom_11 (fun H locs hw => ?_)
  refine lv_iinc (v := (p1 + (48 : Int32))) (lv' := [(3, .int (p1 + (48 : Int32))), (0, .ref (a 21)), (1, .ref (a 31)), (2, .int p1)]) S.1 S.2.1 dX4_readFrom_14 hl (k := 0) rfl rfl (by decide) rfl (fun ls hl => ?_)
  refine lv_aload_n S.1 S.2.1 dX4_readFrom_17 rfl (lv_at hl 2 rfl) ?_
  refine lv_iload_n S.1 S.2.1 dX4_readFrom_18 rfl (lv_at hl 0 rfl) ?_
  refine lv_aload_n S.1 S.2.1 dX4_readFrom_19 rfl (lv_at hl 1 rfl) ?_
  refine xget (v := .ref (a 23)) S hK hw 21 rfl rfl inX4 3 (by decide) mfX4_15 rfl dX4_readFrom_20 ?_
  refine lv_iconst (v := 0) S.1 S.2.1 dX4_readFrom_23 (by decide) ?_
  refine lv_bipush (v := 6) S.1 S.2.1 dX4_readFrom_24 (by decide) ?_
  have e_2 : ∀ _ : Unit, ((p1 + (48 : Int32))).toInt = (p1).toInt + 48 := fun _ => xadd rfl rfl (by omega) (by omega)
  refine xcp2 (f := u.1 31) (x := (p1 + (48 : Int32))) (y := (0 : Int32)) (n := (6 : Int32)) (b1 := ((p1).toInt + 48)) (b2 := 0) (b3 := 6) S mlX4_40 hK ac_nat ac_st ac_in hw hl.1 31 23 0 rfl rfl rfl (e_2 ()) rfl rfl (by omega) (by omega) (by omega) (by omega) (by omega) ⟨Nat.le_of_ble_eq_true rfl, by decide +kernel⟩ (sC_23 _ _ _ _) dX4_readFrom_26 (fun H locs hw => ?_)
  refine lv_iinc (v := ((p1 + (48 : Int32)) + (6 : Int32))) (lv' := [(3, .int ((p1 + (48 : Int32)) + (6 : Int32))), (0, .ref (a 21)), (1, .ref (a 31)), (2, .int p1)]) S.1 S.2.1 dX4_readFrom_29 hl (k := 0) rfl rfl (by decide) rfl (fun ls hl => ?_)
  refine lv_aload_n S.1 S.2.1 dX4_readFrom_32 rfl (lv_at hl 2 rfl) ?_
  refine lv_iload_n S.1 S.2.1 dX4_readFrom_33 rfl (lv_at hl 0 rfl) ?_
  refine lv_aload_n S.1 S.2.1 dX4_readFrom_34 rfl (lv_at hl 1 rfl) ?_
  refine xget (v := .ref (a 24)) S hK hw 21 rfl rfl inX4 4 (by decide) mfX4_18 rfl dX4_readFrom_35 ?_
  refine lv_iconst (v := 0) S.1 S.2.1 dX4_readFrom_38 (by decide) ?_
  refine lv_bipush (v := 6) S.1 S.2.1 dX4_readFrom_39 (by decide) ?_
  have e_4 : ∀ _ : Unit, (((p1 + (48 : Int32)) + (6 : Int32))).toInt = ((p1).toInt + 48) + 6 := fun _ => xadd (e_2 ()) rfl (by omega) (by omega)
  refine xcp2 (f := u.1 31) (x := ((p1 + (48 : Int32)) + (6 : Int32))) (y := (0 : Int32)) (n := (6 : Int32)) (b1 := (((p1).toInt + 48) + 6)) (b2 := 0) (b3 := 6) S mlX4_40 hK ac_nat ac_st ac_in hw hl.1 31 24 0 rfl rfl rfl (e_4 ()) rfl rfl (by omega) (by omega) (by omega) (by omega) (by omega) ⟨Nat.le_of_ble_eq_true rfl, by decide +kernel⟩ (sC_24 _ _ _ _) dX4_readFrom_41 (fun H locs hw => ?_)
  refine lv_iinc (v := (((p1 + (48 : Int32)) + (6 : Int32)) + (6 : Int32))) (lv' := [(3, .int (((p1 + (48 : Int32)) + (6 : Int32)) + (6 : Int32))), (0, .ref (a 21)), (1, .ref (a 31)), (2, .int p1)]) S.1 S.2.1 dX4_readFrom_44 hl (k := 0) rfl rfl (by decide) rfl (fun ls hl => ?_)
  refine lv_aload_n S.1 S.2.1 dX4_readFrom_47 rfl (lv_at hl 2 rfl) ?_
  refine lv_iload_n S.1 S.2.1 dX4_readFrom_48 rfl (lv_at hl 0 rfl) ?_
  refine lv_aload_n S.1 S.2.1 dX4_readFrom_49 rfl (lv_at hl 1 rfl) ?_
  refine xget (v := .ref (a 25)) S hK hw 21 rfl rfl inX4 5 (by decide) mfX4_21 rfl dX4_readFrom_50 ?_
  refine lv_iconst (v := 0) S.1 S.2.1 dX4_readFrom_53 (by decide) ?_
  refine lv_bipush (v := 6) S.1 S.2.1 dX4_readFrom_54 (by decide) ?_
  have e_6 : ∀ _ : Unit, ((((p1 + (48 : Int32)) + (6 : Int32)) + (6 : Int32))).toInt = (((p1).toInt + 48) + 6) + 6 := fun _ => xadd (e_4 ()) rfl (by omega) (by omega)
  refine xcp2 (f := u.1 31) (x := (((p1 + (48 : Int32)) + (6 : Int32)) + (6 : Int32))) (y := (0 : Int32)) (n := (6 : Int32)) (b1 := ((((p1).toInt + 48) + 6) + 6)) (b2 := 0) (b3 := 6) S mlX4_40 hK ac_nat ac_st ac_in hw hl.1 31 25 0 rfl rfl rfl (e_6 ()) rfl rfl (by omega) (by omega) (by omega) (by omega) (by omega) ⟨Nat.le_of_ble_eq_true rfl, by decide +kernel⟩ (sC_25 _ _ _ _) dX4_readFrom_56 (fun H locs hw => ?_)
  refine lv_iinc (v := ((((p1 + (48 : Int32)) + (6 : Int32)) + (6 : Int32)) + (6 : Int32))) (lv' := [(3, .int ((((p1 + (48 : Int32)) + (6 : Int32)) + (6 : Int32)) + (6 : Int32))), (0, .ref (a 21)), (1, .ref (a 31)), (2, .int p1)]) S.1 S.2.1 dX4_readFrom_59 hl (k := 0) rfl rfl (by decide) rfl (fun ls hl => ?_)
  refine lv_aload_n S.1 S.2.1 dX4_readFrom_62 rfl (lv_at hl 2 rfl) ?_
  refine lv_iload_n S.1 S.2.1 dX4_readFrom_63 rfl (lv_at hl 0 rfl) ?_
  refine lv_aload_n S.1 S.2.1 dX4_readFrom_64 rfl (lv_at hl 1 rfl) ?_
  refine xget (v := .ref (a 26)) S hK hw 21 rfl rfl inX4 6 (by decide) mfX4_24 rfl dX4_readFrom_65 ?_
  refine lv_iconst (v := 0) S.1 S.2.1 dX4_readFrom_68 (by decide) ?_
  refine lv_bipush (v := 6) S.1 S.2.1 dX4_readFrom_69 (by decide) ?_
  have e_8 : ∀ _ : Unit, (((((p1 + (48 : Int32)) + (6 : Int32)) + (6 : Int32)) + (6 : Int32))).toInt = ((((p1).toInt + 48) + 6) + 6) + 6 := fun _ => xadd (e_6 ()) rfl (by omega) (by omega)
  refine xcp2 (f := u.1 31) (x := ((((p1 + (48 : Int32)) + (6 : Int32)) + (6 : Int32)) + (6 : Int32))) (y := (0 : Int32)) (n := (6 : Int32)) (b1 := (((((p1).toInt + 48) + 6) + 6) + 6)) (b2 := 0) (b3 := 6) S mlX4_40 hK ac_nat ac_st ac_in hw hl.1 31 26 0 rfl rfl rfl (e_8 ()) rfl rfl (by omega) (by omega) (by omega) (by omega) (by omega) ⟨Nat.le_of_ble_eq_true rfl, by decide +kernel⟩ (sC_26 _ _ _ _) dX4_readFrom_71 (fun H locs hw => ?_)
  refine lv_iinc (v := (((((p1 + (48 : Int32)) + (6 : Int32)) + (6 : Int32)) + (6 : Int32)) + (6 : Int32))) (lv' := [(3, .int (((((p1 + (48 : Int32)) + (6 : Int32)) + (6 : Int32)) + (6 : Int32)) + (6 : Int32))), (0, .ref (a 21)), (1, .ref (a 31)), (2, .int p1)]) S.1 S.2.1 dX4_readFrom_74 hl (k := 0) rfl rfl (by decide) rfl (fun ls hl => ?_)
  refine lv_aload_n S.1 S.2.1 dX4_readFrom_77 rfl (lv_at hl 1 rfl) ?_
  refine lv_aload_n S.1 S.2.1 dX4_readFrom_78 rfl (lv_at hl 2 rfl) ?_
  refine lv_iload_n S.1 S.2.1 dX4_readFrom_79 rfl (lv_at hl 0 rfl) ?_
  have e_10 : ∀ _ : Unit, ((((((p1 + (48 : Int32)) + (6 : Int32)) + (6 : Int32)) + (6 : Int32)) + (6 : Int32))).toInt = (((((p1).toInt + 48) + 6) + 6) + 6) + 6 := fun _ => xadd (e_8 ()) rfl (by omega) (by omega)
  refine xald (f := u.1 31) S hK hw 31 0 rfl rfl (xvi (e_10 ()) (by omega) (by omega)) dX4_readFrom_80 ?_
  refine xputi (ty := .int) S hK hw 21 rfl rfl inX4 tyX4 tyX4_ok nmX4 0 (by decide) mfX4_33 rfl (by decide +kernel) rfl rfl (Nat.le_of_ble_eq_true rfl) (oC_21_0 _ _ _ _) dX4_readFrom_81 (fun H locs hw => ?_)
  refine lv_aload_n S.1 S.2.1 dX4_readFrom_84 rfl (lv_at hl 1 rfl) ?_
  refine lv_aload_n S.1 S.2.1 dX4_readFrom_85 rfl (lv_at hl 2 rfl) ?_
  refine lv_iload_n S.1 S.2.1 dX4_readFrom_86 rfl (lv_at hl 0 rfl) ?_
  refine lv_iconst (v := 1) S.1 S.2.1 dX4_readFrom_87 (by decide) ?_
  refine lv_iadd S.1 S.2.1 dX4_readFrom_88 ?_
  have e_12 : ∀ _ : Unit, (((((((p1 + (48 : Int32)) + (6 : Int32)) + (6 : Int32)) + (6 : Int32)) + (6 : Int32)) + (1 : Int32))).toInt = ((((((p1).toInt + 48) + 6) + 6) + 6) + 6) + 1 := fun _ => xadd (e_10 ()) rfl (by omega) (by omega)
  refine xald (f := u.1 31) S hK hw 31 0 rfl rfl (xvi (e_12 ()) (by omega) (by omega)) dX4_readFrom_89 ?_
  refine xputi (ty := .int) S hK hw 21 rfl rfl inX4 tyX4 tyX4_ok nmX4 1 (by decide) mfX4_37 rfl (by decide +kernel) rfl rfl (Nat.le_of_ble_eq_true rfl) (oC_21_1 _ _ _ _) dX4_readFrom_90 (fun H locs hw => ?_)
  exact xrv S hr hlk hw hV dX4_readFrom_93
noncomputable def k_Moment_writeTo_21_35_b (u : xU) (p1 : Int32) : xU :=
    let w_1 := sp u 35 (va_cpy (u.1 22) (u.1 35) ((0 : Int32)).toNatClampNeg (p1).toNatClampNeg ((48 : Int32)).toNatClampNeg)
    let w_3 := sp w_1 35 (va_cpy (u.1 23) (w_1.1 35) ((0 : Int32)).toNatClampNeg ((p1 + (48 : Int32))).toNatClampNeg ((6 : Int32)).toNatClampNeg)
    let w_5 := sp w_3 35 (va_cpy (u.1 24) (w_3.1 35) ((0 : Int32)).toNatClampNeg (((p1 + (48 : Int32)) + (6 : Int32))).toNatClampNeg ((6 : Int32)).toNatClampNeg)
    let w_7 := sp w_5 35 (va_cpy (u.1 25) (w_5.1 35) ((0 : Int32)).toNatClampNeg ((((p1 + (48 : Int32)) + (6 : Int32)) + (6 : Int32))).toNatClampNeg ((6 : Int32)).toNatClampNeg)
    let w_9 := sp w_7 35 (va_cpy (u.1 26) (w_7.1 35) ((0 : Int32)).toNatClampNeg (((((p1 + (48 : Int32)) + (6 : Int32)) + (6 : Int32)) + (6 : Int32))).toNatClampNeg ((6 : Int32)).toNatClampNeg)
    let w_11 := sp w_9 35 (upd (w_9.1 35) ((((((p1 + (48 : Int32)) + (6 : Int32)) + (6 : Int32)) + (6 : Int32)) + (6 : Int32))).toNatClampNeg (u.1 21 0))
    let w_13 := sp w_11 35 (upd (w_11.1 35) (((((((p1 + (48 : Int32)) + (6 : Int32)) + (6 : Int32)) + (6 : Int32)) + (6 : Int32)) + (1 : Int32))).toNatClampNeg (u.1 21 1))
    w_13
theorem k_Moment_writeTo_21_35_x : ∃ f : xU → Int32 → xU, f = k_Moment_writeTo_21_35_b := ⟨_, rfl⟩
noncomputable def k_Moment_writeTo_21_35 : xU → Int32 → xU := k_Moment_writeTo_21_35_x.choose
theorem k_Moment_writeTo_21_35_def : k_Moment_writeTo_21_35 = k_Moment_writeTo_21_35_b := k_Moment_writeTo_21_35_x.choose_spec
set_option maxHeartbeats 4000000 in
set_option maxRecDepth 100000 in
theorem c_k_Moment_writeTo_21_35 (l : Launch) (D : va_G) (a : Nat → Nat) (Y : Nat → ClassId) (ts : Nat → Nat) (u : xU) (p1 : Int32) (hp0 : 0 ≤ (p1).toInt ∧ (p1).toInt < 1) : xMv l yX4_writeTo cX4_writeTo 4 none (xRm 1 60) D (xty Y) (wC a Y) ts [.ref (a 21), .ref (a 35), .int p1] u (k_Moment_writeTo_21_35 u p1) := by
  suffices h : ∀ V, V = k_Moment_writeTo_21_35_b u p1 → xMv l yX4_writeTo cX4_writeTo 4 none (xRm 1 60) D (xty Y) (wC a Y) ts [.ref (a 21), .ref (a 35), .int p1] u V from h _ (by rw [k_Moment_writeTo_21_35_def])
  intro V hV
  refine xofv RX4 rfl (by decide) (Nat.le_of_ble_eq_true rfl) ?_
  intro p e s m args below meth c ls H locs A S hr hlk hl hK hE hA hw
  have hl : lv_has ls 4 [(0, .ref (a 21)), (1, .ref (a 35)), (2, .int p1)] := hl
  refine lv_iload_n S.1 S.2.1 dX4_writeTo_0 rfl (lv_at hl 2 rfl) ?_
  refine lv_istore_n (lv' := [(3, .int p1), (0, .ref (a 21)), (1, .ref (a 35)), (2, .int p1)]) S.1 S.2.1 dX4_writeTo_1 rfl hl (by decide) rfl (fun ls hl => ?_)
  refine lv_aload_n S.1 S.2.1 dX4_writeTo_2 rfl (lv_at hl 1 rfl) ?_
  refine xget (v := .ref (a 22)) S hK hw 21 rfl rfl inX4 2 (by decide) mfX4_9 rfl dX4_writeTo_3 ?_
  refine lv_iconst (v := 0) S.1 S.2.1 dX4_writeTo_6 (by decide) ?_
  refine lv_aload_n S.1 S.2.1 dX4_writeTo_7 rfl (lv_at hl 2 rfl) ?_
  refine lv_iload_n S.1 S.2.1 dX4_writeTo_8 rfl (lv_at hl 0 rfl) ?_
  refine lv_bipush (v := 48) S.1 S.2.1 dX4_writeTo_9 (by decide) ?_
  refine xcp2 (f := u.1 22) (x := (0 : Int32)) (y := p1) (n := (48 : Int32)) (b1 := 0) (b2 := (p1).toInt) (b3 := 48) S mlX4_40 hK ac_nat ac_st ac_in hw hl.1 22 35 0 rfl rfl rfl rfl rfl rfl (by omega) (by omega) (by omega) (by omega) (by omega) ⟨Nat.le_of_ble_eq_true rfl, by decide +kernel⟩ (sC_35 _ _ _ _) dX4_writeTo_11 (fun H locs hw => ?_)
  refine lv_iinc (v := (p1 + (48 : Int32))) (lv' := [(3, .int (p1 + (48 : Int32))), (0, .ref (a 21)), (1, .ref (a 35)), (2, .int p1)]) S.1 S.2.1 dX4_writeTo_14 hl (k := 0) rfl rfl (by decide) rfl (fun ls hl => ?_)
  refine lv_aload_n S.1 S.2.1 dX4_writeTo_17 rfl (lv_at hl 1 rfl) ?_
  refine xget (v := .ref (a 23)) S hK hw 21 rfl rfl inX4 3 (by decide) mfX4_15 rfl dX4_writeTo_18 ?_
  refine lv_iconst (v := 0) S.1 S.2.1 dX4_writeTo_21 (by decide) ?_
  refine lv_aload_n S.1 S.2.1 dX4_writeTo_22 rfl (lv_at hl 2 rfl) ?_
  refine lv_iload_n S.1 S.2.1 dX4_writeTo_23 rfl (lv_at hl 0 rfl) ?_
  refine lv_bipush (v := 6) S.1 S.2.1 dX4_writeTo_24 (by decide) ?_
  have e_2 : ∀ _ : Unit, ((p1 + (48 : Int32))).toInt = (p1).toInt + 48 := fun _ => xadd rfl rfl (by omega) (by omega)
  refine xcp2 (f := u.1 23) (x := (0 : Int32)) (y := (p1 + (48 : Int32))) (n := (6 : Int32)) (b1 := 0) (b2 := ((p1).toInt + 48)) (b3 := 6) S mlX4_40 hK ac_nat ac_st ac_in hw hl.1 23 35 0 rfl rfl rfl rfl (e_2 ()) rfl (by omega) (by omega) (by omega) (by omega) (by omega) ⟨Nat.le_of_ble_eq_true rfl, by decide +kernel⟩ (sC_35 _ _ _ _) dX4_writeTo_26 (fun H locs hw => ?_)
  refine lv_iinc (v := ((p1 + (48 : Int32)) + (6 : Int32))) (lv' := [(3, .int ((p1 + (48 : Int32)) + (6 : Int32))), (0, .ref (a 21)), (1, .ref (a 35)), (2, .int p1)]) S.1 S.2.1 dX4_writeTo_29 hl (k := 0) rfl rfl (by decide) rfl (fun ls hl => ?_)
  refine lv_aload_n S.1 S.2.1 dX4_writeTo_32 rfl (lv_at hl 1 rfl) ?_
  refine xget (v := .ref (a 24)) S hK hw 21 rfl rfl inX4 4 (by decide) mfX4_18 rfl dX4_writeTo_33 ?_
  refine lv_iconst (v := 0) S.1 S.2.1 dX4_writeTo_36 (by decide) ?_
  refine lv_aload_n S.1 S.2.1 dX4_writeTo_37 rfl (lv_at hl 2 rfl) ?_
  refine lv_iload_n S.1 S.2.1 dX4_writeTo_38 rfl (lv_at hl 0 rfl) ?_
  refine lv_bipush (v := 6) S.1 S.2.1 dX4_writeTo_39 (by decide) ?_
  have e_4 : ∀ _ : Unit, (((p1 + (48 : Int32)) + (6 : Int32))).toInt = ((p1).toInt + 48) + 6 := fun _ => xadd (e_2 ()) rfl (by omega) (by omega)
  refine xcp2 (f := u.1 24) (x := (0 : Int32)) (y := ((p1 + (48 : Int32)) + (6 : Int32))) (n := (6 : Int32)) (b1 := 0) (b2 := (((p1).toInt + 48) + 6)) (b3 := 6) S mlX4_40 hK ac_nat ac_st ac_in hw hl.1 24 35 0 rfl rfl rfl rfl (e_4 ()) rfl (by omega) (by omega) (by omega) (by omega) (by omega) ⟨Nat.le_of_ble_eq_true rfl, by decide +kernel⟩ (sC_35 _ _ _ _) dX4_writeTo_41 (fun H locs hw => ?_)
  refine lv_iinc (v := (((p1 + (48 : Int32)) + (6 : Int32)) + (6 : Int32))) (lv' := [(3, .int (((p1 + (48 : Int32)) + (6 : Int32)) + (6 : Int32))), (0, .ref (a 21)), (1, .ref (a 35)), (2, .int p1)]) S.1 S.2.1 dX4_writeTo_44 hl (k := 0) rfl rfl (by decide) rfl (fun ls hl => ?_)
  refine lv_aload_n S.1 S.2.1 dX4_writeTo_47 rfl (lv_at hl 1 rfl) ?_
  refine xget (v := .ref (a 25)) S hK hw 21 rfl rfl inX4 5 (by decide) mfX4_21 rfl dX4_writeTo_48 ?_
  refine lv_iconst (v := 0) S.1 S.2.1 dX4_writeTo_51 (by decide) ?_
  refine lv_aload_n S.1 S.2.1 dX4_writeTo_52 rfl (lv_at hl 2 rfl) ?_
  refine lv_iload_n S.1 S.2.1 dX4_writeTo_53 rfl (lv_at hl 0 rfl) ?_
  refine lv_bipush (v := 6) S.1 S.2.1 dX4_writeTo_54 (by decide) ?_
  have e_6 : ∀ _ : Unit, ((((p1 + (48 : Int32)) + (6 : Int32)) + (6 : Int32))).toInt = (((p1).toInt + 48) + 6) + 6 := fun _ => xadd (e_4 ()) rfl (by omega) (by omega)
  refine xcp2 (f := u.1 25) (x := (0 : Int32)) (y := (((p1 + (48 : Int32)) + (6 : Int32)) + (6 : Int32))) (n := (6 : Int32)) (b1 := 0) (b2 := ((((p1).toInt + 48) + 6) + 6)) (b3 := 6) S mlX4_40 hK ac_nat ac_st ac_in hw hl.1 25 35 0 rfl rfl rfl rfl (e_6 ()) rfl (by omega) (by omega) (by omega) (by omega) (by omega) ⟨Nat.le_of_ble_eq_true rfl, by decide +kernel⟩ (sC_35 _ _ _ _) dX4_writeTo_56 (fun H locs hw => ?_)
  refine lv_iinc (v := ((((p1 + (48 : Int32)) + (6 : Int32)) + (6 : Int32)) + (6 : Int32))) (lv' := [(3, .int ((((p1 + (48 : Int32)) + (6 : Int32)) + (6 : Int32)) + (6 : Int32))), (0, .ref (a 21)), (1, .ref (a 35)), (2, .int p1)]) S.1 S.2.1 dX4_writeTo_59 hl (k := 0) rfl rfl (by decide) rfl (fun ls hl => ?_)
  refine lv_aload_n S.1 S.2.1 dX4_writeTo_62 rfl (lv_at hl 1 rfl) ?_
  refine xget (v := .ref (a 26)) S hK hw 21 rfl rfl inX4 6 (by decide) mfX4_24 rfl dX4_writeTo_63 ?_
  refine lv_iconst (v := 0) S.1 S.2.1 dX4_writeTo_66 (by decide) ?_
  refine lv_aload_n S.1 S.2.1 dX4_writeTo_67 rfl (lv_at hl 2 rfl) ?_
  refine lv_iload_n S.1 S.2.1 dX4_writeTo_68 rfl (lv_at hl 0 rfl) ?_
  refine lv_bipush (v := 6) S.1 S.2.1 dX4_writeTo_69 (by decide) ?_
  have e_8 : ∀ _ : Unit, (((((p1 + (48 : Int32)) + (6 : Int32)) + (6 : Int32)) + (6 : Int32))).toInt = ((((p1).toInt + 48) + 6) + 6) + 6 := fun _ => xadd (e_6 ()) rfl (by omega) (by omega)
  refine xcp2 (f := u.1 26) (x := (0 : Int32)) (y := ((((p1 + (48 : Int32)) + (6 : Int32)) + (6 : Int32)) + (6 : Int32))) (n := (6 : Int32)) (b1 := 0) (b2 := (((((p1).toInt + 48) + 6) + 6) + 6)) (b3 := 6) S mlX4_40 hK ac_nat ac_st ac_in hw hl.1 26 35 0 rfl rfl rfl rfl (e_8 ()) rfl (by omega) (by omega) (by omega) (by omega) (by omega) ⟨Nat.le_of_ble_eq_true rfl, by decide +kernel⟩ (sC_35 _ _ _ _) dX4_writeTo_71 (fun H locs hw => ?_)
  refine lv_iinc (v := (((((p1 + (48 : Int32)) + (6 : Int32)) + (6 : Int32)) + (6 : Int32)) + (6 : Int32))) (lv' := [(3, .int (((((p1 + (48 : Int32)) + (6 : Int32)) + (6 : Int32)) + (6 : Int32)) + (6 : Int32))), (0, .ref (a 21)), (1, .ref (a 35)), (2, .int p1)]) S.1 S.2.1 dX4_writeTo_74 hl (k := 0) rfl rfl (by decide) rfl (fun ls hl => ?_)
  refine lv_aload_n S.1 S.2.1 dX4_writeTo_77 rfl (lv_at hl 2 rfl) ?_
  refine lv_iload_n S.1 S.2.1 dX4_writeTo_78 rfl (lv_at hl 0 rfl) ?_
  refine lv_aload_n S.1 S.2.1 dX4_writeTo_79 rfl (lv_at hl 1 rfl) ?_
  refine xget (v := .int (u.1 21 0)) S hK hw 21 rfl rfl inX4 0 (by decide) mfX4_33 rfl dX4_writeTo_80 ?_
  have e_10 : ∀ _ : Unit, ((((((p1 + (48 : Int32)) + (6 : Int32)) + (6 : Int32)) + (6 : Int32)) + (6 : Int32))).toInt = (((((p1).toInt + 48) + 6) + 6) + 6) + 6 := fun _ => xadd (e_8 ()) rfl (by omega) (by omega)
  refine xast S hK hw 35 0 rfl rfl (xvi (e_10 ()) (by omega) (by omega)) (sC_35 _ _ _ _) dX4_writeTo_83 (fun H locs hw => ?_)
  refine lv_aload_n S.1 S.2.1 dX4_writeTo_84 rfl (lv_at hl 2 rfl) ?_
  refine lv_iload_n S.1 S.2.1 dX4_writeTo_85 rfl (lv_at hl 0 rfl) ?_
  refine lv_iconst (v := 1) S.1 S.2.1 dX4_writeTo_86 (by decide) ?_
  refine lv_iadd S.1 S.2.1 dX4_writeTo_87 ?_
  refine lv_aload_n S.1 S.2.1 dX4_writeTo_88 rfl (lv_at hl 1 rfl) ?_
  refine xget (v := .int (u.1 21 1)) S hK hw 21 rfl rfl inX4 1 (by decide) mfX4_37 rfl dX4_writeTo_89 ?_
  have e_12 : ∀ _ : Unit, (((((((p1 + (48 : Int32)) + (6 : Int32)) + (6 : Int32)) + (6 : Int32)) + (6 : Int32)) + (1 : Int32))).toInt = ((((((p1).toInt + 48) + 6) + 6) + 6) + 6) + 1 := fun _ => xadd (e_10 ()) rfl (by omega) (by omega)
  refine xast S hK hw 35 0 rfl rfl (xvi (e_12 ()) (by omega) (by omega)) (sC_35 _ _ _ _) dX4_writeTo_92 (fun H locs hw => ?_)
  exact xrv S hr hlk hw hV dX4_writeTo_93
noncomputable def k_Moment_readFrom_21_35_b (u : xU) (p1 : Int32) : xU :=
    let w_1 := sp u 22 (va_cpy (u.1 35) (u.1 22) (p1).toNatClampNeg ((0 : Int32)).toNatClampNeg ((48 : Int32)).toNatClampNeg)
    let w_3 := sp w_1 23 (va_cpy (u.1 35) (u.1 23) ((p1 + (48 : Int32))).toNatClampNeg ((0 : Int32)).toNatClampNeg ((6 : Int32)).toNatClampNeg)
    let w_5 := sp w_3 24 (va_cpy (u.1 35) (u.1 24) (((p1 + (48 : Int32)) + (6 : Int32))).toNatClampNeg ((0 : Int32)).toNatClampNeg ((6 : Int32)).toNatClampNeg)
    let w_7 := sp w_5 25 (va_cpy (u.1 35) (u.1 25) ((((p1 + (48 : Int32)) + (6 : Int32)) + (6 : Int32))).toNatClampNeg ((0 : Int32)).toNatClampNeg ((6 : Int32)).toNatClampNeg)
    let w_9 := sp w_7 26 (va_cpy (u.1 35) (u.1 26) (((((p1 + (48 : Int32)) + (6 : Int32)) + (6 : Int32)) + (6 : Int32))).toNatClampNeg ((0 : Int32)).toNatClampNeg ((6 : Int32)).toNatClampNeg)
    let w_11 := sp w_9 21 (upd (u.1 21) 0 (u.1 35 ((((((p1 + (48 : Int32)) + (6 : Int32)) + (6 : Int32)) + (6 : Int32)) + (6 : Int32))).toNatClampNeg))
    let w_13 := sp w_11 21 (upd (w_11.1 21) 1 (u.1 35 (((((((p1 + (48 : Int32)) + (6 : Int32)) + (6 : Int32)) + (6 : Int32)) + (6 : Int32)) + (1 : Int32))).toNatClampNeg))
    w_13
theorem k_Moment_readFrom_21_35_x : ∃ f : xU → Int32 → xU, f = k_Moment_readFrom_21_35_b := ⟨_, rfl⟩
noncomputable def k_Moment_readFrom_21_35 : xU → Int32 → xU := k_Moment_readFrom_21_35_x.choose
theorem k_Moment_readFrom_21_35_def : k_Moment_readFrom_21_35 = k_Moment_readFrom_21_35_b := k_Moment_readFrom_21_35_x.choose_spec
set_option maxHeartbeats 4000000 in
set_option maxRecDepth 100000 in
theorem c_k_Moment_readFrom_21_35 (l : Launch) (D : va_G) (a : Nat → Nat) (Y : Nat → ClassId) (ts : Nat → Nat) (u : xU) (p1 : Int32) (hp0 : 0 ≤ (p1).toInt ∧ (p1).toInt < 1) : xMv l yX4_readFrom cX4_readFrom 4 none (xRm 1 60) D (xty Y) (wC a Y) ts [.ref (a 21), .ref (a 35), .int p1] u (k_Moment_readFrom_21_35 u p1) := by
  suffices h : ∀ V, V = k_Moment_readFrom_21_35_b u p1 → xMv l yX4_readFrom cX4_readFrom 4 none (xRm 1 60) D (xty Y) (wC a Y) ts [.ref (a 21), .ref (a 35), .int p1] u V from h _ (by rw [k_Moment_readFrom_21_35_def])
  intro V hV
  refine xofv RX4 rfl (by decide) (Nat.le_of_ble_eq_true rfl) ?_
  intro p e s m args below meth c ls H locs A S hr hlk hl hK hE hA hw
  have hl : lv_has ls 4 [(0, .ref (a 21)), (1, .ref (a 35)), (2, .int p1)] := hl
  refine lv_iload_n S.1 S.2.1 dX4_readFrom_0 rfl (lv_at hl 2 rfl) ?_
  refine lv_istore_n (lv' := [(3, .int p1), (0, .ref (a 21)), (1, .ref (a 35)), (2, .int p1)]) S.1 S.2.1 dX4_readFrom_1 rfl hl (by decide) rfl (fun ls hl => ?_)
  refine lv_aload_n S.1 S.2.1 dX4_readFrom_2 rfl (lv_at hl 2 rfl) ?_
  refine lv_iload_n S.1 S.2.1 dX4_readFrom_3 rfl (lv_at hl 0 rfl) ?_
  refine lv_aload_n S.1 S.2.1 dX4_readFrom_4 rfl (lv_at hl 1 rfl) ?_
  refine xget (v := .ref (a 22)) S hK hw 21 rfl rfl inX4 2 (by decide) mfX4_9 rfl dX4_readFrom_5 ?_
  refine lv_iconst (v := 0) S.1 S.2.1 dX4_readFrom_8 (by decide) ?_
  refine lv_bipush (v := 48) S.1 S.2.1 dX4_readFrom_9 (by decide) ?_
  refine xcp2 (f := u.1 35) (x := p1) (y := (0 : Int32)) (n := (48 : Int32)) (b1 := (p1).toInt) (b2 := 0) (b3 := 48) S mlX4_40 hK ac_nat ac_st ac_in hw hl.1 35 22 0 rfl rfl rfl rfl rfl rfl (by omega) (by omega) (by omega) (by omega) (by omega) ⟨Nat.le_of_ble_eq_true rfl, by decide +kernel⟩ (sC_22 _ _ _ _) dX4_readFrom_11 (fun H locs hw => ?_)
  refine lv_iinc (v := (p1 + (48 : Int32))) (lv' := [(3, .int (p1 + (48 : Int32))), (0, .ref (a 21)), (1, .ref (a 35)), (2, .int p1)]) S.1 S.2.1 dX4_readFrom_14 hl (k := 0) rfl rfl (by decide) rfl (fun ls hl => ?_)
  refine lv_aload_n S.1 S.2.1 dX4_readFrom_17 rfl (lv_at hl 2 rfl) ?_
  refine lv_iload_n S.1 S.2.1 dX4_readFrom_18 rfl (lv_at hl 0 rfl) ?_
  refine lv_aload_n S.1 S.2.1 dX4_readFrom_19 rfl (lv_at hl 1 rfl) ?_
  refine xget (v := .ref (a 23)) S hK hw 21 rfl rfl inX4 3 (by decide) mfX4_15 rfl dX4_readFrom_20 ?_
  refine lv_iconst (v := 0) S.1 S.2.1 dX4_readFrom_23 (by decide) ?_
  refine lv_bipush (v := 6) S.1 S.2.1 dX4_readFrom_24 (by decide) ?_
  have e_2 : ∀ _ : Unit, ((p1 + (48 : Int32))).toInt = (p1).toInt + 48 := fun _ => xadd rfl rfl (by omega) (by omega)
  refine xcp2 (f := u.1 35) (x := (p1 + (48 : Int32))) (y := (0 : Int32)) (n := (6 : Int32)) (b1 := ((p1).toInt + 48)) (b2 := 0) (b3 := 6) S mlX4_40 hK ac_nat ac_st ac_in hw hl.1 35 23 0 rfl rfl rfl (e_2 ()) rfl rfl (by omega) (by omega) (by omega) (by omega) (by omega) ⟨Nat.le_of_ble_eq_true rfl, by decide +kernel⟩ (sC_23 _ _ _ _) dX4_readFrom_26 (fun H locs hw => ?_)
  refine lv_iinc (v := ((p1 + (48 : Int32)) + (6 : Int32))) (lv' := [(3, .int ((p1 + (48 : Int32)) + (6 : Int32))), (0, .ref (a 21)), (1, .ref (a 35)), (2, .int p1)]) S.1 S.2.1 dX4_readFrom_29 hl (k := 0) rfl rfl (by decide) rfl (fun ls hl => ?_)
  refine lv_aload_n S.1 S.2.1 dX4_readFrom_32 rfl (lv_at hl 2 rfl) ?_
  refine lv_iload_n S.1 S.2.1 dX4_readFrom_33 rfl (lv_at hl 0 rfl) ?_
  refine lv_aload_n S.1 S.2.1 dX4_readFrom_34 rfl (lv_at hl 1 rfl) ?_
  refine xget (v := .ref (a 24)) S hK hw 21 rfl rfl inX4 4 (by decide) mfX4_18 rfl dX4_readFrom_35 ?_
  refine lv_iconst (v := 0) S.1 S.2.1 dX4_readFrom_38 (by decide) ?_
  refine lv_bipush (v := 6) S.1 S.2.1 dX4_readFrom_39 (by decide) ?_
  have e_4 : ∀ _ : Unit, (((p1 + (48 : Int32)) + (6 : Int32))).toInt = ((p1).toInt + 48) + 6 := fun _ => xadd (e_2 ()) rfl (by omega) (by omega)
  refine xcp2 (f := u.1 35) (x := ((p1 + (48 : Int32)) + (6 : Int32))) (y := (0 : Int32)) (n := (6 : Int32)) (b1 := (((p1).toInt + 48) + 6)) (b2 := 0) (b3 := 6) S mlX4_40 hK ac_nat ac_st ac_in hw hl.1 35 24 0 rfl rfl rfl (e_4 ()) rfl rfl (by omega) (by omega) (by omega) (by omega) (by omega) ⟨Nat.le_of_ble_eq_true rfl, by decide +kernel⟩ (sC_24 _ _ _ _) dX4_readFrom_41 (fun H locs hw => ?_)
  refine lv_iinc (v := (((p1 + (48 : Int32)) + (6 : Int32)) + (6 : Int32))) (lv' := [(3, .int (((p1 + (48 : Int32)) + (6 : Int32)) + (6 : Int32))), (0, .ref (a 21)), (1, .ref (a 35)), (2, .int p1)]) S.1 S.2.1 dX4_readFrom_44 hl (k := 0) rfl rfl (by decide) rfl (fun ls hl => ?_)
  refine lv_aload_n S.1 S.2.1 dX4_readFrom_47 rfl (lv_at hl 2 rfl) ?_
  refine lv_iload_n S.1 S.2.1 dX4_readFrom_48 rfl (lv_at hl 0 rfl) ?_
  refine lv_aload_n S.1 S.2.1 dX4_readFrom_49 rfl (lv_at hl 1 rfl) ?_
  refine xget (v := .ref (a 25)) S hK hw 21 rfl rfl inX4 5 (by decide) mfX4_21 rfl dX4_readFrom_50 ?_
  refine lv_iconst (v := 0) S.1 S.2.1 dX4_readFrom_53 (by decide) ?_
  refine lv_bipush (v := 6) S.1 S.2.1 dX4_readFrom_54 (by decide) ?_
  have e_6 : ∀ _ : Unit, ((((p1 + (48 : Int32)) + (6 : Int32)) + (6 : Int32))).toInt = (((p1).toInt + 48) + 6) + 6 := fun _ => xadd (e_4 ()) rfl (by omega) (by omega)
  refine xcp2 (f := u.1 35) (x := (((p1 + (48 : Int32)) + (6 : Int32)) + (6 : Int32))) (y := (0 : Int32)) (n := (6 : Int32)) (b1 := ((((p1).toInt + 48) + 6) + 6)) (b2 := 0) (b3 := 6) S mlX4_40 hK ac_nat ac_st ac_in hw hl.1 35 25 0 rfl rfl rfl (e_6 ()) rfl rfl (by omega) (by omega) (by omega) (by omega) (by omega) ⟨Nat.le_of_ble_eq_true rfl, by decide +kernel⟩ (sC_25 _ _ _ _) dX4_readFrom_56 (fun H locs hw => ?_)
  refine lv_iinc (v := ((((p1 + (48 : Int32)) + (6 : Int32)) + (6 : Int32)) + (6 : Int32))) (lv' := [(3, .int ((((p1 + (48 : Int32)) + (6 : Int32)) + (6 : Int32)) + (6 : Int32))), (0, .ref (a 21)), (1, .ref (a 35)), (2, .int p1)]) S.1 S.2.1 dX4_readFrom_59 hl (k := 0) rfl rfl (by decide) rfl (fun ls hl => ?_)
  refine lv_aload_n S.1 S.2.1 dX4_readFrom_62 rfl (lv_at hl 2 rfl) ?_
  refine lv_iload_n S.1 S.2.1 dX4_readFrom_63 rfl (lv_at hl 0 rfl) ?_
  refine lv_aload_n S.1 S.2.1 dX4_readFrom_64 rfl (lv_at hl 1 rfl) ?_
  refine xget (v := .ref (a 26)) S hK hw 21 rfl rfl inX4 6 (by decide) mfX4_24 rfl dX4_readFrom_65 ?_
  refine lv_iconst (v := 0) S.1 S.2.1 dX4_readFrom_68 (by decide) ?_
  refine lv_bipush (v := 6) S.1 S.2.1 dX4_readFrom_69 (by decide) ?_
  have e_8 : ∀ _ : Unit, (((((p1 + (48 : Int32)) + (6 : Int32)) + (6 : Int32)) + (6 : Int32))).toInt = ((((p1).toInt + 48) + 6) + 6) + 6 := fun _ => xadd (e_6 ()) rfl (by omega) (by omega)
  refine xcp2 (f := u.1 35) (x := ((((p1 + (48 : Int32)) + (6 : Int32)) + (6 : Int32)) + (6 : Int32))) (y := (0 : Int32)) (n := (6 : Int32)) (b1 := (((((p1).toInt + 48) + 6) + 6) + 6)) (b2 := 0) (b3 := 6) S mlX4_40 hK ac_nat ac_st ac_in hw hl.1 35 26 0 rfl rfl rfl (e_8 ()) rfl rfl (by omega) (by omega) (by omega) (by omega) (by omega) ⟨Nat.le_of_ble_eq_true rfl, by decide +kernel⟩ (sC_26 _ _ _ _) dX4_readFrom_71 (fun H locs hw => ?_)
  refine lv_iinc (v := (((((p1 + (48 : Int32)) + (6 : Int32)) + (6 : Int32)) + (6 : Int32)) + (6 : Int32))) (lv' := [(3, .int (((((p1 + (48 : Int32)) + (6 : Int32)) + (6 : Int32)) + (6 : Int32)) + (6 : Int32))), (0, .ref (a 21)), (1, .ref (a 35)), (2, .int p1)]) S.1 S.2.1 dX4_readFrom_74 hl (k := 0) rfl rfl (by decide) rfl (fun ls hl => ?_)
  refine lv_aload_n S.1 S.2.1 dX4_readFrom_77 rfl (lv_at hl 1 rfl) ?_
  refine lv_aload_n S.1 S.2.1 dX4_readFrom_78 rfl (lv_at hl 2 rfl) ?_
  refine lv_iload_n S.1 S.2.1 dX4_readFrom_79 rfl (lv_at hl 0 rfl) ?_
  have e_10 : ∀ _ : Unit, ((((((p1 + (48 : Int32)) + (6 : Int32)) + (6 : Int32)) + (6 : Int32)) + (6 : Int32))).toInt = (((((p1).toInt + 48) + 6) + 6) + 6) + 6 := fun _ => xadd (e_8 ()) rfl (by omega) (by omega)
  refine xald (f := u.1 35) S hK hw 35 0 rfl rfl (xvi (e_10 ()) (by omega) (by omega)) dX4_readFrom_80 ?_
  refine xputi (ty := .int) S hK hw 21 rfl rfl inX4 tyX4 tyX4_ok nmX4 0 (by decide) mfX4_33 rfl (by decide +kernel) rfl rfl (Nat.le_of_ble_eq_true rfl) (oC_21_0 _ _ _ _) dX4_readFrom_81 (fun H locs hw => ?_)
  refine lv_aload_n S.1 S.2.1 dX4_readFrom_84 rfl (lv_at hl 1 rfl) ?_
  refine lv_aload_n S.1 S.2.1 dX4_readFrom_85 rfl (lv_at hl 2 rfl) ?_
  refine lv_iload_n S.1 S.2.1 dX4_readFrom_86 rfl (lv_at hl 0 rfl) ?_
  refine lv_iconst (v := 1) S.1 S.2.1 dX4_readFrom_87 (by decide) ?_
  refine lv_iadd S.1 S.2.1 dX4_readFrom_88 ?_
  have e_12 : ∀ _ : Unit, (((((((p1 + (48 : Int32)) + (6 : Int32)) + (6 : Int32)) + (6 : Int32)) + (6 : Int32)) + (1 : Int32))).toInt = ((((((p1).toInt + 48) + 6) + 6) + 6) + 6) + 1 := fun _ => xadd (e_10 ()) rfl (by omega) (by omega)
  refine xald (f := u.1 35) S hK hw 35 0 rfl rfl (xvi (e_12 ()) (by omega) (by omega)) dX4_readFrom_89 ?_
  refine xputi (ty := .int) S hK hw 21 rfl rfl inX4 tyX4 tyX4_ok nmX4 1 (by decide) mfX4_37 rfl (by decide +kernel) rfl rfl (Nat.le_of_ble_eq_true rfl) (oC_21_1 _ _ _ _) dX4_readFrom_90 (fun H locs hw => ?_)
  exact xrv S hr hlk hw hV dX4_readFrom_93
noncomputable def k_Past_remember_b (u : xU) : xU :=
    let r_2 := k_Moment_writeTo_21_28 u ((u.1 27 1) * (74 : Int32))
    let w_3 := sp r_2 27 (upd (r_2.1 27) 1 (((r_2.1 27 1) + (1 : Int32)) - ((r_2.1 27 1) + (1 : Int32)) / (10 : Int32) * (10 : Int32)))
    let w_4 := sp w_3 27 (upd (w_3.1 27) 2 (if (10 : Int32) < ((w_3.1 27 2) + (1 : Int32)) then (10 : Int32) else ((w_3.1 27 2) + (1 : Int32))))
    w_4
theorem k_Past_remember_x : ∃ f : xU → xU, f = k_Past_remember_b := ⟨_, rfl⟩
noncomputable def k_Past_remember : xU → xU := k_Past_remember_x.choose
theorem k_Past_remember_def : k_Past_remember = k_Past_remember_b := k_Past_remember_x.choose_spec
set_option maxHeartbeats 4000000 in
set_option maxRecDepth 100000 in
theorem c_k_Past_remember (l : Launch) (D : va_G) (a : Nat → Nat) (Y : Nat → ClassId) (ts : Nat → Nat) (u : xU) (hN : (0 ≤ ((u.1 27 1)).toInt ∧ ((u.1 27 1)).toInt ≤ 9)) : xMv l yX6_remember cX6_remember 2 none (xRm 2 83) D (xty Y) (wC a Y) ts [.ref (a 27), .ref (a 21)] u (k_Past_remember u) := by
  suffices h : ∀ V, V = k_Past_remember_b u → xMv l yX6_remember cX6_remember 2 none (xRm 2 83) D (xty Y) (wC a Y) ts [.ref (a 27), .ref (a 21)] u V from h _ (by rw [k_Past_remember_def])
  intro V hV
  refine xofv RX6 rfl (by decide) (Nat.le_of_ble_eq_true rfl) ?_
  intro p e s m args below meth c ls H locs A S hr hlk hl hK hE hA hw
  have hl : lv_has ls 2 [(0, .ref (a 27)), (1, .ref (a 21))] := hl
  refine lv_aload_n S.1 S.2.1 dX6_remember_0 rfl (lv_at hl 1 rfl) ?_
  refine lv_aload_n S.1 S.2.1 dX6_remember_1 rfl (lv_at hl 0 rfl) ?_
  refine xget (v := .ref (a 28)) S hK hw 27 rfl rfl inX6 0 (by decide) mfX6_11 rfl dX6_remember_2 ?_
  refine lv_aload_n S.1 S.2.1 dX6_remember_5 rfl (lv_at hl 0 rfl) ?_
  refine xget (v := .int (u.1 27 1)) S hK hw 27 rfl rfl inX6 1 (by decide) mfX6_15 rfl dX6_remember_6 ?_
  refine lv_bipush (v := 74) S.1 S.2.1 dX6_remember_9 (by decide) ?_
  refine lv_imul S.1 S.2.1 dX6_remember_11 ?_
  have e_1 : ∀ _ : Unit, (((u.1 27 1) * (74 : Int32))).toInt = ((u.1 27 1)).toInt * 74 := fun _ => xmul rfl rfl (by omega) (by omega)
  refine xcVv (rest := []) S hK hE hA hw yfX4_writeTo (c_k_Moment_writeTo_21_28 l D a Y ts _ ((u.1 27 1) * (74 : Int32)) (show 0 ≤ (((u.1 27 1) * (74 : Int32))).toInt ∧ (((u.1 27 1) * (74 : Int32))).toInt < 667 from by rw [(e_1 ())]; omega)) 21 rfl rfl mlX6_19 rfl rfl hl.1 ⟨rfl, rfl, Nat.le_of_ble_eq_true rfl, Nat.le_of_ble_eq_true rfl, Nat.le_of_ble_eq_true rfl, Nat.zero_le _, Nat.zero_le _⟩ dX6_remember_12 (fun H locs hw => ?_)
  refine lv_aload_n S.1 S.2.1 dX6_remember_15 rfl (lv_at hl 0 rfl) ?_
  refine lv_aload_n S.1 S.2.1 dX6_remember_16 rfl (lv_at hl 0 rfl) ?_
  refine xget (v := .int ((k_Moment_writeTo_21_28 u ((u.1 27 1) * (74 : Int32))).1 27 1)) S hK hw 27 rfl rfl inX6 1 (by decide) mfX6_15 rfl dX6_remember_17 ?_
  refine lv_iconst (v := 1) S.1 S.2.1 dX6_remember_20 (by decide) ?_
  refine lv_iadd S.1 S.2.1 dX6_remember_21 ?_
  refine lv_bipush (v := 10) S.1 S.2.1 dX6_remember_22 (by decide) ?_
  refine lv_irem S.1 S.2.1 dX6_remember_24 (by decide) ?_
  refine xputi (ty := .int) S hK hw 27 rfl rfl inX6 tyX6 tyX6_ok nmX6 1 (by decide) mfX6_15 rfl (by decide +kernel) rfl rfl (Nat.le_of_ble_eq_true rfl) (oC_27_1 _ _ _ _) dX6_remember_25 (fun H locs hw => ?_)
  refine lv_aload_n S.1 S.2.1 dX6_remember_28 rfl (lv_at hl 0 rfl) ?_
  refine lv_aload_n S.1 S.2.1 dX6_remember_29 rfl (lv_at hl 0 rfl) ?_
  refine xget (v := .int ((k_Moment_writeTo_21_28 u ((u.1 27 1) * (74 : Int32))).1 27 2)) S hK hw 27 rfl rfl inX6 2 (by decide) mfX6_23 rfl dX6_remember_30 ?_
  refine lv_iconst (v := 1) S.1 S.2.1 dX6_remember_33 (by decide) ?_
  refine lv_iadd S.1 S.2.1 dX6_remember_34 ?_
  refine lv_bipush (v := 10) S.1 S.2.1 dX6_remember_35 (by decide) ?_
  refine xmin S hl.1 mlX6_26 mmin_st math_in mmin_cd ⟨Nat.le_of_ble_eq_true rfl, Nat.le_of_ble_eq_true rfl, Nat.zero_le _, Nat.zero_le _⟩ dX6_remember_37 ?_
  refine xputi (ty := .int) S hK hw 27 rfl rfl inX6 tyX6 tyX6_ok nmX6 2 (by decide) mfX6_23 rfl (by decide +kernel) rfl rfl (Nat.le_of_ble_eq_true rfl) (oC_27_2 _ _ _ _) dX6_remember_40 (fun H locs hw => ?_)
  exact xrv S hr hlk hw hV dX6_remember_43
noncomputable def k_Past_recall_b (u : xU) : xU :=
    let w_1 := sp u 27 (upd (u.1 27) 1 ((((u.1 27 1) + (10 : Int32)) - (1 : Int32)) - (((u.1 27 1) + (10 : Int32)) - (1 : Int32)) / (10 : Int32) * (10 : Int32)))
    let w_2 := sp w_1 27 (upd (w_1.1 27) 2 ((w_1.1 27 2) - (1 : Int32)))
    let r_4 := k_Moment_readFrom_21_28 w_2 ((w_2.1 27 1) * (74 : Int32))
    r_4
theorem k_Past_recall_x : ∃ f : xU → xU, f = k_Past_recall_b := ⟨_, rfl⟩
noncomputable def k_Past_recall : xU → xU := k_Past_recall_x.choose
theorem k_Past_recall_def : k_Past_recall = k_Past_recall_b := k_Past_recall_x.choose_spec
set_option maxHeartbeats 4000000 in
set_option maxRecDepth 100000 in
theorem c_k_Past_recall (l : Launch) (D : va_G) (a : Nat → Nat) (Y : Nat → ClassId) (ts : Nat → Nat) (u : xU) (hN : (0 ≤ ((u.1 27 1)).toInt ∧ ((u.1 27 1)).toInt ≤ 9)) : xMv l yX6_recall cX6_recall 2 none (xRm 2 83) D (xty Y) (wC a Y) ts [.ref (a 27), .ref (a 21)] u (k_Past_recall u) := by
  suffices h : ∀ V, V = k_Past_recall_b u → xMv l yX6_recall cX6_recall 2 none (xRm 2 83) D (xty Y) (wC a Y) ts [.ref (a 27), .ref (a 21)] u V from h _ (by rw [k_Past_recall_def])
  intro V hV
  refine xofv RX6 rfl (by decide) (Nat.le_of_ble_eq_true rfl) ?_
  intro p e s m args below meth c ls H locs A S hr hlk hl hK hE hA hw
  have hl : lv_has ls 2 [(0, .ref (a 27)), (1, .ref (a 21))] := hl
  refine lv_aload_n S.1 S.2.1 dX6_recall_0 rfl (lv_at hl 0 rfl) ?_
  refine lv_aload_n S.1 S.2.1 dX6_recall_1 rfl (lv_at hl 0 rfl) ?_
  refine xget (v := .int (u.1 27 1)) S hK hw 27 rfl rfl inX6 1 (by decide) mfX6_15 rfl dX6_recall_2 ?_
  refine lv_bipush (v := 10) S.1 S.2.1 dX6_recall_5 (by decide) ?_
  refine lv_iadd S.1 S.2.1 dX6_recall_7 ?_
  refine lv_iconst (v := 1) S.1 S.2.1 dX6_recall_8 (by decide) ?_
  refine lv_isub S.1 S.2.1 dX6_recall_9 ?_
  refine lv_bipush (v := 10) S.1 S.2.1 dX6_recall_10 (by decide) ?_
  refine lv_irem S.1 S.2.1 dX6_recall_12 (by decide) ?_
  refine xputi (ty := .int) S hK hw 27 rfl rfl inX6 tyX6 tyX6_ok nmX6 1 (by decide) mfX6_15 rfl (by decide +kernel) rfl rfl (Nat.le_of_ble_eq_true rfl) (oC_27_1 _ _ _ _) dX6_recall_13 (fun H locs hw => ?_)
  refine lv_aload_n S.1 S.2.1 dX6_recall_16 rfl (lv_at hl 0 rfl) ?_
  refine lv_dup S.1 S.2.1 dX6_recall_17 rfl ?_
  refine xget (v := .int (u.1 27 2)) S hK hw 27 rfl rfl inX6 2 (by decide) mfX6_23 rfl dX6_recall_18 ?_
  refine lv_iconst (v := 1) S.1 S.2.1 dX6_recall_21 (by decide) ?_
  refine lv_isub S.1 S.2.1 dX6_recall_22 ?_
  refine xputi (ty := .int) S hK hw 27 rfl rfl inX6 tyX6 tyX6_ok nmX6 2 (by decide) mfX6_23 rfl (by decide +kernel) rfl rfl (Nat.le_of_ble_eq_true rfl) (oC_27_2 _ _ _ _) dX6_recall_23 (fun H locs hw => ?_)
  refine lv_aload_n S.1 S.2.1 dX6_recall_26 rfl (lv_at hl 1 rfl) ?_
  refine lv_aload_n S.1 S.2.1 dX6_recall_27 rfl (lv_at hl 0 rfl) ?_
  refine xget (v := .ref (a 28)) S hK hw 27 rfl rfl inX6 0 (by decide) mfX6_11 rfl dX6_recall_28 ?_
  refine lv_aload_n S.1 S.2.1 dX6_recall_31 rfl (lv_at hl 0 rfl) ?_
  refine xget (v := .int ((((u.1 27 1) + (10 : Int32)) - (1 : Int32)) - (((u.1 27 1) + (10 : Int32)) - (1 : Int32)) / (10 : Int32) * (10 : Int32))) S hK hw 27 rfl rfl inX6 1 (by decide) mfX6_15 rfl dX6_recall_32 ?_
  have qq := xrem10 (y := (((u.1 27 1) + (10 : Int32)) - (1 : Int32))) (by have e1 : ((u.1 27 1) + (10 : Int32)).toInt = (u.1 27 1).toInt + 10 := xadd rfl rfl (by omega) (by omega); have e2 : (((u.1 27 1) + (10 : Int32)) - (1 : Int32)).toInt = (u.1 27 1).toInt + 10 - 1 := xsub e1 rfl (by omega) (by omega); omega)
  refine lv_bipush (v := 74) S.1 S.2.1 dX6_recall_35 (by decide) ?_
  refine lv_imul S.1 S.2.1 dX6_recall_37 ?_
  have e_3 : ∀ _ : Unit, ((((((u.1 27 1) + (10 : Int32)) - (1 : Int32)) - (((u.1 27 1) + (10 : Int32)) - (1 : Int32)) / (10 : Int32) * (10 : Int32)) * (74 : Int32))).toInt = (((((u.1 27 1) + (10 : Int32)) - (1 : Int32)) - (((u.1 27 1) + (10 : Int32)) - (1 : Int32)) / (10 : Int32) * (10 : Int32))).toInt * 74 := fun _ => xmul rfl rfl (by omega) (by omega)
  refine xcVv (rest := []) S hK hE hA hw yfX4_readFrom (c_k_Moment_readFrom_21_28 l D a Y ts _ (((((u.1 27 1) + (10 : Int32)) - (1 : Int32)) - (((u.1 27 1) + (10 : Int32)) - (1 : Int32)) / (10 : Int32) * (10 : Int32)) * (74 : Int32)) (show 0 ≤ ((((((u.1 27 1) + (10 : Int32)) - (1 : Int32)) - (((u.1 27 1) + (10 : Int32)) - (1 : Int32)) / (10 : Int32) * (10 : Int32)) * (74 : Int32))).toInt ∧ ((((((u.1 27 1) + (10 : Int32)) - (1 : Int32)) - (((u.1 27 1) + (10 : Int32)) - (1 : Int32)) / (10 : Int32) * (10 : Int32)) * (74 : Int32))).toInt < 667 from by rw [(e_3 ())]; omega)) 21 rfl rfl mlX6_32 rfl rfl hl.1 ⟨rfl, rfl, Nat.le_of_ble_eq_true rfl, Nat.le_of_ble_eq_true rfl, Nat.le_of_ble_eq_true rfl, Nat.zero_le _, Nat.zero_le _⟩ dX6_recall_38 (fun H locs hw => ?_)
  exact xrv S hr hlk hw hV dX6_recall_41
noncomputable def k_Past_become_32_27_b (u : xU) : xU :=
    let w_1 := sp u 33 (va_cpy (u.1 28) (u.1 33) ((0 : Int32)).toNatClampNeg ((0 : Int32)).toNatClampNeg ((740 : Int32)).toNatClampNeg)
    let w_2 := sp w_1 32 (upd (u.1 32) 1 (u.1 27 1))
    let w_3 := sp w_2 32 (upd (w_2.1 32) 2 (u.1 27 2))
    w_3
theorem k_Past_become_32_27_x : ∃ f : xU → xU, f = k_Past_become_32_27_b := ⟨_, rfl⟩
noncomputable def k_Past_become_32_27 : xU → xU := k_Past_become_32_27_x.choose
theorem k_Past_become_32_27_def : k_Past_become_32_27 = k_Past_become_32_27_b := k_Past_become_32_27_x.choose_spec
set_option maxHeartbeats 4000000 in
set_option maxRecDepth 100000 in
theorem c_k_Past_become_32_27 (l : Launch) (D : va_G) (a : Nat → Nat) (Y : Nat → ClassId) (ts : Nat → Nat) (u : xU) : xMv l yX6_become cX6_become 2 none (xRm 1 60) D (xty Y) (wC a Y) ts [.ref (a 32), .ref (a 27)] u (k_Past_become_32_27 u) := by
  suffices h : ∀ V, V = k_Past_become_32_27_b u → xMv l yX6_become cX6_become 2 none (xRm 1 60) D (xty Y) (wC a Y) ts [.ref (a 32), .ref (a 27)] u V from h _ (by rw [k_Past_become_32_27_def])
  intro V hV
  refine xofv RX6 rfl (by decide) (Nat.le_of_ble_eq_true rfl) ?_
  intro p e s m args below meth c ls H locs A S hr hlk hl hK hE hA hw
  have hl : lv_has ls 2 [(0, .ref (a 32)), (1, .ref (a 27))] := hl
  refine lv_aload_n S.1 S.2.1 dX6_become_0 rfl (lv_at hl 1 rfl) ?_
  refine xget (v := .ref (a 28)) S hK hw 27 rfl rfl inX6 0 (by decide) mfX6_11 rfl dX6_become_1 ?_
  refine lv_iconst (v := 0) S.1 S.2.1 dX6_become_4 (by decide) ?_
  refine lv_aload_n S.1 S.2.1 dX6_become_5 rfl (lv_at hl 0 rfl) ?_
  refine xget (v := .ref (a 33)) S hK hw 32 rfl rfl inX6 0 (by decide) mfX6_11 rfl dX6_become_6 ?_
  refine lv_iconst (v := 0) S.1 S.2.1 dX6_become_9 (by decide) ?_
  refine lv_sipush (v := 740) S.1 S.2.1 dX6_become_10 (by decide) ?_
  refine xcp2 (f := u.1 28) (x := (0 : Int32)) (y := (0 : Int32)) (n := (740 : Int32)) (b1 := 0) (b2 := 0) (b3 := 740) S mlX6_35 hK ac_nat ac_st ac_in hw hl.1 28 33 0 rfl rfl rfl rfl rfl rfl (by omega) (by omega) (by omega) (by omega) (by omega) ⟨Nat.le_of_ble_eq_true rfl, by decide +kernel⟩ (sC_33 _ _ _ _) dX6_become_13 (fun H locs hw => ?_)
  refine lv_aload_n S.1 S.2.1 dX6_become_16 rfl (lv_at hl 0 rfl) ?_
  refine lv_aload_n S.1 S.2.1 dX6_become_17 rfl (lv_at hl 1 rfl) ?_
  refine xget (v := .int (u.1 27 1)) S hK hw 27 rfl rfl inX6 1 (by decide) mfX6_15 rfl dX6_become_18 ?_
  refine xputi (ty := .int) S hK hw 32 rfl rfl inX6 tyX6 tyX6_ok nmX6 1 (by decide) mfX6_15 rfl (by decide +kernel) rfl rfl (Nat.le_of_ble_eq_true rfl) (oC_32_1 _ _ _ _) dX6_become_21 (fun H locs hw => ?_)
  refine lv_aload_n S.1 S.2.1 dX6_become_24 rfl (lv_at hl 0 rfl) ?_
  refine lv_aload_n S.1 S.2.1 dX6_become_25 rfl (lv_at hl 1 rfl) ?_
  refine xget (v := .int (u.1 27 2)) S hK hw 27 rfl rfl inX6 2 (by decide) mfX6_23 rfl dX6_become_26 ?_
  refine xputi (ty := .int) S hK hw 32 rfl rfl inX6 tyX6 tyX6_ok nmX6 2 (by decide) mfX6_23 rfl (by decide +kernel) rfl rfl (Nat.le_of_ble_eq_true rfl) (oC_32_2 _ _ _ _) dX6_become_29 (fun H locs hw => ?_)
  exact xrv S hr hlk hw hV dX6_become_32
noncomputable def k_Past_become_36_27_b (u : xU) : xU :=
    let w_1 := sp u 37 (va_cpy (u.1 28) (u.1 37) ((0 : Int32)).toNatClampNeg ((0 : Int32)).toNatClampNeg ((740 : Int32)).toNatClampNeg)
    let w_2 := sp w_1 36 (upd (u.1 36) 1 (u.1 27 1))
    let w_3 := sp w_2 36 (upd (w_2.1 36) 2 (u.1 27 2))
    w_3
theorem k_Past_become_36_27_x : ∃ f : xU → xU, f = k_Past_become_36_27_b := ⟨_, rfl⟩
noncomputable def k_Past_become_36_27 : xU → xU := k_Past_become_36_27_x.choose
theorem k_Past_become_36_27_def : k_Past_become_36_27 = k_Past_become_36_27_b := k_Past_become_36_27_x.choose_spec
set_option maxHeartbeats 4000000 in
set_option maxRecDepth 100000 in
theorem c_k_Past_become_36_27 (l : Launch) (D : va_G) (a : Nat → Nat) (Y : Nat → ClassId) (ts : Nat → Nat) (u : xU) : xMv l yX6_become cX6_become 2 none (xRm 1 60) D (xty Y) (wC a Y) ts [.ref (a 36), .ref (a 27)] u (k_Past_become_36_27 u) := by
  suffices h : ∀ V, V = k_Past_become_36_27_b u → xMv l yX6_become cX6_become 2 none (xRm 1 60) D (xty Y) (wC a Y) ts [.ref (a 36), .ref (a 27)] u V from h _ (by rw [k_Past_become_36_27_def])
  intro V hV
  refine xofv RX6 rfl (by decide) (Nat.le_of_ble_eq_true rfl) ?_
  intro p e s m args below meth c ls H locs A S hr hlk hl hK hE hA hw
  have hl : lv_has ls 2 [(0, .ref (a 36)), (1, .ref (a 27))] := hl
  refine lv_aload_n S.1 S.2.1 dX6_become_0 rfl (lv_at hl 1 rfl) ?_
  refine xget (v := .ref (a 28)) S hK hw 27 rfl rfl inX6 0 (by decide) mfX6_11 rfl dX6_become_1 ?_
  refine lv_iconst (v := 0) S.1 S.2.1 dX6_become_4 (by decide) ?_
  refine lv_aload_n S.1 S.2.1 dX6_become_5 rfl (lv_at hl 0 rfl) ?_
  refine xget (v := .ref (a 37)) S hK hw 36 rfl rfl inX6 0 (by decide) mfX6_11 rfl dX6_become_6 ?_
  refine lv_iconst (v := 0) S.1 S.2.1 dX6_become_9 (by decide) ?_
  refine lv_sipush (v := 740) S.1 S.2.1 dX6_become_10 (by decide) ?_
  refine xcp2 (f := u.1 28) (x := (0 : Int32)) (y := (0 : Int32)) (n := (740 : Int32)) (b1 := 0) (b2 := 0) (b3 := 740) S mlX6_35 hK ac_nat ac_st ac_in hw hl.1 28 37 0 rfl rfl rfl rfl rfl rfl (by omega) (by omega) (by omega) (by omega) (by omega) ⟨Nat.le_of_ble_eq_true rfl, by decide +kernel⟩ (sC_37 _ _ _ _) dX6_become_13 (fun H locs hw => ?_)
  refine lv_aload_n S.1 S.2.1 dX6_become_16 rfl (lv_at hl 0 rfl) ?_
  refine lv_aload_n S.1 S.2.1 dX6_become_17 rfl (lv_at hl 1 rfl) ?_
  refine xget (v := .int (u.1 27 1)) S hK hw 27 rfl rfl inX6 1 (by decide) mfX6_15 rfl dX6_become_18 ?_
  refine xputi (ty := .int) S hK hw 36 rfl rfl inX6 tyX6 tyX6_ok nmX6 1 (by decide) mfX6_15 rfl (by decide +kernel) rfl rfl (Nat.le_of_ble_eq_true rfl) (oC_36_1 _ _ _ _) dX6_become_21 (fun H locs hw => ?_)
  refine lv_aload_n S.1 S.2.1 dX6_become_24 rfl (lv_at hl 0 rfl) ?_
  refine lv_aload_n S.1 S.2.1 dX6_become_25 rfl (lv_at hl 1 rfl) ?_
  refine xget (v := .int (u.1 27 2)) S hK hw 27 rfl rfl inX6 2 (by decide) mfX6_23 rfl dX6_become_26 ?_
  refine xputi (ty := .int) S hK hw 36 rfl rfl inX6 tyX6 tyX6_ok nmX6 2 (by decide) mfX6_23 rfl (by decide +kernel) rfl rfl (Nat.le_of_ble_eq_true rfl) (oC_36_2 _ _ _ _) dX6_become_29 (fun H locs hw => ?_)
  exact xrv S hr hlk hw hV dX6_become_32
noncomputable def k_Past_become_27_32_b (u : xU) : xU :=
    let w_1 := sp u 28 (va_cpy (u.1 33) (u.1 28) ((0 : Int32)).toNatClampNeg ((0 : Int32)).toNatClampNeg ((740 : Int32)).toNatClampNeg)
    let w_2 := sp w_1 27 (upd (u.1 27) 1 (u.1 32 1))
    let w_3 := sp w_2 27 (upd (w_2.1 27) 2 (u.1 32 2))
    w_3
theorem k_Past_become_27_32_x : ∃ f : xU → xU, f = k_Past_become_27_32_b := ⟨_, rfl⟩
noncomputable def k_Past_become_27_32 : xU → xU := k_Past_become_27_32_x.choose
theorem k_Past_become_27_32_def : k_Past_become_27_32 = k_Past_become_27_32_b := k_Past_become_27_32_x.choose_spec
set_option maxHeartbeats 4000000 in
set_option maxRecDepth 100000 in
theorem c_k_Past_become_27_32 (l : Launch) (D : va_G) (a : Nat → Nat) (Y : Nat → ClassId) (ts : Nat → Nat) (u : xU) : xMv l yX6_become cX6_become 2 none (xRm 1 60) D (xty Y) (wC a Y) ts [.ref (a 27), .ref (a 32)] u (k_Past_become_27_32 u) := by
  suffices h : ∀ V, V = k_Past_become_27_32_b u → xMv l yX6_become cX6_become 2 none (xRm 1 60) D (xty Y) (wC a Y) ts [.ref (a 27), .ref (a 32)] u V from h _ (by rw [k_Past_become_27_32_def])
  intro V hV
  refine xofv RX6 rfl (by decide) (Nat.le_of_ble_eq_true rfl) ?_
  intro p e s m args below meth c ls H locs A S hr hlk hl hK hE hA hw
  have hl : lv_has ls 2 [(0, .ref (a 27)), (1, .ref (a 32))] := hl
  refine lv_aload_n S.1 S.2.1 dX6_become_0 rfl (lv_at hl 1 rfl) ?_
  refine xget (v := .ref (a 33)) S hK hw 32 rfl rfl inX6 0 (by decide) mfX6_11 rfl dX6_become_1 ?_
  refine lv_iconst (v := 0) S.1 S.2.1 dX6_become_4 (by decide) ?_
  refine lv_aload_n S.1 S.2.1 dX6_become_5 rfl (lv_at hl 0 rfl) ?_
  refine xget (v := .ref (a 28)) S hK hw 27 rfl rfl inX6 0 (by decide) mfX6_11 rfl dX6_become_6 ?_
  refine lv_iconst (v := 0) S.1 S.2.1 dX6_become_9 (by decide) ?_
  refine lv_sipush (v := 740) S.1 S.2.1 dX6_become_10 (by decide) ?_
  refine xcp2 (f := u.1 33) (x := (0 : Int32)) (y := (0 : Int32)) (n := (740 : Int32)) (b1 := 0) (b2 := 0) (b3 := 740) S mlX6_35 hK ac_nat ac_st ac_in hw hl.1 33 28 0 rfl rfl rfl rfl rfl rfl (by omega) (by omega) (by omega) (by omega) (by omega) ⟨Nat.le_of_ble_eq_true rfl, by decide +kernel⟩ (sC_28 _ _ _ _) dX6_become_13 (fun H locs hw => ?_)
  refine lv_aload_n S.1 S.2.1 dX6_become_16 rfl (lv_at hl 0 rfl) ?_
  refine lv_aload_n S.1 S.2.1 dX6_become_17 rfl (lv_at hl 1 rfl) ?_
  refine xget (v := .int (u.1 32 1)) S hK hw 32 rfl rfl inX6 1 (by decide) mfX6_15 rfl dX6_become_18 ?_
  refine xputi (ty := .int) S hK hw 27 rfl rfl inX6 tyX6 tyX6_ok nmX6 1 (by decide) mfX6_15 rfl (by decide +kernel) rfl rfl (Nat.le_of_ble_eq_true rfl) (oC_27_1 _ _ _ _) dX6_become_21 (fun H locs hw => ?_)
  refine lv_aload_n S.1 S.2.1 dX6_become_24 rfl (lv_at hl 0 rfl) ?_
  refine lv_aload_n S.1 S.2.1 dX6_become_25 rfl (lv_at hl 1 rfl) ?_
  refine xget (v := .int (u.1 32 2)) S hK hw 32 rfl rfl inX6 2 (by decide) mfX6_23 rfl dX6_become_26 ?_
  refine xputi (ty := .int) S hK hw 27 rfl rfl inX6 tyX6 tyX6_ok nmX6 2 (by decide) mfX6_23 rfl (by decide +kernel) rfl rfl (Nat.le_of_ble_eq_true rfl) (oC_27_2 _ _ _ _) dX6_become_29 (fun H locs hw => ?_)
  exact xrv S hr hlk hw hV dX6_become_32
noncomputable def k_Past_become_27_36_b (u : xU) : xU :=
    let w_1 := sp u 28 (va_cpy (u.1 37) (u.1 28) ((0 : Int32)).toNatClampNeg ((0 : Int32)).toNatClampNeg ((740 : Int32)).toNatClampNeg)
    let w_2 := sp w_1 27 (upd (u.1 27) 1 (u.1 36 1))
    let w_3 := sp w_2 27 (upd (w_2.1 27) 2 (u.1 36 2))
    w_3
theorem k_Past_become_27_36_x : ∃ f : xU → xU, f = k_Past_become_27_36_b := ⟨_, rfl⟩
noncomputable def k_Past_become_27_36 : xU → xU := k_Past_become_27_36_x.choose
theorem k_Past_become_27_36_def : k_Past_become_27_36 = k_Past_become_27_36_b := k_Past_become_27_36_x.choose_spec
set_option maxHeartbeats 4000000 in
set_option maxRecDepth 100000 in
theorem c_k_Past_become_27_36 (l : Launch) (D : va_G) (a : Nat → Nat) (Y : Nat → ClassId) (ts : Nat → Nat) (u : xU) : xMv l yX6_become cX6_become 2 none (xRm 1 60) D (xty Y) (wC a Y) ts [.ref (a 27), .ref (a 36)] u (k_Past_become_27_36 u) := by
  suffices h : ∀ V, V = k_Past_become_27_36_b u → xMv l yX6_become cX6_become 2 none (xRm 1 60) D (xty Y) (wC a Y) ts [.ref (a 27), .ref (a 36)] u V from h _ (by rw [k_Past_become_27_36_def])
  intro V hV
  refine xofv RX6 rfl (by decide) (Nat.le_of_ble_eq_true rfl) ?_
  intro p e s m args below meth c ls H locs A S hr hlk hl hK hE hA hw
  have hl : lv_has ls 2 [(0, .ref (a 27)), (1, .ref (a 36))] := hl
  refine lv_aload_n S.1 S.2.1 dX6_become_0 rfl (lv_at hl 1 rfl) ?_
  refine xget (v := .ref (a 37)) S hK hw 36 rfl rfl inX6 0 (by decide) mfX6_11 rfl dX6_become_1 ?_
  refine lv_iconst (v := 0) S.1 S.2.1 dX6_become_4 (by decide) ?_
  refine lv_aload_n S.1 S.2.1 dX6_become_5 rfl (lv_at hl 0 rfl) ?_
  refine xget (v := .ref (a 28)) S hK hw 27 rfl rfl inX6 0 (by decide) mfX6_11 rfl dX6_become_6 ?_
  refine lv_iconst (v := 0) S.1 S.2.1 dX6_become_9 (by decide) ?_
  refine lv_sipush (v := 740) S.1 S.2.1 dX6_become_10 (by decide) ?_
  refine xcp2 (f := u.1 37) (x := (0 : Int32)) (y := (0 : Int32)) (n := (740 : Int32)) (b1 := 0) (b2 := 0) (b3 := 740) S mlX6_35 hK ac_nat ac_st ac_in hw hl.1 37 28 0 rfl rfl rfl rfl rfl rfl (by omega) (by omega) (by omega) (by omega) (by omega) ⟨Nat.le_of_ble_eq_true rfl, by decide +kernel⟩ (sC_28 _ _ _ _) dX6_become_13 (fun H locs hw => ?_)
  refine lv_aload_n S.1 S.2.1 dX6_become_16 rfl (lv_at hl 0 rfl) ?_
  refine lv_aload_n S.1 S.2.1 dX6_become_17 rfl (lv_at hl 1 rfl) ?_
  refine xget (v := .int (u.1 36 1)) S hK hw 36 rfl rfl inX6 1 (by decide) mfX6_15 rfl dX6_become_18 ?_
  refine xputi (ty := .int) S hK hw 27 rfl rfl inX6 tyX6 tyX6_ok nmX6 1 (by decide) mfX6_15 rfl (by decide +kernel) rfl rfl (Nat.le_of_ble_eq_true rfl) (oC_27_1 _ _ _ _) dX6_become_21 (fun H locs hw => ?_)
  refine lv_aload_n S.1 S.2.1 dX6_become_24 rfl (lv_at hl 0 rfl) ?_
  refine lv_aload_n S.1 S.2.1 dX6_become_25 rfl (lv_at hl 1 rfl) ?_
  refine xget (v := .int (u.1 36 2)) S hK hw 36 rfl rfl inX6 2 (by decide) mfX6_23 rfl dX6_become_26 ?_
  refine xputi (ty := .int) S hK hw 27 rfl rfl inX6 tyX6 tyX6_ok nmX6 2 (by decide) mfX6_23 rfl (by decide +kernel) rfl rfl (Nat.le_of_ble_eq_true rfl) (oC_27_2 _ _ _ _) dX6_become_29 (fun H locs hw => ?_)
  exact xrv S hr hlk hw hV dX6_become_32
noncomputable def k_Image_take_30_21_27_b (u : xU) : xU :=
    let r_1 := k_Moment_writeTo_21_31 u (0 : Int32)
    let r_2 := k_Past_become_32_27 r_1
    let w_3 := sp r_2 30 (upd (r_2.1 30) 2 (1 : Int32))
    w_3
theorem k_Image_take_30_21_27_x : ∃ f : xU → xU, f = k_Image_take_30_21_27_b := ⟨_, rfl⟩
noncomputable def k_Image_take_30_21_27 : xU → xU := k_Image_take_30_21_27_x.choose
theorem k_Image_take_30_21_27_def : k_Image_take_30_21_27 = k_Image_take_30_21_27_b := k_Image_take_30_21_27_x.choose_spec
set_option maxHeartbeats 4000000 in
set_option maxRecDepth 100000 in
theorem c_k_Image_take_30_21_27 (l : Launch) (D : va_G) (a : Nat → Nat) (Y : Nat → ClassId) (ts : Nat → Nat) (u : xU) : xMv l yX2_take cX2_take 3 none (xRm 2 83) D (xty Y) (wC a Y) ts [.ref (a 30), .ref (a 21), .ref (a 27)] u (k_Image_take_30_21_27 u) := by
  suffices h : ∀ V, V = k_Image_take_30_21_27_b u → xMv l yX2_take cX2_take 3 none (xRm 2 83) D (xty Y) (wC a Y) ts [.ref (a 30), .ref (a 21), .ref (a 27)] u V from h _ (by rw [k_Image_take_30_21_27_def])
  intro V hV
  refine xofv RX2 rfl (by decide) (Nat.le_of_ble_eq_true rfl) ?_
  intro p e s m args below meth c ls H locs A S hr hlk hl hK hE hA hw
  have hl : lv_has ls 3 [(0, .ref (a 30)), (1, .ref (a 21)), (2, .ref (a 27))] := hl
  refine lv_aload_n S.1 S.2.1 dX2_take_0 rfl (lv_at hl 1 rfl) ?_
  refine lv_aload_n S.1 S.2.1 dX2_take_1 rfl (lv_at hl 0 rfl) ?_
  refine xget (v := .ref (a 31)) S hK hw 30 rfl rfl inX2 0 (by decide) mfX2_9 rfl dX2_take_2 ?_
  refine lv_iconst (v := 0) S.1 S.2.1 dX2_take_5 (by decide) ?_
  refine xcVv (rest := []) S hK hE hA hw yfX4_writeTo (c_k_Moment_writeTo_21_31 l D a Y ts _ (0 : Int32) (show 0 ≤ ((0 : Int32)).toInt ∧ ((0 : Int32)).toInt < 1 from by decide)) 21 rfl rfl mlX2_22 rfl rfl hl.1 ⟨rfl, rfl, Nat.le_of_ble_eq_true rfl, Nat.le_of_ble_eq_true rfl, Nat.le_of_ble_eq_true rfl, Nat.zero_le _, Nat.zero_le _⟩ dX2_take_6 (fun H locs hw => ?_)
  refine lv_aload_n S.1 S.2.1 dX2_take_9 rfl (lv_at hl 0 rfl) ?_
  refine xget (v := .ref (a 32)) S hK hw 30 rfl rfl inX2 1 (by decide) mfX2_18 rfl dX2_take_10 ?_
  refine lv_aload_n S.1 S.2.1 dX2_take_13 rfl (lv_at hl 2 rfl) ?_
  refine xcVv (rest := []) S hK hE hA hw yfX6_become (c_k_Past_become_32_27 l D a Y ts _) 32 rfl rfl mlX2_26 rfl rfl hl.1 ⟨rfl, rfl, Nat.le_of_ble_eq_true rfl, Nat.le_of_ble_eq_true rfl, Nat.le_of_ble_eq_true rfl, Nat.zero_le _, Nat.zero_le _⟩ dX2_take_14 (fun H locs hw => ?_)
  refine lv_aload_n S.1 S.2.1 dX2_take_17 rfl (lv_at hl 0 rfl) ?_
  refine lv_iconst (v := 1) S.1 S.2.1 dX2_take_18 (by decide) ?_
  refine xputi (ty := .boolean) S hK hw 30 rfl rfl inX2 tyX2 tyX2_ok nmX2 2 (by decide) mfX2_30 rfl (by decide +kernel) rfl rfl (Nat.le_of_ble_eq_true rfl) (oC_30_2 _ _ _ _) dX2_take_19 (fun H locs hw => ?_)
  exact xrv S hr hlk hw hV dX2_take_22
noncomputable def k_Image_give_30_21_27_b (u : xU) : xU :=
    let r_1 := k_Moment_readFrom_21_31 u (0 : Int32)
    let r_2 := k_Past_become_27_32 r_1
    r_2
theorem k_Image_give_30_21_27_x : ∃ f : xU → xU, f = k_Image_give_30_21_27_b := ⟨_, rfl⟩
noncomputable def k_Image_give_30_21_27 : xU → xU := k_Image_give_30_21_27_x.choose
theorem k_Image_give_30_21_27_def : k_Image_give_30_21_27 = k_Image_give_30_21_27_b := k_Image_give_30_21_27_x.choose_spec
set_option maxHeartbeats 4000000 in
set_option maxRecDepth 100000 in
theorem c_k_Image_give_30_21_27 (l : Launch) (D : va_G) (a : Nat → Nat) (Y : Nat → ClassId) (ts : Nat → Nat) (u : xU) : xMv l yX2_give cX2_give 3 none (xRm 2 83) D (xty Y) (wC a Y) ts [.ref (a 30), .ref (a 21), .ref (a 27)] u (k_Image_give_30_21_27 u) := by
  suffices h : ∀ V, V = k_Image_give_30_21_27_b u → xMv l yX2_give cX2_give 3 none (xRm 2 83) D (xty Y) (wC a Y) ts [.ref (a 30), .ref (a 21), .ref (a 27)] u V from h _ (by rw [k_Image_give_30_21_27_def])
  intro V hV
  refine xofv RX2 rfl (by decide) (Nat.le_of_ble_eq_true rfl) ?_
  intro p e s m args below meth c ls H locs A S hr hlk hl hK hE hA hw
  have hl : lv_has ls 3 [(0, .ref (a 30)), (1, .ref (a 21)), (2, .ref (a 27))] := hl
  refine lv_aload_n S.1 S.2.1 dX2_give_0 rfl (lv_at hl 1 rfl) ?_
  refine lv_aload_n S.1 S.2.1 dX2_give_1 rfl (lv_at hl 0 rfl) ?_
  refine xget (v := .ref (a 31)) S hK hw 30 rfl rfl inX2 0 (by decide) mfX2_9 rfl dX2_give_2 ?_
  refine lv_iconst (v := 0) S.1 S.2.1 dX2_give_5 (by decide) ?_
  refine xcVv (rest := []) S hK hE hA hw yfX4_readFrom (c_k_Moment_readFrom_21_31 l D a Y ts _ (0 : Int32) (show 0 ≤ ((0 : Int32)).toInt ∧ ((0 : Int32)).toInt < 1 from by decide)) 21 rfl rfl mlX2_34 rfl rfl hl.1 ⟨rfl, rfl, Nat.le_of_ble_eq_true rfl, Nat.le_of_ble_eq_true rfl, Nat.le_of_ble_eq_true rfl, Nat.zero_le _, Nat.zero_le _⟩ dX2_give_6 (fun H locs hw => ?_)
  refine lv_aload_n S.1 S.2.1 dX2_give_9 rfl (lv_at hl 2 rfl) ?_
  refine lv_aload_n S.1 S.2.1 dX2_give_10 rfl (lv_at hl 0 rfl) ?_
  refine xget (v := .ref (a 32)) S hK hw 30 rfl rfl inX2 1 (by decide) mfX2_18 rfl dX2_give_11 ?_
  refine xcVv (rest := []) S hK hE hA hw yfX6_become (c_k_Past_become_27_32 l D a Y ts _) 27 rfl rfl mlX2_26 rfl rfl hl.1 ⟨rfl, rfl, Nat.le_of_ble_eq_true rfl, Nat.le_of_ble_eq_true rfl, Nat.le_of_ble_eq_true rfl, Nat.zero_le _, Nat.zero_le _⟩ dX2_give_14 (fun H locs hw => ?_)
  exact xrv S hr hlk hw hV dX2_give_17
noncomputable def k_Image_take_34_21_27_b (u : xU) : xU :=
    let r_1 := k_Moment_writeTo_21_35 u (0 : Int32)
    let r_2 := k_Past_become_36_27 r_1
    let w_3 := sp r_2 34 (upd (r_2.1 34) 2 (1 : Int32))
    w_3
theorem k_Image_take_34_21_27_x : ∃ f : xU → xU, f = k_Image_take_34_21_27_b := ⟨_, rfl⟩
noncomputable def k_Image_take_34_21_27 : xU → xU := k_Image_take_34_21_27_x.choose
theorem k_Image_take_34_21_27_def : k_Image_take_34_21_27 = k_Image_take_34_21_27_b := k_Image_take_34_21_27_x.choose_spec
set_option maxHeartbeats 4000000 in
set_option maxRecDepth 100000 in
theorem c_k_Image_take_34_21_27 (l : Launch) (D : va_G) (a : Nat → Nat) (Y : Nat → ClassId) (ts : Nat → Nat) (u : xU) : xMv l yX2_take cX2_take 3 none (xRm 2 83) D (xty Y) (wC a Y) ts [.ref (a 34), .ref (a 21), .ref (a 27)] u (k_Image_take_34_21_27 u) := by
  suffices h : ∀ V, V = k_Image_take_34_21_27_b u → xMv l yX2_take cX2_take 3 none (xRm 2 83) D (xty Y) (wC a Y) ts [.ref (a 34), .ref (a 21), .ref (a 27)] u V from h _ (by rw [k_Image_take_34_21_27_def])
  intro V hV
  refine xofv RX2 rfl (by decide) (Nat.le_of_ble_eq_true rfl) ?_
  intro p e s m args below meth c ls H locs A S hr hlk hl hK hE hA hw
  have hl : lv_has ls 3 [(0, .ref (a 34)), (1, .ref (a 21)), (2, .ref (a 27))] := hl
  refine lv_aload_n S.1 S.2.1 dX2_take_0 rfl (lv_at hl 1 rfl) ?_
  refine lv_aload_n S.1 S.2.1 dX2_take_1 rfl (lv_at hl 0 rfl) ?_
  refine xget (v := .ref (a 35)) S hK hw 34 rfl rfl inX2 0 (by decide) mfX2_9 rfl dX2_take_2 ?_
  refine lv_iconst (v := 0) S.1 S.2.1 dX2_take_5 (by decide) ?_
  refine xcVv (rest := []) S hK hE hA hw yfX4_writeTo (c_k_Moment_writeTo_21_35 l D a Y ts _ (0 : Int32) (show 0 ≤ ((0 : Int32)).toInt ∧ ((0 : Int32)).toInt < 1 from by decide)) 21 rfl rfl mlX2_22 rfl rfl hl.1 ⟨rfl, rfl, Nat.le_of_ble_eq_true rfl, Nat.le_of_ble_eq_true rfl, Nat.le_of_ble_eq_true rfl, Nat.zero_le _, Nat.zero_le _⟩ dX2_take_6 (fun H locs hw => ?_)
  refine lv_aload_n S.1 S.2.1 dX2_take_9 rfl (lv_at hl 0 rfl) ?_
  refine xget (v := .ref (a 36)) S hK hw 34 rfl rfl inX2 1 (by decide) mfX2_18 rfl dX2_take_10 ?_
  refine lv_aload_n S.1 S.2.1 dX2_take_13 rfl (lv_at hl 2 rfl) ?_
  refine xcVv (rest := []) S hK hE hA hw yfX6_become (c_k_Past_become_36_27 l D a Y ts _) 36 rfl rfl mlX2_26 rfl rfl hl.1 ⟨rfl, rfl, Nat.le_of_ble_eq_true rfl, Nat.le_of_ble_eq_true rfl, Nat.le_of_ble_eq_true rfl, Nat.zero_le _, Nat.zero_le _⟩ dX2_take_14 (fun H locs hw => ?_)
  refine lv_aload_n S.1 S.2.1 dX2_take_17 rfl (lv_at hl 0 rfl) ?_
  refine lv_iconst (v := 1) S.1 S.2.1 dX2_take_18 (by decide) ?_
  refine xputi (ty := .boolean) S hK hw 34 rfl rfl inX2 tyX2 tyX2_ok nmX2 2 (by decide) mfX2_30 rfl (by decide +kernel) rfl rfl (Nat.le_of_ble_eq_true rfl) (oC_34_2 _ _ _ _) dX2_take_19 (fun H locs hw => ?_)
  exact xrv S hr hlk hw hV dX2_take_22
noncomputable def k_Image_give_34_21_27_b (u : xU) : xU :=
    let r_1 := k_Moment_readFrom_21_35 u (0 : Int32)
    let r_2 := k_Past_become_27_36 r_1
    r_2
theorem k_Image_give_34_21_27_x : ∃ f : xU → xU, f = k_Image_give_34_21_27_b := ⟨_, rfl⟩
noncomputable def k_Image_give_34_21_27 : xU → xU := k_Image_give_34_21_27_x.choose
theorem k_Image_give_34_21_27_def : k_Image_give_34_21_27 = k_Image_give_34_21_27_b := k_Image_give_34_21_27_x.choose_spec
set_option maxHeartbeats 4000000 in
set_option maxRecDepth 100000 in
theorem c_k_Image_give_34_21_27 (l : Launch) (D : va_G) (a : Nat → Nat) (Y : Nat → ClassId) (ts : Nat → Nat) (u : xU) : xMv l yX2_give cX2_give 3 none (xRm 2 83) D (xty Y) (wC a Y) ts [.ref (a 34), .ref (a 21), .ref (a 27)] u (k_Image_give_34_21_27 u) := by
  suffices h : ∀ V, V = k_Image_give_34_21_27_b u → xMv l yX2_give cX2_give 3 none (xRm 2 83) D (xty Y) (wC a Y) ts [.ref (a 34), .ref (a 21), .ref (a 27)] u V from h _ (by rw [k_Image_give_34_21_27_def])
  intro V hV
  refine xofv RX2 rfl (by decide) (Nat.le_of_ble_eq_true rfl) ?_
  intro p e s m args below meth c ls H locs A S hr hlk hl hK hE hA hw
  have hl : lv_has ls 3 [(0, .ref (a 34)), (1, .ref (a 21)), (2, .ref (a 27))] := hl
  refine lv_aload_n S.1 S.2.1 dX2_give_0 rfl (lv_at hl 1 rfl) ?_
  refine lv_aload_n S.1 S.2.1 dX2_give_1 rfl (lv_at hl 0 rfl) ?_
  refine xget (v := .ref (a 35)) S hK hw 34 rfl rfl inX2 0 (by decide) mfX2_9 rfl dX2_give_2 ?_
  refine lv_iconst (v := 0) S.1 S.2.1 dX2_give_5 (by decide) ?_
  refine xcVv (rest := []) S hK hE hA hw yfX4_readFrom (c_k_Moment_readFrom_21_35 l D a Y ts _ (0 : Int32) (show 0 ≤ ((0 : Int32)).toInt ∧ ((0 : Int32)).toInt < 1 from by decide)) 21 rfl rfl mlX2_34 rfl rfl hl.1 ⟨rfl, rfl, Nat.le_of_ble_eq_true rfl, Nat.le_of_ble_eq_true rfl, Nat.le_of_ble_eq_true rfl, Nat.zero_le _, Nat.zero_le _⟩ dX2_give_6 (fun H locs hw => ?_)
  refine lv_aload_n S.1 S.2.1 dX2_give_9 rfl (lv_at hl 2 rfl) ?_
  refine lv_aload_n S.1 S.2.1 dX2_give_10 rfl (lv_at hl 0 rfl) ?_
  refine xget (v := .ref (a 36)) S hK hw 34 rfl rfl inX2 1 (by decide) mfX2_18 rfl dX2_give_11 ?_
  refine xcVv (rest := []) S hK hE hA hw yfX6_become (c_k_Past_become_27_36 l D a Y ts _) 27 rfl rfl mlX2_26 rfl rfl hl.1 ⟨rfl, rfl, Nat.le_of_ble_eq_true rfl, Nat.le_of_ble_eq_true rfl, Nat.le_of_ble_eq_true rfl, Nat.zero_le _, Nat.zero_le _⟩ dX2_give_14 (fun H locs hw => ?_)
  exact xrv S hr hlk hw hV dX2_give_17
