noncomputable def m_nights_L42 (kk : Int32 → xU → Int32 × xU) (x1 : Int32) (x2 : Int32) : Nat → Int32 → xU → Int32 × xU
  | 0, _, w => (0, w)
  | n + 1, x3, w =>
    (if (w.1 0 5) ≤ x3 then
    let w_8 := sp w 7 (upd (w.1 7) 0 ((w.1 7 0) + (1 : Int32)))
    kk (x2 + (1 : Int32)) w_8
    else
    (if (w.1 7 (((68 : Int32) + x3)).toNatClampNeg) = (-9 : Int32) then
    m_nights_L42 kk x1 x2 n (x3 + (1 : Int32)) w
    else
    let r_13 := m_learns w x3 (w.1 7 (((68 : Int32) + x3)).toNatClampNeg)
    m_nights_L42 kk x1 x2 n (x3 + (1 : Int32)) r_13))
noncomputable def m_nights_L35 (x1 : Int32) : Nat → Int32 → xU → Int32 × xU
  | 0, _, w => (0, w)
  | n + 1, x2, w =>
    (if x1 ≤ x2 then
    ((m_bits (w.1 7 67)), w)
    else
    m_nights_L42 (fun (z2 : Int32) (zu : xU) => m_nights_L35 x1 n z2 zu) x1 x2 7 (0 : Int32) w)
noncomputable def m_nights_b (u : xU) (p1 : Int32) : Int32 × xU :=
    (if (b2i (m_in p1 (1 : Int32) (9 : Int32))) = (0 : Int32) then
    ((-1 : Int32), u)
    else
    (if ((u.1 7 0) + p1) ≤ (999 : Int32) then
    let r_3 := m_remembers u
    m_nights_L35 p1 10 (0 : Int32) r_3
    else
    ((-2 : Int32), u)))
theorem m_nights_x : ∃ f : xU → Int32 → Int32 × xU, f = m_nights_b := ⟨_, rfl⟩
noncomputable def m_nights : xU → Int32 → Int32 × xU := m_nights_x.choose
theorem m_nights_def : m_nights = m_nights_b := m_nights_x.choose_spec
set_option maxHeartbeats 4000000 in
set_option maxRecDepth 100000 in
theorem c_m_nights (l : Launch) (D : va_G) (a : Nat → Nat) (Y : Nat → ClassId) (ts : Nat → Nat) (u : xU) (p1 : Int32) (hT : (0 ≤ ((u.1 0 0)).toInt ∧ ((u.1 0 0)).toInt ≤ 8)) (hC : (0 ≤ ((u.1 0 5)).toInt ∧ ((u.1 0 5)).toInt ≤ 6)) (hU : (0 ≤ ((u.1 7 74)).toInt ∧ ((u.1 7 74)).toInt ≤ 10)) (hr0 : mK (u.1 7)) : xMi l yX11_nights cX11_nights 4 (some .int) (xRm 1 25) D (xty Y) (wM a Y) ts [.ref (a 0), .int p1] u ((m_nights u p1).1, (m_nights u p1).2) := by
  suffices h : ∀ V, V = m_nights_b u p1 → xMi l yX11_nights cX11_nights 4 (some .int) (xRm 1 25) D (xty Y) (wM a Y) ts [.ref (a 0), .int p1] u (V.1, V.2) from h _ (by rw [m_nights_def])
  intro V hV
  refine xofi RX11 rfl (by decide) (Nat.le_of_ble_eq_true rfl) ?_
  intro p e s m args below meth c ls H locs A S hr hlk hl hK hE hA hw
  have hl : lv_has ls 4 [(0, .ref (a 0)), (1, .int p1)] := hl
  refine lv_iload_n S.1 S.2.1 dX11_nights_0 rfl (lv_at hl 1 rfl) ?_
  refine lv_iconst (v := 1) S.1 S.2.1 dX11_nights_1 (by decide) ?_
  refine lv_bipush (v := 9) S.1 S.2.1 dX11_nights_2 (by decide) ?_
  refine xcP (rest := []) S hw yfX11_in (c_m_in l p1 (1 : Int32) (9 : Int32)) mlX11_72 rfl rfl hl.1 ⟨rfl, rfl, Nat.le_of_ble_eq_true rfl, Nat.le_of_ble_eq_true rfl, Nat.le_of_ble_eq_true rfl, Nat.zero_le _, Nat.zero_le _⟩ dX11_nights_4 (fun H locs hw => ?_)
  refine lv_if_ne (tgt := 12) S.1 S.2.1 dX11_nights_7 (by decide) (fun c_1 => ?_) (fun c_1 => ?_)
  · replace hV := hV.trans (if_neg c_1)
    have gc_1 : ¬ ((b2i (m_in p1 (1 : Int32) (9 : Int32)))).toInt = 0 := xq_ne c_1 rfl rfl
    have fc_1 : 1 ≤ (p1).toInt ∧ (p1).toInt ≤ 9 := hk_in' c_1 rfl rfl rfl
    refine lv_aload_n S.1 S.2.1 dX11_nights_12 rfl (lv_at hl 0 rfl) ?_
    refine xget (v := .ref (a 7)) S hK hw 0 rfl rfl inX11 8 (by decide) mfX11_28 rfl dX11_nights_13 ?_
    refine lv_iconst (v := 0) S.1 S.2.1 dX11_nights_16 (by decide) ?_
    refine xaldc (f := u.1 7) (x := (u.1 7 0)) (k := 0) S hK hw 7 0 rfl rfl (by decide) rfl (xvi (a := 0) rfl (by decide) (by decide)) dX11_nights_17 ?_
    refine lv_iload_n S.1 S.2.1 dX11_nights_18 rfl (lv_at hl 1 rfl) ?_
    refine lv_iadd S.1 S.2.1 dX11_nights_19 ?_
    refine lv_sipush (v := 999) S.1 S.2.1 dX11_nights_20 (by decide) ?_
    refine lv_icmp_le (tgt := 29) S.1 S.2.1 dX11_nights_23 (by decide) (fun c_2 => ?_) (fun c_2 => ?_)
    · replace hV := hV.trans (if_pos c_2)
      refine lv_aload_n S.1 S.2.1 dX11_nights_29 rfl (lv_at hl 0 rfl) ?_
      refine xcVv (rest := []) S hK hE hA hw yfX11_remembers (c_m_remembers l D a Y ts _ (show (0 ≤ ((u.1 7 74)).toInt ∧ ((u.1 7 74)).toInt ≤ 10) from by (first | omega | (simp only [kp_learns0]; omega) | (simp only [kp_mrem0]; omega)))) 0 rfl rfl mlX11_168 rfl rfl hl.1 ⟨rfl, rfl, Nat.le_of_ble_eq_true rfl, Nat.le_of_ble_eq_true rfl, Nat.le_of_ble_eq_true rfl, Nat.zero_le _, Nat.zero_le _⟩ dX11_nights_30 (fun H locs hw => ?_)
      refine lv_iconst (v := 0) S.1 S.2.1 dX11_nights_33 (by decide) ?_
      refine lv_istore_n (lv' := [(2, .int (0 : Int32)), (0, .ref (a 0)), (1, .int p1)]) S.1 S.2.1 dX11_nights_34 rfl hl (by decide) rfl (fun ls hl => ?_)
      have lp_4 : ∀ (n_4 : Nat) (x2_4 : Int32) (u_4 : xU) (H : Heap) (locs : List Loc) (ls : Array Slot), (0 ≤ (x2_4).toInt) → (mK (u_4.1 7)) → ((0 ≤ ((u_4.1 0 0)).toInt ∧ ((u_4.1 0 0)).toInt ≤ 8)) → ((0 ≤ ((u_4.1 0 5)).toInt ∧ ((u_4.1 0 5)).toInt ≤ 6)) → ((p1).toInt - (x2_4).toInt < (n_4 : Int) ∧ 1 ≤ n_4) → lv_has ls 4 [(0, .ref (a 0)), (1, .int p1), (2, .int x2_4)] → xw D (wM a Y) A s.heap H locs u_4 → V = m_nights_L35 p1 n_4 x2_4 u_4 → W p l e (xRm 1 25) s m args below meth c H locs 0 0 (MQ below (va_Qi (fun r v => (r, v) = V) (xPost D (wM a Y) A) A) args s 0 0 A) (F0 m 35 ls []) := by
        intro n_4
        induction n_4 with
        | zero => intro x2_4 u_4 H locs ls i0_4 i1_4 i2_4 i3_4 hn; exact absurd hn.2 (by decide)
        | succ n_4 ih_4 =>
          intro x2_4 u_4 H locs ls i0_4 i1_4 i2_4 i3_4 hn_4 hl hw hV
          refine lv_iload_n S.1 S.2.1 dX11_nights_35 rfl (lv_at hl 2 rfl) ?_
          refine lv_iload_n S.1 S.2.1 dX11_nights_36 rfl (lv_at hl 1 rfl) ?_
          refine lv_icmp_ge (tgt := 100) S.1 S.2.1 dX11_nights_37 (by decide) (fun c_5 => ?_) (fun c_5 => ?_)
          · replace hV := hV.trans (if_pos c_5)
            have gc_5 : (p1).toInt ≤ (x2_4).toInt := xq_le c_5 rfl rfl
            refine lv_aload_n S.1 S.2.1 dX11_nights_100 rfl (lv_at hl 0 rfl) ?_
            refine xget (v := .ref (a 7)) S hK hw 0 rfl rfl inX11 8 (by decide) mfX11_28 rfl dX11_nights_101 ?_
            refine lv_bipush (v := 67) S.1 S.2.1 dX11_nights_104 (by decide) ?_
            refine xaldc (f := u_4.1 7) (x := (u_4.1 7 67)) (k := 67) S hK hw 7 0 rfl rfl (by decide) rfl (xvi (a := 67) rfl (by decide) (by decide)) dX11_nights_106 ?_
            refine xcP (rest := []) S hw yfX11_bits (c_m_bits l (u_4.1 7 67)) mlX11_175 rfl rfl hl.1 ⟨rfl, rfl, Nat.le_of_ble_eq_true rfl, Nat.le_of_ble_eq_true rfl, Nat.le_of_ble_eq_true rfl, Nat.zero_le _, Nat.zero_le _⟩ dX11_nights_107 (fun H locs hw => ?_)
            exact xri S hr hlk hw hV dX11_nights_110
          · replace hV := hV.trans (if_neg c_5)
            have gc_5 : (x2_4).toInt < (p1).toInt := xq_nle c_5 rfl rfl
            refine lv_iconst (v := 0) S.1 S.2.1 dX11_nights_40 (by decide) ?_
            refine lv_istore_n (lv' := [(3, .int (0 : Int32)), (0, .ref (a 0)), (1, .int p1), (2, .int x2_4)]) S.1 S.2.1 dX11_nights_41 rfl hl (by decide) rfl (fun ls hl => ?_)
            have lp_6 : ∀ (n_6 : Nat) (x3_6 : Int32) (u_6 : xU) (H : Heap) (locs : List Loc) (ls : Array Slot), (0 ≤ (x3_6).toInt) → (mK (u_6.1 7)) → ((0 ≤ ((u_6.1 0 0)).toInt ∧ ((u_6.1 0 0)).toInt ≤ 8)) → ((0 ≤ ((u_6.1 0 5)).toInt ∧ ((u_6.1 0 5)).toInt ≤ 6)) → (((u_6.1 0 5)).toInt - (x3_6).toInt < (n_6 : Int) ∧ 1 ≤ n_6) → lv_has ls 4 [(0, .ref (a 0)), (1, .int p1), (2, .int x2_4), (3, .int x3_6)] → xw D (wM a Y) A s.heap H locs u_6 → V = m_nights_L42 (fun (z2 : Int32) (zu : xU) => m_nights_L35 p1 n_4 z2 zu) p1 x2_4 n_6 x3_6 u_6 → W p l e (xRm 1 25) s m args below meth c H locs 0 0 (MQ below (va_Qi (fun r v => (r, v) = V) (xPost D (wM a Y) A) A) args s 0 0 A) (F0 m 42 ls []) := by
              intro n_6
              induction n_6 with
              | zero => intro x3_6 u_6 H locs ls i0_6 i1_6 i2_6 i3_6 hn; exact absurd hn.2 (by decide)
              | succ n_6 ih_6 =>
                intro x3_6 u_6 H locs ls i0_6 i1_6 i2_6 i3_6 hn_6 hl hw hV
                refine lv_iload_n S.1 S.2.1 dX11_nights_42 rfl (lv_at hl 3 rfl) ?_
                refine lv_aload_n S.1 S.2.1 dX11_nights_43 rfl (lv_at hl 0 rfl) ?_
                refine xget (v := .int (u_6.1 0 5)) S hK hw 0 rfl rfl inX11 5 (by decide) mfX11_76 rfl dX11_nights_44 ?_
                refine lv_icmp_ge (tgt := 84) S.1 S.2.1 dX11_nights_47 (by decide) (fun c_7 => ?_) (fun c_7 => ?_)
                · replace hV := hV.trans (if_pos c_7)
                  have gc_7 : ((u_6.1 0 5)).toInt ≤ (x3_6).toInt := xq_le c_7 rfl rfl
                  refine lv_aload_n S.1 S.2.1 dX11_nights_84 rfl (lv_at hl 0 rfl) ?_
                  refine xget (v := .ref (a 7)) S hK hw 0 rfl rfl inX11 8 (by decide) mfX11_28 rfl dX11_nights_85 ?_
                  refine lv_iconst (v := 0) S.1 S.2.1 dX11_nights_88 (by decide) ?_
                  refine lv_dup2_11 S.1 S.2.1 dX11_nights_89 rfl rfl ?_
                  refine xaldc (f := u_6.1 7) (x := (u_6.1 7 0)) (k := 0) S hK hw 7 0 rfl rfl (by decide) rfl (xvi (a := 0) rfl (by decide) (by decide)) dX11_nights_90 ?_
                  refine lv_iconst (v := 1) S.1 S.2.1 dX11_nights_91 (by decide) ?_
                  refine lv_iadd S.1 S.2.1 dX11_nights_92 ?_
                  refine xastc (k := 0) S hK hw 7 0 rfl rfl (by decide) (xvi (a := 0) rfl (by decide) (by decide)) (sM_7 _ _ _ _) dX11_nights_93 (fun H locs hw => ?_)
                  refine lv_iinc (v := (x2_4 + (1 : Int32))) (lv' := [(2, .int (x2_4 + (1 : Int32))), (0, .ref (a 0)), (1, .int p1), (3, .int x3_6)]) S.1 S.2.1 dX11_nights_94 hl (k := 2) rfl rfl (by decide) rfl (fun ls hl => ?_)
                  refine lv_goto (tgt := 35) S.1 S.2.1 dX11_nights_97 (by decide) ?_
                  have e_9 : ∀ _ : Unit, ((x2_4 + (1 : Int32))).toInt = (x2_4).toInt + 1 := fun _ => xadd rfl rfl (by omega) (by omega)
                  clear hn_6
                  exact ih_4 (x2_4 + (1 : Int32)) (sp u_6 7 (upd (u_6.1 7) 0 ((u_6.1 7 0) + (1 : Int32)))) _ _ _ (show 0 ≤ ((x2_4 + (1 : Int32))).toInt from by rw [(e_9 ())]; (first | omega | (simp only [kp_learns0]; omega) | (simp only [kp_mrem0]; omega))) (show mK ((upd (u_6.1 7) 0 ((u_6.1 7 0) + (1 : Int32)))) from by first | assumption | exact mK_learns (by omega) (by omega) (by assumption) | exact mK_out (by assumption) (Or.inl (by decide)) | exact mK_rem (by assumption) (by assumption)) (show (0 ≤ ((u_6.1 0 0)).toInt ∧ ((u_6.1 0 0)).toInt ≤ 8) from by (first | omega | (simp only [kp_learns0]; omega) | (simp only [kp_mrem0]; omega))) (show (0 ≤ ((u_6.1 0 5)).toInt ∧ ((u_6.1 0 5)).toInt ≤ 6) from by (first | omega | (simp only [kp_learns0]; omega) | (simp only [kp_mrem0]; omega))) (show (p1).toInt - ((x2_4 + (1 : Int32))).toInt < (n_4 : Int) ∧ 1 ≤ n_4 from by rw [(e_9 ())]; (first | omega | (simp only [kp_learns0]; omega) | (simp only [kp_mrem0]; omega))) (lv_sub hl [1, 2, 0] rfl) hw hV
                · replace hV := hV.trans (if_neg c_7)
                  have gc_7 : (x3_6).toInt < ((u_6.1 0 5)).toInt := xq_nle c_7 rfl rfl
                  refine lv_aload_n S.1 S.2.1 dX11_nights_50 rfl (lv_at hl 0 rfl) ?_
                  refine xget (v := .ref (a 7)) S hK hw 0 rfl rfl inX11 8 (by decide) mfX11_28 rfl dX11_nights_51 ?_
                  refine lv_bipush (v := 68) S.1 S.2.1 dX11_nights_54 (by decide) ?_
                  refine lv_iload_n S.1 S.2.1 dX11_nights_56 rfl (lv_at hl 3 rfl) ?_
                  refine lv_iadd S.1 S.2.1 dX11_nights_57 ?_
                  have e_10 : ∀ _ : Unit, (((68 : Int32) + x3_6)).toInt = 68 + (x3_6).toInt := fun _ => xadd rfl rfl (by omega) (by omega)
                  refine xald (f := u_6.1 7) S hK hw 7 0 rfl rfl (xvi (e_10 ()) (by omega) (by omega)) dX11_nights_58 ?_
                  refine lv_bipush (v := -9) S.1 S.2.1 dX11_nights_59 (by decide) ?_
                  refine lv_icmp_eq (tgt := 78) S.1 S.2.1 dX11_nights_61 (by decide) (fun c_11 => ?_) (fun c_11 => ?_)
                  · replace hV := hV.trans (if_pos c_11)
                    have gc_11 : ((u_6.1 7 (((68 : Int32) + x3_6)).toNatClampNeg)).toInt = (-9) := xq_eq c_11 rfl rfl
                    refine lv_iinc (v := (x3_6 + (1 : Int32))) (lv' := [(3, .int (x3_6 + (1 : Int32))), (0, .ref (a 0)), (1, .int p1), (2, .int x2_4)]) S.1 S.2.1 dX11_nights_78 hl (k := 3) rfl rfl (by decide) rfl (fun ls hl => ?_)
                    refine lv_goto (tgt := 42) S.1 S.2.1 dX11_nights_81 (by decide) ?_
                    have e_12 : ∀ _ : Unit, ((x3_6 + (1 : Int32))).toInt = (x3_6).toInt + 1 := fun _ => xadd rfl rfl (by omega) (by omega)
                    clear hn_4
                    exact ih_6 (x3_6 + (1 : Int32)) u_6 _ _ _ (show 0 ≤ ((x3_6 + (1 : Int32))).toInt from by rw [(e_12 ())]; (first | omega | (simp only [kp_learns0]; omega) | (simp only [kp_mrem0]; omega))) (show mK (u_6.1 7) from by first | assumption | exact mK_learns (by omega) (by omega) (by assumption) | exact mK_out (by assumption) (Or.inl (by decide)) | exact mK_rem (by assumption) (by assumption)) (show (0 ≤ ((u_6.1 0 0)).toInt ∧ ((u_6.1 0 0)).toInt ≤ 8) from by (first | omega | (simp only [kp_learns0]; omega) | (simp only [kp_mrem0]; omega))) (show (0 ≤ ((u_6.1 0 5)).toInt ∧ ((u_6.1 0 5)).toInt ≤ 6) from by (first | omega | (simp only [kp_learns0]; omega) | (simp only [kp_mrem0]; omega))) (show ((u_6.1 0 5)).toInt - ((x3_6 + (1 : Int32))).toInt < (n_6 : Int) ∧ 1 ≤ n_6 from by rw [(e_12 ())]; (first | omega | (simp only [kp_learns0]; omega) | (simp only [kp_mrem0]; omega))) (lv_sub hl [1, 2, 3, 0] rfl) hw hV
                  · replace hV := hV.trans (if_neg c_11)
                    have gc_11 : ¬ ((u_6.1 7 (((68 : Int32) + x3_6)).toNatClampNeg)).toInt = (-9) := xq_ne c_11 rfl rfl
                    have hq := mK_at (f := u_6.1 7) (c := x3_6) (by assumption) (by omega) (by omega)
                    refine lv_aload_n S.1 S.2.1 dX11_nights_64 rfl (lv_at hl 0 rfl) ?_
                    refine lv_iload_n S.1 S.2.1 dX11_nights_65 rfl (lv_at hl 3 rfl) ?_
                    refine lv_aload_n S.1 S.2.1 dX11_nights_66 rfl (lv_at hl 0 rfl) ?_
                    refine xget (v := .ref (a 7)) S hK hw 0 rfl rfl inX11 8 (by decide) mfX11_28 rfl dX11_nights_67 ?_
                    refine lv_bipush (v := 68) S.1 S.2.1 dX11_nights_70 (by decide) ?_
                    refine lv_iload_n S.1 S.2.1 dX11_nights_72 rfl (lv_at hl 3 rfl) ?_
                    refine lv_iadd S.1 S.2.1 dX11_nights_73 ?_
                    refine xald (f := u_6.1 7) S hK hw 7 0 rfl rfl (xvi (e_10 ()) (by omega) (by omega)) dX11_nights_74 ?_
                    refine xcVv (rest := []) S hK hE hA hw yfX11_learns (c_m_learns l D a Y ts _ x3_6 (u_6.1 7 (((68 : Int32) + x3_6)).toNatClampNeg) (show 0 ≤ (x3_6).toInt ∧ (x3_6).toInt < 6 from by (first | omega | (simp only [kp_learns0]; omega) | (simp only [kp_mrem0]; omega))) (show 0 ≤ ((u_6.1 7 (((68 : Int32) + x3_6)).toNatClampNeg)).toInt ∧ ((u_6.1 7 (((68 : Int32) + x3_6)).toNatClampNeg)).toInt < 8 from by (first | omega | (simp only [kp_learns0]; omega) | (simp only [kp_mrem0]; omega)))) 0 rfl rfl mlX11_171 rfl rfl hl.1 ⟨rfl, rfl, Nat.le_of_ble_eq_true rfl, Nat.le_of_ble_eq_true rfl, Nat.le_of_ble_eq_true rfl, Nat.zero_le _, Nat.zero_le _⟩ dX11_nights_75 (fun H locs hw => ?_)
                    refine lv_iinc (v := (x3_6 + (1 : Int32))) (lv' := [(3, .int (x3_6 + (1 : Int32))), (0, .ref (a 0)), (1, .int p1), (2, .int x2_4)]) S.1 S.2.1 dX11_nights_78 hl (k := 3) rfl rfl (by decide) rfl (fun ls hl => ?_)
                    refine lv_goto (tgt := 42) S.1 S.2.1 dX11_nights_81 (by decide) ?_
                    have e_14 : ∀ _ : Unit, ((x3_6 + (1 : Int32))).toInt = (x3_6).toInt + 1 := fun _ => xadd rfl rfl (by omega) (by omega)
                    clear hn_4
                    exact ih_6 (x3_6 + (1 : Int32)) (m_learns u_6 x3_6 (u_6.1 7 (((68 : Int32) + x3_6)).toNatClampNeg)) _ _ _ (show 0 ≤ ((x3_6 + (1 : Int32))).toInt from by rw [(e_14 ())]; (first | omega | (simp only [kp_learns0]; omega) | (simp only [kp_mrem0]; omega))) (show mK ((m_learns u_6 x3_6 (u_6.1 7 (((68 : Int32) + x3_6)).toNatClampNeg)).1 7) from by first | assumption | exact mK_learns (by omega) (by omega) (by assumption) | exact mK_out (by assumption) (Or.inl (by decide)) | exact mK_rem (by assumption) (by assumption)) (show (0 ≤ (((m_learns u_6 x3_6 (u_6.1 7 (((68 : Int32) + x3_6)).toNatClampNeg)).1 0 0)).toInt ∧ (((m_learns u_6 x3_6 (u_6.1 7 (((68 : Int32) + x3_6)).toNatClampNeg)).1 0 0)).toInt ≤ 8) from by (first | omega | (simp only [kp_learns0]; omega) | (simp only [kp_mrem0]; omega))) (show (0 ≤ (((m_learns u_6 x3_6 (u_6.1 7 (((68 : Int32) + x3_6)).toNatClampNeg)).1 0 5)).toInt ∧ (((m_learns u_6 x3_6 (u_6.1 7 (((68 : Int32) + x3_6)).toNatClampNeg)).1 0 5)).toInt ≤ 6) from by (first | omega | (simp only [kp_learns0]; omega) | (simp only [kp_mrem0]; omega))) (show (((m_learns u_6 x3_6 (u_6.1 7 (((68 : Int32) + x3_6)).toNatClampNeg)).1 0 5)).toInt - ((x3_6 + (1 : Int32))).toInt < (n_6 : Int) ∧ 1 ≤ n_6 from by rw [(e_14 ())]; (first | omega | (simp only [kp_learns0]; omega) | (simp only [kp_mrem0]; omega))) (lv_sub hl [1, 2, 3, 0] rfl) hw hV
            exact lp_6 7 (0 : Int32) u_4 _ _ _ (show 0 ≤ 0 from by (first | omega | (simp only [kp_learns0]; omega) | (simp only [kp_mrem0]; omega))) (show mK (u_4.1 7) from by first | assumption | exact mK_learns (by omega) (by omega) (by assumption) | exact mK_out (by assumption) (Or.inl (by decide)) | exact mK_rem (by assumption) (by assumption)) (show (0 ≤ ((u_4.1 0 0)).toInt ∧ ((u_4.1 0 0)).toInt ≤ 8) from by (first | omega | (simp only [kp_learns0]; omega) | (simp only [kp_mrem0]; omega))) (show (0 ≤ ((u_4.1 0 5)).toInt ∧ ((u_4.1 0 5)).toInt ≤ 6) from by (first | omega | (simp only [kp_learns0]; omega) | (simp only [kp_mrem0]; omega))) (show ((u_4.1 0 5)).toInt - 0 < ((7 : Nat) : Int) ∧ 1 ≤ (7 : Nat) from by (first | omega | (simp only [kp_learns0]; omega) | (simp only [kp_mrem0]; omega))) (lv_sub hl [1, 2, 3, 0] rfl) hw hV
      exact lp_4 10 (0 : Int32) (m_remembers u) _ _ _ (show 0 ≤ 0 from by (first | omega | (simp only [kp_learns0]; omega) | (simp only [kp_mrem0]; omega))) (show mK ((m_remembers u).1 7) from by first | assumption | exact mK_learns (by omega) (by omega) (by assumption) | exact mK_out (by assumption) (Or.inl (by decide)) | exact mK_rem (by assumption) (by assumption)) (show (0 ≤ (((m_remembers u).1 0 0)).toInt ∧ (((m_remembers u).1 0 0)).toInt ≤ 8) from by (first | omega | (simp only [kp_learns0]; omega) | (simp only [kp_mrem0]; omega))) (show (0 ≤ (((m_remembers u).1 0 5)).toInt ∧ (((m_remembers u).1 0 5)).toInt ≤ 6) from by (first | omega | (simp only [kp_learns0]; omega) | (simp only [kp_mrem0]; omega))) (show (p1).toInt - 0 < ((10 : Nat) : Int) ∧ 1 ≤ (10 : Nat) from by (first | omega | (simp only [kp_learns0]; omega) | (simp only [kp_mrem0]; omega))) (lv_sub hl [1, 2, 0] rfl) hw hV
    · replace hV := hV.trans (if_neg c_2)
      refine lv_bipush (v := -2) S.1 S.2.1 dX11_nights_26 (by decide) ?_
      exact xri S hr hlk hw hV dX11_nights_28
  · replace hV := hV.trans (if_pos c_1)
    have gc_1 : ((b2i (m_in p1 (1 : Int32) (9 : Int32)))).toInt = 0 := xq_eq c_1 rfl rfl
    refine lv_iconst (v := -1) S.1 S.2.1 dX11_nights_10 (by decide) ?_
    exact xri S hr hlk hw hV dX11_nights_11
noncomputable def m_sets_b (u : xU) (p1 : Int32) (p2 : Int32) : Int32 × xU :=
    (if (b2i (m_isCast u p1)) = (0 : Int32) then
    ((-1 : Int32), u)
    else
    (if p2 = (-1 : Int32) then
    let t_4 := (u.1 7 (((68 : Int32) + p1)).toNatClampNeg)
    (if (0 : Int32) ≤ p2 then
    (if t_4 = p2 then
    ((-2 : Int32), u)
    else
    (if (b2i (m_may u p1 p2)) = (0 : Int32) then
    ((-2 : Int32), u)
    else
    let r_10 := m_remembers u
    (if (0 : Int32) ≤ p2 then
    let w_12 := sp r_10 7 (upd (r_10.1 7) (((68 : Int32) + p1)).toNatClampNeg p2)
    (t_4, w_12)
    else
    let w_13 := sp r_10 7 (upd (r_10.1 7) (((68 : Int32) + p1)).toNatClampNeg (-9 : Int32))
    (t_4, w_13))))
    else
    (if t_4 = (-9 : Int32) then
    ((-2 : Int32), u)
    else
    let r_17 := m_remembers u
    (if (0 : Int32) ≤ p2 then
    let w_19 := sp r_17 7 (upd (r_17.1 7) (((68 : Int32) + p1)).toNatClampNeg p2)
    (t_4, w_19)
    else
    let w_20 := sp r_17 7 (upd (r_17.1 7) (((68 : Int32) + p1)).toNatClampNeg (-9 : Int32))
    (t_4, w_20))))
    else
    (if (b2i (m_isThing u p2)) = (0 : Int32) then
    ((-1 : Int32), u)
    else
    let t_24 := (u.1 7 (((68 : Int32) + p1)).toNatClampNeg)
    (if (0 : Int32) ≤ p2 then
    (if t_24 = p2 then
    ((-2 : Int32), u)
    else
    (if (b2i (m_may u p1 p2)) = (0 : Int32) then
    ((-2 : Int32), u)
    else
    let r_30 := m_remembers u
    (if (0 : Int32) ≤ p2 then
    let w_32 := sp r_30 7 (upd (r_30.1 7) (((68 : Int32) + p1)).toNatClampNeg p2)
    (t_24, w_32)
    else
    let w_33 := sp r_30 7 (upd (r_30.1 7) (((68 : Int32) + p1)).toNatClampNeg (-9 : Int32))
    (t_24, w_33))))
    else
    (if t_24 = (-9 : Int32) then
    ((-2 : Int32), u)
    else
    let r_37 := m_remembers u
    (if (0 : Int32) ≤ p2 then
    let w_39 := sp r_37 7 (upd (r_37.1 7) (((68 : Int32) + p1)).toNatClampNeg p2)
    (t_24, w_39)
    else
    let w_40 := sp r_37 7 (upd (r_37.1 7) (((68 : Int32) + p1)).toNatClampNeg (-9 : Int32))
    (t_24, w_40)))))))
theorem m_sets_x : ∃ f : xU → Int32 → Int32 → Int32 × xU, f = m_sets_b := ⟨_, rfl⟩
noncomputable def m_sets : xU → Int32 → Int32 → Int32 × xU := m_sets_x.choose
theorem m_sets_def : m_sets = m_sets_b := m_sets_x.choose_spec
set_option maxHeartbeats 4000000 in
set_option maxRecDepth 100000 in
theorem c_m_sets (l : Launch) (D : va_G) (a : Nat → Nat) (Y : Nat → ClassId) (ts : Nat → Nat) (u : xU) (p1 : Int32) (p2 : Int32) (hT : (0 ≤ ((u.1 0 0)).toInt ∧ ((u.1 0 0)).toInt ≤ 8)) (hC : (0 ≤ ((u.1 0 5)).toInt ∧ ((u.1 0 5)).toInt ≤ 6)) (hU : (0 ≤ ((u.1 7 74)).toInt ∧ ((u.1 7 74)).toInt ≤ 10)) : xMi l yX11_sets cX11_sets 5 (some .int) (xRm 3 65) D (xty Y) (wM a Y) ts [.ref (a 0), .int p1, .int p2] u ((m_sets u p1 p2).1, (m_sets u p1 p2).2) := by
  suffices h : ∀ V, V = m_sets_b u p1 p2 → xMi l yX11_sets cX11_sets 5 (some .int) (xRm 3 65) D (xty Y) (wM a Y) ts [.ref (a 0), .int p1, .int p2] u (V.1, V.2) from h _ (by rw [m_sets_def])
  intro V hV
  refine xofi RX11 rfl (by decide) (Nat.le_of_ble_eq_true rfl) ?_
  intro p e s m args below meth c ls H locs A S hr hlk hl hK hE hA hw
  have hl : lv_has ls 5 [(0, .ref (a 0)), (1, .int p1), (2, .int p2)] := hl
  refine lv_aload_n S.1 S.2.1 dX11_sets_0 rfl (lv_at hl 0 rfl) ?_
  refine lv_iload_n S.1 S.2.1 dX11_sets_1 rfl (lv_at hl 1 rfl) ?_
  refine xci (rest := []) S hK hE hA hw yfX11_isCast (c_m_isCast l D a Y ts _ p1 (show (0 ≤ ((u.1 0 0)).toInt ∧ ((u.1 0 0)).toInt ≤ 8) from by omega) (show (0 ≤ ((u.1 0 5)).toInt ∧ ((u.1 0 5)).toInt ≤ 6) from by omega)) 0 rfl rfl mlX11_162 rfl rfl hl.1 ⟨rfl, rfl, Nat.le_of_ble_eq_true rfl, Nat.le_of_ble_eq_true rfl, Nat.le_of_ble_eq_true rfl, Nat.zero_le _, Nat.zero_le _⟩ dX11_sets_2 (fun H locs hw => ?_)
  refine lv_if_eq (tgt := 21) S.1 S.2.1 dX11_sets_5 (by decide) (fun c_1 => ?_) (fun c_1 => ?_)
  · replace hV := hV.trans (if_pos c_1)
    have gc_1 : ((b2i (m_isCast u p1))).toInt = 0 := xq_eq c_1 rfl rfl
    refine lv_iconst (v := -1) S.1 S.2.1 dX11_sets_21 (by decide) ?_
    exact xri S hr hlk hw hV dX11_sets_22
  · replace hV := hV.trans (if_neg c_1)
    have gc_1 : ¬ ((b2i (m_isCast u p1))).toInt = 0 := xq_ne c_1 rfl rfl
    have fc_1 := hk_mCast hC c_1
    refine lv_iload_n S.1 S.2.1 dX11_sets_8 rfl (lv_at hl 2 rfl) ?_
    refine lv_iconst (v := -1) S.1 S.2.1 dX11_sets_9 (by decide) ?_
    refine lv_icmp_eq (tgt := 23) S.1 S.2.1 dX11_sets_10 (by decide) (fun c_2 => ?_) (fun c_2 => ?_)
    · replace hV := hV.trans (if_pos c_2)
      have gc_2 : (p2).toInt = (-1) := xq_eq c_2 rfl rfl
      refine lv_aload_n S.1 S.2.1 dX11_sets_23 rfl (lv_at hl 0 rfl) ?_
      refine xget (v := .ref (a 7)) S hK hw 0 rfl rfl inX11 8 (by decide) mfX11_28 rfl dX11_sets_24 ?_
      refine lv_bipush (v := 68) S.1 S.2.1 dX11_sets_27 (by decide) ?_
      refine lv_iload_n S.1 S.2.1 dX11_sets_29 rfl (lv_at hl 1 rfl) ?_
      refine lv_iadd S.1 S.2.1 dX11_sets_30 ?_
      have e_3 : ∀ _ : Unit, (((68 : Int32) + p1)).toInt = 68 + (p1).toInt := fun _ => xadd rfl rfl (by omega) (by omega)
      refine xald (f := u.1 7) S hK hw 7 0 rfl rfl (xvi (e_3 ()) (by omega) (by omega)) dX11_sets_31 ?_
      refine lv_istore_n (lv' := [(3, .int (u.1 7 (((68 : Int32) + p1)).toNatClampNeg)), (0, .ref (a 0)), (1, .int p1), (2, .int p2)]) S.1 S.2.1 dX11_sets_32 rfl hl (by decide) rfl (fun ls hl => ?_)
      refine lv_iload_n S.1 S.2.1 dX11_sets_33 rfl (lv_at hl 3 rfl) ?_
      refine lv_if_ge (tgt := 51) S.1 S.2.1 dX11_sets_34 (by decide) (fun c_5 => ?_) (fun c_5 => ?_)
      · replace hV := hV.trans (if_pos c_5)
        have gc_5 : 0 ≤ (p2).toInt := xq_le c_5 rfl rfl
        refine lv_iload_n S.1 S.2.1 dX11_sets_51 rfl (lv_at hl 0 rfl) ?_
        refine lv_iload_n S.1 S.2.1 dX11_sets_52 rfl (lv_at hl 3 rfl) ?_
        refine lv_icmp_eq (tgt := 65) S.1 S.2.1 dX11_sets_53 (by decide) (fun c_6 => ?_) (fun c_6 => ?_)
        · replace hV := hV.trans (if_pos c_6)
          have gc_6 : ((u.1 7 (((68 : Int32) + p1)).toNatClampNeg)).toInt = (p2).toInt := xq_eq c_6 rfl rfl
          refine lv_iconst (v := 1) S.1 S.2.1 dX11_sets_65 (by decide) ?_
          refine lv_goto (tgt := 70) S.1 S.2.1 dX11_sets_66 (by decide) ?_
          refine lv_istore (lv' := [(4, .int (1 : Int32)), (3, .int (u.1 7 (((68 : Int32) + p1)).toNatClampNeg)), (0, .ref (a 0)), (1, .int p1), (2, .int p2)]) S.1 S.2.1 dX11_sets_70 hl (by decide) rfl (fun ls hl => ?_)
          refine lv_iload S.1 S.2.1 dX11_sets_72 (lv_at hl 0 rfl) ?_
          refine lv_if_eq (tgt := 80) S.1 S.2.1 dX11_sets_74 (by decide) (fun c_7 => ?_) (fun c_7 => ?_)
          · exact absurd c_7 (by decide)
          · refine lv_bipush (v := -2) S.1 S.2.1 dX11_sets_77 (by decide) ?_
            exact xri S hr hlk hw hV dX11_sets_79
        · replace hV := hV.trans (if_neg c_6)
          have gc_6 : ¬ ((u.1 7 (((68 : Int32) + p1)).toNatClampNeg)).toInt = (p2).toInt := xq_ne c_6 rfl rfl
          refine lv_aload_n S.1 S.2.1 dX11_sets_56 rfl (lv_at hl 1 rfl) ?_
          refine lv_iload_n S.1 S.2.1 dX11_sets_57 rfl (lv_at hl 2 rfl) ?_
          refine lv_iload_n S.1 S.2.1 dX11_sets_58 rfl (lv_at hl 3 rfl) ?_
          refine xci (rest := []) S hK hE hA hw yfX11_may (c_m_may l D a Y ts _ p1 p2 (show (0 ≤ ((u.1 0 0)).toInt ∧ ((u.1 0 0)).toInt ≤ 8) from by omega) (show (0 ≤ ((u.1 0 5)).toInt ∧ ((u.1 0 5)).toInt ≤ 6) from by omega) (show 0 ≤ (p1).toInt ∧ (p1).toInt < 6 from by omega) (show 0 ≤ (p2).toInt ∧ (p2).toInt < 8 from by omega)) 0 rfl rfl mlX11_153 rfl rfl hl.1 ⟨rfl, rfl, Nat.le_of_ble_eq_true rfl, Nat.le_of_ble_eq_true rfl, Nat.le_of_ble_eq_true rfl, Nat.zero_le _, Nat.zero_le _⟩ dX11_sets_59 (fun H locs hw => ?_)
          refine lv_if_ne (tgt := 69) S.1 S.2.1 dX11_sets_62 (by decide) (fun c_8 => ?_) (fun c_8 => ?_)
          · replace hV := hV.trans (if_neg c_8)
            have gc_8 : ¬ ((b2i (m_may u p1 p2))).toInt = 0 := xq_ne c_8 rfl rfl
            refine lv_iconst (v := 0) S.1 S.2.1 dX11_sets_69 (by decide) ?_
            refine lv_istore (lv' := [(4, .int (0 : Int32)), (3, .int (u.1 7 (((68 : Int32) + p1)).toNatClampNeg)), (0, .ref (a 0)), (1, .int p1), (2, .int p2)]) S.1 S.2.1 dX11_sets_70 hl (by decide) rfl (fun ls hl => ?_)
            refine lv_iload S.1 S.2.1 dX11_sets_72 (lv_at hl 0 rfl) ?_
            refine lv_if_eq (tgt := 80) S.1 S.2.1 dX11_sets_74 (by decide) (fun c_9 => ?_) (fun c_9 => ?_)
            · refine lv_aload_n S.1 S.2.1 dX11_sets_80 rfl (lv_at hl 2 rfl) ?_
              refine xcVv (rest := []) S hK hE hA hw yfX11_remembers (c_m_remembers l D a Y ts _ (show (0 ≤ ((u.1 7 74)).toInt ∧ ((u.1 7 74)).toInt ≤ 10) from by omega)) 0 rfl rfl mlX11_168 rfl rfl hl.1 ⟨rfl, rfl, Nat.le_of_ble_eq_true rfl, Nat.le_of_ble_eq_true rfl, Nat.le_of_ble_eq_true rfl, Nat.zero_le _, Nat.zero_le _⟩ dX11_sets_81 (fun H locs hw => ?_)
              refine lv_aload_n S.1 S.2.1 dX11_sets_84 rfl (lv_at hl 2 rfl) ?_
              refine xget (v := .ref (a 7)) S hK hw 0 rfl rfl inX11 8 (by decide) mfX11_28 rfl dX11_sets_85 ?_
              refine lv_bipush (v := 68) S.1 S.2.1 dX11_sets_88 (by decide) ?_
              refine lv_iload_n S.1 S.2.1 dX11_sets_90 rfl (lv_at hl 3 rfl) ?_
              refine lv_iadd S.1 S.2.1 dX11_sets_91 ?_
              refine lv_iload_n S.1 S.2.1 dX11_sets_92 rfl (lv_at hl 4 rfl) ?_
              refine lv_if_ge (tgt := 101) S.1 S.2.1 dX11_sets_93 (by decide) (fun c_11 => ?_) (fun c_11 => ?_)
              · replace hV := hV.trans (if_pos c_11)
                have gc_11 : 0 ≤ (p2).toInt := xq_le c_11 rfl rfl
                refine lv_iload_n S.1 S.2.1 dX11_sets_101 rfl (lv_at hl 4 rfl) ?_
                refine xast S hK hw 7 0 rfl rfl (xvi (e_3 ()) (by omega) (by omega)) (sM_7 _ _ _ _) dX11_sets_102 (fun H locs hw => ?_)
                refine lv_iload_n S.1 S.2.1 dX11_sets_103 rfl (lv_at hl 1 rfl) ?_
                exact xri S hr hlk hw hV dX11_sets_104
              · replace hV := hV.trans (if_neg c_11)
                have gc_11 : (p2).toInt < 0 := xq_nle c_11 rfl rfl
                refine lv_bipush (v := -9) S.1 S.2.1 dX11_sets_96 (by decide) ?_
                refine lv_goto (tgt := 102) S.1 S.2.1 dX11_sets_98 (by decide) ?_
                refine xast S hK hw 7 0 rfl rfl (xvi (e_3 ()) (by omega) (by omega)) (sM_7 _ _ _ _) dX11_sets_102 (fun H locs hw => ?_)
                refine lv_iload_n S.1 S.2.1 dX11_sets_103 rfl (lv_at hl 1 rfl) ?_
                exact xri S hr hlk hw hV dX11_sets_104
            · exact absurd c_9 (by decide)
          · replace hV := hV.trans (if_pos c_8)
            have gc_8 : ((b2i (m_may u p1 p2))).toInt = 0 := xq_eq c_8 rfl rfl
            refine lv_iconst (v := 1) S.1 S.2.1 dX11_sets_65 (by decide) ?_
            refine lv_goto (tgt := 70) S.1 S.2.1 dX11_sets_66 (by decide) ?_
            refine lv_istore (lv' := [(4, .int (1 : Int32)), (3, .int (u.1 7 (((68 : Int32) + p1)).toNatClampNeg)), (0, .ref (a 0)), (1, .int p1), (2, .int p2)]) S.1 S.2.1 dX11_sets_70 hl (by decide) rfl (fun ls hl => ?_)
            refine lv_iload S.1 S.2.1 dX11_sets_72 (lv_at hl 0 rfl) ?_
            refine lv_if_eq (tgt := 80) S.1 S.2.1 dX11_sets_74 (by decide) (fun c_14 => ?_) (fun c_14 => ?_)
            · exact absurd c_14 (by decide)
            · refine lv_bipush (v := -2) S.1 S.2.1 dX11_sets_77 (by decide) ?_
              exact xri S hr hlk hw hV dX11_sets_79
      · replace hV := hV.trans (if_neg c_5)
        have gc_5 : (p2).toInt < 0 := xq_nle c_5 rfl rfl
        refine lv_iload_n S.1 S.2.1 dX11_sets_37 rfl (lv_at hl 0 rfl) ?_
        refine lv_bipush (v := -9) S.1 S.2.1 dX11_sets_38 (by decide) ?_
        refine lv_icmp_ne (tgt := 47) S.1 S.2.1 dX11_sets_40 (by decide) (fun c_15 => ?_) (fun c_15 => ?_)
        · replace hV := hV.trans (if_neg c_15)
          have gc_15 : ¬ ((u.1 7 (((68 : Int32) + p1)).toNatClampNeg)).toInt = (-9) := xq_ne c_15 rfl rfl
          refine lv_iconst (v := 0) S.1 S.2.1 dX11_sets_47 (by decide) ?_
          refine lv_goto (tgt := 70) S.1 S.2.1 dX11_sets_48 (by decide) ?_
          refine lv_istore (lv' := [(4, .int (0 : Int32)), (3, .int (u.1 7 (((68 : Int32) + p1)).toNatClampNeg)), (0, .ref (a 0)), (1, .int p1), (2, .int p2)]) S.1 S.2.1 dX11_sets_70 hl (by decide) rfl (fun ls hl => ?_)
          refine lv_iload S.1 S.2.1 dX11_sets_72 (lv_at hl 0 rfl) ?_
          refine lv_if_eq (tgt := 80) S.1 S.2.1 dX11_sets_74 (by decide) (fun c_16 => ?_) (fun c_16 => ?_)
          · refine lv_aload_n S.1 S.2.1 dX11_sets_80 rfl (lv_at hl 2 rfl) ?_
            refine xcVv (rest := []) S hK hE hA hw yfX11_remembers (c_m_remembers l D a Y ts _ (show (0 ≤ ((u.1 7 74)).toInt ∧ ((u.1 7 74)).toInt ≤ 10) from by omega)) 0 rfl rfl mlX11_168 rfl rfl hl.1 ⟨rfl, rfl, Nat.le_of_ble_eq_true rfl, Nat.le_of_ble_eq_true rfl, Nat.le_of_ble_eq_true rfl, Nat.zero_le _, Nat.zero_le _⟩ dX11_sets_81 (fun H locs hw => ?_)
            refine lv_aload_n S.1 S.2.1 dX11_sets_84 rfl (lv_at hl 2 rfl) ?_
            refine xget (v := .ref (a 7)) S hK hw 0 rfl rfl inX11 8 (by decide) mfX11_28 rfl dX11_sets_85 ?_
            refine lv_bipush (v := 68) S.1 S.2.1 dX11_sets_88 (by decide) ?_
            refine lv_iload_n S.1 S.2.1 dX11_sets_90 rfl (lv_at hl 3 rfl) ?_
            refine lv_iadd S.1 S.2.1 dX11_sets_91 ?_
            refine lv_iload_n S.1 S.2.1 dX11_sets_92 rfl (lv_at hl 4 rfl) ?_
            refine lv_if_ge (tgt := 101) S.1 S.2.1 dX11_sets_93 (by decide) (fun c_18 => ?_) (fun c_18 => ?_)
            · replace hV := hV.trans (if_pos c_18)
              have gc_18 : 0 ≤ (p2).toInt := xq_le c_18 rfl rfl
              refine lv_iload_n S.1 S.2.1 dX11_sets_101 rfl (lv_at hl 4 rfl) ?_
              refine xast S hK hw 7 0 rfl rfl (xvi (e_3 ()) (by omega) (by omega)) (sM_7 _ _ _ _) dX11_sets_102 (fun H locs hw => ?_)
              refine lv_iload_n S.1 S.2.1 dX11_sets_103 rfl (lv_at hl 1 rfl) ?_
              exact xri S hr hlk hw hV dX11_sets_104
            · replace hV := hV.trans (if_neg c_18)
              have gc_18 : (p2).toInt < 0 := xq_nle c_18 rfl rfl
              refine lv_bipush (v := -9) S.1 S.2.1 dX11_sets_96 (by decide) ?_
              refine lv_goto (tgt := 102) S.1 S.2.1 dX11_sets_98 (by decide) ?_
              refine xast S hK hw 7 0 rfl rfl (xvi (e_3 ()) (by omega) (by omega)) (sM_7 _ _ _ _) dX11_sets_102 (fun H locs hw => ?_)
              refine lv_iload_n S.1 S.2.1 dX11_sets_103 rfl (lv_at hl 1 rfl) ?_
              exact xri S hr hlk hw hV dX11_sets_104
          · exact absurd c_16 (by decide)
        · replace hV := hV.trans (if_pos c_15)
          have gc_15 : ((u.1 7 (((68 : Int32) + p1)).toNatClampNeg)).toInt = (-9) := xq_eq c_15 rfl rfl
          refine lv_iconst (v := 1) S.1 S.2.1 dX11_sets_43 (by decide) ?_
          refine lv_goto (tgt := 70) S.1 S.2.1 dX11_sets_44 (by decide) ?_
          refine lv_istore (lv' := [(4, .int (1 : Int32)), (3, .int (u.1 7 (((68 : Int32) + p1)).toNatClampNeg)), (0, .ref (a 0)), (1, .int p1), (2, .int p2)]) S.1 S.2.1 dX11_sets_70 hl (by decide) rfl (fun ls hl => ?_)
          refine lv_iload S.1 S.2.1 dX11_sets_72 (lv_at hl 0 rfl) ?_
          refine lv_if_eq (tgt := 80) S.1 S.2.1 dX11_sets_74 (by decide) (fun c_21 => ?_) (fun c_21 => ?_)
          · exact absurd c_21 (by decide)
          · refine lv_bipush (v := -2) S.1 S.2.1 dX11_sets_77 (by decide) ?_
            exact xri S hr hlk hw hV dX11_sets_79
    · replace hV := hV.trans (if_neg c_2)
      have gc_2 : ¬ (p2).toInt = (-1) := xq_ne c_2 rfl rfl
      refine lv_aload_n S.1 S.2.1 dX11_sets_13 rfl (lv_at hl 0 rfl) ?_
      refine lv_iload_n S.1 S.2.1 dX11_sets_14 rfl (lv_at hl 2 rfl) ?_
      refine xci (rest := []) S hK hE hA hw yfX11_isThing (c_m_isThing l D a Y ts _ p2 (show (0 ≤ ((u.1 0 0)).toInt ∧ ((u.1 0 0)).toInt ≤ 8) from by omega) (show (0 ≤ ((u.1 0 5)).toInt ∧ ((u.1 0 5)).toInt ≤ 6) from by omega)) 0 rfl rfl mlX11_156 rfl rfl hl.1 ⟨rfl, rfl, Nat.le_of_ble_eq_true rfl, Nat.le_of_ble_eq_true rfl, Nat.le_of_ble_eq_true rfl, Nat.zero_le _, Nat.zero_le _⟩ dX11_sets_15 (fun H locs hw => ?_)
      refine lv_if_ne (tgt := 23) S.1 S.2.1 dX11_sets_18 (by decide) (fun c_22 => ?_) (fun c_22 => ?_)
      · replace hV := hV.trans (if_neg c_22)
        have gc_22 : ¬ ((b2i (m_isThing u p2))).toInt = 0 := xq_ne c_22 rfl rfl
        have fc_22 := hk_mThing hT c_22
        refine lv_aload_n S.1 S.2.1 dX11_sets_23 rfl (lv_at hl 0 rfl) ?_
        refine xget (v := .ref (a 7)) S hK hw 0 rfl rfl inX11 8 (by decide) mfX11_28 rfl dX11_sets_24 ?_
        refine lv_bipush (v := 68) S.1 S.2.1 dX11_sets_27 (by decide) ?_
        refine lv_iload_n S.1 S.2.1 dX11_sets_29 rfl (lv_at hl 1 rfl) ?_
        refine lv_iadd S.1 S.2.1 dX11_sets_30 ?_
        have e_23 : ∀ _ : Unit, (((68 : Int32) + p1)).toInt = 68 + (p1).toInt := fun _ => xadd rfl rfl (by omega) (by omega)
        refine xald (f := u.1 7) S hK hw 7 0 rfl rfl (xvi (e_23 ()) (by omega) (by omega)) dX11_sets_31 ?_
        refine lv_istore_n (lv' := [(3, .int (u.1 7 (((68 : Int32) + p1)).toNatClampNeg)), (0, .ref (a 0)), (1, .int p1), (2, .int p2)]) S.1 S.2.1 dX11_sets_32 rfl hl (by decide) rfl (fun ls hl => ?_)
        refine lv_iload_n S.1 S.2.1 dX11_sets_33 rfl (lv_at hl 3 rfl) ?_
        refine lv_if_ge (tgt := 51) S.1 S.2.1 dX11_sets_34 (by decide) (fun c_25 => ?_) (fun c_25 => ?_)
        · replace hV := hV.trans (if_pos c_25)
          have gc_25 : 0 ≤ (p2).toInt := xq_le c_25 rfl rfl
          refine lv_iload_n S.1 S.2.1 dX11_sets_51 rfl (lv_at hl 0 rfl) ?_
          refine lv_iload_n S.1 S.2.1 dX11_sets_52 rfl (lv_at hl 3 rfl) ?_
          refine lv_icmp_eq (tgt := 65) S.1 S.2.1 dX11_sets_53 (by decide) (fun c_26 => ?_) (fun c_26 => ?_)
          · replace hV := hV.trans (if_pos c_26)
            have gc_26 : ((u.1 7 (((68 : Int32) + p1)).toNatClampNeg)).toInt = (p2).toInt := xq_eq c_26 rfl rfl
            refine lv_iconst (v := 1) S.1 S.2.1 dX11_sets_65 (by decide) ?_
            refine lv_goto (tgt := 70) S.1 S.2.1 dX11_sets_66 (by decide) ?_
            refine lv_istore (lv' := [(4, .int (1 : Int32)), (3, .int (u.1 7 (((68 : Int32) + p1)).toNatClampNeg)), (0, .ref (a 0)), (1, .int p1), (2, .int p2)]) S.1 S.2.1 dX11_sets_70 hl (by decide) rfl (fun ls hl => ?_)
            refine lv_iload S.1 S.2.1 dX11_sets_72 (lv_at hl 0 rfl) ?_
            refine lv_if_eq (tgt := 80) S.1 S.2.1 dX11_sets_74 (by decide) (fun c_27 => ?_) (fun c_27 => ?_)
            · exact absurd c_27 (by decide)
            · refine lv_bipush (v := -2) S.1 S.2.1 dX11_sets_77 (by decide) ?_
              exact xri S hr hlk hw hV dX11_sets_79
          · replace hV := hV.trans (if_neg c_26)
            have gc_26 : ¬ ((u.1 7 (((68 : Int32) + p1)).toNatClampNeg)).toInt = (p2).toInt := xq_ne c_26 rfl rfl
            refine lv_aload_n S.1 S.2.1 dX11_sets_56 rfl (lv_at hl 1 rfl) ?_
            refine lv_iload_n S.1 S.2.1 dX11_sets_57 rfl (lv_at hl 2 rfl) ?_
            refine lv_iload_n S.1 S.2.1 dX11_sets_58 rfl (lv_at hl 3 rfl) ?_
            refine xci (rest := []) S hK hE hA hw yfX11_may (c_m_may l D a Y ts _ p1 p2 (show (0 ≤ ((u.1 0 0)).toInt ∧ ((u.1 0 0)).toInt ≤ 8) from by omega) (show (0 ≤ ((u.1 0 5)).toInt ∧ ((u.1 0 5)).toInt ≤ 6) from by omega) (show 0 ≤ (p1).toInt ∧ (p1).toInt < 6 from by omega) (show 0 ≤ (p2).toInt ∧ (p2).toInt < 8 from by omega)) 0 rfl rfl mlX11_153 rfl rfl hl.1 ⟨rfl, rfl, Nat.le_of_ble_eq_true rfl, Nat.le_of_ble_eq_true rfl, Nat.le_of_ble_eq_true rfl, Nat.zero_le _, Nat.zero_le _⟩ dX11_sets_59 (fun H locs hw => ?_)
            refine lv_if_ne (tgt := 69) S.1 S.2.1 dX11_sets_62 (by decide) (fun c_28 => ?_) (fun c_28 => ?_)
            · replace hV := hV.trans (if_neg c_28)
              have gc_28 : ¬ ((b2i (m_may u p1 p2))).toInt = 0 := xq_ne c_28 rfl rfl
              refine lv_iconst (v := 0) S.1 S.2.1 dX11_sets_69 (by decide) ?_
              refine lv_istore (lv' := [(4, .int (0 : Int32)), (3, .int (u.1 7 (((68 : Int32) + p1)).toNatClampNeg)), (0, .ref (a 0)), (1, .int p1), (2, .int p2)]) S.1 S.2.1 dX11_sets_70 hl (by decide) rfl (fun ls hl => ?_)
              refine lv_iload S.1 S.2.1 dX11_sets_72 (lv_at hl 0 rfl) ?_
              refine lv_if_eq (tgt := 80) S.1 S.2.1 dX11_sets_74 (by decide) (fun c_29 => ?_) (fun c_29 => ?_)
              · refine lv_aload_n S.1 S.2.1 dX11_sets_80 rfl (lv_at hl 2 rfl) ?_
                refine xcVv (rest := []) S hK hE hA hw yfX11_remembers (c_m_remembers l D a Y ts _ (show (0 ≤ ((u.1 7 74)).toInt ∧ ((u.1 7 74)).toInt ≤ 10) from by omega)) 0 rfl rfl mlX11_168 rfl rfl hl.1 ⟨rfl, rfl, Nat.le_of_ble_eq_true rfl, Nat.le_of_ble_eq_true rfl, Nat.le_of_ble_eq_true rfl, Nat.zero_le _, Nat.zero_le _⟩ dX11_sets_81 (fun H locs hw => ?_)
                refine lv_aload_n S.1 S.2.1 dX11_sets_84 rfl (lv_at hl 2 rfl) ?_
                refine xget (v := .ref (a 7)) S hK hw 0 rfl rfl inX11 8 (by decide) mfX11_28 rfl dX11_sets_85 ?_
                refine lv_bipush (v := 68) S.1 S.2.1 dX11_sets_88 (by decide) ?_
                refine lv_iload_n S.1 S.2.1 dX11_sets_90 rfl (lv_at hl 3 rfl) ?_
                refine lv_iadd S.1 S.2.1 dX11_sets_91 ?_
                refine lv_iload_n S.1 S.2.1 dX11_sets_92 rfl (lv_at hl 4 rfl) ?_
                refine lv_if_ge (tgt := 101) S.1 S.2.1 dX11_sets_93 (by decide) (fun c_31 => ?_) (fun c_31 => ?_)
                · replace hV := hV.trans (if_pos c_31)
                  have gc_31 : 0 ≤ (p2).toInt := xq_le c_31 rfl rfl
                  refine lv_iload_n S.1 S.2.1 dX11_sets_101 rfl (lv_at hl 4 rfl) ?_
                  refine xast S hK hw 7 0 rfl rfl (xvi (e_23 ()) (by omega) (by omega)) (sM_7 _ _ _ _) dX11_sets_102 (fun H locs hw => ?_)
                  refine lv_iload_n S.1 S.2.1 dX11_sets_103 rfl (lv_at hl 1 rfl) ?_
                  exact xri S hr hlk hw hV dX11_sets_104
                · replace hV := hV.trans (if_neg c_31)
                  have gc_31 : (p2).toInt < 0 := xq_nle c_31 rfl rfl
                  refine lv_bipush (v := -9) S.1 S.2.1 dX11_sets_96 (by decide) ?_
                  refine lv_goto (tgt := 102) S.1 S.2.1 dX11_sets_98 (by decide) ?_
                  refine xast S hK hw 7 0 rfl rfl (xvi (e_23 ()) (by omega) (by omega)) (sM_7 _ _ _ _) dX11_sets_102 (fun H locs hw => ?_)
                  refine lv_iload_n S.1 S.2.1 dX11_sets_103 rfl (lv_at hl 1 rfl) ?_
                  exact xri S hr hlk hw hV dX11_sets_104
              · exact absurd c_29 (by decide)
            · replace hV := hV.trans (if_pos c_28)
              have gc_28 : ((b2i (m_may u p1 p2))).toInt = 0 := xq_eq c_28 rfl rfl
              refine lv_iconst (v := 1) S.1 S.2.1 dX11_sets_65 (by decide) ?_
              refine lv_goto (tgt := 70) S.1 S.2.1 dX11_sets_66 (by decide) ?_
              refine lv_istore (lv' := [(4, .int (1 : Int32)), (3, .int (u.1 7 (((68 : Int32) + p1)).toNatClampNeg)), (0, .ref (a 0)), (1, .int p1), (2, .int p2)]) S.1 S.2.1 dX11_sets_70 hl (by decide) rfl (fun ls hl => ?_)
              refine lv_iload S.1 S.2.1 dX11_sets_72 (lv_at hl 0 rfl) ?_
              refine lv_if_eq (tgt := 80) S.1 S.2.1 dX11_sets_74 (by decide) (fun c_34 => ?_) (fun c_34 => ?_)
              · exact absurd c_34 (by decide)
              · refine lv_bipush (v := -2) S.1 S.2.1 dX11_sets_77 (by decide) ?_
                exact xri S hr hlk hw hV dX11_sets_79
        · replace hV := hV.trans (if_neg c_25)
          have gc_25 : (p2).toInt < 0 := xq_nle c_25 rfl rfl
          refine lv_iload_n S.1 S.2.1 dX11_sets_37 rfl (lv_at hl 0 rfl) ?_
          refine lv_bipush (v := -9) S.1 S.2.1 dX11_sets_38 (by decide) ?_
          refine lv_icmp_ne (tgt := 47) S.1 S.2.1 dX11_sets_40 (by decide) (fun c_35 => ?_) (fun c_35 => ?_)
          · replace hV := hV.trans (if_neg c_35)
            have gc_35 : ¬ ((u.1 7 (((68 : Int32) + p1)).toNatClampNeg)).toInt = (-9) := xq_ne c_35 rfl rfl
            refine lv_iconst (v := 0) S.1 S.2.1 dX11_sets_47 (by decide) ?_
            refine lv_goto (tgt := 70) S.1 S.2.1 dX11_sets_48 (by decide) ?_
            refine lv_istore (lv' := [(4, .int (0 : Int32)), (3, .int (u.1 7 (((68 : Int32) + p1)).toNatClampNeg)), (0, .ref (a 0)), (1, .int p1), (2, .int p2)]) S.1 S.2.1 dX11_sets_70 hl (by decide) rfl (fun ls hl => ?_)
            refine lv_iload S.1 S.2.1 dX11_sets_72 (lv_at hl 0 rfl) ?_
            refine lv_if_eq (tgt := 80) S.1 S.2.1 dX11_sets_74 (by decide) (fun c_36 => ?_) (fun c_36 => ?_)
            · refine lv_aload_n S.1 S.2.1 dX11_sets_80 rfl (lv_at hl 2 rfl) ?_
              refine xcVv (rest := []) S hK hE hA hw yfX11_remembers (c_m_remembers l D a Y ts _ (show (0 ≤ ((u.1 7 74)).toInt ∧ ((u.1 7 74)).toInt ≤ 10) from by omega)) 0 rfl rfl mlX11_168 rfl rfl hl.1 ⟨rfl, rfl, Nat.le_of_ble_eq_true rfl, Nat.le_of_ble_eq_true rfl, Nat.le_of_ble_eq_true rfl, Nat.zero_le _, Nat.zero_le _⟩ dX11_sets_81 (fun H locs hw => ?_)
              refine lv_aload_n S.1 S.2.1 dX11_sets_84 rfl (lv_at hl 2 rfl) ?_
              refine xget (v := .ref (a 7)) S hK hw 0 rfl rfl inX11 8 (by decide) mfX11_28 rfl dX11_sets_85 ?_
              refine lv_bipush (v := 68) S.1 S.2.1 dX11_sets_88 (by decide) ?_
              refine lv_iload_n S.1 S.2.1 dX11_sets_90 rfl (lv_at hl 3 rfl) ?_
              refine lv_iadd S.1 S.2.1 dX11_sets_91 ?_
              refine lv_iload_n S.1 S.2.1 dX11_sets_92 rfl (lv_at hl 4 rfl) ?_
              refine lv_if_ge (tgt := 101) S.1 S.2.1 dX11_sets_93 (by decide) (fun c_38 => ?_) (fun c_38 => ?_)
              · replace hV := hV.trans (if_pos c_38)
                have gc_38 : 0 ≤ (p2).toInt := xq_le c_38 rfl rfl
                refine lv_iload_n S.1 S.2.1 dX11_sets_101 rfl (lv_at hl 4 rfl) ?_
                refine xast S hK hw 7 0 rfl rfl (xvi (e_23 ()) (by omega) (by omega)) (sM_7 _ _ _ _) dX11_sets_102 (fun H locs hw => ?_)
                refine lv_iload_n S.1 S.2.1 dX11_sets_103 rfl (lv_at hl 1 rfl) ?_
                exact xri S hr hlk hw hV dX11_sets_104
              · replace hV := hV.trans (if_neg c_38)
                have gc_38 : (p2).toInt < 0 := xq_nle c_38 rfl rfl
                refine lv_bipush (v := -9) S.1 S.2.1 dX11_sets_96 (by decide) ?_
                refine lv_goto (tgt := 102) S.1 S.2.1 dX11_sets_98 (by decide) ?_
                refine xast S hK hw 7 0 rfl rfl (xvi (e_23 ()) (by omega) (by omega)) (sM_7 _ _ _ _) dX11_sets_102 (fun H locs hw => ?_)
                refine lv_iload_n S.1 S.2.1 dX11_sets_103 rfl (lv_at hl 1 rfl) ?_
                exact xri S hr hlk hw hV dX11_sets_104
            · exact absurd c_36 (by decide)
          · replace hV := hV.trans (if_pos c_35)
            have gc_35 : ((u.1 7 (((68 : Int32) + p1)).toNatClampNeg)).toInt = (-9) := xq_eq c_35 rfl rfl
            refine lv_iconst (v := 1) S.1 S.2.1 dX11_sets_43 (by decide) ?_
            refine lv_goto (tgt := 70) S.1 S.2.1 dX11_sets_44 (by decide) ?_
            refine lv_istore (lv' := [(4, .int (1 : Int32)), (3, .int (u.1 7 (((68 : Int32) + p1)).toNatClampNeg)), (0, .ref (a 0)), (1, .int p1), (2, .int p2)]) S.1 S.2.1 dX11_sets_70 hl (by decide) rfl (fun ls hl => ?_)
            refine lv_iload S.1 S.2.1 dX11_sets_72 (lv_at hl 0 rfl) ?_
            refine lv_if_eq (tgt := 80) S.1 S.2.1 dX11_sets_74 (by decide) (fun c_41 => ?_) (fun c_41 => ?_)
            · exact absurd c_41 (by decide)
            · refine lv_bipush (v := -2) S.1 S.2.1 dX11_sets_77 (by decide) ?_
              exact xri S hr hlk hw hV dX11_sets_79
      · replace hV := hV.trans (if_pos c_22)
        have gc_22 : ((b2i (m_isThing u p2))).toInt = 0 := xq_eq c_22 rfl rfl
        refine lv_iconst (v := -1) S.1 S.2.1 dX11_sets_21 (by decide) ?_
        exact xri S hr hlk hw hV dX11_sets_22
noncomputable def m_mends_b (u : xU) (p1 : Int32) : Int32 × xU :=
    (if (b2i (m_isCast u p1)) = (0 : Int32) then
    ((-1 : Int32), u)
    else
    let t_3 := (u.1 7 (((61 : Int32) + p1)).toNatClampNeg)
    (if t_3 = (0 : Int32) then
    ((-2 : Int32), u)
    else
    let r_5 := m_remembers u
    let w_6 := sp r_5 7 (upd (r_5.1 7) (((61 : Int32) + p1)).toNatClampNeg (0 : Int32))
    let w_7 := sp w_6 7 (upd (w_6.1 7) 67 ((w_6.1 7 67) &&& (((1 : Int32) <<< (p1 &&& 31)) ^^^ (-1 : Int32))))
    (t_3, w_7)))
theorem m_mends_x : ∃ f : xU → Int32 → Int32 × xU, f = m_mends_b := ⟨_, rfl⟩
noncomputable def m_mends : xU → Int32 → Int32 × xU := m_mends_x.choose
theorem m_mends_def : m_mends = m_mends_b := m_mends_x.choose_spec
set_option maxHeartbeats 4000000 in
set_option maxRecDepth 100000 in
theorem c_m_mends (l : Launch) (D : va_G) (a : Nat → Nat) (Y : Nat → ClassId) (ts : Nat → Nat) (u : xU) (p1 : Int32) (hT : (0 ≤ ((u.1 0 0)).toInt ∧ ((u.1 0 0)).toInt ≤ 8)) (hC : (0 ≤ ((u.1 0 5)).toInt ∧ ((u.1 0 5)).toInt ≤ 6)) (hU : (0 ≤ ((u.1 7 74)).toInt ∧ ((u.1 7 74)).toInt ≤ 10)) : xMi l yX11_mends cX11_mends 3 (some .int) (xRm 2 43) D (xty Y) (wM a Y) ts [.ref (a 0), .int p1] u ((m_mends u p1).1, (m_mends u p1).2) := by
  suffices h : ∀ V, V = m_mends_b u p1 → xMi l yX11_mends cX11_mends 3 (some .int) (xRm 2 43) D (xty Y) (wM a Y) ts [.ref (a 0), .int p1] u (V.1, V.2) from h _ (by rw [m_mends_def])
  intro V hV
  refine xofi RX11 rfl (by decide) (Nat.le_of_ble_eq_true rfl) ?_
  intro p e s m args below meth c ls H locs A S hr hlk hl hK hE hA hw
  have hl : lv_has ls 3 [(0, .ref (a 0)), (1, .int p1)] := hl
  refine lv_aload_n S.1 S.2.1 dX11_mends_0 rfl (lv_at hl 0 rfl) ?_
  refine lv_iload_n S.1 S.2.1 dX11_mends_1 rfl (lv_at hl 1 rfl) ?_
  refine xci (rest := []) S hK hE hA hw yfX11_isCast (c_m_isCast l D a Y ts _ p1 (show (0 ≤ ((u.1 0 0)).toInt ∧ ((u.1 0 0)).toInt ≤ 8) from by omega) (show (0 ≤ ((u.1 0 5)).toInt ∧ ((u.1 0 5)).toInt ≤ 6) from by omega)) 0 rfl rfl mlX11_162 rfl rfl hl.1 ⟨rfl, rfl, Nat.le_of_ble_eq_true rfl, Nat.le_of_ble_eq_true rfl, Nat.le_of_ble_eq_true rfl, Nat.zero_le _, Nat.zero_le _⟩ dX11_mends_2 (fun H locs hw => ?_)
  refine lv_if_ne (tgt := 10) S.1 S.2.1 dX11_mends_5 (by decide) (fun c_1 => ?_) (fun c_1 => ?_)
  · replace hV := hV.trans (if_neg c_1)
    have gc_1 : ¬ ((b2i (m_isCast u p1))).toInt = 0 := xq_ne c_1 rfl rfl
    have fc_1 := hk_mCast hC c_1
    refine lv_aload_n S.1 S.2.1 dX11_mends_10 rfl (lv_at hl 0 rfl) ?_
    refine xget (v := .ref (a 7)) S hK hw 0 rfl rfl inX11 8 (by decide) mfX11_28 rfl dX11_mends_11 ?_
    refine lv_bipush (v := 61) S.1 S.2.1 dX11_mends_14 (by decide) ?_
    refine lv_iload_n S.1 S.2.1 dX11_mends_16 rfl (lv_at hl 1 rfl) ?_
    refine lv_iadd S.1 S.2.1 dX11_mends_17 ?_
    have e_2 : ∀ _ : Unit, (((61 : Int32) + p1)).toInt = 61 + (p1).toInt := fun _ => xadd rfl rfl (by omega) (by omega)
    refine xald (f := u.1 7) S hK hw 7 0 rfl rfl (xvi (e_2 ()) (by omega) (by omega)) dX11_mends_18 ?_
    refine lv_istore_n (lv' := [(2, .int (u.1 7 (((61 : Int32) + p1)).toNatClampNeg)), (0, .ref (a 0)), (1, .int p1)]) S.1 S.2.1 dX11_mends_19 rfl hl (by decide) rfl (fun ls hl => ?_)
    refine lv_iload_n S.1 S.2.1 dX11_mends_20 rfl (lv_at hl 0 rfl) ?_
    refine lv_if_ne (tgt := 27) S.1 S.2.1 dX11_mends_21 (by decide) (fun c_4 => ?_) (fun c_4 => ?_)
    · replace hV := hV.trans (if_neg c_4)
      have gc_4 : ¬ ((u.1 7 (((61 : Int32) + p1)).toNatClampNeg)).toInt = 0 := xq_ne c_4 rfl rfl
      refine lv_aload_n S.1 S.2.1 dX11_mends_27 rfl (lv_at hl 1 rfl) ?_
      refine xcVv (rest := []) S hK hE hA hw yfX11_remembers (c_m_remembers l D a Y ts _ (show (0 ≤ ((u.1 7 74)).toInt ∧ ((u.1 7 74)).toInt ≤ 10) from by omega)) 0 rfl rfl mlX11_168 rfl rfl hl.1 ⟨rfl, rfl, Nat.le_of_ble_eq_true rfl, Nat.le_of_ble_eq_true rfl, Nat.le_of_ble_eq_true rfl, Nat.zero_le _, Nat.zero_le _⟩ dX11_mends_28 (fun H locs hw => ?_)
      refine lv_aload_n S.1 S.2.1 dX11_mends_31 rfl (lv_at hl 1 rfl) ?_
      refine xget (v := .ref (a 7)) S hK hw 0 rfl rfl inX11 8 (by decide) mfX11_28 rfl dX11_mends_32 ?_
      refine lv_bipush (v := 61) S.1 S.2.1 dX11_mends_35 (by decide) ?_
      refine lv_iload_n S.1 S.2.1 dX11_mends_37 rfl (lv_at hl 2 rfl) ?_
      refine lv_iadd S.1 S.2.1 dX11_mends_38 ?_
      refine lv_iconst (v := 0) S.1 S.2.1 dX11_mends_39 (by decide) ?_
      refine xast S hK hw 7 0 rfl rfl (xvi (e_2 ()) (by omega) (by omega)) (sM_7 _ _ _ _) dX11_mends_40 (fun H locs hw => ?_)
      refine lv_aload_n S.1 S.2.1 dX11_mends_41 rfl (lv_at hl 1 rfl) ?_
      refine xget (v := .ref (a 7)) S hK hw 0 rfl rfl inX11 8 (by decide) mfX11_28 rfl dX11_mends_42 ?_
      refine lv_bipush (v := 67) S.1 S.2.1 dX11_mends_45 (by decide) ?_
      refine lv_dup2_11 S.1 S.2.1 dX11_mends_47 rfl rfl ?_
      refine xaldc (f := (upd ((m_remembers u).1 7) (((61 : Int32) + p1)).toNatClampNeg (0 : Int32))) (x := ((upd ((m_remembers u).1 7) (((61 : Int32) + p1)).toNatClampNeg (0 : Int32)) 67)) (k := 67) S hK hw 7 0 rfl rfl (by decide) rfl (xvi (a := 67) rfl (by decide) (by decide)) dX11_mends_48 ?_
      refine lv_iconst (v := 1) S.1 S.2.1 dX11_mends_49 (by decide) ?_
      refine lv_iload_n S.1 S.2.1 dX11_mends_50 rfl (lv_at hl 2 rfl) ?_
      refine lv_ishl S.1 S.2.1 dX11_mends_51 ?_
      refine lv_iconst (v := -1) S.1 S.2.1 dX11_mends_52 (by decide) ?_
      refine lv_ixor S.1 S.2.1 dX11_mends_53 ?_
      refine lv_iand S.1 S.2.1 dX11_mends_54 ?_
      refine xastc (k := 67) S hK hw 7 0 rfl rfl (by decide) (xvi (a := 67) rfl (by decide) (by decide)) (sM_7 _ _ _ _) dX11_mends_55 (fun H locs hw => ?_)
      refine lv_iload_n S.1 S.2.1 dX11_mends_56 rfl (lv_at hl 0 rfl) ?_
      exact xri S hr hlk hw hV dX11_mends_57
    · replace hV := hV.trans (if_pos c_4)
      have gc_4 : ((u.1 7 (((61 : Int32) + p1)).toNatClampNeg)).toInt = 0 := xq_eq c_4 rfl rfl
      refine lv_bipush (v := -2) S.1 S.2.1 dX11_mends_24 (by decide) ?_
      exact xri S hr hlk hw hV dX11_mends_26
  · replace hV := hV.trans (if_pos c_1)
    have gc_1 : ((b2i (m_isCast u p1))).toInt = 0 := xq_eq c_1 rfl rfl
    refine lv_iconst (v := -1) S.1 S.2.1 dX11_mends_8 (by decide) ?_
    exact xri S hr hlk hw hV dX11_mends_9
noncomputable def m_joins_b (u : xU) (p1 : Int32) (p2 : Int32) (p3 : Int32) : Int32 × xU :=
    (if (b2i (m_isCast u p1)) = (0 : Int32) then
    ((-1 : Int32), u)
    else
    (if (b2i (m_isCast u p2)) = (0 : Int32) then
    ((-1 : Int32), u)
    else
    (if p1 = p2 then
    ((-1 : Int32), u)
    else
    (if (b2i (m_in p3 (0 : Int32) (5 : Int32))) = (0 : Int32) then
    ((-1 : Int32), u)
    else
    (if (b2i (m_has (u.1 7 (((55 : Int32) + p1)).toNatClampNeg) p3)) = (0 : Int32) then
    (if (b2i (m_has (u.1 7 (((55 : Int32) + p2)).toNatClampNeg) p3)) = (0 : Int32) then
    ((-2 : Int32), u)
    else
    let r_9 := m_remembers u
    let w_10 := sp r_9 7 (upd (r_9.1 7) (((55 : Int32) + p1)).toNatClampNeg ((r_9.1 7 (((55 : Int32) + p1)).toNatClampNeg) ||| ((1 : Int32) <<< (p3 &&& 31))))
    let w_11 := sp w_10 7 (upd (w_10.1 7) (((55 : Int32) + p2)).toNatClampNeg ((w_10.1 7 (((55 : Int32) + p2)).toNatClampNeg) &&& (((1 : Int32) <<< (p3 &&& 31)) ^^^ (-1 : Int32))))
    let t_13 := (w_11.1 7 (((68 : Int32) + p1)).toNatClampNeg)
    (if t_13 = (-9 : Int32) then
    let w_15 := sp w_11 7 (upd (w_11.1 7) (((68 : Int32) + p1)).toNatClampNeg t_13)
    ((w_15.1 7 (((55 : Int32) + p2)).toNatClampNeg), w_15)
    else
    (if (r_9.1 3 (t_13).toNatClampNeg) = p3 then
    let w_18 := sp w_11 7 (upd (w_11.1 7) (((68 : Int32) + p1)).toNatClampNeg (-9 : Int32))
    ((w_18.1 7 (((55 : Int32) + p2)).toNatClampNeg), w_18)
    else
    let w_17 := sp w_11 7 (upd (w_11.1 7) (((68 : Int32) + p1)).toNatClampNeg t_13)
    ((w_17.1 7 (((55 : Int32) + p2)).toNatClampNeg), w_17))))
    else
    ((-2 : Int32), u))))))
theorem m_joins_x : ∃ f : xU → Int32 → Int32 → Int32 → Int32 × xU, f = m_joins_b := ⟨_, rfl⟩
noncomputable def m_joins : xU → Int32 → Int32 → Int32 → Int32 × xU := m_joins_x.choose
theorem m_joins_def : m_joins = m_joins_b := m_joins_x.choose_spec
set_option maxHeartbeats 4000000 in
set_option maxRecDepth 100000 in
theorem c_m_joins (l : Launch) (D : va_G) (a : Nat → Nat) (Y : Nat → ClassId) (ts : Nat → Nat) (u : xU) (p1 : Int32) (p2 : Int32) (p3 : Int32) (hT : (0 ≤ ((u.1 0 0)).toInt ∧ ((u.1 0 0)).toInt ≤ 8)) (hC : (0 ≤ ((u.1 0 5)).toInt ∧ ((u.1 0 5)).toInt ≤ 6)) (hU : (0 ≤ ((u.1 7 74)).toInt ∧ ((u.1 7 74)).toInt ≤ 10)) (hr0 : mK (u.1 7)) : xMi l yX11_joins cX11_joins 5 (some .int) (xRm 2 43) D (xty Y) (wM a Y) ts [.ref (a 0), .int p1, .int p2, .int p3] u ((m_joins u p1 p2 p3).1, (m_joins u p1 p2 p3).2) := by
  suffices h : ∀ V, V = m_joins_b u p1 p2 p3 → xMi l yX11_joins cX11_joins 5 (some .int) (xRm 2 43) D (xty Y) (wM a Y) ts [.ref (a 0), .int p1, .int p2, .int p3] u (V.1, V.2) from h _ (by rw [m_joins_def])
  intro V hV
  refine xofi RX11 rfl (by decide) (Nat.le_of_ble_eq_true rfl) ?_
  intro p e s m args below meth c ls H locs A S hr hlk hl hK hE hA hw
  have hl : lv_has ls 5 [(0, .ref (a 0)), (1, .int p1), (2, .int p2), (3, .int p3)] := hl
  refine lv_aload_n S.1 S.2.1 dX11_joins_0 rfl (lv_at hl 0 rfl) ?_
  refine lv_iload_n S.1 S.2.1 dX11_joins_1 rfl (lv_at hl 1 rfl) ?_
  refine xci (rest := []) S hK hE hA hw yfX11_isCast (c_m_isCast l D a Y ts _ p1 (show (0 ≤ ((u.1 0 0)).toInt ∧ ((u.1 0 0)).toInt ≤ 8) from by omega) (show (0 ≤ ((u.1 0 5)).toInt ∧ ((u.1 0 5)).toInt ≤ 6) from by omega)) 0 rfl rfl mlX11_162 rfl rfl hl.1 ⟨rfl, rfl, Nat.le_of_ble_eq_true rfl, Nat.le_of_ble_eq_true rfl, Nat.le_of_ble_eq_true rfl, Nat.zero_le _, Nat.zero_le _⟩ dX11_joins_2 (fun H locs hw => ?_)
  refine lv_if_eq (tgt := 30) S.1 S.2.1 dX11_joins_5 (by decide) (fun c_1 => ?_) (fun c_1 => ?_)
  · replace hV := hV.trans (if_pos c_1)
    have gc_1 : ((b2i (m_isCast u p1))).toInt = 0 := xq_eq c_1 rfl rfl
    refine lv_iconst (v := -1) S.1 S.2.1 dX11_joins_30 (by decide) ?_
    exact xri S hr hlk hw hV dX11_joins_31
  · replace hV := hV.trans (if_neg c_1)
    have gc_1 : ¬ ((b2i (m_isCast u p1))).toInt = 0 := xq_ne c_1 rfl rfl
    have fc_1 := hk_mCast hC c_1
    refine lv_aload_n S.1 S.2.1 dX11_joins_8 rfl (lv_at hl 0 rfl) ?_
    refine lv_iload_n S.1 S.2.1 dX11_joins_9 rfl (lv_at hl 2 rfl) ?_
    refine xci (rest := []) S hK hE hA hw yfX11_isCast (c_m_isCast l D a Y ts _ p2 (show (0 ≤ ((u.1 0 0)).toInt ∧ ((u.1 0 0)).toInt ≤ 8) from by omega) (show (0 ≤ ((u.1 0 5)).toInt ∧ ((u.1 0 5)).toInt ≤ 6) from by omega)) 0 rfl rfl mlX11_162 rfl rfl hl.1 ⟨rfl, rfl, Nat.le_of_ble_eq_true rfl, Nat.le_of_ble_eq_true rfl, Nat.le_of_ble_eq_true rfl, Nat.zero_le _, Nat.zero_le _⟩ dX11_joins_10 (fun H locs hw => ?_)
    refine lv_if_eq (tgt := 30) S.1 S.2.1 dX11_joins_13 (by decide) (fun c_2 => ?_) (fun c_2 => ?_)
    · replace hV := hV.trans (if_pos c_2)
      have gc_2 : ((b2i (m_isCast u p2))).toInt = 0 := xq_eq c_2 rfl rfl
      refine lv_iconst (v := -1) S.1 S.2.1 dX11_joins_30 (by decide) ?_
      exact xri S hr hlk hw hV dX11_joins_31
    · replace hV := hV.trans (if_neg c_2)
      have gc_2 : ¬ ((b2i (m_isCast u p2))).toInt = 0 := xq_ne c_2 rfl rfl
      have fc_2 := hk_mCast hC c_2
      refine lv_iload_n S.1 S.2.1 dX11_joins_16 rfl (lv_at hl 1 rfl) ?_
      refine lv_iload_n S.1 S.2.1 dX11_joins_17 rfl (lv_at hl 2 rfl) ?_
      refine lv_icmp_eq (tgt := 30) S.1 S.2.1 dX11_joins_18 (by decide) (fun c_3 => ?_) (fun c_3 => ?_)
      · replace hV := hV.trans (if_pos c_3)
        have gc_3 : (p1).toInt = (p2).toInt := xq_eq c_3 rfl rfl
        refine lv_iconst (v := -1) S.1 S.2.1 dX11_joins_30 (by decide) ?_
        exact xri S hr hlk hw hV dX11_joins_31
      · replace hV := hV.trans (if_neg c_3)
        have gc_3 : ¬ (p1).toInt = (p2).toInt := xq_ne c_3 rfl rfl
        refine lv_iload_n S.1 S.2.1 dX11_joins_21 rfl (lv_at hl 3 rfl) ?_
        refine lv_iconst (v := 0) S.1 S.2.1 dX11_joins_22 (by decide) ?_
        refine lv_iconst (v := 5) S.1 S.2.1 dX11_joins_23 (by decide) ?_
        refine xcP (rest := []) S hw yfX11_in (c_m_in l p3 (0 : Int32) (5 : Int32)) mlX11_72 rfl rfl hl.1 ⟨rfl, rfl, Nat.le_of_ble_eq_true rfl, Nat.le_of_ble_eq_true rfl, Nat.le_of_ble_eq_true rfl, Nat.zero_le _, Nat.zero_le _⟩ dX11_joins_24 (fun H locs hw => ?_)
        refine lv_if_ne (tgt := 32) S.1 S.2.1 dX11_joins_27 (by decide) (fun c_4 => ?_) (fun c_4 => ?_)
        · replace hV := hV.trans (if_neg c_4)
          have gc_4 : ¬ ((b2i (m_in p3 (0 : Int32) (5 : Int32)))).toInt = 0 := xq_ne c_4 rfl rfl
          have fc_4 : 0 ≤ (p3).toInt ∧ (p3).toInt ≤ 5 := hk_in' c_4 rfl rfl rfl
          refine lv_aload_n S.1 S.2.1 dX11_joins_32 rfl (lv_at hl 0 rfl) ?_
          refine xget (v := .ref (a 7)) S hK hw 0 rfl rfl inX11 8 (by decide) mfX11_28 rfl dX11_joins_33 ?_
          refine lv_bipush (v := 55) S.1 S.2.1 dX11_joins_36 (by decide) ?_
          refine lv_iload_n S.1 S.2.1 dX11_joins_38 rfl (lv_at hl 1 rfl) ?_
          refine lv_iadd S.1 S.2.1 dX11_joins_39 ?_
          have e_5 : ∀ _ : Unit, (((55 : Int32) + p1)).toInt = 55 + (p1).toInt := fun _ => xadd rfl rfl (by omega) (by omega)
          refine xald (f := u.1 7) S hK hw 7 0 rfl rfl (xvi (e_5 ()) (by omega) (by omega)) dX11_joins_40 ?_
          refine lv_iload_n S.1 S.2.1 dX11_joins_41 rfl (lv_at hl 3 rfl) ?_
          refine xcP (rest := []) S hw yfX11_has (c_m_has l (u.1 7 (((55 : Int32) + p1)).toNatClampNeg) p3) mlX11_140 rfl rfl hl.1 ⟨rfl, rfl, Nat.le_of_ble_eq_true rfl, Nat.le_of_ble_eq_true rfl, Nat.le_of_ble_eq_true rfl, Nat.zero_le _, Nat.zero_le _⟩ dX11_joins_42 (fun H locs hw => ?_)
          refine lv_if_ne (tgt := 64) S.1 S.2.1 dX11_joins_45 (by decide) (fun c_6 => ?_) (fun c_6 => ?_)
          · replace hV := hV.trans (if_neg c_6)
            have gc_6 : ¬ ((b2i (m_has (u.1 7 (((55 : Int32) + p1)).toNatClampNeg) p3))).toInt = 0 := xq_ne c_6 rfl rfl
            refine lv_bipush (v := -2) S.1 S.2.1 dX11_joins_64 (by decide) ?_
            exact xri S hr hlk hw hV dX11_joins_66
          · replace hV := hV.trans (if_pos c_6)
            have gc_6 : ((b2i (m_has (u.1 7 (((55 : Int32) + p1)).toNatClampNeg) p3))).toInt = 0 := xq_eq c_6 rfl rfl
            refine lv_aload_n S.1 S.2.1 dX11_joins_48 rfl (lv_at hl 0 rfl) ?_
            refine xget (v := .ref (a 7)) S hK hw 0 rfl rfl inX11 8 (by decide) mfX11_28 rfl dX11_joins_49 ?_
            refine lv_bipush (v := 55) S.1 S.2.1 dX11_joins_52 (by decide) ?_
            refine lv_iload_n S.1 S.2.1 dX11_joins_54 rfl (lv_at hl 2 rfl) ?_
            refine lv_iadd S.1 S.2.1 dX11_joins_55 ?_
            have e_7 : ∀ _ : Unit, (((55 : Int32) + p2)).toInt = 55 + (p2).toInt := fun _ => xadd rfl rfl (by omega) (by omega)
            refine xald (f := u.1 7) S hK hw 7 0 rfl rfl (xvi (e_7 ()) (by omega) (by omega)) dX11_joins_56 ?_
            refine lv_iload_n S.1 S.2.1 dX11_joins_57 rfl (lv_at hl 3 rfl) ?_
            refine xcP (rest := []) S hw yfX11_has (c_m_has l (u.1 7 (((55 : Int32) + p2)).toNatClampNeg) p3) mlX11_140 rfl rfl hl.1 ⟨rfl, rfl, Nat.le_of_ble_eq_true rfl, Nat.le_of_ble_eq_true rfl, Nat.le_of_ble_eq_true rfl, Nat.zero_le _, Nat.zero_le _⟩ dX11_joins_58 (fun H locs hw => ?_)
            refine lv_if_ne (tgt := 67) S.1 S.2.1 dX11_joins_61 (by decide) (fun c_8 => ?_) (fun c_8 => ?_)
            · replace hV := hV.trans (if_neg c_8)
              have gc_8 : ¬ ((b2i (m_has (u.1 7 (((55 : Int32) + p2)).toNatClampNeg) p3))).toInt = 0 := xq_ne c_8 rfl rfl
              refine lv_aload_n S.1 S.2.1 dX11_joins_67 rfl (lv_at hl 0 rfl) ?_
              refine xcVv (rest := []) S hK hE hA hw yfX11_remembers (c_m_remembers l D a Y ts _ (show (0 ≤ ((u.1 7 74)).toInt ∧ ((u.1 7 74)).toInt ≤ 10) from by omega)) 0 rfl rfl mlX11_168 rfl rfl hl.1 ⟨rfl, rfl, Nat.le_of_ble_eq_true rfl, Nat.le_of_ble_eq_true rfl, Nat.le_of_ble_eq_true rfl, Nat.zero_le _, Nat.zero_le _⟩ dX11_joins_68 (fun H locs hw => ?_)
              refine lv_aload_n S.1 S.2.1 dX11_joins_71 rfl (lv_at hl 0 rfl) ?_
              refine xget (v := .ref (a 7)) S hK hw 0 rfl rfl inX11 8 (by decide) mfX11_28 rfl dX11_joins_72 ?_
              refine lv_bipush (v := 55) S.1 S.2.1 dX11_joins_75 (by decide) ?_
              refine lv_iload_n S.1 S.2.1 dX11_joins_77 rfl (lv_at hl 1 rfl) ?_
              refine lv_iadd S.1 S.2.1 dX11_joins_78 ?_
              refine lv_dup2_11 S.1 S.2.1 dX11_joins_79 rfl rfl ?_
              refine xald (f := (m_remembers u).1 7) S hK hw 7 0 rfl rfl (xvi (e_5 ()) (by omega) (by omega)) dX11_joins_80 ?_
              refine lv_iconst (v := 1) S.1 S.2.1 dX11_joins_81 (by decide) ?_
              refine lv_iload_n S.1 S.2.1 dX11_joins_82 rfl (lv_at hl 3 rfl) ?_
              refine lv_ishl S.1 S.2.1 dX11_joins_83 ?_
              refine lv_ior S.1 S.2.1 dX11_joins_84 ?_
              refine xast S hK hw 7 0 rfl rfl (xvi (e_5 ()) (by omega) (by omega)) (sM_7 _ _ _ _) dX11_joins_85 (fun H locs hw => ?_)
              refine lv_aload_n S.1 S.2.1 dX11_joins_86 rfl (lv_at hl 0 rfl) ?_
              refine xget (v := .ref (a 7)) S hK hw 0 rfl rfl inX11 8 (by decide) mfX11_28 rfl dX11_joins_87 ?_
              refine lv_bipush (v := 55) S.1 S.2.1 dX11_joins_90 (by decide) ?_
              refine lv_iload_n S.1 S.2.1 dX11_joins_92 rfl (lv_at hl 2 rfl) ?_
              refine lv_iadd S.1 S.2.1 dX11_joins_93 ?_
              refine lv_dup2_11 S.1 S.2.1 dX11_joins_94 rfl rfl ?_
              refine xald (f := (upd ((m_remembers u).1 7) (((55 : Int32) + p1)).toNatClampNeg (((m_remembers u).1 7 (((55 : Int32) + p1)).toNatClampNeg) ||| ((1 : Int32) <<< (p3 &&& 31))))) S hK hw 7 0 rfl rfl (xvi (e_7 ()) (by omega) (by omega)) dX11_joins_95 ?_
              refine lv_iconst (v := 1) S.1 S.2.1 dX11_joins_96 (by decide) ?_
              refine lv_iload_n S.1 S.2.1 dX11_joins_97 rfl (lv_at hl 3 rfl) ?_
              refine lv_ishl S.1 S.2.1 dX11_joins_98 ?_
              refine lv_iconst (v := -1) S.1 S.2.1 dX11_joins_99 (by decide) ?_
              refine lv_ixor S.1 S.2.1 dX11_joins_100 ?_
              refine lv_iand S.1 S.2.1 dX11_joins_101 ?_
              refine xast S hK hw 7 0 rfl rfl (xvi (e_7 ()) (by omega) (by omega)) (sM_7 _ _ _ _) dX11_joins_102 (fun H locs hw => ?_)
              refine lv_aload_n S.1 S.2.1 dX11_joins_103 rfl (lv_at hl 0 rfl) ?_
              refine xget (v := .ref (a 7)) S hK hw 0 rfl rfl inX11 8 (by decide) mfX11_28 rfl dX11_joins_104 ?_
              refine lv_bipush (v := 68) S.1 S.2.1 dX11_joins_107 (by decide) ?_
              refine lv_iload_n S.1 S.2.1 dX11_joins_109 rfl (lv_at hl 1 rfl) ?_
              refine lv_iadd S.1 S.2.1 dX11_joins_110 ?_
              have e_12 : ∀ _ : Unit, (((68 : Int32) + p1)).toInt = 68 + (p1).toInt := fun _ => xadd rfl rfl (by omega) (by omega)
              refine xald (f := (upd ((upd ((m_remembers u).1 7) (((55 : Int32) + p1)).toNatClampNeg (((m_remembers u).1 7 (((55 : Int32) + p1)).toNatClampNeg) ||| ((1 : Int32) <<< (p3 &&& 31))))) (((55 : Int32) + p2)).toNatClampNeg (((upd ((m_remembers u).1 7) (((55 : Int32) + p1)).toNatClampNeg (((m_remembers u).1 7 (((55 : Int32) + p1)).toNatClampNeg) ||| ((1 : Int32) <<< (p3 &&& 31)))) (((55 : Int32) + p2)).toNatClampNeg) &&& (((1 : Int32) <<< (p3 &&& 31)) ^^^ (-1 : Int32))))) S hK hw 7 0 rfl rfl (xvi (e_12 ()) (by omega) (by omega)) dX11_joins_111 ?_
              refine lv_istore (lv' := [(4, .int ((upd ((upd ((m_remembers u).1 7) (((55 : Int32) + p1)).toNatClampNeg (((m_remembers u).1 7 (((55 : Int32) + p1)).toNatClampNeg) ||| ((1 : Int32) <<< (p3 &&& 31))))) (((55 : Int32) + p2)).toNatClampNeg (((upd ((m_remembers u).1 7) (((55 : Int32) + p1)).toNatClampNeg (((m_remembers u).1 7 (((55 : Int32) + p1)).toNatClampNeg) ||| ((1 : Int32) <<< (p3 &&& 31)))) (((55 : Int32) + p2)).toNatClampNeg) &&& (((1 : Int32) <<< (p3 &&& 31)) ^^^ (-1 : Int32)))) (((68 : Int32) + p1)).toNatClampNeg)), (0, .ref (a 0)), (1, .int p1), (2, .int p2), (3, .int p3)]) S.1 S.2.1 dX11_joins_112 hl (by decide) rfl (fun ls hl => ?_)
              refine lv_aload_n S.1 S.2.1 dX11_joins_114 rfl (lv_at hl 1 rfl) ?_
              refine xget (v := .ref (a 7)) S hK hw 0 rfl rfl inX11 8 (by decide) mfX11_28 rfl dX11_joins_115 ?_
              refine lv_bipush (v := 68) S.1 S.2.1 dX11_joins_118 (by decide) ?_
              refine lv_iload_n S.1 S.2.1 dX11_joins_120 rfl (lv_at hl 2 rfl) ?_
              refine lv_iadd S.1 S.2.1 dX11_joins_121 ?_
              refine lv_iload S.1 S.2.1 dX11_joins_122 (lv_at hl 0 rfl) ?_
              refine lv_bipush (v := -9) S.1 S.2.1 dX11_joins_124 (by decide) ?_
              refine lv_icmp_eq (tgt := 145) S.1 S.2.1 dX11_joins_126 (by decide) (fun c_14 => ?_) (fun c_14 => ?_)
              · replace hV := hV.trans (if_pos c_14)
                have gc_14 : (((upd ((upd ((m_remembers u).1 7) (((55 : Int32) + p1)).toNatClampNeg (((m_remembers u).1 7 (((55 : Int32) + p1)).toNatClampNeg) ||| ((1 : Int32) <<< (p3 &&& 31))))) (((55 : Int32) + p2)).toNatClampNeg (((upd ((m_remembers u).1 7) (((55 : Int32) + p1)).toNatClampNeg (((m_remembers u).1 7 (((55 : Int32) + p1)).toNatClampNeg) ||| ((1 : Int32) <<< (p3 &&& 31)))) (((55 : Int32) + p2)).toNatClampNeg) &&& (((1 : Int32) <<< (p3 &&& 31)) ^^^ (-1 : Int32)))) (((68 : Int32) + p1)).toNatClampNeg)).toInt = (-9) := xq_eq c_14 rfl rfl
                refine lv_iload S.1 S.2.1 dX11_joins_145 (lv_at hl 0 rfl) ?_
                refine xast S hK hw 7 0 rfl rfl (xvi (e_12 ()) (by omega) (by omega)) (sM_7 _ _ _ _) dX11_joins_147 (fun H locs hw => ?_)
                refine lv_aload_n S.1 S.2.1 dX11_joins_148 rfl (lv_at hl 1 rfl) ?_
                refine xget (v := .ref (a 7)) S hK hw 0 rfl rfl inX11 8 (by decide) mfX11_28 rfl dX11_joins_149 ?_
                refine lv_bipush (v := 55) S.1 S.2.1 dX11_joins_152 (by decide) ?_
                refine lv_iload_n S.1 S.2.1 dX11_joins_154 rfl (lv_at hl 3 rfl) ?_
                refine lv_iadd S.1 S.2.1 dX11_joins_155 ?_
                refine xald (f := (upd ((upd ((upd ((m_remembers u).1 7) (((55 : Int32) + p1)).toNatClampNeg (((m_remembers u).1 7 (((55 : Int32) + p1)).toNatClampNeg) ||| ((1 : Int32) <<< (p3 &&& 31))))) (((55 : Int32) + p2)).toNatClampNeg (((upd ((m_remembers u).1 7) (((55 : Int32) + p1)).toNatClampNeg (((m_remembers u).1 7 (((55 : Int32) + p1)).toNatClampNeg) ||| ((1 : Int32) <<< (p3 &&& 31)))) (((55 : Int32) + p2)).toNatClampNeg) &&& (((1 : Int32) <<< (p3 &&& 31)) ^^^ (-1 : Int32))))) (((68 : Int32) + p1)).toNatClampNeg ((upd ((upd ((m_remembers u).1 7) (((55 : Int32) + p1)).toNatClampNeg (((m_remembers u).1 7 (((55 : Int32) + p1)).toNatClampNeg) ||| ((1 : Int32) <<< (p3 &&& 31))))) (((55 : Int32) + p2)).toNatClampNeg (((upd ((m_remembers u).1 7) (((55 : Int32) + p1)).toNatClampNeg (((m_remembers u).1 7 (((55 : Int32) + p1)).toNatClampNeg) ||| ((1 : Int32) <<< (p3 &&& 31)))) (((55 : Int32) + p2)).toNatClampNeg) &&& (((1 : Int32) <<< (p3 &&& 31)) ^^^ (-1 : Int32)))) (((68 : Int32) + p1)).toNatClampNeg))) S hK hw 7 0 rfl rfl (xvi (e_7 ()) (by omega) (by omega)) dX11_joins_156 ?_
                exact xri S hr hlk hw hV dX11_joins_157
              · replace hV := hV.trans (if_neg c_14)
                have gc_14 : ¬ (((upd ((upd ((m_remembers u).1 7) (((55 : Int32) + p1)).toNatClampNeg (((m_remembers u).1 7 (((55 : Int32) + p1)).toNatClampNeg) ||| ((1 : Int32) <<< (p3 &&& 31))))) (((55 : Int32) + p2)).toNatClampNeg (((upd ((m_remembers u).1 7) (((55 : Int32) + p1)).toNatClampNeg (((m_remembers u).1 7 (((55 : Int32) + p1)).toNatClampNeg) ||| ((1 : Int32) <<< (p3 &&& 31)))) (((55 : Int32) + p2)).toNatClampNeg) &&& (((1 : Int32) <<< (p3 &&& 31)) ^^^ (-1 : Int32)))) (((68 : Int32) + p1)).toNatClampNeg)).toInt = (-9) := xq_ne c_14 rfl rfl
                have hjo := mK_at (f := (upd ((upd ((m_remembers u).1 7) (((55 : Int32) + p1)).toNatClampNeg (((m_remembers u).1 7 (((55 : Int32) + p1)).toNatClampNeg) ||| ((1 : Int32) <<< (p3 &&& 31))))) (((55 : Int32) + p2)).toNatClampNeg (((upd ((m_remembers u).1 7) (((55 : Int32) + p1)).toNatClampNeg (((m_remembers u).1 7 (((55 : Int32) + p1)).toNatClampNeg) ||| ((1 : Int32) <<< (p3 &&& 31)))) (((55 : Int32) + p2)).toNatClampNeg) &&& (((1 : Int32) <<< (p3 &&& 31)) ^^^ (-1 : Int32))))) (c := p1) (mK_out (mK_out (mK_rem hU hr0) (Or.inl (lt55 (by omega)))) (Or.inl (lt55 (by omega)))) (by omega) (by omega)
                refine lv_aload_n S.1 S.2.1 dX11_joins_129 rfl (lv_at hl 1 rfl) ?_
                refine xget (v := .ref (a 3)) S hK hw 0 rfl rfl inX11 3 (by decide) mfX11_16 rfl dX11_joins_130 ?_
                refine lv_iload S.1 S.2.1 dX11_joins_133 (lv_at hl 0 rfl) ?_
                refine xald (f := (m_remembers u).1 3) S hK hw 3 0 rfl rfl (xvi rfl (by omega) (by omega)) dX11_joins_135 ?_
                refine lv_iload_n S.1 S.2.1 dX11_joins_136 rfl (lv_at hl 4 rfl) ?_
                refine lv_icmp_ne (tgt := 145) S.1 S.2.1 dX11_joins_137 (by decide) (fun c_16 => ?_) (fun c_16 => ?_)
                · replace hV := hV.trans (if_neg c_16)
                  have gc_16 : ¬ (((m_remembers u).1 3 (((upd ((upd ((m_remembers u).1 7) (((55 : Int32) + p1)).toNatClampNeg (((m_remembers u).1 7 (((55 : Int32) + p1)).toNatClampNeg) ||| ((1 : Int32) <<< (p3 &&& 31))))) (((55 : Int32) + p2)).toNatClampNeg (((upd ((m_remembers u).1 7) (((55 : Int32) + p1)).toNatClampNeg (((m_remembers u).1 7 (((55 : Int32) + p1)).toNatClampNeg) ||| ((1 : Int32) <<< (p3 &&& 31)))) (((55 : Int32) + p2)).toNatClampNeg) &&& (((1 : Int32) <<< (p3 &&& 31)) ^^^ (-1 : Int32)))) (((68 : Int32) + p1)).toNatClampNeg)).toNatClampNeg)).toInt = (p3).toInt := xq_ne c_16 rfl rfl
                  refine lv_iload S.1 S.2.1 dX11_joins_145 (lv_at hl 0 rfl) ?_
                  refine xast S hK hw 7 0 rfl rfl (xvi (e_12 ()) (by omega) (by omega)) (sM_7 _ _ _ _) dX11_joins_147 (fun H locs hw => ?_)
                  refine lv_aload_n S.1 S.2.1 dX11_joins_148 rfl (lv_at hl 1 rfl) ?_
                  refine xget (v := .ref (a 7)) S hK hw 0 rfl rfl inX11 8 (by decide) mfX11_28 rfl dX11_joins_149 ?_
                  refine lv_bipush (v := 55) S.1 S.2.1 dX11_joins_152 (by decide) ?_
                  refine lv_iload_n S.1 S.2.1 dX11_joins_154 rfl (lv_at hl 3 rfl) ?_
                  refine lv_iadd S.1 S.2.1 dX11_joins_155 ?_
                  refine xald (f := (upd ((upd ((upd ((m_remembers u).1 7) (((55 : Int32) + p1)).toNatClampNeg (((m_remembers u).1 7 (((55 : Int32) + p1)).toNatClampNeg) ||| ((1 : Int32) <<< (p3 &&& 31))))) (((55 : Int32) + p2)).toNatClampNeg (((upd ((m_remembers u).1 7) (((55 : Int32) + p1)).toNatClampNeg (((m_remembers u).1 7 (((55 : Int32) + p1)).toNatClampNeg) ||| ((1 : Int32) <<< (p3 &&& 31)))) (((55 : Int32) + p2)).toNatClampNeg) &&& (((1 : Int32) <<< (p3 &&& 31)) ^^^ (-1 : Int32))))) (((68 : Int32) + p1)).toNatClampNeg ((upd ((upd ((m_remembers u).1 7) (((55 : Int32) + p1)).toNatClampNeg (((m_remembers u).1 7 (((55 : Int32) + p1)).toNatClampNeg) ||| ((1 : Int32) <<< (p3 &&& 31))))) (((55 : Int32) + p2)).toNatClampNeg (((upd ((m_remembers u).1 7) (((55 : Int32) + p1)).toNatClampNeg (((m_remembers u).1 7 (((55 : Int32) + p1)).toNatClampNeg) ||| ((1 : Int32) <<< (p3 &&& 31)))) (((55 : Int32) + p2)).toNatClampNeg) &&& (((1 : Int32) <<< (p3 &&& 31)) ^^^ (-1 : Int32)))) (((68 : Int32) + p1)).toNatClampNeg))) S hK hw 7 0 rfl rfl (xvi (e_7 ()) (by omega) (by omega)) dX11_joins_156 ?_
                  exact xri S hr hlk hw hV dX11_joins_157
                · replace hV := hV.trans (if_pos c_16)
                  have gc_16 : (((m_remembers u).1 3 (((upd ((upd ((m_remembers u).1 7) (((55 : Int32) + p1)).toNatClampNeg (((m_remembers u).1 7 (((55 : Int32) + p1)).toNatClampNeg) ||| ((1 : Int32) <<< (p3 &&& 31))))) (((55 : Int32) + p2)).toNatClampNeg (((upd ((m_remembers u).1 7) (((55 : Int32) + p1)).toNatClampNeg (((m_remembers u).1 7 (((55 : Int32) + p1)).toNatClampNeg) ||| ((1 : Int32) <<< (p3 &&& 31)))) (((55 : Int32) + p2)).toNatClampNeg) &&& (((1 : Int32) <<< (p3 &&& 31)) ^^^ (-1 : Int32)))) (((68 : Int32) + p1)).toNatClampNeg)).toNatClampNeg)).toInt = (p3).toInt := xq_eq c_16 rfl rfl
                  refine lv_bipush (v := -9) S.1 S.2.1 dX11_joins_140 (by decide) ?_
                  refine lv_goto (tgt := 147) S.1 S.2.1 dX11_joins_142 (by decide) ?_
                  refine xast S hK hw 7 0 rfl rfl (xvi (e_12 ()) (by omega) (by omega)) (sM_7 _ _ _ _) dX11_joins_147 (fun H locs hw => ?_)
                  refine lv_aload_n S.1 S.2.1 dX11_joins_148 rfl (lv_at hl 1 rfl) ?_
                  refine xget (v := .ref (a 7)) S hK hw 0 rfl rfl inX11 8 (by decide) mfX11_28 rfl dX11_joins_149 ?_
                  refine lv_bipush (v := 55) S.1 S.2.1 dX11_joins_152 (by decide) ?_
                  refine lv_iload_n S.1 S.2.1 dX11_joins_154 rfl (lv_at hl 3 rfl) ?_
                  refine lv_iadd S.1 S.2.1 dX11_joins_155 ?_
                  refine xald (f := (upd ((upd ((upd ((m_remembers u).1 7) (((55 : Int32) + p1)).toNatClampNeg (((m_remembers u).1 7 (((55 : Int32) + p1)).toNatClampNeg) ||| ((1 : Int32) <<< (p3 &&& 31))))) (((55 : Int32) + p2)).toNatClampNeg (((upd ((m_remembers u).1 7) (((55 : Int32) + p1)).toNatClampNeg (((m_remembers u).1 7 (((55 : Int32) + p1)).toNatClampNeg) ||| ((1 : Int32) <<< (p3 &&& 31)))) (((55 : Int32) + p2)).toNatClampNeg) &&& (((1 : Int32) <<< (p3 &&& 31)) ^^^ (-1 : Int32))))) (((68 : Int32) + p1)).toNatClampNeg (-9 : Int32))) S hK hw 7 0 rfl rfl (xvi (e_7 ()) (by omega) (by omega)) dX11_joins_156 ?_
                  exact xri S hr hlk hw hV dX11_joins_157
            · replace hV := hV.trans (if_pos c_8)
              have gc_8 : ((b2i (m_has (u.1 7 (((55 : Int32) + p2)).toNatClampNeg) p3))).toInt = 0 := xq_eq c_8 rfl rfl
              refine lv_bipush (v := -2) S.1 S.2.1 dX11_joins_64 (by decide) ?_
              exact xri S hr hlk hw hV dX11_joins_66
        · replace hV := hV.trans (if_pos c_4)
          have gc_4 : ((b2i (m_in p3 (0 : Int32) (5 : Int32)))).toInt = 0 := xq_eq c_4 rfl rfl
          refine lv_iconst (v := -1) S.1 S.2.1 dX11_joins_30 (by decide) ?_
          exact xri S hr hlk hw hV dX11_joins_31
noncomputable def m_own_L24 (w : xU) (x1 : Int32) : Nat → Int32 → Int32 → Int32 × xU
  | 0, _, _ => (0, w)
  | n + 1, x2, x3 =>
    (if x1 ≤ x3 then
    (if (0 : Int32) ≤ x1 then
    ((m_givenTo w x1 x2), w)
    else
    ((w.1 19 0), w))
    else
    (if (m_givenTo w x3 x2) = (-9 : Int32) then
    m_own_L24 w x1 n (x2 ||| (0 : Int32)) (x3 + (1 : Int32))
    else
    let t_8 := (x2 ||| ((1 : Int32) <<< ((m_givenTo w x3 x2) &&& 31)))
    m_own_L24 w x1 n t_8 (x3 + (1 : Int32))))
noncomputable def m_own_b (u : xU) (p1 : Int32) : Int32 × xU :=
    (if (b2i (m_in p1 (-1 : Int32) ((u.1 0 5) - (1 : Int32)))) = (0 : Int32) then
    ((-1 : Int32), u)
    else
    let r_3 := m_layMost u
    m_own_L24 r_3 p1 7 (0 : Int32) (0 : Int32))
theorem m_own_x : ∃ f : xU → Int32 → Int32 × xU, f = m_own_b := ⟨_, rfl⟩
noncomputable def m_own : xU → Int32 → Int32 × xU := m_own_x.choose
theorem m_own_def : m_own = m_own_b := m_own_x.choose_spec
set_option maxHeartbeats 4000000 in
set_option maxRecDepth 100000 in
theorem c_m_own (l : Launch) (D : va_G) (a : Nat → Nat) (Y : Nat → ClassId) (ts : Nat → Nat) (u : xU) (p1 : Int32) (hT : (0 ≤ ((u.1 0 0)).toInt ∧ ((u.1 0 0)).toInt ≤ 8)) (hC : (0 ≤ ((u.1 0 5)).toInt ∧ ((u.1 0 5)).toInt ≤ 6)) : xMi l yX11_own cX11_own 5 (some .int) (xRm 4 90) D (xty Y) (wM a Y) ts [.ref (a 0), .int p1] u ((m_own u p1).1, (m_own u p1).2) := by
  suffices h : ∀ V, V = m_own_b u p1 → xMi l yX11_own cX11_own 5 (some .int) (xRm 4 90) D (xty Y) (wM a Y) ts [.ref (a 0), .int p1] u (V.1, V.2) from h _ (by rw [m_own_def])
  intro V hV
  refine xofi RX11 rfl (by decide) (Nat.le_of_ble_eq_true rfl) ?_
  intro p e s m args below meth c ls H locs A S hr hlk hl hK hE hA hw
  have hl : lv_has ls 5 [(0, .ref (a 0)), (1, .int p1)] := hl
  refine lv_iload_n S.1 S.2.1 dX11_own_0 rfl (lv_at hl 1 rfl) ?_
  refine lv_iconst (v := -1) S.1 S.2.1 dX11_own_1 (by decide) ?_
  refine lv_aload_n S.1 S.2.1 dX11_own_2 rfl (lv_at hl 0 rfl) ?_
  refine xget (v := .int (u.1 0 5)) S hK hw 0 rfl rfl inX11 5 (by decide) mfX11_76 rfl dX11_own_3 ?_
  refine lv_iconst (v := 1) S.1 S.2.1 dX11_own_6 (by decide) ?_
  refine lv_isub S.1 S.2.1 dX11_own_7 ?_
  refine xcP (rest := []) S hw yfX11_in (c_m_in l p1 (-1 : Int32) ((u.1 0 5) - (1 : Int32))) mlX11_72 rfl rfl hl.1 ⟨rfl, rfl, Nat.le_of_ble_eq_true rfl, Nat.le_of_ble_eq_true rfl, Nat.le_of_ble_eq_true rfl, Nat.zero_le _, Nat.zero_le _⟩ dX11_own_8 (fun H locs hw => ?_)
  refine lv_if_ne (tgt := 16) S.1 S.2.1 dX11_own_11 (by decide) (fun c_1 => ?_) (fun c_1 => ?_)
  · replace hV := hV.trans (if_neg c_1)
    have gc_1 : ¬ ((b2i (m_in p1 (-1 : Int32) ((u.1 0 5) - (1 : Int32))))).toInt = 0 := xq_ne c_1 rfl rfl
    have e_2 : ∀ _ : Unit, (((u.1 0 5) - (1 : Int32))).toInt = ((u.1 0 5)).toInt - 1 := fun _ => xsub rfl rfl (by omega) (by omega)
    have fc_1 : (-1) ≤ (p1).toInt ∧ (p1).toInt ≤ (((u.1 0 5)).toInt - 1) := hk_in' c_1 rfl rfl (e_2 ())
    refine lv_aload_n S.1 S.2.1 dX11_own_16 rfl (lv_at hl 0 rfl) ?_
    refine xcVv (rest := []) S hK hE hA hw yfX11_layMost (c_m_layMost l D a Y ts _ (show (0 ≤ ((u.1 0 0)).toInt ∧ ((u.1 0 0)).toInt ≤ 8) from by (first | omega | (simp only [kp_lay0]; omega))) (show (0 ≤ ((u.1 0 5)).toInt ∧ ((u.1 0 5)).toInt ≤ 6) from by (first | omega | (simp only [kp_lay0]; omega)))) 0 rfl rfl mlX11_209 rfl rfl hl.1 ⟨rfl, rfl, Nat.le_of_ble_eq_true rfl, Nat.le_of_ble_eq_true rfl, Nat.le_of_ble_eq_true rfl, Nat.zero_le _, Nat.zero_le _⟩ dX11_own_17 (fun H locs hw => ?_)
    refine lv_iconst (v := 0) S.1 S.2.1 dX11_own_20 (by decide) ?_
    refine lv_istore_n (lv' := [(2, .int (0 : Int32)), (0, .ref (a 0)), (1, .int p1)]) S.1 S.2.1 dX11_own_21 rfl hl (by decide) rfl (fun ls hl => ?_)
    refine lv_iconst (v := 0) S.1 S.2.1 dX11_own_22 (by decide) ?_
    refine lv_istore_n (lv' := [(3, .int (0 : Int32)), (2, .int (0 : Int32)), (0, .ref (a 0)), (1, .int p1)]) S.1 S.2.1 dX11_own_23 rfl hl (by decide) rfl (fun ls hl => ?_)
    have lp_4 : ∀ (n_4 : Nat) (x2_4 : Int32) (x3_4 : Int32) (H : Heap) (locs : List Loc) (ls : Array Slot), (0 ≤ (x3_4).toInt) → ((0 ≤ (x2_4).toInt ∧ (x2_4).toInt < 256)) → ((p1).toInt - (x3_4).toInt < (n_4 : Int) ∧ 1 ≤ n_4) → lv_has ls 5 [(0, .ref (a 0)), (1, .int p1), (2, .int x2_4), (3, .int x3_4)] → xw D (wM a Y) A s.heap H locs (m_layMost u) → V = m_own_L24 (m_layMost u) p1 n_4 x2_4 x3_4 → W p l e (xRm 4 90) s m args below meth c H locs 0 0 (MQ below (va_Qi (fun r v => (r, v) = V) (xPost D (wM a Y) A) A) args s 0 0 A) (F0 m 24 ls []) := by
      intro n_4
      induction n_4 with
      | zero => intro x2_4 x3_4 H locs ls i0_4 i1_4 hn; exact absurd hn.2 (by decide)
      | succ n_4 ih_4 =>
        intro x2_4 x3_4 H locs ls i0_4 i1_4 hn_4 hl hw hV
        refine lv_iload_n S.1 S.2.1 dX11_own_24 rfl (lv_at hl 3 rfl) ?_
        refine lv_iload_n S.1 S.2.1 dX11_own_25 rfl (lv_at hl 1 rfl) ?_
        refine lv_icmp_ge (tgt := 61) S.1 S.2.1 dX11_own_26 (by decide) (fun c_5 => ?_) (fun c_5 => ?_)
        · replace hV := hV.trans (if_pos c_5)
          have gc_5 : (p1).toInt ≤ (x3_4).toInt := xq_le c_5 rfl rfl
          refine lv_iload_n S.1 S.2.1 dX11_own_61 rfl (lv_at hl 1 rfl) ?_
          refine lv_if_ge (tgt := 74) S.1 S.2.1 dX11_own_62 (by decide) (fun c_6 => ?_) (fun c_6 => ?_)
          · replace hV := hV.trans (if_pos c_6)
            have gc_6 : 0 ≤ (p1).toInt := xq_le c_6 rfl rfl
            refine lv_aload_n S.1 S.2.1 dX11_own_74 rfl (lv_at hl 0 rfl) ?_
            refine lv_iload_n S.1 S.2.1 dX11_own_75 rfl (lv_at hl 1 rfl) ?_
            refine lv_iload_n S.1 S.2.1 dX11_own_76 rfl (lv_at hl 2 rfl) ?_
            refine xci (rest := []) S hK hE hA hw yfX11_givenTo (c_m_givenTo l D a Y ts _ p1 x2_4 (show (0 ≤ (((m_layMost u).1 0 0)).toInt ∧ (((m_layMost u).1 0 0)).toInt ≤ 8) from by (first | omega | (simp only [kp_lay0]; omega))) (show (0 ≤ (((m_layMost u).1 0 5)).toInt ∧ (((m_layMost u).1 0 5)).toInt ≤ 6) from by (first | omega | (simp only [kp_lay0]; omega))) (show 0 ≤ (p1).toInt ∧ (p1).toInt < 6 from by (first | omega | (simp only [kp_lay0]; omega))) (show 0 ≤ (x2_4).toInt ∧ (x2_4).toInt < 256 from by (first | omega | (simp only [kp_lay0]; omega)))) 0 rfl rfl mlX11_212 rfl rfl hl.1 ⟨rfl, rfl, Nat.le_of_ble_eq_true rfl, Nat.le_of_ble_eq_true rfl, Nat.le_of_ble_eq_true rfl, Nat.zero_le _, Nat.zero_le _⟩ dX11_own_77 (fun H locs hw => ?_)
            exact xri S hr hlk hw hV dX11_own_80
          · replace hV := hV.trans (if_neg c_6)
            have gc_6 : (p1).toInt < 0 := xq_nle c_6 rfl rfl
            refine lv_aload_n S.1 S.2.1 dX11_own_65 rfl (lv_at hl 0 rfl) ?_
            refine xget (v := .ref (a 19)) S hK hw 0 rfl rfl inX11 31 (by decide) mfX11_65 rfl dX11_own_66 ?_
            refine lv_iconst (v := 0) S.1 S.2.1 dX11_own_69 (by decide) ?_
            refine xaldc (f := (m_layMost u).1 19) (x := ((m_layMost u).1 19 0)) (k := 0) S hK hw 19 0 rfl rfl (by decide) rfl (xvi (a := 0) rfl (by decide) (by decide)) dX11_own_70 ?_
            refine lv_goto (tgt := 80) S.1 S.2.1 dX11_own_71 (by decide) ?_
            exact xri S hr hlk hw hV dX11_own_80
        · replace hV := hV.trans (if_neg c_5)
          have gc_5 : (x3_4).toInt < (p1).toInt := xq_nle c_5 rfl rfl
          refine lv_aload_n S.1 S.2.1 dX11_own_29 rfl (lv_at hl 0 rfl) ?_
          refine lv_iload_n S.1 S.2.1 dX11_own_30 rfl (lv_at hl 3 rfl) ?_
          refine lv_iload_n S.1 S.2.1 dX11_own_31 rfl (lv_at hl 2 rfl) ?_
          refine xci (rest := []) S hK hE hA hw yfX11_givenTo (c_m_givenTo l D a Y ts _ x3_4 x2_4 (show (0 ≤ (((m_layMost u).1 0 0)).toInt ∧ (((m_layMost u).1 0 0)).toInt ≤ 8) from by (first | omega | (simp only [kp_lay0]; omega))) (show (0 ≤ (((m_layMost u).1 0 5)).toInt ∧ (((m_layMost u).1 0 5)).toInt ≤ 6) from by (first | omega | (simp only [kp_lay0]; omega))) (show 0 ≤ (x3_4).toInt ∧ (x3_4).toInt < 6 from by (first | omega | (simp only [kp_lay0]; omega))) (show 0 ≤ (x2_4).toInt ∧ (x2_4).toInt < 256 from by (first | omega | (simp only [kp_lay0]; omega)))) 0 rfl rfl mlX11_212 rfl rfl hl.1 ⟨rfl, rfl, Nat.le_of_ble_eq_true rfl, Nat.le_of_ble_eq_true rfl, Nat.le_of_ble_eq_true rfl, Nat.zero_le _, Nat.zero_le _⟩ dX11_own_32 (fun H locs hw => ?_)
          refine lv_istore (lv' := [(4, .int (m_givenTo (m_layMost u) x3_4 x2_4)), (0, .ref (a 0)), (1, .int p1), (2, .int x2_4), (3, .int x3_4)]) S.1 S.2.1 dX11_own_35 hl (by decide) rfl (fun ls hl => ?_)
          refine lv_iload_n S.1 S.2.1 dX11_own_37 rfl (lv_at hl 3 rfl) ?_
          refine lv_iload S.1 S.2.1 dX11_own_38 (lv_at hl 0 rfl) ?_
          refine lv_bipush (v := -9) S.1 S.2.1 dX11_own_40 (by decide) ?_
          refine lv_icmp_ne (tgt := 49) S.1 S.2.1 dX11_own_42 (by decide) (fun c_7 => ?_) (fun c_7 => ?_)
          · replace hV := hV.trans (if_neg c_7)
            have gc_7 : ¬ ((m_givenTo (m_layMost u) x3_4 x2_4)).toInt = (-9) := xq_ne c_7 rfl rfl
            have fc_7 := hk_given (by first | omega | (simp only [kp_lay0]; omega)) c_7
            refine lv_iconst (v := 1) S.1 S.2.1 dX11_own_49 (by decide) ?_
            refine lv_iload S.1 S.2.1 dX11_own_50 (lv_at hl 0 rfl) ?_
            refine lv_ishl S.1 S.2.1 dX11_own_52 ?_
            refine lv_ior S.1 S.2.1 dX11_own_53 ?_
            refine lv_istore_n (lv' := [(2, .int (x2_4 ||| ((1 : Int32) <<< ((m_givenTo (m_layMost u) x3_4 x2_4) &&& 31)))), (4, .int (m_givenTo (m_layMost u) x3_4 x2_4)), (0, .ref (a 0)), (1, .int p1), (3, .int x3_4)]) S.1 S.2.1 dX11_own_54 rfl hl (by decide) rfl (fun ls hl => ?_)
            refine lv_iinc (v := (x3_4 + (1 : Int32))) (lv' := [(3, .int (x3_4 + (1 : Int32))), (2, .int (x2_4 ||| ((1 : Int32) <<< ((m_givenTo (m_layMost u) x3_4 x2_4) &&& 31)))), (4, .int (m_givenTo (m_layMost u) x3_4 x2_4)), (0, .ref (a 0)), (1, .int p1)]) S.1 S.2.1 dX11_own_55 hl (k := 4) rfl rfl (by decide) rfl (fun ls hl => ?_)
            refine lv_goto (tgt := 24) S.1 S.2.1 dX11_own_58 (by decide) ?_
            obtain ⟨ve_9, e_9, be_9⟩ := xsh1' (t := (m_givenTo (m_layMost u) x3_4 x2_4)) (a := ((m_givenTo (m_layMost u) x3_4 x2_4)).toInt) rfl (by omega) (by omega)
            obtain ⟨ve_10, e_10, be_10⟩ := xor8' (x := x2_4) (y := ((1 : Int32) <<< ((m_givenTo (m_layMost u) x3_4 x2_4) &&& 31))) (a := (x2_4).toInt) (b := ve_9) rfl (e_9 ()) (by omega) (by omega) (by omega) (by omega)
            have e_11 : ∀ _ : Unit, ((x3_4 + (1 : Int32))).toInt = (x3_4).toInt + 1 := fun _ => xadd rfl rfl (by omega) (by omega)
            exact ih_4 (x2_4 ||| ((1 : Int32) <<< ((m_givenTo (m_layMost u) x3_4 x2_4) &&& 31))) (x3_4 + (1 : Int32)) _ _ _ (show 0 ≤ ((x3_4 + (1 : Int32))).toInt from by rw [(e_11 ())]; (first | omega | (simp only [kp_lay0]; omega))) (show (0 ≤ ((x2_4 ||| ((1 : Int32) <<< ((m_givenTo (m_layMost u) x3_4 x2_4) &&& 31)))).toInt ∧ ((x2_4 ||| ((1 : Int32) <<< ((m_givenTo (m_layMost u) x3_4 x2_4) &&& 31)))).toInt < 256) from by rw [(e_10 ())]; (first | omega | (simp only [kp_lay0]; omega))) (show (p1).toInt - ((x3_4 + (1 : Int32))).toInt < (n_4 : Int) ∧ 1 ≤ n_4 from by rw [(e_11 ())]; (first | omega | (simp only [kp_lay0]; omega))) (lv_sub hl [3, 4, 1, 0] rfl) hw hV
          · replace hV := hV.trans (if_pos c_7)
            have gc_7 : ((m_givenTo (m_layMost u) x3_4 x2_4)).toInt = (-9) := xq_eq c_7 rfl rfl
            refine lv_iconst (v := 0) S.1 S.2.1 dX11_own_45 (by decide) ?_
            refine lv_goto (tgt := 53) S.1 S.2.1 dX11_own_46 (by decide) ?_
            refine lv_ior S.1 S.2.1 dX11_own_53 ?_
            refine lv_istore_n (lv' := [(2, .int (x2_4 ||| (0 : Int32))), (4, .int (m_givenTo (m_layMost u) x3_4 x2_4)), (0, .ref (a 0)), (1, .int p1), (3, .int x3_4)]) S.1 S.2.1 dX11_own_54 rfl hl (by decide) rfl (fun ls hl => ?_)
            refine lv_iinc (v := (x3_4 + (1 : Int32))) (lv' := [(3, .int (x3_4 + (1 : Int32))), (2, .int (x2_4 ||| (0 : Int32))), (4, .int (m_givenTo (m_layMost u) x3_4 x2_4)), (0, .ref (a 0)), (1, .int p1)]) S.1 S.2.1 dX11_own_55 hl (k := 4) rfl rfl (by decide) rfl (fun ls hl => ?_)
            refine lv_goto (tgt := 24) S.1 S.2.1 dX11_own_58 (by decide) ?_
            obtain ⟨ve_12, e_12, be_12⟩ := xor8' (x := x2_4) (y := (0 : Int32)) (a := (x2_4).toInt) (b := 0) rfl rfl (by omega) (by omega) (by omega) (by omega)
            have e_13 : ∀ _ : Unit, ((x3_4 + (1 : Int32))).toInt = (x3_4).toInt + 1 := fun _ => xadd rfl rfl (by omega) (by omega)
            exact ih_4 (x2_4 ||| (0 : Int32)) (x3_4 + (1 : Int32)) _ _ _ (show 0 ≤ ((x3_4 + (1 : Int32))).toInt from by rw [(e_13 ())]; (first | omega | (simp only [kp_lay0]; omega))) (show (0 ≤ ((x2_4 ||| (0 : Int32))).toInt ∧ ((x2_4 ||| (0 : Int32))).toInt < 256) from by rw [(e_12 ())]; (first | omega | (simp only [kp_lay0]; omega))) (show (p1).toInt - ((x3_4 + (1 : Int32))).toInt < (n_4 : Int) ∧ 1 ≤ n_4 from by rw [(e_13 ())]; (first | omega | (simp only [kp_lay0]; omega))) (lv_sub hl [3, 4, 1, 0] rfl) hw hV
    exact lp_4 7 (0 : Int32) (0 : Int32) _ _ _ (show 0 ≤ 0 from by (first | omega | (simp only [kp_lay0]; omega))) (show (0 ≤ 0 ∧ 0 < 256) from by (first | omega | (simp only [kp_lay0]; omega))) (show (p1).toInt - 0 < ((7 : Nat) : Int) ∧ 1 ≤ (7 : Nat) from by (first | omega | (simp only [kp_lay0]; omega))) (lv_sub hl [2, 3, 1, 0] rfl) hw hV
  · replace hV := hV.trans (if_pos c_1)
    have gc_1 : ((b2i (m_in p1 (-1 : Int32) ((u.1 0 5) - (1 : Int32))))).toInt = 0 := xq_eq c_1 rfl rfl
    refine lv_iconst (v := -1) S.1 S.2.1 dX11_own_14 (by decide) ?_
    exact xri S hr hlk hw hV dX11_own_15
noncomputable def m_takesNumber_b (u : xU) (p1 : Int32) (p2 : Int32) : Int32 × xU :=
    (if (u.1 0 20) = (0 : Int32) then
    (if (u.1 0 18) = (2 : Int32) then
    (if (b2i (m_in (u.1 0 19) p1 p2)) = (0 : Int32) then
    let w_13 := sp u 0 (upd (u.1 0) 20 (1 : Int32))
    ((0 : Int32), w_13)
    else
    let w_17 := sp u 0 (upd (u.1 0) 20 (0 : Int32))
    let r_19 := m_next w_17
    ((w_17.1 0 19), r_19))
    else
    let w_8 := sp u 0 (upd (u.1 0) 20 (1 : Int32))
    ((0 : Int32), w_8))
    else
    let w_3 := sp u 0 (upd (u.1 0) 20 (1 : Int32))
    ((0 : Int32), w_3))
theorem m_takesNumber_x : ∃ f : xU → Int32 → Int32 → Int32 × xU, f = m_takesNumber_b := ⟨_, rfl⟩
noncomputable def m_takesNumber : xU → Int32 → Int32 → Int32 × xU := m_takesNumber_x.choose
theorem m_takesNumber_def : m_takesNumber = m_takesNumber_b := m_takesNumber_x.choose_spec
set_option maxHeartbeats 4000000 in
set_option maxRecDepth 100000 in
theorem c_m_takesNumber (l : Launch) (D : va_G) (a : Nat → Nat) (Y : Nat → ClassId) (ts : Nat → Nat) (u : xU) (p1 : Int32) (p2 : Int32) (hL : (0 ≤ ((u.1 0 15)).toInt ∧ ((u.1 0 15)).toInt ≤ 150)) (hX : (0 ≤ ((u.1 0 16)).toInt ∧ ((u.1 0 16)).toInt ≤ 150)) : xMi l yX11_takesNumber cX11_takesNumber 5 (some .int) (xRm 3 63) D (xty Y) (wM a Y) ts [.ref (a 0), .int p1, .int p2] u ((m_takesNumber u p1 p2).1, (m_takesNumber u p1 p2).2) := by
  suffices h : ∀ V, V = m_takesNumber_b u p1 p2 → xMi l yX11_takesNumber cX11_takesNumber 5 (some .int) (xRm 3 63) D (xty Y) (wM a Y) ts [.ref (a 0), .int p1, .int p2] u (V.1, V.2) from h _ (by rw [m_takesNumber_def])
  intro V hV
  refine xofi RX11 rfl (by decide) (Nat.le_of_ble_eq_true rfl) ?_
  intro p e s m args below meth c ls H locs A S hr hlk hl hK hE hA hw
  have hl : lv_has ls 5 [(0, .ref (a 0)), (1, .int p1), (2, .int p2)] := hl
  refine lv_aload_n S.1 S.2.1 dX11_takesNumber_0 rfl (lv_at hl 0 rfl) ?_
  refine xget (v := .int (u.1 0 20)) S hK hw 0 rfl rfl inX11 20 (by decide) mfX11_105 rfl dX11_takesNumber_1 ?_
  refine lv_if_ne (tgt := 31) S.1 S.2.1 dX11_takesNumber_4 (by decide) (fun c_1 => ?_) (fun c_1 => ?_)
  · replace hV := hV.trans (if_neg c_1)
    have gc_1 : ¬ ((u.1 0 20)).toInt = 0 := xq_ne c_1 rfl rfl
    refine lv_iconst (v := 0) S.1 S.2.1 dX11_takesNumber_31 (by decide) ?_
    refine lv_istore_n (lv' := [(3, .int (0 : Int32)), (0, .ref (a 0)), (1, .int p1), (2, .int p2)]) S.1 S.2.1 dX11_takesNumber_32 rfl hl (by decide) rfl (fun ls hl => ?_)
    refine lv_aload_n S.1 S.2.1 dX11_takesNumber_33 rfl (lv_at hl 1 rfl) ?_
    refine lv_iload_n S.1 S.2.1 dX11_takesNumber_34 rfl (lv_at hl 0 rfl) ?_
    refine lv_if_ne (tgt := 42) S.1 S.2.1 dX11_takesNumber_35 (by decide) (fun c_2 => ?_) (fun c_2 => ?_)
    · exact absurd c_2 (by decide)
    · refine lv_iconst (v := 1) S.1 S.2.1 dX11_takesNumber_38 (by decide) ?_
      refine lv_goto (tgt := 43) S.1 S.2.1 dX11_takesNumber_39 (by decide) ?_
      refine xputi (ty := .boolean) S hK hw 0 rfl rfl inX11 tyX11 tyX11_ok nmX11 20 (by decide) mfX11_105 rfl (by decide +kernel) rfl rfl (Nat.le_of_ble_eq_true rfl) (oM_0_20 _ _ _ _) dX11_takesNumber_43 (fun H locs hw => ?_)
      refine lv_aload_n S.1 S.2.1 dX11_takesNumber_46 rfl (lv_at hl 1 rfl) ?_
      refine xget (v := .int (u.1 0 19)) S hK hw 0 rfl rfl inX11 19 (by decide) mfX11_92 rfl dX11_takesNumber_47 ?_
      refine lv_istore (lv' := [(4, .int (u.1 0 19)), (3, .int (0 : Int32)), (0, .ref (a 0)), (1, .int p1), (2, .int p2)]) S.1 S.2.1 dX11_takesNumber_50 hl (by decide) rfl (fun ls hl => ?_)
      refine lv_iload_n S.1 S.2.1 dX11_takesNumber_52 rfl (lv_at hl 1 rfl) ?_
      refine lv_if_eq (tgt := 60) S.1 S.2.1 dX11_takesNumber_53 (by decide) (fun c_4 => ?_) (fun c_4 => ?_)
      · refine lv_iload_n S.1 S.2.1 dX11_takesNumber_60 rfl (lv_at hl 1 rfl) ?_
        refine lv_if_eq (tgt := 69) S.1 S.2.1 dX11_takesNumber_61 (by decide) (fun c_5 => ?_) (fun c_5 => ?_)
        · refine lv_iconst (v := 0) S.1 S.2.1 dX11_takesNumber_69 (by decide) ?_
          exact xri S hr hlk hw hV dX11_takesNumber_70
        · exact absurd c_5 (by decide)
      · exact absurd c_4 (by decide)
  · replace hV := hV.trans (if_pos c_1)
    have gc_1 : ((u.1 0 20)).toInt = 0 := xq_eq c_1 rfl rfl
    refine lv_aload_n S.1 S.2.1 dX11_takesNumber_7 rfl (lv_at hl 0 rfl) ?_
    refine xget (v := .int (u.1 0 18)) S hK hw 0 rfl rfl inX11 18 (by decide) mfX11_95 rfl dX11_takesNumber_8 ?_
    refine lv_iconst (v := 2) S.1 S.2.1 dX11_takesNumber_11 (by decide) ?_
    refine lv_icmp_ne (tgt := 31) S.1 S.2.1 dX11_takesNumber_12 (by decide) (fun c_6 => ?_) (fun c_6 => ?_)
    · replace hV := hV.trans (if_neg c_6)
      have gc_6 : ¬ ((u.1 0 18)).toInt = 2 := xq_ne c_6 rfl rfl
      refine lv_iconst (v := 0) S.1 S.2.1 dX11_takesNumber_31 (by decide) ?_
      refine lv_istore_n (lv' := [(3, .int (0 : Int32)), (0, .ref (a 0)), (1, .int p1), (2, .int p2)]) S.1 S.2.1 dX11_takesNumber_32 rfl hl (by decide) rfl (fun ls hl => ?_)
      refine lv_aload_n S.1 S.2.1 dX11_takesNumber_33 rfl (lv_at hl 1 rfl) ?_
      refine lv_iload_n S.1 S.2.1 dX11_takesNumber_34 rfl (lv_at hl 0 rfl) ?_
      refine lv_if_ne (tgt := 42) S.1 S.2.1 dX11_takesNumber_35 (by decide) (fun c_7 => ?_) (fun c_7 => ?_)
      · exact absurd c_7 (by decide)
      · refine lv_iconst (v := 1) S.1 S.2.1 dX11_takesNumber_38 (by decide) ?_
        refine lv_goto (tgt := 43) S.1 S.2.1 dX11_takesNumber_39 (by decide) ?_
        refine xputi (ty := .boolean) S hK hw 0 rfl rfl inX11 tyX11 tyX11_ok nmX11 20 (by decide) mfX11_105 rfl (by decide +kernel) rfl rfl (Nat.le_of_ble_eq_true rfl) (oM_0_20 _ _ _ _) dX11_takesNumber_43 (fun H locs hw => ?_)
        refine lv_aload_n S.1 S.2.1 dX11_takesNumber_46 rfl (lv_at hl 1 rfl) ?_
        refine xget (v := .int (u.1 0 19)) S hK hw 0 rfl rfl inX11 19 (by decide) mfX11_92 rfl dX11_takesNumber_47 ?_
        refine lv_istore (lv' := [(4, .int (u.1 0 19)), (3, .int (0 : Int32)), (0, .ref (a 0)), (1, .int p1), (2, .int p2)]) S.1 S.2.1 dX11_takesNumber_50 hl (by decide) rfl (fun ls hl => ?_)
        refine lv_iload_n S.1 S.2.1 dX11_takesNumber_52 rfl (lv_at hl 1 rfl) ?_
        refine lv_if_eq (tgt := 60) S.1 S.2.1 dX11_takesNumber_53 (by decide) (fun c_9 => ?_) (fun c_9 => ?_)
        · refine lv_iload_n S.1 S.2.1 dX11_takesNumber_60 rfl (lv_at hl 1 rfl) ?_
          refine lv_if_eq (tgt := 69) S.1 S.2.1 dX11_takesNumber_61 (by decide) (fun c_10 => ?_) (fun c_10 => ?_)
          · refine lv_iconst (v := 0) S.1 S.2.1 dX11_takesNumber_69 (by decide) ?_
            exact xri S hr hlk hw hV dX11_takesNumber_70
          · exact absurd c_10 (by decide)
        · exact absurd c_9 (by decide)
    · replace hV := hV.trans (if_pos c_6)
      have gc_6 : ((u.1 0 18)).toInt = 2 := xq_eq c_6 rfl rfl
      refine lv_aload_n S.1 S.2.1 dX11_takesNumber_15 rfl (lv_at hl 0 rfl) ?_
      refine xget (v := .int (u.1 0 19)) S hK hw 0 rfl rfl inX11 19 (by decide) mfX11_92 rfl dX11_takesNumber_16 ?_
      refine lv_iload_n S.1 S.2.1 dX11_takesNumber_19 rfl (lv_at hl 1 rfl) ?_
      refine lv_iload_n S.1 S.2.1 dX11_takesNumber_20 rfl (lv_at hl 2 rfl) ?_
      refine xcP (rest := []) S hw yfX11_in (c_m_in l (u.1 0 19) p1 p2) mlX11_72 rfl rfl hl.1 ⟨rfl, rfl, Nat.le_of_ble_eq_true rfl, Nat.le_of_ble_eq_true rfl, Nat.le_of_ble_eq_true rfl, Nat.zero_le _, Nat.zero_le _⟩ dX11_takesNumber_21 (fun H locs hw => ?_)
      refine lv_if_eq (tgt := 31) S.1 S.2.1 dX11_takesNumber_24 (by decide) (fun c_11 => ?_) (fun c_11 => ?_)
      · replace hV := hV.trans (if_pos c_11)
        have gc_11 : ((b2i (m_in (u.1 0 19) p1 p2))).toInt = 0 := xq_eq c_11 rfl rfl
        refine lv_iconst (v := 0) S.1 S.2.1 dX11_takesNumber_31 (by decide) ?_
        refine lv_istore_n (lv' := [(3, .int (0 : Int32)), (0, .ref (a 0)), (1, .int p1), (2, .int p2)]) S.1 S.2.1 dX11_takesNumber_32 rfl hl (by decide) rfl (fun ls hl => ?_)
        refine lv_aload_n S.1 S.2.1 dX11_takesNumber_33 rfl (lv_at hl 1 rfl) ?_
        refine lv_iload_n S.1 S.2.1 dX11_takesNumber_34 rfl (lv_at hl 0 rfl) ?_
        refine lv_if_ne (tgt := 42) S.1 S.2.1 dX11_takesNumber_35 (by decide) (fun c_12 => ?_) (fun c_12 => ?_)
        · exact absurd c_12 (by decide)
        · refine lv_iconst (v := 1) S.1 S.2.1 dX11_takesNumber_38 (by decide) ?_
          refine lv_goto (tgt := 43) S.1 S.2.1 dX11_takesNumber_39 (by decide) ?_
          refine xputi (ty := .boolean) S hK hw 0 rfl rfl inX11 tyX11 tyX11_ok nmX11 20 (by decide) mfX11_105 rfl (by decide +kernel) rfl rfl (Nat.le_of_ble_eq_true rfl) (oM_0_20 _ _ _ _) dX11_takesNumber_43 (fun H locs hw => ?_)
          refine lv_aload_n S.1 S.2.1 dX11_takesNumber_46 rfl (lv_at hl 1 rfl) ?_
          refine xget (v := .int (u.1 0 19)) S hK hw 0 rfl rfl inX11 19 (by decide) mfX11_92 rfl dX11_takesNumber_47 ?_
          refine lv_istore (lv' := [(4, .int (u.1 0 19)), (3, .int (0 : Int32)), (0, .ref (a 0)), (1, .int p1), (2, .int p2)]) S.1 S.2.1 dX11_takesNumber_50 hl (by decide) rfl (fun ls hl => ?_)
          refine lv_iload_n S.1 S.2.1 dX11_takesNumber_52 rfl (lv_at hl 1 rfl) ?_
          refine lv_if_eq (tgt := 60) S.1 S.2.1 dX11_takesNumber_53 (by decide) (fun c_14 => ?_) (fun c_14 => ?_)
          · refine lv_iload_n S.1 S.2.1 dX11_takesNumber_60 rfl (lv_at hl 1 rfl) ?_
            refine lv_if_eq (tgt := 69) S.1 S.2.1 dX11_takesNumber_61 (by decide) (fun c_15 => ?_) (fun c_15 => ?_)
            · refine lv_iconst (v := 0) S.1 S.2.1 dX11_takesNumber_69 (by decide) ?_
              exact xri S hr hlk hw hV dX11_takesNumber_70
            · exact absurd c_15 (by decide)
          · exact absurd c_14 (by decide)
      · replace hV := hV.trans (if_neg c_11)
        have gc_11 : ¬ ((b2i (m_in (u.1 0 19) p1 p2))).toInt = 0 := xq_ne c_11 rfl rfl
        have fc_11 : (p1).toInt ≤ ((u.1 0 19)).toInt ∧ ((u.1 0 19)).toInt ≤ (p2).toInt := hk_in' c_11 rfl rfl rfl
        refine lv_iconst (v := 1) S.1 S.2.1 dX11_takesNumber_27 (by decide) ?_
        refine lv_goto (tgt := 32) S.1 S.2.1 dX11_takesNumber_28 (by decide) ?_
        refine lv_istore_n (lv' := [(3, .int (1 : Int32)), (0, .ref (a 0)), (1, .int p1), (2, .int p2)]) S.1 S.2.1 dX11_takesNumber_32 rfl hl (by decide) rfl (fun ls hl => ?_)
        refine lv_aload_n S.1 S.2.1 dX11_takesNumber_33 rfl (lv_at hl 1 rfl) ?_
        refine lv_iload_n S.1 S.2.1 dX11_takesNumber_34 rfl (lv_at hl 0 rfl) ?_
        refine lv_if_ne (tgt := 42) S.1 S.2.1 dX11_takesNumber_35 (by decide) (fun c_16 => ?_) (fun c_16 => ?_)
        · refine lv_iconst (v := 0) S.1 S.2.1 dX11_takesNumber_42 (by decide) ?_
          refine xputi (ty := .boolean) S hK hw 0 rfl rfl inX11 tyX11 tyX11_ok nmX11 20 (by decide) mfX11_105 rfl (by decide +kernel) rfl rfl (Nat.le_of_ble_eq_true rfl) (oM_0_20 _ _ _ _) dX11_takesNumber_43 (fun H locs hw => ?_)
          refine lv_aload_n S.1 S.2.1 dX11_takesNumber_46 rfl (lv_at hl 1 rfl) ?_
          refine xget (v := .int (u.1 0 19)) S hK hw 0 rfl rfl inX11 19 (by decide) mfX11_92 rfl dX11_takesNumber_47 ?_
          refine lv_istore (lv' := [(4, .int (u.1 0 19)), (3, .int (1 : Int32)), (0, .ref (a 0)), (1, .int p1), (2, .int p2)]) S.1 S.2.1 dX11_takesNumber_50 hl (by decide) rfl (fun ls hl => ?_)
          refine lv_iload_n S.1 S.2.1 dX11_takesNumber_52 rfl (lv_at hl 1 rfl) ?_
          refine lv_if_eq (tgt := 60) S.1 S.2.1 dX11_takesNumber_53 (by decide) (fun c_18 => ?_) (fun c_18 => ?_)
          · exact absurd c_18 (by decide)
          · refine lv_aload_n S.1 S.2.1 dX11_takesNumber_56 rfl (lv_at hl 2 rfl) ?_
            refine xcVv (rest := []) S hK hE hA hw yfX11_next (c_m_next l D a Y ts _ (show (0 ≤ ((u.1 0 15)).toInt ∧ ((u.1 0 15)).toInt ≤ 150) from by omega) (show (0 ≤ ((u.1 0 16)).toInt ∧ ((u.1 0 16)).toInt ≤ 150) from by omega)) 0 rfl rfl mlX11_109 rfl rfl hl.1 ⟨rfl, rfl, Nat.le_of_ble_eq_true rfl, Nat.le_of_ble_eq_true rfl, Nat.le_of_ble_eq_true rfl, Nat.zero_le _, Nat.zero_le _⟩ dX11_takesNumber_57 (fun H locs hw => ?_)
            refine lv_iload_n S.1 S.2.1 dX11_takesNumber_60 rfl (lv_at hl 1 rfl) ?_
            refine lv_if_eq (tgt := 69) S.1 S.2.1 dX11_takesNumber_61 (by decide) (fun c_20 => ?_) (fun c_20 => ?_)
            · exact absurd c_20 (by decide)
            · refine lv_iload S.1 S.2.1 dX11_takesNumber_64 (lv_at hl 0 rfl) ?_
              refine lv_goto (tgt := 70) S.1 S.2.1 dX11_takesNumber_66 (by decide) ?_
              exact xri S hr hlk hw hV dX11_takesNumber_70
        · exact absurd c_16 (by decide)
