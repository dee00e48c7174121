set_option maxHeartbeats 4000000 in
set_option maxRecDepth 100000 in
theorem law_loop (Rel : xU → xU → Prop) (hs : St_all Rel) {p : Program} {l : Launch} {e : Env} {s : State} {m : MethodId} {below : List Frame} {meth : Method} {c : Code} {D : va_G} {a b2 : Nat → Nat} {Y : Nat → ClassId} {ts : Nat → Nat} {b L : Nat} {xs : Nat → Int32} (hL : L ≤ 256) (S : CallFix p m c code 4 s #[Value.ref b] xT RL) (hr : meth.sig.returnType = ret) (hlk : meth.locks = false) (hX : va_X b L xs s s.heap) (hbl : b < s.heap.size) (hK : va_K D vwCl (xty Y) s) (hE : xE ts (fun q : Nat => s.heap.size ≤ q) s) (hdj : djC a b2) :
    ∀ (n : Nat) (x3 : Int32), 0 ≤ x3.toInt → (L : Int) - x3.toInt < n → x3.toInt ≤ 260 → ∀ (u v : xU) (H : Heap) (locs : List Loc) (ls : Array Slot), Rel u v → lv_has ls 4 [(0, .ref b), (1, .ref (a 0)), (2, .ref (b2 0)), (3, .int x3)] → xw D (wC a Y) (fun q : Nat => s.heap.size ≤ q) s.heap H locs u → xw D (wM b2 Y) (fun q : Nat => s.heap.size ≤ q) s.heap H locs v → W p l e room_1 s m #[Value.ref b] below meth c H locs 600000 7302250 (lw_Z below #[Value.ref b] s) (F0 m 18 ls []) := by
  have hbA : ¬ (fun q : Nat => s.heap.size ≤ q) b := Nat.not_le.mpr hbl
  have eL : (Int32.ofNat L).toInt = L := Int32.toInt_ofNat_of_lt (by omega)
  have e4 : (Int32.ofNat L - 4).toInt = L - 4 := xsub eL rfl (by omega) (by omega)
  intro n
  induction n with
  | zero =>
    intro x3 h0 h1 h2 u v H locs ls hR hl hw hg
    have e5 : (x3 + 4).toInt = x3.toInt + 4 := xadd rfl rfl (by have : (4 : Int32).toInt = 4 := rfl; omega) (by have : (4 : Int32).toInt = 4 := rfl; omega)
    refine lv_iload_n S.1 S.2.1 dL_law_18 rfl (lv_at hl 3 rfl) ?_
    refine lv_aload_n S.1 S.2.1 dL_law_19 rfl (lv_at hl 0 rfl) ?_
    refine va_slen S.1 S.2.1 hX hbl hbA hw.2.2 dL_law_20 ?_
    refine lv_iconst (v := 4) S.1 S.2.1 dL_law_21 (by decide) ?_
    refine lv_isub S.1 S.2.1 dL_law_22 ?_
    refine lv_icmp_gt (tgt := 837) S.1 S.2.1 dL_law_23 (by decide) (fun hc => ?_) (fun hc => ?_)
    · refine lv_iconst (v := 1) S.1 S.2.1 dL_law_837 (by decide) ?_
      exact va_forget (fun q hq => hw.2.2.2.2 q hq) (lw_ret S.1 S.2.1 hr hlk dL_law_838)
    · exact absurd (xq_nlt hc e4 rfl) (by omega)
  | succ n ih =>
    intro x3 h0 h1 h2 u v H locs ls hR hl hw hg
    refine lv_iload_n S.1 S.2.1 dL_law_18 rfl (lv_at hl 3 rfl) ?_
    refine lv_aload_n S.1 S.2.1 dL_law_19 rfl (lv_at hl 0 rfl) ?_
    refine va_slen S.1 S.2.1 hX hbl hbA hw.2.2 dL_law_20 ?_
    refine lv_iconst (v := 4) S.1 S.2.1 dL_law_21 (by decide) ?_
    refine lv_isub S.1 S.2.1 dL_law_22 ?_
    refine lv_icmp_gt (tgt := 837) S.1 S.2.1 dL_law_23 (by decide) (fun hc => ?_) (fun hc => ?_)
    · refine lv_iconst (v := 1) S.1 S.2.1 dL_law_837 (by decide) ?_
      exact va_forget (fun q hq => hw.2.2.2.2 q hq) (lw_ret S.1 S.2.1 hr hlk dL_law_838)
    have hc4 := xq_nlt hc e4 rfl
    have hx1 : x3.toInt + 4 ≤ L := by omega
    have hx3 : ¬ False := fun h => h
    have e5 : (x3 + 4).toInt = x3.toInt + 4 := xadd rfl rfl (by have : (4 : Int32).toInt = 4 := rfl; omega) (by have : (4 : Int32).toInt = 4 := rfl; omega)
    have kk : ∀ (u v : xU) (H : Heap) (locs : List Loc) (ls : Array Slot), Rel u v → lv_has ls 4 [(0, .ref b), (1, .ref (a 0)), (2, .ref (b2 0)), (3, .int x3)] → xw D (wC a Y) (fun q : Nat => s.heap.size ≤ q) s.heap H locs u → xw D (wM b2 Y) (fun q : Nat => s.heap.size ≤ q) s.heap H locs v → W p l e room_1 s m #[Value.ref b] below meth c H locs 600000 7302250 (lw_Z below #[Value.ref b] s) (F0 m 831 ls []) := by
      intro u v H locs ls hR hl hw hg
      refine lv_iinc (v := x3 + 4) (lv' := [(3, .int (x3 + 4)), (0, .ref b), (1, .ref (a 0)), (2, .ref (b2 0))]) S.1 S.2.1 dL_law_831 hl (k := 3) rfl rfl (by decide) rfl (fun ls hl => ?_)
      refine lv_goto (tgt := 18) S.1 S.2.1 dL_law_834 (by decide) ?_
      exact ih (x3 + 4) (by rw [e5]; omega) (by rw [e5]; omega) (by rw [e5]; omega) u v H locs ls hR (lv_sub hl [1, 2, 3, 0] rfl) hw hg
    refine lv_aload_n S.1 S.2.1 dL_law_26 rfl (lv_at hl 0 rfl) ?_
    refine lv_iload_n S.1 S.2.1 dL_law_27 rfl (lv_at hl 3 rfl) ?_
    refine va_sld S.1 S.2.1 hX hbl hbA hw.2.2 (xvi rfl (by omega) (by omega)) dL_law_28 ?_
    refine lv_bipush (v := 31) S.1 S.2.1 dL_law_29 (by decide) ?_
    refine lv_iand S.1 S.2.1 dL_law_31 ?_
    refine lv_topi (fun f ef => ?_)
    clear ef
    obtain ⟨s0, s1, s2, s3, s4, s5, s6, s7, s8, s9, s10, s11, s12, s13, s14, s15, s16, s17, s18, s19, s20, s21, s22, s23, s24, s25⟩ := hs
    by_cases c0 : f = 0
    · refine lv_tableIn (tgt := 152) S.1 S.2.1 dL_law_32 (by rw [c0]; decide) (by rw [c0]; decide) (by rw [c0]; rfl) (by decide) ?_
      exact lc_type Rel s0 hL S hr hlk hX hbl hK hE hdj x3 h0 hx1 kk u v H locs ls hR hl hw hg
    by_cases c1 : f = 1
    · refine lv_tableIn (tgt := 175) S.1 S.2.1 dL_law_32 (by rw [c1]; decide) (by rw [c1]; decide) (by rw [c1]; rfl) (by decide) ?_
      exact lc_clear Rel s1 hL S hr hlk hX hbl hK hE hdj x3 h0 hx1 kk u v H locs ls hR hl hw hg
    by_cases c2 : f = 2
    · refine lv_tableIn (tgt := 188) S.1 S.2.1 dL_law_32 (by rw [c2]; decide) (by rw [c2]; decide) (by rw [c2]; rfl) (by decide) ?_
      exact lc_hall Rel s2 hL S hr hlk hX hbl hK hE hdj x3 h0 hx1 kk u v H locs ls hR hl hw hg
    by_cases c3 : f = 3
    · refine lv_tableIn (tgt := 201) S.1 S.2.1 dL_law_32 (by rw [c3]; decide) (by rw [c3]; decide) (by rw [c3]; rfl) (by decide) ?_
      exact lc_thing Rel s3 hL S hr hlk hX hbl hK hE hdj x3 h0 hx1 kk u v H locs ls hR hl hw hg
    by_cases c4 : f = 4
    · refine lv_tableIn (tgt := 234) S.1 S.2.1 dL_law_32 (by rw [c4]; decide) (by rw [c4]; decide) (by rw [c4]; rfl) (by decide) ?_
      exact lc_cast Rel s4 hL S hr hlk hX hbl hK hE hdj x3 h0 hx1 kk u v H locs ls hR hl hw hg
    by_cases c5 : f = 5
    · refine lv_tableIn (tgt := 267) S.1 S.2.1 dL_law_32 (by rw [c5]; decide) (by rw [c5]; decide) (by rw [c5]; rfl) (by decide) ?_
      exact lc_far Rel s5 hL S hr hlk hX hbl hK hE hdj x3 h0 hx1 kk u v H locs ls hR hl hw hg
    by_cases c6 : f = 6
    · refine lv_tableIn (tgt := 300) S.1 S.2.1 dL_law_32 (by rw [c6]; decide) (by rw [c6]; decide) (by rw [c6]; rfl) (by decide) ?_
      exact lc_sets Rel s6 hL S hr hlk hX hbl hK hE hdj x3 h0 hx1 kk u v H locs ls hR hl hw hg
    by_cases c7 : f = 7
    · refine lv_tableIn (tgt := 333) S.1 S.2.1 dL_law_32 (by rw [c7]; decide) (by rw [c7]; decide) (by rw [c7]; rfl) (by decide) ?_
      exact lc_nights Rel s7 hL S hr hlk hX hbl hK hE hdj x3 h0 hx1 kk u v H locs ls hR hl hw hg
    by_cases c8 : f = 8
    · refine lv_tableIn (tgt := 356) S.1 S.2.1 dL_law_32 (by rw [c8]; decide) (by rw [c8]; decide) (by rw [c8]; rfl) (by decide) ?_
      exact lc_mends Rel s8 hL S hr hlk hX hbl hK hE hdj x3 h0 hx1 kk u v H locs ls hR hl hw hg
    by_cases c9 : f = 9
    · refine lv_tableIn (tgt := 379) S.1 S.2.1 dL_law_32 (by rw [c9]; decide) (by rw [c9]; decide) (by rw [c9]; rfl) (by decide) ?_
      exact lc_joins Rel s9 hL S hr hlk hX hbl hK hE hdj x3 h0 hx1 kk u v H locs ls hR hl hw hg
    by_cases c10 : f = 10
    · refine lv_tableIn (tgt := 422) S.1 S.2.1 dL_law_32 (by rw [c10]; decide) (by rw [c10]; decide) (by rw [c10]; rfl) (by decide) ?_
      exact lc_undo Rel s10 hL S hr hlk hX hbl hK hE hdj x3 h0 hx1 kk u v H locs ls hR hl hw hg
    by_cases c11 : f = 11
    · refine lv_tableIn (tgt := 435) S.1 S.2.1 dL_law_32 (by rw [c11]; decide) (by rw [c11]; decide) (by rw [c11]; rfl) (by decide) ?_
      exact lc_now Rel s11 hL S hr hlk hX hbl hK hE hdj x3 h0 hx1 kk u v H locs ls hR hl hw hg
    by_cases c12 : f = 12
    · refine lv_tableIn (tgt := 458) S.1 S.2.1 dL_law_32 (by rw [c12]; decide) (by rw [c12]; decide) (by rw [c12]; rfl) (by decide) ?_
      exact lc_plan Rel s12 hL S hr hlk hX hbl hK hE hdj x3 h0 hx1 kk u v H locs ls hR hl hw hg
    by_cases c13 : f = 13
    · refine lv_tableIn (tgt := 501) S.1 S.2.1 dL_law_32 (by rw [c13]; decide) (by rw [c13]; decide) (by rw [c13]; rfl) (by decide) ?_
      exact lc_best Rel s13 hL S hr hlk hX hbl hK hE hdj x3 h0 hx1 kk u v H locs ls hR hl hw hg
    by_cases c14 : f = 14
    · refine lv_tableIn (tgt := 544) S.1 S.2.1 dL_law_32 (by rw [c14]; decide) (by rw [c14]; decide) (by rw [c14]; rfl) (by decide) ?_
      exact lc_own Rel s14 hL S hr hlk hX hbl hK hE hdj x3 h0 hx1 kk u v H locs ls hR hl hw hg
    by_cases c15 : f = 15
    · refine lv_tableIn (tgt := 567) S.1 S.2.1 dL_law_32 (by rw [c15]; decide) (by rw [c15]; decide) (by rw [c15]; rfl) (by decide) ?_
      exact lc_near Rel s15 hL S hr hlk hX hbl hK hE hdj x3 h0 hx1 kk u v H locs ls hR hl hw hg
    by_cases c16 : f = 16
    · refine lv_tableIn (tgt := 600) S.1 S.2.1 dL_law_32 (by rw [c16]; decide) (by rw [c16]; decide) (by rw [c16]; rfl) (by decide) ?_
      exact lc_odds Rel s16 hL S hr hlk hX hbl hK hE hdj x3 h0 hx1 kk u v H locs ls hR hl hw hg
    by_cases c17 : f = 17
    · refine lv_tableIn (tgt := 643) S.1 S.2.1 dL_law_32 (by rw [c17]; decide) (by rw [c17]; decide) (by rw [c17]; rfl) (by decide) ?_
      exact lc_hears Rel s17 hL S hr hlk hX hbl hK hE hdj x3 h0 hx1 kk u v H locs ls hR hl hw hg
    by_cases c18 : f = 18
    · refine lv_tableIn (tgt := 676) S.1 S.2.1 dL_law_32 (by rw [c18]; decide) (by rw [c18]; decide) (by rw [c18]; rfl) (by decide) ?_
      exact lc_forget Rel s18 hL S hr hlk hX hbl hK hE hdj x3 h0 hx1 kk u v H locs ls hR hl hw hg
    by_cases c19 : f = 19
    · refine lv_tableIn (tgt := 689) S.1 S.2.1 dL_law_32 (by rw [c19]; decide) (by rw [c19]; decide) (by rw [c19]; rfl) (by decide) ?_
      exact lc_who Rel s19 hL S hr hlk hX hbl hK hE hdj x3 h0 hx1 kk u v H locs ls hR hl hw hg
    by_cases c20 : f = 20
    · refine lv_tableIn (tgt := 702) S.1 S.2.1 dL_law_32 (by rw [c20]; decide) (by rw [c20]; decide) (by rw [c20]; rfl) (by decide) ?_
      exact lc_ask Rel s20 hL S hr hlk hX hbl hK hE hdj x3 h0 hx1 kk u v H locs ls hR hl hw hg
    by_cases c21 : f = 21
    · refine lv_tableIn (tgt := 715) S.1 S.2.1 dL_law_32 (by rw [c21]; decide) (by rw [c21]; decide) (by rw [c21]; rfl) (by decide) ?_
      exact lc_mark Rel s21 hL S hr hlk hX hbl hK hE hdj x3 h0 hx1 kk u v H locs ls hR hl hw hg
    by_cases c22 : f = 22
    · refine lv_tableIn (tgt := 748) S.1 S.2.1 dL_law_32 (by rw [c22]; decide) (by rw [c22]; decide) (by rw [c22]; rfl) (by decide) ?_
      exact lc_keep Rel s22 hL S hr hlk hX hbl hK hE hdj x3 h0 hx1 kk u v H locs ls hR hl hw hg
    by_cases c23 : f = 23
    · refine lv_tableIn (tgt := 771) S.1 S.2.1 dL_law_32 (by rw [c23]; decide) (by rw [c23]; decide) (by rw [c23]; rfl) (by decide) ?_
      exact lc_back Rel s23 hL S hr hlk hX hbl hK hE hdj x3 h0 hx1 kk u v H locs ls hR hl hw hg
    by_cases c24 : f = 24
    · refine lv_tableIn (tgt := 794) S.1 S.2.1 dL_law_32 (by rw [c24]; decide) (by rw [c24]; decide) (by rw [c24]; rfl) (by decide) ?_
      exact lc_count Rel s24 hL S hr hlk hX hbl hK hE hdj x3 h0 hx1 kk u v H locs ls hR hl hw hg
    by_cases c25 : f = 25
    · refine lv_tableIn (tgt := 817) S.1 S.2.1 dL_law_32 (by rw [c25]; decide) (by rw [c25]; decide) (by rw [c25]; rfl) (by decide) ?_
      exact lc_trace Rel s25 hL S hr hlk hX hbl hK hE hdj x3 h0 hx1 kk u v H locs ls hR hl hw hg
    have g0 : ¬ f.toInt = 0 := xq_ne c0 rfl rfl
    have g1 : ¬ f.toInt = 1 := xq_ne c1 rfl rfl
    have g2 : ¬ f.toInt = 2 := xq_ne c2 rfl rfl
    have g3 : ¬ f.toInt = 3 := xq_ne c3 rfl rfl
    have g4 : ¬ f.toInt = 4 := xq_ne c4 rfl rfl
    have g5 : ¬ f.toInt = 5 := xq_ne c5 rfl rfl
    have g6 : ¬ f.toInt = 6 := xq_ne c6 rfl rfl
    have g7 : ¬ f.toInt = 7 := xq_ne c7 rfl rfl
    have g8 : ¬ f.toInt = 8 := xq_ne c8 rfl rfl
    have g9 : ¬ f.toInt = 9 := xq_ne c9 rfl rfl
    have g10 : ¬ f.toInt = 10 := xq_ne c10 rfl rfl
    have g11 : ¬ f.toInt = 11 := xq_ne c11 rfl rfl
    have g12 : ¬ f.toInt = 12 := xq_ne c12 rfl rfl
    have g13 : ¬ f.toInt = 13 := xq_ne c13 rfl rfl
    have g14 : ¬ f.toInt = 14 := xq_ne c14 rfl rfl
    have g15 : ¬ f.toInt = 15 := xq_ne c15 rfl rfl
    have g16 : ¬ f.toInt = 16 := xq_ne c16 rfl rfl
    have g17 : ¬ f.toInt = 17 := xq_ne c17 rfl rfl
    have g18 : ¬ f.toInt = 18 := xq_ne c18 rfl rfl
    have g19 : ¬ f.toInt = 19 := xq_ne c19 rfl rfl
    have g20 : ¬ f.toInt = 20 := xq_ne c20 rfl rfl
    have g21 : ¬ f.toInt = 21 := xq_ne c21 rfl rfl
    have g22 : ¬ f.toInt = 22 := xq_ne c22 rfl rfl
    have g23 : ¬ f.toInt = 23 := xq_ne c23 rfl rfl
    have g24 : ¬ f.toInt = 24 := xq_ne c24 rfl rfl
    have g25 : ¬ f.toInt = 25 := xq_ne c25 rfl rfl
    refine lv_tableOut (tgt := 831) S.1 S.2.1 dL_law_32 (by omega) (by decide) ?_
    exact kk u v H locs ls hR hl hw hg
