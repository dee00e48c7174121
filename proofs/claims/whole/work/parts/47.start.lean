def u0C : xU := (fun k => if k = 26 then fillF (fun _ => 0) 6 (-1) else fun _ => 0, 0)
def u0M : xU := (fun _ _ => 0, 0)
theorem arr2 (cA : ClassId) (x y : Nat) : vp_cell cA (2, .inr (.inr (.inr (.inr (va_up (va_up (fun _ => none) 0 (some x)) 1 (some y)))))) = vp_cell cA (2, .inr (.inr (.inr (.inr (fun j => if j = 0 then some x else some y))))) := by
  rw [vp_cell_q, vp_cell_q]
  unfold arrV
  congr 1
theorem start_env {p : Program} {s : State} {m : MethodId} {meth : Method} {c : Code} {b L : Nat} {xs : Nat → Int32} (C0 : lw_At p s m meth c b L xs) : ∃ (D : va_G) (Y : Nat → ClassId) (ts : Nat → Nat), va_K D vwCl (xty Y) s ∧ xE ts (fun q : Nat => s.heap.size ≤ q) s ∧ va_AO "CastGallery$Image" s := by
  obtain ⟨hx, hb, hr, hml, hown, hts, hX, hbl, hlocks, hgv⟩ := C0
  have hTT : ∀ w ∈ xT, w.before #[Value.ref b] s = true := fun w h => hts w (List.mem_filter.mp h).1
  obtain ⟨c0, i0, hKn0⟩ := u_known (C := RX0) (T := TX0) (N := 2) (n := 2) hTT inX0 (hTT _ isX0)
  obtain ⟨c1, i1, hKn1⟩ := u_known (C := RX1) (T := TX1) (N := 4) (n := 4) hTT inX1 (hTT _ isX1)
  obtain ⟨c2, i2, hKn2⟩ := u_known (C := RX2) (T := TX2) (N := 3) (n := 3) hTT inX2 (hTT _ isX2)
  obtain ⟨c3, i3, hKn3⟩ := u_known (C := RX3) (T := TX3) (N := 2) (n := 2) hTT inX3 (hTT _ isX3)
  obtain ⟨c4, i4, hKn4⟩ := u_known (C := RX4) (T := TX4) (N := 7) (n := 7) hTT inX4 (hTT _ isX4)
  obtain ⟨c5, i5, hKn5⟩ := u_known (C := RX5) (T := TX5) (N := 3) (n := 3) hTT inX5 (hTT _ isX5)
  obtain ⟨c6, i6, hKn6⟩ := u_known (C := RX6) (T := TX6) (N := 3) (n := 3) hTT inX6 (hTT _ isX6)
  obtain ⟨c7, i7, hKn7⟩ := u_known (C := RX7) (T := TX7) (N := 3) (n := 3) hTT inX7 (hTT _ isX7)
  obtain ⟨c8, i8, hKn8⟩ := u_known (C := RX8) (T := TX8) (N := 8) (n := 8) hTT inX8 (hTT _ isX8)
  obtain ⟨c9, i9, hKn9⟩ := u_known (C := RX9) (T := TX9) (N := 9) (n := 9) hTT inX9 (hTT _ isX9)
  obtain ⟨c10, i10, hKn10⟩ := u_known (C := RX10) (T := TX10) (N := 8) (n := 8) hTT inX10 (hTT _ isX10)
  obtain ⟨c11, i11, hKn11⟩ := u_known (C := RX11) (T := TX11) (N := 32) (n := 32) hTT inX11 (hTT _ isX11)
  obtain ⟨y0, k0, d0, e01, e02, e03⟩ := Cond.arrayClass_spec (hTT _ ac_i)
  obtain ⟨y1, k1, d1, e11, e12, e13⟩ := Cond.arrayClass_spec (hTT _ ac_z)
  have hO : va_AO "CastGallery$Image" s := va_AO.of (hts _ (List.mem_of_getElem? (i := 264) (by decide +kernel)))
  obtain ⟨comp, y2, k2, e21, e22, e23, e24, e25⟩ := Cond.arrayOver_spec hO
  have hA : ∀ a : Nat, a < s.heap.size → ¬ (fun q : Nat => s.heap.size ≤ q) a := fun a h => Nat.not_le.mpr h
  have hs := flat_of_before _ hgv
  have hel0 : ∀ j : Nat, j < 3 → (Term.elem (Term.static RX8 "THING_LEAST" "[I") (.int (Int32.ofNat j))).eval #[Value.ref b] s none [] s = some (.int (xzv 0 j)) := by
    intro j hj
    match j, hj with
    | 0, _ => exact va_eqt (z := 0) (hs (.eq (.elem (Term.static RX8 "THING_LEAST" "[I") (.int 0)) (.int 0)) (by decide +kernel))
    | 1, _ => exact va_eqt (z := 1) (hs (.eq (.elem (Term.static RX8 "THING_LEAST" "[I") (.int 1)) (.int 1)) (by decide +kernel))
    | 2, _ => exact va_eqt (z := 0) (hs (.eq (.elem (Term.static RX8 "THING_LEAST" "[I") (.int 2)) (.int 0)) (by decide +kernel))
  obtain ⟨t0, ht0, hT0⟩ := va_Tof (tm := (Term.static RX8 "THING_LEAST" "[I")) (ty := .int) (N := 3) (f := fun j => .int (xzv 0 j)) (A := fun q : Nat => s.heap.size ≤ q) (by decide) (hs (.arrayOf (Term.static RX8 "THING_LEAST" "[I") .int) (by decide +kernel)) (va_eqt (z := 3) (hs (.eq (.length (Term.static RX8 "THING_LEAST" "[I")) (.int 3)) (by decide +kernel))) hel0 hA
  have hZ0 : va_Z RX8 "THING_LEAST" "[I" (.ref t0) (fun q : Nat => s.heap.size ≤ q) s s.heap := va_Zref (hts (.laysStatic RX8 "THING_LEAST" "[I") (List.mem_of_getElem? (i := 420) (by decide +kernel))) (hTT _ iiX8) ht0 hA
  have hel1 : ∀ j : Nat, j < 3 → (Term.elem (Term.static RX8 "THING_MOST" "[I") (.int (Int32.ofNat j))).eval #[Value.ref b] s none [] s = some (.int (xzv 1 j)) := by
    intro j hj
    match j, hj with
    | 0, _ => exact va_eqt (z := 9) (hs (.eq (.elem (Term.static RX8 "THING_MOST" "[I") (.int 0)) (.int 9)) (by decide +kernel))
    | 1, _ => exact va_eqt (z := 30) (hs (.eq (.elem (Term.static RX8 "THING_MOST" "[I") (.int 1)) (.int 30)) (by decide +kernel))
    | 2, _ => exact va_eqt (z := 6) (hs (.eq (.elem (Term.static RX8 "THING_MOST" "[I") (.int 2)) (.int 6)) (by decide +kernel))
  obtain ⟨t1, ht1, hT1⟩ := va_Tof (tm := (Term.static RX8 "THING_MOST" "[I")) (ty := .int) (N := 3) (f := fun j => .int (xzv 1 j)) (A := fun q : Nat => s.heap.size ≤ q) (by decide) (hs (.arrayOf (Term.static RX8 "THING_MOST" "[I") .int) (by decide +kernel)) (va_eqt (z := 3) (hs (.eq (.length (Term.static RX8 "THING_MOST" "[I")) (.int 3)) (by decide +kernel))) hel1 hA
  have hZ1 : va_Z RX8 "THING_MOST" "[I" (.ref t1) (fun q : Nat => s.heap.size ≤ q) s s.heap := va_Zref (hts (.laysStatic RX8 "THING_MOST" "[I") (List.mem_of_getElem? (i := 422) (by decide +kernel))) (hTT _ iiX8) ht1 hA
  have hel2 : ∀ j : Nat, j < 3 → (Term.elem (Term.static RX8 "CAST_LEAST" "[I") (.int (Int32.ofNat j))).eval #[Value.ref b] s none [] s = some (.int (xzv 2 j)) := by
    intro j hj
    match j, hj with
    | 0, _ => exact va_eqt (z := 1) (hs (.eq (.elem (Term.static RX8 "CAST_LEAST" "[I") (.int 0)) (.int 1)) (by decide +kernel))
    | 1, _ => exact va_eqt (z := 1) (hs (.eq (.elem (Term.static RX8 "CAST_LEAST" "[I") (.int 1)) (.int 1)) (by decide +kernel))
    | 2, _ => exact va_eqt (z := 0) (hs (.eq (.elem (Term.static RX8 "CAST_LEAST" "[I") (.int 2)) (.int 0)) (by decide +kernel))
  obtain ⟨t2, ht2, hT2⟩ := va_Tof (tm := (Term.static RX8 "CAST_LEAST" "[I")) (ty := .int) (N := 3) (f := fun j => .int (xzv 2 j)) (A := fun q : Nat => s.heap.size ≤ q) (by decide) (hs (.arrayOf (Term.static RX8 "CAST_LEAST" "[I") .int) (by decide +kernel)) (va_eqt (z := 3) (hs (.eq (.length (Term.static RX8 "CAST_LEAST" "[I")) (.int 3)) (by decide +kernel))) hel2 hA
  have hZ2 : va_Z RX8 "CAST_LEAST" "[I" (.ref t2) (fun q : Nat => s.heap.size ≤ q) s s.heap := va_Zref (hts (.laysStatic RX8 "CAST_LEAST" "[I") (List.mem_of_getElem? (i := 428) (by decide +kernel))) (hTT _ iiX8) ht2 hA
  have hel3 : ∀ j : Nat, j < 3 → (Term.elem (Term.static RX8 "CAST_MOST" "[I") (.int (Int32.ofNat j))).eval #[Value.ref b] s none [] s = some (.int (xzv 3 j)) := by
    intro j hj
    match j, hj with
    | 0, _ => exact va_eqt (z := 99) (hs (.eq (.elem (Term.static RX8 "CAST_MOST" "[I") (.int 0)) (.int 99)) (by decide +kernel))
    | 1, _ => exact va_eqt (z := 9) (hs (.eq (.elem (Term.static RX8 "CAST_MOST" "[I") (.int 1)) (.int 9)) (by decide +kernel))
    | 2, _ => exact va_eqt (z := 63) (hs (.eq (.elem (Term.static RX8 "CAST_MOST" "[I") (.int 2)) (.int 63)) (by decide +kernel))
  obtain ⟨t3, ht3, hT3⟩ := va_Tof (tm := (Term.static RX8 "CAST_MOST" "[I")) (ty := .int) (N := 3) (f := fun j => .int (xzv 3 j)) (A := fun q : Nat => s.heap.size ≤ q) (by decide) (hs (.arrayOf (Term.static RX8 "CAST_MOST" "[I") .int) (by decide +kernel)) (va_eqt (z := 3) (hs (.eq (.length (Term.static RX8 "CAST_MOST" "[I")) (.int 3)) (by decide +kernel))) hel3 hA
  have hZ3 : va_Z RX8 "CAST_MOST" "[I" (.ref t3) (fun q : Nat => s.heap.size ≤ q) s s.heap := va_Zref (hts (.laysStatic RX8 "CAST_MOST" "[I") (List.mem_of_getElem? (i := 430) (by decide +kernel))) (hTT _ iiX8) ht3 hA
  refine ⟨(fun k => ([c0, c1, c2, c3, c4, c5, c6, c7, c8, c9, c10, c11] : List ClassId).getD k c0, fun k => ([i0, i1, i2, i3, i4, i5, i6, i7, i8, i9, i10, i11] : List (Nat → Nat)).getD k i0), fun k => ([y0, y1, y2] : List ClassId).getD k y0, fun k => ([t0, t1, t2, t3] : List Nat).getD k 0, ⟨?_, ?_⟩, ⟨?_, ?_⟩, hO⟩
  · intro k q hq
    match k, hq with
    | 0, hq => cases hq; exact hKn0
    | 1, hq => cases hq; exact hKn1
    | 2, hq => cases hq; exact hKn2
    | 3, hq => cases hq; exact hKn3
    | 4, hq => cases hq; exact hKn4
    | 5, hq => cases hq; exact hKn5
    | 6, hq => cases hq; exact hKn6
    | 7, hq => cases hq; exact hKn7
    | 8, hq => cases hq; exact hKn8
    | 9, hq => cases hq; exact hKn9
    | 10, hq => cases hq; exact hKn10
    | 11, hq => cases hq; exact hKn11
    | k + 12, hq => simp [vwCl] at hq
  · intro k q hq
    match k, hq with
    | 0, hq => cases hq; exact ⟨fun n z => ⟨fun k h => (by cases h), k0, e02, d0, e03⟩, e01⟩
    | 1, hq => cases hq; exact ⟨fun n z => ⟨fun k h => (by cases h), k1, e12, d1, e13⟩, e11⟩
    | 2, hq => cases hq; exact ⟨fun n z => ⟨fun k h => (by cases h), k2, e23, comp, e24⟩, k2, comp, e23, e24, e21, e25⟩
    | k + 3, hq => simp [xty] at hq
  · intro q hq
    simp only [xnl, List.mem_cons, List.not_mem_nil, or_false] at hq
    rcases hq with rfl | rfl | rfl | rfl | rfl | rfl | rfl | rfl | rfl | rfl
    · exact va_Nw.of rfl (hts _ (List.mem_of_getElem? (i := 75) (by decide +kernel)))
    · exact va_Nw.of rfl (hts _ (List.mem_of_getElem? (i := 81) (by decide +kernel)))
    · exact va_Nw.of rfl (hts _ (List.mem_of_getElem? (i := 174) (by decide +kernel)))
    · exact va_Nw.of rfl (hts _ (List.mem_of_getElem? (i := 179) (by decide +kernel)))
    · exact va_Nw.of rfl (hts _ (List.mem_of_getElem? (i := 248) (by decide +kernel)))
    · exact va_Nw.of rfl (hts _ (List.mem_of_getElem? (i := 266) (by decide +kernel)))
    · exact va_Nw.of rfl (hts _ (List.mem_of_getElem? (i := 271) (by decide +kernel)))
    · exact va_Nw.of rfl (hts _ (List.mem_of_getElem? (i := 467) (by decide +kernel)))
    · exact va_Nw.of rfl (hts _ (List.mem_of_getElem? (i := 593) (by decide +kernel)))
    · exact va_Nw.of rfl (hts _ (List.mem_of_getElem? (i := 656) (by decide +kernel)))
  · intro k hk
    match k, hk with
    | 0, _ => exact ⟨hZ0, hT0⟩
    | 1, _ => exact ⟨hZ1, hT1⟩
    | 2, _ => exact ⟨hZ2, hT2⟩
    | 3, _ => exact ⟨hZ3, hT3⟩
def aC (h0 : Nat) (q : Nat → Nat) (k : Nat) : Nat := ([h0, (q 0), (q 1), (q 10), (q 2), (q 3), (q 4), (q 5), (q 6), (q 7), (q 8), (q 9), (q 11), (q 12), (q 13), (q 14), (q 15), (q 16), (q 17), (q 18), (q 19), (q 20), (q 21), (q 22), (q 23), (q 24), (q 25), (q 26), (q 27), (q 28), (q 29), (q 30), (q 31), (q 32), (q 33), (q 34), (q 35), (q 36), (q 37), (q 38), (q 39), (q 40), (q 41), (q 42), (q 43), (q 44), (q 45), (q 46)] : List Nat).getD k 0
def aM (h0 : Nat) (q : Nat → Nat) (k : Nat) : Nat := match k with
  | 0 => h0
  | k + 1 => q k
set_option maxHeartbeats 4000000 in
set_option maxRecDepth 100000 in
theorem oC_wC {D : va_G} {A : Nat → Prop} {H : Heap} (Y : Nat → ClassId) (h0 : Nat) (q : Nat → Nat) (hP : va_P D vwCl (o_n_CastGallery Y h0 q) H) (hD : va_D A (o_n_CastGallery Y h0 q)) : va_P D vwCl (wC (aC h0 q) Y u0C) H ∧ va_D A (wC (aC h0 q) Y u0C) := by
  have e9 : (o_n_CastGallery Y h0 q)[29]? = some (q 28, .inl (Y 2, 2, .inr (.inr (.inr (.inr (va_up (va_up (fun _ => none) 0 (some (q 29))) 1 (some (q 33)))))))) := rfl
  have hP1 := hP.set (e := .inl (Y 2, 2, .inr (.inr (.inr (.inr (fun j => if j = 0 then some (q 29) else some (q 33))))))) hD e9 (H1 := H) (by show H[q 28]? = some (vp_cell _ _); rw [← arr2]; exact hP 29 _ e9) (fun _ _ => rfl)
  have hD1 := hD.set (e := .inl (Y 2, 2, .inr (.inr (.inr (.inr (fun j => if j = 0 then some (q 29) else some (q 33))))))) e9
  exact ⟨hP1.sub [0, 1, 2, 11, 3, 4, 5, 6, 7, 8, 9, 10, 12, 13, 14, 15, 16, 17, 18, 19, 20, 21, 22, 23, 24, 25, 26, 27, 28, 29, 30, 31, 32, 33, 34, 35, 36, 37, 38, 39, 40, 41, 42, 43, 44, 45, 46, 47] rfl, hD1.sub [0, 1, 2, 11, 3, 4, 5, 6, 7, 8, 9, 10, 12, 13, 14, 15, 16, 17, 18, 19, 20, 21, 22, 23, 24, 25, 26, 27, 28, 29, 30, 31, 32, 33, 34, 35, 36, 37, 38, 39, 40, 41, 42, 43, 44, 45, 46, 47] (by decide) rfl⟩
set_option maxHeartbeats 4000000 in
set_option maxRecDepth 100000 in
theorem oM_wM (Y : Nat → ClassId) (h0 : Nat) (q : Nat → Nat) : o_n_CastGalleryModel Y h0 q = wM (aM h0 q) Y u0M := rfl
