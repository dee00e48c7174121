theorem djC_of {A : Nat → Prop} {a b : Nat → Nat} {Y : Nat → ClassId} {u v : xU} (hD : va_D A (wC a Y u ++ wM b Y v)) : djC a b := by
  intro i j hi hj e
  have hlC : (wC a Y u).length = 48 := rfl
  have hlM : (wM b Y v).length = 20 := rfl
  have hx : (wC a Y u)[i]? = some ((wC a Y u)[i]'(by rw [hlC]; exact hi)) := List.getElem?_eq_getElem _
  have hy : (wM b Y v)[j]? = some ((wM b Y v)[j]'(by rw [hlM]; exact hj)) := List.getElem?_eq_getElem _
  generalize (wC a Y u)[i]'(by rw [hlC]; exact hi) = x at hx
  generalize (wM b Y v)[j]'(by rw [hlM]; exact hj) = y at hy
  have h1 : (wC a Y u ++ wM b Y v)[i]? = some x := by rw [List.getElem?_append_left (by rw [hlC]; exact hi)]; exact hx
  have h2 : (wC a Y u ++ wM b Y v)[48 + j]? = some y := by rw [List.getElem?_append_right (by rw [hlC]; omega), hlC, Nat.add_sub_cancel_left]; exact hy
  have h3 := hD.1 i (48 + j) x y h1 h2 (by rw [(adC a Y u hx).1, (adM b Y v hy).1]; exact e)
  omega
set_option maxHeartbeats 4000000 in
set_option maxRecDepth 100000 in
theorem oCM {D : va_G} {A : Nat → Prop} {H : Heap} (Y : Nat → ClassId) (h0 h1 : Nat) (q z : Nat → Nat) (hP : va_P D vwCl (o_n_CastGallery Y h0 q ++ o_n_CastGalleryModel Y h1 z) H) (hD : va_D A (o_n_CastGallery Y h0 q ++ o_n_CastGalleryModel Y h1 z)) : va_P D vwCl (wC (aC h0 q) Y u0C ++ wM (aM h1 z) Y u0M) H ∧ va_D A (wC (aC h0 q) Y u0C ++ wM (aM h1 z) Y u0M) := by
  have e9 : (o_n_CastGallery Y h0 q ++ o_n_CastGalleryModel Y h1 z)[29]? = some (q 28, .inl (Y 2, 2, .inr (.inr (.inr (.inr (va_up (va_up (fun _ => none) 0 (some (q 29))) 1 (some (q 33)))))))) := rfl
  have hP1 := hP.set (e := .inl (Y 2, 2, .inr (.inr (.inr (.inr (fun j => if j = 0 then some (q 29) else some (q 33))))))) hD e9 (H1 := H) (by show H[q 28]? = some (vp_cell _ _); rw [← arr2]; exact hP 29 _ e9) (fun _ _ => rfl)
  have hD1 := hD.set (e := .inl (Y 2, 2, .inr (.inr (.inr (.inr (fun j => if j = 0 then some (q 29) else some (q 33))))))) e9
  exact ⟨hP1.sub [0, 1, 2, 11, 3, 4, 5, 6, 7, 8, 9, 10, 12, 13, 14, 15, 16, 17, 18, 19, 20, 21, 22, 23, 24, 25, 26, 27, 28, 29, 30, 31, 32, 33, 34, 35, 36, 37, 38, 39, 40, 41, 42, 43, 44, 45, 46, 47, 48, 49, 50, 51, 52, 53, 54, 55, 56, 57, 58, 59, 60, 61, 62, 63, 64, 65, 66, 67] rfl, hD1.sub [0, 1, 2, 11, 3, 4, 5, 6, 7, 8, 9, 10, 12, 13, 14, 15, 16, 17, 18, 19, 20, 21, 22, 23, 24, 25, 26, 27, 28, 29, 30, 31, 32, 33, 34, 35, 36, 37, 38, 39, 40, 41, 42, 43, 44, 45, 46, 47, 48, 49, 50, 51, 52, 53, 54, 55, 56, 57, 58, 59, 60, 61, 62, 63, 64, 65, 66, 67] (by decide) rfl⟩
set_option maxHeartbeats 4000000 in
set_option maxRecDepth 100000 in
theorem start_open (Rel : xU → xU → Prop) (hs : St_all Rel) (hR0 : Rel u0C u0M) {p : Program} {e : Env} {s : State} {m : MethodId} {below : List Frame} {meth : Method} {c : Code} (l : Launch) {b L : Nat} {xs : Nat → Int32} (hL : L ≤ 256) (C0 : lw_At p s m meth c b L xs) : W p l e room_1 s m #[Value.ref b] below meth c s.heap [] 0 0 (lw_Z below #[Value.ref b] s) (entryFrame m ([Value.ref b] : List Value).toArray 4) := by
  obtain ⟨D, Y, ts, hK, hE, hO⟩ := start_env C0
  obtain ⟨hx, hb, hr, hml, hown, hts, hX, hbl, hlocks, hgv⟩ := C0
  have S : CallFix p m c code 4 s #[Value.ref b] xT RL := ⟨hx, hb, hml, hown, fun w h => hts w (List.mem_filter.mp h).1⟩
  have hA : ∀ q : Nat, s.heap.size ≤ q → (fun q : Nat => s.heap.size ≤ q) q := fun _ h => h
  have hS : va_S (fun q : Nat => s.heap.size ≤ q) s.heap s.heap [] := va_S.rf
  have hP : va_P D vwCl [] s.heap := fun k q h => by simp at h
  have hD : va_D (fun q : Nat => s.heap.size ≤ q) [] := ⟨fun i j p q h => by simp at h, fun k q h => by simp at h⟩
  have hl := lv_entry ([.ref b]) (n := 4) (Nat.le_of_ble_eq_true rfl)
  rw [lg_entry_eq]
  generalize (lg_sl ([.ref b]) ++ List.replicate (4 - (lg_sl ([.ref b])).length) Slot.unset).toArray = ls at hl ⊢
  have hl : lv_has ls 4 [(0, .ref b)] := hl
  refine va_new (ci := 10) (fs := [.null, .null, .null, .null, .null, .null, .null, .null]) (C := RX10) (T := TX10) (N := 8) S.1 S.2.1 S.2.2.2.2 inX10 tyX10 tyX10_ok S.2.2.2.1 (S.2.2.2.2 _ clL_7) (S.2.2.2.2 _ isX10) (S.2.2.2.2 _ iiX10) hK hP hD hS hA rfl (fun j hj => by rcases (show j = 0 ∨ j = 1 ∨ j = 2 ∨ j = 3 ∨ j = 4 ∨ j = 5 ∨ j = 6 ∨ j = 7 by omega) with rfl | rfl | rfl | rfl | rfl | rfl | rfl | rfl <;> rfl) (Nat.le_of_ble_eq_true rfl) (Nat.le_of_ble_eq_true rfl) dL_law_0 (fun h0 H hP hD hS => ?_)
  refine lv_dup S.1 S.2.1 dL_law_3 rfl ?_
  refine xcI (n := 0) (rest := [.ref h0]) (As := []) (wc := [(h0, .inr (10, [.null, .null, .null, .null, .null, .null, .null, .null]))]) (wr := []) S hK hE hO hA hP hD hS (n_CastGallery l D Y ts h0) ycX10_init (Or.inr mlL_9) yiX10_init iiX10 rfl ⟨by decide +kernel, by decide +kernel, by decide +kernel⟩ [0] [] rfl rfl rfl (by decide) (by decide) (by decide) rfl rfl hl.1 ⟨Nat.le_of_ble_eq_true rfl, Nat.le_of_ble_eq_true rfl, Nat.le_of_ble_eq_true rfl, Nat.le_of_ble_eq_true rfl, Nat.le_of_ble_eq_true rfl⟩ dL_law_4 (fun q H locs hP hD hS => ?_)
  refine lv_astore_n (lv' := [(1, .ref h0), (0, .ref b)]) S.1 S.2.1 dL_law_7 rfl hl (by decide) rfl (fun ls hl => ?_)
  rw [List.nil_append] at hP hD
  refine va_new (ci := 11) (fs := [.int 0, .null, .null, .null, .null, .int 0, .null, .null, .null, .null, .null, .int 0, .null, .long 0, .null, .int 0, .int 0, .int 0, .int 0, .int 0, .int 0, .int 0, .int 0, .null, .null, .null, .null, .int 0, .null, .null, .null, .null]) (C := RX11) (T := TX11) (N := 32) S.1 S.2.1 S.2.2.2.2 inX11 tyX11 tyX11_ok S.2.2.2.1 (S.2.2.2.2 _ clL_10) (S.2.2.2.2 _ isX11) (S.2.2.2.2 _ iiX11) hK hP hD hS hA rfl (fun j hj => by rcases (show j = 0 ∨ j = 1 ∨ j = 2 ∨ j = 3 ∨ j = 4 ∨ j = 5 ∨ j = 6 ∨ j = 7 ∨ j = 8 ∨ j = 9 ∨ j = 10 ∨ j = 11 ∨ j = 12 ∨ j = 13 ∨ j = 14 ∨ j = 15 ∨ j = 16 ∨ j = 17 ∨ j = 18 ∨ j = 19 ∨ j = 20 ∨ j = 21 ∨ j = 22 ∨ j = 23 ∨ j = 24 ∨ j = 25 ∨ j = 26 ∨ j = 27 ∨ j = 28 ∨ j = 29 ∨ j = 30 ∨ j = 31 by omega) with rfl | rfl | rfl | rfl | rfl | rfl | rfl | rfl | rfl | rfl | rfl | rfl | rfl | rfl | rfl | rfl | rfl | rfl | rfl | rfl | rfl | rfl | rfl | rfl | rfl | rfl | rfl | rfl | rfl | rfl | rfl | rfl <;> rfl) (Nat.le_of_ble_eq_true rfl) (Nat.le_of_ble_eq_true rfl) dL_law_8 (fun h1 H hP hD hS => ?_)
  refine lv_dup S.1 S.2.1 dL_law_11 rfl ?_
  refine xcI (n := 0) (rest := [.ref h1]) (As := []) (wc := [(h1, .inr (11, [.int 0, .null, .null, .null, .null, .int 0, .null, .null, .null, .null, .null, .int 0, .null, .long 0, .null, .int 0, .int 0, .int 0, .int 0, .int 0, .int 0, .int 0, .int 0, .null, .null, .null, .null, .int 0, .null, .null, .null, .null]))]) (wr := o_n_CastGallery Y h0 q) S hK hE hO hA hP hD hS (n_CastGalleryModel l D Y ts h1) ycX11_init (Or.inr mlL_12) yiX11_init iiX11 rfl ⟨by decide +kernel, by decide +kernel, by decide +kernel⟩ [48] [0, 1, 2, 3, 4, 5, 6, 7, 8, 9, 10, 11, 12, 13, 14, 15, 16, 17, 18, 19, 20, 21, 22, 23, 24, 25, 26, 27, 28, 29, 30, 31, 32, 33, 34, 35, 36, 37, 38, 39, 40, 41, 42, 43, 44, 45, 46, 47] rfl rfl rfl (by decide) (by decide) (by decide) rfl rfl hl.1 ⟨Nat.le_of_ble_eq_true rfl, Nat.le_of_ble_eq_true rfl, Nat.le_of_ble_eq_true rfl, Nat.le_of_ble_eq_true rfl, Nat.le_of_ble_eq_true rfl⟩ dL_law_12 (fun z H locs hP hD hS => ?_)
  refine lv_astore_n (lv' := [(2, .ref h1), (1, .ref h0), (0, .ref b)]) S.1 S.2.1 dL_law_15 rfl hl (by decide) rfl (fun ls hl => ?_)
  obtain ⟨hP, hD⟩ := oCM Y h0 h1 q z hP hD
  refine lv_iconst (v := 0) S.1 S.2.1 dL_law_16 (by decide) ?_
  refine lv_istore_n (lv' := [(3, .int 0), (2, .ref h1), (1, .ref h0), (0, .ref b)]) S.1 S.2.1 dL_law_17 rfl hl (by decide) rfl (fun ls hl => ?_)
  refine W.widen (k := 600000) (n := 7302250) (Nat.le_of_ble_eq_true rfl) (Nat.le_of_ble_eq_true rfl) ?_
  refine law_loop Rel hs (a := aC h0 q) (b2 := aM h1 z) hL S hr hlocks hX hbl hK hE (djC_of hD) (L + 1) 0 (by decide) (by have : (0 : Int32).toInt = 0 := rfl; omega) (by decide) u0C u0M H locs ls hR0 (lv_sub hl [3, 2, 1, 0] rfl) ⟨hP.sub [0, 1, 2, 3, 4, 5, 6, 7, 8, 9, 10, 11, 12, 13, 14, 15, 16, 17, 18, 19, 20, 21, 22, 23, 24, 25, 26, 27, 28, 29, 30, 31, 32, 33, 34, 35, 36, 37, 38, 39, 40, 41, 42, 43, 44, 45, 46, 47] rfl, hD.sub [0, 1, 2, 3, 4, 5, 6, 7, 8, 9, 10, 11, 12, 13, 14, 15, 16, 17, 18, 19, 20, 21, 22, 23, 24, 25, 26, 27, 28, 29, 30, 31, 32, 33, 34, 35, 36, 37, 38, 39, 40, 41, 42, 43, 44, 45, 46, 47] (by decide) rfl, hS⟩ ⟨hP.sub [48, 49, 50, 51, 52, 53, 54, 55, 56, 57, 58, 59, 60, 61, 62, 63, 64, 65, 66, 67] rfl, hD.sub [48, 49, 50, 51, 52, 53, 54, 55, 56, 57, 58, 59, 60, 61, 62, 63, 64, 65, 66, 67] (by decide) rfl, hS⟩
