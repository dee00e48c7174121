section XL
variable {p : Program} {l : Launch} {e : Env} {R : Room} {s : State} {m : MethodId} {args : Array Value} {below : List Frame} {meth : Method} {c : Code} {H : Heap} {locs : List Loc} {cells slots : Nat} {Q : State → Prop}
variable {cc : ByteArray} {pc nL index : Nat} {ls : Array Slot} {rest : List Value} {own : String} {D : va_G} {tys : List (ClassId × FieldType)} {wf wg : xU → va_W} {ts : Nat → Nat} {A : Nat → Prop} {u v : xU} {a ci : Nat} {fs : List Value} {C : String} {T : u_T} {N : Nat}
theorem xoth {H1 : Heap} {locs1 : List Loc} (hw : xw D wf A s.heap H locs u) (hg : xw D wg A s.heap H locs v) (hdj : ∀ (i j : Nat) (x y : Nat × va_E), (wf u)[i]? = some x → (wg v)[j]? = some y → x.1 ≠ y.1) (hk1 : ∀ q : Nat, q < H.size → ¬ va_A (wf u) H.size q → H1[q]? = H[q]?) (hS : va_S A s.heap H1 locs1) : xw D wg A s.heap H1 locs1 v :=
  ⟨hg.1.kept (fun k q hk => hk1 q.1 (hg.1 k q hk).lt (fun h => by
    rcases h with ⟨i, e, h⟩ | h
    · exact hdj i k _ _ h hk rfl
    · exact absurd (hg.1 k q hk).lt (by omega))), hg.2.1, hS⟩
theorem xli {y : MethodName} {bytes : ByteArray} {maxL n : Nat} {ret : Option FieldType} {rm : Room} {As st0 : List Value} {r : Int32} {u2 : xU} {b : Nat} (S : CallFix p m c cc nL s args xT own) (hK : va_K D vwCl tys s) (hE : xE ts A s) (hA : ∀ q, s.heap.size ≤ q → A q) (hw : xw D wf A s.heap H locs u) (hg : xw D wg A s.heap H locs v) (hdj : ∀ (i j : Nat) (x y : Nat × va_E), (wf u)[i]? = some x → (wg v)[j]? = some y → x.1 ≠ y.1) (hY : xYv C y bytes maxL ret n) (hM : xMi l y bytes maxL ret rm D tys wf ts (.ref b :: As) u (r, u2)) (q0 : Nat) (he : (wf u)[q0]? = some (b, .inr (ci, fs))) (hc : vwCl[ci]? = some (C, T, N)) (hlk : Cond.methodLink own index y ∈ xT) (hn : As.length = n) (hst : st0 = As.reverse ++ .ref b :: rest) (hls : ls.size = nL) (hz : rm.cells = 0 ∧ rm.slots = 0 ∧ rm.frames + 1 ≤ R.frames ∧ 8 + (maxL + 11) + rm.locals ≤ R.locals ∧ (rest.map fun v => v.category).sum ≤ 8 ∧ cells ≤ R.cells ∧ slots ≤ R.slots) (hdg : decode cc pc = .ok (.invokevirtual index, 3))
    (kk : ∀ (H1 : Heap) (locs1 : List Loc), xw D wf A s.heap H1 locs1 u2 → xw D wg A s.heap H1 locs1 v → W p l e R s m args below meth c H1 locs1 cells slots Q (F0 m (pc + 3) ls (.int r :: rest))) : W p l e R s m args below meth c H locs cells slots Q (F0 m pc ls st0) := by
  obtain ⟨hcode, hinst, hsel, hini, hd⟩ := hY
  obtain ⟨z1, z2, z3, z4, z5, z6, z7⟩ := hz
  refine va_calli (A0 := A) (H0 := s.heap) (va_runV (As := As) (rest := rest) S (hM H.size) ⟨callB_of n S.2.2.2.2 (xGc hcode) rfl z1 z2 (S.2.2.2.2 _ hini) (S.2.2.2.2 _ hlk) hd ⟨z3, z4⟩, S.2.2.2.2 _ hinst, S.2.2.2.2 _ hsel⟩ (xcVp (y := y) (bytes := bytes) (maxL := maxL) (n := n) (ret := ret) (rm := rm) (fc := .int) hK hE hA hw he hc) rfl hn hls hst (lv_room z5) hdg ⟨z6, z7⟩) hw.2.2 (fun q _ h => xA hw.2.1 hw.2.2 hA q h) (xA hw.2.1 hw.2.2 hA) (fun r v t H1 locs1 ht hvm hp hB hz1 hk1 hS => ?_)
  cases hp
  exact kk H1 locs1 ⟨ht ▸ hB.1, hB.2.weaken (fun k q _ h => xA hw.2.1 hw.2.2 hA q.1 h), hS⟩ (xoth hw hg hdj hk1 hS)
theorem xll {y : MethodName} {bytes : ByteArray} {maxL n : Nat} {ret : Option FieldType} {rm : Room} {As st0 : List Value} {r : Int64} {u2 : xU} {b : Nat} (S : CallFix p m c cc nL s args xT own) (hK : va_K D vwCl tys s) (hE : xE ts A s) (hA : ∀ q, s.heap.size ≤ q → A q) (hw : xw D wf A s.heap H locs u) (hg : xw D wg A s.heap H locs v) (hdj : ∀ (i j : Nat) (x y : Nat × va_E), (wf u)[i]? = some x → (wg v)[j]? = some y → x.1 ≠ y.1) (hY : xYv C y bytes maxL ret n) (hM : xMl l y bytes maxL ret rm D tys wf ts (.ref b :: As) u (r, u2)) (q0 : Nat) (he : (wf u)[q0]? = some (b, .inr (ci, fs))) (hc : vwCl[ci]? = some (C, T, N)) (hlk : Cond.methodLink own index y ∈ xT) (hn : As.length = n) (hst : st0 = As.reverse ++ .ref b :: rest) (hls : ls.size = nL) (hz : rm.cells = 0 ∧ rm.slots = 0 ∧ rm.frames + 1 ≤ R.frames ∧ 8 + (maxL + 11) + rm.locals ≤ R.locals ∧ (rest.map fun v => v.category).sum ≤ 8 ∧ cells ≤ R.cells ∧ slots ≤ R.slots) (hdg : decode cc pc = .ok (.invokevirtual index, 3))
    (kk : ∀ (H1 : Heap) (locs1 : List Loc), xw D wf A s.heap H1 locs1 u2 → xw D wg A s.heap H1 locs1 v → W p l e R s m args below meth c H1 locs1 cells slots Q (F0 m (pc + 3) ls (.long r :: rest))) : W p l e R s m args below meth c H locs cells slots Q (F0 m pc ls st0) := by
  obtain ⟨hcode, hinst, hsel, hini, hd⟩ := hY
  obtain ⟨z1, z2, z3, z4, z5, z6, z7⟩ := hz
  refine va_calll (A0 := A) (H0 := s.heap) (va_runV (As := As) (rest := rest) S (hM H.size) ⟨callB_of n S.2.2.2.2 (xGc hcode) rfl z1 z2 (S.2.2.2.2 _ hini) (S.2.2.2.2 _ hlk) hd ⟨z3, z4⟩, S.2.2.2.2 _ hinst, S.2.2.2.2 _ hsel⟩ (xcVp (y := y) (bytes := bytes) (maxL := maxL) (n := n) (ret := ret) (rm := rm) (fc := .int) hK hE hA hw he hc) rfl hn hls hst (lv_room z5) hdg ⟨z6, z7⟩) hw.2.2 (fun q _ h => xA hw.2.1 hw.2.2 hA q h) (xA hw.2.1 hw.2.2 hA) (fun r v t H1 locs1 ht hvm hp hB hz1 hk1 hS => ?_)
  cases hp
  exact kk H1 locs1 ⟨ht ▸ hB.1, hB.2.weaken (fun k q _ h => xA hw.2.1 hw.2.2 hA q.1 h), hS⟩ (xoth hw hg hdj hk1 hS)
end XL
theorem adC (a : Nat → Nat) (Y : Nat → ClassId) (u : xU) {i : Nat} {x : Nat × va_E} (h : (wC a Y u)[i]? = some x) : x.1 = a i ∧ i < 48 := by
  have e : (wC a Y u).map Prod.fst = (List.range 48).map a := rfl
  have hl : i < 48 := (List.getElem?_eq_some_iff.mp h).1
  have e2 := congrArg (fun l => l[i]?) e
  simp only [List.getElem?_map, h, List.getElem?_range hl, Option.map_some] at e2
  exact ⟨Option.some.inj e2, hl⟩
theorem adM (a : Nat → Nat) (Y : Nat → ClassId) (u : xU) {i : Nat} {x : Nat × va_E} (h : (wM a Y u)[i]? = some x) : x.1 = a i ∧ i < 20 := by
  have e : (wM a Y u).map Prod.fst = (List.range 20).map a := rfl
  have hl : i < 20 := (List.getElem?_eq_some_iff.mp h).1
  have e2 := congrArg (fun l => l[i]?) e
  simp only [List.getElem?_map, h, List.getElem?_range hl, Option.map_some] at e2
  exact ⟨Option.some.inj e2, hl⟩
def djC (a b : Nat → Nat) : Prop := ∀ i j : Nat, i < 48 → j < 20 → a i ≠ b j
theorem djC.cm {a b : Nat → Nat} {Y : Nat → ClassId} {u v : xU} (h : djC a b) : ∀ (i j : Nat) (x y : Nat × va_E), (wC a Y u)[i]? = some x → (wM b Y v)[j]? = some y → x.1 ≠ y.1 := fun i j x y hx hy => by
  rw [(adC a Y u hx).1, (adM b Y v hy).1]; exact h i j (adC a Y u hx).2 (adM b Y v hy).2
theorem djC.mc {a b : Nat → Nat} {Y : Nat → ClassId} {u v : xU} (h : djC a b) : ∀ (i j : Nat) (x y : Nat × va_E), (wM b Y v)[i]? = some x → (wC a Y u)[j]? = some y → x.1 ≠ y.1 := fun i j x y hx hy e => h.cm j i y x hy hx e.symm
