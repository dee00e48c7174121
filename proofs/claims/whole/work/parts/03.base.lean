/-! ===== the pure state of a world: the ints of each cell, and one long ===== -/
abbrev xU : Type := (Nat → Nat → Int32) × Int64
def sp (u : xU) (k : Nat) (f : Nat → Int32) : xU := (fun j => if j = k then f else u.1 j, u.2)
def sl (u : xU) (v : Int64) : xU := (u.1, v)
def b2i (b : Bool) : Int32 := match b with
  | true => 1
  | false => 0
theorem b2i_z (b : Bool) : narrow .boolean (.int (b2i b)) = .int (b2i b) := by cases b <;> rfl
/-! ===== the words ===== -/
def xT : List Cond := lw_tbl.filter goodWord
theorem xm {w : Cond} (i : Nat) (h : lw_tbl[i]? = some w) (g : goodWord w = true) : w ∈ xT := List.mem_filter.mpr ⟨List.mem_of_getElem? h, g⟩
theorem xTT : GoodIn xT xT := fun w h => ⟨h, good_of_word (List.mem_filter.mp h).2⟩
theorem xGc {w : Cond} (h : w ∈ xT) : GoodIn xT (w :: xT) := fun v hv => (List.mem_cons.mp hv).elim (fun e => by rw [e]; exact xTT _ h) (fun h => xTT _ h)
def xnl : List (String × Nat × MethodName × String) := [(RX10, 9, yX8_init, RX10), (RX8, 17, yX9_init, RX10), (RX10, 18, yX0_init, RX10), (RX0, 11, yX9_init, RX10), (RX10, 25, yX6_init, RX10), (RX10, 36, yX2_init, RX10), (RX2, 17, yX6_init, RX10), (RX0, 47, yX10_has, RX10), (RX7, 62, yX10_has, RX10), (RX5, 45, yX10_has, RX10)]
def xN (U : State) : Prop := ∀ q ∈ xnl, va_Nw (.methodLinkNest q.1 q.2.1 q.2.2.1 q.2.2.2) U
def xzn (k : Nat) : String := match k with
  | 0 => "THING_LEAST"
  | 1 => "THING_MOST"
  | 2 => "CAST_LEAST"
  | _ => "CAST_MOST"
def xzv (k j : Nat) : Int32 := match k with
  | 0 => (match j with | 0 => 0 | 1 => 1 | _ => 0)
  | 1 => (match j with | 0 => 9 | 1 => 30 | _ => 6)
  | 2 => (match j with | 0 => 1 | 1 => 1 | _ => 0)
  | _ => (match j with | 0 => 99 | 1 => 9 | _ => 63)
def xE (ts : Nat → Nat) (A : Nat → Prop) (U : State) : Prop := xN U ∧ ∀ k, k < 4 → va_Z RX8 (xzn k) "[I" (.ref (ts k)) A U U.heap ∧ va_T .int (ts k) 3 (fun j => .int (xzv k j)) A U U.heap
theorem xE.blind {ts : Nat → Nat} {A : Nat → Prop} {U : State} (h : xE ts A U) (g : JFrame) (mk : MethodId) (a : Array Value) : xE ts A (U.calling g mk a) :=
  ⟨fun q hq => va_Nw.same rfl rfl (h.1 q hq), fun k hk => ⟨va_Z.moved (u := U) (U := U.calling g mk a) (Vm.Alike.refl U.vm) (h.2 k hk).1, va_T.moved (u := U) (U := U.calling g mk a) (Vm.Alike.refl U.vm) (h.2 k hk).2⟩⟩
theorem xE.to {ts : Nat → Nat} {A B : Nat → Prop} {s U : State} {H : Heap} {locs : List Loc} (h : xE ts A s) (hS : va_S A s.heap H locs) (hU : U.heap = H) (hW : s.WarmedH U.vm) (hAB : ∀ q, B q → A q) : xE ts B U := by
  subst hU
  exact ⟨fun q hq => va_Nw.warmM hW (h.1 q hq), fun k hk => ⟨(va_Z.moved hW.alike ((h.2 k hk).1.kept hS.2.1)).narrow hAB, (va_T.moved hW.alike ((h.2 k hk).2.kept hS.2.1)).narrow hAB⟩⟩
/-! ===== worlds and contracts ===== -/
def xw (D : va_G) (wf : xU → va_W) (A : Nat → Prop) (H0 H : Heap) (locs : List Loc) (u : xU) : Prop := va_P D vwCl (wf u) H ∧ va_D A (wf u) ∧ va_S A H0 H locs
def xPre (D : va_G) (tys : List (ClassId × FieldType)) (wf : xU → va_W) (ts : Nat → Nat) (sz : Nat) (u : xU) (U : State) : Prop :=
  U.heap.size = sz ∧ va_P D vwCl (wf u) U.heap ∧ va_K D vwCl tys U ∧ va_D (va_A (wf u) sz) (wf u) ∧ xE ts (va_A (wf u) sz) U
def xPost (D : va_G) (wf : xU → va_W) (A : Nat → Prop) (v : xU) (t : State) : Prop := va_P D vwCl (wf v) t.heap ∧ va_D A (wf v)
/-- a method that answers an int: the answer and the new state are V -/
def xMi (l : Launch) (y : MethodName) (cc : ByteArray) (n : Nat) (ret : Option FieldType) (rm : Room) (D : va_G) (tys : List (ClassId × FieldType)) (wf : xU → va_W) (ts : Nat → Nat) (av : List Value) (u : xU) (V : Int32 × xU) : Prop :=
  ∀ sz, Met l y (.code y cc n ret :: xT) rm (va_Pc av (xPre D tys wf ts sz u)) (va_Qi (fun r v => (r, v) = V) (xPost D wf (va_A (wf u) sz)) (va_A (wf u) sz)) 0 0 (va_A (wf u) sz)
def xMl (l : Launch) (y : MethodName) (cc : ByteArray) (n : Nat) (ret : Option FieldType) (rm : Room) (D : va_G) (tys : List (ClassId × FieldType)) (wf : xU → va_W) (ts : Nat → Nat) (av : List Value) (u : xU) (V : Int64 × xU) : Prop :=
  ∀ sz, Met l y (.code y cc n ret :: xT) rm (va_Pc av (xPre D tys wf ts sz u)) (va_Ql (fun r v => (r, v) = V) (xPost D wf (va_A (wf u) sz)) (va_A (wf u) sz)) 0 0 (va_A (wf u) sz)
def xMv (l : Launch) (y : MethodName) (cc : ByteArray) (n : Nat) (ret : Option FieldType) (rm : Room) (D : va_G) (tys : List (ClassId × FieldType)) (wf : xU → va_W) (ts : Nat → Nat) (av : List Value) (u : xU) (V : xU) : Prop :=
  ∀ sz, Met l y (.code y cc n ret :: xT) rm (va_Pc av (xPre D tys wf ts sz u)) (va_Qv (fun v => v = V) (xPost D wf (va_A (wf u) sz)) (va_A (wf u) sz)) 0 0 (va_A (wf u) sz)
/-- a static method of ints alone -/
def xP (l : Launch) (y : MethodName) (cc : ByteArray) (n : Nat) (ret : Option FieldType) (rm : Room) (av : List Value) (V : Int32) : Prop :=
  Met l y (.code y cc n ret :: xT) rm (va_Pc av (fun _ => True)) (va_Qi (fun r (_ : Unit) => r = V) (fun _ _ => True) (fun _ => False)) 0 0 (fun _ => False)
abbrev xRm (f n : Nat) : Room := { frames := f, cells := 0, slots := 0, locals := n }
theorem xPre.blind (D : va_G) (tys : List (ClassId × FieldType)) (wf : xU → va_W) (ts : Nat → Nat) (sz : Nat) (u : xU) (av : List Value) : FrameBlind (va_Pc av (xPre D tys wf ts sz u)) := fun a U g mk q => by
  obtain ⟨q0, q1, qP, qK, qD, qE⟩ := q
  exact ⟨q0, q1, qP, va_K.moved (u := U) (U := U.calling g mk a) (Vm.Alike.refl U.vm) qK, qD, qE.blind g mk a⟩
theorem xA {A0 : Nat → Prop} {ws : va_W} {H0 H : Heap} {locs : List Loc} (hD : va_D A0 ws) (hS : va_S A0 H0 H locs) (hA : ∀ q, H0.size ≤ q → A0 q) : ∀ q, va_A ws H.size q → A0 q := by
  intro q h
  rcases h with ⟨k, e, h⟩ | h
  · exact hD.2 k (q, e) h
  · exact hA q (Nat.le_trans hS.1 h)
/-- what a static, an instance method's words are -/
def xYs (y : MethodName) (cc : ByteArray) (n : Nat) (ret : Option FieldType) (k : Nat) : Prop := Cond.code y cc n ret ∈ xT ∧ Cond.static y ∈ xT ∧ Cond.initialized y.cls ∈ xT ∧ (y.cls ≠ "java/lang/invoke/MethodHandle" ∧ y.cls ≠ "java/lang/invoke/VarHandle" ∧ (parseMethodDescriptor y.desc).map (fun d => d.parameters.length) = some k)
def xYv (C : String) (y : MethodName) (cc : ByteArray) (n : Nat) (ret : Option FieldType) (k : Nat) : Prop := Cond.code y cc n ret ∈ xT ∧ Cond.instanceMethod y ∈ xT ∧ Cond.selects C y y ∈ xT ∧ Cond.initialized y.cls ∈ xT ∧ (y.cls ≠ "java/lang/invoke/MethodHandle" ∧ y.cls ≠ "java/lang/invoke/VarHandle" ∧ (parseMethodDescriptor y.desc).map (fun d => d.parameters.length) = some k)
section XW
variable {p : Program} {l : Launch} {e : Env} {R : Room} {s : State} {m : MethodId} {args : Array Value} {below : List Frame} {meth : Method} {c : Code} {H : Heap} {locs : List Loc} {cells slots : Nat} {Q : State → Prop}
variable {cc : ByteArray} {pc nL index : Nat} {ls : Array Slot} {rest : List Value} {own : String} {D : va_G} {tys : List (ClassId × FieldType)} {wf : xU → va_W} {ts : Nat → Nat} {A : Nat → Prop} {u : xU} {a ci : Nat} {fs : List Value} {C : String} {T : u_T} {N : Nat}
theorem xget (S : CallFix p m c cc nL s args xT own) (hK : va_K D vwCl tys s) (hw : xw D wf A s.heap H locs u) (q0 : Nat) (he : (wf u)[q0]? = some (a, .inr (ci, fs))) (hc : vwCl[ci]? = some (C, T, N)) (hin : ∀ w ∈ u_ws C T N, w ∈ xT) (k : Nat) (hk : k < N) (hlink : Cond.fieldLink own index (T k).1 (T k).2.1 (T k).2.2.1 ∈ xT) {v : Value} (hv : fs[k]? = some v) (hdg : decode cc pc = .ok (.getfield index, 3))
    (kk : W p l e R s m args below meth c H locs cells slots Q (F0 m (pc + 3) ls (v :: rest))) : W p l e R s m args below meth c H locs cells slots Q (F0 m pc ls (.ref a :: rest)) :=
  va_get S.1 S.2.1 S.2.2.2.2 hin S.2.2.2.1 hK hw.1 q0 he hc k hk (S.2.2.2.2 _ hlink) (fun _ h => h) hv hdg kk
theorem xputi (S : CallFix p m c cc nL s args xT own) (hK : va_K D vwCl tys s) (hw : xw D wf A s.heap H locs u) (q0 : Nat) (he : (wf u)[q0]? = some (a, .inr (ci, fs))) (hc : vwCl[ci]? = some (C, T, N)) (hin : ∀ w ∈ u_ws C T N, w ∈ xT) (ty0 : Nat → FieldType) (hty : ∀ k, k < N → parseFieldDescriptor (T k).2.2.1 = some (ty0 k)) (hnm : ∀ a, a < N → ∀ b, b < N → a ≠ b → (T a).2.1 ≠ (T b).2.1) (k : Nat) (hk : k < N) (hlink : Cond.fieldLink own index (T k).1 (T k).2.1 (T k).2.2.1 ∈ xT) (hfin : (T k).2.2.2 = false) {ty : FieldType} {x : Int32} (hd : parseFieldDescriptor (T k).2.2.1 = some ty) (hn : narrow ty (.int x) = .int x) (hfit : fits ty (.int x) = true) (hl : k < fs.length)
    (hset : (wf u).set q0 (a, .inr (ci, fs.set k (.int x))) = wf (sp u q0 (upd (u.1 q0) k x)))
    (hdg : decode cc pc = .ok (.putfield index, 3)) (kk : ∀ (H1 : Heap) (locs1 : List Loc), xw D wf A s.heap H1 locs1 (sp u q0 (upd (u.1 q0) k x)) → W p l e R s m args below meth c H1 locs1 cells slots Q (F0 m (pc + 3) ls rest)) : W p l e R s m args below meth c H locs cells slots Q (F0 m pc ls (.int x :: .ref a :: rest)) :=
  va_put S.1 S.2.1 S.2.2.2.2 hin ty0 hty hnm S.2.2.2.1 hK hw.1 hw.2.1 hw.2.2 q0 he hc k hk (S.2.2.2.2 _ hlink) (fun _ h => h) hfin hd hn hfit hl hdg (fun H1 locs1 h1 h2 h3 => kk H1 locs1 ⟨hset ▸ h1, hset ▸ h2, h3⟩)
theorem xputl (S : CallFix p m c cc nL s args xT own) (hK : va_K D vwCl tys s) (hw : xw D wf A s.heap H locs u) (q0 : Nat) (he : (wf u)[q0]? = some (a, .inr (ci, fs))) (hc : vwCl[ci]? = some (C, T, N)) (hin : ∀ w ∈ u_ws C T N, w ∈ xT) (ty0 : Nat → FieldType) (hty : ∀ k, k < N → parseFieldDescriptor (T k).2.2.1 = some (ty0 k)) (hnm : ∀ a, a < N → ∀ b, b < N → a ≠ b → (T a).2.1 ≠ (T b).2.1) (k : Nat) (hk : k < N) (hlink : Cond.fieldLink own index (T k).1 (T k).2.1 (T k).2.2.1 ∈ xT) (hfin : (T k).2.2.2 = false) {x : Int64} (hd : parseFieldDescriptor (T k).2.2.1 = some .long) (hl : k < fs.length)
    (hset : (wf u).set q0 (a, .inr (ci, fs.set k (.long x))) = wf (sl u x))
    (hdg : decode cc pc = .ok (.putfield index, 3)) (kk : ∀ (H1 : Heap) (locs1 : List Loc), xw D wf A s.heap H1 locs1 (sl u x) → W p l e R s m args below meth c H1 locs1 cells slots Q (F0 m (pc + 3) ls rest)) : W p l e R s m args below meth c H locs cells slots Q (F0 m pc ls (.long x :: .ref a :: rest)) :=
  va_put S.1 S.2.1 S.2.2.2.2 hin ty0 hty hnm S.2.2.2.1 hK hw.1 hw.2.1 hw.2.2 q0 he hc k hk (S.2.2.2.2 _ hlink) (fun _ h => h) hfin hd rfl rfl hl hdg (fun H1 locs1 h1 h2 h3 => kk H1 locs1 ⟨hset ▸ h1, hset ▸ h2, h3⟩)
theorem xald (S : CallFix p m c cc nL s args xT own) (hK : va_K D vwCl tys s) (hw : xw D wf A s.heap H locs u) (q0 t0 : Nat) {cA : ClassId} {n : Nat} {f : Nat → Int32} (ha : (wf u)[q0]? = some (a, .inl (cA, n, .inl f))) (ht : tys[t0]? = some (cA, .int)) {i : Int32} (hin : vp_in i n) (hdg : decode cc pc = .ok (.iaload, 1))
    (kk : W p l e R s m args below meth c H locs cells slots Q (F0 m (pc + 1) ls (.int (f i.toNatClampNeg) :: rest))) : W p l e R s m args below meth c H locs cells slots Q (F0 m pc ls (.int i :: .ref a :: rest)) :=
  va_iald S.1 S.2.1 hK hw.1 q0 t0 ha ht hin hdg kk
theorem xaldz (S : CallFix p m c cc nL s args xT own) (hK : va_K D vwCl tys s) (hw : xw D wf A s.heap H locs u) (q0 t0 : Nat) {cA : ClassId} {n : Nat} {f : Nat → Int32} (ha : (wf u)[q0]? = some (a, .inl (cA, n, .inl f))) (ht : tys[t0]? = some (cA, .boolean)) {i : Int32} (hin : vp_in i n) (hdg : decode cc pc = .ok (.baload, 1))
    (kk : W p l e R s m args below meth c H locs cells slots Q (F0 m (pc + 1) ls (.int (f i.toNatClampNeg) :: rest))) : W p l e R s m args below meth c H locs cells slots Q (F0 m pc ls (.int i :: .ref a :: rest)) :=
  va_zald S.1 S.2.1 hK hw.1 q0 t0 ha ht hin hdg kk
theorem xast (S : CallFix p m c cc nL s args xT own) (hK : va_K D vwCl tys s) (hw : xw D wf A s.heap H locs u) (q0 t0 : Nat) {cA : ClassId} {n : Nat} (ha : (wf u)[q0]? = some (a, .inl (cA, n, .inl (u.1 q0)))) (ht : tys[t0]? = some (cA, .int)) {i x : Int32} (hin : vp_in i n)
    (hset : (wf u).set q0 (a, .inl (cA, n, .inl (upd (u.1 q0) i.toNatClampNeg x))) = wf (sp u q0 (upd (u.1 q0) i.toNatClampNeg x))) (hdg : decode cc pc = .ok (.iastore, 1))
    (kk : ∀ (H1 : Heap) (locs1 : List Loc), xw D wf A s.heap H1 locs1 (sp u q0 (upd (u.1 q0) i.toNatClampNeg x)) → W p l e R s m args below meth c H1 locs1 cells slots Q (F0 m (pc + 1) ls rest)) : W p l e R s m args below meth c H locs cells slots Q (F0 m pc ls (.int x :: .int i :: .ref a :: rest)) :=
  va_iast S.1 S.2.1 hK hw.1 hw.2.1 hw.2.2 q0 t0 ha ht hin hdg (fun H1 locs1 h1 h2 h3 => kk H1 locs1 ⟨hset ▸ h1, hset ▸ h2, h3⟩)
theorem xastz (S : CallFix p m c cc nL s args xT own) (hK : va_K D vwCl tys s) (hw : xw D wf A s.heap H locs u) (q0 t0 : Nat) {cA : ClassId} {n : Nat} (ha : (wf u)[q0]? = some (a, .inl (cA, n, .inl (u.1 q0)))) (ht : tys[t0]? = some (cA, .boolean)) {i x : Int32} (hx : vp_nar .boolean x = x) (hin : vp_in i n)
    (hset : (wf u).set q0 (a, .inl (cA, n, .inl (upd (u.1 q0) i.toNatClampNeg x))) = wf (sp u q0 (upd (u.1 q0) i.toNatClampNeg x))) (hdg : decode cc pc = .ok (.bastore, 1))
    (kk : ∀ (H1 : Heap) (locs1 : List Loc), xw D wf A s.heap H1 locs1 (sp u q0 (upd (u.1 q0) i.toNatClampNeg x)) → W p l e R s m args below meth c H1 locs1 cells slots Q (F0 m (pc + 1) ls rest)) : W p l e R s m args below meth c H locs cells slots Q (F0 m pc ls (.int x :: .int i :: .ref a :: rest)) :=
  va_zast S.1 S.2.1 hK hw.1 hw.2.1 hw.2.2 q0 t0 ha ht hin hdg (fun H1 locs1 h1 h2 h3 => kk H1 locs1 ⟨hset ▸ hx ▸ h1, hset ▸ hx ▸ h2, h3⟩)
theorem xcpy (S : CallFix p m c cc nL s args xT own) (hlk : Cond.methodLink own index arraycopyName ∈ xT) (hnat : Cond.native arraycopyName ∈ xT) (hstat : Cond.static arraycopyName ∈ xT) (hini : Cond.initialized "java/lang/System" ∈ xT)
    (hK : va_K D vwCl tys s) (hw : xw D wf A s.heap H locs u) (hls : ls.size = nL) (q0 q1 t0 : Nat) {a0 : Nat} {cA : ClassId} {n0 n1 : Nat} {f : Nat → Int32} (ha0 : (wf u)[q0]? = some (a0, .inl (cA, n0, .inl f))) (ha1 : (wf u)[q1]? = some (a, .inl (cA, n1, .inl (u.1 q1)))) (ht : tys[t0]? = some (cA, .int))
    {x y n : Int32} (h1 : 0 ≤ x.toInt) (h2 : 0 ≤ y.toInt) (h3 : 0 ≤ n.toInt) (h4 : x.toInt + n.toInt ≤ n0) (h5 : y.toInt + n.toInt ≤ n1)
    (hR : 1 ≤ R.frames ∧ (rest.map fun v => v.category).sum + (nativeFrameWords "java/lang/System" "arraycopy" 5 + 11) ≤ R.locals)
    (hset : (wf u).set q1 (a, .inl (cA, n1, .inl (va_cpy f (u.1 q1) x.toNatClampNeg y.toNatClampNeg n.toNatClampNeg))) = wf (sp u q1 (va_cpy f (u.1 q1) x.toNatClampNeg y.toNatClampNeg n.toNatClampNeg))) (hdg : decode cc pc = .ok (.invokestatic index, 3))
    (kk : ∀ (H1 : Heap) (locs1 : List Loc), xw D wf A s.heap H1 locs1 (sp u q1 (va_cpy f (u.1 q1) x.toNatClampNeg y.toNatClampNeg n.toNatClampNeg)) → W p l e R s m args below meth c H1 locs1 cells slots Q (F0 m (pc + 3) ls rest)) : W p l e R s m args below meth c H locs cells slots Q (F0 m pc ls (.int n :: .int y :: .ref a :: .int x :: .ref a0 :: rest)) := by
  have nn : ∀ z : Int32, 0 ≤ z.toInt → ¬ z < 0 := fun z hz h => by
    have := Int32.lt_iff_toInt_lt.mp h
    have h0 : (0 : Int32).toInt = 0 := rfl
    omega
  have nc : ∀ z : Int32, 0 ≤ z.toInt → (z.toNatClampNeg : Int) = z.toInt := fun z hz => by
    show ((z.toInt.toNat : Nat) : Int) = _
    omega
  have e1 := nc x h1
  have e2 := nc y h2
  have e3 := nc n h3
  exact va_copyi S.1 S.2.1 (S.2.2.1.trans hls.symm) S.2.2.2.1 (S.2.2.2.2 _ hlk) (S.2.2.2.2 _ hnat) (S.2.2.2.2 _ hstat) (S.2.2.2.2 _ hini) hK hw.1 hw.2.1 hw.2.2 q0 q1 t0 t0 ha0 ha1 ht ht rfl (nn x h1) (nn y h2) (nn n h3) (by omega) (by omega) (fun _ _ => rfl) hR.1 hR.2 hdg (fun H1 locs1 g1 g2 g3 => kk H1 locs1 ⟨hset ▸ g1, hset ▸ g2, g3⟩)
/-! calls -/
theorem xcP {y : MethodName} {bytes : ByteArray} {maxL n : Nat} {ret : Option FieldType} {rm : Room} {As st0 : List Value} {V : Int32} (S : CallFix p m c cc nL s args xT own) (hw : xw D wf A s.heap H locs u) (hY : xYs y bytes maxL ret n) (hM : xP l y bytes maxL ret rm As V) (hlk : Cond.methodLink own index y ∈ xT) (hn : As.length = n) (hst : st0 = As.reverse ++ rest) (hls : ls.size = nL) (hz : rm.cells = 0 ∧ rm.slots = 0 ∧ rm.frames + 1 ≤ R.frames ∧ 8 + (maxL + 11) + rm.locals ≤ R.locals ∧ (rest.map fun v => v.category).sum ≤ 8 ∧ cells ≤ R.cells ∧ slots ≤ R.slots) (hdg : decode cc pc = .ok (.invokestatic index, 3))
    (kk : ∀ (H1 : Heap) (locs1 : List Loc), xw D wf A s.heap H1 locs1 u → W p l e R s m args below meth c H1 locs1 cells slots Q (F0 m (pc + 3) ls (.int V :: rest))) : W p l e R s m args below meth c H locs cells slots Q (F0 m pc ls st0) := by
  obtain ⟨hcode, hstat, hini, hd⟩ := hY
  obtain ⟨z1, z2, z3, z4, z5, z6, z7⟩ := hz
  refine va_calli (A0 := A) (H0 := s.heap) (va_runS (As := As) (rest := rest) S hM ⟨callB_of n S.2.2.2.2 (xGc hcode) rfl z1 z2 (S.2.2.2.2 _ hini) (S.2.2.2.2 _ hlk) hd ⟨z3, z4⟩, S.2.2.2.2 _ hstat⟩ ⟨fun a U g mk q => ⟨q.1, trivial⟩, fun U hU hW => ⟨rfl, trivial⟩⟩ rfl hn hls hst (lv_room z5) hdg ⟨z6, z7⟩) hw.2.2 (fun q _ h => h.elim) (fun q h => h.elim) (fun r v t H1 locs1 ht hvm hp hB hz1 hk1 hS => ?_)
  subst hp
  exact kk H1 locs1 ⟨hw.1.kept (fun k q hk => hk1 q.1 (hw.1 k q hk).lt (fun h => h)), hw.2.1, hS⟩
theorem xcPN {y : MethodName} {bytes : ByteArray} {maxL n : Nat} {ret : Option FieldType} {rm : Room} {As st0 : List Value} {V : Int32} {host : String} (S : CallFix p m c cc nL s args xT own) (hE : xE ts A s) (hw : xw D wf A s.heap H locs u) (hY : xYs y bytes maxL ret n) (hM : xP l y bytes maxL ret rm As V) (hlk : (own, index, y, host) ∈ xnl) (hn : As.length = n) (hst : st0 = As.reverse ++ rest) (hls : ls.size = nL) (hz : rm.cells = 0 ∧ rm.slots = 0 ∧ rm.frames + 1 ≤ R.frames ∧ 8 + (maxL + 11) + rm.locals ≤ R.locals ∧ (rest.map fun v => v.category).sum ≤ 8 ∧ cells ≤ R.cells ∧ slots ≤ R.slots) (hdg : decode cc pc = .ok (.invokestatic index, 3))
    (kk : ∀ (H1 : Heap) (locs1 : List Loc), xw D wf A s.heap H1 locs1 u → W p l e R s m args below meth c H1 locs1 cells slots Q (F0 m (pc + 3) ls (.int V :: rest))) : W p l e R s m args below meth c H locs cells slots Q (F0 m pc ls st0) := by
  obtain ⟨hcode, hstat, hini, hd⟩ := hY
  obtain ⟨z1, z2, z3, z4, z5, z6, z7⟩ := hz
  refine va_calli (A0 := A) (H0 := s.heap) (va_runSN (As := As) (rest := rest) S hM ⟨va_cnB n S.2.2.2.2 (xGc hcode) rfl z1 z2 (hE.1 _ hlk) (S.2.2.2.2 _ hini) hd ⟨z3, z4⟩, S.2.2.2.2 _ hstat, trivial⟩ ⟨fun a U g mk q => ⟨q.1, trivial⟩, fun U hU hW => ⟨rfl, trivial⟩⟩ rfl hn hls hst (lv_room z5) hdg ⟨z6, z7⟩) hw.2.2 (fun q _ h => h.elim) (fun q h => h.elim) (fun r v t H1 locs1 ht hvm hp hB hz1 hk1 hS => ?_)
  subst hp
  exact kk H1 locs1 ⟨hw.1.kept (fun k q hk => hk1 q.1 (hw.1 k q hk).lt (fun h => h)), hw.2.1, hS⟩
theorem xcVp {y : MethodName} {bytes : ByteArray} {maxL n : Nat} {ret : Option FieldType} {rm : Room} {As : List Value} {fc : FieldType} {b q0 : Nat} (hK : va_K D vwCl tys s) (hE : xE ts A s) (hA : ∀ q, s.heap.size ≤ q → A q) (hw : xw D wf A s.heap H locs u) (he : (wf u)[q0]? = some (b, .inr (ci, fs))) (hc : vwCl[ci]? = some (C, T, N)) : PreV s H C b (va_Pc (.ref b :: As) (xPre D tys wf ts H.size u)) As :=
  ⟨xPre.blind D tys wf ts H.size u _, va_recv hK hw.1 hc he, fun U hU hW => ⟨rfl, by rw [hU], by rw [hU]; exact hw.1, va_K.moved hW.alike hK, hw.2.1.self, hE.to hw.2.2 hU hW (xA hw.2.1 hw.2.2 hA)⟩⟩
theorem xcV {y : MethodName} {bytes : ByteArray} {maxL n : Nat} {ret : Option FieldType} {rm : Room} {As st0 : List Value} {V : Int32 × xU} {b : Nat} (S : CallFix p m c cc nL s args xT own) (hK : va_K D vwCl tys s) (hE : xE ts A s) (hA : ∀ q, s.heap.size ≤ q → A q) (hw : xw D wf A s.heap H locs u) (hY : xYv C y bytes maxL ret n) (hM : xMi l y bytes maxL ret rm D tys wf ts (.ref b :: As) u V) (q0 : Nat) (he : (wf u)[q0]? = some (b, .inr (ci, fs))) (hc : vwCl[ci]? = some (C, T, N)) (hlk : Cond.methodLink own index y ∈ xT) (hn : As.length = n) (hst : st0 = As.reverse ++ .ref b :: rest) (hls : ls.size = nL) (hz : rm.cells = 0 ∧ rm.slots = 0 ∧ rm.frames + 1 ≤ R.frames ∧ 8 + (maxL + 11) + rm.locals ≤ R.locals ∧ (rest.map fun v => v.category).sum ≤ 8 ∧ cells ≤ R.cells ∧ slots ≤ R.slots) (hdg : decode cc pc = .ok (.invokevirtual index, 3))
    (kk : ∀ (H1 : Heap) (locs1 : List Loc), xw D wf A s.heap H1 locs1 V.2 → W p l e R s m args below meth c H1 locs1 cells slots Q (F0 m (pc + 3) ls (.int V.1 :: rest))) : W p l e R s m args below meth c H locs cells slots Q (F0 m pc ls st0) := by
  obtain ⟨hcode, hinst, hsel, hini, hd⟩ := hY
  obtain ⟨z1, z2, z3, z4, z5, z6, z7⟩ := hz
  refine va_calli (A0 := A) (H0 := s.heap) (va_runV (As := As) (rest := rest) S (hM H.size) ⟨callB_of n S.2.2.2.2 (xGc hcode) rfl z1 z2 (S.2.2.2.2 _ hini) (S.2.2.2.2 _ hlk) hd ⟨z3, z4⟩, S.2.2.2.2 _ hinst, S.2.2.2.2 _ hsel⟩ (xcVp (y := y) (bytes := bytes) (maxL := maxL) (n := n) (ret := ret) (rm := rm) (fc := .int) hK hE hA hw he hc) rfl hn hls hst (lv_room z5) hdg ⟨z6, z7⟩) hw.2.2 (fun q _ h => xA hw.2.1 hw.2.2 hA q h) (xA hw.2.1 hw.2.2 hA) (fun r v t H1 locs1 ht hvm hp hB hz1 hk1 hS => ?_)
  subst hp
  exact kk H1 locs1 ⟨ht ▸ hB.1, hB.2.weaken (fun k q _ h => xA hw.2.1 hw.2.2 hA q.1 h), hS⟩
theorem xcVl {y : MethodName} {bytes : ByteArray} {maxL n : Nat} {ret : Option FieldType} {rm : Room} {As st0 : List Value} {V : Int64 × xU} {b : Nat} (S : CallFix p m c cc nL s args xT own) (hK : va_K D vwCl tys s) (hE : xE ts A s) (hA : ∀ q, s.heap.size ≤ q → A q) (hw : xw D wf A s.heap H locs u) (hY : xYv C y bytes maxL ret n) (hM : xMl l y bytes maxL ret rm D tys wf ts (.ref b :: As) u V) (q0 : Nat) (he : (wf u)[q0]? = some (b, .inr (ci, fs))) (hc : vwCl[ci]? = some (C, T, N)) (hlk : Cond.methodLink own index y ∈ xT) (hn : As.length = n) (hst : st0 = As.reverse ++ .ref b :: rest) (hls : ls.size = nL) (hz : rm.cells = 0 ∧ rm.slots = 0 ∧ rm.frames + 1 ≤ R.frames ∧ 8 + (maxL + 11) + rm.locals ≤ R.locals ∧ (rest.map fun v => v.category).sum ≤ 8 ∧ cells ≤ R.cells ∧ slots ≤ R.slots) (hdg : decode cc pc = .ok (.invokevirtual index, 3))
    (kk : ∀ (H1 : Heap) (locs1 : List Loc), xw D wf A s.heap H1 locs1 V.2 → W p l e R s m args below meth c H1 locs1 cells slots Q (F0 m (pc + 3) ls (.long V.1 :: rest))) : W p l e R s m args below meth c H locs cells slots Q (F0 m pc ls st0) := by
  obtain ⟨hcode, hinst, hsel, hini, hd⟩ := hY
  obtain ⟨z1, z2, z3, z4, z5, z6, z7⟩ := hz
  refine va_calll (A0 := A) (H0 := s.heap) (va_runV (As := As) (rest := rest) S (hM H.size) ⟨callB_of n S.2.2.2.2 (xGc hcode) rfl z1 z2 (S.2.2.2.2 _ hini) (S.2.2.2.2 _ hlk) hd ⟨z3, z4⟩, S.2.2.2.2 _ hinst, S.2.2.2.2 _ hsel⟩ (xcVp (y := y) (bytes := bytes) (maxL := maxL) (n := n) (ret := ret) (rm := rm) (fc := .int) hK hE hA hw he hc) rfl hn hls hst (lv_room z5) hdg ⟨z6, z7⟩) hw.2.2 (fun q _ h => xA hw.2.1 hw.2.2 hA q h) (xA hw.2.1 hw.2.2 hA) (fun r v t H1 locs1 ht hvm hp hB hz1 hk1 hS => ?_)
  subst hp
  exact kk H1 locs1 ⟨ht ▸ hB.1, hB.2.weaken (fun k q _ h => xA hw.2.1 hw.2.2 hA q.1 h), hS⟩
theorem xcVv {y : MethodName} {bytes : ByteArray} {maxL n : Nat} {ret : Option FieldType} {rm : Room} {As st0 : List Value} {V : xU} {b : Nat} (S : CallFix p m c cc nL s args xT own) (hK : va_K D vwCl tys s) (hE : xE ts A s) (hA : ∀ q, s.heap.size ≤ q → A q) (hw : xw D wf A s.heap H locs u) (hY : xYv C y bytes maxL ret n) (hM : xMv l y bytes maxL ret rm D tys wf ts (.ref b :: As) u V) (q0 : Nat) (he : (wf u)[q0]? = some (b, .inr (ci, fs))) (hc : vwCl[ci]? = some (C, T, N)) (hlk : Cond.methodLink own index y ∈ xT) (hn : As.length = n) (hst : st0 = As.reverse ++ .ref b :: rest) (hls : ls.size = nL) (hz : rm.cells = 0 ∧ rm.slots = 0 ∧ rm.frames + 1 ≤ R.frames ∧ 8 + (maxL + 11) + rm.locals ≤ R.locals ∧ (rest.map fun v => v.category).sum ≤ 8 ∧ cells ≤ R.cells ∧ slots ≤ R.slots) (hdg : decode cc pc = .ok (.invokevirtual index, 3))
    (kk : ∀ (H1 : Heap) (locs1 : List Loc), xw D wf A s.heap H1 locs1 V → W p l e R s m args below meth c H1 locs1 cells slots Q (F0 m (pc + 3) ls rest)) : W p l e R s m args below meth c H locs cells slots Q (F0 m pc ls st0) := by
  obtain ⟨hcode, hinst, hsel, hini, hd⟩ := hY
  obtain ⟨z1, z2, z3, z4, z5, z6, z7⟩ := hz
  refine va_callv (A0 := A) (H0 := s.heap) (va_runV (As := As) (rest := rest) S (hM H.size) ⟨callB_of n S.2.2.2.2 (xGc hcode) rfl z1 z2 (S.2.2.2.2 _ hini) (S.2.2.2.2 _ hlk) hd ⟨z3, z4⟩, S.2.2.2.2 _ hinst, S.2.2.2.2 _ hsel⟩ (xcVp (y := y) (bytes := bytes) (maxL := maxL) (n := n) (ret := ret) (rm := rm) (fc := .int) hK hE hA hw he hc) rfl hn hls hst (lv_room z5) hdg ⟨z6, z7⟩) hw.2.2 (fun q _ h => xA hw.2.1 hw.2.2 hA q h) (xA hw.2.1 hw.2.2 hA) (fun v t H1 locs1 ht hvm hp hB hz1 hk1 hS => ?_)
  subst hp
  exact kk H1 locs1 ⟨ht ▸ hB.1, hB.2.weaken (fun k q _ h => xA hw.2.1 hw.2.2 hA q.1 h), hS⟩
theorem xmax (S : CallFix p m c cc nL s args xT own) (hls : ls.size = nL) (hlk : Cond.methodLink own index Lib.Math.max.name ∈ xT) (hstat : Cond.static Lib.Math.max.name ∈ xT) (hini : Cond.initialized "java/lang/Math" ∈ xT) (hcode : Cond.code Lib.Math.max.name Lib.Math.max.code 2 (some .int) ∈ xT) (hz : 1 ≤ R.frames ∧ (rest.map fun v => v.category).sum + 13 ≤ R.locals ∧ cells ≤ R.cells ∧ slots ≤ R.slots) {x y : Int32} (hdg : decode cc pc = .ok (.invokestatic index, 3))
    (kk : W p l e R s m args below meth c H locs cells slots Q (F0 m (pc + 3) ls (.int (if x < y then y else x) :: rest))) : W p l e R s m args below meth c H locs cells slots Q (F0 m pc ls (.int y :: .int x :: rest)) :=
  va_mmax S.1 S.2.1 (S.2.2.1.trans hls.symm) S.2.2.2.1 (S.2.2.2.2 _ hlk) (S.2.2.2.2 _ hstat) (S.2.2.2.2 _ hini) (S.2.2.2.2 _ hcode) hz.1 hz.2.1 hz.2.2.1 hz.2.2.2 hdg kk
theorem xmin (S : CallFix p m c cc nL s args xT own) (hls : ls.size = nL) (hlk : Cond.methodLink own index Lib.Math.min.name ∈ xT) (hstat : Cond.static Lib.Math.min.name ∈ xT) (hini : Cond.initialized "java/lang/Math" ∈ xT) (hcode : Cond.code Lib.Math.min.name Lib.Math.min.code 2 (some .int) ∈ xT) (hz : 1 ≤ R.frames ∧ (rest.map fun v => v.category).sum + 13 ≤ R.locals ∧ cells ≤ R.cells ∧ slots ≤ R.slots) {x y : Int32} (hdg : decode cc pc = .ok (.invokestatic index, 3))
    (kk : W p l e R s m args below meth c H locs cells slots Q (F0 m (pc + 3) ls (.int (if y < x then y else x) :: rest))) : W p l e R s m args below meth c H locs cells slots Q (F0 m pc ls (.int y :: .int x :: rest)) :=
  va_mmin S.1 S.2.1 (S.2.2.1.trans hls.symm) S.2.2.2.1 (S.2.2.2.2 _ hlk) (S.2.2.2.2 _ hstat) (S.2.2.2.2 _ hini) (S.2.2.2.2 _ hcode) hz.1 hz.2.1 hz.2.2.1 hz.2.2.2 hdg kk
/-! ends -/
theorem xri {V : Int32 × xU} {r : Int32} (S : CallFix p m c cc nL s args xT own) (hr : meth.sig.returnType = some .int) (hlocks : meth.locks = false) (hw : xw D wf A s.heap H locs u) (hV : V = (r, u)) (hdg : decode cc pc = .ok (.ireturn, 1)) : W p l e R s m args below meth c H locs 0 0 (MQ below (va_Qi (fun r v => (r, v) = V) (xPost D wf A) A) args s 0 0 A) (F0 m pc ls [.int r]) :=
  W.iret (v := r) S.1 S.2.1 hr (fun t ht hW => ⟨⟨r, u, rfl, hV.symm, ht ▸ hw.1, hw.2.1⟩, hw.2.2.F ht⟩) hw.2.2.2.2 hdg hlocks
theorem xrz {V : Int32 × xU} {r : Int32} (S : CallFix p m c cc nL s args xT own) (hr : meth.sig.returnType = some .boolean) (hlocks : meth.locks = false) (hw : xw D wf A s.heap H locs u) (hn : narrow .boolean (.int r) = .int r) (hV : V = (r, u)) (hdg : decode cc pc = .ok (.ireturn, 1)) : W p l e R s m args below meth c H locs 0 0 (MQ below (va_Qi (fun r v => (r, v) = V) (xPost D wf A) A) args s 0 0 A) (F0 m pc ls [.int r]) :=
  W.zret (v := r) S.1 S.2.1 hr hn (fun t ht hW => ⟨⟨r, u, rfl, hV.symm, ht ▸ hw.1, hw.2.1⟩, hw.2.2.F ht⟩) hw.2.2.2.2 hdg hlocks
theorem xrl {V : Int64 × xU} {r : Int64} (S : CallFix p m c cc nL s args xT own) (hr : meth.sig.returnType = some .long) (hlocks : meth.locks = false) (hw : xw D wf A s.heap H locs u) (hV : V = (r, u)) (hdg : decode cc pc = .ok (.lreturn, 1)) : W p l e R s m args below meth c H locs 0 0 (MQ below (va_Ql (fun r v => (r, v) = V) (xPost D wf A) A) args s 0 0 A) (F0 m pc ls [.long r]) :=
  W.lret (v := r) S.1 S.2.1 hr (fun t ht hW => ⟨⟨r, u, rfl, hV.symm, ht ▸ hw.1, hw.2.1⟩, hw.2.2.F ht⟩) hw.2.2.2.2 hdg hlocks
theorem xrv {V : xU} (S : CallFix p m c cc nL s args xT own) (hr : meth.sig.returnType = none) (hlocks : meth.locks = false) (hw : xw D wf A s.heap H locs u) (hV : V = u) (hdg : decode cc pc = .ok (.return_, 1)) : W p l e R s m args below meth c H locs 0 0 (MQ below (va_Qv (fun v => v = V) (xPost D wf A) A) args s 0 0 A) (F0 m pc ls []) :=
  W.vret S.1 S.2.1 hr (fun t ht hW => ⟨⟨u, rfl, hV.symm, ht ▸ hw.1, hw.2.1⟩, hw.2.2.F ht⟩) hw.2.2.2.2 hdg hlocks
/-! the same of a static method of ints: its world is nothing -/
theorem yri {V r : Int32} (S : CallFix p m c cc nL s args xT own) (hr : meth.sig.returnType = some .int) (hlocks : meth.locks = false) (hw : xw D wf (fun _ => False) s.heap H locs u) (hV : V = r) (hdg : decode cc pc = .ok (.ireturn, 1)) : W p l e R s m args below meth c H locs 0 0 (MQ below (va_Qi (fun r (_ : Unit) => r = V) (fun _ _ => True) (fun _ => False)) args s 0 0 (fun _ => False)) (F0 m pc ls [.int r]) :=
  W.iret (v := r) S.1 S.2.1 hr (fun t ht hW => ⟨⟨r, (), rfl, hV.symm, trivial⟩, hw.2.2.F ht⟩) hw.2.2.2.2 hdg hlocks
theorem yrz {V r : Int32} (S : CallFix p m c cc nL s args xT own) (hr : meth.sig.returnType = some .boolean) (hlocks : meth.locks = false) (hw : xw D wf (fun _ => False) s.heap H locs u) (hn : narrow .boolean (.int r) = .int r) (hV : V = r) (hdg : decode cc pc = .ok (.ireturn, 1)) : W p l e R s m args below meth c H locs 0 0 (MQ below (va_Qi (fun r (_ : Unit) => r = V) (fun _ _ => True) (fun _ => False)) args s 0 0 (fun _ => False)) (F0 m pc ls [.int r]) :=
  W.zret (v := r) S.1 S.2.1 hr hn (fun t ht hW => ⟨⟨r, (), rfl, hV.symm, trivial⟩, hw.2.2.F ht⟩) hw.2.2.2.2 hdg hlocks
end XW
/-! entries -/
def xEnt (n : Nat) (av : List Value) (ls : Array Slot) : Prop := lv_has ls n (lv_args 0 av)
theorem xofP {l : Launch} {y : MethodName} {cc : ByteArray} {n : Nat} {ret : Option FieldType} {rm : Room} {av : List Value} {V : Int32} (own : String) (hown : y.cls = own) (hy : plainName y.cls = true) (hn : (lg_sl av).length ≤ n)
    (body : ∀ p e s m args below meth c ls H locs, CallFix p m c cc n s args xT own → meth.sig.returnType = ret → meth.locks = false → lv_has ls n (lv_args 0 av) → xw (fun _ => 0, fun _ _ => 0) (fun _ => []) (fun _ => False) s.heap H locs (fun _ _ => 0, 0) → W p l e rm s m args below meth c H locs 0 0 (MQ below (va_Qi (fun r (_ : Unit) => r = V) (fun _ _ => True) (fun _ => False)) args s 0 0 (fun _ => False)) (F0 m 0 ls [])) : xP l y cc n ret rm av V := by
  refine Met.ofW (cc := cc) (maxL := n) (ret := ret) hy rfl ?_
  intro p e s m args below meth c s₁ B hml hv
  obtain ⟨rfl, -⟩ := hv
  rw [lg_entry_eq]
  have hts := atoms_spec (ws := .code y cc n ret :: xT) B.pre
  refine body p e s m _ below meth c _ s.heap [] ⟨B.exec, B.bytes, hml, hown ▸ findClass_of_methodNamed B.named, fun w h => hts w (List.mem_cons_of_mem _ h)⟩ B.returns B.notSynchronized (lv_entry av hn) ⟨fun k q h => by simp at h, ⟨fun i j p q h => by simp at h, fun k q h => by simp at h⟩, va_S.rf⟩
section XO
variable {l : Launch} {y : MethodName} {cc : ByteArray} {n : Nat} {ret : Option FieldType} {rm : Room} {av : List Value} {D : va_G} {tys : List (ClassId × FieldType)} {wf : xU → va_W} {ts : Nat → Nat} {u : xU}
theorem xof {Qc : Nat → Array Value → State → Outcome → State → Prop} {sz : Nat} (own : String) (hown : y.cls = own) (hy : plainName y.cls = true) (hn : (lg_sl av).length ≤ n)
    (body : ∀ p e s m args below meth c ls H locs A, CallFix p m c cc n s args xT own → meth.sig.returnType = ret → meth.locks = false → lv_has ls n (lv_args 0 av) → va_K D vwCl tys s → xE ts A s → (∀ q, s.heap.size ≤ q → A q) → A = va_A (wf u) sz → xw D wf A s.heap H locs u → W p l e rm s m args below meth c H locs 0 0 (MQ below (Qc sz) args s 0 0 A) (F0 m 0 ls [])) : Met l y (.code y cc n ret :: xT) rm (va_Pc av (xPre D tys wf ts sz u)) (Qc sz) 0 0 (va_A (wf u) sz) := by
  refine Met.ofW (cc := cc) (maxL := n) (ret := ret) hy rfl ?_
  intro p e s m args below meth c s₁ B hml hv
  obtain ⟨rfl, hsz, hP, hK, hD, hE⟩ := hv
  rw [lg_entry_eq]
  have hts := atoms_spec (ws := .code y cc n ret :: xT) B.pre
  exact body p e s m _ below meth c _ s.heap [] _ ⟨B.exec, B.bytes, hml, hown ▸ findClass_of_methodNamed B.named, fun w h => hts w (List.mem_cons_of_mem _ h)⟩ B.returns B.notSynchronized (lv_entry av hn) hK hE (fun q h => Or.inr (hsz ▸ h)) rfl ⟨hP, hD, va_S.rf⟩
theorem xofi {V : Int32 × xU} (own : String) (hown : y.cls = own) (hy : plainName y.cls = true) (hn : (lg_sl av).length ≤ n)
    (body : ∀ p e s m args below meth c ls H locs A, CallFix p m c cc n s args xT own → meth.sig.returnType = ret → meth.locks = false → lv_has ls n (lv_args 0 av) → va_K D vwCl tys s → xE ts A s → (∀ q, s.heap.size ≤ q → A q) → xw D wf A s.heap H locs u → W p l e rm s m args below meth c H locs 0 0 (MQ below (va_Qi (fun r v => (r, v) = V) (xPost D wf A) A) args s 0 0 A) (F0 m 0 ls [])) : xMi l y cc n ret rm D tys wf ts av u V := fun sz =>
  xof (Qc := fun sz => va_Qi (fun r v => (r, v) = V) (xPost D wf (va_A (wf u) sz)) (va_A (wf u) sz)) own hown hy hn (fun p e s m args below meth c ls H locs A h1 h2 h3 h4 h5 h6 h7 h8 h9 => by subst h8; exact body p e s m args below meth c ls H locs _ h1 h2 h3 h4 h5 h6 h7 h9)
theorem xofl {V : Int64 × xU} (own : String) (hown : y.cls = own) (hy : plainName y.cls = true) (hn : (lg_sl av).length ≤ n)
    (body : ∀ p e s m args below meth c ls H locs A, CallFix p m c cc n s args xT own → meth.sig.returnType = ret → meth.locks = false → lv_has ls n (lv_args 0 av) → va_K D vwCl tys s → xE ts A s → (∀ q, s.heap.size ≤ q → A q) → xw D wf A s.heap H locs u → W p l e rm s m args below meth c H locs 0 0 (MQ below (va_Ql (fun r v => (r, v) = V) (xPost D wf A) A) args s 0 0 A) (F0 m 0 ls [])) : xMl l y cc n ret rm D tys wf ts av u V := fun sz =>
  xof (Qc := fun sz => va_Ql (fun r v => (r, v) = V) (xPost D wf (va_A (wf u) sz)) (va_A (wf u) sz)) own hown hy hn (fun p e s m args below meth c ls H locs A h1 h2 h3 h4 h5 h6 h7 h8 h9 => by subst h8; exact body p e s m args below meth c ls H locs _ h1 h2 h3 h4 h5 h6 h7 h9)
theorem xofv {V : xU} (own : String) (hown : y.cls = own) (hy : plainName y.cls = true) (hn : (lg_sl av).length ≤ n)
    (body : ∀ p e s m args below meth c ls H locs A, CallFix p m c cc n s args xT own → meth.sig.returnType = ret → meth.locks = false → lv_has ls n (lv_args 0 av) → va_K D vwCl tys s → xE ts A s → (∀ q, s.heap.size ≤ q → A q) → xw D wf A s.heap H locs u → W p l e rm s m args below meth c H locs 0 0 (MQ below (va_Qv (fun v => v = V) (xPost D wf A) A) args s 0 0 A) (F0 m 0 ls [])) : xMv l y cc n ret rm D tys wf ts av u V := fun sz =>
  xof (Qc := fun sz => va_Qv (fun v => v = V) (xPost D wf (va_A (wf u) sz)) (va_A (wf u) sz)) own hown hy hn (fun p e s m args below meth c ls H locs A h1 h2 h3 h4 h5 h6 h7 h8 h9 => by subst h8; exact body p e s m args below meth c ls H locs _ h1 h2 h3 h4 h5 h6 h7 h9)
end XO
