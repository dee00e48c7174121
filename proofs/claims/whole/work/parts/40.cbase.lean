def cPre (D : va_G) (Y : Nat → ClassId) (ts : Nat → Nat) (sz : Nat) (ws : va_W) (U : State) : Prop := U.heap.size = sz ∧ va_P D vwCl ws U.heap ∧ va_K D vwCl (xty Y) U ∧ va_D (va_A ws sz) ws ∧ xE ts (va_A ws sz) U ∧ va_AO "CastGallery$Image" U
def cMet (l : Launch) (y : MethodName) (cc : ByteArray) (n : Nat) (rm : Room) (D : va_G) (Y : Nat → ClassId) (ts : Nat → Nat) (av : List Value) (ws : va_W) (out : (Nat → Nat) → va_W) : Prop :=
  ∀ sz, Met l y (.code y cc n none :: xT) rm (va_Pc av (cPre D Y ts sz ws)) (va_Qv (fun (_ : Nat → Nat) => True) (fun q t => va_P D vwCl (out q) t.heap ∧ va_D (va_A ws sz) (out q)) (va_A ws sz)) rm.cells rm.slots (va_A ws sz)
theorem cPre.blind (D : va_G) (Y : Nat → ClassId) (ts : Nat → Nat) (sz : Nat) (ws : va_W) (av : List Value) : FrameBlind (va_Pc av (cPre D Y ts sz ws)) := fun a U g mk q => by
  obtain ⟨q0, q1, qP, qK, qD, qE, qO⟩ := q
  exact ⟨q0, q1, qP, va_K.moved (u := U) (U := U.calling g mk a) (Vm.Alike.refl U.vm) qK, qD, qE.blind g mk a, va_AO.moved (u := U) (U := U.calling g mk a) (Vm.Alike.refl U.vm) qO⟩
theorem cof {l : Launch} {y : MethodName} {cc : ByteArray} {n : Nat} {rm : Room} {D : va_G} {Y : Nat → ClassId} {ts : Nat → Nat} {av : List Value} {ws : va_W} {out : (Nat → Nat) → va_W} (own : String) (hown : y.cls = own) (hyn : y.name = "<init>") (hy : plainName y.cls = true) (hn : (lg_sl av).length ≤ n)
    (body : ∀ p e s m args below meth c ls A, CallFix p m c cc n s args xT own → meth.sig.returnType = none → meth.locks = false → meth.name = "<init>" → lv_has ls n (lv_args 0 av) → va_K D vwCl (xty Y) s → xE ts A s → va_AO "CastGallery$Image" s → (∀ q, s.heap.size ≤ q → A q) → va_P D vwCl ws s.heap → va_D A ws → va_S A s.heap s.heap [] → W p l e rm s m args below meth c s.heap [] 0 0 (MQ below (va_Qv (fun (_ : Nat → Nat) => True) (fun q t => va_P D vwCl (out q) t.heap ∧ va_D A (out q)) A) args s rm.cells rm.slots A) (F0 m 0 ls [])) : cMet l y cc n rm D Y ts av ws out := by
  intro sz
  refine Met.ofW (cc := cc) (maxL := n) (ret := none) hy rfl ?_
  intro p e s m args below meth c s₁ B hml hv
  obtain ⟨rfl, hsz, hP, hK, hD, hE, hO⟩ := hv
  rw [lg_entry_eq]
  have hts := atoms_spec (ws := .code y cc n none :: xT) B.pre
  have hin : meth.name = "<init>" := (name_of_methodNamed B.named B.method).1.trans hyn
  exact body p e s m _ below meth c _ _ ⟨B.exec, B.bytes, hml, hown ▸ findClass_of_methodNamed B.named, fun w h => hts w (List.mem_cons_of_mem _ h)⟩ B.returns B.notSynchronized hin (lv_entry av hn) hK hE hO (fun q h => Or.inr (hsz ▸ h)) hP hD va_S.rf
section XN
variable {p : Program} {l : Launch} {e : Env} {R : Room} {s : State} {m : MethodId} {args : Array Value} {below : List Frame} {meth : Method} {c : Code} {H : Heap} {locs : List Loc} {cells slots : Nat} {Q : State → Prop}
variable {cc : ByteArray} {pc nL index : Nat} {ls : Array Slot} {rest : List Value} {own : String} {D : va_G} {Y : Nat → ClassId} {ts : Nat → Nat} {A : Nat → Prop} {ws : va_W}
theorem xnewa (S : CallFix p m c cc nL s args xT own) (hac : Cond.arrayClass .int ∈ xT) (hK : va_K D vwCl (xty Y) s) (hP : va_P D vwCl ws H) (hD : va_D A ws) (hS : va_S A s.heap H locs) (hA : ∀ q, s.heap.size ≤ q → A q) {n : Int32} {N : Nat} (hn : ¬ n < 0) (hN : n.toNatClampNeg = N) (hb : N * componentBytes .int ≤ 536870912) (hz : cells + 1 ≤ R.cells ∧ slots + N ≤ R.slots) (hdg : decode cc pc = .ok (.newarray .int, 2))
    (kk : ∀ (q : Nat) (H1 : Heap), va_P D vwCl (ws ++ [(q, .inl (Y 0, N, .inl (fun _ => 0)))]) H1 → va_D A (ws ++ [(q, .inl (Y 0, N, .inl (fun _ => 0)))]) → va_S A s.heap H1 locs → W p l e R s m args below meth c H1 locs (cells + 1) (slots + N) Q (F0 m (pc + 2) ls (.ref q :: rest))) : W p l e R s m args below meth c H locs cells slots Q (F0 m pc ls (.int n :: rest)) := by
  refine va_newa (atype := .int) S.1 S.2.1 (S.2.2.2.2 _ hac) (ty := .int) rfl hK hP hD hS hA (a0 := (N, .inl (fun _ => 0))) (fun _ => rfl) hn hN hb hz.1 hz.2 hdg (fun q cA H1 hK1 hP1 hD1 hS1 => ?_)
  have e1 := (hK1.2 3 (cA, .int) rfl).2
  have e2 := (hK.2 0 (Y 0, .int) rfl).2
  have e3 : cA = Y 0 := Option.some.inj (e1.symm.trans e2)
  subst e3
  exact kk q H1 hP1 hD1 hS1
theorem xnewz (S : CallFix p m c cc nL s args xT own) (hac : Cond.arrayClass .boolean ∈ xT) (hK : va_K D vwCl (xty Y) s) (hP : va_P D vwCl ws H) (hD : va_D A ws) (hS : va_S A s.heap H locs) (hA : ∀ q, s.heap.size ≤ q → A q) {n : Int32} {N : Nat} (hn : ¬ n < 0) (hN : n.toNatClampNeg = N) (hb : N * componentBytes .boolean ≤ 536870912) (hz : cells + 1 ≤ R.cells ∧ slots + N ≤ R.slots) (hdg : decode cc pc = .ok (.newarray .boolean, 2))
    (kk : ∀ (q : Nat) (H1 : Heap), va_P D vwCl (ws ++ [(q, .inl (Y 1, N, .inl (fun _ => 0)))]) H1 → va_D A (ws ++ [(q, .inl (Y 1, N, .inl (fun _ => 0)))]) → va_S A s.heap H1 locs → W p l e R s m args below meth c H1 locs (cells + 1) (slots + N) Q (F0 m (pc + 2) ls (.ref q :: rest))) : W p l e R s m args below meth c H locs cells slots Q (F0 m pc ls (.int n :: rest)) := by
  refine va_newa (atype := .boolean) S.1 S.2.1 (S.2.2.2.2 _ hac) (ty := .boolean) rfl hK hP hD hS hA (a0 := (N, .inl (fun _ => 0))) (fun _ => rfl) hn hN hb hz.1 hz.2 hdg (fun q cA H1 hK1 hP1 hD1 hS1 => ?_)
  have e1 := (hK1.2 3 (cA, .boolean) rfl).2
  have e2 := (hK.2 1 (Y 1, .boolean) rfl).2
  have e3 : cA = Y 1 := Option.some.inj (e1.symm.trans e2)
  subst e3
  exact kk q H1 hP1 hD1 hS1
theorem xnewq (S : CallFix p m c cc nL s args xT own) (hcl : Cond.classLink own index "CastGallery$Image" ∈ xT) (hO : va_AO "CastGallery$Image" s) (hK : va_K D vwCl (xty Y) s) (hP : va_P D vwCl ws H) (hD : va_D A ws) (hS : va_S A s.heap H locs) (hA : ∀ q, s.heap.size ≤ q → A q) {n : Int32} {N : Nat} (hn : ¬ n < 0) (hN : n.toNatClampNeg = N) (hb : N * 4 ≤ 536870912) (hz : cells + 1 ≤ R.cells ∧ slots + N ≤ R.slots) (hdg : decode cc pc = .ok (.anewarray index, 3))
    (kk : ∀ (q : Nat) (H1 : Heap), va_P D vwCl (ws ++ [(q, .inl (Y 2, N, .inr (.inr (.inr (.inr (fun _ => none))))))]) H1 → va_D A (ws ++ [(q, .inl (Y 2, N, .inr (.inr (.inr (.inr (fun _ => none))))))]) → va_S A s.heap H1 locs → W p l e R s m args below meth c H1 locs (cells + 1) (slots + N) Q (F0 m (pc + 3) ls (.ref q :: rest))) : W p l e R s m args below meth c H locs cells slots Q (F0 m pc ls (.int n :: rest)) := by
  refine va_newq S.1 S.2.1 S.2.2.2.1 (S.2.2.2.2 _ hcl) hO hK hP hD hS hA hn hN hb hz.1 hz.2 hdg (fun q cA H1 hK1 hP1 hD1 hS1 => ?_)
  obtain ⟨_, _, -, -, -, e1⟩ := (hK1.2 3 (cA, .object "CastGallery$Image") rfl).2
  obtain ⟨_, _, -, -, -, e2⟩ := (hK.2 2 (Y 2, .object "CastGallery$Image") rfl).2
  have e3 : cA = Y 2 := Option.some.inj (e1.symm.trans e2)
  subst e3
  exact kk q H1 hP1 hD1 hS1
/-- a constructor's call: its cells are at the places isC, the rest stays -/
theorem xcI {y : MethodName} {bytes : ByteArray} {maxL n : Nat} {rm : Room} {As st0 : List Value} {b : Nat} {wc wr : va_W} {out : (Nat → Nat) → va_W} (S : CallFix p m c cc nL s args xT own) (hK : va_K D vwCl (xty Y) s) (hE : xE ts A s) (hO : va_AO "CastGallery$Image" s) (hA : ∀ q, s.heap.size ≤ q → A q) (hP : va_P D vwCl ws H) (hD : va_D A ws) (hS : va_S A s.heap H locs) (hM : cMet l y bytes maxL rm D Y ts (.ref b :: As) wc out)
    (hcode : Cond.code y bytes maxL none ∈ xT) (hlk : va_Nw (.methodLinkNest own index y RX10) s ∨ Cond.methodLink own index y ∈ xT) (hinst : Cond.instanceMethod y ∈ xT) (hini : Cond.initialized y.cls ∈ xT) (hyn : y.name = "<init>") (hd : y.cls ≠ "java/lang/invoke/MethodHandle" ∧ y.cls ≠ "java/lang/invoke/VarHandle" ∧ (parseMethodDescriptor y.desc).map (fun d => d.parameters.length) = some n)
    (isC isR : List Nat) (hC : isC.map (fun i => ws[i]?) = wc.map some) (hC2 : isC.filterMap (fun i => ws[i]?) = wc) (hR : isR.map (fun i => ws[i]?) = wr.map some) (hn1 : va_nd isR = true) (hn2 : va_nd isC = true) (hdis : ∀ i ∈ isR, i ∉ isC) (hn : As.length = n) (hst : st0 = As.reverse ++ .ref b :: rest) (hls : ls.size = nL) (hz : rm.frames + 1 ≤ R.frames ∧ 8 + (maxL + 11) + rm.locals ≤ R.locals ∧ (rest.map fun v => v.category).sum ≤ 8 ∧ cells + rm.cells ≤ R.cells ∧ slots + rm.slots ≤ R.slots) (hdg : decode cc pc = .ok (.invokespecial index, 3))
    (kk : ∀ (q : Nat → Nat) (H1 : Heap) (locs1 : List Loc), va_P D vwCl (wr ++ out q) H1 → va_D A (wr ++ out q) → va_S A s.heap H1 locs1 → W p l e R s m args below meth c H1 locs1 (cells + rm.cells) (slots + rm.slots) Q (F0 m (pc + 3) ls rest)) : W p l e R s m args below meth c H locs cells slots Q (F0 m pc ls st0) := by
  obtain ⟨z3, z4, z5, z6, z7⟩ := hz
  have hPc : va_P D vwCl wc H := hP.sub isC hC2
  have hDc := hD.sub isC hn2 hC
  have hFc := va_free (wc := wc) hD hS hA isC hC
  have hPre : PreS s H (va_Pc (.ref b :: As) (cPre D Y ts H.size wc)) (.ref b :: As) := ⟨cPre.blind D Y ts H.size wc _, fun U hU hW => ⟨rfl, by rw [hU], by rw [hU]; exact hPc, va_K.moved hW.alike hK, hDc.self, hE.to hS hU hW hFc, va_AO.moved hW.alike hO⟩⟩
  have fin : va_Run p l e R s m args below meth c H locs cells slots rm.cells rm.slots (F0 m pc ls st0) rest (va_Qv (fun (_ : Nat → Nat) => True) (fun q t => va_P D vwCl (out q) t.heap ∧ va_D (va_A wc H.size) (out q)) (va_A wc H.size) (Value.ref b :: As).toArray) (va_A wc H.size) := by
    rcases hlk with hlk | hlk
    · exact va_runIN (As := As) (rest := rest) S (hM H.size) ⟨va_cnB n S.2.2.2.2 (xGc hcode) rfl rfl rfl hlk (S.2.2.2.2 _ hini) hd ⟨z3, z4⟩, hyn, S.2.2.2.2 _ hinst⟩ hPre rfl hn hls hst (lv_room z5) hdg ⟨z6, z7⟩
    · exact va_runI (As := As) (rest := rest) S (hM H.size) ⟨callB_of n S.2.2.2.2 (xGc hcode) rfl rfl rfl (S.2.2.2.2 _ hini) (S.2.2.2.2 _ hlk) hd ⟨z3, z4⟩, hyn, S.2.2.2.2 _ hinst⟩ hPre rfl hn hls hst (lv_room z5) hdg ⟨z6, z7⟩
  refine va_callv (A0 := A) (H0 := s.heap) fin hS (fun q _ h => hFc q h) hFc (fun v t H1 locs1 ht hvm hp hB hz1 hk1 hS1 => ?_)
  obtain ⟨hP1, hD1⟩ := hB
  rw [ht] at hP1
  obtain ⟨hP2, hD2⟩ := va_join (wr := wr) (w1 := out v) hP hD isC isR hC hR hn1 hdis hk1 hFc hP1 hD1
  exact kk v H1 locs1 hP2 hD2 hS1
theorem cfill {u : xU} {wr : va_W} {q n : Nat} {v : Int32} {st0 : List Value} (S : CallFix p m c cc nL s args xT own) (hK : va_K D vwCl (xty Y) s) (hE : xE ts A s) (hA : ∀ q, s.heap.size ≤ q → A q) (hP : va_P D vwCl ws H) (hD : va_D A ws) (hS : va_S A s.heap H locs) (hlk : Cond.methodLink own index yJ7_fill_53178 ∈ xT) (k : Nat) (isR : List Nat) (hC : [k].map (fun i => ws[i]?) = ([(q, .inl (Y 0, n, .inl (u.1 0)))] : va_W).map some) (hC2 : [k].filterMap (fun i => ws[i]?) = ([(q, .inl (Y 0, n, .inl (u.1 0)))] : va_W)) (hR : isR.map (fun i => ws[i]?) = wr.map some) (hn1 : va_nd isR = true) (hdis : ∀ i ∈ isR, i ∉ [k]) (hn : n < 2 ^ 31) (hst : st0 = .int v :: .ref q :: rest) (hls : ls.size = nL) (hz : 1 ≤ R.frames ∧ 23 ≤ R.locals ∧ (rest.map fun v => v.category).sum ≤ 8 ∧ cells ≤ R.cells ∧ slots ≤ R.slots) (hdg : decode cc pc = .ok (.invokestatic index, 3))
    (kk : ∀ (H1 : Heap) (locs1 : List Loc), va_P D vwCl (wr ++ [(q, .inl (Y 0, n, .inl (fillF (u.1 0) n v)))]) H1 → va_D A (wr ++ [(q, .inl (Y 0, n, .inl (fillF (u.1 0) n v)))]) → va_S A s.heap H1 locs1 → W p l e R s m args below meth c H1 locs1 cells slots Q (F0 m (pc + 3) ls rest)) : W p l e R s m args below meth c H locs cells slots Q (F0 m pc ls st0) := by
  obtain ⟨z3, z4, z5, z6, z7⟩ := hz
  obtain ⟨hcode, hstat, hini, hd⟩ := yfJ7_fill_53178
  have hPc : va_P D vwCl [(q, .inl (Y 0, n, .inl (u.1 0)))] H := hP.sub [k] hC2
  have hDc := hD.sub [k] (by rfl) hC
  have hFc := va_free (wc := [(q, .inl (Y 0, n, .inl (u.1 0)))]) hD hS hA [k] hC
  have hM := c_fill (tys := xty Y) (wf := fun w => [(q, .inl (Y 0, n, .inl (w.1 0)))]) l D ts u 0 q n (Y 0) v hn rfl (fun _ => rfl) (fun _ _ => rfl)
  have fin := va_runS (As := [.ref q, .int v]) (rest := rest) (cells := cells) (slots := slots) (locs := locs) (below := below) (meth := meth) (g := F0 m pc ls st0) (R := R) (e := e) (H := H) (mc := 0) (ms := 0) (n := 2) S (hM H.size) ⟨callB_of 2 S.2.2.2.2 (xGc hcode) rfl rfl rfl (S.2.2.2.2 _ hini) (S.2.2.2.2 _ hlk) hd ⟨z3, z4⟩, S.2.2.2.2 _ hstat⟩ ⟨xPre.blind D (xty Y) _ ts H.size u _, fun U hU hW => ⟨rfl, by rw [hU], by rw [hU]; exact hPc, va_K.moved hW.alike hK, hDc.self, hE.to hS hU hW hFc⟩⟩ rfl rfl hls hst (lv_room z5) hdg ⟨z6, z7⟩
  refine va_callv (A0 := A) (H0 := s.heap) fin hS (fun q _ h => hFc q h) hFc (fun w t H1 locs1 ht hvm hp hB hz1 hk1 hS1 => ?_)
  subst hp
  obtain ⟨hP1, hD1⟩ := hB
  rw [ht] at hP1
  obtain ⟨hP2, hD2⟩ := va_join (wr := wr) (w1 := [(q, .inl (Y 0, n, .inl (fillF (u.1 0) n v)))]) hP hD [k] isR hC hR hn1 hdis hk1 hFc hP1 hD1
  exact kk H1 locs1 hP2 hD2 hS1
end XN
