theorem xq_lt {x y : Int32} {a b : Int} (h : x < y) (hx : x.toInt = a) (hy : y.toInt = b) : a < b := by rw [← hx, ← hy]; exact Int32.lt_iff_toInt_lt.mp h
theorem xq_nlt {x y : Int32} {a b : Int} (h : ¬ x < y) (hx : x.toInt = a) (hy : y.toInt = b) : b ≤ a := by
  rw [Int32.lt_iff_toInt_lt, hx, hy] at h; omega
theorem xq_le {x y : Int32} {a b : Int} (h : x ≤ y) (hx : x.toInt = a) (hy : y.toInt = b) : a ≤ b := by rw [← hx, ← hy]; exact Int32.le_iff_toInt_le.mp h
theorem xq_nle {x y : Int32} {a b : Int} (h : ¬ x ≤ y) (hx : x.toInt = a) (hy : y.toInt = b) : b < a := by
  rw [Int32.le_iff_toInt_le, hx, hy] at h; omega
theorem xq_eq {x y : Int32} {a b : Int} (h : x = y) (hx : x.toInt = a) (hy : y.toInt = b) : a = b := by rw [← hx, ← hy, h]
theorem xq_ne {x y : Int32} {a b : Int} (h : ¬ x = y) (hx : x.toInt = a) (hy : y.toInt = b) : ¬ a = b := fun e => h (Int32.toInt_inj.mp (by rw [hx, hy, e]))
theorem xbm {z : Int} (h1 : -2147483648 ≤ z) (h2 : z < 2147483648) : z.bmod (2 ^ 32) = z := by
  rw [Int.bmod_eq_of_le (by omega) (by omega)]
theorem xadd {x y : Int32} {a b : Int} (hx : x.toInt = a) (hy : y.toInt = b) (h1 : -2147483648 ≤ a + b) (h2 : a + b < 2147483648) : (x + y).toInt = a + b := by rw [Int32.toInt_add, hx, hy, xbm h1 h2]
theorem xsub {x y : Int32} {a b : Int} (hx : x.toInt = a) (hy : y.toInt = b) (h1 : -2147483648 ≤ a - b) (h2 : a - b < 2147483648) : (x - y).toInt = a - b := by rw [Int32.toInt_sub, hx, hy, xbm h1 h2]
theorem xmul {x y : Int32} {a b : Int} (hx : x.toInt = a) (hy : y.toInt = b) (h1 : -2147483648 ≤ a * b) (h2 : a * b < 2147483648) : (x * y).toInt = a * b := by rw [Int32.toInt_mul, hx, hy, xbm h1 h2]
theorem xvi {x : Int32} {a : Int} {n : Nat} (hx : x.toInt = a) (h0 : 0 ≤ a) (h1 : a < n) : vp_in x n := vp_in_iff.mpr ⟨by omega, by omega⟩
theorem xof8 {x : Int32} {n : Nat} (h0 : 0 ≤ x.toInt) (h1 : x.toInt < n) (hn : n < 2147483648) : ∃ j : Nat, j < n ∧ x = nI j := ⟨x.toInt.toNat, by omega, Int32.toInt_inj.mp (by rw [nI_toInt (by omega)]; omega)⟩
theorem xsh1 {t : Int32} (h0 : 0 ≤ t.toInt) (h1 : t.toInt < 8) : 0 ≤ ((1 : Int32) <<< (t &&& 31)).toInt ∧ ((1 : Int32) <<< (t &&& 31)).toInt < 256 := by
  obtain ⟨j, hj, rfl⟩ := xof8 (n := 8) h0 h1 (by decide)
  have : ∀ k : Fin 8, 0 ≤ ((1 : Int32) <<< (nI k.val &&& 31)).toInt ∧ ((1 : Int32) <<< (nI k.val &&& 31)).toInt < 256 := by decide +kernel
  exact this ⟨j, hj⟩
theorem xsh0 {t : Int32} (h0 : 0 ≤ t.toInt) (h1 : t.toInt ≤ 8) : 1 ≤ ((1 : Int32) <<< (t &&& 31)).toInt ∧ ((1 : Int32) <<< (t &&& 31)).toInt ≤ 256 := by
  obtain ⟨j, hj, rfl⟩ := xof8 h0 (n := 9) (by omega) (by decide)
  have : ∀ k : Fin 9, 1 ≤ ((1 : Int32) <<< (nI k.val &&& 31)).toInt ∧ ((1 : Int32) <<< (nI k.val &&& 31)).toInt ≤ 256 := by decide +kernel
  exact this ⟨j, hj⟩
theorem xor8 {x y : Int32} (h0 : 0 ≤ x.toInt) (h1 : x.toInt < 256) (g0 : 0 ≤ y.toInt) (g1 : y.toInt < 256) : 0 ≤ (x ||| y).toInt ∧ (x ||| y).toInt < 256 := by
  obtain ⟨i, hi, rfl⟩ := xof8 (n := 256) h0 h1 (by decide)
  obtain ⟨j, hj, rfl⟩ := xof8 (n := 256) g0 g1 (by decide)
  have e : nI i ||| nI j = nI (i ||| j) := by
    apply Int32.toBitVec_inj.1
    show BitVec.ofNat 32 i ||| BitVec.ofNat 32 j = BitVec.ofNat 32 (i ||| j)
    apply BitVec.eq_of_toNat_eq
    have hij : i ||| j < 256 := Nat.or_lt_two_pow (n := 8) hi hj
    rw [BitVec.toNat_or, BitVec.toNat_ofNat, BitVec.toNat_ofNat, BitVec.toNat_ofNat, Nat.mod_eq_of_lt (by omega), Nat.mod_eq_of_lt (by omega), Nat.mod_eq_of_lt (by omega)]
  have hij : i ||| j < 256 := Nat.or_lt_two_pow (n := 8) hi hj
  rw [e, nI_toInt (by omega)]
  omega
theorem xnI {x : Int32} (h0 : 0 ≤ x.toInt) : ∃ j : Nat, j < 2 ^ 31 ∧ x = nI j := ⟨x.toInt.toNat, by have := Int32.toInt_lt x; omega, Int32.toInt_inj.mp (by rw [nI_toInt (by have := Int32.toInt_lt x; omega)]; omega)⟩
theorem xrem {y z : Int32} (hz : 0 < z.toInt) : (y - y / z * z).toInt < z.toInt := by
  have hr := tmod_bounds (a := y.toInt) hz
  have hz1 := Int32.toInt_lt z
  have hm : y.toInt - y.toInt.tdiv z.toInt * z.toInt = y.toInt.tmod z.toInt := by
    have := Int.mul_tdiv_add_tmod y.toInt z.toInt
    rw [Int.mul_comm] at this; omega
  have e : (y - y / z * z).toInt = y.toInt.tmod z.toInt := by
    rw [Int32.toInt_sub, Int32.toInt_mul, Int32.toInt_div, Int.bmod_mul_bmod, Int.sub_bmod_bmod, hm, xbm (by omega) (by omega)]
  omega
theorem xmx1 {x : Int32} : ¬ (if x < 1 then (1 : Int32) else x) = 0 := by
  intro h
  split at h
  · exact absurd h (by decide)
  · rename_i g
    rw [h] at g
    exact absurd g (by decide)
theorem xbn {x : Int32} (h : x.toInt = 0 ∨ x.toInt = 1) : narrow .boolean (.int x) = .int x := by
  rcases h with h | h
  · rw [show x = 0 from Int32.toInt_inj.mp h]; rfl
  · rw [show x = 1 from Int32.toInt_inj.mp h]; rfl
theorem xbb {x : Int32} (h : x.toInt = 0 ∨ x.toInt = 1) : b2i (x != 0) = x := by
  rcases h with h | h
  · rw [show x = 0 from Int32.toInt_inj.mp h]; rfl
  · rw [show x = 1 from Int32.toInt_inj.mp h]; rfl
theorem xor8' {x y : Int32} {a b : Int} (hx : x.toInt = a) (hy : y.toInt = b) (h0 : 0 ≤ a) (h1 : a < 256) (g0 : 0 ≤ b) (g1 : b < 256) : ∃ z : Int, (∀ _ : Unit, (x ||| y).toInt = z) ∧ 0 ≤ z ∧ z < 256 := ⟨_, fun _ => rfl, xor8 (by omega) (by omega) (by omega) (by omega)⟩
theorem xsh1' {t : Int32} {a : Int} (ht : t.toInt = a) (h0 : 0 ≤ a) (h1 : a < 8) : ∃ z : Int, (∀ _ : Unit, ((1 : Int32) <<< (t &&& 31)).toInt = z) ∧ 0 ≤ z ∧ z < 256 := ⟨_, fun _ => rfl, xsh1 (by omega) (by omega)⟩
theorem xsh0' {t : Int32} {a : Int} (ht : t.toInt = a) (h0 : 0 ≤ a) (h1 : a ≤ 8) : ∃ z : Int, (∀ _ : Unit, ((1 : Int32) <<< (t &&& 31)).toInt = z) ∧ 1 ≤ z ∧ z ≤ 256 := ⟨_, fun _ => rfl, xsh0 (by omega) (by omega)⟩
section XC
variable {p : Program} {l : Launch} {e : Env} {R : Room} {s : State} {m : MethodId} {args : Array Value} {below : List Frame} {meth : Method} {c : Code} {H : Heap} {locs : List Loc} {cells slots : Nat} {Q : State → Prop}
variable {cc : ByteArray} {pc nL index : Nat} {ls : Array Slot} {rest : List Value} {own : String} {D : va_G} {tys : List (ClassId × FieldType)} {wf : xU → va_W} {ts : Nat → Nat} {A : Nat → Prop} {u : xU} {a ci : Nat} {fs : List Value} {C : String} {T : u_T} {N : Nat}
theorem xci {y : MethodName} {bytes : ByteArray} {maxL n : Nat} {ret : Option FieldType} {rm : Room} {As st0 : List Value} {r : Int32} {v : xU} {b : Nat} (S : CallFix p m c cc nL s args xT own) (hK : va_K D vwCl tys s) (hE : xE ts A s) (hA : ∀ q, s.heap.size ≤ q → A q) (hw : xw D wf A s.heap H locs u) (hY : xYv C y bytes maxL ret n) (hM : xMi l y bytes maxL ret rm D tys wf ts (.ref b :: As) u (r, v)) (q0 : Nat) (he : (wf u)[q0]? = some (b, .inr (ci, fs))) (hc : vwCl[ci]? = some (C, T, N)) (hlk : Cond.methodLink own index y ∈ xT) (hn : As.length = n) (hst : st0 = As.reverse ++ .ref b :: rest) (hls : ls.size = nL) (hz : rm.cells = 0 ∧ rm.slots = 0 ∧ rm.frames + 1 ≤ R.frames ∧ 8 + (maxL + 11) + rm.locals ≤ R.locals ∧ (rest.map fun v => v.category).sum ≤ 8 ∧ cells ≤ R.cells ∧ slots ≤ R.slots) (hdg : decode cc pc = .ok (.invokevirtual index, 3))
    (kk : ∀ (H1 : Heap) (locs1 : List Loc), xw D wf A s.heap H1 locs1 v → W p l e R s m args below meth c H1 locs1 cells slots Q (F0 m (pc + 3) ls (.int r :: rest))) : W p l e R s m args below meth c H locs cells slots Q (F0 m pc ls st0) := xcV S hK hE hA hw hY hM q0 he hc hlk hn hst hls hz hdg kk
theorem xcl {y : MethodName} {bytes : ByteArray} {maxL n : Nat} {ret : Option FieldType} {rm : Room} {As st0 : List Value} {r : Int64} {v : xU} {b : Nat} (S : CallFix p m c cc nL s args xT own) (hK : va_K D vwCl tys s) (hE : xE ts A s) (hA : ∀ q, s.heap.size ≤ q → A q) (hw : xw D wf A s.heap H locs u) (hY : xYv C y bytes maxL ret n) (hM : xMl l y bytes maxL ret rm D tys wf ts (.ref b :: As) u (r, v)) (q0 : Nat) (he : (wf u)[q0]? = some (b, .inr (ci, fs))) (hc : vwCl[ci]? = some (C, T, N)) (hlk : Cond.methodLink own index y ∈ xT) (hn : As.length = n) (hst : st0 = As.reverse ++ .ref b :: rest) (hls : ls.size = nL) (hz : rm.cells = 0 ∧ rm.slots = 0 ∧ rm.frames + 1 ≤ R.frames ∧ 8 + (maxL + 11) + rm.locals ≤ R.locals ∧ (rest.map fun v => v.category).sum ≤ 8 ∧ cells ≤ R.cells ∧ slots ≤ R.slots) (hdg : decode cc pc = .ok (.invokevirtual index, 3))
    (kk : ∀ (H1 : Heap) (locs1 : List Loc), xw D wf A s.heap H1 locs1 v → W p l e R s m args below meth c H1 locs1 cells slots Q (F0 m (pc + 3) ls (.long r :: rest))) : W p l e R s m args below meth c H locs cells slots Q (F0 m pc ls st0) := xcVl S hK hE hA hw hY hM q0 he hc hlk hn hst hls hz hdg kk
theorem xcp2 (S : CallFix p m c cc nL s args xT own) (hlk : Cond.methodLink own index arraycopyName ∈ xT) (hK : va_K D vwCl tys s) (hnat : Cond.native arraycopyName ∈ xT) (hstat : Cond.static arraycopyName ∈ xT) (hini : Cond.initialized "java/lang/System" ∈ xT) (hw : xw D wf A s.heap H locs u) (hls : ls.size = nL) (q0 q1 t0 : Nat) {a0 : Nat} {cA : ClassId} {n0 n1 : Nat} {f : Nat → Int32} (ha0 : (wf u)[q0]? = some (a0, .inl (cA, n0, .inl f))) (ha1 : (wf u)[q1]? = some (a, .inl (cA, n1, .inl (u.1 q1)))) (ht : tys[t0]? = some (cA, .int))
    {x y n : Int32} {b1 b2 b3 : Int} (hx : x.toInt = b1) (hy : y.toInt = b2) (hn : n.toInt = b3) (h1 : 0 ≤ b1) (h2 : 0 ≤ b2) (h3 : 0 ≤ b3) (h4 : b1 + b3 ≤ n0) (h5 : b2 + b3 ≤ n1)
    (hR : 1 ≤ R.frames ∧ (rest.map fun v => v.category).sum + (nativeFrameWords "java/lang/System" "arraycopy" 5 + 11) ≤ R.locals)
    (hset : (wf u).set q1 (a, .inl (cA, n1, .inl (va_cpy f (u.1 q1) x.toNatClampNeg y.toNatClampNeg n.toNatClampNeg))) = wf (sp u q1 (va_cpy f (u.1 q1) x.toNatClampNeg y.toNatClampNeg n.toNatClampNeg))) (hdg : decode cc pc = .ok (.invokestatic index, 3))
    (kk : ∀ (H1 : Heap) (locs1 : List Loc), xw D wf A s.heap H1 locs1 (sp u q1 (va_cpy f (u.1 q1) x.toNatClampNeg y.toNatClampNeg n.toNatClampNeg)) → W p l e R s m args below meth c H1 locs1 cells slots Q (F0 m (pc + 3) ls rest)) : W p l e R s m args below meth c H locs cells slots Q (F0 m pc ls (.int n :: .int y :: .ref a :: .int x :: .ref a0 :: rest)) := by
  subst hx; subst hy; subst hn
  exact xcpy S hlk hnat hstat hini hK hw hls q0 q1 t0 ha0 ha1 ht h1 h2 h3 h4 h5 hR hset hdg kk
/-- a static array of the class -/
theorem xgst (S : CallFix p m c cc nL s args xT own) (hE : xE ts A s) (hw : xw D wf A s.heap H locs u) (k : Nat) (hk : k < 4) (hlk : Cond.fieldLink own index RX8 (xzn k) "[I" ∈ xT) (hdg : decode cc pc = .ok (.getstatic index, 3))
    (kk : W p l e R s m args below meth c H locs cells slots Q (F0 m (pc + 3) ls (.ref (ts k) :: rest))) : W p l e R s m args below meth c H locs cells slots Q (F0 m pc ls rest) :=
  va_gets S.1 S.2.1 (hE.2 k hk).1 hw.2.2 S.2.2.2.1 (S.2.2.2.2 _ hlk) (fun _ h => h) hdg kk
theorem xtld (S : CallFix p m c cc nL s args xT own) (hE : xE ts A s) (hw : xw D wf A s.heap H locs u) (k : Nat) (hk : k < 4) {i : Int32} (hin : vp_in i 3) (hdg : decode cc pc = .ok (.iaload, 1))
    (kk : W p l e R s m args below meth c H locs cells slots Q (F0 m (pc + 1) ls (.int (xzv k i.toNatClampNeg) :: rest))) : W p l e R s m args below meth c H locs cells slots Q (F0 m pc ls (.int i :: .ref (ts k) :: rest)) :=
  va_ti S.1 S.2.1 (hE.2 k hk).2 hw.2.2 hin rfl hdg kk
end XC
section XD
variable {p : Program} {l : Launch} {e : Env} {R : Room} {s : State} {m : MethodId} {args : Array Value} {below : List Frame} {meth : Method} {c : Code} {H : Heap} {locs : List Loc} {cells slots : Nat} {Q : State → Prop}
variable {cc : ByteArray} {pc nL index : Nat} {ls : Array Slot} {rest : List Value} {own : String} {D : va_G} {tys : List (ClassId × FieldType)} {wf : xU → va_W} {ts : Nat → Nat} {A : Nat → Prop} {u : xU} {a : Nat}
theorem xaldc (S : CallFix p m c cc nL s args xT own) (hK : va_K D vwCl tys s) (hw : xw D wf A s.heap H locs u) (q0 t0 : Nat) {cA : ClassId} {n k : Nat} {f : Nat → Int32} (ha : (wf u)[q0]? = some (a, .inl (cA, n, .inl f))) (ht : tys[t0]? = some (cA, .int)) {i x : Int32} (hi : i.toNatClampNeg = k) (hv : f k = x) (hin : vp_in i n) (hdg : decode cc pc = .ok (.iaload, 1))
    (kk : W p l e R s m args below meth c H locs cells slots Q (F0 m (pc + 1) ls (.int x :: rest))) : W p l e R s m args below meth c H locs cells slots Q (F0 m pc ls (.int i :: .ref a :: rest)) := by
  subst hi; subst hv
  exact xald S hK hw q0 t0 ha ht hin hdg kk
theorem xastc (S : CallFix p m c cc nL s args xT own) (hK : va_K D vwCl tys s) (hw : xw D wf A s.heap H locs u) (q0 t0 : Nat) {cA : ClassId} {n k : Nat} (ha : (wf u)[q0]? = some (a, .inl (cA, n, .inl (u.1 q0)))) (ht : tys[t0]? = some (cA, .int)) {i x : Int32} (hi : i.toNatClampNeg = k) (hin : vp_in i n)
    (hset : (wf u).set q0 (a, .inl (cA, n, .inl (upd (u.1 q0) k x))) = wf (sp u q0 (upd (u.1 q0) k x))) (hdg : decode cc pc = .ok (.iastore, 1))
    (kk : ∀ (H1 : Heap) (locs1 : List Loc), xw D wf A s.heap H1 locs1 (sp u q0 (upd (u.1 q0) k x)) → W p l e R s m args below meth c H1 locs1 cells slots Q (F0 m (pc + 1) ls rest)) : W p l e R s m args below meth c H locs cells slots Q (F0 m pc ls (.int x :: .int i :: .ref a :: rest)) := by
  subst hi
  exact xast S hK hw q0 t0 ha ht hin hset hdg kk
end XD
