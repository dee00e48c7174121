section XS
variable {p : Program} {l : Launch} {e : Env} {R : Room} {s : State} {m : MethodId} {args : Array Value} {below : List Frame} {meth : Method} {c : Code} {H : Heap} {locs : List Loc} {cells slots : Nat} {Q : State → Prop}
variable {cc : ByteArray} {pc nL index : Nat} {ls : Array Slot} {rest : List Value} {own : String} {D : va_G} {tys : List (ClassId × FieldType)} {wf : xU → va_W} {ts : Nat → Nat} {A : Nat → Prop} {u : xU}
theorem xcSv {y : MethodName} {bytes : ByteArray} {maxL n : Nat} {ret : Option FieldType} {rm : Room} {As st0 : List Value} {V : xU} (S : CallFix p m c cc nL s args xT own) (hK : va_K D vwCl tys s) (hE : xE ts A s) (hA : ∀ q, s.heap.size ≤ q → A q) (hw : xw D wf A s.heap H locs u) (hY : xYs y bytes maxL ret n) (hM : xMv l y bytes maxL ret rm D tys wf ts As u V) (hlk : Cond.methodLink own index y ∈ xT) (hn : As.length = n) (hst : st0 = As.reverse ++ rest) (hls : ls.size = nL) (hz : rm.cells = 0 ∧ rm.slots = 0 ∧ rm.frames + 1 ≤ R.frames ∧ 8 + (maxL + 11) + rm.locals ≤ R.locals ∧ (rest.map fun v => v.category).sum ≤ 8 ∧ cells ≤ R.cells ∧ slots ≤ R.slots) (hdg : decode cc pc = .ok (.invokestatic index, 3))
    (kk : ∀ (H1 : Heap) (locs1 : List Loc), xw D wf A s.heap H1 locs1 V → W p l e R s m args below meth c H1 locs1 cells slots Q (F0 m (pc + 3) ls rest)) : W p l e R s m args below meth c H locs cells slots Q (F0 m pc ls st0) := by
  obtain ⟨hcode, hstat, hini, hd⟩ := hY
  obtain ⟨z1, z2, z3, z4, z5, z6, z7⟩ := hz
  refine va_callv (A0 := A) (H0 := s.heap) (va_runS (As := As) (rest := rest) S (hM H.size) ⟨callB_of n S.2.2.2.2 (xGc hcode) rfl z1 z2 (S.2.2.2.2 _ hini) (S.2.2.2.2 _ hlk) hd ⟨z3, z4⟩, S.2.2.2.2 _ hstat⟩ ⟨xPre.blind D tys wf ts H.size u _, fun U hU hW => ⟨rfl, by rw [hU], by rw [hU]; exact hw.1, va_K.moved hW.alike hK, hw.2.1.self, hE.to hw.2.2 hU hW (xA hw.2.1 hw.2.2 hA)⟩⟩ rfl hn hls hst (lv_room z5) hdg ⟨z6, z7⟩) hw.2.2 (fun q _ h => xA hw.2.1 hw.2.2 hA q h) (xA hw.2.1 hw.2.2 hA) (fun v t H1 locs1 ht hvm hp hB hz1 hk1 hS => ?_)
  subst hp
  exact kk H1 locs1 ⟨ht ▸ hB.1, hB.2.weaken (fun k q _ h => xA hw.2.1 hw.2.2 hA q.1 h), hS⟩
end XS
def fillF (f : Nat → Int32) (n : Nat) (v : Int32) : Nat → Int32 := fun j => if j < n then v else f j
theorem sp_sp (u : xU) (k : Nat) (f g : Nat → Int32) : sp (sp u k f) k g = sp u k g := by
  unfold sp
  refine Prod.ext (funext fun j => ?_) rfl
  dsimp only
  split <;> rfl
theorem sp_self (u : xU) (k : Nat) : sp u k (u.1 k) = u := by
  unfold sp
  refine Prod.ext (funext fun j => ?_) rfl
  dsimp only
  split
  · rename_i h; rw [h]
  · rfl
theorem fillF_0 (f : Nat → Int32) (v : Int32) : fillF f 0 v = f := funext fun j => by unfold fillF; rw [if_neg (Nat.not_lt_zero j)]
theorem fillF_s (f : Nat → Int32) (n : Nat) (v : Int32) : upd (fillF f n v) n v = fillF f (n + 1) v := funext fun j => by
  unfold fillF upd
  by_cases h : j = n
  · rw [if_pos h, if_pos (by omega)]
  · rw [if_neg h]
    dsimp only
    by_cases g : j < n
    · rw [if_pos g, if_pos (by omega)]
    · rw [if_neg g, if_neg (by omega)]
set_option maxHeartbeats 4000000 in
theorem c_fill {tys : List (ClassId × FieldType)} {wf : xU → va_W} (l : Launch) (D : va_G) (ts : Nat → Nat) (u : xU) (q ad n : Nat) (cy : ClassId) (v : Int32) (hn : n < 2 ^ 31) (ht : tys[0]? = some (cy, .int)) (hg : ∀ w : xU, (wf w)[q]? = some (ad, .inl (cy, n, .inl (w.1 q)))) (hs : ∀ (w : xU) (f : Nat → Int32), (wf w).set q (ad, .inl (cy, n, .inl f)) = wf (sp w q f)) : xMv l yJ7_fill_53178 cJ7_fill_53178 4 none (xRm 0 0) D tys wf ts [.ref ad, .int v] u (sp u q (fillF (u.1 q) n v)) := by
  refine xofv RJ7 rfl (by decide) (Nat.le_of_ble_eq_true rfl) ?_
  intro p e s m args below meth c ls H locs A S hr hlk hl hK hE hA hw
  have hl : lv_has ls 4 [(0, .ref ad), (1, .int v)] := hl
  refine lv_iconst (v := 0) S.1 S.2.1 dJ7_fill_53178_0 (by decide) ?_
  refine lv_istore_n (lv' := [(2, .int 0), (0, .ref ad), (1, .int v)]) S.1 S.2.1 dJ7_fill_53178_1 rfl hl (by decide) rfl (fun ls hl => ?_)
  refine lv_aload_n S.1 S.2.1 dJ7_fill_53178_2 rfl (lv_at hl 1 rfl) ?_
  refine va_alen S.1 S.2.1 hK hw.1 q 0 (hg u) ht (v := nI n) rfl dJ7_fill_53178_3 ?_
  refine lv_istore_n (lv' := [(3, .int (nI n)), (2, .int 0), (0, .ref ad), (1, .int v)]) S.1 S.2.1 dJ7_fill_53178_4 rfl hl (by decide) rfl (fun ls hl => ?_)
  have lp : ∀ (k i : Nat) (H : Heap) (locs : List Loc) (ls : Array Slot), i + k = n → lv_has ls 4 [(0, .ref ad), (1, .int v), (2, .int (nI i)), (3, .int (nI n))] → xw D wf A s.heap H locs (sp u q (fillF (u.1 q) i v)) → W p l e (xRm 0 0) s m args below meth c H locs 0 0 (MQ below (va_Qv (fun w => w = sp u q (fillF (u.1 q) n v)) (xPost D wf A) A) args s 0 0 A) (F0 m 5 ls []) := by
    intro k
    induction k with
    | zero =>
      intro i H locs ls hi hl hw
      have hi : i = n := by omega
      subst hi
      refine lv_iload_n S.1 S.2.1 dJ7_fill_53178_5 rfl (lv_at hl 2 rfl) ?_
      refine lv_iload_n S.1 S.2.1 dJ7_fill_53178_6 rfl (lv_at hl 3 rfl) ?_
      refine lv_icmp_ge (tgt := 20) S.1 S.2.1 dJ7_fill_53178_7 (by decide) (fun c_1 => ?_) (fun c_1 => ?_)
      · exact xrv S hr hlk hw rfl dJ7_fill_53178_20
      · exact absurd (nI_le (Nat.le_refl i) hn) c_1
    | succ k ih =>
      intro i H locs ls hi hl hw
      refine lv_iload_n S.1 S.2.1 dJ7_fill_53178_5 rfl (lv_at hl 2 rfl) ?_
      refine lv_iload_n S.1 S.2.1 dJ7_fill_53178_6 rfl (lv_at hl 3 rfl) ?_
      refine lv_icmp_ge (tgt := 20) S.1 S.2.1 dJ7_fill_53178_7 (by decide) (fun c_1 => ?_) (fun c_1 => ?_)
      · exact absurd c_1 (nI_ge (by omega) hn)
      · refine lv_aload_n S.1 S.2.1 dJ7_fill_53178_10 rfl (lv_at hl 0 rfl) ?_
        refine lv_iload_n S.1 S.2.1 dJ7_fill_53178_11 rfl (lv_at hl 2 rfl) ?_
        refine lv_iload_n S.1 S.2.1 dJ7_fill_53178_12 rfl (lv_at hl 1 rfl) ?_
        refine xast S hK hw q 0 (hg _) ht (vp_in_nI (by omega) hn) (hs _ _) dJ7_fill_53178_13 (fun H locs hw => ?_)
        rw [sp_sp, nI_clamp (by omega)] at hw
        have e0 : (sp u q (fillF (u.1 q) i v)).1 q = fillF (u.1 q) i v := if_pos rfl
        rw [e0, fillF_s] at hw
        refine lv_iinc (v := nI (i + 1)) (lv' := [(2, .int (nI (i + 1))), (0, .ref ad), (1, .int v), (3, .int (nI n))]) S.1 S.2.1 dJ7_fill_53178_14 hl (k := 2) rfl (nI_succ i).symm (by decide) rfl (fun ls hl => ?_)
        refine lv_goto (tgt := 5) S.1 S.2.1 dJ7_fill_53178_17 (by decide) ?_
        exact ih (i + 1) _ _ _ (by omega) (lv_sub hl [1, 2, 0, 3] rfl) hw
  exact lp n 0 _ _ _ (by omega) (lv_sub hl [2, 3, 1, 0] rfl) (by rw [fillF_0, sp_self]; exact hw)
theorem xrem10 {y : Int32} (hy : 0 ≤ y.toInt) : 0 ≤ (y - y / 10 * 10).toInt ∧ (y - y / 10 * 10).toInt < 10 := by
  obtain ⟨i, hi, rfl⟩ := xnI hy
  rw [show (10 : Int32) = nI 10 from rfl, pk_rem hi (by decide) (by decide), nI_toInt (by omega)]
  omega
