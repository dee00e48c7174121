/-! THE CLAIM OUT OF ONE WALK OF THE LAW'S BODY. Your part is whole_start (and what it stands on); all else here is the same for every law, but numbers. -/
def R_law : String := "CastGalleryLaw"
def lw_P (b : Addr) (xs : List Int32) (args : Array Value) (s : State) : Prop := args = #[.ref b] ∧ s.IntsAt b xs ∧ xs.length ≤ 256 ∧ (Jvm.Cond.and given_1 narrow_1).before args s = true
def lw_Q (_ : Array Value) (s : State) (o : Outcome) (t : State) : Prop := o = .returned (some (.int 1)) ∧ Framed s o t [] 600000 7302250
def lw_Z (below : List Frame) (a : Array Value) (s : State) : State → Prop := fun t => ∃ o, t.status = .running ∧ Ended t below o ∧ lw_Q a s o t
/-- the law's own end, with 1 on the stack, nothing written that was there before, its room as the claim has it -/
theorem lw_ret {p : Program} {l : Launch} {e : Env} {s : State} {m : MethodId} {below : List Frame} {meth : Method} {c : Code} {b : Nat} (hx : p.tables.exec = Jvm.exec) (hb : c.code = code) (hr : meth.sig.returnType = ret) (hlocks : meth.locks = false) {pc : Nat} {H : Heap} {ls : Array Slot} (hdg : decode code pc = .ok (.ireturn, 1)) : W p l e room_1 s m #[Value.ref b] below meth c H [] 600000 7302250 (lw_Z below #[Value.ref b] s) (F0 m pc ls [.int 1]) := by
  intro T hT X
  obtain ⟨fs, hret, hrun, hended, hW, hframe⟩ := X.leave (v := some (.int 1)) (hlocks := hlocks) (fun h => by rw [hr] at h; cases h)
  have hmeth' : T.vm.method? m = some meth := X.method'
  refine ⟨T.setFrames fs, ?_, .returned (some (.int 1)), hrun, hended, rfl, ⟨_, rfl⟩, hW, hframe⟩
  jvm_step X.here [X.here.top, hx, hb, hdg, hmeth', hr, ret, narrow_b1]
  (try refine ⟨rfl, ?_⟩); (try refine ⟨rfl, ?_⟩)
  first | (intro acts; rw [hret _ acts rfl rfl rfl]) | rw [hret _ _ rfl rfl rfl]
  exact Steps.refl _
/-- what holds at the law's entry: the machine, the code, the tables' words (any of lw_tbl by 'hts w (by decide +kernel)'), the script of L ints xs at the cell b, what the Statement gives of the start (any of its parts by flat_of_before) -/
def lw_At (p : Program) (s : State) (m : MethodId) (meth : Method) (c : Code) (b L : Nat) (xs : Nat → Int32) : Prop :=
  p.tables.exec = Jvm.exec ∧ c.code = code ∧ meth.sig.returnType = ret ∧ c.maxLocals = 4 ∧ s.vm.findClass R_law = some m.cls ∧ (∀ w ∈ lw_tbl, w.before #[Value.ref b] s = true) ∧ va_X b L xs s s.heap ∧ b < s.heap.size ∧ meth.locks = false ∧ (Jvm.Cond.and given_1 narrow_1).before #[Value.ref b] s = true
def St_type (Rel : xU → xU → Prop) : Prop := ∀ (u v : xU) (p1 : Int32), Rel u v → (((0 ≤ ((u.1 1 1)).toInt ∧ ((u.1 1 1)).toInt ≤ 150))) ∧ (((0 ≤ ((v.1 0 15)).toInt ∧ ((v.1 0 15)).toInt ≤ 150))) ∧ (k_type u p1).1 = (m_type v p1).1 ∧ Rel (k_type u p1).2 (m_type v p1).2
def St_clear (Rel : xU → xU → Prop) : Prop := ∀ (u v : xU), Rel u v → ((True)) ∧ ((True)) ∧ (k_clear u).1 = (m_clear v).1 ∧ Rel (k_clear u).2 (m_clear v).2
def St_hall (Rel : xU → xU → Prop) : Prop := ∀ (u v : xU), Rel u v → (((0 ≤ ((u.1 1 1)).toInt ∧ ((u.1 1 1)).toInt ≤ 150)) ∧ ((0 ≤ ((u.1 1 4)).toInt ∧ ((u.1 1 4)).toInt ≤ 150)) ∧ ((0 ≤ ((u.1 4 0)).toInt ∧ ((u.1 4 0)).toInt ≤ 8)) ∧ ((0 ≤ ((u.1 4 1)).toInt ∧ ((u.1 4 1)).toInt ≤ 6))) ∧ (((0 ≤ ((v.1 0 15)).toInt ∧ ((v.1 0 15)).toInt ≤ 150)) ∧ ((0 ≤ ((v.1 0 16)).toInt ∧ ((v.1 0 16)).toInt ≤ 150)) ∧ ((0 ≤ ((v.1 0 22)).toInt ∧ ((v.1 0 22)).toInt ≤ 8)) ∧ ((0 ≤ ((v.1 0 27)).toInt ∧ ((v.1 0 27)).toInt ≤ 6))) ∧ (k_hall u).1 = (m_hall v).1 ∧ Rel (k_hall u).2 (m_hall v).2
def St_thing (Rel : xU → xU → Prop) : Prop := ∀ (u v : xU) (p1 : Int32) (p2 : Int32), Rel u v → (((0 ≤ ((u.1 13 0)).toInt ∧ ((u.1 13 0)).toInt ≤ 8)) ∧ ((0 ≤ ((u.1 13 1)).toInt ∧ ((u.1 13 1)).toInt ≤ 6))) ∧ (((0 ≤ ((v.1 0 0)).toInt ∧ ((v.1 0 0)).toInt ≤ 8)) ∧ ((0 ≤ ((v.1 0 5)).toInt ∧ ((v.1 0 5)).toInt ≤ 6))) ∧ (k_thing u p1 p2) = (m_thing v p1 p2) ∧ Rel u v
def St_cast (Rel : xU → xU → Prop) : Prop := ∀ (u v : xU) (p1 : Int32) (p2 : Int32), Rel u v → (((0 ≤ ((u.1 13 0)).toInt ∧ ((u.1 13 0)).toInt ≤ 8)) ∧ ((0 ≤ ((u.1 13 1)).toInt ∧ ((u.1 13 1)).toInt ≤ 6))) ∧ (((0 ≤ ((v.1 0 0)).toInt ∧ ((v.1 0 0)).toInt ≤ 8)) ∧ ((0 ≤ ((v.1 0 5)).toInt ∧ ((v.1 0 5)).toInt ≤ 6))) ∧ (k_cast u p1 p2) = (m_cast v p1 p2) ∧ Rel u v
def St_far (Rel : xU → xU → Prop) : Prop := ∀ (u v : xU) (p1 : Int32) (p2 : Int32), Rel u v → (((0 ≤ ((u.1 13 0)).toInt ∧ ((u.1 13 0)).toInt ≤ 8)) ∧ ((0 ≤ ((u.1 13 1)).toInt ∧ ((u.1 13 1)).toInt ≤ 6))) ∧ (((0 ≤ ((v.1 0 0)).toInt ∧ ((v.1 0 0)).toInt ≤ 8)) ∧ ((0 ≤ ((v.1 0 5)).toInt ∧ ((v.1 0 5)).toInt ≤ 6))) ∧ (k_far u p1 p2) = (m_far v p1 p2) ∧ Rel u v
def St_sets (Rel : xU → xU → Prop) : Prop := ∀ (u v : xU) (p1 : Int32) (p2 : Int32), Rel u v → (((0 ≤ ((u.1 13 0)).toInt ∧ ((u.1 13 0)).toInt ≤ 8)) ∧ ((0 ≤ ((u.1 13 1)).toInt ∧ ((u.1 13 1)).toInt ≤ 6)) ∧ ((0 ≤ ((u.1 27 1)).toInt ∧ ((u.1 27 1)).toInt ≤ 9))) ∧ (((0 ≤ ((v.1 0 0)).toInt ∧ ((v.1 0 0)).toInt ≤ 8)) ∧ ((0 ≤ ((v.1 0 5)).toInt ∧ ((v.1 0 5)).toInt ≤ 6)) ∧ ((0 ≤ ((v.1 7 74)).toInt ∧ ((v.1 7 74)).toInt ≤ 10))) ∧ (k_sets u p1 p2).1 = (m_sets v p1 p2).1 ∧ Rel (k_sets u p1 p2).2 (m_sets v p1 p2).2
def St_nights (Rel : xU → xU → Prop) : Prop := ∀ (u v : xU) (p1 : Int32), Rel u v → (((0 ≤ ((u.1 13 0)).toInt ∧ ((u.1 13 0)).toInt ≤ 8)) ∧ ((0 ≤ ((u.1 13 1)).toInt ∧ ((u.1 13 1)).toInt ≤ 6)) ∧ ((0 ≤ ((u.1 27 1)).toInt ∧ ((u.1 27 1)).toInt ≤ 9)) ∧ (kK (u.1 26))) ∧ (((0 ≤ ((v.1 0 0)).toInt ∧ ((v.1 0 0)).toInt ≤ 8)) ∧ ((0 ≤ ((v.1 0 5)).toInt ∧ ((v.1 0 5)).toInt ≤ 6)) ∧ ((0 ≤ ((v.1 7 74)).toInt ∧ ((v.1 7 74)).toInt ≤ 10)) ∧ (mK (v.1 7))) ∧ (k_nights u p1).1 = (m_nights v p1).1 ∧ Rel (k_nights u p1).2 (m_nights v p1).2
def St_mends (Rel : xU → xU → Prop) : Prop := ∀ (u v : xU) (p1 : Int32), Rel u v → (((0 ≤ ((u.1 13 0)).toInt ∧ ((u.1 13 0)).toInt ≤ 8)) ∧ ((0 ≤ ((u.1 13 1)).toInt ∧ ((u.1 13 1)).toInt ≤ 6)) ∧ ((0 ≤ ((u.1 27 1)).toInt ∧ ((u.1 27 1)).toInt ≤ 9))) ∧ (((0 ≤ ((v.1 0 0)).toInt ∧ ((v.1 0 0)).toInt ≤ 8)) ∧ ((0 ≤ ((v.1 0 5)).toInt ∧ ((v.1 0 5)).toInt ≤ 6)) ∧ ((0 ≤ ((v.1 7 74)).toInt ∧ ((v.1 7 74)).toInt ≤ 10))) ∧ (k_mends u p1).1 = (m_mends v p1).1 ∧ Rel (k_mends u p1).2 (m_mends v p1).2
def St_joins (Rel : xU → xU → Prop) : Prop := ∀ (u v : xU) (p1 : Int32) (p2 : Int32) (p3 : Int32), Rel u v → (((0 ≤ ((u.1 13 0)).toInt ∧ ((u.1 13 0)).toInt ≤ 8)) ∧ ((0 ≤ ((u.1 13 1)).toInt ∧ ((u.1 13 1)).toInt ≤ 6)) ∧ ((0 ≤ ((u.1 27 1)).toInt ∧ ((u.1 27 1)).toInt ≤ 9)) ∧ (kK (u.1 26))) ∧ (((0 ≤ ((v.1 0 0)).toInt ∧ ((v.1 0 0)).toInt ≤ 8)) ∧ ((0 ≤ ((v.1 0 5)).toInt ∧ ((v.1 0 5)).toInt ≤ 6)) ∧ ((0 ≤ ((v.1 7 74)).toInt ∧ ((v.1 7 74)).toInt ≤ 10)) ∧ (mK (v.1 7))) ∧ (k_joins u p1 p2 p3).1 = (m_joins v p1 p2 p3).1 ∧ Rel (k_joins u p1 p2 p3).2 (m_joins v p1 p2 p3).2
def St_undo (Rel : xU → xU → Prop) : Prop := ∀ (u v : xU), Rel u v → (((0 ≤ ((u.1 27 1)).toInt ∧ ((u.1 27 1)).toInt ≤ 9))) ∧ (((0 ≤ ((v.1 7 74)).toInt ∧ ((v.1 7 74)).toInt ≤ 10))) ∧ (k_undo u).1 = (m_undo v).1 ∧ Rel (k_undo u).2 (m_undo v).2
def St_now (Rel : xU → xU → Prop) : Prop := ∀ (u v : xU) (p1 : Int32), Rel u v → (((0 ≤ ((u.1 13 0)).toInt ∧ ((u.1 13 0)).toInt ≤ 8)) ∧ ((0 ≤ ((u.1 13 1)).toInt ∧ ((u.1 13 1)).toInt ≤ 6))) ∧ (((0 ≤ ((v.1 0 0)).toInt ∧ ((v.1 0 0)).toInt ≤ 8)) ∧ ((0 ≤ ((v.1 0 5)).toInt ∧ ((v.1 0 5)).toInt ≤ 6))) ∧ (k_now u p1) = (m_now v p1) ∧ Rel u v
def St_plan (Rel : xU → xU → Prop) : Prop := ∀ (u v : xU) (p1 : Int32) (p2 : Int32) (p3 : Int32), Rel u v → (((0 ≤ ((u.1 13 0)).toInt ∧ ((u.1 13 0)).toInt ≤ 8)) ∧ ((0 ≤ ((u.1 13 1)).toInt ∧ ((u.1 13 1)).toInt ≤ 6))) ∧ (((0 ≤ ((v.1 0 0)).toInt ∧ ((v.1 0 0)).toInt ≤ 8)) ∧ ((0 ≤ ((v.1 0 5)).toInt ∧ ((v.1 0 5)).toInt ≤ 6)) ∧ (∀ c : Int32, 0 ≤ c.toInt → c.toInt < (v.1 0 5).toInt → ¬ (v.1 6 c.toNatClampNeg) = 0)) ∧ (k_plan u p1 p2 p3).1 = (m_plan v p1 p2 p3) ∧ Rel (k_plan u p1 p2 p3).2 v
def St_best (Rel : xU → xU → Prop) : Prop := ∀ (u v : xU) (p1 : Int32) (p2 : Int32) (p3 : Int32), Rel u v → (((0 ≤ ((u.1 13 0)).toInt ∧ ((u.1 13 0)).toInt ≤ 8)) ∧ ((0 ≤ ((u.1 13 1)).toInt ∧ ((u.1 13 1)).toInt ≤ 6))) ∧ (((0 ≤ ((v.1 0 0)).toInt ∧ ((v.1 0 0)).toInt ≤ 8)) ∧ ((0 ≤ ((v.1 0 5)).toInt ∧ ((v.1 0 5)).toInt ≤ 6)) ∧ (∀ c : Int32, 0 ≤ c.toInt → c.toInt < (v.1 0 5).toInt → ¬ (v.1 6 c.toNatClampNeg) = 0)) ∧ (k_best u p1 p2 p3).1 = (m_best v p1 p2 p3) ∧ Rel (k_best u p1 p2 p3).2 v
def St_own (Rel : xU → xU → Prop) : Prop := ∀ (u v : xU) (p1 : Int32), Rel u v → (((0 ≤ ((u.1 13 0)).toInt ∧ ((u.1 13 0)).toInt ≤ 8)) ∧ ((0 ≤ ((u.1 13 1)).toInt ∧ ((u.1 13 1)).toInt ≤ 6))) ∧ (((0 ≤ ((v.1 0 0)).toInt ∧ ((v.1 0 0)).toInt ≤ 8)) ∧ ((0 ≤ ((v.1 0 5)).toInt ∧ ((v.1 0 5)).toInt ≤ 6))) ∧ (k_own u p1).1 = (m_own v p1).1 ∧ Rel (k_own u p1).2 (m_own v p1).2
def St_near (Rel : xU → xU → Prop) : Prop := ∀ (u v : xU) (p1 : Int32) (p2 : Int32), Rel u v → (((0 ≤ ((u.1 13 0)).toInt ∧ ((u.1 13 0)).toInt ≤ 8)) ∧ ((0 ≤ ((u.1 13 1)).toInt ∧ ((u.1 13 1)).toInt ≤ 6))) ∧ (((0 ≤ ((v.1 0 0)).toInt ∧ ((v.1 0 0)).toInt ≤ 8)) ∧ ((0 ≤ ((v.1 0 5)).toInt ∧ ((v.1 0 5)).toInt ≤ 6))) ∧ (k_near u p1 p2) = (m_near v p1 p2) ∧ Rel u v
def St_odds (Rel : xU → xU → Prop) : Prop := ∀ (u v : xU) (p1 : Int32) (p2 : Int32) (p3 : Int32), Rel u v → (((0 ≤ ((u.1 13 0)).toInt ∧ ((u.1 13 0)).toInt ≤ 8)) ∧ ((0 ≤ ((u.1 13 1)).toInt ∧ ((u.1 13 1)).toInt ≤ 6)) ∧ (0 ≤ (((u.1 13 1) - (j_bitCount (u.1 21 1)))).toInt ∧ (((u.1 13 1) - (j_bitCount (u.1 21 1)))).toInt < 7)) ∧ (((0 ≤ ((v.1 0 5)).toInt ∧ ((v.1 0 5)).toInt ≤ 6)) ∧ (0 ≤ (((v.1 0 5) - (m_bits (v.1 7 67)))).toInt ∧ (((v.1 0 5) - (m_bits (v.1 7 67)))).toInt < 7)) ∧ (k_odds u p1 p2 p3) = (m_odds v p1 p2 p3) ∧ Rel u v
def St_hears (Rel : xU → xU → Prop) : Prop := ∀ (u v : xU) (p1 : Int32) (p2 : Int32), Rel u v → (((0 ≤ ((u.1 13 0)).toInt ∧ ((u.1 13 0)).toInt ≤ 8)) ∧ ((0 ≤ ((u.1 13 1)).toInt ∧ ((u.1 13 1)).toInt ≤ 6)) ∧ ((0 ≤ ((u.1 44 3)).toInt ∧ ((u.1 44 3)).toInt ≤ 6))) ∧ (((0 ≤ ((v.1 0 0)).toInt ∧ ((v.1 0 0)).toInt ≤ 8)) ∧ ((0 ≤ ((v.1 0 5)).toInt ∧ ((v.1 0 5)).toInt ≤ 6)) ∧ ((0 ≤ ((v.1 0 11)).toInt ∧ ((v.1 0 11)).toInt ≤ 6))) ∧ (k_hears u p1 p2).1 = (m_hears v p1 p2).1 ∧ Rel (k_hears u p1 p2).2 (m_hears v p1 p2).2
def St_forget (Rel : xU → xU → Prop) : Prop := ∀ (u v : xU), Rel u v → ((True)) ∧ ((True)) ∧ (k_forget u).1 = (m_forget v).1 ∧ Rel (k_forget u).2 (m_forget v).2
def St_who (Rel : xU → xU → Prop) : Prop := ∀ (u v : xU), Rel u v → (((0 ≤ ((u.1 13 0)).toInt ∧ ((u.1 13 0)).toInt ≤ 8)) ∧ ((0 ≤ ((u.1 13 1)).toInt ∧ ((u.1 13 1)).toInt ≤ 6)) ∧ ((0 ≤ ((u.1 44 3)).toInt ∧ ((u.1 44 3)).toInt ≤ 6))) ∧ (((0 ≤ ((v.1 0 0)).toInt ∧ ((v.1 0 0)).toInt ≤ 8)) ∧ ((0 ≤ ((v.1 0 5)).toInt ∧ ((v.1 0 5)).toInt ≤ 6)) ∧ ((0 ≤ ((v.1 0 11)).toInt ∧ ((v.1 0 11)).toInt ≤ 6))) ∧ (k_who u) = (m_who v) ∧ Rel u v
def St_ask (Rel : xU → xU → Prop) : Prop := ∀ (u v : xU), Rel u v → (((0 ≤ ((u.1 13 0)).toInt ∧ ((u.1 13 0)).toInt ≤ 8)) ∧ ((0 ≤ ((u.1 13 1)).toInt ∧ ((u.1 13 1)).toInt ≤ 6)) ∧ ((0 ≤ ((u.1 44 3)).toInt ∧ ((u.1 44 3)).toInt ≤ 6))) ∧ (((0 ≤ ((v.1 0 0)).toInt ∧ ((v.1 0 0)).toInt ≤ 8)) ∧ ((0 ≤ ((v.1 0 5)).toInt ∧ ((v.1 0 5)).toInt ≤ 6)) ∧ ((0 ≤ ((v.1 0 11)).toInt ∧ ((v.1 0 11)).toInt ≤ 6))) ∧ (k_ask u) = (m_ask v) ∧ Rel u v
def St_mark (Rel : xU → xU → Prop) : Prop := ∀ (u v : xU) (p1 : Int32) (p2 : Int32), Rel u v → (((0 ≤ ((u.1 13 0)).toInt ∧ ((u.1 13 0)).toInt ≤ 8)) ∧ ((0 ≤ ((u.1 13 1)).toInt ∧ ((u.1 13 1)).toInt ≤ 6))) ∧ (((0 ≤ ((v.1 0 0)).toInt ∧ ((v.1 0 0)).toInt ≤ 8)) ∧ ((0 ≤ ((v.1 0 5)).toInt ∧ ((v.1 0 5)).toInt ≤ 6))) ∧ (k_mark u p1 p2).1 = (m_mark v p1 p2).1 ∧ Rel (k_mark u p1 p2).2 (m_mark v p1 p2).2
def St_keep (Rel : xU → xU → Prop) : Prop := ∀ (u v : xU) (p1 : Int32), Rel u v → ((True)) ∧ ((True)) ∧ (k_keep u p1).1 = (m_keep v p1).1 ∧ Rel (k_keep u p1).2 (m_keep v p1).2
def St_back (Rel : xU → xU → Prop) : Prop := ∀ (u v : xU) (p1 : Int32), Rel u v → ((True)) ∧ ((True)) ∧ (k_back u p1).1 = (m_back v p1).1 ∧ Rel (k_back u p1).2 (m_back v p1).2
def St_count (Rel : xU → xU → Prop) : Prop := ∀ (u v : xU) (p1 : Int32), Rel u v → ((True)) ∧ ((True)) ∧ (k_count u p1) = (m_count v p1) ∧ Rel u v
def St_trace (Rel : xU → xU → Prop) : Prop := ∀ (u v : xU), Rel u v → ((True)) ∧ ((True)) ∧ (k_trace u) = (m_trace v) ∧ Rel u v
def St_all (Rel : xU → xU → Prop) : Prop := St_type Rel ∧ St_clear Rel ∧ St_hall Rel ∧ St_thing Rel ∧ St_cast Rel ∧ St_far Rel ∧ St_sets Rel ∧ St_nights Rel ∧ St_mends Rel ∧ St_joins Rel ∧ St_undo Rel ∧ St_now Rel ∧ St_plan Rel ∧ St_best Rel ∧ St_own Rel ∧ St_near Rel ∧ St_odds Rel ∧ St_hears Rel ∧ St_forget Rel ∧ St_who Rel ∧ St_ask Rel ∧ St_mark Rel ∧ St_keep Rel ∧ St_back Rel ∧ St_count Rel ∧ St_trace Rel
set_option maxHeartbeats 4000000 in
set_option maxRecDepth 100000 in
theorem lc_type (Rel : xU → xU → Prop) (hs : St_type Rel) {p : Program} {l : Launch} {e : Env} {s : State} {m : MethodId} {below : List Frame} {meth : Method} {c : Code} {D : va_G} {a b2 : Nat → Nat} {Y : Nat → ClassId} {ts : Nat → Nat} {b L : Nat} {xs : Nat → Int32} (hL : L ≤ 256) (S : CallFix p m c code 4 s #[Value.ref b] xT RL) (hr : meth.sig.returnType = ret) (hlk : meth.locks = false) (hX : va_X b L xs s s.heap) (hbl : b < s.heap.size) (hK : va_K D vwCl (xty Y) s) (hE : xE ts (fun q : Nat => s.heap.size ≤ q) s) (hdj : djC a b2) (x3 : Int32) (hx0 : 0 ≤ x3.toInt) (hx1 : x3.toInt + 4 ≤ L)
    (kk : ∀ (u v : xU) (H : Heap) (locs : List Loc) (ls : Array Slot), Rel u v → lv_has ls 4 [(0, .ref b), (1, .ref (a 0)), (2, .ref (b2 0)), (3, .int x3)] → xw D (wC a Y) (fun q : Nat => s.heap.size ≤ q) s.heap H locs u → xw D (wM b2 Y) (fun q : Nat => s.heap.size ≤ q) s.heap H locs v → W p l e room_1 s m #[Value.ref b] below meth c H locs 600000 7302250 (lw_Z below #[Value.ref b] s) (F0 m 831 ls []))
    (u v : xU) (H : Heap) (locs : List Loc) (ls : Array Slot) (hR : Rel u v) (hl : lv_has ls 4 [(0, .ref b), (1, .ref (a 0)), (2, .ref (b2 0)), (3, .int x3)]) (hw : xw D (wC a Y) (fun q : Nat => s.heap.size ≤ q) s.heap H locs u) (hg : xw D (wM b2 Y) (fun q : Nat => s.heap.size ≤ q) s.heap H locs v) : W p l e room_1 s m #[Value.ref b] below meth c H locs 600000 7302250 (lw_Z below #[Value.ref b] s) (F0 m 152 ls []) := by
  have hA : ∀ q : Nat, s.heap.size ≤ q → (fun q : Nat => s.heap.size ≤ q) q := fun _ h => h
  have hbA : ¬ (fun q : Nat => s.heap.size ≤ q) b := Nat.not_le.mpr hbl
  obtain ⟨h0, g0, he, hR2⟩ := hs u v (xs (x3 + 1).toNatClampNeg) hR
  have e1 : (x3 + 1).toInt = x3.toInt + 1 := xadd rfl rfl (by have : (1 : Int32).toInt = 1 := rfl; omega) (by have : (1 : Int32).toInt = 1 := rfl; omega)
  refine lv_aload_n S.1 S.2.1 dL_law_152 rfl (lv_at hl 1 rfl) ?_
  refine lv_aload_n S.1 S.2.1 dL_law_153 rfl (lv_at hl 0 rfl) ?_
  refine lv_iload_n S.1 S.2.1 dL_law_154 rfl (lv_at hl 3 rfl) ?_
  refine lv_iconst (v := 1) S.1 S.2.1 dL_law_155 (by decide) ?_
  refine lv_iadd S.1 S.2.1 dL_law_156 ?_
  refine va_sld S.1 S.2.1 hX hbl hbA hw.2.2 (xvi e1 (by omega) (by omega)) dL_law_157 ?_
  refine xli (rest := []) S hK hE hA hw hg hdj.cm yfX10_type (c_k_type l D a Y ts u (xs (x3 + 1).toNatClampNeg) h0) 0 rfl rfl mlL_13 rfl rfl hl.1 ⟨rfl, rfl, Nat.le_of_ble_eq_true rfl, Nat.le_of_ble_eq_true rfl, Nat.le_of_ble_eq_true rfl, Nat.le_of_ble_eq_true rfl, Nat.le_of_ble_eq_true rfl⟩ dL_law_158 (fun H locs hw hg => ?_)
  refine lv_aload_n S.1 S.2.1 dL_law_161 rfl (lv_at hl 2 rfl) ?_
  refine lv_aload_n S.1 S.2.1 dL_law_162 rfl (lv_at hl 0 rfl) ?_
  refine lv_iload_n S.1 S.2.1 dL_law_163 rfl (lv_at hl 3 rfl) ?_
  refine lv_iconst (v := 1) S.1 S.2.1 dL_law_164 (by decide) ?_
  refine lv_iadd S.1 S.2.1 dL_law_165 ?_
  refine va_sld S.1 S.2.1 hX hbl hbA hw.2.2 (xvi e1 (by omega) (by omega)) dL_law_166 ?_
  refine xli (rest := [.int (k_type u (xs (x3 + 1).toNatClampNeg)).1]) S hK hE hA hg hw hdj.mc yfX11_type (c_m_type l D b2 Y ts v (xs (x3 + 1).toNatClampNeg) g0) 0 rfl rfl mlL_17 rfl rfl hl.1 ⟨rfl, rfl, Nat.le_of_ble_eq_true rfl, Nat.le_of_ble_eq_true rfl, Nat.le_of_ble_eq_true rfl, Nat.le_of_ble_eq_true rfl, Nat.le_of_ble_eq_true rfl⟩ dL_law_167 (fun H locs hg hw => ?_)
  refine lv_icmp_eq (tgt := 831) S.1 S.2.1 dL_law_170 (by decide) (fun hc => kk _ _ H locs ls hR2 hl hw hg) (fun hc => absurd he hc)
set_option maxHeartbeats 4000000 in
set_option maxRecDepth 100000 in
theorem lc_clear (Rel : xU → xU → Prop) (hs : St_clear Rel) {p : Program} {l : Launch} {e : Env} {s : State} {m : MethodId} {below : List Frame} {meth : Method} {c : Code} {D : va_G} {a b2 : Nat → Nat} {Y : Nat → ClassId} {ts : Nat → Nat} {b L : Nat} {xs : Nat → Int32} (hL : L ≤ 256) (S : CallFix p m c code 4 s #[Value.ref b] xT RL) (hr : meth.sig.returnType = ret) (hlk : meth.locks = false) (hX : va_X b L xs s s.heap) (hbl : b < s.heap.size) (hK : va_K D vwCl (xty Y) s) (hE : xE ts (fun q : Nat => s.heap.size ≤ q) s) (hdj : djC a b2) (x3 : Int32) (hx0 : 0 ≤ x3.toInt) (hx1 : x3.toInt + 4 ≤ L)
    (kk : ∀ (u v : xU) (H : Heap) (locs : List Loc) (ls : Array Slot), Rel u v → lv_has ls 4 [(0, .ref b), (1, .ref (a 0)), (2, .ref (b2 0)), (3, .int x3)] → xw D (wC a Y) (fun q : Nat => s.heap.size ≤ q) s.heap H locs u → xw D (wM b2 Y) (fun q : Nat => s.heap.size ≤ q) s.heap H locs v → W p l e room_1 s m #[Value.ref b] below meth c H locs 600000 7302250 (lw_Z below #[Value.ref b] s) (F0 m 831 ls []))
    (u v : xU) (H : Heap) (locs : List Loc) (ls : Array Slot) (hR : Rel u v) (hl : lv_has ls 4 [(0, .ref b), (1, .ref (a 0)), (2, .ref (b2 0)), (3, .int x3)]) (hw : xw D (wC a Y) (fun q : Nat => s.heap.size ≤ q) s.heap H locs u) (hg : xw D (wM b2 Y) (fun q : Nat => s.heap.size ≤ q) s.heap H locs v) : W p l e room_1 s m #[Value.ref b] below meth c H locs 600000 7302250 (lw_Z below #[Value.ref b] s) (F0 m 175 ls []) := by
  have hA : ∀ q : Nat, s.heap.size ≤ q → (fun q : Nat => s.heap.size ≤ q) q := fun _ h => h
  have hbA : ¬ (fun q : Nat => s.heap.size ≤ q) b := Nat.not_le.mpr hbl
  obtain ⟨h0, g0, he, hR2⟩ := hs u v hR
  refine lv_aload_n S.1 S.2.1 dL_law_175 rfl (lv_at hl 1 rfl) ?_
  refine xli (rest := []) S hK hE hA hw hg hdj.cm yfX10_clear (c_k_clear l D a Y ts u) 0 rfl rfl mlL_18 rfl rfl hl.1 ⟨rfl, rfl, Nat.le_of_ble_eq_true rfl, Nat.le_of_ble_eq_true rfl, Nat.le_of_ble_eq_true rfl, Nat.le_of_ble_eq_true rfl, Nat.le_of_ble_eq_true rfl⟩ dL_law_176 (fun H locs hw hg => ?_)
  refine lv_aload_n S.1 S.2.1 dL_law_179 rfl (lv_at hl 2 rfl) ?_
  refine xli (rest := [.int (k_clear u).1]) S hK hE hA hg hw hdj.mc yfX11_clear (c_m_clear l D b2 Y ts v) 0 rfl rfl mlL_22 rfl rfl hl.1 ⟨rfl, rfl, Nat.le_of_ble_eq_true rfl, Nat.le_of_ble_eq_true rfl, Nat.le_of_ble_eq_true rfl, Nat.le_of_ble_eq_true rfl, Nat.le_of_ble_eq_true rfl⟩ dL_law_180 (fun H locs hg hw => ?_)
  refine lv_icmp_eq (tgt := 831) S.1 S.2.1 dL_law_183 (by decide) (fun hc => kk _ _ H locs ls hR2 hl hw hg) (fun hc => absurd he hc)
set_option maxHeartbeats 4000000 in
set_option maxRecDepth 100000 in
theorem lc_hall (Rel : xU → xU → Prop) (hs : St_hall Rel) {p : Program} {l : Launch} {e : Env} {s : State} {m : MethodId} {below : List Frame} {meth : Method} {c : Code} {D : va_G} {a b2 : Nat → Nat} {Y : Nat → ClassId} {ts : Nat → Nat} {b L : Nat} {xs : Nat → Int32} (hL : L ≤ 256) (S : CallFix p m c code 4 s #[Value.ref b] xT RL) (hr : meth.sig.returnType = ret) (hlk : meth.locks = false) (hX : va_X b L xs s s.heap) (hbl : b < s.heap.size) (hK : va_K D vwCl (xty Y) s) (hE : xE ts (fun q : Nat => s.heap.size ≤ q) s) (hdj : djC a b2) (x3 : Int32) (hx0 : 0 ≤ x3.toInt) (hx1 : x3.toInt + 4 ≤ L)
    (kk : ∀ (u v : xU) (H : Heap) (locs : List Loc) (ls : Array Slot), Rel u v → lv_has ls 4 [(0, .ref b), (1, .ref (a 0)), (2, .ref (b2 0)), (3, .int x3)] → xw D (wC a Y) (fun q : Nat => s.heap.size ≤ q) s.heap H locs u → xw D (wM b2 Y) (fun q : Nat => s.heap.size ≤ q) s.heap H locs v → W p l e room_1 s m #[Value.ref b] below meth c H locs 600000 7302250 (lw_Z below #[Value.ref b] s) (F0 m 831 ls []))
    (u v : xU) (H : Heap) (locs : List Loc) (ls : Array Slot) (hR : Rel u v) (hl : lv_has ls 4 [(0, .ref b), (1, .ref (a 0)), (2, .ref (b2 0)), (3, .int x3)]) (hw : xw D (wC a Y) (fun q : Nat => s.heap.size ≤ q) s.heap H locs u) (hg : xw D (wM b2 Y) (fun q : Nat => s.heap.size ≤ q) s.heap H locs v) : W p l e room_1 s m #[Value.ref b] below meth c H locs 600000 7302250 (lw_Z below #[Value.ref b] s) (F0 m 188 ls []) := by
  have hA : ∀ q : Nat, s.heap.size ≤ q → (fun q : Nat => s.heap.size ≤ q) q := fun _ h => h
  have hbA : ¬ (fun q : Nat => s.heap.size ≤ q) b := Nat.not_le.mpr hbl
  obtain ⟨⟨h0, h1, h2, h3⟩, ⟨g0, g1, g2, g3⟩, he, hR2⟩ := hs u v hR
  refine lv_aload_n S.1 S.2.1 dL_law_188 rfl (lv_at hl 1 rfl) ?_
  refine xli (rest := []) S hK hE hA hw hg hdj.cm yfX10_hall (c_k_hall l D a Y ts u h0 h1 h2 h3) 0 rfl rfl mlL_23 rfl rfl hl.1 ⟨rfl, rfl, Nat.le_of_ble_eq_true rfl, Nat.le_of_ble_eq_true rfl, Nat.le_of_ble_eq_true rfl, Nat.le_of_ble_eq_true rfl, Nat.le_of_ble_eq_true rfl⟩ dL_law_189 (fun H locs hw hg => ?_)
  refine lv_aload_n S.1 S.2.1 dL_law_192 rfl (lv_at hl 2 rfl) ?_
  refine xli (rest := [.int (k_hall u).1]) S hK hE hA hg hw hdj.mc yfX11_hall (c_m_hall l D b2 Y ts v g0 g1 g2 g3) 0 rfl rfl mlL_26 rfl rfl hl.1 ⟨rfl, rfl, Nat.le_of_ble_eq_true rfl, Nat.le_of_ble_eq_true rfl, Nat.le_of_ble_eq_true rfl, Nat.le_of_ble_eq_true rfl, Nat.le_of_ble_eq_true rfl⟩ dL_law_193 (fun H locs hg hw => ?_)
  refine lv_icmp_eq (tgt := 831) S.1 S.2.1 dL_law_196 (by decide) (fun hc => kk _ _ H locs ls hR2 hl hw hg) (fun hc => absurd he hc)
set_option maxHeartbeats 4000000 in
set_option maxRecDepth 100000 in
theorem lc_thing (Rel : xU → xU → Prop) (hs : St_thing Rel) {p : Program} {l : Launch} {e : Env} {s : State} {m : MethodId} {below : List Frame} {meth : Method} {c : Code} {D : va_G} {a b2 : Nat → Nat} {Y : Nat → ClassId} {ts : Nat → Nat} {b L : Nat} {xs : Nat → Int32} (hL : L ≤ 256) (S : CallFix p m c code 4 s #[Value.ref b] xT RL) (hr : meth.sig.returnType = ret) (hlk : meth.locks = false) (hX : va_X b L xs s s.heap) (hbl : b < s.heap.size) (hK : va_K D vwCl (xty Y) s) (hE : xE ts (fun q : Nat => s.heap.size ≤ q) s) (hdj : djC a b2) (x3 : Int32) (hx0 : 0 ≤ x3.toInt) (hx1 : x3.toInt + 4 ≤ L)
    (kk : ∀ (u v : xU) (H : Heap) (locs : List Loc) (ls : Array Slot), Rel u v → lv_has ls 4 [(0, .ref b), (1, .ref (a 0)), (2, .ref (b2 0)), (3, .int x3)] → xw D (wC a Y) (fun q : Nat => s.heap.size ≤ q) s.heap H locs u → xw D (wM b2 Y) (fun q : Nat => s.heap.size ≤ q) s.heap H locs v → W p l e room_1 s m #[Value.ref b] below meth c H locs 600000 7302250 (lw_Z below #[Value.ref b] s) (F0 m 831 ls []))
    (u v : xU) (H : Heap) (locs : List Loc) (ls : Array Slot) (hR : Rel u v) (hl : lv_has ls 4 [(0, .ref b), (1, .ref (a 0)), (2, .ref (b2 0)), (3, .int x3)]) (hw : xw D (wC a Y) (fun q : Nat => s.heap.size ≤ q) s.heap H locs u) (hg : xw D (wM b2 Y) (fun q : Nat => s.heap.size ≤ q) s.heap H locs v) : W p l e room_1 s m #[Value.ref b] below meth c H locs 600000 7302250 (lw_Z below #[Value.ref b] s) (F0 m 201 ls []) := by
  have hA : ∀ q : Nat, s.heap.size ≤ q → (fun q : Nat => s.heap.size ≤ q) q := fun _ h => h
  have hbA : ¬ (fun q : Nat => s.heap.size ≤ q) b := Nat.not_le.mpr hbl
  obtain ⟨⟨h0, h1⟩, ⟨g0, g1⟩, he, hR2⟩ := hs u v (xs (x3 + 1).toNatClampNeg) (xs (x3 + 2).toNatClampNeg) hR
  have e1 : (x3 + 1).toInt = x3.toInt + 1 := xadd rfl rfl (by have : (1 : Int32).toInt = 1 := rfl; omega) (by have : (1 : Int32).toInt = 1 := rfl; omega)
  have e2 : (x3 + 2).toInt = x3.toInt + 2 := xadd rfl rfl (by have : (2 : Int32).toInt = 2 := rfl; omega) (by have : (2 : Int32).toInt = 2 := rfl; omega)
  refine lv_aload_n S.1 S.2.1 dL_law_201 rfl (lv_at hl 1 rfl) ?_
  refine lv_aload_n S.1 S.2.1 dL_law_202 rfl (lv_at hl 0 rfl) ?_
  refine lv_iload_n S.1 S.2.1 dL_law_203 rfl (lv_at hl 3 rfl) ?_
  refine lv_iconst (v := 1) S.1 S.2.1 dL_law_204 (by decide) ?_
  refine lv_iadd S.1 S.2.1 dL_law_205 ?_
  refine va_sld S.1 S.2.1 hX hbl hbA hw.2.2 (xvi e1 (by omega) (by omega)) dL_law_206 ?_
  refine lv_aload_n S.1 S.2.1 dL_law_207 rfl (lv_at hl 0 rfl) ?_
  refine lv_iload_n S.1 S.2.1 dL_law_208 rfl (lv_at hl 3 rfl) ?_
  refine lv_iconst (v := 2) S.1 S.2.1 dL_law_209 (by decide) ?_
  refine lv_iadd S.1 S.2.1 dL_law_210 ?_
  refine va_sld S.1 S.2.1 hX hbl hbA hw.2.2 (xvi e2 (by omega) (by omega)) dL_law_211 ?_
  refine xli (rest := []) S hK hE hA hw hg hdj.cm yfX10_thing (c_k_thing l D a Y ts u (xs (x3 + 1).toNatClampNeg) (xs (x3 + 2).toNatClampNeg) h0 h1) 0 rfl rfl mlL_27 rfl rfl hl.1 ⟨rfl, rfl, Nat.le_of_ble_eq_true rfl, Nat.le_of_ble_eq_true rfl, Nat.le_of_ble_eq_true rfl, Nat.le_of_ble_eq_true rfl, Nat.le_of_ble_eq_true rfl⟩ dL_law_212 (fun H locs hw hg => ?_)
  refine lv_aload_n S.1 S.2.1 dL_law_215 rfl (lv_at hl 2 rfl) ?_
  refine lv_aload_n S.1 S.2.1 dL_law_216 rfl (lv_at hl 0 rfl) ?_
  refine lv_iload_n S.1 S.2.1 dL_law_217 rfl (lv_at hl 3 rfl) ?_
  refine lv_iconst (v := 1) S.1 S.2.1 dL_law_218 (by decide) ?_
  refine lv_iadd S.1 S.2.1 dL_law_219 ?_
  refine va_sld S.1 S.2.1 hX hbl hbA hw.2.2 (xvi e1 (by omega) (by omega)) dL_law_220 ?_
  refine lv_aload_n S.1 S.2.1 dL_law_221 rfl (lv_at hl 0 rfl) ?_
  refine lv_iload_n S.1 S.2.1 dL_law_222 rfl (lv_at hl 3 rfl) ?_
  refine lv_iconst (v := 2) S.1 S.2.1 dL_law_223 (by decide) ?_
  refine lv_iadd S.1 S.2.1 dL_law_224 ?_
  refine va_sld S.1 S.2.1 hX hbl hbA hw.2.2 (xvi e2 (by omega) (by omega)) dL_law_225 ?_
  refine xli (rest := [.int (k_thing u (xs (x3 + 1).toNatClampNeg) (xs (x3 + 2).toNatClampNeg))]) S hK hE hA hg hw hdj.mc yfX11_thing (c_m_thing l D b2 Y ts v (xs (x3 + 1).toNatClampNeg) (xs (x3 + 2).toNatClampNeg) g0 g1) 0 rfl rfl mlL_31 rfl rfl hl.1 ⟨rfl, rfl, Nat.le_of_ble_eq_true rfl, Nat.le_of_ble_eq_true rfl, Nat.le_of_ble_eq_true rfl, Nat.le_of_ble_eq_true rfl, Nat.le_of_ble_eq_true rfl⟩ dL_law_226 (fun H locs hg hw => ?_)
  refine lv_icmp_eq (tgt := 831) S.1 S.2.1 dL_law_229 (by decide) (fun hc => kk _ _ H locs ls hR2 hl hw hg) (fun hc => absurd he hc)
set_option maxHeartbeats 4000000 in
set_option maxRecDepth 100000 in
theorem lc_cast (Rel : xU → xU → Prop) (hs : St_cast Rel) {p : Program} {l : Launch} {e : Env} {s : State} {m : MethodId} {below : List Frame} {meth : Method} {c : Code} {D : va_G} {a b2 : Nat → Nat} {Y : Nat → ClassId} {ts : Nat → Nat} {b L : Nat} {xs : Nat → Int32} (hL : L ≤ 256) (S : CallFix p m c code 4 s #[Value.ref b] xT RL) (hr : meth.sig.returnType = ret) (hlk : meth.locks = false) (hX : va_X b L xs s s.heap) (hbl : b < s.heap.size) (hK : va_K D vwCl (xty Y) s) (hE : xE ts (fun q : Nat => s.heap.size ≤ q) s) (hdj : djC a b2) (x3 : Int32) (hx0 : 0 ≤ x3.toInt) (hx1 : x3.toInt + 4 ≤ L)
    (kk : ∀ (u v : xU) (H : Heap) (locs : List Loc) (ls : Array Slot), Rel u v → lv_has ls 4 [(0, .ref b), (1, .ref (a 0)), (2, .ref (b2 0)), (3, .int x3)] → xw D (wC a Y) (fun q : Nat => s.heap.size ≤ q) s.heap H locs u → xw D (wM b2 Y) (fun q : Nat => s.heap.size ≤ q) s.heap H locs v → W p l e room_1 s m #[Value.ref b] below meth c H locs 600000 7302250 (lw_Z below #[Value.ref b] s) (F0 m 831 ls []))
    (u v : xU) (H : Heap) (locs : List Loc) (ls : Array Slot) (hR : Rel u v) (hl : lv_has ls 4 [(0, .ref b), (1, .ref (a 0)), (2, .ref (b2 0)), (3, .int x3)]) (hw : xw D (wC a Y) (fun q : Nat => s.heap.size ≤ q) s.heap H locs u) (hg : xw D (wM b2 Y) (fun q : Nat => s.heap.size ≤ q) s.heap H locs v) : W p l e room_1 s m #[Value.ref b] below meth c H locs 600000 7302250 (lw_Z below #[Value.ref b] s) (F0 m 234 ls []) := by
  have hA : ∀ q : Nat, s.heap.size ≤ q → (fun q : Nat => s.heap.size ≤ q) q := fun _ h => h
  have hbA : ¬ (fun q : Nat => s.heap.size ≤ q) b := Nat.not_le.mpr hbl
  obtain ⟨⟨h0, h1⟩, ⟨g0, g1⟩, he, hR2⟩ := hs u v (xs (x3 + 1).toNatClampNeg) (xs (x3 + 2).toNatClampNeg) hR
  have e1 : (x3 + 1).toInt = x3.toInt + 1 := xadd rfl rfl (by have : (1 : Int32).toInt = 1 := rfl; omega) (by have : (1 : Int32).toInt = 1 := rfl; omega)
  have e2 : (x3 + 2).toInt = x3.toInt + 2 := xadd rfl rfl (by have : (2 : Int32).toInt = 2 := rfl; omega) (by have : (2 : Int32).toInt = 2 := rfl; omega)
  refine lv_aload_n S.1 S.2.1 dL_law_234 rfl (lv_at hl 1 rfl) ?_
  refine lv_aload_n S.1 S.2.1 dL_law_235 rfl (lv_at hl 0 rfl) ?_
  refine lv_iload_n S.1 S.2.1 dL_law_236 rfl (lv_at hl 3 rfl) ?_
  refine lv_iconst (v := 1) S.1 S.2.1 dL_law_237 (by decide) ?_
  refine lv_iadd S.1 S.2.1 dL_law_238 ?_
  refine va_sld S.1 S.2.1 hX hbl hbA hw.2.2 (xvi e1 (by omega) (by omega)) dL_law_239 ?_
  refine lv_aload_n S.1 S.2.1 dL_law_240 rfl (lv_at hl 0 rfl) ?_
  refine lv_iload_n S.1 S.2.1 dL_law_241 rfl (lv_at hl 3 rfl) ?_
  refine lv_iconst (v := 2) S.1 S.2.1 dL_law_242 (by decide) ?_
  refine lv_iadd S.1 S.2.1 dL_law_243 ?_
  refine va_sld S.1 S.2.1 hX hbl hbA hw.2.2 (xvi e2 (by omega) (by omega)) dL_law_244 ?_
  refine xli (rest := []) S hK hE hA hw hg hdj.cm yfX10_cast (c_k_cast l D a Y ts u (xs (x3 + 1).toNatClampNeg) (xs (x3 + 2).toNatClampNeg) h0 h1) 0 rfl rfl mlL_32 rfl rfl hl.1 ⟨rfl, rfl, Nat.le_of_ble_eq_true rfl, Nat.le_of_ble_eq_true rfl, Nat.le_of_ble_eq_true rfl, Nat.le_of_ble_eq_true rfl, Nat.le_of_ble_eq_true rfl⟩ dL_law_245 (fun H locs hw hg => ?_)
  refine lv_aload_n S.1 S.2.1 dL_law_248 rfl (lv_at hl 2 rfl) ?_
  refine lv_aload_n S.1 S.2.1 dL_law_249 rfl (lv_at hl 0 rfl) ?_
  refine lv_iload_n S.1 S.2.1 dL_law_250 rfl (lv_at hl 3 rfl) ?_
  refine lv_iconst (v := 1) S.1 S.2.1 dL_law_251 (by decide) ?_
  refine lv_iadd S.1 S.2.1 dL_law_252 ?_
  refine va_sld S.1 S.2.1 hX hbl hbA hw.2.2 (xvi e1 (by omega) (by omega)) dL_law_253 ?_
  refine lv_aload_n S.1 S.2.1 dL_law_254 rfl (lv_at hl 0 rfl) ?_
  refine lv_iload_n S.1 S.2.1 dL_law_255 rfl (lv_at hl 3 rfl) ?_
  refine lv_iconst (v := 2) S.1 S.2.1 dL_law_256 (by decide) ?_
  refine lv_iadd S.1 S.2.1 dL_law_257 ?_
  refine va_sld S.1 S.2.1 hX hbl hbA hw.2.2 (xvi e2 (by omega) (by omega)) dL_law_258 ?_
  refine xli (rest := [.int (k_cast u (xs (x3 + 1).toNatClampNeg) (xs (x3 + 2).toNatClampNeg))]) S hK hE hA hg hw hdj.mc yfX11_cast (c_m_cast l D b2 Y ts v (xs (x3 + 1).toNatClampNeg) (xs (x3 + 2).toNatClampNeg) g0 g1) 0 rfl rfl mlL_35 rfl rfl hl.1 ⟨rfl, rfl, Nat.le_of_ble_eq_true rfl, Nat.le_of_ble_eq_true rfl, Nat.le_of_ble_eq_true rfl, Nat.le_of_ble_eq_true rfl, Nat.le_of_ble_eq_true rfl⟩ dL_law_259 (fun H locs hg hw => ?_)
  refine lv_icmp_eq (tgt := 831) S.1 S.2.1 dL_law_262 (by decide) (fun hc => kk _ _ H locs ls hR2 hl hw hg) (fun hc => absurd he hc)
set_option maxHeartbeats 4000000 in
set_option maxRecDepth 100000 in
theorem lc_far (Rel : xU → xU → Prop) (hs : St_far Rel) {p : Program} {l : Launch} {e : Env} {s : State} {m : MethodId} {below : List Frame} {meth : Method} {c : Code} {D : va_G} {a b2 : Nat → Nat} {Y : Nat → ClassId} {ts : Nat → Nat} {b L : Nat} {xs : Nat → Int32} (hL : L ≤ 256) (S : CallFix p m c code 4 s #[Value.ref b] xT RL) (hr : meth.sig.returnType = ret) (hlk : meth.locks = false) (hX : va_X b L xs s s.heap) (hbl : b < s.heap.size) (hK : va_K D vwCl (xty Y) s) (hE : xE ts (fun q : Nat => s.heap.size ≤ q) s) (hdj : djC a b2) (x3 : Int32) (hx0 : 0 ≤ x3.toInt) (hx1 : x3.toInt + 4 ≤ L)
    (kk : ∀ (u v : xU) (H : Heap) (locs : List Loc) (ls : Array Slot), Rel u v → lv_has ls 4 [(0, .ref b), (1, .ref (a 0)), (2, .ref (b2 0)), (3, .int x3)] → xw D (wC a Y) (fun q : Nat => s.heap.size ≤ q) s.heap H locs u → xw D (wM b2 Y) (fun q : Nat => s.heap.size ≤ q) s.heap H locs v → W p l e room_1 s m #[Value.ref b] below meth c H locs 600000 7302250 (lw_Z below #[Value.ref b] s) (F0 m 831 ls []))
    (u v : xU) (H : Heap) (locs : List Loc) (ls : Array Slot) (hR : Rel u v) (hl : lv_has ls 4 [(0, .ref b), (1, .ref (a 0)), (2, .ref (b2 0)), (3, .int x3)]) (hw : xw D (wC a Y) (fun q : Nat => s.heap.size ≤ q) s.heap H locs u) (hg : xw D (wM b2 Y) (fun q : Nat => s.heap.size ≤ q) s.heap H locs v) : W p l e room_1 s m #[Value.ref b] below meth c H locs 600000 7302250 (lw_Z below #[Value.ref b] s) (F0 m 267 ls []) := by
  have hA : ∀ q : Nat, s.heap.size ≤ q → (fun q : Nat => s.heap.size ≤ q) q := fun _ h => h
  have hbA : ¬ (fun q : Nat => s.heap.size ≤ q) b := Nat.not_le.mpr hbl
  obtain ⟨⟨h0, h1⟩, ⟨g0, g1⟩, he, hR2⟩ := hs u v (xs (x3 + 1).toNatClampNeg) (xs (x3 + 2).toNatClampNeg) hR
  have e1 : (x3 + 1).toInt = x3.toInt + 1 := xadd rfl rfl (by have : (1 : Int32).toInt = 1 := rfl; omega) (by have : (1 : Int32).toInt = 1 := rfl; omega)
  have e2 : (x3 + 2).toInt = x3.toInt + 2 := xadd rfl rfl (by have : (2 : Int32).toInt = 2 := rfl; omega) (by have : (2 : Int32).toInt = 2 := rfl; omega)
  refine lv_aload_n S.1 S.2.1 dL_law_267 rfl (lv_at hl 1 rfl) ?_
  refine lv_aload_n S.1 S.2.1 dL_law_268 rfl (lv_at hl 0 rfl) ?_
  refine lv_iload_n S.1 S.2.1 dL_law_269 rfl (lv_at hl 3 rfl) ?_
  refine lv_iconst (v := 1) S.1 S.2.1 dL_law_270 (by decide) ?_
  refine lv_iadd S.1 S.2.1 dL_law_271 ?_
  refine va_sld S.1 S.2.1 hX hbl hbA hw.2.2 (xvi e1 (by omega) (by omega)) dL_law_272 ?_
  refine lv_aload_n S.1 S.2.1 dL_law_273 rfl (lv_at hl 0 rfl) ?_
  refine lv_iload_n S.1 S.2.1 dL_law_274 rfl (lv_at hl 3 rfl) ?_
  refine lv_iconst (v := 2) S.1 S.2.1 dL_law_275 (by decide) ?_
  refine lv_iadd S.1 S.2.1 dL_law_276 ?_
  refine va_sld S.1 S.2.1 hX hbl hbA hw.2.2 (xvi e2 (by omega) (by omega)) dL_law_277 ?_
  refine xli (rest := []) S hK hE hA hw hg hdj.cm yfX10_far (c_k_far l D a Y ts u (xs (x3 + 1).toNatClampNeg) (xs (x3 + 2).toNatClampNeg) h0 h1) 0 rfl rfl mlL_36 rfl rfl hl.1 ⟨rfl, rfl, Nat.le_of_ble_eq_true rfl, Nat.le_of_ble_eq_true rfl, Nat.le_of_ble_eq_true rfl, Nat.le_of_ble_eq_true rfl, Nat.le_of_ble_eq_true rfl⟩ dL_law_278 (fun H locs hw hg => ?_)
  refine lv_aload_n S.1 S.2.1 dL_law_281 rfl (lv_at hl 2 rfl) ?_
  refine lv_aload_n S.1 S.2.1 dL_law_282 rfl (lv_at hl 0 rfl) ?_
  refine lv_iload_n S.1 S.2.1 dL_law_283 rfl (lv_at hl 3 rfl) ?_
  refine lv_iconst (v := 1) S.1 S.2.1 dL_law_284 (by decide) ?_
  refine lv_iadd S.1 S.2.1 dL_law_285 ?_
  refine va_sld S.1 S.2.1 hX hbl hbA hw.2.2 (xvi e1 (by omega) (by omega)) dL_law_286 ?_
  refine lv_aload_n S.1 S.2.1 dL_law_287 rfl (lv_at hl 0 rfl) ?_
  refine lv_iload_n S.1 S.2.1 dL_law_288 rfl (lv_at hl 3 rfl) ?_
  refine lv_iconst (v := 2) S.1 S.2.1 dL_law_289 (by decide) ?_
  refine lv_iadd S.1 S.2.1 dL_law_290 ?_
  refine va_sld S.1 S.2.1 hX hbl hbA hw.2.2 (xvi e2 (by omega) (by omega)) dL_law_291 ?_
  refine xli (rest := [.int (k_far u (xs (x3 + 1).toNatClampNeg) (xs (x3 + 2).toNatClampNeg))]) S hK hE hA hg hw hdj.mc yfX11_far (c_m_far l D b2 Y ts v (xs (x3 + 1).toNatClampNeg) (xs (x3 + 2).toNatClampNeg) g0 g1) 0 rfl rfl mlL_39 rfl rfl hl.1 ⟨rfl, rfl, Nat.le_of_ble_eq_true rfl, Nat.le_of_ble_eq_true rfl, Nat.le_of_ble_eq_true rfl, Nat.le_of_ble_eq_true rfl, Nat.le_of_ble_eq_true rfl⟩ dL_law_292 (fun H locs hg hw => ?_)
  refine lv_icmp_eq (tgt := 831) S.1 S.2.1 dL_law_295 (by decide) (fun hc => kk _ _ H locs ls hR2 hl hw hg) (fun hc => absurd he hc)
set_option maxHeartbeats 4000000 in
set_option maxRecDepth 100000 in
theorem lc_sets (Rel : xU → xU → Prop) (hs : St_sets Rel) {p : Program} {l : Launch} {e : Env} {s : State} {m : MethodId} {below : List Frame} {meth : Method} {c : Code} {D : va_G} {a b2 : Nat → Nat} {Y : Nat → ClassId} {ts : Nat → Nat} {b L : Nat} {xs : Nat → Int32} (hL : L ≤ 256) (S : CallFix p m c code 4 s #[Value.ref b] xT RL) (hr : meth.sig.returnType = ret) (hlk : meth.locks = false) (hX : va_X b L xs s s.heap) (hbl : b < s.heap.size) (hK : va_K D vwCl (xty Y) s) (hE : xE ts (fun q : Nat => s.heap.size ≤ q) s) (hdj : djC a b2) (x3 : Int32) (hx0 : 0 ≤ x3.toInt) (hx1 : x3.toInt + 4 ≤ L)
    (kk : ∀ (u v : xU) (H : Heap) (locs : List Loc) (ls : Array Slot), Rel u v → lv_has ls 4 [(0, .ref b), (1, .ref (a 0)), (2, .ref (b2 0)), (3, .int x3)] → xw D (wC a Y) (fun q : Nat => s.heap.size ≤ q) s.heap H locs u → xw D (wM b2 Y) (fun q : Nat => s.heap.size ≤ q) s.heap H locs v → W p l e room_1 s m #[Value.ref b] below meth c H locs 600000 7302250 (lw_Z below #[Value.ref b] s) (F0 m 831 ls []))
    (u v : xU) (H : Heap) (locs : List Loc) (ls : Array Slot) (hR : Rel u v) (hl : lv_has ls 4 [(0, .ref b), (1, .ref (a 0)), (2, .ref (b2 0)), (3, .int x3)]) (hw : xw D (wC a Y) (fun q : Nat => s.heap.size ≤ q) s.heap H locs u) (hg : xw D (wM b2 Y) (fun q : Nat => s.heap.size ≤ q) s.heap H locs v) : W p l e room_1 s m #[Value.ref b] below meth c H locs 600000 7302250 (lw_Z below #[Value.ref b] s) (F0 m 300 ls []) := by
  have hA : ∀ q : Nat, s.heap.size ≤ q → (fun q : Nat => s.heap.size ≤ q) q := fun _ h => h
  have hbA : ¬ (fun q : Nat => s.heap.size ≤ q) b := Nat.not_le.mpr hbl
  obtain ⟨⟨h0, h1, h2⟩, ⟨g0, g1, g2⟩, he, hR2⟩ := hs u v (xs (x3 + 1).toNatClampNeg) (xs (x3 + 2).toNatClampNeg) hR
  have e1 : (x3 + 1).toInt = x3.toInt + 1 := xadd rfl rfl (by have : (1 : Int32).toInt = 1 := rfl; omega) (by have : (1 : Int32).toInt = 1 := rfl; omega)
  have e2 : (x3 + 2).toInt = x3.toInt + 2 := xadd rfl rfl (by have : (2 : Int32).toInt = 2 := rfl; omega) (by have : (2 : Int32).toInt = 2 := rfl; omega)
  refine lv_aload_n S.1 S.2.1 dL_law_300 rfl (lv_at hl 1 rfl) ?_
  refine lv_aload_n S.1 S.2.1 dL_law_301 rfl (lv_at hl 0 rfl) ?_
  refine lv_iload_n S.1 S.2.1 dL_law_302 rfl (lv_at hl 3 rfl) ?_
  refine lv_iconst (v := 1) S.1 S.2.1 dL_law_303 (by decide) ?_
  refine lv_iadd S.1 S.2.1 dL_law_304 ?_
  refine va_sld S.1 S.2.1 hX hbl hbA hw.2.2 (xvi e1 (by omega) (by omega)) dL_law_305 ?_
  refine lv_aload_n S.1 S.2.1 dL_law_306 rfl (lv_at hl 0 rfl) ?_
  refine lv_iload_n S.1 S.2.1 dL_law_307 rfl (lv_at hl 3 rfl) ?_
  refine lv_iconst (v := 2) S.1 S.2.1 dL_law_308 (by decide) ?_
  refine lv_iadd S.1 S.2.1 dL_law_309 ?_
  refine va_sld S.1 S.2.1 hX hbl hbA hw.2.2 (xvi e2 (by omega) (by omega)) dL_law_310 ?_
  refine xli (rest := []) S hK hE hA hw hg hdj.cm yfX10_sets (c_k_sets l D a Y ts u (xs (x3 + 1).toNatClampNeg) (xs (x3 + 2).toNatClampNeg) h0 h1 h2) 0 rfl rfl mlL_40 rfl rfl hl.1 ⟨rfl, rfl, Nat.le_of_ble_eq_true rfl, Nat.le_of_ble_eq_true rfl, Nat.le_of_ble_eq_true rfl, Nat.le_of_ble_eq_true rfl, Nat.le_of_ble_eq_true rfl⟩ dL_law_311 (fun H locs hw hg => ?_)
  refine lv_aload_n S.1 S.2.1 dL_law_314 rfl (lv_at hl 2 rfl) ?_
  refine lv_aload_n S.1 S.2.1 dL_law_315 rfl (lv_at hl 0 rfl) ?_
  refine lv_iload_n S.1 S.2.1 dL_law_316 rfl (lv_at hl 3 rfl) ?_
  refine lv_iconst (v := 1) S.1 S.2.1 dL_law_317 (by decide) ?_
  refine lv_iadd S.1 S.2.1 dL_law_318 ?_
  refine va_sld S.1 S.2.1 hX hbl hbA hw.2.2 (xvi e1 (by omega) (by omega)) dL_law_319 ?_
  refine lv_aload_n S.1 S.2.1 dL_law_320 rfl (lv_at hl 0 rfl) ?_
  refine lv_iload_n S.1 S.2.1 dL_law_321 rfl (lv_at hl 3 rfl) ?_
  refine lv_iconst (v := 2) S.1 S.2.1 dL_law_322 (by decide) ?_
  refine lv_iadd S.1 S.2.1 dL_law_323 ?_
  refine va_sld S.1 S.2.1 hX hbl hbA hw.2.2 (xvi e2 (by omega) (by omega)) dL_law_324 ?_
  refine xli (rest := [.int (k_sets u (xs (x3 + 1).toNatClampNeg) (xs (x3 + 2).toNatClampNeg)).1]) S hK hE hA hg hw hdj.mc yfX11_sets (c_m_sets l D b2 Y ts v (xs (x3 + 1).toNatClampNeg) (xs (x3 + 2).toNatClampNeg) g0 g1 g2) 0 rfl rfl mlL_43 rfl rfl hl.1 ⟨rfl, rfl, Nat.le_of_ble_eq_true rfl, Nat.le_of_ble_eq_true rfl, Nat.le_of_ble_eq_true rfl, Nat.le_of_ble_eq_true rfl, Nat.le_of_ble_eq_true rfl⟩ dL_law_325 (fun H locs hg hw => ?_)
  refine lv_icmp_eq (tgt := 831) S.1 S.2.1 dL_law_328 (by decide) (fun hc => kk _ _ H locs ls hR2 hl hw hg) (fun hc => absurd he hc)
set_option maxHeartbeats 4000000 in
set_option maxRecDepth 100000 in
theorem lc_nights (Rel : xU → xU → Prop) (hs : St_nights Rel) {p : Program} {l : Launch} {e : Env} {s : State} {m : MethodId} {below : List Frame} {meth : Method} {c : Code} {D : va_G} {a b2 : Nat → Nat} {Y : Nat → ClassId} {ts : Nat → Nat} {b L : Nat} {xs : Nat → Int32} (hL : L ≤ 256) (S : CallFix p m c code 4 s #[Value.ref b] xT RL) (hr : meth.sig.returnType = ret) (hlk : meth.locks = false) (hX : va_X b L xs s s.heap) (hbl : b < s.heap.size) (hK : va_K D vwCl (xty Y) s) (hE : xE ts (fun q : Nat => s.heap.size ≤ q) s) (hdj : djC a b2) (x3 : Int32) (hx0 : 0 ≤ x3.toInt) (hx1 : x3.toInt + 4 ≤ L)
    (kk : ∀ (u v : xU) (H : Heap) (locs : List Loc) (ls : Array Slot), Rel u v → lv_has ls 4 [(0, .ref b), (1, .ref (a 0)), (2, .ref (b2 0)), (3, .int x3)] → xw D (wC a Y) (fun q : Nat => s.heap.size ≤ q) s.heap H locs u → xw D (wM b2 Y) (fun q : Nat => s.heap.size ≤ q) s.heap H locs v → W p l e room_1 s m #[Value.ref b] below meth c H locs 600000 7302250 (lw_Z below #[Value.ref b] s) (F0 m 831 ls []))
    (u v : xU) (H : Heap) (locs : List Loc) (ls : Array Slot) (hR : Rel u v) (hl : lv_has ls 4 [(0, .ref b), (1, .ref (a 0)), (2, .ref (b2 0)), (3, .int x3)]) (hw : xw D (wC a Y) (fun q : Nat => s.heap.size ≤ q) s.heap H locs u) (hg : xw D (wM b2 Y) (fun q : Nat => s.heap.size ≤ q) s.heap H locs v) : W p l e room_1 s m #[Value.ref b] below meth c H locs 600000 7302250 (lw_Z below #[Value.ref b] s) (F0 m 333 ls []) := by
  have hA : ∀ q : Nat, s.heap.size ≤ q → (fun q : Nat => s.heap.size ≤ q) q := fun _ h => h
  have hbA : ¬ (fun q : Nat => s.heap.size ≤ q) b := Nat.not_le.mpr hbl
  obtain ⟨⟨h0, h1, h2, h3⟩, ⟨g0, g1, g2, g3⟩, he, hR2⟩ := hs u v (xs (x3 + 1).toNatClampNeg) hR
  have e1 : (x3 + 1).toInt = x3.toInt + 1 := xadd rfl rfl (by have : (1 : Int32).toInt = 1 := rfl; omega) (by have : (1 : Int32).toInt = 1 := rfl; omega)
  refine lv_aload_n S.1 S.2.1 dL_law_333 rfl (lv_at hl 1 rfl) ?_
  refine lv_aload_n S.1 S.2.1 dL_law_334 rfl (lv_at hl 0 rfl) ?_
  refine lv_iload_n S.1 S.2.1 dL_law_335 rfl (lv_at hl 3 rfl) ?_
  refine lv_iconst (v := 1) S.1 S.2.1 dL_law_336 (by decide) ?_
  refine lv_iadd S.1 S.2.1 dL_law_337 ?_
  refine va_sld S.1 S.2.1 hX hbl hbA hw.2.2 (xvi e1 (by omega) (by omega)) dL_law_338 ?_
  refine xli (rest := []) S hK hE hA hw hg hdj.cm yfX10_nights (c_k_nights l D a Y ts u (xs (x3 + 1).toNatClampNeg) h0 h1 h2 h3) 0 rfl rfl mlL_44 rfl rfl hl.1 ⟨rfl, rfl, Nat.le_of_ble_eq_true rfl, Nat.le_of_ble_eq_true rfl, Nat.le_of_ble_eq_true rfl, Nat.le_of_ble_eq_true rfl, Nat.le_of_ble_eq_true rfl⟩ dL_law_339 (fun H locs hw hg => ?_)
  refine lv_aload_n S.1 S.2.1 dL_law_342 rfl (lv_at hl 2 rfl) ?_
  refine lv_aload_n S.1 S.2.1 dL_law_343 rfl (lv_at hl 0 rfl) ?_
  refine lv_iload_n S.1 S.2.1 dL_law_344 rfl (lv_at hl 3 rfl) ?_
  refine lv_iconst (v := 1) S.1 S.2.1 dL_law_345 (by decide) ?_
  refine lv_iadd S.1 S.2.1 dL_law_346 ?_
  refine va_sld S.1 S.2.1 hX hbl hbA hw.2.2 (xvi e1 (by omega) (by omega)) dL_law_347 ?_
  refine xli (rest := [.int (k_nights u (xs (x3 + 1).toNatClampNeg)).1]) S hK hE hA hg hw hdj.mc yfX11_nights (c_m_nights l D b2 Y ts v (xs (x3 + 1).toNatClampNeg) g0 g1 g2 g3) 0 rfl rfl mlL_47 rfl rfl hl.1 ⟨rfl, rfl, Nat.le_of_ble_eq_true rfl, Nat.le_of_ble_eq_true rfl, Nat.le_of_ble_eq_true rfl, Nat.le_of_ble_eq_true rfl, Nat.le_of_ble_eq_true rfl⟩ dL_law_348 (fun H locs hg hw => ?_)
  refine lv_icmp_eq (tgt := 831) S.1 S.2.1 dL_law_351 (by decide) (fun hc => kk _ _ H locs ls hR2 hl hw hg) (fun hc => absurd he hc)
set_option maxHeartbeats 4000000 in
set_option maxRecDepth 100000 in
theorem lc_mends (Rel : xU → xU → Prop) (hs : St_mends Rel) {p : Program} {l : Launch} {e : Env} {s : State} {m : MethodId} {below : List Frame} {meth : Method} {c : Code} {D : va_G} {a b2 : Nat → Nat} {Y : Nat → ClassId} {ts : Nat → Nat} {b L : Nat} {xs : Nat → Int32} (hL : L ≤ 256) (S : CallFix p m c code 4 s #[Value.ref b] xT RL) (hr : meth.sig.returnType = ret) (hlk : meth.locks = false) (hX : va_X b L xs s s.heap) (hbl : b < s.heap.size) (hK : va_K D vwCl (xty Y) s) (hE : xE ts (fun q : Nat => s.heap.size ≤ q) s) (hdj : djC a b2) (x3 : Int32) (hx0 : 0 ≤ x3.toInt) (hx1 : x3.toInt + 4 ≤ L)
    (kk : ∀ (u v : xU) (H : Heap) (locs : List Loc) (ls : Array Slot), Rel u v → lv_has ls 4 [(0, .ref b), (1, .ref (a 0)), (2, .ref (b2 0)), (3, .int x3)] → xw D (wC a Y) (fun q : Nat => s.heap.size ≤ q) s.heap H locs u → xw D (wM b2 Y) (fun q : Nat => s.heap.size ≤ q) s.heap H locs v → W p l e room_1 s m #[Value.ref b] below meth c H locs 600000 7302250 (lw_Z below #[Value.ref b] s) (F0 m 831 ls []))
    (u v : xU) (H : Heap) (locs : List Loc) (ls : Array Slot) (hR : Rel u v) (hl : lv_has ls 4 [(0, .ref b), (1, .ref (a 0)), (2, .ref (b2 0)), (3, .int x3)]) (hw : xw D (wC a Y) (fun q : Nat => s.heap.size ≤ q) s.heap H locs u) (hg : xw D (wM b2 Y) (fun q : Nat => s.heap.size ≤ q) s.heap H locs v) : W p l e room_1 s m #[Value.ref b] below meth c H locs 600000 7302250 (lw_Z below #[Value.ref b] s) (F0 m 356 ls []) := by
  have hA : ∀ q : Nat, s.heap.size ≤ q → (fun q : Nat => s.heap.size ≤ q) q := fun _ h => h
  have hbA : ¬ (fun q : Nat => s.heap.size ≤ q) b := Nat.not_le.mpr hbl
  obtain ⟨⟨h0, h1, h2⟩, ⟨g0, g1, g2⟩, he, hR2⟩ := hs u v (xs (x3 + 1).toNatClampNeg) hR
  have e1 : (x3 + 1).toInt = x3.toInt + 1 := xadd rfl rfl (by have : (1 : Int32).toInt = 1 := rfl; omega) (by have : (1 : Int32).toInt = 1 := rfl; omega)
  refine lv_aload_n S.1 S.2.1 dL_law_356 rfl (lv_at hl 1 rfl) ?_
  refine lv_aload_n S.1 S.2.1 dL_law_357 rfl (lv_at hl 0 rfl) ?_
  refine lv_iload_n S.1 S.2.1 dL_law_358 rfl (lv_at hl 3 rfl) ?_
  refine lv_iconst (v := 1) S.1 S.2.1 dL_law_359 (by decide) ?_
  refine lv_iadd S.1 S.2.1 dL_law_360 ?_
  refine va_sld S.1 S.2.1 hX hbl hbA hw.2.2 (xvi e1 (by omega) (by omega)) dL_law_361 ?_
  refine xli (rest := []) S hK hE hA hw hg hdj.cm yfX10_mends (c_k_mends l D a Y ts u (xs (x3 + 1).toNatClampNeg) h0 h1 h2) 0 rfl rfl mlL_48 rfl rfl hl.1 ⟨rfl, rfl, Nat.le_of_ble_eq_true rfl, Nat.le_of_ble_eq_true rfl, Nat.le_of_ble_eq_true rfl, Nat.le_of_ble_eq_true rfl, Nat.le_of_ble_eq_true rfl⟩ dL_law_362 (fun H locs hw hg => ?_)
  refine lv_aload_n S.1 S.2.1 dL_law_365 rfl (lv_at hl 2 rfl) ?_
  refine lv_aload_n S.1 S.2.1 dL_law_366 rfl (lv_at hl 0 rfl) ?_
  refine lv_iload_n S.1 S.2.1 dL_law_367 rfl (lv_at hl 3 rfl) ?_
  refine lv_iconst (v := 1) S.1 S.2.1 dL_law_368 (by decide) ?_
  refine lv_iadd S.1 S.2.1 dL_law_369 ?_
  refine va_sld S.1 S.2.1 hX hbl hbA hw.2.2 (xvi e1 (by omega) (by omega)) dL_law_370 ?_
  refine xli (rest := [.int (k_mends u (xs (x3 + 1).toNatClampNeg)).1]) S hK hE hA hg hw hdj.mc yfX11_mends (c_m_mends l D b2 Y ts v (xs (x3 + 1).toNatClampNeg) g0 g1 g2) 0 rfl rfl mlL_51 rfl rfl hl.1 ⟨rfl, rfl, Nat.le_of_ble_eq_true rfl, Nat.le_of_ble_eq_true rfl, Nat.le_of_ble_eq_true rfl, Nat.le_of_ble_eq_true rfl, Nat.le_of_ble_eq_true rfl⟩ dL_law_371 (fun H locs hg hw => ?_)
  refine lv_icmp_eq (tgt := 831) S.1 S.2.1 dL_law_374 (by decide) (fun hc => kk _ _ H locs ls hR2 hl hw hg) (fun hc => absurd he hc)
set_option maxHeartbeats 4000000 in
set_option maxRecDepth 100000 in
theorem lc_joins (Rel : xU → xU → Prop) (hs : St_joins Rel) {p : Program} {l : Launch} {e : Env} {s : State} {m : MethodId} {below : List Frame} {meth : Method} {c : Code} {D : va_G} {a b2 : Nat → Nat} {Y : Nat → ClassId} {ts : Nat → Nat} {b L : Nat} {xs : Nat → Int32} (hL : L ≤ 256) (S : CallFix p m c code 4 s #[Value.ref b] xT RL) (hr : meth.sig.returnType = ret) (hlk : meth.locks = false) (hX : va_X b L xs s s.heap) (hbl : b < s.heap.size) (hK : va_K D vwCl (xty Y) s) (hE : xE ts (fun q : Nat => s.heap.size ≤ q) s) (hdj : djC a b2) (x3 : Int32) (hx0 : 0 ≤ x3.toInt) (hx1 : x3.toInt + 4 ≤ L)
    (kk : ∀ (u v : xU) (H : Heap) (locs : List Loc) (ls : Array Slot), Rel u v → lv_has ls 4 [(0, .ref b), (1, .ref (a 0)), (2, .ref (b2 0)), (3, .int x3)] → xw D (wC a Y) (fun q : Nat => s.heap.size ≤ q) s.heap H locs u → xw D (wM b2 Y) (fun q : Nat => s.heap.size ≤ q) s.heap H locs v → W p l e room_1 s m #[Value.ref b] below meth c H locs 600000 7302250 (lw_Z below #[Value.ref b] s) (F0 m 831 ls []))
    (u v : xU) (H : Heap) (locs : List Loc) (ls : Array Slot) (hR : Rel u v) (hl : lv_has ls 4 [(0, .ref b), (1, .ref (a 0)), (2, .ref (b2 0)), (3, .int x3)]) (hw : xw D (wC a Y) (fun q : Nat => s.heap.size ≤ q) s.heap H locs u) (hg : xw D (wM b2 Y) (fun q : Nat => s.heap.size ≤ q) s.heap H locs v) : W p l e room_1 s m #[Value.ref b] below meth c H locs 600000 7302250 (lw_Z below #[Value.ref b] s) (F0 m 379 ls []) := by
  have hA : ∀ q : Nat, s.heap.size ≤ q → (fun q : Nat => s.heap.size ≤ q) q := fun _ h => h
  have hbA : ¬ (fun q : Nat => s.heap.size ≤ q) b := Nat.not_le.mpr hbl
  obtain ⟨⟨h0, h1, h2, h3⟩, ⟨g0, g1, g2, g3⟩, he, hR2⟩ := hs u v (xs (x3 + 1).toNatClampNeg) (xs (x3 + 2).toNatClampNeg) (xs (x3 + 3).toNatClampNeg) hR
  have e1 : (x3 + 1).toInt = x3.toInt + 1 := xadd rfl rfl (by have : (1 : Int32).toInt = 1 := rfl; omega) (by have : (1 : Int32).toInt = 1 := rfl; omega)
  have e2 : (x3 + 2).toInt = x3.toInt + 2 := xadd rfl rfl (by have : (2 : Int32).toInt = 2 := rfl; omega) (by have : (2 : Int32).toInt = 2 := rfl; omega)
  have e3 : (x3 + 3).toInt = x3.toInt + 3 := xadd rfl rfl (by have : (3 : Int32).toInt = 3 := rfl; omega) (by have : (3 : Int32).toInt = 3 := rfl; omega)
  refine lv_aload_n S.1 S.2.1 dL_law_379 rfl (lv_at hl 1 rfl) ?_
  refine lv_aload_n S.1 S.2.1 dL_law_380 rfl (lv_at hl 0 rfl) ?_
  refine lv_iload_n S.1 S.2.1 dL_law_381 rfl (lv_at hl 3 rfl) ?_
  refine lv_iconst (v := 1) S.1 S.2.1 dL_law_382 (by decide) ?_
  refine lv_iadd S.1 S.2.1 dL_law_383 ?_
  refine va_sld S.1 S.2.1 hX hbl hbA hw.2.2 (xvi e1 (by omega) (by omega)) dL_law_384 ?_
  refine lv_aload_n S.1 S.2.1 dL_law_385 rfl (lv_at hl 0 rfl) ?_
  refine lv_iload_n S.1 S.2.1 dL_law_386 rfl (lv_at hl 3 rfl) ?_
  refine lv_iconst (v := 2) S.1 S.2.1 dL_law_387 (by decide) ?_
  refine lv_iadd S.1 S.2.1 dL_law_388 ?_
  refine va_sld S.1 S.2.1 hX hbl hbA hw.2.2 (xvi e2 (by omega) (by omega)) dL_law_389 ?_
  refine lv_aload_n S.1 S.2.1 dL_law_390 rfl (lv_at hl 0 rfl) ?_
  refine lv_iload_n S.1 S.2.1 dL_law_391 rfl (lv_at hl 3 rfl) ?_
  refine lv_iconst (v := 3) S.1 S.2.1 dL_law_392 (by decide) ?_
  refine lv_iadd S.1 S.2.1 dL_law_393 ?_
  refine va_sld S.1 S.2.1 hX hbl hbA hw.2.2 (xvi e3 (by omega) (by omega)) dL_law_394 ?_
  refine xli (rest := []) S hK hE hA hw hg hdj.cm yfX10_joins (c_k_joins l D a Y ts u (xs (x3 + 1).toNatClampNeg) (xs (x3 + 2).toNatClampNeg) (xs (x3 + 3).toNatClampNeg) h0 h1 h2 h3) 0 rfl rfl mlL_52 rfl rfl hl.1 ⟨rfl, rfl, Nat.le_of_ble_eq_true rfl, Nat.le_of_ble_eq_true rfl, Nat.le_of_ble_eq_true rfl, Nat.le_of_ble_eq_true rfl, Nat.le_of_ble_eq_true rfl⟩ dL_law_395 (fun H locs hw hg => ?_)
  refine lv_aload_n S.1 S.2.1 dL_law_398 rfl (lv_at hl 2 rfl) ?_
  refine lv_aload_n S.1 S.2.1 dL_law_399 rfl (lv_at hl 0 rfl) ?_
  refine lv_iload_n S.1 S.2.1 dL_law_400 rfl (lv_at hl 3 rfl) ?_
  refine lv_iconst (v := 1) S.1 S.2.1 dL_law_401 (by decide) ?_
  refine lv_iadd S.1 S.2.1 dL_law_402 ?_
  refine va_sld S.1 S.2.1 hX hbl hbA hw.2.2 (xvi e1 (by omega) (by omega)) dL_law_403 ?_
  refine lv_aload_n S.1 S.2.1 dL_law_404 rfl (lv_at hl 0 rfl) ?_
  refine lv_iload_n S.1 S.2.1 dL_law_405 rfl (lv_at hl 3 rfl) ?_
  refine lv_iconst (v := 2) S.1 S.2.1 dL_law_406 (by decide) ?_
  refine lv_iadd S.1 S.2.1 dL_law_407 ?_
  refine va_sld S.1 S.2.1 hX hbl hbA hw.2.2 (xvi e2 (by omega) (by omega)) dL_law_408 ?_
  refine lv_aload_n S.1 S.2.1 dL_law_409 rfl (lv_at hl 0 rfl) ?_
  refine lv_iload_n S.1 S.2.1 dL_law_410 rfl (lv_at hl 3 rfl) ?_
  refine lv_iconst (v := 3) S.1 S.2.1 dL_law_411 (by decide) ?_
  refine lv_iadd S.1 S.2.1 dL_law_412 ?_
  refine va_sld S.1 S.2.1 hX hbl hbA hw.2.2 (xvi e3 (by omega) (by omega)) dL_law_413 ?_
  refine xli (rest := [.int (k_joins u (xs (x3 + 1).toNatClampNeg) (xs (x3 + 2).toNatClampNeg) (xs (x3 + 3).toNatClampNeg)).1]) S hK hE hA hg hw hdj.mc yfX11_joins (c_m_joins l D b2 Y ts v (xs (x3 + 1).toNatClampNeg) (xs (x3 + 2).toNatClampNeg) (xs (x3 + 3).toNatClampNeg) g0 g1 g2 g3) 0 rfl rfl mlL_56 rfl rfl hl.1 ⟨rfl, rfl, Nat.le_of_ble_eq_true rfl, Nat.le_of_ble_eq_true rfl, Nat.le_of_ble_eq_true rfl, Nat.le_of_ble_eq_true rfl, Nat.le_of_ble_eq_true rfl⟩ dL_law_414 (fun H locs hg hw => ?_)
  refine lv_icmp_eq (tgt := 831) S.1 S.2.1 dL_law_417 (by decide) (fun hc => kk _ _ H locs ls hR2 hl hw hg) (fun hc => absurd he hc)
set_option maxHeartbeats 4000000 in
set_option maxRecDepth 100000 in
theorem lc_undo (Rel : xU → xU → Prop) (hs : St_undo Rel) {p : Program} {l : Launch} {e : Env} {s : State} {m : MethodId} {below : List Frame} {meth : Method} {c : Code} {D : va_G} {a b2 : Nat → Nat} {Y : Nat → ClassId} {ts : Nat → Nat} {b L : Nat} {xs : Nat → Int32} (hL : L ≤ 256) (S : CallFix p m c code 4 s #[Value.ref b] xT RL) (hr : meth.sig.returnType = ret) (hlk : meth.locks = false) (hX : va_X b L xs s s.heap) (hbl : b < s.heap.size) (hK : va_K D vwCl (xty Y) s) (hE : xE ts (fun q : Nat => s.heap.size ≤ q) s) (hdj : djC a b2) (x3 : Int32) (hx0 : 0 ≤ x3.toInt) (hx1 : x3.toInt + 4 ≤ L)
    (kk : ∀ (u v : xU) (H : Heap) (locs : List Loc) (ls : Array Slot), Rel u v → lv_has ls 4 [(0, .ref b), (1, .ref (a 0)), (2, .ref (b2 0)), (3, .int x3)] → xw D (wC a Y) (fun q : Nat => s.heap.size ≤ q) s.heap H locs u → xw D (wM b2 Y) (fun q : Nat => s.heap.size ≤ q) s.heap H locs v → W p l e room_1 s m #[Value.ref b] below meth c H locs 600000 7302250 (lw_Z below #[Value.ref b] s) (F0 m 831 ls []))
    (u v : xU) (H : Heap) (locs : List Loc) (ls : Array Slot) (hR : Rel u v) (hl : lv_has ls 4 [(0, .ref b), (1, .ref (a 0)), (2, .ref (b2 0)), (3, .int x3)]) (hw : xw D (wC a Y) (fun q : Nat => s.heap.size ≤ q) s.heap H locs u) (hg : xw D (wM b2 Y) (fun q : Nat => s.heap.size ≤ q) s.heap H locs v) : W p l e room_1 s m #[Value.ref b] below meth c H locs 600000 7302250 (lw_Z below #[Value.ref b] s) (F0 m 422 ls []) := by
  have hA : ∀ q : Nat, s.heap.size ≤ q → (fun q : Nat => s.heap.size ≤ q) q := fun _ h => h
  have hbA : ¬ (fun q : Nat => s.heap.size ≤ q) b := Nat.not_le.mpr hbl
  obtain ⟨h0, g0, he, hR2⟩ := hs u v hR
  refine lv_aload_n S.1 S.2.1 dL_law_422 rfl (lv_at hl 1 rfl) ?_
  refine xli (rest := []) S hK hE hA hw hg hdj.cm yfX10_undo (c_k_undo l D a Y ts u h0) 0 rfl rfl mlL_57 rfl rfl hl.1 ⟨rfl, rfl, Nat.le_of_ble_eq_true rfl, Nat.le_of_ble_eq_true rfl, Nat.le_of_ble_eq_true rfl, Nat.le_of_ble_eq_true rfl, Nat.le_of_ble_eq_true rfl⟩ dL_law_423 (fun H locs hw hg => ?_)
  refine lv_aload_n S.1 S.2.1 dL_law_426 rfl (lv_at hl 2 rfl) ?_
  refine xli (rest := [.int (k_undo u).1]) S hK hE hA hg hw hdj.mc yfX11_undo (c_m_undo l D b2 Y ts v g0) 0 rfl rfl mlL_60 rfl rfl hl.1 ⟨rfl, rfl, Nat.le_of_ble_eq_true rfl, Nat.le_of_ble_eq_true rfl, Nat.le_of_ble_eq_true rfl, Nat.le_of_ble_eq_true rfl, Nat.le_of_ble_eq_true rfl⟩ dL_law_427 (fun H locs hg hw => ?_)
  refine lv_icmp_eq (tgt := 831) S.1 S.2.1 dL_law_430 (by decide) (fun hc => kk _ _ H locs ls hR2 hl hw hg) (fun hc => absurd he hc)
set_option maxHeartbeats 4000000 in
set_option maxRecDepth 100000 in
theorem lc_now (Rel : xU → xU → Prop) (hs : St_now Rel) {p : Program} {l : Launch} {e : Env} {s : State} {m : MethodId} {below : List Frame} {meth : Method} {c : Code} {D : va_G} {a b2 : Nat → Nat} {Y : Nat → ClassId} {ts : Nat → Nat} {b L : Nat} {xs : Nat → Int32} (hL : L ≤ 256) (S : CallFix p m c code 4 s #[Value.ref b] xT RL) (hr : meth.sig.returnType = ret) (hlk : meth.locks = false) (hX : va_X b L xs s s.heap) (hbl : b < s.heap.size) (hK : va_K D vwCl (xty Y) s) (hE : xE ts (fun q : Nat => s.heap.size ≤ q) s) (hdj : djC a b2) (x3 : Int32) (hx0 : 0 ≤ x3.toInt) (hx1 : x3.toInt + 4 ≤ L)
    (kk : ∀ (u v : xU) (H : Heap) (locs : List Loc) (ls : Array Slot), Rel u v → lv_has ls 4 [(0, .ref b), (1, .ref (a 0)), (2, .ref (b2 0)), (3, .int x3)] → xw D (wC a Y) (fun q : Nat => s.heap.size ≤ q) s.heap H locs u → xw D (wM b2 Y) (fun q : Nat => s.heap.size ≤ q) s.heap H locs v → W p l e room_1 s m #[Value.ref b] below meth c H locs 600000 7302250 (lw_Z below #[Value.ref b] s) (F0 m 831 ls []))
    (u v : xU) (H : Heap) (locs : List Loc) (ls : Array Slot) (hR : Rel u v) (hl : lv_has ls 4 [(0, .ref b), (1, .ref (a 0)), (2, .ref (b2 0)), (3, .int x3)]) (hw : xw D (wC a Y) (fun q : Nat => s.heap.size ≤ q) s.heap H locs u) (hg : xw D (wM b2 Y) (fun q : Nat => s.heap.size ≤ q) s.heap H locs v) : W p l e room_1 s m #[Value.ref b] below meth c H locs 600000 7302250 (lw_Z below #[Value.ref b] s) (F0 m 435 ls []) := by
  have hA : ∀ q : Nat, s.heap.size ≤ q → (fun q : Nat => s.heap.size ≤ q) q := fun _ h => h
  have hbA : ¬ (fun q : Nat => s.heap.size ≤ q) b := Nat.not_le.mpr hbl
  obtain ⟨⟨h0, h1⟩, ⟨g0, g1⟩, he, hR2⟩ := hs u v (xs (x3 + 1).toNatClampNeg) hR
  have e1 : (x3 + 1).toInt = x3.toInt + 1 := xadd rfl rfl (by have : (1 : Int32).toInt = 1 := rfl; omega) (by have : (1 : Int32).toInt = 1 := rfl; omega)
  refine lv_aload_n S.1 S.2.1 dL_law_435 rfl (lv_at hl 1 rfl) ?_
  refine lv_aload_n S.1 S.2.1 dL_law_436 rfl (lv_at hl 0 rfl) ?_
  refine lv_iload_n S.1 S.2.1 dL_law_437 rfl (lv_at hl 3 rfl) ?_
  refine lv_iconst (v := 1) S.1 S.2.1 dL_law_438 (by decide) ?_
  refine lv_iadd S.1 S.2.1 dL_law_439 ?_
  refine va_sld S.1 S.2.1 hX hbl hbA hw.2.2 (xvi e1 (by omega) (by omega)) dL_law_440 ?_
  refine xli (rest := []) S hK hE hA hw hg hdj.cm yfX10_now (c_k_now l D a Y ts u (xs (x3 + 1).toNatClampNeg) h0 h1) 0 rfl rfl mlL_61 rfl rfl hl.1 ⟨rfl, rfl, Nat.le_of_ble_eq_true rfl, Nat.le_of_ble_eq_true rfl, Nat.le_of_ble_eq_true rfl, Nat.le_of_ble_eq_true rfl, Nat.le_of_ble_eq_true rfl⟩ dL_law_441 (fun H locs hw hg => ?_)
  refine lv_aload_n S.1 S.2.1 dL_law_444 rfl (lv_at hl 2 rfl) ?_
  refine lv_aload_n S.1 S.2.1 dL_law_445 rfl (lv_at hl 0 rfl) ?_
  refine lv_iload_n S.1 S.2.1 dL_law_446 rfl (lv_at hl 3 rfl) ?_
  refine lv_iconst (v := 1) S.1 S.2.1 dL_law_447 (by decide) ?_
  refine lv_iadd S.1 S.2.1 dL_law_448 ?_
  refine va_sld S.1 S.2.1 hX hbl hbA hw.2.2 (xvi e1 (by omega) (by omega)) dL_law_449 ?_
  refine xli (rest := [.int (k_now u (xs (x3 + 1).toNatClampNeg))]) S hK hE hA hg hw hdj.mc yfX11_now (c_m_now l D b2 Y ts v (xs (x3 + 1).toNatClampNeg) g0 g1) 0 rfl rfl mlL_64 rfl rfl hl.1 ⟨rfl, rfl, Nat.le_of_ble_eq_true rfl, Nat.le_of_ble_eq_true rfl, Nat.le_of_ble_eq_true rfl, Nat.le_of_ble_eq_true rfl, Nat.le_of_ble_eq_true rfl⟩ dL_law_450 (fun H locs hg hw => ?_)
  refine lv_icmp_eq (tgt := 831) S.1 S.2.1 dL_law_453 (by decide) (fun hc => kk _ _ H locs ls hR2 hl hw hg) (fun hc => absurd he hc)
set_option maxHeartbeats 4000000 in
set_option maxRecDepth 100000 in
theorem lc_plan (Rel : xU → xU → Prop) (hs : St_plan Rel) {p : Program} {l : Launch} {e : Env} {s : State} {m : MethodId} {below : List Frame} {meth : Method} {c : Code} {D : va_G} {a b2 : Nat → Nat} {Y : Nat → ClassId} {ts : Nat → Nat} {b L : Nat} {xs : Nat → Int32} (hL : L ≤ 256) (S : CallFix p m c code 4 s #[Value.ref b] xT RL) (hr : meth.sig.returnType = ret) (hlk : meth.locks = false) (hX : va_X b L xs s s.heap) (hbl : b < s.heap.size) (hK : va_K D vwCl (xty Y) s) (hE : xE ts (fun q : Nat => s.heap.size ≤ q) s) (hdj : djC a b2) (x3 : Int32) (hx0 : 0 ≤ x3.toInt) (hx1 : x3.toInt + 4 ≤ L)
    (kk : ∀ (u v : xU) (H : Heap) (locs : List Loc) (ls : Array Slot), Rel u v → lv_has ls 4 [(0, .ref b), (1, .ref (a 0)), (2, .ref (b2 0)), (3, .int x3)] → xw D (wC a Y) (fun q : Nat => s.heap.size ≤ q) s.heap H locs u → xw D (wM b2 Y) (fun q : Nat => s.heap.size ≤ q) s.heap H locs v → W p l e room_1 s m #[Value.ref b] below meth c H locs 600000 7302250 (lw_Z below #[Value.ref b] s) (F0 m 831 ls []))
    (u v : xU) (H : Heap) (locs : List Loc) (ls : Array Slot) (hR : Rel u v) (hl : lv_has ls 4 [(0, .ref b), (1, .ref (a 0)), (2, .ref (b2 0)), (3, .int x3)]) (hw : xw D (wC a Y) (fun q : Nat => s.heap.size ≤ q) s.heap H locs u) (hg : xw D (wM b2 Y) (fun q : Nat => s.heap.size ≤ q) s.heap H locs v) : W p l e room_1 s m #[Value.ref b] below meth c H locs 600000 7302250 (lw_Z below #[Value.ref b] s) (F0 m 458 ls []) := by
  have hA : ∀ q : Nat, s.heap.size ≤ q → (fun q : Nat => s.heap.size ≤ q) q := fun _ h => h
  have hbA : ¬ (fun q : Nat => s.heap.size ≤ q) b := Nat.not_le.mpr hbl
  obtain ⟨⟨h0, h1⟩, ⟨g0, g1, g2⟩, he, hR2⟩ := hs u v (xs (x3 + 1).toNatClampNeg) (xs (x3 + 2).toNatClampNeg) (xs (x3 + 3).toNatClampNeg) hR
  have e1 : (x3 + 1).toInt = x3.toInt + 1 := xadd rfl rfl (by have : (1 : Int32).toInt = 1 := rfl; omega) (by have : (1 : Int32).toInt = 1 := rfl; omega)
  have e2 : (x3 + 2).toInt = x3.toInt + 2 := xadd rfl rfl (by have : (2 : Int32).toInt = 2 := rfl; omega) (by have : (2 : Int32).toInt = 2 := rfl; omega)
  have e3 : (x3 + 3).toInt = x3.toInt + 3 := xadd rfl rfl (by have : (3 : Int32).toInt = 3 := rfl; omega) (by have : (3 : Int32).toInt = 3 := rfl; omega)
  refine lv_aload_n S.1 S.2.1 dL_law_458 rfl (lv_at hl 1 rfl) ?_
  refine lv_aload_n S.1 S.2.1 dL_law_459 rfl (lv_at hl 0 rfl) ?_
  refine lv_iload_n S.1 S.2.1 dL_law_460 rfl (lv_at hl 3 rfl) ?_
  refine lv_iconst (v := 1) S.1 S.2.1 dL_law_461 (by decide) ?_
  refine lv_iadd S.1 S.2.1 dL_law_462 ?_
  refine va_sld S.1 S.2.1 hX hbl hbA hw.2.2 (xvi e1 (by omega) (by omega)) dL_law_463 ?_
  refine lv_aload_n S.1 S.2.1 dL_law_464 rfl (lv_at hl 0 rfl) ?_
  refine lv_iload_n S.1 S.2.1 dL_law_465 rfl (lv_at hl 3 rfl) ?_
  refine lv_iconst (v := 2) S.1 S.2.1 dL_law_466 (by decide) ?_
  refine lv_iadd S.1 S.2.1 dL_law_467 ?_
  refine va_sld S.1 S.2.1 hX hbl hbA hw.2.2 (xvi e2 (by omega) (by omega)) dL_law_468 ?_
  refine lv_aload_n S.1 S.2.1 dL_law_469 rfl (lv_at hl 0 rfl) ?_
  refine lv_iload_n S.1 S.2.1 dL_law_470 rfl (lv_at hl 3 rfl) ?_
  refine lv_iconst (v := 3) S.1 S.2.1 dL_law_471 (by decide) ?_
  refine lv_iadd S.1 S.2.1 dL_law_472 ?_
  refine va_sld S.1 S.2.1 hX hbl hbA hw.2.2 (xvi e3 (by omega) (by omega)) dL_law_473 ?_
  refine xli (rest := []) S hK hE hA hw hg hdj.cm yfX10_plan (c_k_plan l D a Y ts u (xs (x3 + 1).toNatClampNeg) (xs (x3 + 2).toNatClampNeg) (xs (x3 + 3).toNatClampNeg) h0 h1) 0 rfl rfl mlL_65 rfl rfl hl.1 ⟨rfl, rfl, Nat.le_of_ble_eq_true rfl, Nat.le_of_ble_eq_true rfl, Nat.le_of_ble_eq_true rfl, Nat.le_of_ble_eq_true rfl, Nat.le_of_ble_eq_true rfl⟩ dL_law_474 (fun H locs hw hg => ?_)
  refine lv_aload_n S.1 S.2.1 dL_law_477 rfl (lv_at hl 2 rfl) ?_
  refine lv_aload_n S.1 S.2.1 dL_law_478 rfl (lv_at hl 0 rfl) ?_
  refine lv_iload_n S.1 S.2.1 dL_law_479 rfl (lv_at hl 3 rfl) ?_
  refine lv_iconst (v := 1) S.1 S.2.1 dL_law_480 (by decide) ?_
  refine lv_iadd S.1 S.2.1 dL_law_481 ?_
  refine va_sld S.1 S.2.1 hX hbl hbA hw.2.2 (xvi e1 (by omega) (by omega)) dL_law_482 ?_
  refine lv_aload_n S.1 S.2.1 dL_law_483 rfl (lv_at hl 0 rfl) ?_
  refine lv_iload_n S.1 S.2.1 dL_law_484 rfl (lv_at hl 3 rfl) ?_
  refine lv_iconst (v := 2) S.1 S.2.1 dL_law_485 (by decide) ?_
  refine lv_iadd S.1 S.2.1 dL_law_486 ?_
  refine va_sld S.1 S.2.1 hX hbl hbA hw.2.2 (xvi e2 (by omega) (by omega)) dL_law_487 ?_
  refine lv_aload_n S.1 S.2.1 dL_law_488 rfl (lv_at hl 0 rfl) ?_
  refine lv_iload_n S.1 S.2.1 dL_law_489 rfl (lv_at hl 3 rfl) ?_
  refine lv_iconst (v := 3) S.1 S.2.1 dL_law_490 (by decide) ?_
  refine lv_iadd S.1 S.2.1 dL_law_491 ?_
  refine va_sld S.1 S.2.1 hX hbl hbA hw.2.2 (xvi e3 (by omega) (by omega)) dL_law_492 ?_
  refine xli (rest := [.int (k_plan u (xs (x3 + 1).toNatClampNeg) (xs (x3 + 2).toNatClampNeg) (xs (x3 + 3).toNatClampNeg)).1]) S hK hE hA hg hw hdj.mc yfX11_plan (c_m_plan l D b2 Y ts v (xs (x3 + 1).toNatClampNeg) (xs (x3 + 2).toNatClampNeg) (xs (x3 + 3).toNatClampNeg) g0 g1 g2) 0 rfl rfl mlL_68 rfl rfl hl.1 ⟨rfl, rfl, Nat.le_of_ble_eq_true rfl, Nat.le_of_ble_eq_true rfl, Nat.le_of_ble_eq_true rfl, Nat.le_of_ble_eq_true rfl, Nat.le_of_ble_eq_true rfl⟩ dL_law_493 (fun H locs hg hw => ?_)
  refine lv_icmp_eq (tgt := 831) S.1 S.2.1 dL_law_496 (by decide) (fun hc => kk _ _ H locs ls hR2 hl hw hg) (fun hc => absurd he hc)
set_option maxHeartbeats 4000000 in
set_option maxRecDepth 100000 in
theorem lc_best (Rel : xU → xU → Prop) (hs : St_best Rel) {p : Program} {l : Launch} {e : Env} {s : State} {m : MethodId} {below : List Frame} {meth : Method} {c : Code} {D : va_G} {a b2 : Nat → Nat} {Y : Nat → ClassId} {ts : Nat → Nat} {b L : Nat} {xs : Nat → Int32} (hL : L ≤ 256) (S : CallFix p m c code 4 s #[Value.ref b] xT RL) (hr : meth.sig.returnType = ret) (hlk : meth.locks = false) (hX : va_X b L xs s s.heap) (hbl : b < s.heap.size) (hK : va_K D vwCl (xty Y) s) (hE : xE ts (fun q : Nat => s.heap.size ≤ q) s) (hdj : djC a b2) (x3 : Int32) (hx0 : 0 ≤ x3.toInt) (hx1 : x3.toInt + 4 ≤ L)
    (kk : ∀ (u v : xU) (H : Heap) (locs : List Loc) (ls : Array Slot), Rel u v → lv_has ls 4 [(0, .ref b), (1, .ref (a 0)), (2, .ref (b2 0)), (3, .int x3)] → xw D (wC a Y) (fun q : Nat => s.heap.size ≤ q) s.heap H locs u → xw D (wM b2 Y) (fun q : Nat => s.heap.size ≤ q) s.heap H locs v → W p l e room_1 s m #[Value.ref b] below meth c H locs 600000 7302250 (lw_Z below #[Value.ref b] s) (F0 m 831 ls []))
    (u v : xU) (H : Heap) (locs : List Loc) (ls : Array Slot) (hR : Rel u v) (hl : lv_has ls 4 [(0, .ref b), (1, .ref (a 0)), (2, .ref (b2 0)), (3, .int x3)]) (hw : xw D (wC a Y) (fun q : Nat => s.heap.size ≤ q) s.heap H locs u) (hg : xw D (wM b2 Y) (fun q : Nat => s.heap.size ≤ q) s.heap H locs v) : W p l e room_1 s m #[Value.ref b] below meth c H locs 600000 7302250 (lw_Z below #[Value.ref b] s) (F0 m 501 ls []) := by
  have hA : ∀ q : Nat, s.heap.size ≤ q → (fun q : Nat => s.heap.size ≤ q) q := fun _ h => h
  have hbA : ¬ (fun q : Nat => s.heap.size ≤ q) b := Nat.not_le.mpr hbl
  obtain ⟨⟨h0, h1⟩, ⟨g0, g1, g2⟩, he, hR2⟩ := hs u v (xs (x3 + 1).toNatClampNeg) (xs (x3 + 2).toNatClampNeg) (xs (x3 + 3).toNatClampNeg) hR
  have e1 : (x3 + 1).toInt = x3.toInt + 1 := xadd rfl rfl (by have : (1 : Int32).toInt = 1 := rfl; omega) (by have : (1 : Int32).toInt = 1 := rfl; omega)
  have e2 : (x3 + 2).toInt = x3.toInt + 2 := xadd rfl rfl (by have : (2 : Int32).toInt = 2 := rfl; omega) (by have : (2 : Int32).toInt = 2 := rfl; omega)
  have e3 : (x3 + 3).toInt = x3.toInt + 3 := xadd rfl rfl (by have : (3 : Int32).toInt = 3 := rfl; omega) (by have : (3 : Int32).toInt = 3 := rfl; omega)
  refine lv_aload_n S.1 S.2.1 dL_law_501 rfl (lv_at hl 1 rfl) ?_
  refine lv_aload_n S.1 S.2.1 dL_law_502 rfl (lv_at hl 0 rfl) ?_
  refine lv_iload_n S.1 S.2.1 dL_law_503 rfl (lv_at hl 3 rfl) ?_
  refine lv_iconst (v := 1) S.1 S.2.1 dL_law_504 (by decide) ?_
  refine lv_iadd S.1 S.2.1 dL_law_505 ?_
  refine va_sld S.1 S.2.1 hX hbl hbA hw.2.2 (xvi e1 (by omega) (by omega)) dL_law_506 ?_
  refine lv_aload_n S.1 S.2.1 dL_law_507 rfl (lv_at hl 0 rfl) ?_
  refine lv_iload_n S.1 S.2.1 dL_law_508 rfl (lv_at hl 3 rfl) ?_
  refine lv_iconst (v := 2) S.1 S.2.1 dL_law_509 (by decide) ?_
  refine lv_iadd S.1 S.2.1 dL_law_510 ?_
  refine va_sld S.1 S.2.1 hX hbl hbA hw.2.2 (xvi e2 (by omega) (by omega)) dL_law_511 ?_
  refine lv_aload_n S.1 S.2.1 dL_law_512 rfl (lv_at hl 0 rfl) ?_
  refine lv_iload_n S.1 S.2.1 dL_law_513 rfl (lv_at hl 3 rfl) ?_
  refine lv_iconst (v := 3) S.1 S.2.1 dL_law_514 (by decide) ?_
  refine lv_iadd S.1 S.2.1 dL_law_515 ?_
  refine va_sld S.1 S.2.1 hX hbl hbA hw.2.2 (xvi e3 (by omega) (by omega)) dL_law_516 ?_
  refine xli (rest := []) S hK hE hA hw hg hdj.cm yfX10_best (c_k_best l D a Y ts u (xs (x3 + 1).toNatClampNeg) (xs (x3 + 2).toNatClampNeg) (xs (x3 + 3).toNatClampNeg) h0 h1) 0 rfl rfl mlL_69 rfl rfl hl.1 ⟨rfl, rfl, Nat.le_of_ble_eq_true rfl, Nat.le_of_ble_eq_true rfl, Nat.le_of_ble_eq_true rfl, Nat.le_of_ble_eq_true rfl, Nat.le_of_ble_eq_true rfl⟩ dL_law_517 (fun H locs hw hg => ?_)
  refine lv_aload_n S.1 S.2.1 dL_law_520 rfl (lv_at hl 2 rfl) ?_
  refine lv_aload_n S.1 S.2.1 dL_law_521 rfl (lv_at hl 0 rfl) ?_
  refine lv_iload_n S.1 S.2.1 dL_law_522 rfl (lv_at hl 3 rfl) ?_
  refine lv_iconst (v := 1) S.1 S.2.1 dL_law_523 (by decide) ?_
  refine lv_iadd S.1 S.2.1 dL_law_524 ?_
  refine va_sld S.1 S.2.1 hX hbl hbA hw.2.2 (xvi e1 (by omega) (by omega)) dL_law_525 ?_
  refine lv_aload_n S.1 S.2.1 dL_law_526 rfl (lv_at hl 0 rfl) ?_
  refine lv_iload_n S.1 S.2.1 dL_law_527 rfl (lv_at hl 3 rfl) ?_
  refine lv_iconst (v := 2) S.1 S.2.1 dL_law_528 (by decide) ?_
  refine lv_iadd S.1 S.2.1 dL_law_529 ?_
  refine va_sld S.1 S.2.1 hX hbl hbA hw.2.2 (xvi e2 (by omega) (by omega)) dL_law_530 ?_
  refine lv_aload_n S.1 S.2.1 dL_law_531 rfl (lv_at hl 0 rfl) ?_
  refine lv_iload_n S.1 S.2.1 dL_law_532 rfl (lv_at hl 3 rfl) ?_
  refine lv_iconst (v := 3) S.1 S.2.1 dL_law_533 (by decide) ?_
  refine lv_iadd S.1 S.2.1 dL_law_534 ?_
  refine va_sld S.1 S.2.1 hX hbl hbA hw.2.2 (xvi e3 (by omega) (by omega)) dL_law_535 ?_
  refine xli (rest := [.int (k_best u (xs (x3 + 1).toNatClampNeg) (xs (x3 + 2).toNatClampNeg) (xs (x3 + 3).toNatClampNeg)).1]) S hK hE hA hg hw hdj.mc yfX11_best (c_m_best l D b2 Y ts v (xs (x3 + 1).toNatClampNeg) (xs (x3 + 2).toNatClampNeg) (xs (x3 + 3).toNatClampNeg) g0 g1 g2) 0 rfl rfl mlL_72 rfl rfl hl.1 ⟨rfl, rfl, Nat.le_of_ble_eq_true rfl, Nat.le_of_ble_eq_true rfl, Nat.le_of_ble_eq_true rfl, Nat.le_of_ble_eq_true rfl, Nat.le_of_ble_eq_true rfl⟩ dL_law_536 (fun H locs hg hw => ?_)
  refine lv_icmp_eq (tgt := 831) S.1 S.2.1 dL_law_539 (by decide) (fun hc => kk _ _ H locs ls hR2 hl hw hg) (fun hc => absurd he hc)
set_option maxHeartbeats 4000000 in
set_option maxRecDepth 100000 in
theorem lc_own (Rel : xU → xU → Prop) (hs : St_own Rel) {p : Program} {l : Launch} {e : Env} {s : State} {m : MethodId} {below : List Frame} {meth : Method} {c : Code} {D : va_G} {a b2 : Nat → Nat} {Y : Nat → ClassId} {ts : Nat → Nat} {b L : Nat} {xs : Nat → Int32} (hL : L ≤ 256) (S : CallFix p m c code 4 s #[Value.ref b] xT RL) (hr : meth.sig.returnType = ret) (hlk : meth.locks = false) (hX : va_X b L xs s s.heap) (hbl : b < s.heap.size) (hK : va_K D vwCl (xty Y) s) (hE : xE ts (fun q : Nat => s.heap.size ≤ q) s) (hdj : djC a b2) (x3 : Int32) (hx0 : 0 ≤ x3.toInt) (hx1 : x3.toInt + 4 ≤ L)
    (kk : ∀ (u v : xU) (H : Heap) (locs : List Loc) (ls : Array Slot), Rel u v → lv_has ls 4 [(0, .ref b), (1, .ref (a 0)), (2, .ref (b2 0)), (3, .int x3)] → xw D (wC a Y) (fun q : Nat => s.heap.size ≤ q) s.heap H locs u → xw D (wM b2 Y) (fun q : Nat => s.heap.size ≤ q) s.heap H locs v → W p l e room_1 s m #[Value.ref b] below meth c H locs 600000 7302250 (lw_Z below #[Value.ref b] s) (F0 m 831 ls []))
    (u v : xU) (H : Heap) (locs : List Loc) (ls : Array Slot) (hR : Rel u v) (hl : lv_has ls 4 [(0, .ref b), (1, .ref (a 0)), (2, .ref (b2 0)), (3, .int x3)]) (hw : xw D (wC a Y) (fun q : Nat => s.heap.size ≤ q) s.heap H locs u) (hg : xw D (wM b2 Y) (fun q : Nat => s.heap.size ≤ q) s.heap H locs v) : W p l e room_1 s m #[Value.ref b] below meth c H locs 600000 7302250 (lw_Z below #[Value.ref b] s) (F0 m 544 ls []) := by
  have hA : ∀ q : Nat, s.heap.size ≤ q → (fun q : Nat => s.heap.size ≤ q) q := fun _ h => h
  have hbA : ¬ (fun q : Nat => s.heap.size ≤ q) b := Nat.not_le.mpr hbl
  obtain ⟨⟨h0, h1⟩, ⟨g0, g1⟩, he, hR2⟩ := hs u v (xs (x3 + 1).toNatClampNeg) hR
  have e1 : (x3 + 1).toInt = x3.toInt + 1 := xadd rfl rfl (by have : (1 : Int32).toInt = 1 := rfl; omega) (by have : (1 : Int32).toInt = 1 := rfl; omega)
  refine lv_aload_n S.1 S.2.1 dL_law_544 rfl (lv_at hl 1 rfl) ?_
  refine lv_aload_n S.1 S.2.1 dL_law_545 rfl (lv_at hl 0 rfl) ?_
  refine lv_iload_n S.1 S.2.1 dL_law_546 rfl (lv_at hl 3 rfl) ?_
  refine lv_iconst (v := 1) S.1 S.2.1 dL_law_547 (by decide) ?_
  refine lv_iadd S.1 S.2.1 dL_law_548 ?_
  refine va_sld S.1 S.2.1 hX hbl hbA hw.2.2 (xvi e1 (by omega) (by omega)) dL_law_549 ?_
  refine xli (rest := []) S hK hE hA hw hg hdj.cm yfX10_own (c_k_own l D a Y ts u (xs (x3 + 1).toNatClampNeg) h0 h1) 0 rfl rfl mlL_73 rfl rfl hl.1 ⟨rfl, rfl, Nat.le_of_ble_eq_true rfl, Nat.le_of_ble_eq_true rfl, Nat.le_of_ble_eq_true rfl, Nat.le_of_ble_eq_true rfl, Nat.le_of_ble_eq_true rfl⟩ dL_law_550 (fun H locs hw hg => ?_)
  refine lv_aload_n S.1 S.2.1 dL_law_553 rfl (lv_at hl 2 rfl) ?_
  refine lv_aload_n S.1 S.2.1 dL_law_554 rfl (lv_at hl 0 rfl) ?_
  refine lv_iload_n S.1 S.2.1 dL_law_555 rfl (lv_at hl 3 rfl) ?_
  refine lv_iconst (v := 1) S.1 S.2.1 dL_law_556 (by decide) ?_
  refine lv_iadd S.1 S.2.1 dL_law_557 ?_
  refine va_sld S.1 S.2.1 hX hbl hbA hw.2.2 (xvi e1 (by omega) (by omega)) dL_law_558 ?_
  refine xli (rest := [.int (k_own u (xs (x3 + 1).toNatClampNeg)).1]) S hK hE hA hg hw hdj.mc yfX11_own (c_m_own l D b2 Y ts v (xs (x3 + 1).toNatClampNeg) g0 g1) 0 rfl rfl mlL_76 rfl rfl hl.1 ⟨rfl, rfl, Nat.le_of_ble_eq_true rfl, Nat.le_of_ble_eq_true rfl, Nat.le_of_ble_eq_true rfl, Nat.le_of_ble_eq_true rfl, Nat.le_of_ble_eq_true rfl⟩ dL_law_559 (fun H locs hg hw => ?_)
  refine lv_icmp_eq (tgt := 831) S.1 S.2.1 dL_law_562 (by decide) (fun hc => kk _ _ H locs ls hR2 hl hw hg) (fun hc => absurd he hc)
set_option maxHeartbeats 4000000 in
set_option maxRecDepth 100000 in
theorem lc_near (Rel : xU → xU → Prop) (hs : St_near Rel) {p : Program} {l : Launch} {e : Env} {s : State} {m : MethodId} {below : List Frame} {meth : Method} {c : Code} {D : va_G} {a b2 : Nat → Nat} {Y : Nat → ClassId} {ts : Nat → Nat} {b L : Nat} {xs : Nat → Int32} (hL : L ≤ 256) (S : CallFix p m c code 4 s #[Value.ref b] xT RL) (hr : meth.sig.returnType = ret) (hlk : meth.locks = false) (hX : va_X b L xs s s.heap) (hbl : b < s.heap.size) (hK : va_K D vwCl (xty Y) s) (hE : xE ts (fun q : Nat => s.heap.size ≤ q) s) (hdj : djC a b2) (x3 : Int32) (hx0 : 0 ≤ x3.toInt) (hx1 : x3.toInt + 4 ≤ L)
    (kk : ∀ (u v : xU) (H : Heap) (locs : List Loc) (ls : Array Slot), Rel u v → lv_has ls 4 [(0, .ref b), (1, .ref (a 0)), (2, .ref (b2 0)), (3, .int x3)] → xw D (wC a Y) (fun q : Nat => s.heap.size ≤ q) s.heap H locs u → xw D (wM b2 Y) (fun q : Nat => s.heap.size ≤ q) s.heap H locs v → W p l e room_1 s m #[Value.ref b] below meth c H locs 600000 7302250 (lw_Z below #[Value.ref b] s) (F0 m 831 ls []))
    (u v : xU) (H : Heap) (locs : List Loc) (ls : Array Slot) (hR : Rel u v) (hl : lv_has ls 4 [(0, .ref b), (1, .ref (a 0)), (2, .ref (b2 0)), (3, .int x3)]) (hw : xw D (wC a Y) (fun q : Nat => s.heap.size ≤ q) s.heap H locs u) (hg : xw D (wM b2 Y) (fun q : Nat => s.heap.size ≤ q) s.heap H locs v) : W p l e room_1 s m #[Value.ref b] below meth c H locs 600000 7302250 (lw_Z below #[Value.ref b] s) (F0 m 567 ls []) := by
  have hA : ∀ q : Nat, s.heap.size ≤ q → (fun q : Nat => s.heap.size ≤ q) q := fun _ h => h
  have hbA : ¬ (fun q : Nat => s.heap.size ≤ q) b := Nat.not_le.mpr hbl
  obtain ⟨⟨h0, h1⟩, ⟨g0, g1⟩, he, hR2⟩ := hs u v (xs (x3 + 1).toNatClampNeg) (xs (x3 + 2).toNatClampNeg) hR
  have e1 : (x3 + 1).toInt = x3.toInt + 1 := xadd rfl rfl (by have : (1 : Int32).toInt = 1 := rfl; omega) (by have : (1 : Int32).toInt = 1 := rfl; omega)
  have e2 : (x3 + 2).toInt = x3.toInt + 2 := xadd rfl rfl (by have : (2 : Int32).toInt = 2 := rfl; omega) (by have : (2 : Int32).toInt = 2 := rfl; omega)
  refine lv_aload_n S.1 S.2.1 dL_law_567 rfl (lv_at hl 1 rfl) ?_
  refine lv_aload_n S.1 S.2.1 dL_law_568 rfl (lv_at hl 0 rfl) ?_
  refine lv_iload_n S.1 S.2.1 dL_law_569 rfl (lv_at hl 3 rfl) ?_
  refine lv_iconst (v := 1) S.1 S.2.1 dL_law_570 (by decide) ?_
  refine lv_iadd S.1 S.2.1 dL_law_571 ?_
  refine va_sld S.1 S.2.1 hX hbl hbA hw.2.2 (xvi e1 (by omega) (by omega)) dL_law_572 ?_
  refine lv_aload_n S.1 S.2.1 dL_law_573 rfl (lv_at hl 0 rfl) ?_
  refine lv_iload_n S.1 S.2.1 dL_law_574 rfl (lv_at hl 3 rfl) ?_
  refine lv_iconst (v := 2) S.1 S.2.1 dL_law_575 (by decide) ?_
  refine lv_iadd S.1 S.2.1 dL_law_576 ?_
  refine va_sld S.1 S.2.1 hX hbl hbA hw.2.2 (xvi e2 (by omega) (by omega)) dL_law_577 ?_
  refine xli (rest := []) S hK hE hA hw hg hdj.cm yfX10_near (c_k_near l D a Y ts u (xs (x3 + 1).toNatClampNeg) (xs (x3 + 2).toNatClampNeg) h0 h1) 0 rfl rfl mlL_77 rfl rfl hl.1 ⟨rfl, rfl, Nat.le_of_ble_eq_true rfl, Nat.le_of_ble_eq_true rfl, Nat.le_of_ble_eq_true rfl, Nat.le_of_ble_eq_true rfl, Nat.le_of_ble_eq_true rfl⟩ dL_law_578 (fun H locs hw hg => ?_)
  refine lv_aload_n S.1 S.2.1 dL_law_581 rfl (lv_at hl 2 rfl) ?_
  refine lv_aload_n S.1 S.2.1 dL_law_582 rfl (lv_at hl 0 rfl) ?_
  refine lv_iload_n S.1 S.2.1 dL_law_583 rfl (lv_at hl 3 rfl) ?_
  refine lv_iconst (v := 1) S.1 S.2.1 dL_law_584 (by decide) ?_
  refine lv_iadd S.1 S.2.1 dL_law_585 ?_
  refine va_sld S.1 S.2.1 hX hbl hbA hw.2.2 (xvi e1 (by omega) (by omega)) dL_law_586 ?_
  refine lv_aload_n S.1 S.2.1 dL_law_587 rfl (lv_at hl 0 rfl) ?_
  refine lv_iload_n S.1 S.2.1 dL_law_588 rfl (lv_at hl 3 rfl) ?_
  refine lv_iconst (v := 2) S.1 S.2.1 dL_law_589 (by decide) ?_
  refine lv_iadd S.1 S.2.1 dL_law_590 ?_
  refine va_sld S.1 S.2.1 hX hbl hbA hw.2.2 (xvi e2 (by omega) (by omega)) dL_law_591 ?_
  refine xli (rest := [.int (k_near u (xs (x3 + 1).toNatClampNeg) (xs (x3 + 2).toNatClampNeg))]) S hK hE hA hg hw hdj.mc yfX11_near (c_m_near l D b2 Y ts v (xs (x3 + 1).toNatClampNeg) (xs (x3 + 2).toNatClampNeg) g0 g1) 0 rfl rfl mlL_80 rfl rfl hl.1 ⟨rfl, rfl, Nat.le_of_ble_eq_true rfl, Nat.le_of_ble_eq_true rfl, Nat.le_of_ble_eq_true rfl, Nat.le_of_ble_eq_true rfl, Nat.le_of_ble_eq_true rfl⟩ dL_law_592 (fun H locs hg hw => ?_)
  refine lv_icmp_eq (tgt := 831) S.1 S.2.1 dL_law_595 (by decide) (fun hc => kk _ _ H locs ls hR2 hl hw hg) (fun hc => absurd he hc)
set_option maxHeartbeats 4000000 in
set_option maxRecDepth 100000 in
theorem lc_odds (Rel : xU → xU → Prop) (hs : St_odds Rel) {p : Program} {l : Launch} {e : Env} {s : State} {m : MethodId} {below : List Frame} {meth : Method} {c : Code} {D : va_G} {a b2 : Nat → Nat} {Y : Nat → ClassId} {ts : Nat → Nat} {b L : Nat} {xs : Nat → Int32} (hL : L ≤ 256) (S : CallFix p m c code 4 s #[Value.ref b] xT RL) (hr : meth.sig.returnType = ret) (hlk : meth.locks = false) (hX : va_X b L xs s s.heap) (hbl : b < s.heap.size) (hK : va_K D vwCl (xty Y) s) (hE : xE ts (fun q : Nat => s.heap.size ≤ q) s) (hdj : djC a b2) (x3 : Int32) (hx0 : 0 ≤ x3.toInt) (hx1 : x3.toInt + 4 ≤ L)
    (kk : ∀ (u v : xU) (H : Heap) (locs : List Loc) (ls : Array Slot), Rel u v → lv_has ls 4 [(0, .ref b), (1, .ref (a 0)), (2, .ref (b2 0)), (3, .int x3)] → xw D (wC a Y) (fun q : Nat => s.heap.size ≤ q) s.heap H locs u → xw D (wM b2 Y) (fun q : Nat => s.heap.size ≤ q) s.heap H locs v → W p l e room_1 s m #[Value.ref b] below meth c H locs 600000 7302250 (lw_Z below #[Value.ref b] s) (F0 m 831 ls []))
    (u v : xU) (H : Heap) (locs : List Loc) (ls : Array Slot) (hR : Rel u v) (hl : lv_has ls 4 [(0, .ref b), (1, .ref (a 0)), (2, .ref (b2 0)), (3, .int x3)]) (hw : xw D (wC a Y) (fun q : Nat => s.heap.size ≤ q) s.heap H locs u) (hg : xw D (wM b2 Y) (fun q : Nat => s.heap.size ≤ q) s.heap H locs v) : W p l e room_1 s m #[Value.ref b] below meth c H locs 600000 7302250 (lw_Z below #[Value.ref b] s) (F0 m 600 ls []) := by
  have hA : ∀ q : Nat, s.heap.size ≤ q → (fun q : Nat => s.heap.size ≤ q) q := fun _ h => h
  have hbA : ¬ (fun q : Nat => s.heap.size ≤ q) b := Nat.not_le.mpr hbl
  obtain ⟨⟨h0, h1, h2⟩, ⟨g0, g1⟩, he, hR2⟩ := hs u v (xs (x3 + 1).toNatClampNeg) (xs (x3 + 2).toNatClampNeg) (xs (x3 + 3).toNatClampNeg) hR
  have e1 : (x3 + 1).toInt = x3.toInt + 1 := xadd rfl rfl (by have : (1 : Int32).toInt = 1 := rfl; omega) (by have : (1 : Int32).toInt = 1 := rfl; omega)
  have e2 : (x3 + 2).toInt = x3.toInt + 2 := xadd rfl rfl (by have : (2 : Int32).toInt = 2 := rfl; omega) (by have : (2 : Int32).toInt = 2 := rfl; omega)
  have e3 : (x3 + 3).toInt = x3.toInt + 3 := xadd rfl rfl (by have : (3 : Int32).toInt = 3 := rfl; omega) (by have : (3 : Int32).toInt = 3 := rfl; omega)
  refine lv_aload_n S.1 S.2.1 dL_law_600 rfl (lv_at hl 1 rfl) ?_
  refine lv_aload_n S.1 S.2.1 dL_law_601 rfl (lv_at hl 0 rfl) ?_
  refine lv_iload_n S.1 S.2.1 dL_law_602 rfl (lv_at hl 3 rfl) ?_
  refine lv_iconst (v := 1) S.1 S.2.1 dL_law_603 (by decide) ?_
  refine lv_iadd S.1 S.2.1 dL_law_604 ?_
  refine va_sld S.1 S.2.1 hX hbl hbA hw.2.2 (xvi e1 (by omega) (by omega)) dL_law_605 ?_
  refine lv_aload_n S.1 S.2.1 dL_law_606 rfl (lv_at hl 0 rfl) ?_
  refine lv_iload_n S.1 S.2.1 dL_law_607 rfl (lv_at hl 3 rfl) ?_
  refine lv_iconst (v := 2) S.1 S.2.1 dL_law_608 (by decide) ?_
  refine lv_iadd S.1 S.2.1 dL_law_609 ?_
  refine va_sld S.1 S.2.1 hX hbl hbA hw.2.2 (xvi e2 (by omega) (by omega)) dL_law_610 ?_
  refine lv_aload_n S.1 S.2.1 dL_law_611 rfl (lv_at hl 0 rfl) ?_
  refine lv_iload_n S.1 S.2.1 dL_law_612 rfl (lv_at hl 3 rfl) ?_
  refine lv_iconst (v := 3) S.1 S.2.1 dL_law_613 (by decide) ?_
  refine lv_iadd S.1 S.2.1 dL_law_614 ?_
  refine va_sld S.1 S.2.1 hX hbl hbA hw.2.2 (xvi e3 (by omega) (by omega)) dL_law_615 ?_
  refine xli (rest := []) S hK hE hA hw hg hdj.cm yfX10_odds (c_k_odds l D a Y ts u (xs (x3 + 1).toNatClampNeg) (xs (x3 + 2).toNatClampNeg) (xs (x3 + 3).toNatClampNeg) h0 h1 h2) 0 rfl rfl mlL_81 rfl rfl hl.1 ⟨rfl, rfl, Nat.le_of_ble_eq_true rfl, Nat.le_of_ble_eq_true rfl, Nat.le_of_ble_eq_true rfl, Nat.le_of_ble_eq_true rfl, Nat.le_of_ble_eq_true rfl⟩ dL_law_616 (fun H locs hw hg => ?_)
  refine lv_aload_n S.1 S.2.1 dL_law_619 rfl (lv_at hl 2 rfl) ?_
  refine lv_aload_n S.1 S.2.1 dL_law_620 rfl (lv_at hl 0 rfl) ?_
  refine lv_iload_n S.1 S.2.1 dL_law_621 rfl (lv_at hl 3 rfl) ?_
  refine lv_iconst (v := 1) S.1 S.2.1 dL_law_622 (by decide) ?_
  refine lv_iadd S.1 S.2.1 dL_law_623 ?_
  refine va_sld S.1 S.2.1 hX hbl hbA hw.2.2 (xvi e1 (by omega) (by omega)) dL_law_624 ?_
  refine lv_aload_n S.1 S.2.1 dL_law_625 rfl (lv_at hl 0 rfl) ?_
  refine lv_iload_n S.1 S.2.1 dL_law_626 rfl (lv_at hl 3 rfl) ?_
  refine lv_iconst (v := 2) S.1 S.2.1 dL_law_627 (by decide) ?_
  refine lv_iadd S.1 S.2.1 dL_law_628 ?_
  refine va_sld S.1 S.2.1 hX hbl hbA hw.2.2 (xvi e2 (by omega) (by omega)) dL_law_629 ?_
  refine lv_aload_n S.1 S.2.1 dL_law_630 rfl (lv_at hl 0 rfl) ?_
  refine lv_iload_n S.1 S.2.1 dL_law_631 rfl (lv_at hl 3 rfl) ?_
  refine lv_iconst (v := 3) S.1 S.2.1 dL_law_632 (by decide) ?_
  refine lv_iadd S.1 S.2.1 dL_law_633 ?_
  refine va_sld S.1 S.2.1 hX hbl hbA hw.2.2 (xvi e3 (by omega) (by omega)) dL_law_634 ?_
  refine xli (rest := [.int (k_odds u (xs (x3 + 1).toNatClampNeg) (xs (x3 + 2).toNatClampNeg) (xs (x3 + 3).toNatClampNeg))]) S hK hE hA hg hw hdj.mc yfX11_odds (c_m_odds l D b2 Y ts v (xs (x3 + 1).toNatClampNeg) (xs (x3 + 2).toNatClampNeg) (xs (x3 + 3).toNatClampNeg) g0 g1) 0 rfl rfl mlL_84 rfl rfl hl.1 ⟨rfl, rfl, Nat.le_of_ble_eq_true rfl, Nat.le_of_ble_eq_true rfl, Nat.le_of_ble_eq_true rfl, Nat.le_of_ble_eq_true rfl, Nat.le_of_ble_eq_true rfl⟩ dL_law_635 (fun H locs hg hw => ?_)
  refine lv_icmp_eq (tgt := 831) S.1 S.2.1 dL_law_638 (by decide) (fun hc => kk _ _ H locs ls hR2 hl hw hg) (fun hc => absurd he hc)
set_option maxHeartbeats 4000000 in
set_option maxRecDepth 100000 in
theorem lc_hears (Rel : xU → xU → Prop) (hs : St_hears Rel) {p : Program} {l : Launch} {e : Env} {s : State} {m : MethodId} {below : List Frame} {meth : Method} {c : Code} {D : va_G} {a b2 : Nat → Nat} {Y : Nat → ClassId} {ts : Nat → Nat} {b L : Nat} {xs : Nat → Int32} (hL : L ≤ 256) (S : CallFix p m c code 4 s #[Value.ref b] xT RL) (hr : meth.sig.returnType = ret) (hlk : meth.locks = false) (hX : va_X b L xs s s.heap) (hbl : b < s.heap.size) (hK : va_K D vwCl (xty Y) s) (hE : xE ts (fun q : Nat => s.heap.size ≤ q) s) (hdj : djC a b2) (x3 : Int32) (hx0 : 0 ≤ x3.toInt) (hx1 : x3.toInt + 4 ≤ L)
    (kk : ∀ (u v : xU) (H : Heap) (locs : List Loc) (ls : Array Slot), Rel u v → lv_has ls 4 [(0, .ref b), (1, .ref (a 0)), (2, .ref (b2 0)), (3, .int x3)] → xw D (wC a Y) (fun q : Nat => s.heap.size ≤ q) s.heap H locs u → xw D (wM b2 Y) (fun q : Nat => s.heap.size ≤ q) s.heap H locs v → W p l e room_1 s m #[Value.ref b] below meth c H locs 600000 7302250 (lw_Z below #[Value.ref b] s) (F0 m 831 ls []))
    (u v : xU) (H : Heap) (locs : List Loc) (ls : Array Slot) (hR : Rel u v) (hl : lv_has ls 4 [(0, .ref b), (1, .ref (a 0)), (2, .ref (b2 0)), (3, .int x3)]) (hw : xw D (wC a Y) (fun q : Nat => s.heap.size ≤ q) s.heap H locs u) (hg : xw D (wM b2 Y) (fun q : Nat => s.heap.size ≤ q) s.heap H locs v) : W p l e room_1 s m #[Value.ref b] below meth c H locs 600000 7302250 (lw_Z below #[Value.ref b] s) (F0 m 643 ls []) := by
  have hA : ∀ q : Nat, s.heap.size ≤ q → (fun q : Nat => s.heap.size ≤ q) q := fun _ h => h
  have hbA : ¬ (fun q : Nat => s.heap.size ≤ q) b := Nat.not_le.mpr hbl
  obtain ⟨⟨h0, h1, h2⟩, ⟨g0, g1, g2⟩, he, hR2⟩ := hs u v (xs (x3 + 1).toNatClampNeg) (xs (x3 + 2).toNatClampNeg) hR
  have e1 : (x3 + 1).toInt = x3.toInt + 1 := xadd rfl rfl (by have : (1 : Int32).toInt = 1 := rfl; omega) (by have : (1 : Int32).toInt = 1 := rfl; omega)
  have e2 : (x3 + 2).toInt = x3.toInt + 2 := xadd rfl rfl (by have : (2 : Int32).toInt = 2 := rfl; omega) (by have : (2 : Int32).toInt = 2 := rfl; omega)
  refine lv_aload_n S.1 S.2.1 dL_law_643 rfl (lv_at hl 1 rfl) ?_
  refine lv_aload_n S.1 S.2.1 dL_law_644 rfl (lv_at hl 0 rfl) ?_
  refine lv_iload_n S.1 S.2.1 dL_law_645 rfl (lv_at hl 3 rfl) ?_
  refine lv_iconst (v := 1) S.1 S.2.1 dL_law_646 (by decide) ?_
  refine lv_iadd S.1 S.2.1 dL_law_647 ?_
  refine va_sld S.1 S.2.1 hX hbl hbA hw.2.2 (xvi e1 (by omega) (by omega)) dL_law_648 ?_
  refine lv_aload_n S.1 S.2.1 dL_law_649 rfl (lv_at hl 0 rfl) ?_
  refine lv_iload_n S.1 S.2.1 dL_law_650 rfl (lv_at hl 3 rfl) ?_
  refine lv_iconst (v := 2) S.1 S.2.1 dL_law_651 (by decide) ?_
  refine lv_iadd S.1 S.2.1 dL_law_652 ?_
  refine va_sld S.1 S.2.1 hX hbl hbA hw.2.2 (xvi e2 (by omega) (by omega)) dL_law_653 ?_
  refine xli (rest := []) S hK hE hA hw hg hdj.cm yfX10_hears (c_k_hears l D a Y ts u (xs (x3 + 1).toNatClampNeg) (xs (x3 + 2).toNatClampNeg) h0 h1 h2) 0 rfl rfl mlL_85 rfl rfl hl.1 ⟨rfl, rfl, Nat.le_of_ble_eq_true rfl, Nat.le_of_ble_eq_true rfl, Nat.le_of_ble_eq_true rfl, Nat.le_of_ble_eq_true rfl, Nat.le_of_ble_eq_true rfl⟩ dL_law_654 (fun H locs hw hg => ?_)
  refine lv_aload_n S.1 S.2.1 dL_law_657 rfl (lv_at hl 2 rfl) ?_
  refine lv_aload_n S.1 S.2.1 dL_law_658 rfl (lv_at hl 0 rfl) ?_
  refine lv_iload_n S.1 S.2.1 dL_law_659 rfl (lv_at hl 3 rfl) ?_
  refine lv_iconst (v := 1) S.1 S.2.1 dL_law_660 (by decide) ?_
  refine lv_iadd S.1 S.2.1 dL_law_661 ?_
  refine va_sld S.1 S.2.1 hX hbl hbA hw.2.2 (xvi e1 (by omega) (by omega)) dL_law_662 ?_
  refine lv_aload_n S.1 S.2.1 dL_law_663 rfl (lv_at hl 0 rfl) ?_
  refine lv_iload_n S.1 S.2.1 dL_law_664 rfl (lv_at hl 3 rfl) ?_
  refine lv_iconst (v := 2) S.1 S.2.1 dL_law_665 (by decide) ?_
  refine lv_iadd S.1 S.2.1 dL_law_666 ?_
  refine va_sld S.1 S.2.1 hX hbl hbA hw.2.2 (xvi e2 (by omega) (by omega)) dL_law_667 ?_
  refine xli (rest := [.int (k_hears u (xs (x3 + 1).toNatClampNeg) (xs (x3 + 2).toNatClampNeg)).1]) S hK hE hA hg hw hdj.mc yfX11_hears (c_m_hears l D b2 Y ts v (xs (x3 + 1).toNatClampNeg) (xs (x3 + 2).toNatClampNeg) g0 g1 g2) 0 rfl rfl mlL_88 rfl rfl hl.1 ⟨rfl, rfl, Nat.le_of_ble_eq_true rfl, Nat.le_of_ble_eq_true rfl, Nat.le_of_ble_eq_true rfl, Nat.le_of_ble_eq_true rfl, Nat.le_of_ble_eq_true rfl⟩ dL_law_668 (fun H locs hg hw => ?_)
  refine lv_icmp_eq (tgt := 831) S.1 S.2.1 dL_law_671 (by decide) (fun hc => kk _ _ H locs ls hR2 hl hw hg) (fun hc => absurd he hc)
set_option maxHeartbeats 4000000 in
set_option maxRecDepth 100000 in
theorem lc_forget (Rel : xU → xU → Prop) (hs : St_forget Rel) {p : Program} {l : Launch} {e : Env} {s : State} {m : MethodId} {below : List Frame} {meth : Method} {c : Code} {D : va_G} {a b2 : Nat → Nat} {Y : Nat → ClassId} {ts : Nat → Nat} {b L : Nat} {xs : Nat → Int32} (hL : L ≤ 256) (S : CallFix p m c code 4 s #[Value.ref b] xT RL) (hr : meth.sig.returnType = ret) (hlk : meth.locks = false) (hX : va_X b L xs s s.heap) (hbl : b < s.heap.size) (hK : va_K D vwCl (xty Y) s) (hE : xE ts (fun q : Nat => s.heap.size ≤ q) s) (hdj : djC a b2) (x3 : Int32) (hx0 : 0 ≤ x3.toInt) (hx1 : x3.toInt + 4 ≤ L)
    (kk : ∀ (u v : xU) (H : Heap) (locs : List Loc) (ls : Array Slot), Rel u v → lv_has ls 4 [(0, .ref b), (1, .ref (a 0)), (2, .ref (b2 0)), (3, .int x3)] → xw D (wC a Y) (fun q : Nat => s.heap.size ≤ q) s.heap H locs u → xw D (wM b2 Y) (fun q : Nat => s.heap.size ≤ q) s.heap H locs v → W p l e room_1 s m #[Value.ref b] below meth c H locs 600000 7302250 (lw_Z below #[Value.ref b] s) (F0 m 831 ls []))
    (u v : xU) (H : Heap) (locs : List Loc) (ls : Array Slot) (hR : Rel u v) (hl : lv_has ls 4 [(0, .ref b), (1, .ref (a 0)), (2, .ref (b2 0)), (3, .int x3)]) (hw : xw D (wC a Y) (fun q : Nat => s.heap.size ≤ q) s.heap H locs u) (hg : xw D (wM b2 Y) (fun q : Nat => s.heap.size ≤ q) s.heap H locs v) : W p l e room_1 s m #[Value.ref b] below meth c H locs 600000 7302250 (lw_Z below #[Value.ref b] s) (F0 m 676 ls []) := by
  have hA : ∀ q : Nat, s.heap.size ≤ q → (fun q : Nat => s.heap.size ≤ q) q := fun _ h => h
  have hbA : ¬ (fun q : Nat => s.heap.size ≤ q) b := Nat.not_le.mpr hbl
  obtain ⟨h0, g0, he, hR2⟩ := hs u v hR
  refine lv_aload_n S.1 S.2.1 dL_law_676 rfl (lv_at hl 1 rfl) ?_
  refine xli (rest := []) S hK hE hA hw hg hdj.cm yfX10_forget (c_k_forget l D a Y ts u) 0 rfl rfl mlL_89 rfl rfl hl.1 ⟨rfl, rfl, Nat.le_of_ble_eq_true rfl, Nat.le_of_ble_eq_true rfl, Nat.le_of_ble_eq_true rfl, Nat.le_of_ble_eq_true rfl, Nat.le_of_ble_eq_true rfl⟩ dL_law_677 (fun H locs hw hg => ?_)
  refine lv_aload_n S.1 S.2.1 dL_law_680 rfl (lv_at hl 2 rfl) ?_
  refine xli (rest := [.int (k_forget u).1]) S hK hE hA hg hw hdj.mc yfX11_forget (c_m_forget l D b2 Y ts v) 0 rfl rfl mlL_92 rfl rfl hl.1 ⟨rfl, rfl, Nat.le_of_ble_eq_true rfl, Nat.le_of_ble_eq_true rfl, Nat.le_of_ble_eq_true rfl, Nat.le_of_ble_eq_true rfl, Nat.le_of_ble_eq_true rfl⟩ dL_law_681 (fun H locs hg hw => ?_)
  refine lv_icmp_eq (tgt := 831) S.1 S.2.1 dL_law_684 (by decide) (fun hc => kk _ _ H locs ls hR2 hl hw hg) (fun hc => absurd he hc)
set_option maxHeartbeats 4000000 in
set_option maxRecDepth 100000 in
theorem lc_who (Rel : xU → xU → Prop) (hs : St_who Rel) {p : Program} {l : Launch} {e : Env} {s : State} {m : MethodId} {below : List Frame} {meth : Method} {c : Code} {D : va_G} {a b2 : Nat → Nat} {Y : Nat → ClassId} {ts : Nat → Nat} {b L : Nat} {xs : Nat → Int32} (hL : L ≤ 256) (S : CallFix p m c code 4 s #[Value.ref b] xT RL) (hr : meth.sig.returnType = ret) (hlk : meth.locks = false) (hX : va_X b L xs s s.heap) (hbl : b < s.heap.size) (hK : va_K D vwCl (xty Y) s) (hE : xE ts (fun q : Nat => s.heap.size ≤ q) s) (hdj : djC a b2) (x3 : Int32) (hx0 : 0 ≤ x3.toInt) (hx1 : x3.toInt + 4 ≤ L)
    (kk : ∀ (u v : xU) (H : Heap) (locs : List Loc) (ls : Array Slot), Rel u v → lv_has ls 4 [(0, .ref b), (1, .ref (a 0)), (2, .ref (b2 0)), (3, .int x3)] → xw D (wC a Y) (fun q : Nat => s.heap.size ≤ q) s.heap H locs u → xw D (wM b2 Y) (fun q : Nat => s.heap.size ≤ q) s.heap H locs v → W p l e room_1 s m #[Value.ref b] below meth c H locs 600000 7302250 (lw_Z below #[Value.ref b] s) (F0 m 831 ls []))
    (u v : xU) (H : Heap) (locs : List Loc) (ls : Array Slot) (hR : Rel u v) (hl : lv_has ls 4 [(0, .ref b), (1, .ref (a 0)), (2, .ref (b2 0)), (3, .int x3)]) (hw : xw D (wC a Y) (fun q : Nat => s.heap.size ≤ q) s.heap H locs u) (hg : xw D (wM b2 Y) (fun q : Nat => s.heap.size ≤ q) s.heap H locs v) : W p l e room_1 s m #[Value.ref b] below meth c H locs 600000 7302250 (lw_Z below #[Value.ref b] s) (F0 m 689 ls []) := by
  have hA : ∀ q : Nat, s.heap.size ≤ q → (fun q : Nat => s.heap.size ≤ q) q := fun _ h => h
  have hbA : ¬ (fun q : Nat => s.heap.size ≤ q) b := Nat.not_le.mpr hbl
  obtain ⟨⟨h0, h1, h2⟩, ⟨g0, g1, g2⟩, he, hR2⟩ := hs u v hR
  refine lv_aload_n S.1 S.2.1 dL_law_689 rfl (lv_at hl 1 rfl) ?_
  refine xli (rest := []) S hK hE hA hw hg hdj.cm yfX10_who (c_k_who l D a Y ts u h0 h1 h2) 0 rfl rfl mlL_93 rfl rfl hl.1 ⟨rfl, rfl, Nat.le_of_ble_eq_true rfl, Nat.le_of_ble_eq_true rfl, Nat.le_of_ble_eq_true rfl, Nat.le_of_ble_eq_true rfl, Nat.le_of_ble_eq_true rfl⟩ dL_law_690 (fun H locs hw hg => ?_)
  refine lv_aload_n S.1 S.2.1 dL_law_693 rfl (lv_at hl 2 rfl) ?_
  refine xli (rest := [.int (k_who u)]) S hK hE hA hg hw hdj.mc yfX11_who (c_m_who l D b2 Y ts v g0 g1 g2) 0 rfl rfl mlL_96 rfl rfl hl.1 ⟨rfl, rfl, Nat.le_of_ble_eq_true rfl, Nat.le_of_ble_eq_true rfl, Nat.le_of_ble_eq_true rfl, Nat.le_of_ble_eq_true rfl, Nat.le_of_ble_eq_true rfl⟩ dL_law_694 (fun H locs hg hw => ?_)
  refine lv_icmp_eq (tgt := 831) S.1 S.2.1 dL_law_697 (by decide) (fun hc => kk _ _ H locs ls hR2 hl hw hg) (fun hc => absurd he hc)
set_option maxHeartbeats 4000000 in
set_option maxRecDepth 100000 in
theorem lc_ask (Rel : xU → xU → Prop) (hs : St_ask Rel) {p : Program} {l : Launch} {e : Env} {s : State} {m : MethodId} {below : List Frame} {meth : Method} {c : Code} {D : va_G} {a b2 : Nat → Nat} {Y : Nat → ClassId} {ts : Nat → Nat} {b L : Nat} {xs : Nat → Int32} (hL : L ≤ 256) (S : CallFix p m c code 4 s #[Value.ref b] xT RL) (hr : meth.sig.returnType = ret) (hlk : meth.locks = false) (hX : va_X b L xs s s.heap) (hbl : b < s.heap.size) (hK : va_K D vwCl (xty Y) s) (hE : xE ts (fun q : Nat => s.heap.size ≤ q) s) (hdj : djC a b2) (x3 : Int32) (hx0 : 0 ≤ x3.toInt) (hx1 : x3.toInt + 4 ≤ L)
    (kk : ∀ (u v : xU) (H : Heap) (locs : List Loc) (ls : Array Slot), Rel u v → lv_has ls 4 [(0, .ref b), (1, .ref (a 0)), (2, .ref (b2 0)), (3, .int x3)] → xw D (wC a Y) (fun q : Nat => s.heap.size ≤ q) s.heap H locs u → xw D (wM b2 Y) (fun q : Nat => s.heap.size ≤ q) s.heap H locs v → W p l e room_1 s m #[Value.ref b] below meth c H locs 600000 7302250 (lw_Z below #[Value.ref b] s) (F0 m 831 ls []))
    (u v : xU) (H : Heap) (locs : List Loc) (ls : Array Slot) (hR : Rel u v) (hl : lv_has ls 4 [(0, .ref b), (1, .ref (a 0)), (2, .ref (b2 0)), (3, .int x3)]) (hw : xw D (wC a Y) (fun q : Nat => s.heap.size ≤ q) s.heap H locs u) (hg : xw D (wM b2 Y) (fun q : Nat => s.heap.size ≤ q) s.heap H locs v) : W p l e room_1 s m #[Value.ref b] below meth c H locs 600000 7302250 (lw_Z below #[Value.ref b] s) (F0 m 702 ls []) := by
  have hA : ∀ q : Nat, s.heap.size ≤ q → (fun q : Nat => s.heap.size ≤ q) q := fun _ h => h
  have hbA : ¬ (fun q : Nat => s.heap.size ≤ q) b := Nat.not_le.mpr hbl
  obtain ⟨⟨h0, h1, h2⟩, ⟨g0, g1, g2⟩, he, hR2⟩ := hs u v hR
  refine lv_aload_n S.1 S.2.1 dL_law_702 rfl (lv_at hl 1 rfl) ?_
  refine xli (rest := []) S hK hE hA hw hg hdj.cm yfX10_ask (c_k_ask l D a Y ts u h0 h1 h2) 0 rfl rfl mlL_97 rfl rfl hl.1 ⟨rfl, rfl, Nat.le_of_ble_eq_true rfl, Nat.le_of_ble_eq_true rfl, Nat.le_of_ble_eq_true rfl, Nat.le_of_ble_eq_true rfl, Nat.le_of_ble_eq_true rfl⟩ dL_law_703 (fun H locs hw hg => ?_)
  refine lv_aload_n S.1 S.2.1 dL_law_706 rfl (lv_at hl 2 rfl) ?_
  refine xli (rest := [.int (k_ask u)]) S hK hE hA hg hw hdj.mc yfX11_ask (c_m_ask l D b2 Y ts v g0 g1 g2) 0 rfl rfl mlL_100 rfl rfl hl.1 ⟨rfl, rfl, Nat.le_of_ble_eq_true rfl, Nat.le_of_ble_eq_true rfl, Nat.le_of_ble_eq_true rfl, Nat.le_of_ble_eq_true rfl, Nat.le_of_ble_eq_true rfl⟩ dL_law_707 (fun H locs hg hw => ?_)
  refine lv_icmp_eq (tgt := 831) S.1 S.2.1 dL_law_710 (by decide) (fun hc => kk _ _ H locs ls hR2 hl hw hg) (fun hc => absurd he hc)
set_option maxHeartbeats 4000000 in
set_option maxRecDepth 100000 in
theorem lc_mark (Rel : xU → xU → Prop) (hs : St_mark Rel) {p : Program} {l : Launch} {e : Env} {s : State} {m : MethodId} {below : List Frame} {meth : Method} {c : Code} {D : va_G} {a b2 : Nat → Nat} {Y : Nat → ClassId} {ts : Nat → Nat} {b L : Nat} {xs : Nat → Int32} (hL : L ≤ 256) (S : CallFix p m c code 4 s #[Value.ref b] xT RL) (hr : meth.sig.returnType = ret) (hlk : meth.locks = false) (hX : va_X b L xs s s.heap) (hbl : b < s.heap.size) (hK : va_K D vwCl (xty Y) s) (hE : xE ts (fun q : Nat => s.heap.size ≤ q) s) (hdj : djC a b2) (x3 : Int32) (hx0 : 0 ≤ x3.toInt) (hx1 : x3.toInt + 4 ≤ L)
    (kk : ∀ (u v : xU) (H : Heap) (locs : List Loc) (ls : Array Slot), Rel u v → lv_has ls 4 [(0, .ref b), (1, .ref (a 0)), (2, .ref (b2 0)), (3, .int x3)] → xw D (wC a Y) (fun q : Nat => s.heap.size ≤ q) s.heap H locs u → xw D (wM b2 Y) (fun q : Nat => s.heap.size ≤ q) s.heap H locs v → W p l e room_1 s m #[Value.ref b] below meth c H locs 600000 7302250 (lw_Z below #[Value.ref b] s) (F0 m 831 ls []))
    (u v : xU) (H : Heap) (locs : List Loc) (ls : Array Slot) (hR : Rel u v) (hl : lv_has ls 4 [(0, .ref b), (1, .ref (a 0)), (2, .ref (b2 0)), (3, .int x3)]) (hw : xw D (wC a Y) (fun q : Nat => s.heap.size ≤ q) s.heap H locs u) (hg : xw D (wM b2 Y) (fun q : Nat => s.heap.size ≤ q) s.heap H locs v) : W p l e room_1 s m #[Value.ref b] below meth c H locs 600000 7302250 (lw_Z below #[Value.ref b] s) (F0 m 715 ls []) := by
  have hA : ∀ q : Nat, s.heap.size ≤ q → (fun q : Nat => s.heap.size ≤ q) q := fun _ h => h
  have hbA : ¬ (fun q : Nat => s.heap.size ≤ q) b := Nat.not_le.mpr hbl
  obtain ⟨⟨h0, h1⟩, ⟨g0, g1⟩, he, hR2⟩ := hs u v (xs (x3 + 1).toNatClampNeg) (xs (x3 + 2).toNatClampNeg) hR
  have e1 : (x3 + 1).toInt = x3.toInt + 1 := xadd rfl rfl (by have : (1 : Int32).toInt = 1 := rfl; omega) (by have : (1 : Int32).toInt = 1 := rfl; omega)
  have e2 : (x3 + 2).toInt = x3.toInt + 2 := xadd rfl rfl (by have : (2 : Int32).toInt = 2 := rfl; omega) (by have : (2 : Int32).toInt = 2 := rfl; omega)
  refine lv_aload_n S.1 S.2.1 dL_law_715 rfl (lv_at hl 1 rfl) ?_
  refine lv_aload_n S.1 S.2.1 dL_law_716 rfl (lv_at hl 0 rfl) ?_
  refine lv_iload_n S.1 S.2.1 dL_law_717 rfl (lv_at hl 3 rfl) ?_
  refine lv_iconst (v := 1) S.1 S.2.1 dL_law_718 (by decide) ?_
  refine lv_iadd S.1 S.2.1 dL_law_719 ?_
  refine va_sld S.1 S.2.1 hX hbl hbA hw.2.2 (xvi e1 (by omega) (by omega)) dL_law_720 ?_
  refine lv_aload_n S.1 S.2.1 dL_law_721 rfl (lv_at hl 0 rfl) ?_
  refine lv_iload_n S.1 S.2.1 dL_law_722 rfl (lv_at hl 3 rfl) ?_
  refine lv_iconst (v := 2) S.1 S.2.1 dL_law_723 (by decide) ?_
  refine lv_iadd S.1 S.2.1 dL_law_724 ?_
  refine va_sld S.1 S.2.1 hX hbl hbA hw.2.2 (xvi e2 (by omega) (by omega)) dL_law_725 ?_
  refine xli (rest := []) S hK hE hA hw hg hdj.cm yfX10_mark (c_k_mark l D a Y ts u (xs (x3 + 1).toNatClampNeg) (xs (x3 + 2).toNatClampNeg) h0 h1) 0 rfl rfl mlL_101 rfl rfl hl.1 ⟨rfl, rfl, Nat.le_of_ble_eq_true rfl, Nat.le_of_ble_eq_true rfl, Nat.le_of_ble_eq_true rfl, Nat.le_of_ble_eq_true rfl, Nat.le_of_ble_eq_true rfl⟩ dL_law_726 (fun H locs hw hg => ?_)
  refine lv_aload_n S.1 S.2.1 dL_law_729 rfl (lv_at hl 2 rfl) ?_
  refine lv_aload_n S.1 S.2.1 dL_law_730 rfl (lv_at hl 0 rfl) ?_
  refine lv_iload_n S.1 S.2.1 dL_law_731 rfl (lv_at hl 3 rfl) ?_
  refine lv_iconst (v := 1) S.1 S.2.1 dL_law_732 (by decide) ?_
  refine lv_iadd S.1 S.2.1 dL_law_733 ?_
  refine va_sld S.1 S.2.1 hX hbl hbA hw.2.2 (xvi e1 (by omega) (by omega)) dL_law_734 ?_
  refine lv_aload_n S.1 S.2.1 dL_law_735 rfl (lv_at hl 0 rfl) ?_
  refine lv_iload_n S.1 S.2.1 dL_law_736 rfl (lv_at hl 3 rfl) ?_
  refine lv_iconst (v := 2) S.1 S.2.1 dL_law_737 (by decide) ?_
  refine lv_iadd S.1 S.2.1 dL_law_738 ?_
  refine va_sld S.1 S.2.1 hX hbl hbA hw.2.2 (xvi e2 (by omega) (by omega)) dL_law_739 ?_
  refine xli (rest := [.int (k_mark u (xs (x3 + 1).toNatClampNeg) (xs (x3 + 2).toNatClampNeg)).1]) S hK hE hA hg hw hdj.mc yfX11_mark (c_m_mark l D b2 Y ts v (xs (x3 + 1).toNatClampNeg) (xs (x3 + 2).toNatClampNeg) g0 g1) 0 rfl rfl mlL_104 rfl rfl hl.1 ⟨rfl, rfl, Nat.le_of_ble_eq_true rfl, Nat.le_of_ble_eq_true rfl, Nat.le_of_ble_eq_true rfl, Nat.le_of_ble_eq_true rfl, Nat.le_of_ble_eq_true rfl⟩ dL_law_740 (fun H locs hg hw => ?_)
  refine lv_icmp_eq (tgt := 831) S.1 S.2.1 dL_law_743 (by decide) (fun hc => kk _ _ H locs ls hR2 hl hw hg) (fun hc => absurd he hc)
set_option maxHeartbeats 4000000 in
set_option maxRecDepth 100000 in
theorem lc_keep (Rel : xU → xU → Prop) (hs : St_keep Rel) {p : Program} {l : Launch} {e : Env} {s : State} {m : MethodId} {below : List Frame} {meth : Method} {c : Code} {D : va_G} {a b2 : Nat → Nat} {Y : Nat → ClassId} {ts : Nat → Nat} {b L : Nat} {xs : Nat → Int32} (hL : L ≤ 256) (S : CallFix p m c code 4 s #[Value.ref b] xT RL) (hr : meth.sig.returnType = ret) (hlk : meth.locks = false) (hX : va_X b L xs s s.heap) (hbl : b < s.heap.size) (hK : va_K D vwCl (xty Y) s) (hE : xE ts (fun q : Nat => s.heap.size ≤ q) s) (hdj : djC a b2) (x3 : Int32) (hx0 : 0 ≤ x3.toInt) (hx1 : x3.toInt + 4 ≤ L)
    (kk : ∀ (u v : xU) (H : Heap) (locs : List Loc) (ls : Array Slot), Rel u v → lv_has ls 4 [(0, .ref b), (1, .ref (a 0)), (2, .ref (b2 0)), (3, .int x3)] → xw D (wC a Y) (fun q : Nat => s.heap.size ≤ q) s.heap H locs u → xw D (wM b2 Y) (fun q : Nat => s.heap.size ≤ q) s.heap H locs v → W p l e room_1 s m #[Value.ref b] below meth c H locs 600000 7302250 (lw_Z below #[Value.ref b] s) (F0 m 831 ls []))
    (u v : xU) (H : Heap) (locs : List Loc) (ls : Array Slot) (hR : Rel u v) (hl : lv_has ls 4 [(0, .ref b), (1, .ref (a 0)), (2, .ref (b2 0)), (3, .int x3)]) (hw : xw D (wC a Y) (fun q : Nat => s.heap.size ≤ q) s.heap H locs u) (hg : xw D (wM b2 Y) (fun q : Nat => s.heap.size ≤ q) s.heap H locs v) : W p l e room_1 s m #[Value.ref b] below meth c H locs 600000 7302250 (lw_Z below #[Value.ref b] s) (F0 m 748 ls []) := by
  have hA : ∀ q : Nat, s.heap.size ≤ q → (fun q : Nat => s.heap.size ≤ q) q := fun _ h => h
  have hbA : ¬ (fun q : Nat => s.heap.size ≤ q) b := Nat.not_le.mpr hbl
  obtain ⟨h0, g0, he, hR2⟩ := hs u v (xs (x3 + 1).toNatClampNeg) hR
  have e1 : (x3 + 1).toInt = x3.toInt + 1 := xadd rfl rfl (by have : (1 : Int32).toInt = 1 := rfl; omega) (by have : (1 : Int32).toInt = 1 := rfl; omega)
  refine lv_aload_n S.1 S.2.1 dL_law_748 rfl (lv_at hl 1 rfl) ?_
  refine lv_aload_n S.1 S.2.1 dL_law_749 rfl (lv_at hl 0 rfl) ?_
  refine lv_iload_n S.1 S.2.1 dL_law_750 rfl (lv_at hl 3 rfl) ?_
  refine lv_iconst (v := 1) S.1 S.2.1 dL_law_751 (by decide) ?_
  refine lv_iadd S.1 S.2.1 dL_law_752 ?_
  refine va_sld S.1 S.2.1 hX hbl hbA hw.2.2 (xvi e1 (by omega) (by omega)) dL_law_753 ?_
  refine xli (rest := []) S hK hE hA hw hg hdj.cm yfX10_keep (c_k_keep l D a Y ts u (xs (x3 + 1).toNatClampNeg)) 0 rfl rfl mlL_105 rfl rfl hl.1 ⟨rfl, rfl, Nat.le_of_ble_eq_true rfl, Nat.le_of_ble_eq_true rfl, Nat.le_of_ble_eq_true rfl, Nat.le_of_ble_eq_true rfl, Nat.le_of_ble_eq_true rfl⟩ dL_law_754 (fun H locs hw hg => ?_)
  refine lv_aload_n S.1 S.2.1 dL_law_757 rfl (lv_at hl 2 rfl) ?_
  refine lv_aload_n S.1 S.2.1 dL_law_758 rfl (lv_at hl 0 rfl) ?_
  refine lv_iload_n S.1 S.2.1 dL_law_759 rfl (lv_at hl 3 rfl) ?_
  refine lv_iconst (v := 1) S.1 S.2.1 dL_law_760 (by decide) ?_
  refine lv_iadd S.1 S.2.1 dL_law_761 ?_
  refine va_sld S.1 S.2.1 hX hbl hbA hw.2.2 (xvi e1 (by omega) (by omega)) dL_law_762 ?_
  refine xli (rest := [.int (k_keep u (xs (x3 + 1).toNatClampNeg)).1]) S hK hE hA hg hw hdj.mc yfX11_keep (c_m_keep l D b2 Y ts v (xs (x3 + 1).toNatClampNeg)) 0 rfl rfl mlL_108 rfl rfl hl.1 ⟨rfl, rfl, Nat.le_of_ble_eq_true rfl, Nat.le_of_ble_eq_true rfl, Nat.le_of_ble_eq_true rfl, Nat.le_of_ble_eq_true rfl, Nat.le_of_ble_eq_true rfl⟩ dL_law_763 (fun H locs hg hw => ?_)
  refine lv_icmp_eq (tgt := 831) S.1 S.2.1 dL_law_766 (by decide) (fun hc => kk _ _ H locs ls hR2 hl hw hg) (fun hc => absurd he hc)
set_option maxHeartbeats 4000000 in
set_option maxRecDepth 100000 in
theorem lc_back (Rel : xU → xU → Prop) (hs : St_back Rel) {p : Program} {l : Launch} {e : Env} {s : State} {m : MethodId} {below : List Frame} {meth : Method} {c : Code} {D : va_G} {a b2 : Nat → Nat} {Y : Nat → ClassId} {ts : Nat → Nat} {b L : Nat} {xs : Nat → Int32} (hL : L ≤ 256) (S : CallFix p m c code 4 s #[Value.ref b] xT RL) (hr : meth.sig.returnType = ret) (hlk : meth.locks = false) (hX : va_X b L xs s s.heap) (hbl : b < s.heap.size) (hK : va_K D vwCl (xty Y) s) (hE : xE ts (fun q : Nat => s.heap.size ≤ q) s) (hdj : djC a b2) (x3 : Int32) (hx0 : 0 ≤ x3.toInt) (hx1 : x3.toInt + 4 ≤ L)
    (kk : ∀ (u v : xU) (H : Heap) (locs : List Loc) (ls : Array Slot), Rel u v → lv_has ls 4 [(0, .ref b), (1, .ref (a 0)), (2, .ref (b2 0)), (3, .int x3)] → xw D (wC a Y) (fun q : Nat => s.heap.size ≤ q) s.heap H locs u → xw D (wM b2 Y) (fun q : Nat => s.heap.size ≤ q) s.heap H locs v → W p l e room_1 s m #[Value.ref b] below meth c H locs 600000 7302250 (lw_Z below #[Value.ref b] s) (F0 m 831 ls []))
    (u v : xU) (H : Heap) (locs : List Loc) (ls : Array Slot) (hR : Rel u v) (hl : lv_has ls 4 [(0, .ref b), (1, .ref (a 0)), (2, .ref (b2 0)), (3, .int x3)]) (hw : xw D (wC a Y) (fun q : Nat => s.heap.size ≤ q) s.heap H locs u) (hg : xw D (wM b2 Y) (fun q : Nat => s.heap.size ≤ q) s.heap H locs v) : W p l e room_1 s m #[Value.ref b] below meth c H locs 600000 7302250 (lw_Z below #[Value.ref b] s) (F0 m 771 ls []) := by
  have hA : ∀ q : Nat, s.heap.size ≤ q → (fun q : Nat => s.heap.size ≤ q) q := fun _ h => h
  have hbA : ¬ (fun q : Nat => s.heap.size ≤ q) b := Nat.not_le.mpr hbl
  obtain ⟨h0, g0, he, hR2⟩ := hs u v (xs (x3 + 1).toNatClampNeg) hR
  have e1 : (x3 + 1).toInt = x3.toInt + 1 := xadd rfl rfl (by have : (1 : Int32).toInt = 1 := rfl; omega) (by have : (1 : Int32).toInt = 1 := rfl; omega)
  refine lv_aload_n S.1 S.2.1 dL_law_771 rfl (lv_at hl 1 rfl) ?_
  refine lv_aload_n S.1 S.2.1 dL_law_772 rfl (lv_at hl 0 rfl) ?_
  refine lv_iload_n S.1 S.2.1 dL_law_773 rfl (lv_at hl 3 rfl) ?_
  refine lv_iconst (v := 1) S.1 S.2.1 dL_law_774 (by decide) ?_
  refine lv_iadd S.1 S.2.1 dL_law_775 ?_
  refine va_sld S.1 S.2.1 hX hbl hbA hw.2.2 (xvi e1 (by omega) (by omega)) dL_law_776 ?_
  refine xli (rest := []) S hK hE hA hw hg hdj.cm yfX10_back (c_k_back l D a Y ts u (xs (x3 + 1).toNatClampNeg)) 0 rfl rfl mlL_109 rfl rfl hl.1 ⟨rfl, rfl, Nat.le_of_ble_eq_true rfl, Nat.le_of_ble_eq_true rfl, Nat.le_of_ble_eq_true rfl, Nat.le_of_ble_eq_true rfl, Nat.le_of_ble_eq_true rfl⟩ dL_law_777 (fun H locs hw hg => ?_)
  refine lv_aload_n S.1 S.2.1 dL_law_780 rfl (lv_at hl 2 rfl) ?_
  refine lv_aload_n S.1 S.2.1 dL_law_781 rfl (lv_at hl 0 rfl) ?_
  refine lv_iload_n S.1 S.2.1 dL_law_782 rfl (lv_at hl 3 rfl) ?_
  refine lv_iconst (v := 1) S.1 S.2.1 dL_law_783 (by decide) ?_
  refine lv_iadd S.1 S.2.1 dL_law_784 ?_
  refine va_sld S.1 S.2.1 hX hbl hbA hw.2.2 (xvi e1 (by omega) (by omega)) dL_law_785 ?_
  refine xli (rest := [.int (k_back u (xs (x3 + 1).toNatClampNeg)).1]) S hK hE hA hg hw hdj.mc yfX11_back (c_m_back l D b2 Y ts v (xs (x3 + 1).toNatClampNeg)) 0 rfl rfl mlL_112 rfl rfl hl.1 ⟨rfl, rfl, Nat.le_of_ble_eq_true rfl, Nat.le_of_ble_eq_true rfl, Nat.le_of_ble_eq_true rfl, Nat.le_of_ble_eq_true rfl, Nat.le_of_ble_eq_true rfl⟩ dL_law_786 (fun H locs hg hw => ?_)
  refine lv_icmp_eq (tgt := 831) S.1 S.2.1 dL_law_789 (by decide) (fun hc => kk _ _ H locs ls hR2 hl hw hg) (fun hc => absurd he hc)
set_option maxHeartbeats 4000000 in
set_option maxRecDepth 100000 in
theorem lc_count (Rel : xU → xU → Prop) (hs : St_count Rel) {p : Program} {l : Launch} {e : Env} {s : State} {m : MethodId} {below : List Frame} {meth : Method} {c : Code} {D : va_G} {a b2 : Nat → Nat} {Y : Nat → ClassId} {ts : Nat → Nat} {b L : Nat} {xs : Nat → Int32} (hL : L ≤ 256) (S : CallFix p m c code 4 s #[Value.ref b] xT RL) (hr : meth.sig.returnType = ret) (hlk : meth.locks = false) (hX : va_X b L xs s s.heap) (hbl : b < s.heap.size) (hK : va_K D vwCl (xty Y) s) (hE : xE ts (fun q : Nat => s.heap.size ≤ q) s) (hdj : djC a b2) (x3 : Int32) (hx0 : 0 ≤ x3.toInt) (hx1 : x3.toInt + 4 ≤ L)
    (kk : ∀ (u v : xU) (H : Heap) (locs : List Loc) (ls : Array Slot), Rel u v → lv_has ls 4 [(0, .ref b), (1, .ref (a 0)), (2, .ref (b2 0)), (3, .int x3)] → xw D (wC a Y) (fun q : Nat => s.heap.size ≤ q) s.heap H locs u → xw D (wM b2 Y) (fun q : Nat => s.heap.size ≤ q) s.heap H locs v → W p l e room_1 s m #[Value.ref b] below meth c H locs 600000 7302250 (lw_Z below #[Value.ref b] s) (F0 m 831 ls []))
    (u v : xU) (H : Heap) (locs : List Loc) (ls : Array Slot) (hR : Rel u v) (hl : lv_has ls 4 [(0, .ref b), (1, .ref (a 0)), (2, .ref (b2 0)), (3, .int x3)]) (hw : xw D (wC a Y) (fun q : Nat => s.heap.size ≤ q) s.heap H locs u) (hg : xw D (wM b2 Y) (fun q : Nat => s.heap.size ≤ q) s.heap H locs v) : W p l e room_1 s m #[Value.ref b] below meth c H locs 600000 7302250 (lw_Z below #[Value.ref b] s) (F0 m 794 ls []) := by
  have hA : ∀ q : Nat, s.heap.size ≤ q → (fun q : Nat => s.heap.size ≤ q) q := fun _ h => h
  have hbA : ¬ (fun q : Nat => s.heap.size ≤ q) b := Nat.not_le.mpr hbl
  obtain ⟨h0, g0, he, hR2⟩ := hs u v (xs (x3 + 1).toNatClampNeg) hR
  have e1 : (x3 + 1).toInt = x3.toInt + 1 := xadd rfl rfl (by have : (1 : Int32).toInt = 1 := rfl; omega) (by have : (1 : Int32).toInt = 1 := rfl; omega)
  refine lv_aload_n S.1 S.2.1 dL_law_794 rfl (lv_at hl 1 rfl) ?_
  refine lv_aload_n S.1 S.2.1 dL_law_795 rfl (lv_at hl 0 rfl) ?_
  refine lv_iload_n S.1 S.2.1 dL_law_796 rfl (lv_at hl 3 rfl) ?_
  refine lv_iconst (v := 1) S.1 S.2.1 dL_law_797 (by decide) ?_
  refine lv_iadd S.1 S.2.1 dL_law_798 ?_
  refine va_sld S.1 S.2.1 hX hbl hbA hw.2.2 (xvi e1 (by omega) (by omega)) dL_law_799 ?_
  refine xli (rest := []) S hK hE hA hw hg hdj.cm yfX10_count (c_k_count l D a Y ts u (xs (x3 + 1).toNatClampNeg)) 0 rfl rfl mlL_113 rfl rfl hl.1 ⟨rfl, rfl, Nat.le_of_ble_eq_true rfl, Nat.le_of_ble_eq_true rfl, Nat.le_of_ble_eq_true rfl, Nat.le_of_ble_eq_true rfl, Nat.le_of_ble_eq_true rfl⟩ dL_law_800 (fun H locs hw hg => ?_)
  refine lv_aload_n S.1 S.2.1 dL_law_803 rfl (lv_at hl 2 rfl) ?_
  refine lv_aload_n S.1 S.2.1 dL_law_804 rfl (lv_at hl 0 rfl) ?_
  refine lv_iload_n S.1 S.2.1 dL_law_805 rfl (lv_at hl 3 rfl) ?_
  refine lv_iconst (v := 1) S.1 S.2.1 dL_law_806 (by decide) ?_
  refine lv_iadd S.1 S.2.1 dL_law_807 ?_
  refine va_sld S.1 S.2.1 hX hbl hbA hw.2.2 (xvi e1 (by omega) (by omega)) dL_law_808 ?_
  refine xli (rest := [.int (k_count u (xs (x3 + 1).toNatClampNeg))]) S hK hE hA hg hw hdj.mc yfX11_count (c_m_count l D b2 Y ts v (xs (x3 + 1).toNatClampNeg)) 0 rfl rfl mlL_116 rfl rfl hl.1 ⟨rfl, rfl, Nat.le_of_ble_eq_true rfl, Nat.le_of_ble_eq_true rfl, Nat.le_of_ble_eq_true rfl, Nat.le_of_ble_eq_true rfl, Nat.le_of_ble_eq_true rfl⟩ dL_law_809 (fun H locs hg hw => ?_)
  refine lv_icmp_eq (tgt := 831) S.1 S.2.1 dL_law_812 (by decide) (fun hc => kk _ _ H locs ls hR2 hl hw hg) (fun hc => absurd he hc)
set_option maxHeartbeats 4000000 in
set_option maxRecDepth 100000 in
theorem lc_trace (Rel : xU → xU → Prop) (hs : St_trace Rel) {p : Program} {l : Launch} {e : Env} {s : State} {m : MethodId} {below : List Frame} {meth : Method} {c : Code} {D : va_G} {a b2 : Nat → Nat} {Y : Nat → ClassId} {ts : Nat → Nat} {b L : Nat} {xs : Nat → Int32} (hL : L ≤ 256) (S : CallFix p m c code 4 s #[Value.ref b] xT RL) (hr : meth.sig.returnType = ret) (hlk : meth.locks = false) (hX : va_X b L xs s s.heap) (hbl : b < s.heap.size) (hK : va_K D vwCl (xty Y) s) (hE : xE ts (fun q : Nat => s.heap.size ≤ q) s) (hdj : djC a b2) (x3 : Int32) (hx0 : 0 ≤ x3.toInt) (hx1 : x3.toInt + 4 ≤ L)
    (kk : ∀ (u v : xU) (H : Heap) (locs : List Loc) (ls : Array Slot), Rel u v → lv_has ls 4 [(0, .ref b), (1, .ref (a 0)), (2, .ref (b2 0)), (3, .int x3)] → xw D (wC a Y) (fun q : Nat => s.heap.size ≤ q) s.heap H locs u → xw D (wM b2 Y) (fun q : Nat => s.heap.size ≤ q) s.heap H locs v → W p l e room_1 s m #[Value.ref b] below meth c H locs 600000 7302250 (lw_Z below #[Value.ref b] s) (F0 m 831 ls []))
    (u v : xU) (H : Heap) (locs : List Loc) (ls : Array Slot) (hR : Rel u v) (hl : lv_has ls 4 [(0, .ref b), (1, .ref (a 0)), (2, .ref (b2 0)), (3, .int x3)]) (hw : xw D (wC a Y) (fun q : Nat => s.heap.size ≤ q) s.heap H locs u) (hg : xw D (wM b2 Y) (fun q : Nat => s.heap.size ≤ q) s.heap H locs v) : W p l e room_1 s m #[Value.ref b] below meth c H locs 600000 7302250 (lw_Z below #[Value.ref b] s) (F0 m 817 ls []) := by
  have hA : ∀ q : Nat, s.heap.size ≤ q → (fun q : Nat => s.heap.size ≤ q) q := fun _ h => h
  have hbA : ¬ (fun q : Nat => s.heap.size ≤ q) b := Nat.not_le.mpr hbl
  obtain ⟨h0, g0, he, hR2⟩ := hs u v hR
  refine lv_aload_n S.1 S.2.1 dL_law_817 rfl (lv_at hl 1 rfl) ?_
  refine xll (rest := []) S hK hE hA hw hg hdj.cm yfX10_trace (c_k_trace l D a Y ts u) 0 rfl rfl mlL_117 rfl rfl hl.1 ⟨rfl, rfl, Nat.le_of_ble_eq_true rfl, Nat.le_of_ble_eq_true rfl, Nat.le_of_ble_eq_true rfl, Nat.le_of_ble_eq_true rfl, Nat.le_of_ble_eq_true rfl⟩ dL_law_818 (fun H locs hw hg => ?_)
  refine lv_aload_n S.1 S.2.1 dL_law_821 rfl (lv_at hl 2 rfl) ?_
  refine xll (rest := [.long (k_trace u)]) S hK hE hA hg hw hdj.mc yfX11_trace (c_m_trace l D b2 Y ts v) 0 rfl rfl mlL_121 rfl rfl hl.1 ⟨rfl, rfl, Nat.le_of_ble_eq_true rfl, Nat.le_of_ble_eq_true rfl, Nat.le_of_ble_eq_true rfl, Nat.le_of_ble_eq_true rfl, Nat.le_of_ble_eq_true rfl⟩ dL_law_822 (fun H locs hg hw => ?_)
  refine W.lcmp S.1 S.2.1 dL_law_825 ?_
  refine lv_if_eq (tgt := 831) S.1 S.2.1 dL_law_826 (by decide) (fun hc => kk _ _ H locs ls hR2 hl hw hg) (fun hc => absurd (by rw [he]; simp [lg_cmp]) hc)
