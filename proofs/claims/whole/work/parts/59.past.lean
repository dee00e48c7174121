/-! ===== PURE: what may be undone, images ===== -/
theorem cl0 : ((0 : Int32)).toNatClampNeg = 0 := rfl
theorem cl6 : ((6 : Int32)).toNatClampNeg = 6 := rfl
theorem cl48 : ((48 : Int32)).toNatClampNeg = 48 := rfl
theorem cl740 : ((740 : Int32)).toNatClampNeg = 740 := rfl
theorem wrF (c21 c22 c23 c24 c25 c26 rows : Nat → Int32) (P j : Nat) : upd (upd (va_cpy c26 (va_cpy c25 (va_cpy c24 (va_cpy c23 (va_cpy c22 rows 0 P 48) 0 (P + 48) 6) 0 (P + 54) 6) 0 (P + 60) 6) 0 (P + 66) 6) (P + 72) (c21 0)) (P + 73) (c21 1) j = if P ≤ j ∧ j < P + 74 then mo c21 c22 c23 c24 c25 c26 (j - P) else rows j := by
  by_cases h : P ≤ j ∧ j < P + 74
  · obtain ⟨i, rfl⟩ : ∃ i, j = P + i := ⟨j - P, by omega⟩
    have hi : i < 74 := by omega
    rw [if_pos h, Nat.add_sub_cancel_left]
    unfold upd va_cpy mo
    by_cases h1 : i < 48
    · rw [if_neg (by omega), if_neg (by omega), if_neg (by omega), if_neg (by omega), if_neg (by omega), if_neg (by omega), if_pos (by omega), if_pos h1]; congr 1; omega
    rw [if_neg h1]
    by_cases h2 : i < 54
    · rw [if_neg (by omega), if_neg (by omega), if_neg (by omega), if_neg (by omega), if_neg (by omega), if_pos (by omega), if_pos h2]; congr 1; omega
    rw [if_neg h2]
    by_cases h3 : i < 60
    · rw [if_neg (by omega), if_neg (by omega), if_neg (by omega), if_neg (by omega), if_pos (by omega), if_pos h3]; congr 1; omega
    rw [if_neg h3]
    by_cases h4 : i < 66
    · rw [if_neg (by omega), if_neg (by omega), if_neg (by omega), if_pos (by omega), if_pos h4]; congr 1; omega
    rw [if_neg h4]
    by_cases h5 : i < 72
    · rw [if_neg (by omega), if_neg (by omega), if_pos (by omega), if_pos h5]; congr 1; omega
    rw [if_neg h5]
    by_cases h6 : i = 72
    · rw [if_neg (by omega), if_pos (by omega), if_pos h6]
    · rw [if_pos (by omega), if_neg h6]
  · rw [if_neg h]
    unfold upd va_cpy
    rw [if_neg (by omega), if_neg (by omega), if_neg (by omega), if_neg (by omega), if_neg (by omega), if_neg (by omega), if_neg (by omega)]
theorem rdF (c21 c22 c23 c24 c25 c26 rows : Nat → Int32) (P : Nat) {j : Nat} (hj : j < 74) : mo (upd (upd c21 0 (rows (P + 72))) 1 (rows (P + 73))) (va_cpy rows c22 P 0 48) (va_cpy rows c23 (P + 48) 0 6) (va_cpy rows c24 (P + 54) 0 6) (va_cpy rows c25 (P + 60) 0 6) (va_cpy rows c26 (P + 66) 0 6) j = rows (P + j) := by
  unfold upd va_cpy mo
  by_cases h1 : j < 48
  · rw [if_pos h1]; refine (if_pos (by omega)).trans (congrArg rows (by omega))
  rw [if_neg h1]
  by_cases h2 : j < 54
  · rw [if_pos h2]; refine (if_pos (by omega)).trans (congrArg rows (by omega))
  rw [if_neg h2]
  by_cases h3 : j < 60
  · rw [if_pos h3]; refine (if_pos (by omega)).trans (congrArg rows (by omega))
  rw [if_neg h3]
  by_cases h4 : j < 66
  · rw [if_pos h4]; refine (if_pos (by omega)).trans (congrArg rows (by omega))
  rw [if_neg h4]
  by_cases h5 : j < 72
  · rw [if_pos h5]; refine (if_pos (by omega)).trans (congrArg rows (by omega))
  rw [if_neg h5]
  by_cases h6 : j = 72
  · rw [if_pos h6, h6]; rfl
  · rw [if_neg h6, show j = 73 by omega]; rfl
theorem idx6 {p : Int32} {P : Nat} (hp : p.toInt = P) (hP : P ≤ 666) : p.toNatClampNeg = P ∧ (p + 48).toNatClampNeg = P + 48 ∧ (p + 48 + 6).toNatClampNeg = P + 54 ∧ (p + 48 + 6 + 6).toNatClampNeg = P + 60 ∧ (p + 48 + 6 + 6 + 6).toNatClampNeg = P + 66 ∧ (p + 48 + 6 + 6 + 6 + 6).toNatClampNeg = P + 72 ∧ (p + 48 + 6 + 6 + 6 + 6 + 1).toNatClampNeg = P + 73 := by
  have e1 : (p + 48).toInt = P + 48 := xadd hp rfl (by omega) (by omega)
  have e2 : (p + 48 + 6).toInt = P + 54 := xadd e1 (b := 6) rfl (by omega) (by omega)
  have e3 : (p + 48 + 6 + 6).toInt = P + 60 := xadd e2 (b := 6) rfl (by omega) (by omega)
  have e4 : (p + 48 + 6 + 6 + 6).toInt = P + 66 := xadd e3 (b := 6) rfl (by omega) (by omega)
  have e5 : (p + 48 + 6 + 6 + 6 + 6).toInt = P + 72 := xadd e4 (b := 6) rfl (by omega) (by omega)
  have e6 : (p + 48 + 6 + 6 + 6 + 6 + 1).toInt = P + 73 := xadd e5 (b := 1) rfl (by omega) (by omega)
  refine ⟨?_, ?_, ?_, ?_, ?_, ?_, ?_⟩
  · show p.toInt.toNat = _; omega
  · show (p + 48).toInt.toNat = _; omega
  · show (p + 48 + 6).toInt.toNat = _; omega
  · show (p + 48 + 6 + 6).toInt.toNat = _; omega
  · show (p + 48 + 6 + 6 + 6).toInt.toNat = _; omega
  · show (p + 48 + 6 + 6 + 6 + 6).toInt.toNat = _; omega
  · show (p + 48 + 6 + 6 + 6 + 6 + 1).toInt.toNat = _; omega
def moU (u : xU) : Nat → Int32 := mo (u.1 21) (u.1 22) (u.1 23) (u.1 24) (u.1 25) (u.1 26)
theorem wr28 (u : xU) {p : Int32} {P : Nat} (hp : p.toInt = P) (hP : P ≤ 666) (j : Nat) : (k_Moment_writeTo_21_28 u p).1 28 j = if P ≤ j ∧ j < P + 74 then moU u (j - P) else u.1 28 j := by
  obtain ⟨e0, e1, e2, e3, e4, e5, e6⟩ := idx6 hp hP
  rw [k_Moment_writeTo_21_28_def]; unfold k_Moment_writeTo_21_28_b
  simp only [sp_eq, e0, e1, e2, e3, e4, e5, e6, cl0, cl6, cl48]
  exact wrF _ _ _ _ _ _ _ _ _
theorem wr28_2 (u : xU) (p : Int32) : (k_Moment_writeTo_21_28 u p).2 = u.2 := by rw [k_Moment_writeTo_21_28_def]; rfl
theorem wr31 (u : xU) (j : Nat) : (k_Moment_writeTo_21_31 u 0).1 31 j = if j < 74 then moU u j else u.1 31 j := by
  obtain ⟨e0, e1, e2, e3, e4, e5, e6⟩ := idx6 (p := 0) (P := 0) rfl (by decide)
  rw [k_Moment_writeTo_21_31_def]; unfold k_Moment_writeTo_21_31_b
  simp only [sp_eq, e0, e1, e2, e3, e4, e5, e6, cl0, cl6, cl48]
  rw [wrF (u.1 21) (u.1 22) (u.1 23) (u.1 24) (u.1 25) (u.1 26) (u.1 31) 0 j]
  by_cases h : j < 74
  · rw [if_pos (by omega), if_pos h]; rfl
  · rw [if_neg (by omega), if_neg h]
theorem wr35 (u : xU) (j : Nat) : (k_Moment_writeTo_21_35 u 0).1 35 j = if j < 74 then moU u j else u.1 35 j := by
  obtain ⟨e0, e1, e2, e3, e4, e5, e6⟩ := idx6 (p := 0) (P := 0) rfl (by decide)
  rw [k_Moment_writeTo_21_35_def]; unfold k_Moment_writeTo_21_35_b
  simp only [sp_eq, e0, e1, e2, e3, e4, e5, e6, cl0, cl6, cl48]
  rw [wrF (u.1 21) (u.1 22) (u.1 23) (u.1 24) (u.1 25) (u.1 26) (u.1 35) 0 j]
  by_cases h : j < 74
  · rw [if_pos (by omega), if_pos h]; rfl
  · rw [if_neg (by omega), if_neg h]
theorem wr31_o (u : xU) (p : Int32) {j : Nat} (h : j ≠ 31) : (k_Moment_writeTo_21_31 u p).1 j = u.1 j := by
  rw [k_Moment_writeTo_21_31_def]; unfold k_Moment_writeTo_21_31_b; simp only [sp_ne h]
theorem wr35_o (u : xU) (p : Int32) {j : Nat} (h : j ≠ 35) : (k_Moment_writeTo_21_35 u p).1 j = u.1 j := by
  rw [k_Moment_writeTo_21_35_def]; unfold k_Moment_writeTo_21_35_b; simp only [sp_ne h]
theorem wr31_2 (u : xU) (p : Int32) : (k_Moment_writeTo_21_31 u p).2 = u.2 := by rw [k_Moment_writeTo_21_31_def]; rfl
theorem wr35_2 (u : xU) (p : Int32) : (k_Moment_writeTo_21_35 u p).2 = u.2 := by rw [k_Moment_writeTo_21_35_def]; rfl
theorem rd28 (u : xU) {p : Int32} {P : Nat} (hp : p.toInt = P) (hP : P ≤ 666) {j : Nat} (hj : j < 74) : moU (k_Moment_readFrom_21_28 u p) j = u.1 28 (P + j) := by
  obtain ⟨e0, e1, e2, e3, e4, e5, e6⟩ := idx6 hp hP
  rw [k_Moment_readFrom_21_28_def]; unfold k_Moment_readFrom_21_28_b
  simp only [e0, e1, e2, e3, e4, e5, e6, cl0, cl6, cl48]
  exact rdF (u.1 21) (u.1 22) (u.1 23) (u.1 24) (u.1 25) (u.1 26) (u.1 28) P hj
theorem rd28_o (u : xU) (p : Int32) {j : Nat} (h : j < 21 ∨ 26 < j) : (k_Moment_readFrom_21_28 u p).1 j = u.1 j := by
  rw [k_Moment_readFrom_21_28_def]; unfold k_Moment_readFrom_21_28_b
  simp only [sp_ne (show j ≠ 21 by omega), sp_ne (show j ≠ 22 by omega), sp_ne (show j ≠ 23 by omega), sp_ne (show j ≠ 24 by omega), sp_ne (show j ≠ 25 by omega), sp_ne (show j ≠ 26 by omega)]
theorem rd28_2 (u : xU) (p : Int32) : (k_Moment_readFrom_21_28 u p).2 = u.2 := by rw [k_Moment_readFrom_21_28_def]; rfl
theorem rd31 (u : xU) {j : Nat} (hj : j < 74) : moU (k_Moment_readFrom_21_31 u 0) j = u.1 31 j := by
  obtain ⟨e0, e1, e2, e3, e4, e5, e6⟩ := idx6 (p := 0) (P := 0) rfl (by decide)
  rw [k_Moment_readFrom_21_31_def]; unfold k_Moment_readFrom_21_31_b
  simp only [e0, e1, e2, e3, e4, e5, e6, cl0, cl6, cl48]
  exact (rdF (u.1 21) (u.1 22) (u.1 23) (u.1 24) (u.1 25) (u.1 26) (u.1 31) 0 hj).trans (by rw [Nat.zero_add])
theorem rd31_o (u : xU) (p : Int32) {j : Nat} (h : j < 21 ∨ 26 < j) : (k_Moment_readFrom_21_31 u p).1 j = u.1 j := by
  rw [k_Moment_readFrom_21_31_def]; unfold k_Moment_readFrom_21_31_b
  simp only [sp_ne (show j ≠ 21 by omega), sp_ne (show j ≠ 22 by omega), sp_ne (show j ≠ 23 by omega), sp_ne (show j ≠ 24 by omega), sp_ne (show j ≠ 25 by omega), sp_ne (show j ≠ 26 by omega)]
theorem rd31_2 (u : xU) (p : Int32) : (k_Moment_readFrom_21_31 u p).2 = u.2 := by rw [k_Moment_readFrom_21_31_def]; rfl
theorem rd35 (u : xU) {j : Nat} (hj : j < 74) : moU (k_Moment_readFrom_21_35 u 0) j = u.1 35 j := by
  obtain ⟨e0, e1, e2, e3, e4, e5, e6⟩ := idx6 (p := 0) (P := 0) rfl (by decide)
  rw [k_Moment_readFrom_21_35_def]; unfold k_Moment_readFrom_21_35_b
  simp only [e0, e1, e2, e3, e4, e5, e6, cl0, cl6, cl48]
  exact (rdF (u.1 21) (u.1 22) (u.1 23) (u.1 24) (u.1 25) (u.1 26) (u.1 35) 0 hj).trans (by rw [Nat.zero_add])
theorem rd35_o (u : xU) (p : Int32) {j : Nat} (h : j < 21 ∨ 26 < j) : (k_Moment_readFrom_21_35 u p).1 j = u.1 j := by
  rw [k_Moment_readFrom_21_35_def]; unfold k_Moment_readFrom_21_35_b
  simp only [sp_ne (show j ≠ 21 by omega), sp_ne (show j ≠ 22 by omega), sp_ne (show j ≠ 23 by omega), sp_ne (show j ≠ 24 by omega), sp_ne (show j ≠ 25 by omega), sp_ne (show j ≠ 26 by omega)]
theorem rd35_2 (u : xU) (p : Int32) : (k_Moment_readFrom_21_35 u p).2 = u.2 := by rw [k_Moment_readFrom_21_35_def]; rfl
theorem RC.congr {T B : Int} {nd f g f' g' : Nat → Int32} {c : Nat} (hT : T ≤ 8) (hc : c < 6) (hf : ∀ j, j < 74 → f' j = f j) (hg : ∀ j, j < 74 → g' j = g j) (h : RC T B nd f g c) : RC T B nd f' g' c := by
  unfold RC at h ⊢
  rw [hf _ (by omega), hf _ (by omega), hf _ (by omega), hf _ (by omega), hg _ (by omega), hg _ (by omega), hg _ (by omega), hg _ (by omega)]
  refine ⟨h.1, h.2.1, h.2.2.1, h.2.2.2.1, h.2.2.2.2.1, h.2.2.2.2.2.1, h.2.2.2.2.2.2.1, h.2.2.2.2.2.2.2.1, fun t ht => ?_⟩
  rw [hf _ (by omega), hg _ (by omega)]
  exact h.2.2.2.2.2.2.2.2 t ht
theorem RM.congr {T C : Int} {nd f g f' g' : Nat → Int32} (hT : T ≤ 8) (hC : C ≤ 6) (hf : ∀ j, j < 74 → f' j = f j) (hg : ∀ j, j < 74 → g' j = g j) (h : RM T C nd f g) : RM T C nd f' g' := by
  unfold RM at h ⊢
  rw [hf 72 (by decide), hf 73 (by decide), hg 0 (by decide), hg 67 (by decide)]
  refine ⟨h.1, h.2.1, h.2.2.1, h.2.2.2.1, fun c hc => ?_, fun c hc => (h.2.2.2.2.2 c hc).congr hT (by omega) hf hg⟩
  rw [hf _ (by omega), hg _ (by omega)]
  exact h.2.2.2.2.1 c hc
theorem RP.congr {T C : Int} {nd rows rows' st st' : Nat → Int32} {nx hd : Int32} (hT : T ≤ 8) (hC : C ≤ 6) (hr : ∀ j, j < 740 → rows' j = rows j) (hs : ∀ j, 74 ≤ j → j < 815 → st' j = st j) (h : RP T C nd rows nx hd st) : RP T C nd rows' nx hd st' := by
  refine ⟨by rw [hs 74 (by decide) (by decide)]; exact h.1, h.2.1, h.2.2.1, fun i hi => (h.2.2.2 i hi).congr hT hC (fun j hj => hr _ ?_) (fun j hj => hs _ (by omega) ?_)⟩
  · have : (nx.toInt.toNat + 10 - hd.toInt.toNat + i) % 10 < 10 := Nat.mod_lt _ (by decide)
    omega
  · have := h.2.1.2
    omega
theorem RS.congr {T C : Int} {nd row row' rows rows' st st' : Nat → Int32} {nx hd : Int32} (hT : T ≤ 8) (hC : C ≤ 6) (hf : ∀ j, j < 74 → row' j = row j) (hr : ∀ j, j < 740 → rows' j = rows j) (hs : ∀ j, j < 815 → st' j = st j) (h : RS T C nd row rows nx hd st) : RS T C nd row' rows' nx hd st' :=
  ⟨h.1.congr hT hC hf (fun j hj => hs j (by omega)), h.2.congr hT hC hr (fun j _ hj => hs j hj)⟩
