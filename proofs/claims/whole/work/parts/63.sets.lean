/-! ===== PURE: a moment in the midst of a night; sets ===== -/
def MNi (T C : Int) (nd : Nat → Int32) (x : Int) (a21 a22 a23 a24 a25 a26 g : Nat → Int32) : Prop :=
  a21 0 = g 0 ∧ a21 1 = g 67 ∧ q32 (a21 0) 0 999 ∧ (0 ≤ (a21 1).toInt ∧ (a21 1).toInt < 2 ^ C.toNat) ∧ kK a26 ∧ mK g ∧
  (∀ c : Nat, (c : Int) < C → RCc T (9 * (a21 0).toInt + (if (c : Int) < x then 9 else 0)) nd a22 a23 a24 a25 a26 g c)
theorem MNi_RM {T C : Int} {nd a21 a22 a23 a24 a25 a26 g : Nat → Int32} (hT : T ≤ 8) (hC : C ≤ 6) (h : MNi T C nd 0 a21 a22 a23 a24 a25 a26 g) : RM T C nd (mo a21 a22 a23 a24 a25 a26) g :=
  RM_mk hT hC h.1 h.2.1 h.2.2.1 h.2.2.2.1 h.2.2.2.2.1 h.2.2.2.2.2.1 (fun c hc => by
    have := h.2.2.2.2.2.2 c hc
    rw [if_neg (by omega), Int.add_zero] at this
    exact this)
theorem RM_MNi {T C : Int} {nd a21 a22 a23 a24 a25 a26 g : Nat → Int32} (hT : T ≤ 8) (hC : C ≤ 6) (h : RM T C nd (mo a21 a22 a23 a24 a25 a26) g) : MNi T C nd 0 a21 a22 a23 a24 a25 a26 g :=
  ⟨h.1, h.2.1, h.2.2.1, h.2.2.2.1, fun i hi => by
    have := (h.2.2.2.2.1 i hi).1
    rw [mo_course _ _ _ _ _ _ hi] at this
    exact ⟨this.1, by omega⟩, fun i hi => (h.2.2.2.2.1 i hi).2, fun c hc => by
    rw [if_neg (by omega), Int.add_zero]; exact (RC_cell hT (by omega)).mp (h.2.2.2.2.2 c hc)⟩
theorem MNi.put {T C : Int} {nd : Nat → Int32} {x x' : Int} {a21 a22 a23 a24 a25 a26 g a21' a22' a23' a24' a25' a26' g' : Nat → Int32} {c : Nat}
    (hT : T ≤ 8) (hC : C ≤ 6) (h : MNi T C nd x a21 a22 a23 a24 a25 a26 g) (hc : c < 6) (hx : x ≤ x')
    (e21 : a21' 0 = a21 0) (g0 : g' 0 = g 0) (hb : a21' 1 = g' 67) (hbr : 0 ≤ (a21' 1).toInt ∧ (a21' 1).toInt < 2 ^ C.toNat)
    (o22 : ∀ j : Nat, (j < 8 * c ∨ 8 * c + 8 ≤ j) → a22' j = a22 j) (o23 : ∀ d : Nat, d ≠ c → a23' d = a23 d) (o24 : ∀ d : Nat, d ≠ c → a24' d = a24 d) (o25 : ∀ d : Nat, d ≠ c → a25' d = a25 d) (o26 : ∀ d : Nat, d ≠ c → a26' d = a26 d)
    (og : ∀ j : Nat, 0 < j → j < 74 → j ≠ 67 → j ≠ 49 + c → j ≠ 55 + c → j ≠ 61 + c → j ≠ 68 + c → (j < 1 + 8 * c ∨ 1 + 8 * c + 8 ≤ j) → g' j = g j)
    (k26 : -1 ≤ (a26' c).toInt ∧ (a26' c).toInt < 8) (m68 : (g' (68 + c)).toInt = -9 ∨ (0 ≤ (g' (68 + c)).toInt ∧ (g' (68 + c)).toInt < 8))
    (hrow : RCc T (9 * (a21 0).toInt + (if (c : Int) < x' then 9 else 0)) nd a22' a23' a24' a25' a26' g' c) : MNi T C nd x' a21' a22' a23' a24' a25' a26' g' := by
  obtain ⟨h1, h2, h3, h4, h5, h6, h7⟩ := h
  refine ⟨by rw [e21, g0]; exact h1, hb, by rw [e21]; exact h3, hbr, fun i hi => ?_, fun i hi => ?_, fun d hd => ?_⟩
  · by_cases hh : i = c
    · rw [hh]; exact k26
    · rw [o26 i hh]; exact h5 i hi
  · by_cases hh : i = c
    · rw [hh]; exact m68
    · rw [og (68 + i) (by omega) (by omega) (by omega) (by omega) (by omega) (by omega) (by omega) (by omega)]; exact h6 i hi
  · rw [e21]
    by_cases hh : d = c
    · rw [hh]; exact hrow
    · have hd6 : d < 6 := by omega
      have G : ∀ k : Nat, 49 ≤ k → k < 74 → k ≠ 67 → k ≠ 49 + c → k ≠ 55 + c → k ≠ 61 + c → k ≠ 68 + c → g' k = g k := fun k a b e f i j m => og k (by omega) b e f i j m (by omega)
      refine ((h7 d hd).same (fun t ht => o22 _ (by omega)) (o23 d hh) (o24 d hh) (o25 d hh) (o26 d hh) (G _ (by omega) (by omega) (by omega) (by omega) (by omega) (by omega) (by omega)) (G _ (by omega) (by omega) (by omega) (by omega) (by omega) (by omega) (by omega)) (G _ (by omega) (by omega) (by omega) (by omega) (by omega) (by omega) (by omega)) (G _ (by omega) (by omega) (by omega) (by omega) (by omega) (by omega) (by omega)) (fun t ht => og _ (by omega) (by omega) (by omega) (by omega) (by omega) (by omega) (by omega) (by omega))).wide ?_
      split <;> split <;> omega
theorem orNone_9 {x : Int32} (h : -1 ≤ x.toInt) : k_orNone x = -9 ↔ x = -1 := by
  unfold k_orNone
  by_cases hh : x = -1
  · rw [if_pos hh]; exact ⟨fun _ => hh, fun _ => rfl⟩
  · rw [if_neg hh]
    exact ⟨fun g => absurd (show x.toInt = -9 by rw [g]; rfl) (by omega), fun g => absurd g hh⟩
theorem orNone_t {x p : Int32} (h : 0 ≤ p.toInt) : k_orNone x = p ↔ x = p := by
  unfold k_orNone
  by_cases hh : x = -1
  · rw [if_pos hh]
    exact ⟨fun g => absurd (show p.toInt = -9 by rw [← g]; rfl) (by omega), fun g => absurd (show p.toInt = -1 by rw [← g, hh]; rfl) (by omega)⟩
  · rw [if_neg hh]
theorem orNone_rng {x : Int32} (h : -1 ≤ x.toInt ∧ x.toInt < 8) : (k_orNone x).toInt = -9 ∨ (0 ≤ (k_orNone x).toInt ∧ (k_orNone x).toInt < 8) := by
  unfold k_orNone
  by_cases hh : x = -1
  · rw [if_pos hh]; exact Or.inl rfl
  · rw [if_neg hh]
    have : ¬ x.toInt = -1 := fun g => hh (Int32.toInt_inj.mp g)
    exact Or.inr (by omega)
theorem may_needs {u : xU} {c t : Int32} (h : k_Hall_may u c t = true) : (u.1 17 t.toNatClampNeg) &&& ((u.1 23 c.toNatClampNeg) ^^^ (-1 : Int32)) = 0 := by
  unfold k_Hall_may at h
  split at h
  · split at h
    · split at h
      · assumption
      · exact absurd h (by decide)
    · exact absurd h (by decide)
  · exact absurd h (by decide)
section ST
variable {u v : xU}
theorem Rel.aft (hR : Rel u v) {u' v' : xU} (hu : ∀ j, (j < 21 ∨ 26 < j) → u'.1 j = (k_Past_remember u).1 j) (hv : ∀ j, j ≠ 7 → v'.1 j = (m_remembers v).1 j) (hg : ∀ j, 74 ≤ j → v'.1 7 j = (m_remembers v).1 7 j) (h2 : u'.2 = (k_Past_remember u).2) (h3 : v'.2 = (m_remembers v).2) (hM : MNi (uT (u.1 13)) (uC (u.1 13)) (u.1 17) 0 (u'.1 21) (u'.1 22) (u'.1 23) (u'.1 24) (u'.1 25) (u'.1 26) (v'.1 7)) : Rel u' v' := hR.after hu hv hg h2 h3 (MNi_RM hR.bT.2 hR.bC.2 hM)
theorem Rel.mnr (hR : Rel u v) : MNi (uT (u.1 13)) (uC (u.1 13)) (u.1 17) 0 ((k_Past_remember u).1 21) ((k_Past_remember u).1 22) ((k_Past_remember u).1 23) ((k_Past_remember u).1 24) ((k_Past_remember u).1 25) ((k_Past_remember u).1 26) ((m_remembers v).1 7) := by
  obtain ⟨r1, r2, r3, -, -⟩ := hR.rem
  rw [r1 21 (by decide) (by decide), r1 22 (by decide) (by decide), r1 23 (by decide) (by decide), r1 24 (by decide) (by decide), r1 25 (by decide) (by decide), r1 26 (by decide) (by decide)]
  exact RM_MNi hR.bT.2 hR.bC.2 (hR.M.congr hR.bT.2 hR.bC.2 (fun _ _ => rfl) r3)
theorem set_end (hR : Rel u v) {c : Nat} (hc : (c : Int) < (u.1 13 1).toInt) {p q : Int32} (hq : q = k_orNone p) (hp : -1 ≤ p.toInt ∧ p.toInt < (u.1 13 0).toInt) (hcl : ∀ t : Nat, p.toInt = t → u.1 17 t &&& (u.1 23 c ^^^ (-1 : Int32)) = 0) : Rel (sp (k_Past_remember u) 26 (upd ((k_Past_remember u).1 26) c p)) (sp (m_remembers v) 7 (upd ((m_remembers v).1 7) (68 + c) q)) := by
  have hT := hR.bT
  have hC := hR.bC
  have hc6 : c < 6 := by omega
  have hm := hR.mnr
  obtain ⟨w1, w2, w3, w4, w5, w6, w7, w8, w9⟩ := hm.2.2.2.2.2.2 c hc
  have r1 := hR.rem.1
  refine hR.aft (fun j hj => sp_ne (by omega)) (fun j hj => sp_ne hj) (fun j hj => by rw [sp_eq, pk_un (by omega)]) rfl rfl ?_
  rw [sp_ne (show (21 : Nat) ≠ 26 by decide), sp_ne (show (22 : Nat) ≠ 26 by decide), sp_ne (show (23 : Nat) ≠ 26 by decide), sp_ne (show (24 : Nat) ≠ 26 by decide), sp_ne (show (25 : Nat) ≠ 26 by decide), sp_eq, sp_eq]
  refine hm.put hT.2 hC.2 hc6 (Int.le_refl _) rfl (pk_un (by omega)) (by rw [pk_un (by omega)]; exact hm.2.1) hm.2.2.2.1 (fun _ _ => rfl) (fun _ _ => rfl) (fun _ _ => rfl) (fun _ _ => rfl) (fun d hd => pk_un hd) (fun j _ _ _ _ _ _ h _ => pk_un h) (by rw [pk_us]; omega) (by rw [pk_us, hq]; exact orNone_rng (by omega)) ⟨?_, ?_, ?_, ?_, w5, w6, w7, ?_, fun t ht => ⟨?_, (w9 t ht).2.1, fun hb => ?_⟩⟩
  · rw [pk_un (by omega)]; exact w1
  · rw [pk_un (by omega)]; exact w2
  · rw [pk_un (by omega)]; exact w3
  · rw [pk_us, pk_us, hq]
  · rw [pk_us]; exact hp.2
  · have ht : (t : Int) < (u.1 13 0).toInt := ht
    rw [pk_un (by omega)]; exact (w9 t ht).1
  · rcases hb with hb | hb
    · exact (w9 t ht).2.2 (Or.inl hb)
    · rw [pk_us] at hb
      rw [r1 23 (by decide) (by decide)]
      exact hcl t hb
theorem s_sets : St_sets Rel := by
  intro u v p1 p2 hR
  obtain ⟨p1', p2', p3, p4⟩ := hR.P
  refine ⟨⟨hR.bT, hR.bC, p3⟩, ⟨hR.mT, hR.mC, p1' ▸ p2'⟩, ?_⟩
  have hT := hR.bT
  have hC := hR.bC
  rw [k_sets_def, m_sets_def]
  unfold k_sets_b m_sets_b
  rw [hR.isCast, hR.isThing]
  by_cases h : b2i (k_Hall_isCast u p1) = 0
  · rw [if_pos h, if_pos h]; exact ⟨rfl, hR⟩
  have hc := cast_iff.mp (Bool.of_not_eq_false (fun g => h (b2i_0.mpr g)))
  have hcn := nlt hc.2 hc.1
  have hb := hR.bcourse hcn
  dsimp only
  rw [if_neg h, if_neg h, hR.icourse hc.1 hc.2, (hR.ic hc.1 hc.2).2.2.2.2]
  by_cases hm : p2 = -1
  · have hn : ¬ (0 : Int32) ≤ p2 := by rw [hm]; decide
    rw [if_pos hm, if_pos hm, if_pos hm, if_neg hn, if_neg hn]
    by_cases hs : u.1 26 p1.toNatClampNeg = -1
    · rw [if_pos (by rw [hm, hs]), if_pos ((orNone_9 hb.1).mpr hs)]; exact ⟨rfl, hR⟩
    · rw [if_neg (fun g => hs (by rw [← g, hm])), if_neg (fun g => hs ((orNone_9 hb.1).mp g))]
      have e1 : p2.toInt = -1 := by rw [hm]; rfl
      exact ⟨rfl, set_end hR hcn (by rw [hm]; rfl) (by omega) (fun t ht => absurd ht (by omega))⟩
  · rw [if_neg hm, if_neg hm, if_neg hm]
    by_cases ht : b2i (k_Hall_isThing u p2) = 0
    · rw [if_pos ht, if_pos ht]; exact ⟨rfl, hR⟩
    have htt := thing_iff.mp (Bool.of_not_eq_false (fun g => ht (b2i_0.mpr g)))
    have hn : (0 : Int32) ≤ p2 := Int32.le_iff_toInt_le.mpr htt.1
    rw [if_neg ht, if_neg ht, if_pos hn, if_pos hn, hR.may hc.1 hc.2 htt.1 htt.2]
    by_cases hs : u.1 26 p1.toNatClampNeg = p2
    · rw [if_pos hs.symm, if_pos ((orNone_t htt.1).mpr hs)]; exact ⟨rfl, hR⟩
    · rw [if_neg (fun g => hs g.symm), if_neg (fun g => hs ((orNone_t htt.1).mp g))]
      by_cases hy : b2i (k_Hall_may u p1 p2) = 0
      · rw [if_pos hy, if_pos hy]; exact ⟨rfl, hR⟩
      · rw [if_neg hy, if_neg hy]
        refine ⟨rfl, set_end hR hcn (if_neg hm).symm (by omega) (fun t ht => ?_)⟩
        have e := may_needs (Bool.of_not_eq_false (fun g => hy (b2i_0.mpr g)))
        have e2 : p2.toNatClampNeg = t := by show p2.toInt.toNat = t; omega
        rw [e2] at e
        exact e
end ST
