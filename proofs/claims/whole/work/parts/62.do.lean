/-! ===== PURE: what is done ===== -/
/-- one cast's row of a moment, by the class's cells -/
def RCc (T B : Int) (nd a22 a23 a24 a25 a26 g : Nat → Int32) (c : Nat) : Prop :=
  a23 c = g (49 + c) ∧ a24 c = g (55 + c) ∧ a25 c = g (61 + c) ∧ g (68 + c) = k_orNone (a26 c) ∧
  (0 ≤ (a23 c).toInt ∧ (a23 c).toInt < 2 ^ T.toNat) ∧ q32 (a24 c) 0 63 ∧ (0 ≤ (a25 c).toInt ∧ (a25 c).toInt ≤ B) ∧ (a26 c).toInt < T ∧
  (∀ t : Nat, (t : Int) < T → a22 (8 * c + t) = g (1 + (8 * c + t)) ∧ (0 ≤ (a22 (8 * c + t)).toInt ∧ (a22 (8 * c + t)).toInt ≤ B) ∧
    (bt (a23 c) t = true ∨ (a26 c).toInt = t → nd t &&& (a23 c ^^^ (-1 : Int32)) = 0))
theorem RC_cell {T B : Int} {nd a21 a22 a23 a24 a25 a26 g : Nat → Int32} {c : Nat} (hT : T ≤ 8) (hc : c < 6) : RC T B nd (mo a21 a22 a23 a24 a25 a26) g c ↔ RCc T B nd a22 a23 a24 a25 a26 g c := by
  unfold RC RCc
  rw [mo_can _ _ _ _ _ _ hc, mo_lacks _ _ _ _ _ _ hc, mo_cracks _ _ _ _ _ _ hc, mo_course _ _ _ _ _ _ hc]
  constructor
  · intro h
    refine ⟨h.1, h.2.1, h.2.2.1, h.2.2.2.1, h.2.2.2.2.1, h.2.2.2.2.2.1, h.2.2.2.2.2.2.1, h.2.2.2.2.2.2.2.1, fun t ht => ?_⟩
    have := h.2.2.2.2.2.2.2.2 t ht
    rw [mo_far _ _ _ _ _ _ (by omega)] at this
    exact this
  · intro h
    refine ⟨h.1, h.2.1, h.2.2.1, h.2.2.2.1, h.2.2.2.2.1, h.2.2.2.2.2.1, h.2.2.2.2.2.2.1, h.2.2.2.2.2.2.2.1, fun t ht => ?_⟩
    rw [mo_far _ _ _ _ _ _ (by omega)]
    exact h.2.2.2.2.2.2.2.2 t ht
theorem RM_mk {T C : Int} {nd a21 a22 a23 a24 a25 a26 g : Nat → Int32} (hT : T ≤ 8) (hC : C ≤ 6) (h1 : a21 0 = g 0) (h2 : a21 1 = g 67) (h3 : q32 (a21 0) 0 999) (h4 : 0 ≤ (a21 1).toInt ∧ (a21 1).toInt < 2 ^ C.toNat) (h5 : kK a26) (h6 : mK g) (h7 : ∀ c : Nat, (c : Int) < C → RCc T (9 * (a21 0).toInt) nd a22 a23 a24 a25 a26 g c) : RM T C nd (mo a21 a22 a23 a24 a25 a26) g :=
  ⟨h1, h2, h3, h4, fun c hc => ⟨by rw [mo_course _ _ _ _ _ _ hc]; exact ⟨(h5 c hc).1, by have := (h5 c hc).2; omega⟩, h6 c hc⟩, fun c hc => (RC_cell hT (by omega)).mpr (h7 c hc)⟩
theorem Rel.rcc {u v : xU} (hR : Rel u v) {c : Nat} (h : (c : Int) < (u.1 13 1).toInt) : RCc (uT (u.1 13)) (9 * (u.1 21 0).toInt) (u.1 17) (u.1 22) (u.1 23) (u.1 24) (u.1 25) (u.1 26) (v.1 7) c := (RC_cell hR.bT.2 (hR.rc h).1).mp (hR.rc h).2
theorem RCc.same {T B : Int} {nd a22 a23 a24 a25 a26 g a22' a23' a24' a25' a26' g' : Nat → Int32} {c : Nat} (h : RCc T B nd a22 a23 a24 a25 a26 g c) (e22 : ∀ t : Nat, (t : Int) < T → a22' (8 * c + t) = a22 (8 * c + t)) (e23 : a23' c = a23 c) (e24 : a24' c = a24 c) (e25 : a25' c = a25 c) (e26 : a26' c = a26 c) (g49 : g' (49 + c) = g (49 + c)) (g55 : g' (55 + c) = g (55 + c)) (g61 : g' (61 + c) = g (61 + c)) (g68 : g' (68 + c) = g (68 + c)) (gf : ∀ t : Nat, (t : Int) < T → g' (1 + (8 * c + t)) = g (1 + (8 * c + t))) : RCc T B nd a22' a23' a24' a25' a26' g' c := by
  unfold RCc at h ⊢
  rw [e23, e24, e25, e26, g49, g55, g61, g68]
  refine ⟨h.1, h.2.1, h.2.2.1, h.2.2.2.1, h.2.2.2.2.1, h.2.2.2.2.2.1, h.2.2.2.2.2.2.1, h.2.2.2.2.2.2.2.1, fun t ht => ?_⟩
  rw [e22 t ht, gf t ht]
  exact h.2.2.2.2.2.2.2.2 t ht
theorem RCc.wide {T B B' : Int} {nd a22 a23 a24 a25 a26 g : Nat → Int32} {c : Nat} (h : RCc T B nd a22 a23 a24 a25 a26 g c) (hB : B ≤ B') : RCc T B' nd a22 a23 a24 a25 a26 g c :=
  ⟨h.1, h.2.1, h.2.2.1, h.2.2.2.1, h.2.2.2.2.1, h.2.2.2.2.2.1, ⟨h.2.2.2.2.2.2.1.1, by have := h.2.2.2.2.2.2.1.2; omega⟩, h.2.2.2.2.2.2.2.1, fun t ht => ⟨(h.2.2.2.2.2.2.2.2 t ht).1, ⟨(h.2.2.2.2.2.2.2.2 t ht).2.1.1, by have := (h.2.2.2.2.2.2.2.2 t ht).2.1.2; omega⟩, (h.2.2.2.2.2.2.2.2 t ht).2.2⟩⟩
section DO
variable {u v : xU}
/-- what remember leaves -/
theorem Rel.rem (hR : Rel u v) : (∀ j, j ≠ 27 → j ≠ 28 → (k_Past_remember u).1 j = u.1 j) ∧ (∀ j, j ≠ 7 → (m_remembers v).1 j = v.1 j) ∧ (∀ j, j < 74 → (m_remembers v).1 7 j = v.1 7 j) ∧ (k_Past_remember u).2 = u.2 ∧ (m_remembers v).2 = v.2 := by
  obtain ⟨p1, p2, p3, p4⟩ := hR.P
  exact ⟨fun j h1 h2 => kp_rem u h1 h2, fun j h => kp_mrem v h, fun j h => mrem_lo v (p1 ▸ p2) h, rem_2 u, mrem_2 v⟩
/-- after remembering, a new moment -/
theorem Rel.after (hR : Rel u v) {u' v' : xU} (hu : ∀ j, (j < 21 ∨ 26 < j) → u'.1 j = (k_Past_remember u).1 j) (hv : ∀ j, j ≠ 7 → v'.1 j = (m_remembers v).1 j) (hg : ∀ j, 74 ≤ j → v'.1 7 j = (m_remembers v).1 7 j) (h2 : u'.2 = (k_Past_remember u).2) (h3 : v'.2 = (m_remembers v).2) (hM : RM (uT (u.1 13)) (uC (u.1 13)) (u.1 17) (moU u') (v'.1 7)) : Rel u' v' := by
  obtain ⟨r1, r2, r3, r4, r5⟩ := hR.rem
  refine hR.moment (fun j hj => by rw [hu j (by omega), r1 j (by omega) (by omega)]) (fun j hj => by rw [hv j hj, r2 j hj]) (h2.trans r4) (h3.trans r5) ⟨hM, ?_⟩
  rw [hu 27 (by decide), hu 28 (by decide)]
  exact (rem_RP hR).congr hR.bT.2 hR.bC.2 (fun _ _ => rfl) (fun j h _ => hg j h)
theorem mask_clear {x c : Int32} {n : Nat} (hn : n ≤ 31) (h0 : 0 ≤ x.toInt) (h1 : x.toInt < 2 ^ n) : 0 ≤ (x &&& c).toInt ∧ (x &&& c).toInt < 2 ^ n := and_rng hn h0 h1
theorem mask_set {x c : Int32} {n : Nat} (hn : n ≤ 31) (h0 : 0 ≤ x.toInt) (h1 : x.toInt < 2 ^ n) (c0 : 0 ≤ c.toInt) (c1 : c.toInt < n) : 0 ≤ (x ||| ((1 : Int32) <<< (c &&& 31))).toInt ∧ (x ||| ((1 : Int32) <<< (c &&& 31))).toInt < 2 ^ n := lt_bt hn (fun i h _ => by
  rw [bt_or, bt_lt h0 h1 h, bt_sh c0 (by omega), Bool.false_or]
  refine decide_eq_false (fun e => ?_)
  have : (i : Int) = c.toInt := by rw [e]; show ((c.toInt.toNat : Nat) : Int) = _; omega
  omega)
theorem s_mends : St_mends Rel := by
  intro u v p1 hR
  obtain ⟨p1', p2, p3, p4⟩ := hR.P
  refine ⟨⟨hR.bT, hR.bC, p3⟩, ⟨hR.mT, hR.mC, p1' ▸ p2⟩, ?_⟩
  have hT := hR.bT
  have hC := hR.bC
  rw [k_mends_def, m_mends_def]
  unfold k_mends_b m_mends_b
  rw [hR.isCast]
  by_cases h : b2i (k_Hall_isCast u p1) = 0
  · rw [if_pos h, if_pos h]; exact ⟨rfl, hR⟩
  have hc := cast_iff.mp (Bool.of_not_eq_false (fun g => h (b2i_0.mpr g)))
  have hcn := nlt hc.2 hc.1
  dsimp only
  rw [if_neg h, if_neg h, hR.icracks hc.1 hc.2]
  by_cases h2 : u.1 25 p1.toNatClampNeg = 0
  · rw [if_pos h2, if_pos h2]; exact ⟨rfl, hR⟩
  rw [if_neg h2, if_neg h2, (hR.ic hc.1 hc.2).2.2.2.1]
  obtain ⟨r1, r2, r3, r4, r5⟩ := hR.rem
  refine ⟨rfl, hR.after (fun j hj => ?_) (fun j hj => ?_) (fun j hj => ?_) rfl rfl ?_⟩
  · rw [sp_ne (by omega), sp_ne (by omega)]
  · rw [sp_ne hj, sp_ne hj]
  · rw [sp_eq, pk_un (by omega), sp_eq, pk_un (by omega)]
  · unfold moU
    rw [sp_eq, sp_ne (show (22 : Nat) ≠ 21 by decide), sp_ne (show (22 : Nat) ≠ 25 by decide), sp_ne (show (23 : Nat) ≠ 21 by decide), sp_ne (show (23 : Nat) ≠ 25 by decide), sp_ne (show (24 : Nat) ≠ 21 by decide), sp_ne (show (24 : Nat) ≠ 25 by decide), sp_ne (show (25 : Nat) ≠ 21 by decide), sp_eq, sp_ne (show (26 : Nat) ≠ 21 by decide), sp_ne (show (26 : Nat) ≠ 25 by decide), sp_eq, sp_eq, r1 21 (by decide) (by decide), r1 22 (by decide) (by decide), r1 23 (by decide) (by decide), r1 24 (by decide) (by decide), r1 25 (by decide) (by decide), r1 26 (by decide) (by decide)]
    have hb := hR.bbroken
    have lo : ∀ j, j < 74 → j ≠ 67 → j ≠ 61 + p1.toNatClampNeg → upd (upd ((m_remembers v).1 7) (61 + p1.toNatClampNeg) 0) 67 (upd ((m_remembers v).1 7) (61 + p1.toNatClampNeg) 0 67 &&& ((1 : Int32) <<< (p1 &&& 31) ^^^ -1)) j = v.1 7 j := fun j h1 h2 h3 => by rw [pk_un h2, pk_un h3, r3 j h1]
    refine RM_mk hT.2 hC.2 ?_ ?_ ?_ ?_ hR.kK ?_ (fun c hcc => ?_)
    · rw [pk_un (by decide), lo 0 (by decide) (by decide) (by omega)]; exact hR.night
    · rw [pk_us, pk_us, pk_un (by omega), r3 67 (by decide), hR.broken]
    · rw [pk_un (by decide)]; exact hR.bnight
    · rw [pk_us]; exact and_rng (by show (u.1 13 1).toInt.toNat ≤ 31; omega) hb.1 hb.2
    · intro i hi
      rw [lo _ (by omega) (by omega) (by omega)]; exact hR.mK i hi
    · have hcc : (c : Int) < (u.1 13 1).toInt := hcc
      have hr := hR.rcc hcc
      rw [pk_un (show (0 : Nat) ≠ 1 by decide)]
      by_cases he : c = p1.toNatClampNeg
      · have hbb := hR.bnight
        refine ⟨?_, ?_, ?_, ?_, hr.2.2.2.2.1, hr.2.2.2.2.2.1, ?_, hr.2.2.2.2.2.2.2.1, fun t ht => ?_⟩
        · rw [lo _ (by omega) (by omega) (by omega)]; exact hr.1
        · rw [lo _ (by omega) (by omega) (by omega)]; exact hr.2.1
        · rw [he, pk_us, pk_un (by omega), pk_us]
        · rw [lo _ (by omega) (by omega) (by omega)]; exact hr.2.2.2.1
        · rw [he, pk_us]
          have : (0 : Int32).toInt = 0 := rfl
          omega
        · have ht' : (t : Int) < (u.1 13 0).toInt := ht
          rw [lo _ (by omega) (by omega) (by omega)]; exact hr.2.2.2.2.2.2.2.2 t ht
      · exact hr.same (fun _ _ => rfl) rfl rfl (pk_un he) rfl (lo _ (by omega) (by omega) (by omega)) (lo _ (by omega) (by omega) (by omega)) (lo _ (by omega) (by omega) (by omega)) (lo _ (by omega) (by omega) (by omega)) (fun t ht => by
          have ht' : (t : Int) < (u.1 13 0).toInt := ht
          exact lo _ (by omega) (by omega) (by omega))
end DO
