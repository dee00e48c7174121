/-! ===== PURE: nights ===== -/
theorem att_end {T C : Int} {nd a21 a22 a23 a24 a25 a26 g a21' a22' a23' a25' a26' g' : Nat → Int32} {cn tn : Nat} {x : Int} {F K B' N' t' : Int32} (hT : T ≤ 8) (hC : C ≤ 6) (hc : (cn : Int) < C) (hx : (cn : Int) = x) (htt : (tn : Int) < T) (ht : (a26 cn).toInt = tn)
    (h : MNi T C nd x a21 a22 a23 a24 a25 a26 g)
    (hF : 0 ≤ F.toInt ∧ F.toInt ≤ 9 * (a21 0).toInt + 9) (hK : 0 ≤ K.toInt ∧ K.toInt ≤ 9 * (a21 0).toInt + 9) (hB : 0 ≤ B'.toInt ∧ B'.toInt < 2 ^ C.toNat) (hN : 0 ≤ N'.toInt ∧ N'.toInt < 2 ^ T.toNat)
    (hN1 : ∀ i : Nat, bt (a23 cn) i = true → bt N' i = true) (hN2 : ∀ i : Nat, bt N' i = true → bt (a23 cn) i = true ∨ i = tn) (ht' : t' = a26 cn ∨ t' = -1)
    (e0 : a21' 0 = a21 0) (e1 : a21' 1 = B') (e22 : a22' = upd a22 (8 * cn + tn) F) (e23 : a23' cn = N') (o23 : ∀ d, d ≠ cn → a23' d = a23 d) (e25 : a25' = upd a25 cn K) (e26 : a26' cn = t') (o26 : ∀ d, d ≠ cn → a26' d = a26 d)
    (eg : g' = upd (upd (upd (upd (upd g (1 + (8 * cn + tn)) F) (61 + cn) K) 67 B') (49 + cn) N') (68 + cn) (k_orNone t')) : MNi T C nd (x + 1) a21' a22' a23' a24 a25' a26' g' := by
  have hc6 : cn < 6 := by omega
  obtain ⟨w1, w2, w3, w4, w5, w6, w7, w8, w9⟩ := h.2.2.2.2.2.2 cn hc
  have hkk := h.2.2.2.2.1 cn hc6
  have hqr : -1 ≤ t'.toInt ∧ t'.toInt < T := by
    rcases ht' with e | e
    · rw [e]; exact ⟨hkk.1, w8⟩
    · have : t'.toInt = -1 := by rw [e]; rfl
      omega
  have G : ∀ j : Nat, j ≠ 1 + (8 * cn + tn) → j ≠ 61 + cn → j ≠ 67 → j ≠ 49 + cn → j ≠ 68 + cn → g' j = g j := fun j h1 h2 h3 h4 h5 => by rw [eg, pk_un h5, pk_un h4, pk_un h3, pk_un h2, pk_un h1]
  rw [if_neg (by omega), Int.add_zero] at w7
  refine h.put hT hC hc6 (by omega) e0 (G _ (by omega) (by omega) (by omega) (by omega) (by omega)) (by rw [e1, eg, pk_un (by omega), pk_un (by omega), pk_us]) (by rw [e1]; exact hB) (fun j hj => by rw [e22, pk_un (by omega)]) o23 (fun _ _ => rfl) (fun d hd => by rw [e25, pk_un hd]) o26 (fun j _ _ g67 g49 _ g61 g68 gf => G j (by omega) g61 g67 g49 g68) (by rw [e26]; omega) (by rw [eg, pk_us]; exact orNone_rng (by omega)) ⟨?_, ?_, ?_, ?_, ?_, w6, ?_, ?_, fun s hs => ⟨?_, ?_, fun hb => ?_⟩⟩
  · rw [e23, eg, pk_un (by omega), pk_us]
  · rw [G _ (by omega) (by omega) (by omega) (by omega) (by omega)]; exact w2
  · rw [e25, pk_us, eg, pk_un (by omega), pk_un (by omega), pk_un (by omega), pk_us]
  · rw [eg, pk_us, e26]
  · rw [e23]; exact hN
  · rw [e25, pk_us, if_pos (by omega)]; exact hK
  · rw [e26]; exact hqr.2
  · by_cases hst : s = tn
    · rw [hst, e22, pk_us, eg, pk_un (by omega), pk_un (by omega), pk_un (by omega), pk_un (by omega), pk_us]
    · rw [e22, pk_un (by omega), G _ (by omega) (by omega) (by omega) (by omega) (by omega)]; exact (w9 s hs).1
  · rw [if_pos (by omega)]
    by_cases hst : s = tn
    · rw [hst, e22, pk_us]; exact hF
    · rw [e22, pk_un (by omega)]
      have := (w9 s hs).2.1
      rw [if_neg (by omega)] at this
      omega
  · rw [e23] at hb ⊢
    have hold : bt (a23 cn) s = true ∨ (a26 cn).toInt = s := by
      rcases hb with hb | hb
      · rcases hN2 s hb with g1 | g1
        · exact Or.inl g1
        · exact Or.inr (by omega)
      · rw [e26] at hb
        rcases ht' with e | e
        · rw [e] at hb; exact Or.inr hb
        · have : t'.toInt = -1 := by rw [e]; rfl
          omega
    have h0 := sub_iff.mp ((w9 s hs).2.2 hold)
    exact sub_iff.mpr (fun i hi hx => hN1 i (h0 i hi hx))
theorem att_MN {T C : Int} {nd : Nat → Int32} {w z : xU} {c t : Int32} (hT : T ≤ 8) (hC : C ≤ 6) (hc : 0 ≤ c.toInt ∧ c.toInt < C) (ht : w.1 26 c.toNatClampNeg = t) (htt : 0 ≤ t.toInt ∧ t.toInt < T)
    (e14 : w.1 14 t.toNatClampNeg = z.1 1 t.toNatClampNeg) (e15 : w.1 15 t.toNatClampNeg = z.1 2 t.toNatClampNeg) (e18 : w.1 18 c.toNatClampNeg = z.1 5 c.toNatClampNeg) (e19 : w.1 19 c.toNatClampNeg = z.1 6 c.toNatClampNeg) (bL : q32 (w.1 14 t.toNatClampNeg) 0 9) (bW : q32 (w.1 19 c.toNatClampNeg) 1 9)
    (h : MNi T C nd c.toInt (w.1 21) (w.1 22) (w.1 23) (w.1 24) (w.1 25) (w.1 26) (z.1 7)) :
    MNi T C nd (c.toInt + 1) ((k_Hall_attend w c t).1 21) ((k_Hall_attend w c t).1 22) ((k_Hall_attend w c t).1 23) ((k_Hall_attend w c t).1 24) ((k_Hall_attend w c t).1 25) ((k_Hall_attend w c t).1 26) ((m_learns z c t).1 7) := by
  have hcn : ((c.toNatClampNeg : Nat) : Int) = c.toInt := by show ((c.toInt.toNat : Nat) : Int) = _; omega
  have htn : ((t.toNatClampNeg : Nat) : Int) = t.toInt := by show ((t.toInt.toNat : Nat) : Int) = _; omega
  have n1 := nfar hc.1 (by omega) htt.1 (show t.toInt < 8 by omega)
  have n2 := nfarm hc.1 (by omega) htt.1 (show t.toInt < 8 by omega)
  have n61 : ((61 : Int32) + c).toNatClampNeg = 61 + c.toNatClampNeg := nk rfl (by decide) hc.1 (by omega)
  have n49 : ((49 : Int32) + c).toNatClampNeg = 49 + c.toNatClampNeg := nk rfl (by decide) hc.1 (by omega)
  have n68 : ((68 : Int32) + c).toNatClampNeg = 68 + c.toNatClampNeg := nk rfl (by decide) hc.1 (by omega)
  have hbt := bt_sh htt.1 (show t.toInt < 32 by omega)
  obtain ⟨w1, w2, w3, w4, w5, w6, w7, w8, w9⟩ := h.2.2.2.2.2.2 c.toNatClampNeg (by omega)
  have f9 := (w9 t.toNatClampNeg (by omega)).2.1
  have f1 := (w9 t.toNatClampNeg (by omega)).1
  rw [if_neg (by omega), Int.add_zero] at w7 f9
  have hn := h.2.2.1
  have hbr := h.2.2.2.1
  have hTn : T.toNat ≤ 31 := by omega
  have hCn : C.toNat ≤ 31 := by omega
  have hms := mask_set (x := w.1 23 c.toNatClampNeg) (c := t) hTn w5.1 w5.2 htt.1 (by omega)
  have hmb := mask_set (x := w.1 21 1) (c := c) hCn hbr.1 hbr.2 hc.1 (by omega)
  have hF : (w.1 22 (8 * c.toNatClampNeg + t.toNatClampNeg) + w.1 19 c.toNatClampNeg).toInt = (w.1 22 (8 * c.toNatClampNeg + t.toNatClampNeg)).toInt + (w.1 19 c.toNatClampNeg).toInt := xadd rfl rfl (by omega) (by omega)
  have hK : (w.1 25 c.toNatClampNeg + w.1 14 t.toNatClampNeg).toInt = (w.1 25 c.toNatClampNeg).toInt + (w.1 14 t.toNatClampNeg).toInt := xadd rfl rfl (by omega) (by omega)
  have hFb : 0 ≤ (w.1 22 (8 * c.toNatClampNeg + t.toNatClampNeg) + w.1 19 c.toNatClampNeg).toInt ∧ (w.1 22 (8 * c.toNatClampNeg + t.toNatClampNeg) + w.1 19 c.toNatClampNeg).toInt ≤ 9 * (w.1 21 0).toInt + 9 := by rw [hF]; omega
  have hKb : 0 ≤ (w.1 25 c.toNatClampNeg + w.1 14 t.toNatClampNeg).toInt ∧ (w.1 25 c.toNatClampNeg + w.1 14 t.toNatClampNeg).toInt ≤ 9 * (w.1 21 0).toInt + 9 := by rw [hK]; omega
  have htn26 : (w.1 26 c.toNatClampNeg).toInt = (t.toNatClampNeg : Nat) := by rw [ht]; omega
  have h67 := h.2.1
  rw [k_Hall_attend_def, m_learns_def]
  unfold k_Hall_attend_b m_learns_b
  dsimp only
  rw [n1, n2, n61, n49, n68, ← e14, ← e15, ← e18, ← e19, ← f1]
  simp only [sp_eq]
  have q1 : ∀ X : Int32, upd (z.1 7) (1 + (8 * c.toNatClampNeg + t.toNatClampNeg)) X (61 + c.toNatClampNeg) = w.1 25 c.toNatClampNeg := fun X => by rw [pk_un (by omega)]; exact w3.symm
  have q2 : ∀ X Y : Int32, upd (upd (z.1 7) (1 + (8 * c.toNatClampNeg + t.toNatClampNeg)) X) (61 + c.toNatClampNeg) Y (1 + (8 * c.toNatClampNeg + t.toNatClampNeg)) = X := fun X Y => by rw [pk_un (by omega), pk_us]
  have q3 : ∀ X Y : Int32, upd (upd (z.1 7) (1 + (8 * c.toNatClampNeg + t.toNatClampNeg)) X) (61 + c.toNatClampNeg) Y 67 = w.1 21 1 := fun X Y => by rw [pk_un (by omega), pk_un (by omega)]; exact h67.symm
  have q4 : ∀ X Y Z : Int32, upd (upd (upd (z.1 7) (1 + (8 * c.toNatClampNeg + t.toNatClampNeg)) X) (61 + c.toNatClampNeg) Y) 67 Z (49 + c.toNatClampNeg) = w.1 23 c.toNatClampNeg := fun X Y Z => by rw [pk_un (by omega), pk_un (by omega), pk_un (by omega)]; exact w1.symm
  simp only [q1, pk_us, q2, q3, q4, or_0]
  by_cases b1 : w.1 25 c.toNatClampNeg + w.1 14 t.toNatClampNeg ≤ w.1 18 c.toNatClampNeg
  · rw [if_pos b1, if_pos b1]
    by_cases b2 : w.1 22 (8 * c.toNatClampNeg + t.toNatClampNeg) + w.1 19 c.toNatClampNeg < w.1 15 t.toNatClampNeg
    · rw [if_pos b2, if_pos b2]
      rw [sp_ne (show (24 : Nat) ≠ 25 by decide), sp_ne (show (24 : Nat) ≠ 22 by decide)]
      refine att_end hT hC (by omega) hcn (by omega) htn26 h hFb hKb hbr w5 (fun _ h => h) (fun _ h => Or.inl h) (Or.inl rfl) ?_ ?_ ?_ ?_ ?_ ?_ ?_ ?_ ?_
      · rfl
      · rfl
      · rfl
      · rfl
      · exact fun _ _ => rfl
      · rfl
      · rfl
      · exact fun _ _ => rfl
      · rw [sp_eq, ht, show k_orNone t = t from if_neg (fun e => absurd (show t.toInt = -1 by rw [e]; rfl) (by omega))]
    · rw [if_neg b2, if_neg b2]
      refine att_end (a24 := w.1 24) hT hC (by omega) hcn (by omega) htn26 h hFb hKb hbr hms (fun i h => by rw [bt_or, h]; rfl) (fun i h => by
        rw [bt_or, hbt, Bool.or_eq_true, decide_eq_true_eq] at h; exact h) (Or.inr rfl) ?_ ?_ ?_ ?_ ?_ ?_ ?_ ?_ ?_
      · rfl
      · rfl
      · rfl
      · exact pk_us
      · exact fun d hd => pk_un hd
      · rfl
      · exact pk_us
      · exact fun d hd => pk_un hd
      · rfl
  · rw [if_neg b1, if_neg b1]
    refine att_end (a24 := w.1 24) hT hC (by omega) hcn (by omega) htn26 h hFb hKb hmb w5 (fun _ h => h) (fun _ h => Or.inl h) (Or.inr rfl) ?_ ?_ ?_ ?_ ?_ ?_ ?_ ?_ ?_
    · rfl
    · rfl
    · rfl
    · rfl
    · exact fun _ _ => rfl
    · rfl
    · exact pk_us
    · exact fun d hd => pk_un hd
    · rfl
/-- both sides in the midst of a night -/
def NIi (T C : Int) (nd : Nat → Int32) (r s : xU) (x : Int) (w z : xU) : Prop := (∀ j, (j < 21 ∨ 26 < j) → w.1 j = r.1 j) ∧ (∀ j, j ≠ 7 → z.1 j = s.1 j) ∧ (∀ j, 74 ≤ j → z.1 7 j = s.1 7 j) ∧ w.2 = r.2 ∧ z.2 = s.2 ∧ MNi T C nd x (w.1 21) (w.1 22) (w.1 23) (w.1 24) (w.1 25) (w.1 26) (z.1 7)
theorem att_2 (u : xU) (c t : Int32) : (k_Hall_attend u c t).2 = u.2 := by
  rw [k_Hall_attend_def]; unfold k_Hall_attend_b; dsimp only
  split
  · split <;> rfl
  · rfl
theorem learns_2 (u : xU) (c t : Int32) : (m_learns u c t).2 = u.2 := by
  rw [m_learns_def]; unfold m_learns_b; dsimp only
  split
  · split <;> rfl
  · rfl
theorem learns_hi (u : xU) {c t : Int32} (hc : 0 ≤ c.toInt ∧ c.toInt < 6) (ht : 0 ≤ t.toInt ∧ t.toInt < 8) {j : Nat} (hj : 74 ≤ j) : (m_learns u c t).1 7 j = u.1 7 j := by
  have hcn : ((c.toNatClampNeg : Nat) : Int) = c.toInt := by show ((c.toInt.toNat : Nat) : Int) = _; omega
  have htn : ((t.toNatClampNeg : Nat) : Int) = t.toInt := by show ((t.toInt.toNat : Nat) : Int) = _; omega
  have n2 := nfarm hc.1 (by omega) ht.1 (show t.toInt < 8 by omega)
  have n61 : ((61 : Int32) + c).toNatClampNeg = 61 + c.toNatClampNeg := nk rfl (by decide) hc.1 (by omega)
  have n49 : ((49 : Int32) + c).toNatClampNeg = 49 + c.toNatClampNeg := nk rfl (by decide) hc.1 (by omega)
  have n68 : ((68 : Int32) + c).toNatClampNeg = 68 + c.toNatClampNeg := nk rfl (by decide) hc.1 (by omega)
  rw [m_learns_def]; unfold m_learns_b; dsimp only
  rw [n2, n61, n49, n68]
  simp only [sp_eq]
  split
  · split
    · rw [sp_eq, pk_un (by omega), pk_un (by omega), pk_un (by omega), pk_un (by omega), pk_un (by omega)]
    · rw [sp_eq, pk_un (by omega), pk_un (by omega), pk_un (by omega), pk_un (by omega), pk_un (by omega)]
  · rw [sp_eq, pk_un (by omega), pk_un (by omega), pk_un (by omega), pk_un (by omega), pk_un (by omega)]
section NG
variable {u v : xU}
theorem pass_L (hR : Rel u v) (kk : Int32 → xU → Int32 × xU) (p x2 : Int32) : ∀ (n : Nat) (x : Int32) (w z : xU), 0 ≤ x.toInt → (u.1 13 1).toInt - x.toInt < n → 1 ≤ n → x.toInt ≤ (u.1 13 1).toInt → (w.1 21 0).toInt + 1 ≤ 999 → NIi (uT (u.1 13)) (uC (u.1 13)) (u.1 17) (k_Past_remember u) (m_remembers v) x.toInt w z →
    ∃ Z : xU, m_nights_L42 kk p x2 n x z = kk (x2 + 1) Z ∧ NIi (uT (u.1 13)) (uC (u.1 13)) (u.1 17) (k_Past_remember u) (m_remembers v) 0 (k_Hall_passNight_L2 n x w) Z ∧ ((k_Hall_passNight_L2 n x w).1 21 0).toInt = (w.1 21 0).toInt + 1 := by
  have hT := hR.bT
  have hC := hR.bC
  obtain ⟨r1, r2, r3, r4, r5⟩ := hR.rem
  intro n
  induction n with
  | zero => intro x w z h0 h1 h2; exact absurd h2 (by decide)
  | succ n ih =>
    intro x w z h0 h1 _ h3 h4 hN
    obtain ⟨i1, i2, i3, i4, i5, i6⟩ := hN
    have eC : w.1 13 1 = u.1 13 1 := by rw [i1 13 (by decide), r1 13 (by decide) (by decide)]
    have eM : z.1 0 5 = u.1 13 1 := by rw [i2 0 (by decide), r2 0 (by decide)]; exact hR.C.symm
    unfold m_nights_L42 k_Hall_passNight_L2
    rw [eC, eM]
    by_cases h : u.1 13 1 ≤ x
    · have h5 := xq_le h rfl rfl
      rw [if_pos h, if_pos h]
      have hn := i6.2.2.1
      have e : (w.1 21 0 + 1).toInt = (w.1 21 0).toInt + 1 := inc hn.1 (show (w.1 21 0).toInt < 999 by omega) (by decide)
      refine ⟨_, rfl, ⟨fun j hj => by rw [sp_ne (by omega)]; exact i1 j hj, fun j hj => by rw [sp_ne hj]; exact i2 j hj, fun j hj => by rw [sp_eq, pk_un (by omega)]; exact i3 j hj, i4, i5, ?_⟩, by rw [sp_eq, pk_us]; exact e⟩
      rw [sp_eq, sp_ne (show (22 : Nat) ≠ 21 by decide), sp_ne (show (23 : Nat) ≠ 21 by decide), sp_ne (show (24 : Nat) ≠ 21 by decide), sp_ne (show (25 : Nat) ≠ 21 by decide), sp_ne (show (26 : Nat) ≠ 21 by decide), sp_eq]
      refine ⟨by rw [pk_us, pk_us, i6.1], by rw [pk_un (by decide), pk_un (by decide)]; exact i6.2.1, by rw [pk_us]; exact ⟨by omega, by omega⟩, by rw [pk_un (by decide)]; exact i6.2.2.2.1, i6.2.2.2.2.1, fun i hi => by rw [pk_un (by omega)]; exact i6.2.2.2.2.2.1 i hi, fun c hc => ?_⟩
      rw [pk_us, e, if_neg (by omega)]
      have hc' : (c : Int) < (u.1 13 1).toInt := hc
      have hr := i6.2.2.2.2.2.2 c hc
      rw [if_pos (by omega)] at hr
      refine (hr.same (fun _ _ => rfl) rfl rfl rfl rfl (pk_un (by omega)) (pk_un (by omega)) (pk_un (by omega)) (pk_un (by omega)) (fun t _ => pk_un (by omega))).wide (by omega)
    · have h5 := xq_nle h rfl rfl
      have e := inc h0 h5 (by omega)
      rw [if_neg h, if_neg h]
      have hxn := nlt h5 h0
      have n68 : ((68 : Int32) + x).toNatClampNeg = 68 + x.toNatClampNeg := nk rfl (by decide) h0 (by omega)
      have hr := i6.2.2.2.2.2.2 x.toNatClampNeg hxn
      have hkk := i6.2.2.2.2.1 x.toNatClampNeg (by omega)
      rw [n68, hr.2.2.2.1]
      by_cases hs : w.1 26 x.toNatClampNeg = -1
      · rw [if_pos hs, if_pos ((orNone_9 hkk.1).mpr hs)]
        refine ih (x + 1) w z (by omega) (by omega) (by omega) (by omega) h4 ⟨i1, i2, i3, i4, i5, i6.1, i6.2.1, i6.2.2.1, i6.2.2.2.1, i6.2.2.2.2.1, i6.2.2.2.2.2.1, fun c hc => (i6.2.2.2.2.2.2 c hc).wide ?_⟩
        split <;> split <;> omega
      · have hs' : ¬ (w.1 26 x.toNatClampNeg).toInt = -1 := fun g => hs (Int32.toInt_inj.mp g)
        have eo : k_orNone (w.1 26 x.toNatClampNeg) = w.1 26 x.toNatClampNeg := if_neg hs
        rw [if_neg hs, if_neg (fun g => hs ((orNone_9 hkk.1).mp g)), eo]
        have htt : 0 ≤ (w.1 26 x.toNatClampNeg).toInt ∧ (w.1 26 x.toNatClampNeg).toInt < (u.1 13 0).toInt := ⟨by omega, hr.2.2.2.2.2.2.2.1⟩
        obtain ⟨t1, t2, t3, t4, t5, t6, t7, t8⟩ := hR.thing (nlt htt.2 htt.1)
        obtain ⟨k1, k2, k3, k4⟩ := hR.cast hxn
        have q14 : w.1 14 = u.1 14 := by rw [i1 14 (by decide), r1 14 (by decide) (by decide)]
        have q15 : w.1 15 = u.1 15 := by rw [i1 15 (by decide), r1 15 (by decide) (by decide)]
        have q18 : w.1 18 = u.1 18 := by rw [i1 18 (by decide), r1 18 (by decide) (by decide)]
        have q19 : w.1 19 = u.1 19 := by rw [i1 19 (by decide), r1 19 (by decide) (by decide)]
        have m1 : z.1 1 = v.1 1 := by rw [i2 1 (by decide), r2 1 (by decide)]
        have m2 : z.1 2 = v.1 2 := by rw [i2 2 (by decide), r2 2 (by decide)]
        have m5 : z.1 5 = v.1 5 := by rw [i2 5 (by decide), r2 5 (by decide)]
        have m6 : z.1 6 = v.1 6 := by rw [i2 6 (by decide), r2 6 (by decide)]
        have hA := att_MN (w := w) (z := z) (c := x) hT.2 hC.2 ⟨h0, h5⟩ rfl htt (by rw [q14, m1]; exact t1) (by rw [q15, m2]; exact t2) (by rw [q18, m5]; exact k1) (by rw [q19, m6]; exact k2) (by rw [q14]; exact t5) (by rw [q19]; exact k4) i6
        have hnn : (k_Hall_attend w x (w.1 26 x.toNatClampNeg)).1 21 0 = w.1 21 0 := by
          rw [k_Hall_attend_def]; unfold k_Hall_attend_b; dsimp only
          split
          · split <;> rfl
          · rfl
        obtain ⟨Z, j1, j2, j3⟩ := ih (x + 1) (k_Hall_attend w x (w.1 26 x.toNatClampNeg)) (m_learns z x (w.1 26 x.toNatClampNeg)) (by omega) (by omega) (by omega) (by omega) (by rw [hnn]; exact h4) ⟨fun j hj => by rw [kp_att w x _ (by omega) (by omega) (by omega) (by omega) (by omega)]; exact i1 j hj, fun j hj => by rw [kp_learns z x _ hj]; exact i2 j hj, fun j hj => by rw [learns_hi z ⟨h0, by omega⟩ ⟨htt.1, by omega⟩ hj]; exact i3 j hj, by rw [att_2]; exact i4, by rw [learns_2]; exact i5, by rw [e]; exact hA⟩
        exact ⟨Z, j1, j2, by rw [j3, hnn]⟩
theorem nights_L (hR : Rel u v) (p : Int32) : ∀ (n : Nat) (x : Int32) (w z : xU), 0 ≤ x.toInt → p.toInt - x.toInt < n → 1 ≤ n → p.toInt ≤ 9 → x.toInt ≤ p.toInt → (w.1 21 0).toInt + (p.toInt - x.toInt) ≤ 999 → NIi (uT (u.1 13)) (uC (u.1 13)) (u.1 17) (k_Past_remember u) (m_remembers v) 0 w z →
    (k_nights_L50 p n x w).1 = (m_nights_L35 p n x z).1 ∧ NIi (uT (u.1 13)) (uC (u.1 13)) (u.1 17) (k_Past_remember u) (m_remembers v) 0 (k_nights_L50 p n x w).2 (m_nights_L35 p n x z).2 := by
  have hC := hR.bC
  intro n
  induction n with
  | zero => intro x w z h0 h1 h2; exact absurd h2 (by decide)
  | succ n ih =>
    intro x w z h0 h1 _ hp9 hxp h4 hN
    unfold k_nights_L50 m_nights_L35
    by_cases h : p ≤ x
    · rw [if_pos h, if_pos h]
      obtain ⟨i1, i2, i3, i4, i5, i6⟩ := hN
      have hb := i6.2.2.2.1
      have h6 := pow6 hC.1 hC.2
      have hb2 : (w.1 21 1).toInt < 2 ^ (u.1 13 1).toInt.toNat := hb.2
      refine ⟨?_, i1, i2, i3, i4, i5, i6⟩
      show j_bitCount (w.1 21 1) = m_bits (z.1 7 67)
      rw [← i6.2.1]
      exact bits_eq hb.1 (by omega)
    · have h5 := xq_nle h rfl rfl
      have e := inc h0 h5 (by omega)
      rw [if_neg h, if_neg h]
      have z0 : (0 : Int32).toInt = 0 := rfl
      obtain ⟨Z, j1, j2, j3⟩ := pass_L hR (fun (z2 : Int32) (zu : xU) => m_nights_L35 p n z2 zu) p x 7 0 w z (by decide) (by omega) (by decide) (by omega) (by omega) (by rw [z0]; exact hN)
      rw [j1, k_Hall_passNight_def]
      exact ih (x + 1) _ Z (by omega) (by omega) (by omega) hp9 (by omega) (by show ((k_Hall_passNight_L2 7 0 w).1 21 0).toInt + _ ≤ 999; rw [j3]; omega) j2
theorem s_nights : St_nights Rel := by
  intro u v p1 hR
  obtain ⟨q1, q2, q3, q4⟩ := hR.P
  refine ⟨⟨hR.bT, hR.bC, q3, hR.kK⟩, ⟨hR.mT, hR.mC, q1 ▸ q2, hR.mK⟩, ?_⟩
  have hn := hR.bnight
  rw [k_nights_def, m_nights_def]
  unfold k_nights_b m_nights_b
  by_cases c1 : p1 < 1
  · rw [if_pos c1, if_pos (in_f1 (xq_lt c1 rfl rfl))]; exact ⟨rfl, hR⟩
  rw [if_neg c1]
  by_cases c2 : p1 ≤ 9
  rotate_left
  · rw [if_neg c2, if_pos (in_f2 (xq_nle c2 rfl rfl))]; exact ⟨rfl, hR⟩
  have c1' := xq_nlt c1 rfl (b := 1) rfl
  have c2' := xq_le c2 rfl (b := 9) rfl
  rw [if_pos c2, if_neg (in_t (xq_nlt c1 rfl rfl) (xq_le c2 rfl rfl)), ← hR.night]
  by_cases c3 : u.1 21 0 + p1 ≤ 999
  rotate_left
  · rw [if_neg c3, if_neg c3]; exact ⟨rfl, hR⟩
  have e : (u.1 21 0 + p1).toInt = (u.1 21 0).toInt + p1.toInt := xadd rfl rfl (by omega) (by omega)
  have c3' := xq_le c3 e (b := 999) rfl
  rw [if_pos c3, if_pos c3]
  have z0 : (0 : Int32).toInt = 0 := rfl
  obtain ⟨r1, r2, r3, r4, r5⟩ := hR.rem
  obtain ⟨j1, j2⟩ := nights_L hR p1 10 0 (k_Past_remember u) (m_remembers v) (by decide) (by omega) (by decide) c2' (by omega) (by rw [r1 21 (by decide) (by decide)]; omega) ⟨fun _ _ => rfl, fun _ _ => rfl, fun _ _ => rfl, rfl, rfl, hR.mnr⟩
  exact ⟨j1, hR.aft j2.1 j2.2.1 j2.2.2.1 j2.2.2.2.1 j2.2.2.2.2.1 j2.2.2.2.2.2⟩
end NG
