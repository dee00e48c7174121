/-! ===== PURE: joins ===== -/
section JN
variable {u v : xU}
theorem join_end (hR : Rel u v) {c1 c2 : Nat} (h1 : (c1 : Int) < (u.1 13 1).toInt) (h2 : (c2 : Int) < (u.1 13 1).toInt) (hne : c1 ≠ c2) {p q : Int32} (hp : 0 ≤ p.toInt ∧ p.toInt < 6) (hq : q = (k_Past_remember u).1 26 c1 ∨ q = -1) {U V : xU}
    (e24 : U.1 24 = upd (upd ((k_Past_remember u).1 24) c1 ((k_Past_remember u).1 24 c1 ||| ((1 : Int32) <<< (p &&& 31)))) c2 (upd ((k_Past_remember u).1 24) c1 ((k_Past_remember u).1 24 c1 ||| ((1 : Int32) <<< (p &&& 31))) c2 &&& (((1 : Int32) <<< (p &&& 31)) ^^^ (-1 : Int32))))
    (e26 : U.1 26 c1 = q) (o26 : ∀ d, d ≠ c1 → U.1 26 d = (k_Past_remember u).1 26 d) (ou : ∀ j, j ≠ 24 → j ≠ 26 → U.1 j = (k_Past_remember u).1 j) (u2 : U.2 = (k_Past_remember u).2)
    (e7 : V.1 7 = upd (upd (upd ((m_remembers v).1 7) (55 + c1) ((m_remembers v).1 7 (55 + c1) ||| ((1 : Int32) <<< (p &&& 31)))) (55 + c2) (upd ((m_remembers v).1 7) (55 + c1) ((m_remembers v).1 7 (55 + c1) ||| ((1 : Int32) <<< (p &&& 31))) (55 + c2) &&& (((1 : Int32) <<< (p &&& 31)) ^^^ (-1 : Int32)))) (68 + c1) (k_orNone q))
    (ov : ∀ j, j ≠ 7 → V.1 j = (m_remembers v).1 j) (v2 : V.2 = (m_remembers v).2) : Rel U V := by
  have hT := hR.bT
  have hC := hR.bC
  have h16 : c1 < 6 := by omega
  have h26 : c2 < 6 := by omega
  have hm := hR.mnr
  obtain ⟨w1, w2, w3, w4, w5, w6, w7, w8, w9⟩ := hm.2.2.2.2.2.2 c1 h1
  obtain ⟨z1, z2, z3, z4, z5, z6, z7, z8, z9⟩ := hm.2.2.2.2.2.2 c2 h2
  have hX1 := mask_set (x := (k_Past_remember u).1 24 c1) (c := p) (n := 6) (by decide) w6.1 (by have := w6.2; omega) hp.1 (by have := hp.2; omega)
  have hX2 := and_rng (x := (k_Past_remember u).1 24 c2) (y := ((1 : Int32) <<< (p &&& 31)) ^^^ (-1 : Int32)) (n := 6) (by decide) z6.1 (by have := z6.2; omega)
  have hqr : -1 ≤ q.toInt ∧ q.toInt < (u.1 13 0).toInt := by
    rcases hq with hq | hq
    · rw [hq]; exact ⟨(hm.2.2.2.2.1 c1 h16).1, w8⟩
    · have : q.toInt = -1 := by rw [hq]; rfl
      omega
  rw [pk_un (fun e => hne e.symm)] at e24
  rw [pk_un (show 55 + c2 ≠ 55 + c1 by omega), ← w2, ← z2] at e7
  generalize (k_Past_remember u).1 24 c1 ||| ((1 : Int32) <<< (p &&& 31)) = X1 at e24 e7 hX1
  generalize (k_Past_remember u).1 24 c2 &&& (((1 : Int32) <<< (p &&& 31)) ^^^ (-1 : Int32)) = X2 at e24 e7 hX2
  refine hR.aft (fun j hj => ou j (by omega) (by omega)) ov (fun j hj => by rw [e7, pk_un (by omega), pk_un (by omega), pk_un (by omega)]) u2 v2 ?_
  rw [ou 21 (by decide) (by decide), ou 22 (by decide) (by decide), ou 23 (by decide) (by decide), e24, ou 25 (by decide) (by decide), e7]
  generalize hs : (m_remembers v).1 7 = s7 at *
  have hm1 : MNi (uT (u.1 13)) (uC (u.1 13)) (u.1 17) 0 ((k_Past_remember u).1 21) ((k_Past_remember u).1 22) ((k_Past_remember u).1 23) (upd ((k_Past_remember u).1 24) c1 X1) ((k_Past_remember u).1 25) (U.1 26) (upd (upd s7 (55 + c1) X1) (68 + c1) (k_orNone q)) := by
    refine hm.put hT.2 hC.2 h16 (Int.le_refl _) rfl (by rw [pk_un (by omega), pk_un (by omega)]) (by rw [pk_un (by omega), pk_un (by omega)]; exact hm.2.1) hm.2.2.2.1 (fun _ _ => rfl) (fun _ _ => rfl) (fun d hd => pk_un hd) (fun _ _ => rfl) o26 (fun j _ _ _ _ g55 _ g68 _ => by rw [pk_un g68, pk_un g55]) (by rw [e26]; omega) (by rw [pk_us]; exact orNone_rng (by omega)) ⟨?_, ?_, ?_, ?_, w5, ?_, w7, ?_, fun t ht => ⟨?_, (w9 t ht).2.1, fun hb => ?_⟩⟩
    · rw [pk_un (by omega), pk_un (by omega)]; exact w1
    · rw [pk_us, pk_un (by omega), pk_us]
    · rw [pk_un (by omega), pk_un (by omega)]; exact w3
    · rw [pk_us, e26]
    · rw [pk_us]; exact ⟨hX1.1, by have := hX1.2; omega⟩
    · rw [e26]; exact hqr.2
    · have ht : (t : Int) < (u.1 13 0).toInt := ht
      rw [pk_un (by omega), pk_un (by omega)]; exact (w9 t ht).1
    · rcases hb with hb | hb
      · exact (w9 t ht).2.2 (Or.inl hb)
      · rw [e26] at hb
        rcases hq with hq | hq
        · rw [hq] at hb; exact (w9 t ht).2.2 (Or.inr hb)
        · have : q.toInt = -1 := by rw [hq]; rfl
          omega
  obtain ⟨y1, y2, y3, y4, y5, y6, y7, y8, y9⟩ := hm1.2.2.2.2.2.2 c2 h2
  have G : ∀ j : Nat, j ≠ 55 + c2 → upd (upd (upd s7 (55 + c1) X1) (55 + c2) X2) (68 + c1) (k_orNone q) j = upd (upd s7 (55 + c1) X1) (68 + c1) (k_orNone q) j := fun j hj => by
    by_cases h : j = 68 + c1
    · rw [h, pk_us, pk_us]
    · rw [pk_un h, pk_un h, pk_un hj]
  refine hm1.put hT.2 hC.2 h26 (Int.le_refl _) rfl (G _ (by omega)) (by rw [G _ (by omega)]; exact hm1.2.1) hm1.2.2.2.1 (fun _ _ => rfl) (fun _ _ => rfl) (fun d hd => pk_un hd) (fun _ _ => rfl) (fun _ _ => rfl) (fun j _ _ _ _ g55 _ _ _ => G j g55) (hm1.2.2.2.2.1 c2 h26) (by rw [G _ (by omega)]; exact hm1.2.2.2.2.2.1 c2 h26) ⟨?_, ?_, ?_, ?_, y5, ?_, y7, y8, fun t ht => ⟨?_, (y9 t ht).2⟩⟩
  · rw [G _ (by omega)]; exact y1
  · rw [pk_us, pk_un (by omega), pk_us]
  · rw [G _ (by omega)]; exact y3
  · rw [G _ (by omega)]; exact y4
  · rw [pk_us]; exact ⟨hX2.1, by have := hX2.2; omega⟩
  · have ht : (t : Int) < (u.1 13 0).toInt := ht
    rw [G _ (by omega)]; exact (y9 t ht).1
theorem s_joins : St_joins Rel := by
  intro u v p1 p2 p3 hR
  obtain ⟨q1, q2, q3, q4⟩ := hR.P
  refine ⟨⟨hR.bT, hR.bC, q3, hR.kK⟩, ⟨hR.mT, hR.mC, q1 ▸ q2, hR.mK⟩, ?_⟩
  have hT := hR.bT
  have hC := hR.bC
  rw [k_joins_def, m_joins_def]
  unfold k_joins_b m_joins_b
  rw [hR.isCast, hR.isCast]
  by_cases h : b2i (k_Hall_isCast u p1) = 0
  · rw [if_pos h, if_pos h]; exact ⟨rfl, hR⟩
  have hc := cast_iff.mp (Bool.of_not_eq_false (fun g => h (b2i_0.mpr g)))
  have hcn := nlt hc.2 hc.1
  rw [if_neg h, if_neg h]
  by_cases g : b2i (k_Hall_isCast u p2) = 0
  · rw [if_pos g, if_pos g]; exact ⟨rfl, hR⟩
  have gc := cast_iff.mp (Bool.of_not_eq_false (fun h => g (b2i_0.mpr h)))
  have gcn := nlt gc.2 gc.1
  rw [if_neg g, if_neg g]
  by_cases hne : p1 = p2
  · rw [if_pos hne, if_pos hne]; exact ⟨rfl, hR⟩
  rw [if_neg hne, if_neg hne]
  have h5 : (5 : Int32).toInt = 5 := rfl
  by_cases c1 : p3 < 0
  · rw [if_pos c1, if_pos (in_f1 (xq_lt c1 rfl rfl))]; exact ⟨rfl, hR⟩
  rw [if_neg c1]
  have c1' := xq_nlt c1 rfl (b := 0) rfl
  by_cases c2 : p3 < 6
  rotate_left
  · rw [if_neg c2, if_pos (in_f2 (by have := xq_nlt c2 rfl (b := 6) rfl; omega))]; exact ⟨rfl, hR⟩
  have c2' := xq_lt c2 rfl (b := 6) rfl
  rw [if_pos c2, if_neg (in_t (xq_nlt c1 rfl rfl) (by omega)), hR.ilacks hc.1 hc.2, hR.ilacks gc.1 gc.2, mhas]
  by_cases k1 : b2i (k_has (u.1 24 p1.toNatClampNeg) p3) = 0
  rotate_left
  · rw [if_neg k1, if_neg k1]; exact ⟨rfl, hR⟩
  rw [if_pos k1, if_pos k1]
  by_cases k2 : b2i (k_has (u.1 24 p2.toNatClampNeg) p3) = 0
  · rw [if_pos k2, if_pos k2]; exact ⟨rfl, hR⟩
  rw [if_neg k2, if_neg k2]
  have hnn : p1.toNatClampNeg ≠ p2.toNatClampNeg := fun e => hne (by rw [nI_ofc hc.1, nI_ofc gc.1, e])
  dsimp only
  rw [k_Hall_joinOn_def]
  unfold k_Hall_joinOn_b
  dsimp only
  rw [(hR.ic hc.1 hc.2).2.2.1, (hR.ic gc.1 gc.2).2.2.1, (hR.ic hc.1 hc.2).2.2.2.2]
  obtain ⟨r1, r2, r3, r4, r5⟩ := hR.rem
  have hb := hR.bcourse hcn
  simp only [sp_eq]
  have et : ∀ X Y : Int32, upd (upd ((m_remembers v).1 7) (55 + p1.toNatClampNeg) X) (55 + p2.toNatClampNeg) Y (68 + p1.toNatClampNeg) = k_orNone ((k_Past_remember u).1 26 p1.toNatClampNeg) := fun X Y => by
    rw [pk_un (by omega), pk_un (by omega), r3 _ (by omega), r1 26 (by decide) (by decide)]; exact hR.course hcn
  rw [et]
  have ea : ∀ X Y B Q : Int32, upd (upd ((k_Past_remember u).1 24) p1.toNatClampNeg X) p2.toNatClampNeg (upd ((k_Past_remember u).1 24) p1.toNatClampNeg X p2.toNatClampNeg &&& B) p2.toNatClampNeg = upd (upd (upd ((m_remembers v).1 7) (55 + p1.toNatClampNeg) Y) (55 + p2.toNatClampNeg) (upd ((m_remembers v).1 7) (55 + p1.toNatClampNeg) Y (55 + p2.toNatClampNeg) &&& B)) (68 + p1.toNatClampNeg) Q (55 + p2.toNatClampNeg) := fun X Y B Q => by
    rw [pk_us, pk_un (by omega), pk_un (by omega), pk_us, pk_un (by omega), r3 _ (by omega), r1 24 (by decide) (by decide), hR.lacks gcn]
  have e26 : (k_Past_remember u).1 26 = u.1 26 := r1 26 (by decide) (by decide)
  by_cases hs : (k_Past_remember u).1 26 p1.toNatClampNeg = -1
  · rw [if_pos hs, if_pos ((orNone_9 (by rw [e26]; exact hb.1)).mpr hs)]
    refine ⟨ea _ _ _ _, ?_⟩
    dsimp only
    exact join_end hR hcn gcn hnn ⟨c1', c2'⟩ (Or.inl rfl) (by rw [sp_eq]) (by rw [sp_ne (by decide), sp_ne (by decide)]) (fun d _ => by rw [sp_ne (by decide), sp_ne (by decide)]) (fun j h _ => by rw [sp_ne h, sp_ne h]) rfl (by rw [sp_eq]) (fun j h => by rw [sp_ne h, sp_ne h, sp_ne h]) rfl
  · have eo : k_orNone ((k_Past_remember u).1 26 p1.toNatClampNeg) = (k_Past_remember u).1 26 p1.toNatClampNeg := if_neg hs
    have h0 : 0 ≤ (u.1 26 p1.toNatClampNeg).toInt := by
      have : ¬ (u.1 26 p1.toNatClampNeg).toInt = -1 := fun e => hs (by rw [e26]; exact Int32.toInt_inj.mp e)
      omega
    have ep : (m_remembers v).1 3 ((k_Past_remember u).1 26 p1.toNatClampNeg).toNatClampNeg = (k_Past_remember u).1 16 ((k_Past_remember u).1 26 p1.toNatClampNeg).toNatClampNeg := by
      rw [r2 3 (by decide), r1 16 (by decide) (by decide), e26]
      exact (hR.thing (nlt hb.2 h0)).2.2.1.symm
    rw [if_neg hs, if_neg (fun e => hs ((orNone_9 (by rw [e26]; exact hb.1)).mp e)), eo, ep]
    by_cases hk : (k_Past_remember u).1 16 ((k_Past_remember u).1 26 p1.toNatClampNeg).toNatClampNeg = p3
    · rw [if_pos hk, if_pos hk]
      refine ⟨ea _ _ _ _, ?_⟩
      dsimp only
      exact join_end hR hcn gcn hnn ⟨c1', c2'⟩ (q := -1) (Or.inr rfl) (by rw [sp_ne (by decide), sp_eq]) (by rw [sp_eq, pk_us]) (fun d hd => by rw [sp_eq, pk_un hd]) (fun j h h' => by rw [sp_ne h', sp_ne h, sp_ne h]) rfl (by rw [sp_eq]; rfl) (fun j h => by rw [sp_ne h, sp_ne h, sp_ne h]) rfl
    · rw [if_neg hk, if_neg hk]
      refine ⟨ea _ _ _ _, ?_⟩
      dsimp only
      exact join_end hR hcn gcn hnn ⟨c1', c2'⟩ (Or.inl rfl) (by rw [sp_eq]) (by rw [sp_ne (by decide), sp_ne (by decide)]) (fun d _ => by rw [sp_ne (by decide), sp_ne (by decide)]) (fun j h _ => by rw [sp_ne h, sp_ne h]) rfl (by rw [sp_eq, eo]) (fun j h => by rw [sp_ne h, sp_ne h, sp_ne h]) rfl
end JN
