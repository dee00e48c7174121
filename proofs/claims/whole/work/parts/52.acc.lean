/-! ===== PURE: what the relation says of each cell ===== -/
theorem mo_far (a b c d e f : Nat → Int32) {j : Nat} (h : j < 48) : mo a b c d e f j = b j := by unfold mo; rw [if_pos h]
theorem mo_can (a b c d e f : Nat → Int32) {j : Nat} (h : j < 6) : mo a b c d e f (48 + j) = c j := by
  unfold mo; rw [if_neg (by omega), if_pos (by omega), Nat.add_sub_cancel_left]
theorem mo_lacks (a b c d e f : Nat → Int32) {j : Nat} (h : j < 6) : mo a b c d e f (54 + j) = d j := by
  unfold mo; rw [if_neg (by omega), if_neg (by omega), if_pos (by omega), Nat.add_sub_cancel_left]
theorem mo_cracks (a b c d e f : Nat → Int32) {j : Nat} (h : j < 6) : mo a b c d e f (60 + j) = e j := by
  unfold mo; rw [if_neg (by omega), if_neg (by omega), if_neg (by omega), if_pos (by omega), Nat.add_sub_cancel_left]
theorem mo_course (a b c d e f : Nat → Int32) {j : Nat} (h : j < 6) : mo a b c d e f (66 + j) = f j := by
  unfold mo; rw [if_neg (by omega), if_neg (by omega), if_neg (by omega), if_neg (by omega), if_pos (by omega), Nat.add_sub_cancel_left]
theorem mo_night (a b c d e f : Nat → Int32) : mo a b c d e f 72 = a 0 := rfl
theorem mo_broken (a b c d e f : Nat → Int32) : mo a b c d e f 73 = a 1 := rfl
section ACC
variable {u v : xU} (hR : Rel u v)
theorem Rel.T (hR : Rel u v) : u.1 13 0 = v.1 0 0 := hR.1.1
theorem Rel.C (hR : Rel u v) : u.1 13 1 = v.1 0 5 := hR.1.2.1
theorem Rel.bT (hR : Rel u v) : 0 ≤ (u.1 13 0).toInt ∧ (u.1 13 0).toInt ≤ 8 := hR.1.2.2.1
theorem Rel.bC (hR : Rel u v) : 0 ≤ (u.1 13 1).toInt ∧ (u.1 13 1).toInt ≤ 6 := hR.1.2.2.2.1
theorem Rel.mT (hR : Rel u v) : 0 ≤ (v.1 0 0).toInt ∧ (v.1 0 0).toInt ≤ 8 := hR.T ▸ hR.bT
theorem Rel.mC (hR : Rel u v) : 0 ≤ (v.1 0 5).toInt ∧ (v.1 0 5).toInt ≤ 6 := hR.C ▸ hR.bC
theorem Rel.thing (hR : Rel u v) {t : Nat} (h : (t : Int) < (u.1 13 0).toInt) : u.1 14 t = v.1 1 t ∧ u.1 15 t = v.1 2 t ∧ u.1 16 t = v.1 3 t ∧ u.1 17 t = v.1 4 t ∧ q32 (u.1 14 t) 0 9 ∧ q32 (u.1 15 t) 1 30 ∧ q32 (u.1 16 t) 0 6 ∧ (0 ≤ (u.1 17 t).toInt ∧ (u.1 17 t).toInt < 2 ^ t) := hR.1.2.2.2.2.1 t h
theorem Rel.cast (hR : Rel u v) {c : Nat} (h : (c : Int) < (u.1 13 1).toInt) : u.1 18 c = v.1 5 c ∧ u.1 19 c = v.1 6 c ∧ q32 (u.1 18 c) 1 99 ∧ q32 (u.1 19 c) 1 9 := hR.1.2.2.2.2.2 c h
theorem Rel.M (hR : Rel u v) : RM (uT (u.1 13)) (uC (u.1 13)) (u.1 17) (mo (u.1 21) (u.1 22) (u.1 23) (u.1 24) (u.1 25) (u.1 26)) (v.1 7) := hR.2.1.1
theorem Rel.P (hR : Rel u v) : RP (uT (u.1 13)) (uC (u.1 13)) (u.1 17) (u.1 28) (u.1 27 1) (u.1 27 2) (v.1 7) := hR.2.1.2
theorem Rel.night (hR : Rel u v) : u.1 21 0 = v.1 7 0 := hR.M.1
theorem Rel.broken (hR : Rel u v) : u.1 21 1 = v.1 7 67 := hR.M.2.1
theorem Rel.bnight (hR : Rel u v) : 0 ≤ (u.1 21 0).toInt ∧ (u.1 21 0).toInt ≤ 999 := hR.M.2.2.1
theorem Rel.bbroken (hR : Rel u v) : 0 ≤ (u.1 21 1).toInt ∧ (u.1 21 1).toInt < 2 ^ (u.1 13 1).toInt.toNat := hR.M.2.2.2.1
theorem Rel.rc (hR : Rel u v) {c : Nat} (h : (c : Int) < (u.1 13 1).toInt) : c < 6 ∧ RC (uT (u.1 13)) (9 * (u.1 21 0).toInt) (u.1 17) (mo (u.1 21) (u.1 22) (u.1 23) (u.1 24) (u.1 25) (u.1 26)) (v.1 7) c := ⟨by have := hR.bC; omega, hR.M.2.2.2.2.2 c h⟩
theorem Rel.can (hR : Rel u v) {c : Nat} (h : (c : Int) < (u.1 13 1).toInt) : v.1 7 (49 + c) = u.1 23 c := by
  obtain ⟨h6, r⟩ := hR.rc h; have := r.1; rw [mo_can _ _ _ _ _ _ h6] at this; exact this.symm
theorem Rel.lacks (hR : Rel u v) {c : Nat} (h : (c : Int) < (u.1 13 1).toInt) : v.1 7 (55 + c) = u.1 24 c := by
  obtain ⟨h6, r⟩ := hR.rc h; have := r.2.1; rw [mo_lacks _ _ _ _ _ _ h6] at this; exact this.symm
theorem Rel.cracks (hR : Rel u v) {c : Nat} (h : (c : Int) < (u.1 13 1).toInt) : v.1 7 (61 + c) = u.1 25 c := by
  obtain ⟨h6, r⟩ := hR.rc h; have := r.2.2.1; rw [mo_cracks _ _ _ _ _ _ h6] at this; exact this.symm
theorem Rel.course (hR : Rel u v) {c : Nat} (h : (c : Int) < (u.1 13 1).toInt) : v.1 7 (68 + c) = k_orNone (u.1 26 c) := by
  obtain ⟨h6, r⟩ := hR.rc h; have := r.2.2.2.1; rw [mo_course _ _ _ _ _ _ h6] at this; exact this
theorem Rel.bcan (hR : Rel u v) {c : Nat} (h : (c : Int) < (u.1 13 1).toInt) : 0 ≤ (u.1 23 c).toInt ∧ (u.1 23 c).toInt < 2 ^ (u.1 13 0).toInt.toNat := by
  obtain ⟨h6, r⟩ := hR.rc h; have := r.2.2.2.2.1; rw [mo_can _ _ _ _ _ _ h6] at this; exact this
theorem pow8 {n : Int} (h0 : 0 ≤ n) (h1 : n ≤ 8) : (2 : Int) ^ n.toNat ≤ 256 := by
  have : (2 : Int) ^ n.toNat ≤ 2 ^ 8 := by exact_mod_cast Nat.pow_le_pow_right (n := 2) (by decide) (show n.toNat ≤ 8 by omega)
  omega
theorem pow6 {n : Int} (h0 : 0 ≤ n) (h1 : n ≤ 6) : (2 : Int) ^ n.toNat ≤ 64 := by
  have : (2 : Int) ^ n.toNat ≤ 2 ^ 6 := by exact_mod_cast Nat.pow_le_pow_right (n := 2) (by decide) (show n.toNat ≤ 6 by omega)
  omega
theorem Rel.bcan8 (hR : Rel u v) {c : Nat} (h : (c : Int) < (u.1 13 1).toInt) : 0 ≤ (u.1 23 c).toInt ∧ (u.1 23 c).toInt < 256 := by
  have h1 := hR.bcan h
  have h2 := pow8 hR.bT.1 hR.bT.2
  omega
theorem Rel.blacks (hR : Rel u v) {c : Nat} (h : (c : Int) < (u.1 13 1).toInt) : 0 ≤ (u.1 24 c).toInt ∧ (u.1 24 c).toInt ≤ 63 := by
  obtain ⟨h6, r⟩ := hR.rc h; have := r.2.2.2.2.2.1; rw [mo_lacks _ _ _ _ _ _ h6] at this; exact this
theorem Rel.bcracks (hR : Rel u v) {c : Nat} (h : (c : Int) < (u.1 13 1).toInt) : 0 ≤ (u.1 25 c).toInt ∧ (u.1 25 c).toInt ≤ 9 * (u.1 21 0).toInt := by
  obtain ⟨h6, r⟩ := hR.rc h; have := r.2.2.2.2.2.2.1; rw [mo_cracks _ _ _ _ _ _ h6] at this; exact this
theorem Rel.bcourse (hR : Rel u v) {c : Nat} (h : (c : Int) < (u.1 13 1).toInt) : -1 ≤ (u.1 26 c).toInt ∧ (u.1 26 c).toInt < (u.1 13 0).toInt := by
  obtain ⟨h6, r⟩ := hR.rc h; have := r.2.2.2.2.2.2.2.1; rw [mo_course _ _ _ _ _ _ h6] at this
  have h2 := (hR.M.2.2.2.2.1 c h6).1
  rw [mo_course _ _ _ _ _ _ h6] at h2
  exact ⟨h2.1, this⟩
theorem Rel.far (hR : Rel u v) {c t : Nat} (h : (c : Int) < (u.1 13 1).toInt) (g : (t : Int) < (u.1 13 0).toInt) : v.1 7 (1 + (8 * c + t)) = u.1 22 (8 * c + t) ∧ (0 ≤ (u.1 22 (8 * c + t)).toInt ∧ (u.1 22 (8 * c + t)).toInt ≤ 9 * (u.1 21 0).toInt) := by
  obtain ⟨h6, r⟩ := hR.rc h
  have := r.2.2.2.2.2.2.2.2 t g
  have hT := hR.bT
  rw [mo_far _ _ _ _ _ _ (by omega)] at this
  exact ⟨this.1.symm, this.2.1⟩
theorem Rel.closed (hR : Rel u v) {c t : Nat} (h : (c : Int) < (u.1 13 1).toInt) (g : (t : Int) < (u.1 13 0).toInt) (hb : bt (u.1 23 c) t = true ∨ (u.1 26 c).toInt = t) : u.1 17 t &&& (u.1 23 c ^^^ (-1 : Int32)) = 0 := by
  obtain ⟨h6, r⟩ := hR.rc h
  have := (r.2.2.2.2.2.2.2.2 t g).2.2
  rw [mo_can _ _ _ _ _ _ h6, mo_course _ _ _ _ _ _ h6] at this
  exact this hb
theorem Rel.kK (hR : Rel u v) : kK (u.1 26) := fun i hi => by
  have h2 := (hR.M.2.2.2.2.1 i hi).1
  rw [mo_course _ _ _ _ _ _ hi] at h2
  exact ⟨h2.1, by omega⟩
theorem Rel.mK (hR : Rel u v) : mK (v.1 7) := fun i hi => (hR.M.2.2.2.2.1 i hi).2
/-- by an Int32 number of a cast -/
theorem Rel.ic (hR : Rel u v) {c : Int32} (h0 : 0 ≤ c.toInt) (h1 : c.toInt < (u.1 13 1).toInt) : ((c.toNatClampNeg : Nat) : Int) < (u.1 13 1).toInt ∧ ((49 : Int32) + c).toNatClampNeg = 49 + c.toNatClampNeg ∧ ((55 : Int32) + c).toNatClampNeg = 55 + c.toNatClampNeg ∧ ((61 : Int32) + c).toNatClampNeg = 61 + c.toNatClampNeg ∧ ((68 : Int32) + c).toNatClampNeg = 68 + c.toNatClampNeg := by
  have := hR.bC
  exact ⟨nlt h1 h0, nk rfl (by decide) h0 (by omega), nk rfl (by decide) h0 (by omega), nk rfl (by decide) h0 (by omega), nk rfl (by decide) h0 (by omega)⟩
theorem Rel.ican (hR : Rel u v) {c : Int32} (h0 : 0 ≤ c.toInt) (h1 : c.toInt < (u.1 13 1).toInt) : v.1 7 ((49 : Int32) + c).toNatClampNeg = u.1 23 c.toNatClampNeg := by
  rw [(hR.ic h0 h1).2.1]; exact hR.can (nlt h1 h0)
theorem Rel.ilacks (hR : Rel u v) {c : Int32} (h0 : 0 ≤ c.toInt) (h1 : c.toInt < (u.1 13 1).toInt) : v.1 7 ((55 : Int32) + c).toNatClampNeg = u.1 24 c.toNatClampNeg := by
  rw [(hR.ic h0 h1).2.2.1]; exact hR.lacks (nlt h1 h0)
theorem Rel.icracks (hR : Rel u v) {c : Int32} (h0 : 0 ≤ c.toInt) (h1 : c.toInt < (u.1 13 1).toInt) : v.1 7 ((61 : Int32) + c).toNatClampNeg = u.1 25 c.toNatClampNeg := by
  rw [(hR.ic h0 h1).2.2.2.1]; exact hR.cracks (nlt h1 h0)
theorem Rel.icourse (hR : Rel u v) {c : Int32} (h0 : 0 ≤ c.toInt) (h1 : c.toInt < (u.1 13 1).toInt) : v.1 7 ((68 : Int32) + c).toNatClampNeg = k_orNone (u.1 26 c.toNatClampNeg) := by
  rw [(hR.ic h0 h1).2.2.2.2]; exact hR.course (nlt h1 h0)
theorem Rel.ifar (hR : Rel u v) {c t : Int32} (h0 : 0 ≤ c.toInt) (h1 : c.toInt < (u.1 13 1).toInt) (g0 : 0 ≤ t.toInt) (g1 : t.toInt < (u.1 13 0).toInt) : v.1 7 (((1 : Int32) + ((8 : Int32) * c)) + t).toNatClampNeg = u.1 22 ((c * (8 : Int32)) + t).toNatClampNeg := by
  have hT := hR.bT
  have hC := hR.bC
  rw [nfar h0 (by omega) g0 (by omega), nfarm h0 (by omega) g0 (by omega)]; exact (hR.far (nlt h1 h0) (nlt g1 g0)).1
theorem in_iff {x a b : Int32} : m_in x a b = true ↔ a.toInt ≤ x.toInt ∧ x.toInt ≤ b.toInt := by
  unfold m_in
  split
  · rename_i h; have := xq_lt h rfl rfl; exact ⟨fun h => absurd h (by decide), fun h => absurd h.1 (by omega)⟩
  · rename_i h; have h := xq_nlt h rfl rfl
    split
    · rename_i g; have := xq_lt g rfl rfl; exact ⟨fun h => absurd h (by decide), fun h => absurd h.2 (by omega)⟩
    · rename_i g; have g := xq_nlt g rfl rfl; exact ⟨fun _ => ⟨h, g⟩, fun _ => rfl⟩
theorem cast_iff {u : xU} {x : Int32} : k_Hall_isCast u x = true ↔ 0 ≤ x.toInt ∧ x.toInt < (u.1 13 1).toInt := by
  unfold k_Hall_isCast
  split
  · rename_i h; have := xq_lt h rfl (b := 0) rfl; exact ⟨fun h => absurd h (by decide), fun h => absurd h.1 (by omega)⟩
  · rename_i h; have h := xq_nlt h rfl (b := 0) rfl
    split
    · rename_i g; have := xq_le g rfl rfl; exact ⟨fun h => absurd h (by decide), fun h => absurd h.2 (by omega)⟩
    · rename_i g; have g := xq_nle g rfl rfl; exact ⟨fun _ => ⟨h, g⟩, fun _ => rfl⟩
theorem thing_iff {u : xU} {x : Int32} : k_Hall_isThing u x = true ↔ 0 ≤ x.toInt ∧ x.toInt < (u.1 13 0).toInt := by
  unfold k_Hall_isThing
  split
  · rename_i h; have := xq_lt h rfl (b := 0) rfl; exact ⟨fun h => absurd h (by decide), fun h => absurd h.1 (by omega)⟩
  · rename_i h; have h := xq_nlt h rfl (b := 0) rfl
    split
    · rename_i g; have := xq_le g rfl rfl; exact ⟨fun h => absurd h (by decide), fun h => absurd h.2 (by omega)⟩
    · rename_i g; have g := xq_nle g rfl rfl; exact ⟨fun _ => ⟨h, g⟩, fun _ => rfl⟩
theorem Rel.isCast (hR : Rel u v) (x : Int32) : m_isCast v x = k_Hall_isCast u x := by
  rw [Bool.eq_iff_iff, cast_iff, m_isCast, in_iff, ← hR.C]
  have := hR.bC
  have e : (u.1 13 1 - 1).toInt = (u.1 13 1).toInt - 1 := xsub rfl rfl (by have : (1 : Int32).toInt = 1 := rfl; omega) (by have : (1 : Int32).toInt = 1 := rfl; omega)
  rw [e, show (0 : Int32).toInt = 0 from rfl]
  omega
theorem Rel.isThing (hR : Rel u v) (x : Int32) : m_isThing v x = k_Hall_isThing u x := by
  rw [Bool.eq_iff_iff, thing_iff, m_isThing, in_iff, ← hR.T]
  have := hR.bT
  have e : (u.1 13 0 - 1).toInt = (u.1 13 0).toInt - 1 := xsub rfl rfl (by have : (1 : Int32).toInt = 1 := rfl; omega) (by have : (1 : Int32).toInt = 1 := rfl; omega)
  rw [e, show (0 : Int32).toInt = 0 from rfl]
  omega
end ACC
