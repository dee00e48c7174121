/-! ===== PURE: a least tree's sum doesn't hang on how it grows ===== -/
noncomputable def cnt (P : Nat → Prop) : Nat → Nat
  | 0 => 0
  | n + 1 => cnt P n + @ite Nat (P n) (Classical.propDecidable _) 1 0
theorem cnt_congr {P Q : Nat → Prop} : ∀ n : Nat, (∀ i, i < n → (P i ↔ Q i)) → cnt P n = cnt Q n := by
  intro n
  induction n with
  | zero => intro _; rfl
  | succ n ih =>
    intro h
    unfold cnt
    rw [ih (fun i hi => h i (by omega))]
    by_cases hp : P n
    · rw [if_pos hp, if_pos ((h n (by omega)).mp hp)]
    · rw [if_neg hp, if_neg (fun g => hp ((h n (by omega)).mpr g))]
theorem cnt_one {P Q : Nat → Prop} {v0 : Nat} (hP : P v0) (hQ : ¬ Q v0) : ∀ n : Nat, v0 < n → (∀ i, i < n → i ≠ v0 → (P i ↔ Q i)) → cnt P n = cnt Q n + 1 := by
  intro n
  induction n with
  | zero => intro h; exact absurd h (by omega)
  | succ n ih =>
    intro hv h
    unfold cnt
    by_cases he : v0 = n
    · subst he
      rw [if_pos hP, if_neg hQ, cnt_congr v0 (fun i hi => h i (by omega) (by omega))]
    · rw [ih (by omega) (fun i hi => h i (by omega))]
      by_cases hp : P n
      · rw [if_pos hp, if_pos ((h n (by omega) (fun e => he e.symm)).mp hp)]
      · rw [if_neg hp, if_neg (fun g => hp ((h n (by omega) (fun e => he e.symm)).mpr g))]
theorem cnt_zero {P : Nat → Prop} : ∀ n : Nat, (∀ i, i < n → ¬ P i) → cnt P n = 0 := by
  intro n
  induction n with
  | zero => intro _; rfl
  | succ n ih => intro h; unfold cnt; rw [ih (fun i hi => h i (by omega)), if_neg (h n (by omega))]
theorem cnt_none {P : Nat → Prop} : ∀ n : Nat, cnt P n = 0 → ∀ i, i < n → ¬ P i := by
  intro n
  induction n with
  | zero => intro _ i hi; exact absurd hi (by omega)
  | succ n ih =>
    intro h i hi
    unfold cnt at h
    have h1 : cnt P n = 0 := by omega
    by_cases he : i = n
    · subst he
      intro hp
      rw [if_pos hp] at h
      omega
    · exact ih h1 i (by omega)
section MST
variable (n : Nat) (d : Nat → Nat → Int)
def cl (w : Int) (S : Nat → Prop) : Prop := ∀ x y : Nat, x < n → y < n → S x → d x y ≤ w → S y
def conn (w : Int) (a b : Nat) : Prop := ∀ S : Nat → Prop, cl n d w S → S a → S b
def fP (w : Int) (R : Nat → Prop) (v : Nat) : Prop := (∀ x : Nat, x < v → ¬ conn n d w x v) ∧ ∀ r : Nat, r < n → R r → ¬ conn n d w r v
noncomputable def fw (w : Int) (R : Nat → Prop) : Nat := cnt (fP n d w R) n
noncomputable def phi (R : Nat → Prop) : Nat := fw n d 0 R + fw n d 1 R + fw n d 2 R + fw n d 3 R + fw n d 4 R + fw n d 5 R
/-- the tree grows by the vertex b, at the cost L -/
def step (R : Nat → Prop) (b : Nat) (L : Int) : Prop := b < n ∧ ¬ R b ∧ (∃ a : Nat, a < n ∧ R a ∧ d a b = L) ∧ ∀ a e : Nat, a < n → e < n → R a → ¬ R e → L ≤ d a e
variable {n d}
theorem conn_rf {w : Int} (a : Nat) : conn n d w a a := fun _ _ h => h
theorem conn_tr {w : Int} {a b c : Nat} (h : conn n d w a b) (g : conn n d w b c) : conn n d w a c := fun S hS ha => g S hS (h S hS ha)
theorem conn_sm (hd : ∀ x y, d x y = d y x) {w : Int} {a b : Nat} (h : conn n d w a b) : conn n d w b a := fun S hS hb => Classical.byContradiction (fun ha => h (fun x => ¬ S x) (fun x y hx hy hs hw hsy => hs (hS y x hy hx hsy (by rw [hd]; exact hw))) ha hb)
theorem conn_e {w : Int} {a b : Nat} (ha : a < n) (hb : b < n) (h : d a b ≤ w) : conn n d w a b := fun S hS hs => hS a b ha hb hs h
theorem fw_low {w L : Int} {R : Nat → Prop} {b : Nat} (hs : step n d R b L) (hw : L ≤ w) : fw n d w R = fw n d w (fun i => R i ∨ i = b) := by
  obtain ⟨hb, hnb, ⟨a, ha, hRa, hda⟩, hmin⟩ := hs
  refine cnt_congr n (fun v hv => ⟨fun h => ⟨h.1, fun r hr hR => ?_⟩, fun h => ⟨h.1, fun r hr hR => h.2 r hr (Or.inl hR)⟩⟩)
  rcases hR with hR | rfl
  · exact h.2 r hr hR
  · exact fun g => h.2 a ha hRa (conn_tr (conn_e ha hb (by omega)) g)
theorem least_of {P : Nat → Prop} : ∀ b : Nat, P b → ∃ v, v ≤ b ∧ P v ∧ ∀ x, x < v → ¬ P x := by
  intro b
  induction b using Nat.strongRecOn with
  | ind b ih =>
    intro hb
    by_cases h : ∃ x, x < b ∧ P x
    · obtain ⟨x, hx, hp⟩ := h
      obtain ⟨v, h1, h2, h3⟩ := ih x hx hp
      exact ⟨v, by omega, h2, h3⟩
    · exact ⟨b, Nat.le_refl _, hb, fun x hx hp => h ⟨x, hx, hp⟩⟩
theorem fw_high (hd : ∀ x y, d x y = d y x) {w L : Int} {R : Nat → Prop} {b : Nat} (hs : step n d R b L) (hw : w < L) : fw n d w R = fw n d w (fun i => R i ∨ i = b) + 1 := by
  obtain ⟨hb, hnb, -, hmin⟩ := hs
  have hcl : cl n d w R := fun x y hx hy hR hxy => Classical.byContradiction (fun g => by have := hmin x y hx hy hR g; omega)
  have hnc : ∀ r : Nat, R r → ¬ conn n d w r b := fun r hR g => hnb (g R hcl hR)
  obtain ⟨v0, h1, h2, h3⟩ := least_of (P := fun v => conn n d w v b) b (conn_rf b)
  refine cnt_one (v0 := v0) ⟨fun x hx g => h3 x hx (conn_tr g h2), fun r _ hR g => hnc r hR (conn_tr g h2)⟩ (fun g => g.2 b hb (Or.inr rfl) (conn_sm hd h2)) n (by omega) (fun v hv hne => ⟨fun h => ⟨h.1, fun r hr hR => ?_⟩, fun h => ⟨h.1, fun r hr hR => h.2 r hr (Or.inl hR)⟩⟩)
  rcases hR with hR | rfl
  · exact h.2 r hr hR
  · intro g
    have g1 : conn n d w v0 v := conn_tr h2 g
    have g2 : ¬ v0 < v := fun h4 => h.1 v0 h4 g1
    have g3 : ¬ v < v0 := fun h4 => h3 v h4 (conn_sm hd g)
    omega
theorem phi_step (hd : ∀ x y, d x y = d y x) {L : Int} {R : Nat → Prop} {b : Nat} (hs : step n d R b L) (h0 : 0 ≤ L) (h6 : L ≤ 6) : (phi n d R : Int) = L + phi n d (fun i => R i ∨ i = b) := by
  have key : ∀ w : Int, (fw n d w R : Int) = fw n d w (fun i => R i ∨ i = b) + (if w < L then 1 else 0) := fun w => by
    by_cases h : w < L
    · rw [if_pos h, fw_high hd hs h]; omega
    · rw [if_neg h, fw_low hs (by omega)]; omega
  have e0 := key 0; have e1 := key 1; have e2 := key 2; have e3 := key 3; have e4 := key 4; have e5 := key 5
  unfold phi
  rcases (show L = 0 ∨ L = 1 ∨ L = 2 ∨ L = 3 ∨ L = 4 ∨ L = 5 ∨ L = 6 by omega) with rfl | rfl | rfl | rfl | rfl | rfl | rfl <;> simp at e0 e1 e2 e3 e4 e5 <;> omega
theorem phi_end {R : Nat → Prop} (h : ∀ i, i < n → R i) : phi n d R = 0 := by
  have key : ∀ w : Int, fw n d w R = 0 := fun w => cnt_zero n (fun i hi g => g.2 i hi (h i hi) (conn_rf i))
  unfold phi
  rw [key, key, key, key, key, key]
theorem phi_congr {R S : Nat → Prop} (h : ∀ i, i < n → (R i ↔ S i)) : phi n d R = phi n d S := by
  have key : ∀ w : Int, fw n d w R = fw n d w S := fun w => cnt_congr n (fun i hi => ⟨fun g => ⟨g.1, fun r hr hR => g.2 r hr ((h r hr).mpr hR)⟩, fun g => ⟨g.1, fun r hr hR => g.2 r hr ((h r hr).mp hR)⟩⟩)
  unfold phi
  rw [key, key, key, key, key, key]
end MST
