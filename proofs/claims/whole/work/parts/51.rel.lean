/-! ===== PURE: the relation ===== -/
abbrev q32 (x : Int32) (lo hi : Int) : Prop := lo ≤ x.toInt ∧ x.toInt ≤ hi
/-- what was told: things and casts -/
def RK (a13 a14 a15 a16 a17 a18 a19 b0 b1 b2 b3 b4 b5 b6 : Nat → Int32) : Prop :=
  a13 0 = b0 0 ∧ a13 1 = b0 5 ∧ q32 (a13 0) 0 8 ∧ q32 (a13 1) 0 6 ∧
  (∀ t : Nat, (t : Int) < (a13 0).toInt → a14 t = b1 t ∧ a15 t = b2 t ∧ a16 t = b3 t ∧ a17 t = b4 t ∧ q32 (a14 t) 0 9 ∧ q32 (a15 t) 1 30 ∧ q32 (a16 t) 0 6 ∧ (0 ≤ (a17 t).toInt ∧ (a17 t).toInt < 2 ^ t)) ∧
  (∀ c : Nat, (c : Int) < (a13 1).toInt → a18 c = b5 c ∧ a19 c = b6 c ∧ q32 (a18 c) 1 99 ∧ q32 (a19 c) 1 9)
/-- one cast's row of a moment -/
def RC (T B : Int) (nd : Nat → Int32) (f g : Nat → Int32) (c : Nat) : Prop :=
  f (48 + c) = g (49 + c) ∧ f (54 + c) = g (55 + c) ∧ f (60 + c) = g (61 + c) ∧ g (68 + c) = k_orNone (f (66 + c)) ∧
  (0 ≤ (f (48 + c)).toInt ∧ (f (48 + c)).toInt < 2 ^ T.toNat) ∧ q32 (f (54 + c)) 0 63 ∧ (0 ≤ (f (60 + c)).toInt ∧ (f (60 + c)).toInt ≤ B) ∧ (f (66 + c)).toInt < T ∧
  (∀ t : Nat, (t : Int) < T → f (8 * c + t) = g (1 + (8 * c + t)) ∧ (0 ≤ (f (8 * c + t)).toInt ∧ (f (8 * c + t)).toInt ≤ B) ∧
    (bt (f (48 + c)) t = true ∨ (f (66 + c)).toInt = t → nd t &&& (f (48 + c) ^^^ (-1 : Int32)) = 0))
/-- a moment, as the class and as the model hold it -/
def RM (T C : Int) (nd : Nat → Int32) (f g : Nat → Int32) : Prop :=
  f 72 = g 0 ∧ f 73 = g 67 ∧ q32 (f 72) 0 999 ∧ (0 ≤ (f 73).toInt ∧ (f 73).toInt < 2 ^ C.toNat) ∧
  (∀ c : Nat, c < 6 → q32 (f (66 + c)) (-1) 7 ∧ ((g (68 + c)).toInt = -9 ∨ (0 ≤ (g (68 + c)).toInt ∧ (g (68 + c)).toInt < 8))) ∧
  (∀ c : Nat, (c : Int) < C → RC T (9 * (f 72).toInt) nd f g c)
/-- what may be undone -/
def RP (T C : Int) (nd : Nat → Int32) (rows : Nat → Int32) (nx hd : Int32) (st : Nat → Int32) : Prop :=
  hd = st 74 ∧ q32 hd 0 10 ∧ q32 nx 0 9 ∧
  (∀ i : Nat, (i : Int) < hd.toInt → RM T C nd (fun j => rows (74 * ((nx.toInt.toNat + 10 - hd.toInt.toNat + i) % 10) + j)) (fun j => st (75 + (74 * i + j))))
def RS (T C : Int) (nd : Nat → Int32) (row rows : Nat → Int32) (nx hd : Int32) (st : Nat → Int32) : Prop := RM T C nd row st ∧ RP T C nd rows nx hd st
def mo (a21 a22 a23 a24 a25 a26 : Nat → Int32) : Nat → Int32 := fun j =>
  if j < 48 then a22 j else if j < 54 then a23 (j - 48) else if j < 60 then a24 (j - 54) else if j < 66 then a25 (j - 60) else if j < 72 then a26 (j - 66) else if j = 72 then a21 0 else a21 1
def uT (a13 : Nat → Int32) : Int := (a13 0).toInt
def uC (a13 : Nat → Int32) : Int := (a13 1).toInt
/-- the text -/
def RX (a1 a2 b0 b11 : Nat → Int32) : Prop := a1 1 = b0 15 ∧ q32 (a1 1) 0 150 ∧ (∀ j : Nat, (j : Int) < (a1 1).toInt → a2 j = b11 j ∧ q32 (a2 j) 0 255)
/-- what was heard -/
def RH (a13 a44 a45 a46 b0 b10 : Nat → Int32) : Prop := a44 3 = b0 11 ∧ q32 (a44 3) 0 6 ∧
  (∀ i : Nat, (i : Int) < (a44 3).toInt → a45 i = b10 (2 * i) ∧ a46 i = b10 (2 * i + 1) ∧ (0 ≤ (a45 i).toInt ∧ (a45 i).toInt < (a13 0).toInt) ∧ q32 (a46 i) 0 1)
/-- the rows that a reading leaves -/
def RD (a1 a4 b0 : Nat → Int32) : Prop := q32 (a1 4) 0 150 ∧ q32 (a4 0) 0 8 ∧ q32 (a4 1) 0 6 ∧ q32 (b0 16) 0 150 ∧ q32 (b0 22) 0 8 ∧ q32 (b0 27) 0 6
def RI1 (T C : Int) (nd : Nat → Int32) (kept row pa rows b8 : Nat → Int32) (b9 : Int32) (o : Nat) : Prop := kept 2 = b9 ∧ (¬ b9 = 0 → RS T C nd row rows (pa 1) (pa 2) (fun j => b8 (o + j)))
def Rk (u v : xU) : Prop := RK (u.1 13) (u.1 14) (u.1 15) (u.1 16) (u.1 17) (u.1 18) (u.1 19) (v.1 0) (v.1 1) (v.1 2) (v.1 3) (v.1 4) (v.1 5) (v.1 6)
def Rs (u v : xU) : Prop := RS (uT (u.1 13)) (uC (u.1 13)) (u.1 17) (mo (u.1 21) (u.1 22) (u.1 23) (u.1 24) (u.1 25) (u.1 26)) (u.1 28) (u.1 27 1) (u.1 27 2) (v.1 7)
def Rel (u v : xU) : Prop := Rk u v ∧ Rs u v ∧
  RI1 (uT (u.1 13)) (uC (u.1 13)) (u.1 17) (u.1 30) (u.1 31) (u.1 32) (u.1 33) (v.1 8) (v.1 9 0) 0 ∧
  RI1 (uT (u.1 13)) (uC (u.1 13)) (u.1 17) (u.1 34) (u.1 35) (u.1 36) (u.1 37) (v.1 8) (v.1 9 1) 815 ∧
  RX (u.1 1) (u.1 2) (v.1 0) (v.1 11) ∧ RH (u.1 13) (u.1 44) (u.1 45) (u.1 46) (v.1 0) (v.1 10) ∧ RD (u.1 1) (u.1 4) (v.1 0) ∧ u.2 = v.2
theorem Rel0 : Rel u0C u0M := by
  refine ⟨⟨rfl, rfl, by decide, by decide, fun t h => ?_, fun c h => ?_⟩, ⟨⟨rfl, rfl, by decide, by decide, fun c h => ?_, fun c h => ?_⟩, rfl, by decide, by decide, fun i h => ?_⟩, ⟨rfl, fun h => absurd rfl h⟩, ⟨rfl, fun h => absurd rfl h⟩, ⟨rfl, by decide, fun j h => ?_⟩, ⟨rfl, by decide, fun j h => ?_⟩, ⟨by decide, by decide, by decide, by decide, by decide, by decide⟩, rfl⟩
  · exact absurd (show (t : Int) < 0 from h) (by omega)
  · exact absurd (show (c : Int) < 0 from h) (by omega)
  · refine ⟨?_, Or.inr (show 0 ≤ (0 : Int32).toInt ∧ (0 : Int32).toInt < 8 by decide)⟩
    have : ∀ k : Fin 6, q32 (mo (u0C.1 21) (u0C.1 22) (u0C.1 23) (u0C.1 24) (u0C.1 25) (u0C.1 26) (66 + k.val)) (-1) 7 := by
      intro k
      match k with
      | 0 => exact (by decide) | 1 => exact (by decide) | 2 => exact (by decide) | 3 => exact (by decide) | 4 => exact (by decide) | 5 => exact (by decide)
    exact this ⟨c, h⟩
  · exact absurd (show (c : Int) < 0 from h) (by omega)
  · exact absurd (show (i : Int) < 0 from h) (by omega)
  · exact absurd (show (j : Int) < 0 from h) (by omega)
  · exact absurd (show (j : Int) < 0 from h) (by omega)
