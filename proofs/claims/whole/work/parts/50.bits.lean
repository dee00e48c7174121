/-! ===== PURE: indices and bits ===== -/
theorem nk {k c : Int32} {K : Nat} (hk : k.toInt = (K : Int)) (hK : K < 1000) (h0 : 0 ≤ c.toInt) (h1 : c.toInt < 1000) : (k + c).toNatClampNeg = K + c.toNatClampNeg := by
  have e : (k + c).toInt = K + c.toInt := xadd hk rfl (by omega) (by omega)
  show (k + c).toInt.toNat = K + c.toInt.toNat
  rw [e]; omega
theorem nfar {c t : Int32} (h0 : 0 ≤ c.toInt) (h1 : c.toInt < 6) (g0 : 0 ≤ t.toInt) (g1 : t.toInt < 8) : ((c * (8 : Int32)) + t).toNatClampNeg = 8 * c.toNatClampNeg + t.toNatClampNeg := by
  have e1 : (c * 8).toInt = c.toInt * 8 := xmul rfl rfl (by omega) (by omega)
  have e : ((c * 8) + t).toInt = c.toInt * 8 + t.toInt := xadd e1 rfl (by omega) (by omega)
  show ((c * 8) + t).toInt.toNat = 8 * c.toInt.toNat + t.toInt.toNat
  rw [e]; omega
theorem nfarm {c t : Int32} (h0 : 0 ≤ c.toInt) (h1 : c.toInt < 6) (g0 : 0 ≤ t.toInt) (g1 : t.toInt < 8) : (((1 : Int32) + ((8 : Int32) * c)) + t).toNatClampNeg = 1 + (8 * c.toNatClampNeg + t.toNatClampNeg) := by
  have e1 : ((8 : Int32) * c).toInt = 8 * c.toInt := xmul rfl rfl (by omega) (by omega)
  have e2 : ((1 : Int32) + (8 : Int32) * c).toInt = 1 + 8 * c.toInt := xadd rfl e1 (by omega) (by omega)
  have e : ((1 : Int32) + (8 : Int32) * c + t).toInt = 1 + 8 * c.toInt + t.toInt := xadd e2 rfl (by omega) (by omega)
  show ((1 : Int32) + (8 : Int32) * c + t).toInt.toNat = 1 + (8 * c.toInt.toNat + t.toInt.toNat)
  rw [e]; omega
theorem nlt {c : Int32} {n : Int} (h1 : c.toInt < n) (h0 : 0 ≤ c.toInt) : ((c.toNatClampNeg : Nat) : Int) < n := by
  show ((c.toInt.toNat : Nat) : Int) < n
  omega
theorem nI_cl {j : Nat} (h : j < 2147483648) : (nI j).toNatClampNeg = j := by
  show (nI j).toInt.toNat = j
  rw [nI_toInt h]; omega
theorem nI_ofc {c : Int32} (h0 : 0 ≤ c.toInt) : c = nI c.toNatClampNeg := Int32.toInt_inj.mp (by
  have := Int32.toInt_lt c
  rw [nI_toInt (by show c.toInt.toNat < _; omega)]
  show c.toInt = (c.toInt.toNat : Nat)
  omega)
def bt (x : Int32) (i : Nat) : Bool := x.toBitVec.getLsbD i
theorem bt_or (x y : Int32) (i : Nat) : bt (x ||| y) i = (bt x i || bt y i) := by unfold bt; rw [Int32.toBitVec_or, BitVec.getLsbD_or]
theorem bt_and (x y : Int32) (i : Nat) : bt (x &&& y) i = (bt x i && bt y i) := by unfold bt; rw [Int32.toBitVec_and, BitVec.getLsbD_and]
theorem bt_xor (x y : Int32) (i : Nat) : bt (x ^^^ y) i = (bt x i ^^ bt y i) := by unfold bt; rw [Int32.toBitVec_xor, BitVec.getLsbD_xor]
theorem bt_big (x : Int32) {i : Nat} (h : 32 ≤ i) : bt x i = false := BitVec.getLsbD_of_ge _ _ h
theorem bt_m1 {i : Nat} (h : i < 32) : bt (-1 : Int32) i = true := by
  have : ∀ k : Fin 32, bt (-1 : Int32) k.val = true := by decide +kernel
  exact this ⟨i, h⟩
theorem bt_0 (i : Nat) : bt (0 : Int32) i = false := by
  by_cases h : i < 32
  · have : ∀ k : Fin 32, bt (0 : Int32) k.val = false := by decide +kernel
    exact this ⟨i, h⟩
  · exact bt_big _ (by omega)
theorem bt_not (x : Int32) {i : Nat} (h : i < 32) : bt (x ^^^ (-1 : Int32)) i = !bt x i := by rw [bt_xor, bt_m1 h]; cases bt x i <;> rfl
theorem bt_ext {x y : Int32} (h : ∀ i : Nat, i < 32 → bt x i = bt y i) : x = y := Int32.toBitVec_inj.1 (BitVec.eq_of_getLsbD_eq h)
theorem bt_sh {t : Int32} (h0 : 0 ≤ t.toInt) (h1 : t.toInt < 32) (i : Nat) : bt ((1 : Int32) <<< (t &&& 31)) i = decide (i = t.toNatClampNeg) := by
  obtain ⟨j, hj, rfl⟩ := xof8 (n := 32) h0 h1 (by decide)
  rw [nI_cl (by omega)]
  by_cases h : i < 32
  · have : ∀ k i : Fin 32, bt ((1 : Int32) <<< (nI k.val &&& 31)) i.val = decide (i.val = k.val) := by decide +kernel
    exact this ⟨j, hj⟩ ⟨i, h⟩
  · rw [bt_big _ (by omega)]
    exact (decide_eq_false (by omega)).symm
theorem has_bt (x : Int32) {t : Int32} (h0 : 0 ≤ t.toInt) (h1 : t.toInt < 32) : k_has x t = bt x t.toNatClampNeg := by
  obtain ⟨j, hj, rfl⟩ := xof8 (n := 32) h0 h1 (by decide)
  rw [nI_cl (by omega)]
  have e : ((nI j &&& 31).toBitVec.smod 32) = BitVec.ofNat 32 j := by
    have : ∀ k : Fin 32, ((nI k.val &&& 31).toBitVec.smod 32) = BitVec.ofNat 32 k.val := by decide +kernel
    exact this ⟨j, hj⟩
  have e2 : ((x >>> (nI j &&& 31)) &&& (1 : Int32)).toBitVec = x.toBitVec.sshiftRight j &&& 1#32 := by
    rw [Int32.toBitVec_and, Int32.toBitVec_shiftRight, e, BitVec.sshiftRight_eq']
    rw [BitVec.toNat_ofNat, Nat.mod_eq_of_lt (by omega)]
    rfl
  have e3 : (x.toBitVec.sshiftRight j).getLsbD 0 = bt x j := by
    rw [BitVec.getLsbD_sshiftRight]
    simp [bt, hj]
  unfold k_has
  rw [BitVec.and_one_eq_setWidth_ofBool_getLsbD, e3] at e2
  cases hb : bt x j with
  | true =>
    rw [hb] at e2
    exact if_pos (Int32.toBitVec_inj.1 (by rw [e2]; decide))
  | false =>
    rw [hb] at e2
    refine if_neg (fun h => ?_)
    rw [h] at e2
    exact absurd e2 (by decide)
theorem mhas : m_has = k_has := rfl
theorem toInt_nat {x : Int32} (h0 : 0 ≤ x.toInt) : x.toInt = (x.toBitVec.toNat : Int) := by
  have h := Int32.toInt_toBitVec x
  rw [← h] at h0 ⊢
  exact BitVec.toInt_eq_toNat_of_lt (by
    rw [BitVec.toInt_eq_toNat_cond] at h0
    split at h0
    · assumption
    · have := x.toBitVec.isLt; omega)
theorem bt_lt {x : Int32} {n i : Nat} (h0 : 0 ≤ x.toInt) (h1 : x.toInt < 2 ^ n) (hi : n ≤ i) : bt x i = false := by
  rw [toInt_nat h0] at h1
  unfold bt
  show x.toBitVec.toNat.testBit i = false
  refine Nat.testBit_lt_two_pow ?_
  have h2 : x.toBitVec.toNat < 2 ^ n := by exact_mod_cast h1
  exact Nat.lt_of_lt_of_le h2 (Nat.pow_le_pow_right (by decide) hi)
theorem lt_bt {x : Int32} {n : Nat} (hn : n ≤ 31) (h : ∀ i : Nat, n ≤ i → i < 32 → bt x i = false) : 0 ≤ x.toInt ∧ x.toInt < 2 ^ n := by
  have h1 : x.toBitVec.toNat < 2 ^ n := Nat.lt_pow_two_of_testBit _ (fun i hi => by
    by_cases h3 : i < 32
    · exact h i hi h3
    · exact bt_big x (by omega))
  have h2 : (2 : Nat) ^ n ≤ 2 ^ 31 := Nat.pow_le_pow_right (by decide) hn
  have h3 : x.toInt = (x.toBitVec.toNat : Int) := by
    rw [← Int32.toInt_toBitVec]
    exact BitVec.toInt_eq_toNat_of_lt (by omega)
  rw [h3]
  exact ⟨by omega, by exact_mod_cast h1⟩
theorem sub_iff {x y : Int32} : (x &&& (y ^^^ (-1 : Int32))) = 0 ↔ ∀ i : Nat, i < 32 → bt x i = true → bt y i = true := by
  constructor
  · intro h i hi hx
    have h1 := congrArg (fun z => bt z i) h
    simp only [bt_and, bt_not _ hi, bt_0, hx, Bool.true_and] at h1
    cases hb : bt y i with
    | true => rfl
    | false => rw [hb] at h1; exact absurd h1 (by decide)
  · intro h
    refine bt_ext (fun i hi => ?_)
    rw [bt_and, bt_not _ hi, bt_0]
    cases hx : bt x i with
    | false => rfl
    | true => rw [h i hi hx]; rfl
theorem or_0 (x : Int32) : x ||| (0 : Int32) = x := bt_ext (fun i _ => by rw [bt_or, bt_0, Bool.or_false])
theorem b2i_0 {b : Bool} : b2i b = (0 : Int32) ↔ b = false := by cases b <;> decide
theorem b2i_1 {b : Bool} : b2i b = (1 : Int32) ↔ b = true := by cases b <;> decide
theorem bits_eq {x : Int32} (h0 : 0 ≤ x.toInt) (h1 : x.toInt < 256) : j_bitCount x = m_bits x := by
  obtain ⟨j, hj, rfl⟩ := xof8 (n := 256) h0 h1 (by decide)
  have : ∀ k : Fin 256, j_bitCount (nI k.val) = m_bits (nI k.val) := by decide +kernel
  exact this ⟨j, hj⟩
theorem bits_rng {x : Int32} (h0 : 0 ≤ x.toInt) (h1 : x.toInt < 256) : 0 ≤ (m_bits x).toInt ∧ (m_bits x).toInt ≤ 8 := by
  obtain ⟨j, hj, rfl⟩ := xof8 (n := 256) h0 h1 (by decide)
  have : ∀ k : Fin 256, 0 ≤ (m_bits (nI k.val)).toInt ∧ (m_bits (nI k.val)).toInt ≤ 8 := by decide +kernel
  exact this ⟨j, hj⟩
theorem bits_pow {x : Int32} {n : Nat} (hn : n ≤ 6) (h0 : 0 ≤ x.toInt) (h1 : x.toInt < 2 ^ n) : 0 ≤ (m_bits x).toInt ∧ (m_bits x).toInt ≤ n := by
  have h2 : (2 : Int) ^ n ≤ 2 ^ 6 := by exact_mod_cast Nat.pow_le_pow_right (n := 2) (by decide) hn
  obtain ⟨j, hj, rfl⟩ := xof8 (n := 64) h0 (by omega) (by decide)
  rw [nI_toInt (by omega)] at h1
  have h3 : j < 2 ^ n := by exact_mod_cast h1
  have : ∀ (m : Fin 7) (k : Fin 64), k.val < 2 ^ m.val → 0 ≤ (m_bits (nI k.val)).toInt ∧ (m_bits (nI k.val)).toInt ≤ m.val := by decide +kernel
  exact this ⟨n, by omega⟩ ⟨j, hj⟩ h3
theorem inc {x : Int32} {n : Int} (h0 : 0 ≤ x.toInt) (h1 : x.toInt < n) (hn : n < 2000) : (x + 1).toInt = x.toInt + 1 := xadd rfl rfl (by have : (1 : Int32).toInt = 1 := rfl; omega) (by have : (1 : Int32).toInt = 1 := rfl; omega)
