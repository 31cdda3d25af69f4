-- numbers: what the machine's words are of whole numbers
def InR (x : Int) : Prop := -2147483648 ≤ x ∧ x < 2147483648
def InL (x : Int) : Prop := -9223372036854775808 ≤ x ∧ x < 9223372036854775808
theorem n32_add (a b : Int) : Int32.ofInt a + Int32.ofInt b = Int32.ofInt (a + b) := (Int32.ofInt_add a b).symm
theorem n32_sub (a b : Int) : Int32.ofInt a - Int32.ofInt b = Int32.ofInt (a - b) := (Int32.ofInt_sub a b).symm
theorem n32_mul (a b : Int) : Int32.ofInt a * Int32.ofInt b = Int32.ofInt (a * b) := (Int32.ofInt_mul a b).symm
theorem n64_add (a b : Int) : Int64.ofInt a + Int64.ofInt b = Int64.ofInt (a + b) := (Int64.ofInt_add a b).symm
theorem n64_sub (a b : Int) : Int64.ofInt a - Int64.ofInt b = Int64.ofInt (a - b) := (Int64.ofInt_sub a b).symm
theorem n64_mul (a b : Int) : Int64.ofInt a * Int64.ofInt b = Int64.ofInt (a * b) := (Int64.ofInt_mul a b).symm
theorem n32_ti {a : Int} (h : InR a) : (Int32.ofInt a).toInt = a := by
  rw [Int32.toInt_ofInt]
  obtain ⟨h1, h2⟩ := h
  first
    | exact Int.bmod_eq_of_le (by omega) (by omega)
    | (rw [show Int32.size = 4294967296 from rfl, Int.bmod_def]; split <;> omega)
theorem n64_ti {a : Int} (h : InL a) : (Int64.ofInt a).toInt = a := by
  rw [Int64.toInt_ofInt]
  obtain ⟨h1, h2⟩ := h
  first
    | exact Int.bmod_eq_of_le (by omega) (by omega)
    | (rw [show Int64.size = 18446744073709551616 from rfl, Int.bmod_def]; split <;> omega)
theorem n32_in (x : Int32) : InR x.toInt := ⟨by have := Int32.le_toInt x; omega, by have := Int32.toInt_lt x; omega⟩
theorem n64_in (x : Int64) : InL x.toInt := ⟨by have := Int64.le_toInt x; omega, by have := Int64.toInt_lt x; omega⟩
theorem n32_ot (x : Int32) : Int32.ofInt x.toInt = x := Int32.ofInt_toInt x
theorem n64_ot (x : Int64) : Int64.ofInt x.toInt = x := Int64.ofInt_toInt x
theorem n32_nat (n : Nat) : Int32.ofInt (n : Int) = Int32.ofNat n := by
  first | rfl | exact Int32.ofInt_eq_ofNat | simp
theorem n64_nat (n : Nat) : Int64.ofInt (n : Int) = Int64.ofNat n := by
  first | rfl | exact Int64.ofInt_eq_ofNat | simp
theorem n32_lt {a b : Int} (ha : InR a) (hb : InR b) : Int32.ofInt a < Int32.ofInt b ↔ a < b := by
  rw [Int32.lt_iff_toInt_lt, n32_ti ha, n32_ti hb]
theorem n32_le {a b : Int} (ha : InR a) (hb : InR b) : Int32.ofInt a ≤ Int32.ofInt b ↔ a ≤ b := by
  rw [Int32.le_iff_toInt_le, n32_ti ha, n32_ti hb]
theorem n32_eq {a b : Int} (ha : InR a) (hb : InR b) : Int32.ofInt a = Int32.ofInt b ↔ a = b := by
  rw [← Int32.toInt_inj, n32_ti ha, n32_ti hb]
theorem n64_lt {a b : Int} (ha : InL a) (hb : InL b) : Int64.ofInt a < Int64.ofInt b ↔ a < b := by
  rw [Int64.lt_iff_toInt_lt, n64_ti ha, n64_ti hb]
theorem n64_eq {a b : Int} (ha : InL a) (hb : InL b) : Int64.ofInt a = Int64.ofInt b ↔ a = b := by
  rw [← Int64.toInt_inj, n64_ti ha, n64_ti hb]
theorem n32_0 : (0 : Int32) = Int32.ofInt 0 := rfl
theorem n64_0 : (0 : Int64) = Int64.ofInt 0 := rfl
theorem n32_cl {a : Int} (h0 : 0 ≤ a) (h : a < 2147483648) : (Int32.ofInt a).toNatClampNeg = a.toNat := by
  obtain ⟨n, rfl⟩ := Int.eq_ofNat_of_zero_le h0
  rw [n32_nat]
  exact nI_clamp (n := n) (by omega)
theorem n32_vin {a : Int} {n : Nat} (h0 : 0 ≤ a) (h : a < (n : Int)) (hn : n ≤ 2147483647) : vp_in (Int32.ofInt a) n := by
  rw [vp_in_iff, n32_ti ⟨by omega, by omega⟩]
  exact ⟨h0, h⟩
theorem n32_div {a b : Int} (ha : 0 ≤ a) (ha2 : a < 2147483648) (hb : 0 < b) (hb2 : b < 2147483648) : Int32.ofInt a / Int32.ofInt b = Int32.ofInt (a / b) := by
  obtain ⟨x, rfl⟩ := Int.eq_ofNat_of_zero_le ha
  obtain ⟨y, rfl⟩ := Int.eq_ofNat_of_zero_le (Int.le_of_lt hb)
  have h := pk_div (a := x) (d := y) (by omega) (by omega) (by omega)
  rw [show ((x : Int) / (y : Int)) = ((x / y : Nat) : Int) from (Int.natCast_ediv x y).symm]
  rw [n32_nat, n32_nat, n32_nat]
  exact h
theorem n32_rem {a b : Int} (ha : 0 ≤ a) (ha2 : a < 2147483648) (hb : 0 < b) (hb2 : b < 2147483648) : Int32.ofInt a - Int32.ofInt a / Int32.ofInt b * Int32.ofInt b = Int32.ofInt (a % b) := by
  obtain ⟨x, rfl⟩ := Int.eq_ofNat_of_zero_le ha
  obtain ⟨y, rfl⟩ := Int.eq_ofNat_of_zero_le (Int.le_of_lt hb)
  have h := pk_rem (a := x) (d := y) (by omega) (by omega) (by omega)
  rw [show ((x : Int) % (y : Int)) = ((x % y : Nat) : Int) from (Int.natCast_emod x y).symm]
  rw [n32_nat, n32_nat, n32_nat]
  exact h
theorem n64_div {a b : Int} (ha : 0 ≤ a) (ha2 : a < 9223372036854775808) (hb : 0 < b) (hb2 : b < 9223372036854775808) : Int64.ofInt a / Int64.ofInt b = Int64.ofInt (a / b) := by
  obtain ⟨x, rfl⟩ := Int.eq_ofNat_of_zero_le ha
  obtain ⟨y, rfl⟩ := Int.eq_ofNat_of_zero_le (Int.le_of_lt hb)
  have h := pk_lDiv (a := x) (b := y) (by omega) (by omega) (by omega)
  rw [show ((x : Int) / (y : Int)) = ((x / y : Nat) : Int) from (Int.natCast_ediv x y).symm]
  rw [n64_nat, n64_nat, n64_nat]
  exact h
theorem n64_rem {a b : Int} (ha : 0 ≤ a) (ha2 : a < 9223372036854775808) (hb : 0 < b) (hb2 : b < 9223372036854775808) : Int64.ofInt a - Int64.ofInt a / Int64.ofInt b * Int64.ofInt b = Int64.ofInt (a % b) := by
  obtain ⟨x, rfl⟩ := Int.eq_ofNat_of_zero_le ha
  obtain ⟨y, rfl⟩ := Int.eq_ofNat_of_zero_le (Int.le_of_lt hb)
  have h := pk_lRem (a := x) (b := y) (by omega) (by omega) (by omega)
  rw [show ((x : Int) % (y : Int)) = ((x % y : Nat) : Int) from (Int.natCast_emod x y).symm]
  rw [n64_nat, n64_nat, n64_nat]
  exact h
theorem n64_32 (a : Int) : (Int64.ofInt a).toInt32 = Int32.ofInt a := by
  first
    | exact Int64.toInt32_ofInt a
    | simp
theorem n32_64 {a : Int} (h : InR a) : (Int32.ofInt a).toInt64 = Int64.ofInt a := by
  rw [← Int64.toInt_inj, Int32.toInt_toInt64, n32_ti h, n64_ti ⟨by have := h.1; omega, by have := h.2; omega⟩]
theorem n32_xorM (a : Int) : Int32.ofInt a ^^^ Int32.ofInt (-1) = Int32.ofInt (-a - 1) := by
  have h : Int32.ofInt (-a - 1) = -(Int32.ofInt a) - 1 := by
    rw [Int32.ofInt_sub, Int32.ofInt_neg]; rfl
  rw [h, show (Int32.ofInt (-1)) = -1 from rfl]
  rw [Int32.xor_neg_one]
  first | exact Int32.not_eq_neg_sub_one _ | (rw [Int32.not_eq_neg_add])
theorem n32_and {a b : Int} (ha : 0 ≤ a) (ha2 : a < 2147483648) (hb : 0 ≤ b) (hb2 : b < 2147483648) : Int32.ofInt a &&& Int32.ofInt b = Int32.ofInt ((a.toNat &&& b.toNat : Nat) : Int) := by
  obtain ⟨x, rfl⟩ := Int.eq_ofNat_of_zero_le ha
  obtain ⟨y, rfl⟩ := Int.eq_ofNat_of_zero_le hb
  rw [n32_nat, n32_nat, n32_nat, Int.toNat_natCast, Int.toNat_natCast]
  have h : Int32.ofNat (x &&& y) = Int32.ofNat x &&& Int32.ofNat y := by
    apply Int32.toBitVec_inj.1
    show BitVec.ofNat 32 (x &&& y) = BitVec.ofNat 32 x &&& BitVec.ofNat 32 y
    apply BitVec.eq_of_getLsbD_eq
    intro i hi
    simp [hi]
  exact h.symm
theorem n32_or {a b : Int} (ha : 0 ≤ a) (ha2 : a < 2147483648) (hb : 0 ≤ b) (hb2 : b < 2147483648) : Int32.ofInt a ||| Int32.ofInt b = Int32.ofInt ((a.toNat ||| b.toNat : Nat) : Int) := by
  obtain ⟨x, rfl⟩ := Int.eq_ofNat_of_zero_le ha
  obtain ⟨y, rfl⟩ := Int.eq_ofNat_of_zero_le hb
  rw [n32_nat, n32_nat, n32_nat, Int.toNat_natCast, Int.toNat_natCast]
  have h : Int32.ofNat (x ||| y) = Int32.ofNat x ||| Int32.ofNat y := by
    apply Int32.toBitVec_inj.1
    show BitVec.ofNat 32 (x ||| y) = BitVec.ofNat 32 x ||| BitVec.ofNat 32 y
    apply BitVec.eq_of_getLsbD_eq
    intro i hi
    simp [hi]
  exact h.symm

theorem n32_not (c : Int) : Int32.ofInt (-c - 1) = ~~~ (Int32.ofInt c) := by
  rw [← Int32.xor_neg_one, show (-1 : Int32) = Int32.ofInt (-1) from rfl, n32_xorM]
theorem bv_andn (x y : BitVec 32) : x &&& ~~~ y = x - (x &&& y) := by
  have h1 : (x &&& y) &&& (x &&& ~~~ y) = 0#32 := by
    apply BitVec.eq_of_getLsbD_eq
    intro i hi
    simp [hi]
    exact fun _ h _ => h
  have h2 : (x &&& y) ||| (x &&& ~~~ y) = x := by
    apply BitVec.eq_of_getLsbD_eq
    intro i hi
    simp [hi]
    generalize x[i] = a
    generalize y[i] = b
    cases a <;> cases b <;> rfl
  have h3 := BitVec.add_eq_or_of_and_eq_zero _ _ h1
  rw [h2] at h3
  have h4 : x - (x &&& y) = (x &&& y) + (x &&& ~~~ y) - (x &&& y) := by rw [h3]
  rw [h4, BitVec.add_comm, BitVec.add_sub_cancel]
theorem n32_andN {a c : Int} (ha : 0 ≤ a) (ha2 : a < 2147483648) (hc : 0 ≤ c) (hc2 : c < 2147483648) : Int32.ofInt a &&& Int32.ofInt (-c - 1) = Int32.ofInt (a - ((a.toNat &&& c.toNat : Nat) : Int)) := by
  rw [n32_not, Int32.ofInt_sub, ← n32_and ha ha2 hc hc2]
  apply Int32.toBitVec_inj.1
  exact bv_andn _ _
theorem n32_k31 : ∀ k, k < 32 → ((Int32.ofNat k &&& 31).toBitVec.smod 32).toNat = k := by decide +kernel
theorem n32_shl {a k : Int} (ha : 0 ≤ a) (hk : 0 ≤ k) (hk2 : k < 32) (h : a * 2 ^ k.toNat < 4294967296) : Int32.ofInt a <<< (Int32.ofInt k &&& 31) = Int32.ofInt (a * 2 ^ k.toNat) := by
  obtain ⟨x, rfl⟩ := Int.eq_ofNat_of_zero_le ha
  obtain ⟨y, rfl⟩ := Int.eq_ofNat_of_zero_le hk
  rw [n32_nat, n32_nat, Int.toNat_natCast]
  rw [Int.toNat_natCast] at h
  have h9 : x * 2 ^ y < 2 ^ 32 := by
    have : ((x * 2 ^ y : Nat) : Int) < 4294967296 := by rw [Int.natCast_mul, Int.natCast_pow]; exact h
    omega
  rw [show ((x : Int) * 2 ^ y) = ((x * 2 ^ y : Nat) : Int) by rw [Int.natCast_mul, Int.natCast_pow]; rfl, n32_nat]
  exact pk_shlN (n := x) _ y (n32_k31 y (by omega)) h9
theorem n32_shr {a k : Int} (ha : 0 ≤ a) (ha2 : a < 2147483648) (hk : 0 ≤ k) (hk2 : k < 32) : Int32.ofInt a >>> (Int32.ofInt k &&& 31) = Int32.ofInt (a / 2 ^ k.toNat) := by
  obtain ⟨x, rfl⟩ := Int.eq_ofNat_of_zero_le ha
  obtain ⟨y, rfl⟩ := Int.eq_ofNat_of_zero_le hk
  rw [n32_nat, n32_nat, Int.toNat_natCast]
  rw [show ((x : Int) / 2 ^ y) = ((x / 2 ^ y : Nat) : Int) by rw [Int.natCast_ediv, Int.natCast_pow]; rfl, n32_nat]
  exact pk_shrN (n := x) (by omega) _ y (n32_k31 y (by omega))
theorem n32_char {a : Int} (h0 : 0 ≤ a) (h : a < 65536) : ((Int32.ofInt a).toUInt32 % 65536).toInt32 = Int32.ofInt a := by
  obtain ⟨x, rfl⟩ := Int.eq_ofNat_of_zero_le h0
  rw [n32_nat]
  have h1 := pk_char (nI x)
  rw [pk_tn (by omega), Nat.mod_eq_of_lt (by omega)] at h1
  exact h1
theorem n32_63 (a : Int) : Int32.ofInt a &&& Int32.ofInt 63 = Int32.ofInt (a % 64) := by
  have h := pk_and (Int32.ofInt a) (m := Int32.ofInt 63) 6 (by decide)
  rw [h]
  have e : (Int32.ofInt a).toBitVec.toNat = (a % ((2 ^ 32 : Nat) : Int)).toNat := BitVec.toNat_ofInt a
  rw [show ((2 ^ 32 : Nat) : Int) = 4294967296 from rfl] at e
  rw [e]
  have h1 := Int.emod_nonneg a (show (4294967296 : Int) ≠ 0 by omega)
  have h2 : (((a % 4294967296).toNat % 2 ^ 6 : Nat) : Int) = a % 64 := by
    rw [Int.natCast_emod, Int.toNat_of_nonneg h1]
    show a % 4294967296 % 64 = a % 64
    omega
  rw [← h2, n32_nat]
  rfl
