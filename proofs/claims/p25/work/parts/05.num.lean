/-! numbers: an int of the machine is 'zI z' of an integer z -/
def zI (z : Int) : Int32 := Int32.ofInt z
def zL (z : Int) : Int64 := Int64.ofInt z
def iv (z : Int) : Value := .int (zI z)
def lo (z : Int) : Value := .long (zL z)
def rv (r : Option Nat) : Value := va_rf r
abbrev rng (z : Int) : Prop := -2147483648 ≤ z ∧ z ≤ 2147483647
abbrev rngL (z : Int) : Prop := -9223372036854775808 ≤ z ∧ z ≤ 9223372036854775807
theorem zI_add (a b : Int) : zI a + zI b = zI (a + b) := (Int32.ofInt_add a b).symm
theorem zI_sub (a b : Int) : zI a - zI b = zI (a - b) := (Int32.ofInt_sub a b).symm
theorem zI_mul (a b : Int) : zI a * zI b = zI (a * b) := (Int32.ofInt_mul a b).symm
theorem zI_neg (a : Int) : -zI a = zI (-a) := (Int32.ofInt_neg a).symm
theorem zL_add (a b : Int) : zL a + zL b = zL (a + b) := (Int64.ofInt_add a b).symm
theorem zL_mul (a b : Int) : zL a * zL b = zL (a * b) := (Int64.ofInt_mul a b).symm
theorem zI_int {z : Int} (h : rng z) : (zI z).toInt = z := Int32.toInt_ofInt_of_le (by omega) (by omega)
theorem zL_int {z : Int} (h : rngL z) : (zL z).toInt = z := Int64.toInt_ofInt_of_le (by omega) (by omega)
theorem zI_of (x : Int32) : ∃ z : Int, rng z ∧ x = zI z := ⟨x.toInt, by have h1 := x.le_toInt; have h2 := x.toInt_lt; constructor <;> omega, (Int32.ofInt_toInt x).symm⟩
theorem zI_lt {a b : Int} (ha : rng a) (hb : rng b) : zI a < zI b ↔ a < b := by rw [Int32.lt_iff_toInt_lt, zI_int ha, zI_int hb]
theorem zI_le {a b : Int} (ha : rng a) (hb : rng b) : zI a ≤ zI b ↔ a ≤ b := by rw [Int32.le_iff_toInt_le, zI_int ha, zI_int hb]
theorem zI_eq {a b : Int} (ha : rng a) (hb : rng b) : zI a = zI b ↔ a = b := by rw [← Int32.toInt_inj, zI_int ha, zI_int hb]
theorem zL_lt {a b : Int} (ha : rngL a) (hb : rngL b) : zL a < zL b ↔ a < b := by rw [Int64.lt_iff_toInt_lt, zL_int ha, zL_int hb]
theorem zL_eq {a b : Int} (ha : rngL a) (hb : rngL b) : zL a = zL b ↔ a = b := by rw [← Int64.toInt_inj, zL_int ha, zL_int hb]
theorem zI_div {a b : Int} (ha : rng a) (hb : rng b) : zI a / zI b = zI (a.tdiv b) := by
  unfold zI
  exact (Int32.ofInt_tdiv (by show -2147483648 ≤ a; omega) (by show a ≤ 2147483647; omega) (by show -2147483648 ≤ b; omega) (by show b ≤ 2147483647; omega)).symm
theorem zL_div {a b : Int} (ha : rngL a) (hb : rngL b) : zL a / zL b = zL (a.tdiv b) := by
  unfold zL
  exact (Int64.ofInt_tdiv (by show -9223372036854775808 ≤ a; omega) (by show a ≤ 9223372036854775807; omega) (by show -9223372036854775808 ≤ b; omega) (by show b ≤ 9223372036854775807; omega)).symm
theorem tmod_eq (a b : Int) : a - a.tdiv b * b = a.tmod b := by
  have h := Int.mul_tdiv_add_tmod a b
  rw [Int.mul_comm] at h
  omega
theorem zI_long {a : Int} (ha : rng a) : (zI a).toInt64 = zL a := Int32.toInt64_ofInt (by show -2147483648 ≤ a; omega) (by show a ≤ 2147483647; omega)
theorem zL_i (a : Int) : (zL a).toInt32 = zI a := Int64.toInt32_ofInt
theorem zI_clamp {n : Nat} (h : n < 2 ^ 31) : (zI n).toNatClampNeg = n := by
  show (zI n).toInt.toNat = n
  rw [zI_int (by omega)]
  exact Int.toNat_natCast n
theorem zI_in {z : Int} {n : Nat} (h0 : 0 ≤ z) (h1 : z < n) (hn : n < 2 ^ 31) : vp_in (zI z) n := by
  have e : zI 0 = 0 := by decide
  have hz : rng z := by omega
  rintro (h | h)
  · rw [← e, zI_lt hz (by omega)] at h
    omega
  · have : (zI z).toNatClampNeg = z.toNat := by show (zI z).toInt.toNat = z.toNat; rw [zI_int hz]
    omega
theorem zI_ix {z : Int} (h0 : 0 ≤ z) (h1 : z ≤ 2147483647) : (zI z).toNatClampNeg = z.toNat := by
  show (zI z).toInt.toNat = z.toNat
  rw [zI_int (by omega)]
theorem iv_0 : iv 0 = .int 0 := rfl
