/-! bits of whole numbers -/
theorem i32n (x : Nat) : (Int32.ofInt (x : Int)).toBitVec = BitVec.ofNat 32 x := BitVec.ofInt_natCast 32 x
theorem i64n (x : Nat) : (Int64.ofInt (x : Int)).toBitVec = BitVec.ofNat 64 x := BitVec.ofInt_natCast 64 x
theorem t32n {v : Int32} {x : Nat} (h : v.toBitVec = BitVec.ofNat 32 x) (hx : x < 2147483648) : v.toInt = (x : Int) := by
  show v.toBitVec.toInt = _
  have e : (BitVec.ofNat 32 x).toNat = x := by rw [BitVec.toNat_ofNat, Nat.mod_eq_of_lt (by omega)]
  rw [h, BitVec.toInt_eq_toNat_of_lt (by rw [e]; omega), e]
theorem t64n {v : Int64} {x : Nat} (h : v.toBitVec = BitVec.ofNat 64 x) (hx : x < 9223372036854775808) : v.toInt = (x : Int) := by
  show v.toBitVec.toInt = _
  have e : (BitVec.ofNat 64 x).toNat = x := by rw [BitVec.toNat_ofNat, Nat.mod_eq_of_lt (by omega)]
  rw [h, BitVec.toInt_eq_toNat_of_lt (by rw [e]; omega), e]
theorem b32 {x : Nat} (h : x < 4294967296) : (BitVec.ofNat 32 x).toNat = x := by rw [BitVec.toNat_ofNat, Nat.mod_eq_of_lt (by omega)]
theorem b64 {x : Nat} (h : x < 18446744073709551616) : (BitVec.ofNat 64 x).toNat = x := by rw [BitVec.toNat_ofNat, Nat.mod_eq_of_lt (by omega)]
theorem and_lt {a b m : Nat} (h : a < m) : a &&& b < m := Nat.lt_of_le_of_lt Nat.and_le_left h
theorem or31 {a b : Nat} (ha : a < 2147483648) (hb : b < 2147483648) : a ||| b < 2147483648 := Nat.or_lt_two_pow (n := 31) ha hb
theorem or63 {a b : Nat} (ha : a < 9223372036854775808) (hb : b < 9223372036854775808) : a ||| b < 9223372036854775808 := Nat.or_lt_two_pow (n := 63) ha hb
theorem zand_n {a b : Nat} (ha : a < 2147483648) (hb : b < 2147483648) : zand a b = ((a &&& b : Nat) : Int) := t32n (by
  rw [Int32.toBitVec_and, i32n, i32n]
  apply BitVec.eq_of_toNat_eq
  rw [BitVec.toNat_and, b32 (by omega), b32 (by omega), b32 (and_lt (by omega))]) (and_lt ha)
theorem zor_n {a b : Nat} (ha : a < 2147483648) (hb : b < 2147483648) : zor a b = ((a ||| b : Nat) : Int) := t32n (by
  rw [Int32.toBitVec_or, i32n, i32n]
  apply BitVec.eq_of_toNat_eq
  have := or31 ha hb
  rw [BitVec.toNat_or, b32 (by omega), b32 (by omega), b32 (by omega)]) (or31 ha hb)
theorem yand_n {a b : Nat} (ha : a < 9223372036854775808) (hb : b < 9223372036854775808) : yand a b = ((a &&& b : Nat) : Int) := t64n (by
  rw [Int64.toBitVec_and, i64n, i64n]
  apply BitVec.eq_of_toNat_eq
  rw [BitVec.toNat_and, b64 (by omega), b64 (by omega), b64 (and_lt (by omega))]) (and_lt ha)
theorem yor_n {a b : Nat} (ha : a < 9223372036854775808) (hb : b < 9223372036854775808) : yor a b = ((a ||| b : Nat) : Int) := t64n (by
  rw [Int64.toBitVec_or, i64n, i64n]
  apply BitVec.eq_of_toNat_eq
  have := or63 ha hb
  rw [BitVec.toNat_or, b64 (by omega), b64 (by omega), b64 (by omega)]) (or63 ha hb)
theorem sh32 : ∀ n : Nat, n < 32 → ((Int32.ofInt (n : Int) &&& 31).toBitVec.smod 32).toNat = n := by decide +kernel
theorem sh64 : ∀ n : Nat, n < 64 → (((Int32.ofInt (n : Int)).toInt64 &&& 63).toBitVec.smod 64).toNat = n := by decide +kernel
theorem su64 : ∀ n : Nat, n < 64 → (((Int32.ofInt (n : Int)).toInt64.toUInt64 &&& Int64.toUInt64 63).toBitVec % 64).toNat = n := by decide +kernel
theorem zshl_n {a k : Nat} (hk : k < 32) (h : a * 2 ^ k < 2147483648) : zshl a k = ((a * 2 ^ k : Nat) : Int) := t32n (by
  rw [Int32.toBitVec_shiftLeft]
  show (Int32.ofInt (a : Int)).toBitVec <<< ((Int32.ofInt (k : Int) &&& 31).toBitVec.smod 32).toNat = _
  rw [sh32 k hk, i32n]
  apply BitVec.eq_of_toNat_eq
  rw [BitVec.toNat_shiftLeft, BitVec.toNat_ofNat, BitVec.toNat_ofNat, Nat.shiftLeft_eq, Nat.mul_mod, Nat.mod_mod, ← Nat.mul_mod]) h
theorem zshr_n {a k : Nat} (hk : k < 32) (h : a < 2147483648) : zshr a k = ((a / 2 ^ k : Nat) : Int) := by
  unfold zshr
  have e : (Int32.ofInt (a : Int) >>> (Int32.ofInt (k : Int) &&& 31)).toInt = (Int32.ofInt (a : Int)).toInt >>> ((Int32.ofInt (k : Int) &&& 31).toBitVec.smod 32).toNat := BitVec.toInt_sshiftRight ..
  rw [sh32 k hk] at e
  rw [e, t32n (i32n a) h, Int.shiftRight_eq_div_pow]
  rfl
theorem yshl_n {a k : Nat} (hk : k < 64) (h : a * 2 ^ k < 9223372036854775808) : yshl a k = ((a * 2 ^ k : Nat) : Int) := t64n (by
  rw [Int64.toBitVec_shiftLeft]
  show (Int64.ofInt (a : Int)).toBitVec <<< (((Int32.ofInt (k : Int)).toInt64 &&& 63).toBitVec.smod 64).toNat = _
  rw [sh64 k hk, i64n]
  apply BitVec.eq_of_toNat_eq
  rw [BitVec.toNat_shiftLeft, BitVec.toNat_ofNat, BitVec.toNat_ofNat, Nat.shiftLeft_eq, Nat.mul_mod, Nat.mod_mod, ← Nat.mul_mod]) h
theorem yshr_n {a k : Nat} (hk : k < 64) (h : a < 9223372036854775808) : yshr a k = ((a / 2 ^ k : Nat) : Int) := by
  unfold yshr
  have e : (Int64.ofInt (a : Int) >>> ((Int32.ofInt (k : Int)).toInt64 &&& 63)).toInt = (Int64.ofInt (a : Int)).toInt >>> (((Int32.ofInt (k : Int)).toInt64 &&& 63).toBitVec.smod 64).toNat := BitVec.toInt_sshiftRight ..
  rw [sh64 k hk] at e
  rw [e, t64n (i64n a) h, Int.shiftRight_eq_div_pow]
  rfl
theorem yushr_n {a k : Nat} (hk : k < 64) (h : a < 9223372036854775808) : yushr a k = ((a / 2 ^ k : Nat) : Int) := t64n (by
  show ((Int64.ofInt (a : Int)).toUInt64 >>> ((Int32.ofInt (k : Int)).toInt64.toUInt64 &&& Int64.toUInt64 63)).toBitVec = _
  rw [UInt64.toBitVec_shiftRight]
  show (Int64.ofInt (a : Int)).toBitVec >>> (((Int32.ofInt (k : Int)).toInt64.toUInt64 &&& Int64.toUInt64 63).toBitVec % 64).toNat = _
  rw [su64 k hk, i64n]
  apply BitVec.eq_of_toNat_eq
  have hd : a / 2 ^ k ≤ a := Nat.div_le_self _ _
  rw [BitVec.toNat_ushiftRight, b64 (by omega), b64 (by omega), Nat.shiftRight_eq_div_pow]) (Nat.lt_of_le_of_lt (Nat.div_le_self _ _) h)
/-- a bit of a mask, as both sides ask for it -/
theorem bit_n {a k : Nat} (hk : k < 32) (h : a < 2147483648) : zand (zshr a k) 1 = 1 ↔ a.testBit k = true := by
  rw [zshr_n hk h, show (1 : Int) = ((1 : Nat) : Int) from rfl, zand_n (Nat.lt_of_le_of_lt (Nat.div_le_self _ _) h) (by decide)]
  rw [Nat.testBit, Nat.shiftRight_eq_div_pow, Nat.and_comm]
  constructor
  · intro e
    have : 1 &&& a / 2 ^ k = 1 := by exact_mod_cast e
    rw [this]
    decide
  · intro e
    have e2 : 1 &&& a / 2 ^ k ≠ 0 := by simpa using e
    have e3 : 1 &&& a / 2 ^ k ≤ 1 := Nat.and_le_left
    exact_mod_cast (show 1 &&& a / 2 ^ k = 1 by omega)
/-- how many bits -/
def pcN : Nat → Nat → Nat
  | 0, _ => 0
  | k + 1, x => x % 2 + pcN k (x / 2)
theorem pc_and0 : ∀ (k x y : Nat), x &&& y = 0 → pcN k (x ||| y) = pcN k x + pcN k y
  | 0, _, _, _ => rfl
  | k + 1, x, y, h => by
    have h1 : x / 2 &&& y / 2 = 0 := by rw [← Nat.and_div_two, h]
    have h2 : (x % 2) &&& (y % 2) = 0 := by
      have := Nat.and_mod_two_pow (a := x) (b := y) (n := 1)
      rw [h] at this
      simpa using this.symm
    have h3 : (x ||| y) % 2 = (x % 2) ||| (y % 2) := by
      have := Nat.or_mod_two_pow (a := x) (b := y) (n := 1)
      simpa using this
    have h4 : (x ||| y) / 2 = x / 2 ||| y / 2 := Nat.or_div_two
    show (x ||| y) % 2 + pcN k ((x ||| y) / 2) = x % 2 + pcN k (x / 2) + (y % 2 + pcN k (y / 2))
    rw [h4, pc_and0 k _ _ h1, h3]
    have hx : x % 2 = 0 ∨ x % 2 = 1 := by omega
    have hy : y % 2 = 0 ∨ y % 2 = 1 := by omega
    rcases hx with e | e <;> rcases hy with f | f <;> rw [e, f] at h2 ⊢
    · show 0 + _ = _; omega
    · show 1 + _ = _; omega
    · show 1 + _ = _; omega
    · exact absurd h2 (by decide)
theorem pc_le : ∀ (k x : Nat), x < 2 ^ k → ∀ n, k ≤ n → pcN n x ≤ k
  | 0, x, h, n, _ => by
    have hx : x = 0 := by simpa using h
    subst hx
    have key : ∀ n, pcN n 0 = 0 := fun n => by
      induction n with
      | zero => rfl
      | succ n ih => show 0 % 2 + pcN n (0 / 2) = 0; rw [Nat.zero_div, ih]
    rw [key]
    exact Nat.le_refl _
  | k + 1, x, h, 0, hn => absurd hn (by omega)
  | k + 1, x, h, n + 1, hn => by
    have h2 : x / 2 < 2 ^ k := by rw [Nat.pow_succ] at h; omega
    have := pc_le k (x / 2) h2 n (by omega)
    show x % 2 + pcN n (x / 2) ≤ k + 1
    omega
theorem pc_mono : ∀ (k x y : Nat), x &&& y = x → pcN k x ≤ pcN k y
  | 0, _, _, _ => Nat.le_refl _
  | k + 1, x, y, h => by
    have h1 : x / 2 &&& y / 2 = x / 2 := by rw [← Nat.and_div_two, h]
    have h2 : (x % 2) &&& (y % 2) = x % 2 := by
      have := Nat.and_mod_two_pow (a := x) (b := y) (n := 1)
      rw [h] at this
      simpa using this.symm
    have ih := pc_mono k _ _ h1
    show x % 2 + pcN k (x / 2) ≤ y % 2 + pcN k (y / 2)
    have hx : x % 2 = 0 ∨ x % 2 = 1 := by omega
    have hy : y % 2 = 0 ∨ y % 2 = 1 := by omega
    rcases hx with e | e <;> rcases hy with f | f
    · omega
    · omega
    · rw [e, f] at h2
      exact absurd h2 (by decide)
    · omega
