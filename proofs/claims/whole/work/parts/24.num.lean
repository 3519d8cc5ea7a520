/-! Numbers: what AM's own operations are on whole numbers. -/
theorem a8_b (x : Int) : a8 x = Int.bmod x 256 := Int8.toInt_ofInt ..
theorem a32_b (x : Int) : a32 x = Int.bmod x 4294967296 := Int32.toInt_ofInt ..
theorem a64_b (x : Int) : a64 x = Int.bmod x 18446744073709551616 := Int64.toInt_ofInt ..
theorem bm8 (x : Int) : Int.bmod x 256 = if x % 256 < 128 then x % 256 else x % 256 - 256 := rfl
theorem bm32 (x : Int) : Int.bmod x 4294967296 = if x % 4294967296 < 2147483648 then x % 4294967296 else x % 4294967296 - 4294967296 := rfl
theorem bm64 (x : Int) : Int.bmod x 18446744073709551616 = if x % 18446744073709551616 < 9223372036854775808 then x % 18446744073709551616 else x % 18446744073709551616 - 18446744073709551616 := rfl
theorem a8_mod {x y : Int} (h : x % 256 = y % 256) : a8 x = a8 y := by
  rw [a8_b, a8_b, bm8, bm8, h]
theorem a8_256 (x : Int) : a8 x % 256 = x % 256 := by
  rw [a8_b, bm8]
  split <;> omega
theorem a8_r (x : Int) : r8 (a8 x) := by
  rw [a8_b, bm8]
  unfold r8
  split <;> constructor <;> omega
theorem a8_of {x : Int} (h : r8 x) : a8 x = x := a8_id h.1 h.2
theorem a32_256 (x : Int) : a32 x % 256 = x % 256 := by
  rw [a32_b, bm32]
  split <;> omega
theorem nat_of_ofInt (x : Int) : (BitVec.ofInt 32 x).toNat = (x % 4294967296).toNat := by simp [BitVec.toNat_ofInt]
theorem a_and_gen {x : Int} {k m : Nat} (hk : k ≤ 30) (hm : m = 2 ^ k - 1) : a_and x (m : Int) = ((x % 4294967296).toNat % 2 ^ k : Nat) := by
  unfold a_and
  have h2 : 2 ^ k ≤ 2 ^ 30 := Nat.pow_le_pow_right (by omega) hk
  have h1 : (Int32.ofInt x &&& Int32.ofInt (m : Int)).toBitVec.toNat = (x % 4294967296).toNat % 2 ^ k := by
    rw [Int32.toBitVec_and, BitVec.toNat_and]
    show (BitVec.ofInt 32 x).toNat &&& (BitVec.ofInt 32 (m : Int)).toNat = _
    rw [nat_of_ofInt, nat_of_ofInt]
    have e : (((m : Nat) : Int) % 4294967296).toNat = 2 ^ k - 1 := by
      have : ((m : Nat) : Int) % 4294967296 = m := by omega
      rw [this]
      simp [hm]
    rw [e, Nat.and_two_pow_sub_one_eq_mod]
  show (Int32.ofInt x &&& Int32.ofInt (m : Int)).toBitVec.toInt = _
  have h3 : (x % 4294967296).toNat % 2 ^ k < 2 ^ k := Nat.mod_lt _ (Nat.two_pow_pos k)
  rw [BitVec.toInt_eq_toNat_of_lt (by rw [h1]; omega), h1]
theorem a_and255 (x : Int) : a_and x 255 = x % 256 := by
  have := a_and_gen (x := x) (k := 8) (m := 255) (by omega) rfl
  rw [show ((255 : Nat) : Int) = 255 from rfl] at this
  rw [this]
  omega
theorem a_and7 (x : Int) : a_and x 7 = x % 8 := by
  have := a_and_gen (x := x) (k := 3) (m := 7) (by omega) rfl
  rw [show ((7 : Nat) : Int) = 7 from rfl] at this
  rw [this]
  omega
theorem a_and15 (x : Int) : a_and x 15 = x % 16 := by
  have := a_and_gen (x := x) (k := 4) (m := 15) (by omega) rfl
  rw [show ((15 : Nat) : Int) = 15 from rfl] at this
  rw [this]
  omega
theorem bm32_id {x : Int} (h1 : -2147483648 ≤ x) (h2 : x ≤ 2147483647) : Int.bmod x 4294967296 = x := by
  rw [bm32]
  split <;> omega
theorem bm64_id {x : Int} (h1 : -9223372036854775808 ≤ x) (h2 : x ≤ 9223372036854775807) : Int.bmod x 18446744073709551616 = x := by
  rw [bm64]
  split <;> omega
theorem a_div512 {x : Int} (h : 0 ≤ x) (h2 : x ≤ 2147483647) : a_div x 512 = x / 512 := by
  unfold a_div
  rw [Int32.toInt_div, toI ⟨by omega, h2⟩, toI ⟨by omega, by omega⟩, Int.tdiv_eq_ediv_of_nonneg h]
  exact bm32_id (by omega) (by omega)
theorem a_div30 {x : Int} (h : 0 ≤ x) (h2 : x ≤ 2147483647) : a_div x 30 = x / 30 := by
  unfold a_div
  rw [Int32.toInt_div, toI ⟨by omega, h2⟩, toI ⟨by omega, by omega⟩, Int.tdiv_eq_ediv_of_nonneg h]
  exact bm32_id (by omega) (by omega)
theorem a_ldiv8 {x : Int} (h : 0 ≤ x) (h2 : x ≤ 9223372036854775807) : a_ldiv x 8 = x / 8 := by
  unfold a_ldiv
  rw [Int64.toInt_div, toL ⟨by omega, h2⟩, toL ⟨by omega, by omega⟩, Int.tdiv_eq_ediv_of_nonneg h]
  exact bm64_id (by omega) (by omega)
theorem a_lrem8 {x : Int} (h : 0 ≤ x) (h2 : x ≤ 9223372036854775807) : a_lrem x 8 = x % 8 := by
  unfold a_lrem
  rw [Int64.toInt_sub, Int64.toInt_mul, Int64.toInt_div, toL ⟨by omega, h2⟩, toL ⟨by omega, by omega⟩, Int.tdiv_eq_ediv_of_nonneg h]
  have e1 : Int.bmod (x / 8) (2 ^ 64) = x / 8 := bm64_id (by omega) (by omega)
  rw [e1]
  have e2 : Int.bmod (x / 8 * 8) (2 ^ 64) = x / 8 * 8 := bm64_id (by omega) (by omega)
  rw [e2]
  have e3 : Int.bmod (x - x / 8 * 8) (2 ^ 64) = x - x / 8 * 8 := bm64_id (by omega) (by omega)
  rw [e3]
  omega
theorem a_ushr3 {x : Int} (h : 0 ≤ x) (h2 : x ≤ 2147483647) : a_ushr x 3 = x / 8 := by
  unfold a_ushr
  have e1 : ((Int32.ofInt x).toUInt32 >>> ((Int32.ofInt 3).toUInt32 &&& Int32.toUInt32 31)).toNat = (x % 4294967296).toNat / 8 := by
    rw [UInt32.toNat_shiftRight]
    have : ((Int32.ofInt 3).toUInt32 &&& Int32.toUInt32 31).toNat % 32 = 3 := by decide
    rw [this, Nat.shiftRight_eq_div_pow]
    show (BitVec.ofInt 32 x).toNat / 2 ^ 3 = _
    rw [nat_of_ofInt]
  generalize ((Int32.ofInt x).toUInt32 >>> ((Int32.ofInt 3).toUInt32 &&& Int32.toUInt32 31)) = u at e1
  show u.toBitVec.toInt = x / 8
  have e2 : u.toBitVec.toNat = (x % 4294967296).toNat / 8 := e1
  rw [BitVec.toInt_eq_toNat_of_lt (by omega), e2]
  omega
theorem sh_amt : ∀ i : Fin 8, (((Int32.ofInt (8 * (i.val : Int))).toInt64 &&& 63).toBitVec.smod 64).toNat = 8 * i.val ∧ ((Int32.ofInt (8 * (i.val : Int))).toInt64.toUInt64 &&& Int64.toUInt64 63).toNat % 64 = 8 * i.val := by decide +kernel
theorem a_lshr8 {w : Int} (hw : r64 w) {i : Nat} (hi : i < 8) : a_lshr w (8 * (i : Int)) = w / 2 ^ (8 * i) := by
  unfold a_lshr
  have h1 := (sh_amt ⟨i, hi⟩).1
  show ((Int64.ofInt w).toBitVec.sshiftRight ((((Int32.ofInt (8 * (i : Int))).toInt64 &&& 63).toBitVec.smod 64).toNat)).toInt = _
  rw [h1, BitVec.toInt_sshiftRight, Int.shiftRight_eq_div_pow]
  show (Int64.ofInt w).toInt / _ = _
  rw [toL hw]
  rfl
theorem a_lushr8 {w : Int} {i : Nat} (hi : i < 8) : a_lushr w (8 * (i : Int)) % 256 = w / 2 ^ (8 * i) % 256 := by
  unfold a_lushr
  have h1 := (sh_amt ⟨i, hi⟩).2
  have e1 : ((Int64.ofInt w).toUInt64 >>> ((Int32.ofInt (8 * (i : Int))).toInt64.toUInt64 &&& Int64.toUInt64 63)).toNat = (w % 18446744073709551616).toNat / 2 ^ (8 * i) := by
    rw [UInt64.toNat_shiftRight, h1, Nat.shiftRight_eq_div_pow]
    show (BitVec.ofInt 64 w).toNat / _ = _
    simp [BitVec.toNat_ofInt]
  generalize ((Int64.ofInt w).toUInt64 >>> ((Int32.ofInt (8 * (i : Int))).toInt64.toUInt64 &&& Int64.toUInt64 63)) = u at e1
  have e2 : u.toInt64.toInt = Int.bmod u.toNat 18446744073709551616 := by
    show u.toBitVec.toInt = _
    rw [BitVec.toInt_eq_toNat_bmod]
    rfl
  rw [e2, bm64, e1]
  have e8 : i = 0 ∨ i = 1 ∨ i = 2 ∨ i = 3 ∨ i = 4 ∨ i = 5 ∨ i = 6 ∨ i = 7 := by omega
  rcases e8 with rfl | rfl | rfl | rfl | rfl | rfl | rfl | rfl <;> simp only [Nat.reduceMul, Nat.reducePow, Int.reducePow] <;> split <;> omega
theorem a_land255 {x : Int} : a_land x 255 = x % 256 := by
  unfold a_land
  have h1 : (Int64.ofInt x &&& Int64.ofInt 255).toBitVec.toNat = (x % 18446744073709551616).toNat % 256 := by
    rw [Int64.toBitVec_and, BitVec.toNat_and]
    show (BitVec.ofInt 64 x).toNat &&& 255 = _
    rw [show (255 : Nat) = 2 ^ 8 - 1 from rfl, Nat.and_two_pow_sub_one_eq_mod]
    simp [BitVec.toNat_ofInt]
  show (Int64.ofInt x &&& Int64.ofInt 255).toBitVec.toInt = _
  rw [BitVec.toInt_eq_toNat_of_lt (by rw [h1]; omega), h1]
  omega
/-- a letter of a word: its i-th byte -/
def lb (w : Int) (i : Nat) : Int := w / 2 ^ (8 * i) % 256
theorem lb_r (w : Int) (i : Nat) : 0 ≤ lb w i ∧ lb w i ≤ 255 := by
  unfold lb
  omega
