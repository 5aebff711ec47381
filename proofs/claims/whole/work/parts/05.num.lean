/-! integers and the machine's numbers -/
theorem i32_lt {a b : Int} (ha : am_in32 a) (hb : am_in32 b) : Int32.ofInt a < Int32.ofInt b ↔ a < b := Int32.ofInt_lt_iff_lt ha.1 ha.2 hb.1 hb.2
theorem i32_le {a b : Int} (ha : am_in32 a) (hb : am_in32 b) : Int32.ofInt a ≤ Int32.ofInt b ↔ a ≤ b := Int32.ofInt_le_iff_le ha.1 ha.2 hb.1 hb.2
theorem i32_toInt {a : Int} (ha : am_in32 a) : (Int32.ofInt a).toInt = a := Int32.toInt_ofInt_of_le (by omega) (by omega)
theorem i64_toInt {a : Int} (ha : am_in64 a) : (Int64.ofInt a).toInt = a := Int64.toInt_ofInt_of_le (by omega) (by omega)
theorem i32_eq {a b : Int} (ha : am_in32 a) (hb : am_in32 b) : Int32.ofInt a = Int32.ofInt b ↔ a = b := ⟨fun h => by rw [← i32_toInt ha, ← i32_toInt hb, h], fun h => by rw [h]⟩
theorem i64_lt {a b : Int} (ha : am_in64 a) (hb : am_in64 b) : Int64.ofInt a < Int64.ofInt b ↔ a < b := Int64.ofInt_lt_iff_lt ha.1 ha.2 hb.1 hb.2
theorem i64_le {a b : Int} (ha : am_in64 a) (hb : am_in64 b) : Int64.ofInt a ≤ Int64.ofInt b ↔ a ≤ b := Int64.ofInt_le_iff_le ha.1 ha.2 hb.1 hb.2
theorem i64_eq {a b : Int} (ha : am_in64 a) (hb : am_in64 b) : Int64.ofInt a = Int64.ofInt b ↔ a = b := ⟨fun h => by rw [← i64_toInt ha, ← i64_toInt hb, h], fun h => by rw [h]⟩
theorem i32_clamp {a : Int} (h0 : 0 ≤ a) (h1 : a ≤ 2147483647) : (Int32.ofInt a).toNatClampNeg = a.toNat := Int32.toNatClampNeg_ofInt_of_le (by omega) (by omega)
theorem i32_in {a : Int} {n : Nat} (h0 : 0 ≤ a) (h1 : a < (n : Int)) (hn : n < 2 ^ 31) : vp_in (Int32.ofInt a) n := by
  rw [vp_in_iff, i32_toInt ⟨by omega, by omega⟩]
  exact ⟨h0, h1⟩
theorem i32_nn {a : Int} (h0 : 0 ≤ a) (h1 : a ≤ 2147483647) : ¬ Int32.ofInt a < 0 := by
  intro h
  have := (i32_lt (a := a) (b := 0) ⟨by omega, h1⟩ ⟨by omega, by omega⟩).mp h
  omega
theorem i32_ne0 {a : Int} (h0 : 0 < a) (h1 : a ≤ 2147483647) : ¬ Int32.ofInt a = 0 := by
  intro h
  have := (i32_eq (a := a) (b := 0) ⟨by omega, h1⟩ ⟨by omega, by omega⟩).mp h
  omega
theorem i64_ne0 {a : Int} (h0 : 0 < a) (h1 : a ≤ 9223372036854775807) : ¬ Int64.ofInt a = 0 := by
  intro h
  have := (i64_eq (a := a) (b := 0) ⟨by omega, h1⟩ ⟨by omega, by omega⟩).mp h
  omega
theorem i32_div {a b : Int} (h0 : 0 ≤ a) (h1 : a ≤ 2147483647) (h2 : 0 < b) (h3 : b ≤ 2147483647) : Int32.ofInt a / Int32.ofInt b = Int32.ofInt (a / b) := by
  rw [← Int.tdiv_eq_ediv_of_nonneg h0]
  exact (Int32.ofInt_tdiv (show (-2147483648 : Int) ≤ a by omega) h1 (show (-2147483648 : Int) ≤ b by omega) h3).symm
theorem i32_rem {a b : Int} (h0 : 0 ≤ a) (h1 : a ≤ 2147483647) (h2 : 0 < b) (h3 : b ≤ 2147483647) : Int32.ofInt a - Int32.ofInt a / Int32.ofInt b * Int32.ofInt b = Int32.ofInt (a % b) := by
  rw [i32_div h0 h1 h2 h3, ← Int32.ofInt_mul, ← Int32.ofInt_sub]
  congr 1
  have := Int.mul_ediv_add_emod a b
  rw [Int.mul_comm (a / b) b]
  omega
theorem i64_tdiv {a b : Int} (ha : am_in64 a) (h2 : 0 < b) (h3 : b ≤ 9223372036854775807) : Int64.ofInt a / Int64.ofInt b = Int64.ofInt (a.tdiv b) :=
  (Int64.ofInt_tdiv ha.1 ha.2 (show (-9223372036854775808 : Int) ≤ b by omega) h3).symm
theorem i64_div {a b : Int} (h0 : 0 ≤ a) (h1 : a ≤ 9223372036854775807) (h2 : 0 < b) (h3 : b ≤ 9223372036854775807) : Int64.ofInt a / Int64.ofInt b = Int64.ofInt (a / b) := by
  rw [← Int.tdiv_eq_ediv_of_nonneg h0]
  exact i64_tdiv ⟨by omega, h1⟩ h2 h3
theorem i64_rem {a b : Int} (ha : am_in64 a) (h2 : 0 < b) (h3 : b ≤ 9223372036854775807) : Int64.ofInt a - Int64.ofInt a / Int64.ofInt b * Int64.ofInt b = Int64.ofInt (a.tmod b) := by
  rw [i64_tdiv ha h2 h3, ← Int64.ofInt_mul, ← Int64.ofInt_sub]
  congr 1
  have := Int.mul_tdiv_add_tmod a b
  rw [Int.mul_comm (a.tdiv b) b]
  omega
theorem i32_i2l {a : Int} (ha : am_in32 a) : (Int32.ofInt a).toInt64 = Int64.ofInt a := Int32.toInt64_ofInt ha.1 ha.2
theorem i32_i2b (a : Int) : (Int32.ofInt a).toInt8.toInt32 = Int32.ofInt (Int.bmod a 256) := by
  rw [Int32.toInt8_ofInt, ← Int32.ofInt_int8ToInt, Int8.toInt_ofInt]
theorem i64_l2i (a : Int) : (Int64.ofInt a).toInt32 = Int32.ofInt (Int.bmod a 4294967296) := by
  rw [Int64.toInt32_ofInt]
  apply Int32.toInt_inj.mp
  rw [Int32.toInt_ofInt, Int32.toInt_ofInt]
  exact (Int.bmod_bmod).symm
theorem i32_and31 (a : Int) : Int32.ofInt a &&& Int32.ofInt 31 = Int32.ofInt (a % 32) := by
  have h := pk_and (Int32.ofInt a) (m := Int32.ofInt 31) 5 (by decide)
  rw [h]
  have h2 : (Int32.ofInt a).toBitVec.toNat = (a % 4294967296).toNat := by
    rw [Int32.toBitVec_ofInt, BitVec.toNat_ofInt]
    rfl
  rw [h2]
  unfold nI
  rw [← Int32.ofInt_eq_ofNat]
  congr 1
  omega
theorem i64_bv (a : Int) : (Int64.ofInt a).toBitVec = BitVec.ofInt 64 a := Int64.toBitVec_ofInt a
theorem i64_and32 (a : Int) : Int64.ofInt a &&& Int64.ofInt 4294967295 = Int64.ofInt (a % 4294967296) := by
  apply Int64.toBitVec_inj.mp
  rw [Int64.toBitVec_and, i64_bv, i64_bv, i64_bv]
  apply BitVec.eq_of_toNat_eq
  rw [BitVec.toNat_and, BitVec.toNat_ofInt, BitVec.toNat_ofInt, BitVec.toNat_ofInt]
  have e : ((4294967295 : Int) % ((2 ^ 64 : Nat) : Int)).toNat = 2 ^ 32 - 1 := by decide
  rw [e, Nat.and_two_pow_sub_one_eq_mod]
  omega
theorem i64_or32 {a b : Int} (h : a % 4294967296 = 0) (h0 : 0 ≤ b) (h1 : b < 4294967296) : Int64.ofInt a ||| Int64.ofInt b = Int64.ofInt (a + b) := by
  apply Int64.toBitVec_inj.mp
  rw [Int64.toBitVec_or, i64_bv, i64_bv, i64_bv]
  apply BitVec.eq_of_toNat_eq
  rw [BitVec.toNat_or, BitVec.toNat_ofInt, BitVec.toNat_ofInt, BitVec.toNat_ofInt]
  obtain ⟨q, hq⟩ : ∃ q : Nat, (a % ((2 ^ 64 : Nat) : Int)).toNat = 2 ^ 32 * q := ⟨(a % ((2 ^ 64 : Nat) : Int)).toNat / 2 ^ 32, by omega⟩
  have hb : (b % ((2 ^ 64 : Nat) : Int)).toNat < 2 ^ 32 := by omega
  rw [hq, ← Nat.two_pow_add_eq_or_of_lt hb]
  omega
theorem i64_shl32 (a : Int) : Int64.ofInt a <<< ((Int32.ofInt 32).toInt64 &&& 63) = Int64.ofInt (a * 4294967296) := by
  have e : ((Int32.ofInt 32).toInt64 &&& 63) = (32 : Int64) := by decide
  rw [e]
  apply Int64.toBitVec_inj.mp
  rw [Int64.toBitVec_shiftLeft, i64_bv, i64_bv]
  have e2 : (Int64.toBitVec 32).smod 64 = 32#64 := by decide
  rw [e2]
  apply BitVec.eq_of_toNat_eq
  rw [BitVec.shiftLeft_eq', BitVec.toNat_shiftLeft, BitVec.toNat_ofInt, BitVec.toNat_ofInt]
  have e3 : (32#64).toNat = 32 := by decide
  rw [e3, Nat.shiftLeft_eq]
  omega
theorem i64_xor_sign {a b : Int} (ha : am_in64 a) (hb : am_in64 b) : ∃ x : Int, am_in64 x ∧ (x < 0 ↔ ((a < 0 ∧ 0 ≤ b) ∨ (0 ≤ a ∧ b < 0))) ∧ Int64.ofInt a ^^^ Int64.ofInt b = Int64.ofInt x := by
  refine ⟨(Int64.ofInt a ^^^ Int64.ofInt b).toInt, ⟨Int64.minValue_le_toInt _, Int64.toInt_le _⟩, ?_, (Int64.ofInt_toInt _).symm⟩
  have key : ∀ z : Int64, z.toInt < 0 ↔ z.toBitVec.msb = true := fun z => by
    rw [show z.toInt = z.toBitVec.toInt from rfl, BitVec.msb_eq_toInt]
    simp
  rw [key, Int64.toBitVec_xor, BitVec.msb_xor]
  have ka := key (Int64.ofInt a)
  have kb := key (Int64.ofInt b)
  rw [i64_toInt ha] at ka
  rw [i64_toInt hb] at kb
  cases h1 : (Int64.ofInt a).toBitVec.msb <;> cases h2 : (Int64.ofInt b).toBitVec.msb <;> rw [h1] at ka <;> rw [h2] at kb <;> simp at ka kb ⊢ <;> omega
