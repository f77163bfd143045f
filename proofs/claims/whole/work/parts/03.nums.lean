/-! numbers: Int beside Int32, Int64 -/
theorem am_w32_rng (x : Int) : -2147483648 ≤ w32 x ∧ w32 x < 2147483648 := by unfold w32; omega
theorem am_w64_rng (x : Int) : -9223372036854775808 ≤ w64 x ∧ w64 x < 9223372036854775808 := by unfold w64; omega
theorem w32_id {x : Int} (h1 : -2147483648 ≤ x) (h2 : x < 2147483648) : w32 x = x := by unfold w32; omega
theorem w64_id {x : Int} (h1 : -9223372036854775808 ≤ x) (h2 : x < 9223372036854775808) : w64 x = x := by unfold w64; omega
theorem am_w32_bmod (x : Int) : w32 x = x.bmod (2 ^ 32) := by
  unfold w32
  simp only [Int.bmod_def]
  omega
theorem am_w64_bmod (x : Int) : w64 x = x.bmod (2 ^ 64) := by
  unfold w64
  simp only [Int.bmod_def]
  omega
theorem am_of_w32 (x : Int) : Int32.ofInt (w32 x) = Int32.ofInt x := by
  apply Int32.toInt_inj.1
  rw [Int32.toInt_ofInt, Int32.toInt_ofInt, am_w32_bmod, Int.bmod_bmod]
theorem am_of_w64 (x : Int) : Int64.ofInt (w64 x) = Int64.ofInt x := by
  apply Int64.toInt_inj.1
  rw [Int64.toInt_ofInt, Int64.toInt_ofInt, am_w64_bmod, Int.bmod_bmod]
theorem am_toI {x : Int} (h : -2147483648 ≤ x ∧ x < 2147483648) : (Int32.ofInt x).toInt = x := by
  rw [Int32.toInt_ofInt, ← am_w32_bmod, w32_id h.1 h.2]
theorem am_toL {x : Int} (h : -9223372036854775808 ≤ x ∧ x < 9223372036854775808) : (Int64.ofInt x).toInt = x := by
  rw [Int64.toInt_ofInt, ← am_w64_bmod, w64_id h.1 h.2]
theorem am_rng (x : Int32) : -2147483648 ≤ x.toInt ∧ x.toInt < 2147483648 := by
  have h1 := Int32.le_toInt x
  have h2 := Int32.toInt_lt x
  omega
theorem am_ofT (x : Int32) : Int32.ofInt x.toInt = x := Int32.ofInt_toInt x
theorem am_oadd (x y : Int) : Int32.ofInt (w32 (x + y)) = Int32.ofInt x + Int32.ofInt y := by rw [am_of_w32, Int32.ofInt_add]
theorem am_osub (x y : Int) : Int32.ofInt (w32 (x - y)) = Int32.ofInt x - Int32.ofInt y := by rw [am_of_w32, Int32.ofInt_sub]
theorem am_omul (x y : Int) : Int32.ofInt (w32 (x * y)) = Int32.ofInt x * Int32.ofInt y := by rw [am_of_w32, Int32.ofInt_mul]
theorem am_oneg (x : Int) : Int32.ofInt (w32 (-x)) = -Int32.ofInt x := by rw [am_of_w32, Int32.ofInt_neg]
theorem am_oladd (x y : Int) : Int64.ofInt (w64 (x + y)) = Int64.ofInt x + Int64.ofInt y := by rw [am_of_w64, Int64.ofInt_add]
theorem am_olmul (x y : Int) : Int64.ofInt (w64 (x * y)) = Int64.ofInt x * Int64.ofInt y := by rw [am_of_w64, Int64.ofInt_mul]
theorem am_olt {x y : Int} (hx : -2147483648 ≤ x ∧ x < 2147483648) (hy : -2147483648 ≤ y ∧ y < 2147483648) : Int32.ofInt x < Int32.ofInt y ↔ x < y := by
  rw [Int32.lt_iff_toInt_lt, am_toI hx, am_toI hy]
theorem am_ole {x y : Int} (hx : -2147483648 ≤ x ∧ x < 2147483648) (hy : -2147483648 ≤ y ∧ y < 2147483648) : Int32.ofInt x ≤ Int32.ofInt y ↔ x ≤ y := by
  rw [Int32.le_iff_toInt_le, am_toI hx, am_toI hy]
theorem am_oeq {x y : Int} (hx : -2147483648 ≤ x ∧ x < 2147483648) (hy : -2147483648 ≤ y ∧ y < 2147483648) : Int32.ofInt x = Int32.ofInt y ↔ x = y := by
  rw [← Int32.toInt_inj, am_toI hx, am_toI hy]
theorem am_o0 : Int32.ofInt 0 = 0 := rfl
theorem am_odiv {x y : Int} (hx : -2147483648 ≤ x ∧ x < 2147483648) (hy : -2147483648 ≤ y ∧ y < 2147483648) : Int32.ofInt (am_div x y) = Int32.ofInt x / Int32.ofInt y := by
  apply Int32.toInt_inj.1
  unfold am_div
  rw [am_of_w32, Int32.toInt_ofInt, Int32.toInt_div, am_toI hx, am_toI hy]
theorem am_orem {x y : Int} (hx : -2147483648 ≤ x ∧ x < 2147483648) (hy : -2147483648 ≤ y ∧ y < 2147483648) : Int32.ofInt (am_rem x y) = Int32.ofInt x - Int32.ofInt x / Int32.ofInt y * Int32.ofInt y := by
  unfold am_rem
  rw [am_osub, Int32.ofInt_mul, am_odiv hx hy]
theorem am_oi2b {x : Int} (hx : -2147483648 ≤ x ∧ x < 2147483648) : (Int32.ofInt x).toInt8.toInt32 = Int32.ofInt (am_i2b x) := by
  apply Int32.toInt_inj.1
  rw [Int8.toInt_toInt32, Int32.toInt_toInt8, am_toI hx, am_toI (by unfold am_i2b; omega)]
  unfold am_i2b
  simp only [Int.bmod_def]
  omega
theorem am_nI (n : Nat) : nI n = Int32.ofInt (n : Int) := by
  unfold nI
  apply Int32.toInt_inj.1
  rw [Int32.toInt_ofInt, Int32.toInt_ofNat']
theorem am_oi2c {x : Int} (hx : -2147483648 ≤ x ∧ x < 2147483648) : ((Int32.ofInt x).toUInt32 % 65536).toInt32 = Int32.ofInt (am_i2c x) := by
  rw [pk_char, am_nI]
  congr 1
  unfold am_i2c
  have h : (Int32.ofInt x).toBitVec = BitVec.ofInt 32 x := rfl
  rw [h, BitVec.toNat_ofInt]
  omega
theorem am_oi2l {x : Int} (hx : -2147483648 ≤ x ∧ x < 2147483648) : (Int32.ofInt x).toInt64 = Int64.ofInt x := by
  apply Int64.toInt_inj.1
  rw [Int32.toInt_toInt64, am_toI hx, am_toL (by omega)]
theorem am_ol2i {x : Int} (hx : -9223372036854775808 ≤ x ∧ x < 9223372036854775808) : (Int64.ofInt x).toInt32 = Int32.ofInt (w32 x) := by
  apply Int32.toInt_inj.1
  rw [Int64.toInt_toInt32, am_toL hx, am_of_w32, Int32.toInt_ofInt]
theorem am_olcmp {x y : Int} (hx : -9223372036854775808 ≤ x ∧ x < 9223372036854775808) (hy : -9223372036854775808 ≤ y ∧ y < 9223372036854775808) : lg_cmp (Int64.ofInt x) (Int64.ofInt y) = Int32.ofInt (am_lcmp x y) := by
  unfold lg_cmp am_lcmp
  simp only [gt_iff_lt, Int64.lt_iff_toInt_lt, ← Int64.toInt_inj, am_toL hx, am_toL hy]
  rcases Int.lt_trichotomy x y with h | h | h
  · rw [if_neg (by omega), if_neg (by omega), if_pos h]; rfl
  · rw [if_neg (by omega), if_pos h, if_neg (by omega), if_pos h]; rfl
  · rw [if_pos h, if_neg (by omega), if_neg (by omega)]; rfl
theorem am_oin {i : Int} (hi : -2147483648 ≤ i ∧ i < 2147483648) {n : Nat} (h0 : 0 ≤ i) (h1 : i < (n : Int)) : vp_in (Int32.ofInt i) n := vp_in_iff.mpr (by rw [am_toI hi]; exact ⟨h0, h1⟩)
theorem am_ocl {i : Int} (hi : -2147483648 ≤ i ∧ i < 2147483648) : (Int32.ofInt i).toNatClampNeg = i.toNat := by
  show (Int32.ofInt i).toInt.toNat = i.toNat
  rw [am_toI hi]
theorem am_obin (a : Nat) (x y : Int) : -2147483648 ≤ am_bin a x y ∧ am_bin a x y < 2147483648 := by
  unfold am_bin
  split
  · exact am_w32_rng _
  · exact am_w32_rng _
  · exact am_w32_rng _
  · exact am_rng _
  · exact am_rng _
  · exact am_rng _
  · exact am_rng _
  · exact am_rng _
  · exact am_rng _
