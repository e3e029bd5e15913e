/-! NUMBERS BELOW NOUGHT; THE STEP TABLE -/
def iI (z : Int) : Int32 := Int32.ofInt z
theorem iI_n (n : Nat) : nI n = iI n := Int32.ofInt_eq_ofNat.symm
theorem iI_toInt {z : Int} (h1 : -2 ^ 31 ≤ z) (h2 : z < 2 ^ 31) : (iI z).toInt = z := Int32.toInt_ofInt_of_le h1 h2
theorem iI_add (a b : Int) : iI a + iI b = iI (a + b) := (Int32.ofInt_add a b).symm
theorem iI_sub (a b : Int) : iI a - iI b = iI (a - b) := (Int32.ofInt_sub a b).symm
theorem iI_lt {a b : Int} (h1 : -2 ^ 31 ≤ a) (h2 : a < 2 ^ 31) (h3 : -2 ^ 31 ≤ b) (h4 : b < 2 ^ 31) : iI a < iI b ↔ a < b := by
  rw [Int32.lt_iff_toInt_lt, iI_toInt h1 h2, iI_toInt h3 h4]
theorem iI_le {a b : Int} (h1 : -2 ^ 31 ≤ a) (h2 : a < 2 ^ 31) (h3 : -2 ^ 31 ≤ b) (h4 : b < 2 ^ 31) : iI a ≤ iI b ↔ a ≤ b := by
  rw [Int32.le_iff_toInt_le, iI_toInt h1 h2, iI_toInt h3 h4]
theorem zmin_i {a b : Int} (h1 : -2 ^ 31 ≤ a) (h2 : a < 2 ^ 31) (h3 : -2 ^ 31 ≤ b) (h4 : b < 2 ^ 31) : zmin (iI a) (iI b) = iI (min a b) := by
  unfold zmin
  by_cases h : b < a
  · rw [if_pos ((iI_lt h3 h4 h1 h2).mpr h), Int.min_eq_right (by omega)]
  · rw [if_neg (fun q => h ((iI_lt h3 h4 h1 h2).mp q)), Int.min_eq_left (by omega)]
theorem zmax_i {a b : Int} (h1 : -2 ^ 31 ≤ a) (h2 : a < 2 ^ 31) (h3 : -2 ^ 31 ≤ b) (h4 : b < 2 ^ 31) : zmax (iI a) (iI b) = iI (max a b) := by
  unfold zmax
  by_cases h : a < b
  · rw [if_pos ((iI_lt h1 h2 h3 h4).mpr h), Int.max_eq_right (by omega)]
  · rw [if_neg (fun q => h ((iI_lt h1 h2 h3 h4).mp q)), Int.max_eq_left (by omega)]
theorem zabs_i {a : Int} (h1 : -2 ^ 31 < a) (h2 : a < 2 ^ 31) : zabs (iI a) = nI a.natAbs := by
  unfold zabs
  rw [iI_n]
  by_cases h : 0 ≤ a
  · rw [if_pos (show (0 : Int32) ≤ iI a from (iI_le (a := 0) (by decide) (by decide) (by omega) h2).mpr h)]
    congr 1
    omega
  · rw [if_neg (show ¬ (0 : Int32) ≤ iI a from fun q => h ((iI_le (a := 0) (by decide) (by decide) (by omega) h2).mp q)), show (0 : Int32) = iI 0 from rfl, iI_sub]
    congr 1
    omega
def tnib (f : Nat → Int64) (c t : Nat) : Prop := ∀ r, r < 4 → bitL (f (c / 16)) (4 * (c % 16) + r) = t.testBit r
def setn (u : Int64) (k t : Nat) : Int64 := (u &&& ((((15 : Int64) <<< (Int32.toInt64 (nI (k * 4)) &&& 63))) ^^^ (-1 : Int64))) ||| (((Int32.toInt64 (nI t)) <<< (Int32.toInt64 (nI (k * 4)) &&& 63)))
theorem lit15 (r : Nat) : (15#64).getLsbD r = decide (r < 4) := by
  rw [show (15#64) = BitVec.ofNat 64 (2 ^ 4 - 1) from rfl, BitVec.getLsbD_ofNat, Nat.testBit_two_pow_sub_one]
  by_cases h : r < 4
  · simp [h]; omega
  · simp [h]
theorem shl_bv {u : Int64} {b : Nat} (hb : b < 64) : (u <<< (Int32.toInt64 (nI b) &&& 63)).toBitVec = u.toBitVec <<< b := by
  have := amtS b hb
  conv => rhs; rw [← this]
  rfl
theorem int_bv : ∀ t, t < 16 → (Int32.toInt64 (nI t)).toBitVec = BitVec.ofNat 64 t := by decide +kernel
theorem int_bv2 : ∀ t, t < 16 → Int64.toInt32 (Int64.ofBitVec (BitVec.ofNat 64 t)) = nI t := by decide +kernel
theorem bit_set {u : Int64} {k t q : Nat} (hk : k < 16) (ht : t < 16) (hq : q < 64) : bitL (setn u k t) q = if 4 * k ≤ q ∧ q < 4 * k + 4 then t.testBit (q - 4 * k) else bitL u q := by
  unfold setn bitL
  rw [Int64.toBitVec_or, Int64.toBitVec_and, Int64.toBitVec_xor, shl_bv (by omega), shl_bv (by omega), int_bv t ht, show (-1 : Int64).toBitVec = BitVec.allOnes 64 from by decide, BitVec.getLsbD_or, BitVec.getLsbD_and, BitVec.getLsbD_xor, BitVec.getLsbD_shiftLeft, BitVec.getLsbD_shiftLeft, BitVec.getLsbD_allOnes, show (15 : Int64).toBitVec = 15#64 from rfl, lit15, BitVec.getLsbD_ofNat]
  have ht4 : ∀ r, 4 ≤ r → t.testBit r = false := fun r hr => Nat.testBit_lt_two_pow (Nat.lt_of_lt_of_le ht (show 2 ^ 4 ≤ 2 ^ r from Nat.pow_le_pow_right (by decide) hr))
  by_cases h : 4 * k ≤ q ∧ q < 4 * k + 4
  · rw [if_pos h]
    have h1 : ¬ q < k * 4 := by omega
    have h2 : q - k * 4 < 4 := by omega
    have h3 : q - k * 4 < 64 := by omega
    simp only [hq, h1, h2, h3, decide_true, decide_false, Bool.true_and, Bool.not_false, Bool.xor_true, Bool.not_true, Bool.and_false, Bool.false_or]
    rw [show k * 4 = 4 * k by omega]
  · rw [if_neg h]
    by_cases h1 : q < k * 4
    · simp only [hq, h1, decide_true, Bool.not_true, Bool.and_false, Bool.false_and, Bool.xor_true, Bool.not_false, Bool.and_true, Bool.or_false]
    · have h2 : ¬ q - k * 4 < 4 := by omega
      rw [ht4 (q - k * 4) (by omega)]
      simp only [hq, h1, h2, decide_true, decide_false, Bool.and_false, Bool.xor_true, Bool.not_false, Bool.and_true, Bool.or_false]
theorem tnib_put {f : Nat → Int64} {c t : Nat} (ht : t < 16) : tnib (vp_updL f (c / 16) (setn (f (c / 16)) (c % 16) t)) c t := by
  intro r hr
  rw [pk_uLs, bit_set (Nat.mod_lt _ (by decide)) ht (by omega), if_pos (by omega), show 4 * (c % 16) + r - 4 * (c % 16) = r by omega]
theorem tnib_keep {f : Nat → Int64} {c c' t t' : Nat} (ht : t < 16) (hc : c' ≠ c) (h : tnib f c' t') : tnib (vp_updL f (c / 16) (setn (f (c / 16)) (c % 16) t)) c' t' := by
  intro r hr
  rw [← h r hr]
  by_cases hd : c' / 16 = c / 16
  · rw [hd, pk_uLs, bit_set (Nat.mod_lt _ (by decide)) ht (by omega), if_neg (by omega)]
  · rw [pk_uLn hd]
theorem get_nib {u : Int64} {k t : Nat} (hk : k < 16) (ht : t < 16) (h : ∀ r, r < 4 → bitL u (4 * k + r) = t.testBit r) : Int64.toInt32 (((Int64.toUInt64 u >>> ((Int32.toInt64 (nI (k * 4))).toUInt64 &&& Int64.toUInt64 63)).toInt64) &&& (15 : Int64)) = nI t := by
  rw [← int_bv2 t ht]
  congr 1
  apply Int64.toBitVec_inj.mp
  have e : (Int64.toUInt64 u >>> ((Int32.toInt64 (nI (k * 4))).toUInt64 &&& Int64.toUInt64 63)).toInt64.toBitVec = u.toBitVec >>> (k * 4) := by
    apply BitVec.eq_of_toNat_eq
    show (u.toUInt64 >>> ((Int32.toInt64 (nI (k * 4))).toUInt64 &&& Int64.toUInt64 63)).toNat = _
    rw [UInt64.toNat_shiftRight, amtU (k * 4) (by omega), Nat.mod_eq_of_lt (show k * 4 < 64 by omega), Nat.mod_eq_of_lt (show k * 4 < 64 by omega), BitVec.toNat_ushiftRight]
    rfl
  rw [Int64.toBitVec_and, e]
  apply BitVec.eq_of_getLsbD_eq
  intro q hq
  rw [BitVec.getLsbD_and, BitVec.getLsbD_ushiftRight, show (15 : Int64).toBitVec = 15#64 from rfl, lit15]
  show _ = (BitVec.ofNat 64 t).getLsbD q
  rw [BitVec.getLsbD_ofNat]
  by_cases h4 : q < 4
  · have := h q h4
    unfold bitL at this
    rw [show k * 4 + q = 4 * k + q by omega, this]
    simp [h4, hq]
  · rw [Nat.testBit_lt_two_pow (Nat.lt_of_lt_of_le ht (show 2 ^ 4 ≤ 2 ^ q from Nat.pow_le_pow_right (by decide) (by omega)))]
    simp [h4]
section TB
variable {x : Nat} {si : Nat → Nat → Int32} {sq : Nat → Nat → Nat} {sl : Nat → Nat → Int64} {A : Nat → Nat → Int32} {B : Nat → Nat → Int64} {g : zh_H}
theorem x_cellOf {i j lo w : Nat} (h1 : si 69 1 = iI (-(lo : Int))) (h2 : si 69 2 = nI w) (hb : j ≤ i + lo) : b_X8_cellOf_0 (xh x si sq sl A B g) (x + 69) (nI i) (nI j) = some (nI (j * w + (i + lo - j)), xh x si sq sl A B g) := by
  unfold b_X8_cellOf_0
  rw [xg_St_2, Option.bind_some, xg_St_1, Option.bind_some, h1, h2, pk_mul]
  congr 2
  rw [iI_n i, iI_n j, iI_sub, iI_sub, iI_n (j * w), iI_add, iI_n]
  congr 1
  omega
theorem x_put {i j lo w c t : Nat} (h1 : si 69 1 = iI (-(lo : Int))) (h2 : si 69 2 = nI w) (hb : j ≤ i + lo) (hc : c = j * w + (i + lo - j)) (hc2 : c < 80608) : b_X8_put_0 (xh x si sq sl A B g) (x + 69) (nI i) (nI j) (nI t) = some (xh x si sq sl A (ub B 70 (vp_updL (B 70) (c / 16) (setn (B 70 (c / 16)) (c % 16) t))) g) := by
  unfold b_X8_put_0 b_X8_put_72
  rw [xo_St, Option.bind_some, x_cellOf h1 h2 hb, zbp_some, ← hc, if_neg (nI_pos (by omega)), xg_St_0, Option.bind_some, xt_n, Option.bind_some, show (16 : Int32) = nI 16 from rfl, pk_div (by omega) (by decide) (by decide), if_neg (nI_ge (by omega) (by omega))]
  simp only [xg_St_0, Option.bind_some, xt_l (show c / 16 < 5038 by omega), xt_s (show c / 16 < 5038 by omega)]
  rw [pk_mul, show nI c - nI (c / 16 * 16) = nI (c % 16) by rw [pk_sub (by omega)]; congr 1; omega, show (4 : Int32) = nI 4 from rfl, pk_mul]
  rfl
theorem x_tget {i j lo w c t : Nat} (h1 : si 69 1 = iI (-(lo : Int))) (h2 : si 69 2 = nI w) (hb : j ≤ i + lo) (hc : c = j * w + (i + lo - j)) (hc2 : c < 80608) (ht : t < 16) (hn : tnib (B 70) c t) : b_X8_get_0 (xh x si sq sl A B g) (x + 69) (nI i) (nI j) = some (nI t, xh x si sq sl A B g) := by
  unfold b_X8_get_0
  rw [xo_St, Option.bind_some, x_cellOf h1 h2 hb, zbp_some, ← hc, if_neg (nI_pos (by omega)), xg_St_0, Option.bind_some, xt_n, Option.bind_some, show (16 : Int32) = nI 16 from rfl, pk_div (by omega) (by decide) (by decide), if_pos (nI_lt (by omega) (by omega))]
  simp only [Option.bind_some, xt_l (show c / 16 < 5038 by omega)]
  rw [pk_mul, show nI c - nI (c / 16 * 16) = nI (c % 16) by rw [pk_sub (by omega)]; congr 1; omega, show (4 : Int32) = nI 4 from rfl, pk_mul, get_nib (Nat.mod_lt _ (by decide)) ht hn]
end TB
