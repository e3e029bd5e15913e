/-! BITS: whether a set has a byte; has, line -/
def bitL (u : Int64) (j : Nat) : Bool := u.toBitVec.getLsbD j
/-- the set (lo, hi) has byte b -/
def hasB (lo hi : Int64) (b : Nat) : Bool := if b < 64 then bitL lo b else bitL hi (b - 64)
theorem and1 (v : BitVec 64) : v &&& 1#64 = if v.getLsbD 0 then 1#64 else 0#64 := by
  apply BitVec.eq_of_getLsbD_eq
  intro i hi
  rw [BitVec.getLsbD_and]
  by_cases h0 : i = 0
  · subst h0
    cases v.getLsbD 0 <;> rfl
  · have h1 : (1#64).getLsbD i = false := by
      rw [show (1#64) = BitVec.ofNat 64 (2 ^ 0) from rfl, BitVec.getLsbD_ofNat, Nat.testBit_two_pow]
      simp [h0]
      intro _; omega
    rw [h1, Bool.and_false]
    split
    · exact h1.symm
    · simp
theorem shrU {u : Int64} {s : UInt64} {j : Nat} (hs : s.toNat = j) (hj : j < 64) : ((Int64.toUInt64 u >>> s).toInt64 &&& (1 : Int64)) = if bitL u j then 1 else 0 := by
  apply Int64.toBitVec_inj.mp
  have e : (Int64.toUInt64 u >>> s).toInt64.toBitVec = u.toBitVec >>> j := by
    apply BitVec.eq_of_toNat_eq
    show (u.toUInt64 >>> s).toNat = _
    rw [UInt64.toNat_shiftRight, hs, Nat.mod_eq_of_lt hj, BitVec.toNat_ushiftRight]
    rfl
  rw [Int64.toBitVec_and, e]
  show u.toBitVec >>> j &&& 1#64 = _
  rw [and1, BitVec.getLsbD_ushiftRight, Nat.add_zero]
  unfold bitL
  cases u.toBitVec.getLsbD j <;> rfl
theorem shrS {u s : Int64} {j : Nat} (hs : (s.toBitVec.smod 64).toNat = j) (hj : j < 64) : ((u >>> s) &&& (1 : Int64)) = if bitL u j then 1 else 0 := by
  apply Int64.toBitVec_inj.mp
  have e : (u >>> s).toBitVec = u.toBitVec.sshiftRight j := by rw [← hs]; rfl
  rw [Int64.toBitVec_and, e]
  show u.toBitVec.sshiftRight j &&& 1#64 = _
  have hb : (u.toBitVec.sshiftRight j).getLsbD 0 = u.toBitVec.getLsbD j := by
    rw [BitVec.getLsbD_sshiftRight, if_pos (by omega)]
    simp
  rw [and1, hb]
  unfold bitL
  cases u.toBitVec.getLsbD j <;> rfl
theorem amtU : ∀ b, b < 128 → ((Int32.toInt64 (nI b)).toUInt64 &&& Int64.toUInt64 63).toNat = b % 64 := by decide +kernel
theorem amtS : ∀ b, b < 64 → ((Int32.toInt64 (nI b) &&& 63).toBitVec.smod 64).toNat = b := by decide +kernel
/-- the class's test of a bit -/
theorem tstU {u : Int64} {b : Nat} (hb : b < 128) : (lg_cmp ((((Int64.toUInt64 u >>> ((Int32.toInt64 (nI b)).toUInt64 &&& Int64.toUInt64 63)).toInt64) &&& (1 : Int64))) (0 : Int64)) = (0 : Int32) ↔ bitL u (b % 64) = false := by
  rw [shrU (amtU b hb) (Nat.mod_lt _ (by decide))]
  cases bitL u (b % 64)
  · exact ⟨fun _ => rfl, fun _ => by decide⟩
  · exact ⟨fun h => absurd h (by decide), fun h => by cases h⟩
theorem tstS {u : Int64} {b : Nat} (hb : b < 64) : (lg_cmp ((u >>> (Int32.toInt64 (nI b) &&& 63)) &&& (1 : Int64)) (1 : Int64)) = (0 : Int32) ↔ bitL u b = true := by
  rw [shrS (amtS b hb) hb]
  cases bitL u b
  · exact ⟨fun h => absurd h (by decide), fun h => by cases h⟩
  · exact ⟨fun _ => rfl, fun _ => by decide⟩
theorem hasB_mod {lo hi : Int64} {b : Nat} (hb : b < 128) : hasB lo hi b = bitL (if b < 64 then lo else hi) (b % 64) := by
  unfold hasB
  by_cases h : b < 64
  · rw [if_pos h, if_pos h, Nat.mod_eq_of_lt h]
  · rw [if_neg h, if_neg h, show b % 64 = b - 64 by omega]
section BI
variable {x : Nat} {si : Nat → Nat → Int32} {sq : Nat → Nat → Nat} {sl : Nat → Nat → Int64} {A : Nat → Nat → Int32} {B : Nat → Nat → Int64} {g g2 : zh_H}
variable {y : Nat} {mi : Nat → Int32} {ml : Nat → Int64} {C : Nat → Nat → Int32} {E : Nat → Nat → Int64}
/-- half: the array of the halves in which byte b's bit stands -/
theorem x_half {o b : Nat} (ho : isSet o) (hb : b < 128) : b_X7_half_0 (xh x si sq sl A B g) (x + o) (nI b) = some (x + (if b < 64 then o + 1 else o + 2), xh x si sq sl A B g) := by
  unfold b_X7_half_0
  by_cases h : b < 64
  · rw [if_neg (show ¬ (64 : Int32) ≤ nI b from nI_ge (b := 64) h (by decide)), xs_ca ho, Option.bind_some, if_pos h]
    rfl
  · rw [if_pos (show (64 : Int32) ≤ nI b from nI_le (a := 64) (by omega) (by omega)), xs_cb ho, Option.bind_some, if_neg h]
    rfl
theorem xs_half {o b i : Nat} (ho : isSet o) (hi : i < slen o) : aL (xh x si sq sl A B g) (x + (if b < 64 then o + 1 else o + 2)) (nI i) = some (if b < 64 then B (o + 1) i else B (o + 2) i) := by
  by_cases h : b < 64
  · rw [if_pos h, if_pos h, xs_la ho hi]
  · rw [if_neg h, if_neg h, xs_lb ho hi]
theorem x_holds {o m i b : Nat} (ho : isSet o) (hm : si o 2 = nI m) (hi : i < m) (hms : m ≤ slen o) (hb : b < 128) : b_X7_holds_0 (xh x si sq sl A B g) (x + o) (nI i) (nI b) = some (if hasB (B (o + 1) i) (B (o + 2) i) b then 1 else 0, xh x si sq sl A B g) := by
  have l1 := slen_le (o := o)
  unfold b_X7_holds_0
  simp only [if_neg (nI_pos (show i < 2 ^ 31 by omega)), xs_g ho, Option.bind_some, hm, if_neg (nI_ge hi (show m < 2 ^ 31 by omega)), xs_is ho, x_half ho hb, zbp_some, xs_half (b := b) ho (show i < slen o by omega)]
  rw [hasB_mod hb]
  by_cases h : bitL (if b < 64 then B (o + 1) i else B (o + 2) i) (b % 64) = false
  · rw [if_pos ((tstU hb).mpr h), h]
    rfl
  · rw [if_neg (fun q => h ((tstU hb).mp q)), if_pos (by cases hh : bitL (if b < 64 then B (o + 1) i else B (o + 2) i) (b % 64) <;> simp_all)]
    rfl
theorem x_isPattern_t {p m : Nat} (hp : p < 8) (hm : si (20 + 3 * p) 2 = nI m) (h0 : 0 < m) (hm2 : m ≤ 200) : b_X10_isPattern_0 (xh x si sq sl A B g) x (nI p) = some (1, xh x si sq sl A B g) := by
  unfold b_X10_isPattern_0
  simp only [if_neg (nI_pos (show p < 2 ^ 31 by omega)), if_neg (show ¬ (8 : Int32) ≤ nI p from nI_ge (b := 8) hp (by decide)), xg_EF_4, Option.bind_some, xpr hp, xs_g (set_p hp), hm, if_neg (nI_nle h0 (show m < 2 ^ 31 by omega))]
  rfl
theorem x_isPattern_0 {p : Nat} (hp : p < 8) (hm : si (20 + 3 * p) 2 = nI 0) : b_X10_isPattern_0 (xh x si sq sl A B g) x (nI p) = some (0, xh x si sq sl A B g) := by
  unfold b_X10_isPattern_0
  simp only [if_neg (nI_pos (show p < 2 ^ 31 by omega)), if_neg (show ¬ (8 : Int32) ≤ nI p from nI_ge (b := 8) hp (by decide)), xg_EF_4, Option.bind_some, xpr hp, xs_g (set_p hp), hm, if_pos (show nI 0 ≤ (0 : Int32) from by decide)]
  rfl
theorem x_isPattern_f {p : Int32} (hp : p < 0 ∨ 8 ≤ p) : b_X10_isPattern_0 (xh x si sq sl A B g) x p = some (0, xh x si sq sl A B g) := by
  unfold b_X10_isPattern_0
  by_cases c1 : p < 0
  · rw [if_pos c1]
    rfl
  · rw [if_neg c1, if_pos (hp.resolve_left c1)]
    rfl
theorem m_isThere_t {p m : Nat} (hp : p < 8) (hm : C 7 p = nI m) (h0 : 0 < m) (hm2 : m ≤ 200) : b_X11_isThere_0 (mh y mi ml C E g) y (nI p) = some (1, mh y mi ml C E g) := by
  unfold b_X11_isThere_0
  simp only [m_in_t (nI_pos' (show p < 2 ^ 31 by omega)) (show nI p ≤ (7 : Int32) from nI_le (b := 7) (by omega) (by decide)), zbp_some, if_neg (show ¬ (1 : Int32) = 0 by decide), mr_setCount, Option.bind_some, ml_setCount hp, hm, if_neg (nI_nle h0 (show m < 2 ^ 31 by omega))]
  rfl
theorem m_isThere_0 {p : Nat} (hp : p < 8) (hm : C 7 p = nI 0) : b_X11_isThere_0 (mh y mi ml C E g) y (nI p) = some (0, mh y mi ml C E g) := by
  unfold b_X11_isThere_0
  simp only [m_in_t (nI_pos' (show p < 2 ^ 31 by omega)) (show nI p ≤ (7 : Int32) from nI_le (b := 7) (by omega) (by decide)), zbp_some, if_neg (show ¬ (1 : Int32) = 0 by decide), mr_setCount, Option.bind_some, ml_setCount hp, hm, if_pos (show nI 0 ≤ (0 : Int32) from by decide)]
  rfl
theorem not07 {p : Int32} (hp : p < 0 ∨ 8 ≤ p) : ¬ (0 ≤ p ∧ p ≤ 7) := by
  rintro ⟨h1, h2⟩
  rcases hp with h | h
  · exact absurd h (i_nlt.mpr h1)
  · exact absurd (Int32.le_trans h h2) (by decide)
theorem m_isThere_f {p : Int32} (hp : p < 0 ∨ 8 ≤ p) : b_X11_isThere_0 (mh y mi ml C E g) y p = some (0, mh y mi ml C E g) := by
  unfold b_X11_isThere_0
  simp only [m_in_f (not07 hp), zbp_some, if_true]
  rfl
/-- of a number p: no pattern's, a pattern that isn't there, one that is -/
theorem pat_cases (p : Int32) (h : rPats si B C E) : (p < 0 ∨ 8 ≤ p) ∨ ∃ q, q < 8 ∧ p = nI q ∧ ∃ m, m ≤ 200 ∧ si (20 + 3 * q) 2 = nI m ∧ C 7 q = nI m ∧ ∀ j, j < m → B (21 + 3 * q) j = E 5 (200 * q + j) ∧ B (22 + 3 * q) j = E 6 (200 * q + j) := by
  rcases pk_ix p (n := 8) (by decide) with h1 | h1 | ⟨q, hq, rfl⟩
  · exact Or.inl (Or.inl h1)
  · exact Or.inl (Or.inr h1)
  · exact Or.inr ⟨q, hq, rfl, h q hq⟩
theorem op_has (p i b : Int32) (hP : rPats si B C E) : ∃ r, b_X10_has_0 (xh x si sq sl A B g) x p i b = some (r, xh x si sq sl A B g) ∧ b_X11_has_0 (mh y mi ml C E g2) y p i b = some (r, mh y mi ml C E g2) := by
  rcases pat_cases p hP with h | ⟨q, hq, rfl, m, hm, s1, s2, s3⟩
  · refine ⟨-2, ?_, ?_⟩
    · unfold b_X10_has_0
      simp only [xo_EF, Option.bind_some, x_isPattern_f h, zbp_some, if_true]
      rfl
    · unfold b_X11_has_0
      simp only [mis, Option.bind_some, m_isThere_f h, zbp_some, if_true]
      rfl
  · by_cases h0 : m = 0
    · subst h0
      refine ⟨-2, ?_, ?_⟩
      · unfold b_X10_has_0
        simp only [xo_EF, Option.bind_some, x_isPattern_0 hq s1, zbp_some, if_true]
        rfl
      · unfold b_X11_has_0
        simp only [mis, Option.bind_some, m_isThere_0 hq s2, zbp_some, if_true]
        rfl
    · have ex : b_X10_has_0 (xh x si sq sl A B g) x (nI q) i b = if i < (0 : Int32) then some (-2, xh x si sq sl A B g) else if nI m ≤ i then some (-2, xh x si sq sl A B g) else zbp (b_X10_isByte_0 (xh x si sq sl A B g) b) fun v8 h7 => if v8 = (0 : Int32) then b_X10_has_32 h7 else (gR h7 x 10 4).bind fun a9 => (aR h7 4 a9 (nI q)).bind fun a10 => (isO h7 a10 7).bind fun o11 => zbp (b_X7_holds_0 h7 a10 i b) fun v13 h12 => if v13 = (0 : Int32) then b_X10_has_54 h12 ((0 : Int32)) else b_X10_has_54 h12 ((1 : Int32)) := by
        unfold b_X10_has_0
        simp only [xo_EF, Option.bind_some, x_isPattern_t hq s1 (show 0 < m by omega) hm, zbp_some, if_neg (show ¬ (1 : Int32) = 0 by decide), xg_EF_4, xpr hq, xs_g (set_p hq), s1]
        rfl
      have em : b_X11_has_0 (mh y mi ml C E g2) y (nI q) i b = b_X11_has_29 (mh y mi ml C E g2) y (nI q) i b (nI q) (y + 7) 0 i := by
        unfold b_X11_has_0
        simp only [mis, Option.bind_some, m_isThere_t hq s2 (show 0 < m by omega) hm, zbp_some, if_neg (show ¬ (1 : Int32) = 0 by decide), mr_setCount, m_in_t (nI_pos' (show q < 2 ^ 31 by omega)) (show nI q ≤ (7 : Int32) from nI_le (b := 7) (by omega) (by decide))]
      rw [ex, em]
      unfold b_X11_has_29
      rw [ml_setCount hq, Option.bind_some, s2]
      rcases pk_ix i (n := m) (by omega) with h1 | h1 | ⟨j, hj, rfl⟩
      · exact ⟨-2, by rw [if_pos h1], by rw [m_in_f (in_f (by omega) (Or.inl h1)), zbp_some, if_pos rfl]; rfl⟩
      · refine ⟨-2, ?_, by rw [m_in_f (in_f (by omega) (Or.inr h1)), zbp_some, if_pos rfl]; rfl⟩
        rw [if_pos h1]
        split <;> rfl
      · rw [if_neg (nI_pos (by omega)), if_neg (nI_ge hj (by omega)), m_in_t (nI_pos' (by omega)) (by rw [nI_p (by omega)]; exact nI_le (by omega) (by omega)), zbp_some, if_neg (by decide)]
        by_cases hb : okB b
        · obtain ⟨c, hc, rfl⟩ := okB_nat hb
          refine ⟨if hasB (E 5 (200 * q + j)) (E 6 (200 * q + j)) c then 1 else 0, ?_, ?_⟩
          · simp only [x_isByte_t hb, zbp_some, if_neg (show ¬ (1 : Int32) = 0 by decide), xg_EF_4, Option.bind_some, xpr hq, xs_is (set_p hq), x_holds (set_p hq) s1 hj (show m ≤ slen (20 + 3 * q) by have : slen (20 + 3 * q) = 200 := (by have : q = 0 ∨ q = 1 ∨ q = 2 ∨ q = 3 ∨ q = 4 ∨ q = 5 ∨ q = 6 ∨ q = 7 := (by omega); rcases this with rfl | rfl | rfl | rfl | rfl | rfl | rfl | rfl <;> rfl); omega) (show c < 128 by omega)]
            rw [show 20 + 3 * q + 1 = 21 + 3 * q by omega, show 20 + 3 * q + 2 = 22 + 3 * q by omega, (s3 j hj).1, (s3 j hj).2]
            cases hasB (E 5 (200 * q + j)) (E 6 (200 * q + j)) c <;> rfl
          · simp only [m_isByte_t hb, zbp_some, if_neg (show ¬ (1 : Int32) = 0 by decide), show (200 : Int32) = nI 200 from rfl, pk_mul, nI_add, mr_highs, mr_lows, Option.bind_some, ml_highs (show 200 * q + j < 1600 by omega), ml_lows (show 200 * q + j < 1600 by omega)]
            unfold hasB b_X11_has_88
            by_cases h64 : c < 64
            · rw [if_neg (show ¬ (64 : Int32) ≤ nI c from nI_ge (b := 64) h64 (by decide)), if_pos h64, shrS (amtS c h64) h64]
              cases bitL (E 5 (200 * q + j)) c <;> rfl
            · rw [if_pos (show (64 : Int32) ≤ nI c from nI_le (a := 64) (by omega) (by omega)), if_neg h64, show nI c - (64 : Int32) = nI (c - 64) from pk_sub (b := 64) (by omega), shrS (amtS (c - 64) (by omega)) (by omega)]
              cases bitL (E 6 (200 * q + j)) (c - 64) <;> rfl
        · refine ⟨-2, ?_, ?_⟩
          · simp only [x_isByte_f hb, zbp_some, if_true]
            rfl
          · simp only [m_isByte_f hb, zbp_some, if_true]
            rfl
theorem op_line (i : Int32) (hL : rLines si A mi C) : ∃ r, b_X10_line_0 (xh x si sq sl A B g) x i = some (r, xh x si sq sl A B g) ∧ b_X11_line_0 (mh y mi ml C E g2) y i = some (r, mh y mi ml C E g2) := by
  obtain ⟨c, hc, c1, c2, c3⟩ := hL
  have ex : b_X10_line_0 (xh x si sq sl A B g) x i = b_X3_get_0 (xh x si sq sl A B g) (x + 82) i := by
    unfold b_X10_line_0
    simp only [xg_EF_10, Option.bind_some, xo_Ll]
    cases b_X3_get_0 (xh x si sq sl A B g) (x + 82) i with
    | none => rfl
    | some q => rfl
  rw [ex]
  unfold b_X3_get_0 b_X11_line_0
  simp only [mg_lineCount, Option.bind_some, c2, xg_Ll_1, c1]
  rcases pk_ix i (n := c) (by omega) with h1 | h1 | ⟨j, hj, rfl⟩
  · exact ⟨-1, by rw [if_pos h1]; rfl, by rw [m_in_f (in_f (by omega) (Or.inl h1)), zbp_some, if_pos rfl]; rfl⟩
  · refine ⟨-1, ?_, by rw [m_in_f (in_f (by omega) (Or.inr h1)), zbp_some, if_pos rfl]; rfl⟩
    rw [if_pos h1]
    split <;> rfl
  · refine ⟨C 27 j, ?_, ?_⟩
    · simp only [if_neg (nI_pos (show j < 2 ^ 31 by omega)), if_neg (nI_ge hj (show c < 2 ^ 31 by omega)), xg_Ll_0, Option.bind_some, xi_l (k := 83) (L := 751) (Or.inr (Or.inr (Or.inr ⟨rfl, rfl⟩))) (show j < 751 by omega), c3 j hj]
      rfl
    · simp only [m_in_t (nI_pos' (show j < 2 ^ 31 by omega)) (show nI j ≤ nI c - 1 by rw [nI_p (by omega)]; exact nI_le (by omega) (by omega)), zbp_some, if_neg (show ¬ (1 : Int32) = 0 by decide), mr_lineNumbers, Option.bind_some, ml_lineNumbers (show j < 1501 by omega)]
      rfl
end BI
