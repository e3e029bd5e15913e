/-! SETS OF BYTES: ranges put into them -/
def okN (b : Nat) : Bool := b == 10 || (decide (32 ≤ b) && decide (b ≤ 126))
def inR (f s b : Nat) : Bool := okN b && (decide (f ≤ b) && decide (b ≤ s))
theorem okN_iff {b : Nat} (hb : b < 2 ^ 31) : okN b = true ↔ okB (nI b) := by
  unfold okN okB
  rw [Bool.or_eq_true, Bool.and_eq_true, beq_iff_eq, decide_eq_true_eq, decide_eq_true_eq]
  rw [show (10 : Int32) = nI 10 from rfl, show (32 : Int32) = nI 32 from rfl, show (126 : Int32) = nI 126 from rfl, nI_eq hb (by decide), nI_leI (by decide) hb, nI_leI hb (by decide)]
/-- the bytes from f to s have come into (lo, hi) -/
def rg (lo hi : Int64) (f s : Nat) (lo' hi' : Int64) : Prop := ∀ j, j < 64 → bitL lo' j = (bitL lo j || inR f s j) ∧ bitL hi' j = (bitL hi j || inR f s (64 + j))
theorem bitL_ext {u v : Int64} (h : ∀ j, j < 64 → bitL u j = bitL v j) : u = v := by
  apply Int64.toBitVec_inj.mp
  apply BitVec.eq_of_getLsbD_eq
  exact h
theorem rg_uniq {lo hi lo1 hi1 lo2 hi2 : Int64} {f s : Nat} (h1 : rg lo hi f s lo1 hi1) (h2 : rg lo hi f s lo2 hi2) : lo1 = lo2 ∧ hi1 = hi2 :=
  ⟨bitL_ext fun j hj => (h1 j hj).1.trans (h2 j hj).1.symm, bitL_ext fun j hj => (h1 j hj).2.trans (h2 j hj).2.symm⟩
theorem amtS2 : ∀ b, b < 128 → ((Int32.toInt64 (nI b) &&& 63).toBitVec.smod 64).toNat = b % 64 := by decide +kernel
theorem bitL_or {u v : Int64} {j : Nat} : bitL (u ||| v) j = (bitL u j || bitL v j) := by
  unfold bitL
  rw [Int64.toBitVec_or, BitVec.getLsbD_or]
theorem bit_shl {b j : Nat} (hb : b < 128) (hj : j < 64) : bitL ((1 : Int64) <<< (Int32.toInt64 (nI b) &&& 63)) j = decide (j = b % 64) := by
  have e : ((1 : Int64) <<< (Int32.toInt64 (nI b) &&& 63)).toBitVec = 1#64 <<< (b % 64) := by rw [← amtS2 b hb]; rfl
  unfold bitL
  have hm := Nat.mod_lt b (show 0 < 64 by decide)
  rw [e, BitVec.getLsbD_shiftLeft, show (1#64) = BitVec.ofNat 64 (2 ^ 0) from rfl, BitVec.getLsbD_ofNat, Nat.testBit_two_pow]
  by_cases h : j = b % 64
  · subst h
    simp [hm]
  · simp [h, hj]
    omega
theorem rg_none {lo hi : Int64} {f s : Nat} (h : s < f) : rg lo hi f s lo hi := by
  intro j hj
  have e : ∀ q, inR f s q = false := by
    intro q
    unfold inR
    by_cases h1 : f ≤ q
    · rw [show decide (q ≤ s) = false from decide_eq_false (by omega), Bool.and_false, Bool.and_false]
    · rw [show decide (f ≤ q) = false from decide_eq_false h1, Bool.false_and, Bool.and_false]
  rw [e, e, Bool.or_false, Bool.or_false]
  exact ⟨rfl, rfl⟩
theorem inR_step {f s q : Nat} : inR f s q = ((inR (f + 1) s q) || (decide (q = f) && (okN f && decide (f ≤ s)))) := by
  unfold inR
  by_cases h : q = f
  · subst h
    rw [show decide (q + 1 ≤ q) = false from decide_eq_false (by omega), show decide (q ≤ q) = true from decide_eq_true (Nat.le_refl _), show decide (q = q) = true from decide_eq_true rfl]
    cases okN q <;> cases decide (q ≤ s) <;> rfl
  · rw [show decide (q = f) = false from decide_eq_false h, Bool.false_and, Bool.or_false]
    congr 2
    exact decide_eq_decide.mpr (by omega)
/-- a byte that is in range comes first -/
theorem rg_step {lo hi lo1 hi1 lo' hi' : Int64} {f s : Nat} (hf : f < 128) (h1 : ∀ j, j < 64 → bitL lo1 j = (bitL lo j || (decide (j = f) && (okN f && decide (f ≤ s)))) ∧ bitL hi1 j = (bitL hi j || (decide (64 + j = f) && (okN f && decide (f ≤ s))))) (h2 : rg lo1 hi1 (f + 1) s lo' hi') : rg lo hi f s lo' hi' := by
  intro j hj
  rw [(h2 j hj).1, (h2 j hj).2, (h1 j hj).1, (h1 j hj).2, inR_step (f := f), inR_step (f := f) (q := 64 + j)]
  constructor
  · cases bitL lo j <;> cases (decide (j = f) && (okN f && decide (f ≤ s))) <;> cases inR (f + 1) s j <;> rfl
  · cases bitL hi j <;> cases (decide (64 + j = f) && (okN f && decide (f ≤ s))) <;> cases inR (f + 1) s (64 + j) <;> rfl
theorem put_lo {lo hi : Int64} {f s : Nat} (hf : f < 64) (hok : okN f = true) (hfs : f ≤ s) : ∀ j, j < 64 → bitL (lo ||| ((1 : Int64) <<< (Int32.toInt64 (nI f) &&& 63))) j = (bitL lo j || (decide (j = f) && (okN f && decide (f ≤ s)))) ∧ bitL hi j = (bitL hi j || (decide (64 + j = f) && (okN f && decide (f ≤ s)))) := by
  intro j hj
  rw [bitL_or, bit_shl (by omega) hj, hok, show decide (f ≤ s) = true from decide_eq_true hfs, Nat.mod_eq_of_lt hf, show decide (64 + j = f) = false from decide_eq_false (by omega)]
  simp
theorem put_hi {lo hi : Int64} {f s : Nat} (hf : 64 ≤ f) (hf2 : f < 128) (hok : okN f = true) (hfs : f ≤ s) : ∀ j, j < 64 → bitL lo j = (bitL lo j || (decide (j = f) && (okN f && decide (f ≤ s)))) ∧ bitL (hi ||| ((1 : Int64) <<< (Int32.toInt64 (nI f) &&& 63))) j = (bitL hi j || (decide (64 + j = f) && (okN f && decide (f ≤ s)))) := by
  intro j hj
  rw [bitL_or, bit_shl hf2 hj, hok, show decide (f ≤ s) = true from decide_eq_true hfs, show decide (j = f) = false from decide_eq_false (by omega), show decide (j = f % 64) = decide (64 + j = f) from decide_eq_decide.mpr (by omega)]
  simp
theorem put_hi2 {f : Nat} (hf : 64 ≤ f) (hf2 : f < 128) : ((1 : Int64) <<< (Int32.toInt64 (nI (f - 64)) &&& 63)) = ((1 : Int64) <<< (Int32.toInt64 (nI f) &&& 63)) := by
  apply bitL_ext
  intro j hj
  rw [bit_shl (by omega) hj, bit_shl hf2 hj, show (f - 64) % 64 = f % 64 by omega]
theorem put_no {lo hi : Int64} {f s : Nat} (h : okN f = false ∨ s < f) : ∀ j, j < 64 → bitL lo j = (bitL lo j || (decide (j = f) && (okN f && decide (f ≤ s)))) ∧ bitL hi j = (bitL hi j || (decide (64 + j = f) && (okN f && decide (f ≤ s)))) := by
  intro j hj
  have e : (okN f && decide (f ≤ s)) = false := by
    rcases h with h | h
    · rw [h, Bool.false_and]
    · rw [show decide (f ≤ s) = false from decide_eq_false (by omega), Bool.and_false]
  rw [e]
  simp
section RG
variable {x : Nat} {si : Nat → Nat → Int32} {sq : Nat → Nat → Nat} {sl : Nat → Nat → Int64} {A : Nat → Nat → Int32} {B : Nat → Nat → Int64} {g g2 : zh_H}
variable {y : Nat} {mi : Nat → Int32} {ml : Nat → Int64} {C : Nat → Nat → Int32} {E : Nat → Nat → Int64}
theorem x_addR6 {s : Nat} (hs : s < 127) : ∀ (fuel b : Nat) (sl : Nat → Nat → Int64), b ≤ s + 1 → s + 1 - b < fuel → ∃ lo hi, b_X4_addRange_6 fuel (xh x si sq sl A B g) (x + 47) (nI s) (nI b) = some (xh x si sq (u2 (u2 sl 47 2 lo) 47 3 hi) A B g) ∧ rg (sl 47 2) (sl 47 3) b s lo hi := by
  intro fuel
  induction fuel with
  | zero => intro b sl _ h; omega
  | succ k ih =>
    intro b sl hb hk
    unfold b_X4_addRange_6
    by_cases hbs : b ≤ s
    · rw [if_neg (nI_nlt hbs (by omega)), if_neg (show ¬ (126 : Int32) < nI b from nI_nlt (a := 126) (b := b) (by omega) (by decide))]
      by_cases hok : okN b = true
      · rw [x_isByte_t ((okN_iff (by omega)).mp hok), zbp_some, if_neg (by decide)]
        by_cases h64 : b < 64
        · rw [if_neg (show ¬ (64 : Int32) ≤ nI b from nI_ge (b := 64) h64 (by decide)), xg_Re_2, Option.bind_some, xp_Re_2, Option.bind_some]
          unfold b_X4_addRange_57
          rw [nI_1]
          obtain ⟨lo, hi, e1, e2⟩ := ih (b + 1) (u2 sl 47 2 (sl 47 2 ||| ((1 : Int64) <<< (Int32.toInt64 (nI b) &&& 63)))) (by omega) (by omega)
          refine ⟨lo, hi, by rw [e1, u2_u2], ?_⟩
          rw [u2_s, u2_n (Or.inr (by decide))] at e2
          exact rg_step (by omega) (put_lo h64 hok hbs) e2
        · rw [if_pos (show (64 : Int32) ≤ nI b from nI_le (a := 64) (by omega) (by omega)), xg_Re_3, Option.bind_some, xp_Re_3, Option.bind_some]
          unfold b_X4_addRange_57
          rw [nI_1]
          obtain ⟨lo, hi, e1, e2⟩ := ih (b + 1) (u2 sl 47 3 (sl 47 3 ||| ((1 : Int64) <<< (Int32.toInt64 (nI b) &&& 63)))) (by omega) (by omega)
          refine ⟨lo, hi, ?_, ?_⟩
          · rw [e1]
            congr 2
            funext a c
            unfold u2
            repeat' split
            all_goals first | rfl | (exfalso; omega)
          · rw [u2_s, u2_n (Or.inr (by decide))] at e2
            exact rg_step (by omega) (put_hi (by omega) (by omega) hok hbs) e2
      · have hok2 : okN b = false := by cases h : okN b <;> simp_all
        rw [x_isByte_f (fun q => hok ((okN_iff (by omega)).mpr q)), zbp_some, if_pos rfl]
        unfold b_X4_addRange_57
        rw [nI_1]
        obtain ⟨lo, hi, e1, e2⟩ := ih (b + 1) sl (by omega) (by omega)
        exact ⟨lo, hi, e1, rg_step (by omega) (put_no (Or.inl hok2)) e2⟩
    · rw [if_pos (nI_lt (by omega) (by omega))]
      unfold b_X4_addRange_63
      refine ⟨sl 47 2, sl 47 3, ?_, rg_none (by omega)⟩
      rw [u2_self (f := sl) rfl, u2_self rfl]
theorem x_addRange {f s : Nat} (hf : f < 127) (hs : s < 127) : ∃ lo hi, b_X4_addRange_0 (xh x si sq sl A B g) (x + 47) (nI f) (nI s) = some (xh x si sq (u2 (u2 sl 47 2 lo) 47 3 hi) A B g) ∧ rg (sl 47 2) (sl 47 3) f s lo hi := by
  unfold b_X4_addRange_0
  have e : zmax (nI f) (0 : Int32) = nI f := by
    show (if nI f < 0 then (0 : Int32) else nI f) = nI f
    rw [if_neg (nI_pos (by omega))]
  rw [e]
  by_cases h : f ≤ s + 1
  · exact x_addR6 hs zFuel f sl h (zF_lt (by omega))
  · refine ⟨sl 47 2, sl 47 3, ?_, rg_none (by omega)⟩
    show b_X4_addRange_6 (999999 + 1) _ _ _ _ = _
    unfold b_X4_addRange_6 b_X4_addRange_63
    rw [if_pos (nI_lt (by omega) (by omega)), u2_self (f := sl) rfl, u2_self rfl]
/-- behind a fault nothing comes in -/
theorem x_addRange_no {f : Int32} : b_X4_addRange_0 (xh x si sq sl A B g) (x + 47) f (-1) = some (xh x si sq sl A B g) := by
  unfold b_X4_addRange_0
  show b_X4_addRange_6 (999999 + 1) _ _ _ _ = _
  unfold b_X4_addRange_6
  have e : (-1 : Int32) < zmax f (0 : Int32) := by
    show (-1 : Int32) < (if f < 0 then (0 : Int32) else f)
    by_cases h : f < 0
    · rw [if_pos h]; decide
    · rw [if_neg h]
      exact Int32.lt_of_lt_of_le (by decide) (i_nlt.mp h)
  rw [if_pos e]
  rfl
theorem vL_ss {ml : Nat → Int64} {k : Nat} {v w : Int64} : vp_updL (vp_updL ml k v) k w = vp_updL ml k w := by
  funext j
  unfold vp_updL
  split <;> rfl
theorem vL_self {ml : Nat → Int64} {k : Nat} : vp_updL ml k (ml k) = ml := by
  funext j
  unfold vp_updL
  split
  · next h => rw [h]
  · rfl
theorem m_put {b : Nat} (hb : b < 128) (ml : Nat → Int64) : b_X11_put_0 (mh y mi ml C E g) y (nI b) = some (mh y mi (if b < 64 then vp_updL ml 17 (ml 17 ||| ((1 : Int64) <<< (Int32.toInt64 (nI b) &&& 63))) else vp_updL ml 18 (ml 18 ||| ((1 : Int64) <<< (Int32.toInt64 (nI b) &&& 63)))) C E g) := by
  unfold b_X11_put_0
  by_cases h64 : b < 64
  · rw [if_neg (show ¬ (64 : Int32) ≤ nI b from nI_ge (b := 64) h64 (by decide)), mg_low, Option.bind_some, mp_low, Option.bind_some, if_pos h64]
    rfl
  · rw [if_pos (show (64 : Int32) ≤ nI b from nI_le (a := 64) (by omega) (by omega)), mg_high, Option.bind_some, show nI b - (64 : Int32) = nI (b - 64) from pk_sub (b := 64) (by omega), put_hi2 (by omega) hb, mp_high, Option.bind_some, if_neg h64]
    rfl
theorem m_putA2 {f s : Nat} (hf : f < 2 ^ 31) (hs : s < 2 ^ 31) : ∀ (fuel b : Nat) (ml : Nat → Int64), b ≤ 127 → 127 - b < fuel → ∃ lo hi, b_X11_putAll_2 fuel (mh y mi ml C E g) y (nI f) (nI s) (nI b) = some (mh y mi (vp_updL (vp_updL ml 17 lo) 18 hi) C E g) ∧ ∀ j, j < 64 → bitL lo j = (bitL (ml 17) j || (inR f s j && decide (b ≤ j))) ∧ bitL hi j = (bitL (ml 18) j || (inR f s (64 + j) && decide (b ≤ 64 + j))) := by
  intro fuel
  induction fuel with
  | zero => intro b ml _ h; omega
  | succ k ih =>
    intro b ml hb hk
    have dstep : ∀ q, inR f s q = true → decide (b ≤ q) = (decide (b + 1 ≤ q) || decide (q = b)) := by
      intro q _
      by_cases h1 : b ≤ q
      · by_cases h2 : q = b
        · rw [show decide (b ≤ q) = true from decide_eq_true h1, show decide (q = b) = true from decide_eq_true h2, Bool.or_true]
        · rw [show decide (b ≤ q) = true from decide_eq_true h1, show decide (b + 1 ≤ q) = true from decide_eq_true (by omega), Bool.true_or]
      · rw [show decide (b ≤ q) = false from decide_eq_false h1, show decide (b + 1 ≤ q) = false from decide_eq_false (by omega), show decide (q = b) = false from decide_eq_false (by omega)]
        rfl
    unfold b_X11_putAll_2
    by_cases hb2 : b < 127
    · rw [if_neg (show ¬ (127 : Int32) ≤ nI b from nI_ge (b := 127) hb2 (by decide))]
      have skip : inR f s b = false → ∃ lo hi, b_X11_putAll_30 (b_X11_putAll_2 k) (mh y mi ml C E g) y (nI f) (nI s) (nI b) = some (mh y mi (vp_updL (vp_updL ml 17 lo) 18 hi) C E g) ∧ ∀ j, j < 64 → bitL lo j = (bitL (ml 17) j || (inR f s j && decide (b ≤ j))) ∧ bitL hi j = (bitL (ml 18) j || (inR f s (64 + j) && decide (b ≤ 64 + j))) := by
        intro hR
        unfold b_X11_putAll_30
        rw [nI_1]
        obtain ⟨lo, hi, e1, e2⟩ := ih (b + 1) ml (by omega) (by omega)
        refine ⟨lo, hi, e1, fun j hj => ?_⟩
        rw [(e2 j hj).1, (e2 j hj).2]
        have fix : ∀ q, (inR f s q && decide (b + 1 ≤ q)) = (inR f s q && decide (b ≤ q)) := by
          intro q
          by_cases hq : q = b
          · subst hq; rw [hR, Bool.false_and, Bool.false_and]
          · congr 1
            exact decide_eq_decide.mpr (by omega)
        rw [fix, fix]
        exact ⟨rfl, rfl⟩
      by_cases hok : okN b = true
      · rw [m_isByte_t ((okN_iff (by omega)).mp hok), zbp_some, if_neg (by decide)]
        by_cases h1 : b < f
        · rw [if_pos (nI_lt h1 hf)]
          exact skip (by unfold inR; rw [show decide (f ≤ b) = false from decide_eq_false (by omega), Bool.false_and, Bool.and_false])
        · rw [if_neg (nI_nlt (by omega) (by omega))]
          by_cases h2 : s < b
          · rw [if_pos (nI_lt h2 (by omega))]
            exact skip (by unfold inR; rw [show decide (b ≤ s) = false from decide_eq_false (by omega), Bool.and_false, Bool.and_false])
          · have hR : inR f s b = true := by
              unfold inR; rw [hok, show decide (f ≤ b) = true from decide_eq_true (by omega), show decide (b ≤ s) = true from decide_eq_true (by omega)]; rfl
            rw [if_neg (nI_nlt (by omega) hs), mis, Option.bind_some, m_put (by omega), Option.bind_some]
            unfold b_X11_putAll_30
            rw [nI_1]
            obtain ⟨lo, hi, e1, e2⟩ := ih (b + 1) (if b < 64 then vp_updL ml 17 (ml 17 ||| ((1 : Int64) <<< (Int32.toInt64 (nI b) &&& 63))) else vp_updL ml 18 (ml 18 ||| ((1 : Int64) <<< (Int32.toInt64 (nI b) &&& 63)))) (by omega) (by omega)
            refine ⟨lo, hi, ?_, fun j hj => ?_⟩
            · rw [e1]
              congr 2
              funext q
              by_cases h64 : b < 64
              · rw [if_pos h64]
                unfold vp_updL
                repeat' split
                all_goals first | rfl | (exfalso; omega)
              · rw [if_neg h64]
                unfold vp_updL
                repeat' split
                all_goals first | rfl | (exfalso; omega)
            · rw [(e2 j hj).1, (e2 j hj).2]
              by_cases h64 : b < 64
              · rw [if_pos h64, pk_uLs, pk_uLn (by decide), bitL_or, bit_shl (by omega) hj, Nat.mod_eq_of_lt h64]
                constructor
                · by_cases hjb : j = b
                  · subst hjb
                    rw [hR]
                    simp
                  · rw [show decide (j = b) = false from decide_eq_false hjb, Bool.or_false, show decide (b + 1 ≤ j) = decide (b ≤ j) from decide_eq_decide.mpr (by omega)]
                · rw [show decide (b + 1 ≤ 64 + j) = decide (b ≤ 64 + j) from decide_eq_decide.mpr (by omega)]
              · rw [if_neg h64, pk_uLs, pk_uLn (by decide), bitL_or, bit_shl (by omega) hj]
                constructor
                · rw [show decide (b + 1 ≤ j) = decide (b ≤ j) from decide_eq_decide.mpr (by omega)]
                · by_cases hjb : 64 + j = b
                  · rw [hjb, hR, show decide (j = b % 64) = true from decide_eq_true (by omega)]
                    simp
                  · rw [show decide (j = b % 64) = false from decide_eq_false (by omega), Bool.or_false, show decide (b + 1 ≤ 64 + j) = decide (b ≤ 64 + j) from decide_eq_decide.mpr (by omega)]
      · have hok2 : okN b = false := by cases h : okN b <;> simp_all
        rw [m_isByte_f (fun q => hok ((okN_iff (by omega)).mpr q)), zbp_some, if_pos rfl]
        exact skip (by unfold inR; rw [hok2, Bool.false_and])
    · rw [if_pos (show (127 : Int32) ≤ nI b from nI_le (a := 127) (by omega) (by omega))]
      refine ⟨ml 17, ml 18, ?_, fun j hj => ?_⟩
      · rw [vL_self, vL_self]
      · have e : ∀ q, (inR f s q && decide (b ≤ q)) = false := by
          intro q
          by_cases hq : b ≤ q
          · have : okN q = false := by unfold okN; rw [show (q == 10) = false from beq_false_of_ne (by omega), show decide (q ≤ 126) = false from decide_eq_false (by omega), Bool.and_false, Bool.or_false]
            unfold inR
            rw [this]
            rfl
          · rw [show decide (b ≤ q) = false from decide_eq_false hq, Bool.and_false]
        rw [e, e, Bool.or_false, Bool.or_false]
        exact ⟨rfl, rfl⟩
theorem m_putAll {f s : Nat} (hf : f < 2 ^ 31) (hs : s < 2 ^ 31) : ∃ lo hi, b_X11_putAll_0 (mh y mi ml C E g) y (nI f) (nI s) = some (mh y mi (vp_updL (vp_updL ml 17 lo) 18 hi) C E g) ∧ rg (ml 17) (ml 18) f s lo hi := by
  obtain ⟨lo, hi, e1, e2⟩ := m_putA2 (y := y) (mi := mi) (C := C) (E := E) (g := g) hf hs zFuel 0 ml (by omega) (zF_lt (by omega))
  refine ⟨lo, hi, e1, fun j hj => ?_⟩
  rw [(e2 j hj).1, (e2 j hj).2]
  simp
end RG
