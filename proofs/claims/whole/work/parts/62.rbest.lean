/-! THE RULER: one number of a column -/
section RB
variable {x : Nat} {si : Nat → Nat → Int32} {sq : Nat → Nat → Nat} {sl : Nat → Nat → Int64} {A : Nat → Nat → Int32} {B : Nat → Nat → Int64} {g : zh_H}
/-- the table after a step was told -/
def putB (tr : Bool) (B : Nat → Nat → Int64) (c t : Nat) : Nat → Nat → Int64 := if tr then ub B 70 (vp_updL (B 70) (c / 16) (setn (B 70 (c / 16)) (c % 16) t)) else B
theorem putB_n {tr : Bool} {c t k : Nat} (h : k ≠ 70) : putB tr B c t k = B k := by
  unfold putB
  split
  · rw [ub_n h]
  · rfl
theorem x_b175 {i j lo w c : Nat} {p : Nat × Nat} {tr : Bool} (h14 : si 60 14 = bI tr) (hc : c = (j + 1) * w + (i + 1 + lo - (j + 1))) (ht : tr = true → si 69 1 = iI (-(lo : Int)) ∧ si 69 2 = nI w ∧ j + 1 ≤ i + 1 + lo ∧ c < 80608) : b_X5_best_175 (xh x si sq sl A B g) (x + 60) (nI (i + 1)) (nI (j + 1)) (nI p.1) (nI p.2) = some (nI p.1, xh x si sq sl A (putB tr B c p.2) g) := by
  unfold b_X5_best_175 b_X5_best_193 putB
  rw [xg_Ru_14, Option.bind_some, h14]
  cases tr
  · rw [if_pos (show bI false = 0 from rfl), if_neg Bool.false_ne_true]
  · obtain ⟨t1, t2, t3, t4⟩ := ht rfl
    rw [if_neg (show ¬ bI true = 0 by decide), if_pos rfl, xg_Ru_15, Option.bind_some, xo_St, Option.bind_some, x_put t1 t2 t3 hc t4, Option.bind_some]
theorem x_b145 {i j lo w c nn na : Nat} {p : Nat × Nat} {tr : Bool} (h14 : si 60 14 = bI tr) (hc : c = (j + 1) * w + (i + 1 + lo - (j + 1))) (ht : tr = true → si 69 1 = iI (-(lo : Int)) ∧ si 69 2 = nI w ∧ j + 1 ≤ i + 1 + lo ∧ c < 80608) (ea : sq 60 7 = na) (Ia : isInt na 1501) (hi : i < 1500) (hn : A na i = nI nn) (hnn : nn < 2 ^ 30) (hp : p.1 < 2 ^ 30) : b_X5_best_145 (xh x si sq sl A B g) (x + 60) (nI (i + 1)) (nI (j + 1)) (nI p.1) (nI p.2) = some (nI (b2 nn 3 p).1, xh x si sq sl A (putB tr B c (b2 nn 3 p).2) g) := by
  unfold b_X5_best_145 b2
  rw [show nI (i + 1) - (1 : Int32) = nI i from nI_pred i]
  simp only [xg_Ru_7, Option.bind_some, ea, xi_l Ia (show i < 1501 by omega), hn, nI_1]
  by_cases h : nn + 1 < p.1
  · rw [if_neg (nI_ge h (by omega)), if_pos h]
    exact x_b175 (p := (nn + 1, 3)) h14 hc ht
  · rw [if_pos (nI_le (by omega) (by omega)), if_neg h]
    exact x_b175 h14 hc ht
theorem x_b119 {i j lo w c nn n0 na la : Nat} {p : Nat × Nat} {tr : Bool} (h14 : si 60 14 = bI tr) (hc : c = (j + 1) * w + (i + 1 + lo - (j + 1))) (ht : tr = true → si 69 1 = iI (-(lo : Int)) ∧ si 69 2 = nI w ∧ j + 1 ≤ i + 1 + lo ∧ c < 80608) (ea : sq 60 7 = na) (Ia : isInt na 1501) (el : sq 60 8 = la) (Il : isInt la 1501) (hi : i < 1500) (hn : A na i = nI nn) (h0 : A la (i + 1) = nI n0) (hnn : nn < 2 ^ 30) (hn0 : n0 < 2 ^ 29) (hp : p.1 < 2 ^ 30) : b_X5_best_119 (xh x si sq sl A B g) (x + 60) (nI (i + 1)) (nI (j + 1)) (nI p.1) (nI p.2) = some (nI (b2 nn 3 (b2 n0 2 p)).1, xh x si sq sl A (putB tr B c (b2 nn 3 (b2 n0 2 p)).2) g) := by
  unfold b_X5_best_119
  simp only [xg_Ru_8, Option.bind_some, el, xi_l Il (show i + 1 < 1501 by omega), h0, nI_1]
  by_cases h : n0 + 1 < p.1
  · rw [if_neg (nI_ge h (by omega)), show b2 n0 2 p = (n0 + 1, 2) from if_pos h]
    exact x_b145 (p := (n0 + 1, 2)) h14 hc ht ea Ia hi hn hnn (by simp only; omega)
  · rw [if_pos (nI_le (by omega) (by omega)), show b2 n0 2 p = p from if_neg h]
    exact x_b145 h14 hc ht ea Ia hi hn hnn hp
theorem x_isSwap {P s i j c lb : Nat} {mt : Nat → Nat → Bool} (hP : isSet P) (hsP : s ≤ slen P) (hs : s ≤ 1500) (hi : i < s) (hi1 : 1 ≤ i) (hc : c < 127) (hlb : lb < 127) (hcm : ∀ q, q < s → hasB (B (P + 1) q) (B (P + 2) q) c = mt q j) (hlm : ∀ q, q < s → hasB (B (P + 1) q) (B (P + 2) q) lb = mt q (j - 1)) (h10 : si 60 10 = nI c) (h11 : si 60 11 = nI lb) (h12 : sq 60 12 = if c < 64 then P + 1 else P + 2) (h13 : sq 60 13 = if lb < 64 then P + 1 else P + 2) : b_X5_isSwap_0 (xh x si sq sl A B g) (x + 60) (nI (i + 1)) = some (if mt (i - 1) j && mt i (j - 1) then 1 else 0, xh x si sq sl A B g) := by
  unfold b_X5_isSwap_0 b_X5_isSwap_44 b_X5_isSwap_45
  rw [show nI (i + 1) - (2 : Int32) = nI (i - 1) from by rw [show (2 : Int32) = nI 2 from rfl, pk_sub (by omega)]; congr 1]
  rw [show nI (i + 1) - (1 : Int32) = nI i from nI_pred i]
  simp only [xg_Ru_12, xg_Ru_13, xg_Ru_10, xg_Ru_11, Option.bind_some, h10, h11, h12, h13, xs_half hP (show i - 1 < slen P by omega), xs_half hP (show i < slen P by omega)]
  have f1 := hcm (i - 1) (by omega)
  have f2 := hlm i hi
  rw [hasB_mod (by omega)] at f1 f2
  have g1 : bitL (if c < 64 then B (P + 1) (i - 1) else B (P + 2) (i - 1)) (c % 64) = mt (i - 1) j := f1
  have g2 : bitL (if lb < 64 then B (P + 1) i else B (P + 2) i) (lb % 64) = mt i (j - 1) := f2
  by_cases q1 : mt (i - 1) j = true
  · rw [if_neg (fun q => by have := (tstU (show c < 128 by omega)).mp q; rw [g1, q1] at this; exact absurd this (by decide))]
    by_cases q2 : mt i (j - 1) = true
    · rw [if_neg (fun q => by have := (tstU (show lb < 128 by omega)).mp q; rw [g2, q2] at this; exact absurd this (by decide)), zif_t (by simp), q1, q2]
      rfl
    · rw [if_pos ((tstU (show lb < 128 by omega)).mpr (by rw [g2]; exact Bool.eq_false_iff.mpr q2)), zif_t (by simp), Bool.eq_false_iff.mpr q2, Bool.and_false]
      rfl
  · rw [if_pos ((tstU (show c < 128 by omega)).mpr (by rw [g1]; exact Bool.eq_false_iff.mpr q1)), zif_t (by simp), Bool.eq_false_iff.mpr q1, Bool.false_and]
    rfl
theorem x_rbest {P s i j lo w cc c lb nn n0 n1 n2 na la oa : Nat} {tr sw : Bool} {mt : Nat → Nat → Bool} (hP : isSet P) (hsP : s ≤ slen P) (hs : s ≤ 1500) (hi : i < s) (hj : j < 1501) (hc : c < 127) (hcm : ∀ q, q < s → hasB (B (P + 1) q) (B (P + 2) q) c = mt q j) (hlm : 1 ≤ j → lb < 127 ∧ si 60 11 = nI lb ∧ sq 60 13 = (if lb < 64 then P + 1 else P + 2) ∧ ∀ q, q < s → hasB (B (P + 1) q) (B (P + 2) q) lb = mt q (j - 1)) (h4 : si 60 4 = bI sw) (h10 : si 60 10 = nI c) (h12 : sq 60 12 = if c < 64 then P + 1 else P + 2) (h14 : si 60 14 = bI tr) (hcc : cc = (j + 1) * w + (i + 1 + lo - (j + 1))) (ht : tr = true → si 69 1 = iI (-(lo : Int)) ∧ si 69 2 = nI w ∧ j + 1 ≤ i + 1 + lo ∧ cc < 80608) (ea : sq 60 7 = na) (Ia : isInt na 1501) (el : sq 60 8 = la) (Il : isInt la 1501) (eo : sq 60 9 = oa) (Io : isInt oa 1501) (hn : A na i = nI nn) (h0 : A la (i + 1) = nI n0) (h1 : A la i = nI n1) (h2 : 1 ≤ i → 1 ≤ j → A oa (i - 1) = nI n2) (bn : nn < 2 ^ 29) (b0 : n0 < 2 ^ 29) (b1' : n1 < 2 ^ 29) (b2' : n2 < 2 ^ 29) : b_X5_best_0 (xh x si sq sl A B g) (x + 60) (nI (i + 1)) (nI (j + 1)) = some (nI (bst (mt i j) (swp mt sw i j) n1 n2 n0 nn).1, xh x si sq sl A (putB tr B cc (bst (mt i j) (swp mt sw i j) n1 n2 n0 nn).2) g) := by
  have f1 := hcm i hi
  rw [hasB_mod (by omega)] at f1
  have g1 : bitL (if c < 64 then B (P + 1) i else B (P + 2) i) (c % 64) = mt i j := f1
  -- from the diagonal's number on
  have e62 : ∀ p : Nat × Nat, p.1 < 2 ^ 30 → b_X5_best_62 (xh x si sq sl A B g) (x + 60) (nI (i + 1)) (nI (j + 1)) (nI p.1) (nI p.2) = some (nI (b2 nn 3 (b2 n0 2 (b1 (swp mt sw i j) n2 p))).1, xh x si sq sl A (putB tr B cc (b2 nn 3 (b2 n0 2 (b1 (swp mt sw i j) n2 p))).2) g) := by
    intro p hp
    have no : ¬ (swp mt sw i j = true ∧ n2 + 1 < p.1) → b_X5_best_119 (xh x si sq sl A B g) (x + 60) (nI (i + 1)) (nI (j + 1)) (nI p.1) (nI p.2) = some (nI (b2 nn 3 (b2 n0 2 (b1 (swp mt sw i j) n2 p))).1, xh x si sq sl A (putB tr B cc (b2 nn 3 (b2 n0 2 (b1 (swp mt sw i j) n2 p))).2) g) := by
      intro h
      rw [show b1 (swp mt sw i j) n2 p = p from if_neg h]
      exact x_b119 h14 hcc ht ea Ia el Il (by omega) hn h0 (by omega) b0 hp
    unfold b_X5_best_62
    rw [xg_Ru_4, Option.bind_some, h4]
    cases hsw : sw
    · rw [if_pos (show bI false = 0 from rfl)]
      subst hsw
      exact no (fun q => by have := q.1; unfold swp at this; simp at this)
    · subst hsw
      rw [if_neg (show ¬ bI true = 0 by decide)]
      by_cases hi1 : 1 ≤ i
      · rw [if_neg (show ¬ nI (i + 1) ≤ (1 : Int32) from nI_ge (b := i + 1) (a := 1) (by omega) (by omega))]
        by_cases hj1 : 1 ≤ j
        · obtain ⟨l1, l2, l3, l4⟩ := hlm hj1
          rw [if_neg (show ¬ nI (j + 1) ≤ (1 : Int32) from nI_ge (b := j + 1) (a := 1) (by omega) (by omega))]
          rw [show nI (i + 1) - (2 : Int32) = nI (i - 1) from by rw [show (2 : Int32) = nI 2 from rfl, pk_sub (by omega)]; congr 1]
          simp only [xg_Ru_9, Option.bind_some, eo, xi_l Io (show i - 1 < 1501 by omega), h2 hi1 hj1, nI_1, xo_Ru]
          by_cases q : n2 + 1 < p.1
          · rw [if_neg (nI_ge q (by omega)), x_isSwap hP hsP hs hi hi1 hc l1 hcm l4 h10 l2 h12 l3, zbp_some]
            by_cases hq : (mt (i - 1) j && mt i (j - 1)) = true
            · rw [if_pos hq, if_neg (show ¬ (1 : Int32) = 0 by decide)]
              have hsp : swp mt true i j = true := by
                unfold swp
                rw [hq, decide_eq_true hi1, decide_eq_true hj1]
                rfl
              simp only [xg_Ru_9, Option.bind_some, eo, xi_l Io (show i - 1 < 1501 by omega), h2 hi1 hj1, nI_1]
              rw [show b1 (swp mt true i j) n2 p = (n2 + 1, 4) from if_pos ⟨hsp, q⟩]
              exact x_b119 (p := (n2 + 1, 4)) h14 hcc ht ea Ia el Il (by omega) hn h0 (by omega) b0 (by simp only; omega)
            · rw [if_neg hq, if_pos rfl]
              refine no (fun r => ?_)
              have := r.1
              unfold swp at this
              rw [Bool.eq_false_iff.mpr hq] at this
              simp at this
          · rw [if_pos (nI_le (by omega) (by omega))]
            exact no (fun r => q r.2)
        · rw [if_pos (show nI (j + 1) ≤ (1 : Int32) from nI_le (b := 1) (by omega) (by decide))]
          exact no (fun q => hj1 (swp_pos q.1).2)
      · rw [if_pos (show nI (i + 1) ≤ (1 : Int32) from nI_le (b := 1) (by omega) (by decide))]
        exact no (fun q => hi1 (swp_pos q.1).1)
  unfold b_X5_best_0 b_X5_best_25 b_X5_best_51
  rw [show nI (i + 1) - (1 : Int32) = nI i from nI_pred i]
  simp only [xg_Ru_12, xg_Ru_10, xg_Ru_8, Option.bind_some, h10, h12, xs_half hP (show i < slen P by omega), el, xi_l Il (show i < 1501 by omega), h1, nI_1]
  unfold bst
  by_cases q1 : mt i j = true
  · rw [if_neg (fun q => by have := (tstU (show c < 128 by omega)).mp q; rw [g1, q1] at this; exact absurd this (by decide)), if_neg (show ¬ (1 : Int32) = 0 by decide), q1, if_pos rfl, if_pos rfl]
    exact e62 (n1, 0) (by simp only; omega)
  · rw [if_pos ((tstU (show c < 128 by omega)).mpr (by rw [g1]; exact Bool.eq_false_iff.mpr q1)), if_neg q1, if_neg q1]
    exact e62 (n1 + 1, 1) (by simp only; omega)
end RB
