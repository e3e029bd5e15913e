/-! THE WAY BACK -/
def nxI (t i : Nat) : Nat := if t = 2 then i else if t = 4 then i - 2 else i - 1
def nxJ (t j : Nat) : Nat := if t = 3 then j else if t = 4 then j - 2 else j - 1
section WA
variable {mt : Nat → Nat → Bool} {sw : Bool}
theorem stp_ok {i j : Nat} (hij : ¬ (i = 0 ∧ j = 0)) : ((stp (cs fC (fR false) mt sw) mt sw i j = 0 ∨ stp (cs fC (fR false) mt sw) mt sw i j = 1) ∧ 0 < i ∧ 0 < j ∧ cs fC (fR false) mt sw (j - 1) (i - 1) + stp (cs fC (fR false) mt sw) mt sw i j = cs fC (fR false) mt sw j i) ∨ (stp (cs fC (fR false) mt sw) mt sw i j = 4 ∧ 2 ≤ i ∧ 2 ≤ j ∧ cs fC (fR false) mt sw (j - 2) (i - 2) + 1 = cs fC (fR false) mt sw j i) ∨ (stp (cs fC (fR false) mt sw) mt sw i j = 2 ∧ 0 < j ∧ cs fC (fR false) mt sw (j - 1) i + 1 = cs fC (fR false) mt sw j i) ∨ (stp (cs fC (fR false) mt sw) mt sw i j = 3 ∧ 0 < i ∧ cs fC (fR false) mt sw j (i - 1) + 1 = cs fC (fR false) mt sw j i) := by
  unfold stp
  by_cases h1 : 0 < i ∧ 0 < j ∧ cs fC (fR false) mt sw (j - 1) (i - 1) + (if mt (i - 1) (j - 1) then 0 else 1) = cs fC (fR false) mt sw j i
  · rw [if_pos h1]
    exact Or.inl ⟨by split <;> simp, h1⟩
  · rw [if_neg h1]
    by_cases h2 : swp mt sw (i - 1) (j - 1) = true ∧ cs fC (fR false) mt sw (j - 2) (i - 2) + 1 = cs fC (fR false) mt sw j i
    · rw [if_pos h2]
      obtain ⟨p1, p2⟩ := swp_pos h2.1
      exact Or.inr (Or.inl ⟨rfl, by omega, by omega, h2.2⟩)
    · rw [if_neg h2]
      by_cases h3 : 0 < j ∧ cs fC (fR false) mt sw (j - 1) i + 1 = cs fC (fR false) mt sw j i
      · rw [if_pos h3]
        exact Or.inr (Or.inr (Or.inl ⟨rfl, h3⟩))
      · rw [if_neg h3]
        refine Or.inr (Or.inr (Or.inr ⟨rfl, ?_⟩))
        by_cases hi : i = 0
        · subst hi
          exfalso
          apply h3
          rw [D_0, D_0]
          omega
        · by_cases hj : j = 0
          · subst hj
            rw [D_c, D_c]
            omega
          · obtain ⟨i, rfl⟩ : ∃ k, i = k + 1 := ⟨i - 1, by omega⟩
            obtain ⟨j, rfl⟩ : ∃ k, j = k + 1 := ⟨j - 1, by omega⟩
            have hc := cs_s (c0 := fC) (r0 := fR false) (mt := mt) (sw := sw) (j := j) (i := i)
            simp only [Nat.add_sub_cancel] at h1 h2 h3
            rw [show i + 1 - 2 = i - 1 by omega, show j + 1 - 2 = j - 1 by omega] at h2
            have h1' : ¬ cs fC (fR false) mt sw j i + (if mt i j then 0 else 1) = cs fC (fR false) mt sw (j + 1) (i + 1) := fun q => h1 ⟨by omega, by omega, q⟩
            have h3' : ¬ cs fC (fR false) mt sw j (i + 1) + 1 = cs fC (fR false) mt sw (j + 1) (i + 1) := fun q => h3 ⟨by omega, q⟩
            have hw : (if mt i j = true then cs fC (fR false) mt sw j i else cs fC (fR false) mt sw j i + 1) = cs fC (fR false) mt sw j i + (if mt i j then 0 else 1) := by split <;> rfl
            have hw1 : (if mt i j then 0 else 1) ≤ 1 := by split <;> omega
            rw [hw] at hc
            clear h1 h3 hw
            refine ⟨by omega, ?_⟩
            show cs fC (fR false) mt sw (j + 1) i + 1 = _
            by_cases hs : swp mt sw i j = true
            · rw [if_pos hs] at hc
              have h2' : ¬ cs fC (fR false) mt sw (j - 1) (i - 1) + 1 = cs fC (fR false) mt sw (j + 1) (i + 1) := fun q => h2 ⟨hs, q⟩
              clear h2
              omega
            · rw [if_neg hs] at hc
              clear h2
              omega
theorem stp_le {i j : Nat} : stp (cs fC (fR false) mt sw) mt sw i j ≤ 4 := by
  unfold stp
  repeat' split
  all_goals omega
theorem wlk_s {f i j : Nat} (hij : ¬ (i = 0 ∧ j = 0)) : wlk (cs fC (fR false) mt sw) mt sw (f + 1) i j = stp (cs fC (fR false) mt sw) mt sw i j :: wlk (cs fC (fR false) mt sw) mt sw f (nxI (stp (cs fC (fR false) mt sw) mt sw i j) i) (nxJ (stp (cs fC (fR false) mt sw) mt sw i j) j) := by
  conv => lhs; unfold wlk
  rw [if_neg hij]
  rfl
/-- a step leads nearer to the beginning, and stays within the band -/
theorem stp_next {i j s m β : Nat} (hij : ¬ (i = 0 ∧ j = 0)) : nxI (stp (cs fC (fR false) mt sw) mt sw i j) i + nxJ (stp (cs fC (fR false) mt sw) mt sw i j) j < i + j ∧ nxI (stp (cs fC (fR false) mt sw) mt sw i j) i ≤ i ∧ nxJ (stp (cs fC (fR false) mt sw) mt sw i j) j ≤ j ∧ nxI (stp (cs fC (fR false) mt sw) mt sw i j) i + cs fC (fR false) mt sw (nxJ (stp (cs fC (fR false) mt sw) mt sw i j) j) (nxI (stp (cs fC (fR false) mt sw) mt sw i j) i) + 1 ≤ i + cs fC (fR false) mt sw j i ∧ (phi mt sw s m j i ≤ β → phi mt sw s m (nxJ (stp (cs fC (fR false) mt sw) mt sw i j) j) (nxI (stp (cs fC (fR false) mt sw) mt sw i j) i) ≤ β) := by
  rcases stp_ok (mt := mt) (sw := sw) hij with ⟨h, h1, h2, h3⟩ | ⟨h, h1, h2, h3⟩ | ⟨h, h1, h2⟩ | ⟨h, h1, h2⟩
  · have e1 : nxI (stp (cs fC (fR false) mt sw) mt sw i j) i = i - 1 := by unfold nxI; rw [if_neg (by omega), if_neg (by omega)]
    have e2 : nxJ (stp (cs fC (fR false) mt sw) mt sw i j) j = j - 1 := by unfold nxJ; rw [if_neg (by omega), if_neg (by omega)]
    rw [e1, e2]
    unfold phi
    refine ⟨by omega, by omega, by omega, by omega, fun q => by omega⟩
  · rw [h]
    have e1 : nxI 4 i = i - 2 := rfl
    have e2 : nxJ 4 j = j - 2 := rfl
    rw [e1, e2]
    unfold phi
    refine ⟨by omega, by omega, by omega, by omega, fun q => by omega⟩
  · rw [h]
    have e1 : nxI 2 i = i := rfl
    have e2 : nxJ 2 j = j - 1 := rfl
    rw [e1, e2]
    unfold phi
    refine ⟨by omega, by omega, by omega, by omega, fun q => by omega⟩
  · rw [h]
    have e1 : nxI 3 i = i - 1 := rfl
    have e2 : nxJ 3 j = j := rfl
    rw [e1, e2]
    unfold phi
    refine ⟨by omega, by omega, by omega, by omega, fun q => by omega⟩
theorem wlk_len : ∀ f i j, (wlk (cs fC (fR false) mt sw) mt sw f i j).length ≤ i + cs fC (fR false) mt sw j i := by
  intro f
  induction f with
  | zero => intro i j; exact Nat.zero_le _
  | succ f ih =>
    intro i j
    by_cases hij : i = 0 ∧ j = 0
    · unfold wlk
      rw [if_pos hij]
      exact Nat.zero_le _
    · rw [wlk_s hij, List.length_cons]
      have h1 := ih (nxI (stp (cs fC (fR false) mt sw) mt sw i j) i) (nxJ (stp (cs fC (fR false) mt sw) mt sw i j) j)
      have h2 := (stp_next (mt := mt) (sw := sw) (s := 0) (m := 0) (β := 0) hij).2.2.2.1
      omega
theorem stp_i0 {j : Nat} (hj : 0 < j) : stp (cs fC (fR false) mt sw) mt sw 0 j = 2 := by
  rcases stp_ok (mt := mt) (sw := sw) (i := 0) (j := j) (by omega) with ⟨-, h1, -⟩ | ⟨-, h1, -⟩ | ⟨h, -⟩ | ⟨-, h1, -⟩
  · omega
  · omega
  · exact h
  · omega
theorem stp_j0 {i : Nat} (hi : 0 < i) : stp (cs fC (fR false) mt sw) mt sw i 0 = 3 := by
  rcases stp_ok (mt := mt) (sw := sw) (i := i) (j := 0) (by omega) with ⟨-, -, h1, -⟩ | ⟨-, -, h1, -⟩ | ⟨-, h1, -⟩ | ⟨h, -⟩
  · omega
  · omega
  · omega
  · exact h
end WA
section XW
variable {x : Nat} {si : Nat → Nat → Int32} {sq : Nat → Nat → Nat} {sl : Nat → Nat → Int64} {A : Nat → Nat → Int32} {B : Nat → Nat → Int64} {g : zh_H}
variable {mt : Nat → Nat → Bool} {sw : Bool} {s m β lo hi : Nat}
theorem b8_t : ∀ t, t < 5 → (nI t).toInt8.toInt32.toInt8.toInt32 = nI t := by decide +kernel
theorem x_addB {k t : Nat} (ht : t < 5) (hk : k < 400) (h1 : si 77 1 = nI k) : b_X9_addBefore_0 (xh x si sq sl A B g) (x + 77) (nI t) = some (xh x (u2 si 77 1 (nI (k + 1))) sq sl (ua A 78 (upd (A 78) k (nI t))) B g) := by
  unfold b_X9_addBefore_0 b_X9_addBefore_33
  simp only [xg_Wa_1, Option.bind_some, h1, xg_Wa_0, xw_n, if_neg (nI_ge hk (show 400 < 2 ^ 31 by decide)), xw_s hk, nI_1, xp_Wa_1, b8_t t ht]
theorem x_walk (hbd : ∀ j i, phi mt sw s m j i ≤ β → j ≤ i + lo ∧ i ≤ j + hi) (hcell : (m + 1) * (lo + hi + 1) ≤ 80608) (hT : tabB mt sw s m β lo hi true (B 70) (m + 1) 0) : ∀ (f i j k fuel : Nat) (si : Nat → Nat → Int32) (A : Nat → Nat → Int32), i + j ≤ f → f < fuel → i ≤ s → j ≤ m → s ≤ 1500 → m ≤ 1500 → phi mt sw s m j i ≤ β → k + (wlk (cs fC (fR false) mt sw) mt sw f i j).length ≤ 400 → si 77 1 = nI k → si 69 1 = iI (-(lo : Int)) → si 69 2 = nI (lo + hi + 1) → ∃ f', b_X5_walkBack_20 fuel (xh x si sq sl A B g) (x + 60) (x + 77) (nI i) (nI j) (nI k) = some (xh x (u2 si 77 1 (nI (k + (wlk (cs fC (fR false) mt sw) mt sw f i j).length))) sq sl (ua A 78 f') B g) ∧ (∀ q, q < k → f' q = A 78 q) ∧ ∀ q, q < (wlk (cs fC (fR false) mt sw) mt sw f i j).length → f' (k + q) = nI ((wlk (cs fC (fR false) mt sw) mt sw f i j).getD q 0) := by
  intro f
  induction f with
  | zero =>
    intro i j k fuel si A hij hf his hjm hs1 hm1 hp hk h77 h1 h2
    obtain rfl : i = 0 := by omega
    obtain rfl : j = 0 := by omega
    obtain ⟨fuel, rfl⟩ : ∃ q, fuel = q + 1 := ⟨fuel - 1, by omega⟩
    refine ⟨A 78, ?_, fun _ _ => rfl, fun q hq => absurd hq (Nat.not_lt_zero _)⟩
    unfold b_X5_walkBack_20 b_X5_walkBack_110
    rw [if_neg (show ¬ (0 : Int32) < nI 0 by decide), if_pos (show nI 0 ≤ (0 : Int32) by decide), ite_self, ua_self]
    exact congrArg (fun z => some (xh x z sq sl A B g)) (u2_self h77).symm
  | succ f ih =>
    intro i j k fuel si A hij hf his hjm hs1 hm1 hp hk h77 h1 h2
    obtain ⟨fuel, rfl⟩ : ∃ q, fuel = q + 1 := ⟨fuel - 1, by omega⟩
    by_cases h0 : i = 0 ∧ j = 0
    · obtain ⟨rfl, rfl⟩ := h0
      have e : wlk (cs fC (fR false) mt sw) mt sw (f + 1) 0 0 = [] := by unfold wlk; rw [if_pos ⟨rfl, rfl⟩]
      rw [e]
      refine ⟨A 78, ?_, fun _ _ => rfl, fun q hq => absurd hq (Nat.not_lt_zero _)⟩
      unfold b_X5_walkBack_20 b_X5_walkBack_110
      rw [if_neg (show ¬ (0 : Int32) < nI 0 by decide), if_pos (show nI 0 ≤ (0 : Int32) by decide), ite_self, ua_self]
      exact congrArg (fun z => some (xh x z sq sl A B g)) (u2_self h77).symm
    · rw [wlk_s h0, List.length_cons] at hk
      rw [wlk_s h0, List.length_cons]
      obtain ⟨n1, n2, n3, n4, n5⟩ := stp_next (mt := mt) (sw := sw) (s := s) (m := m) (β := β) h0
      have ht5 := stp_le (mt := mt) (sw := sw) (i := i) (j := j)
      have hok := stp_ok (mt := mt) (sw := sw) h0
      -- the step that the class takes is the document's
      have e61 : b_X5_walkBack_20 (fuel + 1) (xh x si sq sl A B g) (x + 60) (x + 77) (nI i) (nI j) (nI k) = b_X5_walkBack_61 (b_X5_walkBack_20 fuel) (xh x si sq sl A B g) (x + 60) (x + 77) (nI i) (nI j) (nI k) (nI (stp (cs fC (fR false) mt sw) mt sw i j)) := by
        have e36 : b_X5_walkBack_36 (b_X5_walkBack_20 fuel) (xh x si sq sl A B g) (x + 60) (x + 77) (nI i) (nI j) (nI k) = b_X5_walkBack_61 (b_X5_walkBack_20 fuel) (xh x si sq sl A B g) (x + 60) (x + 77) (nI i) (nI j) (nI k) (nI (stp (cs fC (fR false) mt sw) mt sw i j)) := by
          unfold b_X5_walkBack_36
          by_cases hi0 : 0 < i
          · rw [if_pos (show (0 : Int32) < nI i from nI_lt (a := 0) hi0 (by omega))]
            by_cases hj0 : 0 < j
            · obtain ⟨b1, b2⟩ := hbd j i hp
              have hcc : j * (lo + hi + 1) + (i + lo - j) < 80608 := by
                have q2 : (j + 1) * (lo + hi + 1) ≤ (m + 1) * (lo + hi + 1) := Nat.mul_le_mul_right _ (by omega)
                rw [Nat.succ_mul] at q2
                omega
              rw [if_pos (show (0 : Int32) < nI j from nI_lt (a := 0) hj0 (by omega)), xg_Ru_15, Option.bind_some, xo_St, Option.bind_some, x_tget h1 h2 b1 rfl hcc (by omega) (hT rfl j i hj0 hi0 his b1 b2 (Or.inl (by omega)) hp), zbp_some]
            · obtain rfl : j = 0 := by omega
              rw [if_neg (show ¬ (0 : Int32) < nI 0 by decide), stp_j0 hi0]
              rfl
          · obtain rfl : i = 0 := by omega
            rw [if_neg (show ¬ (0 : Int32) < nI 0 by decide), stp_i0 (by omega)]
            rfl
        conv => lhs; unfold b_X5_walkBack_20
        rw [if_neg (show ¬ (400 : Int32) ≤ nI k from nI_ge (b := 400) (by omega) (by decide)), e36]
        by_cases hi0 : 0 < i
        · rw [if_pos (show (0 : Int32) < nI i from nI_lt (a := 0) hi0 (by omega))]
        · rw [if_neg (show ¬ (0 : Int32) < nI i from nI_nlt (b := i) (a := 0) (by omega) (by omega)), if_neg (nI_nle (by omega) (by omega))]
      generalize stp (cs fC (fR false) mt sw) mt sw i j = t at *
      have e98 : b_X5_walkBack_61 (b_X5_walkBack_20 fuel) (xh x si sq sl A B g) (x + 60) (x + 77) (nI i) (nI j) (nI k) (nI t) = b_X5_walkBack_98 (b_X5_walkBack_20 fuel) (xh x si sq sl A B g) (x + 60) (x + 77) (nI (nxI t i)) (nI (nxJ t j)) (nI k) (nI t) := by
        unfold b_X5_walkBack_61 b_X5_walkBack_74 b_X5_walkBack_87 nxI nxJ
        rcases hok with ⟨h, q1, q2, -⟩ | ⟨h, q1, q2, -⟩ | ⟨h, q1, -⟩ | ⟨h, q1, -⟩
        · rcases h with rfl | rfl
          · rw [if_neg (show ¬ nI 0 = (4 : Int32) by decide), if_neg (show ¬ nI 0 = (2 : Int32) by decide), if_neg (show ¬ nI 0 = (3 : Int32) by decide), nI_p q1, nI_p q2]
            rfl
          · rw [if_neg (show ¬ nI 1 = (4 : Int32) by decide), if_neg (show ¬ nI 1 = (2 : Int32) by decide), if_neg (show ¬ nI 1 = (3 : Int32) by decide), nI_p q1, nI_p q2]
            rfl
        · subst h
          rw [if_pos (show nI 4 = (4 : Int32) from rfl), if_neg (show ¬ nI 4 = (2 : Int32) by decide), if_neg (show ¬ nI 4 = (3 : Int32) by decide), show (2 : Int32) = nI 2 from rfl, pk_sub q1, pk_sub q2]
          rfl
        · subst h
          rw [if_neg (show ¬ nI 2 = (4 : Int32) by decide), if_pos (show nI 2 = (2 : Int32) from rfl), if_neg (show ¬ nI 2 = (3 : Int32) by decide), nI_p q1]
          rfl
        · subst h
          rw [if_neg (show ¬ nI 3 = (4 : Int32) by decide), if_neg (show ¬ nI 3 = (2 : Int32) by decide), if_pos (show nI 3 = (3 : Int32) from rfl), nI_p q1]
          rfl
      obtain ⟨f', e, k1, k2⟩ := ih (nxI t i) (nxJ t j) (k + 1) fuel (u2 si 77 1 (nI (k + 1))) (ua A 78 (upd (A 78) k (nI t))) (by omega) (by omega) (by omega) (by omega) hs1 hm1 (n5 hp) (by omega) u2_s (by rw [u2_n (Or.inl (by decide))]; exact h1) (by rw [u2_n (Or.inl (by decide))]; exact h2)
      refine ⟨f', ?_, fun q hq => ?_, fun q hq => ?_⟩
      · rw [e61, e98]
        unfold b_X5_walkBack_98
        rw [xo_Wa, Option.bind_some, x_addB (by omega) (by omega) h77, Option.bind_some, nI_1, e, u2_u2, ua_ua, show k + 1 + (wlk (cs fC (fR false) mt sw) mt sw f (nxI t i) (nxJ t j)).length = k + ((wlk (cs fC (fR false) mt sw) mt sw f (nxI t i) (nxJ t j)).length + 1) by omega]
      · rw [k1 q (by omega), ua_s, pk_un (by omega)]
      · cases q with
        | zero =>
          rw [Nat.add_zero, k1 k (by omega), ua_s, pk_us]
          rfl
        | succ q =>
          rw [show k + (q + 1) = k + 1 + q by omega, k2 q (by omega)]
          rfl
end XW
