/-! THE STEPS, of the reference -/
def tabM (C : Nat → Nat → Int32) (s : Nat) (mt : Nat → Nat → Bool) (sw : Bool) (j : Nat) : Prop := ∀ i, i ≤ s → ∀ j', j' ≤ j → C 25 (401 * i + j') = nI (cs fC (fR false) mt sw j' i)
section MS
variable {y : Nat} {mi : Nat → Int32} {ml : Nat → Int64} {C : Nat → Nat → Int32} {E : Nat → Nat → Int64} {g : zh_H}
variable {mt : Nat → Nat → Bool} {sw : Bool} {s m : Nat}
theorem m_fs454 {k217 : zh_H → Nat → Int32 → Int32 → Option zh_H} {k t : Nat} {i j : Int32} (h42 : mi 42 = nI k) (hk : k < 800) : b_X11_findSteps_454 k217 (mh y mi ml C E g) y i j (nI t) = k217 (mh y (upd mi 42 (nI (k + 1))) ml (ua C 26 (upd (C 26) k (nI t))) E g) y i j := by
  unfold b_X11_findSteps_454
  simp only [mr_steps, Option.bind_some, mg_stepCount, h42, ms_steps hk, nI_1, mp_stepCount]
theorem m_fs414 {k217 : zh_H → Nat → Int32 → Int32 → Option zh_H} {k i j : Nat} (h42 : mi 42 = nI k) (hk : k < 800) (hs : s ≤ 200) (hm : m ≤ 400) (hi : i ≤ s) (hj : j ≤ m) (hT : tabM C s mt sw m) (h0 : ¬ (i = 0 ∧ j = 0)) (hn1 : ¬ (0 < i ∧ 0 < j ∧ cs fC (fR false) mt sw (j - 1) (i - 1) + (if mt (i - 1) (j - 1) then 0 else 1) = cs fC (fR false) mt sw j i)) (hn2 : ¬ (swp mt sw (i - 1) (j - 1) = true ∧ cs fC (fR false) mt sw (j - 2) (i - 2) + 1 = cs fC (fR false) mt sw j i)) : b_X11_findSteps_414 k217 (mh y mi ml C E g) y (nI i) (nI j) (nI (cs fC (fR false) mt sw j i)) = k217 (mh y (upd mi 42 (nI (k + 1))) ml (ua C 26 (upd (C 26) k (nI (stp (cs fC (fR false) mt sw) mt sw i j)))) E g) y (nI (nxI (stp (cs fC (fR false) mt sw) mt sw i j) i)) (nI (nxJ (stp (cs fC (fR false) mt sw) mt sw i j) j)) := by
  have hok := stp_ok (mt := mt) (sw := sw) h0
  have est : stp (cs fC (fR false) mt sw) mt sw i j = if 0 < j ∧ cs fC (fR false) mt sw (j - 1) i + 1 = cs fC (fR false) mt sw j i then 2 else 3 := by
    unfold stp
    rw [if_neg hn1, if_neg hn2]
  have hDb := cs_le (fr := false) (mt := mt) (sw := sw) j i
  have less : stp (cs fC (fR false) mt sw) mt sw i j = 3 → b_X11_findSteps_448 k217 (mh y mi ml C E g) y (nI i) (nI j) = k217 (mh y (upd mi 42 (nI (k + 1))) ml (ua C 26 (upd (C 26) k (nI (stp (cs fC (fR false) mt sw) mt sw i j)))) E g) y (nI (nxI (stp (cs fC (fR false) mt sw) mt sw i j) i)) (nI (nxJ (stp (cs fC (fR false) mt sw) mt sw i j) j)) := by
    intro h
    rw [h] at hok ⊢
    have hi0 : 0 < i := by omega
    obtain ⟨i, rfl⟩ : ∃ q, i = q + 1 := ⟨i - 1, by omega⟩
    unfold b_X11_findSteps_448
    rw [pk_m1, show (3 : Int32) = nI 3 from rfl, m_fs454 h42 hk]
    rfl
  unfold b_X11_findSteps_414
  by_cases hj0 : 0 < j
  · rw [if_neg (nI_nle hj0 (by omega)), mr_table, Option.bind_some, show (401 : Int32) = nI 401 from rfl, pk_mul, nI_add, show nI (401 * i + j) - (1 : Int32) = nI (401 * i + (j - 1)) by rw [nI_p (by omega)]; congr 1; omega, ml_table (by omega), Option.bind_some, hT i hi (j - 1) (by omega), nI_1]
    have hDb2 := cs_le (fr := false) (mt := mt) (sw := sw) (j - 1) i
    by_cases h3 : cs fC (fR false) mt sw (j - 1) i + 1 = cs fC (fR false) mt sw j i
    · rw [if_pos (by rw [h3])]
      rw [if_pos ⟨hj0, h3⟩] at est
      rw [est]
      obtain ⟨j, rfl⟩ : ∃ q, j = q + 1 := ⟨j - 1, by omega⟩
      rw [pk_m1, show (2 : Int32) = nI 2 from rfl, m_fs454 h42 hk]
      rfl
    · rw [if_neg (fun q => h3 ((nI_eq (by omega) (by omega)).mp q))]
      exact less (by rw [est, if_neg (fun q => h3 q.2)])
  · rw [if_pos (show nI j ≤ (0 : Int32) from nI_le (b := 0) (by omega) (by decide))]
    exact less (by rw [est, if_neg (fun q => hj0 q.1)])
theorem m_fs225 {k217 : zh_H → Nat → Int32 → Int32 → Option zh_H} {k i j : Nat} (hL : mLd mi C E s m sw mt) (h42 : mi 42 = nI k) (hk : k < 800) (hs : s ≤ 200) (hm : m ≤ 400) (hi : i ≤ s) (hj : j ≤ m) (hT : tabM C s mt sw m) (h0 : ¬ (i = 0 ∧ j = 0)) : b_X11_findSteps_225 k217 (mh y mi ml C E g) y (nI i) (nI j) = k217 (mh y (upd mi 42 (nI (k + 1))) ml (ua C 26 (upd (C 26) k (nI (stp (cs fC (fR false) mt sw) mt sw i j)))) E g) y (nI (nxI (stp (cs fC (fR false) mt sw) mt sw i j) i)) (nI (nxJ (stp (cs fC (fR false) mt sw) mt sw i j) j)) := by
  obtain ⟨l1, l2, l3, l4, l5, l6⟩ := id hL
  have hDb := cs_le (fr := false) (mt := mt) (sw := sw) j i
  -- the swap, and what is behind it
  have e326 : ¬ (0 < i ∧ 0 < j ∧ cs fC (fR false) mt sw (j - 1) (i - 1) + (if mt (i - 1) (j - 1) then 0 else 1) = cs fC (fR false) mt sw j i) → b_X11_findSteps_326 k217 (mh y mi ml C E g) y (nI i) (nI j) (nI (cs fC (fR false) mt sw j i)) = k217 (mh y (upd mi 42 (nI (k + 1))) ml (ua C 26 (upd (C 26) k (nI (stp (cs fC (fR false) mt sw) mt sw i j)))) E g) y (nI (nxI (stp (cs fC (fR false) mt sw) mt sw i j) i)) (nI (nxJ (stp (cs fC (fR false) mt sw) mt sw i j) j)) := by
    intro hn1
    have no : ¬ (swp mt sw (i - 1) (j - 1) = true ∧ cs fC (fR false) mt sw (j - 2) (i - 2) + 1 = cs fC (fR false) mt sw j i) → _ := fun h => m_fs414 (y := y) (ml := ml) (E := E) (g := g) (k217 := k217) h42 hk hs hm hi hj hT h0 hn1 h
    unfold b_X11_findSteps_326
    rw [mg_swapping, Option.bind_some, l3]
    by_cases hsw : sw = true
    · rw [if_pos hsw, if_neg (show ¬ (1 : Int32) = 0 by decide)]
      by_cases hi1 : 2 ≤ i
      · rw [if_neg (show ¬ nI i ≤ (1 : Int32) from nI_ge (b := i) (a := 1) (by omega) (by omega))]
        by_cases hj1 : 2 ≤ j
        · obtain ⟨b, hb, hbb, hbf⟩ := l6 (j - 1) (by omega)
          obtain ⟨b', hb', hbb', hbf'⟩ := l6 (j - 2) (by omega)
          rw [if_neg (show ¬ nI j ≤ (1 : Int32) from nI_ge (b := j) (a := 1) (by omega) (by omega))]
          rw [show nI j - (1 : Int32) = nI (j - 1) from nI_p (by omega), show nI i - (1 : Int32) = nI (i - 1) from nI_p (by omega), show nI i - (2 : Int32) = nI (i - 2) from pk_sub (b := 2) hi1, show nI j - (2 : Int32) = nI (j - 2) from pk_sub (b := 2) hj1]
          rw [mr_bytes, Option.bind_some, ml_bytes (by omega), Option.bind_some, mis, Option.bind_some, hbb, m_fits (by omega) hb, zbp_some, hbf _ (by omega)]
          by_cases f1 : mt (i - 2) (j - 1) = true
          · rw [if_pos f1, if_neg (show ¬ (1 : Int32) = 0 by decide), mr_bytes, Option.bind_some, ml_bytes (by omega), Option.bind_some, mis, Option.bind_some, hbb', m_fits (by omega) hb', zbp_some, hbf' _ (by omega)]
            by_cases f2 : mt (i - 1) (j - 2) = true
            · rw [if_pos f2, if_neg (show ¬ (1 : Int32) = 0 by decide), mr_table, Option.bind_some, show (401 : Int32) = nI 401 from rfl, pk_mul, nI_add, show nI (401 * (i - 2) + j) - (2 : Int32) = nI (401 * (i - 2) + (j - 2)) by rw [show (2 : Int32) = nI 2 from rfl, pk_sub (by omega)]; congr 1; omega, ml_table (by omega), Option.bind_some, hT (i - 2) (by omega) (j - 2) (by omega), nI_1]
              have hDb2 := cs_le (fr := false) (mt := mt) (sw := sw) (j - 2) (i - 2)
              have hsp : swp mt sw (i - 1) (j - 1) = true := by
                unfold swp
                simp only [Bool.and_eq_true, decide_eq_true_eq]
                exact ⟨hsw, by omega, by omega, by rw [show i - 1 - 1 = i - 2 by omega]; exact f1, by rw [show j - 1 - 1 = j - 2 by omega]; exact f2⟩
              by_cases h2 : cs fC (fR false) mt sw (j - 2) (i - 2) + 1 = cs fC (fR false) mt sw j i
              · have est : stp (cs fC (fR false) mt sw) mt sw i j = 4 := by
                  unfold stp
                  rw [if_neg hn1, if_pos ⟨hsp, h2⟩]
                rw [if_pos (by rw [h2]), est]
                obtain ⟨i, rfl⟩ : ∃ q, i = q + 2 := ⟨i - 2, by omega⟩
                obtain ⟨j, rfl⟩ : ∃ q, j = q + 2 := ⟨j - 2, by omega⟩
                have em2 : ∀ q : Nat, nI (q + 2) + (-2 : Int32) = nI q := by
                  intro q
                  rw [iI_n, show (-2 : Int32) = iI (-2) from rfl, iI_add, iI_n]
                  congr 1
                  omega
                rw [em2, em2, show (4 : Int32) = nI 4 from rfl, m_fs454 h42 hk]
                rfl
              · rw [if_neg (fun q => h2 ((nI_eq (by omega) (by omega)).mp q))]
                exact no (fun q => h2 q.2)
            · rw [if_neg f2, if_pos rfl]
              refine no (fun q => f2 ?_)
              have := q.1
              unfold swp at this
              simp only [Bool.and_eq_true, decide_eq_true_eq] at this
              have h5 := this.2.2.2.2
              rw [show j - 1 - 1 = j - 2 by omega] at h5
              exact h5
          · rw [if_neg f1, if_pos rfl]
            refine no (fun q => f1 ?_)
            have := q.1
            unfold swp at this
            simp only [Bool.and_eq_true, decide_eq_true_eq] at this
            have h5 := this.2.2.2.1
            rw [show i - 1 - 1 = i - 2 by omega] at h5
            exact h5
        · rw [if_pos (show nI j ≤ (1 : Int32) from nI_le (b := 1) (by omega) (by decide))]
          exact no (fun q => by have := (swp_pos q.1).2; omega)
      · rw [if_pos (show nI i ≤ (1 : Int32) from nI_le (b := 1) (by omega) (by decide))]
        exact no (fun q => by have := (swp_pos q.1).1; omega)
    · rw [if_neg hsw, if_pos rfl]
      refine no (fun q => hsw ?_)
      have := q.1
      unfold swp at this
      simp only [Bool.and_eq_true] at this
      exact this.1
  unfold b_X11_findSteps_225
  rw [mr_table, Option.bind_some, show (401 : Int32) = nI 401 from rfl, pk_mul, nI_add, ml_table (by omega), Option.bind_some, hT i hi j hj]
  by_cases hi0 : 0 < i
  · rw [if_neg (nI_nle hi0 (by omega))]
    by_cases hj0 : 0 < j
    · obtain ⟨b, hb, hbb, hbf⟩ := l6 (j - 1) (by omega)
      have hDb2 := cs_le (fr := false) (mt := mt) (sw := sw) (j - 1) (i - 1)
      rw [if_neg (nI_nle hj0 (by omega))]
      rw [show nI j - (1 : Int32) = nI (j - 1) from nI_p (by omega), show nI i - (1 : Int32) = nI (i - 1) from nI_p (by omega), pk_mul, nI_add, show nI (401 * (i - 1) + j) - (1 : Int32) = nI (401 * (i - 1) + (j - 1)) by rw [nI_p (by omega)]; congr 1; omega]
      rw [Option.bind_some, ml_table (by omega), Option.bind_some, hT (i - 1) (by omega) (j - 1) (by omega), mr_bytes, Option.bind_some, ml_bytes (by omega), Option.bind_some, mis, Option.bind_some, hbb, m_fits (by omega) hb, zbp_some, hbf _ (by omega)]
      have e286 : ∀ w : Nat, w = (if mt (i - 1) (j - 1) then 0 else 1) → b_X11_findSteps_286 k217 (mh y mi ml C E g) y (nI i) (nI j) (nI (cs fC (fR false) mt sw j i)) (nI w) (nI (cs fC (fR false) mt sw (j - 1) (i - 1))) = k217 (mh y (upd mi 42 (nI (k + 1))) ml (ua C 26 (upd (C 26) k (nI (stp (cs fC (fR false) mt sw) mt sw i j)))) E g) y (nI (nxI (stp (cs fC (fR false) mt sw) mt sw i j) i)) (nI (nxJ (stp (cs fC (fR false) mt sw) mt sw i j) j)) := by
        intro w hw
        have hw1 : w ≤ 1 := by rw [hw]; split <;> omega
        unfold b_X11_findSteps_286
        rw [nI_add]
        by_cases h1 : cs fC (fR false) mt sw (j - 1) (i - 1) + w = cs fC (fR false) mt sw j i
        · have est : stp (cs fC (fR false) mt sw) mt sw i j = w := by
            unfold stp
            rw [if_pos ⟨hi0, hj0, by rw [← hw]; exact h1⟩, hw]
          rw [if_pos (by rw [h1])]
          rw [show nI j - (1 : Int32) = nI (j - 1) from nI_p (by omega), show nI i - (1 : Int32) = nI (i - 1) from nI_p (by omega), mr_bytes, Option.bind_some, ml_bytes (by omega), Option.bind_some, mis, Option.bind_some, hbb, m_fits (by omega) hb, zbp_some, hbf _ (by omega), est]
          unfold b_X11_findSteps_315
          obtain ⟨i, rfl⟩ : ∃ q, i = q + 1 := ⟨i - 1, by omega⟩
          obtain ⟨j, rfl⟩ : ∃ q, j = q + 1 := ⟨j - 1, by omega⟩
          rw [pk_m1, pk_m1]
          have e1 : nxI w (i + 1) = i := by unfold nxI; rw [if_neg (by omega), if_neg (by omega)]; rfl
          have e2 : nxJ w (j + 1) = j := by unfold nxJ; rw [if_neg (by omega), if_neg (by omega)]; rfl
          rw [e1, e2]
          by_cases hmm : mt (i + 1 - 1) (j + 1 - 1) = true
          · rw [if_pos hmm] at hw
            rw [if_pos hmm, if_neg (by decide), hw]
            exact m_fs454 (t := 0) h42 hk
          · rw [if_neg hmm] at hw
            rw [if_neg hmm, if_pos rfl, hw]
            exact m_fs454 (t := 1) h42 hk
        · rw [if_neg (fun q => h1 ((nI_eq (by omega) (by omega)).mp q))]
          exact e326 (fun q => h1 (by rw [hw]; exact q.2.2))
      by_cases hmm : mt (i - 1) (j - 1) = true
      · rw [if_pos hmm, if_neg (show ¬ (1 : Int32) = 0 by decide)]
        exact e286 0 (by rw [if_pos hmm])
      · rw [if_neg hmm, if_pos rfl]
        exact e286 1 (by rw [if_neg hmm])
    · rw [if_pos (show nI j ≤ (0 : Int32) from nI_le (b := 0) (by omega) (by decide))]
      exact e326 (fun q => hj0 q.2.1)
  · rw [if_pos (show nI i ≤ (0 : Int32) from nI_le (b := 0) (by omega) (by decide))]
    exact e326 (fun q => hi0 q.1)
theorem m_fs217 (hs : s ≤ 200) (hm : m ≤ 400) : ∀ (f i j k fuel : Nat) (mi : Nat → Int32) (C : Nat → Nat → Int32), i + j ≤ f → f < fuel → i ≤ s → j ≤ m → k + f ≤ 800 → mLd mi C E s m sw mt → tabM C s mt sw m → mi 42 = nI k → ∃ C', b_X11_findSteps_217 fuel (mh y mi ml C E g) y (nI i) (nI j) = some (mh y (upd mi 42 (nI (k + (wlk (cs fC (fR false) mt sw) mt sw f i j).length))) ml C' E g) ∧ (∀ q, q ≠ 26 → C' q = C q) ∧ (∀ q, q < k → C' 26 q = C 26 q) ∧ ∀ q, q < (wlk (cs fC (fR false) mt sw) mt sw f i j).length → C' 26 (k + q) = nI ((wlk (cs fC (fR false) mt sw) mt sw f i j).getD q 0) := by
  intro f
  induction f with
  | zero =>
    intro i j k fuel mi C hij hf his hjm hk hL hT h42
    obtain rfl : i = 0 := by omega
    obtain rfl : j = 0 := by omega
    obtain ⟨fuel, rfl⟩ : ∃ q, fuel = q + 1 := ⟨fuel - 1, by omega⟩
    refine ⟨C, ?_, fun _ _ => rfl, fun _ _ => rfl, fun q hq => absurd hq (Nat.not_lt_zero _)⟩
    unfold b_X11_findSteps_217
    rw [if_neg (show ¬ (0 : Int32) < nI 0 by decide), if_pos (show nI 0 ≤ (0 : Int32) by decide)]
    exact congrArg (fun z => some (mh y z ml C E g)) (upd_self h42).symm
  | succ f ih =>
    intro i j k fuel mi C hij hf his hjm hk hL hT h42
    obtain ⟨fuel, rfl⟩ : ∃ q, fuel = q + 1 := ⟨fuel - 1, by omega⟩
    by_cases h0 : i = 0 ∧ j = 0
    · obtain ⟨rfl, rfl⟩ := h0
      have e : wlk (cs fC (fR false) mt sw) mt sw (f + 1) 0 0 = [] := by unfold wlk; rw [if_pos ⟨rfl, rfl⟩]
      rw [e]
      refine ⟨C, ?_, fun _ _ => rfl, fun _ _ => rfl, fun q hq => absurd hq (Nat.not_lt_zero _)⟩
      unfold b_X11_findSteps_217
      rw [if_neg (show ¬ (0 : Int32) < nI 0 by decide), if_pos (show nI 0 ≤ (0 : Int32) by decide)]
      exact congrArg (fun z => some (mh y z ml C E g)) (upd_self h42).symm
    · obtain ⟨n1, n2, n3, -, -⟩ := stp_next (mt := mt) (sw := sw) (s := 0) (m := 0) (β := 0) h0
      have e225 := m_fs225 (y := y) (ml := ml) (g := g) (k217 := b_X11_findSteps_217 fuel) hL h42 (by omega) hs hm his hjm hT h0
      rw [wlk_s h0, List.length_cons]
      obtain ⟨C', e, k0, k1, k2⟩ := ih (nxI (stp (cs fC (fR false) mt sw) mt sw i j) i) (nxJ (stp (cs fC (fR false) mt sw) mt sw i j) j) (k + 1) fuel (upd mi 42 (nI (k + 1))) (ua C 26 (upd (C 26) k (nI (stp (cs fC (fR false) mt sw) mt sw i j)))) (by omega) (by omega) (by omega) (by omega) (by omega) (by
        refine mLd_c (C := C) ?_ (by rw [ua_n (by decide)])
        unfold mLd
        rw [pk_un (by decide), pk_un (by decide), pk_un (by decide)]
        exact hL) (by
        unfold tabM
        rw [ua_n (by decide)]
        exact hT) pk_us
      refine ⟨C', ?_, fun q hq => by rw [k0 q hq, ua_n hq], fun q hq => by rw [k1 q (by omega), ua_s, pk_un (by omega)], fun q hq => ?_⟩
      · have e0 : b_X11_findSteps_217 (fuel + 1) (mh y mi ml C E g) y (nI i) (nI j) = b_X11_findSteps_225 (b_X11_findSteps_217 fuel) (mh y mi ml C E g) y (nI i) (nI j) := by
          conv => lhs; unfold b_X11_findSteps_217
          by_cases hi0 : 0 < i
          · rw [if_pos (show (0 : Int32) < nI i from nI_lt (a := 0) hi0 (by omega))]
          · rw [if_neg (show ¬ (0 : Int32) < nI i from nI_nlt (b := i) (a := 0) (by omega) (by omega)), if_neg (nI_nle (by omega) (by omega))]
        rw [e0, e225, e, upd_upd, show k + 1 + (wlk (cs fC (fR false) mt sw) mt sw f (nxI (stp (cs fC (fR false) mt sw) mt sw i j) i) (nxJ (stp (cs fC (fR false) mt sw) mt sw i j) j)).length = k + ((wlk (cs fC (fR false) mt sw) mt sw f (nxI (stp (cs fC (fR false) mt sw) mt sw i j) i) (nxJ (stp (cs fC (fR false) mt sw) mt sw i j) j)).length + 1) by omega]
      · cases q with
        | zero =>
          rw [Nat.add_zero, k1 k (by omega), ua_s, pk_us]
          rfl
        | succ q =>
          rw [show k + (q + 1) = k + 1 + q by omega, k2 q (by omega)]
          rfl
end MS
