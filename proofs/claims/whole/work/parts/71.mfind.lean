/-! THE STEPS OF A HIT, the reference -/
section MF
variable {y : Nat} {mi : Nat → Int32} {ml : Nat → Int64} {C : Nat → Nat → Int32} {E : Nat → Nat → Int64} {g : zh_H}
variable {mt : Nat → Nat → Bool} {sw : Bool} {s m : Nat}
theorem m_fs18 {t e b : Nat} (ht : t < 1500) (h19 : C 19 t = nI e) (h21c : C 21 t = nI b) (hbe : b ≤ e) (h21 : mi 21 = nI s) (hs : s ≤ 200) : ∀ (fuel r : Nat) (E : Nat → Nat → Int64), r ≤ s → s - r < fuel → (∀ q, q < r → E 10 q = E 23 q ∧ E 11 q = E 24 q) → ∃ E', b_X11_findSteps_18 fuel (mh y mi ml C E g) y (nI t) (nI r) = b_X11_findSteps_75 zFuel (mh y (upd mi 23 (nI (e - b))) ml C E' g) y (nI t) (nI 0) ∧ (∀ k, k ≠ 10 → k ≠ 11 → E' k = E k) ∧ ∀ q, q < s → E' 10 q = E 23 q ∧ E' 11 q = E 24 q := by
  intro fuel
  induction fuel with
  | zero => intro r E _ h; omega
  | succ n ih =>
    intro r E hr hf hv
    conv => enter [1, E', 1, 1]; unfold b_X11_findSteps_18
    simp only [mg_sets, Option.bind_some, h21]
    by_cases hrs : r < s
    · simp only [if_neg (nI_ge hrs (show s < 2 ^ 31 by omega)), mr_rowLows, mr_rowHighs, mr_hitLows, mr_hitHighs, Option.bind_some, ml_hitLows (show r < 200 by omega), ml_hitHighs (show r < 200 by omega), ms_rowLows (show r < 1500 by omega), ms_rowHighs (show r < 1500 by omega), nI_1]
      obtain ⟨E', e, n1, n2⟩ := ih (r + 1) (ub (ub E 10 (vp_updL (E 10) r (E 23 r))) 11 (vp_updL (ub E 10 (vp_updL (E 10) r (E 23 r)) 11) r (ub E 10 (vp_updL (E 10) r (E 23 r)) 24 r))) (by omega) (by omega) (by
        intro q hq
        simp only [ub_s, ub_n (show 10 ≠ 11 by decide), ub_n (show 23 ≠ 11 by decide), ub_n (show 23 ≠ 10 by decide), ub_n (show 24 ≠ 11 by decide), ub_n (show 24 ≠ 10 by decide), ub_n (show 11 ≠ 10 by decide)]
        by_cases hqr : q = r
        · subst hqr; exact ⟨pk_uLs, pk_uLs⟩
        · rw [pk_uLn hqr, pk_uLn hqr]; exact hv q (by omega))
      refine ⟨E', e, fun k k1 k2 => by rw [n1 k k1 k2, ub_n k2, ub_n k1], fun q hq => ?_⟩
      have := n2 q hq
      simp only [ub_n (show 23 ≠ 11 by decide), ub_n (show 23 ≠ 10 by decide), ub_n (show 24 ≠ 11 by decide), ub_n (show 24 ≠ 10 by decide)] at this
      exact this
    · simp only [if_pos (nI_le (show s ≤ r by omega) (show r < 2 ^ 31 by omega)), mr_hitAt, Option.bind_some, ml_hitAt ht, h19, mr_hitBegin, ml_hitBegin ht, h21c, pk_sub hbe, mp_many]
      exact ⟨E, rfl, fun _ _ _ => rfl, fun q hq => hv q (by omega)⟩
theorem m_fs75 {t b : Nat} (ht : t < 1500) (h23 : mi 23 = nI m) (hm : b + m ≤ 1500) : ∀ (fuel r : Nat) (C : Nat → Nat → Int32), r ≤ m → m - r < fuel → C 21 t = nI b → (∀ q, q < r → C 12 q = C 22 (b + q)) → ∃ C', b_X11_findSteps_75 fuel (mh y mi ml C E g) y (nI t) (nI r) = ((b_X11_firstColumn_0 (mh y mi ml C' E g) y).bind fun h3 => b_X11_findSteps_114 zFuel h3 y (nI 0)) ∧ (∀ k, k ≠ 12 → C' k = C k) ∧ ∀ q, q < m → C' 12 q = C 22 (b + q) := by
  intro fuel
  induction fuel with
  | zero => intro r C _ h; omega
  | succ n ih =>
    intro r C hr hf h21 hv
    conv => enter [1, C', 1, 1]; unfold b_X11_findSteps_75
    simp only [mg_many, Option.bind_some, h23]
    by_cases hrs : r < m
    · simp only [if_neg (nI_ge hrs (show m < 2 ^ 31 by omega)), mr_bytes, mr_hitText, mr_hitBegin, Option.bind_some, ml_hitBegin ht, h21, nI_add, ml_hitText (show b + r < 1500 by omega), ms_bytes (show r < 1500 by omega), nI_1]
      obtain ⟨C', e, n1, n2⟩ := ih (r + 1) (ua C 12 (upd (C 12) r (C 22 (b + r)))) (by omega) (by omega) (by rw [ua_n (by decide)]; exact h21) (by
        intro q hq
        rw [ua_s, ua_n (show 22 ≠ 12 by decide)]
        by_cases hqr : q = r
        · subst hqr; exact pk_us
        · rw [pk_un hqr]; exact hv q (by omega))
      refine ⟨C', e, fun k k1 => by rw [n1 k k1, ua_n k1], fun q hq => ?_⟩
      rw [n2 q hq, ua_n (show 22 ≠ 12 by decide)]
    · simp only [if_pos (nI_le (show m ≤ r by omega) (show r < 2 ^ 31 by omega)), mis, Option.bind_some]
      exact ⟨C, rfl, fun _ _ => rfl, fun q hq => hv q (by omega)⟩
theorem m_fs114 (h21 : mi 21 = nI s) (hs : s ≤ 200) : ∀ (fuel r : Nat) (C : Nat → Nat → Int32), r ≤ s + 1 → s + 1 - r < fuel → (∀ q, q < r → C 25 (401 * q) = C 13 q) → ∃ C', b_X11_findSteps_114 fuel (mh y mi ml C E g) y (nI r) = b_X11_findSteps_146 zFuel (mh y mi ml C' E g) y (nI 0) ∧ (∀ k, k ≠ 25 → C' k = C k) ∧ ∀ q, q ≤ s → C' 25 (401 * q) = C 13 q := by
  intro fuel
  induction fuel with
  | zero => intro r C _ h; omega
  | succ n ih =>
    intro r C hr hf hv
    conv => enter [1, C', 1, 1]; unfold b_X11_findSteps_114
    simp only [mg_sets, Option.bind_some, h21]
    by_cases hrs : r ≤ s
    · simp only [if_neg (nI_nlt hrs (show s < 2 ^ 31 by omega)), mr_table, mr_cost, Option.bind_some, ml_cost (show r < 1501 by omega), show (401 : Int32) = nI 401 from rfl, pk_mul, ms_table (show 401 * r < 80601 by omega), nI_1]
      obtain ⟨C', e, n1, n2⟩ := ih (r + 1) (ua C 25 (upd (C 25) (401 * r) (C 13 r))) (by omega) (by omega) (by
        intro q hq
        rw [ua_s, ua_n (show 13 ≠ 25 by decide)]
        by_cases hqr : q = r
        · subst hqr; exact pk_us
        · rw [pk_un (by omega)]; exact hv q (by omega))
      refine ⟨C', e, fun k k1 => by rw [n1 k k1, ua_n k1], fun q hq => ?_⟩
      rw [n2 q hq, ua_n (show 13 ≠ 25 by decide)]
    · simp only [if_pos (nI_lt (show s < r by omega) (show r < 2 ^ 31 by omega))]
      exact ⟨C, rfl, fun _ _ => rfl, fun q hq => hv q (by omega)⟩
theorem m_fs162 {k146 : zh_H → Nat → Int32 → Option zh_H} {j : Nat} (h21 : mi 21 = nI s) (hs : s ≤ 200) (hj : j < 400) : ∀ (fuel r : Nat) (C : Nat → Nat → Int32), r ≤ s + 1 → s + 1 - r < fuel → (∀ q, q < r → C 25 (401 * q + j + 1) = C 13 q) → ∃ C', b_X11_findSteps_162 k146 fuel (mh y mi ml C E g) y (nI j) (nI r) = k146 (mh y mi ml C' E g) y (nI (j + 1)) ∧ (∀ k, k ≠ 25 → C' k = C k) ∧ (∀ q, q ≤ s → C' 25 (401 * q + j + 1) = C 13 q) ∧ ∀ q, q ≤ s → ∀ j', j' ≤ j → C' 25 (401 * q + j') = C 25 (401 * q + j') := by
  intro fuel
  induction fuel with
  | zero => intro r C _ h; omega
  | succ n ih =>
    intro r C hr hf hv
    conv => enter [1, C', 1, 1]; unfold b_X11_findSteps_162
    simp only [mg_sets, Option.bind_some, h21]
    by_cases hrs : r ≤ s
    · simp only [if_neg (nI_nlt hrs (show s < 2 ^ 31 by omega)), mr_table, mr_cost, Option.bind_some, ml_cost (show r < 1501 by omega), show (401 : Int32) = nI 401 from rfl, pk_mul, nI_add, nI_1, ms_table (show 401 * r + j + 1 < 80601 by omega)]
      obtain ⟨C', e, n1, n2, n3⟩ := ih (r + 1) (ua C 25 (upd (C 25) (401 * r + j + 1) (C 13 r))) (by omega) (by omega) (by
        intro q hq
        rw [ua_s, ua_n (show 13 ≠ 25 by decide)]
        by_cases hqr : q = r
        · subst hqr; exact pk_us
        · rw [pk_un (by omega)]; exact hv q (by omega))
      refine ⟨C', e, fun k k1 => by rw [n1 k k1, ua_n k1], fun q hq => ?_, fun q hq j' hj' => ?_⟩
      · rw [n2 q hq, ua_n (show 13 ≠ 25 by decide)]
      · rw [n3 q hq j' hj', ua_s, pk_un (by omega)]
    · simp only [if_pos (nI_lt (show s < r by omega) (show r < 2 ^ 31 by omega)), nI_1]
      exact ⟨C, rfl, fun _ _ => rfl, fun q hq => hv q (by omega), fun _ _ _ _ => rfl⟩
theorem m_fs146 (hs : s ≤ 200) (hm : m ≤ 400) : ∀ (fuel j : Nat) (C : Nat → Nat → Int32), mLd mi C E s m sw mt → mCol C s false mt sw j → tabM C s mt sw j → j ≤ m → m - j < fuel → ∃ C', b_X11_findSteps_146 fuel (mh y mi ml C E g) y (nI j) = some (mh y (upd mi 42 (nI (wayL s m mt sw).length)) ml C' E g) ∧ (∀ k, k < 13 ∨ 18 < k → k ≠ 25 → k ≠ 26 → C' k = C k) ∧ ∀ q, q < (wayL s m mt sw).length → C' 26 q = nI ((wayL s m mt sw).getD q 0) := by
  intro fuel
  induction fuel with
  | zero => intro j C _ _ _ _ h; omega
  | succ n ih =>
    intro j C hL hc hT hj hf
    obtain ⟨l1, l2, l3, l4, l5, l6⟩ := id hL
    by_cases hjm : j < m
    · obtain ⟨C1, e1, n1, n2⟩ := m_column (y := y) (ml := ml) (g := g) (fr := false) hL hjm hc
      obtain ⟨C2, e2, p1, p2, p3⟩ := m_fs162 (y := y) (mi := mi) (ml := ml) (E := E) (g := g) (k146 := b_X11_findSteps_146 n) (j := j) l1 hs (by omega) zFuel 0 C1 (by omega) (zF_lt (by omega)) (fun q h => absurd h (Nat.not_lt_zero _))
      have hL2 : mLd mi C2 E s m sw mt := mLd_c hL (by rw [p1 12 (by decide), n1 12 (by decide)])
      have hc2 : mCol C2 s false mt sw (j + 1) := by
        unfold mCol
        rw [p1 13 (by decide), p1 14 (by decide), p1 16 (by decide), p1 17 (by decide)]
        exact n2
      have hT2 : tabM C2 s mt sw (j + 1) := by
        intro i hi j' hj'
        by_cases hjj : j' = j + 1
        · subst hjj
          rw [show 401 * i + (j + 1) = 401 * i + j + 1 by omega, p2 i hi, (n2.1 i hi).1]
          rfl
        · rw [p3 i hi j' (by omega), n1 25 (by decide)]
          exact hT i hi j' (by omega)
      obtain ⟨C', e, k1, k2⟩ := ih (j + 1) C2 hL2 hc2 hT2 (by omega) (by omega)
      refine ⟨C', ?_, fun k h1 h2 h3 => by rw [k1 k h1 h2 h3, p1 k h2, n1 k h1], k2⟩
      conv => lhs; unfold b_X11_findSteps_146
      rw [mg_many, Option.bind_some, l2, if_neg (nI_ge hjm (by omega)), mis, Option.bind_some]
      have e1' : b_X11_column_0 (mh y mi ml C E g) y (nI j) 0 = some (mh y mi ml C1 E g) := e1
      rw [e1', Option.bind_some]
      exact e2.trans e
    · obtain rfl : j = m := by omega
      obtain ⟨C', e, k0, k1, k2⟩ := m_fs217 (y := y) (ml := ml) (E := E) (g := g) (mt := mt) (sw := sw) hs hm (s + j) s j 0 zFuel (upd mi 42 0) C (Nat.le_refl _) (zF_lt (by omega)) (Nat.le_refl _) (Nat.le_refl _) (by omega) (by
        unfold mLd
        rw [pk_un (by decide), pk_un (by decide), pk_un (by decide)]
        exact hL) hT pk_us
      refine ⟨C', ?_, fun k _ _ h3 => k0 k h3, fun q hq => ?_⟩
      · conv => lhs; unfold b_X11_findSteps_146
        rw [mg_many, Option.bind_some, l2, if_pos (nI_le (Nat.le_refl _) (by omega)), mp_stepCount, Option.bind_some, mg_sets, Option.bind_some, mg_many, Option.bind_some, pk_un (by decide), pk_un (by decide), l1, l2, e, upd_upd, Nat.zero_add]
        rfl
      · have := k2 q hq
        rw [Nat.zero_add] at this
        exact this
theorem m_findSteps {t e b n : Nat} (ht : t < 1500) (h19 : C 19 t = nI e) (h21 : C 21 t = nI b) (hbe : b ≤ e) (hen : e ≤ n) (hn : n ≤ 1500) (hm : e - b ≤ 400) (hs : s ≤ 200) (h38 : mi 38 = nI s) (h39 : mi 39 = bI sw) (hB : ∀ j, j < n → ∃ c, c < 127 ∧ C 22 j = nI c) : ∃ mi' C' E', b_X11_findSteps_0 (mh y mi ml C E g) y (nI t) = some (mh y mi' ml C' E' g) ∧ mi' 42 = nI (wayL s (e - b) (fun i q => mtx (E 23) (E 24) (C 22) i (b + q)) sw).length ∧ (∀ q, q < (wayL s (e - b) (fun i q => mtx (E 23) (E 24) (C 22) i (b + q)) sw).length → C' 26 q = nI ((wayL s (e - b) (fun i q => mtx (E 23) (E 24) (C 22) i (b + q)) sw).getD q 0)) ∧ (∀ k, k ≠ 21 → k ≠ 23 → k ≠ 24 → k ≠ 42 → mi' k = mi k) ∧ (∀ k, k < 12 ∨ 18 < k → k ≠ 25 → k ≠ 26 → C' k = C k) ∧ (∀ k, k ≠ 10 → k ≠ 11 → E' k = E k) := by
  obtain ⟨E1, e1, n1, n2⟩ := m_fs18 (y := y) (mi := upd (upd mi 21 (nI s)) 24 (bI sw)) (ml := ml) (C := C) (g := g) ht h19 h21 hbe (by rw [pk_un (by decide), pk_us]) hs zFuel 0 E (by omega) (zF_lt (by omega)) (fun q h => absurd h (Nat.not_lt_zero _))
  obtain ⟨C1, e2, p1, p2⟩ := m_fs75 (y := y) (mi := upd (upd (upd mi 21 (nI s)) 24 (bI sw)) 23 (nI (e - b))) (ml := ml) (E := E1) (g := g) (m := e - b) ht pk_us (show b + (e - b) ≤ 1500 by omega) zFuel 0 C (by omega) (zF_lt (by omega)) h21 (fun q h => absurd h (Nat.not_lt_zero _))
  have hs' : (upd (upd (upd mi 21 (nI s)) 24 (bI sw)) 23 (nI (e - b))) 21 = nI s := by rw [pk_un (by decide), pk_un (by decide), pk_us]
  obtain ⟨C2, e3, q1, q2⟩ := m_firstColumn (y := y) (mi := upd (upd (upd mi 21 (nI s)) 24 (bI sw)) 23 (nI (e - b))) (ml := ml) (C := C1) (E := E1) (g := g) (fr := false) (sw := sw) (mt := fun i q => mtx (E 23) (E 24) (C 22) i (b + q)) hs' (show s ≤ 1500 by omega)
  obtain ⟨C3, e4, r1, r2⟩ := m_fs114 (y := y) (mi := upd (upd (upd mi 21 (nI s)) 24 (bI sw)) 23 (nI (e - b))) (ml := ml) (E := E1) (g := g) hs' hs zFuel 0 C2 (by omega) (zF_lt (by omega)) (fun q h => absurd h (Nat.not_lt_zero _))
  have hL : mLd (upd (upd (upd mi 21 (nI s)) 24 (bI sw)) 23 (nI (e - b))) C3 E1 s (e - b) sw (fun i q => mtx (E 23) (E 24) (C 22) i (b + q)) := by
    refine ⟨hs', pk_us, by rw [pk_un (by decide), pk_us]; rfl, by omega, by omega, fun j hj => ?_⟩
    obtain ⟨c, hc, hcc⟩ := hB (b + j) (by omega)
    refine ⟨c, hc, ?_, fun i hi => ?_⟩
    · rw [r1 12 (by decide), q1 12 (by decide), p2 j hj]
      exact hcc
    · show _ = mtx (E 23) (E 24) (C 22) i (b + j)
      rw [mtx_n hcc hc, (n2 i hi).1, (n2 i hi).2]
  obtain ⟨C', e5, k1, k2⟩ := m_fs146 (y := y) (ml := ml) (g := g) hs hm zFuel 0 C3 hL (by
    unfold mCol
    rw [r1 13 (by decide), r1 14 (by decide), r1 16 (by decide), r1 17 (by decide)]
    exact q2) (by
    intro i hi j' hj'
    obtain rfl : j' = 0 := by omega
    rw [Nat.add_zero, r2 i hi, (q2.1 i hi).1]
    rfl) (by omega) (zF_lt (by omega))
  refine ⟨upd (upd (upd (upd mi 21 (nI s)) 24 (bI sw)) 23 (nI (e - b))) 42 (nI (wayL s (e - b) (fun i q => mtx (E 23) (E 24) (C 22) i (b + q)) sw).length), C', E1, ?_, pk_us, k2, ?_, ?_, n1⟩
  · unfold b_X11_findSteps_0
    rw [mg_hitSets, Option.bind_some, h38, mp_sets, Option.bind_some, mg_hitSwaps, Option.bind_some, pk_un (by decide), h39, mz_swapping (bI_01 sw), Option.bind_some]
    refine e1.trans (e2.trans ?_)
    rw [e3, Option.bind_some]
    exact e4.trans e5
  · intro k h1 h2 h3 h4
    rw [pk_un h4, pk_un h2, pk_un h3, pk_un h1]
  · intro k h1 h2 h3
    rw [k1 k (by omega) h2 h3, r1 k h2, q1 k (by omega), p1 k (by omega)]
end MF
