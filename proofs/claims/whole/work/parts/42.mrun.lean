/-! THE REFERENCE: a column after the other; what is loaded; the distance; the first hit -/
def mCol (C : Nat → Nat → Int32) (s : Nat) (fr : Bool) (mt : Nat → Nat → Bool) (sw : Bool) (j : Nat) : Prop := (∀ q, q ≤ s → C 13 q = cN (vV fC (fR fr) mt sw j q) ∧ C 16 q = bN (vV fC (fR fr) mt sw j q)) ∧ (1 ≤ j → ∀ q, q ≤ s → C 14 q = cN (vV fC (fR fr) mt sw (j - 1) q) ∧ C 17 q = bN (vV fC (fR fr) mt sw (j - 1) q))
section MR
variable {y : Nat} {mi : Nat → Int32} {ml : Nat → Int64} {C : Nat → Nat → Int32} {E : Nat → Nat → Int64} {g : zh_H}
theorem m_col2 {s : Nat} {j fr : Int32} (h21 : mi 21 = nI s) (hs : s ≤ 1500) : ∀ (fuel r : Nat) (C : Nat → Nat → Int32), r ≤ s + 1 → s + 1 - r < fuel → ∃ C', b_X11_column_2 fuel (mh y mi ml C E g) y j fr (nI r) = b_X11_column_80 (mh y mi ml C' E g) y j fr (if fr = 0 then j + 1 else 0) 0 (y + 13) ∧ (∀ k, k ≠ 14 → k ≠ 15 → k ≠ 17 → k ≠ 18 → C' k = C k) ∧ (∀ q, C' 15 q = if r ≤ q ∧ q ≤ s then C 14 q else C 15 q) ∧ (∀ q, C' 18 q = if r ≤ q ∧ q ≤ s then C 17 q else C 18 q) ∧ (∀ q, C' 14 q = if r ≤ q ∧ q ≤ s then C 13 q else C 14 q) ∧ (∀ q, C' 17 q = if r ≤ q ∧ q ≤ s then C 16 q else C 17 q) := by
  intro fuel
  induction fuel with
  | zero => intro r C _ h; omega
  | succ n ih =>
    intro r C hr hf
    unfold b_X11_column_2
    rw [mg_sets, Option.bind_some, h21]
    by_cases hrs : r ≤ s
    · rw [if_neg (nI_nlt hrs (by omega))]
      simp only [mr_cost2, mr_cost1, mr_cost, mr_begin2, mr_begin1, mr_begin, Option.bind_some, ml_cost1 (show r < 1501 by omega), ms_cost2 (show r < 1501 by omega), ml_begin1 (show r < 1501 by omega), ms_begin2 (show r < 1501 by omega), ml_cost (show r < 1501 by omega), ms_cost1 (show r < 1501 by omega), ml_begin (show r < 1501 by omega), ms_begin1 (show r < 1501 by omega), nI_1]
      obtain ⟨C', e, n0, n1, n2, n3, n4⟩ := ih (r + 1) _ (by omega) (by omega)
      refine ⟨C', e, ?_, ?_, ?_, ?_, ?_⟩
      · intro k k1 k2 k3 k4
        rw [n0 k k1 k2 k3 k4, ua_n k3, ua_n k1, ua_n k4, ua_n k2]
      · intro q
        rw [n1]
        simp only [ua_s, ua_n (show 15 ≠ 17 by decide), ua_n (show 15 ≠ 14 by decide), ua_n (show 15 ≠ 18 by decide), ua_n (show 14 ≠ 17 by decide), ua_n (show 14 ≠ 18 by decide), ua_n (show 14 ≠ 15 by decide)]
        simp only [upd]
        repeat' split
        all_goals first | rfl | (exfalso; omega) | (congr 1; omega)
      · intro q
        rw [n2]
        simp only [ua_s, ua_n (show 18 ≠ 17 by decide), ua_n (show 18 ≠ 14 by decide), ua_n (show 18 ≠ 15 by decide), ua_n (show 17 ≠ 14 by decide), ua_n (show 17 ≠ 18 by decide), ua_n (show 17 ≠ 15 by decide)]
        simp only [upd]
        repeat' split
        all_goals first | rfl | (exfalso; omega) | (congr 1; omega)
      · intro q
        rw [n3]
        simp only [ua_s, ua_n (show 13 ≠ 17 by decide), ua_n (show 13 ≠ 14 by decide), ua_n (show 13 ≠ 18 by decide), ua_n (show 13 ≠ 15 by decide), ua_n (show 14 ≠ 17 by decide), ua_n (show 14 ≠ 18 by decide), ua_n (show 14 ≠ 15 by decide)]
        simp only [upd]
        repeat' split
        all_goals first | rfl | (exfalso; omega) | (congr 1; omega)
      · intro q
        rw [n4]
        simp only [ua_s, ua_n (show 16 ≠ 17 by decide), ua_n (show 16 ≠ 14 by decide), ua_n (show 16 ≠ 18 by decide), ua_n (show 16 ≠ 15 by decide), ua_n (show 17 ≠ 14 by decide), ua_n (show 17 ≠ 18 by decide), ua_n (show 17 ≠ 15 by decide)]
        simp only [upd]
        repeat' split
        all_goals first | rfl | (exfalso; omega) | (congr 1; omega)
    · rw [if_pos (nI_lt (by omega) (by omega)), mr_cost, Option.bind_some]
      refine ⟨C, by split <;> rfl, fun _ _ _ _ _ => rfl, ?_, ?_, ?_, ?_⟩ <;> exact fun q => (if_neg (by omega)).symm
theorem cV2_le {fr : Bool} {mt : Nat → Nat → Bool} {sw : Bool} {j i : Nat} (hi : i ≤ 1501) (hj : j ≤ 1501) : (cV fC (fR fr) mt sw j).2 i / 2048 ≤ 3002 := by
  cases j with
  | zero => show fC i / 2048 ≤ 3002; unfold fC; omega
  | succ j => rw [vV_p2]; exact cN_lt hi (by omega)
theorem m_column {s m j : Nat} {sw fr : Bool} {mt : Nat → Nat → Bool} (hL : mLd mi C E s m sw mt) (hj : j < m) (hc : mCol C s fr mt sw j) : ∃ C', b_X11_column_0 (mh y mi ml C E g) y (nI j) (if fr then 1 else 0) = some (mh y mi ml C' E g) ∧ (∀ k, k < 13 ∨ 18 < k → C' k = C k) ∧ mCol C' s fr mt sw (j + 1) := by
  obtain ⟨l1, l2, l3, l4, l5, l6⟩ := id hL
  obtain ⟨C1, e1, n0, n1, n2, n3, n4⟩ := m_col2 (y := y) (mi := mi) (ml := ml) (E := E) (g := g) (j := nI j) (fr := if fr then 1 else 0) l1 l4 zFuel 0 C (by omega) (zF_lt (by omega))
  have hL2 : mLd mi (sC C1 0 (fR fr (j + 1))) E s m sw mt := mLd_c hL (by rw [sC_n (by decide) (by decide)]; exact n0 _ (by decide) (by decide) (by decide) (by decide))
  obtain ⟨C2, e2, k0, k1⟩ := m_col100 (y := y) (ml := ml) (g := g) (E := E) (mi := mi) (pr := vV fC (fR fr) mt sw j) (p2 := (cV fC (fR fr) mt sw j).2) (fs := fR fr (j + 1)) (s := s) (sw := sw) (mt := mt) hj (fun q hq => Nat.lt_of_le_of_lt (cN_lt (by omega) (by omega)) (by decide)) (fun q hq => Nat.lt_of_le_of_lt (cV2_le (by omega) (by omega)) (by decide)) (fun q hq => Nat.lt_of_le_of_lt (cN_lt (fr := fr) (mt := mt) (sw := sw) (j := j + 1) (i := q) (by omega) (by omega)) (by decide)) zFuel 0 (sC C1 0 (fR fr (j + 1))) hL2 (by
      intro q hq
      rw [sC_n (by decide) (by decide), sC_n (by decide) (by decide), n3, n4, if_pos (by omega), if_pos (by omega)]
      exact hc.1 q hq) (by
      intro h1 q hq
      rw [sC_n (by decide) (by decide), sC_n (by decide) (by decide), n1, n2, if_pos (by omega), if_pos (by omega)]
      have := hc.2 h1 q hq
      obtain ⟨j', rfl⟩ : ∃ k, j = k + 1 := ⟨j - 1, by omega⟩
      exact this) (by omega) (zF_lt (by omega)) (by
      intro q hq
      obtain rfl : q = 0 := by omega
      rw [sC_13, sC_16]
      exact ⟨pk_us, pk_us⟩)
  refine ⟨C2, ?_, ?_, ⟨k1, fun _ q hq => ?_⟩⟩
  · unfold b_X11_column_0
    rw [show (0 : Int32) = nI 0 from rfl] at e1 ⊢
    rw [e1, ← e2]
    unfold b_X11_column_80 b_X11_column_97
    have ec : (if (if fr = true then (1 : Int32) else nI 0) = nI 0 then nI j + 1 else nI 0) = cN (fR fr (j + 1)) := by
      unfold cN fR
      cases fr
      · rw [if_neg Bool.false_ne_true, if_pos rfl, if_neg Bool.false_ne_true, nI_1]; congr 1; omega
      · rw [if_pos rfl, if_pos rfl, if_neg (by decide)]; congr 1; omega
    have eb : (if (if fr = true then (1 : Int32) else nI 0) = nI 0 then nI 0 else nI j + 1) = bN (fR fr (j + 1)) := by
      unfold bN fR
      cases fr
      · rw [if_neg Bool.false_ne_true, if_pos rfl, if_neg Bool.false_ne_true, show 2047 - ((j + 1) * 2048 + 2047) % 2048 = 0 by omega]
      · rw [if_pos rfl, if_pos rfl, if_neg (by decide), nI_1]; congr 1; omega
    rw [ec, ms_cost (by decide), Option.bind_some, mr_begin, Option.bind_some]
    rw [show (0 : Int32) = nI 0 from rfl, ms_begin (by decide), Option.bind_some, ms_begin (by decide), Option.bind_some]
    unfold sC
    rw [← eb, ua_n (show 16 ≠ 13 by decide), show (1 : Int32) = nI (0 + 1) from rfl]
    split <;> rfl
  · intro k hk
    rw [k0 k (by omega) (by omega), sC_n (by omega) (by omega), n0 k (by omega) (by omega) (by omega) (by omega)]
  · rw [k0 14 (by decide) (by decide), k0 17 (by decide) (by decide), sC_n (by decide) (by decide), sC_n (by decide) (by decide), n3, n4, if_pos (by omega), if_pos (by omega)]
    exact hc.1 q hq
theorem m_first2 {s : Nat} (h21 : mi 21 = nI s) (hs : s ≤ 1500) : ∀ (fuel r : Nat) (C : Nat → Nat → Int32), r ≤ s + 1 → s + 1 - r < fuel → (∀ q, q < r → C 13 q = cN (fC q) ∧ C 16 q = bN (fC q)) → ∃ C', b_X11_firstColumn_2 fuel (mh y mi ml C E g) y (nI r) = some (mh y mi ml C' E g) ∧ (∀ k, k ≠ 13 → k ≠ 16 → C' k = C k) ∧ ∀ q, q ≤ s → C' 13 q = cN (fC q) ∧ C' 16 q = bN (fC q) := by
  intro fuel
  induction fuel with
  | zero => intro r C _ h; omega
  | succ n ih =>
    intro r C hr hf hv
    unfold b_X11_firstColumn_2
    rw [mg_sets, Option.bind_some, h21]
    by_cases hrs : r ≤ s
    · rw [if_neg (nI_nlt hrs (by omega))]
      simp only [mr_cost, mr_begin, Option.bind_some, ms_cost (show r < 1501 by omega), ms_begin (show r < 1501 by omega), nI_1]
      have e1 : nI r = cN (fC r) := by unfold cN fC; congr 1; omega
      have e2 : (0 : Int32) = bN (fC r) := by unfold bN fC; rw [show 2047 - (r * 2048 + 2047) % 2048 = 0 by omega]; rfl
      obtain ⟨C', e, n1, n2⟩ := ih (r + 1) (sC C r (fC r)) (by omega) (by omega) (by
        intro q hq
        rw [sC_13, sC_16]
        by_cases hqr : q = r
        · subst hqr; exact ⟨pk_us, pk_us⟩
        · rw [pk_un hqr, pk_un hqr]; exact hv q (by omega))
      refine ⟨C', ?_, fun k k1 k2 => by rw [n1 k k1 k2, sC_n k1 k2], n2⟩
      rw [← e]
      unfold sC
      rw [ua_n (show 16 ≠ 13 by decide), ← e1, ← e2]
    · rw [if_pos (nI_lt (by omega) (by omega))]
      exact ⟨C, rfl, fun _ _ _ => rfl, fun q hq => hv q (by omega)⟩
theorem m_firstColumn {s : Nat} {fr sw : Bool} {mt : Nat → Nat → Bool} (h21 : mi 21 = nI s) (hs : s ≤ 1500) : ∃ C', b_X11_firstColumn_0 (mh y mi ml C E g) y = some (mh y mi ml C' E g) ∧ (∀ k, k < 13 ∨ 18 < k → C' k = C k) ∧ mCol C' s fr mt sw 0 := by
  obtain ⟨C', e, n1, n2⟩ := m_first2 (y := y) (mi := mi) (ml := ml) (E := E) (g := g) h21 hs zFuel 0 C (by omega) (zF_lt (by omega)) (fun q h => absurd h (Nat.not_lt_zero _))
  exact ⟨C', e, fun k hk => n1 k (by omega) (by omega), n2, fun h => absurd h (by decide)⟩
theorem m_loadP12 {p s : Nat} (hp : p < 8) (h21 : mi 21 = nI s) (hs : s ≤ 200) : ∀ (fuel r : Nat) (E : Nat → Nat → Int64), r ≤ s → s - r < fuel → (∀ q, q < r → E 10 q = E 5 (200 * p + q) ∧ E 11 q = E 6 (200 * p + q)) → ∃ E', b_X11_loadPattern_12 fuel (mh y mi ml C E g) y (nI p) (nI r) = some (mh y mi ml C E' g) ∧ (∀ k, k ≠ 10 → k ≠ 11 → E' k = E k) ∧ ∀ q, q < s → E' 10 q = E 5 (200 * p + q) ∧ E' 11 q = E 6 (200 * p + q) := by
  intro fuel
  induction fuel with
  | zero => intro r E _ h; omega
  | succ n ih =>
    intro r E hr hf hv
    unfold b_X11_loadPattern_12
    rw [mg_sets, Option.bind_some, h21]
    by_cases hrs : r < s
    · rw [if_neg (nI_ge hrs (by omega))]
      simp only [mr_rowLows, mr_rowHighs, mr_lows, mr_highs, Option.bind_some, show (200 : Int32) = nI 200 from rfl, pk_mul, nI_add, ml_lows (show 200 * p + r < 1600 by omega), ml_highs (show 200 * p + r < 1600 by omega), ms_rowLows (show r < 1500 by omega), ms_rowHighs (show r < 1500 by omega), nI_1]
      obtain ⟨E', e, n1, n2⟩ := ih (r + 1) _ (by omega) (by omega) (by
        intro q hq
        show (ub (ub E 10 (vp_updL (E 10) r (E 5 (200 * p + r)))) 11 (vp_updL ((ub E 10 (vp_updL (E 10) r (E 5 (200 * p + r)))) 11) r ((ub E 10 (vp_updL (E 10) r (E 5 (200 * p + r)))) 6 (200 * p + r)))) 10 q = (ub (ub E 10 (vp_updL (E 10) r (E 5 (200 * p + r)))) 11 (vp_updL ((ub E 10 (vp_updL (E 10) r (E 5 (200 * p + r)))) 11) r ((ub E 10 (vp_updL (E 10) r (E 5 (200 * p + r)))) 6 (200 * p + r)))) 5 (200 * p + q) ∧ (ub (ub E 10 (vp_updL (E 10) r (E 5 (200 * p + r)))) 11 (vp_updL ((ub E 10 (vp_updL (E 10) r (E 5 (200 * p + r)))) 11) r ((ub E 10 (vp_updL (E 10) r (E 5 (200 * p + r)))) 6 (200 * p + r)))) 11 q = (ub (ub E 10 (vp_updL (E 10) r (E 5 (200 * p + r)))) 11 (vp_updL ((ub E 10 (vp_updL (E 10) r (E 5 (200 * p + r)))) 11) r ((ub E 10 (vp_updL (E 10) r (E 5 (200 * p + r)))) 6 (200 * p + r)))) 6 (200 * p + q)
        simp only [ub_s, ub_n (show 10 ≠ 11 by decide), ub_n (show 5 ≠ 11 by decide), ub_n (show 5 ≠ 10 by decide), ub_n (show 6 ≠ 11 by decide), ub_n (show 6 ≠ 10 by decide), ub_n (show 11 ≠ 10 by decide)]
        by_cases hqr : q = r
        · subst hqr; exact ⟨pk_uLs, pk_uLs⟩
        · rw [pk_uLn hqr, pk_uLn hqr]; exact hv q (by omega))
      refine ⟨E', e, fun k k1 k2 => by rw [n1 k k1 k2, ub_n k2, ub_n k1], fun q hq => ?_⟩
      have := n2 q hq
      simp only [ub_n (show 5 ≠ 11 by decide), ub_n (show 5 ≠ 10 by decide), ub_n (show 6 ≠ 11 by decide), ub_n (show 6 ≠ 10 by decide)] at this
      exact this
    · rw [if_pos (nI_le (by omega) (by omega))]
      exact ⟨E, rfl, fun _ _ _ => rfl, fun q hq => hv q (by omega)⟩
theorem m_loadPattern {p s : Nat} (hp : p < 8) (h7 : C 7 p = nI s) (hs : s ≤ 200) : ∃ E', b_X11_loadPattern_0 (mh y mi ml C E g) y (nI p) = some (mh y (upd mi 21 (nI s)) ml C E' g) ∧ (∀ k, k ≠ 10 → k ≠ 11 → E' k = E k) ∧ ∀ q, q < s → E' 10 q = E 5 (200 * p + q) ∧ E' 11 q = E 6 (200 * p + q) := by
  obtain ⟨E', e, n1, n2⟩ := m_loadP12 (y := y) (mi := upd mi 21 (nI s)) (ml := ml) (C := C) (g := g) hp pk_us hs zFuel 0 E (by omega) (zF_lt (by omega)) (fun q h => absurd h (Nat.not_lt_zero _))
  refine ⟨E', ?_, n1, n2⟩
  unfold b_X11_loadPattern_0
  simp only [mr_setCount, Option.bind_some, ml_setCount hp, h7, mp_sets]
  exact e
theorem m_loadB9 {a m : Nat} (h23 : mi 23 = nI m) (hm : a + m ≤ 1500) : ∀ (fuel r : Nat) (C : Nat → Nat → Int32), r ≤ m → m - r < fuel → (∀ q, q < r → C 12 q = C 2 (a + q)) → ∃ C', b_X11_loadBytes_9 fuel (mh y mi ml C E g) y (nI a) (nI r) = some (mh y mi ml C' E g) ∧ (∀ k, k ≠ 12 → C' k = C k) ∧ ∀ q, q < m → C' 12 q = C 2 (a + q) := by
  intro fuel
  induction fuel with
  | zero => intro r C _ h; omega
  | succ n ih =>
    intro r C hr hf hv
    unfold b_X11_loadBytes_9
    rw [mg_many, Option.bind_some, h23]
    by_cases hrs : r < m
    · rw [if_neg (nI_ge hrs (by omega))]
      simp only [mr_bytes, mr_text, Option.bind_some, nI_add, ml_text (show a + r < 1500 by omega), ms_bytes (show r < 1500 by omega), nI_1]
      obtain ⟨C', e, n1, n2⟩ := ih (r + 1) (ua C 12 (upd (C 12) r (C 2 (a + r)))) (by omega) (by omega) (by
        intro q hq
        rw [ua_s, ua_n (show 2 ≠ 12 by decide)]
        by_cases hqr : q = r
        · subst hqr; exact pk_us
        · rw [pk_un hqr]; exact hv q (by omega))
      refine ⟨C', e, fun k k1 => by rw [n1 k k1, ua_n k1], fun q hq => ?_⟩
      rw [n2 q hq, ua_n (show 2 ≠ 12 by decide)]
    · rw [if_pos (nI_le (by omega) (by omega))]
      exact ⟨C, rfl, fun _ _ => rfl, fun q hq => hv q (by omega)⟩
theorem m_loadBytes {a b : Nat} (hab : a ≤ b) (hb : b ≤ 1500) : ∃ C', b_X11_loadBytes_0 (mh y mi ml C E g) y (nI a) (nI b) = some (mh y (upd mi 23 (nI (b - a))) ml C' E g) ∧ (∀ k, k ≠ 12 → C' k = C k) ∧ ∀ q, q < b - a → C' 12 q = C 2 (a + q) := by
  obtain ⟨C', e, n1, n2⟩ := m_loadB9 (y := y) (mi := upd mi 23 (nI (b - a))) (ml := ml) (E := E) (g := g) (a := a) (m := b - a) pk_us (by omega) zFuel 0 C (by omega) (zF_lt (by omega)) (fun q h => absurd h (Nat.not_lt_zero _))
  refine ⟨C', ?_, n1, n2⟩
  unfold b_X11_loadBytes_0
  rw [pk_sub hab, mp_many, Option.bind_some]
  exact e
theorem m_dist6 {s m : Nat} {sw : Bool} {mt : Nat → Nat → Bool} : ∀ (fuel j : Nat) (C : Nat → Nat → Int32), mLd mi C E s m sw mt → mCol C s false mt sw j → j ≤ m → m - j < fuel → ∃ C', b_X11_distance_6 fuel (mh y mi ml C E g) y (nI j) = some (nI (cs fC (fR false) mt sw m s), mh y mi ml C' E g) ∧ (∀ k, k < 13 ∨ 18 < k → C' k = C k) := by
  intro fuel
  induction fuel with
  | zero => intro r C _ _ _ h; omega
  | succ n ih =>
    intro j C hL hc hj hf
    obtain ⟨l1, l2, l3, l4, l5, l6⟩ := id hL
    unfold b_X11_distance_6
    rw [mg_many, Option.bind_some, l2]
    by_cases hjm : j < m
    · rw [if_neg (nI_ge hjm (by omega)), mis, Option.bind_some]
      obtain ⟨C1, e1, n1, n2⟩ := m_column (y := y) (ml := ml) (g := g) hL hjm hc
      rw [if_neg Bool.false_ne_true] at e1
      obtain ⟨C2, e2, n3⟩ := ih (j + 1) C1 (mLd_c hL (n1 12 (by decide))) n2 (by omega) (by omega)
      refine ⟨C2, ?_, fun k hk => by rw [n3 k hk, n1 k hk]⟩
      rw [e1, Option.bind_some, nI_1, e2]
    · obtain rfl : j = m := by omega
      rw [if_pos (nI_le (by omega) (by omega)), mr_cost, Option.bind_some, mg_sets, Option.bind_some, l1, ml_cost (by omega), Option.bind_some, (hc.1 s (Nat.le_refl _)).1]
      exact ⟨C, rfl, fun _ _ => rfl⟩
theorem m_distance {s m : Nat} {sw : Bool} {mt : Nat → Nat → Bool} (hL : mLd mi C E s m sw mt) : ∃ C', b_X11_distance_0 (mh y mi ml C E g) y = some (nI (cs fC (fR false) mt sw m s), mh y mi ml C' E g) ∧ (∀ k, k < 13 ∨ 18 < k → C' k = C k) := by
  obtain ⟨l1, l2, l3, l4, l5, l6⟩ := id hL
  obtain ⟨C1, e1, n1, n2⟩ := m_firstColumn (y := y) (mi := mi) (ml := ml) (C := C) (E := E) (g := g) (fr := false) (sw := sw) (mt := mt) l1 l4
  obtain ⟨C2, e2, n3⟩ := m_dist6 (y := y) (ml := ml) (g := g) zFuel 0 C1 (mLd_c hL (n1 12 (by decide))) n2 (by omega) (zF_lt (by omega))
  refine ⟨C2, ?_, fun k hk => by rw [n3 k hk, n1 k hk]⟩
  unfold b_X11_distance_0
  rw [mis, Option.bind_some, e1, Option.bind_some]
  exact e2
def gH (s k : Nat) (wb : Bool) (mt : Nat → Nat → Bool) (sw : Bool) (j : Nat) : Prop := vV fC (fR true) mt sw (j + 1) s / 2048 ≤ k ∧ (wb = true → 2047 - vV fC (fR true) mt sw (j + 1) s % 2048 ≤ j)
theorem m_fh6 {s m k : Nat} {sw wb : Bool} {mt : Nat → Nat → Bool} (hk : k ≤ 200) : ∀ (fuel j : Nat) (C : Nat → Nat → Int32), mLd mi C E s m sw mt → mCol C s true mt sw j → j ≤ m → m - j < fuel → (∀ q, q < j → ¬ gH s k wb mt sw q) → ∃ r C', b_X11_firstHit_6 fuel (mh y mi ml C E g) y (nI k) (if wb then 1 else 0) (nI j) = some (r, mh y mi ml C' E g) ∧ (∀ k, k < 13 ∨ 18 < k → C' k = C k) ∧ ((∃ e, e < m ∧ r = nI (e + 1) ∧ gH s k wb mt sw e ∧ (∀ q, q < e → ¬ gH s k wb mt sw q) ∧ mCol C' s true mt sw (e + 1)) ∨ (r = -1 ∧ ∀ q, q < m → ¬ gH s k wb mt sw q)) := by
  intro fuel
  induction fuel with
  | zero => intro r C _ _ _ h; omega
  | succ n ih =>
    intro j C hL hc hj hf hno
    obtain ⟨l1, l2, l3, l4, l5, l6⟩ := id hL
    unfold b_X11_firstHit_6
    rw [mg_many, Option.bind_some, l2]
    by_cases hjm : j < m
    · rw [if_neg (nI_ge hjm (by omega)), mis, Option.bind_some]
      obtain ⟨C1, e1, n1, n2⟩ := m_column (y := y) (ml := ml) (g := g) hL hjm hc
      rw [if_pos rfl] at e1
      rw [e1, Option.bind_some]
      have hb := cN_lt (fr := true) (mt := mt) (sw := sw) (j := j + 1) (i := s) (by omega) (by omega)
      simp only [mr_cost, mr_begin, Option.bind_some, mg_sets, l1, ml_cost (show s < 1501 by omega), ml_begin (show s < 1501 by omega), (n2.1 s (Nat.le_refl _)).1, (n2.1 s (Nat.le_refl _)).2]
      have go : ¬ gH s k wb mt sw j → ∃ r C', b_X11_firstHit_54 (b_X11_firstHit_6 n) (mh y mi ml C1 E g) y (nI k) (if wb then 1 else 0) (nI j) = some (r, mh y mi ml C' E g) ∧ (∀ k, k < 13 ∨ 18 < k → C' k = C k) ∧ ((∃ e, e < m ∧ r = nI (e + 1) ∧ gH s k wb mt sw e ∧ (∀ q, q < e → ¬ gH s k wb mt sw q) ∧ mCol C' s true mt sw (e + 1)) ∨ (r = -1 ∧ ∀ q, q < m → ¬ gH s k wb mt sw q)) := by
        intro hg
        obtain ⟨r, C2, e2, n3, n4⟩ := ih (j + 1) C1 (mLd_c hL (n1 12 (by decide))) n2 (by omega) (by omega) (by
          intro q hq
          by_cases hqj : q = j
          · subst hqj; exact hg
          · exact hno q (by omega))
        refine ⟨r, C2, ?_, fun k hk => by rw [n3 k hk, n1 k hk], n4⟩
        unfold b_X11_firstHit_54
        rw [nI_1]
        exact e2
      have yes : gH s k wb mt sw j → ∃ r C', b_X11_firstHit_50 (mh y mi ml C1 E g) (nI j) = some (r, mh y mi ml C' E g) ∧ (∀ k, k < 13 ∨ 18 < k → C' k = C k) ∧ ((∃ e, e < m ∧ r = nI (e + 1) ∧ gH s k wb mt sw e ∧ (∀ q, q < e → ¬ gH s k wb mt sw q) ∧ mCol C' s true mt sw (e + 1)) ∨ (r = -1 ∧ ∀ q, q < m → ¬ gH s k wb mt sw q)) := by
        intro hg
        refine ⟨nI (j + 1), C1, ?_, n1, Or.inl ⟨j, hjm, rfl, hg, hno, n2⟩⟩
        unfold b_X11_firstHit_50
        rw [nI_1]
      by_cases q1 : k < vV fC (fR true) mt sw (j + 1) s / 2048
      · rw [if_pos (show nI k < cN _ from nI_lt q1 (by omega))]
        exact go (fun h => by have := h.1; omega)
      · rw [if_neg (show ¬ nI k < cN _ from nI_nlt (by omega) (by omega))]
        by_cases hw : wb = true
        · rw [hw, if_pos rfl, if_neg (by decide)]
          rw [hw, if_pos rfl] at go
          rw [hw] at yes
          by_cases q2 : j < 2047 - vV fC (fR true) mt sw (j + 1) s % 2048
          · rw [if_pos (show nI j < bN _ from nI_lt q2 (by omega))]
            exact go (fun h => by have := h.2 rfl; omega)
          · rw [if_neg (show ¬ nI j < bN _ from nI_nlt (by omega) (by omega))]
            exact yes ⟨by omega, fun _ => by omega⟩
        · rw [if_neg hw, if_pos rfl]
          exact yes ⟨by omega, fun h => absurd h hw⟩
    · obtain rfl : j = m := by omega
      rw [if_pos (nI_le (by omega) (by omega))]
      exact ⟨-1, C, rfl, fun _ _ => rfl, Or.inr ⟨rfl, hno⟩⟩
theorem m_firstHit {s m k : Nat} {sw wb : Bool} {mt : Nat → Nat → Bool} (hk : k ≤ 200) (hL : mLd mi C E s m sw mt) : ∃ r C', b_X11_firstHit_0 (mh y mi ml C E g) y (nI k) (if wb then 1 else 0) = some (r, mh y mi ml C' E g) ∧ (∀ k, k < 13 ∨ 18 < k → C' k = C k) ∧ ((∃ e, e < m ∧ r = nI (e + 1) ∧ gH s k wb mt sw e ∧ (∀ q, q < e → ¬ gH s k wb mt sw q) ∧ mCol C' s true mt sw (e + 1)) ∨ (r = -1 ∧ ∀ q, q < m → ¬ gH s k wb mt sw q)) := by
  obtain ⟨l1, l2, l3, l4, l5, l6⟩ := id hL
  obtain ⟨C1, e1, n1, n2⟩ := m_firstColumn (y := y) (mi := mi) (ml := ml) (C := C) (E := E) (g := g) (fr := true) (sw := sw) (mt := mt) l1 l4
  obtain ⟨r, C2, e2, n3, n4⟩ := m_fh6 (y := y) (ml := ml) (g := g) (wb := wb) hk zFuel 0 C1 (mLd_c hL (n1 12 (by decide))) n2 (by omega) (zF_lt (by omega)) (fun q h => absurd h (Nat.not_lt_zero _))
  refine ⟨r, C2, ?_, fun k hk => by rw [n3 k hk, n1 k hk], n4⟩
  unfold b_X11_firstHit_0
  rw [mis, Option.bind_some, e1, Option.bind_some]
  exact e2
end MR
