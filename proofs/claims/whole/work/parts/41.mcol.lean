/-! THE REFERENCE'S COLUMNS: a number's two halves stand in cost and begin -/
def cN (V : Nat) : Int32 := nI (V / 2048)
def bN (V : Nat) : Int32 := nI (2047 - V % 2048)
theorem cN_1 (V : Nat) : cN V + 1 = cN (V + 2048) := by
  unfold cN
  rw [nI_1, div_add]
theorem bN_1 (V : Nat) : bN (V + 2048) = bN V := by
  unfold bN
  rw [Nat.add_mod_right]
def sC (C : Nat → Nat → Int32) (i V : Nat) : Nat → Nat → Int32 := ua (ua C 13 (upd (C 13) i (cN V))) 16 (upd (C 16) i (bN V))
theorem sC_13 {C : Nat → Nat → Int32} {i V : Nat} : sC C i V 13 = upd (C 13) i (cN V) := by
  unfold sC
  rw [ua_n (by decide), ua_s]
theorem sC_16 {C : Nat → Nat → Int32} {i V : Nat} : sC C i V 16 = upd (C 16) i (bN V) := by
  unfold sC
  rw [ua_s]
theorem sC_n {C : Nat → Nat → Int32} {i V k : Nat} (h1 : k ≠ 13) (h2 : k ≠ 16) : sC C i V k = C k := by
  unfold sC
  rw [ua_n h2, ua_n h1]
theorem sC_sC {C : Nat → Nat → Int32} {i V W : Nat} : sC (sC C i V) i W = sC C i W := by
  funext k
  by_cases h1 : k = 13
  · subst h1; rw [sC_13, sC_13, sC_13, upd_upd]
  · by_cases h2 : k = 16
    · subst h2; rw [sC_16, sC_16, sC_16, upd_upd]
    · rw [sC_n h1 h2, sC_n h1 h2, sC_n h1 h2]
theorem sC_self {C : Nat → Nat → Int32} {i V : Nat} (h1 : C 13 i = cN V) (h2 : C 16 i = bN V) : sC C i V = C := by
  unfold sC
  rw [upd_self h1, upd_self h2, ua_self, ua_self]
/-- the numbers of the first column, and of the first row: free of edits or not -/
def fC (i : Nat) : Nat := i * 2048 + 2047
def fR (fr : Bool) (j : Nat) : Nat := if fr then 2047 - j else j * 2048 + 2047
theorem st_f (fr : Bool) : st0 fC (fR fr) := by
  unfold st0 fC fR
  refine ⟨?_, ?_, ?_⟩
  · cases fr <;> rfl
  · intro i; omega
  · intro j; cases fr <;> simp <;> omega
theorem cs_le {fr : Bool} {mt : Nat → Nat → Bool} {sw : Bool} (j i : Nat) : cs fC (fR fr) mt sw j i ≤ i + j := by
  induction j with
  | zero => unfold cs; rw [vV_0]; unfold fC; omega
  | succ j ih => have := cs_H2 (mt := mt) (sw := sw) (st_f fr) j i; omega
theorem cN_lt {fr : Bool} {mt : Nat → Nat → Bool} {sw : Bool} {j i : Nat} (hi : i ≤ 1501) (hj : j ≤ 1501) : vV fC (fR fr) mt sw j i / 2048 ≤ 3002 := by
  have := cs_le (fr := fr) (mt := mt) (sw := sw) j i
  unfold cs at this
  omega
section MC
variable {y : Nat} {mi : Nat → Int32} {ml : Nat → Int64} {C : Nat → Nat → Int32} {E : Nat → Nat → Int64} {g : zh_H}
theorem m_fits {i b : Nat} (hi : i < 1500) (hb : b < 127) : b_X11_fits_0 (mh y mi ml C E g) y (nI i) (nI b) = some (if hasB (E 10 i) (E 11 i) b then 1 else 0, mh y mi ml C E g) := by
  unfold b_X11_fits_0 hasB
  simp only [mr_rowHighs, mr_rowLows, Option.bind_some, ml_rowHighs hi, ml_rowLows hi]
  unfold b_X11_fits_28 b_X11_fits_40
  by_cases h64 : b < 64
  · rw [if_neg (show ¬ (64 : Int32) ≤ nI b from nI_ge (b := 64) h64 (by decide)), if_pos h64]
    by_cases h : bitL (E 10 i) b = true
    · rw [if_pos ((tstS h64).mpr h), if_pos h, zif_t (Or.inr rfl)]
    · rw [if_neg (fun q => h ((tstS h64).mp q)), if_neg h, zif_t (Or.inl rfl)]
  · rw [if_pos (show (64 : Int32) ≤ nI b from nI_le (a := 64) (by omega) (by omega)), if_neg h64, show nI b - (64 : Int32) = nI (b - 64) from pk_sub (b := 64) (by omega)]
    by_cases h : bitL (E 11 i) (b - 64) = true
    · rw [if_pos ((tstS (by omega)).mpr h), if_pos h, zif_t (Or.inr rfl)]
    · rw [if_neg (fun q => h ((tstS (by omega)).mp q)), if_neg h, zif_t (Or.inl rfl)]
theorem m_better {i V W : Nat} (hi : i < 1501) (hV : V / 2048 < 2 ^ 31) (hW : W / 2048 < 2 ^ 31) (h1 : C 13 i = cN V) (h2 : C 16 i = bN V) : b_X11_better_0 (mh y mi ml C E g) y (nI i) (cN W) (bN W) = some (mh y mi ml (sC C i (min V W)) E g) := by
  unfold b_X11_better_0 b_X11_better_44 b_X11_better_30
  simp only [mr_cost, mr_begin, Option.bind_some, ml_cost hi, ml_begin hi, ms_cost hi, ms_begin hi, h1, h2]
  have e : some (mh y mi ml (ua (ua C 13 (upd (C 13) i (cN W))) 16 (upd (ua C 13 (upd (C 13) i (cN W)) 16) i (bN W))) E g) = some (mh y mi ml (sC C i W) E g) := by
    unfold sC
    rw [ua_n (show 16 ≠ 13 by decide)]
  by_cases q1 : W / 2048 < V / 2048
  · rw [if_pos (show cN W < cN V from nI_lt q1 (by omega)), Nat.min_eq_right (by omega)]
    exact e
  · rw [if_neg (show ¬ cN W < cN V from nI_nlt (by omega) (by omega))]
    by_cases q2 : W / 2048 = V / 2048
    · rw [if_pos (show cN W = cN V by unfold cN; rw [q2])]
      by_cases q3 : 2047 - W % 2048 ≤ 2047 - V % 2048
      · rw [if_pos (show bN W ≤ bN V from nI_le q3 (by omega)), Nat.min_eq_left (by omega), sC_self h1 h2]
      · rw [if_neg (show ¬ bN W ≤ bN V from nI_ge (by omega) (by omega)), Nat.min_eq_right (by omega)]
        exact e
    · rw [if_neg (show ¬ cN W = cN V from fun q => q2 ((nI_eq hW hV).mp q)), Nat.min_eq_left (by omega), sC_self h1 h2]
/-- what is loaded: s sets, m bytes; mt tells which fit -/
def mLd (mi : Nat → Int32) (C : Nat → Nat → Int32) (E : Nat → Nat → Int64) (s m : Nat) (sw : Bool) (mt : Nat → Nat → Bool) : Prop := mi 21 = nI s ∧ mi 23 = nI m ∧ mi 24 = (if sw then 1 else 0) ∧ s ≤ 1500 ∧ m ≤ 1500 ∧ ∀ j, j < m → ∃ b, b < 127 ∧ C 12 j = nI b ∧ ∀ i, i < s → hasB (E 10 i) (E 11 i) b = mt i j
theorem mLd_c {s m : Nat} {sw : Bool} {mt : Nat → Nat → Bool} {C' : Nat → Nat → Int32} (h : mLd mi C E s m sw mt) (h2 : C' 12 = C 12) : mLd mi C' E s m sw mt := by
  unfold mLd
  rw [h2]
  exact h
theorem m_col142 {s m : Nat} {sw : Bool} {mt : Nat → Nat → Bool} {pr p2 : Nat → Nat} {i j vi : Nat} {k100 : zh_H → Nat → Int32 → Int32 → Option zh_H} (hL : mLd mi C E s m sw mt) (hj : j < m) (hi : i < s)
    (hp : ∀ q, q ≤ s → C 14 q = cN (pr q) ∧ C 17 q = bN (pr q)) (hp2 : 1 ≤ j → ∀ q, q ≤ s → C 15 q = cN (p2 q) ∧ C 18 q = bN (p2 q)) (hb1 : ∀ q, q ≤ s → pr q / 2048 < 10000) (hb2 : ∀ q, q ≤ s → p2 q / 2048 < 10000) (hbv : vi / 2048 < 10000) (hv : C 13 i = cN vi ∧ C 16 i = bN vi) :
    b_X11_column_142 k100 (mh y mi ml C E g) y (nI j) (nI (i + 1)) (if mt i j then 0 else 1) (C 14 i) (nI (i + 1)) (y + 13) = k100 (mh y mi ml (sC C (i + 1) (min (min (if mt i j then pr i else pr i + 2048) (pr (i + 1) + 2048)) (min (vi + 2048) (if swp mt sw i j then p2 (i - 1) + 2048 else pr i + 2048)))) E g) y (nI j) (nI (i + 2)) := by
  obtain ⟨l1, l2, l3, l4, l5, l6⟩ := id hL
  have hq1 := hp i (by omega)
  have hq2 := hp (i + 1) (by omega)
  have hc1 := hb1 i (by omega)
  have hc2 := hb1 (i + 1) (by omega)
  obtain ⟨b, hb, hbb, hbf⟩ := l6 j hj
  have e1 : C 14 i + (if mt i j then (0 : Int32) else 1) = cN (if mt i j then pr i else pr i + 2048) := by
    rw [hq1.1]
    split
    · exact nI_add _ 0
    · exact cN_1 _
  have e1b : bN (if mt i j then pr i else pr i + 2048) = C 17 i := by
    rw [hq1.2]
    split
    · rfl
    · exact bN_1 _
  have hV1 : (if mt i j then pr i else pr i + 2048) / 2048 < 10001 := by split <;> omega
  have esC : ∀ V, ua (ua C 13 (upd (C 13) (i + 1) (cN V))) 16 (upd (C 16) (i + 1) (bN V)) = sC C (i + 1) V := fun _ => rfl
  unfold b_X11_column_142
  rw [e1]
  rw [show nI (i + 1) - (1 : Int32) = nI i from nI_pred i]
  simp only [ms_cost (show i + 1 < 1501 by omega), Option.bind_some, mr_begin, mr_begin1, ml_begin1 (show i < 1501 by omega), ml_begin1 (show i + 1 < 1501 by omega), ms_begin (show i + 1 < 1501 by omega), mr_cost1, mis]
  simp only [ua_n (show 17 ≠ 13 by decide), ua_n (show 16 ≠ 13 by decide), ua_n (show 17 ≠ 16 by decide), ← e1b, esC]
  simp only [ml_cost1 (show i + 1 < 1501 by omega), sC_n (show 14 ≠ 13 by decide) (show 14 ≠ 16 by decide), sC_n (show 17 ≠ 13 by decide) (show 17 ≠ 16 by decide), Option.bind_some, hq2.1, hq2.2, cN_1]
  rw [← bN_1 (pr (i + 1)), m_better (show i + 1 < 1501 by omega) (V := if mt i j then pr i else pr i + 2048) (by omega) (by omega) (by rw [sC_13, pk_us]) (by rw [sC_16, pk_us]), sC_sC]
  simp only [Option.bind_some, mr_cost, mr_begin, ml_cost (show i < 1501 by omega), ml_begin (show i < 1501 by omega), mis]
  rw [sC_13, sC_16, pk_un (show i ≠ i + 1 by omega), pk_un (show i ≠ i + 1 by omega), hv.1, hv.2, cN_1, ← bN_1 vi, m_better (show i + 1 < 1501 by omega) (V := min (if mt i j then pr i else pr i + 2048) (pr (i + 1) + 2048)) (by omega) (by omega) (by rw [sC_13, pk_us]) (by rw [sC_16, pk_us]), sC_sC]
  simp only [Option.bind_some, mg_swapping, l3]
  have fin : ∀ V W, V = W → b_X11_column_273 k100 (mh y mi ml (sC C (i + 1) V) E g) y (nI j) (nI (i + 1)) = k100 (mh y mi ml (sC C (i + 1) W) E g) y (nI j) (nI (i + 2)) := by
    intro V W h
    subst h
    unfold b_X11_column_273
    rw [nI_1]
  have hno : swp mt sw i j = false → min (min (if mt i j = true then pr i else pr i + 2048) (pr (i + 1) + 2048)) (vi + 2048) = min (min (if mt i j = true then pr i else pr i + 2048) (pr (i + 1) + 2048)) (min (vi + 2048) (if swp mt sw i j = true then p2 (i - 1) + 2048 else pr i + 2048)) := by
    intro h
    rw [h, if_neg Bool.false_ne_true]
    split <;> omega
  by_cases hs : sw = true
  · rw [if_pos hs, if_neg (show ¬ (1 : Int32) = 0 by decide)]
    by_cases hi1 : 1 ≤ i
    · rw [if_neg (show ¬ nI (i + 1) ≤ (1 : Int32) from nI_ge (b := i + 1) (a := 1) (by omega) (by omega))]
      by_cases hj1 : 1 ≤ j
      · have hj' : ∃ b', b' < 127 ∧ C 12 (j - 1) = nI b' ∧ ∀ i, i < s → hasB (E 10 i) (E 11 i) b' = mt i (j - 1) := l6 (j - 1) (by omega)
        obtain ⟨b', hb', hbb', hbf'⟩ := hj'
        have hz := hp2 hj1 (i - 1) (by omega)
        have hzb := hb2 (i - 1) (by omega)
        rw [if_neg (nI_nle (by omega) (by omega))]
        rw [show nI (i + 1) - (2 : Int32) = nI (i - 1) from by rw [show (2 : Int32) = nI 2 from rfl, pk_sub (by omega)]; congr 1]
        rw [show nI j - (1 : Int32) = nI (j - 1) from nI_p (by omega)]
        simp only [mr_bytes, ml_bytes (show j < 1500 by omega), ml_bytes (show j - 1 < 1500 by omega), Option.bind_some, mis, sC_n (show 12 ≠ 13 by decide) (show 12 ≠ 16 by decide), hbb, hbb']
        rw [m_fits (show i - 1 < 1500 by omega) hb, zbp_some, hbf _ (by omega)]
        by_cases f1 : mt (i - 1) j = true
        · rw [if_pos f1, if_neg (show ¬ (1 : Int32) = 0 by decide)]
          simp only [mr_bytes, ml_bytes (show j - 1 < 1500 by omega), Option.bind_some, mis, sC_n (show 12 ≠ 13 by decide) (show 12 ≠ 16 by decide), hbb']
          rw [m_fits (show i < 1500 by omega) hb', zbp_some, hbf' _ (by omega)]
          by_cases f2 : mt i (j - 1) = true
          · rw [if_pos f2, if_neg (show ¬ (1 : Int32) = 0 by decide)]
            simp only [mr_cost2, mr_begin2, ml_cost2 (show i - 1 < 1501 by omega), ml_begin2 (show i - 1 < 1501 by omega), Option.bind_some, mis, sC_n (show 15 ≠ 13 by decide) (show 15 ≠ 16 by decide), sC_n (show 18 ≠ 13 by decide) (show 18 ≠ 16 by decide), hz.1, hz.2]
            rw [cN_1, ← bN_1 (p2 (i - 1)), m_better (show i + 1 < 1501 by omega) (V := min (min (if mt i j then pr i else pr i + 2048) (pr (i + 1) + 2048)) (vi + 2048)) (by omega) (by omega) (by rw [sC_13, pk_us]) (by rw [sC_16, pk_us]), sC_sC, Option.bind_some]
            refine fin _ _ ?_
            have : swp mt sw i j = true := by unfold swp; simp [hs, hi1, hj1, f1, f2]
            rw [if_pos this]
            omega
          · rw [if_neg f2, if_pos rfl]
            refine fin _ _ (hno ?_)
            unfold swp; simp [f2]
        · rw [if_neg f1, if_pos rfl]
          refine fin _ _ (hno ?_)
          unfold swp; simp [f1]
      · rw [if_pos (show nI j ≤ (0 : Int32) from nI_le (b := 0) (by omega) (by decide))]
        refine fin _ _ (hno ?_)
        unfold swp; simp [hj1]
    · rw [if_pos (show nI (i + 1) ≤ (1 : Int32) from nI_le (b := 1) (by omega) (by decide))]
      refine fin _ _ (hno ?_)
      unfold swp; simp [hi1]
  · rw [if_neg hs, if_pos rfl]
    refine fin _ _ (hno ?_)
    unfold swp; simp [hs]
/-- the loop over the rows of a column -/
theorem m_col100 {s m : Nat} {sw : Bool} {mt : Nat → Nat → Bool} {pr p2 : Nat → Nat} {j fs : Nat} (hj : j < m) (hb1 : ∀ q, q ≤ s → pr q / 2048 < 9000) (hb2 : ∀ q, q ≤ s → p2 q / 2048 < 9000) (hb3 : ∀ q, q ≤ s → colV pr p2 fs (fun i => mt i j) (fun i => swp mt sw i j) q / 2048 < 9000) : ∀ (fuel i : Nat) (C : Nat → Nat → Int32), mLd mi C E s m sw mt → (∀ q, q ≤ s → C 14 q = cN (pr q) ∧ C 17 q = bN (pr q)) → (1 ≤ j → ∀ q, q ≤ s → C 15 q = cN (p2 q) ∧ C 18 q = bN (p2 q)) → i ≤ s → s - i < fuel → (∀ q, q ≤ i → C 13 q = cN (colV pr p2 fs (fun i => mt i j) (fun i => swp mt sw i j) q) ∧ C 16 q = bN (colV pr p2 fs (fun i => mt i j) (fun i => swp mt sw i j) q)) → ∃ C', b_X11_column_100 fuel (mh y mi ml C E g) y (nI j) (nI (i + 1)) = some (mh y mi ml C' E g) ∧ (∀ k, k ≠ 13 → k ≠ 16 → C' k = C k) ∧ (∀ q, q ≤ s → C' 13 q = cN (colV pr p2 fs (fun i => mt i j) (fun i => swp mt sw i j) q) ∧ C' 16 q = bN (colV pr p2 fs (fun i => mt i j) (fun i => swp mt sw i j) q)) := by
  intro fuel
  induction fuel with
  | zero => intro i C _ _ _ _ h; omega
  | succ n ih =>
    intro i C hL hp hp2 hi hf hv
    obtain ⟨l1, l2, l3, l4, l5, l6⟩ := id hL
    unfold b_X11_column_100
    rw [mg_sets, Option.bind_some, l1]
    by_cases his : i < s
    · obtain ⟨b, hb, hbb, hbf⟩ := l6 j hj
      rw [if_neg (nI_nlt (by omega) (by omega))]
      rw [show nI (i + 1) - (1 : Int32) = nI i from nI_pred i]
      simp only [mr_cost, mr_cost1, ml_cost1 (show i < 1501 by omega), mr_bytes, ml_bytes (show j < 1500 by omega), Option.bind_some, mis, hbb]
      rw [m_fits (show i < 1500 by omega) hb, zbp_some, hbf i his]
      have key := m_col142 (y := y) (ml := ml) (g := g) (k100 := b_X11_column_100 n) hL hj his hp hp2 (fun q hq => by have := hb1 q hq; omega) (fun q hq => by have := hb2 q hq; omega) (by have := hb3 i hi; omega) (hv i (Nat.le_refl _))
      have e2 : (if (if mt i j = true then (1 : Int32) else 0) = (0 : Int32) then b_X11_column_142 (b_X11_column_100 n) (mh y mi ml C E g) y (nI j) (nI (i + 1)) 1 (C 14 i) (nI (i + 1)) (y + 13) else b_X11_column_142 (b_X11_column_100 n) (mh y mi ml C E g) y (nI j) (nI (i + 1)) 0 (C 14 i) (nI (i + 1)) (y + 13)) = b_X11_column_142 (b_X11_column_100 n) (mh y mi ml C E g) y (nI j) (nI (i + 1)) (if mt i j then 0 else 1) (C 14 i) (nI (i + 1)) (y + 13) := by
        cases mt i j <;> rfl
      rw [e2, key]
      obtain ⟨C', e, n1, n2⟩ := ih (i + 1) (sC C (i + 1) (colV pr p2 fs (fun i => mt i j) (fun i => swp mt sw i j) (i + 1))) (mLd_c hL (sC_n (by decide) (by decide))) (by rw [sC_n (by decide) (by decide), sC_n (by decide) (by decide)]; exact hp) (by rw [sC_n (by decide) (by decide), sC_n (by decide) (by decide)]; exact hp2) (by omega) (by omega) (by
        intro q hq
        rw [sC_13, sC_16]
        by_cases hqi : q = i + 1
        · subst hqi
          exact ⟨pk_us, pk_us⟩
        · rw [pk_un hqi, pk_un hqi]
          exact hv q (by omega))
      exact ⟨C', e, fun k k1 k2 => by rw [n1 k k1 k2, sC_n k1 k2], n2⟩
    · rw [if_pos (nI_lt (by omega) (by omega))]
      refine ⟨C, rfl, fun _ _ _ => rfl, fun q hq => hv q (by omega)⟩
end MC
