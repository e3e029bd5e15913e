/-! FIND, the whole call -/
/-- the last step to i sets and j bytes, in the order of the document -/
def stp (D : Nat → Nat → Nat) (mt : Nat → Nat → Bool) (sw : Bool) (i j : Nat) : Nat :=
  if 0 < i ∧ 0 < j ∧ D (j - 1) (i - 1) + (if mt (i - 1) (j - 1) then 0 else 1) = D j i then (if mt (i - 1) (j - 1) then 0 else 1)
  else if swp mt sw (i - 1) (j - 1) = true ∧ D (j - 2) (i - 2) + 1 = D j i then 4
  else if 0 < j ∧ D (j - 1) i + 1 = D j i then 2 else 3
def wlk (D : Nat → Nat → Nat) (mt : Nat → Nat → Bool) (sw : Bool) : Nat → Nat → Nat → List Nat
  | 0, _, _ => []
  | f + 1, i, j => if i = 0 ∧ j = 0 then [] else stp D mt sw i j :: wlk D mt sw f (if stp D mt sw i j = 2 then i else if stp D mt sw i j = 4 then i - 2 else i - 1) (if stp D mt sw i j = 3 then j else if stp D mt sw i j = 4 then j - 2 else j - 1)
def wayL (s m : Nat) (mt : Nat → Nat → Bool) (sw : Bool) : List Nat := wlk (cs fC (fR false) mt sw) mt sw (s + m) s m
def wayX (si : Nat → Nat → Int32) (A : Nat → Nat → Int32) (w : List Nat) : Prop := si 77 1 = nI w.length ∧ ∀ q, q < w.length → A 78 q = nI (w.getD q 0)
def rHits (si : Nat → Nat → Int32) (A : Nat → Nat → Int32) (B : Nat → Nat → Int64) (mi : Nat → Int32) (C : Nat → Nat → Int32) (E : Nat → Nat → Int64) : Prop := ∃ c s n sw, c ≤ 1500 ∧ s ≤ 200 ∧ n ≤ 1500 ∧ si 74 2 = nI s ∧ mi 38 = nI s ∧ si 71 2 = bI sw ∧ mi 39 = bI sw ∧ si 72 1 = nI n ∧ rB (A 73) (C 22) n ∧ (∀ j, j < s → B 75 j = E 23 j ∧ B 76 j = E 24 j) ∧ hAr si A mi C s n sw (mtx (E 23) (E 24) (C 22)) c ∧ (si 71 3 = -1 ∨ ∃ t e b, t < c ∧ si 71 3 = nI t ∧ C 19 t = nI e ∧ C 21 t = nI b ∧ b ≤ e ∧ e ≤ n ∧ wayX si A (wayL s (e - b) (fun i q => mtx (E 23) (E 24) (C 22) i (b + q)) sw))
def rSx (si : Nat → Nat → Int32) (sq : Nat → Nat → Nat) : Prop := xC sq ∧ ∃ b, b < 127 ∧ si 53 10 = nI b
/-- numbers look only at what is loaded -/
theorem colV_mt {pr p2 : Nat → Nat} {fs s : Nat} {mc mc' sc sc' : Nat → Bool} (h1 : ∀ i, i < s → mc i = mc' i) (h2 : ∀ i, i < s → sc i = sc' i) : ∀ i, i ≤ s → colV pr p2 fs mc sc i = colV pr p2 fs mc' sc' i := by
  intro i
  induction i with
  | zero => intro _; rfl
  | succ i ih =>
    intro hi
    show min (min (if mc i then pr i else pr i + 2048) (pr (i + 1) + 2048)) (min (colV pr p2 fs mc sc i + 2048) (if sc i then p2 (i - 1) + 2048 else pr i + 2048)) = min (min (if mc' i then pr i else pr i + 2048) (pr (i + 1) + 2048)) (min (colV pr p2 fs mc' sc' i + 2048) (if sc' i then p2 (i - 1) + 2048 else pr i + 2048))
    rw [ih (by omega), h1 i (by omega), h2 i (by omega)]
theorem colV_pr {pr p2 pr' p2' : Nat → Nat} {fs s : Nat} {mc sc : Nat → Bool} (h1 : ∀ i, i ≤ s → pr i = pr' i) (h2 : ∀ i, i ≤ s → p2 i = p2' i) : ∀ i, i ≤ s → colV pr p2 fs mc sc i = colV pr' p2' fs mc sc i := by
  intro i
  induction i with
  | zero => intro _; rfl
  | succ i ih =>
    intro hi
    show min (min (if mc i then pr i else pr i + 2048) (pr (i + 1) + 2048)) (min (colV pr p2 fs mc sc i + 2048) (if sc i then p2 (i - 1) + 2048 else pr i + 2048)) = min (min (if mc i then pr' i else pr' i + 2048) (pr' (i + 1) + 2048)) (min (colV pr' p2' fs mc sc i + 2048) (if sc i then p2' (i - 1) + 2048 else pr' i + 2048))
    rw [ih (by omega), h1 i (by omega), h1 (i + 1) hi, h2 (i - 1) (by omega)]
theorem vV_mt {c0 r0 : Nat → Nat} {mt mt' : Nat → Nat → Bool} {sw : Bool} {s n : Nat} (h : ∀ i, i < s → ∀ j, j < n → mt i j = mt' i j) : ∀ j, j ≤ n → (∀ i, i ≤ s → vV c0 r0 mt sw j i = vV c0 r0 mt' sw j i) ∧ (∀ i, i ≤ s → (cV c0 r0 mt sw j).2 i = (cV c0 r0 mt' sw j).2 i) := by
  intro j
  induction j with
  | zero => intro _; exact ⟨fun _ _ => rfl, fun _ _ => rfl⟩
  | succ j ih =>
    intro hj
    obtain ⟨i1, i2⟩ := ih (by omega)
    refine ⟨fun i hi => ?_, i1⟩
    show colV (vV c0 r0 mt sw j) (cV c0 r0 mt sw j).2 (r0 (j + 1)) (fun i => mt i j) (fun i => swp mt sw i j) i = colV (vV c0 r0 mt' sw j) (cV c0 r0 mt' sw j).2 (r0 (j + 1)) (fun i => mt' i j) (fun i => swp mt' sw i j) i
    rw [colV_pr i1 i2 i hi]
    refine colV_mt (s := s) (fun i hi => h i hi j (by omega)) (fun i hi => ?_) i hi
    unfold swp
    rw [h i hi (j - 1) (by omega), h (i - 1) (by omega) j (by omega)]
theorem cs_mt {c0 r0 : Nat → Nat} {mt mt' : Nat → Nat → Bool} {sw : Bool} {s n j i : Nat} (h : ∀ i, i < s → ∀ j, j < n → mt i j = mt' i j) (hj : j ≤ n) (hi : i ≤ s) : cs c0 r0 mt sw j i = cs c0 r0 mt' sw j i := by
  unfold cs
  rw [(vV_mt h j hj).1 i hi]
theorem hAr_mt {si : Nat → Nat → Int32} {A : Nat → Nat → Int32} {mi : Nat → Int32} {C : Nat → Nat → Int32} {s n c : Nat} {sw : Bool} {mt mt' : Nat → Nat → Bool} (h : hAr si A mi C s n sw mt c) (he : ∀ i, i < s → ∀ j, j < n → mt i j = mt' i j) : hAr si A mi C s n sw mt' c := by
  refine ⟨h.1, h.2.1, fun q hq => ?_⟩
  obtain ⟨e, b, d, h1, h2, h3, h4, h5, h6, h7, h8, h9, h10⟩ := h.2.2 q hq
  refine ⟨e, b, d, h1, h2, h3, h4, h5, h6, h7, h8, h9, ?_⟩
  rw [← cs_mt (mt := fun i q => mt i (b + q)) (s := s) (n := e - b) (fun i hi j hj => he i hi (b + j) (by omega)) (Nat.le_refl _) (Nat.le_refl _)]
  exact h10
section OF
variable {x : Nat} {si : Nat → Nat → Int32} {sq : Nat → Nat → Nat} {sl : Nat → Nat → Int64} {A : Nat → Nat → Int32} {B : Nat → Nat → Int64} {g g2 : zh_H}
variable {y : Nat} {mi : Nat → Int32} {ml : Nat → Int64} {C : Nat → Nat → Int32} {E : Nat → Nat → Int64}
theorem x_isEdits_t {h : zh_H} {k : Nat} (hk : k ≤ 200) : b_X10_isEdits_0 h (nI k) = some (1, h) := by
  unfold b_X10_isEdits_0 b_X10_isEdits_16
  rw [if_neg (nI_pos (by omega)), if_neg (show ¬ (200 : Int32) < nI k from nI_nlt (a := 200) (b := k) hk (by decide)), zif_t (Or.inr rfl)]
theorem x_isEdits_f {h : zh_H} {k : Int32} (hk : ¬ (0 ≤ k ∧ k ≤ nI 200)) : b_X10_isEdits_0 h k = some (0, h) := by
  unfold b_X10_isEdits_0 b_X10_isEdits_15 b_X10_isEdits_16
  by_cases h1 : k < 0
  · rw [if_pos h1, zif_t (Or.inl rfl)]
  · rw [if_neg h1, if_pos (show (200 : Int32) < k from i_nle.mp (fun q => hk ⟨i_nlt.mp h1, q⟩)), zif_t (Or.inl rfl)]
theorem m_isEdits_t {h : zh_H} {k : Nat} (hk : k ≤ 200) : b_X11_isEdits_0 h (nI k) = some (1, h) := by
  unfold b_X11_isEdits_0
  rw [m_in_t (nI_pos' (by omega)) (show nI k ≤ (200 : Int32) from nI_le (b := 200) hk (by decide)), zbp_some, zif_t (Or.inr rfl)]
theorem m_isEdits_f {h : zh_H} {k : Int32} (hk : ¬ (0 ≤ k ∧ k ≤ nI 200)) : b_X11_isEdits_0 h k = some (0, h) := by
  unfold b_X11_isEdits_0
  rw [m_in_f (show ¬ ((0 : Int32) ≤ k ∧ k ≤ (200 : Int32)) from hk), zbp_some, zif_t (Or.inl rfl)]
theorem x_reset {P s n : Nat} {sw : Bool} (hP : isSet P) (hP2 : P < 44) (hs : si P 2 = nI s) (hs2 : s ≤ 200) (hsP : s ≤ slen P) (hn : si 3 1 = nI n) (hn2 : n ≤ 1500) : ∃ f1 f2, b_X2_reset_0 (xh x si sq sl A B g) (x + 71) (x + P) (x + 3) (bI sw) = some (xh x (u2 (u2 (u2 (u2 (u2 si 74 2 (nI s)) 72 1 (nI n)) 71 2 (bI sw)) 71 3 (-1)) 71 8 0) sq sl (ua A 73 (va_cpy (A 4) (A 73) 0 0 n)) (ub (ub B 75 f1) 76 f2) g) ∧ (∀ j, j < s → f1 j = B (P + 1) j) ∧ ∀ j, j < s → f2 j = B (P + 2) j := by
  have h74 : isSet 74 := by unfold isSet; omega
  have h72 : isRow 72 := by unfold isRow; omega
  obtain ⟨f1, f2, e1, e2, e3⟩ := x_scopy (x := x) (A := A) (g := g) (si := si) (sq := sq) (sl := sl) (B := B) h74 hP (Or.inr (by omega)) (show s ≤ slen 74 from hs2) hsP hs
  refine ⟨f1, f2, ?_, e2, e3⟩
  unfold b_X2_reset_0
  have c1 := x_copyFrom (x := x) (si := u2 si 74 2 (nI s)) (sq := sq) (sl := sl) (A := A) (B := ub (ub B 75 f1) 76 f2) (g := g) (o := 72) (t := 3) (m := n) h72 r31.1 (by decide) (by rw [u2_n (Or.inl (by decide))]; exact hn) (show n ≤ rlen 3 from hn2) (show n ≤ rlen 72 from hn2)
  simp only [xg_Ht_1, Option.bind_some, xs_is h74, e1, xg_Ht_0, xr_is h72, c1, xz_Ht_2 (bI_01 sw), xp_Ht_3, xp_Ht_8]
theorem m_find104 {k n : Nat} (h3 : mi 3 = nI n) (hn : n ≤ 1500) : ∀ (fuel r : Nat) (C : Nat → Nat → Int32), r ≤ n → n - r < fuel → (∀ q, q < r → C 22 q = C 2 q) → ∃ C', b_X11_find_104 fuel (mh y mi ml C E g) y (nI k) (nI r) = ((b_X11_firstColumn_0 (mh y mi ml C' E g) y).bind fun h3 => b_X11_find_140 zFuel h3 y (nI k) (0 : Int32)) ∧ (∀ q, q ≠ 22 → C' q = C q) ∧ ∀ q, q < n → C' 22 q = C 2 q := by
  intro fuel
  induction fuel with
  | zero => intro r C _ h; omega
  | succ f ih =>
    intro r C hr hf hv
    unfold b_X11_find_104
    rw [mg_textSize, Option.bind_some, h3]
    by_cases hrn : r < n
    · rw [if_neg (nI_ge hrn (by omega))]
      simp only [mr_hitText, mr_text, Option.bind_some, ml_text (show r < 1500 by omega), ms_hitText (show r < 1500 by omega), nI_1]
      obtain ⟨C', e, n1, n2⟩ := ih (r + 1) (ua C 22 (upd (C 22) r (C 2 r))) (by omega) (by omega) (by
        intro q hq
        rw [ua_s, ua_n (show 2 ≠ 22 by decide)]
        by_cases hqr : q = r
        · subst hqr; exact pk_us
        · rw [pk_un hqr]; exact hv q (by omega))
      refine ⟨C', e, fun q hq => by rw [n1 q hq, ua_n hq], fun q hq => ?_⟩
      rw [n2 q hq, ua_n (show 2 ≠ 22 by decide)]
    · rw [if_pos (nI_le (by omega) (by omega)), mis, Option.bind_some]
      exact ⟨C, rfl, fun _ _ => rfl, fun q hq => hv q (by omega)⟩
theorem m_find58 {k s : Nat} (h21 : mi 21 = nI s) (hs : s ≤ 200) : ∀ (fuel r : Nat) (E : Nat → Nat → Int64), r ≤ s → s - r < fuel → (∀ q, q < r → E 23 q = E 10 q ∧ E 24 q = E 11 q) → ∃ E', b_X11_find_58 fuel (mh y mi ml C E g) y (nI k) (nI r) = b_X11_find_104 zFuel (mh y mi ml C E' g) y (nI k) (nI 0) ∧ (∀ q, q ≠ 23 → q ≠ 24 → E' q = E q) ∧ ∀ q, q < s → E' 23 q = E 10 q ∧ E' 24 q = E 11 q := by
  intro fuel
  induction fuel with
  | zero => intro r E _ h; omega
  | succ f ih =>
    intro r E hr hf hv
    unfold b_X11_find_58
    rw [mg_sets, Option.bind_some, h21]
    by_cases hrn : r < s
    · rw [if_neg (nI_ge hrn (by omega))]
      simp only [mr_hitLows, mr_rowLows, mr_hitHighs, mr_rowHighs, Option.bind_some, ml_rowLows (show r < 1500 by omega), ml_rowHighs (show r < 1500 by omega), ms_hitLows (show r < 200 by omega), ms_hitHighs (show r < 200 by omega), nI_1, ub_n (show 11 ≠ 23 by decide), ub_n (show 24 ≠ 23 by decide)]
      obtain ⟨E', e, n1, n2⟩ := ih (r + 1) (ub (ub E 23 (vp_updL (E 23) r (E 10 r))) 24 (vp_updL (E 24) r (E 11 r))) (by omega) (by omega) (by
        intro q hq
        simp only [ub_s, ub_n (show 23 ≠ 24 by decide), ub_n (show 10 ≠ 24 by decide), ub_n (show 10 ≠ 23 by decide), ub_n (show 11 ≠ 24 by decide), ub_n (show 11 ≠ 23 by decide)]
        by_cases hqr : q = r
        · subst hqr; exact ⟨pk_uLs, pk_uLs⟩
        · rw [pk_uLn hqr, pk_uLn hqr]; exact hv q (by omega))
      refine ⟨E', e, fun q q1 q2 => by rw [n1 q q1 q2, ub_n q2, ub_n q1], fun q hq => ?_⟩
      have := n2 q hq
      simp only [ub_n (show 10 ≠ 24 by decide), ub_n (show 10 ≠ 23 by decide), ub_n (show 11 ≠ 24 by decide), ub_n (show 11 ≠ 23 by decide)] at this
      exact this
    · rw [if_pos (nI_le (by omega) (by omega))]
      exact ⟨E, rfl, fun _ _ _ => rfl, fun q hq => hv q (by omega)⟩
theorem mtx_n {lo hi : Nat → Int64} {t : Nat → Int32} {i j b : Nat} (h : t j = nI b) (hb : b < 127) : mtx lo hi t i j = hasB (lo i) (hi i) b := by
  unfold mtx
  rw [h, nI_clamp (by omega)]
theorem op_find (p k : Int32) (sw : Bool) (hX : rText si A mi C) (hP : rPats si B C E) (hS : rSx si sq) (hH : rHits si A B mi C E) : ∃ r si' sq' A' B' mi' C' E', b_X10_find_0 (xh x si sq sl A B g) x p k (bI sw) = some (r, xh x si' sq' sl A' B' g) ∧ b_X11_find_0 (mh y mi ml C E g2) y p k (bI sw) = some (r, mh y mi' ml C' E' g2) ∧ rSx si' sq' ∧ rHits si' A' B' mi' C' E' ∧ (∀ k j, k ≠ 53 → k ≠ 71 → k ≠ 72 → k ≠ 74 → si' k j = si k j) ∧ (∀ k j, k ≠ 53 → sq' k j = sq k j) ∧ (∀ k, (k < 57 ∨ 59 < k) → k ≠ 73 → (k < 79 ∨ 81 < k) → A' k = A k) ∧ (∀ k, k ≠ 75 → k ≠ 76 → B' k = B k) ∧ (∀ k, k ≠ 21 → k ≠ 23 → k ≠ 24 → k ≠ 31 → k ≠ 38 → k ≠ 39 → mi' k = mi k) ∧ (∀ k, k < 12 ∨ 22 < k → C' k = C k) ∧ (∀ k, k ≠ 10 → k ≠ 11 → k ≠ 23 → k ≠ 24 → E' k = E k) := by
  rcases pat_cases p hP with h | ⟨q, hq, rfl, s, hs, s1, s2, s3⟩
  · refine ⟨-2, si, sq, A, B, mi, C, E, ?_, ?_, hS, hH, fun _ _ _ _ _ _ => rfl, fun _ _ _ => rfl, fun _ _ _ _ => rfl, fun _ _ _ => rfl, fun _ _ _ _ _ _ _ => rfl, fun _ _ => rfl, fun _ _ _ _ _ => rfl⟩
    · unfold b_X10_find_0
      simp only [xo_EF, Option.bind_some, x_isPattern_f h, zbp_some, if_true]
      rfl
    · unfold b_X11_find_0
      simp only [mis, Option.bind_some, m_isThere_f h, zbp_some, if_true]
      rfl
  · by_cases h0 : s = 0
    · subst h0
      refine ⟨-2, si, sq, A, B, mi, C, E, ?_, ?_, hS, hH, fun _ _ _ _ _ _ => rfl, fun _ _ _ => rfl, fun _ _ _ _ => rfl, fun _ _ _ => rfl, fun _ _ _ _ _ _ _ => rfl, fun _ _ => rfl, fun _ _ _ _ _ => rfl⟩
      · unfold b_X10_find_0
        simp only [xo_EF, Option.bind_some, x_isPattern_0 hq s1, zbp_some, if_true]
        rfl
      · unfold b_X11_find_0
        simp only [mis, Option.bind_some, m_isThere_0 hq s2, zbp_some, if_true]
        rfl
    · rcases i_range (a := k) (n := 200) (by decide) with ⟨k, hk, rfl⟩ | hk
      · obtain ⟨n, hn, n1, n2, n3⟩ := hX
        -- the class
        obtain ⟨f1, f2, x1, x2, x3⟩ := x_reset (x := x) (sq := sq) (sl := sl) (A := A) (B := B) (g := g) (sw := sw) (set_p hq) (by omega) s1 hs (by rw [slen_p hq]; exact hs) n1 hn
        obtain ⟨si2, sq2, x4, x5, x6, x7⟩ := x_aim_s (x := x) (si := u2 (u2 (u2 (u2 (u2 si 74 2 (nI s)) 72 1 (nI n)) 71 2 (bI sw)) 71 3 (-1)) 71 8 0) (sq := sq) (sl := sl) (A := ua A 73 (va_cpy (A 4) (A 73) 0 0 n)) (B := ub (ub B 75 f1) 76 f2) (g := g) (P := 20 + 3 * q) (s := s) (k := k) (sw := sw) (set_p hq) (by
          rw [u2_n (Or.inl (by omega)), u2_n (Or.inl (by omega)), u2_n (Or.inl (by omega)), u2_n (Or.inl (by omega)), u2_n (Or.inl (by omega))]; exact s1) hs hS.1 (by
          rw [u2_n (Or.inl (by omega)), u2_n (Or.inl (by omega)), u2_n (Or.inl (by omega)), u2_n (Or.inl (by omega)), u2_n (Or.inl (by omega))]; exact hS.2)
        obtain ⟨si3, A3, x8, x9, x10⟩ := x_restart (x := x) (sl := sl) (A := ua A 73 (va_cpy (A 4) (A 73) 0 0 n)) (B := ub (ub B 75 f1) 76 f2) (g := g) (o := 0) (mtx (B (21 + 3 * q)) (B (22 + 3 * q)) (C 2)) hs hk (by omega) x5 x6
        have fxx := fX_t x7 x10
        -- the reference
        obtain ⟨E1, m1, m2, m3⟩ := m_loadPattern (y := y) (mi := mi) (ml := ml) (E := E) (g := g2) hq s2 hs
        obtain ⟨C1, m4, m5, m6⟩ := m_loadBytes (y := y) (mi := upd mi 21 (nI s)) (ml := ml) (C := C) (E := E1) (g := g2) (a := 0) (b := n) (by omega) hn
        let mi2 := upd (upd (upd (upd (upd (upd mi 21 (nI s)) 23 (nI (n - 0))) 24 (bI sw)) 31 0) 39 (bI sw)) 38 (nI s)
        have mi21 : mi2 21 = nI s := by
          show upd (upd (upd (upd (upd (upd mi 21 (nI s)) 23 (nI (n - 0))) 24 (bI sw)) 31 0) 39 (bI sw)) 38 (nI s) 21 = _
          rw [pk_un (by decide), pk_un (by decide), pk_un (by decide), pk_un (by decide), pk_un (by decide), pk_us]
        have mi23 : mi2 23 = nI n := by
          show upd (upd (upd (upd (upd (upd mi 21 (nI s)) 23 (nI (n - 0))) 24 (bI sw)) 31 0) 39 (bI sw)) 38 (nI s) 23 = _
          rw [pk_un (by decide), pk_un (by decide), pk_un (by decide), pk_un (by decide), pk_us]; rfl
        have mi24 : mi2 24 = bI sw := by
          show upd (upd (upd (upd (upd (upd mi 21 (nI s)) 23 (nI (n - 0))) 24 (bI sw)) 31 0) 39 (bI sw)) 38 (nI s) 24 = _
          rw [pk_un (by decide), pk_un (by decide), pk_un (by decide), pk_us]
        have mi31 : mi2 31 = nI 0 := by
          show upd (upd (upd (upd (upd (upd mi 21 (nI s)) 23 (nI (n - 0))) 24 (bI sw)) 31 0) 39 (bI sw)) 38 (nI s) 31 = _
          rw [pk_un (by decide), pk_un (by decide), pk_us]; rfl
        have mi39 : mi2 39 = bI sw := by
          show upd (upd (upd (upd (upd (upd mi 21 (nI s)) 23 (nI (n - 0))) 24 (bI sw)) 31 0) 39 (bI sw)) 38 (nI s) 39 = _
          rw [pk_un (by decide), pk_us]
        have mi38 : mi2 38 = nI s := pk_us
        have mio : ∀ f, f ≠ 21 → f ≠ 23 → f ≠ 24 → f ≠ 31 → f ≠ 38 → f ≠ 39 → mi2 f = mi f := by
          intro f a1 a2 a3 a4 a5 a6
          show upd (upd (upd (upd (upd (upd mi 21 (nI s)) 23 (nI (n - 0))) 24 (bI sw)) 31 0) 39 (bI sw)) 38 (nI s) f = _
          rw [pk_un a5, pk_un a6, pk_un a4, pk_un a3, pk_un a2, pk_un a1]
        obtain ⟨E2, m7, m8, m9⟩ := m_find58 (y := y) (mi := mi2) (ml := ml) (C := C1) (g := g2) (k := k) mi21 hs zFuel 0 E1 (by omega) (zF_lt (by omega)) (fun q h => absurd h (Nat.not_lt_zero _))
        obtain ⟨C2, m10, m11, m12⟩ := m_find104 (y := y) (mi := mi2) (ml := ml) (E := E2) (g := g2) (k := k) (n := n) ((mio 3 (by decide) (by decide) (by decide) (by decide) (by decide) (by decide)).trans n2) hn zFuel 0 C1 (by omega) (zF_lt (by omega)) (fun q h => absurd h (Nat.not_lt_zero _))
        obtain ⟨C3, m13, m14, m15⟩ := m_firstColumn (y := y) (mi := mi2) (ml := ml) (C := C2) (E := E2) (g := g2) (fr := true) (sw := sw) (mt := mtx (B (21 + 3 * q)) (B (22 + 3 * q)) (C 2)) mi21 (by omega)
        have hE10 : ∀ i, i < s → E2 10 i = B (21 + 3 * q) i ∧ E2 11 i = B (22 + 3 * q) i := by
          intro i hi
          rw [m8 10 (by decide) (by decide), m8 11 (by decide) (by decide), (m3 i hi).1, (m3 i hi).2, (s3 i hi).1, (s3 i hi).2]
          exact ⟨rfl, rfl⟩
        have hLd : mLd mi2 C3 E2 s n sw (mtx (B (21 + 3 * q)) (B (22 + 3 * q)) (C 2)) := by
          refine ⟨mi21, mi23, mi24, by omega, hn, fun j hj => ?_⟩
          obtain ⟨b, hb, hbt⟩ := okB_nat (n3 j hj).2
          refine ⟨b, hb, ?_, fun i hi => ?_⟩
          · rw [m14 12 (by decide), m11 12 (by decide), m6 j (by omega), Nat.zero_add, hbt]
          · rw [mtx_n hbt hb, (hE10 i hi).1, (hE10 i hi).2]
        have hArr : hAr si3 A3 mi2 C3 s n sw (mtx (B (21 + 3 * q)) (B (22 + 3 * q)) (C 2)) 0 := by
          refine ⟨?_, mi31, fun h hh => absurd hh (Nat.not_lt_zero _)⟩
          rw [fxx.1 71 8 (by decide), u2_s]; rfl
        have hB : ∀ i, ub (ub B 75 f1) 76 f2 (20 + 3 * q + 1) i = B (21 + 3 * q) i ∧ ub (ub B 75 f1) 76 f2 (20 + 3 * q + 2) i = B (22 + 3 * q) i := by
          intro i
          rw [ub_n (by omega), ub_n (by omega), ub_n (by omega), ub_n (by omega), show 20 + 3 * q + 1 = 21 + 3 * q by omega, show 20 + 3 * q + 2 = 22 + 3 * q by omega]
          exact ⟨rfl, rfl⟩
        obtain ⟨r, si', sq', A', mi', C', c', k1, k2, k3, k4, k5, k6, k7, k8, k9, k10, k11⟩ := find_lp (x := x) (sl := sl) (B := ub (ub B 75 f1) 76 f2) (g := g) (g2 := g2) (y := y) (ml := ml) (E := E2) (P := 20 + 3 * q) (s := s) (k := k) (n := n) (sw := sw) (mt := mtx (B (21 + 3 * q)) (B (22 + 3 * q)) (C 2)) (tx := C 2) (set_p hq) (by rw [slen_p hq]; exact hs) hs (by omega) hk hn (fun j hj => (n3 j hj).2) (by
          intro i hi j hj
          rw [(hB i).1, (hB i).2]
          rfl) n 0 zFuel zFuel 0 (min s k) si3 sq2 A3 mi2 C3 (by omega) (zF_lt (by omega)) (zF_lt (by omega)) (by omega) (by
          rw [fxx.1 3 1 (by decide), u2_n (Or.inl (by decide)), u2_n (Or.inl (by decide)), u2_n (Or.inl (by decide)), u2_n (Or.inl (by decide)), u2_n (Or.inl (by decide))]; exact n1) (by
          intro j hj
          rw [fxx.2.2 4 (by decide), ua_n (by decide)]
          exact (n3 j hj).1) x9 x6 hLd m15 hArr
        refine ⟨r, si', sq', A', ub (ub B 75 f1) 76 f2, mi', C', E2, ?_, ?_, ⟨k5, k6⟩, ?_, ?_, ?_, ?_, ?_, ?_, ?_, ?_⟩
        · unfold b_X10_find_0
          simp only [xo_EF, Option.bind_some, x_isPattern_t hq s1 (show 0 < s by omega) hs, zbp_some, if_neg (show ¬ (1 : Int32) = 0 by decide), x_isEdits_t hk, xg_EF_9, xg_EF_4, xpr hq, xg_EF_1, xo_Ht, x1, xg_EF_7, xo_Se]
          rw [show b_X6_aim_0 (xh x (u2 (u2 (u2 (u2 (u2 si 74 2 (nI s)) 72 1 (nI n)) 71 2 (bI sw)) 71 3 (-1)) 71 8 0) sq sl (ua A 73 (va_cpy (A 4) (A 73) 0 0 n)) (ub (ub B 75 f1) 76 f2) g) (x + 53) (x + (20 + 3 * q)) (nI k) (bI sw) = _ from x4]
          simp only [Option.bind_some, xg_EF_7, xo_Se]
          rw [show (0 : Int32) = nI 0 from rfl, x8, Option.bind_some]
          exact k1
        · unfold b_X11_find_0
          simp only [mis, Option.bind_some, m_isThere_t hq s2 (show 0 < s by omega) hs, zbp_some, if_neg (show ¬ (1 : Int32) = 0 by decide), m_isEdits_t hk, m1, mg_textSize, pk_un (show 3 ≠ 21 by decide), n2]
          rw [show (0 : Int32) = nI 0 from rfl, m4]
          simp only [Option.bind_some, mz_swapping (bI_01 sw), mp_hits, mz_hitSwaps (bI_01 sw), mg_sets, mp_hitSets]
          rw [show (upd (upd (upd (upd (upd mi 21 (nI s)) 23 (nI (n - 0))) 24 (bI sw)) 31 (nI 0)) 39 (bI sw)) 21 = nI s by rw [pk_un (by decide), pk_un (by decide), pk_un (by decide), pk_un (by decide), pk_us]]
          show b_X11_find_58 zFuel (mh y mi2 ml C1 E1 g2) y (nI k) (nI 0) = _
          rw [m7, m10, m13, Option.bind_some]
          exact k2
        · have hC2 : ∀ j, j < n → C' 22 j = C 2 j := by
            intro j hj
            rw [k11 22 (by decide), m14 22 (by decide), m12 j hj, m5 2 (by decide)]
          have hE : ∀ i, i < s → E2 23 i = B (21 + 3 * q) i ∧ E2 24 i = B (22 + 3 * q) i := by
            intro i hi
            rw [(m9 i hi).1, (m9 i hi).2, ← m8 10 (by decide) (by decide), ← m8 11 (by decide) (by decide)]
            exact hE10 i hi
          refine ⟨c', s, n, sw, by omega, hs, hn, ?_, ?_, ?_, ?_, ?_, ?_, ?_, ?_, Or.inl ?_⟩
          · rw [k7 74 2 (by decide) (by decide), fxx.1 74 2 (by decide), u2_n (Or.inl (by decide)), u2_n (Or.inl (by decide)), u2_n (Or.inl (by decide)), u2_n (Or.inl (by decide)), u2_s]
          · rw [k10 38 (by decide)]; exact mi38
          · rw [k7 71 2 (by decide) (by decide), fxx.1 71 2 (by decide), u2_n (Or.inr (by decide)), u2_n (Or.inr (by decide)), u2_s]
          · rw [k10 39 (by decide)]; exact mi39
          · rw [k7 72 1 (by decide) (by decide), fxx.1 72 1 (by decide), u2_n (Or.inl (by decide)), u2_n (Or.inl (by decide)), u2_n (Or.inl (by decide)), u2_s]
          · intro j hj
            rw [k9 73 (by decide) (by decide), fxx.2.2 73 (by decide), ua_s, pk_cpy_in (by omega) (by omega), hC2 j hj, Nat.sub_zero, Nat.zero_add]
            exact n3 j hj
          · intro j hj
            rw [ub_n (by decide), ub_s, ub_s, x2 j hj, x3 j hj, (hE j hj).1, (hE j hj).2, show 20 + 3 * q + 1 = 21 + 3 * q by omega, show 20 + 3 * q + 2 = 22 + 3 * q by omega]
            exact ⟨rfl, rfl⟩
          · refine hAr_mt k3 (fun i hi j hj => ?_)
            unfold mtx
            rw [hC2 j hj, (hE i hi).1, (hE i hi).2]
          · rw [k7 71 3 (by decide) (by decide), fxx.1 71 3 (by decide), u2_n (Or.inr (by decide)), u2_s]
        · intro f j h1 h2 h3 h4
          rw [k7 f j h1 (Or.inl h2), fxx.1 f j h1, u2_n (Or.inl h2), u2_n (Or.inl h2), u2_n (Or.inl h2), u2_n (Or.inl h3), u2_n (Or.inl h4)]
        · intro f j h1
          rw [k8 f j h1, x7.2.1 f j h1]
        · intro f h1 h2 h3
          rw [k9 f h1 h3, fxx.2.2 f h1, ua_n h2]
        · intro f h1 h2
          rw [ub_n h2, ub_n h1]
        · intro f h1 h2 h3 h4 h5 h6
          rw [k10 f h4, mio f h1 h2 h3 h4 h5 h6]
        · intro f h1
          rw [k11 f (by omega), m14 f (by omega), m11 f (by omega), m5 f (by omega)]
        · intro f h1 h2 h3 h4
          rw [m8 f h3 h4, m2 f h1 h2]
      · refine ⟨-2, si, sq, A, B, mi, C, E, ?_, ?_, hS, hH, fun _ _ _ _ _ _ => rfl, fun _ _ _ => rfl, fun _ _ _ _ => rfl, fun _ _ _ => rfl, fun _ _ _ _ _ _ _ => rfl, fun _ _ => rfl, fun _ _ _ _ _ => rfl⟩
        · unfold b_X10_find_0
          simp only [xo_EF, Option.bind_some, x_isPattern_t hq s1 (show 0 < s by omega) hs, zbp_some, if_neg (show ¬ (1 : Int32) = 0 by decide), x_isEdits_f hk, if_true]
          rfl
        · unfold b_X11_find_0
          simp only [mis, Option.bind_some, m_isThere_t hq s2 (show 0 < s by omega) hs, zbp_some, if_neg (show ¬ (1 : Int32) = 0 by decide), m_isEdits_f hk, if_true]
          rfl
end OF
