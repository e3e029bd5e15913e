/-! NEAREST -/
theorem cs_free_le {mt : Nat → Nat → Bool} {sw : Bool} (j : Nat) : ∀ i, vV fC (fR true) mt sw j i / 2048 ≤ i := by
  intro i
  induction i with
  | zero =>
    have := cs_r (mt := mt) (sw := sw) (j := j) (st_f true)
    have h2 : fR true j / 2048 = 0 := by unfold fR; rw [if_pos rfl]; omega
    unfold cs at this
    omega
  | succ i ih =>
    have := cs_V2 (mt := mt) (sw := sw) (st_f true) j i
    unfold cs at this
    omega
section NE
variable {x : Nat} {si : Nat → Nat → Int32} {sq : Nat → Nat → Nat} {sl : Nat → Nat → Int64} {A : Nat → Nat → Int32} {B : Nat → Nat → Int64} {g g2 : zh_H}
variable {y : Nat} {mi : Nat → Int32} {ml : Nat → Int64} {C : Nat → Nat → Int32} {E : Nat → Nat → Int64}
theorem xS_k {P s k k' o j T : Nat} {sw : Bool} {mt : Nat → Nat → Bool} (h : xS si sq A B P s k o sw mt j T) (hk : k' ≤ k) : xS (u2 si 53 2 (nI k')) sq A B P s k' o sw mt j T := by
  obtain ⟨a1, a2, a3, a4, a7, a8, a9, ⟨lb, hlb, a10, alb⟩, tT, i1, i2, i4⟩ := h
  refine ⟨a1, ?_, u2_s, ?_, ?_, ?_, ?_, ⟨lb, hlb, ?_, alb⟩, tT, fun i h1 h2 => Nat.lt_of_le_of_lt hk (i1 i h1 h2), fun i h1 h2 => ag_down (i2 i h1 h2) hk, fun h i h1 => ag_down (i4 h i h1) hk⟩ <;> rw [u2_n (Or.inr (by decide))] <;> assumption
theorem x_tighten {v : Int32} : b_X6_tighten_0 (xh x si sq sl A B g) (x + 53) v = some (xh x (u2 si 53 2 v) sq sl A B g) := by
  unfold b_X6_tighten_0
  rw [xp_Se_2, Option.bind_some]
theorem m_near0 {s n : Nat} {sw : Bool} {mt : Nat → Nat → Bool} {what mw : Int32} : ∀ (d j fm : Nat) (C : Nat → Nat → Int32), j + d = n → d < fm → mLd mi C E s n sw mt → mCol C s true mt sw j → ∃ C', b_X11_nearest_63 fm (mh y mi ml C E g2) y what 0 mw (nI j) = some (if what = 0 then 0 else mw, mh y mi ml C' E g2) ∧ ∀ k, k < 13 ∨ 18 < k → C' k = C k := by
  intro d
  induction d with
  | zero =>
    intro j fm C hj hfm hL hM
    obtain ⟨fm, rfl⟩ : ∃ f, fm = f + 1 := ⟨fm - 1, by omega⟩
    refine ⟨C, ?_, fun _ _ => rfl⟩
    have := hL.2.2.2.2.1
    unfold b_X11_nearest_63 b_X11_nearest_127
    rw [mg_many, Option.bind_some, hL.2.1, if_pos (nI_le (by omega) (by omega))]
    split <;> rfl
  | succ d ih =>
    intro j fm C hj hfm hL hM
    obtain ⟨fm, rfl⟩ : ∃ f, fm = f + 1 := ⟨fm - 1, by omega⟩
    obtain ⟨C1, e2, n1, hM1⟩ := m_column (y := y) (ml := ml) (g := g2) hL (show j < n by omega) hM
    rw [if_pos rfl] at e2
    have hn := hL.2.2.2.2.1
    have hs := hL.2.2.2.1
    have hbd := cN_lt (fr := true) (mt := mt) (sw := sw) (j := j + 1) (i := s) (by omega) (by omega)
    obtain ⟨C', e, k1⟩ := ih (j + 1) fm C1 (by omega) (by omega) (mLd_c hL (n1 12 (by decide))) hM1
    refine ⟨C', ?_, fun k hk => by rw [k1 k hk, n1 k hk]⟩
    unfold b_X11_nearest_63 b_X11_nearest_110
    simp only [mg_many, Option.bind_some, hL.2.1, if_neg (show ¬ nI n ≤ nI j from nI_ge (by omega) (by omega)), mis, e2, mr_cost, mg_sets, hL.1, ml_cost (show s < 1501 by omega), (hM1.1 s (Nat.le_refl _)).1, if_pos (show (0 : Int32) ≤ cN (vV fC (fR true) mt sw (j + 1) s) from nI_pos' (by omega)), nI_1]
    exact e
theorem near_lp {P s n : Nat} {sw : Bool} {mt : Nat → Nat → Bool} {tx : Nat → Int32} {what : Int32} (hP : isSet P) (hsP : s ≤ slen P) (hs : s ≤ 200) (hs1 : 1 ≤ s) (hn : n ≤ 1500) (hn1 : 1 ≤ n) (htx : ∀ q, q < n → okB (tx q)) (hmt : ∀ i, i < s → ∀ q, q < n → hasB (B (P + 1) i) (B (P + 2) i) (tx q).toNatClampNeg = mt i q) : ∀ (d j fx fm k L T : Nat) (xl xw mw : Int32) (si : Nat → Nat → Int32) (sq : Nat → Nat → Nat) (A : Nat → Nat → Int32) (C : Nat → Nat → Int32), j + d = n → d < fx → d < fm → k ≤ 200 → ((j = 0 ∧ L = 10000 ∧ k = s ∧ xl = -1) ∨ (L = k + 1 ∧ xl = nI L ∧ xw = mw ∧ 1 ≤ j)) → si 3 1 = nI n → (∀ q, q < n → A 4 q = tx q) → xS si sq A B P s k 0 sw mt j T → xC sq → mLd mi C E s n sw mt → mCol C s true mt sw j → ∃ r si' sq' A' C', b_X10_nearest_60 fx (xh x si sq sl A B g) x what xl xw (nI (j + 1)) = some (r, xh x si' sq' sl A' B g) ∧ b_X11_nearest_63 fm (mh y mi ml C E g2) y what (nI L) mw (nI j) = some (r, mh y mi ml C' E g2) ∧ rSx si' sq' ∧ fX si si' sq sq' A A' ∧ (∀ k, k < 13 ∨ 18 < k → C' k = C k) := by
  intro d
  induction d with
  | zero =>
    intro j fx fm k L T xl xw mw si sq A C hj hfx hfm hk hcase h3 hA hS hC hL hM
    obtain ⟨fx, rfl⟩ : ∃ f, fx = f + 1 := ⟨fx - 1, by omega⟩
    obtain ⟨fm, rfl⟩ : ∃ f, fm = f + 1 := ⟨fm - 1, by omega⟩
    rcases hcase with ⟨h, -⟩ | ⟨hL', rfl, rfl, -⟩
    · omega
    · refine ⟨if what = 0 then nI L else xw, si, sq, A, C, ?_, ?_, ⟨hC, (xS_a hS).2.2.2.2⟩, fX_r, fun _ _ => rfl⟩
      · unfold b_X10_nearest_60 b_X10_nearest_135 b_X10_nearest_146
        simp only [xg_EF_1, Option.bind_some, xr_g r31.1, h3, if_pos (show nI n < nI (j + 1) from nI_lt (by omega) (by omega))]
        split <;> rfl
      · unfold b_X11_nearest_63 b_X11_nearest_127
        simp only [mg_many, Option.bind_some, hL.2.1, if_pos (show nI n ≤ nI j from nI_le (by omega) (by omega))]
        split <;> rfl
  | succ d ih =>
    intro j fx fm k L T xl xw mw si sq A C hj hfx hfm hk hcase h3 hA hS hC hL hM
    obtain ⟨fx, rfl⟩ : ∃ f, fx = f + 1 := ⟨fx - 1, by omega⟩
    obtain ⟨fm, rfl⟩ : ∃ f, fm = f + 1 := ⟨fm - 1, by omega⟩
    obtain ⟨b, hb, hbt⟩ := okB_nat (htx j (by omega))
    have hbn : (tx j).toNatClampNeg = b := by rw [hbt]; exact nI_clamp (by omega)
    obtain ⟨si1, sq1, A1, T1, e1, hS1, hC1, f1, hit1, hit2⟩ := x_feed (x := x) (sl := sl) (g := g) hP hsP hs hs1 hk (show 0 + j < 1500 by omega) hS hC hb (fun q hq => by rw [← hbn]; exact hmt q hq j (by omega))
    obtain ⟨C1, e2, n1, hM1⟩ := m_column (y := y) (ml := ml) (g := g2) hL (show j < n by omega) hM
    rw [if_pos rfl] at e2
    rw [v0 (by omega)] at hit1 hit2
    have hL1 : mLd mi C1 E s n sw mt := mLd_c hL (n1 12 (by decide))
    have hfl := cs_free_le (mt := mt) (sw := sw) (j + 1) s
    have h31 : si1 3 1 = nI n := by rw [f1.1 3 1 (by decide)]; exact h3
    have hA1 : ∀ q, q < n → A1 4 q = tx q := by rw [f1.2.2 4 (by decide)]; exact hA
    have hxl : ¬ xl = (0 : Int32) := by
      rcases hcase with ⟨-, -, -, rfl⟩ | ⟨h, rfl, -⟩
      · decide
      · exact nI_ne0 (by omega) (by omega)
    have ex0 : b_X10_nearest_60 (fx + 1) (xh x si sq sl A B g) x what xl xw (nI (j + 1)) = zbp (b_X6_isHit_0 (xh x si1 sq1 sl A1 B g) (x + 53)) fun v13 h12 => if v13 = (0 : Int32) then b_X10_nearest_129 (b_X10_nearest_60 fx) h12 (x) (what) (xl) (xw) (nI (j + 1)) else (gR h12 x 10 7).bind fun a14 => (isO h12 a14 6).bind fun o15 => zbp (b_X6_edits_0 h12 a14 ) fun v17 h16 => (gR h16 x 10 7).bind fun a18 => (isO h16 a18 6).bind fun o19 => (b_X6_tighten_0 h16 a18 (v17 - (1 : Int32))).bind fun h20 => b_X10_nearest_129 (b_X10_nearest_60 fx) h20 (x) (what) (v17) (nI (j + 1)) (nI (j + 1)) := by
      conv => lhs; unfold b_X10_nearest_60
      simp only [xg_EF_1, Option.bind_some, xr_g r31.1, h3, if_neg (show ¬ nI n < nI (j + 1) from nI_nlt (by omega) (by omega)), if_neg hxl, xg_EF_7, xr_is r31.1, show nI (j + 1) - (1 : Int32) = nI j from nI_pred j, x_get r31.1 h3 (show j < n by omega) (show n ≤ rlen 3 from hn), zbp_some, hA j (by omega), hbt, xo_Se, e1]
    have em0 : b_X11_nearest_63 (fm + 1) (mh y mi ml C E g2) y what (nI L) mw (nI j) = if nI L ≤ cN (vV fC (fR true) mt sw (j + 1) s) then b_X11_nearest_110 (b_X11_nearest_63 fm) (mh y mi ml C1 E g2) y what (nI L) mw (nI j) else b_X11_nearest_110 (b_X11_nearest_63 fm) (mh y mi ml C1 E g2) y what (cN (vV fC (fR true) mt sw (j + 1) s)) (nI (j + 1)) (nI j) := by
      conv => lhs; unfold b_X11_nearest_63
      simp only [mg_many, Option.bind_some, hL.2.1, if_neg (show ¬ nI n ≤ nI j from nI_ge (by omega) (by omega)), mis, e2, mr_cost, mg_sets, hL.1, ml_cost (show s < 1501 by omega), (hM1.1 s (Nat.le_refl _)).1, nI_1]
    rw [ex0, em0, x_isHit hs hS1, zbp_some]
    by_cases hT : T1 = s
    · have hv := hit1.mp hT
      have hval := hit2 hT
      have hbd2 : vV fC (fR true) mt sw (j + 1) s < 2 ^ 31 := by omega
      obtain ⟨s1, s2⟩ := x_edits (x := x) (si := si1) (sq := sq1) (sl := sl) (A := A1) (B := B) (g := g) hs hS1.2.1 hC1 hval hbd2
      have hlt : vV fC (fR true) mt sw (j + 1) s / 2048 < L := by omega
      rw [if_pos hT, if_neg (by decide), if_neg (show ¬ nI L ≤ cN _ from nI_ge hlt (by omega))]
      simp only [xg_EF_7, Option.bind_some, xo_Se, s1, zbp_some, x_tighten]
      unfold b_X10_nearest_129 b_X11_nearest_110
      rw [nI_1, nI_1]
      by_cases h0 : vV fC (fR true) mt sw (j + 1) s / 2048 = 0
      · obtain ⟨C', e, k1⟩ := m_near0 (y := y) (ml := ml) (g2 := g2) (what := what) (mw := nI (j + 1)) d (j + 1) fm C1 (by omega) (by omega) hL1 hM1
        refine ⟨if what = 0 then 0 else nI (j + 1), u2 si1 53 2 (nI (vV fC (fR true) mt sw (j + 1) s / 2048) - 1), sq1, A1, C', ?_, ?_, ⟨hC1, ?_⟩, ?_, fun k hk => by rw [k1 k hk, n1 k hk]⟩
        · rw [h0]
          obtain ⟨fx, rfl⟩ : ∃ f, fx = f + 1 := ⟨fx - 1, by omega⟩
          unfold b_X10_nearest_60 b_X10_nearest_135 b_X10_nearest_146
          simp only [xg_EF_1, Option.bind_some, show nI 0 = (0 : Int32) from rfl, if_true, ite_self, xr_g r31.1]
          split <;> rfl
        · unfold cN
          rw [h0]
          exact e
        · rw [u2_n (Or.inr (by decide))]
          exact (xS_a hS1).2.2.2.2
        · exact ⟨fun q f hq => by rw [u2_n (Or.inl hq), f1.1 q f hq], f1.2.1, f1.2.2⟩
      · rw [nI_p (by omega)]
        obtain ⟨r, si', sq', A', C', k1, k2, k3, k4, k5⟩ := ih (j + 1) fx fm (vV fC (fR true) mt sw (j + 1) s / 2048 - 1) (vV fC (fR true) mt sw (j + 1) s / 2048) T1 (nI (vV fC (fR true) mt sw (j + 1) s / 2048)) (nI (j + 1)) (nI (j + 1)) _ sq1 A1 C1 (by omega) (by omega) (by omega) (by omega) (Or.inr ⟨by omega, rfl, rfl, by omega⟩) (by rw [u2_n (Or.inl (by decide))]; exact h31) hA1 (xS_k hS1 (by omega)) hC1 hL1 hM1
        refine ⟨r, si', sq', A', C', k1, k2, k3, ?_, fun k hk => by rw [k5 k hk, n1 k hk]⟩
        exact fX_t (si' := u2 si1 53 2 (nI (vV fC (fR true) mt sw (j + 1) s / 2048 - 1))) ⟨fun q f hq => by rw [u2_n (Or.inl hq), f1.1 q f hq], f1.2.1, f1.2.2⟩ k4
    · have hv : ¬ vV fC (fR true) mt sw (j + 1) s / 2048 ≤ k := fun h => hT (hit1.mpr h)
      have hge : L ≤ vV fC (fR true) mt sw (j + 1) s / 2048 := by omega
      rw [if_neg hT, if_pos rfl, if_pos (show nI L ≤ cN _ from nI_le hge (by omega))]
      unfold b_X10_nearest_129 b_X11_nearest_110
      rw [nI_1, nI_1]
      obtain ⟨r, si', sq', A', C', k1, k2, k3, k4, k5⟩ := ih (j + 1) fx fm k L T1 xl xw mw si1 sq1 A1 C1 (by omega) (by omega) (by omega) hk (by
        rcases hcase with ⟨-, -, h, -⟩ | ⟨h1, h2, h3, -⟩
        · omega
        · exact Or.inr ⟨h1, h2, h3, by omega⟩) h31 hA1 hS1 hC1 hL1 hM1
      exact ⟨r, si', sq', A', C', k1, k2, k3, fX_t f1 k4, fun k hk => by rw [k5 k hk, n1 k hk]⟩
theorem op_nearest (p what : Int32) (sw : Bool) (hX : rText si A mi C) (hP : rPats si B C E) (hS : rSx si sq) : ∃ r si' sq' A' mi' C' E', b_X10_nearest_0 (xh x si sq sl A B g) x p (bI sw) what = some (r, xh x si' sq' sl A' B g) ∧ b_X11_nearest_0 (mh y mi ml C E g2) y p (bI sw) what = some (r, mh y mi' ml C' E' g2) ∧ rSx si' sq' ∧ fX si si' sq sq' A A' ∧ (∀ k, k ≠ 21 → k ≠ 23 → k ≠ 24 → mi' k = mi k) ∧ (∀ k, k < 12 ∨ 18 < k → C' k = C k) ∧ (∀ k, k ≠ 10 → k ≠ 11 → E' k = E k) := by
  rcases pat_cases p hP with h | ⟨q, hq, rfl, s, hs, s1, s2, s3⟩
  · refine ⟨-2, si, sq, A, mi, C, E, ?_, ?_, hS, fX_r, fun _ _ _ _ => rfl, fun _ _ => rfl, fun _ _ _ => rfl⟩
    · unfold b_X10_nearest_0
      simp only [xo_EF, Option.bind_some, x_isPattern_f h, zbp_some, if_true]
      rfl
    · unfold b_X11_nearest_0
      simp only [mis, Option.bind_some, m_isThere_f h, zbp_some, if_true]
      rfl
  · by_cases h0 : s = 0
    · subst h0
      refine ⟨-2, si, sq, A, mi, C, E, ?_, ?_, hS, fX_r, fun _ _ _ _ => rfl, fun _ _ => rfl, fun _ _ _ => rfl⟩
      · unfold b_X10_nearest_0
        simp only [xo_EF, Option.bind_some, x_isPattern_0 hq s1, zbp_some, if_true]
        rfl
      · unfold b_X11_nearest_0
        simp only [mis, Option.bind_some, m_isThere_0 hq s2, zbp_some, if_true]
        rfl
    · by_cases hw : (0 : Int32) ≤ what ∧ what ≤ (1 : Int32)
      · obtain ⟨n, hn, n1, n2, n3⟩ := hX
        obtain ⟨si2, sq2, x4, x5, x6, x7⟩ := x_aim_s (x := x) (si := si) (sq := sq) (sl := sl) (A := A) (B := B) (g := g) (P := 20 + 3 * q) (s := s) (k := s) (sw := sw) (set_p hq) s1 hs hS.1 hS.2
        obtain ⟨si3, A3, x8, x9, x10⟩ := x_restart (x := x) (sl := sl) (A := A) (B := B) (g := g) (o := 0) (mtx (B (21 + 3 * q)) (B (22 + 3 * q)) (C 2)) hs hs (by omega) x5 x6
        have fxx := fX_t x7 x10
        have ex : b_X10_nearest_0 (xh x si sq sl A B g) x (nI q) (bI sw) what = b_X10_nearest_60 zFuel (xh x si3 sq2 sl A3 B g) x what (-1) (-1) (nI (0 + 1)) := by
          unfold b_X10_nearest_0
          simp only [xo_EF, Option.bind_some, x_isPattern_t hq s1 (show 0 < s by omega) hs, zbp_some, if_neg (show ¬ (1 : Int32) = 0 by decide), if_neg (i_nlt.mpr hw.1), if_pos hw.2, xg_EF_4, xpr hq, xs_g (set_p hq), s1, xg_EF_7, xo_Se]
          rw [show b_X6_aim_0 (xh x si sq sl A B g) (x + 53) (x + (20 + 3 * q)) (nI s) (bI sw) = _ from x4]
          simp only [Option.bind_some, xg_EF_7, xo_Se]
          rw [show (0 : Int32) = nI 0 from rfl, x8, Option.bind_some]
          rfl
        by_cases hn0 : n = 0
        · subst hn0
          refine ⟨-1, si3, sq2, A3, mi, C, E, ?_, ?_, ⟨x6, (xS_a x9).2.2.2.2⟩, fxx, fun _ _ _ _ => rfl, fun _ _ => rfl, fun _ _ _ => rfl⟩
          · rw [ex]
            show b_X10_nearest_60 (999999 + 1) (xh x si3 sq2 sl A3 B g) x what (-1) (-1) (nI (0 + 1)) = _
            unfold b_X10_nearest_60 b_X10_nearest_135 b_X10_nearest_146
            have : si3 3 1 = nI 0 := by rw [fxx.1 3 1 (by decide)]; exact n1
            simp only [xg_EF_1, Option.bind_some, xr_g r31.1, this, if_pos (show nI 0 < nI (0 + 1) by decide)]
            split <;> rfl
          · unfold b_X11_nearest_0
            simp only [mis, Option.bind_some, m_isThere_t hq s2 (show 0 < s by omega) hs, zbp_some, if_neg (show ¬ (1 : Int32) = 0 by decide), m_in_t hw.1 hw.2, mg_textSize, n2, if_pos (show nI 0 = (0 : Int32) from rfl)]
        · obtain ⟨E1, m1, m2, m3⟩ := m_loadPattern (y := y) (mi := mi) (ml := ml) (E := E) (g := g2) hq s2 hs
          obtain ⟨C1, m4, m5, m6⟩ := m_loadBytes (y := y) (mi := upd mi 21 (nI s)) (ml := ml) (C := C) (E := E1) (g := g2) (a := 0) (b := n) (by omega) hn
          let mi2 := upd (upd (upd mi 21 (nI s)) 23 (nI (n - 0))) 24 (bI sw)
          have mi21 : mi2 21 = nI s := by
            show upd (upd (upd mi 21 (nI s)) 23 (nI (n - 0))) 24 (bI sw) 21 = _
            rw [pk_un (by decide), pk_un (by decide), pk_us]
          have mi23 : mi2 23 = nI n := by
            show upd (upd (upd mi 21 (nI s)) 23 (nI (n - 0))) 24 (bI sw) 23 = _
            rw [pk_un (by decide), pk_us]; rfl
          have mi24 : mi2 24 = bI sw := pk_us
          obtain ⟨C3, m13, m14, m15⟩ := m_firstColumn (y := y) (mi := mi2) (ml := ml) (C := C1) (E := E1) (g := g2) (fr := true) (sw := sw) (mt := mtx (B (21 + 3 * q)) (B (22 + 3 * q)) (C 2)) mi21 (by omega)
          have hE10 : ∀ i, i < s → E1 10 i = B (21 + 3 * q) i ∧ E1 11 i = B (22 + 3 * q) i := by
            intro i hi
            rw [(m3 i hi).1, (m3 i hi).2, (s3 i hi).1, (s3 i hi).2]
            exact ⟨rfl, rfl⟩
          have hLd : mLd mi2 C3 E1 s n sw (mtx (B (21 + 3 * q)) (B (22 + 3 * q)) (C 2)) := by
            refine ⟨mi21, mi23, mi24, by omega, hn, fun j hj => ?_⟩
            obtain ⟨b, hb, hbt⟩ := okB_nat (n3 j hj).2
            refine ⟨b, hb, ?_, fun i hi => ?_⟩
            · rw [m14 12 (by decide), m6 j (by omega), Nat.zero_add, hbt]
            · rw [mtx_n hbt hb, (hE10 i hi).1, (hE10 i hi).2]
          obtain ⟨r, si', sq', A', C', k1, k2, k3, k4, k5⟩ := near_lp (x := x) (sl := sl) (B := B) (g := g) (g2 := g2) (y := y) (ml := ml) (E := E1) (mi := mi2) (P := 20 + 3 * q) (s := s) (n := n) (sw := sw) (mt := mtx (B (21 + 3 * q)) (B (22 + 3 * q)) (C 2)) (tx := C 2) (what := what) (set_p hq) (by rw [slen_p hq]; exact hs) hs (by omega) hn (by omega) (fun j hj => (n3 j hj).2) (by
            intro i hi j hj
            rw [show 20 + 3 * q + 1 = 21 + 3 * q by omega, show 20 + 3 * q + 2 = 22 + 3 * q by omega]
            rfl) n 0 zFuel zFuel s 10000 (min s s) (-1) (-1) 0 si3 sq2 A3 C3 (by omega) (zF_lt (by omega)) (zF_lt (by omega)) hs (Or.inl ⟨rfl, rfl, rfl, rfl⟩) (by
            rw [fxx.1 3 1 (by decide)]; exact n1) (by
            intro j hj
            rw [fxx.2.2 4 (by decide)]
            exact (n3 j hj).1) x9 x6 hLd m15
          refine ⟨r, si', sq', A', mi2, C', E1, ?_, ?_, k3, fX_t fxx k4, ?_, ?_, m2⟩
          · rw [ex]
            exact k1
          · unfold b_X11_nearest_0
            simp only [mis, Option.bind_some, m_isThere_t hq s2 (show 0 < s by omega) hs, zbp_some, if_neg (show ¬ (1 : Int32) = 0 by decide), m_in_t hw.1 hw.2, mg_textSize, n2, if_neg (nI_ne0 (show 0 < n by omega) (show n < 2 ^ 31 by omega)), m1, pk_un (show 3 ≠ 21 by decide)]
            rw [show (0 : Int32) = nI 0 from rfl, m4]
            simp only [Option.bind_some, mz_swapping (bI_01 sw), mis]
            rw [show b_X11_firstColumn_0 (mh y (upd (upd (upd mi 21 (nI s)) 23 (nI (n - 0))) 24 (bI sw)) ml C1 E1 g2) y = _ from m13, Option.bind_some]
            exact k2
          · intro f h1 h2 h3
            show upd (upd (upd mi 21 (nI s)) 23 (nI (n - 0))) 24 (bI sw) f = _
            rw [pk_un h3, pk_un h2, pk_un h1]
          · intro f h1
            rw [k5 f (by omega), m14 f (by omega), m5 f (by omega)]
      · refine ⟨-2, si, sq, A, mi, C, E, ?_, ?_, hS, fX_r, fun _ _ _ _ => rfl, fun _ _ => rfl, fun _ _ _ => rfl⟩
        · unfold b_X10_nearest_0
          simp only [xo_EF, Option.bind_some, x_isPattern_t hq s1 (show 0 < s by omega) hs, zbp_some, if_neg (show ¬ (1 : Int32) = 0 by decide)]
          by_cases h1 : what < 0
          · rw [if_pos h1]; rfl
          · rw [if_neg h1, if_neg (fun q => hw ⟨i_nlt.mp h1, q⟩)]; rfl
        · unfold b_X11_nearest_0
          simp only [mis, Option.bind_some, m_isThere_t hq s2 (show 0 < s by omega) hs, zbp_some, if_neg (show ¬ (1 : Int32) = 0 by decide), m_in_f hw, if_true]
          rfl
end NE
