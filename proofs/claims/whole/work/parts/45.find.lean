/-! FIND: the hits of both sides -/
def bI (b : Bool) : Int32 := if b then 1 else 0
theorem bI_01 (b : Bool) : bI b = 0 ∨ bI b = 1 := by cases b <;> decide
def mtx (lo hi : Nat → Int64) (t : Nat → Int32) (i j : Nat) : Bool := hasB (lo i) (hi i) (t j).toNatClampNeg
/-- the numbers tell a beginning, and the distance from there is no greater -/
theorem begs {mt : Nat → Nat → Bool} {sw : Bool} : ∀ j, j ≤ 2000 → ∀ i, ∃ b, b ≤ j ∧ vV fC (fR true) mt sw j i % 2048 = 2047 - b ∧ cs fC (fR false) (fun i q => mt i (b + q)) sw (j - b) i ≤ vV fC (fR true) mt sw j i / 2048 := by
  intro j
  induction j using Nat.strongRecOn with
  | ind j ihj =>
    intro hj i
    cases j with
    | zero =>
      refine ⟨0, Nat.le_refl _, ?_, ?_⟩
      · rw [vV_0]; unfold fC; omega
      · exact Nat.le_refl _
    | succ j =>
      induction i with
      | zero =>
        refine ⟨j + 1, Nat.le_refl _, ?_, ?_⟩
        · rw [vV_r]; unfold fR; rw [if_pos rfl]; omega
        · rw [Nat.sub_self]; unfold cs; rw [vV_0]; unfold fC; omega
      | succ i ihi =>
        have hD : ∀ W, W = vV fC (fR true) mt sw j i + 2048 → ∃ b, b ≤ j + 1 ∧ W % 2048 = 2047 - b ∧ cs fC (fR false) (fun i q => mt i (b + q)) sw (j + 1 - b) (i + 1) ≤ W / 2048 := by
          intro W hW
          obtain ⟨b, b1, b2, b3⟩ := ihj j (by omega) (by omega) i
          refine ⟨b, by omega, by omega, ?_⟩
          have := cs_D2 (c0 := fC) (r0 := fR false) (mt := fun i q => mt i (b + q)) (sw := sw) (j - b) i
          rw [show j + 1 - b = j - b + 1 by omega]
          omega
        have hH : ∀ W, W = vV fC (fR true) mt sw j (i + 1) + 2048 → ∃ b, b ≤ j + 1 ∧ W % 2048 = 2047 - b ∧ cs fC (fR false) (fun i q => mt i (b + q)) sw (j + 1 - b) (i + 1) ≤ W / 2048 := by
          intro W hW
          obtain ⟨b, b1, b2, b3⟩ := ihj j (by omega) (by omega) (i + 1)
          refine ⟨b, by omega, by omega, ?_⟩
          have := cs_H2 (mt := fun i q => mt i (b + q)) (sw := sw) (st_f false) (j - b) (i + 1)
          rw [show j + 1 - b = j - b + 1 by omega]
          omega
        have hV : ∀ W, W = vV fC (fR true) mt sw (j + 1) i + 2048 → ∃ b, b ≤ j + 1 ∧ W % 2048 = 2047 - b ∧ cs fC (fR false) (fun i q => mt i (b + q)) sw (j + 1 - b) (i + 1) ≤ W / 2048 := by
          intro W hW
          obtain ⟨b, b1, b2, b3⟩ := ihi
          refine ⟨b, by omega, by omega, ?_⟩
          have := cs_V2 (mt := fun i q => mt i (b + q)) (sw := sw) (st_f false) (j + 1 - b) i
          omega
        have hM : mt i j = true → ∀ W, W = vV fC (fR true) mt sw j i → ∃ b, b ≤ j + 1 ∧ W % 2048 = 2047 - b ∧ cs fC (fR false) (fun i q => mt i (b + q)) sw (j + 1 - b) (i + 1) ≤ W / 2048 := by
          intro hm W hW
          obtain ⟨b, b1, b2, b3⟩ := ihj j (by omega) (by omega) i
          refine ⟨b, by omega, by omega, ?_⟩
          rw [show j + 1 - b = j - b + 1 by omega, cs_s, if_pos (show mt i (b + (j - b)) = true by rw [show b + (j - b) = j by omega]; exact hm)]
          omega
        have hS : swp mt sw i j = true → ∀ W, W = vV fC (fR true) mt sw (j - 1) (i - 1) + 2048 → ∃ b, b ≤ j + 1 ∧ W % 2048 = 2047 - b ∧ cs fC (fR false) (fun i q => mt i (b + q)) sw (j + 1 - b) (i + 1) ≤ W / 2048 := by
          intro hs W hW
          obtain ⟨p1, p2⟩ := swp_pos hs
          obtain ⟨b, b1, b2, b3⟩ := ihj (j - 1) (by omega) (by omega) (i - 1)
          refine ⟨b, by omega, by omega, ?_⟩
          have hs2 : swp (fun i q => mt i (b + q)) sw i (j - b) = true := by
            unfold swp at hs ⊢
            simp only [Bool.and_eq_true, decide_eq_true_eq] at hs ⊢
            refine ⟨hs.1, p1, by omega, ?_, ?_⟩
            · rw [show b + (j - b) = j by omega]; exact hs.2.2.2.1
            · rw [show b + (j - b - 1) = j - 1 by omega]; exact hs.2.2.2.2
          rw [show j + 1 - b = j - b + 1 by omega, cs_s, if_pos hs2, show j - b - 1 = j - 1 - b by omega]
          omega
        have e := vV_s2 (c0 := fC) (r0 := fR true) (mt := mt) (sw := sw) (j := j) (i := i)
        by_cases hs : swp mt sw i j = true
        · rw [if_pos hs] at e
          by_cases hm : mt i j = true
          · rw [if_pos hm] at e
            have : vV fC (fR true) mt sw (j + 1) (i + 1) = vV fC (fR true) mt sw j i ∨ vV fC (fR true) mt sw (j + 1) (i + 1) = vV fC (fR true) mt sw j (i + 1) + 2048 ∨ vV fC (fR true) mt sw (j + 1) (i + 1) = vV fC (fR true) mt sw (j + 1) i + 2048 ∨ vV fC (fR true) mt sw (j + 1) (i + 1) = vV fC (fR true) mt sw (j - 1) (i - 1) + 2048 := by omega
            rcases this with h | h | h | h
            · exact hM hm _ h
            · exact hH _ h
            · exact hV _ h
            · exact hS hs _ h
          · rw [if_neg hm] at e
            have : vV fC (fR true) mt sw (j + 1) (i + 1) = vV fC (fR true) mt sw j i + 2048 ∨ vV fC (fR true) mt sw (j + 1) (i + 1) = vV fC (fR true) mt sw j (i + 1) + 2048 ∨ vV fC (fR true) mt sw (j + 1) (i + 1) = vV fC (fR true) mt sw (j + 1) i + 2048 ∨ vV fC (fR true) mt sw (j + 1) (i + 1) = vV fC (fR true) mt sw (j - 1) (i - 1) + 2048 := by omega
            rcases this with h | h | h | h
            · exact hD _ h
            · exact hH _ h
            · exact hV _ h
            · exact hS hs _ h
        · rw [if_neg hs] at e
          by_cases hm : mt i j = true
          · rw [if_pos hm] at e
            have : vV fC (fR true) mt sw (j + 1) (i + 1) = vV fC (fR true) mt sw j i ∨ vV fC (fR true) mt sw (j + 1) (i + 1) = vV fC (fR true) mt sw j (i + 1) + 2048 ∨ vV fC (fR true) mt sw (j + 1) (i + 1) = vV fC (fR true) mt sw (j + 1) i + 2048 := by omega
            rcases this with h | h | h
            · exact hM hm _ h
            · exact hH _ h
            · exact hV _ h
          · rw [if_neg hm] at e
            have : vV fC (fR true) mt sw (j + 1) (i + 1) = vV fC (fR true) mt sw j i + 2048 ∨ vV fC (fR true) mt sw (j + 1) (i + 1) = vV fC (fR true) mt sw j (i + 1) + 2048 ∨ vV fC (fR true) mt sw (j + 1) (i + 1) = vV fC (fR true) mt sw (j + 1) i + 2048 := by omega
            rcases this with h | h | h
            · exact hD _ h
            · exact hH _ h
            · exact hV _ h
def hOK (s n : Nat) (sw : Bool) (mt : Nat → Nat → Bool) (e b d : Nat) : Prop := b ≤ e ∧ e ≤ n ∧ d ≤ 200 ∧ cs fC (fR false) (fun i q => mt i (b + q)) sw (e - b) s ≤ d
def hAr (si : Nat → Nat → Int32) (A : Nat → Nat → Int32) (mi : Nat → Int32) (C : Nat → Nat → Int32) (s n : Nat) (sw : Bool) (mt : Nat → Nat → Bool) (c : Nat) : Prop := si 71 8 = nI c ∧ mi 31 = nI c ∧ ∀ h, h < c → ∃ e b d, A 79 h = nI e ∧ C 19 h = nI e ∧ A 80 h = nI d ∧ C 20 h = nI d ∧ A 81 h = nI b ∧ C 21 h = nI b ∧ hOK s n sw mt e b d
section FI
variable {x : Nat} {si : Nat → Nat → Int32} {sq : Nat → Nat → Nat} {sl : Nat → Nat → Int64} {A : Nat → Nat → Int32} {B : Nat → Nat → Int64} {g g2 : zh_H}
variable {y : Nat} {mi : Nat → Int32} {ml : Nat → Int64} {C : Nat → Nat → Int32} {E : Nat → Nat → Int64}
theorem i79 : isInt 79 1500 ∧ isInt 80 1500 ∧ isInt 81 1500 := by unfold isInt; omega
theorem x_hadd {c : Nat} {e d b : Int32} (hc : c < 1500) (h8 : si 71 8 = nI c) : b_X2_add_0 (xh x si sq sl A B g) (x + 71) e d b = some (xh x (u2 si 71 8 (nI (c + 1))) sq sl (ua (ua (ua A 79 (upd (A 79) c e)) 80 (upd (A 80) c d)) 81 (upd (A 81) c b)) B g) := by
  unfold b_X2_add_0 b_X2_add_50
  simp only [xg_Ht_8, Option.bind_some, h8, if_neg (show ¬ (1500 : Int32) ≤ nI c from nI_ge (b := 1500) hc (by decide)), xg_Ht_5, xg_Ht_6, xg_Ht_7, xi_s i79.1 hc, xi_s i79.2.1 hc, xi_s i79.2.2 hc, ua_n (show 80 ≠ 79 by decide), ua_n (show 81 ≠ 79 by decide), ua_n (show 81 ≠ 80 by decide), nI_1, xp_Ht_8]
theorem xS_f {P s k o j T : Nat} {sw : Bool} {mt : Nat → Nat → Bool} {si' : Nat → Nat → Int32} {A' : Nat → Nat → Int32} (hC : xC sq) (h : xS si sq A B P s k o sw mt j T) (h1 : ∀ j, si' 53 j = si 53 j) (h2 : ∀ k, k = 57 ∨ k = 58 ∨ k = 59 → A' k = A k) : xS si' sq A' B P s k o sw mt j T := by
  obtain ⟨a, b, c, c1, c2, c3, Ia, Ib, Ic, -⟩ := hC
  unfold xS at h ⊢
  rw [h1, h1, h1, h1, h1, h1, h1, c1, c2, h2 a (int201 Ia), h2 b (int201 Ib), ← c1, ← c2]
  exact h
theorem mCol_f {s j : Nat} {fr sw : Bool} {mt : Nat → Nat → Bool} {C' : Nat → Nat → Int32} (h : mCol C s fr mt sw j) (h2 : ∀ k, 13 ≤ k → k ≤ 18 → C' k = C k) : mCol C' s fr mt sw j := by
  unfold mCol
  rw [h2 13 (by decide) (by decide), h2 14 (by decide) (by decide), h2 16 (by decide) (by decide), h2 17 (by decide) (by decide)]
  exact h
theorem v0 {mt : Nat → Nat → Bool} {sw : Bool} {j i : Nat} (h : j ≤ 2000) : vV (gC 0) (gR0 0) mt sw j i = vV fC (fR true) mt sw j i := g_shift (o := 0) (N := 2000) mt sw (by omega) j h i
/-- both sides from column j on -/
theorem find_lp {P s k n : Nat} {sw : Bool} {mt : Nat → Nat → Bool} {tx : Nat → Int32} (hP : isSet P) (hsP : s ≤ slen P) (hs : s ≤ 200) (hs1 : 1 ≤ s) (hk : k ≤ 200) (hn : n ≤ 1500) (htx : ∀ q, q < n → okB (tx q)) (hmt : ∀ i, i < s → ∀ q, q < n → hasB (B (P + 1) i) (B (P + 2) i) (tx q).toNatClampNeg = mt i q) : ∀ (d j fx fm c T : Nat) (si : Nat → Nat → Int32) (sq : Nat → Nat → Nat) (A : Nat → Nat → Int32) (mi : Nat → Int32) (C : Nat → Nat → Int32), j + d = n → d < fx → d < fm → c ≤ j → si 3 1 = nI n → (∀ q, q < n → A 4 q = tx q) → xS si sq A B P s k 0 sw mt j T → xC sq → mLd mi C E s n sw mt → mCol C s true mt sw j → hAr si A mi C s n sw mt c → ∃ r si' sq' A' mi' C' c', b_X10_find_62 fx (xh x si sq sl A B g) x (nI (j + 1)) = some (r, xh x si' sq' sl A' B g) ∧ b_X11_find_140 fm (mh y mi ml C E g2) y (nI k) (nI j) = some (r, mh y mi' ml C' E g2) ∧ hAr si' A' mi' C' s n sw mt c' ∧ c' ≤ n ∧ xC sq' ∧ (∃ b, b < 127 ∧ si' 53 10 = nI b) ∧ (∀ k j, k ≠ 53 → (k ≠ 71 ∨ j ≠ 8) → si' k j = si k j) ∧ (∀ k j, k ≠ 53 → sq' k j = sq k j) ∧ (∀ k, (k < 57 ∨ 59 < k) → (k < 79 ∨ 81 < k) → A' k = A k) ∧ (∀ k, k ≠ 31 → mi' k = mi k) ∧ (∀ k, k < 13 ∨ 21 < k → C' k = C k) := by
  intro d
  induction d with
  | zero =>
    intro j fx fm c T si sq A mi C hj hfx hfm hc h3 hA hS hC hL hM hH
    obtain ⟨fx, rfl⟩ : ∃ f, fx = f + 1 := ⟨fx - 1, by omega⟩
    obtain ⟨fm, rfl⟩ : ∃ f, fm = f + 1 := ⟨fm - 1, by omega⟩
    refine ⟨nI c, si, sq, A, mi, C, c, ?_, ?_, hH, by omega, hC, ?_, fun _ _ _ _ => rfl, fun _ _ _ => rfl, fun _ _ _ => rfl, fun _ _ => rfl, fun _ _ => rfl⟩
    · unfold b_X10_find_62
      simp only [xg_EF_1, Option.bind_some, xr_g r31.1, h3, if_pos (show nI n < nI (j + 1) from nI_lt (by omega) (by omega)), xg_EF_9, xg_Ht_8, hH.1]
    · unfold b_X11_find_140
      simp only [mg_many, Option.bind_some, hL.2.1, if_pos (show nI n ≤ nI j from nI_le (by omega) (by omega)), mg_hits, hH.2.1]
    · obtain ⟨-, -, -, -, -, -, -, ⟨b, hb, hb2, -⟩, -⟩ := hS
      exact ⟨b, hb, hb2⟩
  | succ d ih =>
    intro j fx fm c T si sq A mi C hj hfx hfm hc h3 hA hS hC hL hM hH
    obtain ⟨fx, rfl⟩ : ∃ f, fx = f + 1 := ⟨fx - 1, by omega⟩
    obtain ⟨fm, rfl⟩ : ∃ f, fm = f + 1 := ⟨fm - 1, by omega⟩
    obtain ⟨b, hb, hbt⟩ := okB_nat (htx j (by omega))
    have hbn : (tx j).toNatClampNeg = b := by rw [hbt]; exact nI_clamp (by omega)
    obtain ⟨si1, sq1, A1, T1, e1, hS1, hC1, f1, hit1, hit2⟩ := x_feed (x := x) (sl := sl) (g := g) hP hsP hs hs1 hk (show 0 + j < 1500 by omega) hS hC hb (fun q hq => by rw [← hbn]; exact hmt q hq j (by omega))
    obtain ⟨C1, e2, n1, hM1⟩ := m_column (y := y) (ml := ml) (g := g2) hL (show j < n by omega) hM
    rw [if_pos rfl] at e2
    rw [v0 (by omega)] at hit1 hit2
    have hL1 : mLd mi C1 E s n sw mt := mLd_c hL (n1 12 (by decide))
    have hbd := cN_lt (fr := true) (mt := mt) (sw := sw) (j := j + 1) (i := s) (by omega) (by omega)
    have h31 : si1 3 1 = nI n := by rw [f1.1 3 1 (by decide)]; exact h3
    have hA1 : ∀ q, q < n → A1 4 q = tx q := by rw [f1.2.2 4 (by decide)]; exact hA
    have hH1 : hAr si1 A1 mi C1 s n sw mt c := by
      unfold hAr
      rw [f1.1 71 8 (by decide), f1.2.2 79 (by decide), f1.2.2 80 (by decide), f1.2.2 81 (by decide), n1 19 (by decide), n1 20 (by decide), n1 21 (by decide)]
      exact hH
    have ex0 : b_X10_find_62 (fx + 1) (xh x si sq sl A B g) x (nI (j + 1)) = zbp (b_X6_isHit_0 (xh x si1 sq1 sl A1 B g) (x + 53)) fun v15 h14 => if v15 = (0 : Int32) then b_X10_find_125 (b_X10_find_62 fx) h14 (x) (nI (j + 1)) else (gR h14 x 10 9).bind fun a16 => (gR h14 x 10 7).bind fun a17 => (isO h14 a17 6).bind fun o18 => zbp (b_X6_edits_0 h14 a17 ) fun v20 h19 => (gR h19 x 10 7).bind fun a21 => (isO h19 a21 6).bind fun o22 => zbp (b_X6_beginning_0 h19 a21 ) fun v24 h23 => (isO h23 a16 2).bind fun o25 => (b_X2_add_0 h23 a16 (nI (j + 1)) v20 v24).bind fun h26 => b_X10_find_125 (b_X10_find_62 fx) h26 (x) (nI (j + 1)) := by
      conv => lhs; unfold b_X10_find_62
      simp only [xg_EF_1, Option.bind_some, xr_g r31.1, h3, if_neg (show ¬ nI n < nI (j + 1) from nI_nlt (by omega) (by omega)), xg_EF_7, xr_is r31.1, show nI (j + 1) - (1 : Int32) = nI j from nI_pred j, x_get r31.1 h3 (show j < n by omega) (show n ≤ rlen 3 from hn), zbp_some, hA j (by omega), hbt, xo_Se, e1]
    have em0 : b_X11_find_140 (fm + 1) (mh y mi ml C E g2) y (nI k) (nI j) = if nI k < cN (vV fC (fR true) mt sw (j + 1) s) then b_X11_find_228 (b_X11_find_140 fm) (mh y mi ml C1 E g2) y (nI k) (nI j) else b_X11_find_228 (b_X11_find_140 fm) (mh y (upd mi 31 (nI (c + 1))) ml (ua (ua (ua C1 19 (upd (C1 19) c (nI (j + 1)))) 20 (upd (C1 20) c (cN (vV fC (fR true) mt sw (j + 1) s)))) 21 (upd (C1 21) c (bN (vV fC (fR true) mt sw (j + 1) s)))) E g2) y (nI k) (nI j) := by
      conv => lhs; unfold b_X11_find_140
      simp only [mg_many, Option.bind_some, hL.2.1, if_neg (show ¬ nI n ≤ nI j from nI_ge (by omega) (by omega)), mis, e2, mr_cost, mg_sets, hL.1, ml_cost (show s < 1501 by omega), (hM1.1 s (Nat.le_refl _)).1, mr_hitAt, mg_hits, hH.2.1, ms_hitAt (show c < 1500 by omega), mr_hitCost, ms_hitCost (show c < 1500 by omega), mr_hitBegin, mr_begin, ml_begin (show s < 1501 by omega), ms_hitBegin (show c < 1500 by omega), nI_1, mp_hits, ua_n (show 13 ≠ 19 by decide), ua_n (show 16 ≠ 20 by decide), ua_n (show 16 ≠ 19 by decide), ua_n (show 20 ≠ 19 by decide), ua_n (show 21 ≠ 20 by decide), ua_n (show 21 ≠ 19 by decide), (hM1.1 s (Nat.le_refl _)).2]
    rw [ex0, em0, x_isHit hs hS1, zbp_some]
    by_cases hT : T1 = s
    · have hv := hit1.mp hT
      have hval := hit2 hT
      have hbd2 : vV fC (fR true) mt sw (j + 1) s < 2 ^ 31 := by omega
      obtain ⟨s1, s2⟩ := x_edits (x := x) (si := si1) (sq := sq1) (sl := sl) (A := A1) (B := B) (g := g) hs hS1.2.1 hC1 hval hbd2
      rw [if_pos hT, if_neg (by decide), if_neg (show ¬ nI k < cN _ from nI_nlt hv (by omega))]
      simp only [xg_EF_9, xg_EF_7, Option.bind_some, xo_Se, s1, s2, zbp_some, xo_Ht, x_hadd (show c < 1500 by omega) hH1.1]
      unfold b_X10_find_125 b_X11_find_228
      rw [nI_1, nI_1]
      obtain ⟨b0, q1, q2, q3⟩ := begs (mt := mt) (sw := sw) (j + 1) (by omega) s
      have hH2 : hAr (u2 si1 71 8 (nI (c + 1))) (ua (ua (ua A1 79 (upd (A1 79) c (nI (j + 1)))) 80 (upd (A1 80) c (nI (vV fC (fR true) mt sw (j + 1) s / 2048)))) 81 (upd (A1 81) c (nI (2047 - vV fC (fR true) mt sw (j + 1) s % 2048)))) (upd mi 31 (nI (c + 1))) (ua (ua (ua C1 19 (upd (C1 19) c (nI (j + 1)))) 20 (upd (C1 20) c (cN (vV fC (fR true) mt sw (j + 1) s)))) 21 (upd (C1 21) c (bN (vV fC (fR true) mt sw (j + 1) s)))) s n sw mt (c + 1) := by
        refine ⟨u2_s, pk_us, fun h hh => ?_⟩
        simp only [ua_s, ua_n (show 79 ≠ 80 by decide), ua_n (show 79 ≠ 81 by decide), ua_n (show 80 ≠ 81 by decide), ua_n (show 19 ≠ 20 by decide), ua_n (show 19 ≠ 21 by decide), ua_n (show 20 ≠ 21 by decide)]
        by_cases hhc : h = c
        · subst hhc
          refine ⟨j + 1, b0, vV fC (fR true) mt sw (j + 1) s / 2048, pk_us, pk_us, pk_us, pk_us, ?_, ?_, q1, by omega, by omega, q3⟩
          · rw [pk_us]; congr 1; omega
          · rw [pk_us]; unfold bN; congr 1; omega
        · rw [pk_un hhc, pk_un hhc, pk_un hhc, pk_un hhc, pk_un hhc, pk_un hhc]
          exact hH1.2.2 h (by omega)
      obtain ⟨r, si', sq', A', mi', C', c', k1, k2, k3, k4, k5, k6, k7, k8, k9, k10, k11⟩ := ih (j + 1) fx fm (c + 1) T1 _ sq1 _ _ _ (by omega) (by omega) (by omega) (by omega) (by rw [u2_n (Or.inl (by decide))]; exact h31) (by rw [ua_n (by decide), ua_n (by decide), ua_n (by decide)]; exact hA1) (xS_f hC1 hS1 (fun f => by rw [u2_n (Or.inl (by decide))]) (fun f hf => by rw [ua_n (by omega), ua_n (by omega), ua_n (by omega)])) hC1 (by
          refine mLd_c (C := C1) ?_ (by rw [ua_n (by decide), ua_n (by decide), ua_n (by decide)])
          unfold mLd
          rw [pk_un (by decide), pk_un (by decide), pk_un (by decide)]
          exact hL1) (mCol_f hM1 (fun f f1 f2 => by rw [ua_n (by omega), ua_n (by omega), ua_n (by omega)])) hH2
      refine ⟨r, si', sq', A', mi', C', c', k1, k2, k3, k4, k5, k6, ?_, ?_, ?_, ?_, ?_⟩
      · intro f f2 h1 h2
        rw [k7 f f2 h1 h2, u2_n (by omega), f1.1 f f2 h1]
      · intro f f2 h1
        rw [k8 f f2 h1, f1.2.1 f f2 h1]
      · intro f h1 h2
        rw [k9 f h1 h2, ua_n (by omega), ua_n (by omega), ua_n (by omega), f1.2.2 f h1]
      · intro f h1
        rw [k10 f h1, pk_un h1]
      · intro f h1
        rw [k11 f h1, ua_n (by omega), ua_n (by omega), ua_n (by omega), n1 f (by omega)]
    · have hv : ¬ vV fC (fR true) mt sw (j + 1) s / 2048 ≤ k := fun h => hT (hit1.mpr h)
      rw [if_neg hT, if_pos rfl, if_pos (show nI k < cN _ from nI_lt (by omega) (by omega))]
      unfold b_X10_find_125 b_X11_find_228
      rw [nI_1, nI_1]
      obtain ⟨r, si', sq', A', mi', C', c', k1, k2, k3, k4, k5, k6, k7, k8, k9, k10, k11⟩ := ih (j + 1) fx fm c T1 si1 sq1 A1 mi C1 (by omega) (by omega) (by omega) (by omega) h31 hA1 hS1 hC1 hL1 hM1 hH1
      refine ⟨r, si', sq', A', mi', C', c', k1, k2, k3, k4, k5, k6, ?_, ?_, ?_, ?_, ?_⟩
      · intro f f2 h1 h2
        rw [k7 f f2 h1 h2, f1.1 f f2 h1]
      · intro f f2 h1
        rw [k8 f f2 h1, f1.2.1 f f2 h1]
      · intro f h1 h2
        rw [k9 f h1 h2, f1.2.2 f h1]
      · intro f h1
        rw [k10 f h1]
      · intro f h1
        rw [k11 f h1, n1 f (by omega)]
end FI
