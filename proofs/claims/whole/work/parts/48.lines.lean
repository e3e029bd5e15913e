/-! LINES -/
theorem g_div {o j i : Nat} {mt : Nat → Nat → Bool} {sw : Bool} (h : o + j ≤ 2000) : vV (gC o) (gR0 o) mt sw j i / 2048 = vV fC (fR true) mt sw j i / 2048 ∧ 2047 - vV (gC o) (gR0 o) mt sw j i % 2048 = o + (2047 - vV fC (fR true) mt sw j i % 2048) ∧ 2047 - vV fC (fR true) mt sw j i % 2048 ≤ j := by
  have h1 := g_shift (o := o) (N := j) mt sw (by omega) j (Nat.le_refl _) i
  obtain ⟨b, b1, b2, -⟩ := begs (mt := mt) (sw := sw) j (by omega) i
  omega
section LI
variable {x : Nat} {si : Nat → Nat → Int32} {sq : Nat → Nat → Nat} {sl : Nat → Nat → Int64} {A : Nat → Nat → Int32} {B : Nat → Nat → Int64} {g g2 : zh_H}
variable {y : Nat} {mi : Nat → Int32} {ml : Nat → Int64} {C : Nat → Nat → Int32} {E : Nat → Nat → Int64}
theorem i83 : isInt 83 751 := by unfold isInt; omega
theorem x_ladd {c : Nat} {v : Int32} (hc : c < 751) (h1 : si 82 1 = nI c) : b_X3_add_0 (xh x si sq sl A B g) (x + 82) v = some (xh x (u2 si 82 1 (nI (c + 1))) sq sl (ua A 83 (upd (A 83) c v)) B g) := by
  unfold b_X3_add_0 b_X3_add_32
  simp only [xg_Ll_1, Option.bind_some, h1, xg_Ll_0, xi_n i83, if_neg (nI_ge hc (show 751 < 2 ^ 31 by decide)), xi_s i83 hc, nI_1, xp_Ll_1]
theorem not10 {v : Int32} {b : Nat} (hv : v = nI b) (hb : b < 127) (h : v ≠ 10) : ¬ nI b = (10 : Int32) := by
  rw [← hv]; exact h
theorem x_lskip {n N : Nat} {tx : Nat → Int32} (h3 : si 3 1 = nI n) (hn : n ≤ 1500) (hA : ∀ q, q < n → A 4 q = tx q) : ∀ (d i : Nat), i + d ≤ n → (∀ q, i ≤ q → q < i + d → tx q ≠ 10) → ∀ f, b_X10_lines_57 (f + d) (xh x si sq sl A B g) x (nI N) 1 (nI i) = b_X10_lines_57 f (xh x si sq sl A B g) x (nI N) 1 (nI (i + d)) := by
  intro d
  induction d with
  | zero => intro i _ _ f; rfl
  | succ d ih =>
    intro i hi ht f
    have := ih (i + 1) (by omega) (fun q q1 q2 => ht q (by omega) (by omega)) f
    rw [show i + 1 + d = i + (d + 1) by omega] at this
    rw [← this, show f + (d + 1) = f + d + 1 by omega]
    conv => lhs; unfold b_X10_lines_57
    simp only [xg_EF_1, Option.bind_some, xr_g r31.1, h3, if_neg (show ¬ nI n ≤ nI i from nI_ge (by omega) (by omega)), xr_is r31.1, x_get r31.1 h3 (show i < n by omega) (show n ≤ rlen 3 from hn), zbp_some, hA i (by omega), if_neg (ht i (by omega) (by omega)), if_neg (show ¬ (1 : Int32) = 0 by decide)]
    unfold b_X10_lines_144
    rw [nI_1]
theorem x_ln {P s k o e n N c : Nat} {sw : Bool} {mt : Nat → Nat → Bool} {tx : Nat → Int32} (hP : isSet P) (hsP : s ≤ slen P) (hs : s ≤ 200) (hs1 : 1 ≤ s) (hk : k ≤ 200) (hn : n ≤ 1500) (htx : ∀ q, q < n → okB (tx q)) (hmt : ∀ i, i < s → ∀ q, o + q < n → hasB (B (P + 1) i) (B (P + 2) i) (tx (o + q)).toNatClampNeg = mt i q) (he : e ≤ n) (hne : ∀ q, o ≤ q → q < e → tx q ≠ 10) (hc : c < 751) : ∀ (d j T : Nat) (si : Nat → Nat → Int32) (sq : Nat → Nat → Nat) (A : Nat → Nat → Int32), o + j + d = e → si 3 1 = nI n → (∀ q, q < n → A 4 q = tx q) → si 82 1 = nI c → xS si sq A B P s k o sw mt j T → xC sq → ∃ si' sq' A' lst, (∀ f, b_X10_lines_57 (f + d) (xh x si sq sl A B g) x (nI N) 0 (nI (o + j)) = b_X10_lines_57 f (xh x si' sq' sl A' B g) x (nI N) (bI lst) (nI e)) ∧ xC sq' ∧ xA si' sq' P s k sw ∧ (lst = true ↔ ∃ q, j ≤ q ∧ o + q < e ∧ vV fC (fR true) mt sw (q + 1) s / 2048 ≤ k) ∧ (lst = false → si' 82 1 = nI c ∧ A' 83 = A 83) ∧ (lst = true → si' 82 1 = nI (c + 1) ∧ A' 83 = upd (A 83) c (nI N)) ∧ (∀ k j, k ≠ 53 → k ≠ 82 → si' k j = si k j) ∧ (∀ k j, k ≠ 53 → sq' k j = sq k j) ∧ (∀ k, (k < 57 ∨ 59 < k) → k ≠ 83 → A' k = A k) := by
  intro d
  induction d with
  | zero =>
    intro j T si sq A hj h3 hA h82 hS hC
    refine ⟨si, sq, A, false, fun f => ?_, hC, xS_a hS, ?_, fun _ => ⟨h82, rfl⟩, fun h => absurd h (by decide), fun _ _ _ _ => rfl, fun _ _ _ => rfl, fun _ _ _ => rfl⟩
    · rw [show e = o + j by omega]; rfl
    · constructor
      · intro h; exact absurd h (by decide)
      · rintro ⟨q, h1, h2, -⟩; omega
  | succ d ih =>
    intro j T si sq A hj h3 hA h82 hS hC
    obtain ⟨b, hb, hbt⟩ := okB_nat (htx (o + j) (by omega))
    have hbn : (tx (o + j)).toNatClampNeg = b := by rw [hbt]; exact nI_clamp (by omega)
    obtain ⟨si1, sq1, A1, T1, e1, hS1, hC1, f1, hit1, hit2⟩ := x_feed (x := x) (sl := sl) (g := g) hP hsP hs hs1 hk (show o + j < 1500 by omega) hS hC hb (fun q hq => by rw [← hbn]; exact hmt q hq j (by omega))
    rw [(g_div (o := o) (j := j + 1) (i := s) (mt := mt) (sw := sw) (by omega)).1] at hit1
    have h31 : si1 3 1 = nI n := by rw [f1.1 3 1 (by decide)]; exact h3
    have hA1 : ∀ q, q < n → A1 4 q = tx q := by rw [f1.2.2 4 (by decide)]; exact hA
    have h821 : si1 82 1 = nI c := by rw [f1.1 82 1 (by decide)]; exact h82
    have ex0 : ∀ f, b_X10_lines_57 (f + 1) (xh x si sq sl A B g) x (nI N) 0 (nI (o + j)) = zbp (b_X6_isHit_0 (xh x si1 sq1 sl A1 B g) (x + 53)) fun v15 h14 => if v15 = (0 : Int32) then b_X10_lines_144 (b_X10_lines_57 f) h14 (x) (nI N) (v15) (nI (o + j)) else (gR h14 x 10 10).bind fun a16 => (isO h14 a16 3).bind fun o17 => (b_X3_add_0 h14 a16 (nI N)).bind fun h18 => b_X10_lines_144 (b_X10_lines_57 f) h18 (x) (nI N) (v15) (nI (o + j)) := by
      intro f
      conv => lhs; unfold b_X10_lines_57
      simp only [xg_EF_1, Option.bind_some, xr_g r31.1, h3, if_neg (show ¬ nI n ≤ nI (o + j) from nI_ge (by omega) (by omega)), xr_is r31.1, x_get r31.1 h3 (show o + j < n by omega) (show n ≤ rlen 3 from hn), zbp_some, hA (o + j) (by omega), if_neg (hne (o + j) (by omega) (by omega)), if_true, xg_EF_7, xo_Se]
      rw [hbt, e1]
      simp only [Option.bind_some, xg_EF_7, xo_Se]
    by_cases hT : T1 = s
    · have hv := hit1.mp hT
      refine ⟨u2 si1 82 1 (nI (c + 1)), sq1, ua A1 83 (upd (A1 83) c (nI N)), true, fun f => ?_, hC1, ?_, ?_, fun h => absurd h (by decide), fun _ => ⟨u2_s, by rw [ua_s, f1.2.2 83 (by decide)]⟩, ?_, f1.2.1, ?_⟩
      · rw [show f + (d + 1) = f + d + 1 by omega, ex0, x_isHit hs hS1, zbp_some, if_pos hT, if_neg (by decide)]
        simp only [xg_EF_10, Option.bind_some, xo_Ll, x_ladd hc h821]
        unfold b_X10_lines_144
        have := x_lskip (x := x) (si := u2 si1 82 1 (nI (c + 1))) (sq := sq1) (sl := sl) (A := ua A1 83 (upd (A1 83) c (nI N))) (B := B) (g := g) (n := n) (N := N) (tx := tx) (by rw [u2_n (Or.inl (by decide))]; exact h31) hn (by rw [ua_n (by decide)]; exact hA1) d (o + j + 1) (by omega) (fun q q1 q2 => hne q (by omega) (by omega)) f
        rw [nI_1, this, show o + j + 1 + d = e by omega]
        rfl
      · have := xS_a hS1
        unfold xA at this ⊢
        rw [u2_n (Or.inl (by decide)), u2_n (Or.inl (by decide)), u2_n (Or.inl (by decide)), u2_n (Or.inl (by decide))]
        exact this
      · exact ⟨fun _ => ⟨j, Nat.le_refl _, by omega, hv⟩, fun _ => rfl⟩
      · intro q f q1 q2
        rw [u2_n (Or.inl q2), f1.1 q f q1]
      · intro q q1 q2
        rw [ua_n q2, f1.2.2 q q1]
    · have hv : ¬ vV fC (fR true) mt sw (j + 1) s / 2048 ≤ k := fun h => hT (hit1.mpr h)
      obtain ⟨si', sq', A', lst, k1, k2, k3, k4, k5, k6, k7, k8, k9⟩ := ih (j + 1) T1 si1 sq1 A1 (by omega) h31 hA1 h821 hS1 hC1
      refine ⟨si', sq', A', lst, fun f => ?_, k2, k3, ?_, fun h => ?_, fun h => ?_, ?_, ?_, ?_⟩
      · rw [show f + (d + 1) = f + d + 1 by omega, ex0, x_isHit hs hS1, zbp_some, if_neg hT, if_pos rfl]
        unfold b_X10_lines_144
        rw [nI_1]
        exact k1 f
      · rw [k4]
        constructor
        · rintro ⟨q, q1, q2, q3⟩
          exact ⟨q, by omega, q2, q3⟩
        · rintro ⟨q, q1, q2, q3⟩
          refine ⟨q, ?_, q2, q3⟩
          by_cases hq : q = j
          · subst hq; exact absurd q3 hv
          · omega
      · have := k5 h
        rw [f1.2.2 83 (by decide)] at this
        exact this
      · have := k6 h
        rw [f1.2.2 83 (by decide)] at this
        exact this
      · intro q f q1 q2
        rw [k7 q f q1 q2, f1.1 q f q1]
      · intro q f q1
        rw [k8 q f q1, f1.2.1 q f q1]
      · intro q q1 q2
        rw [k9 q q1 q2, f1.2.2 q q1]
theorem m_lskip {n k N o : Nat} {tx : Nat → Int32} (h3 : mi 3 = nI n) (hn : n ≤ 1500) (hA : ∀ q, q < n → C 2 q = tx q) : ∀ (d i : Nat), i + d ≤ n → (∀ q, i ≤ q → q < i + d → tx q ≠ 10) → ∀ f, b_X11_lines_42 (f + d) (mh y mi ml C E g) y (nI k) (nI N) (nI o) (nI i) = b_X11_lines_42 f (mh y mi ml C E g) y (nI k) (nI N) (nI o) (nI (i + d)) := by
  intro d
  induction d with
  | zero => intro i _ _ f; rfl
  | succ d ih =>
    intro i hi ht f
    have := ih (i + 1) (by omega) (fun q q1 q2 => ht q (by omega) (by omega)) f
    rw [show i + 1 + d = i + (d + 1) by omega] at this
    rw [← this, show f + (d + 1) = f + d + 1 by omega]
    conv => lhs; unfold b_X11_lines_42
    simp only [mg_textSize, Option.bind_some, h3, if_neg (show ¬ nI n < nI i from nI_nlt (by omega) (by omega)), if_neg (show ¬ nI i = nI n from fun q => by have := (nI_eq (by omega) (by omega)).mp q; omega), mr_text, ml_text (show i < 1500 by omega), hA i (by omega), if_neg (ht i (by omega) (by omega))]
    unfold b_X11_lines_119
    rw [nI_1]
/-- the end of a line, of the reference -/
theorem m_lend {k N o e s c f : Nat} {sw : Bool} {mt : Nat → Nat → Bool} (hk : k ≤ 200) (hn : e ≤ 1500) (hoe : o ≤ e) (hs : s ≤ 1500) (hc : c < 1501) (h21 : mi 21 = nI s) (h24 : mi 24 = bI sw) (h44 : mi 44 = nI c) (hb : ∀ j, j < e - o → ∃ b, b < 127 ∧ C 2 (o + j) = nI b ∧ ∀ i, i < s → hasB (E 10 i) (E 11 i) b = mt i j) : ∃ mi' C', b_X11_lines_72 (b_X11_lines_42 f) (mh y mi ml C E g) y (nI k) (nI N) (nI o) (nI e) = b_X11_lines_42 f (mh y mi' ml C' E g) y (nI k) (nI (N + 1)) (nI (e + 1)) (nI (e + 1)) ∧ (∀ q, q ≠ 23 → q ≠ 44 → mi' q = mi q) ∧ (∀ q, q < 12 ∨ 18 < q → q ≠ 27 → C' q = C q) ∧ (((∃ q, o + q < e ∧ vV fC (fR true) mt sw (q + 1) s / 2048 ≤ k) ∧ mi' 44 = nI (c + 1) ∧ C' 27 = upd (C 27) c (nI N)) ∨ (¬ (∃ q, o + q < e ∧ vV fC (fR true) mt sw (q + 1) s / 2048 ≤ k) ∧ mi' 44 = nI c ∧ C' 27 = C 27)) := by
  obtain ⟨C1, m4, m5, m6⟩ := m_loadBytes (y := y) (mi := mi) (ml := ml) (C := C) (E := E) (g := g) hoe hn
  have hLd : mLd (upd mi 23 (nI (e - o))) C1 E s (e - o) sw mt := by
    refine ⟨by rw [pk_un (by decide)]; exact h21, pk_us, by rw [pk_un (by decide)]; exact h24, hs, by omega, fun j hj => ?_⟩
    obtain ⟨b, hb1, hb2, hb3⟩ := hb j hj
    exact ⟨b, hb1, by rw [m6 j hj]; exact hb2, hb3⟩
  obtain ⟨r, C2, m7, m8, m9⟩ := m_firstHit (y := y) (ml := ml) (g := g) (wb := false) hk hLd
  rw [if_neg Bool.false_ne_true] at m7
  unfold b_X11_lines_72 b_X11_lines_110 b_X11_lines_119
  simp only [mis, Option.bind_some, m4, m7, zbp_some]
  rcases m9 with ⟨e0, h1, rfl, h2, -, -⟩ | ⟨rfl, h2⟩
  · rw [if_neg (nI_nle (by omega) (by omega))]
    have h44' : upd mi 23 (nI (e - o)) 44 = nI c := by rw [pk_un (by decide)]; exact h44
    simp only [mr_lineNumbers, Option.bind_some, mg_lineCount, h44', ms_lineNumbers hc, nI_1, mp_lineCount]
    refine ⟨_, _, rfl, ?_, ?_, Or.inl ⟨⟨e0, by omega, h2.1⟩, pk_us, ?_⟩⟩
    · intro q q1 q2
      rw [pk_un q2, pk_un q1]
    · intro q q1 q2
      rw [ua_n q2, m8 q (by omega), m5 q (by omega)]
    · rw [ua_s, m8 27 (by decide), m5 27 (by decide)]
  · rw [if_pos (by decide)]
    refine ⟨_, _, by rw [nI_1, nI_1], ?_, ?_, Or.inr ⟨?_, ?_, ?_⟩⟩
    · intro q q1 q2
      rw [pk_un q1]
    · intro q q1 q2
      rw [m8 q (by omega), m5 q (by omega)]
    · rintro ⟨q, q1, q2⟩
      exact h2 q (by omega) ⟨q2, fun h => absurd h (by decide)⟩
    · rw [pk_un (by decide)]; exact h44
    · rw [m8 27 (by decide), m5 27 (by decide)]
end LI
