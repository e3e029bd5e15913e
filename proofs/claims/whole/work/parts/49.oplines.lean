/-! LINES, the whole call -/
theorem line_end {tx : Nat → Int32} {n : Nat} : ∀ (w o : Nat), o ≤ n → n - o ≤ w → ∃ e, o ≤ e ∧ e ≤ n ∧ (∀ q, o ≤ q → q < e → tx q ≠ 10) ∧ (e = n ∨ (e < n ∧ tx e = 10)) := by
  intro w
  induction w with
  | zero => intro o ho hw; exact ⟨o, Nat.le_refl _, ho, fun q q1 q2 => by omega, Or.inl (by omega)⟩
  | succ w ih =>
    intro o ho hw
    by_cases h : o = n
    · exact ⟨o, Nat.le_refl _, ho, fun q q1 q2 => by omega, Or.inl h⟩
    · by_cases h2 : tx o = 10
      · exact ⟨o, Nat.le_refl _, ho, fun q q1 q2 => by omega, Or.inr ⟨by omega, h2⟩⟩
      · obtain ⟨e, e1, e2, e3, e4⟩ := ih (o + 1) (by omega) (by omega)
        refine ⟨e, by omega, e2, fun q q1 q2 => ?_, e4⟩
        by_cases hq : q = o
        · subst hq; exact h2
        · exact e3 q (by omega) q2
section OL
variable {x : Nat} {si : Nat → Nat → Int32} {sq : Nat → Nat → Nat} {sl : Nat → Nat → Int64} {A : Nat → Nat → Int32} {B : Nat → Nat → Int64} {g g2 : zh_H}
variable {y : Nat} {mi : Nat → Int32} {ml : Nat → Int64} {C : Nat → Nat → Int32} {E : Nat → Nat → Int64}
theorem lines_lp {P s k n : Nat} {sw : Bool} {tx : Nat → Int32} (hP : isSet P) (hsP : s ≤ slen P) (hs : s ≤ 200) (hs1 : 1 ≤ s) (hk : k ≤ 200) (hn : n ≤ 1500) (htx : ∀ q, q < n → okB (tx q)) (hE : ∀ i, i < s → E 10 i = B (P + 1) i ∧ E 11 i = B (P + 2) i) : ∀ (w o fx fm N c T : Nat) (si : Nat → Nat → Int32) (sq : Nat → Nat → Nat) (A : Nat → Nat → Int32) (mi : Nat → Int32) (C : Nat → Nat → Int32), n - o ≤ w → o ≤ n → n - o < fx → n + 1 - o < fm → 2 * c ≤ o → si 3 1 = nI n → (∀ q, q < n → A 4 q = tx q) → si 82 1 = nI c → xS si sq A B P s k o sw (fun i q => mtx (B (P + 1)) (B (P + 2)) tx i (o + q)) 0 T → xC sq → mi 3 = nI n → mi 21 = nI s → mi 24 = bI sw → mi 44 = nI c → (∀ q, q < n → C 2 q = tx q) → (∀ q, q < c → A 83 q = C 27 q) → ∃ r si' sq' A' mi' C' c', b_X10_lines_57 fx (xh x si sq sl A B g) x (nI N) 0 (nI o) = some (r, xh x si' sq' sl A' B g) ∧ b_X11_lines_42 fm (mh y mi ml C E g2) y (nI k) (nI N) (nI o) (nI o) = some (r, mh y mi' ml C' E g2) ∧ rSx si' sq' ∧ c' ≤ 751 ∧ si' 82 1 = nI c' ∧ mi' 44 = nI c' ∧ (∀ q, q < c' → A' 83 q = C' 27 q) ∧ (∀ k j, k ≠ 53 → k ≠ 82 → si' k j = si k j) ∧ (∀ k j, k ≠ 53 → sq' k j = sq k j) ∧ (∀ k, (k < 57 ∨ 59 < k) → k ≠ 83 → A' k = A k) ∧ (∀ q, q ≠ 23 → q ≠ 44 → mi' q = mi q) ∧ (∀ q, q < 12 ∨ 18 < q → q ≠ 27 → C' q = C q) := by
  intro w
  induction w with
  | zero =>
    intro o fx fm N c T si sq A mi C hw ho hfx hfm hc h3 hA h82 hS hC h3m h21 h24 h44 hCt h83
    obtain rfl : o = n := by omega
    obtain ⟨fx, rfl⟩ : ∃ f, fx = f + 1 := ⟨fx - 1, by omega⟩
    obtain ⟨fm, rfl⟩ : ∃ f, fm = f + 1 + 1 := ⟨fm - 2, by omega⟩
    obtain ⟨mi', C', m1, m2, m3, m4⟩ := m_lend (y := y) (ml := ml) (g := g2) (E := E) (C := C) (f := fm + 1) (N := N) (o := o) (e := o) (s := s) (c := c) (sw := sw) (mt := fun i q => mtx (B (P + 1)) (B (P + 2)) tx i (o + q)) hk hn (Nat.le_refl _) (by omega) (by omega) h21 h24 h44 (fun j hj => by omega)
    have m5 : mi' 44 = nI c ∧ C' 27 = C 27 := by
      rcases m4 with ⟨⟨q, q1, -⟩, -⟩ | ⟨-, h⟩
      · omega
      · exact h
    refine ⟨nI c, si, sq, A, mi', C', c, ?_, ?_, ⟨hC, (xS_a hS).2.2.2.2⟩, by omega, h82, m5.1, by rw [m5.2]; exact h83, fun _ _ _ _ => rfl, fun _ _ _ => rfl, fun _ _ _ => rfl, m2, m3⟩
    · unfold b_X10_lines_57
      simp only [xg_EF_1, Option.bind_some, xr_g r31.1, h3, if_pos (show nI o ≤ nI o from nI_le (Nat.le_refl _) (by omega)), xg_EF_10, xg_Ll_1, h82]
    · conv => lhs; unfold b_X11_lines_42
      simp only [mg_textSize, Option.bind_some, h3m, if_neg (show ¬ nI o < nI o from nI_nlt (Nat.le_refl _) (by omega)), if_true]
      rw [m1]
      unfold b_X11_lines_42
      rw [mg_textSize, Option.bind_some, m2 3 (by decide) (by decide), h3m, if_pos (nI_lt (by omega) (by omega)), mg_lineCount, Option.bind_some, m5.1]
  | succ w ih =>
    intro o fx fm N c T si sq A mi C hw ho hfx hfm hc h3 hA h82 hS hC h3m h21 h24 h44 hCt h83
    obtain ⟨e, e1, e2, e3, e4⟩ := line_end (tx := tx) (n := n) (n - o) o ho (Nat.le_refl _)
    by_cases hend : o = n
    · -- nothing is left
      have := ih o fx fm N c T si sq A mi C (by omega) ho hfx hfm hc h3 hA h82 hS hC h3m h21 h24 h44 hCt h83
      exact this
    · obtain ⟨fx, rfl⟩ : ∃ f, fx = f + 1 + (e - o) := ⟨fx - 1 - (e - o), by omega⟩
      obtain ⟨fm, rfl⟩ : ∃ f, fm = f + 1 + 1 + (e - o) := ⟨fm - 2 - (e - o), by omega⟩
      obtain ⟨si1, sq1, A1, lst, x1, x2, x3, x4, x5, x6, x7, x8, x9⟩ := x_ln (x := x) (sl := sl) (g := g) (B := B) (P := P) (s := s) (k := k) (o := o) (e := e) (n := n) (N := N) (c := c) (sw := sw) (mt := fun i q => mtx (B (P + 1)) (B (P + 2)) tx i (o + q)) (tx := tx) hP hsP hs hs1 hk hn htx (fun i hi q hq => rfl) e2 e3 (by omega) (e - o) 0 T si sq A (by omega) h3 hA h82 hS hC
      have m0 := m_lskip (y := y) (mi := mi) (ml := ml) (C := C) (E := E) (g := g2) (n := n) (k := k) (N := N) (o := o) (tx := tx) h3m hn hCt (e - o) o (by omega) (fun q q1 q2 => e3 q q1 (by omega)) (fm + 1 + 1)
      rw [Nat.add_sub_of_le e1] at m0
      obtain ⟨mi1, C1, m1, m2, m3, m4⟩ := m_lend (y := y) (mi := mi) (ml := ml) (g := g2) (E := E) (C := C) (f := fm + 1) (N := N) (o := o) (e := e) (s := s) (c := c) (sw := sw) (mt := fun i q => mtx (B (P + 1)) (B (P + 2)) tx i (o + q)) hk (by omega) e1 (by omega) (by omega) h21 h24 h44 (fun j hj => by
        obtain ⟨b, hb, hbt⟩ := okB_nat (htx (o + j) (by omega))
        refine ⟨b, hb, by rw [hCt _ (by omega)]; exact hbt, fun i hi => ?_⟩
        rw [(hE i hi).1, (hE i hi).2]
        exact (mtx_n hbt hb).symm)
      have em : b_X11_lines_42 (fm + 1 + 1 + (e - o)) (mh y mi ml C E g2) y (nI k) (nI N) (nI o) (nI o) = b_X11_lines_42 (fm + 1) (mh y mi1 ml C1 E g2) y (nI k) (nI (N + 1)) (nI (e + 1)) (nI (e + 1)) := by
        rw [m0, ← m1]
        conv => lhs; unfold b_X11_lines_42
        rw [mg_textSize, Option.bind_some, h3m, if_neg (nI_nlt e2 (by omega)), Option.bind_some]
        rcases e4 with rfl | ⟨h1, h2⟩
        · rw [if_pos rfl]
        · rw [if_neg (fun q => by have := (nI_eq (by omega) (by omega)).mp q; omega), mr_text, Option.bind_some, ml_text (by omega), Option.bind_some, hCt _ h1, h2, if_pos rfl]
      -- what was counted
      have hcnt : ∃ c1, (c1 = c ∨ (c1 = c + 1 ∧ o < e)) ∧ si1 82 1 = nI c1 ∧ mi1 44 = nI c1 ∧ ∀ q, q < c1 → A1 83 q = C1 27 q := by
        rcases m4 with ⟨h1, h2, h3'⟩ | ⟨h1, h2, h3'⟩
        · obtain ⟨q, q1, q2⟩ := h1
          have hl : lst = true := x4.mpr ⟨q, Nat.zero_le _, q1, q2⟩
          refine ⟨c + 1, Or.inr ⟨rfl, by omega⟩, (x6 hl).1, h2, fun q hq => ?_⟩
          rw [(x6 hl).2, h3']
          by_cases hqc : q = c
          · subst hqc; rw [pk_us, pk_us]
          · rw [pk_un hqc, pk_un hqc]; exact h83 q (by omega)
        · have hl : lst = false := by
            cases hl : lst
            · rfl
            · exfalso
              obtain ⟨q, -, q1, q2⟩ := x4.mp hl
              exact h1 ⟨q, q1, q2⟩
          exact ⟨c, Or.inl rfl, (x5 hl).1, h2, fun q hq => by rw [(x5 hl).2, h3']; exact h83 q hq⟩
      obtain ⟨c1, hc1, c2, c3, c4⟩ := hcnt
      clear m4 x4 x5 x6
      rcases e4 with rfl | ⟨h1, h2⟩
      · refine ⟨nI c1, si1, sq1, A1, mi1, C1, c1, ?_, ?_, ⟨x2, x3.2.2.2.2⟩, by omega, c2, c3, c4, x7, x8, x9, m2, m3⟩
        · refine (x1 (fx + 1)).trans ?_
          unfold b_X10_lines_57
          have h31 : si1 3 1 = nI e := by rw [x7 3 1 (by decide) (by decide)]; exact h3
          simp only [xg_EF_1, Option.bind_some, xr_g r31.1, h31, if_pos (show nI e ≤ nI e from nI_le (Nat.le_refl _) (by omega)), xg_EF_10, xg_Ll_1, c2]
        · rw [em]
          unfold b_X11_lines_42
          rw [mg_textSize, Option.bind_some, m2 3 (by decide) (by decide), h3m, if_pos (nI_lt (by omega) (by omega)), mg_lineCount, Option.bind_some, c3]
      · obtain ⟨si2, A2, x10, x11, x12⟩ := x_restart (x := x) (si := si1) (sq := sq1) (sl := sl) (A := A1) (B := B) (g := g) (o := e + 1) (fun i q => mtx (B (P + 1)) (B (P + 2)) tx i (e + 1 + q)) hs hk (by omega) x3 x2
        obtain ⟨r, si', sq', A', mi', C', c', k1, k2, k3, k4, k5, k6, k7, k8, k9, k10, k11, k12⟩ := ih (e + 1) fx (fm + 1) (N + 1) c1 (min s k) si2 sq1 A2 mi1 C1 (by omega) (by omega) (by omega) (by omega) (by omega) (by rw [x12.1 3 1 (by decide), x7 3 1 (by decide) (by decide)]; exact h3) (by rw [x12.2.2 4 (by decide), x9 4 (by decide) (by decide)]; exact hA) (by rw [x12.1 82 1 (by decide)]; exact c2) x11 x2 (by rw [m2 3 (by decide) (by decide)]; exact h3m) (by rw [m2 21 (by decide) (by decide)]; exact h21) (by rw [m2 24 (by decide) (by decide)]; exact h24) c3 (by rw [m3 2 (by decide) (by decide)]; exact hCt) (by rw [x12.2.2 83 (by decide)]; exact c4)
        refine ⟨r, si', sq', A', mi', C', c', ?_, ?_, k3, k4, k5, k6, k7, ?_, ?_, ?_, ?_, ?_⟩
        · refine (x1 (fx + 1)).trans ?_
          rw [← k1]
          conv => lhs; unfold b_X10_lines_57
          have h31 : si1 3 1 = nI n := by rw [x7 3 1 (by decide) (by decide)]; exact h3
          have h41 : A1 4 e = 10 := by rw [x9 4 (by decide) (by decide), hA e h1]; exact h2
          simp only [xg_EF_1, Option.bind_some, xr_g r31.1, h31, if_neg (show ¬ nI n ≤ nI e from nI_ge (by omega) (by omega)), xr_is r31.1, x_get r31.1 h31 h1 (show n ≤ rlen 3 from hn), zbp_some, h41, if_true, xg_EF_7, xo_Se, nI_1, x10]
          unfold b_X10_lines_144
          rw [nI_1]
        · rw [em]; exact k2
        · intro q f q1 q2
          rw [k8 q f q1 q2, x12.1 q f q1, x7 q f q1 q2]
        · intro q f q1
          rw [k9 q f q1, x8 q f q1]
        · intro q q1 q2
          rw [k10 q q1 q2, x12.2.2 q q1, x9 q q1 q2]
        · intro q q1 q2
          rw [k11 q q1 q2, m2 q q1 q2]
        · intro q q1 q2
          rw [k12 q q1 q2, m3 q q1 q2]
theorem op_lines (p k : Int32) (sw : Bool) (hX : rText si A mi C) (hP : rPats si B C E) (hS : rSx si sq) (hL : rLines si A mi C) : ∃ r si' sq' A' mi' C' E', b_X10_lines_0 (xh x si sq sl A B g) x p k (bI sw) = some (r, xh x si' sq' sl A' B g) ∧ b_X11_lines_0 (mh y mi ml C E g2) y p k (bI sw) = some (r, mh y mi' ml C' E' g2) ∧ rSx si' sq' ∧ rLines si' A' mi' C' ∧ (∀ k j, k ≠ 53 → k ≠ 82 → si' k j = si k j) ∧ (∀ k j, k ≠ 53 → sq' k j = sq k j) ∧ (∀ k, (k < 57 ∨ 59 < k) → k ≠ 83 → A' k = A k) ∧ (∀ k, k ≠ 21 → k ≠ 23 → k ≠ 24 → k ≠ 44 → mi' k = mi k) ∧ (∀ k, k < 12 ∨ 18 < k → k ≠ 27 → C' k = C k) ∧ (∀ k, k ≠ 10 → k ≠ 11 → E' k = E k) := by
  rcases pat_cases p hP with h | ⟨q, hq, rfl, s, hs, s1, s2, s3⟩
  · refine ⟨-2, si, sq, A, mi, C, E, ?_, ?_, hS, hL, fun _ _ _ _ => rfl, fun _ _ _ => rfl, fun _ _ _ => rfl, fun _ _ _ _ _ => rfl, fun _ _ _ => rfl, fun _ _ _ => rfl⟩
    · unfold b_X10_lines_0
      simp only [xo_EF, Option.bind_some, x_isPattern_f h, zbp_some, if_true]
      rfl
    · unfold b_X11_lines_0
      simp only [mis, Option.bind_some, m_isThere_f h, zbp_some, if_true]
      rfl
  · by_cases h0 : s = 0
    · subst h0
      refine ⟨-2, si, sq, A, mi, C, E, ?_, ?_, hS, hL, fun _ _ _ _ => rfl, fun _ _ _ => rfl, fun _ _ _ => rfl, fun _ _ _ _ _ => rfl, fun _ _ _ => rfl, fun _ _ _ => rfl⟩
      · unfold b_X10_lines_0
        simp only [xo_EF, Option.bind_some, x_isPattern_0 hq s1, zbp_some, if_true]
        rfl
      · unfold b_X11_lines_0
        simp only [mis, Option.bind_some, m_isThere_0 hq s2, zbp_some, if_true]
        rfl
    · rcases i_range (a := k) (n := 200) (by decide) with ⟨k, hk, rfl⟩ | hk
      · obtain ⟨n, hn, n1, n2, n3⟩ := hX
        obtain ⟨si2, sq2, x4, x5, x6, x7⟩ := x_aim_s (x := x) (si := u2 si 82 1 0) (sq := sq) (sl := sl) (A := A) (B := B) (g := g) (P := 20 + 3 * q) (s := s) (k := k) (sw := sw) (set_p hq) (by rw [u2_n (Or.inl (by omega))]; exact s1) hs hS.1 (by rw [u2_n (Or.inl (by omega))]; exact hS.2)
        obtain ⟨si3, A3, x8, x9, x10⟩ := x_restart (x := x) (sl := sl) (A := A) (B := B) (g := g) (o := 0) (fun i j => mtx (B (20 + 3 * q + 1)) (B (20 + 3 * q + 2)) (C 2) i (0 + j)) hs hk (by omega) x5 x6
        have fxx := fX_t x7 x10
        obtain ⟨E1, m1, m2, m3⟩ := m_loadPattern (y := y) (mi := mi) (ml := ml) (E := E) (g := g2) hq s2 hs
        let mi2 := upd (upd (upd mi 21 (nI s)) 24 (bI sw)) 44 0
        have mi21 : mi2 21 = nI s := by
          show upd (upd (upd mi 21 (nI s)) 24 (bI sw)) 44 0 21 = _
          rw [pk_un (by decide), pk_un (by decide), pk_us]
        have mi24 : mi2 24 = bI sw := by
          show upd (upd (upd mi 21 (nI s)) 24 (bI sw)) 44 0 24 = _
          rw [pk_un (by decide), pk_us]
        have mi44 : mi2 44 = nI 0 := pk_us
        have mio : ∀ f, f ≠ 21 → f ≠ 24 → f ≠ 44 → mi2 f = mi f := by
          intro f a1 a2 a3
          show upd (upd (upd mi 21 (nI s)) 24 (bI sw)) 44 0 f = _
          rw [pk_un a3, pk_un a2, pk_un a1]
        obtain ⟨r, si', sq', A', mi', C', c', k1, k2, k3, k4, k5, k6, k7, k8, k9, k10, k11, k12⟩ := lines_lp (x := x) (sl := sl) (B := B) (g := g) (g2 := g2) (y := y) (ml := ml) (E := E1) (P := 20 + 3 * q) (s := s) (k := k) (n := n) (sw := sw) (tx := C 2) (set_p hq) (by rw [slen_p hq]; exact hs) hs (by omega) hk hn (fun j hj => (n3 j hj).2) (by
          intro i hi
          rw [(m3 i hi).1, (m3 i hi).2, show 20 + 3 * q + 1 = 21 + 3 * q by omega, show 20 + 3 * q + 2 = 22 + 3 * q by omega, (s3 i hi).1, (s3 i hi).2]
          exact ⟨rfl, rfl⟩) n 0 zFuel zFuel 0 0 (min s k) si3 sq2 A3 mi2 C (by omega) (by omega) (zF_lt (by omega)) (zF_lt (by omega)) (by omega) (by
          rw [fxx.1 3 1 (by decide), u2_n (Or.inl (by decide))]; exact n1) (by
          intro j hj
          rw [fxx.2.2 4 (by decide)]
          exact (n3 j hj).1) (by rw [fxx.1 82 1 (by decide), u2_s]; rfl) x9 x6 ((mio 3 (by decide) (by decide) (by decide)).trans n2) mi21 mi24 mi44 (fun _ _ => rfl) (fun q h => absurd h (Nat.not_lt_zero _))
        refine ⟨r, si', sq', A', mi', C', E1, ?_, ?_, k3, ⟨c', k4, k5, k6, k7⟩, ?_, ?_, ?_, ?_, k12, m2⟩
        · unfold b_X10_lines_0 b_X3_clear_0
          simp only [xo_EF, Option.bind_some, x_isPattern_t hq s1 (show 0 < s by omega) hs, zbp_some, if_neg (show ¬ (1 : Int32) = 0 by decide), x_isEdits_t hk, xg_EF_10, xo_Ll, xp_Ll_1, xg_EF_7, xg_EF_4, xpr hq, xo_Se]
          rw [show b_X6_aim_0 (xh x (u2 si 82 1 0) sq sl A B g) (x + 53) (x + (20 + 3 * q)) (nI k) (bI sw) = _ from x4]
          simp only [Option.bind_some, xg_EF_7, xo_Se]
          rw [show (0 : Int32) = nI 0 from rfl, x8, Option.bind_some]
          exact k1
        · unfold b_X11_lines_0
          simp only [mis, Option.bind_some, m_isThere_t hq s2 (show 0 < s by omega) hs, zbp_some, if_neg (show ¬ (1 : Int32) = 0 by decide), m_isEdits_t hk, m1, mz_swapping (bI_01 sw), mp_lineCount]
          exact k2
        · intro f j h1 h2
          rw [k8 f j h1 h2, fxx.1 f j h1, u2_n (Or.inl h2)]
        · intro f j h1
          rw [k9 f j h1, x7.2.1 f j h1]
        · intro f h1 h2
          rw [k10 f h1 h2, fxx.2.2 f h1]
        · intro f h1 h2 h3 h4
          rw [k11 f h2 h4, mio f h1 h3 h4]
      · refine ⟨-2, si, sq, A, mi, C, E, ?_, ?_, hS, hL, fun _ _ _ _ => rfl, fun _ _ _ => rfl, fun _ _ _ => rfl, fun _ _ _ _ _ => rfl, fun _ _ _ => rfl, fun _ _ _ => rfl⟩
        · unfold b_X10_lines_0
          simp only [xo_EF, Option.bind_some, x_isPattern_t hq s1 (show 0 < s by omega) hs, zbp_some, if_neg (show ¬ (1 : Int32) = 0 by decide), x_isEdits_f hk, if_true]
          rfl
        · unfold b_X11_lines_0
          simp only [mis, Option.bind_some, m_isThere_t hq s2 (show 0 < s by omega) hs, zbp_some, if_neg (show ¬ (1 : Int32) = 0 by decide), m_isEdits_f hk, if_true]
          rfl
end OL
