/-! REPLACE, the whole call -/
section OR
variable {x : Nat} {si : Nat → Nat → Int32} {sq : Nat → Nat → Nat} {sl : Nat → Nat → Int64} {A : Nat → Nat → Int32} {B : Nat → Nat → Int64} {g g2 : zh_H}
variable {y : Nat} {mi : Nat → Int32} {ml : Nat → Int64} {C : Nat → Nat → Int32} {E : Nat → Nat → Int64}
theorem x_rend {o n c z f : Nat} (h3 : si 3 1 = nI n) (hn : n ≤ 1500) (ho : o ≤ n) (h5 : si 5 1 = nI z) (hz : z ≤ 1500) : b_X10_draftReplaced_21 (f + 1) (xh x si sq sl A B g) x (nI o) (nI c) (nI (n + 1)) = if z + (n - o) ≤ 1500 then some (nI c, xh x (u2 si 5 1 (nI (z + (n - o)))) sq sl (ua A 6 (va_cpy (A 4) (A 6) o z (n - o))) B g) else some (-3, xh x si sq sl A B g) := by
  unfold b_X10_draftReplaced_21 b_X10_draftReplaced_164
  rw [xg_EF_1, Option.bind_some, xr_g r31.1, Option.bind_some, h3, if_pos (nI_lt (by omega) (by omega)), xg_EF_2, Option.bind_some, Option.bind_some, Option.bind_some, xr_g r31.1, Option.bind_some, h3, xr_is r5, Option.bind_some]
  by_cases q1 : z + (n - o) ≤ 1500
  · rw [if_pos q1, x_addPart_t (x := x) (n := z) (m := n) r5 r31.1 h5 h3 ho (Nat.le_refl _) (show n ≤ rlen 3 from hn) (show z + (n - o) ≤ 1500 from q1), zbp_some, if_neg (by decide)]
  · rw [if_neg q1, x_addPart_f (x := x) (n := z) (m := n) r5 r31.1 h5 h3 ho (Nat.le_refl _) (show n ≤ rlen 3 from hn) (show z ≤ 1500 from hz) (show 1500 < z + (n - o) by omega), zbp_some, if_pos rfl]
theorem rep_lp {P s k n t : Nat} {sw : Bool} {tx tp : Nat → Int32} (hP : isSet P) (hsP : s ≤ slen P) (hs : s ≤ 200) (hs1 : 1 ≤ s) (hk : k ≤ 200) (hn : n ≤ 1500) (ht : t ≤ 400) (htx : ∀ q, q < n → okB (tx q)) (htp : ∀ q, q < t → okB (tp q)) (hE : ∀ i, i < s → E 10 i = B (P + 1) i ∧ E 11 i = B (P + 2) i) : ∀ (w o fx fm c z T : Nat) (si : Nat → Nat → Int32) (sq : Nat → Nat → Nat) (A : Nat → Nat → Int32) (mi : Nat → Int32) (C : Nat → Nat → Int32), n - o ≤ w → o ≤ n → n - o < fx → w + 2 < fm → z ≤ 1500 → z ≤ 401 * o → c ≤ o → si 3 1 = nI n → (∀ q, q < n → A 4 q = tx q) → si 1 1 = nI t → (∀ q, q < t → A 2 q = tp q) → si 5 1 = nI z → xS si sq A B P s k o sw (fun i q => mtx (B (P + 1)) (B (P + 2)) tx i (o + q)) 0 T → xC sq → mi 1 = nI t → mi 3 = nI n → mi 21 = nI s → mi 24 = bI sw → (∀ q, q < n → C 2 q = tx q) → (∀ q, q < t → C 1 q = tp q) → rB (A 6) (C 28) z → ∃ r si' sq' A', b_X10_draftReplaced_21 fx (xh x si sq sl A B g) x (nI o) (nI c) (nI (o + 0 + 1)) = some (r, xh x si' sq' sl A' B g) ∧ rSx si' sq' ∧ (∀ k j, k ≠ 53 → k ≠ 5 → si' k j = si k j) ∧ (∀ k j, k ≠ 53 → sq' k j = sq k j) ∧ (∀ k, (k < 57 ∨ 59 < k) → k ≠ 6 → A' k = A k) ∧ ∃ mi' C', (∀ q, q ≠ 23 → mi' q = mi q) ∧ (∀ q, q < 12 ∨ 18 < q → q ≠ 28 → C' q = C q) ∧ ((r = -3 ∧ b_X11_replace_40 fm (mh y mi ml C E g2) y (nI k) (nI z) (nI c) (nI o) 1 = some (-3, mh y mi' ml C' E g2)) ∨ (∃ c' z' f' o', r = nI c' ∧ c' ≤ n ∧ z' ≤ 1500 ∧ si' 5 1 = nI z' ∧ rB (A' 6) (C' 28) z' ∧ b_X11_replace_40 fm (mh y mi ml C E g2) y (nI k) (nI z) (nI c) (nI o) 1 = b_X11_replace_40 (f' + 1) (mh y mi' ml C' E g2) y (nI k) (nI z') (nI c') o' 0)) := by
  intro w
  induction w with
  | zero =>
    intro o fx fm c z T si sq A mi C hw ho hfx hfm hz hzo hc h3 hA h1 hA2 h5 hS hC h1m h3m h21 h24 hCt hCp hD
    obtain rfl : o = n := by omega
    obtain ⟨fx, rfl⟩ : ∃ f, fx = f + 1 := ⟨fx - 1, by omega⟩
    obtain ⟨fm, rfl⟩ : ∃ f, fm = f + 1 + 1 := ⟨fm - 2, by omega⟩
    obtain ⟨mi', C', a1, a2, a3⟩ := m_rep_it (y := y) (ml := ml) (E := E) (g := g2) (C := C) (s := s) (k := k) (o := o) (n := o) (t := t) (z := z) (c := c) (f := fm + 1) (sw := sw) (mt := fun i q => mtx (B (P + 1)) (B (P + 2)) tx i (o + q)) hk hn ho (by omega) ht (by omega) h1m h3m h21 h24 (fun j hj => by omega)
    have ex := x_rend (x := x) (sq := sq) (sl := sl) (A := A) (B := B) (g := g) (c := c) (f := fx) h3 hn ho h5 hz
    rcases a3 with ⟨j, b, j1, -⟩ | ⟨-, e, hq⟩
    · omega
    · rw [if_pos (by omega)] at ex
      refine ⟨nI c, _, sq, _, ex, ⟨hC, by rw [u2_n (Or.inl (by decide))]; exact (xS_a hS).2.2.2.2⟩, fun q f _ h2 => by rw [u2_n (Or.inl h2)], fun _ _ _ => rfl, fun q _ h2 => by rw [ua_n h2], mi', C', a1, a2, Or.inr ⟨c, z + (o - o), fm, nI o, rfl, by omega, by omega, u2_s, ?_, e⟩⟩
      intro q hq2
      rw [ua_s, pk_cpy_out (by omega), hq q (by omega), if_neg (by omega)]
      exact hD q (by omega)
  | succ w ih =>
    intro o fx fm c z T si sq A mi C hw ho hfx hfm hz hzo hc h3 hA h1 hA2 h5 hS hC h1m h3m h21 h24 hCt hCp hD
    obtain ⟨fm, rfl⟩ : ∃ f, fm = f + 1 + 1 := ⟨fm - 2, by omega⟩
    obtain ⟨mi', C', a1, a2, a3⟩ := m_rep_it (y := y) (ml := ml) (E := E) (g := g2) (C := C) (s := s) (k := k) (o := o) (n := n) (t := t) (z := z) (c := c) (f := fm + 1) (sw := sw) (mt := fun i q => mtx (B (P + 1)) (B (P + 2)) tx i (o + q)) hk hn ho (by omega) ht (by omega) h1m h3m h21 h24 (fun j hj => by
      obtain ⟨b, hb, hbt⟩ := okB_nat (htx (o + j) (by omega))
      refine ⟨b, hb, by rw [hCt _ (by omega)]; exact hbt, fun i hi => ?_⟩
      rw [(hE i hi).1, (hE i hi).2]
      exact (mtx_n hbt hb).symm)
    rcases a3 with ⟨j, b, j1, j2, j3, j4, j5, e, hq⟩ | ⟨hno, e, hq⟩
    · obtain ⟨fx, rfl⟩ : ∃ f, fx = f + 1 + j := ⟨fx - 1 - j, by omega⟩
      obtain ⟨si1, sq1, A1, T1, x1, x2, x3, x4⟩ := x_rskip (x := x) (sl := sl) (g := g) (B := B) (P := P) (s := s) (k := k) (o := o) (n := n) (c := c) (sw := sw) (mt := fun i q => mtx (B (P + 1)) (B (P + 2)) tx i (o + q)) (tx := tx) hP hsP hs hs1 hk hn htx (fun i hi q hq => rfl) j 0 T si sq A (by omega) (fun q q1 q2 => j3 q (by omega)) h3 hA hS hC
      rw [Nat.zero_add] at x1 x2
      obtain ⟨si2, sq2, A2, b2, y1, y2, y3, y4, y5, y6, y7⟩ := x_rhit (x := x) (sl := sl) (g := g) (B := B) (P := P) (s := s) (k := k) (o := o) (n := n) (c := c) (j := j) (z := z) (t := t) (sw := sw) (mt := fun i q => mtx (B (P + 1)) (B (P + 2)) tx i (o + q)) (mt' := fun i q => mtx (B (P + 1)) (B (P + 2)) tx i (o + (j + 1) + q)) (tx := tx) hP hsP hs hs1 hk hn htx (fun i hi q hq => rfl) (by omega) (by rw [x4.1 3 1 (by decide)]; exact h3) (by rw [x4.2.2 4 (by decide)]; exact hA) (by rw [x4.1 5 1 (by decide)]; exact h5) hz (by rw [x4.1 1 1 (by decide)]; exact h1) ht x2 x3 j2
      obtain rfl : b2 = b := by rw [y1, j4]
      rcases y7 with ⟨y8, y9⟩ | ⟨y8, y9, y10, y11, y12⟩
      · obtain ⟨mi2, C2, b1, b3, b4⟩ := m_rep_no (y := y) (ml := ml) (E := E) (g := g2) (s := s) (k := k) (n := n) (t := t) (sw := sw) (tx := tx) hk hn (by omega) ht htx w (o + (j + 1)) (z + b2 + t) (c + 1) (fm + 1) mi' C' (by omega) (by omega) (by omega) y8 (by omega) (by rw [a1 1 (by decide)]; exact h1m) (by rw [a1 3 (by decide)]; exact h3m) (by rw [a1 21 (by decide)]; exact h21) (by rw [a1 24 (by decide)]; exact h24) (by rw [a2 2 (by decide) (by decide)]; exact hCt)
        refine ⟨-3, si2, sq2, A2, (x1 (fx + 1)).trans (y9 fx), ⟨y2, y3⟩, ?_, ?_, ?_, mi2, C2, fun q hq => by rw [b3 q hq, a1 q hq], fun q q1 q2 => by rw [b4 q q1 q2, a2 q q1 q2], Or.inl ⟨rfl, by rw [e, b1]⟩⟩
        · intro q f q1 q2
          rw [y4 q f q1 q2, x4.1 q f q1]
        · intro q f q1
          rw [y5 q f q1, x4.2.1 q f q1]
        · intro q q1 q2
          rw [y6 q q1 q2, x4.2.2 q q1]
      · obtain ⟨r, si', sq', A', k1, k2, k3, k4, k5, mi2, C2, k6, k7, k8⟩ := ih (o + (j + 1)) fx (fm + 1) (c + 1) (z + b2 + t) (min s k) si2 sq2 A2 mi' C' (by omega) (by omega) (by omega) (by omega) y8 (by omega) (by omega) (by rw [y4 3 1 (by decide) (by decide), x4.1 3 1 (by decide)]; exact h3) (by rw [y6 4 (by decide) (by decide), x4.2.2 4 (by decide)]; exact hA) (by rw [y4 1 1 (by decide) (by decide), x4.1 1 1 (by decide)]; exact h1) (by rw [y6 2 (by decide) (by decide), x4.2.2 2 (by decide)]; exact hA2) y11 y10 y2 (by rw [a1 1 (by decide)]; exact h1m) (by rw [a1 3 (by decide)]; exact h3m) (by rw [a1 21 (by decide)]; exact h21) (by rw [a1 24 (by decide)]; exact h24) (by rw [a2 2 (by decide) (by decide)]; exact hCt) (by rw [a2 1 (by decide) (by decide)]; exact hCp) (by
          intro q hq2
          rw [y12, hq q (by omega)]
          by_cases p1 : z + b2 ≤ q ∧ q < z + b2 + t
          · rw [if_pos p1, if_pos p1, x4.2.2 2 (by decide), hA2 _ (by omega), hCp _ (by omega)]
            exact ⟨rfl, htp _ (by omega)⟩
          · rw [if_neg p1, if_neg p1]
            by_cases p2 : z ≤ q ∧ q < z + b2
            · rw [if_pos p2, if_pos p2, x4.2.2 4 (by decide), hA _ (by omega), hCt _ (by omega)]
              exact ⟨rfl, htx _ (by omega)⟩
            · rw [if_neg p2, if_neg p2, x4.2.2 6 (by decide)]
              exact hD q (by omega))
        refine ⟨r, si', sq', A', (x1 (fx + 1)).trans ((y9 fx).trans k1), k2, ?_, ?_, ?_, mi2, C2, fun q hq => by rw [k6 q hq, a1 q hq], fun q q1 q2 => by rw [k7 q q1 q2, a2 q q1 q2], by rw [e]; exact k8⟩
        · intro q f q1 q2
          rw [k3 q f q1 q2, y4 q f q1 q2, x4.1 q f q1]
        · intro q f q1
          rw [k4 q f q1, y5 q f q1, x4.2.1 q f q1]
        · intro q q1 q2
          rw [k5 q q1 q2, y6 q q1 q2, x4.2.2 q q1]
    · obtain ⟨fx, rfl⟩ : ∃ f, fx = f + 1 + (n - o) := ⟨fx - 1 - (n - o), by omega⟩
      obtain ⟨si1, sq1, A1, T1, x1, x2, x3, x4⟩ := x_rskip (x := x) (sl := sl) (g := g) (B := B) (P := P) (s := s) (k := k) (o := o) (n := n) (c := c) (sw := sw) (mt := fun i q => mtx (B (P + 1)) (B (P + 2)) tx i (o + q)) (tx := tx) hP hsP hs hs1 hk hn htx (fun i hi q hq => rfl) (n - o) 0 T si sq A (by omega) (fun q q1 q2 => hno q (by omega)) h3 hA hS hC
      rw [Nat.zero_add, Nat.add_sub_of_le ho] at x1
      have ex := x_rend (x := x) (si := si1) (sq := sq1) (sl := sl) (A := A1) (B := B) (g := g) (c := c) (f := fx) (by rw [x4.1 3 1 (by decide)]; exact h3) hn ho (by rw [x4.1 5 1 (by decide)]; exact h5) hz
      by_cases q1 : z + (n - o) ≤ 1500
      · rw [if_pos q1] at ex
        refine ⟨nI c, _, sq1, _, (x1 (fx + 1)).trans ex, ⟨x3, by rw [u2_n (Or.inl (by decide))]; exact (xS_a x2).2.2.2.2⟩, fun q f h1 h2 => by rw [u2_n (Or.inl h2), x4.1 q f h1], x4.2.1, fun q h1 h2 => by rw [ua_n h2, x4.2.2 q h1], mi', C', a1, a2, Or.inr ⟨c, z + (n - o), fm, nI o, rfl, by omega, q1, u2_s, ?_, e⟩⟩
        intro q hq2
        rw [ua_s, hq q (by omega)]
        by_cases p2 : z ≤ q ∧ q < z + (n - o)
        · rw [if_pos p2, pk_cpy_in p2.1 p2.2, x4.2.2 4 (by decide), hA _ (by omega), hCt _ (by omega)]
          exact ⟨rfl, htx _ (by omega)⟩
        · rw [if_neg p2, pk_cpy_out (by omega), x4.2.2 6 (by decide)]
          exact hD q (by omega)
      · rw [if_neg q1] at ex
        refine ⟨-3, si1, sq1, A1, (x1 (fx + 1)).trans ex, ⟨x3, (xS_a x2).2.2.2.2⟩, fun q f h1 h2 => x4.1 q f h1, x4.2.1, fun q h1 h2 => x4.2.2 q h1, mi', C', a1, a2, Or.inl ⟨rfl, ?_⟩⟩
        rw [e]
        unfold b_X11_replace_40
        rw [if_pos rfl, if_neg (show ¬ nI (z + (n - o)) ≤ (1500 : Int32) from nI_ge (a := 1500) (by omega) (by omega))]
theorem m_rep251 {z : Nat} {r : Int32} (hz : z ≤ 1500) : ∀ (fuel i : Nat) (C : Nat → Nat → Int32), i ≤ z → z - i < fuel → (∀ q, q < i → C 2 q = C 28 q) → ∃ C', b_X11_replace_251 fuel (mh y mi ml C E g) y (nI z) r (nI i) = some (r, mh y (upd (upd mi 3 (nI z)) 1 0) ml C' E g) ∧ (∀ q, q ≠ 2 → C' q = C q) ∧ ∀ q, q < z → C' 2 q = C 28 q := by
  intro fuel
  induction fuel with
  | zero => intro i C _ h; omega
  | succ f ih =>
    intro i C hi hf hv
    unfold b_X11_replace_251
    by_cases hiz : i < z
    · rw [if_neg (nI_ge hiz (by omega))]
      simp only [mr_text, mr_built, Option.bind_some, ml_built (show i < 1501 by omega), ms_text (show i < 1500 by omega), nI_1]
      obtain ⟨C', e, n1, n2⟩ := ih (i + 1) (ua C 2 (upd (C 2) i (C 28 i))) (by omega) (by omega) (by
        intro q hq
        rw [ua_s, ua_n (show 28 ≠ 2 by decide)]
        by_cases hqi : q = i
        · subst hqi; exact pk_us
        · rw [pk_un hqi]; exact hv q (by omega))
      exact ⟨C', e, fun q hq => by rw [n1 q hq, ua_n hq], fun q hq => by rw [n2 q hq, ua_n (show 28 ≠ 2 by decide)]⟩
    · rw [if_pos (nI_le (by omega) (by omega)), mp_textSize, Option.bind_some, mp_tapeSize, Option.bind_some]
      exact ⟨C, rfl, fun _ _ => rfl, fun q hq => hv q (by omega)⟩
theorem nI_m3 {c : Nat} (hc : c < 2 ^ 31) : ¬ nI c = (-3 : Int32) := by
  intro h
  have := nI_pos hc
  rw [h] at this
  exact this (by decide)
theorem op_replace (p k : Int32) (sw : Bool) (hT : rTape si A mi C) (hX : rText si A mi C) (hH : rHist si A mi C) (hP : rPats si B C E) (hS : rSx si sq) : ∃ r si' sq' A' mi' C' E', b_X10_replace_0 (xh x si sq sl A B g) x p k (bI sw) = some (r, xh x si' sq' sl A' B g) ∧ b_X11_replace_0 (mh y mi ml C E g2) y p k (bI sw) = some (r, mh y mi' ml C' E' g2) ∧ rTape si' A' mi' C' ∧ rText si' A' mi' C' ∧ rHist si' A' mi' C' ∧ rSx si' sq' ∧ (∀ k j, k ≠ 53 → k ≠ 5 → k ≠ 1 → k ≠ 3 → k ≠ 7 → (k < 9 ∨ 18 ≤ k) → si' k j = si k j) ∧ (∀ k j, k ≠ 53 → sq' k j = sq k j) ∧ (∀ k, (k < 57 ∨ 59 < k) → k ≠ 6 → k ≠ 4 → (k < 10 ∨ 18 < k) → A' k = A k) ∧ (∀ k, k ≠ 21 → k ≠ 23 → k ≠ 24 → k ≠ 1 → k ≠ 3 → k ≠ 6 → mi' k = mi k) ∧ (∀ k, k < 12 ∨ 18 < k → k ≠ 28 → k ≠ 2 → k ≠ 3 → k ≠ 4 → C' k = C k) ∧ (∀ k, k ≠ 10 → k ≠ 11 → E' k = E k) := by
  rcases pat_cases p hP with h | ⟨q, hq, rfl, s, hs, s1, s2, s3⟩
  · refine ⟨-2, si, sq, A, mi, C, E, ?_, ?_, hT, hX, hH, hS, fun _ _ _ _ _ _ _ _ => rfl, fun _ _ _ => rfl, fun _ _ _ _ _ => rfl, fun _ _ _ _ _ _ _ => rfl, fun _ _ _ _ _ _ => rfl, fun _ _ _ => rfl⟩
    · unfold b_X10_replace_0
      simp only [xo_EF, Option.bind_some, x_isPattern_f h, zbp_some, if_true]
      rfl
    · unfold b_X11_replace_0
      simp only [mis, Option.bind_some, m_isThere_f h, zbp_some, if_true]
      rfl
  · by_cases h0 : s = 0
    · subst h0
      refine ⟨-2, si, sq, A, mi, C, E, ?_, ?_, hT, hX, hH, hS, fun _ _ _ _ _ _ _ _ => rfl, fun _ _ _ => rfl, fun _ _ _ _ _ => rfl, fun _ _ _ _ _ _ _ => rfl, fun _ _ _ _ _ _ => rfl, fun _ _ _ => rfl⟩
      · unfold b_X10_replace_0
        simp only [xo_EF, Option.bind_some, x_isPattern_0 hq s1, zbp_some, if_true]
        rfl
      · unfold b_X11_replace_0
        simp only [mis, Option.bind_some, m_isThere_0 hq s2, zbp_some, if_true]
        rfl
    · rcases i_range (a := k) (n := 200) (by decide) with ⟨k, hk, rfl⟩ | hk
      · obtain ⟨n, hn, n1, n2, n3⟩ := id hX
        obtain ⟨t, ht, t1, t2, t3⟩ := id hT
        obtain ⟨si2, sq2, x4, x5, x6, x7⟩ := x_aim_s (x := x) (si := si) (sq := sq) (sl := sl) (A := A) (B := B) (g := g) (P := 20 + 3 * q) (s := s) (k := k) (sw := sw) (set_p hq) s1 hs hS.1 hS.2
        obtain ⟨si3, A3, x8, x9, x10⟩ := x_restart (x := x) (si := u2 si2 5 1 0) (sl := sl) (A := A) (B := B) (g := g) (o := 0) (fun i j => mtx (B (20 + 3 * q + 1)) (B (20 + 3 * q + 2)) (C 2) i (0 + j)) hs hk (by omega) (by
          unfold xA at x5 ⊢
          rw [u2_n (Or.inl (by decide)), u2_n (Or.inl (by decide)), u2_n (Or.inl (by decide)), u2_n (Or.inl (by decide))]
          exact x5) x6
        obtain ⟨E1, m1, m2, m3⟩ := m_loadPattern (y := y) (mi := mi) (ml := ml) (E := E) (g := g2) hq s2 hs
        let mi2 := upd (upd mi 21 (nI s)) 24 (bI sw)
        have mi21 : mi2 21 = nI s := by
          show upd (upd mi 21 (nI s)) 24 (bI sw) 21 = _
          rw [pk_un (by decide), pk_us]
        have mi24 : mi2 24 = bI sw := pk_us
        have mio : ∀ f, f ≠ 21 → f ≠ 24 → mi2 f = mi f := by
          intro f a1 a2
          show upd (upd mi 21 (nI s)) 24 (bI sw) f = _
          rw [pk_un a2, pk_un a1]
        have s3si : ∀ q f, q ≠ 53 → q ≠ 5 → si3 q f = si q f := by
          intro q f q1 q2
          rw [x10.1 q f q1, u2_n (Or.inl q2), x7.1 q f q1]
        have s3A : ∀ q, q < 57 ∨ 59 < q → A3 q = A q := x10.2.2
        obtain ⟨r, si', sq', A', k1, k2, k3, k4, k5, mi', C', k6, k7, k8⟩ := rep_lp (x := x) (sl := sl) (B := B) (g := g) (g2 := g2) (y := y) (ml := ml) (E := E1) (P := 20 + 3 * q) (s := s) (k := k) (n := n) (t := t) (sw := sw) (tx := C 2) (tp := C 1) (set_p hq) (by rw [slen_p hq]; exact hs) hs (by omega) hk hn ht (fun j hj => (n3 j hj).2) (fun j hj => (t3 j hj).2) (by
          intro i hi
          rw [(m3 i hi).1, (m3 i hi).2, show 20 + 3 * q + 1 = 21 + 3 * q by omega, show 20 + 3 * q + 2 = 22 + 3 * q by omega, (s3 i hi).1, (s3 i hi).2]
          exact ⟨rfl, rfl⟩) n 0 zFuel zFuel 0 0 (min s k) si3 sq2 A3 mi2 C (by omega) (by omega) (zF_lt (by omega)) (zF_lt (by omega)) (by omega) (by omega) (by omega) (by rw [s3si 3 1 (by decide) (by decide)]; exact n1) (by
          intro j hj
          rw [s3A 4 (by decide)]
          exact (n3 j hj).1) (by rw [s3si 1 1 (by decide) (by decide)]; exact t1) (by
          intro j hj
          rw [s3A 2 (by decide)]
          exact (t3 j hj).1) (by rw [x10.1 5 1 (by decide), u2_s]; rfl) x9 x6 ((mio 1 (by decide) (by decide)).trans t2) ((mio 3 (by decide) (by decide)).trans n2) mi21 mi24 (fun _ _ => rfl) (fun _ _ => rfl) (fun q h => absurd h (Nat.not_lt_zero _))
        have hsi : ∀ q f, q ≠ 53 → q ≠ 5 → si' q f = si q f := fun q f q1 q2 => (k3 q f q1 q2).trans (s3si q f q1 q2)
        have hAA : ∀ q, (q < 57 ∨ 59 < q) → q ≠ 6 → A' q = A q := fun q q1 q2 => (k5 q q1 q2).trans (s3A q q1)
        have hsq : ∀ q f, q ≠ 53 → sq' q f = sq q f := fun q f q1 => (k4 q f q1).trans (x7.2.1 q f q1)
        have hmi : ∀ q, q ≠ 21 → q ≠ 23 → q ≠ 24 → mi' q = mi q := fun q q1 q2 q3 => (k6 q q2).trans (mio q q1 q3)
        have ex : b_X10_draftReplaced_0 (xh x si2 sq2 sl A B g) x = some (r, xh x si' sq' sl A' B g) := by
          unfold b_X10_draftReplaced_0
          simp only [xg_EF_2, Option.bind_some, xr_is r5, x_clear r5, xg_EF_7, xo_Se]
          rw [show (0 : Int32) = nI 0 from rfl, show b_X6_restart_0 (xh x (u2 si2 5 1 (nI 0)) sq2 sl A B g) (x + 53) (nI 0) = _ from x8, Option.bind_some]
          exact k1
        have ex0 : b_X10_replace_0 (xh x si sq sl A B g) x (nI q) (nI k) (bI sw) = if r = (-3 : Int32) then some (r, xh x si' sq' sl A' B g) else (b_X1_keep_0 (xh x si' sq' sl A' B g) (x + 7) (x + 3)).bind fun h17 => (gR h17 x 10 1).bind fun a18 => (gR h17 x 10 2).bind fun a19 => (isO h17 a18 0).bind fun o20 => (b_X0_copyFrom_0 h17 a18 a19).bind fun h21 => (gR h21 x 10 0).bind fun a22 => (isO h21 a22 0).bind fun o23 => (b_X0_clear_0 h21 a22 ).bind fun h24 => b_X10_replace_75 h24 (r) := by
          unfold b_X10_replace_0
          simp only [xo_EF, Option.bind_some, x_isPattern_t hq s1 (show 0 < s by omega) hs, zbp_some, if_neg (show ¬ (1 : Int32) = 0 by decide), x_isEdits_t hk, xg_EF_7, xg_EF_4, xpr hq, xo_Se]
          rw [show b_X6_aim_0 (xh x si sq sl A B g) (x + 53) (x + (20 + 3 * q)) (nI k) (bI sw) = _ from x4]
          simp only [Option.bind_some, xo_EF, ex, zbp_some, xg_EF_3, xg_EF_1, xo_Hi]
          rfl
        have em0 : b_X11_replace_0 (mh y mi ml C E g2) y (nI q) (nI k) (bI sw) = b_X11_replace_40 zFuel (mh y mi2 ml C E1 g2) y (nI k) (nI 0) (nI 0) (nI 0) 1 := by
          unfold b_X11_replace_0
          simp only [mis, Option.bind_some, m_isThere_t hq s2 (show 0 < s by omega) hs, zbp_some, if_neg (show ¬ (1 : Int32) = 0 by decide), m_isEdits_t hk, m1, mz_swapping (bI_01 sw)]
          rfl
        rcases k8 with ⟨rfl, e⟩ | ⟨c', z', f', o', rfl, hc', hz', h5', hD, e⟩
        · refine ⟨-3, si', sq', A', mi', C', E1, by rw [ex0, if_pos rfl], by rw [em0, e], ?_, ?_, ?_, k2, fun f j h1 h2 _ _ _ _ => hsi f j h1 h2, hsq, fun f h1 h2 _ _ => hAA f h1 h2, fun f h1 h2 h3 _ _ _ => hmi f h1 h2 h3, fun f h1 h2 _ _ _ => k7 f h1 h2, m2⟩
          · unfold rTape
            rw [hsi 1 1 (by decide) (by decide), hmi 1 (by decide) (by decide) (by decide), hAA 2 (by decide) (by decide), k7 1 (by decide) (by decide)]
            exact hT
          · unfold rText
            rw [hsi 3 1 (by decide) (by decide), hmi 3 (by decide) (by decide) (by decide), hAA 4 (by decide) (by decide), k7 2 (by decide) (by decide)]
            exact hX
          · obtain ⟨c, w, hc5, hw5, c1, c2, c3, hkk⟩ := id hH
            refine ⟨c, w, hc5, hw5, by rw [hsi 7 2 (by decide) (by decide)]; exact c1, by rw [hmi 6 (by decide) (by decide) (by decide)]; exact c2, by rw [hsi 7 1 (by decide) (by decide)]; exact c3, fun f hf => ?_⟩
            rw [hsi _ 1 (by omega) (by omega), hAA _ (by omega) (by omega), k7 3 (by decide) (by decide), k7 4 (by decide) (by decide)]
            exact hkk f hf
        · obtain ⟨c, w, hc5, hw5, c1, c2, c3, hkk⟩ := id hH
          have n1' : si' 3 1 = nI n := by rw [hsi 3 1 (by decide) (by decide)]; exact n1
          obtain ⟨w', hw', ek⟩ := x_keep (x := x) (si := si') (sq := sq') (sl := sl) (A := A') (B := B) (g := g) n1' hn (by rw [hsi 7 1 (by decide) (by decide)]; exact c3) hw5 (by rw [hsi 7 2 (by decide) (by decide)]; exact c1) hc5
          have hw5' : w' < 5 := by omega
          let siK := u2 (u2 (u2 si' 7 1 (nI w')) (9 + 2 * w') 1 (nI n)) 7 2 (nI (min (c + 1) 5))
          let AK := ua A' (10 + 2 * w') (va_cpy (A' 4) (A' (10 + 2 * w')) 0 0 n)
          have h5K : siK 5 1 = nI z' := by
            show u2 (u2 (u2 si' 7 1 (nI w')) (9 + 2 * w') 1 (nI n)) 7 2 (nI (min (c + 1) 5)) 5 1 = _
            rw [u2_n (Or.inl (by decide)), u2_n (Or.inl (by omega)), u2_n (Or.inl (by decide))]; exact h5'
          have ecf := x_copyFrom (x := x) (si := siK) (sq := sq') (sl := sl) (A := AK) (B := B) (g := g) (o := 3) (t := 5) (m := z') r31.1 r5 (by decide) h5K (show z' ≤ rlen 5 from hz') (show z' ≤ rlen 3 from hz')
          have n2' : mi' 3 = nI n := by rw [hmi 3 (by decide) (by decide) (by decide)]; exact n2
          have c2' : mi' 6 = nI c := by rw [hmi 6 (by decide) (by decide) (by decide)]; exact c2
          have hszs : szs C' c := by
            have := rHist_szs hH c2 hc5
            unfold szs at this ⊢
            rw [k7 4 (by decide) (by decide)]
            exact this
          obtain ⟨f3, f4, c'', er, hc'', g1, g2', g3⟩ := m_remember (y := y) (ml := ml) (E := E1) (g := g2) n2' c2' hn hc5 hszs
          obtain ⟨C4, e4, p1, p2⟩ := m_rep251 (y := y) (mi := upd mi' 6 (nI c'')) (ml := ml) (E := E1) (g := g2) (z := z') (r := nI c') hz' zFuel 0 (ua (ua C' 3 f3) 4 f4) (by omega) (zF_lt (by omega)) (fun q h => absurd h (Nat.not_lt_zero _))
          refine ⟨nI c', u2 (u2 siK 3 1 (nI z')) 1 1 0, sq', ua AK 4 (va_cpy (AK 6) (AK 4) 0 0 z'), upd (upd (upd mi' 6 (nI c'')) 3 (nI z')) 1 0, C4, E1, ?_, ?_, ?_, ?_, ?_, ?_, ?_, hsq, ?_, ?_, ?_, m2⟩
          · rw [ex0, if_neg (nI_m3 (by omega)), ek, Option.bind_some]
            show ((gR (xh x siK sq' sl AK B g) x 10 1).bind fun a18 => (gR (xh x siK sq' sl AK B g) x 10 2).bind fun a19 => (isO (xh x siK sq' sl AK B g) a18 0).bind fun o20 => (b_X0_copyFrom_0 (xh x siK sq' sl AK B g) a18 a19).bind fun h21 => (gR h21 x 10 0).bind fun a22 => (isO h21 a22 0).bind fun o23 => (b_X0_clear_0 h21 a22 ).bind fun h24 => b_X10_replace_75 h24 (nI c')) = _
            simp only [xg_EF_1, xg_EF_2, Option.bind_some, xr_is r31.1, ecf, xg_EF_0, xr_is r31.2, x_clear r31.2]
            rfl
          · rw [em0, e]
            unfold b_X11_replace_40
            rw [if_pos rfl, if_pos (show nI z' ≤ (1500 : Int32) from nI_le (b := 1500) hz' (by decide)), mis, Option.bind_some, er, Option.bind_some]
            exact e4
          · exact ⟨0, by omega, u2_s, pk_us, fun q h => absurd h (Nat.not_lt_zero _)⟩
          · refine ⟨z', hz', by rw [u2_n (Or.inl (by decide)), u2_s], by rw [pk_un (by decide), pk_us], fun j hj => ?_⟩
            rw [ua_s, pk_cpy_in (by omega) (by omega), p2 j hj, ua_n (by decide), ua_n (by decide), Nat.sub_zero, Nat.zero_add]
            show (ua A' (10 + 2 * w') (va_cpy (A' 4) (A' (10 + 2 * w')) 0 0 n)) 6 j = _ ∧ _
            rw [ua_n (by omega)]
            exact hD j hj
          · refine rHist_keep (si := si') (A := A') (C := C') (n := n) (c := c) (w := w) (c' := c'') (f3 := f3) (f4 := f4) hn hc5 hw5 ?_ ?_ hc'' g1 g2' g3 ?_ ?_ ?_ ?_ ?_ ?_ ?_
            · rw [hAA 4 (by decide) (by decide), k7 2 (by decide) (by decide)]; exact n3
            · intro f hf
              rw [hsi _ 1 (by omega) (by omega), hAA _ (by omega) (by omega), k7 3 (by decide) (by decide), k7 4 (by decide) (by decide)]
              exact hkk f hf
            · rw [u2_n (Or.inl (by decide)), u2_n (Or.inl (by decide))]
              show u2 (u2 (u2 si' 7 1 (nI w')) (9 + 2 * w') 1 (nI n)) 7 2 (nI (min (c + 1) 5)) 7 2 = _
              rw [u2_s, hc'']
            · rw [u2_n (Or.inl (by decide)), u2_n (Or.inl (by decide))]
              show u2 (u2 (u2 si' 7 1 (nI w')) (9 + 2 * w') 1 (nI n)) 7 2 (nI (min (c + 1) 5)) 7 1 = _
              rw [u2_n (Or.inr (by decide)), u2_n (Or.inl (by omega)), u2_s, hw']
            · intro f hf
              rw [u2_n (Or.inl (by omega)), u2_n (Or.inl (by omega))]
              show u2 (u2 (u2 si' 7 1 (nI w')) (9 + 2 * w') 1 (nI n)) 7 2 (nI (min (c + 1) 5)) (9 + 2 * f) 1 = _
              rw [u2_n (Or.inl (by omega)), ← hw']
              by_cases hfw : f = w'
              · subst hfw
                rw [u2_s, if_pos rfl]
              · rw [u2_n (Or.inl (by omega)), u2_n (Or.inl (by omega)), if_neg hfw]
            · intro f hf j
              rw [ua_n (by omega), ← hw']
              show (ua A' (10 + 2 * w') (va_cpy (A' 4) (A' (10 + 2 * w')) 0 0 n)) (10 + 2 * f) j = _
              by_cases hfw : f = w'
              · subst hfw
                rw [ua_s]
                by_cases hj : j < n
                · rw [pk_cpy_in (by omega) (by omega), if_pos ⟨rfl, hj⟩, Nat.sub_zero, Nat.zero_add]
                · rw [pk_cpy_out (by omega), if_neg (fun q => hj q.2)]
              · rw [ua_n (by omega), if_neg (fun q => hfw q.1)]
            · rw [pk_un (by decide), pk_un (by decide), pk_us]
            · rw [p1 3 (by decide), ua_n (by decide), ua_s]
            · rw [p1 4 (by decide), ua_s]
          · refine ⟨k2.1, ?_⟩
            rw [u2_n (Or.inl (by decide)), u2_n (Or.inl (by decide))]
            show ∃ b, b < 127 ∧ u2 (u2 (u2 si' 7 1 (nI w')) (9 + 2 * w') 1 (nI n)) 7 2 (nI (min (c + 1) 5)) 53 10 = nI b
            rw [u2_n (Or.inl (by decide)), u2_n (Or.inl (by omega)), u2_n (Or.inl (by decide))]
            exact k2.2
          · intro f j h1 h2 h3 h4 h5 h6
            rw [u2_n (Or.inl h3), u2_n (Or.inl h4)]
            show u2 (u2 (u2 si' 7 1 (nI w')) (9 + 2 * w') 1 (nI n)) 7 2 (nI (min (c + 1) 5)) f j = _
            rw [u2_n (Or.inl h5), u2_n (Or.inl (by omega)), u2_n (Or.inl h5), hsi f j h1 h2]
          · intro f h1 h2 h3 h4
            rw [ua_n h3]
            show (ua A' (10 + 2 * w') (va_cpy (A' 4) (A' (10 + 2 * w')) 0 0 n)) f = _
            rw [ua_n (by omega), hAA f h1 h2]
          · intro f h1 h2 h3 h4 h5 h6
            rw [pk_un h4, pk_un h5, pk_un h6, hmi f h1 h2 h3]
          · intro f h1 h2 h3 h4 h5
            rw [p1 f h3, ua_n h5, ua_n h4, k7 f h1 h2]
      · refine ⟨-2, si, sq, A, mi, C, E, ?_, ?_, hT, hX, hH, hS, fun _ _ _ _ _ _ _ _ => rfl, fun _ _ _ => rfl, fun _ _ _ _ _ => rfl, fun _ _ _ _ _ _ _ => rfl, fun _ _ _ _ _ _ => rfl, fun _ _ _ => rfl⟩
        · unfold b_X10_replace_0
          simp only [xo_EF, Option.bind_some, x_isPattern_t hq s1 (show 0 < s by omega) hs, zbp_some, if_neg (show ¬ (1 : Int32) = 0 by decide), x_isEdits_f hk, if_true]
          rfl
        · unfold b_X11_replace_0
          simp only [mis, Option.bind_some, m_isThere_t hq s2 (show 0 < s by omega) hs, zbp_some, if_neg (show ¬ (1 : Int32) = 0 by decide), m_isEdits_f hk, if_true]
          rfl
end OR
