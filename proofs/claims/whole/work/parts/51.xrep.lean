/-! REPLACE, the class, and both -/
section XP
variable {x : Nat} {si : Nat → Nat → Int32} {sq : Nat → Nat → Nat} {sl : Nat → Nat → Int64} {A : Nat → Nat → Int32} {B : Nat → Nat → Int64} {g g2 : zh_H}
variable {y : Nat} {mi : Nat → Int32} {ml : Nat → Int64} {C : Nat → Nat → Int32} {E : Nat → Nat → Int64}
theorem r5 : isRow 5 := by unfold isRow; omega
/-- a byte is fed -/
theorem x_rfeed {P s k o n c j T : Nat} {sw : Bool} {mt : Nat → Nat → Bool} {tx : Nat → Int32} (hP : isSet P) (hsP : s ≤ slen P) (hs : s ≤ 200) (hs1 : 1 ≤ s) (hk : k ≤ 200) (hn : n ≤ 1500) (htx : ∀ q, q < n → okB (tx q)) (hmt : ∀ i, i < s → ∀ q, o + q < n → hasB (B (P + 1) i) (B (P + 2) i) (tx (o + q)).toNatClampNeg = mt i q) (hj : o + j < n) (h3 : si 3 1 = nI n) (hA : ∀ q, q < n → A 4 q = tx q) (hS : xS si sq A B P s k o sw mt j T) (hC : xC sq) : ∃ si1 sq1 A1 T1, xS si1 sq1 A1 B P s k o sw mt (j + 1) T1 ∧ xC sq1 ∧ fX si si1 sq sq1 A A1 ∧ (T1 = s ↔ vV fC (fR true) mt sw (j + 1) s / 2048 ≤ k) ∧ (T1 = s → b_X6_beginning_0 (xh x si1 sq1 sl A1 B g) (x + 53) = some (nI (o + (2047 - vV fC (fR true) mt sw (j + 1) s % 2048)), xh x si1 sq1 sl A1 B g)) ∧ ∀ f, b_X10_draftReplaced_21 (f + 1) (xh x si sq sl A B g) x (nI o) (nI c) (nI (o + j + 1)) = if T1 = s then zbp (b_X6_beginning_0 (xh x si1 sq1 sl A1 B g) (x + 53)) fun v25 h24 => if nI (o + j + 1) ≤ v25 then b_X10_draftReplaced_130 (b_X10_draftReplaced_21 f) h24 (x) (nI o) (nI c) (nI (o + j + 1)) else (gR h24 x 10 2).bind fun a26 => (gR h24 x 10 1).bind fun a27 => (gR h24 x 10 7).bind fun a28 => (isO h24 a28 6).bind fun o29 => zbp (b_X6_beginning_0 h24 a28 ) fun v31 h30 => (isO h30 a26 0).bind fun o32 => zbp (b_X0_addPart_0 h30 a26 a27 (nI o) v31) fun v34 h33 => if v34 = (0 : Int32) then b_X10_draftReplaced_114 h33  else (gR h33 x 10 2).bind fun a35 => (gR h33 x 10 0).bind fun a36 => (gR h33 x 10 0).bind fun a37 => (gI h33 a37 0 1).bind fun v38 => (isO h33 a35 0).bind fun o39 => zbp (b_X0_addPart_0 h33 a35 a36 (0 : Int32) v38) fun v41 h40 => if v41 = (0 : Int32) then b_X10_draftReplaced_114 h40  else (gR h40 x 10 7).bind fun a42 => (isO h40 a42 6).bind fun o43 => (b_X6_restart_0 h40 a42 (nI (o + j + 1))).bind fun h44 => b_X10_draftReplaced_130 (b_X10_draftReplaced_21 f) h44 (x) (nI (o + j + 1)) ((nI c + (1 : Int32))) (nI (o + j + 1)) else b_X10_draftReplaced_130 (b_X10_draftReplaced_21 f) (xh x si1 sq1 sl A1 B g) x (nI o) (nI c) (nI (o + j + 1)) := by
  obtain ⟨b, hb, hbt⟩ := okB_nat (htx (o + j) hj)
  have hbn : (tx (o + j)).toNatClampNeg = b := by rw [hbt]; exact nI_clamp (by omega)
  obtain ⟨si1, sq1, A1, T1, e1, hS1, hC1, f1, hit1, hit2⟩ := x_feed (x := x) (sl := sl) (g := g) hP hsP hs hs1 hk (show o + j < 1500 by omega) hS hC hb (fun q hq => by rw [← hbn]; exact hmt q hq j hj)
  obtain ⟨d1, d2, d3⟩ := g_div (o := o) (j := j + 1) (i := s) (mt := mt) (sw := sw) (by omega)
  have hfl := cs_free_le (mt := mt) (sw := sw) (j + 1) s
  refine ⟨si1, sq1, A1, T1, hS1, hC1, f1, by rw [← d1]; exact hit1, fun h => ?_, fun f => ?_⟩
  · have := (x_edits (x := x) (si := si1) (sq := sq1) (sl := sl) (A := A1) (B := B) (g := g) hs hS1.2.1 hC1 (hit2 h) (by omega)).2
    rw [d2] at this
    exact this
  · conv => lhs; unfold b_X10_draftReplaced_21
    simp only [xg_EF_1, Option.bind_some, xr_g r31.1, h3, if_neg (show ¬ nI n < nI (o + j + 1) from nI_nlt (by omega) (by omega)), xg_EF_7, xr_is r31.1, show nI (o + j + 1) - (1 : Int32) = nI (o + j) from nI_pred (o + j), x_get r31.1 h3 hj (show n ≤ rlen 3 from hn), zbp_some, hA (o + j) hj]
    rw [hbt, xo_Se, Option.bind_some, e1, Option.bind_some, xg_EF_7, Option.bind_some, xo_Se, Option.bind_some, x_isHit hs hS1, zbp_some]
    by_cases hT : T1 = s
    · rw [if_pos hT, if_neg (by decide), if_pos hT, xg_EF_7, Option.bind_some, xo_Se, Option.bind_some]
    · rw [if_neg hT, if_pos rfl, if_neg hT]
theorem x_rskip {P s k o n c : Nat} {sw : Bool} {mt : Nat → Nat → Bool} {tx : Nat → Int32} (hP : isSet P) (hsP : s ≤ slen P) (hs : s ≤ 200) (hs1 : 1 ≤ s) (hk : k ≤ 200) (hn : n ≤ 1500) (htx : ∀ q, q < n → okB (tx q)) (hmt : ∀ i, i < s → ∀ q, o + q < n → hasB (B (P + 1) i) (B (P + 2) i) (tx (o + q)).toNatClampNeg = mt i q) : ∀ (d j T : Nat) (si : Nat → Nat → Int32) (sq : Nat → Nat → Nat) (A : Nat → Nat → Int32), o + j + d ≤ n → (∀ q, j ≤ q → q < j + d → ¬ gH s k true mt sw q) → si 3 1 = nI n → (∀ q, q < n → A 4 q = tx q) → xS si sq A B P s k o sw mt j T → xC sq → ∃ si' sq' A' T', (∀ f, b_X10_draftReplaced_21 (f + d) (xh x si sq sl A B g) x (nI o) (nI c) (nI (o + j + 1)) = b_X10_draftReplaced_21 f (xh x si' sq' sl A' B g) x (nI o) (nI c) (nI (o + (j + d) + 1))) ∧ xS si' sq' A' B P s k o sw mt (j + d) T' ∧ xC sq' ∧ fX si si' sq sq' A A' := by
  intro d
  induction d with
  | zero => intro j T si sq A _ _ _ _ hS hC; exact ⟨si, sq, A, T, fun f => rfl, hS, hC, fX_r⟩
  | succ d ih =>
    intro j T si sq A hj hno h3 hA hS hC
    obtain ⟨si1, sq1, A1, T1, hS1, hC1, f1, hit1, hit2, e1⟩ := x_rfeed (x := x) (sl := sl) (g := g) (c := c) hP hsP hs hs1 hk hn htx hmt (show o + j < n by omega) h3 hA hS hC
    obtain ⟨si', sq', A', T', k1, k2, k3, k4⟩ := ih (j + 1) T1 si1 sq1 A1 (by omega) (fun q q1 q2 => hno q (by omega) (by omega)) (by rw [f1.1 3 1 (by decide)]; exact h3) (by rw [f1.2.2 4 (by decide)]; exact hA) hS1 hC1
    refine ⟨si', sq', A', T', fun f => ?_, by rw [show j + (d + 1) = j + 1 + d by omega]; exact k2, k3, fX_t f1 k4⟩
    rw [show f + (d + 1) = f + d + 1 by omega, e1, show j + (d + 1) = j + 1 + d by omega, ← k1 f]
    have hng := hno j (Nat.le_refl _) (by omega)
    unfold b_X10_draftReplaced_130
    by_cases hT : T1 = s
    · have hb : j < 2047 - vV fC (fR true) mt sw (j + 1) s % 2048 := by
        by_cases h : j < 2047 - vV fC (fR true) mt sw (j + 1) s % 2048
        · exact h
        · exact absurd ⟨hit1.mp hT, fun _ => by omega⟩ hng
      rw [if_pos hT, hit2 hT, zbp_some, if_pos (nI_le (by omega) (by omega)), nI_1]
      rfl
    · rw [if_neg hT, nI_1]
      rfl
/-- a hit is taken -/
theorem x_rhit {P s k o n c j T z t : Nat} {sw : Bool} {mt mt' : Nat → Nat → Bool} {tx : Nat → Int32} (hP : isSet P) (hsP : s ≤ slen P) (hs : s ≤ 200) (hs1 : 1 ≤ s) (hk : k ≤ 200) (hn : n ≤ 1500) (htx : ∀ q, q < n → okB (tx q)) (hmt : ∀ i, i < s → ∀ q, o + q < n → hasB (B (P + 1) i) (B (P + 2) i) (tx (o + q)).toNatClampNeg = mt i q) (hj : o + j < n) (h3 : si 3 1 = nI n) (hA : ∀ q, q < n → A 4 q = tx q) (h5 : si 5 1 = nI z) (hz : z ≤ 1500) (h1 : si 1 1 = nI t) (ht : t ≤ 400) (hS : xS si sq A B P s k o sw mt j T) (hC : xC sq) (hg : gH s k true mt sw j) : ∃ si' sq' A' b, b = 2047 - vV fC (fR true) mt sw (j + 1) s % 2048 ∧ xC sq' ∧ (∃ b, b < 127 ∧ si' 53 10 = nI b) ∧ (∀ k j, k ≠ 53 → k ≠ 5 → si' k j = si k j) ∧ (∀ k j, k ≠ 53 → sq' k j = sq k j) ∧ (∀ k, (k < 57 ∨ 59 < k) → k ≠ 6 → A' k = A k) ∧ ((1500 < z + b + t ∧ ∀ f, b_X10_draftReplaced_21 (f + 1) (xh x si sq sl A B g) x (nI o) (nI c) (nI (o + j + 1)) = some (-3, xh x si' sq' sl A' B g)) ∨ (z + b + t ≤ 1500 ∧ (∀ f, b_X10_draftReplaced_21 (f + 1) (xh x si sq sl A B g) x (nI o) (nI c) (nI (o + j + 1)) = b_X10_draftReplaced_21 f (xh x si' sq' sl A' B g) x (nI (o + (j + 1))) (nI (c + 1)) (nI (o + (j + 1) + 0 + 1))) ∧ xS si' sq' A' B P s k (o + (j + 1)) sw mt' 0 (min s k) ∧ si' 5 1 = nI (z + b + t) ∧ ∀ q, A' 6 q = if z + b ≤ q ∧ q < z + b + t then A 2 (q - (z + b)) else if z ≤ q ∧ q < z + b then A 4 (o + (q - z)) else A 6 q)) := by
  obtain ⟨si1, sq1, A1, T1, hS1, hC1, f1, hit1, hit2, e1⟩ := x_rfeed (x := x) (sl := sl) (g := g) (c := c) hP hsP hs hs1 hk hn htx hmt hj h3 hA hS hC
  have hT := hit1.mpr hg.1
  have hbj := hg.2 rfl
  have hbeg := hit2 hT
  have h31 : si1 3 1 = nI n := by rw [f1.1 3 1 (by decide)]; exact h3
  have h51 : si1 5 1 = nI z := by rw [f1.1 5 1 (by decide)]; exact h5
  have h11 : si1 1 1 = nI t := by rw [f1.1 1 1 (by decide)]; exact h1
  generalize hbd : 2047 - vV fC (fR true) mt sw (j + 1) s % 2048 = b at hbj hbeg
  have e2 : ∀ f, b_X10_draftReplaced_21 (f + 1) (xh x si sq sl A B g) x (nI o) (nI c) (nI (o + j + 1)) = zbp (b_X0_addPart_0 (xh x si1 sq1 sl A1 B g) (x + 5) (x + 3) (nI o) (nI (o + b))) fun v34 h33 => if v34 = (0 : Int32) then b_X10_draftReplaced_114 h33  else (gR h33 x 10 2).bind fun a35 => (gR h33 x 10 0).bind fun a36 => (gR h33 x 10 0).bind fun a37 => (gI h33 a37 0 1).bind fun v38 => (isO h33 a35 0).bind fun o39 => zbp (b_X0_addPart_0 h33 a35 a36 (0 : Int32) v38) fun v41 h40 => if v41 = (0 : Int32) then b_X10_draftReplaced_114 h40  else (gR h40 x 10 7).bind fun a42 => (isO h40 a42 6).bind fun o43 => (b_X6_restart_0 h40 a42 (nI (o + j + 1))).bind fun h44 => b_X10_draftReplaced_130 (b_X10_draftReplaced_21 f) h44 (x) (nI (o + j + 1)) ((nI c + (1 : Int32))) (nI (o + j + 1)) := by
    intro f
    rw [e1, if_pos hT, hbeg, zbp_some, if_neg (nI_ge (by omega) (by omega)), xg_EF_2, Option.bind_some, xg_EF_1, Option.bind_some, xg_EF_7, Option.bind_some, xo_Se, Option.bind_some, hbeg, zbp_some, xr_is r5, Option.bind_some]
  by_cases q1 : z + b ≤ 1500
  · have a1 := x_addPart_t (x := x) (si := si1) (sq := sq1) (sl := sl) (A := A1) (B := B) (g := g) (o := 5) (t := 3) (n := z) (m := n) (a := o) (b := o + b) r5 r31.1 h51 h31 (by omega) (by omega) (show n ≤ rlen 3 from hn) (show z + (o + b - o) ≤ 1500 by omega)
    rw [show o + b - o = b by omega] at a1
    by_cases q2 : z + b + t ≤ 1500
    · have a2 := x_addPart_t (x := x) (si := u2 si1 5 1 (nI (z + b))) (sq := sq1) (sl := sl) (A := ua A1 6 (va_cpy (A1 4) (A1 6) o z b)) (B := B) (g := g) (o := 5) (t := 1) (n := z + b) (m := t) (a := 0) (b := t) r5 r31.2 u2_s (by rw [u2_n (Or.inl (by decide))]; exact h11) (by omega) (by omega) (show t ≤ rlen 1 from ht) (show z + b + (t - 0) ≤ 1500 by omega)
      rw [Nat.sub_zero, u2_u2, ua_s, ua_ua, ua_n (show 1 + 1 ≠ 6 by decide)] at a2
      obtain ⟨si2, A2, x1, x2, x3⟩ := x_restart (x := x) (si := u2 si1 5 1 (nI (z + b + t))) (sq := sq1) (sl := sl) (A := ua A1 6 (va_cpy (A1 2) (va_cpy (A1 4) (A1 6) o z b) 0 (z + b) t)) (B := B) (g := g) (P := P) (s := s) (k := k) (o := o + j + 1) (sw := sw) mt' hs hk (by omega) (by
        have := xS_a hS1
        unfold xA at this ⊢
        rw [u2_n (Or.inl (by decide)), u2_n (Or.inl (by decide)), u2_n (Or.inl (by decide)), u2_n (Or.inl (by decide))]
        exact this) hC1
      refine ⟨si2, sq1, A2, b, rfl, hC1, (xS_a x2).2.2.2.2, ?_, f1.2.1, ?_, Or.inr ⟨q2, fun f => ?_, x2, ?_, fun q => ?_⟩⟩
      · intro q f h1 h2
        rw [x3.1 q f h1, u2_n (Or.inl h2), f1.1 q f h1]
      · intro q h1 h2
        rw [x3.2.2 q h1, ua_n h2, f1.2.2 q h1]
      · rw [e2, a1, zbp_some, if_neg (by decide), xg_EF_2, Option.bind_some, xg_EF_0, Option.bind_some, Option.bind_some, xr_g r31.2, Option.bind_some, u2_n (Or.inl (by decide)), h11, xr_is r5, Option.bind_some, show (0 : Int32) = nI 0 from rfl, a2, zbp_some, if_neg (by decide), xg_EF_7, Option.bind_some, xo_Se, Option.bind_some, x1, Option.bind_some]
        unfold b_X10_draftReplaced_130
        rw [nI_1, nI_1]
        rfl
      · rw [x3.1 5 1 (by decide), u2_s]
      · rw [x3.2.2 6 (by decide), ua_s]
        by_cases p1 : z + b ≤ q ∧ q < z + b + t
        · rw [if_pos p1, pk_cpy_in p1.1 p1.2, f1.2.2 2 (by decide), Nat.zero_add]
        · rw [if_neg p1, pk_cpy_out (by omega)]
          by_cases p2 : z ≤ q ∧ q < z + b
          · rw [if_pos p2, pk_cpy_in p2.1 p2.2, f1.2.2 4 (by decide)]
          · rw [if_neg p2, pk_cpy_out (by omega), f1.2.2 6 (by decide)]
    · have a2 := x_addPart_f (x := x) (si := u2 si1 5 1 (nI (z + b))) (sq := sq1) (sl := sl) (A := ua A1 6 (va_cpy (A1 4) (A1 6) o z b)) (B := B) (g := g) (o := 5) (t := 1) (n := z + b) (m := t) (a := 0) (b := t) r5 r31.2 u2_s (by rw [u2_n (Or.inl (by decide))]; exact h11) (by omega) (by omega) (show t ≤ rlen 1 from ht) (show z + b ≤ 1500 from q1) (show 1500 < z + b + (t - 0) by omega)
      refine ⟨u2 si1 5 1 (nI (z + b)), sq1, ua A1 6 (va_cpy (A1 4) (A1 6) o z b), b, rfl, hC1, ?_, ?_, f1.2.1, ?_, Or.inl ⟨by omega, fun f => ?_⟩⟩
      · rw [u2_n (Or.inl (by decide))]; exact (xS_a hS1).2.2.2.2
      · intro q f h1 h2
        rw [u2_n (Or.inl h2), f1.1 q f h1]
      · intro q h1 h2
        rw [ua_n h2, f1.2.2 q h1]
      · rw [e2, a1, zbp_some, if_neg (by decide), xg_EF_2, Option.bind_some, xg_EF_0, Option.bind_some, Option.bind_some, xr_g r31.2, Option.bind_some, u2_n (Or.inl (by decide)), h11, xr_is r5, Option.bind_some, show (0 : Int32) = nI 0 from rfl, a2, zbp_some, if_pos (by decide)]
        rfl
  · have a1 := x_addPart_f (x := x) (si := si1) (sq := sq1) (sl := sl) (A := A1) (B := B) (g := g) (o := 5) (t := 3) (n := z) (m := n) (a := o) (b := o + b) r5 r31.1 h51 h31 (by omega) (by omega) (show n ≤ rlen 3 from hn) (show z ≤ 1500 from hz) (show 1500 < z + (o + b - o) by omega)
    refine ⟨si1, sq1, A1, b, rfl, hC1, (xS_a hS1).2.2.2.2, fun q f h1 h2 => f1.1 q f h1, f1.2.1, fun q h1 h2 => f1.2.2 q h1, Or.inl ⟨by omega, fun f => ?_⟩⟩
    rw [e2, a1, zbp_some, if_pos rfl]
    rfl
end XP
