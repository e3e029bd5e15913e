/-! THE RULER: measure and distance -/
def xLd (si : Nat → Nat → Int32) (sq : Nat → Nat → Nat) (A : Nat → Nat → Int32) (B : Nat → Nat → Int64) (P R s a m n : Nat) (sw tr : Bool) (mt : Nat → Nat → Bool) : Prop := isSet P ∧ si P 2 = nI s ∧ s ≤ slen P ∧ s ≤ 1500 ∧ sq 60 0 = P ∧ isRow R ∧ sq 60 1 = R ∧ si R 1 = nI n ∧ n ≤ rlen R ∧ n ≤ 1500 ∧ a + m ≤ n ∧ si 60 2 = nI a ∧ si 60 3 = nI m ∧ si 60 4 = bI sw ∧ si 60 14 = bI tr ∧ ∀ j, j < m → ∃ b, b < 127 ∧ A (R + 1) (a + j) = nI b ∧ ∀ i, i < s → hasB (B (P + 1) i) (B (P + 2) i) b = mt i j
def fRu (si si' : Nat → Nat → Int32) (sq sq' : Nat → Nat → Nat) (A A' : Nat → Nat → Int32) (B B' : Nat → Nat → Int64) : Prop := (∀ k f, k ≠ 60 → k ≠ 69 → si' k f = si k f) ∧ (si' 60 2 = si 60 2 ∧ si' 60 3 = si 60 3 ∧ si' 60 4 = si 60 4 ∧ si' 60 14 = si 60 14) ∧ (∀ k f, k ≠ 60 → sq' k f = sq k f) ∧ (sq' 60 0 = sq 60 0 ∧ sq' 60 1 = sq 60 1) ∧ (∀ k, k < 66 ∨ 68 < k → A' k = A k) ∧ (∀ k, k ≠ 70 → B' k = B k)
theorem fRu_r {si : Nat → Nat → Int32} {sq : Nat → Nat → Nat} {A : Nat → Nat → Int32} {B : Nat → Nat → Int64} : fRu si si sq sq A A B B := ⟨fun _ _ _ _ => rfl, ⟨rfl, rfl, rfl, rfl⟩, fun _ _ _ => rfl, ⟨rfl, rfl⟩, fun _ _ => rfl, fun _ _ => rfl⟩
theorem fRu_t {si si1 si2 : Nat → Nat → Int32} {sq sq1 sq2 : Nat → Nat → Nat} {A A1 A2 : Nat → Nat → Int32} {B B1 B2 : Nat → Nat → Int64} (h1 : fRu si si1 sq sq1 A A1 B B1) (h2 : fRu si1 si2 sq1 sq2 A1 A2 B1 B2) : fRu si si2 sq sq2 A A2 B B2 := by
  obtain ⟨a1, ⟨a2, a3, a4, a5⟩, a6, ⟨a7, a8⟩, a9, a10⟩ := h1
  obtain ⟨b1, ⟨b2, b3, b4, b5⟩, b6, ⟨b7, b8⟩, b9, b10⟩ := h2
  exact ⟨fun k f h h' => (b1 k f h h').trans (a1 k f h h'), ⟨b2.trans a2, b3.trans a3, b4.trans a4, b5.trans a5⟩, fun k f h => (b6 k f h).trans (a6 k f h), ⟨b7.trans a7, b8.trans a8⟩, fun k h => (b9 k h).trans (a9 k h), fun k h => (b10 k h).trans (a10 k h)⟩
theorem xLd_f {si si' : Nat → Nat → Int32} {sq sq' : Nat → Nat → Nat} {A A' : Nat → Nat → Int32} {B B' : Nat → Nat → Int64} {P R s a m n : Nat} {sw tr : Bool} {mt : Nat → Nat → Bool} (h : xLd si sq A B P R s a m n sw tr mt) (hf : fRu si si' sq sq' A A' B B') : xLd si' sq' A' B' P R s a m n sw tr mt := by
  obtain ⟨h1, h2, h3, h4, h5, h6, h7, h8, h9, h10, h11, h12, h13, h14, h15, h16⟩ := h
  obtain ⟨b1, ⟨b2, b3, b4, b5⟩, b6, ⟨b7, b8⟩, b9, b10⟩ := hf
  have r := row_ne h6
  have p := set_ne h1
  refine ⟨h1, by rw [b1 P 2 p.1 p.2.1]; exact h2, h3, h4, b7.trans h5, h6, b8.trans h7, by rw [b1 R 1 r.1 r.2.1]; exact h8, h9, h10, h11, b2.trans h12, b3.trans h13, b4.trans h14, b5.trans h15, ?_⟩
  rw [b9 (R + 1) (by omega), b10 (P + 1) p.2.2.1, b10 (P + 2) p.2.2.2.1]
  exact h16
def rSt (si : Nat → Nat → Int32) (sq : Nat → Nat → Nat) (A : Nat → Nat → Int32) (B : Nat → Nat → Int64) (P s m β lo hi : Nat) (sw tr : Bool) (mt : Nat → Nat → Bool) (j : Nat) : Prop := rC sq ∧ si 60 5 = iI (-(lo : Int)) ∧ si 60 6 = nI hi ∧ si 69 1 = iI (-(lo : Int)) ∧ si 69 2 = nI (lo + hi + 1) ∧ colB mt sw s m β lo hi (A (sq 60 7)) j ∧ (1 ≤ j → colB mt sw s m β lo hi (A (sq 60 8)) (j - 1)) ∧ (1 ≤ j → ∃ b, b < 127 ∧ si 60 10 = nI b ∧ sq 60 12 = (if b < 64 then P + 1 else P + 2) ∧ ∀ i, i < s → hasB (B (P + 1) i) (B (P + 2) i) b = mt i (j - 1)) ∧ tabB mt sw s m β lo hi tr (B 70) (j + 1) 0
section ME
variable {x : Nat} {si : Nat → Nat → Int32} {sq : Nat → Nat → Nat} {sl : Nat → Nat → Int64} {A : Nat → Nat → Int32} {B : Nat → Nat → Int64} {g : zh_H}
variable {mt : Nat → Nat → Bool} {sw tr : Bool} {s m β lo hi : Nat}
theorem x_turn {P b na la oa : Nat} (hP : isSet P) (hb : b < 127) (h0 : sq 60 0 = P) (ea : sq 60 7 = na) (el : sq 60 8 = la) (eo : sq 60 9 = oa) : b_X5_turnColumns_0 (xh x si sq sl A B g) (x + 60) (nI b) = some (xh x (u2 (u2 si 60 11 (si 60 10)) 60 10 (nI b)) (u2 (u2 (u2 (u2 (u2 sq 60 9 la) 60 8 na) 60 7 oa) 60 13 (sq 60 12)) 60 12 (if b < 64 then P + 1 else P + 2)) sl A B g) := by
  unfold b_X5_turnColumns_0
  simp only [xg_Ru_9, xg_Ru_8, xg_Ru_7, Option.bind_some, eo, el, xp_Ru_9, u2_n (show (60 ≠ 60 ∨ 7 ≠ 9) from Or.inr (by decide)), ea, xp_Ru_8, xp_Ru_7, xg_Ru_10, xp_Ru_11, xg_Ru_12, u2_n (show (60 ≠ 60 ∨ 12 ≠ 9) from Or.inr (by decide)), u2_n (show (60 ≠ 60 ∨ 12 ≠ 8) from Or.inr (by decide)), u2_n (show (60 ≠ 60 ∨ 12 ≠ 7) from Or.inr (by decide)), xp_Ru_13, xp_Ru_10, xg_Ru_0, u2_n (show (60 ≠ 60 ∨ 0 ≠ 9) from Or.inr (by decide)), u2_n (show (60 ≠ 60 ∨ 0 ≠ 8) from Or.inr (by decide)), u2_n (show (60 ≠ 60 ∨ 0 ≠ 7) from Or.inr (by decide)), u2_n (show (60 ≠ 60 ∨ 0 ≠ 13) from Or.inr (by decide)), h0, xs_is hP, x_half hP (show b < 128 by omega), zbp_some, xp_Ru_12]
theorem x_rcolumn {P R a n j : Nat} (hm : m ≤ 1500) (hj : j < m) (hbd : ∀ j i, phi mt sw s m j i ≤ β → j ≤ i + lo ∧ i ≤ j + hi) (hlo : m ≤ s + lo) (hlo2 : lo ≤ 5000) (hhi2 : hi ≤ 5000) (htr : tr = true → (m + 1) * (lo + hi + 1) ≤ 80608) (hL : xLd si sq A B P R s a m n sw tr mt) (hR : rSt si sq A B P s m β lo hi sw tr mt j) : ∃ lv si' sq' A' B', b_X5_fillColumn_0 (xh x si sq sl A B g) (x + 60) (nI (j + 1)) = some (nI lv, xh x si' sq' sl A' B' g) ∧ fRu si si' sq sq' A A' B B' ∧ rSt si' sq' A' B' P s m β lo hi sw tr mt (j + 1) ∧ lv ≤ 2 ^ 20 ∧ (∀ q, q ≤ s → phi mt sw s m (j + 1) q ≤ β → lv ≤ β) := by
  obtain ⟨h1, h2, h3, h4, h5, h6, h7, h8, h9, h10, h11, h12, h13, h14, h15, h16⟩ := id hL
  obtain ⟨⟨na, la, oa, ea, el, eo, Ia, Il, Io, d1, d2, d3⟩, r1, r2, r3, r4, r5', r6, r7, r8⟩ := hR
  obtain ⟨c, hc, hca, hcm⟩ := h16 j hj
  have p := set_ne h1
  let si1 := u2 (u2 si 60 11 (si 60 10)) 60 10 (nI c)
  let sq1 := u2 (u2 (u2 (u2 (u2 sq 60 9 la) 60 8 na) 60 7 oa) 60 13 (sq 60 12)) 60 12 (if c < 64 then P + 1 else P + 2)
  have s1 : ∀ k f, (k ≠ 60 ∨ (f ≠ 10 ∧ f ≠ 11)) → si1 k f = si k f := by
    intro k f h
    show u2 (u2 si 60 11 (si 60 10)) 60 10 (nI c) k f = _
    rw [u2_n (by omega), u2_n (by omega)]
  have s11 : si1 60 11 = si 60 10 := by
    show u2 (u2 si 60 11 (si 60 10)) 60 10 (nI c) 60 11 = _
    rw [u2_n (Or.inr (by decide)), u2_s]
  have s10 : si1 60 10 = nI c := u2_s
  have q12 : sq1 60 12 = if c < 64 then P + 1 else P + 2 := u2_s
  have q13 : sq1 60 13 = sq 60 12 := by
    show u2 (u2 (u2 (u2 (u2 sq 60 9 la) 60 8 na) 60 7 oa) 60 13 (sq 60 12)) 60 12 (if c < 64 then P + 1 else P + 2) 60 13 = _
    rw [u2_n (Or.inr (by decide)), u2_s]
  have q7 : sq1 60 7 = oa := by
    show u2 (u2 (u2 (u2 (u2 sq 60 9 la) 60 8 na) 60 7 oa) 60 13 (sq 60 12)) 60 12 (if c < 64 then P + 1 else P + 2) 60 7 = _
    rw [u2_n (Or.inr (by decide)), u2_n (Or.inr (by decide)), u2_s]
  have q8 : sq1 60 8 = na := by
    show u2 (u2 (u2 (u2 (u2 sq 60 9 la) 60 8 na) 60 7 oa) 60 13 (sq 60 12)) 60 12 (if c < 64 then P + 1 else P + 2) 60 8 = _
    rw [u2_n (Or.inr (by decide)), u2_n (Or.inr (by decide)), u2_n (Or.inr (by decide)), u2_s]
  have q9 : sq1 60 9 = la := by
    show u2 (u2 (u2 (u2 (u2 sq 60 9 la) 60 8 na) 60 7 oa) 60 13 (sq 60 12)) 60 12 (if c < 64 then P + 1 else P + 2) 60 9 = _
    rw [u2_n (Or.inr (by decide)), u2_n (Or.inr (by decide)), u2_n (Or.inr (by decide)), u2_n (Or.inr (by decide)), u2_s]
  have qo : ∀ k f, (k ≠ 60 ∨ f = 0 ∨ f = 1) → sq1 k f = sq k f := by
    intro k f h
    show u2 (u2 (u2 (u2 (u2 sq 60 9 la) 60 8 na) 60 7 oa) 60 13 (sq 60 12)) 60 12 (if c < 64 then P + 1 else P + 2) k f = _
    rw [u2_n (by omega), u2_n (by omega), u2_n (by omega), u2_n (by omega), u2_n (by omega)]
  have q0 : sq1 60 0 = P := (qo 60 0 (by omega)).trans h5
  have hP1 : si1 P 2 = nI s := (s1 P 2 (Or.inl p.1)).trans h2
  rw [ea] at r5'
  rw [el] at r6
  have hlm : 1 ≤ j → ∃ lb, lb < 127 ∧ si1 60 11 = nI lb ∧ sq1 60 13 = (if lb < 64 then P + 1 else P + 2) ∧ ∀ q, q < s → hasB (B (P + 1) q) (B (P + 2) q) lb = mt q (j - 1) := by
    intro h
    obtain ⟨lb, l1, l2, l3, l4⟩ := r7 h
    exact ⟨lb, l1, s11.trans l2, q13.trans l3, l4⟩
  obtain ⟨lb, hlb⟩ : ∃ lb, 1 ≤ j → lb < 127 ∧ si1 60 11 = nI lb ∧ sq1 60 13 = (if lb < 64 then P + 1 else P + 2) ∧ ∀ q, q < s → hasB (B (P + 1) q) (B (P + 2) q) lb = mt q (j - 1) := by
    by_cases h : 1 ≤ j
    · obtain ⟨lb, l⟩ := hlm h
      exact ⟨lb, fun _ => l⟩
    · exact ⟨0, fun h' => absurd h' h⟩
  let fr := j + 1 - lo
  let e := min s (j + 1 + hi)
  have efr : zmax (0 : Int32) (nI (j + 1) + iI (-(lo : Int))) = nI fr := by
    rw [iI_n (j + 1), iI_add, show (0 : Int32) = iI 0 from rfl, zmax_i (by decide) (by decide) (by omega) (by omega), iI_n]
    congr 1
    show max 0 (((j + 1 : Nat) : Int) + -(lo : Int)) = ((j + 1 - lo : Nat) : Int)
    omega
  have ee : zmin (nI s) (nI (j + 1) + nI hi) = nI e := by
    rw [nI_add, zmin_n (by omega) (by omega)]
  let A1 := if 0 < fr then ua A oa (upd (A oa) (fr - 1) (nI (2 ^ 20))) else A
  have hA1 : ∀ k, k ≠ oa → A1 k = A k := by
    intro k hk
    show (if 0 < fr then ua A oa (upd (A oa) (fr - 1) (nI (2 ^ 20))) else A) k = _
    split
    · rw [ua_n hk]
    · rfl
  have hfr2 : fr ≤ s := by show j + 1 - lo ≤ s; omega
  have hfr3 : fr = 0 ∨ fr + lo = j + 1 := by show j + 1 - lo = 0 ∨ j + 1 - lo + lo = j + 1; omega
  have hfr4 : j + 1 ≤ fr + lo := by show j + 1 ≤ j + 1 - lo + lo; omega
  have he1 : e ≤ s := Nat.min_le_left _ _
  have he2 : e ≤ j + 1 + hi := Nat.min_le_right _ _
  have he3 : s ≤ e ∨ j + 1 + hi ≤ e := by show s ≤ min s (j + 1 + hi) ∨ j + 1 + hi ≤ min s (j + 1 + hi); omega
  have hfe : fr ≤ e + 1 := by omega
  obtain ⟨f, B2, lv, e1, k0, k1, k2, k3, k4⟩ := x_rfill (x := x) (si := si1) (sq := sq1) (sl := sl) (B := B) (g := g) (mt := mt) (sw := sw) (tr := tr) (s := s) (m := m) (β := β) (lo := lo) (hi := hi) (P := P) (c := c) (lb := lb) (na := oa) (la := na) (oa := la) (j := j) (fr := fr) (e := e) h1 h3 h4 hm hj hbd q0 hP1 hc hcm hlb ((s1 60 4 (by omega)).trans h14) s10 q12 ((s1 60 14 (by omega)).trans h15) ((s1 69 1 (by omega)).trans r3) ((s1 69 2 (by omega)).trans r4) htr q7 Io q8 Ia q9 Il d2 d3 hfr4 hfr3 he1 he2 he3 zFuel fr (2 ^ 20) A1 B (fun _ _ => rfl) (Nat.le_refl _) hfe (zF_lt (by omega)) (Nat.le_refl _) (by rw [hA1 na d2]; exact r5') (by rw [hA1 la d3]; exact r6) (fun q q1 q2 => by omega) (by
    intro i hi1 _
    show (if 0 < fr then ua A oa (upd (A oa) (fr - 1) (nI (2 ^ 20))) else A) oa i = _
    rw [if_pos (by omega), ua_s, show fr - 1 = i by omega, pk_us]) (by
    intro ht j' i' a1 a2 a3 a4 a5 a6 a7
    exact r8 ht j' i' a1 a2 a3 a4 a5 (by omega) a7) (fun q q1 q2 => by omega)
  refine ⟨lv, si1, sq1, ua A1 oa f, B2, ?_, ?_, ?_, k0, k4⟩
  · unfold b_X5_fillColumn_0 b_X5_fillColumn_65
    rw [xg_Ru_1, Option.bind_some, h7, xg_Ru_2, Option.bind_some, h12, xr_is h6, Option.bind_some, nI_add, show nI (a + (j + 1)) - (1 : Int32) = nI (a + j) from nI_pred (a + j), x_get h6 h8 (by omega) h9, zbp_some, hca, xo_Ru, Option.bind_some, x_turn h1 hc h5 ea el eo, Option.bind_some]
    show ((gI (xh x si1 sq1 sl A B g) (x + 60) 5 5).bind fun v8 => (gR (xh x si1 sq1 sl A B g) (x + 60) 5 0).bind fun a9 => (gI (xh x si1 sq1 sl A B g) a9 7 2).bind fun v10 => (gI (xh x si1 sq1 sl A B g) (x + 60) 5 6).bind fun v11 => if (zmax (0 : Int32) (nI (j + 1) + v8)) ≤ (0 : Int32) then b_X5_fillColumn_68 zFuel (xh x si1 sq1 sl A B g) (x + 60) (nI (j + 1)) (zmin v10 (nI (j + 1) + v11)) (1048576 : Int32) (zmax (0 : Int32) (nI (j + 1) + v8)) else (gR (xh x si1 sq1 sl A B g) (x + 60) 5 7).bind fun a12 => (sI (xh x si1 sq1 sl A B g) a12 ((zmax (0 : Int32) (nI (j + 1) + v8)) - (1 : Int32)) (1048576 : Int32)).bind fun h13 => b_X5_fillColumn_68 zFuel h13 (x + 60) (nI (j + 1)) (zmin v10 (nI (j + 1) + v11)) (1048576 : Int32) (zmax (0 : Int32) (nI (j + 1) + v8))) = _
    rw [xg_Ru_5, Option.bind_some, s1 60 5 (by omega), r1, xg_Ru_0, Option.bind_some, q0, xs_g h1, Option.bind_some, hP1, xg_Ru_6, Option.bind_some, s1 60 6 (by omega), r2, efr, ee, show (1048576 : Int32) = nI (2 ^ 20) from rfl]
    by_cases hf0 : 0 < fr
    · rw [if_neg (nI_nle hf0 (by omega)), xg_Ru_7, Option.bind_some, q7, nI_p hf0, xi_s Io (by omega), Option.bind_some, ← e1]
      show _ = b_X5_fillColumn_68 zFuel (xh x si1 sq1 sl (if 0 < fr then ua A oa (upd (A oa) (fr - 1) (nI (2 ^ 20))) else A) B g) (x + 60) (nI (j + 1)) (nI e) (nI (2 ^ 20)) (nI fr)
      rw [if_pos hf0]
    · rw [if_pos (show nI fr ≤ (0 : Int32) from nI_le (b := 0) (by omega) (by decide)), ← e1]
      show _ = b_X5_fillColumn_68 zFuel (xh x si1 sq1 sl (if 0 < fr then ua A oa (upd (A oa) (fr - 1) (nI (2 ^ 20))) else A) B g) (x + 60) (nI (j + 1)) (nI e) (nI (2 ^ 20)) (nI fr)
      rw [if_neg hf0]
  · have io := int1501 Io
    exact ⟨fun k f hk _ => s1 k f (Or.inl hk), ⟨s1 60 2 (by omega), s1 60 3 (by omega), s1 60 4 (by omega), s1 60 14 (by omega)⟩, fun k f hk => qo k f (Or.inl hk), ⟨qo 60 0 (by omega), qo 60 1 (by omega)⟩, fun k hk => by rw [ua_n (by omega), hA1 k (by omega)], k2⟩
  · refine ⟨⟨oa, na, la, q7, q8, q9, Io, Ia, Il, d2.symm, d3.symm, d1⟩, (s1 60 5 (by omega)).trans r1, (s1 60 6 (by omega)).trans r2, (s1 69 1 (by omega)).trans r3, (s1 69 2 (by omega)).trans r4, ?_, fun _ => ?_, fun _ => ⟨c, hc, s10, q12, ?_⟩, k3⟩
    · rw [q7, ua_s]; exact k1
    · rw [q8, ua_n d2, hA1 na d2]; exact r5'
    · rw [k2 (P + 1) p.2.2.1, k2 (P + 2) p.2.2.2.1]
      exact hcm
theorem x_rfirst17 {P na e : Nat} (h0 : sq 60 0 = P) (hP : isSet P) (hsz : si P 2 = nI s) (hs : s ≤ 1500) (ea : sq 60 7 = na) (Ia : isInt na 1501) (he : e ≤ s) : ∀ (fuel r : Nat) (A : Nat → Nat → Int32), r ≤ e + 1 → e + 1 - r < fuel → (∀ q, q < r → A na q = nI q) → ∃ f, b_X5_fillFirstColumn_17 fuel (xh x si sq sl A B g) (x + 60) (nI e) (nI r) = some (xh x si sq sl (ua A na f) B g) ∧ (∀ q, q ≤ e → f q = nI q) ∧ (e < s → f (e + 1) = nI (2 ^ 20)) := by
  intro fuel
  induction fuel with
  | zero => intro r A _ h; omega
  | succ n ih =>
    intro r A hr hf hv
    unfold b_X5_fillFirstColumn_17
    by_cases hre : r ≤ e
    · rw [if_neg (nI_nlt hre (by omega)), xg_Ru_7, Option.bind_some, ea, xi_s Ia (by omega), Option.bind_some, nI_1]
      obtain ⟨f, e1, k1, k2⟩ := ih (r + 1) (ua A na (upd (A na) r (nI r))) (by omega) (by omega) (by
        intro q hq
        rw [ua_s]
        by_cases hqr : q = r
        · subst hqr; exact pk_us
        · rw [pk_un hqr]; exact hv q (by omega))
      exact ⟨f, by rw [e1, ua_ua], k1, k2⟩
    · rw [if_pos (nI_lt (by omega) (by omega)), xo_Ru, Option.bind_some, x_rclose (v := 0) h0 hP hsz hs ea Ia (by omega), Option.bind_some]
      by_cases hes : e < s
      · rw [if_pos hes]
        refine ⟨_, rfl, fun q hq => ?_, fun _ => pk_us⟩
        rw [pk_un (by omega)]
        exact hv q (by omega)
      · rw [if_neg hes]
        exact ⟨A na, by rw [ua_self], fun q hq => hv q (by omega), fun h => absurd h hes⟩
theorem x_meas76 {P R a n : Nat} (hm : m ≤ 1500) (hβ : β ≤ 5000) (hbd : ∀ j i, phi mt sw s m j i ≤ β → j ≤ i + lo ∧ i ≤ j + hi) (hlo : m ≤ s + lo) (hhi : s ≤ m + hi) (hlo2 : lo ≤ 5000) (hhi2 : hi ≤ 5000) (htr : tr = true → (m + 1) * (lo + hi + 1) ≤ 80608) : ∀ (d j fuel : Nat) (si : Nat → Nat → Int32) (sq : Nat → Nat → Nat) (A : Nat → Nat → Int32) (B : Nat → Nat → Int64), j + d = m → d < fuel → xLd si sq A B P R s a m n sw tr mt → rSt si sq A B P s m β lo hi sw tr mt j → ∃ r si' sq' A' B', b_X5_measure_76 fuel (xh x si sq sl A B g) (x + 60) (nI β) (nI (j + 1)) = some (nI r, xh x si' sq' sl A' B' g) ∧ fRu si si' sq sq' A A' B B' ∧ r < 2 ^ 21 ∧ (cs fC (fR false) mt sw m s ≤ β → r = cs fC (fR false) mt sw m s ∧ rSt si' sq' A' B' P s m β lo hi sw tr mt m) ∧ (β < cs fC (fR false) mt sw m s → β < r) ∧ rC sq' := by
  intro d
  induction d with
  | zero =>
    intro j fuel si sq A B hj hf hL hR
    obtain rfl : j = m := by omega
    obtain ⟨fuel, rfl⟩ : ∃ f, fuel = f + 1 := ⟨fuel - 1, by omega⟩
    obtain ⟨h1, h2, h3, h4, h5, h6, h7, h8, h9, h10, h11, h12, h13, h14, h15, h16⟩ := id hL
    obtain ⟨⟨na, la, oa, ea, el, eo, Ia, Il, Io, d1, d2, d3⟩, r1, r2, r3, r4, r5', r6, r7, r8⟩ := id hR
    obtain ⟨v, v1, v2, v3, v4⟩ := r5'.1 s (Nat.le_refl _) hlo hhi
    have hphi : phi mt sw s j j s = cs fC (fR false) mt sw j s := by unfold phi; omega
    rw [ea] at v1
    refine ⟨v, si, sq, A, B, ?_, fRu_r, by omega, fun h => ⟨v4 (by omega), hR⟩, fun h => by omega, hR.1⟩
    unfold b_X5_measure_76
    rw [xg_Ru_3, Option.bind_some, h13, if_pos (nI_lt (by omega) (by omega)), xg_Ru_7, Option.bind_some, ea, xg_Ru_0, Option.bind_some, h5, xs_g h1, Option.bind_some, h2, xi_l Ia (by omega), Option.bind_some, v1]
  | succ d ih =>
    intro j fuel si sq A B hj hf hL hR
    obtain ⟨fuel, rfl⟩ : ∃ f, fuel = f + 1 := ⟨fuel - 1, by omega⟩
    obtain ⟨lv, si1, sq1, A1, B1, e1, f1, R1, l1, l2⟩ := x_rcolumn (x := x) (sl := sl) (g := g) hm (show j < m by omega) hbd hlo hlo2 hhi2 htr hL hR
    have h13 := hL.2.2.2.2.2.2.2.2.2.2.2.2.1
    by_cases hle : lv ≤ β
    · obtain ⟨r, si', sq', A', B', k1, k2, k3, k4, k5, k6⟩ := ih (j + 1) fuel si1 sq1 A1 B1 (by omega) (by omega) (xLd_f hL f1) R1
      refine ⟨r, si', sq', A', B', ?_, fRu_t f1 k2, k3, k4, k5, k6⟩
      conv => lhs; unfold b_X5_measure_76
      rw [xg_Ru_3, Option.bind_some, h13, if_neg (nI_nlt (by omega) (by omega)), xo_Ru, Option.bind_some, e1, zbp_some, if_pos (nI_le hle (by omega)), nI_1]
      exact k1
    · have hno : ¬ cs fC (fR false) mt sw m s ≤ β := by
        intro h
        obtain ⟨q, q1, q2⟩ := phi_all h (j + 1) (by omega)
        exact hle (l2 q q1 q2)
      refine ⟨β + 1, si1, sq1, A1, B1, ?_, f1, by omega, fun h => absurd h hno, fun _ => by omega, R1.1⟩
      conv => lhs; unfold b_X5_measure_76
      rw [xg_Ru_3, Option.bind_some, h13, if_neg (nI_nlt (by omega) (by omega)), xo_Ru, Option.bind_some, e1, zbp_some, if_neg (nI_ge (by omega) (by omega)), nI_1]
theorem x_measure {P R a n : Nat} (hβ : β ≤ 5000) (htr : tr = true → (s - m) + (m - s) ≤ β → (m + 1) * (β + 1) ≤ 80608) (hL : xLd si sq A B P R s a m n sw tr mt) (hC : rC sq) : ∃ r si' sq' A' B', b_X5_measure_0 (xh x si sq sl A B g) (x + 60) (nI β) = some (nI r, xh x si' sq' sl A' B' g) ∧ fRu si si' sq sq' A A' B B' ∧ r < 2 ^ 21 ∧ (cs fC (fR false) mt sw m s ≤ β → r = cs fC (fR false) mt sw m s ∧ ∃ lo hi, lo + hi ≤ β ∧ (∀ j i, phi mt sw s m j i ≤ β → j ≤ i + lo ∧ i ≤ j + hi) ∧ rSt si' sq' A' B' P s m β lo hi sw tr mt m) ∧ (β < cs fC (fR false) mt sw m s → β < r) ∧ rC sq' := by
  obtain ⟨h1, h2, h3, h4, h5, h6, h7, h8, h9, h10, h11, h12, h13, h14, h15, h16⟩ := id hL
  have p := set_ne h1
  have hm : m ≤ 1500 := by omega
  have egap : nI s - nI m = iI ((s : Int) - m) := by rw [iI_n, iI_n, iI_sub]
  have eabs : zabs (nI s - nI m) = nI ((s - m) + (m - s)) := by
    rw [egap, zabs_i (by omega) (by omega)]
    congr 1
    omega
  by_cases hsp : (s - m) + (m - s) ≤ β
  · let h := (β - ((s - m) + (m - s))) / 2
    let lo := (m - s) + h
    let hi := (s - m) + h
    have hlo : m ≤ s + lo := by show m ≤ s + ((m - s) + h); omega
    have hhi : s ≤ m + hi := by show s ≤ m + ((s - m) + h); omega
    have hh2 : 2 * h ≤ β - ((s - m) + (m - s)) := by show 2 * ((β - ((s - m) + (m - s))) / 2) ≤ _; omega
    have hlh : lo + hi ≤ β := by show (m - s) + h + ((s - m) + h) ≤ β; omega
    have hbd : ∀ j i, phi mt sw s m j i ≤ β → j ≤ i + lo ∧ i ≤ j + hi := fun j i q => phi_band q
    have e5 : zmin (nI s - nI m) (0 : Int32) - (nI β - nI ((s - m) + (m - s))) / (2 : Int32) = iI (-(lo : Int)) := by
      rw [egap, show (0 : Int32) = iI 0 from rfl, zmin_i (by omega) (by omega) (by decide) (by decide), pk_sub hsp, show (2 : Int32) = nI 2 from rfl, pk_div (by omega) (by decide) (by decide), iI_n, iI_sub]
      congr 1
      show min ((s : Int) - m) 0 - ((h : Nat) : Int) = -(((m - s) + h : Nat) : Int)
      omega
    have e6 : zmax (nI s - nI m) (0 : Int32) + (nI β - nI ((s - m) + (m - s))) / (2 : Int32) = nI hi := by
      rw [egap, show (0 : Int32) = iI 0 from rfl, zmax_i (by omega) (by omega) (by decide) (by decide), pk_sub hsp, show (2 : Int32) = nI 2 from rfl, pk_div (by omega) (by decide) (by decide), iI_n, iI_add, iI_n]
      congr 1
      show max ((s : Int) - m) 0 + ((h : Nat) : Int) = (((s - m) + h : Nat) : Int)
      omega
    have ew : nI hi - iI (-(lo : Int)) + (1 : Int32) = nI (lo + hi + 1) := by
      rw [iI_n, iI_sub, show (1 : Int32) = iI 1 from rfl, iI_add, iI_n]
      congr 1
      omega
    obtain ⟨na, la, oa, ea, el, eo, Ia, Il, Io, d1, d2, d3⟩ := id hC
    let si1 := u2 (u2 (u2 (u2 si 60 5 (iI (-(lo : Int)))) 60 6 (nI hi)) 69 1 (iI (-(lo : Int)))) 69 2 (nI (lo + hi + 1))
    have s1 : ∀ k f, (k ≠ 60 ∨ (f ≠ 5 ∧ f ≠ 6)) → k ≠ 69 → si1 k f = si k f := by
      intro k f q1 q2
      show u2 (u2 (u2 (u2 si 60 5 (iI (-(lo : Int)))) 60 6 (nI hi)) 69 1 (iI (-(lo : Int)))) 69 2 (nI (lo + hi + 1)) k f = _
      rw [u2_n (Or.inl q2), u2_n (Or.inl q2), u2_n (by omega), u2_n (by omega)]
    have hP1 : si1 P 2 = nI s := (s1 P 2 (Or.inl p.1) p.2.1).trans h2
    let e := min s hi
    have ee : zmin (nI s) (nI hi) = nI e := zmin_n (by omega) (by omega)
    have he1 : e ≤ s := Nat.min_le_left _ _
    have he2 : e ≤ hi := Nat.min_le_right _ _
    have he3 : s ≤ e ∨ hi ≤ e := by show s ≤ min s hi ∨ hi ≤ min s hi; omega
    obtain ⟨f, ef, k1, k2⟩ := x_rfirst17 (x := x) (si := si1) (sq := sq) (sl := sl) (B := B) (g := g) (s := s) (P := P) (na := na) (e := e) h5 h1 hP1 h4 ea Ia he1 zFuel 0 A (by omega) (zF_lt (by omega)) (fun q h => absurd h (Nat.not_lt_zero _))
    have fr1 : fRu si si1 sq sq A (ua A na f) B B := by
      have ia := int1501 Ia
      exact ⟨fun k f q1 q2 => s1 k f (Or.inl q1) q2, ⟨s1 60 2 (by omega) (by decide), s1 60 3 (by omega) (by decide), s1 60 4 (by omega) (by decide), s1 60 14 (by omega) (by decide)⟩, fun _ _ _ => rfl, ⟨rfl, rfl⟩, fun k hk => by rw [ua_n (by omega)], fun _ _ => rfl⟩
    have R0 : rSt si1 sq (ua A na f) B P s m β lo hi sw tr mt 0 := by
      refine ⟨hC, ?_, ?_, ?_, u2_s, ⟨fun i q1 q2 q3 => ?_, fun i q1 q2 => ?_⟩, fun q => absurd q (by decide), fun q => absurd q (by decide), fun _ j' i' a1 a2 a3 a4 a5 a6 a7 => by omega⟩
      · show u2 (u2 (u2 (u2 si 60 5 (iI (-(lo : Int)))) 60 6 (nI hi)) 69 1 (iI (-(lo : Int)))) 69 2 (nI (lo + hi + 1)) 60 5 = _
        rw [u2_n (Or.inl (by decide)), u2_n (Or.inl (by decide)), u2_n (Or.inr (by decide)), u2_s]
      · show u2 (u2 (u2 (u2 si 60 5 (iI (-(lo : Int)))) 60 6 (nI hi)) 69 1 (iI (-(lo : Int)))) 69 2 (nI (lo + hi + 1)) 60 6 = _
        rw [u2_n (Or.inl (by decide)), u2_n (Or.inl (by decide)), u2_s]
      · show u2 (u2 (u2 (u2 si 60 5 (iI (-(lo : Int)))) 60 6 (nI hi)) 69 1 (iI (-(lo : Int)))) 69 2 (nI (lo + hi + 1)) 69 1 = _
        rw [u2_n (Or.inr (by decide)), u2_s]
      · rw [ea, ua_s, k1 i (by omega)]
        exact ⟨i, rfl, by omega, by rw [D_c]; exact Nat.le_refl _, fun _ => by rw [D_c]⟩
      · rw [ea, ua_s, show i = e + 1 by omega]
        exact k2 (by omega)
    obtain ⟨r, si', sq', A', B', m1, m2, m3, m4, m5, m6⟩ := x_meas76 (x := x) (sl := sl) (g := g) (P := P) (R := R) (a := a) (n := n) (mt := mt) (sw := sw) (tr := tr) (s := s) (m := m) (β := β) (lo := lo) (hi := hi) hm hβ hbd hlo hhi (by omega) (by omega) (by
      intro q
      exact Nat.le_trans (Nat.mul_le_mul_left _ (by omega)) (htr q hsp)) m 0 zFuel si1 sq (ua A na f) B (by omega) (zF_lt (by omega)) (xLd_f hL fr1) R0
    refine ⟨r, si', sq', A', B', ?_, fRu_t fr1 m2, m3, fun q => ⟨(m4 q).1, lo, hi, hlh, hbd, (m4 q).2⟩, m5, m6⟩
    unfold b_X5_measure_0 b_X8_widen_0
    rw [xg_Ru_0, Option.bind_some, h5, xs_g h1, Option.bind_some, h2, xg_Ru_3, Option.bind_some, h13, eabs, if_pos (show (0 : Int32) ≤ nI β - nI ((s - m) + (m - s)) by rw [pk_sub hsp]; exact nI_pos' (by omega)), e5, e6, xp_Ru_5, Option.bind_some, xp_Ru_6, Option.bind_some, xg_Ru_15, Option.bind_some, xg_Ru_5, Option.bind_some, xg_Ru_6, Option.bind_some, u2_s, u2_n (Or.inr (by decide)), u2_s, xo_St, Option.bind_some, xp_St_1, Option.bind_some, ew, xp_St_2, Option.bind_some, Option.bind_some, xo_Ru, Option.bind_some]
    show ((b_X5_fillFirstColumn_0 (xh x si1 sq sl A B g) (x + 60)).bind fun h12 => b_X5_measure_76 zFuel h12 (x + 60) (nI β) ((1 : Int32))) = _
    have h6' : si1 60 6 = nI hi := R0.2.2.1
    unfold b_X5_fillFirstColumn_0
    rw [xg_Ru_0, Option.bind_some, h5, xs_g h1, Option.bind_some, hP1, xg_Ru_6, Option.bind_some, h6', ee, show (0 : Int32) = nI 0 from rfl, ef, Option.bind_some]
    exact m1
  · have hno : β < cs fC (fR false) mt sw m s := by
      have q1 := D_ge1 (mt := mt) (sw := sw) m s
      have q2 := D_ge2 (mt := mt) (sw := sw) m s
      omega
    refine ⟨β + 1, si, sq, A, B, ?_, fRu_r, by omega, fun q => by omega, fun _ => by omega, hC⟩
    unfold b_X5_measure_0
    rw [xg_Ru_0, Option.bind_some, h5, xs_g h1, Option.bind_some, h2, xg_Ru_3, Option.bind_some, h13, eabs, if_neg (i_nle.mpr (pk_sneg (by omega) (by omega))), nI_1]
end ME
