/-! THE RULER: distance; whole -/
def fRd (si si' : Nat → Nat → Int32) (sq sq' : Nat → Nat → Nat) (A A' : Nat → Nat → Int32) (B B' : Nat → Nat → Int64) : Prop := (∀ k f, k ≠ 60 → k ≠ 69 → si' k f = si k f) ∧ (∀ k f, k ≠ 60 → sq' k f = sq k f) ∧ (∀ k, k < 66 ∨ 68 < k → A' k = A k) ∧ (∀ k, k ≠ 70 → B' k = B k)
theorem fRd_r {si : Nat → Nat → Int32} {sq : Nat → Nat → Nat} {A : Nat → Nat → Int32} {B : Nat → Nat → Int64} : fRd si si sq sq A A B B := ⟨fun _ _ _ _ => rfl, fun _ _ _ => rfl, fun _ _ => rfl, fun _ _ => rfl⟩
theorem fRd_t {si si1 si2 : Nat → Nat → Int32} {sq sq1 sq2 : Nat → Nat → Nat} {A A1 A2 : Nat → Nat → Int32} {B B1 B2 : Nat → Nat → Int64} (h1 : fRd si si1 sq sq1 A A1 B B1) (h2 : fRd si1 si2 sq1 sq2 A1 A2 B1 B2) : fRd si si2 sq sq2 A A2 B B2 := by
  obtain ⟨a1, a6, a9, a10⟩ := h1
  obtain ⟨b1, b6, b9, b10⟩ := h2
  exact ⟨fun k f h h' => (b1 k f h h').trans (a1 k f h h'), fun k f h => (b6 k f h).trans (a6 k f h), fun k h => (b9 k h).trans (a9 k h), fun k h => (b10 k h).trans (a10 k h)⟩
theorem fRu_d {si si1 : Nat → Nat → Int32} {sq sq1 : Nat → Nat → Nat} {A A1 : Nat → Nat → Int32} {B B1 : Nat → Nat → Int64} (h1 : fRu si si1 sq sq1 A A1 B B1) : fRd si si1 sq sq1 A A1 B B1 := ⟨h1.1, h1.2.2.1, h1.2.2.2.2.1, h1.2.2.2.2.2⟩
section DI
variable {x : Nat} {si : Nat → Nat → Int32} {sq : Nat → Nat → Nat} {sl : Nat → Nat → Int64} {A : Nat → Nat → Int32} {B : Nat → Nat → Int64} {g g2 : zh_H}
variable {y : Nat} {mi : Nat → Int32} {ml : Nat → Int64} {C : Nat → Nat → Int32} {E : Nat → Nat → Int64}
variable {mt : Nat → Nat → Bool} {sw tr : Bool}
theorem x_lay {P R a b n : Nat} (hR : isRow R) (hn : si R 1 = nI n) (hn2 : n ≤ 1500) (hab : a ≤ b) (hb : b ≤ n) : b_X5_lay_0 (xh x si sq sl A B g) (x + 60) (x + P) (x + R) (nI a) (nI b) (bI sw) = some (xh x (u2 (u2 (u2 si 60 2 (nI a)) 60 3 (nI (b - a))) 60 4 (bI sw)) (u2 (u2 sq 60 0 P) 60 1 R) sl A B g) := by
  have r := row_ne hR
  have hn' : (u2 si 60 2 (nI a)) R 1 = nI n := by rw [u2_n (Or.inl r.1)]; exact hn
  unfold b_X5_lay_0 b_X5_lay_34
  rw [xp_Ru_0, Option.bind_some, xp_Ru_1, Option.bind_some, xp_Ru_2, Option.bind_some, xr_is hR, Option.bind_some, x_isPart_t hR hn' (okP_of hab hb (by omega)), zbp_some, if_neg (by decide), pk_sub hab, xp_Ru_3, Option.bind_some, xz_Ru_4 (bI_01 sw), Option.bind_some]
/-- the ruler laid on sets and bytes -/
theorem x_laid {P R s a b n : Nat} (hP : isSet P) (hs : si P 2 = nI s) (hsP : s ≤ slen P) (hs2 : s ≤ 1500) (hR : isRow R) (hn : si R 1 = nI n) (hnR : n ≤ rlen R) (hn2 : n ≤ 1500) (hab : a ≤ b) (hb : b ≤ n) (hC : rC sq) (hmt : ∀ j, j < b - a → ∃ c, c < 127 ∧ A (R + 1) (a + j) = nI c ∧ ∀ i, i < s → hasB (B (P + 1) i) (B (P + 2) i) c = mt i j) : ∃ si' sq', ((b_X5_lay_0 (xh x si sq sl A B g) (x + 60) (x + P) (x + R) (nI a) (nI b) (bI sw)).bind fun h2 => pZ h2 (x + 60) 5 14 (bI tr)) = some (xh x si' sq' sl A B g) ∧ xLd si' sq' A B P R s a (b - a) n sw tr mt ∧ rC sq' ∧ fRd si si' sq sq' A A B B := by
  have r := row_ne hR
  have p := set_ne hP
  refine ⟨u2 (u2 (u2 (u2 si 60 2 (nI a)) 60 3 (nI (b - a))) 60 4 (bI sw)) 60 14 (bI tr), u2 (u2 sq 60 0 P) 60 1 R, ?_, ⟨hP, ?_, hsP, hs2, ?_, hR, u2_s, ?_, hnR, hn2, by omega, ?_, ?_, ?_, u2_s, hmt⟩, ?_, ⟨?_, ?_, fun _ _ => rfl, fun _ _ => rfl⟩⟩
  · rw [x_lay hR hn hn2 hab hb, Option.bind_some, xz_Ru_14 (bI_01 tr)]
  · rw [u2_n (Or.inl p.1), u2_n (Or.inl p.1), u2_n (Or.inl p.1), u2_n (Or.inl p.1)]; exact hs
  · rw [u2_n (Or.inr (by decide)), u2_s]
  · rw [u2_n (Or.inl r.1), u2_n (Or.inl r.1), u2_n (Or.inl r.1), u2_n (Or.inl r.1)]; exact hn
  · rw [u2_n (Or.inr (by decide)), u2_n (Or.inr (by decide)), u2_n (Or.inr (by decide)), u2_s]
  · rw [u2_n (Or.inr (by decide)), u2_n (Or.inr (by decide)), u2_s]
  · rw [u2_n (Or.inr (by decide)), u2_s]
  · unfold rC
    rw [u2_n (Or.inr (by decide)), u2_n (Or.inr (by decide)), u2_n (Or.inr (by decide)), u2_n (Or.inr (by decide)), u2_n (Or.inr (by decide)), u2_n (Or.inr (by decide))]
    exact hC
  · intro k f h1 h2
    rw [u2_n (Or.inl h1), u2_n (Or.inl h1), u2_n (Or.inl h1), u2_n (Or.inl h1)]
  · intro k f h1
    rw [u2_n (Or.inl h1), u2_n (Or.inl h1)]
theorem x_dist20 {P R s a m n L : Nat} (hL2 : L ≤ 2000) : ∀ (fuel bnd : Nat) (si : Nat → Nat → Int32) (sq : Nat → Nat → Nat) (A : Nat → Nat → Int32) (B : Nat → Nat → Int64), 1 ≤ bnd → bnd ≤ 100000 → L - bnd < fuel → xLd si sq A B P R s a m n sw false mt → rC sq → ∃ v si' sq' A' B', b_X5_distance_20 fuel (xh x si sq sl A B g) (x + 60) (nI L) (nI bnd) = some (nI v, xh x si' sq' sl A' B' g) ∧ fRd si si' sq sq' A A' B B' ∧ rC sq' ∧ v < 2 ^ 21 ∧ (cs fC (fR false) mt sw m s ≤ L → v = cs fC (fR false) mt sw m s) ∧ (L < cs fC (fR false) mt sw m s → L < v) := by
  intro fuel
  induction fuel with
  | zero => intro bnd si sq A B _ _ h; omega
  | succ f ih =>
    intro bnd si sq A B hb hb2 hf hL hC
    unfold b_X5_distance_20 b_X5_distance_62
    by_cases hLb : L ≤ bnd
    · obtain ⟨r, si', sq', A', B', m1, m2, m3, m4, m5, m6⟩ := x_measure (x := x) (sl := sl) (g := g) (β := L) (by omega) (fun h => absurd h (by decide)) hL hC
      refine ⟨r, si', sq', A', B', ?_, fRu_d m2, m6, m3, fun h => (m4 h).1, m5⟩
      rw [if_pos (nI_le hLb (by omega)), xo_Ru, Option.bind_some, m1, zbp_some]
    · obtain ⟨r, si', sq', A', B', m1, m2, m3, m4, m5, m6⟩ := x_measure (x := x) (sl := sl) (g := g) (β := bnd) (by omega) (fun h => absurd h (by decide)) hL hC
      rw [if_neg (nI_ge (by omega) (by omega)), if_neg (show ¬ (2000 : Int32) ≤ nI bnd from nI_ge (b := 2000) (by omega) (by decide)), xo_Ru, Option.bind_some, m1, zbp_some]
      have m4' : cs fC (fR false) mt sw m s ≤ bnd → r = cs fC (fR false) mt sw m s := fun h => (m4 h).1
      clear m4
      by_cases hr : bnd < r
      · have hno : ¬ cs fC (fR false) mt sw m s ≤ bnd := fun h => by have := m4' h; omega
        obtain ⟨v, si2, sq2, A2, B2, k1, k2, k3, k4, k5, k6⟩ := ih (bnd * 4) si' sq' A' B' (by omega) (by omega) (by omega) (xLd_f hL m2) m6
        refine ⟨v, si2, sq2, A2, B2, ?_, fRd_t (fRu_d m2) k2, k3, k4, k5, k6⟩
        rw [if_pos (nI_lt hr (by omega)), show (4 : Int32) = nI 4 from rfl, pk_mul]
        exact k1
      · have hyes : cs fC (fR false) mt sw m s ≤ bnd := by
          by_cases h : cs fC (fR false) mt sw m s ≤ bnd
          · exact h
          · have := m5 (by omega); omega
        refine ⟨r, si', sq', A', B', ?_, fRu_d m2, m6, m3, fun _ => m4' hyes, fun h => by omega⟩
        rw [if_neg (nI_nlt (by omega) (by omega))]
theorem x_distance {P R s a b n L : Nat} (hL2 : L ≤ 2000) (hP : isSet P) (hs : si P 2 = nI s) (hsP : s ≤ slen P) (hs2 : s ≤ 1500) (hR : isRow R) (hn : si R 1 = nI n) (hnR : n ≤ rlen R) (hn2 : n ≤ 1500) (hab : a ≤ b) (hb : b ≤ n) (hC : rC sq) (hmt : ∀ j, j < b - a → ∃ c, c < 127 ∧ A (R + 1) (a + j) = nI c ∧ ∀ i, i < s → hasB (B (P + 1) i) (B (P + 2) i) c = mt i j) : ∃ v si' sq' A' B', b_X5_distance_0 (xh x si sq sl A B g) (x + 60) (x + P) (x + R) (nI a) (nI b) (bI sw) (nI L) = some (nI v, xh x si' sq' sl A' B' g) ∧ fRd si si' sq sq' A A' B B' ∧ rC sq' ∧ v < 2 ^ 21 ∧ (cs fC (fR false) mt sw (b - a) s ≤ L → v = cs fC (fR false) mt sw (b - a) s) ∧ (L < cs fC (fR false) mt sw (b - a) s → L < v) := by
  obtain ⟨si1, sq1, e1, l1, l2, l3⟩ := x_laid (x := x) (sl := sl) (g := g) (tr := false) (sw := sw) hP hs hsP hs2 hR hn hnR hn2 hab hb hC hmt
  obtain ⟨v, si2, sq2, A2, B2, k1, k2, k3, k4, k5, k6⟩ := x_dist20 (x := x) (sl := sl) (g := g) (mt := mt) (sw := sw) (P := P) (R := R) (s := s) (a := a) (m := b - a) (n := n) hL2 zFuel 16 si1 sq1 A B (by omega) (by omega) (zF_lt (by omega)) l1 l2
  refine ⟨v, si2, sq2, A2, B2, ?_, fRd_t l3 k2, k3, k4, k5, k6⟩
  unfold b_X5_distance_0
  rw [xo_Ru, Option.bind_some]
  have : ((b_X5_lay_0 (xh x si sq sl A B g) (x + 60) (x + P) (x + R) (nI a) (nI b) (bI sw)).bind fun h2 => (pZ h2 (x + 60) 5 14 (0 : Int32)).bind fun h3 => b_X5_distance_20 zFuel h3 (x + 60) (nI L) ((16 : Int32))) = (((b_X5_lay_0 (xh x si sq sl A B g) (x + 60) (x + P) (x + R) (nI a) (nI b) (bI sw)).bind fun h2 => pZ h2 (x + 60) 5 14 (bI false)).bind fun h3 => b_X5_distance_20 zFuel h3 (x + 60) (nI L) ((16 : Int32))) := by
    rw [Option.bind_assoc]
    rfl
  rw [this, e1, Option.bind_some]
  exact k1
/-- with a limit below nought nothing is within it -/
theorem x_dist_neg {P R s a b n : Nat} (hP : isSet P) (hs : si P 2 = nI s) (hsP : s ≤ slen P) (hs2 : s ≤ 1500) (hR : isRow R) (hn : si R 1 = nI n) (hnR : n ≤ rlen R) (hn2 : n ≤ 1500) (hab : a ≤ b) (hb : b ≤ n) (hC : rC sq) (hmt : ∀ j, j < b - a → ∃ c, c < 127 ∧ A (R + 1) (a + j) = nI c ∧ ∀ i, i < s → hasB (B (P + 1) i) (B (P + 2) i) c = mt i j) : ∃ si' sq', b_X5_distance_0 (xh x si sq sl A B g) (x + 60) (x + P) (x + R) (nI a) (nI b) (bI sw) (-1) = some (0, xh x si' sq' sl A B g) ∧ fRd si si' sq sq' A A B B ∧ rC sq' := by
  obtain ⟨si1, sq1, e1, l1, l2, l3⟩ := x_laid (x := x) (sl := sl) (g := g) (tr := false) (sw := sw) hP hs hsP hs2 hR hn hnR hn2 hab hb hC hmt
  refine ⟨si1, sq1, ?_, l3, l2⟩
  obtain ⟨h1, h2, h3, h4, h5, h6, h7, h8, h9, h10, h11, h12, h13, h14, h15, h16⟩ := id l1
  have eabs : zabs (nI s - nI (b - a)) = nI ((s - (b - a)) + ((b - a) - s)) := by
    rw [show nI s - nI (b - a) = iI ((s : Int) - ((b - a : Nat) : Int)) by rw [iI_n, iI_n, iI_sub], zabs_i (by omega) (by omega)]
    congr 1
    omega
  have em : b_X5_measure_0 (xh x si1 sq1 sl A B g) (x + 60) (-1) = some (0, xh x si1 sq1 sl A B g) := by
    unfold b_X5_measure_0
    rw [xg_Ru_0, Option.bind_some, h5, xs_g h1, Option.bind_some, h2, xg_Ru_3, Option.bind_some, h13, eabs, if_neg]
    · rfl
    · rw [iI_n, show (-1 : Int32) = iI (-1) from rfl, iI_sub, show (0 : Int32) = iI 0 from rfl, iI_le (by decide) (by decide) (by omega) (by omega)]
      omega
  unfold b_X5_distance_0
  rw [xo_Ru, Option.bind_some]
  have : ((b_X5_lay_0 (xh x si sq sl A B g) (x + 60) (x + P) (x + R) (nI a) (nI b) (bI sw)).bind fun h2 => (pZ h2 (x + 60) 5 14 (0 : Int32)).bind fun h3 => b_X5_distance_20 zFuel h3 (x + 60) (-1) ((16 : Int32))) = (((b_X5_lay_0 (xh x si sq sl A B g) (x + 60) (x + P) (x + R) (nI a) (nI b) (bI sw)).bind fun h2 => pZ h2 (x + 60) 5 14 (bI false)).bind fun h3 => b_X5_distance_20 zFuel h3 (x + 60) (-1) ((16 : Int32))) := by
    rw [Option.bind_assoc]
    rfl
  rw [this, e1, Option.bind_some]
  show b_X5_distance_20 (999999 + 1) (xh x si1 sq1 sl A B g) (x + 60) (-1) 16 = _
  unfold b_X5_distance_20 b_X5_distance_62
  rw [if_pos (by decide), xo_Ru, Option.bind_some, em, zbp_some]
theorem x_isLimit_t {h : zh_H} {k : Nat} (hk : k ≤ 2000) : b_X10_isLimit_0 h (nI k) = some (1, h) := by
  unfold b_X10_isLimit_0 b_X10_isLimit_16
  rw [if_neg (nI_pos (by omega)), if_neg (show ¬ (2000 : Int32) < nI k from nI_nlt (a := 2000) (b := k) hk (by decide)), zif_t (Or.inr rfl)]
theorem x_isLimit_f {h : zh_H} {k : Int32} (hk : ¬ (0 ≤ k ∧ k ≤ nI 2000)) : b_X10_isLimit_0 h k = some (0, h) := by
  unfold b_X10_isLimit_0 b_X10_isLimit_15 b_X10_isLimit_16
  by_cases h1 : k < 0
  · rw [if_pos h1, zif_t (Or.inl rfl)]
  · rw [if_neg h1, if_pos (show (2000 : Int32) < k from i_nle.mp (fun q => hk ⟨i_nlt.mp h1, q⟩)), zif_t (Or.inl rfl)]
/-- the reference loads a pattern and a part -/
theorem m_load {q s a b n : Nat} (hq : q < 8) (hs : s ≤ 200) (s2 : C 7 q = nI s) (s3 : ∀ j, j < s → B (21 + 3 * q) j = E 5 (200 * q + j) ∧ B (22 + 3 * q) j = E 6 (200 * q + j)) (hn : n ≤ 1500) (n3 : rB (A 4) (C 2) n) (hab : a ≤ b) (hb : b ≤ n) : ∃ C1 E1, (((b_X11_loadPattern_0 (mh y mi ml C E g2) y (nI q)).bind fun h4 => (isO h4 y 11).bind fun o5 => (b_X11_loadBytes_0 h4 y (nI a) (nI b)).bind fun h6 => pZ h6 y 11 24 (bI sw))) = some (mh y (upd (upd (upd mi 21 (nI s)) 23 (nI (b - a))) 24 (bI sw)) ml C1 E1 g2) ∧ mLd (upd (upd (upd mi 21 (nI s)) 23 (nI (b - a))) 24 (bI sw)) C1 E1 s (b - a) sw (fun i j => mtx (B (20 + 3 * q + 1)) (B (20 + 3 * q + 2)) (C 2) i (a + j)) ∧ (∀ k, k ≠ 12 → C1 k = C k) ∧ (∀ k, k ≠ 10 → k ≠ 11 → E1 k = E k) ∧ (∀ j, j < b - a → ∃ c, c < 127 ∧ A (3 + 1) (a + j) = nI c ∧ ∀ i, i < s → hasB (B (20 + 3 * q + 1) i) (B (20 + 3 * q + 2) i) c = (fun i j => mtx (B (20 + 3 * q + 1)) (B (20 + 3 * q + 2)) (C 2) i (a + j)) i j) := by
  obtain ⟨E1, m1, m2, m3⟩ := m_loadPattern (y := y) (mi := mi) (ml := ml) (E := E) (g := g2) hq s2 hs
  obtain ⟨C1, m4, m5, m6⟩ := m_loadBytes (y := y) (mi := upd mi 21 (nI s)) (ml := ml) (C := C) (E := E1) (g := g2) hab (show b ≤ 1500 by omega)
  refine ⟨C1, E1, ?_, ⟨?_, ?_, pk_us, by omega, by omega, fun j hj => ?_⟩, m5, m2, fun j hj => ?_⟩
  · rw [m1, Option.bind_some, mis, Option.bind_some, m4, Option.bind_some, mz_swapping (bI_01 sw)]
  · rw [pk_un (by decide), pk_un (by decide), pk_us]
  · rw [pk_un (by decide), pk_us]
  · obtain ⟨c, hc, hct⟩ := okB_nat (n3 (a + j) (by omega)).2
    refine ⟨c, hc, by rw [m6 j hj]; exact hct, fun i hi => ?_⟩
    show _ = mtx (B (20 + 3 * q + 1)) (B (20 + 3 * q + 2)) (C 2) i (a + j)
    rw [mtx_n hct hc, (m3 i hi).1, (m3 i hi).2, show 20 + 3 * q + 1 = 21 + 3 * q by omega, show 20 + 3 * q + 2 = 22 + 3 * q by omega, (s3 i hi).1, (s3 i hi).2]
  · obtain ⟨c, hc, hct⟩ := okB_nat (n3 (a + j) (by omega)).2
    exact ⟨c, hc, (n3 (a + j) (by omega)).1.trans hct, fun i hi => (mtx_n hct hc).symm⟩
theorem op_whole (p a b : Int32) (sw : Bool) (lim : Int32) (hX : rText si A mi C) (hP : rPats si B C E) (hC : rC sq) : ∃ r si' sq' A' B' mi' C' E', b_X10_whole_0 (xh x si sq sl A B g) x p a b (bI sw) lim = some (r, xh x si' sq' sl A' B' g) ∧ b_X11_whole_0 (mh y mi ml C E g2) y p a b (bI sw) lim = some (r, mh y mi' ml C' E' g2) ∧ rC sq' ∧ fRd si si' sq sq' A A' B B' ∧ (∀ k, k ≠ 21 → k ≠ 23 → k ≠ 24 → mi' k = mi k) ∧ (∀ k, k < 12 ∨ 18 < k → C' k = C k) ∧ (∀ k, k ≠ 10 → k ≠ 11 → E' k = E k) := by
  rcases pat_cases p hP with h | ⟨q, hq, rfl, s, hs, s1, s2, s3⟩
  · refine ⟨-2, si, sq, A, B, mi, C, E, ?_, ?_, hC, fRd_r, fun _ _ _ _ => rfl, fun _ _ => rfl, fun _ _ _ => rfl⟩
    · unfold b_X10_whole_0
      simp only [xo_EF, Option.bind_some, x_isPattern_f h, zbp_some, if_true]
      rfl
    · unfold b_X11_whole_0
      simp only [mis, Option.bind_some, m_isThere_f h, zbp_some, if_true]
      rfl
  · by_cases h0 : s = 0
    · subst h0
      refine ⟨-2, si, sq, A, B, mi, C, E, ?_, ?_, hC, fRd_r, fun _ _ _ _ => rfl, fun _ _ => rfl, fun _ _ _ => rfl⟩
      · unfold b_X10_whole_0
        simp only [xo_EF, Option.bind_some, x_isPattern_0 hq s1, zbp_some, if_true]
        rfl
      · unfold b_X11_whole_0
        simp only [mis, Option.bind_some, m_isThere_0 hq s2, zbp_some, if_true]
        rfl
    · obtain ⟨n, hn, n1, n2, n3⟩ := hX
      by_cases hp : okP a b n
      · obtain ⟨a, b, rfl, rfl, hab, hbn⟩ := okP_nat (by omega) hp
        rcases i_range (a := lim) (n := 2000) (by decide) with ⟨L, hL, rfl⟩ | hL
        · obtain ⟨C1, E1, m1, m2, m3, m4, m5⟩ := m_load (y := y) (mi := mi) (ml := ml) (g2 := g2) (A := A) (B := B) (sw := sw) hq hs s2 s3 hn n3 hab hbn
          obtain ⟨v, si', sq', A', B', d1, d2, d3, d4, d5, d6⟩ := x_distance (x := x) (sl := sl) (g := g) (sw := sw) (L := L) (R := 3) hL (set_p hq) s1 (by rw [slen_p hq]; exact hs) (by omega) r31.1 n1 (show n ≤ rlen 3 from hn) hn hab hbn hC m5
          obtain ⟨C2, k1, k2⟩ := m_distance (y := y) (ml := ml) (g := g2) m2
          refine ⟨if v ≤ L then nI v else -4, si', sq', A', B', upd (upd (upd mi 21 (nI s)) 23 (nI (b - a))) 24 (bI sw), C2, E1, ?_, ?_, d3, d2, ?_, fun k hk => by rw [k2 k (by omega), m3 k (by omega)], m4⟩
          · unfold b_X10_whole_0 b_X10_whole_70
            simp only [xo_EF, Option.bind_some, x_isPattern_t hq s1 (show 0 < s by omega) hs, zbp_some, if_neg (show ¬ (1 : Int32) = 0 by decide), xg_EF_1, xr_is r31.1, x_isPart_t r31.1 n1 hp, x_isLimit_t hL, xg_EF_8, xg_EF_4, xpr hq, xo_Ru, d1]
            by_cases hv : v ≤ L
            · rw [if_pos (nI_le hv (by omega)), if_pos hv]
            · rw [if_neg (nI_ge (by omega) (by omega)), if_neg hv]
          · have hm : (((b_X11_loadPattern_0 (mh y mi ml C E g2) y (nI q)).bind fun h10 => (isO h10 y 11).bind fun o11 => (b_X11_loadBytes_0 h10 y (nI a) (nI b)).bind fun h12 => (pZ h12 y 11 24 (bI sw)).bind fun h13 => (isO h13 y 11).bind fun o14 => zbp (b_X11_distance_0 h13 y ) fun v16 h15 => if v16 ≤ nI L then b_X11_whole_69 h15 (v16) else b_X11_whole_69 h15 ((-4 : Int32)))) = ((b_X11_loadPattern_0 (mh y mi ml C E g2) y (nI q)).bind fun h4 => (isO h4 y 11).bind fun o5 => (b_X11_loadBytes_0 h4 y (nI a) (nI b)).bind fun h6 => pZ h6 y 11 24 (bI sw)).bind fun h13 => (isO h13 y 11).bind fun o14 => zbp (b_X11_distance_0 h13 y ) fun v16 h15 => if v16 ≤ nI L then b_X11_whole_69 h15 (v16) else b_X11_whole_69 h15 ((-4 : Int32)) := by
              simp only [Option.bind_assoc]
            unfold b_X11_whole_0
            simp only [mis, Option.bind_some, m_isThere_t hq s2 (show 0 < s by omega) hs, zbp_some, if_neg (show ¬ (1 : Int32) = 0 by decide), m_isPart_t n2 hp, m_in_t (nI_pos' (show L < 2 ^ 31 by omega)) (show nI L ≤ (2000 : Int32) from nI_le (b := 2000) hL (by decide))]
            rw [hm, m1, Option.bind_some, mis, Option.bind_some, k1, zbp_some]
            unfold b_X11_whole_69
            have hDb := cs_le (fr := false) (mt := fun i j => mtx (B (20 + 3 * q + 1)) (B (20 + 3 * q + 2)) (C 2) i (a + j)) (sw := sw) (b - a) s
            by_cases hD : cs fC (fR false) (fun i j => mtx (B (20 + 3 * q + 1)) (B (20 + 3 * q + 2)) (C 2) i (a + j)) sw (b - a) s ≤ L
            · rw [if_pos (nI_le hD (by omega)), d5 hD, if_pos hD]
            · have := d6 (by omega)
              rw [if_neg (nI_ge (by omega) (by omega)), if_neg (by omega)]
          · intro k q1 q2 q3
            rw [pk_un q3, pk_un q2, pk_un q1]
        · refine ⟨-2, si, sq, A, B, mi, C, E, ?_, ?_, hC, fRd_r, fun _ _ _ _ => rfl, fun _ _ => rfl, fun _ _ _ => rfl⟩
          · unfold b_X10_whole_0
            simp only [xo_EF, Option.bind_some, x_isPattern_t hq s1 (show 0 < s by omega) hs, zbp_some, if_neg (show ¬ (1 : Int32) = 0 by decide), xg_EF_1, xr_is r31.1, x_isPart_t r31.1 n1 hp, x_isLimit_f hL, if_true]
            rfl
          · unfold b_X11_whole_0
            simp only [mis, Option.bind_some, m_isThere_t hq s2 (show 0 < s by omega) hs, zbp_some, if_neg (show ¬ (1 : Int32) = 0 by decide), m_isPart_t n2 hp, m_in_f (show ¬ ((0 : Int32) ≤ lim ∧ lim ≤ (2000 : Int32)) from hL), if_true]
            rfl
      · refine ⟨-2, si, sq, A, B, mi, C, E, ?_, ?_, hC, fRd_r, fun _ _ _ _ => rfl, fun _ _ => rfl, fun _ _ _ => rfl⟩
        · unfold b_X10_whole_0
          simp only [xo_EF, Option.bind_some, x_isPattern_t hq s1 (show 0 < s by omega) hs, zbp_some, if_neg (show ¬ (1 : Int32) = 0 by decide), xg_EF_1, xr_is r31.1, x_isPart_f r31.1 n1 hp, if_true]
          rfl
        · unfold b_X11_whole_0
          simp only [mis, Option.bind_some, m_isThere_t hq s2 (show 0 < s by omega) hs, zbp_some, if_neg (show ¬ (1 : Int32) = 0 by decide), m_isPart_f n2 hp, if_true]
          rfl
end DI
