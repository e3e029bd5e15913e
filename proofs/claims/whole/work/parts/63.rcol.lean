/-! THE RULER: a column -/
def rC (sq : Nat → Nat → Nat) : Prop := ∃ a b c, sq 60 7 = a ∧ sq 60 8 = b ∧ sq 60 9 = c ∧ isInt a 1501 ∧ isInt b 1501 ∧ isInt c 1501 ∧ a ≠ b ∧ a ≠ c ∧ b ≠ c
theorem int1501 {a : Nat} (h : isInt a 1501) : a = 66 ∨ a = 67 ∨ a = 68 := by
  unfold isInt at h
  omega
theorem row_ne {R : Nat} (h : isRow R) : R ≠ 60 ∧ R ≠ 69 ∧ R + 1 ≠ 66 ∧ R + 1 ≠ 67 ∧ R + 1 ≠ 68 ∧ R ≠ 53 ∧ R + 1 ≠ 78 ∧ R ≠ 77 ∧ R ≠ 71 := by
  unfold isRow at h
  omega
theorem set_ne {P : Nat} (h : isSet P) : P ≠ 60 ∧ P ≠ 69 ∧ P + 1 ≠ 70 ∧ P + 2 ≠ 70 ∧ P ≠ 77 ∧ P ≠ 71 := by
  unfold isSet at h
  omega
/-- a number within the band; one that may be beyond it -/
def cg (mt : Nat → Nat → Bool) (sw : Bool) (s m β j i : Nat) (v : Int32) : Prop := ∃ n, v = nI n ∧ n ≤ i + j ∧ cs fC (fR false) mt sw j i ≤ n ∧ (phi mt sw s m j i ≤ β → n = cs fC (fR false) mt sw j i)
def cw (mt : Nat → Nat → Bool) (sw : Bool) (s m β j i : Nat) (v : Int32) : Prop := ∃ n, v = nI n ∧ n ≤ 2 ^ 20 ∧ cs fC (fR false) mt sw j i ≤ n ∧ (phi mt sw s m j i ≤ β → n = cs fC (fR false) mt sw j i)
def colB (mt : Nat → Nat → Bool) (sw : Bool) (s m β lo hi : Nat) (v : Nat → Int32) (j : Nat) : Prop := (∀ i, i ≤ s → j ≤ i + lo → i ≤ j + hi → cg mt sw s m β j i (v i)) ∧ (∀ i, i ≤ s → i = j + hi + 1 → v i = nI (2 ^ 20))
def tabB (mt : Nat → Nat → Bool) (sw : Bool) (s m β lo hi : Nat) (tr : Bool) (f : Nat → Int64) (jj rr : Nat) : Prop := tr = true → ∀ j i, 1 ≤ j → 1 ≤ i → i ≤ s → j ≤ i + lo → i ≤ j + hi → (j < jj ∨ (j = jj ∧ i < rr)) → phi mt sw s m j i ≤ β → tnib f (j * (lo + hi + 1) + (i + lo - j)) (stp (cs fC (fR false) mt sw) mt sw i j)
theorem cg_w {mt : Nat → Nat → Bool} {sw : Bool} {s m β j i : Nat} {v : Int32} (h : cg mt sw s m β j i v) (hij : i + j ≤ 2 ^ 20) : cw mt sw s m β j i v := by
  obtain ⟨n, h1, h2, h3, h4⟩ := h
  exact ⟨n, h1, by omega, h3, h4⟩
theorem cw_far {mt : Nat → Nat → Bool} {sw : Bool} {s m β j i : Nat} (hij : i + j ≤ 2 ^ 20) (h : ¬ phi mt sw s m j i ≤ β) : cw mt sw s m β j i (nI (2 ^ 20)) := ⟨2 ^ 20, rfl, Nat.le_refl _, Nat.le_trans (cs_le j i) hij, fun q => absurd q h⟩
theorem cell_inj {w j i j' i' lo : Nat} (h1 : i + lo - j < w) (h2 : i' + lo - j' < w) (hj : j ≤ i + lo) (hj' : j' ≤ i' + lo) (h : j * w + (i + lo - j) = j' * w + (i' + lo - j')) : j = j' ∧ i = i' := by
  have e1 : (j * w + (i + lo - j)) / w = j := by
    rw [Nat.mul_comm, Nat.mul_add_div (by omega), Nat.div_eq_of_lt h1, Nat.add_zero]
  have e2 : (j' * w + (i' + lo - j')) / w = j' := by
    rw [Nat.mul_comm, Nat.mul_add_div (by omega), Nat.div_eq_of_lt h2, Nat.add_zero]
  have : j = j' := by rw [← e1, h, e2]
  subst this
  exact ⟨rfl, by omega⟩
section RO
variable {x : Nat} {si : Nat → Nat → Int32} {sq : Nat → Nat → Nat} {sl : Nat → Nat → Int64} {A : Nat → Nat → Int32} {B : Nat → Nat → Int64} {g : zh_H}
variable {mt : Nat → Nat → Bool} {sw tr : Bool} {s m β lo hi : Nat}
theorem x_rclose {P e na : Nat} {v : Nat} (h0 : sq 60 0 = P) (hP : isSet P) (hs : si P 2 = nI s) (hs2 : s ≤ 1500) (ea : sq 60 7 = na) (Ia : isInt na 1501) (he : e ≤ 3000) : b_X5_closeAbove_0 (xh x si sq sl A B g) (x + 60) (nI e) = some (xh x si sq sl (if e < s then ua A na (upd (A na) (e + 1) (nI (2 ^ 20))) else A) B g) := by
  unfold b_X5_closeAbove_0 b_X5_closeAbove_21
  rw [xg_Ru_0, Option.bind_some, h0, xs_g hP, Option.bind_some, hs]
  by_cases h : e < s
  · rw [if_neg (nI_ge h (by omega)), if_pos h, xg_Ru_7, Option.bind_some, ea, nI_1, xi_s Ia (by omega), Option.bind_some, show (1048576 : Int32) = nI (2 ^ 20) from rfl]
  · rw [if_pos (nI_le (by omega) (by omega)), if_neg h]
theorem tab_put {j i t w : Nat} {B' : Nat → Nat → Int64} (hw : w = lo + hi + 1) (hb1 : j + 1 ≤ i + 1 + lo) (hb2 : i + 1 ≤ j + 1 + hi) (ht : t < 16) (heq : phi mt sw s m (j + 1) (i + 1) ≤ β → t = stp (cs fC (fR false) mt sw) mt sw (i + 1) (j + 1)) (hT : tabB mt sw s m β lo hi tr (B' 70) (j + 1) (i + 1)) : tabB mt sw s m β lo hi tr (putB tr B' ((j + 1) * w + (i + 1 + lo - (j + 1))) t 70) (j + 1) (i + 1 + 1) := by
  intro h j' i' a1 a2 a3 a4 a5 a6 a7
  unfold putB
  rw [if_pos h, ub_s, ← hw]
  by_cases hsame : j' = j + 1 ∧ i' = i + 1
  · obtain ⟨rfl, rfl⟩ := hsame
    rw [← heq a7]
    exact tnib_put ht
  · refine tnib_keep ht ?_ (by rw [hw]; exact hT h j' i' a1 a2 a3 a4 a5 (by omega) a7)
    intro q
    exact hsame (cell_inj (w := w) (lo := lo) (by omega) (by omega) a4 hb1 q)
/-- one row of column j + 1 -/
theorem x_rstep {P c lb na la oa j i fr : Nat} (hP : isSet P) (hsP : s ≤ slen P) (hs : s ≤ 1500) (hm : m ≤ 1500) (hj : j < m) (hi0 : i < s) (hbd : ∀ j i, phi mt sw s m j i ≤ β → j ≤ i + lo ∧ i ≤ j + hi) (hc : c < 127) (hcm : ∀ q, q < s → hasB (B (P + 1) q) (B (P + 2) q) c = mt q j) (hlm : 1 ≤ j → lb < 127 ∧ si 60 11 = nI lb ∧ sq 60 13 = (if lb < 64 then P + 1 else P + 2) ∧ ∀ q, q < s → hasB (B (P + 1) q) (B (P + 2) q) lb = mt q (j - 1)) (h4 : si 60 4 = bI sw) (h10 : si 60 10 = nI c) (h12 : sq 60 12 = if c < 64 then P + 1 else P + 2) (h14 : si 60 14 = bI tr) (h69 : si 69 1 = iI (-(lo : Int))) (h692 : si 69 2 = nI (lo + hi + 1)) (htr : tr = true → (j + 1) * (lo + hi + 1) + (i + 1 + lo - (j + 1)) < 80608) (ea : sq 60 7 = na) (Ia : isInt na 1501) (el : sq 60 8 = la) (Il : isInt la 1501) (eo : sq 60 9 = oa) (Io : isInt oa 1501) {B' : Nat → Nat → Int64} (hB : ∀ k, k ≠ 70 → B' k = B k) (hfr : j + 1 ≤ fr + lo) (hfr0 : fr = 0 ∨ fr + lo = j + 1) (hfi : fr ≤ i + 1) (hih : i + 1 ≤ j + 1 + hi) (hL : colB mt sw s m β lo hi (A la) j) (hO : 1 ≤ j → colB mt sw s m β lo hi (A oa) (j - 1)) (hN : ∀ q, fr ≤ q → q < i + 1 → cg mt sw s m β (j + 1) q (A na q)) (hF : i + 1 = fr → A na i = nI (2 ^ 20)) (hT : tabB mt sw s m β lo hi tr (B' 70) (j + 1) (i + 1)) : ∃ v B3, b_X5_best_0 (xh x si sq sl A B' g) (x + 60) (nI (i + 1)) (nI (j + 1)) = some (nI v, xh x si sq sl A B3 g) ∧ (∀ k, k ≠ 70 → B3 k = B k) ∧ cg mt sw s m β (j + 1) (i + 1) (nI v) ∧ tabB mt sw s m β lo hi tr (B3 70) (j + 1) (i + 1 + 1) := by
  have hset := set_ne hP
  have hji : j + 1 ≤ i + 1 + lo := by omega
  obtain ⟨n1, p1, p2, p3, p4⟩ := hL.1 i (by omega) (by omega) (by omega)
  have hn0 : cw mt sw s m β j (i + 1) (A la (i + 1)) := by
    by_cases hb : i + 1 ≤ j + hi
    · exact cg_w (hL.1 (i + 1) (by omega) (by omega) hb) (by omega)
    · rw [hL.2 (i + 1) (by omega) (by omega)]
      exact cw_far (by omega) (fun q => hb (hbd _ _ q).2)
  have hnn : cw mt sw s m β (j + 1) i (A na i) := by
    by_cases hb : fr ≤ i
    · exact cg_w (hN i hb (by omega)) (by omega)
    · rw [hF (by omega)]
      exact cw_far (by omega) (fun q => by have := (hbd _ _ q).1; omega)
  obtain ⟨n0, z1, z2, z3, z4⟩ := hn0
  obtain ⟨nn, y1, y2, y3, y4⟩ := hnn
  have hn2 : ∃ n2, (1 ≤ i → 1 ≤ j → A oa (i - 1) = nI n2) ∧ n2 ≤ 2 ^ 20 ∧ (1 ≤ i → 1 ≤ j → cs fC (fR false) mt sw (j - 1) (i - 1) ≤ n2 ∧ (phi mt sw s m (j - 1) (i - 1) ≤ β → n2 = cs fC (fR false) mt sw (j - 1) (i - 1))) := by
    by_cases hij : 1 ≤ i ∧ 1 ≤ j
    · obtain ⟨n2, w1, w2, w3, w4⟩ := (hO hij.2).1 (i - 1) (by omega) (by omega) (by omega)
      exact ⟨n2, fun _ _ => w1, by omega, fun _ _ => ⟨w3, w4⟩⟩
    · exact ⟨0, fun h1 h2 => absurd ⟨h1, h2⟩ hij, by omega, fun h1 h2 => absurd ⟨h1, h2⟩ hij⟩
  obtain ⟨n2, w1, w2, w3⟩ := hn2
  have eb := x_rbest (x := x) (si := si) (sq := sq) (sl := sl) (A := A) (B := B') (g := g) (P := P) (s := s) (i := i) (j := j) (lo := lo) (w := lo + hi + 1) (cc := (j + 1) * (lo + hi + 1) + (i + 1 + lo - (j + 1))) (c := c) (lb := lb) (nn := nn) (n0 := n0) (n1 := n1) (n2 := n2) (na := na) (la := la) (oa := oa) (tr := tr) (sw := sw) (mt := mt) hP hsP hs hi0 (by omega) hc (by rw [hB (P + 1) hset.2.2.1, hB (P + 2) hset.2.2.2.1]; exact hcm) (by rw [hB (P + 1) hset.2.2.1, hB (P + 2) hset.2.2.2.1]; exact hlm) h4 h10 h12 h14 rfl (fun h => ⟨h69, h692, hji, htr h⟩) ea Ia el Il eo Io y1 z1 p1 w1 (by omega) (by omega) (by omega) (by omega)
  have hge := bst_ge (mt := mt) (sw := sw) (j := j) (i := i) (n1 := n1) (n2 := n2) (n0 := n0) (nn := nn) p3 (fun h => (w3 (swp_pos h).1 (swp_pos h).2).1) z3 y3
  have heq : phi mt sw s m (j + 1) (i + 1) ≤ β → _ := fun hp => bst_eq (mt := mt) (sw := sw) (s := s) (m := m) (β := β) (j := j) (i := i) (n1 := n1) (n2 := n2) (n0 := n0) (nn := nn) hp p3 (fun h => (w3 (swp_pos h).1 (swp_pos h).2).1) z3 y3 p4 (fun h => (w3 (swp_pos h).1 (swp_pos h).2).2) z4 y4
  have hle := bst_le (mc := mt i j) (sp := swp mt sw i j) (n1 := n1) (n2 := n2) (n0 := n0) (nn := nn)
  have ht4 := bst_t (mc := mt i j) (sp := swp mt sw i j) (n1 := n1) (n2 := n2) (n0 := n0) (nn := nn)
  exact ⟨_, _, eb, fun k hk => by rw [putB_n hk, hB k hk], ⟨_, rfl, Nat.le_trans hle (by omega), hge, fun h => (heq h).1⟩, tab_put rfl hji hih (Nat.lt_of_le_of_lt ht4 (by decide)) (fun h => (heq h).2) hT⟩
/-- the loop over the rows of column j + 1 -/
theorem x_rfill {P c lb na la oa j fr e : Nat} (hP : isSet P) (hsP : s ≤ slen P) (hs : s ≤ 1500) (hm : m ≤ 1500) (hj : j < m) (hbd : ∀ j i, phi mt sw s m j i ≤ β → j ≤ i + lo ∧ i ≤ j + hi) (h0 : sq 60 0 = P) (hsz : si P 2 = nI s) (hc : c < 127) (hcm : ∀ q, q < s → hasB (B (P + 1) q) (B (P + 2) q) c = mt q j) (hlm : 1 ≤ j → lb < 127 ∧ si 60 11 = nI lb ∧ sq 60 13 = (if lb < 64 then P + 1 else P + 2) ∧ ∀ q, q < s → hasB (B (P + 1) q) (B (P + 2) q) lb = mt q (j - 1)) (h4 : si 60 4 = bI sw) (h10 : si 60 10 = nI c) (h12 : sq 60 12 = if c < 64 then P + 1 else P + 2) (h14 : si 60 14 = bI tr) (h69 : si 69 1 = iI (-(lo : Int))) (h692 : si 69 2 = nI (lo + hi + 1)) (htr : tr = true → (m + 1) * (lo + hi + 1) ≤ 80608) (ea : sq 60 7 = na) (Ia : isInt na 1501) (el : sq 60 8 = la) (Il : isInt la 1501) (eo : sq 60 9 = oa) (Io : isInt oa 1501) (nl : la ≠ na) (no : oa ≠ na) (hfr : j + 1 ≤ fr + lo) (hfr0 : fr = 0 ∨ fr + lo = j + 1) (he1 : e ≤ s) (he2 : e ≤ j + 1 + hi) (he3 : s ≤ e ∨ j + 1 + hi ≤ e) : ∀ (fuel r lv : Nat) (A : Nat → Nat → Int32) (B' : Nat → Nat → Int64), (∀ k, k ≠ 70 → B' k = B k) → fr ≤ r → r ≤ e + 1 → e + 1 - r < fuel → lv ≤ 2 ^ 20 → colB mt sw s m β lo hi (A la) j → (1 ≤ j → colB mt sw s m β lo hi (A oa) (j - 1)) → (∀ q, fr ≤ q → q < r → cg mt sw s m β (j + 1) q (A na q)) → (∀ i, i + 1 = r → r = fr → A na i = nI (2 ^ 20)) → tabB mt sw s m β lo hi tr (B' 70) (j + 1) r → (∀ q, fr ≤ q → q < r → phi mt sw s m (j + 1) q ≤ β → lv ≤ β) → ∃ f B2 lv', b_X5_fillColumn_68 fuel (xh x si sq sl A B' g) (x + 60) (nI (j + 1)) (nI e) (nI lv) (nI r) = some (nI lv', xh x si sq sl (ua A na f) B2 g) ∧ lv' ≤ 2 ^ 20 ∧ colB mt sw s m β lo hi f (j + 1) ∧ (∀ k, k ≠ 70 → B2 k = B k) ∧ tabB mt sw s m β lo hi tr (B2 70) (j + 2) 0 ∧ (∀ q, q ≤ s → phi mt sw s m (j + 1) q ≤ β → lv' ≤ β) := by
  intro fuel
  induction fuel with
  | zero => intro r lv A B' _ _ _ h; omega
  | succ n ih =>
    intro r lv A B' hB hr1 hr2 hf hlv hL hO hN hF hT hlst
    unfold b_X5_fillColumn_68
    by_cases hre : r ≤ e
    · rw [if_neg (nI_nlt hre (by omega)), xg_Ru_7, Option.bind_some, ea]
      have go : ∀ (v : Nat) (B3 : Nat → Nat → Int64), (∀ k, k ≠ 70 → B3 k = B k) → cg mt sw s m β (j + 1) r (nI v) → tabB mt sw s m β lo hi tr (B3 70) (j + 1) (r + 1) → ∃ f B2 lv', b_X5_fillColumn_96 (b_X5_fillColumn_68 n) (xh x si sq sl A B3 g) (x + 60) (nI (j + 1)) (nI e) (nI lv) (nI r) (nI v) (nI r) (x + na) = some (nI lv', xh x si sq sl (ua A na f) B2 g) ∧ lv' ≤ 2 ^ 20 ∧ colB mt sw s m β lo hi f (j + 1) ∧ (∀ k, k ≠ 70 → B2 k = B k) ∧ tabB mt sw s m β lo hi tr (B2 70) (j + 2) 0 ∧ (∀ q, q ≤ s → phi mt sw s m (j + 1) q ≤ β → lv' ≤ β) := by
        intro v B3 hB3 hcg hT3
        obtain ⟨v', hv1, hv2, hv3, hv4⟩ := id hcg
        unfold b_X5_fillColumn_96
        rw [xi_s Ia (by omega), Option.bind_some, xg_Ru_7, Option.bind_some, ea, xi_l Ia (by omega), Option.bind_some, ua_s, pk_us, hv1, zmin_n (by omega) (by omega), nI_1]
        obtain ⟨f, B2, lv', e', k0, k1, k2, k3, k4⟩ := ih (r + 1) (min lv v') (ua A na (upd (A na) r (nI v'))) B3 hB3 (by omega) (by omega) (by omega) (by omega) (by rw [ua_n nl]; exact hL) (by rw [ua_n no]; exact hO) (by
          intro q q1 q2
          rw [ua_s]
          by_cases hq : q = r
          · subst hq
            rw [pk_us, ← hv1]
            exact hcg
          · rw [pk_un hq]
            exact hN q q1 (by omega)) (by intro i _ h; omega) hT3 (by
          intro q q1 q2 q3
          by_cases hq : q = r
          · subst hq
            have := hv4 q3
            unfold phi at q3
            omega
          · have := hlst q q1 (by omega) q3
            omega)
        exact ⟨f, B2, lv', by rw [e', ua_ua], k0, k1, k2, k3, k4⟩
      by_cases hr0 : r = 0
      · subst hr0
        rw [if_pos (show nI 0 = (0 : Int32) from rfl)]
        refine go (j + 1) B' hB ⟨j + 1, rfl, by omega, ?_, fun _ => ?_⟩ ?_
        · rw [D_0]; exact Nat.le_refl _
        · rw [D_0]
        · intro ht j' i' a1 a2 a3 a4 a5 a6 a7
          exact hT ht j' i' a1 a2 a3 a4 a5 (by omega) a7
      · obtain ⟨i, rfl⟩ : ∃ i, r = i + 1 := ⟨r - 1, by omega⟩
        rw [if_neg (nI_ne0 (by omega) (by omega)), xo_Ru, Option.bind_some]
        obtain ⟨v, B3, e1, e2, e3, e4⟩ := x_rstep (x := x) (si := si) (sq := sq) (sl := sl) (A := A) (B := B) (g := g) (lb := lb) (fr := fr) hP hsP hs hm hj (show i < s by omega) hbd hc hcm hlm h4 h10 h12 h14 h69 h692 (by
          intro h
          have h1 := htr h
          have h2 : (j + 1 + 1) * (lo + hi + 1) ≤ (m + 1) * (lo + hi + 1) := Nat.mul_le_mul_right _ (by omega)
          rw [Nat.succ_mul] at h2
          omega) ea Ia el Il eo Io hB hfr hfr0 hr1 (by omega) hL hO hN (hF i rfl) hT
        rw [e1, zbp_some]
        exact go v B3 e2 e3 e4
    · rw [if_pos (nI_lt (by omega) (by omega)), xo_Ru, Option.bind_some, x_rclose (v := 0) h0 hP hsz hs ea Ia (by omega), Option.bind_some]
      have hr : r = e + 1 := by omega
      have elst : ∀ q, q ≤ s → phi mt sw s m (j + 1) q ≤ β → lv ≤ β := by
        intro q q1 q2
        obtain ⟨b1, b2⟩ := hbd _ _ q2
        exact hlst q (by omega) (by omega) q2
      have etab : tabB mt sw s m β lo hi tr (B' 70) (j + 2) 0 := by
        intro ht j' i' a1 a2 a3 a4 a5 a6 a7
        exact hT ht j' i' a1 a2 a3 a4 a5 (by omega) a7
      by_cases he : e < s
      · rw [if_pos he]
        refine ⟨_, B', lv, rfl, hlv, ⟨fun q q1 q2 q3 => ?_, fun q q1 q2 => ?_⟩, hB, etab, elst⟩
        · rw [pk_un (by omega)]
          exact hN q (by omega) (by omega)
        · rw [show q = e + 1 by omega, pk_us]
      · rw [if_neg he]
        exact ⟨A na, B', lv, by rw [ua_self], hlv, ⟨fun q q1 q2 q3 => hN q (by omega) (by omega), fun q q1 q2 => by omega⟩, hB, etab, elst⟩
end RO
