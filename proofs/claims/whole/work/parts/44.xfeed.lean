/-! THE CLASS'S SEARCH: its columns from restart to feed -/
def xC (sq : Nat → Nat → Nat) : Prop := ∃ a b c, sq 53 4 = a ∧ sq 53 5 = b ∧ sq 53 6 = c ∧ isInt a 201 ∧ isInt b 201 ∧ isInt c 201 ∧ a ≠ b ∧ a ≠ c ∧ b ≠ c
theorem int201 {a : Nat} (h : isInt a 201) : a = 57 ∨ a = 58 ∨ a = 59 := by
  unfold isInt at h
  omega
def xA (si : Nat → Nat → Int32) (sq : Nat → Nat → Nat) (P s k : Nat) (sw : Bool) : Prop := sq 53 0 = P ∧ si 53 1 = nI s ∧ si 53 2 = nI k ∧ si 53 3 = (if sw then 1 else 0) ∧ ∃ b, b < 127 ∧ si 53 10 = nI b
def xS (si : Nat → Nat → Int32) (sq : Nat → Nat → Nat) (A : Nat → Nat → Int32) (B : Nat → Nat → Int64) (P s k o : Nat) (sw : Bool) (mt : Nat → Nat → Bool) (j T : Nat) : Prop := sq 53 0 = P ∧ si 53 1 = nI s ∧ si 53 2 = nI k ∧ si 53 3 = (if sw then 1 else 0) ∧ si 53 7 = nI T ∧ si 53 8 = nI (o + j) ∧ si 53 9 = nI j ∧ (∃ b, b < 127 ∧ si 53 10 = nI b ∧ (1 ≤ j → ∀ q, q < s → hasB (B (P + 1) q) (B (P + 2) q) b = mt q (j - 1))) ∧ T ≤ s ∧ (∀ i, T < i → i ≤ s → k < vV (gC o) (gR0 o) mt sw j i / 2048) ∧ (∀ i, i ≤ T + 1 → i ≤ s → ag k (A (sq 53 4) i) (vV (gC o) (gR0 o) mt sw j i)) ∧ (1 ≤ j → ∀ i, i + 1 ≤ T → ag k (A (sq 53 5) i) (vV (gC o) (gR0 o) mt sw (j - 1) i))
def fX (si si' : Nat → Nat → Int32) (sq sq' : Nat → Nat → Nat) (A A' : Nat → Nat → Int32) : Prop := (∀ k j, k ≠ 53 → si' k j = si k j) ∧ (∀ k j, k ≠ 53 → sq' k j = sq k j) ∧ ∀ k, k < 57 ∨ 59 < k → A' k = A k
theorem fX_t {si si' si2 : Nat → Nat → Int32} {sq sq' sq2 : Nat → Nat → Nat} {A A' A2 : Nat → Nat → Int32} (h1 : fX si si' sq sq' A A') (h2 : fX si' si2 sq' sq2 A' A2) : fX si si2 sq sq2 A A2 := ⟨fun k j hk => (h2.1 k j hk).trans (h1.1 k j hk), fun k j hk => (h2.2.1 k j hk).trans (h1.2.1 k j hk), fun k hk => (h2.2.2 k hk).trans (h1.2.2 k hk)⟩
theorem fX_r {si : Nat → Nat → Int32} {sq : Nat → Nat → Nat} {A : Nat → Nat → Int32} : fX si si sq sq A A := ⟨fun _ _ _ => rfl, fun _ _ _ => rfl, fun _ _ => rfl⟩
section XF
variable {x : Nat} {si : Nat → Nat → Int32} {sq : Nat → Nat → Nat} {sl : Nat → Nat → Int64} {A : Nat → Nat → Int32} {B : Nat → Nat → Int64} {g : zh_H}
theorem xS_a {P s k o j T : Nat} {sw : Bool} {mt : Nat → Nat → Bool} (h : xS si sq A B P s k o sw mt j T) : xA si sq P s k sw := by
  obtain ⟨h1, h2, h3, h4, -, -, -, ⟨b, hb, hb2, -⟩, -⟩ := h
  exact ⟨h1, h2, h3, h4, b, hb, hb2⟩
theorem x_lower {k a : Nat} {nv : Nat → Nat} (ha : sq 53 4 = a) (Ia : isInt a 201) (hk : k < 2 ^ 31) : ∀ (fuel t : Nat) (si : Nat → Nat → Int32), si 53 7 = nI t → si 53 2 = nI k → t ≤ 200 → t < fuel → (∀ q, q ≤ t → A a q = nI (nv q) ∧ nv q < 2 ^ 31) → ∃ T, b_X6_lowerTop_5 fuel (xh x si sq sl A B g) (x + 53) = some (xh x (u2 si 53 7 (nI T)) sq sl A B g) ∧ T ≤ t ∧ (T = 0 ∨ nv T / 2048 ≤ k) ∧ ∀ q, T < q → q ≤ t → k < nv q / 2048 := by
  intro fuel
  induction fuel with
  | zero => intro t si _ _ _ h; omega
  | succ n ih =>
    intro t si h7 h2 ht hf hv
    unfold b_X6_lowerTop_5 b_X6_lowerTop_45
    rw [xg_Se_7, Option.bind_some, h7]
    have self : xh x si sq sl A B g = xh x (u2 si 53 7 (nI t)) sq sl A B g := by
      rw [u2_self h7]
    by_cases h0 : t = 0
    · subst h0
      rw [if_pos (by decide)]
      exact ⟨0, by rw [← self], Nat.le_refl _, Or.inl rfl, fun q h1 h2 => by omega⟩
    · rw [if_neg (nI_nle (by omega) (by omega))]
      simp only [xg_Se_4, Option.bind_some, h7, ha, xi_l Ia (show t < 201 by omega), xg_Se_2, h2, (hv t (Nat.le_refl _)).1, show (2048 : Int32) = nI 2048 from rfl, pk_div (hv t (Nat.le_refl _)).2 (show 0 < 2048 by decide) (show 2048 < 2 ^ 31 by decide)]
      have hb := (hv t (Nat.le_refl _)).2
      by_cases hle : nv t / 2048 ≤ k
      · rw [if_pos (nI_le hle hk)]
        exact ⟨t, by rw [← self], Nat.le_refl _, Or.inr hle, fun q h1 h2 => by omega⟩
      · rw [if_neg (nI_ge (by omega) (by omega)), nI_p (by omega), xp_Se_7, Option.bind_some]
        obtain ⟨T, e, t1, t2, t3⟩ := ih (t - 1) (u2 si 53 7 (nI (t - 1))) u2_s (by rw [u2_n (Or.inr (by decide))]; exact h2) (by omega) (by omega) (fun q hq => hv q (by omega))
        refine ⟨T, by rw [e, u2_u2], by omega, t2, fun q q1 q2 => ?_⟩
        by_cases hqt : q = t
        · subst hqt; omega
        · exact t3 q q1 (by omega)
theorem x_lowerTop {k a e : Nat} {nv : Nat → Nat} (ha : sq 53 4 = a) (Ia : isInt a 201) (hk : k < 2 ^ 31) (h2 : si 53 2 = nI k) (he : e ≤ 200) (hv : ∀ q, q ≤ e → A a q = nI (nv q) ∧ nv q < 2 ^ 31) : ∃ T, b_X6_lowerTop_0 (xh x si sq sl A B g) (x + 53) (nI e) = some (xh x (u2 si 53 7 (nI T)) sq sl A B g) ∧ T ≤ e ∧ (T = 0 ∨ nv T / 2048 ≤ k) ∧ ∀ q, T < q → q ≤ e → k < nv q / 2048 := by
  obtain ⟨T, e1, r⟩ := x_lower (x := x) (sq := sq) (sl := sl) (A := A) (B := B) (g := g) (nv := nv) ha Ia hk zFuel e (u2 si 53 7 (nI e)) u2_s (by rw [u2_n (Or.inr (by decide))]; exact h2) he (zF_lt (by omega)) hv
  refine ⟨T, ?_, r⟩
  unfold b_X6_lowerTop_0
  rw [xp_Se_7, Option.bind_some, e1, u2_u2]
theorem x_aim {P s k : Nat} {sw : Bool} (hP : isSet P) (hs : si P 2 = nI s) (hs2 : s ≤ 200) : b_X6_aim_0 (xh x si sq sl A B g) (x + 53) (x + P) (nI k) (if sw then 1 else 0) = some (xh x (u2 (u2 (u2 si 53 1 (nI s)) 53 2 (nI k)) 53 3 (if sw then 1 else 0)) (u2 sq 53 0 P) sl A B g) := by
  unfold b_X6_aim_0
  rw [xp_Se_0, Option.bind_some, xs_g hP, Option.bind_some, hs, show (200 : Int32) = nI 200 from rfl, zmin_n (by omega) (by decide), Nat.min_eq_left hs2, xp_Se_1, Option.bind_some, xp_Se_2, Option.bind_some, xz_Se_3 (by cases sw <;> decide), Option.bind_some]
theorem x_aim_s {P s k : Nat} {sw : Bool} (hP : isSet P) (hs : si P 2 = nI s) (hs2 : s ≤ 200) (hC : xC sq) (hb : ∃ b, b < 127 ∧ si 53 10 = nI b) : ∃ si' sq', b_X6_aim_0 (xh x si sq sl A B g) (x + 53) (x + P) (nI k) (if sw then 1 else 0) = some (xh x si' sq' sl A B g) ∧ xA si' sq' P s k sw ∧ xC sq' ∧ fX si si' sq sq' A A := by
  refine ⟨_, _, x_aim hP hs hs2, ⟨u2_s, ?_, ?_, u2_s, ?_⟩, ?_, ?_, ?_, fun _ _ => rfl⟩
  · rw [u2_n (Or.inr (by decide)), u2_n (Or.inr (by decide)), u2_s]
  · rw [u2_n (Or.inr (by decide)), u2_s]
  · rw [u2_n (Or.inr (by decide)), u2_n (Or.inr (by decide)), u2_n (Or.inr (by decide))]
    exact hb
  · unfold xC
    rw [u2_n (Or.inr (by decide)), u2_n (Or.inr (by decide)), u2_n (Or.inr (by decide))]
    exact hC
  · intro q j hq
    rw [u2_n (Or.inl hq), u2_n (Or.inl hq), u2_n (Or.inl hq)]
  · intro q j hq
    rw [u2_n (Or.inl hq)]
theorem x_restart31 {s t o a : Nat} (h1 : si 53 1 = nI s) (h7 : si 53 7 = nI t) (ha : sq 53 4 = a) (Ia : isInt a 201) (hs : s ≤ 200) (ht : t ≤ s) (ho : o ≤ 2047) : ∀ (fuel r : Nat) (A : Nat → Nat → Int32), r ≤ t + 1 → t + 1 - r < fuel → (∀ q, q < r → A a q = nI (gC o q)) → ∃ f, b_X6_restart_31 fuel (xh x si sq sl A B g) (x + 53) (nI o) (nI r) = some (xh x si sq sl (ua A a f) B g) ∧ (∀ q, q ≤ t → f q = nI (gC o q)) ∧ (t < s → f (t + 1) = nI (2 ^ 28)) := by
  intro fuel
  induction fuel with
  | zero => intro r A _ h; omega
  | succ n ih =>
    intro r A hr hf hv
    unfold b_X6_restart_31
    rw [xg_Se_7, Option.bind_some, h7]
    by_cases hrt : r ≤ t
    · rw [if_neg (nI_nlt hrt (by omega)), xg_Se_4, Option.bind_some, ha]
      unfold b_X6_number_0
      rw [zbp_some, show (2048 : Int32) = nI 2048 from rfl, show (2047 : Int32) = nI 2047 from rfl, pk_mul, pk_sub ho, nI_add, show r * 2048 + (2047 - o) = gC o r by unfold gC; omega, xi_s Ia (by omega), Option.bind_some, nI_1]
      obtain ⟨f, e, n1, n2⟩ := ih (r + 1) (ua A a (upd (A a) r (nI (gC o r)))) (by omega) (by omega) (by
        intro q hq
        rw [ua_s]
        by_cases hqr : q = r
        · subst hqr; exact pk_us
        · rw [pk_un hqr]; exact hv q (by omega))
      exact ⟨f, by rw [e, ua_ua], n1, n2⟩
    · rw [if_pos (nI_lt (by omega) (by omega)), Option.bind_some, xo_Se, Option.bind_some, x_closeAbove h1 ha Ia hs (by omega), Option.bind_some]
      by_cases hts : t < s
      · rw [if_pos hts]
        refine ⟨_, rfl, fun q hq => ?_, fun _ => pk_us⟩
        rw [pk_un (by omega)]
        exact hv q (by omega)
      · rw [if_neg hts]
        exact ⟨A a, by rw [ua_self], fun q hq => hv q (by omega), fun h => absurd h hts⟩
theorem x_restart {P s k o : Nat} {sw : Bool} (mt : Nat → Nat → Bool) (hs : s ≤ 200) (hk : k ≤ 200) (ho : o ≤ 1500) (hA : xA si sq P s k sw) (hC : xC sq) : ∃ si' A', b_X6_restart_0 (xh x si sq sl A B g) (x + 53) (nI o) = some (xh x si' sq sl A' B g) ∧ xS si' sq A' B P s k o sw mt 0 (min s k) ∧ fX si si' sq sq A A' := by
  obtain ⟨a1, a2, a3, a4, b, hb, a5⟩ := hA
  obtain ⟨a, b2, c, c1, c2, c3, Ia, Ib, Ic, d1, d2, d3⟩ := hC
  have r0 : zmax (0 : Int32) (zmin (si 53 1) (si 53 2)) = nI (min s k) := by
    rw [a2, a3, zmin_n (by omega) (by omega), show (0 : Int32) = nI 0 from rfl, zmax_n (by decide) (by omega), Nat.max_eq_right (by omega)]
  obtain ⟨f, e, n1, n2⟩ := x_restart31 (x := x) (si := u2 (u2 (u2 si 53 8 (nI o)) 53 9 0) 53 7 (nI (min s k))) (sq := sq) (sl := sl) (B := B) (g := g) (s := s) (t := min s k) (o := o) (by rw [u2_n (Or.inr (by decide)), u2_n (Or.inr (by decide)), u2_n (Or.inr (by decide))]; exact a2) u2_s c1 Ia hs (Nat.min_le_left _ _) (by omega) zFuel 0 A (by omega) (zF_lt (by omega)) (fun q h => absurd h (Nat.not_lt_zero _))
  refine ⟨u2 (u2 (u2 si 53 8 (nI o)) 53 9 0) 53 7 (nI (min s k)), ua A a f, ?_, ?_, ?_⟩
  rotate_left
  · refine ⟨a1, ?_, ?_, ?_, u2_s, ?_, ?_, ⟨b, hb, ?_, fun h => absurd h (by decide)⟩, Nat.min_le_left _ _, ?_, ?_, fun h => absurd h (by decide)⟩
    · rw [u2_n (Or.inr (by decide)), u2_n (Or.inr (by decide)), u2_n (Or.inr (by decide))]; exact a2
    · rw [u2_n (Or.inr (by decide)), u2_n (Or.inr (by decide)), u2_n (Or.inr (by decide))]; exact a3
    · rw [u2_n (Or.inr (by decide)), u2_n (Or.inr (by decide)), u2_n (Or.inr (by decide))]; exact a4
    · rw [u2_n (Or.inr (by decide)), u2_n (Or.inr (by decide)), u2_s]; rfl
    · rw [u2_n (Or.inr (by decide)), u2_s]; rfl
    · rw [u2_n (Or.inr (by decide)), u2_n (Or.inr (by decide)), u2_n (Or.inr (by decide))]; exact a5
    · intro i h1 h2
      rw [vV_0]
      unfold gC
      omega
    · intro i h1 h2
      rw [c1, ua_s, vV_0]
      by_cases hi : i ≤ min s k
      · exact ⟨_, n1 i hi, by unfold gC; omega, Or.inl rfl⟩
      · refine ⟨2 ^ 28, ?_, Nat.le_refl _, Or.inr ⟨by omega, by unfold gC; omega⟩⟩
        rw [show i = min s k + 1 by omega]
        exact n2 (by omega)
  · refine ⟨?_, fun _ _ _ => rfl, ?_⟩
    · intro q j hq
      rw [u2_n (Or.inl hq), u2_n (Or.inl hq), u2_n (Or.inl hq)]
    · intro q hq
      have := int201 Ia
      rw [ua_n (by omega)]
  · unfold b_X6_restart_0
    rw [xp_Se_8, Option.bind_some, xp_Se_9, Option.bind_some, xg_Se_1, Option.bind_some, xg_Se_2, Option.bind_some, u2_n (Or.inr (by decide)), u2_n (Or.inr (by decide)), u2_n (Or.inr (by decide)), u2_n (Or.inr (by decide)), r0, xp_Se_7, Option.bind_some]
    exact e
theorem x_feed {P s k o j T c : Nat} {sw : Bool} {mt : Nat → Nat → Bool} (hP : isSet P) (hsP : s ≤ slen P) (hs : s ≤ 200) (hs1 : 1 ≤ s) (hk : k ≤ 200) (hoj : o + j < 1500) (hS : xS si sq A B P s k o sw mt j T) (hC : xC sq) (hc : c < 127) (hcm : ∀ q, q < s → hasB (B (P + 1) q) (B (P + 2) q) c = mt q j) : ∃ si' sq' A' T', b_X6_feed_0 (xh x si sq sl A B g) (x + 53) (nI c) = some (xh x si' sq' sl A' B g) ∧ xS si' sq' A' B P s k o sw mt (j + 1) T' ∧ xC sq' ∧ fX si si' sq sq' A A' ∧ (T' = s ↔ vV (gC o) (gR0 o) mt sw (j + 1) s / 2048 ≤ k) ∧ (T' = s → A' (sq' 53 4) s = nI (vV (gC o) (gR0 o) mt sw (j + 1) s)) := by
  obtain ⟨a1, a2, a3, a4, a7, a8, a9, ⟨lb, hlb, a10, alb⟩, tT, i1, i2, i4⟩ := hS
  obtain ⟨a, la, oa, c1, c2, c3, Ia, Ib, Ic, d1, d2, d3⟩ := hC
  rw [c1] at i2
  rw [c2] at i4
  let si1 := u2 (u2 si 53 8 (nI (o + j + 1))) 53 9 (nI (j + 1))
  let sq1 := u2 (u2 (u2 sq 53 6 la) 53 5 a) 53 4 oa
  have q4 : sq1 53 4 = oa := u2_s
  have q5 : sq1 53 5 = a := by show u2 (u2 (u2 sq 53 6 la) 53 5 a) 53 4 oa 53 5 = a; rw [u2_n (Or.inr (by decide)), u2_s]
  have q6 : sq1 53 6 = la := by show u2 (u2 (u2 sq 53 6 la) 53 5 a) 53 4 oa 53 6 = la; rw [u2_n (Or.inr (by decide)), u2_n (Or.inr (by decide)), u2_s]
  have q0 : sq1 53 0 = P := by show u2 (u2 (u2 sq 53 6 la) 53 5 a) 53 4 oa 53 0 = P; rw [u2_n (Or.inr (by decide)), u2_n (Or.inr (by decide)), u2_n (Or.inr (by decide))]; exact a1
  have sI1 : ∀ f, f ≠ 8 → f ≠ 9 → si1 53 f = si 53 f := by intro f f1 f2; show u2 (u2 si 53 8 (nI (o + j + 1))) 53 9 (nI (j + 1)) 53 f = _; rw [u2_n (Or.inr f2), u2_n (Or.inr f1)]
  have sI9 : si1 53 9 = nI (j + 1) := u2_s
  have sI8 : si1 53 8 = nI (o + j + 1) := by show u2 (u2 si 53 8 (nI (o + j + 1))) 53 9 (nI (j + 1)) 53 8 = _; rw [u2_n (Or.inr (by decide)), u2_s]
  have hr0 : (2047 - (o + j + 1)) = gR0 o (j + 1) := by unfold gR0; omega
  have emin : zmin (si1 53 1) (si1 53 7 + (1 : Int32)) = nI (min s (T + 1)) := by
    rw [sI1 1 (by decide) (by decide), sI1 7 (by decide) (by decide), a2, a7, nI_1, zmin_n (by omega) (by omega)]
  -- the column
  have hst := st_g (o := o) (by omega)
  obtain ⟨f, ef, nf⟩ := x_fill61 (x := x) (si := si1) (sq := sq1) (sl := sl) (B := B) (g := g) (P := P) (s := s) (k := k) (e := min s (T + 1)) (j := j) (c := c) (lb := lb) (a := oa) (la := a) (oa := la) (fs := gR0 o (j + 1)) (sw := sw) (mt := mt) (pr := vV (gC o) (gR0 o) mt sw j) (p2 := (cV (gC o) (gR0 o) mt sw j).2) hP hsP hs (Nat.min_le_left _ _) hc hlb hcm alb ((sI1 10 (by decide) (by decide)).trans a10) q4 q5 q6 Ic Ia Ib d2 d3 zFuel 0 (ua A oa (upd (A oa) 0 (nI (gR0 o (j + 1))))) (by
      intro q hq
      rw [ua_n d2]
      exact i2 q (by omega) (by omega)) (by
      intro hj q hq
      rw [ua_n d3]
      have := i4 hj q (by omega)
      obtain ⟨j', rfl⟩ : ∃ k, j = k + 1 := ⟨j - 1, by omega⟩
      exact this) (by omega) (zF_lt (by omega)) (by
      intro q hq
      obtain rfl : q = 0 := by omega
      rw [ua_s]
      exact ⟨_, pk_us, by unfold gR0; omega, Or.inl rfl⟩)
  have efill : b_X6_fillColumn_0 (xh x si1 sq1 sl A B g) (x + 53) (nI c) (nI (min s (T + 1))) = some (xh x si1 sq1 sl (ua A oa f) B g) := by
    rw [ua_ua] at ef
    have h42 : ∀ ms : Int32, ms = (if sw && decide (1 ≤ j) then 1 else 0) → b_X6_fillColumn_42 (xh x si1 sq1 sl A B g) (x + 53) (nI c) (nI (min s (T + 1))) (x + (if c < 64 then P + 1 else P + 2)) (x + (if lb < 64 then P + 1 else P + 2)) ms = some (xh x si1 sq1 sl (ua A oa f) B g) := by
      intro ms hms
      unfold b_X6_fillColumn_42 b_X6_number_0
      rw [xg_Se_4, Option.bind_some, q4, xg_Se_8, Option.bind_some, sI8, zbp_some, show (2047 : Int32) = nI 2047 from rfl, pk_sub (by omega), hr0, show (0 : Int32) * (2048 : Int32) = nI 0 from rfl, nI_add, Nat.zero_add, show (0 : Int32) = nI 0 from rfl, xi_s Ic (by decide), Option.bind_some, hms]
      exact ef
    unfold b_X6_fillColumn_0 b_X6_fillColumn_41
    rw [xg_Se_0, Option.bind_some, q0, xs_is hP, Option.bind_some, x_half hP (by omega), zbp_some, xg_Se_0, Option.bind_some, q0, xg_Se_10, Option.bind_some, sI1 10 (by decide) (by decide), a10, xs_is hP, Option.bind_some, x_half hP (by omega), zbp_some, xg_Se_3, Option.bind_some, sI1 3 (by decide) (by decide), a4]
    by_cases hsw : sw = true
    · rw [if_pos hsw, if_neg (by decide), xg_Se_9, Option.bind_some, sI9]
      by_cases hj : 1 ≤ j
      · rw [if_neg (show ¬ nI (j + 1) ≤ (1 : Int32) from nI_ge (b := j + 1) (a := 1) (by omega) (by omega)), h42 1 (by simp [hsw, hj])]
      · rw [if_pos (show nI (j + 1) ≤ (1 : Int32) from nI_le (b := 1) (by omega) (by decide)), h42 0 (by simp [hj])]
    · rw [if_neg hsw, if_pos rfl, h42 0 (by simp [hsw])]
  -- what is above
  have ecl := x_closeAbove (x := x) (sl := sl) (A := ua A oa f) (B := B) (g := g) (s := s) (e := min s (T + 1)) (a := oa) ((sI1 1 (by decide) (by decide)).trans a2) q4 Ic hs (by omega)
  have eA : (if min s (T + 1) < s then ua (ua A oa f) oa (upd (ua A oa f oa) (min s (T + 1) + 1) (nI (2 ^ 28))) else ua A oa f) = ua A oa (if min s (T + 1) < s then upd f (min s (T + 1) + 1) (nI (2 ^ 28)) else f) := by
    split
    · rw [ua_ua, ua_s]
    · rfl
  rw [eA] at ecl
  have nfn : ∃ nv : Nat → Nat, ∀ q, q ≤ min s (T + 1) → f q = nI (nv q) ∧ nv q ≤ 2048 * (q + 1) ∧ agN k (nv q) (vV (gC o) (gR0 o) mt sw (j + 1) q) := by
    refine ⟨fun q => if h : q ≤ min s (T + 1) then Classical.choose (nf q h) else 0, fun q hq => ?_⟩
    have := Classical.choose_spec (nf q hq)
    simp only [dif_pos hq]
    exact this
  obtain ⟨nv, hnv⟩ := nfn
  have hf' : ∀ q, q ≤ min s (T + 1) → (if min s (T + 1) < s then upd f (min s (T + 1) + 1) (nI (2 ^ 28)) else f) q = nI (nv q) := by
    intro q hq
    split
    · rw [pk_un (by omega)]
      exact (hnv q hq).1
    · exact (hnv q hq).1
  obtain ⟨T', et, t1, t2, t3⟩ := x_lowerTop (x := x) (si := si1) (sl := sl) (A := ua A oa (if min s (T + 1) < s then upd f (min s (T + 1) + 1) (nI (2 ^ 28)) else f)) (B := B) (g := g) (nv := nv) (k := k) (e := min s (T + 1)) q4 Ic (by omega) ((sI1 2 (by decide) (by decide)).trans a3) (by omega) (by
    intro q hq
    rw [ua_s]
    exact ⟨hf' q hq, by have := (hnv q hq).2.1; omega⟩)
  have above : ∀ i, T' < i → i ≤ s → k < vV (gC o) (gR0 o) mt sw (j + 1) i / 2048 := by
    intro i h1 h2
    by_cases hi : i ≤ min s (T + 1)
    · have p1 := t3 i h1 hi
      rcases (hnv i hi).2.2 with p2 | p2
      · rw [← p2]; exact p1
      · exact p2.2
    · have p1 := i1 (i - 1) (by omega) (by omega)
      have p2 := cs_D1 (mt := mt) (sw := sw) hst j (i - 1)
      unfold cs at p2
      rw [show i - 1 + 1 = i by omega] at p2
      omega
  have exact0 : T' ≤ s → vV (gC o) (gR0 o) mt sw (j + 1) T' / 2048 ≤ k ∧ nv T' = vV (gC o) (gR0 o) mt sw (j + 1) T' := by
    intro _
    have p1 : nv T' / 2048 ≤ k := by
      rcases t2 with rfl | h
      · have := (hnv 0 (by omega)).2.1
        have p2 := (hnv 0 (by omega)).2.2
        rcases p2 with p2 | p2
        · rw [p2, vV_r]; unfold gR0; omega
        · exfalso
          have := p2.2
          rw [vV_r] at this
          unfold gR0 at this
          omega
      · exact h
    rcases (hnv T' t1).2.2 with p2 | p2
    · exact ⟨by rw [← p2]; exact p1, p2⟩
    · omega
  refine ⟨u2 (u2 si1 53 7 (nI T')) 53 10 (nI c), sq1, ua A oa (if min s (T + 1) < s then upd f (min s (T + 1) + 1) (nI (2 ^ 28)) else f), T', ?_, ⟨q0, ?_, ?_, ?_, ?_, ?_, ?_, ⟨c, hc, u2_s, fun _ q hq => hcm q hq⟩, by omega, above, ?_, ?_⟩, ⟨oa, a, la, q4, q5, q6, Ic, Ia, Ib, d2.symm, d3.symm, d1⟩, ⟨?_, ?_, ?_⟩, ⟨?_, ?_⟩, ?_⟩
  · unfold b_X6_feed_0
    simp only [xg_Se_6, xg_Se_5, xg_Se_4, Option.bind_some, xp_Se_6, xp_Se_5, xp_Se_4, c2, c3, u2_n (show (53 ≠ 53 ∨ 4 ≠ 6) from Or.inr (by decide)), u2_n (show (53 ≠ 53 ∨ 4 ≠ 5) from Or.inr (by decide)), c1, xg_Se_8, a8, xp_Se_8, xg_Se_9, xp_Se_9, u2_n (show (53 ≠ 53 ∨ 9 ≠ 8) from Or.inr (by decide)), a9, nI_1, xo_Se]
    show ((gI (xh x si1 sq1 sl A B g) (x + 53) 6 1).bind fun v11 => (gI (xh x si1 sq1 sl A B g) (x + 53) 6 7).bind fun v12 => (b_X6_fillColumn_0 (xh x si1 sq1 sl A B g) (x + 53) (nI c) (zmin v11 (v12 + (1 : Int32)))).bind fun h14 => (isO h14 (x + 53) 6).bind fun o15 => (b_X6_closeAbove_0 h14 (x + 53) (zmin v11 (v12 + (1 : Int32)))).bind fun h16 => (isO h16 (x + 53) 6).bind fun o17 => (b_X6_lowerTop_0 h16 (x + 53) (zmin v11 (v12 + (1 : Int32)))).bind fun h18 => (pV h18 (x + 53) 6 10 (.int (nI c))).bind fun h19 => some h19) = _
    rw [xg_Se_1, Option.bind_some, xg_Se_7, Option.bind_some, emin, efill, Option.bind_some, xo_Se, Option.bind_some, ecl, Option.bind_some, xo_Se, Option.bind_some, et, Option.bind_some, xp_Se_10, Option.bind_some]
  · rw [u2_n (Or.inr (by decide)), u2_n (Or.inr (by decide)), sI1 1 (by decide) (by decide)]; exact a2
  · rw [u2_n (Or.inr (by decide)), u2_n (Or.inr (by decide)), sI1 2 (by decide) (by decide)]; exact a3
  · rw [u2_n (Or.inr (by decide)), u2_n (Or.inr (by decide)), sI1 3 (by decide) (by decide)]; exact a4
  · rw [u2_n (Or.inr (by decide)), u2_s]
  · rw [u2_n (Or.inr (by decide)), u2_n (Or.inr (by decide)), sI8]; rfl
  · rw [u2_n (Or.inr (by decide)), u2_n (Or.inr (by decide)), sI9]
  · intro i h1 h2
    rw [q4, ua_s]
    by_cases hi : i ≤ min s (T + 1)
    · exact ⟨nv i, hf' i hi, by have := (hnv i hi).2.1; omega, (hnv i hi).2.2⟩
    · rw [if_pos (show min s (T + 1) < s by omega), show i = min s (T + 1) + 1 by omega, pk_us]
      exact ⟨2 ^ 28, rfl, Nat.le_refl _, Or.inr ⟨by omega, above _ (by omega) (by omega)⟩⟩
  · intro _ i h1
    rw [q5, ua_n d2]
    exact i2 i (by omega) (by omega)
  · intro q f hq
    rw [u2_n (Or.inl hq), u2_n (Or.inl hq)]
    show u2 (u2 si 53 8 (nI (o + j + 1))) 53 9 (nI (j + 1)) q f = _
    rw [u2_n (Or.inl hq), u2_n (Or.inl hq)]
  · intro q f hq
    show u2 (u2 (u2 sq 53 6 la) 53 5 a) 53 4 oa q f = _
    rw [u2_n (Or.inl hq), u2_n (Or.inl hq), u2_n (Or.inl hq)]
  · intro q hq
    have := int201 Ic
    rw [ua_n (by omega)]
  · intro h
    subst h
    exact (exact0 (Nat.le_refl _)).1
  · intro h
    by_cases hT : T' = s
    · exact hT
    · exfalso
      have := above s (by omega) (Nat.le_refl _)
      omega
  · intro h
    subst h
    rw [q4, ua_s, hf' _ t1, (exact0 (Nat.le_refl _)).2]
theorem x_isHit {P s k o j T : Nat} {sw : Bool} {mt : Nat → Nat → Bool} (hs : s ≤ 200) (hS : xS si sq A B P s k o sw mt j T) : b_X6_isHit_0 (xh x si sq sl A B g) (x + 53) = some (if T = s then 1 else 0, xh x si sq sl A B g) := by
  obtain ⟨a1, a2, a3, a4, a7, a8, a9, -, tT, i1, i2, i4⟩ := hS
  unfold b_X6_isHit_0 b_X6_isHit_16
  rw [xg_Se_7, Option.bind_some, xg_Se_1, Option.bind_some, a7, a2]
  by_cases h : T = s
  · rw [if_pos (by rw [h]), if_pos h, zif_t (Or.inr rfl)]
  · rw [if_neg (fun q => h ((nI_eq (by omega) (by omega)).mp q)), if_neg h, zif_t (Or.inl rfl)]
theorem x_edits {s V : Nat} (hs : s ≤ 200) (h1 : si 53 1 = nI s) (hC : xC sq) (hV : A (sq 53 4) s = nI V) (hb : V < 2 ^ 31) : b_X6_edits_0 (xh x si sq sl A B g) (x + 53) = some (nI (V / 2048), xh x si sq sl A B g) ∧ b_X6_beginning_0 (xh x si sq sl A B g) (x + 53) = some (nI (2047 - V % 2048), xh x si sq sl A B g) := by
  obtain ⟨a, la, oa, c1, c2, c3, Ia, Ib, Ic, d1, d2, d3⟩ := hC
  rw [c1] at hV
  constructor
  · unfold b_X6_edits_0
    rw [xg_Se_4, Option.bind_some, c1, xg_Se_1, Option.bind_some, h1, xi_l Ia (by omega), Option.bind_some, hV, show (2048 : Int32) = nI 2048 from rfl, pk_div hb (by decide) (by decide)]
  · unfold b_X6_beginning_0
    rw [xg_Se_4, Option.bind_some, c1, xg_Se_1, Option.bind_some, h1, xi_l Ia (by omega), Option.bind_some, hV, show (2048 : Int32) = nI 2048 from rfl, pk_rem hb (by decide) (by decide), show (2047 : Int32) = nI 2047 from rfl, pk_sub (by omega)]
end XF
