/-! THE CLASS'S SEARCH: its numbers are those of the columns wherever they are within the bound -/
theorem zmin_n {a b : Nat} (ha : a < 2 ^ 31) (hb : b < 2 ^ 31) : zmin (nI a) (nI b) = nI (min a b) := by
  unfold zmin
  by_cases h : b < a
  · rw [if_pos (nI_lt h ha), Nat.min_eq_right (by omega)]
  · rw [if_neg (nI_nlt (by omega) hb), Nat.min_eq_left (by omega)]
theorem zmax_n {a b : Nat} (ha : a < 2 ^ 31) (hb : b < 2 ^ 31) : zmax (nI a) (nI b) = nI (max a b) := by
  unfold zmax
  by_cases h : a < b
  · rw [if_pos (nI_lt h hb), Nat.max_eq_right (by omega)]
  · rw [if_neg (nI_nlt (by omega) ha), Nat.max_eq_left (by omega)]
def agN (k n W : Nat) : Prop := n = W ∨ (k < n / 2048 ∧ k < W / 2048)
def ag (k : Nat) (v : Int32) (W : Nat) : Prop := ∃ n, v = nI n ∧ n ≤ 2 ^ 28 ∧ agN k n W
theorem agN_min {k n m W Y : Nat} (h1 : agN k n W) (h2 : agN k m Y) : agN k (min n m) (min W Y) := by
  unfold agN at *
  rcases h1 with rfl | h1 <;> rcases h2 with rfl | h2
  · exact Or.inl rfl
  · by_cases h : k < n / 2048
    · right; omega
    · left; omega
  · by_cases h : k < m / 2048
    · right; omega
    · left; omega
  · right; omega
theorem agN_add {k n W : Nat} (h1 : agN k n W) : agN k (n + 2048) (W + 2048) := by
  unfold agN at *
  omega
theorem ag_down {k k' : Nat} {v : Int32} {W : Nat} (h : ag k v W) (hk : k' ≤ k) : ag k' v W := by
  obtain ⟨n, h1, h2, h3⟩ := h
  refine ⟨n, h1, h2, ?_⟩
  unfold agN at *
  omega
/-- numbers of a search that begins at o -/
def gC (o i : Nat) : Nat := i * 2048 + 2047 - o
def gR0 (o j : Nat) : Nat := 2047 - o - j
theorem g_shift {o N : Nat} (mt : Nat → Nat → Bool) (sw : Bool) (h : o + N ≤ 2047) : ∀ j, j ≤ N → ∀ i, vV (gC o) (gR0 o) mt sw j i + o = vV fC (fR true) mt sw j i := vV_shift N (fun i => by unfold gC fC; omega) (fun j hj => by unfold gR0 fR; rw [if_pos rfl]; omega)
theorem st_g {o : Nat} (h : o ≤ 2047) : st0 (gC o) (gR0 o) := by
  unfold st0 gC gR0
  refine ⟨?_, ?_, ?_⟩ <;> intros <;> omega
section XS
variable {x : Nat} {si : Nat → Nat → Int32} {sq : Nat → Nat → Nat} {sl : Nat → Nat → Int64} {A : Nat → Nat → Int32} {B : Nat → Nat → Int64} {g : zh_H}
theorem x_closeAbove {s e a : Nat} (h1 : si 53 1 = nI s) (ha : sq 53 4 = a) (hI : isInt a 201) (hs : s ≤ 200) (he : e ≤ 300) : b_X6_closeAbove_0 (xh x si sq sl A B g) (x + 53) (nI e) = some (xh x si sq sl (if e < s then ua A a (upd (A a) (e + 1) (nI (2 ^ 28))) else A) B g) := by
  unfold b_X6_closeAbove_0 b_X6_closeAbove_18
  rw [xg_Se_1, Option.bind_some, h1]
  by_cases h : e < s
  · rw [if_neg (nI_ge h (by omega)), if_pos h, xg_Se_4, Option.bind_some, ha, nI_1, xi_s hI (by omega), Option.bind_some, show (268435456 : Int32) = nI (2 ^ 28) from rfl]
  · rw [if_pos (nI_le (by omega) (by omega)), if_neg h]
theorem x_fill134 {k61 : zh_H → Nat → Int32 → Int32 → Nat → Nat → Int32 → Int32 → Option zh_H} {P s k e i j c lb a oa y0 y1 : Nat} {sw : Bool} {mt : Nat → Nat → Bool} (hP : isSet P) (hsP : s ≤ slen P) (hs : s ≤ 200) (hi : i < s) (hc : c < 127) (hlb : lb < 127) (hcm : ∀ q, q < s → hasB (B (P + 1) q) (B (P + 2) q) c = mt q j) (hlm : 1 ≤ j → ∀ q, q < s → hasB (B (P + 1) q) (B (P + 2) q) lb = mt q (j - 1)) (h10 : si 53 10 = nI lb)
    (ea : sq 53 4 = a) (eo : sq 53 6 = oa) (Ia : isInt a 201) (Io : isInt oa 201) (hy0 : y0 < 2 ^ 30) (hy1 : y1 < 2 ^ 30) {p2 : Nat → Nat} (ho : 1 ≤ j → ∀ q, q + 1 ≤ i → ag k (A oa q) (p2 q)) :
    ∃ v, b_X6_fillColumn_134 k61 (xh x si sq sl A B g) (x + 53) (nI c) (nI e) (x + (if c < 64 then P + 1 else P + 2)) (x + (if lb < 64 then P + 1 else P + 2)) (if sw && decide (1 ≤ j) then 1 else 0) (nI (i + 1)) (nI y0) (nI y1) = k61 (xh x si sq sl (ua A a (upd (A a) (i + 1) (nI v))) B g) (x + 53) (nI c) (nI e) (x + (if c < 64 then P + 1 else P + 2)) (x + (if lb < 64 then P + 1 else P + 2)) (if sw && decide (1 ≤ j) then 1 else 0) (nI (i + 2)) ∧ v ≤ min y1 y0 ∧ ((swp mt sw i j = false ∧ v = min y1 y0) ∨ (swp mt sw i j = true ∧ ∃ n, agN k n (p2 (i - 1)) ∧ v = min (min y1 y0) (n + 2048))) := by
  have fin : ∀ v, b_X6_fillColumn_204 k61 (xh x si sq sl A B g) (x + 53) (nI c) (nI e) (x + (if c < 64 then P + 1 else P + 2)) (x + (if lb < 64 then P + 1 else P + 2)) (if sw && decide (1 ≤ j) then 1 else 0) (nI (i + 1)) (nI v) = k61 (xh x si sq sl (ua A a (upd (A a) (i + 1) (nI v))) B g) (x + 53) (nI c) (nI e) (x + (if c < 64 then P + 1 else P + 2)) (x + (if lb < 64 then P + 1 else P + 2)) (if sw && decide (1 ≤ j) then 1 else 0) (nI (i + 2)) := by
    intro v
    unfold b_X6_fillColumn_204
    rw [xg_Se_4, Option.bind_some, ea, xi_s Ia (by omega), Option.bind_some, nI_1]
  unfold b_X6_fillColumn_134
  rw [zmin_n (a := y1) (b := y0) (by omega) (by omega)]
  by_cases hms : (sw && decide (1 ≤ j)) = true
  · obtain ⟨hsw, hj⟩ : sw = true ∧ 1 ≤ j := by simpa using hms
    rw [if_neg (show ¬ (if (sw && decide (1 ≤ j)) = true then (1 : Int32) else 0) = 0 by rw [if_pos hms]; decide)]
    by_cases hi1 : 1 ≤ i
    · rw [if_neg (show ¬ nI (i + 1) ≤ (1 : Int32) from nI_ge (b := i + 1) (a := 1) (by omega) (by omega))]
      rw [show nI (i + 1) - (2 : Int32) = nI (i - 1) from by rw [show (2 : Int32) = nI 2 from rfl, pk_sub (by omega)]; congr 1]
      rw [show nI (i + 1) - (1 : Int32) = nI i from nI_pred i]
      simp only [xs_half hP (show i - 1 < slen P by omega), xs_half hP (show i < slen P by omega), Option.bind_some, xg_Se_10, xg_Se_6, h10]
      have f1 := hcm (i - 1) (by omega)
      have f2 := hlm hj i hi
      rw [hasB_mod (by omega)] at f1 f2
      have g1 : bitL (if c < 64 then B (P + 1) (i - 1) else B (P + 2) (i - 1)) (c % 64) = mt (i - 1) j := f1
      have g2 : bitL (if lb < 64 then B (P + 1) i else B (P + 2) i) (lb % 64) = mt i (j - 1) := f2
      by_cases q1 : mt (i - 1) j = true
      · rw [if_neg (fun q => by have := (tstU (show c < 128 by omega)).mp q; rw [g1, q1] at this; exact absurd this (by decide))]
        by_cases q2 : mt i (j - 1) = true
        · rw [if_neg (fun q => by have := (tstU (show lb < 128 by omega)).mp q; rw [g2, q2] at this; exact absurd this (by decide))]
          obtain ⟨n, hn1, hn2, hn3⟩ := ho hj (i - 1) (by omega)
          rw [eo, xi_l Io (by omega), Option.bind_some, hn1, show (2048 : Int32) = nI 2048 from rfl, nI_add, zmin_n (by omega) (by omega), fin]
          refine ⟨_, rfl, by omega, Or.inr ⟨?_, n, hn3, rfl⟩⟩
          unfold swp
          simp [hsw, hi1, hj, q1, q2]
        · rw [if_pos ((tstU (show lb < 128 by omega)).mpr (by rw [g2]; exact Bool.eq_false_iff.mpr q2)), fin]
          refine ⟨_, rfl, by omega, Or.inl ⟨?_, rfl⟩⟩
          unfold swp
          simp [q2]
      · rw [if_pos ((tstU (show c < 128 by omega)).mpr (by rw [g1]; exact Bool.eq_false_iff.mpr q1)), fin]
        refine ⟨_, rfl, by omega, Or.inl ⟨?_, rfl⟩⟩
        unfold swp
        simp [q1]
    · rw [if_pos (show nI (i + 1) ≤ (1 : Int32) from nI_le (b := 1) (by omega) (by decide)), fin]
      refine ⟨_, rfl, by omega, Or.inl ⟨?_, rfl⟩⟩
      unfold swp
      simp [hi1]
  · rw [if_pos (show (if (sw && decide (1 ≤ j)) = true then (1 : Int32) else 0) = 0 by rw [if_neg hms]), fin]
    refine ⟨_, rfl, by omega, Or.inl ⟨?_, rfl⟩⟩
    unfold swp
    cases sw
    · rfl
    · simp at hms
      simp [show j = 0 by omega]
/-- the loop over the rows -/
theorem x_fill61 {P s k e j c lb a la oa fs : Nat} {sw : Bool} {mt : Nat → Nat → Bool} (hP : isSet P) (hsP : s ≤ slen P) (hs : s ≤ 200) (he : e ≤ s) (hc : c < 127) (hlb : lb < 127) (hcm : ∀ q, q < s → hasB (B (P + 1) q) (B (P + 2) q) c = mt q j) (hlm : 1 ≤ j → ∀ q, q < s → hasB (B (P + 1) q) (B (P + 2) q) lb = mt q (j - 1)) (h10 : si 53 10 = nI lb)
    (ea : sq 53 4 = a) (el : sq 53 5 = la) (eo : sq 53 6 = oa) (Ia : isInt a 201) (Il : isInt la 201) (Io : isInt oa 201) (nl : la ≠ a) (no : oa ≠ a) {pr p2 : Nat → Nat} : ∀ (fuel i : Nat) (A : Nat → Nat → Int32), (∀ q, q ≤ e → ag k (A la q) (pr q)) → (1 ≤ j → ∀ q, q + 2 ≤ e → ag k (A oa q) (p2 q)) → i ≤ e → e - i < fuel → (∀ q, q ≤ i → ∃ n, A a q = nI n ∧ n ≤ 2048 * (q + 1) ∧ agN k n (colV pr p2 fs (fun i => mt i j) (fun i => swp mt sw i j) q)) → ∃ f, b_X6_fillColumn_61 fuel (xh x si sq sl A B g) (x + 53) (nI c) (nI e) (x + (if c < 64 then P + 1 else P + 2)) (x + (if lb < 64 then P + 1 else P + 2)) (if sw && decide (1 ≤ j) then 1 else 0) (nI (i + 1)) = some (xh x si sq sl (ua A a f) B g) ∧ ∀ q, q ≤ e → ∃ n, f q = nI n ∧ n ≤ 2048 * (q + 1) ∧ agN k n (colV pr p2 fs (fun i => mt i j) (fun i => swp mt sw i j) q) := by
  intro fuel
  induction fuel with
  | zero => intro i A _ _ _ h; omega
  | succ n ih =>
    intro i A hl ho hi hf hv
    unfold b_X6_fillColumn_61
    by_cases hie : i < e
    · rw [if_neg (nI_nlt (by omega) (by omega))]
      obtain ⟨n1, a1, b1, c1⟩ := hl (i + 1) (by omega)
      obtain ⟨n0, a0, b0, c0⟩ := hl i (by omega)
      obtain ⟨nv, av, bv, cv⟩ := hv i (Nat.le_refl _)
      rw [show nI (i + 1) - (1 : Int32) = nI i from nI_pred i]
      simp only [xg_Se_5, xg_Se_4, Option.bind_some, el, ea, xi_l Il (show i + 1 < 201 by omega), xi_l Il (show i < 201 by omega), xi_l Ia (show i < 201 by omega), xs_half hP (show i < slen P by omega), a1, a0, av]
      have f1 := hcm i (by omega)
      rw [hasB_mod (by omega)] at f1
      have g1 : bitL (if c < 64 then B (P + 1) i else B (P + 2) i) (c % 64) = mt i j := f1
      rw [show (2048 : Int32) = nI 2048 from rfl, zmin_n (by omega) (by omega), nI_add, nI_add]
      have e1 : (if lg_cmp ((Int64.toUInt64 (if c < 64 then B (P + 1) i else B (P + 2) i) >>> ((nI c).toInt64.toUInt64 &&& Int64.toUInt64 63)).toInt64 &&& 1) 0 = 0 then b_X6_fillColumn_134 (b_X6_fillColumn_61 n) (xh x si sq sl A B g) (x + 53) (nI c) (nI e) (x + if c < 64 then P + 1 else P + 2) (x + if lb < 64 then P + 1 else P + 2) (if (sw && decide (1 ≤ j)) = true then 1 else 0) (nI (i + 1)) (nI (n0 + 2048)) (nI (min n1 nv + 2048)) else b_X6_fillColumn_134 (b_X6_fillColumn_61 n) (xh x si sq sl A B g) (x + 53) (nI c) (nI e) (x + if c < 64 then P + 1 else P + 2) (x + if lb < 64 then P + 1 else P + 2) (if (sw && decide (1 ≤ j)) = true then 1 else 0) (nI (i + 1)) (nI n0) (nI (min n1 nv + 2048))) = b_X6_fillColumn_134 (b_X6_fillColumn_61 n) (xh x si sq sl A B g) (x + 53) (nI c) (nI e) (x + if c < 64 then P + 1 else P + 2) (x + if lb < 64 then P + 1 else P + 2) (if (sw && decide (1 ≤ j)) = true then 1 else 0) (nI (i + 1)) (nI (if mt i j then n0 else n0 + 2048)) (nI (min n1 nv + 2048)) := by
        by_cases q1 : mt i j = true
        · rw [if_neg (fun q => by have := (tstU (show c < 128 by omega)).mp q; rw [g1, q1] at this; exact absurd this (by decide)), if_pos q1]
        · rw [if_pos ((tstU (show c < 128 by omega)).mpr (by rw [g1]; exact Bool.eq_false_iff.mpr q1)), if_neg q1]
      have hy : (if mt i j then n0 else n0 + 2048) < 2 ^ 30 := by split <;> omega
      obtain ⟨v, e2, v1, v2⟩ := x_fill134 (x := x) (si := si) (sq := sq) (sl := sl) (A := A) (B := B) (g := g) (k61 := b_X6_fillColumn_61 n) (k := k) (e := e) (sw := sw) (p2 := p2) (y1 := min n1 nv + 2048) hP hsP hs (show i < s by omega) hc hlb hcm hlm h10 ea eo Ia Io hy (by omega) (fun hj q hq => ho hj q (by omega))
      rw [e1, e2]
      have hd : agN k (if mt i j then n0 else n0 + 2048) (if mt i j then pr i else pr i + 2048) := by
        split
        · exact c0
        · exact agN_add c0
      have hag : agN k v (colV pr p2 fs (fun i => mt i j) (fun i => swp mt sw i j) (i + 1)) := by
        show agN k v (min (min (if mt i j then pr i else pr i + 2048) (pr (i + 1) + 2048)) (min (colV pr p2 fs (fun i => mt i j) (fun i => swp mt sw i j) i + 2048) (if swp mt sw i j then p2 (i - 1) + 2048 else pr i + 2048)))
        have base := agN_min (agN_add (agN_min c1 cv)) hd
        rcases v2 with ⟨w1, w2⟩ | ⟨w1, m, w2, w3⟩
        · rw [w1, if_neg Bool.false_ne_true]
          rw [← w2] at base
          have : min (min (pr (i + 1)) (colV pr p2 fs (fun i => mt i j) (fun i => swp mt sw i j) i) + 2048) (if mt i j = true then pr i else pr i + 2048) = min (min (if mt i j = true then pr i else pr i + 2048) (pr (i + 1) + 2048)) (min (colV pr p2 fs (fun i => mt i j) (fun i => swp mt sw i j) i + 2048) (pr i + 2048)) := by
            split <;> omega
          rw [← this]
          exact base
        · rw [w1, if_pos rfl]
          have := agN_min base (agN_add w2)
          rw [← w3] at this
          rw [show min (min (if mt i j = true then pr i else pr i + 2048) (pr (i + 1) + 2048)) (min (colV pr p2 fs (fun i => mt i j) (fun i => swp mt sw i j) i + 2048) (p2 (i - 1) + 2048)) = min (min (min (pr (i + 1)) (colV pr p2 fs (fun i => mt i j) (fun i => swp mt sw i j) i) + 2048) (if mt i j = true then pr i else pr i + 2048)) (p2 (i - 1) + 2048) by omega]
          exact this
      obtain ⟨f, e3, n3⟩ := ih (i + 1) (ua A a (upd (A a) (i + 1) (nI v))) (by rw [ua_n nl]; exact hl) (by rw [ua_n no]; exact ho) (by omega) (by omega) (by
        intro q hq
        rw [ua_s]
        by_cases hqi : q = i + 1
        · subst hqi
          exact ⟨v, pk_us, by omega, hag⟩
        · rw [pk_un hqi]
          exact hv q (by omega))
      exact ⟨f, by rw [e3, ua_ua], n3⟩
    · rw [if_pos (nI_lt (by omega) (by omega))]
      exact ⟨A a, by rw [ua_self], fun q hq => hv q (by omega)⟩
end XS
