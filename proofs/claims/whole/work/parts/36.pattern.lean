/-! pattern: both sides read the tape alike -/
section PT
variable {x : Nat} {A : Nat → Nat → Int32} {g g2 : zh_H}
variable {y : Nat} {n : Nat} {T : Nat → Nat}
theorem eS.rf {si : Nat → Nat → Int32} : eS si si := fun _ _ _ _ => rfl
theorem tX.mv2 {si si' : Nat → Nat → Int32} {A : Nat → Nat → Int32} {n : Nat} {T : Nat → Nat} (h : tX si A n T) (u : eS si si') : tX si' A n T := ⟨by rw [u 1 1 (by decide) (by decide)]; exact h.1, h.2⟩
theorem tM.mv2 {mi mi' : Nat → Int32} {C : Nat → Nat → Int32} {n : Nat} {T : Nat → Nat} (h : tM mi C n T) (u : eM mi mi') : tM mi' C n T := ⟨by rw [u 1 (by decide) (by decide) (by decide) (by decide)]; exact h.1, h.2⟩
theorem rd_loop {sq : Nat → Nat → Nat} {C : Nat → Nat → Int32} {p : Int32} (hq : sq 47 0 = 1) (hT : ∀ j, j < n → okN (T j) = true) : ∀ (d a t m fx fm : Nat) (si : Nat → Nat → Int32) (sl : Nat → Nat → Int64) (B : Nat → Nat → Int64) (mi : Nat → Int32) (ml : Nat → Int64) (E : Nat → Nat → Int64), n - a = d → a ≤ n → t ≤ a → d + 2 ≤ fx → d + 2 ≤ fm → tX si A n T → tM mi C n T → rS si B mi E m → si 47 5 = 0 → mi 12 = 0 → si 47 1 = nI a → mi 11 = nI a →
    ∃ si' sl' B' mi' ml' E', b_X4_read_45 fx (xh x si sq sl A B g) (x + 47) (nI t) = some (xh x si' sq sl' A B' g) ∧ b_X11_pattern_42 fm (mh y mi ml C E g2) y p = b_X11_pattern_67 (mh y mi' ml' C E' g2) y p ∧ eS si si' ∧ uL sl sl' ∧ eB B B' 51 52 ∧ eM mi mi' ∧ eB E E' 8 9 ∧ (pBad si' mi' ∨ ∃ m', rS si' B' mi' E' m' ∧ si' 47 5 = 0 ∧ mi' 12 = 0 ∧ si' 47 6 = si 47 6) := by
  intro d
  induction d using Nat.strongRecOn with
  | ind d ih =>
    intro a t m fx fm si sl B mi ml E hd ha hta hfx hfm hX hM hS p1 p2 p4 p5
    have h400 := hX.2.1
    obtain ⟨fx', rfl⟩ : ∃ k, fx = k + 1 + 1 := ⟨fx - 2, by omega⟩
    obtain ⟨fm', rfl⟩ : ∃ k, fm = k + 1 + 1 := ⟨fm - 2, by omega⟩
    by_cases han : a < n
    · obtain ⟨si1, sl1, B1, mi1, ml1, E1, e1, e2, e3, e4, e5, e6, e7, e8⟩ := element (x := x) (A := A) (g := g) (y := y) (C := C) (g2 := g2) (sl := sl) (ml := ml) hq han hX hM hT hS p1 p2 p4 p5
      have ex : b_X4_read_45 (fx' + 1 + 1) (xh x si sq sl A B g) (x + 47) (nI t) = b_X4_read_45 (fx' + 1) (xh x si1 sq sl1 A B1 g) (x + 47) (nI (t + 1)) := by
        rw [b_X4_read_45]
        simp only [xg_Re_0, Option.bind_some, x_rsz hq hX, if_neg (nI_ge (show t < n by omega) (show n < 2 ^ 31 by omega)), xg_Re_1, p4, if_neg (nI_ge han (show n < 2 ^ 31 by omega)), xg_Re_5, p1, if_true, xo_Re, e1, nI_1]
      have em : b_X11_pattern_42 (fm' + 1 + 1) (mh y mi ml C E g2) y p = b_X11_pattern_42 (fm' + 1) (mh y mi1 ml1 C E1 g2) y p := by
        rw [b_X11_pattern_42]
        simp only [mg_fault, Option.bind_some, p2, if_true, mg_at, mg_tapeSize, p5, hM.1, if_neg (nI_ge han (show n < 2 ^ 31 by omega)), mis, e2]
      rw [ex, em]
      rcases e8 with e8 | ⟨a', m', q1, q2, q3, q4⟩
      · obtain ⟨r1, r2, k, k1, k2, k3⟩ := id e8
        have h1 : ¬ si1 47 5 = 0 := by rw [k3]; exact nI_ne0 (by omega) (by omega)
        have h2 : ¬ mi1 12 = 0 := by rw [← r1]; exact h1
        refine ⟨si1, sl1, B1, mi1, ml1, E1, ?_, ?_, e3, e4, e5, e6, e7, Or.inl e8⟩
        · rw [b_X4_read_45]
          simp only [xg_Re_0, Option.bind_some, x_rsz hq (hX.mv2 e3), xg_Re_1, xg_Re_5, if_neg h1, ite_self]
          rfl
        · rw [b_X11_pattern_42]
          simp only [mg_fault, Option.bind_some, if_neg h2]
      · obtain ⟨s1, s2, s3, s4, s5, s6, s7⟩ := q4
        obtain ⟨si2, sl2, B2, mi2, ml2, E2, f1, f2, f3, f4, f5, f6, f7, f8⟩ := ih (n - a') (by omega) a' (t + 1) m' (fx' + 1) (fm' + 1) si1 sl1 B1 mi1 ml1 E1 rfl q2 (by omega) (by omega) (by omega) (hX.mv2 e3) (hM.mv2 e6) q3 s1 s2 s4 s5
        refine ⟨si2, sl2, B2, mi2, ml2, E2, f1, f2, fun k j h1 h2 => (f3 k j h1 h2).trans (e3 k j h1 h2), e4.tr f4, fun k h1 h2 => (f5 k h1 h2).trans (e5 k h1 h2), fun k h1 h2 h3 h4 => (f6 k h1 h2 h3 h4).trans (e6 k h1 h2 h3 h4), fun k h1 h2 => (f7 k h1 h2).trans (e7 k h1 h2), ?_⟩
        rcases f8 with f8 | ⟨m2, g1, g2', g3, g4⟩
        · exact Or.inl f8
        · exact Or.inr ⟨m2, g1, g2', g3, by rw [g4, s3]⟩
    · have ex : b_X4_read_45 (fx' + 1 + 1) (xh x si sq sl A B g) (x + 47) (nI t) = some (xh x si sq sl A B g) := by
        rw [b_X4_read_45]
        simp only [xg_Re_0, Option.bind_some, x_rsz hq hX, xg_Re_1, p4, if_pos (nI_le (show n ≤ a by omega) (show a < 2 ^ 31 by omega)), ite_self]
        rfl
      have em : b_X11_pattern_42 (fm' + 1 + 1) (mh y mi ml C E g2) y p = b_X11_pattern_67 (mh y mi ml C E g2) y p := by
        rw [b_X11_pattern_42]
        simp only [mg_fault, Option.bind_some, p2, if_true, mg_at, mg_tapeSize, p5, hM.1, if_pos (nI_le (show n ≤ a by omega) (show a < 2 ^ 31 by omega))]
      exact ⟨si, sl, B, mi, ml, E, ex, em, eS.rf, uL.rf, fun _ _ _ => rfl, fun _ _ _ _ _ => rfl, fun _ _ _ => rfl, Or.inr ⟨m, hS, p1, p2, rfl⟩⟩
theorem ub4 {B : Nat → Nat → Int64} {a b : Nat} {f1 f2 f3 f4 : Nat → Int64} (h : a ≠ b) : ub (ub (ub (ub B a f1) b f2) a f3) b f4 = ub (ub B a f3) b f4 := by
  funext q
  by_cases h1 : q = b
  · subst h1
    rw [ub_s, ub_s]
  · rw [ub_n h1, ub_n h1]
    by_cases h2 : q = a
    · subst h2
      rw [ub_s, ub_s]
    · rw [ub_n h2, ub_n h1, ub_n h2, ub_n h2]
theorem x_scopy6 {sq : Nat → Nat → Nat} {sl : Nat → Nat → Int64} {o t m : Nat} (ho : isSet o) (ht : isSet t) (hot : o + 2 < t ∨ t + 2 < o) (hm1 : m ≤ slen o) (hm2 : m ≤ slen t) : ∀ (fuel i : Nat) (si : Nat → Nat → Int32) (B : Nat → Nat → Int64), si t 2 = nI m → si o 2 = nI i → i ≤ m → m - i < fuel → ∃ f1 f2, b_X7_copyFrom_6 fuel (xh x si sq sl A B g) (x + o) (x + t) (nI i) = some (xh x (u2 si o 2 (nI m)) sq sl A (ub (ub B (o + 1) f1) (o + 2) f2) g) ∧ (∀ j, f1 j = if i ≤ j ∧ j < m then B (t + 1) j else B (o + 1) j) ∧ (∀ j, f2 j = if i ≤ j ∧ j < m then B (t + 2) j else B (o + 2) j) := by
  have l1 := slen_le (o := o)
  intro fuel
  induction fuel with
  | zero => intro i si B _ _ _ h; omega
  | succ k ih =>
    intro i si B h1 h2 hi hk
    rw [b_X7_copyFrom_6]
    by_cases him : i < m
    · simp only [xs_g ht, Option.bind_some, h1, if_neg (nI_ge him (show m < 2 ^ 31 by omega)), xs_ca ht, xs_la ht (show i < slen t by omega), xs_cb ht, xs_lb ht (show i < slen t by omega), xs_is ho, x_sadd ho h2 (show i < slen o by omega), nI_1]
      obtain ⟨f1, f2, e1, e2, e3⟩ := ih (i + 1) (u2 si o 2 (nI (i + 1))) (ub (ub B (o + 1) (vp_updL (B (o + 1)) i (B (t + 1) i))) (o + 2) (vp_updL (B (o + 2)) i (B (t + 2) i))) (by rw [u2_n (Or.inl (by omega))]; exact h1) u2_s (by omega) (by omega)
      refine ⟨f1, f2, ?_, fun j => ?_, fun j => ?_⟩
      · rw [e1, u2_u2, ub4 (by omega)]
      · rw [e2, ub_n (show t + 1 ≠ o + 2 by omega), ub_n (show t + 1 ≠ o + 1 by omega), ub_n (show o + 1 ≠ o + 2 by omega), ub_s]
        (try simp only [vp_updL]); repeat' split
        all_goals first | rfl | (exfalso; omega) | (congr 1; omega)
      · rw [e3, ub_n (show t + 2 ≠ o + 2 by omega), ub_n (show t + 2 ≠ o + 1 by omega), ub_s]
        (try simp only [vp_updL]); repeat' split
        all_goals first | rfl | (exfalso; omega) | (congr 1; omega)
    · have : i = m := by omega
      subst this
      simp only [xs_g ht, Option.bind_some, h1, if_pos (nI_le (Nat.le_refl i) (show i < 2 ^ 31 by omega))]
      refine ⟨B (o + 1), B (o + 2), ?_, fun j => by rw [if_neg (by omega)], fun j => by rw [if_neg (by omega)]⟩
      rw [u2_self h2, ub_self, ub_self]
theorem x_scopy {si : Nat → Nat → Int32} {sq : Nat → Nat → Nat} {sl : Nat → Nat → Int64} {B : Nat → Nat → Int64} {o t m : Nat} (ho : isSet o) (ht : isSet t) (hot : o + 2 < t ∨ t + 2 < o) (hm1 : m ≤ slen o) (hm2 : m ≤ slen t) (hm : si t 2 = nI m) : ∃ f1 f2, b_X7_copyFrom_0 (xh x si sq sl A B g) (x + o) (x + t) = some (xh x (u2 si o 2 (nI m)) sq sl A (ub (ub B (o + 1) f1) (o + 2) f2) g) ∧ (∀ j, j < m → f1 j = B (t + 1) j) ∧ (∀ j, j < m → f2 j = B (t + 2) j) := by
  have l1 := slen_le (o := o)
  unfold b_X7_copyFrom_0 b_X7_clear_0
  obtain ⟨f1, f2, e1, e2, e3⟩ := x_scopy6 (x := x) (A := A) (g := g) (sq := sq) (sl := sl) ho ht hot hm1 hm2 zFuel 0 (u2 si o 2 0) B (by rw [u2_n (Or.inl (by omega))]; exact hm) u2_s (by omega) (zF_lt (by omega))
  simp only [xs_is ho, Option.bind_some, xs_p ho]
  exact ⟨f1, f2, by rw [show (0 : Int32) = nI 0 from rfl]; rw [show (0 : Int32) = nI 0 from rfl] at e1; rw [e1, u2_u2], fun j hj => by rw [e2, if_pos (by omega)], fun j hj => by rw [e3, if_pos (by omega)]⟩
theorem m_pat102 {mi : Nat → Int32} {ml : Nat → Int64} {C : Nat → Nat → Int32} {p m : Nat} (hp : p < 8) (hm : m ≤ 200) (h16 : mi 16 = nI m) : ∀ (fuel i : Nat) (E : Nat → Nat → Int64), i ≤ m → m - i < fuel → ∃ f5 f6, b_X11_pattern_102 fuel (mh y mi ml C E g2) y (nI p) (nI i) = some (nI m, mh y mi ml (ua C 7 (upd (C 7) p (nI m))) (ub (ub E 5 f5) 6 f6) g2) ∧ (∀ q, f5 q = if 200 * p + i ≤ q ∧ q < 200 * p + m then E 8 (q - 200 * p) else E 5 q) ∧ (∀ q, f6 q = if 200 * p + i ≤ q ∧ q < 200 * p + m then E 9 (q - 200 * p) else E 6 q) := by
  intro fuel
  induction fuel with
  | zero => intro i E _ h; omega
  | succ k ih =>
    intro i E hi hk
    rw [b_X11_pattern_102]
    by_cases him : i < m
    · simp only [mg_newCount, Option.bind_some, h16, if_neg (nI_ge him (show m < 2 ^ 31 by omega)), mr_lows, mr_newLows, ml_newLows (show i < 200 by omega), show (200 : Int32) = nI 200 from rfl, pk_mul, nI_add, ms_lows (show 200 * p + i < 1600 by omega), mr_highs, mr_newHighs, ml_newHighs (show i < 200 by omega), ms_highs (show 200 * p + i < 1600 by omega), nI_1, ub_n (show (9 : Nat) ≠ 5 by decide), ub_n (show (6 : Nat) ≠ 5 by decide)]
      obtain ⟨f5, f6, e1, e2, e3⟩ := ih (i + 1) (ub (ub E 5 (vp_updL (E 5) (200 * p + i) (E 8 i))) 6 (vp_updL (E 6) (200 * p + i) (E 9 i))) (by omega) (by omega)
      refine ⟨f5, f6, ?_, fun j => ?_, fun j => ?_⟩
      · rw [e1]
        congr 3
        funext a b
        unfold ub
        repeat' split
        all_goals first | rfl | (exfalso; omega)
      · rw [e2, ub_n (by decide), ub_n (by decide), ub_n (show (5 : Nat) ≠ 6 by decide), ub_s]
        (try simp only [vp_updL]); repeat' split
        all_goals first | rfl | (exfalso; omega) | (congr 1; omega)
      · rw [e3, ub_n (by decide), ub_n (by decide), ub_s]
        (try simp only [vp_updL]); repeat' split
        all_goals first | rfl | (exfalso; omega) | (congr 1; omega)
    · have : i = m := by omega
      subst this
      simp only [mg_newCount, Option.bind_some, h16, if_pos (nI_le (Nat.le_refl i) (show i < 2 ^ 31 by omega)), mr_setCount, ms_setCount hp]
      refine ⟨E 5, E 6, ?_, fun j => by rw [if_neg (by omega)], fun j => by rw [if_neg (by omega)]⟩
      rw [ub_self, ub_self]
theorem slen_p {p : Nat} (hp : p < 8) : slen (20 + 3 * p) = 200 := by
  have : p = 0 ∨ p = 1 ∨ p = 2 ∨ p = 3 ∨ p = 4 ∨ p = 5 ∨ p = 6 ∨ p = 7 := by omega
  rcases this with rfl | rfl | rfl | rfl | rfl | rfl | rfl | rfl <;> rfl
theorem op_pattern {si : Nat → Nat → Int32} {sq : Nat → Nat → Nat} {sl : Nat → Nat → Int64} {B : Nat → Nat → Int64} {mi : Nat → Int32} {ml : Nat → Int64} {C : Nat → Nat → Int32} {E : Nat → Nat → Int64} (p : Int32) (hT : rTape si A mi C) (hP : rPats si B C E) (hL : rPlace si mi) :
    ∃ r si' sq' sl' B' mi' ml' C' E', b_X10_pattern_0 (xh x si sq sl A B g) x p = some (r, xh x si' sq' sl' A B' g) ∧ b_X11_pattern_0 (mh y mi ml C E g2) y p = some (r, mh y mi' ml' C' E' g2) ∧ rTape si' A mi' C' ∧ rPats si' B' C' E' ∧ rPlace si' mi' ∧ (∀ k j, k ≠ 1 → k ≠ 47 → k ≠ 50 → (k < 20 ∨ 44 ≤ k) → si' k j = si k j) ∧ (∀ k j, k ≠ 47 → sq' k j = sq k j) ∧ uL sl sl' ∧ (∀ k, k ≠ 51 → k ≠ 52 → (k < 20 ∨ 44 ≤ k) → B' k = B k) ∧ (∀ k, k ≠ 1 → k ≠ 10 → k ≠ 11 → k ≠ 12 → k ≠ 13 → k ≠ 16 → mi' k = mi k) ∧ (∀ k, k ≠ 7 → C' k = C k) ∧ (∀ k, k ≠ 5 → k ≠ 6 → k ≠ 8 → k ≠ 9 → E' k = E k) := by
  rcases pk_ix p (n := 8) (by decide) with h1 | h1 | ⟨q, hq8, rfl⟩
  · refine ⟨-2, si, sq, sl, B, mi, ml, C, E, ?_, ?_, hT, hP, hL, fun _ _ _ _ _ _ => rfl, fun _ _ _ => rfl, uL.rf, fun _ _ _ _ => rfl, fun _ _ _ _ _ _ _ => rfl, fun _ _ => rfl, fun _ _ _ _ _ => rfl⟩
    · unfold b_X10_pattern_0; rw [if_pos h1]; rfl
    · unfold b_X11_pattern_0; rw [m_in_f (not07 (Or.inl h1)), zbp_some, if_pos rfl]
  · refine ⟨-2, si, sq, sl, B, mi, ml, C, E, ?_, ?_, hT, hP, hL, fun _ _ _ _ _ _ => rfl, fun _ _ _ => rfl, uL.rf, fun _ _ _ _ => rfl, fun _ _ _ _ _ _ _ => rfl, fun _ _ => rfl, fun _ _ _ _ _ => rfl⟩
    · unfold b_X10_pattern_0
      rw [if_neg (i_nlt.mpr (Int32.le_trans (by decide) h1)), if_neg (show ¬ p < (8 : Int32) from i_nlt.mpr h1)]
      rfl
    · unfold b_X11_pattern_0; rw [m_in_f (not07 (Or.inr h1)), zbp_some, if_pos rfl]
  · obtain ⟨n, hn, n1, n2, n3⟩ := id hT
    -- the tape's bytes as numbers
    obtain ⟨T, hTT⟩ : ∃ T : Nat → Nat, ∀ j, j < n → A 2 j = nI (T j) ∧ C 1 j = nI (T j) ∧ T j < 127 ∧ okN (T j) = true := by
      refine ⟨fun j => (C 1 j).toNatClampNeg, fun j hj => ?_⟩
      obtain ⟨b, hb, eb⟩ := okB_nat (n3 j hj).2
      have e2 : (C 1 j).toNatClampNeg = b := by rw [eb]; exact nI_clamp (by omega)
      show A 2 j = nI ((C 1 j).toNatClampNeg) ∧ C 1 j = nI ((C 1 j).toNatClampNeg) ∧ (C 1 j).toNatClampNeg < 127 ∧ okN ((C 1 j).toNatClampNeg) = true
      rw [e2]
      exact ⟨(n3 j hj).1.trans eb, eb, hb, (okN_iff (by omega)).mpr (by rw [← eb]; exact (n3 j hj).2)⟩
    -- what the class holds as the reading begins
    obtain ⟨si0, hsi0⟩ : ∃ s, s = u2 (u2 (u2 (u2 si 47 1 0) 47 5 0) 47 6 (-1)) 50 2 0 := ⟨_, rfl⟩
    obtain ⟨sq0, hsq0⟩ : ∃ s, s = u2 sq 47 0 1 := ⟨_, rfl⟩
    obtain ⟨mi0, hmi0⟩ : ∃ s, s = upd (upd (upd mi 11 0) 12 0) 16 0 := ⟨_, rfl⟩
    have a1 : si0 1 1 = nI n := by rw [hsi0, u2_n (Or.inl (by decide)), u2_n (Or.inl (by decide)), u2_n (Or.inl (by decide)), u2_n (Or.inl (by decide))]; exact n1
    have a5 : si0 47 5 = 0 := by rw [hsi0, u2_n (Or.inl (by decide)), u2_n (Or.inr (by decide)), u2_s]
    have a6 : si0 47 6 = -1 := by rw [hsi0, u2_n (Or.inl (by decide)), u2_s]
    have aa : si0 47 1 = nI 0 := by rw [hsi0, u2_n (Or.inl (by decide)), u2_n (Or.inr (by decide)), u2_n (Or.inr (by decide)), u2_s]; rfl
    have a50 : si0 50 2 = nI 0 := by rw [hsi0, u2_s]; rfl
    have a0 : sq0 47 0 = 1 := by rw [hsq0, u2_s]
    have m1 : mi0 1 = nI n := by rw [hmi0, pk_un (by decide), pk_un (by decide), pk_un (by decide)]; exact n2
    have m11 : mi0 11 = nI 0 := by rw [hmi0, pk_un (by decide), pk_un (by decide), pk_us]; rfl
    have m12 : mi0 12 = 0 := by rw [hmi0, pk_un (by decide), pk_us]
    have m16 : mi0 16 = nI 0 := by rw [hmi0, pk_us]; rfl
    have hX0 : tX si0 A n T := ⟨a1, hn, fun j hj => ⟨(hTT j hj).1, (hTT j hj).2.2.1⟩⟩
    have hM0 : tM mi0 C n T := ⟨m1, hn, fun j hj => ⟨(hTT j hj).2.1, (hTT j hj).2.2.1⟩⟩
    have ux : ∀ k j, k ≠ 47 → k ≠ 50 → si0 k j = si k j := fun k j h1 h2 => by rw [hsi0, u2_n (Or.inl h2), u2_n (Or.inl h1), u2_n (Or.inl h1), u2_n (Or.inl h1)]
    have um : ∀ k, k ≠ 11 → k ≠ 12 → k ≠ 16 → mi0 k = mi k := fun k h1 h2 h3 => by rw [hmi0, pk_un h3, pk_un h2, pk_un h1]
    -- both have read
    have rd : ∃ si' sl' B' mi' ml' E', b_X4_read_0 (xh x si sq sl A B g) (x + 47) (x + 1) = some (xh x si' sq0 sl' A B' g) ∧ b_X11_pattern_0 (mh y mi ml C E g2) y (nI q) = b_X11_pattern_67 (mh y mi' ml' C E' g2) y (nI q) ∧ eS si0 si' ∧ uL sl sl' ∧ eB B B' 51 52 ∧ eM mi0 mi' ∧ eB E E' 8 9 ∧ (pBad si' mi' ∨ ∃ m', rS si' B' mi' E' m' ∧ si' 47 5 = 0 ∧ mi' 12 = 0 ∧ si' 47 6 = -1) := by
      have ex : b_X4_read_0 (xh x si sq sl A B g) (x + 47) (x + 1) = if nI n = (0 : Int32) then (b_X4_fail_0 (xh x si0 sq0 sl A B g) (x + 47) 3 0).bind fun h11 => b_X4_read_43 h11 (x + 47) else b_X4_read_43 (xh x si0 sq0 sl A B g) (x + 47) := by
        unfold b_X4_read_0 b_X7_clear_0
        simp only [xp_Re_0, Option.bind_some, xp_Re_1, xp_Re_5, xp_Re_6, xg_Re_4, xs_is s50, xs_p s50, xg_Re_0, ← hsi0, ← hsq0, a0, xr_g r31.2, a1, xo_Re]
      have em : b_X11_pattern_0 (mh y mi ml C E g2) y (nI q) = if nI n = (0 : Int32) then b_X11_pattern_42 zFuel (mh y (upd (upd mi0 12 3) 13 0) ml C E g2) y (nI q) else b_X11_pattern_42 zFuel (mh y mi0 ml C E g2) y (nI q) := by
        unfold b_X11_pattern_0
        simp only [m_in_t (nI_pos' (show q < 2 ^ 31 by omega)) (show nI q ≤ (7 : Int32) from nI_le (b := 7) (by omega) (by decide)), zbp_some, if_neg (show ¬ (1 : Int32) = 0 by decide), mp_at, mp_fault, mp_newCount, Option.bind_some, mg_tapeSize, ← hmi0, m1, mis, m_blame]
      by_cases h0 : n = 0
      · subst h0
        rw [ex, em, if_pos (show nI 0 = (0 : Int32) from rfl), if_pos (show nI 0 = (0 : Int32) from rfl), x_fail a5, Option.bind_some]
        have hb : pBad (u2 (u2 si0 47 5 3) 47 6 0) (upd (upd mi0 12 3) 13 0) := ⟨by rw [u2_n (Or.inr (by decide)), u2_s, pk_un (by decide), pk_us], by rw [u2_s, pk_us], 3, by decide, by decide, by rw [u2_n (Or.inr (by decide)), u2_s]; rfl⟩
        refine ⟨_, sl, B, upd (upd mi0 12 3) 13 0, ml, E, ?_, ?_, ?_, uL.rf, fun _ _ _ => rfl, ?_, fun _ _ _ => rfl, Or.inl hb⟩
        · unfold b_X4_read_43
          show b_X4_read_45 (999999 + 1) _ _ _ = _
          rw [b_X4_read_45]
          simp only [xg_Re_0, Option.bind_some, a0, xr_g r31.2, u2_n (show (1 : Nat) ≠ 47 ∨ (1 : Nat) ≠ 6 from Or.inl (by decide)), u2_n (show (1 : Nat) ≠ 47 ∨ (1 : Nat) ≠ 5 from Or.inl (by decide)), a1, if_pos (show nI 0 ≤ (0 : Int32) from by decide)]
          rfl
        · show b_X11_pattern_42 (999999 + 1) _ _ _ = _
          rw [b_X11_pattern_42]
          simp only [mg_fault, Option.bind_some, pk_un (show (12 : Nat) ≠ 13 by decide), pk_us, if_neg (show ¬ (3 : Int32) = 0 by decide)]
        · intro k j h1 h2
          rw [u2_n (Or.inl h1), u2_n (Or.inl h1)]
        · intro k h1 h2 h3 h4
          rw [pk_un h3, pk_un h2]
      · rw [ex, em, if_neg (nI_ne0 (by omega) (by omega)), if_neg (nI_ne0 (by omega) (by omega))]
        obtain ⟨si', sl', B', mi', ml', E', f1, f2, f3, f4, f5, f6, f7, f8⟩ := rd_loop (x := x) (A := A) (g := g) (y := y) (g2 := g2) (sq := sq0) (C := C) (p := nI q) a0 (fun j hj => (hTT j hj).2.2.2) n 0 0 0 zFuel zFuel si0 sl B mi0 ml E (by omega) (by omega) (by omega) (zF_lt (by omega)) (zF_lt (by omega)) hX0 hM0 ⟨a50, m16, by omega, fun j hj => by omega⟩ a5 m12 aa m11
        unfold b_X4_read_43
        rw [show (0 : Int32) = nI 0 from rfl, f1, f2]
        rw [a6] at f8
        exact ⟨si', sl', B', mi', ml', E', rfl, rfl, f3, f4, f5, f6, f7, f8⟩
    obtain ⟨si1, sl1, B1, mi1, ml1, E1, e1, e2, e3, e4, e5, e6, e7, e8⟩ := rd
    have hx1 : b_X10_pattern_0 (xh x si sq sl A B g) x (nI q) = if u2 si1 1 1 0 47 5 = 0 then (aR (xh x (u2 si1 1 1 0) sq0 sl1 A B1 g) 4 (x + 19) (nI q)).bind fun a11 => (isO (xh x (u2 si1 1 1 0) sq0 sl1 A B1 g) a11 7).bind fun o14 => (b_X7_copyFrom_0 (xh x (u2 si1 1 1 0) sq0 sl1 A B1 g) a11 (x + 50)).bind fun h15 => (gR h15 x 10 4).bind fun a16 => (aR h15 4 a16 (nI q)).bind fun a17 => (gI h15 a17 7 2).bind fun v18 => some (v18, h15) else some (((-10 : Int32) - u2 si1 1 1 0 47 5), xh x (u2 si1 1 1 0) sq0 sl1 A B1 g) := by
      unfold b_X10_pattern_0
      simp only [if_neg (nI_pos (show q < 2 ^ 31 by omega)), if_pos (show nI q < (8 : Int32) from nI_lt (b := 8) hq8 (by decide)), xg_EF_6, xg_EF_0, Option.bind_some, xo_Re, e1, xr_is r31.2, x_clear r31.2, xg_Re_5, xg_EF_4, xg_Re_4]
    have hz5 : u2 si1 1 1 0 47 5 = si1 47 5 := u2_n (Or.inl (by decide))
    rw [hz5] at hx1
    rcases e8 with hbad | ⟨m, hS, q5, q12, q6⟩
    · obtain ⟨r1, r2, k, k1, k2, k3⟩ := hbad
      rw [if_neg (by rw [k3]; exact nI_ne0 (by omega) (by omega))] at hx1
      refine ⟨_, _, _, _, _, upd (upd mi1 1 0) 10 (mi1 13), ml1, C, E1, hx1, ?_, ⟨0, by omega, u2_s, by rw [pk_un (by decide), pk_us]; rfl, fun j hj => by omega⟩, ?_, ?_, ?_, ?_, e4, ?_, ?_, fun _ _ => rfl, ?_⟩
      · rw [e2]
        unfold b_X11_pattern_67
        simp only [mp_tapeSize, Option.bind_some, mg_fault, pk_un (show (12 : Nat) ≠ 1 by decide), ← r1, k3, if_neg (nI_nle (show 0 < k by omega) (show k < 2 ^ 31 by omega)), mg_faultAt, pk_un (show (13 : Nat) ≠ 1 by decide), mp_place, pk_un (show (12 : Nat) ≠ 10 by decide)]
      · intro p hp
        obtain ⟨m, hm, s1, s2, s3⟩ := hP p hp
        refine ⟨m, hm, ?_, s2, fun j hj => ?_⟩
        · rw [u2_n (Or.inl (by omega)), e3 _ _ (by omega) (by omega), ux _ _ (by omega) (by omega), s1]
        · rw [e5 _ (by omega) (by omega), e5 _ (by omega) (by omega), e7 _ (by decide) (by decide), e7 _ (by decide) (by decide)]
          exact s3 j hj
      · unfold rPlace
        rw [u2_n (Or.inl (by decide)), pk_us, r2]
      · intro k j h1 h2 h3 h4
        rw [u2_n (Or.inl h1), e3 k j h2 h3, ux k j h2 h3]
      · intro k j h1
        rw [hsq0, u2_n (Or.inl h1)]
      · intro k h1 h2 h3
        exact e5 k h1 h2
      · intro k h1 h2 h3 h4 h5 h6
        rw [pk_un h2, pk_un h1, e6 k h3 h4 h5 h6, um k h3 h4 h6]
      · intro k h1 h2 h3 h4
        exact e7 k h3 h4
    · obtain ⟨s1, s2, s3, s4⟩ := hS
      rw [if_pos q5] at hx1
      obtain ⟨f1, f2, c1, c2, c3⟩ := x_scopy (x := x) (A := A) (g := g) (si := u2 si1 1 1 0) (sq := sq0) (sl := sl1) (B := B1) (o := 20 + 3 * q) (t := 50) (m := m) (set_p hq8) s50 (by omega) (by rw [slen_p hq8]; exact s3) (show m ≤ 200 from s3) (by rw [u2_n (Or.inl (by decide))]; exact s1)
      obtain ⟨f5, f6, d1, d2, d3⟩ := m_pat102 (y := y) (g2 := g2) (mi := upd (upd mi1 1 0) 10 (-1)) (ml := ml1) (C := C) (p := q) (m := m) hq8 s3 (by rw [pk_un (by decide), pk_un (by decide)]; exact s2) zFuel 0 E1 (by omega) (zF_lt (by omega))
      simp only [xpr hq8, Option.bind_some, xs_is (set_p hq8), c1, xg_EF_4, xs_g (set_p hq8), u2_s] at hx1
      refine ⟨_, _, _, _, _, upd (upd mi1 1 0) 10 (-1), ml1, ua C 7 (upd (C 7) q (nI m)), ub (ub E1 5 f5) 6 f6, hx1, ?_, ⟨0, by omega, by rw [u2_n (Or.inl (by omega)), u2_s]; rfl, by rw [pk_un (by decide), pk_us]; rfl, fun j hj => by omega⟩, ?_, ?_, ?_, ?_, e4, ?_, ?_, ?_, ?_⟩
      · rw [e2]
        unfold b_X11_pattern_67
        simp only [mp_tapeSize, Option.bind_some, mg_fault, pk_un (show (12 : Nat) ≠ 1 by decide), q12, if_pos (show (0 : Int32) ≤ 0 by decide), mp_place]
        exact d1
      · intro p hp
        by_cases hpq : p = q
        · subst hpq
          refine ⟨m, s3, u2_s, by rw [ua_s, pk_us], fun j hj => ?_⟩
          rw [show 21 + 3 * p = 20 + 3 * p + 1 by omega, show 22 + 3 * p = 20 + 3 * p + 2 by omega, ub_n (by omega), ub_s, ub_s, ub_n (by decide), ub_s, ub_s, c2 j hj, c3 j hj, d2, d3, if_pos (by omega), if_pos (by omega), show 200 * p + j - 200 * p = j by omega]
          exact s4 j hj
        · obtain ⟨m', hm', t1, t2, t3⟩ := hP p hp
          refine ⟨m', hm', ?_, ?_, fun j hj => ?_⟩
          · rw [u2_n (Or.inl (by omega)), u2_n (Or.inl (by omega)), e3 _ _ (by omega) (by omega), ux _ _ (by omega) (by omega), t1]
          · rw [ua_s, pk_un hpq, t2]
          · refine ⟨?_, ?_⟩
            · rw [ub_n (show 21 + 3 * p ≠ 20 + 3 * q + 2 by omega), ub_n (show 21 + 3 * p ≠ 20 + 3 * q + 1 by omega), e5 _ (by omega) (by omega), ub_n (show (5 : Nat) ≠ 6 by decide), ub_s, d2, if_neg (by omega), e7 _ (by decide) (by decide)]
              exact (t3 j hj).1
            · rw [ub_n (show 22 + 3 * p ≠ 20 + 3 * q + 2 by omega), ub_n (show 22 + 3 * p ≠ 20 + 3 * q + 1 by omega), e5 _ (by omega) (by omega), ub_s, d3, if_neg (by omega), e7 _ (by decide) (by decide)]
              exact (t3 j hj).2
      · unfold rPlace
        rw [u2_n (Or.inl (by omega)), u2_n (Or.inl (by decide)), pk_us, q6]
      · intro k j h1 h2 h3 h4
        rw [u2_n (Or.inl (by omega)), u2_n (Or.inl h1), e3 k j h2 h3, ux k j h2 h3]
      · intro k j h1
        rw [hsq0, u2_n (Or.inl h1)]
      · intro k h1 h2 h3
        rw [ub_n (by omega), ub_n (by omega), e5 k h1 h2]
      · intro k h1 h2 h3 h4 h5 h6
        rw [pk_un h2, pk_un h1, e6 k h3 h4 h5 h6, um k h3 h4 h6]
      · intro k h1
        exact ua_n h1
      · intro k h1 h2 h3 h4
        rw [ub_n h2, ub_n h1, e7 k h3 h4]
end PT
