/-! THE READER: elements -/
theorem bitL_and {u v : Int64} {j : Nat} : bitL (u &&& v) j = (bitL u j && bitL v j) := by
  unfold bitL
  rw [Int64.toBitVec_and, BitVec.getLsbD_and]
theorem bitL_not {u : Int64} {j : Nat} (hj : j < 64) : bitL (u ^^^ (-1)) j = !bitL u j := by
  unfold bitL
  rw [Int64.toBitVec_xor, BitVec.getLsbD_xor]
  have : (-1 : Int64).toBitVec.getLsbD j = true := by
    rw [show (-1 : Int64).toBitVec = BitVec.allOnes 64 from rfl, BitVec.getLsbD_allOnes]
    exact decide_eq_true hj
  rw [this, Bool.xor_true]
theorem rg_single {lo hi : Int64} {b : Nat} (hb : b < 128) (hok : okN b = true) : rg lo hi b b (if b < 64 then lo ||| ((1 : Int64) <<< (Int32.toInt64 (nI b) &&& 63)) else lo) (if b < 64 then hi else hi ||| ((1 : Int64) <<< (Int32.toInt64 (nI b) &&& 63))) := by
  by_cases h : b < 64
  · rw [if_pos h, if_pos h]
    exact rg_step hb (put_lo h hok (Nat.le_refl _)) (rg_none (by omega))
  · rw [if_neg h, if_neg h]
    exact rg_step hb (put_hi (by omega) hb hok (Nat.le_refl _)) (rg_none (by omega))
theorem dot_bits : ∀ j, j < 128 → (inR 0 126 j && !(inR 10 10 j)) = inR 32 126 j := by decide +kernel
/-- . : all bytes but 10 -/
theorem dot_eq {lo hi lo' hi' : Int64} (h1 : rg 0 0 10 10 lo hi) (h2 : rg 0 0 32 126 lo' hi') : (-4294966272 : Int64) &&& (lo ^^^ (-1 : Int64)) = lo' ∧ (9223372036854775807 : Int64) &&& (hi ^^^ (-1 : Int64)) = hi' := by
  constructor
  · apply bitL_ext; intro j hj
    rw [bitL_and, bitL_not hj, all_lo j hj, (h1 j hj).1, (h2 j hj).1, bitL_0, Bool.false_or, Bool.false_or]
    exact dot_bits j (by omega)
  · apply bitL_ext; intro j hj
    rw [bitL_and, bitL_not hj, all_hi j hj, (h1 j hj).2, (h2 j hj).2, bitL_0, Bool.false_or, Bool.false_or]
    exact dot_bits (64 + j) (by omega)
def rS (si : Nat → Nat → Int32) (B : Nat → Nat → Int64) (mi : Nat → Int32) (E : Nat → Nat → Int64) (m : Nat) : Prop := si 50 2 = nI m ∧ mi 16 = nI m ∧ m ≤ 200 ∧ ∀ j, j < m → B 51 j = E 8 j ∧ B 52 j = E 9 j
def eS (si si' : Nat → Nat → Int32) : Prop := ∀ k j, k ≠ 47 → k ≠ 50 → si' k j = si k j
def eB (B B' : Nat → Nat → Int64) (a b : Nat) : Prop := ∀ k, k ≠ a → k ≠ b → B' k = B k
def eM (mi mi' : Nat → Int32) : Prop := ∀ k, k ≠ 11 → k ≠ 12 → k ≠ 13 → k ≠ 16 → mi' k = mi k
theorem s50 : isSet 50 := by unfold isSet; omega
section EL
variable {x : Nat} {sq : Nat → Nat → Nat} {A : Nat → Nat → Int32} {g g2 : zh_H}
variable {y : Nat} {C : Nat → Nat → Int32} {n : Nat} {T : Nat → Nat}
theorem x_sadd {o m : Nat} {lo hi : Int64} {si : Nat → Nat → Int32} {sl : Nat → Nat → Int64} {B : Nat → Nat → Int64} (ho : isSet o) (hm : si o 2 = nI m) (hl : m < slen o) : b_X7_add_0 (xh x si sq sl A B g) (x + o) lo hi = some (xh x (u2 si o 2 (nI (m + 1))) sq sl A (ub (ub B (o + 1) (vp_updL (B (o + 1)) m lo)) (o + 2) (vp_updL (B (o + 2)) m hi)) g) := by
  have l1 := slen_le (o := o)
  unfold b_X7_add_0
  simp only [xs_g ho, xs_ca ho, xs_cb ho, xs_n ho, Option.bind_some, hm, if_neg (nI_ge hl (show slen o < 2 ^ 31 by omega)), xs_sa ho hl, xs_sb ho hl, ub_n (show o + 2 ≠ o + 1 by omega), nI_1, xs_p ho]
  rfl
/-- an element's end -/
theorem e_end {m : Nat} {pl : Int32} {a : Nat} {si : Nat → Nat → Int32} {sl : Nat → Nat → Int64} {B : Nat → Nat → Int64} {mi : Nat → Int32} {ml : Nat → Int64} {E : Nat → Nat → Int64} (hS : rS si B mi E m) (hm : m < 200) (hP : pOk n pl si sl mi ml a) : ∃ si' B' mi' E', b_X4_readElement_130 (xh x si sq sl A B g) (x + 47) = some (xh x si' sq sl A B' g) ∧ b_X11_element_106 (mh y mi ml C E g2) y = some (mh y mi' ml C E' g2) ∧ rS si' B' mi' E' (m + 1) ∧ pOk n pl si' sl mi' ml a ∧ (∀ k j, k ≠ 50 → si' k j = si k j) ∧ eB B B' 51 52 ∧ (∀ k, k ≠ 16 → mi' k = mi k) ∧ eB E E' 8 9 := by
  obtain ⟨p1, p2, p3, p4, p5, p6, p7⟩ := id hP
  obtain ⟨s1, s2, s3, s4⟩ := hS
  unfold b_X4_readElement_130 b_X11_element_106
  simp only [xg_Re_5, Option.bind_some, p1, if_true, xg_Re_4, xg_Re_2, xg_Re_3, xs_is s50, x_sadd s50 s1 (show m < slen 50 from hm), mg_fault, p2, mr_newLows, mg_newCount, s2, mg_low, ms_newLows hm, mr_newHighs, mg_high, ms_newHighs hm, ub_n (show (9 : Nat) ≠ 8 by decide), nI_1, mp_newCount]
  refine ⟨_, _, _, _, rfl, rfl, ⟨u2_s, pk_us, by omega, fun j hj => ?_⟩, ⟨?_, ?_, ?_, ?_, ?_, p6, p7⟩, fun k j hk => u2_n (Or.inl hk), fun k h1 h2 => ?_, fun k hk => pk_un hk, fun k h1 h2 => ?_⟩
  · rw [ub_n (by decide), ub_s, ub_s, ub_n (by decide), ub_s, ub_s]
    by_cases hjm : j = m
    · subst hjm
      rw [pk_uLs, pk_uLs, pk_uLs, pk_uLs]
      exact ⟨p6, p7⟩
    · rw [pk_uLn hjm, pk_uLn hjm, pk_uLn hjm, pk_uLn hjm]
      exact s4 j (by omega)
  · rw [u2_n (Or.inl (by decide))]; exact p1
  · rw [pk_un (by decide)]; exact p2
  · rw [u2_n (Or.inl (by decide))]; exact p3
  · rw [u2_n (Or.inl (by decide))]; exact p4
  · rw [pk_un (by decide)]; exact p5
  · rw [ub_n h2, ub_n h1]
  · rw [ub_n h2, ub_n h1]
theorem e_endbad {si : Nat → Nat → Int32} {sl : Nat → Nat → Int64} {B : Nat → Nat → Int64} {mi : Nat → Int32} {ml : Nat → Int64} {E : Nat → Nat → Int64} (hP : pBad si mi) : b_X4_readElement_130 (xh x si sq sl A B g) (x + 47) = some (xh x si sq sl A B g) ∧ b_X11_element_106 (mh y mi ml C E g2) y = some (mh y mi ml C E g2) := by
  obtain ⟨p1, p2, k, k1, k2, k3⟩ := hP
  have h1 : ¬ si 47 5 = 0 := by rw [k3]; exact nI_ne0 (by omega) (by omega)
  have h2 : ¬ mi 12 = 0 := by rw [← p1]; exact h1
  unfold b_X4_readElement_130 b_X11_element_106
  simp only [xg_Re_5, Option.bind_some, if_neg h1, mg_fault, if_neg h2]
  exact ⟨rfl, rfl⟩
/-- both read an element -/
theorem element {a m : Nat} {si : Nat → Nat → Int32} {sl : Nat → Nat → Int64} {B : Nat → Nat → Int64} {mi : Nat → Int32} {ml : Nat → Int64} {E : Nat → Nat → Int64} (hq : sq 47 0 = 1) (han : a < n) (hX : tX si A n T) (hM : tM mi C n T) (hT : ∀ j, j < n → okN (T j) = true) (hS : rS si B mi E m) (p1 : si 47 5 = 0) (p2 : mi 12 = 0) (p4 : si 47 1 = nI a) (p5 : mi 11 = nI a) : ∃ si' sl' B' mi' ml' E', b_X4_readElement_0 (xh x si sq sl A B g) (x + 47) = some (xh x si' sq sl' A B' g) ∧ b_X11_element_0 (mh y mi ml C E g2) y = some (mh y mi' ml' C E' g2) ∧ eS si si' ∧ uL sl sl' ∧ eB B B' 51 52 ∧ eM mi mi' ∧ eB E E' 8 9 ∧ (pBad si' mi' ∨ ∃ a' m', a < a' ∧ a' ≤ n ∧ rS si' B' mi' E' m' ∧ pOk n (si 47 6) si' sl' mi' ml' a') := by
  have h400 := hX.2.1
  have hT7 : ∀ j, j < n → T j < 127 := fun j hj => (hX.2.2 j hj).2
  have hTa := hT7 a han
  obtain ⟨s1, s2, s3, s4⟩ := id hS
  have ne : ∀ c, c < 127 → T a ≠ c → ¬ nI (T a) = nI c := fun c hc h q => h ((nI_eq (by omega) (by omega)).mp q)
  have hg : gt T n a = nI (T a) := if_pos han
  -- the class's set is emptied first
  have hsl0 : ∀ v w, u2 (u2 sl 47 2 v) 47 3 w 47 2 = v := fun v w => by rw [u2_n (Or.inr (by decide)), u2_s]
  unfold b_X4_readElement_0 b_X11_element_0
  simp only [xg_Re_0, Option.bind_some, xg_Re_1, p4, x_ris hq, x_rget hq hX (show a < 2 ^ 31 by omega), zbp_some, xp_Re_2, xp_Re_3, hg, mr_tape, mg_at, p5, ml_tape (show a < 400 by omega), (hM.2.2 a han).1]
  by_cases c1 : T a = 93
  · -- a ] where an element begins
    simp only [if_pos (show nI (T a) = (93 : Int32) by rw [c1]; rfl), xo_Re, Option.bind_some, x_fail p1, mis, m_blame, zbp_some]
    have hb : pBad (u2 (u2 si 47 5 1) 47 6 (nI a)) (upd (upd mi 12 1) 13 (nI a)) := ⟨by rw [u2_n (Or.inr (by decide)), u2_s, pk_un (by decide), pk_us], by rw [u2_s, pk_us], 1, by decide, by decide, by rw [u2_n (Or.inr (by decide)), u2_s]; rfl⟩
    rw [(e_endbad (x := x) (sq := sq) (A := A) (g := g) (y := y) (C := C) (g2 := g2) (ml := ml) (E := E) hb).1]
    exact ⟨_, _, B, _, ml, E, rfl, rfl, fun k j h1 h2 => by rw [u2_n (Or.inl h1), u2_n (Or.inl h1)], uL.u.tr uL.u, fun _ _ _ => rfl, fun k h1 h2 h3 h4 => by rw [pk_un h3, pk_un h2], fun _ _ _ => rfl, Or.inl hb⟩
  · rw [if_neg (show ¬ nI (T a) = (93 : Int32) from ne 93 (by decide) c1), if_neg (show ¬ nI (T a) = (93 : Int32) from ne 93 (by decide) c1)]
    simp only [xg_Re_4, Option.bind_some, xs_g s50, s1, mg_newCount, s2]
    by_cases c2 : m = 200
    · -- a 201st element
      subst c2
      simp only [if_neg (show ¬ nI 200 < (200 : Int32) from nI_nlt (b := 200) (a := 200) (by decide) (by decide)), if_pos (show nI 200 = (200 : Int32) from rfl), xo_Re, Option.bind_some, x_fail p1, mis, m_blame, zbp_some]
      have hb : pBad (u2 (u2 si 47 5 4) 47 6 (nI a)) (upd (upd mi 12 4) 13 (nI a)) := ⟨by rw [u2_n (Or.inr (by decide)), u2_s, pk_un (by decide), pk_us], by rw [u2_s, pk_us], 4, by decide, by decide, by rw [u2_n (Or.inr (by decide)), u2_s]; rfl⟩
      rw [(e_endbad (x := x) (sq := sq) (A := A) (g := g) (y := y) (C := C) (g2 := g2) (ml := ml) (E := E) hb).1]
      exact ⟨_, _, B, _, ml, E, rfl, rfl, fun k j h1 h2 => by rw [u2_n (Or.inl h1), u2_n (Or.inl h1)], uL.u.tr uL.u, fun _ _ _ => rfl, fun k h1 h2 h3 h4 => by rw [pk_un h3, pk_un h2], fun _ _ _ => rfl, Or.inl hb⟩
    · have hm : m < 200 := by omega
      rw [if_pos (show nI m < (200 : Int32) from nI_lt (b := 200) hm (by decide)), if_neg (show ¬ nI m = (200 : Int32) from fun q => c2 ((nI_eq (b := 200) (by omega) (by decide)).mp q))]
      simp only [mp_low, mp_high, Option.bind_some]
      by_cases c3 : T a = 91
      · -- [ .. ]
        rw [if_pos (show nI (T a) = (91 : Int32) by rw [c3]; rfl), if_neg (show ¬ nI (T a) = (46 : Int32) from ne 46 (by decide) (by omega)), if_pos (show nI (T a) = (91 : Int32) by rw [c3]; rfl)]
        simp only [xo_Re, mis, Option.bind_some, nI_1, xp_Re_1]
        obtain ⟨si1, sl1, mi1, ml1, e1, e2, e3, e4, e5, e6⟩ := brackets (x := x) (A := A) (B := B) (g := g) (y := y) (C := C) (E := E) (g2 := g2) (T := T) (a := a + 1) hq (si := u2 si 47 1 (nI (a + 1))) (sl := u2 (u2 sl 47 2 0) 47 3 0) (mi := mi) (ml := vp_updL (vp_updL ml 17 0) 18 0) (by omega) (by omega) (hX.mv (uR.u (Or.inl rfl))) hM (by rw [u2_n (Or.inr (by decide))]; exact p1) p2 u2_s p5 (by rw [u2_n (Or.inr (by decide)), u2_s, pk_uLn (by decide), pk_uLs]) (by rw [u2_s, pk_uLs])
        rw [e1, Option.bind_some, e2, Option.bind_some]
        have uu : ∀ k j, k ≠ 47 → si1 k j = si k j := fun k j hk => by rw [e3 k j (Or.inl hk), u2_n (Or.inl hk)]
        have u6 : u2 si 47 1 (nI (a + 1)) 47 6 = si 47 6 := u2_n (Or.inr (by decide))
        rcases e6 with e6 | ⟨a', b1, b2, b3⟩
        · obtain ⟨q1, q2⟩ := e_endbad (x := x) (sq := sq) (A := A) (g := g) (y := y) (C := C) (g2 := g2) (sl := sl1) (B := B) (ml := ml1) (E := E) e6
          exact ⟨si1, sl1, B, mi1, ml1, E, q1, q2, fun k j h1 _ => uu k j h1, (uL.u.tr uL.u).tr e4, fun _ _ _ => rfl, fun k h1 h2 h3 _ => e5 k h1 h2 h3, fun _ _ _ => rfl, Or.inl e6⟩
        · rw [u6] at b3
          have hS1 : rS si1 B mi1 E m := ⟨by rw [uu 50 2 (by decide)]; exact s1, by rw [e5 16 (by decide) (by decide) (by decide)]; exact s2, s3, s4⟩
          obtain ⟨si2, B2, mi2, E2, q1, q2, q3, q4, q5, q6, q7, q8⟩ := e_end (x := x) (sq := sq) (A := A) (g := g) (y := y) (C := C) (g2 := g2) hS1 hm b3
          exact ⟨si2, sl1, B2, mi2, ml1, E2, q1, q2, fun k j h1 h2 => by rw [q5 k j h2, uu k j h1], (uL.u.tr uL.u).tr e4, q6, fun k h1 h2 h3 h4 => by rw [q7 k h4, e5 k h1 h2 h3], q8, Or.inr ⟨a', m + 1, by omega, b2, q3, q4⟩⟩
      · by_cases c4 : T a = 46
        · -- .
          rw [if_neg (show ¬ nI (T a) = (91 : Int32) from ne 91 (by decide) c3), if_pos (show nI (T a) = (46 : Int32) by rw [c4]; rfl), if_pos (show nI (T a) = (46 : Int32) by rw [c4]; rfl)]
          obtain ⟨lo, hi, e1, e2⟩ := x_addRange (x := x) (si := u2 si 47 1 (nI (a + 1))) (sq := sq) (sl := u2 (u2 sl 47 2 0) 47 3 0) (A := A) (B := B) (g := g) (f := 10) (s := 10) (by decide) (by decide)
          obtain ⟨lo', hi', e3, e4⟩ := m_putAll (y := y) (mi := mi) (ml := vp_updL (vp_updL ml 17 0) 18 0) (C := C) (E := E) (g := g2) (f := 32) (s := 126) (by decide) (by decide)
          rw [u2_n (Or.inr (by decide)), u2_s, u2_s] at e2
          rw [pk_uLn (by decide), pk_uLs, pk_uLs] at e4
          obtain ⟨d1, d2⟩ := dot_eq e2 e4
          unfold b_X4_turnRound_0
          simp only [xo_Re, mis, Option.bind_some, nI_1, xp_Re_1, show (10 : Int32) = nI 10 from rfl, e1, show (32 : Int32) = nI 32 from rfl, show (126 : Int32) = nI 126 from rfl, e3, mg_at, p5, mp_at, xg_Re_2, xp_Re_2, xg_Re_3, xp_Re_3]
          have hS1 : rS (u2 si 47 1 (nI (a + 1))) B (upd mi 11 (nI (a + 1))) E m := ⟨by rw [u2_n (Or.inl (by decide))]; exact s1, by rw [pk_un (by decide)]; exact s2, s3, s4⟩
          have hP1 : pOk n (si 47 6) (u2 si 47 1 (nI (a + 1))) (u2 (u2 (u2 (u2 (u2 (u2 sl 47 2 0) 47 3 0) 47 2 lo) 47 3 hi) 47 2 ((-4294966272 : Int64) &&& (u2 (u2 (u2 (u2 sl 47 2 0) 47 3 0) 47 2 lo) 47 3 hi 47 2 ^^^ (-1 : Int64)))) 47 3 ((9223372036854775807 : Int64) &&& (u2 (u2 (u2 (u2 (u2 sl 47 2 0) 47 3 0) 47 2 lo) 47 3 hi) 47 2 ((-4294966272 : Int64) &&& (u2 (u2 (u2 (u2 sl 47 2 0) 47 3 0) 47 2 lo) 47 3 hi 47 2 ^^^ (-1 : Int64))) 47 3 ^^^ (-1 : Int64)))) (upd mi 11 (nI (a + 1))) (vp_updL (vp_updL (vp_updL (vp_updL ml 17 0) 18 0) 17 lo') 18 hi') (a + 1) := by
            refine ⟨by rw [u2_n (Or.inr (by decide))]; exact p1, by rw [pk_un (by decide)]; exact p2, u2_n (Or.inr (by decide)), u2_s, pk_us, ?_, ?_⟩
            · rw [u2_n (Or.inr (by decide)), u2_s, pk_uLn (by decide), pk_uLs, ← d1, u2_n (Or.inr (by decide)), u2_s]
            · rw [u2_s, pk_uLs, ← d2, u2_n (Or.inr (by decide)), u2_s]
          obtain ⟨si2, B2, mi2, E2, q1, q2, q3, q4, q5, q6, q7, q8⟩ := e_end (x := x) (sq := sq) (A := A) (g := g) (y := y) (C := C) (g2 := g2) hS1 hm hP1
          exact ⟨si2, _, B2, mi2, _, E2, q1, q2, fun k j h1 h2 => by rw [q5 k j h2, u2_n (Or.inl h1)], ((uL.u.tr uL.u).tr (uL.u.tr uL.u)).tr (uL.u.tr uL.u), q6, fun k h1 h2 h3 h4 => by rw [q7 k h4, pk_un h1], q8, Or.inr ⟨a + 1, m + 1, by omega, by omega, q3, q4⟩⟩
        · -- a byte
          rw [if_neg (show ¬ nI (T a) = (91 : Int32) from ne 91 (by decide) c3), if_neg (show ¬ nI (T a) = (46 : Int32) from ne 46 (by decide) c4), if_neg (show ¬ nI (T a) = (46 : Int32) from ne 46 (by decide) c4), if_neg (show ¬ nI (T a) = (91 : Int32) from ne 91 (by decide) c3)]
          simp only [xo_Re, mis, Option.bind_some]
          by_cases hF : n ≤ tk T n a
          · obtain ⟨v, hv1, hv2, e1⟩ := x_take_f (x := x) (sl := u2 (u2 sl 47 2 0) 47 3 0) (B := B) (g := g) hq hX p4 hF (by omega) p1
            obtain ⟨mi1, e2, e3, e4, e5⟩ := m_item_f (y := y) (ml := vp_updL (vp_updL ml 17 0) 18 0) (E := E) (g := g2) hM p5 (by omega) hF
            have ep := m_put (y := y) (mi := mi1) (C := C) (E := E) (g := g2) (b := 0) (by decide) (vp_updL (vp_updL ml 17 0) 18 0)
            simp only [e1, zbp_some, xo_Re, mis, x_addRange_no, Option.bind_some, e2, show (0 : Int32) = nI 0 from rfl, ep]
            have hb : pBad (u2 (u2 (u2 si 47 5 3) 47 6 (nI n)) 47 1 (nI v)) mi1 := ⟨by rw [u2_n (Or.inr (by decide)), u2_n (Or.inr (by decide)), u2_s, e4], by rw [u2_n (Or.inr (by decide)), u2_s, e5], 3, by decide, by decide, by rw [u2_n (Or.inr (by decide)), u2_n (Or.inr (by decide)), u2_s]; rfl⟩
            obtain ⟨q1, q2⟩ := e_endbad (x := x) (sq := sq) (A := A) (g := g) (y := y) (C := C) (g2 := g2) (sl := u2 (u2 sl 47 2 0) 47 3 0) (B := B) (ml := if 0 < 64 then vp_updL (vp_updL (vp_updL ml 17 0) 18 0) 17 (vp_updL (vp_updL ml 17 0) 18 0 17 ||| ((1 : Int64) <<< (Int32.toInt64 (nI 0) &&& 63))) else vp_updL (vp_updL (vp_updL ml 17 0) 18 0) 18 (vp_updL (vp_updL ml 17 0) 18 0 18 ||| ((1 : Int64) <<< (Int32.toInt64 (nI 0) &&& 63)))) (E := E) hb
            exact ⟨_, _, B, mi1, _, E, q1, q2, fun k j h1 h2 => by rw [u2_n (Or.inl h1), u2_n (Or.inl h1), u2_n (Or.inl h1)], uL.u.tr uL.u, fun _ _ _ => rfl, fun k h1 h2 h3 _ => e3 k h1 h2 h3, fun _ _ _ => rfl, Or.inl hb⟩
          · have htk : tk T n a < n := by omega
            have hge := tk_ge (T := T) (n := n) (a := a)
            have hb7 := hT7 _ htk
            have e1 := x_take_t (x := x) (sl := u2 (u2 sl 47 2 0) 47 3 0) (B := B) (g := g) hq hX p4 htk
            have e2 := m_item_t (y := y) (ml := vp_updL (vp_updL ml 17 0) 18 0) (E := E) (g := g2) hM p5 (by omega) htk
            obtain ⟨lo, hi, e3, e4⟩ := x_addRange (x := x) (si := u2 si 47 1 (nI (tk T n a + 1))) (sq := sq) (sl := u2 (u2 sl 47 2 0) 47 3 0) (A := A) (B := B) (g := g) hb7 hb7
            rw [u2_n (Or.inr (by decide)), u2_s, u2_s] at e4
            have ep := m_put (y := y) (mi := upd mi 11 (nI (tk T n a + 1))) (C := C) (E := E) (g := g2) (b := T (tk T n a)) (by omega) (vp_updL (vp_updL ml 17 0) 18 0)
            simp only [e1, zbp_some, xo_Re, mis, Option.bind_some, e2, e3, ep]
            obtain ⟨r1, r2⟩ := rg_uniq e4 (rg_single (by omega) (hT _ htk))
            have hS1 : rS (u2 si 47 1 (nI (tk T n a + 1))) B (upd mi 11 (nI (tk T n a + 1))) E m := ⟨by rw [u2_n (Or.inl (by decide))]; exact s1, by rw [pk_un (by decide)]; exact s2, s3, s4⟩
            have hP1 : pOk n (si 47 6) (u2 si 47 1 (nI (tk T n a + 1))) (u2 (u2 (u2 (u2 sl 47 2 0) 47 3 0) 47 2 lo) 47 3 hi) (upd mi 11 (nI (tk T n a + 1))) (if T (tk T n a) < 64 then vp_updL (vp_updL (vp_updL ml 17 0) 18 0) 17 (vp_updL (vp_updL ml 17 0) 18 0 17 ||| ((1 : Int64) <<< (Int32.toInt64 (nI (T (tk T n a))) &&& 63))) else vp_updL (vp_updL (vp_updL ml 17 0) 18 0) 18 (vp_updL (vp_updL ml 17 0) 18 0 18 ||| ((1 : Int64) <<< (Int32.toInt64 (nI (T (tk T n a))) &&& 63)))) (tk T n a + 1) := by
              refine ⟨by rw [u2_n (Or.inr (by decide))]; exact p1, by rw [pk_un (by decide)]; exact p2, u2_n (Or.inr (by decide)), u2_s, pk_us, ?_, ?_⟩
              · rw [u2_n (Or.inr (by decide)), u2_s, r1]
                split
                · rw [pk_uLs, pk_uLn (by decide), pk_uLs]
                · rw [pk_uLn (by decide), pk_uLn (by decide), pk_uLs]
              · rw [u2_s, r2]
                split
                · rw [pk_uLn (by decide), pk_uLs]
                · rw [pk_uLs, pk_uLs]
            obtain ⟨si2, B2, mi2, E2, q1, q2, q3, q4, q5, q6, q7, q8⟩ := e_end (x := x) (sq := sq) (A := A) (g := g) (y := y) (C := C) (g2 := g2) hS1 hm hP1
            exact ⟨si2, _, B2, mi2, _, E2, q1, q2, fun k j h1 h2 => by rw [q5 k j h2, u2_n (Or.inl h1)], (uL.u.tr uL.u).tr (uL.u.tr uL.u), q6, fun k h1 h2 h3 h4 => by rw [q7 k h4, pk_un h1], q8, Or.inr ⟨tk T n a + 1, m + 1, by omega, by omega, q3, q4⟩⟩
end EL
