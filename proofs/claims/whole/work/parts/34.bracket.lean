/-! THE READER: brackets -/
section BR
variable {x : Nat} {sq : Nat → Nat → Nat} {A : Nat → Nat → Int32} {B : Nat → Nat → Int64} {g g2 : zh_H}
variable {y : Nat} {C : Nat → Nat → Int32} {E : Nat → Nat → Int64} {n : Nat} {T : Nat → Nat}
theorem x63_fault {k : Nat} {si : Nat → Nat → Int32} {sl : Nat → Nat → Int64} {o t : Int32} (hq : sq 47 0 = 1) (h : tX si A n T) (h5 : si 47 5 = 3 ∨ si 47 5 = 2) : b_X4_readItems_63 (k + 1) (xh x si sq sl A B g) (x + 47) o t = b_X4_readItems_107 (xh x si sq sl A B g) (x + 47) o := by
  have hne : ¬ si 47 5 = 0 := by rcases h5 with h5 | h5 <;> rw [h5] <;> decide
  rw [b_X4_readItems_63]
  simp only [xg_Re_0, Option.bind_some, x_rsz hq h, xg_Re_5, if_neg hne, ite_self]
theorem x63_close {k : Nat} {si : Nat → Nat → Int32} {sl : Nat → Nat → Int64} {o : Int32} {t a : Nat} (hq : sq 47 0 = 1) (h : tX si A n T) (h5 : si 47 5 = 0) (ha : si 47 1 = nI a) (han : a < n) (hc : T a = 93) (ht : t ≤ n) : b_X4_readItems_63 (k + 1) (xh x si sq sl A B g) (x + 47) o (nI t) = b_X4_readItems_107 (xh x si sq sl A B g) (x + 47) o := by
  have h400 := h.2.1
  rw [b_X4_readItems_63]
  simp only [xg_Re_0, Option.bind_some, x_rsz hq h, if_neg (nI_nlt ht (show n < 2 ^ 31 by omega)), xg_Re_5, h5, if_true, xg_Re_1, ha, x_ris hq, x_rget hq h (show a < 2 ^ 31 by omega), zbp_some, if_pos (show gt T n a = (93 : Int32) from (gt_eq (c := 93) (fun j hj => (h.2.2 j hj).2) (by decide)).mpr ⟨han, hc⟩)]
theorem x63_step {k : Nat} {si : Nat → Nat → Int32} {sl : Nat → Nat → Int64} {o : Int32} {t a : Nat} (hq : sq 47 0 = 1) (h : tX si A n T) (h5 : si 47 5 = 0) (ha : si 47 1 = nI a) (ha2 : a ≤ n) (hc : a < n → T a ≠ 93) (ht : t ≤ n) : b_X4_readItems_63 (k + 1) (xh x si sq sl A B g) (x + 47) o (nI t) = (b_X4_readItem_0 (xh x si sq sl A B g) (x + 47)).bind fun h10 => b_X4_readItems_63 k h10 (x + 47) o (nI (t + 1)) := by
  have h400 := h.2.1
  rw [b_X4_readItems_63]
  simp only [xg_Re_0, Option.bind_some, x_rsz hq h, if_neg (nI_nlt ht (show n < 2 ^ 31 by omega)), xg_Re_5, h5, if_true, xg_Re_1, ha, x_ris hq, x_rget hq h (show a < 2 ^ 31 by omega), zbp_some, if_neg (show ¬ gt T n a = (93 : Int32) from fun q => by have := (gt_eq (c := 93) (fun j hj => (h.2.2 j hj).2) (by decide)).mp q; exact hc this.1 this.2), xo_Re, nI_1]
theorem m97_fault {k : Nat} {mi : Nat → Int32} {ml : Nat → Int64} {o mo : Int32} (h : ¬ mi 12 = 0) : b_X11_bracket_97 (k + 1) (mh y mi ml C E g) y o mo = b_X11_bracket_255 (mh y mi ml C E g) y o := by
  rw [b_X11_bracket_97]
  simp only [mg_fault, Option.bind_some, if_neg h, ite_self]
theorem m97_close {k : Nat} {mi : Nat → Int32} {ml : Nat → Int64} {o : Int32} : b_X11_bracket_97 (k + 1) (mh y mi ml C E g) y o 0 = b_X11_bracket_255 (mh y mi ml C E g) y o := by
  rw [b_X11_bracket_97]
  simp only [if_true]
/-- how both stand behind some reading: a fault, or at the same place with the same set -/
def pOk (n : Nat) (pl : Int32) (si : Nat → Nat → Int32) (sl : Nat → Nat → Int64) (mi : Nat → Int32) (ml : Nat → Int64) (a : Nat) : Prop := si 47 5 = 0 ∧ mi 12 = 0 ∧ si 47 6 = pl ∧ si 47 1 = nI a ∧ mi 11 = nI a ∧ sl 47 2 = ml 17 ∧ sl 47 3 = ml 18
def pBad (si : Nat → Nat → Int32) (mi : Nat → Int32) : Prop := si 47 5 = mi 12 ∧ si 47 6 = mi 13 ∧ ∃ k, 1 ≤ k ∧ k ≤ 4 ∧ si 47 5 = nI k
theorem items_loop {o : Int32} (hq : sq 47 0 = 1) : ∀ (d a t fx fm : Nat) (si : Nat → Nat → Int32) (sl : Nat → Nat → Int64) (mi : Nat → Int32) (ml : Nat → Int64), n - a = d → a ≤ n → t ≤ a → d + 3 ≤ fx → d + 3 ≤ fm → (a < n → T a ≠ 93) → tX si A n T → tM mi C n T → pOk n (si 47 6) si sl mi ml a →
    ∃ si' sl' mi' ml', b_X4_readItems_63 fx (xh x si sq sl A B g) (x + 47) o (nI t) = b_X4_readItems_107 (xh x si' sq sl' A B g) (x + 47) o ∧ b_X11_bracket_97 fm (mh y mi ml C E g2) y o 1 = b_X11_bracket_255 (mh y mi' ml' C E g2) y o ∧ uR si si' ∧ uL sl sl' ∧ uN mi mi' ∧ (pBad si' mi' ∨ ∃ a', a < a' ∧ a' < n ∧ pOk n (si 47 6) si' sl' mi' ml' a') := by
  intro d
  induction d using Nat.strongRecOn with
  | ind d ih =>
    intro a t fx fm si sl mi ml hd ha hta hfx hfm hc hX hM hP
    have h400 := hX.2.1
    obtain ⟨p1, p2, p3, p4, p5, p6, p7⟩ := id hP
    obtain ⟨fx', rfl⟩ : ∃ k, fx = k + 1 + 1 + 1 := ⟨fx - 3, by omega⟩
    obtain ⟨fm', rfl⟩ : ∃ k, fm = k + 1 + 1 + 1 := ⟨fm - 3, by omega⟩
    rw [x63_step hq hX p1 p4 ha hc (by omega)]
    obtain ⟨si1, sl1, e1, u1, v1, w1⟩ := x_item (x := x) (sl := sl) (B := B) (g := g) hq hX p4 ha p1
    obtain ⟨mi1, ml1, mo, e2, u2', w2⟩ := m_round (y := y) (ml := ml) (E := E) (g := g2) (k := fm' + 1 + 1) (o := o) hM p2 p5 ha
    rw [e1, Option.bind_some, e2]
    rcases w1 with ⟨q1, q2, q3⟩ | ⟨q1, q2, q3, q4, q5⟩
    · -- a fault in the item
      rcases w2 with ⟨z1, z2, z3, z4⟩ | ⟨z1, _⟩
      · rw [x63_fault hq (hX.mv u1) (Or.inl q2), z2, m97_fault (by rw [z3]; decide)]
        exact ⟨si1, sl1, mi1, ml1, rfl, rfl, u1, v1, u2', Or.inl ⟨by rw [q2, z3], by rw [q3, z4], 3, by decide, by decide, q2⟩⟩
      · exact absurd q1 z1
    · have hE := itE_gt q1
      rcases w2 with ⟨z1, z2, z3, z4⟩ | ⟨z1, z2, z3, z4, z5, z6⟩
      · -- the tape's end behind the item
        have hEn : itE T n a = n := by
          rcases z1 with z1 | z1
          · exact absurd z1 q1
          · exact z1
        rw [hEn] at q4
        have hX1 := hX.mv u1
        rw [x63_step hq hX1 q2 q4 (Nat.le_refl _) (fun h => absurd h (by omega)) (by omega)]
        obtain ⟨si2, sl2, e3, u3, v3, w3⟩ := x_item (x := x) (sl := sl1) (B := B) (g := g) hq hX1 q4 (Nat.le_refl _) q2
        rw [e3, Option.bind_some]
        have hFn : itF T n n := Or.inl (by unfold tk; split <;> omega)
        rcases w3 with ⟨r1, r2, r3⟩ | ⟨r1, _⟩
        · rw [x63_fault hq (hX1.mv u3) (Or.inl r2), z2, m97_fault (by rw [z3]; decide)]
          exact ⟨si2, sl2, mi1, ml1, rfl, rfl, u1.tr u3, v1.tr v3, u2', Or.inl ⟨by rw [r2, z3], by rw [r3, z4], 3, by decide, by decide, r2⟩⟩
        · exact absurd hFn r1
      · rw [p6, p7] at q5
        obtain ⟨y1, y2⟩ := rg_uniq q5 z6
        have hX1 := hX.mv u1
        have hM1 := hM.mv u2'
        have hP1 : pOk n (si 47 6) si1 sl1 mi1 ml1 (itE T n a) := ⟨q2, z4, q3, q4, z5, y1, y2⟩
        by_cases hcl : T (itE T n a) = 93
        · rw [if_pos hcl] at z3
          rw [x63_close hq hX1 q2 q4 z2 hcl (by omega), z3, m97_close]
          exact ⟨si1, sl1, mi1, ml1, rfl, rfl, u1, v1, u2', Or.inr ⟨itE T n a, hE.1, z2, hP1⟩⟩
        · rw [if_neg hcl] at z3
          rw [z3]
          obtain ⟨si2, sl2, mi2, ml2, f1, f2, f3, f4, f5, f6⟩ := ih (n - itE T n a) (by omega) (itE T n a) (t + 1) (fx' + 1 + 1) (fm' + 1 + 1) si1 sl1 mi1 ml1 rfl (by omega) (by omega) (by omega) (by omega) (fun _ => hcl) hX1 hM1 (by rw [q3]; exact hP1)
          refine ⟨si2, sl2, mi2, ml2, f1, f2, u1.tr f3, v1.tr f4, u2'.tr f5, ?_⟩
          rcases f6 with f6 | ⟨a', g1, g2', g3⟩
          · exact Or.inl f6
          · rw [q3] at g3
            exact Or.inr ⟨a', by omega, g2', g3⟩
theorem all_lo : ∀ j, j < 64 → bitL (-4294966272) j = inR 0 126 j := by decide +kernel
theorem all_hi : ∀ j, j < 64 → bitL 9223372036854775807 j = inR 0 126 (64 + j) := by decide +kernel
theorem bitL_0 {j : Nat} : bitL 0 j = false := by
  unfold bitL
  show (0#64).getLsbD j = false
  simp
theorem rg_all {lo hi : Int64} (h : rg 0 0 0 126 lo hi) : lo = -4294966272 ∧ hi = 9223372036854775807 := by
  constructor
  · apply bitL_ext; intro j hj; rw [(h j hj).1, all_lo j hj, bitL_0, Bool.false_or]
  · apply bitL_ext; intro j hj; rw [(h j hj).2, all_hi j hj, bitL_0, Bool.false_or]
/-- behind the items -/
theorem tail {o : Int32} (ho : o = 0 ∨ o = 1) (si : Nat → Nat → Int32) (sl : Nat → Nat → Int64) (mi : Nat → Int32) (ml : Nat → Int64) : ∃ sl' ml', b_X4_readItems_107 (xh x si sq sl A B g) (x + 47) o = some (xh x (u2 si 47 1 (si 47 1 + 1)) sq sl' A B g) ∧ b_X11_bracket_255 (mh y mi ml C E g2) y o = some (mh y (upd mi 11 (mi 11 + 1)) ml' C E g2) ∧ uL sl sl' ∧ (sl 47 2 = ml 17 → sl 47 3 = ml 18 → sl' 47 2 = ml' 17 ∧ sl' 47 3 = ml' 18) := by
  unfold b_X4_readItems_107 b_X11_bracket_255
  simp only [xg_Re_1, Option.bind_some, xp_Re_1, mg_at, mp_at]
  rcases ho with rfl | rfl
  · simp only [if_true]
    exact ⟨sl, ml, rfl, rfl, uL.rf, fun h1 h2 => ⟨h1, h2⟩⟩
  · obtain ⟨lo, hi, e1, e2⟩ := m_putAll (y := y) (mi := upd mi 11 (mi 11 + 1)) (ml := vp_updL (vp_updL ml 17 0) 18 0) (C := C) (E := E) (g := g2) (f := 0) (s := 126) (by decide) (by decide)
    rw [pk_uLn (show (17 : Nat) ≠ 18 by decide), pk_uLs, pk_uLs] at e2
    obtain ⟨r1, r2⟩ := rg_all e2
    subst r1; subst r2
    unfold b_X4_turnRound_0
    simp only [if_neg (show ¬ (1 : Int32) = 0 by decide), xo_Re, Option.bind_some, xg_Re_2, xp_Re_2, xg_Re_3, xp_Re_3, mg_low, mg_high, mp_low, mp_high, mis, show (0 : Int32) = nI 0 from rfl, show (126 : Int32) = nI 126 from rfl, e1]
    refine ⟨_, _, rfl, rfl, uL.u.tr uL.u, fun h1 h2 => ?_⟩
    simp only [u2_s, u2_n (show (47 : Nat) ≠ 47 ∨ (2 : Nat) ≠ 3 from Or.inr (by decide)), u2_n (show (47 : Nat) ≠ 47 ∨ (3 : Nat) ≠ 2 from Or.inr (by decide)), pk_uLs, pk_uLn (show (17 : Nat) ≠ 18 by decide), pk_uLn (show (18 : Nat) ≠ 17 by decide), h1, h2]
    exact ⟨trivial, trivial⟩
/-- [ .. ]: a is the place behind the [ -/
theorem brackets {a : Nat} (hq : sq 47 0 = 1) {si : Nat → Nat → Int32} {sl : Nat → Nat → Int64} {mi : Nat → Int32} {ml : Nat → Int64} (ha : a ≤ n) (ha0 : 0 < a) (hX : tX si A n T) (hM : tM mi C n T) (p1 : si 47 5 = 0) (p2 : mi 12 = 0) (p4 : si 47 1 = nI a) (p5 : mi 11 = nI (a - 1)) (p6 : sl 47 2 = ml 17) (p7 : sl 47 3 = ml 18) : ∃ si' sl' mi' ml', b_X4_readItems_0 (xh x si sq sl A B g) (x + 47) = some (xh x si' sq sl' A B g) ∧ b_X11_bracket_0 (mh y mi ml C E g2) y = some (mh y mi' ml' C E g2) ∧ uR si si' ∧ uL sl sl' ∧ uN mi mi' ∧ (pBad si' mi' ∨ ∃ a', a < a' ∧ a' ≤ n ∧ pOk n (si 47 6) si' sl' mi' ml' a') := by
  have h400 := hX.2.1
  have hT : ∀ j, j < n → T j < 127 := fun j hj => (hX.2.2 j hj).2
  -- behind the ^
  have body : ∀ (o : Int32) (b : Nat), (o = 0 ∨ o = 1) → a ≤ b → b ≤ n → ∃ si' sl' mi' ml', b_X4_readItems_36 (xh x (u2 si 47 1 (nI b)) sq sl A B g) (x + 47) o = some (xh x si' sq sl' A B g) ∧ (∀ (d : Nat) (w : Nat), w + d = b → b_X11_bracket_55 (mh y (upd mi 11 (nI a)) ml C E g2) y o (nI d) (nI w) y = some (mh y mi' ml' C E g2)) ∧ uR si si' ∧ uL sl sl' ∧ uN mi mi' ∧ (pBad si' mi' ∨ ∃ a', a < a' ∧ a' ≤ n ∧ pOk n (si 47 6) si' sl' mi' ml' a') := by
    intro o b ho hab hb
    have hu1 : uR si (u2 si 47 1 (nI b)) := uR.u (Or.inl rfl)
    have hm1 : uN mi (upd mi 11 (nI b)) := uN.u (Or.inl rfl)
    have hX1 := hX.mv hu1
    have hM1 := hM.mv hm1
    have h5 : u2 si 47 1 (nI b) 47 5 = 0 := by rw [u2_n (Or.inr (by decide))]; exact p1
    have h6 : u2 si 47 1 (nI b) 47 6 = si 47 6 := by rw [u2_n (Or.inr (by decide))]
    have h12 : upd mi 11 (nI b) 12 = 0 := by rw [pk_un (by decide)]; exact p2
    have hb1 : upd mi 11 (nI b) 1 = nI n := hM1.1
    by_cases hcl : b < n ∧ T b = 93
    · -- no items
      obtain ⟨sl', ml', t1, t2, t3, t4⟩ := tail (x := x) (sq := sq) (A := A) (B := B) (g := g) (y := y) (C := C) (E := E) (g2 := g2) ho (u2 (u2 (u2 si 47 1 (nI b)) 47 5 2) 47 6 (nI b)) sl mi ml
      refine ⟨u2 (u2 (u2 (u2 si 47 1 (nI b)) 47 5 2) 47 6 (nI b)) 47 1 (u2 (u2 (u2 si 47 1 (nI b)) 47 5 2) 47 6 (nI b) 47 1 + 1), sl', upd (upd (upd mi 11 (nI b)) 12 2) 13 (nI b), ml, ?_, ?_, ?_, t3, ?_, Or.inl ⟨?_, ?_, ?_⟩⟩
      · unfold b_X4_readItems_36
        simp only [xg_Re_0, Option.bind_some, xg_Re_1, u2_s, x_ris hq, x_rget hq hX1 (show b < 2 ^ 31 by omega), zbp_some, if_pos (show gt T n b = (93 : Int32) from (gt_eq (c := 93) hT (by decide)).mpr hcl), xo_Re, x_fail h5]
        unfold b_X4_readItems_61
        show b_X4_readItems_63 (999999 + 1) _ _ _ _ = _
        rw [x63_fault hq (hX1.mv ((uR.u (Or.inr (Or.inl rfl))).tr (uR.u (Or.inr (Or.inr rfl))))) (Or.inr (by rw [u2_n (Or.inr (by decide)), u2_s]))]
        exact t1
      · intro d w hdw
        unfold b_X11_bracket_55
        simp only [nI_add, hdw, mp_at, upd_upd, Option.bind_some, mg_at, mg_tapeSize, pk_us, hb1, if_neg (nI_ge hcl.1 (show n < 2 ^ 31 by omega)), mr_tape, ml_tape (show b < 400 by omega), (hM.2.2 b hcl.1).1, if_pos (show nI (T b) = (93 : Int32) by rw [hcl.2]; rfl), mis, m_blame, zbp_some]
      · exact ((hu1.tr (uR.u (Or.inr (Or.inl rfl)))).tr (uR.u (Or.inr (Or.inr rfl)))).tr (uR.u (Or.inl rfl))
      · exact (hm1.tr (uN.u (Or.inr (Or.inl rfl)))).tr (uN.u (Or.inr (Or.inr rfl)))
      · rw [u2_n (Or.inr (by decide)), u2_n (Or.inr (by decide)), u2_s, pk_un (by decide), pk_us]
      · rw [u2_n (Or.inr (by decide)), u2_s, pk_us]
      · exact ⟨2, by decide, by decide, by rw [u2_n (Or.inr (by decide)), u2_n (Or.inr (by decide)), u2_s]; rfl⟩
    · obtain ⟨si1, sl1, mi1, ml1, f1, f2, f3, f4, f5, f6⟩ := items_loop (x := x) (A := A) (B := B) (g := g) (y := y) (C := C) (E := E) (g2 := g2) (T := T) (o := o) hq (n - b) b 0 zFuel zFuel (u2 si 47 1 (nI b)) sl (upd mi 11 (nI b)) ml rfl hb (by omega) (zF_lt (by omega)) (zF_lt (by omega)) (fun h1 h2 => hcl ⟨h1, h2⟩) hX1 hM1 ⟨h5, h12, rfl, u2_s, pk_us, p6, p7⟩
      obtain ⟨sl2, ml2, t1, t2, t3, t4⟩ := tail (x := x) (sq := sq) (A := A) (B := B) (g := g) (y := y) (C := C) (E := E) (g2 := g2) ho si1 sl1 mi1 ml1
      refine ⟨u2 si1 47 1 (si1 47 1 + 1), sl2, upd mi1 11 (mi1 11 + 1), ml2, ?_, ?_, (hu1.tr f3).tr (uR.u (Or.inl rfl)), f4.tr t3, (hm1.tr f5).tr (uN.u (Or.inl rfl)), ?_⟩
      · unfold b_X4_readItems_36
        simp only [xg_Re_0, Option.bind_some, xg_Re_1, u2_s, x_ris hq, x_rget hq hX1 (show b < 2 ^ 31 by omega), zbp_some, if_neg (show ¬ gt T n b = (93 : Int32) from fun q => hcl ((gt_eq (c := 93) hT (by decide)).mp q))]
        unfold b_X4_readItems_61
        rw [show (0 : Int32) = nI 0 from rfl, f1, t1]
      · intro d w hdw
        unfold b_X11_bracket_55
        simp only [nI_add, hdw, mp_at, upd_upd, Option.bind_some, mg_at, mg_tapeSize, pk_us, hb1]
        have e95 : b_X11_bracket_95 (mh y (upd mi 11 (nI b)) ml C E g2) y o = some (mh y (upd mi1 11 (mi1 11 + 1)) ml2 C E g2) := by
          unfold b_X11_bracket_95
          rw [f2, t2]
        by_cases hbn : b < n
        · simp only [if_neg (nI_ge hbn (show n < 2 ^ 31 by omega)), mr_tape, Option.bind_some, ml_tape (show b < 400 by omega), (hM.2.2 b hbn).1, if_neg (show ¬ nI (T b) = (93 : Int32) from fun q => hcl ⟨hbn, (nI_eq (b := 93) (by have := hT b hbn; omega) (by decide)).mp q⟩)]
          exact e95
        · rw [if_pos (nI_le (by omega) (by omega))]
          exact e95
      · rcases f6 with ⟨r1, r2, r3⟩ | ⟨a', r1, r2, r3, r4, r5, r6, r7, r8, r9⟩
        · refine Or.inl ⟨?_, ?_, ?_⟩
          · rw [u2_n (Or.inr (by decide)), pk_un (by decide)]; exact r1
          · rw [u2_n (Or.inr (by decide)), pk_un (by decide)]; exact r2
          · rw [u2_n (Or.inr (by decide))]; exact r3
        · obtain ⟨w1, w2⟩ := t4 r8 r9
          refine Or.inr ⟨a' + 1, by omega, by omega, ?_, ?_, ?_, ?_, ?_, w1, w2⟩
          · rw [u2_n (Or.inr (by decide))]; exact r3
          · rw [pk_un (by decide)]; exact r4
          · rw [u2_n (Or.inr (by decide)), r5, h6]
          · rw [u2_s, r6, nI_1]
          · rw [pk_us, r7, nI_1]
  have em : b_X11_bracket_0 (mh y mi ml C E g2) y = if a < n ∧ T a = 94 then b_X11_bracket_40 (mh y (upd mi 11 (nI a)) ml C E g2) y 1 else b_X11_bracket_40 (mh y (upd mi 11 (nI a)) ml C E g2) y 0 := by
    have hb1 : upd mi 11 (nI a) 1 = nI n := by rw [pk_un (by decide)]; exact hM.1
    unfold b_X11_bracket_0
    simp only [mg_at, Option.bind_some, p5, nI_1, show a - 1 + 1 = a by omega, mp_at, pk_us, mg_tapeSize, hb1]
    by_cases han : a < n
    · simp only [if_neg (nI_ge han (show n < 2 ^ 31 by omega)), mr_tape, Option.bind_some, ml_tape (show a < 400 by omega), (hM.2.2 a han).1]
      by_cases hc : T a = 94
      · rw [if_pos (show nI (T a) = (94 : Int32) by rw [hc]; rfl), if_pos ⟨han, hc⟩]
      · rw [if_neg (show ¬ nI (T a) = (94 : Int32) from fun q => hc ((nI_eq (b := 94) (by have := hT a han; omega) (by decide)).mp q)), if_neg (fun q => hc q.2)]
        rfl
    · rw [if_pos (nI_le (by omega) (by omega)), if_neg (fun q => han q.1)]
      rfl
  unfold b_X4_readItems_0
  simp only [xg_Re_0, Option.bind_some, xg_Re_1, p4, x_ris hq, x_rget hq hX (show a < 2 ^ 31 by omega), zbp_some]
  rw [em]
  by_cases hc : a < n ∧ T a = 94
  · rw [if_pos (show gt T n a = (94 : Int32) from (gt_eq (c := 94) hT (by decide)).mpr hc), if_pos hc]
    obtain ⟨si', sl', mi', ml', e1, e2, e3⟩ := body 1 (a + 1) (Or.inr rfl) (by omega) (by omega)
    refine ⟨si', sl', mi', ml', ?_, ?_, e3⟩
    · unfold b_X4_readItems_21
      simp only [if_neg (show ¬ (1 : Int32) = 0 by decide), xg_Re_1, Option.bind_some, p4, nI_1, xp_Re_1]
      exact e1
    · unfold b_X11_bracket_40
      simp only [mg_at, Option.bind_some, pk_us, if_neg (show ¬ (1 : Int32) = 0 by decide)]
      exact e2 1 a rfl
  · rw [if_neg (show ¬ gt T n a = (94 : Int32) from fun q => hc ((gt_eq (c := 94) hT (by decide)).mp q)), if_neg hc]
    obtain ⟨si', sl', mi', ml', e1, e2, e3⟩ := body 0 a (Or.inl rfl) (Nat.le_refl _) ha
    refine ⟨si', sl', mi', ml', ?_, ?_, e3⟩
    · unfold b_X4_readItems_21
      rw [if_pos rfl]
      rw [u2_self p4] at e1
      exact e1
    · unfold b_X11_bracket_40
      simp only [mg_at, Option.bind_some, pk_us, if_true]
      exact e2 0 a rfl
end BR
