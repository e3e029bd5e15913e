/-! THE READER: an item, and the items between brackets -/
abbrev isRng (T : Nat → Nat) (n a : Nat) : Prop := (a < n ∧ T a = 45) ∧ ¬ (a + 1 < n ∧ T (a + 1) = 93)
def itF (T : Nat → Nat) (n a : Nat) : Prop := n ≤ tk T n a ∨ (isRng T n (tk T n a + 1) ∧ n ≤ tk T n (tk T n a + 1 + 1))
def itE (T : Nat → Nat) (n a : Nat) : Nat := if isRng T n (tk T n a + 1) then tk T n (tk T n a + 1 + 1) + 1 else tk T n a + 1
def it2 (T : Nat → Nat) (n a : Nat) : Nat := if isRng T n (tk T n a + 1) then T (tk T n (tk T n a + 1 + 1)) else T (tk T n a)
def uL (sl sl' : Nat → Nat → Int64) : Prop := ∀ k j, k ≠ 47 → sl' k j = sl k j
theorem uL.rf {sl : Nat → Nat → Int64} : uL sl sl := fun _ _ _ => rfl
theorem uL.tr {a b c : Nat → Nat → Int64} (h1 : uL a b) (h2 : uL b c) : uL a c := fun k j h => (h2 k j h).trans (h1 k j h)
theorem uL.u {sl : Nat → Nat → Int64} {j : Nat} {v : Int64} : uL sl (u2 sl 47 j v) := fun k i hk => u2_n (Or.inl hk)
theorem itE_gt {T : Nat → Nat} {n a : Nat} (h : ¬ itF T n a) : a < itE T n a ∧ itE T n a ≤ n ∧ tk T n a < n := by
  have h1 := tk_ge (T := T) (n := n) (a := a)
  have h2 := tk_ge (T := T) (n := n) (a := tk T n a + 1 + 1)
  unfold itF at h
  unfold itE
  by_cases hr : isRng T n (tk T n a + 1)
  · rw [if_pos hr]
    have h3 : ¬ n ≤ tk T n (tk T n a + 1 + 1) := fun q => h (Or.inr ⟨hr, q⟩)
    omega
  · rw [if_neg hr]
    omega
section IT
variable {x : Nat} {si : Nat → Nat → Int32} {sq : Nat → Nat → Nat} {sl : Nat → Nat → Int64} {A : Nat → Nat → Int32} {B : Nat → Nat → Int64} {g g2 : zh_H}
variable {y : Nat} {mi : Nat → Int32} {ml : Nat → Int64} {C : Nat → Nat → Int32} {E : Nat → Nat → Int64} {n : Nat} {T : Nat → Nat}
theorem x_item56 {f s : Nat} (hf : f < 127) (hs : s < 127) : ∃ sl', b_X4_readItem_56 (xh x si sq sl A B g) (x + 47) (nI f) (nI s) = some (xh x si sq sl' A B g) ∧ uL sl sl' ∧ rg (sl 47 2) (sl 47 3) f s (sl' 47 2) (sl' 47 3) := by
  obtain ⟨lo, hi, e1, e2⟩ := x_addRange (x := x) (si := si) (sq := sq) (sl := sl) (A := A) (B := B) (g := g) hf hs
  unfold b_X4_readItem_56
  rw [xo_Re, Option.bind_some, e1, Option.bind_some]
  refine ⟨_, rfl, uL.u.tr uL.u, ?_⟩
  rw [u2_n (Or.inr (by decide)), u2_s, u2_s]
  exact e2
theorem x_item {a : Nat} (hq : sq 47 0 = 1) (h : tX si A n T) (ha : si 47 1 = nI a) (ha2 : a ≤ n) (h0 : si 47 5 = 0) : ∃ si' sl', b_X4_readItem_0 (xh x si sq sl A B g) (x + 47) = some (xh x si' sq sl' A B g) ∧ uR si si' ∧ uL sl sl' ∧ ((itF T n a ∧ si' 47 5 = 3 ∧ si' 47 6 = nI n) ∨ (¬ itF T n a ∧ si' 47 5 = 0 ∧ si' 47 6 = si 47 6 ∧ si' 47 1 = nI (itE T n a) ∧ rg (sl 47 2) (sl 47 3) (T (tk T n a)) (it2 T n a) (sl' 47 2) (sl' 47 3))) := by
  have h400 := h.2.1
  have hT : ∀ j, j < n → T j < 127 := fun j hj => (h.2.2 j hj).2
  have hge := tk_ge (T := T) (n := n) (a := a)
  unfold b_X4_readItem_0
  by_cases hF : n ≤ tk T n a
  · obtain ⟨v, hv1, hv2, e1⟩ := x_take_f (x := x) (sl := sl) (B := B) (g := g) hq h ha hF ha2 h0
    have hu : uR si (u2 (u2 (u2 si 47 5 3) 47 6 (nI n)) 47 1 (nI v)) := ((uR.u (Or.inr (Or.inl rfl))).tr (uR.u (Or.inr (Or.inr rfl)))).tr (uR.u (Or.inl rfl))
    have hg1 : ¬ gt T n v = (45 : Int32) := fun q => by have := ((gt_eq (c := 45) hT (by decide)).mp q).1; omega
    simp only [xo_Re, Option.bind_some, e1, zbp_some, xg_Re_0, xg_Re_1, u2_s, x_ris hq, x_rget hq (h.mv hu) (show v < 2 ^ 31 by omega), if_neg hg1]
    unfold b_X4_readItem_56
    rw [xo_Re, Option.bind_some, x_addRange_no, Option.bind_some]
    refine ⟨_, sl, rfl, hu, uL.rf, Or.inl ⟨Or.inl hF, ?_, ?_⟩⟩
    · rw [u2_n (Or.inr (by decide)), u2_n (Or.inr (by decide)), u2_s]
    · rw [u2_n (Or.inr (by decide)), u2_s]
  · have htk : tk T n a < n := by omega
    have e1 := x_take_t (x := x) (sl := sl) (B := B) (g := g) hq h ha htk
    have hu : uR si (u2 si 47 1 (nI (tk T n a + 1))) := uR.u (Or.inl rfl)
    have hb1 := hT _ htk
    simp only [xo_Re, Option.bind_some, e1, zbp_some, xg_Re_0, xg_Re_1, u2_s, x_ris hq, x_rget hq (h.mv hu) (show tk T n a + 1 < 2 ^ 31 by omega), nI_1, x_rget hq (h.mv hu) (show tk T n a + 1 + 1 < 2 ^ 31 by omega)]
    have single : ¬ isRng T n (tk T n a + 1) → ∃ si' sl', b_X4_readItem_56 (xh x (u2 si 47 1 (nI (tk T n a + 1))) sq sl A B g) (x + 47) (nI (T (tk T n a))) (nI (T (tk T n a))) = some (xh x si' sq sl' A B g) ∧ uR si si' ∧ uL sl sl' ∧ ((itF T n a ∧ si' 47 5 = 3 ∧ si' 47 6 = nI n) ∨ (¬ itF T n a ∧ si' 47 5 = 0 ∧ si' 47 6 = si 47 6 ∧ si' 47 1 = nI (itE T n a) ∧ rg (sl 47 2) (sl 47 3) (T (tk T n a)) (it2 T n a) (sl' 47 2) (sl' 47 3))) := by
      intro hr
      obtain ⟨sl', e2, e3, e4⟩ := x_item56 (x := x) (si := u2 si 47 1 (nI (tk T n a + 1))) (sq := sq) (sl := sl) (A := A) (B := B) (g := g) hb1 hb1
      refine ⟨_, sl', e2, hu, e3, Or.inr ⟨fun q => ?_, ?_, ?_, ?_, ?_⟩⟩
      · rcases q with q | q
        · exact hF q
        · exact hr q.1
      · rw [u2_n (Or.inr (by decide))]; exact h0
      · rw [u2_n (Or.inr (by decide))]
      · unfold itE; rw [if_neg hr, u2_s]
      · unfold it2; rw [if_neg hr]; exact e4
    by_cases c1 : tk T n a + 1 < n ∧ T (tk T n a + 1) = 45
    · rw [if_pos (show gt T n (tk T n a + 1) = (45 : Int32) from (gt_eq (c := 45) hT (by decide)).mpr c1)]
      by_cases c2 : tk T n a + 1 + 1 < n ∧ T (tk T n a + 1 + 1) = 93
      · rw [if_pos (show gt T n (tk T n a + 1 + 1) = (93 : Int32) from (gt_eq (c := 93) hT (by decide)).mpr c2)]
        exact single (fun q => q.2 c2)
      · rw [if_neg (show ¬ gt T n (tk T n a + 1 + 1) = (93 : Int32) from fun q => c2 ((gt_eq (c := 93) hT (by decide)).mp q))]
        have hr : isRng T n (tk T n a + 1) := ⟨c1, c2⟩
        simp only [xp_Re_1, u2_u2, Option.bind_some, xo_Re]
        have hu2 : uR si (u2 si 47 1 (nI (tk T n a + 1 + 1))) := uR.u (Or.inl rfl)
        by_cases hF2 : n ≤ tk T n (tk T n a + 1 + 1)
        · obtain ⟨v, hv1, hv2, e5⟩ := x_take_f (x := x) (si := u2 si 47 1 (nI (tk T n a + 1 + 1))) (sl := sl) (B := B) (g := g) hq (h.mv hu2) u2_s hF2 (by omega) (by rw [u2_n (Or.inr (by decide))]; exact h0)
          rw [e5, zbp_some]
          unfold b_X4_readItem_56
          rw [xo_Re, Option.bind_some, x_addRange_no, Option.bind_some]
          refine ⟨_, sl, rfl, hu2.tr (((uR.u (Or.inr (Or.inl rfl))).tr (uR.u (Or.inr (Or.inr rfl)))).tr (uR.u (Or.inl rfl))), uL.rf, Or.inl ⟨Or.inr ⟨hr, hF2⟩, ?_, ?_⟩⟩
          · rw [u2_n (Or.inr (by decide)), u2_n (Or.inr (by decide)), u2_s]
          · rw [u2_n (Or.inr (by decide)), u2_s]
        · have htk2 : tk T n (tk T n a + 1 + 1) < n := by omega
          have e5 := x_take_t (x := x) (si := u2 si 47 1 (nI (tk T n a + 1 + 1))) (sl := sl) (B := B) (g := g) hq (h.mv hu2) u2_s htk2
          rw [e5, zbp_some, u2_u2]
          obtain ⟨sl', e2, e3, e4⟩ := x_item56 (x := x) (si := u2 si 47 1 (nI (tk T n (tk T n a + 1 + 1) + 1))) (sq := sq) (sl := sl) (A := A) (B := B) (g := g) hb1 (hT _ htk2)
          refine ⟨_, sl', e2, uR.u (Or.inl rfl), e3, Or.inr ⟨fun q => ?_, ?_, ?_, ?_, ?_⟩⟩
          · rcases q with q | q
            · exact hF q
            · exact hF2 q.2
          · rw [u2_n (Or.inr (by decide))]; exact h0
          · rw [u2_n (Or.inr (by decide))]
          · unfold itE; rw [if_pos hr, u2_s]
          · unfold it2; rw [if_pos hr]; exact e4
    · rw [if_neg (show ¬ gt T n (tk T n a + 1) = (45 : Int32) from fun q => c1 ((gt_eq (c := 45) hT (by decide)).mp q))]
      exact single (fun q => c1 q.1)
/-- the reference's loop: behind an item -/
theorem m_b193 {k97 : zh_H → Nat → Int32 → Int32 → Option zh_H} {o mo : Int32} {a f s : Nat} (h : tM mi C n T) (h0 : mi 12 = 0) (ha : mi 11 = nI a) (ha2 : a ≤ n) (hf : f < 127) (hs : s < 127) : ∃ mi' ml', b_X11_bracket_193 k97 (mh y mi ml C E g) y o mo (nI f) (nI s) = k97 (mh y mi' ml' C E g) y o (if a < n then (if T a = 93 then 0 else 1) else mo) ∧ uN mi mi' ∧ rg (ml 17) (ml 18) f s (ml' 17) (ml' 18) ∧ ((a < n ∧ mi' = mi) ∨ (n ≤ a ∧ mi' 12 = 3 ∧ mi' 13 = nI n)) := by
  have h400 := h.2.1
  obtain ⟨lo, hi, e1, e2⟩ := m_putAll (y := y) (mi := mi) (ml := ml) (C := C) (E := E) (g := g) (f := f) (s := s) (by omega) (by omega)
  have e2' : rg (ml 17) (ml 18) f s (vp_updL (vp_updL ml 17 lo) 18 hi 17) (vp_updL (vp_updL ml 17 lo) 18 hi 18) := by
    rw [pk_uLn (by decide), pk_uLs, pk_uLs]; exact e2
  unfold b_X11_bracket_193
  simp only [mg_fault, Option.bind_some, h0, if_true, mis, e1, mg_at, mg_tapeSize, ha, h.1]
  by_cases han : a < n
  · rw [if_pos (nI_lt han (by omega)), if_pos han]
    simp only [mr_tape, Option.bind_some, ml_tape (show a < 400 by omega), (h.2.2 a han).1]
    refine ⟨mi, _, ?_, uN.rf, e2', Or.inl ⟨han, rfl⟩⟩
    by_cases hc : T a = 93
    · rw [if_pos (show nI (T a) = (93 : Int32) by rw [hc]; rfl), if_pos hc]
      rfl
    · rw [if_neg (show ¬ nI (T a) = (93 : Int32) from fun q => hc ((nI_eq (b := 93) (by have := (h.2.2 a han).2; omega) (by decide)).mp q)), if_neg hc]
      rfl
  · rw [if_neg (nI_nlt (by omega) (by omega)), if_neg han]
    simp only [m_blame, zbp_some]
    exact ⟨_, _, rfl, (uN.u (Or.inr (Or.inl rfl))).tr (uN.u (Or.inr (Or.inr rfl))), e2', Or.inr ⟨by omega, by rw [pk_un (by decide), pk_us], pk_us⟩⟩
theorem m_b193_f {k97 : zh_H → Nat → Int32 → Int32 → Option zh_H} {o mo f s : Int32} (h0 : mi 12 = 3) : b_X11_bracket_193 k97 (mh y mi ml C E g) y o mo f s = k97 (mh y mi ml C E g) y o mo := by
  unfold b_X11_bracket_193
  simp only [mg_fault, Option.bind_some, h0, if_neg (show ¬ (3 : Int32) = 0 by decide)]
  rfl
theorem m_round {k : Nat} {o : Int32} {a : Nat} (h : tM mi C n T) (h0 : mi 12 = 0) (ha : mi 11 = nI a) (ha2 : a ≤ n) : ∃ mi' ml' mo, b_X11_bracket_97 (k + 1) (mh y mi ml C E g) y o 1 = b_X11_bracket_97 k (mh y mi' ml' C E g) y o mo ∧ uN mi mi' ∧ (((itF T n a ∨ itE T n a = n) ∧ mo = 1 ∧ mi' 12 = 3 ∧ mi' 13 = nI n) ∨ (¬ itF T n a ∧ itE T n a < n ∧ mo = (if T (itE T n a) = 93 then 0 else 1) ∧ mi' 12 = 0 ∧ mi' 11 = nI (itE T n a) ∧ rg (ml 17) (ml 18) (T (tk T n a)) (it2 T n a) (ml' 17) (ml' 18))) := by
  have h400 := h.2.1
  have hT : ∀ j, j < n → T j < 127 := fun j hj => (h.2.2 j hj).2
  have hge := tk_ge (T := T) (n := n) (a := a)
  rw [b_X11_bracket_97]
  simp only [if_neg (show ¬ (1 : Int32) = 0 by decide), mg_fault, Option.bind_some, h0, if_true, mis]
  by_cases hF : n ≤ tk T n a
  · obtain ⟨mi', e1, e2, e3, e4⟩ := m_item_f (y := y) (ml := ml) (E := E) (g := g) h ha ha2 hF
    simp only [e1, zbp_some, mg_fault, Option.bind_some, e3, if_neg (show ¬ (3 : Int32) = 0 by decide)]
    rw [m_b193_f e3]
    exact ⟨mi', ml, 1, rfl, e2, Or.inl ⟨Or.inl (Or.inl hF), rfl, e3, e4⟩⟩
  · have htk : tk T n a < n := by omega
    have hb1 := hT _ htk
    have e1 := m_item_t (y := y) (ml := ml) (E := E) (g := g) h ha ha2 htk
    have hu : uN mi (upd mi 11 (nI (tk T n a + 1))) := uN.u (Or.inl rfl)
    have h12 : upd mi 11 (nI (tk T n a + 1)) 12 = 0 := by rw [pk_un (by decide)]; exact h0
    have h1 : upd mi 11 (nI (tk T n a + 1)) 1 = nI n := by rw [pk_un (by decide)]; exact h.1
    simp only [e1, zbp_some, mg_fault, Option.bind_some, h12, if_true, mg_at, mg_tapeSize, pk_us, h1]
    -- one byte alone
    have single : ¬ isRng T n (tk T n a + 1) → ∃ mi' ml' mo, b_X11_bracket_193 (b_X11_bracket_97 k) (mh y (upd mi 11 (nI (tk T n a + 1))) ml C E g) y o 1 (nI (T (tk T n a))) (nI (T (tk T n a))) = b_X11_bracket_97 k (mh y mi' ml' C E g) y o mo ∧ uN mi mi' ∧ (((itF T n a ∨ itE T n a = n) ∧ mo = 1 ∧ mi' 12 = 3 ∧ mi' 13 = nI n) ∨ (¬ itF T n a ∧ itE T n a < n ∧ mo = (if T (itE T n a) = 93 then 0 else 1) ∧ mi' 12 = 0 ∧ mi' 11 = nI (itE T n a) ∧ rg (ml 17) (ml 18) (T (tk T n a)) (it2 T n a) (ml' 17) (ml' 18))) := by
      intro hr
      have eE : itE T n a = tk T n a + 1 := if_neg hr
      have e2t : it2 T n a = T (tk T n a) := if_neg hr
      have hnF : ¬ itF T n a := fun q => by
        rcases q with q | q
        · exact hF q
        · exact hr q.1
      obtain ⟨mi', ml', q1, q2, q3, q4⟩ := m_b193 (y := y) (ml := ml) (E := E) (g := g) (k97 := b_X11_bracket_97 k) (o := o) (mo := 1) (h.mv hu) h12 pk_us (show tk T n a + 1 ≤ n by omega) hb1 hb1
      refine ⟨mi', ml', _, q1, hu.tr q2, ?_⟩
      rw [eE, e2t]
      rcases q4 with ⟨z1, z2⟩ | ⟨z1, z2, z3⟩
      · exact Or.inr ⟨hnF, z1, if_pos z1, by rw [z2]; exact h12, by rw [z2, pk_us], q3⟩
      · exact Or.inl ⟨Or.inr (by omega), by rw [if_neg (by omega)], z2, z3⟩
    by_cases c0 : tk T n a + 1 < n
    · rw [if_neg (nI_ge c0 (by omega))]
      simp only [mr_tape, Option.bind_some, ml_tape (show tk T n a + 1 < 400 by omega), (h.2.2 _ c0).1]
      by_cases c1 : T (tk T n a + 1) = 45
      · rw [if_pos (show nI (T (tk T n a + 1)) = (45 : Int32) by rw [c1]; rfl), nI_1]
        have double : ¬ (tk T n a + 1 + 1 < n ∧ T (tk T n a + 1 + 1) = 93) → ∃ mi' ml' mo, b_X11_bracket_177 (b_X11_bracket_97 k) (mh y (upd mi 11 (nI (tk T n a + 1))) ml C E g) y o 1 (nI (T (tk T n a))) = b_X11_bracket_97 k (mh y mi' ml' C E g) y o mo ∧ uN mi mi' ∧ (((itF T n a ∨ itE T n a = n) ∧ mo = 1 ∧ mi' 12 = 3 ∧ mi' 13 = nI n) ∨ (¬ itF T n a ∧ itE T n a < n ∧ mo = (if T (itE T n a) = 93 then 0 else 1) ∧ mi' 12 = 0 ∧ mi' 11 = nI (itE T n a) ∧ rg (ml 17) (ml 18) (T (tk T n a)) (it2 T n a) (ml' 17) (ml' 18))) := by
          intro c2
          have hr : isRng T n (tk T n a + 1) := ⟨⟨c0, c1⟩, c2⟩
          unfold b_X11_bracket_177
          simp only [mg_at, Option.bind_some, pk_us, nI_1, mp_at, upd_upd, mis]
          have hu2 : uN mi (upd mi 11 (nI (tk T n a + 1 + 1))) := uN.u (Or.inl rfl)
          by_cases hF2 : n ≤ tk T n (tk T n a + 1 + 1)
          · obtain ⟨mi', e1, e2, e3, e4⟩ := m_item_f (y := y) (ml := ml) (E := E) (g := g) (h.mv hu2) pk_us (by omega) hF2
            rw [e1, zbp_some, m_b193_f e3]
            exact ⟨mi', ml, 1, rfl, hu2.tr e2, Or.inl ⟨Or.inl (Or.inr ⟨hr, hF2⟩), rfl, e3, e4⟩⟩
          · have htk2 : tk T n (tk T n a + 1 + 1) < n := by omega
            have eE : itE T n a = tk T n (tk T n a + 1 + 1) + 1 := if_pos hr
            have e2t : it2 T n a = T (tk T n (tk T n a + 1 + 1)) := if_pos hr
            have hnF : ¬ itF T n a := fun q => by
              rcases q with q | q
              · exact hF q
              · exact hF2 q.2
            rw [m_item_t (h.mv hu2) pk_us (by omega) htk2, zbp_some, upd_upd]
            have hu3 : uN mi (upd mi 11 (nI (tk T n (tk T n a + 1 + 1) + 1))) := uN.u (Or.inl rfl)
            have h123 : upd mi 11 (nI (tk T n (tk T n a + 1 + 1) + 1)) 12 = 0 := by rw [pk_un (by decide)]; exact h0
            obtain ⟨mi', ml', q1, q2, q3, q4⟩ := m_b193 (y := y) (ml := ml) (E := E) (g := g) (k97 := b_X11_bracket_97 k) (o := o) (mo := 1) (h.mv hu3) h123 pk_us (show tk T n (tk T n a + 1 + 1) + 1 ≤ n by omega) hb1 (hT _ htk2)
            refine ⟨mi', ml', _, q1, hu3.tr q2, ?_⟩
            rw [eE, e2t]
            rcases q4 with ⟨z1, z2⟩ | ⟨z1, z2, z3⟩
            · exact Or.inr ⟨hnF, z1, if_pos z1, by rw [z2]; exact h123, by rw [z2, pk_us], q3⟩
            · exact Or.inl ⟨Or.inr (by omega), by rw [if_neg (by omega)], z2, z3⟩
        by_cases c2 : tk T n a + 1 + 1 < n
        · rw [if_neg (nI_ge c2 (by omega))]
          simp only [ml_tape (show tk T n a + 1 + 1 < 400 by omega), Option.bind_some, (h.2.2 _ c2).1]
          by_cases c3 : T (tk T n a + 1 + 1) = 93
          · rw [if_pos (show nI (T (tk T n a + 1 + 1)) = (93 : Int32) by rw [c3]; rfl)]
            exact single (fun q => q.2 ⟨c2, c3⟩)
          · rw [if_neg (show ¬ nI (T (tk T n a + 1 + 1)) = (93 : Int32) from fun q => c3 ((nI_eq (b := 93) (by have := hT _ c2; omega) (by decide)).mp q))]
            exact double (fun q => c3 q.2)
        · rw [if_pos (nI_le (by omega) (by omega))]
          exact double (fun q => c2 q.1)
      · rw [if_neg (show ¬ nI (T (tk T n a + 1)) = (45 : Int32) from fun q => c1 ((nI_eq (b := 45) (by have := hT _ c0; omega) (by decide)).mp q))]
        exact single (fun q => c1 q.1.2)
    · rw [if_pos (nI_le (by omega) (by omega))]
      exact single (fun q => c0 q.1.1)
end IT
