section CU
variable {x : Nat} {si : Nat → Nat → Int32} {sq : Nat → Nat → Nat} {sl : Nat → Nat → Int64} {A : Nat → Nat → Int32} {B : Nat → Nat → Int64} {g g2 : zh_H}
variable {y : Nat} {mi : Nat → Int32} {ml : Nat → Int64} {C : Nat → Nat → Int32} {E : Nat → Nat → Int64}
theorem x_cut_bad {n : Nat} {a b : Int32} (hn : si 3 1 = nI n) (h : ¬ okP a b n) : b_X10_cut_0 (xh x si sq sl A B g) x a b = some (-2, xh x si sq sl A B g) := by
  unfold b_X10_cut_0
  simp only [xg_EF_1, Option.bind_some, xr_is r31.1, x_isPart_f r31.1 hn h, zbp_some, if_true]
theorem x_cut_ok {n a b w c : Nat} (hn : si 3 1 = nI n) (hn2 : n ≤ 1500) (hab : a ≤ b) (hb : b ≤ n) (hw : si 7 1 = nI w) (hw2 : w < 5) (hc : si 7 2 = nI c) (hc2 : c ≤ 5) : ∃ w', w' = (w + 1) % 5 ∧ b_X10_cut_0 (xh x si sq sl A B g) x (nI a) (nI b) = some (nI (n - (b - a)), xh x (u2 (u2 (u2 (u2 si 7 1 (nI w')) (9 + 2 * w') 1 (nI n)) 7 2 (nI (min (c + 1) 5))) 3 1 (nI (n - (b - a)))) sq sl (ua (ua A (10 + 2 * w') (va_cpy (A 4) (A (10 + 2 * w')) 0 0 n)) 4 (va_cpy (A 4) (A 4) b a (n - b))) B g) := by
  obtain ⟨w', hw', hk⟩ := x_keep (x := x) (sq := sq) (sl := sl) (A := A) (B := B) (g := g) hn hn2 hw hw2 hc hc2
  refine ⟨w', hw', ?_⟩
  have hw5 : w' < 5 := by omega
  have e3 : u2 (u2 (u2 si 7 1 (nI w')) (9 + 2 * w') 1 (nI n)) 7 2 (nI (min (c + 1) 5)) 3 1 = nI n := by
    rw [u2_n (Or.inl (by decide)), u2_n (Or.inl (by omega)), u2_n (Or.inl (by decide))]; exact hn
  have ep := x_takeOut (x := x) (sq := sq) (sl := sl) (A := ua A (10 + 2 * w') (va_cpy (A 4) (A (10 + 2 * w')) 0 0 n)) (B := B) (g := g) r31.1 e3 hn2 hab hb
  rw [ua_n (k := 10 + 2 * w') (j := 3 + 1) (by omega)] at ep
  unfold b_X10_cut_0
  simp only [xg_EF_1, xg_EF_3, Option.bind_some, xr_is r31.1, x_isPart_t r31.1 hn (okP_of hab hb (show n < 2 ^ 31 by omega)), zbp_some, if_neg (show ¬ (1 : Int32) = 0 by decide), xo_Hi, hk, ep, xr_g r31.1, u2_s]
theorem op_cut (a b : Int32) (hT : rTape si A mi C) (hX : rText si A mi C) (hH : rHist si A mi C) : ∃ r si' A' mi' C', b_X10_cut_0 (xh x si sq sl A B g) x a b = some (r, xh x si' sq sl A' B g) ∧ b_X11_cut_0 (mh y mi ml C E g2) y a b = some (r, mh y mi' ml C' E g2) ∧ rTape si' A' mi' C' ∧ rText si' A' mi' C' ∧ rHist si' A' mi' C' ∧ uS si si' ∧ uA A A' ∧ uM mi mi' ∧ uC C C' := by
  obtain ⟨t, ht, t1, t2, t3⟩ := id hT
  obtain ⟨n, hn, n1, n2, n3⟩ := id hX
  by_cases hp : okP a b n
  · obtain ⟨p, q, rfl, rfl, hpq, hqn⟩ := okP_nat (by omega) hp
    obtain ⟨c, w, hc5, hw5, c1, c2, c3, hkk⟩ := id hH
    obtain ⟨w', hw', ex⟩ := x_cut_ok (x := x) (sq := sq) (sl := sl) (A := A) (B := B) (g := g) n1 hn hpq hqn c3 hw5 c1 hc5
    obtain ⟨f3, f4, c', em, hc', g1, g2', g3⟩ := m_remember (y := y) (ml := ml) (E := E) (g := g2) n2 c2 hn hc5 (rHist_szs hH c2 hc5)
    obtain ⟨f, e1, e2⟩ := m_cut18 (y := y) (mi := upd mi 6 (nI c')) (ml := ml) (E := E) (g := g2) (n := n) (a := p) (b := q) (by rw [pk_un (by decide)]; exact n2) hn hpq hqn zFuel q (ua (ua C 3 f3) 4 f4) (Nat.le_refl _) hqn (zF_lt (by omega))
    have hw5' : w' < 5 := by omega
    refine ⟨_, _, _, upd (upd mi 6 (nI c')) 3 (nI (n - (q - p))), ua (ua (ua C 3 f3) 4 f4) 2 f, ex, ?_, ?_, ?_, ?_, ?_, ?_, ?_, ?_⟩
    · unfold b_X11_cut_0
      simp only [mis, Option.bind_some, m_isPart_t n2 hp, zbp_some, if_neg (show ¬ (1 : Int32) = 0 by decide), em, e1]
    · refine ⟨t, ht, ?_, ?_, ?_⟩
      · rw [u2_n (Or.inl (by decide)), u2_n (Or.inl (by decide)), u2_n (Or.inl (by omega)), u2_n (Or.inl (by decide)), t1]
      · rw [pk_un (by decide), pk_un (by decide), t2]
      · rw [ua_n (by decide), ua_n (by omega), ua_n (by decide), ua_n (by decide), ua_n (by decide)]
        exact t3
    · refine ⟨n - (q - p), by omega, u2_s, pk_us, fun j hj => ?_⟩
      rw [ua_s, ua_s, e2 j hj, ua_n (by decide), ua_n (by decide)]
      by_cases q1 : p ≤ j
      · rw [pk_cpy_in q1 (by omega), if_pos (by omega), show q + (j - p) = j + (q - p) by omega]
        exact n3 _ (by omega)
      · rw [pk_cpy_out (by omega), if_neg (by omega)]
        exact n3 _ (by omega)
    · refine rHist_keep (n := n) (c := c) (w := w) (c' := c') (f3 := f3) (f4 := f4) hn hc5 hw5 n3 hkk hc' g1 g2' g3 ?_ ?_ ?_ ?_ ?_ ?_ ?_
      · rw [u2_n (Or.inl (by decide)), u2_s, hc']
      · rw [u2_n (Or.inl (by decide)), u2_n (Or.inr (by decide)), u2_n (Or.inl (by omega)), u2_s, hw']
      · intro r hr
        rw [u2_n (Or.inl (by omega)), u2_n (Or.inl (by omega)), ← hw']
        by_cases hrw : r = w'
        · subst hrw
          rw [u2_s, if_pos rfl]
        · rw [u2_n (Or.inl (by omega)), u2_n (Or.inl (by omega)), if_neg hrw]
      · intro r hr j
        rw [ua_n (by omega), ← hw']
        by_cases hrw : r = w'
        · subst hrw
          rw [ua_s]
          by_cases hj : j < n
          · rw [pk_cpy_in (by omega) (by omega), if_pos ⟨rfl, hj⟩]
            congr 1
            omega
          · rw [pk_cpy_out (by omega), if_neg (fun q => hj q.2)]
        · rw [ua_n (by omega), if_neg (fun q => hrw q.1)]
      · rw [pk_un (by decide), pk_us]
      · rw [ua_n (by decide), ua_n (by decide), ua_s]
      · rw [ua_n (by decide), ua_s]
    · intro q j q1 q2 q3 q4
      rw [u2_n (Or.inl q2), u2_n (Or.inl q3), u2_n (Or.inl (by omega)), u2_n (Or.inl q3)]
    · intro q q1 q2 q3
      rw [ua_n q2, ua_n (by omega)]
    · intro q q1 q2 q3
      rw [pk_un q2, pk_un q3]
    · intro q q1 q2 q3
      rw [ua_n q1, ua_n q3, ua_n q2]
  · refine ⟨_, si, A, mi, C, x_cut_bad n1 hp, ?_, hT, hX, hH, fun _ _ _ _ _ _ => rfl, fun _ _ _ _ => rfl, fun _ _ _ _ => rfl, fun _ _ _ _ => rfl⟩
    unfold b_X11_cut_0
    simp only [mis, Option.bind_some, m_isPart_f n2 hp, zbp_some, if_true]
theorem op_undo (hT : rTape si A mi C) (hX : rText si A mi C) (hH : rHist si A mi C) : ∃ r si' A' mi' C', b_X10_undo_0 (xh x si sq sl A B g) x = some (r, xh x si' sq sl A' B g) ∧ b_X11_undo_0 (mh y mi ml C E g2) y = some (r, mh y mi' ml C' E g2) ∧ rTape si' A' mi' C' ∧ rText si' A' mi' C' ∧ rHist si' A' mi' C' ∧ uS si si' ∧ uA A A' ∧ uM mi mi' ∧ uC C C' := by
  obtain ⟨t, ht, t1, t2, t3⟩ := id hT
  obtain ⟨n, hn, n1, n2, n3⟩ := id hX
  obtain ⟨c, w, hc5, hw5, c1, c2, c3, hkk⟩ := id hH
  by_cases h0 : c = 0
  · subst h0
    refine ⟨-1, si, A, mi, C, ?_, ?_, hT, hX, hH, fun _ _ _ _ _ _ => rfl, fun _ _ _ _ => rfl, fun _ _ _ _ => rfl, fun _ _ _ _ => rfl⟩
    · unfold b_X10_undo_0
      simp only [xg_EF_3, xg_EF_1, Option.bind_some, xo_Hi, x_takeBack_0 c1, zbp_some, if_true]
      rfl
    · unfold b_X11_undo_0
      simp only [mg_oldCount, Option.bind_some, c2, if_pos (show nI 0 = (0 : Int32) from rfl)]
  · obtain ⟨s, hs, h1, h2, h3⟩ := hkk 0 (by omega)
    have ew : (w + 5 - 0) % 5 = w := by omega
    rw [ew] at h1 h3
    rw [Nat.sub_zero] at h2 h3
    obtain ⟨w', hw', ex⟩ := x_takeBack (x := x) (sq := sq) (sl := sl) (A := A) (B := B) (g := g) c3 hw5 c1 (by omega) hc5 h1 hs
    obtain ⟨f, e1, e2⟩ := m_undo34 (y := y) (mi := upd (upd mi 6 (nI (c - 1))) 3 (nI s)) (ml := ml) (E := E) (g := g2) (s := s) (c := c - 1) pk_us (by rw [pk_un (by decide), pk_us]) hs (by omega) zFuel 0 C (by omega) (zF_lt (by omega))
    refine ⟨nI s, u2 (u2 (u2 si 3 1 (nI s)) 7 1 (nI w')) 7 2 (nI (c - 1)), ua A 4 (va_cpy (A (10 + 2 * w)) (A 4) 0 0 s), upd (upd mi 6 (nI (c - 1))) 3 (nI s), ua C 2 f, ?_, ?_, ?_, ?_, ?_, ?_, ?_, ?_, ?_⟩
    · unfold b_X10_undo_0
      simp only [xg_EF_3, xg_EF_1, Option.bind_some, xo_Hi, ex, zbp_some, if_neg (show ¬ (1 : Int32) = 0 by decide), xr_g r31.1, u2_n (show (3 : Nat) ≠ 7 ∨ (1 : Nat) ≠ 2 from Or.inl (by decide)), u2_n (show (3 : Nat) ≠ 7 ∨ (1 : Nat) ≠ 1 from Or.inl (by decide)), u2_s]
      rfl
    · unfold b_X11_undo_0
      simp only [mg_oldCount, Option.bind_some, c2, if_neg (nI_ne0 (show 0 < c by omega) (show c < 2 ^ 31 by omega)), nI_p (show 0 < c by omega), mp_oldCount, mr_oldSizes, pk_us, ml_oldSizes (show c - 1 < 5 by omega), h2, mp_textSize]
      exact e1
    · refine ⟨t, ht, ?_, ?_, ?_⟩
      · rw [u2_n (Or.inl (by decide)), u2_n (Or.inl (by decide)), u2_n (Or.inl (by decide)), t1]
      · rw [pk_un (by decide), pk_un (by decide), t2]
      · rw [ua_n (by decide), ua_n (by decide)]
        exact t3
    · refine ⟨s, hs, ?_, pk_us, fun j hj => ?_⟩
      · rw [u2_n (Or.inl (by decide)), u2_n (Or.inl (by decide)), u2_s]
      · rw [ua_s, ua_s, e2, if_pos (by omega), pk_cpy_in (by omega) (by omega), show 0 + (j - 0) = j by omega]
        exact h3 j hj
    · refine ⟨c - 1, w', by omega, by omega, u2_s, ?_, ?_, fun k hk => ?_⟩
      · rw [pk_un (by decide), pk_us]
      · rw [u2_n (Or.inr (by decide)), u2_s]
      · obtain ⟨s', hs', k1, k2, k3⟩ := hkk (k + 1) (by omega)
        have e : (w' + 5 - k) % 5 = (w + 5 - (k + 1)) % 5 := by omega
        refine ⟨s', hs', ?_, ?_, fun j hj => ?_⟩
        · rw [u2_n (Or.inl (by omega)), u2_n (Or.inl (by omega)), u2_n (Or.inl (by omega)), e, k1]
        · rw [ua_n (by decide), show c - 1 - 1 - k = c - 1 - (k + 1) by omega, k2]
        · rw [ua_n (by omega), ua_n (by decide), e, show c - 1 - 1 - k = c - 1 - (k + 1) by omega]
          exact k3 j hj
    · intro q j q1 q2 q3 q4
      rw [u2_n (Or.inl q3), u2_n (Or.inl q3), u2_n (Or.inl q2)]
    · intro q q1 q2 q3
      rw [ua_n q2]
    · intro q q1 q2 q3
      rw [pk_un q2, pk_un q3]
    · intro q q1 q2 q3
      rw [ua_n q1]
theorem op_byteAt (i : Int32) (hX : rText si A mi C) : ∃ r, b_X10_byteAt_0 (xh x si sq sl A B g) x i = some (r, xh x si sq sl A B g) ∧ b_X11_byteAt_0 (mh y mi ml C E g2) y i = some (r, mh y mi ml C E g2) := by
  obtain ⟨n, hn, n1, n2, n3⟩ := hX
  rcases pk_ix i (n := n) (by omega) with h | h | ⟨j, hj, rfl⟩
  · exact ⟨-1, by rw [x_byteAt, x_get_f r31.1 n1 (Or.inl h)], m_byteAt_f n2 (Or.inl h) hn⟩
  · exact ⟨-1, by rw [x_byteAt, x_get_f r31.1 n1 (Or.inr h)], m_byteAt_f n2 (Or.inr h) hn⟩
  · exact ⟨C 2 j, by rw [x_byteAt, x_get r31.1 n1 hj hn, (n3 j hj).1], m_byteAt_t n2 hj hn⟩
theorem op_length (hX : rText si A mi C) : ∃ r, b_X10_length_0 (xh x si sq sl A B g) x = some (r, xh x si sq sl A B g) ∧ b_X11_length_0 (mh y mi ml C E g2) y = some (r, mh y mi ml C E g2) := by
  obtain ⟨n, hn, n1, n2, n3⟩ := hX
  exact ⟨nI n, by rw [x_length, n1], by rw [m_length, n2]⟩
theorem op_place (h : rPlace si mi) : ∃ r, b_X10_place_0 (xh x si sq sl A B g) x = some (r, xh x si sq sl A B g) ∧ b_X11_place_0 (mh y mi ml C E g2) y = some (r, mh y mi ml C E g2) := ⟨mi 10, by rw [x_place, h], m_place⟩
end CU
