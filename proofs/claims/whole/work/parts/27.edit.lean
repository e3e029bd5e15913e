/-! insert, cut, undo: both sides answer alike, and hold the like after it -/
def uS (si si' : Nat → Nat → Int32) : Prop := ∀ k j, k ≠ 1 → k ≠ 3 → k ≠ 7 → (k < 9 ∨ 18 ≤ k) → si' k j = si k j
def uA (A A' : Nat → Nat → Int32) : Prop := ∀ k, k ≠ 2 → k ≠ 4 → (k < 10 ∨ 18 < k) → A' k = A k
def uM (mi mi' : Nat → Int32) : Prop := ∀ k, k ≠ 1 → k ≠ 3 → k ≠ 6 → mi' k = mi k
def uC (C C' : Nat → Nat → Int32) : Prop := ∀ k, k ≠ 2 → k ≠ 3 → k ≠ 4 → C' k = C k
section ED
variable {x : Nat} {si : Nat → Nat → Int32} {sq : Nat → Nat → Nat} {sl : Nat → Nat → Int64} {A : Nat → Nat → Int32} {B : Nat → Nat → Int64} {g g2 : zh_H}
variable {y : Nat} {mi : Nat → Int32} {ml : Nat → Int64} {C : Nat → Nat → Int32} {E : Nat → Nat → Int64}
theorem i_range {a : Int32} {n : Nat} (hn : n < 2 ^ 31) : (∃ k, k ≤ n ∧ a = nI k) ∨ ¬ (0 ≤ a ∧ a ≤ nI n) := by
  by_cases h : 0 ≤ a ∧ a ≤ nI n
  · obtain ⟨k, hk, rfl⟩ := nI_of (i_nlt.mpr h.1)
    exact Or.inl ⟨k, (nI_leI hk hn).mp h.2, rfl⟩
  · exact Or.inr h
theorem r31 : isRow 3 ∧ isRow 1 := by unfold isRow; omega
theorem x_insert_bad {n : Nat} {a : Int32} (hn : si 3 1 = nI n) (ha : ¬ (0 ≤ a ∧ a ≤ nI n)) : b_X10_insert_0 (xh x si sq sl A B g) x a = some (-2, xh x si sq sl A B g) := by
  unfold b_X10_insert_0
  by_cases c1 : a < 0
  · rw [if_pos c1]
    rfl
  · rw [if_neg c1, xg_EF_1, Option.bind_some, xr_g r31.1, Option.bind_some, hn, if_neg (fun q => ha ⟨i_nlt.mp c1, q⟩)]
    rfl
theorem x_insert_ref {n t a : Nat} (hn : si 3 1 = nI n) (ht : si 1 1 = nI t) (hn2 : n ≤ 1500) (ht2 : t ≤ 400) (ha : a ≤ n) (hnt : 1500 < n + t) : b_X10_insert_0 (xh x si sq sl A B g) x (nI a) = some (-3, xh x si sq sl A B g) := by
  unfold b_X10_insert_0
  simp only [if_neg (nI_pos (show a < 2 ^ 31 by omega)), xg_EF_1, xg_EF_0, Option.bind_some, xr_g r31.1, xr_g r31.2, hn, ht, nI_add, if_pos (nI_le ha (show n < 2 ^ 31 by omega)), if_neg (show ¬ nI (n + t) ≤ (1500 : Int32) from nI_ge (a := 1500) hnt (by omega))]
theorem x_insert_ok {n t a w c : Nat} (hn : si 3 1 = nI n) (ht : si 1 1 = nI t) (ha : a ≤ n) (hnt : n + t ≤ 1500) (ht2 : t ≤ 400) (hw : si 7 1 = nI w) (hw2 : w < 5) (hc : si 7 2 = nI c) (hc2 : c ≤ 5) : ∃ w', w' = (w + 1) % 5 ∧ b_X10_insert_0 (xh x si sq sl A B g) x (nI a) = some (nI (n + t), xh x (u2 (u2 (u2 (u2 (u2 si 7 1 (nI w')) (9 + 2 * w') 1 (nI n)) 7 2 (nI (min (c + 1) 5))) 3 1 (nI (n + t))) 1 1 0) sq sl (ua (ua A (10 + 2 * w') (va_cpy (A 4) (A (10 + 2 * w')) 0 0 n)) 4 (va_cpy (A 2) (va_cpy (A 4) (A 4) a (a + t) (n - a)) 0 a t)) B g) := by
  obtain ⟨w', hw', hk⟩ := x_keep (x := x) (sq := sq) (sl := sl) (A := A) (B := B) (g := g) hn (by omega) hw hw2 hc hc2
  refine ⟨w', hw', ?_⟩
  have hw5 : w' < 5 := by omega
  unfold b_X10_insert_0
  have e3 : u2 (u2 (u2 si 7 1 (nI w')) (9 + 2 * w') 1 (nI n)) 7 2 (nI (min (c + 1) 5)) 3 1 = nI n := by
    rw [u2_n (Or.inl (by decide)), u2_n (Or.inl (by omega)), u2_n (Or.inl (by decide))]; exact hn
  have e1 : u2 (u2 (u2 si 7 1 (nI w')) (9 + 2 * w') 1 (nI n)) 7 2 (nI (min (c + 1) 5)) 1 1 = nI t := by
    rw [u2_n (Or.inl (by decide)), u2_n (Or.inl (by omega)), u2_n (Or.inl (by decide))]; exact ht
  have ep := x_putIn (x := x) (sq := sq) (sl := sl) (A := ua A (10 + 2 * w') (va_cpy (A 4) (A (10 + 2 * w')) 0 0 n)) (B := B) (g := g) r31.1 r31.2 (by decide) (by decide) e3 e1 ht2 hnt ha
  rw [ua_n (k := 10 + 2 * w') (j := 3 + 1) (by omega), ua_n (k := 10 + 2 * w') (j := 1 + 1) (by omega)] at ep
  simp only [if_neg (nI_pos (show a < 2 ^ 31 by omega)), xg_EF_1, xg_EF_0, xg_EF_3, Option.bind_some, xr_g r31.1, xr_g r31.2, hn, ht, nI_add, if_pos (nI_le ha (show n < 2 ^ 31 by omega)), if_pos (show nI (n + t) ≤ (1500 : Int32) from nI_le (b := 1500) hnt (by omega)), xo_Hi, hk, xr_is r31.1, xr_is r31.2, ep, x_clear r31.2, u2_n (show (3 : Nat) ≠ 1 ∨ (1 : Nat) ≠ 1 from Or.inl (by decide)), u2_s]
theorem m_insert_bad {n : Nat} {a : Int32} (hn : mi 3 = nI n) (ha : ¬ (0 ≤ a ∧ a ≤ nI n)) : b_X11_insert_0 (mh y mi ml C E g) y a = some (-2, mh y mi ml C E g) := by
  unfold b_X11_insert_0
  rw [mg_textSize, Option.bind_some, hn, m_in_f ha, zbp_some, if_pos rfl]
theorem m_insert_ref {n t a : Nat} (hn : mi 3 = nI n) (ht : mi 1 = nI t) (hn2 : n ≤ 1500) (ht2 : t ≤ 400) (ha : a ≤ n) (hnt : 1500 < n + t) : b_X11_insert_0 (mh y mi ml C E g) y (nI a) = some (-3, mh y mi ml C E g) := by
  unfold b_X11_insert_0
  simp only [mg_textSize, mg_tapeSize, Option.bind_some, hn, ht, m_in_t (nI_pos' (show a < 2 ^ 31 by omega)) (nI_le ha (show n < 2 ^ 31 by omega)), zbp_some, if_neg (show ¬ (1 : Int32) = 0 by decide), nI_add, if_neg (show ¬ nI (n + t) ≤ (1500 : Int32) from nI_ge (a := 1500) hnt (by omega))]
theorem op_insert (a : Int32) (hT : rTape si A mi C) (hX : rText si A mi C) (hH : rHist si A mi C) : ∃ r si' A' mi' C', b_X10_insert_0 (xh x si sq sl A B g) x a = some (r, xh x si' sq sl A' B g) ∧ b_X11_insert_0 (mh y mi ml C E g2) y a = some (r, mh y mi' ml C' E g2) ∧ rTape si' A' mi' C' ∧ rText si' A' mi' C' ∧ rHist si' A' mi' C' ∧ uS si si' ∧ uA A A' ∧ uM mi mi' ∧ uC C C' := by
  obtain ⟨t, ht, t1, t2, t3⟩ := id hT
  obtain ⟨n, hn, n1, n2, n3⟩ := id hX
  rcases i_range (a := a) (n := n) (by omega) with ⟨k, hk, rfl⟩ | hbad
  · by_cases hnt : n + t ≤ 1500
    · obtain ⟨c, w, hc5, hw5, c1, c2, c3, hkk⟩ := id hH
      obtain ⟨w', hw', ex⟩ := x_insert_ok (x := x) (sq := sq) (sl := sl) (A := A) (B := B) (g := g) n1 t1 hk hnt ht c3 hw5 c1 hc5
      obtain ⟨f3, f4, c', em, hc', g1, g2', g3⟩ := m_remember (y := y) (ml := ml) (E := E) (g := g2) n2 c2 hn hc5 (rHist_szs hH c2 hc5)
      obtain ⟨f, e1, e2⟩ := m_ins44 (y := y) (mi := upd mi 6 (nI c')) (ml := ml) (E := E) (g := g2) (t := t) (n := n) (b := k) (by rw [pk_un (by decide)]; exact t2) (by rw [pk_un (by decide)]; exact n2) ht hnt hk zFuel n (ua (ua C 3 f3) 4 f4) hk (Nat.le_refl _) (zF_lt (by omega))
      have hw5' : w' < 5 := by omega
      refine ⟨_, _, _, upd (upd (upd mi 6 (nI c')) 3 (nI (n + t))) 1 0, ua (ua (ua C 3 f3) 4 f4) 2 f, ex, ?_, ?_, ?_, ?_, ?_, ?_, ?_, ?_⟩
      · unfold b_X11_insert_0
        simp only [mg_textSize, mg_tapeSize, Option.bind_some, n2, t2, m_in_t (nI_pos' (show k < 2 ^ 31 by omega)) (nI_le hk (show n < 2 ^ 31 by omega)), zbp_some, if_neg (show ¬ (1 : Int32) = 0 by decide), nI_add, if_pos (show nI (n + t) ≤ (1500 : Int32) from nI_le (b := 1500) hnt (by omega)), mis, em, pk_un (show (3 : Nat) ≠ 6 by decide), e1]
      · exact ⟨0, by omega, u2_s, pk_us, fun j hj => by omega⟩
      · refine ⟨n + t, hnt, ?_, ?_, fun j hj => ?_⟩
        · rw [u2_n (Or.inl (by decide)), u2_s]
        · rw [pk_un (by decide), pk_us]
        · rw [ua_s, ua_s, e2]
          simp only [ua_n (show (1 : Nat) ≠ 4 by decide), ua_n (show (1 : Nat) ≠ 3 by decide), ua_n (show (2 : Nat) ≠ 4 by decide), ua_n (show (2 : Nat) ≠ 3 by decide)]
          by_cases q1 : k ≤ j ∧ j < k + t
          · rw [pk_cpy_in q1.1 q1.2, if_pos q1, Nat.zero_add]
            exact t3 _ (by omega)
          · rw [pk_cpy_out (by omega), if_neg q1]
            by_cases q2 : k + t ≤ j ∧ j < n + t
            · rw [pk_cpy_in (by omega) (by omega), if_pos q2, show k + (j - (k + t)) = j - t by omega]
              exact n3 _ (by omega)
            · rw [pk_cpy_out (by omega), if_neg q2]
              exact n3 _ (by omega)
      · refine rHist_keep (n := n) (c := c) (w := w) (c' := c') (f3 := f3) (f4 := f4) hn hc5 hw5 n3 hkk hc' g1 g2' g3 ?_ ?_ ?_ ?_ ?_ ?_ ?_
        · rw [u2_n (Or.inl (by decide)), u2_n (Or.inl (by decide)), u2_s, hc']
        · rw [u2_n (Or.inl (by decide)), u2_n (Or.inl (by decide)), u2_n (Or.inr (by decide)), u2_n (Or.inl (by omega)), u2_s, hw']
        · intro r hr
          rw [u2_n (Or.inl (by omega)), u2_n (Or.inl (by omega)), u2_n (Or.inl (by omega)), ← hw']
          by_cases hrw : r = w'
          · subst hrw
            rw [u2_s, if_pos rfl]
          · rw [u2_n (Or.inl (by omega)), u2_n (Or.inl (by omega)), if_neg hrw]
        · intro r hr j
          rw [ua_n (by omega), ← hw']
          by_cases hrw : r = w'
          · subst hrw
            rw [ua_s]
            by_cases hj : j < n
            · rw [pk_cpy_in (by omega) (by omega), if_pos ⟨rfl, hj⟩]
              congr 1
              omega
            · rw [pk_cpy_out (by omega), if_neg (fun q => hj q.2)]
          · rw [ua_n (by omega), if_neg (fun q => hrw q.1)]
        · rw [pk_un (by decide), pk_un (by decide), pk_us]
        · rw [ua_n (by decide), ua_n (by decide), ua_s]
        · rw [ua_n (by decide), ua_s]
      · intro q j q1 q2 q3 q4
        rw [u2_n (Or.inl q1), u2_n (Or.inl q2), u2_n (Or.inl q3), u2_n (Or.inl (by omega)), u2_n (Or.inl q3)]
      · intro q q1 q2 q3
        rw [ua_n q2, ua_n (by omega)]
      · intro q q1 q2 q3
        rw [pk_un q1, pk_un q2, pk_un q3]
      · intro q q1 q2 q3
        rw [ua_n q1, ua_n q3, ua_n q2]
    · exact ⟨_, si, A, mi, C, x_insert_ref n1 t1 hn ht hk (by omega), m_insert_ref n2 t2 hn ht hk (by omega), hT, hX, hH, fun _ _ _ _ _ _ => rfl, fun _ _ _ _ => rfl, fun _ _ _ _ => rfl, fun _ _ _ _ => rfl⟩
  · exact ⟨_, si, A, mi, C, x_insert_bad n1 hbad, m_insert_bad n2 hbad, hT, hX, hH, fun _ _ _ _ _ _ => rfl, fun _ _ _ _ => rfl, fun _ _ _ _ => rfl, fun _ _ _ _ => rfl⟩
end ED
