/-! HIT AND STEP -/
def fS (si si' : Nat → Nat → Int32) (sq sq' : Nat → Nat → Nat) (A A' : Nat → Nat → Int32) (B B' : Nat → Nat → Int64) (mi mi' : Nat → Int32) (C C' : Nat → Nat → Int32) (E E' : Nat → Nat → Int64) : Prop := (∀ k f, k ≠ 60 → k ≠ 69 → k ≠ 77 → k ≠ 71 → si' k f = si k f) ∧ (∀ k f, k ≠ 60 → sq' k f = sq k f) ∧ (∀ k, k < 66 ∨ 68 < k → k ≠ 78 → A' k = A k) ∧ (∀ k, k ≠ 70 → B' k = B k) ∧ (∀ k, k ≠ 21 → k ≠ 23 → k ≠ 24 → k ≠ 42 → mi' k = mi k) ∧ (∀ k, k < 12 ∨ 18 < k → k ≠ 25 → k ≠ 26 → C' k = C k) ∧ (∀ k, k ≠ 10 → k ≠ 11 → E' k = E k)
theorem fS_r {si : Nat → Nat → Int32} {sq : Nat → Nat → Nat} {A : Nat → Nat → Int32} {B : Nat → Nat → Int64} {mi : Nat → Int32} {C : Nat → Nat → Int32} {E : Nat → Nat → Int64} : fS si si sq sq A A B B mi mi C C E E := ⟨fun _ _ _ _ _ _ => rfl, fun _ _ _ => rfl, fun _ _ _ => rfl, fun _ _ => rfl, fun _ _ _ _ _ => rfl, fun _ _ _ _ => rfl, fun _ _ _ => rfl⟩
section HI
variable {x : Nat} {si : Nat → Nat → Int32} {sq : Nat → Nat → Nat} {sl : Nat → Nat → Int64} {A : Nat → Nat → Int32} {B : Nat → Nat → Int64} {g g2 : zh_H}
variable {y : Nat} {mi : Nat → Int32} {ml : Nat → Int64} {C : Nat → Nat → Int32} {E : Nat → Nat → Int64}
theorem tr_both (hH : rHits si A B mi C E) (hC : rC sq) : ∃ c, c ≤ 1500 ∧ si 71 8 = nI c ∧ mi 31 = nI c ∧ ∀ t, t < c → (A 79 t = C 19 t ∧ A 80 t = C 20 t ∧ A 81 t = C 21 t) ∧ ∃ w si' sq' A' B' mi' C' E', b_X2_trace_0 (xh x si sq sl A B g) (x + 71) (nI t) (x + 60) = some (xh x si' sq' sl A' B' g) ∧ b_X11_findSteps_0 (mh y mi ml C E g2) y (nI t) = some (mh y mi' ml C' E' g2) ∧ w.length ≤ 400 ∧ wayX si' A' w ∧ mi' 42 = nI w.length ∧ (∀ q, q < w.length → C' 26 q = nI (w.getD q 0)) ∧ rHits si' A' B' mi' C' E' ∧ rC sq' ∧ fS si si' sq sq' A A' B B' mi mi' C C' E E' := by
  obtain ⟨c, s, n, sw, hc, hs, hn, h74, h38, h71, h39, h72, hB, hE, hA, hK⟩ := hH
  refine ⟨c, hc, hA.1, hA.2.1, fun t ht => ?_⟩
  obtain ⟨e, b, d, si', sq', A', B', p1, p2, p3, ok, t1, t2, t3, t4, t5, t6, t7, t8⟩ := x_htrace (x := x) (sl := sl) (g := g) hc hs hn h74 h71 h72 hB hE hA hK hC ht
  obtain ⟨o1, o2, o3, o4⟩ := ok
  have hge := D_ge1 (mt := fun i q => mtx (E 23) (E 24) (C 22) i (b + q)) (sw := sw) (e - b) s
  have hge2 := D_ge2 (mt := fun i q => mtx (E 23) (E 24) (C 22) i (b + q)) (sw := sw) (e - b) s
  obtain ⟨mi', C', E', f1, f2, f3, f4, f5, f6⟩ := m_findSteps (y := y) (ml := ml) (E := E) (g := g2) (show t < 1500 by omega) p1 p2 o1 o2 hn (show e - b ≤ 400 by omega) hs h38 h39 (fun j hj => okB_nat (hB j hj).2)
  have hlen := wlk_len (mt := fun i q => mtx (E 23) (E 24) (C 22) i (b + q)) (sw := sw) (s + (e - b)) s (e - b)
  have c19 := f5 19 (by decide) (by decide) (by decide)
  have c20 := f5 20 (by decide) (by decide) (by decide)
  have c21 := f5 21 (by decide) (by decide) (by decide)
  have c22 := f5 22 (by decide) (by decide) (by decide)
  have e23 := f6 23 (by decide) (by decide)
  have e24 := f6 24 (by decide) (by decide)
  have a79 := t7 79 (by decide) (by decide)
  have a80 := t7 80 (by decide) (by decide)
  have a81 := t7 81 (by decide) (by decide)
  have a73 := t7 73 (by decide) (by decide)
  refine ⟨?_, wayL s (e - b) (fun i q => mtx (E 23) (E 24) (C 22) i (b + q)) sw, si', sq', A', B', mi', C', E', t1, f1, ?_, t3, f2, f3, ?_, t4, ⟨fun k f k1 k2 k3 k4 => t5 k f k1 k2 k3 (Or.inl k4), t6, t7, t8, f4, f5, f6⟩⟩
  · obtain ⟨e', b', d', q1, q2, q3, q4, q5, q6, -⟩ := hA.2.2 t ht
    exact ⟨q1.trans q2.symm, q3.trans q4.symm, q5.trans q6.symm⟩
  · show (wlk _ _ _ _ _ _).length ≤ 400
    omega
  · refine ⟨c, s, n, sw, hc, hs, hn, ?_, ?_, ?_, ?_, ?_, ?_, ?_, ⟨?_, ?_, ?_⟩, Or.inr ⟨t, e, b, ht, t2, ?_, ?_, o1, o2, ?_⟩⟩
    · rw [t5 74 2 (by decide) (by decide) (by decide) (by decide)]; exact h74
    · rw [f4 38 (by decide) (by decide) (by decide) (by decide)]; exact h38
    · rw [t5 71 2 (by decide) (by decide) (by decide) (by decide)]; exact h71
    · rw [f4 39 (by decide) (by decide) (by decide) (by decide)]; exact h39
    · rw [t5 72 1 (by decide) (by decide) (by decide) (by decide)]; exact h72
    · rw [a73, c22]; exact hB
    · rw [t8 75 (by decide), t8 76 (by decide), e23, e24]; exact hE
    · rw [t5 71 8 (by decide) (by decide) (by decide) (by decide)]; exact hA.1
    · rw [f4 31 (by decide) (by decide) (by decide) (by decide)]; exact hA.2.1
    · rw [a79, a80, a81, c19, c20, c21, c22, e23, e24]; exact hA.2.2
    · rw [c19]; exact p1
    · rw [c21]; exact p2
    · rw [c22, e23, e24]; exact t3
theorem op_hit (i w : Int32) (hH : rHits si A B mi C E) (hC : rC sq) : ∃ r si' sq' A' B' mi' C' E', b_X10_hit_0 (xh x si sq sl A B g) x i w = some (r, xh x si' sq' sl A' B' g) ∧ b_X11_hit_0 (mh y mi ml C E g2) y i w = some (r, mh y mi' ml C' E' g2) ∧ rHits si' A' B' mi' C' E' ∧ rC sq' ∧ fS si si' sq sq' A A' B B' mi mi' C C' E E' := by
  obtain ⟨c, hc, c1, c2, hT⟩ := tr_both (x := x) (sl := sl) (g := g) (y := y) (ml := ml) (g2 := g2) hH hC
  rcases pk_ix i (n := c) (by omega) with h1 | h1 | ⟨t, ht, rfl⟩
  · refine ⟨-2, si, sq, A, B, mi, C, E, ?_, ?_, hH, hC, fS_r⟩
    · unfold b_X10_hit_0; rw [if_pos h1]; rfl
    · unfold b_X11_hit_0; rw [mg_hits, Option.bind_some, c2, m_in_f (in_f (by omega) (Or.inl h1)), zbp_some, if_pos rfl]; rfl
  · refine ⟨-2, si, sq, A, B, mi, C, E, ?_, ?_, hH, hC, fS_r⟩
    · unfold b_X10_hit_0; rw [xg_EF_9, Option.bind_some, xg_Ht_8, Option.bind_some, c1, if_neg (i_nlt.mpr h1), ite_self]; rfl
    · unfold b_X11_hit_0; rw [mg_hits, Option.bind_some, c2, m_in_f (in_f (by omega) (Or.inr h1)), zbp_some, if_pos rfl]; rfl
  · obtain ⟨⟨a1, a2, a3⟩, l, si', sq', A', B', mi', C', E', t1, t2, t3, t4, t5, t6, t7, t8, t9⟩ := hT t ht
    have mX : b_X11_hit_0 (mh y mi ml C E g2) y (nI t) w = zbp (b_X11_in_0 (mh y mi ml C E g2) w (0 : Int32) (3 : Int32)) fun v5 h4 => if v5 = (0 : Int32) then b_X11_hit_23 h4  else if w = (3 : Int32) then (isO h4 y 11).bind fun o14 => (b_X11_findSteps_0 h4 y (nI t)).bind fun h15 => (gI h15 y 11 42).bind fun v16 => some (v16, h15) else if w = (0 : Int32) then (gR h4 y 11 32).bind fun a11 => (aI h4 1 a11 (nI t)).bind fun v12 => b_X11_hit_74 h4 (v12) else if w = (1 : Int32) then (gR h4 y 11 33).bind fun a8 => (aI h4 1 a8 (nI t)).bind fun v9 => b_X11_hit_74 h4 (v9) else (gR h4 y 11 34).bind fun a6 => (aI h4 1 a6 (nI t)).bind fun v7 => b_X11_hit_74 h4 (v7) := by
      unfold b_X11_hit_0
      rw [mg_hits, Option.bind_some, c2, m_in_t (nI_pos' (by omega)) (show nI t ≤ nI c - 1 by rw [nI_p (by omega)]; exact nI_le (by omega) (by omega)), zbp_some, if_neg (show ¬ (1 : Int32) = 0 by decide)]
    rw [mX]
    unfold b_X10_hit_0
    simp only [if_neg (nI_pos (show t < 2 ^ 31 by omega)), xg_EF_9, Option.bind_some, xg_Ht_8, c1, if_pos (nI_lt ht (show c < 2 ^ 31 by omega))]
    rcases i_range (a := w) (n := 3) (by decide) with ⟨k, hk, rfl⟩ | hw
    · have hk4 : k = 0 ∨ k = 1 ∨ k = 2 ∨ k = 3 := by omega
      rcases hk4 with rfl | rfl | rfl | rfl
      · refine ⟨C 19 t, si, sq, A, B, mi, C, E, ?_, ?_, hH, hC, fS_r⟩
        · rw [if_pos (by decide), xg_Ht_5, Option.bind_some, xi_l i79.1 (show t < 1500 by omega), Option.bind_some, a1]
        · rw [m_in_t (by decide) (by decide), zbp_some, if_neg (by decide), if_neg (by decide), if_pos (by decide), mr_hitAt, Option.bind_some, ml_hitAt (by omega), Option.bind_some]; rfl
      · refine ⟨C 20 t, si, sq, A, B, mi, C, E, ?_, ?_, hH, hC, fS_r⟩
        · rw [if_neg (by decide), if_pos (by decide), xg_Ht_6, Option.bind_some, xi_l i79.2.1 (show t < 1500 by omega), Option.bind_some, a2]
        · rw [m_in_t (by decide) (by decide), zbp_some, if_neg (by decide), if_neg (by decide), if_neg (by decide), if_pos (by decide), mr_hitCost, Option.bind_some, ml_hitCost (by omega), Option.bind_some]; rfl
      · refine ⟨C 21 t, si, sq, A, B, mi, C, E, ?_, ?_, hH, hC, fS_r⟩
        · rw [if_neg (by decide), if_neg (by decide), if_pos (by decide), xg_Ht_7, Option.bind_some, xi_l i79.2.2 (show t < 1500 by omega), Option.bind_some, a3]
        · rw [m_in_t (by decide) (by decide), zbp_some, if_neg (by decide), if_neg (by decide), if_neg (by decide), if_neg (by decide), mr_hitBegin, Option.bind_some, ml_hitBegin (by omega), Option.bind_some]; rfl
      · refine ⟨nI l.length, si', sq', A', B', mi', C', E', ?_, ?_, t7, t8, t9⟩
        · rw [if_neg (by decide), if_neg (by decide), if_neg (by decide), if_pos (by decide), xg_EF_8, Option.bind_some, xo_Ht, Option.bind_some, t1, Option.bind_some, xg_EF_9, Option.bind_some, xg_Ht_4, Option.bind_some, xg_Wa_1, Option.bind_some, t4.1]
        · rw [m_in_t (by decide) (by decide), zbp_some, if_neg (by decide), if_pos (by decide), mis, Option.bind_some, t2, Option.bind_some, mg_stepCount, Option.bind_some, t5]
    · refine ⟨-2, si, sq, A, B, mi, C, E, ?_, ?_, hH, hC, fS_r⟩
      · rw [if_neg (fun h => hw (by rw [h]; decide)), if_neg (fun h => hw (by rw [h]; decide)), if_neg (fun h => hw (by rw [h]; decide)), if_neg (fun h => hw (by rw [h]; decide))]
      · rw [m_in_f (show ¬ ((0 : Int32) ≤ w ∧ w ≤ 3) from hw), zbp_some, if_pos rfl]; rfl
theorem op_step (i j : Int32) (hH : rHits si A B mi C E) (hC : rC sq) : ∃ r si' sq' A' B' mi' C' E', b_X10_step_0 (xh x si sq sl A B g) x i j = some (r, xh x si' sq' sl A' B' g) ∧ b_X11_step_0 (mh y mi ml C E g2) y i j = some (r, mh y mi' ml C' E' g2) ∧ rHits si' A' B' mi' C' E' ∧ rC sq' ∧ fS si si' sq sq' A A' B B' mi mi' C C' E E' := by
  obtain ⟨c, hc, c1, c2, hT⟩ := tr_both (x := x) (sl := sl) (g := g) (y := y) (ml := ml) (g2 := g2) hH hC
  rcases pk_ix i (n := c) (by omega) with h1 | h1 | ⟨t, ht, rfl⟩
  · refine ⟨-2, si, sq, A, B, mi, C, E, ?_, ?_, hH, hC, fS_r⟩
    · unfold b_X10_step_0; rw [if_pos h1]; rfl
    · unfold b_X11_step_0; rw [mg_hits, Option.bind_some, c2, m_in_f (in_f (by omega) (Or.inl h1)), zbp_some, if_pos rfl]
  · refine ⟨-2, si, sq, A, B, mi, C, E, ?_, ?_, hH, hC, fS_r⟩
    · unfold b_X10_step_0; rw [xg_EF_9, Option.bind_some, xg_Ht_8, Option.bind_some, c1, if_neg (i_nlt.mpr h1), ite_self]; rfl
    · unfold b_X11_step_0; rw [mg_hits, Option.bind_some, c2, m_in_f (in_f (by omega) (Or.inr h1)), zbp_some, if_pos rfl]
  · obtain ⟨⟨a1, a2, a3⟩, l, si', sq', A', B', mi', C', E', t1, t2, t3, t4, t5, t6, t7, t8, t9⟩ := hT t ht
    have mX : b_X11_step_0 (mh y mi ml C E g2) y (nI t) j = zbp (b_X11_in_0 (mh y mi' ml C' E' g2) j (0 : Int32) (nI l.length - (1 : Int32))) fun v8 h7 => if v8 = (0 : Int32) then b_X11_step_53 h7 ((-1 : Int32)) else (gR h7 y 11 41).bind fun a9 => (gI h7 y 11 42).bind fun v10 => (aI h7 1 a9 ((v10 - (1 : Int32)) - j)).bind fun v11 => b_X11_step_53 h7 (v11) := by
      unfold b_X11_step_0
      rw [mg_hits, Option.bind_some, c2, m_in_t (nI_pos' (by omega)) (show nI t ≤ nI c - 1 by rw [nI_p (by omega)]; exact nI_le (by omega) (by omega)), zbp_some, if_neg (show ¬ (1 : Int32) = 0 by decide), mis, Option.bind_some, t2, Option.bind_some, mg_stepCount, Option.bind_some, t5]
    have xX : b_X10_step_0 (xh x si sq sl A B g) x (nI t) j = zbp (b_X9_get_0 (xh x si' sq' sl A' B' g) (x + 77) j) fun v11 h10 => some (v11, h10) := by
      unfold b_X10_step_0
      rw [if_neg (nI_pos (show t < 2 ^ 31 by omega)), xg_EF_9, Option.bind_some, xg_Ht_8, Option.bind_some, c1, if_pos (nI_lt ht (show c < 2 ^ 31 by omega)), Option.bind_some, xg_EF_8, Option.bind_some, xo_Ht, Option.bind_some, t1, Option.bind_some, xg_EF_9, Option.bind_some, xg_Ht_4, Option.bind_some, xo_Wa, Option.bind_some]
    rw [xX, mX]
    unfold b_X9_get_0
    rcases pk_ix j (n := l.length) (by omega) with h1 | h1 | ⟨q, hq, rfl⟩
    · refine ⟨-1, si', sq', A', B', mi', C', E', ?_, ?_, t7, t8, t9⟩
      · rw [if_pos h1]; rfl
      · rw [m_in_f (in_f (by omega) (Or.inl h1)), zbp_some, if_pos rfl]; rfl
    · refine ⟨-1, si', sq', A', B', mi', C', E', ?_, ?_, t7, t8, t9⟩
      · rw [xg_Wa_1, Option.bind_some, t4.1, if_pos h1, ite_self]; rfl
      · rw [m_in_f (in_f (by omega) (Or.inr h1)), zbp_some, if_pos rfl]; rfl
    · have eq : nI l.length - (1 : Int32) - nI q = nI (l.length - 1 - q) := by rw [nI_p (by omega), pk_sub (by omega)]
      refine ⟨nI (l.getD (l.length - 1 - q) 0), si', sq', A', B', mi', C', E', ?_, ?_, t7, t8, t9⟩
      · rw [if_neg (nI_pos (show q < 2 ^ 31 by omega)), xg_Wa_1, Option.bind_some, t4.1, if_neg (nI_ge hq (by omega)), xg_Wa_0, Option.bind_some, Option.bind_some, eq, xw_l (by omega), Option.bind_some, t4.2 _ (by omega)]; rfl
      · rw [m_in_t (nI_pos' (by omega)) (show nI q ≤ nI l.length - 1 by rw [nI_p (by omega)]; exact nI_le (by omega) (by omega)), zbp_some, if_neg (show ¬ (1 : Int32) = 0 by decide), mr_steps, Option.bind_some, mg_stepCount, Option.bind_some, t5, eq, ml_steps (by omega), Option.bind_some, t6 _ (by omega)]; rfl
end HI
