/-! THE LAW'S LOOP (written by wip/gen/lawloop.py) -/
section LL
variable {x : Nat} {si si' : Nat → Nat → Int32} {sq sq' : Nat → Nat → Nat} {sl sl' : Nat → Nat → Int64} {A A' : Nat → Nat → Int32} {B B' : Nat → Nat → Int64} {g g0 : zh_H}
variable {y : Nat} {mi : Nat → Int32} {ml : Nat → Int64} {C : Nat → Nat → Int32} {E : Nat → Nat → Int64}
theorem xm_swap (hy : y = x + 84) : mh y mi ml C E (xh x si sq sl A B g) = xh x si sq sl A B (mh y mi ml C E g) := by
  funext q
  by_cases h : x ≤ q ∧ q < x + 84
  · rw [mh_o (by omega)]
    unfold xh
    rw [if_pos h, if_pos h]
  · rw [xh_o (g := mh y mi ml C E g) (by omega)]
    unfold mh
    rw [xh_o (by omega)]
theorem xh_g (h : xh x si sq sl A B g = xh x si' sq' sl' A' B' g) (g' : zh_H) : xh x si sq sl A B g' = xh x si' sq' sl' A' B' g' := by
  funext q
  by_cases hq : x ≤ q ∧ q < x + 84
  · have := congrFun h q
    unfold xh at this ⊢
    rw [if_pos hq, if_pos hq] at this ⊢
    exact this
  · rw [xh_o (by omega), xh_o (by omega)]
/-- the class answers first, then the reference, each beside the other -/
theorem two (hy : y = x + 84) {FX FM : zh_H → Option (Int32 × zh_H)} (hop : ∀ g g2, ∃ r si' sq' sl' A' B' mi' ml' C' E', FX (xh x si sq sl A B g) = some (r, xh x si' sq' sl' A' B' g) ∧ FM (mh y mi ml C E g2) = some (r, mh y mi' ml' C' E' g2) ∧ Rel si' sq' A' B' mi' C' E') : ∃ r hX si' sq' sl' A' B' mi' ml' C' E', FX (mh y mi ml C E (xh x si sq sl A B g0)) = some (r, hX) ∧ isO hX y 11 = some () ∧ FM hX = some (r, mh y mi' ml' C' E' (xh x si' sq' sl' A' B' g0)) ∧ Rel si' sq' A' B' mi' C' E' := by
  obtain ⟨r1, si1, sq1, sl1, A1, B1, mi1, ml1, C1, E1, e1, -, -⟩ := hop (mh y mi ml C E g0) g0
  obtain ⟨r, si', sq', sl', A', B', mi', ml', C', E', f1, f2, hR⟩ := hop (mh y mi ml C E g0) (xh x si1 sq1 sl1 A1 B1 g0)
  rw [e1] at f1
  have hr : r1 = r := congrArg Prod.fst (Option.some.inj f1)
  have hh : xh x si1 sq1 sl1 A1 B1 (mh y mi ml C E g0) = xh x si' sq' sl' A' B' (mh y mi ml C E g0) := congrArg Prod.snd (Option.some.inj f1)
  refine ⟨r, mh y mi ml C E (xh x si1 sq1 sl1 A1 B1 g0), si', sq', sl', A', B', mi', ml', C', E', ?_, mis, ?_, hR⟩
  · rw [xm_swap hy, e1, hr, xm_swap hy]
  · rw [f2, xh_g hh g0]
theorem law_step (hy : y = x + 84) {cs sL : Nat} (hcs : cs ≤ 600000 ∧ sL ≤ 7302250) (FX FM : zh_H → Option (Int32 × zh_H)) (K : zh_H → Option Int32) (hop : ∀ g g2, ∃ r si' sq' sl' A' B' mi' ml' C' E', FX (xh x si sq sl A B g) = some (r, xh x si' sq' sl' A' B' g) ∧ FM (mh y mi ml C E g2) = some (r, mh y mi' ml' C' E' g2) ∧ Rel si' sq' A' B' mi' C' E') (hK : ∀ si' sq' sl' A' B' mi' ml' C' E', Rel si' sq' A' B' mi' C' E' → K (mh y mi' ml' C' E' (xh x si' sq' sl' A' B' g0)) = some 1) : ((isO (mh y mi ml C E (xh x si sq sl A B g0)) x 10).bind fun _ => zif (cs ≤ 600000 ∧ sL ≤ 7302250) <| zbp (FX (mh y mi ml C E (xh x si sq sl A B g0))) fun v8 h7 => (isO h7 y 11).bind fun _ => zif (cs ≤ 600000 ∧ sL ≤ 7302250) <| zbp (FM h7) fun v14 h13 => if v8 = v14 then K h13 else some (0 : Int32)) = some 1 := by
  obtain ⟨r, hX, si', sq', sl', A', B', mi', ml', C', E', e1, e2, e3, hR⟩ := two (g0 := g0) hy hop
  have hO : isO (mh y mi ml C E (xh x si sq sl A B g0)) x 10 = some () := by rw [xm_swap hy, xo_EF]
  rw [hO, Option.bind_some, zif_t hcs, e1, zbp_some, e2, Option.bind_some, zif_t hcs, e3, zbp_some, if_pos rfl]
  exact hK si' sq' sl' A' B' mi' ml' C' E' hR
theorem zS_n {L k : Nat} {xs : Nat → Int32} (hk : k < L) (hL : L ≤ 3584) : zS L xs (nI k) = some (xs k) := by
  unfold zS
  rw [if_neg (nI_in hk (by omega)), nI_clamp (by omega)]
theorem law_loop {L N cs sL : Nat} {xs : Nat → Int32} (hL : L ≤ 3584) (hy : y = x + 84) (hcs : cs ≤ 600000 ∧ sL ≤ 7302250) : ∀ (fuel k : Nat) (si : Nat → Nat → Int32) (sq : Nat → Nat → Nat) (sl : Nat → Nat → Int64) (A : Nat → Nat → Int32) (B : Nat → Nat → Int64) (mi : Nat → Int32) (ml : Nat → Int64) (C : Nat → Nat → Int32) (E : Nat → Nat → Int64), Rel si sq A B mi C E → k ≤ 5000 → 5000 - k < fuel → b_L_law_18 L xs fuel N cs sL (mh y mi ml C E (xh x si sq sl A B g0)) x y (nI k) = some 1 := by
  intro fuel
  induction fuel with
  | zero => intro k si sq sl A B mi ml C E _ _ h; omega
  | succ n ih =>
    intro k si sq sl A B mi ml C E hR hk hf
    conv => lhs; unfold b_L_law_18
    by_cases hend : L < k + 7
    · rw [if_pos, zif_t hcs]
      rw [iI_n, iI_n, show (7 : Int32) = iI 7 from rfl, iI_sub, iI_lt (by omega) (by omega) (by omega) (by omega)]
      omega
    · have hno : ¬ nI L - 7 < nI k := by
        rw [iI_n, iI_n, show (7 : Int32) = iI 7 from rfl, iI_sub, iI_lt (by omega) (by omega) (by omega) (by omega)]
        omega
      rw [if_neg hno]
      have z0 : zS L xs (nI k) = some (xs k) := zS_n (by omega) hL
      have z1 : zS L xs (nI k + 1) = some (xs (k + 1)) := by rw [nI_1]; exact zS_n (by omega) hL
      have z2 : zS L xs (nI k + 2) = some (xs (k + 2)) := by rw [show (2 : Int32) = nI 2 from rfl, nI_add]; exact zS_n (by omega) hL
      have z3 : zS L xs (nI k + 3) = some (xs (k + 3)) := by rw [show (3 : Int32) = nI 3 from rfl, nI_add]; exact zS_n (by omega) hL
      have z4 : zS L xs (nI k + 4) = some (xs (k + 4)) := by rw [show (4 : Int32) = nI 4 from rfl, nI_add]; exact zS_n (by omega) hL
      have z5 : zS L xs (nI k + 5) = some (xs (k + 5)) := by rw [show (5 : Int32) = nI 5 from rfl, nI_add]; exact zS_n (by omega) hL
      have z6 : zS L xs (nI k + 6) = some (xs (k + 6)) := by rw [show (6 : Int32) = nI 6 from rfl, nI_add]; exact zS_n (by omega) hL
      have hK : ∀ (si' : Nat → Nat → Int32) (sq' : Nat → Nat → Nat) (sl' : Nat → Nat → Int64) (A' : Nat → Nat → Int32) (B' : Nat → Nat → Int64) (mi' : Nat → Int32) (ml' : Nat → Int64) (C' : Nat → Nat → Int32) (E' : Nat → Nat → Int64), Rel si' sq' A' B' mi' C' E' → b_L_law_925 L xs (b_L_law_18 L xs n) N cs sL (mh y mi' ml' C' E' (xh x si' sq' sl' A' B' g0)) x y (nI k) = some 1 := by
        intro si' sq' sl' A' B' mi' ml' C' E' hR'
        unfold b_L_law_925
        rw [show (7 : Int32) = nI 7 from rfl, nI_add]
        exact ih (k + 7) si' sq' sl' A' B' mi' ml' C' E' hR' (by omega) (by omega)
      rw [z0, Option.bind_some]
      generalize xs k &&& 31 = v
      by_cases h0 : v = (0 : Int32)
      · rw [if_pos h0]
        simp only [z1, z2, z3, Option.bind_some]
        exact law_step hy hcs (fun h => b_X10_type_0 h x ((((Int32.toInt64 (xs (k + 1))) <<< (Int32.toInt64 (32 : Int32) &&& 63))) ||| ((Int32.toInt64 (xs (k + 2))) &&& (4294967295 : Int64))) (xs (k + 3))) (fun h => b_X11_type_0 h y ((((Int32.toInt64 (xs (k + 1))) <<< (Int32.toInt64 (32 : Int32) &&& 63))) ||| ((Int32.toInt64 (xs (k + 2))) &&& (4294967295 : Int64))) (xs (k + 3))) (fun h => b_L_law_925 L xs (b_L_law_18 L xs n) N cs sL h x y (nI k)) (fun g g2 => rel_type ((((Int32.toInt64 (xs (k + 1))) <<< (Int32.toInt64 (32 : Int32) &&& 63))) ||| ((Int32.toInt64 (xs (k + 2))) &&& (4294967295 : Int64))) (xs (k + 3)) hR) hK
      rw [if_neg h0]
      by_cases h1 : v = (1 : Int32)
      · rw [if_pos h1]
        simp only [z1, z2, z3, Option.bind_some]
        exact law_step hy hcs (fun h => b_X10_pattern_0 h x (xs (k + 1))) (fun h => b_X11_pattern_0 h y (xs (k + 1))) (fun h => b_L_law_925 L xs (b_L_law_18 L xs n) N cs sL h x y (nI k)) (fun g g2 => rel_pattern (xs (k + 1)) hR) hK
      rw [if_neg h1]
      by_cases h2 : v = (2 : Int32)
      · rw [if_pos h2]
        exact law_step hy hcs (fun h => b_X10_place_0 h x ) (fun h => b_X11_place_0 h y ) (fun h => b_L_law_925 L xs (b_L_law_18 L xs n) N cs sL h x y (nI k)) (fun g g2 => rel_place  hR) hK
      rw [if_neg h2]
      by_cases h3 : v = (3 : Int32)
      · rw [if_pos h3]
        simp only [z1, z2, z3, Option.bind_some]
        exact law_step hy hcs (fun h => b_X10_has_0 h x (xs (k + 1)) (xs (k + 2)) (xs (k + 3))) (fun h => b_X11_has_0 h y (xs (k + 1)) (xs (k + 2)) (xs (k + 3))) (fun h => b_L_law_925 L xs (b_L_law_18 L xs n) N cs sL h x y (nI k)) (fun g g2 => rel_has (xs (k + 1)) (xs (k + 2)) (xs (k + 3)) hR) hK
      rw [if_neg h3]
      by_cases h4 : v = (4 : Int32)
      · rw [if_pos h4]
        simp only [z1, z2, z3, Option.bind_some]
        exact law_step hy hcs (fun h => b_X10_insert_0 h x (xs (k + 1))) (fun h => b_X11_insert_0 h y (xs (k + 1))) (fun h => b_L_law_925 L xs (b_L_law_18 L xs n) N cs sL h x y (nI k)) (fun g g2 => rel_insert (xs (k + 1)) hR) hK
      rw [if_neg h4]
      by_cases h5 : v = (5 : Int32)
      · rw [if_pos h5]
        simp only [z1, z2, z3, Option.bind_some]
        exact law_step hy hcs (fun h => b_X10_cut_0 h x (xs (k + 1)) (xs (k + 2))) (fun h => b_X11_cut_0 h y (xs (k + 1)) (xs (k + 2))) (fun h => b_L_law_925 L xs (b_L_law_18 L xs n) N cs sL h x y (nI k)) (fun g g2 => rel_cut (xs (k + 1)) (xs (k + 2)) hR) hK
      rw [if_neg h5]
      by_cases h6 : v = (6 : Int32)
      · rw [if_pos h6]
        exact law_step hy hcs (fun h => b_X10_undo_0 h x ) (fun h => b_X11_undo_0 h y ) (fun h => b_L_law_925 L xs (b_L_law_18 L xs n) N cs sL h x y (nI k)) (fun g g2 => rel_undo  hR) hK
      rw [if_neg h6]
      by_cases h7 : v = (7 : Int32)
      · rw [if_pos h7]
        simp only [z1, z2, z3, Option.bind_some]
        exact law_step hy hcs (fun h => b_X10_byteAt_0 h x (xs (k + 1))) (fun h => b_X11_byteAt_0 h y (xs (k + 1))) (fun h => b_L_law_925 L xs (b_L_law_18 L xs n) N cs sL h x y (nI k)) (fun g g2 => rel_byteAt (xs (k + 1)) hR) hK
      rw [if_neg h7]
      by_cases h8 : v = (8 : Int32)
      · rw [if_pos h8]
        exact law_step hy hcs (fun h => b_X10_length_0 h x ) (fun h => b_X11_length_0 h y ) (fun h => b_L_law_925 L xs (b_L_law_18 L xs n) N cs sL h x y (nI k)) (fun g g2 => rel_length  hR) hK
      rw [if_neg h8]
      by_cases h9 : v = (9 : Int32)
      · rw [if_pos h9]
        by_cases hb : xs (k + 3) = 0
        · simp only [z1, z2, z3, z4, z5, z6, Option.bind_some, if_pos hb, b_L_law_395, b_L_law_422]
          exact law_step hy hcs (fun h => b_X10_find_0 h x (xs (k + 1)) (xs (k + 2)) (0 : Int32)) (fun h => b_X11_find_0 h y (xs (k + 1)) (xs (k + 2)) (0 : Int32)) (fun h => b_L_law_925 L xs (b_L_law_18 L xs n) N cs sL h x y (nI k)) (fun g g2 => rel_find (xs (k + 1)) (xs (k + 2)) false hR) hK
        · simp only [z1, z2, z3, z4, z5, z6, Option.bind_some, if_neg hb, b_L_law_395, b_L_law_422]
          exact law_step hy hcs (fun h => b_X10_find_0 h x (xs (k + 1)) (xs (k + 2)) (1 : Int32)) (fun h => b_X11_find_0 h y (xs (k + 1)) (xs (k + 2)) (1 : Int32)) (fun h => b_L_law_925 L xs (b_L_law_18 L xs n) N cs sL h x y (nI k)) (fun g g2 => rel_find (xs (k + 1)) (xs (k + 2)) true hR) hK
      rw [if_neg h9]
      by_cases h10 : v = (10 : Int32)
      · rw [if_pos h10]
        simp only [z1, z2, z3, Option.bind_some]
        exact law_step hy hcs (fun h => b_X10_hit_0 h x (xs (k + 1)) (xs (k + 2))) (fun h => b_X11_hit_0 h y (xs (k + 1)) (xs (k + 2))) (fun h => b_L_law_925 L xs (b_L_law_18 L xs n) N cs sL h x y (nI k)) (fun g g2 => rel_hit (xs (k + 1)) (xs (k + 2)) hR) hK
      rw [if_neg h10]
      by_cases h11 : v = (11 : Int32)
      · rw [if_pos h11]
        simp only [z1, z2, z3, Option.bind_some]
        exact law_step hy hcs (fun h => b_X10_step_0 h x (xs (k + 1)) (xs (k + 2))) (fun h => b_X11_step_0 h y (xs (k + 1)) (xs (k + 2))) (fun h => b_L_law_925 L xs (b_L_law_18 L xs n) N cs sL h x y (nI k)) (fun g g2 => rel_step (xs (k + 1)) (xs (k + 2)) hR) hK
      rw [if_neg h11]
      by_cases h12 : v = (12 : Int32)
      · rw [if_pos h12]
        by_cases hb : xs (k + 2) = 0
        · simp only [z1, z2, z3, z4, z5, z6, Option.bind_some, if_pos hb, b_L_law_515, b_L_law_542]
          exact law_step hy hcs (fun h => b_X10_nearest_0 h x (xs (k + 1)) (0 : Int32) (xs (k + 3))) (fun h => b_X11_nearest_0 h y (xs (k + 1)) (0 : Int32) (xs (k + 3))) (fun h => b_L_law_925 L xs (b_L_law_18 L xs n) N cs sL h x y (nI k)) (fun g g2 => rel_nearest (xs (k + 1)) (xs (k + 3)) false hR) hK
        · simp only [z1, z2, z3, z4, z5, z6, Option.bind_some, if_neg hb, b_L_law_515, b_L_law_542]
          exact law_step hy hcs (fun h => b_X10_nearest_0 h x (xs (k + 1)) (1 : Int32) (xs (k + 3))) (fun h => b_X11_nearest_0 h y (xs (k + 1)) (1 : Int32) (xs (k + 3))) (fun h => b_L_law_925 L xs (b_L_law_18 L xs n) N cs sL h x y (nI k)) (fun g g2 => rel_nearest (xs (k + 1)) (xs (k + 3)) true hR) hK
      rw [if_neg h12]
      by_cases h13 : v = (13 : Int32)
      · rw [if_pos h13]
        by_cases hb : xs (k + 3) = 0
        · simp only [z1, z2, z3, z4, z5, z6, Option.bind_some, if_pos hb, b_L_law_579, b_L_law_606]
          exact law_step hy hcs (fun h => b_X10_lines_0 h x (xs (k + 1)) (xs (k + 2)) (0 : Int32)) (fun h => b_X11_lines_0 h y (xs (k + 1)) (xs (k + 2)) (0 : Int32)) (fun h => b_L_law_925 L xs (b_L_law_18 L xs n) N cs sL h x y (nI k)) (fun g g2 => rel_lines (xs (k + 1)) (xs (k + 2)) false hR) hK
        · simp only [z1, z2, z3, z4, z5, z6, Option.bind_some, if_neg hb, b_L_law_579, b_L_law_606]
          exact law_step hy hcs (fun h => b_X10_lines_0 h x (xs (k + 1)) (xs (k + 2)) (1 : Int32)) (fun h => b_X11_lines_0 h y (xs (k + 1)) (xs (k + 2)) (1 : Int32)) (fun h => b_L_law_925 L xs (b_L_law_18 L xs n) N cs sL h x y (nI k)) (fun g g2 => rel_lines (xs (k + 1)) (xs (k + 2)) true hR) hK
      rw [if_neg h13]
      by_cases h14 : v = (14 : Int32)
      · rw [if_pos h14]
        simp only [z1, z2, z3, Option.bind_some]
        exact law_step hy hcs (fun h => b_X10_line_0 h x (xs (k + 1))) (fun h => b_X11_line_0 h y (xs (k + 1))) (fun h => b_L_law_925 L xs (b_L_law_18 L xs n) N cs sL h x y (nI k)) (fun g g2 => rel_line (xs (k + 1)) hR) hK
      rw [if_neg h14]
      by_cases h15 : v = (15 : Int32)
      · rw [if_pos h15]
        by_cases hb : xs (k + 3) = 0
        · simp only [z1, z2, z3, z4, z5, z6, Option.bind_some, if_pos hb, b_L_law_661, b_L_law_688]
          exact law_step hy hcs (fun h => b_X10_replace_0 h x (xs (k + 1)) (xs (k + 2)) (0 : Int32)) (fun h => b_X11_replace_0 h y (xs (k + 1)) (xs (k + 2)) (0 : Int32)) (fun h => b_L_law_925 L xs (b_L_law_18 L xs n) N cs sL h x y (nI k)) (fun g g2 => rel_replace (xs (k + 1)) (xs (k + 2)) false hR) hK
        · simp only [z1, z2, z3, z4, z5, z6, Option.bind_some, if_neg hb, b_L_law_661, b_L_law_688]
          exact law_step hy hcs (fun h => b_X10_replace_0 h x (xs (k + 1)) (xs (k + 2)) (1 : Int32)) (fun h => b_X11_replace_0 h y (xs (k + 1)) (xs (k + 2)) (1 : Int32)) (fun h => b_L_law_925 L xs (b_L_law_18 L xs n) N cs sL h x y (nI k)) (fun g g2 => rel_replace (xs (k + 1)) (xs (k + 2)) true hR) hK
      rw [if_neg h15]
      by_cases h16 : v = (16 : Int32)
      · rw [if_pos h16]
        by_cases hb : xs (k + 4) = 0
        · simp only [z1, z2, z3, z4, z5, z6, Option.bind_some, if_pos hb, b_L_law_725, b_L_law_762]
          exact law_step hy hcs (fun h => b_X10_whole_0 h x (xs (k + 1)) (xs (k + 2)) (xs (k + 3)) (0 : Int32) (xs (k + 5))) (fun h => b_X11_whole_0 h y (xs (k + 1)) (xs (k + 2)) (xs (k + 3)) (0 : Int32) (xs (k + 5))) (fun h => b_L_law_925 L xs (b_L_law_18 L xs n) N cs sL h x y (nI k)) (fun g g2 => rel_whole (xs (k + 1)) (xs (k + 2)) (xs (k + 3)) false (xs (k + 5)) hR) hK
        · simp only [z1, z2, z3, z4, z5, z6, Option.bind_some, if_neg hb, b_L_law_725, b_L_law_762]
          exact law_step hy hcs (fun h => b_X10_whole_0 h x (xs (k + 1)) (xs (k + 2)) (xs (k + 3)) (1 : Int32) (xs (k + 5))) (fun h => b_X11_whole_0 h y (xs (k + 1)) (xs (k + 2)) (xs (k + 3)) (1 : Int32) (xs (k + 5))) (fun h => b_L_law_925 L xs (b_L_law_18 L xs n) N cs sL h x y (nI k)) (fun g g2 => rel_whole (xs (k + 1)) (xs (k + 2)) (xs (k + 3)) true (xs (k + 5)) hR) hK
      rw [if_neg h16]
      by_cases h17 : v = (17 : Int32)
      · rw [if_pos h17]
        by_cases hb : xs (k + 3) = 0
        · simp only [z1, z2, z3, z4, z5, z6, Option.bind_some, if_pos hb, b_L_law_799, b_L_law_826]
          exact law_step hy hcs (fun h => b_X10_which_0 h x (xs (k + 1)) (xs (k + 2)) (0 : Int32)) (fun h => b_X11_which_0 h y (xs (k + 1)) (xs (k + 2)) (0 : Int32)) (fun h => b_L_law_925 L xs (b_L_law_18 L xs n) N cs sL h x y (nI k)) (fun g g2 => rel_which (xs (k + 1)) (xs (k + 2)) false hR) hK
        · simp only [z1, z2, z3, z4, z5, z6, Option.bind_some, if_neg hb, b_L_law_799, b_L_law_826]
          exact law_step hy hcs (fun h => b_X10_which_0 h x (xs (k + 1)) (xs (k + 2)) (1 : Int32)) (fun h => b_X11_which_0 h y (xs (k + 1)) (xs (k + 2)) (1 : Int32)) (fun h => b_L_law_925 L xs (b_L_law_18 L xs n) N cs sL h x y (nI k)) (fun g g2 => rel_which (xs (k + 1)) (xs (k + 2)) true hR) hK
      rw [if_neg h17]
      by_cases h18 : v = (18 : Int32)
      · rw [if_pos h18]
        by_cases hb : xs (k + 5) = 0
        · simp only [z1, z2, z3, z4, z5, z6, Option.bind_some, if_pos hb, b_L_law_868, b_L_law_911]
          exact law_step hy hcs (fun h => b_X10_apart_0 h x (xs (k + 1)) (xs (k + 2)) (xs (k + 3)) (xs (k + 4)) (0 : Int32) (xs (k + 6))) (fun h => b_X11_apart_0 h y (xs (k + 1)) (xs (k + 2)) (xs (k + 3)) (xs (k + 4)) (0 : Int32) (xs (k + 6))) (fun h => b_L_law_925 L xs (b_L_law_18 L xs n) N cs sL h x y (nI k)) (fun g g2 => rel_apart (xs (k + 1)) (xs (k + 2)) (xs (k + 3)) (xs (k + 4)) false (xs (k + 6)) hR) hK
        · simp only [z1, z2, z3, z4, z5, z6, Option.bind_some, if_neg hb, b_L_law_868, b_L_law_911]
          exact law_step hy hcs (fun h => b_X10_apart_0 h x (xs (k + 1)) (xs (k + 2)) (xs (k + 3)) (xs (k + 4)) (1 : Int32) (xs (k + 6))) (fun h => b_X11_apart_0 h y (xs (k + 1)) (xs (k + 2)) (xs (k + 3)) (xs (k + 4)) (1 : Int32) (xs (k + 6))) (fun h => b_L_law_925 L xs (b_L_law_18 L xs n) N cs sL h x y (nI k)) (fun g g2 => rel_apart (xs (k + 1)) (xs (k + 2)) (xs (k + 3)) (xs (k + 4)) true (xs (k + 6)) hR) hK
      rw [if_neg h18]
      exact hK si sq sl A B mi ml C E hR
end LL
