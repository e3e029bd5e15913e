/-! WHICH, APART -/
section WH
variable {x : Nat} {si : Nat → Nat → Int32} {sq : Nat → Nat → Nat} {sl : Nat → Nat → Int64} {A : Nat → Nat → Int32} {B : Nat → Nat → Int64} {g g2 : zh_H}
variable {y : Nat} {mi : Nat → Int32} {ml : Nat → Int64} {C : Nat → Nat → Int32} {E : Nat → Nat → Int64}
variable {sw : Bool}
theorem rText_f {si' : Nat → Nat → Int32} {A' : Nat → Nat → Int32} {mi' : Nat → Int32} {C' : Nat → Nat → Int32} (h : rText si A mi C) (h1 : si' 3 1 = si 3 1) (h2 : A' 4 = A 4) (h3 : mi' 3 = mi 3) (h4 : C' 2 = C 2) : rText si' A' mi' C' := by
  unfold rText
  rw [h1, h2, h3, h4]
  exact h
theorem rPats_f {si' : Nat → Nat → Int32} {B' : Nat → Nat → Int64} {C' : Nat → Nat → Int32} {E' : Nat → Nat → Int64} (h : rPats si B C E) (h1 : ∀ p, p < 8 → si' (20 + 3 * p) 2 = si (20 + 3 * p) 2) (h2 : ∀ k, 20 ≤ k → k ≤ 43 → B' k = B k) (h3 : C' 7 = C 7) (h4 : E' 5 = E 5) (h5 : E' 6 = E 6) : rPats si' B' C' E' := by
  intro p hp
  rw [h1 p hp, h2 (21 + 3 * p) (by omega) (by omega), h2 (22 + 3 * p) (by omega) (by omega), h3, h4, h5]
  exact h p hp
theorem which_lp {a b n : Nat} (hab : a ≤ b) (hbn : b ≤ n) (hn : n ≤ 1500) : ∀ (d p fx fm : Nat) (best lea lim : Int32) (si : Nat → Nat → Int32) (sq : Nat → Nat → Nat) (A : Nat → Nat → Int32) (B : Nat → Nat → Int64) (mi : Nat → Int32) (C : Nat → Nat → Int32) (E : Nat → Nat → Int64), p + d = 8 → d < fx → d < fm → ((best = -1 ∧ lim = nI 2000) ∨ (∃ q D0, q < 8 ∧ best = nI q ∧ lea = nI D0 ∧ lim = nI D0 - 1 ∧ D0 ≤ 1900)) → si 3 1 = nI n → mi 3 = nI n → rB (A 4) (C 2) n → rPats si B C E → rC sq → ∃ r si' sq' A' B' mi' C' E', b_X10_which_26 fx (xh x si sq sl A B g) x (nI a) (nI b) (bI sw) best lim (nI p) = some (r, xh x si' sq' sl A' B' g) ∧ b_X11_which_21 fm (mh y mi ml C E g2) y (nI a) (nI b) (bI sw) best lea (nI p) = some (r, mh y mi' ml C' E' g2) ∧ rC sq' ∧ fRd si si' sq sq' A A' B B' ∧ (∀ k, k ≠ 21 → k ≠ 23 → k ≠ 24 → mi' k = mi k) ∧ (∀ k, k < 12 ∨ 18 < k → C' k = C k) ∧ (∀ k, k ≠ 10 → k ≠ 11 → E' k = E k) := by
  intro d
  induction d with
  | zero =>
    intro p fx fm best lea lim si sq A B mi C E hp hfx hfm hcase h3 h3m n3 hP hC
    obtain ⟨fx, rfl⟩ : ∃ f, fx = f + 1 := ⟨fx - 1, by omega⟩
    obtain ⟨fm, rfl⟩ : ∃ f, fm = f + 1 := ⟨fm - 1, by omega⟩
    have h8 : (8 : Int32) ≤ nI p := nI_le (a := 8) (by omega) (by omega)
    refine ⟨best, si, sq, A, B, mi, C, E, ?_, ?_, hC, fRd_r, fun _ _ _ _ => rfl, fun _ _ => rfl, fun _ _ _ => rfl⟩
    · unfold b_X10_which_26; rw [if_pos h8]
    · unfold b_X11_which_21; rw [if_pos h8]
  | succ d ih =>
    intro p fx fm best lea lim si sq A B mi C E hp hfx hfm hcase h3 h3m n3 hP hC
    obtain ⟨fx, rfl⟩ : ∃ f, fx = f + 1 := ⟨fx - 1, by omega⟩
    obtain ⟨fm, rfl⟩ : ∃ f, fm = f + 1 := ⟨fm - 1, by omega⟩
    have h8 : ¬ (8 : Int32) ≤ nI p := nI_ge (b := 8) (by omega) (by decide)
    have hq : p < 8 := by omega
    obtain ⟨s, hs, s1, s2, s3⟩ := hP p hq
    by_cases h0 : s = 0
    · subst h0
      obtain ⟨r, si', sq', A', B', mi', C', E', k1, k2, k3⟩ := ih (p + 1) fx fm best lea lim si sq A B mi C E (by omega) (by omega) (by omega) hcase h3 h3m n3 hP hC
      refine ⟨r, si', sq', A', B', mi', C', E', ?_, ?_, k3⟩
      · conv => lhs; unfold b_X10_which_26
        rw [if_neg h8, xo_EF, Option.bind_some, x_isPattern_0 hq s1, zbp_some, if_pos rfl]
        unfold b_X10_which_84
        rw [nI_1]
        exact k1
      · conv => lhs; unfold b_X11_which_21
        rw [if_neg h8, mr_setCount, Option.bind_some, ml_setCount hq, Option.bind_some, s2, if_pos (by decide)]
        unfold b_X11_which_81
        rw [nI_1]
        exact k2
    · obtain ⟨C1, E1, m1, m2, m3, m4, m5⟩ := m_load (y := y) (mi := mi) (ml := ml) (g2 := g2) (A := A) (B := B) (sw := sw) hq hs s2 s3 hn n3 hab hbn
      obtain ⟨C2, k1, k2⟩ := m_distance (y := y) (ml := ml) (g := g2) m2
      have hDb := cs_le (fr := false) (mt := fun i j => mtx (B (20 + 3 * p + 1)) (B (20 + 3 * p + 2)) (C 2) i (a + j)) (sw := sw) (b - a) s
      generalize hD : cs fC (fR false) (fun i j => mtx (B (20 + 3 * p + 1)) (B (20 + 3 * p + 2)) (C 2) i (a + j)) sw (b - a) s = D at hDb k1
      have em0 : b_X11_which_21 (fm + 1) (mh y mi ml C E g2) y (nI a) (nI b) (bI sw) best lea (nI p) = if best < (0 : Int32) then b_X11_which_73 (b_X11_which_21 fm) (mh y (upd (upd (upd mi 21 (nI s)) 23 (nI (b - a))) 24 (bI sw)) ml C2 E1 g2) y (nI a) (nI b) (bI sw) (nI p) (nI D) else if lea ≤ nI D then b_X11_which_81 (b_X11_which_21 fm) (mh y (upd (upd (upd mi 21 (nI s)) 23 (nI (b - a))) 24 (bI sw)) ml C2 E1 g2) y (nI a) (nI b) (bI sw) best lea (nI p) else b_X11_which_73 (b_X11_which_21 fm) (mh y (upd (upd (upd mi 21 (nI s)) 23 (nI (b - a))) 24 (bI sw)) ml C2 E1 g2) y (nI a) (nI b) (bI sw) (nI p) (nI D) := by
        have hm : (((b_X11_loadPattern_0 (mh y mi ml C E g2) y (nI p)).bind fun h10 => (isO h10 y 11).bind fun o11 => (b_X11_loadBytes_0 h10 y (nI a) (nI b)).bind fun h12 => (pZ h12 y 11 24 (bI sw)).bind fun h13 => (isO h13 y 11).bind fun o14 => zbp (b_X11_distance_0 h13 y ) fun v10 h9 => if best < (0 : Int32) then b_X11_which_73 (b_X11_which_21 fm) h9 y (nI a) (nI b) (bI sw) (nI p) v10 else if lea ≤ v10 then b_X11_which_81 (b_X11_which_21 fm) h9 y (nI a) (nI b) (bI sw) best lea (nI p) else b_X11_which_73 (b_X11_which_21 fm) h9 y (nI a) (nI b) (bI sw) (nI p) v10)) = ((b_X11_loadPattern_0 (mh y mi ml C E g2) y (nI p)).bind fun h4 => (isO h4 y 11).bind fun o5 => (b_X11_loadBytes_0 h4 y (nI a) (nI b)).bind fun h6 => pZ h6 y 11 24 (bI sw)).bind fun h13 => (isO h13 y 11).bind fun o14 => zbp (b_X11_distance_0 h13 y ) fun v10 h9 => if best < (0 : Int32) then b_X11_which_73 (b_X11_which_21 fm) h9 y (nI a) (nI b) (bI sw) (nI p) v10 else if lea ≤ v10 then b_X11_which_81 (b_X11_which_21 fm) h9 y (nI a) (nI b) (bI sw) best lea (nI p) else b_X11_which_73 (b_X11_which_21 fm) h9 y (nI a) (nI b) (bI sw) (nI p) v10 := by
          simp only [Option.bind_assoc]
        conv => lhs; unfold b_X11_which_21
        rw [if_neg h8, mr_setCount, Option.bind_some, ml_setCount hq, Option.bind_some, s2, if_neg (nI_nle (by omega) (by omega)), mis, Option.bind_some, hm, m1, Option.bind_some, mis, Option.bind_some, k1, zbp_some]
      have ex0 : ∀ v si1 sq1 A1 B1, b_X5_distance_0 (xh x si sq sl A B g) (x + 60) (x + (20 + 3 * p)) (x + 3) (nI a) (nI b) (bI sw) lim = some (v, xh x si1 sq1 sl A1 B1 g) → b_X10_which_26 (fx + 1) (xh x si sq sl A B g) x (nI a) (nI b) (bI sw) best lim (nI p) = if lim < v then b_X10_which_26 fx (xh x si1 sq1 sl A1 B1 g) x (nI a) (nI b) (bI sw) best lim (nI (p + 1)) else b_X10_which_26 fx (xh x si1 sq1 sl A1 B1 g) x (nI a) (nI b) (bI sw) (nI p) (v - 1) (nI (p + 1)) := by
        intro v si1 sq1 A1 B1 hd
        conv => lhs; unfold b_X10_which_26
        rw [if_neg h8, xo_EF, Option.bind_some, x_isPattern_t hq s1 (by omega) hs, zbp_some, if_neg (by decide), xg_EF_8, Option.bind_some, xg_EF_4, Option.bind_some, xpr hq, Option.bind_some, xg_EF_1, Option.bind_some, xo_Ru, Option.bind_some, hd, zbp_some]
        unfold b_X10_which_84
        rw [nI_1]
      have mfr : ∀ k, k ≠ 21 → k ≠ 23 → k ≠ 24 → (upd (upd (upd mi 21 (nI s)) 23 (nI (b - a))) 24 (bI sw)) k = mi k := fun k q1 q2 q3 => by rw [pk_un q3, pk_un q2, pk_un q1]
      have cfr : ∀ k, k < 12 ∨ 18 < k → C2 k = C k := fun k hk => by rw [k2 k (by omega), m3 k (by omega)]
      -- going on
      have fin : ∀ (v best' lea' lim' : Int32) (si1 : Nat → Nat → Int32) (sq1 : Nat → Nat → Nat) (A1 : Nat → Nat → Int32) (B1 : Nat → Nat → Int64), b_X10_which_26 (fx + 1) (xh x si sq sl A B g) x (nI a) (nI b) (bI sw) best lim (nI p) = b_X10_which_26 fx (xh x si1 sq1 sl A1 B1 g) x (nI a) (nI b) (bI sw) best' lim' (nI (p + 1)) → b_X11_which_21 (fm + 1) (mh y mi ml C E g2) y (nI a) (nI b) (bI sw) best lea (nI p) = b_X11_which_21 fm (mh y (upd (upd (upd mi 21 (nI s)) 23 (nI (b - a))) 24 (bI sw)) ml C2 E1 g2) y (nI a) (nI b) (bI sw) best' lea' (nI (p + 1)) → fRd si si1 sq sq1 A A1 B B1 → rC sq1 → ((best' = -1 ∧ lim' = nI 2000) ∨ (∃ q D0, q < 8 ∧ best' = nI q ∧ lea' = nI D0 ∧ lim' = nI D0 - 1 ∧ D0 ≤ 1900)) → ∃ r si' sq' A' B' mi' C' E', b_X10_which_26 (fx + 1) (xh x si sq sl A B g) x (nI a) (nI b) (bI sw) best lim (nI p) = some (r, xh x si' sq' sl A' B' g) ∧ b_X11_which_21 (fm + 1) (mh y mi ml C E g2) y (nI a) (nI b) (bI sw) best lea (nI p) = some (r, mh y mi' ml C' E' g2) ∧ rC sq' ∧ fRd si si' sq sq' A A' B B' ∧ (∀ k, k ≠ 21 → k ≠ 23 → k ≠ 24 → mi' k = mi k) ∧ (∀ k, k < 12 ∨ 18 < k → C' k = C k) ∧ (∀ k, k ≠ 10 → k ≠ 11 → E' k = E k) := by
        intro v best' lea' lim' si1 sq1 A1 B1 hx hm f1 hC1 hc
        obtain ⟨r, si', sq', A', B', mi', C', E', j1, j2, j3, j4, j5, j6, j7⟩ := ih (p + 1) fx fm best' lea' lim' si1 sq1 A1 B1 (upd (upd (upd mi 21 (nI s)) 23 (nI (b - a))) 24 (bI sw)) C2 E1 (by omega) (by omega) (by omega) hc (by rw [f1.1 3 1 (by decide) (by decide)]; exact h3) (by rw [mfr 3 (by decide) (by decide) (by decide)]; exact h3m) (by rw [f1.2.2.1 4 (by decide), cfr 2 (by decide)]; exact n3) (rPats_f hP (fun p hp => f1.1 _ 2 (by omega) (by omega)) (fun k q1 q2 => f1.2.2.2 k (by omega)) (cfr 7 (by decide)) (m4 5 (by decide) (by decide)) (m4 6 (by decide) (by decide))) hC1
        exact ⟨r, si', sq', A', B', mi', C', E', hx.trans j1, hm.trans j2, j3, fRd_t f1 j4, fun k q1 q2 q3 => (j5 k q1 q2 q3).trans (mfr k q1 q2 q3), fun k hk => (j6 k hk).trans (cfr k hk), fun k q1 q2 => (j7 k q1 q2).trans (m4 k q1 q2)⟩
      have t73 : b_X11_which_73 (b_X11_which_21 fm) (mh y (upd (upd (upd mi 21 (nI s)) 23 (nI (b - a))) 24 (bI sw)) ml C2 E1 g2) y (nI a) (nI b) (bI sw) (nI p) (nI D) = b_X11_which_21 fm (mh y (upd (upd (upd mi 21 (nI s)) 23 (nI (b - a))) 24 (bI sw)) ml C2 E1 g2) y (nI a) (nI b) (bI sw) (nI p) (nI D) (nI (p + 1)) := by
        unfold b_X11_which_73 b_X11_which_81
        rw [nI_1]
      have t81 : b_X11_which_81 (b_X11_which_21 fm) (mh y (upd (upd (upd mi 21 (nI s)) 23 (nI (b - a))) 24 (bI sw)) ml C2 E1 g2) y (nI a) (nI b) (bI sw) best lea (nI p) = b_X11_which_21 fm (mh y (upd (upd (upd mi 21 (nI s)) 23 (nI (b - a))) 24 (bI sw)) ml C2 E1 g2) y (nI a) (nI b) (bI sw) best lea (nI (p + 1)) := by
        unfold b_X11_which_81
        rw [nI_1]
      rcases id hcase with ⟨rfl, rfl⟩ | ⟨q, D0, hq8, rfl, rfl, rfl, hD0⟩
      · obtain ⟨v, si1, sq1, A1, B1, d1, d2, d3, d4, d5, d6⟩ := x_distance (x := x) (sl := sl) (g := g) (sw := sw) (L := 2000) (R := 3) (Nat.le_refl _) (set_p hq) s1 (by rw [slen_p hq]; exact hs) (by omega) r31.1 h3 (show n ≤ rlen 3 from hn) hn hab hbn hC m5
        rw [hD] at d5 d6
        have hv : v = D := d5 (by omega)
        subst hv
        refine fin (nI v) (nI p) (nI v) (nI v - 1) si1 sq1 A1 B1 ?_ ?_ d2 d3 (Or.inr ⟨p, v, hq, rfl, rfl, rfl, by omega⟩)
        · rw [ex0 _ _ _ _ _ d1, if_neg (nI_nlt (by omega) (by omega))]
        · rw [em0, if_pos (by decide), t73]
      · have hb0 : ¬ nI q < (0 : Int32) := nI_pos (by omega)
        by_cases hz : D0 = 0
        · subst hz
          obtain ⟨si1, sq1, d1, d2, d3⟩ := x_dist_neg (x := x) (sl := sl) (g := g) (sw := sw) (R := 3) (set_p hq) s1 (by rw [slen_p hq]; exact hs) (by omega) r31.1 h3 (show n ≤ rlen 3 from hn) hn hab hbn hC m5
          refine fin 0 (nI q) (nI 0) (nI 0 - 1) si1 sq1 A B ?_ ?_ d2 d3 (Or.inr ⟨q, 0, hq8, rfl, rfl, rfl, by omega⟩)
          · rw [ex0 0 si1 sq1 A B d1, if_pos (by decide)]
          · rw [em0, if_neg hb0, if_pos (nI_le (by omega) (by omega)), t81]
        · rw [nI_p (by omega)] at ex0 fin ⊢
          obtain ⟨v, si1, sq1, A1, B1, d1, d2, d3, d4, d5, d6⟩ := x_distance (x := x) (sl := sl) (g := g) (sw := sw) (L := D0 - 1) (R := 3) (by omega) (set_p hq) s1 (by rw [slen_p hq]; exact hs) (by omega) r31.1 h3 (show n ≤ rlen 3 from hn) hn hab hbn hC m5
          rw [hD] at d5 d6
          by_cases hlt : D ≤ D0 - 1
          · have hv := d5 hlt
            subst hv
            refine fin (nI v) (nI p) (nI v) (nI v - 1) si1 sq1 A1 B1 ?_ ?_ d2 d3 (Or.inr ⟨p, v, hq, rfl, rfl, rfl, by omega⟩)
            · rw [ex0 _ _ _ _ _ d1, if_neg (nI_nlt (by omega) (by omega))]
            · rw [em0, if_neg hb0, if_neg (nI_ge (by omega) (by omega)), t73]
          · have hv := d6 (by omega)
            refine fin (nI v) (nI q) (nI D0) (nI (D0 - 1)) si1 sq1 A1 B1 ?_ ?_ d2 d3 (Or.inr ⟨q, D0, hq8, rfl, rfl, (nI_p (by omega)).symm, by omega⟩)
            · rw [ex0 _ _ _ _ _ d1, if_pos (nI_lt (by omega) (by omega))]
            · rw [em0, if_neg hb0, if_pos (nI_le (by omega) (by omega)), t81]
theorem op_which (a b : Int32) (sw : Bool) (hX : rText si A mi C) (hP : rPats si B C E) (hC : rC sq) : ∃ r si' sq' A' B' mi' C' E', b_X10_which_0 (xh x si sq sl A B g) x a b (bI sw) = some (r, xh x si' sq' sl A' B' g) ∧ b_X11_which_0 (mh y mi ml C E g2) y a b (bI sw) = some (r, mh y mi' ml C' E' g2) ∧ rC sq' ∧ fRd si si' sq sq' A A' B B' ∧ (∀ k, k ≠ 21 → k ≠ 23 → k ≠ 24 → mi' k = mi k) ∧ (∀ k, k < 12 ∨ 18 < k → C' k = C k) ∧ (∀ k, k ≠ 10 → k ≠ 11 → E' k = E k) := by
  obtain ⟨n, hn, n1, n2, n3⟩ := hX
  by_cases hp : okP a b n
  · obtain ⟨a, b, rfl, rfl, hab, hbn⟩ := okP_nat (by omega) hp
    obtain ⟨r, si', sq', A', B', mi', C', E', k1, k2, k3⟩ := which_lp (x := x) (sl := sl) (g := g) (g2 := g2) (y := y) (ml := ml) (sw := sw) hab hbn hn 8 0 zFuel zFuel (-1) 0 (nI 2000) si sq A B mi C E (by omega) (zF_lt (by omega)) (zF_lt (by omega)) (Or.inl ⟨rfl, rfl⟩) n1 n2 n3 hP hC
    refine ⟨r, si', sq', A', B', mi', C', E', ?_, ?_, k3⟩
    · unfold b_X10_which_0
      rw [xg_EF_1, Option.bind_some, xr_is r31.1, Option.bind_some, x_isPart_t r31.1 n1 hp, zbp_some, if_neg (by decide)]
      exact k1
    · unfold b_X11_which_0
      rw [mis, Option.bind_some, m_isPart_t n2 hp, zbp_some, if_neg (by decide)]
      exact k2
  · refine ⟨-2, si, sq, A, B, mi, C, E, ?_, ?_, hC, fRd_r, fun _ _ _ _ => rfl, fun _ _ => rfl, fun _ _ _ => rfl⟩
    · unfold b_X10_which_0
      rw [xg_EF_1, Option.bind_some, xr_is r31.1, Option.bind_some, x_isPart_f r31.1 n1 hp, zbp_some, if_pos rfl]
    · unfold b_X11_which_0
      rw [mis, Option.bind_some, m_isPart_f n2 hp, zbp_some, if_pos rfl]
end WH
