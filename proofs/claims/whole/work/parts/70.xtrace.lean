/-! THE WAY OF A HIT, the class -/
section XT
variable {x : Nat} {si : Nat → Nat → Int32} {sq : Nat → Nat → Nat} {sl : Nat → Nat → Int64} {A : Nat → Nat → Int32} {B : Nat → Nat → Int64} {g : zh_H}
variable {mt : Nat → Nat → Bool} {sw : Bool}
def fTr (si si' : Nat → Nat → Int32) (sq sq' : Nat → Nat → Nat) (A A' : Nat → Nat → Int32) (B B' : Nat → Nat → Int64) : Prop := (∀ k f, k ≠ 60 → k ≠ 69 → k ≠ 77 → si' k f = si k f) ∧ (∀ k f, k ≠ 60 → sq' k f = sq k f) ∧ (∀ k, k < 66 ∨ 68 < k → k ≠ 78 → A' k = A k) ∧ (∀ k, k ≠ 70 → B' k = B k)
theorem x_rtrace {s n b e d : Nat} (hs : s ≤ 200) (h74 : si 74 2 = nI s) (hn : n ≤ 1500) (h72 : si 72 1 = nI n) (hbe : b ≤ e) (hen : e ≤ n) (hd : d ≤ 200) (hD : cs fC (fR false) mt sw (e - b) s ≤ d) (hC : rC sq) (hmt : ∀ j, j < e - b → ∃ c, c < 127 ∧ A (72 + 1) (b + j) = nI c ∧ ∀ i, i < s → hasB (B (74 + 1) i) (B (74 + 2) i) c = mt i j) : ∃ si' sq' A' B', b_X5_trace_0 (xh x si sq sl A B g) (x + 60) (x + 74) (x + 72) (nI b) (nI e) (bI sw) (nI d) (x + 77) = some (xh x si' sq' sl A' B' g) ∧ wayX si' A' (wayL s (e - b) mt sw) ∧ rC sq' ∧ fTr si si' sq sq' A A' B B' := by
  have s74 : isSet 74 := by unfold isSet; omega
  have s72 : isRow 72 := by unfold isRow; omega
  obtain ⟨si1, sq1, e1, l1, l2, l3⟩ := x_laid (x := x) (sl := sl) (g := g) (tr := true) (sw := sw) s74 h74 (show s ≤ slen 74 from hs) (by omega) s72 h72 (show n ≤ rlen 72 from hn) hn hbe hen hC hmt
  have q1 := D_ge1 (mt := mt) (sw := sw) (e - b) s
  have q2 := D_ge2 (mt := mt) (sw := sw) (e - b) s
  have hm : e - b ≤ 400 := by omega
  have hcel : (e - b + 1) * (d + 1) ≤ 80608 := Nat.le_trans (Nat.mul_le_mul (show e - b + 1 ≤ 401 by omega) (show d + 1 ≤ 201 by omega)) (by decide)
  obtain ⟨r, si2, sq2, A2, B2, m1, m2, m3, m4, m5, m6⟩ := x_measure (x := x) (sl := sl) (g := g) (β := d) (by omega) (fun _ _ => hcel) l1 l2
  obtain ⟨-, lo, hi, hlh, hbd, R⟩ := m4 hD
  have hcel2 : (e - b + 1) * (lo + hi + 1) ≤ 80608 := Nat.le_trans (Nat.mul_le_mul_left _ (by omega)) hcel
  have L2 := xLd_f l1 m2
  obtain ⟨-, r1, r2, r3, r4, -, -, -, r8⟩ := R
  have hlen := wlk_len (mt := mt) (sw := sw) (s + (e - b)) s (e - b)
  obtain ⟨f', w1, w2, w3⟩ := x_walk (x := x) (sq := sq2) (sl := sl) (B := B2) (g := g) hbd hcel2 r8 (s + (e - b)) s (e - b) 0 zFuel (u2 si2 77 1 0) A2 (Nat.le_refl _) (zF_lt (by omega)) (Nat.le_refl _) (Nat.le_refl _) (by omega) (by omega) (by unfold phi; omega) (by omega) u2_s (by rw [u2_n (Or.inl (by decide))]; exact r3) (by rw [u2_n (Or.inl (by decide))]; exact r4)
  obtain ⟨h1, h2, h3, h4, h5, h6, h7, h8, h9, h10, h11, h12, h13, h14, h15, h16⟩ := id L2
  refine ⟨u2 (u2 si2 77 1 0) 77 1 (nI (0 + (wlk (cs fC (fR false) mt sw) mt sw (s + (e - b)) s (e - b)).length)), sq2, ua A2 78 f', B2, ?_, ⟨?_, fun q hq => ?_⟩, m6, ?_⟩
  · unfold b_X5_trace_0
    have : ((b_X5_lay_0 (xh x si sq sl A B g) (x + 60) (x + 74) (x + 72) (nI b) (nI e) (bI sw)).bind fun h2 => (pZ h2 (x + 60) 5 14 (1 : Int32)).bind fun h3 => (isO h3 (x + 60) 5).bind fun o4 => zbp (b_X5_measure_0 h3 (x + 60) (nI d)) fun v6 h5 => (isO h5 (x + 60) 5).bind fun o7 => (b_X5_walkBack_0 h5 (x + 60) (x + 77)).bind fun h8 => some h8) = (((b_X5_lay_0 (xh x si sq sl A B g) (x + 60) (x + 74) (x + 72) (nI b) (nI e) (bI sw)).bind fun h2 => pZ h2 (x + 60) 5 14 (bI true)).bind fun h3 => (isO h3 (x + 60) 5).bind fun o4 => zbp (b_X5_measure_0 h3 (x + 60) (nI d)) fun v6 h5 => (isO h5 (x + 60) 5).bind fun o7 => (b_X5_walkBack_0 h5 (x + 60) (x + 77)).bind fun h8 => some h8) := by
      rw [Option.bind_assoc]
      rfl
    rw [xo_Ru, Option.bind_some, this, e1, Option.bind_some, xo_Ru, Option.bind_some, m1, zbp_some, xo_Ru, Option.bind_some]
    have ew : b_X5_walkBack_0 (xh x si2 sq2 sl A2 B2 g) (x + 60) (x + 77) = b_X5_walkBack_20 zFuel (xh x (u2 si2 77 1 0) sq2 sl A2 B2 g) (x + 60) (x + 77) (nI s) (nI (e - b)) (nI 0) := by
      unfold b_X5_walkBack_0 b_X9_clear_0
      rw [xo_Wa, Option.bind_some, xp_Wa_1, Option.bind_some, Option.bind_some, xg_Ru_0, Option.bind_some, h5, xs_g s74, Option.bind_some, u2_n (Or.inl (by decide)), h2, xg_Ru_3, Option.bind_some, u2_n (Or.inl (by decide)), h13]
      rfl
    rw [ew, w1, Option.bind_some]
  · rw [u2_s, Nat.zero_add]
    rfl
  · rw [ua_s]
    have := w3 q hq
    rw [Nat.zero_add] at this
    exact this
  · obtain ⟨b1, b2, b3, b4⟩ := fRd_t l3 (fRu_d m2)
    refine ⟨fun k f k1 k2 k3 => ?_, b2, fun k k1 k2 => ?_, b4⟩
    · rw [u2_n (Or.inl k3), u2_n (Or.inl k3)]
      exact b1 k f k1 k2
    · rw [ua_n k2]
      exact b3 k k1
/-- the way of hit t, made or at hand -/
theorem x_htrace {mi : Nat → Int32} {C : Nat → Nat → Int32} {E : Nat → Nat → Int64} {c s n t : Nat} (hc : c ≤ 1500) (hs : s ≤ 200) (hn : n ≤ 1500) (h74 : si 74 2 = nI s) (h71 : si 71 2 = bI sw) (h72 : si 72 1 = nI n) (hB : rB (A 73) (C 22) n) (hE : ∀ j, j < s → B 75 j = E 23 j ∧ B 76 j = E 24 j) (hA : hAr si A mi C s n sw (mtx (E 23) (E 24) (C 22)) c) (hK : si 71 3 = -1 ∨ ∃ t e b, t < c ∧ si 71 3 = nI t ∧ C 19 t = nI e ∧ C 21 t = nI b ∧ b ≤ e ∧ e ≤ n ∧ wayX si A (wayL s (e - b) (fun i q => mtx (E 23) (E 24) (C 22) i (b + q)) sw)) (hC : rC sq) (ht : t < c) : ∃ e b d si' sq' A' B', C 19 t = nI e ∧ C 21 t = nI b ∧ C 20 t = nI d ∧ hOK s n sw (mtx (E 23) (E 24) (C 22)) e b d ∧ b_X2_trace_0 (xh x si sq sl A B g) (x + 71) (nI t) (x + 60) = some (xh x si' sq' sl A' B' g) ∧ si' 71 3 = nI t ∧ wayX si' A' (wayL s (e - b) (fun i q => mtx (E 23) (E 24) (C 22) i (b + q)) sw) ∧ rC sq' ∧ (∀ k f, k ≠ 60 → k ≠ 69 → k ≠ 77 → (k ≠ 71 ∨ f ≠ 3) → si' k f = si k f) ∧ (∀ k f, k ≠ 60 → sq' k f = sq k f) ∧ (∀ k, k < 66 ∨ 68 < k → k ≠ 78 → A' k = A k) ∧ (∀ k, k ≠ 70 → B' k = B k) := by
  obtain ⟨a1, a2, a3⟩ := id hA
  obtain ⟨e, b, d, p1, p2, p3, p4, p5, p6, ok⟩ := a3 t ht
  by_cases hte : nI t = si 71 3
  · refine ⟨e, b, d, si, sq, A, B, p2, p6, p4, ok, ?_, hte.symm, ?_, hC, fun _ _ _ _ _ _ => rfl, fun _ _ _ => rfl, fun _ _ _ => rfl, fun _ _ => rfl⟩
    · unfold b_X2_trace_0 b_X2_trace_63
      rw [xg_Ht_3, Option.bind_some, if_pos hte]
    · rcases hK with h | ⟨t', e', b', k1, k2, k3, k4, k5, k6, k7⟩
      · rw [h] at hte
        exact absurd (show nI t < 0 by rw [hte]; decide) (nI_pos (by omega))
      · rw [k2] at hte
        have : t = t' := (nI_eq (by omega) (by omega)).mp hte
        subst this
        rw [p2] at k3
        rw [p6] at k4
        obtain ⟨o1, o2, -⟩ := ok
        have z1 : e = e' := (nI_eq (by omega) (by omega)).mp k3
        have z2 : b = b' := (nI_eq (by omega) (by omega)).mp k4
        subst z1
        subst z2
        exact k7
  · obtain ⟨o1, o2, o3, o4⟩ := id ok
    obtain ⟨si', sq', A', B', t1, t2, t3, ⟨t4, t5, t6, t7⟩⟩ := x_rtrace (x := x) (sl := sl) (g := g) (A := A) (B := B) (mt := fun i q => mtx (E 23) (E 24) (C 22) i (b + q)) (sw := sw) hs h74 hn h72 o1 o2 o3 o4 hC (by
      intro j hj
      obtain ⟨v, hv, hvt⟩ := okB_nat (hB (b + j) (by omega)).2
      refine ⟨v, hv, (hB (b + j) (by omega)).1.trans hvt, fun i hi => ?_⟩
      show hasB (B 75 i) (B 76 i) v = mtx (E 23) (E 24) (C 22) i (b + j)
      rw [mtx_n hvt hv, (hE i hi).1, (hE i hi).2])
    refine ⟨e, b, d, u2 si' 71 3 (nI t), sq', A', B', p2, p6, p4, ok, ?_, u2_s, ⟨?_, t2.2⟩, t3, ?_, t5, t6, t7⟩
    · unfold b_X2_trace_0 b_X2_trace_63
      simp only [xg_Ht_3, Option.bind_some, if_neg hte, if_neg (nI_pos (show t < 2 ^ 31 by omega)), xg_Ht_8, a1, if_neg (nI_ge ht (show c < 2 ^ 31 by omega)), xg_Ht_1, xg_Ht_0, xg_Ht_7, xi_l i79.2.2 (show t < 1500 by omega), p5, xg_Ht_5, xi_l i79.1 (show t < 1500 by omega), p1, xg_Ht_2, h71, xg_Ht_6, xi_l i79.2.1 (show t < 1500 by omega), p3, xg_Ht_4, xo_Ru, t1, xp_Ht_3]
    · rw [u2_n (Or.inl (by decide))]
      exact t2.1
    · intro k f k1 k2 k3 k4
      rw [u2_n k4]
      exact t4 k f k1 k2 k3
end XT
