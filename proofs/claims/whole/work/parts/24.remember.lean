section RM
variable {x : Nat} {si : Nat → Nat → Int32} {sq : Nat → Nat → Nat} {sl : Nat → Nat → Int64} {A : Nat → Nat → Int32} {B : Nat → Nat → Int64} {g : zh_H}
variable {y : Nat} {mi : Nat → Int32} {ml : Nat → Int64} {C : Nat → Nat → Int32} {E : Nat → Nat → Int64}
/-- the sizes of the remembered texts are in range -/
def szs (C : Nat → Nat → Int32) (c : Nat) : Prop := ∀ k, k < c → ∃ s, s ≤ 1500 ∧ C 4 k = nI s
theorem m_rem10 (h6 : mi 6 = nI 5) : ∀ (fuel p : Nat) (C : Nat → Nat → Int32), 1 ≤ p → p ≤ 5 → 5 - p < fuel → szs C 5 → ∃ f3 f4, b_X11_remember_10 fuel (mh y mi ml C E g) y (nI p) = b_X11_remember_89 (mh y (upd mi 6 (nI 4)) ml (ua (ua C 3 f3) 4 f4) E g) y ∧ (∀ k, f4 k = if p - 1 ≤ k ∧ k < 4 then C 4 (k + 1) else C 4 k) ∧ (∀ k j s, p - 1 ≤ k → k < 4 → C 4 (k + 1) = nI s → s ≤ 1500 → j < s → f3 (1500 * k + j) = C 3 (1500 * (k + 1) + j)) ∧ ∀ q, q < 1500 * (p - 1) → f3 q = C 3 q := by
  intro fuel
  induction fuel with
  | zero => intro p C _ _ h; omega
  | succ n ih =>
    intro p C h1 h5 hf hsz
    unfold b_X11_remember_10
    by_cases hp : p < 5
    · obtain ⟨s, hs, e4⟩ := hsz p hp
      rw [if_neg (show ¬ (5 : Int32) ≤ nI p from nI_ge (b := 5) hp (by decide)), mr_oldSizes, Option.bind_some, Option.bind_some, ml_oldSizes hp, Option.bind_some, nI_p (by omega), ms_oldSizes (by omega), Option.bind_some]
      obtain ⟨f, e1, e2⟩ := m_rem31 (y := y) (mi := mi) (ml := ml) (E := E) (g := g) (k10 := b_X11_remember_10 n) hs h1 hp zFuel 0 (ua C 4 (upd (C 4) (p - 1) (C 4 p))) (by rw [ua_s, pk_un (by omega)]; exact e4) (by omega) (zF_lt (by omega))
      rw [show (0 : Int32) = nI 0 from rfl, e1]
      obtain ⟨f3, f4, g1, g2, g3, g4⟩ := ih (p + 1) (ua (ua C 4 (upd (C 4) (p - 1) (C 4 p))) 3 f) (by omega) (by omega) (by omega) (by
        intro k hk
        rw [ua_n (by decide), ua_s]
        unfold upd
        split
        · exact ⟨s, hs, e4⟩
        · exact hsz k hk)
      refine ⟨f3, f4, ?_, fun k => ?_, fun k j s' hk hk2 hs1 hs2 hj => ?_, fun q hq => ?_⟩
      · rw [g1, ua_ua, ua_com (k := 4) (j := 3) (by decide), ua_ua]
      · rw [g2, ua_n (by decide), ua_s]
        unfold upd
        repeat' split
        all_goals first | rfl | (exfalso; omega) | (congr 1; omega)
      · by_cases hk3 : p ≤ k
        · rw [g3 k j s' (by omega) hk2 (by rw [ua_n (by decide), ua_s, pk_un (by omega)]; exact hs1) hs2 hj, ua_s, e2, if_neg (by omega), ua_n (by decide)]
        · have : k = p - 1 := by omega
          subst this
          have hss : s' = s := by
            rw [show p - 1 + 1 = p by omega, e4] at hs1
            exact (((nI_eq (by omega) (by omega)).mp hs1)).symm
          subst hss
          rw [g4 _ (by omega), ua_s, e2, if_pos (by omega), ua_n (by decide)]
          congr 1
          omega
      · rw [g4 q (by omega), ua_s, e2, if_neg (by omega), ua_n (by decide)]
    · have : p = 5 := by omega
      subst this
      rw [if_pos (show (5 : Int32) ≤ nI 5 from nI_le (a := 5) (Nat.le_refl _) (by decide)), mg_oldCount, Option.bind_some, h6, nI_p (by decide), mp_oldCount, Option.bind_some]
      refine ⟨C 3, C 4, ?_, fun k => ?_, fun k j s' hk hk2 _ _ _ => by omega, fun q _ => rfl⟩
      · rw [ua_self, ua_self]
      · rw [if_neg (by omega)]
/-- the reference remembers the text -/
theorem m_remember {n c : Nat} (h3 : mi 3 = nI n) (h6 : mi 6 = nI c) (hn : n ≤ 1500) (hc : c ≤ 5) (hsz : szs C c) : ∃ f3 f4 c', b_X11_remember_0 (mh y mi ml C E g) y = some (mh y (upd mi 6 (nI c')) ml (ua (ua C 3 f3) 4 f4) E g) ∧ c' = min (c + 1) 5 ∧ f4 (c' - 1) = nI n ∧ (∀ j, j < n → f3 (1500 * (c' - 1) + j) = C 2 j) ∧ (∀ k, k < c' - 1 → f4 k = C 4 (k + (c + 1 - c')) ∧ ∀ j s, C 4 (k + (c + 1 - c')) = nI s → s ≤ 1500 → j < s → f3 (1500 * k + j) = C 3 (1500 * (k + (c + 1 - c')) + j)) := by
  unfold b_X11_remember_0
  rw [mg_oldCount, Option.bind_some, h6]
  by_cases h5 : c = 5
  · subst h5
    rw [if_pos (show nI 5 = (5 : Int32) from rfl)]
    obtain ⟨f3, f4, g1, g2, g3, g4⟩ := m_rem10 (y := y) (mi := mi) (ml := ml) (E := E) (g := g) h6 zFuel 1 C (by decide) (by decide) (zF_lt (by decide)) hsz
    rw [show (1 : Int32) = nI 1 from rfl, g1]
    unfold b_X11_remember_89
    obtain ⟨f, e1, e2⟩ := m_rem91 (y := y) (mi := upd mi 6 (nI 4)) (ml := ml) (E := E) (g := g) (n := n) (c := 4) (by rw [pk_un (by decide)]; exact h3) pk_us hn (by decide) zFuel 0 (ua (ua C 3 f3) 4 f4) (by omega) (zF_lt (by omega))
    rw [show (0 : Int32) = nI 0 from rfl, e1]
    refine ⟨f, upd f4 4 (nI n), 5, ?_, rfl, pk_us, fun j hj => ?_, fun k hk => ⟨?_, fun j s hs1 hs2 hj => ?_⟩⟩
    · congr 2
      · funext j
        unfold upd
        split <;> rfl
      · funext a b
        unfold ua
        repeat' split
        all_goals first | rfl | (exfalso; omega)
    · rw [e2, if_pos (by omega), ua_n (by decide), ua_n (by decide), show 1500 * (5 - 1) + j - 1500 * 4 = j by omega]
    · rw [pk_un (by omega), g2, if_pos (by omega)]
    · rw [e2, if_neg (by omega), ua_n (by decide), ua_s, g3 k j s (by omega) (by omega) hs1 hs2 hj]
  · rw [if_neg (show ¬ nI c = (5 : Int32) from fun q => h5 ((nI_eq (b := 5) (by omega) (by decide)).mp q))]
    unfold b_X11_remember_89
    obtain ⟨f, e1, e2⟩ := m_rem91 (y := y) (mi := mi) (ml := ml) (E := E) (g := g) (n := n) (c := c) h3 h6 hn (by omega) zFuel 0 C (by omega) (zF_lt (by omega))
    rw [show (0 : Int32) = nI 0 from rfl, e1]
    refine ⟨f, upd (C 4) c (nI n), c + 1, rfl, by omega, by rw [show c + 1 - 1 = c by omega]; exact pk_us, fun j hj => ?_, fun k hk => ⟨?_, fun j s hs1 hs2 hj => ?_⟩⟩
    · rw [e2, if_pos (by omega)]
      congr 1
      omega
    · rw [pk_un (by omega), show k + (c + 1 - (c + 1)) = k by omega]
    · rw [e2, if_neg (by omega), show k + (c + 1 - (c + 1)) = k by omega]
end RM
