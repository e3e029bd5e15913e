/-! SMALL METHODS of both sides -/
abbrev okB (v : Int32) : Prop := v = 10 ∨ (32 ≤ v ∧ v ≤ 126)
theorem i_nlt {a b : Int32} : ¬ a < b ↔ b ≤ a := Int32.not_lt
theorem i_nle {a b : Int32} : ¬ a ≤ b ↔ b < a := Int32.not_le
theorem zbp_some {α β γ : Type} {v : α} {h : γ} {f : α → γ → Option β} : zbp (some (v, h)) f = f v h := rfl
theorem zif_t {α : Type} {c : Prop} [Decidable c] {x : Option α} (h : c) : zif c x = x := if_pos h
theorem m_in_t {h : zh_H} {v a b : Int32} (h1 : a ≤ v) (h2 : v ≤ b) : b_X11_in_0 h v a b = some (1, h) := by
  unfold b_X11_in_0
  rw [if_neg (i_nlt.mpr h1), if_neg (i_nlt.mpr h2)]
  rfl
theorem m_in_f {h : zh_H} {v a b : Int32} (h1 : ¬ (a ≤ v ∧ v ≤ b)) : b_X11_in_0 h v a b = some (0, h) := by
  unfold b_X11_in_0
  by_cases c1 : v < a
  · rw [if_pos c1]
    rfl
  · rw [if_neg c1]
    by_cases c2 : b < v
    · rw [if_pos c2]
      rfl
    · exact absurd ⟨i_nlt.mp c1, i_nlt.mp c2⟩ h1
theorem m_isByte_t {h : zh_H} {v : Int32} (hv : okB v) : b_X11_isByte_0 h v = some (1, h) := by
  unfold b_X11_isByte_0
  by_cases c1 : v = 10
  · rw [if_pos c1]
    rfl
  · rw [if_neg c1]
    have h2 := hv.resolve_left c1
    rw [m_in_t h2.1 h2.2, zbp_some, if_neg (by decide)]
    rfl
theorem m_isByte_f {h : zh_H} {v : Int32} (hv : ¬ okB v) : b_X11_isByte_0 h v = some (0, h) := by
  unfold b_X11_isByte_0
  rw [if_neg (fun e => hv (Or.inl e)), m_in_f (fun e => hv (Or.inr e)), zbp_some, if_pos rfl]
  rfl
theorem x_isByte_t {h : zh_H} {v : Int32} (hv : okB v) : b_X10_isByte_0 h v = some (1, h) := by
  unfold b_X10_isByte_0
  by_cases c1 : v = 10
  · rw [if_pos c1]
    rfl
  · have h2 := hv.resolve_left c1
    rw [if_neg c1, if_neg (i_nlt.mpr h2.1), if_neg (i_nlt.mpr h2.2)]
    rfl
theorem x_isByte_f {h : zh_H} {v : Int32} (hv : ¬ okB v) : b_X10_isByte_0 h v = some (0, h) := by
  unfold b_X10_isByte_0
  rw [if_neg (fun e => hv (Or.inl e))]
  by_cases c1 : v < 32
  · rw [if_pos c1]
    rfl
  · rw [if_neg c1, if_pos (i_nle.mp fun e => hv (Or.inr ⟨i_nlt.mp c1, e⟩))]
    rfl
/-- a part of a row of n bytes -/
abbrev okP (f t : Int32) (n : Nat) : Prop := 0 ≤ f ∧ f ≤ t ∧ t ≤ nI n
theorem okP_nat {f t : Int32} {n : Nat} (hn : n < 2 ^ 31) (h : okP f t n) : ∃ a b : Nat, f = nI a ∧ t = nI b ∧ a ≤ b ∧ b ≤ n := by
  obtain ⟨h1, h2, h3⟩ := h
  obtain ⟨a, ha, rfl⟩ := nI_of (i_nlt.mpr h1)
  have h0 : (0 : Int32) ≤ t := Int32.le_trans h1 h2
  obtain ⟨b, hb, rfl⟩ := nI_of (i_nlt.mpr h0)
  exact ⟨a, b, rfl, rfl, (nI_leI ha hb).mp h2, (nI_leI hb hn).mp h3⟩
section SM
variable {x : Nat} {si : Nat → Nat → Int32} {sq : Nat → Nat → Nat} {sl : Nat → Nat → Int64} {A : Nat → Nat → Int32} {B : Nat → Nat → Int64} {g : zh_H}
variable {y : Nat} {mi : Nat → Int32} {ml : Nat → Int64} {C : Nat → Nat → Int32} {E : Nat → Nat → Int64}
theorem x_isPart_t {o n : Nat} {f t : Int32} (ho : isRow o) (hn : si o 1 = nI n) (h : okP f t n) : b_X0_isPart_0 (xh x si sq sl A B g) (x + o) f t = some (1, xh x si sq sl A B g) := by
  unfold b_X0_isPart_0
  rw [if_neg (i_nlt.mpr h.1), if_neg (i_nlt.mpr h.2.1), xr_g ho, Option.bind_some, hn, if_neg (i_nlt.mpr h.2.2)]
  rfl
theorem x_isPart_f {o n : Nat} {f t : Int32} (ho : isRow o) (hn : si o 1 = nI n) (h : ¬ okP f t n) : b_X0_isPart_0 (xh x si sq sl A B g) (x + o) f t = some (0, xh x si sq sl A B g) := by
  unfold b_X0_isPart_0
  by_cases c1 : f < 0
  · rw [if_pos c1]
    rfl
  · rw [if_neg c1]
    by_cases c2 : t < f
    · rw [if_pos c2]
      rfl
    · rw [if_neg c2, xr_g ho, Option.bind_some, hn]
      by_cases c3 : nI n < t
      · rw [if_pos c3]
        rfl
      · exact absurd ⟨i_nlt.mp c1, i_nlt.mp c2, i_nlt.mp c3⟩ h
theorem m_isPart_t {n : Nat} {f t : Int32} (hn : mi 3 = nI n) (h : okP f t n) : b_X11_isPart_0 (mh y mi ml C E g) y f t = some (1, mh y mi ml C E g) := by
  unfold b_X11_isPart_0
  rw [if_neg (i_nlt.mpr h.1), if_neg (i_nlt.mpr h.2.1), mg_textSize, Option.bind_some, hn, if_neg (i_nlt.mpr h.2.2)]
  rfl
theorem m_isPart_f {n : Nat} {f t : Int32} (hn : mi 3 = nI n) (h : ¬ okP f t n) : b_X11_isPart_0 (mh y mi ml C E g) y f t = some (0, mh y mi ml C E g) := by
  unfold b_X11_isPart_0
  by_cases c1 : f < 0
  · rw [if_pos c1]
    rfl
  · rw [if_neg c1]
    by_cases c2 : t < f
    · rw [if_pos c2]
      rfl
    · rw [if_neg c2, mg_textSize, Option.bind_some, hn]
      by_cases c3 : nI n < t
      · rw [if_pos c3]
        rfl
      · exact absurd ⟨i_nlt.mp c1, i_nlt.mp c2, i_nlt.mp c3⟩ h
/-! a row of bytes -/
theorem x_get {o n i : Nat} (ho : isRow o) (hn : si o 1 = nI n) (hi : i < n) (hL : n ≤ rlen o) : b_X0_get_0 (xh x si sq sl A B g) (x + o) (nI i) = some (A (o + 1) i, xh x si sq sl A B g) := by
  have h2 := rlen_le (o := o)
  unfold b_X0_get_0
  rw [if_neg (nI_pos (by omega)), xr_g ho, Option.bind_some, hn, if_neg (nI_ge hi (by omega)), xr_c ho, Option.bind_some, xr_l ho (by omega), Option.bind_some]
  rfl
theorem x_get_f {o n : Nat} {i : Int32} (ho : isRow o) (hn : si o 1 = nI n) (hi : i < 0 ∨ nI n ≤ i) : b_X0_get_0 (xh x si sq sl A B g) (x + o) i = some (-1, xh x si sq sl A B g) := by
  unfold b_X0_get_0
  by_cases c1 : i < 0
  · rw [if_pos c1]
    rfl
  · rw [if_neg c1, xr_g ho, Option.bind_some, hn, if_pos (hi.resolve_left c1)]
    rfl
theorem x_clear {o : Nat} (ho : isRow o) : b_X0_clear_0 (xh x si sq sl A B g) (x + o) = some (xh x (u2 si o 1 0) sq sl A B g) := by
  unfold b_X0_clear_0
  rw [xr_p ho, Option.bind_some]
theorem x_add {o n : Nat} {v : Int32} (ho : isRow o) (hn : si o 1 = nI n) (hi : n < rlen o) : b_X0_add_0 (xh x si sq sl A B g) (x + o) v = some (xh x (u2 si o 1 (nI (n + 1))) sq sl (ua A (o + 1) (upd (A (o + 1)) n v.toInt8.toInt32.toInt8.toInt32)) B g) := by
  have h2 := rlen_le (o := o)
  unfold b_X0_add_0
  rw [xr_g ho, Option.bind_some, xr_c ho, Option.bind_some, xr_n ho, Option.bind_some, hn, if_neg (nI_ge hi (by omega)), Option.bind_some, Option.bind_some, xr_s ho hi, Option.bind_some, xr_g ho, Option.bind_some, xr_p ho, Option.bind_some, hn, nI_1]
  rfl
theorem x_byteAt {i : Int32} : b_X10_byteAt_0 (xh x si sq sl A B g) x i = (b_X0_get_0 (xh x si sq sl A B g) (x + 3) i) := by
  unfold b_X10_byteAt_0
  rw [xg_EF_1, Option.bind_some, xr_is (by unfold isRow; omega), Option.bind_some]
  cases b_X0_get_0 (xh x si sq sl A B g) (x + 3) i with
  | none => rfl
  | some q => rfl
theorem x_length : b_X10_length_0 (xh x si sq sl A B g) x = some (si 3 1, xh x si sq sl A B g) := by
  unfold b_X10_length_0
  rw [xg_EF_1, Option.bind_some, xr_g (by unfold isRow; omega), Option.bind_some]
theorem x_place : b_X10_place_0 (xh x si sq sl A B g) x = some (si 47 6, xh x si sq sl A B g) := by
  unfold b_X10_place_0
  rw [xg_EF_6, Option.bind_some, xg_Re_6, Option.bind_some]
theorem m_length : b_X11_length_0 (mh y mi ml C E g) y = some (mi 3, mh y mi ml C E g) := by
  unfold b_X11_length_0
  rw [mg_textSize, Option.bind_some]
theorem m_place : b_X11_place_0 (mh y mi ml C E g) y = some (mi 10, mh y mi ml C E g) := by
  unfold b_X11_place_0
  rw [mg_place, Option.bind_some]
theorem m_byteAt_t {n i : Nat} (hn : mi 3 = nI n) (hi : i < n) (hL : n ≤ 1500) : b_X11_byteAt_0 (mh y mi ml C E g) y (nI i) = some (C 2 i, mh y mi ml C E g) := by
  unfold b_X11_byteAt_0
  rw [mg_textSize, Option.bind_some, hn, m_in_t (nI_pos' (by omega)) (by rw [show nI n - 1 = nI (n - 1) from by rw [← nI_pred (n - 1), show n - 1 + 1 = n by omega]]; exact nI_le (by omega) (by omega)), zbp_some, if_neg (by decide), mr_text, Option.bind_some, ml_text (by omega), Option.bind_some]
  rfl
theorem nI_p {n : Nat} (h : 0 < n) : nI n - 1 = nI (n - 1) := by rw [← nI_pred (n - 1), show n - 1 + 1 = n by omega]
theorem in_f {n : Nat} {i : Int32} (hn : n < 2 ^ 31) (h : i < 0 ∨ nI n ≤ i) : ¬ (0 ≤ i ∧ i ≤ nI n - 1) := by
  rintro ⟨h1, h2⟩
  rcases h with h | h
  · exact absurd h (i_nlt.mpr h1)
  · by_cases h0 : n = 0
    · subst h0
      have e : nI 0 - 1 = -1 := by decide
      rw [e] at h2
      have := Int32.le_trans h1 h2
      exact absurd this (by decide)
    · rw [nI_p (by omega)] at h2
      have := Int32.le_trans h h2
      exact absurd this (nI_ge (by omega) hn)
theorem m_byteAt_f {n : Nat} {i : Int32} (hn : mi 3 = nI n) (hi : i < 0 ∨ nI n ≤ i) (hL : n ≤ 1500) : b_X11_byteAt_0 (mh y mi ml C E g) y i = some (-1, mh y mi ml C E g) := by
  unfold b_X11_byteAt_0
  rw [mg_textSize, Option.bind_some, hn, m_in_f (in_f (by omega) hi), zbp_some, if_pos rfl]
  rfl
end SM
