/-! THE TEXT'S CHANGES: insert, cut, undo and what is remembered, of both sides -/
theorem ua_ua {A : Nat → Nat → Int32} {k : Nat} {f f' : Nat → Int32} : ua (ua A k f) k f' = ua A k f' := by
  funext j
  unfold ua
  split <;> rfl
theorem ua_self {A : Nat → Nat → Int32} {k : Nat} : ua A k (A k) = A := by
  funext j
  unfold ua
  split
  · next h => rw [h]
  · rfl
theorem ub_ub {A : Nat → Nat → Int64} {k : Nat} {f f' : Nat → Int64} : ub (ub A k f) k f' = ub A k f' := by
  funext j
  unfold ub
  split <;> rfl
theorem ub_self {A : Nat → Nat → Int64} {k : Nat} : ub A k (A k) = A := by
  funext j
  unfold ub
  split
  · next h => rw [h]
  · rfl
theorem ua_com {A : Nat → Nat → Int32} {k j : Nat} {f f' : Nat → Int32} (h : k ≠ j) : ua (ua A k f) j f' = ua (ua A j f') k f := by
  funext q
  unfold ua
  by_cases h1 : q = k
  · subst h1
    rw [if_neg h, if_pos rfl, if_pos rfl]
  · rw [if_neg h1, if_neg h1]
theorem zF_lt {n : Nat} (h : n < 100000) : n < zFuel := by unfold zFuel; omega
section TX
variable {x : Nat} {si : Nat → Nat → Int32} {sq : Nat → Nat → Nat} {sl : Nat → Nat → Int64} {A : Nat → Nat → Int32} {B : Nat → Nat → Int64} {g : zh_H}
variable {y : Nat} {mi : Nat → Int32} {ml : Nat → Int64} {C : Nat → Nat → Int32} {E : Nat → Nat → Int64}
theorem m_ins74 {t n b : Nat} (h1 : mi 1 = nI t) (h3 : mi 3 = nI n) (ht : t ≤ 400) (hb : b + t ≤ 1500) : ∀ (fuel i : Nat) (C : Nat → Nat → Int32), i ≤ t → t - i < fuel → ∃ f, b_X11_insert_74 fuel (mh y mi ml C E g) y (nI b) (nI i) = some (nI (n + t), mh y (upd (upd mi 3 (nI (n + t))) 1 0) ml (ua C 2 f) E g) ∧ ∀ q, f q = if b + i ≤ q ∧ q < b + t then C 1 (q - b) else C 2 q := by
  intro fuel
  induction fuel with
  | zero => intro i C _ h; omega
  | succ k ih =>
    intro i C hi hk
    unfold b_X11_insert_74
    rw [mg_tapeSize, Option.bind_some, h1]
    by_cases hit : i < t
    · rw [if_neg (nI_ge hit (by omega)), mr_text, Option.bind_some, mr_tape, Option.bind_some, ml_tape (by omega), Option.bind_some, nI_add, ms_text (by omega), Option.bind_some, nI_1]
      obtain ⟨f, e1, e2⟩ := ih (i + 1) (ua C 2 (upd (C 2) (b + i) (C 1 i))) (by omega) (by omega)
      refine ⟨f, by rw [e1, ua_ua], fun q => ?_⟩
      rw [e2, ua_n (by decide), ua_s]
      unfold upd
      by_cases hq : q = b + i
      · subst hq
        rw [if_neg (by omega), if_pos rfl, if_pos (by omega), Nat.add_sub_cancel_left]
      · rw [if_neg hq]
        by_cases hq2 : b + (i + 1) ≤ q ∧ q < b + t
        · rw [if_pos hq2, if_pos (by omega)]
        · rw [if_neg hq2, if_neg (by omega)]
    · rw [if_pos (nI_le (by omega) (by omega)), mg_textSize, Option.bind_some, Option.bind_some, h3, nI_add, mp_textSize, Option.bind_some, mp_tapeSize, Option.bind_some, mg_textSize, Option.bind_some]
      refine ⟨C 2, ?_, fun q => by rw [if_neg (by omega)]⟩
      rw [ua_self, pk_un (by decide), pk_us]
theorem m_ins44 {t n b : Nat} (h1 : mi 1 = nI t) (h3 : mi 3 = nI n) (ht : t ≤ 400) (hn : n + t ≤ 1500) (hb : b ≤ n) : ∀ (fuel i : Nat) (C : Nat → Nat → Int32), b ≤ i → i ≤ n → i - b < fuel → ∃ f, b_X11_insert_44 fuel (mh y mi ml C E g) y (nI b) (nI i - 1) = some (nI (n + t), mh y (upd (upd mi 3 (nI (n + t))) 1 0) ml (ua C 2 f) E g) ∧ ∀ q, f q = if b ≤ q ∧ q < b + t then C 1 (q - b) else if b + t ≤ q ∧ q < i + t then C 2 (q - t) else C 2 q := by
  intro fuel
  induction fuel with
  | zero => intro i C _ _ h; omega
  | succ k ih =>
    intro i C hbi hin hk
    unfold b_X11_insert_44
    by_cases hlt : b < i
    · rw [nI_p (by omega), if_neg (nI_nlt (by omega) (by omega)), mr_text, Option.bind_some, mg_tapeSize, Option.bind_some, Option.bind_some, ml_text (by omega), Option.bind_some, h1, nI_add, ms_text (by omega), Option.bind_some]
      obtain ⟨f, e1, e2⟩ := ih (i - 1) (ua C 2 (upd (C 2) (i - 1 + t) (C 2 (i - 1)))) (by omega) (by omega) (by omega)
      refine ⟨f, ?_, fun q => ?_⟩
      · rw [ua_ua] at e1
        rw [show nI (i - 1) + (-1 : Int32) = nI (i - 1) - 1 from (Int32.sub_eq_add_neg _ _).symm]
        exact e1
      · rw [e2, ua_n (by decide), ua_s]
        (try simp only [upd]); repeat' split
        all_goals first | rfl | (exfalso; omega) | (congr 1; omega)
    · have : i = b := by omega
      subst this
      have hlt2 : nI i - 1 < nI i := by
        by_cases h0 : i = 0
        · subst h0; decide
        · rw [nI_p (by omega)]; exact nI_lt (by omega) (by omega)
      rw [if_pos hlt2]
      obtain ⟨f, e1, e2⟩ := m_ins74 (y := y) (mi := mi) (ml := ml) (E := E) (g := g) (b := i) h1 h3 ht (by omega) zFuel 0 C (by omega) (zF_lt (by omega))
      refine ⟨f, e1, fun q => ?_⟩
      rw [e2]
      by_cases c1 : i ≤ q ∧ q < i + t
      · rw [if_pos (by omega), if_pos c1]
      · rw [if_neg (by omega), if_neg c1, if_neg (by omega)]
theorem m_cut18 {n a b : Nat} (h3 : mi 3 = nI n) (hn : n ≤ 1500) (hab : a ≤ b) (hb : b ≤ n) : ∀ (fuel i : Nat) (C : Nat → Nat → Int32), b ≤ i → i ≤ n → n - i < fuel → ∃ f, b_X11_cut_18 fuel (mh y mi ml C E g) y (nI a) (nI b) (nI i) = some (nI (n - (b - a)), mh y (upd mi 3 (nI (n - (b - a)))) ml (ua C 2 f) E g) ∧ ∀ q, q < n - (b - a) → f q = if a + (i - b) ≤ q then C 2 (q + (b - a)) else C 2 q := by
  intro fuel
  induction fuel with
  | zero => intro i C _ _ h; omega
  | succ k ih =>
    intro i C hbi hin hk
    unfold b_X11_cut_18
    rw [mg_textSize, Option.bind_some, h3]
    by_cases hit : i < n
    · rw [if_neg (nI_ge hit (by omega)), mr_text, Option.bind_some, Option.bind_some, ml_text (by omega), Option.bind_some, pk_sub (by omega), nI_add, ms_text (by omega), Option.bind_some, nI_1]
      obtain ⟨f, e1, e2⟩ := ih (i + 1) (ua C 2 (upd (C 2) (i - b + a) (C 2 i))) (by omega) (by omega) (by omega)
      refine ⟨f, by rw [e1, ua_ua], fun q hq => ?_⟩
      rw [e2 q hq, ua_s]
      (try simp only [upd]); repeat' split
      all_goals first | rfl | (exfalso; omega) | (congr 1; omega)
    · rw [if_pos (nI_le (by omega) (by omega)), Option.bind_some, pk_sub hab, pk_sub (by omega), mp_textSize, Option.bind_some, mg_textSize, Option.bind_some, pk_us]
      refine ⟨C 2, by rw [ua_self], fun q hq => by rw [if_neg (by omega)]⟩
theorem m_undo34 {s c : Nat} (h3 : mi 3 = nI s) (h6 : mi 6 = nI c) (hs : s ≤ 1500) (hc : c < 5) : ∀ (fuel i : Nat) (C : Nat → Nat → Int32), i ≤ s → s - i < fuel → ∃ f, b_X11_undo_34 fuel (mh y mi ml C E g) y (nI i) = some (nI s, mh y mi ml (ua C 2 f) E g) ∧ ∀ q, f q = if i ≤ q ∧ q < s then C 3 (1500 * c + q) else C 2 q := by
  intro fuel
  induction fuel with
  | zero => intro i C _ h; omega
  | succ k ih =>
    intro i C hi hk
    unfold b_X11_undo_34
    rw [mg_textSize, Option.bind_some, h3]
    by_cases hit : i < s
    · rw [if_neg (nI_ge hit (by omega)), mr_text, Option.bind_some, mr_olds, Option.bind_some, mg_oldCount, Option.bind_some, h6, show (1500 : Int32) = nI 1500 from rfl, pk_mul, nI_add, ml_olds (by omega), Option.bind_some, ms_text (by omega), Option.bind_some, nI_1]
      obtain ⟨f, e1, e2⟩ := ih (i + 1) (ua C 2 (upd (C 2) i (C 3 (1500 * c + i)))) (by omega) (by omega)
      refine ⟨f, by rw [e1, ua_ua], fun q => ?_⟩
      rw [e2, ua_n (by decide), ua_s]
      unfold upd
      by_cases hq : q = i
      · subst hq
        rw [if_neg (by omega), if_pos rfl, if_pos (by omega)]
      · rw [if_neg hq]
        by_cases hq2 : i + 1 ≤ q ∧ q < s
        · rw [if_pos hq2, if_pos (by omega)]
        · rw [if_neg hq2, if_neg (by omega)]
    · rw [if_pos (nI_le (by omega) (by omega)), Option.bind_some]
      exact ⟨C 2, by rw [ua_self], fun q => by rw [if_neg (by omega)]⟩
/-- the reference remembers the text: the last part, where there is room -/
theorem m_rem91 {n c : Nat} (h3 : mi 3 = nI n) (h6 : mi 6 = nI c) (hn : n ≤ 1500) (hc : c < 5) : ∀ (fuel i : Nat) (C : Nat → Nat → Int32), i ≤ n → n - i < fuel → ∃ f, b_X11_remember_91 fuel (mh y mi ml C E g) y (nI i) = some (mh y (upd mi 6 (nI (c + 1))) ml (ua (ua C 3 f) 4 (upd (C 4) c (nI n))) E g) ∧ ∀ q, f q = if 1500 * c + i ≤ q ∧ q < 1500 * c + n then C 2 (q - 1500 * c) else C 3 q := by
  intro fuel
  induction fuel with
  | zero => intro i C _ h; omega
  | succ k ih =>
    intro i C hi hk
    unfold b_X11_remember_91
    rw [mg_textSize, Option.bind_some, h3]
    by_cases hit : i < n
    · rw [if_neg (nI_ge hit (by omega)), mr_olds, Option.bind_some, mg_oldCount, Option.bind_some, mr_text, Option.bind_some, ml_text (by omega), Option.bind_some, h6, show (1500 : Int32) = nI 1500 from rfl, pk_mul, nI_add, ms_olds (by omega), Option.bind_some, nI_1]
      obtain ⟨f, e1, e2⟩ := ih (i + 1) (ua C 3 (upd (C 3) (1500 * c + i) (C 2 i))) (by omega) (by omega)
      refine ⟨f, by rw [e1, ua_ua, ua_n (by decide)], fun q => ?_⟩
      rw [e2, ua_n (by decide), ua_s]
      unfold upd
      by_cases hq : q = 1500 * c + i
      · subst hq
        rw [if_neg (by omega), if_pos rfl, if_pos (by omega), Nat.add_sub_cancel_left]
      · rw [if_neg hq]
        by_cases hq2 : 1500 * c + (i + 1) ≤ q ∧ q < 1500 * c + n
        · rw [if_pos hq2, if_pos (by omega)]
        · rw [if_neg hq2, if_neg (by omega)]
    · rw [if_pos (nI_le (by omega) (by omega)), mr_oldSizes, Option.bind_some, mg_oldCount, Option.bind_some, Option.bind_some, h6, ms_oldSizes hc, Option.bind_some, mg_oldCount, Option.bind_some, h6, nI_1, mp_oldCount, Option.bind_some]
      exact ⟨C 3, by rw [ua_self], fun q => by rw [if_neg (by omega)]⟩
theorem m_rem31 {k10 : zh_H → Nat → Int32 → Option zh_H} {s p : Nat} (hs : s ≤ 1500) (hp : 1 ≤ p) (hp2 : p < 5) : ∀ (fuel i : Nat) (C : Nat → Nat → Int32), C 4 p = nI s → i ≤ s → s - i < fuel → ∃ f, b_X11_remember_31 k10 fuel (mh y mi ml C E g) y (nI p) (nI i) = k10 (mh y mi ml (ua C 3 f) E g) y (nI (p + 1)) ∧ ∀ q, f q = if 1500 * (p - 1) + i ≤ q ∧ q < 1500 * (p - 1) + s then C 3 (q + 1500) else C 3 q := by
  intro fuel
  induction fuel with
  | zero => intro i C _ _ h; omega
  | succ k ih =>
    intro i C h4 hi hk
    unfold b_X11_remember_31
    rw [mr_oldSizes, Option.bind_some, ml_oldSizes hp2, Option.bind_some, h4]
    by_cases hit : i < s
    · rw [if_neg (nI_ge hit (by omega)), mr_olds, Option.bind_some, Option.bind_some, show (1500 : Int32) = nI 1500 from rfl, pk_mul, nI_add, ml_olds (by omega), Option.bind_some, nI_p (by omega), pk_mul, nI_add, ms_olds (by omega), Option.bind_some, nI_1]
      obtain ⟨f, e1, e2⟩ := ih (i + 1) (ua C 3 (upd (C 3) (1500 * (p - 1) + i) (C 3 (1500 * p + i)))) (by rw [ua_n (by decide)]; exact h4) (by omega) (by omega)
      refine ⟨f, by rw [e1, ua_ua], fun q => ?_⟩
      rw [e2, ua_s]
      (try simp only [upd]); repeat' split
      all_goals first | rfl | (exfalso; omega) | (congr 1; omega)
    · rw [if_pos (nI_le (by omega) (by omega)), nI_1]
      exact ⟨C 3, by rw [ua_self], fun q => by rw [if_neg (by omega)]⟩
end TX
