/-! REPLACE, the reference -/
section MP
variable {y : Nat} {mi : Nat → Int32} {ml : Nat → Int64} {C : Nat → Nat → Int32} {E : Nat → Nat → Int64} {g : zh_H}
variable {k40 : zh_H → Nat → Int32 → Int32 → Int32 → Int32 → Int32 → Option (Int32 × zh_H)}
theorem m_rep101 {kept : Nat} {k cnt frm mor e : Int32} (hk : kept ≤ 1500) : ∀ (fuel i z : Nat) (C : Nat → Nat → Int32), i ≤ kept → kept - i < fuel → z + (kept - i) < 2 ^ 30 → ∃ C', b_X11_replace_101 k40 fuel (mh y mi ml C E g) y k (nI z) cnt frm mor e (nI kept) (nI i) = b_X11_replace_148 k40 zFuel (mh y mi ml C' E g) y k (nI (z + (kept - i))) cnt frm mor e (nI 0) ∧ (∀ f, f ≠ 28 → C' f = C f) ∧ ∀ q, q < 1500 → C' 28 q = if z ≤ q ∧ q < z + (kept - i) then C 12 (i + (q - z)) else C 28 q := by
  intro fuel
  induction fuel with
  | zero => intro i z C _ h; omega
  | succ n ih =>
    intro i z C hi hf hz
    unfold b_X11_replace_101
    by_cases hik : i < kept
    · rw [if_neg (nI_ge hik (by omega))]
      unfold b_X11_replace_128
      rw [mr_built, Option.bind_some]
      by_cases hz5 : 1500 ≤ z
      · rw [if_pos (show (1500 : Int32) ≤ nI z from nI_le (a := 1500) hz5 (by omega)), mr_bytes, Option.bind_some, ml_bytes (by omega), Option.bind_some, show (1500 : Int32) = nI 1500 from rfl, ms_built (by omega), Option.bind_some, nI_1, nI_1]
        obtain ⟨C', e, n1, n2⟩ := ih (i + 1) (z + 1) (ua C 28 (upd (C 28) 1500 (C 12 i))) (by omega) (by omega) (by omega)
        refine ⟨C', by rw [e, show z + 1 + (kept - (i + 1)) = z + (kept - i) by omega], fun f hf => by rw [n1 f hf, ua_n hf], fun q hq => ?_⟩
        rw [n2 q hq, ua_s, ua_n (show 12 ≠ 28 by decide), if_neg (by omega), if_neg (by omega), pk_un (by omega)]
      · rw [if_neg (show ¬ (1500 : Int32) ≤ nI z from nI_ge (b := 1500) (by omega) (by omega)), mr_bytes, Option.bind_some, ml_bytes (by omega), Option.bind_some, ms_built (by omega), Option.bind_some, nI_1, nI_1]
        obtain ⟨C', e, n1, n2⟩ := ih (i + 1) (z + 1) (ua C 28 (upd (C 28) z (C 12 i))) (by omega) (by omega) (by omega)
        refine ⟨C', by rw [e, show z + 1 + (kept - (i + 1)) = z + (kept - i) by omega], fun f hf => by rw [n1 f hf, ua_n hf], fun q hq => ?_⟩
        rw [n2 q hq, ua_s, ua_n (show 12 ≠ 28 by decide)]
        by_cases hqz : q = z
        · subst hqz
          rw [if_neg (by omega), if_pos (by omega), pk_us, show i + (q - q) = i by omega]
        · rw [pk_un hqz]
          by_cases h2 : z + 1 ≤ q ∧ q < z + 1 + (kept - (i + 1))
          · rw [if_pos h2, if_pos (by omega), show i + 1 + (q - (z + 1)) = i + (q - z) by omega]
          · rw [if_neg h2, if_neg (by omega)]
    · rw [if_pos (nI_le (by omega) (by omega))]
      refine ⟨C, by rw [show kept - i = 0 by omega]; rfl, fun _ _ => rfl, fun q hq => by rw [if_neg (by omega)]⟩
theorem m_rep148 {t : Nat} {k cnt frm e : Int32} (h1 : mi 1 = nI t) (ht : t ≤ 400) : ∀ (fuel i z : Nat) (C : Nat → Nat → Int32), i ≤ t → t - i < fuel → z + (t - i) < 2 ^ 30 → ∃ C', b_X11_replace_148 k40 fuel (mh y mi ml C E g) y k (nI z) cnt frm 1 e (nI i) = b_X11_replace_199 k40 (mh y mi ml C' E g) y k (nI (z + (t - i))) cnt frm 1 e ∧ (∀ f, f ≠ 28 → C' f = C f) ∧ ∀ q, q < 1500 → C' 28 q = if z ≤ q ∧ q < z + (t - i) then C 1 (i + (q - z)) else C 28 q := by
  intro fuel
  induction fuel with
  | zero => intro i z C _ h; omega
  | succ n ih =>
    intro i z C hi hf hz
    unfold b_X11_replace_148
    rw [mg_tapeSize, Option.bind_some, h1]
    by_cases hik : i < t
    · rw [if_neg (nI_ge hik (by omega)), if_neg (show ¬ (1 : Int32) = 0 by decide)]
      unfold b_X11_replace_182
      rw [mr_built, Option.bind_some]
      by_cases hz5 : 1500 ≤ z
      · rw [if_pos (show (1500 : Int32) ≤ nI z from nI_le (a := 1500) hz5 (by omega)), mr_tape, Option.bind_some, ml_tape (by omega), Option.bind_some, show (1500 : Int32) = nI 1500 from rfl, ms_built (by omega), Option.bind_some, nI_1, nI_1]
        obtain ⟨C', e, n1, n2⟩ := ih (i + 1) (z + 1) (ua C 28 (upd (C 28) 1500 (C 1 i))) (by omega) (by omega) (by omega)
        refine ⟨C', by rw [e, show z + 1 + (t - (i + 1)) = z + (t - i) by omega], fun f hf => by rw [n1 f hf, ua_n hf], fun q hq => ?_⟩
        rw [n2 q hq, ua_s, ua_n (show 1 ≠ 28 by decide), if_neg (by omega), if_neg (by omega), pk_un (by omega)]
      · rw [if_neg (show ¬ (1500 : Int32) ≤ nI z from nI_ge (b := 1500) (by omega) (by omega)), mr_tape, Option.bind_some, ml_tape (by omega), Option.bind_some, ms_built (by omega), Option.bind_some, nI_1, nI_1]
        obtain ⟨C', e, n1, n2⟩ := ih (i + 1) (z + 1) (ua C 28 (upd (C 28) z (C 1 i))) (by omega) (by omega) (by omega)
        refine ⟨C', by rw [e, show z + 1 + (t - (i + 1)) = z + (t - i) by omega], fun f hf => by rw [n1 f hf, ua_n hf], fun q hq => ?_⟩
        rw [n2 q hq, ua_s, ua_n (show 1 ≠ 28 by decide)]
        by_cases hqz : q = z
        · subst hqz
          rw [if_neg (by omega), if_pos (by omega), pk_us, show i + (q - q) = i by omega]
        · rw [pk_un hqz]
          by_cases h2 : z + 1 ≤ q ∧ q < z + 1 + (t - (i + 1))
          · rw [if_pos h2, if_pos (by omega), show i + 1 + (q - (z + 1)) = i + (q - z) by omega]
          · rw [if_neg h2, if_neg (by omega)]
    · rw [if_pos (nI_le (by omega) (by omega))]
      refine ⟨C, by rw [show t - i = 0 by omega]; rfl, fun _ _ => rfl, fun q hq => by rw [if_neg (by omega)]⟩
theorem m_rep148_0 {z cnt frm k e i : Int32} {n : Nat} {h : zh_H} {t : Int32} (h1 : gI h y 11 1 = some t) : b_X11_replace_148 k40 (n + 1) h y k z cnt frm 0 e i = k40 h y k z cnt frm 0 := by
  unfold b_X11_replace_148 b_X11_replace_199 b_X11_replace_211 b_X11_replace_227
  rw [h1, Option.bind_some]
  simp only [if_true, ite_self, Int32.add_zero]
/-- a turn of the reference's loop -/
theorem m_rep_it {s k o n t z c f : Nat} {sw : Bool} {mt : Nat → Nat → Bool} (hk : k ≤ 200) (hn : n ≤ 1500) (hon : o ≤ n) (hs : s ≤ 1500) (ht : t ≤ 400) (hz : z < 2 ^ 29) (h1 : mi 1 = nI t) (h3 : mi 3 = nI n) (h21 : mi 21 = nI s) (h24 : mi 24 = bI sw) (hb : ∀ j, j < n - o → ∃ b, b < 127 ∧ C 2 (o + j) = nI b ∧ ∀ i, i < s → hasB (E 10 i) (E 11 i) b = mt i j) : ∃ mi' C', (∀ q, q ≠ 23 → mi' q = mi q) ∧ (∀ q, q < 12 ∨ 18 < q → q ≠ 28 → C' q = C q) ∧ ((∃ j b, j < n - o ∧ gH s k true mt sw j ∧ (∀ q, q < j → ¬ gH s k true mt sw q) ∧ b = 2047 - vV fC (fR true) mt sw (j + 1) s % 2048 ∧ b ≤ j ∧ b_X11_replace_40 (f + 1) (mh y mi ml C E g) y (nI k) (nI z) (nI c) (nI o) 1 = b_X11_replace_40 f (mh y mi' ml C' E g) y (nI k) (nI (z + b + t)) (nI (c + 1)) (nI (o + (j + 1))) 1 ∧ ∀ q, q < 1500 → C' 28 q = if z + b ≤ q ∧ q < z + b + t then C 1 (q - (z + b)) else if z ≤ q ∧ q < z + b then C 2 (o + (q - z)) else C 28 q) ∨ ((∀ q, q < n - o → ¬ gH s k true mt sw q) ∧ b_X11_replace_40 (f + 1) (mh y mi ml C E g) y (nI k) (nI z) (nI c) (nI o) 1 = b_X11_replace_40 f (mh y mi' ml C' E g) y (nI k) (nI (z + (n - o))) (nI c) (nI o) 0 ∧ ∀ q, q < 1500 → C' 28 q = if z ≤ q ∧ q < z + (n - o) then C 2 (o + (q - z)) else C 28 q)) := by
  obtain ⟨C1, m4, m5, m6⟩ := m_loadBytes (y := y) (mi := mi) (ml := ml) (C := C) (E := E) (g := g) hon hn
  have hLd : mLd (upd mi 23 (nI (n - o))) C1 E s (n - o) sw mt := by
    refine ⟨by rw [pk_un (by decide)]; exact h21, pk_us, by rw [pk_un (by decide)]; exact h24, hs, by omega, fun j hj => ?_⟩
    obtain ⟨b, hb1, hb2, hb3⟩ := hb j hj
    exact ⟨b, hb1, by rw [m6 j hj]; exact hb2, hb3⟩
  obtain ⟨r, C2, m7, m8, m9⟩ := m_firstHit (y := y) (ml := ml) (g := g) (wb := true) hk hLd
  rw [if_pos rfl] at m7
  have e0 : b_X11_replace_40 (f + 1) (mh y mi ml C E g) y (nI k) (nI z) (nI c) (nI o) 1 = if r ≤ (0 : Int32) then b_X11_replace_73 (b_X11_replace_40 f) (mh y (upd mi 23 (nI (n - o))) ml C2 E g) y (nI k) (nI z) (nI c) (nI o) r 0 else b_X11_replace_73 (b_X11_replace_40 f) (mh y (upd mi 23 (nI (n - o))) ml C2 E g) y (nI k) (nI z) (nI c) (nI o) r 1 := by
    conv => lhs; unfold b_X11_replace_40
    simp only [if_neg (show ¬ (1 : Int32) = 0 by decide), mg_textSize, Option.bind_some, h3, mis, m4, m7, zbp_some]
  rw [e0]
  have hC12 : ∀ j, j < n - o → C2 12 j = C 2 (o + j) := fun j hj => by rw [m8 12 (by decide)]; exact m6 j hj
  have hC1 : C2 1 = C 1 := by rw [m8 1 (by decide), m5 1 (by decide)]
  have hC28 : C2 28 = C 28 := by rw [m8 28 (by decide), m5 28 (by decide)]
  have hCo : ∀ q, q < 12 ∨ 18 < q → C2 q = C q := fun q hq => by rw [m8 q (by omega), m5 q (by omega)]
  have h1' : upd mi 23 (nI (n - o)) 1 = nI t := by rw [pk_un (by decide)]; exact h1
  have h21' : upd mi 23 (nI (n - o)) 21 = nI s := by rw [pk_un (by decide)]; exact h21
  rcases m9 with ⟨j, j1, rfl, j2, j3, j4⟩ | ⟨rfl, j2⟩
  · rw [if_neg (nI_nle (by omega) (by omega))]
    have hbj := j2.2 rfl
    unfold b_X11_replace_73 b_X11_replace_96
    rw [if_neg (show ¬ (1 : Int32) = 0 by decide), mr_begin, Option.bind_some, mg_sets, Option.bind_some, h21', ml_begin (by omega), Option.bind_some, (j4.1 s (Nat.le_refl _)).2]
    obtain ⟨C3, e1, n1, n2⟩ := m_rep101 (k40 := b_X11_replace_40 f) (y := y) (mi := upd mi 23 (nI (n - o))) (ml := ml) (E := E) (g := g) (kept := 2047 - vV fC (fR true) mt sw (j + 1) s % 2048) (k := nI k) (cnt := nI c) (frm := nI o) (mor := 1) (e := nI (j + 1)) (by omega) zFuel 0 z C2 (by omega) (zF_lt (by omega)) (by omega)
    obtain ⟨C4, e2, n3, n4⟩ := m_rep148 (k40 := b_X11_replace_40 f) (y := y) (mi := upd mi 23 (nI (n - o))) (ml := ml) (E := E) (g := g) (k := nI k) (cnt := nI c) (frm := nI o) (e := nI (j + 1)) h1' ht zFuel 0 (z + (2047 - vV fC (fR true) mt sw (j + 1) s % 2048 - 0)) C3 (by omega) (zF_lt (by omega)) (by omega)
    refine ⟨upd mi 23 (nI (n - o)), C4, fun q hq => by rw [pk_un hq], fun q q1 q2 => by rw [n3 q q2, n1 q q2, hCo q q1], Or.inl ⟨j, _, j1, j2, j3, rfl, hbj, ?_, ?_⟩⟩
    · unfold bN
      rw [show (0 : Int32) = nI 0 from rfl, e1, e2]
      unfold b_X11_replace_199 b_X11_replace_211 b_X11_replace_227
      simp only [if_neg (show ¬ (1 : Int32) = 0 by decide), nI_1, nI_add, Nat.sub_zero]
    · intro q hq
      rw [n4 q hq, n2 q hq, n1 1 (by decide), hC1, hC28, Nat.sub_zero, Nat.sub_zero, Nat.zero_add]
      by_cases q1 : z + (2047 - vV fC (fR true) mt sw (j + 1) s % 2048) ≤ q ∧ q < z + (2047 - vV fC (fR true) mt sw (j + 1) s % 2048) + t
      · rw [if_pos q1, if_pos q1]
      · rw [if_neg q1, if_neg q1]
        by_cases q2 : z ≤ q ∧ q < z + (2047 - vV fC (fR true) mt sw (j + 1) s % 2048)
        · rw [if_pos q2, if_pos q2, Nat.zero_add, hC12 _ (by omega)]
        · rw [if_neg q2, if_neg q2]
  · rw [if_pos (show (-1 : Int32) ≤ 0 by decide)]
    unfold b_X11_replace_73 b_X11_replace_96
    rw [if_pos rfl, mg_many, Option.bind_some, pk_us]
    obtain ⟨C3, e1, n1, n2⟩ := m_rep101 (k40 := b_X11_replace_40 f) (y := y) (mi := upd mi 23 (nI (n - o))) (ml := ml) (E := E) (g := g) (kept := n - o) (k := nI k) (cnt := nI c) (frm := nI o) (mor := 0) (e := -1) (by omega) zFuel 0 z C2 (by omega) (zF_lt (by omega)) (by omega)
    refine ⟨upd mi 23 (nI (n - o)), C3, fun q hq => by rw [pk_un hq], fun q q1 q2 => by rw [n1 q q2, hCo q q1], Or.inr ⟨j2, ?_, ?_⟩⟩
    · rw [show (0 : Int32) = nI 0 from rfl] at e1 ⊢
      rw [e1]
      exact m_rep148_0 (n := 999999) (mg_tapeSize)
    · intro q hq
      rw [n2 q hq, hC28, Nat.sub_zero]
      by_cases q2 : z ≤ q ∧ q < z + (n - o)
      · rw [if_pos q2, if_pos q2, Nat.zero_add, hC12 _ (by omega)]
      · rw [if_neg q2, if_neg q2]
/-- once it is too long it stays so -/
theorem m_rep_no {s k n t : Nat} {sw : Bool} {tx : Nat → Int32} (hk : k ≤ 200) (hn : n ≤ 1500) (hs : s ≤ 1500) (ht : t ≤ 400) (htx : ∀ q, q < n → okB (tx q)) : ∀ (w o z c f : Nat) (mi : Nat → Int32) (C : Nat → Nat → Int32), n - o ≤ w → o ≤ n → w + 1 < f → 1500 < z → z ≤ 401 * (o + 2000) → mi 1 = nI t → mi 3 = nI n → mi 21 = nI s → mi 24 = bI sw → (∀ q, q < n → C 2 q = tx q) → ∃ mi' C', b_X11_replace_40 f (mh y mi ml C E g) y (nI k) (nI z) (nI c) (nI o) 1 = some (-3, mh y mi' ml C' E g) ∧ (∀ q, q ≠ 23 → mi' q = mi q) ∧ (∀ q, q < 12 ∨ 18 < q → q ≠ 28 → C' q = C q) := by
  intro w
  induction w with
  | zero =>
    intro o z c f mi C hw ho hf hz hz2 h1 h3 h21 h24 hC
    obtain ⟨f, rfl⟩ : ∃ q, f = q + 1 + 1 := ⟨f - 2, by omega⟩
    obtain ⟨mi', C', a1, a2, a3⟩ := m_rep_it (y := y) (ml := ml) (E := E) (g := g) (C := C) (s := s) (k := k) (o := o) (n := n) (t := t) (z := z) (c := c) (f := f + 1) (sw := sw) (mt := mtx (E 10) (E 11) (fun q => tx (o + q))) hk hn ho hs ht (by omega) h1 h3 h21 h24 (fun j hj => by omega)
    rcases a3 with ⟨j, b, j1, -⟩ | ⟨-, e, -⟩
    · omega
    · refine ⟨mi', C', ?_, a1, a2⟩
      rw [e]
      unfold b_X11_replace_40
      rw [if_pos rfl, if_neg (show ¬ nI (z + (n - o)) ≤ (1500 : Int32) from nI_ge (a := 1500) (by omega) (by omega))]
  | succ w ih =>
    intro o z c f mi C hw ho hf hz hz2 h1 h3 h21 h24 hC
    obtain ⟨f, rfl⟩ : ∃ q, f = q + 1 + 1 := ⟨f - 2, by omega⟩
    obtain ⟨mi', C', a1, a2, a3⟩ := m_rep_it (y := y) (ml := ml) (E := E) (g := g) (C := C) (s := s) (k := k) (o := o) (n := n) (t := t) (z := z) (c := c) (f := f + 1) (sw := sw) (mt := mtx (E 10) (E 11) (fun q => tx (o + q))) hk hn ho hs ht (by omega) h1 h3 h21 h24 (fun j hj => by
      obtain ⟨b, hb, hbt⟩ := okB_nat (htx (o + j) (by omega))
      exact ⟨b, hb, by rw [hC _ (by omega)]; exact hbt, fun i hi => (mtx_n (t := fun q => tx (o + q)) hbt hb).symm⟩)
    rcases a3 with ⟨j, b, j1, j2, j3, j4, j5, e, -⟩ | ⟨-, e, -⟩
    · obtain ⟨mi2, C2, b1, b2, b3⟩ := ih (o + (j + 1)) (z + b + t) (c + 1) (f + 1) mi' C' (by omega) (by omega) (by omega) (by omega) (by omega) (by rw [a1 1 (by decide)]; exact h1) (by rw [a1 3 (by decide)]; exact h3) (by rw [a1 21 (by decide)]; exact h21) (by rw [a1 24 (by decide)]; exact h24) (by rw [a2 2 (by decide) (by decide)]; exact hC)
      exact ⟨mi2, C2, by rw [e, b1], fun q hq => by rw [b2 q hq, a1 q hq], fun q q1 q2 => by rw [b3 q q1 q2, a2 q q1 q2]⟩
    · refine ⟨mi', C', ?_, a1, a2⟩
      rw [e]
      unfold b_X11_replace_40
      rw [if_pos rfl, if_neg (show ¬ nI (z + (n - o)) ≤ (1500 : Int32) from nI_ge (a := 1500) (by omega) (by omega))]
end MP
