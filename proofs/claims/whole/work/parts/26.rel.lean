/-! WHAT BOTH SIDES HOLD ALIKE: X: si sq sl A B, the reference: mi ml C E -/
/-- two rows of n bytes -/
def rB (f k : Nat → Int32) (n : Nat) : Prop := ∀ j, j < n → f j = k j ∧ okB (k j)
def rTape (si : Nat → Nat → Int32) (A : Nat → Nat → Int32) (mi : Nat → Int32) (C : Nat → Nat → Int32) : Prop := ∃ n, n ≤ 400 ∧ si 1 1 = nI n ∧ mi 1 = nI n ∧ rB (A 2) (C 1) n
def rText (si : Nat → Nat → Int32) (A : Nat → Nat → Int32) (mi : Nat → Int32) (C : Nat → Nat → Int32) : Prop := ∃ n, n ≤ 1500 ∧ si 3 1 = nI n ∧ mi 3 = nI n ∧ rB (A 4) (C 2) n
def rHist (si : Nat → Nat → Int32) (A : Nat → Nat → Int32) (mi : Nat → Int32) (C : Nat → Nat → Int32) : Prop := ∃ c w, c ≤ 5 ∧ w < 5 ∧ si 7 2 = nI c ∧ mi 6 = nI c ∧ si 7 1 = nI w ∧ ∀ k, k < c → ∃ s, s ≤ 1500 ∧ si (9 + 2 * ((w + 5 - k) % 5)) 1 = nI s ∧ C 4 (c - 1 - k) = nI s ∧ ∀ j, j < s → A (10 + 2 * ((w + 5 - k) % 5)) j = C 3 (1500 * (c - 1 - k) + j) ∧ okB (C 3 (1500 * (c - 1 - k) + j))
def rPats (si : Nat → Nat → Int32) (B : Nat → Nat → Int64) (C : Nat → Nat → Int32) (E : Nat → Nat → Int64) : Prop := ∀ p, p < 8 → ∃ m, m ≤ 200 ∧ si (20 + 3 * p) 2 = nI m ∧ C 7 p = nI m ∧ ∀ j, j < m → B (21 + 3 * p) j = E 5 (200 * p + j) ∧ B (22 + 3 * p) j = E 6 (200 * p + j)
def rPlace (si : Nat → Nat → Int32) (mi : Nat → Int32) : Prop := si 47 6 = mi 10
def rLines (si : Nat → Nat → Int32) (A : Nat → Nat → Int32) (mi : Nat → Int32) (C : Nat → Nat → Int32) : Prop := ∃ c, c ≤ 751 ∧ si 82 1 = nI c ∧ mi 44 = nI c ∧ ∀ j, j < c → A 83 j = C 27 j
/-- the class's columns change their places -/
def rCols (sq : Nat → Nat → Nat) : Prop := (∃ a b c, sq 53 4 = a ∧ sq 53 5 = b ∧ sq 53 6 = c ∧ isInt a 201 ∧ isInt b 201 ∧ isInt c 201 ∧ a ≠ b ∧ a ≠ c ∧ b ≠ c) ∧ (∃ a b c, sq 60 7 = a ∧ sq 60 8 = b ∧ sq 60 9 = c ∧ isInt a 1501 ∧ isInt b 1501 ∧ isInt c 1501 ∧ a ≠ b ∧ a ≠ c ∧ b ≠ c)
section RE
variable {x : Nat} {si : Nat → Nat → Int32} {sq : Nat → Nat → Nat} {sl : Nat → Nat → Int64} {A : Nat → Nat → Int32} {B : Nat → Nat → Int64} {g : zh_H}
variable {y : Nat} {mi : Nat → Int32} {ml : Nat → Int64} {C : Nat → Nat → Int32} {E : Nat → Nat → Int64}
theorem rHist_szs (h : rHist si A mi C) {c : Nat} (h6 : mi 6 = nI c) (hc5 : c ≤ 5) : szs C c := by
  obtain ⟨c', w, hc, hw, e1, e2, e3, hk⟩ := h
  have : c' = c := (nI_eq (by omega) (by omega)).mp (e2.symm.trans h6)
  subst this
  intro k hk2
  obtain ⟨s, hs, -, h4, -⟩ := hk (c' - 1 - k) (by omega)
  rw [show c' - 1 - (c' - 1 - k) = k by omega] at h4
  exact ⟨s, hs, h4⟩
/-- what is remembered after both sides have kept the text -/
theorem rHist_keep {n c w c' : Nat} {f3 f4 : Nat → Int32} (hn : n ≤ 1500) (hc5 : c ≤ 5) (hw : w < 5) (hA : rB (A 4) (C 2) n)
    (hk : ∀ k, k < c → ∃ s, s ≤ 1500 ∧ si (9 + 2 * ((w + 5 - k) % 5)) 1 = nI s ∧ C 4 (c - 1 - k) = nI s ∧ ∀ j, j < s → A (10 + 2 * ((w + 5 - k) % 5)) j = C 3 (1500 * (c - 1 - k) + j) ∧ okB (C 3 (1500 * (c - 1 - k) + j)))
    (hc' : c' = min (c + 1) 5) (g1 : f4 (c' - 1) = nI n) (g2 : ∀ j, j < n → f3 (1500 * (c' - 1) + j) = C 2 j) (g3 : ∀ k, k < c' - 1 → f4 k = C 4 (k + (c + 1 - c')) ∧ ∀ j s, C 4 (k + (c + 1 - c')) = nI s → s ≤ 1500 → j < s → f3 (1500 * k + j) = C 3 (1500 * (k + (c + 1 - c')) + j))
    {si' : Nat → Nat → Int32} {A' : Nat → Nat → Int32} {mi' : Nat → Int32} {C' : Nat → Nat → Int32} (s1 : si' 7 2 = nI c') (s2 : si' 7 1 = nI ((w + 1) % 5)) (s3 : ∀ r, r < 5 → si' (9 + 2 * r) 1 = if r = (w + 1) % 5 then nI n else si (9 + 2 * r) 1) (s4 : ∀ r, r < 5 → ∀ j, A' (10 + 2 * r) j = if r = (w + 1) % 5 ∧ j < n then A 4 j else A (10 + 2 * r) j) (s5 : mi' 6 = nI c') (s6 : C' 3 = f3) (s7 : C' 4 = f4) : rHist si' A' mi' C' := by
  refine ⟨c', (w + 1) % 5, by omega, Nat.mod_lt _ (by decide), s1, s5, s2, fun k hkc => ?_⟩
  rw [s6, s7]
  by_cases hk0 : k = 0
  · subst hk0
    have e : ((w + 1) % 5 + 5 - 0) % 5 = (w + 1) % 5 := by omega
    rw [e, s3 _ (Nat.mod_lt _ (by decide)), if_pos rfl]
    refine ⟨n, hn, rfl, by rw [Nat.sub_zero]; exact g1, fun j hj => ?_⟩
    rw [s4 _ (Nat.mod_lt _ (by decide)), if_pos ⟨rfl, hj⟩, Nat.sub_zero, g2 j hj]
    exact hA j hj
  · have e : ((w + 1) % 5 + 5 - k) % 5 = (w + 5 - (k - 1)) % 5 := by omega
    have hne : (w + 5 - (k - 1)) % 5 ≠ (w + 1) % 5 := by omega
    obtain ⟨s, hs, h1, h2, h3⟩ := hk (k - 1) (by omega)
    have e2 : c' - 1 - k + (c + 1 - c') = c - 1 - (k - 1) := by omega
    obtain ⟨q1, q2⟩ := g3 (c' - 1 - k) (by omega)
    rw [e2] at q1 q2
    rw [e, s3 _ (Nat.mod_lt _ (by decide)), if_neg hne]
    refine ⟨s, hs, h1, q1.trans h2, fun j hj => ?_⟩
    rw [s4 _ (Nat.mod_lt _ (by decide)), if_neg (fun q => hne q.1), q2 j s h2 hs hj]
    exact h3 j hj
end RE
