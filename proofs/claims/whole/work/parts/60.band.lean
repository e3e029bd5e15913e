/-! THE BAND: distances of which only some diagonals are looked at -/
section BA
variable {mt : Nat → Nat → Bool} {sw : Bool}
theorem D_ge1 (j i : Nat) : i ≤ cs fC (fR false) mt sw j i + j := by
  induction j with
  | zero => unfold cs; rw [vV_0]; unfold fC; omega
  | succ j ih => have := cs_H1 (mt := mt) (sw := sw) (st_f false) j i; omega
theorem D_0 (j : Nat) : cs fC (fR false) mt sw j 0 = j := by
  rw [cs_r (st_f false)]; unfold fR; rw [if_neg Bool.false_ne_true]; omega
theorem D_c (i : Nat) : cs fC (fR false) mt sw 0 i = i := by
  unfold cs; rw [vV_0]; unfold fC; omega
theorem D_ge2 (j i : Nat) : j ≤ cs fC (fR false) mt sw j i + i := by
  induction i with
  | zero => rw [D_0]; omega
  | succ i ih => have := cs_V1 (mt := mt) (sw := sw) (st_f false) j i; omega
def phi (mt : Nat → Nat → Bool) (sw : Bool) (s m j i : Nat) : Nat := cs fC (fR false) mt sw j i + ((s + j - (m + i)) + (m + i - (s + j)))
theorem phi_band {s m j i β : Nat} (h : phi mt sw s m j i ≤ β) : j ≤ i + ((m - s) + (β - ((s - m) + (m - s))) / 2) ∧ i ≤ j + ((s - m) + (β - ((s - m) + (m - s))) / 2) := by
  have h1 := D_ge1 (mt := mt) (sw := sw) j i
  have h2 := D_ge2 (mt := mt) (sw := sw) j i
  unfold phi at h
  generalize cs fC (fR false) mt sw j i = d at *
  omega
theorem phi_prev {s m j β : Nat} (h : ∃ i, i ≤ s ∧ phi mt sw s m (j + 1) i ≤ β) : ∃ i, i ≤ s ∧ phi mt sw s m j i ≤ β := by
  obtain ⟨i, hi, h⟩ := h
  cases i with
  | zero =>
    refine ⟨0, by omega, ?_⟩
    unfold phi at h ⊢
    rw [D_0] at h ⊢
    omega
  | succ i =>
    refine ⟨i, by omega, ?_⟩
    have := cs_D1 (mt := mt) (sw := sw) (st_f false) j i
    unfold phi at h ⊢
    omega
theorem phi_all {s m β : Nat} (h : cs fC (fR false) mt sw m s ≤ β) : ∀ j, j ≤ m → ∃ i, i ≤ s ∧ phi mt sw s m j i ≤ β := by
  have key : ∀ d j, j + d = m → ∃ i, i ≤ s ∧ phi mt sw s m j i ≤ β := by
    intro d
    induction d with
    | zero =>
      intro j hj
      refine ⟨s, Nat.le_refl _, ?_⟩
      have : j = m := hj
      subst this
      unfold phi
      omega
    | succ d ih => intro j hj; exact phi_prev (ih (j + 1) (by omega))
  exact fun j hj => key (m - j) j (by omega)
def b1 (sp : Bool) (n2 : Nat) (p : Nat × Nat) : Nat × Nat := if sp = true ∧ n2 + 1 < p.1 then (n2 + 1, 4) else p
def b2 (n0 t : Nat) (p : Nat × Nat) : Nat × Nat := if n0 + 1 < p.1 then (n0 + 1, t) else p
/-- what the class takes, of the four numbers before -/
def bst (mc sp : Bool) (n1 n2 n0 nn : Nat) : Nat × Nat := b2 nn 3 (b2 n0 2 (b1 sp n2 (if mc then n1 else n1 + 1, if mc then 0 else 1)))
theorem bst_le {mc sp : Bool} {n1 n2 n0 nn : Nat} : (bst mc sp n1 n2 n0 nn).1 ≤ n1 + 1 := by
  unfold bst b1 b2
  repeat' split
  all_goals (try simp only) <;> omega
theorem bst_t {mc sp : Bool} {n1 n2 n0 nn : Nat} : (bst mc sp n1 n2 n0 nn).2 ≤ 4 := by
  unfold bst b1 b2
  repeat' split
  all_goals (try simp only) <;> omega
theorem bst_ge {j i n1 n2 n0 nn : Nat} (h1 : cs fC (fR false) mt sw j i ≤ n1) (h2 : swp mt sw i j = true → cs fC (fR false) mt sw (j - 1) (i - 1) ≤ n2) (h0 : cs fC (fR false) mt sw j (i + 1) ≤ n0) (hn : cs fC (fR false) mt sw (j + 1) i ≤ nn) : cs fC (fR false) mt sw (j + 1) (i + 1) ≤ (bst (mt i j) (swp mt sw i j) n1 n2 n0 nn).1 := by
  rw [cs_s]
  unfold bst b1 b2
  cases hm : mt i j <;> cases hs : swp mt sw i j
  · simp only [Bool.false_eq_true, if_false, false_and]
    repeat' split
    all_goals (try simp only) <;> omega
  · have := h2 hs
    simp only [Bool.false_eq_true, if_false, true_and, if_true]
    repeat' split
    all_goals (try simp only) <;> omega
  · simp only [Bool.false_eq_true, if_false, false_and, if_true]
    repeat' split
    all_goals (try simp only) <;> omega
  · have := h2 hs
    simp only [true_and, if_true]
    repeat' split
    all_goals (try simp only) <;> omega
theorem bst_core {mc sp : Bool} {c d1 d2 d0 dn n1 n2 n0 nn : Nat} (g1 : d1 ≤ n1) (g2 : sp = true → d2 ≤ n2) (g0 : d0 ≤ n0) (gn : dn ≤ nn) (c1 : c ≤ d1 + (if mc then 0 else 1)) (c2 : sp = true → c ≤ d2 + 1) (c0 : c ≤ d0 + 1) (cn : c ≤ dn + 1) (e1 : d1 + (if mc then 0 else 1) = c → n1 = d1) (e2 : sp = true → d2 + 1 = c → n2 = d2) (e0 : d0 + 1 = c → n0 = d0) (en : dn + 1 = c → nn = dn) (hc : d1 + (if mc then 0 else 1) = c ∨ (sp = true ∧ d2 + 1 = c) ∨ d0 + 1 = c ∨ dn + 1 = c) : (bst mc sp n1 n2 n0 nn).1 = c ∧ (bst mc sp n1 n2 n0 nn).2 = if d1 + (if mc then 0 else 1) = c then (if mc then 0 else 1) else if sp = true ∧ d2 + 1 = c then 4 else if d0 + 1 = c then 2 else 3 := by
  have ew : (if mc then n1 else n1 + 1) = n1 + (if mc then 0 else 1) := by split <;> rfl
  have hb : ∀ p : Nat × Nat, c < p.1 → d0 + 1 = c → b2 nn 3 (b2 n0 2 p) = (c, 2) := by
    intro p hp h
    have := e0 h
    unfold b2
    rw [if_pos (show n0 + 1 < p.1 by omega), if_neg (show ¬ nn + 1 < n0 + 1 by omega), this, h]
  have hd : ∀ p : Nat × Nat, c < p.1 → ¬ d0 + 1 = c → dn + 1 = c → b2 nn 3 (b2 n0 2 p) = (c, 3) := by
    intro p hp h0 h
    have := en h
    unfold b2
    by_cases q : n0 + 1 < p.1
    · rw [if_pos q, if_pos (show nn + 1 < n0 + 1 by omega), this, h]
    · rw [if_neg q, if_pos (show nn + 1 < p.1 by omega), this, h]
  have hk : ∀ t : Nat, b2 nn 3 (b2 n0 2 (c, t)) = (c, t) := by
    intro t
    unfold b2
    rw [if_neg (show ¬ n0 + 1 < c by omega), if_neg (show ¬ nn + 1 < c by omega)]
  unfold bst
  rw [ew]
  by_cases h1 : d1 + (if mc then 0 else 1) = c
  · have := e1 h1
    rw [if_pos h1]
    have e : b1 sp n2 (n1 + (if mc then 0 else 1), if mc then 0 else 1) = (c, if mc then 0 else 1) := by
      unfold b1
      rw [this, h1, if_neg (fun q => by have a1 := g2 q.1; have a2 := c2 q.1; have a3 := q.2; simp only at a3; omega)]
    rw [e, hk]
    exact ⟨rfl, rfl⟩
  · rw [if_neg h1]
    have hgt : c < n1 + (if mc then 0 else 1) := by omega
    by_cases h2 : sp = true ∧ d2 + 1 = c
    · have := e2 h2.1 h2.2
      rw [if_pos h2]
      have e : b1 sp n2 (n1 + (if mc then 0 else 1), if mc then 0 else 1) = (c, 4) := by
        unfold b1
        rw [if_pos ⟨h2.1, by simp only; omega⟩, this, h2.2]
      rw [e, hk]
      exact ⟨rfl, rfl⟩
    · rw [if_neg h2]
      have hp : c < (b1 sp n2 (n1 + (if mc then 0 else 1), if mc then 0 else 1)).1 := by
        unfold b1
        by_cases q : sp = true ∧ n2 + 1 < n1 + (if mc then 0 else 1)
        · rw [if_pos q]
          have a1 := g2 q.1
          have a2 := c2 q.1
          have a3 : ¬ d2 + 1 = c := fun r => h2 ⟨q.1, r⟩
          simp only
          omega
        · rw [if_neg q]
          exact hgt
      by_cases h0 : d0 + 1 = c
      · rw [if_pos h0, hb _ hp h0]
        exact ⟨rfl, rfl⟩
      · have hn : dn + 1 = c := by
          rcases hc with r | r | r | r
          · exact absurd r h1
          · exact absurd r h2
          · exact absurd r h0
          · exact r
        rw [if_neg h0, hd _ hp h0 hn]
        exact ⟨rfl, rfl⟩
theorem bst_eq {s m β j i n1 n2 n0 nn : Nat} (hp : phi mt sw s m (j + 1) (i + 1) ≤ β) (h1 : cs fC (fR false) mt sw j i ≤ n1) (h2 : swp mt sw i j = true → cs fC (fR false) mt sw (j - 1) (i - 1) ≤ n2) (h0 : cs fC (fR false) mt sw j (i + 1) ≤ n0) (hn : cs fC (fR false) mt sw (j + 1) i ≤ nn) (e1 : phi mt sw s m j i ≤ β → n1 = cs fC (fR false) mt sw j i) (e2 : swp mt sw i j = true → phi mt sw s m (j - 1) (i - 1) ≤ β → n2 = cs fC (fR false) mt sw (j - 1) (i - 1)) (e0 : phi mt sw s m j (i + 1) ≤ β → n0 = cs fC (fR false) mt sw j (i + 1)) (en : phi mt sw s m (j + 1) i ≤ β → nn = cs fC (fR false) mt sw (j + 1) i) : (bst (mt i j) (swp mt sw i j) n1 n2 n0 nn).1 = cs fC (fR false) mt sw (j + 1) (i + 1) ∧ (bst (mt i j) (swp mt sw i j) n1 n2 n0 nn).2 = stp (cs fC (fR false) mt sw) mt sw (i + 1) (j + 1) := by
  have hc := cs_s (c0 := fC) (r0 := fR false) (mt := mt) (sw := sw) (j := j) (i := i)
  unfold phi at hp e1 e0 en e2
  have est : stp (cs fC (fR false) mt sw) mt sw (i + 1) (j + 1) = if cs fC (fR false) mt sw j i + (if mt i j then 0 else 1) = cs fC (fR false) mt sw (j + 1) (i + 1) then (if mt i j then 0 else 1) else if swp mt sw i j = true ∧ cs fC (fR false) mt sw (j - 1) (i - 1) + 1 = cs fC (fR false) mt sw (j + 1) (i + 1) then 4 else if cs fC (fR false) mt sw j (i + 1) + 1 = cs fC (fR false) mt sw (j + 1) (i + 1) then 2 else 3 := by
    unfold stp
    rw [show i + 1 - 1 = i from rfl, show j + 1 - 1 = j from rfl, show i + 1 - 2 = i - 1 by omega, show j + 1 - 2 = j - 1 by omega]
    simp only [Nat.zero_lt_succ, true_and]
  rw [est]
  have hw : (if mt i j = true then cs fC (fR false) mt sw j i else cs fC (fR false) mt sw j i + 1) = cs fC (fR false) mt sw j i + (if mt i j then 0 else 1) := by split <;> rfl
  have hw1 : (if mt i j then 0 else 1) ≤ 1 := by split <;> omega
  rw [hw] at hc
  clear est hw
  refine bst_core (d1 := cs fC (fR false) mt sw j i) (d2 := cs fC (fR false) mt sw (j - 1) (i - 1)) (d0 := cs fC (fR false) mt sw j (i + 1)) (dn := cs fC (fR false) mt sw (j + 1) i) h1 h2 h0 hn ?_ ?_ ?_ ?_ ?_ ?_ ?_ ?_ ?_
  · omega
  · intro hs
    rw [if_pos hs] at hc
    omega
  · omega
  · omega
  · intro h
    exact e1 (by omega)
  · intro hs h
    obtain ⟨p1, p2⟩ := swp_pos hs
    exact e2 hs (by omega)
  · intro h
    exact e0 (by omega)
  · intro h
    exact en (by omega)
  · by_cases hs : swp mt sw i j = true
    · rw [if_pos hs] at hc
      have : cs fC (fR false) mt sw j i + (if mt i j then 0 else 1) = cs fC (fR false) mt sw (j + 1) (i + 1) ∨ cs fC (fR false) mt sw (j - 1) (i - 1) + 1 = cs fC (fR false) mt sw (j + 1) (i + 1) ∨ cs fC (fR false) mt sw j (i + 1) + 1 = cs fC (fR false) mt sw (j + 1) (i + 1) ∨ cs fC (fR false) mt sw (j + 1) i + 1 = cs fC (fR false) mt sw (j + 1) (i + 1) := by omega
      rcases this with h | h | h | h
      · exact Or.inl h
      · exact Or.inr (Or.inl ⟨hs, h⟩)
      · exact Or.inr (Or.inr (Or.inl h))
      · exact Or.inr (Or.inr (Or.inr h))
    · rw [if_neg hs] at hc
      have : cs fC (fR false) mt sw j i + (if mt i j then 0 else 1) = cs fC (fR false) mt sw (j + 1) (i + 1) ∨ cs fC (fR false) mt sw j (i + 1) + 1 = cs fC (fR false) mt sw (j + 1) (i + 1) ∨ cs fC (fR false) mt sw (j + 1) i + 1 = cs fC (fR false) mt sw (j + 1) (i + 1) := by omega
      rcases this with h | h | h
      · exact Or.inl h
      · exact Or.inr (Or.inr (Or.inl h))
      · exact Or.inr (Or.inr (Or.inr h))
end BA
