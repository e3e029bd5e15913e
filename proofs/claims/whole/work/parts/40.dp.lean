/-! THE DISTANCES, as numbers: 2048 an edit, and 2047 less the beginning; column j has used j bytes, row i has used i sets -/
def colV (pr p2 : Nat → Nat) (fs : Nat) (mc sc : Nat → Bool) : Nat → Nat
  | 0 => fs
  | i + 1 => min (min (if mc i then pr i else pr i + 2048) (pr (i + 1) + 2048)) (min (colV pr p2 fs mc sc i + 2048) (if sc i then p2 (i - 1) + 2048 else pr i + 2048))
def swp (mt : Nat → Nat → Bool) (sw : Bool) (i j : Nat) : Bool := sw && (decide (1 ≤ i) && (decide (1 ≤ j) && (mt (i - 1) j && mt i (j - 1))))
def cV (c0 r0 : Nat → Nat) (mt : Nat → Nat → Bool) (sw : Bool) : Nat → (Nat → Nat) × (Nat → Nat)
  | 0 => (c0, c0)
  | j + 1 => (colV (cV c0 r0 mt sw j).1 (cV c0 r0 mt sw j).2 (r0 (j + 1)) (fun i => mt i j) (fun i => swp mt sw i j), (cV c0 r0 mt sw j).1)
def vV (c0 r0 : Nat → Nat) (mt : Nat → Nat → Bool) (sw : Bool) (j i : Nat) : Nat := (cV c0 r0 mt sw j).1 i
section DP
variable {c0 r0 : Nat → Nat} {mt : Nat → Nat → Bool} {sw : Bool}
theorem vV_0 {i : Nat} : vV c0 r0 mt sw 0 i = c0 i := rfl
theorem vV_r {j : Nat} : vV c0 r0 mt sw (j + 1) 0 = r0 (j + 1) := rfl
theorem vV_p2 {j i : Nat} : (cV c0 r0 mt sw (j + 1)).2 i = vV c0 r0 mt sw j i := rfl
theorem vV_s {j i : Nat} : vV c0 r0 mt sw (j + 1) (i + 1) = min (min (if mt i j then vV c0 r0 mt sw j i else vV c0 r0 mt sw j i + 2048) (vV c0 r0 mt sw j (i + 1) + 2048)) (min (vV c0 r0 mt sw (j + 1) i + 2048) (if swp mt sw i j then (cV c0 r0 mt sw j).2 (i - 1) + 2048 else vV c0 r0 mt sw j i + 2048)) := rfl
/-- .. with the swap's number told -/
theorem vV_s2 {j i : Nat} : vV c0 r0 mt sw (j + 1) (i + 1) = min (min (if mt i j then vV c0 r0 mt sw j i else vV c0 r0 mt sw j i + 2048) (vV c0 r0 mt sw j (i + 1) + 2048)) (min (vV c0 r0 mt sw (j + 1) i + 2048) (if swp mt sw i j then vV c0 r0 mt sw (j - 1) (i - 1) + 2048 else vV c0 r0 mt sw j i + 2048)) := by
  rw [vV_s]
  by_cases h : swp mt sw i j = true
  · rw [if_pos h, if_pos h]
    have hj : 1 ≤ j := by
      unfold swp at h
      simp only [Bool.and_eq_true, decide_eq_true_eq] at h
      exact h.2.2.1
    obtain ⟨k, rfl⟩ : ∃ k, j = k + 1 := ⟨j - 1, by omega⟩
    rw [vV_p2, Nat.add_sub_cancel]
  · rw [if_neg h, if_neg h]
theorem swp_pos {i j : Nat} (h : swp mt sw i j = true) : 1 ≤ i ∧ 1 ≤ j := by
  unfold swp at h
  simp only [Bool.and_eq_true, decide_eq_true_eq] at h
  exact ⟨h.2.1, h.2.2.1⟩
/-- the edits of a number -/
def cs (c0 r0 : Nat → Nat) (mt : Nat → Nat → Bool) (sw : Bool) (j i : Nat) : Nat := vV c0 r0 mt sw j i / 2048
theorem div_min (a b : Nat) : min a b / 2048 = min (a / 2048) (b / 2048) := by
  rcases Nat.le_total a b with h | h
  · rw [Nat.min_eq_left h, Nat.min_eq_left (Nat.div_le_div_right h)]
  · rw [Nat.min_eq_right h, Nat.min_eq_right (Nat.div_le_div_right h)]
theorem div_add (a : Nat) : (a + 2048) / 2048 = a / 2048 + 1 := by omega
theorem cs_s {j i : Nat} : cs c0 r0 mt sw (j + 1) (i + 1) = min (min (if mt i j then cs c0 r0 mt sw j i else cs c0 r0 mt sw j i + 1) (cs c0 r0 mt sw j (i + 1) + 1)) (min (cs c0 r0 mt sw (j + 1) i + 1) (if swp mt sw i j then cs c0 r0 mt sw (j - 1) (i - 1) + 1 else cs c0 r0 mt sw j i + 1)) := by
  unfold cs
  rw [vV_s2, div_min, div_min, div_min, div_add, div_add]
  congr 2
  · split <;> first | rfl | exact div_add _
  · split <;> exact div_add _
/-- what a beginning must hold -/
def st0 (c0 r0 : Nat → Nat) : Prop := c0 0 = r0 0 ∧ (∀ i, c0 (i + 1) = c0 i + 2048) ∧ ∀ j, r0 (j + 1) / 2048 ≤ r0 j / 2048 + 1 ∧ r0 j / 2048 ≤ r0 (j + 1) / 2048 + 1
theorem cs_0 {i : Nat} (h : st0 c0 r0) : cs c0 r0 mt sw 0 (i + 1) = cs c0 r0 mt sw 0 i + 1 := by
  unfold cs
  rw [vV_0, vV_0, h.2.1, div_add]
theorem cs_r {j : Nat} (h : st0 c0 r0) : cs c0 r0 mt sw j 0 = r0 j / 2048 := by
  unfold cs
  cases j with
  | zero => rw [vV_0, h.1]
  | succ j => rw [vV_r]
/-- one set more costs one edit at most -/
theorem cs_V2 (h : st0 c0 r0) (j i : Nat) : cs c0 r0 mt sw j (i + 1) ≤ cs c0 r0 mt sw j i + 1 := by
  cases j with
  | zero => rw [cs_0 h]; omega
  | succ j => rw [cs_s]; omega
theorem cs_H2 (h : st0 c0 r0) (j i : Nat) : cs c0 r0 mt sw (j + 1) i ≤ cs c0 r0 mt sw j i + 1 := by
  cases i with
  | zero => rw [cs_r h, cs_r h]; exact (h.2.2 j).1
  | succ i => rw [cs_s]; omega
/-- a change costs one edit -/
theorem cs_D2 (j i : Nat) : cs c0 r0 mt sw (j + 1) (i + 1) ≤ cs c0 r0 mt sw j i + 1 := by
  rw [cs_s]
  split <;> omega
theorem cs_V1 (h : st0 c0 r0) (j : Nat) : ∀ i, cs c0 r0 mt sw j i ≤ cs c0 r0 mt sw j (i + 1) + 1 := by
  induction j with
  | zero => intro i; rw [cs_0 h]; omega
  | succ j ih =>
    intro i
    have h1 := cs_H2 (mt := mt) (sw := sw) h j i
    have h2 := ih i
    rw [cs_s]
    by_cases hs : swp mt sw i j = true
    · obtain ⟨p1, p2⟩ := swp_pos hs
      obtain ⟨i', rfl⟩ : ∃ k, i = k + 1 := ⟨i - 1, by omega⟩
      obtain ⟨j', rfl⟩ : ∃ k, j = k + 1 := ⟨j - 1, by omega⟩
      have h3 := cs_D2 (c0 := c0) (r0 := r0) (mt := mt) (sw := sw) j' i'
      rw [if_pos hs]
      simp only [Nat.add_sub_cancel]
      split <;> omega
    · rw [if_neg hs]
      split <;> omega
theorem cs_H1 (h : st0 c0 r0) (j : Nat) : ∀ i, cs c0 r0 mt sw j i ≤ cs c0 r0 mt sw (j + 1) i + 1 := by
  intro i
  induction i with
  | zero => rw [cs_r h, cs_r h]; exact (h.2.2 j).2
  | succ i ih =>
    have h1 := cs_V2 (mt := mt) (sw := sw) h j i
    rw [cs_s]
    by_cases hs : swp mt sw i j = true
    · obtain ⟨p1, p2⟩ := swp_pos hs
      obtain ⟨i', rfl⟩ : ∃ k, i = k + 1 := ⟨i - 1, by omega⟩
      obtain ⟨j', rfl⟩ : ∃ k, j = k + 1 := ⟨j - 1, by omega⟩
      have h3 := cs_D2 (c0 := c0) (r0 := r0) (mt := mt) (sw := sw) j' i'
      rw [if_pos hs]
      simp only [Nat.add_sub_cancel]
      split <;> omega
    · rw [if_neg hs]
      split <;> omega
/-- along a diagonal edits never fall -/
theorem cs_D1 (h : st0 c0 r0) (j i : Nat) : cs c0 r0 mt sw j i ≤ cs c0 r0 mt sw (j + 1) (i + 1) := by
  have h1 := cs_V1 (mt := mt) (sw := sw) h j i
  have h2 := cs_H1 (mt := mt) (sw := sw) h j i
  rw [cs_s]
  by_cases hs : swp mt sw i j = true
  · obtain ⟨p1, p2⟩ := swp_pos hs
    obtain ⟨i', rfl⟩ : ∃ k, i = k + 1 := ⟨i - 1, by omega⟩
    obtain ⟨j', rfl⟩ : ∃ k, j = k + 1 := ⟨j - 1, by omega⟩
    have h3 := cs_D2 (c0 := c0) (r0 := r0) (mt := mt) (sw := sw) j' i'
    rw [if_pos hs]
    simp only [Nat.add_sub_cancel]
    split <;> omega
  · rw [if_neg hs]
    split <;> omega
/-- the numbers of a search that begins at o, and those of one that begins at 0 -/
theorem vV_shift {c1 r1 : Nat → Nat} {o : Nat} (N : Nat) (hc : ∀ i, c1 i + o = c0 i) (hr : ∀ j, j ≤ N → r1 j + o = r0 j) : ∀ j, j ≤ N → ∀ i, vV c1 r1 mt sw j i + o = vV c0 r0 mt sw j i := by
  have key : ∀ j, j ≤ N → (∀ i, vV c1 r1 mt sw j i + o = vV c0 r0 mt sw j i) ∧ (∀ i, (cV c1 r1 mt sw j).2 i + o = (cV c0 r0 mt sw j).2 i) := by
    intro j
    induction j with
    | zero => intro _; exact ⟨hc, hc⟩
    | succ j ih =>
      intro hj
      obtain ⟨ih1, ih2⟩ := ih (by omega)
      refine ⟨fun i => ?_, ih1⟩
      induction i with
      | zero => exact hr _ hj
      | succ i ih3 =>
        rw [vV_s, vV_s, ← ih1, ← ih1, ← ih3, ← ih2]
        repeat' split
        all_goals omega
  exact fun j hj => (key j hj).1
end DP
