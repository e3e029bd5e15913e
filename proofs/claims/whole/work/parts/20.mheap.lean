/-! THE REFERENCE IN THE HEAP: its object at y, its arrays at y + 1 .. y + 28; si, sl: its numbers by the field; A, B: its arrays by their number; g: the rest of the heap -/
def mfl (y : Nat) (si : Nat → Int32) (sl : Nat → Int64) : List Value := [.ref (y + 1), .int (si 1), .ref (y + 2), .int (si 3), .ref (y + 3), .ref (y + 4), .int (si 6), .ref (y + 5), .ref (y + 6), .ref (y + 7), .int (si 10), .int (si 11), .int (si 12), .int (si 13), .ref (y + 8), .ref (y + 9), .int (si 16), .long (sl 17), .long (sl 18), .ref (y + 10), .ref (y + 11), .int (si 21), .ref (y + 12), .int (si 23), .int (si 24), .ref (y + 13), .ref (y + 14), .ref (y + 15), .ref (y + 16), .ref (y + 17), .ref (y + 18), .int (si 31), .ref (y + 19), .ref (y + 20), .ref (y + 21), .ref (y + 22), .ref (y + 23), .ref (y + 24), .int (si 38), .int (si 39), .ref (y + 25), .ref (y + 26), .int (si 42), .ref (y + 27), .int (si 44), .ref (y + 28)]
def mar (A : Nat → Nat → Int32) (B : Nat → Nat → Int64) (k : Nat) : Option va_E := match k with
  | 1 => some (.inl (1, 400, .inl (A 1)))
  | 2 => some (.inl (1, 1500, .inl (A 2)))
  | 3 => some (.inl (1, 7500, .inl (A 3)))
  | 4 => some (.inl (1, 5, .inl (A 4)))
  | 5 => some (.inl (2, 1600, .inr (.inl (B 5))))
  | 6 => some (.inl (2, 1600, .inr (.inl (B 6))))
  | 7 => some (.inl (1, 8, .inl (A 7)))
  | 8 => some (.inl (2, 200, .inr (.inl (B 8))))
  | 9 => some (.inl (2, 200, .inr (.inl (B 9))))
  | 10 => some (.inl (2, 1500, .inr (.inl (B 10))))
  | 11 => some (.inl (2, 1500, .inr (.inl (B 11))))
  | 12 => some (.inl (1, 1500, .inl (A 12)))
  | 13 => some (.inl (1, 1501, .inl (A 13)))
  | 14 => some (.inl (1, 1501, .inl (A 14)))
  | 15 => some (.inl (1, 1501, .inl (A 15)))
  | 16 => some (.inl (1, 1501, .inl (A 16)))
  | 17 => some (.inl (1, 1501, .inl (A 17)))
  | 18 => some (.inl (1, 1501, .inl (A 18)))
  | 19 => some (.inl (1, 1500, .inl (A 19)))
  | 20 => some (.inl (1, 1500, .inl (A 20)))
  | 21 => some (.inl (1, 1500, .inl (A 21)))
  | 22 => some (.inl (1, 1500, .inl (A 22)))
  | 23 => some (.inl (2, 200, .inr (.inl (B 23))))
  | 24 => some (.inl (2, 200, .inr (.inl (B 24))))
  | 25 => some (.inl (1, 80601, .inl (A 25)))
  | 26 => some (.inl (1, 800, .inl (A 26)))
  | 27 => some (.inl (1, 1501, .inl (A 27)))
  | 28 => some (.inl (1, 1501, .inl (A 28)))
  | _ => none
def mh (y : Nat) (si : Nat → Int32) (sl : Nat → Int64) (A : Nat → Nat → Int32) (B : Nat → Nat → Int64) (g : zh_H) : zh_H := fun q => if q = y then some (.inr (11, mfl y si sl)) else if y < q ∧ q ≤ y + 28 then mar A B (q - y) else g q
section MH
variable {y : Nat} {si : Nat → Int32} {sl : Nat → Int64} {A : Nat → Nat → Int32} {B : Nat → Nat → Int64} {g : zh_H}
theorem mh_y : mh y si sl A B g y = some (.inr (11, mfl y si sl)) := if_pos rfl
theorem mh_a {k : Nat} (h1 : 1 ≤ k) (h2 : k ≤ 28) : mh y si sl A B g (y + k) = mar A B k := by
  unfold mh
  rw [if_neg (by omega), if_pos (by omega), Nat.add_sub_cancel_left]
theorem mh_o {q : Nat} (hq : q < y ∨ y + 28 < q) : mh y si sl A B g q = g q := by
  unfold mh
  rw [if_neg (by omega), if_neg (by omega)]
theorem mh_upy {si' : Nat → Int32} {sl' : Nat → Int64} : zh_up (mh y si sl A B g) y (.inr (11, mfl y si' sl')) = mh y si' sl' A B g := by
  funext q
  unfold zh_up mh
  by_cases hq : q = y
  · rw [if_pos hq, if_pos hq]
  · rw [if_neg hq, if_neg hq, if_neg hq]
theorem mh_upa {k : Nat} (h1 : 1 ≤ k) (h2 : k ≤ 28) {x : va_E} {A' : Nat → Nat → Int32} {B' : Nat → Nat → Int64} (hk : mar A' B' k = some x) (ho : ∀ j, j ≠ k → mar A' B' j = mar A B j) : zh_up (mh y si sl A B g) (y + k) x = mh y si sl A' B' g := by
  funext q
  unfold zh_up mh
  by_cases hq : q = y + k
  · subst hq
    rw [if_pos rfl, if_neg (by omega), if_pos (by omega), Nat.add_sub_cancel_left, hk]
  · rw [if_neg hq]
    by_cases h3 : q = y
    · rw [if_pos h3, if_pos h3]
    · rw [if_neg h3, if_neg h3]
      by_cases h4 : y < q ∧ q ≤ y + 28
      · rw [if_pos h4, if_pos h4, ho _ (by omega)]
      · rw [if_neg h4, if_neg h4]
theorem mg_tapeSize : gI (mh y si sl A B g) y 11 1 = some (si 1) := by simp [gI, mh_y, mfl]
theorem mp_tapeSize {v : Int32} : pV (mh y si sl A B g) y 11 1 (.int v) = some (mh y (upd si 1 v) sl A B g) := by
  unfold pV
  rw [mh_y]
  simp only [true_and]
  rw [if_pos (by simp [mfl])]
  congr 1
  exact mh_upy (si' := upd si 1 v) (sl' := sl)
theorem mg_textSize : gI (mh y si sl A B g) y 11 3 = some (si 3) := by simp [gI, mh_y, mfl]
theorem mp_textSize {v : Int32} : pV (mh y si sl A B g) y 11 3 (.int v) = some (mh y (upd si 3 v) sl A B g) := by
  unfold pV
  rw [mh_y]
  simp only [true_and]
  rw [if_pos (by simp [mfl])]
  congr 1
  exact mh_upy (si' := upd si 3 v) (sl' := sl)
theorem mg_oldCount : gI (mh y si sl A B g) y 11 6 = some (si 6) := by simp [gI, mh_y, mfl]
theorem mp_oldCount {v : Int32} : pV (mh y si sl A B g) y 11 6 (.int v) = some (mh y (upd si 6 v) sl A B g) := by
  unfold pV
  rw [mh_y]
  simp only [true_and]
  rw [if_pos (by simp [mfl])]
  congr 1
  exact mh_upy (si' := upd si 6 v) (sl' := sl)
theorem mg_place : gI (mh y si sl A B g) y 11 10 = some (si 10) := by simp [gI, mh_y, mfl]
theorem mp_place {v : Int32} : pV (mh y si sl A B g) y 11 10 (.int v) = some (mh y (upd si 10 v) sl A B g) := by
  unfold pV
  rw [mh_y]
  simp only [true_and]
  rw [if_pos (by simp [mfl])]
  congr 1
  exact mh_upy (si' := upd si 10 v) (sl' := sl)
theorem mg_at : gI (mh y si sl A B g) y 11 11 = some (si 11) := by simp [gI, mh_y, mfl]
theorem mp_at {v : Int32} : pV (mh y si sl A B g) y 11 11 (.int v) = some (mh y (upd si 11 v) sl A B g) := by
  unfold pV
  rw [mh_y]
  simp only [true_and]
  rw [if_pos (by simp [mfl])]
  congr 1
  exact mh_upy (si' := upd si 11 v) (sl' := sl)
theorem mg_fault : gI (mh y si sl A B g) y 11 12 = some (si 12) := by simp [gI, mh_y, mfl]
theorem mp_fault {v : Int32} : pV (mh y si sl A B g) y 11 12 (.int v) = some (mh y (upd si 12 v) sl A B g) := by
  unfold pV
  rw [mh_y]
  simp only [true_and]
  rw [if_pos (by simp [mfl])]
  congr 1
  exact mh_upy (si' := upd si 12 v) (sl' := sl)
theorem mg_faultAt : gI (mh y si sl A B g) y 11 13 = some (si 13) := by simp [gI, mh_y, mfl]
theorem mp_faultAt {v : Int32} : pV (mh y si sl A B g) y 11 13 (.int v) = some (mh y (upd si 13 v) sl A B g) := by
  unfold pV
  rw [mh_y]
  simp only [true_and]
  rw [if_pos (by simp [mfl])]
  congr 1
  exact mh_upy (si' := upd si 13 v) (sl' := sl)
theorem mg_newCount : gI (mh y si sl A B g) y 11 16 = some (si 16) := by simp [gI, mh_y, mfl]
theorem mp_newCount {v : Int32} : pV (mh y si sl A B g) y 11 16 (.int v) = some (mh y (upd si 16 v) sl A B g) := by
  unfold pV
  rw [mh_y]
  simp only [true_and]
  rw [if_pos (by simp [mfl])]
  congr 1
  exact mh_upy (si' := upd si 16 v) (sl' := sl)
theorem mg_low : gL (mh y si sl A B g) y 11 17 = some (sl 17) := by simp [gL, mh_y, mfl]
theorem mp_low {v : Int64} : pV (mh y si sl A B g) y 11 17 (.long v) = some (mh y si (vp_updL sl 17 v) A B g) := by
  unfold pV
  rw [mh_y]
  simp only [true_and]
  rw [if_pos (by simp [mfl])]
  congr 1
  exact mh_upy (si' := si) (sl' := vp_updL sl 17 v)
theorem mg_high : gL (mh y si sl A B g) y 11 18 = some (sl 18) := by simp [gL, mh_y, mfl]
theorem mp_high {v : Int64} : pV (mh y si sl A B g) y 11 18 (.long v) = some (mh y si (vp_updL sl 18 v) A B g) := by
  unfold pV
  rw [mh_y]
  simp only [true_and]
  rw [if_pos (by simp [mfl])]
  congr 1
  exact mh_upy (si' := si) (sl' := vp_updL sl 18 v)
theorem mg_sets : gI (mh y si sl A B g) y 11 21 = some (si 21) := by simp [gI, mh_y, mfl]
theorem mp_sets {v : Int32} : pV (mh y si sl A B g) y 11 21 (.int v) = some (mh y (upd si 21 v) sl A B g) := by
  unfold pV
  rw [mh_y]
  simp only [true_and]
  rw [if_pos (by simp [mfl])]
  congr 1
  exact mh_upy (si' := upd si 21 v) (sl' := sl)
theorem mg_many : gI (mh y si sl A B g) y 11 23 = some (si 23) := by simp [gI, mh_y, mfl]
theorem mp_many {v : Int32} : pV (mh y si sl A B g) y 11 23 (.int v) = some (mh y (upd si 23 v) sl A B g) := by
  unfold pV
  rw [mh_y]
  simp only [true_and]
  rw [if_pos (by simp [mfl])]
  congr 1
  exact mh_upy (si' := upd si 23 v) (sl' := sl)
theorem mg_swapping : gI (mh y si sl A B g) y 11 24 = some (si 24) := by simp [gI, mh_y, mfl]
theorem mp_swapping {v : Int32} : pV (mh y si sl A B g) y 11 24 (.int v) = some (mh y (upd si 24 v) sl A B g) := by
  unfold pV
  rw [mh_y]
  simp only [true_and]
  rw [if_pos (by simp [mfl])]
  congr 1
  exact mh_upy (si' := upd si 24 v) (sl' := sl)
theorem mz_swapping {v : Int32} (hv : v = 0 ∨ v = 1) : pZ (mh y si sl A B g) y 11 24 v = some (mh y (upd si 24 v) sl A B g) := by
  unfold pZ
  rw [if_pos hv]
  exact mp_swapping
theorem mg_hits : gI (mh y si sl A B g) y 11 31 = some (si 31) := by simp [gI, mh_y, mfl]
theorem mp_hits {v : Int32} : pV (mh y si sl A B g) y 11 31 (.int v) = some (mh y (upd si 31 v) sl A B g) := by
  unfold pV
  rw [mh_y]
  simp only [true_and]
  rw [if_pos (by simp [mfl])]
  congr 1
  exact mh_upy (si' := upd si 31 v) (sl' := sl)
theorem mg_hitSets : gI (mh y si sl A B g) y 11 38 = some (si 38) := by simp [gI, mh_y, mfl]
theorem mp_hitSets {v : Int32} : pV (mh y si sl A B g) y 11 38 (.int v) = some (mh y (upd si 38 v) sl A B g) := by
  unfold pV
  rw [mh_y]
  simp only [true_and]
  rw [if_pos (by simp [mfl])]
  congr 1
  exact mh_upy (si' := upd si 38 v) (sl' := sl)
theorem mg_hitSwaps : gI (mh y si sl A B g) y 11 39 = some (si 39) := by simp [gI, mh_y, mfl]
theorem mp_hitSwaps {v : Int32} : pV (mh y si sl A B g) y 11 39 (.int v) = some (mh y (upd si 39 v) sl A B g) := by
  unfold pV
  rw [mh_y]
  simp only [true_and]
  rw [if_pos (by simp [mfl])]
  congr 1
  exact mh_upy (si' := upd si 39 v) (sl' := sl)
theorem mz_hitSwaps {v : Int32} (hv : v = 0 ∨ v = 1) : pZ (mh y si sl A B g) y 11 39 v = some (mh y (upd si 39 v) sl A B g) := by
  unfold pZ
  rw [if_pos hv]
  exact mp_hitSwaps
theorem mg_stepCount : gI (mh y si sl A B g) y 11 42 = some (si 42) := by simp [gI, mh_y, mfl]
theorem mp_stepCount {v : Int32} : pV (mh y si sl A B g) y 11 42 (.int v) = some (mh y (upd si 42 v) sl A B g) := by
  unfold pV
  rw [mh_y]
  simp only [true_and]
  rw [if_pos (by simp [mfl])]
  congr 1
  exact mh_upy (si' := upd si 42 v) (sl' := sl)
theorem mg_lineCount : gI (mh y si sl A B g) y 11 44 = some (si 44) := by simp [gI, mh_y, mfl]
theorem mp_lineCount {v : Int32} : pV (mh y si sl A B g) y 11 44 (.int v) = some (mh y (upd si 44 v) sl A B g) := by
  unfold pV
  rw [mh_y]
  simp only [true_and]
  rw [if_pos (by simp [mfl])]
  congr 1
  exact mh_upy (si' := upd si 44 v) (sl' := sl)
/-- one array's row with a place changed -/
def ua (A : Nat → Nat → Int32) (k : Nat) (f : Nat → Int32) : Nat → Nat → Int32 := fun j => if j = k then f else A j
def ub (B : Nat → Nat → Int64) (k : Nat) (f : Nat → Int64) : Nat → Nat → Int64 := fun j => if j = k then f else B j
theorem ua_s {k : Nat} {f : Nat → Int32} : ua A k f k = f := if_pos rfl
theorem ub_s {k : Nat} {f : Nat → Int64} : ub B k f k = f := if_pos rfl
theorem ua_n {k j : Nat} {f : Nat → Int32} (h : j ≠ k) : ua A k f j = A j := if_neg h
theorem ub_n {k j : Nat} {f : Nat → Int64} (h : j ≠ k) : ub B k f j = B j := if_neg h
theorem mar_ua {k : Nat} {f : Nat → Int32} : ∀ j, j ≠ k → mar (ua A k f) B j = mar A B j := by
  intro j hj
  unfold mar
  split <;> first | rfl | (rw [ua_n hj])
theorem mar_ub {k : Nat} {f : Nat → Int64} : ∀ j, j ≠ k → mar A (ub B k f) j = mar A B j := by
  intro j hj
  unfold mar
  split <;> first | rfl | (rw [ub_n hj])
theorem mr_tape : gR (mh y si sl A B g) y 11 0 = some (y + 1) := by simp [gR, mh_y, mfl]
theorem ml_tape {i : Nat} (hi : i < 400) : aI (mh y si sl A B g) 1 (y + 1) (nI i) = some (A 1 i) := by
  unfold aI
  rw [mh_a (by decide) (by decide)]
  simp only [mar, true_and]
  rw [if_pos (nI_in hi (by decide)), nI_clamp (by omega)]
theorem ms_tape {i : Nat} {v : Int32} (hi : i < 400) : sI (mh y si sl A B g) (y + 1) (nI i) v = some (mh y si sl (ua A 1 (upd (A 1) i v)) B g) := by
  unfold sI
  rw [mh_a (by decide) (by decide)]
  simp only [mar, true_and]
  rw [if_pos (nI_in hi (by decide)), nI_clamp (by omega)]
  congr 1
  exact mh_upa (A' := ua A 1 (upd (A 1) i v)) (B' := B) (by decide) (by decide) (by simp [mar, ua]) mar_ua
theorem mr_text : gR (mh y si sl A B g) y 11 2 = some (y + 2) := by simp [gR, mh_y, mfl]
theorem ml_text {i : Nat} (hi : i < 1500) : aI (mh y si sl A B g) 1 (y + 2) (nI i) = some (A 2 i) := by
  unfold aI
  rw [mh_a (by decide) (by decide)]
  simp only [mar, true_and]
  rw [if_pos (nI_in hi (by decide)), nI_clamp (by omega)]
theorem ms_text {i : Nat} {v : Int32} (hi : i < 1500) : sI (mh y si sl A B g) (y + 2) (nI i) v = some (mh y si sl (ua A 2 (upd (A 2) i v)) B g) := by
  unfold sI
  rw [mh_a (by decide) (by decide)]
  simp only [mar, true_and]
  rw [if_pos (nI_in hi (by decide)), nI_clamp (by omega)]
  congr 1
  exact mh_upa (A' := ua A 2 (upd (A 2) i v)) (B' := B) (by decide) (by decide) (by simp [mar, ua]) mar_ua
theorem mr_olds : gR (mh y si sl A B g) y 11 4 = some (y + 3) := by simp [gR, mh_y, mfl]
theorem ml_olds {i : Nat} (hi : i < 7500) : aI (mh y si sl A B g) 1 (y + 3) (nI i) = some (A 3 i) := by
  unfold aI
  rw [mh_a (by decide) (by decide)]
  simp only [mar, true_and]
  rw [if_pos (nI_in hi (by decide)), nI_clamp (by omega)]
theorem ms_olds {i : Nat} {v : Int32} (hi : i < 7500) : sI (mh y si sl A B g) (y + 3) (nI i) v = some (mh y si sl (ua A 3 (upd (A 3) i v)) B g) := by
  unfold sI
  rw [mh_a (by decide) (by decide)]
  simp only [mar, true_and]
  rw [if_pos (nI_in hi (by decide)), nI_clamp (by omega)]
  congr 1
  exact mh_upa (A' := ua A 3 (upd (A 3) i v)) (B' := B) (by decide) (by decide) (by simp [mar, ua]) mar_ua
theorem mr_oldSizes : gR (mh y si sl A B g) y 11 5 = some (y + 4) := by simp [gR, mh_y, mfl]
theorem ml_oldSizes {i : Nat} (hi : i < 5) : aI (mh y si sl A B g) 1 (y + 4) (nI i) = some (A 4 i) := by
  unfold aI
  rw [mh_a (by decide) (by decide)]
  simp only [mar, true_and]
  rw [if_pos (nI_in hi (by decide)), nI_clamp (by omega)]
theorem ms_oldSizes {i : Nat} {v : Int32} (hi : i < 5) : sI (mh y si sl A B g) (y + 4) (nI i) v = some (mh y si sl (ua A 4 (upd (A 4) i v)) B g) := by
  unfold sI
  rw [mh_a (by decide) (by decide)]
  simp only [mar, true_and]
  rw [if_pos (nI_in hi (by decide)), nI_clamp (by omega)]
  congr 1
  exact mh_upa (A' := ua A 4 (upd (A 4) i v)) (B' := B) (by decide) (by decide) (by simp [mar, ua]) mar_ua
theorem mr_lows : gR (mh y si sl A B g) y 11 7 = some (y + 5) := by simp [gR, mh_y, mfl]
theorem ml_lows {i : Nat} (hi : i < 1600) : aL (mh y si sl A B g) (y + 5) (nI i) = some (B 5 i) := by
  unfold aL
  rw [mh_a (by decide) (by decide)]
  simp only [mar, true_and]
  rw [if_pos (nI_in hi (by decide)), nI_clamp (by omega)]
theorem ms_lows {i : Nat} {v : Int64} (hi : i < 1600) : sL (mh y si sl A B g) (y + 5) (nI i) v = some (mh y si sl A (ub B 5 (vp_updL (B 5) i v)) g) := by
  unfold sL
  rw [mh_a (by decide) (by decide)]
  simp only [mar, true_and]
  rw [if_pos (nI_in hi (by decide)), nI_clamp (by omega)]
  congr 1
  exact mh_upa (A' := A) (B' := ub B 5 (vp_updL (B 5) i v)) (by decide) (by decide) (by simp [mar, ub]) mar_ub
theorem mr_highs : gR (mh y si sl A B g) y 11 8 = some (y + 6) := by simp [gR, mh_y, mfl]
theorem ml_highs {i : Nat} (hi : i < 1600) : aL (mh y si sl A B g) (y + 6) (nI i) = some (B 6 i) := by
  unfold aL
  rw [mh_a (by decide) (by decide)]
  simp only [mar, true_and]
  rw [if_pos (nI_in hi (by decide)), nI_clamp (by omega)]
theorem ms_highs {i : Nat} {v : Int64} (hi : i < 1600) : sL (mh y si sl A B g) (y + 6) (nI i) v = some (mh y si sl A (ub B 6 (vp_updL (B 6) i v)) g) := by
  unfold sL
  rw [mh_a (by decide) (by decide)]
  simp only [mar, true_and]
  rw [if_pos (nI_in hi (by decide)), nI_clamp (by omega)]
  congr 1
  exact mh_upa (A' := A) (B' := ub B 6 (vp_updL (B 6) i v)) (by decide) (by decide) (by simp [mar, ub]) mar_ub
theorem mr_setCount : gR (mh y si sl A B g) y 11 9 = some (y + 7) := by simp [gR, mh_y, mfl]
theorem ml_setCount {i : Nat} (hi : i < 8) : aI (mh y si sl A B g) 1 (y + 7) (nI i) = some (A 7 i) := by
  unfold aI
  rw [mh_a (by decide) (by decide)]
  simp only [mar, true_and]
  rw [if_pos (nI_in hi (by decide)), nI_clamp (by omega)]
theorem ms_setCount {i : Nat} {v : Int32} (hi : i < 8) : sI (mh y si sl A B g) (y + 7) (nI i) v = some (mh y si sl (ua A 7 (upd (A 7) i v)) B g) := by
  unfold sI
  rw [mh_a (by decide) (by decide)]
  simp only [mar, true_and]
  rw [if_pos (nI_in hi (by decide)), nI_clamp (by omega)]
  congr 1
  exact mh_upa (A' := ua A 7 (upd (A 7) i v)) (B' := B) (by decide) (by decide) (by simp [mar, ua]) mar_ua
theorem mr_newLows : gR (mh y si sl A B g) y 11 14 = some (y + 8) := by simp [gR, mh_y, mfl]
theorem ml_newLows {i : Nat} (hi : i < 200) : aL (mh y si sl A B g) (y + 8) (nI i) = some (B 8 i) := by
  unfold aL
  rw [mh_a (by decide) (by decide)]
  simp only [mar, true_and]
  rw [if_pos (nI_in hi (by decide)), nI_clamp (by omega)]
theorem ms_newLows {i : Nat} {v : Int64} (hi : i < 200) : sL (mh y si sl A B g) (y + 8) (nI i) v = some (mh y si sl A (ub B 8 (vp_updL (B 8) i v)) g) := by
  unfold sL
  rw [mh_a (by decide) (by decide)]
  simp only [mar, true_and]
  rw [if_pos (nI_in hi (by decide)), nI_clamp (by omega)]
  congr 1
  exact mh_upa (A' := A) (B' := ub B 8 (vp_updL (B 8) i v)) (by decide) (by decide) (by simp [mar, ub]) mar_ub
theorem mr_newHighs : gR (mh y si sl A B g) y 11 15 = some (y + 9) := by simp [gR, mh_y, mfl]
theorem ml_newHighs {i : Nat} (hi : i < 200) : aL (mh y si sl A B g) (y + 9) (nI i) = some (B 9 i) := by
  unfold aL
  rw [mh_a (by decide) (by decide)]
  simp only [mar, true_and]
  rw [if_pos (nI_in hi (by decide)), nI_clamp (by omega)]
theorem ms_newHighs {i : Nat} {v : Int64} (hi : i < 200) : sL (mh y si sl A B g) (y + 9) (nI i) v = some (mh y si sl A (ub B 9 (vp_updL (B 9) i v)) g) := by
  unfold sL
  rw [mh_a (by decide) (by decide)]
  simp only [mar, true_and]
  rw [if_pos (nI_in hi (by decide)), nI_clamp (by omega)]
  congr 1
  exact mh_upa (A' := A) (B' := ub B 9 (vp_updL (B 9) i v)) (by decide) (by decide) (by simp [mar, ub]) mar_ub
theorem mr_rowLows : gR (mh y si sl A B g) y 11 19 = some (y + 10) := by simp [gR, mh_y, mfl]
theorem ml_rowLows {i : Nat} (hi : i < 1500) : aL (mh y si sl A B g) (y + 10) (nI i) = some (B 10 i) := by
  unfold aL
  rw [mh_a (by decide) (by decide)]
  simp only [mar, true_and]
  rw [if_pos (nI_in hi (by decide)), nI_clamp (by omega)]
theorem ms_rowLows {i : Nat} {v : Int64} (hi : i < 1500) : sL (mh y si sl A B g) (y + 10) (nI i) v = some (mh y si sl A (ub B 10 (vp_updL (B 10) i v)) g) := by
  unfold sL
  rw [mh_a (by decide) (by decide)]
  simp only [mar, true_and]
  rw [if_pos (nI_in hi (by decide)), nI_clamp (by omega)]
  congr 1
  exact mh_upa (A' := A) (B' := ub B 10 (vp_updL (B 10) i v)) (by decide) (by decide) (by simp [mar, ub]) mar_ub
theorem mr_rowHighs : gR (mh y si sl A B g) y 11 20 = some (y + 11) := by simp [gR, mh_y, mfl]
theorem ml_rowHighs {i : Nat} (hi : i < 1500) : aL (mh y si sl A B g) (y + 11) (nI i) = some (B 11 i) := by
  unfold aL
  rw [mh_a (by decide) (by decide)]
  simp only [mar, true_and]
  rw [if_pos (nI_in hi (by decide)), nI_clamp (by omega)]
theorem ms_rowHighs {i : Nat} {v : Int64} (hi : i < 1500) : sL (mh y si sl A B g) (y + 11) (nI i) v = some (mh y si sl A (ub B 11 (vp_updL (B 11) i v)) g) := by
  unfold sL
  rw [mh_a (by decide) (by decide)]
  simp only [mar, true_and]
  rw [if_pos (nI_in hi (by decide)), nI_clamp (by omega)]
  congr 1
  exact mh_upa (A' := A) (B' := ub B 11 (vp_updL (B 11) i v)) (by decide) (by decide) (by simp [mar, ub]) mar_ub
theorem mr_bytes : gR (mh y si sl A B g) y 11 22 = some (y + 12) := by simp [gR, mh_y, mfl]
theorem ml_bytes {i : Nat} (hi : i < 1500) : aI (mh y si sl A B g) 1 (y + 12) (nI i) = some (A 12 i) := by
  unfold aI
  rw [mh_a (by decide) (by decide)]
  simp only [mar, true_and]
  rw [if_pos (nI_in hi (by decide)), nI_clamp (by omega)]
theorem ms_bytes {i : Nat} {v : Int32} (hi : i < 1500) : sI (mh y si sl A B g) (y + 12) (nI i) v = some (mh y si sl (ua A 12 (upd (A 12) i v)) B g) := by
  unfold sI
  rw [mh_a (by decide) (by decide)]
  simp only [mar, true_and]
  rw [if_pos (nI_in hi (by decide)), nI_clamp (by omega)]
  congr 1
  exact mh_upa (A' := ua A 12 (upd (A 12) i v)) (B' := B) (by decide) (by decide) (by simp [mar, ua]) mar_ua
theorem mr_cost : gR (mh y si sl A B g) y 11 25 = some (y + 13) := by simp [gR, mh_y, mfl]
theorem ml_cost {i : Nat} (hi : i < 1501) : aI (mh y si sl A B g) 1 (y + 13) (nI i) = some (A 13 i) := by
  unfold aI
  rw [mh_a (by decide) (by decide)]
  simp only [mar, true_and]
  rw [if_pos (nI_in hi (by decide)), nI_clamp (by omega)]
theorem ms_cost {i : Nat} {v : Int32} (hi : i < 1501) : sI (mh y si sl A B g) (y + 13) (nI i) v = some (mh y si sl (ua A 13 (upd (A 13) i v)) B g) := by
  unfold sI
  rw [mh_a (by decide) (by decide)]
  simp only [mar, true_and]
  rw [if_pos (nI_in hi (by decide)), nI_clamp (by omega)]
  congr 1
  exact mh_upa (A' := ua A 13 (upd (A 13) i v)) (B' := B) (by decide) (by decide) (by simp [mar, ua]) mar_ua
theorem mr_cost1 : gR (mh y si sl A B g) y 11 26 = some (y + 14) := by simp [gR, mh_y, mfl]
theorem ml_cost1 {i : Nat} (hi : i < 1501) : aI (mh y si sl A B g) 1 (y + 14) (nI i) = some (A 14 i) := by
  unfold aI
  rw [mh_a (by decide) (by decide)]
  simp only [mar, true_and]
  rw [if_pos (nI_in hi (by decide)), nI_clamp (by omega)]
theorem ms_cost1 {i : Nat} {v : Int32} (hi : i < 1501) : sI (mh y si sl A B g) (y + 14) (nI i) v = some (mh y si sl (ua A 14 (upd (A 14) i v)) B g) := by
  unfold sI
  rw [mh_a (by decide) (by decide)]
  simp only [mar, true_and]
  rw [if_pos (nI_in hi (by decide)), nI_clamp (by omega)]
  congr 1
  exact mh_upa (A' := ua A 14 (upd (A 14) i v)) (B' := B) (by decide) (by decide) (by simp [mar, ua]) mar_ua
theorem mr_cost2 : gR (mh y si sl A B g) y 11 27 = some (y + 15) := by simp [gR, mh_y, mfl]
theorem ml_cost2 {i : Nat} (hi : i < 1501) : aI (mh y si sl A B g) 1 (y + 15) (nI i) = some (A 15 i) := by
  unfold aI
  rw [mh_a (by decide) (by decide)]
  simp only [mar, true_and]
  rw [if_pos (nI_in hi (by decide)), nI_clamp (by omega)]
theorem ms_cost2 {i : Nat} {v : Int32} (hi : i < 1501) : sI (mh y si sl A B g) (y + 15) (nI i) v = some (mh y si sl (ua A 15 (upd (A 15) i v)) B g) := by
  unfold sI
  rw [mh_a (by decide) (by decide)]
  simp only [mar, true_and]
  rw [if_pos (nI_in hi (by decide)), nI_clamp (by omega)]
  congr 1
  exact mh_upa (A' := ua A 15 (upd (A 15) i v)) (B' := B) (by decide) (by decide) (by simp [mar, ua]) mar_ua
theorem mr_begin : gR (mh y si sl A B g) y 11 28 = some (y + 16) := by simp [gR, mh_y, mfl]
theorem ml_begin {i : Nat} (hi : i < 1501) : aI (mh y si sl A B g) 1 (y + 16) (nI i) = some (A 16 i) := by
  unfold aI
  rw [mh_a (by decide) (by decide)]
  simp only [mar, true_and]
  rw [if_pos (nI_in hi (by decide)), nI_clamp (by omega)]
theorem ms_begin {i : Nat} {v : Int32} (hi : i < 1501) : sI (mh y si sl A B g) (y + 16) (nI i) v = some (mh y si sl (ua A 16 (upd (A 16) i v)) B g) := by
  unfold sI
  rw [mh_a (by decide) (by decide)]
  simp only [mar, true_and]
  rw [if_pos (nI_in hi (by decide)), nI_clamp (by omega)]
  congr 1
  exact mh_upa (A' := ua A 16 (upd (A 16) i v)) (B' := B) (by decide) (by decide) (by simp [mar, ua]) mar_ua
theorem mr_begin1 : gR (mh y si sl A B g) y 11 29 = some (y + 17) := by simp [gR, mh_y, mfl]
theorem ml_begin1 {i : Nat} (hi : i < 1501) : aI (mh y si sl A B g) 1 (y + 17) (nI i) = some (A 17 i) := by
  unfold aI
  rw [mh_a (by decide) (by decide)]
  simp only [mar, true_and]
  rw [if_pos (nI_in hi (by decide)), nI_clamp (by omega)]
theorem ms_begin1 {i : Nat} {v : Int32} (hi : i < 1501) : sI (mh y si sl A B g) (y + 17) (nI i) v = some (mh y si sl (ua A 17 (upd (A 17) i v)) B g) := by
  unfold sI
  rw [mh_a (by decide) (by decide)]
  simp only [mar, true_and]
  rw [if_pos (nI_in hi (by decide)), nI_clamp (by omega)]
  congr 1
  exact mh_upa (A' := ua A 17 (upd (A 17) i v)) (B' := B) (by decide) (by decide) (by simp [mar, ua]) mar_ua
theorem mr_begin2 : gR (mh y si sl A B g) y 11 30 = some (y + 18) := by simp [gR, mh_y, mfl]
theorem ml_begin2 {i : Nat} (hi : i < 1501) : aI (mh y si sl A B g) 1 (y + 18) (nI i) = some (A 18 i) := by
  unfold aI
  rw [mh_a (by decide) (by decide)]
  simp only [mar, true_and]
  rw [if_pos (nI_in hi (by decide)), nI_clamp (by omega)]
theorem ms_begin2 {i : Nat} {v : Int32} (hi : i < 1501) : sI (mh y si sl A B g) (y + 18) (nI i) v = some (mh y si sl (ua A 18 (upd (A 18) i v)) B g) := by
  unfold sI
  rw [mh_a (by decide) (by decide)]
  simp only [mar, true_and]
  rw [if_pos (nI_in hi (by decide)), nI_clamp (by omega)]
  congr 1
  exact mh_upa (A' := ua A 18 (upd (A 18) i v)) (B' := B) (by decide) (by decide) (by simp [mar, ua]) mar_ua
theorem mr_hitAt : gR (mh y si sl A B g) y 11 32 = some (y + 19) := by simp [gR, mh_y, mfl]
theorem ml_hitAt {i : Nat} (hi : i < 1500) : aI (mh y si sl A B g) 1 (y + 19) (nI i) = some (A 19 i) := by
  unfold aI
  rw [mh_a (by decide) (by decide)]
  simp only [mar, true_and]
  rw [if_pos (nI_in hi (by decide)), nI_clamp (by omega)]
theorem ms_hitAt {i : Nat} {v : Int32} (hi : i < 1500) : sI (mh y si sl A B g) (y + 19) (nI i) v = some (mh y si sl (ua A 19 (upd (A 19) i v)) B g) := by
  unfold sI
  rw [mh_a (by decide) (by decide)]
  simp only [mar, true_and]
  rw [if_pos (nI_in hi (by decide)), nI_clamp (by omega)]
  congr 1
  exact mh_upa (A' := ua A 19 (upd (A 19) i v)) (B' := B) (by decide) (by decide) (by simp [mar, ua]) mar_ua
theorem mr_hitCost : gR (mh y si sl A B g) y 11 33 = some (y + 20) := by simp [gR, mh_y, mfl]
theorem ml_hitCost {i : Nat} (hi : i < 1500) : aI (mh y si sl A B g) 1 (y + 20) (nI i) = some (A 20 i) := by
  unfold aI
  rw [mh_a (by decide) (by decide)]
  simp only [mar, true_and]
  rw [if_pos (nI_in hi (by decide)), nI_clamp (by omega)]
theorem ms_hitCost {i : Nat} {v : Int32} (hi : i < 1500) : sI (mh y si sl A B g) (y + 20) (nI i) v = some (mh y si sl (ua A 20 (upd (A 20) i v)) B g) := by
  unfold sI
  rw [mh_a (by decide) (by decide)]
  simp only [mar, true_and]
  rw [if_pos (nI_in hi (by decide)), nI_clamp (by omega)]
  congr 1
  exact mh_upa (A' := ua A 20 (upd (A 20) i v)) (B' := B) (by decide) (by decide) (by simp [mar, ua]) mar_ua
theorem mr_hitBegin : gR (mh y si sl A B g) y 11 34 = some (y + 21) := by simp [gR, mh_y, mfl]
theorem ml_hitBegin {i : Nat} (hi : i < 1500) : aI (mh y si sl A B g) 1 (y + 21) (nI i) = some (A 21 i) := by
  unfold aI
  rw [mh_a (by decide) (by decide)]
  simp only [mar, true_and]
  rw [if_pos (nI_in hi (by decide)), nI_clamp (by omega)]
theorem ms_hitBegin {i : Nat} {v : Int32} (hi : i < 1500) : sI (mh y si sl A B g) (y + 21) (nI i) v = some (mh y si sl (ua A 21 (upd (A 21) i v)) B g) := by
  unfold sI
  rw [mh_a (by decide) (by decide)]
  simp only [mar, true_and]
  rw [if_pos (nI_in hi (by decide)), nI_clamp (by omega)]
  congr 1
  exact mh_upa (A' := ua A 21 (upd (A 21) i v)) (B' := B) (by decide) (by decide) (by simp [mar, ua]) mar_ua
theorem mr_hitText : gR (mh y si sl A B g) y 11 35 = some (y + 22) := by simp [gR, mh_y, mfl]
theorem ml_hitText {i : Nat} (hi : i < 1500) : aI (mh y si sl A B g) 1 (y + 22) (nI i) = some (A 22 i) := by
  unfold aI
  rw [mh_a (by decide) (by decide)]
  simp only [mar, true_and]
  rw [if_pos (nI_in hi (by decide)), nI_clamp (by omega)]
theorem ms_hitText {i : Nat} {v : Int32} (hi : i < 1500) : sI (mh y si sl A B g) (y + 22) (nI i) v = some (mh y si sl (ua A 22 (upd (A 22) i v)) B g) := by
  unfold sI
  rw [mh_a (by decide) (by decide)]
  simp only [mar, true_and]
  rw [if_pos (nI_in hi (by decide)), nI_clamp (by omega)]
  congr 1
  exact mh_upa (A' := ua A 22 (upd (A 22) i v)) (B' := B) (by decide) (by decide) (by simp [mar, ua]) mar_ua
theorem mr_hitLows : gR (mh y si sl A B g) y 11 36 = some (y + 23) := by simp [gR, mh_y, mfl]
theorem ml_hitLows {i : Nat} (hi : i < 200) : aL (mh y si sl A B g) (y + 23) (nI i) = some (B 23 i) := by
  unfold aL
  rw [mh_a (by decide) (by decide)]
  simp only [mar, true_and]
  rw [if_pos (nI_in hi (by decide)), nI_clamp (by omega)]
theorem ms_hitLows {i : Nat} {v : Int64} (hi : i < 200) : sL (mh y si sl A B g) (y + 23) (nI i) v = some (mh y si sl A (ub B 23 (vp_updL (B 23) i v)) g) := by
  unfold sL
  rw [mh_a (by decide) (by decide)]
  simp only [mar, true_and]
  rw [if_pos (nI_in hi (by decide)), nI_clamp (by omega)]
  congr 1
  exact mh_upa (A' := A) (B' := ub B 23 (vp_updL (B 23) i v)) (by decide) (by decide) (by simp [mar, ub]) mar_ub
theorem mr_hitHighs : gR (mh y si sl A B g) y 11 37 = some (y + 24) := by simp [gR, mh_y, mfl]
theorem ml_hitHighs {i : Nat} (hi : i < 200) : aL (mh y si sl A B g) (y + 24) (nI i) = some (B 24 i) := by
  unfold aL
  rw [mh_a (by decide) (by decide)]
  simp only [mar, true_and]
  rw [if_pos (nI_in hi (by decide)), nI_clamp (by omega)]
theorem ms_hitHighs {i : Nat} {v : Int64} (hi : i < 200) : sL (mh y si sl A B g) (y + 24) (nI i) v = some (mh y si sl A (ub B 24 (vp_updL (B 24) i v)) g) := by
  unfold sL
  rw [mh_a (by decide) (by decide)]
  simp only [mar, true_and]
  rw [if_pos (nI_in hi (by decide)), nI_clamp (by omega)]
  congr 1
  exact mh_upa (A' := A) (B' := ub B 24 (vp_updL (B 24) i v)) (by decide) (by decide) (by simp [mar, ub]) mar_ub
theorem mr_table : gR (mh y si sl A B g) y 11 40 = some (y + 25) := by simp [gR, mh_y, mfl]
theorem ml_table {i : Nat} (hi : i < 80601) : aI (mh y si sl A B g) 1 (y + 25) (nI i) = some (A 25 i) := by
  unfold aI
  rw [mh_a (by decide) (by decide)]
  simp only [mar, true_and]
  rw [if_pos (nI_in hi (by decide)), nI_clamp (by omega)]
theorem ms_table {i : Nat} {v : Int32} (hi : i < 80601) : sI (mh y si sl A B g) (y + 25) (nI i) v = some (mh y si sl (ua A 25 (upd (A 25) i v)) B g) := by
  unfold sI
  rw [mh_a (by decide) (by decide)]
  simp only [mar, true_and]
  rw [if_pos (nI_in hi (by decide)), nI_clamp (by omega)]
  congr 1
  exact mh_upa (A' := ua A 25 (upd (A 25) i v)) (B' := B) (by decide) (by decide) (by simp [mar, ua]) mar_ua
theorem mr_steps : gR (mh y si sl A B g) y 11 41 = some (y + 26) := by simp [gR, mh_y, mfl]
theorem ml_steps {i : Nat} (hi : i < 800) : aI (mh y si sl A B g) 1 (y + 26) (nI i) = some (A 26 i) := by
  unfold aI
  rw [mh_a (by decide) (by decide)]
  simp only [mar, true_and]
  rw [if_pos (nI_in hi (by decide)), nI_clamp (by omega)]
theorem ms_steps {i : Nat} {v : Int32} (hi : i < 800) : sI (mh y si sl A B g) (y + 26) (nI i) v = some (mh y si sl (ua A 26 (upd (A 26) i v)) B g) := by
  unfold sI
  rw [mh_a (by decide) (by decide)]
  simp only [mar, true_and]
  rw [if_pos (nI_in hi (by decide)), nI_clamp (by omega)]
  congr 1
  exact mh_upa (A' := ua A 26 (upd (A 26) i v)) (B' := B) (by decide) (by decide) (by simp [mar, ua]) mar_ua
theorem mr_lineNumbers : gR (mh y si sl A B g) y 11 43 = some (y + 27) := by simp [gR, mh_y, mfl]
theorem ml_lineNumbers {i : Nat} (hi : i < 1501) : aI (mh y si sl A B g) 1 (y + 27) (nI i) = some (A 27 i) := by
  unfold aI
  rw [mh_a (by decide) (by decide)]
  simp only [mar, true_and]
  rw [if_pos (nI_in hi (by decide)), nI_clamp (by omega)]
theorem ms_lineNumbers {i : Nat} {v : Int32} (hi : i < 1501) : sI (mh y si sl A B g) (y + 27) (nI i) v = some (mh y si sl (ua A 27 (upd (A 27) i v)) B g) := by
  unfold sI
  rw [mh_a (by decide) (by decide)]
  simp only [mar, true_and]
  rw [if_pos (nI_in hi (by decide)), nI_clamp (by omega)]
  congr 1
  exact mh_upa (A' := ua A 27 (upd (A 27) i v)) (B' := B) (by decide) (by decide) (by simp [mar, ua]) mar_ua
theorem mr_built : gR (mh y si sl A B g) y 11 45 = some (y + 28) := by simp [gR, mh_y, mfl]
theorem ml_built {i : Nat} (hi : i < 1501) : aI (mh y si sl A B g) 1 (y + 28) (nI i) = some (A 28 i) := by
  unfold aI
  rw [mh_a (by decide) (by decide)]
  simp only [mar, true_and]
  rw [if_pos (nI_in hi (by decide)), nI_clamp (by omega)]
theorem ms_built {i : Nat} {v : Int32} (hi : i < 1501) : sI (mh y si sl A B g) (y + 28) (nI i) v = some (mh y si sl (ua A 28 (upd (A 28) i v)) B g) := by
  unfold sI
  rw [mh_a (by decide) (by decide)]
  simp only [mar, true_and]
  rw [if_pos (nI_in hi (by decide)), nI_clamp (by omega)]
  congr 1
  exact mh_upa (A' := ua A 28 (upd (A 28) i v)) (B' := B) (by decide) (by decide) (by simp [mar, ua]) mar_ua
theorem mis : isO (mh y si sl A B g) y 11 = some () := by simp [isO, mh_y]
end MH
