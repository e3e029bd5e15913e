/-! THE CLASS IN THE HEAP: cell k of the object at x is at x + k (84 cells); si, sq, sl: its int, reference and long fields by cell and field; A, B: its arrays by their cell; g: the rest of the heap -/
def xcl (x : Nat) (si : Nat → Nat → Int32) (sq : Nat → Nat → Nat) (sl : Nat → Nat → Int64) (A : Nat → Nat → Int32) (B : Nat → Nat → Int64) (k : Nat) : Option va_E := match k with
  | 0 => some (.inr (10, [.ref (x + 1), .ref (x + 3), .ref (x + 5), .ref (x + 7), .ref (x + 19), .ref (x + 44), .ref (x + 47), .ref (x + 53), .ref (x + 60), .ref (x + 71), .ref (x + 82)]))
  | 1 => some (.inr (0, [.ref (x + 2), .int (si 1 1)]))
  | 2 => some (.inl (0, 400, .inl (A 2)))
  | 3 => some (.inr (0, [.ref (x + 4), .int (si 3 1)]))
  | 4 => some (.inl (0, 1500, .inl (A 4)))
  | 5 => some (.inr (0, [.ref (x + 6), .int (si 5 1)]))
  | 6 => some (.inl (0, 1500, .inl (A 6)))
  | 7 => some (.inr (1, [.ref (x + 8), .int (si 7 1), .int (si 7 2)]))
  | 8 => some (.inl (3, 5, .inr (.inr (.inr (.inr (fun i => if i < 5 then some (x + (9 + 2 * i)) else none))))))
  | 9 => some (.inr (0, [.ref (x + 10), .int (si 9 1)]))
  | 10 => some (.inl (0, 1500, .inl (A 10)))
  | 11 => some (.inr (0, [.ref (x + 12), .int (si 11 1)]))
  | 12 => some (.inl (0, 1500, .inl (A 12)))
  | 13 => some (.inr (0, [.ref (x + 14), .int (si 13 1)]))
  | 14 => some (.inl (0, 1500, .inl (A 14)))
  | 15 => some (.inr (0, [.ref (x + 16), .int (si 15 1)]))
  | 16 => some (.inl (0, 1500, .inl (A 16)))
  | 17 => some (.inr (0, [.ref (x + 18), .int (si 17 1)]))
  | 18 => some (.inl (0, 1500, .inl (A 18)))
  | 19 => some (.inl (4, 8, .inr (.inr (.inr (.inr (fun i => if i < 8 then some (x + (20 + 3 * i)) else none))))))
  | 20 => some (.inr (7, [.ref (x + 21), .ref (x + 22), .int (si 20 2)]))
  | 21 => some (.inl (2, 200, .inr (.inl (B 21))))
  | 22 => some (.inl (2, 200, .inr (.inl (B 22))))
  | 23 => some (.inr (7, [.ref (x + 24), .ref (x + 25), .int (si 23 2)]))
  | 24 => some (.inl (2, 200, .inr (.inl (B 24))))
  | 25 => some (.inl (2, 200, .inr (.inl (B 25))))
  | 26 => some (.inr (7, [.ref (x + 27), .ref (x + 28), .int (si 26 2)]))
  | 27 => some (.inl (2, 200, .inr (.inl (B 27))))
  | 28 => some (.inl (2, 200, .inr (.inl (B 28))))
  | 29 => some (.inr (7, [.ref (x + 30), .ref (x + 31), .int (si 29 2)]))
  | 30 => some (.inl (2, 200, .inr (.inl (B 30))))
  | 31 => some (.inl (2, 200, .inr (.inl (B 31))))
  | 32 => some (.inr (7, [.ref (x + 33), .ref (x + 34), .int (si 32 2)]))
  | 33 => some (.inl (2, 200, .inr (.inl (B 33))))
  | 34 => some (.inl (2, 200, .inr (.inl (B 34))))
  | 35 => some (.inr (7, [.ref (x + 36), .ref (x + 37), .int (si 35 2)]))
  | 36 => some (.inl (2, 200, .inr (.inl (B 36))))
  | 37 => some (.inl (2, 200, .inr (.inl (B 37))))
  | 38 => some (.inr (7, [.ref (x + 39), .ref (x + 40), .int (si 38 2)]))
  | 39 => some (.inl (2, 200, .inr (.inl (B 39))))
  | 40 => some (.inl (2, 200, .inr (.inl (B 40))))
  | 41 => some (.inr (7, [.ref (x + 42), .ref (x + 43), .int (si 41 2)]))
  | 42 => some (.inl (2, 200, .inr (.inl (B 42))))
  | 43 => some (.inl (2, 200, .inr (.inl (B 43))))
  | 44 => some (.inr (7, [.ref (x + 45), .ref (x + 46), .int (si 44 2)]))
  | 45 => some (.inl (2, 1500, .inr (.inl (B 45))))
  | 46 => some (.inl (2, 1500, .inr (.inl (B 46))))
  | 47 => some (.inr (4, [.ref (x + sq 47 0), .int (si 47 1), .long (sl 47 2), .long (sl 47 3), .ref (x + 50), .int (si 47 5), .int (si 47 6)]))
  | 48 => some (.inr (0, [.ref (x + 49), .int (si 48 1)]))
  | 49 => some (.inl (0, 0, .inl (A 49)))
  | 50 => some (.inr (7, [.ref (x + 51), .ref (x + 52), .int (si 50 2)]))
  | 51 => some (.inl (2, 200, .inr (.inl (B 51))))
  | 52 => some (.inl (2, 200, .inr (.inl (B 52))))
  | 53 => some (.inr (6, [.ref (x + sq 53 0), .int (si 53 1), .int (si 53 2), .int (si 53 3), .ref (x + sq 53 4), .ref (x + sq 53 5), .ref (x + sq 53 6), .int (si 53 7), .int (si 53 8), .int (si 53 9), .int (si 53 10)]))
  | 54 => some (.inr (7, [.ref (x + 55), .ref (x + 56), .int (si 54 2)]))
  | 55 => some (.inl (2, 0, .inr (.inl (B 55))))
  | 56 => some (.inl (2, 0, .inr (.inl (B 56))))
  | 57 => some (.inl (1, 201, .inl (A 57)))
  | 58 => some (.inl (1, 201, .inl (A 58)))
  | 59 => some (.inl (1, 201, .inl (A 59)))
  | 60 => some (.inr (5, [.ref (x + sq 60 0), .ref (x + sq 60 1), .int (si 60 2), .int (si 60 3), .int (si 60 4), .int (si 60 5), .int (si 60 6), .ref (x + sq 60 7), .ref (x + sq 60 8), .ref (x + sq 60 9), .int (si 60 10), .int (si 60 11), .ref (x + sq 60 12), .ref (x + sq 60 13), .int (si 60 14), .ref (x + 69)]))
  | 61 => some (.inr (7, [.ref (x + 62), .ref (x + 63), .int (si 61 2)]))
  | 62 => some (.inl (2, 0, .inr (.inl (B 62))))
  | 63 => some (.inl (2, 0, .inr (.inl (B 63))))
  | 64 => some (.inr (0, [.ref (x + 65), .int (si 64 1)]))
  | 65 => some (.inl (0, 0, .inl (A 65)))
  | 66 => some (.inl (1, 1501, .inl (A 66)))
  | 67 => some (.inl (1, 1501, .inl (A 67)))
  | 68 => some (.inl (1, 1501, .inl (A 68)))
  | 69 => some (.inr (8, [.ref (x + 70), .int (si 69 1), .int (si 69 2)]))
  | 70 => some (.inl (2, 5038, .inr (.inl (B 70))))
  | 71 => some (.inr (2, [.ref (x + 72), .ref (x + 74), .int (si 71 2), .int (si 71 3), .ref (x + 77), .ref (x + 79), .ref (x + 80), .ref (x + 81), .int (si 71 8)]))
  | 72 => some (.inr (0, [.ref (x + 73), .int (si 72 1)]))
  | 73 => some (.inl (0, 1500, .inl (A 73)))
  | 74 => some (.inr (7, [.ref (x + 75), .ref (x + 76), .int (si 74 2)]))
  | 75 => some (.inl (2, 200, .inr (.inl (B 75))))
  | 76 => some (.inl (2, 200, .inr (.inl (B 76))))
  | 77 => some (.inr (9, [.ref (x + 78), .int (si 77 1)]))
  | 78 => some (.inl (0, 400, .inl (A 78)))
  | 79 => some (.inl (1, 1500, .inl (A 79)))
  | 80 => some (.inl (1, 1500, .inl (A 80)))
  | 81 => some (.inl (1, 1500, .inl (A 81)))
  | 82 => some (.inr (3, [.ref (x + 83), .int (si 82 1)]))
  | 83 => some (.inl (1, 751, .inl (A 83)))
  | _ => none
def xh (x : Nat) (si : Nat → Nat → Int32) (sq : Nat → Nat → Nat) (sl : Nat → Nat → Int64) (A : Nat → Nat → Int32) (B : Nat → Nat → Int64) (g : zh_H) : zh_H := fun q => if x ≤ q ∧ q < x + 84 then xcl x si sq sl A B (q - x) else g q
def u2 {α : Type} (f : Nat → Nat → α) (k j : Nat) (v : α) : Nat → Nat → α := fun a b => if a = k ∧ b = j then v else f a b
theorem u2_s {α : Type} {f : Nat → Nat → α} {k j : Nat} {v : α} : u2 f k j v k j = v := if_pos ⟨rfl, rfl⟩
theorem u2_n {α : Type} {f : Nat → Nat → α} {k j a b : Nat} {v : α} (h : a ≠ k ∨ b ≠ j) : u2 f k j v a b = f a b := if_neg (by rintro ⟨rfl, rfl⟩; rcases h with h | h <;> exact h rfl)
section XH
variable {x : Nat} {si : Nat → Nat → Int32} {sq : Nat → Nat → Nat} {sl : Nat → Nat → Int64} {A : Nat → Nat → Int32} {B : Nat → Nat → Int64} {g : zh_H}
theorem xh_a {k : Nat} (hk : k < 84) : xh x si sq sl A B g (x + k) = xcl x si sq sl A B k := by
  unfold xh
  rw [if_pos (by omega), Nat.add_sub_cancel_left]
theorem xh_0 : xh x si sq sl A B g x = xcl x si sq sl A B 0 := xh_a (k := 0) (by decide)
theorem xh_o {q : Nat} (hq : q < x ∨ x + 84 ≤ q) : xh x si sq sl A B g q = g q := by
  unfold xh
  rw [if_neg (by omega)]
theorem xh_up {k : Nat} (hk : k < 84) {c : va_E} {si' : Nat → Nat → Int32} {sq' : Nat → Nat → Nat} {sl' : Nat → Nat → Int64} {A' : Nat → Nat → Int32} {B' : Nat → Nat → Int64} (hc : xcl x si' sq' sl' A' B' k = some c) (ho : ∀ j, j ≠ k → xcl x si' sq' sl' A' B' j = xcl x si sq sl A B j) : zh_up (xh x si sq sl A B g) (x + k) c = xh x si' sq' sl' A' B' g := by
  funext q
  unfold zh_up xh
  by_cases hq : q = x + k
  · subst hq
    rw [if_pos rfl, if_pos (by omega), Nat.add_sub_cancel_left, hc]
  · rw [if_neg hq]
    by_cases h4 : x ≤ q ∧ q < x + 84
    · rw [if_pos h4, if_pos h4, ho _ (by omega)]
    · rw [if_neg h4, if_neg h4]
set_option maxHeartbeats 4000000 in
theorem xcl_si {k f : Nat} {v : Int32} : ∀ j, j ≠ k → xcl x (u2 si k f v) sq sl A B j = xcl x si sq sl A B j := by
  intro j hj
  unfold xcl
  split <;> first | rfl | simp only [u2_n (Or.inl hj)]
set_option maxHeartbeats 4000000 in
theorem xcl_sq {k f : Nat} {v : Nat} : ∀ j, j ≠ k → xcl x si (u2 sq k f v) sl A B j = xcl x si sq sl A B j := by
  intro j hj
  unfold xcl
  split <;> first | rfl | simp only [u2_n (Or.inl hj)]
set_option maxHeartbeats 4000000 in
theorem xcl_sl {k f : Nat} {v : Int64} : ∀ j, j ≠ k → xcl x si sq (u2 sl k f v) A B j = xcl x si sq sl A B j := by
  intro j hj
  unfold xcl
  split <;> first | rfl | simp only [u2_n (Or.inl hj)]
set_option maxHeartbeats 4000000 in
theorem xcl_A {k : Nat} {f : Nat → Int32} : ∀ j, j ≠ k → xcl x si sq sl (ua A k f) B j = xcl x si sq sl A B j := by
  intro j hj
  unfold xcl
  split <;> first | rfl | simp only [ua_n hj]
set_option maxHeartbeats 4000000 in
theorem xcl_B {k : Nat} {f : Nat → Int64} : ∀ j, j ≠ k → xcl x si sq sl A (ub B k f) j = xcl x si sq sl A B j := by
  intro j hj
  unfold xcl
  split <;> first | rfl | simp only [ub_n hj]
theorem xo_EF : isO (xh x si sq sl A B g) x 10 = some () := by simp [isO, xh_0, xcl]
theorem xg_EF_0 : gR (xh x si sq sl A B g) x 10 0 = some (x + 1) := by simp [gR, xh_0, xcl]
theorem xg_EF_1 : gR (xh x si sq sl A B g) x 10 1 = some (x + 3) := by simp [gR, xh_0, xcl]
theorem xg_EF_2 : gR (xh x si sq sl A B g) x 10 2 = some (x + 5) := by simp [gR, xh_0, xcl]
theorem xg_EF_3 : gR (xh x si sq sl A B g) x 10 3 = some (x + 7) := by simp [gR, xh_0, xcl]
theorem xg_EF_4 : gR (xh x si sq sl A B g) x 10 4 = some (x + 19) := by simp [gR, xh_0, xcl]
theorem xg_EF_5 : gR (xh x si sq sl A B g) x 10 5 = some (x + 44) := by simp [gR, xh_0, xcl]
theorem xg_EF_6 : gR (xh x si sq sl A B g) x 10 6 = some (x + 47) := by simp [gR, xh_0, xcl]
theorem xg_EF_7 : gR (xh x si sq sl A B g) x 10 7 = some (x + 53) := by simp [gR, xh_0, xcl]
theorem xg_EF_8 : gR (xh x si sq sl A B g) x 10 8 = some (x + 60) := by simp [gR, xh_0, xcl]
theorem xg_EF_9 : gR (xh x si sq sl A B g) x 10 9 = some (x + 71) := by simp [gR, xh_0, xcl]
theorem xg_EF_10 : gR (xh x si sq sl A B g) x 10 10 = some (x + 82) := by simp [gR, xh_0, xcl]
theorem xo_Hi : isO (xh x si sq sl A B g) (x + 7) 1 = some () := by simp [isO, xh_a, xcl]
theorem xg_Hi_0 : gR (xh x si sq sl A B g) (x + 7) 1 0 = some (x + 8) := by simp [gR, xh_a, xcl]
theorem xg_Hi_1 : gI (xh x si sq sl A B g) (x + 7) 1 1 = some (si 7 1) := by simp [gI, xh_a, xcl]
theorem xp_Hi_1 {v : Int32} : pV (xh x si sq sl A B g) (x + 7) 1 1 (.int v) = some (xh x (u2 si 7 1 v) sq sl A B g) := by
  unfold pV
  rw [xh_a (by decide)]
  simp only [xcl, true_and]
  rw [if_pos (by simp)]
  congr 1
  exact xh_up (by decide) rfl xcl_si
theorem xz_Hi_1 {v : Int32} (hv : v = 0 ∨ v = 1) : pZ (xh x si sq sl A B g) (x + 7) 1 1 v = some (xh x (u2 si 7 1 v) sq sl A B g) := by
  unfold pZ
  rw [if_pos hv]
  exact xp_Hi_1
theorem xg_Hi_2 : gI (xh x si sq sl A B g) (x + 7) 1 2 = some (si 7 2) := by simp [gI, xh_a, xcl]
theorem xp_Hi_2 {v : Int32} : pV (xh x si sq sl A B g) (x + 7) 1 2 (.int v) = some (xh x (u2 si 7 2 v) sq sl A B g) := by
  unfold pV
  rw [xh_a (by decide)]
  simp only [xcl, true_and]
  rw [if_pos (by simp)]
  congr 1
  exact xh_up (by decide) rfl xcl_si
theorem xz_Hi_2 {v : Int32} (hv : v = 0 ∨ v = 1) : pZ (xh x si sq sl A B g) (x + 7) 1 2 v = some (xh x (u2 si 7 2 v) sq sl A B g) := by
  unfold pZ
  rw [if_pos hv]
  exact xp_Hi_2
theorem xo_Re : isO (xh x si sq sl A B g) (x + 47) 4 = some () := by simp [isO, xh_a, xcl]
theorem xg_Re_0 : gR (xh x si sq sl A B g) (x + 47) 4 0 = some (x + sq 47 0) := by simp [gR, xh_a, xcl]
theorem xp_Re_0 {v : Nat} : pV (xh x si sq sl A B g) (x + 47) 4 0 (.ref (x + v)) = some (xh x si (u2 sq 47 0 v) sl A B g) := by
  unfold pV
  rw [xh_a (by decide)]
  simp only [xcl, true_and]
  rw [if_pos (by simp)]
  congr 1
  exact xh_up (by decide) rfl xcl_sq
theorem xg_Re_1 : gI (xh x si sq sl A B g) (x + 47) 4 1 = some (si 47 1) := by simp [gI, xh_a, xcl]
theorem xp_Re_1 {v : Int32} : pV (xh x si sq sl A B g) (x + 47) 4 1 (.int v) = some (xh x (u2 si 47 1 v) sq sl A B g) := by
  unfold pV
  rw [xh_a (by decide)]
  simp only [xcl, true_and]
  rw [if_pos (by simp)]
  congr 1
  exact xh_up (by decide) rfl xcl_si
theorem xz_Re_1 {v : Int32} (hv : v = 0 ∨ v = 1) : pZ (xh x si sq sl A B g) (x + 47) 4 1 v = some (xh x (u2 si 47 1 v) sq sl A B g) := by
  unfold pZ
  rw [if_pos hv]
  exact xp_Re_1
theorem xg_Re_2 : gL (xh x si sq sl A B g) (x + 47) 4 2 = some (sl 47 2) := by simp [gL, xh_a, xcl]
theorem xp_Re_2 {v : Int64} : pV (xh x si sq sl A B g) (x + 47) 4 2 (.long v) = some (xh x si sq (u2 sl 47 2 v) A B g) := by
  unfold pV
  rw [xh_a (by decide)]
  simp only [xcl, true_and]
  rw [if_pos (by simp)]
  congr 1
  exact xh_up (by decide) rfl xcl_sl
theorem xg_Re_3 : gL (xh x si sq sl A B g) (x + 47) 4 3 = some (sl 47 3) := by simp [gL, xh_a, xcl]
theorem xp_Re_3 {v : Int64} : pV (xh x si sq sl A B g) (x + 47) 4 3 (.long v) = some (xh x si sq (u2 sl 47 3 v) A B g) := by
  unfold pV
  rw [xh_a (by decide)]
  simp only [xcl, true_and]
  rw [if_pos (by simp)]
  congr 1
  exact xh_up (by decide) rfl xcl_sl
theorem xg_Re_4 : gR (xh x si sq sl A B g) (x + 47) 4 4 = some (x + 50) := by simp [gR, xh_a, xcl]
theorem xg_Re_5 : gI (xh x si sq sl A B g) (x + 47) 4 5 = some (si 47 5) := by simp [gI, xh_a, xcl]
theorem xp_Re_5 {v : Int32} : pV (xh x si sq sl A B g) (x + 47) 4 5 (.int v) = some (xh x (u2 si 47 5 v) sq sl A B g) := by
  unfold pV
  rw [xh_a (by decide)]
  simp only [xcl, true_and]
  rw [if_pos (by simp)]
  congr 1
  exact xh_up (by decide) rfl xcl_si
theorem xz_Re_5 {v : Int32} (hv : v = 0 ∨ v = 1) : pZ (xh x si sq sl A B g) (x + 47) 4 5 v = some (xh x (u2 si 47 5 v) sq sl A B g) := by
  unfold pZ
  rw [if_pos hv]
  exact xp_Re_5
theorem xg_Re_6 : gI (xh x si sq sl A B g) (x + 47) 4 6 = some (si 47 6) := by simp [gI, xh_a, xcl]
theorem xp_Re_6 {v : Int32} : pV (xh x si sq sl A B g) (x + 47) 4 6 (.int v) = some (xh x (u2 si 47 6 v) sq sl A B g) := by
  unfold pV
  rw [xh_a (by decide)]
  simp only [xcl, true_and]
  rw [if_pos (by simp)]
  congr 1
  exact xh_up (by decide) rfl xcl_si
theorem xz_Re_6 {v : Int32} (hv : v = 0 ∨ v = 1) : pZ (xh x si sq sl A B g) (x + 47) 4 6 v = some (xh x (u2 si 47 6 v) sq sl A B g) := by
  unfold pZ
  rw [if_pos hv]
  exact xp_Re_6
theorem xo_Se : isO (xh x si sq sl A B g) (x + 53) 6 = some () := by simp [isO, xh_a, xcl]
theorem xg_Se_0 : gR (xh x si sq sl A B g) (x + 53) 6 0 = some (x + sq 53 0) := by simp [gR, xh_a, xcl]
theorem xp_Se_0 {v : Nat} : pV (xh x si sq sl A B g) (x + 53) 6 0 (.ref (x + v)) = some (xh x si (u2 sq 53 0 v) sl A B g) := by
  unfold pV
  rw [xh_a (by decide)]
  simp only [xcl, true_and]
  rw [if_pos (by simp)]
  congr 1
  exact xh_up (by decide) rfl xcl_sq
theorem xg_Se_1 : gI (xh x si sq sl A B g) (x + 53) 6 1 = some (si 53 1) := by simp [gI, xh_a, xcl]
theorem xp_Se_1 {v : Int32} : pV (xh x si sq sl A B g) (x + 53) 6 1 (.int v) = some (xh x (u2 si 53 1 v) sq sl A B g) := by
  unfold pV
  rw [xh_a (by decide)]
  simp only [xcl, true_and]
  rw [if_pos (by simp)]
  congr 1
  exact xh_up (by decide) rfl xcl_si
theorem xz_Se_1 {v : Int32} (hv : v = 0 ∨ v = 1) : pZ (xh x si sq sl A B g) (x + 53) 6 1 v = some (xh x (u2 si 53 1 v) sq sl A B g) := by
  unfold pZ
  rw [if_pos hv]
  exact xp_Se_1
theorem xg_Se_2 : gI (xh x si sq sl A B g) (x + 53) 6 2 = some (si 53 2) := by simp [gI, xh_a, xcl]
theorem xp_Se_2 {v : Int32} : pV (xh x si sq sl A B g) (x + 53) 6 2 (.int v) = some (xh x (u2 si 53 2 v) sq sl A B g) := by
  unfold pV
  rw [xh_a (by decide)]
  simp only [xcl, true_and]
  rw [if_pos (by simp)]
  congr 1
  exact xh_up (by decide) rfl xcl_si
theorem xz_Se_2 {v : Int32} (hv : v = 0 ∨ v = 1) : pZ (xh x si sq sl A B g) (x + 53) 6 2 v = some (xh x (u2 si 53 2 v) sq sl A B g) := by
  unfold pZ
  rw [if_pos hv]
  exact xp_Se_2
theorem xg_Se_3 : gI (xh x si sq sl A B g) (x + 53) 6 3 = some (si 53 3) := by simp [gI, xh_a, xcl]
theorem xp_Se_3 {v : Int32} : pV (xh x si sq sl A B g) (x + 53) 6 3 (.int v) = some (xh x (u2 si 53 3 v) sq sl A B g) := by
  unfold pV
  rw [xh_a (by decide)]
  simp only [xcl, true_and]
  rw [if_pos (by simp)]
  congr 1
  exact xh_up (by decide) rfl xcl_si
theorem xz_Se_3 {v : Int32} (hv : v = 0 ∨ v = 1) : pZ (xh x si sq sl A B g) (x + 53) 6 3 v = some (xh x (u2 si 53 3 v) sq sl A B g) := by
  unfold pZ
  rw [if_pos hv]
  exact xp_Se_3
theorem xg_Se_4 : gR (xh x si sq sl A B g) (x + 53) 6 4 = some (x + sq 53 4) := by simp [gR, xh_a, xcl]
theorem xp_Se_4 {v : Nat} : pV (xh x si sq sl A B g) (x + 53) 6 4 (.ref (x + v)) = some (xh x si (u2 sq 53 4 v) sl A B g) := by
  unfold pV
  rw [xh_a (by decide)]
  simp only [xcl, true_and]
  rw [if_pos (by simp)]
  congr 1
  exact xh_up (by decide) rfl xcl_sq
theorem xg_Se_5 : gR (xh x si sq sl A B g) (x + 53) 6 5 = some (x + sq 53 5) := by simp [gR, xh_a, xcl]
theorem xp_Se_5 {v : Nat} : pV (xh x si sq sl A B g) (x + 53) 6 5 (.ref (x + v)) = some (xh x si (u2 sq 53 5 v) sl A B g) := by
  unfold pV
  rw [xh_a (by decide)]
  simp only [xcl, true_and]
  rw [if_pos (by simp)]
  congr 1
  exact xh_up (by decide) rfl xcl_sq
theorem xg_Se_6 : gR (xh x si sq sl A B g) (x + 53) 6 6 = some (x + sq 53 6) := by simp [gR, xh_a, xcl]
theorem xp_Se_6 {v : Nat} : pV (xh x si sq sl A B g) (x + 53) 6 6 (.ref (x + v)) = some (xh x si (u2 sq 53 6 v) sl A B g) := by
  unfold pV
  rw [xh_a (by decide)]
  simp only [xcl, true_and]
  rw [if_pos (by simp)]
  congr 1
  exact xh_up (by decide) rfl xcl_sq
theorem xg_Se_7 : gI (xh x si sq sl A B g) (x + 53) 6 7 = some (si 53 7) := by simp [gI, xh_a, xcl]
theorem xp_Se_7 {v : Int32} : pV (xh x si sq sl A B g) (x + 53) 6 7 (.int v) = some (xh x (u2 si 53 7 v) sq sl A B g) := by
  unfold pV
  rw [xh_a (by decide)]
  simp only [xcl, true_and]
  rw [if_pos (by simp)]
  congr 1
  exact xh_up (by decide) rfl xcl_si
theorem xz_Se_7 {v : Int32} (hv : v = 0 ∨ v = 1) : pZ (xh x si sq sl A B g) (x + 53) 6 7 v = some (xh x (u2 si 53 7 v) sq sl A B g) := by
  unfold pZ
  rw [if_pos hv]
  exact xp_Se_7
theorem xg_Se_8 : gI (xh x si sq sl A B g) (x + 53) 6 8 = some (si 53 8) := by simp [gI, xh_a, xcl]
theorem xp_Se_8 {v : Int32} : pV (xh x si sq sl A B g) (x + 53) 6 8 (.int v) = some (xh x (u2 si 53 8 v) sq sl A B g) := by
  unfold pV
  rw [xh_a (by decide)]
  simp only [xcl, true_and]
  rw [if_pos (by simp)]
  congr 1
  exact xh_up (by decide) rfl xcl_si
theorem xz_Se_8 {v : Int32} (hv : v = 0 ∨ v = 1) : pZ (xh x si sq sl A B g) (x + 53) 6 8 v = some (xh x (u2 si 53 8 v) sq sl A B g) := by
  unfold pZ
  rw [if_pos hv]
  exact xp_Se_8
theorem xg_Se_9 : gI (xh x si sq sl A B g) (x + 53) 6 9 = some (si 53 9) := by simp [gI, xh_a, xcl]
theorem xp_Se_9 {v : Int32} : pV (xh x si sq sl A B g) (x + 53) 6 9 (.int v) = some (xh x (u2 si 53 9 v) sq sl A B g) := by
  unfold pV
  rw [xh_a (by decide)]
  simp only [xcl, true_and]
  rw [if_pos (by simp)]
  congr 1
  exact xh_up (by decide) rfl xcl_si
theorem xz_Se_9 {v : Int32} (hv : v = 0 ∨ v = 1) : pZ (xh x si sq sl A B g) (x + 53) 6 9 v = some (xh x (u2 si 53 9 v) sq sl A B g) := by
  unfold pZ
  rw [if_pos hv]
  exact xp_Se_9
theorem xg_Se_10 : gI (xh x si sq sl A B g) (x + 53) 6 10 = some (si 53 10) := by simp [gI, xh_a, xcl]
theorem xp_Se_10 {v : Int32} : pV (xh x si sq sl A B g) (x + 53) 6 10 (.int v) = some (xh x (u2 si 53 10 v) sq sl A B g) := by
  unfold pV
  rw [xh_a (by decide)]
  simp only [xcl, true_and]
  rw [if_pos (by simp)]
  congr 1
  exact xh_up (by decide) rfl xcl_si
theorem xz_Se_10 {v : Int32} (hv : v = 0 ∨ v = 1) : pZ (xh x si sq sl A B g) (x + 53) 6 10 v = some (xh x (u2 si 53 10 v) sq sl A B g) := by
  unfold pZ
  rw [if_pos hv]
  exact xp_Se_10
theorem xo_Ru : isO (xh x si sq sl A B g) (x + 60) 5 = some () := by simp [isO, xh_a, xcl]
theorem xg_Ru_0 : gR (xh x si sq sl A B g) (x + 60) 5 0 = some (x + sq 60 0) := by simp [gR, xh_a, xcl]
theorem xp_Ru_0 {v : Nat} : pV (xh x si sq sl A B g) (x + 60) 5 0 (.ref (x + v)) = some (xh x si (u2 sq 60 0 v) sl A B g) := by
  unfold pV
  rw [xh_a (by decide)]
  simp only [xcl, true_and]
  rw [if_pos (by simp)]
  congr 1
  exact xh_up (by decide) rfl xcl_sq
theorem xg_Ru_1 : gR (xh x si sq sl A B g) (x + 60) 5 1 = some (x + sq 60 1) := by simp [gR, xh_a, xcl]
theorem xp_Ru_1 {v : Nat} : pV (xh x si sq sl A B g) (x + 60) 5 1 (.ref (x + v)) = some (xh x si (u2 sq 60 1 v) sl A B g) := by
  unfold pV
  rw [xh_a (by decide)]
  simp only [xcl, true_and]
  rw [if_pos (by simp)]
  congr 1
  exact xh_up (by decide) rfl xcl_sq
theorem xg_Ru_2 : gI (xh x si sq sl A B g) (x + 60) 5 2 = some (si 60 2) := by simp [gI, xh_a, xcl]
theorem xp_Ru_2 {v : Int32} : pV (xh x si sq sl A B g) (x + 60) 5 2 (.int v) = some (xh x (u2 si 60 2 v) sq sl A B g) := by
  unfold pV
  rw [xh_a (by decide)]
  simp only [xcl, true_and]
  rw [if_pos (by simp)]
  congr 1
  exact xh_up (by decide) rfl xcl_si
theorem xz_Ru_2 {v : Int32} (hv : v = 0 ∨ v = 1) : pZ (xh x si sq sl A B g) (x + 60) 5 2 v = some (xh x (u2 si 60 2 v) sq sl A B g) := by
  unfold pZ
  rw [if_pos hv]
  exact xp_Ru_2
theorem xg_Ru_3 : gI (xh x si sq sl A B g) (x + 60) 5 3 = some (si 60 3) := by simp [gI, xh_a, xcl]
theorem xp_Ru_3 {v : Int32} : pV (xh x si sq sl A B g) (x + 60) 5 3 (.int v) = some (xh x (u2 si 60 3 v) sq sl A B g) := by
  unfold pV
  rw [xh_a (by decide)]
  simp only [xcl, true_and]
  rw [if_pos (by simp)]
  congr 1
  exact xh_up (by decide) rfl xcl_si
theorem xz_Ru_3 {v : Int32} (hv : v = 0 ∨ v = 1) : pZ (xh x si sq sl A B g) (x + 60) 5 3 v = some (xh x (u2 si 60 3 v) sq sl A B g) := by
  unfold pZ
  rw [if_pos hv]
  exact xp_Ru_3
theorem xg_Ru_4 : gI (xh x si sq sl A B g) (x + 60) 5 4 = some (si 60 4) := by simp [gI, xh_a, xcl]
theorem xp_Ru_4 {v : Int32} : pV (xh x si sq sl A B g) (x + 60) 5 4 (.int v) = some (xh x (u2 si 60 4 v) sq sl A B g) := by
  unfold pV
  rw [xh_a (by decide)]
  simp only [xcl, true_and]
  rw [if_pos (by simp)]
  congr 1
  exact xh_up (by decide) rfl xcl_si
theorem xz_Ru_4 {v : Int32} (hv : v = 0 ∨ v = 1) : pZ (xh x si sq sl A B g) (x + 60) 5 4 v = some (xh x (u2 si 60 4 v) sq sl A B g) := by
  unfold pZ
  rw [if_pos hv]
  exact xp_Ru_4
theorem xg_Ru_5 : gI (xh x si sq sl A B g) (x + 60) 5 5 = some (si 60 5) := by simp [gI, xh_a, xcl]
theorem xp_Ru_5 {v : Int32} : pV (xh x si sq sl A B g) (x + 60) 5 5 (.int v) = some (xh x (u2 si 60 5 v) sq sl A B g) := by
  unfold pV
  rw [xh_a (by decide)]
  simp only [xcl, true_and]
  rw [if_pos (by simp)]
  congr 1
  exact xh_up (by decide) rfl xcl_si
theorem xz_Ru_5 {v : Int32} (hv : v = 0 ∨ v = 1) : pZ (xh x si sq sl A B g) (x + 60) 5 5 v = some (xh x (u2 si 60 5 v) sq sl A B g) := by
  unfold pZ
  rw [if_pos hv]
  exact xp_Ru_5
theorem xg_Ru_6 : gI (xh x si sq sl A B g) (x + 60) 5 6 = some (si 60 6) := by simp [gI, xh_a, xcl]
theorem xp_Ru_6 {v : Int32} : pV (xh x si sq sl A B g) (x + 60) 5 6 (.int v) = some (xh x (u2 si 60 6 v) sq sl A B g) := by
  unfold pV
  rw [xh_a (by decide)]
  simp only [xcl, true_and]
  rw [if_pos (by simp)]
  congr 1
  exact xh_up (by decide) rfl xcl_si
theorem xz_Ru_6 {v : Int32} (hv : v = 0 ∨ v = 1) : pZ (xh x si sq sl A B g) (x + 60) 5 6 v = some (xh x (u2 si 60 6 v) sq sl A B g) := by
  unfold pZ
  rw [if_pos hv]
  exact xp_Ru_6
theorem xg_Ru_7 : gR (xh x si sq sl A B g) (x + 60) 5 7 = some (x + sq 60 7) := by simp [gR, xh_a, xcl]
theorem xp_Ru_7 {v : Nat} : pV (xh x si sq sl A B g) (x + 60) 5 7 (.ref (x + v)) = some (xh x si (u2 sq 60 7 v) sl A B g) := by
  unfold pV
  rw [xh_a (by decide)]
  simp only [xcl, true_and]
  rw [if_pos (by simp)]
  congr 1
  exact xh_up (by decide) rfl xcl_sq
theorem xg_Ru_8 : gR (xh x si sq sl A B g) (x + 60) 5 8 = some (x + sq 60 8) := by simp [gR, xh_a, xcl]
theorem xp_Ru_8 {v : Nat} : pV (xh x si sq sl A B g) (x + 60) 5 8 (.ref (x + v)) = some (xh x si (u2 sq 60 8 v) sl A B g) := by
  unfold pV
  rw [xh_a (by decide)]
  simp only [xcl, true_and]
  rw [if_pos (by simp)]
  congr 1
  exact xh_up (by decide) rfl xcl_sq
theorem xg_Ru_9 : gR (xh x si sq sl A B g) (x + 60) 5 9 = some (x + sq 60 9) := by simp [gR, xh_a, xcl]
theorem xp_Ru_9 {v : Nat} : pV (xh x si sq sl A B g) (x + 60) 5 9 (.ref (x + v)) = some (xh x si (u2 sq 60 9 v) sl A B g) := by
  unfold pV
  rw [xh_a (by decide)]
  simp only [xcl, true_and]
  rw [if_pos (by simp)]
  congr 1
  exact xh_up (by decide) rfl xcl_sq
theorem xg_Ru_10 : gI (xh x si sq sl A B g) (x + 60) 5 10 = some (si 60 10) := by simp [gI, xh_a, xcl]
theorem xp_Ru_10 {v : Int32} : pV (xh x si sq sl A B g) (x + 60) 5 10 (.int v) = some (xh x (u2 si 60 10 v) sq sl A B g) := by
  unfold pV
  rw [xh_a (by decide)]
  simp only [xcl, true_and]
  rw [if_pos (by simp)]
  congr 1
  exact xh_up (by decide) rfl xcl_si
theorem xz_Ru_10 {v : Int32} (hv : v = 0 ∨ v = 1) : pZ (xh x si sq sl A B g) (x + 60) 5 10 v = some (xh x (u2 si 60 10 v) sq sl A B g) := by
  unfold pZ
  rw [if_pos hv]
  exact xp_Ru_10
theorem xg_Ru_11 : gI (xh x si sq sl A B g) (x + 60) 5 11 = some (si 60 11) := by simp [gI, xh_a, xcl]
theorem xp_Ru_11 {v : Int32} : pV (xh x si sq sl A B g) (x + 60) 5 11 (.int v) = some (xh x (u2 si 60 11 v) sq sl A B g) := by
  unfold pV
  rw [xh_a (by decide)]
  simp only [xcl, true_and]
  rw [if_pos (by simp)]
  congr 1
  exact xh_up (by decide) rfl xcl_si
theorem xz_Ru_11 {v : Int32} (hv : v = 0 ∨ v = 1) : pZ (xh x si sq sl A B g) (x + 60) 5 11 v = some (xh x (u2 si 60 11 v) sq sl A B g) := by
  unfold pZ
  rw [if_pos hv]
  exact xp_Ru_11
theorem xg_Ru_12 : gR (xh x si sq sl A B g) (x + 60) 5 12 = some (x + sq 60 12) := by simp [gR, xh_a, xcl]
theorem xp_Ru_12 {v : Nat} : pV (xh x si sq sl A B g) (x + 60) 5 12 (.ref (x + v)) = some (xh x si (u2 sq 60 12 v) sl A B g) := by
  unfold pV
  rw [xh_a (by decide)]
  simp only [xcl, true_and]
  rw [if_pos (by simp)]
  congr 1
  exact xh_up (by decide) rfl xcl_sq
theorem xg_Ru_13 : gR (xh x si sq sl A B g) (x + 60) 5 13 = some (x + sq 60 13) := by simp [gR, xh_a, xcl]
theorem xp_Ru_13 {v : Nat} : pV (xh x si sq sl A B g) (x + 60) 5 13 (.ref (x + v)) = some (xh x si (u2 sq 60 13 v) sl A B g) := by
  unfold pV
  rw [xh_a (by decide)]
  simp only [xcl, true_and]
  rw [if_pos (by simp)]
  congr 1
  exact xh_up (by decide) rfl xcl_sq
theorem xg_Ru_14 : gI (xh x si sq sl A B g) (x + 60) 5 14 = some (si 60 14) := by simp [gI, xh_a, xcl]
theorem xp_Ru_14 {v : Int32} : pV (xh x si sq sl A B g) (x + 60) 5 14 (.int v) = some (xh x (u2 si 60 14 v) sq sl A B g) := by
  unfold pV
  rw [xh_a (by decide)]
  simp only [xcl, true_and]
  rw [if_pos (by simp)]
  congr 1
  exact xh_up (by decide) rfl xcl_si
theorem xz_Ru_14 {v : Int32} (hv : v = 0 ∨ v = 1) : pZ (xh x si sq sl A B g) (x + 60) 5 14 v = some (xh x (u2 si 60 14 v) sq sl A B g) := by
  unfold pZ
  rw [if_pos hv]
  exact xp_Ru_14
theorem xg_Ru_15 : gR (xh x si sq sl A B g) (x + 60) 5 15 = some (x + 69) := by simp [gR, xh_a, xcl]
theorem xo_St : isO (xh x si sq sl A B g) (x + 69) 8 = some () := by simp [isO, xh_a, xcl]
theorem xg_St_0 : gR (xh x si sq sl A B g) (x + 69) 8 0 = some (x + 70) := by simp [gR, xh_a, xcl]
theorem xg_St_1 : gI (xh x si sq sl A B g) (x + 69) 8 1 = some (si 69 1) := by simp [gI, xh_a, xcl]
theorem xp_St_1 {v : Int32} : pV (xh x si sq sl A B g) (x + 69) 8 1 (.int v) = some (xh x (u2 si 69 1 v) sq sl A B g) := by
  unfold pV
  rw [xh_a (by decide)]
  simp only [xcl, true_and]
  rw [if_pos (by simp)]
  congr 1
  exact xh_up (by decide) rfl xcl_si
theorem xz_St_1 {v : Int32} (hv : v = 0 ∨ v = 1) : pZ (xh x si sq sl A B g) (x + 69) 8 1 v = some (xh x (u2 si 69 1 v) sq sl A B g) := by
  unfold pZ
  rw [if_pos hv]
  exact xp_St_1
theorem xg_St_2 : gI (xh x si sq sl A B g) (x + 69) 8 2 = some (si 69 2) := by simp [gI, xh_a, xcl]
theorem xp_St_2 {v : Int32} : pV (xh x si sq sl A B g) (x + 69) 8 2 (.int v) = some (xh x (u2 si 69 2 v) sq sl A B g) := by
  unfold pV
  rw [xh_a (by decide)]
  simp only [xcl, true_and]
  rw [if_pos (by simp)]
  congr 1
  exact xh_up (by decide) rfl xcl_si
theorem xz_St_2 {v : Int32} (hv : v = 0 ∨ v = 1) : pZ (xh x si sq sl A B g) (x + 69) 8 2 v = some (xh x (u2 si 69 2 v) sq sl A B g) := by
  unfold pZ
  rw [if_pos hv]
  exact xp_St_2
theorem xo_Ht : isO (xh x si sq sl A B g) (x + 71) 2 = some () := by simp [isO, xh_a, xcl]
theorem xg_Ht_0 : gR (xh x si sq sl A B g) (x + 71) 2 0 = some (x + 72) := by simp [gR, xh_a, xcl]
theorem xg_Ht_1 : gR (xh x si sq sl A B g) (x + 71) 2 1 = some (x + 74) := by simp [gR, xh_a, xcl]
theorem xg_Ht_2 : gI (xh x si sq sl A B g) (x + 71) 2 2 = some (si 71 2) := by simp [gI, xh_a, xcl]
theorem xp_Ht_2 {v : Int32} : pV (xh x si sq sl A B g) (x + 71) 2 2 (.int v) = some (xh x (u2 si 71 2 v) sq sl A B g) := by
  unfold pV
  rw [xh_a (by decide)]
  simp only [xcl, true_and]
  rw [if_pos (by simp)]
  congr 1
  exact xh_up (by decide) rfl xcl_si
theorem xz_Ht_2 {v : Int32} (hv : v = 0 ∨ v = 1) : pZ (xh x si sq sl A B g) (x + 71) 2 2 v = some (xh x (u2 si 71 2 v) sq sl A B g) := by
  unfold pZ
  rw [if_pos hv]
  exact xp_Ht_2
theorem xg_Ht_3 : gI (xh x si sq sl A B g) (x + 71) 2 3 = some (si 71 3) := by simp [gI, xh_a, xcl]
theorem xp_Ht_3 {v : Int32} : pV (xh x si sq sl A B g) (x + 71) 2 3 (.int v) = some (xh x (u2 si 71 3 v) sq sl A B g) := by
  unfold pV
  rw [xh_a (by decide)]
  simp only [xcl, true_and]
  rw [if_pos (by simp)]
  congr 1
  exact xh_up (by decide) rfl xcl_si
theorem xz_Ht_3 {v : Int32} (hv : v = 0 ∨ v = 1) : pZ (xh x si sq sl A B g) (x + 71) 2 3 v = some (xh x (u2 si 71 3 v) sq sl A B g) := by
  unfold pZ
  rw [if_pos hv]
  exact xp_Ht_3
theorem xg_Ht_4 : gR (xh x si sq sl A B g) (x + 71) 2 4 = some (x + 77) := by simp [gR, xh_a, xcl]
theorem xg_Ht_5 : gR (xh x si sq sl A B g) (x + 71) 2 5 = some (x + 79) := by simp [gR, xh_a, xcl]
theorem xg_Ht_6 : gR (xh x si sq sl A B g) (x + 71) 2 6 = some (x + 80) := by simp [gR, xh_a, xcl]
theorem xg_Ht_7 : gR (xh x si sq sl A B g) (x + 71) 2 7 = some (x + 81) := by simp [gR, xh_a, xcl]
theorem xg_Ht_8 : gI (xh x si sq sl A B g) (x + 71) 2 8 = some (si 71 8) := by simp [gI, xh_a, xcl]
theorem xp_Ht_8 {v : Int32} : pV (xh x si sq sl A B g) (x + 71) 2 8 (.int v) = some (xh x (u2 si 71 8 v) sq sl A B g) := by
  unfold pV
  rw [xh_a (by decide)]
  simp only [xcl, true_and]
  rw [if_pos (by simp)]
  congr 1
  exact xh_up (by decide) rfl xcl_si
theorem xz_Ht_8 {v : Int32} (hv : v = 0 ∨ v = 1) : pZ (xh x si sq sl A B g) (x + 71) 2 8 v = some (xh x (u2 si 71 8 v) sq sl A B g) := by
  unfold pZ
  rw [if_pos hv]
  exact xp_Ht_8
theorem xo_Wa : isO (xh x si sq sl A B g) (x + 77) 9 = some () := by simp [isO, xh_a, xcl]
theorem xg_Wa_0 : gR (xh x si sq sl A B g) (x + 77) 9 0 = some (x + 78) := by simp [gR, xh_a, xcl]
theorem xg_Wa_1 : gI (xh x si sq sl A B g) (x + 77) 9 1 = some (si 77 1) := by simp [gI, xh_a, xcl]
theorem xp_Wa_1 {v : Int32} : pV (xh x si sq sl A B g) (x + 77) 9 1 (.int v) = some (xh x (u2 si 77 1 v) sq sl A B g) := by
  unfold pV
  rw [xh_a (by decide)]
  simp only [xcl, true_and]
  rw [if_pos (by simp)]
  congr 1
  exact xh_up (by decide) rfl xcl_si
theorem xz_Wa_1 {v : Int32} (hv : v = 0 ∨ v = 1) : pZ (xh x si sq sl A B g) (x + 77) 9 1 v = some (xh x (u2 si 77 1 v) sq sl A B g) := by
  unfold pZ
  rw [if_pos hv]
  exact xp_Wa_1
theorem xo_Ll : isO (xh x si sq sl A B g) (x + 82) 3 = some () := by simp [isO, xh_a, xcl]
theorem xg_Ll_0 : gR (xh x si sq sl A B g) (x + 82) 3 0 = some (x + 83) := by simp [gR, xh_a, xcl]
theorem xg_Ll_1 : gI (xh x si sq sl A B g) (x + 82) 3 1 = some (si 82 1) := by simp [gI, xh_a, xcl]
theorem xp_Ll_1 {v : Int32} : pV (xh x si sq sl A B g) (x + 82) 3 1 (.int v) = some (xh x (u2 si 82 1 v) sq sl A B g) := by
  unfold pV
  rw [xh_a (by decide)]
  simp only [xcl, true_and]
  rw [if_pos (by simp)]
  congr 1
  exact xh_up (by decide) rfl xcl_si
theorem xz_Ll_1 {v : Int32} (hv : v = 0 ∨ v = 1) : pZ (xh x si sq sl A B g) (x + 82) 3 1 v = some (xh x (u2 si 82 1 v) sq sl A B g) := by
  unfold pZ
  rw [if_pos hv]
  exact xp_Ll_1
def isRow (o : Nat) : Prop := o = 1 ∨ o = 3 ∨ o = 5 ∨ o = 9 ∨ o = 11 ∨ o = 13 ∨ o = 15 ∨ o = 17 ∨ o = 48 ∨ o = 64 ∨ o = 72
def rlen (o : Nat) : Nat := match o with
  | 1 => 400
  | 48 => 0
  | 64 => 0
  | _ => 1500
theorem row_lt {o : Nat} (h : isRow o) : o + 1 < 84 := by rcases h with rfl | rfl | rfl | rfl | rfl | rfl | rfl | rfl | rfl | rfl | rfl <;> decide
theorem rlen_le {o : Nat} : rlen o ≤ 1500 := by unfold rlen; split <;> decide
theorem row_o {o : Nat} (h : isRow o) : xcl x si sq sl A B o = some (.inr (0, [.ref (x + (o + 1)), .int (si o 1)])) := by rcases h with rfl | rfl | rfl | rfl | rfl | rfl | rfl | rfl | rfl | rfl | rfl <;> rfl
theorem row_a {o : Nat} (h : isRow o) : xcl x si sq sl A B (o + 1) = some (.inl (0, rlen o, .inl (A (o + 1)))) := by rcases h with rfl | rfl | rfl | rfl | rfl | rfl | rfl | rfl | rfl | rfl | rfl <;> rfl
def isSet (o : Nat) : Prop := o = 20 ∨ o = 23 ∨ o = 26 ∨ o = 29 ∨ o = 32 ∨ o = 35 ∨ o = 38 ∨ o = 41 ∨ o = 44 ∨ o = 50 ∨ o = 54 ∨ o = 61 ∨ o = 74
def slen (o : Nat) : Nat := match o with
  | 44 => 1500
  | 54 => 0
  | 61 => 0
  | _ => 200
theorem set_lt {o : Nat} (h : isSet o) : o + 2 < 84 := by rcases h with rfl | rfl | rfl | rfl | rfl | rfl | rfl | rfl | rfl | rfl | rfl | rfl | rfl <;> decide
theorem slen_le {o : Nat} : slen o ≤ 1500 := by unfold slen; split <;> decide
theorem set_o {o : Nat} (h : isSet o) : xcl x si sq sl A B o = some (.inr (7, [.ref (x + (o + 1)), .ref (x + (o + 2)), .int (si o 2)])) := by rcases h with rfl | rfl | rfl | rfl | rfl | rfl | rfl | rfl | rfl | rfl | rfl | rfl | rfl <;> rfl
theorem set_a {o : Nat} (h : isSet o) : xcl x si sq sl A B (o + 1) = some (.inl (2, slen o, .inr (.inl (B (o + 1))))) := by rcases h with rfl | rfl | rfl | rfl | rfl | rfl | rfl | rfl | rfl | rfl | rfl | rfl | rfl <;> rfl
theorem set_b {o : Nat} (h : isSet o) : xcl x si sq sl A B (o + 2) = some (.inl (2, slen o, .inr (.inl (B (o + 2))))) := by rcases h with rfl | rfl | rfl | rfl | rfl | rfl | rfl | rfl | rfl | rfl | rfl | rfl | rfl <;> rfl
theorem xr_is {o : Nat} (h : isRow o) : isO (xh x si sq sl A B g) (x + o) 0 = some () := by
  have := row_lt h
  simp [isO, xh_a (show o < 84 by omega), row_o h]
theorem xr_g {o : Nat} (h : isRow o) : gI (xh x si sq sl A B g) (x + o) 0 1 = some (si o 1) := by
  have := row_lt h
  simp [gI, xh_a (show o < 84 by omega), row_o h]
theorem xr_c {o : Nat} (h : isRow o) : gR (xh x si sq sl A B g) (x + o) 0 0 = some (x + (o + 1)) := by
  have := row_lt h
  simp [gR, xh_a (show o < 84 by omega), row_o h]
theorem xr_p {o : Nat} (h : isRow o) {v : Int32} : pV (xh x si sq sl A B g) (x + o) 0 1 (.int v) = some (xh x (u2 si o 1 v) sq sl A B g) := by
  have hl := row_lt h
  unfold pV
  rw [xh_a (by omega), row_o h]
  simp only [true_and]
  rw [if_pos (by simp)]
  congr 1
  refine xh_up (by omega) ?_ xcl_si
  rw [row_o h, u2_s]
  rfl
theorem xr_n {o : Nat} (h : isRow o) : aN (xh x si sq sl A B g) 0 (x + (o + 1)) = some (nI (rlen o)) := by
  have := row_lt h
  simp [aN, xh_a (show o + 1 < 84 by omega), row_a h]
theorem xr_l {o i : Nat} (h : isRow o) (hi : i < rlen o) : aI (xh x si sq sl A B g) 0 (x + (o + 1)) (nI i) = some (A (o + 1) i) := by
  have := row_lt h
  have h2 := rlen_le (o := o)
  unfold aI
  rw [xh_a (by omega), row_a h]
  simp only [true_and]
  rw [if_pos (nI_in hi (by omega)), nI_clamp (by omega)]
theorem xr_s {o i : Nat} (h : isRow o) (hi : i < rlen o) {v : Int32} : sB (xh x si sq sl A B g) (x + (o + 1)) (nI i) v = some (xh x si sq sl (ua A (o + 1) (upd (A (o + 1)) i v.toInt8.toInt32)) B g) := by
  have := row_lt h
  have h2 := rlen_le (o := o)
  unfold sB
  rw [xh_a (by omega), row_a h]
  simp only [true_and]
  rw [if_pos (nI_in hi (by omega)), nI_clamp (by omega)]
  congr 1
  refine xh_up (by omega) ?_ xcl_A
  rw [row_a h, ua_s]
theorem xr_cp {o t sp dp n : Nat} (ho : isRow o) (ht : isRow t) (h1 : sp + n ≤ rlen o) (h2 : dp + n ≤ rlen t) : cpB (xh x si sq sl A B g) (x + (o + 1)) (nI sp) (x + (t + 1)) (nI dp) (nI n) = some (xh x si sq sl (ua A (t + 1) (va_cpy (A (o + 1)) (A (t + 1)) sp dp n)) B g) := by
  have l1 := row_lt ho
  have l2 := row_lt ht
  have l3 := rlen_le (o := o)
  have l4 := rlen_le (o := t)
  unfold cpB
  rw [xh_a (by omega), row_a ho, xh_a (by omega), row_a ht]
  simp only [true_and]
  rw [nI_clamp (n := sp) (by omega), nI_clamp (n := dp) (by omega), nI_clamp (n := n) (by omega)]
  rw [if_pos ⟨⟨nI_pos (by omega), nI_pos (by omega), nI_pos (by omega)⟩, h1, h2⟩]
  congr 1
  refine xh_up (by omega) ?_ xcl_A
  rw [row_a ht, ua_s]
theorem xs_is {o : Nat} (h : isSet o) : isO (xh x si sq sl A B g) (x + o) 7 = some () := by
  have := set_lt h
  simp [isO, xh_a (show o < 84 by omega), set_o h]
theorem xs_g {o : Nat} (h : isSet o) : gI (xh x si sq sl A B g) (x + o) 7 2 = some (si o 2) := by
  have := set_lt h
  simp [gI, xh_a (show o < 84 by omega), set_o h]
theorem xs_ca {o : Nat} (h : isSet o) : gR (xh x si sq sl A B g) (x + o) 7 0 = some (x + (o + 1)) := by
  have := set_lt h
  simp [gR, xh_a (show o < 84 by omega), set_o h]
theorem xs_cb {o : Nat} (h : isSet o) : gR (xh x si sq sl A B g) (x + o) 7 1 = some (x + (o + 2)) := by
  have := set_lt h
  simp [gR, xh_a (show o < 84 by omega), set_o h]
theorem xs_p {o : Nat} (h : isSet o) {v : Int32} : pV (xh x si sq sl A B g) (x + o) 7 2 (.int v) = some (xh x (u2 si o 2 v) sq sl A B g) := by
  have hl := set_lt h
  unfold pV
  rw [xh_a (by omega), set_o h]
  simp only [true_and]
  rw [if_pos (by simp)]
  congr 1
  refine xh_up (by omega) ?_ xcl_si
  rw [set_o h, u2_s]
  rfl
theorem xs_n {o : Nat} (h : isSet o) : aN (xh x si sq sl A B g) 2 (x + (o + 1)) = some (nI (slen o)) := by
  have := set_lt h
  simp [aN, xh_a (show o + 1 < 84 by omega), set_a h]
theorem xs_la {o i : Nat} (h : isSet o) (hi : i < slen o) : aL (xh x si sq sl A B g) (x + (o + 1)) (nI i) = some (B (o + 1) i) := by
  have := set_lt h
  have h2 := slen_le (o := o)
  unfold aL
  rw [xh_a (by omega), set_a h]
  simp only [true_and]
  rw [if_pos (nI_in hi (by omega)), nI_clamp (by omega)]
theorem xs_lb {o i : Nat} (h : isSet o) (hi : i < slen o) : aL (xh x si sq sl A B g) (x + (o + 2)) (nI i) = some (B (o + 2) i) := by
  have := set_lt h
  have h2 := slen_le (o := o)
  unfold aL
  rw [xh_a (by omega), set_b h]
  simp only [true_and]
  rw [if_pos (nI_in hi (by omega)), nI_clamp (by omega)]
theorem xs_sa {o i : Nat} (h : isSet o) (hi : i < slen o) {v : Int64} : sL (xh x si sq sl A B g) (x + (o + 1)) (nI i) v = some (xh x si sq sl A (ub B (o + 1) (vp_updL (B (o + 1)) i v)) g) := by
  have := set_lt h
  have h2 := slen_le (o := o)
  unfold sL
  rw [xh_a (by omega), set_a h]
  simp only [true_and]
  rw [if_pos (nI_in hi (by omega)), nI_clamp (by omega)]
  congr 1
  refine xh_up (by omega) ?_ xcl_B
  rw [set_a h, ub_s]
theorem xs_sb {o i : Nat} (h : isSet o) (hi : i < slen o) {v : Int64} : sL (xh x si sq sl A B g) (x + (o + 2)) (nI i) v = some (xh x si sq sl A (ub B (o + 2) (vp_updL (B (o + 2)) i v)) g) := by
  have := set_lt h
  have h2 := slen_le (o := o)
  unfold sL
  rw [xh_a (by omega), set_b h]
  simp only [true_and]
  rw [if_pos (nI_in hi (by omega)), nI_clamp (by omega)]
  congr 1
  refine xh_up (by omega) ?_ xcl_B
  rw [set_b h, ub_s]
/-! other arrays: of ints (201: the search's columns; 1501: the ruler's; 1500: the hits'; 751: the lines'), of longs (70: the steps' table), of bytes (78: the way) -/
def isInt (k L : Nat) : Prop := ((k = 57 ∨ k = 58 ∨ k = 59) ∧ L = 201) ∨ ((k = 66 ∨ k = 67 ∨ k = 68) ∧ L = 1501) ∨ ((k = 79 ∨ k = 80 ∨ k = 81) ∧ L = 1500) ∨ (k = 83 ∧ L = 751)
theorem int_c {k L : Nat} (h : isInt k L) : (k < 84 ∧ L ≤ 1501) ∧ xcl x si sq sl A B k = some (.inl (1, L, .inl (A k))) := by
  rcases h with ⟨rfl | rfl | rfl, rfl⟩ | ⟨rfl | rfl | rfl, rfl⟩ | ⟨rfl | rfl | rfl, rfl⟩ | ⟨rfl, rfl⟩ <;> exact ⟨by decide, rfl⟩
theorem xi_n {k L : Nat} (h : isInt k L) : aN (xh x si sq sl A B g) 1 (x + k) = some (nI L) := by
  obtain ⟨⟨h1, h2⟩, h3⟩ := int_c (x := x) (si := si) (sq := sq) (sl := sl) (A := A) (B := B) h
  simp [aN, xh_a h1, h3]
theorem xi_l {k L i : Nat} (h : isInt k L) (hi : i < L) : aI (xh x si sq sl A B g) 1 (x + k) (nI i) = some (A k i) := by
  obtain ⟨⟨h1, h2⟩, h3⟩ := int_c (x := x) (si := si) (sq := sq) (sl := sl) (A := A) (B := B) h
  unfold aI
  rw [xh_a h1, h3]
  simp only [true_and]
  rw [if_pos (nI_in hi (by omega)), nI_clamp (by omega)]
theorem xi_s {k L i : Nat} (h : isInt k L) (hi : i < L) {v : Int32} : sI (xh x si sq sl A B g) (x + k) (nI i) v = some (xh x si sq sl (ua A k (upd (A k) i v)) B g) := by
  obtain ⟨⟨h1, h2⟩, h3⟩ := int_c (x := x) (si := si) (sq := sq) (sl := sl) (A := A) (B := B) h
  unfold sI
  rw [xh_a h1, h3]
  simp only [true_and]
  rw [if_pos (nI_in hi (by omega)), nI_clamp (by omega)]
  congr 1
  refine xh_up h1 ?_ xcl_A
  rw [(int_c h).2, ua_s]
theorem xt_n : aN (xh x si sq sl A B g) 2 (x + 70) = some (nI 5038) := by simp [aN, xh_a, xcl]
theorem xt_l {i : Nat} (hi : i < 5038) : aL (xh x si sq sl A B g) (x + 70) (nI i) = some (B 70 i) := by
  unfold aL
  rw [xh_a (by omega)]
  simp only [xcl, true_and]
  rw [if_pos (nI_in hi (by omega)), nI_clamp (by omega)]
theorem xt_s {i : Nat} (hi : i < 5038) {v : Int64} : sL (xh x si sq sl A B g) (x + 70) (nI i) v = some (xh x si sq sl A (ub B 70 (vp_updL (B 70) i v)) g) := by
  unfold sL
  rw [xh_a (by omega)]
  simp only [xcl, true_and]
  rw [if_pos (nI_in hi (by omega)), nI_clamp (by omega)]
  congr 1
  refine xh_up (by omega) ?_ xcl_B
  simp only [xcl, ub_s]
theorem xw_n : aN (xh x si sq sl A B g) 0 (x + 78) = some (nI 400) := by simp [aN, xh_a, xcl]
theorem xw_l {i : Nat} (hi : i < 400) : aI (xh x si sq sl A B g) 0 (x + 78) (nI i) = some (A 78 i) := by
  unfold aI
  rw [xh_a (by omega)]
  simp only [xcl, true_and]
  rw [if_pos (nI_in hi (by omega)), nI_clamp (by omega)]
theorem xw_s {i : Nat} (hi : i < 400) {v : Int32} : sB (xh x si sq sl A B g) (x + 78) (nI i) v = some (xh x si sq sl (ua A 78 (upd (A 78) i v.toInt8.toInt32)) B g) := by
  unfold sB
  rw [xh_a (by omega)]
  simp only [xcl, true_and]
  rw [if_pos (nI_in hi (by omega)), nI_clamp (by omega)]
  congr 1
  refine xh_up (by omega) ?_ xcl_A
  simp only [xcl, ua_s]
theorem xhr {i : Nat} (hi : i < 5) : aR (xh x si sq sl A B g) 3 (x + 8) (nI i) = some (x + (9 + 2 * i)) := by
  unfold aR
  rw [xh_a (by omega)]
  simp only [xcl, true_and]
  rw [if_pos (nI_in hi (by omega)), nI_clamp (by omega), if_pos hi]
theorem xpr {i : Nat} (hi : i < 8) : aR (xh x si sq sl A B g) 4 (x + 19) (nI i) = some (x + (20 + 3 * i)) := by
  unfold aR
  rw [xh_a (by omega)]
  simp only [xcl, true_and]
  rw [if_pos (nI_in hi (by omega)), nI_clamp (by omega), if_pos hi]
theorem row_h {i : Nat} (hi : i < 5) : isRow (9 + 2 * i) := by unfold isRow; omega
theorem set_p {i : Nat} (hi : i < 8) : isSet (20 + 3 * i) := by unfold isSet; omega
end XH
