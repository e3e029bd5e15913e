/-! BOTH SIDES NEW (written by wip/gen/inits.py) -/
def si0 : Nat → Nat → Int32
  | 47, 6 => -1
  | 53, 10 => 10
  | 60, 10 => 10
  | 60, 11 => 10
  | 71, 3 => -1
  | _, _ => 0
def sq0 : Nat → Nat → Nat
  | 47, 0 => 48
  | 53, 0 => 54
  | 53, 4 => 57
  | 53, 5 => 58
  | 53, 6 => 59
  | 60, 0 => 61
  | 60, 1 => 64
  | 60, 7 => 66
  | 60, 8 => 67
  | 60, 9 => 68
  | 60, 12 => 62
  | 60, 13 => 62
  | _, _ => 0
def mi0 : Nat → Int32
  | 10 => -1
  | _ => 0
def xin (b : Nat) : List va_E := [.inr (10, [.ref (b + 1), .ref (b + 3), .ref (b + 5), .ref (b + 7), .ref (b + 19), .ref (b + 44), .ref (b + 47), .ref (b + 53), .ref (b + 60), .ref (b + 71), .ref (b + 82)]), .inr (0, [.ref (b + 2), .int 0]), .inl (0, 400, .inl fun _ => 0), .inr (0, [.ref (b + 4), .int 0]), .inl (0, 1500, .inl fun _ => 0), .inr (0, [.ref (b + 6), .int 0]), .inl (0, 1500, .inl fun _ => 0), .inr (1, [.ref (b + 8), .int 0, .int 0]), .inl (3, 5, .inr (.inr (.inr (.inr (fun i => if i < 5 then some (b + (9 + 2 * i)) else none))))), .inr (0, [.ref (b + 10), .int 0]), .inl (0, 1500, .inl fun _ => 0), .inr (0, [.ref (b + 12), .int 0]), .inl (0, 1500, .inl fun _ => 0), .inr (0, [.ref (b + 14), .int 0]), .inl (0, 1500, .inl fun _ => 0), .inr (0, [.ref (b + 16), .int 0]), .inl (0, 1500, .inl fun _ => 0), .inr (0, [.ref (b + 18), .int 0]), .inl (0, 1500, .inl fun _ => 0), .inl (4, 8, .inr (.inr (.inr (.inr (fun i => if i < 8 then some (b + (20 + 3 * i)) else none))))), .inr (7, [.ref (b + 21), .ref (b + 22), .int 0]), .inl (2, 200, .inr (.inl fun _ => 0)), .inl (2, 200, .inr (.inl fun _ => 0)), .inr (7, [.ref (b + 24), .ref (b + 25), .int 0]), .inl (2, 200, .inr (.inl fun _ => 0)), .inl (2, 200, .inr (.inl fun _ => 0)), .inr (7, [.ref (b + 27), .ref (b + 28), .int 0]), .inl (2, 200, .inr (.inl fun _ => 0)), .inl (2, 200, .inr (.inl fun _ => 0)), .inr (7, [.ref (b + 30), .ref (b + 31), .int 0]), .inl (2, 200, .inr (.inl fun _ => 0)), .inl (2, 200, .inr (.inl fun _ => 0)), .inr (7, [.ref (b + 33), .ref (b + 34), .int 0]), .inl (2, 200, .inr (.inl fun _ => 0)), .inl (2, 200, .inr (.inl fun _ => 0)), .inr (7, [.ref (b + 36), .ref (b + 37), .int 0]), .inl (2, 200, .inr (.inl fun _ => 0)), .inl (2, 200, .inr (.inl fun _ => 0)), .inr (7, [.ref (b + 39), .ref (b + 40), .int 0]), .inl (2, 200, .inr (.inl fun _ => 0)), .inl (2, 200, .inr (.inl fun _ => 0)), .inr (7, [.ref (b + 42), .ref (b + 43), .int 0]), .inl (2, 200, .inr (.inl fun _ => 0)), .inl (2, 200, .inr (.inl fun _ => 0)), .inr (7, [.ref (b + 45), .ref (b + 46), .int 0]), .inl (2, 1500, .inr (.inl fun _ => 0)), .inl (2, 1500, .inr (.inl fun _ => 0)), .inr (4, [.ref (b + 48), .int 0, .long 0, .long 0, .ref (b + 50), .int 0, .int (-1)]), .inr (0, [.ref (b + 49), .int 0]), .inl (0, 0, .inl fun _ => 0), .inr (7, [.ref (b + 51), .ref (b + 52), .int 0]), .inl (2, 200, .inr (.inl fun _ => 0)), .inl (2, 200, .inr (.inl fun _ => 0)), .inr (6, [.ref (b + 54), .int 0, .int 0, .int 0, .ref (b + 57), .ref (b + 58), .ref (b + 59), .int 0, .int 0, .int 0, .int 10]), .inr (7, [.ref (b + 55), .ref (b + 56), .int 0]), .inl (2, 0, .inr (.inl fun _ => 0)), .inl (2, 0, .inr (.inl fun _ => 0)), .inl (1, 201, .inl fun _ => 0), .inl (1, 201, .inl fun _ => 0), .inl (1, 201, .inl fun _ => 0), .inr (5, [.ref (b + 61), .ref (b + 64), .int 0, .int 0, .int 0, .int 0, .int 0, .ref (b + 66), .ref (b + 67), .ref (b + 68), .int 10, .int 10, .ref (b + 62), .ref (b + 62), .int 0, .ref (b + 69)]), .inr (7, [.ref (b + 62), .ref (b + 63), .int 0]), .inl (2, 0, .inr (.inl fun _ => 0)), .inl (2, 0, .inr (.inl fun _ => 0)), .inr (0, [.ref (b + 65), .int 0]), .inl (0, 0, .inl fun _ => 0), .inl (1, 1501, .inl fun _ => 0), .inl (1, 1501, .inl fun _ => 0), .inl (1, 1501, .inl fun _ => 0), .inr (8, [.ref (b + 70), .int 0, .int 0]), .inl (2, 5038, .inr (.inl fun _ => 0)), .inr (2, [.ref (b + 72), .ref (b + 74), .int 0, .int (-1), .ref (b + 77), .ref (b + 79), .ref (b + 80), .ref (b + 81), .int 0]), .inr (0, [.ref (b + 73), .int 0]), .inl (0, 1500, .inl fun _ => 0), .inr (7, [.ref (b + 75), .ref (b + 76), .int 0]), .inl (2, 200, .inr (.inl fun _ => 0)), .inl (2, 200, .inr (.inl fun _ => 0)), .inr (9, [.ref (b + 78), .int 0]), .inl (0, 400, .inl fun _ => 0), .inl (1, 1500, .inl fun _ => 0), .inl (1, 1500, .inl fun _ => 0), .inl (1, 1500, .inl fun _ => 0), .inr (3, [.ref (b + 83), .int 0]), .inl (1, 751, .inl fun _ => 0)]
section IN
variable {b : Nat} {h : zh_H}
theorem xin_c : ∀ k, k < 84 → (xin b)[k]? = xcl b si0 sq0 (fun _ _ => 0) (fun _ _ => 0) (fun _ _ => 0) k
  | 0, _ => rfl
  | 1, _ => rfl
  | 2, _ => rfl
  | 3, _ => rfl
  | 4, _ => rfl
  | 5, _ => rfl
  | 6, _ => rfl
  | 7, _ => rfl
  | 8, _ => rfl
  | 9, _ => rfl
  | 10, _ => rfl
  | 11, _ => rfl
  | 12, _ => rfl
  | 13, _ => rfl
  | 14, _ => rfl
  | 15, _ => rfl
  | 16, _ => rfl
  | 17, _ => rfl
  | 18, _ => rfl
  | 19, _ => rfl
  | 20, _ => rfl
  | 21, _ => rfl
  | 22, _ => rfl
  | 23, _ => rfl
  | 24, _ => rfl
  | 25, _ => rfl
  | 26, _ => rfl
  | 27, _ => rfl
  | 28, _ => rfl
  | 29, _ => rfl
  | 30, _ => rfl
  | 31, _ => rfl
  | 32, _ => rfl
  | 33, _ => rfl
  | 34, _ => rfl
  | 35, _ => rfl
  | 36, _ => rfl
  | 37, _ => rfl
  | 38, _ => rfl
  | 39, _ => rfl
  | 40, _ => rfl
  | 41, _ => rfl
  | 42, _ => rfl
  | 43, _ => rfl
  | 44, _ => rfl
  | 45, _ => rfl
  | 46, _ => rfl
  | 47, _ => rfl
  | 48, _ => rfl
  | 49, _ => rfl
  | 50, _ => rfl
  | 51, _ => rfl
  | 52, _ => rfl
  | 53, _ => rfl
  | 54, _ => rfl
  | 55, _ => rfl
  | 56, _ => rfl
  | 57, _ => rfl
  | 58, _ => rfl
  | 59, _ => rfl
  | 60, _ => rfl
  | 61, _ => rfl
  | 62, _ => rfl
  | 63, _ => rfl
  | 64, _ => rfl
  | 65, _ => rfl
  | 66, _ => rfl
  | 67, _ => rfl
  | 68, _ => rfl
  | 69, _ => rfl
  | 70, _ => rfl
  | 71, _ => rfl
  | 72, _ => rfl
  | 73, _ => rfl
  | 74, _ => rfl
  | 75, _ => rfl
  | 76, _ => rfl
  | 77, _ => rfl
  | 78, _ => rfl
  | 79, _ => rfl
  | 80, _ => rfl
  | 81, _ => rfl
  | 82, _ => rfl
  | 83, _ => rfl
  | k + 84, hk => absurd hk (by omega)
theorem xin_h : lh b (xin b) h = xh b si0 sq0 (fun _ _ => 0) (fun _ _ => 0) (fun _ _ => 0) h := by
  have hlen : (xin b).length = 84 := rfl
  funext q
  unfold lh xh
  by_cases hq : b ≤ q ∧ q < b + 84
  · rw [if_neg (by omega), if_pos hq, ← xin_c (q - b) (by omega), List.getElem?_eq_getElem (by omega)]
  · rw [if_neg hq]
    by_cases h1 : q < b
    · rw [if_pos h1]
    · rw [if_neg h1, List.getElem?_eq_none (by omega)]
theorem f8_eq : (va_up (va_up (va_up (va_up (va_up (fun _ => none) 0 (some (b + 7 + 2))) 1 (some (b + 7 + 4))) 2 (some (b + 7 + 6))) 3 (some (b + 7 + 8))) 4 (some (b + 7 + 10)) = fun i => if i < 5 then some (b + (9 + 2 * i)) else none := by
  funext i
  match i with
  | 0 => rfl
  | 1 => rfl
  | 2 => rfl
  | 3 => rfl
  | 4 => rfl
  | i + 5 => simp [va_up]
theorem f19_eq : va_up (va_up (va_up (va_up (va_up (va_up (va_up (va_up (fun _ => none) 0 (some (b + 20))) 1 (some (b + 23))) 2 (some (b + 26))) 3 (some (b + 29))) 4 (some (b + 32))) 5 (some (b + 35))) 6 (some (b + 38))) 7 (some (b + 41)) = fun i => if i < 8 then some (b + (20 + 3 * i)) else none := by
  funext i
  match i with
  | 0 => rfl
  | 1 => rfl
  | 2 => rfl
  | 3 => rfl
  | 4 => rfl
  | 5 => rfl
  | 6 => rfl
  | 7 => rfl
  | i + 8 => simp [va_up]
theorem x10_loop {n : Nat} : b_X10_init_68 (n + 9) (b + 20) 19 12032 (lh b [.inr (10, [.ref (b + 1), .ref (b + 3), .ref (b + 5), .ref (b + 7), .ref (b + 19), .null, .null, .null, .null, .null, .null]), .inr (0, [.ref (b + 2), .int 0]), .inl (0, 400, .inl fun _ => 0), .inr (0, [.ref (b + 4), .int 0]), .inl (0, 1500, .inl fun _ => 0), .inr (0, [.ref (b + 6), .int 0]), .inl (0, 1500, .inl fun _ => 0), .inr (1, [.ref (b + 8), .int 0, .int 0]), .inl (3, 5, .inr (.inr (.inr (.inr (fun i => if i < 5 then some (b + (9 + 2 * i)) else none))))), .inr (0, [.ref (b + 10), .int 0]), .inl (0, 1500, .inl fun _ => 0), .inr (0, [.ref (b + 12), .int 0]), .inl (0, 1500, .inl fun _ => 0), .inr (0, [.ref (b + 14), .int 0]), .inl (0, 1500, .inl fun _ => 0), .inr (0, [.ref (b + 16), .int 0]), .inl (0, 1500, .inl fun _ => 0), .inr (0, [.ref (b + 18), .int 0]), .inl (0, 1500, .inl fun _ => 0), .inl (4, 8, .inr (.inr (.inr (.inr fun _ => none))))] h) b 0 = b_X10_init_68 (n + 1) (b + 44) 43 36056 (lh b [.inr (10, [.ref (b + 1), .ref (b + 3), .ref (b + 5), .ref (b + 7), .ref (b + 19), .null, .null, .null, .null, .null, .null]), .inr (0, [.ref (b + 2), .int 0]), .inl (0, 400, .inl fun _ => 0), .inr (0, [.ref (b + 4), .int 0]), .inl (0, 1500, .inl fun _ => 0), .inr (0, [.ref (b + 6), .int 0]), .inl (0, 1500, .inl fun _ => 0), .inr (1, [.ref (b + 8), .int 0, .int 0]), .inl (3, 5, .inr (.inr (.inr (.inr (fun i => if i < 5 then some (b + (9 + 2 * i)) else none))))), .inr (0, [.ref (b + 10), .int 0]), .inl (0, 1500, .inl fun _ => 0), .inr (0, [.ref (b + 12), .int 0]), .inl (0, 1500, .inl fun _ => 0), .inr (0, [.ref (b + 14), .int 0]), .inl (0, 1500, .inl fun _ => 0), .inr (0, [.ref (b + 16), .int 0]), .inl (0, 1500, .inl fun _ => 0), .inr (0, [.ref (b + 18), .int 0]), .inl (0, 1500, .inl fun _ => 0), .inl (4, 8, .inr (.inr (.inr (.inr (fun i => if i < 8 then some (b + (20 + 3 * i)) else none))))), .inr (7, [.ref (b + 21), .ref (b + 22), .int 0]), .inl (2, 200, .inr (.inl fun _ => 0)), .inl (2, 200, .inr (.inl fun _ => 0)), .inr (7, [.ref (b + 24), .ref (b + 25), .int 0]), .inl (2, 200, .inr (.inl fun _ => 0)), .inl (2, 200, .inr (.inl fun _ => 0)), .inr (7, [.ref (b + 27), .ref (b + 28), .int 0]), .inl (2, 200, .inr (.inl fun _ => 0)), .inl (2, 200, .inr (.inl fun _ => 0)), .inr (7, [.ref (b + 30), .ref (b + 31), .int 0]), .inl (2, 200, .inr (.inl fun _ => 0)), .inl (2, 200, .inr (.inl fun _ => 0)), .inr (7, [.ref (b + 33), .ref (b + 34), .int 0]), .inl (2, 200, .inr (.inl fun _ => 0)), .inl (2, 200, .inr (.inl fun _ => 0)), .inr (7, [.ref (b + 36), .ref (b + 37), .int 0]), .inl (2, 200, .inr (.inl fun _ => 0)), .inl (2, 200, .inr (.inl fun _ => 0)), .inr (7, [.ref (b + 39), .ref (b + 40), .int 0]), .inl (2, 200, .inr (.inl fun _ => 0)), .inl (2, 200, .inr (.inl fun _ => 0)), .inr (7, [.ref (b + 42), .ref (b + 43), .int 0]), .inl (2, 200, .inr (.inl fun _ => 0)), .inl (2, 200, .inr (.inl fun _ => 0))] h) b 8 := by
  rw [← f19_eq (b := b)]
  conv => lhs; unfold b_X10_init_68
  rw [if_neg (by decide)]
  refine k_gR (i := 0) rfl rfl ?_
  refine k_zif (by decide) (k_zif (by decide) ?_)
  refine k_child x7_200 rfl ?_
  refine k_sR (i := 19) (j := 20) rfl rfl rfl ?_
  conv => lhs; unfold b_X10_init_68
  rw [if_neg (by decide)]
  refine k_gR (i := 0) rfl rfl ?_
  refine k_zif (by decide) (k_zif (by decide) ?_)
  refine k_child x7_200 rfl ?_
  refine k_sR (i := 19) (j := 23) rfl rfl rfl ?_
  conv => lhs; unfold b_X10_init_68
  rw [if_neg (by decide)]
  refine k_gR (i := 0) rfl rfl ?_
  refine k_zif (by decide) (k_zif (by decide) ?_)
  refine k_child x7_200 rfl ?_
  refine k_sR (i := 19) (j := 26) rfl rfl rfl ?_
  conv => lhs; unfold b_X10_init_68
  rw [if_neg (by decide)]
  refine k_gR (i := 0) rfl rfl ?_
  refine k_zif (by decide) (k_zif (by decide) ?_)
  refine k_child x7_200 rfl ?_
  refine k_sR (i := 19) (j := 29) rfl rfl rfl ?_
  conv => lhs; unfold b_X10_init_68
  rw [if_neg (by decide)]
  refine k_gR (i := 0) rfl rfl ?_
  refine k_zif (by decide) (k_zif (by decide) ?_)
  refine k_child x7_200 rfl ?_
  refine k_sR (i := 19) (j := 32) rfl rfl rfl ?_
  conv => lhs; unfold b_X10_init_68
  rw [if_neg (by decide)]
  refine k_gR (i := 0) rfl rfl ?_
  refine k_zif (by decide) (k_zif (by decide) ?_)
  refine k_child x7_200 rfl ?_
  refine k_sR (i := 19) (j := 35) rfl rfl rfl ?_
  conv => lhs; unfold b_X10_init_68
  rw [if_neg (by decide)]
  refine k_gR (i := 0) rfl rfl ?_
  refine k_zif (by decide) (k_zif (by decide) ?_)
  refine k_child x7_200 rfl ?_
  refine k_sR (i := 19) (j := 38) rfl rfl rfl ?_
  conv => lhs; unfold b_X10_init_68
  rw [if_neg (by decide)]
  refine k_gR (i := 0) rfl rfl ?_
  refine k_zif (by decide) (k_zif (by decide) ?_)
  refine k_child x7_200 rfl ?_
  refine k_sR (i := 19) (j := 41) rfl rfl rfl ?_
  rfl
theorem x10_init : b_X10_init_0 (b + 1) 0 0 (zh_up h b (.inr (10, [.null, .null, .null, .null, .null, .null, .null, .null, .null, .null, .null]))) b = some (b + 84, xh b si0 sq0 (fun _ _ => 0) (fun _ _ => 0) (fun _ _ => 0) h) := by
  rw [← xin_h]
  unfold b_X10_init_0
  rw [lh_1 (b := b) (h := h), show Int32.toNatClampNeg (8 : Int32) = 8 from rfl]
  refine k_zif (by decide) (k_zif (by decide) ?_)
  refine k_child x0_400 rfl ?_
  refine k_pV (i := 0) rfl rfl ?_
  refine k_zif (by decide) (k_zif (by decide) ?_)
  refine k_child x0_1500 rfl ?_
  refine k_pV (i := 0) rfl rfl ?_
  refine k_zif (by decide) (k_zif (by decide) ?_)
  refine k_child x0_1500 rfl ?_
  refine k_pV (i := 0) rfl rfl ?_
  refine k_zif (by decide) (k_zif (by decide) ?_)
  refine k_child (x1_init (b := b + 7) f8_eq) rfl ?_
  refine k_pV (i := 0) rfl rfl ?_
  refine k_zif (by decide) (k_new rfl rfl ?_)
  refine (x10_loop (n := 999991)).trans ?_
  conv => lhs; unfold b_X10_init_68
  rw [if_pos (by decide)]
  refine k_zif (by decide) (k_zif (by decide) ?_)
  refine k_child x7_1500 rfl ?_
  refine k_pV (i := 0) rfl rfl ?_
  refine k_zif (by decide) (k_zif (by decide) ?_)
  refine k_child x4_init rfl ?_
  refine k_pV (i := 0) rfl rfl ?_
  refine k_zif (by decide) (k_zif (by decide) ?_)
  refine k_child x6_init rfl ?_
  refine k_pV (i := 0) rfl rfl ?_
  refine k_zif (by decide) (k_zif (by decide) ?_)
  refine k_child x5_init rfl ?_
  refine k_pV (i := 0) rfl rfl ?_
  refine k_zif (by decide) (k_zif (by decide) ?_)
  refine k_child x2_init rfl ?_
  refine k_pV (i := 0) rfl rfl ?_
  refine k_zif (by decide) (k_zif (by decide) ?_)
  refine k_child x3_init rfl ?_
  refine k_pV (i := 0) rfl rfl ?_
  exact k_zif (by decide) rfl
def min0 (b : Nat) : List va_E := [.inr (11, [.ref (b + 1), .int 0, .ref (b + 2), .int 0, .ref (b + 3), .ref (b + 4), .int 0, .ref (b + 5), .ref (b + 6), .ref (b + 7), .int (-1), .int 0, .int 0, .int 0, .ref (b + 8), .ref (b + 9), .int 0, .long 0, .long 0, .ref (b + 10), .ref (b + 11), .int 0, .ref (b + 12), .int 0, .int 0, .ref (b + 13), .ref (b + 14), .ref (b + 15), .ref (b + 16), .ref (b + 17), .ref (b + 18), .int 0, .ref (b + 19), .ref (b + 20), .ref (b + 21), .ref (b + 22), .ref (b + 23), .ref (b + 24), .int 0, .int 0, .ref (b + 25), .ref (b + 26), .int 0, .ref (b + 27), .int 0, .ref (b + 28)]), .inl (1, 400, .inl fun _ => 0), .inl (1, 1500, .inl fun _ => 0), .inl (1, 7500, .inl fun _ => 0), .inl (1, 5, .inl fun _ => 0), .inl (2, 1600, .inr (.inl fun _ => 0)), .inl (2, 1600, .inr (.inl fun _ => 0)), .inl (1, 8, .inl fun _ => 0), .inl (2, 200, .inr (.inl fun _ => 0)), .inl (2, 200, .inr (.inl fun _ => 0)), .inl (2, 1500, .inr (.inl fun _ => 0)), .inl (2, 1500, .inr (.inl fun _ => 0)), .inl (1, 1500, .inl fun _ => 0), .inl (1, 1501, .inl fun _ => 0), .inl (1, 1501, .inl fun _ => 0), .inl (1, 1501, .inl fun _ => 0), .inl (1, 1501, .inl fun _ => 0), .inl (1, 1501, .inl fun _ => 0), .inl (1, 1501, .inl fun _ => 0), .inl (1, 1500, .inl fun _ => 0), .inl (1, 1500, .inl fun _ => 0), .inl (1, 1500, .inl fun _ => 0), .inl (1, 1500, .inl fun _ => 0), .inl (2, 200, .inr (.inl fun _ => 0)), .inl (2, 200, .inr (.inl fun _ => 0)), .inl (1, 80601, .inl fun _ => 0), .inl (1, 800, .inl fun _ => 0), .inl (1, 1501, .inl fun _ => 0), .inl (1, 1501, .inl fun _ => 0)]
theorem min_c : ∀ k, k < 29 → 0 < k → (min0 b)[k]? = mar (fun _ _ => 0) (fun _ _ => 0) k
  | 0, _, h => absurd h (by decide)
  | 1, _, _ => rfl
  | 2, _, _ => rfl
  | 3, _, _ => rfl
  | 4, _, _ => rfl
  | 5, _, _ => rfl
  | 6, _, _ => rfl
  | 7, _, _ => rfl
  | 8, _, _ => rfl
  | 9, _, _ => rfl
  | 10, _, _ => rfl
  | 11, _, _ => rfl
  | 12, _, _ => rfl
  | 13, _, _ => rfl
  | 14, _, _ => rfl
  | 15, _, _ => rfl
  | 16, _, _ => rfl
  | 17, _, _ => rfl
  | 18, _, _ => rfl
  | 19, _, _ => rfl
  | 20, _, _ => rfl
  | 21, _, _ => rfl
  | 22, _, _ => rfl
  | 23, _, _ => rfl
  | 24, _, _ => rfl
  | 25, _, _ => rfl
  | 26, _, _ => rfl
  | 27, _, _ => rfl
  | 28, _, _ => rfl
  | k + 29, hk, _ => absurd hk (by omega)
theorem min_h : lh b (min0 b) h = mh b mi0 (fun _ => 0) (fun _ _ => 0) (fun _ _ => 0) h := by
  have hlen : (min0 b).length = 29 := rfl
  funext q
  unfold lh mh
  by_cases h0 : q = b
  · subst h0
    rw [if_neg (by omega), if_pos rfl, Nat.sub_self]
    rfl
  · rw [if_neg h0]
    by_cases hq : b < q ∧ q ≤ b + 28
    · rw [if_neg (by omega), if_pos hq, ← min_c (q - b) (by omega) (by omega), List.getElem?_eq_getElem (by omega)]
    · rw [if_neg hq]
      by_cases h1 : q < b
      · rw [if_pos h1]
      · rw [if_neg h1, List.getElem?_eq_none (by omega)]
theorem m_init : b_X11_init_0 (b + 1) 0 0 (zh_up h b (.inr (11, [.null, .int 0, .null, .int 0, .null, .null, .int 0, .null, .null, .null, .int 0, .int 0, .int 0, .int 0, .null, .null, .int 0, .long 0, .long 0, .null, .null, .int 0, .null, .int 0, .int 0, .null, .null, .null, .null, .null, .null, .int 0, .null, .null, .null, .null, .null, .null, .int 0, .int 0, .null, .null, .int 0, .null, .int 0, .null]))) b = some (b + 29, mh b mi0 (fun _ => 0) (fun _ _ => 0) (fun _ _ => 0) h) := by
  rw [← min_h]
  unfold b_X11_init_0
  simp only [show Int32.toNatClampNeg (5 : Int32) = 5 from rfl, show Int32.toNatClampNeg (8 : Int32) = 8 from rfl, show Int32.toNatClampNeg (200 : Int32) = 200 from rfl, show Int32.toNatClampNeg (400 : Int32) = 400 from rfl, show Int32.toNatClampNeg (800 : Int32) = 800 from rfl, show Int32.toNatClampNeg (1500 : Int32) = 1500 from rfl, show Int32.toNatClampNeg (1501 : Int32) = 1501 from rfl, show Int32.toNatClampNeg (1600 : Int32) = 1600 from rfl, show Int32.toNatClampNeg (7500 : Int32) = 7500 from rfl, show Int32.toNatClampNeg (80601 : Int32) = 80601 from rfl]
  rw [lh_1 (b := b) (h := h)]
  refine k_zif (by decide) (k_new rfl rfl ?_)
  refine k_zif (by decide) (k_new rfl rfl ?_)
  refine k_zif (by decide) (k_new rfl rfl ?_)
  refine k_zif (by decide) (k_new rfl rfl ?_)
  refine k_zif (by decide) (k_new rfl rfl ?_)
  refine k_zif (by decide) (k_new rfl rfl ?_)
  refine k_zif (by decide) (k_new rfl rfl ?_)
  refine k_pV (i := 0) rfl rfl ?_
  refine k_zif (by decide) (k_new rfl rfl ?_)
  refine k_zif (by decide) (k_new rfl rfl ?_)
  refine k_zif (by decide) (k_new rfl rfl ?_)
  refine k_zif (by decide) (k_new rfl rfl ?_)
  refine k_zif (by decide) (k_new rfl rfl ?_)
  refine k_zif (by decide) (k_new rfl rfl ?_)
  refine k_zif (by decide) (k_new rfl rfl ?_)
  refine k_zif (by decide) (k_new rfl rfl ?_)
  refine k_zif (by decide) (k_new rfl rfl ?_)
  refine k_zif (by decide) (k_new rfl rfl ?_)
  refine k_zif (by decide) (k_new rfl rfl ?_)
  refine k_zif (by decide) (k_new rfl rfl ?_)
  refine k_zif (by decide) (k_new rfl rfl ?_)
  refine k_zif (by decide) (k_new rfl rfl ?_)
  refine k_zif (by decide) (k_new rfl rfl ?_)
  refine k_zif (by decide) (k_new rfl rfl ?_)
  refine k_zif (by decide) (k_new rfl rfl ?_)
  refine k_zif (by decide) (k_new rfl rfl ?_)
  refine k_zif (by decide) (k_new rfl rfl ?_)
  refine k_zif (by decide) (k_new rfl rfl ?_)
  refine k_zif (by decide) (k_new rfl rfl ?_)
  exact k_zif (by decide) rfl
theorem rel_0 : Rel si0 sq0 (fun _ _ => 0) (fun _ _ => 0) mi0 (fun _ _ => 0) (fun _ _ => 0) := by
  have no : ∀ {P : Nat → Prop} (j : Nat), j < 0 → P j := fun j h => absurd h (Nat.not_lt_zero _)
  refine ⟨⟨0, by decide, rfl, rfl, no⟩, ⟨0, by decide, rfl, rfl, no⟩, ⟨0, 0, by decide, by decide, rfl, rfl, rfl, no⟩, fun p hp => ⟨0, by decide, ?_, rfl, no⟩, rfl, ⟨0, by decide, rfl, rfl, no⟩, ⟨0, 0, 0, false, by decide, by decide, by decide, rfl, rfl, rfl, rfl, rfl, no, no, ⟨rfl, rfl, no⟩, Or.inl rfl⟩, ⟨⟨57, 58, 59, rfl, rfl, rfl, by unfold isInt; omega, by unfold isInt; omega, by unfold isInt; omega, by decide, by decide, by decide⟩, 10, by decide, rfl⟩, ⟨66, 67, 68, rfl, rfl, rfl, by unfold isInt; omega, by unfold isInt; omega, by unfold isInt; omega, by decide, by decide, by decide⟩⟩
  have : p = 0 ∨ p = 1 ∨ p = 2 ∨ p = 3 ∨ p = 4 ∨ p = 5 ∨ p = 6 ∨ p = 7 := by omega
  rcases this with rfl | rfl | rfl | rfl | rfl | rfl | rfl | rfl <;> rfl
end IN
