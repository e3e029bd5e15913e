/-! THE CLASS, NEW -/
section XI
variable {b : Nat} {h : zh_H}
theorem x0_init {n : Nat} {v : Int32} (hv : (zmax v 0).toNatClampNeg = n) (h0 : ¬ zmax v 0 < 0) (hn : n ≤ 1500) : b_X0_init_0 (b + 1) 0 0 (zh_up h b (.inr (0, [.null, .int 0]))) b v = some (b + 2, lh b [.inr (0, [.ref (b + 1), .int 0]), .inl (0, n, .inl fun _ => 0)] h) := by
  unfold b_X0_init_0
  rw [hv, lh_1 (b := b) (h := h)]
  refine k_zif (by decide) (k_zif ⟨⟨h0, by omega⟩, by decide, by omega⟩ ?_)
  refine k_new rfl rfl ?_
  exact k_zif ⟨by decide, by omega⟩ rfl
theorem x7_init {n : Nat} {v : Int32} (hv : (zmax v 0).toNatClampNeg = n) (h0 : ¬ zmax v 0 < 0) (hn : n ≤ 1500) : b_X7_init_0 (b + 1) 0 0 (zh_up h b (.inr (7, [.null, .null, .int 0]))) b v = some (b + 3, lh b [.inr (7, [.ref (b + 1), .ref (b + 2), .int 0]), .inl (2, n, .inr (.inl fun _ => 0)), .inl (2, n, .inr (.inl fun _ => 0))] h) := by
  unfold b_X7_init_0
  rw [hv, lh_1 (b := b) (h := h)]
  refine k_zif (by decide) (k_zif ⟨⟨h0, by omega⟩, by decide, by omega⟩ ?_)
  refine k_new rfl rfl ?_
  refine k_zif ⟨by decide, by omega⟩ (k_zif ⟨⟨h0, by omega⟩, by decide, by omega⟩ ?_)
  refine k_new rfl rfl ?_
  exact k_zif ⟨by decide, by omega⟩ rfl
theorem x0_400 : b_X0_init_0 (b + 1) 0 0 (zh_up h b (.inr (0, [.null, .int 0]))) b 400 = some (b + 2, lh b [.inr (0, [.ref (b + 1), .int 0]), .inl (0, 400, .inl fun _ => 0)] h) := x0_init (by decide) (by decide) (by decide)
theorem x0_1500 : b_X0_init_0 (b + 1) 0 0 (zh_up h b (.inr (0, [.null, .int 0]))) b 1500 = some (b + 2, lh b [.inr (0, [.ref (b + 1), .int 0]), .inl (0, 1500, .inl fun _ => 0)] h) := x0_init (by decide) (by decide) (by decide)
theorem x0_0 : b_X0_init_0 (b + 1) 0 0 (zh_up h b (.inr (0, [.null, .int 0]))) b 0 = some (b + 2, lh b [.inr (0, [.ref (b + 1), .int 0]), .inl (0, 0, .inl fun _ => 0)] h) := x0_init (by decide) (by decide) (by decide)
theorem x7_200 : b_X7_init_0 (b + 1) 0 0 (zh_up h b (.inr (7, [.null, .null, .int 0]))) b 200 = some (b + 3, lh b [.inr (7, [.ref (b + 1), .ref (b + 2), .int 0]), .inl (2, 200, .inr (.inl fun _ => 0)), .inl (2, 200, .inr (.inl fun _ => 0))] h) := x7_init (by decide) (by decide) (by decide)
theorem x7_1500 : b_X7_init_0 (b + 1) 0 0 (zh_up h b (.inr (7, [.null, .null, .int 0]))) b 1500 = some (b + 3, lh b [.inr (7, [.ref (b + 1), .ref (b + 2), .int 0]), .inl (2, 1500, .inr (.inl fun _ => 0)), .inl (2, 1500, .inr (.inl fun _ => 0))] h) := x7_init (by decide) (by decide) (by decide)
theorem x7_0 : b_X7_init_0 (b + 1) 0 0 (zh_up h b (.inr (7, [.null, .null, .int 0]))) b 0 = some (b + 3, lh b [.inr (7, [.ref (b + 1), .ref (b + 2), .int 0]), .inl (2, 0, .inr (.inl fun _ => 0)), .inl (2, 0, .inr (.inl fun _ => 0))] h) := x7_init (by decide) (by decide) (by decide)
theorem x1_loop {n : Nat} {f : Nat → Option Nat} (hf : va_up (va_up (va_up (va_up (va_up (fun _ => none) 0 (some (b + 2))) 1 (some (b + 4))) 2 (some (b + 6))) 3 (some (b + 8))) 4 (some (b + 10)) = f) : b_X1_init_14 (n + 6) (b + 2) 1 5 (lh b [.inr (1, [.ref (b + 1), .int 0, .int 0]), .inl (3, 5, .inr (.inr (.inr (.inr fun _ => none))))] h) b 0 = some (b + 12, lh b [.inr (1, [.ref (b + 1), .int 0, .int 0]), .inl (3, 5, .inr (.inr (.inr (.inr f)))), .inr (0, [.ref (b + 3), .int 0]), .inl (0, 1500, .inl fun _ => 0), .inr (0, [.ref (b + 5), .int 0]), .inl (0, 1500, .inl fun _ => 0), .inr (0, [.ref (b + 7), .int 0]), .inl (0, 1500, .inl fun _ => 0), .inr (0, [.ref (b + 9), .int 0]), .inl (0, 1500, .inl fun _ => 0), .inr (0, [.ref (b + 11), .int 0]), .inl (0, 1500, .inl fun _ => 0)] h) := by
  conv => lhs; unfold b_X1_init_14
  rw [if_neg (by decide)]
  refine k_gR (i := 0) rfl rfl ?_
  refine k_zif (by decide) (k_zif (by decide) ?_)
  refine k_child x0_1500 rfl ?_
  refine k_sR (i := 1) (j := 2) rfl rfl rfl ?_
  conv => lhs; unfold b_X1_init_14
  rw [if_neg (by decide)]
  refine k_gR (i := 0) rfl rfl ?_
  refine k_zif (by decide) (k_zif (by decide) ?_)
  refine k_child x0_1500 rfl ?_
  refine k_sR (i := 1) (j := 4) rfl rfl rfl ?_
  conv => lhs; unfold b_X1_init_14
  rw [if_neg (by decide)]
  refine k_gR (i := 0) rfl rfl ?_
  refine k_zif (by decide) (k_zif (by decide) ?_)
  refine k_child x0_1500 rfl ?_
  refine k_sR (i := 1) (j := 6) rfl rfl rfl ?_
  conv => lhs; unfold b_X1_init_14
  rw [if_neg (by decide)]
  refine k_gR (i := 0) rfl rfl ?_
  refine k_zif (by decide) (k_zif (by decide) ?_)
  refine k_child x0_1500 rfl ?_
  refine k_sR (i := 1) (j := 8) rfl rfl rfl ?_
  conv => lhs; unfold b_X1_init_14
  rw [if_neg (by decide)]
  refine k_gR (i := 0) rfl rfl ?_
  refine k_zif (by decide) (k_zif (by decide) ?_)
  refine k_child x0_1500 rfl ?_
  refine k_sR (i := 1) (j := 10) rfl rfl rfl ?_
  conv => lhs; unfold b_X1_init_14
  rw [if_pos (by decide)]
  refine k_zif (by decide) ?_
  rw [← hf]
  rfl
theorem x1_init {f : Nat → Option Nat} (hf : va_up (va_up (va_up (va_up (va_up (fun _ => none) 0 (some (b + 2))) 1 (some (b + 4))) 2 (some (b + 6))) 3 (some (b + 8))) 4 (some (b + 10)) = f) : b_X1_init_0 (b + 1) 0 0 (zh_up h b (.inr (1, [.null, .int 0, .int 0]))) b = some (b + 12, lh b [.inr (1, [.ref (b + 1), .int 0, .int 0]), .inl (3, 5, .inr (.inr (.inr (.inr f)))), .inr (0, [.ref (b + 3), .int 0]), .inl (0, 1500, .inl fun _ => 0), .inr (0, [.ref (b + 5), .int 0]), .inl (0, 1500, .inl fun _ => 0), .inr (0, [.ref (b + 7), .int 0]), .inl (0, 1500, .inl fun _ => 0), .inr (0, [.ref (b + 9), .int 0]), .inl (0, 1500, .inl fun _ => 0), .inr (0, [.ref (b + 11), .int 0]), .inl (0, 1500, .inl fun _ => 0)] h) := by
  unfold b_X1_init_0
  rw [lh_1 (b := b) (h := h), show Int32.toNatClampNeg (5 : Int32) = 5 from rfl]
  refine k_zif (by decide) ?_
  refine k_new rfl rfl ?_
  exact x1_loop (n := 999994) hf
theorem x4_init : b_X4_init_0 (b + 1) 0 0 (zh_up h b (.inr (4, [.null, .int 0, .long 0, .long 0, .null, .int 0, .int 0]))) b = some (b + 6, lh b [.inr (4, [.ref (b + 1), .int 0, .long 0, .long 0, .ref (b + 3), .int 0, .int (-1)]), .inr (0, [.ref (b + 2), .int 0]), .inl (0, 0, .inl fun _ => 0), .inr (7, [.ref (b + 4), .ref (b + 5), .int 0]), .inl (2, 200, .inr (.inl fun _ => 0)), .inl (2, 200, .inr (.inl fun _ => 0))] h) := by
  unfold b_X4_init_0
  rw [lh_1 (b := b) (h := h)]
  refine k_zif (by decide) (k_zif (by decide) ?_)
  refine k_child x0_0 rfl ?_
  refine k_pV (i := 0) rfl rfl ?_
  refine k_zif (by decide) (k_zif (by decide) ?_)
  refine k_child x7_200 rfl ?_
  refine k_pV (i := 0) rfl rfl ?_
  refine k_pV (i := 0) rfl rfl ?_
  exact k_zif (by decide) rfl
theorem x6_init : b_X6_init_0 (b + 1) 0 0 (zh_up h b (.inr (6, [.null, .int 0, .int 0, .int 0, .null, .null, .null, .int 0, .int 0, .int 0, .int 0]))) b = some (b + 7, lh b [.inr (6, [.ref (b + 1), .int 0, .int 0, .int 0, .ref (b + 4), .ref (b + 5), .ref (b + 6), .int 0, .int 0, .int 0, .int 10]), .inr (7, [.ref (b + 2), .ref (b + 3), .int 0]), .inl (2, 0, .inr (.inl fun _ => 0)), .inl (2, 0, .inr (.inl fun _ => 0)), .inl (1, 201, .inl fun _ => 0), .inl (1, 201, .inl fun _ => 0), .inl (1, 201, .inl fun _ => 0)] h) := by
  unfold b_X6_init_0
  rw [lh_1 (b := b) (h := h), show Int32.toNatClampNeg (201 : Int32) = 201 from rfl]
  refine k_zif (by decide) (k_zif (by decide) ?_)
  refine k_child x7_0 rfl ?_
  refine k_pV (i := 0) rfl rfl ?_
  refine k_zif (by decide) (k_new rfl rfl ?_)
  refine k_zif (by decide) (k_new rfl rfl ?_)
  refine k_zif (by decide) (k_new rfl rfl ?_)
  refine k_pV (i := 0) rfl rfl ?_
  exact k_zif (by decide) rfl
theorem x8_init : b_X8_init_0 (b + 1) 0 0 (zh_up h b (.inr (8, [.null, .int 0, .int 0]))) b = some (b + 2, lh b [.inr (8, [.ref (b + 1), .int 0, .int 0]), .inl (2, 5038, .inr (.inl fun _ => 0))] h) := by
  unfold b_X8_init_0
  rw [lh_1 (b := b) (h := h), show Int32.toNatClampNeg (5038 : Int32) = 5038 from rfl]
  refine k_zif (by decide) (k_new rfl rfl ?_)
  exact k_zif (by decide) rfl
theorem x5_init : b_X5_init_0 (b + 1) 0 0 (zh_up h b (.inr (5, [.null, .null, .int 0, .int 0, .int 0, .int 0, .int 0, .null, .null, .null, .int 0, .int 0, .null, .null, .int 0, .null]))) b = some (b + 11, lh b [.inr (5, [.ref (b + 1), .ref (b + 4), .int 0, .int 0, .int 0, .int 0, .int 0, .ref (b + 6), .ref (b + 7), .ref (b + 8), .int 10, .int 10, .ref (b + 2), .ref (b + 2), .int 0, .ref (b + 9)]), .inr (7, [.ref (b + 2), .ref (b + 3), .int 0]), .inl (2, 0, .inr (.inl fun _ => 0)), .inl (2, 0, .inr (.inl fun _ => 0)), .inr (0, [.ref (b + 5), .int 0]), .inl (0, 0, .inl fun _ => 0), .inl (1, 1501, .inl fun _ => 0), .inl (1, 1501, .inl fun _ => 0), .inl (1, 1501, .inl fun _ => 0), .inr (8, [.ref (b + 10), .int 0, .int 0]), .inl (2, 5038, .inr (.inl fun _ => 0))] h) := by
  unfold b_X5_init_0
  rw [lh_1 (b := b) (h := h), show Int32.toNatClampNeg (1501 : Int32) = 1501 from rfl]
  refine k_zif (by decide) (k_zif (by decide) ?_)
  refine k_child x7_0 rfl ?_
  refine k_pV (i := 0) rfl rfl ?_
  refine k_zif (by decide) (k_zif (by decide) ?_)
  refine k_child x0_0 rfl ?_
  refine k_pV (i := 0) rfl rfl ?_
  refine k_zif (by decide) (k_new rfl rfl ?_)
  refine k_zif (by decide) (k_new rfl rfl ?_)
  refine k_zif (by decide) (k_new rfl rfl ?_)
  refine k_pV (i := 0) rfl rfl ?_
  refine k_pV (i := 0) rfl rfl ?_
  refine k_gR (i := 0) rfl rfl ?_
  refine k_gR (i := 1) rfl rfl ?_
  refine k_pV (i := 0) rfl rfl ?_
  refine k_gR (i := 0) rfl rfl ?_
  refine k_gR (i := 1) rfl rfl ?_
  refine k_pV (i := 0) rfl rfl ?_
  refine k_zif (by decide) (k_zif (by decide) ?_)
  refine k_child x8_init rfl ?_
  refine k_pV (i := 0) rfl rfl ?_
  exact k_zif (by decide) rfl
theorem x9_init : b_X9_init_0 (b + 1) 0 0 (zh_up h b (.inr (9, [.null, .int 0]))) b = some (b + 2, lh b [.inr (9, [.ref (b + 1), .int 0]), .inl (0, 400, .inl fun _ => 0)] h) := by
  unfold b_X9_init_0
  rw [lh_1 (b := b) (h := h), show Int32.toNatClampNeg (400 : Int32) = 400 from rfl]
  refine k_zif (by decide) (k_new rfl rfl ?_)
  exact k_zif (by decide) rfl
theorem x2_init : b_X2_init_0 (b + 1) 0 0 (zh_up h b (.inr (2, [.null, .null, .int 0, .int 0, .null, .null, .null, .null, .int 0]))) b = some (b + 11, lh b [.inr (2, [.ref (b + 1), .ref (b + 3), .int 0, .int (-1), .ref (b + 6), .ref (b + 8), .ref (b + 9), .ref (b + 10), .int 0]), .inr (0, [.ref (b + 2), .int 0]), .inl (0, 1500, .inl fun _ => 0), .inr (7, [.ref (b + 4), .ref (b + 5), .int 0]), .inl (2, 200, .inr (.inl fun _ => 0)), .inl (2, 200, .inr (.inl fun _ => 0)), .inr (9, [.ref (b + 7), .int 0]), .inl (0, 400, .inl fun _ => 0), .inl (1, 1500, .inl fun _ => 0), .inl (1, 1500, .inl fun _ => 0), .inl (1, 1500, .inl fun _ => 0)] h) := by
  unfold b_X2_init_0
  rw [lh_1 (b := b) (h := h), show Int32.toNatClampNeg (1500 : Int32) = 1500 from rfl]
  refine k_zif (by decide) (k_zif (by decide) ?_)
  refine k_child x0_1500 rfl ?_
  refine k_pV (i := 0) rfl rfl ?_
  refine k_zif (by decide) (k_zif (by decide) ?_)
  refine k_child x7_200 rfl ?_
  refine k_pV (i := 0) rfl rfl ?_
  refine k_pV (i := 0) rfl rfl ?_
  refine k_zif (by decide) (k_zif (by decide) ?_)
  refine k_child x9_init rfl ?_
  refine k_pV (i := 0) rfl rfl ?_
  refine k_zif (by decide) (k_new rfl rfl ?_)
  refine k_zif (by decide) (k_new rfl rfl ?_)
  refine k_zif (by decide) (k_new rfl rfl ?_)
  exact k_zif (by decide) rfl
theorem x3_init : b_X3_init_0 (b + 1) 0 0 (zh_up h b (.inr (3, [.null, .int 0]))) b = some (b + 2, lh b [.inr (3, [.ref (b + 1), .int 0]), .inl (1, 751, .inl fun _ => 0)] h) := by
  unfold b_X3_init_0
  rw [lh_1 (b := b) (h := h), show Int32.toNatClampNeg (751 : Int32) = 751 from rfl]
  refine k_zif (by decide) (k_new rfl rfl ?_)
  exact k_zif (by decide) rfl
end XI
