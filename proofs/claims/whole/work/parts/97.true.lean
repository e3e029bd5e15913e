/-! THE LAW IS TRUE OF EVERY SCRIPT -/
theorem law_true {L : Nat} (hL : L ≤ 3584) (xs : Nat → Int32) (N : Nat) : b_L_law_0 L xs N 0 0 (fun _ => none) = some 1 := by
  unfold b_L_law_0
  refine k_zif (by decide) (k_zif (by decide) ?_)
  rw [x10_init, zbp_some]
  refine k_zif (by decide) (k_zif (by decide) ?_)
  rw [show N + 84 + 1 = (N + 84) + 1 from rfl, m_init, zbp_some]
  exact law_loop (x := N) (y := N + 84) hL rfl (by decide) zFuel 0 si0 sq0 (fun _ _ => 0) (fun _ _ => 0) (fun _ _ => 0) mi0 (fun _ => 0) (fun _ _ => 0) (fun _ _ => 0) rel_0 (by decide) (zF_lt (by decide))
