section G_X10_isEdits
variable {p : Program} {l : Launch} {e : Env} {s : State} {m : MethodId} {args : Array Value} {below : List Frame} {meth : Method} {c : Code} {D : va_G} {K : Nat → ClassId} {b0 N : Nat}
set_option maxRecDepth 100000 in
set_option maxHeartbeats 4000000 in
theorem w_X10_isEdits_16 {res : (Int32 × zh_H)} (hB : zc_B p s m args meth c cX10_isEdits 1 RX10 (some .boolean) D K) : ∀ (H : Heap) (locs : List Loc) (ls : Array Slot) (h : zh_H) (y0 : Int32), zh_G D K b0 N h s.heap H locs → lv_has ls 1 [] → b_X10_isEdits_16 h y0 = some res → W p l e (zc_rm 0 0 0) s m args below meth c H locs 0 0 (MQ below (zc_Q D K b0 (zq (some (.int res.1)) N res.2)) args s 0 0 (fun q => b0 ≤ q)) (F0 m 16 ls [.int y0]) := by
  have hx := hB.1
  have hb := hB.2.1
  intro H locs ls h y0 hG hl hf
  unfold b_X10_isEdits_16 at hf
  obtain ⟨hz, hf⟩ := zif_s hf
  obtain rfl := Option.some.inj hf
  exact zr_zret hB hG hz ⟨rfl, rfl, rfl⟩ dX10_isEdits_16

set_option maxRecDepth 100000 in
set_option maxHeartbeats 4000000 in
theorem w_X10_isEdits_15 {res : (Int32 × zh_H)} (hB : zc_B p s m args meth c cX10_isEdits 1 RX10 (some .boolean) D K) : ∀ (H : Heap) (locs : List Loc) (ls : Array Slot) (h : zh_H), zh_G D K b0 N h s.heap H locs → lv_has ls 1 [] → b_X10_isEdits_15 h  = some res → W p l e (zc_rm 0 0 0) s m args below meth c H locs 0 0 (MQ below (zc_Q D K b0 (zq (some (.int res.1)) N res.2)) args s 0 0 (fun q => b0 ≤ q)) (F0 m 15 ls []) := by
  have hx := hB.1
  have hb := hB.2.1
  intro H locs ls h  hG hl hf
  unfold b_X10_isEdits_15 at hf
  refine lv_iconst (v := 0) hx hb dX10_isEdits_15 (by decide) ?_
  exact w_X10_isEdits_16 hB _ _ _ h ((0 : Int32)) hG (lv_sub hl [] rfl) hf

set_option maxRecDepth 100000 in
set_option maxHeartbeats 4000000 in
theorem w_X10_isEdits_0 {res : (Int32 × zh_H)} (hB : zc_B p s m args meth c cX10_isEdits 1 RX10 (some .boolean) D K) : ∀ (H : Heap) (locs : List Loc) (ls : Array Slot) (h : zh_H) (x0 : Int32), zh_G D K b0 N h s.heap H locs → lv_has ls 1 [(0, .int x0)] → b_X10_isEdits_0 h x0 = some res → W p l e (zc_rm 0 0 0) s m args below meth c H locs 0 0 (MQ below (zc_Q D K b0 (zq (some (.int res.1)) N res.2)) args s 0 0 (fun q => b0 ≤ q)) (F0 m 0 ls []) := by
  have hx := hB.1
  have hb := hB.2.1
  intro H locs ls h x0 hG hl hf
  unfold b_X10_isEdits_0 at hf
  refine lv_iload_n hx hb dX10_isEdits_0 rfl (lv_at hl 0 rfl) ?_
  refine lv_if_lt (tgt := 15) hx hb dX10_isEdits_1 (by decide) (fun hc2 => ?_) (fun hc2 => ?_)
  · rw [if_pos hc2] at hf
    exact w_X10_isEdits_15 hB _ _ _ h  hG (lv_sub hl [] rfl) hf
  · rw [if_neg hc2] at hf
    refine lv_iload_n hx hb dX10_isEdits_4 rfl (lv_at hl 0 rfl) ?_
    refine lv_sipush (v := 200) hx hb dX10_isEdits_5 (by decide) ?_
    refine lv_icmp_gt (tgt := 15) hx hb dX10_isEdits_8 (by decide) (fun hc1 => ?_) (fun hc1 => ?_)
    · rw [if_pos hc1] at hf
      exact w_X10_isEdits_15 hB _ _ _ h  hG (lv_sub hl [] rfl) hf
    · rw [if_neg hc1] at hf
      refine lv_iconst (v := 1) hx hb dX10_isEdits_11 (by decide) ?_
      refine lv_goto (tgt := 16) hx hb dX10_isEdits_12 (by decide) ?_
      exact w_X10_isEdits_16 hB _ _ _ h ((1 : Int32)) hG (lv_sub hl [] rfl) hf
end G_X10_isEdits
theorem c_X10_isEdits {l : Launch} {D : va_G} {K : Nat → ClassId} {b0 N : Nat} {h : zh_H} {x0 : Int32} {r : Int32} {h2 : zh_H} (hf : b_X10_isEdits_0 h x0 = some (r, h2)) : zc l yX10_isEdits cX10_isEdits 1 (some .boolean) 0 0 0 D K b0 N h [.int x0] (zq (some (.int r)) N h2) := by
  refine zc.of [(0, .int x0)] (by decide) rfl (Nat.le_of_ble_eq_true rfl) ?_
  intro p e s m args below meth c hB hnm hG ls hl
  exact w_X10_isEdits_0 (res := (r, h2)) hB _ _ ls h x0 hG (lv_sub hl [0] rfl) hf

section G_X7_copyFrom
variable {p : Program} {l : Launch} {e : Env} {s : State} {m : MethodId} {args : Array Value} {below : List Frame} {meth : Method} {c : Code} {D : va_G} {K : Nat → ClassId} {b0 N : Nat}
set_option maxRecDepth 100000 in
set_option maxHeartbeats 4000000 in
theorem w_X7_copyFrom_6 {res : zh_H} (hB : zc_B p s m args meth c cX7_copyFrom 3 RX7 none D K) : ∀ n : Nat, ∀ (H : Heap) (locs : List Loc) (ls : Array Slot) (h : zh_H) (x0 : Nat) (x1 : Nat) (x2 : Int32), zh_G D K b0 N h s.heap H locs → lv_has ls 3 [(0, .ref x0), (1, .ref x1), (2, .int x2)] → b_X7_copyFrom_6 n h x0 x1 x2 = some res → W p l e (zc_rm 1 0 0) s m args below meth c H locs 0 0 (MQ below (zc_Q D K b0 (zq none N res)) args s 0 0 (fun q => b0 ≤ q)) (F0 m 6 ls []) := by
  have hx := hB.1
  have hb := hB.2.1
  intro n
  induction n with
  | zero =>
    intro H locs ls h x0 x1 x2 hG hl hf
    cases hf
  | succ n ih =>
    intro H locs ls h x0 x1 x2 hG hl hf
    unfold b_X7_copyFrom_6 at hf
    refine lv_iload_n hx hb dX7_copyFrom_6 rfl (lv_at hl 2 rfl) ?_
    refine lv_aload_n hx hb dX7_copyFrom_7 rfl (lv_at hl 1 rfl) ?_
    obtain ⟨v1, ev1, hf⟩ := zb hf
    refine zr_getI hB hG zF_7 (by decide) kf_X7_22 ev1 dX7_copyFrom_8 ?_
    refine lv_icmp_ge (tgt := 36) hx hb dX7_copyFrom_11 (by decide) (fun hc8 => ?_) (fun hc8 => ?_)
    · rw [if_pos hc8] at hf
      obtain rfl := Option.some.inj hf
      exact zr_vret hB hG ⟨rfl, rfl, rfl⟩ dX7_copyFrom_36
    · rw [if_neg hc8] at hf
      refine lv_aload_n hx hb dX7_copyFrom_14 rfl (lv_at hl 0 rfl) ?_
      refine lv_aload_n hx hb dX7_copyFrom_15 rfl (lv_at hl 1 rfl) ?_
      obtain ⟨a2, ea2, hf⟩ := zb hf
      refine zr_getR hB hG zF_7 (by decide) kf_X7_13 ea2 dX7_copyFrom_16 ?_
      refine lv_iload_n hx hb dX7_copyFrom_19 rfl (lv_at hl 2 rfl) ?_
      obtain ⟨u3, eu3, hf⟩ := zb hf
      refine zr_lald hB hG eu3 dX7_copyFrom_20 ?_
      refine lv_aload_n hx hb dX7_copyFrom_21 rfl (lv_at hl 1 rfl) ?_
      obtain ⟨a4, ea4, hf⟩ := zb hf
      refine zr_getR hB hG zF_7 (by decide) kf_X7_19 ea4 dX7_copyFrom_22 ?_
      refine lv_iload_n hx hb dX7_copyFrom_25 rfl (lv_at hl 2 rfl) ?_
      obtain ⟨u5, eu5, hf⟩ := zb hf
      refine zr_lald hB hG eu5 dX7_copyFrom_26 ?_
      obtain ⟨o6, eo6, hf⟩ := zb hf
      obtain ⟨h7, eh7, hf⟩ := zb hf
      refine zr_callVv (As := [.long u3, .long u5]) kc_X7_33 hB hG (c_X7_add eh7) eo6 rfl hl.1 rfl ⟨by decide, by decide⟩ (Nat.le_of_ble_eq_true rfl) ⟨by decide, by decide⟩ dX7_copyFrom_27 (fun H locs hG => ?_)
      refine lv_iinc (v := (x2 + (1 : Int32))) (lv' := [(2, .int (x2 + (1 : Int32))), (0, .ref x0), (1, .ref x1)]) hx hb dX7_copyFrom_30 hl (k := 2) rfl rfl (by decide) rfl (fun ls hl => ?_)
      refine lv_goto (tgt := 6) hx hb dX7_copyFrom_33 (by decide) ?_
      exact ih _ _ _ h7 (x0) (x1) ((x2 + (1 : Int32))) hG (lv_sub hl [1, 2, 0] rfl) hf

set_option maxRecDepth 100000 in
set_option maxHeartbeats 4000000 in
theorem w_X7_copyFrom_0 {res : zh_H} (hB : zc_B p s m args meth c cX7_copyFrom 3 RX7 none D K) : ∀ (H : Heap) (locs : List Loc) (ls : Array Slot) (h : zh_H) (x0 : Nat) (x1 : Nat), zh_G D K b0 N h s.heap H locs → lv_has ls 3 [(0, .ref x0), (1, .ref x1)] → b_X7_copyFrom_0 h x0 x1 = some res → W p l e (zc_rm 1 0 0) s m args below meth c H locs 0 0 (MQ below (zc_Q D K b0 (zq none N res)) args s 0 0 (fun q => b0 ≤ q)) (F0 m 0 ls []) := by
  have hx := hB.1
  have hb := hB.2.1
  intro H locs ls h x0 x1 hG hl hf
  unfold b_X7_copyFrom_0 at hf
  refine lv_aload_n hx hb dX7_copyFrom_0 rfl (lv_at hl 0 rfl) ?_
  obtain ⟨o1, eo1, hf⟩ := zb hf
  obtain ⟨h2, eh2, hf⟩ := zb hf
  refine zr_callVv (As := []) kc_X7_30 hB hG (c_X7_clear eh2) eo1 rfl hl.1 rfl ⟨by decide, by decide⟩ (Nat.le_of_ble_eq_true rfl) ⟨by decide, by decide⟩ dX7_copyFrom_1 (fun H locs hG => ?_)
  refine lv_iconst (v := 0) hx hb dX7_copyFrom_4 (by decide) ?_
  refine lv_istore_n (lv' := [(2, .int (0 : Int32)), (0, .ref x0), (1, .ref x1)]) hx hb dX7_copyFrom_5 rfl hl (by decide) rfl (fun ls hl => ?_)
  exact w_X7_copyFrom_6 hB zFuel _ _ _ h2 (x0) (x1) ((0 : Int32)) hG (lv_sub hl [1, 2, 0] rfl) hf
end G_X7_copyFrom
theorem c_X7_copyFrom {l : Launch} {D : va_G} {K : Nat → ClassId} {b0 N : Nat} {h : zh_H} {x0 : Nat} {x1 : Nat} {h2 : zh_H} (hf : b_X7_copyFrom_0 h x0 x1 = some h2) : zc l yX7_copyFrom cX7_copyFrom 3 none 1 0 0 D K b0 N h [.ref x0, .ref x1] (zq none N h2) := by
  refine zc.of [(0, .ref x0), (1, .ref x1)] (by decide) rfl (Nat.le_of_ble_eq_true rfl) ?_
  intro p e s m args below meth c hB hnm hG ls hl
  exact w_X7_copyFrom_0 (res := h2) hB _ _ ls h x0 x1 hG (lv_sub hl [0, 1] rfl) hf

section G_X2_reset
variable {p : Program} {l : Launch} {e : Env} {s : State} {m : MethodId} {args : Array Value} {below : List Frame} {meth : Method} {c : Code} {D : va_G} {K : Nat → ClassId} {b0 N : Nat}
set_option maxRecDepth 100000 in
set_option maxHeartbeats 4000000 in
theorem w_X2_reset_0 {res : zh_H} (hB : zc_B p s m args meth c cX2_reset 4 RX2 none D K) : ∀ (H : Heap) (locs : List Loc) (ls : Array Slot) (h : zh_H) (x0 : Nat) (x1 : Nat) (x2 : Nat) (x3 : Int32), zh_G D K b0 N h s.heap H locs → lv_has ls 4 [(0, .ref x0), (1, .ref x1), (2, .ref x2), (3, .int x3)] → b_X2_reset_0 h x0 x1 x2 x3 = some res → W p l e (zc_rm 3 0 0) s m args below meth c H locs 0 0 (MQ below (zc_Q D K b0 (zq none N res)) args s 0 0 (fun q => b0 ≤ q)) (F0 m 0 ls []) := by
  have hx := hB.1
  have hb := hB.2.1
  intro H locs ls h x0 x1 x2 x3 hG hl hf
  unfold b_X2_reset_0 at hf
  refine lv_aload_n hx hb dX2_reset_0 rfl (lv_at hl 0 rfl) ?_
  obtain ⟨a1, ea1, hf⟩ := zb hf
  refine zr_getR hB hG zF_2 (by decide) kf_X2_23 ea1 dX2_reset_1 ?_
  refine lv_aload_n hx hb dX2_reset_4 rfl (lv_at hl 1 rfl) ?_
  obtain ⟨o2, eo2, hf⟩ := zb hf
  obtain ⟨h3, eh3, hf⟩ := zb hf
  refine zr_callVv (As := [.ref x1]) kc_X2_48 hB hG (c_X7_copyFrom eh3) eo2 rfl hl.1 rfl ⟨by decide, by decide⟩ (Nat.le_of_ble_eq_true rfl) ⟨by decide, by decide⟩ dX2_reset_5 (fun H locs hG => ?_)
  refine lv_aload_n hx hb dX2_reset_8 rfl (lv_at hl 0 rfl) ?_
  obtain ⟨a4, ea4, hf⟩ := zb hf
  refine zr_getR hB hG zF_2 (by decide) kf_X2_14 ea4 dX2_reset_9 ?_
  refine lv_aload_n hx hb dX2_reset_12 rfl (lv_at hl 2 rfl) ?_
  obtain ⟨o5, eo5, hf⟩ := zb hf
  obtain ⟨h6, eh6, hf⟩ := zb hf
  refine zr_callVv (As := [.ref x2]) kc_X2_52 hB hG (c_X0_copyFrom eh6) eo5 rfl hl.1 rfl ⟨by decide, by decide⟩ (Nat.le_of_ble_eq_true rfl) ⟨by decide, by decide⟩ dX2_reset_13 (fun H locs hG => ?_)
  refine lv_aload_n hx hb dX2_reset_16 rfl (lv_at hl 0 rfl) ?_
  refine lv_iload_n hx hb dX2_reset_17 rfl (lv_at hl 3 rfl) ?_
  obtain ⟨h7, eh7, hf⟩ := zb hf
  refine zr_putZ hB hG zF_2 (by decide) kf_X2_55 rfl rfl eh7 dX2_reset_18 (fun H locs hG => ?_)
  refine lv_aload_n hx hb dX2_reset_21 rfl (lv_at hl 0 rfl) ?_
  refine lv_iconst (v := -1) hx hb dX2_reset_22 (by decide) ?_
  obtain ⟨h8, eh8, hf⟩ := zb hf
  refine zr_put hB hG zF_2 (by decide) kf_X2_27 rfl rfl rfl eh8 dX2_reset_23 (fun H locs hG => ?_)
  refine lv_aload_n hx hb dX2_reset_26 rfl (lv_at hl 0 rfl) ?_
  refine lv_iconst (v := 0) hx hb dX2_reset_27 (by decide) ?_
  obtain ⟨h9, eh9, hf⟩ := zb hf
  refine zr_put hB hG zF_2 (by decide) kf_X2_59 rfl rfl rfl eh9 dX2_reset_28 (fun H locs hG => ?_)
  obtain rfl := Option.some.inj hf
  exact zr_vret hB hG ⟨rfl, rfl, rfl⟩ dX2_reset_31
end G_X2_reset
theorem c_X2_reset {l : Launch} {D : va_G} {K : Nat → ClassId} {b0 N : Nat} {h : zh_H} {x0 : Nat} {x1 : Nat} {x2 : Nat} {x3 : Int32} {h2 : zh_H} (hf : b_X2_reset_0 h x0 x1 x2 x3 = some h2) : zc l yX2_reset cX2_reset 4 none 3 0 0 D K b0 N h [.ref x0, .ref x1, .ref x2, .int x3] (zq none N h2) := by
  refine zc.of [(0, .ref x0), (1, .ref x1), (2, .ref x2), (3, .int x3)] (by decide) rfl (Nat.le_of_ble_eq_true rfl) ?_
  intro p e s m args below meth c hB hnm hG ls hl
  exact w_X2_reset_0 (res := h2) hB _ _ ls h x0 x1 x2 x3 hG (lv_sub hl [0, 1, 2, 3] rfl) hf

section G_X6_aim
variable {p : Program} {l : Launch} {e : Env} {s : State} {m : MethodId} {args : Array Value} {below : List Frame} {meth : Method} {c : Code} {D : va_G} {K : Nat → ClassId} {b0 N : Nat}
set_option maxRecDepth 100000 in
set_option maxHeartbeats 4000000 in
theorem w_X6_aim_0 {res : zh_H} (hB : zc_B p s m args meth c cX6_aim 4 RX6 none D K) : ∀ (H : Heap) (locs : List Loc) (ls : Array Slot) (h : zh_H) (x0 : Nat) (x1 : Nat) (x2 : Int32) (x3 : Int32), zh_G D K b0 N h s.heap H locs → lv_has ls 4 [(0, .ref x0), (1, .ref x1), (2, .int x2), (3, .int x3)] → b_X6_aim_0 h x0 x1 x2 x3 = some res → W p l e (zc_rm 1 0 0) s m args below meth c H locs 0 0 (MQ below (zc_Q D K b0 (zq none N res)) args s 0 0 (fun q => b0 ≤ q)) (F0 m 0 ls []) := by
  have hx := hB.1
  have hb := hB.2.1
  intro H locs ls h x0 x1 x2 x3 hG hl hf
  unfold b_X6_aim_0 at hf
  refine lv_aload_n hx hb dX6_aim_0 rfl (lv_at hl 0 rfl) ?_
  refine lv_aload_n hx hb dX6_aim_1 rfl (lv_at hl 1 rfl) ?_
  obtain ⟨h1, eh1, hf⟩ := zb hf
  refine zr_put hB hG zF_6 (by decide) kf_X6_14 rfl rfl rfl eh1 dX6_aim_2 (fun H locs hG => ?_)
  refine lv_aload_n hx hb dX6_aim_5 rfl (lv_at hl 0 rfl) ?_
  refine lv_aload_n hx hb dX6_aim_6 rfl (lv_at hl 1 rfl) ?_
  obtain ⟨v2, ev2, hf⟩ := zb hf
  refine zr_getI hB hG zF_7 (by decide) kf_X6_34 ev2 dX6_aim_7 ?_
  refine lv_sipush (v := 200) hx hb dX6_aim_10 (by decide) ?_
  refine zr_min km_X6_37 k_min k_Mi k_minc hl.1 hB dX6_aim_13 (by decide) (Nat.le_of_ble_eq_true rfl) ⟨by decide, by decide⟩ ?_
  obtain ⟨h3, eh3, hf⟩ := zb hf
  refine zr_put hB hG zF_6 (by decide) kf_X6_43 rfl rfl rfl eh3 dX6_aim_16 (fun H locs hG => ?_)
  refine lv_aload_n hx hb dX6_aim_19 rfl (lv_at hl 0 rfl) ?_
  refine lv_iload_n hx hb dX6_aim_20 rfl (lv_at hl 2 rfl) ?_
  obtain ⟨h4, eh4, hf⟩ := zb hf
  refine zr_put hB hG zF_6 (by decide) kf_X6_46 rfl rfl rfl eh4 dX6_aim_21 (fun H locs hG => ?_)
  refine lv_aload_n hx hb dX6_aim_24 rfl (lv_at hl 0 rfl) ?_
  refine lv_iload_n hx hb dX6_aim_25 rfl (lv_at hl 3 rfl) ?_
  obtain ⟨h5, eh5, hf⟩ := zb hf
  refine zr_putZ hB hG zF_6 (by decide) kf_X6_49 rfl rfl eh5 dX6_aim_26 (fun H locs hG => ?_)
  obtain rfl := Option.some.inj hf
  exact zr_vret hB hG ⟨rfl, rfl, rfl⟩ dX6_aim_29
end G_X6_aim
theorem c_X6_aim {l : Launch} {D : va_G} {K : Nat → ClassId} {b0 N : Nat} {h : zh_H} {x0 : Nat} {x1 : Nat} {x2 : Int32} {x3 : Int32} {h2 : zh_H} (hf : b_X6_aim_0 h x0 x1 x2 x3 = some h2) : zc l yX6_aim cX6_aim 4 none 1 0 0 D K b0 N h [.ref x0, .ref x1, .int x2, .int x3] (zq none N h2) := by
  refine zc.of [(0, .ref x0), (1, .ref x1), (2, .int x2), (3, .int x3)] (by decide) rfl (Nat.le_of_ble_eq_true rfl) ?_
  intro p e s m args below meth c hB hnm hG ls hl
  exact w_X6_aim_0 (res := h2) hB _ _ ls h x0 x1 x2 x3 hG (lv_sub hl [0, 1, 2, 3] rfl) hf

section G_X6_edits
variable {p : Program} {l : Launch} {e : Env} {s : State} {m : MethodId} {args : Array Value} {below : List Frame} {meth : Method} {c : Code} {D : va_G} {K : Nat → ClassId} {b0 N : Nat}
set_option maxRecDepth 100000 in
set_option maxHeartbeats 4000000 in
theorem w_X6_edits_0 {res : (Int32 × zh_H)} (hB : zc_B p s m args meth c cX6_edits 1 RX6 (some .int) D K) : ∀ (H : Heap) (locs : List Loc) (ls : Array Slot) (h : zh_H) (x0 : Nat), zh_G D K b0 N h s.heap H locs → lv_has ls 1 [(0, .ref x0)] → b_X6_edits_0 h x0 = some res → W p l e (zc_rm 0 0 0) s m args below meth c H locs 0 0 (MQ below (zc_Q D K b0 (zq (some (.int res.1)) N res.2)) args s 0 0 (fun q => b0 ≤ q)) (F0 m 0 ls []) := by
  have hx := hB.1
  have hb := hB.2.1
  intro H locs ls h x0 hG hl hf
  unfold b_X6_edits_0 at hf
  refine lv_aload_n hx hb dX6_edits_0 rfl (lv_at hl 0 rfl) ?_
  obtain ⟨a1, ea1, hf⟩ := zb hf
  refine zr_getR hB hG zF_6 (by decide) kf_X6_20 ea1 dX6_edits_1 ?_
  refine lv_aload_n hx hb dX6_edits_4 rfl (lv_at hl 0 rfl) ?_
  obtain ⟨v2, ev2, hf⟩ := zb hf
  refine zr_getI hB hG zF_6 (by decide) kf_X6_43 ev2 dX6_edits_5 ?_
  obtain ⟨v3, ev3, hf⟩ := zb hf
  refine zr_iald hB hG ev3 dX6_edits_8 ?_
  refine lv_sipush (v := 2048) hx hb dX6_edits_9 (by decide) ?_
  refine lv_idiv hx hb dX6_edits_12 (by decide) ?_
  obtain rfl := Option.some.inj hf
  exact zr_iret hB hG ⟨rfl, rfl, rfl⟩ dX6_edits_13
end G_X6_edits
theorem c_X6_edits {l : Launch} {D : va_G} {K : Nat → ClassId} {b0 N : Nat} {h : zh_H} {x0 : Nat} {r : Int32} {h2 : zh_H} (hf : b_X6_edits_0 h x0 = some (r, h2)) : zc l yX6_edits cX6_edits 1 (some .int) 0 0 0 D K b0 N h [.ref x0] (zq (some (.int r)) N h2) := by
  refine zc.of [(0, .ref x0)] (by decide) rfl (Nat.le_of_ble_eq_true rfl) ?_
  intro p e s m args below meth c hB hnm hG ls hl
  exact w_X6_edits_0 (res := (r, h2)) hB _ _ ls h x0 hG (lv_sub hl [0] rfl) hf

section G_X2_add
variable {p : Program} {l : Launch} {e : Env} {s : State} {m : MethodId} {args : Array Value} {below : List Frame} {meth : Method} {c : Code} {D : va_G} {K : Nat → ClassId} {b0 N : Nat}
set_option maxRecDepth 100000 in
set_option maxHeartbeats 4000000 in
theorem w_X2_add_50 {res : zh_H} (hB : zc_B p s m args meth c cX2_add 4 RX2 none D K) : ∀ (H : Heap) (locs : List Loc) (ls : Array Slot) (h : zh_H), zh_G D K b0 N h s.heap H locs → lv_has ls 4 [] → b_X2_add_50 h  = some res → W p l e (zc_rm 0 0 0) s m args below meth c H locs 0 0 (MQ below (zc_Q D K b0 (zq none N res)) args s 0 0 (fun q => b0 ≤ q)) (F0 m 50 ls []) := by
  have hx := hB.1
  have hb := hB.2.1
  intro H locs ls h  hG hl hf
  unfold b_X2_add_50 at hf
  obtain rfl := Option.some.inj hf
  exact zr_vret hB hG ⟨rfl, rfl, rfl⟩ dX2_add_50

set_option maxRecDepth 100000 in
set_option maxHeartbeats 4000000 in
theorem w_X2_add_0 {res : zh_H} (hB : zc_B p s m args meth c cX2_add 4 RX2 none D K) : ∀ (H : Heap) (locs : List Loc) (ls : Array Slot) (h : zh_H) (x0 : Nat) (x1 : Int32) (x2 : Int32) (x3 : Int32), zh_G D K b0 N h s.heap H locs → lv_has ls 4 [(0, .ref x0), (1, .int x1), (2, .int x2), (3, .int x3)] → b_X2_add_0 h x0 x1 x2 x3 = some res → W p l e (zc_rm 0 0 0) s m args below meth c H locs 0 0 (MQ below (zc_Q D K b0 (zq none N res)) args s 0 0 (fun q => b0 ≤ q)) (F0 m 0 ls []) := by
  have hx := hB.1
  have hb := hB.2.1
  intro H locs ls h x0 x1 x2 x3 hG hl hf
  unfold b_X2_add_0 at hf
  refine lv_aload_n hx hb dX2_add_0 rfl (lv_at hl 0 rfl) ?_
  obtain ⟨v1, ev1, hf⟩ := zb hf
  refine zr_getI hB hG zF_2 (by decide) kf_X2_59 ev1 dX2_add_1 ?_
  refine lv_sipush (v := 1500) hx hb dX2_add_4 (by decide) ?_
  refine lv_icmp_ge (tgt := 50) hx hb dX2_add_7 (by decide) (fun hc13 => ?_) (fun hc13 => ?_)
  · rw [if_pos hc13] at hf
    exact w_X2_add_50 hB _ _ _ h  hG (lv_sub hl [] rfl) hf
  · rw [if_neg hc13] at hf
    refine lv_aload_n hx hb dX2_add_10 rfl (lv_at hl 0 rfl) ?_
    obtain ⟨a2, ea2, hf⟩ := zb hf
    refine zr_getR hB hG zF_2 (by decide) kf_X2_38 ea2 dX2_add_11 ?_
    refine lv_aload_n hx hb dX2_add_14 rfl (lv_at hl 0 rfl) ?_
    obtain ⟨v3, ev3, hf⟩ := zb hf
    refine zr_getI hB hG zF_2 (by decide) kf_X2_59 ev3 dX2_add_15 ?_
    refine lv_iload_n hx hb dX2_add_18 rfl (lv_at hl 1 rfl) ?_
    obtain ⟨h4, eh4, hf⟩ := zb hf
    refine zr_iast hB hG eh4 dX2_add_19 (fun H locs hG => ?_)
    refine lv_aload_n hx hb dX2_add_20 rfl (lv_at hl 0 rfl) ?_
    obtain ⟨a5, ea5, hf⟩ := zb hf
    refine zr_getR hB hG zF_2 (by decide) kf_X2_42 ea5 dX2_add_21 ?_
    refine lv_aload_n hx hb dX2_add_24 rfl (lv_at hl 0 rfl) ?_
    obtain ⟨v6, ev6, hf⟩ := zb hf
    refine zr_getI hB hG zF_2 (by decide) kf_X2_59 ev6 dX2_add_25 ?_
    refine lv_iload_n hx hb dX2_add_28 rfl (lv_at hl 2 rfl) ?_
    obtain ⟨h7, eh7, hf⟩ := zb hf
    refine zr_iast hB hG eh7 dX2_add_29 (fun H locs hG => ?_)
    refine lv_aload_n hx hb dX2_add_30 rfl (lv_at hl 0 rfl) ?_
    obtain ⟨a8, ea8, hf⟩ := zb hf
    refine zr_getR hB hG zF_2 (by decide) kf_X2_45 ea8 dX2_add_31 ?_
    refine lv_aload_n hx hb dX2_add_34 rfl (lv_at hl 0 rfl) ?_
    obtain ⟨v9, ev9, hf⟩ := zb hf
    refine zr_getI hB hG zF_2 (by decide) kf_X2_59 ev9 dX2_add_35 ?_
    refine lv_iload_n hx hb dX2_add_38 rfl (lv_at hl 3 rfl) ?_
    obtain ⟨h10, eh10, hf⟩ := zb hf
    refine zr_iast hB hG eh10 dX2_add_39 (fun H locs hG => ?_)
    refine lv_aload_n hx hb dX2_add_40 rfl (lv_at hl 0 rfl) ?_
    refine lv_dup hx hb dX2_add_41 rfl ?_
    obtain ⟨v11, ev11, hf⟩ := zb hf
    refine zr_getI hB hG zF_2 (by decide) kf_X2_59 ev11 dX2_add_42 ?_
    refine lv_iconst (v := 1) hx hb dX2_add_45 (by decide) ?_
    refine lv_iadd hx hb dX2_add_46 ?_
    obtain ⟨h12, eh12, hf⟩ := zb hf
    refine zr_put hB hG zF_2 (by decide) kf_X2_59 rfl rfl rfl eh12 dX2_add_47 (fun H locs hG => ?_)
    exact w_X2_add_50 hB _ _ _ h12  hG (lv_sub hl [] rfl) hf
end G_X2_add
theorem c_X2_add {l : Launch} {D : va_G} {K : Nat → ClassId} {b0 N : Nat} {h : zh_H} {x0 : Nat} {x1 : Int32} {x2 : Int32} {x3 : Int32} {h2 : zh_H} (hf : b_X2_add_0 h x0 x1 x2 x3 = some h2) : zc l yX2_add cX2_add 4 none 0 0 0 D K b0 N h [.ref x0, .int x1, .int x2, .int x3] (zq none N h2) := by
  refine zc.of [(0, .ref x0), (1, .int x1), (2, .int x2), (3, .int x3)] (by decide) rfl (Nat.le_of_ble_eq_true rfl) ?_
  intro p e s m args below meth c hB hnm hG ls hl
  exact w_X2_add_0 (res := h2) hB _ _ ls h x0 x1 x2 x3 hG (lv_sub hl [0, 1, 2, 3] rfl) hf

section G_X10_find
variable {p : Program} {l : Launch} {e : Env} {s : State} {m : MethodId} {args : Array Value} {below : List Frame} {meth : Method} {c : Code} {D : va_G} {K : Nat → ClassId} {b0 N : Nat}
set_option maxRecDepth 100000 in
set_option maxHeartbeats 4000000 in
theorem w_X10_find_15 {res : (Int32 × zh_H)} (hB : zc_B p s m args meth c cX10_find 5 RX10 (some .int) D K) : ∀ (H : Heap) (locs : List Loc) (ls : Array Slot) (h : zh_H), zh_G D K b0 N h s.heap H locs → lv_has ls 5 [] → b_X10_find_15 h  = some res → W p l e (zc_rm 4 0 0) s m args below meth c H locs 0 0 (MQ below (zc_Q D K b0 (zq (some (.int res.1)) N res.2)) args s 0 0 (fun q => b0 ≤ q)) (F0 m 15 ls []) := by
  have hx := hB.1
  have hb := hB.2.1
  intro H locs ls h  hG hl hf
  unfold b_X10_find_15 at hf
  refine lv_bipush (v := -2) hx hb dX10_find_15 (by decide) ?_
  obtain rfl := Option.some.inj hf
  exact zr_iret hB hG ⟨rfl, rfl, rfl⟩ dX10_find_17

set_option maxRecDepth 100000 in
set_option maxHeartbeats 4000000 in
theorem w_X10_find_125 {res : (Int32 × zh_H)} (hB : zc_B p s m args meth c cX10_find 5 RX10 (some .int) D K) {k62 : zh_H → Nat → Int32 → Option (Int32 × zh_H)} (hk62 : ∀ (H : Heap) (locs : List Loc) (ls : Array Slot) (h : zh_H) (x0 : Nat) (x4 : Int32), zh_G D K b0 N h s.heap H locs → lv_has ls 5 [(0, .ref x0), (4, .int x4)] → k62 h x0 x4 = some res → W p l e (zc_rm 4 0 0) s m args below meth c H locs 0 0 (MQ below (zc_Q D K b0 (zq (some (.int res.1)) N res.2)) args s 0 0 (fun q => b0 ≤ q)) (F0 m 62 ls [])) : ∀ (H : Heap) (locs : List Loc) (ls : Array Slot) (h : zh_H) (x0 : Nat) (x4 : Int32), zh_G D K b0 N h s.heap H locs → lv_has ls 5 [(0, .ref x0), (4, .int x4)] → b_X10_find_125 k62 h x0 x4 = some res → W p l e (zc_rm 4 0 0) s m args below meth c H locs 0 0 (MQ below (zc_Q D K b0 (zq (some (.int res.1)) N res.2)) args s 0 0 (fun q => b0 ≤ q)) (F0 m 125 ls []) := by
  have hx := hB.1
  have hb := hB.2.1
  intro H locs ls h x0 x4 hG hl hf
  unfold b_X10_find_125 at hf
  refine lv_iinc (v := (x4 + (1 : Int32))) (lv' := [(4, .int (x4 + (1 : Int32))), (0, .ref x0)]) hx hb dX10_find_125 hl (k := 1) rfl rfl (by decide) rfl (fun ls hl => ?_)
  refine lv_goto (tgt := 62) hx hb dX10_find_128 (by decide) ?_
  exact hk62 _ _ _ h (x0) ((x4 + (1 : Int32))) hG (lv_sub hl [1, 0] rfl) hf

set_option maxRecDepth 100000 in
set_option maxHeartbeats 4000000 in
theorem w_X10_find_62 {res : (Int32 × zh_H)} (hB : zc_B p s m args meth c cX10_find 5 RX10 (some .int) D K) : ∀ n : Nat, ∀ (H : Heap) (locs : List Loc) (ls : Array Slot) (h : zh_H) (x0 : Nat) (x4 : Int32), zh_G D K b0 N h s.heap H locs → lv_has ls 5 [(0, .ref x0), (4, .int x4)] → b_X10_find_62 n h x0 x4 = some res → W p l e (zc_rm 4 0 0) s m args below meth c H locs 0 0 (MQ below (zc_Q D K b0 (zq (some (.int res.1)) N res.2)) args s 0 0 (fun q => b0 ≤ q)) (F0 m 62 ls []) := by
  have hx := hB.1
  have hb := hB.2.1
  intro n
  induction n with
  | zero =>
    intro H locs ls h x0 x4 hG hl hf
    cases hf
  | succ n ih =>
    intro H locs ls h x0 x4 hG hl hf
    unfold b_X10_find_62 at hf
    refine lv_iload hx hb dX10_find_62 (lv_at hl 1 rfl) ?_
    refine lv_aload_n hx hb dX10_find_64 rfl (lv_at hl 0 rfl) ?_
    obtain ⟨a1, ea1, hf⟩ := zb hf
    refine zr_getR hB hG zF_10 (by decide) kf_X10_18 ea1 dX10_find_65 ?_
    obtain ⟨v2, ev2, hf⟩ := zb hf
    refine zr_getI hB hG zF_0 (by decide) kf_X10_85 ev2 dX10_find_68 ?_
    refine lv_icmp_gt (tgt := 131) hx hb dX10_find_71 (by decide) (fun hc28 => ?_) (fun hc28 => ?_)
    · rw [if_pos hc28] at hf
      refine lv_aload_n hx hb dX10_find_131 rfl (lv_at hl 0 rfl) ?_
      obtain ⟨a3, ea3, hf⟩ := zb hf
      refine zr_getR hB hG zF_10 (by decide) kf_X10_66 ea3 dX10_find_132 ?_
      obtain ⟨v4, ev4, hf⟩ := zb hf
      refine zr_getI hB hG zF_2 (by decide) kf_X10_173 ev4 dX10_find_135 ?_
      obtain rfl := Option.some.inj hf
      exact zr_iret hB hG ⟨rfl, rfl, rfl⟩ dX10_find_138
    · rw [if_neg hc28] at hf
      refine lv_aload_n hx hb dX10_find_74 rfl (lv_at hl 0 rfl) ?_
      obtain ⟨a5, ea5, hf⟩ := zb hf
      refine zr_getR hB hG zF_10 (by decide) kf_X10_52 ea5 dX10_find_75 ?_
      refine lv_aload_n hx hb dX10_find_78 rfl (lv_at hl 0 rfl) ?_
      obtain ⟨a6, ea6, hf⟩ := zb hf
      refine zr_getR hB hG zF_10 (by decide) kf_X10_18 ea6 dX10_find_79 ?_
      refine lv_iload hx hb dX10_find_82 (lv_at hl 1 rfl) ?_
      refine lv_iconst (v := 1) hx hb dX10_find_84 (by decide) ?_
      refine lv_isub hx hb dX10_find_85 ?_
      obtain ⟨o7, eo7, hf⟩ := zb hf
      obtain ⟨v9, h8, eh8, hf⟩ := zbp_s hf
      refine zr_callV (As := [.int (x4 - (1 : Int32))]) kc_X10_138 hB hG (c_X0_get eh8) eo7 rfl hl.1 rfl ⟨by decide, by decide⟩ (Nat.le_of_ble_eq_true rfl) ⟨by decide, by decide⟩ dX10_find_86 (fun H locs hG => ?_)
      obtain ⟨o10, eo10, hf⟩ := zb hf
      obtain ⟨h11, eh11, hf⟩ := zb hf
      refine zr_callVv (As := [.int v9]) kc_X10_156 hB hG (c_X6_feed eh11) eo10 rfl hl.1 rfl ⟨by decide, by decide⟩ (Nat.le_of_ble_eq_true rfl) ⟨by decide, by decide⟩ dX10_find_89 (fun H locs hG => ?_)
      refine lv_aload_n hx hb dX10_find_92 rfl (lv_at hl 0 rfl) ?_
      obtain ⟨a12, ea12, hf⟩ := zb hf
      refine zr_getR hB hG zF_10 (by decide) kf_X10_52 ea12 dX10_find_93 ?_
      obtain ⟨o13, eo13, hf⟩ := zb hf
      obtain ⟨v15, h14, eh14, hf⟩ := zbp_s hf
      refine zr_callV (As := []) kc_X10_159 hB hG (c_X6_isHit eh14) eo13 rfl hl.1 rfl ⟨by decide, by decide⟩ (Nat.le_of_ble_eq_true rfl) ⟨by decide, by decide⟩ dX10_find_96 (fun H locs hG => ?_)
      refine lv_if_eq (tgt := 125) hx hb dX10_find_99 (by decide) (fun hc27 => ?_) (fun hc27 => ?_)
      · rw [if_pos hc27] at hf
        exact w_X10_find_125 hB ih _ _ _ h14 (x0) (x4) hG (lv_sub hl [0, 1] rfl) hf
      · rw [if_neg hc27] at hf
        refine lv_aload_n hx hb dX10_find_102 rfl (lv_at hl 0 rfl) ?_
        obtain ⟨a16, ea16, hf⟩ := zb hf
        refine zr_getR hB hG zF_10 (by decide) kf_X10_66 ea16 dX10_find_103 ?_
        refine lv_iload hx hb dX10_find_106 (lv_at hl 1 rfl) ?_
        refine lv_aload_n hx hb dX10_find_108 rfl (lv_at hl 0 rfl) ?_
        obtain ⟨a17, ea17, hf⟩ := zb hf
        refine zr_getR hB hG zF_10 (by decide) kf_X10_52 ea17 dX10_find_109 ?_
        obtain ⟨o18, eo18, hf⟩ := zb hf
        obtain ⟨v20, h19, eh19, hf⟩ := zbp_s hf
        refine zr_callV (As := []) kc_X10_163 hB hG (c_X6_edits eh19) eo18 rfl hl.1 rfl ⟨by decide, by decide⟩ (Nat.le_of_ble_eq_true rfl) ⟨by decide, by decide⟩ dX10_find_112 (fun H locs hG => ?_)
        refine lv_aload_n hx hb dX10_find_115 rfl (lv_at hl 0 rfl) ?_
        obtain ⟨a21, ea21, hf⟩ := zb hf
        refine zr_getR hB hG zF_10 (by decide) kf_X10_52 ea21 dX10_find_116 ?_
        obtain ⟨o22, eo22, hf⟩ := zb hf
        obtain ⟨v24, h23, eh23, hf⟩ := zbp_s hf
        refine zr_callV (As := []) kc_X10_167 hB hG (c_X6_beginning eh23) eo22 rfl hl.1 rfl ⟨by decide, by decide⟩ (Nat.le_of_ble_eq_true rfl) ⟨by decide, by decide⟩ dX10_find_119 (fun H locs hG => ?_)
        obtain ⟨o25, eo25, hf⟩ := zb hf
        obtain ⟨h26, eh26, hf⟩ := zb hf
        refine zr_callVv (As := [.int x4, .int v20, .int v24]) kc_X10_170 hB hG (c_X2_add eh26) eo25 rfl hl.1 rfl ⟨by decide, by decide⟩ (Nat.le_of_ble_eq_true rfl) ⟨by decide, by decide⟩ dX10_find_122 (fun H locs hG => ?_)
        exact w_X10_find_125 hB ih _ _ _ h26 (x0) (x4) hG (lv_sub hl [0, 1] rfl) hf

set_option maxRecDepth 100000 in
set_option maxHeartbeats 4000000 in
theorem w_X10_find_0 {res : (Int32 × zh_H)} (hB : zc_B p s m args meth c cX10_find 5 RX10 (some .int) D K) : ∀ (H : Heap) (locs : List Loc) (ls : Array Slot) (h : zh_H) (x0 : Nat) (x1 : Int32) (x2 : Int32) (x3 : Int32), zh_G D K b0 N h s.heap H locs → lv_has ls 5 [(0, .ref x0), (1, .int x1), (2, .int x2), (3, .int x3)] → b_X10_find_0 h x0 x1 x2 x3 = some res → W p l e (zc_rm 4 0 0) s m args below meth c H locs 0 0 (MQ below (zc_Q D K b0 (zq (some (.int res.1)) N res.2)) args s 0 0 (fun q => b0 ≤ q)) (F0 m 0 ls []) := by
  have hx := hB.1
  have hb := hB.2.1
  intro H locs ls h x0 x1 x2 x3 hG hl hf
  unfold b_X10_find_0 at hf
  refine lv_aload_n hx hb dX10_find_0 rfl (lv_at hl 0 rfl) ?_
  refine lv_iload_n hx hb dX10_find_1 rfl (lv_at hl 1 rfl) ?_
  obtain ⟨o1, eo1, hf⟩ := zb hf
  obtain ⟨v3, h2, eh2, hf⟩ := zbp_s hf
  refine zr_callV (As := [.int x1]) kc_X10_113 hB hG (c_X10_isPattern eh2) eo1 rfl hl.1 rfl ⟨by decide, by decide⟩ (Nat.le_of_ble_eq_true rfl) ⟨by decide, by decide⟩ dX10_find_2 (fun H locs hG => ?_)
  refine lv_if_eq (tgt := 15) hx hb dX10_find_5 (by decide) (fun hc21 => ?_) (fun hc21 => ?_)
  · rw [if_pos hc21] at hf
    exact w_X10_find_15 hB _ _ _ h2  hG (lv_sub hl [] rfl) hf
  · rw [if_neg hc21] at hf
    refine lv_iload_n hx hb dX10_find_8 rfl (lv_at hl 2 rfl) ?_
    obtain ⟨v5, h4, eh4, hf⟩ := zbp_s hf
    refine zr_callS (As := [.int x2]) kc_X10_142 hB hG (c_X10_isEdits eh4) rfl hl.1 rfl ⟨by decide, by decide⟩ (Nat.le_of_ble_eq_true rfl) ⟨by decide, by decide⟩ dX10_find_9 (fun H locs hG => ?_)
    refine lv_if_ne (tgt := 18) hx hb dX10_find_12 (by decide) (fun hc20 => ?_) (fun hc20 => ?_)
    · rw [if_neg hc20] at hf
      refine lv_aload_n hx hb dX10_find_18 rfl (lv_at hl 0 rfl) ?_
      obtain ⟨a6, ea6, hf⟩ := zb hf
      refine zr_getR hB hG zF_10 (by decide) kf_X10_66 ea6 dX10_find_19 ?_
      refine lv_aload_n hx hb dX10_find_22 rfl (lv_at hl 0 rfl) ?_
      obtain ⟨a7, ea7, hf⟩ := zb hf
      refine zr_getR hB hG zF_10 (by decide) kf_X10_33 ea7 dX10_find_23 ?_
      refine lv_iload_n hx hb dX10_find_26 rfl (lv_at hl 1 rfl) ?_
      obtain ⟨a8, ea8, hf⟩ := zb hf
      refine zr_aald ⟨_, rfl⟩ hB hG ea8 dX10_find_27 ?_
      refine lv_aload_n hx hb dX10_find_28 rfl (lv_at hl 0 rfl) ?_
      obtain ⟨a9, ea9, hf⟩ := zb hf
      refine zr_getR hB hG zF_10 (by decide) kf_X10_18 ea9 dX10_find_29 ?_
      refine lv_iload_n hx hb dX10_find_32 rfl (lv_at hl 3 rfl) ?_
      obtain ⟨o10, eo10, hf⟩ := zb hf
      obtain ⟨h11, eh11, hf⟩ := zb hf
      refine zr_callVv (As := [.ref a8, .ref a9, .int x3]) kc_X10_145 hB hG (c_X2_reset eh11) eo10 rfl hl.1 rfl ⟨by decide, by decide⟩ (Nat.le_of_ble_eq_true rfl) ⟨by decide, by decide⟩ dX10_find_33 (fun H locs hG => ?_)
      refine lv_aload_n hx hb dX10_find_36 rfl (lv_at hl 0 rfl) ?_
      obtain ⟨a12, ea12, hf⟩ := zb hf
      refine zr_getR hB hG zF_10 (by decide) kf_X10_52 ea12 dX10_find_37 ?_
      refine lv_aload_n hx hb dX10_find_40 rfl (lv_at hl 0 rfl) ?_
      obtain ⟨a13, ea13, hf⟩ := zb hf
      refine zr_getR hB hG zF_10 (by decide) kf_X10_33 ea13 dX10_find_41 ?_
      refine lv_iload_n hx hb dX10_find_44 rfl (lv_at hl 1 rfl) ?_
      obtain ⟨a14, ea14, hf⟩ := zb hf
      refine zr_aald ⟨_, rfl⟩ hB hG ea14 dX10_find_45 ?_
      refine lv_iload_n hx hb dX10_find_46 rfl (lv_at hl 2 rfl) ?_
      refine lv_iload_n hx hb dX10_find_47 rfl (lv_at hl 3 rfl) ?_
      obtain ⟨o15, eo15, hf⟩ := zb hf
      obtain ⟨h16, eh16, hf⟩ := zb hf
      refine zr_callVv (As := [.ref a14, .int x2, .int x3]) kc_X10_149 hB hG (c_X6_aim eh16) eo15 rfl hl.1 rfl ⟨by decide, by decide⟩ (Nat.le_of_ble_eq_true rfl) ⟨by decide, by decide⟩ dX10_find_48 (fun H locs hG => ?_)
      refine lv_aload_n hx hb dX10_find_51 rfl (lv_at hl 0 rfl) ?_
      obtain ⟨a17, ea17, hf⟩ := zb hf
      refine zr_getR hB hG zF_10 (by decide) kf_X10_52 ea17 dX10_find_52 ?_
      refine lv_iconst (v := 0) hx hb dX10_find_55 (by decide) ?_
      obtain ⟨o18, eo18, hf⟩ := zb hf
      obtain ⟨h19, eh19, hf⟩ := zb hf
      refine zr_callVv (As := [.int (0 : Int32)]) kc_X10_153 hB hG (c_X6_restart eh19) eo18 rfl hl.1 rfl ⟨by decide, by decide⟩ (Nat.le_of_ble_eq_true rfl) ⟨by decide, by decide⟩ dX10_find_56 (fun H locs hG => ?_)
      refine lv_iconst (v := 1) hx hb dX10_find_59 (by decide) ?_
      refine lv_istore (lv' := [(4, .int (1 : Int32)), (0, .ref x0), (1, .int x1), (2, .int x2), (3, .int x3)]) hx hb dX10_find_60 hl (by decide) rfl (fun ls hl => ?_)
      exact w_X10_find_62 hB zFuel _ _ _ h19 (x0) ((1 : Int32)) hG (lv_sub hl [1, 0] rfl) hf
    · rw [if_pos hc20] at hf
      exact w_X10_find_15 hB _ _ _ h4  hG (lv_sub hl [] rfl) hf
end G_X10_find
theorem c_X10_find {l : Launch} {D : va_G} {K : Nat → ClassId} {b0 N : Nat} {h : zh_H} {x0 : Nat} {x1 : Int32} {x2 : Int32} {x3 : Int32} {r : Int32} {h2 : zh_H} (hf : b_X10_find_0 h x0 x1 x2 x3 = some (r, h2)) : zc l yX10_find cX10_find 5 (some .int) 4 0 0 D K b0 N h [.ref x0, .int x1, .int x2, .int x3] (zq (some (.int r)) N h2) := by
  refine zc.of [(0, .ref x0), (1, .int x1), (2, .int x2), (3, .int x3)] (by decide) rfl (Nat.le_of_ble_eq_true rfl) ?_
  intro p e s m args below meth c hB hnm hG ls hl
  exact w_X10_find_0 (res := (r, h2)) hB _ _ ls h x0 x1 x2 x3 hG (lv_sub hl [0, 1, 2, 3] rfl) hf

section G_X10_isByte
variable {p : Program} {l : Launch} {e : Env} {s : State} {m : MethodId} {args : Array Value} {below : List Frame} {meth : Method} {c : Code} {D : va_G} {K : Nat → ClassId} {b0 N : Nat}
set_option maxRecDepth 100000 in
set_option maxHeartbeats 4000000 in
theorem w_X10_isByte_23 {res : (Int32 × zh_H)} (hB : zc_B p s m args meth c cX10_isByte 1 RX10 (some .boolean) D K) : ∀ (H : Heap) (locs : List Loc) (ls : Array Slot) (h : zh_H) (y0 : Int32), zh_G D K b0 N h s.heap H locs → lv_has ls 1 [] → b_X10_isByte_23 h y0 = some res → W p l e (zc_rm 0 0 0) s m args below meth c H locs 0 0 (MQ below (zc_Q D K b0 (zq (some (.int res.1)) N res.2)) args s 0 0 (fun q => b0 ≤ q)) (F0 m 23 ls [.int y0]) := by
  have hx := hB.1
  have hb := hB.2.1
  intro H locs ls h y0 hG hl hf
  unfold b_X10_isByte_23 at hf
  obtain ⟨hz, hf⟩ := zif_s hf
  obtain rfl := Option.some.inj hf
  exact zr_zret hB hG hz ⟨rfl, rfl, rfl⟩ dX10_isByte_23

set_option maxRecDepth 100000 in
set_option maxHeartbeats 4000000 in
theorem w_X10_isByte_18 {res : (Int32 × zh_H)} (hB : zc_B p s m args meth c cX10_isByte 1 RX10 (some .boolean) D K) : ∀ (H : Heap) (locs : List Loc) (ls : Array Slot) (h : zh_H), zh_G D K b0 N h s.heap H locs → lv_has ls 1 [] → b_X10_isByte_18 h  = some res → W p l e (zc_rm 0 0 0) s m args below meth c H locs 0 0 (MQ below (zc_Q D K b0 (zq (some (.int res.1)) N res.2)) args s 0 0 (fun q => b0 ≤ q)) (F0 m 18 ls []) := by
  have hx := hB.1
  have hb := hB.2.1
  intro H locs ls h  hG hl hf
  unfold b_X10_isByte_18 at hf
  refine lv_iconst (v := 1) hx hb dX10_isByte_18 (by decide) ?_
  refine lv_goto (tgt := 23) hx hb dX10_isByte_19 (by decide) ?_
  exact w_X10_isByte_23 hB _ _ _ h ((1 : Int32)) hG (lv_sub hl [] rfl) hf

set_option maxRecDepth 100000 in
set_option maxHeartbeats 4000000 in
theorem w_X10_isByte_22 {res : (Int32 × zh_H)} (hB : zc_B p s m args meth c cX10_isByte 1 RX10 (some .boolean) D K) : ∀ (H : Heap) (locs : List Loc) (ls : Array Slot) (h : zh_H), zh_G D K b0 N h s.heap H locs → lv_has ls 1 [] → b_X10_isByte_22 h  = some res → W p l e (zc_rm 0 0 0) s m args below meth c H locs 0 0 (MQ below (zc_Q D K b0 (zq (some (.int res.1)) N res.2)) args s 0 0 (fun q => b0 ≤ q)) (F0 m 22 ls []) := by
  have hx := hB.1
  have hb := hB.2.1
  intro H locs ls h  hG hl hf
  unfold b_X10_isByte_22 at hf
  refine lv_iconst (v := 0) hx hb dX10_isByte_22 (by decide) ?_
  exact w_X10_isByte_23 hB _ _ _ h ((0 : Int32)) hG (lv_sub hl [] rfl) hf

set_option maxRecDepth 100000 in
set_option maxHeartbeats 4000000 in
theorem w_X10_isByte_0 {res : (Int32 × zh_H)} (hB : zc_B p s m args meth c cX10_isByte 1 RX10 (some .boolean) D K) : ∀ (H : Heap) (locs : List Loc) (ls : Array Slot) (h : zh_H) (x0 : Int32), zh_G D K b0 N h s.heap H locs → lv_has ls 1 [(0, .int x0)] → b_X10_isByte_0 h x0 = some res → W p l e (zc_rm 0 0 0) s m args below meth c H locs 0 0 (MQ below (zc_Q D K b0 (zq (some (.int res.1)) N res.2)) args s 0 0 (fun q => b0 ≤ q)) (F0 m 0 ls []) := by
  have hx := hB.1
  have hb := hB.2.1
  intro H locs ls h x0 hG hl hf
  unfold b_X10_isByte_0 at hf
  refine lv_iload_n hx hb dX10_isByte_0 rfl (lv_at hl 0 rfl) ?_
  refine lv_bipush (v := 10) hx hb dX10_isByte_1 (by decide) ?_
  refine lv_icmp_eq (tgt := 18) hx hb dX10_isByte_3 (by decide) (fun hc3 => ?_) (fun hc3 => ?_)
  · rw [if_pos hc3] at hf
    exact w_X10_isByte_18 hB _ _ _ h  hG (lv_sub hl [] rfl) hf
  · rw [if_neg hc3] at hf
    refine lv_iload_n hx hb dX10_isByte_6 rfl (lv_at hl 0 rfl) ?_
    refine lv_bipush (v := 32) hx hb dX10_isByte_7 (by decide) ?_
    refine lv_icmp_lt (tgt := 22) hx hb dX10_isByte_9 (by decide) (fun hc2 => ?_) (fun hc2 => ?_)
    · rw [if_pos hc2] at hf
      exact w_X10_isByte_22 hB _ _ _ h  hG (lv_sub hl [] rfl) hf
    · rw [if_neg hc2] at hf
      refine lv_iload_n hx hb dX10_isByte_12 rfl (lv_at hl 0 rfl) ?_
      refine lv_bipush (v := 126) hx hb dX10_isByte_13 (by decide) ?_
      refine lv_icmp_gt (tgt := 22) hx hb dX10_isByte_15 (by decide) (fun hc1 => ?_) (fun hc1 => ?_)
      · rw [if_pos hc1] at hf
        exact w_X10_isByte_22 hB _ _ _ h  hG (lv_sub hl [] rfl) hf
      · rw [if_neg hc1] at hf
        exact w_X10_isByte_18 hB _ _ _ h  hG (lv_sub hl [] rfl) hf
end G_X10_isByte
theorem c_X10_isByte {l : Launch} {D : va_G} {K : Nat → ClassId} {b0 N : Nat} {h : zh_H} {x0 : Int32} {r : Int32} {h2 : zh_H} (hf : b_X10_isByte_0 h x0 = some (r, h2)) : zc l yX10_isByte cX10_isByte 1 (some .boolean) 0 0 0 D K b0 N h [.int x0] (zq (some (.int r)) N h2) := by
  refine zc.of [(0, .int x0)] (by decide) rfl (Nat.le_of_ble_eq_true rfl) ?_
  intro p e s m args below meth c hB hnm hG ls hl
  exact w_X10_isByte_0 (res := (r, h2)) hB _ _ ls h x0 hG (lv_sub hl [0] rfl) hf

section G_X7_holds
variable {p : Program} {l : Launch} {e : Env} {s : State} {m : MethodId} {args : Array Value} {below : List Frame} {meth : Method} {c : Code} {D : va_G} {K : Nat → ClassId} {b0 N : Nat}
set_option maxRecDepth 100000 in
set_option maxHeartbeats 4000000 in
theorem w_X7_holds_33 {res : (Int32 × zh_H)} (hB : zc_B p s m args meth c cX7_holds 3 RX7 (some .boolean) D K) : ∀ (H : Heap) (locs : List Loc) (ls : Array Slot) (h : zh_H) (y0 : Int32), zh_G D K b0 N h s.heap H locs → lv_has ls 3 [] → b_X7_holds_33 h y0 = some res → W p l e (zc_rm 1 0 0) s m args below meth c H locs 0 0 (MQ below (zc_Q D K b0 (zq (some (.int res.1)) N res.2)) args s 0 0 (fun q => b0 ≤ q)) (F0 m 33 ls [.int y0]) := by
  have hx := hB.1
  have hb := hB.2.1
  intro H locs ls h y0 hG hl hf
  unfold b_X7_holds_33 at hf
  obtain ⟨hz, hf⟩ := zif_s hf
  obtain rfl := Option.some.inj hf
  exact zr_zret hB hG hz ⟨rfl, rfl, rfl⟩ dX7_holds_33

set_option maxRecDepth 100000 in
set_option maxHeartbeats 4000000 in
theorem w_X7_holds_32 {res : (Int32 × zh_H)} (hB : zc_B p s m args meth c cX7_holds 3 RX7 (some .boolean) D K) : ∀ (H : Heap) (locs : List Loc) (ls : Array Slot) (h : zh_H), zh_G D K b0 N h s.heap H locs → lv_has ls 3 [] → b_X7_holds_32 h  = some res → W p l e (zc_rm 1 0 0) s m args below meth c H locs 0 0 (MQ below (zc_Q D K b0 (zq (some (.int res.1)) N res.2)) args s 0 0 (fun q => b0 ≤ q)) (F0 m 32 ls []) := by
  have hx := hB.1
  have hb := hB.2.1
  intro H locs ls h  hG hl hf
  unfold b_X7_holds_32 at hf
  refine lv_iconst (v := 0) hx hb dX7_holds_32 (by decide) ?_
  exact w_X7_holds_33 hB _ _ _ h ((0 : Int32)) hG (lv_sub hl [] rfl) hf

set_option maxRecDepth 100000 in
set_option maxHeartbeats 4000000 in
theorem w_X7_holds_0 {res : (Int32 × zh_H)} (hB : zc_B p s m args meth c cX7_holds 3 RX7 (some .boolean) D K) : ∀ (H : Heap) (locs : List Loc) (ls : Array Slot) (h : zh_H) (x0 : Nat) (x1 : Int32) (x2 : Int32), zh_G D K b0 N h s.heap H locs → lv_has ls 3 [(0, .ref x0), (1, .int x1), (2, .int x2)] → b_X7_holds_0 h x0 x1 x2 = some res → W p l e (zc_rm 1 0 0) s m args below meth c H locs 0 0 (MQ below (zc_Q D K b0 (zq (some (.int res.1)) N res.2)) args s 0 0 (fun q => b0 ≤ q)) (F0 m 0 ls []) := by
  have hx := hB.1
  have hb := hB.2.1
  intro H locs ls h x0 x1 x2 hG hl hf
  unfold b_X7_holds_0 at hf
  refine lv_iload_n hx hb dX7_holds_0 rfl (lv_at hl 1 rfl) ?_
  refine lv_if_lt (tgt := 32) hx hb dX7_holds_1 (by decide) (fun hc8 => ?_) (fun hc8 => ?_)
  · rw [if_pos hc8] at hf
    exact w_X7_holds_32 hB _ _ _ h  hG (lv_sub hl [] rfl) hf
  · rw [if_neg hc8] at hf
    refine lv_iload_n hx hb dX7_holds_4 rfl (lv_at hl 1 rfl) ?_
    refine lv_aload_n hx hb dX7_holds_5 rfl (lv_at hl 0 rfl) ?_
    obtain ⟨v1, ev1, hf⟩ := zb hf
    refine zr_getI hB hG zF_7 (by decide) kf_X7_22 ev1 dX7_holds_6 ?_
    refine lv_icmp_ge (tgt := 32) hx hb dX7_holds_9 (by decide) (fun hc7 => ?_) (fun hc7 => ?_)
    · rw [if_pos hc7] at hf
      exact w_X7_holds_32 hB _ _ _ h  hG (lv_sub hl [] rfl) hf
    · rw [if_neg hc7] at hf
      refine lv_aload_n hx hb dX7_holds_12 rfl (lv_at hl 0 rfl) ?_
      refine lv_iload_n hx hb dX7_holds_13 rfl (lv_at hl 2 rfl) ?_
      obtain ⟨o2, eo2, hf⟩ := zb hf
      obtain ⟨a4, h3, eh3, hf⟩ := zbp_s hf
      refine zr_callV (As := [.int x2]) kc_X7_26 hB hG (c_X7_half eh3) eo2 rfl hl.1 rfl ⟨by decide, by decide⟩ (Nat.le_of_ble_eq_true rfl) ⟨by decide, by decide⟩ dX7_holds_14 (fun H locs hG => ?_)
      refine lv_iload_n hx hb dX7_holds_17 rfl (lv_at hl 1 rfl) ?_
      obtain ⟨u5, eu5, hf⟩ := zb hf
      refine zr_lald hB hG eu5 dX7_holds_18 ?_
      refine lv_iload_n hx hb dX7_holds_19 rfl (lv_at hl 2 rfl) ?_
      refine lv_lushr hx hb dX7_holds_20 rfl ?_
      refine lv_lconst (v := 1) hx hb dX7_holds_21 (by decide) ?_
      refine lv_land hx hb dX7_holds_22 ?_
      refine lv_lconst (v := 0) hx hb dX7_holds_23 (by decide) ?_
      refine W.lcmp hx hb dX7_holds_24 ?_
      refine lv_if_eq (tgt := 32) hx hb dX7_holds_25 (by decide) (fun hc6 => ?_) (fun hc6 => ?_)
      · rw [if_pos hc6] at hf
        exact w_X7_holds_32 hB _ _ _ h3  hG (lv_sub hl [] rfl) hf
      · rw [if_neg hc6] at hf
        refine lv_iconst (v := 1) hx hb dX7_holds_28 (by decide) ?_
        refine lv_goto (tgt := 33) hx hb dX7_holds_29 (by decide) ?_
        exact w_X7_holds_33 hB _ _ _ h3 ((1 : Int32)) hG (lv_sub hl [] rfl) hf
end G_X7_holds
theorem c_X7_holds {l : Launch} {D : va_G} {K : Nat → ClassId} {b0 N : Nat} {h : zh_H} {x0 : Nat} {x1 : Int32} {x2 : Int32} {r : Int32} {h2 : zh_H} (hf : b_X7_holds_0 h x0 x1 x2 = some (r, h2)) : zc l yX7_holds cX7_holds 3 (some .boolean) 1 0 0 D K b0 N h [.ref x0, .int x1, .int x2] (zq (some (.int r)) N h2) := by
  refine zc.of [(0, .ref x0), (1, .int x1), (2, .int x2)] (by decide) rfl (Nat.le_of_ble_eq_true rfl) ?_
  intro p e s m args below meth c hB hnm hG ls hl
  exact w_X7_holds_0 (res := (r, h2)) hB _ _ ls h x0 x1 x2 hG (lv_sub hl [0, 1, 2] rfl) hf

section G_X10_has
variable {p : Program} {l : Launch} {e : Env} {s : State} {m : MethodId} {args : Array Value} {below : List Frame} {meth : Method} {c : Code} {D : va_G} {K : Nat → ClassId} {b0 N : Nat}
set_option maxRecDepth 100000 in
set_option maxHeartbeats 4000000 in
theorem w_X10_has_32 {res : (Int32 × zh_H)} (hB : zc_B p s m args meth c cX10_has 4 RX10 (some .int) D K) : ∀ (H : Heap) (locs : List Loc) (ls : Array Slot) (h : zh_H), zh_G D K b0 N h s.heap H locs → lv_has ls 4 [] → b_X10_has_32 h  = some res → W p l e (zc_rm 2 0 0) s m args below meth c H locs 0 0 (MQ below (zc_Q D K b0 (zq (some (.int res.1)) N res.2)) args s 0 0 (fun q => b0 ≤ q)) (F0 m 32 ls []) := by
  have hx := hB.1
  have hb := hB.2.1
  intro H locs ls h  hG hl hf
  unfold b_X10_has_32 at hf
  refine lv_bipush (v := -2) hx hb dX10_has_32 (by decide) ?_
  obtain rfl := Option.some.inj hf
  exact zr_iret hB hG ⟨rfl, rfl, rfl⟩ dX10_has_34

set_option maxRecDepth 100000 in
set_option maxHeartbeats 4000000 in
theorem w_X10_has_54 {res : (Int32 × zh_H)} (hB : zc_B p s m args meth c cX10_has 4 RX10 (some .int) D K) : ∀ (H : Heap) (locs : List Loc) (ls : Array Slot) (h : zh_H) (y0 : Int32), zh_G D K b0 N h s.heap H locs → lv_has ls 4 [] → b_X10_has_54 h y0 = some res → W p l e (zc_rm 2 0 0) s m args below meth c H locs 0 0 (MQ below (zc_Q D K b0 (zq (some (.int res.1)) N res.2)) args s 0 0 (fun q => b0 ≤ q)) (F0 m 54 ls [.int y0]) := by
  have hx := hB.1
  have hb := hB.2.1
  intro H locs ls h y0 hG hl hf
  unfold b_X10_has_54 at hf
  obtain rfl := Option.some.inj hf
  exact zr_iret hB hG ⟨rfl, rfl, rfl⟩ dX10_has_54

set_option maxRecDepth 100000 in
set_option maxHeartbeats 4000000 in
theorem w_X10_has_0 {res : (Int32 × zh_H)} (hB : zc_B p s m args meth c cX10_has 4 RX10 (some .int) D K) : ∀ (H : Heap) (locs : List Loc) (ls : Array Slot) (h : zh_H) (x0 : Nat) (x1 : Int32) (x2 : Int32) (x3 : Int32), zh_G D K b0 N h s.heap H locs → lv_has ls 4 [(0, .ref x0), (1, .int x1), (2, .int x2), (3, .int x3)] → b_X10_has_0 h x0 x1 x2 x3 = some res → W p l e (zc_rm 2 0 0) s m args below meth c H locs 0 0 (MQ below (zc_Q D K b0 (zq (some (.int res.1)) N res.2)) args s 0 0 (fun q => b0 ≤ q)) (F0 m 0 ls []) := by
  have hx := hB.1
  have hb := hB.2.1
  intro H locs ls h x0 x1 x2 x3 hG hl hf
  unfold b_X10_has_0 at hf
  refine lv_aload_n hx hb dX10_has_0 rfl (lv_at hl 0 rfl) ?_
  refine lv_iload_n hx hb dX10_has_1 rfl (lv_at hl 1 rfl) ?_
  obtain ⟨o1, eo1, hf⟩ := zb hf
  obtain ⟨v3, h2, eh2, hf⟩ := zbp_s hf
  refine zr_callV (As := [.int x1]) kc_X10_113 hB hG (c_X10_isPattern eh2) eo1 rfl hl.1 rfl ⟨by decide, by decide⟩ (Nat.le_of_ble_eq_true rfl) ⟨by decide, by decide⟩ dX10_has_2 (fun H locs hG => ?_)
  refine lv_if_eq (tgt := 32) hx hb dX10_has_5 (by decide) (fun hc18 => ?_) (fun hc18 => ?_)
  · rw [if_pos hc18] at hf
    exact w_X10_has_32 hB _ _ _ h2  hG (lv_sub hl [] rfl) hf
  · rw [if_neg hc18] at hf
    refine lv_iload_n hx hb dX10_has_8 rfl (lv_at hl 2 rfl) ?_
    refine lv_if_lt (tgt := 32) hx hb dX10_has_9 (by decide) (fun hc17 => ?_) (fun hc17 => ?_)
    · rw [if_pos hc17] at hf
      exact w_X10_has_32 hB _ _ _ h2  hG (lv_sub hl [] rfl) hf
    · rw [if_neg hc17] at hf
      refine lv_iload_n hx hb dX10_has_12 rfl (lv_at hl 2 rfl) ?_
      refine lv_aload_n hx hb dX10_has_13 rfl (lv_at hl 0 rfl) ?_
      obtain ⟨a4, ea4, hf⟩ := zb hf
      refine zr_getR hB hG zF_10 (by decide) kf_X10_33 ea4 dX10_has_14 ?_
      refine lv_iload_n hx hb dX10_has_17 rfl (lv_at hl 1 rfl) ?_
      obtain ⟨a5, ea5, hf⟩ := zb hf
      refine zr_aald ⟨_, rfl⟩ hB hG ea5 dX10_has_18 ?_
      obtain ⟨v6, ev6, hf⟩ := zb hf
      refine zr_getI hB hG zF_7 (by decide) kf_X10_109 ev6 dX10_has_19 ?_
      refine lv_icmp_ge (tgt := 32) hx hb dX10_has_22 (by decide) (fun hc16 => ?_) (fun hc16 => ?_)
      · rw [if_pos hc16] at hf
        exact w_X10_has_32 hB _ _ _ h2  hG (lv_sub hl [] rfl) hf
      · rw [if_neg hc16] at hf
        refine lv_iload_n hx hb dX10_has_25 rfl (lv_at hl 3 rfl) ?_
        obtain ⟨v8, h7, eh7, hf⟩ := zbp_s hf
        refine zr_callS (As := [.int x3]) kc_X10_81 hB hG (c_X10_isByte eh7) rfl hl.1 rfl ⟨by decide, by decide⟩ (Nat.le_of_ble_eq_true rfl) ⟨by decide, by decide⟩ dX10_has_26 (fun H locs hG => ?_)
        refine lv_if_ne (tgt := 35) hx hb dX10_has_29 (by decide) (fun hc15 => ?_) (fun hc15 => ?_)
        · rw [if_neg hc15] at hf
          refine lv_aload_n hx hb dX10_has_35 rfl (lv_at hl 0 rfl) ?_
          obtain ⟨a9, ea9, hf⟩ := zb hf
          refine zr_getR hB hG zF_10 (by decide) kf_X10_33 ea9 dX10_has_36 ?_
          refine lv_iload_n hx hb dX10_has_39 rfl (lv_at hl 1 rfl) ?_
          obtain ⟨a10, ea10, hf⟩ := zb hf
          refine zr_aald ⟨_, rfl⟩ hB hG ea10 dX10_has_40 ?_
          refine lv_iload_n hx hb dX10_has_41 rfl (lv_at hl 2 rfl) ?_
          refine lv_iload_n hx hb dX10_has_42 rfl (lv_at hl 3 rfl) ?_
          obtain ⟨o11, eo11, hf⟩ := zb hf
          obtain ⟨v13, h12, eh12, hf⟩ := zbp_s hf
          refine zr_callV (As := [.int x2, .int x3]) kc_X10_116 hB hG (c_X7_holds eh12) eo11 rfl hl.1 rfl ⟨by decide, by decide⟩ (Nat.le_of_ble_eq_true rfl) ⟨by decide, by decide⟩ dX10_has_43 (fun H locs hG => ?_)
          refine lv_if_eq (tgt := 53) hx hb dX10_has_46 (by decide) (fun hc14 => ?_) (fun hc14 => ?_)
          · rw [if_pos hc14] at hf
            refine lv_iconst (v := 0) hx hb dX10_has_53 (by decide) ?_
            exact w_X10_has_54 hB _ _ _ h12 ((0 : Int32)) hG (lv_sub hl [] rfl) hf
          · rw [if_neg hc14] at hf
            refine lv_iconst (v := 1) hx hb dX10_has_49 (by decide) ?_
            refine lv_goto (tgt := 54) hx hb dX10_has_50 (by decide) ?_
            exact w_X10_has_54 hB _ _ _ h12 ((1 : Int32)) hG (lv_sub hl [] rfl) hf
        · rw [if_pos hc15] at hf
          exact w_X10_has_32 hB _ _ _ h7  hG (lv_sub hl [] rfl) hf
end G_X10_has
theorem c_X10_has {l : Launch} {D : va_G} {K : Nat → ClassId} {b0 N : Nat} {h : zh_H} {x0 : Nat} {x1 : Int32} {x2 : Int32} {x3 : Int32} {r : Int32} {h2 : zh_H} (hf : b_X10_has_0 h x0 x1 x2 x3 = some (r, h2)) : zc l yX10_has cX10_has 4 (some .int) 2 0 0 D K b0 N h [.ref x0, .int x1, .int x2, .int x3] (zq (some (.int r)) N h2) := by
  refine zc.of [(0, .ref x0), (1, .int x1), (2, .int x2), (3, .int x3)] (by decide) rfl (Nat.le_of_ble_eq_true rfl) ?_
  intro p e s m args below meth c hB hnm hG ls hl
  exact w_X10_has_0 (res := (r, h2)) hB _ _ ls h x0 x1 x2 x3 hG (lv_sub hl [0, 1, 2, 3] rfl) hf

section G_X9_clear
variable {p : Program} {l : Launch} {e : Env} {s : State} {m : MethodId} {args : Array Value} {below : List Frame} {meth : Method} {c : Code} {D : va_G} {K : Nat → ClassId} {b0 N : Nat}
set_option maxRecDepth 100000 in
set_option maxHeartbeats 4000000 in
theorem w_X9_clear_0 {res : zh_H} (hB : zc_B p s m args meth c cX9_clear 1 RX9 none D K) : ∀ (H : Heap) (locs : List Loc) (ls : Array Slot) (h : zh_H) (x0 : Nat), zh_G D K b0 N h s.heap H locs → lv_has ls 1 [(0, .ref x0)] → b_X9_clear_0 h x0 = some res → W p l e (zc_rm 0 0 0) s m args below meth c H locs 0 0 (MQ below (zc_Q D K b0 (zq none N res)) args s 0 0 (fun q => b0 ≤ q)) (F0 m 0 ls []) := by
  have hx := hB.1
  have hb := hB.2.1
  intro H locs ls h x0 hG hl hf
  unfold b_X9_clear_0 at hf
  refine lv_aload_n hx hb dX9_clear_0 rfl (lv_at hl 0 rfl) ?_
  refine lv_iconst (v := 0) hx hb dX9_clear_1 (by decide) ?_
  obtain ⟨h1, eh1, hf⟩ := zb hf
  refine zr_put hB hG zF_9 (by decide) kf_X9_15 rfl rfl rfl eh1 dX9_clear_2 (fun H locs hG => ?_)
  obtain rfl := Option.some.inj hf
  exact zr_vret hB hG ⟨rfl, rfl, rfl⟩ dX9_clear_5
end G_X9_clear
theorem c_X9_clear {l : Launch} {D : va_G} {K : Nat → ClassId} {b0 N : Nat} {h : zh_H} {x0 : Nat} {h2 : zh_H} (hf : b_X9_clear_0 h x0 = some h2) : zc l yX9_clear cX9_clear 1 none 0 0 0 D K b0 N h [.ref x0] (zq none N h2) := by
  refine zc.of [(0, .ref x0)] (by decide) rfl (Nat.le_of_ble_eq_true rfl) ?_
  intro p e s m args below meth c hB hnm hG ls hl
  exact w_X9_clear_0 (res := h2) hB _ _ ls h x0 hG (lv_sub hl [0] rfl) hf

section G_X8_get
variable {p : Program} {l : Launch} {e : Env} {s : State} {m : MethodId} {args : Array Value} {below : List Frame} {meth : Method} {c : Code} {D : va_G} {K : Nat → ClassId} {b0 N : Nat}
set_option maxRecDepth 100000 in
set_option maxHeartbeats 4000000 in
theorem w_X8_get_23 {res : (Int32 × zh_H)} (hB : zc_B p s m args meth c cX8_get 4 RX8 (some .int) D K) : ∀ (H : Heap) (locs : List Loc) (ls : Array Slot) (h : zh_H), zh_G D K b0 N h s.heap H locs → lv_has ls 4 [] → b_X8_get_23 h  = some res → W p l e (zc_rm 1 0 0) s m args below meth c H locs 0 0 (MQ below (zc_Q D K b0 (zq (some (.int res.1)) N res.2)) args s 0 0 (fun q => b0 ≤ q)) (F0 m 23 ls []) := by
  have hx := hB.1
  have hb := hB.2.1
  intro H locs ls h  hG hl hf
  unfold b_X8_get_23 at hf
  refine lv_iconst (v := 0) hx hb dX8_get_23 (by decide) ?_
  obtain rfl := Option.some.inj hf
  exact zr_iret hB hG ⟨rfl, rfl, rfl⟩ dX8_get_24

set_option maxRecDepth 100000 in
set_option maxHeartbeats 4000000 in
theorem w_X8_get_0 {res : (Int32 × zh_H)} (hB : zc_B p s m args meth c cX8_get 4 RX8 (some .int) D K) : ∀ (H : Heap) (locs : List Loc) (ls : Array Slot) (h : zh_H) (x0 : Nat) (x1 : Int32) (x2 : Int32), zh_G D K b0 N h s.heap H locs → lv_has ls 4 [(0, .ref x0), (1, .int x1), (2, .int x2)] → b_X8_get_0 h x0 x1 x2 = some res → W p l e (zc_rm 1 0 0) s m args below meth c H locs 0 0 (MQ below (zc_Q D K b0 (zq (some (.int res.1)) N res.2)) args s 0 0 (fun q => b0 ≤ q)) (F0 m 0 ls []) := by
  have hx := hB.1
  have hb := hB.2.1
  intro H locs ls h x0 x1 x2 hG hl hf
  unfold b_X8_get_0 at hf
  refine lv_aload_n hx hb dX8_get_0 rfl (lv_at hl 0 rfl) ?_
  refine lv_iload_n hx hb dX8_get_1 rfl (lv_at hl 1 rfl) ?_
  refine lv_iload_n hx hb dX8_get_2 rfl (lv_at hl 2 rfl) ?_
  obtain ⟨o1, eo1, hf⟩ := zb hf
  obtain ⟨v3, h2, eh2, hf⟩ := zbp_s hf
  refine zr_callV (As := [.int x1, .int x2]) kc_X8_22 hB hG (c_X8_cellOf eh2) eo1 rfl hl.1 rfl ⟨by decide, by decide⟩ (Nat.le_of_ble_eq_true rfl) ⟨by decide, by decide⟩ dX8_get_3 (fun H locs hG => ?_)
  refine lv_istore_n (lv' := [(3, .int v3), (0, .ref x0), (1, .int x1), (2, .int x2)]) hx hb dX8_get_6 rfl hl (by decide) rfl (fun ls hl => ?_)
  refine lv_iload_n hx hb dX8_get_7 rfl (lv_at hl 0 rfl) ?_
  refine lv_if_lt (tgt := 23) hx hb dX8_get_8 (by decide) (fun hc9 => ?_) (fun hc9 => ?_)
  · rw [if_pos hc9] at hf
    exact w_X8_get_23 hB _ _ _ h2  hG (lv_sub hl [] rfl) hf
  · rw [if_neg hc9] at hf
    refine lv_iload_n hx hb dX8_get_11 rfl (lv_at hl 0 rfl) ?_
    refine lv_bipush (v := 16) hx hb dX8_get_12 (by decide) ?_
    refine lv_idiv hx hb dX8_get_14 (by decide) ?_
    refine lv_aload_n hx hb dX8_get_15 rfl (lv_at hl 1 rfl) ?_
    obtain ⟨a4, ea4, hf⟩ := zb hf
    refine zr_getR hB hG zF_8 (by decide) kf_X8_11 ea4 dX8_get_16 ?_
    obtain ⟨v5, ev5, hf⟩ := zb hf
    refine zr_alen ⟨_, rfl⟩ hB hG ev5 dX8_get_19 ?_
    refine lv_icmp_lt (tgt := 25) hx hb dX8_get_20 (by decide) (fun hc8 => ?_) (fun hc8 => ?_)
    · rw [if_pos hc8] at hf
      refine lv_aload_n hx hb dX8_get_25 rfl (lv_at hl 1 rfl) ?_
      obtain ⟨a6, ea6, hf⟩ := zb hf
      refine zr_getR hB hG zF_8 (by decide) kf_X8_11 ea6 dX8_get_26 ?_
      refine lv_iload_n hx hb dX8_get_29 rfl (lv_at hl 0 rfl) ?_
      refine lv_bipush (v := 16) hx hb dX8_get_30 (by decide) ?_
      refine lv_idiv hx hb dX8_get_32 (by decide) ?_
      obtain ⟨u7, eu7, hf⟩ := zb hf
      refine zr_lald hB hG eu7 dX8_get_33 ?_
      refine lv_iload_n hx hb dX8_get_34 rfl (lv_at hl 0 rfl) ?_
      refine lv_bipush (v := 16) hx hb dX8_get_35 (by decide) ?_
      refine lv_irem hx hb dX8_get_37 (by decide) ?_
      refine lv_iconst (v := 4) hx hb dX8_get_38 (by decide) ?_
      refine lv_imul hx hb dX8_get_39 ?_
      refine lv_lushr hx hb dX8_get_40 rfl ?_
      refine lv_ldc2 (v := 15) hx hb hB.2.2.2.1 (hB.2.2.2.2.1 _ (zin kk_X8_26 rfl)) dX8_get_41 ?_
      refine lv_land hx hb dX8_get_44 ?_
      refine lv_l2i hx hb dX8_get_45 rfl ?_
      obtain rfl := Option.some.inj hf
      exact zr_iret hB hG ⟨rfl, rfl, rfl⟩ dX8_get_46
    · rw [if_neg hc8] at hf
      exact w_X8_get_23 hB _ _ _ h2  hG (lv_sub hl [] rfl) hf
end G_X8_get
theorem c_X8_get {l : Launch} {D : va_G} {K : Nat → ClassId} {b0 N : Nat} {h : zh_H} {x0 : Nat} {x1 : Int32} {x2 : Int32} {r : Int32} {h2 : zh_H} (hf : b_X8_get_0 h x0 x1 x2 = some (r, h2)) : zc l yX8_get cX8_get 4 (some .int) 1 0 0 D K b0 N h [.ref x0, .int x1, .int x2] (zq (some (.int r)) N h2) := by
  refine zc.of [(0, .ref x0), (1, .int x1), (2, .int x2)] (by decide) rfl (Nat.le_of_ble_eq_true rfl) ?_
  intro p e s m args below meth c hB hnm hG ls hl
  exact w_X8_get_0 (res := (r, h2)) hB _ _ ls h x0 x1 x2 hG (lv_sub hl [0, 1, 2] rfl) hf

