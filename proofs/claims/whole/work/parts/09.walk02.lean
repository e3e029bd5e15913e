section G_X5_lay
variable {p : Program} {l : Launch} {e : Env} {s : State} {m : MethodId} {args : Array Value} {below : List Frame} {meth : Method} {c : Code} {D : va_G} {K : Nat → ClassId} {b0 N : Nat}
set_option maxRecDepth 100000 in
set_option maxHeartbeats 4000000 in
theorem w_X5_lay_34 {res : zh_H} (hB : zc_B p s m args meth c cX5_lay 6 RX5 none D K) : ∀ (H : Heap) (locs : List Loc) (ls : Array Slot) (h : zh_H) (x0 : Nat) (x5 : Int32) (y0 : Int32) (y1 : Nat), zh_G D K b0 N h s.heap H locs → lv_has ls 6 [(0, .ref x0), (5, .int x5)] → b_X5_lay_34 h x0 x5 y0 y1 = some res → W p l e (zc_rm 1 0 0) s m args below meth c H locs 0 0 (MQ below (zc_Q D K b0 (zq none N res)) args s 0 0 (fun q => b0 ≤ q)) (F0 m 34 ls [.int y0, .ref y1]) := by
  have hx := hB.1
  have hb := hB.2.1
  intro H locs ls h x0 x5 y0 y1 hG hl hf
  unfold b_X5_lay_34 at hf
  obtain ⟨h1, eh1, hf⟩ := zb hf
  refine zr_put hB hG zF_5 (by decide) kf_X5_84 rfl rfl rfl eh1 dX5_lay_34 (fun H locs hG => ?_)
  refine lv_aload_n hx hb dX5_lay_37 rfl (lv_at hl 0 rfl) ?_
  refine lv_iload hx hb dX5_lay_38 (lv_at hl 1 rfl) ?_
  obtain ⟨h2, eh2, hf⟩ := zb hf
  refine zr_putZ hB hG zF_5 (by decide) kf_X5_87 rfl rfl eh2 dX5_lay_40 (fun H locs hG => ?_)
  obtain rfl := Option.some.inj hf
  exact zr_vret hB hG ⟨rfl, rfl, rfl⟩ dX5_lay_43

set_option maxRecDepth 100000 in
set_option maxHeartbeats 4000000 in
theorem w_X5_lay_0 {res : zh_H} (hB : zc_B p s m args meth c cX5_lay 6 RX5 none D K) : ∀ (H : Heap) (locs : List Loc) (ls : Array Slot) (h : zh_H) (x0 : Nat) (x1 : Nat) (x2 : Nat) (x3 : Int32) (x4 : Int32) (x5 : Int32), zh_G D K b0 N h s.heap H locs → lv_has ls 6 [(0, .ref x0), (1, .ref x1), (2, .ref x2), (3, .int x3), (4, .int x4), (5, .int x5)] → b_X5_lay_0 h x0 x1 x2 x3 x4 x5 = some res → W p l e (zc_rm 1 0 0) s m args below meth c H locs 0 0 (MQ below (zc_Q D K b0 (zq none N res)) args s 0 0 (fun q => b0 ≤ q)) (F0 m 0 ls []) := by
  have hx := hB.1
  have hb := hB.2.1
  intro H locs ls h x0 x1 x2 x3 x4 x5 hG hl hf
  unfold b_X5_lay_0 at hf
  refine lv_aload_n hx hb dX5_lay_0 rfl (lv_at hl 0 rfl) ?_
  refine lv_aload_n hx hb dX5_lay_1 rfl (lv_at hl 1 rfl) ?_
  obtain ⟨h1, eh1, hf⟩ := zb hf
  refine zr_put hB hG zF_5 (by decide) kf_X5_14 rfl rfl rfl eh1 dX5_lay_2 (fun H locs hG => ?_)
  refine lv_aload_n hx hb dX5_lay_5 rfl (lv_at hl 0 rfl) ?_
  refine lv_aload_n hx hb dX5_lay_6 rfl (lv_at hl 2 rfl) ?_
  obtain ⟨h2, eh2, hf⟩ := zb hf
  refine zr_put hB hG zF_5 (by decide) kf_X5_23 rfl rfl rfl eh2 dX5_lay_7 (fun H locs hG => ?_)
  refine lv_aload_n hx hb dX5_lay_10 rfl (lv_at hl 0 rfl) ?_
  refine lv_iload_n hx hb dX5_lay_11 rfl (lv_at hl 3 rfl) ?_
  obtain ⟨h3, eh3, hf⟩ := zb hf
  refine zr_put hB hG zF_5 (by decide) kf_X5_77 rfl rfl rfl eh3 dX5_lay_12 (fun H locs hG => ?_)
  refine lv_aload_n hx hb dX5_lay_15 rfl (lv_at hl 0 rfl) ?_
  refine lv_aload_n hx hb dX5_lay_16 rfl (lv_at hl 2 rfl) ?_
  refine lv_iload_n hx hb dX5_lay_17 rfl (lv_at hl 3 rfl) ?_
  refine lv_iload hx hb dX5_lay_18 (lv_at hl 4 rfl) ?_
  obtain ⟨o4, eo4, hf⟩ := zb hf
  obtain ⟨v6, h5, eh5, hf⟩ := zbp_s hf
  refine zr_callV (As := [.int x3, .int x4]) kc_X5_80 hB hG (c_X0_isPart eh5) eo4 rfl hl.1 rfl ⟨by decide, by decide⟩ (Nat.le_of_ble_eq_true rfl) ⟨by decide, by decide⟩ dX5_lay_20 (fun H locs hG => ?_)
  refine lv_if_eq (tgt := 33) hx hb dX5_lay_23 (by decide) (fun hc7 => ?_) (fun hc7 => ?_)
  · rw [if_pos hc7] at hf
    refine lv_iconst (v := 0) hx hb dX5_lay_33 (by decide) ?_
    exact w_X5_lay_34 hB _ _ _ h5 (x0) (x5) ((0 : Int32)) (x0) hG (lv_sub hl [0, 5] rfl) hf
  · rw [if_neg hc7] at hf
    refine lv_iload hx hb dX5_lay_26 (lv_at hl 4 rfl) ?_
    refine lv_iload_n hx hb dX5_lay_28 rfl (lv_at hl 3 rfl) ?_
    refine lv_isub hx hb dX5_lay_29 ?_
    refine lv_goto (tgt := 34) hx hb dX5_lay_30 (by decide) ?_
    exact w_X5_lay_34 hB _ _ _ h5 (x0) (x5) ((x4 - x3)) (x0) hG (lv_sub hl [0, 5] rfl) hf
end G_X5_lay
theorem c_X5_lay {l : Launch} {D : va_G} {K : Nat → ClassId} {b0 N : Nat} {h : zh_H} {x0 : Nat} {x1 : Nat} {x2 : Nat} {x3 : Int32} {x4 : Int32} {x5 : Int32} {h2 : zh_H} (hf : b_X5_lay_0 h x0 x1 x2 x3 x4 x5 = some h2) : zc l yX5_lay cX5_lay 6 none 1 0 0 D K b0 N h [.ref x0, .ref x1, .ref x2, .int x3, .int x4, .int x5] (zq none N h2) := by
  refine zc.of [(0, .ref x0), (1, .ref x1), (2, .ref x2), (3, .int x3), (4, .int x4), (5, .int x5)] (by decide) rfl (Nat.le_of_ble_eq_true rfl) ?_
  intro p e s m args below meth c hB hnm hG ls hl
  exact w_X5_lay_0 (res := h2) hB _ _ ls h x0 x1 x2 x3 x4 x5 hG (lv_sub hl [0, 1, 2, 3, 4, 5] rfl) hf

section G_X8_widen
variable {p : Program} {l : Launch} {e : Env} {s : State} {m : MethodId} {args : Array Value} {below : List Frame} {meth : Method} {c : Code} {D : va_G} {K : Nat → ClassId} {b0 N : Nat}
set_option maxRecDepth 100000 in
set_option maxHeartbeats 4000000 in
theorem w_X8_widen_0 {res : zh_H} (hB : zc_B p s m args meth c cX8_widen 3 RX8 none D K) : ∀ (H : Heap) (locs : List Loc) (ls : Array Slot) (h : zh_H) (x0 : Nat) (x1 : Int32) (x2 : Int32), zh_G D K b0 N h s.heap H locs → lv_has ls 3 [(0, .ref x0), (1, .int x1), (2, .int x2)] → b_X8_widen_0 h x0 x1 x2 = some res → W p l e (zc_rm 0 0 0) s m args below meth c H locs 0 0 (MQ below (zc_Q D K b0 (zq none N res)) args s 0 0 (fun q => b0 ≤ q)) (F0 m 0 ls []) := by
  have hx := hB.1
  have hb := hB.2.1
  intro H locs ls h x0 x1 x2 hG hl hf
  unfold b_X8_widen_0 at hf
  refine lv_aload_n hx hb dX8_widen_0 rfl (lv_at hl 0 rfl) ?_
  refine lv_iload_n hx hb dX8_widen_1 rfl (lv_at hl 1 rfl) ?_
  obtain ⟨h1, eh1, hf⟩ := zb hf
  refine zr_put hB hG zF_8 (by decide) kf_X8_15 rfl rfl rfl eh1 dX8_widen_2 (fun H locs hG => ?_)
  refine lv_aload_n hx hb dX8_widen_5 rfl (lv_at hl 0 rfl) ?_
  refine lv_iload_n hx hb dX8_widen_6 rfl (lv_at hl 2 rfl) ?_
  refine lv_iload_n hx hb dX8_widen_7 rfl (lv_at hl 1 rfl) ?_
  refine lv_isub hx hb dX8_widen_8 ?_
  refine lv_iconst (v := 1) hx hb dX8_widen_9 (by decide) ?_
  refine lv_iadd hx hb dX8_widen_10 ?_
  obtain ⟨h2, eh2, hf⟩ := zb hf
  refine zr_put hB hG zF_8 (by decide) kf_X8_19 rfl rfl rfl eh2 dX8_widen_11 (fun H locs hG => ?_)
  obtain rfl := Option.some.inj hf
  exact zr_vret hB hG ⟨rfl, rfl, rfl⟩ dX8_widen_14
end G_X8_widen
theorem c_X8_widen {l : Launch} {D : va_G} {K : Nat → ClassId} {b0 N : Nat} {h : zh_H} {x0 : Nat} {x1 : Int32} {x2 : Int32} {h2 : zh_H} (hf : b_X8_widen_0 h x0 x1 x2 = some h2) : zc l yX8_widen cX8_widen 3 none 0 0 0 D K b0 N h [.ref x0, .int x1, .int x2] (zq none N h2) := by
  refine zc.of [(0, .ref x0), (1, .int x1), (2, .int x2)] (by decide) rfl (Nat.le_of_ble_eq_true rfl) ?_
  intro p e s m args below meth c hB hnm hG ls hl
  exact w_X8_widen_0 (res := h2) hB _ _ ls h x0 x1 x2 hG (lv_sub hl [0, 1, 2] rfl) hf

section G_X5_closeAbove
variable {p : Program} {l : Launch} {e : Env} {s : State} {m : MethodId} {args : Array Value} {below : List Frame} {meth : Method} {c : Code} {D : va_G} {K : Nat → ClassId} {b0 N : Nat}
set_option maxRecDepth 100000 in
set_option maxHeartbeats 4000000 in
theorem w_X5_closeAbove_21 {res : zh_H} (hB : zc_B p s m args meth c cX5_closeAbove 2 RX5 none D K) : ∀ (H : Heap) (locs : List Loc) (ls : Array Slot) (h : zh_H), zh_G D K b0 N h s.heap H locs → lv_has ls 2 [] → b_X5_closeAbove_21 h  = some res → W p l e (zc_rm 0 0 0) s m args below meth c H locs 0 0 (MQ below (zc_Q D K b0 (zq none N res)) args s 0 0 (fun q => b0 ≤ q)) (F0 m 21 ls []) := by
  have hx := hB.1
  have hb := hB.2.1
  intro H locs ls h  hG hl hf
  unfold b_X5_closeAbove_21 at hf
  obtain rfl := Option.some.inj hf
  exact zr_vret hB hG ⟨rfl, rfl, rfl⟩ dX5_closeAbove_21

set_option maxRecDepth 100000 in
set_option maxHeartbeats 4000000 in
theorem w_X5_closeAbove_0 {res : zh_H} (hB : zc_B p s m args meth c cX5_closeAbove 2 RX5 none D K) : ∀ (H : Heap) (locs : List Loc) (ls : Array Slot) (h : zh_H) (x0 : Nat) (x1 : Int32), zh_G D K b0 N h s.heap H locs → lv_has ls 2 [(0, .ref x0), (1, .int x1)] → b_X5_closeAbove_0 h x0 x1 = some res → W p l e (zc_rm 0 0 0) s m args below meth c H locs 0 0 (MQ below (zc_Q D K b0 (zq none N res)) args s 0 0 (fun q => b0 ≤ q)) (F0 m 0 ls []) := by
  have hx := hB.1
  have hb := hB.2.1
  intro H locs ls h x0 x1 hG hl hf
  unfold b_X5_closeAbove_0 at hf
  refine lv_iload_n hx hb dX5_closeAbove_0 rfl (lv_at hl 1 rfl) ?_
  refine lv_aload_n hx hb dX5_closeAbove_1 rfl (lv_at hl 0 rfl) ?_
  obtain ⟨a1, ea1, hf⟩ := zb hf
  refine zr_getR hB hG zF_5 (by decide) kf_X5_14 ea1 dX5_closeAbove_2 ?_
  obtain ⟨v2, ev2, hf⟩ := zb hf
  refine zr_getI hB hG zF_7 (by decide) kf_X5_90 ev2 dX5_closeAbove_5 ?_
  refine lv_icmp_ge (tgt := 21) hx hb dX5_closeAbove_8 (by decide) (fun hc5 => ?_) (fun hc5 => ?_)
  · rw [if_pos hc5] at hf
    exact w_X5_closeAbove_21 hB _ _ _ h  hG (lv_sub hl [] rfl) hf
  · rw [if_neg hc5] at hf
    refine lv_aload_n hx hb dX5_closeAbove_11 rfl (lv_at hl 0 rfl) ?_
    obtain ⟨a3, ea3, hf⟩ := zb hf
    refine zr_getR hB hG zF_5 (by decide) kf_X5_27 ea3 dX5_closeAbove_12 ?_
    refine lv_iload_n hx hb dX5_closeAbove_15 rfl (lv_at hl 1 rfl) ?_
    refine lv_iconst (v := 1) hx hb dX5_closeAbove_16 (by decide) ?_
    refine lv_iadd hx hb dX5_closeAbove_17 ?_
    refine lv_ldc (v := 1048576) hx hb hB.2.2.2.1 (hB.2.2.2.2.1 _ (zin kk_X5_130 rfl)) dX5_closeAbove_18 ?_
    obtain ⟨h4, eh4, hf⟩ := zb hf
    refine zr_iast hB hG eh4 dX5_closeAbove_20 (fun H locs hG => ?_)
    exact w_X5_closeAbove_21 hB _ _ _ h4  hG (lv_sub hl [] rfl) hf
end G_X5_closeAbove
theorem c_X5_closeAbove {l : Launch} {D : va_G} {K : Nat → ClassId} {b0 N : Nat} {h : zh_H} {x0 : Nat} {x1 : Int32} {h2 : zh_H} (hf : b_X5_closeAbove_0 h x0 x1 = some h2) : zc l yX5_closeAbove cX5_closeAbove 2 none 0 0 0 D K b0 N h [.ref x0, .int x1] (zq none N h2) := by
  refine zc.of [(0, .ref x0), (1, .int x1)] (by decide) rfl (Nat.le_of_ble_eq_true rfl) ?_
  intro p e s m args below meth c hB hnm hG ls hl
  exact w_X5_closeAbove_0 (res := h2) hB _ _ ls h x0 x1 hG (lv_sub hl [0, 1] rfl) hf

section G_X5_fillFirstColumn
variable {p : Program} {l : Launch} {e : Env} {s : State} {m : MethodId} {args : Array Value} {below : List Frame} {meth : Method} {c : Code} {D : va_G} {K : Nat → ClassId} {b0 N : Nat}
set_option maxRecDepth 100000 in
set_option maxHeartbeats 4000000 in
theorem w_X5_fillFirstColumn_17 {res : zh_H} (hB : zc_B p s m args meth c cX5_fillFirstColumn 3 RX5 none D K) : ∀ n : Nat, ∀ (H : Heap) (locs : List Loc) (ls : Array Slot) (h : zh_H) (x0 : Nat) (x1 : Int32) (x2 : Int32), zh_G D K b0 N h s.heap H locs → lv_has ls 3 [(0, .ref x0), (1, .int x1), (2, .int x2)] → b_X5_fillFirstColumn_17 n h x0 x1 x2 = some res → W p l e (zc_rm 1 0 0) s m args below meth c H locs 0 0 (MQ below (zc_Q D K b0 (zq none N res)) args s 0 0 (fun q => b0 ≤ q)) (F0 m 17 ls []) := by
  have hx := hB.1
  have hb := hB.2.1
  intro n
  induction n with
  | zero =>
    intro H locs ls h x0 x1 x2 hG hl hf
    cases hf
  | succ n ih =>
    intro H locs ls h x0 x1 x2 hG hl hf
    unfold b_X5_fillFirstColumn_17 at hf
    refine lv_iload_n hx hb dX5_fillFirstColumn_17 rfl (lv_at hl 2 rfl) ?_
    refine lv_iload_n hx hb dX5_fillFirstColumn_18 rfl (lv_at hl 1 rfl) ?_
    refine lv_icmp_gt (tgt := 35) hx hb dX5_fillFirstColumn_19 (by decide) (fun hc5 => ?_) (fun hc5 => ?_)
    · rw [if_pos hc5] at hf
      refine lv_aload_n hx hb dX5_fillFirstColumn_35 rfl (lv_at hl 0 rfl) ?_
      refine lv_iload_n hx hb dX5_fillFirstColumn_36 rfl (lv_at hl 1 rfl) ?_
      obtain ⟨o1, eo1, hf⟩ := zb hf
      obtain ⟨h2, eh2, hf⟩ := zb hf
      refine zr_callVv (As := [.int x1]) kc_X5_121 hB hG (c_X5_closeAbove eh2) eo1 rfl hl.1 rfl ⟨by decide, by decide⟩ (Nat.le_of_ble_eq_true rfl) ⟨by decide, by decide⟩ dX5_fillFirstColumn_37 (fun H locs hG => ?_)
      obtain rfl := Option.some.inj hf
      exact zr_vret hB hG ⟨rfl, rfl, rfl⟩ dX5_fillFirstColumn_40
    · rw [if_neg hc5] at hf
      refine lv_aload_n hx hb dX5_fillFirstColumn_22 rfl (lv_at hl 0 rfl) ?_
      obtain ⟨a3, ea3, hf⟩ := zb hf
      refine zr_getR hB hG zF_5 (by decide) kf_X5_27 ea3 dX5_fillFirstColumn_23 ?_
      refine lv_iload_n hx hb dX5_fillFirstColumn_26 rfl (lv_at hl 2 rfl) ?_
      refine lv_iload_n hx hb dX5_fillFirstColumn_27 rfl (lv_at hl 2 rfl) ?_
      obtain ⟨h4, eh4, hf⟩ := zb hf
      refine zr_iast hB hG eh4 dX5_fillFirstColumn_28 (fun H locs hG => ?_)
      refine lv_iinc (v := (x2 + (1 : Int32))) (lv' := [(2, .int (x2 + (1 : Int32))), (0, .ref x0), (1, .int x1)]) hx hb dX5_fillFirstColumn_29 hl (k := 2) rfl rfl (by decide) rfl (fun ls hl => ?_)
      refine lv_goto (tgt := 17) hx hb dX5_fillFirstColumn_32 (by decide) ?_
      exact ih _ _ _ h4 (x0) (x1) ((x2 + (1 : Int32))) hG (lv_sub hl [1, 2, 0] rfl) hf

set_option maxRecDepth 100000 in
set_option maxHeartbeats 4000000 in
theorem w_X5_fillFirstColumn_0 {res : zh_H} (hB : zc_B p s m args meth c cX5_fillFirstColumn 3 RX5 none D K) : ∀ (H : Heap) (locs : List Loc) (ls : Array Slot) (h : zh_H) (x0 : Nat), zh_G D K b0 N h s.heap H locs → lv_has ls 3 [(0, .ref x0)] → b_X5_fillFirstColumn_0 h x0 = some res → W p l e (zc_rm 1 0 0) s m args below meth c H locs 0 0 (MQ below (zc_Q D K b0 (zq none N res)) args s 0 0 (fun q => b0 ≤ q)) (F0 m 0 ls []) := by
  have hx := hB.1
  have hb := hB.2.1
  intro H locs ls h x0 hG hl hf
  unfold b_X5_fillFirstColumn_0 at hf
  refine lv_aload_n hx hb dX5_fillFirstColumn_0 rfl (lv_at hl 0 rfl) ?_
  obtain ⟨a1, ea1, hf⟩ := zb hf
  refine zr_getR hB hG zF_5 (by decide) kf_X5_14 ea1 dX5_fillFirstColumn_1 ?_
  obtain ⟨v2, ev2, hf⟩ := zb hf
  refine zr_getI hB hG zF_7 (by decide) kf_X5_90 ev2 dX5_fillFirstColumn_4 ?_
  refine lv_aload_n hx hb dX5_fillFirstColumn_7 rfl (lv_at hl 0 rfl) ?_
  obtain ⟨v3, ev3, hf⟩ := zb hf
  refine zr_getI hB hG zF_5 (by decide) kf_X5_108 ev3 dX5_fillFirstColumn_8 ?_
  refine zr_min km_X5_98 k_min k_Mi k_minc hl.1 hB dX5_fillFirstColumn_11 (by decide) (Nat.le_of_ble_eq_true rfl) ⟨by decide, by decide⟩ ?_
  refine lv_istore_n (lv' := [(1, .int (zmin v2 v3)), (0, .ref x0)]) hx hb dX5_fillFirstColumn_14 rfl hl (by decide) rfl (fun ls hl => ?_)
  refine lv_iconst (v := 0) hx hb dX5_fillFirstColumn_15 (by decide) ?_
  refine lv_istore_n (lv' := [(2, .int (0 : Int32)), (1, .int (zmin v2 v3)), (0, .ref x0)]) hx hb dX5_fillFirstColumn_16 rfl hl (by decide) rfl (fun ls hl => ?_)
  exact w_X5_fillFirstColumn_17 hB zFuel _ _ _ h (x0) ((zmin v2 v3)) ((0 : Int32)) hG (lv_sub hl [2, 1, 0] rfl) hf
end G_X5_fillFirstColumn
theorem c_X5_fillFirstColumn {l : Launch} {D : va_G} {K : Nat → ClassId} {b0 N : Nat} {h : zh_H} {x0 : Nat} {h2 : zh_H} (hf : b_X5_fillFirstColumn_0 h x0 = some h2) : zc l yX5_fillFirstColumn cX5_fillFirstColumn 3 none 1 0 0 D K b0 N h [.ref x0] (zq none N h2) := by
  refine zc.of [(0, .ref x0)] (by decide) rfl (Nat.le_of_ble_eq_true rfl) ?_
  intro p e s m args below meth c hB hnm hG ls hl
  exact w_X5_fillFirstColumn_0 (res := h2) hB _ _ ls h x0 hG (lv_sub hl [0] rfl) hf

section G_X7_half
variable {p : Program} {l : Launch} {e : Env} {s : State} {m : MethodId} {args : Array Value} {below : List Frame} {meth : Method} {c : Code} {D : va_G} {K : Nat → ClassId} {b0 N : Nat}
set_option maxRecDepth 100000 in
set_option maxHeartbeats 4000000 in
theorem w_X7_half_17 {res : (Nat × zh_H)} (hB : zc_B p s m args meth c cX7_half 2 RX7 (some (.array .long)) D K) : ∀ (H : Heap) (locs : List Loc) (ls : Array Slot) (h : zh_H) (y0 : Nat), zh_G D K b0 N h s.heap H locs → lv_has ls 2 [] → b_X7_half_17 h y0 = some res → W p l e (zc_rm 0 0 0) s m args below meth c H locs 0 0 (MQ below (zc_Q D K b0 (zq (some (.ref res.1)) N res.2)) args s 0 0 (fun q => b0 ≤ q)) (F0 m 17 ls [.ref y0]) := by
  have hx := hB.1
  have hb := hB.2.1
  intro H locs ls h y0 hG hl hf
  unfold b_X7_half_17 at hf
  obtain rfl := Option.some.inj hf
  exact zr_aret hB hG ⟨rfl, rfl, rfl⟩ dX7_half_17

set_option maxRecDepth 100000 in
set_option maxHeartbeats 4000000 in
theorem w_X7_half_0 {res : (Nat × zh_H)} (hB : zc_B p s m args meth c cX7_half 2 RX7 (some (.array .long)) D K) : ∀ (H : Heap) (locs : List Loc) (ls : Array Slot) (h : zh_H) (x0 : Nat) (x1 : Int32), zh_G D K b0 N h s.heap H locs → lv_has ls 2 [(0, .ref x0), (1, .int x1)] → b_X7_half_0 h x0 x1 = some res → W p l e (zc_rm 0 0 0) s m args below meth c H locs 0 0 (MQ below (zc_Q D K b0 (zq (some (.ref res.1)) N res.2)) args s 0 0 (fun q => b0 ≤ q)) (F0 m 0 ls []) := by
  have hx := hB.1
  have hb := hB.2.1
  intro H locs ls h x0 x1 hG hl hf
  unfold b_X7_half_0 at hf
  refine lv_iload_n hx hb dX7_half_0 rfl (lv_at hl 1 rfl) ?_
  refine lv_bipush (v := 64) hx hb dX7_half_1 (by decide) ?_
  refine lv_icmp_ge (tgt := 13) hx hb dX7_half_3 (by decide) (fun hc3 => ?_) (fun hc3 => ?_)
  · rw [if_pos hc3] at hf
    refine lv_aload_n hx hb dX7_half_13 rfl (lv_at hl 0 rfl) ?_
    obtain ⟨a1, ea1, hf⟩ := zb hf
    refine zr_getR hB hG zF_7 (by decide) kf_X7_19 ea1 dX7_half_14 ?_
    exact w_X7_half_17 hB _ _ _ h (a1) hG (lv_sub hl [] rfl) hf
  · rw [if_neg hc3] at hf
    refine lv_aload_n hx hb dX7_half_6 rfl (lv_at hl 0 rfl) ?_
    obtain ⟨a2, ea2, hf⟩ := zb hf
    refine zr_getR hB hG zF_7 (by decide) kf_X7_13 ea2 dX7_half_7 ?_
    refine lv_goto (tgt := 17) hx hb dX7_half_10 (by decide) ?_
    exact w_X7_half_17 hB _ _ _ h (a2) hG (lv_sub hl [] rfl) hf
end G_X7_half
theorem c_X7_half {l : Launch} {D : va_G} {K : Nat → ClassId} {b0 N : Nat} {h : zh_H} {x0 : Nat} {x1 : Int32} {r : Nat} {h2 : zh_H} (hf : b_X7_half_0 h x0 x1 = some (r, h2)) : zc l yX7_half cX7_half 2 (some (.array .long)) 0 0 0 D K b0 N h [.ref x0, .int x1] (zq (some (.ref r)) N h2) := by
  refine zc.of [(0, .ref x0), (1, .int x1)] (by decide) rfl (Nat.le_of_ble_eq_true rfl) ?_
  intro p e s m args below meth c hB hnm hG ls hl
  exact w_X7_half_0 (res := (r, h2)) hB _ _ ls h x0 x1 hG (lv_sub hl [0, 1] rfl) hf

section G_X5_turnColumns
variable {p : Program} {l : Launch} {e : Env} {s : State} {m : MethodId} {args : Array Value} {below : List Frame} {meth : Method} {c : Code} {D : va_G} {K : Nat → ClassId} {b0 N : Nat}
set_option maxRecDepth 100000 in
set_option maxHeartbeats 4000000 in
theorem w_X5_turnColumns_0 {res : zh_H} (hB : zc_B p s m args meth c cX5_turnColumns 3 RX5 none D K) : ∀ (H : Heap) (locs : List Loc) (ls : Array Slot) (h : zh_H) (x0 : Nat) (x1 : Int32), zh_G D K b0 N h s.heap H locs → lv_has ls 3 [(0, .ref x0), (1, .int x1)] → b_X5_turnColumns_0 h x0 x1 = some res → W p l e (zc_rm 1 0 0) s m args below meth c H locs 0 0 (MQ below (zc_Q D K b0 (zq none N res)) args s 0 0 (fun q => b0 ≤ q)) (F0 m 0 ls []) := by
  have hx := hB.1
  have hb := hB.2.1
  intro H locs ls h x0 x1 hG hl hf
  unfold b_X5_turnColumns_0 at hf
  refine lv_aload_n hx hb dX5_turnColumns_0 rfl (lv_at hl 0 rfl) ?_
  obtain ⟨a1, ea1, hf⟩ := zb hf
  refine zr_getR hB hG zF_5 (by decide) kf_X5_34 ea1 dX5_turnColumns_1 ?_
  refine lv_astore_n (lv' := [(2, .ref a1), (0, .ref x0), (1, .int x1)]) hx hb dX5_turnColumns_4 rfl hl (by decide) rfl (fun ls hl => ?_)
  refine lv_aload_n hx hb dX5_turnColumns_5 rfl (lv_at hl 1 rfl) ?_
  refine lv_aload_n hx hb dX5_turnColumns_6 rfl (lv_at hl 1 rfl) ?_
  obtain ⟨a2, ea2, hf⟩ := zb hf
  refine zr_getR hB hG zF_5 (by decide) kf_X5_31 ea2 dX5_turnColumns_7 ?_
  obtain ⟨h3, eh3, hf⟩ := zb hf
  refine zr_put hB hG zF_5 (by decide) kf_X5_34 rfl rfl rfl eh3 dX5_turnColumns_10 (fun H locs hG => ?_)
  refine lv_aload_n hx hb dX5_turnColumns_13 rfl (lv_at hl 1 rfl) ?_
  refine lv_aload_n hx hb dX5_turnColumns_14 rfl (lv_at hl 1 rfl) ?_
  obtain ⟨a4, ea4, hf⟩ := zb hf
  refine zr_getR hB hG zF_5 (by decide) kf_X5_27 ea4 dX5_turnColumns_15 ?_
  obtain ⟨h5, eh5, hf⟩ := zb hf
  refine zr_put hB hG zF_5 (by decide) kf_X5_31 rfl rfl rfl eh5 dX5_turnColumns_18 (fun H locs hG => ?_)
  refine lv_aload_n hx hb dX5_turnColumns_21 rfl (lv_at hl 1 rfl) ?_
  refine lv_aload_n hx hb dX5_turnColumns_22 rfl (lv_at hl 0 rfl) ?_
  obtain ⟨h6, eh6, hf⟩ := zb hf
  refine zr_put hB hG zF_5 (by decide) kf_X5_27 rfl rfl rfl eh6 dX5_turnColumns_23 (fun H locs hG => ?_)
  refine lv_aload_n hx hb dX5_turnColumns_26 rfl (lv_at hl 1 rfl) ?_
  refine lv_aload_n hx hb dX5_turnColumns_27 rfl (lv_at hl 1 rfl) ?_
  obtain ⟨v7, ev7, hf⟩ := zb hf
  refine zr_getI hB hG zF_5 (by decide) kf_X5_37 ev7 dX5_turnColumns_28 ?_
  obtain ⟨h8, eh8, hf⟩ := zb hf
  refine zr_put hB hG zF_5 (by decide) kf_X5_41 rfl rfl rfl eh8 dX5_turnColumns_31 (fun H locs hG => ?_)
  refine lv_aload_n hx hb dX5_turnColumns_34 rfl (lv_at hl 1 rfl) ?_
  refine lv_aload_n hx hb dX5_turnColumns_35 rfl (lv_at hl 1 rfl) ?_
  obtain ⟨a9, ea9, hf⟩ := zb hf
  refine zr_getR hB hG zF_5 (by decide) kf_X5_48 ea9 dX5_turnColumns_36 ?_
  obtain ⟨h10, eh10, hf⟩ := zb hf
  refine zr_put hB hG zF_5 (by decide) kf_X5_51 rfl rfl rfl eh10 dX5_turnColumns_39 (fun H locs hG => ?_)
  refine lv_aload_n hx hb dX5_turnColumns_42 rfl (lv_at hl 1 rfl) ?_
  refine lv_iload_n hx hb dX5_turnColumns_43 rfl (lv_at hl 2 rfl) ?_
  obtain ⟨h11, eh11, hf⟩ := zb hf
  refine zr_put hB hG zF_5 (by decide) kf_X5_37 rfl rfl rfl eh11 dX5_turnColumns_44 (fun H locs hG => ?_)
  refine lv_aload_n hx hb dX5_turnColumns_47 rfl (lv_at hl 1 rfl) ?_
  refine lv_aload_n hx hb dX5_turnColumns_48 rfl (lv_at hl 1 rfl) ?_
  obtain ⟨a12, ea12, hf⟩ := zb hf
  refine zr_getR hB hG zF_5 (by decide) kf_X5_14 ea12 dX5_turnColumns_49 ?_
  refine lv_iload_n hx hb dX5_turnColumns_52 rfl (lv_at hl 2 rfl) ?_
  obtain ⟨o13, eo13, hf⟩ := zb hf
  obtain ⟨a15, h14, eh14, hf⟩ := zbp_s hf
  refine zr_callV (As := [.int x1]) kc_X5_134 hB hG (c_X7_half eh14) eo13 rfl hl.1 rfl ⟨by decide, by decide⟩ (Nat.le_of_ble_eq_true rfl) ⟨by decide, by decide⟩ dX5_turnColumns_53 (fun H locs hG => ?_)
  obtain ⟨h16, eh16, hf⟩ := zb hf
  refine zr_put hB hG zF_5 (by decide) kf_X5_48 rfl rfl rfl eh16 dX5_turnColumns_56 (fun H locs hG => ?_)
  obtain rfl := Option.some.inj hf
  exact zr_vret hB hG ⟨rfl, rfl, rfl⟩ dX5_turnColumns_59
end G_X5_turnColumns
theorem c_X5_turnColumns {l : Launch} {D : va_G} {K : Nat → ClassId} {b0 N : Nat} {h : zh_H} {x0 : Nat} {x1 : Int32} {h2 : zh_H} (hf : b_X5_turnColumns_0 h x0 x1 = some h2) : zc l yX5_turnColumns cX5_turnColumns 3 none 1 0 0 D K b0 N h [.ref x0, .int x1] (zq none N h2) := by
  refine zc.of [(0, .ref x0), (1, .int x1)] (by decide) rfl (Nat.le_of_ble_eq_true rfl) ?_
  intro p e s m args below meth c hB hnm hG ls hl
  exact w_X5_turnColumns_0 (res := h2) hB _ _ ls h x0 x1 hG (lv_sub hl [0, 1] rfl) hf

section G_X5_isSwap
variable {p : Program} {l : Launch} {e : Env} {s : State} {m : MethodId} {args : Array Value} {below : List Frame} {meth : Method} {c : Code} {D : va_G} {K : Nat → ClassId} {b0 N : Nat}
set_option maxRecDepth 100000 in
set_option maxHeartbeats 4000000 in
theorem w_X5_isSwap_45 {res : (Int32 × zh_H)} (hB : zc_B p s m args meth c cX5_isSwap 2 RX5 (some .boolean) D K) : ∀ (H : Heap) (locs : List Loc) (ls : Array Slot) (h : zh_H) (y0 : Int32), zh_G D K b0 N h s.heap H locs → lv_has ls 2 [] → b_X5_isSwap_45 h y0 = some res → W p l e (zc_rm 0 0 0) s m args below meth c H locs 0 0 (MQ below (zc_Q D K b0 (zq (some (.int res.1)) N res.2)) args s 0 0 (fun q => b0 ≤ q)) (F0 m 45 ls [.int y0]) := by
  have hx := hB.1
  have hb := hB.2.1
  intro H locs ls h y0 hG hl hf
  unfold b_X5_isSwap_45 at hf
  obtain ⟨hz, hf⟩ := zif_s hf
  obtain rfl := Option.some.inj hf
  exact zr_zret hB hG hz ⟨rfl, rfl, rfl⟩ dX5_isSwap_45

set_option maxRecDepth 100000 in
set_option maxHeartbeats 4000000 in
theorem w_X5_isSwap_44 {res : (Int32 × zh_H)} (hB : zc_B p s m args meth c cX5_isSwap 2 RX5 (some .boolean) D K) : ∀ (H : Heap) (locs : List Loc) (ls : Array Slot) (h : zh_H), zh_G D K b0 N h s.heap H locs → lv_has ls 2 [] → b_X5_isSwap_44 h  = some res → W p l e (zc_rm 0 0 0) s m args below meth c H locs 0 0 (MQ below (zc_Q D K b0 (zq (some (.int res.1)) N res.2)) args s 0 0 (fun q => b0 ≤ q)) (F0 m 44 ls []) := by
  have hx := hB.1
  have hb := hB.2.1
  intro H locs ls h  hG hl hf
  unfold b_X5_isSwap_44 at hf
  refine lv_iconst (v := 0) hx hb dX5_isSwap_44 (by decide) ?_
  exact w_X5_isSwap_45 hB _ _ _ h ((0 : Int32)) hG (lv_sub hl [] rfl) hf

set_option maxRecDepth 100000 in
set_option maxHeartbeats 4000000 in
theorem w_X5_isSwap_0 {res : (Int32 × zh_H)} (hB : zc_B p s m args meth c cX5_isSwap 2 RX5 (some .boolean) D K) : ∀ (H : Heap) (locs : List Loc) (ls : Array Slot) (h : zh_H) (x0 : Nat) (x1 : Int32), zh_G D K b0 N h s.heap H locs → lv_has ls 2 [(0, .ref x0), (1, .int x1)] → b_X5_isSwap_0 h x0 x1 = some res → W p l e (zc_rm 0 0 0) s m args below meth c H locs 0 0 (MQ below (zc_Q D K b0 (zq (some (.int res.1)) N res.2)) args s 0 0 (fun q => b0 ≤ q)) (F0 m 0 ls []) := by
  have hx := hB.1
  have hb := hB.2.1
  intro H locs ls h x0 x1 hG hl hf
  unfold b_X5_isSwap_0 at hf
  refine lv_aload_n hx hb dX5_isSwap_0 rfl (lv_at hl 0 rfl) ?_
  obtain ⟨a1, ea1, hf⟩ := zb hf
  refine zr_getR hB hG zF_5 (by decide) kf_X5_48 ea1 dX5_isSwap_1 ?_
  refine lv_iload_n hx hb dX5_isSwap_4 rfl (lv_at hl 1 rfl) ?_
  refine lv_iconst (v := 2) hx hb dX5_isSwap_5 (by decide) ?_
  refine lv_isub hx hb dX5_isSwap_6 ?_
  obtain ⟨u2, eu2, hf⟩ := zb hf
  refine zr_lald hB hG eu2 dX5_isSwap_7 ?_
  refine lv_aload_n hx hb dX5_isSwap_8 rfl (lv_at hl 0 rfl) ?_
  obtain ⟨v3, ev3, hf⟩ := zb hf
  refine zr_getI hB hG zF_5 (by decide) kf_X5_37 ev3 dX5_isSwap_9 ?_
  refine lv_lushr hx hb dX5_isSwap_12 rfl ?_
  refine lv_lconst (v := 1) hx hb dX5_isSwap_13 (by decide) ?_
  refine lv_land hx hb dX5_isSwap_14 ?_
  refine lv_lconst (v := 0) hx hb dX5_isSwap_15 (by decide) ?_
  refine W.lcmp hx hb dX5_isSwap_16 ?_
  refine lv_if_eq (tgt := 44) hx hb dX5_isSwap_17 (by decide) (fun hc8 => ?_) (fun hc8 => ?_)
  · rw [if_pos hc8] at hf
    exact w_X5_isSwap_44 hB _ _ _ h  hG (lv_sub hl [] rfl) hf
  · rw [if_neg hc8] at hf
    refine lv_aload_n hx hb dX5_isSwap_20 rfl (lv_at hl 0 rfl) ?_
    obtain ⟨a4, ea4, hf⟩ := zb hf
    refine zr_getR hB hG zF_5 (by decide) kf_X5_51 ea4 dX5_isSwap_21 ?_
    refine lv_iload_n hx hb dX5_isSwap_24 rfl (lv_at hl 1 rfl) ?_
    refine lv_iconst (v := 1) hx hb dX5_isSwap_25 (by decide) ?_
    refine lv_isub hx hb dX5_isSwap_26 ?_
    obtain ⟨u5, eu5, hf⟩ := zb hf
    refine zr_lald hB hG eu5 dX5_isSwap_27 ?_
    refine lv_aload_n hx hb dX5_isSwap_28 rfl (lv_at hl 0 rfl) ?_
    obtain ⟨v6, ev6, hf⟩ := zb hf
    refine zr_getI hB hG zF_5 (by decide) kf_X5_41 ev6 dX5_isSwap_29 ?_
    refine lv_lushr hx hb dX5_isSwap_32 rfl ?_
    refine lv_lconst (v := 1) hx hb dX5_isSwap_33 (by decide) ?_
    refine lv_land hx hb dX5_isSwap_34 ?_
    refine lv_lconst (v := 0) hx hb dX5_isSwap_35 (by decide) ?_
    refine W.lcmp hx hb dX5_isSwap_36 ?_
    refine lv_if_eq (tgt := 44) hx hb dX5_isSwap_37 (by decide) (fun hc7 => ?_) (fun hc7 => ?_)
    · rw [if_pos hc7] at hf
      exact w_X5_isSwap_44 hB _ _ _ h  hG (lv_sub hl [] rfl) hf
    · rw [if_neg hc7] at hf
      refine lv_iconst (v := 1) hx hb dX5_isSwap_40 (by decide) ?_
      refine lv_goto (tgt := 45) hx hb dX5_isSwap_41 (by decide) ?_
      exact w_X5_isSwap_45 hB _ _ _ h ((1 : Int32)) hG (lv_sub hl [] rfl) hf
end G_X5_isSwap
theorem c_X5_isSwap {l : Launch} {D : va_G} {K : Nat → ClassId} {b0 N : Nat} {h : zh_H} {x0 : Nat} {x1 : Int32} {r : Int32} {h2 : zh_H} (hf : b_X5_isSwap_0 h x0 x1 = some (r, h2)) : zc l yX5_isSwap cX5_isSwap 2 (some .boolean) 0 0 0 D K b0 N h [.ref x0, .int x1] (zq (some (.int r)) N h2) := by
  refine zc.of [(0, .ref x0), (1, .int x1)] (by decide) rfl (Nat.le_of_ble_eq_true rfl) ?_
  intro p e s m args below meth c hB hnm hG ls hl
  exact w_X5_isSwap_0 (res := (r, h2)) hB _ _ ls h x0 x1 hG (lv_sub hl [0, 1] rfl) hf

section G_X8_cellOf
variable {p : Program} {l : Launch} {e : Env} {s : State} {m : MethodId} {args : Array Value} {below : List Frame} {meth : Method} {c : Code} {D : va_G} {K : Nat → ClassId} {b0 N : Nat}
set_option maxRecDepth 100000 in
set_option maxHeartbeats 4000000 in
theorem w_X8_cellOf_0 {res : (Int32 × zh_H)} (hB : zc_B p s m args meth c cX8_cellOf 3 RX8 (some .int) D K) : ∀ (H : Heap) (locs : List Loc) (ls : Array Slot) (h : zh_H) (x0 : Nat) (x1 : Int32) (x2 : Int32), zh_G D K b0 N h s.heap H locs → lv_has ls 3 [(0, .ref x0), (1, .int x1), (2, .int x2)] → b_X8_cellOf_0 h x0 x1 x2 = some res → W p l e (zc_rm 0 0 0) s m args below meth c H locs 0 0 (MQ below (zc_Q D K b0 (zq (some (.int res.1)) N res.2)) args s 0 0 (fun q => b0 ≤ q)) (F0 m 0 ls []) := by
  have hx := hB.1
  have hb := hB.2.1
  intro H locs ls h x0 x1 x2 hG hl hf
  unfold b_X8_cellOf_0 at hf
  refine lv_iload_n hx hb dX8_cellOf_0 rfl (lv_at hl 2 rfl) ?_
  refine lv_aload_n hx hb dX8_cellOf_1 rfl (lv_at hl 0 rfl) ?_
  obtain ⟨v1, ev1, hf⟩ := zb hf
  refine zr_getI hB hG zF_8 (by decide) kf_X8_19 ev1 dX8_cellOf_2 ?_
  refine lv_imul hx hb dX8_cellOf_5 ?_
  refine lv_iload_n hx hb dX8_cellOf_6 rfl (lv_at hl 1 rfl) ?_
  refine lv_iload_n hx hb dX8_cellOf_7 rfl (lv_at hl 2 rfl) ?_
  refine lv_isub hx hb dX8_cellOf_8 ?_
  refine lv_aload_n hx hb dX8_cellOf_9 rfl (lv_at hl 0 rfl) ?_
  obtain ⟨v2, ev2, hf⟩ := zb hf
  refine zr_getI hB hG zF_8 (by decide) kf_X8_15 ev2 dX8_cellOf_10 ?_
  refine lv_isub hx hb dX8_cellOf_13 ?_
  refine lv_iadd hx hb dX8_cellOf_14 ?_
  obtain rfl := Option.some.inj hf
  exact zr_iret hB hG ⟨rfl, rfl, rfl⟩ dX8_cellOf_15
end G_X8_cellOf
theorem c_X8_cellOf {l : Launch} {D : va_G} {K : Nat → ClassId} {b0 N : Nat} {h : zh_H} {x0 : Nat} {x1 : Int32} {x2 : Int32} {r : Int32} {h2 : zh_H} (hf : b_X8_cellOf_0 h x0 x1 x2 = some (r, h2)) : zc l yX8_cellOf cX8_cellOf 3 (some .int) 0 0 0 D K b0 N h [.ref x0, .int x1, .int x2] (zq (some (.int r)) N h2) := by
  refine zc.of [(0, .ref x0), (1, .int x1), (2, .int x2)] (by decide) rfl (Nat.le_of_ble_eq_true rfl) ?_
  intro p e s m args below meth c hB hnm hG ls hl
  exact w_X8_cellOf_0 (res := (r, h2)) hB _ _ ls h x0 x1 x2 hG (lv_sub hl [0, 1, 2] rfl) hf

section G_X8_put
variable {p : Program} {l : Launch} {e : Env} {s : State} {m : MethodId} {args : Array Value} {below : List Frame} {meth : Method} {c : Code} {D : va_G} {K : Nat → ClassId} {b0 N : Nat}
set_option maxRecDepth 100000 in
set_option maxHeartbeats 4000000 in
theorem w_X8_put_72 {res : zh_H} (hB : zc_B p s m args meth c cX8_put 6 RX8 none D K) : ∀ (H : Heap) (locs : List Loc) (ls : Array Slot) (h : zh_H), zh_G D K b0 N h s.heap H locs → lv_has ls 6 [] → b_X8_put_72 h  = some res → W p l e (zc_rm 1 0 0) s m args below meth c H locs 0 0 (MQ below (zc_Q D K b0 (zq none N res)) args s 0 0 (fun q => b0 ≤ q)) (F0 m 72 ls []) := by
  have hx := hB.1
  have hb := hB.2.1
  intro H locs ls h  hG hl hf
  unfold b_X8_put_72 at hf
  obtain rfl := Option.some.inj hf
  exact zr_vret hB hG ⟨rfl, rfl, rfl⟩ dX8_put_72

set_option maxRecDepth 100000 in
set_option maxHeartbeats 4000000 in
theorem w_X8_put_0 {res : zh_H} (hB : zc_B p s m args meth c cX8_put 6 RX8 none D K) : ∀ (H : Heap) (locs : List Loc) (ls : Array Slot) (h : zh_H) (x0 : Nat) (x1 : Int32) (x2 : Int32) (x3 : Int32), zh_G D K b0 N h s.heap H locs → lv_has ls 6 [(0, .ref x0), (1, .int x1), (2, .int x2), (3, .int x3)] → b_X8_put_0 h x0 x1 x2 x3 = some res → W p l e (zc_rm 1 0 0) s m args below meth c H locs 0 0 (MQ below (zc_Q D K b0 (zq none N res)) args s 0 0 (fun q => b0 ≤ q)) (F0 m 0 ls []) := by
  have hx := hB.1
  have hb := hB.2.1
  intro H locs ls h x0 x1 x2 x3 hG hl hf
  unfold b_X8_put_0 at hf
  refine lv_aload_n hx hb dX8_put_0 rfl (lv_at hl 0 rfl) ?_
  refine lv_iload_n hx hb dX8_put_1 rfl (lv_at hl 1 rfl) ?_
  refine lv_iload_n hx hb dX8_put_2 rfl (lv_at hl 2 rfl) ?_
  obtain ⟨o1, eo1, hf⟩ := zb hf
  obtain ⟨v3, h2, eh2, hf⟩ := zbp_s hf
  refine zr_callV (As := [.int x1, .int x2]) kc_X8_22 hB hG (c_X8_cellOf eh2) eo1 rfl hl.1 rfl ⟨by decide, by decide⟩ (Nat.le_of_ble_eq_true rfl) ⟨by decide, by decide⟩ dX8_put_3 (fun H locs hG => ?_)
  refine lv_istore (lv' := [(4, .int v3), (0, .ref x0), (1, .int x1), (2, .int x2), (3, .int x3)]) hx hb dX8_put_6 hl (by decide) rfl (fun ls hl => ?_)
  refine lv_iload hx hb dX8_put_8 (lv_at hl 0 rfl) ?_
  refine lv_if_lt (tgt := 72) hx hb dX8_put_10 (by decide) (fun hc11 => ?_) (fun hc11 => ?_)
  · rw [if_pos hc11] at hf
    exact w_X8_put_72 hB _ _ _ h2  hG (lv_sub hl [] rfl) hf
  · rw [if_neg hc11] at hf
    refine lv_iload hx hb dX8_put_13 (lv_at hl 0 rfl) ?_
    refine lv_bipush (v := 16) hx hb dX8_put_15 (by decide) ?_
    refine lv_idiv hx hb dX8_put_17 (by decide) ?_
    refine lv_aload_n hx hb dX8_put_18 rfl (lv_at hl 1 rfl) ?_
    obtain ⟨a4, ea4, hf⟩ := zb hf
    refine zr_getR hB hG zF_8 (by decide) kf_X8_11 ea4 dX8_put_19 ?_
    obtain ⟨v5, ev5, hf⟩ := zb hf
    refine zr_alen ⟨_, rfl⟩ hB hG ev5 dX8_put_22 ?_
    refine lv_icmp_ge (tgt := 72) hx hb dX8_put_23 (by decide) (fun hc10 => ?_) (fun hc10 => ?_)
    · rw [if_pos hc10] at hf
      exact w_X8_put_72 hB _ _ _ h2  hG (lv_sub hl [] rfl) hf
    · rw [if_neg hc10] at hf
      refine lv_iload hx hb dX8_put_26 (lv_at hl 0 rfl) ?_
      refine lv_bipush (v := 16) hx hb dX8_put_28 (by decide) ?_
      refine lv_irem hx hb dX8_put_30 (by decide) ?_
      refine lv_iconst (v := 4) hx hb dX8_put_31 (by decide) ?_
      refine lv_imul hx hb dX8_put_32 ?_
      refine lv_istore (lv' := [(5, .int ((v3 - v3 / (16 : Int32) * (16 : Int32)) * (4 : Int32))), (4, .int v3), (0, .ref x0), (1, .int x1), (2, .int x2), (3, .int x3)]) hx hb dX8_put_33 hl (by decide) rfl (fun ls hl => ?_)
      refine lv_aload_n hx hb dX8_put_35 rfl (lv_at hl 2 rfl) ?_
      obtain ⟨a6, ea6, hf⟩ := zb hf
      refine zr_getR hB hG zF_8 (by decide) kf_X8_11 ea6 dX8_put_36 ?_
      refine lv_iload hx hb dX8_put_39 (lv_at hl 1 rfl) ?_
      refine lv_bipush (v := 16) hx hb dX8_put_41 (by decide) ?_
      refine lv_idiv hx hb dX8_put_43 (by decide) ?_
      refine lv_aload_n hx hb dX8_put_44 rfl (lv_at hl 2 rfl) ?_
      obtain ⟨a7, ea7, hf⟩ := zb hf
      refine zr_getR hB hG zF_8 (by decide) kf_X8_11 ea7 dX8_put_45 ?_
      refine lv_iload hx hb dX8_put_48 (lv_at hl 1 rfl) ?_
      refine lv_bipush (v := 16) hx hb dX8_put_50 (by decide) ?_
      refine lv_idiv hx hb dX8_put_52 (by decide) ?_
      obtain ⟨u8, eu8, hf⟩ := zb hf
      refine zr_lald hB hG eu8 dX8_put_53 ?_
      refine lv_ldc2 (v := 15) hx hb hB.2.2.2.1 (hB.2.2.2.2.1 _ (zin kk_X8_26 rfl)) dX8_put_54 ?_
      refine lv_iload hx hb dX8_put_57 (lv_at hl 0 rfl) ?_
      refine lv_lshl hx hb dX8_put_59 rfl ?_
      refine lv_ldc2 (v := -1) hx hb hB.2.2.2.1 (hB.2.2.2.2.1 _ (zin kk_X8_28 rfl)) dX8_put_60 ?_
      refine lv_lxor hx hb dX8_put_63 ?_
      refine lv_land hx hb dX8_put_64 ?_
      refine lv_iload_n hx hb dX8_put_65 rfl (lv_at hl 5 rfl) ?_
      refine lv_i2l hx hb dX8_put_66 rfl ?_
      refine lv_iload hx hb dX8_put_67 (lv_at hl 0 rfl) ?_
      refine lv_lshl hx hb dX8_put_69 rfl ?_
      refine lv_lor hx hb dX8_put_70 ?_
      obtain ⟨h9, eh9, hf⟩ := zb hf
      refine zr_last hB hG eh9 dX8_put_71 (fun H locs hG => ?_)
      exact w_X8_put_72 hB _ _ _ h9  hG (lv_sub hl [] rfl) hf
end G_X8_put
theorem c_X8_put {l : Launch} {D : va_G} {K : Nat → ClassId} {b0 N : Nat} {h : zh_H} {x0 : Nat} {x1 : Int32} {x2 : Int32} {x3 : Int32} {h2 : zh_H} (hf : b_X8_put_0 h x0 x1 x2 x3 = some h2) : zc l yX8_put cX8_put 6 none 1 0 0 D K b0 N h [.ref x0, .int x1, .int x2, .int x3] (zq none N h2) := by
  refine zc.of [(0, .ref x0), (1, .int x1), (2, .int x2), (3, .int x3)] (by decide) rfl (Nat.le_of_ble_eq_true rfl) ?_
  intro p e s m args below meth c hB hnm hG ls hl
  exact w_X8_put_0 (res := h2) hB _ _ ls h x0 x1 x2 x3 hG (lv_sub hl [0, 1, 2, 3] rfl) hf

section G_X5_best
variable {p : Program} {l : Launch} {e : Env} {s : State} {m : MethodId} {args : Array Value} {below : List Frame} {meth : Method} {c : Code} {D : va_G} {K : Nat → ClassId} {b0 N : Nat}
set_option maxRecDepth 100000 in
set_option maxHeartbeats 4000000 in
theorem w_X5_best_193 {res : (Int32 × zh_H)} (hB : zc_B p s m args meth c cX5_best 6 RX5 (some .int) D K) : ∀ (H : Heap) (locs : List Loc) (ls : Array Slot) (h : zh_H) (x4 : Int32), zh_G D K b0 N h s.heap H locs → lv_has ls 6 [(4, .int x4)] → b_X5_best_193 h x4 = some res → W p l e (zc_rm 2 0 0) s m args below meth c H locs 0 0 (MQ below (zc_Q D K b0 (zq (some (.int res.1)) N res.2)) args s 0 0 (fun q => b0 ≤ q)) (F0 m 193 ls []) := by
  have hx := hB.1
  have hb := hB.2.1
  intro H locs ls h x4 hG hl hf
  unfold b_X5_best_193 at hf
  refine lv_iload hx hb dX5_best_193 (lv_at hl 0 rfl) ?_
  obtain rfl := Option.some.inj hf
  exact zr_iret hB hG ⟨rfl, rfl, rfl⟩ dX5_best_195

set_option maxRecDepth 100000 in
set_option maxHeartbeats 4000000 in
theorem w_X5_best_175 {res : (Int32 × zh_H)} (hB : zc_B p s m args meth c cX5_best 6 RX5 (some .int) D K) : ∀ (H : Heap) (locs : List Loc) (ls : Array Slot) (h : zh_H) (x0 : Nat) (x1 : Int32) (x2 : Int32) (x4 : Int32) (x5 : Int32), zh_G D K b0 N h s.heap H locs → lv_has ls 6 [(0, .ref x0), (1, .int x1), (2, .int x2), (4, .int x4), (5, .int x5)] → b_X5_best_175 h x0 x1 x2 x4 x5 = some res → W p l e (zc_rm 2 0 0) s m args below meth c H locs 0 0 (MQ below (zc_Q D K b0 (zq (some (.int res.1)) N res.2)) args s 0 0 (fun q => b0 ≤ q)) (F0 m 175 ls []) := by
  have hx := hB.1
  have hb := hB.2.1
  intro H locs ls h x0 x1 x2 x4 x5 hG hl hf
  unfold b_X5_best_175 at hf
  refine lv_aload_n hx hb dX5_best_175 rfl (lv_at hl 0 rfl) ?_
  obtain ⟨v1, ev1, hf⟩ := zb hf
  refine zr_getI hB hG zF_5 (by decide) kf_X5_65 ev1 dX5_best_176 ?_
  refine lv_if_eq (tgt := 193) hx hb dX5_best_179 (by decide) (fun hc5 => ?_) (fun hc5 => ?_)
  · rw [if_pos hc5] at hf
    exact w_X5_best_193 hB _ _ _ h (x4) hG (lv_sub hl [3] rfl) hf
  · rw [if_neg hc5] at hf
    refine lv_aload_n hx hb dX5_best_182 rfl (lv_at hl 0 rfl) ?_
    obtain ⟨a2, ea2, hf⟩ := zb hf
    refine zr_getR hB hG zF_5 (by decide) kf_X5_57 ea2 dX5_best_183 ?_
    refine lv_iload_n hx hb dX5_best_186 rfl (lv_at hl 1 rfl) ?_
    refine lv_iload_n hx hb dX5_best_187 rfl (lv_at hl 2 rfl) ?_
    refine lv_iload hx hb dX5_best_188 (lv_at hl 4 rfl) ?_
    obtain ⟨o3, eo3, hf⟩ := zb hf
    obtain ⟨h4, eh4, hf⟩ := zb hf
    refine zr_callVv (As := [.int x1, .int x2, .int x5]) kc_X5_142 hB hG (c_X8_put eh4) eo3 rfl hl.1 rfl ⟨by decide, by decide⟩ (Nat.le_of_ble_eq_true rfl) ⟨by decide, by decide⟩ dX5_best_190 (fun H locs hG => ?_)
    exact w_X5_best_193 hB _ _ _ h4 (x4) hG (lv_sub hl [3] rfl) hf

set_option maxRecDepth 100000 in
set_option maxHeartbeats 4000000 in
theorem w_X5_best_145 {res : (Int32 × zh_H)} (hB : zc_B p s m args meth c cX5_best 6 RX5 (some .int) D K) : ∀ (H : Heap) (locs : List Loc) (ls : Array Slot) (h : zh_H) (x0 : Nat) (x1 : Int32) (x2 : Int32) (x4 : Int32) (x5 : Int32), zh_G D K b0 N h s.heap H locs → lv_has ls 6 [(0, .ref x0), (1, .int x1), (2, .int x2), (4, .int x4), (5, .int x5)] → b_X5_best_145 h x0 x1 x2 x4 x5 = some res → W p l e (zc_rm 2 0 0) s m args below meth c H locs 0 0 (MQ below (zc_Q D K b0 (zq (some (.int res.1)) N res.2)) args s 0 0 (fun q => b0 ≤ q)) (F0 m 145 ls []) := by
  have hx := hB.1
  have hb := hB.2.1
  intro H locs ls h x0 x1 x2 x4 x5 hG hl hf
  unfold b_X5_best_145 at hf
  refine lv_aload_n hx hb dX5_best_145 rfl (lv_at hl 0 rfl) ?_
  obtain ⟨a1, ea1, hf⟩ := zb hf
  refine zr_getR hB hG zF_5 (by decide) kf_X5_27 ea1 dX5_best_146 ?_
  refine lv_iload_n hx hb dX5_best_149 rfl (lv_at hl 1 rfl) ?_
  refine lv_iconst (v := 1) hx hb dX5_best_150 (by decide) ?_
  refine lv_isub hx hb dX5_best_151 ?_
  obtain ⟨v2, ev2, hf⟩ := zb hf
  refine zr_iald hB hG ev2 dX5_best_152 ?_
  refine lv_iconst (v := 1) hx hb dX5_best_153 (by decide) ?_
  refine lv_iadd hx hb dX5_best_154 ?_
  refine lv_iload hx hb dX5_best_155 (lv_at hl 3 rfl) ?_
  refine lv_icmp_ge (tgt := 175) hx hb dX5_best_157 (by decide) (fun hc5 => ?_) (fun hc5 => ?_)
  · rw [if_pos hc5] at hf
    exact w_X5_best_175 hB _ _ _ h (x0) (x1) (x2) (x4) (x5) hG (lv_sub hl [0, 1, 2, 3, 4] rfl) hf
  · rw [if_neg hc5] at hf
    refine lv_aload_n hx hb dX5_best_160 rfl (lv_at hl 0 rfl) ?_
    obtain ⟨a3, ea3, hf⟩ := zb hf
    refine zr_getR hB hG zF_5 (by decide) kf_X5_27 ea3 dX5_best_161 ?_
    refine lv_iload_n hx hb dX5_best_164 rfl (lv_at hl 1 rfl) ?_
    refine lv_iconst (v := 1) hx hb dX5_best_165 (by decide) ?_
    refine lv_isub hx hb dX5_best_166 ?_
    obtain ⟨v4, ev4, hf⟩ := zb hf
    refine zr_iald hB hG ev4 dX5_best_167 ?_
    refine lv_iconst (v := 1) hx hb dX5_best_168 (by decide) ?_
    refine lv_iadd hx hb dX5_best_169 ?_
    refine lv_istore (lv' := [(4, .int (v4 + (1 : Int32))), (0, .ref x0), (1, .int x1), (2, .int x2), (5, .int x5)]) hx hb dX5_best_170 hl (by decide) rfl (fun ls hl => ?_)
    refine lv_iconst (v := 3) hx hb dX5_best_172 (by decide) ?_
    refine lv_istore (lv' := [(5, .int (3 : Int32)), (4, .int (v4 + (1 : Int32))), (0, .ref x0), (1, .int x1), (2, .int x2)]) hx hb dX5_best_173 hl (by decide) rfl (fun ls hl => ?_)
    exact w_X5_best_175 hB _ _ _ h (x0) (x1) (x2) ((v4 + (1 : Int32))) ((3 : Int32)) hG (lv_sub hl [2, 3, 4, 1, 0] rfl) hf

set_option maxRecDepth 100000 in
set_option maxHeartbeats 4000000 in
theorem w_X5_best_119 {res : (Int32 × zh_H)} (hB : zc_B p s m args meth c cX5_best 6 RX5 (some .int) D K) : ∀ (H : Heap) (locs : List Loc) (ls : Array Slot) (h : zh_H) (x0 : Nat) (x1 : Int32) (x2 : Int32) (x4 : Int32) (x5 : Int32), zh_G D K b0 N h s.heap H locs → lv_has ls 6 [(0, .ref x0), (1, .int x1), (2, .int x2), (4, .int x4), (5, .int x5)] → b_X5_best_119 h x0 x1 x2 x4 x5 = some res → W p l e (zc_rm 2 0 0) s m args below meth c H locs 0 0 (MQ below (zc_Q D K b0 (zq (some (.int res.1)) N res.2)) args s 0 0 (fun q => b0 ≤ q)) (F0 m 119 ls []) := by
  have hx := hB.1
  have hb := hB.2.1
  intro H locs ls h x0 x1 x2 x4 x5 hG hl hf
  unfold b_X5_best_119 at hf
  refine lv_aload_n hx hb dX5_best_119 rfl (lv_at hl 0 rfl) ?_
  obtain ⟨a1, ea1, hf⟩ := zb hf
  refine zr_getR hB hG zF_5 (by decide) kf_X5_31 ea1 dX5_best_120 ?_
  refine lv_iload_n hx hb dX5_best_123 rfl (lv_at hl 1 rfl) ?_
  obtain ⟨v2, ev2, hf⟩ := zb hf
  refine zr_iald hB hG ev2 dX5_best_124 ?_
  refine lv_iconst (v := 1) hx hb dX5_best_125 (by decide) ?_
  refine lv_iadd hx hb dX5_best_126 ?_
  refine lv_iload hx hb dX5_best_127 (lv_at hl 3 rfl) ?_
  refine lv_icmp_ge (tgt := 145) hx hb dX5_best_129 (by decide) (fun hc5 => ?_) (fun hc5 => ?_)
  · rw [if_pos hc5] at hf
    exact w_X5_best_145 hB _ _ _ h (x0) (x1) (x2) (x4) (x5) hG (lv_sub hl [0, 1, 2, 3, 4] rfl) hf
  · rw [if_neg hc5] at hf
    refine lv_aload_n hx hb dX5_best_132 rfl (lv_at hl 0 rfl) ?_
    obtain ⟨a3, ea3, hf⟩ := zb hf
    refine zr_getR hB hG zF_5 (by decide) kf_X5_31 ea3 dX5_best_133 ?_
    refine lv_iload_n hx hb dX5_best_136 rfl (lv_at hl 1 rfl) ?_
    obtain ⟨v4, ev4, hf⟩ := zb hf
    refine zr_iald hB hG ev4 dX5_best_137 ?_
    refine lv_iconst (v := 1) hx hb dX5_best_138 (by decide) ?_
    refine lv_iadd hx hb dX5_best_139 ?_
    refine lv_istore (lv' := [(4, .int (v4 + (1 : Int32))), (0, .ref x0), (1, .int x1), (2, .int x2), (5, .int x5)]) hx hb dX5_best_140 hl (by decide) rfl (fun ls hl => ?_)
    refine lv_iconst (v := 2) hx hb dX5_best_142 (by decide) ?_
    refine lv_istore (lv' := [(5, .int (2 : Int32)), (4, .int (v4 + (1 : Int32))), (0, .ref x0), (1, .int x1), (2, .int x2)]) hx hb dX5_best_143 hl (by decide) rfl (fun ls hl => ?_)
    exact w_X5_best_145 hB _ _ _ h (x0) (x1) (x2) ((v4 + (1 : Int32))) ((2 : Int32)) hG (lv_sub hl [2, 3, 4, 1, 0] rfl) hf

set_option maxRecDepth 100000 in
set_option maxHeartbeats 4000000 in
theorem w_X5_best_62 {res : (Int32 × zh_H)} (hB : zc_B p s m args meth c cX5_best 6 RX5 (some .int) D K) : ∀ (H : Heap) (locs : List Loc) (ls : Array Slot) (h : zh_H) (x0 : Nat) (x1 : Int32) (x2 : Int32) (x4 : Int32) (y0 : Int32), zh_G D K b0 N h s.heap H locs → lv_has ls 6 [(0, .ref x0), (1, .int x1), (2, .int x2), (4, .int x4)] → b_X5_best_62 h x0 x1 x2 x4 y0 = some res → W p l e (zc_rm 2 0 0) s m args below meth c H locs 0 0 (MQ below (zc_Q D K b0 (zq (some (.int res.1)) N res.2)) args s 0 0 (fun q => b0 ≤ q)) (F0 m 62 ls [.int y0]) := by
  have hx := hB.1
  have hb := hB.2.1
  intro H locs ls h x0 x1 x2 x4 y0 hG hl hf
  unfold b_X5_best_62 at hf
  refine lv_istore (lv' := [(5, .int y0), (0, .ref x0), (1, .int x1), (2, .int x2), (4, .int x4)]) hx hb dX5_best_62 hl (by decide) rfl (fun ls hl => ?_)
  refine lv_aload_n hx hb dX5_best_64 rfl (lv_at hl 1 rfl) ?_
  obtain ⟨v1, ev1, hf⟩ := zb hf
  refine zr_getI hB hG zF_5 (by decide) kf_X5_87 ev1 dX5_best_65 ?_
  refine lv_if_eq (tgt := 119) hx hb dX5_best_68 (by decide) (fun hc13 => ?_) (fun hc13 => ?_)
  · rw [if_pos hc13] at hf
    exact w_X5_best_119 hB _ _ _ h (x0) (x1) (x2) (x4) (y0) hG (lv_sub hl [1, 2, 3, 4, 0] rfl) hf
  · rw [if_neg hc13] at hf
    refine lv_iload_n hx hb dX5_best_71 rfl (lv_at hl 2 rfl) ?_
    refine lv_iconst (v := 1) hx hb dX5_best_72 (by decide) ?_
    refine lv_icmp_le (tgt := 119) hx hb dX5_best_73 (by decide) (fun hc12 => ?_) (fun hc12 => ?_)
    · rw [if_pos hc12] at hf
      exact w_X5_best_119 hB _ _ _ h (x0) (x1) (x2) (x4) (y0) hG (lv_sub hl [1, 2, 3, 4, 0] rfl) hf
    · rw [if_neg hc12] at hf
      refine lv_iload_n hx hb dX5_best_76 rfl (lv_at hl 3 rfl) ?_
      refine lv_iconst (v := 1) hx hb dX5_best_77 (by decide) ?_
      refine lv_icmp_le (tgt := 119) hx hb dX5_best_78 (by decide) (fun hc11 => ?_) (fun hc11 => ?_)
      · rw [if_pos hc11] at hf
        exact w_X5_best_119 hB _ _ _ h (x0) (x1) (x2) (x4) (y0) hG (lv_sub hl [1, 2, 3, 4, 0] rfl) hf
      · rw [if_neg hc11] at hf
        refine lv_aload_n hx hb dX5_best_81 rfl (lv_at hl 1 rfl) ?_
        obtain ⟨a2, ea2, hf⟩ := zb hf
        refine zr_getR hB hG zF_5 (by decide) kf_X5_34 ea2 dX5_best_82 ?_
        refine lv_iload_n hx hb dX5_best_85 rfl (lv_at hl 2 rfl) ?_
        refine lv_iconst (v := 2) hx hb dX5_best_86 (by decide) ?_
        refine lv_isub hx hb dX5_best_87 ?_
        obtain ⟨v3, ev3, hf⟩ := zb hf
        refine zr_iald hB hG ev3 dX5_best_88 ?_
        refine lv_iconst (v := 1) hx hb dX5_best_89 (by decide) ?_
        refine lv_iadd hx hb dX5_best_90 ?_
        refine lv_iload hx hb dX5_best_91 (lv_at hl 4 rfl) ?_
        refine lv_icmp_ge (tgt := 119) hx hb dX5_best_93 (by decide) (fun hc10 => ?_) (fun hc10 => ?_)
        · rw [if_pos hc10] at hf
          exact w_X5_best_119 hB _ _ _ h (x0) (x1) (x2) (x4) (y0) hG (lv_sub hl [1, 2, 3, 4, 0] rfl) hf
        · rw [if_neg hc10] at hf
          refine lv_aload_n hx hb dX5_best_96 rfl (lv_at hl 1 rfl) ?_
          refine lv_iload_n hx hb dX5_best_97 rfl (lv_at hl 2 rfl) ?_
          obtain ⟨o4, eo4, hf⟩ := zb hf
          obtain ⟨v6, h5, eh5, hf⟩ := zbp_s hf
          refine zr_callV (As := [.int x1]) kc_X5_138 hB hG (c_X5_isSwap eh5) eo4 rfl hl.1 rfl ⟨by decide, by decide⟩ (Nat.le_of_ble_eq_true rfl) ⟨by decide, by decide⟩ dX5_best_98 (fun H locs hG => ?_)
          refine lv_if_eq (tgt := 119) hx hb dX5_best_101 (by decide) (fun hc9 => ?_) (fun hc9 => ?_)
          · rw [if_pos hc9] at hf
            exact w_X5_best_119 hB _ _ _ h5 (x0) (x1) (x2) (x4) (y0) hG (lv_sub hl [1, 2, 3, 4, 0] rfl) hf
          · rw [if_neg hc9] at hf
            refine lv_aload_n hx hb dX5_best_104 rfl (lv_at hl 1 rfl) ?_
            obtain ⟨a7, ea7, hf⟩ := zb hf
            refine zr_getR hB hG zF_5 (by decide) kf_X5_34 ea7 dX5_best_105 ?_
            refine lv_iload_n hx hb dX5_best_108 rfl (lv_at hl 2 rfl) ?_
            refine lv_iconst (v := 2) hx hb dX5_best_109 (by decide) ?_
            refine lv_isub hx hb dX5_best_110 ?_
            obtain ⟨v8, ev8, hf⟩ := zb hf
            refine zr_iald hB hG ev8 dX5_best_111 ?_
            refine lv_iconst (v := 1) hx hb dX5_best_112 (by decide) ?_
            refine lv_iadd hx hb dX5_best_113 ?_
            refine lv_istore (lv' := [(4, .int (v8 + (1 : Int32))), (5, .int y0), (0, .ref x0), (1, .int x1), (2, .int x2)]) hx hb dX5_best_114 hl (by decide) rfl (fun ls hl => ?_)
            refine lv_iconst (v := 4) hx hb dX5_best_116 (by decide) ?_
            refine lv_istore (lv' := [(5, .int (4 : Int32)), (4, .int (v8 + (1 : Int32))), (0, .ref x0), (1, .int x1), (2, .int x2)]) hx hb dX5_best_117 hl (by decide) rfl (fun ls hl => ?_)
            exact w_X5_best_119 hB _ _ _ h5 (x0) (x1) (x2) ((v8 + (1 : Int32))) ((4 : Int32)) hG (lv_sub hl [2, 3, 4, 1, 0] rfl) hf

set_option maxRecDepth 100000 in
set_option maxHeartbeats 4000000 in
theorem w_X5_best_51 {res : (Int32 × zh_H)} (hB : zc_B p s m args meth c cX5_best 6 RX5 (some .int) D K) : ∀ (H : Heap) (locs : List Loc) (ls : Array Slot) (h : zh_H) (x0 : Nat) (x1 : Int32) (x2 : Int32) (x3 : Int32) (y0 : Int32), zh_G D K b0 N h s.heap H locs → lv_has ls 6 [(0, .ref x0), (1, .int x1), (2, .int x2), (3, .int x3)] → b_X5_best_51 h x0 x1 x2 x3 y0 = some res → W p l e (zc_rm 2 0 0) s m args below meth c H locs 0 0 (MQ below (zc_Q D K b0 (zq (some (.int res.1)) N res.2)) args s 0 0 (fun q => b0 ≤ q)) (F0 m 51 ls [.int y0]) := by
  have hx := hB.1
  have hb := hB.2.1
  intro H locs ls h x0 x1 x2 x3 y0 hG hl hf
  unfold b_X5_best_51 at hf
  refine lv_istore (lv' := [(4, .int y0), (0, .ref x0), (1, .int x1), (2, .int x2), (3, .int x3)]) hx hb dX5_best_51 hl (by decide) rfl (fun ls hl => ?_)
  refine lv_iload_n hx hb dX5_best_53 rfl (lv_at hl 4 rfl) ?_
  refine lv_if_eq (tgt := 61) hx hb dX5_best_54 (by decide) (fun hc1 => ?_) (fun hc1 => ?_)
  · rw [if_pos hc1] at hf
    refine lv_iconst (v := 1) hx hb dX5_best_61 (by decide) ?_
    exact w_X5_best_62 hB _ _ _ h (x0) (x1) (x2) (y0) ((1 : Int32)) hG (lv_sub hl [1, 2, 3, 0] rfl) hf
  · rw [if_neg hc1] at hf
    refine lv_iconst (v := 0) hx hb dX5_best_57 (by decide) ?_
    refine lv_goto (tgt := 62) hx hb dX5_best_58 (by decide) ?_
    exact w_X5_best_62 hB _ _ _ h (x0) (x1) (x2) (y0) ((0 : Int32)) hG (lv_sub hl [1, 2, 3, 0] rfl) hf

set_option maxRecDepth 100000 in
set_option maxHeartbeats 4000000 in
theorem w_X5_best_25 {res : (Int32 × zh_H)} (hB : zc_B p s m args meth c cX5_best 6 RX5 (some .int) D K) : ∀ (H : Heap) (locs : List Loc) (ls : Array Slot) (h : zh_H) (x0 : Nat) (x1 : Int32) (x2 : Int32) (y0 : Int32), zh_G D K b0 N h s.heap H locs → lv_has ls 6 [(0, .ref x0), (1, .int x1), (2, .int x2)] → b_X5_best_25 h x0 x1 x2 y0 = some res → W p l e (zc_rm 2 0 0) s m args below meth c H locs 0 0 (MQ below (zc_Q D K b0 (zq (some (.int res.1)) N res.2)) args s 0 0 (fun q => b0 ≤ q)) (F0 m 25 ls [.int y0]) := by
  have hx := hB.1
  have hb := hB.2.1
  intro H locs ls h x0 x1 x2 y0 hG hl hf
  unfold b_X5_best_25 at hf
  refine lv_istore_n (lv' := [(3, .int y0), (0, .ref x0), (1, .int x1), (2, .int x2)]) hx hb dX5_best_25 rfl hl (by decide) rfl (fun ls hl => ?_)
  refine lv_iload_n hx hb dX5_best_26 rfl (lv_at hl 0 rfl) ?_
  refine lv_if_eq (tgt := 41) hx hb dX5_best_27 (by decide) (fun hc5 => ?_) (fun hc5 => ?_)
  · rw [if_pos hc5] at hf
    refine lv_aload_n hx hb dX5_best_41 rfl (lv_at hl 1 rfl) ?_
    obtain ⟨a1, ea1, hf⟩ := zb hf
    refine zr_getR hB hG zF_5 (by decide) kf_X5_31 ea1 dX5_best_42 ?_
    refine lv_iload_n hx hb dX5_best_45 rfl (lv_at hl 2 rfl) ?_
    refine lv_iconst (v := 1) hx hb dX5_best_46 (by decide) ?_
    refine lv_isub hx hb dX5_best_47 ?_
    obtain ⟨v2, ev2, hf⟩ := zb hf
    refine zr_iald hB hG ev2 dX5_best_48 ?_
    refine lv_iconst (v := 1) hx hb dX5_best_49 (by decide) ?_
    refine lv_iadd hx hb dX5_best_50 ?_
    exact w_X5_best_51 hB _ _ _ h (x0) (x1) (x2) (y0) ((v2 + (1 : Int32))) hG (lv_sub hl [1, 2, 3, 0] rfl) hf
  · rw [if_neg hc5] at hf
    refine lv_aload_n hx hb dX5_best_30 rfl (lv_at hl 1 rfl) ?_
    obtain ⟨a3, ea3, hf⟩ := zb hf
    refine zr_getR hB hG zF_5 (by decide) kf_X5_31 ea3 dX5_best_31 ?_
    refine lv_iload_n hx hb dX5_best_34 rfl (lv_at hl 2 rfl) ?_
    refine lv_iconst (v := 1) hx hb dX5_best_35 (by decide) ?_
    refine lv_isub hx hb dX5_best_36 ?_
    obtain ⟨v4, ev4, hf⟩ := zb hf
    refine zr_iald hB hG ev4 dX5_best_37 ?_
    refine lv_goto (tgt := 51) hx hb dX5_best_38 (by decide) ?_
    exact w_X5_best_51 hB _ _ _ h (x0) (x1) (x2) (y0) (v4) hG (lv_sub hl [1, 2, 3, 0] rfl) hf

set_option maxRecDepth 100000 in
set_option maxHeartbeats 4000000 in
theorem w_X5_best_0 {res : (Int32 × zh_H)} (hB : zc_B p s m args meth c cX5_best 6 RX5 (some .int) D K) : ∀ (H : Heap) (locs : List Loc) (ls : Array Slot) (h : zh_H) (x0 : Nat) (x1 : Int32) (x2 : Int32), zh_G D K b0 N h s.heap H locs → lv_has ls 6 [(0, .ref x0), (1, .int x1), (2, .int x2)] → b_X5_best_0 h x0 x1 x2 = some res → W p l e (zc_rm 2 0 0) s m args below meth c H locs 0 0 (MQ below (zc_Q D K b0 (zq (some (.int res.1)) N res.2)) args s 0 0 (fun q => b0 ≤ q)) (F0 m 0 ls []) := by
  have hx := hB.1
  have hb := hB.2.1
  intro H locs ls h x0 x1 x2 hG hl hf
  unfold b_X5_best_0 at hf
  refine lv_aload_n hx hb dX5_best_0 rfl (lv_at hl 0 rfl) ?_
  obtain ⟨a1, ea1, hf⟩ := zb hf
  refine zr_getR hB hG zF_5 (by decide) kf_X5_48 ea1 dX5_best_1 ?_
  refine lv_iload_n hx hb dX5_best_4 rfl (lv_at hl 1 rfl) ?_
  refine lv_iconst (v := 1) hx hb dX5_best_5 (by decide) ?_
  refine lv_isub hx hb dX5_best_6 ?_
  obtain ⟨u2, eu2, hf⟩ := zb hf
  refine zr_lald hB hG eu2 dX5_best_7 ?_
  refine lv_aload_n hx hb dX5_best_8 rfl (lv_at hl 0 rfl) ?_
  obtain ⟨v3, ev3, hf⟩ := zb hf
  refine zr_getI hB hG zF_5 (by decide) kf_X5_37 ev3 dX5_best_9 ?_
  refine lv_lushr hx hb dX5_best_12 rfl ?_
  refine lv_lconst (v := 1) hx hb dX5_best_13 (by decide) ?_
  refine lv_land hx hb dX5_best_14 ?_
  refine lv_lconst (v := 0) hx hb dX5_best_15 (by decide) ?_
  refine W.lcmp hx hb dX5_best_16 ?_
  refine lv_if_eq (tgt := 24) hx hb dX5_best_17 (by decide) (fun hc4 => ?_) (fun hc4 => ?_)
  · rw [if_pos hc4] at hf
    refine lv_iconst (v := 0) hx hb dX5_best_24 (by decide) ?_
    exact w_X5_best_25 hB _ _ _ h (x0) (x1) (x2) ((0 : Int32)) hG (lv_sub hl [0, 1, 2] rfl) hf
  · rw [if_neg hc4] at hf
    refine lv_iconst (v := 1) hx hb dX5_best_20 (by decide) ?_
    refine lv_goto (tgt := 25) hx hb dX5_best_21 (by decide) ?_
    exact w_X5_best_25 hB _ _ _ h (x0) (x1) (x2) ((1 : Int32)) hG (lv_sub hl [0, 1, 2] rfl) hf
end G_X5_best
theorem c_X5_best {l : Launch} {D : va_G} {K : Nat → ClassId} {b0 N : Nat} {h : zh_H} {x0 : Nat} {x1 : Int32} {x2 : Int32} {r : Int32} {h2 : zh_H} (hf : b_X5_best_0 h x0 x1 x2 = some (r, h2)) : zc l yX5_best cX5_best 6 (some .int) 2 0 0 D K b0 N h [.ref x0, .int x1, .int x2] (zq (some (.int r)) N h2) := by
  refine zc.of [(0, .ref x0), (1, .int x1), (2, .int x2)] (by decide) rfl (Nat.le_of_ble_eq_true rfl) ?_
  intro p e s m args below meth c hB hnm hG ls hl
  exact w_X5_best_0 (res := (r, h2)) hB _ _ ls h x0 x1 x2 hG (lv_sub hl [0, 1, 2] rfl) hf

