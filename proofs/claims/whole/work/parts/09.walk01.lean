section G_X0_add
variable {p : Program} {l : Launch} {e : Env} {s : State} {m : MethodId} {args : Array Value} {below : List Frame} {meth : Method} {c : Code} {D : va_G} {K : Nat → ClassId} {b0 N : Nat}
set_option maxRecDepth 100000 in
set_option maxHeartbeats 4000000 in
theorem w_X0_add_33 {res : zh_H} (hB : zc_B p s m args meth c cX0_add 2 RX0 none D K) : ∀ (H : Heap) (locs : List Loc) (ls : Array Slot) (h : zh_H), zh_G D K b0 N h s.heap H locs → lv_has ls 2 [] → b_X0_add_33 h  = some res → W p l e (zc_rm 0 0 0) s m args below meth c H locs 0 0 (MQ below (zc_Q D K b0 (zq none N res)) args s 0 0 (fun q => b0 ≤ q)) (F0 m 33 ls []) := by
  have hx := hB.1
  have hb := hB.2.1
  intro H locs ls h  hG hl hf
  unfold b_X0_add_33 at hf
  obtain rfl := Option.some.inj hf
  exact zr_vret hB hG ⟨rfl, rfl, rfl⟩ dX0_add_33

set_option maxRecDepth 100000 in
set_option maxHeartbeats 4000000 in
theorem w_X0_add_0 {res : zh_H} (hB : zc_B p s m args meth c cX0_add 2 RX0 none D K) : ∀ (H : Heap) (locs : List Loc) (ls : Array Slot) (h : zh_H) (x0 : Nat) (x1 : Int32), zh_G D K b0 N h s.heap H locs → lv_has ls 2 [(0, .ref x0), (1, .int x1)] → b_X0_add_0 h x0 x1 = some res → W p l e (zc_rm 0 0 0) s m args below meth c H locs 0 0 (MQ below (zc_Q D K b0 (zq none N res)) args s 0 0 (fun q => b0 ≤ q)) (F0 m 0 ls []) := by
  have hx := hB.1
  have hb := hB.2.1
  intro H locs ls h x0 x1 hG hl hf
  unfold b_X0_add_0 at hf
  refine lv_aload_n hx hb dX0_add_0 rfl (lv_at hl 0 rfl) ?_
  obtain ⟨v1, ev1, hf⟩ := zb hf
  refine zr_getI hB hG zF_0 (by decide) kf_X0_21 ev1 dX0_add_1 ?_
  refine lv_aload_n hx hb dX0_add_4 rfl (lv_at hl 0 rfl) ?_
  obtain ⟨a2, ea2, hf⟩ := zb hf
  refine zr_getR hB hG zF_0 (by decide) kf_X0_15 ea2 dX0_add_5 ?_
  obtain ⟨v3, ev3, hf⟩ := zb hf
  refine zr_alen ⟨_, rfl⟩ hB hG ev3 dX0_add_8 ?_
  refine lv_icmp_ge (tgt := 33) hx hb dX0_add_9 (by decide) (fun hc9 => ?_) (fun hc9 => ?_)
  · rw [if_pos hc9] at hf
    exact w_X0_add_33 hB _ _ _ h  hG (lv_sub hl [] rfl) hf
  · rw [if_neg hc9] at hf
    refine lv_aload_n hx hb dX0_add_12 rfl (lv_at hl 0 rfl) ?_
    obtain ⟨a4, ea4, hf⟩ := zb hf
    refine zr_getR hB hG zF_0 (by decide) kf_X0_15 ea4 dX0_add_13 ?_
    refine lv_aload_n hx hb dX0_add_16 rfl (lv_at hl 0 rfl) ?_
    obtain ⟨v5, ev5, hf⟩ := zb hf
    refine zr_getI hB hG zF_0 (by decide) kf_X0_21 ev5 dX0_add_17 ?_
    refine lv_iload_n hx hb dX0_add_20 rfl (lv_at hl 1 rfl) ?_
    refine lv_i2b hx hb dX0_add_21 rfl ?_
    obtain ⟨h6, eh6, hf⟩ := zb hf
    refine zr_bast hB hG eh6 dX0_add_22 (fun H locs hG => ?_)
    refine lv_aload_n hx hb dX0_add_23 rfl (lv_at hl 0 rfl) ?_
    refine lv_dup hx hb dX0_add_24 rfl ?_
    obtain ⟨v7, ev7, hf⟩ := zb hf
    refine zr_getI hB hG zF_0 (by decide) kf_X0_21 ev7 dX0_add_25 ?_
    refine lv_iconst (v := 1) hx hb dX0_add_28 (by decide) ?_
    refine lv_iadd hx hb dX0_add_29 ?_
    obtain ⟨h8, eh8, hf⟩ := zb hf
    refine zr_put hB hG zF_0 (by decide) kf_X0_21 rfl rfl rfl eh8 dX0_add_30 (fun H locs hG => ?_)
    exact w_X0_add_33 hB _ _ _ h8  hG (lv_sub hl [] rfl) hf
end G_X0_add
theorem c_X0_add {l : Launch} {D : va_G} {K : Nat → ClassId} {b0 N : Nat} {h : zh_H} {x0 : Nat} {x1 : Int32} {h2 : zh_H} (hf : b_X0_add_0 h x0 x1 = some h2) : zc l yX0_add cX0_add 2 none 0 0 0 D K b0 N h [.ref x0, .int x1] (zq none N h2) := by
  refine zc.of [(0, .ref x0), (1, .int x1)] (by decide) rfl (Nat.le_of_ble_eq_true rfl) ?_
  intro p e s m args below meth c hB hnm hG ls hl
  exact w_X0_add_0 (res := h2) hB _ _ ls h x0 x1 hG (lv_sub hl [0, 1] rfl) hf

section G_X0_isPart
variable {p : Program} {l : Launch} {e : Env} {s : State} {m : MethodId} {args : Array Value} {below : List Frame} {meth : Method} {c : Code} {D : va_G} {K : Nat → ClassId} {b0 N : Nat}
set_option maxRecDepth 100000 in
set_option maxHeartbeats 4000000 in
theorem w_X0_isPart_22 {res : (Int32 × zh_H)} (hB : zc_B p s m args meth c cX0_isPart 3 RX0 (some .boolean) D K) : ∀ (H : Heap) (locs : List Loc) (ls : Array Slot) (h : zh_H) (y0 : Int32), zh_G D K b0 N h s.heap H locs → lv_has ls 3 [] → b_X0_isPart_22 h y0 = some res → W p l e (zc_rm 0 0 0) s m args below meth c H locs 0 0 (MQ below (zc_Q D K b0 (zq (some (.int res.1)) N res.2)) args s 0 0 (fun q => b0 ≤ q)) (F0 m 22 ls [.int y0]) := by
  have hx := hB.1
  have hb := hB.2.1
  intro H locs ls h y0 hG hl hf
  unfold b_X0_isPart_22 at hf
  obtain ⟨hz, hf⟩ := zif_s hf
  obtain rfl := Option.some.inj hf
  exact zr_zret hB hG hz ⟨rfl, rfl, rfl⟩ dX0_isPart_22

set_option maxRecDepth 100000 in
set_option maxHeartbeats 4000000 in
theorem w_X0_isPart_21 {res : (Int32 × zh_H)} (hB : zc_B p s m args meth c cX0_isPart 3 RX0 (some .boolean) D K) : ∀ (H : Heap) (locs : List Loc) (ls : Array Slot) (h : zh_H), zh_G D K b0 N h s.heap H locs → lv_has ls 3 [] → b_X0_isPart_21 h  = some res → W p l e (zc_rm 0 0 0) s m args below meth c H locs 0 0 (MQ below (zc_Q D K b0 (zq (some (.int res.1)) N res.2)) args s 0 0 (fun q => b0 ≤ q)) (F0 m 21 ls []) := by
  have hx := hB.1
  have hb := hB.2.1
  intro H locs ls h  hG hl hf
  unfold b_X0_isPart_21 at hf
  refine lv_iconst (v := 0) hx hb dX0_isPart_21 (by decide) ?_
  exact w_X0_isPart_22 hB _ _ _ h ((0 : Int32)) hG (lv_sub hl [] rfl) hf

set_option maxRecDepth 100000 in
set_option maxHeartbeats 4000000 in
theorem w_X0_isPart_0 {res : (Int32 × zh_H)} (hB : zc_B p s m args meth c cX0_isPart 3 RX0 (some .boolean) D K) : ∀ (H : Heap) (locs : List Loc) (ls : Array Slot) (h : zh_H) (x0 : Nat) (x1 : Int32) (x2 : Int32), zh_G D K b0 N h s.heap H locs → lv_has ls 3 [(0, .ref x0), (1, .int x1), (2, .int x2)] → b_X0_isPart_0 h x0 x1 x2 = some res → W p l e (zc_rm 0 0 0) s m args below meth c H locs 0 0 (MQ below (zc_Q D K b0 (zq (some (.int res.1)) N res.2)) args s 0 0 (fun q => b0 ≤ q)) (F0 m 0 ls []) := by
  have hx := hB.1
  have hb := hB.2.1
  intro H locs ls h x0 x1 x2 hG hl hf
  unfold b_X0_isPart_0 at hf
  refine lv_iload_n hx hb dX0_isPart_0 rfl (lv_at hl 1 rfl) ?_
  refine lv_if_lt (tgt := 21) hx hb dX0_isPart_1 (by decide) (fun hc4 => ?_) (fun hc4 => ?_)
  · rw [if_pos hc4] at hf
    exact w_X0_isPart_21 hB _ _ _ h  hG (lv_sub hl [] rfl) hf
  · rw [if_neg hc4] at hf
    refine lv_iload_n hx hb dX0_isPart_4 rfl (lv_at hl 1 rfl) ?_
    refine lv_iload_n hx hb dX0_isPart_5 rfl (lv_at hl 2 rfl) ?_
    refine lv_icmp_gt (tgt := 21) hx hb dX0_isPart_6 (by decide) (fun hc3 => ?_) (fun hc3 => ?_)
    · rw [if_pos hc3] at hf
      exact w_X0_isPart_21 hB _ _ _ h  hG (lv_sub hl [] rfl) hf
    · rw [if_neg hc3] at hf
      refine lv_iload_n hx hb dX0_isPart_9 rfl (lv_at hl 2 rfl) ?_
      refine lv_aload_n hx hb dX0_isPart_10 rfl (lv_at hl 0 rfl) ?_
      obtain ⟨v1, ev1, hf⟩ := zb hf
      refine zr_getI hB hG zF_0 (by decide) kf_X0_21 ev1 dX0_isPart_11 ?_
      refine lv_icmp_gt (tgt := 21) hx hb dX0_isPart_14 (by decide) (fun hc2 => ?_) (fun hc2 => ?_)
      · rw [if_pos hc2] at hf
        exact w_X0_isPart_21 hB _ _ _ h  hG (lv_sub hl [] rfl) hf
      · rw [if_neg hc2] at hf
        refine lv_iconst (v := 1) hx hb dX0_isPart_17 (by decide) ?_
        refine lv_goto (tgt := 22) hx hb dX0_isPart_18 (by decide) ?_
        exact w_X0_isPart_22 hB _ _ _ h ((1 : Int32)) hG (lv_sub hl [] rfl) hf
end G_X0_isPart
theorem c_X0_isPart {l : Launch} {D : va_G} {K : Nat → ClassId} {b0 N : Nat} {h : zh_H} {x0 : Nat} {x1 : Int32} {x2 : Int32} {r : Int32} {h2 : zh_H} (hf : b_X0_isPart_0 h x0 x1 x2 = some (r, h2)) : zc l yX0_isPart cX0_isPart 3 (some .boolean) 0 0 0 D K b0 N h [.ref x0, .int x1, .int x2] (zq (some (.int r)) N h2) := by
  refine zc.of [(0, .ref x0), (1, .int x1), (2, .int x2)] (by decide) rfl (Nat.le_of_ble_eq_true rfl) ?_
  intro p e s m args below meth c hB hnm hG ls hl
  exact w_X0_isPart_0 (res := (r, h2)) hB _ _ ls h x0 x1 x2 hG (lv_sub hl [0, 1, 2] rfl) hf

section G_X0_addPart
variable {p : Program} {l : Launch} {e : Env} {s : State} {m : MethodId} {args : Array Value} {below : List Frame} {meth : Method} {c : Code} {D : va_G} {K : Nat → ClassId} {b0 N : Nat}
set_option maxRecDepth 100000 in
set_option maxHeartbeats 4000000 in
theorem w_X0_addPart_25 {res : (Int32 × zh_H)} (hB : zc_B p s m args meth c cX0_addPart 4 RX0 (some .boolean) D K) : ∀ (H : Heap) (locs : List Loc) (ls : Array Slot) (h : zh_H), zh_G D K b0 N h s.heap H locs → lv_has ls 4 [] → b_X0_addPart_25 h  = some res → W p l e (zc_rm 1 0 0) s m args below meth c H locs 0 0 (MQ below (zc_Q D K b0 (zq (some (.int res.1)) N res.2)) args s 0 0 (fun q => b0 ≤ q)) (F0 m 25 ls []) := by
  have hx := hB.1
  have hb := hB.2.1
  intro H locs ls h  hG hl hf
  unfold b_X0_addPart_25 at hf
  refine lv_iconst (v := 0) hx hb dX0_addPart_25 (by decide) ?_
  obtain rfl := Option.some.inj hf
  exact zr_zret hB hG (by decide) ⟨rfl, rfl, rfl⟩ dX0_addPart_26

set_option maxRecDepth 100000 in
set_option maxHeartbeats 4000000 in
theorem w_X0_addPart_0 {res : (Int32 × zh_H)} (hB : zc_B p s m args meth c cX0_addPart 4 RX0 (some .boolean) D K) : ∀ (H : Heap) (locs : List Loc) (ls : Array Slot) (h : zh_H) (x0 : Nat) (x1 : Nat) (x2 : Int32) (x3 : Int32), zh_G D K b0 N h s.heap H locs → lv_has ls 4 [(0, .ref x0), (1, .ref x1), (2, .int x2), (3, .int x3)] → b_X0_addPart_0 h x0 x1 x2 x3 = some res → W p l e (zc_rm 1 0 0) s m args below meth c H locs 0 0 (MQ below (zc_Q D K b0 (zq (some (.int res.1)) N res.2)) args s 0 0 (fun q => b0 ≤ q)) (F0 m 0 ls []) := by
  have hx := hB.1
  have hb := hB.2.1
  intro H locs ls h x0 x1 x2 x3 hG hl hf
  unfold b_X0_addPart_0 at hf
  refine lv_aload_n hx hb dX0_addPart_0 rfl (lv_at hl 1 rfl) ?_
  refine lv_iload_n hx hb dX0_addPart_1 rfl (lv_at hl 2 rfl) ?_
  refine lv_iload_n hx hb dX0_addPart_2 rfl (lv_at hl 3 rfl) ?_
  obtain ⟨o1, eo1, hf⟩ := zb hf
  obtain ⟨v3, h2, eh2, hf⟩ := zbp_s hf
  refine zr_callV (As := [.int x2, .int x3]) kc_X0_25 hB hG (c_X0_isPart eh2) eo1 rfl hl.1 rfl ⟨by decide, by decide⟩ (Nat.le_of_ble_eq_true rfl) ⟨by decide, by decide⟩ dX0_addPart_3 (fun H locs hG => ?_)
  refine lv_if_eq (tgt := 25) hx hb dX0_addPart_6 (by decide) (fun hc14 => ?_) (fun hc14 => ?_)
  · rw [if_pos hc14] at hf
    exact w_X0_addPart_25 hB _ _ _ h2  hG (lv_sub hl [] rfl) hf
  · rw [if_neg hc14] at hf
    refine lv_iload_n hx hb dX0_addPart_9 rfl (lv_at hl 3 rfl) ?_
    refine lv_iload_n hx hb dX0_addPart_10 rfl (lv_at hl 2 rfl) ?_
    refine lv_isub hx hb dX0_addPart_11 ?_
    refine lv_aload_n hx hb dX0_addPart_12 rfl (lv_at hl 0 rfl) ?_
    obtain ⟨a4, ea4, hf⟩ := zb hf
    refine zr_getR hB hG zF_0 (by decide) kf_X0_15 ea4 dX0_addPart_13 ?_
    obtain ⟨v5, ev5, hf⟩ := zb hf
    refine zr_alen ⟨_, rfl⟩ hB hG ev5 dX0_addPart_16 ?_
    refine lv_aload_n hx hb dX0_addPart_17 rfl (lv_at hl 0 rfl) ?_
    obtain ⟨v6, ev6, hf⟩ := zb hf
    refine zr_getI hB hG zF_0 (by decide) kf_X0_21 ev6 dX0_addPart_18 ?_
    refine lv_isub hx hb dX0_addPart_21 ?_
    refine lv_icmp_le (tgt := 27) hx hb dX0_addPart_22 (by decide) (fun hc13 => ?_) (fun hc13 => ?_)
    · rw [if_pos hc13] at hf
      refine lv_aload_n hx hb dX0_addPart_27 rfl (lv_at hl 1 rfl) ?_
      obtain ⟨a7, ea7, hf⟩ := zb hf
      refine zr_getR hB hG zF_0 (by decide) kf_X0_15 ea7 dX0_addPart_28 ?_
      refine lv_iload_n hx hb dX0_addPart_31 rfl (lv_at hl 2 rfl) ?_
      refine lv_aload_n hx hb dX0_addPart_32 rfl (lv_at hl 0 rfl) ?_
      obtain ⟨a8, ea8, hf⟩ := zb hf
      refine zr_getR hB hG zF_0 (by decide) kf_X0_15 ea8 dX0_addPart_33 ?_
      refine lv_aload_n hx hb dX0_addPart_36 rfl (lv_at hl 0 rfl) ?_
      obtain ⟨v9, ev9, hf⟩ := zb hf
      refine zr_getI hB hG zF_0 (by decide) kf_X0_21 ev9 dX0_addPart_37 ?_
      refine lv_iload_n hx hb dX0_addPart_40 rfl (lv_at hl 3 rfl) ?_
      refine lv_iload_n hx hb dX0_addPart_41 rfl (lv_at hl 2 rfl) ?_
      refine lv_isub hx hb dX0_addPart_42 ?_
      obtain ⟨h10, eh10, hf⟩ := zb hf
      refine zr_copy km_X0_29 k_acn k_acs k_aci hl.1 hB hG eh10 (by decide) (Nat.le_of_ble_eq_true rfl) dX0_addPart_43 (fun H locs hG => ?_)
      refine lv_aload_n hx hb dX0_addPart_46 rfl (lv_at hl 0 rfl) ?_
      refine lv_dup hx hb dX0_addPart_47 rfl ?_
      obtain ⟨v11, ev11, hf⟩ := zb hf
      refine zr_getI hB hG zF_0 (by decide) kf_X0_21 ev11 dX0_addPart_48 ?_
      refine lv_iload_n hx hb dX0_addPart_51 rfl (lv_at hl 3 rfl) ?_
      refine lv_iload_n hx hb dX0_addPart_52 rfl (lv_at hl 2 rfl) ?_
      refine lv_isub hx hb dX0_addPart_53 ?_
      refine lv_iadd hx hb dX0_addPart_54 ?_
      obtain ⟨h12, eh12, hf⟩ := zb hf
      refine zr_put hB hG zF_0 (by decide) kf_X0_21 rfl rfl rfl eh12 dX0_addPart_55 (fun H locs hG => ?_)
      refine lv_iconst (v := 1) hx hb dX0_addPart_58 (by decide) ?_
      obtain rfl := Option.some.inj hf
      exact zr_zret hB hG (by decide) ⟨rfl, rfl, rfl⟩ dX0_addPart_59
    · rw [if_neg hc13] at hf
      exact w_X0_addPart_25 hB _ _ _ h2  hG (lv_sub hl [] rfl) hf
end G_X0_addPart
theorem c_X0_addPart {l : Launch} {D : va_G} {K : Nat → ClassId} {b0 N : Nat} {h : zh_H} {x0 : Nat} {x1 : Nat} {x2 : Int32} {x3 : Int32} {r : Int32} {h2 : zh_H} (hf : b_X0_addPart_0 h x0 x1 x2 x3 = some (r, h2)) : zc l yX0_addPart cX0_addPart 4 (some .boolean) 1 0 0 D K b0 N h [.ref x0, .ref x1, .int x2, .int x3] (zq (some (.int r)) N h2) := by
  refine zc.of [(0, .ref x0), (1, .ref x1), (2, .int x2), (3, .int x3)] (by decide) rfl (Nat.le_of_ble_eq_true rfl) ?_
  intro p e s m args below meth c hB hnm hG ls hl
  exact w_X0_addPart_0 (res := (r, h2)) hB _ _ ls h x0 x1 x2 x3 hG (lv_sub hl [0, 1, 2, 3] rfl) hf

section G_X0_clear
variable {p : Program} {l : Launch} {e : Env} {s : State} {m : MethodId} {args : Array Value} {below : List Frame} {meth : Method} {c : Code} {D : va_G} {K : Nat → ClassId} {b0 N : Nat}
set_option maxRecDepth 100000 in
set_option maxHeartbeats 4000000 in
theorem w_X0_clear_0 {res : zh_H} (hB : zc_B p s m args meth c cX0_clear 1 RX0 none D K) : ∀ (H : Heap) (locs : List Loc) (ls : Array Slot) (h : zh_H) (x0 : Nat), zh_G D K b0 N h s.heap H locs → lv_has ls 1 [(0, .ref x0)] → b_X0_clear_0 h x0 = some res → W p l e (zc_rm 0 0 0) s m args below meth c H locs 0 0 (MQ below (zc_Q D K b0 (zq none N res)) args s 0 0 (fun q => b0 ≤ q)) (F0 m 0 ls []) := by
  have hx := hB.1
  have hb := hB.2.1
  intro H locs ls h x0 hG hl hf
  unfold b_X0_clear_0 at hf
  refine lv_aload_n hx hb dX0_clear_0 rfl (lv_at hl 0 rfl) ?_
  refine lv_iconst (v := 0) hx hb dX0_clear_1 (by decide) ?_
  obtain ⟨h1, eh1, hf⟩ := zb hf
  refine zr_put hB hG zF_0 (by decide) kf_X0_21 rfl rfl rfl eh1 dX0_clear_2 (fun H locs hG => ?_)
  obtain rfl := Option.some.inj hf
  exact zr_vret hB hG ⟨rfl, rfl, rfl⟩ dX0_clear_5
end G_X0_clear
theorem c_X0_clear {l : Launch} {D : va_G} {K : Nat → ClassId} {b0 N : Nat} {h : zh_H} {x0 : Nat} {h2 : zh_H} (hf : b_X0_clear_0 h x0 = some h2) : zc l yX0_clear cX0_clear 1 none 0 0 0 D K b0 N h [.ref x0] (zq none N h2) := by
  refine zc.of [(0, .ref x0)] (by decide) rfl (Nat.le_of_ble_eq_true rfl) ?_
  intro p e s m args below meth c hB hnm hG ls hl
  exact w_X0_clear_0 (res := h2) hB _ _ ls h x0 hG (lv_sub hl [0] rfl) hf

section G_X0_copyFrom
variable {p : Program} {l : Launch} {e : Env} {s : State} {m : MethodId} {args : Array Value} {below : List Frame} {meth : Method} {c : Code} {D : va_G} {K : Nat → ClassId} {b0 N : Nat}
set_option maxRecDepth 100000 in
set_option maxHeartbeats 4000000 in
theorem w_X0_copyFrom_0 {res : zh_H} (hB : zc_B p s m args meth c cX0_copyFrom 2 RX0 none D K) : ∀ (H : Heap) (locs : List Loc) (ls : Array Slot) (h : zh_H) (x0 : Nat) (x1 : Nat), zh_G D K b0 N h s.heap H locs → lv_has ls 2 [(0, .ref x0), (1, .ref x1)] → b_X0_copyFrom_0 h x0 x1 = some res → W p l e (zc_rm 2 0 0) s m args below meth c H locs 0 0 (MQ below (zc_Q D K b0 (zq none N res)) args s 0 0 (fun q => b0 ≤ q)) (F0 m 0 ls []) := by
  have hx := hB.1
  have hb := hB.2.1
  intro H locs ls h x0 x1 hG hl hf
  unfold b_X0_copyFrom_0 at hf
  refine lv_aload_n hx hb dX0_copyFrom_0 rfl (lv_at hl 0 rfl) ?_
  obtain ⟨o1, eo1, hf⟩ := zb hf
  obtain ⟨h2, eh2, hf⟩ := zb hf
  refine zr_callVv (As := []) kc_X0_35 hB hG (c_X0_clear eh2) eo1 rfl hl.1 rfl ⟨by decide, by decide⟩ (Nat.le_of_ble_eq_true rfl) ⟨by decide, by decide⟩ dX0_copyFrom_1 (fun H locs hG => ?_)
  refine lv_aload_n hx hb dX0_copyFrom_4 rfl (lv_at hl 0 rfl) ?_
  refine lv_aload_n hx hb dX0_copyFrom_5 rfl (lv_at hl 1 rfl) ?_
  refine lv_iconst (v := 0) hx hb dX0_copyFrom_6 (by decide) ?_
  refine lv_aload_n hx hb dX0_copyFrom_7 rfl (lv_at hl 1 rfl) ?_
  obtain ⟨v3, ev3, hf⟩ := zb hf
  refine zr_getI hB hG zF_0 (by decide) kf_X0_21 ev3 dX0_copyFrom_8 ?_
  obtain ⟨o4, eo4, hf⟩ := zb hf
  obtain ⟨v6, h5, eh5, hf⟩ := zbp_s hf
  refine zr_callV (As := [.ref x1, .int (0 : Int32), .int v3]) kc_X0_38 hB hG (c_X0_addPart eh5) eo4 rfl hl.1 rfl ⟨by decide, by decide⟩ (Nat.le_of_ble_eq_true rfl) ⟨by decide, by decide⟩ dX0_copyFrom_11 (fun H locs hG => ?_)
  refine lv_pop hx hb dX0_copyFrom_14 rfl ?_
  obtain rfl := Option.some.inj hf
  exact zr_vret hB hG ⟨rfl, rfl, rfl⟩ dX0_copyFrom_15
end G_X0_copyFrom
theorem c_X0_copyFrom {l : Launch} {D : va_G} {K : Nat → ClassId} {b0 N : Nat} {h : zh_H} {x0 : Nat} {x1 : Nat} {h2 : zh_H} (hf : b_X0_copyFrom_0 h x0 x1 = some h2) : zc l yX0_copyFrom cX0_copyFrom 2 none 2 0 0 D K b0 N h [.ref x0, .ref x1] (zq none N h2) := by
  refine zc.of [(0, .ref x0), (1, .ref x1)] (by decide) rfl (Nat.le_of_ble_eq_true rfl) ?_
  intro p e s m args below meth c hB hnm hG ls hl
  exact w_X0_copyFrom_0 (res := h2) hB _ _ ls h x0 x1 hG (lv_sub hl [0, 1] rfl) hf

section G_X0_get
variable {p : Program} {l : Launch} {e : Env} {s : State} {m : MethodId} {args : Array Value} {below : List Frame} {meth : Method} {c : Code} {D : va_G} {K : Nat → ClassId} {b0 N : Nat}
set_option maxRecDepth 100000 in
set_option maxHeartbeats 4000000 in
theorem w_X0_get_22 {res : (Int32 × zh_H)} (hB : zc_B p s m args meth c cX0_get 2 RX0 (some .int) D K) : ∀ (H : Heap) (locs : List Loc) (ls : Array Slot) (h : zh_H) (y0 : Int32), zh_G D K b0 N h s.heap H locs → lv_has ls 2 [] → b_X0_get_22 h y0 = some res → W p l e (zc_rm 0 0 0) s m args below meth c H locs 0 0 (MQ below (zc_Q D K b0 (zq (some (.int res.1)) N res.2)) args s 0 0 (fun q => b0 ≤ q)) (F0 m 22 ls [.int y0]) := by
  have hx := hB.1
  have hb := hB.2.1
  intro H locs ls h y0 hG hl hf
  unfold b_X0_get_22 at hf
  obtain rfl := Option.some.inj hf
  exact zr_iret hB hG ⟨rfl, rfl, rfl⟩ dX0_get_22

set_option maxRecDepth 100000 in
set_option maxHeartbeats 4000000 in
theorem w_X0_get_21 {res : (Int32 × zh_H)} (hB : zc_B p s m args meth c cX0_get 2 RX0 (some .int) D K) : ∀ (H : Heap) (locs : List Loc) (ls : Array Slot) (h : zh_H), zh_G D K b0 N h s.heap H locs → lv_has ls 2 [] → b_X0_get_21 h  = some res → W p l e (zc_rm 0 0 0) s m args below meth c H locs 0 0 (MQ below (zc_Q D K b0 (zq (some (.int res.1)) N res.2)) args s 0 0 (fun q => b0 ≤ q)) (F0 m 21 ls []) := by
  have hx := hB.1
  have hb := hB.2.1
  intro H locs ls h  hG hl hf
  unfold b_X0_get_21 at hf
  refine lv_iconst (v := -1) hx hb dX0_get_21 (by decide) ?_
  exact w_X0_get_22 hB _ _ _ h ((-1 : Int32)) hG (lv_sub hl [] rfl) hf

set_option maxRecDepth 100000 in
set_option maxHeartbeats 4000000 in
theorem w_X0_get_0 {res : (Int32 × zh_H)} (hB : zc_B p s m args meth c cX0_get 2 RX0 (some .int) D K) : ∀ (H : Heap) (locs : List Loc) (ls : Array Slot) (h : zh_H) (x0 : Nat) (x1 : Int32), zh_G D K b0 N h s.heap H locs → lv_has ls 2 [(0, .ref x0), (1, .int x1)] → b_X0_get_0 h x0 x1 = some res → W p l e (zc_rm 0 0 0) s m args below meth c H locs 0 0 (MQ below (zc_Q D K b0 (zq (some (.int res.1)) N res.2)) args s 0 0 (fun q => b0 ≤ q)) (F0 m 0 ls []) := by
  have hx := hB.1
  have hb := hB.2.1
  intro H locs ls h x0 x1 hG hl hf
  unfold b_X0_get_0 at hf
  refine lv_iload_n hx hb dX0_get_0 rfl (lv_at hl 1 rfl) ?_
  refine lv_if_lt (tgt := 21) hx hb dX0_get_1 (by decide) (fun hc5 => ?_) (fun hc5 => ?_)
  · rw [if_pos hc5] at hf
    exact w_X0_get_21 hB _ _ _ h  hG (lv_sub hl [] rfl) hf
  · rw [if_neg hc5] at hf
    refine lv_iload_n hx hb dX0_get_4 rfl (lv_at hl 1 rfl) ?_
    refine lv_aload_n hx hb dX0_get_5 rfl (lv_at hl 0 rfl) ?_
    obtain ⟨v1, ev1, hf⟩ := zb hf
    refine zr_getI hB hG zF_0 (by decide) kf_X0_21 ev1 dX0_get_6 ?_
    refine lv_icmp_ge (tgt := 21) hx hb dX0_get_9 (by decide) (fun hc4 => ?_) (fun hc4 => ?_)
    · rw [if_pos hc4] at hf
      exact w_X0_get_21 hB _ _ _ h  hG (lv_sub hl [] rfl) hf
    · rw [if_neg hc4] at hf
      refine lv_aload_n hx hb dX0_get_12 rfl (lv_at hl 0 rfl) ?_
      obtain ⟨a2, ea2, hf⟩ := zb hf
      refine zr_getR hB hG zF_0 (by decide) kf_X0_15 ea2 dX0_get_13 ?_
      refine lv_iload_n hx hb dX0_get_16 rfl (lv_at hl 1 rfl) ?_
      obtain ⟨v3, ev3, hf⟩ := zb hf
      refine zr_bald hB hG ev3 dX0_get_17 ?_
      refine lv_goto (tgt := 22) hx hb dX0_get_18 (by decide) ?_
      exact w_X0_get_22 hB _ _ _ h (v3) hG (lv_sub hl [] rfl) hf
end G_X0_get
theorem c_X0_get {l : Launch} {D : va_G} {K : Nat → ClassId} {b0 N : Nat} {h : zh_H} {x0 : Nat} {x1 : Int32} {r : Int32} {h2 : zh_H} (hf : b_X0_get_0 h x0 x1 = some (r, h2)) : zc l yX0_get cX0_get 2 (some .int) 0 0 0 D K b0 N h [.ref x0, .int x1] (zq (some (.int r)) N h2) := by
  refine zc.of [(0, .ref x0), (1, .int x1)] (by decide) rfl (Nat.le_of_ble_eq_true rfl) ?_
  intro p e s m args below meth c hB hnm hG ls hl
  exact w_X0_get_0 (res := (r, h2)) hB _ _ ls h x0 x1 hG (lv_sub hl [0, 1] rfl) hf

section G_X0_init
variable {p : Program} {l : Launch} {e : Env} {s : State} {m : MethodId} {args : Array Value} {below : List Frame} {meth : Method} {c : Code} {D : va_G} {K : Nat → ClassId} {b0 zz : Nat}
set_option maxRecDepth 100000 in
set_option maxHeartbeats 4000000 in
theorem w_X0_init_0 {res : (Nat × zh_H)} (hB : zc_B p s m args meth c cX0_init 2 RX0 none D K) (hnm : meth.name = "<init>") : ∀ (H : Heap) (locs : List Loc) (ls : Array Slot) (N cs sl : Nat) (h : zh_H) (x0 : Nat) (x1 : Int32), zh_G D K b0 N h s.heap H locs → lv_has ls 2 [(0, .ref x0), (1, .int x1)] → b_X0_init_0 N cs sl h x0 x1 = some res → W p l e (zc_rm 1 1 1500) s m args below meth c H locs cs sl (MQ below (zc_Q D K b0 (zq none res.1 res.2)) args s 1 1500 (fun q => b0 ≤ q)) (F0 m 0 ls []) := by
  have hx := hB.1
  have hb := hB.2.1
  intro H locs ls N cs sl h x0 x1 hG hl hf
  unfold b_X0_init_0 at hf
  refine lv_aload_n hx hb dX0_init_0 rfl (lv_at hl 0 rfl) ?_
  refine zr_oinit km_X0_3 k_oi k_oc hl.1 hB dX0_init_1 (by decide) (Nat.le_of_ble_eq_true rfl) ?_
  refine lv_aload_n hx hb dX0_init_4 rfl (lv_at hl 0 rfl) ?_
  refine lv_iload_n hx hb dX0_init_5 rfl (lv_at hl 1 rfl) ?_
  refine lv_iconst (v := 0) hx hb dX0_init_6 (by decide) ?_
  obtain ⟨hz, hf⟩ := zif_s hf
  refine zr_max km_X0_9 k_max k_Mi k_maxc hl.1 hB dX0_init_7 (by decide) (Nat.le_of_ble_eq_true rfl) hz ?_
  obtain ⟨hz, hf⟩ := zif_s hf
  refine zr_newa (t := 0) (atype := .byte) (a0 := ((Int32.toNatClampNeg (zmax x1 (0 : Int32))), .inl (fun _ => 0))) ka_0 rfl rfl hB hG (fun _ => rfl) (zh_ok_b fun _ => rfl) hz.1 hz.2 dX0_init_10 (fun H hG => ?_)
  obtain ⟨h1, eh1, hf⟩ := zb hf
  refine zr_putF hB hG zF_0 (by decide) kf_X0_15 rfl hnm rfl rfl rfl eh1 dX0_init_12 (fun H locs hG => ?_)
  obtain ⟨hz, hf⟩ := zif_s hf
  obtain rfl := Option.some.inj hf
  refine W.widen (k := 1) (n := 1500) hz.1 hz.2 ?_
  exact zr_vret hB hG ⟨rfl, rfl, rfl⟩ dX0_init_15
end G_X0_init
theorem c_X0_init {l : Launch} {D : va_G} {K : Nat → ClassId} {b0 N N2 : Nat} {h h2 : zh_H} {x0 : Nat} {x1 : Int32} (hf : b_X0_init_0 N 0 0 h x0 x1 = some (N2, h2)) : zc l yX0_init cX0_init 2 none 1 1 1500 D K b0 N h [.ref x0, .int x1] (zq none N2 h2) := by
  refine zc.of [(0, .ref x0), (1, .int x1)] (by decide) rfl (Nat.le_of_ble_eq_true rfl) ?_
  intro p e s m args below meth c hB hnm hG ls hl
  exact w_X0_init_0 (res := (N2, h2)) hB hnm _ _ ls N 0 0 h x0 x1 hG (lv_sub hl [0, 1] rfl) hf

section G_X0_putIn
variable {p : Program} {l : Launch} {e : Env} {s : State} {m : MethodId} {args : Array Value} {below : List Frame} {meth : Method} {c : Code} {D : va_G} {K : Nat → ClassId} {b0 N : Nat}
set_option maxRecDepth 100000 in
set_option maxHeartbeats 4000000 in
theorem w_X0_putIn_83 {res : zh_H} (hB : zc_B p s m args meth c cX0_putIn 3 RX0 none D K) : ∀ (H : Heap) (locs : List Loc) (ls : Array Slot) (h : zh_H), zh_G D K b0 N h s.heap H locs → lv_has ls 3 [] → b_X0_putIn_83 h  = some res → W p l e (zc_rm 1 0 0) s m args below meth c H locs 0 0 (MQ below (zc_Q D K b0 (zq none N res)) args s 0 0 (fun q => b0 ≤ q)) (F0 m 83 ls []) := by
  have hx := hB.1
  have hb := hB.2.1
  intro H locs ls h  hG hl hf
  unfold b_X0_putIn_83 at hf
  obtain rfl := Option.some.inj hf
  exact zr_vret hB hG ⟨rfl, rfl, rfl⟩ dX0_putIn_83

set_option maxRecDepth 100000 in
set_option maxHeartbeats 4000000 in
theorem w_X0_putIn_0 {res : zh_H} (hB : zc_B p s m args meth c cX0_putIn 3 RX0 none D K) : ∀ (H : Heap) (locs : List Loc) (ls : Array Slot) (h : zh_H) (x0 : Nat) (x1 : Int32) (x2 : Nat), zh_G D K b0 N h s.heap H locs → lv_has ls 3 [(0, .ref x0), (1, .int x1), (2, .ref x2)] → b_X0_putIn_0 h x0 x1 x2 = some res → W p l e (zc_rm 1 0 0) s m args below meth c H locs 0 0 (MQ below (zc_Q D K b0 (zq none N res)) args s 0 0 (fun q => b0 ≤ q)) (F0 m 0 ls []) := by
  have hx := hB.1
  have hb := hB.2.1
  intro H locs ls h x0 x1 x2 hG hl hf
  unfold b_X0_putIn_0 at hf
  refine lv_iload_n hx hb dX0_putIn_0 rfl (lv_at hl 1 rfl) ?_
  refine lv_if_lt (tgt := 83) hx hb dX0_putIn_1 (by decide) (fun hc20 => ?_) (fun hc20 => ?_)
  · rw [if_pos hc20] at hf
    exact w_X0_putIn_83 hB _ _ _ h  hG (lv_sub hl [] rfl) hf
  · rw [if_neg hc20] at hf
    refine lv_iload_n hx hb dX0_putIn_4 rfl (lv_at hl 1 rfl) ?_
    refine lv_aload_n hx hb dX0_putIn_5 rfl (lv_at hl 0 rfl) ?_
    obtain ⟨v1, ev1, hf⟩ := zb hf
    refine zr_getI hB hG zF_0 (by decide) kf_X0_21 ev1 dX0_putIn_6 ?_
    refine lv_icmp_gt (tgt := 83) hx hb dX0_putIn_9 (by decide) (fun hc19 => ?_) (fun hc19 => ?_)
    · rw [if_pos hc19] at hf
      exact w_X0_putIn_83 hB _ _ _ h  hG (lv_sub hl [] rfl) hf
    · rw [if_neg hc19] at hf
      refine lv_aload_n hx hb dX0_putIn_12 rfl (lv_at hl 2 rfl) ?_
      obtain ⟨v2, ev2, hf⟩ := zb hf
      refine zr_getI hB hG zF_0 (by decide) kf_X0_21 ev2 dX0_putIn_13 ?_
      refine lv_aload_n hx hb dX0_putIn_16 rfl (lv_at hl 0 rfl) ?_
      obtain ⟨a3, ea3, hf⟩ := zb hf
      refine zr_getR hB hG zF_0 (by decide) kf_X0_15 ea3 dX0_putIn_17 ?_
      obtain ⟨v4, ev4, hf⟩ := zb hf
      refine zr_alen ⟨_, rfl⟩ hB hG ev4 dX0_putIn_20 ?_
      refine lv_aload_n hx hb dX0_putIn_21 rfl (lv_at hl 0 rfl) ?_
      obtain ⟨v5, ev5, hf⟩ := zb hf
      refine zr_getI hB hG zF_0 (by decide) kf_X0_21 ev5 dX0_putIn_22 ?_
      refine lv_isub hx hb dX0_putIn_25 ?_
      refine lv_icmp_gt (tgt := 83) hx hb dX0_putIn_26 (by decide) (fun hc18 => ?_) (fun hc18 => ?_)
      · rw [if_pos hc18] at hf
        exact w_X0_putIn_83 hB _ _ _ h  hG (lv_sub hl [] rfl) hf
      · rw [if_neg hc18] at hf
        refine lv_aload_n hx hb dX0_putIn_29 rfl (lv_at hl 0 rfl) ?_
        obtain ⟨a6, ea6, hf⟩ := zb hf
        refine zr_getR hB hG zF_0 (by decide) kf_X0_15 ea6 dX0_putIn_30 ?_
        refine lv_iload_n hx hb dX0_putIn_33 rfl (lv_at hl 1 rfl) ?_
        refine lv_aload_n hx hb dX0_putIn_34 rfl (lv_at hl 0 rfl) ?_
        obtain ⟨a7, ea7, hf⟩ := zb hf
        refine zr_getR hB hG zF_0 (by decide) kf_X0_15 ea7 dX0_putIn_35 ?_
        refine lv_iload_n hx hb dX0_putIn_38 rfl (lv_at hl 1 rfl) ?_
        refine lv_aload_n hx hb dX0_putIn_39 rfl (lv_at hl 2 rfl) ?_
        obtain ⟨v8, ev8, hf⟩ := zb hf
        refine zr_getI hB hG zF_0 (by decide) kf_X0_21 ev8 dX0_putIn_40 ?_
        refine lv_iadd hx hb dX0_putIn_43 ?_
        refine lv_aload_n hx hb dX0_putIn_44 rfl (lv_at hl 0 rfl) ?_
        obtain ⟨v9, ev9, hf⟩ := zb hf
        refine zr_getI hB hG zF_0 (by decide) kf_X0_21 ev9 dX0_putIn_45 ?_
        refine lv_iload_n hx hb dX0_putIn_48 rfl (lv_at hl 1 rfl) ?_
        refine lv_isub hx hb dX0_putIn_49 ?_
        obtain ⟨h10, eh10, hf⟩ := zb hf
        refine zr_copy km_X0_29 k_acn k_acs k_aci hl.1 hB hG eh10 (by decide) (Nat.le_of_ble_eq_true rfl) dX0_putIn_50 (fun H locs hG => ?_)
        refine lv_aload_n hx hb dX0_putIn_53 rfl (lv_at hl 2 rfl) ?_
        obtain ⟨a11, ea11, hf⟩ := zb hf
        refine zr_getR hB hG zF_0 (by decide) kf_X0_15 ea11 dX0_putIn_54 ?_
        refine lv_iconst (v := 0) hx hb dX0_putIn_57 (by decide) ?_
        refine lv_aload_n hx hb dX0_putIn_58 rfl (lv_at hl 0 rfl) ?_
        obtain ⟨a12, ea12, hf⟩ := zb hf
        refine zr_getR hB hG zF_0 (by decide) kf_X0_15 ea12 dX0_putIn_59 ?_
        refine lv_iload_n hx hb dX0_putIn_62 rfl (lv_at hl 1 rfl) ?_
        refine lv_aload_n hx hb dX0_putIn_63 rfl (lv_at hl 2 rfl) ?_
        obtain ⟨v13, ev13, hf⟩ := zb hf
        refine zr_getI hB hG zF_0 (by decide) kf_X0_21 ev13 dX0_putIn_64 ?_
        obtain ⟨h14, eh14, hf⟩ := zb hf
        refine zr_copy km_X0_29 k_acn k_acs k_aci hl.1 hB hG eh14 (by decide) (Nat.le_of_ble_eq_true rfl) dX0_putIn_67 (fun H locs hG => ?_)
        refine lv_aload_n hx hb dX0_putIn_70 rfl (lv_at hl 0 rfl) ?_
        refine lv_dup hx hb dX0_putIn_71 rfl ?_
        obtain ⟨v15, ev15, hf⟩ := zb hf
        refine zr_getI hB hG zF_0 (by decide) kf_X0_21 ev15 dX0_putIn_72 ?_
        refine lv_aload_n hx hb dX0_putIn_75 rfl (lv_at hl 2 rfl) ?_
        obtain ⟨v16, ev16, hf⟩ := zb hf
        refine zr_getI hB hG zF_0 (by decide) kf_X0_21 ev16 dX0_putIn_76 ?_
        refine lv_iadd hx hb dX0_putIn_79 ?_
        obtain ⟨h17, eh17, hf⟩ := zb hf
        refine zr_put hB hG zF_0 (by decide) kf_X0_21 rfl rfl rfl eh17 dX0_putIn_80 (fun H locs hG => ?_)
        exact w_X0_putIn_83 hB _ _ _ h17  hG (lv_sub hl [] rfl) hf
end G_X0_putIn
theorem c_X0_putIn {l : Launch} {D : va_G} {K : Nat → ClassId} {b0 N : Nat} {h : zh_H} {x0 : Nat} {x1 : Int32} {x2 : Nat} {h2 : zh_H} (hf : b_X0_putIn_0 h x0 x1 x2 = some h2) : zc l yX0_putIn cX0_putIn 3 none 1 0 0 D K b0 N h [.ref x0, .int x1, .ref x2] (zq none N h2) := by
  refine zc.of [(0, .ref x0), (1, .int x1), (2, .ref x2)] (by decide) rfl (Nat.le_of_ble_eq_true rfl) ?_
  intro p e s m args below meth c hB hnm hG ls hl
  exact w_X0_putIn_0 (res := h2) hB _ _ ls h x0 x1 x2 hG (lv_sub hl [0, 1, 2] rfl) hf

section G_X0_takeOut
variable {p : Program} {l : Launch} {e : Env} {s : State} {m : MethodId} {args : Array Value} {below : List Frame} {meth : Method} {c : Code} {D : va_G} {K : Nat → ClassId} {b0 N : Nat}
set_option maxRecDepth 100000 in
set_option maxHeartbeats 4000000 in
theorem w_X0_takeOut_40 {res : zh_H} (hB : zc_B p s m args meth c cX0_takeOut 3 RX0 none D K) : ∀ (H : Heap) (locs : List Loc) (ls : Array Slot) (h : zh_H), zh_G D K b0 N h s.heap H locs → lv_has ls 3 [] → b_X0_takeOut_40 h  = some res → W p l e (zc_rm 1 0 0) s m args below meth c H locs 0 0 (MQ below (zc_Q D K b0 (zq none N res)) args s 0 0 (fun q => b0 ≤ q)) (F0 m 40 ls []) := by
  have hx := hB.1
  have hb := hB.2.1
  intro H locs ls h  hG hl hf
  unfold b_X0_takeOut_40 at hf
  obtain rfl := Option.some.inj hf
  exact zr_vret hB hG ⟨rfl, rfl, rfl⟩ dX0_takeOut_40

set_option maxRecDepth 100000 in
set_option maxHeartbeats 4000000 in
theorem w_X0_takeOut_0 {res : zh_H} (hB : zc_B p s m args meth c cX0_takeOut 3 RX0 none D K) : ∀ (H : Heap) (locs : List Loc) (ls : Array Slot) (h : zh_H) (x0 : Nat) (x1 : Int32) (x2 : Int32), zh_G D K b0 N h s.heap H locs → lv_has ls 3 [(0, .ref x0), (1, .int x1), (2, .int x2)] → b_X0_takeOut_0 h x0 x1 x2 = some res → W p l e (zc_rm 1 0 0) s m args below meth c H locs 0 0 (MQ below (zc_Q D K b0 (zq none N res)) args s 0 0 (fun q => b0 ≤ q)) (F0 m 0 ls []) := by
  have hx := hB.1
  have hb := hB.2.1
  intro H locs ls h x0 x1 x2 hG hl hf
  unfold b_X0_takeOut_0 at hf
  refine lv_aload_n hx hb dX0_takeOut_0 rfl (lv_at hl 0 rfl) ?_
  refine lv_iload_n hx hb dX0_takeOut_1 rfl (lv_at hl 1 rfl) ?_
  refine lv_iload_n hx hb dX0_takeOut_2 rfl (lv_at hl 2 rfl) ?_
  obtain ⟨o1, eo1, hf⟩ := zb hf
  obtain ⟨v3, h2, eh2, hf⟩ := zbp_s hf
  refine zr_callV (As := [.int x1, .int x2]) kc_X0_25 hB hG (c_X0_isPart eh2) eo1 rfl hl.1 rfl ⟨by decide, by decide⟩ (Nat.le_of_ble_eq_true rfl) ⟨by decide, by decide⟩ dX0_takeOut_3 (fun H locs hG => ?_)
  refine lv_if_eq (tgt := 40) hx hb dX0_takeOut_6 (by decide) (fun hc10 => ?_) (fun hc10 => ?_)
  · rw [if_pos hc10] at hf
    exact w_X0_takeOut_40 hB _ _ _ h2  hG (lv_sub hl [] rfl) hf
  · rw [if_neg hc10] at hf
    refine lv_aload_n hx hb dX0_takeOut_9 rfl (lv_at hl 0 rfl) ?_
    obtain ⟨a4, ea4, hf⟩ := zb hf
    refine zr_getR hB hG zF_0 (by decide) kf_X0_15 ea4 dX0_takeOut_10 ?_
    refine lv_iload_n hx hb dX0_takeOut_13 rfl (lv_at hl 2 rfl) ?_
    refine lv_aload_n hx hb dX0_takeOut_14 rfl (lv_at hl 0 rfl) ?_
    obtain ⟨a5, ea5, hf⟩ := zb hf
    refine zr_getR hB hG zF_0 (by decide) kf_X0_15 ea5 dX0_takeOut_15 ?_
    refine lv_iload_n hx hb dX0_takeOut_18 rfl (lv_at hl 1 rfl) ?_
    refine lv_aload_n hx hb dX0_takeOut_19 rfl (lv_at hl 0 rfl) ?_
    obtain ⟨v6, ev6, hf⟩ := zb hf
    refine zr_getI hB hG zF_0 (by decide) kf_X0_21 ev6 dX0_takeOut_20 ?_
    refine lv_iload_n hx hb dX0_takeOut_23 rfl (lv_at hl 2 rfl) ?_
    refine lv_isub hx hb dX0_takeOut_24 ?_
    obtain ⟨h7, eh7, hf⟩ := zb hf
    refine zr_copy km_X0_29 k_acn k_acs k_aci hl.1 hB hG eh7 (by decide) (Nat.le_of_ble_eq_true rfl) dX0_takeOut_25 (fun H locs hG => ?_)
    refine lv_aload_n hx hb dX0_takeOut_28 rfl (lv_at hl 0 rfl) ?_
    refine lv_dup hx hb dX0_takeOut_29 rfl ?_
    obtain ⟨v8, ev8, hf⟩ := zb hf
    refine zr_getI hB hG zF_0 (by decide) kf_X0_21 ev8 dX0_takeOut_30 ?_
    refine lv_iload_n hx hb dX0_takeOut_33 rfl (lv_at hl 2 rfl) ?_
    refine lv_iload_n hx hb dX0_takeOut_34 rfl (lv_at hl 1 rfl) ?_
    refine lv_isub hx hb dX0_takeOut_35 ?_
    refine lv_isub hx hb dX0_takeOut_36 ?_
    obtain ⟨h9, eh9, hf⟩ := zb hf
    refine zr_put hB hG zF_0 (by decide) kf_X0_21 rfl rfl rfl eh9 dX0_takeOut_37 (fun H locs hG => ?_)
    exact w_X0_takeOut_40 hB _ _ _ h9  hG (lv_sub hl [] rfl) hf
end G_X0_takeOut
theorem c_X0_takeOut {l : Launch} {D : va_G} {K : Nat → ClassId} {b0 N : Nat} {h : zh_H} {x0 : Nat} {x1 : Int32} {x2 : Int32} {h2 : zh_H} (hf : b_X0_takeOut_0 h x0 x1 x2 = some h2) : zc l yX0_takeOut cX0_takeOut 3 none 1 0 0 D K b0 N h [.ref x0, .int x1, .int x2] (zq none N h2) := by
  refine zc.of [(0, .ref x0), (1, .int x1), (2, .int x2)] (by decide) rfl (Nat.le_of_ble_eq_true rfl) ?_
  intro p e s m args below meth c hB hnm hG ls hl
  exact w_X0_takeOut_0 (res := h2) hB _ _ ls h x0 x1 x2 hG (lv_sub hl [0, 1, 2] rfl) hf

section G_X10_isLimit
variable {p : Program} {l : Launch} {e : Env} {s : State} {m : MethodId} {args : Array Value} {below : List Frame} {meth : Method} {c : Code} {D : va_G} {K : Nat → ClassId} {b0 N : Nat}
set_option maxRecDepth 100000 in
set_option maxHeartbeats 4000000 in
theorem w_X10_isLimit_16 {res : (Int32 × zh_H)} (hB : zc_B p s m args meth c cX10_isLimit 1 RX10 (some .boolean) D K) : ∀ (H : Heap) (locs : List Loc) (ls : Array Slot) (h : zh_H) (y0 : Int32), zh_G D K b0 N h s.heap H locs → lv_has ls 1 [] → b_X10_isLimit_16 h y0 = some res → W p l e (zc_rm 0 0 0) s m args below meth c H locs 0 0 (MQ below (zc_Q D K b0 (zq (some (.int res.1)) N res.2)) args s 0 0 (fun q => b0 ≤ q)) (F0 m 16 ls [.int y0]) := by
  have hx := hB.1
  have hb := hB.2.1
  intro H locs ls h y0 hG hl hf
  unfold b_X10_isLimit_16 at hf
  obtain ⟨hz, hf⟩ := zif_s hf
  obtain rfl := Option.some.inj hf
  exact zr_zret hB hG hz ⟨rfl, rfl, rfl⟩ dX10_isLimit_16

set_option maxRecDepth 100000 in
set_option maxHeartbeats 4000000 in
theorem w_X10_isLimit_15 {res : (Int32 × zh_H)} (hB : zc_B p s m args meth c cX10_isLimit 1 RX10 (some .boolean) D K) : ∀ (H : Heap) (locs : List Loc) (ls : Array Slot) (h : zh_H), zh_G D K b0 N h s.heap H locs → lv_has ls 1 [] → b_X10_isLimit_15 h  = some res → W p l e (zc_rm 0 0 0) s m args below meth c H locs 0 0 (MQ below (zc_Q D K b0 (zq (some (.int res.1)) N res.2)) args s 0 0 (fun q => b0 ≤ q)) (F0 m 15 ls []) := by
  have hx := hB.1
  have hb := hB.2.1
  intro H locs ls h  hG hl hf
  unfold b_X10_isLimit_15 at hf
  refine lv_iconst (v := 0) hx hb dX10_isLimit_15 (by decide) ?_
  exact w_X10_isLimit_16 hB _ _ _ h ((0 : Int32)) hG (lv_sub hl [] rfl) hf

set_option maxRecDepth 100000 in
set_option maxHeartbeats 4000000 in
theorem w_X10_isLimit_0 {res : (Int32 × zh_H)} (hB : zc_B p s m args meth c cX10_isLimit 1 RX10 (some .boolean) D K) : ∀ (H : Heap) (locs : List Loc) (ls : Array Slot) (h : zh_H) (x0 : Int32), zh_G D K b0 N h s.heap H locs → lv_has ls 1 [(0, .int x0)] → b_X10_isLimit_0 h x0 = some res → W p l e (zc_rm 0 0 0) s m args below meth c H locs 0 0 (MQ below (zc_Q D K b0 (zq (some (.int res.1)) N res.2)) args s 0 0 (fun q => b0 ≤ q)) (F0 m 0 ls []) := by
  have hx := hB.1
  have hb := hB.2.1
  intro H locs ls h x0 hG hl hf
  unfold b_X10_isLimit_0 at hf
  refine lv_iload_n hx hb dX10_isLimit_0 rfl (lv_at hl 0 rfl) ?_
  refine lv_if_lt (tgt := 15) hx hb dX10_isLimit_1 (by decide) (fun hc2 => ?_) (fun hc2 => ?_)
  · rw [if_pos hc2] at hf
    exact w_X10_isLimit_15 hB _ _ _ h  hG (lv_sub hl [] rfl) hf
  · rw [if_neg hc2] at hf
    refine lv_iload_n hx hb dX10_isLimit_4 rfl (lv_at hl 0 rfl) ?_
    refine lv_sipush (v := 2000) hx hb dX10_isLimit_5 (by decide) ?_
    refine lv_icmp_gt (tgt := 15) hx hb dX10_isLimit_8 (by decide) (fun hc1 => ?_) (fun hc1 => ?_)
    · rw [if_pos hc1] at hf
      exact w_X10_isLimit_15 hB _ _ _ h  hG (lv_sub hl [] rfl) hf
    · rw [if_neg hc1] at hf
      refine lv_iconst (v := 1) hx hb dX10_isLimit_11 (by decide) ?_
      refine lv_goto (tgt := 16) hx hb dX10_isLimit_12 (by decide) ?_
      exact w_X10_isLimit_16 hB _ _ _ h ((1 : Int32)) hG (lv_sub hl [] rfl) hf
end G_X10_isLimit
theorem c_X10_isLimit {l : Launch} {D : va_G} {K : Nat → ClassId} {b0 N : Nat} {h : zh_H} {x0 : Int32} {r : Int32} {h2 : zh_H} (hf : b_X10_isLimit_0 h x0 = some (r, h2)) : zc l yX10_isLimit cX10_isLimit 1 (some .boolean) 0 0 0 D K b0 N h [.int x0] (zq (some (.int r)) N h2) := by
  refine zc.of [(0, .int x0)] (by decide) rfl (Nat.le_of_ble_eq_true rfl) ?_
  intro p e s m args below meth c hB hnm hG ls hl
  exact w_X10_isLimit_0 (res := (r, h2)) hB _ _ ls h x0 hG (lv_sub hl [0] rfl) hf

section G_X7_clear
variable {p : Program} {l : Launch} {e : Env} {s : State} {m : MethodId} {args : Array Value} {below : List Frame} {meth : Method} {c : Code} {D : va_G} {K : Nat → ClassId} {b0 N : Nat}
set_option maxRecDepth 100000 in
set_option maxHeartbeats 4000000 in
theorem w_X7_clear_0 {res : zh_H} (hB : zc_B p s m args meth c cX7_clear 1 RX7 none D K) : ∀ (H : Heap) (locs : List Loc) (ls : Array Slot) (h : zh_H) (x0 : Nat), zh_G D K b0 N h s.heap H locs → lv_has ls 1 [(0, .ref x0)] → b_X7_clear_0 h x0 = some res → W p l e (zc_rm 0 0 0) s m args below meth c H locs 0 0 (MQ below (zc_Q D K b0 (zq none N res)) args s 0 0 (fun q => b0 ≤ q)) (F0 m 0 ls []) := by
  have hx := hB.1
  have hb := hB.2.1
  intro H locs ls h x0 hG hl hf
  unfold b_X7_clear_0 at hf
  refine lv_aload_n hx hb dX7_clear_0 rfl (lv_at hl 0 rfl) ?_
  refine lv_iconst (v := 0) hx hb dX7_clear_1 (by decide) ?_
  obtain ⟨h1, eh1, hf⟩ := zb hf
  refine zr_put hB hG zF_7 (by decide) kf_X7_22 rfl rfl rfl eh1 dX7_clear_2 (fun H locs hG => ?_)
  obtain rfl := Option.some.inj hf
  exact zr_vret hB hG ⟨rfl, rfl, rfl⟩ dX7_clear_5
end G_X7_clear
theorem c_X7_clear {l : Launch} {D : va_G} {K : Nat → ClassId} {b0 N : Nat} {h : zh_H} {x0 : Nat} {h2 : zh_H} (hf : b_X7_clear_0 h x0 = some h2) : zc l yX7_clear cX7_clear 1 none 0 0 0 D K b0 N h [.ref x0] (zq none N h2) := by
  refine zc.of [(0, .ref x0)] (by decide) rfl (Nat.le_of_ble_eq_true rfl) ?_
  intro p e s m args below meth c hB hnm hG ls hl
  exact w_X7_clear_0 (res := h2) hB _ _ ls h x0 hG (lv_sub hl [0] rfl) hf

section G_X7_add
variable {p : Program} {l : Launch} {e : Env} {s : State} {m : MethodId} {args : Array Value} {below : List Frame} {meth : Method} {c : Code} {D : va_G} {K : Nat → ClassId} {b0 N : Nat}
set_option maxRecDepth 100000 in
set_option maxHeartbeats 4000000 in
theorem w_X7_add_42 {res : zh_H} (hB : zc_B p s m args meth c cX7_add 5 RX7 none D K) : ∀ (H : Heap) (locs : List Loc) (ls : Array Slot) (h : zh_H), zh_G D K b0 N h s.heap H locs → lv_has ls 5 [] → b_X7_add_42 h  = some res → W p l e (zc_rm 0 0 0) s m args below meth c H locs 0 0 (MQ below (zc_Q D K b0 (zq none N res)) args s 0 0 (fun q => b0 ≤ q)) (F0 m 42 ls []) := by
  have hx := hB.1
  have hb := hB.2.1
  intro H locs ls h  hG hl hf
  unfold b_X7_add_42 at hf
  obtain rfl := Option.some.inj hf
  exact zr_vret hB hG ⟨rfl, rfl, rfl⟩ dX7_add_42

set_option maxRecDepth 100000 in
set_option maxHeartbeats 4000000 in
theorem w_X7_add_0 {res : zh_H} (hB : zc_B p s m args meth c cX7_add 5 RX7 none D K) : ∀ (H : Heap) (locs : List Loc) (ls : Array Slot) (h : zh_H) (x0 : Nat) (x1 : Int64) (x3 : Int64), zh_G D K b0 N h s.heap H locs → lv_has ls 5 [(0, .ref x0), (1, .long x1), (3, .long x3)] → b_X7_add_0 h x0 x1 x3 = some res → W p l e (zc_rm 0 0 0) s m args below meth c H locs 0 0 (MQ below (zc_Q D K b0 (zq none N res)) args s 0 0 (fun q => b0 ≤ q)) (F0 m 0 ls []) := by
  have hx := hB.1
  have hb := hB.2.1
  intro H locs ls h x0 x1 x3 hG hl hf
  unfold b_X7_add_0 at hf
  refine lv_aload_n hx hb dX7_add_0 rfl (lv_at hl 0 rfl) ?_
  obtain ⟨v1, ev1, hf⟩ := zb hf
  refine zr_getI hB hG zF_7 (by decide) kf_X7_22 ev1 dX7_add_1 ?_
  refine lv_aload_n hx hb dX7_add_4 rfl (lv_at hl 0 rfl) ?_
  obtain ⟨a2, ea2, hf⟩ := zb hf
  refine zr_getR hB hG zF_7 (by decide) kf_X7_13 ea2 dX7_add_5 ?_
  obtain ⟨v3, ev3, hf⟩ := zb hf
  refine zr_alen ⟨_, rfl⟩ hB hG ev3 dX7_add_8 ?_
  refine lv_icmp_ge (tgt := 42) hx hb dX7_add_9 (by decide) (fun hc12 => ?_) (fun hc12 => ?_)
  · rw [if_pos hc12] at hf
    exact w_X7_add_42 hB _ _ _ h  hG (lv_sub hl [] rfl) hf
  · rw [if_neg hc12] at hf
    refine lv_aload_n hx hb dX7_add_12 rfl (lv_at hl 0 rfl) ?_
    obtain ⟨a4, ea4, hf⟩ := zb hf
    refine zr_getR hB hG zF_7 (by decide) kf_X7_13 ea4 dX7_add_13 ?_
    refine lv_aload_n hx hb dX7_add_16 rfl (lv_at hl 0 rfl) ?_
    obtain ⟨v5, ev5, hf⟩ := zb hf
    refine zr_getI hB hG zF_7 (by decide) kf_X7_22 ev5 dX7_add_17 ?_
    refine lv_lload_n hx hb dX7_add_20 rfl (lv_at hl 1 rfl) ?_
    obtain ⟨h6, eh6, hf⟩ := zb hf
    refine zr_last hB hG eh6 dX7_add_21 (fun H locs hG => ?_)
    refine lv_aload_n hx hb dX7_add_22 rfl (lv_at hl 0 rfl) ?_
    obtain ⟨a7, ea7, hf⟩ := zb hf
    refine zr_getR hB hG zF_7 (by decide) kf_X7_19 ea7 dX7_add_23 ?_
    refine lv_aload_n hx hb dX7_add_26 rfl (lv_at hl 0 rfl) ?_
    obtain ⟨v8, ev8, hf⟩ := zb hf
    refine zr_getI hB hG zF_7 (by decide) kf_X7_22 ev8 dX7_add_27 ?_
    refine lv_lload_n hx hb dX7_add_30 rfl (lv_at hl 2 rfl) ?_
    obtain ⟨h9, eh9, hf⟩ := zb hf
    refine zr_last hB hG eh9 dX7_add_31 (fun H locs hG => ?_)
    refine lv_aload_n hx hb dX7_add_32 rfl (lv_at hl 0 rfl) ?_
    refine lv_dup hx hb dX7_add_33 rfl ?_
    obtain ⟨v10, ev10, hf⟩ := zb hf
    refine zr_getI hB hG zF_7 (by decide) kf_X7_22 ev10 dX7_add_34 ?_
    refine lv_iconst (v := 1) hx hb dX7_add_37 (by decide) ?_
    refine lv_iadd hx hb dX7_add_38 ?_
    obtain ⟨h11, eh11, hf⟩ := zb hf
    refine zr_put hB hG zF_7 (by decide) kf_X7_22 rfl rfl rfl eh11 dX7_add_39 (fun H locs hG => ?_)
    exact w_X7_add_42 hB _ _ _ h11  hG (lv_sub hl [] rfl) hf
end G_X7_add
theorem c_X7_add {l : Launch} {D : va_G} {K : Nat → ClassId} {b0 N : Nat} {h : zh_H} {x0 : Nat} {x1 : Int64} {x3 : Int64} {h2 : zh_H} (hf : b_X7_add_0 h x0 x1 x3 = some h2) : zc l yX7_add cX7_add 5 none 0 0 0 D K b0 N h [.ref x0, .long x1, .long x3] (zq none N h2) := by
  refine zc.of [(0, .ref x0), (1, .long x1), (3, .long x3)] (by decide) rfl (Nat.le_of_ble_eq_true rfl) ?_
  intro p e s m args below meth c hB hnm hG ls hl
  exact w_X7_add_0 (res := h2) hB _ _ ls h x0 x1 x3 hG (lv_sub hl [0, 1, 2] rfl) hf

section G_X7_copyBytes
variable {p : Program} {l : Launch} {e : Env} {s : State} {m : MethodId} {args : Array Value} {below : List Frame} {meth : Method} {c : Code} {D : va_G} {K : Nat → ClassId} {b0 N : Nat}
set_option maxRecDepth 100000 in
set_option maxHeartbeats 4000000 in
theorem w_X7_copyBytes_52 {res : zh_H} (hB : zc_B p s m args meth c cX7_copyBytes 6 RX7 none D K) {k7 : zh_H → Nat → Nat → Int32 → Int32 → Option zh_H} (hk7 : ∀ (H : Heap) (locs : List Loc) (ls : Array Slot) (h : zh_H) (x0 : Nat) (x1 : Nat) (x3 : Int32) (x4 : Int32), zh_G D K b0 N h s.heap H locs → lv_has ls 6 [(0, .ref x0), (1, .ref x1), (3, .int x3), (4, .int x4)] → k7 h x0 x1 x3 x4 = some res → W p l e (zc_rm 1 0 0) s m args below meth c H locs 0 0 (MQ below (zc_Q D K b0 (zq none N res)) args s 0 0 (fun q => b0 ≤ q)) (F0 m 7 ls [])) : ∀ (H : Heap) (locs : List Loc) (ls : Array Slot) (h : zh_H) (x0 : Nat) (x1 : Nat) (x3 : Int32) (x4 : Int32) (y0 : Int64) (y1 : Int64) (y2 : Nat), zh_G D K b0 N h s.heap H locs → lv_has ls 6 [(0, .ref x0), (1, .ref x1), (3, .int x3), (4, .int x4)] → b_X7_copyBytes_52 k7 h x0 x1 x3 x4 y0 y1 y2 = some res → W p l e (zc_rm 1 0 0) s m args below meth c H locs 0 0 (MQ below (zc_Q D K b0 (zq none N res)) args s 0 0 (fun q => b0 ≤ q)) (F0 m 52 ls [.long y0, .long y1, .ref y2]) := by
  have hx := hB.1
  have hb := hB.2.1
  intro H locs ls h x0 x1 x3 x4 y0 y1 y2 hG hl hf
  unfold b_X7_copyBytes_52 at hf
  obtain ⟨o1, eo1, hf⟩ := zb hf
  obtain ⟨h2, eh2, hf⟩ := zb hf
  refine zr_callVv (As := [.long y1, .long y0]) kc_X7_33 hB hG (c_X7_add eh2) eo1 rfl hl.1 rfl ⟨by decide, by decide⟩ (Nat.le_of_ble_eq_true rfl) ⟨by decide, by decide⟩ dX7_copyBytes_52 (fun H locs hG => ?_)
  refine lv_iinc (v := (x4 + (1 : Int32))) (lv' := [(4, .int (x4 + (1 : Int32))), (0, .ref x0), (1, .ref x1), (3, .int x3)]) hx hb dX7_copyBytes_55 hl (k := 3) rfl rfl (by decide) rfl (fun ls hl => ?_)
  refine lv_goto (tgt := 7) hx hb dX7_copyBytes_58 (by decide) ?_
  exact hk7 _ _ _ h2 (x0) (x1) (x3) ((x4 + (1 : Int32))) hG (lv_sub hl [1, 2, 3, 0] rfl) hf

set_option maxRecDepth 100000 in
set_option maxHeartbeats 4000000 in
theorem w_X7_copyBytes_37 {res : zh_H} (hB : zc_B p s m args meth c cX7_copyBytes 6 RX7 none D K) {k7 : zh_H → Nat → Nat → Int32 → Int32 → Option zh_H} (hk7 : ∀ (H : Heap) (locs : List Loc) (ls : Array Slot) (h : zh_H) (x0 : Nat) (x1 : Nat) (x3 : Int32) (x4 : Int32), zh_G D K b0 N h s.heap H locs → lv_has ls 6 [(0, .ref x0), (1, .ref x1), (3, .int x3), (4, .int x4)] → k7 h x0 x1 x3 x4 = some res → W p l e (zc_rm 1 0 0) s m args below meth c H locs 0 0 (MQ below (zc_Q D K b0 (zq none N res)) args s 0 0 (fun q => b0 ≤ q)) (F0 m 7 ls [])) : ∀ (H : Heap) (locs : List Loc) (ls : Array Slot) (h : zh_H) (x0 : Nat) (x1 : Nat) (x3 : Int32) (x4 : Int32) (x5 : Int32) (y0 : Int64) (y1 : Nat), zh_G D K b0 N h s.heap H locs → lv_has ls 6 [(0, .ref x0), (1, .ref x1), (3, .int x3), (4, .int x4), (5, .int x5)] → b_X7_copyBytes_37 k7 h x0 x1 x3 x4 x5 y0 y1 = some res → W p l e (zc_rm 1 0 0) s m args below meth c H locs 0 0 (MQ below (zc_Q D K b0 (zq none N res)) args s 0 0 (fun q => b0 ≤ q)) (F0 m 37 ls [.long y0, .ref y1]) := by
  have hx := hB.1
  have hb := hB.2.1
  intro H locs ls h x0 x1 x3 x4 x5 y0 y1 hG hl hf
  unfold b_X7_copyBytes_37 at hf
  refine lv_iload hx hb dX7_copyBytes_37 (lv_at hl 4 rfl) ?_
  refine lv_bipush (v := 64) hx hb dX7_copyBytes_39 (by decide) ?_
  refine lv_icmp_ge (tgt := 48) hx hb dX7_copyBytes_41 (by decide) (fun hc1 => ?_) (fun hc1 => ?_)
  · rw [if_pos hc1] at hf
    refine lv_lconst (v := 1) hx hb dX7_copyBytes_48 (by decide) ?_
    refine lv_iload hx hb dX7_copyBytes_49 (lv_at hl 4 rfl) ?_
    refine lv_lshl hx hb dX7_copyBytes_51 rfl ?_
    exact w_X7_copyBytes_52 hB hk7 _ _ _ h (x0) (x1) (x3) (x4) ((((1 : Int64) <<< (Int32.toInt64 x5 &&& 63)))) (y0) (y1) hG (lv_sub hl [0, 1, 2, 3] rfl) hf
  · rw [if_neg hc1] at hf
    refine lv_lconst (v := 0) hx hb dX7_copyBytes_44 (by decide) ?_
    refine lv_goto (tgt := 52) hx hb dX7_copyBytes_45 (by decide) ?_
    exact w_X7_copyBytes_52 hB hk7 _ _ _ h (x0) (x1) (x3) (x4) ((0 : Int64)) (y0) (y1) hG (lv_sub hl [0, 1, 2, 3] rfl) hf

set_option maxRecDepth 100000 in
set_option maxHeartbeats 4000000 in
theorem w_X7_copyBytes_7 {res : zh_H} (hB : zc_B p s m args meth c cX7_copyBytes 6 RX7 none D K) : ∀ n : Nat, ∀ (H : Heap) (locs : List Loc) (ls : Array Slot) (h : zh_H) (x0 : Nat) (x1 : Nat) (x3 : Int32) (x4 : Int32), zh_G D K b0 N h s.heap H locs → lv_has ls 6 [(0, .ref x0), (1, .ref x1), (3, .int x3), (4, .int x4)] → b_X7_copyBytes_7 n h x0 x1 x3 x4 = some res → W p l e (zc_rm 1 0 0) s m args below meth c H locs 0 0 (MQ below (zc_Q D K b0 (zq none N res)) args s 0 0 (fun q => b0 ≤ q)) (F0 m 7 ls []) := by
  have hx := hB.1
  have hb := hB.2.1
  intro n
  induction n with
  | zero =>
    intro H locs ls h x0 x1 x3 x4 hG hl hf
    cases hf
  | succ n ih =>
    intro H locs ls h x0 x1 x3 x4 hG hl hf
    unfold b_X7_copyBytes_7 at hf
    refine lv_iload hx hb dX7_copyBytes_7 (lv_at hl 3 rfl) ?_
    refine lv_iload_n hx hb dX7_copyBytes_9 rfl (lv_at hl 2 rfl) ?_
    refine lv_icmp_ge (tgt := 61) hx hb dX7_copyBytes_10 (by decide) (fun hc5 => ?_) (fun hc5 => ?_)
    · rw [if_pos hc5] at hf
      obtain rfl := Option.some.inj hf
      exact zr_vret hB hG ⟨rfl, rfl, rfl⟩ dX7_copyBytes_61
    · rw [if_neg hc5] at hf
      refine lv_aload_n hx hb dX7_copyBytes_13 rfl (lv_at hl 1 rfl) ?_
      refine lv_iload hx hb dX7_copyBytes_14 (lv_at hl 3 rfl) ?_
      obtain ⟨o1, eo1, hf⟩ := zb hf
      obtain ⟨v3, h2, eh2, hf⟩ := zbp_s hf
      refine zr_callV (As := [.int x4]) kc_X7_37 hB hG (c_X0_get eh2) eo1 rfl hl.1 rfl ⟨by decide, by decide⟩ (Nat.le_of_ble_eq_true rfl) ⟨by decide, by decide⟩ dX7_copyBytes_16 (fun H locs hG => ?_)
      refine lv_istore (lv' := [(5, .int v3), (0, .ref x0), (1, .ref x1), (3, .int x3), (4, .int x4)]) hx hb dX7_copyBytes_19 hl (by decide) rfl (fun ls hl => ?_)
      refine lv_aload_n hx hb dX7_copyBytes_21 rfl (lv_at hl 1 rfl) ?_
      refine lv_iload hx hb dX7_copyBytes_22 (lv_at hl 0 rfl) ?_
      refine lv_bipush (v := 64) hx hb dX7_copyBytes_24 (by decide) ?_
      refine lv_icmp_ge (tgt := 36) hx hb dX7_copyBytes_26 (by decide) (fun hc4 => ?_) (fun hc4 => ?_)
      · rw [if_pos hc4] at hf
        refine lv_lconst (v := 0) hx hb dX7_copyBytes_36 (by decide) ?_
        exact w_X7_copyBytes_37 hB ih _ _ _ h2 (x0) (x1) (x3) (x4) (v3) ((0 : Int64)) (x0) hG (lv_sub hl [1, 2, 3, 4, 0] rfl) hf
      · rw [if_neg hc4] at hf
        refine lv_lconst (v := 1) hx hb dX7_copyBytes_29 (by decide) ?_
        refine lv_iload hx hb dX7_copyBytes_30 (lv_at hl 0 rfl) ?_
        refine lv_lshl hx hb dX7_copyBytes_32 rfl ?_
        refine lv_goto (tgt := 37) hx hb dX7_copyBytes_33 (by decide) ?_
        exact w_X7_copyBytes_37 hB ih _ _ _ h2 (x0) (x1) (x3) (x4) (v3) ((((1 : Int64) <<< (Int32.toInt64 v3 &&& 63)))) (x0) hG (lv_sub hl [1, 2, 3, 4, 0] rfl) hf

set_option maxRecDepth 100000 in
set_option maxHeartbeats 4000000 in
theorem w_X7_copyBytes_0 {res : zh_H} (hB : zc_B p s m args meth c cX7_copyBytes 6 RX7 none D K) : ∀ (H : Heap) (locs : List Loc) (ls : Array Slot) (h : zh_H) (x0 : Nat) (x1 : Nat) (x2 : Int32) (x3 : Int32), zh_G D K b0 N h s.heap H locs → lv_has ls 6 [(0, .ref x0), (1, .ref x1), (2, .int x2), (3, .int x3)] → b_X7_copyBytes_0 h x0 x1 x2 x3 = some res → W p l e (zc_rm 1 0 0) s m args below meth c H locs 0 0 (MQ below (zc_Q D K b0 (zq none N res)) args s 0 0 (fun q => b0 ≤ q)) (F0 m 0 ls []) := by
  have hx := hB.1
  have hb := hB.2.1
  intro H locs ls h x0 x1 x2 x3 hG hl hf
  unfold b_X7_copyBytes_0 at hf
  refine lv_aload_n hx hb dX7_copyBytes_0 rfl (lv_at hl 0 rfl) ?_
  obtain ⟨o1, eo1, hf⟩ := zb hf
  obtain ⟨h2, eh2, hf⟩ := zb hf
  refine zr_callVv (As := []) kc_X7_30 hB hG (c_X7_clear eh2) eo1 rfl hl.1 rfl ⟨by decide, by decide⟩ (Nat.le_of_ble_eq_true rfl) ⟨by decide, by decide⟩ dX7_copyBytes_1 (fun H locs hG => ?_)
  refine lv_iload_n hx hb dX7_copyBytes_4 rfl (lv_at hl 2 rfl) ?_
  refine lv_istore (lv' := [(4, .int x2), (0, .ref x0), (1, .ref x1), (2, .int x2), (3, .int x3)]) hx hb dX7_copyBytes_5 hl (by decide) rfl (fun ls hl => ?_)
  exact w_X7_copyBytes_7 hB zFuel _ _ _ h2 (x0) (x1) (x3) (x2) hG (lv_sub hl [1, 2, 4, 0] rfl) hf
end G_X7_copyBytes
theorem c_X7_copyBytes {l : Launch} {D : va_G} {K : Nat → ClassId} {b0 N : Nat} {h : zh_H} {x0 : Nat} {x1 : Nat} {x2 : Int32} {x3 : Int32} {h2 : zh_H} (hf : b_X7_copyBytes_0 h x0 x1 x2 x3 = some h2) : zc l yX7_copyBytes cX7_copyBytes 6 none 1 0 0 D K b0 N h [.ref x0, .ref x1, .int x2, .int x3] (zq none N h2) := by
  refine zc.of [(0, .ref x0), (1, .ref x1), (2, .int x2), (3, .int x3)] (by decide) rfl (Nat.le_of_ble_eq_true rfl) ?_
  intro p e s m args below meth c hB hnm hG ls hl
  exact w_X7_copyBytes_0 (res := h2) hB _ _ ls h x0 x1 x2 x3 hG (lv_sub hl [0, 1, 2, 3] rfl) hf

