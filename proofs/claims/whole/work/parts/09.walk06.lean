section G_X9_addBefore
variable {p : Program} {l : Launch} {e : Env} {s : State} {m : MethodId} {args : Array Value} {below : List Frame} {meth : Method} {c : Code} {D : va_G} {K : Nat → ClassId} {b0 N : Nat}
set_option maxRecDepth 100000 in
set_option maxHeartbeats 4000000 in
theorem w_X9_addBefore_33 {res : zh_H} (hB : zc_B p s m args meth c cX9_addBefore 2 RX9 none D K) : ∀ (H : Heap) (locs : List Loc) (ls : Array Slot) (h : zh_H), zh_G D K b0 N h s.heap H locs → lv_has ls 2 [] → b_X9_addBefore_33 h  = some res → W p l e (zc_rm 0 0 0) s m args below meth c H locs 0 0 (MQ below (zc_Q D K b0 (zq none N res)) args s 0 0 (fun q => b0 ≤ q)) (F0 m 33 ls []) := by
  have hx := hB.1
  have hb := hB.2.1
  intro H locs ls h  hG hl hf
  unfold b_X9_addBefore_33 at hf
  obtain rfl := Option.some.inj hf
  exact zr_vret hB hG ⟨rfl, rfl, rfl⟩ dX9_addBefore_33

set_option maxRecDepth 100000 in
set_option maxHeartbeats 4000000 in
theorem w_X9_addBefore_0 {res : zh_H} (hB : zc_B p s m args meth c cX9_addBefore 2 RX9 none D K) : ∀ (H : Heap) (locs : List Loc) (ls : Array Slot) (h : zh_H) (x0 : Nat) (x1 : Int32), zh_G D K b0 N h s.heap H locs → lv_has ls 2 [(0, .ref x0), (1, .int x1)] → b_X9_addBefore_0 h x0 x1 = some res → W p l e (zc_rm 0 0 0) s m args below meth c H locs 0 0 (MQ below (zc_Q D K b0 (zq none N res)) args s 0 0 (fun q => b0 ≤ q)) (F0 m 0 ls []) := by
  have hx := hB.1
  have hb := hB.2.1
  intro H locs ls h x0 x1 hG hl hf
  unfold b_X9_addBefore_0 at hf
  refine lv_aload_n hx hb dX9_addBefore_0 rfl (lv_at hl 0 rfl) ?_
  obtain ⟨v1, ev1, hf⟩ := zb hf
  refine zr_getI hB hG zF_9 (by decide) kf_X9_15 ev1 dX9_addBefore_1 ?_
  refine lv_aload_n hx hb dX9_addBefore_4 rfl (lv_at hl 0 rfl) ?_
  obtain ⟨a2, ea2, hf⟩ := zb hf
  refine zr_getR hB hG zF_9 (by decide) kf_X9_9 ea2 dX9_addBefore_5 ?_
  obtain ⟨v3, ev3, hf⟩ := zb hf
  refine zr_alen ⟨_, rfl⟩ hB hG ev3 dX9_addBefore_8 ?_
  refine lv_icmp_ge (tgt := 33) hx hb dX9_addBefore_9 (by decide) (fun hc9 => ?_) (fun hc9 => ?_)
  · rw [if_pos hc9] at hf
    exact w_X9_addBefore_33 hB _ _ _ h  hG (lv_sub hl [] rfl) hf
  · rw [if_neg hc9] at hf
    refine lv_aload_n hx hb dX9_addBefore_12 rfl (lv_at hl 0 rfl) ?_
    obtain ⟨a4, ea4, hf⟩ := zb hf
    refine zr_getR hB hG zF_9 (by decide) kf_X9_9 ea4 dX9_addBefore_13 ?_
    refine lv_aload_n hx hb dX9_addBefore_16 rfl (lv_at hl 0 rfl) ?_
    obtain ⟨v5, ev5, hf⟩ := zb hf
    refine zr_getI hB hG zF_9 (by decide) kf_X9_15 ev5 dX9_addBefore_17 ?_
    refine lv_iload_n hx hb dX9_addBefore_20 rfl (lv_at hl 1 rfl) ?_
    refine lv_i2b hx hb dX9_addBefore_21 rfl ?_
    obtain ⟨h6, eh6, hf⟩ := zb hf
    refine zr_bast hB hG eh6 dX9_addBefore_22 (fun H locs hG => ?_)
    refine lv_aload_n hx hb dX9_addBefore_23 rfl (lv_at hl 0 rfl) ?_
    refine lv_dup hx hb dX9_addBefore_24 rfl ?_
    obtain ⟨v7, ev7, hf⟩ := zb hf
    refine zr_getI hB hG zF_9 (by decide) kf_X9_15 ev7 dX9_addBefore_25 ?_
    refine lv_iconst (v := 1) hx hb dX9_addBefore_28 (by decide) ?_
    refine lv_iadd hx hb dX9_addBefore_29 ?_
    obtain ⟨h8, eh8, hf⟩ := zb hf
    refine zr_put hB hG zF_9 (by decide) kf_X9_15 rfl rfl rfl eh8 dX9_addBefore_30 (fun H locs hG => ?_)
    exact w_X9_addBefore_33 hB _ _ _ h8  hG (lv_sub hl [] rfl) hf
end G_X9_addBefore
theorem c_X9_addBefore {l : Launch} {D : va_G} {K : Nat → ClassId} {b0 N : Nat} {h : zh_H} {x0 : Nat} {x1 : Int32} {h2 : zh_H} (hf : b_X9_addBefore_0 h x0 x1 = some h2) : zc l yX9_addBefore cX9_addBefore 2 none 0 0 0 D K b0 N h [.ref x0, .int x1] (zq none N h2) := by
  refine zc.of [(0, .ref x0), (1, .int x1)] (by decide) rfl (Nat.le_of_ble_eq_true rfl) ?_
  intro p e s m args below meth c hB hnm hG ls hl
  exact w_X9_addBefore_0 (res := h2) hB _ _ ls h x0 x1 hG (lv_sub hl [0, 1] rfl) hf

section G_X5_walkBack
variable {p : Program} {l : Launch} {e : Env} {s : State} {m : MethodId} {args : Array Value} {below : List Frame} {meth : Method} {c : Code} {D : va_G} {K : Nat → ClassId} {b0 N : Nat}
set_option maxRecDepth 100000 in
set_option maxHeartbeats 4000000 in
theorem w_X5_walkBack_98 {res : zh_H} (hB : zc_B p s m args meth c cX5_walkBack 7 RX5 none D K) {k20 : zh_H → Nat → Nat → Int32 → Int32 → Int32 → Option zh_H} (hk20 : ∀ (H : Heap) (locs : List Loc) (ls : Array Slot) (h : zh_H) (x0 : Nat) (x1 : Nat) (x2 : Int32) (x3 : Int32) (x4 : Int32), zh_G D K b0 N h s.heap H locs → lv_has ls 7 [(0, .ref x0), (1, .ref x1), (2, .int x2), (3, .int x3), (4, .int x4)] → k20 h x0 x1 x2 x3 x4 = some res → W p l e (zc_rm 2 0 0) s m args below meth c H locs 0 0 (MQ below (zc_Q D K b0 (zq none N res)) args s 0 0 (fun q => b0 ≤ q)) (F0 m 20 ls [])) : ∀ (H : Heap) (locs : List Loc) (ls : Array Slot) (h : zh_H) (x0 : Nat) (x1 : Nat) (x2 : Int32) (x3 : Int32) (x4 : Int32) (x5 : Int32), zh_G D K b0 N h s.heap H locs → lv_has ls 7 [(0, .ref x0), (1, .ref x1), (2, .int x2), (3, .int x3), (4, .int x4), (5, .int x5)] → b_X5_walkBack_98 k20 h x0 x1 x2 x3 x4 x5 = some res → W p l e (zc_rm 2 0 0) s m args below meth c H locs 0 0 (MQ below (zc_Q D K b0 (zq none N res)) args s 0 0 (fun q => b0 ≤ q)) (F0 m 98 ls []) := by
  have hx := hB.1
  have hb := hB.2.1
  intro H locs ls h x0 x1 x2 x3 x4 x5 hG hl hf
  unfold b_X5_walkBack_98 at hf
  refine lv_aload_n hx hb dX5_walkBack_98 rfl (lv_at hl 1 rfl) ?_
  refine lv_iload hx hb dX5_walkBack_99 (lv_at hl 5 rfl) ?_
  obtain ⟨o1, eo1, hf⟩ := zb hf
  obtain ⟨h2, eh2, hf⟩ := zb hf
  refine zr_callVv (As := [.int x5]) kc_X5_153 hB hG (c_X9_addBefore eh2) eo1 rfl hl.1 rfl ⟨by decide, by decide⟩ (Nat.le_of_ble_eq_true rfl) ⟨by decide, by decide⟩ dX5_walkBack_101 (fun H locs hG => ?_)
  refine lv_iinc (v := (x4 + (1 : Int32))) (lv' := [(4, .int (x4 + (1 : Int32))), (0, .ref x0), (1, .ref x1), (2, .int x2), (3, .int x3), (5, .int x5)]) hx hb dX5_walkBack_104 hl (k := 4) rfl rfl (by decide) rfl (fun ls hl => ?_)
  refine lv_goto (tgt := 20) hx hb dX5_walkBack_107 (by decide) ?_
  exact hk20 _ _ _ h2 (x0) (x1) (x2) (x3) ((x4 + (1 : Int32))) hG (lv_sub hl [1, 2, 3, 4, 0] rfl) hf

set_option maxRecDepth 100000 in
set_option maxHeartbeats 4000000 in
theorem w_X5_walkBack_87 {res : zh_H} (hB : zc_B p s m args meth c cX5_walkBack 7 RX5 none D K) {k20 : zh_H → Nat → Nat → Int32 → Int32 → Int32 → Option zh_H} (hk20 : ∀ (H : Heap) (locs : List Loc) (ls : Array Slot) (h : zh_H) (x0 : Nat) (x1 : Nat) (x2 : Int32) (x3 : Int32) (x4 : Int32), zh_G D K b0 N h s.heap H locs → lv_has ls 7 [(0, .ref x0), (1, .ref x1), (2, .int x2), (3, .int x3), (4, .int x4)] → k20 h x0 x1 x2 x3 x4 = some res → W p l e (zc_rm 2 0 0) s m args below meth c H locs 0 0 (MQ below (zc_Q D K b0 (zq none N res)) args s 0 0 (fun q => b0 ≤ q)) (F0 m 20 ls [])) : ∀ (H : Heap) (locs : List Loc) (ls : Array Slot) (h : zh_H) (x0 : Nat) (x1 : Nat) (x2 : Int32) (x3 : Int32) (x4 : Int32) (x5 : Int32) (x6 : Int32), zh_G D K b0 N h s.heap H locs → lv_has ls 7 [(0, .ref x0), (1, .ref x1), (2, .int x2), (3, .int x3), (4, .int x4), (5, .int x5), (6, .int x6)] → b_X5_walkBack_87 k20 h x0 x1 x2 x3 x4 x5 x6 = some res → W p l e (zc_rm 2 0 0) s m args below meth c H locs 0 0 (MQ below (zc_Q D K b0 (zq none N res)) args s 0 0 (fun q => b0 ≤ q)) (F0 m 87 ls []) := by
  have hx := hB.1
  have hb := hB.2.1
  intro H locs ls h x0 x1 x2 x3 x4 x5 x6 hG hl hf
  unfold b_X5_walkBack_87 at hf
  refine lv_iload hx hb dX5_walkBack_87 (lv_at hl 5 rfl) ?_
  refine lv_iconst (v := 3) hx hb dX5_walkBack_89 (by decide) ?_
  refine lv_icmp_eq (tgt := 98) hx hb dX5_walkBack_90 (by decide) (fun hc1 => ?_) (fun hc1 => ?_)
  · rw [if_pos hc1] at hf
    exact w_X5_walkBack_98 hB hk20 _ _ _ h (x0) (x1) (x2) (x3) (x4) (x5) hG (lv_sub hl [0, 1, 2, 3, 4, 5] rfl) hf
  · rw [if_neg hc1] at hf
    refine lv_iload_n hx hb dX5_walkBack_93 rfl (lv_at hl 3 rfl) ?_
    refine lv_iload hx hb dX5_walkBack_94 (lv_at hl 6 rfl) ?_
    refine lv_isub hx hb dX5_walkBack_96 ?_
    refine lv_istore_n (lv' := [(3, .int (x3 - x6)), (0, .ref x0), (1, .ref x1), (2, .int x2), (4, .int x4), (5, .int x5), (6, .int x6)]) hx hb dX5_walkBack_97 rfl hl (by decide) rfl (fun ls hl => ?_)
    exact w_X5_walkBack_98 hB hk20 _ _ _ h (x0) (x1) (x2) ((x3 - x6)) (x4) (x5) hG (lv_sub hl [1, 2, 3, 0, 4, 5] rfl) hf

set_option maxRecDepth 100000 in
set_option maxHeartbeats 4000000 in
theorem w_X5_walkBack_74 {res : zh_H} (hB : zc_B p s m args meth c cX5_walkBack 7 RX5 none D K) {k20 : zh_H → Nat → Nat → Int32 → Int32 → Int32 → Option zh_H} (hk20 : ∀ (H : Heap) (locs : List Loc) (ls : Array Slot) (h : zh_H) (x0 : Nat) (x1 : Nat) (x2 : Int32) (x3 : Int32) (x4 : Int32), zh_G D K b0 N h s.heap H locs → lv_has ls 7 [(0, .ref x0), (1, .ref x1), (2, .int x2), (3, .int x3), (4, .int x4)] → k20 h x0 x1 x2 x3 x4 = some res → W p l e (zc_rm 2 0 0) s m args below meth c H locs 0 0 (MQ below (zc_Q D K b0 (zq none N res)) args s 0 0 (fun q => b0 ≤ q)) (F0 m 20 ls [])) : ∀ (H : Heap) (locs : List Loc) (ls : Array Slot) (h : zh_H) (x0 : Nat) (x1 : Nat) (x2 : Int32) (x3 : Int32) (x4 : Int32) (x5 : Int32) (y0 : Int32), zh_G D K b0 N h s.heap H locs → lv_has ls 7 [(0, .ref x0), (1, .ref x1), (2, .int x2), (3, .int x3), (4, .int x4), (5, .int x5)] → b_X5_walkBack_74 k20 h x0 x1 x2 x3 x4 x5 y0 = some res → W p l e (zc_rm 2 0 0) s m args below meth c H locs 0 0 (MQ below (zc_Q D K b0 (zq none N res)) args s 0 0 (fun q => b0 ≤ q)) (F0 m 74 ls [.int y0]) := by
  have hx := hB.1
  have hb := hB.2.1
  intro H locs ls h x0 x1 x2 x3 x4 x5 y0 hG hl hf
  unfold b_X5_walkBack_74 at hf
  refine lv_istore (lv' := [(6, .int y0), (0, .ref x0), (1, .ref x1), (2, .int x2), (3, .int x3), (4, .int x4), (5, .int x5)]) hx hb dX5_walkBack_74 hl (by decide) rfl (fun ls hl => ?_)
  refine lv_iload hx hb dX5_walkBack_76 (lv_at hl 6 rfl) ?_
  refine lv_iconst (v := 2) hx hb dX5_walkBack_78 (by decide) ?_
  refine lv_icmp_eq (tgt := 87) hx hb dX5_walkBack_79 (by decide) (fun hc1 => ?_) (fun hc1 => ?_)
  · rw [if_pos hc1] at hf
    exact w_X5_walkBack_87 hB hk20 _ _ _ h (x0) (x1) (x2) (x3) (x4) (x5) (y0) hG (lv_sub hl [1, 2, 3, 4, 5, 6, 0] rfl) hf
  · rw [if_neg hc1] at hf
    refine lv_iload_n hx hb dX5_walkBack_82 rfl (lv_at hl 3 rfl) ?_
    refine lv_iload hx hb dX5_walkBack_83 (lv_at hl 0 rfl) ?_
    refine lv_isub hx hb dX5_walkBack_85 ?_
    refine lv_istore_n (lv' := [(2, .int (x2 - y0)), (6, .int y0), (0, .ref x0), (1, .ref x1), (3, .int x3), (4, .int x4), (5, .int x5)]) hx hb dX5_walkBack_86 rfl hl (by decide) rfl (fun ls hl => ?_)
    exact w_X5_walkBack_87 hB hk20 _ _ _ h (x0) (x1) ((x2 - y0)) (x3) (x4) (x5) (y0) hG (lv_sub hl [2, 3, 0, 4, 5, 6, 1] rfl) hf

set_option maxRecDepth 100000 in
set_option maxHeartbeats 4000000 in
theorem w_X5_walkBack_61 {res : zh_H} (hB : zc_B p s m args meth c cX5_walkBack 7 RX5 none D K) {k20 : zh_H → Nat → Nat → Int32 → Int32 → Int32 → Option zh_H} (hk20 : ∀ (H : Heap) (locs : List Loc) (ls : Array Slot) (h : zh_H) (x0 : Nat) (x1 : Nat) (x2 : Int32) (x3 : Int32) (x4 : Int32), zh_G D K b0 N h s.heap H locs → lv_has ls 7 [(0, .ref x0), (1, .ref x1), (2, .int x2), (3, .int x3), (4, .int x4)] → k20 h x0 x1 x2 x3 x4 = some res → W p l e (zc_rm 2 0 0) s m args below meth c H locs 0 0 (MQ below (zc_Q D K b0 (zq none N res)) args s 0 0 (fun q => b0 ≤ q)) (F0 m 20 ls [])) : ∀ (H : Heap) (locs : List Loc) (ls : Array Slot) (h : zh_H) (x0 : Nat) (x1 : Nat) (x2 : Int32) (x3 : Int32) (x4 : Int32) (y0 : Int32), zh_G D K b0 N h s.heap H locs → lv_has ls 7 [(0, .ref x0), (1, .ref x1), (2, .int x2), (3, .int x3), (4, .int x4)] → b_X5_walkBack_61 k20 h x0 x1 x2 x3 x4 y0 = some res → W p l e (zc_rm 2 0 0) s m args below meth c H locs 0 0 (MQ below (zc_Q D K b0 (zq none N res)) args s 0 0 (fun q => b0 ≤ q)) (F0 m 61 ls [.int y0]) := by
  have hx := hB.1
  have hb := hB.2.1
  intro H locs ls h x0 x1 x2 x3 x4 y0 hG hl hf
  unfold b_X5_walkBack_61 at hf
  refine lv_istore (lv' := [(5, .int y0), (0, .ref x0), (1, .ref x1), (2, .int x2), (3, .int x3), (4, .int x4)]) hx hb dX5_walkBack_61 hl (by decide) rfl (fun ls hl => ?_)
  refine lv_iload hx hb dX5_walkBack_63 (lv_at hl 0 rfl) ?_
  refine lv_iconst (v := 4) hx hb dX5_walkBack_65 (by decide) ?_
  refine lv_icmp_ne (tgt := 73) hx hb dX5_walkBack_66 (by decide) (fun hc1 => ?_) (fun hc1 => ?_)
  · rw [if_neg hc1] at hf
    refine lv_iconst (v := 1) hx hb dX5_walkBack_73 (by decide) ?_
    exact w_X5_walkBack_74 hB hk20 _ _ _ h (x0) (x1) (x2) (x3) (x4) (y0) ((1 : Int32)) hG (lv_sub hl [1, 2, 3, 4, 5, 0] rfl) hf
  · rw [if_pos hc1] at hf
    refine lv_iconst (v := 2) hx hb dX5_walkBack_69 (by decide) ?_
    refine lv_goto (tgt := 74) hx hb dX5_walkBack_70 (by decide) ?_
    exact w_X5_walkBack_74 hB hk20 _ _ _ h (x0) (x1) (x2) (x3) (x4) (y0) ((2 : Int32)) hG (lv_sub hl [1, 2, 3, 4, 5, 0] rfl) hf

set_option maxRecDepth 100000 in
set_option maxHeartbeats 4000000 in
theorem w_X5_walkBack_36 {res : zh_H} (hB : zc_B p s m args meth c cX5_walkBack 7 RX5 none D K) {k20 : zh_H → Nat → Nat → Int32 → Int32 → Int32 → Option zh_H} (hk20 : ∀ (H : Heap) (locs : List Loc) (ls : Array Slot) (h : zh_H) (x0 : Nat) (x1 : Nat) (x2 : Int32) (x3 : Int32) (x4 : Int32), zh_G D K b0 N h s.heap H locs → lv_has ls 7 [(0, .ref x0), (1, .ref x1), (2, .int x2), (3, .int x3), (4, .int x4)] → k20 h x0 x1 x2 x3 x4 = some res → W p l e (zc_rm 2 0 0) s m args below meth c H locs 0 0 (MQ below (zc_Q D K b0 (zq none N res)) args s 0 0 (fun q => b0 ≤ q)) (F0 m 20 ls [])) : ∀ (H : Heap) (locs : List Loc) (ls : Array Slot) (h : zh_H) (x0 : Nat) (x1 : Nat) (x2 : Int32) (x3 : Int32) (x4 : Int32), zh_G D K b0 N h s.heap H locs → lv_has ls 7 [(0, .ref x0), (1, .ref x1), (2, .int x2), (3, .int x3), (4, .int x4)] → b_X5_walkBack_36 k20 h x0 x1 x2 x3 x4 = some res → W p l e (zc_rm 2 0 0) s m args below meth c H locs 0 0 (MQ below (zc_Q D K b0 (zq none N res)) args s 0 0 (fun q => b0 ≤ q)) (F0 m 36 ls []) := by
  have hx := hB.1
  have hb := hB.2.1
  intro H locs ls h x0 x1 x2 x3 x4 hG hl hf
  unfold b_X5_walkBack_36 at hf
  refine lv_iload_n hx hb dX5_walkBack_36 rfl (lv_at hl 2 rfl) ?_
  refine lv_if_gt (tgt := 44) hx hb dX5_walkBack_37 (by decide) (fun hc6 => ?_) (fun hc6 => ?_)
  · rw [if_pos hc6] at hf
    refine lv_iload_n hx hb dX5_walkBack_44 rfl (lv_at hl 3 rfl) ?_
    refine lv_if_gt (tgt := 52) hx hb dX5_walkBack_45 (by decide) (fun hc5 => ?_) (fun hc5 => ?_)
    · rw [if_pos hc5] at hf
      refine lv_aload_n hx hb dX5_walkBack_52 rfl (lv_at hl 0 rfl) ?_
      obtain ⟨a1, ea1, hf⟩ := zb hf
      refine zr_getR hB hG zF_5 (by decide) kf_X5_57 ea1 dX5_walkBack_53 ?_
      refine lv_iload_n hx hb dX5_walkBack_56 rfl (lv_at hl 2 rfl) ?_
      refine lv_iload_n hx hb dX5_walkBack_57 rfl (lv_at hl 3 rfl) ?_
      obtain ⟨o2, eo2, hf⟩ := zb hf
      obtain ⟨v4, h3, eh3, hf⟩ := zbp_s hf
      refine zr_callV (As := [.int x2, .int x3]) kc_X5_151 hB hG (c_X8_get eh3) eo2 rfl hl.1 rfl ⟨by decide, by decide⟩ (Nat.le_of_ble_eq_true rfl) ⟨by decide, by decide⟩ dX5_walkBack_58 (fun H locs hG => ?_)
      exact w_X5_walkBack_61 hB hk20 _ _ _ h3 (x0) (x1) (x2) (x3) (x4) (v4) hG (lv_sub hl [0, 1, 2, 3, 4] rfl) hf
    · rw [if_neg hc5] at hf
      refine lv_iconst (v := 3) hx hb dX5_walkBack_48 (by decide) ?_
      refine lv_goto (tgt := 61) hx hb dX5_walkBack_49 (by decide) ?_
      exact w_X5_walkBack_61 hB hk20 _ _ _ h (x0) (x1) (x2) (x3) (x4) ((3 : Int32)) hG (lv_sub hl [0, 1, 2, 3, 4] rfl) hf
  · rw [if_neg hc6] at hf
    refine lv_iconst (v := 2) hx hb dX5_walkBack_40 (by decide) ?_
    refine lv_goto (tgt := 61) hx hb dX5_walkBack_41 (by decide) ?_
    exact w_X5_walkBack_61 hB hk20 _ _ _ h (x0) (x1) (x2) (x3) (x4) ((2 : Int32)) hG (lv_sub hl [0, 1, 2, 3, 4] rfl) hf

set_option maxRecDepth 100000 in
set_option maxHeartbeats 4000000 in
theorem w_X5_walkBack_110 {res : zh_H} (hB : zc_B p s m args meth c cX5_walkBack 7 RX5 none D K) : ∀ (H : Heap) (locs : List Loc) (ls : Array Slot) (h : zh_H), zh_G D K b0 N h s.heap H locs → lv_has ls 7 [] → b_X5_walkBack_110 h  = some res → W p l e (zc_rm 2 0 0) s m args below meth c H locs 0 0 (MQ below (zc_Q D K b0 (zq none N res)) args s 0 0 (fun q => b0 ≤ q)) (F0 m 110 ls []) := by
  have hx := hB.1
  have hb := hB.2.1
  intro H locs ls h  hG hl hf
  unfold b_X5_walkBack_110 at hf
  obtain rfl := Option.some.inj hf
  exact zr_vret hB hG ⟨rfl, rfl, rfl⟩ dX5_walkBack_110

set_option maxRecDepth 100000 in
set_option maxHeartbeats 4000000 in
theorem w_X5_walkBack_20 {res : zh_H} (hB : zc_B p s m args meth c cX5_walkBack 7 RX5 none D K) : ∀ n : Nat, ∀ (H : Heap) (locs : List Loc) (ls : Array Slot) (h : zh_H) (x0 : Nat) (x1 : Nat) (x2 : Int32) (x3 : Int32) (x4 : Int32), zh_G D K b0 N h s.heap H locs → lv_has ls 7 [(0, .ref x0), (1, .ref x1), (2, .int x2), (3, .int x3), (4, .int x4)] → b_X5_walkBack_20 n h x0 x1 x2 x3 x4 = some res → W p l e (zc_rm 2 0 0) s m args below meth c H locs 0 0 (MQ below (zc_Q D K b0 (zq none N res)) args s 0 0 (fun q => b0 ≤ q)) (F0 m 20 ls []) := by
  have hx := hB.1
  have hb := hB.2.1
  intro n
  induction n with
  | zero =>
    intro H locs ls h x0 x1 x2 x3 x4 hG hl hf
    cases hf
  | succ n ih =>
    intro H locs ls h x0 x1 x2 x3 x4 hG hl hf
    unfold b_X5_walkBack_20 at hf
    refine lv_iload hx hb dX5_walkBack_20 (lv_at hl 4 rfl) ?_
    refine lv_sipush (v := 400) hx hb dX5_walkBack_22 (by decide) ?_
    refine lv_icmp_ge (tgt := 110) hx hb dX5_walkBack_25 (by decide) (fun hc3 => ?_) (fun hc3 => ?_)
    · rw [if_pos hc3] at hf
      exact w_X5_walkBack_110 hB _ _ _ h  hG (lv_sub hl [] rfl) hf
    · rw [if_neg hc3] at hf
      refine lv_iload_n hx hb dX5_walkBack_28 rfl (lv_at hl 2 rfl) ?_
      refine lv_if_gt (tgt := 36) hx hb dX5_walkBack_29 (by decide) (fun hc2 => ?_) (fun hc2 => ?_)
      · rw [if_pos hc2] at hf
        exact w_X5_walkBack_36 hB ih _ _ _ h (x0) (x1) (x2) (x3) (x4) hG (lv_sub hl [0, 1, 2, 3, 4] rfl) hf
      · rw [if_neg hc2] at hf
        refine lv_iload_n hx hb dX5_walkBack_32 rfl (lv_at hl 3 rfl) ?_
        refine lv_if_le (tgt := 110) hx hb dX5_walkBack_33 (by decide) (fun hc1 => ?_) (fun hc1 => ?_)
        · rw [if_pos hc1] at hf
          exact w_X5_walkBack_110 hB _ _ _ h  hG (lv_sub hl [] rfl) hf
        · rw [if_neg hc1] at hf
          exact w_X5_walkBack_36 hB ih _ _ _ h (x0) (x1) (x2) (x3) (x4) hG (lv_sub hl [0, 1, 2, 3, 4] rfl) hf

set_option maxRecDepth 100000 in
set_option maxHeartbeats 4000000 in
theorem w_X5_walkBack_0 {res : zh_H} (hB : zc_B p s m args meth c cX5_walkBack 7 RX5 none D K) : ∀ (H : Heap) (locs : List Loc) (ls : Array Slot) (h : zh_H) (x0 : Nat) (x1 : Nat), zh_G D K b0 N h s.heap H locs → lv_has ls 7 [(0, .ref x0), (1, .ref x1)] → b_X5_walkBack_0 h x0 x1 = some res → W p l e (zc_rm 2 0 0) s m args below meth c H locs 0 0 (MQ below (zc_Q D K b0 (zq none N res)) args s 0 0 (fun q => b0 ≤ q)) (F0 m 0 ls []) := by
  have hx := hB.1
  have hb := hB.2.1
  intro H locs ls h x0 x1 hG hl hf
  unfold b_X5_walkBack_0 at hf
  refine lv_aload_n hx hb dX5_walkBack_0 rfl (lv_at hl 1 rfl) ?_
  obtain ⟨o1, eo1, hf⟩ := zb hf
  obtain ⟨h2, eh2, hf⟩ := zb hf
  refine zr_callVv (As := []) kc_X5_146 hB hG (c_X9_clear eh2) eo1 rfl hl.1 rfl ⟨by decide, by decide⟩ (Nat.le_of_ble_eq_true rfl) ⟨by decide, by decide⟩ dX5_walkBack_1 (fun H locs hG => ?_)
  refine lv_aload_n hx hb dX5_walkBack_4 rfl (lv_at hl 0 rfl) ?_
  obtain ⟨a3, ea3, hf⟩ := zb hf
  refine zr_getR hB hG zF_5 (by decide) kf_X5_14 ea3 dX5_walkBack_5 ?_
  obtain ⟨v4, ev4, hf⟩ := zb hf
  refine zr_getI hB hG zF_7 (by decide) kf_X5_90 ev4 dX5_walkBack_8 ?_
  refine lv_istore_n (lv' := [(2, .int v4), (0, .ref x0), (1, .ref x1)]) hx hb dX5_walkBack_11 rfl hl (by decide) rfl (fun ls hl => ?_)
  refine lv_aload_n hx hb dX5_walkBack_12 rfl (lv_at hl 1 rfl) ?_
  obtain ⟨v5, ev5, hf⟩ := zb hf
  refine zr_getI hB hG zF_5 (by decide) kf_X5_84 ev5 dX5_walkBack_13 ?_
  refine lv_istore_n (lv' := [(3, .int v5), (2, .int v4), (0, .ref x0), (1, .ref x1)]) hx hb dX5_walkBack_16 rfl hl (by decide) rfl (fun ls hl => ?_)
  refine lv_iconst (v := 0) hx hb dX5_walkBack_17 (by decide) ?_
  refine lv_istore (lv' := [(4, .int (0 : Int32)), (3, .int v5), (2, .int v4), (0, .ref x0), (1, .ref x1)]) hx hb dX5_walkBack_18 hl (by decide) rfl (fun ls hl => ?_)
  exact w_X5_walkBack_20 hB zFuel _ _ _ h2 (x0) (x1) (v4) (v5) ((0 : Int32)) hG (lv_sub hl [3, 4, 2, 1, 0] rfl) hf
end G_X5_walkBack
theorem c_X5_walkBack {l : Launch} {D : va_G} {K : Nat → ClassId} {b0 N : Nat} {h : zh_H} {x0 : Nat} {x1 : Nat} {h2 : zh_H} (hf : b_X5_walkBack_0 h x0 x1 = some h2) : zc l yX5_walkBack cX5_walkBack 7 none 2 0 0 D K b0 N h [.ref x0, .ref x1] (zq none N h2) := by
  refine zc.of [(0, .ref x0), (1, .ref x1)] (by decide) rfl (Nat.le_of_ble_eq_true rfl) ?_
  intro p e s m args below meth c hB hnm hG ls hl
  exact w_X5_walkBack_0 (res := h2) hB _ _ ls h x0 x1 hG (lv_sub hl [0, 1] rfl) hf

section G_X5_trace
variable {p : Program} {l : Launch} {e : Env} {s : State} {m : MethodId} {args : Array Value} {below : List Frame} {meth : Method} {c : Code} {D : va_G} {K : Nat → ClassId} {b0 N : Nat}
set_option maxRecDepth 100000 in
set_option maxHeartbeats 4000000 in
theorem w_X5_trace_0 {res : zh_H} (hB : zc_B p s m args meth c cX5_trace 8 RX5 none D K) : ∀ (H : Heap) (locs : List Loc) (ls : Array Slot) (h : zh_H) (x0 : Nat) (x1 : Nat) (x2 : Nat) (x3 : Int32) (x4 : Int32) (x5 : Int32) (x6 : Int32) (x7 : Nat), zh_G D K b0 N h s.heap H locs → lv_has ls 8 [(0, .ref x0), (1, .ref x1), (2, .ref x2), (3, .int x3), (4, .int x4), (5, .int x5), (6, .int x6), (7, .ref x7)] → b_X5_trace_0 h x0 x1 x2 x3 x4 x5 x6 x7 = some res → W p l e (zc_rm 5 0 0) s m args below meth c H locs 0 0 (MQ below (zc_Q D K b0 (zq none N res)) args s 0 0 (fun q => b0 ≤ q)) (F0 m 0 ls []) := by
  have hx := hB.1
  have hb := hB.2.1
  intro H locs ls h x0 x1 x2 x3 x4 x5 x6 x7 hG hl hf
  unfold b_X5_trace_0 at hf
  refine lv_aload_n hx hb dX5_trace_0 rfl (lv_at hl 0 rfl) ?_
  refine lv_aload_n hx hb dX5_trace_1 rfl (lv_at hl 1 rfl) ?_
  refine lv_aload_n hx hb dX5_trace_2 rfl (lv_at hl 2 rfl) ?_
  refine lv_iload_n hx hb dX5_trace_3 rfl (lv_at hl 3 rfl) ?_
  refine lv_iload hx hb dX5_trace_4 (lv_at hl 4 rfl) ?_
  refine lv_iload hx hb dX5_trace_6 (lv_at hl 5 rfl) ?_
  obtain ⟨o1, eo1, hf⟩ := zb hf
  obtain ⟨h2, eh2, hf⟩ := zb hf
  refine zr_callVv (As := [.ref x1, .ref x2, .int x3, .int x4, .int x5]) kc_X5_61 hB hG (c_X5_lay eh2) eo1 rfl hl.1 rfl ⟨by decide, by decide⟩ (Nat.le_of_ble_eq_true rfl) ⟨by decide, by decide⟩ dX5_trace_8 (fun H locs hG => ?_)
  refine lv_aload_n hx hb dX5_trace_11 rfl (lv_at hl 0 rfl) ?_
  refine lv_iconst (v := 1) hx hb dX5_trace_12 (by decide) ?_
  obtain ⟨h3, eh3, hf⟩ := zb hf
  refine zr_putZ hB hG zF_5 (by decide) kf_X5_65 rfl rfl eh3 dX5_trace_13 (fun H locs hG => ?_)
  refine lv_aload_n hx hb dX5_trace_16 rfl (lv_at hl 0 rfl) ?_
  refine lv_iload hx hb dX5_trace_17 (lv_at hl 6 rfl) ?_
  obtain ⟨o4, eo4, hf⟩ := zb hf
  obtain ⟨v6, h5, eh5, hf⟩ := zbp_s hf
  refine zr_callV (As := [.int x6]) kc_X5_69 hB hG (c_X5_measure eh5) eo4 rfl hl.1 rfl ⟨by decide, by decide⟩ (Nat.le_of_ble_eq_true rfl) ⟨by decide, by decide⟩ dX5_trace_19 (fun H locs hG => ?_)
  refine lv_pop hx hb dX5_trace_22 rfl ?_
  refine lv_aload_n hx hb dX5_trace_23 rfl (lv_at hl 0 rfl) ?_
  refine lv_aload hx hb dX5_trace_24 (lv_at hl 7 rfl) ?_
  obtain ⟨o7, eo7, hf⟩ := zb hf
  obtain ⟨h8, eh8, hf⟩ := zb hf
  refine zr_callVv (As := [.ref x7]) kc_X5_73 hB hG (c_X5_walkBack eh8) eo7 rfl hl.1 rfl ⟨by decide, by decide⟩ (Nat.le_of_ble_eq_true rfl) ⟨by decide, by decide⟩ dX5_trace_26 (fun H locs hG => ?_)
  obtain rfl := Option.some.inj hf
  exact zr_vret hB hG ⟨rfl, rfl, rfl⟩ dX5_trace_29
end G_X5_trace
theorem c_X5_trace {l : Launch} {D : va_G} {K : Nat → ClassId} {b0 N : Nat} {h : zh_H} {x0 : Nat} {x1 : Nat} {x2 : Nat} {x3 : Int32} {x4 : Int32} {x5 : Int32} {x6 : Int32} {x7 : Nat} {h2 : zh_H} (hf : b_X5_trace_0 h x0 x1 x2 x3 x4 x5 x6 x7 = some h2) : zc l yX5_trace cX5_trace 8 none 5 0 0 D K b0 N h [.ref x0, .ref x1, .ref x2, .int x3, .int x4, .int x5, .int x6, .ref x7] (zq none N h2) := by
  refine zc.of [(0, .ref x0), (1, .ref x1), (2, .ref x2), (3, .int x3), (4, .int x4), (5, .int x5), (6, .int x6), (7, .ref x7)] (by decide) rfl (Nat.le_of_ble_eq_true rfl) ?_
  intro p e s m args below meth c hB hnm hG ls hl
  exact w_X5_trace_0 (res := h2) hB _ _ ls h x0 x1 x2 x3 x4 x5 x6 x7 hG (lv_sub hl [0, 1, 2, 3, 4, 5, 6, 7] rfl) hf

section G_X2_trace
variable {p : Program} {l : Launch} {e : Env} {s : State} {m : MethodId} {args : Array Value} {below : List Frame} {meth : Method} {c : Code} {D : va_G} {K : Nat → ClassId} {b0 N : Nat}
set_option maxRecDepth 100000 in
set_option maxHeartbeats 4000000 in
theorem w_X2_trace_63 {res : zh_H} (hB : zc_B p s m args meth c cX2_trace 3 RX2 none D K) : ∀ (H : Heap) (locs : List Loc) (ls : Array Slot) (h : zh_H), zh_G D K b0 N h s.heap H locs → lv_has ls 3 [] → b_X2_trace_63 h  = some res → W p l e (zc_rm 6 0 0) s m args below meth c H locs 0 0 (MQ below (zc_Q D K b0 (zq none N res)) args s 0 0 (fun q => b0 ≤ q)) (F0 m 63 ls []) := by
  have hx := hB.1
  have hb := hB.2.1
  intro H locs ls h  hG hl hf
  unfold b_X2_trace_63 at hf
  obtain rfl := Option.some.inj hf
  exact zr_vret hB hG ⟨rfl, rfl, rfl⟩ dX2_trace_63

set_option maxRecDepth 100000 in
set_option maxHeartbeats 4000000 in
theorem w_X2_trace_0 {res : zh_H} (hB : zc_B p s m args meth c cX2_trace 3 RX2 none D K) : ∀ (H : Heap) (locs : List Loc) (ls : Array Slot) (h : zh_H) (x0 : Nat) (x1 : Int32) (x2 : Nat), zh_G D K b0 N h s.heap H locs → lv_has ls 3 [(0, .ref x0), (1, .int x1), (2, .ref x2)] → b_X2_trace_0 h x0 x1 x2 = some res → W p l e (zc_rm 6 0 0) s m args below meth c H locs 0 0 (MQ below (zc_Q D K b0 (zq none N res)) args s 0 0 (fun q => b0 ≤ q)) (F0 m 0 ls []) := by
  have hx := hB.1
  have hb := hB.2.1
  intro H locs ls h x0 x1 x2 hG hl hf
  unfold b_X2_trace_0 at hf
  refine lv_iload_n hx hb dX2_trace_0 rfl (lv_at hl 1 rfl) ?_
  refine lv_aload_n hx hb dX2_trace_1 rfl (lv_at hl 0 rfl) ?_
  obtain ⟨v1, ev1, hf⟩ := zb hf
  refine zr_getI hB hG zF_2 (by decide) kf_X2_27 ev1 dX2_trace_2 ?_
  refine lv_icmp_eq (tgt := 63) hx hb dX2_trace_5 (by decide) (fun hc18 => ?_) (fun hc18 => ?_)
  · rw [if_pos hc18] at hf
    exact w_X2_trace_63 hB _ _ _ h  hG (lv_sub hl [] rfl) hf
  · rw [if_neg hc18] at hf
    refine lv_iload_n hx hb dX2_trace_8 rfl (lv_at hl 1 rfl) ?_
    refine lv_if_lt (tgt := 63) hx hb dX2_trace_9 (by decide) (fun hc17 => ?_) (fun hc17 => ?_)
    · rw [if_pos hc17] at hf
      exact w_X2_trace_63 hB _ _ _ h  hG (lv_sub hl [] rfl) hf
    · rw [if_neg hc17] at hf
      refine lv_iload_n hx hb dX2_trace_12 rfl (lv_at hl 1 rfl) ?_
      refine lv_aload_n hx hb dX2_trace_13 rfl (lv_at hl 0 rfl) ?_
      obtain ⟨v2, ev2, hf⟩ := zb hf
      refine zr_getI hB hG zF_2 (by decide) kf_X2_59 ev2 dX2_trace_14 ?_
      refine lv_icmp_ge (tgt := 63) hx hb dX2_trace_17 (by decide) (fun hc16 => ?_) (fun hc16 => ?_)
      · rw [if_pos hc16] at hf
        exact w_X2_trace_63 hB _ _ _ h  hG (lv_sub hl [] rfl) hf
      · rw [if_neg hc16] at hf
        refine lv_aload_n hx hb dX2_trace_20 rfl (lv_at hl 2 rfl) ?_
        refine lv_aload_n hx hb dX2_trace_21 rfl (lv_at hl 0 rfl) ?_
        obtain ⟨a3, ea3, hf⟩ := zb hf
        refine zr_getR hB hG zF_2 (by decide) kf_X2_23 ea3 dX2_trace_22 ?_
        refine lv_aload_n hx hb dX2_trace_25 rfl (lv_at hl 0 rfl) ?_
        obtain ⟨a4, ea4, hf⟩ := zb hf
        refine zr_getR hB hG zF_2 (by decide) kf_X2_14 ea4 dX2_trace_26 ?_
        refine lv_aload_n hx hb dX2_trace_29 rfl (lv_at hl 0 rfl) ?_
        obtain ⟨a5, ea5, hf⟩ := zb hf
        refine zr_getR hB hG zF_2 (by decide) kf_X2_45 ea5 dX2_trace_30 ?_
        refine lv_iload_n hx hb dX2_trace_33 rfl (lv_at hl 1 rfl) ?_
        obtain ⟨v6, ev6, hf⟩ := zb hf
        refine zr_iald hB hG ev6 dX2_trace_34 ?_
        refine lv_aload_n hx hb dX2_trace_35 rfl (lv_at hl 0 rfl) ?_
        obtain ⟨a7, ea7, hf⟩ := zb hf
        refine zr_getR hB hG zF_2 (by decide) kf_X2_38 ea7 dX2_trace_36 ?_
        refine lv_iload_n hx hb dX2_trace_39 rfl (lv_at hl 1 rfl) ?_
        obtain ⟨v8, ev8, hf⟩ := zb hf
        refine zr_iald hB hG ev8 dX2_trace_40 ?_
        refine lv_aload_n hx hb dX2_trace_41 rfl (lv_at hl 0 rfl) ?_
        obtain ⟨v9, ev9, hf⟩ := zb hf
        refine zr_getI hB hG zF_2 (by decide) kf_X2_55 ev9 dX2_trace_42 ?_
        refine lv_aload_n hx hb dX2_trace_45 rfl (lv_at hl 0 rfl) ?_
        obtain ⟨a10, ea10, hf⟩ := zb hf
        refine zr_getR hB hG zF_2 (by decide) kf_X2_42 ea10 dX2_trace_46 ?_
        refine lv_iload_n hx hb dX2_trace_49 rfl (lv_at hl 1 rfl) ?_
        obtain ⟨v11, ev11, hf⟩ := zb hf
        refine zr_iald hB hG ev11 dX2_trace_50 ?_
        refine lv_aload_n hx hb dX2_trace_51 rfl (lv_at hl 0 rfl) ?_
        obtain ⟨a12, ea12, hf⟩ := zb hf
        refine zr_getR hB hG zF_2 (by decide) kf_X2_34 ea12 dX2_trace_52 ?_
        obtain ⟨o13, eo13, hf⟩ := zb hf
        obtain ⟨h14, eh14, hf⟩ := zb hf
        refine zr_callVv (As := [.ref a3, .ref a4, .int v6, .int v8, .int v9, .int v11, .ref a12]) kc_X2_62 hB hG (c_X5_trace eh14) eo13 rfl hl.1 rfl ⟨by decide, by decide⟩ (Nat.le_of_ble_eq_true rfl) ⟨by decide, by decide⟩ dX2_trace_55 (fun H locs hG => ?_)
        refine lv_aload_n hx hb dX2_trace_58 rfl (lv_at hl 0 rfl) ?_
        refine lv_iload_n hx hb dX2_trace_59 rfl (lv_at hl 1 rfl) ?_
        obtain ⟨h15, eh15, hf⟩ := zb hf
        refine zr_put hB hG zF_2 (by decide) kf_X2_27 rfl rfl rfl eh15 dX2_trace_60 (fun H locs hG => ?_)
        exact w_X2_trace_63 hB _ _ _ h15  hG (lv_sub hl [] rfl) hf
end G_X2_trace
theorem c_X2_trace {l : Launch} {D : va_G} {K : Nat → ClassId} {b0 N : Nat} {h : zh_H} {x0 : Nat} {x1 : Int32} {x2 : Nat} {h2 : zh_H} (hf : b_X2_trace_0 h x0 x1 x2 = some h2) : zc l yX2_trace cX2_trace 3 none 6 0 0 D K b0 N h [.ref x0, .int x1, .ref x2] (zq none N h2) := by
  refine zc.of [(0, .ref x0), (1, .int x1), (2, .ref x2)] (by decide) rfl (Nat.le_of_ble_eq_true rfl) ?_
  intro p e s m args below meth c hB hnm hG ls hl
  exact w_X2_trace_0 (res := h2) hB _ _ ls h x0 x1 x2 hG (lv_sub hl [0, 1, 2] rfl) hf

section G_X10_hit
variable {p : Program} {l : Launch} {e : Env} {s : State} {m : MethodId} {args : Array Value} {below : List Frame} {meth : Method} {c : Code} {D : va_G} {K : Nat → ClassId} {b0 N : Nat}
set_option maxRecDepth 100000 in
set_option maxHeartbeats 4000000 in
theorem w_X10_hit_15 {res : (Int32 × zh_H)} (hB : zc_B p s m args meth c cX10_hit 3 RX10 (some .int) D K) : ∀ (H : Heap) (locs : List Loc) (ls : Array Slot) (h : zh_H), zh_G D K b0 N h s.heap H locs → lv_has ls 3 [] → b_X10_hit_15 h  = some res → W p l e (zc_rm 7 0 0) s m args below meth c H locs 0 0 (MQ below (zc_Q D K b0 (zq (some (.int res.1)) N res.2)) args s 0 0 (fun q => b0 ≤ q)) (F0 m 15 ls []) := by
  have hx := hB.1
  have hb := hB.2.1
  intro H locs ls h  hG hl hf
  unfold b_X10_hit_15 at hf
  refine lv_bipush (v := -2) hx hb dX10_hit_15 (by decide) ?_
  obtain rfl := Option.some.inj hf
  exact zr_iret hB hG ⟨rfl, rfl, rfl⟩ dX10_hit_17

set_option maxRecDepth 100000 in
set_option maxHeartbeats 4000000 in
theorem w_X10_hit_0 {res : (Int32 × zh_H)} (hB : zc_B p s m args meth c cX10_hit 3 RX10 (some .int) D K) : ∀ (H : Heap) (locs : List Loc) (ls : Array Slot) (h : zh_H) (x0 : Nat) (x1 : Int32) (x2 : Int32), zh_G D K b0 N h s.heap H locs → lv_has ls 3 [(0, .ref x0), (1, .int x1), (2, .int x2)] → b_X10_hit_0 h x0 x1 x2 = some res → W p l e (zc_rm 7 0 0) s m args below meth c H locs 0 0 (MQ below (zc_Q D K b0 (zq (some (.int res.1)) N res.2)) args s 0 0 (fun q => b0 ≤ q)) (F0 m 0 ls []) := by
  have hx := hB.1
  have hb := hB.2.1
  intro H locs ls h x0 x1 x2 hG hl hf
  unfold b_X10_hit_0 at hf
  refine lv_iload_n hx hb dX10_hit_0 rfl (lv_at hl 1 rfl) ?_
  refine lv_if_lt (tgt := 15) hx hb dX10_hit_1 (by decide) (fun hc21 => ?_) (fun hc21 => ?_)
  · rw [if_pos hc21] at hf
    exact w_X10_hit_15 hB _ _ _ h  hG (lv_sub hl [] rfl) hf
  · rw [if_neg hc21] at hf
    refine lv_iload_n hx hb dX10_hit_4 rfl (lv_at hl 1 rfl) ?_
    refine lv_aload_n hx hb dX10_hit_5 rfl (lv_at hl 0 rfl) ?_
    obtain ⟨a1, ea1, hf⟩ := zb hf
    refine zr_getR hB hG zF_10 (by decide) kf_X10_66 ea1 dX10_hit_6 ?_
    obtain ⟨v2, ev2, hf⟩ := zb hf
    refine zr_getI hB hG zF_2 (by decide) kf_X10_173 ev2 dX10_hit_9 ?_
    refine lv_icmp_lt (tgt := 18) hx hb dX10_hit_12 (by decide) (fun hc20 => ?_) (fun hc20 => ?_)
    · rw [if_pos hc20] at hf
      refine lv_iload_n hx hb dX10_hit_18 rfl (lv_at hl 2 rfl) ?_
      by_cases hs3_0 : x2 = (0 : Int32)
      · rw [if_pos hs3_0] at hf
        refine lv_tableIn (off := 29) (tgt := 48) hx hb dX10_hit_19 (by rw [hs3_0]; decide) (by rw [hs3_0]; decide) (by rw [hs3_0]; rfl) (by decide) ?_
        refine lv_aload_n hx hb dX10_hit_48 rfl (lv_at hl 0 rfl) ?_
        obtain ⟨a4, ea4, hf⟩ := zb hf
        refine zr_getR hB hG zF_10 (by decide) kf_X10_66 ea4 dX10_hit_49 ?_
        obtain ⟨a5, ea5, hf⟩ := zb hf
        refine zr_getR hB hG zF_2 (by decide) kf_X10_176 ea5 dX10_hit_52 ?_
        refine lv_iload_n hx hb dX10_hit_55 rfl (lv_at hl 1 rfl) ?_
        obtain ⟨v6, ev6, hf⟩ := zb hf
        refine zr_iald hB hG ev6 dX10_hit_56 ?_
        obtain rfl := Option.some.inj hf
        exact zr_iret hB hG ⟨rfl, rfl, rfl⟩ dX10_hit_57
      · rw [if_neg hs3_0] at hf
        by_cases hs3_1 : x2 = (1 : Int32)
        · rw [if_pos hs3_1] at hf
          refine lv_tableIn (off := 39) (tgt := 58) hx hb dX10_hit_19 (by rw [hs3_1]; decide) (by rw [hs3_1]; decide) (by rw [hs3_1]; rfl) (by decide) ?_
          refine lv_aload_n hx hb dX10_hit_58 rfl (lv_at hl 0 rfl) ?_
          obtain ⟨a7, ea7, hf⟩ := zb hf
          refine zr_getR hB hG zF_10 (by decide) kf_X10_66 ea7 dX10_hit_59 ?_
          obtain ⟨a8, ea8, hf⟩ := zb hf
          refine zr_getR hB hG zF_2 (by decide) kf_X10_180 ea8 dX10_hit_62 ?_
          refine lv_iload_n hx hb dX10_hit_65 rfl (lv_at hl 1 rfl) ?_
          obtain ⟨v9, ev9, hf⟩ := zb hf
          refine zr_iald hB hG ev9 dX10_hit_66 ?_
          obtain rfl := Option.some.inj hf
          exact zr_iret hB hG ⟨rfl, rfl, rfl⟩ dX10_hit_67
        · rw [if_neg hs3_1] at hf
          by_cases hs3_2 : x2 = (2 : Int32)
          · rw [if_pos hs3_2] at hf
            refine lv_tableIn (off := 49) (tgt := 68) hx hb dX10_hit_19 (by rw [hs3_2]; decide) (by rw [hs3_2]; decide) (by rw [hs3_2]; rfl) (by decide) ?_
            refine lv_aload_n hx hb dX10_hit_68 rfl (lv_at hl 0 rfl) ?_
            obtain ⟨a10, ea10, hf⟩ := zb hf
            refine zr_getR hB hG zF_10 (by decide) kf_X10_66 ea10 dX10_hit_69 ?_
            obtain ⟨a11, ea11, hf⟩ := zb hf
            refine zr_getR hB hG zF_2 (by decide) kf_X10_182 ea11 dX10_hit_72 ?_
            refine lv_iload_n hx hb dX10_hit_75 rfl (lv_at hl 1 rfl) ?_
            obtain ⟨v12, ev12, hf⟩ := zb hf
            refine zr_iald hB hG ev12 dX10_hit_76 ?_
            obtain rfl := Option.some.inj hf
            exact zr_iret hB hG ⟨rfl, rfl, rfl⟩ dX10_hit_77
          · rw [if_neg hs3_2] at hf
            by_cases hs3_3 : x2 = (3 : Int32)
            · rw [if_pos hs3_3] at hf
              refine lv_tableIn (off := 59) (tgt := 78) hx hb dX10_hit_19 (by rw [hs3_3]; decide) (by rw [hs3_3]; decide) (by rw [hs3_3]; rfl) (by decide) ?_
              refine lv_aload_n hx hb dX10_hit_78 rfl (lv_at hl 0 rfl) ?_
              obtain ⟨a13, ea13, hf⟩ := zb hf
              refine zr_getR hB hG zF_10 (by decide) kf_X10_66 ea13 dX10_hit_79 ?_
              refine lv_iload_n hx hb dX10_hit_82 rfl (lv_at hl 1 rfl) ?_
              refine lv_aload_n hx hb dX10_hit_83 rfl (lv_at hl 0 rfl) ?_
              obtain ⟨a14, ea14, hf⟩ := zb hf
              refine zr_getR hB hG zF_10 (by decide) kf_X10_59 ea14 dX10_hit_84 ?_
              obtain ⟨o15, eo15, hf⟩ := zb hf
              obtain ⟨h16, eh16, hf⟩ := zb hf
              refine zr_callVv (As := [.int x1, .ref a14]) kc_X10_185 hB hG (c_X2_trace eh16) eo15 rfl hl.1 rfl ⟨by decide, by decide⟩ (Nat.le_of_ble_eq_true rfl) ⟨by decide, by decide⟩ dX10_hit_87 (fun H locs hG => ?_)
              refine lv_aload_n hx hb dX10_hit_90 rfl (lv_at hl 0 rfl) ?_
              obtain ⟨a17, ea17, hf⟩ := zb hf
              refine zr_getR hB hG zF_10 (by decide) kf_X10_66 ea17 dX10_hit_91 ?_
              obtain ⟨a18, ea18, hf⟩ := zb hf
              refine zr_getR hB hG zF_2 (by decide) kf_X10_189 ea18 dX10_hit_94 ?_
              obtain ⟨v19, ev19, hf⟩ := zb hf
              refine zr_getI hB hG zF_9 (by decide) kf_X10_193 ev19 dX10_hit_97 ?_
              obtain rfl := Option.some.inj hf
              exact zr_iret hB hG ⟨rfl, rfl, rfl⟩ dX10_hit_100
            · rw [if_neg hs3_3] at hf
              have hr3_0 := lv_neT (a := 0) hs3_0 rfl
              have hr3_1 := lv_neT (a := 1) hs3_1 rfl
              have hr3_2 := lv_neT (a := 2) hs3_2 rfl
              have hr3_3 := lv_neT (a := 3) hs3_3 rfl
              refine lv_tableOut (tgt := 101) hx hb dX10_hit_19 (by omega) (by decide) ?_
              refine lv_bipush (v := -2) hx hb dX10_hit_101 (by decide) ?_
              obtain rfl := Option.some.inj hf
              exact zr_iret hB hG ⟨rfl, rfl, rfl⟩ dX10_hit_103
    · rw [if_neg hc20] at hf
      exact w_X10_hit_15 hB _ _ _ h  hG (lv_sub hl [] rfl) hf
end G_X10_hit
theorem c_X10_hit {l : Launch} {D : va_G} {K : Nat → ClassId} {b0 N : Nat} {h : zh_H} {x0 : Nat} {x1 : Int32} {x2 : Int32} {r : Int32} {h2 : zh_H} (hf : b_X10_hit_0 h x0 x1 x2 = some (r, h2)) : zc l yX10_hit cX10_hit 3 (some .int) 7 0 0 D K b0 N h [.ref x0, .int x1, .int x2] (zq (some (.int r)) N h2) := by
  refine zc.of [(0, .ref x0), (1, .int x1), (2, .int x2)] (by decide) rfl (Nat.le_of_ble_eq_true rfl) ?_
  intro p e s m args below meth c hB hnm hG ls hl
  exact w_X10_hit_0 (res := (r, h2)) hB _ _ ls h x0 x1 x2 hG (lv_sub hl [0, 1, 2] rfl) hf

section G_X1_init
variable {p : Program} {l : Launch} {e : Env} {s : State} {m : MethodId} {args : Array Value} {below : List Frame} {meth : Method} {c : Code} {D : va_G} {K : Nat → ClassId} {b0 zz : Nat}
set_option maxRecDepth 100000 in
set_option maxHeartbeats 4000000 in
theorem w_X1_init_14 {res : (Nat × zh_H)} (hB : zc_B p s m args meth c cX1_init 2 RX1 none D K) (hnm : meth.name = "<init>") : ∀ n : Nat, ∀ (H : Heap) (locs : List Loc) (ls : Array Slot) (N cs sl : Nat) (h : zh_H) (x0 : Nat) (x1 : Int32), zh_G D K b0 N h s.heap H locs → lv_has ls 2 [(0, .ref x0), (1, .int x1)] → b_X1_init_14 n N cs sl h x0 x1 = some res → W p l e (zc_rm 2 11 7515) s m args below meth c H locs cs sl (MQ below (zc_Q D K b0 (zq none res.1 res.2)) args s 11 7515 (fun q => b0 ≤ q)) (F0 m 14 ls []) := by
  have hx := hB.1
  have hb := hB.2.1
  intro n
  induction n with
  | zero =>
    intro H locs ls N cs sl h x0 x1 hG hl hf
    cases hf
  | succ n ih =>
    intro H locs ls N cs sl h x0 x1 hG hl hf
    unfold b_X1_init_14 at hf
    refine lv_iload_n hx hb dX1_init_14 rfl (lv_at hl 1 rfl) ?_
    refine lv_iconst (v := 5) hx hb dX1_init_15 (by decide) ?_
    refine lv_icmp_ge (tgt := 41) hx hb dX1_init_16 (by decide) (fun hc6 => ?_) (fun hc6 => ?_)
    · rw [if_pos hc6] at hf
      obtain ⟨hz, hf⟩ := zif_s hf
      obtain rfl := Option.some.inj hf
      refine W.widen (k := 11) (n := 7515) hz.1 hz.2 ?_
      exact zr_vret hB hG ⟨rfl, rfl, rfl⟩ dX1_init_41
    · rw [if_neg hc6] at hf
      refine lv_aload_n hx hb dX1_init_19 rfl (lv_at hl 0 rfl) ?_
      obtain ⟨a1, ea1, hf⟩ := zb hf
      refine zr_getR hB hG zF_1 (by decide) kf_X1_11 ea1 dX1_init_20 ?_
      refine lv_iload_n hx hb dX1_init_23 rfl (lv_at hl 1 rfl) ?_
      obtain ⟨hz, hf⟩ := zif_s hf
      refine zr_new (fs := [.null, .int 0]) hB hG zF_0 kq_X1_9 ki_0 kn_0 (by decide) hz dX1_init_24 (fun H hG => ?_)
      refine lv_dup hx hb dX1_init_27 rfl ?_
      refine lv_sipush (v := 1500) hx hb dX1_init_28 (by decide) ?_
      obtain ⟨hz, hf⟩ := zif_s hf
      obtain ⟨N3, h4, eh4, hf⟩ := zbp_s hf
      refine zr_callI (As := [.int (1500 : Int32)]) kc_X1_17 hB hG (c_X0_init eh4) rfl hl.1 rfl ⟨by decide, by decide⟩ (Nat.le_of_ble_eq_true rfl) hz dX1_init_31 (fun H locs hG => ?_)
      obtain ⟨h5, eh5, hf⟩ := zb hf
      refine zr_aast (t := 3) (ci := 0) rfl rfl hB hG eh5 dX1_init_34 (fun H locs hG => ?_)
      refine lv_iinc (v := (x1 + (1 : Int32))) (lv' := [(1, .int (x1 + (1 : Int32))), (0, .ref x0)]) hx hb dX1_init_35 hl (k := 1) rfl rfl (by decide) rfl (fun ls hl => ?_)
      refine lv_goto (tgt := 14) hx hb dX1_init_38 (by decide) ?_
      exact ih _ _ _ N3 ((cs + 1) + 1) ((sl + 2) + 1500) h5 (x0) ((x1 + (1 : Int32))) hG (lv_sub hl [1, 0] rfl) hf

set_option maxRecDepth 100000 in
set_option maxHeartbeats 4000000 in
theorem w_X1_init_0 {res : (Nat × zh_H)} (hB : zc_B p s m args meth c cX1_init 2 RX1 none D K) (hnm : meth.name = "<init>") : ∀ (H : Heap) (locs : List Loc) (ls : Array Slot) (N cs sl : Nat) (h : zh_H) (x0 : Nat), zh_G D K b0 N h s.heap H locs → lv_has ls 2 [(0, .ref x0)] → b_X1_init_0 N cs sl h x0 = some res → W p l e (zc_rm 2 11 7515) s m args below meth c H locs cs sl (MQ below (zc_Q D K b0 (zq none res.1 res.2)) args s 11 7515 (fun q => b0 ≤ q)) (F0 m 0 ls []) := by
  have hx := hB.1
  have hb := hB.2.1
  intro H locs ls N cs sl h x0 hG hl hf
  unfold b_X1_init_0 at hf
  refine lv_aload_n hx hb dX1_init_0 rfl (lv_at hl 0 rfl) ?_
  refine zr_oinit km_X1_3 k_oi k_oc hl.1 hB dX1_init_1 (by decide) (Nat.le_of_ble_eq_true rfl) ?_
  refine lv_aload_n hx hb dX1_init_4 rfl (lv_at hl 0 rfl) ?_
  refine lv_iconst (v := 5) hx hb dX1_init_5 (by decide) ?_
  obtain ⟨hz, hf⟩ := zif_s hf
  refine zr_newq (t := 3) kq_X1_9 (by decide) rfl hB hG hz.1 hz.2 dX1_init_6 (fun H hG => ?_)
  obtain ⟨h1, eh1, hf⟩ := zb hf
  refine zr_putF hB hG zF_1 (by decide) kf_X1_11 rfl hnm rfl rfl rfl eh1 dX1_init_9 (fun H locs hG => ?_)
  refine lv_iconst (v := 0) hx hb dX1_init_12 (by decide) ?_
  refine lv_istore_n (lv' := [(1, .int (0 : Int32)), (0, .ref x0)]) hx hb dX1_init_13 rfl hl (by decide) rfl (fun ls hl => ?_)
  exact w_X1_init_14 hB hnm zFuel _ _ _ (N + 1) (cs + 1) (sl + (Int32.toNatClampNeg (5 : Int32))) h1 (x0) ((0 : Int32)) hG (lv_sub hl [1, 0] rfl) hf
end G_X1_init
theorem c_X1_init {l : Launch} {D : va_G} {K : Nat → ClassId} {b0 N N2 : Nat} {h h2 : zh_H} {x0 : Nat} (hf : b_X1_init_0 N 0 0 h x0 = some (N2, h2)) : zc l yX1_init cX1_init 2 none 2 11 7515 D K b0 N h [.ref x0] (zq none N2 h2) := by
  refine zc.of [(0, .ref x0)] (by decide) rfl (Nat.le_of_ble_eq_true rfl) ?_
  intro p e s m args below meth c hB hnm hG ls hl
  exact w_X1_init_0 (res := (N2, h2)) hB hnm _ _ ls N 0 0 h x0 hG (lv_sub hl [0] rfl) hf

section G_X7_init
variable {p : Program} {l : Launch} {e : Env} {s : State} {m : MethodId} {args : Array Value} {below : List Frame} {meth : Method} {c : Code} {D : va_G} {K : Nat → ClassId} {b0 zz : Nat}
set_option maxRecDepth 100000 in
set_option maxHeartbeats 4000000 in
theorem w_X7_init_0 {res : (Nat × zh_H)} (hB : zc_B p s m args meth c cX7_init 2 RX7 none D K) (hnm : meth.name = "<init>") : ∀ (H : Heap) (locs : List Loc) (ls : Array Slot) (N cs sl : Nat) (h : zh_H) (x0 : Nat) (x1 : Int32), zh_G D K b0 N h s.heap H locs → lv_has ls 2 [(0, .ref x0), (1, .int x1)] → b_X7_init_0 N cs sl h x0 x1 = some res → W p l e (zc_rm 1 2 3000) s m args below meth c H locs cs sl (MQ below (zc_Q D K b0 (zq none res.1 res.2)) args s 2 3000 (fun q => b0 ≤ q)) (F0 m 0 ls []) := by
  have hx := hB.1
  have hb := hB.2.1
  intro H locs ls N cs sl h x0 x1 hG hl hf
  unfold b_X7_init_0 at hf
  refine lv_aload_n hx hb dX7_init_0 rfl (lv_at hl 0 rfl) ?_
  refine zr_oinit km_X7_1 k_oi k_oc hl.1 hB dX7_init_1 (by decide) (Nat.le_of_ble_eq_true rfl) ?_
  refine lv_aload_n hx hb dX7_init_4 rfl (lv_at hl 0 rfl) ?_
  refine lv_iload_n hx hb dX7_init_5 rfl (lv_at hl 1 rfl) ?_
  refine lv_iconst (v := 0) hx hb dX7_init_6 (by decide) ?_
  obtain ⟨hz, hf⟩ := zif_s hf
  refine zr_max km_X7_7 k_max k_Mi k_maxc hl.1 hB dX7_init_7 (by decide) (Nat.le_of_ble_eq_true rfl) hz ?_
  obtain ⟨hz, hf⟩ := zif_s hf
  refine zr_newa (t := 2) (atype := .long) (a0 := ((Int32.toNatClampNeg (zmax x1 (0 : Int32))), .inr (.inl (fun _ => 0)))) ka_2 rfl rfl hB hG (fun _ => rfl) zh_ok_l hz.1 hz.2 dX7_init_10 (fun H hG => ?_)
  obtain ⟨h1, eh1, hf⟩ := zb hf
  refine zr_putF hB hG zF_7 (by decide) kf_X7_13 rfl hnm rfl rfl rfl eh1 dX7_init_12 (fun H locs hG => ?_)
  refine lv_aload_n hx hb dX7_init_15 rfl (lv_at hl 0 rfl) ?_
  refine lv_iload_n hx hb dX7_init_16 rfl (lv_at hl 1 rfl) ?_
  refine lv_iconst (v := 0) hx hb dX7_init_17 (by decide) ?_
  obtain ⟨hz, hf⟩ := zif_s hf
  refine zr_max km_X7_7 k_max k_Mi k_maxc hl.1 hB dX7_init_18 (by decide) (Nat.le_of_ble_eq_true rfl) hz ?_
  obtain ⟨hz, hf⟩ := zif_s hf
  refine zr_newa (t := 2) (atype := .long) (a0 := ((Int32.toNatClampNeg (zmax x1 (0 : Int32))), .inr (.inl (fun _ => 0)))) ka_2 rfl rfl hB hG (fun _ => rfl) zh_ok_l hz.1 hz.2 dX7_init_21 (fun H hG => ?_)
  obtain ⟨h2, eh2, hf⟩ := zb hf
  refine zr_putF hB hG zF_7 (by decide) kf_X7_19 rfl hnm rfl rfl rfl eh2 dX7_init_23 (fun H locs hG => ?_)
  obtain ⟨hz, hf⟩ := zif_s hf
  obtain rfl := Option.some.inj hf
  refine W.widen (k := 2) (n := 3000) hz.1 hz.2 ?_
  exact zr_vret hB hG ⟨rfl, rfl, rfl⟩ dX7_init_26
end G_X7_init
theorem c_X7_init {l : Launch} {D : va_G} {K : Nat → ClassId} {b0 N N2 : Nat} {h h2 : zh_H} {x0 : Nat} {x1 : Int32} (hf : b_X7_init_0 N 0 0 h x0 x1 = some (N2, h2)) : zc l yX7_init cX7_init 2 none 1 2 3000 D K b0 N h [.ref x0, .int x1] (zq none N2 h2) := by
  refine zc.of [(0, .ref x0), (1, .int x1)] (by decide) rfl (Nat.le_of_ble_eq_true rfl) ?_
  intro p e s m args below meth c hB hnm hG ls hl
  exact w_X7_init_0 (res := (N2, h2)) hB hnm _ _ ls N 0 0 h x0 x1 hG (lv_sub hl [0, 1] rfl) hf

section G_X4_init
variable {p : Program} {l : Launch} {e : Env} {s : State} {m : MethodId} {args : Array Value} {below : List Frame} {meth : Method} {c : Code} {D : va_G} {K : Nat → ClassId} {b0 zz : Nat}
set_option maxRecDepth 100000 in
set_option maxHeartbeats 4000000 in
theorem w_X4_init_0 {res : (Nat × zh_H)} (hB : zc_B p s m args meth c cX4_init 1 RX4 none D K) (hnm : meth.name = "<init>") : ∀ (H : Heap) (locs : List Loc) (ls : Array Slot) (N cs sl : Nat) (h : zh_H) (x0 : Nat), zh_G D K b0 N h s.heap H locs → lv_has ls 1 [(0, .ref x0)] → b_X4_init_0 N cs sl h x0 = some res → W p l e (zc_rm 2 5 4505) s m args below meth c H locs cs sl (MQ below (zc_Q D K b0 (zq none res.1 res.2)) args s 5 4505 (fun q => b0 ≤ q)) (F0 m 0 ls []) := by
  have hx := hB.1
  have hb := hB.2.1
  intro H locs ls N cs sl h x0 hG hl hf
  unfold b_X4_init_0 at hf
  refine lv_aload_n hx hb dX4_init_0 rfl (lv_at hl 0 rfl) ?_
  refine zr_oinit km_X4_3 k_oi k_oc hl.1 hB dX4_init_1 (by decide) (Nat.le_of_ble_eq_true rfl) ?_
  refine lv_aload_n hx hb dX4_init_4 rfl (lv_at hl 0 rfl) ?_
  obtain ⟨hz, hf⟩ := zif_s hf
  refine zr_new (fs := [.null, .int 0]) hB hG zF_0 kq_X4_9 ki_0 kn_0 (by decide) hz dX4_init_5 (fun H hG => ?_)
  refine lv_dup hx hb dX4_init_8 rfl ?_
  refine lv_iconst (v := 0) hx hb dX4_init_9 (by decide) ?_
  obtain ⟨hz, hf⟩ := zif_s hf
  obtain ⟨N2, h3, eh3, hf⟩ := zbp_s hf
  refine zr_callI (As := [.int (0 : Int32)]) kc_X4_11 hB hG (c_X0_init eh3) rfl hl.1 rfl ⟨by decide, by decide⟩ (Nat.le_of_ble_eq_true rfl) hz dX4_init_10 (fun H locs hG => ?_)
  obtain ⟨h4, eh4, hf⟩ := zb hf
  refine zr_put hB hG zF_4 (by decide) kf_X4_14 rfl rfl rfl eh4 dX4_init_13 (fun H locs hG => ?_)
  refine lv_aload_n hx hb dX4_init_16 rfl (lv_at hl 0 rfl) ?_
  obtain ⟨hz, hf⟩ := zif_s hf
  refine zr_new (fs := [.null, .null, .int 0]) hB hG zF_7 kq_X4_20 ki_7 kn_7 (by decide) hz dX4_init_17 (fun H hG => ?_)
  refine lv_dup hx hb dX4_init_20 rfl ?_
  refine lv_sipush (v := 200) hx hb dX4_init_21 (by decide) ?_
  obtain ⟨hz, hf⟩ := zif_s hf
  obtain ⟨N6, h7, eh7, hf⟩ := zbp_s hf
  refine zr_callI (As := [.int (200 : Int32)]) kc_X4_22 hB hG (c_X7_init eh7) rfl hl.1 rfl ⟨by decide, by decide⟩ (Nat.le_of_ble_eq_true rfl) hz dX4_init_24 (fun H locs hG => ?_)
  obtain ⟨h8, eh8, hf⟩ := zb hf
  refine zr_putF hB hG zF_4 (by decide) kf_X4_23 rfl hnm rfl rfl rfl eh8 dX4_init_27 (fun H locs hG => ?_)
  refine lv_aload_n hx hb dX4_init_30 rfl (lv_at hl 0 rfl) ?_
  refine lv_iconst (v := -1) hx hb dX4_init_31 (by decide) ?_
  obtain ⟨h9, eh9, hf⟩ := zb hf
  refine zr_put hB hG zF_4 (by decide) kf_X4_27 rfl rfl rfl eh9 dX4_init_32 (fun H locs hG => ?_)
  obtain ⟨hz, hf⟩ := zif_s hf
  obtain rfl := Option.some.inj hf
  refine W.widen (k := 5) (n := 4505) hz.1 hz.2 ?_
  exact zr_vret hB hG ⟨rfl, rfl, rfl⟩ dX4_init_35
end G_X4_init
theorem c_X4_init {l : Launch} {D : va_G} {K : Nat → ClassId} {b0 N N2 : Nat} {h h2 : zh_H} {x0 : Nat} (hf : b_X4_init_0 N 0 0 h x0 = some (N2, h2)) : zc l yX4_init cX4_init 1 none 2 5 4505 D K b0 N h [.ref x0] (zq none N2 h2) := by
  refine zc.of [(0, .ref x0)] (by decide) rfl (Nat.le_of_ble_eq_true rfl) ?_
  intro p e s m args below meth c hB hnm hG ls hl
  exact w_X4_init_0 (res := (N2, h2)) hB hnm _ _ ls N 0 0 h x0 hG (lv_sub hl [0] rfl) hf

section G_X6_init
variable {p : Program} {l : Launch} {e : Env} {s : State} {m : MethodId} {args : Array Value} {below : List Frame} {meth : Method} {c : Code} {D : va_G} {K : Nat → ClassId} {b0 zz : Nat}
set_option maxRecDepth 100000 in
set_option maxHeartbeats 4000000 in
theorem w_X6_init_0 {res : (Nat × zh_H)} (hB : zc_B p s m args meth c cX6_init 1 RX6 none D K) (hnm : meth.name = "<init>") : ∀ (H : Heap) (locs : List Loc) (ls : Array Slot) (N cs sl : Nat) (h : zh_H) (x0 : Nat), zh_G D K b0 N h s.heap H locs → lv_has ls 1 [(0, .ref x0)] → b_X6_init_0 N cs sl h x0 = some res → W p l e (zc_rm 2 6 3606) s m args below meth c H locs cs sl (MQ below (zc_Q D K b0 (zq none res.1 res.2)) args s 6 3606 (fun q => b0 ≤ q)) (F0 m 0 ls []) := by
  have hx := hB.1
  have hb := hB.2.1
  intro H locs ls N cs sl h x0 hG hl hf
  unfold b_X6_init_0 at hf
  refine lv_aload_n hx hb dX6_init_0 rfl (lv_at hl 0 rfl) ?_
  refine zr_oinit km_X6_3 k_oi k_oc hl.1 hB dX6_init_1 (by decide) (Nat.le_of_ble_eq_true rfl) ?_
  refine lv_aload_n hx hb dX6_init_4 rfl (lv_at hl 0 rfl) ?_
  obtain ⟨hz, hf⟩ := zif_s hf
  refine zr_new (fs := [.null, .null, .int 0]) hB hG zF_7 kq_X6_9 ki_7 kn_7 (by decide) hz dX6_init_5 (fun H hG => ?_)
  refine lv_dup hx hb dX6_init_8 rfl ?_
  refine lv_iconst (v := 0) hx hb dX6_init_9 (by decide) ?_
  obtain ⟨hz, hf⟩ := zif_s hf
  obtain ⟨N2, h3, eh3, hf⟩ := zbp_s hf
  refine zr_callI (As := [.int (0 : Int32)]) kc_X6_11 hB hG (c_X7_init eh3) rfl hl.1 rfl ⟨by decide, by decide⟩ (Nat.le_of_ble_eq_true rfl) hz dX6_init_10 (fun H locs hG => ?_)
  obtain ⟨h4, eh4, hf⟩ := zb hf
  refine zr_put hB hG zF_6 (by decide) kf_X6_14 rfl rfl rfl eh4 dX6_init_13 (fun H locs hG => ?_)
  refine lv_aload_n hx hb dX6_init_16 rfl (lv_at hl 0 rfl) ?_
  refine lv_sipush (v := 201) hx hb dX6_init_17 (by decide) ?_
  obtain ⟨hz, hf⟩ := zif_s hf
  refine zr_newa (t := 1) (atype := .int) (a0 := ((Int32.toNatClampNeg (201 : Int32)), .inl (fun _ => 0))) ka_1 rfl rfl hB hG (fun _ => rfl) zh_ok_i hz.1 hz.2 dX6_init_20 (fun H hG => ?_)
  obtain ⟨h5, eh5, hf⟩ := zb hf
  refine zr_put hB hG zF_6 (by decide) kf_X6_20 rfl rfl rfl eh5 dX6_init_22 (fun H locs hG => ?_)
  refine lv_aload_n hx hb dX6_init_25 rfl (lv_at hl 0 rfl) ?_
  refine lv_sipush (v := 201) hx hb dX6_init_26 (by decide) ?_
  obtain ⟨hz, hf⟩ := zif_s hf
  refine zr_newa (t := 1) (atype := .int) (a0 := ((Int32.toNatClampNeg (201 : Int32)), .inl (fun _ => 0))) ka_1 rfl rfl hB hG (fun _ => rfl) zh_ok_i hz.1 hz.2 dX6_init_29 (fun H hG => ?_)
  obtain ⟨h6, eh6, hf⟩ := zb hf
  refine zr_put hB hG zF_6 (by decide) kf_X6_24 rfl rfl rfl eh6 dX6_init_31 (fun H locs hG => ?_)
  refine lv_aload_n hx hb dX6_init_34 rfl (lv_at hl 0 rfl) ?_
  refine lv_sipush (v := 201) hx hb dX6_init_35 (by decide) ?_
  obtain ⟨hz, hf⟩ := zif_s hf
  refine zr_newa (t := 1) (atype := .int) (a0 := ((Int32.toNatClampNeg (201 : Int32)), .inl (fun _ => 0))) ka_1 rfl rfl hB hG (fun _ => rfl) zh_ok_i hz.1 hz.2 dX6_init_38 (fun H hG => ?_)
  obtain ⟨h7, eh7, hf⟩ := zb hf
  refine zr_put hB hG zF_6 (by decide) kf_X6_27 rfl rfl rfl eh7 dX6_init_40 (fun H locs hG => ?_)
  refine lv_aload_n hx hb dX6_init_43 rfl (lv_at hl 0 rfl) ?_
  refine lv_bipush (v := 10) hx hb dX6_init_44 (by decide) ?_
  obtain ⟨h8, eh8, hf⟩ := zb hf
  refine zr_put hB hG zF_6 (by decide) kf_X6_30 rfl rfl rfl eh8 dX6_init_46 (fun H locs hG => ?_)
  obtain ⟨hz, hf⟩ := zif_s hf
  obtain rfl := Option.some.inj hf
  refine W.widen (k := 6) (n := 3606) hz.1 hz.2 ?_
  exact zr_vret hB hG ⟨rfl, rfl, rfl⟩ dX6_init_49
end G_X6_init
theorem c_X6_init {l : Launch} {D : va_G} {K : Nat → ClassId} {b0 N N2 : Nat} {h h2 : zh_H} {x0 : Nat} (hf : b_X6_init_0 N 0 0 h x0 = some (N2, h2)) : zc l yX6_init cX6_init 1 none 2 6 3606 D K b0 N h [.ref x0] (zq none N2 h2) := by
  refine zc.of [(0, .ref x0)] (by decide) rfl (Nat.le_of_ble_eq_true rfl) ?_
  intro p e s m args below meth c hB hnm hG ls hl
  exact w_X6_init_0 (res := (N2, h2)) hB hnm _ _ ls N 0 0 h x0 hG (lv_sub hl [0] rfl) hf

section G_X8_init
variable {p : Program} {l : Launch} {e : Env} {s : State} {m : MethodId} {args : Array Value} {below : List Frame} {meth : Method} {c : Code} {D : va_G} {K : Nat → ClassId} {b0 zz : Nat}
set_option maxRecDepth 100000 in
set_option maxHeartbeats 4000000 in
theorem w_X8_init_0 {res : (Nat × zh_H)} (hB : zc_B p s m args meth c cX8_init 1 RX8 none D K) (hnm : meth.name = "<init>") : ∀ (H : Heap) (locs : List Loc) (ls : Array Slot) (N cs sl : Nat) (h : zh_H) (x0 : Nat), zh_G D K b0 N h s.heap H locs → lv_has ls 1 [(0, .ref x0)] → b_X8_init_0 N cs sl h x0 = some res → W p l e (zc_rm 1 1 5038) s m args below meth c H locs cs sl (MQ below (zc_Q D K b0 (zq none res.1 res.2)) args s 1 5038 (fun q => b0 ≤ q)) (F0 m 0 ls []) := by
  have hx := hB.1
  have hb := hB.2.1
  intro H locs ls N cs sl h x0 hG hl hf
  unfold b_X8_init_0 at hf
  refine lv_aload_n hx hb dX8_init_0 rfl (lv_at hl 0 rfl) ?_
  refine zr_oinit km_X8_3 k_oi k_oc hl.1 hB dX8_init_1 (by decide) (Nat.le_of_ble_eq_true rfl) ?_
  refine lv_aload_n hx hb dX8_init_4 rfl (lv_at hl 0 rfl) ?_
  refine lv_sipush (v := 5038) hx hb dX8_init_5 (by decide) ?_
  obtain ⟨hz, hf⟩ := zif_s hf
  refine zr_newa (t := 2) (atype := .long) (a0 := ((Int32.toNatClampNeg (5038 : Int32)), .inr (.inl (fun _ => 0)))) ka_2 rfl rfl hB hG (fun _ => rfl) zh_ok_l hz.1 hz.2 dX8_init_8 (fun H hG => ?_)
  obtain ⟨h1, eh1, hf⟩ := zb hf
  refine zr_putF hB hG zF_8 (by decide) kf_X8_11 rfl hnm rfl rfl rfl eh1 dX8_init_10 (fun H locs hG => ?_)
  obtain ⟨hz, hf⟩ := zif_s hf
  obtain rfl := Option.some.inj hf
  refine W.widen (k := 1) (n := 5038) hz.1 hz.2 ?_
  exact zr_vret hB hG ⟨rfl, rfl, rfl⟩ dX8_init_13
end G_X8_init
theorem c_X8_init {l : Launch} {D : va_G} {K : Nat → ClassId} {b0 N N2 : Nat} {h h2 : zh_H} {x0 : Nat} (hf : b_X8_init_0 N 0 0 h x0 = some (N2, h2)) : zc l yX8_init cX8_init 1 none 1 1 5038 D K b0 N h [.ref x0] (zq none N2 h2) := by
  refine zc.of [(0, .ref x0)] (by decide) rfl (Nat.le_of_ble_eq_true rfl) ?_
  intro p e s m args below meth c hB hnm hG ls hl
  exact w_X8_init_0 (res := (N2, h2)) hB hnm _ _ ls N 0 0 h x0 hG (lv_sub hl [0] rfl) hf

section G_X5_init
variable {p : Program} {l : Launch} {e : Env} {s : State} {m : MethodId} {args : Array Value} {below : List Frame} {meth : Method} {c : Code} {D : va_G} {K : Nat → ClassId} {b0 zz : Nat}
set_option maxRecDepth 100000 in
set_option maxHeartbeats 4000000 in
theorem w_X5_init_0 {res : (Nat × zh_H)} (hB : zc_B p s m args meth c cX5_init 1 RX5 none D K) (hnm : meth.name = "<init>") : ∀ (H : Heap) (locs : List Loc) (ls : Array Slot) (N cs sl : Nat) (h : zh_H) (x0 : Nat), zh_G D K b0 N h s.heap H locs → lv_has ls 1 [(0, .ref x0)] → b_X5_init_0 N cs sl h x0 = some res → W p l e (zc_rm 2 10 14049) s m args below meth c H locs cs sl (MQ below (zc_Q D K b0 (zq none res.1 res.2)) args s 10 14049 (fun q => b0 ≤ q)) (F0 m 0 ls []) := by
  have hx := hB.1
  have hb := hB.2.1
  intro H locs ls N cs sl h x0 hG hl hf
  unfold b_X5_init_0 at hf
  refine lv_aload_n hx hb dX5_init_0 rfl (lv_at hl 0 rfl) ?_
  refine zr_oinit km_X5_3 k_oi k_oc hl.1 hB dX5_init_1 (by decide) (Nat.le_of_ble_eq_true rfl) ?_
  refine lv_aload_n hx hb dX5_init_4 rfl (lv_at hl 0 rfl) ?_
  obtain ⟨hz, hf⟩ := zif_s hf
  refine zr_new (fs := [.null, .null, .int 0]) hB hG zF_7 kq_X5_9 ki_7 kn_7 (by decide) hz dX5_init_5 (fun H hG => ?_)
  refine lv_dup hx hb dX5_init_8 rfl ?_
  refine lv_iconst (v := 0) hx hb dX5_init_9 (by decide) ?_
  obtain ⟨hz, hf⟩ := zif_s hf
  obtain ⟨N2, h3, eh3, hf⟩ := zbp_s hf
  refine zr_callI (As := [.int (0 : Int32)]) kc_X5_11 hB hG (c_X7_init eh3) rfl hl.1 rfl ⟨by decide, by decide⟩ (Nat.le_of_ble_eq_true rfl) hz dX5_init_10 (fun H locs hG => ?_)
  obtain ⟨h4, eh4, hf⟩ := zb hf
  refine zr_put hB hG zF_5 (by decide) kf_X5_14 rfl rfl rfl eh4 dX5_init_13 (fun H locs hG => ?_)
  refine lv_aload_n hx hb dX5_init_16 rfl (lv_at hl 0 rfl) ?_
  obtain ⟨hz, hf⟩ := zif_s hf
  refine zr_new (fs := [.null, .int 0]) hB hG zF_0 kq_X5_20 ki_0 kn_0 (by decide) hz dX5_init_17 (fun H hG => ?_)
  refine lv_dup hx hb dX5_init_20 rfl ?_
  refine lv_iconst (v := 0) hx hb dX5_init_21 (by decide) ?_
  obtain ⟨hz, hf⟩ := zif_s hf
  obtain ⟨N6, h7, eh7, hf⟩ := zbp_s hf
  refine zr_callI (As := [.int (0 : Int32)]) kc_X5_22 hB hG (c_X0_init eh7) rfl hl.1 rfl ⟨by decide, by decide⟩ (Nat.le_of_ble_eq_true rfl) hz dX5_init_22 (fun H locs hG => ?_)
  obtain ⟨h8, eh8, hf⟩ := zb hf
  refine zr_put hB hG zF_5 (by decide) kf_X5_23 rfl rfl rfl eh8 dX5_init_25 (fun H locs hG => ?_)
  refine lv_aload_n hx hb dX5_init_28 rfl (lv_at hl 0 rfl) ?_
  refine lv_sipush (v := 1501) hx hb dX5_init_29 (by decide) ?_
  obtain ⟨hz, hf⟩ := zif_s hf
  refine zr_newa (t := 1) (atype := .int) (a0 := ((Int32.toNatClampNeg (1501 : Int32)), .inl (fun _ => 0))) ka_1 rfl rfl hB hG (fun _ => rfl) zh_ok_i hz.1 hz.2 dX5_init_32 (fun H hG => ?_)
  obtain ⟨h9, eh9, hf⟩ := zb hf
  refine zr_put hB hG zF_5 (by decide) kf_X5_27 rfl rfl rfl eh9 dX5_init_34 (fun H locs hG => ?_)
  refine lv_aload_n hx hb dX5_init_37 rfl (lv_at hl 0 rfl) ?_
  refine lv_sipush (v := 1501) hx hb dX5_init_38 (by decide) ?_
  obtain ⟨hz, hf⟩ := zif_s hf
  refine zr_newa (t := 1) (atype := .int) (a0 := ((Int32.toNatClampNeg (1501 : Int32)), .inl (fun _ => 0))) ka_1 rfl rfl hB hG (fun _ => rfl) zh_ok_i hz.1 hz.2 dX5_init_41 (fun H hG => ?_)
  obtain ⟨h10, eh10, hf⟩ := zb hf
  refine zr_put hB hG zF_5 (by decide) kf_X5_31 rfl rfl rfl eh10 dX5_init_43 (fun H locs hG => ?_)
  refine lv_aload_n hx hb dX5_init_46 rfl (lv_at hl 0 rfl) ?_
  refine lv_sipush (v := 1501) hx hb dX5_init_47 (by decide) ?_
  obtain ⟨hz, hf⟩ := zif_s hf
  refine zr_newa (t := 1) (atype := .int) (a0 := ((Int32.toNatClampNeg (1501 : Int32)), .inl (fun _ => 0))) ka_1 rfl rfl hB hG (fun _ => rfl) zh_ok_i hz.1 hz.2 dX5_init_50 (fun H hG => ?_)
  obtain ⟨h11, eh11, hf⟩ := zb hf
  refine zr_put hB hG zF_5 (by decide) kf_X5_34 rfl rfl rfl eh11 dX5_init_52 (fun H locs hG => ?_)
  refine lv_aload_n hx hb dX5_init_55 rfl (lv_at hl 0 rfl) ?_
  refine lv_bipush (v := 10) hx hb dX5_init_56 (by decide) ?_
  obtain ⟨h12, eh12, hf⟩ := zb hf
  refine zr_put hB hG zF_5 (by decide) kf_X5_37 rfl rfl rfl eh12 dX5_init_58 (fun H locs hG => ?_)
  refine lv_aload_n hx hb dX5_init_61 rfl (lv_at hl 0 rfl) ?_
  refine lv_bipush (v := 10) hx hb dX5_init_62 (by decide) ?_
  obtain ⟨h13, eh13, hf⟩ := zb hf
  refine zr_put hB hG zF_5 (by decide) kf_X5_41 rfl rfl rfl eh13 dX5_init_64 (fun H locs hG => ?_)
  refine lv_aload_n hx hb dX5_init_67 rfl (lv_at hl 0 rfl) ?_
  refine lv_aload_n hx hb dX5_init_68 rfl (lv_at hl 0 rfl) ?_
  obtain ⟨a14, ea14, hf⟩ := zb hf
  refine zr_getR hB hG zF_5 (by decide) kf_X5_14 ea14 dX5_init_69 ?_
  obtain ⟨a15, ea15, hf⟩ := zb hf
  refine zr_getR hB hG zF_7 (by decide) kf_X5_44 ea15 dX5_init_72 ?_
  obtain ⟨h16, eh16, hf⟩ := zb hf
  refine zr_put hB hG zF_5 (by decide) kf_X5_48 rfl rfl rfl eh16 dX5_init_75 (fun H locs hG => ?_)
  refine lv_aload_n hx hb dX5_init_78 rfl (lv_at hl 0 rfl) ?_
  refine lv_aload_n hx hb dX5_init_79 rfl (lv_at hl 0 rfl) ?_
  obtain ⟨a17, ea17, hf⟩ := zb hf
  refine zr_getR hB hG zF_5 (by decide) kf_X5_14 ea17 dX5_init_80 ?_
  obtain ⟨a18, ea18, hf⟩ := zb hf
  refine zr_getR hB hG zF_7 (by decide) kf_X5_44 ea18 dX5_init_83 ?_
  obtain ⟨h19, eh19, hf⟩ := zb hf
  refine zr_put hB hG zF_5 (by decide) kf_X5_51 rfl rfl rfl eh19 dX5_init_86 (fun H locs hG => ?_)
  refine lv_aload_n hx hb dX5_init_89 rfl (lv_at hl 0 rfl) ?_
  obtain ⟨hz, hf⟩ := zif_s hf
  refine zr_new (fs := [.null, .int 0, .int 0]) hB hG zF_8 kq_X5_54 ki_8 kn_8 (by decide) hz dX5_init_90 (fun H hG => ?_)
  refine lv_dup hx hb dX5_init_93 rfl ?_
  obtain ⟨hz, hf⟩ := zif_s hf
  obtain ⟨N21, h22, eh22, hf⟩ := zbp_s hf
  refine zr_callI (As := []) kc_X5_56 hB hG (c_X8_init eh22) rfl hl.1 rfl ⟨by decide, by decide⟩ (Nat.le_of_ble_eq_true rfl) hz dX5_init_94 (fun H locs hG => ?_)
  obtain ⟨h23, eh23, hf⟩ := zb hf
  refine zr_putF hB hG zF_5 (by decide) kf_X5_57 rfl hnm rfl rfl rfl eh23 dX5_init_97 (fun H locs hG => ?_)
  obtain ⟨hz, hf⟩ := zif_s hf
  obtain rfl := Option.some.inj hf
  refine W.widen (k := 10) (n := 14049) hz.1 hz.2 ?_
  exact zr_vret hB hG ⟨rfl, rfl, rfl⟩ dX5_init_100
end G_X5_init
theorem c_X5_init {l : Launch} {D : va_G} {K : Nat → ClassId} {b0 N N2 : Nat} {h h2 : zh_H} {x0 : Nat} (hf : b_X5_init_0 N 0 0 h x0 = some (N2, h2)) : zc l yX5_init cX5_init 1 none 2 10 14049 D K b0 N h [.ref x0] (zq none N2 h2) := by
  refine zc.of [(0, .ref x0)] (by decide) rfl (Nat.le_of_ble_eq_true rfl) ?_
  intro p e s m args below meth c hB hnm hG ls hl
  exact w_X5_init_0 (res := (N2, h2)) hB hnm _ _ ls N 0 0 h x0 hG (lv_sub hl [0] rfl) hf

