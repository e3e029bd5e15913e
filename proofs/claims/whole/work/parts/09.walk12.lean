section G_X11_byteAt
variable {p : Program} {l : Launch} {e : Env} {s : State} {m : MethodId} {args : Array Value} {below : List Frame} {meth : Method} {c : Code} {D : va_G} {K : Nat → ClassId} {b0 N : Nat}
set_option maxRecDepth 100000 in
set_option maxHeartbeats 4000000 in
theorem w_X11_byteAt_24 {res : (Int32 × zh_H)} (hB : zc_B p s m args meth c cX11_byteAt 2 RX11 (some .int) D K) : ∀ (H : Heap) (locs : List Loc) (ls : Array Slot) (h : zh_H) (y0 : Int32), zh_G D K b0 N h s.heap H locs → lv_has ls 2 [] → b_X11_byteAt_24 h y0 = some res → W p l e (zc_rm 1 0 0) s m args below meth c H locs 0 0 (MQ below (zc_Q D K b0 (zq (some (.int res.1)) N res.2)) args s 0 0 (fun q => b0 ≤ q)) (F0 m 24 ls [.int y0]) := by
  have hx := hB.1
  have hb := hB.2.1
  intro H locs ls h y0 hG hl hf
  unfold b_X11_byteAt_24 at hf
  obtain rfl := Option.some.inj hf
  exact zr_iret hB hG ⟨rfl, rfl, rfl⟩ dX11_byteAt_24

set_option maxRecDepth 100000 in
set_option maxHeartbeats 4000000 in
theorem w_X11_byteAt_0 {res : (Int32 × zh_H)} (hB : zc_B p s m args meth c cX11_byteAt 2 RX11 (some .int) D K) : ∀ (H : Heap) (locs : List Loc) (ls : Array Slot) (h : zh_H) (x0 : Nat) (x1 : Int32), zh_G D K b0 N h s.heap H locs → lv_has ls 2 [(0, .ref x0), (1, .int x1)] → b_X11_byteAt_0 h x0 x1 = some res → W p l e (zc_rm 1 0 0) s m args below meth c H locs 0 0 (MQ below (zc_Q D K b0 (zq (some (.int res.1)) N res.2)) args s 0 0 (fun q => b0 ≤ q)) (F0 m 0 ls []) := by
  have hx := hB.1
  have hb := hB.2.1
  intro H locs ls h x0 x1 hG hl hf
  unfold b_X11_byteAt_0 at hf
  refine lv_iload_n hx hb dX11_byteAt_0 rfl (lv_at hl 1 rfl) ?_
  refine lv_iconst (v := 0) hx hb dX11_byteAt_1 (by decide) ?_
  refine lv_aload_n hx hb dX11_byteAt_2 rfl (lv_at hl 0 rfl) ?_
  obtain ⟨v1, ev1, hf⟩ := zb hf
  refine zr_getI hB hG zF_11 (by decide) kf_X11_162 ev1 dX11_byteAt_3 ?_
  refine lv_iconst (v := 1) hx hb dX11_byteAt_6 (by decide) ?_
  refine lv_isub hx hb dX11_byteAt_7 ?_
  obtain ⟨v3, h2, eh2, hf⟩ := zbp_s hf
  refine zr_callS (As := [.int x1, .int (0 : Int32), .int (v1 - (1 : Int32))]) kc_X11_100 hB hG (c_X11_in eh2) rfl hl.1 rfl ⟨by decide, by decide⟩ (Nat.le_of_ble_eq_true rfl) ⟨by decide, by decide⟩ dX11_byteAt_8 (fun H locs hG => ?_)
  refine lv_if_eq (tgt := 23) hx hb dX11_byteAt_11 (by decide) (fun hc6 => ?_) (fun hc6 => ?_)
  · rw [if_pos hc6] at hf
    refine lv_iconst (v := -1) hx hb dX11_byteAt_23 (by decide) ?_
    exact w_X11_byteAt_24 hB _ _ _ h2 ((-1 : Int32)) hG (lv_sub hl [] rfl) hf
  · rw [if_neg hc6] at hf
    refine lv_aload_n hx hb dX11_byteAt_14 rfl (lv_at hl 0 rfl) ?_
    obtain ⟨a4, ea4, hf⟩ := zb hf
    refine zr_getR hB hG zF_11 (by decide) kf_X11_13 ea4 dX11_byteAt_15 ?_
    refine lv_iload_n hx hb dX11_byteAt_18 rfl (lv_at hl 1 rfl) ?_
    obtain ⟨v5, ev5, hf⟩ := zb hf
    refine zr_iald hB hG ev5 dX11_byteAt_19 ?_
    refine lv_goto (tgt := 24) hx hb dX11_byteAt_20 (by decide) ?_
    exact w_X11_byteAt_24 hB _ _ _ h2 (v5) hG (lv_sub hl [] rfl) hf
end G_X11_byteAt
theorem c_X11_byteAt {l : Launch} {D : va_G} {K : Nat → ClassId} {b0 N : Nat} {h : zh_H} {x0 : Nat} {x1 : Int32} {r : Int32} {h2 : zh_H} (hf : b_X11_byteAt_0 h x0 x1 = some (r, h2)) : zc l yX11_byteAt cX11_byteAt 2 (some .int) 1 0 0 D K b0 N h [.ref x0, .int x1] (zq (some (.int r)) N h2) := by
  refine zc.of [(0, .ref x0), (1, .int x1)] (by decide) rfl (Nat.le_of_ble_eq_true rfl) ?_
  intro p e s m args below meth c hB hnm hG ls hl
  exact w_X11_byteAt_0 (res := (r, h2)) hB _ _ ls h x0 x1 hG (lv_sub hl [0, 1] rfl) hf

section G_X11_remember
variable {p : Program} {l : Launch} {e : Env} {s : State} {m : MethodId} {args : Array Value} {below : List Frame} {meth : Method} {c : Code} {D : va_G} {K : Nat → ClassId} {b0 N : Nat}
set_option maxRecDepth 100000 in
set_option maxHeartbeats 4000000 in
theorem w_X11_remember_31 {res : zh_H} (hB : zc_B p s m args meth c cX11_remember 3 RX11 none D K) {k10 : zh_H → Nat → Int32 → Option zh_H} (hk10 : ∀ (H : Heap) (locs : List Loc) (ls : Array Slot) (h : zh_H) (x0 : Nat) (x1 : Int32), zh_G D K b0 N h s.heap H locs → lv_has ls 3 [(0, .ref x0), (1, .int x1)] → k10 h x0 x1 = some res → W p l e (zc_rm 0 0 0) s m args below meth c H locs 0 0 (MQ below (zc_Q D K b0 (zq none N res)) args s 0 0 (fun q => b0 ≤ q)) (F0 m 10 ls [])) : ∀ n : Nat, ∀ (H : Heap) (locs : List Loc) (ls : Array Slot) (h : zh_H) (x0 : Nat) (x1 : Int32) (x2 : Int32), zh_G D K b0 N h s.heap H locs → lv_has ls 3 [(0, .ref x0), (1, .int x1), (2, .int x2)] → b_X11_remember_31 k10 n h x0 x1 x2 = some res → W p l e (zc_rm 0 0 0) s m args below meth c H locs 0 0 (MQ below (zc_Q D K b0 (zq none N res)) args s 0 0 (fun q => b0 ≤ q)) (F0 m 31 ls []) := by
  have hx := hB.1
  have hb := hB.2.1
  intro n
  induction n with
  | zero =>
    intro H locs ls h x0 x1 x2 hG hl hf
    cases hf
  | succ n ih =>
    intro H locs ls h x0 x1 x2 hG hl hf
    unfold b_X11_remember_31 at hf
    refine lv_iload_n hx hb dX11_remember_31 rfl (lv_at hl 2 rfl) ?_
    refine lv_aload_n hx hb dX11_remember_32 rfl (lv_at hl 0 rfl) ?_
    obtain ⟨a1, ea1, hf⟩ := zb hf
    refine zr_getR hB hG zF_11 (by decide) kf_X11_19 ea1 dX11_remember_33 ?_
    refine lv_iload_n hx hb dX11_remember_36 rfl (lv_at hl 1 rfl) ?_
    obtain ⟨v2, ev2, hf⟩ := zb hf
    refine zr_iald hB hG ev2 dX11_remember_37 ?_
    refine lv_icmp_ge (tgt := 73) hx hb dX11_remember_38 (by decide) (fun hc7 => ?_) (fun hc7 => ?_)
    · rw [if_pos hc7] at hf
      refine lv_iinc (v := (x1 + (1 : Int32))) (lv' := [(1, .int (x1 + (1 : Int32))), (0, .ref x0), (2, .int x2)]) hx hb dX11_remember_73 hl (k := 1) rfl rfl (by decide) rfl (fun ls hl => ?_)
      refine lv_goto (tgt := 10) hx hb dX11_remember_76 (by decide) ?_
      exact hk10 _ _ _ h (x0) ((x1 + (1 : Int32))) hG (lv_sub hl [1, 0] rfl) hf
    · rw [if_neg hc7] at hf
      refine lv_aload_n hx hb dX11_remember_41 rfl (lv_at hl 0 rfl) ?_
      obtain ⟨a3, ea3, hf⟩ := zb hf
      refine zr_getR hB hG zF_11 (by decide) kf_X11_16 ea3 dX11_remember_42 ?_
      refine lv_sipush (v := 1500) hx hb dX11_remember_45 (by decide) ?_
      refine lv_iload_n hx hb dX11_remember_48 rfl (lv_at hl 1 rfl) ?_
      refine lv_iconst (v := 1) hx hb dX11_remember_49 (by decide) ?_
      refine lv_isub hx hb dX11_remember_50 ?_
      refine lv_imul hx hb dX11_remember_51 ?_
      refine lv_iload_n hx hb dX11_remember_52 rfl (lv_at hl 2 rfl) ?_
      refine lv_iadd hx hb dX11_remember_53 ?_
      refine lv_aload_n hx hb dX11_remember_54 rfl (lv_at hl 0 rfl) ?_
      obtain ⟨a4, ea4, hf⟩ := zb hf
      refine zr_getR hB hG zF_11 (by decide) kf_X11_16 ea4 dX11_remember_55 ?_
      refine lv_sipush (v := 1500) hx hb dX11_remember_58 (by decide) ?_
      refine lv_iload_n hx hb dX11_remember_61 rfl (lv_at hl 1 rfl) ?_
      refine lv_imul hx hb dX11_remember_62 ?_
      refine lv_iload_n hx hb dX11_remember_63 rfl (lv_at hl 2 rfl) ?_
      refine lv_iadd hx hb dX11_remember_64 ?_
      obtain ⟨v5, ev5, hf⟩ := zb hf
      refine zr_iald hB hG ev5 dX11_remember_65 ?_
      obtain ⟨h6, eh6, hf⟩ := zb hf
      refine zr_iast hB hG eh6 dX11_remember_66 (fun H locs hG => ?_)
      refine lv_iinc (v := (x2 + (1 : Int32))) (lv' := [(2, .int (x2 + (1 : Int32))), (0, .ref x0), (1, .int x1)]) hx hb dX11_remember_67 hl (k := 2) rfl rfl (by decide) rfl (fun ls hl => ?_)
      refine lv_goto (tgt := 31) hx hb dX11_remember_70 (by decide) ?_
      exact ih _ _ _ h6 (x0) (x1) ((x2 + (1 : Int32))) hG (lv_sub hl [1, 2, 0] rfl) hf

set_option maxRecDepth 100000 in
set_option maxHeartbeats 4000000 in
theorem w_X11_remember_91 {res : zh_H} (hB : zc_B p s m args meth c cX11_remember 3 RX11 none D K) : ∀ n : Nat, ∀ (H : Heap) (locs : List Loc) (ls : Array Slot) (h : zh_H) (x0 : Nat) (x1 : Int32), zh_G D K b0 N h s.heap H locs → lv_has ls 3 [(0, .ref x0), (1, .int x1)] → b_X11_remember_91 n h x0 x1 = some res → W p l e (zc_rm 0 0 0) s m args below meth c H locs 0 0 (MQ below (zc_Q D K b0 (zq none N res)) args s 0 0 (fun q => b0 ≤ q)) (F0 m 91 ls []) := by
  have hx := hB.1
  have hb := hB.2.1
  intro n
  induction n with
  | zero =>
    intro H locs ls h x0 x1 hG hl hf
    cases hf
  | succ n ih =>
    intro H locs ls h x0 x1 hG hl hf
    unfold b_X11_remember_91 at hf
    refine lv_iload_n hx hb dX11_remember_91 rfl (lv_at hl 1 rfl) ?_
    refine lv_aload_n hx hb dX11_remember_92 rfl (lv_at hl 0 rfl) ?_
    obtain ⟨v1, ev1, hf⟩ := zb hf
    refine zr_getI hB hG zF_11 (by decide) kf_X11_162 ev1 dX11_remember_93 ?_
    refine lv_icmp_ge (tgt := 126) hx hb dX11_remember_96 (by decide) (fun hc13 => ?_) (fun hc13 => ?_)
    · rw [if_pos hc13] at hf
      refine lv_aload_n hx hb dX11_remember_126 rfl (lv_at hl 0 rfl) ?_
      obtain ⟨a2, ea2, hf⟩ := zb hf
      refine zr_getR hB hG zF_11 (by decide) kf_X11_19 ea2 dX11_remember_127 ?_
      refine lv_aload_n hx hb dX11_remember_130 rfl (lv_at hl 0 rfl) ?_
      obtain ⟨v3, ev3, hf⟩ := zb hf
      refine zr_getI hB hG zF_11 (by decide) kf_X11_159 ev3 dX11_remember_131 ?_
      refine lv_aload_n hx hb dX11_remember_134 rfl (lv_at hl 0 rfl) ?_
      obtain ⟨v4, ev4, hf⟩ := zb hf
      refine zr_getI hB hG zF_11 (by decide) kf_X11_162 ev4 dX11_remember_135 ?_
      obtain ⟨h5, eh5, hf⟩ := zb hf
      refine zr_iast hB hG eh5 dX11_remember_138 (fun H locs hG => ?_)
      refine lv_aload_n hx hb dX11_remember_139 rfl (lv_at hl 0 rfl) ?_
      refine lv_dup hx hb dX11_remember_140 rfl ?_
      obtain ⟨v6, ev6, hf⟩ := zb hf
      refine zr_getI hB hG zF_11 (by decide) kf_X11_159 ev6 dX11_remember_141 ?_
      refine lv_iconst (v := 1) hx hb dX11_remember_144 (by decide) ?_
      refine lv_iadd hx hb dX11_remember_145 ?_
      obtain ⟨h7, eh7, hf⟩ := zb hf
      refine zr_put hB hG zF_11 (by decide) kf_X11_159 rfl rfl rfl eh7 dX11_remember_146 (fun H locs hG => ?_)
      obtain rfl := Option.some.inj hf
      exact zr_vret hB hG ⟨rfl, rfl, rfl⟩ dX11_remember_149
    · rw [if_neg hc13] at hf
      refine lv_aload_n hx hb dX11_remember_99 rfl (lv_at hl 0 rfl) ?_
      obtain ⟨a8, ea8, hf⟩ := zb hf
      refine zr_getR hB hG zF_11 (by decide) kf_X11_16 ea8 dX11_remember_100 ?_
      refine lv_sipush (v := 1500) hx hb dX11_remember_103 (by decide) ?_
      refine lv_aload_n hx hb dX11_remember_106 rfl (lv_at hl 0 rfl) ?_
      obtain ⟨v9, ev9, hf⟩ := zb hf
      refine zr_getI hB hG zF_11 (by decide) kf_X11_159 ev9 dX11_remember_107 ?_
      refine lv_imul hx hb dX11_remember_110 ?_
      refine lv_iload_n hx hb dX11_remember_111 rfl (lv_at hl 1 rfl) ?_
      refine lv_iadd hx hb dX11_remember_112 ?_
      refine lv_aload_n hx hb dX11_remember_113 rfl (lv_at hl 0 rfl) ?_
      obtain ⟨a10, ea10, hf⟩ := zb hf
      refine zr_getR hB hG zF_11 (by decide) kf_X11_13 ea10 dX11_remember_114 ?_
      refine lv_iload_n hx hb dX11_remember_117 rfl (lv_at hl 1 rfl) ?_
      obtain ⟨v11, ev11, hf⟩ := zb hf
      refine zr_iald hB hG ev11 dX11_remember_118 ?_
      obtain ⟨h12, eh12, hf⟩ := zb hf
      refine zr_iast hB hG eh12 dX11_remember_119 (fun H locs hG => ?_)
      refine lv_iinc (v := (x1 + (1 : Int32))) (lv' := [(1, .int (x1 + (1 : Int32))), (0, .ref x0)]) hx hb dX11_remember_120 hl (k := 1) rfl rfl (by decide) rfl (fun ls hl => ?_)
      refine lv_goto (tgt := 91) hx hb dX11_remember_123 (by decide) ?_
      exact ih _ _ _ h12 (x0) ((x1 + (1 : Int32))) hG (lv_sub hl [1, 0] rfl) hf

set_option maxRecDepth 100000 in
set_option maxHeartbeats 4000000 in
theorem w_X11_remember_89 {res : zh_H} (hB : zc_B p s m args meth c cX11_remember 3 RX11 none D K) : ∀ (H : Heap) (locs : List Loc) (ls : Array Slot) (h : zh_H) (x0 : Nat), zh_G D K b0 N h s.heap H locs → lv_has ls 3 [(0, .ref x0)] → b_X11_remember_89 h x0 = some res → W p l e (zc_rm 0 0 0) s m args below meth c H locs 0 0 (MQ below (zc_Q D K b0 (zq none N res)) args s 0 0 (fun q => b0 ≤ q)) (F0 m 89 ls []) := by
  have hx := hB.1
  have hb := hB.2.1
  intro H locs ls h x0 hG hl hf
  unfold b_X11_remember_89 at hf
  refine lv_iconst (v := 0) hx hb dX11_remember_89 (by decide) ?_
  refine lv_istore_n (lv' := [(1, .int (0 : Int32)), (0, .ref x0)]) hx hb dX11_remember_90 rfl hl (by decide) rfl (fun ls hl => ?_)
  exact w_X11_remember_91 hB zFuel _ _ _ h (x0) ((0 : Int32)) hG (lv_sub hl [1, 0] rfl) hf

set_option maxRecDepth 100000 in
set_option maxHeartbeats 4000000 in
theorem w_X11_remember_10 {res : zh_H} (hB : zc_B p s m args meth c cX11_remember 3 RX11 none D K) : ∀ n : Nat, ∀ (H : Heap) (locs : List Loc) (ls : Array Slot) (h : zh_H) (x0 : Nat) (x1 : Int32), zh_G D K b0 N h s.heap H locs → lv_has ls 3 [(0, .ref x0), (1, .int x1)] → b_X11_remember_10 n h x0 x1 = some res → W p l e (zc_rm 0 0 0) s m args below meth c H locs 0 0 (MQ below (zc_Q D K b0 (zq none N res)) args s 0 0 (fun q => b0 ≤ q)) (F0 m 10 ls []) := by
  have hx := hB.1
  have hb := hB.2.1
  intro n
  induction n with
  | zero =>
    intro H locs ls h x0 x1 hG hl hf
    cases hf
  | succ n ih =>
    intro H locs ls h x0 x1 hG hl hf
    unfold b_X11_remember_10 at hf
    refine lv_iload_n hx hb dX11_remember_10 rfl (lv_at hl 1 rfl) ?_
    refine lv_iconst (v := 5) hx hb dX11_remember_11 (by decide) ?_
    refine lv_icmp_ge (tgt := 79) hx hb dX11_remember_12 (by decide) (fun hc7 => ?_) (fun hc7 => ?_)
    · rw [if_pos hc7] at hf
      refine lv_aload_n hx hb dX11_remember_79 rfl (lv_at hl 0 rfl) ?_
      refine lv_dup hx hb dX11_remember_80 rfl ?_
      obtain ⟨v1, ev1, hf⟩ := zb hf
      refine zr_getI hB hG zF_11 (by decide) kf_X11_159 ev1 dX11_remember_81 ?_
      refine lv_iconst (v := 1) hx hb dX11_remember_84 (by decide) ?_
      refine lv_isub hx hb dX11_remember_85 ?_
      obtain ⟨h2, eh2, hf⟩ := zb hf
      refine zr_put hB hG zF_11 (by decide) kf_X11_159 rfl rfl rfl eh2 dX11_remember_86 (fun H locs hG => ?_)
      exact w_X11_remember_89 hB _ _ _ h2 (x0) hG (lv_sub hl [0] rfl) hf
    · rw [if_neg hc7] at hf
      refine lv_aload_n hx hb dX11_remember_15 rfl (lv_at hl 0 rfl) ?_
      obtain ⟨a3, ea3, hf⟩ := zb hf
      refine zr_getR hB hG zF_11 (by decide) kf_X11_19 ea3 dX11_remember_16 ?_
      refine lv_iload_n hx hb dX11_remember_19 rfl (lv_at hl 1 rfl) ?_
      refine lv_iconst (v := 1) hx hb dX11_remember_20 (by decide) ?_
      refine lv_isub hx hb dX11_remember_21 ?_
      refine lv_aload_n hx hb dX11_remember_22 rfl (lv_at hl 0 rfl) ?_
      obtain ⟨a4, ea4, hf⟩ := zb hf
      refine zr_getR hB hG zF_11 (by decide) kf_X11_19 ea4 dX11_remember_23 ?_
      refine lv_iload_n hx hb dX11_remember_26 rfl (lv_at hl 1 rfl) ?_
      obtain ⟨v5, ev5, hf⟩ := zb hf
      refine zr_iald hB hG ev5 dX11_remember_27 ?_
      obtain ⟨h6, eh6, hf⟩ := zb hf
      refine zr_iast hB hG eh6 dX11_remember_28 (fun H locs hG => ?_)
      refine lv_iconst (v := 0) hx hb dX11_remember_29 (by decide) ?_
      refine lv_istore_n (lv' := [(2, .int (0 : Int32)), (0, .ref x0), (1, .int x1)]) hx hb dX11_remember_30 rfl hl (by decide) rfl (fun ls hl => ?_)
      exact w_X11_remember_31 hB ih zFuel _ _ _ h6 (x0) (x1) ((0 : Int32)) hG (lv_sub hl [1, 2, 0] rfl) hf

set_option maxRecDepth 100000 in
set_option maxHeartbeats 4000000 in
theorem w_X11_remember_0 {res : zh_H} (hB : zc_B p s m args meth c cX11_remember 3 RX11 none D K) : ∀ (H : Heap) (locs : List Loc) (ls : Array Slot) (h : zh_H) (x0 : Nat), zh_G D K b0 N h s.heap H locs → lv_has ls 3 [(0, .ref x0)] → b_X11_remember_0 h x0 = some res → W p l e (zc_rm 0 0 0) s m args below meth c H locs 0 0 (MQ below (zc_Q D K b0 (zq none N res)) args s 0 0 (fun q => b0 ≤ q)) (F0 m 0 ls []) := by
  have hx := hB.1
  have hb := hB.2.1
  intro H locs ls h x0 hG hl hf
  unfold b_X11_remember_0 at hf
  refine lv_aload_n hx hb dX11_remember_0 rfl (lv_at hl 0 rfl) ?_
  obtain ⟨v1, ev1, hf⟩ := zb hf
  refine zr_getI hB hG zF_11 (by decide) kf_X11_159 ev1 dX11_remember_1 ?_
  refine lv_iconst (v := 5) hx hb dX11_remember_4 (by decide) ?_
  refine lv_icmp_ne (tgt := 89) hx hb dX11_remember_5 (by decide) (fun hc2 => ?_) (fun hc2 => ?_)
  · rw [if_neg hc2] at hf
    exact w_X11_remember_89 hB _ _ _ h (x0) hG (lv_sub hl [0] rfl) hf
  · rw [if_pos hc2] at hf
    refine lv_iconst (v := 1) hx hb dX11_remember_8 (by decide) ?_
    refine lv_istore_n (lv' := [(1, .int (1 : Int32)), (0, .ref x0)]) hx hb dX11_remember_9 rfl hl (by decide) rfl (fun ls hl => ?_)
    exact w_X11_remember_10 hB zFuel _ _ _ h (x0) ((1 : Int32)) hG (lv_sub hl [1, 0] rfl) hf
end G_X11_remember
theorem c_X11_remember {l : Launch} {D : va_G} {K : Nat → ClassId} {b0 N : Nat} {h : zh_H} {x0 : Nat} {h2 : zh_H} (hf : b_X11_remember_0 h x0 = some h2) : zc l yX11_remember cX11_remember 3 none 0 0 0 D K b0 N h [.ref x0] (zq none N h2) := by
  refine zc.of [(0, .ref x0)] (by decide) rfl (Nat.le_of_ble_eq_true rfl) ?_
  intro p e s m args below meth c hB hnm hG ls hl
  exact w_X11_remember_0 (res := h2) hB _ _ ls h x0 hG (lv_sub hl [0] rfl) hf

section G_X11_cut
variable {p : Program} {l : Launch} {e : Env} {s : State} {m : MethodId} {args : Array Value} {below : List Frame} {meth : Method} {c : Code} {D : va_G} {K : Nat → ClassId} {b0 N : Nat}
set_option maxRecDepth 100000 in
set_option maxHeartbeats 4000000 in
theorem w_X11_cut_18 {res : (Int32 × zh_H)} (hB : zc_B p s m args meth c cX11_cut 4 RX11 (some .int) D K) : ∀ n : Nat, ∀ (H : Heap) (locs : List Loc) (ls : Array Slot) (h : zh_H) (x0 : Nat) (x1 : Int32) (x2 : Int32) (x3 : Int32), zh_G D K b0 N h s.heap H locs → lv_has ls 4 [(0, .ref x0), (1, .int x1), (2, .int x2), (3, .int x3)] → b_X11_cut_18 n h x0 x1 x2 x3 = some res → W p l e (zc_rm 1 0 0) s m args below meth c H locs 0 0 (MQ below (zc_Q D K b0 (zq (some (.int res.1)) N res.2)) args s 0 0 (fun q => b0 ≤ q)) (F0 m 18 ls []) := by
  have hx := hB.1
  have hb := hB.2.1
  intro n
  induction n with
  | zero =>
    intro H locs ls h x0 x1 x2 x3 hG hl hf
    cases hf
  | succ n ih =>
    intro H locs ls h x0 x1 x2 x3 hG hl hf
    unfold b_X11_cut_18 at hf
    refine lv_iload_n hx hb dX11_cut_18 rfl (lv_at hl 3 rfl) ?_
    refine lv_aload_n hx hb dX11_cut_19 rfl (lv_at hl 0 rfl) ?_
    obtain ⟨v1, ev1, hf⟩ := zb hf
    refine zr_getI hB hG zF_11 (by decide) kf_X11_162 ev1 dX11_cut_20 ?_
    refine lv_icmp_ge (tgt := 48) hx hb dX11_cut_23 (by decide) (fun hc9 => ?_) (fun hc9 => ?_)
    · rw [if_pos hc9] at hf
      refine lv_aload_n hx hb dX11_cut_48 rfl (lv_at hl 0 rfl) ?_
      refine lv_dup hx hb dX11_cut_49 rfl ?_
      obtain ⟨v2, ev2, hf⟩ := zb hf
      refine zr_getI hB hG zF_11 (by decide) kf_X11_162 ev2 dX11_cut_50 ?_
      refine lv_iload_n hx hb dX11_cut_53 rfl (lv_at hl 2 rfl) ?_
      refine lv_iload_n hx hb dX11_cut_54 rfl (lv_at hl 1 rfl) ?_
      refine lv_isub hx hb dX11_cut_55 ?_
      refine lv_isub hx hb dX11_cut_56 ?_
      obtain ⟨h3, eh3, hf⟩ := zb hf
      refine zr_put hB hG zF_11 (by decide) kf_X11_162 rfl rfl rfl eh3 dX11_cut_57 (fun H locs hG => ?_)
      refine lv_aload_n hx hb dX11_cut_60 rfl (lv_at hl 0 rfl) ?_
      obtain ⟨v4, ev4, hf⟩ := zb hf
      refine zr_getI hB hG zF_11 (by decide) kf_X11_162 ev4 dX11_cut_61 ?_
      obtain rfl := Option.some.inj hf
      exact zr_iret hB hG ⟨rfl, rfl, rfl⟩ dX11_cut_64
    · rw [if_neg hc9] at hf
      refine lv_aload_n hx hb dX11_cut_26 rfl (lv_at hl 0 rfl) ?_
      obtain ⟨a5, ea5, hf⟩ := zb hf
      refine zr_getR hB hG zF_11 (by decide) kf_X11_13 ea5 dX11_cut_27 ?_
      refine lv_iload_n hx hb dX11_cut_30 rfl (lv_at hl 3 rfl) ?_
      refine lv_iload_n hx hb dX11_cut_31 rfl (lv_at hl 2 rfl) ?_
      refine lv_isub hx hb dX11_cut_32 ?_
      refine lv_iload_n hx hb dX11_cut_33 rfl (lv_at hl 1 rfl) ?_
      refine lv_iadd hx hb dX11_cut_34 ?_
      refine lv_aload_n hx hb dX11_cut_35 rfl (lv_at hl 0 rfl) ?_
      obtain ⟨a6, ea6, hf⟩ := zb hf
      refine zr_getR hB hG zF_11 (by decide) kf_X11_13 ea6 dX11_cut_36 ?_
      refine lv_iload_n hx hb dX11_cut_39 rfl (lv_at hl 3 rfl) ?_
      obtain ⟨v7, ev7, hf⟩ := zb hf
      refine zr_iald hB hG ev7 dX11_cut_40 ?_
      obtain ⟨h8, eh8, hf⟩ := zb hf
      refine zr_iast hB hG eh8 dX11_cut_41 (fun H locs hG => ?_)
      refine lv_iinc (v := (x3 + (1 : Int32))) (lv' := [(3, .int (x3 + (1 : Int32))), (0, .ref x0), (1, .int x1), (2, .int x2)]) hx hb dX11_cut_42 hl (k := 3) rfl rfl (by decide) rfl (fun ls hl => ?_)
      refine lv_goto (tgt := 18) hx hb dX11_cut_45 (by decide) ?_
      exact ih _ _ _ h8 (x0) (x1) (x2) ((x3 + (1 : Int32))) hG (lv_sub hl [1, 2, 3, 0] rfl) hf

set_option maxRecDepth 100000 in
set_option maxHeartbeats 4000000 in
theorem w_X11_cut_0 {res : (Int32 × zh_H)} (hB : zc_B p s m args meth c cX11_cut 4 RX11 (some .int) D K) : ∀ (H : Heap) (locs : List Loc) (ls : Array Slot) (h : zh_H) (x0 : Nat) (x1 : Int32) (x2 : Int32), zh_G D K b0 N h s.heap H locs → lv_has ls 4 [(0, .ref x0), (1, .int x1), (2, .int x2)] → b_X11_cut_0 h x0 x1 x2 = some res → W p l e (zc_rm 1 0 0) s m args below meth c H locs 0 0 (MQ below (zc_Q D K b0 (zq (some (.int res.1)) N res.2)) args s 0 0 (fun q => b0 ≤ q)) (F0 m 0 ls []) := by
  have hx := hB.1
  have hb := hB.2.1
  intro H locs ls h x0 x1 x2 hG hl hf
  unfold b_X11_cut_0 at hf
  refine lv_aload_n hx hb dX11_cut_0 rfl (lv_at hl 0 rfl) ?_
  refine lv_iload_n hx hb dX11_cut_1 rfl (lv_at hl 1 rfl) ?_
  refine lv_iload_n hx hb dX11_cut_2 rfl (lv_at hl 2 rfl) ?_
  obtain ⟨o1, eo1, hf⟩ := zb hf
  obtain ⟨v3, h2, eh2, hf⟩ := zbp_s hf
  refine zr_callV (As := [.int x1, .int x2]) kc_X11_168 hB hG (c_X11_isPart eh2) eo1 rfl hl.1 rfl ⟨by decide, by decide⟩ (Nat.le_of_ble_eq_true rfl) ⟨by decide, by decide⟩ dX11_cut_3 (fun H locs hG => ?_)
  refine lv_if_ne (tgt := 12) hx hb dX11_cut_6 (by decide) (fun hc6 => ?_) (fun hc6 => ?_)
  · rw [if_neg hc6] at hf
    refine lv_aload_n hx hb dX11_cut_12 rfl (lv_at hl 0 rfl) ?_
    obtain ⟨o4, eo4, hf⟩ := zb hf
    obtain ⟨h5, eh5, hf⟩ := zb hf
    refine zr_callVv (As := []) kc_X11_165 hB hG (c_X11_remember eh5) eo4 rfl hl.1 rfl ⟨by decide, by decide⟩ (Nat.le_of_ble_eq_true rfl) ⟨by decide, by decide⟩ dX11_cut_13 (fun H locs hG => ?_)
    refine lv_iload_n hx hb dX11_cut_16 rfl (lv_at hl 2 rfl) ?_
    refine lv_istore_n (lv' := [(3, .int x2), (0, .ref x0), (1, .int x1), (2, .int x2)]) hx hb dX11_cut_17 rfl hl (by decide) rfl (fun ls hl => ?_)
    exact w_X11_cut_18 hB zFuel _ _ _ h5 (x0) (x1) (x2) (x2) hG (lv_sub hl [1, 2, 3, 0] rfl) hf
  · rw [if_pos hc6] at hf
    refine lv_bipush (v := -2) hx hb dX11_cut_9 (by decide) ?_
    obtain rfl := Option.some.inj hf
    exact zr_iret hB hG ⟨rfl, rfl, rfl⟩ dX11_cut_11
end G_X11_cut
theorem c_X11_cut {l : Launch} {D : va_G} {K : Nat → ClassId} {b0 N : Nat} {h : zh_H} {x0 : Nat} {x1 : Int32} {x2 : Int32} {r : Int32} {h2 : zh_H} (hf : b_X11_cut_0 h x0 x1 x2 = some (r, h2)) : zc l yX11_cut cX11_cut 4 (some .int) 1 0 0 D K b0 N h [.ref x0, .int x1, .int x2] (zq (some (.int r)) N h2) := by
  refine zc.of [(0, .ref x0), (1, .int x1), (2, .int x2)] (by decide) rfl (Nat.le_of_ble_eq_true rfl) ?_
  intro p e s m args below meth c hB hnm hG ls hl
  exact w_X11_cut_0 (res := (r, h2)) hB _ _ ls h x0 x1 x2 hG (lv_sub hl [0, 1, 2] rfl) hf

section G_X11_element
variable {p : Program} {l : Launch} {e : Env} {s : State} {m : MethodId} {args : Array Value} {below : List Frame} {meth : Method} {c : Code} {D : va_G} {K : Nat → ClassId} {b0 N : Nat}
set_option maxRecDepth 100000 in
set_option maxHeartbeats 4000000 in
theorem w_X11_element_149 {res : zh_H} (hB : zc_B p s m args meth c cX11_element 3 RX11 none D K) : ∀ (H : Heap) (locs : List Loc) (ls : Array Slot) (h : zh_H), zh_G D K b0 N h s.heap H locs → lv_has ls 3 [] → b_X11_element_149 h  = some res → W p l e (zc_rm 4 0 0) s m args below meth c H locs 0 0 (MQ below (zc_Q D K b0 (zq none N res)) args s 0 0 (fun q => b0 ≤ q)) (F0 m 149 ls []) := by
  have hx := hB.1
  have hb := hB.2.1
  intro H locs ls h  hG hl hf
  unfold b_X11_element_149 at hf
  obtain rfl := Option.some.inj hf
  exact zr_vret hB hG ⟨rfl, rfl, rfl⟩ dX11_element_149

set_option maxRecDepth 100000 in
set_option maxHeartbeats 4000000 in
theorem w_X11_element_106 {res : zh_H} (hB : zc_B p s m args meth c cX11_element 3 RX11 none D K) : ∀ (H : Heap) (locs : List Loc) (ls : Array Slot) (h : zh_H) (x0 : Nat), zh_G D K b0 N h s.heap H locs → lv_has ls 3 [(0, .ref x0)] → b_X11_element_106 h x0 = some res → W p l e (zc_rm 4 0 0) s m args below meth c H locs 0 0 (MQ below (zc_Q D K b0 (zq none N res)) args s 0 0 (fun q => b0 ≤ q)) (F0 m 106 ls []) := by
  have hx := hB.1
  have hb := hB.2.1
  intro H locs ls h x0 hG hl hf
  unfold b_X11_element_106 at hf
  refine lv_aload_n hx hb dX11_element_106 rfl (lv_at hl 0 rfl) ?_
  obtain ⟨v1, ev1, hf⟩ := zb hf
  refine zr_getI hB hG zF_11 (by decide) kf_X11_113 ev1 dX11_element_107 ?_
  refine lv_if_ne (tgt := 149) hx hb dX11_element_110 (by decide) (fun hc12 => ?_) (fun hc12 => ?_)
  · rw [if_neg hc12] at hf
    exact w_X11_element_149 hB _ _ _ h  hG (lv_sub hl [] rfl) hf
  · rw [if_pos hc12] at hf
    refine lv_aload_n hx hb dX11_element_113 rfl (lv_at hl 0 rfl) ?_
    obtain ⟨a2, ea2, hf⟩ := zb hf
    refine zr_getR hB hG zF_11 (by decide) kf_X11_36 ea2 dX11_element_114 ?_
    refine lv_aload_n hx hb dX11_element_117 rfl (lv_at hl 0 rfl) ?_
    obtain ⟨v3, ev3, hf⟩ := zb hf
    refine zr_getI hB hG zF_11 (by decide) kf_X11_147 ev3 dX11_element_118 ?_
    refine lv_aload_n hx hb dX11_element_121 rfl (lv_at hl 0 rfl) ?_
    obtain ⟨u4, eu4, hf⟩ := zb hf
    refine zr_getL hB hG zF_11 (by decide) kf_X11_119 eu4 dX11_element_122 ?_
    obtain ⟨h5, eh5, hf⟩ := zb hf
    refine zr_last hB hG eh5 dX11_element_125 (fun H locs hG => ?_)
    refine lv_aload_n hx hb dX11_element_126 rfl (lv_at hl 0 rfl) ?_
    obtain ⟨a6, ea6, hf⟩ := zb hf
    refine zr_getR hB hG zF_11 (by decide) kf_X11_39 ea6 dX11_element_127 ?_
    refine lv_aload_n hx hb dX11_element_130 rfl (lv_at hl 0 rfl) ?_
    obtain ⟨v7, ev7, hf⟩ := zb hf
    refine zr_getI hB hG zF_11 (by decide) kf_X11_147 ev7 dX11_element_131 ?_
    refine lv_aload_n hx hb dX11_element_134 rfl (lv_at hl 0 rfl) ?_
    obtain ⟨u8, eu8, hf⟩ := zb hf
    refine zr_getL hB hG zF_11 (by decide) kf_X11_123 eu8 dX11_element_135 ?_
    obtain ⟨h9, eh9, hf⟩ := zb hf
    refine zr_last hB hG eh9 dX11_element_138 (fun H locs hG => ?_)
    refine lv_aload_n hx hb dX11_element_139 rfl (lv_at hl 0 rfl) ?_
    refine lv_dup hx hb dX11_element_140 rfl ?_
    obtain ⟨v10, ev10, hf⟩ := zb hf
    refine zr_getI hB hG zF_11 (by decide) kf_X11_147 ev10 dX11_element_141 ?_
    refine lv_iconst (v := 1) hx hb dX11_element_144 (by decide) ?_
    refine lv_iadd hx hb dX11_element_145 ?_
    obtain ⟨h11, eh11, hf⟩ := zb hf
    refine zr_put hB hG zF_11 (by decide) kf_X11_147 rfl rfl rfl eh11 dX11_element_146 (fun H locs hG => ?_)
    exact w_X11_element_149 hB _ _ _ h11  hG (lv_sub hl [] rfl) hf

set_option maxRecDepth 100000 in
set_option maxHeartbeats 4000000 in
theorem w_X11_element_0 {res : zh_H} (hB : zc_B p s m args meth c cX11_element 3 RX11 none D K) : ∀ (H : Heap) (locs : List Loc) (ls : Array Slot) (h : zh_H) (x0 : Nat), zh_G D K b0 N h s.heap H locs → lv_has ls 3 [(0, .ref x0)] → b_X11_element_0 h x0 = some res → W p l e (zc_rm 4 0 0) s m args below meth c H locs 0 0 (MQ below (zc_Q D K b0 (zq none N res)) args s 0 0 (fun q => b0 ≤ q)) (F0 m 0 ls []) := by
  have hx := hB.1
  have hb := hB.2.1
  intro H locs ls h x0 hG hl hf
  unfold b_X11_element_0 at hf
  refine lv_aload_n hx hb dX11_element_0 rfl (lv_at hl 0 rfl) ?_
  obtain ⟨a1, ea1, hf⟩ := zb hf
  refine zr_getR hB hG zF_11 (by decide) kf_X11_7 ea1 dX11_element_1 ?_
  refine lv_aload_n hx hb dX11_element_4 rfl (lv_at hl 0 rfl) ?_
  obtain ⟨v2, ev2, hf⟩ := zb hf
  refine zr_getI hB hG zF_11 (by decide) kf_X11_130 ev2 dX11_element_5 ?_
  obtain ⟨v3, ev3, hf⟩ := zb hf
  refine zr_iald hB hG ev3 dX11_element_8 ?_
  refine lv_istore_n (lv' := [(1, .int v3), (0, .ref x0)]) hx hb dX11_element_9 rfl hl (by decide) rfl (fun ls hl => ?_)
  refine lv_iload_n hx hb dX11_element_10 rfl (lv_at hl 0 rfl) ?_
  refine lv_bipush (v := 93) hx hb dX11_element_11 (by decide) ?_
  refine lv_icmp_ne (tgt := 27) hx hb dX11_element_13 (by decide) (fun hc29 => ?_) (fun hc29 => ?_)
  · rw [if_neg hc29] at hf
    refine lv_aload_n hx hb dX11_element_27 rfl (lv_at hl 1 rfl) ?_
    obtain ⟨v4, ev4, hf⟩ := zb hf
    refine zr_getI hB hG zF_11 (by decide) kf_X11_147 ev4 dX11_element_28 ?_
    refine lv_sipush (v := 200) hx hb dX11_element_31 (by decide) ?_
    refine lv_icmp_ne (tgt := 48) hx hb dX11_element_34 (by decide) (fun hc24 => ?_) (fun hc24 => ?_)
    · rw [if_neg hc24] at hf
      refine lv_aload_n hx hb dX11_element_48 rfl (lv_at hl 1 rfl) ?_
      refine lv_lconst (v := 0) hx hb dX11_element_49 (by decide) ?_
      obtain ⟨h5, eh5, hf⟩ := zb hf
      refine zr_put hB hG zF_11 (by decide) kf_X11_119 rfl rfl rfl eh5 dX11_element_50 (fun H locs hG => ?_)
      refine lv_aload_n hx hb dX11_element_53 rfl (lv_at hl 1 rfl) ?_
      refine lv_lconst (v := 0) hx hb dX11_element_54 (by decide) ?_
      obtain ⟨h6, eh6, hf⟩ := zb hf
      refine zr_put hB hG zF_11 (by decide) kf_X11_123 rfl rfl rfl eh6 dX11_element_55 (fun H locs hG => ?_)
      refine lv_iload_n hx hb dX11_element_58 rfl (lv_at hl 0 rfl) ?_
      refine lv_bipush (v := 46) hx hb dX11_element_59 (by decide) ?_
      refine lv_icmp_ne (tgt := 85) hx hb dX11_element_61 (by decide) (fun hc19 => ?_) (fun hc19 => ?_)
      · rw [if_neg hc19] at hf
        refine lv_iload_n hx hb dX11_element_85 rfl (lv_at hl 0 rfl) ?_
        refine lv_bipush (v := 91) hx hb dX11_element_86 (by decide) ?_
        refine lv_icmp_ne (tgt := 98) hx hb dX11_element_88 (by decide) (fun hc14 => ?_) (fun hc14 => ?_)
        · rw [if_neg hc14] at hf
          refine lv_aload_n hx hb dX11_element_98 rfl (lv_at hl 1 rfl) ?_
          refine lv_aload_n hx hb dX11_element_99 rfl (lv_at hl 1 rfl) ?_
          obtain ⟨o7, eo7, hf⟩ := zb hf
          obtain ⟨v9, h8, eh8, hf⟩ := zbp_s hf
          refine zr_callV (As := []) kc_X11_137 hB hG (c_X11_itemByte eh8) eo7 rfl hl.1 rfl ⟨by decide, by decide⟩ (Nat.le_of_ble_eq_true rfl) ⟨by decide, by decide⟩ dX11_element_100 (fun H locs hG => ?_)
          obtain ⟨o10, eo10, hf⟩ := zb hf
          obtain ⟨h11, eh11, hf⟩ := zb hf
          refine zr_callVv (As := [.int v9]) kc_X11_126 hB hG (c_X11_put eh11) eo10 rfl hl.1 rfl ⟨by decide, by decide⟩ (Nat.le_of_ble_eq_true rfl) ⟨by decide, by decide⟩ dX11_element_103 (fun H locs hG => ?_)
          exact w_X11_element_106 hB _ _ _ h11 (x0) hG (lv_sub hl [1] rfl) hf
        · rw [if_pos hc14] at hf
          refine lv_aload_n hx hb dX11_element_91 rfl (lv_at hl 1 rfl) ?_
          obtain ⟨o12, eo12, hf⟩ := zb hf
          obtain ⟨h13, eh13, hf⟩ := zb hf
          refine zr_callVv (As := []) kc_X11_150 hB hG (c_X11_bracket eh13) eo12 rfl hl.1 rfl ⟨by decide, by decide⟩ (Nat.le_of_ble_eq_true rfl) ⟨by decide, by decide⟩ dX11_element_92 (fun H locs hG => ?_)
          refine lv_goto (tgt := 106) hx hb dX11_element_95 (by decide) ?_
          exact w_X11_element_106 hB _ _ _ h13 (x0) hG (lv_sub hl [1] rfl) hf
      · rw [if_pos hc19] at hf
        refine lv_aload_n hx hb dX11_element_64 rfl (lv_at hl 1 rfl) ?_
        refine lv_bipush (v := 32) hx hb dX11_element_65 (by decide) ?_
        refine lv_bipush (v := 126) hx hb dX11_element_67 (by decide) ?_
        obtain ⟨o15, eo15, hf⟩ := zb hf
        obtain ⟨h16, eh16, hf⟩ := zb hf
        refine zr_callVv (As := [.int (32 : Int32), .int (126 : Int32)]) kc_X11_141 hB hG (c_X11_putAll eh16) eo15 rfl hl.1 rfl ⟨by decide, by decide⟩ (Nat.le_of_ble_eq_true rfl) ⟨by decide, by decide⟩ dX11_element_69 (fun H locs hG => ?_)
        refine lv_aload_n hx hb dX11_element_72 rfl (lv_at hl 1 rfl) ?_
        refine lv_dup hx hb dX11_element_73 rfl ?_
        obtain ⟨v17, ev17, hf⟩ := zb hf
        refine zr_getI hB hG zF_11 (by decide) kf_X11_130 ev17 dX11_element_74 ?_
        refine lv_iconst (v := 1) hx hb dX11_element_77 (by decide) ?_
        refine lv_iadd hx hb dX11_element_78 ?_
        obtain ⟨h18, eh18, hf⟩ := zb hf
        refine zr_put hB hG zF_11 (by decide) kf_X11_130 rfl rfl rfl eh18 dX11_element_79 (fun H locs hG => ?_)
        refine lv_goto (tgt := 106) hx hb dX11_element_82 (by decide) ?_
        exact w_X11_element_106 hB _ _ _ h18 (x0) hG (lv_sub hl [1] rfl) hf
    · rw [if_pos hc24] at hf
      refine lv_aload_n hx hb dX11_element_37 rfl (lv_at hl 1 rfl) ?_
      refine lv_iconst (v := 4) hx hb dX11_element_38 (by decide) ?_
      refine lv_aload_n hx hb dX11_element_39 rfl (lv_at hl 1 rfl) ?_
      obtain ⟨v20, ev20, hf⟩ := zb hf
      refine zr_getI hB hG zF_11 (by decide) kf_X11_130 ev20 dX11_element_40 ?_
      obtain ⟨o21, eo21, hf⟩ := zb hf
      obtain ⟨v23, h22, eh22, hf⟩ := zbp_s hf
      refine zr_callV (As := [.int (4 : Int32), .int v20]) kc_X11_133 hB hG (c_X11_blame eh22) eo21 rfl hl.1 rfl ⟨by decide, by decide⟩ (Nat.le_of_ble_eq_true rfl) ⟨by decide, by decide⟩ dX11_element_43 (fun H locs hG => ?_)
      refine lv_istore_n (lv' := [(2, .int v23), (1, .int v3), (0, .ref x0)]) hx hb dX11_element_46 rfl hl (by decide) rfl (fun ls hl => ?_)
      obtain rfl := Option.some.inj hf
      exact zr_vret hB hG ⟨rfl, rfl, rfl⟩ dX11_element_47
  · rw [if_pos hc29] at hf
    refine lv_aload_n hx hb dX11_element_16 rfl (lv_at hl 1 rfl) ?_
    refine lv_iconst (v := 1) hx hb dX11_element_17 (by decide) ?_
    refine lv_aload_n hx hb dX11_element_18 rfl (lv_at hl 1 rfl) ?_
    obtain ⟨v25, ev25, hf⟩ := zb hf
    refine zr_getI hB hG zF_11 (by decide) kf_X11_130 ev25 dX11_element_19 ?_
    obtain ⟨o26, eo26, hf⟩ := zb hf
    obtain ⟨v28, h27, eh27, hf⟩ := zbp_s hf
    refine zr_callV (As := [.int (1 : Int32), .int v25]) kc_X11_133 hB hG (c_X11_blame eh27) eo26 rfl hl.1 rfl ⟨by decide, by decide⟩ (Nat.le_of_ble_eq_true rfl) ⟨by decide, by decide⟩ dX11_element_22 (fun H locs hG => ?_)
    refine lv_istore_n (lv' := [(2, .int v28), (1, .int v3), (0, .ref x0)]) hx hb dX11_element_25 rfl hl (by decide) rfl (fun ls hl => ?_)
    obtain rfl := Option.some.inj hf
    exact zr_vret hB hG ⟨rfl, rfl, rfl⟩ dX11_element_26
end G_X11_element
theorem c_X11_element {l : Launch} {D : va_G} {K : Nat → ClassId} {b0 N : Nat} {h : zh_H} {x0 : Nat} {h2 : zh_H} (hf : b_X11_element_0 h x0 = some h2) : zc l yX11_element cX11_element 3 none 4 0 0 D K b0 N h [.ref x0] (zq none N h2) := by
  refine zc.of [(0, .ref x0)] (by decide) rfl (Nat.le_of_ble_eq_true rfl) ?_
  intro p e s m args below meth c hB hnm hG ls hl
  exact w_X11_element_0 (res := h2) hB _ _ ls h x0 hG (lv_sub hl [0] rfl) hf

section G_X11_isThere
variable {p : Program} {l : Launch} {e : Env} {s : State} {m : MethodId} {args : Array Value} {below : List Frame} {meth : Method} {c : Code} {D : va_G} {K : Nat → ClassId} {b0 N : Nat}
set_option maxRecDepth 100000 in
set_option maxHeartbeats 4000000 in
theorem w_X11_isThere_24 {res : (Int32 × zh_H)} (hB : zc_B p s m args meth c cX11_isThere 2 RX11 (some .boolean) D K) : ∀ (H : Heap) (locs : List Loc) (ls : Array Slot) (h : zh_H) (y0 : Int32), zh_G D K b0 N h s.heap H locs → lv_has ls 2 [] → b_X11_isThere_24 h y0 = some res → W p l e (zc_rm 1 0 0) s m args below meth c H locs 0 0 (MQ below (zc_Q D K b0 (zq (some (.int res.1)) N res.2)) args s 0 0 (fun q => b0 ≤ q)) (F0 m 24 ls [.int y0]) := by
  have hx := hB.1
  have hb := hB.2.1
  intro H locs ls h y0 hG hl hf
  unfold b_X11_isThere_24 at hf
  obtain ⟨hz, hf⟩ := zif_s hf
  obtain rfl := Option.some.inj hf
  exact zr_zret hB hG hz ⟨rfl, rfl, rfl⟩ dX11_isThere_24

set_option maxRecDepth 100000 in
set_option maxHeartbeats 4000000 in
theorem w_X11_isThere_23 {res : (Int32 × zh_H)} (hB : zc_B p s m args meth c cX11_isThere 2 RX11 (some .boolean) D K) : ∀ (H : Heap) (locs : List Loc) (ls : Array Slot) (h : zh_H), zh_G D K b0 N h s.heap H locs → lv_has ls 2 [] → b_X11_isThere_23 h  = some res → W p l e (zc_rm 1 0 0) s m args below meth c H locs 0 0 (MQ below (zc_Q D K b0 (zq (some (.int res.1)) N res.2)) args s 0 0 (fun q => b0 ≤ q)) (F0 m 23 ls []) := by
  have hx := hB.1
  have hb := hB.2.1
  intro H locs ls h  hG hl hf
  unfold b_X11_isThere_23 at hf
  refine lv_iconst (v := 0) hx hb dX11_isThere_23 (by decide) ?_
  exact w_X11_isThere_24 hB _ _ _ h ((0 : Int32)) hG (lv_sub hl [] rfl) hf

set_option maxRecDepth 100000 in
set_option maxHeartbeats 4000000 in
theorem w_X11_isThere_0 {res : (Int32 × zh_H)} (hB : zc_B p s m args meth c cX11_isThere 2 RX11 (some .boolean) D K) : ∀ (H : Heap) (locs : List Loc) (ls : Array Slot) (h : zh_H) (x0 : Nat) (x1 : Int32), zh_G D K b0 N h s.heap H locs → lv_has ls 2 [(0, .ref x0), (1, .int x1)] → b_X11_isThere_0 h x0 x1 = some res → W p l e (zc_rm 1 0 0) s m args below meth c H locs 0 0 (MQ below (zc_Q D K b0 (zq (some (.int res.1)) N res.2)) args s 0 0 (fun q => b0 ≤ q)) (F0 m 0 ls []) := by
  have hx := hB.1
  have hb := hB.2.1
  intro H locs ls h x0 x1 hG hl hf
  unfold b_X11_isThere_0 at hf
  refine lv_iload_n hx hb dX11_isThere_0 rfl (lv_at hl 1 rfl) ?_
  refine lv_iconst (v := 0) hx hb dX11_isThere_1 (by decide) ?_
  refine lv_bipush (v := 7) hx hb dX11_isThere_2 (by decide) ?_
  obtain ⟨v2, h1, eh1, hf⟩ := zbp_s hf
  refine zr_callS (As := [.int x1, .int (0 : Int32), .int (7 : Int32)]) kc_X11_100 hB hG (c_X11_in eh1) rfl hl.1 rfl ⟨by decide, by decide⟩ (Nat.le_of_ble_eq_true rfl) ⟨by decide, by decide⟩ dX11_isThere_4 (fun H locs hG => ?_)
  refine lv_if_eq (tgt := 23) hx hb dX11_isThere_7 (by decide) (fun hc6 => ?_) (fun hc6 => ?_)
  · rw [if_pos hc6] at hf
    exact w_X11_isThere_23 hB _ _ _ h1  hG (lv_sub hl [] rfl) hf
  · rw [if_neg hc6] at hf
    refine lv_aload_n hx hb dX11_isThere_10 rfl (lv_at hl 0 rfl) ?_
    obtain ⟨a3, ea3, hf⟩ := zb hf
    refine zr_getR hB hG zF_11 (by decide) kf_X11_29 ea3 dX11_isThere_11 ?_
    refine lv_iload_n hx hb dX11_isThere_14 rfl (lv_at hl 1 rfl) ?_
    obtain ⟨v4, ev4, hf⟩ := zb hf
    refine zr_iald hB hG ev4 dX11_isThere_15 ?_
    refine lv_if_le (tgt := 23) hx hb dX11_isThere_16 (by decide) (fun hc5 => ?_) (fun hc5 => ?_)
    · rw [if_pos hc5] at hf
      exact w_X11_isThere_23 hB _ _ _ h1  hG (lv_sub hl [] rfl) hf
    · rw [if_neg hc5] at hf
      refine lv_iconst (v := 1) hx hb dX11_isThere_19 (by decide) ?_
      refine lv_goto (tgt := 24) hx hb dX11_isThere_20 (by decide) ?_
      exact w_X11_isThere_24 hB _ _ _ h1 ((1 : Int32)) hG (lv_sub hl [] rfl) hf
end G_X11_isThere
theorem c_X11_isThere {l : Launch} {D : va_G} {K : Nat → ClassId} {b0 N : Nat} {h : zh_H} {x0 : Nat} {x1 : Int32} {r : Int32} {h2 : zh_H} (hf : b_X11_isThere_0 h x0 x1 = some (r, h2)) : zc l yX11_isThere cX11_isThere 2 (some .boolean) 1 0 0 D K b0 N h [.ref x0, .int x1] (zq (some (.int r)) N h2) := by
  refine zc.of [(0, .ref x0), (1, .int x1)] (by decide) rfl (Nat.le_of_ble_eq_true rfl) ?_
  intro p e s m args below meth c hB hnm hG ls hl
  exact w_X11_isThere_0 (res := (r, h2)) hB _ _ ls h x0 x1 hG (lv_sub hl [0, 1] rfl) hf

section G_X11_isEdits
variable {p : Program} {l : Launch} {e : Env} {s : State} {m : MethodId} {args : Array Value} {below : List Frame} {meth : Method} {c : Code} {D : va_G} {K : Nat → ClassId} {b0 N : Nat}
set_option maxRecDepth 100000 in
set_option maxHeartbeats 4000000 in
theorem w_X11_isEdits_0 {res : (Int32 × zh_H)} (hB : zc_B p s m args meth c cX11_isEdits 1 RX11 (some .boolean) D K) : ∀ (H : Heap) (locs : List Loc) (ls : Array Slot) (h : zh_H) (x0 : Int32), zh_G D K b0 N h s.heap H locs → lv_has ls 1 [(0, .int x0)] → b_X11_isEdits_0 h x0 = some res → W p l e (zc_rm 1 0 0) s m args below meth c H locs 0 0 (MQ below (zc_Q D K b0 (zq (some (.int res.1)) N res.2)) args s 0 0 (fun q => b0 ≤ q)) (F0 m 0 ls []) := by
  have hx := hB.1
  have hb := hB.2.1
  intro H locs ls h x0 hG hl hf
  unfold b_X11_isEdits_0 at hf
  refine lv_iload_n hx hb dX11_isEdits_0 rfl (lv_at hl 0 rfl) ?_
  refine lv_iconst (v := 0) hx hb dX11_isEdits_1 (by decide) ?_
  refine lv_sipush (v := 200) hx hb dX11_isEdits_2 (by decide) ?_
  obtain ⟨v2, h1, eh1, hf⟩ := zbp_s hf
  refine zr_callS (As := [.int x0, .int (0 : Int32), .int (200 : Int32)]) kc_X11_100 hB hG (c_X11_in eh1) rfl hl.1 rfl ⟨by decide, by decide⟩ (Nat.le_of_ble_eq_true rfl) ⟨by decide, by decide⟩ dX11_isEdits_5 (fun H locs hG => ?_)
  obtain ⟨hz, hf⟩ := zif_s hf
  obtain rfl := Option.some.inj hf
  exact zr_zret hB hG hz ⟨rfl, rfl, rfl⟩ dX11_isEdits_8
end G_X11_isEdits
theorem c_X11_isEdits {l : Launch} {D : va_G} {K : Nat → ClassId} {b0 N : Nat} {h : zh_H} {x0 : Int32} {r : Int32} {h2 : zh_H} (hf : b_X11_isEdits_0 h x0 = some (r, h2)) : zc l yX11_isEdits cX11_isEdits 1 (some .boolean) 1 0 0 D K b0 N h [.int x0] (zq (some (.int r)) N h2) := by
  refine zc.of [(0, .int x0)] (by decide) rfl (Nat.le_of_ble_eq_true rfl) ?_
  intro p e s m args below meth c hB hnm hG ls hl
  exact w_X11_isEdits_0 (res := (r, h2)) hB _ _ ls h x0 hG (lv_sub hl [0] rfl) hf

section G_X11_loadPattern
variable {p : Program} {l : Launch} {e : Env} {s : State} {m : MethodId} {args : Array Value} {below : List Frame} {meth : Method} {c : Code} {D : va_G} {K : Nat → ClassId} {b0 N : Nat}
set_option maxRecDepth 100000 in
set_option maxHeartbeats 4000000 in
theorem w_X11_loadPattern_12 {res : zh_H} (hB : zc_B p s m args meth c cX11_loadPattern 3 RX11 none D K) : ∀ n : Nat, ∀ (H : Heap) (locs : List Loc) (ls : Array Slot) (h : zh_H) (x0 : Nat) (x1 : Int32) (x2 : Int32), zh_G D K b0 N h s.heap H locs → lv_has ls 3 [(0, .ref x0), (1, .int x1), (2, .int x2)] → b_X11_loadPattern_12 n h x0 x1 x2 = some res → W p l e (zc_rm 0 0 0) s m args below meth c H locs 0 0 (MQ below (zc_Q D K b0 (zq none N res)) args s 0 0 (fun q => b0 ≤ q)) (F0 m 12 ls []) := by
  have hx := hB.1
  have hb := hB.2.1
  intro n
  induction n with
  | zero =>
    intro H locs ls h x0 x1 x2 hG hl hf
    cases hf
  | succ n ih =>
    intro H locs ls h x0 x1 x2 hG hl hf
    unfold b_X11_loadPattern_12 at hf
    refine lv_iload_n hx hb dX11_loadPattern_12 rfl (lv_at hl 2 rfl) ?_
    refine lv_aload_n hx hb dX11_loadPattern_13 rfl (lv_at hl 0 rfl) ?_
    obtain ⟨v1, ev1, hf⟩ := zb hf
    refine zr_getI hB hG zF_11 (by decide) kf_X11_172 ev1 dX11_loadPattern_14 ?_
    refine lv_icmp_ge (tgt := 62) hx hb dX11_loadPattern_17 (by decide) (fun hc10 => ?_) (fun hc10 => ?_)
    · rw [if_pos hc10] at hf
      obtain rfl := Option.some.inj hf
      exact zr_vret hB hG ⟨rfl, rfl, rfl⟩ dX11_loadPattern_62
    · rw [if_neg hc10] at hf
      refine lv_aload_n hx hb dX11_loadPattern_20 rfl (lv_at hl 0 rfl) ?_
      obtain ⟨a2, ea2, hf⟩ := zb hf
      refine zr_getR hB hG zF_11 (by decide) kf_X11_42 ea2 dX11_loadPattern_21 ?_
      refine lv_iload_n hx hb dX11_loadPattern_24 rfl (lv_at hl 2 rfl) ?_
      refine lv_aload_n hx hb dX11_loadPattern_25 rfl (lv_at hl 0 rfl) ?_
      obtain ⟨a3, ea3, hf⟩ := zb hf
      refine zr_getR hB hG zF_11 (by decide) kf_X11_22 ea3 dX11_loadPattern_26 ?_
      refine lv_sipush (v := 200) hx hb dX11_loadPattern_29 (by decide) ?_
      refine lv_iload_n hx hb dX11_loadPattern_32 rfl (lv_at hl 1 rfl) ?_
      refine lv_imul hx hb dX11_loadPattern_33 ?_
      refine lv_iload_n hx hb dX11_loadPattern_34 rfl (lv_at hl 2 rfl) ?_
      refine lv_iadd hx hb dX11_loadPattern_35 ?_
      obtain ⟨u4, eu4, hf⟩ := zb hf
      refine zr_lald hB hG eu4 dX11_loadPattern_36 ?_
      obtain ⟨h5, eh5, hf⟩ := zb hf
      refine zr_last hB hG eh5 dX11_loadPattern_37 (fun H locs hG => ?_)
      refine lv_aload_n hx hb dX11_loadPattern_38 rfl (lv_at hl 0 rfl) ?_
      obtain ⟨a6, ea6, hf⟩ := zb hf
      refine zr_getR hB hG zF_11 (by decide) kf_X11_45 ea6 dX11_loadPattern_39 ?_
      refine lv_iload_n hx hb dX11_loadPattern_42 rfl (lv_at hl 2 rfl) ?_
      refine lv_aload_n hx hb dX11_loadPattern_43 rfl (lv_at hl 0 rfl) ?_
      obtain ⟨a7, ea7, hf⟩ := zb hf
      refine zr_getR hB hG zF_11 (by decide) kf_X11_26 ea7 dX11_loadPattern_44 ?_
      refine lv_sipush (v := 200) hx hb dX11_loadPattern_47 (by decide) ?_
      refine lv_iload_n hx hb dX11_loadPattern_50 rfl (lv_at hl 1 rfl) ?_
      refine lv_imul hx hb dX11_loadPattern_51 ?_
      refine lv_iload_n hx hb dX11_loadPattern_52 rfl (lv_at hl 2 rfl) ?_
      refine lv_iadd hx hb dX11_loadPattern_53 ?_
      obtain ⟨u8, eu8, hf⟩ := zb hf
      refine zr_lald hB hG eu8 dX11_loadPattern_54 ?_
      obtain ⟨h9, eh9, hf⟩ := zb hf
      refine zr_last hB hG eh9 dX11_loadPattern_55 (fun H locs hG => ?_)
      refine lv_iinc (v := (x2 + (1 : Int32))) (lv' := [(2, .int (x2 + (1 : Int32))), (0, .ref x0), (1, .int x1)]) hx hb dX11_loadPattern_56 hl (k := 2) rfl rfl (by decide) rfl (fun ls hl => ?_)
      refine lv_goto (tgt := 12) hx hb dX11_loadPattern_59 (by decide) ?_
      exact ih _ _ _ h9 (x0) (x1) ((x2 + (1 : Int32))) hG (lv_sub hl [1, 2, 0] rfl) hf

set_option maxRecDepth 100000 in
set_option maxHeartbeats 4000000 in
theorem w_X11_loadPattern_0 {res : zh_H} (hB : zc_B p s m args meth c cX11_loadPattern 3 RX11 none D K) : ∀ (H : Heap) (locs : List Loc) (ls : Array Slot) (h : zh_H) (x0 : Nat) (x1 : Int32), zh_G D K b0 N h s.heap H locs → lv_has ls 3 [(0, .ref x0), (1, .int x1)] → b_X11_loadPattern_0 h x0 x1 = some res → W p l e (zc_rm 0 0 0) s m args below meth c H locs 0 0 (MQ below (zc_Q D K b0 (zq none N res)) args s 0 0 (fun q => b0 ≤ q)) (F0 m 0 ls []) := by
  have hx := hB.1
  have hb := hB.2.1
  intro H locs ls h x0 x1 hG hl hf
  unfold b_X11_loadPattern_0 at hf
  refine lv_aload_n hx hb dX11_loadPattern_0 rfl (lv_at hl 0 rfl) ?_
  refine lv_aload_n hx hb dX11_loadPattern_1 rfl (lv_at hl 0 rfl) ?_
  obtain ⟨a1, ea1, hf⟩ := zb hf
  refine zr_getR hB hG zF_11 (by decide) kf_X11_29 ea1 dX11_loadPattern_2 ?_
  refine lv_iload_n hx hb dX11_loadPattern_5 rfl (lv_at hl 1 rfl) ?_
  obtain ⟨v2, ev2, hf⟩ := zb hf
  refine zr_iald hB hG ev2 dX11_loadPattern_6 ?_
  obtain ⟨h3, eh3, hf⟩ := zb hf
  refine zr_put hB hG zF_11 (by decide) kf_X11_172 rfl rfl rfl eh3 dX11_loadPattern_7 (fun H locs hG => ?_)
  refine lv_iconst (v := 0) hx hb dX11_loadPattern_10 (by decide) ?_
  refine lv_istore_n (lv' := [(2, .int (0 : Int32)), (0, .ref x0), (1, .int x1)]) hx hb dX11_loadPattern_11 rfl hl (by decide) rfl (fun ls hl => ?_)
  exact w_X11_loadPattern_12 hB zFuel _ _ _ h3 (x0) (x1) ((0 : Int32)) hG (lv_sub hl [1, 2, 0] rfl) hf
end G_X11_loadPattern
theorem c_X11_loadPattern {l : Launch} {D : va_G} {K : Nat → ClassId} {b0 N : Nat} {h : zh_H} {x0 : Nat} {x1 : Int32} {h2 : zh_H} (hf : b_X11_loadPattern_0 h x0 x1 = some h2) : zc l yX11_loadPattern cX11_loadPattern 3 none 0 0 0 D K b0 N h [.ref x0, .int x1] (zq none N h2) := by
  refine zc.of [(0, .ref x0), (1, .int x1)] (by decide) rfl (Nat.le_of_ble_eq_true rfl) ?_
  intro p e s m args below meth c hB hnm hG ls hl
  exact w_X11_loadPattern_0 (res := h2) hB _ _ ls h x0 x1 hG (lv_sub hl [0, 1] rfl) hf

section G_X11_find
variable {p : Program} {l : Launch} {e : Env} {s : State} {m : MethodId} {args : Array Value} {below : List Frame} {meth : Method} {c : Code} {D : va_G} {K : Nat → ClassId} {b0 N : Nat}
set_option maxRecDepth 100000 in
set_option maxHeartbeats 4000000 in
theorem w_X11_find_15 {res : (Int32 × zh_H)} (hB : zc_B p s m args meth c cX11_find 5 RX11 (some .int) D K) : ∀ (H : Heap) (locs : List Loc) (ls : Array Slot) (h : zh_H), zh_G D K b0 N h s.heap H locs → lv_has ls 5 [] → b_X11_find_15 h  = some res → W p l e (zc_rm 2 0 0) s m args below meth c H locs 0 0 (MQ below (zc_Q D K b0 (zq (some (.int res.1)) N res.2)) args s 0 0 (fun q => b0 ≤ q)) (F0 m 15 ls []) := by
  have hx := hB.1
  have hb := hB.2.1
  intro H locs ls h  hG hl hf
  unfold b_X11_find_15 at hf
  refine lv_bipush (v := -2) hx hb dX11_find_15 (by decide) ?_
  obtain rfl := Option.some.inj hf
  exact zr_iret hB hG ⟨rfl, rfl, rfl⟩ dX11_find_17

set_option maxRecDepth 100000 in
set_option maxHeartbeats 4000000 in
theorem w_X11_find_228 {res : (Int32 × zh_H)} (hB : zc_B p s m args meth c cX11_find 5 RX11 (some .int) D K) {k140 : zh_H → Nat → Int32 → Int32 → Option (Int32 × zh_H)} (hk140 : ∀ (H : Heap) (locs : List Loc) (ls : Array Slot) (h : zh_H) (x0 : Nat) (x2 : Int32) (x4 : Int32), zh_G D K b0 N h s.heap H locs → lv_has ls 5 [(0, .ref x0), (2, .int x2), (4, .int x4)] → k140 h x0 x2 x4 = some res → W p l e (zc_rm 2 0 0) s m args below meth c H locs 0 0 (MQ below (zc_Q D K b0 (zq (some (.int res.1)) N res.2)) args s 0 0 (fun q => b0 ≤ q)) (F0 m 140 ls [])) : ∀ (H : Heap) (locs : List Loc) (ls : Array Slot) (h : zh_H) (x0 : Nat) (x2 : Int32) (x4 : Int32), zh_G D K b0 N h s.heap H locs → lv_has ls 5 [(0, .ref x0), (2, .int x2), (4, .int x4)] → b_X11_find_228 k140 h x0 x2 x4 = some res → W p l e (zc_rm 2 0 0) s m args below meth c H locs 0 0 (MQ below (zc_Q D K b0 (zq (some (.int res.1)) N res.2)) args s 0 0 (fun q => b0 ≤ q)) (F0 m 228 ls []) := by
  have hx := hB.1
  have hb := hB.2.1
  intro H locs ls h x0 x2 x4 hG hl hf
  unfold b_X11_find_228 at hf
  refine lv_iinc (v := (x4 + (1 : Int32))) (lv' := [(4, .int (x4 + (1 : Int32))), (0, .ref x0), (2, .int x2)]) hx hb dX11_find_228 hl (k := 2) rfl rfl (by decide) rfl (fun ls hl => ?_)
  refine lv_goto (tgt := 140) hx hb dX11_find_231 (by decide) ?_
  exact hk140 _ _ _ h (x0) (x2) ((x4 + (1 : Int32))) hG (lv_sub hl [1, 2, 0] rfl) hf

set_option maxRecDepth 100000 in
set_option maxHeartbeats 4000000 in
theorem w_X11_find_140 {res : (Int32 × zh_H)} (hB : zc_B p s m args meth c cX11_find 5 RX11 (some .int) D K) : ∀ n : Nat, ∀ (H : Heap) (locs : List Loc) (ls : Array Slot) (h : zh_H) (x0 : Nat) (x2 : Int32) (x4 : Int32), zh_G D K b0 N h s.heap H locs → lv_has ls 5 [(0, .ref x0), (2, .int x2), (4, .int x4)] → b_X11_find_140 n h x0 x2 x4 = some res → W p l e (zc_rm 2 0 0) s m args below meth c H locs 0 0 (MQ below (zc_Q D K b0 (zq (some (.int res.1)) N res.2)) args s 0 0 (fun q => b0 ≤ q)) (F0 m 140 ls []) := by
  have hx := hB.1
  have hb := hB.2.1
  intro n
  induction n with
  | zero =>
    intro H locs ls h x0 x2 x4 hG hl hf
    cases hf
  | succ n ih =>
    intro H locs ls h x0 x2 x4 hG hl hf
    unfold b_X11_find_140 at hf
    refine lv_iload hx hb dX11_find_140 (lv_at hl 2 rfl) ?_
    refine lv_aload_n hx hb dX11_find_142 rfl (lv_at hl 0 rfl) ?_
    obtain ⟨v1, ev1, hf⟩ := zb hf
    refine zr_getI hB hG zF_11 (by decide) kf_X11_175 ev1 dX11_find_143 ?_
    refine lv_icmp_ge (tgt := 234) hx hb dX11_find_146 (by decide) (fun hc26 => ?_) (fun hc26 => ?_)
    · rw [if_pos hc26] at hf
      refine lv_aload_n hx hb dX11_find_234 rfl (lv_at hl 0 rfl) ?_
      obtain ⟨v2, ev2, hf⟩ := zb hf
      refine zr_getI hB hG zF_11 (by decide) kf_X11_205 ev2 dX11_find_235 ?_
      obtain rfl := Option.some.inj hf
      exact zr_iret hB hG ⟨rfl, rfl, rfl⟩ dX11_find_238
    · rw [if_neg hc26] at hf
      refine lv_aload_n hx hb dX11_find_149 rfl (lv_at hl 0 rfl) ?_
      refine lv_iload hx hb dX11_find_150 (lv_at hl 2 rfl) ?_
      refine lv_iconst (v := 1) hx hb dX11_find_152 (by decide) ?_
      obtain ⟨o3, eo3, hf⟩ := zb hf
      obtain ⟨h4, eh4, hf⟩ := zb hf
      refine zr_callVv (As := [.int x4, .int (1 : Int32)]) kc_X11_192 hB hG (c_X11_column eh4) eo3 rfl hl.1 rfl ⟨by decide, by decide⟩ (Nat.le_of_ble_eq_true rfl) ⟨by decide, by decide⟩ dX11_find_153 (fun H locs hG => ?_)
      refine lv_aload_n hx hb dX11_find_156 rfl (lv_at hl 0 rfl) ?_
      obtain ⟨a5, ea5, hf⟩ := zb hf
      refine zr_getR hB hG zF_11 (by decide) kf_X11_51 ea5 dX11_find_157 ?_
      refine lv_aload_n hx hb dX11_find_160 rfl (lv_at hl 0 rfl) ?_
      obtain ⟨v6, ev6, hf⟩ := zb hf
      refine zr_getI hB hG zF_11 (by decide) kf_X11_172 ev6 dX11_find_161 ?_
      obtain ⟨v7, ev7, hf⟩ := zb hf
      refine zr_iald hB hG ev7 dX11_find_164 ?_
      refine lv_iload_n hx hb dX11_find_165 rfl (lv_at hl 1 rfl) ?_
      refine lv_icmp_gt (tgt := 228) hx hb dX11_find_166 (by decide) (fun hc25 => ?_) (fun hc25 => ?_)
      · rw [if_pos hc25] at hf
        exact w_X11_find_228 hB ih _ _ _ h4 (x0) (x2) (x4) hG (lv_sub hl [0, 1, 2] rfl) hf
      · rw [if_neg hc25] at hf
        refine lv_aload_n hx hb dX11_find_169 rfl (lv_at hl 0 rfl) ?_
        obtain ⟨a8, ea8, hf⟩ := zb hf
        refine zr_getR hB hG zF_11 (by decide) kf_X11_69 ea8 dX11_find_170 ?_
        refine lv_aload_n hx hb dX11_find_173 rfl (lv_at hl 0 rfl) ?_
        obtain ⟨v9, ev9, hf⟩ := zb hf
        refine zr_getI hB hG zF_11 (by decide) kf_X11_205 ev9 dX11_find_174 ?_
        refine lv_iload hx hb dX11_find_177 (lv_at hl 2 rfl) ?_
        refine lv_iconst (v := 1) hx hb dX11_find_179 (by decide) ?_
        refine lv_iadd hx hb dX11_find_180 ?_
        obtain ⟨h10, eh10, hf⟩ := zb hf
        refine zr_iast hB hG eh10 dX11_find_181 (fun H locs hG => ?_)
        refine lv_aload_n hx hb dX11_find_182 rfl (lv_at hl 0 rfl) ?_
        obtain ⟨a11, ea11, hf⟩ := zb hf
        refine zr_getR hB hG zF_11 (by decide) kf_X11_72 ea11 dX11_find_183 ?_
        refine lv_aload_n hx hb dX11_find_186 rfl (lv_at hl 0 rfl) ?_
        obtain ⟨v12, ev12, hf⟩ := zb hf
        refine zr_getI hB hG zF_11 (by decide) kf_X11_205 ev12 dX11_find_187 ?_
        refine lv_aload_n hx hb dX11_find_190 rfl (lv_at hl 0 rfl) ?_
        obtain ⟨a13, ea13, hf⟩ := zb hf
        refine zr_getR hB hG zF_11 (by decide) kf_X11_51 ea13 dX11_find_191 ?_
        refine lv_aload_n hx hb dX11_find_194 rfl (lv_at hl 0 rfl) ?_
        obtain ⟨v14, ev14, hf⟩ := zb hf
        refine zr_getI hB hG zF_11 (by decide) kf_X11_172 ev14 dX11_find_195 ?_
        obtain ⟨v15, ev15, hf⟩ := zb hf
        refine zr_iald hB hG ev15 dX11_find_198 ?_
        obtain ⟨h16, eh16, hf⟩ := zb hf
        refine zr_iast hB hG eh16 dX11_find_199 (fun H locs hG => ?_)
        refine lv_aload_n hx hb dX11_find_200 rfl (lv_at hl 0 rfl) ?_
        obtain ⟨a17, ea17, hf⟩ := zb hf
        refine zr_getR hB hG zF_11 (by decide) kf_X11_75 ea17 dX11_find_201 ?_
        refine lv_aload_n hx hb dX11_find_204 rfl (lv_at hl 0 rfl) ?_
        obtain ⟨v18, ev18, hf⟩ := zb hf
        refine zr_getI hB hG zF_11 (by decide) kf_X11_205 ev18 dX11_find_205 ?_
        refine lv_aload_n hx hb dX11_find_208 rfl (lv_at hl 0 rfl) ?_
        obtain ⟨a19, ea19, hf⟩ := zb hf
        refine zr_getR hB hG zF_11 (by decide) kf_X11_60 ea19 dX11_find_209 ?_
        refine lv_aload_n hx hb dX11_find_212 rfl (lv_at hl 0 rfl) ?_
        obtain ⟨v20, ev20, hf⟩ := zb hf
        refine zr_getI hB hG zF_11 (by decide) kf_X11_172 ev20 dX11_find_213 ?_
        obtain ⟨v21, ev21, hf⟩ := zb hf
        refine zr_iald hB hG ev21 dX11_find_216 ?_
        obtain ⟨h22, eh22, hf⟩ := zb hf
        refine zr_iast hB hG eh22 dX11_find_217 (fun H locs hG => ?_)
        refine lv_aload_n hx hb dX11_find_218 rfl (lv_at hl 0 rfl) ?_
        refine lv_dup hx hb dX11_find_219 rfl ?_
        obtain ⟨v23, ev23, hf⟩ := zb hf
        refine zr_getI hB hG zF_11 (by decide) kf_X11_205 ev23 dX11_find_220 ?_
        refine lv_iconst (v := 1) hx hb dX11_find_223 (by decide) ?_
        refine lv_iadd hx hb dX11_find_224 ?_
        obtain ⟨h24, eh24, hf⟩ := zb hf
        refine zr_put hB hG zF_11 (by decide) kf_X11_205 rfl rfl rfl eh24 dX11_find_225 (fun H locs hG => ?_)
        exact w_X11_find_228 hB ih _ _ _ h24 (x0) (x2) (x4) hG (lv_sub hl [0, 1, 2] rfl) hf

set_option maxRecDepth 100000 in
set_option maxHeartbeats 4000000 in
theorem w_X11_find_104 {res : (Int32 × zh_H)} (hB : zc_B p s m args meth c cX11_find 5 RX11 (some .int) D K) : ∀ n : Nat, ∀ (H : Heap) (locs : List Loc) (ls : Array Slot) (h : zh_H) (x0 : Nat) (x2 : Int32) (x4 : Int32), zh_G D K b0 N h s.heap H locs → lv_has ls 5 [(0, .ref x0), (2, .int x2), (4, .int x4)] → b_X11_find_104 n h x0 x2 x4 = some res → W p l e (zc_rm 2 0 0) s m args below meth c H locs 0 0 (MQ below (zc_Q D K b0 (zq (some (.int res.1)) N res.2)) args s 0 0 (fun q => b0 ≤ q)) (F0 m 104 ls []) := by
  have hx := hB.1
  have hb := hB.2.1
  intro n
  induction n with
  | zero =>
    intro H locs ls h x0 x2 x4 hG hl hf
    cases hf
  | succ n ih =>
    intro H locs ls h x0 x2 x4 hG hl hf
    unfold b_X11_find_104 at hf
    refine lv_iload hx hb dX11_find_104 (lv_at hl 2 rfl) ?_
    refine lv_aload_n hx hb dX11_find_106 rfl (lv_at hl 0 rfl) ?_
    obtain ⟨v1, ev1, hf⟩ := zb hf
    refine zr_getI hB hG zF_11 (by decide) kf_X11_162 ev1 dX11_find_107 ?_
    refine lv_icmp_ge (tgt := 133) hx hb dX11_find_110 (by decide) (fun hc8 => ?_) (fun hc8 => ?_)
    · rw [if_pos hc8] at hf
      refine lv_aload_n hx hb dX11_find_133 rfl (lv_at hl 0 rfl) ?_
      obtain ⟨o2, eo2, hf⟩ := zb hf
      obtain ⟨h3, eh3, hf⟩ := zb hf
      refine zr_callVv (As := []) kc_X11_189 hB hG (c_X11_firstColumn eh3) eo2 rfl hl.1 rfl ⟨by decide, by decide⟩ (Nat.le_of_ble_eq_true rfl) ⟨by decide, by decide⟩ dX11_find_134 (fun H locs hG => ?_)
      refine lv_iconst (v := 0) hx hb dX11_find_137 (by decide) ?_
      refine lv_istore (lv' := [(4, .int (0 : Int32)), (0, .ref x0), (2, .int x2)]) hx hb dX11_find_138 hl (by decide) rfl (fun ls hl => ?_)
      exact w_X11_find_140 hB zFuel _ _ _ h3 (x0) (x2) ((0 : Int32)) hG (lv_sub hl [1, 2, 0] rfl) hf
    · rw [if_neg hc8] at hf
      refine lv_aload_n hx hb dX11_find_113 rfl (lv_at hl 0 rfl) ?_
      obtain ⟨a4, ea4, hf⟩ := zb hf
      refine zr_getR hB hG zF_11 (by decide) kf_X11_78 ea4 dX11_find_114 ?_
      refine lv_iload hx hb dX11_find_117 (lv_at hl 2 rfl) ?_
      refine lv_aload_n hx hb dX11_find_119 rfl (lv_at hl 0 rfl) ?_
      obtain ⟨a5, ea5, hf⟩ := zb hf
      refine zr_getR hB hG zF_11 (by decide) kf_X11_13 ea5 dX11_find_120 ?_
      refine lv_iload hx hb dX11_find_123 (lv_at hl 2 rfl) ?_
      obtain ⟨v6, ev6, hf⟩ := zb hf
      refine zr_iald hB hG ev6 dX11_find_125 ?_
      obtain ⟨h7, eh7, hf⟩ := zb hf
      refine zr_iast hB hG eh7 dX11_find_126 (fun H locs hG => ?_)
      refine lv_iinc (v := (x4 + (1 : Int32))) (lv' := [(4, .int (x4 + (1 : Int32))), (0, .ref x0), (2, .int x2)]) hx hb dX11_find_127 hl (k := 2) rfl rfl (by decide) rfl (fun ls hl => ?_)
      refine lv_goto (tgt := 104) hx hb dX11_find_130 (by decide) ?_
      exact ih _ _ _ h7 (x0) (x2) ((x4 + (1 : Int32))) hG (lv_sub hl [1, 2, 0] rfl) hf

set_option maxRecDepth 100000 in
set_option maxHeartbeats 4000000 in
theorem w_X11_find_58 {res : (Int32 × zh_H)} (hB : zc_B p s m args meth c cX11_find 5 RX11 (some .int) D K) : ∀ n : Nat, ∀ (H : Heap) (locs : List Loc) (ls : Array Slot) (h : zh_H) (x0 : Nat) (x2 : Int32) (x4 : Int32), zh_G D K b0 N h s.heap H locs → lv_has ls 5 [(0, .ref x0), (2, .int x2), (4, .int x4)] → b_X11_find_58 n h x0 x2 x4 = some res → W p l e (zc_rm 2 0 0) s m args below meth c H locs 0 0 (MQ below (zc_Q D K b0 (zq (some (.int res.1)) N res.2)) args s 0 0 (fun q => b0 ≤ q)) (F0 m 58 ls []) := by
  have hx := hB.1
  have hb := hB.2.1
  intro n
  induction n with
  | zero =>
    intro H locs ls h x0 x2 x4 hG hl hf
    cases hf
  | succ n ih =>
    intro H locs ls h x0 x2 x4 hG hl hf
    unfold b_X11_find_58 at hf
    refine lv_iload hx hb dX11_find_58 (lv_at hl 2 rfl) ?_
    refine lv_aload_n hx hb dX11_find_60 rfl (lv_at hl 0 rfl) ?_
    obtain ⟨v1, ev1, hf⟩ := zb hf
    refine zr_getI hB hG zF_11 (by decide) kf_X11_172 ev1 dX11_find_61 ?_
    refine lv_icmp_ge (tgt := 101) hx hb dX11_find_64 (by decide) (fun hc10 => ?_) (fun hc10 => ?_)
    · rw [if_pos hc10] at hf
      refine lv_iconst (v := 0) hx hb dX11_find_101 (by decide) ?_
      refine lv_istore (lv' := [(4, .int (0 : Int32)), (0, .ref x0), (2, .int x2)]) hx hb dX11_find_102 hl (by decide) rfl (fun ls hl => ?_)
      exact w_X11_find_104 hB zFuel _ _ _ h (x0) (x2) ((0 : Int32)) hG (lv_sub hl [1, 2, 0] rfl) hf
    · rw [if_neg hc10] at hf
      refine lv_aload_n hx hb dX11_find_67 rfl (lv_at hl 0 rfl) ?_
      obtain ⟨a2, ea2, hf⟩ := zb hf
      refine zr_getR hB hG zF_11 (by decide) kf_X11_81 ea2 dX11_find_68 ?_
      refine lv_iload hx hb dX11_find_71 (lv_at hl 2 rfl) ?_
      refine lv_aload_n hx hb dX11_find_73 rfl (lv_at hl 0 rfl) ?_
      obtain ⟨a3, ea3, hf⟩ := zb hf
      refine zr_getR hB hG zF_11 (by decide) kf_X11_42 ea3 dX11_find_74 ?_
      refine lv_iload hx hb dX11_find_77 (lv_at hl 2 rfl) ?_
      obtain ⟨u4, eu4, hf⟩ := zb hf
      refine zr_lald hB hG eu4 dX11_find_79 ?_
      obtain ⟨h5, eh5, hf⟩ := zb hf
      refine zr_last hB hG eh5 dX11_find_80 (fun H locs hG => ?_)
      refine lv_aload_n hx hb dX11_find_81 rfl (lv_at hl 0 rfl) ?_
      obtain ⟨a6, ea6, hf⟩ := zb hf
      refine zr_getR hB hG zF_11 (by decide) kf_X11_84 ea6 dX11_find_82 ?_
      refine lv_iload hx hb dX11_find_85 (lv_at hl 2 rfl) ?_
      refine lv_aload_n hx hb dX11_find_87 rfl (lv_at hl 0 rfl) ?_
      obtain ⟨a7, ea7, hf⟩ := zb hf
      refine zr_getR hB hG zF_11 (by decide) kf_X11_45 ea7 dX11_find_88 ?_
      refine lv_iload hx hb dX11_find_91 (lv_at hl 2 rfl) ?_
      obtain ⟨u8, eu8, hf⟩ := zb hf
      refine zr_lald hB hG eu8 dX11_find_93 ?_
      obtain ⟨h9, eh9, hf⟩ := zb hf
      refine zr_last hB hG eh9 dX11_find_94 (fun H locs hG => ?_)
      refine lv_iinc (v := (x4 + (1 : Int32))) (lv' := [(4, .int (x4 + (1 : Int32))), (0, .ref x0), (2, .int x2)]) hx hb dX11_find_95 hl (k := 2) rfl rfl (by decide) rfl (fun ls hl => ?_)
      refine lv_goto (tgt := 58) hx hb dX11_find_98 (by decide) ?_
      exact ih _ _ _ h9 (x0) (x2) ((x4 + (1 : Int32))) hG (lv_sub hl [1, 2, 0] rfl) hf

set_option maxRecDepth 100000 in
set_option maxHeartbeats 4000000 in
theorem w_X11_find_0 {res : (Int32 × zh_H)} (hB : zc_B p s m args meth c cX11_find 5 RX11 (some .int) D K) : ∀ (H : Heap) (locs : List Loc) (ls : Array Slot) (h : zh_H) (x0 : Nat) (x1 : Int32) (x2 : Int32) (x3 : Int32), zh_G D K b0 N h s.heap H locs → lv_has ls 5 [(0, .ref x0), (1, .int x1), (2, .int x2), (3, .int x3)] → b_X11_find_0 h x0 x1 x2 x3 = some res → W p l e (zc_rm 2 0 0) s m args below meth c H locs 0 0 (MQ below (zc_Q D K b0 (zq (some (.int res.1)) N res.2)) args s 0 0 (fun q => b0 ≤ q)) (F0 m 0 ls []) := by
  have hx := hB.1
  have hb := hB.2.1
  intro H locs ls h x0 x1 x2 x3 hG hl hf
  unfold b_X11_find_0 at hf
  refine lv_aload_n hx hb dX11_find_0 rfl (lv_at hl 0 rfl) ?_
  refine lv_iload_n hx hb dX11_find_1 rfl (lv_at hl 1 rfl) ?_
  obtain ⟨o1, eo1, hf⟩ := zb hf
  obtain ⟨v3, h2, eh2, hf⟩ := zbp_s hf
  refine zr_callV (As := [.int x1]) kc_X11_156 hB hG (c_X11_isThere eh2) eo1 rfl hl.1 rfl ⟨by decide, by decide⟩ (Nat.le_of_ble_eq_true rfl) ⟨by decide, by decide⟩ dX11_find_2 (fun H locs hG => ?_)
  refine lv_if_eq (tgt := 15) hx hb dX11_find_5 (by decide) (fun hc17 => ?_) (fun hc17 => ?_)
  · rw [if_pos hc17] at hf
    exact w_X11_find_15 hB _ _ _ h2  hG (lv_sub hl [] rfl) hf
  · rw [if_neg hc17] at hf
    refine lv_iload_n hx hb dX11_find_8 rfl (lv_at hl 2 rfl) ?_
    obtain ⟨v5, h4, eh4, hf⟩ := zbp_s hf
    refine zr_callS (As := [.int x2]) kc_X11_196 hB hG (c_X11_isEdits eh4) rfl hl.1 rfl ⟨by decide, by decide⟩ (Nat.le_of_ble_eq_true rfl) ⟨by decide, by decide⟩ dX11_find_9 (fun H locs hG => ?_)
    refine lv_if_ne (tgt := 18) hx hb dX11_find_12 (by decide) (fun hc16 => ?_) (fun hc16 => ?_)
    · rw [if_neg hc16] at hf
      refine lv_aload_n hx hb dX11_find_18 rfl (lv_at hl 0 rfl) ?_
      refine lv_iload_n hx hb dX11_find_19 rfl (lv_at hl 1 rfl) ?_
      obtain ⟨o6, eo6, hf⟩ := zb hf
      obtain ⟨h7, eh7, hf⟩ := zb hf
      refine zr_callVv (As := [.int x1]) kc_X11_199 hB hG (c_X11_loadPattern eh7) eo6 rfl hl.1 rfl ⟨by decide, by decide⟩ (Nat.le_of_ble_eq_true rfl) ⟨by decide, by decide⟩ dX11_find_20 (fun H locs hG => ?_)
      refine lv_aload_n hx hb dX11_find_23 rfl (lv_at hl 0 rfl) ?_
      refine lv_iconst (v := 0) hx hb dX11_find_24 (by decide) ?_
      refine lv_aload_n hx hb dX11_find_25 rfl (lv_at hl 0 rfl) ?_
      obtain ⟨v8, ev8, hf⟩ := zb hf
      refine zr_getI hB hG zF_11 (by decide) kf_X11_162 ev8 dX11_find_26 ?_
      obtain ⟨o9, eo9, hf⟩ := zb hf
      obtain ⟨h10, eh10, hf⟩ := zb hf
      refine zr_callVv (As := [.int (0 : Int32), .int v8]) kc_X11_202 hB hG (c_X11_loadBytes eh10) eo9 rfl hl.1 rfl ⟨by decide, by decide⟩ (Nat.le_of_ble_eq_true rfl) ⟨by decide, by decide⟩ dX11_find_29 (fun H locs hG => ?_)
      refine lv_aload_n hx hb dX11_find_32 rfl (lv_at hl 0 rfl) ?_
      refine lv_iload_n hx hb dX11_find_33 rfl (lv_at hl 3 rfl) ?_
      obtain ⟨h11, eh11, hf⟩ := zb hf
      refine zr_putZ hB hG zF_11 (by decide) kf_X11_185 rfl rfl eh11 dX11_find_34 (fun H locs hG => ?_)
      refine lv_aload_n hx hb dX11_find_37 rfl (lv_at hl 0 rfl) ?_
      refine lv_iconst (v := 0) hx hb dX11_find_38 (by decide) ?_
      obtain ⟨h12, eh12, hf⟩ := zb hf
      refine zr_put hB hG zF_11 (by decide) kf_X11_205 rfl rfl rfl eh12 dX11_find_39 (fun H locs hG => ?_)
      refine lv_aload_n hx hb dX11_find_42 rfl (lv_at hl 0 rfl) ?_
      refine lv_iload_n hx hb dX11_find_43 rfl (lv_at hl 3 rfl) ?_
      obtain ⟨h13, eh13, hf⟩ := zb hf
      refine zr_putZ hB hG zF_11 (by decide) kf_X11_208 rfl rfl eh13 dX11_find_44 (fun H locs hG => ?_)
      refine lv_aload_n hx hb dX11_find_47 rfl (lv_at hl 0 rfl) ?_
      refine lv_aload_n hx hb dX11_find_48 rfl (lv_at hl 0 rfl) ?_
      obtain ⟨v14, ev14, hf⟩ := zb hf
      refine zr_getI hB hG zF_11 (by decide) kf_X11_172 ev14 dX11_find_49 ?_
      obtain ⟨h15, eh15, hf⟩ := zb hf
      refine zr_put hB hG zF_11 (by decide) kf_X11_211 rfl rfl rfl eh15 dX11_find_52 (fun H locs hG => ?_)
      refine lv_iconst (v := 0) hx hb dX11_find_55 (by decide) ?_
      refine lv_istore (lv' := [(4, .int (0 : Int32)), (0, .ref x0), (1, .int x1), (2, .int x2), (3, .int x3)]) hx hb dX11_find_56 hl (by decide) rfl (fun ls hl => ?_)
      exact w_X11_find_58 hB zFuel _ _ _ h15 (x0) (x2) ((0 : Int32)) hG (lv_sub hl [1, 3, 0] rfl) hf
    · rw [if_pos hc16] at hf
      exact w_X11_find_15 hB _ _ _ h4  hG (lv_sub hl [] rfl) hf
end G_X11_find
theorem c_X11_find {l : Launch} {D : va_G} {K : Nat → ClassId} {b0 N : Nat} {h : zh_H} {x0 : Nat} {x1 : Int32} {x2 : Int32} {x3 : Int32} {r : Int32} {h2 : zh_H} (hf : b_X11_find_0 h x0 x1 x2 x3 = some (r, h2)) : zc l yX11_find cX11_find 5 (some .int) 2 0 0 D K b0 N h [.ref x0, .int x1, .int x2, .int x3] (zq (some (.int r)) N h2) := by
  refine zc.of [(0, .ref x0), (1, .int x1), (2, .int x2), (3, .int x3)] (by decide) rfl (Nat.le_of_ble_eq_true rfl) ?_
  intro p e s m args below meth c hB hnm hG ls hl
  exact w_X11_find_0 (res := (r, h2)) hB _ _ ls h x0 x1 x2 x3 hG (lv_sub hl [0, 1, 2, 3] rfl) hf

