section G_X6_tighten
variable {p : Program} {l : Launch} {e : Env} {s : State} {m : MethodId} {args : Array Value} {below : List Frame} {meth : Method} {c : Code} {D : va_G} {K : Nat → ClassId} {b0 N : Nat}
set_option maxRecDepth 100000 in
set_option maxHeartbeats 4000000 in
theorem w_X6_tighten_0 {res : zh_H} (hB : zc_B p s m args meth c cX6_tighten 2 RX6 none D K) : ∀ (H : Heap) (locs : List Loc) (ls : Array Slot) (h : zh_H) (x0 : Nat) (x1 : Int32), zh_G D K b0 N h s.heap H locs → lv_has ls 2 [(0, .ref x0), (1, .int x1)] → b_X6_tighten_0 h x0 x1 = some res → W p l e (zc_rm 0 0 0) s m args below meth c H locs 0 0 (MQ below (zc_Q D K b0 (zq none N res)) args s 0 0 (fun q => b0 ≤ q)) (F0 m 0 ls []) := by
  have hx := hB.1
  have hb := hB.2.1
  intro H locs ls h x0 x1 hG hl hf
  unfold b_X6_tighten_0 at hf
  refine lv_aload_n hx hb dX6_tighten_0 rfl (lv_at hl 0 rfl) ?_
  refine lv_iload_n hx hb dX6_tighten_1 rfl (lv_at hl 1 rfl) ?_
  obtain ⟨h1, eh1, hf⟩ := zb hf
  refine zr_put hB hG zF_6 (by decide) kf_X6_46 rfl rfl rfl eh1 dX6_tighten_2 (fun H locs hG => ?_)
  obtain rfl := Option.some.inj hf
  exact zr_vret hB hG ⟨rfl, rfl, rfl⟩ dX6_tighten_5
end G_X6_tighten
theorem c_X6_tighten {l : Launch} {D : va_G} {K : Nat → ClassId} {b0 N : Nat} {h : zh_H} {x0 : Nat} {x1 : Int32} {h2 : zh_H} (hf : b_X6_tighten_0 h x0 x1 = some h2) : zc l yX6_tighten cX6_tighten 2 none 0 0 0 D K b0 N h [.ref x0, .int x1] (zq none N h2) := by
  refine zc.of [(0, .ref x0), (1, .int x1)] (by decide) rfl (Nat.le_of_ble_eq_true rfl) ?_
  intro p e s m args below meth c hB hnm hG ls hl
  exact w_X6_tighten_0 (res := h2) hB _ _ ls h x0 x1 hG (lv_sub hl [0, 1] rfl) hf

section G_X10_nearest
variable {p : Program} {l : Launch} {e : Env} {s : State} {m : MethodId} {args : Array Value} {below : List Frame} {meth : Method} {c : Code} {D : va_G} {K : Nat → ClassId} {b0 N : Nat}
set_option maxRecDepth 100000 in
set_option maxHeartbeats 4000000 in
theorem w_X10_nearest_17 {res : (Int32 × zh_H)} (hB : zc_B p s m args meth c cX10_nearest 7 RX10 (some .int) D K) : ∀ (H : Heap) (locs : List Loc) (ls : Array Slot) (h : zh_H), zh_G D K b0 N h s.heap H locs → lv_has ls 7 [] → b_X10_nearest_17 h  = some res → W p l e (zc_rm 3 0 0) s m args below meth c H locs 0 0 (MQ below (zc_Q D K b0 (zq (some (.int res.1)) N res.2)) args s 0 0 (fun q => b0 ≤ q)) (F0 m 17 ls []) := by
  have hx := hB.1
  have hb := hB.2.1
  intro H locs ls h  hG hl hf
  unfold b_X10_nearest_17 at hf
  refine lv_bipush (v := -2) hx hb dX10_nearest_17 (by decide) ?_
  obtain rfl := Option.some.inj hf
  exact zr_iret hB hG ⟨rfl, rfl, rfl⟩ dX10_nearest_19

set_option maxRecDepth 100000 in
set_option maxHeartbeats 4000000 in
theorem w_X10_nearest_129 {res : (Int32 × zh_H)} (hB : zc_B p s m args meth c cX10_nearest 7 RX10 (some .int) D K) {k60 : zh_H → Nat → Int32 → Int32 → Int32 → Int32 → Option (Int32 × zh_H)} (hk60 : ∀ (H : Heap) (locs : List Loc) (ls : Array Slot) (h : zh_H) (x0 : Nat) (x3 : Int32) (x4 : Int32) (x5 : Int32) (x6 : Int32), zh_G D K b0 N h s.heap H locs → lv_has ls 7 [(0, .ref x0), (3, .int x3), (4, .int x4), (5, .int x5), (6, .int x6)] → k60 h x0 x3 x4 x5 x6 = some res → W p l e (zc_rm 3 0 0) s m args below meth c H locs 0 0 (MQ below (zc_Q D K b0 (zq (some (.int res.1)) N res.2)) args s 0 0 (fun q => b0 ≤ q)) (F0 m 60 ls [])) : ∀ (H : Heap) (locs : List Loc) (ls : Array Slot) (h : zh_H) (x0 : Nat) (x3 : Int32) (x4 : Int32) (x5 : Int32) (x6 : Int32), zh_G D K b0 N h s.heap H locs → lv_has ls 7 [(0, .ref x0), (3, .int x3), (4, .int x4), (5, .int x5), (6, .int x6)] → b_X10_nearest_129 k60 h x0 x3 x4 x5 x6 = some res → W p l e (zc_rm 3 0 0) s m args below meth c H locs 0 0 (MQ below (zc_Q D K b0 (zq (some (.int res.1)) N res.2)) args s 0 0 (fun q => b0 ≤ q)) (F0 m 129 ls []) := by
  have hx := hB.1
  have hb := hB.2.1
  intro H locs ls h x0 x3 x4 x5 x6 hG hl hf
  unfold b_X10_nearest_129 at hf
  refine lv_iinc (v := (x6 + (1 : Int32))) (lv' := [(6, .int (x6 + (1 : Int32))), (0, .ref x0), (3, .int x3), (4, .int x4), (5, .int x5)]) hx hb dX10_nearest_129 hl (k := 4) rfl rfl (by decide) rfl (fun ls hl => ?_)
  refine lv_goto (tgt := 60) hx hb dX10_nearest_132 (by decide) ?_
  exact hk60 _ _ _ h (x0) (x3) (x4) (x5) ((x6 + (1 : Int32))) hG (lv_sub hl [1, 2, 3, 4, 0] rfl) hf

set_option maxRecDepth 100000 in
set_option maxHeartbeats 4000000 in
theorem w_X10_nearest_146 {res : (Int32 × zh_H)} (hB : zc_B p s m args meth c cX10_nearest 7 RX10 (some .int) D K) : ∀ (H : Heap) (locs : List Loc) (ls : Array Slot) (h : zh_H) (y0 : Int32), zh_G D K b0 N h s.heap H locs → lv_has ls 7 [] → b_X10_nearest_146 h y0 = some res → W p l e (zc_rm 3 0 0) s m args below meth c H locs 0 0 (MQ below (zc_Q D K b0 (zq (some (.int res.1)) N res.2)) args s 0 0 (fun q => b0 ≤ q)) (F0 m 146 ls [.int y0]) := by
  have hx := hB.1
  have hb := hB.2.1
  intro H locs ls h y0 hG hl hf
  unfold b_X10_nearest_146 at hf
  obtain rfl := Option.some.inj hf
  exact zr_iret hB hG ⟨rfl, rfl, rfl⟩ dX10_nearest_146

set_option maxRecDepth 100000 in
set_option maxHeartbeats 4000000 in
theorem w_X10_nearest_135 {res : (Int32 × zh_H)} (hB : zc_B p s m args meth c cX10_nearest 7 RX10 (some .int) D K) : ∀ (H : Heap) (locs : List Loc) (ls : Array Slot) (h : zh_H) (x3 : Int32) (x4 : Int32) (x5 : Int32), zh_G D K b0 N h s.heap H locs → lv_has ls 7 [(3, .int x3), (4, .int x4), (5, .int x5)] → b_X10_nearest_135 h x3 x4 x5 = some res → W p l e (zc_rm 3 0 0) s m args below meth c H locs 0 0 (MQ below (zc_Q D K b0 (zq (some (.int res.1)) N res.2)) args s 0 0 (fun q => b0 ≤ q)) (F0 m 135 ls []) := by
  have hx := hB.1
  have hb := hB.2.1
  intro H locs ls h x3 x4 x5 hG hl hf
  unfold b_X10_nearest_135 at hf
  refine lv_iload_n hx hb dX10_nearest_135 rfl (lv_at hl 0 rfl) ?_
  refine lv_if_ne (tgt := 144) hx hb dX10_nearest_136 (by decide) (fun hc1 => ?_) (fun hc1 => ?_)
  · rw [if_neg hc1] at hf
    refine lv_iload hx hb dX10_nearest_144 (lv_at hl 2 rfl) ?_
    exact w_X10_nearest_146 hB _ _ _ h (x5) hG (lv_sub hl [] rfl) hf
  · rw [if_pos hc1] at hf
    refine lv_iload hx hb dX10_nearest_139 (lv_at hl 1 rfl) ?_
    refine lv_goto (tgt := 146) hx hb dX10_nearest_141 (by decide) ?_
    exact w_X10_nearest_146 hB _ _ _ h (x4) hG (lv_sub hl [] rfl) hf

set_option maxRecDepth 100000 in
set_option maxHeartbeats 4000000 in
theorem w_X10_nearest_60 {res : (Int32 × zh_H)} (hB : zc_B p s m args meth c cX10_nearest 7 RX10 (some .int) D K) : ∀ n : Nat, ∀ (H : Heap) (locs : List Loc) (ls : Array Slot) (h : zh_H) (x0 : Nat) (x3 : Int32) (x4 : Int32) (x5 : Int32) (x6 : Int32), zh_G D K b0 N h s.heap H locs → lv_has ls 7 [(0, .ref x0), (3, .int x3), (4, .int x4), (5, .int x5), (6, .int x6)] → b_X10_nearest_60 n h x0 x3 x4 x5 x6 = some res → W p l e (zc_rm 3 0 0) s m args below meth c H locs 0 0 (MQ below (zc_Q D K b0 (zq (some (.int res.1)) N res.2)) args s 0 0 (fun q => b0 ≤ q)) (F0 m 60 ls []) := by
  have hx := hB.1
  have hb := hB.2.1
  intro n
  induction n with
  | zero =>
    intro H locs ls h x0 x3 x4 x5 x6 hG hl hf
    cases hf
  | succ n ih =>
    intro H locs ls h x0 x3 x4 x5 x6 hG hl hf
    unfold b_X10_nearest_60 at hf
    refine lv_iload hx hb dX10_nearest_60 (lv_at hl 4 rfl) ?_
    refine lv_aload_n hx hb dX10_nearest_62 rfl (lv_at hl 0 rfl) ?_
    obtain ⟨a1, ea1, hf⟩ := zb hf
    refine zr_getR hB hG zF_10 (by decide) kf_X10_18 ea1 dX10_nearest_63 ?_
    obtain ⟨v2, ev2, hf⟩ := zb hf
    refine zr_getI hB hG zF_0 (by decide) kf_X10_85 ev2 dX10_nearest_66 ?_
    refine lv_icmp_gt (tgt := 135) hx hb dX10_nearest_69 (by decide) (fun hc23 => ?_) (fun hc23 => ?_)
    · rw [if_pos hc23] at hf
      exact w_X10_nearest_135 hB _ _ _ h (x3) (x4) (x5) hG (lv_sub hl [1, 2, 3] rfl) hf
    · rw [if_neg hc23] at hf
      refine lv_iload hx hb dX10_nearest_72 (lv_at hl 2 rfl) ?_
      refine lv_if_eq (tgt := 135) hx hb dX10_nearest_74 (by decide) (fun hc22 => ?_) (fun hc22 => ?_)
      · rw [if_pos hc22] at hf
        exact w_X10_nearest_135 hB _ _ _ h (x3) (x4) (x5) hG (lv_sub hl [1, 2, 3] rfl) hf
      · rw [if_neg hc22] at hf
        refine lv_aload_n hx hb dX10_nearest_77 rfl (lv_at hl 0 rfl) ?_
        obtain ⟨a3, ea3, hf⟩ := zb hf
        refine zr_getR hB hG zF_10 (by decide) kf_X10_52 ea3 dX10_nearest_78 ?_
        refine lv_aload_n hx hb dX10_nearest_81 rfl (lv_at hl 0 rfl) ?_
        obtain ⟨a4, ea4, hf⟩ := zb hf
        refine zr_getR hB hG zF_10 (by decide) kf_X10_18 ea4 dX10_nearest_82 ?_
        refine lv_iload hx hb dX10_nearest_85 (lv_at hl 4 rfl) ?_
        refine lv_iconst (v := 1) hx hb dX10_nearest_87 (by decide) ?_
        refine lv_isub hx hb dX10_nearest_88 ?_
        obtain ⟨o5, eo5, hf⟩ := zb hf
        obtain ⟨v7, h6, eh6, hf⟩ := zbp_s hf
        refine zr_callV (As := [.int (x6 - (1 : Int32))]) kc_X10_138 hB hG (c_X0_get eh6) eo5 rfl hl.1 rfl ⟨by decide, by decide⟩ (Nat.le_of_ble_eq_true rfl) ⟨by decide, by decide⟩ dX10_nearest_89 (fun H locs hG => ?_)
        obtain ⟨o8, eo8, hf⟩ := zb hf
        obtain ⟨h9, eh9, hf⟩ := zb hf
        refine zr_callVv (As := [.int v7]) kc_X10_156 hB hG (c_X6_feed eh9) eo8 rfl hl.1 rfl ⟨by decide, by decide⟩ (Nat.le_of_ble_eq_true rfl) ⟨by decide, by decide⟩ dX10_nearest_92 (fun H locs hG => ?_)
        refine lv_aload_n hx hb dX10_nearest_95 rfl (lv_at hl 0 rfl) ?_
        obtain ⟨a10, ea10, hf⟩ := zb hf
        refine zr_getR hB hG zF_10 (by decide) kf_X10_52 ea10 dX10_nearest_96 ?_
        obtain ⟨o11, eo11, hf⟩ := zb hf
        obtain ⟨v13, h12, eh12, hf⟩ := zbp_s hf
        refine zr_callV (As := []) kc_X10_159 hB hG (c_X6_isHit eh12) eo11 rfl hl.1 rfl ⟨by decide, by decide⟩ (Nat.le_of_ble_eq_true rfl) ⟨by decide, by decide⟩ dX10_nearest_99 (fun H locs hG => ?_)
        refine lv_if_eq (tgt := 129) hx hb dX10_nearest_102 (by decide) (fun hc21 => ?_) (fun hc21 => ?_)
        · rw [if_pos hc21] at hf
          exact w_X10_nearest_129 hB ih _ _ _ h12 (x0) (x3) (x4) (x5) (x6) hG (lv_sub hl [0, 1, 2, 3, 4] rfl) hf
        · rw [if_neg hc21] at hf
          refine lv_aload_n hx hb dX10_nearest_105 rfl (lv_at hl 0 rfl) ?_
          obtain ⟨a14, ea14, hf⟩ := zb hf
          refine zr_getR hB hG zF_10 (by decide) kf_X10_52 ea14 dX10_nearest_106 ?_
          obtain ⟨o15, eo15, hf⟩ := zb hf
          obtain ⟨v17, h16, eh16, hf⟩ := zbp_s hf
          refine zr_callV (As := []) kc_X10_163 hB hG (c_X6_edits eh16) eo15 rfl hl.1 rfl ⟨by decide, by decide⟩ (Nat.le_of_ble_eq_true rfl) ⟨by decide, by decide⟩ dX10_nearest_109 (fun H locs hG => ?_)
          refine lv_istore (lv' := [(4, .int v17), (0, .ref x0), (3, .int x3), (5, .int x5), (6, .int x6)]) hx hb dX10_nearest_112 hl (by decide) rfl (fun ls hl => ?_)
          refine lv_iload hx hb dX10_nearest_114 (lv_at hl 4 rfl) ?_
          refine lv_istore (lv' := [(5, .int x6), (4, .int v17), (0, .ref x0), (3, .int x3), (6, .int x6)]) hx hb dX10_nearest_116 hl (by decide) rfl (fun ls hl => ?_)
          refine lv_aload_n hx hb dX10_nearest_118 rfl (lv_at hl 2 rfl) ?_
          obtain ⟨a18, ea18, hf⟩ := zb hf
          refine zr_getR hB hG zF_10 (by decide) kf_X10_52 ea18 dX10_nearest_119 ?_
          refine lv_iload hx hb dX10_nearest_122 (lv_at hl 1 rfl) ?_
          refine lv_iconst (v := 1) hx hb dX10_nearest_124 (by decide) ?_
          refine lv_isub hx hb dX10_nearest_125 ?_
          obtain ⟨o19, eo19, hf⟩ := zb hf
          obtain ⟨h20, eh20, hf⟩ := zb hf
          refine zr_callVv (As := [.int (v17 - (1 : Int32))]) kc_X10_197 hB hG (c_X6_tighten eh20) eo19 rfl hl.1 rfl ⟨by decide, by decide⟩ (Nat.le_of_ble_eq_true rfl) ⟨by decide, by decide⟩ dX10_nearest_126 (fun H locs hG => ?_)
          exact w_X10_nearest_129 hB ih _ _ _ h20 (x0) (x3) (v17) (x6) (x6) hG (lv_sub hl [2, 3, 1, 0, 4] rfl) hf

set_option maxRecDepth 100000 in
set_option maxHeartbeats 4000000 in
theorem w_X10_nearest_0 {res : (Int32 × zh_H)} (hB : zc_B p s m args meth c cX10_nearest 7 RX10 (some .int) D K) : ∀ (H : Heap) (locs : List Loc) (ls : Array Slot) (h : zh_H) (x0 : Nat) (x1 : Int32) (x2 : Int32) (x3 : Int32), zh_G D K b0 N h s.heap H locs → lv_has ls 7 [(0, .ref x0), (1, .int x1), (2, .int x2), (3, .int x3)] → b_X10_nearest_0 h x0 x1 x2 x3 = some res → W p l e (zc_rm 3 0 0) s m args below meth c H locs 0 0 (MQ below (zc_Q D K b0 (zq (some (.int res.1)) N res.2)) args s 0 0 (fun q => b0 ≤ q)) (F0 m 0 ls []) := by
  have hx := hB.1
  have hb := hB.2.1
  intro H locs ls h x0 x1 x2 x3 hG hl hf
  unfold b_X10_nearest_0 at hf
  refine lv_aload_n hx hb dX10_nearest_0 rfl (lv_at hl 0 rfl) ?_
  refine lv_iload_n hx hb dX10_nearest_1 rfl (lv_at hl 1 rfl) ?_
  obtain ⟨o1, eo1, hf⟩ := zb hf
  obtain ⟨v3, h2, eh2, hf⟩ := zbp_s hf
  refine zr_callV (As := [.int x1]) kc_X10_113 hB hG (c_X10_isPattern eh2) eo1 rfl hl.1 rfl ⟨by decide, by decide⟩ (Nat.le_of_ble_eq_true rfl) ⟨by decide, by decide⟩ dX10_nearest_2 (fun H locs hG => ?_)
  refine lv_if_eq (tgt := 17) hx hb dX10_nearest_5 (by decide) (fun hc17 => ?_) (fun hc17 => ?_)
  · rw [if_pos hc17] at hf
    exact w_X10_nearest_17 hB _ _ _ h2  hG (lv_sub hl [] rfl) hf
  · rw [if_neg hc17] at hf
    refine lv_iload_n hx hb dX10_nearest_8 rfl (lv_at hl 3 rfl) ?_
    refine lv_if_lt (tgt := 17) hx hb dX10_nearest_9 (by decide) (fun hc16 => ?_) (fun hc16 => ?_)
    · rw [if_pos hc16] at hf
      exact w_X10_nearest_17 hB _ _ _ h2  hG (lv_sub hl [] rfl) hf
    · rw [if_neg hc16] at hf
      refine lv_iload_n hx hb dX10_nearest_12 rfl (lv_at hl 3 rfl) ?_
      refine lv_iconst (v := 1) hx hb dX10_nearest_13 (by decide) ?_
      refine lv_icmp_le (tgt := 20) hx hb dX10_nearest_14 (by decide) (fun hc15 => ?_) (fun hc15 => ?_)
      · rw [if_pos hc15] at hf
        refine lv_aload_n hx hb dX10_nearest_20 rfl (lv_at hl 0 rfl) ?_
        obtain ⟨a4, ea4, hf⟩ := zb hf
        refine zr_getR hB hG zF_10 (by decide) kf_X10_52 ea4 dX10_nearest_21 ?_
        refine lv_aload_n hx hb dX10_nearest_24 rfl (lv_at hl 0 rfl) ?_
        obtain ⟨a5, ea5, hf⟩ := zb hf
        refine zr_getR hB hG zF_10 (by decide) kf_X10_33 ea5 dX10_nearest_25 ?_
        refine lv_iload_n hx hb dX10_nearest_28 rfl (lv_at hl 1 rfl) ?_
        obtain ⟨a6, ea6, hf⟩ := zb hf
        refine zr_aald ⟨_, rfl⟩ hB hG ea6 dX10_nearest_29 ?_
        refine lv_aload_n hx hb dX10_nearest_30 rfl (lv_at hl 0 rfl) ?_
        obtain ⟨a7, ea7, hf⟩ := zb hf
        refine zr_getR hB hG zF_10 (by decide) kf_X10_33 ea7 dX10_nearest_31 ?_
        refine lv_iload_n hx hb dX10_nearest_34 rfl (lv_at hl 1 rfl) ?_
        obtain ⟨a8, ea8, hf⟩ := zb hf
        refine zr_aald ⟨_, rfl⟩ hB hG ea8 dX10_nearest_35 ?_
        obtain ⟨v9, ev9, hf⟩ := zb hf
        refine zr_getI hB hG zF_7 (by decide) kf_X10_109 ev9 dX10_nearest_36 ?_
        refine lv_iload_n hx hb dX10_nearest_39 rfl (lv_at hl 2 rfl) ?_
        obtain ⟨o10, eo10, hf⟩ := zb hf
        obtain ⟨h11, eh11, hf⟩ := zb hf
        refine zr_callVv (As := [.ref a6, .int v9, .int x2]) kc_X10_149 hB hG (c_X6_aim eh11) eo10 rfl hl.1 rfl ⟨by decide, by decide⟩ (Nat.le_of_ble_eq_true rfl) ⟨by decide, by decide⟩ dX10_nearest_40 (fun H locs hG => ?_)
        refine lv_aload_n hx hb dX10_nearest_43 rfl (lv_at hl 0 rfl) ?_
        obtain ⟨a12, ea12, hf⟩ := zb hf
        refine zr_getR hB hG zF_10 (by decide) kf_X10_52 ea12 dX10_nearest_44 ?_
        refine lv_iconst (v := 0) hx hb dX10_nearest_47 (by decide) ?_
        obtain ⟨o13, eo13, hf⟩ := zb hf
        obtain ⟨h14, eh14, hf⟩ := zb hf
        refine zr_callVv (As := [.int (0 : Int32)]) kc_X10_153 hB hG (c_X6_restart eh14) eo13 rfl hl.1 rfl ⟨by decide, by decide⟩ (Nat.le_of_ble_eq_true rfl) ⟨by decide, by decide⟩ dX10_nearest_48 (fun H locs hG => ?_)
        refine lv_iconst (v := -1) hx hb dX10_nearest_51 (by decide) ?_
        refine lv_istore (lv' := [(4, .int (-1 : Int32)), (0, .ref x0), (1, .int x1), (2, .int x2), (3, .int x3)]) hx hb dX10_nearest_52 hl (by decide) rfl (fun ls hl => ?_)
        refine lv_iconst (v := -1) hx hb dX10_nearest_54 (by decide) ?_
        refine lv_istore (lv' := [(5, .int (-1 : Int32)), (4, .int (-1 : Int32)), (0, .ref x0), (1, .int x1), (2, .int x2), (3, .int x3)]) hx hb dX10_nearest_55 hl (by decide) rfl (fun ls hl => ?_)
        refine lv_iconst (v := 1) hx hb dX10_nearest_57 (by decide) ?_
        refine lv_istore (lv' := [(6, .int (1 : Int32)), (5, .int (-1 : Int32)), (4, .int (-1 : Int32)), (0, .ref x0), (1, .int x1), (2, .int x2), (3, .int x3)]) hx hb dX10_nearest_58 hl (by decide) rfl (fun ls hl => ?_)
        exact w_X10_nearest_60 hB zFuel _ _ _ h14 (x0) (x3) ((-1 : Int32)) ((-1 : Int32)) ((1 : Int32)) hG (lv_sub hl [3, 6, 2, 1, 0] rfl) hf
      · rw [if_neg hc15] at hf
        exact w_X10_nearest_17 hB _ _ _ h2  hG (lv_sub hl [] rfl) hf
end G_X10_nearest
theorem c_X10_nearest {l : Launch} {D : va_G} {K : Nat → ClassId} {b0 N : Nat} {h : zh_H} {x0 : Nat} {x1 : Int32} {x2 : Int32} {x3 : Int32} {r : Int32} {h2 : zh_H} (hf : b_X10_nearest_0 h x0 x1 x2 x3 = some (r, h2)) : zc l yX10_nearest cX10_nearest 7 (some .int) 3 0 0 D K b0 N h [.ref x0, .int x1, .int x2, .int x3] (zq (some (.int r)) N h2) := by
  refine zc.of [(0, .ref x0), (1, .int x1), (2, .int x2), (3, .int x3)] (by decide) rfl (Nat.le_of_ble_eq_true rfl) ?_
  intro p e s m args below meth c hB hnm hG ls hl
  exact w_X10_nearest_0 (res := (r, h2)) hB _ _ ls h x0 x1 x2 x3 hG (lv_sub hl [0, 1, 2, 3] rfl) hf

section G_X4_fail
variable {p : Program} {l : Launch} {e : Env} {s : State} {m : MethodId} {args : Array Value} {below : List Frame} {meth : Method} {c : Code} {D : va_G} {K : Nat → ClassId} {b0 N : Nat}
set_option maxRecDepth 100000 in
set_option maxHeartbeats 4000000 in
theorem w_X4_fail_17 {res : zh_H} (hB : zc_B p s m args meth c cX4_fail 3 RX4 none D K) : ∀ (H : Heap) (locs : List Loc) (ls : Array Slot) (h : zh_H), zh_G D K b0 N h s.heap H locs → lv_has ls 3 [] → b_X4_fail_17 h  = some res → W p l e (zc_rm 0 0 0) s m args below meth c H locs 0 0 (MQ below (zc_Q D K b0 (zq none N res)) args s 0 0 (fun q => b0 ≤ q)) (F0 m 17 ls []) := by
  have hx := hB.1
  have hb := hB.2.1
  intro H locs ls h  hG hl hf
  unfold b_X4_fail_17 at hf
  obtain rfl := Option.some.inj hf
  exact zr_vret hB hG ⟨rfl, rfl, rfl⟩ dX4_fail_17

set_option maxRecDepth 100000 in
set_option maxHeartbeats 4000000 in
theorem w_X4_fail_0 {res : zh_H} (hB : zc_B p s m args meth c cX4_fail 3 RX4 none D K) : ∀ (H : Heap) (locs : List Loc) (ls : Array Slot) (h : zh_H) (x0 : Nat) (x1 : Int32) (x2 : Int32), zh_G D K b0 N h s.heap H locs → lv_has ls 3 [(0, .ref x0), (1, .int x1), (2, .int x2)] → b_X4_fail_0 h x0 x1 x2 = some res → W p l e (zc_rm 0 0 0) s m args below meth c H locs 0 0 (MQ below (zc_Q D K b0 (zq none N res)) args s 0 0 (fun q => b0 ≤ q)) (F0 m 0 ls []) := by
  have hx := hB.1
  have hb := hB.2.1
  intro H locs ls h x0 x1 x2 hG hl hf
  unfold b_X4_fail_0 at hf
  refine lv_aload_n hx hb dX4_fail_0 rfl (lv_at hl 0 rfl) ?_
  obtain ⟨v1, ev1, hf⟩ := zb hf
  refine zr_getI hB hG zF_4 (by decide) kf_X4_34 ev1 dX4_fail_1 ?_
  refine lv_if_ne (tgt := 17) hx hb dX4_fail_4 (by decide) (fun hc4 => ?_) (fun hc4 => ?_)
  · rw [if_neg hc4] at hf
    exact w_X4_fail_17 hB _ _ _ h  hG (lv_sub hl [] rfl) hf
  · rw [if_pos hc4] at hf
    refine lv_aload_n hx hb dX4_fail_7 rfl (lv_at hl 0 rfl) ?_
    refine lv_iload_n hx hb dX4_fail_8 rfl (lv_at hl 1 rfl) ?_
    obtain ⟨h2, eh2, hf⟩ := zb hf
    refine zr_put hB hG zF_4 (by decide) kf_X4_34 rfl rfl rfl eh2 dX4_fail_9 (fun H locs hG => ?_)
    refine lv_aload_n hx hb dX4_fail_12 rfl (lv_at hl 0 rfl) ?_
    refine lv_iload_n hx hb dX4_fail_13 rfl (lv_at hl 2 rfl) ?_
    obtain ⟨h3, eh3, hf⟩ := zb hf
    refine zr_put hB hG zF_4 (by decide) kf_X4_27 rfl rfl rfl eh3 dX4_fail_14 (fun H locs hG => ?_)
    exact w_X4_fail_17 hB _ _ _ h3  hG (lv_sub hl [] rfl) hf
end G_X4_fail
theorem c_X4_fail {l : Launch} {D : va_G} {K : Nat → ClassId} {b0 N : Nat} {h : zh_H} {x0 : Nat} {x1 : Int32} {x2 : Int32} {h2 : zh_H} (hf : b_X4_fail_0 h x0 x1 x2 = some h2) : zc l yX4_fail cX4_fail 3 none 0 0 0 D K b0 N h [.ref x0, .int x1, .int x2] (zq none N h2) := by
  refine zc.of [(0, .ref x0), (1, .int x1), (2, .int x2)] (by decide) rfl (Nat.le_of_ble_eq_true rfl) ?_
  intro p e s m args below meth c hB hnm hG ls hl
  exact w_X4_fail_0 (res := h2) hB _ _ ls h x0 x1 x2 hG (lv_sub hl [0, 1, 2] rfl) hf

section G_X4_takeByte
variable {p : Program} {l : Launch} {e : Env} {s : State} {m : MethodId} {args : Array Value} {below : List Frame} {meth : Method} {c : Code} {D : va_G} {K : Nat → ClassId} {b0 N : Nat}
set_option maxRecDepth 100000 in
set_option maxHeartbeats 4000000 in
theorem w_X4_takeByte_55 {res : (Int32 × zh_H)} (hB : zc_B p s m args meth c cX4_takeByte 2 RX4 (some .int) D K) : ∀ (H : Heap) (locs : List Loc) (ls : Array Slot) (h : zh_H) (x0 : Nat) (x1 : Int32), zh_G D K b0 N h s.heap H locs → lv_has ls 2 [(0, .ref x0), (1, .int x1)] → b_X4_takeByte_55 h x0 x1 = some res → W p l e (zc_rm 1 0 0) s m args below meth c H locs 0 0 (MQ below (zc_Q D K b0 (zq (some (.int res.1)) N res.2)) args s 0 0 (fun q => b0 ≤ q)) (F0 m 55 ls []) := by
  have hx := hB.1
  have hb := hB.2.1
  intro H locs ls h x0 x1 hG hl hf
  unfold b_X4_takeByte_55 at hf
  refine lv_aload_n hx hb dX4_takeByte_55 rfl (lv_at hl 0 rfl) ?_
  refine lv_dup hx hb dX4_takeByte_56 rfl ?_
  obtain ⟨v1, ev1, hf⟩ := zb hf
  refine zr_getI hB hG zF_4 (by decide) kf_X4_31 ev1 dX4_takeByte_57 ?_
  refine lv_iconst (v := 1) hx hb dX4_takeByte_60 (by decide) ?_
  refine lv_iadd hx hb dX4_takeByte_61 ?_
  obtain ⟨h2, eh2, hf⟩ := zb hf
  refine zr_put hB hG zF_4 (by decide) kf_X4_31 rfl rfl rfl eh2 dX4_takeByte_62 (fun H locs hG => ?_)
  refine lv_iload_n hx hb dX4_takeByte_65 rfl (lv_at hl 1 rfl) ?_
  obtain rfl := Option.some.inj hf
  exact zr_iret hB hG ⟨rfl, rfl, rfl⟩ dX4_takeByte_66

set_option maxRecDepth 100000 in
set_option maxHeartbeats 4000000 in
theorem w_X4_takeByte_26 {res : (Int32 × zh_H)} (hB : zc_B p s m args meth c cX4_takeByte 2 RX4 (some .int) D K) : ∀ (H : Heap) (locs : List Loc) (ls : Array Slot) (h : zh_H) (x0 : Nat), zh_G D K b0 N h s.heap H locs → lv_has ls 2 [(0, .ref x0)] → b_X4_takeByte_26 h x0 = some res → W p l e (zc_rm 1 0 0) s m args below meth c H locs 0 0 (MQ below (zc_Q D K b0 (zq (some (.int res.1)) N res.2)) args s 0 0 (fun q => b0 ≤ q)) (F0 m 26 ls []) := by
  have hx := hB.1
  have hb := hB.2.1
  intro H locs ls h x0 hG hl hf
  unfold b_X4_takeByte_26 at hf
  refine lv_aload_n hx hb dX4_takeByte_26 rfl (lv_at hl 0 rfl) ?_
  obtain ⟨a1, ea1, hf⟩ := zb hf
  refine zr_getR hB hG zF_4 (by decide) kf_X4_14 ea1 dX4_takeByte_27 ?_
  refine lv_aload_n hx hb dX4_takeByte_30 rfl (lv_at hl 0 rfl) ?_
  obtain ⟨v2, ev2, hf⟩ := zb hf
  refine zr_getI hB hG zF_4 (by decide) kf_X4_31 ev2 dX4_takeByte_31 ?_
  obtain ⟨o3, eo3, hf⟩ := zb hf
  obtain ⟨v5, h4, eh4, hf⟩ := zbp_s hf
  refine zr_callV (As := [.int v2]) kc_X4_50 hB hG (c_X0_get eh4) eo3 rfl hl.1 rfl ⟨by decide, by decide⟩ (Nat.le_of_ble_eq_true rfl) ⟨by decide, by decide⟩ dX4_takeByte_34 (fun H locs hG => ?_)
  refine lv_istore_n (lv' := [(1, .int v5), (0, .ref x0)]) hx hb dX4_takeByte_37 rfl hl (by decide) rfl (fun ls hl => ?_)
  refine lv_iload_n hx hb dX4_takeByte_38 rfl (lv_at hl 0 rfl) ?_
  refine lv_iconst (v := -1) hx hb dX4_takeByte_39 (by decide) ?_
  refine lv_icmp_ne (tgt := 55) hx hb dX4_takeByte_40 (by decide) (fun hc10 => ?_) (fun hc10 => ?_)
  · rw [if_neg hc10] at hf
    exact w_X4_takeByte_55 hB _ _ _ h4 (x0) (v5) hG (lv_sub hl [1, 0] rfl) hf
  · rw [if_pos hc10] at hf
    refine lv_aload_n hx hb dX4_takeByte_43 rfl (lv_at hl 1 rfl) ?_
    refine lv_iconst (v := 3) hx hb dX4_takeByte_44 (by decide) ?_
    refine lv_aload_n hx hb dX4_takeByte_45 rfl (lv_at hl 1 rfl) ?_
    obtain ⟨a6, ea6, hf⟩ := zb hf
    refine zr_getR hB hG zF_4 (by decide) kf_X4_14 ea6 dX4_takeByte_46 ?_
    obtain ⟨v7, ev7, hf⟩ := zb hf
    refine zr_getI hB hG zF_0 (by decide) kf_X4_40 ev7 dX4_takeByte_49 ?_
    obtain ⟨o8, eo8, hf⟩ := zb hf
    obtain ⟨h9, eh9, hf⟩ := zb hf
    refine zr_callVv (As := [.int (3 : Int32), .int v7]) kc_X4_43 hB hG (c_X4_fail eh9) eo8 rfl hl.1 rfl ⟨by decide, by decide⟩ (Nat.le_of_ble_eq_true rfl) ⟨by decide, by decide⟩ dX4_takeByte_52 (fun H locs hG => ?_)
    exact w_X4_takeByte_55 hB _ _ _ h9 (x0) (v5) hG (lv_sub hl [1, 0] rfl) hf

set_option maxRecDepth 100000 in
set_option maxHeartbeats 4000000 in
theorem w_X4_takeByte_0 {res : (Int32 × zh_H)} (hB : zc_B p s m args meth c cX4_takeByte 2 RX4 (some .int) D K) : ∀ (H : Heap) (locs : List Loc) (ls : Array Slot) (h : zh_H) (x0 : Nat), zh_G D K b0 N h s.heap H locs → lv_has ls 2 [(0, .ref x0)] → b_X4_takeByte_0 h x0 = some res → W p l e (zc_rm 1 0 0) s m args below meth c H locs 0 0 (MQ below (zc_Q D K b0 (zq (some (.int res.1)) N res.2)) args s 0 0 (fun q => b0 ≤ q)) (F0 m 0 ls []) := by
  have hx := hB.1
  have hb := hB.2.1
  intro H locs ls h x0 hG hl hf
  unfold b_X4_takeByte_0 at hf
  refine lv_aload_n hx hb dX4_takeByte_0 rfl (lv_at hl 0 rfl) ?_
  obtain ⟨a1, ea1, hf⟩ := zb hf
  refine zr_getR hB hG zF_4 (by decide) kf_X4_14 ea1 dX4_takeByte_1 ?_
  refine lv_aload_n hx hb dX4_takeByte_4 rfl (lv_at hl 0 rfl) ?_
  obtain ⟨v2, ev2, hf⟩ := zb hf
  refine zr_getI hB hG zF_4 (by decide) kf_X4_31 ev2 dX4_takeByte_5 ?_
  obtain ⟨o3, eo3, hf⟩ := zb hf
  obtain ⟨v5, h4, eh4, hf⟩ := zbp_s hf
  refine zr_callV (As := [.int v2]) kc_X4_50 hB hG (c_X0_get eh4) eo3 rfl hl.1 rfl ⟨by decide, by decide⟩ (Nat.le_of_ble_eq_true rfl) ⟨by decide, by decide⟩ dX4_takeByte_8 (fun H locs hG => ?_)
  refine lv_bipush (v := 92) hx hb dX4_takeByte_11 (by decide) ?_
  refine lv_icmp_ne (tgt := 26) hx hb dX4_takeByte_13 (by decide) (fun hc8 => ?_) (fun hc8 => ?_)
  · rw [if_neg hc8] at hf
    exact w_X4_takeByte_26 hB _ _ _ h4 (x0) hG (lv_sub hl [0] rfl) hf
  · rw [if_pos hc8] at hf
    refine lv_aload_n hx hb dX4_takeByte_16 rfl (lv_at hl 0 rfl) ?_
    refine lv_dup hx hb dX4_takeByte_17 rfl ?_
    obtain ⟨v6, ev6, hf⟩ := zb hf
    refine zr_getI hB hG zF_4 (by decide) kf_X4_31 ev6 dX4_takeByte_18 ?_
    refine lv_iconst (v := 1) hx hb dX4_takeByte_21 (by decide) ?_
    refine lv_iadd hx hb dX4_takeByte_22 ?_
    obtain ⟨h7, eh7, hf⟩ := zb hf
    refine zr_put hB hG zF_4 (by decide) kf_X4_31 rfl rfl rfl eh7 dX4_takeByte_23 (fun H locs hG => ?_)
    exact w_X4_takeByte_26 hB _ _ _ h7 (x0) hG (lv_sub hl [0] rfl) hf
end G_X4_takeByte
theorem c_X4_takeByte {l : Launch} {D : va_G} {K : Nat → ClassId} {b0 N : Nat} {h : zh_H} {x0 : Nat} {r : Int32} {h2 : zh_H} (hf : b_X4_takeByte_0 h x0 = some (r, h2)) : zc l yX4_takeByte cX4_takeByte 2 (some .int) 1 0 0 D K b0 N h [.ref x0] (zq (some (.int r)) N h2) := by
  refine zc.of [(0, .ref x0)] (by decide) rfl (Nat.le_of_ble_eq_true rfl) ?_
  intro p e s m args below meth c hB hnm hG ls hl
  exact w_X4_takeByte_0 (res := (r, h2)) hB _ _ ls h x0 hG (lv_sub hl [0] rfl) hf

section G_X4_addRange
variable {p : Program} {l : Launch} {e : Env} {s : State} {m : MethodId} {args : Array Value} {below : List Frame} {meth : Method} {c : Code} {D : va_G} {K : Nat → ClassId} {b0 N : Nat}
set_option maxRecDepth 100000 in
set_option maxHeartbeats 4000000 in
theorem w_X4_addRange_57 {res : zh_H} (hB : zc_B p s m args meth c cX4_addRange 4 RX4 none D K) {k6 : zh_H → Nat → Int32 → Int32 → Option zh_H} (hk6 : ∀ (H : Heap) (locs : List Loc) (ls : Array Slot) (h : zh_H) (x0 : Nat) (x2 : Int32) (x3 : Int32), zh_G D K b0 N h s.heap H locs → lv_has ls 4 [(0, .ref x0), (2, .int x2), (3, .int x3)] → k6 h x0 x2 x3 = some res → W p l e (zc_rm 1 0 0) s m args below meth c H locs 0 0 (MQ below (zc_Q D K b0 (zq none N res)) args s 0 0 (fun q => b0 ≤ q)) (F0 m 6 ls [])) : ∀ (H : Heap) (locs : List Loc) (ls : Array Slot) (h : zh_H) (x0 : Nat) (x2 : Int32) (x3 : Int32), zh_G D K b0 N h s.heap H locs → lv_has ls 4 [(0, .ref x0), (2, .int x2), (3, .int x3)] → b_X4_addRange_57 k6 h x0 x2 x3 = some res → W p l e (zc_rm 1 0 0) s m args below meth c H locs 0 0 (MQ below (zc_Q D K b0 (zq none N res)) args s 0 0 (fun q => b0 ≤ q)) (F0 m 57 ls []) := by
  have hx := hB.1
  have hb := hB.2.1
  intro H locs ls h x0 x2 x3 hG hl hf
  unfold b_X4_addRange_57 at hf
  refine lv_iinc (v := (x3 + (1 : Int32))) (lv' := [(3, .int (x3 + (1 : Int32))), (0, .ref x0), (2, .int x2)]) hx hb dX4_addRange_57 hl (k := 2) rfl rfl (by decide) rfl (fun ls hl => ?_)
  refine lv_goto (tgt := 6) hx hb dX4_addRange_60 (by decide) ?_
  exact hk6 _ _ _ h (x0) (x2) ((x3 + (1 : Int32))) hG (lv_sub hl [1, 2, 0] rfl) hf

set_option maxRecDepth 100000 in
set_option maxHeartbeats 4000000 in
theorem w_X4_addRange_63 {res : zh_H} (hB : zc_B p s m args meth c cX4_addRange 4 RX4 none D K) : ∀ (H : Heap) (locs : List Loc) (ls : Array Slot) (h : zh_H), zh_G D K b0 N h s.heap H locs → lv_has ls 4 [] → b_X4_addRange_63 h  = some res → W p l e (zc_rm 1 0 0) s m args below meth c H locs 0 0 (MQ below (zc_Q D K b0 (zq none N res)) args s 0 0 (fun q => b0 ≤ q)) (F0 m 63 ls []) := by
  have hx := hB.1
  have hb := hB.2.1
  intro H locs ls h  hG hl hf
  unfold b_X4_addRange_63 at hf
  obtain rfl := Option.some.inj hf
  exact zr_vret hB hG ⟨rfl, rfl, rfl⟩ dX4_addRange_63

set_option maxRecDepth 100000 in
set_option maxHeartbeats 4000000 in
theorem w_X4_addRange_6 {res : zh_H} (hB : zc_B p s m args meth c cX4_addRange 4 RX4 none D K) : ∀ n : Nat, ∀ (H : Heap) (locs : List Loc) (ls : Array Slot) (h : zh_H) (x0 : Nat) (x2 : Int32) (x3 : Int32), zh_G D K b0 N h s.heap H locs → lv_has ls 4 [(0, .ref x0), (2, .int x2), (3, .int x3)] → b_X4_addRange_6 n h x0 x2 x3 = some res → W p l e (zc_rm 1 0 0) s m args below meth c H locs 0 0 (MQ below (zc_Q D K b0 (zq none N res)) args s 0 0 (fun q => b0 ≤ q)) (F0 m 6 ls []) := by
  have hx := hB.1
  have hb := hB.2.1
  intro n
  induction n with
  | zero =>
    intro H locs ls h x0 x2 x3 hG hl hf
    cases hf
  | succ n ih =>
    intro H locs ls h x0 x2 x3 hG hl hf
    unfold b_X4_addRange_6 at hf
    refine lv_iload_n hx hb dX4_addRange_6 rfl (lv_at hl 2 rfl) ?_
    refine lv_iload_n hx hb dX4_addRange_7 rfl (lv_at hl 1 rfl) ?_
    refine lv_icmp_gt (tgt := 63) hx hb dX4_addRange_8 (by decide) (fun hc10 => ?_) (fun hc10 => ?_)
    · rw [if_pos hc10] at hf
      exact w_X4_addRange_63 hB _ _ _ h  hG (lv_sub hl [] rfl) hf
    · rw [if_neg hc10] at hf
      refine lv_iload_n hx hb dX4_addRange_11 rfl (lv_at hl 2 rfl) ?_
      refine lv_bipush (v := 126) hx hb dX4_addRange_12 (by decide) ?_
      refine lv_icmp_gt (tgt := 63) hx hb dX4_addRange_14 (by decide) (fun hc9 => ?_) (fun hc9 => ?_)
      · rw [if_pos hc9] at hf
        exact w_X4_addRange_63 hB _ _ _ h  hG (lv_sub hl [] rfl) hf
      · rw [if_neg hc9] at hf
        refine lv_iload_n hx hb dX4_addRange_17 rfl (lv_at hl 2 rfl) ?_
        obtain ⟨v2, h1, eh1, hf⟩ := zbp_s hf
        refine zr_callN (st := k_nst) (hcode := k_nco) (hini := kn_10) hB hG (c_X10_isByte eh1) hl.1 rfl ⟨by decide, by decide⟩ (Nat.le_of_ble_eq_true rfl) ⟨by decide, by decide⟩ dX4_addRange_18 (fun H locs hG => ?_)
        refine lv_if_eq (tgt := 57) hx hb dX4_addRange_21 (by decide) (fun hc8 => ?_) (fun hc8 => ?_)
        · rw [if_pos hc8] at hf
          exact w_X4_addRange_57 hB ih _ _ _ h1 (x0) (x2) (x3) hG (lv_sub hl [0, 1, 2] rfl) hf
        · rw [if_neg hc8] at hf
          refine lv_iload_n hx hb dX4_addRange_24 rfl (lv_at hl 2 rfl) ?_
          refine lv_bipush (v := 64) hx hb dX4_addRange_25 (by decide) ?_
          refine lv_icmp_ge (tgt := 45) hx hb dX4_addRange_27 (by decide) (fun hc7 => ?_) (fun hc7 => ?_)
          · rw [if_pos hc7] at hf
            refine lv_aload_n hx hb dX4_addRange_45 rfl (lv_at hl 0 rfl) ?_
            refine lv_dup hx hb dX4_addRange_46 rfl ?_
            obtain ⟨u3, eu3, hf⟩ := zb hf
            refine zr_getL hB hG zF_4 (by decide) kf_X4_58 eu3 dX4_addRange_47 ?_
            refine lv_lconst (v := 1) hx hb dX4_addRange_50 (by decide) ?_
            refine lv_iload_n hx hb dX4_addRange_51 rfl (lv_at hl 2 rfl) ?_
            refine lv_lshl hx hb dX4_addRange_52 rfl ?_
            refine lv_lor hx hb dX4_addRange_53 ?_
            obtain ⟨h4, eh4, hf⟩ := zb hf
            refine zr_put hB hG zF_4 (by decide) kf_X4_58 rfl rfl rfl eh4 dX4_addRange_54 (fun H locs hG => ?_)
            exact w_X4_addRange_57 hB ih _ _ _ h4 (x0) (x2) (x3) hG (lv_sub hl [0, 1, 2] rfl) hf
          · rw [if_neg hc7] at hf
            refine lv_aload_n hx hb dX4_addRange_30 rfl (lv_at hl 0 rfl) ?_
            refine lv_dup hx hb dX4_addRange_31 rfl ?_
            obtain ⟨u5, eu5, hf⟩ := zb hf
            refine zr_getL hB hG zF_4 (by decide) kf_X4_54 eu5 dX4_addRange_32 ?_
            refine lv_lconst (v := 1) hx hb dX4_addRange_35 (by decide) ?_
            refine lv_iload_n hx hb dX4_addRange_36 rfl (lv_at hl 2 rfl) ?_
            refine lv_lshl hx hb dX4_addRange_37 rfl ?_
            refine lv_lor hx hb dX4_addRange_38 ?_
            obtain ⟨h6, eh6, hf⟩ := zb hf
            refine zr_put hB hG zF_4 (by decide) kf_X4_54 rfl rfl rfl eh6 dX4_addRange_39 (fun H locs hG => ?_)
            refine lv_goto (tgt := 57) hx hb dX4_addRange_42 (by decide) ?_
            exact w_X4_addRange_57 hB ih _ _ _ h6 (x0) (x2) (x3) hG (lv_sub hl [0, 1, 2] rfl) hf

set_option maxRecDepth 100000 in
set_option maxHeartbeats 4000000 in
theorem w_X4_addRange_0 {res : zh_H} (hB : zc_B p s m args meth c cX4_addRange 4 RX4 none D K) : ∀ (H : Heap) (locs : List Loc) (ls : Array Slot) (h : zh_H) (x0 : Nat) (x1 : Int32) (x2 : Int32), zh_G D K b0 N h s.heap H locs → lv_has ls 4 [(0, .ref x0), (1, .int x1), (2, .int x2)] → b_X4_addRange_0 h x0 x1 x2 = some res → W p l e (zc_rm 1 0 0) s m args below meth c H locs 0 0 (MQ below (zc_Q D K b0 (zq none N res)) args s 0 0 (fun q => b0 ≤ q)) (F0 m 0 ls []) := by
  have hx := hB.1
  have hb := hB.2.1
  intro H locs ls h x0 x1 x2 hG hl hf
  unfold b_X4_addRange_0 at hf
  refine lv_iload_n hx hb dX4_addRange_0 rfl (lv_at hl 1 rfl) ?_
  refine lv_iconst (v := 0) hx hb dX4_addRange_1 (by decide) ?_
  refine zr_max km_X4_82 k_max k_Mi k_maxc hl.1 hB dX4_addRange_2 (by decide) (Nat.le_of_ble_eq_true rfl) ⟨by decide, by decide⟩ ?_
  refine lv_istore_n (lv' := [(3, .int (zmax x1 (0 : Int32))), (0, .ref x0), (1, .int x1), (2, .int x2)]) hx hb dX4_addRange_5 rfl hl (by decide) rfl (fun ls hl => ?_)
  exact w_X4_addRange_6 hB zFuel _ _ _ h (x0) (x2) ((zmax x1 (0 : Int32))) hG (lv_sub hl [1, 3, 0] rfl) hf
end G_X4_addRange
theorem c_X4_addRange {l : Launch} {D : va_G} {K : Nat → ClassId} {b0 N : Nat} {h : zh_H} {x0 : Nat} {x1 : Int32} {x2 : Int32} {h2 : zh_H} (hf : b_X4_addRange_0 h x0 x1 x2 = some h2) : zc l yX4_addRange cX4_addRange 4 none 1 0 0 D K b0 N h [.ref x0, .int x1, .int x2] (zq none N h2) := by
  refine zc.of [(0, .ref x0), (1, .int x1), (2, .int x2)] (by decide) rfl (Nat.le_of_ble_eq_true rfl) ?_
  intro p e s m args below meth c hB hnm hG ls hl
  exact w_X4_addRange_0 (res := h2) hB _ _ ls h x0 x1 x2 hG (lv_sub hl [0, 1, 2] rfl) hf

section G_X4_readItem
variable {p : Program} {l : Launch} {e : Env} {s : State} {m : MethodId} {args : Array Value} {below : List Frame} {meth : Method} {c : Code} {D : va_G} {K : Nat → ClassId} {b0 N : Nat}
set_option maxRecDepth 100000 in
set_option maxHeartbeats 4000000 in
theorem w_X4_readItem_56 {res : zh_H} (hB : zc_B p s m args meth c cX4_readItem 3 RX4 none D K) : ∀ (H : Heap) (locs : List Loc) (ls : Array Slot) (h : zh_H) (x0 : Nat) (x1 : Int32) (x2 : Int32), zh_G D K b0 N h s.heap H locs → lv_has ls 3 [(0, .ref x0), (1, .int x1), (2, .int x2)] → b_X4_readItem_56 h x0 x1 x2 = some res → W p l e (zc_rm 2 0 0) s m args below meth c H locs 0 0 (MQ below (zc_Q D K b0 (zq none N res)) args s 0 0 (fun q => b0 ≤ q)) (F0 m 56 ls []) := by
  have hx := hB.1
  have hb := hB.2.1
  intro H locs ls h x0 x1 x2 hG hl hf
  unfold b_X4_readItem_56 at hf
  refine lv_aload_n hx hb dX4_readItem_56 rfl (lv_at hl 0 rfl) ?_
  refine lv_iload_n hx hb dX4_readItem_57 rfl (lv_at hl 1 rfl) ?_
  refine lv_iload_n hx hb dX4_readItem_58 rfl (lv_at hl 2 rfl) ?_
  obtain ⟨o1, eo1, hf⟩ := zb hf
  obtain ⟨h2, eh2, hf⟩ := zb hf
  refine zr_callVv (As := [.int x1, .int x2]) kc_X4_65 hB hG (c_X4_addRange eh2) eo1 rfl hl.1 rfl ⟨by decide, by decide⟩ (Nat.le_of_ble_eq_true rfl) ⟨by decide, by decide⟩ dX4_readItem_59 (fun H locs hG => ?_)
  obtain rfl := Option.some.inj hf
  exact zr_vret hB hG ⟨rfl, rfl, rfl⟩ dX4_readItem_62

set_option maxRecDepth 100000 in
set_option maxHeartbeats 4000000 in
theorem w_X4_readItem_0 {res : zh_H} (hB : zc_B p s m args meth c cX4_readItem 3 RX4 none D K) : ∀ (H : Heap) (locs : List Loc) (ls : Array Slot) (h : zh_H) (x0 : Nat), zh_G D K b0 N h s.heap H locs → lv_has ls 3 [(0, .ref x0)] → b_X4_readItem_0 h x0 = some res → W p l e (zc_rm 2 0 0) s m args below meth c H locs 0 0 (MQ below (zc_Q D K b0 (zq none N res)) args s 0 0 (fun q => b0 ≤ q)) (F0 m 0 ls []) := by
  have hx := hB.1
  have hb := hB.2.1
  intro H locs ls h x0 hG hl hf
  unfold b_X4_readItem_0 at hf
  refine lv_aload_n hx hb dX4_readItem_0 rfl (lv_at hl 0 rfl) ?_
  obtain ⟨o1, eo1, hf⟩ := zb hf
  obtain ⟨v3, h2, eh2, hf⟩ := zbp_s hf
  refine zr_callV (As := []) kc_X4_71 hB hG (c_X4_takeByte eh2) eo1 rfl hl.1 rfl ⟨by decide, by decide⟩ (Nat.le_of_ble_eq_true rfl) ⟨by decide, by decide⟩ dX4_readItem_1 (fun H locs hG => ?_)
  refine lv_istore_n (lv' := [(1, .int v3), (0, .ref x0)]) hx hb dX4_readItem_4 rfl hl (by decide) rfl (fun ls hl => ?_)
  refine lv_iload_n hx hb dX4_readItem_5 rfl (lv_at hl 0 rfl) ?_
  refine lv_istore_n (lv' := [(2, .int v3), (1, .int v3), (0, .ref x0)]) hx hb dX4_readItem_6 rfl hl (by decide) rfl (fun ls hl => ?_)
  refine lv_aload_n hx hb dX4_readItem_7 rfl (lv_at hl 2 rfl) ?_
  obtain ⟨a4, ea4, hf⟩ := zb hf
  refine zr_getR hB hG zF_4 (by decide) kf_X4_14 ea4 dX4_readItem_8 ?_
  refine lv_aload_n hx hb dX4_readItem_11 rfl (lv_at hl 2 rfl) ?_
  obtain ⟨v5, ev5, hf⟩ := zb hf
  refine zr_getI hB hG zF_4 (by decide) kf_X4_31 ev5 dX4_readItem_12 ?_
  obtain ⟨o6, eo6, hf⟩ := zb hf
  obtain ⟨v8, h7, eh7, hf⟩ := zbp_s hf
  refine zr_callV (As := [.int v5]) kc_X4_50 hB hG (c_X0_get eh7) eo6 rfl hl.1 rfl ⟨by decide, by decide⟩ (Nat.le_of_ble_eq_true rfl) ⟨by decide, by decide⟩ dX4_readItem_15 (fun H locs hG => ?_)
  refine lv_bipush (v := 45) hx hb dX4_readItem_18 (by decide) ?_
  refine lv_icmp_ne (tgt := 56) hx hb dX4_readItem_20 (by decide) (fun hc20 => ?_) (fun hc20 => ?_)
  · rw [if_neg hc20] at hf
    exact w_X4_readItem_56 hB _ _ _ h7 (x0) (v3) (v3) hG (lv_sub hl [2, 1, 0] rfl) hf
  · rw [if_pos hc20] at hf
    refine lv_aload_n hx hb dX4_readItem_23 rfl (lv_at hl 2 rfl) ?_
    obtain ⟨a9, ea9, hf⟩ := zb hf
    refine zr_getR hB hG zF_4 (by decide) kf_X4_14 ea9 dX4_readItem_24 ?_
    refine lv_aload_n hx hb dX4_readItem_27 rfl (lv_at hl 2 rfl) ?_
    obtain ⟨v10, ev10, hf⟩ := zb hf
    refine zr_getI hB hG zF_4 (by decide) kf_X4_31 ev10 dX4_readItem_28 ?_
    refine lv_iconst (v := 1) hx hb dX4_readItem_31 (by decide) ?_
    refine lv_iadd hx hb dX4_readItem_32 ?_
    obtain ⟨o11, eo11, hf⟩ := zb hf
    obtain ⟨v13, h12, eh12, hf⟩ := zbp_s hf
    refine zr_callV (As := [.int (v10 + (1 : Int32))]) kc_X4_50 hB hG (c_X0_get eh12) eo11 rfl hl.1 rfl ⟨by decide, by decide⟩ (Nat.le_of_ble_eq_true rfl) ⟨by decide, by decide⟩ dX4_readItem_33 (fun H locs hG => ?_)
    refine lv_bipush (v := 93) hx hb dX4_readItem_36 (by decide) ?_
    refine lv_icmp_eq (tgt := 56) hx hb dX4_readItem_38 (by decide) (fun hc19 => ?_) (fun hc19 => ?_)
    · rw [if_pos hc19] at hf
      exact w_X4_readItem_56 hB _ _ _ h12 (x0) (v3) (v3) hG (lv_sub hl [2, 1, 0] rfl) hf
    · rw [if_neg hc19] at hf
      refine lv_aload_n hx hb dX4_readItem_41 rfl (lv_at hl 2 rfl) ?_
      refine lv_dup hx hb dX4_readItem_42 rfl ?_
      obtain ⟨v14, ev14, hf⟩ := zb hf
      refine zr_getI hB hG zF_4 (by decide) kf_X4_31 ev14 dX4_readItem_43 ?_
      refine lv_iconst (v := 1) hx hb dX4_readItem_46 (by decide) ?_
      refine lv_iadd hx hb dX4_readItem_47 ?_
      obtain ⟨h15, eh15, hf⟩ := zb hf
      refine zr_put hB hG zF_4 (by decide) kf_X4_31 rfl rfl rfl eh15 dX4_readItem_48 (fun H locs hG => ?_)
      refine lv_aload_n hx hb dX4_readItem_51 rfl (lv_at hl 2 rfl) ?_
      obtain ⟨o16, eo16, hf⟩ := zb hf
      obtain ⟨v18, h17, eh17, hf⟩ := zbp_s hf
      refine zr_callV (As := []) kc_X4_71 hB hG (c_X4_takeByte eh17) eo16 rfl hl.1 rfl ⟨by decide, by decide⟩ (Nat.le_of_ble_eq_true rfl) ⟨by decide, by decide⟩ dX4_readItem_52 (fun H locs hG => ?_)
      refine lv_istore_n (lv' := [(2, .int v18), (1, .int v3), (0, .ref x0)]) hx hb dX4_readItem_55 rfl hl (by decide) rfl (fun ls hl => ?_)
      exact w_X4_readItem_56 hB _ _ _ h17 (x0) (v3) (v18) hG (lv_sub hl [2, 1, 0] rfl) hf
end G_X4_readItem
theorem c_X4_readItem {l : Launch} {D : va_G} {K : Nat → ClassId} {b0 N : Nat} {h : zh_H} {x0 : Nat} {h2 : zh_H} (hf : b_X4_readItem_0 h x0 = some h2) : zc l yX4_readItem cX4_readItem 3 none 2 0 0 D K b0 N h [.ref x0] (zq none N h2) := by
  refine zc.of [(0, .ref x0)] (by decide) rfl (Nat.le_of_ble_eq_true rfl) ?_
  intro p e s m args below meth c hB hnm hG ls hl
  exact w_X4_readItem_0 (res := h2) hB _ _ ls h x0 hG (lv_sub hl [0] rfl) hf

section G_X4_turnRound
variable {p : Program} {l : Launch} {e : Env} {s : State} {m : MethodId} {args : Array Value} {below : List Frame} {meth : Method} {c : Code} {D : va_G} {K : Nat → ClassId} {b0 N : Nat}
set_option maxRecDepth 100000 in
set_option maxHeartbeats 4000000 in
theorem w_X4_turnRound_0 {res : zh_H} (hB : zc_B p s m args meth c cX4_turnRound 1 RX4 none D K) : ∀ (H : Heap) (locs : List Loc) (ls : Array Slot) (h : zh_H) (x0 : Nat), zh_G D K b0 N h s.heap H locs → lv_has ls 1 [(0, .ref x0)] → b_X4_turnRound_0 h x0 = some res → W p l e (zc_rm 0 0 0) s m args below meth c H locs 0 0 (MQ below (zc_Q D K b0 (zq none N res)) args s 0 0 (fun q => b0 ≤ q)) (F0 m 0 ls []) := by
  have hx := hB.1
  have hb := hB.2.1
  intro H locs ls h x0 hG hl hf
  unfold b_X4_turnRound_0 at hf
  refine lv_aload_n hx hb dX4_turnRound_0 rfl (lv_at hl 0 rfl) ?_
  refine lv_ldc2 (v := -4294966272) hx hb hB.2.2.2.1 (hB.2.2.2.2.1 _ (zin kk_X4_92 rfl)) dX4_turnRound_1 ?_
  refine lv_aload_n hx hb dX4_turnRound_4 rfl (lv_at hl 0 rfl) ?_
  obtain ⟨u1, eu1, hf⟩ := zb hf
  refine zr_getL hB hG zF_4 (by decide) kf_X4_54 eu1 dX4_turnRound_5 ?_
  refine lv_ldc2 (v := -1) hx hb hB.2.2.2.1 (hB.2.2.2.2.1 _ (zin kk_X4_94 rfl)) dX4_turnRound_8 ?_
  refine lv_lxor hx hb dX4_turnRound_11 ?_
  refine lv_land hx hb dX4_turnRound_12 ?_
  obtain ⟨h2, eh2, hf⟩ := zb hf
  refine zr_put hB hG zF_4 (by decide) kf_X4_54 rfl rfl rfl eh2 dX4_turnRound_13 (fun H locs hG => ?_)
  refine lv_aload_n hx hb dX4_turnRound_16 rfl (lv_at hl 0 rfl) ?_
  refine lv_ldc2 (v := 9223372036854775807) hx hb hB.2.2.2.1 (hB.2.2.2.2.1 _ (zin kk_X4_96 rfl)) dX4_turnRound_17 ?_
  refine lv_aload_n hx hb dX4_turnRound_20 rfl (lv_at hl 0 rfl) ?_
  obtain ⟨u3, eu3, hf⟩ := zb hf
  refine zr_getL hB hG zF_4 (by decide) kf_X4_58 eu3 dX4_turnRound_21 ?_
  refine lv_ldc2 (v := -1) hx hb hB.2.2.2.1 (hB.2.2.2.2.1 _ (zin kk_X4_94 rfl)) dX4_turnRound_24 ?_
  refine lv_lxor hx hb dX4_turnRound_27 ?_
  refine lv_land hx hb dX4_turnRound_28 ?_
  obtain ⟨h4, eh4, hf⟩ := zb hf
  refine zr_put hB hG zF_4 (by decide) kf_X4_58 rfl rfl rfl eh4 dX4_turnRound_29 (fun H locs hG => ?_)
  obtain rfl := Option.some.inj hf
  exact zr_vret hB hG ⟨rfl, rfl, rfl⟩ dX4_turnRound_32
end G_X4_turnRound
theorem c_X4_turnRound {l : Launch} {D : va_G} {K : Nat → ClassId} {b0 N : Nat} {h : zh_H} {x0 : Nat} {h2 : zh_H} (hf : b_X4_turnRound_0 h x0 = some h2) : zc l yX4_turnRound cX4_turnRound 1 none 0 0 0 D K b0 N h [.ref x0] (zq none N h2) := by
  refine zc.of [(0, .ref x0)] (by decide) rfl (Nat.le_of_ble_eq_true rfl) ?_
  intro p e s m args below meth c hB hnm hG ls hl
  exact w_X4_turnRound_0 (res := h2) hB _ _ ls h x0 hG (lv_sub hl [0] rfl) hf

section G_X4_readItems
variable {p : Program} {l : Launch} {e : Env} {s : State} {m : MethodId} {args : Array Value} {below : List Frame} {meth : Method} {c : Code} {D : va_G} {K : Nat → ClassId} {b0 N : Nat}
set_option maxRecDepth 100000 in
set_option maxHeartbeats 4000000 in
theorem w_X4_readItems_125 {res : zh_H} (hB : zc_B p s m args meth c cX4_readItems 3 RX4 none D K) : ∀ (H : Heap) (locs : List Loc) (ls : Array Slot) (h : zh_H), zh_G D K b0 N h s.heap H locs → lv_has ls 3 [] → b_X4_readItems_125 h  = some res → W p l e (zc_rm 3 0 0) s m args below meth c H locs 0 0 (MQ below (zc_Q D K b0 (zq none N res)) args s 0 0 (fun q => b0 ≤ q)) (F0 m 125 ls []) := by
  have hx := hB.1
  have hb := hB.2.1
  intro H locs ls h  hG hl hf
  unfold b_X4_readItems_125 at hf
  obtain rfl := Option.some.inj hf
  exact zr_vret hB hG ⟨rfl, rfl, rfl⟩ dX4_readItems_125

set_option maxRecDepth 100000 in
set_option maxHeartbeats 4000000 in
theorem w_X4_readItems_107 {res : zh_H} (hB : zc_B p s m args meth c cX4_readItems 3 RX4 none D K) : ∀ (H : Heap) (locs : List Loc) (ls : Array Slot) (h : zh_H) (x0 : Nat) (x1 : Int32), zh_G D K b0 N h s.heap H locs → lv_has ls 3 [(0, .ref x0), (1, .int x1)] → b_X4_readItems_107 h x0 x1 = some res → W p l e (zc_rm 3 0 0) s m args below meth c H locs 0 0 (MQ below (zc_Q D K b0 (zq none N res)) args s 0 0 (fun q => b0 ≤ q)) (F0 m 107 ls []) := by
  have hx := hB.1
  have hb := hB.2.1
  intro H locs ls h x0 x1 hG hl hf
  unfold b_X4_readItems_107 at hf
  refine lv_aload_n hx hb dX4_readItems_107 rfl (lv_at hl 0 rfl) ?_
  refine lv_dup hx hb dX4_readItems_108 rfl ?_
  obtain ⟨v1, ev1, hf⟩ := zb hf
  refine zr_getI hB hG zF_4 (by decide) kf_X4_31 ev1 dX4_readItems_109 ?_
  refine lv_iconst (v := 1) hx hb dX4_readItems_112 (by decide) ?_
  refine lv_iadd hx hb dX4_readItems_113 ?_
  obtain ⟨h2, eh2, hf⟩ := zb hf
  refine zr_put hB hG zF_4 (by decide) kf_X4_31 rfl rfl rfl eh2 dX4_readItems_114 (fun H locs hG => ?_)
  refine lv_iload_n hx hb dX4_readItems_117 rfl (lv_at hl 1 rfl) ?_
  refine lv_if_eq (tgt := 125) hx hb dX4_readItems_118 (by decide) (fun hc5 => ?_) (fun hc5 => ?_)
  · rw [if_pos hc5] at hf
    exact w_X4_readItems_125 hB _ _ _ h2  hG (lv_sub hl [] rfl) hf
  · rw [if_neg hc5] at hf
    refine lv_aload_n hx hb dX4_readItems_121 rfl (lv_at hl 0 rfl) ?_
    obtain ⟨o3, eo3, hf⟩ := zb hf
    obtain ⟨h4, eh4, hf⟩ := zb hf
    refine zr_callVv (As := []) kc_X4_68 hB hG (c_X4_turnRound eh4) eo3 rfl hl.1 rfl ⟨by decide, by decide⟩ (Nat.le_of_ble_eq_true rfl) ⟨by decide, by decide⟩ dX4_readItems_122 (fun H locs hG => ?_)
    exact w_X4_readItems_125 hB _ _ _ h4  hG (lv_sub hl [] rfl) hf

set_option maxRecDepth 100000 in
set_option maxHeartbeats 4000000 in
theorem w_X4_readItems_63 {res : zh_H} (hB : zc_B p s m args meth c cX4_readItems 3 RX4 none D K) : ∀ n : Nat, ∀ (H : Heap) (locs : List Loc) (ls : Array Slot) (h : zh_H) (x0 : Nat) (x1 : Int32) (x2 : Int32), zh_G D K b0 N h s.heap H locs → lv_has ls 3 [(0, .ref x0), (1, .int x1), (2, .int x2)] → b_X4_readItems_63 n h x0 x1 x2 = some res → W p l e (zc_rm 3 0 0) s m args below meth c H locs 0 0 (MQ below (zc_Q D K b0 (zq none N res)) args s 0 0 (fun q => b0 ≤ q)) (F0 m 63 ls []) := by
  have hx := hB.1
  have hb := hB.2.1
  intro n
  induction n with
  | zero =>
    intro H locs ls h x0 x1 x2 hG hl hf
    cases hf
  | succ n ih =>
    intro H locs ls h x0 x1 x2 hG hl hf
    unfold b_X4_readItems_63 at hf
    refine lv_iload_n hx hb dX4_readItems_63 rfl (lv_at hl 2 rfl) ?_
    refine lv_aload_n hx hb dX4_readItems_64 rfl (lv_at hl 0 rfl) ?_
    obtain ⟨a1, ea1, hf⟩ := zb hf
    refine zr_getR hB hG zF_4 (by decide) kf_X4_14 ea1 dX4_readItems_65 ?_
    obtain ⟨v2, ev2, hf⟩ := zb hf
    refine zr_getI hB hG zF_0 (by decide) kf_X4_40 ev2 dX4_readItems_68 ?_
    refine lv_icmp_gt (tgt := 107) hx hb dX4_readItems_71 (by decide) (fun hc13 => ?_) (fun hc13 => ?_)
    · rw [if_pos hc13] at hf
      exact w_X4_readItems_107 hB _ _ _ h (x0) (x1) hG (lv_sub hl [0, 1] rfl) hf
    · rw [if_neg hc13] at hf
      refine lv_aload_n hx hb dX4_readItems_74 rfl (lv_at hl 0 rfl) ?_
      obtain ⟨v3, ev3, hf⟩ := zb hf
      refine zr_getI hB hG zF_4 (by decide) kf_X4_34 ev3 dX4_readItems_75 ?_
      refine lv_if_ne (tgt := 107) hx hb dX4_readItems_78 (by decide) (fun hc12 => ?_) (fun hc12 => ?_)
      · rw [if_neg hc12] at hf
        exact w_X4_readItems_107 hB _ _ _ h (x0) (x1) hG (lv_sub hl [0, 1] rfl) hf
      · rw [if_pos hc12] at hf
        refine lv_aload_n hx hb dX4_readItems_81 rfl (lv_at hl 0 rfl) ?_
        obtain ⟨a4, ea4, hf⟩ := zb hf
        refine zr_getR hB hG zF_4 (by decide) kf_X4_14 ea4 dX4_readItems_82 ?_
        refine lv_aload_n hx hb dX4_readItems_85 rfl (lv_at hl 0 rfl) ?_
        obtain ⟨v5, ev5, hf⟩ := zb hf
        refine zr_getI hB hG zF_4 (by decide) kf_X4_31 ev5 dX4_readItems_86 ?_
        obtain ⟨o6, eo6, hf⟩ := zb hf
        obtain ⟨v8, h7, eh7, hf⟩ := zbp_s hf
        refine zr_callV (As := [.int v5]) kc_X4_50 hB hG (c_X0_get eh7) eo6 rfl hl.1 rfl ⟨by decide, by decide⟩ (Nat.le_of_ble_eq_true rfl) ⟨by decide, by decide⟩ dX4_readItems_89 (fun H locs hG => ?_)
        refine lv_bipush (v := 93) hx hb dX4_readItems_92 (by decide) ?_
        refine lv_icmp_eq (tgt := 107) hx hb dX4_readItems_94 (by decide) (fun hc11 => ?_) (fun hc11 => ?_)
        · rw [if_pos hc11] at hf
          exact w_X4_readItems_107 hB _ _ _ h7 (x0) (x1) hG (lv_sub hl [0, 1] rfl) hf
        · rw [if_neg hc11] at hf
          refine lv_aload_n hx hb dX4_readItems_97 rfl (lv_at hl 0 rfl) ?_
          obtain ⟨o9, eo9, hf⟩ := zb hf
          obtain ⟨h10, eh10, hf⟩ := zb hf
          refine zr_callVv (As := []) kc_X4_79 hB hG (c_X4_readItem eh10) eo9 rfl hl.1 rfl ⟨by decide, by decide⟩ (Nat.le_of_ble_eq_true rfl) ⟨by decide, by decide⟩ dX4_readItems_98 (fun H locs hG => ?_)
          refine lv_iinc (v := (x2 + (1 : Int32))) (lv' := [(2, .int (x2 + (1 : Int32))), (0, .ref x0), (1, .int x1)]) hx hb dX4_readItems_101 hl (k := 2) rfl rfl (by decide) rfl (fun ls hl => ?_)
          refine lv_goto (tgt := 63) hx hb dX4_readItems_104 (by decide) ?_
          exact ih _ _ _ h10 (x0) (x1) ((x2 + (1 : Int32))) hG (lv_sub hl [1, 2, 0] rfl) hf

set_option maxRecDepth 100000 in
set_option maxHeartbeats 4000000 in
theorem w_X4_readItems_61 {res : zh_H} (hB : zc_B p s m args meth c cX4_readItems 3 RX4 none D K) : ∀ (H : Heap) (locs : List Loc) (ls : Array Slot) (h : zh_H) (x0 : Nat) (x1 : Int32), zh_G D K b0 N h s.heap H locs → lv_has ls 3 [(0, .ref x0), (1, .int x1)] → b_X4_readItems_61 h x0 x1 = some res → W p l e (zc_rm 3 0 0) s m args below meth c H locs 0 0 (MQ below (zc_Q D K b0 (zq none N res)) args s 0 0 (fun q => b0 ≤ q)) (F0 m 61 ls []) := by
  have hx := hB.1
  have hb := hB.2.1
  intro H locs ls h x0 x1 hG hl hf
  unfold b_X4_readItems_61 at hf
  refine lv_iconst (v := 0) hx hb dX4_readItems_61 (by decide) ?_
  refine lv_istore_n (lv' := [(2, .int (0 : Int32)), (0, .ref x0), (1, .int x1)]) hx hb dX4_readItems_62 rfl hl (by decide) rfl (fun ls hl => ?_)
  exact w_X4_readItems_63 hB zFuel _ _ _ h (x0) (x1) ((0 : Int32)) hG (lv_sub hl [1, 2, 0] rfl) hf

set_option maxRecDepth 100000 in
set_option maxHeartbeats 4000000 in
theorem w_X4_readItems_36 {res : zh_H} (hB : zc_B p s m args meth c cX4_readItems 3 RX4 none D K) : ∀ (H : Heap) (locs : List Loc) (ls : Array Slot) (h : zh_H) (x0 : Nat) (x1 : Int32), zh_G D K b0 N h s.heap H locs → lv_has ls 3 [(0, .ref x0), (1, .int x1)] → b_X4_readItems_36 h x0 x1 = some res → W p l e (zc_rm 3 0 0) s m args below meth c H locs 0 0 (MQ below (zc_Q D K b0 (zq none N res)) args s 0 0 (fun q => b0 ≤ q)) (F0 m 36 ls []) := by
  have hx := hB.1
  have hb := hB.2.1
  intro H locs ls h x0 x1 hG hl hf
  unfold b_X4_readItems_36 at hf
  refine lv_aload_n hx hb dX4_readItems_36 rfl (lv_at hl 0 rfl) ?_
  obtain ⟨a1, ea1, hf⟩ := zb hf
  refine zr_getR hB hG zF_4 (by decide) kf_X4_14 ea1 dX4_readItems_37 ?_
  refine lv_aload_n hx hb dX4_readItems_40 rfl (lv_at hl 0 rfl) ?_
  obtain ⟨v2, ev2, hf⟩ := zb hf
  refine zr_getI hB hG zF_4 (by decide) kf_X4_31 ev2 dX4_readItems_41 ?_
  obtain ⟨o3, eo3, hf⟩ := zb hf
  obtain ⟨v5, h4, eh4, hf⟩ := zbp_s hf
  refine zr_callV (As := [.int v2]) kc_X4_50 hB hG (c_X0_get eh4) eo3 rfl hl.1 rfl ⟨by decide, by decide⟩ (Nat.le_of_ble_eq_true rfl) ⟨by decide, by decide⟩ dX4_readItems_44 (fun H locs hG => ?_)
  refine lv_bipush (v := 93) hx hb dX4_readItems_47 (by decide) ?_
  refine lv_icmp_ne (tgt := 61) hx hb dX4_readItems_49 (by decide) (fun hc9 => ?_) (fun hc9 => ?_)
  · rw [if_neg hc9] at hf
    exact w_X4_readItems_61 hB _ _ _ h4 (x0) (x1) hG (lv_sub hl [0, 1] rfl) hf
  · rw [if_pos hc9] at hf
    refine lv_aload_n hx hb dX4_readItems_52 rfl (lv_at hl 0 rfl) ?_
    refine lv_iconst (v := 2) hx hb dX4_readItems_53 (by decide) ?_
    refine lv_aload_n hx hb dX4_readItems_54 rfl (lv_at hl 0 rfl) ?_
    obtain ⟨v6, ev6, hf⟩ := zb hf
    refine zr_getI hB hG zF_4 (by decide) kf_X4_31 ev6 dX4_readItems_55 ?_
    obtain ⟨o7, eo7, hf⟩ := zb hf
    obtain ⟨h8, eh8, hf⟩ := zb hf
    refine zr_callVv (As := [.int (2 : Int32), .int v6]) kc_X4_43 hB hG (c_X4_fail eh8) eo7 rfl hl.1 rfl ⟨by decide, by decide⟩ (Nat.le_of_ble_eq_true rfl) ⟨by decide, by decide⟩ dX4_readItems_58 (fun H locs hG => ?_)
    exact w_X4_readItems_61 hB _ _ _ h8 (x0) (x1) hG (lv_sub hl [0, 1] rfl) hf

set_option maxRecDepth 100000 in
set_option maxHeartbeats 4000000 in
theorem w_X4_readItems_21 {res : zh_H} (hB : zc_B p s m args meth c cX4_readItems 3 RX4 none D K) : ∀ (H : Heap) (locs : List Loc) (ls : Array Slot) (h : zh_H) (x0 : Nat) (y0 : Int32), zh_G D K b0 N h s.heap H locs → lv_has ls 3 [(0, .ref x0)] → b_X4_readItems_21 h x0 y0 = some res → W p l e (zc_rm 3 0 0) s m args below meth c H locs 0 0 (MQ below (zc_Q D K b0 (zq none N res)) args s 0 0 (fun q => b0 ≤ q)) (F0 m 21 ls [.int y0]) := by
  have hx := hB.1
  have hb := hB.2.1
  intro H locs ls h x0 y0 hG hl hf
  unfold b_X4_readItems_21 at hf
  refine lv_istore_n (lv' := [(1, .int y0), (0, .ref x0)]) hx hb dX4_readItems_21 rfl hl (by decide) rfl (fun ls hl => ?_)
  refine lv_iload_n hx hb dX4_readItems_22 rfl (lv_at hl 0 rfl) ?_
  refine lv_if_eq (tgt := 36) hx hb dX4_readItems_23 (by decide) (fun hc3 => ?_) (fun hc3 => ?_)
  · rw [if_pos hc3] at hf
    exact w_X4_readItems_36 hB _ _ _ h (x0) (y0) hG (lv_sub hl [1, 0] rfl) hf
  · rw [if_neg hc3] at hf
    refine lv_aload_n hx hb dX4_readItems_26 rfl (lv_at hl 1 rfl) ?_
    refine lv_dup hx hb dX4_readItems_27 rfl ?_
    obtain ⟨v1, ev1, hf⟩ := zb hf
    refine zr_getI hB hG zF_4 (by decide) kf_X4_31 ev1 dX4_readItems_28 ?_
    refine lv_iconst (v := 1) hx hb dX4_readItems_31 (by decide) ?_
    refine lv_iadd hx hb dX4_readItems_32 ?_
    obtain ⟨h2, eh2, hf⟩ := zb hf
    refine zr_put hB hG zF_4 (by decide) kf_X4_31 rfl rfl rfl eh2 dX4_readItems_33 (fun H locs hG => ?_)
    exact w_X4_readItems_36 hB _ _ _ h2 (x0) (y0) hG (lv_sub hl [1, 0] rfl) hf

set_option maxRecDepth 100000 in
set_option maxHeartbeats 4000000 in
theorem w_X4_readItems_0 {res : zh_H} (hB : zc_B p s m args meth c cX4_readItems 3 RX4 none D K) : ∀ (H : Heap) (locs : List Loc) (ls : Array Slot) (h : zh_H) (x0 : Nat), zh_G D K b0 N h s.heap H locs → lv_has ls 3 [(0, .ref x0)] → b_X4_readItems_0 h x0 = some res → W p l e (zc_rm 3 0 0) s m args below meth c H locs 0 0 (MQ below (zc_Q D K b0 (zq none N res)) args s 0 0 (fun q => b0 ≤ q)) (F0 m 0 ls []) := by
  have hx := hB.1
  have hb := hB.2.1
  intro H locs ls h x0 hG hl hf
  unfold b_X4_readItems_0 at hf
  refine lv_aload_n hx hb dX4_readItems_0 rfl (lv_at hl 0 rfl) ?_
  obtain ⟨a1, ea1, hf⟩ := zb hf
  refine zr_getR hB hG zF_4 (by decide) kf_X4_14 ea1 dX4_readItems_1 ?_
  refine lv_aload_n hx hb dX4_readItems_4 rfl (lv_at hl 0 rfl) ?_
  obtain ⟨v2, ev2, hf⟩ := zb hf
  refine zr_getI hB hG zF_4 (by decide) kf_X4_31 ev2 dX4_readItems_5 ?_
  obtain ⟨o3, eo3, hf⟩ := zb hf
  obtain ⟨v5, h4, eh4, hf⟩ := zbp_s hf
  refine zr_callV (As := [.int v2]) kc_X4_50 hB hG (c_X0_get eh4) eo3 rfl hl.1 rfl ⟨by decide, by decide⟩ (Nat.le_of_ble_eq_true rfl) ⟨by decide, by decide⟩ dX4_readItems_8 (fun H locs hG => ?_)
  refine lv_bipush (v := 94) hx hb dX4_readItems_11 (by decide) ?_
  refine lv_icmp_ne (tgt := 20) hx hb dX4_readItems_13 (by decide) (fun hc6 => ?_) (fun hc6 => ?_)
  · rw [if_neg hc6] at hf
    refine lv_iconst (v := 0) hx hb dX4_readItems_20 (by decide) ?_
    exact w_X4_readItems_21 hB _ _ _ h4 (x0) ((0 : Int32)) hG (lv_sub hl [0] rfl) hf
  · rw [if_pos hc6] at hf
    refine lv_iconst (v := 1) hx hb dX4_readItems_16 (by decide) ?_
    refine lv_goto (tgt := 21) hx hb dX4_readItems_17 (by decide) ?_
    exact w_X4_readItems_21 hB _ _ _ h4 (x0) ((1 : Int32)) hG (lv_sub hl [0] rfl) hf
end G_X4_readItems
theorem c_X4_readItems {l : Launch} {D : va_G} {K : Nat → ClassId} {b0 N : Nat} {h : zh_H} {x0 : Nat} {h2 : zh_H} (hf : b_X4_readItems_0 h x0 = some h2) : zc l yX4_readItems cX4_readItems 3 none 3 0 0 D K b0 N h [.ref x0] (zq none N h2) := by
  refine zc.of [(0, .ref x0)] (by decide) rfl (Nat.le_of_ble_eq_true rfl) ?_
  intro p e s m args below meth c hB hnm hG ls hl
  exact w_X4_readItems_0 (res := h2) hB _ _ ls h x0 hG (lv_sub hl [0] rfl) hf

