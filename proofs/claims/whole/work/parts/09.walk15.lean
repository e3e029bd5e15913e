section G_X11_pattern
variable {p : Program} {l : Launch} {e : Env} {s : State} {m : MethodId} {args : Array Value} {below : List Frame} {meth : Method} {c : Code} {D : va_G} {K : Nat → ClassId} {b0 N : Nat}
set_option maxRecDepth 100000 in
set_option maxHeartbeats 4000000 in
theorem w_X11_pattern_102 {res : (Int32 × zh_H)} (hB : zc_B p s m args meth c cX11_pattern 3 RX11 (some .int) D K) : ∀ n : Nat, ∀ (H : Heap) (locs : List Loc) (ls : Array Slot) (h : zh_H) (x0 : Nat) (x1 : Int32) (x2 : Int32), zh_G D K b0 N h s.heap H locs → lv_has ls 3 [(0, .ref x0), (1, .int x1), (2, .int x2)] → b_X11_pattern_102 n h x0 x1 x2 = some res → W p l e (zc_rm 5 0 0) s m args below meth c H locs 0 0 (MQ below (zc_Q D K b0 (zq (some (.int res.1)) N res.2)) args s 0 0 (fun q => b0 ≤ q)) (F0 m 102 ls []) := by
  have hx := hB.1
  have hb := hB.2.1
  intro n
  induction n with
  | zero =>
    intro H locs ls h x0 x1 x2 hG hl hf
    cases hf
  | succ n ih =>
    intro H locs ls h x0 x1 x2 hG hl hf
    unfold b_X11_pattern_102 at hf
    refine lv_iload_n hx hb dX11_pattern_102 rfl (lv_at hl 2 rfl) ?_
    refine lv_aload_n hx hb dX11_pattern_103 rfl (lv_at hl 0 rfl) ?_
    obtain ⟨v1, ev1, hf⟩ := zb hf
    refine zr_getI hB hG zF_11 (by decide) kf_X11_147 ev1 dX11_pattern_104 ?_
    refine lv_icmp_ge (tgt := 152) hx hb dX11_pattern_107 (by decide) (fun hc14 => ?_) (fun hc14 => ?_)
    · rw [if_pos hc14] at hf
      refine lv_aload_n hx hb dX11_pattern_152 rfl (lv_at hl 0 rfl) ?_
      obtain ⟨a2, ea2, hf⟩ := zb hf
      refine zr_getR hB hG zF_11 (by decide) kf_X11_29 ea2 dX11_pattern_153 ?_
      refine lv_iload_n hx hb dX11_pattern_156 rfl (lv_at hl 1 rfl) ?_
      refine lv_aload_n hx hb dX11_pattern_157 rfl (lv_at hl 0 rfl) ?_
      obtain ⟨v3, ev3, hf⟩ := zb hf
      refine zr_getI hB hG zF_11 (by decide) kf_X11_147 ev3 dX11_pattern_158 ?_
      obtain ⟨h4, eh4, hf⟩ := zb hf
      refine zr_iast hB hG eh4 dX11_pattern_161 (fun H locs hG => ?_)
      refine lv_aload_n hx hb dX11_pattern_162 rfl (lv_at hl 0 rfl) ?_
      obtain ⟨v5, ev5, hf⟩ := zb hf
      refine zr_getI hB hG zF_11 (by decide) kf_X11_147 ev5 dX11_pattern_163 ?_
      obtain rfl := Option.some.inj hf
      exact zr_iret hB hG ⟨rfl, rfl, rfl⟩ dX11_pattern_166
    · rw [if_neg hc14] at hf
      refine lv_aload_n hx hb dX11_pattern_110 rfl (lv_at hl 0 rfl) ?_
      obtain ⟨a6, ea6, hf⟩ := zb hf
      refine zr_getR hB hG zF_11 (by decide) kf_X11_22 ea6 dX11_pattern_111 ?_
      refine lv_sipush (v := 200) hx hb dX11_pattern_114 (by decide) ?_
      refine lv_iload_n hx hb dX11_pattern_117 rfl (lv_at hl 1 rfl) ?_
      refine lv_imul hx hb dX11_pattern_118 ?_
      refine lv_iload_n hx hb dX11_pattern_119 rfl (lv_at hl 2 rfl) ?_
      refine lv_iadd hx hb dX11_pattern_120 ?_
      refine lv_aload_n hx hb dX11_pattern_121 rfl (lv_at hl 0 rfl) ?_
      obtain ⟨a7, ea7, hf⟩ := zb hf
      refine zr_getR hB hG zF_11 (by decide) kf_X11_36 ea7 dX11_pattern_122 ?_
      refine lv_iload_n hx hb dX11_pattern_125 rfl (lv_at hl 2 rfl) ?_
      obtain ⟨u8, eu8, hf⟩ := zb hf
      refine zr_lald hB hG eu8 dX11_pattern_126 ?_
      obtain ⟨h9, eh9, hf⟩ := zb hf
      refine zr_last hB hG eh9 dX11_pattern_127 (fun H locs hG => ?_)
      refine lv_aload_n hx hb dX11_pattern_128 rfl (lv_at hl 0 rfl) ?_
      obtain ⟨a10, ea10, hf⟩ := zb hf
      refine zr_getR hB hG zF_11 (by decide) kf_X11_26 ea10 dX11_pattern_129 ?_
      refine lv_sipush (v := 200) hx hb dX11_pattern_132 (by decide) ?_
      refine lv_iload_n hx hb dX11_pattern_135 rfl (lv_at hl 1 rfl) ?_
      refine lv_imul hx hb dX11_pattern_136 ?_
      refine lv_iload_n hx hb dX11_pattern_137 rfl (lv_at hl 2 rfl) ?_
      refine lv_iadd hx hb dX11_pattern_138 ?_
      refine lv_aload_n hx hb dX11_pattern_139 rfl (lv_at hl 0 rfl) ?_
      obtain ⟨a11, ea11, hf⟩ := zb hf
      refine zr_getR hB hG zF_11 (by decide) kf_X11_39 ea11 dX11_pattern_140 ?_
      refine lv_iload_n hx hb dX11_pattern_143 rfl (lv_at hl 2 rfl) ?_
      obtain ⟨u12, eu12, hf⟩ := zb hf
      refine zr_lald hB hG eu12 dX11_pattern_144 ?_
      obtain ⟨h13, eh13, hf⟩ := zb hf
      refine zr_last hB hG eh13 dX11_pattern_145 (fun H locs hG => ?_)
      refine lv_iinc (v := (x2 + (1 : Int32))) (lv' := [(2, .int (x2 + (1 : Int32))), (0, .ref x0), (1, .int x1)]) hx hb dX11_pattern_146 hl (k := 2) rfl rfl (by decide) rfl (fun ls hl => ?_)
      refine lv_goto (tgt := 102) hx hb dX11_pattern_149 (by decide) ?_
      exact ih _ _ _ h13 (x0) (x1) ((x2 + (1 : Int32))) hG (lv_sub hl [1, 2, 0] rfl) hf

set_option maxRecDepth 100000 in
set_option maxHeartbeats 4000000 in
theorem w_X11_pattern_67 {res : (Int32 × zh_H)} (hB : zc_B p s m args meth c cX11_pattern 3 RX11 (some .int) D K) : ∀ (H : Heap) (locs : List Loc) (ls : Array Slot) (h : zh_H) (x0 : Nat) (x1 : Int32), zh_G D K b0 N h s.heap H locs → lv_has ls 3 [(0, .ref x0), (1, .int x1)] → b_X11_pattern_67 h x0 x1 = some res → W p l e (zc_rm 5 0 0) s m args below meth c H locs 0 0 (MQ below (zc_Q D K b0 (zq (some (.int res.1)) N res.2)) args s 0 0 (fun q => b0 ≤ q)) (F0 m 67 ls []) := by
  have hx := hB.1
  have hb := hB.2.1
  intro H locs ls h x0 x1 hG hl hf
  unfold b_X11_pattern_67 at hf
  refine lv_aload_n hx hb dX11_pattern_67 rfl (lv_at hl 0 rfl) ?_
  refine lv_iconst (v := 0) hx hb dX11_pattern_68 (by decide) ?_
  obtain ⟨h1, eh1, hf⟩ := zb hf
  refine zr_put hB hG zF_11 (by decide) kf_X11_110 rfl rfl rfl eh1 dX11_pattern_69 (fun H locs hG => ?_)
  refine lv_aload_n hx hb dX11_pattern_72 rfl (lv_at hl 0 rfl) ?_
  obtain ⟨v2, ev2, hf⟩ := zb hf
  refine zr_getI hB hG zF_11 (by decide) kf_X11_113 ev2 dX11_pattern_73 ?_
  refine lv_if_le (tgt := 95) hx hb dX11_pattern_76 (by decide) (fun hc7 => ?_) (fun hc7 => ?_)
  · rw [if_pos hc7] at hf
    refine lv_aload_n hx hb dX11_pattern_95 rfl (lv_at hl 0 rfl) ?_
    refine lv_iconst (v := -1) hx hb dX11_pattern_96 (by decide) ?_
    obtain ⟨h3, eh3, hf⟩ := zb hf
    refine zr_put hB hG zF_11 (by decide) kf_X11_32 rfl rfl rfl eh3 dX11_pattern_97 (fun H locs hG => ?_)
    refine lv_iconst (v := 0) hx hb dX11_pattern_100 (by decide) ?_
    refine lv_istore_n (lv' := [(2, .int (0 : Int32)), (0, .ref x0), (1, .int x1)]) hx hb dX11_pattern_101 rfl hl (by decide) rfl (fun ls hl => ?_)
    exact w_X11_pattern_102 hB zFuel _ _ _ h3 (x0) (x1) ((0 : Int32)) hG (lv_sub hl [1, 2, 0] rfl) hf
  · rw [if_neg hc7] at hf
    refine lv_aload_n hx hb dX11_pattern_79 rfl (lv_at hl 0 rfl) ?_
    refine lv_aload_n hx hb dX11_pattern_80 rfl (lv_at hl 0 rfl) ?_
    obtain ⟨v4, ev4, hf⟩ := zb hf
    refine zr_getI hB hG zF_11 (by decide) kf_X11_116 ev4 dX11_pattern_81 ?_
    obtain ⟨h5, eh5, hf⟩ := zb hf
    refine zr_put hB hG zF_11 (by decide) kf_X11_32 rfl rfl rfl eh5 dX11_pattern_84 (fun H locs hG => ?_)
    refine lv_bipush (v := -10) hx hb dX11_pattern_87 (by decide) ?_
    refine lv_aload_n hx hb dX11_pattern_89 rfl (lv_at hl 0 rfl) ?_
    obtain ⟨v6, ev6, hf⟩ := zb hf
    refine zr_getI hB hG zF_11 (by decide) kf_X11_113 ev6 dX11_pattern_90 ?_
    refine lv_isub hx hb dX11_pattern_93 ?_
    obtain rfl := Option.some.inj hf
    exact zr_iret hB hG ⟨rfl, rfl, rfl⟩ dX11_pattern_94

set_option maxRecDepth 100000 in
set_option maxHeartbeats 4000000 in
theorem w_X11_pattern_42 {res : (Int32 × zh_H)} (hB : zc_B p s m args meth c cX11_pattern 3 RX11 (some .int) D K) : ∀ n : Nat, ∀ (H : Heap) (locs : List Loc) (ls : Array Slot) (h : zh_H) (x0 : Nat) (x1 : Int32), zh_G D K b0 N h s.heap H locs → lv_has ls 3 [(0, .ref x0), (1, .int x1)] → b_X11_pattern_42 n h x0 x1 = some res → W p l e (zc_rm 5 0 0) s m args below meth c H locs 0 0 (MQ below (zc_Q D K b0 (zq (some (.int res.1)) N res.2)) args s 0 0 (fun q => b0 ≤ q)) (F0 m 42 ls []) := by
  have hx := hB.1
  have hb := hB.2.1
  intro n
  induction n with
  | zero =>
    intro H locs ls h x0 x1 hG hl hf
    cases hf
  | succ n ih =>
    intro H locs ls h x0 x1 hG hl hf
    unfold b_X11_pattern_42 at hf
    refine lv_aload_n hx hb dX11_pattern_42 rfl (lv_at hl 0 rfl) ?_
    obtain ⟨v1, ev1, hf⟩ := zb hf
    refine zr_getI hB hG zF_11 (by decide) kf_X11_113 ev1 dX11_pattern_43 ?_
    refine lv_if_ne (tgt := 67) hx hb dX11_pattern_46 (by decide) (fun hc7 => ?_) (fun hc7 => ?_)
    · rw [if_neg hc7] at hf
      exact w_X11_pattern_67 hB _ _ _ h (x0) (x1) hG (lv_sub hl [0, 1] rfl) hf
    · rw [if_pos hc7] at hf
      refine lv_aload_n hx hb dX11_pattern_49 rfl (lv_at hl 0 rfl) ?_
      obtain ⟨v2, ev2, hf⟩ := zb hf
      refine zr_getI hB hG zF_11 (by decide) kf_X11_130 ev2 dX11_pattern_50 ?_
      refine lv_aload_n hx hb dX11_pattern_53 rfl (lv_at hl 0 rfl) ?_
      obtain ⟨v3, ev3, hf⟩ := zb hf
      refine zr_getI hB hG zF_11 (by decide) kf_X11_110 ev3 dX11_pattern_54 ?_
      refine lv_icmp_ge (tgt := 67) hx hb dX11_pattern_57 (by decide) (fun hc6 => ?_) (fun hc6 => ?_)
      · rw [if_pos hc6] at hf
        exact w_X11_pattern_67 hB _ _ _ h (x0) (x1) hG (lv_sub hl [0, 1] rfl) hf
      · rw [if_neg hc6] at hf
        refine lv_aload_n hx hb dX11_pattern_60 rfl (lv_at hl 0 rfl) ?_
        obtain ⟨o4, eo4, hf⟩ := zb hf
        obtain ⟨h5, eh5, hf⟩ := zb hf
        refine zr_callVv (As := []) kc_X11_153 hB hG (c_X11_element eh5) eo4 rfl hl.1 rfl ⟨by decide, by decide⟩ (Nat.le_of_ble_eq_true rfl) ⟨by decide, by decide⟩ dX11_pattern_61 (fun H locs hG => ?_)
        refine lv_goto (tgt := 42) hx hb dX11_pattern_64 (by decide) ?_
        exact ih _ _ _ h5 (x0) (x1) hG (lv_sub hl [0, 1] rfl) hf

set_option maxRecDepth 100000 in
set_option maxHeartbeats 4000000 in
theorem w_X11_pattern_0 {res : (Int32 × zh_H)} (hB : zc_B p s m args meth c cX11_pattern 3 RX11 (some .int) D K) : ∀ (H : Heap) (locs : List Loc) (ls : Array Slot) (h : zh_H) (x0 : Nat) (x1 : Int32), zh_G D K b0 N h s.heap H locs → lv_has ls 3 [(0, .ref x0), (1, .int x1)] → b_X11_pattern_0 h x0 x1 = some res → W p l e (zc_rm 5 0 0) s m args below meth c H locs 0 0 (MQ below (zc_Q D K b0 (zq (some (.int res.1)) N res.2)) args s 0 0 (fun q => b0 ≤ q)) (F0 m 0 ls []) := by
  have hx := hB.1
  have hb := hB.2.1
  intro H locs ls h x0 x1 hG hl hf
  unfold b_X11_pattern_0 at hf
  refine lv_iload_n hx hb dX11_pattern_0 rfl (lv_at hl 1 rfl) ?_
  refine lv_iconst (v := 0) hx hb dX11_pattern_1 (by decide) ?_
  refine lv_bipush (v := 7) hx hb dX11_pattern_2 (by decide) ?_
  obtain ⟨v2, h1, eh1, hf⟩ := zbp_s hf
  refine zr_callS (As := [.int x1, .int (0 : Int32), .int (7 : Int32)]) kc_X11_100 hB hG (c_X11_in eh1) rfl hl.1 rfl ⟨by decide, by decide⟩ (Nat.le_of_ble_eq_true rfl) ⟨by decide, by decide⟩ dX11_pattern_4 (fun H locs hG => ?_)
  refine lv_if_ne (tgt := 13) hx hb dX11_pattern_7 (by decide) (fun hc11 => ?_) (fun hc11 => ?_)
  · rw [if_neg hc11] at hf
    refine lv_aload_n hx hb dX11_pattern_13 rfl (lv_at hl 0 rfl) ?_
    refine lv_iconst (v := 0) hx hb dX11_pattern_14 (by decide) ?_
    obtain ⟨h3, eh3, hf⟩ := zb hf
    refine zr_put hB hG zF_11 (by decide) kf_X11_130 rfl rfl rfl eh3 dX11_pattern_15 (fun H locs hG => ?_)
    refine lv_aload_n hx hb dX11_pattern_18 rfl (lv_at hl 0 rfl) ?_
    refine lv_iconst (v := 0) hx hb dX11_pattern_19 (by decide) ?_
    obtain ⟨h4, eh4, hf⟩ := zb hf
    refine zr_put hB hG zF_11 (by decide) kf_X11_113 rfl rfl rfl eh4 dX11_pattern_20 (fun H locs hG => ?_)
    refine lv_aload_n hx hb dX11_pattern_23 rfl (lv_at hl 0 rfl) ?_
    refine lv_iconst (v := 0) hx hb dX11_pattern_24 (by decide) ?_
    obtain ⟨h5, eh5, hf⟩ := zb hf
    refine zr_put hB hG zF_11 (by decide) kf_X11_147 rfl rfl rfl eh5 dX11_pattern_25 (fun H locs hG => ?_)
    refine lv_aload_n hx hb dX11_pattern_28 rfl (lv_at hl 0 rfl) ?_
    obtain ⟨v6, ev6, hf⟩ := zb hf
    refine zr_getI hB hG zF_11 (by decide) kf_X11_110 ev6 dX11_pattern_29 ?_
    refine lv_if_ne (tgt := 42) hx hb dX11_pattern_32 (by decide) (fun hc10 => ?_) (fun hc10 => ?_)
    · rw [if_neg hc10] at hf
      exact w_X11_pattern_42 hB zFuel _ _ _ h5 (x0) (x1) hG (lv_sub hl [0, 1] rfl) hf
    · rw [if_pos hc10] at hf
      refine lv_aload_n hx hb dX11_pattern_35 rfl (lv_at hl 0 rfl) ?_
      refine lv_iconst (v := 3) hx hb dX11_pattern_36 (by decide) ?_
      refine lv_iconst (v := 0) hx hb dX11_pattern_37 (by decide) ?_
      obtain ⟨o7, eo7, hf⟩ := zb hf
      obtain ⟨v9, h8, eh8, hf⟩ := zbp_s hf
      refine zr_callV (As := [.int (3 : Int32), .int (0 : Int32)]) kc_X11_133 hB hG (c_X11_blame eh8) eo7 rfl hl.1 rfl ⟨by decide, by decide⟩ (Nat.le_of_ble_eq_true rfl) ⟨by decide, by decide⟩ dX11_pattern_38 (fun H locs hG => ?_)
      refine lv_istore_n (lv' := [(2, .int v9), (0, .ref x0), (1, .int x1)]) hx hb dX11_pattern_41 rfl hl (by decide) rfl (fun ls hl => ?_)
      exact w_X11_pattern_42 hB zFuel _ _ _ h8 (x0) (x1) hG (lv_sub hl [1, 2] rfl) hf
  · rw [if_pos hc11] at hf
    refine lv_bipush (v := -2) hx hb dX11_pattern_10 (by decide) ?_
    obtain rfl := Option.some.inj hf
    exact zr_iret hB hG ⟨rfl, rfl, rfl⟩ dX11_pattern_12
end G_X11_pattern
theorem c_X11_pattern {l : Launch} {D : va_G} {K : Nat → ClassId} {b0 N : Nat} {h : zh_H} {x0 : Nat} {x1 : Int32} {r : Int32} {h2 : zh_H} (hf : b_X11_pattern_0 h x0 x1 = some (r, h2)) : zc l yX11_pattern cX11_pattern 3 (some .int) 5 0 0 D K b0 N h [.ref x0, .int x1] (zq (some (.int r)) N h2) := by
  refine zc.of [(0, .ref x0), (1, .int x1)] (by decide) rfl (Nat.le_of_ble_eq_true rfl) ?_
  intro p e s m args below meth c hB hnm hG ls hl
  exact w_X11_pattern_0 (res := (r, h2)) hB _ _ ls h x0 x1 hG (lv_sub hl [0, 1] rfl) hf

section G_X11_place
variable {p : Program} {l : Launch} {e : Env} {s : State} {m : MethodId} {args : Array Value} {below : List Frame} {meth : Method} {c : Code} {D : va_G} {K : Nat → ClassId} {b0 N : Nat}
set_option maxRecDepth 100000 in
set_option maxHeartbeats 4000000 in
theorem w_X11_place_0 {res : (Int32 × zh_H)} (hB : zc_B p s m args meth c cX11_place 1 RX11 (some .int) D K) : ∀ (H : Heap) (locs : List Loc) (ls : Array Slot) (h : zh_H) (x0 : Nat), zh_G D K b0 N h s.heap H locs → lv_has ls 1 [(0, .ref x0)] → b_X11_place_0 h x0 = some res → W p l e (zc_rm 0 0 0) s m args below meth c H locs 0 0 (MQ below (zc_Q D K b0 (zq (some (.int res.1)) N res.2)) args s 0 0 (fun q => b0 ≤ q)) (F0 m 0 ls []) := by
  have hx := hB.1
  have hb := hB.2.1
  intro H locs ls h x0 hG hl hf
  unfold b_X11_place_0 at hf
  refine lv_aload_n hx hb dX11_place_0 rfl (lv_at hl 0 rfl) ?_
  obtain ⟨v1, ev1, hf⟩ := zb hf
  refine zr_getI hB hG zF_11 (by decide) kf_X11_32 ev1 dX11_place_1 ?_
  obtain rfl := Option.some.inj hf
  exact zr_iret hB hG ⟨rfl, rfl, rfl⟩ dX11_place_4
end G_X11_place
theorem c_X11_place {l : Launch} {D : va_G} {K : Nat → ClassId} {b0 N : Nat} {h : zh_H} {x0 : Nat} {r : Int32} {h2 : zh_H} (hf : b_X11_place_0 h x0 = some (r, h2)) : zc l yX11_place cX11_place 1 (some .int) 0 0 0 D K b0 N h [.ref x0] (zq (some (.int r)) N h2) := by
  refine zc.of [(0, .ref x0)] (by decide) rfl (Nat.le_of_ble_eq_true rfl) ?_
  intro p e s m args below meth c hB hnm hG ls hl
  exact w_X11_place_0 (res := (r, h2)) hB _ _ ls h x0 hG (lv_sub hl [0] rfl) hf

section G_X11_replace
variable {p : Program} {l : Launch} {e : Env} {s : State} {m : MethodId} {args : Array Value} {below : List Frame} {meth : Method} {c : Code} {D : va_G} {K : Nat → ClassId} {b0 N : Nat}
set_option maxRecDepth 100000 in
set_option maxHeartbeats 4000000 in
theorem w_X11_replace_15 {res : (Int32 × zh_H)} (hB : zc_B p s m args meth c cX11_replace 11 RX11 (some .int) D K) : ∀ (H : Heap) (locs : List Loc) (ls : Array Slot) (h : zh_H), zh_G D K b0 N h s.heap H locs → lv_has ls 11 [] → b_X11_replace_15 h  = some res → W p l e (zc_rm 3 0 0) s m args below meth c H locs 0 0 (MQ below (zc_Q D K b0 (zq (some (.int res.1)) N res.2)) args s 0 0 (fun q => b0 ≤ q)) (F0 m 15 ls []) := by
  have hx := hB.1
  have hb := hB.2.1
  intro H locs ls h  hG hl hf
  unfold b_X11_replace_15 at hf
  refine lv_bipush (v := -2) hx hb dX11_replace_15 (by decide) ?_
  obtain rfl := Option.some.inj hf
  exact zr_iret hB hG ⟨rfl, rfl, rfl⟩ dX11_replace_17

set_option maxRecDepth 100000 in
set_option maxHeartbeats 4000000 in
theorem w_X11_replace_128 {res : (Int32 × zh_H)} (hB : zc_B p s m args meth c cX11_replace 11 RX11 (some .int) D K) {k40 : zh_H → Nat → Int32 → Int32 → Int32 → Int32 → Int32 → Option (Int32 × zh_H)} (hk40 : ∀ (H : Heap) (locs : List Loc) (ls : Array Slot) (h : zh_H) (x0 : Nat) (x2 : Int32) (x4 : Int32) (x5 : Int32) (x6 : Int32) (x7 : Int32), zh_G D K b0 N h s.heap H locs → lv_has ls 11 [(0, .ref x0), (2, .int x2), (4, .int x4), (5, .int x5), (6, .int x6), (7, .int x7)] → k40 h x0 x2 x4 x5 x6 x7 = some res → W p l e (zc_rm 3 0 0) s m args below meth c H locs 0 0 (MQ below (zc_Q D K b0 (zq (some (.int res.1)) N res.2)) args s 0 0 (fun q => b0 ≤ q)) (F0 m 40 ls [])) {k101 : zh_H → Nat → Int32 → Int32 → Int32 → Int32 → Int32 → Int32 → Int32 → Int32 → Option (Int32 × zh_H)} (hk101 : ∀ (H : Heap) (locs : List Loc) (ls : Array Slot) (h : zh_H) (x0 : Nat) (x2 : Int32) (x4 : Int32) (x5 : Int32) (x6 : Int32) (x7 : Int32) (x8 : Int32) (x9 : Int32) (x10 : Int32), zh_G D K b0 N h s.heap H locs → lv_has ls 11 [(0, .ref x0), (2, .int x2), (4, .int x4), (5, .int x5), (6, .int x6), (7, .int x7), (8, .int x8), (9, .int x9), (10, .int x10)] → k101 h x0 x2 x4 x5 x6 x7 x8 x9 x10 = some res → W p l e (zc_rm 3 0 0) s m args below meth c H locs 0 0 (MQ below (zc_Q D K b0 (zq (some (.int res.1)) N res.2)) args s 0 0 (fun q => b0 ≤ q)) (F0 m 101 ls [])) : ∀ (H : Heap) (locs : List Loc) (ls : Array Slot) (h : zh_H) (x0 : Nat) (x2 : Int32) (x4 : Int32) (x5 : Int32) (x6 : Int32) (x7 : Int32) (x8 : Int32) (x9 : Int32) (x10 : Int32) (y0 : Int32) (y1 : Nat), zh_G D K b0 N h s.heap H locs → lv_has ls 11 [(0, .ref x0), (2, .int x2), (4, .int x4), (5, .int x5), (6, .int x6), (7, .int x7), (8, .int x8), (9, .int x9), (10, .int x10)] → b_X11_replace_128 k40 k101 h x0 x2 x4 x5 x6 x7 x8 x9 x10 y0 y1 = some res → W p l e (zc_rm 3 0 0) s m args below meth c H locs 0 0 (MQ below (zc_Q D K b0 (zq (some (.int res.1)) N res.2)) args s 0 0 (fun q => b0 ≤ q)) (F0 m 128 ls [.int y0, .ref y1]) := by
  have hx := hB.1
  have hb := hB.2.1
  intro H locs ls h x0 x2 x4 x5 x6 x7 x8 x9 x10 y0 y1 hG hl hf
  unfold b_X11_replace_128 at hf
  refine lv_aload_n hx hb dX11_replace_128 rfl (lv_at hl 0 rfl) ?_
  obtain ⟨a1, ea1, hf⟩ := zb hf
  refine zr_getR hB hG zF_11 (by decide) kf_X11_48 ea1 dX11_replace_129 ?_
  refine lv_iload hx hb dX11_replace_132 (lv_at hl 8 rfl) ?_
  obtain ⟨v2, ev2, hf⟩ := zb hf
  refine zr_iald hB hG ev2 dX11_replace_134 ?_
  obtain ⟨h3, eh3, hf⟩ := zb hf
  refine zr_iast hB hG eh3 dX11_replace_135 (fun H locs hG => ?_)
  refine lv_iinc (v := (x4 + (1 : Int32))) (lv' := [(4, .int (x4 + (1 : Int32))), (0, .ref x0), (2, .int x2), (5, .int x5), (6, .int x6), (7, .int x7), (8, .int x8), (9, .int x9), (10, .int x10)]) hx hb dX11_replace_136 hl (k := 2) rfl rfl (by decide) rfl (fun ls hl => ?_)
  refine lv_iinc (v := (x10 + (1 : Int32))) (lv' := [(10, .int (x10 + (1 : Int32))), (4, .int (x4 + (1 : Int32))), (0, .ref x0), (2, .int x2), (5, .int x5), (6, .int x6), (7, .int x7), (8, .int x8), (9, .int x9)]) hx hb dX11_replace_139 hl (k := 8) rfl rfl (by decide) rfl (fun ls hl => ?_)
  refine lv_goto (tgt := 101) hx hb dX11_replace_142 (by decide) ?_
  exact hk101 _ _ _ h3 (x0) (x2) ((x4 + (1 : Int32))) (x5) (x6) (x7) (x8) (x9) ((x10 + (1 : Int32))) hG (lv_sub hl [2, 3, 1, 4, 5, 6, 7, 8, 0] rfl) hf

set_option maxRecDepth 100000 in
set_option maxHeartbeats 4000000 in
theorem w_X11_replace_182 {res : (Int32 × zh_H)} (hB : zc_B p s m args meth c cX11_replace 11 RX11 (some .int) D K) {k40 : zh_H → Nat → Int32 → Int32 → Int32 → Int32 → Int32 → Option (Int32 × zh_H)} (hk40 : ∀ (H : Heap) (locs : List Loc) (ls : Array Slot) (h : zh_H) (x0 : Nat) (x2 : Int32) (x4 : Int32) (x5 : Int32) (x6 : Int32) (x7 : Int32), zh_G D K b0 N h s.heap H locs → lv_has ls 11 [(0, .ref x0), (2, .int x2), (4, .int x4), (5, .int x5), (6, .int x6), (7, .int x7)] → k40 h x0 x2 x4 x5 x6 x7 = some res → W p l e (zc_rm 3 0 0) s m args below meth c H locs 0 0 (MQ below (zc_Q D K b0 (zq (some (.int res.1)) N res.2)) args s 0 0 (fun q => b0 ≤ q)) (F0 m 40 ls [])) {k148 : zh_H → Nat → Int32 → Int32 → Int32 → Int32 → Int32 → Int32 → Int32 → Option (Int32 × zh_H)} (hk148 : ∀ (H : Heap) (locs : List Loc) (ls : Array Slot) (h : zh_H) (x0 : Nat) (x2 : Int32) (x4 : Int32) (x5 : Int32) (x6 : Int32) (x7 : Int32) (x8 : Int32) (x10 : Int32), zh_G D K b0 N h s.heap H locs → lv_has ls 11 [(0, .ref x0), (2, .int x2), (4, .int x4), (5, .int x5), (6, .int x6), (7, .int x7), (8, .int x8), (10, .int x10)] → k148 h x0 x2 x4 x5 x6 x7 x8 x10 = some res → W p l e (zc_rm 3 0 0) s m args below meth c H locs 0 0 (MQ below (zc_Q D K b0 (zq (some (.int res.1)) N res.2)) args s 0 0 (fun q => b0 ≤ q)) (F0 m 148 ls [])) : ∀ (H : Heap) (locs : List Loc) (ls : Array Slot) (h : zh_H) (x0 : Nat) (x2 : Int32) (x4 : Int32) (x5 : Int32) (x6 : Int32) (x7 : Int32) (x8 : Int32) (x10 : Int32) (y0 : Int32) (y1 : Nat), zh_G D K b0 N h s.heap H locs → lv_has ls 11 [(0, .ref x0), (2, .int x2), (4, .int x4), (5, .int x5), (6, .int x6), (7, .int x7), (8, .int x8), (10, .int x10)] → b_X11_replace_182 k40 k148 h x0 x2 x4 x5 x6 x7 x8 x10 y0 y1 = some res → W p l e (zc_rm 3 0 0) s m args below meth c H locs 0 0 (MQ below (zc_Q D K b0 (zq (some (.int res.1)) N res.2)) args s 0 0 (fun q => b0 ≤ q)) (F0 m 182 ls [.int y0, .ref y1]) := by
  have hx := hB.1
  have hb := hB.2.1
  intro H locs ls h x0 x2 x4 x5 x6 x7 x8 x10 y0 y1 hG hl hf
  unfold b_X11_replace_182 at hf
  refine lv_aload_n hx hb dX11_replace_182 rfl (lv_at hl 0 rfl) ?_
  obtain ⟨a1, ea1, hf⟩ := zb hf
  refine zr_getR hB hG zF_11 (by decide) kf_X11_7 ea1 dX11_replace_183 ?_
  refine lv_iload hx hb dX11_replace_186 (lv_at hl 7 rfl) ?_
  obtain ⟨v2, ev2, hf⟩ := zb hf
  refine zr_iald hB hG ev2 dX11_replace_188 ?_
  obtain ⟨h3, eh3, hf⟩ := zb hf
  refine zr_iast hB hG eh3 dX11_replace_189 (fun H locs hG => ?_)
  refine lv_iinc (v := (x4 + (1 : Int32))) (lv' := [(4, .int (x4 + (1 : Int32))), (0, .ref x0), (2, .int x2), (5, .int x5), (6, .int x6), (7, .int x7), (8, .int x8), (10, .int x10)]) hx hb dX11_replace_190 hl (k := 2) rfl rfl (by decide) rfl (fun ls hl => ?_)
  refine lv_iinc (v := (x10 + (1 : Int32))) (lv' := [(10, .int (x10 + (1 : Int32))), (4, .int (x4 + (1 : Int32))), (0, .ref x0), (2, .int x2), (5, .int x5), (6, .int x6), (7, .int x7), (8, .int x8)]) hx hb dX11_replace_193 hl (k := 7) rfl rfl (by decide) rfl (fun ls hl => ?_)
  refine lv_goto (tgt := 148) hx hb dX11_replace_196 (by decide) ?_
  exact hk148 _ _ _ h3 (x0) (x2) ((x4 + (1 : Int32))) (x5) (x6) (x7) (x8) ((x10 + (1 : Int32))) hG (lv_sub hl [2, 3, 1, 4, 5, 6, 7, 0] rfl) hf

set_option maxRecDepth 100000 in
set_option maxHeartbeats 4000000 in
theorem w_X11_replace_227 {res : (Int32 × zh_H)} (hB : zc_B p s m args meth c cX11_replace 11 RX11 (some .int) D K) {k40 : zh_H → Nat → Int32 → Int32 → Int32 → Int32 → Int32 → Option (Int32 × zh_H)} (hk40 : ∀ (H : Heap) (locs : List Loc) (ls : Array Slot) (h : zh_H) (x0 : Nat) (x2 : Int32) (x4 : Int32) (x5 : Int32) (x6 : Int32) (x7 : Int32), zh_G D K b0 N h s.heap H locs → lv_has ls 11 [(0, .ref x0), (2, .int x2), (4, .int x4), (5, .int x5), (6, .int x6), (7, .int x7)] → k40 h x0 x2 x4 x5 x6 x7 = some res → W p l e (zc_rm 3 0 0) s m args below meth c H locs 0 0 (MQ below (zc_Q D K b0 (zq (some (.int res.1)) N res.2)) args s 0 0 (fun q => b0 ≤ q)) (F0 m 40 ls [])) : ∀ (H : Heap) (locs : List Loc) (ls : Array Slot) (h : zh_H) (x0 : Nat) (x2 : Int32) (x4 : Int32) (x5 : Int32) (x7 : Int32) (y0 : Int32) (y1 : Int32), zh_G D K b0 N h s.heap H locs → lv_has ls 11 [(0, .ref x0), (2, .int x2), (4, .int x4), (5, .int x5), (7, .int x7)] → b_X11_replace_227 k40 h x0 x2 x4 x5 x7 y0 y1 = some res → W p l e (zc_rm 3 0 0) s m args below meth c H locs 0 0 (MQ below (zc_Q D K b0 (zq (some (.int res.1)) N res.2)) args s 0 0 (fun q => b0 ≤ q)) (F0 m 227 ls [.int y0, .int y1]) := by
  have hx := hB.1
  have hb := hB.2.1
  intro H locs ls h x0 x2 x4 x5 x7 y0 y1 hG hl hf
  unfold b_X11_replace_227 at hf
  refine lv_iadd hx hb dX11_replace_227 ?_
  refine lv_istore (lv' := [(6, .int (y1 + y0)), (0, .ref x0), (2, .int x2), (4, .int x4), (5, .int x5), (7, .int x7)]) hx hb dX11_replace_228 hl (by decide) rfl (fun ls hl => ?_)
  refine lv_goto (tgt := 40) hx hb dX11_replace_230 (by decide) ?_
  exact hk40 _ _ _ h (x0) (x2) (x4) (x5) ((y1 + y0)) (x7) hG (lv_sub hl [1, 2, 3, 4, 0, 5] rfl) hf

set_option maxRecDepth 100000 in
set_option maxHeartbeats 4000000 in
theorem w_X11_replace_211 {res : (Int32 × zh_H)} (hB : zc_B p s m args meth c cX11_replace 11 RX11 (some .int) D K) {k40 : zh_H → Nat → Int32 → Int32 → Int32 → Int32 → Int32 → Option (Int32 × zh_H)} (hk40 : ∀ (H : Heap) (locs : List Loc) (ls : Array Slot) (h : zh_H) (x0 : Nat) (x2 : Int32) (x4 : Int32) (x5 : Int32) (x6 : Int32) (x7 : Int32), zh_G D K b0 N h s.heap H locs → lv_has ls 11 [(0, .ref x0), (2, .int x2), (4, .int x4), (5, .int x5), (6, .int x6), (7, .int x7)] → k40 h x0 x2 x4 x5 x6 x7 = some res → W p l e (zc_rm 3 0 0) s m args below meth c H locs 0 0 (MQ below (zc_Q D K b0 (zq (some (.int res.1)) N res.2)) args s 0 0 (fun q => b0 ≤ q)) (F0 m 40 ls [])) : ∀ (H : Heap) (locs : List Loc) (ls : Array Slot) (h : zh_H) (x0 : Nat) (x2 : Int32) (x4 : Int32) (x6 : Int32) (x7 : Int32) (x8 : Int32) (y0 : Int32) (y1 : Int32), zh_G D K b0 N h s.heap H locs → lv_has ls 11 [(0, .ref x0), (2, .int x2), (4, .int x4), (6, .int x6), (7, .int x7), (8, .int x8)] → b_X11_replace_211 k40 h x0 x2 x4 x6 x7 x8 y0 y1 = some res → W p l e (zc_rm 3 0 0) s m args below meth c H locs 0 0 (MQ below (zc_Q D K b0 (zq (some (.int res.1)) N res.2)) args s 0 0 (fun q => b0 ≤ q)) (F0 m 211 ls [.int y0, .int y1]) := by
  have hx := hB.1
  have hb := hB.2.1
  intro H locs ls h x0 x2 x4 x6 x7 x8 y0 y1 hG hl hf
  unfold b_X11_replace_211 at hf
  refine lv_iadd hx hb dX11_replace_211 ?_
  refine lv_istore (lv' := [(5, .int (y1 + y0)), (0, .ref x0), (2, .int x2), (4, .int x4), (6, .int x6), (7, .int x7), (8, .int x8)]) hx hb dX11_replace_212 hl (by decide) rfl (fun ls hl => ?_)
  refine lv_iload hx hb dX11_replace_214 (lv_at hl 4 rfl) ?_
  refine lv_iload hx hb dX11_replace_216 (lv_at hl 5 rfl) ?_
  refine lv_if_eq (tgt := 226) hx hb dX11_replace_218 (by decide) (fun hc1 => ?_) (fun hc1 => ?_)
  · rw [if_pos hc1] at hf
    refine lv_iconst (v := 0) hx hb dX11_replace_226 (by decide) ?_
    exact w_X11_replace_227 hB hk40 _ _ _ h (x0) (x2) (x4) ((y1 + y0)) (x7) ((0 : Int32)) (x6) hG (lv_sub hl [1, 2, 3, 0, 5] rfl) hf
  · rw [if_neg hc1] at hf
    refine lv_iload hx hb dX11_replace_221 (lv_at hl 6 rfl) ?_
    refine lv_goto (tgt := 227) hx hb dX11_replace_223 (by decide) ?_
    exact w_X11_replace_227 hB hk40 _ _ _ h (x0) (x2) (x4) ((y1 + y0)) (x7) (x8) (x6) hG (lv_sub hl [1, 2, 3, 0, 5] rfl) hf

set_option maxRecDepth 100000 in
set_option maxHeartbeats 4000000 in
theorem w_X11_replace_199 {res : (Int32 × zh_H)} (hB : zc_B p s m args meth c cX11_replace 11 RX11 (some .int) D K) {k40 : zh_H → Nat → Int32 → Int32 → Int32 → Int32 → Int32 → Option (Int32 × zh_H)} (hk40 : ∀ (H : Heap) (locs : List Loc) (ls : Array Slot) (h : zh_H) (x0 : Nat) (x2 : Int32) (x4 : Int32) (x5 : Int32) (x6 : Int32) (x7 : Int32), zh_G D K b0 N h s.heap H locs → lv_has ls 11 [(0, .ref x0), (2, .int x2), (4, .int x4), (5, .int x5), (6, .int x6), (7, .int x7)] → k40 h x0 x2 x4 x5 x6 x7 = some res → W p l e (zc_rm 3 0 0) s m args below meth c H locs 0 0 (MQ below (zc_Q D K b0 (zq (some (.int res.1)) N res.2)) args s 0 0 (fun q => b0 ≤ q)) (F0 m 40 ls [])) : ∀ (H : Heap) (locs : List Loc) (ls : Array Slot) (h : zh_H) (x0 : Nat) (x2 : Int32) (x4 : Int32) (x5 : Int32) (x6 : Int32) (x7 : Int32) (x8 : Int32), zh_G D K b0 N h s.heap H locs → lv_has ls 11 [(0, .ref x0), (2, .int x2), (4, .int x4), (5, .int x5), (6, .int x6), (7, .int x7), (8, .int x8)] → b_X11_replace_199 k40 h x0 x2 x4 x5 x6 x7 x8 = some res → W p l e (zc_rm 3 0 0) s m args below meth c H locs 0 0 (MQ below (zc_Q D K b0 (zq (some (.int res.1)) N res.2)) args s 0 0 (fun q => b0 ≤ q)) (F0 m 199 ls []) := by
  have hx := hB.1
  have hb := hB.2.1
  intro H locs ls h x0 x2 x4 x5 x6 x7 x8 hG hl hf
  unfold b_X11_replace_199 at hf
  refine lv_iload hx hb dX11_replace_199 (lv_at hl 3 rfl) ?_
  refine lv_iload hx hb dX11_replace_201 (lv_at hl 5 rfl) ?_
  refine lv_if_eq (tgt := 210) hx hb dX11_replace_203 (by decide) (fun hc1 => ?_) (fun hc1 => ?_)
  · rw [if_pos hc1] at hf
    refine lv_iconst (v := 0) hx hb dX11_replace_210 (by decide) ?_
    exact w_X11_replace_211 hB hk40 _ _ _ h (x0) (x2) (x4) (x6) (x7) (x8) ((0 : Int32)) (x5) hG (lv_sub hl [0, 1, 2, 4, 5, 6] rfl) hf
  · rw [if_neg hc1] at hf
    refine lv_iconst (v := 1) hx hb dX11_replace_206 (by decide) ?_
    refine lv_goto (tgt := 211) hx hb dX11_replace_207 (by decide) ?_
    exact w_X11_replace_211 hB hk40 _ _ _ h (x0) (x2) (x4) (x6) (x7) (x8) ((1 : Int32)) (x5) hG (lv_sub hl [0, 1, 2, 4, 5, 6] rfl) hf

set_option maxRecDepth 100000 in
set_option maxHeartbeats 4000000 in
theorem w_X11_replace_148 {res : (Int32 × zh_H)} (hB : zc_B p s m args meth c cX11_replace 11 RX11 (some .int) D K) {k40 : zh_H → Nat → Int32 → Int32 → Int32 → Int32 → Int32 → Option (Int32 × zh_H)} (hk40 : ∀ (H : Heap) (locs : List Loc) (ls : Array Slot) (h : zh_H) (x0 : Nat) (x2 : Int32) (x4 : Int32) (x5 : Int32) (x6 : Int32) (x7 : Int32), zh_G D K b0 N h s.heap H locs → lv_has ls 11 [(0, .ref x0), (2, .int x2), (4, .int x4), (5, .int x5), (6, .int x6), (7, .int x7)] → k40 h x0 x2 x4 x5 x6 x7 = some res → W p l e (zc_rm 3 0 0) s m args below meth c H locs 0 0 (MQ below (zc_Q D K b0 (zq (some (.int res.1)) N res.2)) args s 0 0 (fun q => b0 ≤ q)) (F0 m 40 ls [])) : ∀ n : Nat, ∀ (H : Heap) (locs : List Loc) (ls : Array Slot) (h : zh_H) (x0 : Nat) (x2 : Int32) (x4 : Int32) (x5 : Int32) (x6 : Int32) (x7 : Int32) (x8 : Int32) (x10 : Int32), zh_G D K b0 N h s.heap H locs → lv_has ls 11 [(0, .ref x0), (2, .int x2), (4, .int x4), (5, .int x5), (6, .int x6), (7, .int x7), (8, .int x8), (10, .int x10)] → b_X11_replace_148 k40 n h x0 x2 x4 x5 x6 x7 x8 x10 = some res → W p l e (zc_rm 3 0 0) s m args below meth c H locs 0 0 (MQ below (zc_Q D K b0 (zq (some (.int res.1)) N res.2)) args s 0 0 (fun q => b0 ≤ q)) (F0 m 148 ls []) := by
  have hx := hB.1
  have hb := hB.2.1
  intro n
  induction n with
  | zero =>
    intro H locs ls h x0 x2 x4 x5 x6 x7 x8 x10 hG hl hf
    cases hf
  | succ n ih =>
    intro H locs ls h x0 x2 x4 x5 x6 x7 x8 x10 hG hl hf
    unfold b_X11_replace_148 at hf
    refine lv_iload hx hb dX11_replace_148 (lv_at hl 7 rfl) ?_
    refine lv_aload_n hx hb dX11_replace_150 rfl (lv_at hl 0 rfl) ?_
    obtain ⟨v1, ev1, hf⟩ := zb hf
    refine zr_getI hB hG zF_11 (by decide) kf_X11_110 ev1 dX11_replace_151 ?_
    refine lv_icmp_ge (tgt := 199) hx hb dX11_replace_154 (by decide) (fun hc5 => ?_) (fun hc5 => ?_)
    · rw [if_pos hc5] at hf
      exact w_X11_replace_199 hB hk40 _ _ _ h (x0) (x2) (x4) (x5) (x6) (x7) (x8) hG (lv_sub hl [0, 1, 2, 3, 4, 5, 6] rfl) hf
    · rw [if_neg hc5] at hf
      refine lv_iload hx hb dX11_replace_157 (lv_at hl 5 rfl) ?_
      refine lv_if_eq (tgt := 199) hx hb dX11_replace_159 (by decide) (fun hc4 => ?_) (fun hc4 => ?_)
      · rw [if_pos hc4] at hf
        exact w_X11_replace_199 hB hk40 _ _ _ h (x0) (x2) (x4) (x5) (x6) (x7) (x8) hG (lv_sub hl [0, 1, 2, 3, 4, 5, 6] rfl) hf
      · rw [if_neg hc4] at hf
        refine lv_aload_n hx hb dX11_replace_162 rfl (lv_at hl 0 rfl) ?_
        obtain ⟨a2, ea2, hf⟩ := zb hf
        refine zr_getR hB hG zF_11 (by decide) kf_X11_97 ea2 dX11_replace_163 ?_
        refine lv_iload hx hb dX11_replace_166 (lv_at hl 2 rfl) ?_
        refine lv_sipush (v := 1500) hx hb dX11_replace_168 (by decide) ?_
        refine lv_icmp_ge (tgt := 179) hx hb dX11_replace_171 (by decide) (fun hc3 => ?_) (fun hc3 => ?_)
        · rw [if_pos hc3] at hf
          refine lv_sipush (v := 1500) hx hb dX11_replace_179 (by decide) ?_
          exact w_X11_replace_182 hB hk40 ih _ _ _ h (x0) (x2) (x4) (x5) (x6) (x7) (x8) (x10) ((1500 : Int32)) (a2) hG (lv_sub hl [0, 1, 2, 3, 4, 5, 6, 7] rfl) hf
        · rw [if_neg hc3] at hf
          refine lv_iload hx hb dX11_replace_174 (lv_at hl 2 rfl) ?_
          refine lv_goto (tgt := 182) hx hb dX11_replace_176 (by decide) ?_
          exact w_X11_replace_182 hB hk40 ih _ _ _ h (x0) (x2) (x4) (x5) (x6) (x7) (x8) (x10) (x4) (a2) hG (lv_sub hl [0, 1, 2, 3, 4, 5, 6, 7] rfl) hf

set_option maxRecDepth 100000 in
set_option maxHeartbeats 4000000 in
theorem w_X11_replace_101 {res : (Int32 × zh_H)} (hB : zc_B p s m args meth c cX11_replace 11 RX11 (some .int) D K) {k40 : zh_H → Nat → Int32 → Int32 → Int32 → Int32 → Int32 → Option (Int32 × zh_H)} (hk40 : ∀ (H : Heap) (locs : List Loc) (ls : Array Slot) (h : zh_H) (x0 : Nat) (x2 : Int32) (x4 : Int32) (x5 : Int32) (x6 : Int32) (x7 : Int32), zh_G D K b0 N h s.heap H locs → lv_has ls 11 [(0, .ref x0), (2, .int x2), (4, .int x4), (5, .int x5), (6, .int x6), (7, .int x7)] → k40 h x0 x2 x4 x5 x6 x7 = some res → W p l e (zc_rm 3 0 0) s m args below meth c H locs 0 0 (MQ below (zc_Q D K b0 (zq (some (.int res.1)) N res.2)) args s 0 0 (fun q => b0 ≤ q)) (F0 m 40 ls [])) : ∀ n : Nat, ∀ (H : Heap) (locs : List Loc) (ls : Array Slot) (h : zh_H) (x0 : Nat) (x2 : Int32) (x4 : Int32) (x5 : Int32) (x6 : Int32) (x7 : Int32) (x8 : Int32) (x9 : Int32) (x10 : Int32), zh_G D K b0 N h s.heap H locs → lv_has ls 11 [(0, .ref x0), (2, .int x2), (4, .int x4), (5, .int x5), (6, .int x6), (7, .int x7), (8, .int x8), (9, .int x9), (10, .int x10)] → b_X11_replace_101 k40 n h x0 x2 x4 x5 x6 x7 x8 x9 x10 = some res → W p l e (zc_rm 3 0 0) s m args below meth c H locs 0 0 (MQ below (zc_Q D K b0 (zq (some (.int res.1)) N res.2)) args s 0 0 (fun q => b0 ≤ q)) (F0 m 101 ls []) := by
  have hx := hB.1
  have hb := hB.2.1
  intro n
  induction n with
  | zero =>
    intro H locs ls h x0 x2 x4 x5 x6 x7 x8 x9 x10 hG hl hf
    cases hf
  | succ n ih =>
    intro H locs ls h x0 x2 x4 x5 x6 x7 x8 x9 x10 hG hl hf
    unfold b_X11_replace_101 at hf
    refine lv_iload hx hb dX11_replace_101 (lv_at hl 8 rfl) ?_
    refine lv_iload hx hb dX11_replace_103 (lv_at hl 7 rfl) ?_
    refine lv_icmp_ge (tgt := 145) hx hb dX11_replace_105 (by decide) (fun hc3 => ?_) (fun hc3 => ?_)
    · rw [if_pos hc3] at hf
      refine lv_iconst (v := 0) hx hb dX11_replace_145 (by decide) ?_
      refine lv_istore (lv' := [(10, .int (0 : Int32)), (0, .ref x0), (2, .int x2), (4, .int x4), (5, .int x5), (6, .int x6), (7, .int x7), (8, .int x8), (9, .int x9)]) hx hb dX11_replace_146 hl (by decide) rfl (fun ls hl => ?_)
      exact w_X11_replace_148 hB hk40 zFuel _ _ _ h (x0) (x2) (x4) (x5) (x6) (x7) (x8) ((0 : Int32)) hG (lv_sub hl [1, 2, 3, 4, 5, 6, 7, 0] rfl) hf
    · rw [if_neg hc3] at hf
      refine lv_aload_n hx hb dX11_replace_108 rfl (lv_at hl 0 rfl) ?_
      obtain ⟨a1, ea1, hf⟩ := zb hf
      refine zr_getR hB hG zF_11 (by decide) kf_X11_97 ea1 dX11_replace_109 ?_
      refine lv_iload hx hb dX11_replace_112 (lv_at hl 2 rfl) ?_
      refine lv_sipush (v := 1500) hx hb dX11_replace_114 (by decide) ?_
      refine lv_icmp_ge (tgt := 125) hx hb dX11_replace_117 (by decide) (fun hc2 => ?_) (fun hc2 => ?_)
      · rw [if_pos hc2] at hf
        refine lv_sipush (v := 1500) hx hb dX11_replace_125 (by decide) ?_
        exact w_X11_replace_128 hB hk40 ih _ _ _ h (x0) (x2) (x4) (x5) (x6) (x7) (x8) (x9) (x10) ((1500 : Int32)) (a1) hG (lv_sub hl [0, 1, 2, 3, 4, 5, 6, 7, 8] rfl) hf
      · rw [if_neg hc2] at hf
        refine lv_iload hx hb dX11_replace_120 (lv_at hl 2 rfl) ?_
        refine lv_goto (tgt := 128) hx hb dX11_replace_122 (by decide) ?_
        exact w_X11_replace_128 hB hk40 ih _ _ _ h (x0) (x2) (x4) (x5) (x6) (x7) (x8) (x9) (x10) (x4) (a1) hG (lv_sub hl [0, 1, 2, 3, 4, 5, 6, 7, 8] rfl) hf

set_option maxRecDepth 100000 in
set_option maxHeartbeats 4000000 in
theorem w_X11_replace_96 {res : (Int32 × zh_H)} (hB : zc_B p s m args meth c cX11_replace 11 RX11 (some .int) D K) {k40 : zh_H → Nat → Int32 → Int32 → Int32 → Int32 → Int32 → Option (Int32 × zh_H)} (hk40 : ∀ (H : Heap) (locs : List Loc) (ls : Array Slot) (h : zh_H) (x0 : Nat) (x2 : Int32) (x4 : Int32) (x5 : Int32) (x6 : Int32) (x7 : Int32), zh_G D K b0 N h s.heap H locs → lv_has ls 11 [(0, .ref x0), (2, .int x2), (4, .int x4), (5, .int x5), (6, .int x6), (7, .int x7)] → k40 h x0 x2 x4 x5 x6 x7 = some res → W p l e (zc_rm 3 0 0) s m args below meth c H locs 0 0 (MQ below (zc_Q D K b0 (zq (some (.int res.1)) N res.2)) args s 0 0 (fun q => b0 ≤ q)) (F0 m 40 ls [])) : ∀ (H : Heap) (locs : List Loc) (ls : Array Slot) (h : zh_H) (x0 : Nat) (x2 : Int32) (x4 : Int32) (x5 : Int32) (x6 : Int32) (x7 : Int32) (x8 : Int32) (y0 : Int32), zh_G D K b0 N h s.heap H locs → lv_has ls 11 [(0, .ref x0), (2, .int x2), (4, .int x4), (5, .int x5), (6, .int x6), (7, .int x7), (8, .int x8)] → b_X11_replace_96 k40 h x0 x2 x4 x5 x6 x7 x8 y0 = some res → W p l e (zc_rm 3 0 0) s m args below meth c H locs 0 0 (MQ below (zc_Q D K b0 (zq (some (.int res.1)) N res.2)) args s 0 0 (fun q => b0 ≤ q)) (F0 m 96 ls [.int y0]) := by
  have hx := hB.1
  have hb := hB.2.1
  intro H locs ls h x0 x2 x4 x5 x6 x7 x8 y0 hG hl hf
  unfold b_X11_replace_96 at hf
  refine lv_istore (lv' := [(9, .int y0), (0, .ref x0), (2, .int x2), (4, .int x4), (5, .int x5), (6, .int x6), (7, .int x7), (8, .int x8)]) hx hb dX11_replace_96 hl (by decide) rfl (fun ls hl => ?_)
  refine lv_iconst (v := 0) hx hb dX11_replace_98 (by decide) ?_
  refine lv_istore (lv' := [(10, .int (0 : Int32)), (9, .int y0), (0, .ref x0), (2, .int x2), (4, .int x4), (5, .int x5), (6, .int x6), (7, .int x7), (8, .int x8)]) hx hb dX11_replace_99 hl (by decide) rfl (fun ls hl => ?_)
  exact w_X11_replace_101 hB hk40 zFuel _ _ _ h (x0) (x2) (x4) (x5) (x6) (x7) (x8) (y0) ((0 : Int32)) hG (lv_sub hl [2, 3, 4, 5, 6, 7, 8, 1, 0] rfl) hf

set_option maxRecDepth 100000 in
set_option maxHeartbeats 4000000 in
theorem w_X11_replace_73 {res : (Int32 × zh_H)} (hB : zc_B p s m args meth c cX11_replace 11 RX11 (some .int) D K) {k40 : zh_H → Nat → Int32 → Int32 → Int32 → Int32 → Int32 → Option (Int32 × zh_H)} (hk40 : ∀ (H : Heap) (locs : List Loc) (ls : Array Slot) (h : zh_H) (x0 : Nat) (x2 : Int32) (x4 : Int32) (x5 : Int32) (x6 : Int32) (x7 : Int32), zh_G D K b0 N h s.heap H locs → lv_has ls 11 [(0, .ref x0), (2, .int x2), (4, .int x4), (5, .int x5), (6, .int x6), (7, .int x7)] → k40 h x0 x2 x4 x5 x6 x7 = some res → W p l e (zc_rm 3 0 0) s m args below meth c H locs 0 0 (MQ below (zc_Q D K b0 (zq (some (.int res.1)) N res.2)) args s 0 0 (fun q => b0 ≤ q)) (F0 m 40 ls [])) : ∀ (H : Heap) (locs : List Loc) (ls : Array Slot) (h : zh_H) (x0 : Nat) (x2 : Int32) (x4 : Int32) (x5 : Int32) (x6 : Int32) (x8 : Int32) (y0 : Int32), zh_G D K b0 N h s.heap H locs → lv_has ls 11 [(0, .ref x0), (2, .int x2), (4, .int x4), (5, .int x5), (6, .int x6), (8, .int x8)] → b_X11_replace_73 k40 h x0 x2 x4 x5 x6 x8 y0 = some res → W p l e (zc_rm 3 0 0) s m args below meth c H locs 0 0 (MQ below (zc_Q D K b0 (zq (some (.int res.1)) N res.2)) args s 0 0 (fun q => b0 ≤ q)) (F0 m 73 ls [.int y0]) := by
  have hx := hB.1
  have hb := hB.2.1
  intro H locs ls h x0 x2 x4 x5 x6 x8 y0 hG hl hf
  unfold b_X11_replace_73 at hf
  refine lv_istore (lv' := [(7, .int y0), (0, .ref x0), (2, .int x2), (4, .int x4), (5, .int x5), (6, .int x6), (8, .int x8)]) hx hb dX11_replace_73 hl (by decide) rfl (fun ls hl => ?_)
  refine lv_iload hx hb dX11_replace_75 (lv_at hl 0 rfl) ?_
  refine lv_if_eq (tgt := 92) hx hb dX11_replace_77 (by decide) (fun hc5 => ?_) (fun hc5 => ?_)
  · rw [if_pos hc5] at hf
    refine lv_aload_n hx hb dX11_replace_92 rfl (lv_at hl 1 rfl) ?_
    obtain ⟨v1, ev1, hf⟩ := zb hf
    refine zr_getI hB hG zF_11 (by decide) kf_X11_175 ev1 dX11_replace_93 ?_
    exact w_X11_replace_96 hB hk40 _ _ _ h (x0) (x2) (x4) (x5) (x6) (y0) (x8) (v1) hG (lv_sub hl [1, 2, 3, 4, 5, 0, 6] rfl) hf
  · rw [if_neg hc5] at hf
    refine lv_aload_n hx hb dX11_replace_80 rfl (lv_at hl 1 rfl) ?_
    obtain ⟨a2, ea2, hf⟩ := zb hf
    refine zr_getR hB hG zF_11 (by decide) kf_X11_60 ea2 dX11_replace_81 ?_
    refine lv_aload_n hx hb dX11_replace_84 rfl (lv_at hl 1 rfl) ?_
    obtain ⟨v3, ev3, hf⟩ := zb hf
    refine zr_getI hB hG zF_11 (by decide) kf_X11_172 ev3 dX11_replace_85 ?_
    obtain ⟨v4, ev4, hf⟩ := zb hf
    refine zr_iald hB hG ev4 dX11_replace_88 ?_
    refine lv_goto (tgt := 96) hx hb dX11_replace_89 (by decide) ?_
    exact w_X11_replace_96 hB hk40 _ _ _ h (x0) (x2) (x4) (x5) (x6) (y0) (x8) (v4) hG (lv_sub hl [1, 2, 3, 4, 5, 0, 6] rfl) hf

set_option maxRecDepth 100000 in
set_option maxHeartbeats 4000000 in
theorem w_X11_replace_251 {res : (Int32 × zh_H)} (hB : zc_B p s m args meth c cX11_replace 11 RX11 (some .int) D K) : ∀ n : Nat, ∀ (H : Heap) (locs : List Loc) (ls : Array Slot) (h : zh_H) (x0 : Nat) (x4 : Int32) (x5 : Int32) (x8 : Int32), zh_G D K b0 N h s.heap H locs → lv_has ls 11 [(0, .ref x0), (4, .int x4), (5, .int x5), (8, .int x8)] → b_X11_replace_251 n h x0 x4 x5 x8 = some res → W p l e (zc_rm 3 0 0) s m args below meth c H locs 0 0 (MQ below (zc_Q D K b0 (zq (some (.int res.1)) N res.2)) args s 0 0 (fun q => b0 ≤ q)) (F0 m 251 ls []) := by
  have hx := hB.1
  have hb := hB.2.1
  intro n
  induction n with
  | zero =>
    intro H locs ls h x0 x4 x5 x8 hG hl hf
    cases hf
  | succ n ih =>
    intro H locs ls h x0 x4 x5 x8 hG hl hf
    unfold b_X11_replace_251 at hf
    refine lv_iload hx hb dX11_replace_251 (lv_at hl 3 rfl) ?_
    refine lv_iload hx hb dX11_replace_253 (lv_at hl 1 rfl) ?_
    refine lv_icmp_ge (tgt := 278) hx hb dX11_replace_255 (by decide) (fun hc7 => ?_) (fun hc7 => ?_)
    · rw [if_pos hc7] at hf
      refine lv_aload_n hx hb dX11_replace_278 rfl (lv_at hl 0 rfl) ?_
      refine lv_iload hx hb dX11_replace_279 (lv_at hl 1 rfl) ?_
      obtain ⟨h1, eh1, hf⟩ := zb hf
      refine zr_put hB hG zF_11 (by decide) kf_X11_162 rfl rfl rfl eh1 dX11_replace_281 (fun H locs hG => ?_)
      refine lv_aload_n hx hb dX11_replace_284 rfl (lv_at hl 0 rfl) ?_
      refine lv_iconst (v := 0) hx hb dX11_replace_285 (by decide) ?_
      obtain ⟨h2, eh2, hf⟩ := zb hf
      refine zr_put hB hG zF_11 (by decide) kf_X11_110 rfl rfl rfl eh2 dX11_replace_286 (fun H locs hG => ?_)
      refine lv_iload hx hb dX11_replace_289 (lv_at hl 2 rfl) ?_
      obtain rfl := Option.some.inj hf
      exact zr_iret hB hG ⟨rfl, rfl, rfl⟩ dX11_replace_291
    · rw [if_neg hc7] at hf
      refine lv_aload_n hx hb dX11_replace_258 rfl (lv_at hl 0 rfl) ?_
      obtain ⟨a3, ea3, hf⟩ := zb hf
      refine zr_getR hB hG zF_11 (by decide) kf_X11_13 ea3 dX11_replace_259 ?_
      refine lv_iload hx hb dX11_replace_262 (lv_at hl 3 rfl) ?_
      refine lv_aload_n hx hb dX11_replace_264 rfl (lv_at hl 0 rfl) ?_
      obtain ⟨a4, ea4, hf⟩ := zb hf
      refine zr_getR hB hG zF_11 (by decide) kf_X11_97 ea4 dX11_replace_265 ?_
      refine lv_iload hx hb dX11_replace_268 (lv_at hl 3 rfl) ?_
      obtain ⟨v5, ev5, hf⟩ := zb hf
      refine zr_iald hB hG ev5 dX11_replace_270 ?_
      obtain ⟨h6, eh6, hf⟩ := zb hf
      refine zr_iast hB hG eh6 dX11_replace_271 (fun H locs hG => ?_)
      refine lv_iinc (v := (x8 + (1 : Int32))) (lv' := [(8, .int (x8 + (1 : Int32))), (0, .ref x0), (4, .int x4), (5, .int x5)]) hx hb dX11_replace_272 hl (k := 3) rfl rfl (by decide) rfl (fun ls hl => ?_)
      refine lv_goto (tgt := 251) hx hb dX11_replace_275 (by decide) ?_
      exact ih _ _ _ h6 (x0) (x4) (x5) ((x8 + (1 : Int32))) hG (lv_sub hl [1, 2, 3, 0] rfl) hf

set_option maxRecDepth 100000 in
set_option maxHeartbeats 4000000 in
theorem w_X11_replace_40 {res : (Int32 × zh_H)} (hB : zc_B p s m args meth c cX11_replace 11 RX11 (some .int) D K) : ∀ n : Nat, ∀ (H : Heap) (locs : List Loc) (ls : Array Slot) (h : zh_H) (x0 : Nat) (x2 : Int32) (x4 : Int32) (x5 : Int32) (x6 : Int32) (x7 : Int32), zh_G D K b0 N h s.heap H locs → lv_has ls 11 [(0, .ref x0), (2, .int x2), (4, .int x4), (5, .int x5), (6, .int x6), (7, .int x7)] → b_X11_replace_40 n h x0 x2 x4 x5 x6 x7 = some res → W p l e (zc_rm 3 0 0) s m args below meth c H locs 0 0 (MQ below (zc_Q D K b0 (zq (some (.int res.1)) N res.2)) args s 0 0 (fun q => b0 ≤ q)) (F0 m 40 ls []) := by
  have hx := hB.1
  have hb := hB.2.1
  intro n
  induction n with
  | zero =>
    intro H locs ls h x0 x2 x4 x5 x6 x7 hG hl hf
    cases hf
  | succ n ih =>
    intro H locs ls h x0 x2 x4 x5 x6 x7 hG hl hf
    unfold b_X11_replace_40 at hf
    refine lv_iload hx hb dX11_replace_40 (lv_at hl 5 rfl) ?_
    refine lv_if_eq (tgt := 233) hx hb dX11_replace_42 (by decide) (fun hc11 => ?_) (fun hc11 => ?_)
    · rw [if_pos hc11] at hf
      refine lv_iload hx hb dX11_replace_233 (lv_at hl 2 rfl) ?_
      refine lv_sipush (v := 1500) hx hb dX11_replace_235 (by decide) ?_
      refine lv_icmp_le (tgt := 244) hx hb dX11_replace_238 (by decide) (fun hc3 => ?_) (fun hc3 => ?_)
      · rw [if_pos hc3] at hf
        refine lv_aload_n hx hb dX11_replace_244 rfl (lv_at hl 0 rfl) ?_
        obtain ⟨o1, eo1, hf⟩ := zb hf
        obtain ⟨h2, eh2, hf⟩ := zb hf
        refine zr_callVv (As := []) kc_X11_165 hB hG (c_X11_remember eh2) eo1 rfl hl.1 rfl ⟨by decide, by decide⟩ (Nat.le_of_ble_eq_true rfl) ⟨by decide, by decide⟩ dX11_replace_245 (fun H locs hG => ?_)
        refine lv_iconst (v := 0) hx hb dX11_replace_248 (by decide) ?_
        refine lv_istore (lv' := [(8, .int (0 : Int32)), (0, .ref x0), (2, .int x2), (4, .int x4), (5, .int x5), (6, .int x6), (7, .int x7)]) hx hb dX11_replace_249 hl (by decide) rfl (fun ls hl => ?_)
        exact w_X11_replace_251 hB zFuel _ _ _ h2 (x0) (x4) (x5) ((0 : Int32)) hG (lv_sub hl [1, 3, 4, 0] rfl) hf
      · rw [if_neg hc3] at hf
        refine lv_bipush (v := -3) hx hb dX11_replace_241 (by decide) ?_
        obtain rfl := Option.some.inj hf
        exact zr_iret hB hG ⟨rfl, rfl, rfl⟩ dX11_replace_243
    · rw [if_neg hc11] at hf
      refine lv_aload_n hx hb dX11_replace_45 rfl (lv_at hl 0 rfl) ?_
      refine lv_iload hx hb dX11_replace_46 (lv_at hl 4 rfl) ?_
      refine lv_aload_n hx hb dX11_replace_48 rfl (lv_at hl 0 rfl) ?_
      obtain ⟨v4, ev4, hf⟩ := zb hf
      refine zr_getI hB hG zF_11 (by decide) kf_X11_162 ev4 dX11_replace_49 ?_
      obtain ⟨o5, eo5, hf⟩ := zb hf
      obtain ⟨h6, eh6, hf⟩ := zb hf
      refine zr_callVv (As := [.int x6, .int v4]) kc_X11_202 hB hG (c_X11_loadBytes eh6) eo5 rfl hl.1 rfl ⟨by decide, by decide⟩ (Nat.le_of_ble_eq_true rfl) ⟨by decide, by decide⟩ dX11_replace_52 (fun H locs hG => ?_)
      refine lv_aload_n hx hb dX11_replace_55 rfl (lv_at hl 0 rfl) ?_
      refine lv_iload_n hx hb dX11_replace_56 rfl (lv_at hl 1 rfl) ?_
      refine lv_iconst (v := 1) hx hb dX11_replace_57 (by decide) ?_
      obtain ⟨o7, eo7, hf⟩ := zb hf
      obtain ⟨v9, h8, eh8, hf⟩ := zbp_s hf
      refine zr_callV (As := [.int x2, .int (1 : Int32)]) kc_X11_223 hB hG (c_X11_firstHit eh8) eo7 rfl hl.1 rfl ⟨by decide, by decide⟩ (Nat.le_of_ble_eq_true rfl) ⟨by decide, by decide⟩ dX11_replace_58 (fun H locs hG => ?_)
      refine lv_istore (lv' := [(8, .int v9), (0, .ref x0), (2, .int x2), (4, .int x4), (5, .int x5), (6, .int x6), (7, .int x7)]) hx hb dX11_replace_61 hl (by decide) rfl (fun ls hl => ?_)
      refine lv_iload hx hb dX11_replace_63 (lv_at hl 0 rfl) ?_
      refine lv_if_le (tgt := 72) hx hb dX11_replace_65 (by decide) (fun hc10 => ?_) (fun hc10 => ?_)
      · rw [if_pos hc10] at hf
        refine lv_iconst (v := 0) hx hb dX11_replace_72 (by decide) ?_
        exact w_X11_replace_73 hB ih _ _ _ h8 (x0) (x2) (x4) (x5) (x6) (v9) ((0 : Int32)) hG (lv_sub hl [1, 2, 3, 4, 5, 0] rfl) hf
      · rw [if_neg hc10] at hf
        refine lv_iconst (v := 1) hx hb dX11_replace_68 (by decide) ?_
        refine lv_goto (tgt := 73) hx hb dX11_replace_69 (by decide) ?_
        exact w_X11_replace_73 hB ih _ _ _ h8 (x0) (x2) (x4) (x5) (x6) (v9) ((1 : Int32)) hG (lv_sub hl [1, 2, 3, 4, 5, 0] rfl) hf

set_option maxRecDepth 100000 in
set_option maxHeartbeats 4000000 in
theorem w_X11_replace_0 {res : (Int32 × zh_H)} (hB : zc_B p s m args meth c cX11_replace 11 RX11 (some .int) D K) : ∀ (H : Heap) (locs : List Loc) (ls : Array Slot) (h : zh_H) (x0 : Nat) (x1 : Int32) (x2 : Int32) (x3 : Int32), zh_G D K b0 N h s.heap H locs → lv_has ls 11 [(0, .ref x0), (1, .int x1), (2, .int x2), (3, .int x3)] → b_X11_replace_0 h x0 x1 x2 x3 = some res → W p l e (zc_rm 3 0 0) s m args below meth c H locs 0 0 (MQ below (zc_Q D K b0 (zq (some (.int res.1)) N res.2)) args s 0 0 (fun q => b0 ≤ q)) (F0 m 0 ls []) := by
  have hx := hB.1
  have hb := hB.2.1
  intro H locs ls h x0 x1 x2 x3 hG hl hf
  unfold b_X11_replace_0 at hf
  refine lv_aload_n hx hb dX11_replace_0 rfl (lv_at hl 0 rfl) ?_
  refine lv_iload_n hx hb dX11_replace_1 rfl (lv_at hl 1 rfl) ?_
  obtain ⟨o1, eo1, hf⟩ := zb hf
  obtain ⟨v3, h2, eh2, hf⟩ := zbp_s hf
  refine zr_callV (As := [.int x1]) kc_X11_156 hB hG (c_X11_isThere eh2) eo1 rfl hl.1 rfl ⟨by decide, by decide⟩ (Nat.le_of_ble_eq_true rfl) ⟨by decide, by decide⟩ dX11_replace_2 (fun H locs hG => ?_)
  refine lv_if_eq (tgt := 15) hx hb dX11_replace_5 (by decide) (fun hc10 => ?_) (fun hc10 => ?_)
  · rw [if_pos hc10] at hf
    exact w_X11_replace_15 hB _ _ _ h2  hG (lv_sub hl [] rfl) hf
  · rw [if_neg hc10] at hf
    refine lv_iload_n hx hb dX11_replace_8 rfl (lv_at hl 2 rfl) ?_
    obtain ⟨v5, h4, eh4, hf⟩ := zbp_s hf
    refine zr_callS (As := [.int x2]) kc_X11_196 hB hG (c_X11_isEdits eh4) rfl hl.1 rfl ⟨by decide, by decide⟩ (Nat.le_of_ble_eq_true rfl) ⟨by decide, by decide⟩ dX11_replace_9 (fun H locs hG => ?_)
    refine lv_if_ne (tgt := 18) hx hb dX11_replace_12 (by decide) (fun hc9 => ?_) (fun hc9 => ?_)
    · rw [if_neg hc9] at hf
      refine lv_aload_n hx hb dX11_replace_18 rfl (lv_at hl 0 rfl) ?_
      refine lv_iload_n hx hb dX11_replace_19 rfl (lv_at hl 1 rfl) ?_
      obtain ⟨o6, eo6, hf⟩ := zb hf
      obtain ⟨h7, eh7, hf⟩ := zb hf
      refine zr_callVv (As := [.int x1]) kc_X11_199 hB hG (c_X11_loadPattern eh7) eo6 rfl hl.1 rfl ⟨by decide, by decide⟩ (Nat.le_of_ble_eq_true rfl) ⟨by decide, by decide⟩ dX11_replace_20 (fun H locs hG => ?_)
      refine lv_aload_n hx hb dX11_replace_23 rfl (lv_at hl 0 rfl) ?_
      refine lv_iload_n hx hb dX11_replace_24 rfl (lv_at hl 3 rfl) ?_
      obtain ⟨h8, eh8, hf⟩ := zb hf
      refine zr_putZ hB hG zF_11 (by decide) kf_X11_185 rfl rfl eh8 dX11_replace_25 (fun H locs hG => ?_)
      refine lv_iconst (v := 0) hx hb dX11_replace_28 (by decide) ?_
      refine lv_istore (lv' := [(4, .int (0 : Int32)), (0, .ref x0), (1, .int x1), (2, .int x2), (3, .int x3)]) hx hb dX11_replace_29 hl (by decide) rfl (fun ls hl => ?_)
      refine lv_iconst (v := 0) hx hb dX11_replace_31 (by decide) ?_
      refine lv_istore (lv' := [(5, .int (0 : Int32)), (4, .int (0 : Int32)), (0, .ref x0), (1, .int x1), (2, .int x2), (3, .int x3)]) hx hb dX11_replace_32 hl (by decide) rfl (fun ls hl => ?_)
      refine lv_iconst (v := 0) hx hb dX11_replace_34 (by decide) ?_
      refine lv_istore (lv' := [(6, .int (0 : Int32)), (5, .int (0 : Int32)), (4, .int (0 : Int32)), (0, .ref x0), (1, .int x1), (2, .int x2), (3, .int x3)]) hx hb dX11_replace_35 hl (by decide) rfl (fun ls hl => ?_)
      refine lv_iconst (v := 1) hx hb dX11_replace_37 (by decide) ?_
      refine lv_istore (lv' := [(7, .int (1 : Int32)), (6, .int (0 : Int32)), (5, .int (0 : Int32)), (4, .int (0 : Int32)), (0, .ref x0), (1, .int x1), (2, .int x2), (3, .int x3)]) hx hb dX11_replace_38 hl (by decide) rfl (fun ls hl => ?_)
      exact w_X11_replace_40 hB zFuel _ _ _ h8 (x0) (x2) ((0 : Int32)) ((0 : Int32)) ((0 : Int32)) ((1 : Int32)) hG (lv_sub hl [4, 6, 3, 2, 1, 0] rfl) hf
    · rw [if_pos hc9] at hf
      exact w_X11_replace_15 hB _ _ _ h4  hG (lv_sub hl [] rfl) hf
end G_X11_replace
theorem c_X11_replace {l : Launch} {D : va_G} {K : Nat → ClassId} {b0 N : Nat} {h : zh_H} {x0 : Nat} {x1 : Int32} {x2 : Int32} {x3 : Int32} {r : Int32} {h2 : zh_H} (hf : b_X11_replace_0 h x0 x1 x2 x3 = some (r, h2)) : zc l yX11_replace cX11_replace 11 (some .int) 3 0 0 D K b0 N h [.ref x0, .int x1, .int x2, .int x3] (zq (some (.int r)) N h2) := by
  refine zc.of [(0, .ref x0), (1, .int x1), (2, .int x2), (3, .int x3)] (by decide) rfl (Nat.le_of_ble_eq_true rfl) ?_
  intro p e s m args below meth c hB hnm hG ls hl
  exact w_X11_replace_0 (res := (r, h2)) hB _ _ ls h x0 x1 x2 x3 hG (lv_sub hl [0, 1, 2, 3] rfl) hf

section G_X11_step
variable {p : Program} {l : Launch} {e : Env} {s : State} {m : MethodId} {args : Array Value} {below : List Frame} {meth : Method} {c : Code} {D : va_G} {K : Nat → ClassId} {b0 N : Nat}
set_option maxRecDepth 100000 in
set_option maxHeartbeats 4000000 in
theorem w_X11_step_53 {res : (Int32 × zh_H)} (hB : zc_B p s m args meth c cX11_step 3 RX11 (some .int) D K) : ∀ (H : Heap) (locs : List Loc) (ls : Array Slot) (h : zh_H) (y0 : Int32), zh_G D K b0 N h s.heap H locs → lv_has ls 3 [] → b_X11_step_53 h y0 = some res → W p l e (zc_rm 3 0 0) s m args below meth c H locs 0 0 (MQ below (zc_Q D K b0 (zq (some (.int res.1)) N res.2)) args s 0 0 (fun q => b0 ≤ q)) (F0 m 53 ls [.int y0]) := by
  have hx := hB.1
  have hb := hB.2.1
  intro H locs ls h y0 hG hl hf
  unfold b_X11_step_53 at hf
  obtain rfl := Option.some.inj hf
  exact zr_iret hB hG ⟨rfl, rfl, rfl⟩ dX11_step_53

set_option maxRecDepth 100000 in
set_option maxHeartbeats 4000000 in
theorem w_X11_step_0 {res : (Int32 × zh_H)} (hB : zc_B p s m args meth c cX11_step 3 RX11 (some .int) D K) : ∀ (H : Heap) (locs : List Loc) (ls : Array Slot) (h : zh_H) (x0 : Nat) (x1 : Int32) (x2 : Int32), zh_G D K b0 N h s.heap H locs → lv_has ls 3 [(0, .ref x0), (1, .int x1), (2, .int x2)] → b_X11_step_0 h x0 x1 x2 = some res → W p l e (zc_rm 3 0 0) s m args below meth c H locs 0 0 (MQ below (zc_Q D K b0 (zq (some (.int res.1)) N res.2)) args s 0 0 (fun q => b0 ≤ q)) (F0 m 0 ls []) := by
  have hx := hB.1
  have hb := hB.2.1
  intro H locs ls h x0 x1 x2 hG hl hf
  unfold b_X11_step_0 at hf
  refine lv_iload_n hx hb dX11_step_0 rfl (lv_at hl 1 rfl) ?_
  refine lv_iconst (v := 0) hx hb dX11_step_1 (by decide) ?_
  refine lv_aload_n hx hb dX11_step_2 rfl (lv_at hl 0 rfl) ?_
  obtain ⟨v1, ev1, hf⟩ := zb hf
  refine zr_getI hB hG zF_11 (by decide) kf_X11_205 ev1 dX11_step_3 ?_
  refine lv_iconst (v := 1) hx hb dX11_step_6 (by decide) ?_
  refine lv_isub hx hb dX11_step_7 ?_
  obtain ⟨v3, h2, eh2, hf⟩ := zbp_s hf
  refine zr_callS (As := [.int x1, .int (0 : Int32), .int (v1 - (1 : Int32))]) kc_X11_100 hB hG (c_X11_in eh2) rfl hl.1 rfl ⟨by decide, by decide⟩ (Nat.le_of_ble_eq_true rfl) ⟨by decide, by decide⟩ dX11_step_8 (fun H locs hG => ?_)
  refine lv_if_ne (tgt := 17) hx hb dX11_step_11 (by decide) (fun hc13 => ?_) (fun hc13 => ?_)
  · rw [if_neg hc13] at hf
    refine lv_aload_n hx hb dX11_step_17 rfl (lv_at hl 0 rfl) ?_
    refine lv_iload_n hx hb dX11_step_18 rfl (lv_at hl 1 rfl) ?_
    obtain ⟨o4, eo4, hf⟩ := zb hf
    obtain ⟨h5, eh5, hf⟩ := zb hf
    refine zr_callVv (As := [.int x1]) kc_X11_217 hB hG (c_X11_findSteps eh5) eo4 rfl hl.1 rfl ⟨by decide, by decide⟩ (Nat.le_of_ble_eq_true rfl) ⟨by decide, by decide⟩ dX11_step_19 (fun H locs hG => ?_)
    refine lv_iload_n hx hb dX11_step_22 rfl (lv_at hl 2 rfl) ?_
    refine lv_iconst (v := 0) hx hb dX11_step_23 (by decide) ?_
    refine lv_aload_n hx hb dX11_step_24 rfl (lv_at hl 0 rfl) ?_
    obtain ⟨v6, ev6, hf⟩ := zb hf
    refine zr_getI hB hG zF_11 (by decide) kf_X11_214 ev6 dX11_step_25 ?_
    refine lv_iconst (v := 1) hx hb dX11_step_28 (by decide) ?_
    refine lv_isub hx hb dX11_step_29 ?_
    obtain ⟨v8, h7, eh7, hf⟩ := zbp_s hf
    refine zr_callS (As := [.int x2, .int (0 : Int32), .int (v6 - (1 : Int32))]) kc_X11_100 hB hG (c_X11_in eh7) rfl hl.1 rfl ⟨by decide, by decide⟩ (Nat.le_of_ble_eq_true rfl) ⟨by decide, by decide⟩ dX11_step_30 (fun H locs hG => ?_)
    refine lv_if_eq (tgt := 52) hx hb dX11_step_33 (by decide) (fun hc12 => ?_) (fun hc12 => ?_)
    · rw [if_pos hc12] at hf
      refine lv_iconst (v := -1) hx hb dX11_step_52 (by decide) ?_
      exact w_X11_step_53 hB _ _ _ h7 ((-1 : Int32)) hG (lv_sub hl [] rfl) hf
    · rw [if_neg hc12] at hf
      refine lv_aload_n hx hb dX11_step_36 rfl (lv_at hl 0 rfl) ?_
      obtain ⟨a9, ea9, hf⟩ := zb hf
      refine zr_getR hB hG zF_11 (by decide) kf_X11_91 ea9 dX11_step_37 ?_
      refine lv_aload_n hx hb dX11_step_40 rfl (lv_at hl 0 rfl) ?_
      obtain ⟨v10, ev10, hf⟩ := zb hf
      refine zr_getI hB hG zF_11 (by decide) kf_X11_214 ev10 dX11_step_41 ?_
      refine lv_iconst (v := 1) hx hb dX11_step_44 (by decide) ?_
      refine lv_isub hx hb dX11_step_45 ?_
      refine lv_iload_n hx hb dX11_step_46 rfl (lv_at hl 2 rfl) ?_
      refine lv_isub hx hb dX11_step_47 ?_
      obtain ⟨v11, ev11, hf⟩ := zb hf
      refine zr_iald hB hG ev11 dX11_step_48 ?_
      refine lv_goto (tgt := 53) hx hb dX11_step_49 (by decide) ?_
      exact w_X11_step_53 hB _ _ _ h7 (v11) hG (lv_sub hl [] rfl) hf
  · rw [if_pos hc13] at hf
    refine lv_bipush (v := -2) hx hb dX11_step_14 (by decide) ?_
    obtain rfl := Option.some.inj hf
    exact zr_iret hB hG ⟨rfl, rfl, rfl⟩ dX11_step_16
end G_X11_step
theorem c_X11_step {l : Launch} {D : va_G} {K : Nat → ClassId} {b0 N : Nat} {h : zh_H} {x0 : Nat} {x1 : Int32} {x2 : Int32} {r : Int32} {h2 : zh_H} (hf : b_X11_step_0 h x0 x1 x2 = some (r, h2)) : zc l yX11_step cX11_step 3 (some .int) 3 0 0 D K b0 N h [.ref x0, .int x1, .int x2] (zq (some (.int r)) N h2) := by
  refine zc.of [(0, .ref x0), (1, .int x1), (2, .int x2)] (by decide) rfl (Nat.le_of_ble_eq_true rfl) ?_
  intro p e s m args below meth c hB hnm hG ls hl
  exact w_X11_step_0 (res := (r, h2)) hB _ _ ls h x0 x1 x2 hG (lv_sub hl [0, 1, 2] rfl) hf

section G_X11_type
variable {p : Program} {l : Launch} {e : Env} {s : State} {m : MethodId} {args : Array Value} {below : List Frame} {meth : Method} {c : Code} {D : va_G} {K : Nat → ClassId} {b0 N : Nat}
set_option maxRecDepth 100000 in
set_option maxHeartbeats 4000000 in
theorem w_X11_type_67 {res : (Int32 × zh_H)} (hB : zc_B p s m args meth c cX11_type 5 RX11 (some .int) D K) : ∀ n : Nat, ∀ (H : Heap) (locs : List Loc) (ls : Array Slot) (h : zh_H) (x0 : Nat) (x1 : Int64) (x3 : Int32) (x4 : Int32), zh_G D K b0 N h s.heap H locs → lv_has ls 5 [(0, .ref x0), (1, .long x1), (3, .int x3), (4, .int x4)] → b_X11_type_67 n h x0 x1 x3 x4 = some res → W p l e (zc_rm 2 0 0) s m args below meth c H locs 0 0 (MQ below (zc_Q D K b0 (zq (some (.int res.1)) N res.2)) args s 0 0 (fun q => b0 ≤ q)) (F0 m 67 ls []) := by
  have hx := hB.1
  have hb := hB.2.1
  intro n
  induction n with
  | zero =>
    intro H locs ls h x0 x1 x3 x4 hG hl hf
    cases hf
  | succ n ih =>
    intro H locs ls h x0 x1 x3 x4 hG hl hf
    unfold b_X11_type_67 at hf
    refine lv_iload hx hb dX11_type_67 (lv_at hl 3 rfl) ?_
    refine lv_iload_n hx hb dX11_type_69 rfl (lv_at hl 2 rfl) ?_
    refine lv_icmp_ge (tgt := 110) hx hb dX11_type_70 (by decide) (fun hc7 => ?_) (fun hc7 => ?_)
    · rw [if_pos hc7] at hf
      refine lv_aload_n hx hb dX11_type_110 rfl (lv_at hl 0 rfl) ?_
      obtain ⟨v1, ev1, hf⟩ := zb hf
      refine zr_getI hB hG zF_11 (by decide) kf_X11_110 ev1 dX11_type_111 ?_
      obtain rfl := Option.some.inj hf
      exact zr_iret hB hG ⟨rfl, rfl, rfl⟩ dX11_type_114
    · rw [if_neg hc7] at hf
      refine lv_aload_n hx hb dX11_type_73 rfl (lv_at hl 0 rfl) ?_
      obtain ⟨a2, ea2, hf⟩ := zb hf
      refine zr_getR hB hG zF_11 (by decide) kf_X11_7 ea2 dX11_type_74 ?_
      refine lv_aload_n hx hb dX11_type_77 rfl (lv_at hl 0 rfl) ?_
      obtain ⟨v3, ev3, hf⟩ := zb hf
      refine zr_getI hB hG zF_11 (by decide) kf_X11_110 ev3 dX11_type_78 ?_
      refine lv_lload_n hx hb dX11_type_81 rfl (lv_at hl 1 rfl) ?_
      refine lv_bipush (v := 8) hx hb dX11_type_82 (by decide) ?_
      refine lv_iload hx hb dX11_type_84 (lv_at hl 3 rfl) ?_
      refine lv_imul hx hb dX11_type_86 ?_
      refine lv_lshr hx hb dX11_type_87 rfl ?_
      refine lv_ldc2 (v := 255) hx hb hB.2.2.2.1 (hB.2.2.2.2.1 _ (zin kk_X11_104 rfl)) dX11_type_88 ?_
      refine lv_land hx hb dX11_type_91 ?_
      refine lv_l2i hx hb dX11_type_92 rfl ?_
      obtain ⟨h4, eh4, hf⟩ := zb hf
      refine zr_iast hB hG eh4 dX11_type_93 (fun H locs hG => ?_)
      refine lv_aload_n hx hb dX11_type_94 rfl (lv_at hl 0 rfl) ?_
      refine lv_dup hx hb dX11_type_95 rfl ?_
      obtain ⟨v5, ev5, hf⟩ := zb hf
      refine zr_getI hB hG zF_11 (by decide) kf_X11_110 ev5 dX11_type_96 ?_
      refine lv_iconst (v := 1) hx hb dX11_type_99 (by decide) ?_
      refine lv_iadd hx hb dX11_type_100 ?_
      obtain ⟨h6, eh6, hf⟩ := zb hf
      refine zr_put hB hG zF_11 (by decide) kf_X11_110 rfl rfl rfl eh6 dX11_type_101 (fun H locs hG => ?_)
      refine lv_iinc (v := (x4 + (1 : Int32))) (lv' := [(4, .int (x4 + (1 : Int32))), (0, .ref x0), (1, .long x1), (3, .int x3)]) hx hb dX11_type_104 hl (k := 3) rfl rfl (by decide) rfl (fun ls hl => ?_)
      refine lv_goto (tgt := 67) hx hb dX11_type_107 (by decide) ?_
      exact ih _ _ _ h6 (x0) (x1) (x3) ((x4 + (1 : Int32))) hG (lv_sub hl [1, 2, 3, 0] rfl) hf

set_option maxRecDepth 100000 in
set_option maxHeartbeats 4000000 in
theorem w_X11_type_16 {res : (Int32 × zh_H)} (hB : zc_B p s m args meth c cX11_type 5 RX11 (some .int) D K) : ∀ n : Nat, ∀ (H : Heap) (locs : List Loc) (ls : Array Slot) (h : zh_H) (x0 : Nat) (x1 : Int64) (x3 : Int32) (x4 : Int32), zh_G D K b0 N h s.heap H locs → lv_has ls 5 [(0, .ref x0), (1, .long x1), (3, .int x3), (4, .int x4)] → b_X11_type_16 n h x0 x1 x3 x4 = some res → W p l e (zc_rm 2 0 0) s m args below meth c H locs 0 0 (MQ below (zc_Q D K b0 (zq (some (.int res.1)) N res.2)) args s 0 0 (fun q => b0 ≤ q)) (F0 m 16 ls []) := by
  have hx := hB.1
  have hb := hB.2.1
  intro n
  induction n with
  | zero =>
    intro H locs ls h x0 x1 x3 x4 hG hl hf
    cases hf
  | succ n ih =>
    intro H locs ls h x0 x1 x3 x4 hG hl hf
    unfold b_X11_type_16 at hf
    refine lv_iload hx hb dX11_type_16 (lv_at hl 3 rfl) ?_
    refine lv_iload_n hx hb dX11_type_18 rfl (lv_at hl 2 rfl) ?_
    refine lv_icmp_ge (tgt := 49) hx hb dX11_type_19 (by decide) (fun hc6 => ?_) (fun hc6 => ?_)
    · rw [if_pos hc6] at hf
      refine lv_aload_n hx hb dX11_type_49 rfl (lv_at hl 0 rfl) ?_
      obtain ⟨v1, ev1, hf⟩ := zb hf
      refine zr_getI hB hG zF_11 (by decide) kf_X11_110 ev1 dX11_type_50 ?_
      refine lv_iload_n hx hb dX11_type_53 rfl (lv_at hl 2 rfl) ?_
      refine lv_iadd hx hb dX11_type_54 ?_
      refine lv_sipush (v := 400) hx hb dX11_type_55 (by decide) ?_
      refine lv_icmp_le (tgt := 64) hx hb dX11_type_58 (by decide) (fun hc2 => ?_) (fun hc2 => ?_)
      · rw [if_pos hc2] at hf
        refine lv_iconst (v := 0) hx hb dX11_type_64 (by decide) ?_
        refine lv_istore (lv' := [(4, .int (0 : Int32)), (0, .ref x0), (1, .long x1), (3, .int x3)]) hx hb dX11_type_65 hl (by decide) rfl (fun ls hl => ?_)
        exact w_X11_type_67 hB zFuel _ _ _ h (x0) (x1) (x3) ((0 : Int32)) hG (lv_sub hl [1, 2, 3, 0] rfl) hf
      · rw [if_neg hc2] at hf
        refine lv_bipush (v := -3) hx hb dX11_type_61 (by decide) ?_
        obtain rfl := Option.some.inj hf
        exact zr_iret hB hG ⟨rfl, rfl, rfl⟩ dX11_type_63
    · rw [if_neg hc6] at hf
      refine lv_lload_n hx hb dX11_type_22 rfl (lv_at hl 1 rfl) ?_
      refine lv_bipush (v := 8) hx hb dX11_type_23 (by decide) ?_
      refine lv_iload hx hb dX11_type_25 (lv_at hl 3 rfl) ?_
      refine lv_imul hx hb dX11_type_27 ?_
      refine lv_lshr hx hb dX11_type_28 rfl ?_
      refine lv_ldc2 (v := 255) hx hb hB.2.2.2.1 (hB.2.2.2.2.1 _ (zin kk_X11_104 rfl)) dX11_type_29 ?_
      refine lv_land hx hb dX11_type_32 ?_
      refine lv_l2i hx hb dX11_type_33 rfl ?_
      obtain ⟨v4, h3, eh3, hf⟩ := zbp_s hf
      refine zr_callS (As := [.int (Int64.toInt32 (((x1 >>> (Int32.toInt64 ((8 : Int32) * x4) &&& 63))) &&& (255 : Int64)))]) kc_X11_106 hB hG (c_X11_isByte eh3) rfl hl.1 rfl ⟨by decide, by decide⟩ (Nat.le_of_ble_eq_true rfl) ⟨by decide, by decide⟩ dX11_type_34 (fun H locs hG => ?_)
      refine lv_if_ne (tgt := 43) hx hb dX11_type_37 (by decide) (fun hc5 => ?_) (fun hc5 => ?_)
      · rw [if_neg hc5] at hf
        refine lv_iinc (v := (x4 + (1 : Int32))) (lv' := [(4, .int (x4 + (1 : Int32))), (0, .ref x0), (1, .long x1), (3, .int x3)]) hx hb dX11_type_43 hl (k := 3) rfl rfl (by decide) rfl (fun ls hl => ?_)
        refine lv_goto (tgt := 16) hx hb dX11_type_46 (by decide) ?_
        exact ih _ _ _ h3 (x0) (x1) (x3) ((x4 + (1 : Int32))) hG (lv_sub hl [1, 2, 3, 0] rfl) hf
      · rw [if_pos hc5] at hf
        refine lv_bipush (v := -2) hx hb dX11_type_40 (by decide) ?_
        obtain rfl := Option.some.inj hf
        exact zr_iret hB hG ⟨rfl, rfl, rfl⟩ dX11_type_42

set_option maxRecDepth 100000 in
set_option maxHeartbeats 4000000 in
theorem w_X11_type_0 {res : (Int32 × zh_H)} (hB : zc_B p s m args meth c cX11_type 5 RX11 (some .int) D K) : ∀ (H : Heap) (locs : List Loc) (ls : Array Slot) (h : zh_H) (x0 : Nat) (x1 : Int64) (x3 : Int32), zh_G D K b0 N h s.heap H locs → lv_has ls 5 [(0, .ref x0), (1, .long x1), (3, .int x3)] → b_X11_type_0 h x0 x1 x3 = some res → W p l e (zc_rm 2 0 0) s m args below meth c H locs 0 0 (MQ below (zc_Q D K b0 (zq (some (.int res.1)) N res.2)) args s 0 0 (fun q => b0 ≤ q)) (F0 m 0 ls []) := by
  have hx := hB.1
  have hb := hB.2.1
  intro H locs ls h x0 x1 x3 hG hl hf
  unfold b_X11_type_0 at hf
  refine lv_iload_n hx hb dX11_type_0 rfl (lv_at hl 2 rfl) ?_
  refine lv_iconst (v := 1) hx hb dX11_type_1 (by decide) ?_
  refine lv_bipush (v := 8) hx hb dX11_type_2 (by decide) ?_
  obtain ⟨v2, h1, eh1, hf⟩ := zbp_s hf
  refine zr_callS (As := [.int x3, .int (1 : Int32), .int (8 : Int32)]) kc_X11_100 hB hG (c_X11_in eh1) rfl hl.1 rfl ⟨by decide, by decide⟩ (Nat.le_of_ble_eq_true rfl) ⟨by decide, by decide⟩ dX11_type_4 (fun H locs hG => ?_)
  refine lv_if_ne (tgt := 13) hx hb dX11_type_7 (by decide) (fun hc3 => ?_) (fun hc3 => ?_)
  · rw [if_neg hc3] at hf
    refine lv_iconst (v := 0) hx hb dX11_type_13 (by decide) ?_
    refine lv_istore (lv' := [(4, .int (0 : Int32)), (0, .ref x0), (1, .long x1), (3, .int x3)]) hx hb dX11_type_14 hl (by decide) rfl (fun ls hl => ?_)
    exact w_X11_type_16 hB zFuel _ _ _ h1 (x0) (x1) (x3) ((0 : Int32)) hG (lv_sub hl [1, 2, 3, 0] rfl) hf
  · rw [if_pos hc3] at hf
    refine lv_bipush (v := -2) hx hb dX11_type_10 (by decide) ?_
    obtain rfl := Option.some.inj hf
    exact zr_iret hB hG ⟨rfl, rfl, rfl⟩ dX11_type_12
end G_X11_type
theorem c_X11_type {l : Launch} {D : va_G} {K : Nat → ClassId} {b0 N : Nat} {h : zh_H} {x0 : Nat} {x1 : Int64} {x3 : Int32} {r : Int32} {h2 : zh_H} (hf : b_X11_type_0 h x0 x1 x3 = some (r, h2)) : zc l yX11_type cX11_type 5 (some .int) 2 0 0 D K b0 N h [.ref x0, .long x1, .int x3] (zq (some (.int r)) N h2) := by
  refine zc.of [(0, .ref x0), (1, .long x1), (3, .int x3)] (by decide) rfl (Nat.le_of_ble_eq_true rfl) ?_
  intro p e s m args below meth c hB hnm hG ls hl
  exact w_X11_type_0 (res := (r, h2)) hB _ _ ls h x0 x1 x3 hG (lv_sub hl [0, 1, 2] rfl) hf

