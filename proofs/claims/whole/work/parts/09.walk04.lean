section G_X6_fillColumn
variable {p : Program} {l : Launch} {e : Env} {s : State} {m : MethodId} {args : Array Value} {below : List Frame} {meth : Method} {c : Code} {D : va_G} {K : Nat → ClassId} {b0 N : Nat}
set_option maxRecDepth 100000 in
set_option maxHeartbeats 4000000 in
theorem w_X6_fillColumn_204 {res : zh_H} (hB : zc_B p s m args meth c cX6_fillColumn 8 RX6 none D K) {k61 : zh_H → Nat → Int32 → Int32 → Nat → Nat → Int32 → Int32 → Option zh_H} (hk61 : ∀ (H : Heap) (locs : List Loc) (ls : Array Slot) (h : zh_H) (x0 : Nat) (x1 : Int32) (x2 : Int32) (x3 : Nat) (x4 : Nat) (x5 : Int32) (x6 : Int32), zh_G D K b0 N h s.heap H locs → lv_has ls 8 [(0, .ref x0), (1, .int x1), (2, .int x2), (3, .ref x3), (4, .ref x4), (5, .int x5), (6, .int x6)] → k61 h x0 x1 x2 x3 x4 x5 x6 = some res → W p l e (zc_rm 1 0 0) s m args below meth c H locs 0 0 (MQ below (zc_Q D K b0 (zq none N res)) args s 0 0 (fun q => b0 ≤ q)) (F0 m 61 ls [])) : ∀ (H : Heap) (locs : List Loc) (ls : Array Slot) (h : zh_H) (x0 : Nat) (x1 : Int32) (x2 : Int32) (x3 : Nat) (x4 : Nat) (x5 : Int32) (x6 : Int32) (x7 : Int32), zh_G D K b0 N h s.heap H locs → lv_has ls 8 [(0, .ref x0), (1, .int x1), (2, .int x2), (3, .ref x3), (4, .ref x4), (5, .int x5), (6, .int x6), (7, .int x7)] → b_X6_fillColumn_204 k61 h x0 x1 x2 x3 x4 x5 x6 x7 = some res → W p l e (zc_rm 1 0 0) s m args below meth c H locs 0 0 (MQ below (zc_Q D K b0 (zq none N res)) args s 0 0 (fun q => b0 ≤ q)) (F0 m 204 ls []) := by
  have hx := hB.1
  have hb := hB.2.1
  intro H locs ls h x0 x1 x2 x3 x4 x5 x6 x7 hG hl hf
  unfold b_X6_fillColumn_204 at hf
  refine lv_aload_n hx hb dX6_fillColumn_204 rfl (lv_at hl 0 rfl) ?_
  obtain ⟨a1, ea1, hf⟩ := zb hf
  refine zr_getR hB hG zF_6 (by decide) kf_X6_20 ea1 dX6_fillColumn_205 ?_
  refine lv_iload hx hb dX6_fillColumn_208 (lv_at hl 6 rfl) ?_
  refine lv_iload hx hb dX6_fillColumn_210 (lv_at hl 7 rfl) ?_
  obtain ⟨h2, eh2, hf⟩ := zb hf
  refine zr_iast hB hG eh2 dX6_fillColumn_212 (fun H locs hG => ?_)
  refine lv_iinc (v := (x6 + (1 : Int32))) (lv' := [(6, .int (x6 + (1 : Int32))), (0, .ref x0), (1, .int x1), (2, .int x2), (3, .ref x3), (4, .ref x4), (5, .int x5), (7, .int x7)]) hx hb dX6_fillColumn_213 hl (k := 6) rfl rfl (by decide) rfl (fun ls hl => ?_)
  refine lv_goto (tgt := 61) hx hb dX6_fillColumn_216 (by decide) ?_
  exact hk61 _ _ _ h2 (x0) (x1) (x2) (x3) (x4) (x5) ((x6 + (1 : Int32))) hG (lv_sub hl [1, 2, 3, 4, 5, 6, 0] rfl) hf

set_option maxRecDepth 100000 in
set_option maxHeartbeats 4000000 in
theorem w_X6_fillColumn_134 {res : zh_H} (hB : zc_B p s m args meth c cX6_fillColumn 8 RX6 none D K) {k61 : zh_H → Nat → Int32 → Int32 → Nat → Nat → Int32 → Int32 → Option zh_H} (hk61 : ∀ (H : Heap) (locs : List Loc) (ls : Array Slot) (h : zh_H) (x0 : Nat) (x1 : Int32) (x2 : Int32) (x3 : Nat) (x4 : Nat) (x5 : Int32) (x6 : Int32), zh_G D K b0 N h s.heap H locs → lv_has ls 8 [(0, .ref x0), (1, .int x1), (2, .int x2), (3, .ref x3), (4, .ref x4), (5, .int x5), (6, .int x6)] → k61 h x0 x1 x2 x3 x4 x5 x6 = some res → W p l e (zc_rm 1 0 0) s m args below meth c H locs 0 0 (MQ below (zc_Q D K b0 (zq none N res)) args s 0 0 (fun q => b0 ≤ q)) (F0 m 61 ls [])) : ∀ (H : Heap) (locs : List Loc) (ls : Array Slot) (h : zh_H) (x0 : Nat) (x1 : Int32) (x2 : Int32) (x3 : Nat) (x4 : Nat) (x5 : Int32) (x6 : Int32) (y0 : Int32) (y1 : Int32), zh_G D K b0 N h s.heap H locs → lv_has ls 8 [(0, .ref x0), (1, .int x1), (2, .int x2), (3, .ref x3), (4, .ref x4), (5, .int x5), (6, .int x6)] → b_X6_fillColumn_134 k61 h x0 x1 x2 x3 x4 x5 x6 y0 y1 = some res → W p l e (zc_rm 1 0 0) s m args below meth c H locs 0 0 (MQ below (zc_Q D K b0 (zq none N res)) args s 0 0 (fun q => b0 ≤ q)) (F0 m 134 ls [.int y0, .int y1]) := by
  have hx := hB.1
  have hb := hB.2.1
  intro H locs ls h x0 x1 x2 x3 x4 x5 x6 y0 y1 hG hl hf
  unfold b_X6_fillColumn_134 at hf
  refine zr_min km_X6_37 k_min k_Mi k_minc hl.1 hB dX6_fillColumn_134 (by decide) (Nat.le_of_ble_eq_true rfl) ⟨by decide, by decide⟩ ?_
  refine lv_istore (lv' := [(7, .int (zmin y1 y0)), (0, .ref x0), (1, .int x1), (2, .int x2), (3, .ref x3), (4, .ref x4), (5, .int x5), (6, .int x6)]) hx hb dX6_fillColumn_137 hl (by decide) rfl (fun ls hl => ?_)
  refine lv_iload hx hb dX6_fillColumn_139 (lv_at hl 6 rfl) ?_
  refine lv_if_eq (tgt := 204) hx hb dX6_fillColumn_141 (by decide) (fun hc9 => ?_) (fun hc9 => ?_)
  · rw [if_pos hc9] at hf
    exact w_X6_fillColumn_204 hB hk61 _ _ _ h (x0) (x1) (x2) (x3) (x4) (x5) (x6) ((zmin y1 y0)) hG (lv_sub hl [1, 2, 3, 4, 5, 6, 7, 0] rfl) hf
  · rw [if_neg hc9] at hf
    refine lv_iload hx hb dX6_fillColumn_144 (lv_at hl 7 rfl) ?_
    refine lv_iconst (v := 1) hx hb dX6_fillColumn_146 (by decide) ?_
    refine lv_icmp_le (tgt := 204) hx hb dX6_fillColumn_147 (by decide) (fun hc8 => ?_) (fun hc8 => ?_)
    · rw [if_pos hc8] at hf
      exact w_X6_fillColumn_204 hB hk61 _ _ _ h (x0) (x1) (x2) (x3) (x4) (x5) (x6) ((zmin y1 y0)) hG (lv_sub hl [1, 2, 3, 4, 5, 6, 7, 0] rfl) hf
    · rw [if_neg hc8] at hf
      refine lv_aload_n hx hb dX6_fillColumn_150 rfl (lv_at hl 4 rfl) ?_
      refine lv_iload hx hb dX6_fillColumn_151 (lv_at hl 7 rfl) ?_
      refine lv_iconst (v := 2) hx hb dX6_fillColumn_153 (by decide) ?_
      refine lv_isub hx hb dX6_fillColumn_154 ?_
      obtain ⟨u1, eu1, hf⟩ := zb hf
      refine zr_lald hB hG eu1 dX6_fillColumn_155 ?_
      refine lv_iload_n hx hb dX6_fillColumn_156 rfl (lv_at hl 2 rfl) ?_
      refine lv_lushr hx hb dX6_fillColumn_157 rfl ?_
      refine lv_lconst (v := 1) hx hb dX6_fillColumn_158 (by decide) ?_
      refine lv_land hx hb dX6_fillColumn_159 ?_
      refine lv_lconst (v := 0) hx hb dX6_fillColumn_160 (by decide) ?_
      refine W.lcmp hx hb dX6_fillColumn_161 ?_
      refine lv_if_eq (tgt := 204) hx hb dX6_fillColumn_162 (by decide) (fun hc7 => ?_) (fun hc7 => ?_)
      · rw [if_pos hc7] at hf
        exact w_X6_fillColumn_204 hB hk61 _ _ _ h (x0) (x1) (x2) (x3) (x4) (x5) (x6) ((zmin y1 y0)) hG (lv_sub hl [1, 2, 3, 4, 5, 6, 7, 0] rfl) hf
      · rw [if_neg hc7] at hf
        refine lv_aload hx hb dX6_fillColumn_165 (lv_at hl 5 rfl) ?_
        refine lv_iload hx hb dX6_fillColumn_167 (lv_at hl 7 rfl) ?_
        refine lv_iconst (v := 1) hx hb dX6_fillColumn_169 (by decide) ?_
        refine lv_isub hx hb dX6_fillColumn_170 ?_
        obtain ⟨u2, eu2, hf⟩ := zb hf
        refine zr_lald hB hG eu2 dX6_fillColumn_171 ?_
        refine lv_aload_n hx hb dX6_fillColumn_172 rfl (lv_at hl 1 rfl) ?_
        obtain ⟨v3, ev3, hf⟩ := zb hf
        refine zr_getI hB hG zF_6 (by decide) kf_X6_30 ev3 dX6_fillColumn_173 ?_
        refine lv_lushr hx hb dX6_fillColumn_176 rfl ?_
        refine lv_lconst (v := 1) hx hb dX6_fillColumn_177 (by decide) ?_
        refine lv_land hx hb dX6_fillColumn_178 ?_
        refine lv_lconst (v := 0) hx hb dX6_fillColumn_179 (by decide) ?_
        refine W.lcmp hx hb dX6_fillColumn_180 ?_
        refine lv_if_eq (tgt := 204) hx hb dX6_fillColumn_181 (by decide) (fun hc6 => ?_) (fun hc6 => ?_)
        · rw [if_pos hc6] at hf
          exact w_X6_fillColumn_204 hB hk61 _ _ _ h (x0) (x1) (x2) (x3) (x4) (x5) (x6) ((zmin y1 y0)) hG (lv_sub hl [1, 2, 3, 4, 5, 6, 7, 0] rfl) hf
        · rw [if_neg hc6] at hf
          refine lv_iload hx hb dX6_fillColumn_184 (lv_at hl 0 rfl) ?_
          refine lv_aload_n hx hb dX6_fillColumn_186 rfl (lv_at hl 1 rfl) ?_
          obtain ⟨a4, ea4, hf⟩ := zb hf
          refine zr_getR hB hG zF_6 (by decide) kf_X6_27 ea4 dX6_fillColumn_187 ?_
          refine lv_iload hx hb dX6_fillColumn_190 (lv_at hl 7 rfl) ?_
          refine lv_iconst (v := 2) hx hb dX6_fillColumn_192 (by decide) ?_
          refine lv_isub hx hb dX6_fillColumn_193 ?_
          obtain ⟨v5, ev5, hf⟩ := zb hf
          refine zr_iald hB hG ev5 dX6_fillColumn_194 ?_
          refine lv_sipush (v := 2048) hx hb dX6_fillColumn_195 (by decide) ?_
          refine lv_iadd hx hb dX6_fillColumn_198 ?_
          refine zr_min km_X6_37 k_min k_Mi k_minc hl.1 hB dX6_fillColumn_199 (by decide) (Nat.le_of_ble_eq_true rfl) ⟨by decide, by decide⟩ ?_
          refine lv_istore (lv' := [(7, .int (zmin (zmin y1 y0) (v5 + (2048 : Int32)))), (0, .ref x0), (1, .int x1), (2, .int x2), (3, .ref x3), (4, .ref x4), (5, .int x5), (6, .int x6)]) hx hb dX6_fillColumn_202 hl (by decide) rfl (fun ls hl => ?_)
          exact w_X6_fillColumn_204 hB hk61 _ _ _ h (x0) (x1) (x2) (x3) (x4) (x5) (x6) ((zmin (zmin y1 y0) (v5 + (2048 : Int32)))) hG (lv_sub hl [1, 2, 3, 4, 5, 6, 7, 0] rfl) hf

set_option maxRecDepth 100000 in
set_option maxHeartbeats 4000000 in
theorem w_X6_fillColumn_61 {res : zh_H} (hB : zc_B p s m args meth c cX6_fillColumn 8 RX6 none D K) : ∀ n : Nat, ∀ (H : Heap) (locs : List Loc) (ls : Array Slot) (h : zh_H) (x0 : Nat) (x1 : Int32) (x2 : Int32) (x3 : Nat) (x4 : Nat) (x5 : Int32) (x6 : Int32), zh_G D K b0 N h s.heap H locs → lv_has ls 8 [(0, .ref x0), (1, .int x1), (2, .int x2), (3, .ref x3), (4, .ref x4), (5, .int x5), (6, .int x6)] → b_X6_fillColumn_61 n h x0 x1 x2 x3 x4 x5 x6 = some res → W p l e (zc_rm 1 0 0) s m args below meth c H locs 0 0 (MQ below (zc_Q D K b0 (zq none N res)) args s 0 0 (fun q => b0 ≤ q)) (F0 m 61 ls []) := by
  have hx := hB.1
  have hb := hB.2.1
  intro n
  induction n with
  | zero =>
    intro H locs ls h x0 x1 x2 x3 x4 x5 x6 hG hl hf
    cases hf
  | succ n ih =>
    intro H locs ls h x0 x1 x2 x3 x4 x5 x6 hG hl hf
    unfold b_X6_fillColumn_61 at hf
    refine lv_iload hx hb dX6_fillColumn_61 (lv_at hl 6 rfl) ?_
    refine lv_iload_n hx hb dX6_fillColumn_63 rfl (lv_at hl 2 rfl) ?_
    refine lv_icmp_gt (tgt := 219) hx hb dX6_fillColumn_64 (by decide) (fun hc11 => ?_) (fun hc11 => ?_)
    · rw [if_pos hc11] at hf
      obtain rfl := Option.some.inj hf
      exact zr_vret hB hG ⟨rfl, rfl, rfl⟩ dX6_fillColumn_219
    · rw [if_neg hc11] at hf
      refine lv_aload_n hx hb dX6_fillColumn_67 rfl (lv_at hl 0 rfl) ?_
      obtain ⟨a1, ea1, hf⟩ := zb hf
      refine zr_getR hB hG zF_6 (by decide) kf_X6_24 ea1 dX6_fillColumn_68 ?_
      refine lv_iload hx hb dX6_fillColumn_71 (lv_at hl 6 rfl) ?_
      obtain ⟨v2, ev2, hf⟩ := zb hf
      refine zr_iald hB hG ev2 dX6_fillColumn_73 ?_
      refine lv_aload_n hx hb dX6_fillColumn_74 rfl (lv_at hl 0 rfl) ?_
      obtain ⟨a3, ea3, hf⟩ := zb hf
      refine zr_getR hB hG zF_6 (by decide) kf_X6_20 ea3 dX6_fillColumn_75 ?_
      refine lv_iload hx hb dX6_fillColumn_78 (lv_at hl 6 rfl) ?_
      refine lv_iconst (v := 1) hx hb dX6_fillColumn_80 (by decide) ?_
      refine lv_isub hx hb dX6_fillColumn_81 ?_
      obtain ⟨v4, ev4, hf⟩ := zb hf
      refine zr_iald hB hG ev4 dX6_fillColumn_82 ?_
      refine zr_min km_X6_37 k_min k_Mi k_minc hl.1 hB dX6_fillColumn_83 (by decide) (Nat.le_of_ble_eq_true rfl) ⟨by decide, by decide⟩ ?_
      refine lv_sipush (v := 2048) hx hb dX6_fillColumn_86 (by decide) ?_
      refine lv_iadd hx hb dX6_fillColumn_89 ?_
      refine lv_istore (lv' := [(7, .int ((zmin v2 v4) + (2048 : Int32))), (0, .ref x0), (1, .int x1), (2, .int x2), (3, .ref x3), (4, .ref x4), (5, .int x5), (6, .int x6)]) hx hb dX6_fillColumn_90 hl (by decide) rfl (fun ls hl => ?_)
      refine lv_iload hx hb dX6_fillColumn_92 (lv_at hl 0 rfl) ?_
      refine lv_aload_n hx hb dX6_fillColumn_94 rfl (lv_at hl 4 rfl) ?_
      refine lv_iload hx hb dX6_fillColumn_95 (lv_at hl 7 rfl) ?_
      refine lv_iconst (v := 1) hx hb dX6_fillColumn_97 (by decide) ?_
      refine lv_isub hx hb dX6_fillColumn_98 ?_
      obtain ⟨u5, eu5, hf⟩ := zb hf
      refine zr_lald hB hG eu5 dX6_fillColumn_99 ?_
      refine lv_iload_n hx hb dX6_fillColumn_100 rfl (lv_at hl 2 rfl) ?_
      refine lv_lushr hx hb dX6_fillColumn_101 rfl ?_
      refine lv_lconst (v := 1) hx hb dX6_fillColumn_102 (by decide) ?_
      refine lv_land hx hb dX6_fillColumn_103 ?_
      refine lv_lconst (v := 0) hx hb dX6_fillColumn_104 (by decide) ?_
      refine W.lcmp hx hb dX6_fillColumn_105 ?_
      refine lv_if_eq (tgt := 121) hx hb dX6_fillColumn_106 (by decide) (fun hc10 => ?_) (fun hc10 => ?_)
      · rw [if_pos hc10] at hf
        refine lv_aload_n hx hb dX6_fillColumn_121 rfl (lv_at hl 1 rfl) ?_
        obtain ⟨a6, ea6, hf⟩ := zb hf
        refine zr_getR hB hG zF_6 (by decide) kf_X6_24 ea6 dX6_fillColumn_122 ?_
        refine lv_iload hx hb dX6_fillColumn_125 (lv_at hl 7 rfl) ?_
        refine lv_iconst (v := 1) hx hb dX6_fillColumn_127 (by decide) ?_
        refine lv_isub hx hb dX6_fillColumn_128 ?_
        obtain ⟨v7, ev7, hf⟩ := zb hf
        refine zr_iald hB hG ev7 dX6_fillColumn_129 ?_
        refine lv_sipush (v := 2048) hx hb dX6_fillColumn_130 (by decide) ?_
        refine lv_iadd hx hb dX6_fillColumn_133 ?_
        exact w_X6_fillColumn_134 hB ih _ _ _ h (x0) (x1) (x2) (x3) (x4) (x5) (x6) ((v7 + (2048 : Int32))) (((zmin v2 v4) + (2048 : Int32))) hG (lv_sub hl [1, 2, 3, 4, 5, 6, 7] rfl) hf
      · rw [if_neg hc10] at hf
        refine lv_aload_n hx hb dX6_fillColumn_109 rfl (lv_at hl 1 rfl) ?_
        obtain ⟨a8, ea8, hf⟩ := zb hf
        refine zr_getR hB hG zF_6 (by decide) kf_X6_24 ea8 dX6_fillColumn_110 ?_
        refine lv_iload hx hb dX6_fillColumn_113 (lv_at hl 7 rfl) ?_
        refine lv_iconst (v := 1) hx hb dX6_fillColumn_115 (by decide) ?_
        refine lv_isub hx hb dX6_fillColumn_116 ?_
        obtain ⟨v9, ev9, hf⟩ := zb hf
        refine zr_iald hB hG ev9 dX6_fillColumn_117 ?_
        refine lv_goto (tgt := 134) hx hb dX6_fillColumn_118 (by decide) ?_
        exact w_X6_fillColumn_134 hB ih _ _ _ h (x0) (x1) (x2) (x3) (x4) (x5) (x6) (v9) (((zmin v2 v4) + (2048 : Int32))) hG (lv_sub hl [1, 2, 3, 4, 5, 6, 7] rfl) hf

set_option maxRecDepth 100000 in
set_option maxHeartbeats 4000000 in
theorem w_X6_fillColumn_42 {res : zh_H} (hB : zc_B p s m args meth c cX6_fillColumn 8 RX6 none D K) : ∀ (H : Heap) (locs : List Loc) (ls : Array Slot) (h : zh_H) (x0 : Nat) (x1 : Int32) (x2 : Int32) (x3 : Nat) (x4 : Nat) (y0 : Int32), zh_G D K b0 N h s.heap H locs → lv_has ls 8 [(0, .ref x0), (1, .int x1), (2, .int x2), (3, .ref x3), (4, .ref x4)] → b_X6_fillColumn_42 h x0 x1 x2 x3 x4 y0 = some res → W p l e (zc_rm 1 0 0) s m args below meth c H locs 0 0 (MQ below (zc_Q D K b0 (zq none N res)) args s 0 0 (fun q => b0 ≤ q)) (F0 m 42 ls [.int y0]) := by
  have hx := hB.1
  have hb := hB.2.1
  intro H locs ls h x0 x1 x2 x3 x4 y0 hG hl hf
  unfold b_X6_fillColumn_42 at hf
  refine lv_istore (lv' := [(5, .int y0), (0, .ref x0), (1, .int x1), (2, .int x2), (3, .ref x3), (4, .ref x4)]) hx hb dX6_fillColumn_42 hl (by decide) rfl (fun ls hl => ?_)
  refine lv_aload_n hx hb dX6_fillColumn_44 rfl (lv_at hl 1 rfl) ?_
  obtain ⟨a1, ea1, hf⟩ := zb hf
  refine zr_getR hB hG zF_6 (by decide) kf_X6_20 ea1 dX6_fillColumn_45 ?_
  refine lv_iconst (v := 0) hx hb dX6_fillColumn_48 (by decide) ?_
  refine lv_iconst (v := 0) hx hb dX6_fillColumn_49 (by decide) ?_
  refine lv_aload_n hx hb dX6_fillColumn_50 rfl (lv_at hl 1 rfl) ?_
  obtain ⟨v2, ev2, hf⟩ := zb hf
  refine zr_getI hB hG zF_6 (by decide) kf_X6_53 ev2 dX6_fillColumn_51 ?_
  obtain ⟨v4, h3, eh3, hf⟩ := zbp_s hf
  refine zr_callS (As := [.int (0 : Int32), .int v2]) kc_X6_65 hB hG (c_X6_number eh3) rfl hl.1 rfl ⟨by decide, by decide⟩ (Nat.le_of_ble_eq_true rfl) ⟨by decide, by decide⟩ dX6_fillColumn_54 (fun H locs hG => ?_)
  obtain ⟨h5, eh5, hf⟩ := zb hf
  refine zr_iast hB hG eh5 dX6_fillColumn_57 (fun H locs hG => ?_)
  refine lv_iconst (v := 1) hx hb dX6_fillColumn_58 (by decide) ?_
  refine lv_istore (lv' := [(6, .int (1 : Int32)), (5, .int y0), (0, .ref x0), (1, .int x1), (2, .int x2), (3, .ref x3), (4, .ref x4)]) hx hb dX6_fillColumn_59 hl (by decide) rfl (fun ls hl => ?_)
  exact w_X6_fillColumn_61 hB zFuel _ _ _ h5 (x0) (x1) (x2) (x3) (x4) (y0) ((1 : Int32)) hG (lv_sub hl [2, 3, 4, 5, 6, 1, 0] rfl) hf

set_option maxRecDepth 100000 in
set_option maxHeartbeats 4000000 in
theorem w_X6_fillColumn_41 {res : zh_H} (hB : zc_B p s m args meth c cX6_fillColumn 8 RX6 none D K) : ∀ (H : Heap) (locs : List Loc) (ls : Array Slot) (h : zh_H) (x0 : Nat) (x1 : Int32) (x2 : Int32) (x3 : Nat) (x4 : Nat), zh_G D K b0 N h s.heap H locs → lv_has ls 8 [(0, .ref x0), (1, .int x1), (2, .int x2), (3, .ref x3), (4, .ref x4)] → b_X6_fillColumn_41 h x0 x1 x2 x3 x4 = some res → W p l e (zc_rm 1 0 0) s m args below meth c H locs 0 0 (MQ below (zc_Q D K b0 (zq none N res)) args s 0 0 (fun q => b0 ≤ q)) (F0 m 41 ls []) := by
  have hx := hB.1
  have hb := hB.2.1
  intro H locs ls h x0 x1 x2 x3 x4 hG hl hf
  unfold b_X6_fillColumn_41 at hf
  refine lv_iconst (v := 0) hx hb dX6_fillColumn_41 (by decide) ?_
  exact w_X6_fillColumn_42 hB _ _ _ h (x0) (x1) (x2) (x3) (x4) ((0 : Int32)) hG (lv_sub hl [0, 1, 2, 3, 4] rfl) hf

set_option maxRecDepth 100000 in
set_option maxHeartbeats 4000000 in
theorem w_X6_fillColumn_0 {res : zh_H} (hB : zc_B p s m args meth c cX6_fillColumn 8 RX6 none D K) : ∀ (H : Heap) (locs : List Loc) (ls : Array Slot) (h : zh_H) (x0 : Nat) (x1 : Int32) (x2 : Int32), zh_G D K b0 N h s.heap H locs → lv_has ls 8 [(0, .ref x0), (1, .int x1), (2, .int x2)] → b_X6_fillColumn_0 h x0 x1 x2 = some res → W p l e (zc_rm 1 0 0) s m args below meth c H locs 0 0 (MQ below (zc_Q D K b0 (zq none N res)) args s 0 0 (fun q => b0 ≤ q)) (F0 m 0 ls []) := by
  have hx := hB.1
  have hb := hB.2.1
  intro H locs ls h x0 x1 x2 hG hl hf
  unfold b_X6_fillColumn_0 at hf
  refine lv_aload_n hx hb dX6_fillColumn_0 rfl (lv_at hl 0 rfl) ?_
  obtain ⟨a1, ea1, hf⟩ := zb hf
  refine zr_getR hB hG zF_6 (by decide) kf_X6_14 ea1 dX6_fillColumn_1 ?_
  refine lv_iload_n hx hb dX6_fillColumn_4 rfl (lv_at hl 1 rfl) ?_
  obtain ⟨o2, eo2, hf⟩ := zb hf
  obtain ⟨a4, h3, eh3, hf⟩ := zbp_s hf
  refine zr_callV (As := [.int x1]) kc_X6_78 hB hG (c_X7_half eh3) eo2 rfl hl.1 rfl ⟨by decide, by decide⟩ (Nat.le_of_ble_eq_true rfl) ⟨by decide, by decide⟩ dX6_fillColumn_5 (fun H locs hG => ?_)
  refine lv_astore_n (lv' := [(3, .ref a4), (0, .ref x0), (1, .int x1), (2, .int x2)]) hx hb dX6_fillColumn_8 rfl hl (by decide) rfl (fun ls hl => ?_)
  refine lv_aload_n hx hb dX6_fillColumn_9 rfl (lv_at hl 1 rfl) ?_
  obtain ⟨a5, ea5, hf⟩ := zb hf
  refine zr_getR hB hG zF_6 (by decide) kf_X6_14 ea5 dX6_fillColumn_10 ?_
  refine lv_aload_n hx hb dX6_fillColumn_13 rfl (lv_at hl 1 rfl) ?_
  obtain ⟨v6, ev6, hf⟩ := zb hf
  refine zr_getI hB hG zF_6 (by decide) kf_X6_30 ev6 dX6_fillColumn_14 ?_
  obtain ⟨o7, eo7, hf⟩ := zb hf
  obtain ⟨a9, h8, eh8, hf⟩ := zbp_s hf
  refine zr_callV (As := [.int v6]) kc_X6_78 hB hG (c_X7_half eh8) eo7 rfl hl.1 rfl ⟨by decide, by decide⟩ (Nat.le_of_ble_eq_true rfl) ⟨by decide, by decide⟩ dX6_fillColumn_17 (fun H locs hG => ?_)
  refine lv_astore (lv' := [(4, .ref a9), (3, .ref a4), (0, .ref x0), (1, .int x1), (2, .int x2)]) hx hb dX6_fillColumn_20 hl (by decide) rfl (fun ls hl => ?_)
  refine lv_aload_n hx hb dX6_fillColumn_22 rfl (lv_at hl 2 rfl) ?_
  obtain ⟨v10, ev10, hf⟩ := zb hf
  refine zr_getI hB hG zF_6 (by decide) kf_X6_49 ev10 dX6_fillColumn_23 ?_
  refine lv_if_eq (tgt := 41) hx hb dX6_fillColumn_26 (by decide) (fun hc13 => ?_) (fun hc13 => ?_)
  · rw [if_pos hc13] at hf
    exact w_X6_fillColumn_41 hB _ _ _ h8 (x0) (x1) (x2) (a4) (a9) hG (lv_sub hl [2, 3, 4, 1, 0] rfl) hf
  · rw [if_neg hc13] at hf
    refine lv_aload_n hx hb dX6_fillColumn_29 rfl (lv_at hl 2 rfl) ?_
    obtain ⟨v11, ev11, hf⟩ := zb hf
    refine zr_getI hB hG zF_6 (by decide) kf_X6_56 ev11 dX6_fillColumn_30 ?_
    refine lv_iconst (v := 1) hx hb dX6_fillColumn_33 (by decide) ?_
    refine lv_icmp_le (tgt := 41) hx hb dX6_fillColumn_34 (by decide) (fun hc12 => ?_) (fun hc12 => ?_)
    · rw [if_pos hc12] at hf
      exact w_X6_fillColumn_41 hB _ _ _ h8 (x0) (x1) (x2) (a4) (a9) hG (lv_sub hl [2, 3, 4, 1, 0] rfl) hf
    · rw [if_neg hc12] at hf
      refine lv_iconst (v := 1) hx hb dX6_fillColumn_37 (by decide) ?_
      refine lv_goto (tgt := 42) hx hb dX6_fillColumn_38 (by decide) ?_
      exact w_X6_fillColumn_42 hB _ _ _ h8 (x0) (x1) (x2) (a4) (a9) ((1 : Int32)) hG (lv_sub hl [2, 3, 4, 1, 0] rfl) hf
end G_X6_fillColumn
theorem c_X6_fillColumn {l : Launch} {D : va_G} {K : Nat → ClassId} {b0 N : Nat} {h : zh_H} {x0 : Nat} {x1 : Int32} {x2 : Int32} {h2 : zh_H} (hf : b_X6_fillColumn_0 h x0 x1 x2 = some h2) : zc l yX6_fillColumn cX6_fillColumn 8 none 1 0 0 D K b0 N h [.ref x0, .int x1, .int x2] (zq none N h2) := by
  refine zc.of [(0, .ref x0), (1, .int x1), (2, .int x2)] (by decide) rfl (Nat.le_of_ble_eq_true rfl) ?_
  intro p e s m args below meth c hB hnm hG ls hl
  exact w_X6_fillColumn_0 (res := h2) hB _ _ ls h x0 x1 x2 hG (lv_sub hl [0, 1, 2] rfl) hf

section G_X6_lowerTop
variable {p : Program} {l : Launch} {e : Env} {s : State} {m : MethodId} {args : Array Value} {below : List Frame} {meth : Method} {c : Code} {D : va_G} {K : Nat → ClassId} {b0 N : Nat}
set_option maxRecDepth 100000 in
set_option maxHeartbeats 4000000 in
theorem w_X6_lowerTop_45 {res : zh_H} (hB : zc_B p s m args meth c cX6_lowerTop 2 RX6 none D K) : ∀ (H : Heap) (locs : List Loc) (ls : Array Slot) (h : zh_H), zh_G D K b0 N h s.heap H locs → lv_has ls 2 [] → b_X6_lowerTop_45 h  = some res → W p l e (zc_rm 0 0 0) s m args below meth c H locs 0 0 (MQ below (zc_Q D K b0 (zq none N res)) args s 0 0 (fun q => b0 ≤ q)) (F0 m 45 ls []) := by
  have hx := hB.1
  have hb := hB.2.1
  intro H locs ls h  hG hl hf
  unfold b_X6_lowerTop_45 at hf
  obtain rfl := Option.some.inj hf
  exact zr_vret hB hG ⟨rfl, rfl, rfl⟩ dX6_lowerTop_45

set_option maxRecDepth 100000 in
set_option maxHeartbeats 4000000 in
theorem w_X6_lowerTop_5 {res : zh_H} (hB : zc_B p s m args meth c cX6_lowerTop 2 RX6 none D K) : ∀ n : Nat, ∀ (H : Heap) (locs : List Loc) (ls : Array Slot) (h : zh_H) (x0 : Nat), zh_G D K b0 N h s.heap H locs → lv_has ls 2 [(0, .ref x0)] → b_X6_lowerTop_5 n h x0 = some res → W p l e (zc_rm 0 0 0) s m args below meth c H locs 0 0 (MQ below (zc_Q D K b0 (zq none N res)) args s 0 0 (fun q => b0 ≤ q)) (F0 m 5 ls []) := by
  have hx := hB.1
  have hb := hB.2.1
  intro n
  induction n with
  | zero =>
    intro H locs ls h x0 hG hl hf
    cases hf
  | succ n ih =>
    intro H locs ls h x0 hG hl hf
    unfold b_X6_lowerTop_5 at hf
    refine lv_aload_n hx hb dX6_lowerTop_5 rfl (lv_at hl 0 rfl) ?_
    obtain ⟨v1, ev1, hf⟩ := zb hf
    refine zr_getI hB hG zF_6 (by decide) kf_X6_62 ev1 dX6_lowerTop_6 ?_
    refine lv_if_le (tgt := 45) hx hb dX6_lowerTop_9 (by decide) (fun hc9 => ?_) (fun hc9 => ?_)
    · rw [if_pos hc9] at hf
      exact w_X6_lowerTop_45 hB _ _ _ h  hG (lv_sub hl [] rfl) hf
    · rw [if_neg hc9] at hf
      refine lv_aload_n hx hb dX6_lowerTop_12 rfl (lv_at hl 0 rfl) ?_
      obtain ⟨a2, ea2, hf⟩ := zb hf
      refine zr_getR hB hG zF_6 (by decide) kf_X6_20 ea2 dX6_lowerTop_13 ?_
      refine lv_aload_n hx hb dX6_lowerTop_16 rfl (lv_at hl 0 rfl) ?_
      obtain ⟨v3, ev3, hf⟩ := zb hf
      refine zr_getI hB hG zF_6 (by decide) kf_X6_62 ev3 dX6_lowerTop_17 ?_
      obtain ⟨v4, ev4, hf⟩ := zb hf
      refine zr_iald hB hG ev4 dX6_lowerTop_20 ?_
      refine lv_sipush (v := 2048) hx hb dX6_lowerTop_21 (by decide) ?_
      refine lv_idiv hx hb dX6_lowerTop_24 (by decide) ?_
      refine lv_aload_n hx hb dX6_lowerTop_25 rfl (lv_at hl 0 rfl) ?_
      obtain ⟨v5, ev5, hf⟩ := zb hf
      refine zr_getI hB hG zF_6 (by decide) kf_X6_46 ev5 dX6_lowerTop_26 ?_
      refine lv_icmp_le (tgt := 45) hx hb dX6_lowerTop_29 (by decide) (fun hc8 => ?_) (fun hc8 => ?_)
      · rw [if_pos hc8] at hf
        exact w_X6_lowerTop_45 hB _ _ _ h  hG (lv_sub hl [] rfl) hf
      · rw [if_neg hc8] at hf
        refine lv_aload_n hx hb dX6_lowerTop_32 rfl (lv_at hl 0 rfl) ?_
        refine lv_dup hx hb dX6_lowerTop_33 rfl ?_
        obtain ⟨v6, ev6, hf⟩ := zb hf
        refine zr_getI hB hG zF_6 (by decide) kf_X6_62 ev6 dX6_lowerTop_34 ?_
        refine lv_iconst (v := 1) hx hb dX6_lowerTop_37 (by decide) ?_
        refine lv_isub hx hb dX6_lowerTop_38 ?_
        obtain ⟨h7, eh7, hf⟩ := zb hf
        refine zr_put hB hG zF_6 (by decide) kf_X6_62 rfl rfl rfl eh7 dX6_lowerTop_39 (fun H locs hG => ?_)
        refine lv_goto (tgt := 5) hx hb dX6_lowerTop_42 (by decide) ?_
        exact ih _ _ _ h7 (x0) hG (lv_sub hl [0] rfl) hf

set_option maxRecDepth 100000 in
set_option maxHeartbeats 4000000 in
theorem w_X6_lowerTop_0 {res : zh_H} (hB : zc_B p s m args meth c cX6_lowerTop 2 RX6 none D K) : ∀ (H : Heap) (locs : List Loc) (ls : Array Slot) (h : zh_H) (x0 : Nat) (x1 : Int32), zh_G D K b0 N h s.heap H locs → lv_has ls 2 [(0, .ref x0), (1, .int x1)] → b_X6_lowerTop_0 h x0 x1 = some res → W p l e (zc_rm 0 0 0) s m args below meth c H locs 0 0 (MQ below (zc_Q D K b0 (zq none N res)) args s 0 0 (fun q => b0 ≤ q)) (F0 m 0 ls []) := by
  have hx := hB.1
  have hb := hB.2.1
  intro H locs ls h x0 x1 hG hl hf
  unfold b_X6_lowerTop_0 at hf
  refine lv_aload_n hx hb dX6_lowerTop_0 rfl (lv_at hl 0 rfl) ?_
  refine lv_iload_n hx hb dX6_lowerTop_1 rfl (lv_at hl 1 rfl) ?_
  obtain ⟨h1, eh1, hf⟩ := zb hf
  refine zr_put hB hG zF_6 (by decide) kf_X6_62 rfl rfl rfl eh1 dX6_lowerTop_2 (fun H locs hG => ?_)
  exact w_X6_lowerTop_5 hB zFuel _ _ _ h1 (x0) hG (lv_sub hl [0] rfl) hf
end G_X6_lowerTop
theorem c_X6_lowerTop {l : Launch} {D : va_G} {K : Nat → ClassId} {b0 N : Nat} {h : zh_H} {x0 : Nat} {x1 : Int32} {h2 : zh_H} (hf : b_X6_lowerTop_0 h x0 x1 = some h2) : zc l yX6_lowerTop cX6_lowerTop 2 none 0 0 0 D K b0 N h [.ref x0, .int x1] (zq none N h2) := by
  refine zc.of [(0, .ref x0), (1, .int x1)] (by decide) rfl (Nat.le_of_ble_eq_true rfl) ?_
  intro p e s m args below meth c hB hnm hG ls hl
  exact w_X6_lowerTop_0 (res := h2) hB _ _ ls h x0 x1 hG (lv_sub hl [0, 1] rfl) hf

section G_X6_feed
variable {p : Program} {l : Launch} {e : Env} {s : State} {m : MethodId} {args : Array Value} {below : List Frame} {meth : Method} {c : Code} {D : va_G} {K : Nat → ClassId} {b0 N : Nat}
set_option maxRecDepth 100000 in
set_option maxHeartbeats 4000000 in
theorem w_X6_feed_0 {res : zh_H} (hB : zc_B p s m args meth c cX6_feed 4 RX6 none D K) : ∀ (H : Heap) (locs : List Loc) (ls : Array Slot) (h : zh_H) (x0 : Nat) (x1 : Int32), zh_G D K b0 N h s.heap H locs → lv_has ls 4 [(0, .ref x0), (1, .int x1)] → b_X6_feed_0 h x0 x1 = some res → W p l e (zc_rm 2 0 0) s m args below meth c H locs 0 0 (MQ below (zc_Q D K b0 (zq none N res)) args s 0 0 (fun q => b0 ≤ q)) (F0 m 0 ls []) := by
  have hx := hB.1
  have hb := hB.2.1
  intro H locs ls h x0 x1 hG hl hf
  unfold b_X6_feed_0 at hf
  refine lv_aload_n hx hb dX6_feed_0 rfl (lv_at hl 0 rfl) ?_
  obtain ⟨a1, ea1, hf⟩ := zb hf
  refine zr_getR hB hG zF_6 (by decide) kf_X6_27 ea1 dX6_feed_1 ?_
  refine lv_astore_n (lv' := [(2, .ref a1), (0, .ref x0), (1, .int x1)]) hx hb dX6_feed_4 rfl hl (by decide) rfl (fun ls hl => ?_)
  refine lv_aload_n hx hb dX6_feed_5 rfl (lv_at hl 1 rfl) ?_
  refine lv_aload_n hx hb dX6_feed_6 rfl (lv_at hl 1 rfl) ?_
  obtain ⟨a2, ea2, hf⟩ := zb hf
  refine zr_getR hB hG zF_6 (by decide) kf_X6_24 ea2 dX6_feed_7 ?_
  obtain ⟨h3, eh3, hf⟩ := zb hf
  refine zr_put hB hG zF_6 (by decide) kf_X6_27 rfl rfl rfl eh3 dX6_feed_10 (fun H locs hG => ?_)
  refine lv_aload_n hx hb dX6_feed_13 rfl (lv_at hl 1 rfl) ?_
  refine lv_aload_n hx hb dX6_feed_14 rfl (lv_at hl 1 rfl) ?_
  obtain ⟨a4, ea4, hf⟩ := zb hf
  refine zr_getR hB hG zF_6 (by decide) kf_X6_20 ea4 dX6_feed_15 ?_
  obtain ⟨h5, eh5, hf⟩ := zb hf
  refine zr_put hB hG zF_6 (by decide) kf_X6_24 rfl rfl rfl eh5 dX6_feed_18 (fun H locs hG => ?_)
  refine lv_aload_n hx hb dX6_feed_21 rfl (lv_at hl 1 rfl) ?_
  refine lv_aload_n hx hb dX6_feed_22 rfl (lv_at hl 0 rfl) ?_
  obtain ⟨h6, eh6, hf⟩ := zb hf
  refine zr_put hB hG zF_6 (by decide) kf_X6_20 rfl rfl rfl eh6 dX6_feed_23 (fun H locs hG => ?_)
  refine lv_aload_n hx hb dX6_feed_26 rfl (lv_at hl 1 rfl) ?_
  refine lv_dup hx hb dX6_feed_27 rfl ?_
  obtain ⟨v7, ev7, hf⟩ := zb hf
  refine zr_getI hB hG zF_6 (by decide) kf_X6_53 ev7 dX6_feed_28 ?_
  refine lv_iconst (v := 1) hx hb dX6_feed_31 (by decide) ?_
  refine lv_iadd hx hb dX6_feed_32 ?_
  obtain ⟨h8, eh8, hf⟩ := zb hf
  refine zr_put hB hG zF_6 (by decide) kf_X6_53 rfl rfl rfl eh8 dX6_feed_33 (fun H locs hG => ?_)
  refine lv_aload_n hx hb dX6_feed_36 rfl (lv_at hl 1 rfl) ?_
  refine lv_dup hx hb dX6_feed_37 rfl ?_
  obtain ⟨v9, ev9, hf⟩ := zb hf
  refine zr_getI hB hG zF_6 (by decide) kf_X6_56 ev9 dX6_feed_38 ?_
  refine lv_iconst (v := 1) hx hb dX6_feed_41 (by decide) ?_
  refine lv_iadd hx hb dX6_feed_42 ?_
  obtain ⟨h10, eh10, hf⟩ := zb hf
  refine zr_put hB hG zF_6 (by decide) kf_X6_56 rfl rfl rfl eh10 dX6_feed_43 (fun H locs hG => ?_)
  refine lv_aload_n hx hb dX6_feed_46 rfl (lv_at hl 1 rfl) ?_
  obtain ⟨v11, ev11, hf⟩ := zb hf
  refine zr_getI hB hG zF_6 (by decide) kf_X6_43 ev11 dX6_feed_47 ?_
  refine lv_aload_n hx hb dX6_feed_50 rfl (lv_at hl 1 rfl) ?_
  obtain ⟨v12, ev12, hf⟩ := zb hf
  refine zr_getI hB hG zF_6 (by decide) kf_X6_62 ev12 dX6_feed_51 ?_
  refine lv_iconst (v := 1) hx hb dX6_feed_54 (by decide) ?_
  refine lv_iadd hx hb dX6_feed_55 ?_
  refine zr_min km_X6_37 k_min k_Mi k_minc hl.1 hB dX6_feed_56 (by decide) (Nat.le_of_ble_eq_true rfl) ⟨by decide, by decide⟩ ?_
  refine lv_istore_n (lv' := [(3, .int (zmin v11 (v12 + (1 : Int32)))), (2, .ref a1), (0, .ref x0), (1, .int x1)]) hx hb dX6_feed_59 rfl hl (by decide) rfl (fun ls hl => ?_)
  refine lv_aload_n hx hb dX6_feed_60 rfl (lv_at hl 2 rfl) ?_
  refine lv_iload_n hx hb dX6_feed_61 rfl (lv_at hl 3 rfl) ?_
  refine lv_iload_n hx hb dX6_feed_62 rfl (lv_at hl 0 rfl) ?_
  obtain ⟨o13, eo13, hf⟩ := zb hf
  obtain ⟨h14, eh14, hf⟩ := zb hf
  refine zr_callVv (As := [.int x1, .int (zmin v11 (v12 + (1 : Int32)))]) kc_X6_71 hB hG (c_X6_fillColumn eh14) eo13 rfl hl.1 rfl ⟨by decide, by decide⟩ (Nat.le_of_ble_eq_true rfl) ⟨by decide, by decide⟩ dX6_feed_63 (fun H locs hG => ?_)
  refine lv_aload_n hx hb dX6_feed_66 rfl (lv_at hl 2 rfl) ?_
  refine lv_iload_n hx hb dX6_feed_67 rfl (lv_at hl 0 rfl) ?_
  obtain ⟨o15, eo15, hf⟩ := zb hf
  obtain ⟨h16, eh16, hf⟩ := zb hf
  refine zr_callVv (As := [.int (zmin v11 (v12 + (1 : Int32)))]) kc_X6_68 hB hG (c_X6_closeAbove eh16) eo15 rfl hl.1 rfl ⟨by decide, by decide⟩ (Nat.le_of_ble_eq_true rfl) ⟨by decide, by decide⟩ dX6_feed_68 (fun H locs hG => ?_)
  refine lv_aload_n hx hb dX6_feed_71 rfl (lv_at hl 2 rfl) ?_
  refine lv_iload_n hx hb dX6_feed_72 rfl (lv_at hl 0 rfl) ?_
  obtain ⟨o17, eo17, hf⟩ := zb hf
  obtain ⟨h18, eh18, hf⟩ := zb hf
  refine zr_callVv (As := [.int (zmin v11 (v12 + (1 : Int32)))]) kc_X6_75 hB hG (c_X6_lowerTop eh18) eo17 rfl hl.1 rfl ⟨by decide, by decide⟩ (Nat.le_of_ble_eq_true rfl) ⟨by decide, by decide⟩ dX6_feed_73 (fun H locs hG => ?_)
  refine lv_aload_n hx hb dX6_feed_76 rfl (lv_at hl 2 rfl) ?_
  refine lv_iload_n hx hb dX6_feed_77 rfl (lv_at hl 3 rfl) ?_
  obtain ⟨h19, eh19, hf⟩ := zb hf
  refine zr_put hB hG zF_6 (by decide) kf_X6_30 rfl rfl rfl eh19 dX6_feed_78 (fun H locs hG => ?_)
  obtain rfl := Option.some.inj hf
  exact zr_vret hB hG ⟨rfl, rfl, rfl⟩ dX6_feed_81
end G_X6_feed
theorem c_X6_feed {l : Launch} {D : va_G} {K : Nat → ClassId} {b0 N : Nat} {h : zh_H} {x0 : Nat} {x1 : Int32} {h2 : zh_H} (hf : b_X6_feed_0 h x0 x1 = some h2) : zc l yX6_feed cX6_feed 4 none 2 0 0 D K b0 N h [.ref x0, .int x1] (zq none N h2) := by
  refine zc.of [(0, .ref x0), (1, .int x1)] (by decide) rfl (Nat.le_of_ble_eq_true rfl) ?_
  intro p e s m args below meth c hB hnm hG ls hl
  exact w_X6_feed_0 (res := h2) hB _ _ ls h x0 x1 hG (lv_sub hl [0, 1] rfl) hf

section G_X6_isHit
variable {p : Program} {l : Launch} {e : Env} {s : State} {m : MethodId} {args : Array Value} {below : List Frame} {meth : Method} {c : Code} {D : va_G} {K : Nat → ClassId} {b0 N : Nat}
set_option maxRecDepth 100000 in
set_option maxHeartbeats 4000000 in
theorem w_X6_isHit_16 {res : (Int32 × zh_H)} (hB : zc_B p s m args meth c cX6_isHit 1 RX6 (some .boolean) D K) : ∀ (H : Heap) (locs : List Loc) (ls : Array Slot) (h : zh_H) (y0 : Int32), zh_G D K b0 N h s.heap H locs → lv_has ls 1 [] → b_X6_isHit_16 h y0 = some res → W p l e (zc_rm 0 0 0) s m args below meth c H locs 0 0 (MQ below (zc_Q D K b0 (zq (some (.int res.1)) N res.2)) args s 0 0 (fun q => b0 ≤ q)) (F0 m 16 ls [.int y0]) := by
  have hx := hB.1
  have hb := hB.2.1
  intro H locs ls h y0 hG hl hf
  unfold b_X6_isHit_16 at hf
  obtain ⟨hz, hf⟩ := zif_s hf
  obtain rfl := Option.some.inj hf
  exact zr_zret hB hG hz ⟨rfl, rfl, rfl⟩ dX6_isHit_16

set_option maxRecDepth 100000 in
set_option maxHeartbeats 4000000 in
theorem w_X6_isHit_0 {res : (Int32 × zh_H)} (hB : zc_B p s m args meth c cX6_isHit 1 RX6 (some .boolean) D K) : ∀ (H : Heap) (locs : List Loc) (ls : Array Slot) (h : zh_H) (x0 : Nat), zh_G D K b0 N h s.heap H locs → lv_has ls 1 [(0, .ref x0)] → b_X6_isHit_0 h x0 = some res → W p l e (zc_rm 0 0 0) s m args below meth c H locs 0 0 (MQ below (zc_Q D K b0 (zq (some (.int res.1)) N res.2)) args s 0 0 (fun q => b0 ≤ q)) (F0 m 0 ls []) := by
  have hx := hB.1
  have hb := hB.2.1
  intro H locs ls h x0 hG hl hf
  unfold b_X6_isHit_0 at hf
  refine lv_aload_n hx hb dX6_isHit_0 rfl (lv_at hl 0 rfl) ?_
  obtain ⟨v1, ev1, hf⟩ := zb hf
  refine zr_getI hB hG zF_6 (by decide) kf_X6_62 ev1 dX6_isHit_1 ?_
  refine lv_aload_n hx hb dX6_isHit_4 rfl (lv_at hl 0 rfl) ?_
  obtain ⟨v2, ev2, hf⟩ := zb hf
  refine zr_getI hB hG zF_6 (by decide) kf_X6_43 ev2 dX6_isHit_5 ?_
  refine lv_icmp_ne (tgt := 15) hx hb dX6_isHit_8 (by decide) (fun hc3 => ?_) (fun hc3 => ?_)
  · rw [if_neg hc3] at hf
    refine lv_iconst (v := 0) hx hb dX6_isHit_15 (by decide) ?_
    exact w_X6_isHit_16 hB _ _ _ h ((0 : Int32)) hG (lv_sub hl [] rfl) hf
  · rw [if_pos hc3] at hf
    refine lv_iconst (v := 1) hx hb dX6_isHit_11 (by decide) ?_
    refine lv_goto (tgt := 16) hx hb dX6_isHit_12 (by decide) ?_
    exact w_X6_isHit_16 hB _ _ _ h ((1 : Int32)) hG (lv_sub hl [] rfl) hf
end G_X6_isHit
theorem c_X6_isHit {l : Launch} {D : va_G} {K : Nat → ClassId} {b0 N : Nat} {h : zh_H} {x0 : Nat} {r : Int32} {h2 : zh_H} (hf : b_X6_isHit_0 h x0 = some (r, h2)) : zc l yX6_isHit cX6_isHit 1 (some .boolean) 0 0 0 D K b0 N h [.ref x0] (zq (some (.int r)) N h2) := by
  refine zc.of [(0, .ref x0)] (by decide) rfl (Nat.le_of_ble_eq_true rfl) ?_
  intro p e s m args below meth c hB hnm hG ls hl
  exact w_X6_isHit_0 (res := (r, h2)) hB _ _ ls h x0 hG (lv_sub hl [0] rfl) hf

section G_X6_beginning
variable {p : Program} {l : Launch} {e : Env} {s : State} {m : MethodId} {args : Array Value} {below : List Frame} {meth : Method} {c : Code} {D : va_G} {K : Nat → ClassId} {b0 N : Nat}
set_option maxRecDepth 100000 in
set_option maxHeartbeats 4000000 in
theorem w_X6_beginning_0 {res : (Int32 × zh_H)} (hB : zc_B p s m args meth c cX6_beginning 1 RX6 (some .int) D K) : ∀ (H : Heap) (locs : List Loc) (ls : Array Slot) (h : zh_H) (x0 : Nat), zh_G D K b0 N h s.heap H locs → lv_has ls 1 [(0, .ref x0)] → b_X6_beginning_0 h x0 = some res → W p l e (zc_rm 0 0 0) s m args below meth c H locs 0 0 (MQ below (zc_Q D K b0 (zq (some (.int res.1)) N res.2)) args s 0 0 (fun q => b0 ≤ q)) (F0 m 0 ls []) := by
  have hx := hB.1
  have hb := hB.2.1
  intro H locs ls h x0 hG hl hf
  unfold b_X6_beginning_0 at hf
  refine lv_sipush (v := 2047) hx hb dX6_beginning_0 (by decide) ?_
  refine lv_aload_n hx hb dX6_beginning_3 rfl (lv_at hl 0 rfl) ?_
  obtain ⟨a1, ea1, hf⟩ := zb hf
  refine zr_getR hB hG zF_6 (by decide) kf_X6_20 ea1 dX6_beginning_4 ?_
  refine lv_aload_n hx hb dX6_beginning_7 rfl (lv_at hl 0 rfl) ?_
  obtain ⟨v2, ev2, hf⟩ := zb hf
  refine zr_getI hB hG zF_6 (by decide) kf_X6_43 ev2 dX6_beginning_8 ?_
  obtain ⟨v3, ev3, hf⟩ := zb hf
  refine zr_iald hB hG ev3 dX6_beginning_11 ?_
  refine lv_sipush (v := 2048) hx hb dX6_beginning_12 (by decide) ?_
  refine lv_irem hx hb dX6_beginning_15 (by decide) ?_
  refine lv_isub hx hb dX6_beginning_16 ?_
  obtain rfl := Option.some.inj hf
  exact zr_iret hB hG ⟨rfl, rfl, rfl⟩ dX6_beginning_17
end G_X6_beginning
theorem c_X6_beginning {l : Launch} {D : va_G} {K : Nat → ClassId} {b0 N : Nat} {h : zh_H} {x0 : Nat} {r : Int32} {h2 : zh_H} (hf : b_X6_beginning_0 h x0 = some (r, h2)) : zc l yX6_beginning cX6_beginning 1 (some .int) 0 0 0 D K b0 N h [.ref x0] (zq (some (.int r)) N h2) := by
  refine zc.of [(0, .ref x0)] (by decide) rfl (Nat.le_of_ble_eq_true rfl) ?_
  intro p e s m args below meth c hB hnm hG ls hl
  exact w_X6_beginning_0 (res := (r, h2)) hB _ _ ls h x0 hG (lv_sub hl [0] rfl) hf

section G_X10_draftReplaced
variable {p : Program} {l : Launch} {e : Env} {s : State} {m : MethodId} {args : Array Value} {below : List Frame} {meth : Method} {c : Code} {D : va_G} {K : Nat → ClassId} {b0 N : Nat}
set_option maxRecDepth 100000 in
set_option maxHeartbeats 4000000 in
theorem w_X10_draftReplaced_114 {res : (Int32 × zh_H)} (hB : zc_B p s m args meth c cX10_draftReplaced 4 RX10 (some .int) D K) : ∀ (H : Heap) (locs : List Loc) (ls : Array Slot) (h : zh_H), zh_G D K b0 N h s.heap H locs → lv_has ls 4 [] → b_X10_draftReplaced_114 h  = some res → W p l e (zc_rm 3 0 0) s m args below meth c H locs 0 0 (MQ below (zc_Q D K b0 (zq (some (.int res.1)) N res.2)) args s 0 0 (fun q => b0 ≤ q)) (F0 m 114 ls []) := by
  have hx := hB.1
  have hb := hB.2.1
  intro H locs ls h  hG hl hf
  unfold b_X10_draftReplaced_114 at hf
  refine lv_bipush (v := -3) hx hb dX10_draftReplaced_114 (by decide) ?_
  obtain rfl := Option.some.inj hf
  exact zr_iret hB hG ⟨rfl, rfl, rfl⟩ dX10_draftReplaced_116

set_option maxRecDepth 100000 in
set_option maxHeartbeats 4000000 in
theorem w_X10_draftReplaced_130 {res : (Int32 × zh_H)} (hB : zc_B p s m args meth c cX10_draftReplaced 4 RX10 (some .int) D K) {k21 : zh_H → Nat → Int32 → Int32 → Int32 → Option (Int32 × zh_H)} (hk21 : ∀ (H : Heap) (locs : List Loc) (ls : Array Slot) (h : zh_H) (x0 : Nat) (x1 : Int32) (x2 : Int32) (x3 : Int32), zh_G D K b0 N h s.heap H locs → lv_has ls 4 [(0, .ref x0), (1, .int x1), (2, .int x2), (3, .int x3)] → k21 h x0 x1 x2 x3 = some res → W p l e (zc_rm 3 0 0) s m args below meth c H locs 0 0 (MQ below (zc_Q D K b0 (zq (some (.int res.1)) N res.2)) args s 0 0 (fun q => b0 ≤ q)) (F0 m 21 ls [])) : ∀ (H : Heap) (locs : List Loc) (ls : Array Slot) (h : zh_H) (x0 : Nat) (x1 : Int32) (x2 : Int32) (x3 : Int32), zh_G D K b0 N h s.heap H locs → lv_has ls 4 [(0, .ref x0), (1, .int x1), (2, .int x2), (3, .int x3)] → b_X10_draftReplaced_130 k21 h x0 x1 x2 x3 = some res → W p l e (zc_rm 3 0 0) s m args below meth c H locs 0 0 (MQ below (zc_Q D K b0 (zq (some (.int res.1)) N res.2)) args s 0 0 (fun q => b0 ≤ q)) (F0 m 130 ls []) := by
  have hx := hB.1
  have hb := hB.2.1
  intro H locs ls h x0 x1 x2 x3 hG hl hf
  unfold b_X10_draftReplaced_130 at hf
  refine lv_iinc (v := (x3 + (1 : Int32))) (lv' := [(3, .int (x3 + (1 : Int32))), (0, .ref x0), (1, .int x1), (2, .int x2)]) hx hb dX10_draftReplaced_130 hl (k := 3) rfl rfl (by decide) rfl (fun ls hl => ?_)
  refine lv_goto (tgt := 21) hx hb dX10_draftReplaced_133 (by decide) ?_
  exact hk21 _ _ _ h (x0) (x1) (x2) ((x3 + (1 : Int32))) hG (lv_sub hl [1, 2, 3, 0] rfl) hf

set_option maxRecDepth 100000 in
set_option maxHeartbeats 4000000 in
theorem w_X10_draftReplaced_164 {res : (Int32 × zh_H)} (hB : zc_B p s m args meth c cX10_draftReplaced 4 RX10 (some .int) D K) : ∀ (H : Heap) (locs : List Loc) (ls : Array Slot) (h : zh_H) (y0 : Int32), zh_G D K b0 N h s.heap H locs → lv_has ls 4 [] → b_X10_draftReplaced_164 h y0 = some res → W p l e (zc_rm 3 0 0) s m args below meth c H locs 0 0 (MQ below (zc_Q D K b0 (zq (some (.int res.1)) N res.2)) args s 0 0 (fun q => b0 ≤ q)) (F0 m 164 ls [.int y0]) := by
  have hx := hB.1
  have hb := hB.2.1
  intro H locs ls h y0 hG hl hf
  unfold b_X10_draftReplaced_164 at hf
  obtain rfl := Option.some.inj hf
  exact zr_iret hB hG ⟨rfl, rfl, rfl⟩ dX10_draftReplaced_164

set_option maxRecDepth 100000 in
set_option maxHeartbeats 4000000 in
theorem w_X10_draftReplaced_21 {res : (Int32 × zh_H)} (hB : zc_B p s m args meth c cX10_draftReplaced 4 RX10 (some .int) D K) : ∀ n : Nat, ∀ (H : Heap) (locs : List Loc) (ls : Array Slot) (h : zh_H) (x0 : Nat) (x1 : Int32) (x2 : Int32) (x3 : Int32), zh_G D K b0 N h s.heap H locs → lv_has ls 4 [(0, .ref x0), (1, .int x1), (2, .int x2), (3, .int x3)] → b_X10_draftReplaced_21 n h x0 x1 x2 x3 = some res → W p l e (zc_rm 3 0 0) s m args below meth c H locs 0 0 (MQ below (zc_Q D K b0 (zq (some (.int res.1)) N res.2)) args s 0 0 (fun q => b0 ≤ q)) (F0 m 21 ls []) := by
  have hx := hB.1
  have hb := hB.2.1
  intro n
  induction n with
  | zero =>
    intro H locs ls h x0 x1 x2 x3 hG hl hf
    cases hf
  | succ n ih =>
    intro H locs ls h x0 x1 x2 x3 hG hl hf
    unfold b_X10_draftReplaced_21 at hf
    refine lv_iload_n hx hb dX10_draftReplaced_21 rfl (lv_at hl 3 rfl) ?_
    refine lv_aload_n hx hb dX10_draftReplaced_22 rfl (lv_at hl 0 rfl) ?_
    obtain ⟨a1, ea1, hf⟩ := zb hf
    refine zr_getR hB hG zF_10 (by decide) kf_X10_18 ea1 dX10_draftReplaced_23 ?_
    obtain ⟨v2, ev2, hf⟩ := zb hf
    refine zr_getI hB hG zF_0 (by decide) kf_X10_85 ev2 dX10_draftReplaced_26 ?_
    refine lv_icmp_gt (tgt := 136) hx hb dX10_draftReplaced_29 (by decide) (fun hc49 => ?_) (fun hc49 => ?_)
    · rw [if_pos hc49] at hf
      refine lv_aload_n hx hb dX10_draftReplaced_136 rfl (lv_at hl 0 rfl) ?_
      obtain ⟨a3, ea3, hf⟩ := zb hf
      refine zr_getR hB hG zF_10 (by decide) kf_X10_21 ea3 dX10_draftReplaced_137 ?_
      refine lv_aload_n hx hb dX10_draftReplaced_140 rfl (lv_at hl 0 rfl) ?_
      obtain ⟨a4, ea4, hf⟩ := zb hf
      refine zr_getR hB hG zF_10 (by decide) kf_X10_18 ea4 dX10_draftReplaced_141 ?_
      refine lv_iload_n hx hb dX10_draftReplaced_144 rfl (lv_at hl 1 rfl) ?_
      refine lv_aload_n hx hb dX10_draftReplaced_145 rfl (lv_at hl 0 rfl) ?_
      obtain ⟨a5, ea5, hf⟩ := zb hf
      refine zr_getR hB hG zF_10 (by decide) kf_X10_18 ea5 dX10_draftReplaced_146 ?_
      obtain ⟨v6, ev6, hf⟩ := zb hf
      refine zr_getI hB hG zF_0 (by decide) kf_X10_85 ev6 dX10_draftReplaced_149 ?_
      obtain ⟨o7, eo7, hf⟩ := zb hf
      obtain ⟨v9, h8, eh8, hf⟩ := zbp_s hf
      refine zr_callV (As := [.ref a4, .int x1, .int v6]) kc_X10_220 hB hG (c_X0_addPart eh8) eo7 rfl hl.1 rfl ⟨by decide, by decide⟩ (Nat.le_of_ble_eq_true rfl) ⟨by decide, by decide⟩ dX10_draftReplaced_152 (fun H locs hG => ?_)
      refine lv_if_eq (tgt := 162) hx hb dX10_draftReplaced_155 (by decide) (fun hc10 => ?_) (fun hc10 => ?_)
      · rw [if_pos hc10] at hf
        refine lv_bipush (v := -3) hx hb dX10_draftReplaced_162 (by decide) ?_
        exact w_X10_draftReplaced_164 hB _ _ _ h8 ((-3 : Int32)) hG (lv_sub hl [] rfl) hf
      · rw [if_neg hc10] at hf
        refine lv_iload_n hx hb dX10_draftReplaced_158 rfl (lv_at hl 2 rfl) ?_
        refine lv_goto (tgt := 164) hx hb dX10_draftReplaced_159 (by decide) ?_
        exact w_X10_draftReplaced_164 hB _ _ _ h8 (x2) hG (lv_sub hl [] rfl) hf
    · rw [if_neg hc49] at hf
      refine lv_aload_n hx hb dX10_draftReplaced_32 rfl (lv_at hl 0 rfl) ?_
      obtain ⟨a11, ea11, hf⟩ := zb hf
      refine zr_getR hB hG zF_10 (by decide) kf_X10_52 ea11 dX10_draftReplaced_33 ?_
      refine lv_aload_n hx hb dX10_draftReplaced_36 rfl (lv_at hl 0 rfl) ?_
      obtain ⟨a12, ea12, hf⟩ := zb hf
      refine zr_getR hB hG zF_10 (by decide) kf_X10_18 ea12 dX10_draftReplaced_37 ?_
      refine lv_iload_n hx hb dX10_draftReplaced_40 rfl (lv_at hl 3 rfl) ?_
      refine lv_iconst (v := 1) hx hb dX10_draftReplaced_41 (by decide) ?_
      refine lv_isub hx hb dX10_draftReplaced_42 ?_
      obtain ⟨o13, eo13, hf⟩ := zb hf
      obtain ⟨v15, h14, eh14, hf⟩ := zbp_s hf
      refine zr_callV (As := [.int (x3 - (1 : Int32))]) kc_X10_138 hB hG (c_X0_get eh14) eo13 rfl hl.1 rfl ⟨by decide, by decide⟩ (Nat.le_of_ble_eq_true rfl) ⟨by decide, by decide⟩ dX10_draftReplaced_43 (fun H locs hG => ?_)
      obtain ⟨o16, eo16, hf⟩ := zb hf
      obtain ⟨h17, eh17, hf⟩ := zb hf
      refine zr_callVv (As := [.int v15]) kc_X10_156 hB hG (c_X6_feed eh17) eo16 rfl hl.1 rfl ⟨by decide, by decide⟩ (Nat.le_of_ble_eq_true rfl) ⟨by decide, by decide⟩ dX10_draftReplaced_46 (fun H locs hG => ?_)
      refine lv_aload_n hx hb dX10_draftReplaced_49 rfl (lv_at hl 0 rfl) ?_
      obtain ⟨a18, ea18, hf⟩ := zb hf
      refine zr_getR hB hG zF_10 (by decide) kf_X10_52 ea18 dX10_draftReplaced_50 ?_
      obtain ⟨o19, eo19, hf⟩ := zb hf
      obtain ⟨v21, h20, eh20, hf⟩ := zbp_s hf
      refine zr_callV (As := []) kc_X10_159 hB hG (c_X6_isHit eh20) eo19 rfl hl.1 rfl ⟨by decide, by decide⟩ (Nat.le_of_ble_eq_true rfl) ⟨by decide, by decide⟩ dX10_draftReplaced_53 (fun H locs hG => ?_)
      refine lv_if_eq (tgt := 130) hx hb dX10_draftReplaced_56 (by decide) (fun hc48 => ?_) (fun hc48 => ?_)
      · rw [if_pos hc48] at hf
        exact w_X10_draftReplaced_130 hB ih _ _ _ h20 (x0) (x1) (x2) (x3) hG (lv_sub hl [0, 1, 2, 3] rfl) hf
      · rw [if_neg hc48] at hf
        refine lv_aload_n hx hb dX10_draftReplaced_59 rfl (lv_at hl 0 rfl) ?_
        obtain ⟨a22, ea22, hf⟩ := zb hf
        refine zr_getR hB hG zF_10 (by decide) kf_X10_52 ea22 dX10_draftReplaced_60 ?_
        obtain ⟨o23, eo23, hf⟩ := zb hf
        obtain ⟨v25, h24, eh24, hf⟩ := zbp_s hf
        refine zr_callV (As := []) kc_X10_167 hB hG (c_X6_beginning eh24) eo23 rfl hl.1 rfl ⟨by decide, by decide⟩ (Nat.le_of_ble_eq_true rfl) ⟨by decide, by decide⟩ dX10_draftReplaced_63 (fun H locs hG => ?_)
        refine lv_iload_n hx hb dX10_draftReplaced_66 rfl (lv_at hl 3 rfl) ?_
        refine lv_icmp_ge (tgt := 130) hx hb dX10_draftReplaced_67 (by decide) (fun hc47 => ?_) (fun hc47 => ?_)
        · rw [if_pos hc47] at hf
          exact w_X10_draftReplaced_130 hB ih _ _ _ h24 (x0) (x1) (x2) (x3) hG (lv_sub hl [0, 1, 2, 3] rfl) hf
        · rw [if_neg hc47] at hf
          refine lv_aload_n hx hb dX10_draftReplaced_70 rfl (lv_at hl 0 rfl) ?_
          obtain ⟨a26, ea26, hf⟩ := zb hf
          refine zr_getR hB hG zF_10 (by decide) kf_X10_21 ea26 dX10_draftReplaced_71 ?_
          refine lv_aload_n hx hb dX10_draftReplaced_74 rfl (lv_at hl 0 rfl) ?_
          obtain ⟨a27, ea27, hf⟩ := zb hf
          refine zr_getR hB hG zF_10 (by decide) kf_X10_18 ea27 dX10_draftReplaced_75 ?_
          refine lv_iload_n hx hb dX10_draftReplaced_78 rfl (lv_at hl 1 rfl) ?_
          refine lv_aload_n hx hb dX10_draftReplaced_79 rfl (lv_at hl 0 rfl) ?_
          obtain ⟨a28, ea28, hf⟩ := zb hf
          refine zr_getR hB hG zF_10 (by decide) kf_X10_52 ea28 dX10_draftReplaced_80 ?_
          obtain ⟨o29, eo29, hf⟩ := zb hf
          obtain ⟨v31, h30, eh30, hf⟩ := zbp_s hf
          refine zr_callV (As := []) kc_X10_167 hB hG (c_X6_beginning eh30) eo29 rfl hl.1 rfl ⟨by decide, by decide⟩ (Nat.le_of_ble_eq_true rfl) ⟨by decide, by decide⟩ dX10_draftReplaced_83 (fun H locs hG => ?_)
          obtain ⟨o32, eo32, hf⟩ := zb hf
          obtain ⟨v34, h33, eh33, hf⟩ := zbp_s hf
          refine zr_callV (As := [.ref a27, .int x1, .int v31]) kc_X10_220 hB hG (c_X0_addPart eh33) eo32 rfl hl.1 rfl ⟨by decide, by decide⟩ (Nat.le_of_ble_eq_true rfl) ⟨by decide, by decide⟩ dX10_draftReplaced_86 (fun H locs hG => ?_)
          refine lv_if_eq (tgt := 114) hx hb dX10_draftReplaced_89 (by decide) (fun hc46 => ?_) (fun hc46 => ?_)
          · rw [if_pos hc46] at hf
            exact w_X10_draftReplaced_114 hB _ _ _ h33  hG (lv_sub hl [] rfl) hf
          · rw [if_neg hc46] at hf
            refine lv_aload_n hx hb dX10_draftReplaced_92 rfl (lv_at hl 0 rfl) ?_
            obtain ⟨a35, ea35, hf⟩ := zb hf
            refine zr_getR hB hG zF_10 (by decide) kf_X10_21 ea35 dX10_draftReplaced_93 ?_
            refine lv_aload_n hx hb dX10_draftReplaced_96 rfl (lv_at hl 0 rfl) ?_
            obtain ⟨a36, ea36, hf⟩ := zb hf
            refine zr_getR hB hG zF_10 (by decide) kf_X10_14 ea36 dX10_draftReplaced_97 ?_
            refine lv_iconst (v := 0) hx hb dX10_draftReplaced_100 (by decide) ?_
            refine lv_aload_n hx hb dX10_draftReplaced_101 rfl (lv_at hl 0 rfl) ?_
            obtain ⟨a37, ea37, hf⟩ := zb hf
            refine zr_getR hB hG zF_10 (by decide) kf_X10_14 ea37 dX10_draftReplaced_102 ?_
            obtain ⟨v38, ev38, hf⟩ := zb hf
            refine zr_getI hB hG zF_0 (by decide) kf_X10_85 ev38 dX10_draftReplaced_105 ?_
            obtain ⟨o39, eo39, hf⟩ := zb hf
            obtain ⟨v41, h40, eh40, hf⟩ := zbp_s hf
            refine zr_callV (As := [.ref a36, .int (0 : Int32), .int v38]) kc_X10_220 hB hG (c_X0_addPart eh40) eo39 rfl hl.1 rfl ⟨by decide, by decide⟩ (Nat.le_of_ble_eq_true rfl) ⟨by decide, by decide⟩ dX10_draftReplaced_108 (fun H locs hG => ?_)
            refine lv_if_ne (tgt := 117) hx hb dX10_draftReplaced_111 (by decide) (fun hc45 => ?_) (fun hc45 => ?_)
            · rw [if_neg hc45] at hf
              refine lv_iinc (v := (x2 + (1 : Int32))) (lv' := [(2, .int (x2 + (1 : Int32))), (0, .ref x0), (1, .int x1), (3, .int x3)]) hx hb dX10_draftReplaced_117 hl (k := 2) rfl rfl (by decide) rfl (fun ls hl => ?_)
              refine lv_iload_n hx hb dX10_draftReplaced_120 rfl (lv_at hl 3 rfl) ?_
              refine lv_istore_n (lv' := [(1, .int x3), (2, .int (x2 + (1 : Int32))), (0, .ref x0), (3, .int x3)]) hx hb dX10_draftReplaced_121 rfl hl (by decide) rfl (fun ls hl => ?_)
              refine lv_aload_n hx hb dX10_draftReplaced_122 rfl (lv_at hl 2 rfl) ?_
              obtain ⟨a42, ea42, hf⟩ := zb hf
              refine zr_getR hB hG zF_10 (by decide) kf_X10_52 ea42 dX10_draftReplaced_123 ?_
              refine lv_iload_n hx hb dX10_draftReplaced_126 rfl (lv_at hl 3 rfl) ?_
              obtain ⟨o43, eo43, hf⟩ := zb hf
              obtain ⟨h44, eh44, hf⟩ := zb hf
              refine zr_callVv (As := [.int x3]) kc_X10_153 hB hG (c_X6_restart eh44) eo43 rfl hl.1 rfl ⟨by decide, by decide⟩ (Nat.le_of_ble_eq_true rfl) ⟨by decide, by decide⟩ dX10_draftReplaced_127 (fun H locs hG => ?_)
              exact w_X10_draftReplaced_130 hB ih _ _ _ h44 (x0) (x3) ((x2 + (1 : Int32))) (x3) hG (lv_sub hl [2, 0, 1, 3] rfl) hf
            · rw [if_pos hc45] at hf
              exact w_X10_draftReplaced_114 hB _ _ _ h40  hG (lv_sub hl [] rfl) hf

set_option maxRecDepth 100000 in
set_option maxHeartbeats 4000000 in
theorem w_X10_draftReplaced_0 {res : (Int32 × zh_H)} (hB : zc_B p s m args meth c cX10_draftReplaced 4 RX10 (some .int) D K) : ∀ (H : Heap) (locs : List Loc) (ls : Array Slot) (h : zh_H) (x0 : Nat), zh_G D K b0 N h s.heap H locs → lv_has ls 4 [(0, .ref x0)] → b_X10_draftReplaced_0 h x0 = some res → W p l e (zc_rm 3 0 0) s m args below meth c H locs 0 0 (MQ below (zc_Q D K b0 (zq (some (.int res.1)) N res.2)) args s 0 0 (fun q => b0 ≤ q)) (F0 m 0 ls []) := by
  have hx := hB.1
  have hb := hB.2.1
  intro H locs ls h x0 hG hl hf
  unfold b_X10_draftReplaced_0 at hf
  refine lv_aload_n hx hb dX10_draftReplaced_0 rfl (lv_at hl 0 rfl) ?_
  obtain ⟨a1, ea1, hf⟩ := zb hf
  refine zr_getR hB hG zF_10 (by decide) kf_X10_21 ea1 dX10_draftReplaced_1 ?_
  obtain ⟨o2, eo2, hf⟩ := zb hf
  obtain ⟨h3, eh3, hf⟩ := zb hf
  refine zr_callVv (As := []) kc_X10_96 hB hG (c_X0_clear eh3) eo2 rfl hl.1 rfl ⟨by decide, by decide⟩ (Nat.le_of_ble_eq_true rfl) ⟨by decide, by decide⟩ dX10_draftReplaced_4 (fun H locs hG => ?_)
  refine lv_aload_n hx hb dX10_draftReplaced_7 rfl (lv_at hl 0 rfl) ?_
  obtain ⟨a4, ea4, hf⟩ := zb hf
  refine zr_getR hB hG zF_10 (by decide) kf_X10_52 ea4 dX10_draftReplaced_8 ?_
  refine lv_iconst (v := 0) hx hb dX10_draftReplaced_11 (by decide) ?_
  obtain ⟨o5, eo5, hf⟩ := zb hf
  obtain ⟨h6, eh6, hf⟩ := zb hf
  refine zr_callVv (As := [.int (0 : Int32)]) kc_X10_153 hB hG (c_X6_restart eh6) eo5 rfl hl.1 rfl ⟨by decide, by decide⟩ (Nat.le_of_ble_eq_true rfl) ⟨by decide, by decide⟩ dX10_draftReplaced_12 (fun H locs hG => ?_)
  refine lv_iconst (v := 0) hx hb dX10_draftReplaced_15 (by decide) ?_
  refine lv_istore_n (lv' := [(1, .int (0 : Int32)), (0, .ref x0)]) hx hb dX10_draftReplaced_16 rfl hl (by decide) rfl (fun ls hl => ?_)
  refine lv_iconst (v := 0) hx hb dX10_draftReplaced_17 (by decide) ?_
  refine lv_istore_n (lv' := [(2, .int (0 : Int32)), (1, .int (0 : Int32)), (0, .ref x0)]) hx hb dX10_draftReplaced_18 rfl hl (by decide) rfl (fun ls hl => ?_)
  refine lv_iconst (v := 1) hx hb dX10_draftReplaced_19 (by decide) ?_
  refine lv_istore_n (lv' := [(3, .int (1 : Int32)), (2, .int (0 : Int32)), (1, .int (0 : Int32)), (0, .ref x0)]) hx hb dX10_draftReplaced_20 rfl hl (by decide) rfl (fun ls hl => ?_)
  exact w_X10_draftReplaced_21 hB zFuel _ _ _ h6 (x0) ((0 : Int32)) ((0 : Int32)) ((1 : Int32)) hG (lv_sub hl [3, 2, 1, 0] rfl) hf
end G_X10_draftReplaced
theorem c_X10_draftReplaced {l : Launch} {D : va_G} {K : Nat → ClassId} {b0 N : Nat} {h : zh_H} {x0 : Nat} {r : Int32} {h2 : zh_H} (hf : b_X10_draftReplaced_0 h x0 = some (r, h2)) : zc l yX10_draftReplaced cX10_draftReplaced 4 (some .int) 3 0 0 D K b0 N h [.ref x0] (zq (some (.int r)) N h2) := by
  refine zc.of [(0, .ref x0)] (by decide) rfl (Nat.le_of_ble_eq_true rfl) ?_
  intro p e s m args below meth c hB hnm hG ls hl
  exact w_X10_draftReplaced_0 (res := (r, h2)) hB _ _ ls h x0 hG (lv_sub hl [0] rfl) hf

section G_X10_isPattern
variable {p : Program} {l : Launch} {e : Env} {s : State} {m : MethodId} {args : Array Value} {below : List Frame} {meth : Method} {c : Code} {D : va_G} {K : Nat → ClassId} {b0 N : Nat}
set_option maxRecDepth 100000 in
set_option maxHeartbeats 4000000 in
theorem w_X10_isPattern_27 {res : (Int32 × zh_H)} (hB : zc_B p s m args meth c cX10_isPattern 2 RX10 (some .boolean) D K) : ∀ (H : Heap) (locs : List Loc) (ls : Array Slot) (h : zh_H) (y0 : Int32), zh_G D K b0 N h s.heap H locs → lv_has ls 2 [] → b_X10_isPattern_27 h y0 = some res → W p l e (zc_rm 0 0 0) s m args below meth c H locs 0 0 (MQ below (zc_Q D K b0 (zq (some (.int res.1)) N res.2)) args s 0 0 (fun q => b0 ≤ q)) (F0 m 27 ls [.int y0]) := by
  have hx := hB.1
  have hb := hB.2.1
  intro H locs ls h y0 hG hl hf
  unfold b_X10_isPattern_27 at hf
  obtain ⟨hz, hf⟩ := zif_s hf
  obtain rfl := Option.some.inj hf
  exact zr_zret hB hG hz ⟨rfl, rfl, rfl⟩ dX10_isPattern_27

set_option maxRecDepth 100000 in
set_option maxHeartbeats 4000000 in
theorem w_X10_isPattern_26 {res : (Int32 × zh_H)} (hB : zc_B p s m args meth c cX10_isPattern 2 RX10 (some .boolean) D K) : ∀ (H : Heap) (locs : List Loc) (ls : Array Slot) (h : zh_H), zh_G D K b0 N h s.heap H locs → lv_has ls 2 [] → b_X10_isPattern_26 h  = some res → W p l e (zc_rm 0 0 0) s m args below meth c H locs 0 0 (MQ below (zc_Q D K b0 (zq (some (.int res.1)) N res.2)) args s 0 0 (fun q => b0 ≤ q)) (F0 m 26 ls []) := by
  have hx := hB.1
  have hb := hB.2.1
  intro H locs ls h  hG hl hf
  unfold b_X10_isPattern_26 at hf
  refine lv_iconst (v := 0) hx hb dX10_isPattern_26 (by decide) ?_
  exact w_X10_isPattern_27 hB _ _ _ h ((0 : Int32)) hG (lv_sub hl [] rfl) hf

set_option maxRecDepth 100000 in
set_option maxHeartbeats 4000000 in
theorem w_X10_isPattern_0 {res : (Int32 × zh_H)} (hB : zc_B p s m args meth c cX10_isPattern 2 RX10 (some .boolean) D K) : ∀ (H : Heap) (locs : List Loc) (ls : Array Slot) (h : zh_H) (x0 : Nat) (x1 : Int32), zh_G D K b0 N h s.heap H locs → lv_has ls 2 [(0, .ref x0), (1, .int x1)] → b_X10_isPattern_0 h x0 x1 = some res → W p l e (zc_rm 0 0 0) s m args below meth c H locs 0 0 (MQ below (zc_Q D K b0 (zq (some (.int res.1)) N res.2)) args s 0 0 (fun q => b0 ≤ q)) (F0 m 0 ls []) := by
  have hx := hB.1
  have hb := hB.2.1
  intro H locs ls h x0 x1 hG hl hf
  unfold b_X10_isPattern_0 at hf
  refine lv_iload_n hx hb dX10_isPattern_0 rfl (lv_at hl 1 rfl) ?_
  refine lv_if_lt (tgt := 26) hx hb dX10_isPattern_1 (by decide) (fun hc6 => ?_) (fun hc6 => ?_)
  · rw [if_pos hc6] at hf
    exact w_X10_isPattern_26 hB _ _ _ h  hG (lv_sub hl [] rfl) hf
  · rw [if_neg hc6] at hf
    refine lv_iload_n hx hb dX10_isPattern_4 rfl (lv_at hl 1 rfl) ?_
    refine lv_bipush (v := 8) hx hb dX10_isPattern_5 (by decide) ?_
    refine lv_icmp_ge (tgt := 26) hx hb dX10_isPattern_7 (by decide) (fun hc5 => ?_) (fun hc5 => ?_)
    · rw [if_pos hc5] at hf
      exact w_X10_isPattern_26 hB _ _ _ h  hG (lv_sub hl [] rfl) hf
    · rw [if_neg hc5] at hf
      refine lv_aload_n hx hb dX10_isPattern_10 rfl (lv_at hl 0 rfl) ?_
      obtain ⟨a1, ea1, hf⟩ := zb hf
      refine zr_getR hB hG zF_10 (by decide) kf_X10_33 ea1 dX10_isPattern_11 ?_
      refine lv_iload_n hx hb dX10_isPattern_14 rfl (lv_at hl 1 rfl) ?_
      obtain ⟨a2, ea2, hf⟩ := zb hf
      refine zr_aald ⟨_, rfl⟩ hB hG ea2 dX10_isPattern_15 ?_
      obtain ⟨v3, ev3, hf⟩ := zb hf
      refine zr_getI hB hG zF_7 (by decide) kf_X10_109 ev3 dX10_isPattern_16 ?_
      refine lv_if_le (tgt := 26) hx hb dX10_isPattern_19 (by decide) (fun hc4 => ?_) (fun hc4 => ?_)
      · rw [if_pos hc4] at hf
        exact w_X10_isPattern_26 hB _ _ _ h  hG (lv_sub hl [] rfl) hf
      · rw [if_neg hc4] at hf
        refine lv_iconst (v := 1) hx hb dX10_isPattern_22 (by decide) ?_
        refine lv_goto (tgt := 27) hx hb dX10_isPattern_23 (by decide) ?_
        exact w_X10_isPattern_27 hB _ _ _ h ((1 : Int32)) hG (lv_sub hl [] rfl) hf
end G_X10_isPattern
theorem c_X10_isPattern {l : Launch} {D : va_G} {K : Nat → ClassId} {b0 N : Nat} {h : zh_H} {x0 : Nat} {x1 : Int32} {r : Int32} {h2 : zh_H} (hf : b_X10_isPattern_0 h x0 x1 = some (r, h2)) : zc l yX10_isPattern cX10_isPattern 2 (some .boolean) 0 0 0 D K b0 N h [.ref x0, .int x1] (zq (some (.int r)) N h2) := by
  refine zc.of [(0, .ref x0), (1, .int x1)] (by decide) rfl (Nat.le_of_ble_eq_true rfl) ?_
  intro p e s m args below meth c hB hnm hG ls hl
  exact w_X10_isPattern_0 (res := (r, h2)) hB _ _ ls h x0 x1 hG (lv_sub hl [0, 1] rfl) hf

