section G_X11_distance
variable {p : Program} {l : Launch} {e : Env} {s : State} {m : MethodId} {args : Array Value} {below : List Frame} {meth : Method} {c : Code} {D : va_G} {K : Nat → ClassId} {b0 N : Nat}
set_option maxRecDepth 100000 in
set_option maxHeartbeats 4000000 in
theorem w_X11_distance_6 {res : (Int32 × zh_H)} (hB : zc_B p s m args meth c cX11_distance 2 RX11 (some .int) D K) : ∀ n : Nat, ∀ (H : Heap) (locs : List Loc) (ls : Array Slot) (h : zh_H) (x0 : Nat) (x1 : Int32), zh_G D K b0 N h s.heap H locs → lv_has ls 2 [(0, .ref x0), (1, .int x1)] → b_X11_distance_6 n h x0 x1 = some res → W p l e (zc_rm 2 0 0) s m args below meth c H locs 0 0 (MQ below (zc_Q D K b0 (zq (some (.int res.1)) N res.2)) args s 0 0 (fun q => b0 ≤ q)) (F0 m 6 ls []) := by
  have hx := hB.1
  have hb := hB.2.1
  intro n
  induction n with
  | zero =>
    intro H locs ls h x0 x1 hG hl hf
    cases hf
  | succ n ih =>
    intro H locs ls h x0 x1 hG hl hf
    unfold b_X11_distance_6 at hf
    refine lv_iload_n hx hb dX11_distance_6 rfl (lv_at hl 1 rfl) ?_
    refine lv_aload_n hx hb dX11_distance_7 rfl (lv_at hl 0 rfl) ?_
    obtain ⟨v1, ev1, hf⟩ := zb hf
    refine zr_getI hB hG zF_11 (by decide) kf_X11_175 ev1 dX11_distance_8 ?_
    refine lv_icmp_ge (tgt := 26) hx hb dX11_distance_11 (by decide) (fun hc7 => ?_) (fun hc7 => ?_)
    · rw [if_pos hc7] at hf
      refine lv_aload_n hx hb dX11_distance_26 rfl (lv_at hl 0 rfl) ?_
      obtain ⟨a2, ea2, hf⟩ := zb hf
      refine zr_getR hB hG zF_11 (by decide) kf_X11_51 ea2 dX11_distance_27 ?_
      refine lv_aload_n hx hb dX11_distance_30 rfl (lv_at hl 0 rfl) ?_
      obtain ⟨v3, ev3, hf⟩ := zb hf
      refine zr_getI hB hG zF_11 (by decide) kf_X11_172 ev3 dX11_distance_31 ?_
      obtain ⟨v4, ev4, hf⟩ := zb hf
      refine zr_iald hB hG ev4 dX11_distance_34 ?_
      obtain rfl := Option.some.inj hf
      exact zr_iret hB hG ⟨rfl, rfl, rfl⟩ dX11_distance_35
    · rw [if_neg hc7] at hf
      refine lv_aload_n hx hb dX11_distance_14 rfl (lv_at hl 0 rfl) ?_
      refine lv_iload_n hx hb dX11_distance_15 rfl (lv_at hl 1 rfl) ?_
      refine lv_iconst (v := 0) hx hb dX11_distance_16 (by decide) ?_
      obtain ⟨o5, eo5, hf⟩ := zb hf
      obtain ⟨h6, eh6, hf⟩ := zb hf
      refine zr_callVv (As := [.int x1, .int (0 : Int32)]) kc_X11_192 hB hG (c_X11_column eh6) eo5 rfl hl.1 rfl ⟨by decide, by decide⟩ (Nat.le_of_ble_eq_true rfl) ⟨by decide, by decide⟩ dX11_distance_17 (fun H locs hG => ?_)
      refine lv_iinc (v := (x1 + (1 : Int32))) (lv' := [(1, .int (x1 + (1 : Int32))), (0, .ref x0)]) hx hb dX11_distance_20 hl (k := 1) rfl rfl (by decide) rfl (fun ls hl => ?_)
      refine lv_goto (tgt := 6) hx hb dX11_distance_23 (by decide) ?_
      exact ih _ _ _ h6 (x0) ((x1 + (1 : Int32))) hG (lv_sub hl [1, 0] rfl) hf

set_option maxRecDepth 100000 in
set_option maxHeartbeats 4000000 in
theorem w_X11_distance_0 {res : (Int32 × zh_H)} (hB : zc_B p s m args meth c cX11_distance 2 RX11 (some .int) D K) : ∀ (H : Heap) (locs : List Loc) (ls : Array Slot) (h : zh_H) (x0 : Nat), zh_G D K b0 N h s.heap H locs → lv_has ls 2 [(0, .ref x0)] → b_X11_distance_0 h x0 = some res → W p l e (zc_rm 2 0 0) s m args below meth c H locs 0 0 (MQ below (zc_Q D K b0 (zq (some (.int res.1)) N res.2)) args s 0 0 (fun q => b0 ≤ q)) (F0 m 0 ls []) := by
  have hx := hB.1
  have hb := hB.2.1
  intro H locs ls h x0 hG hl hf
  unfold b_X11_distance_0 at hf
  refine lv_aload_n hx hb dX11_distance_0 rfl (lv_at hl 0 rfl) ?_
  obtain ⟨o1, eo1, hf⟩ := zb hf
  obtain ⟨h2, eh2, hf⟩ := zb hf
  refine zr_callVv (As := []) kc_X11_189 hB hG (c_X11_firstColumn eh2) eo1 rfl hl.1 rfl ⟨by decide, by decide⟩ (Nat.le_of_ble_eq_true rfl) ⟨by decide, by decide⟩ dX11_distance_1 (fun H locs hG => ?_)
  refine lv_iconst (v := 0) hx hb dX11_distance_4 (by decide) ?_
  refine lv_istore_n (lv' := [(1, .int (0 : Int32)), (0, .ref x0)]) hx hb dX11_distance_5 rfl hl (by decide) rfl (fun ls hl => ?_)
  exact w_X11_distance_6 hB zFuel _ _ _ h2 (x0) ((0 : Int32)) hG (lv_sub hl [1, 0] rfl) hf
end G_X11_distance
theorem c_X11_distance {l : Launch} {D : va_G} {K : Nat → ClassId} {b0 N : Nat} {h : zh_H} {x0 : Nat} {r : Int32} {h2 : zh_H} (hf : b_X11_distance_0 h x0 = some (r, h2)) : zc l yX11_distance cX11_distance 2 (some .int) 2 0 0 D K b0 N h [.ref x0] (zq (some (.int r)) N h2) := by
  refine zc.of [(0, .ref x0)] (by decide) rfl (Nat.le_of_ble_eq_true rfl) ?_
  intro p e s m args below meth c hB hnm hG ls hl
  exact w_X11_distance_0 (res := (r, h2)) hB _ _ ls h x0 hG (lv_sub hl [0] rfl) hf

section G_X11_apart
variable {p : Program} {l : Launch} {e : Env} {s : State} {m : MethodId} {args : Array Value} {below : List Frame} {meth : Method} {c : Code} {D : va_G} {K : Nat → ClassId} {b0 N : Nat}
set_option maxRecDepth 100000 in
set_option maxHeartbeats 4000000 in
theorem w_X11_apart_31 {res : (Int32 × zh_H)} (hB : zc_B p s m args meth c cX11_apart 9 RX11 (some .int) D K) : ∀ (H : Heap) (locs : List Loc) (ls : Array Slot) (h : zh_H), zh_G D K b0 N h s.heap H locs → lv_has ls 9 [] → b_X11_apart_31 h  = some res → W p l e (zc_rm 3 0 0) s m args below meth c H locs 0 0 (MQ below (zc_Q D K b0 (zq (some (.int res.1)) N res.2)) args s 0 0 (fun q => b0 ≤ q)) (F0 m 31 ls []) := by
  have hx := hB.1
  have hb := hB.2.1
  intro H locs ls h  hG hl hf
  unfold b_X11_apart_31 at hf
  refine lv_bipush (v := -2) hx hb dX11_apart_31 (by decide) ?_
  obtain rfl := Option.some.inj hf
  exact zr_iret hB hG ⟨rfl, rfl, rfl⟩ dX11_apart_33

set_option maxRecDepth 100000 in
set_option maxHeartbeats 4000000 in
theorem w_X11_apart_110 {res : (Int32 × zh_H)} (hB : zc_B p s m args meth c cX11_apart 9 RX11 (some .int) D K) {k44 : zh_H → Nat → Int32 → Int32 → Int32 → Int32 → Int32 → Int32 → Option (Int32 × zh_H)} (hk44 : ∀ (H : Heap) (locs : List Loc) (ls : Array Slot) (h : zh_H) (x0 : Nat) (x1 : Int32) (x3 : Int32) (x4 : Int32) (x5 : Int32) (x6 : Int32) (x7 : Int32), zh_G D K b0 N h s.heap H locs → lv_has ls 9 [(0, .ref x0), (1, .int x1), (3, .int x3), (4, .int x4), (5, .int x5), (6, .int x6), (7, .int x7)] → k44 h x0 x1 x3 x4 x5 x6 x7 = some res → W p l e (zc_rm 3 0 0) s m args below meth c H locs 0 0 (MQ below (zc_Q D K b0 (zq (some (.int res.1)) N res.2)) args s 0 0 (fun q => b0 ≤ q)) (F0 m 44 ls [])) : ∀ (H : Heap) (locs : List Loc) (ls : Array Slot) (h : zh_H) (x0 : Nat) (x1 : Int32) (x3 : Int32) (x4 : Int32) (x5 : Int32) (x6 : Int32) (x7 : Int32) (y0 : Int64) (y1 : Int32) (y2 : Nat), zh_G D K b0 N h s.heap H locs → lv_has ls 9 [(0, .ref x0), (1, .int x1), (3, .int x3), (4, .int x4), (5, .int x5), (6, .int x6), (7, .int x7)] → b_X11_apart_110 k44 h x0 x1 x3 x4 x5 x6 x7 y0 y1 y2 = some res → W p l e (zc_rm 3 0 0) s m args below meth c H locs 0 0 (MQ below (zc_Q D K b0 (zq (some (.int res.1)) N res.2)) args s 0 0 (fun q => b0 ≤ q)) (F0 m 110 ls [.long y0, .int y1, .ref y2]) := by
  have hx := hB.1
  have hb := hB.2.1
  intro H locs ls h x0 x1 x3 x4 x5 x6 x7 y0 y1 y2 hG hl hf
  unfold b_X11_apart_110 at hf
  obtain ⟨h1, eh1, hf⟩ := zb hf
  refine zr_last hB hG eh1 dX11_apart_110 (fun H locs hG => ?_)
  refine lv_iinc (v := (x7 + (1 : Int32))) (lv' := [(7, .int (x7 + (1 : Int32))), (0, .ref x0), (1, .int x1), (3, .int x3), (4, .int x4), (5, .int x5), (6, .int x6)]) hx hb dX11_apart_111 hl (k := 6) rfl rfl (by decide) rfl (fun ls hl => ?_)
  refine lv_goto (tgt := 44) hx hb dX11_apart_114 (by decide) ?_
  exact hk44 _ _ _ h1 (x0) (x1) (x3) (x4) (x5) (x6) ((x7 + (1 : Int32))) hG (lv_sub hl [1, 2, 3, 4, 5, 6, 0] rfl) hf

set_option maxRecDepth 100000 in
set_option maxHeartbeats 4000000 in
theorem w_X11_apart_85 {res : (Int32 × zh_H)} (hB : zc_B p s m args meth c cX11_apart 9 RX11 (some .int) D K) {k44 : zh_H → Nat → Int32 → Int32 → Int32 → Int32 → Int32 → Int32 → Option (Int32 × zh_H)} (hk44 : ∀ (H : Heap) (locs : List Loc) (ls : Array Slot) (h : zh_H) (x0 : Nat) (x1 : Int32) (x3 : Int32) (x4 : Int32) (x5 : Int32) (x6 : Int32) (x7 : Int32), zh_G D K b0 N h s.heap H locs → lv_has ls 9 [(0, .ref x0), (1, .int x1), (3, .int x3), (4, .int x4), (5, .int x5), (6, .int x6), (7, .int x7)] → k44 h x0 x1 x3 x4 x5 x6 x7 = some res → W p l e (zc_rm 3 0 0) s m args below meth c H locs 0 0 (MQ below (zc_Q D K b0 (zq (some (.int res.1)) N res.2)) args s 0 0 (fun q => b0 ≤ q)) (F0 m 44 ls [])) : ∀ (H : Heap) (locs : List Loc) (ls : Array Slot) (h : zh_H) (x0 : Nat) (x1 : Int32) (x3 : Int32) (x4 : Int32) (x5 : Int32) (x6 : Int32) (x7 : Int32) (x8 : Int32) (y0 : Int64) (y1 : Int32) (y2 : Nat), zh_G D K b0 N h s.heap H locs → lv_has ls 9 [(0, .ref x0), (1, .int x1), (3, .int x3), (4, .int x4), (5, .int x5), (6, .int x6), (7, .int x7), (8, .int x8)] → b_X11_apart_85 k44 h x0 x1 x3 x4 x5 x6 x7 x8 y0 y1 y2 = some res → W p l e (zc_rm 3 0 0) s m args below meth c H locs 0 0 (MQ below (zc_Q D K b0 (zq (some (.int res.1)) N res.2)) args s 0 0 (fun q => b0 ≤ q)) (F0 m 85 ls [.long y0, .int y1, .ref y2]) := by
  have hx := hB.1
  have hb := hB.2.1
  intro H locs ls h x0 x1 x3 x4 x5 x6 x7 x8 y0 y1 y2 hG hl hf
  unfold b_X11_apart_85 at hf
  obtain ⟨h1, eh1, hf⟩ := zb hf
  refine zr_last hB hG eh1 dX11_apart_85 (fun H locs hG => ?_)
  refine lv_aload_n hx hb dX11_apart_86 rfl (lv_at hl 0 rfl) ?_
  obtain ⟨a2, ea2, hf⟩ := zb hf
  refine zr_getR hB hG zF_11 (by decide) kf_X11_45 ea2 dX11_apart_87 ?_
  refine lv_iload hx hb dX11_apart_90 (lv_at hl 6 rfl) ?_
  refine lv_iload hx hb dX11_apart_92 (lv_at hl 7 rfl) ?_
  refine lv_bipush (v := 64) hx hb dX11_apart_94 (by decide) ?_
  refine lv_icmp_ge (tgt := 103) hx hb dX11_apart_96 (by decide) (fun hc3 => ?_) (fun hc3 => ?_)
  · rw [if_pos hc3] at hf
    refine lv_lconst (v := 1) hx hb dX11_apart_103 (by decide) ?_
    refine lv_iload hx hb dX11_apart_104 (lv_at hl 7 rfl) ?_
    refine lv_bipush (v := 64) hx hb dX11_apart_106 (by decide) ?_
    refine lv_isub hx hb dX11_apart_108 ?_
    refine lv_lshl hx hb dX11_apart_109 rfl ?_
    exact w_X11_apart_110 hB hk44 _ _ _ h1 (x0) (x1) (x3) (x4) (x5) (x6) (x7) ((((1 : Int64) <<< (Int32.toInt64 (x8 - (64 : Int32)) &&& 63)))) (x7) (a2) hG (lv_sub hl [0, 1, 2, 3, 4, 5, 6] rfl) hf
  · rw [if_neg hc3] at hf
    refine lv_lconst (v := 0) hx hb dX11_apart_99 (by decide) ?_
    refine lv_goto (tgt := 110) hx hb dX11_apart_100 (by decide) ?_
    exact w_X11_apart_110 hB hk44 _ _ _ h1 (x0) (x1) (x3) (x4) (x5) (x6) (x7) ((0 : Int64)) (x7) (a2) hG (lv_sub hl [0, 1, 2, 3, 4, 5, 6] rfl) hf

set_option maxRecDepth 100000 in
set_option maxHeartbeats 4000000 in
theorem w_X11_apart_150 {res : (Int32 × zh_H)} (hB : zc_B p s m args meth c cX11_apart 9 RX11 (some .int) D K) : ∀ (H : Heap) (locs : List Loc) (ls : Array Slot) (h : zh_H) (y0 : Int32), zh_G D K b0 N h s.heap H locs → lv_has ls 9 [] → b_X11_apart_150 h y0 = some res → W p l e (zc_rm 3 0 0) s m args below meth c H locs 0 0 (MQ below (zc_Q D K b0 (zq (some (.int res.1)) N res.2)) args s 0 0 (fun q => b0 ≤ q)) (F0 m 150 ls [.int y0]) := by
  have hx := hB.1
  have hb := hB.2.1
  intro H locs ls h y0 hG hl hf
  unfold b_X11_apart_150 at hf
  obtain rfl := Option.some.inj hf
  exact zr_iret hB hG ⟨rfl, rfl, rfl⟩ dX11_apart_150

set_option maxRecDepth 100000 in
set_option maxHeartbeats 4000000 in
theorem w_X11_apart_44 {res : (Int32 × zh_H)} (hB : zc_B p s m args meth c cX11_apart 9 RX11 (some .int) D K) : ∀ n : Nat, ∀ (H : Heap) (locs : List Loc) (ls : Array Slot) (h : zh_H) (x0 : Nat) (x1 : Int32) (x3 : Int32) (x4 : Int32) (x5 : Int32) (x6 : Int32) (x7 : Int32), zh_G D K b0 N h s.heap H locs → lv_has ls 9 [(0, .ref x0), (1, .int x1), (3, .int x3), (4, .int x4), (5, .int x5), (6, .int x6), (7, .int x7)] → b_X11_apart_44 n h x0 x1 x3 x4 x5 x6 x7 = some res → W p l e (zc_rm 3 0 0) s m args below meth c H locs 0 0 (MQ below (zc_Q D K b0 (zq (some (.int res.1)) N res.2)) args s 0 0 (fun q => b0 ≤ q)) (F0 m 44 ls []) := by
  have hx := hB.1
  have hb := hB.2.1
  intro n
  induction n with
  | zero =>
    intro H locs ls h x0 x1 x3 x4 x5 x6 x7 hG hl hf
    cases hf
  | succ n ih =>
    intro H locs ls h x0 x1 x3 x4 x5 x6 x7 hG hl hf
    unfold b_X11_apart_44 at hf
    refine lv_iload hx hb dX11_apart_44 (lv_at hl 6 rfl) ?_
    refine lv_aload_n hx hb dX11_apart_46 rfl (lv_at hl 0 rfl) ?_
    obtain ⟨v1, ev1, hf⟩ := zb hf
    refine zr_getI hB hG zF_11 (by decide) kf_X11_172 ev1 dX11_apart_47 ?_
    refine lv_icmp_ge (tgt := 117) hx hb dX11_apart_50 (by decide) (fun hc13 => ?_) (fun hc13 => ?_)
    · rw [if_pos hc13] at hf
      refine lv_aload_n hx hb dX11_apart_117 rfl (lv_at hl 0 rfl) ?_
      refine lv_iload_n hx hb dX11_apart_118 rfl (lv_at hl 2 rfl) ?_
      refine lv_iload hx hb dX11_apart_119 (lv_at hl 3 rfl) ?_
      obtain ⟨o2, eo2, hf⟩ := zb hf
      obtain ⟨h3, eh3, hf⟩ := zb hf
      refine zr_callVv (As := [.int x3, .int x4]) kc_X11_202 hB hG (c_X11_loadBytes eh3) eo2 rfl hl.1 rfl ⟨by decide, by decide⟩ (Nat.le_of_ble_eq_true rfl) ⟨by decide, by decide⟩ dX11_apart_121 (fun H locs hG => ?_)
      refine lv_aload_n hx hb dX11_apart_124 rfl (lv_at hl 0 rfl) ?_
      refine lv_iload hx hb dX11_apart_125 (lv_at hl 4 rfl) ?_
      obtain ⟨h4, eh4, hf⟩ := zb hf
      refine zr_putZ hB hG zF_11 (by decide) kf_X11_185 rfl rfl eh4 dX11_apart_127 (fun H locs hG => ?_)
      refine lv_aload_n hx hb dX11_apart_130 rfl (lv_at hl 0 rfl) ?_
      obtain ⟨o5, eo5, hf⟩ := zb hf
      obtain ⟨v7, h6, eh6, hf⟩ := zbp_s hf
      refine zr_callV (As := []) kc_X11_227 hB hG (c_X11_distance eh6) eo5 rfl hl.1 rfl ⟨by decide, by decide⟩ (Nat.le_of_ble_eq_true rfl) ⟨by decide, by decide⟩ dX11_apart_131 (fun H locs hG => ?_)
      refine lv_istore (lv' := [(7, .int v7), (0, .ref x0), (1, .int x1), (3, .int x3), (4, .int x4), (5, .int x5), (6, .int x6)]) hx hb dX11_apart_134 hl (by decide) rfl (fun ls hl => ?_)
      refine lv_iload hx hb dX11_apart_136 (lv_at hl 0 rfl) ?_
      refine lv_iload hx hb dX11_apart_138 (lv_at hl 6 rfl) ?_
      refine lv_icmp_le (tgt := 148) hx hb dX11_apart_140 (by decide) (fun hc8 => ?_) (fun hc8 => ?_)
      · rw [if_pos hc8] at hf
        refine lv_iload hx hb dX11_apart_148 (lv_at hl 0 rfl) ?_
        exact w_X11_apart_150 hB _ _ _ h6 (v7) hG (lv_sub hl [] rfl) hf
      · rw [if_neg hc8] at hf
        refine lv_bipush (v := -4) hx hb dX11_apart_143 (by decide) ?_
        refine lv_goto (tgt := 150) hx hb dX11_apart_145 (by decide) ?_
        exact w_X11_apart_150 hB _ _ _ h6 ((-4 : Int32)) hG (lv_sub hl [] rfl) hf
    · rw [if_neg hc13] at hf
      refine lv_aload_n hx hb dX11_apart_53 rfl (lv_at hl 0 rfl) ?_
      obtain ⟨a9, ea9, hf⟩ := zb hf
      refine zr_getR hB hG zF_11 (by decide) kf_X11_13 ea9 dX11_apart_54 ?_
      refine lv_iload_n hx hb dX11_apart_57 rfl (lv_at hl 1 rfl) ?_
      refine lv_iload hx hb dX11_apart_58 (lv_at hl 6 rfl) ?_
      refine lv_iadd hx hb dX11_apart_60 ?_
      obtain ⟨v10, ev10, hf⟩ := zb hf
      refine zr_iald hB hG ev10 dX11_apart_61 ?_
      refine lv_istore (lv' := [(8, .int v10), (0, .ref x0), (1, .int x1), (3, .int x3), (4, .int x4), (5, .int x5), (6, .int x6), (7, .int x7)]) hx hb dX11_apart_62 hl (by decide) rfl (fun ls hl => ?_)
      refine lv_aload_n hx hb dX11_apart_64 rfl (lv_at hl 1 rfl) ?_
      obtain ⟨a11, ea11, hf⟩ := zb hf
      refine zr_getR hB hG zF_11 (by decide) kf_X11_42 ea11 dX11_apart_65 ?_
      refine lv_iload hx hb dX11_apart_68 (lv_at hl 7 rfl) ?_
      refine lv_iload hx hb dX11_apart_70 (lv_at hl 0 rfl) ?_
      refine lv_bipush (v := 64) hx hb dX11_apart_72 (by decide) ?_
      refine lv_icmp_ge (tgt := 84) hx hb dX11_apart_74 (by decide) (fun hc12 => ?_) (fun hc12 => ?_)
      · rw [if_pos hc12] at hf
        refine lv_lconst (v := 0) hx hb dX11_apart_84 (by decide) ?_
        exact w_X11_apart_85 hB ih _ _ _ h (x0) (x1) (x3) (x4) (x5) (x6) (x7) (v10) ((0 : Int64)) (x7) (a11) hG (lv_sub hl [1, 2, 3, 4, 5, 6, 7, 0] rfl) hf
      · rw [if_neg hc12] at hf
        refine lv_lconst (v := 1) hx hb dX11_apart_77 (by decide) ?_
        refine lv_iload hx hb dX11_apart_78 (lv_at hl 0 rfl) ?_
        refine lv_lshl hx hb dX11_apart_80 rfl ?_
        refine lv_goto (tgt := 85) hx hb dX11_apart_81 (by decide) ?_
        exact w_X11_apart_85 hB ih _ _ _ h (x0) (x1) (x3) (x4) (x5) (x6) (x7) (v10) ((((1 : Int64) <<< (Int32.toInt64 v10 &&& 63)))) (x7) (a11) hG (lv_sub hl [1, 2, 3, 4, 5, 6, 7, 0] rfl) hf

set_option maxRecDepth 100000 in
set_option maxHeartbeats 4000000 in
theorem w_X11_apart_0 {res : (Int32 × zh_H)} (hB : zc_B p s m args meth c cX11_apart 9 RX11 (some .int) D K) : ∀ (H : Heap) (locs : List Loc) (ls : Array Slot) (h : zh_H) (x0 : Nat) (x1 : Int32) (x2 : Int32) (x3 : Int32) (x4 : Int32) (x5 : Int32) (x6 : Int32), zh_G D K b0 N h s.heap H locs → lv_has ls 9 [(0, .ref x0), (1, .int x1), (2, .int x2), (3, .int x3), (4, .int x4), (5, .int x5), (6, .int x6)] → b_X11_apart_0 h x0 x1 x2 x3 x4 x5 x6 = some res → W p l e (zc_rm 3 0 0) s m args below meth c H locs 0 0 (MQ below (zc_Q D K b0 (zq (some (.int res.1)) N res.2)) args s 0 0 (fun q => b0 ≤ q)) (F0 m 0 ls []) := by
  have hx := hB.1
  have hb := hB.2.1
  intro H locs ls h x0 x1 x2 x3 x4 x5 x6 hG hl hf
  unfold b_X11_apart_0 at hf
  refine lv_aload_n hx hb dX11_apart_0 rfl (lv_at hl 0 rfl) ?_
  refine lv_iload_n hx hb dX11_apart_1 rfl (lv_at hl 1 rfl) ?_
  refine lv_iload_n hx hb dX11_apart_2 rfl (lv_at hl 2 rfl) ?_
  obtain ⟨o1, eo1, hf⟩ := zb hf
  obtain ⟨v3, h2, eh2, hf⟩ := zbp_s hf
  refine zr_callV (As := [.int x1, .int x2]) kc_X11_168 hB hG (c_X11_isPart eh2) eo1 rfl hl.1 rfl ⟨by decide, by decide⟩ (Nat.le_of_ble_eq_true rfl) ⟨by decide, by decide⟩ dX11_apart_3 (fun H locs hG => ?_)
  refine lv_if_eq (tgt := 31) hx hb dX11_apart_6 (by decide) (fun hc12 => ?_) (fun hc12 => ?_)
  · rw [if_pos hc12] at hf
    exact w_X11_apart_31 hB _ _ _ h2  hG (lv_sub hl [] rfl) hf
  · rw [if_neg hc12] at hf
    refine lv_aload_n hx hb dX11_apart_9 rfl (lv_at hl 0 rfl) ?_
    refine lv_iload_n hx hb dX11_apart_10 rfl (lv_at hl 3 rfl) ?_
    refine lv_iload hx hb dX11_apart_11 (lv_at hl 4 rfl) ?_
    obtain ⟨o4, eo4, hf⟩ := zb hf
    obtain ⟨v6, h5, eh5, hf⟩ := zbp_s hf
    refine zr_callV (As := [.int x3, .int x4]) kc_X11_168 hB hG (c_X11_isPart eh5) eo4 rfl hl.1 rfl ⟨by decide, by decide⟩ (Nat.le_of_ble_eq_true rfl) ⟨by decide, by decide⟩ dX11_apart_13 (fun H locs hG => ?_)
    refine lv_if_eq (tgt := 31) hx hb dX11_apart_16 (by decide) (fun hc11 => ?_) (fun hc11 => ?_)
    · rw [if_pos hc11] at hf
      exact w_X11_apart_31 hB _ _ _ h5  hG (lv_sub hl [] rfl) hf
    · rw [if_neg hc11] at hf
      refine lv_iload hx hb dX11_apart_19 (lv_at hl 6 rfl) ?_
      refine lv_iconst (v := 0) hx hb dX11_apart_21 (by decide) ?_
      refine lv_sipush (v := 2000) hx hb dX11_apart_22 (by decide) ?_
      obtain ⟨v8, h7, eh7, hf⟩ := zbp_s hf
      refine zr_callS (As := [.int x6, .int (0 : Int32), .int (2000 : Int32)]) kc_X11_100 hB hG (c_X11_in eh7) rfl hl.1 rfl ⟨by decide, by decide⟩ (Nat.le_of_ble_eq_true rfl) ⟨by decide, by decide⟩ dX11_apart_25 (fun H locs hG => ?_)
      refine lv_if_ne (tgt := 34) hx hb dX11_apart_28 (by decide) (fun hc10 => ?_) (fun hc10 => ?_)
      · rw [if_neg hc10] at hf
        refine lv_aload_n hx hb dX11_apart_34 rfl (lv_at hl 0 rfl) ?_
        refine lv_iload_n hx hb dX11_apart_35 rfl (lv_at hl 2 rfl) ?_
        refine lv_iload_n hx hb dX11_apart_36 rfl (lv_at hl 1 rfl) ?_
        refine lv_isub hx hb dX11_apart_37 ?_
        obtain ⟨h9, eh9, hf⟩ := zb hf
        refine zr_put hB hG zF_11 (by decide) kf_X11_172 rfl rfl rfl eh9 dX11_apart_38 (fun H locs hG => ?_)
        refine lv_iconst (v := 0) hx hb dX11_apart_41 (by decide) ?_
        refine lv_istore (lv' := [(7, .int (0 : Int32)), (0, .ref x0), (1, .int x1), (2, .int x2), (3, .int x3), (4, .int x4), (5, .int x5), (6, .int x6)]) hx hb dX11_apart_42 hl (by decide) rfl (fun ls hl => ?_)
        exact w_X11_apart_44 hB zFuel _ _ _ h9 (x0) (x1) (x3) (x4) (x5) (x6) ((0 : Int32)) hG (lv_sub hl [1, 2, 4, 5, 6, 7, 0] rfl) hf
      · rw [if_pos hc10] at hf
        exact w_X11_apart_31 hB _ _ _ h7  hG (lv_sub hl [] rfl) hf
end G_X11_apart
theorem c_X11_apart {l : Launch} {D : va_G} {K : Nat → ClassId} {b0 N : Nat} {h : zh_H} {x0 : Nat} {x1 : Int32} {x2 : Int32} {x3 : Int32} {x4 : Int32} {x5 : Int32} {x6 : Int32} {r : Int32} {h2 : zh_H} (hf : b_X11_apart_0 h x0 x1 x2 x3 x4 x5 x6 = some (r, h2)) : zc l yX11_apart cX11_apart 9 (some .int) 3 0 0 D K b0 N h [.ref x0, .int x1, .int x2, .int x3, .int x4, .int x5, .int x6] (zq (some (.int r)) N h2) := by
  refine zc.of [(0, .ref x0), (1, .int x1), (2, .int x2), (3, .int x3), (4, .int x4), (5, .int x5), (6, .int x6)] (by decide) rfl (Nat.le_of_ble_eq_true rfl) ?_
  intro p e s m args below meth c hB hnm hG ls hl
  exact w_X11_apart_0 (res := (r, h2)) hB _ _ ls h x0 x1 x2 x3 x4 x5 x6 hG (lv_sub hl [0, 1, 2, 3, 4, 5, 6] rfl) hf

section G_X11_blame
variable {p : Program} {l : Launch} {e : Env} {s : State} {m : MethodId} {args : Array Value} {below : List Frame} {meth : Method} {c : Code} {D : va_G} {K : Nat → ClassId} {b0 N : Nat}
set_option maxRecDepth 100000 in
set_option maxHeartbeats 4000000 in
theorem w_X11_blame_0 {res : (Int32 × zh_H)} (hB : zc_B p s m args meth c cX11_blame 3 RX11 (some .int) D K) : ∀ (H : Heap) (locs : List Loc) (ls : Array Slot) (h : zh_H) (x0 : Nat) (x1 : Int32) (x2 : Int32), zh_G D K b0 N h s.heap H locs → lv_has ls 3 [(0, .ref x0), (1, .int x1), (2, .int x2)] → b_X11_blame_0 h x0 x1 x2 = some res → W p l e (zc_rm 0 0 0) s m args below meth c H locs 0 0 (MQ below (zc_Q D K b0 (zq (some (.int res.1)) N res.2)) args s 0 0 (fun q => b0 ≤ q)) (F0 m 0 ls []) := by
  have hx := hB.1
  have hb := hB.2.1
  intro H locs ls h x0 x1 x2 hG hl hf
  unfold b_X11_blame_0 at hf
  refine lv_aload_n hx hb dX11_blame_0 rfl (lv_at hl 0 rfl) ?_
  refine lv_iload_n hx hb dX11_blame_1 rfl (lv_at hl 1 rfl) ?_
  obtain ⟨h1, eh1, hf⟩ := zb hf
  refine zr_put hB hG zF_11 (by decide) kf_X11_113 rfl rfl rfl eh1 dX11_blame_2 (fun H locs hG => ?_)
  refine lv_aload_n hx hb dX11_blame_5 rfl (lv_at hl 0 rfl) ?_
  refine lv_iload_n hx hb dX11_blame_6 rfl (lv_at hl 2 rfl) ?_
  obtain ⟨h2, eh2, hf⟩ := zb hf
  refine zr_put hB hG zF_11 (by decide) kf_X11_116 rfl rfl rfl eh2 dX11_blame_7 (fun H locs hG => ?_)
  refine lv_iconst (v := 0) hx hb dX11_blame_10 (by decide) ?_
  obtain rfl := Option.some.inj hf
  exact zr_iret hB hG ⟨rfl, rfl, rfl⟩ dX11_blame_11
end G_X11_blame
theorem c_X11_blame {l : Launch} {D : va_G} {K : Nat → ClassId} {b0 N : Nat} {h : zh_H} {x0 : Nat} {x1 : Int32} {x2 : Int32} {r : Int32} {h2 : zh_H} (hf : b_X11_blame_0 h x0 x1 x2 = some (r, h2)) : zc l yX11_blame cX11_blame 3 (some .int) 0 0 0 D K b0 N h [.ref x0, .int x1, .int x2] (zq (some (.int r)) N h2) := by
  refine zc.of [(0, .ref x0), (1, .int x1), (2, .int x2)] (by decide) rfl (Nat.le_of_ble_eq_true rfl) ?_
  intro p e s m args below meth c hB hnm hG ls hl
  exact w_X11_blame_0 (res := (r, h2)) hB _ _ ls h x0 x1 x2 hG (lv_sub hl [0, 1, 2] rfl) hf

section G_X11_itemByte
variable {p : Program} {l : Launch} {e : Env} {s : State} {m : MethodId} {args : Array Value} {below : List Frame} {meth : Method} {c : Code} {D : va_G} {K : Nat → ClassId} {b0 N : Nat}
set_option maxRecDepth 100000 in
set_option maxHeartbeats 4000000 in
theorem w_X11_itemByte_45 {res : (Int32 × zh_H)} (hB : zc_B p s m args meth c cX11_itemByte 2 RX11 (some .int) D K) : ∀ (H : Heap) (locs : List Loc) (ls : Array Slot) (h : zh_H) (x0 : Nat) (y0 : Int32) (y1 : Int32) (y2 : Nat), zh_G D K b0 N h s.heap H locs → lv_has ls 2 [(0, .ref x0)] → b_X11_itemByte_45 h x0 y0 y1 y2 = some res → W p l e (zc_rm 1 0 0) s m args below meth c H locs 0 0 (MQ below (zc_Q D K b0 (zq (some (.int res.1)) N res.2)) args s 0 0 (fun q => b0 ≤ q)) (F0 m 45 ls [.int y0, .int y1, .ref y2]) := by
  have hx := hB.1
  have hb := hB.2.1
  intro H locs ls h x0 y0 y1 y2 hG hl hf
  unfold b_X11_itemByte_45 at hf
  refine lv_iadd hx hb dX11_itemByte_45 ?_
  obtain ⟨h1, eh1, hf⟩ := zb hf
  refine zr_put hB hG zF_11 (by decide) kf_X11_130 rfl rfl rfl eh1 dX11_itemByte_46 (fun H locs hG => ?_)
  refine lv_aload_n hx hb dX11_itemByte_49 rfl (lv_at hl 0 rfl) ?_
  obtain ⟨v2, ev2, hf⟩ := zb hf
  refine zr_getI hB hG zF_11 (by decide) kf_X11_130 ev2 dX11_itemByte_50 ?_
  refine lv_aload_n hx hb dX11_itemByte_53 rfl (lv_at hl 0 rfl) ?_
  obtain ⟨v3, ev3, hf⟩ := zb hf
  refine zr_getI hB hG zF_11 (by decide) kf_X11_110 ev3 dX11_itemByte_54 ?_
  refine lv_icmp_lt (tgt := 70) hx hb dX11_itemByte_57 (by decide) (fun hc13 => ?_) (fun hc13 => ?_)
  · rw [if_pos hc13] at hf
    refine lv_aload_n hx hb dX11_itemByte_70 rfl (lv_at hl 0 rfl) ?_
    refine lv_dup hx hb dX11_itemByte_71 rfl ?_
    obtain ⟨v4, ev4, hf⟩ := zb hf
    refine zr_getI hB hG zF_11 (by decide) kf_X11_130 ev4 dX11_itemByte_72 ?_
    refine lv_iconst (v := 1) hx hb dX11_itemByte_75 (by decide) ?_
    refine lv_iadd hx hb dX11_itemByte_76 ?_
    obtain ⟨h5, eh5, hf⟩ := zb hf
    refine zr_put hB hG zF_11 (by decide) kf_X11_130 rfl rfl rfl eh5 dX11_itemByte_77 (fun H locs hG => ?_)
    refine lv_aload_n hx hb dX11_itemByte_80 rfl (lv_at hl 0 rfl) ?_
    obtain ⟨a6, ea6, hf⟩ := zb hf
    refine zr_getR hB hG zF_11 (by decide) kf_X11_7 ea6 dX11_itemByte_81 ?_
    refine lv_aload_n hx hb dX11_itemByte_84 rfl (lv_at hl 0 rfl) ?_
    obtain ⟨v7, ev7, hf⟩ := zb hf
    refine zr_getI hB hG zF_11 (by decide) kf_X11_130 ev7 dX11_itemByte_85 ?_
    refine lv_iconst (v := 1) hx hb dX11_itemByte_88 (by decide) ?_
    refine lv_isub hx hb dX11_itemByte_89 ?_
    obtain ⟨v8, ev8, hf⟩ := zb hf
    refine zr_iald hB hG ev8 dX11_itemByte_90 ?_
    obtain rfl := Option.some.inj hf
    exact zr_iret hB hG ⟨rfl, rfl, rfl⟩ dX11_itemByte_91
  · rw [if_neg hc13] at hf
    refine lv_aload_n hx hb dX11_itemByte_60 rfl (lv_at hl 0 rfl) ?_
    refine lv_iconst (v := 3) hx hb dX11_itemByte_61 (by decide) ?_
    refine lv_aload_n hx hb dX11_itemByte_62 rfl (lv_at hl 0 rfl) ?_
    obtain ⟨v9, ev9, hf⟩ := zb hf
    refine zr_getI hB hG zF_11 (by decide) kf_X11_110 ev9 dX11_itemByte_63 ?_
    obtain ⟨o10, eo10, hf⟩ := zb hf
    obtain ⟨v12, h11, eh11, hf⟩ := zbp_s hf
    refine zr_callV (As := [.int (3 : Int32), .int v9]) kc_X11_133 hB hG (c_X11_blame eh11) eo10 rfl hl.1 rfl ⟨by decide, by decide⟩ (Nat.le_of_ble_eq_true rfl) ⟨by decide, by decide⟩ dX11_itemByte_66 (fun H locs hG => ?_)
    obtain rfl := Option.some.inj hf
    exact zr_iret hB hG ⟨rfl, rfl, rfl⟩ dX11_itemByte_69

set_option maxRecDepth 100000 in
set_option maxHeartbeats 4000000 in
theorem w_X11_itemByte_30 {res : (Int32 × zh_H)} (hB : zc_B p s m args meth c cX11_itemByte 2 RX11 (some .int) D K) : ∀ (H : Heap) (locs : List Loc) (ls : Array Slot) (h : zh_H) (x0 : Nat) (y0 : Int32), zh_G D K b0 N h s.heap H locs → lv_has ls 2 [(0, .ref x0)] → b_X11_itemByte_30 h x0 y0 = some res → W p l e (zc_rm 1 0 0) s m args below meth c H locs 0 0 (MQ below (zc_Q D K b0 (zq (some (.int res.1)) N res.2)) args s 0 0 (fun q => b0 ≤ q)) (F0 m 30 ls [.int y0]) := by
  have hx := hB.1
  have hb := hB.2.1
  intro H locs ls h x0 y0 hG hl hf
  unfold b_X11_itemByte_30 at hf
  refine lv_istore_n (lv' := [(1, .int y0), (0, .ref x0)]) hx hb dX11_itemByte_30 rfl hl (by decide) rfl (fun ls hl => ?_)
  refine lv_aload_n hx hb dX11_itemByte_31 rfl (lv_at hl 1 rfl) ?_
  refine lv_dup hx hb dX11_itemByte_32 rfl ?_
  obtain ⟨v1, ev1, hf⟩ := zb hf
  refine zr_getI hB hG zF_11 (by decide) kf_X11_130 ev1 dX11_itemByte_33 ?_
  refine lv_iload_n hx hb dX11_itemByte_36 rfl (lv_at hl 0 rfl) ?_
  refine lv_if_eq (tgt := 44) hx hb dX11_itemByte_37 (by decide) (fun hc2 => ?_) (fun hc2 => ?_)
  · rw [if_pos hc2] at hf
    refine lv_iconst (v := 0) hx hb dX11_itemByte_44 (by decide) ?_
    exact w_X11_itemByte_45 hB _ _ _ h (x0) ((0 : Int32)) (v1) (x0) hG (lv_sub hl [1] rfl) hf
  · rw [if_neg hc2] at hf
    refine lv_iconst (v := 1) hx hb dX11_itemByte_40 (by decide) ?_
    refine lv_goto (tgt := 45) hx hb dX11_itemByte_41 (by decide) ?_
    exact w_X11_itemByte_45 hB _ _ _ h (x0) ((1 : Int32)) (v1) (x0) hG (lv_sub hl [1] rfl) hf

set_option maxRecDepth 100000 in
set_option maxHeartbeats 4000000 in
theorem w_X11_itemByte_29 {res : (Int32 × zh_H)} (hB : zc_B p s m args meth c cX11_itemByte 2 RX11 (some .int) D K) : ∀ (H : Heap) (locs : List Loc) (ls : Array Slot) (h : zh_H) (x0 : Nat), zh_G D K b0 N h s.heap H locs → lv_has ls 2 [(0, .ref x0)] → b_X11_itemByte_29 h x0 = some res → W p l e (zc_rm 1 0 0) s m args below meth c H locs 0 0 (MQ below (zc_Q D K b0 (zq (some (.int res.1)) N res.2)) args s 0 0 (fun q => b0 ≤ q)) (F0 m 29 ls []) := by
  have hx := hB.1
  have hb := hB.2.1
  intro H locs ls h x0 hG hl hf
  unfold b_X11_itemByte_29 at hf
  refine lv_iconst (v := 0) hx hb dX11_itemByte_29 (by decide) ?_
  exact w_X11_itemByte_30 hB _ _ _ h (x0) ((0 : Int32)) hG (lv_sub hl [0] rfl) hf

set_option maxRecDepth 100000 in
set_option maxHeartbeats 4000000 in
theorem w_X11_itemByte_0 {res : (Int32 × zh_H)} (hB : zc_B p s m args meth c cX11_itemByte 2 RX11 (some .int) D K) : ∀ (H : Heap) (locs : List Loc) (ls : Array Slot) (h : zh_H) (x0 : Nat), zh_G D K b0 N h s.heap H locs → lv_has ls 2 [(0, .ref x0)] → b_X11_itemByte_0 h x0 = some res → W p l e (zc_rm 1 0 0) s m args below meth c H locs 0 0 (MQ below (zc_Q D K b0 (zq (some (.int res.1)) N res.2)) args s 0 0 (fun q => b0 ≤ q)) (F0 m 0 ls []) := by
  have hx := hB.1
  have hb := hB.2.1
  intro H locs ls h x0 hG hl hf
  unfold b_X11_itemByte_0 at hf
  refine lv_aload_n hx hb dX11_itemByte_0 rfl (lv_at hl 0 rfl) ?_
  obtain ⟨v1, ev1, hf⟩ := zb hf
  refine zr_getI hB hG zF_11 (by decide) kf_X11_130 ev1 dX11_itemByte_1 ?_
  refine lv_aload_n hx hb dX11_itemByte_4 rfl (lv_at hl 0 rfl) ?_
  obtain ⟨v2, ev2, hf⟩ := zb hf
  refine zr_getI hB hG zF_11 (by decide) kf_X11_110 ev2 dX11_itemByte_5 ?_
  refine lv_icmp_ge (tgt := 29) hx hb dX11_itemByte_8 (by decide) (fun hc7 => ?_) (fun hc7 => ?_)
  · rw [if_pos hc7] at hf
    exact w_X11_itemByte_29 hB _ _ _ h (x0) hG (lv_sub hl [0] rfl) hf
  · rw [if_neg hc7] at hf
    refine lv_aload_n hx hb dX11_itemByte_11 rfl (lv_at hl 0 rfl) ?_
    obtain ⟨a3, ea3, hf⟩ := zb hf
    refine zr_getR hB hG zF_11 (by decide) kf_X11_7 ea3 dX11_itemByte_12 ?_
    refine lv_aload_n hx hb dX11_itemByte_15 rfl (lv_at hl 0 rfl) ?_
    obtain ⟨v4, ev4, hf⟩ := zb hf
    refine zr_getI hB hG zF_11 (by decide) kf_X11_130 ev4 dX11_itemByte_16 ?_
    obtain ⟨v5, ev5, hf⟩ := zb hf
    refine zr_iald hB hG ev5 dX11_itemByte_19 ?_
    refine lv_bipush (v := 92) hx hb dX11_itemByte_20 (by decide) ?_
    refine lv_icmp_ne (tgt := 29) hx hb dX11_itemByte_22 (by decide) (fun hc6 => ?_) (fun hc6 => ?_)
    · rw [if_neg hc6] at hf
      exact w_X11_itemByte_29 hB _ _ _ h (x0) hG (lv_sub hl [0] rfl) hf
    · rw [if_pos hc6] at hf
      refine lv_iconst (v := 1) hx hb dX11_itemByte_25 (by decide) ?_
      refine lv_goto (tgt := 30) hx hb dX11_itemByte_26 (by decide) ?_
      exact w_X11_itemByte_30 hB _ _ _ h (x0) ((1 : Int32)) hG (lv_sub hl [0] rfl) hf
end G_X11_itemByte
theorem c_X11_itemByte {l : Launch} {D : va_G} {K : Nat → ClassId} {b0 N : Nat} {h : zh_H} {x0 : Nat} {r : Int32} {h2 : zh_H} (hf : b_X11_itemByte_0 h x0 = some (r, h2)) : zc l yX11_itemByte cX11_itemByte 2 (some .int) 1 0 0 D K b0 N h [.ref x0] (zq (some (.int r)) N h2) := by
  refine zc.of [(0, .ref x0)] (by decide) rfl (Nat.le_of_ble_eq_true rfl) ?_
  intro p e s m args below meth c hB hnm hG ls hl
  exact w_X11_itemByte_0 (res := (r, h2)) hB _ _ ls h x0 hG (lv_sub hl [0] rfl) hf

section G_X11_isByte
variable {p : Program} {l : Launch} {e : Env} {s : State} {m : MethodId} {args : Array Value} {below : List Frame} {meth : Method} {c : Code} {D : va_G} {K : Nat → ClassId} {b0 N : Nat}
set_option maxRecDepth 100000 in
set_option maxHeartbeats 4000000 in
theorem w_X11_isByte_22 {res : (Int32 × zh_H)} (hB : zc_B p s m args meth c cX11_isByte 1 RX11 (some .boolean) D K) : ∀ (H : Heap) (locs : List Loc) (ls : Array Slot) (h : zh_H) (y0 : Int32), zh_G D K b0 N h s.heap H locs → lv_has ls 1 [] → b_X11_isByte_22 h y0 = some res → W p l e (zc_rm 1 0 0) s m args below meth c H locs 0 0 (MQ below (zc_Q D K b0 (zq (some (.int res.1)) N res.2)) args s 0 0 (fun q => b0 ≤ q)) (F0 m 22 ls [.int y0]) := by
  have hx := hB.1
  have hb := hB.2.1
  intro H locs ls h y0 hG hl hf
  unfold b_X11_isByte_22 at hf
  obtain ⟨hz, hf⟩ := zif_s hf
  obtain rfl := Option.some.inj hf
  exact zr_zret hB hG hz ⟨rfl, rfl, rfl⟩ dX11_isByte_22

set_option maxRecDepth 100000 in
set_option maxHeartbeats 4000000 in
theorem w_X11_isByte_17 {res : (Int32 × zh_H)} (hB : zc_B p s m args meth c cX11_isByte 1 RX11 (some .boolean) D K) : ∀ (H : Heap) (locs : List Loc) (ls : Array Slot) (h : zh_H), zh_G D K b0 N h s.heap H locs → lv_has ls 1 [] → b_X11_isByte_17 h  = some res → W p l e (zc_rm 1 0 0) s m args below meth c H locs 0 0 (MQ below (zc_Q D K b0 (zq (some (.int res.1)) N res.2)) args s 0 0 (fun q => b0 ≤ q)) (F0 m 17 ls []) := by
  have hx := hB.1
  have hb := hB.2.1
  intro H locs ls h  hG hl hf
  unfold b_X11_isByte_17 at hf
  refine lv_iconst (v := 1) hx hb dX11_isByte_17 (by decide) ?_
  refine lv_goto (tgt := 22) hx hb dX11_isByte_18 (by decide) ?_
  exact w_X11_isByte_22 hB _ _ _ h ((1 : Int32)) hG (lv_sub hl [] rfl) hf

set_option maxRecDepth 100000 in
set_option maxHeartbeats 4000000 in
theorem w_X11_isByte_0 {res : (Int32 × zh_H)} (hB : zc_B p s m args meth c cX11_isByte 1 RX11 (some .boolean) D K) : ∀ (H : Heap) (locs : List Loc) (ls : Array Slot) (h : zh_H) (x0 : Int32), zh_G D K b0 N h s.heap H locs → lv_has ls 1 [(0, .int x0)] → b_X11_isByte_0 h x0 = some res → W p l e (zc_rm 1 0 0) s m args below meth c H locs 0 0 (MQ below (zc_Q D K b0 (zq (some (.int res.1)) N res.2)) args s 0 0 (fun q => b0 ≤ q)) (F0 m 0 ls []) := by
  have hx := hB.1
  have hb := hB.2.1
  intro H locs ls h x0 hG hl hf
  unfold b_X11_isByte_0 at hf
  refine lv_iload_n hx hb dX11_isByte_0 rfl (lv_at hl 0 rfl) ?_
  refine lv_bipush (v := 10) hx hb dX11_isByte_1 (by decide) ?_
  refine lv_icmp_eq (tgt := 17) hx hb dX11_isByte_3 (by decide) (fun hc4 => ?_) (fun hc4 => ?_)
  · rw [if_pos hc4] at hf
    exact w_X11_isByte_17 hB _ _ _ h  hG (lv_sub hl [] rfl) hf
  · rw [if_neg hc4] at hf
    refine lv_iload_n hx hb dX11_isByte_6 rfl (lv_at hl 0 rfl) ?_
    refine lv_bipush (v := 32) hx hb dX11_isByte_7 (by decide) ?_
    refine lv_bipush (v := 126) hx hb dX11_isByte_9 (by decide) ?_
    obtain ⟨v2, h1, eh1, hf⟩ := zbp_s hf
    refine zr_callS (As := [.int x0, .int (32 : Int32), .int (126 : Int32)]) kc_X11_100 hB hG (c_X11_in eh1) rfl hl.1 rfl ⟨by decide, by decide⟩ (Nat.le_of_ble_eq_true rfl) ⟨by decide, by decide⟩ dX11_isByte_11 (fun H locs hG => ?_)
    refine lv_if_eq (tgt := 21) hx hb dX11_isByte_14 (by decide) (fun hc3 => ?_) (fun hc3 => ?_)
    · rw [if_pos hc3] at hf
      refine lv_iconst (v := 0) hx hb dX11_isByte_21 (by decide) ?_
      exact w_X11_isByte_22 hB _ _ _ h1 ((0 : Int32)) hG (lv_sub hl [] rfl) hf
    · rw [if_neg hc3] at hf
      exact w_X11_isByte_17 hB _ _ _ h1  hG (lv_sub hl [] rfl) hf
end G_X11_isByte
theorem c_X11_isByte {l : Launch} {D : va_G} {K : Nat → ClassId} {b0 N : Nat} {h : zh_H} {x0 : Int32} {r : Int32} {h2 : zh_H} (hf : b_X11_isByte_0 h x0 = some (r, h2)) : zc l yX11_isByte cX11_isByte 1 (some .boolean) 1 0 0 D K b0 N h [.int x0] (zq (some (.int r)) N h2) := by
  refine zc.of [(0, .int x0)] (by decide) rfl (Nat.le_of_ble_eq_true rfl) ?_
  intro p e s m args below meth c hB hnm hG ls hl
  exact w_X11_isByte_0 (res := (r, h2)) hB _ _ ls h x0 hG (lv_sub hl [0] rfl) hf

section G_X11_put
variable {p : Program} {l : Launch} {e : Env} {s : State} {m : MethodId} {args : Array Value} {below : List Frame} {meth : Method} {c : Code} {D : va_G} {K : Nat → ClassId} {b0 N : Nat}
set_option maxRecDepth 100000 in
set_option maxHeartbeats 4000000 in
theorem w_X11_put_36 {res : zh_H} (hB : zc_B p s m args meth c cX11_put 2 RX11 none D K) : ∀ (H : Heap) (locs : List Loc) (ls : Array Slot) (h : zh_H), zh_G D K b0 N h s.heap H locs → lv_has ls 2 [] → b_X11_put_36 h  = some res → W p l e (zc_rm 0 0 0) s m args below meth c H locs 0 0 (MQ below (zc_Q D K b0 (zq none N res)) args s 0 0 (fun q => b0 ≤ q)) (F0 m 36 ls []) := by
  have hx := hB.1
  have hb := hB.2.1
  intro H locs ls h  hG hl hf
  unfold b_X11_put_36 at hf
  obtain rfl := Option.some.inj hf
  exact zr_vret hB hG ⟨rfl, rfl, rfl⟩ dX11_put_36

set_option maxRecDepth 100000 in
set_option maxHeartbeats 4000000 in
theorem w_X11_put_0 {res : zh_H} (hB : zc_B p s m args meth c cX11_put 2 RX11 none D K) : ∀ (H : Heap) (locs : List Loc) (ls : Array Slot) (h : zh_H) (x0 : Nat) (x1 : Int32), zh_G D K b0 N h s.heap H locs → lv_has ls 2 [(0, .ref x0), (1, .int x1)] → b_X11_put_0 h x0 x1 = some res → W p l e (zc_rm 0 0 0) s m args below meth c H locs 0 0 (MQ below (zc_Q D K b0 (zq none N res)) args s 0 0 (fun q => b0 ≤ q)) (F0 m 0 ls []) := by
  have hx := hB.1
  have hb := hB.2.1
  intro H locs ls h x0 x1 hG hl hf
  unfold b_X11_put_0 at hf
  refine lv_iload_n hx hb dX11_put_0 rfl (lv_at hl 1 rfl) ?_
  refine lv_bipush (v := 64) hx hb dX11_put_1 (by decide) ?_
  refine lv_icmp_ge (tgt := 21) hx hb dX11_put_3 (by decide) (fun hc5 => ?_) (fun hc5 => ?_)
  · rw [if_pos hc5] at hf
    refine lv_aload_n hx hb dX11_put_21 rfl (lv_at hl 0 rfl) ?_
    refine lv_dup hx hb dX11_put_22 rfl ?_
    obtain ⟨u1, eu1, hf⟩ := zb hf
    refine zr_getL hB hG zF_11 (by decide) kf_X11_123 eu1 dX11_put_23 ?_
    refine lv_lconst (v := 1) hx hb dX11_put_26 (by decide) ?_
    refine lv_iload_n hx hb dX11_put_27 rfl (lv_at hl 1 rfl) ?_
    refine lv_bipush (v := 64) hx hb dX11_put_28 (by decide) ?_
    refine lv_isub hx hb dX11_put_30 ?_
    refine lv_lshl hx hb dX11_put_31 rfl ?_
    refine lv_lor hx hb dX11_put_32 ?_
    obtain ⟨h2, eh2, hf⟩ := zb hf
    refine zr_put hB hG zF_11 (by decide) kf_X11_123 rfl rfl rfl eh2 dX11_put_33 (fun H locs hG => ?_)
    exact w_X11_put_36 hB _ _ _ h2  hG (lv_sub hl [] rfl) hf
  · rw [if_neg hc5] at hf
    refine lv_aload_n hx hb dX11_put_6 rfl (lv_at hl 0 rfl) ?_
    refine lv_dup hx hb dX11_put_7 rfl ?_
    obtain ⟨u3, eu3, hf⟩ := zb hf
    refine zr_getL hB hG zF_11 (by decide) kf_X11_119 eu3 dX11_put_8 ?_
    refine lv_lconst (v := 1) hx hb dX11_put_11 (by decide) ?_
    refine lv_iload_n hx hb dX11_put_12 rfl (lv_at hl 1 rfl) ?_
    refine lv_lshl hx hb dX11_put_13 rfl ?_
    refine lv_lor hx hb dX11_put_14 ?_
    obtain ⟨h4, eh4, hf⟩ := zb hf
    refine zr_put hB hG zF_11 (by decide) kf_X11_119 rfl rfl rfl eh4 dX11_put_15 (fun H locs hG => ?_)
    refine lv_goto (tgt := 36) hx hb dX11_put_18 (by decide) ?_
    exact w_X11_put_36 hB _ _ _ h4  hG (lv_sub hl [] rfl) hf
end G_X11_put
theorem c_X11_put {l : Launch} {D : va_G} {K : Nat → ClassId} {b0 N : Nat} {h : zh_H} {x0 : Nat} {x1 : Int32} {h2 : zh_H} (hf : b_X11_put_0 h x0 x1 = some h2) : zc l yX11_put cX11_put 2 none 0 0 0 D K b0 N h [.ref x0, .int x1] (zq none N h2) := by
  refine zc.of [(0, .ref x0), (1, .int x1)] (by decide) rfl (Nat.le_of_ble_eq_true rfl) ?_
  intro p e s m args below meth c hB hnm hG ls hl
  exact w_X11_put_0 (res := h2) hB _ _ ls h x0 x1 hG (lv_sub hl [0, 1] rfl) hf

section G_X11_putAll
variable {p : Program} {l : Launch} {e : Env} {s : State} {m : MethodId} {args : Array Value} {below : List Frame} {meth : Method} {c : Code} {D : va_G} {K : Nat → ClassId} {b0 N : Nat}
set_option maxRecDepth 100000 in
set_option maxHeartbeats 4000000 in
theorem w_X11_putAll_30 {res : zh_H} (hB : zc_B p s m args meth c cX11_putAll 4 RX11 none D K) {k2 : zh_H → Nat → Int32 → Int32 → Int32 → Option zh_H} (hk2 : ∀ (H : Heap) (locs : List Loc) (ls : Array Slot) (h : zh_H) (x0 : Nat) (x1 : Int32) (x2 : Int32) (x3 : Int32), zh_G D K b0 N h s.heap H locs → lv_has ls 4 [(0, .ref x0), (1, .int x1), (2, .int x2), (3, .int x3)] → k2 h x0 x1 x2 x3 = some res → W p l e (zc_rm 2 0 0) s m args below meth c H locs 0 0 (MQ below (zc_Q D K b0 (zq none N res)) args s 0 0 (fun q => b0 ≤ q)) (F0 m 2 ls [])) : ∀ (H : Heap) (locs : List Loc) (ls : Array Slot) (h : zh_H) (x0 : Nat) (x1 : Int32) (x2 : Int32) (x3 : Int32), zh_G D K b0 N h s.heap H locs → lv_has ls 4 [(0, .ref x0), (1, .int x1), (2, .int x2), (3, .int x3)] → b_X11_putAll_30 k2 h x0 x1 x2 x3 = some res → W p l e (zc_rm 2 0 0) s m args below meth c H locs 0 0 (MQ below (zc_Q D K b0 (zq none N res)) args s 0 0 (fun q => b0 ≤ q)) (F0 m 30 ls []) := by
  have hx := hB.1
  have hb := hB.2.1
  intro H locs ls h x0 x1 x2 x3 hG hl hf
  unfold b_X11_putAll_30 at hf
  refine lv_iinc (v := (x3 + (1 : Int32))) (lv' := [(3, .int (x3 + (1 : Int32))), (0, .ref x0), (1, .int x1), (2, .int x2)]) hx hb dX11_putAll_30 hl (k := 3) rfl rfl (by decide) rfl (fun ls hl => ?_)
  refine lv_goto (tgt := 2) hx hb dX11_putAll_33 (by decide) ?_
  exact hk2 _ _ _ h (x0) (x1) (x2) ((x3 + (1 : Int32))) hG (lv_sub hl [1, 2, 3, 0] rfl) hf

set_option maxRecDepth 100000 in
set_option maxHeartbeats 4000000 in
theorem w_X11_putAll_2 {res : zh_H} (hB : zc_B p s m args meth c cX11_putAll 4 RX11 none D K) : ∀ n : Nat, ∀ (H : Heap) (locs : List Loc) (ls : Array Slot) (h : zh_H) (x0 : Nat) (x1 : Int32) (x2 : Int32) (x3 : Int32), zh_G D K b0 N h s.heap H locs → lv_has ls 4 [(0, .ref x0), (1, .int x1), (2, .int x2), (3, .int x3)] → b_X11_putAll_2 n h x0 x1 x2 x3 = some res → W p l e (zc_rm 2 0 0) s m args below meth c H locs 0 0 (MQ below (zc_Q D K b0 (zq none N res)) args s 0 0 (fun q => b0 ≤ q)) (F0 m 2 ls []) := by
  have hx := hB.1
  have hb := hB.2.1
  intro n
  induction n with
  | zero =>
    intro H locs ls h x0 x1 x2 x3 hG hl hf
    cases hf
  | succ n ih =>
    intro H locs ls h x0 x1 x2 x3 hG hl hf
    unfold b_X11_putAll_2 at hf
    refine lv_iload_n hx hb dX11_putAll_2 rfl (lv_at hl 3 rfl) ?_
    refine lv_bipush (v := 127) hx hb dX11_putAll_3 (by decide) ?_
    refine lv_icmp_ge (tgt := 36) hx hb dX11_putAll_5 (by decide) (fun hc8 => ?_) (fun hc8 => ?_)
    · rw [if_pos hc8] at hf
      obtain rfl := Option.some.inj hf
      exact zr_vret hB hG ⟨rfl, rfl, rfl⟩ dX11_putAll_36
    · rw [if_neg hc8] at hf
      refine lv_iload_n hx hb dX11_putAll_8 rfl (lv_at hl 3 rfl) ?_
      obtain ⟨v2, h1, eh1, hf⟩ := zbp_s hf
      refine zr_callS (As := [.int x3]) kc_X11_106 hB hG (c_X11_isByte eh1) rfl hl.1 rfl ⟨by decide, by decide⟩ (Nat.le_of_ble_eq_true rfl) ⟨by decide, by decide⟩ dX11_putAll_9 (fun H locs hG => ?_)
      refine lv_if_eq (tgt := 30) hx hb dX11_putAll_12 (by decide) (fun hc7 => ?_) (fun hc7 => ?_)
      · rw [if_pos hc7] at hf
        exact w_X11_putAll_30 hB ih _ _ _ h1 (x0) (x1) (x2) (x3) hG (lv_sub hl [0, 1, 2, 3] rfl) hf
      · rw [if_neg hc7] at hf
        refine lv_iload_n hx hb dX11_putAll_15 rfl (lv_at hl 3 rfl) ?_
        refine lv_iload_n hx hb dX11_putAll_16 rfl (lv_at hl 1 rfl) ?_
        refine lv_icmp_lt (tgt := 30) hx hb dX11_putAll_17 (by decide) (fun hc6 => ?_) (fun hc6 => ?_)
        · rw [if_pos hc6] at hf
          exact w_X11_putAll_30 hB ih _ _ _ h1 (x0) (x1) (x2) (x3) hG (lv_sub hl [0, 1, 2, 3] rfl) hf
        · rw [if_neg hc6] at hf
          refine lv_iload_n hx hb dX11_putAll_20 rfl (lv_at hl 3 rfl) ?_
          refine lv_iload_n hx hb dX11_putAll_21 rfl (lv_at hl 2 rfl) ?_
          refine lv_icmp_gt (tgt := 30) hx hb dX11_putAll_22 (by decide) (fun hc5 => ?_) (fun hc5 => ?_)
          · rw [if_pos hc5] at hf
            exact w_X11_putAll_30 hB ih _ _ _ h1 (x0) (x1) (x2) (x3) hG (lv_sub hl [0, 1, 2, 3] rfl) hf
          · rw [if_neg hc5] at hf
            refine lv_aload_n hx hb dX11_putAll_25 rfl (lv_at hl 0 rfl) ?_
            refine lv_iload_n hx hb dX11_putAll_26 rfl (lv_at hl 3 rfl) ?_
            obtain ⟨o3, eo3, hf⟩ := zb hf
            obtain ⟨h4, eh4, hf⟩ := zb hf
            refine zr_callVv (As := [.int x3]) kc_X11_126 hB hG (c_X11_put eh4) eo3 rfl hl.1 rfl ⟨by decide, by decide⟩ (Nat.le_of_ble_eq_true rfl) ⟨by decide, by decide⟩ dX11_putAll_27 (fun H locs hG => ?_)
            exact w_X11_putAll_30 hB ih _ _ _ h4 (x0) (x1) (x2) (x3) hG (lv_sub hl [0, 1, 2, 3] rfl) hf

set_option maxRecDepth 100000 in
set_option maxHeartbeats 4000000 in
theorem w_X11_putAll_0 {res : zh_H} (hB : zc_B p s m args meth c cX11_putAll 4 RX11 none D K) : ∀ (H : Heap) (locs : List Loc) (ls : Array Slot) (h : zh_H) (x0 : Nat) (x1 : Int32) (x2 : Int32), zh_G D K b0 N h s.heap H locs → lv_has ls 4 [(0, .ref x0), (1, .int x1), (2, .int x2)] → b_X11_putAll_0 h x0 x1 x2 = some res → W p l e (zc_rm 2 0 0) s m args below meth c H locs 0 0 (MQ below (zc_Q D K b0 (zq none N res)) args s 0 0 (fun q => b0 ≤ q)) (F0 m 0 ls []) := by
  have hx := hB.1
  have hb := hB.2.1
  intro H locs ls h x0 x1 x2 hG hl hf
  unfold b_X11_putAll_0 at hf
  refine lv_iconst (v := 0) hx hb dX11_putAll_0 (by decide) ?_
  refine lv_istore_n (lv' := [(3, .int (0 : Int32)), (0, .ref x0), (1, .int x1), (2, .int x2)]) hx hb dX11_putAll_1 rfl hl (by decide) rfl (fun ls hl => ?_)
  exact w_X11_putAll_2 hB zFuel _ _ _ h (x0) (x1) (x2) ((0 : Int32)) hG (lv_sub hl [1, 2, 3, 0] rfl) hf
end G_X11_putAll
theorem c_X11_putAll {l : Launch} {D : va_G} {K : Nat → ClassId} {b0 N : Nat} {h : zh_H} {x0 : Nat} {x1 : Int32} {x2 : Int32} {h2 : zh_H} (hf : b_X11_putAll_0 h x0 x1 x2 = some h2) : zc l yX11_putAll cX11_putAll 4 none 2 0 0 D K b0 N h [.ref x0, .int x1, .int x2] (zq none N h2) := by
  refine zc.of [(0, .ref x0), (1, .int x1), (2, .int x2)] (by decide) rfl (Nat.le_of_ble_eq_true rfl) ?_
  intro p e s m args below meth c hB hnm hG ls hl
  exact w_X11_putAll_0 (res := h2) hB _ _ ls h x0 x1 x2 hG (lv_sub hl [0, 1, 2] rfl) hf

section G_X11_bracket
variable {p : Program} {l : Launch} {e : Env} {s : State} {m : MethodId} {args : Array Value} {below : List Frame} {meth : Method} {c : Code} {D : va_G} {K : Nat → ClassId} {b0 N : Nat}
set_option maxRecDepth 100000 in
set_option maxHeartbeats 4000000 in
theorem w_X11_bracket_252 {res : zh_H} (hB : zc_B p s m args meth c cX11_bracket 7 RX11 none D K) {k97 : zh_H → Nat → Int32 → Int32 → Option zh_H} (hk97 : ∀ (H : Heap) (locs : List Loc) (ls : Array Slot) (h : zh_H) (x0 : Nat) (x1 : Int32) (x2 : Int32), zh_G D K b0 N h s.heap H locs → lv_has ls 7 [(0, .ref x0), (1, .int x1), (2, .int x2)] → k97 h x0 x1 x2 = some res → W p l e (zc_rm 3 0 0) s m args below meth c H locs 0 0 (MQ below (zc_Q D K b0 (zq none N res)) args s 0 0 (fun q => b0 ≤ q)) (F0 m 97 ls [])) : ∀ (H : Heap) (locs : List Loc) (ls : Array Slot) (h : zh_H) (x0 : Nat) (x1 : Int32) (x2 : Int32), zh_G D K b0 N h s.heap H locs → lv_has ls 7 [(0, .ref x0), (1, .int x1), (2, .int x2)] → b_X11_bracket_252 k97 h x0 x1 x2 = some res → W p l e (zc_rm 3 0 0) s m args below meth c H locs 0 0 (MQ below (zc_Q D K b0 (zq none N res)) args s 0 0 (fun q => b0 ≤ q)) (F0 m 252 ls []) := by
  have hx := hB.1
  have hb := hB.2.1
  intro H locs ls h x0 x1 x2 hG hl hf
  unfold b_X11_bracket_252 at hf
  refine lv_goto (tgt := 97) hx hb dX11_bracket_252 (by decide) ?_
  exact hk97 _ _ _ h (x0) (x1) (x2) hG (lv_sub hl [0, 1, 2] rfl) hf

set_option maxRecDepth 100000 in
set_option maxHeartbeats 4000000 in
theorem w_X11_bracket_251 {res : zh_H} (hB : zc_B p s m args meth c cX11_bracket 7 RX11 none D K) {k97 : zh_H → Nat → Int32 → Int32 → Option zh_H} (hk97 : ∀ (H : Heap) (locs : List Loc) (ls : Array Slot) (h : zh_H) (x0 : Nat) (x1 : Int32) (x2 : Int32), zh_G D K b0 N h s.heap H locs → lv_has ls 7 [(0, .ref x0), (1, .int x1), (2, .int x2)] → k97 h x0 x1 x2 = some res → W p l e (zc_rm 3 0 0) s m args below meth c H locs 0 0 (MQ below (zc_Q D K b0 (zq none N res)) args s 0 0 (fun q => b0 ≤ q)) (F0 m 97 ls [])) : ∀ (H : Heap) (locs : List Loc) (ls : Array Slot) (h : zh_H) (x0 : Nat) (x1 : Int32) (y0 : Int32), zh_G D K b0 N h s.heap H locs → lv_has ls 7 [(0, .ref x0), (1, .int x1)] → b_X11_bracket_251 k97 h x0 x1 y0 = some res → W p l e (zc_rm 3 0 0) s m args below meth c H locs 0 0 (MQ below (zc_Q D K b0 (zq none N res)) args s 0 0 (fun q => b0 ≤ q)) (F0 m 251 ls [.int y0]) := by
  have hx := hB.1
  have hb := hB.2.1
  intro H locs ls h x0 x1 y0 hG hl hf
  unfold b_X11_bracket_251 at hf
  refine lv_istore_n (lv' := [(2, .int y0), (0, .ref x0), (1, .int x1)]) hx hb dX11_bracket_251 rfl hl (by decide) rfl (fun ls hl => ?_)
  exact w_X11_bracket_252 hB hk97 _ _ _ h (x0) (x1) (y0) hG (lv_sub hl [1, 2, 0] rfl) hf

set_option maxRecDepth 100000 in
set_option maxHeartbeats 4000000 in
theorem w_X11_bracket_193 {res : zh_H} (hB : zc_B p s m args meth c cX11_bracket 7 RX11 none D K) {k97 : zh_H → Nat → Int32 → Int32 → Option zh_H} (hk97 : ∀ (H : Heap) (locs : List Loc) (ls : Array Slot) (h : zh_H) (x0 : Nat) (x1 : Int32) (x2 : Int32), zh_G D K b0 N h s.heap H locs → lv_has ls 7 [(0, .ref x0), (1, .int x1), (2, .int x2)] → k97 h x0 x1 x2 = some res → W p l e (zc_rm 3 0 0) s m args below meth c H locs 0 0 (MQ below (zc_Q D K b0 (zq none N res)) args s 0 0 (fun q => b0 ≤ q)) (F0 m 97 ls [])) : ∀ (H : Heap) (locs : List Loc) (ls : Array Slot) (h : zh_H) (x0 : Nat) (x1 : Int32) (x2 : Int32) (x3 : Int32) (x4 : Int32), zh_G D K b0 N h s.heap H locs → lv_has ls 7 [(0, .ref x0), (1, .int x1), (2, .int x2), (3, .int x3), (4, .int x4)] → b_X11_bracket_193 k97 h x0 x1 x2 x3 x4 = some res → W p l e (zc_rm 3 0 0) s m args below meth c H locs 0 0 (MQ below (zc_Q D K b0 (zq none N res)) args s 0 0 (fun q => b0 ≤ q)) (F0 m 193 ls []) := by
  have hx := hB.1
  have hb := hB.2.1
  intro H locs ls h x0 x1 x2 x3 x4 hG hl hf
  unfold b_X11_bracket_193 at hf
  refine lv_aload_n hx hb dX11_bracket_193 rfl (lv_at hl 0 rfl) ?_
  obtain ⟨v1, ev1, hf⟩ := zb hf
  refine zr_getI hB hG zF_11 (by decide) kf_X11_113 ev1 dX11_bracket_194 ?_
  refine lv_if_ne (tgt := 252) hx hb dX11_bracket_197 (by decide) (fun hc15 => ?_) (fun hc15 => ?_)
  · rw [if_neg hc15] at hf
    exact w_X11_bracket_252 hB hk97 _ _ _ h (x0) (x1) (x2) hG (lv_sub hl [0, 1, 2] rfl) hf
  · rw [if_pos hc15] at hf
    refine lv_aload_n hx hb dX11_bracket_200 rfl (lv_at hl 0 rfl) ?_
    refine lv_iload_n hx hb dX11_bracket_201 rfl (lv_at hl 3 rfl) ?_
    refine lv_iload hx hb dX11_bracket_202 (lv_at hl 4 rfl) ?_
    obtain ⟨o2, eo2, hf⟩ := zb hf
    obtain ⟨h3, eh3, hf⟩ := zb hf
    refine zr_callVv (As := [.int x3, .int x4]) kc_X11_141 hB hG (c_X11_putAll eh3) eo2 rfl hl.1 rfl ⟨by decide, by decide⟩ (Nat.le_of_ble_eq_true rfl) ⟨by decide, by decide⟩ dX11_bracket_204 (fun H locs hG => ?_)
    refine lv_aload_n hx hb dX11_bracket_207 rfl (lv_at hl 0 rfl) ?_
    obtain ⟨v4, ev4, hf⟩ := zb hf
    refine zr_getI hB hG zF_11 (by decide) kf_X11_130 ev4 dX11_bracket_208 ?_
    refine lv_aload_n hx hb dX11_bracket_211 rfl (lv_at hl 0 rfl) ?_
    obtain ⟨v5, ev5, hf⟩ := zb hf
    refine zr_getI hB hG zF_11 (by decide) kf_X11_110 ev5 dX11_bracket_212 ?_
    refine lv_icmp_lt (tgt := 232) hx hb dX11_bracket_215 (by decide) (fun hc14 => ?_) (fun hc14 => ?_)
    · rw [if_pos hc14] at hf
      refine lv_aload_n hx hb dX11_bracket_232 rfl (lv_at hl 0 rfl) ?_
      obtain ⟨a6, ea6, hf⟩ := zb hf
      refine zr_getR hB hG zF_11 (by decide) kf_X11_7 ea6 dX11_bracket_233 ?_
      refine lv_aload_n hx hb dX11_bracket_236 rfl (lv_at hl 0 rfl) ?_
      obtain ⟨v7, ev7, hf⟩ := zb hf
      refine zr_getI hB hG zF_11 (by decide) kf_X11_130 ev7 dX11_bracket_237 ?_
      obtain ⟨v8, ev8, hf⟩ := zb hf
      refine zr_iald hB hG ev8 dX11_bracket_240 ?_
      refine lv_bipush (v := 93) hx hb dX11_bracket_241 (by decide) ?_
      refine lv_icmp_eq (tgt := 250) hx hb dX11_bracket_243 (by decide) (fun hc9 => ?_) (fun hc9 => ?_)
      · rw [if_pos hc9] at hf
        refine lv_iconst (v := 0) hx hb dX11_bracket_250 (by decide) ?_
        exact w_X11_bracket_251 hB hk97 _ _ _ h3 (x0) (x1) ((0 : Int32)) hG (lv_sub hl [0, 1] rfl) hf
      · rw [if_neg hc9] at hf
        refine lv_iconst (v := 1) hx hb dX11_bracket_246 (by decide) ?_
        refine lv_goto (tgt := 251) hx hb dX11_bracket_247 (by decide) ?_
        exact w_X11_bracket_251 hB hk97 _ _ _ h3 (x0) (x1) ((1 : Int32)) hG (lv_sub hl [0, 1] rfl) hf
    · rw [if_neg hc14] at hf
      refine lv_aload_n hx hb dX11_bracket_218 rfl (lv_at hl 0 rfl) ?_
      refine lv_iconst (v := 3) hx hb dX11_bracket_219 (by decide) ?_
      refine lv_aload_n hx hb dX11_bracket_220 rfl (lv_at hl 0 rfl) ?_
      obtain ⟨v10, ev10, hf⟩ := zb hf
      refine zr_getI hB hG zF_11 (by decide) kf_X11_110 ev10 dX11_bracket_221 ?_
      obtain ⟨o11, eo11, hf⟩ := zb hf
      obtain ⟨v13, h12, eh12, hf⟩ := zbp_s hf
      refine zr_callV (As := [.int (3 : Int32), .int v10]) kc_X11_133 hB hG (c_X11_blame eh12) eo11 rfl hl.1 rfl ⟨by decide, by decide⟩ (Nat.le_of_ble_eq_true rfl) ⟨by decide, by decide⟩ dX11_bracket_224 (fun H locs hG => ?_)
      refine lv_istore (lv' := [(5, .int v13), (0, .ref x0), (1, .int x1), (2, .int x2), (3, .int x3), (4, .int x4)]) hx hb dX11_bracket_227 hl (by decide) rfl (fun ls hl => ?_)
      refine lv_goto (tgt := 252) hx hb dX11_bracket_229 (by decide) ?_
      exact w_X11_bracket_252 hB hk97 _ _ _ h12 (x0) (x1) (x2) hG (lv_sub hl [1, 2, 3] rfl) hf

set_option maxRecDepth 100000 in
set_option maxHeartbeats 4000000 in
theorem w_X11_bracket_177 {res : zh_H} (hB : zc_B p s m args meth c cX11_bracket 7 RX11 none D K) {k97 : zh_H → Nat → Int32 → Int32 → Option zh_H} (hk97 : ∀ (H : Heap) (locs : List Loc) (ls : Array Slot) (h : zh_H) (x0 : Nat) (x1 : Int32) (x2 : Int32), zh_G D K b0 N h s.heap H locs → lv_has ls 7 [(0, .ref x0), (1, .int x1), (2, .int x2)] → k97 h x0 x1 x2 = some res → W p l e (zc_rm 3 0 0) s m args below meth c H locs 0 0 (MQ below (zc_Q D K b0 (zq none N res)) args s 0 0 (fun q => b0 ≤ q)) (F0 m 97 ls [])) : ∀ (H : Heap) (locs : List Loc) (ls : Array Slot) (h : zh_H) (x0 : Nat) (x1 : Int32) (x2 : Int32) (x3 : Int32), zh_G D K b0 N h s.heap H locs → lv_has ls 7 [(0, .ref x0), (1, .int x1), (2, .int x2), (3, .int x3)] → b_X11_bracket_177 k97 h x0 x1 x2 x3 = some res → W p l e (zc_rm 3 0 0) s m args below meth c H locs 0 0 (MQ below (zc_Q D K b0 (zq none N res)) args s 0 0 (fun q => b0 ≤ q)) (F0 m 177 ls []) := by
  have hx := hB.1
  have hb := hB.2.1
  intro H locs ls h x0 x1 x2 x3 hG hl hf
  unfold b_X11_bracket_177 at hf
  refine lv_aload_n hx hb dX11_bracket_177 rfl (lv_at hl 0 rfl) ?_
  refine lv_dup hx hb dX11_bracket_178 rfl ?_
  obtain ⟨v1, ev1, hf⟩ := zb hf
  refine zr_getI hB hG zF_11 (by decide) kf_X11_130 ev1 dX11_bracket_179 ?_
  refine lv_iconst (v := 1) hx hb dX11_bracket_182 (by decide) ?_
  refine lv_iadd hx hb dX11_bracket_183 ?_
  obtain ⟨h2, eh2, hf⟩ := zb hf
  refine zr_put hB hG zF_11 (by decide) kf_X11_130 rfl rfl rfl eh2 dX11_bracket_184 (fun H locs hG => ?_)
  refine lv_aload_n hx hb dX11_bracket_187 rfl (lv_at hl 0 rfl) ?_
  obtain ⟨o3, eo3, hf⟩ := zb hf
  obtain ⟨v5, h4, eh4, hf⟩ := zbp_s hf
  refine zr_callV (As := []) kc_X11_137 hB hG (c_X11_itemByte eh4) eo3 rfl hl.1 rfl ⟨by decide, by decide⟩ (Nat.le_of_ble_eq_true rfl) ⟨by decide, by decide⟩ dX11_bracket_188 (fun H locs hG => ?_)
  refine lv_istore (lv' := [(4, .int v5), (0, .ref x0), (1, .int x1), (2, .int x2), (3, .int x3)]) hx hb dX11_bracket_191 hl (by decide) rfl (fun ls hl => ?_)
  exact w_X11_bracket_193 hB hk97 _ _ _ h4 (x0) (x1) (x2) (x3) (v5) hG (lv_sub hl [1, 2, 3, 4, 0] rfl) hf

set_option maxRecDepth 100000 in
set_option maxHeartbeats 4000000 in
theorem w_X11_bracket_326 {res : zh_H} (hB : zc_B p s m args meth c cX11_bracket 7 RX11 none D K) : ∀ (H : Heap) (locs : List Loc) (ls : Array Slot) (h : zh_H), zh_G D K b0 N h s.heap H locs → lv_has ls 7 [] → b_X11_bracket_326 h  = some res → W p l e (zc_rm 3 0 0) s m args below meth c H locs 0 0 (MQ below (zc_Q D K b0 (zq none N res)) args s 0 0 (fun q => b0 ≤ q)) (F0 m 326 ls []) := by
  have hx := hB.1
  have hb := hB.2.1
  intro H locs ls h  hG hl hf
  unfold b_X11_bracket_326 at hf
  obtain rfl := Option.some.inj hf
  exact zr_vret hB hG ⟨rfl, rfl, rfl⟩ dX11_bracket_326

set_option maxRecDepth 100000 in
set_option maxHeartbeats 4000000 in
theorem w_X11_bracket_255 {res : zh_H} (hB : zc_B p s m args meth c cX11_bracket 7 RX11 none D K) : ∀ (H : Heap) (locs : List Loc) (ls : Array Slot) (h : zh_H) (x0 : Nat) (x1 : Int32), zh_G D K b0 N h s.heap H locs → lv_has ls 7 [(0, .ref x0), (1, .int x1)] → b_X11_bracket_255 h x0 x1 = some res → W p l e (zc_rm 3 0 0) s m args below meth c H locs 0 0 (MQ below (zc_Q D K b0 (zq none N res)) args s 0 0 (fun q => b0 ≤ q)) (F0 m 255 ls []) := by
  have hx := hB.1
  have hb := hB.2.1
  intro H locs ls h x0 x1 hG hl hf
  unfold b_X11_bracket_255 at hf
  refine lv_aload_n hx hb dX11_bracket_255 rfl (lv_at hl 0 rfl) ?_
  refine lv_dup hx hb dX11_bracket_256 rfl ?_
  obtain ⟨v1, ev1, hf⟩ := zb hf
  refine zr_getI hB hG zF_11 (by decide) kf_X11_130 ev1 dX11_bracket_257 ?_
  refine lv_iconst (v := 1) hx hb dX11_bracket_260 (by decide) ?_
  refine lv_iadd hx hb dX11_bracket_261 ?_
  obtain ⟨h2, eh2, hf⟩ := zb hf
  refine zr_put hB hG zF_11 (by decide) kf_X11_130 rfl rfl rfl eh2 dX11_bracket_262 (fun H locs hG => ?_)
  refine lv_iload_n hx hb dX11_bracket_265 rfl (lv_at hl 1 rfl) ?_
  refine lv_if_eq (tgt := 326) hx hb dX11_bracket_266 (by decide) (fun hc13 => ?_) (fun hc13 => ?_)
  · rw [if_pos hc13] at hf
    exact w_X11_bracket_326 hB _ _ _ h2  hG (lv_sub hl [] rfl) hf
  · rw [if_neg hc13] at hf
    refine lv_aload_n hx hb dX11_bracket_269 rfl (lv_at hl 0 rfl) ?_
    obtain ⟨u3, eu3, hf⟩ := zb hf
    refine zr_getL hB hG zF_11 (by decide) kf_X11_119 eu3 dX11_bracket_270 ?_
    refine lv_lstore_n (lv' := [(3, .long u3), (0, .ref x0), (1, .int x1)]) hx hb dX11_bracket_273 rfl hl (by decide) rfl (fun ls hl => ?_)
    refine lv_aload_n hx hb dX11_bracket_274 rfl (lv_at hl 1 rfl) ?_
    obtain ⟨u4, eu4, hf⟩ := zb hf
    refine zr_getL hB hG zF_11 (by decide) kf_X11_123 eu4 dX11_bracket_275 ?_
    refine lv_lstore (lv' := [(5, .long u4), (3, .long u3), (0, .ref x0), (1, .int x1)]) hx hb dX11_bracket_278 hl (by decide) rfl (fun ls hl => ?_)
    refine lv_aload_n hx hb dX11_bracket_280 rfl (lv_at hl 2 rfl) ?_
    refine lv_lconst (v := 0) hx hb dX11_bracket_281 (by decide) ?_
    obtain ⟨h5, eh5, hf⟩ := zb hf
    refine zr_put hB hG zF_11 (by decide) kf_X11_119 rfl rfl rfl eh5 dX11_bracket_282 (fun H locs hG => ?_)
    refine lv_aload_n hx hb dX11_bracket_285 rfl (lv_at hl 2 rfl) ?_
    refine lv_lconst (v := 0) hx hb dX11_bracket_286 (by decide) ?_
    obtain ⟨h6, eh6, hf⟩ := zb hf
    refine zr_put hB hG zF_11 (by decide) kf_X11_123 rfl rfl rfl eh6 dX11_bracket_287 (fun H locs hG => ?_)
    refine lv_aload_n hx hb dX11_bracket_290 rfl (lv_at hl 2 rfl) ?_
    refine lv_iconst (v := 0) hx hb dX11_bracket_291 (by decide) ?_
    refine lv_bipush (v := 126) hx hb dX11_bracket_292 (by decide) ?_
    obtain ⟨o7, eo7, hf⟩ := zb hf
    obtain ⟨h8, eh8, hf⟩ := zb hf
    refine zr_callVv (As := [.int (0 : Int32), .int (126 : Int32)]) kc_X11_141 hB hG (c_X11_putAll eh8) eo7 rfl hl.1 rfl ⟨by decide, by decide⟩ (Nat.le_of_ble_eq_true rfl) ⟨by decide, by decide⟩ dX11_bracket_294 (fun H locs hG => ?_)
    refine lv_aload_n hx hb dX11_bracket_297 rfl (lv_at hl 2 rfl) ?_
    refine lv_dup hx hb dX11_bracket_298 rfl ?_
    obtain ⟨u9, eu9, hf⟩ := zb hf
    refine zr_getL hB hG zF_11 (by decide) kf_X11_119 eu9 dX11_bracket_299 ?_
    refine lv_lload_n hx hb dX11_bracket_302 rfl (lv_at hl 1 rfl) ?_
    refine lv_ldc2 (v := -1) hx hb hB.2.2.2.1 (hB.2.2.2.2.1 _ (zin kk_X11_145 rfl)) dX11_bracket_303 ?_
    refine lv_lxor hx hb dX11_bracket_306 ?_
    refine lv_land hx hb dX11_bracket_307 ?_
    obtain ⟨h10, eh10, hf⟩ := zb hf
    refine zr_put hB hG zF_11 (by decide) kf_X11_119 rfl rfl rfl eh10 dX11_bracket_308 (fun H locs hG => ?_)
    refine lv_aload_n hx hb dX11_bracket_311 rfl (lv_at hl 2 rfl) ?_
    refine lv_dup hx hb dX11_bracket_312 rfl ?_
    obtain ⟨u11, eu11, hf⟩ := zb hf
    refine zr_getL hB hG zF_11 (by decide) kf_X11_123 eu11 dX11_bracket_313 ?_
    refine lv_lload hx hb dX11_bracket_316 (lv_at hl 0 rfl) ?_
    refine lv_ldc2 (v := -1) hx hb hB.2.2.2.1 (hB.2.2.2.2.1 _ (zin kk_X11_145 rfl)) dX11_bracket_318 ?_
    refine lv_lxor hx hb dX11_bracket_321 ?_
    refine lv_land hx hb dX11_bracket_322 ?_
    obtain ⟨h12, eh12, hf⟩ := zb hf
    refine zr_put hB hG zF_11 (by decide) kf_X11_123 rfl rfl rfl eh12 dX11_bracket_323 (fun H locs hG => ?_)
    exact w_X11_bracket_326 hB _ _ _ h12  hG (lv_sub hl [] rfl) hf

set_option maxRecDepth 100000 in
set_option maxHeartbeats 4000000 in
theorem w_X11_bracket_97 {res : zh_H} (hB : zc_B p s m args meth c cX11_bracket 7 RX11 none D K) : ∀ n : Nat, ∀ (H : Heap) (locs : List Loc) (ls : Array Slot) (h : zh_H) (x0 : Nat) (x1 : Int32) (x2 : Int32), zh_G D K b0 N h s.heap H locs → lv_has ls 7 [(0, .ref x0), (1, .int x1), (2, .int x2)] → b_X11_bracket_97 n h x0 x1 x2 = some res → W p l e (zc_rm 3 0 0) s m args below meth c H locs 0 0 (MQ below (zc_Q D K b0 (zq none N res)) args s 0 0 (fun q => b0 ≤ q)) (F0 m 97 ls []) := by
  have hx := hB.1
  have hb := hB.2.1
  intro n
  induction n with
  | zero =>
    intro H locs ls h x0 x1 x2 hG hl hf
    cases hf
  | succ n ih =>
    intro H locs ls h x0 x1 x2 hG hl hf
    unfold b_X11_bracket_97 at hf
    refine lv_iload_n hx hb dX11_bracket_97 rfl (lv_at hl 2 rfl) ?_
    refine lv_if_eq (tgt := 255) hx hb dX11_bracket_98 (by decide) (fun hc22 => ?_) (fun hc22 => ?_)
    · rw [if_pos hc22] at hf
      exact w_X11_bracket_255 hB _ _ _ h (x0) (x1) hG (lv_sub hl [0, 1] rfl) hf
    · rw [if_neg hc22] at hf
      refine lv_aload_n hx hb dX11_bracket_101 rfl (lv_at hl 0 rfl) ?_
      obtain ⟨v1, ev1, hf⟩ := zb hf
      refine zr_getI hB hG zF_11 (by decide) kf_X11_113 ev1 dX11_bracket_102 ?_
      refine lv_if_ne (tgt := 255) hx hb dX11_bracket_105 (by decide) (fun hc21 => ?_) (fun hc21 => ?_)
      · rw [if_neg hc21] at hf
        exact w_X11_bracket_255 hB _ _ _ h (x0) (x1) hG (lv_sub hl [0, 1] rfl) hf
      · rw [if_pos hc21] at hf
        refine lv_aload_n hx hb dX11_bracket_108 rfl (lv_at hl 0 rfl) ?_
        obtain ⟨o2, eo2, hf⟩ := zb hf
        obtain ⟨v4, h3, eh3, hf⟩ := zbp_s hf
        refine zr_callV (As := []) kc_X11_137 hB hG (c_X11_itemByte eh3) eo2 rfl hl.1 rfl ⟨by decide, by decide⟩ (Nat.le_of_ble_eq_true rfl) ⟨by decide, by decide⟩ dX11_bracket_109 (fun H locs hG => ?_)
        refine lv_istore_n (lv' := [(3, .int v4), (0, .ref x0), (1, .int x1), (2, .int x2)]) hx hb dX11_bracket_112 rfl hl (by decide) rfl (fun ls hl => ?_)
        refine lv_iload_n hx hb dX11_bracket_113 rfl (lv_at hl 0 rfl) ?_
        refine lv_istore (lv' := [(4, .int v4), (3, .int v4), (0, .ref x0), (1, .int x1), (2, .int x2)]) hx hb dX11_bracket_114 hl (by decide) rfl (fun ls hl => ?_)
        refine lv_aload_n hx hb dX11_bracket_116 rfl (lv_at hl 2 rfl) ?_
        obtain ⟨v5, ev5, hf⟩ := zb hf
        refine zr_getI hB hG zF_11 (by decide) kf_X11_113 ev5 dX11_bracket_117 ?_
        refine lv_if_ne (tgt := 193) hx hb dX11_bracket_120 (by decide) (fun hc20 => ?_) (fun hc20 => ?_)
        · rw [if_neg hc20] at hf
          exact w_X11_bracket_193 hB ih _ _ _ h3 (x0) (x1) (x2) (v4) (v4) hG (lv_sub hl [2, 3, 4, 1, 0] rfl) hf
        · rw [if_pos hc20] at hf
          refine lv_aload_n hx hb dX11_bracket_123 rfl (lv_at hl 2 rfl) ?_
          obtain ⟨v6, ev6, hf⟩ := zb hf
          refine zr_getI hB hG zF_11 (by decide) kf_X11_130 ev6 dX11_bracket_124 ?_
          refine lv_aload_n hx hb dX11_bracket_127 rfl (lv_at hl 2 rfl) ?_
          obtain ⟨v7, ev7, hf⟩ := zb hf
          refine zr_getI hB hG zF_11 (by decide) kf_X11_110 ev7 dX11_bracket_128 ?_
          refine lv_icmp_ge (tgt := 193) hx hb dX11_bracket_131 (by decide) (fun hc19 => ?_) (fun hc19 => ?_)
          · rw [if_pos hc19] at hf
            exact w_X11_bracket_193 hB ih _ _ _ h3 (x0) (x1) (x2) (v4) (v4) hG (lv_sub hl [2, 3, 4, 1, 0] rfl) hf
          · rw [if_neg hc19] at hf
            refine lv_aload_n hx hb dX11_bracket_134 rfl (lv_at hl 2 rfl) ?_
            obtain ⟨a8, ea8, hf⟩ := zb hf
            refine zr_getR hB hG zF_11 (by decide) kf_X11_7 ea8 dX11_bracket_135 ?_
            refine lv_aload_n hx hb dX11_bracket_138 rfl (lv_at hl 2 rfl) ?_
            obtain ⟨v9, ev9, hf⟩ := zb hf
            refine zr_getI hB hG zF_11 (by decide) kf_X11_130 ev9 dX11_bracket_139 ?_
            obtain ⟨v10, ev10, hf⟩ := zb hf
            refine zr_iald hB hG ev10 dX11_bracket_142 ?_
            refine lv_bipush (v := 45) hx hb dX11_bracket_143 (by decide) ?_
            refine lv_icmp_ne (tgt := 193) hx hb dX11_bracket_145 (by decide) (fun hc18 => ?_) (fun hc18 => ?_)
            · rw [if_neg hc18] at hf
              exact w_X11_bracket_193 hB ih _ _ _ h3 (x0) (x1) (x2) (v4) (v4) hG (lv_sub hl [2, 3, 4, 1, 0] rfl) hf
            · rw [if_pos hc18] at hf
              refine lv_aload_n hx hb dX11_bracket_148 rfl (lv_at hl 2 rfl) ?_
              obtain ⟨v11, ev11, hf⟩ := zb hf
              refine zr_getI hB hG zF_11 (by decide) kf_X11_130 ev11 dX11_bracket_149 ?_
              refine lv_iconst (v := 1) hx hb dX11_bracket_152 (by decide) ?_
              refine lv_iadd hx hb dX11_bracket_153 ?_
              refine lv_aload_n hx hb dX11_bracket_154 rfl (lv_at hl 2 rfl) ?_
              obtain ⟨v12, ev12, hf⟩ := zb hf
              refine zr_getI hB hG zF_11 (by decide) kf_X11_110 ev12 dX11_bracket_155 ?_
              refine lv_icmp_ge (tgt := 177) hx hb dX11_bracket_158 (by decide) (fun hc17 => ?_) (fun hc17 => ?_)
              · rw [if_pos hc17] at hf
                exact w_X11_bracket_177 hB ih _ _ _ h3 (x0) (x1) (x2) (v4) hG (lv_sub hl [2, 3, 4, 1] rfl) hf
              · rw [if_neg hc17] at hf
                refine lv_aload_n hx hb dX11_bracket_161 rfl (lv_at hl 2 rfl) ?_
                obtain ⟨a13, ea13, hf⟩ := zb hf
                refine zr_getR hB hG zF_11 (by decide) kf_X11_7 ea13 dX11_bracket_162 ?_
                refine lv_aload_n hx hb dX11_bracket_165 rfl (lv_at hl 2 rfl) ?_
                obtain ⟨v14, ev14, hf⟩ := zb hf
                refine zr_getI hB hG zF_11 (by decide) kf_X11_130 ev14 dX11_bracket_166 ?_
                refine lv_iconst (v := 1) hx hb dX11_bracket_169 (by decide) ?_
                refine lv_iadd hx hb dX11_bracket_170 ?_
                obtain ⟨v15, ev15, hf⟩ := zb hf
                refine zr_iald hB hG ev15 dX11_bracket_171 ?_
                refine lv_bipush (v := 93) hx hb dX11_bracket_172 (by decide) ?_
                refine lv_icmp_eq (tgt := 193) hx hb dX11_bracket_174 (by decide) (fun hc16 => ?_) (fun hc16 => ?_)
                · rw [if_pos hc16] at hf
                  exact w_X11_bracket_193 hB ih _ _ _ h3 (x0) (x1) (x2) (v4) (v4) hG (lv_sub hl [2, 3, 4, 1, 0] rfl) hf
                · rw [if_neg hc16] at hf
                  exact w_X11_bracket_177 hB ih _ _ _ h3 (x0) (x1) (x2) (v4) hG (lv_sub hl [2, 3, 4, 1] rfl) hf

set_option maxRecDepth 100000 in
set_option maxHeartbeats 4000000 in
theorem w_X11_bracket_95 {res : zh_H} (hB : zc_B p s m args meth c cX11_bracket 7 RX11 none D K) : ∀ (H : Heap) (locs : List Loc) (ls : Array Slot) (h : zh_H) (x0 : Nat) (x1 : Int32), zh_G D K b0 N h s.heap H locs → lv_has ls 7 [(0, .ref x0), (1, .int x1)] → b_X11_bracket_95 h x0 x1 = some res → W p l e (zc_rm 3 0 0) s m args below meth c H locs 0 0 (MQ below (zc_Q D K b0 (zq none N res)) args s 0 0 (fun q => b0 ≤ q)) (F0 m 95 ls []) := by
  have hx := hB.1
  have hb := hB.2.1
  intro H locs ls h x0 x1 hG hl hf
  unfold b_X11_bracket_95 at hf
  refine lv_iconst (v := 1) hx hb dX11_bracket_95 (by decide) ?_
  refine lv_istore_n (lv' := [(2, .int (1 : Int32)), (0, .ref x0), (1, .int x1)]) hx hb dX11_bracket_96 rfl hl (by decide) rfl (fun ls hl => ?_)
  exact w_X11_bracket_97 hB zFuel _ _ _ h (x0) (x1) ((1 : Int32)) hG (lv_sub hl [1, 2, 0] rfl) hf

set_option maxRecDepth 100000 in
set_option maxHeartbeats 4000000 in
theorem w_X11_bracket_55 {res : zh_H} (hB : zc_B p s m args meth c cX11_bracket 7 RX11 none D K) : ∀ (H : Heap) (locs : List Loc) (ls : Array Slot) (h : zh_H) (x0 : Nat) (x1 : Int32) (y0 : Int32) (y1 : Int32) (y2 : Nat), zh_G D K b0 N h s.heap H locs → lv_has ls 7 [(0, .ref x0), (1, .int x1)] → b_X11_bracket_55 h x0 x1 y0 y1 y2 = some res → W p l e (zc_rm 3 0 0) s m args below meth c H locs 0 0 (MQ below (zc_Q D K b0 (zq none N res)) args s 0 0 (fun q => b0 ≤ q)) (F0 m 55 ls [.int y0, .int y1, .ref y2]) := by
  have hx := hB.1
  have hb := hB.2.1
  intro H locs ls h x0 x1 y0 y1 y2 hG hl hf
  unfold b_X11_bracket_55 at hf
  refine lv_iadd hx hb dX11_bracket_55 ?_
  obtain ⟨h1, eh1, hf⟩ := zb hf
  refine zr_put hB hG zF_11 (by decide) kf_X11_130 rfl rfl rfl eh1 dX11_bracket_56 (fun H locs hG => ?_)
  refine lv_aload_n hx hb dX11_bracket_59 rfl (lv_at hl 0 rfl) ?_
  obtain ⟨v2, ev2, hf⟩ := zb hf
  refine zr_getI hB hG zF_11 (by decide) kf_X11_130 ev2 dX11_bracket_60 ?_
  refine lv_aload_n hx hb dX11_bracket_63 rfl (lv_at hl 0 rfl) ?_
  obtain ⟨v3, ev3, hf⟩ := zb hf
  refine zr_getI hB hG zF_11 (by decide) kf_X11_110 ev3 dX11_bracket_64 ?_
  refine lv_icmp_ge (tgt := 95) hx hb dX11_bracket_67 (by decide) (fun hc12 => ?_) (fun hc12 => ?_)
  · rw [if_pos hc12] at hf
    exact w_X11_bracket_95 hB _ _ _ h1 (x0) (x1) hG (lv_sub hl [0, 1] rfl) hf
  · rw [if_neg hc12] at hf
    refine lv_aload_n hx hb dX11_bracket_70 rfl (lv_at hl 0 rfl) ?_
    obtain ⟨a4, ea4, hf⟩ := zb hf
    refine zr_getR hB hG zF_11 (by decide) kf_X11_7 ea4 dX11_bracket_71 ?_
    refine lv_aload_n hx hb dX11_bracket_74 rfl (lv_at hl 0 rfl) ?_
    obtain ⟨v5, ev5, hf⟩ := zb hf
    refine zr_getI hB hG zF_11 (by decide) kf_X11_130 ev5 dX11_bracket_75 ?_
    obtain ⟨v6, ev6, hf⟩ := zb hf
    refine zr_iald hB hG ev6 dX11_bracket_78 ?_
    refine lv_bipush (v := 93) hx hb dX11_bracket_79 (by decide) ?_
    refine lv_icmp_ne (tgt := 95) hx hb dX11_bracket_81 (by decide) (fun hc11 => ?_) (fun hc11 => ?_)
    · rw [if_neg hc11] at hf
      exact w_X11_bracket_95 hB _ _ _ h1 (x0) (x1) hG (lv_sub hl [0, 1] rfl) hf
    · rw [if_pos hc11] at hf
      refine lv_aload_n hx hb dX11_bracket_84 rfl (lv_at hl 0 rfl) ?_
      refine lv_iconst (v := 2) hx hb dX11_bracket_85 (by decide) ?_
      refine lv_aload_n hx hb dX11_bracket_86 rfl (lv_at hl 0 rfl) ?_
      obtain ⟨v7, ev7, hf⟩ := zb hf
      refine zr_getI hB hG zF_11 (by decide) kf_X11_130 ev7 dX11_bracket_87 ?_
      obtain ⟨o8, eo8, hf⟩ := zb hf
      obtain ⟨v10, h9, eh9, hf⟩ := zbp_s hf
      refine zr_callV (As := [.int (2 : Int32), .int v7]) kc_X11_133 hB hG (c_X11_blame eh9) eo8 rfl hl.1 rfl ⟨by decide, by decide⟩ (Nat.le_of_ble_eq_true rfl) ⟨by decide, by decide⟩ dX11_bracket_90 (fun H locs hG => ?_)
      refine lv_istore_n (lv' := [(2, .int v10), (0, .ref x0), (1, .int x1)]) hx hb dX11_bracket_93 rfl hl (by decide) rfl (fun ls hl => ?_)
      obtain rfl := Option.some.inj hf
      exact zr_vret hB hG ⟨rfl, rfl, rfl⟩ dX11_bracket_94

set_option maxRecDepth 100000 in
set_option maxHeartbeats 4000000 in
theorem w_X11_bracket_40 {res : zh_H} (hB : zc_B p s m args meth c cX11_bracket 7 RX11 none D K) : ∀ (H : Heap) (locs : List Loc) (ls : Array Slot) (h : zh_H) (x0 : Nat) (y0 : Int32), zh_G D K b0 N h s.heap H locs → lv_has ls 7 [(0, .ref x0)] → b_X11_bracket_40 h x0 y0 = some res → W p l e (zc_rm 3 0 0) s m args below meth c H locs 0 0 (MQ below (zc_Q D K b0 (zq none N res)) args s 0 0 (fun q => b0 ≤ q)) (F0 m 40 ls [.int y0]) := by
  have hx := hB.1
  have hb := hB.2.1
  intro H locs ls h x0 y0 hG hl hf
  unfold b_X11_bracket_40 at hf
  refine lv_istore_n (lv' := [(1, .int y0), (0, .ref x0)]) hx hb dX11_bracket_40 rfl hl (by decide) rfl (fun ls hl => ?_)
  refine lv_aload_n hx hb dX11_bracket_41 rfl (lv_at hl 1 rfl) ?_
  refine lv_dup hx hb dX11_bracket_42 rfl ?_
  obtain ⟨v1, ev1, hf⟩ := zb hf
  refine zr_getI hB hG zF_11 (by decide) kf_X11_130 ev1 dX11_bracket_43 ?_
  refine lv_iload_n hx hb dX11_bracket_46 rfl (lv_at hl 0 rfl) ?_
  refine lv_if_eq (tgt := 54) hx hb dX11_bracket_47 (by decide) (fun hc2 => ?_) (fun hc2 => ?_)
  · rw [if_pos hc2] at hf
    refine lv_iconst (v := 0) hx hb dX11_bracket_54 (by decide) ?_
    exact w_X11_bracket_55 hB _ _ _ h (x0) (y0) ((0 : Int32)) (v1) (x0) hG (lv_sub hl [1, 0] rfl) hf
  · rw [if_neg hc2] at hf
    refine lv_iconst (v := 1) hx hb dX11_bracket_50 (by decide) ?_
    refine lv_goto (tgt := 55) hx hb dX11_bracket_51 (by decide) ?_
    exact w_X11_bracket_55 hB _ _ _ h (x0) (y0) ((1 : Int32)) (v1) (x0) hG (lv_sub hl [1, 0] rfl) hf

set_option maxRecDepth 100000 in
set_option maxHeartbeats 4000000 in
theorem w_X11_bracket_39 {res : zh_H} (hB : zc_B p s m args meth c cX11_bracket 7 RX11 none D K) : ∀ (H : Heap) (locs : List Loc) (ls : Array Slot) (h : zh_H) (x0 : Nat), zh_G D K b0 N h s.heap H locs → lv_has ls 7 [(0, .ref x0)] → b_X11_bracket_39 h x0 = some res → W p l e (zc_rm 3 0 0) s m args below meth c H locs 0 0 (MQ below (zc_Q D K b0 (zq none N res)) args s 0 0 (fun q => b0 ≤ q)) (F0 m 39 ls []) := by
  have hx := hB.1
  have hb := hB.2.1
  intro H locs ls h x0 hG hl hf
  unfold b_X11_bracket_39 at hf
  refine lv_iconst (v := 0) hx hb dX11_bracket_39 (by decide) ?_
  exact w_X11_bracket_40 hB _ _ _ h (x0) ((0 : Int32)) hG (lv_sub hl [0] rfl) hf

set_option maxRecDepth 100000 in
set_option maxHeartbeats 4000000 in
theorem w_X11_bracket_0 {res : zh_H} (hB : zc_B p s m args meth c cX11_bracket 7 RX11 none D K) : ∀ (H : Heap) (locs : List Loc) (ls : Array Slot) (h : zh_H) (x0 : Nat), zh_G D K b0 N h s.heap H locs → lv_has ls 7 [(0, .ref x0)] → b_X11_bracket_0 h x0 = some res → W p l e (zc_rm 3 0 0) s m args below meth c H locs 0 0 (MQ below (zc_Q D K b0 (zq none N res)) args s 0 0 (fun q => b0 ≤ q)) (F0 m 0 ls []) := by
  have hx := hB.1
  have hb := hB.2.1
  intro H locs ls h x0 hG hl hf
  unfold b_X11_bracket_0 at hf
  refine lv_aload_n hx hb dX11_bracket_0 rfl (lv_at hl 0 rfl) ?_
  refine lv_dup hx hb dX11_bracket_1 rfl ?_
  obtain ⟨v1, ev1, hf⟩ := zb hf
  refine zr_getI hB hG zF_11 (by decide) kf_X11_130 ev1 dX11_bracket_2 ?_
  refine lv_iconst (v := 1) hx hb dX11_bracket_5 (by decide) ?_
  refine lv_iadd hx hb dX11_bracket_6 ?_
  obtain ⟨h2, eh2, hf⟩ := zb hf
  refine zr_put hB hG zF_11 (by decide) kf_X11_130 rfl rfl rfl eh2 dX11_bracket_7 (fun H locs hG => ?_)
  refine lv_aload_n hx hb dX11_bracket_10 rfl (lv_at hl 0 rfl) ?_
  obtain ⟨v3, ev3, hf⟩ := zb hf
  refine zr_getI hB hG zF_11 (by decide) kf_X11_130 ev3 dX11_bracket_11 ?_
  refine lv_aload_n hx hb dX11_bracket_14 rfl (lv_at hl 0 rfl) ?_
  obtain ⟨v4, ev4, hf⟩ := zb hf
  refine zr_getI hB hG zF_11 (by decide) kf_X11_110 ev4 dX11_bracket_15 ?_
  refine lv_icmp_ge (tgt := 39) hx hb dX11_bracket_18 (by decide) (fun hc9 => ?_) (fun hc9 => ?_)
  · rw [if_pos hc9] at hf
    exact w_X11_bracket_39 hB _ _ _ h2 (x0) hG (lv_sub hl [0] rfl) hf
  · rw [if_neg hc9] at hf
    refine lv_aload_n hx hb dX11_bracket_21 rfl (lv_at hl 0 rfl) ?_
    obtain ⟨a5, ea5, hf⟩ := zb hf
    refine zr_getR hB hG zF_11 (by decide) kf_X11_7 ea5 dX11_bracket_22 ?_
    refine lv_aload_n hx hb dX11_bracket_25 rfl (lv_at hl 0 rfl) ?_
    obtain ⟨v6, ev6, hf⟩ := zb hf
    refine zr_getI hB hG zF_11 (by decide) kf_X11_130 ev6 dX11_bracket_26 ?_
    obtain ⟨v7, ev7, hf⟩ := zb hf
    refine zr_iald hB hG ev7 dX11_bracket_29 ?_
    refine lv_bipush (v := 94) hx hb dX11_bracket_30 (by decide) ?_
    refine lv_icmp_ne (tgt := 39) hx hb dX11_bracket_32 (by decide) (fun hc8 => ?_) (fun hc8 => ?_)
    · rw [if_neg hc8] at hf
      exact w_X11_bracket_39 hB _ _ _ h2 (x0) hG (lv_sub hl [0] rfl) hf
    · rw [if_pos hc8] at hf
      refine lv_iconst (v := 1) hx hb dX11_bracket_35 (by decide) ?_
      refine lv_goto (tgt := 40) hx hb dX11_bracket_36 (by decide) ?_
      exact w_X11_bracket_40 hB _ _ _ h2 (x0) ((1 : Int32)) hG (lv_sub hl [0] rfl) hf
end G_X11_bracket
theorem c_X11_bracket {l : Launch} {D : va_G} {K : Nat → ClassId} {b0 N : Nat} {h : zh_H} {x0 : Nat} {h2 : zh_H} (hf : b_X11_bracket_0 h x0 = some h2) : zc l yX11_bracket cX11_bracket 7 none 3 0 0 D K b0 N h [.ref x0] (zq none N h2) := by
  refine zc.of [(0, .ref x0)] (by decide) rfl (Nat.le_of_ble_eq_true rfl) ?_
  intro p e s m args below meth c hB hnm hG ls hl
  exact w_X11_bracket_0 (res := h2) hB _ _ ls h x0 hG (lv_sub hl [0] rfl) hf

