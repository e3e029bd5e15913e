section G_X5_fillColumn
variable {p : Program} {l : Launch} {e : Env} {s : State} {m : MethodId} {args : Array Value} {below : List Frame} {meth : Method} {c : Code} {D : va_G} {K : Nat → ClassId} {b0 N : Nat}
set_option maxRecDepth 100000 in
set_option maxHeartbeats 4000000 in
theorem w_X5_fillColumn_96 {res : (Int32 × zh_H)} (hB : zc_B p s m args meth c cX5_fillColumn 6 RX5 (some .int) D K) {k68 : zh_H → Nat → Int32 → Int32 → Int32 → Int32 → Option (Int32 × zh_H)} (hk68 : ∀ (H : Heap) (locs : List Loc) (ls : Array Slot) (h : zh_H) (x0 : Nat) (x1 : Int32) (x3 : Int32) (x4 : Int32) (x5 : Int32), zh_G D K b0 N h s.heap H locs → lv_has ls 6 [(0, .ref x0), (1, .int x1), (3, .int x3), (4, .int x4), (5, .int x5)] → k68 h x0 x1 x3 x4 x5 = some res → W p l e (zc_rm 3 0 0) s m args below meth c H locs 0 0 (MQ below (zc_Q D K b0 (zq (some (.int res.1)) N res.2)) args s 0 0 (fun q => b0 ≤ q)) (F0 m 68 ls [])) : ∀ (H : Heap) (locs : List Loc) (ls : Array Slot) (h : zh_H) (x0 : Nat) (x1 : Int32) (x3 : Int32) (x4 : Int32) (x5 : Int32) (y0 : Int32) (y1 : Int32) (y2 : Nat), zh_G D K b0 N h s.heap H locs → lv_has ls 6 [(0, .ref x0), (1, .int x1), (3, .int x3), (4, .int x4), (5, .int x5)] → b_X5_fillColumn_96 k68 h x0 x1 x3 x4 x5 y0 y1 y2 = some res → W p l e (zc_rm 3 0 0) s m args below meth c H locs 0 0 (MQ below (zc_Q D K b0 (zq (some (.int res.1)) N res.2)) args s 0 0 (fun q => b0 ≤ q)) (F0 m 96 ls [.int y0, .int y1, .ref y2]) := by
  have hx := hB.1
  have hb := hB.2.1
  intro H locs ls h x0 x1 x3 x4 x5 y0 y1 y2 hG hl hf
  unfold b_X5_fillColumn_96 at hf
  obtain ⟨h1, eh1, hf⟩ := zb hf
  refine zr_iast hB hG eh1 dX5_fillColumn_96 (fun H locs hG => ?_)
  refine lv_iload hx hb dX5_fillColumn_97 (lv_at hl 3 rfl) ?_
  refine lv_aload_n hx hb dX5_fillColumn_99 rfl (lv_at hl 0 rfl) ?_
  obtain ⟨a2, ea2, hf⟩ := zb hf
  refine zr_getR hB hG zF_5 (by decide) kf_X5_27 ea2 dX5_fillColumn_100 ?_
  refine lv_iload hx hb dX5_fillColumn_103 (lv_at hl 4 rfl) ?_
  obtain ⟨v3, ev3, hf⟩ := zb hf
  refine zr_iald hB hG ev3 dX5_fillColumn_105 ?_
  refine zr_min km_X5_98 k_min k_Mi k_minc hl.1 hB dX5_fillColumn_106 (by decide) (Nat.le_of_ble_eq_true rfl) ⟨by decide, by decide⟩ ?_
  refine lv_istore (lv' := [(4, .int (zmin x4 v3)), (0, .ref x0), (1, .int x1), (3, .int x3), (5, .int x5)]) hx hb dX5_fillColumn_109 hl (by decide) rfl (fun ls hl => ?_)
  refine lv_iinc (v := (x5 + (1 : Int32))) (lv' := [(5, .int (x5 + (1 : Int32))), (4, .int (zmin x4 v3)), (0, .ref x0), (1, .int x1), (3, .int x3)]) hx hb dX5_fillColumn_111 hl (k := 4) rfl rfl (by decide) rfl (fun ls hl => ?_)
  refine lv_goto (tgt := 68) hx hb dX5_fillColumn_114 (by decide) ?_
  exact hk68 _ _ _ h1 (x0) (x1) (x3) ((zmin x4 v3)) ((x5 + (1 : Int32))) hG (lv_sub hl [2, 3, 4, 1, 0] rfl) hf

set_option maxRecDepth 100000 in
set_option maxHeartbeats 4000000 in
theorem w_X5_fillColumn_68 {res : (Int32 × zh_H)} (hB : zc_B p s m args meth c cX5_fillColumn 6 RX5 (some .int) D K) : ∀ n : Nat, ∀ (H : Heap) (locs : List Loc) (ls : Array Slot) (h : zh_H) (x0 : Nat) (x1 : Int32) (x3 : Int32) (x4 : Int32) (x5 : Int32), zh_G D K b0 N h s.heap H locs → lv_has ls 6 [(0, .ref x0), (1, .int x1), (3, .int x3), (4, .int x4), (5, .int x5)] → b_X5_fillColumn_68 n h x0 x1 x3 x4 x5 = some res → W p l e (zc_rm 3 0 0) s m args below meth c H locs 0 0 (MQ below (zc_Q D K b0 (zq (some (.int res.1)) N res.2)) args s 0 0 (fun q => b0 ≤ q)) (F0 m 68 ls []) := by
  have hx := hB.1
  have hb := hB.2.1
  intro n
  induction n with
  | zero =>
    intro H locs ls h x0 x1 x3 x4 x5 hG hl hf
    cases hf
  | succ n ih =>
    intro H locs ls h x0 x1 x3 x4 x5 hG hl hf
    unfold b_X5_fillColumn_68 at hf
    refine lv_iload hx hb dX5_fillColumn_68 (lv_at hl 4 rfl) ?_
    refine lv_iload_n hx hb dX5_fillColumn_70 rfl (lv_at hl 2 rfl) ?_
    refine lv_icmp_gt (tgt := 117) hx hb dX5_fillColumn_71 (by decide) (fun hc8 => ?_) (fun hc8 => ?_)
    · rw [if_pos hc8] at hf
      refine lv_aload_n hx hb dX5_fillColumn_117 rfl (lv_at hl 0 rfl) ?_
      refine lv_iload_n hx hb dX5_fillColumn_118 rfl (lv_at hl 2 rfl) ?_
      obtain ⟨o1, eo1, hf⟩ := zb hf
      obtain ⟨h2, eh2, hf⟩ := zb hf
      refine zr_callVv (As := [.int x3]) kc_X5_121 hB hG (c_X5_closeAbove eh2) eo1 rfl hl.1 rfl ⟨by decide, by decide⟩ (Nat.le_of_ble_eq_true rfl) ⟨by decide, by decide⟩ dX5_fillColumn_119 (fun H locs hG => ?_)
      refine lv_iload hx hb dX5_fillColumn_122 (lv_at hl 3 rfl) ?_
      obtain rfl := Option.some.inj hf
      exact zr_iret hB hG ⟨rfl, rfl, rfl⟩ dX5_fillColumn_124
    · rw [if_neg hc8] at hf
      refine lv_aload_n hx hb dX5_fillColumn_74 rfl (lv_at hl 0 rfl) ?_
      obtain ⟨a3, ea3, hf⟩ := zb hf
      refine zr_getR hB hG zF_5 (by decide) kf_X5_27 ea3 dX5_fillColumn_75 ?_
      refine lv_iload hx hb dX5_fillColumn_78 (lv_at hl 4 rfl) ?_
      refine lv_iload hx hb dX5_fillColumn_80 (lv_at hl 4 rfl) ?_
      refine lv_if_ne (tgt := 89) hx hb dX5_fillColumn_82 (by decide) (fun hc7 => ?_) (fun hc7 => ?_)
      · rw [if_neg hc7] at hf
        refine lv_aload_n hx hb dX5_fillColumn_89 rfl (lv_at hl 0 rfl) ?_
        refine lv_iload hx hb dX5_fillColumn_90 (lv_at hl 4 rfl) ?_
        refine lv_iload_n hx hb dX5_fillColumn_92 rfl (lv_at hl 1 rfl) ?_
        obtain ⟨o4, eo4, hf⟩ := zb hf
        obtain ⟨v6, h5, eh5, hf⟩ := zbp_s hf
        refine zr_callV (As := [.int x5, .int x1]) kc_X5_131 hB hG (c_X5_best eh5) eo4 rfl hl.1 rfl ⟨by decide, by decide⟩ (Nat.le_of_ble_eq_true rfl) ⟨by decide, by decide⟩ dX5_fillColumn_93 (fun H locs hG => ?_)
        exact w_X5_fillColumn_96 hB ih _ _ _ h5 (x0) (x1) (x3) (x4) (x5) (v6) (x5) (a3) hG (lv_sub hl [0, 1, 2, 3, 4] rfl) hf
      · rw [if_pos hc7] at hf
        refine lv_iload_n hx hb dX5_fillColumn_85 rfl (lv_at hl 1 rfl) ?_
        refine lv_goto (tgt := 96) hx hb dX5_fillColumn_86 (by decide) ?_
        exact w_X5_fillColumn_96 hB ih _ _ _ h (x0) (x1) (x3) (x4) (x5) (x1) (x5) (a3) hG (lv_sub hl [0, 1, 2, 3, 4] rfl) hf

set_option maxRecDepth 100000 in
set_option maxHeartbeats 4000000 in
theorem w_X5_fillColumn_65 {res : (Int32 × zh_H)} (hB : zc_B p s m args meth c cX5_fillColumn 6 RX5 (some .int) D K) : ∀ (H : Heap) (locs : List Loc) (ls : Array Slot) (h : zh_H) (x0 : Nat) (x1 : Int32) (x2 : Int32) (x3 : Int32) (x4 : Int32), zh_G D K b0 N h s.heap H locs → lv_has ls 6 [(0, .ref x0), (1, .int x1), (2, .int x2), (3, .int x3), (4, .int x4)] → b_X5_fillColumn_65 h x0 x1 x2 x3 x4 = some res → W p l e (zc_rm 3 0 0) s m args below meth c H locs 0 0 (MQ below (zc_Q D K b0 (zq (some (.int res.1)) N res.2)) args s 0 0 (fun q => b0 ≤ q)) (F0 m 65 ls []) := by
  have hx := hB.1
  have hb := hB.2.1
  intro H locs ls h x0 x1 x2 x3 x4 hG hl hf
  unfold b_X5_fillColumn_65 at hf
  refine lv_iload_n hx hb dX5_fillColumn_65 rfl (lv_at hl 2 rfl) ?_
  refine lv_istore (lv' := [(5, .int x2), (0, .ref x0), (1, .int x1), (2, .int x2), (3, .int x3), (4, .int x4)]) hx hb dX5_fillColumn_66 hl (by decide) rfl (fun ls hl => ?_)
  exact w_X5_fillColumn_68 hB zFuel _ _ _ h (x0) (x1) (x3) (x4) (x2) hG (lv_sub hl [1, 2, 4, 5, 0] rfl) hf

set_option maxRecDepth 100000 in
set_option maxHeartbeats 4000000 in
theorem w_X5_fillColumn_0 {res : (Int32 × zh_H)} (hB : zc_B p s m args meth c cX5_fillColumn 6 RX5 (some .int) D K) : ∀ (H : Heap) (locs : List Loc) (ls : Array Slot) (h : zh_H) (x0 : Nat) (x1 : Int32), zh_G D K b0 N h s.heap H locs → lv_has ls 6 [(0, .ref x0), (1, .int x1)] → b_X5_fillColumn_0 h x0 x1 = some res → W p l e (zc_rm 3 0 0) s m args below meth c H locs 0 0 (MQ below (zc_Q D K b0 (zq (some (.int res.1)) N res.2)) args s 0 0 (fun q => b0 ≤ q)) (F0 m 0 ls []) := by
  have hx := hB.1
  have hb := hB.2.1
  intro H locs ls h x0 x1 hG hl hf
  unfold b_X5_fillColumn_0 at hf
  refine lv_aload_n hx hb dX5_fillColumn_0 rfl (lv_at hl 0 rfl) ?_
  refine lv_aload_n hx hb dX5_fillColumn_1 rfl (lv_at hl 0 rfl) ?_
  obtain ⟨a1, ea1, hf⟩ := zb hf
  refine zr_getR hB hG zF_5 (by decide) kf_X5_23 ea1 dX5_fillColumn_2 ?_
  refine lv_aload_n hx hb dX5_fillColumn_5 rfl (lv_at hl 0 rfl) ?_
  obtain ⟨v2, ev2, hf⟩ := zb hf
  refine zr_getI hB hG zF_5 (by decide) kf_X5_77 ev2 dX5_fillColumn_6 ?_
  refine lv_iload_n hx hb dX5_fillColumn_9 rfl (lv_at hl 1 rfl) ?_
  refine lv_iadd hx hb dX5_fillColumn_10 ?_
  refine lv_iconst (v := 1) hx hb dX5_fillColumn_11 (by decide) ?_
  refine lv_isub hx hb dX5_fillColumn_12 ?_
  obtain ⟨o3, eo3, hf⟩ := zb hf
  obtain ⟨v5, h4, eh4, hf⟩ := zbp_s hf
  refine zr_callV (As := [.int ((v2 + x1) - (1 : Int32))]) kc_X5_124 hB hG (c_X0_get eh4) eo3 rfl hl.1 rfl ⟨by decide, by decide⟩ (Nat.le_of_ble_eq_true rfl) ⟨by decide, by decide⟩ dX5_fillColumn_13 (fun H locs hG => ?_)
  obtain ⟨o6, eo6, hf⟩ := zb hf
  obtain ⟨h7, eh7, hf⟩ := zb hf
  refine zr_callVv (As := [.int v5]) kc_X5_127 hB hG (c_X5_turnColumns eh7) eo6 rfl hl.1 rfl ⟨by decide, by decide⟩ (Nat.le_of_ble_eq_true rfl) ⟨by decide, by decide⟩ dX5_fillColumn_16 (fun H locs hG => ?_)
  refine lv_iconst (v := 0) hx hb dX5_fillColumn_19 (by decide) ?_
  refine lv_iload_n hx hb dX5_fillColumn_20 rfl (lv_at hl 1 rfl) ?_
  refine lv_aload_n hx hb dX5_fillColumn_21 rfl (lv_at hl 0 rfl) ?_
  obtain ⟨v8, ev8, hf⟩ := zb hf
  refine zr_getI hB hG zF_5 (by decide) kf_X5_102 ev8 dX5_fillColumn_22 ?_
  refine lv_iadd hx hb dX5_fillColumn_25 ?_
  refine zr_max km_X5_105 k_max k_Mi k_maxc hl.1 hB dX5_fillColumn_26 (by decide) (Nat.le_of_ble_eq_true rfl) ⟨by decide, by decide⟩ ?_
  refine lv_istore_n (lv' := [(2, .int (zmax (0 : Int32) (x1 + v8))), (0, .ref x0), (1, .int x1)]) hx hb dX5_fillColumn_29 rfl hl (by decide) rfl (fun ls hl => ?_)
  refine lv_aload_n hx hb dX5_fillColumn_30 rfl (lv_at hl 1 rfl) ?_
  obtain ⟨a9, ea9, hf⟩ := zb hf
  refine zr_getR hB hG zF_5 (by decide) kf_X5_14 ea9 dX5_fillColumn_31 ?_
  obtain ⟨v10, ev10, hf⟩ := zb hf
  refine zr_getI hB hG zF_7 (by decide) kf_X5_90 ev10 dX5_fillColumn_34 ?_
  refine lv_iload_n hx hb dX5_fillColumn_37 rfl (lv_at hl 2 rfl) ?_
  refine lv_aload_n hx hb dX5_fillColumn_38 rfl (lv_at hl 1 rfl) ?_
  obtain ⟨v11, ev11, hf⟩ := zb hf
  refine zr_getI hB hG zF_5 (by decide) kf_X5_108 ev11 dX5_fillColumn_39 ?_
  refine lv_iadd hx hb dX5_fillColumn_42 ?_
  refine zr_min km_X5_98 k_min k_Mi k_minc hl.1 hB dX5_fillColumn_43 (by decide) (Nat.le_of_ble_eq_true rfl) ⟨by decide, by decide⟩ ?_
  refine lv_istore_n (lv' := [(3, .int (zmin v10 (x1 + v11))), (2, .int (zmax (0 : Int32) (x1 + v8))), (0, .ref x0), (1, .int x1)]) hx hb dX5_fillColumn_46 rfl hl (by decide) rfl (fun ls hl => ?_)
  refine lv_ldc (v := 1048576) hx hb hB.2.2.2.1 (hB.2.2.2.2.1 _ (zin kk_X5_130 rfl)) dX5_fillColumn_47 ?_
  refine lv_istore (lv' := [(4, .int (1048576 : Int32)), (3, .int (zmin v10 (x1 + v11))), (2, .int (zmax (0 : Int32) (x1 + v8))), (0, .ref x0), (1, .int x1)]) hx hb dX5_fillColumn_49 hl (by decide) rfl (fun ls hl => ?_)
  refine lv_iload_n hx hb dX5_fillColumn_51 rfl (lv_at hl 2 rfl) ?_
  refine lv_if_le (tgt := 65) hx hb dX5_fillColumn_52 (by decide) (fun hc14 => ?_) (fun hc14 => ?_)
  · rw [if_pos hc14] at hf
    exact w_X5_fillColumn_65 hB _ _ _ h7 (x0) (x1) ((zmax (0 : Int32) (x1 + v8))) ((zmin v10 (x1 + v11))) ((1048576 : Int32)) hG (lv_sub hl [3, 4, 2, 1, 0] rfl) hf
  · rw [if_neg hc14] at hf
    refine lv_aload_n hx hb dX5_fillColumn_55 rfl (lv_at hl 3 rfl) ?_
    obtain ⟨a12, ea12, hf⟩ := zb hf
    refine zr_getR hB hG zF_5 (by decide) kf_X5_27 ea12 dX5_fillColumn_56 ?_
    refine lv_iload_n hx hb dX5_fillColumn_59 rfl (lv_at hl 2 rfl) ?_
    refine lv_iconst (v := 1) hx hb dX5_fillColumn_60 (by decide) ?_
    refine lv_isub hx hb dX5_fillColumn_61 ?_
    refine lv_ldc (v := 1048576) hx hb hB.2.2.2.1 (hB.2.2.2.2.1 _ (zin kk_X5_130 rfl)) dX5_fillColumn_62 ?_
    obtain ⟨h13, eh13, hf⟩ := zb hf
    refine zr_iast hB hG eh13 dX5_fillColumn_64 (fun H locs hG => ?_)
    exact w_X5_fillColumn_65 hB _ _ _ h13 (x0) (x1) ((zmax (0 : Int32) (x1 + v8))) ((zmin v10 (x1 + v11))) ((1048576 : Int32)) hG (lv_sub hl [3, 4, 2, 1, 0] rfl) hf
end G_X5_fillColumn
theorem c_X5_fillColumn {l : Launch} {D : va_G} {K : Nat → ClassId} {b0 N : Nat} {h : zh_H} {x0 : Nat} {x1 : Int32} {r : Int32} {h2 : zh_H} (hf : b_X5_fillColumn_0 h x0 x1 = some (r, h2)) : zc l yX5_fillColumn cX5_fillColumn 6 (some .int) 3 0 0 D K b0 N h [.ref x0, .int x1] (zq (some (.int r)) N h2) := by
  refine zc.of [(0, .ref x0), (1, .int x1)] (by decide) rfl (Nat.le_of_ble_eq_true rfl) ?_
  intro p e s m args below meth c hB hnm hG ls hl
  exact w_X5_fillColumn_0 (res := (r, h2)) hB _ _ ls h x0 x1 hG (lv_sub hl [0, 1] rfl) hf

section G_X5_measure
variable {p : Program} {l : Launch} {e : Env} {s : State} {m : MethodId} {args : Array Value} {below : List Frame} {meth : Method} {c : Code} {D : va_G} {K : Nat → ClassId} {b0 N : Nat}
set_option maxRecDepth 100000 in
set_option maxHeartbeats 4000000 in
theorem w_X5_measure_76 {res : (Int32 × zh_H)} (hB : zc_B p s m args meth c cX5_measure 5 RX5 (some .int) D K) : ∀ n : Nat, ∀ (H : Heap) (locs : List Loc) (ls : Array Slot) (h : zh_H) (x0 : Nat) (x1 : Int32) (x4 : Int32), zh_G D K b0 N h s.heap H locs → lv_has ls 5 [(0, .ref x0), (1, .int x1), (4, .int x4)] → b_X5_measure_76 n h x0 x1 x4 = some res → W p l e (zc_rm 4 0 0) s m args below meth c H locs 0 0 (MQ below (zc_Q D K b0 (zq (some (.int res.1)) N res.2)) args s 0 0 (fun q => b0 ≤ q)) (F0 m 76 ls []) := by
  have hx := hB.1
  have hb := hB.2.1
  intro n
  induction n with
  | zero =>
    intro H locs ls h x0 x1 x4 hG hl hf
    cases hf
  | succ n ih =>
    intro H locs ls h x0 x1 x4 hG hl hf
    unfold b_X5_measure_76 at hf
    refine lv_iload hx hb dX5_measure_76 (lv_at hl 2 rfl) ?_
    refine lv_aload_n hx hb dX5_measure_78 rfl (lv_at hl 0 rfl) ?_
    obtain ⟨v1, ev1, hf⟩ := zb hf
    refine zr_getI hB hG zF_5 (by decide) kf_X5_84 ev1 dX5_measure_79 ?_
    refine lv_icmp_gt (tgt := 105) hx hb dX5_measure_82 (by decide) (fun hc10 => ?_) (fun hc10 => ?_)
    · rw [if_pos hc10] at hf
      refine lv_aload_n hx hb dX5_measure_105 rfl (lv_at hl 0 rfl) ?_
      obtain ⟨a2, ea2, hf⟩ := zb hf
      refine zr_getR hB hG zF_5 (by decide) kf_X5_27 ea2 dX5_measure_106 ?_
      refine lv_aload_n hx hb dX5_measure_109 rfl (lv_at hl 0 rfl) ?_
      obtain ⟨a3, ea3, hf⟩ := zb hf
      refine zr_getR hB hG zF_5 (by decide) kf_X5_14 ea3 dX5_measure_110 ?_
      obtain ⟨v4, ev4, hf⟩ := zb hf
      refine zr_getI hB hG zF_7 (by decide) kf_X5_90 ev4 dX5_measure_113 ?_
      obtain ⟨v5, ev5, hf⟩ := zb hf
      refine zr_iald hB hG ev5 dX5_measure_116 ?_
      obtain rfl := Option.some.inj hf
      exact zr_iret hB hG ⟨rfl, rfl, rfl⟩ dX5_measure_117
    · rw [if_neg hc10] at hf
      refine lv_aload_n hx hb dX5_measure_85 rfl (lv_at hl 0 rfl) ?_
      refine lv_iload hx hb dX5_measure_86 (lv_at hl 2 rfl) ?_
      obtain ⟨o6, eo6, hf⟩ := zb hf
      obtain ⟨v8, h7, eh7, hf⟩ := zbp_s hf
      refine zr_callV (As := [.int x4]) kc_X5_118 hB hG (c_X5_fillColumn eh7) eo6 rfl hl.1 rfl ⟨by decide, by decide⟩ (Nat.le_of_ble_eq_true rfl) ⟨by decide, by decide⟩ dX5_measure_88 (fun H locs hG => ?_)
      refine lv_iload_n hx hb dX5_measure_91 rfl (lv_at hl 1 rfl) ?_
      refine lv_icmp_le (tgt := 99) hx hb dX5_measure_92 (by decide) (fun hc9 => ?_) (fun hc9 => ?_)
      · rw [if_pos hc9] at hf
        refine lv_iinc (v := (x4 + (1 : Int32))) (lv' := [(4, .int (x4 + (1 : Int32))), (0, .ref x0), (1, .int x1)]) hx hb dX5_measure_99 hl (k := 2) rfl rfl (by decide) rfl (fun ls hl => ?_)
        refine lv_goto (tgt := 76) hx hb dX5_measure_102 (by decide) ?_
        exact ih _ _ _ h7 (x0) (x1) ((x4 + (1 : Int32))) hG (lv_sub hl [1, 2, 0] rfl) hf
      · rw [if_neg hc9] at hf
        refine lv_iload_n hx hb dX5_measure_95 rfl (lv_at hl 1 rfl) ?_
        refine lv_iconst (v := 1) hx hb dX5_measure_96 (by decide) ?_
        refine lv_iadd hx hb dX5_measure_97 ?_
        obtain rfl := Option.some.inj hf
        exact zr_iret hB hG ⟨rfl, rfl, rfl⟩ dX5_measure_98

set_option maxRecDepth 100000 in
set_option maxHeartbeats 4000000 in
theorem w_X5_measure_0 {res : (Int32 × zh_H)} (hB : zc_B p s m args meth c cX5_measure 5 RX5 (some .int) D K) : ∀ (H : Heap) (locs : List Loc) (ls : Array Slot) (h : zh_H) (x0 : Nat) (x1 : Int32), zh_G D K b0 N h s.heap H locs → lv_has ls 5 [(0, .ref x0), (1, .int x1)] → b_X5_measure_0 h x0 x1 = some res → W p l e (zc_rm 4 0 0) s m args below meth c H locs 0 0 (MQ below (zc_Q D K b0 (zq (some (.int res.1)) N res.2)) args s 0 0 (fun q => b0 ≤ q)) (F0 m 0 ls []) := by
  have hx := hB.1
  have hb := hB.2.1
  intro H locs ls h x0 x1 hG hl hf
  unfold b_X5_measure_0 at hf
  refine lv_aload_n hx hb dX5_measure_0 rfl (lv_at hl 0 rfl) ?_
  obtain ⟨a1, ea1, hf⟩ := zb hf
  refine zr_getR hB hG zF_5 (by decide) kf_X5_14 ea1 dX5_measure_1 ?_
  obtain ⟨v2, ev2, hf⟩ := zb hf
  refine zr_getI hB hG zF_7 (by decide) kf_X5_90 ev2 dX5_measure_4 ?_
  refine lv_aload_n hx hb dX5_measure_7 rfl (lv_at hl 0 rfl) ?_
  obtain ⟨v3, ev3, hf⟩ := zb hf
  refine zr_getI hB hG zF_5 (by decide) kf_X5_84 ev3 dX5_measure_8 ?_
  refine lv_isub hx hb dX5_measure_11 ?_
  refine lv_istore_n (lv' := [(2, .int (v2 - v3)), (0, .ref x0), (1, .int x1)]) hx hb dX5_measure_12 rfl hl (by decide) rfl (fun ls hl => ?_)
  refine lv_iload_n hx hb dX5_measure_13 rfl (lv_at hl 2 rfl) ?_
  refine lv_iload_n hx hb dX5_measure_14 rfl (lv_at hl 0 rfl) ?_
  refine zr_abs km_X5_93 k_abs k_Mi k_absc hl.1 hB dX5_measure_15 (by decide) (Nat.le_of_ble_eq_true rfl) ⟨by decide, by decide⟩ ?_
  refine lv_isub hx hb dX5_measure_18 ?_
  refine lv_istore_n (lv' := [(3, .int (x1 - (zabs (v2 - v3)))), (2, .int (v2 - v3)), (0, .ref x0), (1, .int x1)]) hx hb dX5_measure_19 rfl hl (by decide) rfl (fun ls hl => ?_)
  refine lv_iload_n hx hb dX5_measure_20 rfl (lv_at hl 0 rfl) ?_
  refine lv_if_ge (tgt := 28) hx hb dX5_measure_21 (by decide) (fun hc13 => ?_) (fun hc13 => ?_)
  · rw [if_pos hc13] at hf
    refine lv_aload_n hx hb dX5_measure_28 rfl (lv_at hl 2 rfl) ?_
    refine lv_iload_n hx hb dX5_measure_29 rfl (lv_at hl 1 rfl) ?_
    refine lv_iconst (v := 0) hx hb dX5_measure_30 (by decide) ?_
    refine zr_min km_X5_98 k_min k_Mi k_minc hl.1 hB dX5_measure_31 (by decide) (Nat.le_of_ble_eq_true rfl) ⟨by decide, by decide⟩ ?_
    refine lv_iload_n hx hb dX5_measure_34 rfl (lv_at hl 0 rfl) ?_
    refine lv_iconst (v := 2) hx hb dX5_measure_35 (by decide) ?_
    refine lv_idiv hx hb dX5_measure_36 (by decide) ?_
    refine lv_isub hx hb dX5_measure_37 ?_
    obtain ⟨h4, eh4, hf⟩ := zb hf
    refine zr_put hB hG zF_5 (by decide) kf_X5_102 rfl rfl rfl eh4 dX5_measure_38 (fun H locs hG => ?_)
    refine lv_aload_n hx hb dX5_measure_41 rfl (lv_at hl 2 rfl) ?_
    refine lv_iload_n hx hb dX5_measure_42 rfl (lv_at hl 1 rfl) ?_
    refine lv_iconst (v := 0) hx hb dX5_measure_43 (by decide) ?_
    refine zr_max km_X5_105 k_max k_Mi k_maxc hl.1 hB dX5_measure_44 (by decide) (Nat.le_of_ble_eq_true rfl) ⟨by decide, by decide⟩ ?_
    refine lv_iload_n hx hb dX5_measure_47 rfl (lv_at hl 0 rfl) ?_
    refine lv_iconst (v := 2) hx hb dX5_measure_48 (by decide) ?_
    refine lv_idiv hx hb dX5_measure_49 (by decide) ?_
    refine lv_iadd hx hb dX5_measure_50 ?_
    obtain ⟨h5, eh5, hf⟩ := zb hf
    refine zr_put hB hG zF_5 (by decide) kf_X5_108 rfl rfl rfl eh5 dX5_measure_51 (fun H locs hG => ?_)
    refine lv_aload_n hx hb dX5_measure_54 rfl (lv_at hl 2 rfl) ?_
    obtain ⟨a6, ea6, hf⟩ := zb hf
    refine zr_getR hB hG zF_5 (by decide) kf_X5_57 ea6 dX5_measure_55 ?_
    refine lv_aload_n hx hb dX5_measure_58 rfl (lv_at hl 2 rfl) ?_
    obtain ⟨v7, ev7, hf⟩ := zb hf
    refine zr_getI hB hG zF_5 (by decide) kf_X5_102 ev7 dX5_measure_59 ?_
    refine lv_aload_n hx hb dX5_measure_62 rfl (lv_at hl 2 rfl) ?_
    obtain ⟨v8, ev8, hf⟩ := zb hf
    refine zr_getI hB hG zF_5 (by decide) kf_X5_108 ev8 dX5_measure_63 ?_
    obtain ⟨o9, eo9, hf⟩ := zb hf
    obtain ⟨h10, eh10, hf⟩ := zb hf
    refine zr_callVv (As := [.int v7, .int v8]) kc_X5_111 hB hG (c_X8_widen eh10) eo9 rfl hl.1 rfl ⟨by decide, by decide⟩ (Nat.le_of_ble_eq_true rfl) ⟨by decide, by decide⟩ dX5_measure_66 (fun H locs hG => ?_)
    refine lv_aload_n hx hb dX5_measure_69 rfl (lv_at hl 2 rfl) ?_
    obtain ⟨o11, eo11, hf⟩ := zb hf
    obtain ⟨h12, eh12, hf⟩ := zb hf
    refine zr_callVv (As := []) kc_X5_115 hB hG (c_X5_fillFirstColumn eh12) eo11 rfl hl.1 rfl ⟨by decide, by decide⟩ (Nat.le_of_ble_eq_true rfl) ⟨by decide, by decide⟩ dX5_measure_70 (fun H locs hG => ?_)
    refine lv_iconst (v := 1) hx hb dX5_measure_73 (by decide) ?_
    refine lv_istore (lv' := [(4, .int (1 : Int32)), (3, .int (x1 - (zabs (v2 - v3)))), (2, .int (v2 - v3)), (0, .ref x0), (1, .int x1)]) hx hb dX5_measure_74 hl (by decide) rfl (fun ls hl => ?_)
    exact w_X5_measure_76 hB zFuel _ _ _ h12 (x0) (x1) ((1 : Int32)) hG (lv_sub hl [3, 4, 0] rfl) hf
  · rw [if_neg hc13] at hf
    refine lv_iload_n hx hb dX5_measure_24 rfl (lv_at hl 3 rfl) ?_
    refine lv_iconst (v := 1) hx hb dX5_measure_25 (by decide) ?_
    refine lv_iadd hx hb dX5_measure_26 ?_
    obtain rfl := Option.some.inj hf
    exact zr_iret hB hG ⟨rfl, rfl, rfl⟩ dX5_measure_27
end G_X5_measure
theorem c_X5_measure {l : Launch} {D : va_G} {K : Nat → ClassId} {b0 N : Nat} {h : zh_H} {x0 : Nat} {x1 : Int32} {r : Int32} {h2 : zh_H} (hf : b_X5_measure_0 h x0 x1 = some (r, h2)) : zc l yX5_measure cX5_measure 5 (some .int) 4 0 0 D K b0 N h [.ref x0, .int x1] (zq (some (.int r)) N h2) := by
  refine zc.of [(0, .ref x0), (1, .int x1)] (by decide) rfl (Nat.le_of_ble_eq_true rfl) ?_
  intro p e s m args below meth c hB hnm hG ls hl
  exact w_X5_measure_0 (res := (r, h2)) hB _ _ ls h x0 x1 hG (lv_sub hl [0, 1] rfl) hf

section G_X5_distance
variable {p : Program} {l : Launch} {e : Env} {s : State} {m : MethodId} {args : Array Value} {below : List Frame} {meth : Method} {c : Code} {D : va_G} {K : Nat → ClassId} {b0 N : Nat}
set_option maxRecDepth 100000 in
set_option maxHeartbeats 4000000 in
theorem w_X5_distance_62 {res : (Int32 × zh_H)} (hB : zc_B p s m args meth c cX5_distance 9 RX5 (some .int) D K) : ∀ (H : Heap) (locs : List Loc) (ls : Array Slot) (h : zh_H) (x0 : Nat) (x6 : Int32), zh_G D K b0 N h s.heap H locs → lv_has ls 9 [(0, .ref x0), (6, .int x6)] → b_X5_distance_62 h x0 x6 = some res → W p l e (zc_rm 5 0 0) s m args below meth c H locs 0 0 (MQ below (zc_Q D K b0 (zq (some (.int res.1)) N res.2)) args s 0 0 (fun q => b0 ≤ q)) (F0 m 62 ls []) := by
  have hx := hB.1
  have hb := hB.2.1
  intro H locs ls h x0 x6 hG hl hf
  unfold b_X5_distance_62 at hf
  refine lv_aload_n hx hb dX5_distance_62 rfl (lv_at hl 0 rfl) ?_
  refine lv_iload hx hb dX5_distance_63 (lv_at hl 1 rfl) ?_
  obtain ⟨o1, eo1, hf⟩ := zb hf
  obtain ⟨v3, h2, eh2, hf⟩ := zbp_s hf
  refine zr_callV (As := [.int x6]) kc_X5_69 hB hG (c_X5_measure eh2) eo1 rfl hl.1 rfl ⟨by decide, by decide⟩ (Nat.le_of_ble_eq_true rfl) ⟨by decide, by decide⟩ dX5_distance_65 (fun H locs hG => ?_)
  obtain rfl := Option.some.inj hf
  exact zr_iret hB hG ⟨rfl, rfl, rfl⟩ dX5_distance_68

set_option maxRecDepth 100000 in
set_option maxHeartbeats 4000000 in
theorem w_X5_distance_20 {res : (Int32 × zh_H)} (hB : zc_B p s m args meth c cX5_distance 9 RX5 (some .int) D K) : ∀ n : Nat, ∀ (H : Heap) (locs : List Loc) (ls : Array Slot) (h : zh_H) (x0 : Nat) (x6 : Int32) (x7 : Int32), zh_G D K b0 N h s.heap H locs → lv_has ls 9 [(0, .ref x0), (6, .int x6), (7, .int x7)] → b_X5_distance_20 n h x0 x6 x7 = some res → W p l e (zc_rm 5 0 0) s m args below meth c H locs 0 0 (MQ below (zc_Q D K b0 (zq (some (.int res.1)) N res.2)) args s 0 0 (fun q => b0 ≤ q)) (F0 m 20 ls []) := by
  have hx := hB.1
  have hb := hB.2.1
  intro n
  induction n with
  | zero =>
    intro H locs ls h x0 x6 x7 hG hl hf
    cases hf
  | succ n ih =>
    intro H locs ls h x0 x6 x7 hG hl hf
    unfold b_X5_distance_20 at hf
    refine lv_iload hx hb dX5_distance_20 (lv_at hl 2 rfl) ?_
    refine lv_iload hx hb dX5_distance_22 (lv_at hl 1 rfl) ?_
    refine lv_icmp_ge (tgt := 62) hx hb dX5_distance_24 (by decide) (fun hc6 => ?_) (fun hc6 => ?_)
    · rw [if_pos hc6] at hf
      exact w_X5_distance_62 hB _ _ _ h (x0) (x6) hG (lv_sub hl [0, 1] rfl) hf
    · rw [if_neg hc6] at hf
      refine lv_iload hx hb dX5_distance_27 (lv_at hl 2 rfl) ?_
      refine lv_sipush (v := 2000) hx hb dX5_distance_29 (by decide) ?_
      refine lv_icmp_ge (tgt := 62) hx hb dX5_distance_32 (by decide) (fun hc5 => ?_) (fun hc5 => ?_)
      · rw [if_pos hc5] at hf
        exact w_X5_distance_62 hB _ _ _ h (x0) (x6) hG (lv_sub hl [0, 1] rfl) hf
      · rw [if_neg hc5] at hf
        refine lv_aload_n hx hb dX5_distance_35 rfl (lv_at hl 0 rfl) ?_
        refine lv_iload hx hb dX5_distance_36 (lv_at hl 2 rfl) ?_
        obtain ⟨o1, eo1, hf⟩ := zb hf
        obtain ⟨v3, h2, eh2, hf⟩ := zbp_s hf
        refine zr_callV (As := [.int x7]) kc_X5_69 hB hG (c_X5_measure eh2) eo1 rfl hl.1 rfl ⟨by decide, by decide⟩ (Nat.le_of_ble_eq_true rfl) ⟨by decide, by decide⟩ dX5_distance_38 (fun H locs hG => ?_)
        refine lv_istore (lv' := [(8, .int v3), (0, .ref x0), (6, .int x6), (7, .int x7)]) hx hb dX5_distance_41 hl (by decide) rfl (fun ls hl => ?_)
        refine lv_iload hx hb dX5_distance_43 (lv_at hl 0 rfl) ?_
        refine lv_iload hx hb dX5_distance_45 (lv_at hl 3 rfl) ?_
        refine lv_icmp_gt (tgt := 53) hx hb dX5_distance_47 (by decide) (fun hc4 => ?_) (fun hc4 => ?_)
        · rw [if_pos hc4] at hf
          refine lv_iload hx hb dX5_distance_53 (lv_at hl 3 rfl) ?_
          refine lv_iconst (v := 4) hx hb dX5_distance_55 (by decide) ?_
          refine lv_imul hx hb dX5_distance_56 ?_
          refine lv_istore (lv' := [(7, .int (x7 * (4 : Int32))), (8, .int v3), (0, .ref x0), (6, .int x6)]) hx hb dX5_distance_57 hl (by decide) rfl (fun ls hl => ?_)
          refine lv_goto (tgt := 20) hx hb dX5_distance_59 (by decide) ?_
          exact ih _ _ _ h2 (x0) (x6) ((x7 * (4 : Int32))) hG (lv_sub hl [2, 3, 0] rfl) hf
        · rw [if_neg hc4] at hf
          refine lv_iload hx hb dX5_distance_50 (lv_at hl 0 rfl) ?_
          obtain rfl := Option.some.inj hf
          exact zr_iret hB hG ⟨rfl, rfl, rfl⟩ dX5_distance_52

set_option maxRecDepth 100000 in
set_option maxHeartbeats 4000000 in
theorem w_X5_distance_0 {res : (Int32 × zh_H)} (hB : zc_B p s m args meth c cX5_distance 9 RX5 (some .int) D K) : ∀ (H : Heap) (locs : List Loc) (ls : Array Slot) (h : zh_H) (x0 : Nat) (x1 : Nat) (x2 : Nat) (x3 : Int32) (x4 : Int32) (x5 : Int32) (x6 : Int32), zh_G D K b0 N h s.heap H locs → lv_has ls 9 [(0, .ref x0), (1, .ref x1), (2, .ref x2), (3, .int x3), (4, .int x4), (5, .int x5), (6, .int x6)] → b_X5_distance_0 h x0 x1 x2 x3 x4 x5 x6 = some res → W p l e (zc_rm 5 0 0) s m args below meth c H locs 0 0 (MQ below (zc_Q D K b0 (zq (some (.int res.1)) N res.2)) args s 0 0 (fun q => b0 ≤ q)) (F0 m 0 ls []) := by
  have hx := hB.1
  have hb := hB.2.1
  intro H locs ls h x0 x1 x2 x3 x4 x5 x6 hG hl hf
  unfold b_X5_distance_0 at hf
  refine lv_aload_n hx hb dX5_distance_0 rfl (lv_at hl 0 rfl) ?_
  refine lv_aload_n hx hb dX5_distance_1 rfl (lv_at hl 1 rfl) ?_
  refine lv_aload_n hx hb dX5_distance_2 rfl (lv_at hl 2 rfl) ?_
  refine lv_iload_n hx hb dX5_distance_3 rfl (lv_at hl 3 rfl) ?_
  refine lv_iload hx hb dX5_distance_4 (lv_at hl 4 rfl) ?_
  refine lv_iload hx hb dX5_distance_6 (lv_at hl 5 rfl) ?_
  obtain ⟨o1, eo1, hf⟩ := zb hf
  obtain ⟨h2, eh2, hf⟩ := zb hf
  refine zr_callVv (As := [.ref x1, .ref x2, .int x3, .int x4, .int x5]) kc_X5_61 hB hG (c_X5_lay eh2) eo1 rfl hl.1 rfl ⟨by decide, by decide⟩ (Nat.le_of_ble_eq_true rfl) ⟨by decide, by decide⟩ dX5_distance_8 (fun H locs hG => ?_)
  refine lv_aload_n hx hb dX5_distance_11 rfl (lv_at hl 0 rfl) ?_
  refine lv_iconst (v := 0) hx hb dX5_distance_12 (by decide) ?_
  obtain ⟨h3, eh3, hf⟩ := zb hf
  refine zr_putZ hB hG zF_5 (by decide) kf_X5_65 rfl rfl eh3 dX5_distance_13 (fun H locs hG => ?_)
  refine lv_bipush (v := 16) hx hb dX5_distance_16 (by decide) ?_
  refine lv_istore (lv' := [(7, .int (16 : Int32)), (0, .ref x0), (1, .ref x1), (2, .ref x2), (3, .int x3), (4, .int x4), (5, .int x5), (6, .int x6)]) hx hb dX5_distance_18 hl (by decide) rfl (fun ls hl => ?_)
  exact w_X5_distance_20 hB zFuel _ _ _ h3 (x0) (x6) ((16 : Int32)) hG (lv_sub hl [1, 7, 0] rfl) hf
end G_X5_distance
theorem c_X5_distance {l : Launch} {D : va_G} {K : Nat → ClassId} {b0 N : Nat} {h : zh_H} {x0 : Nat} {x1 : Nat} {x2 : Nat} {x3 : Int32} {x4 : Int32} {x5 : Int32} {x6 : Int32} {r : Int32} {h2 : zh_H} (hf : b_X5_distance_0 h x0 x1 x2 x3 x4 x5 x6 = some (r, h2)) : zc l yX5_distance cX5_distance 9 (some .int) 5 0 0 D K b0 N h [.ref x0, .ref x1, .ref x2, .int x3, .int x4, .int x5, .int x6] (zq (some (.int r)) N h2) := by
  refine zc.of [(0, .ref x0), (1, .ref x1), (2, .ref x2), (3, .int x3), (4, .int x4), (5, .int x5), (6, .int x6)] (by decide) rfl (Nat.le_of_ble_eq_true rfl) ?_
  intro p e s m args below meth c hB hnm hG ls hl
  exact w_X5_distance_0 (res := (r, h2)) hB _ _ ls h x0 x1 x2 x3 x4 x5 x6 hG (lv_sub hl [0, 1, 2, 3, 4, 5, 6] rfl) hf

section G_X10_apart
variable {p : Program} {l : Launch} {e : Env} {s : State} {m : MethodId} {args : Array Value} {below : List Frame} {meth : Method} {c : Code} {D : va_G} {K : Nat → ClassId} {b0 N : Nat}
set_option maxRecDepth 100000 in
set_option maxHeartbeats 4000000 in
theorem w_X10_apart_33 {res : (Int32 × zh_H)} (hB : zc_B p s m args meth c cX10_apart 8 RX10 (some .int) D K) : ∀ (H : Heap) (locs : List Loc) (ls : Array Slot) (h : zh_H), zh_G D K b0 N h s.heap H locs → lv_has ls 8 [] → b_X10_apart_33 h  = some res → W p l e (zc_rm 6 0 0) s m args below meth c H locs 0 0 (MQ below (zc_Q D K b0 (zq (some (.int res.1)) N res.2)) args s 0 0 (fun q => b0 ≤ q)) (F0 m 33 ls []) := by
  have hx := hB.1
  have hb := hB.2.1
  intro H locs ls h  hG hl hf
  unfold b_X10_apart_33 at hf
  refine lv_bipush (v := -2) hx hb dX10_apart_33 (by decide) ?_
  obtain rfl := Option.some.inj hf
  exact zr_iret hB hG ⟨rfl, rfl, rfl⟩ dX10_apart_35

set_option maxRecDepth 100000 in
set_option maxHeartbeats 4000000 in
theorem w_X10_apart_87 {res : (Int32 × zh_H)} (hB : zc_B p s m args meth c cX10_apart 8 RX10 (some .int) D K) : ∀ (H : Heap) (locs : List Loc) (ls : Array Slot) (h : zh_H) (y0 : Int32), zh_G D K b0 N h s.heap H locs → lv_has ls 8 [] → b_X10_apart_87 h y0 = some res → W p l e (zc_rm 6 0 0) s m args below meth c H locs 0 0 (MQ below (zc_Q D K b0 (zq (some (.int res.1)) N res.2)) args s 0 0 (fun q => b0 ≤ q)) (F0 m 87 ls [.int y0]) := by
  have hx := hB.1
  have hb := hB.2.1
  intro H locs ls h y0 hG hl hf
  unfold b_X10_apart_87 at hf
  obtain rfl := Option.some.inj hf
  exact zr_iret hB hG ⟨rfl, rfl, rfl⟩ dX10_apart_87

set_option maxRecDepth 100000 in
set_option maxHeartbeats 4000000 in
theorem w_X10_apart_0 {res : (Int32 × zh_H)} (hB : zc_B p s m args meth c cX10_apart 8 RX10 (some .int) D K) : ∀ (H : Heap) (locs : List Loc) (ls : Array Slot) (h : zh_H) (x0 : Nat) (x1 : Int32) (x2 : Int32) (x3 : Int32) (x4 : Int32) (x5 : Int32) (x6 : Int32), zh_G D K b0 N h s.heap H locs → lv_has ls 8 [(0, .ref x0), (1, .int x1), (2, .int x2), (3, .int x3), (4, .int x4), (5, .int x5), (6, .int x6)] → b_X10_apart_0 h x0 x1 x2 x3 x4 x5 x6 = some res → W p l e (zc_rm 6 0 0) s m args below meth c H locs 0 0 (MQ below (zc_Q D K b0 (zq (some (.int res.1)) N res.2)) args s 0 0 (fun q => b0 ≤ q)) (F0 m 0 ls []) := by
  have hx := hB.1
  have hb := hB.2.1
  intro H locs ls h x0 x1 x2 x3 x4 x5 x6 hG hl hf
  unfold b_X10_apart_0 at hf
  refine lv_aload_n hx hb dX10_apart_0 rfl (lv_at hl 0 rfl) ?_
  obtain ⟨a1, ea1, hf⟩ := zb hf
  refine zr_getR hB hG zF_10 (by decide) kf_X10_18 ea1 dX10_apart_1 ?_
  refine lv_iload_n hx hb dX10_apart_4 rfl (lv_at hl 1 rfl) ?_
  refine lv_iload_n hx hb dX10_apart_5 rfl (lv_at hl 2 rfl) ?_
  obtain ⟨o2, eo2, hf⟩ := zb hf
  obtain ⟨v4, h3, eh3, hf⟩ := zbp_s hf
  refine zr_callV (As := [.int x1, .int x2]) kc_X10_127 hB hG (c_X0_isPart eh3) eo2 rfl hl.1 rfl ⟨by decide, by decide⟩ (Nat.le_of_ble_eq_true rfl) ⟨by decide, by decide⟩ dX10_apart_6 (fun H locs hG => ?_)
  refine lv_if_eq (tgt := 33) hx hb dX10_apart_9 (by decide) (fun hc24 => ?_) (fun hc24 => ?_)
  · rw [if_pos hc24] at hf
    exact w_X10_apart_33 hB _ _ _ h3  hG (lv_sub hl [] rfl) hf
  · rw [if_neg hc24] at hf
    refine lv_aload_n hx hb dX10_apart_12 rfl (lv_at hl 0 rfl) ?_
    obtain ⟨a5, ea5, hf⟩ := zb hf
    refine zr_getR hB hG zF_10 (by decide) kf_X10_18 ea5 dX10_apart_13 ?_
    refine lv_iload_n hx hb dX10_apart_16 rfl (lv_at hl 3 rfl) ?_
    refine lv_iload hx hb dX10_apart_17 (lv_at hl 4 rfl) ?_
    obtain ⟨o6, eo6, hf⟩ := zb hf
    obtain ⟨v8, h7, eh7, hf⟩ := zbp_s hf
    refine zr_callV (As := [.int x3, .int x4]) kc_X10_127 hB hG (c_X0_isPart eh7) eo6 rfl hl.1 rfl ⟨by decide, by decide⟩ (Nat.le_of_ble_eq_true rfl) ⟨by decide, by decide⟩ dX10_apart_19 (fun H locs hG => ?_)
    refine lv_if_eq (tgt := 33) hx hb dX10_apart_22 (by decide) (fun hc23 => ?_) (fun hc23 => ?_)
    · rw [if_pos hc23] at hf
      exact w_X10_apart_33 hB _ _ _ h7  hG (lv_sub hl [] rfl) hf
    · rw [if_neg hc23] at hf
      refine lv_iload hx hb dX10_apart_25 (lv_at hl 6 rfl) ?_
      obtain ⟨v10, h9, eh9, hf⟩ := zbp_s hf
      refine zr_callS (As := [.int x6]) kc_X10_209 hB hG (c_X10_isLimit eh9) rfl hl.1 rfl ⟨by decide, by decide⟩ (Nat.le_of_ble_eq_true rfl) ⟨by decide, by decide⟩ dX10_apart_27 (fun H locs hG => ?_)
      refine lv_if_ne (tgt := 36) hx hb dX10_apart_30 (by decide) (fun hc22 => ?_) (fun hc22 => ?_)
      · rw [if_neg hc22] at hf
        refine lv_aload_n hx hb dX10_apart_36 rfl (lv_at hl 0 rfl) ?_
        obtain ⟨a11, ea11, hf⟩ := zb hf
        refine zr_getR hB hG zF_10 (by decide) kf_X10_38 ea11 dX10_apart_37 ?_
        refine lv_aload_n hx hb dX10_apart_40 rfl (lv_at hl 0 rfl) ?_
        obtain ⟨a12, ea12, hf⟩ := zb hf
        refine zr_getR hB hG zF_10 (by decide) kf_X10_18 ea12 dX10_apart_41 ?_
        refine lv_iload_n hx hb dX10_apart_44 rfl (lv_at hl 1 rfl) ?_
        refine lv_iload_n hx hb dX10_apart_45 rfl (lv_at hl 2 rfl) ?_
        obtain ⟨o13, eo13, hf⟩ := zb hf
        obtain ⟨h14, eh14, hf⟩ := zb hf
        refine zr_callVv (As := [.ref a12, .int x1, .int x2]) kc_X10_216 hB hG (c_X7_copyBytes eh14) eo13 rfl hl.1 rfl ⟨by decide, by decide⟩ (Nat.le_of_ble_eq_true rfl) ⟨by decide, by decide⟩ dX10_apart_46 (fun H locs hG => ?_)
        refine lv_aload_n hx hb dX10_apart_49 rfl (lv_at hl 0 rfl) ?_
        obtain ⟨a15, ea15, hf⟩ := zb hf
        refine zr_getR hB hG zF_10 (by decide) kf_X10_59 ea15 dX10_apart_50 ?_
        refine lv_aload_n hx hb dX10_apart_53 rfl (lv_at hl 0 rfl) ?_
        obtain ⟨a16, ea16, hf⟩ := zb hf
        refine zr_getR hB hG zF_10 (by decide) kf_X10_38 ea16 dX10_apart_54 ?_
        refine lv_aload_n hx hb dX10_apart_57 rfl (lv_at hl 0 rfl) ?_
        obtain ⟨a17, ea17, hf⟩ := zb hf
        refine zr_getR hB hG zF_10 (by decide) kf_X10_18 ea17 dX10_apart_58 ?_
        refine lv_iload_n hx hb dX10_apart_61 rfl (lv_at hl 3 rfl) ?_
        refine lv_iload hx hb dX10_apart_62 (lv_at hl 4 rfl) ?_
        refine lv_iload hx hb dX10_apart_64 (lv_at hl 5 rfl) ?_
        refine lv_iload hx hb dX10_apart_66 (lv_at hl 6 rfl) ?_
        obtain ⟨o18, eo18, hf⟩ := zb hf
        obtain ⟨v20, h19, eh19, hf⟩ := zbp_s hf
        refine zr_callV (As := [.ref a16, .ref a17, .int x3, .int x4, .int x5, .int x6]) kc_X10_212 hB hG (c_X5_distance eh19) eo18 rfl hl.1 rfl ⟨by decide, by decide⟩ (Nat.le_of_ble_eq_true rfl) ⟨by decide, by decide⟩ dX10_apart_68 (fun H locs hG => ?_)
        refine lv_istore (lv' := [(7, .int v20), (0, .ref x0), (1, .int x1), (2, .int x2), (3, .int x3), (4, .int x4), (5, .int x5), (6, .int x6)]) hx hb dX10_apart_71 hl (by decide) rfl (fun ls hl => ?_)
        refine lv_iload hx hb dX10_apart_73 (lv_at hl 0 rfl) ?_
        refine lv_iload hx hb dX10_apart_75 (lv_at hl 7 rfl) ?_
        refine lv_icmp_le (tgt := 85) hx hb dX10_apart_77 (by decide) (fun hc21 => ?_) (fun hc21 => ?_)
        · rw [if_pos hc21] at hf
          refine lv_iload hx hb dX10_apart_85 (lv_at hl 0 rfl) ?_
          exact w_X10_apart_87 hB _ _ _ h19 (v20) hG (lv_sub hl [] rfl) hf
        · rw [if_neg hc21] at hf
          refine lv_bipush (v := -4) hx hb dX10_apart_80 (by decide) ?_
          refine lv_goto (tgt := 87) hx hb dX10_apart_82 (by decide) ?_
          exact w_X10_apart_87 hB _ _ _ h19 ((-4 : Int32)) hG (lv_sub hl [] rfl) hf
      · rw [if_pos hc22] at hf
        exact w_X10_apart_33 hB _ _ _ h9  hG (lv_sub hl [] rfl) hf
end G_X10_apart
theorem c_X10_apart {l : Launch} {D : va_G} {K : Nat → ClassId} {b0 N : Nat} {h : zh_H} {x0 : Nat} {x1 : Int32} {x2 : Int32} {x3 : Int32} {x4 : Int32} {x5 : Int32} {x6 : Int32} {r : Int32} {h2 : zh_H} (hf : b_X10_apart_0 h x0 x1 x2 x3 x4 x5 x6 = some (r, h2)) : zc l yX10_apart cX10_apart 8 (some .int) 6 0 0 D K b0 N h [.ref x0, .int x1, .int x2, .int x3, .int x4, .int x5, .int x6] (zq (some (.int r)) N h2) := by
  refine zc.of [(0, .ref x0), (1, .int x1), (2, .int x2), (3, .int x3), (4, .int x4), (5, .int x5), (6, .int x6)] (by decide) rfl (Nat.le_of_ble_eq_true rfl) ?_
  intro p e s m args below meth c hB hnm hG ls hl
  exact w_X10_apart_0 (res := (r, h2)) hB _ _ ls h x0 x1 x2 x3 x4 x5 x6 hG (lv_sub hl [0, 1, 2, 3, 4, 5, 6] rfl) hf

section G_X10_byteAt
variable {p : Program} {l : Launch} {e : Env} {s : State} {m : MethodId} {args : Array Value} {below : List Frame} {meth : Method} {c : Code} {D : va_G} {K : Nat → ClassId} {b0 N : Nat}
set_option maxRecDepth 100000 in
set_option maxHeartbeats 4000000 in
theorem w_X10_byteAt_0 {res : (Int32 × zh_H)} (hB : zc_B p s m args meth c cX10_byteAt 2 RX10 (some .int) D K) : ∀ (H : Heap) (locs : List Loc) (ls : Array Slot) (h : zh_H) (x0 : Nat) (x1 : Int32), zh_G D K b0 N h s.heap H locs → lv_has ls 2 [(0, .ref x0), (1, .int x1)] → b_X10_byteAt_0 h x0 x1 = some res → W p l e (zc_rm 1 0 0) s m args below meth c H locs 0 0 (MQ below (zc_Q D K b0 (zq (some (.int res.1)) N res.2)) args s 0 0 (fun q => b0 ≤ q)) (F0 m 0 ls []) := by
  have hx := hB.1
  have hb := hB.2.1
  intro H locs ls h x0 x1 hG hl hf
  unfold b_X10_byteAt_0 at hf
  refine lv_aload_n hx hb dX10_byteAt_0 rfl (lv_at hl 0 rfl) ?_
  obtain ⟨a1, ea1, hf⟩ := zb hf
  refine zr_getR hB hG zF_10 (by decide) kf_X10_18 ea1 dX10_byteAt_1 ?_
  refine lv_iload_n hx hb dX10_byteAt_4 rfl (lv_at hl 1 rfl) ?_
  obtain ⟨o2, eo2, hf⟩ := zb hf
  obtain ⟨v4, h3, eh3, hf⟩ := zbp_s hf
  refine zr_callV (As := [.int x1]) kc_X10_138 hB hG (c_X0_get eh3) eo2 rfl hl.1 rfl ⟨by decide, by decide⟩ (Nat.le_of_ble_eq_true rfl) ⟨by decide, by decide⟩ dX10_byteAt_5 (fun H locs hG => ?_)
  obtain rfl := Option.some.inj hf
  exact zr_iret hB hG ⟨rfl, rfl, rfl⟩ dX10_byteAt_8
end G_X10_byteAt
theorem c_X10_byteAt {l : Launch} {D : va_G} {K : Nat → ClassId} {b0 N : Nat} {h : zh_H} {x0 : Nat} {x1 : Int32} {r : Int32} {h2 : zh_H} (hf : b_X10_byteAt_0 h x0 x1 = some (r, h2)) : zc l yX10_byteAt cX10_byteAt 2 (some .int) 1 0 0 D K b0 N h [.ref x0, .int x1] (zq (some (.int r)) N h2) := by
  refine zc.of [(0, .ref x0), (1, .int x1)] (by decide) rfl (Nat.le_of_ble_eq_true rfl) ?_
  intro p e s m args below meth c hB hnm hG ls hl
  exact w_X10_byteAt_0 (res := (r, h2)) hB _ _ ls h x0 x1 hG (lv_sub hl [0, 1] rfl) hf

section G_X10_byteOfWord
variable {p : Program} {l : Launch} {e : Env} {s : State} {m : MethodId} {args : Array Value} {below : List Frame} {meth : Method} {c : Code} {D : va_G} {K : Nat → ClassId} {b0 N : Nat}
set_option maxRecDepth 100000 in
set_option maxHeartbeats 4000000 in
theorem w_X10_byteOfWord_0 {res : (Int32 × zh_H)} (hB : zc_B p s m args meth c cX10_byteOfWord 3 RX10 (some .int) D K) : ∀ (H : Heap) (locs : List Loc) (ls : Array Slot) (h : zh_H) (x0 : Int64) (x2 : Int32), zh_G D K b0 N h s.heap H locs → lv_has ls 3 [(0, .long x0), (2, .int x2)] → b_X10_byteOfWord_0 h x0 x2 = some res → W p l e (zc_rm 0 0 0) s m args below meth c H locs 0 0 (MQ below (zc_Q D K b0 (zq (some (.int res.1)) N res.2)) args s 0 0 (fun q => b0 ≤ q)) (F0 m 0 ls []) := by
  have hx := hB.1
  have hb := hB.2.1
  intro H locs ls h x0 x2 hG hl hf
  unfold b_X10_byteOfWord_0 at hf
  refine lv_lload_n hx hb dX10_byteOfWord_0 rfl (lv_at hl 0 rfl) ?_
  refine lv_bipush (v := 8) hx hb dX10_byteOfWord_1 (by decide) ?_
  refine lv_iload_n hx hb dX10_byteOfWord_3 rfl (lv_at hl 1 rfl) ?_
  refine lv_imul hx hb dX10_byteOfWord_4 ?_
  refine lv_lushr hx hb dX10_byteOfWord_5 rfl ?_
  refine lv_l2i hx hb dX10_byteOfWord_6 rfl ?_
  refine lv_sipush (v := 255) hx hb dX10_byteOfWord_7 (by decide) ?_
  refine lv_iand hx hb dX10_byteOfWord_10 ?_
  obtain rfl := Option.some.inj hf
  exact zr_iret hB hG ⟨rfl, rfl, rfl⟩ dX10_byteOfWord_11
end G_X10_byteOfWord
theorem c_X10_byteOfWord {l : Launch} {D : va_G} {K : Nat → ClassId} {b0 N : Nat} {h : zh_H} {x0 : Int64} {x2 : Int32} {r : Int32} {h2 : zh_H} (hf : b_X10_byteOfWord_0 h x0 x2 = some (r, h2)) : zc l yX10_byteOfWord cX10_byteOfWord 3 (some .int) 0 0 0 D K b0 N h [.long x0, .int x2] (zq (some (.int r)) N h2) := by
  refine zc.of [(0, .long x0), (2, .int x2)] (by decide) rfl (Nat.le_of_ble_eq_true rfl) ?_
  intro p e s m args below meth c hB hnm hG ls hl
  exact w_X10_byteOfWord_0 (res := (r, h2)) hB _ _ ls h x0 x2 hG (lv_sub hl [0, 1] rfl) hf

section G_X1_keep
variable {p : Program} {l : Launch} {e : Env} {s : State} {m : MethodId} {args : Array Value} {below : List Frame} {meth : Method} {c : Code} {D : va_G} {K : Nat → ClassId} {b0 N : Nat}
set_option maxRecDepth 100000 in
set_option maxHeartbeats 4000000 in
theorem w_X1_keep_21 {res : zh_H} (hB : zc_B p s m args meth c cX1_keep 2 RX1 none D K) : ∀ (H : Heap) (locs : List Loc) (ls : Array Slot) (h : zh_H) (x0 : Nat) (x1 : Nat) (y0 : Int32) (y1 : Nat), zh_G D K b0 N h s.heap H locs → lv_has ls 2 [(0, .ref x0), (1, .ref x1)] → b_X1_keep_21 h x0 x1 y0 y1 = some res → W p l e (zc_rm 3 0 0) s m args below meth c H locs 0 0 (MQ below (zc_Q D K b0 (zq none N res)) args s 0 0 (fun q => b0 ≤ q)) (F0 m 21 ls [.int y0, .ref y1]) := by
  have hx := hB.1
  have hb := hB.2.1
  intro H locs ls h x0 x1 y0 y1 hG hl hf
  unfold b_X1_keep_21 at hf
  obtain ⟨h1, eh1, hf⟩ := zb hf
  refine zr_put hB hG zF_1 (by decide) kf_X1_20 rfl rfl rfl eh1 dX1_keep_21 (fun H locs hG => ?_)
  refine lv_aload_n hx hb dX1_keep_24 rfl (lv_at hl 0 rfl) ?_
  obtain ⟨a2, ea2, hf⟩ := zb hf
  refine zr_getR hB hG zF_1 (by decide) kf_X1_11 ea2 dX1_keep_25 ?_
  refine lv_aload_n hx hb dX1_keep_28 rfl (lv_at hl 0 rfl) ?_
  obtain ⟨v3, ev3, hf⟩ := zb hf
  refine zr_getI hB hG zF_1 (by decide) kf_X1_20 ev3 dX1_keep_29 ?_
  obtain ⟨a4, ea4, hf⟩ := zb hf
  refine zr_aald ⟨_, rfl⟩ hB hG ea4 dX1_keep_32 ?_
  refine lv_aload_n hx hb dX1_keep_33 rfl (lv_at hl 1 rfl) ?_
  obtain ⟨o5, eo5, hf⟩ := zb hf
  obtain ⟨h6, eh6, hf⟩ := zb hf
  refine zr_callVv (As := [.ref x1]) kc_X1_24 hB hG (c_X0_copyFrom eh6) eo5 rfl hl.1 rfl ⟨by decide, by decide⟩ (Nat.le_of_ble_eq_true rfl) ⟨by decide, by decide⟩ dX1_keep_34 (fun H locs hG => ?_)
  refine lv_aload_n hx hb dX1_keep_37 rfl (lv_at hl 0 rfl) ?_
  refine lv_aload_n hx hb dX1_keep_38 rfl (lv_at hl 0 rfl) ?_
  obtain ⟨v7, ev7, hf⟩ := zb hf
  refine zr_getI hB hG zF_1 (by decide) kf_X1_28 ev7 dX1_keep_39 ?_
  refine lv_iconst (v := 1) hx hb dX1_keep_42 (by decide) ?_
  refine lv_iadd hx hb dX1_keep_43 ?_
  refine lv_iconst (v := 5) hx hb dX1_keep_44 (by decide) ?_
  refine zr_min km_X1_31 k_min k_Mi k_minc hl.1 hB dX1_keep_45 (by decide) (Nat.le_of_ble_eq_true rfl) ⟨by decide, by decide⟩ ?_
  obtain ⟨h8, eh8, hf⟩ := zb hf
  refine zr_put hB hG zF_1 (by decide) kf_X1_28 rfl rfl rfl eh8 dX1_keep_48 (fun H locs hG => ?_)
  obtain rfl := Option.some.inj hf
  exact zr_vret hB hG ⟨rfl, rfl, rfl⟩ dX1_keep_51

set_option maxRecDepth 100000 in
set_option maxHeartbeats 4000000 in
theorem w_X1_keep_0 {res : zh_H} (hB : zc_B p s m args meth c cX1_keep 2 RX1 none D K) : ∀ (H : Heap) (locs : List Loc) (ls : Array Slot) (h : zh_H) (x0 : Nat) (x1 : Nat), zh_G D K b0 N h s.heap H locs → lv_has ls 2 [(0, .ref x0), (1, .ref x1)] → b_X1_keep_0 h x0 x1 = some res → W p l e (zc_rm 3 0 0) s m args below meth c H locs 0 0 (MQ below (zc_Q D K b0 (zq none N res)) args s 0 0 (fun q => b0 ≤ q)) (F0 m 0 ls []) := by
  have hx := hB.1
  have hb := hB.2.1
  intro H locs ls h x0 x1 hG hl hf
  unfold b_X1_keep_0 at hf
  refine lv_aload_n hx hb dX1_keep_0 rfl (lv_at hl 0 rfl) ?_
  refine lv_aload_n hx hb dX1_keep_1 rfl (lv_at hl 0 rfl) ?_
  obtain ⟨v1, ev1, hf⟩ := zb hf
  refine zr_getI hB hG zF_1 (by decide) kf_X1_20 ev1 dX1_keep_2 ?_
  refine lv_iconst (v := 1) hx hb dX1_keep_5 (by decide) ?_
  refine lv_iadd hx hb dX1_keep_6 ?_
  refine lv_iconst (v := 5) hx hb dX1_keep_7 (by decide) ?_
  refine lv_icmp_ge (tgt := 20) hx hb dX1_keep_8 (by decide) (fun hc3 => ?_) (fun hc3 => ?_)
  · rw [if_pos hc3] at hf
    refine lv_iconst (v := 0) hx hb dX1_keep_20 (by decide) ?_
    exact w_X1_keep_21 hB _ _ _ h (x0) (x1) ((0 : Int32)) (x0) hG (lv_sub hl [0, 1] rfl) hf
  · rw [if_neg hc3] at hf
    refine lv_aload_n hx hb dX1_keep_11 rfl (lv_at hl 0 rfl) ?_
    obtain ⟨v2, ev2, hf⟩ := zb hf
    refine zr_getI hB hG zF_1 (by decide) kf_X1_20 ev2 dX1_keep_12 ?_
    refine lv_iconst (v := 1) hx hb dX1_keep_15 (by decide) ?_
    refine lv_iadd hx hb dX1_keep_16 ?_
    refine lv_goto (tgt := 21) hx hb dX1_keep_17 (by decide) ?_
    exact w_X1_keep_21 hB _ _ _ h (x0) (x1) ((v2 + (1 : Int32))) (x0) hG (lv_sub hl [0, 1] rfl) hf
end G_X1_keep
theorem c_X1_keep {l : Launch} {D : va_G} {K : Nat → ClassId} {b0 N : Nat} {h : zh_H} {x0 : Nat} {x1 : Nat} {h2 : zh_H} (hf : b_X1_keep_0 h x0 x1 = some h2) : zc l yX1_keep cX1_keep 2 none 3 0 0 D K b0 N h [.ref x0, .ref x1] (zq none N h2) := by
  refine zc.of [(0, .ref x0), (1, .ref x1)] (by decide) rfl (Nat.le_of_ble_eq_true rfl) ?_
  intro p e s m args below meth c hB hnm hG ls hl
  exact w_X1_keep_0 (res := h2) hB _ _ ls h x0 x1 hG (lv_sub hl [0, 1] rfl) hf

section G_X10_cut
variable {p : Program} {l : Launch} {e : Env} {s : State} {m : MethodId} {args : Array Value} {below : List Frame} {meth : Method} {c : Code} {D : va_G} {K : Nat → ClassId} {b0 N : Nat}
set_option maxRecDepth 100000 in
set_option maxHeartbeats 4000000 in
theorem w_X10_cut_0 {res : (Int32 × zh_H)} (hB : zc_B p s m args meth c cX10_cut 3 RX10 (some .int) D K) : ∀ (H : Heap) (locs : List Loc) (ls : Array Slot) (h : zh_H) (x0 : Nat) (x1 : Int32) (x2 : Int32), zh_G D K b0 N h s.heap H locs → lv_has ls 3 [(0, .ref x0), (1, .int x1), (2, .int x2)] → b_X10_cut_0 h x0 x1 x2 = some res → W p l e (zc_rm 4 0 0) s m args below meth c H locs 0 0 (MQ below (zc_Q D K b0 (zq (some (.int res.1)) N res.2)) args s 0 0 (fun q => b0 ≤ q)) (F0 m 0 ls []) := by
  have hx := hB.1
  have hb := hB.2.1
  intro H locs ls h x0 x1 x2 hG hl hf
  unfold b_X10_cut_0 at hf
  refine lv_aload_n hx hb dX10_cut_0 rfl (lv_at hl 0 rfl) ?_
  obtain ⟨a1, ea1, hf⟩ := zb hf
  refine zr_getR hB hG zF_10 (by decide) kf_X10_18 ea1 dX10_cut_1 ?_
  refine lv_iload_n hx hb dX10_cut_4 rfl (lv_at hl 1 rfl) ?_
  refine lv_iload_n hx hb dX10_cut_5 rfl (lv_at hl 2 rfl) ?_
  obtain ⟨o2, eo2, hf⟩ := zb hf
  obtain ⟨v4, h3, eh3, hf⟩ := zbp_s hf
  refine zr_callV (As := [.int x1, .int x2]) kc_X10_127 hB hG (c_X0_isPart eh3) eo2 rfl hl.1 rfl ⟨by decide, by decide⟩ (Nat.le_of_ble_eq_true rfl) ⟨by decide, by decide⟩ dX10_cut_6 (fun H locs hG => ?_)
  refine lv_if_ne (tgt := 15) hx hb dX10_cut_9 (by decide) (fun hc14 => ?_) (fun hc14 => ?_)
  · rw [if_neg hc14] at hf
    refine lv_aload_n hx hb dX10_cut_15 rfl (lv_at hl 0 rfl) ?_
    obtain ⟨a5, ea5, hf⟩ := zb hf
    refine zr_getR hB hG zF_10 (by decide) kf_X10_27 ea5 dX10_cut_16 ?_
    refine lv_aload_n hx hb dX10_cut_19 rfl (lv_at hl 0 rfl) ?_
    obtain ⟨a6, ea6, hf⟩ := zb hf
    refine zr_getR hB hG zF_10 (by decide) kf_X10_18 ea6 dX10_cut_20 ?_
    obtain ⟨o7, eo7, hf⟩ := zb hf
    obtain ⟨h8, eh8, hf⟩ := zb hf
    refine zr_callVv (As := [.ref a6]) kc_X10_120 hB hG (c_X1_keep eh8) eo7 rfl hl.1 rfl ⟨by decide, by decide⟩ (Nat.le_of_ble_eq_true rfl) ⟨by decide, by decide⟩ dX10_cut_23 (fun H locs hG => ?_)
    refine lv_aload_n hx hb dX10_cut_26 rfl (lv_at hl 0 rfl) ?_
    obtain ⟨a9, ea9, hf⟩ := zb hf
    refine zr_getR hB hG zF_10 (by decide) kf_X10_18 ea9 dX10_cut_27 ?_
    refine lv_iload_n hx hb dX10_cut_30 rfl (lv_at hl 1 rfl) ?_
    refine lv_iload_n hx hb dX10_cut_31 rfl (lv_at hl 2 rfl) ?_
    obtain ⟨o10, eo10, hf⟩ := zb hf
    obtain ⟨h11, eh11, hf⟩ := zb hf
    refine zr_callVv (As := [.int x1, .int x2]) kc_X10_130 hB hG (c_X0_takeOut eh11) eo10 rfl hl.1 rfl ⟨by decide, by decide⟩ (Nat.le_of_ble_eq_true rfl) ⟨by decide, by decide⟩ dX10_cut_32 (fun H locs hG => ?_)
    refine lv_aload_n hx hb dX10_cut_35 rfl (lv_at hl 0 rfl) ?_
    obtain ⟨a12, ea12, hf⟩ := zb hf
    refine zr_getR hB hG zF_10 (by decide) kf_X10_18 ea12 dX10_cut_36 ?_
    obtain ⟨v13, ev13, hf⟩ := zb hf
    refine zr_getI hB hG zF_0 (by decide) kf_X10_85 ev13 dX10_cut_39 ?_
    obtain rfl := Option.some.inj hf
    exact zr_iret hB hG ⟨rfl, rfl, rfl⟩ dX10_cut_42
  · rw [if_pos hc14] at hf
    refine lv_bipush (v := -2) hx hb dX10_cut_12 (by decide) ?_
    obtain rfl := Option.some.inj hf
    exact zr_iret hB hG ⟨rfl, rfl, rfl⟩ dX10_cut_14
end G_X10_cut
theorem c_X10_cut {l : Launch} {D : va_G} {K : Nat → ClassId} {b0 N : Nat} {h : zh_H} {x0 : Nat} {x1 : Int32} {x2 : Int32} {r : Int32} {h2 : zh_H} (hf : b_X10_cut_0 h x0 x1 x2 = some (r, h2)) : zc l yX10_cut cX10_cut 3 (some .int) 4 0 0 D K b0 N h [.ref x0, .int x1, .int x2] (zq (some (.int r)) N h2) := by
  refine zc.of [(0, .ref x0), (1, .int x1), (2, .int x2)] (by decide) rfl (Nat.le_of_ble_eq_true rfl) ?_
  intro p e s m args below meth c hB hnm hG ls hl
  exact w_X10_cut_0 (res := (r, h2)) hB _ _ ls h x0 x1 x2 hG (lv_sub hl [0, 1, 2] rfl) hf

section G_X6_number
variable {p : Program} {l : Launch} {e : Env} {s : State} {m : MethodId} {args : Array Value} {below : List Frame} {meth : Method} {c : Code} {D : va_G} {K : Nat → ClassId} {b0 N : Nat}
set_option maxRecDepth 100000 in
set_option maxHeartbeats 4000000 in
theorem w_X6_number_0 {res : (Int32 × zh_H)} (hB : zc_B p s m args meth c cX6_number 2 RX6 (some .int) D K) : ∀ (H : Heap) (locs : List Loc) (ls : Array Slot) (h : zh_H) (x0 : Int32) (x1 : Int32), zh_G D K b0 N h s.heap H locs → lv_has ls 2 [(0, .int x0), (1, .int x1)] → b_X6_number_0 h x0 x1 = some res → W p l e (zc_rm 0 0 0) s m args below meth c H locs 0 0 (MQ below (zc_Q D K b0 (zq (some (.int res.1)) N res.2)) args s 0 0 (fun q => b0 ≤ q)) (F0 m 0 ls []) := by
  have hx := hB.1
  have hb := hB.2.1
  intro H locs ls h x0 x1 hG hl hf
  unfold b_X6_number_0 at hf
  refine lv_iload_n hx hb dX6_number_0 rfl (lv_at hl 0 rfl) ?_
  refine lv_sipush (v := 2048) hx hb dX6_number_1 (by decide) ?_
  refine lv_imul hx hb dX6_number_4 ?_
  refine lv_sipush (v := 2047) hx hb dX6_number_5 (by decide) ?_
  refine lv_iload_n hx hb dX6_number_8 rfl (lv_at hl 1 rfl) ?_
  refine lv_isub hx hb dX6_number_9 ?_
  refine lv_iadd hx hb dX6_number_10 ?_
  obtain rfl := Option.some.inj hf
  exact zr_iret hB hG ⟨rfl, rfl, rfl⟩ dX6_number_11
end G_X6_number
theorem c_X6_number {l : Launch} {D : va_G} {K : Nat → ClassId} {b0 N : Nat} {h : zh_H} {x0 : Int32} {x1 : Int32} {r : Int32} {h2 : zh_H} (hf : b_X6_number_0 h x0 x1 = some (r, h2)) : zc l yX6_number cX6_number 2 (some .int) 0 0 0 D K b0 N h [.int x0, .int x1] (zq (some (.int r)) N h2) := by
  refine zc.of [(0, .int x0), (1, .int x1)] (by decide) rfl (Nat.le_of_ble_eq_true rfl) ?_
  intro p e s m args below meth c hB hnm hG ls hl
  exact w_X6_number_0 (res := (r, h2)) hB _ _ ls h x0 x1 hG (lv_sub hl [0, 1] rfl) hf

section G_X6_closeAbove
variable {p : Program} {l : Launch} {e : Env} {s : State} {m : MethodId} {args : Array Value} {below : List Frame} {meth : Method} {c : Code} {D : va_G} {K : Nat → ClassId} {b0 N : Nat}
set_option maxRecDepth 100000 in
set_option maxHeartbeats 4000000 in
theorem w_X6_closeAbove_18 {res : zh_H} (hB : zc_B p s m args meth c cX6_closeAbove 2 RX6 none D K) : ∀ (H : Heap) (locs : List Loc) (ls : Array Slot) (h : zh_H), zh_G D K b0 N h s.heap H locs → lv_has ls 2 [] → b_X6_closeAbove_18 h  = some res → W p l e (zc_rm 0 0 0) s m args below meth c H locs 0 0 (MQ below (zc_Q D K b0 (zq none N res)) args s 0 0 (fun q => b0 ≤ q)) (F0 m 18 ls []) := by
  have hx := hB.1
  have hb := hB.2.1
  intro H locs ls h  hG hl hf
  unfold b_X6_closeAbove_18 at hf
  obtain rfl := Option.some.inj hf
  exact zr_vret hB hG ⟨rfl, rfl, rfl⟩ dX6_closeAbove_18

set_option maxRecDepth 100000 in
set_option maxHeartbeats 4000000 in
theorem w_X6_closeAbove_0 {res : zh_H} (hB : zc_B p s m args meth c cX6_closeAbove 2 RX6 none D K) : ∀ (H : Heap) (locs : List Loc) (ls : Array Slot) (h : zh_H) (x0 : Nat) (x1 : Int32), zh_G D K b0 N h s.heap H locs → lv_has ls 2 [(0, .ref x0), (1, .int x1)] → b_X6_closeAbove_0 h x0 x1 = some res → W p l e (zc_rm 0 0 0) s m args below meth c H locs 0 0 (MQ below (zc_Q D K b0 (zq none N res)) args s 0 0 (fun q => b0 ≤ q)) (F0 m 0 ls []) := by
  have hx := hB.1
  have hb := hB.2.1
  intro H locs ls h x0 x1 hG hl hf
  unfold b_X6_closeAbove_0 at hf
  refine lv_iload_n hx hb dX6_closeAbove_0 rfl (lv_at hl 1 rfl) ?_
  refine lv_aload_n hx hb dX6_closeAbove_1 rfl (lv_at hl 0 rfl) ?_
  obtain ⟨v1, ev1, hf⟩ := zb hf
  refine zr_getI hB hG zF_6 (by decide) kf_X6_43 ev1 dX6_closeAbove_2 ?_
  refine lv_icmp_ge (tgt := 18) hx hb dX6_closeAbove_5 (by decide) (fun hc4 => ?_) (fun hc4 => ?_)
  · rw [if_pos hc4] at hf
    exact w_X6_closeAbove_18 hB _ _ _ h  hG (lv_sub hl [] rfl) hf
  · rw [if_neg hc4] at hf
    refine lv_aload_n hx hb dX6_closeAbove_8 rfl (lv_at hl 0 rfl) ?_
    obtain ⟨a2, ea2, hf⟩ := zb hf
    refine zr_getR hB hG zF_6 (by decide) kf_X6_20 ea2 dX6_closeAbove_9 ?_
    refine lv_iload_n hx hb dX6_closeAbove_12 rfl (lv_at hl 1 rfl) ?_
    refine lv_iconst (v := 1) hx hb dX6_closeAbove_13 (by decide) ?_
    refine lv_iadd hx hb dX6_closeAbove_14 ?_
    refine lv_ldc (v := 268435456) hx hb hB.2.2.2.1 (hB.2.2.2.2.1 _ (zin kk_X6_82 rfl)) dX6_closeAbove_15 ?_
    obtain ⟨h3, eh3, hf⟩ := zb hf
    refine zr_iast hB hG eh3 dX6_closeAbove_17 (fun H locs hG => ?_)
    exact w_X6_closeAbove_18 hB _ _ _ h3  hG (lv_sub hl [] rfl) hf
end G_X6_closeAbove
theorem c_X6_closeAbove {l : Launch} {D : va_G} {K : Nat → ClassId} {b0 N : Nat} {h : zh_H} {x0 : Nat} {x1 : Int32} {h2 : zh_H} (hf : b_X6_closeAbove_0 h x0 x1 = some h2) : zc l yX6_closeAbove cX6_closeAbove 2 none 0 0 0 D K b0 N h [.ref x0, .int x1] (zq none N h2) := by
  refine zc.of [(0, .ref x0), (1, .int x1)] (by decide) rfl (Nat.le_of_ble_eq_true rfl) ?_
  intro p e s m args below meth c hB hnm hG ls hl
  exact w_X6_closeAbove_0 (res := h2) hB _ _ ls h x0 x1 hG (lv_sub hl [0, 1] rfl) hf

section G_X6_restart
variable {p : Program} {l : Launch} {e : Env} {s : State} {m : MethodId} {args : Array Value} {below : List Frame} {meth : Method} {c : Code} {D : va_G} {K : Nat → ClassId} {b0 N : Nat}
set_option maxRecDepth 100000 in
set_option maxHeartbeats 4000000 in
theorem w_X6_restart_31 {res : zh_H} (hB : zc_B p s m args meth c cX6_restart 3 RX6 none D K) : ∀ n : Nat, ∀ (H : Heap) (locs : List Loc) (ls : Array Slot) (h : zh_H) (x0 : Nat) (x1 : Int32) (x2 : Int32), zh_G D K b0 N h s.heap H locs → lv_has ls 3 [(0, .ref x0), (1, .int x1), (2, .int x2)] → b_X6_restart_31 n h x0 x1 x2 = some res → W p l e (zc_rm 1 0 0) s m args below meth c H locs 0 0 (MQ below (zc_Q D K b0 (zq none N res)) args s 0 0 (fun q => b0 ≤ q)) (F0 m 31 ls []) := by
  have hx := hB.1
  have hb := hB.2.1
  intro n
  induction n with
  | zero =>
    intro H locs ls h x0 x1 x2 hG hl hf
    cases hf
  | succ n ih =>
    intro H locs ls h x0 x1 x2 hG hl hf
    unfold b_X6_restart_31 at hf
    refine lv_iload_n hx hb dX6_restart_31 rfl (lv_at hl 2 rfl) ?_
    refine lv_aload_n hx hb dX6_restart_32 rfl (lv_at hl 0 rfl) ?_
    obtain ⟨v1, ev1, hf⟩ := zb hf
    refine zr_getI hB hG zF_6 (by decide) kf_X6_62 ev1 dX6_restart_33 ?_
    refine lv_icmp_gt (tgt := 56) hx hb dX6_restart_36 (by decide) (fun hc9 => ?_) (fun hc9 => ?_)
    · rw [if_pos hc9] at hf
      refine lv_aload_n hx hb dX6_restart_56 rfl (lv_at hl 0 rfl) ?_
      refine lv_aload_n hx hb dX6_restart_57 rfl (lv_at hl 0 rfl) ?_
      obtain ⟨v2, ev2, hf⟩ := zb hf
      refine zr_getI hB hG zF_6 (by decide) kf_X6_62 ev2 dX6_restart_58 ?_
      obtain ⟨o3, eo3, hf⟩ := zb hf
      obtain ⟨h4, eh4, hf⟩ := zb hf
      refine zr_callVv (As := [.int v2]) kc_X6_68 hB hG (c_X6_closeAbove eh4) eo3 rfl hl.1 rfl ⟨by decide, by decide⟩ (Nat.le_of_ble_eq_true rfl) ⟨by decide, by decide⟩ dX6_restart_61 (fun H locs hG => ?_)
      obtain rfl := Option.some.inj hf
      exact zr_vret hB hG ⟨rfl, rfl, rfl⟩ dX6_restart_64
    · rw [if_neg hc9] at hf
      refine lv_aload_n hx hb dX6_restart_39 rfl (lv_at hl 0 rfl) ?_
      obtain ⟨a5, ea5, hf⟩ := zb hf
      refine zr_getR hB hG zF_6 (by decide) kf_X6_20 ea5 dX6_restart_40 ?_
      refine lv_iload_n hx hb dX6_restart_43 rfl (lv_at hl 2 rfl) ?_
      refine lv_iload_n hx hb dX6_restart_44 rfl (lv_at hl 2 rfl) ?_
      refine lv_iload_n hx hb dX6_restart_45 rfl (lv_at hl 1 rfl) ?_
      obtain ⟨v7, h6, eh6, hf⟩ := zbp_s hf
      refine zr_callS (As := [.int x2, .int x1]) kc_X6_65 hB hG (c_X6_number eh6) rfl hl.1 rfl ⟨by decide, by decide⟩ (Nat.le_of_ble_eq_true rfl) ⟨by decide, by decide⟩ dX6_restart_46 (fun H locs hG => ?_)
      obtain ⟨h8, eh8, hf⟩ := zb hf
      refine zr_iast hB hG eh8 dX6_restart_49 (fun H locs hG => ?_)
      refine lv_iinc (v := (x2 + (1 : Int32))) (lv' := [(2, .int (x2 + (1 : Int32))), (0, .ref x0), (1, .int x1)]) hx hb dX6_restart_50 hl (k := 2) rfl rfl (by decide) rfl (fun ls hl => ?_)
      refine lv_goto (tgt := 31) hx hb dX6_restart_53 (by decide) ?_
      exact ih _ _ _ h8 (x0) (x1) ((x2 + (1 : Int32))) hG (lv_sub hl [1, 2, 0] rfl) hf

set_option maxRecDepth 100000 in
set_option maxHeartbeats 4000000 in
theorem w_X6_restart_0 {res : zh_H} (hB : zc_B p s m args meth c cX6_restart 3 RX6 none D K) : ∀ (H : Heap) (locs : List Loc) (ls : Array Slot) (h : zh_H) (x0 : Nat) (x1 : Int32), zh_G D K b0 N h s.heap H locs → lv_has ls 3 [(0, .ref x0), (1, .int x1)] → b_X6_restart_0 h x0 x1 = some res → W p l e (zc_rm 1 0 0) s m args below meth c H locs 0 0 (MQ below (zc_Q D K b0 (zq none N res)) args s 0 0 (fun q => b0 ≤ q)) (F0 m 0 ls []) := by
  have hx := hB.1
  have hb := hB.2.1
  intro H locs ls h x0 x1 hG hl hf
  unfold b_X6_restart_0 at hf
  refine lv_aload_n hx hb dX6_restart_0 rfl (lv_at hl 0 rfl) ?_
  refine lv_iload_n hx hb dX6_restart_1 rfl (lv_at hl 1 rfl) ?_
  obtain ⟨h1, eh1, hf⟩ := zb hf
  refine zr_put hB hG zF_6 (by decide) kf_X6_53 rfl rfl rfl eh1 dX6_restart_2 (fun H locs hG => ?_)
  refine lv_aload_n hx hb dX6_restart_5 rfl (lv_at hl 0 rfl) ?_
  refine lv_iconst (v := 0) hx hb dX6_restart_6 (by decide) ?_
  obtain ⟨h2, eh2, hf⟩ := zb hf
  refine zr_put hB hG zF_6 (by decide) kf_X6_56 rfl rfl rfl eh2 dX6_restart_7 (fun H locs hG => ?_)
  refine lv_aload_n hx hb dX6_restart_10 rfl (lv_at hl 0 rfl) ?_
  refine lv_iconst (v := 0) hx hb dX6_restart_11 (by decide) ?_
  refine lv_aload_n hx hb dX6_restart_12 rfl (lv_at hl 0 rfl) ?_
  obtain ⟨v3, ev3, hf⟩ := zb hf
  refine zr_getI hB hG zF_6 (by decide) kf_X6_43 ev3 dX6_restart_13 ?_
  refine lv_aload_n hx hb dX6_restart_16 rfl (lv_at hl 0 rfl) ?_
  obtain ⟨v4, ev4, hf⟩ := zb hf
  refine zr_getI hB hG zF_6 (by decide) kf_X6_46 ev4 dX6_restart_17 ?_
  refine zr_min km_X6_37 k_min k_Mi k_minc hl.1 hB dX6_restart_20 (by decide) (Nat.le_of_ble_eq_true rfl) ⟨by decide, by decide⟩ ?_
  refine zr_max km_X6_59 k_max k_Mi k_maxc hl.1 hB dX6_restart_23 (by decide) (Nat.le_of_ble_eq_true rfl) ⟨by decide, by decide⟩ ?_
  obtain ⟨h5, eh5, hf⟩ := zb hf
  refine zr_put hB hG zF_6 (by decide) kf_X6_62 rfl rfl rfl eh5 dX6_restart_26 (fun H locs hG => ?_)
  refine lv_iconst (v := 0) hx hb dX6_restart_29 (by decide) ?_
  refine lv_istore_n (lv' := [(2, .int (0 : Int32)), (0, .ref x0), (1, .int x1)]) hx hb dX6_restart_30 rfl hl (by decide) rfl (fun ls hl => ?_)
  exact w_X6_restart_31 hB zFuel _ _ _ h5 (x0) (x1) ((0 : Int32)) hG (lv_sub hl [1, 2, 0] rfl) hf
end G_X6_restart
theorem c_X6_restart {l : Launch} {D : va_G} {K : Nat → ClassId} {b0 N : Nat} {h : zh_H} {x0 : Nat} {x1 : Int32} {h2 : zh_H} (hf : b_X6_restart_0 h x0 x1 = some h2) : zc l yX6_restart cX6_restart 3 none 1 0 0 D K b0 N h [.ref x0, .int x1] (zq none N h2) := by
  refine zc.of [(0, .ref x0), (1, .int x1)] (by decide) rfl (Nat.le_of_ble_eq_true rfl) ?_
  intro p e s m args below meth c hB hnm hG ls hl
  exact w_X6_restart_0 (res := h2) hB _ _ ls h x0 x1 hG (lv_sub hl [0, 1] rfl) hf

